/-! WHO MAY HAVE BEEN SEEN, and the flue that parts them -/
theorem ne_45a (k : sg_S → Int → Int → Int → Int → Int) (t : sg_S) (kd l2 x z : Int) (n : Nat) : ∀ l6 : Int, t 234 31 - l6 < (n : Int) → 0 < n → dc_R_next_45 k n t kd l2 x z 0 l6 = k t kd l2 (sy_or x 0) (z + 1) := by
  induction n with
  | zero => intro l6 _ hn; exact absurd hn (by omega)
  | succ n ih =>
    intro l6 hl _
    rw [dc_R_next_45_s]
    by_cases c : t 234 31 ≤ l6
    · rw [if_pos c, if_pos rfl]
    · rw [if_neg c, if_pos rfl]
      exact ih (l6 + 1) (by omega) (by omega)
theorem ne_45 {s t : sg_S} (ht : sv t) (e : s 217 3 = t 234 31) (h : r3 s t) (k : sg_S → Int → Int → Int → Int → Int) (kd l2 x z : Int) (n : Nat) : ∀ l6 : Int, 0 ≤ l6 → t 234 31 - l6 < (n : Int) → 0 < n → dc_R_next_45 k n t kd l2 x z 1 l6 = if dc_Sights_allow_2 n s kd (dc_R_sootOf t z) l6 = 0 then k t kd l2 (sy_or x 0) (z + 1) else k t kd l2 (sy_or x (sy_shl 1 z)) (z + 1) := by
  have b := sv_bd ht (a := 234) (k := 31) rfl (by decide) rfl
  induction n with
  | zero => intro l6 _ _ hn; exact absurd hn (by omega)
  | succ n ih =>
    intro l6 l0 hl _
    rw [dc_R_next_45_s, dc_Sights_allow_2_s, e]
    by_cases c : t 234 31 ≤ l6
    · rw [if_pos c, if_neg (by decide), if_pos c, if_neg (by decide)]
    · have q := h.1 l6.toNat (by omega)
      rw [if_neg c, if_neg (show ¬ (1 : Int) = 0 by decide), if_neg c, if_neg (show ¬ 6 ≤ l6 by omega), q.1, q.2.1, q.2.2.1]
      have i := ih (l6 + 1) (by omega) (by omega) (by omega)
      have i0 := ne_45a k t kd l2 x z n (l6 + 1) (by omega) (by omega)
      by_cases p : t 250 l6.toNat = kd
      · rw [if_pos p, if_pos p]
        unfold dc_R_has
        by_cases w : sy_and (sy_shr (dc_R_sootOf t z) (t 249 l6.toNat)) 1 = 1
        · rw [if_pos w, if_pos w]
          by_cases v : 1 = t 251 l6.toNat
          · rw [if_pos v, if_pos v]; exact i
          · rw [if_neg v, if_neg v, if_pos rfl]; exact i0
        · rw [if_neg w, if_neg w]
          by_cases v : 0 = t 251 l6.toNat
          · rw [if_pos v, if_pos v]; exact i
          · rw [if_neg v, if_neg v, if_pos rfl]; exact i0
      · rw [if_neg p, if_neg p]; exact i
theorem su_30 {s t : sg_S} (ht : sv t) (g : t 234 6 ≤ 0 ∨ t 235 11 = -1) (e : s 217 3 = t 234 31) (h2 : r2 s t) (h : r3 s t) (kd l2 : Int) (n : Nat) : ∀ (m : Nat) (x z : Int), 0 ≤ x → x ≤ 511 → 0 ≤ z → z ≤ t 234 6 → t 234 6 - z < (n : Int) → t 234 6 - z < (m : Int) → (0 ≤ dc_C_suspects_4 n s kd x z ∧ dc_C_suspects_4 n s kd x z ≤ 511) ∧ dc_R_next_30 m t kd l2 x z = if l2 = 0 then dc_C_suspects_4 n s kd x z else dc_R_next_149 10 t (dc_C_suspects_4 n s kd x z) (-1) (dc_R_ones t (dc_C_suspects_4 n s kd x z)) 0 := by
  have b9 := (st_b_of ht).2.1
  have b := sv_bd ht (a := 234) (k := 31) rfl (by decide) rfl
  induction n with
  | zero => intro m x z _ _ _ _ hn _; exact absurd hn (by omega)
  | succ n ih =>
    intro m x z x0 x1 z0 z1 hn hm
    cases m with
    | zero => exact absurd hm (by omega)
    | succ m =>
      rw [dc_C_suspects_4_s, dc_R_next_30_s, r2_houses h2]
      by_cases c : t 234 6 ≤ z
      · simp only [if_pos c]
        exact ⟨⟨x0, x1⟩, trivial⟩
      · simp only [if_neg c]
        have hs := sg_shl9 z z0 (by omega)
        have ho := sg_or9 x (sy_shl 1 z) x0 x1 (by omega) (by omega)
        have k := ne_45 ht e h (dc_R_next_30 m) kd l2 x z 7 0 (by omega) (by omega) (by omega)
        rw [k, an_reach ht g h2 z0 (by omega)]
        unfold dc_Sights_allow
        by_cases w : dc_Sights_allow_2 7 s kd (dc_R_sootOf t z) 0 = 0
        · simp only [if_pos w]
          rw [yo_0 ⟨by omega, by omega⟩]
          exact ih m x (z + 1) x0 x1 (by omega) (by omega) (by omega) (by omega)
        · simp only [if_neg w]
          exact ih m _ (z + 1) ho.1 ho.2 (by omega) (by omega) (by omega) (by omega)
theorem pf_164 {s t : sg_S} (ht : sv t) (g : t 234 6 ≤ 0 ∨ t 235 11 = -1) (h2 : r2 s t) (k : sg_S → Int → Int → Int → Int → Int) (x bst le f : Int) (f0 : 0 ≤ f) (f1 : f ≤ 8) (n : Nat) : ∀ cnt z : Int, 0 ≤ z → z ≤ t 234 6 → t 234 6 - z < (n : Int) → dc_R_next_164 k n t x bst le f cnt z = if le ≤ max (dc_C_howManyReach_5 n s f x cnt z) (dc_R_ones t x - dc_C_howManyReach_5 n s f x cnt z) then k t x bst le (f + 1) else k t x f (max (dc_C_howManyReach_5 n s f x cnt z) (dc_R_ones t x - dc_C_howManyReach_5 n s f x cnt z)) (f + 1) := by
  have b9 := (st_b_of ht).2.1
  induction n with
  | zero => intro cnt z _ _ hn; exact absurd hn (by omega)
  | succ n ih =>
    intro cnt z z0 z1 hn
    rw [dc_R_next_164_s, dc_C_howManyReach_5_s, r2_houses h2]
    by_cases c : t 234 6 ≤ z
    · simp only [if_pos c]
      rw [Int.max_def]
      by_cases p : cnt ≤ dc_R_ones t x - cnt
      · simp only [if_pos p]
        by_cases q : le ≤ dc_R_ones t x - cnt
        · simp only [if_pos q]
        · simp only [if_neg q]
      · simp only [if_neg p]
        by_cases q : le ≤ cnt
        · simp only [if_pos q]
        · simp only [if_neg q]
    · simp only [if_neg c]
      have bd := re_bd ht g h2 z0 (show z < t 234 6 by omega)
      have bt := yb_bt (x := dc_R_sootOf t z) (h := f) bd.1 (by omega) f0 (by omega)
      rw [an_reach ht g h2 z0 (by omega)]
      unfold dc_R_has
      by_cases p : sy_and (sy_shr x z) 1 = 1
      · rw [if_pos p, if_neg (show ¬ (1 : Int) = 0 by decide)]
        simp only [if_pos p]
        by_cases q : sy_and (sy_shr (dc_R_sootOf t z) f) 1 = 1
        · rw [if_pos q, if_neg (show ¬ (1 : Int) = 0 by decide), q]
          exact ih _ _ (by omega) (by omega) (by omega)
        · have q0 : sy_and (sy_shr (dc_R_sootOf t z) f) 1 = 0 := by
            rw [bt] at q ⊢
            by_cases v : (dc_R_sootOf t z).toNat.testBit f.toNat = true
            · exact absurd (if_pos v) q
            · rw [if_neg v]
          rw [if_neg q, if_pos rfl, q0]
          exact ih _ _ (by omega) (by omega) (by omega)
      · rw [if_neg p, if_pos rfl]
        simp only [if_neg p]
        rw [Int.add_zero]
        exact ih _ _ (by omega) (by omega) (by omega)
theorem pf_149 {s t : sg_S} (ht : sv t) (g : t 234 6 ≤ 0 ∨ t 235 11 = -1) (h2 : r2 s t) (x : Int) (n : Nat) : ∀ (m : Nat) (bst le f : Int), 0 ≤ f → f ≤ t 234 6 → t 234 6 - f < (n : Int) → t 234 6 - f < (m : Int) → dc_C_partingFlue_13 n s x (dc_R_ones t x) bst le f = dc_R_next_149 m t x bst le f := by
  have b := st_b_of ht
  have b0 := b.1
  have b9 := b.2.1
  induction n with
  | zero => intro m bst le f _ _ hn _; exact absurd hn (by omega)
  | succ n ih =>
    intro m bst le f f0 f1 hn hm
    cases m with
    | zero => exact absurd hm (by omega)
    | succ m =>
      rw [dc_C_partingFlue_13_s, dc_R_next_149_s, r2_houses h2]
      by_cases c : t 234 6 ≤ f
      · rw [if_pos c, if_pos c]
      · rw [if_neg c, if_neg c, pf_164 ht g h2 (dc_R_next_149 m) x bst le f f0 (by omega) 10 0 0 (by omega) (by omega) (by omega)]
        unfold dc_C_howManyReach
        by_cases q : le ≤ max (dc_C_howManyReach_5 10 s f x 0 0) (dc_R_ones t x - dc_C_howManyReach_5 10 s f x 0 0)
        · rw [if_pos q, if_pos q]
          exact ih m _ _ _ (by omega) (by omega) (by omega) (by omega)
        · rw [if_neg q, if_neg q]
          exact ih m _ _ _ (by omega) (by omega) (by omega) (by omega)
theorem an_next {s t : sg_S} (ht : sv t) (g : t 234 6 ≤ 0 ∨ t 235 11 = -1) (e : s 217 3 = t 234 31) (h2 : r2 s t) (h : r3 s t) (a1 a2 : Int) : dc_C_next s a1 a2 = dc_R_next t a1 a2 := by
  have b := st_b_of ht
  have b0 := b.1
  have b9 := b.2.1
  unfold dc_C_next dc_R_next
  by_cases c1 : 1 ≤ a1 ∧ a1 ≤ 7
  · rw [if_neg (show ¬ a1 < 1 by omega), if_pos c1.2, if_neg (eq_in1 c1)]
    have k := su_30 ht g e h2 h a1 a2 10 10 0 0 (by omega) (by omega) (by omega) (by omega) (by omega) (by omega)
    by_cases c2 : a2 = 0
    · rw [if_pos c2, if_neg (eq_in1 ⟨by omega, by omega⟩), k.2, if_pos c2]
      rfl
    · rw [if_neg c2]
      by_cases c3 : a2 = 1
      · rw [if_pos c3, if_neg (eq_in1 ⟨by omega, by omega⟩), k.2, if_neg c2]
        unfold dc_C_partingFlue dc_C_suspects
        rw [on_bc s t k.1.1 k.1.2]
        exact pf_149 ht g h2 _ 10 10 _ _ 0 (by omega) (by omega) (by omega) (by omega)
      · rw [if_neg c3, if_pos (eq_in0 (by omega))]
  · rw [if_pos (eq_in0 c1)]
    (repeat' split) <;> first | rfl | omega
