/-! SOOT LAID IN THE ROW THAT IS TRIED -/
theorem lb_30 (x : Nat) (kd : Int) (n : Nat) : ∀ (s : sg_S) (l5 : Int), 0 ≤ l5 → l5 ≤ 7 → s 235 (132 + x) = 8 → x ≤ 8 → 7 - l5 < (n : Int) → ∀ k : Nat, k ≠ 132 + x → dc_R_lays_30 n s 112 (x : Int) kd ((112 + 29) + (8 * (x : Int))) l5 235 k = if k = 141 + 8 * x + 7 then kd else if 141 + 8 * (x : Int) + l5 ≤ (k : Int) ∧ k < 141 + 8 * x + 7 then s 235 (k + 1) else s 235 k := by
  induction n with
  | zero => intro s l5 h0 h7 hm hx hn; exact absurd hn (by omega)
  | succ n ih =>
    intro s l5 h0 h7 hm hx hn k hk
    rw [dc_R_lays_30_s]
    have e20 : ((112 + 20 : Int) + (x : Int)).toNat = 132 + x := by omega
    rw [e20, hm]
    by_cases c : 7 ≤ l5
    · rw [if_pos c, sg_nk hk]
      by_cases q : k = 141 + 8 * x + 7
      · rw [if_pos q, show ((112 + 29 : Int) + 8 * (x : Int) + (8 - 1)).toNat = k by omega, sg_eq]
      · rw [if_neg q, if_neg (by omega), sg_nk (by omega), sg_nk hk]
    · rw [if_neg c]
      have := ih (sg_up s 235 (((112 + 29) + (8 * (x : Int)) + l5).toNat) (s 235 ((((112 + 29) + (8 * (x : Int)) + l5) + 1).toNat))) (l5 + 1) (by omega) (by omega) (by rw [sg_nk (by omega)]; exact hm) hx (by omega) k hk
      rw [this]
      by_cases q : k = 141 + 8 * x + 7
      · rw [if_pos q, if_pos q]
      · rw [if_neg q, if_neg q]
        by_cases q1 : 141 + 8 * (x : Int) + (l5 + 1) ≤ (k : Int) ∧ k < 141 + 8 * x + 7
        · rw [if_pos q1, if_pos (by omega), sg_nk (by omega)]
        · rw [if_neg q1]
          by_cases q2 : (k : Int) = 141 + 8 * (x : Int) + l5
          · rw [if_pos (by omega), show ((112 + 29 : Int) + (8 * (x : Int)) + l5).toNat = k by omega, sg_eq, show ((112 + 29 : Int) + (8 * (x : Int)) + l5 + 1).toNat = k + 1 by omega]
          · rw [if_neg (by omega), sg_nk (by omega)]
/-- the reference's row behind a layer more -/
theorem lb_row (t : sg_S) (x : Nat) (kd : Int) (hx : x ≤ 8) (m0 : 0 ≤ t 235 (132 + x)) (m8 : t 235 (132 + x) ≤ 8) : (dc_R_lays t 112 (x : Int) kd 235 (132 + x) = if t 235 (132 + x) = 8 then 8 else t 235 (132 + x) + 1) ∧ (∀ k : Nat, k ≠ 132 + x → dc_R_lays t 112 (x : Int) kd 235 k = if t 235 (132 + x) = 8 then (if k = 141 + 8 * x + 7 then kd else if 141 + 8 * x ≤ k ∧ k < 141 + 8 * x + 7 then t 235 (k + 1) else t 235 k) else (if (k : Int) = 141 + 8 * (x : Int) + t 235 (132 + x) then kd else t 235 k)) := by
  have e20 : ((112 + 20 : Int) + (x : Int)).toNat = 132 + x := by omega
  constructor
  · have := rb_lays_m t 112 (x : Int) kd (x : Int) (by omega) (by omega) (by omega) (by rw [e20]; exact m0) (by rw [e20]; exact m8) (by omega) (by omega)
    rw [e20] at this
    rw [this]
    by_cases c : t 235 (132 + x) = 8
    · rw [if_pos c, if_neg (by omega)]; exact c
    · rw [if_neg c, if_pos ⟨rfl, c⟩]
  · intro k hk
    by_cases c : t 235 (132 + x) = 8
    · have hd : dc_R_lays t 112 (x : Int) kd = dc_R_lays_30 8 t 112 (x : Int) kd ((112 + 29) + (8 * (x : Int))) 0 := if_pos (by rw [e20]; exact c)
      rw [hd, if_pos c, lb_30 x kd 8 t 0 (by omega) (by omega) c hx (by omega) k hk]
      by_cases q : k = 141 + 8 * x + 7
      · rw [if_pos q, if_pos q]
      · rw [if_neg q, if_neg q]
        by_cases q1 : 141 + 8 * x ≤ k ∧ k < 141 + 8 * x + 7
        · rw [if_pos q1, if_pos (by omega)]
        · rw [if_neg q1, if_neg (by omega)]
    · have hd : dc_R_lays t 112 (x : Int) kd = sg_up (sg_up t 235 ((((112 + 29) + (8 * (x : Int))) + (t 235 (((112 + 20) + (x : Int)).toNat))).toNat) kd) 235 (((112 + 20) + (x : Int)).toNat) ((t 235 (((112 + 20) + (x : Int)).toNat)) + 1) := if_neg (by rw [e20]; exact c)
      rw [hd, if_neg c, e20, sg_nk hk]
      by_cases q : (k : Int) = 141 + 8 * (x : Int) + t 235 (132 + x)
      · rw [if_pos q, show ((112 + 29 : Int) + 8 * (x : Int) + t 235 (132 + x)).toNat = k by omega, sg_eq]
      · rw [if_neg q, sg_nk (by omega)]
