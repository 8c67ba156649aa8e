/-! ONE FLUE OF THE ROW THAT IS TRIED, as a number -/
def lb_F (t : sg_S) (a : Nat) : Int := st_e (fun l => t 235 (141 + 8 * a + l)) (t 235 (132 + a)).toNat
def lb_I (t : sg_S) (a : Nat) : Prop := (0 ≤ t 235 (132 + a) ∧ t 235 (132 + a) ≤ 8) ∧ ∀ l, l < (t 235 (132 + a)).toNat → 1 ≤ t 235 (141 + 8 * a + l) ∧ t 235 (141 + 8 * a + l) ≤ 7
theorem lb_lay {t : sg_S} {a x : Nat} {kd : Int} (ha : a ≤ 8) (hx : x ≤ 8) (m0 : 0 ≤ t 235 (132 + x)) (m8 : t 235 (132 + x) ≤ 8) (hI : lb_I t a) (k1 : 1 ≤ kd) (k7 : kd ≤ 7) (s0 : sg_S) : lb_I (dc_R_lays t 112 (x : Int) kd) a ∧ lb_F (dc_R_lays t 112 (x : Int) kd) a = if x = a then dc_Soot_laid s0 (lb_F t a) kd else lb_F t a := by
  obtain ⟨r1, r2⟩ := lb_row t x kd hx m0 m8
  obtain ⟨i1, i2⟩ := hI
  by_cases z : x = a
  · subst z
    rw [if_pos rfl]
    have key := so_more s0 (f := fun l => t 235 (141 + 8 * x + l)) (g := fun l => dc_R_lays t 112 (x : Int) kd 235 (141 + 8 * x + l)) (m := (t 235 (132 + x)).toNat) (k := kd) (by omega) i2 (by omega) k7 (by
      by_cases c : t 235 (132 + x) = 8
      · rw [if_pos (by omega)]
        refine ⟨fun l hl => ?_, ?_⟩
        · show dc_R_lays t 112 (x : Int) kd 235 (141 + 8 * x + l) = t 235 (141 + 8 * x + (l + 1))
          rw [r2 _ (by omega), if_pos c, if_neg (by omega), if_pos (by omega), show 141 + 8 * x + l + 1 = 141 + 8 * x + (l + 1) by omega]
        · show dc_R_lays t 112 (x : Int) kd 235 (141 + 8 * x + 7) = kd
          rw [r2 _ (by omega), if_pos c, if_pos (by omega)]
      · rw [if_neg (by omega)]
        refine ⟨fun l hl => ?_, ?_⟩
        · show dc_R_lays t 112 (x : Int) kd 235 (141 + 8 * x + l) = t 235 (141 + 8 * x + l)
          rw [r2 _ (by omega), if_neg c, if_neg (by omega)]
        · show dc_R_lays t 112 (x : Int) kd 235 (141 + 8 * x + (t 235 (132 + x)).toNat) = kd
          rw [r2 _ (by omega), if_neg c, if_pos (by omega)])
    refine ⟨⟨?_, fun l hl => ?_⟩, ?_⟩
    · rw [r1]; split <;> omega
    · rw [r1] at hl
      rw [r2 _ (by omega)]
      by_cases c : t 235 (132 + x) = 8
      · rw [if_pos c] at hl ⊢
        by_cases q : l = 7
        · rw [if_pos (by omega)]; omega
        · have := i2 (l + 1) (by omega)
          rw [if_neg (by omega), if_pos (by omega), show 141 + 8 * x + l + 1 = 141 + 8 * x + (l + 1) by omega]
          exact this
      · rw [if_neg c] at hl ⊢
        by_cases q : ((141 + 8 * x + l : Nat) : Int) = 141 + 8 * (x : Int) + t 235 (132 + x)
        · rw [if_pos q]; omega
        · rw [if_neg q]; exact i2 l (by omega)
    · unfold lb_F
      rw [key, r1]
      by_cases c : t 235 (132 + x) = 8
      · rw [if_pos c, if_pos (by omega)]; rfl
      · rw [if_neg c, if_neg (by omega), show (t 235 (132 + x) + 1).toNat = (t 235 (132 + x)).toNat + 1 by omega]
  · rw [if_neg z]
    have e : dc_R_lays t 112 (x : Int) kd 235 (132 + a) = t 235 (132 + a) := by
      rw [r2 _ (by omega)]
      (repeat' split) <;> first | rfl | omega
    have el : ∀ l, l < (t 235 (132 + a)).toNat → dc_R_lays t 112 (x : Int) kd 235 (141 + 8 * a + l) = t 235 (141 + 8 * a + l) := fun l hl => by
      rw [r2 _ (by omega)]
      (repeat' split) <;> first | rfl | omega
    refine ⟨⟨by rw [e]; exact i1, fun l hl => ?_⟩, ?_⟩
    · rw [e] at hl
      rw [el l hl]; exact i2 l hl
    · unfold lb_F
      rw [e]
      exact st_e_congr _ (fun l hl => el l hl)
