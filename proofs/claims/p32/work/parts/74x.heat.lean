/-! BITS OF SETS; what runs through a flue -/
theorem yb_bt {x h : Int} (x0 : 0 ≤ x) (x1 : x ≤ 2147483647) (h0 : 0 ≤ h) (h1 : h < 31) : sy_and (sy_shr x h) 1 = if x.toNat.testBit h.toNat then 1 else 0 := by
  rw [so_shr x0 x1 h0 (by omega)]
  have e : x / ((2 ^ h.toNat : Nat) : Int) = ((x.toNat / 2 ^ h.toNat : Nat) : Int) := by
    have := Int.natCast_ediv x.toNat (2 ^ h.toNat)
    rw [Int.toNat_of_nonneg x0] at this
    exact this.symm
  have hl : x.toNat / 2 ^ h.toNat ≤ x.toNat := Nat.div_le_self _ _
  have q := so_and (u := x.toNat / 2 ^ h.toNat) (v := 1) (by omega) (by omega)
  rw [show ((1 : Nat) : Int) = 1 from rfl] at q
  rw [e, q, Nat.and_one_is_mod, Nat.testBit_eq_decide_div_mod_eq]
  by_cases c : x.toNat / 2 ^ h.toNat % 2 = 1
  · rw [c]; simp
  · have c0 : x.toNat / 2 ^ h.toNat % 2 = 0 := by omega
    rw [c0]; simp
theorem yb_or {x y : Int} (x0 : 0 ≤ x) (x1 : x ≤ 2147483647) (y0 : 0 ≤ y) (y1 : y ≤ 2147483647) (j : Nat) : (sy_or x y).toNat.testBit j = (x.toNat.testBit j || y.toNat.testBit j) := by
  have q := so_or (u := x.toNat) (v := y.toNat) (by omega) (by omega)
  rw [Int.toNat_of_nonneg x0, Int.toNat_of_nonneg y0] at q
  rw [q, Int.toNat_natCast, Nat.testBit_or]
theorem yb_sh {z : Int} (z0 : 0 ≤ z) (z9 : z < 31) (j : Nat) : (sy_shl 1 z).toNat.testBit j = decide (z.toNat = j) := by
  rw [sg_shl1 z0 z9, Int.toNat_natCast, Nat.testBit_two_pow]
theorem yb_ext {x y : Int} (x0 : 0 ≤ x) (y0 : 0 ≤ y) (h : ∀ j, x.toNat.testBit j = y.toNat.testBit j) : x = y := by
  have := Nat.eq_of_testBit_eq h
  omega
/-- the chain of a flue -/
def ch_f (t : sg_S) (f : Int) : Int := dc_R_sootOf_23 10 t 0 f
theorem ch_m {t : sg_S} (ht : sv t) (g : t 234 6 ≤ 0 ∨ t 235 11 = -1) (m : Nat) : ∀ (k : Nat) (x f : Int), -1 ≤ f → f < t 234 6 → f + 1 < (m : Int) → f + 1 < (k : Int) → dc_R_sootOf_23 m t x f = dc_R_sootOf_23 k t x f := by
  have b9 := (st_b_of ht).2.1
  induction m with
  | zero => intro k x f _ _ hm _; exact absurd hm (by omega)
  | succ m ih =>
    intro k x f f0 f1 hm hk
    cases k with
    | zero => exact absurd hk (by omega)
    | succ k =>
      rw [dc_R_sootOf_23_s, dc_R_sootOf_23_s]
      by_cases c : f = -1
      · rw [if_pos c, if_pos c]
      · have hi := mo_into ht g (f := f) (by omega) f1 (by omega)
        rw [if_neg c, if_neg c, show (11 + f).toNat = 11 + f.toNat by omega]
        exact ih k _ _ hi.1 (by omega) (by omega) (by omega)
theorem ch_n (t : sg_S) : ch_f t (-1) = 0 := by
  unfold ch_f
  rw [dc_R_sootOf_23_s, if_pos rfl]
theorem ch_s {t : sg_S} (ht : sv t) (g : t 234 6 ≤ 0 ∨ t 235 11 = -1) {f : Int} (f0 : 0 ≤ f) (f1 : f < t 234 6) : ch_f t f = sy_or (sy_shl 1 f) (ch_f t (t 235 (11 + f.toNat))) := by
  have b9 := (st_b_of ht).2.1
  have hi := mo_into ht g (f := f) f0 f1 (by omega)
  have hs := sg_shl9 f f0 (by omega)
  unfold ch_f
  rw [dc_R_sootOf_23_s, if_neg (by omega), show (11 + f).toNat = 11 + f.toNat by omega]
  have e := re_sp ht g 9 (sy_shl 1 f) 0 (t 235 (11 + f.toNat)) hi.1 (by omega) (by omega)
  rw [yo_0 ⟨by omega, by omega⟩] at e
  rw [yo_c 0, yo_0 ⟨by omega, by omega⟩, e, ch_m ht g 9 10 0 _ hi.1 (by omega) (by omega) (by omega)]
theorem ch_b {t : sg_S} (ht : sv t) (g : t 234 6 ≤ 0 ∨ t 235 11 = -1) (n : Nat) : ∀ f : Int, -1 ≤ f → f < t 234 6 → f + 1 < (n : Int) → (0 ≤ ch_f t f ∧ ch_f t f ≤ 511) ∧ ∀ j : Nat, (f < (j : Int)) → (ch_f t f).toNat.testBit j = false := by
  have b9 := (st_b_of ht).2.1
  induction n with
  | zero => intro f _ _ hn; exact absurd hn (by omega)
  | succ n ih =>
    intro f f0 f1 hn
    by_cases c : f = -1
    · rw [c, ch_n]
      exact ⟨by omega, fun j _ => by simp⟩
    · have hi := mo_into ht g (f := f) (by omega) f1 (by omega)
      have hs := sg_shl9 f (by omega) (by omega)
      have k := ih (t 235 (11 + f.toNat)) hi.1 (by omega) (by omega)
      rw [ch_s ht g (by omega) f1]
      refine ⟨sg_or9 _ _ (by omega) (by omega) k.1.1 k.1.2, fun j hj => ?_⟩
      rw [yb_or (by omega) (by omega) k.1.1 (by omega), yb_sh (by omega) (by omega), k.2 j (by omega)]
      simp
      omega
theorem ch_t {t : sg_S} (ht : sv t) (g : t 234 6 ≤ 0 ∨ t 235 11 = -1) {f : Int} (f0 : 0 ≤ f) (f1 : f < t 234 6) (j : Nat) : (ch_f t f).toNat.testBit j = (decide (f.toNat = j) || (ch_f t (t 235 (11 + f.toNat))).toNat.testBit j) := by
  have b9 := (st_b_of ht).2.1
  have hi := mo_into ht g (f := f) f0 f1 (by omega)
  have hs := sg_shl9 f f0 (by omega)
  have k := ch_b ht g 10 (t 235 (11 + f.toNat)) hi.1 (by omega) (by omega)
  rw [ch_s ht g f0 f1, yb_or (by omega) (by omega) k.1.1 (by omega), yb_sh f0 (by omega)]
theorem ch_C {s t : sg_S} (ht : sv t) (g : t 234 6 ≤ 0 ∨ t 235 11 = -1) (h : r2 s t) {a : Int} (h0 : 0 ≤ a) (h1 : a < t 234 6) : dc_St_down s a = ch_f t a := by
  have b9 := (st_b_of ht).2.1
  exact re_ch ht g h 10 10 0 a 0 (by omega) h1 (by omega) (by omega) (by omega) (by omega)
/-- the class's set -/
theorem he_C {s t : sg_S} (ht : sv t) (g : t 234 6 ≤ 0 ∨ t 235 11 = -1) (h : r2 s t) {a : Int} (a0 : 0 ≤ a) (a1 : a < t 234 6) (n : Nat) : ∀ x z : Int, 0 ≤ x → x ≤ 511 → 0 ≤ z → z ≤ t 234 6 → t 234 6 - z < (n : Int) → (∀ j : Nat, x.toNat.testBit j = (decide ((j : Int) < z) && decide ((j : Int) ≠ a) && (ch_f t (j : Int)).toNat.testBit a.toNat)) → (0 ≤ dc_St_heatOf_5 n s a (t 234 6) x z ∧ dc_St_heatOf_5 n s a (t 234 6) x z ≤ 511) ∧ ∀ j : Nat, (dc_St_heatOf_5 n s a (t 234 6) x z).toNat.testBit j = (decide ((j : Int) < t 234 6) && decide ((j : Int) ≠ a) && (ch_f t (j : Int)).toNat.testBit a.toNat) := by
  have b9 := (st_b_of ht).2.1
  induction n with
  | zero => intro x z _ _ _ _ hn _; exact absurd hn (by omega)
  | succ n ih =>
    intro x z x0 x1 z0 z1 hn hx
    rw [dc_St_heatOf_5_s]
    by_cases c : t 234 6 ≤ z
    · rw [if_pos c]
      refine ⟨⟨x0, x1⟩, fun j => ?_⟩
      rw [hx j, show z = t 234 6 by omega]
    · rw [if_neg c]
      have keep : (z = a ∨ (ch_f t z).toNat.testBit a.toNat = false) → ∀ j : Nat, x.toNat.testBit j = (decide ((j : Int) < z + 1) && decide ((j : Int) ≠ a) && (ch_f t (j : Int)).toNat.testBit a.toNat) := fun hz j => by
        rw [hx j]
        by_cases q : (j : Int) = z
        · rw [q]
          rcases hz with w | w
          · simp [w]
          · simp [w]
        · by_cases p : (j : Int) < z
          · simp [p, show (j : Int) < z + 1 by omega]
          · simp [p, show ¬ (j : Int) < z + 1 by omega]
      by_cases q : z = a
      · rw [if_pos q]
        exact ih x (z + 1) x0 x1 (by omega) (by omega) (by omega) (keep (Or.inl q))
      · rw [if_neg q, ch_C ht g h z0 (by omega)]
        have kb := ch_b ht g 10 z (by omega) (by omega) (by omega)
        rw [yb_bt kb.1.1 (by omega) a0 (by omega)]
        by_cases w : (ch_f t z).toNat.testBit a.toNat = true
        · have hs := sg_shl9 z z0 (by omega)
          have ho := sg_or9 x (sy_shl 1 z) x0 x1 (by omega) (by omega)
          rw [if_pos w, if_pos rfl]
          refine ih _ (z + 1) ho.1 ho.2 (by omega) (by omega) (by omega) (fun j => ?_)
          rw [yb_or x0 (by omega) (by omega) (by omega), yb_sh z0 (by omega), hx j]
          by_cases p : (j : Int) = z
          · rw [p, w]
            simp [q, show z.toNat = j by omega, show z < z + 1 by omega]
          · by_cases p2 : (j : Int) < z
            · simp [p2, show (j : Int) < z + 1 by omega, show ¬ z.toNat = j by omega]
            · simp [p2, show ¬ (j : Int) < z + 1 by omega, show ¬ z.toNat = j by omega]
        · have w' : (ch_f t z).toNat.testBit a.toNat = false := by simpa using w
          rw [if_neg w, if_neg (by decide)]
          exact ih x (z + 1) x0 x1 (by omega) (by omega) (by omega) (keep (Or.inr w'))
/-- the reference's set -/
theorem he_R {t : sg_S} (ht : sv t) (g : t 234 6 ≤ 0 ∨ t 235 11 = -1) {a : Int} (a0 : 0 ≤ a) (a1 : a < t 234 6) (n : Nat) : ∀ x z : Int, 0 ≤ x → x ≤ 511 → a < z → z ≤ t 234 6 → t 234 6 - z < (n : Int) → (∀ j : Nat, x.toNat.testBit j = (decide ((j : Int) < z) && decide ((j : Int) ≠ a) && (ch_f t (j : Int)).toNat.testBit a.toNat)) → (0 ≤ dc_R_heatOf_6 n t a x z ∧ dc_R_heatOf_6 n t a x z ≤ 511) ∧ ∀ j : Nat, (dc_R_heatOf_6 n t a x z).toNat.testBit j = (decide ((j : Int) < t 234 6) && decide ((j : Int) ≠ a) && (ch_f t (j : Int)).toNat.testBit a.toNat) := by
  have b9 := (st_b_of ht).2.1
  induction n with
  | zero => intro x z _ _ _ _ hn _; exact absurd hn (by omega)
  | succ n ih =>
    intro x z x0 x1 z0 z1 hn hx
    rw [dc_R_heatOf_6_s]
    by_cases c : t 234 6 ≤ z
    · rw [if_pos c]
      refine ⟨⟨x0, x1⟩, fun j => ?_⟩
      rw [hx j, show z = t 234 6 by omega]
    · rw [if_neg c, show (11 + z).toNat = 11 + z.toNat by omega]
      have hi := mo_into ht g (f := z) (by omega) (by omega) (by omega)
      have hs := sg_shl9 z (by omega) (by omega)
      have ho := sg_or9 x (sy_shl 1 z) x0 x1 (by omega) (by omega)
      have tz := ch_t ht g (f := z) (by omega) (by omega) a.toNat
      have yes : (ch_f t z).toNat.testBit a.toNat = true → ∀ j : Nat, (sy_or x (sy_shl 1 z)).toNat.testBit j = (decide ((j : Int) < z + 1) && decide ((j : Int) ≠ a) && (ch_f t (j : Int)).toNat.testBit a.toNat) := fun w j => by
        rw [yb_or x0 (by omega) (by omega) (by omega), yb_sh (by omega) (by omega), hx j]
        by_cases p : (j : Int) = z
        · rw [p, w]
          simp [show ¬ z = a by omega, show z.toNat = j by omega, show z < z + 1 by omega]
        · by_cases p2 : (j : Int) < z
          · simp [p2, show (j : Int) < z + 1 by omega, show ¬ z.toNat = j by omega]
          · simp [p2, show ¬ (j : Int) < z + 1 by omega, show ¬ z.toNat = j by omega]
      have no : (ch_f t z).toNat.testBit a.toNat = false → ∀ j : Nat, (sy_or x 0).toNat.testBit j = (decide ((j : Int) < z + 1) && decide ((j : Int) ≠ a) && (ch_f t (j : Int)).toNat.testBit a.toNat) := fun w j => by
        rw [yo_0 ⟨by omega, by omega⟩, hx j]
        by_cases p : (j : Int) = z
        · rw [p, w]; simp
        · by_cases p2 : (j : Int) < z
          · simp [p2, show (j : Int) < z + 1 by omega]
          · simp [p2, show ¬ (j : Int) < z + 1 by omega]
      have o0 : 0 ≤ sy_or x 0 ∧ sy_or x 0 ≤ 511 := by rw [yo_0 ⟨by omega, by omega⟩]; exact ⟨x0, x1⟩
      by_cases q : t 235 (11 + z.toNat) = a
      · rw [if_pos q]
        refine ih _ (z + 1) ho.1 ho.2 (by omega) (by omega) (by omega) (yes ?_)
        rw [tz, q, ch_t ht g a0 a1]
        simp
      · rw [if_neg q]
        by_cases w : t 235 (11 + z.toNat) = -1
        · rw [if_pos w]
          refine ih _ (z + 1) o0.1 o0.2 (by omega) (by omega) (by omega) (no ?_)
          rw [tz, w, ch_n]
          simp
          omega
        · rw [if_neg w]
          have hb : dc_R_has t x (t 235 (11 + z.toNat)) = if x.toNat.testBit (t 235 (11 + z.toNat)).toNat then 1 else 0 := by
            unfold dc_R_has
            rw [yb_bt x0 (by omega) (by omega) (by omega)]
            by_cases v : x.toNat.testBit (t 235 (11 + z.toNat)).toNat = true
            · simp [v]
            · simp [v]
          have hv : x.toNat.testBit (t 235 (11 + z.toNat)).toNat = (ch_f t z).toNat.testBit a.toNat := by
            rw [hx, tz, show (((t 235 (11 + z.toNat)).toNat : Nat) : Int) = t 235 (11 + z.toNat) by omega]
            simp [show t 235 (11 + z.toNat) < z by omega, q, show ¬ z.toNat = a.toNat by omega]
          rw [hb, hv]
          by_cases v : (ch_f t z).toNat.testBit a.toNat = true
          · rw [if_pos v, if_neg (by decide)]
            exact ih _ (z + 1) ho.1 ho.2 (by omega) (by omega) (by omega) (yes v)
          · have v' : (ch_f t z).toNat.testBit a.toNat = false := by simpa using v
            rw [if_neg v, if_pos rfl]
            exact ih _ (z + 1) o0.1 o0.2 (by omega) (by omega) (by omega) (no v')
theorem an_heat {s t : sg_S} (ht : sv t) (g : t 234 6 ≤ 0 ∨ t 235 11 = -1) (h : r2 s t) {a : Int} (a0 : 0 ≤ a) (a1 : a < t 234 6) : dc_St_heatOf s a (t 234 6) = dc_R_heatOf t a := by
  have b := st_b_of ht
  have b9 := b.2.1
  have k1 := he_C ht g h a0 a1 10 0 0 (by omega) (by omega) (by omega) (by omega) (by omega) (fun j => by simp; omega)
  have k2 := he_R ht g a0 a1 10 0 (a + 1) (by omega) (by omega) (by omega) (by omega) (by omega) (fun j => by
    rw [show (0 : Int).toNat.testBit j = false by simp]
    by_cases p : (j : Int) < a
    · rw [(ch_b ht g 10 (j : Int) (by omega) (by omega) (by omega)).2 a.toNat (by omega)]
      simp
    · by_cases q : (j : Int) = a
      · simp [q]
      · simp [show ¬ (j : Int) < a + 1 by omega])
  exact yb_ext k1.1.1 k2.1.1 (fun j => (k1.2 j).trans (k2.2 j).symm)
theorem an_flues {s t : sg_S} (ht : sv t) (g : t 234 6 ≤ 0 ∨ t 235 11 = -1) (h : r2 s t) (a1 a2 : Int) : dc_C_flues s a1 a2 = dc_R_flues t a1 a2 := by
  unfold dc_C_flues dc_R_flues
  by_cases c1 : dc_R_isHouse t a1 = 0
  · rw [if_pos ((r2_hh h a1).mpr c1), if_pos c1]
  · have k1 : 0 ≤ a1 ∧ a1 < t 234 6 := Decidable.not_not.mp (fun z => c1 ((r1_hR t a1).mpr z))
    rw [if_neg (fun z => c1 ((r2_hh h a1).mp z)), if_neg c1, an_burns ht h k1.1 k1.2, an_reach ht g h k1.1 k1.2, r2_houses h, an_heat ht g h k1.1 k1.2, an_like ht h k1.1 k1.2]
