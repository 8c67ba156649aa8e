/-! WHAT FITS -/
theorem tq_Ib {t0 t : sg_S} {B B' : Nat → Int} {a : Nat} (e : ∀ z, B z = B' z) (h : tq_I t0 B a t) : tq_I t0 B' a t := ⟨h.1, h.2.1, h.2.2.1, h.2.2.2.1, fun z hz => (h.2.2.2.2.1 z hz).trans (e z), h.2.2.2.2.2⟩
theorem tq_b7 {t0 : sg_S} (hs : sv t0) {z : Nat} (hz : z < 9) : 0 ≤ t0 235 (2 + z) ∧ t0 235 (2 + z) ≤ 7 := by
  obtain ⟨hp, hH, rfl⟩ := hs
  have := sg_wcN 2 11 (lo := 0) (hi := 7) (by decide) (by omega) (by omega) (by omega) (sg_rngW hH (z := 2 + (z : Int)) (by omega) (by omega))
  rw [show (2 + (z : Int)).toNat = 2 + z by omega] at this
  exact this
theorem tq_42 {s t0 : sg_S} {a : Nat} (hs : sv t0) (g : t0 234 6 ≤ 0 ∨ t0 235 11 = -1) (ha : (a : Int) < t0 234 6) (hS : s 224 2 = st_e (fun l => t0 235 (29 + 8 * a + l)) (t0 235 (20 + a)).toNat) (m : 0 ≤ t0 235 (20 + a) ∧ t0 235 (20 + a) ≤ 8) (f : ∀ l, l < (t0 235 (20 + a)).toNat → 1 ≤ t0 235 (29 + 8 * a + l) ∧ t0 235 (29 + 8 * a + l) ≤ 7) (hp : ∀ k : Nat, k < 8 → tq_H (tq_f t0 (tq_k t0 a k) a (t0 234 6).toNat) (s 225 k) (s 226 k)) (row N : Int) (n : Nat) : ∀ (m' : Nat) (t : sg_S) (B : Nat → Int) (l4 : Int), tq_I t0 B a t → (∀ z, z ≠ a → B z = t0 235 (2 + z)) → l4 ≤ N + 1 → N + 1 - l4 < (n : Int) → N + 1 - l4 < (m' : Int) → (dc_R_isSo_42 m' t (a : Int) row (N - l4)).2 = dc_Rows_fits_5 n s row N (lb_F t a) l4 := by
  have b9 := (st_b_of hs).2.1
  have a8 : a ≤ 8 := by omega
  induction n with
  | zero => intro m' t B l4 _ _ h1 hn _; exact absurd hn (by omega)
  | succ n ih =>
    intro m' t B l4 h hB lN hn hm
    cases m' with
    | zero => exact absurd hm (by omega)
    | succ m' =>
      rw [dc_R_isSo_42_s, dc_Rows_fits_5_s]
      by_cases c : N < l4
      · rw [if_pos (show N - l4 < 0 by omega), if_pos c]
        have e20 := h.2.2.1 (20 + a) (by omega)
        have el : ∀ l, l < 8 → t 235 (29 + 8 * a + l) = t0 235 (29 + 8 * a + l) := fun l hl => h.2.2.1 _ (by omega)
        refine tq_end h.2.2.2.2.2 ?_ ?_ ?_
        · rw [hS, e20]
          exact st_e_congr _ (fun l hl => (el l (by omega)).symm)
        · rw [e20]; exact m
        · rw [e20]
          intro l hl
          rw [el l (by omega)]
          exact f l hl
      · rw [if_neg (show ¬ N - l4 < 0 by omega), if_neg c]
        have eK : dc_Rows_kindIn s row N l4 = sy_and (sy_shr row (3 * (N - l4))) 7 := rfl
        have kb := sg_and_r (sy_shr row (3 * (N - l4))) 7 (by omega) (by omega)
        rw [eK]
        generalize sy_and (sy_shr row (3 * (N - l4))) 7 = K at kb ⊢
        have w := tq_set a8 h K
        have w' : tq_I t0 (tq_k t0 a K.toNat) a (sg_up t 235 ((114 + (a : Int)).toNat) K) := tq_Ib (fun z => by
          unfold tq_k
          by_cases q : z = a
          · rw [if_pos q, if_pos q]; omega
          · rw [if_neg q, if_neg q]; exact hB z q) w.1
        have p := tq_pass hs g a8 (B := tq_k t0 a K.toNat) (fun z hz => by
          unfold tq_k
          by_cases q : z = a
          · rw [if_pos q]; omega
          · rw [if_neg q]; exact (tq_b7 hs hz).2) w'
        have bF := tq_F h.2.2.2.2.2
        have hh := tq_Hs (hp K.toNat (by omega)) s (x := lb_F t a) bF.1 bF.2
        have p2 := p.2
        rw [w.2] at p2
        rw [hh, ← p2, show N - l4 + (-1) = N - (l4 + 1) by omega]
        exact ih m' _ (tq_k t0 a K.toNat) (l4 + 1) p.1 (fun z hz => if_neg hz) (by omega) (by omega) (by omega)
/-- the flues are emptied -/
theorem tq_10 {t0 : sg_S} {a : Nat} (h9 : t0 234 6 ≤ 9) (ha : (a : Int) < t0 234 6) (row N : Int) (n : Nat) : ∀ (t : sg_S) (l4 : Nat), rb_pb t 112 → (∀ k, t 234 k = t0 234 k) → (∀ k, k < 112 → t 235 k = t0 235 k) → (∀ f : Nat, f < 9 → t 235 (123 + f) = t0 235 (11 + f)) → (∀ z : Nat, z < 9 → t 235 (114 + z) = t0 235 (2 + z)) → (∀ j : Nat, j < l4 → t 235 (132 + j) = 0) → (l4 : Int) ≤ t0 234 6 → t0 234 6 - (l4 : Int) < (n : Int) → ∃ t', dc_R_isSo_10 n t (a : Int) N row (l4 : Int) = dc_R_isSo_42 4 t' (a : Int) row (N - 1) ∧ tq_I t0 (fun z => t0 235 (2 + z)) a t' ∧ lb_F t' a = 0 := by
  induction n with
  | zero => intro t l4 _ _ _ _ _ _ h1 hn; exact absurd hn (by omega)
  | succ n ih =>
    intro t l4 p1 p2 p3 p4 p5 hz h1 hn
    rw [dc_R_isSo_10_s, p2 6]
    by_cases c : t0 234 6 ≤ (l4 : Int)
    · rw [if_pos c]
      have e := hz a (by omega)
      refine ⟨t, rfl, ⟨p1, p2, p3, p4, p5, ⟨by rw [e]; omega, fun l hl => ?_⟩⟩, ?_⟩
      · rw [e] at hl
        exact absurd hl (by simp)
      · unfold lb_F
        rw [e]
        rfl
    · rw [if_neg c, show ((l4 : Int) + 1) = ((l4 + 1 : Nat) : Int) by omega]
      have hp := rb_pb_up (z := 132 + (l4 : Int)) (v := 0) p1 (by omega) (by omega) (Or.inr (Or.inr (by omega)))
      have e : (132 + (l4 : Int)).toNat = 132 + l4 := by omega
      rw [e] at hp ⊢
      refine ih _ (l4 + 1) hp (fun k => ?_) (fun k hk => ?_) (fun f hf => ?_) (fun z hz' => ?_) (fun j hj => ?_) (by omega) (by omega)
      · rw [sg_na (by decide)]; exact p2 k
      · rw [sg_nk (by omega)]; exact p3 k hk
      · rw [sg_nk (by omega)]; exact p4 f hf
      · rw [sg_nk (by omega)]; exact p5 z hz'
      · by_cases q : j = l4
        · rw [q, sg_eq]
        · rw [sg_nk (by omega)]; exact hz j (by omega)
/-- states in which the row that stands is t0's -/
def tq_R (t0 t : sg_S) : Prop := sv t ∧ (∀ k, t 234 k = t0 234 k) ∧ (∀ k, k < 112 → t 235 k = t0 235 k)
theorem tq_nx {t0 t : sg_S} (g : t0 234 6 ≤ 0 ∨ t0 235 11 = -1) (h : tq_R t0 t) {a N row : Int} (a0 : 0 ≤ a) (a8 : a ≤ 8) (n1 : 1 ≤ N) (n3 : N ≤ 3) (r0 : 0 ≤ row) (r1 : row ≤ 600) : tq_R t0 (dc_R_isSo t a N row).1 := by
  obtain ⟨h1, h2, h3⟩ := h
  refine ⟨sv_isSo h1 a0 a8 n1 n3 (by omega) (by omega) (by rw [h2 6, h3 11 (by omega)]; exact g), fun k => ?_, fun k hk => ?_⟩
  · rw [dr_R_isSo t _ _ _ 234 k rfl]; exact h2 k
  · rw [gx_isSo t _ _ _ k (Or.inl hk) (sv_pb h1 (by omega) (by omega) (by omega)) a0 a8]; exact h3 k hk
/-- both sides say alike whether a row fits -/
theorem tq_is {s t0 t : sg_S} {a : Nat} (hs : sv t0) (g : t0 234 6 ≤ 0 ∨ t0 235 11 = -1) (h : r2 s t0) (ha : (a : Int) < t0 234 6) (hR : tq_R t0 t) (row : Int) {N : Int} (n1 : 1 ≤ N) (n3 : N ≤ 3) : (dc_R_isSo t (a : Int) N row).2 = dc_Rows_fits (dc_Rows_lookInto s (a : Int)) row N := by
  have b := st_b_of hs
  have b0 := b.1
  have b9 := b.2.1
  obtain ⟨h1, h2, h3⟩ := hR
  have hb := sv_pb h1 (r := 0) (by omega) (by omega) (by omega)
  obtain ⟨l1, l2⟩ := tq_look hs g h ha
  obtain ⟨e, m, f⟩ := fl_lay hs h.1 (x := a) ha
  have ci : ∀ j : Nat, j < 112 → dc_R_copy t 0 112 235 (112 + j) = t 235 j := fun j hj => by
    have := rb_copy_in t 0 112 (j : Int) (by omega) (by omega) (by omega) (by omega) (by omega)
    rw [show (112 + (j : Int)).toNat = 112 + j by omega, show ((0 : Int) + (j : Int)).toNat = j by omega] at this
    exact this
  have hb' : rb_pb (dc_R_copy t 0 112) 112 := by
    refine ⟨by rw [dr_R_copy _ _ _ 234 6 rfl]; exact hb.1, fun f f1 f2 => ?_⟩
    have e1 := rb_copy_in t 0 112 (20 + f) (by omega) (by omega) (by omega) (by omega) (by omega)
    have e2 := rb_copy_in t 0 112 (11 + f) (by omega) (by omega) (by omega) (by omega) (by omega)
    rw [show (112 : Int) + 20 + f = 112 + (20 + f) by omega, show (112 : Int) + 11 + f = 112 + (11 + f) by omega, e1, e2, show (0 : Int) + (20 + f) = 0 + 20 + f by omega, show (0 : Int) + (11 + f) = 0 + 11 + f by omega]
    exact hb.2 f f1 f2
  obtain ⟨t', r1, r2', r3⟩ := tq_10 (t0 := t0) (a := a) b9 ha row N 10 (dc_R_copy t 0 112) 0 hb' (fun k => by rw [dr_R_copy _ _ _ 234 k rfl]; exact h2 k) (fun k hk => by rw [rb_copy_out _ _ _ k (by omega) (by omega)]; exact h3 k hk) (fun f hf => by
      have := ci (11 + f) (by omega)
      rw [show 112 + (11 + f) = 123 + f by omega] at this
      rw [this]; exact h3 _ (by omega)) (fun z hz => by
      have := ci (2 + z) (by omega)
      rw [show 112 + (2 + z) = 114 + z by omega] at this
      rw [this]; exact h3 _ (by omega)) (fun j hj => absurd hj (by omega)) (by omega) (by omega)
  have r1' : dc_R_isSo t (a : Int) N row = dc_R_isSo_42 4 t' (a : Int) row (N - 1) := r1
  rw [r1', tq_42 hs g ha (by rw [l1]; exact e) m f l2 row N 4 4 t' _ 1 r2' (fun z _ => rfl) (by omega) (by omega) (by omega), r3]
  rfl
/-! burned -/
theorem tq_skip (l1 l2 l3 : Int) (h3 : l3 ≠ -1) (n : Nat) : ∀ (t : sg_S) (l4 l5 l6 : Int), l3 < l4 → sy_shl 1 (3 * l2) - l6 < (n : Int) → l6 ≤ sy_shl 1 (3 * l2) → (dc_R_burned_35 n t l1 l2 l3 l4 l5 l6).2 = l5 := by
  induction n with
  | zero => intro t l4 l5 l6 _ hn h; exact absurd hn (by omega)
  | succ n ih =>
    intro t l4 l5 l6 hl hn h6
    rw [dc_R_burned_35_s]
    by_cases c : sy_shl 1 (3 * l2) ≤ l6
    · rw [if_pos c, if_neg h3]
    · rw [if_neg c]
      by_cases q : (dc_R_isSo t l1 l2 l6).2 = 0
      · rw [if_pos q]
        exact ih _ _ _ _ hl (by omega) (by omega)
      · rw [if_neg q, if_neg (by omega)]
        exact ih _ _ _ _ (by omega) (by omega) (by omega)
theorem tq_cnt {s t0 : sg_S} {a : Nat} (hs : sv t0) (g : t0 234 6 ≤ 0 ∨ t0 235 11 = -1) (h : r2 s t0) (ha : (a : Int) < t0 234 6) {N : Int} (n1 : 1 ≤ N) (n3 : N ≤ 3) (n : Nat) : ∀ (m : Nat) (t : sg_S) (l4 l5 l6 : Int), tq_R t0 t → 0 ≤ l4 → 0 ≤ l6 → l6 ≤ sy_shl 1 (3 * N) → sy_shl 1 (3 * N) - l6 < (n : Int) → sy_shl 1 (3 * N) - l6 < (m : Int) → (dc_R_burned_35 m t (a : Int) N (-1) l4 l5 l6).2 = dc_Rows_howMany_4 n (dc_Rows_lookInto s (a : Int)) N l4 l6 := by
  have b9 := (st_b_of hs).2.1
  have sb := sg_shl10 (3 * N) (by omega) (by omega)
  induction n with
  | zero => intro m t l4 l5 l6 _ _ _ _ hn _; exact absurd hn (by omega)
  | succ n ih =>
    intro m t l4 l5 l6 hR l0 l60 l61 hn hm
    cases m with
    | zero => exact absurd hm (by omega)
    | succ m =>
      rw [dc_R_burned_35_s, dc_Rows_howMany_4_s, show dc_Rows_rowsOf (dc_Rows_lookInto s (a : Int)) N = sy_shl 1 (3 * N) from rfl]
      by_cases c : sy_shl 1 (3 * N) ≤ l6
      · rw [if_pos c, if_pos c, if_pos rfl]
      · rw [if_neg c, if_neg c, tq_is hs g h ha hR l6 n1 n3]
        have hR' := tq_nx g hR (a := (a : Int)) (row := l6) (by omega) (by omega) n1 n3 l60 (by omega)
        by_cases q : dc_Rows_fits (dc_Rows_lookInto s (a : Int)) l6 N = 0
        · rw [if_pos q, if_pos q]
          exact ih m _ _ _ _ hR' l0 (by omega) (by omega) (by omega) (by omega)
        · rw [if_neg q, if_neg q, if_neg (by omega)]
          exact ih m _ _ _ _ hR' (by omega) (by omega) (by omega) (by omega) (by omega)
theorem tq_fit {s t0 : sg_S} {a : Nat} (hs : sv t0) (g : t0 234 6 ≤ 0 ∨ t0 235 11 = -1) (h : r2 s t0) (ha : (a : Int) < t0 234 6) {N l3 : Int} (n1 : 1 ≤ N) (n3 : N ≤ 3) (h3 : 0 ≤ l3) (n : Nat) : ∀ (m : Nat) (t : sg_S) (l4 l6 : Int), tq_R t0 t → 0 ≤ l4 → l4 ≤ l3 → 0 ≤ l6 → l6 ≤ sy_shl 1 (3 * N) → sy_shl 1 (3 * N) - l6 < (n : Int) → sy_shl 1 (3 * N) - l6 < (m : Int) → (dc_R_burned_35 m t (a : Int) N l3 l4 (-1) l6).2 = dc_Rows_fitting_5 n (dc_Rows_lookInto s (a : Int)) N (l3 - l4) l6 := by
  have b9 := (st_b_of hs).2.1
  have sb := sg_shl10 (3 * N) (by omega) (by omega)
  induction n with
  | zero => intro m t l4 l6 _ _ _ _ _ hn _; exact absurd hn (by omega)
  | succ n ih =>
    intro m t l4 l6 hR l0 l43 l60 l61 hn hm
    cases m with
    | zero => exact absurd hm (by omega)
    | succ m =>
      rw [dc_R_burned_35_s, dc_Rows_fitting_5_s, show dc_Rows_rowsOf (dc_Rows_lookInto s (a : Int)) N = sy_shl 1 (3 * N) from rfl]
      by_cases c : sy_shl 1 (3 * N) ≤ l6
      · rw [if_pos c, if_pos c, if_neg (by omega)]
      · rw [if_neg c, if_neg c, if_neg (show ¬ l3 - l4 < 0 by omega), tq_is hs g h ha hR l6 n1 n3]
        have hR' := tq_nx g hR (a := (a : Int)) (row := l6) (by omega) (by omega) n1 n3 l60 (by omega)
        by_cases q : dc_Rows_fits (dc_Rows_lookInto s (a : Int)) l6 N = 0
        · rw [if_pos q, if_pos q]
          exact ih m _ _ _ hR' l0 l43 (by omega) (by omega) (by omega) (by omega)
        · rw [if_neg q, if_neg q]
          by_cases z : l4 = l3
          · rw [if_pos z, if_pos (by omega)]
            exact tq_skip _ _ _ (by omega) m _ _ _ _ (by omega) (by omega) (by omega)
          · rw [if_neg z, if_neg (by omega), show l3 - l4 + (-1) = l3 - (l4 + 1) by omega]
            exact ih m _ _ _ hR' (by omega) (by omega) (by omega) (by omega) (by omega) (by omega)
theorem an_burned {s t : sg_S} (ht : sv t) (g : t 234 6 ≤ 0 ∨ t 235 11 = -1) (h : r2 s t) (a1 a2 a3 : Int) : (dc_C_burned s a1 a2 a3).2 = (dc_R_burned t a1 a2 a3).2 := by
  have b := st_b_of ht
  have b0 := b.1
  have b9 := b.2.1
  unfold dc_C_burned dc_R_burned
  by_cases c1 : dc_R_isHouse t a1 = 0
  · rw [if_pos ((r2_hh h a1).mpr c1), if_pos c1]
  · have k1 : 0 ≤ a1 ∧ a1 < t 234 6 := Decidable.not_not.mp (fun z => c1 ((r1_hR t a1).mpr z))
    rw [if_neg (fun z => c1 ((r2_hh h a1).mp z)), if_neg c1]
    by_cases c2 : 1 ≤ a2 ∧ a2 ≤ 3
    · rw [if_neg (show ¬ a2 < 1 by omega), if_pos c2.2, if_neg (eq_in1 c2)]
      have sb := sg_shl10 (3 * a2) (by omega) (by omega)
      have hR : tq_R t t := ⟨ht, fun _ => rfl, fun _ _ => rfl⟩
      have ea : ((a1.toNat : Nat) : Int) = a1 := Int.toNat_of_nonneg k1.1
      by_cases c3 : a3 = -1
      · rw [if_pos c3, c3]
        have w := tq_cnt (a := a1.toNat) ht g h (by omega) c2.1 c2.2 513 513 t 0 (-1) 0 hR (by omega) (by omega) (by omega) (by omega) (by omega)
        rw [ea] at w
        exact w.symm
      · rw [if_neg c3]
        by_cases c4 : a3 < 0
        · rw [tq_skip a1 a2 a3 c3 513 t 0 (-1) 0 c4 (by omega) (by omega)]
          show dc_Rows_fitting_5 513 (dc_Rows_lookInto s a1) a2 a3 0 = -1
          rw [dc_Rows_fitting_5_s]
          by_cases c5 : dc_Rows_rowsOf (dc_Rows_lookInto s a1) a2 ≤ 0
          · rw [if_pos c5]
          · rw [if_neg c5, if_pos c4]
        · have w := tq_fit (a := a1.toNat) ht g h (by omega) c2.1 c2.2 (show 0 ≤ a3 by omega) 513 513 t 0 0 hR (by omega) (by omega) (by omega) (by omega) (by omega) (by omega)
          rw [ea, show a3 - 0 = a3 by omega] at w
          exact w.symm
    · rw [if_pos (eq_in0 c2)]
      (repeat' split) <;> first | rfl | omega
/-! sure -/
theorem tq_95n (t : sg_S) (X : Int) (hX : ∀ l : Int, 0 ≤ l → l < 8 → X ≠ sy_shl 1 l) (n : Nat) : ∀ l5 : Int, 0 ≤ l5 → l5 ≤ 8 → 8 - l5 < (n : Int) → (dc_R_sure_95 n t X l5).2 = -1 := by
  induction n with
  | zero => intro l5 _ h hn; exact absurd hn (by omega)
  | succ n ih =>
    intro l5 h0 h8 hn
    rw [dc_R_sure_95_s]
    by_cases c : 8 ≤ l5
    · rw [if_pos c]
    · rw [if_neg c, if_neg (hX l5 h0 (by omega))]
      exact ih _ (by omega) (by omega) (by omega)
theorem tq_one {x y : Int} (x0 : 0 ≤ x) (x8 : x < 9) (y0 : 0 ≤ y) (y8 : y < 9) (e : sy_shl 1 x = sy_shl 1 y) : x = y := by
  have a := yb_sh x0 (by omega) x.toNat
  rw [e, yb_sh y0 (by omega) x.toNat] at a
  have : y.toNat = x.toNat := by simpa using a
  omega
theorem tq_95y (t : sg_S) {c : Int} (c0 : 0 ≤ c) (c8 : c < 8) (n : Nat) : ∀ l5 : Int, 0 ≤ l5 → l5 ≤ c → 8 - l5 < (n : Int) → (dc_R_sure_95 n t (sy_shl 1 c) l5).2 = c := by
  induction n with
  | zero => intro l5 _ h hn; exact absurd hn (by omega)
  | succ n ih =>
    intro l5 h0 h8 hn
    rw [dc_R_sure_95_s, if_neg (show ¬ 8 ≤ l5 by omega)]
    by_cases q : sy_shl 1 c = sy_shl 1 l5
    · rw [if_pos q]
      exact (tq_one c0 (by omega) h0 (by omega) q).symm
    · rw [if_neg q]
      refine ih _ (by omega) ?_ (by omega)
      have : l5 ≠ c := fun z => q (by rw [z])
      omega
/-- two kinds stay two -/
theorem tq_two (l1 l2 l3 : Int) {i j : Nat} (hij : i ≠ j) (n : Nat) : ∀ (t : sg_S) (X l5 : Int), 0 ≤ X → X ≤ 511 → X.toNat.testBit i = true → X.toNat.testBit j = true → l5 ≤ sy_shl 1 (3 * l2) → sy_shl 1 (3 * l2) - l5 < (n : Int) → (dc_R_sure_43 n t l1 l2 l3 X l5).2 = -1 := by
  induction n with
  | zero => intro t X l5 _ _ _ _ h hn; exact absurd hn (by omega)
  | succ n ih =>
    intro t X l5 x0 x1 hi hj h5 hn
    rw [dc_R_sure_43_s]
    by_cases c : sy_shl 1 (3 * l2) ≤ l5
    · rw [if_pos c]
      refine tq_95n t X (fun l l0 l8 e => ?_) 9 0 (by omega) (by omega) (by omega)
      rw [e, yb_sh l0 (by omega)] at hi hj
      have h1 : l.toNat = i := by simpa using hi
      have h2 : l.toNat = j := by simpa using hj
      exact hij (h1.symm.trans h2)
    · rw [if_neg c]
      have kb := sg_and_r (sy_shr l5 (3 * (l2 - l3))) 7 (by omega) (by omega)
      by_cases q : (dc_R_isSo t l1 l2 l5).2 = 0
      · rw [if_pos q, yo_0 ⟨by omega, by omega⟩]
        exact ih _ _ _ x0 x1 hi hj (by omega) (by omega)
      · rw [if_neg q]
        have hs := sg_shl9 _ kb.1 (show sy_and (sy_shr l5 (3 * (l2 - l3))) 7 < 9 by omega)
        have ho := sg_or9 X _ x0 x1 (show 0 ≤ sy_shl 1 (sy_and (sy_shr l5 (3 * (l2 - l3))) 7) by omega) (by omega)
        refine ih _ _ _ ho.1 ho.2 ?_ ?_ (by omega) (by omega)
        · rw [yb_or x0 (by omega) (by omega) (by omega), hi, Bool.true_or]
        · rw [yb_or x0 (by omega) (by omega) (by omega), hj, Bool.true_or]
theorem tq_sure {s t0 : sg_S} {a : Nat} (hs : sv t0) (g : t0 234 6 ≤ 0 ∨ t0 235 11 = -1) (h : r2 s t0) (ha : (a : Int) < t0 234 6) {N M : Int} (n1 : 1 ≤ N) (n3 : N ≤ 3) (n : Nat) : ∀ (m : Nat) (t : sg_S) (c X l5 : Int), tq_R t0 t → ((c = -1 ∧ X = 0) ∨ (0 ≤ c ∧ c < 8 ∧ X = sy_shl 1 c)) → 0 ≤ l5 → l5 ≤ sy_shl 1 (3 * N) → sy_shl 1 (3 * N) - l5 < (n : Int) → sy_shl 1 (3 * N) - l5 < (m : Int) → (dc_R_sure_43 m t (a : Int) N M X l5).2 = dc_Rows_sameInAll_5 n (dc_Rows_lookInto s (a : Int)) N M c l5 := by
  have b9 := (st_b_of hs).2.1
  have sb := sg_shl10 (3 * N) (by omega) (by omega)
  induction n with
  | zero => intro m t c X l5 _ _ _ _ hn _; exact absurd hn (by omega)
  | succ n ih =>
    intro m t c X l5 hR hX l50 l51 hn hm
    cases m with
    | zero => exact absurd hm (by omega)
    | succ m =>
      have xb : 0 ≤ X ∧ X ≤ 511 := by
        rcases hX with ⟨_, q⟩ | ⟨q1, q2, q3⟩
        · omega
        · have := sg_shl9 c q1 (by omega)
          omega
      rw [dc_R_sure_43_s, dc_Rows_sameInAll_5_s, show dc_Rows_rowsOf (dc_Rows_lookInto s (a : Int)) N = sy_shl 1 (3 * N) from rfl]
      by_cases p : sy_shl 1 (3 * N) ≤ l5
      · rw [if_pos p, if_pos p]
        rcases hX with ⟨q1, q2⟩ | ⟨q1, q2, q3⟩
        · rw [q1]
          refine tq_95n t X (fun l l0 l8 e => ?_) 9 0 (by omega) (by omega) (by omega)
          have := sg_shl9 l l0 (by omega)
          omega
        · rw [q3]
          exact tq_95y t q1 q2 9 0 (by omega) q1 (by omega)
      · rw [if_neg p, if_neg p, tq_is hs g h ha hR l5 n1 n3]
        have hR' := tq_nx g hR (a := (a : Int)) (row := l5) (by omega) (by omega) n1 n3 l50 (by omega)
        by_cases q : dc_Rows_fits (dc_Rows_lookInto s (a : Int)) l5 N = 0
        · rw [if_pos q, if_pos q, yo_0 ⟨by omega, by omega⟩]
          exact ih m _ _ _ _ hR' hX (by omega) (by omega) (by omega) (by omega)
        · rw [if_neg q, if_neg q, show dc_Rows_kindIn (dc_Rows_lookInto s (a : Int)) l5 N M = sy_and (sy_shr l5 (3 * (N - M))) 7 from rfl]
          have kb := sg_and_r (sy_shr l5 (3 * (N - M))) 7 (by omega) (by omega)
          generalize sy_and (sy_shr l5 (3 * (N - M))) 7 = K at kb ⊢
          have kh := sg_shl9 K kb.1 (by omega)
          by_cases z : c = -1
          · have hx0 : X = 0 := by omega
            rw [if_pos z, hx0, yo_c, yo_0 ⟨by omega, by omega⟩]
            exact ih m _ _ _ _ hR' (Or.inr ⟨kb.1, by omega, rfl⟩) (by omega) (by omega) (by omega) (by omega)
          · rw [if_neg z]
            have hc : 0 ≤ c ∧ c < 8 ∧ X = sy_shl 1 c := by
              rcases hX with ⟨w, _⟩ | w
              · exact absurd w z
              · exact w
            have ch := sg_shl9 c hc.1 (by omega)
            by_cases y : c = K
            · rw [if_pos y, hc.2.2, y]
              have e : sy_or (sy_shl 1 K) (sy_shl 1 K) = sy_shl 1 K := yb_ext (sg_or9 _ _ (by omega) (by omega) (by omega) (by omega)).1 (by omega) (fun j => by rw [yb_or (by omega) (by omega) (by omega) (by omega), Bool.or_self])
              rw [e]
              exact ih m _ _ _ _ hR' (Or.inr ⟨kb.1, by omega, rfl⟩) (by omega) (by omega) (by omega) (by omega)
            · rw [if_neg y, hc.2.2]
              have ho := sg_or9 (sy_shl 1 c) (sy_shl 1 K) (by omega) (by omega) (by omega) (by omega)
              refine tq_two (a : Int) N M (i := c.toNat) (j := K.toNat) (by omega) m _ _ _ ho.1 ho.2 ?_ ?_ (by omega) (by omega)
              · rw [yb_or (by omega) (by omega) (by omega) (by omega), yb_sh hc.1 (by omega)]
                simp
              · rw [yb_or (by omega) (by omega) (by omega) (by omega), yb_sh kb.1 (by omega)]
                simp
theorem an_sure {s t : sg_S} (ht : sv t) (g : t 234 6 ≤ 0 ∨ t 235 11 = -1) (h : r2 s t) (a1 a2 a3 : Int) : (dc_C_sure s a1 a2 a3).2 = (dc_R_sure t a1 a2 a3).2 := by
  have b := st_b_of ht
  have b0 := b.1
  have b9 := b.2.1
  unfold dc_C_sure dc_R_sure
  by_cases c1 : dc_R_isHouse t a1 = 0
  · rw [if_pos ((r2_hh h a1).mpr c1), if_pos c1]
  · have k1 : 0 ≤ a1 ∧ a1 < t 234 6 := Decidable.not_not.mp (fun z => c1 ((r1_hR t a1).mpr z))
    rw [if_neg (fun z => c1 ((r2_hh h a1).mp z)), if_neg c1]
    by_cases c2 : 1 ≤ a2 ∧ a2 ≤ 3
    · rw [if_neg (show ¬ a2 < 1 by omega), if_neg (show ¬ 3 < a2 by omega), if_neg (eq_in1 c2)]
      by_cases c3 : 1 ≤ a3 ∧ a3 ≤ a2
      · rw [if_neg (show ¬ a3 < 1 by omega), if_pos c3.2, if_neg (eq_in1 c3)]
        have sb := sg_shl10 (3 * a2) (by omega) (by omega)
        have hR : tq_R t t := ⟨ht, fun _ => rfl, fun _ _ => rfl⟩
        have ea : ((a1.toNat : Nat) : Int) = a1 := Int.toNat_of_nonneg k1.1
        have w := tq_sure (a := a1.toNat) (M := a3) ht g h (by omega) c2.1 c2.2 513 513 t (-1) 0 0 hR (Or.inl ⟨rfl, rfl⟩) (by omega) (by omega) (by omega) (by omega)
        rw [ea] at w
        exact w.symm
      · rw [if_pos (eq_in0 c3)]
        (repeat' split) <;> first | rfl | omega
    · rw [if_pos (eq_in0 c2)]
      (repeat' split) <;> first | rfl | omega
