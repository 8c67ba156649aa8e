/-! WHAT BOTH SIDES SHOW ALIKE: text, fault, city, what was seen and written, which images are kept -/
def r1_L : List (Nat × Nat × Nat × Nat) := [(1, 2, 234, 10), (1, 5, 234, 15), (8, 0, 234, 3), (8, 1, 234, 4), (8, 2, 234, 5), (8, 3, 234, 6), (8, 4, 234, 7), (217, 3, 234, 31), (221, 2, 234, 35), (204, 0, 236, 0), (204, 1, 236, 1)]
def r1 (s : sg_S) : Prop := (∀ p ∈ r1_L, s p.1 p.2.1 = s p.2.2.1 p.2.2.2) ∧ (∀ k : Nat, (k : Int) < s 1 2 → s 2 k = s 238 k)
theorem r1_J {s t : sg_S} {dw : Nat → Nat → Bool} (L' : List (Nat × Nat × Nat × Nat)) (hfr : ∀ a k, dw a k = false → t a k = s a k) (h1 : r1_L.all (fun p => decide (p ∈ L') || (!dw p.1 p.2.1 && !dw p.2.2.1 p.2.2.2)) = true) (h4 : ∀ p ∈ L', t p.1 p.2.1 = t p.2.2.1 p.2.2.2) (h5 : ∀ k : Nat, (k : Int) < t 1 2 → t 2 k = t 238 k) (h : r1 s) : r1 t := by
  refine ⟨fun p hp => ?_, h5⟩
  have := List.all_eq_true.mp h1 p hp
  rw [Bool.or_eq_true, decide_eq_true_eq, Bool.and_eq_true, Bool.not_eq_true', Bool.not_eq_true'] at this
  rcases this with q | q
  · exact h4 p q
  · rw [hfr _ _ q.1, hfr _ _ q.2]
    exact h.1 p hp
theorem r1_K {s t : sg_S} {dw : Nat → Nat → Bool} (hfr : ∀ a k, dw a k = false → t a k = s a k) (h1 : r1_L.all (fun p => decide (p ∈ ([] : List (Nat × Nat × Nat × Nat))) || (!dw p.1 p.2.1 && !dw p.2.2.1 p.2.2.2)) = true) (h0 : dw 1 2 = false) (h2 : ∀ k, dw 2 k = false) (h3 : ∀ k, dw 238 k = false) (h : r1 s) : r1 t :=
  r1_J [] hfr h1 (fun p hp => absurd hp List.not_mem_nil) (fun k hk => by
    rw [hfr 1 2 h0] at hk
    rw [hfr 2 k (h2 k), hfr 238 k (h3 k)]
    exact h.2 k hk) h
theorem r1_len {s : sg_S} (h : r1 s) : s 1 2 = s 234 10 := h.1 (1, 2, 234, 10) (by decide)
theorem r1_flt {s : sg_S} (h : r1 s) : s 1 5 = s 234 15 := h.1 (1, 5, 234, 15) (by decide)
theorem r1_told {s : sg_S} (h : r1 s) : s 8 0 = s 234 3 := h.1 (8, 0, 234, 3) (by decide)
theorem r1_houses {s : sg_S} (h : r1 s) : s 8 3 = s 234 6 := h.1 (8, 3, 234, 6) (by decide)
theorem r1_sweeps {s : sg_S} (h : r1 s) : s 8 4 = s 234 7 := h.1 (8, 4, 234, 7) (by decide)
theorem r1_seen {s : sg_S} (h : r1 s) : s 217 3 = s 234 31 := h.1 (217, 3, 234, 31) (by decide)
theorem r1_book {s : sg_S} (h : r1 s) : s 221 2 = s 234 35 := h.1 (221, 2, 234, 35) (by decide)
theorem r1_kept {s : sg_S} (h : r1 s) (i : Nat) (hi : i < 2) : s 204 i = s 236 i := by
  match i, hi with
  | 0, _ => exact h.1 (204, 0, 236, 0) (by decide)
  | 1, _ => exact h.1 (204, 1, 236, 1) (by decide)
  | n + 2, hi => exact absurd hi (by omega)
/-! houses -/
theorem r1_hC (s : sg_S) (a : Int) : dc_C_isHouse s a = 0 ↔ ¬ (0 ≤ a ∧ a < s 8 3) := by
  unfold dc_C_isHouse
  (repeat' split) <;> omega
theorem r1_hR (s : sg_S) (a : Int) : dc_R_isHouse s a = 0 ↔ ¬ (0 ≤ a ∧ a < s 234 6) := by
  unfold dc_R_isHouse dc_R_in
  (repeat' split) <;> omega
/-! THE CITY -/
def cy_O (s : sg_S) (r : sg_S × Int) : Prop := r.1 234 3 = s 234 3 ∧ r.1 234 4 = s 234 4 ∧ r.1 234 5 = s 234 5 ∧ r.1 234 6 = s 234 6 ∧ r.1 234 7 = s 234 7 ∧ r.1 234 15 = s 234 15 ∧ r.1 234 31 = 0 ∧ r.1 234 35 = 0 ∧ r.1 236 0 = 0 ∧ r.1 236 1 = 0 ∧ r.2 = s 234 6
theorem cy_tr {s t : sg_S} {r : sg_S × Int} (h : cy_O t r) (e : ∀ k, t 234 k = s 234 k) : cy_O s r := by
  obtain ⟨h1, h2, h3, h4, h5, h6, h7, h8, h9, h10, h11⟩ := h
  rw [e] at h1 h2 h3 h4 h5 h6 h11
  exact ⟨h1, h2, h3, h4, h5, h6, h7, h8, h9, h10, h11⟩
theorem cy_203 (n : Nat) : ∀ (s : sg_S) (l3 : Int), l3 ≤ 5 → s 234 7 ≤ 5 → 5 - l3 < (n : Int) → cy_O s (dc_R_city_203 n s l3) := by
  induction n with
  | zero => intro s l3 h1 h7 hn; exact absurd hn (by omega)
  | succ n ih =>
    intro s l3 h1 h7 hn
    rw [dc_R_city_203_s]
    split
    · refine ⟨?_, ?_, ?_, ?_, ?_, ?_, ?_, ?_, ?_, ?_, rfl⟩ <;> dsimp only
      · rw [sg_na (by decide), sg_na (by decide), sg_nk (by decide), sg_nk (by decide), sg_nk (by decide)]
      · rw [sg_na (by decide), sg_na (by decide), sg_nk (by decide), sg_nk (by decide), sg_nk (by decide)]
      · rw [sg_na (by decide), sg_na (by decide), sg_nk (by decide), sg_nk (by decide), sg_nk (by decide)]
      · rw [sg_na (by decide), sg_na (by decide), sg_nk (by decide), sg_nk (by decide), sg_nk (by decide)]
      · rw [sg_na (by decide), sg_na (by decide), sg_nk (by decide), sg_nk (by decide), sg_nk (by decide)]
      · rw [sg_na (by decide), sg_na (by decide), sg_nk (by decide), sg_nk (by decide), sg_nk (by decide)]
      · rw [sg_na (by decide), sg_na (by decide), sg_nk (by decide), sg_nk (by decide), sg_eq]
      · rw [sg_na (by decide), sg_na (by decide), sg_nk (by decide), sg_eq]
      · rw [sg_nk (by decide), sg_eq]
      · rw [sg_eq]
    · refine cy_tr (ih _ _ (by omega) ?_ (by omega)) (fun k => by rw [sg_na (by decide), sg_na (by decide)])
      rw [sg_na (by decide), sg_na (by decide)]
      exact h7
theorem cy_158 (n : Nat) : ∀ (s : sg_S) (l3 : Int), l3 ≤ 9 → s 234 6 ≤ 9 → s 234 7 ≤ 5 → 9 - l3 < (n : Int) → cy_O s (dc_R_city_158 n s l3) := by
  induction n with
  | zero => intro s l3 h1 h6 h7 hn; exact absurd hn (by omega)
  | succ n ih =>
    intro s l3 h1 h6 h7 hn
    rw [dc_R_city_158_s]
    split
    · exact cy_203 6 s 0 (by omega) h7 (by omega)
    · refine cy_tr (ih _ _ (by omega) ?_ ?_ (by omega)) (fun k => by rw [sg_na (by decide), sg_na (by decide)])
      · rw [sg_na (by decide), sg_na (by decide)]; exact h6
      · rw [sg_na (by decide), sg_na (by decide)]; exact h7
theorem cy_89 (n : Nat) : ∀ (s : sg_S) (l2 l3 : Int), l3 ≤ 112 → s 234 19 ≤ 9 → s 234 22 ≤ 5 → 112 - l3 < (n : Int) → (dc_R_city_89 n s l2 l3).1 234 3 = s 234 16 ∧ (dc_R_city_89 n s l2 l3).1 234 4 = s 234 17 ∧ (dc_R_city_89 n s l2 l3).1 234 5 = s 234 18 ∧ (dc_R_city_89 n s l2 l3).1 234 6 = s 234 19 ∧ (dc_R_city_89 n s l2 l3).1 234 7 = s 234 22 ∧ (dc_R_city_89 n s l2 l3).1 234 15 = s 234 15 ∧ (dc_R_city_89 n s l2 l3).1 234 31 = 0 ∧ (dc_R_city_89 n s l2 l3).1 234 35 = 0 ∧ (dc_R_city_89 n s l2 l3).1 236 0 = 0 ∧ (dc_R_city_89 n s l2 l3).1 236 1 = 0 ∧ (dc_R_city_89 n s l2 l3).2 = s 234 19 := by
  induction n with
  | zero => intro s l2 l3 hx h6 h7 hn; exact absurd hn (by omega)
  | succ n ih =>
    intro s l2 l3 hx h6 h7 hn
    rw [dc_R_city_89_s]
    split
    · have := cy_158 10 (sg_up (sg_up (sg_up (sg_up (sg_up (sg_up s 235 111 l2) 234 3 (s 234 16)) 234 4 (s 234 17)) 234 5 (s 234 18)) 234 6 (s 234 19)) 234 7 (s 234 22)) 0 (by omega) (by rw [sg_nk (by decide), sg_eq]; exact h6) (by rw [sg_eq]; exact h7) (by omega)
      obtain ⟨q1, q2, q3, q4, q5, q6, q7, q8, q9, q10, q11⟩ := this
      rw [sg_nk (by decide), sg_nk (by decide), sg_nk (by decide), sg_nk (by decide), sg_eq] at q1
      rw [sg_nk (by decide), sg_nk (by decide), sg_nk (by decide), sg_eq] at q2
      rw [sg_nk (by decide), sg_nk (by decide), sg_eq] at q3
      rw [sg_nk (by decide), sg_eq] at q4 q11
      rw [sg_eq] at q5
      rw [sg_nk (by decide), sg_nk (by decide), sg_nk (by decide), sg_nk (by decide), sg_nk (by decide), sg_na (by decide)] at q6
      exact ⟨q1, q2, q3, q4, q5, q6, q7, q8, q9, q10, q11⟩
    · have := ih (sg_up s 235 ((l3).toNat) 0) l2 (l3 + 1) (by omega) (by rw [sg_na (by decide)]; exact h6) (by rw [sg_na (by decide)]; exact h7) (by omega)
      simp only [sg_na (show (234 : Nat) ≠ 235 by decide)] at this
      exact this
theorem cy_forget (s : sg_S) : dc_Im_forget s 204 0 = 0 ∧ dc_Im_forget s 204 1 = 0 := by
  have e : dc_Im_forget s = sg_up (sg_up s 204 ((0 : Int).toNat) 0) 204 ((0 + 1 : Int).toNat) 0 := by
    show dc_Im_forget_2 3 s 0 = _
    rw [dc_Im_forget_2_s, if_neg (by decide), dc_Im_forget_2_s, if_neg (by decide), dc_Im_forget_2_s, if_pos (by decide)]
  rw [e]
  constructor
  · show sg_up (sg_up s 204 0 0) 204 1 0 204 0 = 0
    rw [sg_nk (by decide), sg_eq]
  · show sg_up (sg_up s 204 0 0) 204 1 0 204 1 = 0
    rw [sg_eq]
theorem cy_plan (s : sg_S) : dc_Plan_copyFrom s 8 0 = s 3 0 ∧ dc_Plan_copyFrom s 8 1 = s 3 1 ∧ dc_Plan_copyFrom s 8 2 = s 3 2 ∧ dc_Plan_copyFrom s 8 3 = s 3 3 ∧ dc_Plan_copyFrom s 8 4 = s 3 4 := by
  unfold dc_Plan_copyFrom
  refine ⟨?_, ?_, ?_, ?_, ?_⟩
  · rw [sg_cpn (by decide), sg_cpn (by decide), sg_cpn (by decide), sg_cpn (by decide), sg_nk (by decide), sg_nk (by decide), sg_nk (by decide), sg_nk (by decide), sg_eq]
  · rw [sg_cpn (by decide), sg_cpn (by decide), sg_cpn (by decide), sg_cpn (by decide), sg_nk (by decide), sg_nk (by decide), sg_nk (by decide), sg_eq]
  · rw [sg_cpn (by decide), sg_cpn (by decide), sg_cpn (by decide), sg_cpn (by decide), sg_nk (by decide), sg_nk (by decide), sg_eq]
  · rw [sg_cpn (by decide), sg_cpn (by decide), sg_cpn (by decide), sg_cpn (by decide), sg_nk (by decide), sg_eq]
  · rw [sg_cpn (by decide), sg_cpn (by decide), sg_cpn (by decide), sg_cpn (by decide), sg_eq]
def cy_X (S : sg_S) : sg_S := dc_Im_forget (dc_Past_forget (dc_St_begin (dc_Plan_copyFrom S)))
theorem cy_Xf (S : sg_S) (a k : Nat) (h1 : dw_Im_forget a k = false) (h2 : dw_Past_forget a k = false) (h3 : dw_St_begin a k = false) : cy_X S a k = dc_Plan_copyFrom S a k := by
  unfold cy_X
  rw [dr_Im_forget _ a k h1, dr_Past_forget _ a k h2, dr_St_begin _ a k h3]
theorem r1_city {s : sg_S} (hs : sv s) (h : r1 s) : (dc_C_city s).2 = (dc_R_city (dc_C_city s).1).2 ∧ r1 (dc_R_city (dc_C_city s).1).1 := by
  have b := sv_bd hs (a := 1) (k := 2) rfl (by decide) rfl
  have hT : tx_T s (dc_C_city s).1 := by
    refine ⟨?_, b.1, b.2, fun k hk => ?_⟩
    · rw [dr_C_city s 234 10 rfl]; exact r1_len h
    · rw [dr_C_city s 238 k rfl]
      exact ⟨h.2 k hk, (sv_bd hs (a := 238) (k := k) (lo := 0) (hi := 255) rfl (by omega) (ab_el_1 rfl _)).1⟩
  obtain ⟨s', t', e1, e2, e3⟩ := tx_all hT
  have hlen0 := tl_C_city s
  have S4 : dc_Text_readAll s 1 4 = s' 1 4 := by rw [e1, sg_nk (by decide)]
  have S5 : dc_Text_readAll s 1 5 = s' 1 5 := by rw [e1, sg_nk (by decide)]
  have t12 : (dc_R_city (dc_C_city s).1).1 1 2 = 0 := (dr_R_city _ 1 2 rfl).trans hlen0
  have hnk : ∀ k : Nat, (k : Int) < (dc_R_city (dc_C_city s).1).1 1 2 → (dc_R_city (dc_C_city s).1).1 2 k = (dc_R_city (dc_C_city s).1).1 238 k := fun k hk => absurd hk (by rw [t12]; omega)
  rcases e3 with ⟨g1, g2, g3, g4⟩ | ⟨g1, g2, g3⟩
  · have hC : dc_C_city s = (dc_Text_readAll s, (-10) - dc_Text_readAll s 1 4) := if_neg (by rw [S4]; exact g1)
    have hR : ∀ a k, dw_R_takesClause a k = false → (234, 10) ≠ (a, k) → (dc_R_city (dc_C_city s).1).1 a k = (dc_C_city s).1 a k := fun a k q z => by
      rw [g4]
      exact (if_neg (fun y => z (by rw [y.1, y.2]))).trans (e2 a k q)
    refine ⟨?_, ⟨fun p hp => ?_, hnk⟩⟩
    · rw [g4, hC]
      show (-10) - dc_Text_readAll s 1 4 = (-10) - t' 234 14
      rw [S4, g2]
    · have hc : ∀ a k, dw_Text_readAll a k = false → (dc_C_city s).1 a k = s a k := fun a k q => by rw [hC]; exact dr_Text_readAll s a k q
      have keep : ∀ a k b l, dw_R_takesClause a k = false → dw_R_takesClause b l = false → (234, 10) ≠ (a, k) → (234, 10) ≠ (b, l) → dw_Text_readAll a k = false → dw_Text_readAll b l = false → s a k = s b l → (dc_R_city (dc_C_city s).1).1 a k = (dc_R_city (dc_C_city s).1).1 b l := fun a k b l q1 q2 q3 q4 q5 q6 q7 => by
        rw [hR a k q1 q3, hR b l q2 q4, hc a k q5, hc b l q6]; exact q7
      have hp' := h.1 p hp
      simp only [r1_L, List.mem_cons, List.not_mem_nil, or_false] at hp
      rcases hp with rfl | rfl | rfl | rfl | rfl | rfl | rfl | rfl | rfl | rfl | rfl
      · show (dc_R_city (dc_C_city s).1).1 1 2 = (dc_R_city (dc_C_city s).1).1 234 10
        rw [t12, g4]
        show (0 : Int) = sg_up t' 234 10 0 234 10
        rw [sg_eq]
      · show (dc_R_city (dc_C_city s).1).1 1 5 = (dc_R_city (dc_C_city s).1).1 234 15
        rw [dr_R_city _ 1 5 rfl, g4, hC]
        show dc_Text_readAll s 1 5 = sg_up t' 234 10 0 234 15
        rw [S5, g3, sg_nk (by decide)]
      · exact keep 8 0 234 3 rfl rfl (by decide) (by decide) rfl rfl hp'
      · exact keep 8 1 234 4 rfl rfl (by decide) (by decide) rfl rfl hp'
      · exact keep 8 2 234 5 rfl rfl (by decide) (by decide) rfl rfl hp'
      · exact keep 8 3 234 6 rfl rfl (by decide) (by decide) rfl rfl hp'
      · exact keep 8 4 234 7 rfl rfl (by decide) (by decide) rfl rfl hp'
      · exact keep 217 3 234 31 rfl rfl (by decide) (by decide) rfl rfl hp'
      · exact keep 221 2 234 35 rfl rfl (by decide) (by decide) rfl rfl hp'
      · exact keep 204 0 236 0 rfl rfl (by decide) (by decide) rfl rfl hp'
      · exact keep 204 1 236 1 rfl rfl (by decide) (by decide) rfl rfl hp'
  · have hC : dc_C_city s = ((sg_up (sg_up (cy_X (dc_Text_readAll s)) 217 3 0) 221 2 0), (cy_X (dc_Text_readAll s)) 8 3) := if_pos (by rw [S4]; exact g1)
    obtain ⟨hA, hD, h4, h5, h15⟩ := g2
    obtain ⟨d0, d1, d2, d3, d4, d5, d6, d7, d8, d9, d10⟩ := hD
    have c := cy_89 113 (sg_up t' 234 10 0) (t' 235 111) 0 (by omega) (by rw [sg_nk (by decide), ← d3]; exact d6) (by rw [sg_nk (by decide), ← d4]; exact d8) (by omega)
    rw [← g3] at c
    obtain ⟨c1, c2, c3, c4, c5, c6, c7, c8, c9, c10, c11⟩ := c
    rw [sg_nk (by decide)] at c1 c2 c3 c4 c5 c6 c11
    have S3 : ∀ k, dc_Text_readAll s 3 k = s' 3 k := fun k => by rw [e1, sg_na (by decide)]
    have P := cy_plan (dc_Text_readAll s)
    rw [S3, S3, S3, S3, S3] at P
    have X8 : ∀ k, cy_X (dc_Text_readAll s) 8 k = dc_Plan_copyFrom (dc_Text_readAll s) 8 k := fun k => cy_Xf _ 8 k rfl rfl rfl
    have R8 : ∀ k, (dc_R_city (dc_C_city s).1).1 8 k = cy_X (dc_Text_readAll s) 8 k := fun k => by
      rw [dr_R_city _ 8 k rfl, hC]
      show sg_up (sg_up (cy_X (dc_Text_readAll s)) 217 3 0) 221 2 0 8 k = _
      rw [sg_na (by decide), sg_na (by decide)]
    refine ⟨?_, ⟨fun p hp => ?_, hnk⟩⟩
    · rw [c11, hC]
      show cy_X (dc_Text_readAll s) 8 3 = t' 234 19
      rw [X8, P.2.2.2.1, d3]
    · simp only [r1_L, List.mem_cons, List.not_mem_nil, or_false] at hp
      rcases hp with rfl | rfl | rfl | rfl | rfl | rfl | rfl | rfl | rfl | rfl | rfl
      · show (dc_R_city (dc_C_city s).1).1 1 2 = (dc_R_city (dc_C_city s).1).1 234 10
        rw [t12, g3, tl_R_89, sg_eq]
      · show (dc_R_city (dc_C_city s).1).1 1 5 = (dc_R_city (dc_C_city s).1).1 234 15
        rw [c6, dr_R_city _ 1 5 rfl, hC]
        show sg_up (sg_up (cy_X (dc_Text_readAll s)) 217 3 0) 221 2 0 1 5 = _
        rw [sg_na (by decide), sg_na (by decide), cy_Xf _ 1 5 rfl rfl rfl, dr_Plan_copyFrom _ 1 5 rfl, S5, h5, h15]
      · show (dc_R_city (dc_C_city s).1).1 8 0 = (dc_R_city (dc_C_city s).1).1 234 3
        rw [R8, X8, P.1, c1, d0]
      · show (dc_R_city (dc_C_city s).1).1 8 1 = (dc_R_city (dc_C_city s).1).1 234 4
        rw [R8, X8, P.2.1, c2, d1]
      · show (dc_R_city (dc_C_city s).1).1 8 2 = (dc_R_city (dc_C_city s).1).1 234 5
        rw [R8, X8, P.2.2.1, c3, d2]
      · show (dc_R_city (dc_C_city s).1).1 8 3 = (dc_R_city (dc_C_city s).1).1 234 6
        rw [R8, X8, P.2.2.2.1, c4, d3]
      · show (dc_R_city (dc_C_city s).1).1 8 4 = (dc_R_city (dc_C_city s).1).1 234 7
        rw [R8, X8, P.2.2.2.2, c5, d4]
      · show (dc_R_city (dc_C_city s).1).1 217 3 = (dc_R_city (dc_C_city s).1).1 234 31
        rw [c7, dr_R_city _ 217 3 rfl, hC]
        show sg_up (sg_up (cy_X (dc_Text_readAll s)) 217 3 0) 221 2 0 217 3 = 0
        rw [sg_na (by decide), sg_eq]
      · show (dc_R_city (dc_C_city s).1).1 221 2 = (dc_R_city (dc_C_city s).1).1 234 35
        rw [c8, dr_R_city _ 221 2 rfl, hC]
        show sg_up (sg_up (cy_X (dc_Text_readAll s)) 217 3 0) 221 2 0 221 2 = 0
        rw [sg_eq]
      · show (dc_R_city (dc_C_city s).1).1 204 0 = (dc_R_city (dc_C_city s).1).1 236 0
        rw [c9, dr_R_city _ 204 0 rfl, hC]
        show sg_up (sg_up (cy_X (dc_Text_readAll s)) 217 3 0) 221 2 0 204 0 = 0
        rw [sg_na (by decide), sg_na (by decide)]
        exact (cy_forget _).1
      · show (dc_R_city (dc_C_city s).1).1 204 1 = (dc_R_city (dc_C_city s).1).1 236 1
        rw [c10, dr_R_city _ 204 1 rfl, hC]
        show sg_up (sg_up (cy_X (dc_Text_readAll s)) 217 3 0) 221 2 0 204 1 = 0
        rw [sg_na (by decide), sg_na (by decide)]
        exact (cy_forget _).2
