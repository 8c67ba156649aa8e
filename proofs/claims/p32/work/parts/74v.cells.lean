/-! WHICH CELLS THE CALLS LEAVE -/
theorem dz_R_feed {a : Nat} (k : Nat) (ha : a < 234) : dw_R_feed a k = false := by
  have n234 : (a == 234) = false := by simp; omega
  have n238 : (a == 238) = false := by simp; omega
  simp only [dw_R_feed, n234, n238, Bool.false_and, Bool.or_self]
theorem dz_R_city {a : Nat} (k : Nat) (ha : a < 234) : dw_R_city a k = false := by
  have n234 : (a == 234) = false := by simp; omega
  have n235 : (a == 235) = false := by simp; omega
  have n236 : (a == 236) = false := by simp; omega
  have n237 : (a == 237) = false := by simp; omega
  have n239 : (a == 239) = false := by simp; omega
  have n240 : (a == 240) = false := by simp; omega
  have n241 : (a == 241) = false := by simp; omega
  have n242 : (a == 242) = false := by simp; omega
  simp only [dw_R_city, dw_R_here, dw_R_takesClause, dw_R_takesSweep, dw_R_takesNumber, dw_R_fails, dw_R_takes, dw_R_takesHouse, dw_R_takesCity, n234, n235, n236, n237, n239, n240, n241, n242, Bool.false_and, Bool.or_self]
theorem dz_R_month {a : Nat} (k : Nat) (ha : a < 234) : dw_R_month a k = false := by
  have n234 : (a == 234) = false := by simp; omega
  have n235 : (a == 235) = false := by simp; omega
  simp only [dw_R_month, dw_R_minds, dw_R_copy, dw_R_passes, dw_R_lays, n234, n235, Bool.false_and, Bool.or_self]
theorem dz_R_fire {a : Nat} (k : Nat) (ha : a < 234) : dw_R_fire a k = false := by
  have n234 : (a == 234) = false := by simp; omega
  have n235 : (a == 235) = false := by simp; omega
  simp only [dw_R_fire, dw_R_minds, dw_R_copy, n234, n235, Bool.false_and, Bool.or_self]
theorem dz_R_rain {a : Nat} (k : Nat) (ha : a < 234) : dw_R_rain a k = false := by
  have n234 : (a == 234) = false := by simp; omega
  have n235 : (a == 235) = false := by simp; omega
  simp only [dw_R_rain, dw_R_minds, dw_R_copy, dw_R_washes, n234, n235, Bool.false_and, Bool.or_self]
theorem dz_R_swept {a : Nat} (k : Nat) (ha : a < 234) : dw_R_swept a k = false := by
  have n234 : (a == 234) = false := by simp; omega
  have n235 : (a == 235) = false := by simp; omega
  simp only [dw_R_swept, dw_R_minds, dw_R_copy, n234, n235, Bool.false_and, Bool.or_self]
theorem dz_R_run {a : Nat} (k : Nat) (ha : a < 234) : dw_R_run a k = false := by
  have n234 : (a == 234) = false := by simp; omega
  have n235 : (a == 235) = false := by simp; omega
  simp only [dw_R_run, dw_R_minds, dw_R_copy, n234, n235, Bool.false_and, Bool.or_self]
theorem dz_R_swap {a : Nat} (k : Nat) (ha : a < 234) : dw_R_swap a k = false := by
  have n234 : (a == 234) = false := by simp; omega
  have n235 : (a == 235) = false := by simp; omega
  simp only [dw_R_swap, dw_R_minds, dw_R_copy, n234, n235, Bool.false_and, Bool.or_self]
theorem dz_R_pay {a : Nat} (k : Nat) (ha : a < 234) : dw_R_pay a k = false := by
  have n234 : (a == 234) = false := by simp; omega
  have n235 : (a == 235) = false := by simp; omega
  simp only [dw_R_pay, dw_R_minds, dw_R_copy, n234, n235, Bool.false_and, Bool.or_self]
theorem dz_R_drift {a : Nat} (k : Nat) (ha : a < 234) : dw_R_drift a k = false := by
  have n234 : (a == 234) = false := by simp; omega
  have n235 : (a == 235) = false := by simp; omega
  simp only [dw_R_drift, dw_R_minds, dw_R_copy, dw_R_passes, dw_R_lays, dw_R_draw, dw_R_washes, n234, n235, Bool.false_and, Bool.or_self]
theorem dz_R_undo {a : Nat} (k : Nat) (ha : a < 234) : dw_R_undo a k = false := by
  have n234 : (a == 234) = false := by simp; omega
  have n235 : (a == 235) = false := by simp; omega
  simp only [dw_R_undo, dw_R_copy, n234, n235, Bool.false_and, Bool.or_self]
theorem dz_R_burned {a : Nat} (k : Nat) (ha : a < 234) : dw_R_burned a k = false := by
  have n235 : (a == 235) = false := by simp; omega
  simp only [dw_R_burned, dw_R_isSo, dw_R_copy, dw_R_passes, dw_R_lays, n235, Bool.false_and, Bool.or_self]
theorem dz_R_sure {a : Nat} (k : Nat) (ha : a < 234) : dw_R_sure a k = false := by
  have n235 : (a == 235) = false := by simp; omega
  simp only [dw_R_sure, dw_R_isSo, dw_R_copy, dw_R_passes, dw_R_lays, n235, Bool.false_and, Bool.or_self]
theorem dz_R_trade {a : Nat} (k : Nat) (ha : a < 234) : dw_R_trade a k = false := by
  have n243 : (a == 243) = false := by simp; omega
  have n244 : (a == 244) = false := by simp; omega
  have n245 : (a == 245) = false := by simp; omega
  have n246 : (a == 246) = false := by simp; omega
  have n247 : (a == 247) = false := by simp; omega
  simp only [dw_R_trade, dw_R_findTrade, n243, n244, n245, n246, n247, Bool.false_and, Bool.or_self]
theorem dz_R_ring {a : Nat} (k : Nat) (ha : a < 234) : dw_R_ring a k = false := by
  have n248 : (a == 248) = false := by simp; omega
  simp only [dw_R_ring, dw_R_isRing, n248, Bool.false_and, Bool.or_self]
theorem dz_R_see {a : Nat} (k : Nat) (ha : a < 234) : dw_R_see a k = false := by
  have n234 : (a == 234) = false := by simp; omega
  have n249 : (a == 249) = false := by simp; omega
  have n250 : (a == 250) = false := by simp; omega
  have n251 : (a == 251) = false := by simp; omega
  simp only [dw_R_see, n234, n249, n250, n251, Bool.false_and, Bool.or_self]
theorem dz_R_write {a : Nat} (k : Nat) (ha : a < 234) : dw_R_write a k = false := by
  have n234 : (a == 234) = false := by simp; omega
  have n252 : (a == 252) = false := by simp; omega
  have n253 : (a == 253) = false := by simp; omega
  simp only [dw_R_write, n234, n252, n253, Bool.false_and, Bool.or_self]
theorem dz_R_tear {a : Nat} (k : Nat) (ha : a < 234) : dw_R_tear a k = false := by
  have n234 : (a == 234) = false := by simp; omega
  simp only [dw_R_tear, n234, Bool.false_and, Bool.or_self]
theorem dz_R_seed {a : Nat} (k : Nat) (ha : a < 234) : dw_R_seed a k = false := by
  have n235 : (a == 235) = false := by simp; omega
  simp only [dw_R_seed, n235, Bool.false_and, Bool.or_self]
theorem dz_R_keep {a : Nat} (k : Nat) (ha : a < 234) : dw_R_keep a k = false := by
  have n234 : (a == 234) = false := by simp; omega
  have n235 : (a == 235) = false := by simp; omega
  have n236 : (a == 236) = false := by simp; omega
  simp only [dw_R_keep, dw_R_copy, n234, n235, n236, Bool.false_and, Bool.or_self]
theorem dz_R_goBack {a : Nat} (k : Nat) (ha : a < 234) : dw_R_goBack a k = false := by
  have n234 : (a == 234) = false := by simp; omega
  have n235 : (a == 235) = false := by simp; omega
  simp only [dw_R_goBack, dw_R_copy, n234, n235, Bool.false_and, Bool.or_self]
theorem dz_C_feed {a : Nat} (k : Nat) (ha : a = 0 ∨ a = 8 ∨ (12 ≤ a ∧ a ≤ 216)) : dw_C_feed a k = false := by
  have n1 : (a == 1) = false := by simp; omega
  have n2 : (a == 2) = false := by simp; omega
  simp only [dw_C_feed, dw_Text_add, n1, n2, Bool.false_and, Bool.or_self]
theorem dz_C_see {a : Nat} (k : Nat) (ha : a = 0 ∨ a = 8 ∨ (12 ≤ a ∧ a ≤ 216)) : dw_C_see a k = false := by
  have n217 : (a == 217) = false := by simp; omega
  have n218 : (a == 218) = false := by simp; omega
  have n219 : (a == 219) = false := by simp; omega
  have n220 : (a == 220) = false := by simp; omega
  simp only [dw_C_see, dw_Sights_add, n217, n218, n219, n220, Bool.false_and, Bool.or_self]
theorem dz_C_write {a : Nat} (k : Nat) (ha : a = 0 ∨ a = 8 ∨ (12 ≤ a ∧ a ≤ 216)) : dw_C_write a k = false := by
  have n221 : (a == 221) = false := by simp; omega
  have n222 : (a == 222) = false := by simp; omega
  have n223 : (a == 223) = false := by simp; omega
  simp only [dw_C_write, dw_Book_add, n221, n222, n223, Bool.false_and, Bool.or_self]
theorem dz_C_tear {a : Nat} (k : Nat) (ha : a = 0 ∨ a = 8 ∨ (12 ≤ a ∧ a ≤ 216)) : dw_C_tear a k = false := by
  have n217 : (a == 217) = false := by simp; omega
  have n221 : (a == 221) = false := by simp; omega
  simp only [dw_C_tear, n217, n221, Bool.false_and, Bool.or_self]
theorem dz_C_burned {a : Nat} (k : Nat) (ha : a = 0 ∨ a = 8 ∨ (12 ≤ a ∧ a ≤ 216)) : dw_C_burned a k = false := by
  have n224 : (a == 224) = false := by simp; omega
  have n225 : (a == 225) = false := by simp; omega
  have n226 : (a == 226) = false := by simp; omega
  simp only [dw_C_burned, dw_Rows_lookInto, dw_Rows_addToHeap, n224, n225, n226, Bool.false_and, Bool.or_self]
theorem dz_C_sure {a : Nat} (k : Nat) (ha : a = 0 ∨ a = 8 ∨ (12 ≤ a ∧ a ≤ 216)) : dw_C_sure a k = false := by
  have n224 : (a == 224) = false := by simp; omega
  have n225 : (a == 225) = false := by simp; omega
  have n226 : (a == 226) = false := by simp; omega
  simp only [dw_C_sure, dw_Rows_lookInto, dw_Rows_addToHeap, n224, n225, n226, Bool.false_and, Bool.or_self]
theorem dz_C_trade {a : Nat} (k : Nat) (ha : a = 0 ∨ a = 8 ∨ (12 ≤ a ∧ a ≤ 216)) : dw_C_trade a k = false := by
  have n227 : (a == 227) = false := by simp; omega
  have n228 : (a == 228) = false := by simp; omega
  have n229 : (a == 229) = false := by simp; omega
  have n230 : (a == 230) = false := by simp; omega
  have n231 : (a == 231) = false := by simp; omega
  have n232 : (a == 232) = false := by simp; omega
  have n233 : (a == 233) = false := by simp; omega
  simp only [dw_C_trade, dw_Ba_settle, dw_Ba_listNeeds, dw_Ba_listTallies, dw_Ba_countCosts, n227, n228, n229, n230, n231, n232, n233, Bool.false_and, Bool.or_self]
theorem bu_35 (k : Nat) (hk : k < 112 ∨ 224 ≤ k) (n : Nat) : ∀ (s : sg_S) (l1 l2 l3 l4 l5 l6 : Int), sv s → gv_R s → 0 ≤ l1 → l1 ≤ 8 → 1 ≤ l2 → l2 ≤ 3 → 0 ≤ l6 → l6 + (n : Int) ≤ 600 → (dc_R_burned_35 n s l1 l2 l3 l4 l5 l6).1 235 k = s 235 k := by
  induction n with
  | zero => intros; rfl
  | succ n ih =>
    intro s l1 l2 l3 l4 l5 l6 hs h h1 h2 h3 h4 h5 h6
    have s1 := sv_isSo hs (a3 := l6) h1 h2 h3 h4 (by omega) (by omega) (gv_of h)
    have r1 := gv_RK h (gv_K_isSo hs (a2 := l2) (a3 := l6) h1 h2)
    have e := gx_isSo s l1 l2 l6 k hk (sv_pb hs (by omega) (by omega) (by omega)) h1 h2
    rw [dc_R_burned_35_s]
    (repeat' split) <;> first | rfl | exact (ih _ _ _ _ _ _ _ s1 r1 h1 h2 h3 h4 (by omega) (by omega)).trans e
theorem bu_row {s : sg_S} (hs : sv s) (h : gv_R s) (a1 a2 a3 : Int) (k : Nat) (hk : k < 112 ∨ 224 ≤ k) : (dc_R_burned s a1 a2 a3).1 235 k = s 235 k := by
  have q := df_R_in_0 s a2 1 3
  unfold dc_R_burned
  split
  · rfl
  · rename_i c
    have := gx_house hs c
    split
    · rfl
    · exact bu_35 k hk _ _ _ _ _ _ _ _ hs h (by omega) (by omega) (by omega) (by omega) (by omega) (by omega)
theorem su_95 (k : Nat) (n : Nat) : ∀ (s : sg_S) (l4 l5 : Int), (dc_R_sure_95 n s l4 l5).1 235 k = s 235 k := by
  induction n with
  | zero => intros; rfl
  | succ n ih =>
    intro s l4 l5
    rw [dc_R_sure_95_s]
    (repeat' split) <;> first | rfl | exact ih _ _ _
theorem su_43 (k : Nat) (hk : k < 112 ∨ 224 ≤ k) (n : Nat) : ∀ (s : sg_S) (l1 l2 l3 l4 l5 : Int), sv s → gv_R s → 0 ≤ l1 → l1 ≤ 8 → 1 ≤ l2 → l2 ≤ 3 → 0 ≤ l5 → l5 + (n : Int) ≤ 600 → (dc_R_sure_43 n s l1 l2 l3 l4 l5).1 235 k = s 235 k := by
  induction n with
  | zero => intros; rfl
  | succ n ih =>
    intro s l1 l2 l3 l4 l5 hs h h1 h2 h3 h4 h5 h6
    have s1 := sv_isSo hs (a3 := l5) h1 h2 h3 h4 (by omega) (by omega) (gv_of h)
    have r1 := gv_RK h (gv_K_isSo hs (a2 := l2) (a3 := l5) h1 h2)
    have e := gx_isSo s l1 l2 l5 k hk (sv_pb hs (by omega) (by omega) (by omega)) h1 h2
    rw [dc_R_sure_43_s]
    (repeat' split) <;> first | exact su_95 _ _ _ _ _ | exact (ih _ _ _ _ _ _ s1 r1 h1 h2 h3 h4 (by omega) (by omega)).trans e
theorem sure_row {s : sg_S} (hs : sv s) (h : gv_R s) (a1 a2 a3 : Int) (k : Nat) (hk : k < 112 ∨ 224 ≤ k) : (dc_R_sure s a1 a2 a3).1 235 k = s 235 k := by
  have q := df_R_in_0 s a2 1 3
  unfold dc_R_sure
  split
  · rfl
  · rename_i c
    have := gx_house hs c
    split
    · rfl
    · split
      · rfl
      · exact su_43 k hk _ _ _ _ _ _ _ hs h (by omega) (by omega) (by omega) (by omega) (by omega) (by omega)
theorem r2_27 {s t : sg_S} (e : ∀ k, k = 2 ∨ k = 3 ∨ k = 4 ∨ k = 5 ∨ k = 6 ∨ k = 7 → t 234 k = s 234 k) : ∀ k, 2 ≤ k → k ≤ 7 → t 234 k = s 234 k := fun k h1 h2 => e k (by omega)
theorem r1_T {s t : sg_S} (hs : sv s) (h : r1 s) (e10 : t 234 10 = s 234 10) (e238 : ∀ k, t 238 k = s 238 k) : tx_T s t := by
  have b := sv_bd hs (a := 1) (k := 2) rfl (by decide) rfl
  refine ⟨by rw [e10]; exact r1_len h, b.1, b.2, fun k hk => ?_⟩
  rw [e238]
  exact ⟨h.2 k hk, (sv_bd hs (a := 238) (k := k) (lo := 0) (hi := 255) rfl (by omega) (ab_el_1 rfl _)).1⟩
theorem r2_start {s : sg_S} (h : s 234 6 = 0 ∧ s 234 7 = 0 ∧ s 19 2 = 0 ∧ s 234 2 = 0 ∧ s 19 1 = 0 ∧ s 236 0 = 0 ∧ s 236 1 = 0 ∧ s 0 9 = s 235 111 ∧ s 13 5 = s 235 0 ∧ s 13 6 = s 235 1 ∧ (∀ x : Nat, x < 9 → s 14 x = 0) ∧ s 8 0 = s 234 3 ∧ s 8 1 = s 234 4 ∧ s 8 2 = s 234 5 ∧ s 8 3 = s 234 6 ∧ s 8 4 = s 234 7) : r2 s s := by
  obtain ⟨e6, e7, e192, e2, e191, k0, k1, ed, em, ep, ef, p0, p1, p2, p3, p4⟩ := h
  refine ⟨⟨fun p hp => ?_, fun x l hx => ?_, fun x hx h9 => ef x h9⟩, ⟨by rw [e192, e2], by omega, by omega, by omega, by omega, fun x hx => ?_⟩, fun i hi hk => ?_, ed, fun x hx => ?_, p0, p1, p2, p3, p4⟩
  · unfold st_v at hp
    have hp' : p = 0 ∨ p = 1 := by omega
    rcases hp' with rfl | rfl
    · exact em
    · exact ep
  · omega
  · omega
  · exfalso
    apply hk
    match i, hi with
    | 0, _ => exact k0
    | 1, _ => exact k1
    | n + 2, hi => exact absurd hi (by omega)
  · omega
