/-! CALLS THAT CHANGE WHAT BOTH SIDES SHOW -/
theorem r1_two {s t u : sg_S} {d1 d2 : Nat → Nat → Bool} (h1 : ∀ a k, d1 a k = false → t a k = s a k) (h2 : ∀ a k, d2 a k = false → u a k = t a k) : ∀ a k, (d1 a k || d2 a k) = false → u a k = s a k := fun a k q => by
  rw [Bool.or_eq_false_iff] at q
  exact (h2 a k q.2).trans (h1 a k q.1)
theorem r1_text {s t : sg_S} {dw : Nat → Nat → Bool} (hfr : ∀ a k, dw a k = false → t a k = s a k) (h0 : dw 1 2 = false) (h2 : ∀ k, dw 2 k = false) (h3 : ∀ k, dw 238 k = false) (h : r1 s) : ∀ k : Nat, (k : Int) < t 1 2 → t 2 k = t 238 k := fun k hk => by
  rw [hfr 1 2 h0] at hk
  rw [hfr 2 k (h2 k), hfr 238 k (h3 k)]
  exact h.2 k hk
theorem r1_feed {s : sg_S} (hs : sv s) (h : r1 s) (a : Int) : (dc_C_feed s a).2 = (dc_R_feed (dc_C_feed s a).1 a).2 ∧ r1 (dc_R_feed (dc_C_feed s a).1 a).1 := by
  have hl := r1_len h
  have b := sv_bd hs (a := 1) (k := 2) rfl (by decide) rfl
  obtain ⟨q1, q2⟩ := tl_feed hs hl a
  have e10 : (dc_C_feed s a).1 234 10 = s 234 10 := dr_C_feed s a 234 10 rfl
  refine ⟨q1, r1_J (dw := fun a k => dw_C_feed a k || dw_R_feed a k) [(1, 2, 234, 10)] (r1_two (fun b k q => dr_C_feed s a b k q) (fun b k q => dr_R_feed _ a b k q)) rfl (fun p hp => ?_) (fun k hk => ?_) h⟩
  · rw [List.mem_singleton] at hp
    subst hp
    exact q2
  · rw [dr_R_feed _ a 1 2 rfl] at hk
    rw [dr_R_feed _ a 2 k rfl]
    by_cases c : (0 ≤ a ∧ a ≤ 255) ∧ s 1 2 < 240
    · have f : dc_C_feed s a = ((sg_up (sg_up s 2 ((s 1 2).toNat) a) 1 2 ((s 1 2) + 1)), ((s 1 2) + 1)) := by
        unfold dc_C_feed dc_Text_add
        rw [if_neg (by omega), if_pos c.1.2, if_neg (by omega), if_pos c.2]
      have g : dc_R_feed (dc_C_feed s a).1 a = ((sg_up (sg_up (dc_C_feed s a).1 238 (((dc_C_feed s a).1 234 10).toNat) a) 234 10 (((dc_C_feed s a).1 234 10) + 1)), (((dc_C_feed s a).1 234 10) + 1)) := by
        unfold dc_R_feed
        rw [if_neg (eq_in1 c.1), if_neg (by rw [e10]; omega)]
      rw [g]
      dsimp only
      rw [sg_na (show (238 : Nat) ≠ 234 by decide), e10, ← hl, f]
      rw [f] at hk
      dsimp only at hk ⊢
      rw [sg_eq] at hk
      rw [sg_na (by decide)]
      by_cases z : k = (s 1 2).toNat
      · subst z
        rw [sg_eq, sg_eq]
      · rw [sg_nk z, sg_nk z, sg_na (by decide), sg_na (by decide)]
        exact h.2 k (by omega)
    · have f : (dc_C_feed s a).1 = s := by
        unfold dc_C_feed dc_Text_add
        (repeat' split) <;> first | rfl | omega
      rw [f] at hk ⊢
      have g : (dc_R_feed s a).1 = s := by
        unfold dc_R_feed
        by_cases z : 0 ≤ a ∧ a ≤ 255
        · rw [if_neg (eq_in1 z), if_pos (by omega)]
        · rw [if_pos (eq_in0 z)]
      rw [g]
      exact h.2 k hk
theorem r1_see {s : sg_S} (hs : sv s) (h : r1 s) (a1 a2 a3 : Int) : (dc_C_see s a1 a2 a3).2 = (dc_R_see (dc_C_see s a1 a2 a3).1 a1 a2 a3).2 ∧ r1 (dc_R_see (dc_C_see s a1 a2 a3).1 a1 a2 a3).1 := by
  have b := sv_bd hs (a := 217) (k := 3) rfl (by decide) rfl
  have hc := r1_seen h
  have hh := r1_houses h
  have same : ∀ v : Int, dc_C_see s a1 a2 a3 = (s, v) → dc_R_see s a1 a2 a3 = (s, v) → (dc_C_see s a1 a2 a3).2 = (dc_R_see (dc_C_see s a1 a2 a3).1 a1 a2 a3).2 ∧ r1 (dc_R_see (dc_C_see s a1 a2 a3).1 a1 a2 a3).1 := fun v f g => by
    rw [f]
    dsimp only
    rw [g]
    exact ⟨rfl, h⟩
  by_cases c1 : 0 ≤ a1 ∧ a1 < s 8 3
  · have k1 : ¬ dc_C_isHouse s a1 = 0 := fun z => (r1_hC s a1).mp z c1
    have k2 : ∀ t : sg_S, t 234 6 = s 234 6 → ¬ dc_R_isHouse t a1 = 0 := fun t e z => (r1_hR t a1).mp z (by rw [e, ← hh]; exact c1)
    by_cases c2 : 1 ≤ a2 ∧ a2 ≤ 7
    · have f : dc_C_see s a1 a2 a3 = ((dc_Sights_add s a1 a2 a3).1, (dc_Sights_add s a1 a2 a3).2) := by
        unfold dc_C_see
        rw [if_neg k1, if_neg (by omega), if_pos c2.2]
      by_cases c3 : s 217 3 < 6
      · have g : (dc_Sights_add s a1 a2 a3).2 = s 217 3 + 1 ∧ (dc_Sights_add s a1 a2 a3).1 217 3 = s 217 3 + 1 := by
          unfold dc_Sights_add
          rw [if_neg (by omega), if_pos c3]
          refine ⟨rfl, ?_⟩
          dsimp only
          rw [sg_eq]
        have e6 := dr_C_see s a1 a2 a3 234 6 rfl
        have e31 := dr_C_see s a1 a2 a3 234 31 rfl
        have r : (dc_R_see (dc_C_see s a1 a2 a3).1 a1 a2 a3).2 = s 234 31 + 1 ∧ (dc_R_see (dc_C_see s a1 a2 a3).1 a1 a2 a3).1 234 31 = s 234 31 + 1 := by
          unfold dc_R_see
          rw [if_neg (k2 _ e6), if_neg (eq_in1 c2), if_neg (by rw [e31]; omega)]
          dsimp only
          rw [sg_eq, e31]
          exact ⟨rfl, rfl⟩
        have fr := r1_two (fun b k q => dr_C_see s a1 a2 a3 b k q) (fun b k q => dr_R_see (dc_C_see s a1 a2 a3).1 a1 a2 a3 b k q)
        refine ⟨by rw [r.1, f]; show (dc_Sights_add s a1 a2 a3).2 = _; rw [g.1, hc], r1_J (dw := fun a k => dw_C_see a k || dw_R_see a k) [(217, 3, 234, 31)] fr rfl (fun p hp => ?_) (r1_text fr rfl (fun _ => rfl) (fun _ => rfl) h) h⟩
        rw [List.mem_singleton] at hp
        subst hp
        show (dc_R_see (dc_C_see s a1 a2 a3).1 a1 a2 a3).1 217 3 = (dc_R_see (dc_C_see s a1 a2 a3).1 a1 a2 a3).1 234 31
        rw [r.2, dr_R_see _ a1 a2 a3 217 3 rfl, f]
        show (dc_Sights_add s a1 a2 a3).1 217 3 = _
        rw [g.2, hc]
      · refine same (-1000000004) ?_ ?_
        · rw [f]
          unfold dc_Sights_add
          rw [if_neg (by omega), if_neg c3]
        · unfold dc_R_see
          rw [if_neg (k2 s rfl), if_neg (eq_in1 c2), if_pos (by omega)]
    · refine same (-1000000002) ?_ ?_
      · unfold dc_C_see
        rw [if_neg k1]
        (repeat' split) <;> first | rfl | omega
      · unfold dc_R_see
        rw [if_neg (k2 s rfl), if_pos (eq_in0 c2)]
  · refine same (-1000000001) ?_ ?_
    · exact if_pos ((r1_hC s a1).mpr c1)
    · exact if_pos ((r1_hR s a1).mpr (by rw [← hh]; exact c1))
theorem r1_write {s : sg_S} (hs : sv s) (h : r1 s) (a1 a2 : Int) : (dc_C_write s a1 a2).2 = (dc_R_write (dc_C_write s a1 a2).1 a1 a2).2 ∧ r1 (dc_R_write (dc_C_write s a1 a2).1 a1 a2).1 := by
  have b := sv_bd hs (a := 221) (k := 2) rfl (by decide) rfl
  have hc := r1_book h
  have hh := r1_houses h
  have same : ∀ v : Int, dc_C_write s a1 a2 = (s, v) → dc_R_write s a1 a2 = (s, v) → (dc_C_write s a1 a2).2 = (dc_R_write (dc_C_write s a1 a2).1 a1 a2).2 ∧ r1 (dc_R_write (dc_C_write s a1 a2).1 a1 a2).1 := fun v f g => by
    rw [f]
    dsimp only
    rw [g]
    exact ⟨rfl, h⟩
  by_cases c1 : 0 ≤ a1 ∧ a1 < s 8 3
  · have k1 : ¬ dc_C_isHouse s a1 = 0 := fun z => (r1_hC s a1).mp z c1
    have k2 : ∀ t : sg_S, t 234 6 = s 234 6 → ¬ dc_R_isHouse t a1 = 0 := fun t e z => (r1_hR t a1).mp z (by rw [e, ← hh]; exact c1)
    by_cases c2 : 0 ≤ a2 ∧ a2 ≤ 7
    · have f : dc_C_write s a1 a2 = ((dc_Book_add s a1 a2).1, (dc_Book_add s a1 a2).2) := by
        unfold dc_C_write
        rw [if_neg k1, if_neg (by omega), if_pos c2.2]
      by_cases c3 : s 221 2 < 20
      · have g : (dc_Book_add s a1 a2).2 = s 221 2 + 1 ∧ (dc_Book_add s a1 a2).1 221 2 = s 221 2 + 1 := by
          unfold dc_Book_add
          rw [if_neg (by omega), if_pos c3]
          refine ⟨rfl, ?_⟩
          dsimp only
          rw [sg_eq]
        have e6 := dr_C_write s a1 a2 234 6 rfl
        have e31 := dr_C_write s a1 a2 234 35 rfl
        have r : (dc_R_write (dc_C_write s a1 a2).1 a1 a2).2 = s 234 35 + 1 ∧ (dc_R_write (dc_C_write s a1 a2).1 a1 a2).1 234 35 = s 234 35 + 1 := by
          unfold dc_R_write
          rw [if_neg (k2 _ e6), if_neg (eq_in1 c2), if_neg (by rw [e31]; omega)]
          dsimp only
          rw [sg_eq, e31]
          exact ⟨rfl, rfl⟩
        have fr := r1_two (fun b k q => dr_C_write s a1 a2 b k q) (fun b k q => dr_R_write (dc_C_write s a1 a2).1 a1 a2 b k q)
        refine ⟨by rw [r.1, f]; show (dc_Book_add s a1 a2).2 = _; rw [g.1, hc], r1_J (dw := fun a k => dw_C_write a k || dw_R_write a k) [(221, 2, 234, 35)] fr rfl (fun p hp => ?_) (r1_text fr rfl (fun _ => rfl) (fun _ => rfl) h) h⟩
        rw [List.mem_singleton] at hp
        subst hp
        show (dc_R_write (dc_C_write s a1 a2).1 a1 a2).1 221 2 = (dc_R_write (dc_C_write s a1 a2).1 a1 a2).1 234 35
        rw [r.2, dr_R_write _ a1 a2 221 2 rfl, f]
        show (dc_Book_add s a1 a2).1 221 2 = _
        rw [g.2, hc]
      · refine same (-1000000004) ?_ ?_
        · rw [f]
          unfold dc_Book_add
          rw [if_neg (by omega), if_neg c3]
        · unfold dc_R_write
          rw [if_neg (k2 s rfl), if_neg (eq_in1 c2), if_pos (by omega)]
    · refine same (-1000000002) ?_ ?_
      · unfold dc_C_write
        rw [if_neg k1]
        (repeat' split) <;> first | rfl | omega
      · unfold dc_R_write
        rw [if_neg (k2 s rfl), if_pos (eq_in0 c2)]
  · refine same (-1000000001) ?_ ?_
    · exact if_pos ((r1_hC s a1).mpr c1)
    · exact if_pos ((r1_hR s a1).mpr (by rw [← hh]; exact c1))
theorem r1_tear {s : sg_S} (h : r1 s) : (dc_C_tear s).2 = (dc_R_tear (dc_C_tear s).1).2 ∧ r1 (dc_R_tear (dc_C_tear s).1).1 := by
  have e1 := dr_C_tear s 234 31 rfl
  have e2 := dr_C_tear s 234 35 rfl
  have fr := r1_two (fun b k q => dr_C_tear s b k q) (fun b k q => dr_R_tear (dc_C_tear s).1 b k q)
  refine ⟨?_, r1_J (dw := fun a k => dw_C_tear a k || dw_R_tear a k) [(217, 3, 234, 31), (221, 2, 234, 35)] fr rfl (fun p hp => ?_) (r1_text fr rfl (fun _ => rfl) (fun _ => rfl) h) h⟩
  · show s 217 3 + s 221 2 = (dc_C_tear s).1 234 31 + (dc_C_tear s).1 234 35
    rw [e1, e2, r1_seen h, r1_book h]
  · simp only [List.mem_cons, List.not_mem_nil, or_false] at hp
    rcases hp with rfl | rfl
    · show (dc_R_tear (dc_C_tear s).1).1 217 3 = (dc_R_tear (dc_C_tear s).1).1 234 31
      rw [dr_R_tear _ 217 3 rfl]
      show sg_up (sg_up s 217 3 0) 221 2 0 217 3 = sg_up (sg_up (dc_C_tear s).1 234 31 0) 234 35 0 234 31
      rw [sg_na (by decide), sg_eq, sg_nk (by decide), sg_eq]
    · show (dc_R_tear (dc_C_tear s).1).1 221 2 = (dc_R_tear (dc_C_tear s).1).1 234 35
      rw [dr_R_tear _ 221 2 rfl]
      show sg_up (sg_up s 217 3 0) 221 2 0 221 2 = sg_up (sg_up (dc_C_tear s).1 234 31 0) 234 35 0 234 35
      rw [sg_eq, sg_eq]
def dw_Ck (a _ : Nat) : Bool := decide (19 ≤ a) && decide (a ≤ 216)
theorem dr_Ck (s : sg_S) (a1 : Int) (a k : Nat) (h : dw_Ck a k = false) : (dc_C_keep s a1).1 a k = s a k := by
  unfold dw_Ck at h
  rw [Bool.and_eq_false_iff, decide_eq_false_iff_not, decide_eq_false_iff_not] at h
  unfold dc_C_keep dc_Past_forget dc_Im_put
  split
  · rfl
  · split
    · rename_i c1 c2
      dsimp only
      rw [sg_na (by omega), sg_na (by omega), sg_na (by omega), sg_copyn (by omega)]
    · rfl
theorem r1_keep {s : sg_S} (h : r1 s) (a1 : Int) : r1 (dc_R_keep (dc_C_keep s a1).1 a1).1 := by
  have fr := r1_two (fun b k q => dr_Ck s a1 b k q) (fun b k q => dr_R_keep (dc_C_keep s a1).1 a1 b k q)
  by_cases c : 0 ≤ a1 ∧ a1 ≤ 1
  · refine r1_J (dw := fun a k => dw_Ck a k || dw_R_keep a k) [(204, 0, 236, 0), (204, 1, 236, 1)] fr rfl (fun p hp => ?_) (r1_text fr rfl (fun _ => rfl) (fun _ => rfl) h) h
    have key : ∀ i : Nat, i < 2 → (dc_R_keep (dc_C_keep s a1).1 a1).1 204 i = (dc_R_keep (dc_C_keep s a1).1 a1).1 236 i := fun i hi => by
      have f : dc_C_keep s a1 = ((dc_Past_forget (dc_Im_put s a1 (s 0 9))), 1) := by
        unfold dc_C_keep
        rw [if_neg (by omega), if_pos (by omega)]
      have g : dc_R_keep (dc_C_keep s a1).1 a1 = ((sg_up (sg_up (dc_R_copy (dc_C_keep s a1).1 0 (224 + (112 * a1))) 236 ((a1).toNat) 1) 234 2 0), 1) := if_neg (eq_in1 c)
      rw [dr_R_keep _ a1 204 i rfl, g, f]
      show sg_up (sg_up (sg_up (sg_copy s 13 (205 + 6 * (a1).toNat)) 203 ((a1).toNat) (s 0 9)) 204 ((a1).toNat) 1) 19 2 0 204 i = sg_up (sg_up (dc_R_copy _ 0 (224 + (112 * a1))) 236 ((a1).toNat) 1) 234 2 0 236 i
      rw [sg_na (show (204 : Nat) ≠ 19 by decide), sg_na (show (236 : Nat) ≠ 234 by decide)]
      by_cases z : i = a1.toNat
      · subst z
        rw [sg_eq, sg_eq]
      · rw [sg_nk z, sg_nk z, sg_copyn (by omega), sg_nk z, dr_R_copy _ _ _ 236 i rfl]
        have := dr_Ck s a1 236 i rfl
        rw [f] at this
        exact (r1_kept h i hi).trans this.symm
    simp only [List.mem_cons, List.not_mem_nil, or_false] at hp
    rcases hp with rfl | rfl
    · exact key 0 (by decide)
    · exact key 1 (by decide)
  · have f : (dc_C_keep s a1).1 = s := by
      unfold dc_C_keep
      (repeat' split) <;> first | rfl | omega
    have g : (dc_R_keep s a1).1 = s := by
      unfold dc_R_keep
      rw [if_pos (eq_in0 c)]
    rw [f, g]
    exact h
theorem r1_goBack {s : sg_S} (h : r1 s) (a1 : Int) : (dc_C_goBack s a1).2 = (dc_R_goBack (dc_C_goBack s a1).1 a1).2 := by
  have e : ∀ i, (dc_C_goBack s a1).1 236 i = s 236 i := fun i => dr_C_goBack s a1 236 i rfl
  by_cases c : 0 ≤ a1 ∧ a1 ≤ 1
  · have hk := r1_kept h a1.toNat (by omega)
    by_cases z : s 236 a1.toNat = 0
    · have g : dc_R_goBack (dc_C_goBack s a1).1 a1 = ((dc_C_goBack s a1).1, (-1000000003)) := by
        unfold dc_R_goBack
        rw [if_neg (eq_in1 c), if_pos (by rw [e]; exact z)]
      rw [g]
      unfold dc_C_goBack dc_Im_isKept
      rw [if_neg (by omega), if_pos (by omega), if_pos (by rw [hk]; exact z)]
    · have g : (dc_R_goBack (dc_C_goBack s a1).1 a1).2 = 1 := by
        unfold dc_R_goBack
        rw [if_neg (eq_in1 c), if_neg (by rw [e]; exact z)]
      rw [g]
      unfold dc_C_goBack dc_Im_isKept
      rw [if_neg (by omega), if_pos (by omega), if_neg (by rw [hk]; exact z)]
  · have g : (dc_R_goBack (dc_C_goBack s a1).1 a1).2 = -1000000001 := by
      unfold dc_R_goBack
      rw [if_pos (eq_in0 c)]
    rw [g]
    unfold dc_C_goBack
    (repeat' split) <;> first | rfl | omega
