/-! WHAT WAS SEEN AND WRITTEN, on both sides -/
def r3 (s t : sg_S) : Prop := (∀ k : Nat, (k : Int) < t 234 31 → s 218 k = t 249 k ∧ s 219 k = t 250 k ∧ s 220 k = t 251 k ∧ 0 ≤ t 249 k ∧ t 249 k < t 234 6) ∧ (∀ k : Nat, (k : Int) < t 234 35 → s 222 k = t 252 k ∧ s 223 k = t 253 k ∧ 0 ≤ t 252 k ∧ t 252 k < t 234 6)
theorem r3_fr {s s' t t' : sg_S} (c1 : ∀ k, s' 218 k = s 218 k) (c2 : ∀ k, s' 219 k = s 219 k) (c3 : ∀ k, s' 220 k = s 220 k) (c4 : ∀ k, s' 222 k = s 222 k) (c5 : ∀ k, s' 223 k = s 223 k) (d1 : ∀ k, t' 249 k = t 249 k) (d2 : ∀ k, t' 250 k = t 250 k) (d3 : ∀ k, t' 251 k = t 251 k) (d4 : ∀ k, t' 252 k = t 252 k) (d5 : ∀ k, t' 253 k = t 253 k) (e31 : t' 234 31 = t 234 31) (e35 : t' 234 35 = t 234 35) (e6 : t' 234 6 = t 234 6) (h : r3 s t) : r3 s' t' := by
  obtain ⟨h1, h2⟩ := h
  refine ⟨fun k hk => ?_, fun k hk => ?_⟩
  · rw [e31] at hk
    rw [c1, c2, c3, d1, d2, d3, e6]
    exact h1 k hk
  · rw [e35] at hk
    rw [c4, c5, d4, d5, e6]
    exact h2 k hk
theorem r3_none {s t : sg_S} (e31 : t 234 31 ≤ 0) (e35 : t 234 35 ≤ 0) : r3 s t := ⟨fun k hk => absurd hk (by omega), fun k hk => absurd hk (by omega)⟩
theorem r3_see {s t : sg_S} (hs : sv s) (e : s 217 3 = t 234 31) (h2 : r2 s t) (h : r3 s t) (a1 a2 a3 : Int) : r3 (dc_C_see s a1 a2 a3).1 (dc_R_see t a1 a2 a3).1 := by
  have b := sv_bd hs (a := 217) (k := 3) rfl (by decide) rfl
  unfold dc_C_see dc_R_see
  by_cases c1 : dc_R_isHouse t a1 = 0
  · rw [if_pos ((r2_hh h2 a1).mpr c1), if_pos c1]; exact h
  · have k1 : 0 ≤ a1 ∧ a1 < t 234 6 := Decidable.not_not.mp (fun z => c1 ((r1_hR t a1).mpr z))
    rw [if_neg (fun z => c1 ((r2_hh h2 a1).mp z)), if_neg c1]
    by_cases c2 : 1 ≤ a2 ∧ a2 ≤ 7
    · rw [if_neg (by omega), if_pos c2.2, if_neg (eq_in1 c2)]
      unfold dc_Sights_add
      rw [if_neg (by omega), e]
      by_cases c3 : t 234 31 < 6
      · rw [if_pos c3, if_neg (by omega)]
        dsimp only
        refine ⟨fun k hk => ?_, fun k hk => ?_⟩
        · rw [sg_eq] at hk
          have e6 : (sg_up (sg_up (sg_up (sg_up t 249 ((t 234 31).toNat) a1) 250 ((t 234 31).toNat) a2) 251 ((t 234 31).toNat) a3) 234 31 ((t 234 31) + 1)) 234 6 = t 234 6 := by rw [sg_nk (by decide), sg_na (by decide), sg_na (by decide), sg_na (by decide)]
          rw [e6]
          by_cases z : k = (t 234 31).toNat
          · subst z
            refine ⟨?_, ?_, ?_, ?_, ?_⟩
            · rw [sg_na (by decide), sg_na (by decide), sg_na (by decide), sg_eq, sg_na (by decide), sg_na (by decide), sg_na (by decide), sg_eq]
            · rw [sg_na (by decide), sg_na (by decide), sg_eq, sg_na (by decide), sg_na (by decide), sg_eq]
            · rw [sg_na (by decide), sg_eq, sg_na (by decide), sg_eq]
            · rw [sg_na (by decide), sg_na (by decide), sg_na (by decide), sg_eq]; exact k1.1
            · rw [sg_na (by decide), sg_na (by decide), sg_na (by decide), sg_eq]; exact k1.2
          · have := h.1 k (by omega)
            refine ⟨?_, ?_, ?_, ?_, ?_⟩
            · rw [sg_na (by decide), sg_na (by decide), sg_na (by decide), sg_nk z, sg_na (by decide), sg_na (by decide), sg_na (by decide), sg_nk z]; exact this.1
            · rw [sg_na (by decide), sg_na (by decide), sg_nk z, sg_na (by decide), sg_na (by decide), sg_na (by decide), sg_nk z, sg_na (by decide)]; exact this.2.1
            · rw [sg_na (by decide), sg_nk z, sg_na (by decide), sg_na (by decide), sg_na (by decide), sg_nk z, sg_na (by decide), sg_na (by decide)]; exact this.2.2.1
            · rw [sg_na (by decide), sg_na (by decide), sg_na (by decide), sg_nk z]; exact this.2.2.2.1
            · rw [sg_na (by decide), sg_na (by decide), sg_na (by decide), sg_nk z]; exact this.2.2.2.2
        · have e35 : (sg_up (sg_up (sg_up (sg_up t 249 ((t 234 31).toNat) a1) 250 ((t 234 31).toNat) a2) 251 ((t 234 31).toNat) a3) 234 31 ((t 234 31) + 1)) 234 35 = t 234 35 := by rw [sg_nk (by decide), sg_na (by decide), sg_na (by decide), sg_na (by decide)]
          have e6 : (sg_up (sg_up (sg_up (sg_up t 249 ((t 234 31).toNat) a1) 250 ((t 234 31).toNat) a2) 251 ((t 234 31).toNat) a3) 234 31 ((t 234 31) + 1)) 234 6 = t 234 6 := by rw [sg_nk (by decide), sg_na (by decide), sg_na (by decide), sg_na (by decide)]
          rw [e35] at hk
          have := h.2 k hk
          rw [e6]
          refine ⟨?_, ?_, ?_, ?_⟩
          · rw [sg_na (by decide), sg_na (by decide), sg_na (by decide), sg_na (by decide), sg_na (by decide), sg_na (by decide), sg_na (by decide), sg_na (by decide)]; exact this.1
          · rw [sg_na (by decide), sg_na (by decide), sg_na (by decide), sg_na (by decide), sg_na (by decide), sg_na (by decide), sg_na (by decide), sg_na (by decide)]; exact this.2.1
          · rw [sg_na (by decide), sg_na (by decide), sg_na (by decide), sg_na (by decide)]; exact this.2.2.1
          · rw [sg_na (by decide), sg_na (by decide), sg_na (by decide), sg_na (by decide)]; exact this.2.2.2
      · rw [if_neg c3, if_pos (by omega)]; exact h
    · rw [if_pos (eq_in0 c2)]
      (repeat' split) <;> first | exact h | omega
theorem r3_write {s t : sg_S} (hs : sv s) (e : s 221 2 = t 234 35) (h2 : r2 s t) (h : r3 s t) (a1 a2 : Int) : r3 (dc_C_write s a1 a2).1 (dc_R_write t a1 a2).1 := by
  have b := sv_bd hs (a := 221) (k := 2) rfl (by decide) rfl
  unfold dc_C_write dc_R_write
  by_cases c1 : dc_R_isHouse t a1 = 0
  · rw [if_pos ((r2_hh h2 a1).mpr c1), if_pos c1]; exact h
  · have k1 : 0 ≤ a1 ∧ a1 < t 234 6 := Decidable.not_not.mp (fun z => c1 ((r1_hR t a1).mpr z))
    rw [if_neg (fun z => c1 ((r2_hh h2 a1).mp z)), if_neg c1]
    by_cases c2 : 0 ≤ a2 ∧ a2 ≤ 7
    · rw [if_neg (by omega), if_pos c2.2, if_neg (eq_in1 c2)]
      unfold dc_Book_add
      rw [if_neg (by omega), e]
      by_cases c3 : t 234 35 < 20
      · rw [if_pos c3, if_neg (by omega)]
        dsimp only
        have e6 : (sg_up (sg_up (sg_up t 252 ((t 234 35).toNat) a1) 253 ((t 234 35).toNat) a2) 234 35 ((t 234 35) + 1)) 234 6 = t 234 6 := by rw [sg_nk (by decide), sg_na (by decide), sg_na (by decide)]
        have e31 : (sg_up (sg_up (sg_up t 252 ((t 234 35).toNat) a1) 253 ((t 234 35).toNat) a2) 234 35 ((t 234 35) + 1)) 234 31 = t 234 31 := by rw [sg_nk (by decide), sg_na (by decide), sg_na (by decide)]
        refine ⟨fun k hk => ?_, fun k hk => ?_⟩
        · rw [e31] at hk
          have := h.1 k hk
          rw [e6]
          refine ⟨?_, ?_, ?_, ?_, ?_⟩
          · rw [sg_na (by decide), sg_na (by decide), sg_na (by decide), sg_na (by decide), sg_na (by decide), sg_na (by decide)]; exact this.1
          · rw [sg_na (by decide), sg_na (by decide), sg_na (by decide), sg_na (by decide), sg_na (by decide), sg_na (by decide)]; exact this.2.1
          · rw [sg_na (by decide), sg_na (by decide), sg_na (by decide), sg_na (by decide), sg_na (by decide), sg_na (by decide)]; exact this.2.2.1
          · rw [sg_na (by decide), sg_na (by decide), sg_na (by decide)]; exact this.2.2.2.1
          · rw [sg_na (by decide), sg_na (by decide), sg_na (by decide)]; exact this.2.2.2.2
        · rw [sg_eq] at hk
          rw [e6]
          by_cases z : k = (t 234 35).toNat
          · subst z
            refine ⟨?_, ?_, ?_, ?_⟩
            · rw [sg_na (by decide), sg_na (by decide), sg_eq, sg_na (by decide), sg_na (by decide), sg_eq]
            · rw [sg_na (by decide), sg_eq, sg_na (by decide), sg_eq]
            · rw [sg_na (by decide), sg_na (by decide), sg_eq]; exact k1.1
            · rw [sg_na (by decide), sg_na (by decide), sg_eq]; exact k1.2
          · have := h.2 k (by omega)
            refine ⟨?_, ?_, ?_, ?_⟩
            · rw [sg_na (by decide), sg_na (by decide), sg_nk z, sg_na (by decide), sg_na (by decide), sg_nk z]; exact this.1
            · rw [sg_na (by decide), sg_nk z, sg_na (by decide), sg_na (by decide), sg_nk z, sg_na (by decide)]; exact this.2.1
            · rw [sg_na (by decide), sg_na (by decide), sg_nk z]; exact this.2.2.1
            · rw [sg_na (by decide), sg_na (by decide), sg_nk z]; exact this.2.2.2
      · rw [if_neg c3, if_pos (by omega)]; exact h
    · rw [if_pos (eq_in0 c2)]
      (repeat' split) <;> first | exact h | omega
theorem ju_loop {s t : sg_S} (ht : sv t) (e : s 221 2 = t 234 35) (h2 : r2 s t) (h : r3 s t) (n : Nat) : ∀ k : Int, 0 ≤ k → k ≤ 20 → 20 - k < (n : Int) → dc_Book_firstWrong_2 n s k = dc_R_judge_2 n t k := by
  have b := sv_bd ht (a := 234) (k := 35) rfl (by decide) rfl
  induction n with
  | zero => intro k _ _ hn; exact absurd hn (by omega)
  | succ n ih =>
    intro k k0 k1 hn
    rw [dc_Book_firstWrong_2_s, dc_R_judge_2_s, e]
    by_cases c : t 234 35 ≤ k
    · rw [if_pos c, if_pos c]
    · rw [if_neg c, if_neg c, if_neg (show ¬ 20 ≤ k by omega)]
      have q := h.2 k.toNat (by omega)
      rw [q.1, q.2.1, an_new ht h2 s q.2.2.1 q.2.2.2, ih (k + 1) (by omega) (by omega) (by omega)]
theorem an_judge {s t : sg_S} (ht : sv t) (e : s 221 2 = t 234 35) (h2 : r2 s t) (h : r3 s t) : dc_C_judge s = dc_R_judge t := ju_loop ht e h2 h 21 0 (by omega) (by omega) (by omega)
theorem r3_tear (s t : sg_S) : r3 s (dc_R_tear t).1 := r3_none (by unfold dc_R_tear; dsimp only; rw [sg_nk (by decide), sg_eq]; omega) (by unfold dc_R_tear; dsimp only; rw [sg_eq]; omega)
theorem r3_city {s t : sg_S} (hT : tx_T s t) (h : r3 s t) : r3 (dc_C_city s).1 (dc_R_city t).1 := by
  obtain ⟨s', t', e1, e2, e3⟩ := tx_all hT
  have S4 : dc_Text_readAll s 1 4 = s' 1 4 := by rw [e1, sg_nk (by decide)]
  rcases e3 with ⟨g1, g2, g3, g4⟩ | ⟨g1, g2, g3⟩
  · have hC : dc_C_city s = (dc_Text_readAll s, (-10) - dc_Text_readAll s 1 4) := if_neg (by rw [S4]; exact g1)
    have hR : ∀ a k, dw_R_takesClause a k = false → ¬ (a = 234 ∧ k = 10) → (sg_up t' 234 10 0) a k = t a k := fun a k q z => (if_neg z).trans (e2 a k q)
    rw [hC, g4]
    dsimp only
    exact r3_fr (fun k => dr_Text_readAll s 218 k rfl) (fun k => dr_Text_readAll s 219 k rfl) (fun k => dr_Text_readAll s 220 k rfl) (fun k => dr_Text_readAll s 222 k rfl) (fun k => dr_Text_readAll s 223 k rfl) (fun k => hR 249 k rfl (by omega)) (fun k => hR 250 k rfl (by omega)) (fun k => hR 251 k rfl (by omega)) (fun k => hR 252 k rfl (by omega)) (fun k => hR 253 k rfl (by omega)) (hR 234 31 rfl (by omega)) (hR 234 35 rfl (by omega)) (hR 234 6 rfl (by omega)) h
  · obtain ⟨hA, hD, h4, h5, h15⟩ := g2
    obtain ⟨d0, d1, d2, d3, d4, d5, d6, d7, d8, d9, d10⟩ := hD
    have c := cy_89 113 (sg_up t' 234 10 0) (t' 235 111) 0 (by omega) (by rw [sg_nk (by decide), ← d3]; exact d6) (by rw [sg_nk (by decide), ← d4]; exact d8) (by omega)
    rw [← g3] at c
    obtain ⟨-, -, -, -, -, -, c7, c8, -⟩ := c
    exact r3_none (by omega) (by omega)
