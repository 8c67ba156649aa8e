/-! A MONTH ON BOTH SIDES -/
theorem mo_nb {s t : sg_S} (e1 : s 8 1 = t 234 4) (e3 : s 8 3 = t 234 6) (h : Int) : dc_Plan_neighbour s h = dc_R_blownTo t h ∧ (dc_R_blownTo t h = -1 ∨ (0 ≤ dc_R_blownTo t h ∧ dc_R_blownTo t h < t 234 6)) := by
  unfold dc_Plan_neighbour dc_R_blownTo dc_R_isHouse dc_R_in
  rw [e1, e3]
  constructor <;> (repeat' split) <;> omega
theorem mo_into {t : sg_S} (ht : sv t) (g : t 234 6 ≤ 0 ∨ t 235 11 = -1) {f : Int} (h0 : 0 ≤ f) (h1 : f < t 234 6) (h8 : f ≤ 8) : -1 ≤ t 235 (11 + f.toNat) ∧ t 235 (11 + f.toNat) < f := by
  by_cases z : f = 0
  · subst z
    have : t 235 11 = -1 := by omega
    show -1 ≤ t 235 11 ∧ t 235 11 < 0
    omega
  · obtain ⟨hp, hH, rfl⟩ := ht
    have b := sg_rngW hH (z := 11 + f) (by omega) (by omega)
    have hz := sg_mz (z := 11 + f) (by omega)
    obtain ⟨p, q⟩ := sg_wr ((11 + f).toNat % 112) (Nat.mod_lt _ (by decide)) (by omega) (by omega)
    unfold sg_wc at b
    rw [p, q, if_neg (by omega), show (11 + f).toNat = 11 + f.toNat by omega] at b
    omega
theorem mo_burn (k2 : sg_S → Int → Int → sg_S) (kd : Int) (k1 : 1 ≤ kd) (k7 : kd ≤ 7) (n : Nat) : ∀ (m : Nat) (s t : sg_S) (h f l4 : Int), sv t → (t 234 6 ≤ 0 ∨ t 235 11 = -1) → st_s s t 13 0 → s 8 1 = t 234 4 → s 8 3 = t 234 6 → s 15 h.toNat = kd → -1 ≤ f → f < t 234 6 → 0 ≤ l4 → f + l4 ≤ 8 → 9 - l4 < (n : Int) → f + 1 < (m : Int) → ∃ t', dc_R_passes_28 k2 m t 0 h kd f = k2 t' 0 (h + 1) ∧ sv t' ∧ st_s (dc_St_burnIn_5 n s h f l4) t' 13 0 ∧ (∀ a k, a ≠ 14 → dc_St_burnIn_5 n s h f l4 a k = s a k) ∧ (∀ a k, a ≠ 235 → t' a k = t a k) ∧ (∀ k, (k < 20 ∨ 101 ≤ k) → t' 235 k = t 235 k) := by
  induction n with
  | zero => intro m s t h f l4 _ _ _ _ _ _ _ _ _ _ hn _; exact absurd hn (by omega)
  | succ n ih =>
    intro m s t h f l4 ht g hn e1 e3 hk f0 f1 l0 fl hN hM
    have b9 := (st_b_of ht).2.1
    cases m with
    | zero => exact absurd hM (by omega)
    | succ m =>
      rw [dc_R_passes_28_s, dc_St_burnIn_5_s, hk]
      by_cases c : f = -1
      · rw [if_pos c]
        obtain ⟨n1, n2⟩ := mo_nb e1 e3 h
        have hC : (if 9 ≤ l4 then (if (dc_Plan_neighbour s h) < 0 then s else (sg_up s 14 ((dc_Plan_neighbour s h).toNat) (dc_Soot_laid s (s 14 ((dc_Plan_neighbour s h).toNat)) kd))) else (if f < 0 then (if (dc_Plan_neighbour s h) < 0 then s else (sg_up s 14 ((dc_Plan_neighbour s h).toNat) (dc_Soot_laid s (s 14 ((dc_Plan_neighbour s h).toNat)) kd))) else (if 9 ≤ f then (if (dc_Plan_neighbour s h) < 0 then s else (sg_up s 14 ((dc_Plan_neighbour s h).toNat) (dc_Soot_laid s (s 14 ((dc_Plan_neighbour s h).toNat)) kd))) else ((dc_St_burnIn_5 n) (sg_up s 14 ((f).toNat) (dc_Soot_laid s (s 14 ((f).toNat)) kd)) h (s 16 ((f).toNat)) (l4 + 1))))) = (if (dc_Plan_neighbour s h) < 0 then s else (sg_up s 14 ((dc_Plan_neighbour s h).toNat) (dc_Soot_laid s (s 14 ((dc_Plan_neighbour s h).toNat)) kd))) := by
          by_cases q : 9 ≤ l4
          · rw [if_pos q]
          · rw [if_neg q, if_pos (by omega)]
        rw [hC, n1]
        by_cases q : dc_R_blownTo t h = -1
        · rw [if_pos q, if_pos (by omega)]
          exact ⟨t, rfl, ht, hn, fun _ _ _ => rfl, fun _ _ _ => rfl, fun _ _ => rfl⟩
        · rw [if_neg q, if_neg (by omega)]
          have x0 : 0 ≤ dc_R_blownTo t h ∧ dc_R_blownTo t h < t 234 6 := by omega
          have hl := st_lay ht hn (x := (dc_R_blownTo t h).toNat) (kd := kd) (by omega) k1 k7 s
          rw [Int.toNat_of_nonneg x0.1] at hl
          refine ⟨_, rfl, sv_lays ht x0.1 (by omega) (by omega) k7, hl, fun a k ha => sg_na ha _ _ _, fun a k ha => dr_R_lays t _ _ _ a k (by show (a == 235) = false; simp [ha]), fun k hk' => ?_⟩
          have hm := (st_b_of ht).2.2.2.2 0 (dc_R_blownTo t h).toNat (by omega) (by omega)
          rw [show 112 * 0 + (20 + (dc_R_blownTo t h).toNat) = ((0 + 20) + dc_R_blownTo t h).toNat by omega] at hm
          exact dl_lays t 0 _ kd k (by omega) x0.1 (by omega) hm.1 hm.2 (by omega)
      · rw [if_neg c, if_neg (show ¬ 9 ≤ l4 by omega), if_neg (show ¬ f < 0 by omega), if_neg (show ¬ 9 ≤ f by omega)]
        have hl := st_lay ht hn (x := f.toNat) (kd := kd) (by omega) k1 k7 s
        rw [Int.toNat_of_nonneg (show 0 ≤ f by omega)] at hl
        have hm := (st_b_of ht).2.2.2.2 0 f.toNat (by omega) (by omega)
        rw [show 112 * 0 + (20 + f.toNat) = ((0 + 20) + f).toNat by omega] at hm
        have low : ∀ k : Nat, (k < 20 ∨ 101 ≤ k) → dc_R_lays t 0 f kd 235 k = t 235 k := fun k hk' => dl_lays t 0 f kd k (by omega) (by omega) (by omega) hm.1 hm.2 (by omega)
        have oth : ∀ a k, a ≠ 235 → dc_R_lays t 0 f kd a k = t a k := fun a k ha => dr_R_lays t _ _ _ a k (by show (a == 235) = false; simp [ha])
        have hi := mo_into ht g (f := f) (by omega) f1 (by omega)
        have hq := st_at hn (p := 11 + f.toNat) (by unfold st_v; omega) (by omega)
        have pa : st_pa1 (11 + f.toNat) = 3 := by unfold st_pa1; rw [if_neg (by omega), if_neg (by omega), if_pos (by omega)]
        have pk : st_pk (11 + f.toNat) = f.toNat := by unfold st_pk; rw [if_neg (by omega), if_neg (by omega), if_neg (by omega), if_pos (by omega)]; omega
        rw [pa, pk] at hq
        have hq' : s 16 f.toNat = t 235 (11 + f.toNat) := hq
        rw [show ((0 + 11 : Int) + f).toNat = 11 + f.toNat by omega, low _ (by omega), hq']
        obtain ⟨t', r1, r2, r3, r4, r5, r6⟩ := ih m (sg_up s 14 f.toNat (dc_Soot_laid s (s 14 f.toNat) kd)) (dc_R_lays t 0 f kd) h (t 235 (11 + f.toNat)) (l4 + 1) (sv_lays ht (by omega) (by omega) (by omega) k7) (by rw [oth 234 6 (by decide), low 11 (by omega)]; exact g) hl (by rw [sg_na (by decide), oth 234 4 (by decide)]; exact e1) (by rw [sg_na (by decide), oth 234 6 (by decide)]; exact e3) (by rw [sg_na (by decide)]; exact hk) hi.1 (by rw [oth 234 6 (by decide)]; omega) (by omega) (by omega) (by omega) (by omega)
        exact ⟨t', r1, r2, r3, fun a k ha => by rw [r4 a k ha, sg_na ha], fun a k ha => by rw [r5 a k ha, oth a k ha], fun k hk' => by rw [r6 k hk', low k hk']⟩
theorem mo_pass (n : Nat) : ∀ (m : Nat) (s t : sg_S) (h : Int), sv t → (t 234 6 ≤ 0 ∨ t 235 11 = -1) → st_s s t 13 0 → s 8 1 = t 234 4 → s 8 3 = t 234 6 → 0 ≤ h → h ≤ 9 → 9 - h < (n : Int) → 9 - h < (m : Int) → st_s (dc_St_passMonth_2 n s h) (dc_R_passes_2 m t 0 h) 13 0 ∧ (∀ a k, (a < 13 ∨ 18 < a) → dc_St_passMonth_2 n s h a k = s a k) ∧ (∀ a k, a ≠ 235 → dc_R_passes_2 m t 0 h a k = t a k) ∧ (∀ k, 101 ≤ k → dc_R_passes_2 m t 0 h 235 k = t 235 k) := by
  induction n with
  | zero => intro m s t h _ _ _ _ _ h0 h9 hn _; exact absurd hn (by omega)
  | succ n ih =>
    intro m s t h ht g hn e1 e3 h0 h9 hN hM
    have hb := st_b_of ht
    have b9 := hb.2.1
    cases m with
    | zero => exact absurd hM (by omega)
    | succ m =>
      rw [dc_R_passes_2_s, dc_St_passMonth_2_s, e3]
      by_cases c : t 234 6 ≤ h
      · rw [if_pos c, if_pos c]
        have q := st_at hn (p := 0) (by unfold st_v; omega) (by omega)
        have hq := st_set hb hn (p := 0) (by omega) (sy_w (t 235 0 + 1))
        have pa : st_pa1 0 = 0 := rfl
        have pk : st_pk 0 = 5 := rfl
        rw [pa, pk] at q hq
        have q' : s 13 5 = t 235 0 := q
        rw [q', show ((0 + 0 : Int)).toNat = 0 by decide]
        exact ⟨hq, fun a k ha => sg_na (by omega) _ _ _, fun a k ha => sg_na ha _ _ _, fun k hk => sg_nk (by omega) _ _ _⟩
      · rw [if_neg c, if_neg c]
        have q := st_at hn (p := 2 + h.toNat) (by unfold st_v; omega) (by omega)
        have pa : st_pa1 (2 + h.toNat) = 2 := by unfold st_pa1; rw [if_neg (by omega), if_pos (by omega)]
        have pk : st_pk (2 + h.toNat) = h.toNat := by unfold st_pk; rw [if_neg (by omega), if_neg (by omega), if_pos (by omega)]; omega
        rw [pa, pk] at q
        have q' : s 15 h.toNat = t 235 (2 + h.toNat) := q
        have hr : 0 ≤ t 235 (2 + h.toNat) ∧ t 235 (2 + h.toNat) ≤ 7 := by
          obtain ⟨hp, hH, rfl⟩ := ht
          have := sg_wcN 2 11 (lo := 0) (hi := 7) (by decide) (by omega) (by omega) (by omega) (sg_rngW hH (z := 2 + h) (by omega) (by omega))
          rw [show (2 + h).toNat = 2 + h.toNat by omega] at this
          exact this
        rw [show ((0 + 2 : Int) + h).toNat = 2 + h.toNat by omega, q']
        by_cases z : t 235 (2 + h.toNat) = 0
        · rw [if_pos z, if_pos (by omega)]
          exact ih m s t (h + 1) ht g hn e1 e3 (by omega) (by omega) (by omega) (by omega)
        · rw [if_neg z, if_neg (by omega)]
          obtain ⟨t', r1, r2, r3, r4, r5, r6⟩ := mo_burn (dc_R_passes_2 m) (t 235 (2 + h.toNat)) (by omega) hr.2 10 10 s t h h 0 ht g hn e1 e3 q' (by omega) (by omega) (by omega) (by omega) (by omega) (by omega)
          rw [r1]
          have hB : dc_St_burnIn s h = dc_St_burnIn_5 10 s h h 0 := rfl
          rw [← hB] at r3 r4
          obtain ⟨w1, w2, w3, w4⟩ := ih m (dc_St_burnIn s h) t' (h + 1) r2 (by rw [r5 234 6 (by decide), r6 11 (by omega)]; exact g) r3 (by rw [r4 8 1 (by decide), r5 234 4 (by decide)]; exact e1) (by rw [r4 8 3 (by decide), r5 234 6 (by decide)]; exact e3) (by omega) (by omega) (by omega) (by omega)
          exact ⟨w1, fun a k ha => by rw [w2 a k ha, r4 a k (by omega)], fun a k ha => by rw [w3 a k ha, r5 a k ha], fun k hk => by rw [w4 k hk, r6 k (by omega)]⟩
theorem r2_pass {s t : sg_S} (ht : sv t) (g : t 234 6 ≤ 0 ∨ t 235 11 = -1) (h : r2 s t) : r2 (dc_St_passMonth s) (dc_R_passes t 0) := by
  obtain ⟨w1, w2, w3, w4⟩ := mo_pass 10 10 s t 0 ht g h.1 h.2.2.2.2.2.2.1 (r2_houses h) (by omega) (by omega) (by omega) (by omega)
  refine r2_now (st_b_of ht) w2 (fun k => w3 234 k (by decide)) (fun k => w3 236 k (by decide)) (fun k => w3 237 k (by decide)) (fun k hk => w4 k (by omega)) w1 ?_ h
  have e1 : dc_St_passMonth s 0 9 = s 0 9 := w2 0 9 (by omega)
  have e2 : dc_R_passes t 0 235 111 = t 235 111 := w4 111 (by omega)
  rw [e1, e2]
  exact h.2.2.2.1
