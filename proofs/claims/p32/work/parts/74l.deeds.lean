/-! DEEDS THAT LEAVE THE FLUES -/
def st_pa1 (p : Nat) : Nat := if p < 2 then 0 else if p < 11 then 2 else if p < 20 then 3 else if p < 29 then 1 else if p < 106 then 4 else 5
def st_pk (p : Nat) : Nat := if p = 0 then 5 else if p = 1 then 6 else if p < 11 then p - 2 else if p < 20 then p - 11 else if p < 29 then p - 20 else if p < 106 then p - 101 else p - 106
theorem st_cp (s : sg_S) (b p : Nat) : st_c s b p = s (b + st_pa1 p) (st_pk p) := by
  unfold st_c st_pa1 st_pk
  by_cases c0 : p = 0
  · rw [if_pos c0, if_pos (by omega), if_pos c0]; rfl
  by_cases c1 : p = 1
  · rw [if_neg c0, if_pos c1, if_pos (by omega), if_neg c0, if_pos c1]; rfl
  simp only [if_neg c0, if_neg c1, if_neg (show ¬ p < 2 by omega)]
  (repeat' split) <;> first | rfl | omega
theorem st_inj {p p' : Nat} (h : p < 29 ∨ (101 ≤ p ∧ p < 111)) (h' : p' < 29 ∨ (101 ≤ p' ∧ p' < 111)) (e1 : st_pa1 p' = st_pa1 p) (e2 : st_pk p' = st_pk p) : p' = p := by
  unfold st_pa1 at e1
  unfold st_pk at e2
  (repeat' split at e1) <;> (repeat' split at e2) <;> omega
theorem st_vv {H W : Int} {p : Nat} (h9 : H ≤ 9) (h5 : W ≤ 5) (h : st_v H W p) : p < 29 ∨ (101 ≤ p ∧ p < 111) := by
  unfold st_v at h
  omega
theorem st_set {s t : sg_S} (hb : st_b t) (hn : st_s s t 13 0) {p : Nat} (hp : p < 20 ∨ (101 ≤ p ∧ p < 111)) (v : Int) : st_s (sg_up s (13 + st_pa1 p) (st_pk p) v) (sg_up t 235 p v) 13 0 := by
  obtain ⟨h1, h2, h3⟩ := hn
  have e6 : (sg_up t 235 p v) 234 6 = t 234 6 := sg_na (by decide) _ _ _
  have e7 : (sg_up t 235 p v) 234 7 = t 234 7 := sg_na (by decide) _ _ _
  have hm := hb.2.2.2.2 0
  refine ⟨fun p' hv => ?_, fun x l hx hl => ?_, fun x hx h9 => ?_⟩
  · rw [e6, e7] at hv
    have hv' := st_vv hb.2.1 hb.2.2.2.1 hv
    by_cases z : p' = p
    · subst z
      rw [st_cp, sg_eq]
      unfold st_r
      rw [if_neg (by omega), show 112 * 0 + p' = p' by omega, sg_eq]
    · have hk := h1 p' hv
      rw [st_cp] at hk ⊢
      rw [show sg_up s (13 + st_pa1 p) (st_pk p) v (13 + st_pa1 p') (st_pk p') = s (13 + st_pa1 p') (st_pk p') from if_neg (fun q => z (st_inj (by omega) hv' (by omega) q.2)), hk]
      unfold st_r
      by_cases c : 20 ≤ p' ∧ p' < 29
      · rw [if_pos c, if_pos c, sg_nk (by omega)]
        have := hm (p' - 20) (by omega) (by omega)
        rw [show 20 + (p' - 20) = p' by omega] at this
        exact st_e_congr _ (fun l hl => (sg_nk (by omega) _ _ _).symm)
      · rw [if_neg c, if_neg c, sg_nk (by omega)]
  · rw [e6] at hx
    have b9 := hb.2.1
    have := hm x (by omega) (by omega)
    rw [sg_nk (by omega)] at hl
    rw [sg_nk (by omega)]
    exact h2 x l hx hl
  · rw [e6] at hx
    rw [sg_na (by unfold st_pa1; (repeat' split) <;> omega)]
    exact h3 x hx h9
theorem st_b_up {t : sg_S} (hb : st_b t) {k : Nat} {v : Int} (hk : k < 20 ∨ (29 ≤ k ∧ k < 112)) : st_b (sg_up t 235 k v) := by
  obtain ⟨h1, h2, h3, h4, h5⟩ := hb
  refine ⟨by rw [sg_na (by decide)]; exact h1, by rw [sg_na (by decide)]; exact h2, by rw [sg_na (by decide)]; exact h3, by rw [sg_na (by decide)]; exact h4, fun q h hq hh => ?_⟩
  rw [sg_nk (by omega)]
  exact h5 q h hq hh
/-- a place of the street now, on both sides -/
theorem st_at {s t : sg_S} (hn : st_s s t 13 0) {p : Nat} (hv : st_v (t 234 6) (t 234 7) p) (hp : p < 20 ∨ 29 ≤ p) : s (13 + st_pa1 p) (st_pk p) = t 235 p := by
  have := hn.1 p hv
  rw [st_cp] at this
  rw [this]
  unfold st_r
  rw [if_neg (by omega), show 112 * 0 + p = p by omega]
theorem r2_set {s t : sg_S} (hb : st_b t) (h : r2 s t) {p : Nat} (hp : p < 20 ∨ (101 ≤ p ∧ p < 111)) (v : Int) : r2 (sg_up s (13 + st_pa1 p) (st_pk p) v) (sg_up t 235 p v) := by
  have hp5 : st_pa1 p ≤ 5 := by unfold st_pa1; (repeat' split) <;> omega
  refine r2_now hb (fun a k ha => sg_na (by omega) _ _ _) (fun k => sg_na (by decide) _ _ _) (fun k => sg_na (by decide) _ _ _) (fun k => sg_na (by decide) _ _ _) (fun k hk => sg_nk (by omega) _ _ _) (st_set hb h.1 hp v) ?_ h
  rw [sg_na (by omega), sg_nk (by omega)]
  exact h.2.2.2.1
theorem r2_houses {s t : sg_S} (h : r2 s t) : s 8 3 = t 234 6 := h.2.2.2.2.2.2.2.2.1
theorem r2_sweeps {s t : sg_S} (h : r2 s t) : s 8 4 = t 234 7 := h.2.2.2.2.2.2.2.2.2
theorem r2_told {s t : sg_S} (h : r2 s t) : s 8 0 = t 234 3 := h.2.2.2.2.2.1
theorem r2_hh {s t : sg_S} (h : r2 s t) (a : Int) : dc_C_isHouse s a = 0 ↔ dc_R_isHouse t a = 0 := by
  rw [r1_hC, r1_hR, r2_houses h]
theorem r2_fire {s t : sg_S} (ht : sv t) (h : r2 s t) (a1 a2 : Int) : (dc_C_fire s a1 a2).2 = (dc_R_fire t a1 a2).2 ∧ r2 (dc_C_fire s a1 a2).1 (dc_R_fire t a1 a2).1 := by
  have hb := st_b_of ht
  have b9 := hb.2.1
  unfold dc_C_fire dc_R_fire
  by_cases c1 : dc_R_isHouse t a1 = 0
  · rw [if_pos ((r2_hh h a1).mpr c1), if_pos c1]
    exact ⟨rfl, h⟩
  · have k1 : 0 ≤ a1 ∧ a1 < t 234 6 := Decidable.not_not.mp (fun z => c1 ((r1_hR t a1).mpr z))
    rw [if_neg (fun z => c1 ((r2_hh h a1).mp z)), if_neg c1]
    by_cases c2 : 0 ≤ a2 ∧ a2 ≤ 7
    · rw [if_neg (by omega), if_pos c2.2, if_neg (eq_in1 c2)]
      have hm := r2_minds ht h
      have hp : 2 + a1.toNat < 11 := by omega
      have e6 : dc_R_minds t 234 6 = t 234 6 := dr_R_minds t 234 6 rfl
      have pa : st_pa1 (2 + a1.toNat) = 2 := by unfold st_pa1; rw [if_neg (by omega), if_pos hp]
      have pk : st_pk (2 + a1.toNat) = a1.toNat := by unfold st_pk; rw [if_neg (by omega), if_neg (by omega), if_pos hp]; omega
      have q1 := st_at hm.1 (p := 2 + a1.toNat) (by unfold st_v; rw [e6]; omega) (by omega)
      have q2 := r2_set (st_b_of (sv_minds ht)) hm (p := 2 + a1.toNat) (by omega) a2
      rw [pa, pk] at q1 q2
      rw [show (2 + a1).toNat = 2 + a1.toNat by omega]
      exact ⟨q1, q2⟩
    · rw [if_pos (eq_in0 c2)]
      (repeat' split) <;> first | exact ⟨rfl, h⟩ | omega
theorem r2_run {s t : sg_S} (ht : sv t) (h : r2 s t) (a1 a2 : Int) : (dc_C_run s a1 a2).2 = (dc_R_run t a1 a2).2 ∧ r2 (dc_C_run s a1 a2).1 (dc_R_run t a1 a2).1 := by
  have hb := st_b_of ht
  have b9 := hb.2.1
  unfold dc_C_run dc_R_run
  by_cases c1 : dc_R_isHouse t a1 = 0
  · rw [if_pos ((r2_hh h a1).mpr c1), if_pos c1]
    exact ⟨rfl, h⟩
  · have k1 : 0 ≤ a1 ∧ a1 < t 234 6 := Decidable.not_not.mp (fun z => c1 ((r1_hR t a1).mpr z))
    rw [if_neg (fun z => c1 ((r2_hh h a1).mp z)), if_neg c1]
    by_cases c2 : -1 ≤ a2 ∧ a2 ≤ a1 - 1
    · rw [if_neg (by omega), if_pos (by omega), if_neg (eq_in1 c2)]
      have hm := r2_minds ht h
      have hp : 11 + a1.toNat < 20 := by omega
      have e6 : dc_R_minds t 234 6 = t 234 6 := dr_R_minds t 234 6 rfl
      have pa : st_pa1 (11 + a1.toNat) = 3 := by unfold st_pa1; rw [if_neg (by omega), if_neg (by omega), if_pos hp]
      have pk : st_pk (11 + a1.toNat) = a1.toNat := by unfold st_pk; rw [if_neg (by omega), if_neg (by omega), if_neg (by omega), if_pos hp]; omega
      have q1 := st_at hm.1 (p := 11 + a1.toNat) (by unfold st_v; rw [e6]; omega) (by omega)
      have q2 := r2_set (st_b_of (sv_minds ht)) hm (p := 11 + a1.toNat) (by omega) a2
      rw [pa, pk] at q1 q2
      rw [show (11 + a1).toNat = 11 + a1.toNat by omega]
      exact ⟨q1, q2⟩
    · rw [if_pos (eq_in0 c2)]
      (repeat' split) <;> first | exact ⟨rfl, h⟩ | omega
theorem r2_seed {s t : sg_S} (ht : sv t) (h : r2 s t) (a1 : Int) : (dc_C_seed s a1).2 = (dc_R_seed t a1).2 ∧ r2 (dc_C_seed s a1).1 (dc_R_seed t a1).1 := by
  have hb := st_b_of ht
  unfold dc_C_seed dc_R_seed
  split
  · dsimp only
    refine ⟨h.2.2.2.1, r2_dice hb (fun a k ha => sg_na (by omega) _ _ _) (fun k => sg_na (by decide) _ _ _) (fun k => sg_na (by decide) _ _ _) (fun k => sg_na (by decide) _ _ _) (fun k hk => sg_nk (by omega) _ _ _) ?_ h⟩
    rw [sg_eq, sg_eq]
  · exact ⟨rfl, h⟩
theorem sg_upc (s : sg_S) {a k l : Nat} (x y : Int) (h : k ≠ l) : sg_up (sg_up s a k x) a l y = sg_up (sg_up s a l y) a k x := by
  funext b m
  unfold sg_up
  by_cases q1 : b = a ∧ m = l
  · have q2 : ¬ (b = a ∧ m = k) := by omega
    simp only [if_pos q1, if_neg q2]
  · by_cases q2 : b = a ∧ m = k
    · simp only [if_neg q1, if_pos q2]
    · simp only [if_neg q1, if_neg q2]
theorem r2_sC (s : sg_S) (a : Int) : dc_C_isSweep s a = 0 ↔ ¬ (0 ≤ a ∧ a < s 8 4) := by
  unfold dc_C_isSweep
  (repeat' split) <;> omega
theorem r2_sR (s : sg_S) (a : Int) : dc_R_isSweep s a = 0 ↔ ¬ (0 ≤ a ∧ a < s 234 7) := by
  unfold dc_R_isSweep dc_R_in
  (repeat' split) <;> omega
theorem r2_two {s t : sg_S} (h : r2 s t) (a c : Int) : (dc_C_areTwoSweeps s a c = 0 ↔ dc_R_areTwo t a c = 0) ∧ (dc_R_areTwo t a c = 0 ↔ ¬ ((0 ≤ a ∧ a < t 234 7) ∧ (0 ≤ c ∧ c < t 234 7) ∧ a ≠ c)) := by
  have e := r2_sweeps h
  have k1 := r2_sC s a
  have k2 := r2_sC s c
  have k3 := r2_sR t a
  have k4 := r2_sR t c
  rw [e] at k1 k2
  unfold dc_C_areTwoSweeps dc_R_areTwo
  constructor
  · (repeat' split) <;> omega
  · (repeat' split) <;> omega
/-- what a sweep knows -/
theorem r2_kn {s t : sg_S} (hn : st_s s t 13 0) {x : Int} (h0 : 0 ≤ x) (h1 : x < t 234 7) (h5 : x ≤ 4) : s 17 x.toNat = t 235 ((101 + x).toNat) := by
  have q := st_at hn (p := 101 + x.toNat) (by unfold st_v; omega) (by omega)
  have pa : st_pa1 (101 + x.toNat) = 4 := by unfold st_pa1; rw [if_neg (by omega), if_neg (by omega), if_neg (by omega), if_neg (by omega), if_pos (by omega)]
  have pk : st_pk (101 + x.toNat) = x.toNat := by unfold st_pk; rw [if_neg (by omega), if_neg (by omega), if_neg (by omega), if_neg (by omega), if_neg (by omega), if_pos (by omega)]; omega
  rw [pa, pk] at q
  rw [show (101 + x).toNat = 101 + x.toNat by omega]
  exact q
theorem r2_learn {s t : sg_S} (hb : st_b t) (h : r2 s t) {x : Int} (h0 : 0 ≤ x) (h5 : x ≤ 4) (v : Int) : r2 (sg_up s 17 x.toNat v) (sg_up t 235 ((101 + x).toNat) v) := by
  have pa : st_pa1 (101 + x.toNat) = 4 := by unfold st_pa1; rw [if_neg (by omega), if_neg (by omega), if_neg (by omega), if_neg (by omega), if_pos (by omega)]
  have pk : st_pk (101 + x.toNat) = x.toNat := by unfold st_pk; rw [if_neg (by omega), if_neg (by omega), if_neg (by omega), if_neg (by omega), if_neg (by omega), if_pos (by omega)]; omega
  have q := r2_set hb h (p := 101 + x.toNat) (by omega) v
  rw [pa, pk] at q
  rw [show (101 + x).toNat = 101 + x.toNat by omega]
  exact q
theorem r2_purse {s t : sg_S} (hb : st_b t) (h : r2 s t) {x : Int} (h0 : 0 ≤ x) (h5 : x ≤ 4) (v : Int) : r2 (sg_up s 18 x.toNat v) (sg_up t 235 ((106 + x).toNat) v) := by
  have pa : st_pa1 (106 + x.toNat) = 5 := by unfold st_pa1; rw [if_neg (by omega), if_neg (by omega), if_neg (by omega), if_neg (by omega), if_neg (by omega)]
  have pk : st_pk (106 + x.toNat) = x.toNat := by unfold st_pk; rw [if_neg (by omega), if_neg (by omega), if_neg (by omega), if_neg (by omega), if_neg (by omega), if_neg (by omega)]; omega
  have q := r2_set hb h (p := 106 + x.toNat) (by omega) v
  rw [pa, pk] at q
  rw [show (106 + x).toNat = 106 + x.toNat by omega]
  exact q
theorem r2_pu {s t : sg_S} (hn : st_s s t 13 0) {x : Int} (h0 : 0 ≤ x) (h1 : x < t 234 7) (h5 : x ≤ 4) : s 18 x.toNat = t 235 ((106 + x).toNat) := by
  have q := st_at hn (p := 106 + x.toNat) (by unfold st_v; omega) (by omega)
  have pa : st_pa1 (106 + x.toNat) = 5 := by unfold st_pa1; rw [if_neg (by omega), if_neg (by omega), if_neg (by omega), if_neg (by omega), if_neg (by omega)]
  have pk : st_pk (106 + x.toNat) = x.toNat := by unfold st_pk; rw [if_neg (by omega), if_neg (by omega), if_neg (by omega), if_neg (by omega), if_neg (by omega), if_neg (by omega)]; omega
  rw [pa, pk] at q
  rw [show (106 + x).toNat = 106 + x.toNat by omega]
  exact q
/-- who can give what -/
theorem r2_give {s t : sg_S} (hn : st_s s t 13 0) {x y m : Int} (x0 : 0 ≤ x) (x1 : x < t 234 7) (x5 : x ≤ 4) (y0 : 0 ≤ y) (y1 : y < t 234 7) (y5 : y ≤ 4) : dc_St_canGive s x y m = 0 ↔ (dc_R_isKnown t x m = 0 ∨ ¬ dc_R_isKnown t y m = 0) := by
  unfold dc_St_canGive dc_R_isKnown dc_R_has
  rw [r2_kn hn x0 x1 x5, r2_kn hn y0 y1 y5]
  have a1 := sg_and_r (sy_shr (t 235 ((101 + x).toNat)) m) 1 (by decide) (by decide)
  have a2 := sg_and_r (sy_shr (t 235 ((101 + y).toNat)) m) 1 (by decide) (by decide)
  (repeat' split) <;> omega
