/-! SOOT LAID ON BOTH SIDES -/
theorem sv_lays {t : sg_S} (ht : sv t) {x kd : Int} (h1 : 0 ≤ x) (h2 : x ≤ 8) (h3 : 0 ≤ kd) (h4 : kd ≤ 7) : sv (dc_R_lays t 0 x kd) := by
  obtain ⟨h, hH, rfl⟩ := ht
  exact sv_3 (dt_R_lays hH (by omega) (by omega) h1 h2 h3 h4 (by omega))
theorem la_30 (x : Nat) (kd : Int) (n : Nat) : ∀ (s : sg_S) (l5 : Int), 0 ≤ l5 → l5 ≤ 7 → s 235 (20 + x) = 8 → x ≤ 8 → 7 - l5 < (n : Int) → ∀ k : Nat, k ≠ 20 + x → dc_R_lays_30 n s 0 (x : Int) kd ((0 + 29) + (8 * (x : Int))) l5 235 k = if k = 29 + 8 * x + 7 then kd else if 29 + 8 * (x : Int) + l5 ≤ (k : Int) ∧ k < 29 + 8 * x + 7 then s 235 (k + 1) else s 235 k := by
  induction n with
  | zero => intro s l5 h0 h7 hm hx hn; exact absurd hn (by omega)
  | succ n ih =>
    intro s l5 h0 h7 hm hx hn k hk
    rw [dc_R_lays_30_s]
    have e20 : ((0 + 20 : Int) + (x : Int)).toNat = 20 + x := by omega
    rw [e20, hm]
    by_cases c : 7 ≤ l5
    · rw [if_pos c, sg_nk hk]
      by_cases q : k = 29 + 8 * x + 7
      · rw [if_pos q, show ((0 + 29 : Int) + 8 * (x : Int) + (8 - 1)).toNat = k by omega, sg_eq]
      · rw [if_neg q, if_neg (by omega), sg_nk (by omega), sg_nk hk]
    · rw [if_neg c]
      have := ih (sg_up s 235 (((0 + 29) + (8 * (x : Int)) + l5).toNat) (s 235 ((((0 + 29) + (8 * (x : Int)) + l5) + 1).toNat))) (l5 + 1) (by omega) (by omega) (by rw [sg_nk (by omega)]; exact hm) hx (by omega) k hk
      rw [this]
      by_cases q : k = 29 + 8 * x + 7
      · rw [if_pos q, if_pos q]
      · rw [if_neg q, if_neg q]
        by_cases q1 : 29 + 8 * (x : Int) + (l5 + 1) ≤ (k : Int) ∧ k < 29 + 8 * x + 7
        · rw [if_pos q1, if_pos (by omega), sg_nk (by omega)]
        · rw [if_neg q1]
          by_cases q2 : (k : Int) = 29 + 8 * (x : Int) + l5
          · rw [if_pos (by omega), show ((0 + 29 : Int) + (8 * (x : Int)) + l5).toNat = k by omega, sg_eq, show ((0 + 29 : Int) + (8 * (x : Int)) + l5 + 1).toNat = k + 1 by omega]
          · rw [if_neg (by omega), sg_nk (by omega)]
/-- the reference's row behind a layer more -/
theorem la_row (t : sg_S) (x : Nat) (kd : Int) (hx : x ≤ 8) (m0 : 0 ≤ t 235 (20 + x)) (m8 : t 235 (20 + x) ≤ 8) : (dc_R_lays t 0 (x : Int) kd 235 (20 + x) = if t 235 (20 + x) = 8 then 8 else t 235 (20 + x) + 1) ∧ (∀ k : Nat, k ≠ 20 + x → dc_R_lays t 0 (x : Int) kd 235 k = if t 235 (20 + x) = 8 then (if k = 29 + 8 * x + 7 then kd else if 29 + 8 * x ≤ k ∧ k < 29 + 8 * x + 7 then t 235 (k + 1) else t 235 k) else (if (k : Int) = 29 + 8 * (x : Int) + t 235 (20 + x) then kd else t 235 k)) := by
  have e20 : ((0 + 20 : Int) + (x : Int)).toNat = 20 + x := by omega
  constructor
  · have := rb_lays_m t 0 (x : Int) kd (x : Int) (by omega) (by omega) (by omega) (by rw [e20]; exact m0) (by rw [e20]; exact m8) (by omega) (by omega)
    rw [e20] at this
    rw [this]
    by_cases c : t 235 (20 + x) = 8
    · rw [if_pos c, if_neg (by omega)]; exact c
    · rw [if_neg c, if_pos ⟨rfl, c⟩]
  · intro k hk
    by_cases c : t 235 (20 + x) = 8
    · have hd : dc_R_lays t 0 (x : Int) kd = dc_R_lays_30 8 t 0 (x : Int) kd ((0 + 29) + (8 * (x : Int))) 0 := if_pos (by rw [e20]; exact c)
      rw [hd, if_pos c, la_30 x kd 8 t 0 (by omega) (by omega) c hx (by omega) k hk]
      by_cases q : k = 29 + 8 * x + 7
      · rw [if_pos q, if_pos q]
      · rw [if_neg q, if_neg q]
        by_cases q1 : 29 + 8 * x ≤ k ∧ k < 29 + 8 * x + 7
        · rw [if_pos q1, if_pos (by omega)]
        · rw [if_neg q1, if_neg (by omega)]
    · have hd : dc_R_lays t 0 (x : Int) kd = sg_up (sg_up t 235 ((((0 + 29) + (8 * (x : Int))) + (t 235 (((0 + 20) + (x : Int)).toNat))).toNat) kd) 235 (((0 + 20) + (x : Int)).toNat) ((t 235 (((0 + 20) + (x : Int)).toNat)) + 1) := if_neg (by rw [e20]; exact c)
      rw [hd, if_neg c, e20, sg_nk hk]
      by_cases q : (k : Int) = 29 + 8 * (x : Int) + t 235 (20 + x)
      · rw [if_pos q, show ((0 + 29 : Int) + 8 * (x : Int) + t 235 (20 + x)).toNat = k by omega, sg_eq]
      · rw [if_neg q, sg_nk (by omega)]
theorem st_lay {s t : sg_S} (ht : sv t) (hn : st_s s t 13 0) {x : Nat} {kd : Int} (hx : (x : Int) < t 234 6) (k1 : 1 ≤ kd) (k7 : kd ≤ 7) (s0 : sg_S) : st_s (sg_up s 14 x (dc_Soot_laid s0 (s 14 x) kd)) (dc_R_lays t 0 (x : Int) kd) 13 0 := by
  have hb := st_b_of ht
  have b9 := hb.2.1
  obtain ⟨h1, h2, h3⟩ := hn
  have e6 : dc_R_lays t 0 (x : Int) kd 234 6 = t 234 6 := dr_R_lays t _ _ _ 234 6 rfl
  have e7 : dc_R_lays t 0 (x : Int) kd 234 7 = t 234 7 := dr_R_lays t _ _ _ 234 7 rfl
  have hm := hb.2.2.2.2 0 x (by omega) (by omega)
  rw [show 112 * 0 + (20 + x) = 20 + x by omega] at hm
  obtain ⟨r1, r2⟩ := la_row t x kd (by omega) hm.1 hm.2
  have lay7 : ∀ h l : Nat, h < 9 → l < 8 → 0 ≤ t 235 (29 + 8 * h + l) ∧ t 235 (29 + 8 * h + l) ≤ 7 := fun h l hh hl => by
    obtain ⟨hp, hH, rfl⟩ := ht
    have := sg_wcN 29 101 (lo := 0) (hi := 7) (by decide) (by omega) (by omega) (by omega) (sg_rngW hH (z := ((29 + 8 * h + l : Nat) : Int)) (by omega) (by omega))
    rw [show (((29 + 8 * h + l : Nat) : Int)).toNat = 29 + 8 * h + l by omega] at this
    exact this
  have many : ∀ h : Nat, h < 9 → 0 ≤ t 235 (20 + h) ∧ t 235 (20 + h) ≤ 8 := fun h hh => by
    have := hb.2.2.2.2 0 h (by omega) hh
    rw [show 112 * 0 + (20 + h) = 20 + h by omega] at this
    exact this
  refine ⟨fun p hv => ?_, fun h l hh hl => ?_, fun h hh h9 => ?_⟩
  · rw [e6, e7] at hv
    have hv' := st_vv hb.2.1 hb.2.2.2.1 hv
    have hk := h1 p hv
    by_cases z : p = 20 + x
    · subst z
      have pa : st_pa1 (20 + x) = 1 := by unfold st_pa1; rw [if_neg (by omega), if_neg (by omega), if_neg (by omega), if_pos (by omega)]
      have pk : st_pk (20 + x) = x := by unfold st_pk; rw [if_neg (by omega), if_neg (by omega), if_neg (by omega), if_neg (by omega), if_pos (by omega)]; omega
      rw [st_cp, pa, pk] at hk ⊢
      rw [sg_eq, hk]
      unfold st_r
      rw [if_pos (by omega), if_pos (by omega), show 112 * 0 + (20 + x) = 20 + x by omega, r1, show 20 + x - 20 = x by omega]
      have key := so_more s0 (f := fun l => t 235 (112 * 0 + (29 + 8 * x + l))) (g := fun l => dc_R_lays t 0 (x : Int) kd 235 (112 * 0 + (29 + 8 * x + l))) (m := (t 235 (20 + x)).toNat) (k := kd) (by omega) (fun l hl => by
        have a := h2 x l hx (by rw [show 112 * 0 + (20 + x) = 20 + x by omega]; omega)
        have c := lay7 x l (by omega) (by omega)
        rw [show 112 * 0 + (29 + 8 * x + l) = 29 + 8 * x + l by omega] at a ⊢
        omega) (by omega) k7 (by
        by_cases c : t 235 (20 + x) = 8
        · rw [if_pos (by omega)]
          refine ⟨fun l hl => ?_, ?_⟩
          · show dc_R_lays t 0 (x : Int) kd 235 (112 * 0 + (29 + 8 * x + l)) = t 235 (112 * 0 + (29 + 8 * x + (l + 1)))
            rw [r2 _ (by omega), if_pos c, if_neg (by omega), if_pos (by omega), show 112 * 0 + (29 + 8 * x + l) + 1 = 112 * 0 + (29 + 8 * x + (l + 1)) by omega]
          · show dc_R_lays t 0 (x : Int) kd 235 (112 * 0 + (29 + 8 * x + 7)) = kd
            rw [r2 _ (by omega), if_pos c, if_pos (by omega)]
        · rw [if_neg (by omega)]
          refine ⟨fun l hl => ?_, ?_⟩
          · show dc_R_lays t 0 (x : Int) kd 235 (112 * 0 + (29 + 8 * x + l)) = t 235 (112 * 0 + (29 + 8 * x + l))
            rw [r2 _ (by omega), if_neg c, if_neg (by omega)]
          · show dc_R_lays t 0 (x : Int) kd 235 (112 * 0 + (29 + 8 * x + (t 235 (20 + x)).toNat)) = kd
            rw [r2 _ (by omega), if_neg c, if_pos (by omega)])
      rw [key]
      by_cases c : t 235 (20 + x) = 8
      · rw [if_pos c, if_pos (by omega)]; rfl
      · rw [if_neg c, if_neg (by omega), show (t 235 (20 + x) + 1).toNat = (t 235 (20 + x)).toNat + 1 by omega]
    · rw [st_cp] at hk ⊢
      have hne : ¬ (13 + st_pa1 p = 14 ∧ st_pk p = x) := fun q => z (by
        refine st_inj (p := 20 + x) (by omega) hv' ?_ ?_
        · unfold st_pa1
          rw [if_neg (show ¬ 20 + x < 2 by omega), if_neg (show ¬ 20 + x < 11 by omega), if_neg (show ¬ 20 + x < 20 by omega), if_pos (show 20 + x < 29 by omega)]
          have := q.1
          unfold st_pa1 at this
          omega
        · have : st_pk (20 + x) = x := by unfold st_pk; rw [if_neg (by omega), if_neg (by omega), if_neg (by omega), if_neg (by omega), if_pos (by omega)]; omega
          rw [this]; exact q.2)
      rw [show sg_up s 14 x (dc_Soot_laid s0 (s 14 x) kd) (13 + st_pa1 p) (st_pk p) = s (13 + st_pa1 p) (st_pk p) from if_neg hne, hk]
      unfold st_r
      by_cases c : 20 ≤ p ∧ p < 29
      · have mm := many (p - 20) (by omega)
        rw [show 20 + (p - 20) = p by omega] at mm
        rw [if_pos c, if_pos c, show 112 * 0 + p = p by omega, r2 p (by omega)]
        have ep : (if t 235 (20 + x) = 8 then (if p = 29 + 8 * x + 7 then kd else if 29 + 8 * x ≤ p ∧ p < 29 + 8 * x + 7 then t 235 (p + 1) else t 235 p) else (if (p : Int) = 29 + 8 * (x : Int) + t 235 (20 + x) then kd else t 235 p)) = t 235 p := by
          (repeat' split) <;> first | rfl | omega
        rw [ep]
        refine st_e_congr _ (fun l hl => ?_)
        rw [r2 _ (by omega)]
        (repeat' split) <;> first | rfl | omega
      · rw [if_neg c, if_neg c, r2 _ (by omega)]
        (repeat' split) <;> first | rfl | omega
  · rw [e6] at hh
    rw [show 112 * 0 + (20 + h) = 20 + h by omega] at hl
    rw [show 112 * 0 + (29 + 8 * h + l) = 29 + 8 * h + l by omega]
    have old := fun (l' : Nat) (hl' : (l' : Int) < t 235 (20 + h)) => h2 h l' hh (by rw [show 112 * 0 + (20 + h) = 20 + h by omega]; exact hl')
    have mh := many h (by omega)
    by_cases z : h = x
    · subst z
      rw [r1] at hl
      rw [r2 _ (by omega)]
      by_cases c : t 235 (20 + h) = 8
      · rw [if_pos c] at hl ⊢
        by_cases c1 : l = 7
        · rw [if_pos (by omega)]; exact k1
        · rw [if_neg (by omega), if_pos (by omega)]
          have := old (l + 1) (by omega)
          rw [show 112 * 0 + (29 + 8 * h + (l + 1)) = 29 + 8 * h + l + 1 by omega] at this
          exact this
      · rw [if_neg c] at hl ⊢
        by_cases c1 : (l : Int) = t 235 (20 + h)
        · rw [if_pos (by omega)]; exact k1
        · rw [if_neg (by omega)]
          have := old l (by omega)
          rw [show 112 * 0 + (29 + 8 * h + l) = 29 + 8 * h + l by omega] at this
          exact this
    · have em : dc_R_lays t 0 (x : Int) kd 235 (20 + h) = t 235 (20 + h) := by
        rw [r2 _ (by omega)]
        (repeat' split) <;> first | rfl | omega
      rw [em] at hl
      have := old l hl
      rw [show 112 * 0 + (29 + 8 * h + l) = 29 + 8 * h + l by omega] at this
      rw [r2 _ (by omega)]
      (repeat' split) <;> first | exact this | omega
  · rw [e6] at hh
    have : sg_up s 14 x (dc_Soot_laid s0 (s 14 x) kd) 14 h = s 14 h := sg_nk (by omega) _ _ _
    exact this.trans (h3 h hh h9)
