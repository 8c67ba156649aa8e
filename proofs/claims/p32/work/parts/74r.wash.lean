/-! RAIN AND DRAWS -/
def su (t : sg_S) : Nat → Int
  | 0 => 0
  | h + 1 => su t h + t 235 (20 + h)
theorem su_up (t : sg_S) (x : Nat) (v : Int) : ∀ N : Nat, su (sg_up t 235 (20 + x) v) N = if x < N then su t N - t 235 (20 + x) + v else su t N
  | 0 => by rw [if_neg (by omega)]; rfl
  | N + 1 => by
    show su (sg_up t 235 (20 + x) v) N + sg_up t 235 (20 + x) v 235 (20 + N) = _
    rw [su_up t x v N]
    by_cases c : x = N
    · subst c
      rw [if_neg (by omega), if_pos (by omega), sg_eq]
      show _ = su t x + t 235 (20 + x) - t 235 (20 + x) + v
      omega
    · rw [sg_nk (by omega)]
      by_cases q : x < N
      · rw [if_pos q, if_pos (by omega)]
        show _ = su t N + t 235 (20 + N) - t 235 (20 + x) + v
        omega
      · rw [if_neg q, if_neg (by omega)]
        rfl
theorem su_R (t : sg_S) (m : Nat) : ∀ l1 l2 : Int, 0 ≤ l2 → l2 ≤ t 234 6 → t 234 6 - l2 < (m : Int) → dc_R_layersOfAll_4 m t l1 l2 = l1 + (su t (t 234 6).toNat - su t l2.toNat) := by
  induction m with
  | zero => intro l1 l2 h0 h1 hm; exact absurd hm (by omega)
  | succ m ih =>
    intro l1 l2 h0 h1 hm
    rw [dc_R_layersOfAll_4_s]
    by_cases c : t 234 6 ≤ l2
    · rw [if_pos c, show l2.toNat = (t 234 6).toNat by omega]; omega
    · rw [if_neg c, ih _ _ (by omega) (by omega) (by omega), show (l2 + 1).toNat = l2.toNat + 1 by omega, show (20 + l2).toNat = 20 + l2.toNat by omega]
      show l1 + t 235 (20 + l2.toNat) + (su t (t 234 6).toNat - (su t l2.toNat + t 235 (20 + l2.toNat))) = _
      omega
theorem su_all {t : sg_S} (hb : st_b t) : dc_R_layersOfAll t = su t (t 234 6).toNat := by
  have := su_R t 10 0 0 (by omega) hb.1 (by have := hb.2.1; omega)
  show dc_R_layersOfAll_4 10 t 0 0 = _
  rw [this]
  show 0 + (su t (t 234 6).toNat - 0) = _
  omega
/-- layers of a flue, on both sides -/
theorem fl_lay {s t : sg_S} (ht : sv t) (hn : st_s s t 13 0) {x : Nat} (hx : (x : Int) < t 234 6) : s 14 x = st_e (fun l => t 235 (29 + 8 * x + l)) (t 235 (20 + x)).toNat ∧ (0 ≤ t 235 (20 + x) ∧ t 235 (20 + x) ≤ 8) ∧ ∀ l, l < (t 235 (20 + x)).toNat → 1 ≤ t 235 (29 + 8 * x + l) ∧ t 235 (29 + 8 * x + l) ≤ 7 := by
  have hb := st_b_of ht
  have b9 := hb.2.1
  have hm := hb.2.2.2.2 0 x (by omega) (by omega)
  rw [show 112 * 0 + (20 + x) = 20 + x by omega] at hm
  have hk := hn.1 (20 + x) (by unfold st_v; omega)
  have pa : st_pa1 (20 + x) = 1 := by unfold st_pa1; rw [if_neg (by omega), if_neg (by omega), if_neg (by omega), if_pos (by omega)]
  have pk : st_pk (20 + x) = x := by unfold st_pk; rw [if_neg (by omega), if_neg (by omega), if_neg (by omega), if_neg (by omega), if_pos (by omega)]; omega
  rw [st_cp, pa, pk] at hk
  unfold st_r at hk
  rw [if_pos (by omega), show 112 * 0 + (20 + x) = 20 + x by omega, show 20 + x - 20 = x by omega] at hk
  refine ⟨?_, hm, fun l hl => ?_⟩
  · have e : s 14 x = st_e (fun l => t 235 (112 * 0 + (29 + 8 * x + l))) (t 235 (20 + x)).toNat := hk
    rw [e]
    exact st_e_congr _ (fun l _ => by rw [show 112 * 0 + (29 + 8 * x + l) = 29 + 8 * x + l by omega])
  · have a := hn.2.1 x l hx (by rw [show 112 * 0 + (20 + x) = 20 + x by omega]; omega)
    rw [show 112 * 0 + (29 + 8 * x + l) = 29 + 8 * x + l by omega] at a
    refine ⟨a, ?_⟩
    obtain ⟨hp, hH, rfl⟩ := ht
    have := sg_wcN 29 101 (lo := 0) (hi := 7) (by decide) (by omega) (by omega) (by omega) (sg_rngW hH (z := ((29 + 8 * x + l : Nat) : Int)) (by omega) (by omega))
    rw [show (((29 + 8 * x + l : Nat) : Int)).toNat = 29 + 8 * x + l by omega] at this
    exact this.2
theorem fl_cnt {s t : sg_S} (ht : sv t) (hn : st_s s t 13 0) (s0 : sg_S) {x : Nat} (hx : (x : Int) < t 234 6) : dc_Soot_layers s0 (s 14 x) = t 235 (20 + x) := by
  obtain ⟨e, m, f⟩ := fl_lay ht hn hx
  rw [e, so_lay s0 (by omega) f]
  omega
theorem fl_0 {s t : sg_S} (hn : st_s s t 13 0) {x : Nat} (hx : t 234 6 ≤ (x : Int)) (h9 : x < 9) : s 14 x = 0 := hn.2.2 x hx h9
theorem su_C {s t : sg_S} (ht : sv t) (hn : st_s s t 13 0) (n : Nat) : ∀ l1 l2 : Int, 0 ≤ l2 → l2 ≤ 9 → 9 - l2 < (n : Int) → dc_St_layersOfAll_4 n s l1 l2 = l1 + (su t (t 234 6).toNat - su t (min l2 (t 234 6)).toNat) := by
  have hb := st_b_of ht
  have b0 := hb.1
  have b9 := hb.2.1
  induction n with
  | zero => intro l1 l2 h0 h1 hm; exact absurd hm (by omega)
  | succ n ih =>
    intro l1 l2 h0 h1 hm
    rw [dc_St_layersOfAll_4_s]
    by_cases c : 9 ≤ l2
    · rw [if_pos c, show min l2 (t 234 6) = t 234 6 by omega]; omega
    · rw [if_neg c, ih _ _ (by omega) (by omega) (by omega)]
      by_cases q : l2 < t 234 6
      · rw [fl_cnt ht hn s (by omega), show (min (l2 + 1) (t 234 6)).toNat = l2.toNat + 1 by omega, show (min l2 (t 234 6)).toNat = l2.toNat by omega]
        show l1 + t 235 (20 + l2.toNat) + (su t (t 234 6).toNat - (su t l2.toNat + t 235 (20 + l2.toNat))) = _
        omega
      · rw [fl_0 hn (by omega) (by omega), so_lay0, show (min (l2 + 1) (t 234 6)).toNat = (min l2 (t 234 6)).toNat by omega]
        omega
theorem su_same {s t : sg_S} (ht : sv t) (hn : st_s s t 13 0) : dc_St_layersOfAll s = dc_R_layersOfAll t := by
  have hb := st_b_of ht
  have b0 := hb.1
  have := su_C ht hn 10 0 0 (by omega) (by omega) (by omega)
  rw [su_all hb]
  show dc_St_layersOfAll_4 10 s 0 0 = _
  rw [this, show (min 0 (t 234 6)).toNat = 0 by omega]
  show 0 + (su t (t 234 6).toNat - 0) = _
  omega
/-- one flue with fewer layers -/
theorem st_less {s t : sg_S} (ht : sv t) (hn : st_s s t 13 0) {x : Nat} (hx : (x : Int) < t 234 6) {v : Int} (v0 : 0 ≤ v) (hv : v ≤ t 235 (20 + x)) : st_s (sg_up s 14 x (st_e (fun l => t 235 (29 + 8 * x + l)) v.toNat)) (sg_up t 235 (20 + x) v) 13 0 := by
  have hb := st_b_of ht
  have b9 := hb.2.1
  obtain ⟨h1, h2, h3⟩ := hn
  have e6 : (sg_up t 235 (20 + x) v) 234 6 = t 234 6 := sg_na (by decide) _ _ _
  have e7 : (sg_up t 235 (20 + x) v) 234 7 = t 234 7 := sg_na (by decide) _ _ _
  have hm := hb.2.2.2.2 0
  refine ⟨fun p hp => ?_, fun h l hh hl => ?_, fun h hh h9 => ?_⟩
  · rw [e6, e7] at hp
    have hv' := st_vv hb.2.1 hb.2.2.2.1 hp
    have hk := h1 p hp
    have pk : st_pk (20 + x) = x := by unfold st_pk; rw [if_neg (by omega), if_neg (by omega), if_neg (by omega), if_neg (by omega), if_pos (by omega)]; omega
    have pa : st_pa1 (20 + x) = 1 := by unfold st_pa1; rw [if_neg (by omega), if_neg (by omega), if_neg (by omega), if_pos (by omega)]
    by_cases z : p = 20 + x
    · subst z
      rw [st_cp, pa, pk, sg_eq]
      unfold st_r
      rw [if_pos (by omega), show 112 * 0 + (20 + x) = 20 + x by omega, sg_eq, show 20 + x - 20 = x by omega]
      have mx := hm x (by omega) (by omega)
      rw [show 112 * 0 + (20 + x) = 20 + x by omega] at mx
      exact st_e_congr _ (fun l hl => by rw [sg_nk (by omega), show 112 * 0 + (29 + 8 * x + l) = 29 + 8 * x + l by omega])
    · rw [st_cp] at hk ⊢
      have hne : ¬ (13 + st_pa1 p = 14 ∧ st_pk p = x) := fun q => z (st_inj (p := 20 + x) (by omega) hv' (by rw [pa]; omega) (by rw [pk]; exact q.2))
      rw [show sg_up s 14 x (st_e (fun l => t 235 (29 + 8 * x + l)) v.toNat) (13 + st_pa1 p) (st_pk p) = s (13 + st_pa1 p) (st_pk p) from if_neg hne, hk]
      unfold st_r
      by_cases c : 20 ≤ p ∧ p < 29
      · rw [if_pos c, if_pos c, sg_nk (by omega)]
        have mm := hm (p - 20) (by omega) (by omega)
        rw [show 20 + (p - 20) = p by omega] at mm
        exact st_e_congr _ (fun l hl => (sg_nk (by omega) _ _ _).symm)
      · rw [if_neg c, if_neg c, sg_nk (by omega)]
  · rw [e6] at hh
    have mh := hm h (by omega) (by omega)
    by_cases z : h = x
    · subst z
      rw [show 112 * 0 + (20 + h) = 20 + h by omega, sg_eq] at hl
      have mx := hm h (by omega) (by omega)
      rw [show 112 * 0 + (20 + h) = 20 + h by omega] at mx
      rw [sg_nk (by omega)]
      exact h2 h l hh (by rw [show 112 * 0 + (20 + h) = 20 + h by omega]; omega)
    · rw [sg_nk (by omega)] at hl
      rw [sg_nk (by omega)]
      exact h2 h l hh hl
  · rw [e6] at hh
    have : sg_up s 14 x (st_e (fun l => t 235 (29 + 8 * x + l)) v.toNat) 14 h = s 14 h := sg_nk (by omega) _ _ _
    exact this.trans (h3 h hh h9)
theorem sv_many {t : sg_S} (ht : sv t) {x : Nat} (hx : x ≤ 8) {v : Int} (v0 : 0 ≤ v) (v8 : v ≤ 8) : sv (sg_up t 235 (20 + x) v) := by
  have hz := sg_mz (z := ((20 + x : Nat) : Int)) (by omega)
  obtain ⟨p, q⟩ := sg_reg_ok (m1 := 20) (m2 := 29) (lo := 0) (hi := 8) (by decide) (m := (20 + x) % 112) (Nat.mod_lt _ (by decide)) (by omega) (by omega)
  exact sv_up ht sg_Wc (by omega) (sg_wel _) (by rw [p]; exact v0) (by rw [q]; exact v8) ⟨by omega, by omega⟩
theorem wa_rest {s t : sg_S} (hn : st_s s t 13 0) (r0 : 0 ≤ t 234 5) (r4 : t 234 5 ≤ 4) (n : Nat) : ∀ (bf h : Int), 0 ≤ h → h ≤ 9 → t 234 6 ≤ h → 9 - h < (n : Int) → (dc_St_washOff_7 n s (t 234 5) bf h).1 = s ∧ (dc_St_washOff_7 n s (t 234 5) bf h).2 = bf - dc_St_layersOfAll s ∧ True := by
  induction n with
  | zero => intro bf h h0 h9 hH hn'; exact absurd hn' (by omega)
  | succ n ih =>
    intro bf h h0 h9 hH hN
    rw [dc_St_washOff_7_s]
    by_cases c : 9 ≤ h
    · rw [if_pos c]; exact ⟨rfl, rfl, trivial⟩
    · rw [if_neg c]
      have z := fl_0 hn (x := h.toNat) (by omega) (by omega)
      have w : dc_Soot_washed s (s 14 h.toNat) (t 234 5) = s 14 h.toNat := by
        rw [z]
        have := so_wash s (f := fun _ => 0) (m := 0) (by omega) (fun l hl => absurd hl (by omega)) r0 r4
        rw [show 0 - (t 234 5).toNat = 0 by omega] at this
        exact this
      rw [w, sg_upid]
      exact ih bf (h + 1) (by omega) (by omega) (by omega) (by omega)
theorem wa_sim (n : Nat) : ∀ (m : Nat) (s t : sg_S) (bf g h : Int), sv t → st_s s t 13 0 → 0 ≤ t 234 5 → t 234 5 ≤ 4 → 0 ≤ h → h ≤ 9 → h ≤ max h (t 234 6) → 9 - h < (n : Int) → 9 - h < (m : Int) → h ≤ t 234 6 → sv (dc_R_washes_4 m t g h).1 ∧ st_s (dc_St_washOff_7 n s (t 234 5) bf h).1 (dc_R_washes_4 m t g h).1 13 0 ∧ (∀ a k, a ≠ 14 → (dc_St_washOff_7 n s (t 234 5) bf h).1 a k = s a k) ∧ (∀ a k, a ≠ 235 → (dc_R_washes_4 m t g h).1 a k = t a k) ∧ (∀ k, (k < 20 ∨ 29 ≤ k) → (dc_R_washes_4 m t g h).1 235 k = t 235 k) ∧ (dc_R_washes_4 m t g h).2 = g + (su t (t 234 6).toNat - su (dc_R_washes_4 m t g h).1 (t 234 6).toNat) ∧ (dc_St_washOff_7 n s (t 234 5) bf h).2 = bf - su (dc_R_washes_4 m t g h).1 (t 234 6).toNat := by
  induction n with
  | zero => intro m s t bf g h _ _ _ _ _ _ _ hn _ _; exact absurd hn (by omega)
  | succ n ih =>
    intro m s t bf g h ht hn r0 r4 h0 h9 hmx hN hM hH
    have hb := st_b_of ht
    have b9 := hb.2.1
    cases m with
    | zero => exact absurd hM (by omega)
    | succ m =>
      rw [dc_R_washes_4_s, dc_St_washOff_7_s]
      by_cases c : t 234 6 ≤ h
      · rw [if_pos c]
        obtain ⟨w1, w2, w3⟩ := wa_rest hn r0 r4 (n + 1) bf h h0 h9 c hN
        rw [dc_St_washOff_7_s] at w1 w2
        refine ⟨ht, by rw [w1]; exact hn, fun a k _ => by rw [w1], fun _ _ _ => rfl, fun _ _ => rfl, by dsimp only; omega, ?_⟩
        rw [w2, su_same ht hn, su_all hb]
      · rw [if_neg c, if_neg (show ¬ 9 ≤ h by omega)]
        obtain ⟨e, mm, f⟩ := fl_lay ht hn (x := h.toNat) (by omega)
        rw [show (20 + h).toNat = 20 + h.toNat by omega]
        have step : ∀ v g' : Int, 0 ≤ v → v ≤ t 235 (20 + h.toNat) → v = t 235 (20 + h.toNat) - min (t 234 5) (t 235 (20 + h.toNat)) → g' = g + min (t 234 5) (t 235 (20 + h.toNat)) → sv (dc_R_washes_4 m (sg_up t 235 (20 + h.toNat) v) g' (h + 1)).1 ∧ st_s (dc_St_washOff_7 n (sg_up s 14 h.toNat (dc_Soot_washed s (s 14 h.toNat) (t 234 5))) (t 234 5) bf (h + 1)).1 (dc_R_washes_4 m (sg_up t 235 (20 + h.toNat) v) g' (h + 1)).1 13 0 ∧ (∀ a k, a ≠ 14 → (dc_St_washOff_7 n (sg_up s 14 h.toNat (dc_Soot_washed s (s 14 h.toNat) (t 234 5))) (t 234 5) bf (h + 1)).1 a k = s a k) ∧ (∀ a k, a ≠ 235 → (dc_R_washes_4 m (sg_up t 235 (20 + h.toNat) v) g' (h + 1)).1 a k = t a k) ∧ (∀ k, (k < 20 ∨ 29 ≤ k) → (dc_R_washes_4 m (sg_up t 235 (20 + h.toNat) v) g' (h + 1)).1 235 k = t 235 k) ∧ (dc_R_washes_4 m (sg_up t 235 (20 + h.toNat) v) g' (h + 1)).2 = g + (su t (t 234 6).toNat - su (dc_R_washes_4 m (sg_up t 235 (20 + h.toNat) v) g' (h + 1)).1 (t 234 6).toNat) ∧ (dc_St_washOff_7 n (sg_up s 14 h.toNat (dc_Soot_washed s (s 14 h.toNat) (t 234 5))) (t 234 5) bf (h + 1)).2 = bf - su (dc_R_washes_4 m (sg_up t 235 (20 + h.toNat) v) g' (h + 1)).1 (t 234 6).toNat := by
          intro v g' v0 vm ve ge
          have ew : dc_Soot_washed s (s 14 h.toNat) (t 234 5) = st_e (fun l => t 235 (29 + 8 * h.toNat + l)) v.toNat := by
            rw [e, so_wash s (by omega) f r0 r4, show (t 235 (20 + h.toNat)).toNat - (t 234 5).toNat = v.toNat by omega]
          rw [ew]
          have hl := st_less ht hn (x := h.toNat) (by omega) v0 vm
          have s5 : (sg_up t 235 (20 + h.toNat) v) 234 5 = t 234 5 := sg_na (by decide) _ _ _
          have s6 : (sg_up t 235 (20 + h.toNat) v) 234 6 = t 234 6 := sg_na (by decide) _ _ _
          have k := ih m (sg_up s 14 h.toNat (st_e (fun l => t 235 (29 + 8 * h.toNat + l)) v.toNat)) (sg_up t 235 (20 + h.toNat) v) bf g' (h + 1) (sv_many ht (by omega) v0 (by omega)) hl (by rw [s5]; exact r0) (by rw [s5]; exact r4) (by omega) (by omega) (by omega) (by omega) (by omega) (by rw [s6]; omega)
          rw [s5, s6] at k
          obtain ⟨k1, k2, k3, k4, k5, k6, k7⟩ := k
          refine ⟨k1, k2, fun a q ha => by rw [k3 a q ha, sg_na ha], fun a q ha => by rw [k4 a q ha, sg_na ha], fun q hq => by rw [k5 q hq, sg_nk (by omega)], ?_, k7⟩
          rw [k6, su_up, if_pos (by omega)]
          omega
        split
        · exact step _ _ (by omega) (by omega) (by omega) (by omega)
        · exact step _ _ (by omega) (by omega) (by omega) (by omega)
theorem r2_wash {s t : sg_S} (ht : sv t) (h : r2 s t) : (dc_St_washOff s (s 8 2)).2 = (dc_R_washes t).2 ∧ r2 (dc_St_washOff s (s 8 2)).1 (dc_R_washes t).1 := by
  have hb := st_b_of ht
  have b5 := sv_bd ht (a := 234) (k := 5) rfl (by decide) rfl
  have e2 : s 8 2 = t 234 5 := h.2.2.2.2.2.2.2.1
  have k := wa_sim 10 10 s t (dc_St_layersOfAll s) 0 0 ht h.1 b5.1 b5.2 (by omega) (by omega) (by omega) (by omega) (by omega) hb.1
  have eC : dc_St_washOff s (t 234 5) = dc_St_washOff_7 10 s (t 234 5) (dc_St_layersOfAll s) 0 := rfl
  have eR : dc_R_washes t = dc_R_washes_4 10 t 0 0 := rfl
  rw [← eC, ← eR] at k
  obtain ⟨k1, k2, k3, k4, k5, k6, k7⟩ := k
  rw [e2]
  refine ⟨?_, r2_now hb (fun a q ha => k3 a q (by omega)) (fun q => k4 234 q (by decide)) (fun q => k4 236 q (by decide)) (fun q => k4 237 q (by decide)) (fun q hq => k5 q (by omega)) k2 ?_ h⟩
  · rw [k6, k7, su_same ht h.1, su_all hb]
    omega
  · rw [k3 0 9 (by decide), k5 111 (by omega)]
    exact h.2.2.2.1
theorem r2_rain {s t : sg_S} (ht : sv t) (h : r2 s t) : (dc_C_rain s).2 = (dc_R_rain t).2 ∧ r2 (dc_C_rain s).1 (dc_R_rain t).1 := by
  unfold dc_C_rain dc_R_rain
  rw [r2_told h]
  split
  · exact ⟨rfl, h⟩
  · exact r2_wash (sv_minds ht) (r2_minds ht h)
theorem r2_swept {s t : sg_S} (ht : sv t) (h : r2 s t) (a1 : Int) : (dc_C_swept s a1).2 = (dc_R_swept t a1).2 ∧ r2 (dc_C_swept s a1).1 (dc_R_swept t a1).1 := by
  have b9 := (st_b_of ht).2.1
  unfold dc_C_swept dc_R_swept
  by_cases c1 : dc_R_isHouse t a1 = 0
  · rw [if_pos ((r2_hh h a1).mpr c1), if_pos c1]
    exact ⟨rfl, h⟩
  · have k1 : 0 ≤ a1 ∧ a1 < t 234 6 := Decidable.not_not.mp (fun z => c1 ((r1_hR t a1).mpr z))
    rw [if_neg (fun z => c1 ((r2_hh h a1).mp z)), if_neg c1]
    have hm := r2_minds ht h
    have hs := sv_minds ht
    have e6 : dc_R_minds t 234 6 = t 234 6 := dr_R_minds t 234 6 rfl
    dsimp only
    rw [show (20 + a1).toNat = 20 + a1.toNat by omega]
    have hl := fl_lay hs hm.1 (x := a1.toNat) (by rw [e6]; omega)
    have q := st_less hs hm.1 (x := a1.toNat) (by rw [e6]; omega) (v := 0) (by omega) hl.2.1.1
    refine ⟨fl_cnt hs hm.1 _ (by rw [e6]; omega), r2_now (st_b_of hs) (fun a k ha => sg_na (by omega) _ _ _) (fun k => sg_na (by decide) _ _ _) (fun k => sg_na (by decide) _ _ _) (fun k => sg_na (by decide) _ _ _) (fun k hk => sg_nk (by omega) _ _ _) q ?_ hm⟩
    rw [sg_na (by decide), sg_nk (by omega)]
    exact hm.2.2.2.1
/-! draws -/
theorem dr_and (x : Int) : sy_and x 2147483647 = x % 2147483648 := by
  show ((BitVec.ofInt 32 x) &&& (BitVec.ofInt 32 2147483647)).toInt = _
  have e1 : (BitVec.ofInt 32 x).toNat = (x % 4294967296).toNat := by rw [BitVec.toNat_ofInt]; rfl
  have e2 : (BitVec.ofInt 32 2147483647).toNat = 2 ^ 31 - 1 := by decide
  have e3 : ((BitVec.ofInt 32 x) &&& (BitVec.ofInt 32 2147483647)).toNat = (x % 4294967296).toNat % 2 ^ 31 := by
    rw [BitVec.toNat_and, e1, e2, Nat.and_two_pow_sub_one_eq_mod]
  rw [BitVec.toInt_eq_toNat_of_lt (by rw [e3]; omega), e3]
  omega
theorem r2_draw {s t : sg_S} (ht : sv t) (h : r2 s t) {n : Int} (hn : 1 ≤ n) : (dc_C_draw s n).2 = (dc_R_draw t n).2 ∧ r2 (dc_C_draw s n).1 (dc_R_draw t n).1 := by
  have hb := st_b_of ht
  unfold dc_C_draw dc_R_draw
  rw [if_pos hn, dr_and, h.2.2.2.1]
  dsimp only
  refine ⟨rfl, r2_dice hb (fun a k ha => sg_na (by omega) _ _ _) (fun k => sg_na (by decide) _ _ _) (fun k => sg_na (by decide) _ _ _) (fun k => sg_na (by decide) _ _ _) (fun k hk => sg_nk hk _ _ _) ?_ h⟩
  rw [sg_eq, sg_eq]
theorem r2_months {s t : sg_S} (h : r2 s t) : s 13 5 = t 235 0 := st_at h.1 (p := 0) (by unfold st_v; omega) (by omega)
theorem mo_ref {s t : sg_S} (h : r2 s t) (a : Int) : (1 ≤ a ∧ a ≤ 30 ∧ ¬ t 234 3 = 0 ∧ t 235 0 ≤ 9000 ∧ dc_C_refusalOfMonths s a = 0) ∨ (¬ dc_C_refusalOfMonths s a = 0 ∧ ∀ X : sg_S × Int, (if (dc_R_in t a 1 30) = 0 then (t, (-1000000002)) else (if (t 234 3) = 0 then (t, (-1000000003)) else (if (t 235 0) ≤ 9000 then X else (t, (-1000000004))))) = (t, dc_C_refusalOfMonths s a)) := by
  unfold dc_C_refusalOfMonths
  rw [r2_told h, r2_months h]
  by_cases c1 : 1 ≤ a ∧ a ≤ 30
  · rw [if_neg (by omega), if_pos c1.2]
    by_cases c2 : t 234 3 = 0
    · right
      rw [if_pos c2]
      exact ⟨by decide, fun X => by rw [if_neg (eq_in1 c1), if_pos c2]⟩
    · rw [if_neg c2]
      by_cases c3 : t 235 0 ≤ 9000
      · left
        rw [if_pos c3]
        exact ⟨c1.1, c1.2, c2, c3, rfl⟩
      · right
        rw [if_neg c3]
        exact ⟨by decide, fun X => by rw [if_neg (eq_in1 c1), if_neg c2, if_neg c3]⟩
  · right
    by_cases c2 : a < 1
    · rw [if_pos c2]
      exact ⟨by decide, fun X => by rw [if_pos (eq_in0 c1)]⟩
    · rw [if_neg c2, if_neg (by omega)]
      exact ⟨by decide, fun X => by rw [if_pos (eq_in0 c1)]⟩
theorem mo_loop (n : Nat) : ∀ (s t : sg_S) (a k : Int), sv t → gv_R t → r2 s t → (dc_C_month_14 n s a k).2 = (dc_R_month_42 n t a k).2 ∧ r2 (dc_C_month_14 n s a k).1 (dc_R_month_42 n t a k).1 := by
  induction n with
  | zero => intro s t a k _ _ h; exact ⟨rfl, h⟩
  | succ n ih =>
    intro s t a k ht hg h
    rw [dc_C_month_14_s, dc_R_month_42_s]
    split
    · exact ⟨su_same ht h.1, h⟩
    · have hm := r2_minds ht h
      have hs := sv_minds ht
      have hv := gv_minds ht hg
      exact ih _ _ _ _ (sv_passes hs (gv_of hv)) (gv_RK hv (gv_K_passes hs)) (r2_pass hs (gv_of hv) hm)
theorem r2_month {s t : sg_S} (ht : sv t) (hg : gv_R t) (h : r2 s t) (a : Int) : (dc_C_month s a).2 = (dc_R_month t a).2 ∧ r2 (dc_C_month s a).1 (dc_R_month t a).1 := by
  unfold dc_C_month dc_R_month
  rcases mo_ref h a with ⟨c1, c2, c3, c4, c5⟩ | ⟨c1, c2⟩
  · rw [if_pos c5, if_neg (eq_in1 ⟨c1, c2⟩), if_neg c3, if_pos c4]
    exact mo_loop 31 s t a 0 ht hg h
  · rw [if_neg c1, c2]
    exact ⟨rfl, h⟩
