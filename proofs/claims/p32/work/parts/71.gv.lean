/-! STATES THAT A HEAP HAS -/
def sv (s : sg_S) : Prop := ∃ h : mj_H, sy_H h ∧ sy_rd h = s
theorem sv_3 {S : mj_S} {t : sg_S} (k : sy_wp S (dq3 t)) : sv t := by
  obtain ⟨r, h', -, -, hH, e⟩ := k
  exact ⟨h', hH, e⟩
theorem sv_2 {S : mj_S} {lo hi : Int} {p : sg_S × Int} (k : sy_wp S (dq2 lo hi p)) : sv p.1 ∧ lo ≤ p.2 ∧ p.2 ≤ hi := by
  obtain ⟨r, h', -, hH, e, -, h1, h2⟩ := k
  exact ⟨⟨h', hH, e⟩, h1, h2⟩
theorem sv_bd {s : sg_S} {a tag len k o : Nat} {es : List ab_V} {lo hi : Int} (hs : sv s) (hc : sy_cell a = some (tag, len, es)) (hk : k < len) (he : ab_el es k = (0, lo, hi, o)) : lo ≤ s a k ∧ s a k ≤ hi := by
  obtain ⟨h, hH, rfl⟩ := hs
  exact hH.bd hc hk he
theorem sv_up {s : sg_S} {a tag len k o : Nat} {es : List ab_V} {lo hi z : Int} (hs : sv s) (hc : sy_cell a = some (tag, len, es)) (hk : k < len) (he : ab_el es k = (0, lo, hi, o)) (h1 : lo ≤ z) (h2 : z ≤ hi) (hr : -2147483648 ≤ z ∧ z ≤ 2147483647) : sv (sg_up s a k z) := by
  obtain ⟨h, hH, rfl⟩ := hs
  refine ⟨sy_wr h a k z, hH.wr hc he h1 h2 hr, sg_of fun b l => ?_⟩
  by_cases q : b = a ∧ l = k
  · rw [if_pos q, q.1, q.2]
    exact sy_rd_same hH hc hk hr
  · rw [if_neg q]
    exact sy_rd_ne (by omega)
theorem sv_pb {s : sg_S} (hs : sv s) {r : Int} (h1 : 0 ≤ r) (h2 : r ≤ 3696) (h3 : r % 112 = 0) : rb_pb s r := by
  obtain ⟨h, hH, rfl⟩ := hs
  exact rb_of hH h1 h2 h3
theorem sv_tb {s : sg_S} (hs : sv s) : rt_tb s := by
  obtain ⟨h, hH, rfl⟩ := hs
  exact rt_of hH rfl
theorem sv_minds {s : sg_S} (hs : sv s) : sv (dc_R_minds s) := by
  obtain ⟨h, hH, rfl⟩ := hs
  exact sv_3 (dt_R_minds hH)
theorem sv_passes {s : sg_S} (hs : sv s) (g : s 234 6 ≤ 0 ∨ s 235 11 = -1) : sv (dc_R_passes s 0) := by
  obtain ⟨h, hH, rfl⟩ := hs
  exact sv_3 (dt_R_passes hH (by omega) (by omega) (by omega) g)
theorem sv_draw {s : sg_S} (hs : sv s) {a : Int} (h1 : 1 ≤ a) (h2 : a ≤ 9) : sv (dc_R_draw s a).1 ∧ 0 ≤ (dc_R_draw s a).2 ∧ (dc_R_draw s a).2 ≤ a - 1 := by
  obtain ⟨h, hH, rfl⟩ := hs
  exact sv_2 (dt_R_draw hH h1 h2)
theorem sv_washes {s : sg_S} (hs : sv s) : sv (dc_R_washes s).1 := by
  obtain ⟨h, hH, rfl⟩ := hs
  exact (sv_2 (dt_R_washes hH)).1
theorem sv_burns {s : sg_S} (hs : sv s) {x v : Int} (h1 : 0 ≤ x) (h2 : x ≤ 8) (h3 : 0 ≤ v) (h4 : v ≤ 7) : sv (sg_up s 235 ((2 + x).toNat) v) := by
  have hz := sg_mz (z := 2 + x) (by omega)
  obtain ⟨p, q⟩ := sg_reg_ok (m1 := 2) (m2 := 11) (lo := 0) (hi := 7) (by decide) (m := (2 + x).toNat % 112) (Nat.mod_lt _ (by decide)) (by omega) (by omega)
  exact sv_up hs sg_Wc (by omega) (sg_wel _) (by rw [p]; exact h3) (by rw [q]; exact h4) ⟨by omega, by omega⟩
theorem sv_isSo {s : sg_S} (hs : sv s) {a1 a2 a3 : Int} (h1 : 0 ≤ a1) (h2 : a1 ≤ 8) (h3 : 1 ≤ a2) (h4 : a2 ≤ 3) (h5 : -2147483648 ≤ a3) (h6 : a3 ≤ 2147483647) (g : s 234 6 ≤ 0 ∨ s 235 11 = -1) : sv (dc_R_isSo s a1 a2 a3).1 := by
  obtain ⟨h, hH, rfl⟩ := hs
  exact (sv_2 (dt_R_isSo hH h1 h2 h3 h4 h5 h6 g)).1
theorem sv_here {s : sg_S} (hs : sv s) : sv (dc_R_here s).1 := by
  obtain ⟨h, hH, rfl⟩ := hs
  exact (sv_2 (dt_R_here hH)).1
theorem sv_clause {s : sg_S} (hs : sv s) : sv (dc_R_takesClause s).1 := by
  obtain ⟨h, hH, rfl⟩ := hs
  exact (sv_2 (dt_R_takesClause hH)).1
/-! HOUSE 0 RUNS INTO NONE, now and in what is kept -/
def gv_G (s : sg_S) (q : Nat) : Prop := s 234 6 ≤ 0 ∨ s 235 (112 * q + 11) = -1
def gv_R (s : sg_S) : Prop := gv_G s 0 ∧ (∀ j : Nat, (j : Int) < s 234 2 → gv_G s (4 + j)) ∧ (∀ i : Nat, i < 2 → s 236 i ≠ 0 → gv_G s (2 + i))
def gv_K (s t : sg_S) : Prop := t 234 6 = s 234 6 ∧ t 234 2 = s 234 2 ∧ (∀ i, t 236 i = s 236 i) ∧ (∀ q : Nat, q ≠ 1 → t 235 (112 * q + 11) = s 235 (112 * q + 11))
theorem gv_of {s : sg_S} (h : gv_R s) : s 234 6 ≤ 0 ∨ s 235 11 = -1 := h.1
theorem gv_RK {s t : sg_S} (h : gv_R s) (k : gv_K s t) : gv_R t := by
  obtain ⟨k1, k2, k3, k4⟩ := k
  refine ⟨?_, fun j hj => ?_, fun i hi hk => ?_⟩
  · unfold gv_G
    rw [k1, k4 0 (by decide)]
    exact h.1
  · unfold gv_G
    rw [k1, k4 (4 + j) (by omega)]
    exact h.2.1 j (by rw [← k2]; exact hj)
  · unfold gv_G
    rw [k1, k4 (2 + i) (by omega)]
    exact h.2.2 i hi (by rw [← k3]; exact hk)
theorem gv_K.rf (s : sg_S) : gv_K s s := ⟨rfl, rfl, fun _ => rfl, fun _ _ => rfl⟩
theorem gv_K.tr {s t u : sg_S} (h : gv_K s t) (k : gv_K t u) : gv_K s u := ⟨k.1.trans h.1, k.2.1.trans h.2.1, fun i => (k.2.2.1 i).trans (h.2.2.1 i), fun q hq => (k.2.2.2 q hq).trans (h.2.2.2 q hq)⟩
theorem gv_K_up {s : sg_S} {k : Nat} {v : Int} (h : k % 112 ≠ 11) : gv_K s (sg_up s 235 k v) := ⟨sg_na (by decide) _ _ _, sg_na (by decide) _ _ _, fun i => sg_na (by decide) _ _ _, fun q _ => sg_nk (by omega) _ _ _⟩
theorem gv_K_o {s : sg_S} {a k : Nat} {v : Int} (ha : 235 ≠ a) (hb : 236 ≠ a) (hc : a ≠ 234 ∨ (k ≠ 2 ∧ k ≠ 6)) : gv_K s (sg_up s a k v) := by
  refine ⟨?_, ?_, fun i => sg_na hb _ _ _, fun q _ => sg_na ha _ _ _⟩
  · rcases hc with h | h
    · exact sg_na (Ne.symm h) _ _ _
    · exact sg_nk (Ne.symm h.2) _ _ _
  · rcases hc with h | h
    · exact sg_na (Ne.symm h) _ _ _
    · exact sg_nk (Ne.symm h.1) _ _ _
theorem gv_K_passes {s : sg_S} (hs : sv s) : gv_K s (dc_R_passes s 0) := ⟨dr_R_passes s 0 234 6 rfl, dr_R_passes s 0 234 2 rfl, fun i => dr_R_passes s 0 236 i rfl, fun q _ => rb_passes s 0 _ (by omega) (sv_pb hs (by omega) (by omega) (by omega)) (by omega)⟩
theorem gv_K_washes {s : sg_S} (hs : sv s) : gv_K s (dc_R_washes s).1 := ⟨dr_R_washes s 234 6 rfl, dr_R_washes s 234 2 rfl, fun i => dr_R_washes s 236 i rfl, fun q _ => rb_washes (112 * q + 11) (by omega) 10 s 0 0 (by omega) (sv_pb hs (r := 0) (by omega) (by omega) (by omega)).1⟩
theorem gv_K_draw {s : sg_S} {a : Int} : gv_K s (dc_R_draw s a).1 := gv_K_up (by decide)
theorem gx_isSo42 (k : Nat) (hk : k < 112 ∨ 224 ≤ k) (n : Nat) : ∀ (s : sg_S) (l1 l3 l4 : Int), rb_pb s 112 → 0 ≤ l1 → l1 ≤ 8 → (dc_R_isSo_42 n s l1 l3 l4).1 235 k = s 235 k := by
  induction n with
  | zero => intros; rfl
  | succ n ih =>
    intro s l1 l3 l4 hb h1 h2
    rw [dc_R_isSo_42_s]
    split
    · (repeat' split) <;> exact rb_isSo109 _ _ _ _ _ _ _
    · have hb' : rb_pb (sg_up s 235 ((114 + l1).toNat) (sy_and (sy_shr l3 (3 * l4)) 7)) 112 := rb_pb_up hb (by omega) (by omega) (by omega)
      have hb2 : rb_pb (dc_R_passes (sg_up s 235 ((114 + l1).toNat) (sy_and (sy_shr l3 (3 * l4)) 7)) 112) 112 := rb_pb_pass2 112 (by omega) 10 _ 0 hb' (by omega) (by omega)
      rw [ih _ _ _ _ hb2 h1 h2, rb_passes _ 112 k (by omega) hb' (by omega), sg_nk (by omega)]
theorem gx_isSo10 (k : Nat) (hk : k < 112 ∨ 224 ≤ k) (n : Nat) : ∀ (s : sg_S) (l1 l2 l3 l4 : Int), rb_pb s 112 → 0 ≤ l1 → l1 ≤ 8 → 0 ≤ l4 → (dc_R_isSo_10 n s l1 l2 l3 l4).1 235 k = s 235 k := by
  induction n with
  | zero => intros; rfl
  | succ n ih =>
    intro s l1 l2 l3 l4 hb h1 h2 h3
    have hh := hb.1
    rw [dc_R_isSo_10_s]
    split
    · exact gx_isSo42 k hk _ _ _ _ _ hb h1 h2
    · rw [ih _ _ _ _ _ (rb_pb_up hb (by omega) (by omega) (by omega)) h1 h2 (by omega), sg_nk (by omega)]
theorem gx_isSo (s : sg_S) (a1 a2 a3 : Int) (k : Nat) (hk : k < 112 ∨ 224 ≤ k) (hb : rb_pb s 0) (h1 : 0 ≤ a1) (h2 : a1 ≤ 8) : (dc_R_isSo s a1 a2 a3).1 235 k = s 235 k := by
  unfold dc_R_isSo
  have hb' : rb_pb (dc_R_copy s 0 112) 112 := by
    refine ⟨by rw [dr_R_copy _ _ _ 234 6 rfl]; exact hb.1, fun f f1 f2 => ?_⟩
    have e1 := rb_copy_in s 0 112 (20 + f) (by omega) (by omega) (by omega) (by omega) (by omega)
    have e2 := rb_copy_in s 0 112 (11 + f) (by omega) (by omega) (by omega) (by omega) (by omega)
    rw [show (112 : Int) + 20 + f = 112 + (20 + f) by omega, show (112 : Int) + 11 + f = 112 + (11 + f) by omega, e1, e2, show (0 : Int) + (20 + f) = 0 + 20 + f by omega, show (0 : Int) + (11 + f) = 0 + 11 + f by omega]
    exact hb.2 f f1 f2
  rw [gx_isSo10 k hk _ _ _ _ _ _ hb' h1 h2 (by omega), rb_copy_out _ _ _ k (by omega) (by omega)]
theorem gv_K_isSo {s : sg_S} (hs : sv s) {a1 a2 a3 : Int} (h1 : 0 ≤ a1) (h2 : a1 ≤ 8) : gv_K s (dc_R_isSo s a1 a2 a3).1 := ⟨dr_R_isSo s _ _ _ 234 6 rfl, dr_R_isSo s _ _ _ 234 2 rfl, fun i => dr_R_isSo s _ _ _ 236 i rfl, fun q hq => gx_isSo s _ _ _ _ (by omega) (sv_pb hs (by omega) (by omega) (by omega)) h1 h2⟩
theorem gx_minds11 (n : Nat) : ∀ (s : sg_S) (l1 : Int), 0 ≤ l1 → l1 ≤ 3248 → s 234 2 = 30 → 3248 - l1 < (n : Int) → dc_R_minds_11 n s l1 234 2 = 30 ∧ ∀ j : Nat, j < 30 → dc_R_minds_11 n s l1 235 (112 * (4 + j) + 11) = if j = 29 then s 235 11 else if ((112 * j + 11 : Nat) : Int) < l1 then s 235 (112 * (4 + j) + 11) else s 235 (112 * (5 + j) + 11) := by
  induction n with
  | zero => intro s l1 h0 h1 hu hn; omega
  | succ n ih =>
    intro s l1 h0 h1 hu hn
    rw [dc_R_minds_11_s]
    split
    · refine ⟨by rw [sg_eq]; omega, fun j hj => ?_⟩
      rw [hu, sg_na (by decide)]
      by_cases q : j = 29
      · rw [if_pos q]
        subst q
        have := rb_copy_in (sg_up s 234 2 (30 - 1)) 0 (448 + (112 * (30 - 1))) 11 (by omega) (by omega) (by omega) (by omega) (by omega)
        rw [sg_na (by decide)] at this
        exact this
      · rw [if_neg q, if_pos (by omega), rb_copy_out _ _ _ _ (by omega) (by omega), sg_na (by decide)]
    · have e := ih (sg_up s 235 ((448 + l1).toNat) (s 235 (((448 + l1) + 112).toNat))) (l1 + 1) (by omega) (by omega) (by rw [sg_na (by decide)]; exact hu) (by omega)
      refine ⟨e.1, fun j hj => ?_⟩
      rw [e.2 j hj]
      by_cases q : j = 29
      · rw [if_pos q, if_pos q, sg_nk (by omega)]
      · rw [if_neg q, if_neg q]
        by_cases q1 : ((112 * j + 11 : Nat) : Int) < l1
        · rw [if_pos q1, if_pos (by omega), sg_nk (by omega)]
        · rw [if_neg q1]
          by_cases q2 : ((112 * j + 11 : Nat) : Int) = l1
          · rw [if_pos (by omega), show 112 * (4 + j) + 11 = (448 + l1).toNat by omega, sg_eq, show ((448 + l1) + 112).toNat = 112 * (5 + j) + 11 by omega]
          · rw [if_neg (by omega), sg_nk (by omega)]
theorem gv_minds {s : sg_S} (hs : sv s) (h : gv_R s) : gv_R (dc_R_minds s) := by
  have b := sv_bd hs (a := 234) (k := 2) rfl (by decide) rfl
  have e6 : dc_R_minds s 234 6 = s 234 6 := dr_R_minds s 234 6 rfl
  have e236 : ∀ i, dc_R_minds s 236 i = s 236 i := fun i => dr_R_minds s 236 i rfl
  refine ⟨?_, ?_, fun i hi hk => ?_⟩
  · unfold gv_G
    rw [e6, rb_minds s _ (by decide) b.1]
    exact h.1
  · intro j hj
    unfold gv_G
    rw [e6]
    by_cases c : s 234 2 = 30
    · have hd : dc_R_minds s = dc_R_minds_11 3249 s 0 := if_pos c
      have e := gx_minds11 3249 s 0 (by omega) (by omega) c (by omega)
      rw [hd, e.1] at hj
      rw [hd, e.2 j (by omega)]
      by_cases q : j = 29
      · rw [if_pos q]; exact h.1
      · rw [if_neg q, if_neg (by omega), show 112 * (5 + j) + 11 = 112 * (4 + (j + 1)) + 11 by omega]
        exact h.2.1 (j + 1) (by omega)
    · have hd : dc_R_minds s = sg_up (dc_R_copy s 0 (448 + (112 * (s 234 2)))) 234 2 ((s 234 2) + 1) := if_neg c
      rw [hd, sg_eq] at hj
      rw [hd, sg_na (by decide)]
      by_cases q : (j : Int) = s 234 2
      · have := rb_copy_in s 0 (448 + (112 * (s 234 2))) 11 (by omega) (by omega) (by omega) (by omega) (by omega)
        rw [show 112 * (4 + j) + 11 = (448 + (112 * (s 234 2)) + 11).toNat by omega, this]
        exact h.1
      · rw [rb_copy_out _ _ _ _ (by omega) (by omega)]
        exact h.2.1 j (by omega)
  · unfold gv_G
    rw [e6, rb_minds s _ (by omega) b.1]
    rw [e236] at hk
    exact h.2.2 i hi hk
