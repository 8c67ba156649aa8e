/-! WHAT passes, minds LEAVE of the long row -/
def rb_pb (s : sg_S) (r : Int) : Prop := s 234 6 ≤ 9 ∧ ∀ f : Int, 0 ≤ f → f ≤ 8 → 0 ≤ s 235 (((r + 20) + f).toNat) ∧ s 235 (((r + 20) + f).toNat) ≤ 8 ∧ -1 ≤ s 235 (((r + 11) + f).toNat) ∧ s 235 (((r + 11) + f).toNat) ≤ 8
theorem rb_lays_30_m (n : Nat) : ∀ (s : sg_S) (l1 l2 l3 l4 l5 f : Int), 0 ≤ l1 → 0 ≤ l2 → l2 ≤ 8 → l4 = l1 + 29 + 8 * l2 → 0 ≤ l5 → s 235 (((l1 + 20) + l2).toNat) = 8 → 0 ≤ f → f ≤ 8 → dc_R_lays_30 n s l1 l2 l3 l4 l5 235 (((l1 + 20) + f).toNat) = s 235 (((l1 + 20) + f).toNat) := by
  induction n with
  | zero => intros; rfl
  | succ n ih =>
    intro s l1 l2 l3 l4 l5 f h1 h2 h3 h4 h5 h6 f1 f2
    rw [dc_R_lays_30_s]
    split
    · by_cases e : f = l2
      · subst e
        rw [sg_eq, h6]
        rfl
      · rw [h6, sg_nk (by omega), sg_nk (by omega), sg_nk (by omega)]
    · rw [ih _ l1 l2 l3 l4 (l5 + 1) f h1 h2 h3 h4 (by omega) (by rw [sg_nk (by omega)]; exact h6) f1 f2, sg_nk (by omega)]
theorem rb_lays_m (s : sg_S) (r x kd f : Int) (h1 : 0 ≤ r) (h2 : 0 ≤ x) (h3 : x ≤ 8) (h4 : 0 ≤ s 235 (((r + 20) + x).toNat)) (h5 : s 235 (((r + 20) + x).toNat) ≤ 8) (f1 : 0 ≤ f) (f2 : f ≤ 8) : dc_R_lays s r x kd 235 (((r + 20) + f).toNat) = if f = x ∧ s 235 (((r + 20) + x).toNat) ≠ 8 then s 235 (((r + 20) + x).toNat) + 1 else s 235 (((r + 20) + f).toNat) := by
  unfold dc_R_lays
  by_cases c : s 235 (((r + 20) + x).toNat) = 8
  · rw [if_pos c, if_neg (fun q => q.2 c)]
    exact rb_lays_30_m 8 s r x kd _ 0 f h1 h2 h3 (by omega) (by omega) c f1 f2
  · rw [if_neg c]
    by_cases e : f = x
    · subst e
      rw [sg_eq, if_pos ⟨rfl, c⟩]
    · rw [if_neg (fun q => e q.1), sg_nk (by omega), sg_nk (by omega)]
theorem rb_pb_lays {s : sg_S} {r x kd : Int} (h : rb_pb s r) (h1 : 0 ≤ r) (h2 : 0 ≤ x) (h3 : x ≤ 8) : rb_pb (dc_R_lays s r x kd) r := by
  refine ⟨by rw [dr_R_lays s r x kd 234 6 rfl]; exact h.1, fun f f1 f2 => ?_⟩
  have hx := h.2 x h2 h3
  have hf := h.2 f f1 f2
  rw [rb_lays_m s r x kd f h1 h2 h3 hx.1 hx.2.1 f1 f2, dl_lays s r x kd _ h1 h2 h3 hx.1 hx.2.1 (by omega)]
  refine ⟨?_, ?_, hf.2.2.1, hf.2.2.2⟩ <;> split <;> omega
theorem rb_blown (s : sg_S) (x : Int) (h : s 234 6 ≤ 9) : dc_R_blownTo s x = -1 ∨ (0 ≤ dc_R_blownTo s x ∧ dc_R_blownTo s x ≤ 8) := by
  have q1 := df_R_isHouse_0 s (x + 1)
  have q2 := df_R_isHouse_0 s (x - 1)
  unfold dc_R_blownTo
  (repeat' split) <;> omega
theorem rb_pass28 (k : Nat) (r : Int) (hr : 0 ≤ r) (hk : ((k : Int) < r + 20) ∨ r + 101 ≤ (k : Int)) {k2 : sg_S → Int → Int → sg_S} (hk2 : ∀ s l2, rb_pb s r → 0 ≤ l2 → l2 ≤ 9 → k2 s r l2 235 k = s 235 k) : ∀ (n : Nat) (s : sg_S) (l2 l3 l4 : Int), rb_pb s r → 0 ≤ l2 → l2 ≤ 8 → -1 ≤ l4 → l4 ≤ 8 → dc_R_passes_28 k2 n s r l2 l3 l4 235 k = s 235 k := by
  intro n
  induction n with
  | zero => intros; rfl
  | succ n ih =>
    intro s l2 l3 l4 hb h1 h2 h3 h4
    rw [dc_R_passes_28_s]
    split
    · split
      · exact hk2 s _ hb (by omega) (by omega)
      · rename_i c
        rcases rb_blown s l2 hb.1 with e | e
        · exact absurd e c
        · have hx := hb.2 _ e.1 e.2
          rw [hk2 _ _ (rb_pb_lays hb hr e.1 e.2) (by omega) (by omega), dl_lays s r _ l3 k hr e.1 e.2 hx.1 hx.2.1 hk]
    · have hx := hb.2 l4 (by omega) h4
      have hb' := rb_pb_lays (kd := l3) hb hr (show 0 ≤ l4 by omega) h4
      have hf := hb'.2 l4 (by omega) h4
      rw [ih _ _ _ _ hb' h1 h2 hf.2.2.1 hf.2.2.2, dl_lays s r l4 l3 k hr (by omega) h4 hx.1 hx.2.1 hk]
theorem rb_pass2 (k : Nat) (r : Int) (hr : 0 ≤ r) (hk : ((k : Int) < r + 20 ∧ (k : Int) ≠ r) ∨ r + 101 ≤ (k : Int)) : ∀ (n : Nat) (s : sg_S) (l2 : Int), rb_pb s r → 0 ≤ l2 → l2 ≤ 9 → dc_R_passes_2 n s r l2 235 k = s 235 k := by
  intro n
  induction n with
  | zero => intros; rfl
  | succ n ih =>
    intro s l2 hb h1 h2
    have hh := hb.1
    rw [dc_R_passes_2_s]
    split
    · rw [sg_nk (by omega)]
    · split
      · exact ih s _ hb (by omega) (by omega)
      · exact rb_pass28 k r hr (by omega) (fun s l2 => ih s l2) 10 s l2 _ l2 hb h1 (by omega) (by omega) (by omega)
theorem rb_passes (s : sg_S) (r : Int) (k : Nat) (hr : 0 ≤ r) (hb : rb_pb s r) (hk : ((k : Int) < r + 20 ∧ (k : Int) ≠ r) ∨ r + 101 ≤ (k : Int)) : dc_R_passes s r 235 k = s 235 k := rb_pass2 k r hr hk 10 s 0 hb (by omega) (by omega)
theorem rb_of {h : mj_H} (hH : sy_H h) {r : Int} (h1 : 0 ≤ r) (h2 : r ≤ 3696) (h3 : r % 112 = 0) : rb_pb (sy_rd h) r := by
  refine ⟨(hH.bd (a := 234) (k := 6) rfl (by decide) rfl).2, fun f f1 f2 => ?_⟩
  have a := sg_wcN 20 29 (lo := 0) (hi := 8) (by decide) (by omega) (by omega) (by omega) (sg_rngW hH (z := (r + 20) + f) (by omega) (by omega))
  have b := sg_rngW hH (z := (r + 11) + f) (by omega) (by omega)
  have hz := sg_mz (z := (r + 11) + f) (by omega)
  obtain ⟨p, q⟩ := sg_wr (((r + 11) + f).toNat % 112) (Nat.mod_lt _ (by decide)) (by omega) (by omega)
  unfold sg_wc at b
  rw [p, q] at b
  refine ⟨a.1, a.2, b.1, ?_⟩
  have := b.2
  split at this <;> omega
/-- copies of blocks -/
theorem rb_copy2 (k : Nat) (n : Nat) : ∀ (s : sg_S) (l1 l2 l3 : Int), 0 ≤ l2 → 0 ≤ l3 → ((k : Int) < l2 + l3 ∨ l2 + 112 ≤ (k : Int)) → dc_R_copy_2 n s l1 l2 l3 235 k = s 235 k := by
  induction n with
  | zero => intros; rfl
  | succ n ih =>
    intro s l1 l2 l3 h1 h2 hk
    rw [dc_R_copy_2_s]
    split
    · rfl
    · rw [ih _ _ _ _ h1 (by omega) (by omega), sg_nk (by omega)]
theorem rb_copy_out (s : sg_S) (a b : Int) (k : Nat) (h1 : 0 ≤ b) (hk : (k : Int) < b ∨ b + 112 ≤ (k : Int)) : dc_R_copy s a b 235 k = s 235 k := rb_copy2 k 113 s a b 0 h1 (by omega) (by omega)
theorem rb_copy2_in (n : Nat) : ∀ (s : sg_S) (l1 l2 l3 j : Int), 0 ≤ l1 → 0 ≤ l2 → 0 ≤ l3 → (l1 + 112 ≤ l2 ∨ l2 + 112 ≤ l1) → l3 ≤ j → j < 112 → 112 - l3 < (n : Int) → dc_R_copy_2 n s l1 l2 l3 235 ((l2 + j).toNat) = s 235 ((l1 + j).toNat) := by
  induction n with
  | zero => intro s l1 l2 l3 j h1 h2 h3 h4 h5 h6 hn; omega
  | succ n ih =>
    intro s l1 l2 l3 j h1 h2 h3 h4 h5 h6 hn
    rw [dc_R_copy_2_s, if_neg (by omega)]
    by_cases e : j = l3
    · subst e
      rw [rb_copy2 _ n _ _ _ _ h2 (by omega) (by omega), sg_eq]
    · rw [ih _ _ _ _ _ h1 h2 (by omega) h4 (by omega) h6 (by omega), sg_nk (by omega)]
theorem rb_copy_in (s : sg_S) (a b j : Int) (h1 : 0 ≤ a) (h2 : 0 ≤ b) (h4 : a + 112 ≤ b ∨ b + 112 ≤ a) (h5 : 0 ≤ j) (h6 : j < 112) : dc_R_copy s a b 235 ((b + j).toNat) = s 235 ((a + j).toNat) := rb_copy2_in 113 s a b 0 j h1 h2 (by omega) h4 h5 h6 (by omega)
/-- what minds leaves below 448 -/
theorem rb_minds11 (k : Nat) (hk : k < 448) (n : Nat) : ∀ (s : sg_S) (l1 : Int), 0 ≤ l1 → 1 ≤ s 234 2 → dc_R_minds_11 n s l1 235 k = s 235 k := by
  induction n with
  | zero => intros; rfl
  | succ n ih =>
    intro s l1 h1 h2
    rw [dc_R_minds_11_s]
    split
    · rw [sg_na (by decide), rb_copy_out _ _ _ k (by omega) (by omega), sg_na (by decide)]
    · rw [ih _ _ (by omega) (by rw [sg_na (by decide)]; exact h2), sg_nk (by omega)]
theorem rb_minds (s : sg_S) (k : Nat) (hk : k < 448) (h : 0 ≤ s 234 2) : dc_R_minds s 235 k = s 235 k := by
  unfold dc_R_minds
  split
  · exact rb_minds11 k hk _ s 0 (by omega) (by omega)
  · rw [sg_na (by decide), rb_copy_out _ _ _ k (by omega) (by omega)]
