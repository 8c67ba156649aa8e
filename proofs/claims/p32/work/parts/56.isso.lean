/-! WHAT isSo LEAVES of the long row -/
theorem rb_pb_pass28 (r : Int) (hr : 0 ≤ r) {k2 : sg_S → Int → Int → sg_S} (hk2 : ∀ s l2, rb_pb s r → 0 ≤ l2 → l2 ≤ 9 → rb_pb (k2 s r l2) r) : ∀ (n : Nat) (s : sg_S) (l2 l3 l4 : Int), rb_pb s r → 0 ≤ l2 → l2 ≤ 8 → -1 ≤ l4 → l4 ≤ 8 → rb_pb (dc_R_passes_28 k2 n s r l2 l3 l4) r := by
  intro n
  induction n with
  | zero => intro s l2 l3 l4 hb _ _ _ _; exact hb
  | succ n ih =>
    intro s l2 l3 l4 hb h1 h2 h3 h4
    rw [dc_R_passes_28_s]
    split
    · split
      · exact hk2 s _ hb (by omega) (by omega)
      · rename_i c
        rcases rb_blown s l2 hb.1 with e | e
        · exact absurd e c
        · exact hk2 _ _ (rb_pb_lays hb hr e.1 e.2) (by omega) (by omega)
    · have hb' := rb_pb_lays (kd := l3) hb hr (show 0 ≤ l4 by omega) h4
      have hf := hb'.2 l4 (by omega) h4
      exact ih _ _ _ _ hb' h1 h2 hf.2.2.1 hf.2.2.2
theorem rb_pb_up {s : sg_S} {r z v : Int} (hb : rb_pb s r) (hr : 0 ≤ r) (hz : 0 ≤ z) (h : z < r + 11 ∨ r + 29 ≤ z ∨ (r + 20 ≤ z ∧ 0 ≤ v ∧ v ≤ 8)) : rb_pb (sg_up s 235 z.toNat v) r := by
  refine ⟨by rw [sg_na (by decide)]; exact hb.1, fun f f1 f2 => ?_⟩
  have hf := hb.2 f f1 f2
  have e2 : sg_up s 235 z.toNat v 235 (((r + 11) + f).toNat) = s 235 (((r + 11) + f).toNat) := sg_nk (by omega) _ _ _
  rw [e2]
  by_cases e : z = (r + 20) + f
  · subst e
    rw [sg_eq]
    refine ⟨by omega, by omega, hf.2.2.1, hf.2.2.2⟩
  · rw [sg_nk (by omega)]
    exact hf
theorem rb_pb_pass2 (r : Int) (hr : 0 ≤ r) : ∀ (n : Nat) (s : sg_S) (l2 : Int), rb_pb s r → 0 ≤ l2 → l2 ≤ 9 → rb_pb (dc_R_passes_2 n s r l2) r := by
  intro n
  induction n with
  | zero => intro s l2 hb _ _; exact hb
  | succ n ih =>
    intro s l2 hb h1 h2
    have hh := hb.1
    rw [dc_R_passes_2_s]
    split
    · exact rb_pb_up hb hr (by omega) (by omega)
    · split
      · exact ih s _ hb (by omega) (by omega)
      · exact rb_pb_pass28 r hr (fun s l2 => ih s l2) 10 s l2 _ l2 hb h1 (by omega) (by omega) (by omega)
theorem rb_isSo109 (a k : Nat) (n : Nat) : ∀ (s : sg_S) (l1 l4 l5 : Int), (dc_R_isSo_109 n s l1 l4 l5).1 a k = s a k := by
  induction n with
  | zero => intros; rfl
  | succ n ih =>
    intro s l1 l4 l5
    rw [dc_R_isSo_109_s]
    (repeat' split) <;> (try rfl) <;> exact ih _ _ _ _
theorem rb_isSo42 (k : Nat) (hk : k < 112) (n : Nat) : ∀ (s : sg_S) (l1 l3 l4 : Int), rb_pb s 112 → 0 ≤ l1 → l1 ≤ 8 → (dc_R_isSo_42 n s l1 l3 l4).1 235 k = s 235 k := by
  induction n with
  | zero => intros; rfl
  | succ n ih =>
    intro s l1 l3 l4 hb h1 h2
    rw [dc_R_isSo_42_s]
    split
    · (repeat' split) <;> exact rb_isSo109 _ _ _ _ _ _ _
    · have hb' : rb_pb (sg_up s 235 ((114 + l1).toNat) (sy_and (sy_shr l3 (3 * l4)) 7)) 112 := rb_pb_up hb (by omega) (by omega) (by omega)
      have hb2 : rb_pb (dc_R_passes (sg_up s 235 ((114 + l1).toNat) (sy_and (sy_shr l3 (3 * l4)) 7)) 112) 112 := rb_pb_pass2 112 (by omega) 10 _ 0 hb' (by omega) (by omega)
      rw [ih _ _ _ _ hb2 h1 h2, rb_passes _ 112 k (by omega) hb' (by omega), sg_nk (by omega)]
theorem rb_isSo10 (k : Nat) (hk : k < 112) (n : Nat) : ∀ (s : sg_S) (l1 l2 l3 l4 : Int), rb_pb s 112 → 0 ≤ l1 → l1 ≤ 8 → 0 ≤ l4 → (dc_R_isSo_10 n s l1 l2 l3 l4).1 235 k = s 235 k := by
  induction n with
  | zero => intros; rfl
  | succ n ih =>
    intro s l1 l2 l3 l4 hb h1 h2 h3
    have hh := hb.1
    rw [dc_R_isSo_10_s]
    split
    · exact rb_isSo42 k hk _ _ _ _ _ hb h1 h2
    · rw [ih _ _ _ _ _ (rb_pb_up hb (by omega) (by omega) (by omega)) h1 h2 (by omega), sg_nk (by omega)]
theorem rb_isSo (s : sg_S) (a1 a2 a3 : Int) (k : Nat) (hk : k < 112) (hb : rb_pb s 0) (h1 : 0 ≤ a1) (h2 : a1 ≤ 8) : (dc_R_isSo s a1 a2 a3).1 235 k = s 235 k := by
  unfold dc_R_isSo
  have hb' : rb_pb (dc_R_copy s 0 112) 112 := by
    refine ⟨by rw [dr_R_copy _ _ _ 234 6 rfl]; exact hb.1, fun f f1 f2 => ?_⟩
    have e1 := rb_copy_in s 0 112 (20 + f) (by omega) (by omega) (by omega) (by omega) (by omega)
    have e2 := rb_copy_in s 0 112 (11 + f) (by omega) (by omega) (by omega) (by omega) (by omega)
    rw [show (112 : Int) + 20 + f = 112 + (20 + f) by omega, show (112 : Int) + 11 + f = 112 + (11 + f) by omega, e1, e2, show (0 : Int) + (20 + f) = 0 + 20 + f by omega, show (0 : Int) + (11 + f) = 0 + 11 + f by omega]
    exact hb.2 f f1 f2
  rw [rb_isSo10 k hk _ _ _ _ _ _ hb' h1 h2 (by omega), rb_copy_out _ _ _ k (by omega) (by omega)]
theorem gG_isSo {h h1 : mj_H} (hH : sy_H h) {a1 a2 a3 : Int} (e : sy_rd h1 = (dc_R_isSo (sy_rd h) a1 a2 a3).1) (q1 : 0 ≤ a1) (q2 : a1 ≤ 8) (hg : sy_rd h 234 6 ≤ 0 ∨ sy_rd h 235 11 = -1) : sy_rd h1 234 6 ≤ 0 ∨ sy_rd h1 235 11 = -1 := by
  rw [e, dr_R_isSo _ _ _ _ 234 6 rfl, rb_isSo _ _ _ _ 11 (by decide) (rb_of hH (by omega) (by omega) (by omega)) q1 q2]
  exact hg
