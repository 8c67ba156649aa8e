/-! WHAT lays LEAVES of the long row -/
theorem sg_rngW {h : mj_H} (hH : sy_H h) {z : Int} (h1 : 0 ≤ z) (h2 : z < 3808) : sg_wc z (sy_rd h 235 z.toNat) := by
  obtain ⟨p, q⟩ := hH.bd (a := 235) (k := z.toNat) sg_Wc (by omega) (sg_wel _)
  exact ⟨p, q⟩
theorem sg_wcN {z x lo hi : Int} (m1 m2 : Nat) (hr : sg_reg m1 m2 lo hi = true) (h1 : 0 ≤ z) (q1 : (m1 : Int) ≤ z % 112) (q2 : z % 112 < (m2 : Int)) (c : sg_wc z x) : lo ≤ x ∧ x ≤ hi := by
  have hz := sg_mz h1
  obtain ⟨p, q⟩ := sg_reg_ok hr (m := z.toNat % 112) (Nat.mod_lt _ (by decide)) (by omega) (by omega)
  unfold sg_wc at c
  rw [p, q] at c
  exact c
theorem dl_lays_30 (k : Nat) (n : Nat) : ∀ (s : sg_S) (l1 l2 l3 l4 l5 : Int), 0 ≤ l1 → 0 ≤ l2 → l2 ≤ 8 → l4 = l1 + 29 + 8 * l2 → 0 ≤ l5 → s 235 (((l1 + 20) + l2).toNat) = 8 → ((k : Int) < l1 + 20 ∨ l1 + 101 ≤ (k : Int)) → dc_R_lays_30 n s l1 l2 l3 l4 l5 235 k = s 235 k := by
  induction n with
  | zero => intros; rfl
  | succ n ih =>
    intro s l1 l2 l3 l4 l5 h1 h2 h3 h4 h5 h6 h7
    rw [dc_R_lays_30_s]
    split
    · rw [h6, sg_nk (by omega), sg_nk (by omega), sg_nk (by omega)]
    · rw [ih _ l1 l2 l3 l4 (l5 + 1) h1 h2 h3 h4 (by omega) (by rw [sg_nk (by omega)]; exact h6) h7, sg_nk (by omega)]
theorem dl_lays (s : sg_S) (a1 a2 a3 : Int) (k : Nat) (h1 : 0 ≤ a1) (h2 : 0 ≤ a2) (h3 : a2 ≤ 8) (h4 : 0 ≤ s 235 (((a1 + 20) + a2).toNat)) (h5 : s 235 (((a1 + 20) + a2).toNat) ≤ 8) (hk : (k : Int) < a1 + 20 ∨ a1 + 101 ≤ (k : Int)) : dc_R_lays s a1 a2 a3 235 k = s 235 k := by
  unfold dc_R_lays
  split
  · rename_i c
    exact dl_lays_30 k 8 s a1 a2 a3 _ 0 h1 h2 h3 (by omega) (by omega) c hk
  · rw [sg_nk (by omega), sg_nk (by omega)]
theorem dfh_lays {h : mj_H} (hH : sy_H h) {a1 a2 a3 : Int} (h1 : 0 ≤ a1) (h1b : a1 ≤ 112) (h1c : a1 % 112 = 0) (h2 : 0 ≤ a2) (h3 : a2 ≤ 8) (k : Nat) (hk : (k : Int) < a1 + 20 ∨ a1 + 101 ≤ (k : Int)) : dc_R_lays (sy_rd h) a1 a2 a3 235 k = sy_rd h 235 k := by
  have := sg_wcN 20 29 (lo := 0) (hi := 8) (by decide) (by omega) (by omega) (by omega) (sg_rngW hH (z := (a1 + 20) + a2) (by omega) (by omega))
  exact dl_lays _ _ _ _ k h1 h2 h3 this.1 this.2 hk
