/-! THE REFERENCE'S LONG ROW by its regions -/
def sg_reg (m1 m2 : Nat) (lo hi : Int) : Bool := (List.range 112).all (fun m => !(decide (m1 ≤ m) && decide (m < m2)) || (decide (sg_wlo m = lo) && decide (sg_whi m = hi)))
theorem sg_reg_ok {m1 m2 : Nat} {lo hi : Int} (h : sg_reg m1 m2 lo hi = true) {m : Nat} (hm : m < 112) (h1 : m1 ≤ m) (h2 : m < m2) : sg_wlo m = lo ∧ sg_whi m = hi := by
  have := List.all_eq_true.mp h m (List.mem_range.mpr hm)
  simp only [h1, h2, decide_true, Bool.and_self, Bool.not_true, Bool.false_or, Bool.and_eq_true, decide_eq_true_eq] at this
  exact this
def sg_wc (z x : Int) : Prop := sg_wlo (z.toNat % 112) ≤ x ∧ x ≤ sg_whi (z.toNat % 112)
theorem sg_w0 : ∀ m, m < 112 → sg_wlo m ≤ 0 ∧ 0 ≤ sg_whi m := by decide +kernel
theorem sg_wt : ∀ m, m < 112 → -2147483648 ≤ sg_wlo m ∧ sg_whi m ≤ 2147483647 := by decide +kernel
theorem sg_wr : ∀ m, m < 112 → 11 ≤ m → m < 20 → sg_wlo m = -1 ∧ sg_whi m = if m = 11 then 0 else (m : Int) - 12 := by decide +kernel
theorem sg_mz {z : Int} (h : 0 ≤ z) : ((z.toNat % 112 : Nat) : Int) = z % 112 := by omega
section SG3
variable {M M' : mj_M} {pc : Nat} {lv lv' : mj_L} {st vs rest : List Value} {h : mj_H} {Q Q' : Option Value → mj_H → Prop}
theorem sg_iaC {z : Int} (hd : decode M.2.1 pc = .ok (.iaload, 1)) (h1 : 0 ≤ z) (h2 : z < 3808) (hH : sy_H h) (kk : ∀ x, x = sy_rd h 235 z.toNat → sg_wc z x → sy_wp (M, pc + 1, lv, sy_i x :: st, h) Q) : sy_wp (M, pc, lv, sy_i z :: .ref 235 :: st, h) Q :=
  sy_ia hd sg_Wc (by decide) h1 h2 (sg_wel _) hH (fun x e b t => kk x e ⟨b, t⟩)
theorem sg_iaT {z : Int} (hd : decode M.2.1 pc = .ok (.iaload, 1)) (h1 : 0 ≤ z) (h2 : z < 3808) (hH : sy_H h) (kk : ∀ x, x = sy_rd h 235 z.toNat → -2147483648 ≤ x → x ≤ 2147483647 → sy_wp (M, pc + 1, lv, sy_i x :: st, h) Q) : sy_wp (M, pc, lv, sy_i z :: .ref 235 :: st, h) Q :=
  sg_iaC hd h1 h2 hH (fun x e c => by
    have := sg_wt (z.toNat % 112) (Nat.mod_lt _ (by decide))
    exact kk x e (Int.le_trans this.1 c.1) (Int.le_trans c.2 this.2))
theorem sg_iaN {z lo hi : Int} (m1 m2 : Nat) (hr : sg_reg m1 m2 lo hi = true) (hd : decode M.2.1 pc = .ok (.iaload, 1)) (h1 : 0 ≤ z) (h2 : z < 3808) (q1 : (m1 : Int) ≤ z % 112) (q2 : z % 112 < (m2 : Int)) (hH : sy_H h) (kk : ∀ x, x = sy_rd h 235 z.toNat → lo ≤ x → x ≤ hi → sy_wp (M, pc + 1, lv, sy_i x :: st, h) Q) : sy_wp (M, pc, lv, sy_i z :: .ref 235 :: st, h) Q :=
  sg_iaC hd h1 h2 hH (fun x e c => by
    have hz := sg_mz h1
    obtain ⟨p, q⟩ := sg_reg_ok hr (m := z.toNat % 112) (Nat.mod_lt _ (by decide)) (by omega) (by omega)
    unfold sg_wc at c
    rw [p, q] at c
    exact kk x e c.1 c.2)
theorem sg_iaR {z : Int} (hd : decode M.2.1 pc = .ok (.iaload, 1)) (h1 : 0 ≤ z) (h2 : z < 3808) (q1 : 11 ≤ z % 112) (q2 : z % 112 < 20) (hH : sy_H h) (kk : ∀ x, x = sy_rd h 235 z.toNat → -1 ≤ x → (z % 112 = 11 ∧ x ≤ 0) ∨ (12 ≤ z % 112 ∧ x ≤ z % 112 - 12) → sy_wp (M, pc + 1, lv, sy_i x :: st, h) Q) : sy_wp (M, pc, lv, sy_i z :: .ref 235 :: st, h) Q :=
  sg_iaC hd h1 h2 hH (fun x e c => by
    have hz := sg_mz h1
    obtain ⟨p, q⟩ := sg_wr (z.toNat % 112) (Nat.mod_lt _ (by decide)) (by omega) (by omega)
    unfold sg_wc at c
    rw [p, q] at c
    refine kk x e c.1 ?_
    have := c.2
    split at this <;> omega)
theorem sg_iasC {z v : Int} (z1 : Int) (hd : decode M.2.1 pc = .ok (.iastore, 1)) (h1 : 0 ≤ z) (h2 : z < 3808) (g1 : 0 ≤ z1) (he : z1 % 112 = z % 112) (hv : sg_wc z1 v) (hH : sy_H h) (kk : ∀ h', sy_H h' → sy_rd h' = sg_up (sy_rd h) 235 z.toNat v → sy_wp (M, pc + 1, lv, st, h') Q) : sy_wp (M, pc, lv, sy_i v :: sy_i z :: .ref 235 :: st, h) Q := by
  have hz := sg_mz h1
  have hz1 := sg_mz g1
  unfold sg_wc at hv
  rw [show z1.toNat % 112 = z.toNat % 112 by omega] at hv
  have := sg_wt (z.toNat % 112) (Nat.mod_lt _ (by decide))
  exact sg_ias hd sg_Wc (by decide) h1 h2 (sg_wel _) hH hv.1 hv.2 ⟨Int.le_trans this.1 hv.1, Int.le_trans hv.2 this.2⟩ kk
theorem sg_ias0 {z : Int} (hd : decode M.2.1 pc = .ok (.iastore, 1)) (h1 : 0 ≤ z) (h2 : z < 3808) (hH : sy_H h) (kk : ∀ h', sy_H h' → sy_rd h' = sg_up (sy_rd h) 235 z.toNat 0 → sy_wp (M, pc + 1, lv, st, h') Q) : sy_wp (M, pc, lv, sy_i 0 :: sy_i z :: .ref 235 :: st, h) Q := by
  have := sg_w0 (z.toNat % 112) (Nat.mod_lt _ (by decide))
  exact sg_ias hd sg_Wc (by decide) h1 h2 (sg_wel _) hH this.1 this.2 ⟨by omega, by omega⟩ kk
theorem sg_iasN {z v lo hi : Int} (m1 m2 : Nat) (hr : sg_reg m1 m2 lo hi = true) (hd : decode M.2.1 pc = .ok (.iastore, 1)) (h1 : 0 ≤ z) (h2 : z < 3808) (q1 : (m1 : Int) ≤ z % 112) (q2 : z % 112 < (m2 : Int)) (v1 : lo ≤ v) (v2 : v ≤ hi) (hH : sy_H h) (kk : ∀ h', sy_H h' → sy_rd h' = sg_up (sy_rd h) 235 z.toNat v → sy_wp (M, pc + 1, lv, st, h') Q) : sy_wp (M, pc, lv, sy_i v :: sy_i z :: .ref 235 :: st, h) Q := by
  have hz := sg_mz h1
  obtain ⟨p, q⟩ := sg_reg_ok hr (m := z.toNat % 112) (Nat.mod_lt _ (by decide)) (by omega) (by omega)
  have := sg_wt (z.toNat % 112) (Nat.mod_lt _ (by decide))
  exact sg_ias hd sg_Wc (by decide) h1 h2 (sg_wel _) hH (by rw [p]; exact v1) (by rw [q]; exact v2) ⟨by omega, by omega⟩ kk
theorem sg_iasR {z v : Int} (hd : decode M.2.1 pc = .ok (.iastore, 1)) (h1 : 0 ≤ z) (h2 : z < 3808) (q1 : 11 ≤ z % 112) (q2 : z % 112 < 20) (v1 : -1 ≤ v) (v2 : (z % 112 = 11 ∧ v ≤ 0) ∨ (12 ≤ z % 112 ∧ v ≤ z % 112 - 12)) (hH : sy_H h) (kk : ∀ h', sy_H h' → sy_rd h' = sg_up (sy_rd h) 235 z.toNat v → sy_wp (M, pc + 1, lv, st, h') Q) : sy_wp (M, pc, lv, sy_i v :: sy_i z :: .ref 235 :: st, h) Q := by
  have hz := sg_mz h1
  obtain ⟨p, q⟩ := sg_wr (z.toNat % 112) (Nat.mod_lt _ (by decide)) (by omega) (by omega)
  exact sg_ias hd sg_Wc (by decide) h1 h2 (sg_wel _) hH (by rw [p]; exact v1) (by rw [q]; split <;> omega) ⟨by omega, by omega⟩ kk
end SG3
theorem sg_and_r (a b : Int) (h1 : 0 ≤ b) (h2 : b ≤ 2147483647) : 0 ≤ sy_and a b ∧ sy_and a b ≤ b := (sg_and_f a b).2.2 h1 h2
theorem sg_and_rng (a b : Int) : -2147483648 ≤ sy_and a b ∧ sy_and a b ≤ 2147483647 := sy_lo
theorem sg_or_rng (a b : Int) : -2147483648 ≤ sy_or a b ∧ sy_or a b ≤ 2147483647 := sy_lo
theorem sg_shl_rng (a b : Int) : -2147483648 ≤ sy_shl a b ∧ sy_shl a b ≤ 2147483647 := sy_lo
theorem sg_shr_rng (a b : Int) : -2147483648 ≤ sy_shr a b ∧ sy_shr a b ≤ 2147483647 := sy_lo
theorem sg_or9 (a b : Int) (h1 : 0 ≤ a) (h2 : a ≤ 511) (h3 : 0 ≤ b) (h4 : b ≤ 511) : 0 ≤ sy_or a b ∧ sy_or a b ≤ 511 := sg_or_b 511 (by decide) (by decide +kernel) h1 h2 h3 h4
theorem sg_or5 (a b : Int) (h1 : 0 ≤ a) (h2 : a ≤ 31) (h3 : 0 ≤ b) (h4 : b ≤ 31) : 0 ≤ sy_or a b ∧ sy_or a b ≤ 31 := sg_or_b 31 (by decide) (by decide +kernel) h1 h2 h3 h4
theorem sg_shl9 (b : Int) (h1 : 0 ≤ b) (h2 : b < 9) : 1 ≤ sy_shl 1 b ∧ sy_shl 1 b ≤ 256 := by
  have := (sg_shl_f 1 b).2 rfl h1 (by omega)
  omega
theorem sg_shl10 (b : Int) (h1 : 0 ≤ b) (h2 : b < 10) : 1 ≤ sy_shl 1 b ∧ sy_shl 1 b ≤ 512 := by
  have := (sg_shl_f 1 b).2 rfl h1 h2
  omega
theorem sg_shl5 (b : Int) (h1 : 0 ≤ b) (h2 : b < 5) : 1 ≤ sy_shl 1 b ∧ sy_shl 1 b ≤ 16 := by
  have := (sg_shl_f 1 b).2 rfl h1 (by omega)
  omega
