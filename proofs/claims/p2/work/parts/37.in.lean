theorem mj_d_126_0 : decode mj_m_126.2.1 0 = .ok (.lload_n 0, 1) := by decide +kernel
theorem mj_d_126_1 : decode mj_m_126.2.1 1 = .ok (.lload_n 2, 1) := by decide +kernel
theorem mj_d_126_2 : decode mj_m_126.2.1 2 = .ok (.lcmp, 1) := by decide +kernel
theorem mj_d_126_3 : decode mj_m_126.2.1 3 = .ok (.ifCond .lt 14, 3) := by decide +kernel
theorem mj_d_126_6 : decode mj_m_126.2.1 6 = .ok (.lload_n 0, 1) := by decide +kernel
theorem mj_d_126_7 : decode mj_m_126.2.1 7 = .ok (.lload 4, 2) := by decide +kernel
theorem mj_d_126_9 : decode mj_m_126.2.1 9 = .ok (.lcmp, 1) := by decide +kernel
theorem mj_d_126_10 : decode mj_m_126.2.1 10 = .ok (.ifCond .gt 7, 3) := by decide +kernel
theorem mj_d_126_13 : decode mj_m_126.2.1 13 = .ok (.iconst 1, 1) := by decide +kernel
theorem mj_d_126_14 : decode mj_m_126.2.1 14 = .ok (.goto 4, 3) := by decide +kernel
theorem mj_d_126_17 : decode mj_m_126.2.1 17 = .ok (.iconst 0, 1) := by decide +kernel
theorem mj_d_126_18 : decode mj_m_126.2.1 18 = .ok (.ireturn, 1) := by decide +kernel
theorem mj_d_141_0 : decode mj_m_141.2.1 0 = .ok (.iload_n 1, 1) := by decide +kernel
theorem mj_d_141_1 : decode mj_m_141.2.1 1 = .ok (.i2l, 1) := by decide +kernel
theorem mj_d_141_2 : decode mj_m_141.2.1 2 = .ok (.lconst 0, 1) := by decide +kernel
theorem mj_d_141_3 : decode mj_m_141.2.1 3 = .ok (.aload_n 0, 1) := by decide +kernel
theorem mj_d_141_4 : decode mj_m_141.2.1 4 = .ok (.getfield 76, 3) := by decide +kernel
theorem mj_d_141_7 : decode mj_m_141.2.1 7 = .ok (.iconst 1, 1) := by decide +kernel
theorem mj_d_141_8 : decode mj_m_141.2.1 8 = .ok (.isub, 1) := by decide +kernel
theorem mj_d_141_9 : decode mj_m_141.2.1 9 = .ok (.i2l, 1) := by decide +kernel
theorem mj_d_141_10 : decode mj_m_141.2.1 10 = .ok (.invokestatic 79, 3) := by decide +kernel
theorem mj_d_141_13 : decode mj_m_141.2.1 13 = .ok (.ireturn, 1) := by decide +kernel
theorem mj_d_146_0 : decode mj_m_146.2.1 0 = .ok (.iload_n 1, 1) := by decide +kernel
theorem mj_d_146_1 : decode mj_m_146.2.1 1 = .ok (.i2l, 1) := by decide +kernel
theorem mj_d_146_2 : decode mj_m_146.2.1 2 = .ok (.lconst 0, 1) := by decide +kernel
theorem mj_d_146_3 : decode mj_m_146.2.1 3 = .ok (.aload_n 0, 1) := by decide +kernel
theorem mj_d_146_4 : decode mj_m_146.2.1 4 = .ok (.getfield 83, 3) := by decide +kernel
theorem mj_d_146_7 : decode mj_m_146.2.1 7 = .ok (.iconst 1, 1) := by decide +kernel
theorem mj_d_146_8 : decode mj_m_146.2.1 8 = .ok (.isub, 1) := by decide +kernel
theorem mj_d_146_9 : decode mj_m_146.2.1 9 = .ok (.i2l, 1) := by decide +kernel
theorem mj_d_146_10 : decode mj_m_146.2.1 10 = .ok (.invokestatic 79, 3) := by decide +kernel
theorem mj_d_146_13 : decode mj_m_146.2.1 13 = .ok (.ireturn, 1) := by decide +kernel
set_option maxRecDepth 100000 in
theorem sy_in {h : mj_H} (hH : sy_H h) {a b c : Int} (ra : -2147483648 ≤ a ∧ a ≤ 2147483647) (rb : -2147483648 ≤ b ∧ b ≤ 2147483647) (rc : -2147483648 ≤ c ∧ c ≤ 2147483647) : sy_wp (mj_m_126, 0, [(0, sy_l a), (2, sy_l b), (4, sy_l c)], [], h) (fun r h' => h = h' ∧ ((b ≤ a ∧ a ≤ c ∧ r = some (sy_i 1)) ∨ (¬ (b ≤ a ∧ a ≤ c) ∧ r = some (sy_i 0)))) := by
  refine sy_st (S' := (mj_m_126, 1, [(0, sy_l a), (2, sy_l b), (4, sy_l c)], [sy_l a], h)) mj_d_126_0 (fun _ _ => rfl) ?_
  refine sy_st (S' := (mj_m_126, 2, [(0, sy_l a), (2, sy_l b), (4, sy_l c)], [sy_l b, sy_l a], h)) mj_d_126_1 (fun _ _ => rfl) ?_
  refine sy_lc mj_d_126_2 mj_d_126_3 rfl ⟨by omega, by omega⟩ ⟨by omega, by omega⟩ (fun (c1 : a < b) => ?_) (fun (c1 : ¬ (a < b)) => ?_)
  · skip
    refine sy_st (S' := (mj_m_126, 18, [(0, sy_l a), (2, sy_l b), (4, sy_l c)], [sy_i 0], h)) mj_d_126_17 (fun _ _ => rfl) ?_
    exact sy_retb mj_d_126_18 rfl ⟨by omega, by omega⟩ ⟨rfl, by first | exact Or.inl ⟨by omega, by omega, rfl⟩ | exact Or.inr ⟨by omega, rfl⟩⟩
  · skip
    refine sy_st (S' := (mj_m_126, 7, [(0, sy_l a), (2, sy_l b), (4, sy_l c)], [sy_l a], h)) mj_d_126_6 (fun _ _ => rfl) ?_
    refine sy_st (S' := (mj_m_126, 9, [(0, sy_l a), (2, sy_l b), (4, sy_l c)], [sy_l c, sy_l a], h)) mj_d_126_7 (fun _ _ => rfl) ?_
    refine sy_lc mj_d_126_9 mj_d_126_10 rfl ⟨by omega, by omega⟩ ⟨by omega, by omega⟩ (fun (c2 : c < a) => ?_) (fun (c2 : ¬ (c < a)) => ?_)
    · skip
      refine sy_st (S' := (mj_m_126, 18, [(0, sy_l a), (2, sy_l b), (4, sy_l c)], [sy_i 0], h)) mj_d_126_17 (fun _ _ => rfl) ?_
      exact sy_retb mj_d_126_18 rfl ⟨by omega, by omega⟩ ⟨rfl, by first | exact Or.inl ⟨by omega, by omega, rfl⟩ | exact Or.inr ⟨by omega, rfl⟩⟩
    · skip
      refine sy_st (S' := (mj_m_126, 14, [(0, sy_l a), (2, sy_l b), (4, sy_l c)], [sy_i 1], h)) mj_d_126_13 (fun _ _ => rfl) ?_
      refine sy_st (S' := (mj_m_126, 18, [(0, sy_l a), (2, sy_l b), (4, sy_l c)], [sy_i 1], h)) mj_d_126_14 (fun _ _ => rfl) ?_
      exact sy_retb mj_d_126_18 rfl ⟨by omega, by omega⟩ ⟨rfl, by first | exact Or.inl ⟨by omega, by omega, rfl⟩ | exact Or.inr ⟨by omega, rfl⟩⟩
set_option maxRecDepth 100000 in
theorem sy_RisHouse {h : mj_H} (hH : sy_H h) {a : Int} (ra : -2147483648 ≤ a ∧ a ≤ 2147483647) : sy_wp (mj_m_141, 0, [(0, .ref 234), (1, sy_i a)], [], h) (fun r h' => h = h' ∧ ((0 ≤ a ∧ a ≤ sy_rd h 234 6 - 1 ∧ r = some (sy_i 1)) ∨ (¬ (0 ≤ a ∧ a ≤ sy_rd h 234 6 - 1) ∧ r = some (sy_i 0)))) := by
  refine sy_st (S' := (mj_m_141, 1, [(0, .ref 234), (1, sy_i a)], [sy_i a], h)) mj_d_141_0 (fun _ _ => rfl) ?_
  refine sy_i2l mj_d_141_1 ⟨by omega, by omega⟩ ?_
  refine sy_st (S' := (mj_m_141, 3, [(0, .ref 234), (1, sy_i a)], [sy_l 0, sy_l a], h)) mj_d_141_2 (fun _ _ => rfl) ?_
  refine sy_st (S' := (mj_m_141, 4, [(0, .ref 234), (1, sy_i a)], [.ref 234, sy_l 0, sy_l a], h)) mj_d_141_3 (fun _ _ => rfl) ?_
  refine sy_gf mj_d_141_4 rfl rfl (by decide) rfl hH ?_
  intro x1 ex1 bx1 tx1
  refine sy_st (S' := (mj_m_141, 8, [(0, .ref 234), (1, sy_i a)], [sy_i 1, sy_i x1, sy_l 0, sy_l a], h)) mj_d_141_7 (fun _ _ => rfl) ?_
  refine sy_sub mj_d_141_8 ?_
  refine sy_i2l mj_d_141_9 ⟨by omega, by omega⟩ ?_
  refine sy_cs (M' := mj_m_126) (vs := [sy_l a, sy_l 0, sy_l (x1 - 1)]) (rest := []) mj_d_141_10 rfl rfl rfl rfl ⟨Nat.le_of_ble_eq_true rfl, Nat.le_of_ble_eq_true rfl, Nat.le_of_ble_eq_true rfl, Nat.le_of_ble_eq_true rfl, Nat.le_of_ble_eq_true rfl⟩ (sy_in hH ⟨by omega, by omega⟩ ⟨by omega, by omega⟩ ⟨by omega, by omega⟩) ?_
  rintro _ _ ⟨rfl, c3⟩
  obtain ⟨r2, rfl, kr2, c3⟩ : ∃ z : Int, _ = some (sy_i z) ∧ (0 ≤ z ∧ z ≤ 1) ∧ ((z = 1 ∧ 0 ≤ a ∧ a ≤ x1 - 1) ∨ (z = 0 ∧ ¬ (0 ≤ a ∧ a ≤ x1 - 1))) := by rcases c3 with ⟨p, q, e⟩ | ⟨p, e⟩; exact ⟨1, e, by omega, Or.inl ⟨rfl, p, q⟩⟩; exact ⟨0, e, by omega, Or.inr ⟨rfl, p⟩⟩
  show sy_wp (mj_m_141, 13, [(0, .ref 234), (1, sy_i a)], [sy_i r2], h) _
  refine sy_retb mj_d_141_13 rfl ⟨by omega, by omega⟩ ⟨rfl, ?_⟩
  rcases c3 with ⟨q, p⟩ | ⟨q, p⟩
  · exact Or.inl ⟨by omega, by omega, by rw [q]⟩
  · exact Or.inr ⟨by omega, by rw [q]⟩
set_option maxRecDepth 100000 in
theorem sy_RisSweep {h : mj_H} (hH : sy_H h) {a : Int} (ra : -2147483648 ≤ a ∧ a ≤ 2147483647) : sy_wp (mj_m_146, 0, [(0, .ref 234), (1, sy_i a)], [], h) (fun r h' => h = h' ∧ ((0 ≤ a ∧ a ≤ sy_rd h 234 7 - 1 ∧ r = some (sy_i 1)) ∨ (¬ (0 ≤ a ∧ a ≤ sy_rd h 234 7 - 1) ∧ r = some (sy_i 0)))) := by
  refine sy_st (S' := (mj_m_146, 1, [(0, .ref 234), (1, sy_i a)], [sy_i a], h)) mj_d_146_0 (fun _ _ => rfl) ?_
  refine sy_i2l mj_d_146_1 ⟨by omega, by omega⟩ ?_
  refine sy_st (S' := (mj_m_146, 3, [(0, .ref 234), (1, sy_i a)], [sy_l 0, sy_l a], h)) mj_d_146_2 (fun _ _ => rfl) ?_
  refine sy_st (S' := (mj_m_146, 4, [(0, .ref 234), (1, sy_i a)], [.ref 234, sy_l 0, sy_l a], h)) mj_d_146_3 (fun _ _ => rfl) ?_
  refine sy_gf mj_d_146_4 rfl rfl (by decide) rfl hH ?_
  intro x1 ex1 bx1 tx1
  refine sy_st (S' := (mj_m_146, 8, [(0, .ref 234), (1, sy_i a)], [sy_i 1, sy_i x1, sy_l 0, sy_l a], h)) mj_d_146_7 (fun _ _ => rfl) ?_
  refine sy_sub mj_d_146_8 ?_
  refine sy_i2l mj_d_146_9 ⟨by omega, by omega⟩ ?_
  refine sy_cs (M' := mj_m_126) (vs := [sy_l a, sy_l 0, sy_l (x1 - 1)]) (rest := []) mj_d_146_10 rfl rfl rfl rfl ⟨Nat.le_of_ble_eq_true rfl, Nat.le_of_ble_eq_true rfl, Nat.le_of_ble_eq_true rfl, Nat.le_of_ble_eq_true rfl, Nat.le_of_ble_eq_true rfl⟩ (sy_in hH ⟨by omega, by omega⟩ ⟨by omega, by omega⟩ ⟨by omega, by omega⟩) ?_
  rintro _ _ ⟨rfl, c3⟩
  obtain ⟨r2, rfl, kr2, c3⟩ : ∃ z : Int, _ = some (sy_i z) ∧ (0 ≤ z ∧ z ≤ 1) ∧ ((z = 1 ∧ 0 ≤ a ∧ a ≤ x1 - 1) ∨ (z = 0 ∧ ¬ (0 ≤ a ∧ a ≤ x1 - 1))) := by rcases c3 with ⟨p, q, e⟩ | ⟨p, e⟩; exact ⟨1, e, by omega, Or.inl ⟨rfl, p, q⟩⟩; exact ⟨0, e, by omega, Or.inr ⟨rfl, p⟩⟩
  show sy_wp (mj_m_146, 13, [(0, .ref 234), (1, sy_i a)], [sy_i r2], h) _
  refine sy_retb mj_d_146_13 rfl ⟨by omega, by omega⟩ ⟨rfl, ?_⟩
  rcases c3 with ⟨q, p⟩ | ⟨q, p⟩
  · exact Or.inl ⟨by omega, by omega, by rw [q]⟩
  · exact Or.inr ⟨by omega, by rw [q]⟩
