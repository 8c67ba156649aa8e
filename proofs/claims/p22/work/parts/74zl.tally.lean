/-! TALLIES as figures -/
def tr_T (sw : Nat → Int) : Nat → Int
  | 0 => 1
  | w + 1 => tr_T sw w * (sw w + 1)
def tr_e (sw d : Nat → Int) : Nat → Int
  | 0 => 0
  | w + 1 => tr_e sw d w + d w * tr_T sw w
def tr_s (d : Nat → Int) : Nat → Int
  | 0 => 0
  | w + 1 => tr_s d w + d w
theorem tr_T_s (sw : Nat → Int) (w : Nat) : tr_T sw (w + 1) = tr_T sw w * (sw w + 1) := rfl
theorem tr_e_s (sw d : Nat → Int) (w : Nat) : tr_e sw d (w + 1) = tr_e sw d w + d w * tr_T sw w := rfl
theorem tr_s_s (d : Nat → Int) (w : Nat) : tr_s d (w + 1) = tr_s d w + d w := rfl
theorem tr_T1 {sw : Nat → Int} (h : ∀ z, 0 ≤ sw z) (w : Nat) : 1 ≤ tr_T sw w := by
  induction w with
  | zero => exact Int.le_refl _
  | succ w ih =>
    have g : tr_T sw w * 1 ≤ tr_T sw w * (sw w + 1) := Int.mul_le_mul_of_nonneg_left (by have := h w; omega) (by omega)
    rw [tr_T_s]
    omega
theorem tr_Ts {sw : Nat → Int} (w : Nat) : tr_T sw (w + 1) = sw w * tr_T sw w + tr_T sw w := by
  rw [tr_T_s, Int.mul_add, Int.mul_one, Int.mul_comm]
def tr_v (sw d : Nat → Int) : Prop := ∀ z, 0 ≤ d z ∧ d z ≤ sw z
theorem tr_e1 {sw d : Nat → Int} (h : ∀ z, 0 ≤ sw z) (hd : tr_v sw d) (w : Nat) : 0 ≤ tr_e sw d w ∧ tr_e sw d w < tr_T sw w := by
  induction w with
  | zero => exact ⟨Int.le_refl _, by show (0 : Int) < 1; decide⟩
  | succ w ih =>
    have t1 := tr_T1 h w
    have a1 : 0 ≤ d w * tr_T sw w := Int.mul_nonneg (hd w).1 (by omega)
    have a2 : d w * tr_T sw w ≤ sw w * tr_T sw w := Int.mul_le_mul_of_nonneg_right (hd w).2 (by omega)
    rw [tr_e_s, tr_Ts]
    omega
theorem tr_Tm (sw : Nat → Int) {z : Nat} (w : Nat) : z < w → ∃ m, tr_T sw w = tr_T sw z * (sw z + 1) * m := by
  induction w with
  | zero => intro h; exact absurd h (by omega)
  | succ w ih =>
    intro h
    by_cases q : z = w
    · exact ⟨1, by rw [q, tr_T_s, Int.mul_one]⟩
    · obtain ⟨m, hm⟩ := ih (by omega)
      exact ⟨m * (sw w + 1), by rw [tr_T_s, hm, Int.mul_assoc]⟩
theorem tr_e2 (sw d : Nat → Int) {z : Nat} (w : Nat) : z < w → ∃ R, tr_e sw d w = tr_e sw d z + tr_T sw z * (d z + (sw z + 1) * R) := by
  induction w with
  | zero => intro h; exact absurd h (by omega)
  | succ w ih =>
    intro h
    by_cases q : z = w
    · exact ⟨0, by rw [q, tr_e_s, Int.mul_zero, Int.add_zero, Int.mul_comm]⟩
    · obtain ⟨R, hR⟩ := ih (by omega)
      obtain ⟨m, hm⟩ := tr_Tm sw (z := z) w (by omega)
      refine ⟨R + m * d w, ?_⟩
      rw [tr_e_s, hR, hm]
      generalize sw z + 1 = P
      simp only [Int.mul_add, Int.mul_assoc, Int.mul_comm (d w), Int.add_assoc]
theorem tr_dig {sw d : Nat → Int} (h : ∀ z, 0 ≤ sw z) (hd : tr_v sw d) {z w : Nat} (hz : z < w) : tr_e sw d w / tr_T sw z % (sw z + 1) = d z := by
  obtain ⟨R, hR⟩ := tr_e2 sw d w hz
  have e := tr_e1 h hd z
  have t1 := tr_T1 h z
  rw [hR, Int.add_mul_ediv_left _ _ (by omega), Int.ediv_eq_zero_of_lt e.1 e.2, Int.zero_add, Int.add_mul_emod_self_left, Int.emod_eq_of_lt (hd z).1 (by have := (hd z).2; omega)]
/-- the class's way to count -/
def tr_mC (sw pr : Nat → Int) : (Nat → Int) → Nat → Int := fun d z => if sw z ≤ d z then pr z else 0
def tr_nC (sw : Nat → Int) : (Nat → Int) → Nat → Nat → Int := fun d z y => if y = z ∧ d z < sw z then d y + 1 else d y
theorem tr_nCv {sw d : Nat → Int} (hd : tr_v sw d) (z : Nat) : tr_v sw (tr_nC sw d z) := fun y => by
  have a := hd y
  unfold tr_nC
  by_cases c : y = z ∧ d z < sw z
  · rw [if_pos c]
    have c2 := c.2
    rw [← c.1] at c2
    omega
  · rw [if_neg c]
    exact a
theorem tr_nC0 {sw d : Nat → Int} {z : Nat} (h : ¬ d z < sw z) : tr_nC sw d z = d := by
  funext y
  exact if_neg (fun c => h c.2)
theorem tr_nCe {sw d : Nat → Int} {z : Nat} (h : d z < sw z) (w : Nat) : tr_e sw (tr_nC sw d z) w = tr_e sw d w + (if z < w then tr_T sw z else 0) ∧ tr_s (tr_nC sw d z) w = tr_s d w + (if z < w then 1 else 0) := by
  induction w with
  | zero => exact ⟨by rw [if_neg (by omega)]; rfl, by rw [if_neg (by omega)]; rfl⟩
  | succ w ih =>
    rw [tr_e_s, tr_e_s, tr_s_s, tr_s_s, ih.1, ih.2]
    by_cases q : w = z
    · have e : tr_nC sw d z w = d w + 1 := if_pos ⟨q, h⟩
      rw [e, if_neg (by omega), if_pos (by omega), if_neg (by omega), if_pos (by omega), q, Int.add_mul, Int.one_mul]
      omega
    · have e : tr_nC sw d z w = d w := if_neg (fun c => q c.1)
      rw [e]
      by_cases q2 : z < w
      · rw [if_pos q2, if_pos (by omega), if_pos q2, if_pos (by omega)]
        omega
      · rw [if_neg q2, if_neg (by omega), if_neg q2, if_neg (by omega)]
        omega
/-! THE CLASS'S TABLE -/
def tr_K (s : sg_S) (W M : Nat) (sw pr : Nat → Int) (G : Nat → Nat → Bool) : Prop := s 8 4 = (W : Int) ∧ s 227 6 = (M : Int) ∧ s 227 7 = tr_T sw W ∧ (∀ z, z < W → s 230 z = sw z ∧ s 231 z = tr_T sw z ∧ s 12 z = pr z) ∧ (∀ i z, i < M → z < W → (sy_and (sy_shr (s 229 i) (z : Int)) 1 = 1 ↔ G i z = true))
def tr_C (W M : Nat) (sw pr : Nat → Int) (G : Nat → Nat → Bool) : Prop := M ≤ 9 ∧ (∀ z, 0 ≤ sw z) ∧ (∀ z, 0 ≤ pr z ∧ pr z ≤ 99) ∧ (∀ i, i < M → ∃ z, z < W ∧ G i z = true)
def tr_W (W M : Nat) (sw pr : Nat → Int) (G : Nat → Nat → Bool) (i : Nat) (d : Nat → Int) : Int := tr_V W G (tr_mC sw pr) (tr_nC sw) (M - i) i d
theorem tr_mC0 {W M : Nat} {sw pr : Nat → Int} {G : Nat → Nat → Bool} (hC : tr_C W M sw pr G) (d : Nat → Int) (z : Nat) : 0 ≤ tr_mC sw pr d z ∧ tr_mC sw pr d z ≤ 99 := by
  have := hC.2.2.1 z
  unfold tr_mC
  by_cases c : sw z ≤ d z
  · rw [if_pos c]; exact this
  · rw [if_neg c]; decide
theorem tr_Wb {W M : Nat} {sw pr : Nat → Int} {G : Nat → Nat → Bool} (hC : tr_C W M sw pr G) {i : Nat} (hi : i ≤ M) (d : Nat → Int) : 0 ≤ tr_W W M sw pr G i d ∧ tr_W W M sw pr G i d ≤ 99 * ((M - i : Nat) : Int) := ⟨tr_V0 (fun d z => (tr_mC0 hC d z).1) _ _ _, tr_Vle (M := M) (fun d z _ => (tr_mC0 hC d z).2) hC.2.2.2 _ _ _ (by omega)⟩
def tr_row (s : sg_S) (W M : Nat) (sw pr : Nat → Int) (G : Nat → Nat → Bool) (i : Nat) : Prop := ∀ d, tr_v sw d → tr_s d W ≤ (i : Int) → s 233 (((i : Int) * tr_T sw W + tr_e sw d W).toNat) = tr_W W M sw pr G i d
theorem tr_free {s : sg_S} {W M : Nat} {sw pr d : Nat → Int} {G : Nat → Nat → Bool} (hC : tr_C W M sw pr G) (hK : tr_K s W M sw pr G) (hd : tr_v sw d) {z : Nat} (hz : z < W) : dc_Ba_isFree s (z : Int) (tr_e sw d W) = if sw z ≤ d z then 0 else 1 := by
  have k := hK.2.2.2.1 z hz
  have t1 := tr_T1 hC.2.1 z
  have s0 := hC.2.1 z
  unfold dc_Ba_isFree
  rw [Int.toNat_natCast, k.1, k.2.1, if_neg (by omega), if_neg (by omega), tr_dig hC.2.1 hd hz]
theorem tr_cost {s : sg_S} {W M : Nat} {sw pr d : Nat → Int} {G : Nat → Nat → Bool} (hC : tr_C W M sw pr G) (hK : tr_K s W M sw pr G) {i : Nat} (hi : i < M) (hr : tr_row s W M sw pr G (i + 1)) (hd : tr_v sw d) (hs : tr_s d W ≤ (i : Int)) {z : Nat} (hz : z < W) : dc_Ba_costBy s (z : Int) (i : Int) (tr_e sw d W) = tr_mC sw pr d z + tr_W W M sw pr G (i + 1) (tr_nC sw d z) := by
  have k := hK.2.2.2.1 z hz
  have wb := tr_Wb hC (i := i + 1) (by omega) (tr_nC sw d z)
  have p9 := hC.2.2.1 z
  have m9 := hC.1
  unfold dc_Ba_costBy
  rw [tr_free hC hK hd hz, Int.toNat_natCast, k.2.1, k.2.2, hK.2.2.1, show ((i : Int) + 1) = ((i + 1 : Nat) : Int) by omega]
  by_cases c : sw z ≤ d z
  · have e0 : tr_nC sw d z = d := tr_nC0 (by omega)
    rw [e0] at wb
    rw [if_pos c, if_pos rfl, e0, hr d hd (by omega), show tr_mC sw pr d z = pr z from if_pos c]
    exact sy_w_id ⟨by omega, by omega⟩
  · have ne := tr_nCe (sw := sw) (d := d) (z := z) (by omega) W
    rw [if_pos hz, if_pos hz] at ne
    rw [if_neg c, if_neg (by decide), show tr_mC sw pr d z = 0 from if_neg c, Int.add_assoc, ← ne.1, hr (tr_nC sw d z) (tr_nCv hd z) (by omega), Int.zero_add]
    exact sy_w_id ⟨by omega, by omega⟩
/-- the one by whom it is cheapest -/
theorem tr_ch11 {s : sg_S} {W M : Nat} {sw pr d : Nat → Int} {G : Nat → Nat → Bool} (hC : tr_C W M sw pr G) (hK : tr_K s W M sw pr G) {i : Nat} (hi : i < M) (hr : tr_row s W M sw pr G (i + 1)) (hd : tr_v sw d) (hs : tr_s d W ≤ (i : Int)) (f : Nat → Int) (hf : f = fun z => tr_mC sw pr d z + tr_W W M sw pr G (i + 1) (tr_nC sw d z)) (n : Nat) : ∀ (z : Nat) (l4 l5 : Int), z ≤ W → W - z < n → ((tr_min f (G i) z = 1000000 ∧ l5 = 1000 ∧ l4 = 0) ∨ (tr_min f (G i) z < 1000 ∧ l5 = tr_min f (G i) z ∧ l4 = (tr_arg f (G i) z : Int))) → (tr_min f (G i) W = 1000000 ∧ dc_Ba_cheapestGiver_11 n s (i : Int) (tr_e sw d W) l4 l5 (z : Int) = 0) ∨ (tr_min f (G i) W < 1000 ∧ dc_Ba_cheapestGiver_11 n s (i : Int) (tr_e sw d W) l4 l5 (z : Int) = (tr_arg f (G i) W : Int)) := by
  have m9 := hC.1
  induction n with
  | zero => intro z l4 l5 _ hn; exact absurd hn (by omega)
  | succ n ih =>
    intro z l4 l5 hz hn hl
    rw [dc_Ba_cheapestGiver_11_s, hK.1]
    by_cases c : (W : Int) ≤ (z : Int)
    · rw [if_pos c]
      have e : z = W := by omega
      rw [e] at hl
      rcases hl with h | h
      · exact Or.inl ⟨h.1, h.2.2⟩
      · exact Or.inr ⟨h.1, h.2.2⟩
    · rw [if_neg c, Int.toNat_natCast, tr_cost hC hK hi hr hd hs (show z < W by omega), show ((z : Int) + 1) = ((z + 1 : Nat) : Int) by omega]
      have eg := hK.2.2.2.2 i z hi (by omega)
      have ef : tr_mC sw pr d z + tr_W W M sw pr G (i + 1) (tr_nC sw d z) = f z := by rw [hf]
      have wb := tr_Wb hC (i := i + 1) (by omega) (tr_nC sw d z)
      have mb := tr_mC0 hC d z
      have fb : 0 ≤ f z ∧ f z < 1000 := by rw [← ef]; omega
      rw [ef]
      by_cases q : G i z = true
      · rw [if_pos (eg.mpr q)]
        by_cases v : l5 ≤ f z
        · rw [if_pos v]
          refine ih (z + 1) _ _ (by omega) (by omega) ?_
          rcases hl with h | h
          · omega
          · have nk : ¬ (G i z = true ∧ f z < tr_min f (G i) z) := fun k => by have := k.2; omega
            rw [tr_min_s, tr_arg_s, if_neg nk, if_neg nk]
            exact Or.inr h
        · rw [if_neg v]
          refine ih (z + 1) _ _ (by omega) (by omega) ?_
          have pk : G i z = true ∧ f z < tr_min f (G i) z := ⟨q, by omega⟩
          rw [tr_min_s, tr_arg_s, if_pos pk, if_pos pk]
          exact Or.inr ⟨fb.2, rfl, rfl⟩
      · rw [if_neg (fun k => q (eg.mp k))]
        refine ih (z + 1) _ _ (by omega) (by omega) ?_
        have nk : ¬ (G i z = true ∧ f z < tr_min f (G i) z) := fun k => q k.1
        rw [tr_min_s, tr_arg_s, if_neg nk, if_neg nk]
        exact hl
theorem tr_chg {s : sg_S} {W M : Nat} {sw pr d : Nat → Int} {G : Nat → Nat → Bool} (W5 : W ≤ 5) (hC : tr_C W M sw pr G) (hK : tr_K s W M sw pr G) {i : Nat} (hi : i < M) (hr : tr_row s W M sw pr G (i + 1)) (hd : tr_v sw d) (hs : tr_s d W ≤ (i : Int)) : ∃ z, z < W ∧ dc_Ba_cheapestGiver s (i : Int) (tr_e sw d W) = (z : Int) ∧ z = tr_A W G (tr_mC sw pr) (tr_nC sw) (M - (i + 1)) i d ∧ tr_mC sw pr d z + tr_W W M sw pr G (i + 1) (tr_nC sw d z) = tr_W W M sw pr G i d := by
  have eW : tr_W W M sw pr G i d = tr_min (fun z => tr_mC sw pr d z + tr_W W M sw pr G (i + 1) (tr_nC sw d z)) (G i) W := by
    unfold tr_W
    rw [show M - i = (M - (i + 1)) + 1 by omega, tr_V_s]
  have wb := tr_Wb hC (i := i) (by omega) d
  have m9 := hC.1
  have k := tr_ch11 hC hK hi hr hd hs _ rfl 6 0 0 1000 (by omega) (by omega) (Or.inl ⟨rfl, rfl, rfl⟩)
  rw [← eW] at k
  have k' : dc_Ba_cheapestGiver s (i : Int) (tr_e sw d W) = (tr_arg (fun z => tr_mC sw pr d z + tr_W W M sw pr G (i + 1) (tr_nC sw d z)) (G i) W : Int) := by
    rcases k with h | h
    · omega
    · exact h.2
  rcases tr_min_at (fun z => tr_mC sw pr d z + tr_W W M sw pr G (i + 1) (tr_nC sw d z)) (G i) W with h | h
  · rw [← eW] at h
    omega
  · rw [← eW] at h
    exact ⟨_, h.1, k', rfl, h.2.2⟩
