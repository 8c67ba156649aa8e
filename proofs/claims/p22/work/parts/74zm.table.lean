/-! THE CLASS'S TABLE, row by row -/
def tr_sp (s : sg_S) (W : Nat) (sw : Nat → Int) : Prop := ∀ d, tr_v sw d → s 232 ((tr_e sw d W).toNat) = tr_s d W
theorem tr_Kf {s s' : sg_S} {W M : Nat} {sw pr : Nat → Int} {G : Nat → Nat → Bool} (e : ∀ c k, c ≠ 233 → s' c k = s c k) (h : tr_K s W M sw pr G) : tr_K s' W M sw pr G := by
  unfold tr_K at *
  rw [e 8 4 (by decide), e 227 6 (by decide), e 227 7 (by decide)]
  refine ⟨h.1, h.2.1, h.2.2.1, fun z hz => ?_, fun i z hi hz => ?_⟩
  · rw [e 230 z (by decide), e 231 z (by decide), e 12 z (by decide)]
    exact h.2.2.2.1 z hz
  · rw [e 229 i (by decide)]
    exact h.2.2.2.2 i z hi hz
theorem tr_cc {W M : Nat} {sw pr : Nat → Int} {G : Nat → Nat → Bool} (W5 : W ≤ 5) (hC : tr_C W M sw pr G) {i : Nat} (hi : i < M) (n : Nat) : ∀ (s : sg_S) (u : Nat), tr_K s W M sw pr G → tr_row s W M sw pr G (i + 1) → tr_sp s W sw → (u : Int) ≤ tr_T sw W → tr_T sw W - (u : Int) < (n : Int) → (∀ d, tr_v sw d → tr_s d W ≤ (i : Int) → tr_e sw d W < (u : Int) → s 233 (((i : Int) * tr_T sw W + tr_e sw d W).toNat) = tr_W W M sw pr G i d) → (∀ c k, c ≠ 233 → dc_Ba_countCosts_2 n s (i : Int) (u : Int) c k = s c k) ∧ (∀ k : Nat, (i : Int) * tr_T sw W + tr_T sw W ≤ (k : Int) → dc_Ba_countCosts_2 n s (i : Int) (u : Int) 233 k = s 233 k) ∧ tr_row (dc_Ba_countCosts_2 n s (i : Int) (u : Int)) W M sw pr G i := by
  have t1 := tr_T1 hC.2.1 W
  have iT0 : 0 ≤ (i : Int) * tr_T sw W := Int.mul_nonneg (by omega) (by omega)
  have iT1 : ((i + 1 : Nat) : Int) * tr_T sw W = (i : Int) * tr_T sw W + tr_T sw W := by
    rw [show ((i + 1 : Nat) : Int) = (i : Int) + 1 by omega, Int.add_mul, Int.one_mul]
  have m9 := hC.1
  induction n with
  | zero => intro s u _ _ _ h hn; exact absurd hn (by omega)
  | succ n ih =>
    intro s u hK hr hsp hu hn hv
    rw [dc_Ba_countCosts_2_s, hK.2.2.1]
    by_cases c : tr_T sw W ≤ (u : Int)
    · rw [if_pos c]
      refine ⟨fun _ _ _ => rfl, fun _ _ => rfl, fun d hd hs => hv d hd hs ?_⟩
      have := (tr_e1 hC.2.1 hd W).2
      omega
    · rw [if_neg c, Int.toNat_natCast, show ((u : Int) + 1) = ((u + 1 : Nat) : Int) by omega]
      by_cases q : (i : Int) < s 232 u
      · rw [if_pos q]
        refine ih s (u + 1) hK hr hsp (by omega) (by omega) (fun d hd hs he => ?_)
        by_cases e : tr_e sw d W = (u : Int)
        · have w := hsp d hd
          rw [e, Int.toNat_natCast] at w
          omega
        · exact hv d hd hs (by omega)
      · rw [if_neg q]
        generalize hval : sy_w (dc_Ba_costBy s (dc_Ba_cheapestGiver s (i : Int) (u : Int)) (i : Int) (u : Int)) = val
        have fr : ∀ c k, c ≠ 233 → sg_up s 233 (((i : Int) * tr_T sw W + (u : Int)).toNat) val c k = s c k := fun c k hc => sg_na hc _ _ _
        have fr2 : ∀ k : Nat, (i : Int) * tr_T sw W + tr_T sw W ≤ (k : Int) → sg_up s 233 (((i : Int) * tr_T sw W + (u : Int)).toNat) val 233 k = s 233 k := fun k hk => sg_nk (by omega) _ _ _
        obtain ⟨w1, w2, w3⟩ := ih (sg_up s 233 (((i : Int) * tr_T sw W + (u : Int)).toNat) val) (u + 1) (tr_Kf fr hK) (fun d hd hs => by
          have e1 := tr_e1 hC.2.1 hd W
          rw [iT1, fr2 _ (by omega), ← iT1]
          exact hr d hd hs) (fun d hd => by rw [fr 232 _ (by decide)]; exact hsp d hd) (by omega) (by omega) (fun d hd hs he => by
          have e1 := tr_e1 hC.2.1 hd W
          by_cases e : tr_e sw d W = (u : Int)
          · obtain ⟨z, z1, z2, z3, z4⟩ := tr_chg W5 hC hK hi hr hd hs
            have z5 := tr_cost hC hK hi hr hd hs z1
            rw [← e, sg_eq, ← hval, ← e, z2, z5, z4]
            have wb := tr_Wb hC (i := i) (by omega) d
            exact sy_w_id ⟨by omega, by omega⟩
          · rw [sg_nk (by omega)]
            exact hv d hd hs (by omega))
        exact ⟨fun c k hc => (w1 c k hc).trans (fr c k hc), fun k hk => (w2 k hk).trans (fr2 k hk), w3⟩
theorem tr_125 {W M : Nat} {sw pr : Nat → Int} {G : Nat → Nat → Bool} (W5 : W ≤ 5) (hC : tr_C W M sw pr G) (hT : tr_T sw W ≤ 625) (n : Nat) : ∀ (s : sg_S) (i : Nat), tr_K s W M sw pr G → tr_sp s W sw → (∀ j, i ≤ j → j ≤ M → tr_row s W M sw pr G j) → i ≤ M → i < n → ∃ s', dc_Ba_settle_125 n s ((i : Int) - 1) = (s', 1) ∧ (∀ c k, c ≠ 233 → s' c k = s c k) ∧ tr_K s' W M sw pr G ∧ (∀ j, j ≤ M → tr_row s' W M sw pr G j) := by
  have t1 := tr_T1 hC.2.1 W
  induction n with
  | zero => intro s i _ _ _ _ hn; exact absurd hn (by omega)
  | succ n ih =>
    intro s i hK hsp hr hi hn
    rw [dc_Ba_settle_125_s]
    cases i with
    | zero =>
      rw [if_pos (by omega)]
      exact ⟨s, rfl, fun _ _ _ => rfl, hK, fun j hj => hr j (by omega) hj⟩
    | succ i =>
      rw [if_neg (by omega), show (((i + 1 : Nat) : Int) - 1) = (i : Int) by omega, show ((i : Int) + (-1)) = (i : Int) - 1 by omega]
      obtain ⟨w1, w2, w3⟩ := tr_cc W5 hC (i := i) (by omega) 626 s 0 hK (hr (i + 1) (Nat.le_refl _) hi) hsp (by omega) (by omega) (fun d hd _ he => absurd he (by have := (tr_e1 hC.2.1 hd W).1; omega))
      have ec : dc_Ba_countCosts s (i : Int) = dc_Ba_countCosts_2 626 s (i : Int) ((0 : Nat) : Int) := rfl
      rw [ec]
      obtain ⟨s', r1, r2, r3, r4⟩ := ih (dc_Ba_countCosts_2 626 s (i : Int) ((0 : Nat) : Int)) i (tr_Kf w1 hK) (fun d hd => by rw [w1 232 _ (by decide)]; exact hsp d hd) (fun j hj hjM => by
        by_cases q : j = i
        · rw [q]; exact w3
        · intro d hd hs
          have e1 := tr_e1 hC.2.1 hd W
          have g : ((i : Int) + 1) * tr_T sw W ≤ (j : Int) * tr_T sw W := Int.mul_le_mul_of_nonneg_right (by omega) (by omega)
          rw [Int.add_mul, Int.one_mul] at g
          rw [w2 _ (by omega)]
          exact hr j (by omega) hjM d hd hs) (by omega) (by omega)
      exact ⟨s', r1, fun c k hc => (r2 c k hc).trans (w1 c k hc), r3, r4⟩
theorem tr_84 {W M : Nat} {sw pr : Nat → Int} {G : Nat → Nat → Bool} (W5 : W ≤ 5) (hC : tr_C W M sw pr G) (hT : tr_T sw W ≤ 625) (n : Nat) : ∀ (s : sg_S) (u : Nat), tr_K s W M sw pr G → tr_sp s W sw → (u : Int) ≤ tr_T sw W → tr_T sw W - (u : Int) < (n : Int) → (∀ v : Nat, v < u → s 233 (((M : Int) * tr_T sw W + (v : Int)).toNat) = 0) → ∃ s', dc_Ba_settle_84 n s (u : Int) = (s', 1) ∧ (∀ c k, c ≠ 233 → s' c k = s c k) ∧ tr_K s' W M sw pr G ∧ (∀ j, j ≤ M → tr_row s' W M sw pr G j) := by
  have t1 := tr_T1 hC.2.1 W
  have m9 := hC.1
  have iT0 : 0 ≤ (M : Int) * tr_T sw W := Int.mul_nonneg (by omega) (by omega)
  induction n with
  | zero => intro s u _ _ h hn; exact absurd hn (by omega)
  | succ n ih =>
    intro s u hK hsp hu hn hz
    rw [dc_Ba_settle_84_s, hK.2.2.1, hK.2.1]
    by_cases c : tr_T sw W ≤ (u : Int)
    · rw [if_pos c]
      refine tr_125 W5 hC hT 10 s M hK hsp (fun j j1 j2 => ?_) (Nat.le_refl _) (by omega)
      have ej : j = M := by omega
      subst ej
      intro d hd _
      have e1 := tr_e1 hC.2.1 hd W
      have w := hz (tr_e sw d W).toNat (by omega)
      rw [Int.toNat_of_nonneg e1.1] at w
      rw [w]
      unfold tr_W
      rw [Nat.sub_self]
      rfl
    · rw [if_neg c, show ((u : Int) + 1) = ((u + 1 : Nat) : Int) by omega]
      have fr : ∀ c k, c ≠ 233 → sg_up s 233 (((M : Int) * tr_T sw W + (u : Int)).toNat) 0 c k = s c k := fun c k hc => sg_na hc _ _ _
      obtain ⟨s', r1, r2, r3, r4⟩ := ih (sg_up s 233 (((M : Int) * tr_T sw W + (u : Int)).toNat) 0) (u + 1) (tr_Kf fr hK) (fun d hd => by rw [fr 232 _ (by decide)]; exact hsp d hd) (by omega) (by omega) (fun v hv => by
        by_cases q : v = u
        · rw [q, sg_eq]
        · rw [sg_nk (by omega)]
          exact hz v (by omega))
      exact ⟨s', r1, fun c k hc => (r2 c k hc).trans (fr c k hc), r3, r4⟩
/-! who gives a map -/
theorem tr_gv {W M : Nat} {sw pr : Nat → Int} {G : Nat → Nat → Bool} {s : sg_S} (W5 : W ≤ 5) (hC : tr_C W M sw pr G) (hK : tr_K s W M sw pr G) (hr : ∀ j, j ≤ M → tr_row s W M sw pr G j) (Q : Nat → Nat) (x : Int) (n : Nat) : ∀ (i : Nat) (d : Nat → Int), tr_v sw d → tr_s d W ≤ (i : Int) → i ≤ M → M - i < n → (∀ j, i ≤ j → Q j = tr_Q W G (tr_mC sw pr) (tr_nC sw) (M - i) i d j) → ((∀ j, i ≤ j → j < M → s 228 j ≠ x) → dc_Ba_giverOf_5 n s x (tr_e sw d W) (i : Int) = -1) ∧ (∀ j, i ≤ j → j < M → s 228 j = x → (∀ y, y < j → s 228 y ≠ x) → dc_Ba_giverOf_5 n s x (tr_e sw d W) (i : Int) = (Q j : Int)) := by
  induction n with
  | zero => intro i d _ _ h hn; exact absurd hn (by omega)
  | succ n ih =>
    intro i d hd hs hi hn hQ
    rw [dc_Ba_giverOf_5_s, hK.2.1]
    by_cases c : (M : Int) ≤ (i : Int)
    · rw [if_pos c]
      exact ⟨fun _ => rfl, fun j j1 j2 => absurd j1 (by omega)⟩
    · rw [if_neg c, Int.toNat_natCast]
      obtain ⟨z, z1, z2, z3, z4⟩ := tr_chg W5 hC hK (i := i) (by omega) (hr (i + 1) (by omega)) hd hs
      have e1 : M - i = (M - (i + 1)) + 1 := by omega
      have qi : Q i = z := by
        rw [hQ i (Nat.le_refl _), e1, tr_Q_s, if_pos rfl, z3]
      rw [z2]
      have k := ih (i + 1) (tr_nC sw d z) (tr_nCv hd z) (by
        by_cases f : d z < sw z
        · have := (tr_nCe f W).2
          rw [if_pos z1] at this
          omega
        · rw [tr_nC0 f]; omega) (by omega) (by omega) (fun j hj => by
        rw [hQ j (by omega), e1, tr_Q_s, if_neg (by omega), ← z3])
      have en : (if dc_Ba_isFree s (z : Int) (tr_e sw d W) = 0 then dc_Ba_giverOf_5 n s x (tr_e sw d W) ((i : Int) + 1) else dc_Ba_giverOf_5 n s x (tr_e sw d W + s 231 (z : Int).toNat) ((i : Int) + 1)) = dc_Ba_giverOf_5 n s x (tr_e sw (tr_nC sw d z) W) ((i + 1 : Nat) : Int) := by
        rw [tr_free hC hK hd z1, Int.toNat_natCast, (hK.2.2.2.1 z z1).2.1, show ((i : Int) + 1) = ((i + 1 : Nat) : Int) by omega]
        by_cases f : sw z ≤ d z
        · rw [if_pos f, if_pos rfl, tr_nC0 (by omega)]
        · have := (tr_nCe (sw := sw) (d := d) (z := z) (by omega) W).1
          rw [if_pos z1] at this
          rw [if_neg f, if_neg (by decide), this]
      rw [en]
      by_cases q : s 228 i = x
      · rw [if_pos q]
        refine ⟨fun h => absurd q (h i (Nat.le_refl _) (by omega)), fun j j1 j2 j3 j4 => ?_⟩
        have : j = i := by
          by_cases w : i < j
          · exact absurd q (j4 i w)
          · omega
        rw [this, qi]
      · rw [if_neg q]
        refine ⟨fun h => k.1 (fun j j1 j2 => h j (by omega) j2), fun j j1 j2 j3 j4 => k.2 j ?_ j2 j3 j4⟩
        by_cases w : i = j
        · rw [w] at q
          exact absurd j3 q
        · omega
