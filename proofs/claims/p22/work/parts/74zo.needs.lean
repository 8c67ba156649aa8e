/-! THE MAPS THAT ARE NEEDED -/
def tr_ct (P : Nat → Bool) : Nat → Nat
  | 0 => 0
  | h + 1 => tr_ct P h + (if P h = true then 1 else 0)
theorem tr_ct_s (P : Nat → Bool) (h : Nat) : tr_ct P (h + 1) = tr_ct P h + (if P h = true then 1 else 0) := rfl
theorem tr_ct_le (P : Nat → Bool) (h : Nat) : tr_ct P h ≤ h := by
  induction h with
  | zero => exact Nat.le_refl _
  | succ h ih =>
    rw [tr_ct_s]
    split <;> omega
theorem tr_ct_lt (P : Nat → Bool) {y : Nat} (hp : P y = true) (h : Nat) : y < h → tr_ct P y < tr_ct P h := by
  induction h with
  | zero => intro hl; exact absurd hl (by omega)
  | succ h ih =>
    intro hl
    rw [tr_ct_s]
    by_cases q : y = h
    · subst q
      rw [if_pos hp]
      omega
    · have := ih (by omega)
      split <;> omega
theorem tr_ct_at (P : Nat → Bool) (H : Nat) : ∀ j, j < tr_ct P H → ∃ h, h < H ∧ P h = true ∧ tr_ct P h = j := by
  induction H with
  | zero => intro j hj; exact absurd hj (by show ¬ j < 0; omega)
  | succ H ih =>
    intro j hj
    rw [tr_ct_s] at hj
    by_cases q : j < tr_ct P H
    · obtain ⟨h, h1, h2, h3⟩ := ih j q
      exact ⟨h, by omega, h2, h3⟩
    · by_cases c : P H = true
      · rw [if_pos c] at hj
        exact ⟨H, by omega, c, by omega⟩
      · rw [if_neg c] at hj
        exact absurd hj (by omega)
theorem tr_owc {s s0 : sg_S} (e8 : s 8 4 = s0 8 4) (e17 : ∀ k, s 17 k = s0 17 k) (n : Nat) : ∀ (l0 l1 l4 l5 : Int), dc_Ba_othersWhoKnow_6 n s l0 l1 l4 l5 = dc_Ba_othersWhoKnow_6 n s0 l0 l1 l4 l5 := by
  have ec : ∀ a b c, dc_St_canGive s a b c = dc_St_canGive s0 a b c := fun a b c => by
    unfold dc_St_canGive
    rw [e17, e17]
  induction n with
  | zero => intro l0 l1 l4 l5; rfl
  | succ n ih =>
    intro l0 l1 l4 l5
    rw [dc_Ba_othersWhoKnow_6_s, dc_Ba_othersWhoKnow_6_s, e8, ec]
    simp only [ih]
theorem tr_owb {s : sg_S} {W : Nat} (h84 : s 8 4 = (W : Int)) (W5 : W ≤ 5) (h S : Int) (n : Nat) : ∀ (x : Int) (z : Nat), 0 ≤ x → x ≤ 511 → z ≤ W → W - z < n → (∀ j : Nat, x.toNat.testBit j = (decide (j < z) && decide ((j : Int) ≠ S) && decide (dc_St_canGive s (j : Int) S h ≠ 0))) → (0 ≤ dc_Ba_othersWhoKnow_6 n s h S x (z : Int) ∧ dc_Ba_othersWhoKnow_6 n s h S x (z : Int) ≤ 511) ∧ ∀ j : Nat, (dc_Ba_othersWhoKnow_6 n s h S x (z : Int)).toNat.testBit j = (decide (j < W) && decide ((j : Int) ≠ S) && decide (dc_St_canGive s (j : Int) S h ≠ 0)) := by
  induction n with
  | zero => intro x z _ _ _ hn; exact absurd hn (by omega)
  | succ n ih =>
    intro x z x0 x1 hz hn hx
    rw [dc_Ba_othersWhoKnow_6_s, h84]
    by_cases c : (W : Int) ≤ (z : Int)
    · rw [if_pos c]
      refine ⟨⟨x0, x1⟩, fun j => ?_⟩
      rw [hx j, show z = W by omega]
    · rw [if_neg c, show ((z : Int) + 1) = ((z + 1 : Nat) : Int) by omega]
      have keep : ((z : Int) = S ∨ dc_St_canGive s (z : Int) S h = 0) → ∀ j : Nat, x.toNat.testBit j = (decide (j < z + 1) && decide ((j : Int) ≠ S) && decide (dc_St_canGive s (j : Int) S h ≠ 0)) := fun hq j => by
        rw [hx j]
        by_cases q : j = z
        · subst q
          rcases hq with w | w
          · simp [w]
          · simp [w]
        · by_cases p : j < z
          · simp [p, show j < z + 1 by omega]
          · simp [p, show ¬ j < z + 1 by omega]
      by_cases q : (z : Int) = S
      · rw [if_pos q]
        exact ih x (z + 1) x0 x1 (by omega) (by omega) (keep (Or.inl q))
      · rw [if_neg q]
        by_cases v : dc_St_canGive s (z : Int) S h = 0
        · rw [if_pos v]
          exact ih x (z + 1) x0 x1 (by omega) (by omega) (keep (Or.inr v))
        · rw [if_neg v]
          have hs := sg_shl9 (z : Int) (by omega) (by omega)
          have ho := sg_or9 x (sy_shl 1 (z : Int)) x0 x1 (by omega) (by omega)
          refine ih _ (z + 1) ho.1 ho.2 (by omega) (by omega) (fun j => ?_)
          rw [yb_or x0 (by omega) (by omega) (by omega), yb_sh (by omega) (by omega), hx j, Int.toNat_natCast]
          by_cases p : j = z
          · subst p
            simp [q, v]
          · by_cases p2 : j < z
            · simp [p2, show j < z + 1 by omega, show ¬ z = j by omega]
            · simp [p2, show ¬ j < z + 1 by omega, show ¬ z = j by omega]
theorem tr_ln {P : Nat → Bool} {miss S : Int} {H : Nat} (hP : ∀ h : Nat, h < H → (sy_and (sy_shr miss (h : Int)) 1 = 1 ↔ P h = true)) {s0 : sg_S} (h83 : s0 8 3 = (H : Int)) (n : Nat) : ∀ (s : sg_S) (h : Nat), h ≤ H → H - h < n → s 227 6 = (tr_ct P h : Int) → (∀ c k, c ≠ 228 → c ≠ 229 → (c ≠ 227 ∨ k ≠ 6) → s c k = s0 c k) → (∀ y, y < h → P y = true → s 228 (tr_ct P y) = (y : Int) ∧ s 229 (tr_ct P y) = dc_Ba_othersWhoKnow s0 (y : Int) S) → (∀ c k, c ≠ 228 → c ≠ 229 → (c ≠ 227 ∨ k ≠ 6) → dc_Ba_listNeeds_8 n s S miss (h : Int) c k = s0 c k) ∧ dc_Ba_listNeeds_8 n s S miss (h : Int) 227 6 = (tr_ct P H : Int) ∧ (∀ y, y < H → P y = true → dc_Ba_listNeeds_8 n s S miss (h : Int) 228 (tr_ct P y) = (y : Int) ∧ dc_Ba_listNeeds_8 n s S miss (h : Int) 229 (tr_ct P y) = dc_Ba_othersWhoKnow s0 (y : Int) S) := by
  induction n with
  | zero => intro s h _ hn; exact absurd hn (by omega)
  | succ n ih =>
    intro s h hh hn h6 hfr hy
    rw [dc_Ba_listNeeds_8_s, hfr 8 3 (by decide) (by decide) (Or.inl (by decide)), h83]
    by_cases c : (H : Int) ≤ (h : Int)
    · have e : h = H := by omega
      rw [if_pos c]
      rw [e] at h6 hy
      exact ⟨hfr, h6, hy⟩
    · rw [if_neg c, h6, Int.toNat_natCast, show ((h : Int) + 1) = ((h + 1 : Nat) : Int) by omega]
      have e1 := hP h (by omega)
      by_cases q : P h = true
      · rw [if_pos (e1.mpr q)]
        have eo : dc_Ba_othersWhoKnow (sg_up s 228 (tr_ct P h) (h : Int)) (h : Int) S = dc_Ba_othersWhoKnow s0 (h : Int) S := tr_owc (by rw [sg_na (by decide)]; exact hfr 8 4 (by decide) (by decide) (Or.inl (by decide))) (fun k => by rw [sg_na (by decide)]; exact hfr 17 k (by decide) (by decide) (Or.inl (by decide))) 6 _ _ _ _
        rw [eo]
        have ec : tr_ct P (h + 1) = tr_ct P h + 1 := by rw [tr_ct_s, if_pos q]
        refine ih _ (h + 1) (by omega) (by omega) (by rw [sg_eq, ec]; omega) (fun c k c1 c2 c3 => ?_) (fun y hy1 hy2 => ?_)
        · have : sg_up (sg_up (sg_up s 228 (tr_ct P h) (h : Int)) 229 (tr_ct P h) (dc_Ba_othersWhoKnow s0 (h : Int) S)) 227 6 ((tr_ct P h : Int) + 1) c k = sg_up (sg_up s 228 (tr_ct P h) (h : Int)) 229 (tr_ct P h) (dc_Ba_othersWhoKnow s0 (h : Int) S) c k := by
            rcases c3 with w | w
            · exact sg_na w _ _ _
            · exact sg_nk w _ _ _
          rw [this, sg_na c2, sg_na c1]
          exact hfr c k c1 c2 c3
        · rw [sg_na (show (228 : Nat) ≠ 227 by decide), sg_na (show (229 : Nat) ≠ 227 by decide), sg_na (show (228 : Nat) ≠ 229 by decide)]
          by_cases p : y = h
          · subst p
            rw [sg_eq, sg_eq]
            exact ⟨rfl, rfl⟩
          · have := tr_ct_lt P hy2 h (by omega)
            rw [sg_nk (by omega), sg_nk (by omega), sg_na (by decide)]
            exact hy y (by omega) hy2
      · rw [if_neg (fun k => q (e1.mp k))]
        have ec : tr_ct P (h + 1) = tr_ct P h := by rw [tr_ct_s, if_neg q]; rfl
        refine ih s (h + 1) (by omega) (by omega) (by rw [ec]; exact h6) hfr (fun y hy1 hy2 => hy y ?_ hy2)
        by_cases p : y = h
        · subst p
          exact absurd hy2 q
        · omega
/-! the reference's trade -/
theorem tr_48 {P : Nat → Bool} {S set x : Int} {H : Nat} {t0 : sg_S} (hP : ∀ h : Nat, h < H → (P h = true ↔ (dc_R_has t0 set (h : Int) ≠ 0 ∧ dc_R_isKnown t0 S (h : Int) = 0))) (h6 : t0 234 6 = (H : Int)) (n : Nat) : ∀ (t : sg_S) (h : Nat), h ≤ H → H - h < n → (∀ c k, c ≠ 243 → t c k = t0 c k) → (∀ y, y < h → P y = true → t 243 (tr_ct P y) = (y : Int)) → ∃ t', dc_R_trade_48 n t S set x (tr_ct P h : Int) (h : Int) = (if ((dc_R_findTrade t' S (tr_ct P H : Int)).2) = 1000000 then ((dc_R_findTrade t' S (tr_ct P H : Int)).1, (-1)) else (dc_R_trade_118 10 (dc_R_findTrade t' S (tr_ct P H : Int)).1 x (tr_ct P H : Int) ((dc_R_findTrade t' S (tr_ct P H : Int)).2) (-1) 0)) ∧ (∀ c k, c ≠ 243 → t' c k = t0 c k) ∧ (∀ y, y < H → P y = true → t' 243 (tr_ct P y) = (y : Int)) := by
  induction n with
  | zero => intro t h _ hn; exact absurd hn (by omega)
  | succ n ih =>
    intro t h hh hn hfr hy
    rw [dc_R_trade_48_s, hfr 234 6 (by decide), h6]
    by_cases c : (H : Int) ≤ (h : Int)
    · have e : h = H := by omega
      rw [if_pos c, e]
      rw [e] at hy
      exact ⟨t, rfl, hfr, hy⟩
    · rw [if_neg c, Int.toNat_natCast, show ((h : Int) + 1) = ((h + 1 : Nat) : Int) by omega]
      have e1 := hP h (by omega)
      have eh : dc_R_has t set (h : Int) = dc_R_has t0 set (h : Int) := rfl
      have ek : dc_R_isKnown t S (h : Int) = dc_R_isKnown t0 S (h : Int) := by
        unfold dc_R_isKnown dc_R_has
        rw [hfr 235 _ (by decide)]
      rw [eh, ek]
      have no : P h = false → ∃ t', dc_R_trade_48 n t S set x (tr_ct P h : Int) ((h + 1 : Nat) : Int) = (if ((dc_R_findTrade t' S (tr_ct P H : Int)).2) = 1000000 then ((dc_R_findTrade t' S (tr_ct P H : Int)).1, (-1)) else (dc_R_trade_118 10 (dc_R_findTrade t' S (tr_ct P H : Int)).1 x (tr_ct P H : Int) ((dc_R_findTrade t' S (tr_ct P H : Int)).2) (-1) 0)) ∧ (∀ c k, c ≠ 243 → t' c k = t0 c k) ∧ (∀ y, y < H → P y = true → t' 243 (tr_ct P y) = (y : Int)) := fun q => by
        have ec : tr_ct P (h + 1) = tr_ct P h := by rw [tr_ct_s, if_neg (by rw [q]; decide)]; rfl
        have w := ih t (h + 1) (by omega) (by omega) hfr (fun y hy1 hy2 => hy y (by
          by_cases p : y = h
          · subst p
            rw [q] at hy2
            exact absurd hy2 (by decide)
          · omega) hy2)
        rw [ec] at w
        exact w
      by_cases p1 : dc_R_has t0 set (h : Int) = 0
      · rw [if_pos p1]
        exact no (by
          cases hp : P h
          · rfl
          · exact absurd p1 (e1.mp hp).1)
      · rw [if_neg p1]
        by_cases p2 : dc_R_isKnown t0 S (h : Int) = 0
        · rw [if_pos p2]
          have q := e1.mpr ⟨p1, p2⟩
          have ec : ((tr_ct P h : Int) + 1) = (tr_ct P (h + 1) : Int) := by rw [tr_ct_s, if_pos q]; omega
          rw [ec]
          refine ih _ (h + 1) (by omega) (by omega) (fun c k hc => by rw [sg_na hc]; exact hfr c k hc) (fun y hy1 hy2 => ?_)
          by_cases p : y = h
          · subst p
            rw [sg_eq]
          · have := tr_ct_lt P hy2 h (by omega)
            rw [sg_nk (by omega)]
            exact hy y (by omega) hy2
        · rw [if_neg p2]
          exact no (by
            cases hp : P h
            · rfl
            · exact absurd (e1.mp hp).2 p2)
theorem tr_118n (s : sg_S) (M : Nat) (b : Int) (n : Nat) : ∀ (l6 : Int) (j : Nat), j ≤ M → M - j < n → (dc_R_trade_118 n s (-1) (M : Int) b l6 (j : Int)).2 = b := by
  induction n with
  | zero => intro l6 j _ hn; exact absurd hn (by omega)
  | succ n ih =>
    intro l6 j hj hn
    rw [dc_R_trade_118_s]
    by_cases c : (M : Int) ≤ (j : Int)
    · rw [if_pos c, if_pos rfl]
    · rw [if_neg c, show ((j : Int) + 1) = ((j + 1 : Nat) : Int) by omega]
      split
      · exact ih _ (j + 1) (by omega) (by omega)
      · exact ih _ (j + 1) (by omega) (by omega)
theorem tr_118f (s : sg_S) {x : Int} (hx : x ≠ -1) (M : Nat) (b : Int) (n : Nat) : ∀ (l6 : Int) (j : Nat), j ≤ M → M - j < n → ((∀ i, j ≤ i → i < M → s 243 i ≠ x) → (dc_R_trade_118 n s x (M : Int) b l6 (j : Int)).2 = l6) ∧ (∀ i, j ≤ i → i < M → s 243 i = x → (∀ y, i < y → y < M → s 243 y ≠ x) → (dc_R_trade_118 n s x (M : Int) b l6 (j : Int)).2 = s 245 i) := by
  induction n with
  | zero => intro l6 j _ hn; exact absurd hn (by omega)
  | succ n ih =>
    intro l6 j hj hn
    rw [dc_R_trade_118_s]
    by_cases c : (M : Int) ≤ (j : Int)
    · rw [if_pos c, if_neg hx]
      exact ⟨fun _ => rfl, fun i i1 i2 => absurd i1 (by omega)⟩
    · rw [if_neg c, Int.toNat_natCast, show ((j : Int) + 1) = ((j + 1 : Nat) : Int) by omega]
      by_cases q : s 243 j = x
      · rw [if_pos q]
        have k := ih (s 245 j) (j + 1) (by omega) (by omega)
        refine ⟨fun h => absurd q (h j (Nat.le_refl _) (by omega)), fun i i1 i2 i3 i4 => ?_⟩
        by_cases p : i = j
        · subst p
          exact k.1 (fun y y1 y2 => i4 y (by omega) y2)
        · exact k.2 i (by omega) i2 i3 i4
      · rw [if_neg q]
        have k := ih l6 (j + 1) (by omega) (by omega)
        refine ⟨fun h => k.1 (fun i i1 i2 => h i (by omega) i2), fun i i1 i2 i3 i4 => k.2 i ?_ i2 i3 i4⟩
        by_cases p : i = j
        · rw [p] at i3
          exact absurd i3 q
        · omega
