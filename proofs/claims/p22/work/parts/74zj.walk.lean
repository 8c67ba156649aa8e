/-! THE REFERENCE'S WAY THROUGH ALL TRADES finds the least, and the first -/
def tr_E (t0 s : sg_S) : Prop := (∀ k, s 234 k = t0 234 k) ∧ (∀ k, s 235 k = t0 235 k) ∧ (∀ k, s 237 k = t0 237 k) ∧ (∀ k, s 243 k = t0 243 k)
def tr_G (t0 : sg_S) (S : Int) : Nat → Nat → Bool := fun i z => decide ((z : Int) ≠ S) && decide (dc_R_isKnown t0 (z : Int) (t0 243 i) ≠ 0)
def tr_of (t0 : sg_S) (S : Int) (z : Nat) : Int := dc_R_ones t0 (sy_and (t0 235 ((101 + S).toNat)) (sy_xor (t0 235 ((101 + (z : Int)).toNat)) (-1)))
def tr_mR (t0 : sg_S) (S : Int) : (Nat → Int) → Nat → Int := fun d z => if tr_of t0 S z ≤ d z then t0 237 z else 0
def tr_nR : (Nat → Int) → Nat → Nat → Int := fun d z y => if y = z then d y + 1 else d y
theorem tr_Eu {t0 s : sg_S} (h : tr_E t0 s) {a k : Nat} {v : Int} (ha : 244 ≤ a) : tr_E t0 (sg_up s a k v) := ⟨fun k => by rw [sg_na (by omega)]; exact h.1 k, fun k => by rw [sg_na (by omega)]; exact h.2.1 k, fun k => by rw [sg_na (by omega)]; exact h.2.2.1 k, fun k => by rw [sg_na (by omega)]; exact h.2.2.2 k⟩
theorem tr_mo {t0 s : sg_S} (h : tr_E t0 s) (S : Int) {z : Nat} {d : Nat → Int} (hd : s 247 z = d z) : dc_R_moreOf s S (z : Int) = tr_mR t0 S d z := by
  unfold dc_R_moreOf tr_mR tr_of
  rw [h.2.1, h.2.1, h.2.2.1, Int.toNat_natCast, hd]
  have e : ∀ x, dc_R_ones s x = dc_R_ones t0 x := fun x => on_s 10 s t0 x 0 0
  rw [e]
theorem tr_kn {t0 s : sg_S} (h : tr_E t0 s) (z x : Int) : dc_R_isKnown s z x = dc_R_isKnown t0 z x := by
  unfold dc_R_isKnown dc_R_has
  rw [h.2.1]
/-! rows of the loop -/
def tr_x (s : sg_S) (l4 : Int) : Nat := if 0 ≤ l4 + (-1) then (s 244 ((l4 + (-1)).toNat)).toNat else 0
def tr_rs (s : sg_S) (l4 : Int) : sg_S := sg_up s 247 (tr_x s l4) (sy_w (s 247 (tr_x s l4) - 1))
def tr_as (s : sg_S) (l1 l4 l5 : Int) : sg_S := sg_up (sg_up (sg_up (sg_up s 246 ((l4 + 1).toNat) ((s 246 (l4.toNat)) + (dc_R_moreOf s l1 l5))) 247 (l5.toNat) (sy_w ((s 247 (l5.toNat)) + 1))) 244 (l4.toNat) l5) 244 ((l4 + 1).toNat) (-1)
theorem tr_rt (k43 : sg_S → Int → Int → Int → Int → sg_S × Int) (s : sg_S) (l1 l2 l3 l4 : Int) : (if 0 ≤ (l4 + (-1)) then (k43 (sg_up s 247 ((s 244 ((l4 + (-1)).toNat)).toNat) (sy_w ((s 247 ((s 244 ((l4 + (-1)).toNat)).toNat)) - 1))) l1 l2 l3 (l4 + (-1))) else (k43 (sg_up s 247 0 (sy_w ((s 247 0) - 1))) l1 l2 l3 (l4 + (-1)))) = k43 (tr_rs s l4) l1 l2 l3 (l4 + (-1)) := by
  unfold tr_rs tr_x
  by_cases c : 0 ≤ l4 + (-1)
  · rw [if_pos c, if_pos c]
  · rw [if_neg c, if_neg c]
theorem tr_113r (k43 : sg_S → Int → Int → Int → Int → sg_S × Int) (n : Nat) (s : sg_S) (l1 l2 l3 l4 l5 : Int) (h : l2 ≤ l4 ∨ s 234 7 ≤ l5) : dc_R_findTrade_113 k43 (n + 1) s l1 l2 l3 l4 l5 = k43 (tr_rs s l4) l1 l2 l3 (l4 + (-1)) := by
  rw [dc_R_findTrade_113_s]
  by_cases c : l2 ≤ l4
  · rw [if_pos c, if_pos c]
    exact tr_rt k43 s l1 l2 l3 l4
  · have q : s 234 7 ≤ l5 := by omega
    rw [if_neg c, if_pos q, if_neg c, if_pos q]
    exact tr_rt k43 s l1 l2 l3 l4
theorem tr_113s (k43 : sg_S → Int → Int → Int → Int → sg_S × Int) (n : Nat) (s : sg_S) (l1 l2 l3 l4 l5 : Int) (h1 : ¬ l2 ≤ l4) (h2 : ¬ s 234 7 ≤ l5) (h : l5 = l1 ∨ dc_R_isKnown s l5 (s 243 l4.toNat) = 0 ∨ l3 ≤ s 246 l4.toNat + dc_R_moreOf s l1 l5) : dc_R_findTrade_113 k43 (n + 1) s l1 l2 l3 l4 l5 = dc_R_findTrade_113 k43 n s l1 l2 l3 l4 (l5 + 1) := by
  rw [dc_R_findTrade_113_s, if_neg h1, if_neg h2]
  by_cases c : l5 = l1
  · rw [if_pos c]
  · rw [if_neg c]
    by_cases q : dc_R_isKnown s l5 (s 243 l4.toNat) = 0
    · rw [if_pos q]
    · rw [if_neg q, if_neg (by omega)]
theorem tr_113a (k43 : sg_S → Int → Int → Int → Int → sg_S × Int) (n : Nat) (s : sg_S) (l1 l2 l3 l4 l5 : Int) (h1 : ¬ l2 ≤ l4) (h2 : ¬ s 234 7 ≤ l5) (h3 : l5 ≠ l1) (h4 : dc_R_isKnown s l5 (s 243 l4.toNat) ≠ 0) (h5 : s 246 l4.toNat + dc_R_moreOf s l1 l5 < l3) : dc_R_findTrade_113 k43 (n + 1) s l1 l2 l3 l4 l5 = k43 (tr_as s l1 l4 l5) l1 l2 l3 (l4 + 1) := by
  rw [dc_R_findTrade_113_s, if_neg h1, if_neg h2, if_neg h3, if_neg h4, if_pos h5, if_neg h1, if_neg h2]
  rfl
theorem tr_76x (k43 : sg_S → Int → Int → Int → Int → sg_S × Int) (l1 l3 l4 : Int) (M : Nat) (n : Nat) : ∀ (s : sg_S) (i : Nat), i ≤ M → M - i < n → ∃ s', dc_R_findTrade_76 k43 n s l1 (M : Int) l3 l4 (i : Int) = dc_R_findTrade_113 k43 6 s' l1 (M : Int) l3 l4 (s' 244 l4.toNat + 1) ∧ (∀ c k, c ≠ 245 → s' c k = s c k) ∧ (∀ j, j < M → s' 245 j = if j < i then s 245 j else s 244 j) ∧ (∀ j, M ≤ j → s' 245 j = s 245 j) := by
  induction n with
  | zero => intro s i _ hn; exact absurd hn (by omega)
  | succ n ih =>
    intro s i hi hn
    rw [dc_R_findTrade_76_s]
    by_cases c : (M : Int) ≤ (i : Int)
    · rw [if_pos c]
      exact ⟨s, rfl, fun _ _ _ => rfl, fun j hj => by rw [if_pos (by omega)], fun _ _ => rfl⟩
    · rw [if_neg c, Int.toNat_natCast, show ((i : Int) + 1) = ((i + 1 : Nat) : Int) by omega]
      obtain ⟨s', r1, r2, r3, r4⟩ := ih (sg_up s 245 i (s 244 i)) (i + 1) (by omega) (by omega)
      refine ⟨s', r1, fun c k hc => by rw [r2 c k hc, sg_na hc], fun j hj => ?_, fun j hj => by rw [r4 j hj, sg_nk (by omega)]⟩
      rw [r3 j hj, sg_na (show (244 : Nat) ≠ 245 by decide)]
      by_cases q : j = i
      · subst q
        rw [if_pos (by omega), if_neg (by omega), sg_eq]
      · rw [sg_nk q]
        by_cases q2 : j < i
        · rw [if_pos (by omega), if_pos q2]
        · rw [if_neg (by omega), if_neg q2]
/-- back by one -/
theorem tr_back {t0 s : sg_S} {n : Nat} {d : Nat → Int} (n9 : n ≤ 9) (hE : tr_E t0 s) (hI : ft_I s (n : Int)) (hg : s 244 n ≤ 4) (hd : ∀ z, z < 5 → s 247 z = d z) (hb : ∀ z, z < 5 → 0 ≤ d z ∧ d z ≤ 9) : ft_M (tr_rs s (n : Int)) ((n : Int) + (-1)) < ft_M s (n : Int) ∧ tr_E t0 (tr_rs s (n : Int)) ∧ (∀ a k, a ≠ 247 → tr_rs s (n : Int) a k = s a k) ∧ (1 ≤ n → ∀ z, z < 5 → tr_rs s (n : Int) 247 z = if (z : Int) = s 244 (n - 1) then d z - 1 else d z) := by
  refine ⟨(ft_ret hI (by omega) (by omega) (by rw [Int.toNat_natCast]; exact hg)).1, tr_Eu hE (by decide), fun a k ha => sg_na ha _ _ _, fun h1 z hz => ?_⟩
  have b := hI.1 (n - 1) (by omega)
  have ex : tr_x s (n : Int) = (s 244 (n - 1)).toNat := by
    unfold tr_x
    rw [if_pos (by omega), show ((n : Int) + (-1)).toNat = n - 1 by omega]
  unfold tr_rs
  rw [ex]
  by_cases q : (z : Int) = s 244 (n - 1)
  · rw [if_pos q, show (s 244 (n - 1)).toNat = z by omega, sg_eq, hd z hz]
    have := hb z hz
    exact sy_w_id ⟨by omega, by omega⟩
  · rw [if_neg q, sg_nk (by omega)]
    exact hd z hz
theorem tr_43 (f : Nat) (s : sg_S) (l1 : Int) (M : Nat) (b : Int) (n : Nat) (h : n < M) : dc_R_findTrade_43 (f + 1) s l1 (M : Int) b (n : Int) = dc_R_findTrade_113 (dc_R_findTrade_43 f) 6 s l1 (M : Int) b (n : Int) (s 244 n + 1) := by
  rw [dc_R_findTrade_43_s, if_neg (by omega), if_neg (by omega), Int.toNat_natCast]
def tr_fin (W M : Nat) (G : Nat → Nat → Bool) (mo : (Nat → Int) → Nat → Int) (s s' : sg_S) (b : Int) (r n : Nat) (d : Nat → Int) : Prop := (s 246 n + tr_V W G mo tr_nR r n d < b → ∀ j, j < M → s' 245 j = if j < n then s 244 j else (tr_Q W G mo tr_nR r n d j : Int)) ∧ (¬ s 246 n + tr_V W G mo tr_nR r n d < b → ∀ j, j < M → s' 245 j = s 245 j)
/-- what a level leaves behind it -/
def tr_L (t0 : sg_S) (S : Int) (W M r : Nat) : Prop := ∀ (n : Nat) (s : sg_S) (b : Int) (d : Nat → Int), n + r = M → tr_E t0 s → ft_I s (n : Int) → s 244 n = -1 → b ≤ 1000000 → (∀ z, z < 5 → s 247 z = d z) → (∀ z, z < 5 → 0 ≤ d z ∧ d z ≤ (n : Int)) → ∃ (s' : sg_S) (k : Nat), k + ft_M s' ((n : Int) + (-1)) ≤ ft_M s (n : Int) ∧ (∀ f, dc_R_findTrade_43 (f + k) s S (M : Int) b (n : Int) = dc_R_findTrade_43 f s' S (M : Int) (min b (s 246 n + tr_V W (tr_G t0 S) (tr_mR t0 S) tr_nR r n d)) ((n : Int) + (-1))) ∧ tr_E t0 s' ∧ (∀ j, j < n → s' 244 j = s 244 j) ∧ (∀ j, j ≤ n → s' 246 j = s 246 j) ∧ (1 ≤ n → ∀ z, z < 5 → s' 247 z = if (z : Int) = s 244 (n - 1) then d z - 1 else d z) ∧ tr_fin W M (tr_G t0 S) (tr_mR t0 S) s s' b r n d
theorem tr_L0 {t0 : sg_S} {S : Int} {W M : Nat} (hM : M ≤ 9) : tr_L t0 S W M 0 := by
  intro n s b d hn hE hI hg hb hd hdb
  have e : n = M := by omega
  subst e
  have V0 : s 246 n + tr_V W (tr_G t0 S) (tr_mR t0 S) tr_nR 0 n d = s 246 n := by
    show s 246 n + 0 = s 246 n
    omega
  by_cases c : b ≤ s 246 n
  · obtain ⟨q1, q2, q3, q4⟩ := tr_back hM hE hI (by omega) hd (fun z hz => by have := hdb z hz; omega)
    refine ⟨tr_rs s (n : Int), 1, by omega, fun f => ?_, q2, fun j _ => q3 244 j (by decide), fun j _ => q3 246 j (by decide), q4, ?_⟩
    · rw [dc_R_findTrade_43_s, if_neg (by omega), if_pos rfl, Int.toNat_natCast, if_pos c, tr_113r _ _ _ _ _ _ _ _ (Or.inl (Int.le_refl _)), V0, show min b (s 246 n) = b by omega]
    · unfold tr_fin
      rw [V0]
      exact ⟨fun h => absurd h (by omega), fun _ j _ => q3 245 j (by decide)⟩
  · obtain ⟨s1, r1, r2, r3⟩ : ∃ s' : sg_S, (∀ f, dc_R_findTrade_76 (dc_R_findTrade_43 f) 10 s S (n : Int) (s 246 n) (n : Int) 0 = dc_R_findTrade_113 (dc_R_findTrade_43 f) 6 s' S (n : Int) (s 246 n) (n : Int) (s' 244 (n : Int).toNat + 1)) ∧ (∀ c k, c ≠ 245 → s' c k = s c k) ∧ (∀ j, j < n → s' 245 j = s 244 j) := by
      have w : ∀ k43, ∃ s', dc_R_findTrade_76 k43 10 s S (n : Int) (s 246 n) (n : Int) ((0 : Nat) : Int) = dc_R_findTrade_113 k43 6 s' S (n : Int) (s 246 n) (n : Int) (s' 244 (n : Int).toNat + 1) ∧ (∀ c k, c ≠ 245 → s' c k = s c k) ∧ (∀ j, j < n → s' 245 j = if j < 0 then s 245 j else s 244 j) ∧ (∀ j, n ≤ j → s' 245 j = s 245 j) := fun k43 => tr_76x k43 S (s 246 n) (n : Int) n 10 s 0 (by omega) (by omega)
      obtain ⟨s0, w1, w2, w3, w4⟩ := w (dc_R_findTrade_43 0)
      refine ⟨s0, fun f => ?_, w2, fun j hj => by rw [w3 j hj, if_neg (by omega)]⟩
      obtain ⟨s2, v1, v2, v3, v4⟩ := w (dc_R_findTrade_43 f)
      have e2 : s2 = s0 := by
        funext a k
        by_cases q : a = 245
        · subst q
          by_cases q2 : k < n
          · rw [v3 k q2, w3 k q2]
          · rw [v4 k (by omega), w4 k (by omega)]
        · rw [v2 a k q, w2 a k q]
      rw [e2] at v1
      exact v1
    have hE1 : tr_E t0 s1 := ⟨fun k => by rw [r2 234 k (by decide)]; exact hE.1 k, fun k => by rw [r2 235 k (by decide)]; exact hE.2.1 k, fun k => by rw [r2 237 k (by decide)]; exact hE.2.2.1 k, fun k => by rw [r2 243 k (by decide)]; exact hE.2.2.2 k⟩
    have hI1 : ft_I s1 (n : Int) := ⟨fun j hj => by rw [r2 244 j (by decide)]; exact hI.1 j hj, fun j hj => by rw [r2 246 j (by decide)]; exact hI.2 j hj⟩
    obtain ⟨q1, q2, q3, q4⟩ := tr_back hM hE1 hI1 (by rw [r2 244 n (by decide)]; omega) (fun z hz => (r2 247 z (by decide)).trans (hd z hz)) (fun z hz => by have := hdb z hz; omega)
    have eM : ft_M s1 (n : Int) = ft_M s (n : Int) := by
      unfold ft_M
      rw [ft_Q_up (s := s) (fun j => r2 244 j (by decide))]
    refine ⟨tr_rs s1 (n : Int), 1, by omega, fun f => ?_, q2, fun j _ => by rw [q3 244 j (by decide), r2 244 j (by decide)], fun j _ => by rw [q3 246 j (by decide), r2 246 j (by decide)], fun h1 z hz => ?_, ?_⟩
    · rw [dc_R_findTrade_43_s, if_neg (by omega), if_pos rfl, Int.toNat_natCast, if_neg c, r1 f, tr_113r _ _ _ _ _ _ _ _ (Or.inl (Int.le_refl _)), V0, show min b (s 246 n) = s 246 n by omega]
    · rw [q4 h1 z hz, r2 244 _ (by decide)]
    · unfold tr_fin
      rw [V0]
      refine ⟨fun _ j hj => ?_, fun h => absurd h (by omega)⟩
      rw [q3 245 j (by decide), r3 j hj, if_pos hj]
