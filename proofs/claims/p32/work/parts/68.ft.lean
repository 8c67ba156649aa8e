/-! THE REFERENCE'S WAY THROUGH ALL TRADES ends -/
def ft_I (s : sg_S) (n : Int) : Prop := (∀ j : Nat, (j : Int) < n → 0 ≤ s 244 j ∧ s 244 j ≤ 4) ∧ (∀ j : Nat, (j : Int) ≤ n → 0 ≤ s 246 j ∧ s 246 j ≤ 99 * (j : Int))
def ft_p (j : Nat) : Int := ((6 ^ (10 - j) : Nat) : Int)
def ft_S (s : sg_S) : Nat → Int
  | 0 => 0
  | j + 1 => ft_S s j + s 244 j * ft_p j
def ft_Q (s : sg_S) : Nat → Int
  | 0 => 362797056
  | m + 1 => ft_S s m + (s 244 m + 1) * ft_p m
def ft_M (s : sg_S) (n : Int) : Nat := (3990767616 - 11 * ft_Q s (n + 1).toNat - n).toNat
theorem ft_p1 : ∀ j, j < 10 → 1 ≤ ft_p (j + 1) ∧ ft_p j = 6 * ft_p (j + 1) := by decide
theorem ft_p0 : ft_p 0 = 60466176 := by decide
theorem ft_pp : ∀ j, j < 11 → 1 ≤ ft_p j := by decide
theorem ft_S_congr {s t : sg_S} : ∀ m : Nat, (∀ j, j < m → t 244 j = s 244 j) → ft_S t m = ft_S s m
  | 0, _ => rfl
  | m + 1, h => by
    show ft_S t m + t 244 m * ft_p m = ft_S s m + s 244 m * ft_p m
    rw [ft_S_congr m (fun j hj => h j (by omega)), h m (by omega)]
theorem ft_mul4 {g p : Int} (hp : 1 ≤ p) (h : g ≤ 4) : g * p ≤ 4 * p := Int.mul_le_mul_of_nonneg_right h (by omega)
theorem ft_S_le {s : sg_S} : ∀ m : Nat, m ≤ 10 → (∀ j, j < m → s 244 j ≤ 4) → ft_S s m + 6 * ft_p m ≤ 362797056
  | 0, _, _ => by
    show (0 : Int) + 6 * ft_p 0 ≤ 362797056
    rw [ft_p0]
    decide
  | m + 1, h, hj => by
    have ih := ft_S_le m (by omega) (fun j q => hj j (by omega))
    have hp := ft_p1 m (by omega)
    have hm := ft_mul4 (ft_pp m (by omega)) (hj m (by omega))
    show ft_S s m + s 244 m * ft_p m + 6 * ft_p (m + 1) ≤ 362797056
    omega
theorem ft_Q_le {s : sg_S} {n : Int} (hI : ft_I s n) (h0 : 0 ≤ n) (h9 : n ≤ 9) (hg : s 244 n.toNat ≤ 4) : ft_Q s (n + 1).toNat + 1 ≤ 362797056 := by
  rw [show (n + 1).toNat = n.toNat + 1 by omega]
  have a := ft_S_le (s := s) n.toNat (by omega) (fun j q => (hI.1 j (by omega)).2)
  have hp := ft_pp n.toNat (by omega)
  have hm := ft_mul4 hp hg
  show ft_S s n.toNat + (s 244 n.toNat + 1) * ft_p n.toNat + 1 ≤ 362797056
  rw [Int.add_mul, Int.one_mul]
  omega
theorem ft_I_up {s : sg_S} {a k : Nat} {v n : Int} (h1 : 244 ≠ a) (h2 : 246 ≠ a) (h : ft_I s n) : ft_I (sg_up s a k v) n := by
  refine ⟨fun j hj => ?_, fun j hj => ?_⟩
  · rw [sg_na h1]; exact h.1 j hj
  · rw [sg_na h2]; exact h.2 j hj
theorem ft_Q_up {s t : sg_S} (h : ∀ j, t 244 j = s 244 j) : ∀ m, ft_Q t m = ft_Q s m
  | 0 => rfl
  | m + 1 => by
    show ft_S t m + (t 244 m + 1) * ft_p m = ft_S s m + (s 244 m + 1) * ft_p m
    rw [ft_S_congr m (fun j _ => h j), h m]
theorem ft_M_up {s : sg_S} {a k : Nat} {v n : Int} (h1 : 244 ≠ a) : ft_M (sg_up s a k v) n = ft_M s n := by
  unfold ft_M
  rw [ft_Q_up (s := s) (fun j => sg_na h1 _ _ _)]
theorem ft_adv {s : sg_S} {n z c v : Int} {k : Nat} (hI : ft_I s n) (h0 : 0 ≤ n) (h8 : n ≤ 8) (hgl : -1 ≤ s 244 n.toNat) (hg4 : s 244 n.toNat ≤ 4) (hg : s 244 n.toNat < z) (hz0 : 0 ≤ z) (hz : z ≤ 4) (c0 : 0 ≤ c) (c1 : c ≤ 99 * (n + 1)) : ft_M (sg_up (sg_up (sg_up (sg_up s 246 (n + 1).toNat c) 247 k v) 244 n.toNat z) 244 (n + 1).toNat (-1)) (n + 1) < ft_M s n ∧ ft_I (sg_up (sg_up (sg_up (sg_up s 246 (n + 1).toNat c) 247 k v) 244 n.toNat z) 244 (n + 1).toNat (-1)) (n + 1) := by
  have hne : ∀ j : Nat, j < n.toNat → (sg_up (sg_up (sg_up (sg_up s 246 (n + 1).toNat c) 247 k v) 244 n.toNat z) 244 (n + 1).toNat (-1)) 244 j = s 244 j := fun j hj => by
    rw [sg_nk (by omega), sg_nk (by omega), sg_na (by decide), sg_na (by decide)]
  have hn : (sg_up (sg_up (sg_up (sg_up s 246 (n + 1).toNat c) 247 k v) 244 n.toNat z) 244 (n + 1).toNat (-1)) 244 n.toNat = z := by
    rw [sg_nk (by omega), sg_eq]
  have hn1 : (sg_up (sg_up (sg_up (sg_up s 246 (n + 1).toNat c) 247 k v) 244 n.toNat z) 244 (n + 1).toNat (-1)) 244 (n + 1).toNat = -1 := sg_eq _ _ _ _
  have hc : ∀ j : Nat, (j : Int) ≤ n → (sg_up (sg_up (sg_up (sg_up s 246 (n + 1).toNat c) 247 k v) 244 n.toNat z) 244 (n + 1).toNat (-1)) 246 j = s 246 j := fun j hj => by
    rw [sg_na (by decide), sg_na (by decide), sg_na (by decide), sg_nk (by omega)]
  have hc1 : (sg_up (sg_up (sg_up (sg_up s 246 (n + 1).toNat c) 247 k v) 244 n.toNat z) 244 (n + 1).toNat (-1)) 246 (n + 1).toNat = c := by
    rw [sg_na (by decide), sg_na (by decide), sg_na (by decide), sg_eq]
  generalize sg_up (sg_up (sg_up (sg_up s 246 (n + 1).toNat c) 247 k v) 244 n.toNat z) 244 (n + 1).toNat (-1) = t at *
  constructor
  · have hq := ft_Q_le hI h0 (by omega) hg4
    have e1 : ft_Q t (n + 1 + 1).toNat = ft_S s n.toNat + z * ft_p n.toNat := by
      rw [show (n + 1 + 1).toNat = (n.toNat + 1) + 1 by omega]
      show ft_S t n.toNat + t 244 n.toNat * ft_p n.toNat + (t 244 (n.toNat + 1) + 1) * ft_p (n.toNat + 1) = _
      rw [ft_S_congr (s := s) n.toNat hne, hn, show n.toNat + 1 = (n + 1).toNat by omega, hn1]
      omega
    have e2 : ft_Q s (n + 1).toNat = ft_S s n.toNat + (s 244 n.toNat + 1) * ft_p n.toNat := by
      rw [show (n + 1).toNat = n.toNat + 1 by omega]
      rfl
    have e3 : (s 244 n.toNat + 1) * ft_p n.toNat ≤ z * ft_p n.toNat := Int.mul_le_mul_of_nonneg_right (by omega) (by have := ft_pp n.toNat (by omega); omega)
    unfold ft_M
    rw [e1]
    omega
  · refine ⟨fun j hj => ?_, fun j hj => ?_⟩
    · by_cases q : j = n.toNat
      · subst q; rw [hn]; omega
      · rw [hne j (by omega)]; exact hI.1 j (by omega)
    · by_cases q : j = (n + 1).toNat
      · subst q; rw [hc1]; omega
      · rw [hc j (by omega)]; exact hI.2 j (by omega)
theorem ft_ret {s : sg_S} {n v : Int} {k : Nat} (hI : ft_I s n) (h0 : 0 ≤ n) (h9 : n ≤ 9) (hg4 : s 244 n.toNat ≤ 4) : ft_M (sg_up s 247 k v) (n + (-1)) < ft_M s n ∧ ft_I (sg_up s 247 k v) (n + (-1)) := by
  rw [ft_M_up (by decide)]
  refine ⟨?_, ft_I_up (by decide) (by decide) ⟨fun j hj => hI.1 j (by omega), fun j hj => hI.2 j (by omega)⟩⟩
  have hq := ft_Q_le hI h0 h9 hg4
  have e1 : ft_Q s (n + 1).toNat = ft_S s n.toNat + (s 244 n.toNat + 1) * ft_p n.toNat := by
    rw [show (n + 1).toNat = n.toNat + 1 by omega]
    rfl
  have e2 : ft_Q s (n + 1).toNat + 1 ≤ ft_Q s (n + (-1) + 1).toNat := by
    rw [show (n + (-1) + 1).toNat = n.toNat by omega]
    rcases hc : n.toNat with _ | m
    · exact hq
    · rw [hc] at e1 hg4
      rw [e1]
      have hp := ft_p1 m (by omega)
      have hm := ft_mul4 hp.1 hg4
      show ft_S s m + s 244 m * ft_p m + (s 244 (m + 1) + 1) * ft_p (m + 1) + 1 ≤ ft_S s m + (s 244 m + 1) * ft_p m
      rw [Int.add_mul, Int.add_mul, Int.one_mul, Int.one_mul]
      omega
  unfold ft_M
  omega
theorem ft_in (s : sg_S) : ft_I (sg_up (sg_up s 246 0 0) 244 0 (-1)) 0 ∧ ((ft_M (sg_up (sg_up s 246 0 0) 244 0 (-1)) 0 : Nat) : Int) < ((3990767617 : Nat) : Int) := by
  refine ⟨⟨fun j hj => absurd hj (by omega), fun j hj => ?_⟩, ?_⟩
  · obtain rfl : j = 0 := by omega
    rw [sg_na (by decide), sg_eq]
    omega
  · unfold ft_M
    have : ft_Q (sg_up (sg_up s 246 0 0) 244 0 (-1)) ((0 : Int) + 1).toNat = 0 := by
      show (0 : Int) + ((sg_up (sg_up s 246 0 0) 244 0 (-1)) 244 0 + 1) * ft_p 0 = 0
      rw [sg_eq]
      omega
    rw [this]
    omega
