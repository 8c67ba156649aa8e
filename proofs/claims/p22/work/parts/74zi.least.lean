/-! TRADES: the least, and the first that costs it -/
def tr_min (f : Nat → Int) (g : Nat → Bool) : Nat → Int
  | 0 => 1000000
  | w + 1 => if g w = true ∧ f w < tr_min f g w then f w else tr_min f g w
def tr_arg (f : Nat → Int) (g : Nat → Bool) : Nat → Nat
  | 0 => 0
  | w + 1 => if g w = true ∧ f w < tr_min f g w then w else tr_arg f g w
theorem tr_min_s (f : Nat → Int) (g : Nat → Bool) (w : Nat) : tr_min f g (w + 1) = if g w = true ∧ f w < tr_min f g w then f w else tr_min f g w := rfl
theorem tr_arg_s (f : Nat → Int) (g : Nat → Bool) (w : Nat) : tr_arg f g (w + 1) = if g w = true ∧ f w < tr_min f g w then w else tr_arg f g w := rfl
theorem tr_min_le (f : Nat → Int) (g : Nat → Bool) (w : Nat) : tr_min f g w ≤ 1000000 ∧ ∀ z, z < w → g z = true → tr_min f g w ≤ f z := by
  induction w with
  | zero => exact ⟨Int.le_refl _, fun z hz => absurd hz (by omega)⟩
  | succ w ih =>
    rw [tr_min_s]
    by_cases c : g w = true ∧ f w < tr_min f g w
    · rw [if_pos c]
      refine ⟨by omega, fun z hz hg => ?_⟩
      by_cases q : z = w
      · rw [q]
        exact Int.le_refl _
      · have := ih.2 z (by omega) hg
        omega
    · rw [if_neg c]
      refine ⟨ih.1, fun z hz hg => ?_⟩
      by_cases q : z = w
      · subst q
        have : ¬ f z < tr_min f g z := fun k => c ⟨hg, k⟩
        omega
      · exact ih.2 z (by omega) hg
theorem tr_min_at (f : Nat → Int) (g : Nat → Bool) (w : Nat) : tr_min f g w = 1000000 ∨ (tr_arg f g w < w ∧ g (tr_arg f g w) = true ∧ f (tr_arg f g w) = tr_min f g w) := by
  induction w with
  | zero => exact Or.inl rfl
  | succ w ih =>
    rw [tr_min_s, tr_arg_s]
    by_cases c : g w = true ∧ f w < tr_min f g w
    · rw [if_pos c, if_pos c]
      exact Or.inr ⟨by omega, c.1, rfl⟩
    · rw [if_neg c, if_neg c]
      rcases ih with k | k
      · exact Or.inl k
      · exact Or.inr ⟨by omega, k.2⟩
theorem tr_min_0 {f : Nat → Int} {g : Nat → Bool} (h : ∀ z, 0 ≤ f z) (w : Nat) : 0 ≤ tr_min f g w := by
  rcases tr_min_at f g w with k | k
  · omega
  · have := h (tr_arg f g w)
    omega
theorem tr_min_c {f f' : Nat → Int} {g : Nat → Bool} (w : Nat) (h : ∀ z, z < w → g z = true → f z = f' z) : tr_min f g w = tr_min f' g w ∧ tr_arg f g w = tr_arg f' g w := by
  induction w with
  | zero => exact ⟨rfl, rfl⟩
  | succ w ih =>
    obtain ⟨i1, i2⟩ := ih (fun z hz => h z (by omega))
    rw [tr_min_s, tr_min_s, tr_arg_s, tr_arg_s, ← i1, ← i2]
    by_cases c : g w = true
    · rw [h w (by omega) c]
      exact ⟨rfl, rfl⟩
    · have n1 : ¬ (g w = true ∧ f w < tr_min f g w) := fun k => c k.1
      have n2 : ¬ (g w = true ∧ f' w < tr_min f g w) := fun k => c k.1
      rw [if_neg n1, if_neg n2, if_neg n1, if_neg n2]
      exact ⟨rfl, rfl⟩
theorem tr_stay {f : Nat → Int} {g : Nat → Bool} {b c l : Int} {w : Nat} (hl : l = min b (c + tr_min f g w)) (h : g w = true → l ≤ c + f w) : l = min b (c + tr_min f g (w + 1)) ∧ ((c + tr_min f g (w + 1) < b) ↔ (c + tr_min f g w < b)) ∧ (c + tr_min f g w < b → tr_arg f g (w + 1) = tr_arg f g w) := by
  rw [tr_min_s, tr_arg_s]
  by_cases k : g w = true ∧ f w < tr_min f g w
  · have := h k.1
    have k2 := k.2
    rw [if_pos k, if_pos k]
    exact ⟨by omega, by omega, fun q => absurd q (by omega)⟩
  · rw [if_neg k, if_neg k]
    exact ⟨hl, Iff.rfl, fun _ => rfl⟩
theorem tr_hit {f : Nat → Int} {g : Nat → Bool} {b c l : Int} {w : Nat} (hl : l = min b (c + tr_min f g w)) (hg : g w = true) (h : c + f w < l) : tr_min f g (w + 1) = f w ∧ tr_arg f g (w + 1) = w ∧ c + f w < b := by
  have k : g w = true ∧ f w < tr_min f g w := ⟨hg, by omega⟩
  rw [tr_min_s, tr_arg_s, if_pos k, if_pos k]
  exact ⟨rfl, rfl, by omega⟩
/-- the least that r maps cost, from the i-th on, where d is used up -/
def tr_V (W : Nat) (G : Nat → Nat → Bool) (mo : (Nat → Int) → Nat → Int) (nx : (Nat → Int) → Nat → Nat → Int) : Nat → Nat → (Nat → Int) → Int
  | 0, _, _ => 0
  | r + 1, i, d => tr_min (fun z => mo d z + tr_V W G mo nx r (i + 1) (nx d z)) (G i) W
def tr_A (W : Nat) (G : Nat → Nat → Bool) (mo : (Nat → Int) → Nat → Int) (nx : (Nat → Int) → Nat → Nat → Int) (r i : Nat) (d : Nat → Int) : Nat := tr_arg (fun z => mo d z + tr_V W G mo nx r (i + 1) (nx d z)) (G i) W
/-- who gives them -/
def tr_Q (W : Nat) (G : Nat → Nat → Bool) (mo : (Nat → Int) → Nat → Int) (nx : (Nat → Int) → Nat → Nat → Int) : Nat → Nat → (Nat → Int) → Nat → Nat
  | 0, _, _, _ => 0
  | r + 1, i, d, j => if j = i then tr_A W G mo nx r i d else tr_Q W G mo nx r (i + 1) (nx d (tr_A W G mo nx r i d)) j
theorem tr_V_s (W : Nat) (G : Nat → Nat → Bool) (mo : (Nat → Int) → Nat → Int) (nx : (Nat → Int) → Nat → Nat → Int) (r i : Nat) (d : Nat → Int) : tr_V W G mo nx (r + 1) i d = tr_min (fun z => mo d z + tr_V W G mo nx r (i + 1) (nx d z)) (G i) W := rfl
theorem tr_Q_s (W : Nat) (G : Nat → Nat → Bool) (mo : (Nat → Int) → Nat → Int) (nx : (Nat → Int) → Nat → Nat → Int) (r i : Nat) (d : Nat → Int) (j : Nat) : tr_Q W G mo nx (r + 1) i d j = if j = i then tr_A W G mo nx r i d else tr_Q W G mo nx r (i + 1) (nx d (tr_A W G mo nx r i d)) j := rfl
theorem tr_V0 {W : Nat} {G : Nat → Nat → Bool} {mo : (Nat → Int) → Nat → Int} {nx : (Nat → Int) → Nat → Nat → Int} (h : ∀ d z, 0 ≤ mo d z) (r : Nat) : ∀ i d, 0 ≤ tr_V W G mo nx r i d := by
  induction r with
  | zero => intro i d; exact Int.le_refl _
  | succ r ih =>
    intro i d
    rw [tr_V_s]
    exact tr_min_0 (fun z => by have := h d z; have := ih (i + 1) (nx d z); omega) W
theorem tr_Vle {W M : Nat} {G : Nat → Nat → Bool} {mo : (Nat → Int) → Nat → Int} {nx : (Nat → Int) → Nat → Nat → Int} (h : ∀ d z, z < W → mo d z ≤ 99) (hg : ∀ i, i < M → ∃ z, z < W ∧ G i z = true) (r : Nat) : ∀ i d, i + r ≤ M → tr_V W G mo nx r i d ≤ 99 * (r : Int) := by
  induction r with
  | zero => intro i d _; exact Int.le_refl _
  | succ r ih =>
    intro i d hi
    rw [tr_V_s]
    obtain ⟨z, z1, z2⟩ := hg i (by omega)
    have a := (tr_min_le (fun z => mo d z + tr_V W G mo nx r (i + 1) (nx d z)) (G i) W).2 z z1 z2
    have b := h d z z1
    have c := ih (i + 1) (nx d z) (by omega)
    omega
theorem tr_Vfar {W : Nat} {G : Nat → Nat → Bool} {mo : (Nat → Int) → Nat → Int} {nx : (Nat → Int) → Nat → Nat → Int} (h : ∀ d z, 0 ≤ mo d z) {i0 : Nat} (hg : ∀ z, z < W → G i0 z = false) (r : Nat) : ∀ i d, i ≤ i0 → i0 < i + r → tr_V W G mo nx r i d = 1000000 := by
  induction r with
  | zero => intro i d _ h2; exact absurd h2 (by omega)
  | succ r ih =>
    intro i d h1 h2
    rw [tr_V_s]
    rcases tr_min_at (fun z => mo d z + tr_V W G mo nx r (i + 1) (nx d z)) (G i) W with k | k
    · exact k
    · by_cases q : i = i0
      · rw [q] at k
        rw [hg _ k.1] at k
        exact absurd k.2.1 (by simp)
      · have l := (tr_min_le (fun z => mo d z + tr_V W G mo nx r (i + 1) (nx d z)) (G i) W).1
        have k3 := k.2.2
        rw [ih (i + 1) _ (by omega) (by omega)] at k3
        have := h d (tr_arg (fun z => mo d z + tr_V W G mo nx r (i + 1) (nx d z)) (G i) W)
        omega
/-- two ways to count that go along -/
theorem tr_eq {W M : Nat} {G : Nat → Nat → Bool} {mo mo' : (Nat → Int) → Nat → Int} {nx nx' : (Nat → Int) → Nat → Nat → Int} (h : ∀ d z, 0 ≤ mo d z) (R : Nat → (Nat → Int) → (Nat → Int) → Prop) (hR : ∀ i d e z, i < M → R i d e → z < W → G i z = true → mo d z = mo' e z ∧ R (i + 1) (nx d z) (nx' e z)) (r : Nat) : ∀ i d e, i + r ≤ M → R i d e → tr_V W G mo nx r i d = tr_V W G mo' nx' r i e ∧ (tr_V W G mo nx r i d < 1000000 → ∀ j, tr_Q W G mo nx r i d j = tr_Q W G mo' nx' r i e j) := by
  induction r with
  | zero => intro i d e _ _; exact ⟨rfl, fun _ _ => rfl⟩
  | succ r ih =>
    intro i d e hM hr
    have k := tr_min_c (f := fun z => mo d z + tr_V W G mo nx r (i + 1) (nx d z)) (f' := fun z => mo' e z + tr_V W G mo' nx' r (i + 1) (nx' e z)) (g := G i) W (fun z hz hg => by
      obtain ⟨a, b⟩ := hR i d e z (by omega) hr hz hg
      show mo d z + _ = mo' e z + _
      rw [a, (ih (i + 1) _ _ (by omega) b).1])
    refine ⟨k.1, fun hV j => ?_⟩
    have eA : tr_A W G mo nx r i d = tr_A W G mo' nx' r i e := k.2
    rw [tr_Q_s, tr_Q_s, ← eA]
    by_cases q : j = i
    · rw [if_pos q, if_pos q]
    · rw [if_neg q, if_neg q]
      rw [tr_V_s] at hV
      rcases tr_min_at (fun z => mo d z + tr_V W G mo nx r (i + 1) (nx d z)) (G i) W with w | w
      · exact absurd hV (by omega)
      · have w3 : mo d (tr_A W G mo nx r i d) + tr_V W G mo nx r (i + 1) (nx d (tr_A W G mo nx r i d)) = _ := w.2.2
        have := h d (tr_A W G mo nx r i d)
        obtain ⟨_, b⟩ := hR i d e (tr_A W G mo nx r i d) (by omega) hr w.1 w.2.1
        exact (ih (i + 1) _ _ (by omega) b).2 (by omega) j
