/-! RINGS: where there is one at all, there is one of two -/
theorem ri_e (x y : Int) : sy_and x (sy_xor y (-1)) = ((BitVec.ofInt 32 x) &&& ((BitVec.ofInt 32 y) ^^^ (BitVec.allOnes 32))).toInt := by
  unfold sy_and sy_xor
  rw [Int32.ofInt_toInt]
  rfl
theorem ri_sub (x y : Int) : sy_and x (sy_xor y (-1)) = 0 ↔ ∀ i, (BitVec.ofInt 32 x).getLsbD i = true → (BitVec.ofInt 32 y).getLsbD i = true := by
  rw [ri_e]
  generalize BitVec.ofInt 32 x = a
  generalize BitVec.ofInt 32 y = b
  constructor
  · intro h i hx
    have hX : a &&& (b ^^^ BitVec.allOnes 32) = 0#32 := BitVec.eq_of_toInt_eq (h.trans (by decide))
    have hi := BitVec.lt_of_getLsbD hx
    have := congrArg (fun v => BitVec.getLsbD v i) hX
    simp only [BitVec.getLsbD_and, BitVec.getLsbD_xor, BitVec.getLsbD_allOnes, hx, hi] at this
    simpa using this
  · intro h
    have hX : a &&& (b ^^^ BitVec.allOnes 32) = 0#32 := by
      apply BitVec.eq_of_getLsbD_eq
      intro i hi
      cases hx : a.getLsbD i
      · simp [hx]
      · rw [BitVec.getLsbD_and, BitVec.getLsbD_xor, BitVec.getLsbD_allOnes, hx, h i hx, decide_eq_true hi]
        simp
    rw [hX]
    decide
/-- x has something new for y -/
def ri_n (t : sg_S) (x y : Int) : Prop := sy_and (t 235 ((101 + x).toNat)) (sy_xor (t 235 ((101 + y).toNat)) (-1)) ≠ 0
theorem ri_cg (t : sg_S) (x y : Int) : dc_R_canGive t x y = 0 ↔ ¬ ri_n t x y := by
  unfold dc_R_canGive ri_n
  by_cases c : sy_and (t 235 ((101 + x).toNat)) (sy_xor (t 235 ((101 + y).toNat)) (-1)) = 0
  · rw [if_pos c]
    exact ⟨fun _ h => h c, fun _ => rfl⟩
  · rw [if_neg c]
    exact ⟨fun h => absurd h (by decide), fun h => absurd c h⟩
theorem ri_tr {t : sg_S} {x y z : Int} (h1 : ¬ ri_n t x y) (h2 : ¬ ri_n t y z) : ¬ ri_n t x z := by
  unfold ri_n at *
  rw [Decidable.not_not, ri_sub] at *
  exact fun i hi => h2 i (h1 i hi)
theorem ri_rf (t : sg_S) (x : Int) : ¬ ri_n t x x := by
  unfold ri_n
  rw [Decidable.not_not, ri_sub]
  exact fun i hi => hi
theorem ri_53 (k44 : sg_S → Int → Int → Int → sg_S × Int) (s : sg_S) (l2 l5 : Int) (nx : Nat) (hx : (l2 ≤ l5 + 1 ∧ nx = 0) ∨ (¬ l2 ≤ l5 + 1 ∧ nx = (l5 + 1).toNat)) (n : Nat) : ∀ (l4 l6 : Int), (l4 = 0 ∨ l4 = 1) → l6 ≤ l5 → l5 - l6 < (n : Int) → ((l4 = 1 ∧ (∀ j : Int, l6 ≤ j → j < l5 → s 248 j.toNat ≠ s 248 l5.toNat) ∧ ¬ s 248 l5.toNat < s 248 0 ∧ ri_n s (s 248 l5.toNat) (s 248 nx)) → dc_R_isRing_53 k44 n s l2 l4 l5 l6 = k44 s l2 1 (l5 + 1)) ∧ (¬ (l4 = 1 ∧ (∀ j : Int, l6 ≤ j → j < l5 → s 248 j.toNat ≠ s 248 l5.toNat) ∧ ¬ s 248 l5.toNat < s 248 0 ∧ ri_n s (s 248 l5.toNat) (s 248 nx)) → dc_R_isRing_53 k44 n s l2 l4 l5 l6 = k44 s l2 0 (l5 + 1)) := by
  induction n with
  | zero => intro l4 l6 _ h hn; exact absurd hn (by omega)
  | succ n ih =>
    intro l4 l6 hi h6 hn
    rw [dc_R_isRing_53_s]
    by_cases c : l5 ≤ l6
    · rw [if_pos c]
      by_cases z : l4 = 0
      · rw [if_pos z]
        exact ⟨fun p => absurd p.1 (by omega), fun _ => rfl⟩
      · rw [if_neg z]
        have i1 : l4 = 1 := by omega
        by_cases q : s 248 l5.toNat < s 248 0
        · rw [if_pos q]
          exact ⟨fun p => absurd q p.2.2.1, fun _ => rfl⟩
        · rw [if_neg q]
          have key : (if l2 ≤ l5 + 1 then (if dc_R_canGive s (s 248 l5.toNat) (s 248 0) = 0 then k44 s l2 0 (l5 + 1) else k44 s l2 1 (l5 + 1)) else (if dc_R_canGive s (s 248 l5.toNat) (s 248 (l5 + 1).toNat) = 0 then k44 s l2 0 (l5 + 1) else k44 s l2 1 (l5 + 1))) = if dc_R_canGive s (s 248 l5.toNat) (s 248 nx) = 0 then k44 s l2 0 (l5 + 1) else k44 s l2 1 (l5 + 1) := by
            rcases hx with ⟨w1, w2⟩ | ⟨w1, w2⟩
            · rw [if_pos w1, w2]
            · rw [if_neg w1, w2]
          rw [key]
          by_cases v : dc_R_canGive s (s 248 l5.toNat) (s 248 nx) = 0
          · rw [if_pos v]
            exact ⟨fun p => absurd p.2.2.2 ((ri_cg _ _ _).mp v), fun _ => rfl⟩
          · rw [if_neg v]
            refine ⟨fun _ => rfl, fun p => absurd ?_ p⟩
            exact ⟨i1, fun j j1 j2 => absurd j1 (by omega), q, Classical.not_not.mp (fun w => v ((ri_cg _ _ _).mpr w))⟩
    · rw [if_neg c]
      by_cases z : l4 = 0
      · rw [if_pos z]
        have k := ih 0 (l6 + 1) (Or.inl rfl) (by omega) (by omega)
        exact ⟨fun p => absurd p.1 (by omega), fun _ => k.2 (fun p => absurd p.1 (by decide))⟩
      · rw [if_neg z]
        have i1 : l4 = 1 := by omega
        by_cases e : s 248 l6.toNat = s 248 l5.toNat
        · rw [if_pos e]
          have k := ih 0 (l6 + 1) (Or.inl rfl) (by omega) (by omega)
          exact ⟨fun p => absurd e (p.2.1 l6 (Int.le_refl _) (by omega)), fun _ => k.2 (fun p => absurd p.1 (by decide))⟩
        · rw [if_neg e]
          have k := ih 1 (l6 + 1) (Or.inr rfl) (by omega) (by omega)
          refine ⟨fun p => k.1 ⟨rfl, fun j j1 j2 => p.2.1 j (by omega) j2, p.2.2⟩, fun p => k.2 (fun w => p ⟨i1, fun j j1 j2 => ?_, w.2.2⟩)⟩
          by_cases y : j = l6
          · rw [y]; exact e
          · exact w.2.1 j (by omega) j2
/-- each gives to the next, if it is a ring -/
theorem ri_44 (n : Nat) : ∀ (s : sg_S) (l2 l4 l5 : Int), (l4 = 0 ∨ l4 = 1) → 0 ≤ l5 → l5 ≤ l2 → l2 ≤ 5 → l2 - l5 < (n : Int) → (dc_R_isRing_44 n s l2 l4 l5).1 = s ∧ ((dc_R_isRing_44 n s l2 l4 l5).2 = 0 ∨ (l4 = 1 ∧ ∀ i : Int, l5 ≤ i → i < l2 → ri_n s (s 248 i.toNat) (s 248 (if l2 ≤ i + 1 then 0 else (i + 1).toNat)))) := by
  induction n with
  | zero => intro s l2 l4 l5 _ _ h _ hn; exact absurd hn (by omega)
  | succ n ih =>
    intro s l2 l4 l5 hi h0 h2 h5 hn
    rw [dc_R_isRing_44_s]
    by_cases c : l2 ≤ l5
    · rw [if_pos c]
      refine ⟨rfl, ?_⟩
      rcases hi with q | q
      · exact Or.inl q
      · exact Or.inr ⟨q, fun i i1 i2 => absurd i1 (by omega)⟩
    · rw [if_neg c]
      have k := ri_53 (dc_R_isRing_44 n) s l2 l5 (if l2 ≤ l5 + 1 then 0 else (l5 + 1).toNat) (by
        by_cases q : l2 ≤ l5 + 1
        · rw [if_pos q]; exact Or.inl ⟨q, rfl⟩
        · rw [if_neg q]; exact Or.inr ⟨q, rfl⟩) 6 l4 0 hi h0 (by omega)
      by_cases p : (l4 = 1 ∧ (∀ j : Int, 0 ≤ j → j < l5 → s 248 j.toNat ≠ s 248 l5.toNat) ∧ ¬ s 248 l5.toNat < s 248 0 ∧ ri_n s (s 248 l5.toNat) (s 248 (if l2 ≤ l5 + 1 then 0 else (l5 + 1).toNat)))
      · rw [k.1 p]
        obtain ⟨w1, w2⟩ := ih s l2 1 (l5 + 1) (Or.inr rfl) (by omega) (by omega) h5 (by omega)
        refine ⟨w1, ?_⟩
        rcases w2 with w | w
        · exact Or.inl w
        · refine Or.inr ⟨p.1, fun i i1 i2 => ?_⟩
          by_cases y : i = l5
          · rw [y]; exact p.2.2.2
          · exact w.2 i (by omega) i2
      · rw [k.2 p]
        obtain ⟨w1, w2⟩ := ih s l2 0 (l5 + 1) (Or.inl rfl) (by omega) (by omega) h5 (by omega)
        refine ⟨w1, ?_⟩
        rcases w2 with w | w
        · exact Or.inl w
        · exact absurd w.1 (by decide)
theorem ri_7 (n : Nat) : ∀ (s : sg_S) (l2 l3 l4 : Int), 1 ≤ s 234 7 → -1 ≤ l4 → l4 + 1 < (n : Int) → (∀ j : Nat, l4 < (j : Int) → (j : Int) < l2 → 0 ≤ s 248 j ∧ s 248 j < s 234 7) → ∃ s', dc_R_isRing_7 n s l2 l3 l4 = dc_R_isRing_44 6 s' l2 1 0 ∧ (∀ j : Nat, (j : Int) < l2 → 0 ≤ s' 248 j ∧ s' 248 j < s 234 7) ∧ (∀ c k, c ≠ 248 → s' c k = s c k) := by
  induction n with
  | zero => intro s l2 l3 l4 _ h hn; exact absurd hn (by omega)
  | succ n ih =>
    intro s l2 l3 l4 hw h4 hn hd
    rw [dc_R_isRing_7_s]
    by_cases c : l4 < 0
    · rw [if_pos c]
      exact ⟨s, rfl, fun j hj => hd j (by omega) hj, fun _ _ _ => rfl⟩
    · rw [if_neg c]
      have e7 : sg_up s 248 l4.toNat (l3 % s 234 7) 234 7 = s 234 7 := sg_na (by decide) _ _ _
      have m0 := Int.emod_nonneg l3 (show s 234 7 ≠ 0 by omega)
      have m1 := Int.emod_lt_of_pos l3 (show 0 < s 234 7 by omega)
      obtain ⟨s', r1, r2, r3⟩ := ih (sg_up s 248 l4.toNat (l3 % s 234 7)) l2 (l3 / s 234 7) (l4 + (-1)) (by rw [e7]; exact hw) (by omega) (by omega) (fun j j1 j2 => by
        rw [e7]
        by_cases q : j = l4.toNat
        · rw [q, sg_eq]; exact ⟨m0, m1⟩
        · rw [sg_nk q]; exact hd j (by omega) j2)
      rw [e7] at r2
      exact ⟨s', r1, r2, fun c k hc => by rw [r3 c k hc, sg_na hc]⟩
/-- no ring where nobody can swap -/
theorem ri_none {t : sg_S} (hw : 1 ≤ t 234 7) (hn : ∀ x y : Int, 0 ≤ x → x < t 234 7 → 0 ≤ y → y < t 234 7 → ri_n t x y → ¬ ri_n t y x) (l1 : Int) {l3 : Int} (l31 : 1 ≤ l3) (l35 : l3 ≤ 5) : (dc_R_isRing t l1 l3).2 = 0 := by
  obtain ⟨s', r1, r2, r3⟩ := ri_7 6 t l3 l1 (l3 - 1) hw (by omega) (by omega) (fun j j1 j2 => absurd j1 (by omega))
  have r1' : dc_R_isRing t l1 l3 = dc_R_isRing_44 6 s' l3 1 0 := r1
  have en : ∀ x y, ri_n s' x y ↔ ri_n t x y := fun x y => by
    unfold ri_n
    rw [r3 235 _ (by decide), r3 235 _ (by decide)]
  rw [r1']
  rcases (ri_44 6 s' l3 1 0 (Or.inr rfl) (by omega) (by omega) l35 (by omega)).2 with w | w
  · exact w
  · exfalso
    have down : ∀ i : Nat, (i : Int) < l3 → ¬ ri_n t (s' 248 i) (s' 248 0) := fun i => by
      induction i with
      | zero => intro _; exact ri_rf _ _
      | succ i ih =>
        intro hi
        have a := w.2 (i : Int) (by omega) (by omega)
        rw [if_neg (by omega), Int.toNat_natCast, show ((i : Int) + 1).toNat = i + 1 by omega, en] at a
        have b0 := r2 i (by omega)
        have b1 := r2 (i + 1) (by omega)
        exact ri_tr (hn _ _ b0.1 b0.2 b1.1 b1.2 a) (ih (by omega))
    have a := w.2 (l3 - 1) (by omega) (by omega)
    rw [if_pos (by omega), en] at a
    exact down (l3 - 1).toNat (by omega) a
/-- a ring of two -/
def ri_p (t : sg_S) (x y : Int) : Prop := x < y ∧ ri_n t x y ∧ ri_n t y x
theorem ri_two {t : sg_S} (l4 : Int) : (ri_p t (l4 / t 234 7 % t 234 7) (l4 % t 234 7) → (dc_R_isRing t l4 2).2 = 1) ∧ (¬ ri_p t (l4 / t 234 7 % t 234 7) (l4 % t 234 7) → (dc_R_isRing t l4 2).2 = 0) ∧ (dc_R_isRing t l4 2).1 248 0 = l4 / t 234 7 % t 234 7 ∧ (dc_R_isRing t l4 2).1 248 1 = l4 % t 234 7 := by
  have e7 : ∀ v, sg_up t 248 1 v 234 7 = t 234 7 := fun v => sg_na (by decide) _ _ _
  have e : dc_R_isRing t l4 2 = dc_R_isRing_44 6 (sg_up (sg_up t 248 1 (l4 % t 234 7)) 248 0 (l4 / t 234 7 % t 234 7)) 2 1 0 := by
    show dc_R_isRing_7 6 t 2 l4 (2 - 1) = _
    rw [dc_R_isRing_7_s, if_neg (by decide), dc_R_isRing_7_s, if_neg (by decide), dc_R_isRing_7_s, if_pos (by decide)]
    rw [show ((2 - 1 : Int)).toNat = 1 by decide, show ((2 - 1 + -1 : Int)).toNat = 0 by decide, e7]
  have d0 : sg_up (sg_up t 248 1 (l4 % t 234 7)) 248 0 (l4 / t 234 7 % t 234 7) 248 0 = l4 / t 234 7 % t 234 7 := sg_eq _ _ _ _
  have d1 : sg_up (sg_up t 248 1 (l4 % t 234 7)) 248 0 (l4 / t 234 7 % t 234 7) 248 1 = l4 % t 234 7 := by rw [sg_nk (by decide), sg_eq]
  have en : ∀ x y, ri_n (sg_up (sg_up t 248 1 (l4 % t 234 7)) 248 0 (l4 / t 234 7 % t 234 7)) x y ↔ ri_n t x y := fun x y => by
    unfold ri_n
    rw [sg_na (by decide), sg_na (by decide), sg_na (by decide), sg_na (by decide)]
  rw [e]
  generalize sg_up (sg_up t 248 1 (l4 % t 234 7)) 248 0 (l4 / t 234 7 % t 234 7) = s at d0 d1 en ⊢
  have f1 := (ri_44 6 s 2 1 0 (Or.inr rfl) (by omega) (by omega) (by omega) (by omega)).1
  rw [f1]
  have k0 := ri_53 (dc_R_isRing_44 5) s 2 0 1 (Or.inr ⟨by decide, by decide⟩) 6 1 0 (Or.inr rfl) (by omega) (by omega)
  have k1 := ri_53 (dc_R_isRing_44 4) s 2 1 0 (Or.inl ⟨by decide, by decide⟩) 6 1 0 (Or.inr rfl) (by omega) (by omega)
  have z0 : (dc_R_isRing_44 5 s 2 0 1).2 = 0 := by
    rcases (ri_44 5 s 2 0 1 (Or.inl rfl) (by omega) (by omega) (by omega) (by omega)).2 with w | w
    · exact w
    · exact absurd w.1 (by decide)
  rw [show ((0 : Int)).toNat = 0 by decide, d0, d1, en] at k0
  rw [show ((1 : Int)).toNat = 1 by decide, d0, d1, en] at k1
  have s6 : dc_R_isRing_44 6 s 2 1 0 = dc_R_isRing_53 (dc_R_isRing_44 5) 6 s 2 1 0 0 := by rw [dc_R_isRing_44_s, if_neg (by decide)]
  have s5 : dc_R_isRing_44 5 s 2 1 (0 + 1) = dc_R_isRing_53 (dc_R_isRing_44 4) 6 s 2 1 1 0 := by rw [dc_R_isRing_44_s, if_neg (by decide)]; rfl
  have s4 : ∀ v : Int, dc_R_isRing_44 4 s 2 v (1 + 1) = (s, v) := fun v => by rw [dc_R_isRing_44_s, if_pos (by decide)]
  refine ⟨fun p => ?_, fun p => ?_, d0, d1⟩
  · obtain ⟨p1, p2, p3⟩ := p
    have g1 : ∀ j : Int, 0 ≤ j → j < 1 → s 248 j.toNat ≠ l4 % t 234 7 := fun j j1 j2 => by
      rw [show j.toNat = 0 by omega, d0]
      omega
    rw [s6, k0.1 ⟨rfl, fun j j1 j2 => absurd j1 (by omega), by omega, p2⟩, s5, k1.1 ⟨rfl, g1, by omega, p3⟩, s4]
  · rw [s6]
    by_cases q : ri_n t (l4 / t 234 7 % t 234 7) (l4 % t 234 7)
    · have g1 : ¬ ((1 : Int) = 1 ∧ (∀ j : Int, 0 ≤ j → j < 1 → s 248 j.toNat ≠ l4 % t 234 7) ∧ ¬ l4 % t 234 7 < l4 / t 234 7 % t 234 7 ∧ ri_n t (l4 % t 234 7) (l4 / t 234 7 % t 234 7)) := fun w => by
        have w1 := w.2.1 0 (by omega) (by omega)
        rw [show ((0 : Int)).toNat = 0 by decide, d0] at w1
        have w2 := w.2.2.1
        exact p ⟨by omega, q, w.2.2.2⟩
      rw [k0.1 ⟨rfl, fun j j1 j2 => absurd j1 (by omega), by omega, q⟩, s5, k1.2 g1, s4]
    · rw [k0.2 (fun w => q w.2.2.2)]
      exact z0
/-! the class's pairs -/
theorem ri_hn {s t : sg_S} (ht : sv t) (h : r2 s t) {x y : Int} (x0 : 0 ≤ x) (x1 : x < t 234 7) (y0 : 0 ≤ y) (y1 : y < t 234 7) : dc_St_hasNewFor s x y = 0 ↔ ¬ ri_n t x y := by
  have b5 := (st_b_of ht).2.2.2.1
  have e : dc_St_hasNewFor s x y = dc_R_canGive t x y := by
    unfold dc_St_hasNewFor dc_R_canGive
    rw [r2_kn h.1 x0 x1 (by omega), r2_kn h.1 y0 y1 (by omega)]
  rw [e]
  exact ri_cg t x y
theorem ri_C17 {s t : sg_S} (ht : sv t) (h : r2 s t) (k2 : sg_S → Int → Int → Int) (i : Int) {a : Int} (a0 : 0 ≤ a) (a1 : a < t 234 7) (n : Nat) : ∀ b : Int, a < b → b ≤ t 234 7 → t 234 7 - b < (n : Int) → (∀ y, b ≤ y → y < t 234 7 → ¬ ri_p t a y) → dc_C_ring_17 k2 n s i a b = k2 s i (a + 1) := by
  induction n with
  | zero => intro b _ hb hn; exact absurd hn (by omega)
  | succ n ih =>
    intro b b0 b1 hn hp
    rw [dc_C_ring_17_s, r2_sweeps h]
    by_cases c : t 234 7 ≤ b
    · rw [if_pos c]
    · rw [if_neg c]
      have k := ih (b + 1) (by omega) (by omega) (by omega) (fun y y0 y1 => hp y (by omega) y1)
      by_cases p : dc_St_hasNewFor s a b = 0
      · rw [if_pos p]; exact k
      · rw [if_neg p]
        by_cases q : dc_St_hasNewFor s b a = 0
        · rw [if_pos q]; exact k
        · exact absurd ⟨b0, Classical.not_not.mp (fun w => p ((ri_hn ht h a0 a1 (by omega) (by omega)).mpr w)), Classical.not_not.mp (fun w => q ((ri_hn ht h (by omega) (by omega) a0 a1).mpr w))⟩ (hp b (Int.le_refl _) (by omega))
theorem ri_C17h {s t : sg_S} (ht : sv t) (h : r2 s t) (k2 : sg_S → Int → Int → Int) (i : Int) {a d : Int} (a0 : 0 ≤ a) (a1 : a < t 234 7) (d1 : d < t 234 7) (hd : ri_p t a d) (n : Nat) : ∀ b : Int, a < b → b ≤ d → d - b < (n : Int) → (∀ y, b ≤ y → y < d → ¬ ri_p t a y) → dc_C_ring_17 k2 n s i a b = dc_C_ofPair s a d i := by
  induction n with
  | zero => intro b _ hb hn; exact absurd hn (by omega)
  | succ n ih =>
    intro b b0 b1 hn hp
    rw [dc_C_ring_17_s, r2_sweeps h, if_neg (show ¬ t 234 7 ≤ b by omega)]
    by_cases c : b = d
    · rw [c, if_neg (fun w => (ri_hn ht h a0 a1 (by omega) d1).mp w hd.2.1), if_neg (fun w => (ri_hn ht h (by omega) d1 a0 a1).mp w hd.2.2)]
    · have k := ih (b + 1) (by omega) (by omega) (by omega) (fun y y0 y1 => hp y (by omega) y1)
      by_cases p : dc_St_hasNewFor s a b = 0
      · rw [if_pos p]; exact k
      · rw [if_neg p]
        by_cases q : dc_St_hasNewFor s b a = 0
        · rw [if_pos q]; exact k
        · exact absurd ⟨b0, Classical.not_not.mp (fun w => p ((ri_hn ht h a0 a1 (by omega) (by omega)).mpr w)), Classical.not_not.mp (fun w => q ((ri_hn ht h (by omega) (by omega) a0 a1).mpr w))⟩ (hp b (Int.le_refl _) (by omega))
theorem ri_C2n {s t : sg_S} (ht : sv t) (h : r2 s t) (i : Int) (hp : ∀ x y, 0 ≤ x → x < t 234 7 → y < t 234 7 → ¬ ri_p t x y) (n : Nat) : ∀ a : Int, 0 ≤ a → a ≤ t 234 7 → t 234 7 - a < (n : Int) → dc_C_ring_2 n s i a = -1 := by
  have b5 := (st_b_of ht).2.2.2.1
  induction n with
  | zero => intro a _ ha hn; exact absurd hn (by omega)
  | succ n ih =>
    intro a a0 a1 hn
    rw [dc_C_ring_2_s, r2_sweeps h]
    by_cases c : t 234 7 ≤ a
    · rw [if_pos c]
    · rw [if_neg c, ri_C17 ht h (dc_C_ring_2 n) i a0 (by omega) 6 (a + 1) (by omega) (by omega) (by omega) (fun y _ y1 => hp a y a0 (by omega) y1)]
      exact ih (a + 1) (by omega) (by omega) (by omega)
theorem ri_C2 {s t : sg_S} (ht : sv t) (h : r2 s t) (i : Int) {p d : Int} (p1 : p < t 234 7) (d1 : d < t 234 7) (hd : ri_p t p d) (hp : ∀ x y, 0 ≤ x → x < p → y < t 234 7 → ¬ ri_p t x y) (hq : ∀ y, p < y → y < d → ¬ ri_p t p y) (n : Nat) : ∀ a : Int, 0 ≤ a → a ≤ p → p - a < (n : Int) → dc_C_ring_2 n s i a = dc_C_ofPair s p d i := by
  have b5 := (st_b_of ht).2.2.2.1
  have hpd := hd.1
  induction n with
  | zero => intro a _ ha hn; exact absurd hn (by omega)
  | succ n ih =>
    intro a a0 a1 hn
    rw [dc_C_ring_2_s, r2_sweeps h, if_neg (show ¬ t 234 7 ≤ a by omega)]
    by_cases c : a = p
    · subst c
      exact ri_C17h ht h _ i a0 p1 d1 hd 6 (a + 1) (by omega) (by omega) (by omega) (fun y y0 y1 => hq y (by omega) y1)
    · rw [ri_C17 ht h (dc_C_ring_2 n) i a0 (by omega) 6 (a + 1) (by omega) (by omega) (by omega) (fun y _ y1 => hp a y a0 (by omega) y1)]
      exact ih (a + 1) (by omega) (by omega) (by omega)
/-! the reference's walk -/
def ri_R (t0 t : sg_S) : Prop := (∀ k, t 234 k = t0 234 k) ∧ ∀ k, t 235 k = t0 235 k
theorem ri_nx {t0 t : sg_S} (h : ri_R t0 t) (a b : Int) : ri_R t0 (dc_R_isRing t a b).1 := ⟨fun k => by rw [dr_R_isRing t _ _ 234 k rfl]; exact h.1 k, fun k => by rw [dr_R_isRing t _ _ 235 k rfl]; exact h.2 k⟩
theorem ri_Rn {t0 t : sg_S} (h : ri_R t0 t) (x y : Int) : ri_n t x y ↔ ri_n t0 x y := by
  unfold ri_n
  rw [h.2, h.2]
theorem ri_Rp {t0 t : sg_S} (h : ri_R t0 t) (x y : Int) : ri_p t x y ↔ ri_p t0 x y := by
  unfold ri_p
  rw [ri_Rn h, ri_Rn h]
theorem ri_25n {t0 : sg_S} (hw : 1 ≤ t0 234 7) (hn : ∀ x y : Int, 0 ≤ x → x < t0 234 7 → 0 ≤ y → y < t0 234 7 → ri_n t0 x y → ¬ ri_n t0 y x) (k7 : sg_S → Int → Int → Int → sg_S × Int) (i L : Int) {l3 : Int} (l31 : 1 ≤ l3) (l35 : l3 ≤ 5) (n : Nat) : ∀ (t : sg_S) (l4 : Int), ri_R t0 t → l4 ≤ L → L - l4 < (n : Int) → ∃ t', dc_R_ring_25 k7 n t i L l3 l4 = k7 t' i L (l3 + 1) ∧ ri_R t0 t' := by
  induction n with
  | zero => intro t l4 _ h hm; exact absurd hm (by omega)
  | succ n ih =>
    intro t l4 hR h4 hm
    rw [dc_R_ring_25_s]
    by_cases c : L ≤ l4
    · rw [if_pos c]
      exact ⟨t, rfl, hR⟩
    · rw [if_neg c, if_pos (ri_none (t := t) (by rw [hR.1]; exact hw) (fun x y x0 x1 y0 y1 => by
        rw [hR.1] at x1 y1
        rw [ri_Rn hR, ri_Rn hR]
        exact hn x y x0 x1 y0 y1) l4 l31 l35)]
      exact ih _ (l4 + 1) (ri_nx hR _ _) (by omega) (by omega)
theorem ri_7n {t0 : sg_S} (hw : 1 ≤ t0 234 7) (h5 : t0 234 7 ≤ 5) (hn : ∀ x y : Int, 0 ≤ x → x < t0 234 7 → 0 ≤ y → y < t0 234 7 → ri_n t0 x y → ¬ ri_n t0 y x) (i : Int) (n : Nat) : ∀ (t : sg_S) (L l3 : Int), ri_R t0 t → 0 ≤ L → ((l3 = 2 ∧ L ≤ 5) ∨ (l3 = 3 ∧ L ≤ 25) ∨ (l3 = 4 ∧ L ≤ 125) ∨ (l3 = 5 ∧ L ≤ 625) ∨ l3 = 6) → 6 - l3 < (n : Int) → (dc_R_ring_7 n t i L l3).2 = -1 := by
  induction n with
  | zero => intro t L l3 _ _ h hm; exact absurd hm (by omega)
  | succ n ih =>
    intro t L l3 hR L0 hL hm
    rw [dc_R_ring_7_s, hR.1]
    by_cases c : t0 234 7 < l3
    · rw [if_pos c]
    · rw [if_neg c]
      have m := sg_mul5 L (t0 234 7) L0 (by omega) h5
      obtain ⟨t', r1, r2⟩ := ri_25n hw hn (dc_R_ring_7 n) i (L * t0 234 7) (l3 := l3) (by omega) (by omega) 3126 t 0 hR m.1 (by omega)
      rw [r1]
      exact ih t' _ _ r2 m.1 (by omega) (by omega)
theorem ri_25h {t0 : sg_S} (k7 : sg_S → Int → Int → Int → sg_S × Int) (s0 : sg_S) (i L : Int) {c : Int} (cL : c < L) (hd : ri_p t0 (c / t0 234 7 % t0 234 7) (c % t0 234 7)) (n : Nat) : ∀ (t : sg_S) (l4 : Int), ri_R t0 t → l4 ≤ c → c - l4 < (n : Int) → (∀ k, l4 ≤ k → k < c → ¬ ri_p t0 (k / t0 234 7 % t0 234 7) (k % t0 234 7)) → (dc_R_ring_25 k7 n t i L 2 l4).2 = dc_C_ofPair s0 (c / t0 234 7 % t0 234 7) (c % t0 234 7) i := by
  induction n with
  | zero => intro t l4 _ h hm; exact absurd hm (by omega)
  | succ n ih =>
    intro t l4 hR h4 hm hk
    rw [dc_R_ring_25_s, if_neg (show ¬ L ≤ l4 by omega)]
    have w := ri_two (t := t) l4
    rw [hR.1, ri_Rp hR] at w
    by_cases q : l4 = c
    · rw [q] at w ⊢
      have w1 := w.1 hd
      rw [if_neg (show ¬ (dc_R_isRing t c 2).2 = 0 by omega)]
      unfold dc_C_ofPair
      by_cases i1 : i = -1
      · rw [if_pos i1, if_pos i1]
      · rw [if_neg i1, if_neg i1]
        by_cases i2 : i = 0
        · rw [if_neg (eq_in1 ⟨by omega, by omega⟩), if_pos i2, i2]
          exact w.2.2.1
        · rw [if_neg i2]
          by_cases i3 : i = 1
          · rw [if_neg (eq_in1 ⟨by omega, by omega⟩), if_pos i3, i3]
            exact w.2.2.2
          · rw [if_neg i3, if_pos (eq_in0 (by omega))]
    · rw [if_pos (w.2.1 (hk l4 (Int.le_refl _) (by omega)))]
      exact ih _ (l4 + 1) (ri_nx hR _ _) (by omega) (by omega) (fun k k0 k1 => hk k (by omega) k1)
theorem ri_min (P : Nat → Prop) (n : Nat) : P n → ∃ m, P m ∧ ∀ k, k < m → ¬ P k := by
  induction n using Nat.strongRecOn with
  | _ n ih =>
    intro h
    by_cases c : ∃ k, k < n ∧ P k
    · obtain ⟨k, k1, k2⟩ := c
      exact ih k k1 k2
    · exact ⟨n, h, fun k hk hp => c ⟨k, hk, hp⟩⟩
theorem ri_cd {W x y : Int} (w1 : 1 ≤ W) (w5 : W ≤ 5) (x0 : 0 ≤ x) (x1 : x < W) (y0 : 0 ≤ y) (y1 : y < W) : 0 ≤ x * W + y ∧ x * W + y < W * W ∧ (x * W + y) / W % W = x ∧ (x * W + y) % W = y := by
  have h : W = 1 ∨ W = 2 ∨ W = 3 ∨ W = 4 ∨ W = 5 := by omega
  rcases h with rfl | rfl | rfl | rfl | rfl <;> omega
theorem ri_lt {W c x y : Int} (w1 : 1 ≤ W) (w5 : W ≤ 5) (c0 : 0 ≤ c) (c1 : c < W * W) (x0 : 0 ≤ x) (y0 : 0 ≤ y) (y1 : y < W) (h : x < c / W % W ∨ (x = c / W % W ∧ y < c % W)) : x * W + y < c := by
  have h : W = 1 ∨ W = 2 ∨ W = 3 ∨ W = 4 ∨ W = 5 := by omega
  rcases h with rfl | rfl | rfl | rfl | rfl <;> omega
theorem an_ring {s t : sg_S} (ht : sv t) (h : r2 s t) (i : Int) : dc_C_ring s i = (dc_R_ring t i).2 := by
  have b := st_b_of ht
  have w0 := b.2.2.1
  have w5 := b.2.2.2.1
  have hR : ri_R t t := ⟨fun _ => rfl, fun _ => rfl⟩
  show dc_C_ring_2 6 s i 0 = (dc_R_ring_7 6 t i (t 234 7) 2).2
  by_cases c : ∃ n : Nat, (n : Int) < t 234 7 * t 234 7 ∧ ri_p t ((n : Int) / t 234 7 % t 234 7) ((n : Int) % t 234 7)
  · obtain ⟨n, hn⟩ := c
    obtain ⟨m, ⟨m1, m2⟩, m3⟩ := ri_min (fun n : Nat => (n : Int) < t 234 7 * t 234 7 ∧ ri_p t ((n : Int) / t 234 7 % t 234 7) ((n : Int) % t 234 7)) n hn
    have w1 : 1 ≤ t 234 7 := by
      by_cases z : t 234 7 = 0
      · rw [z] at m1
        omega
      · omega
    have p0 := Int.emod_nonneg ((m : Int) / t 234 7) (show t 234 7 ≠ 0 by omega)
    have p1 := Int.emod_lt_of_pos ((m : Int) / t 234 7) (show 0 < t 234 7 by omega)
    have q0 := Int.emod_nonneg (m : Int) (show t 234 7 ≠ 0 by omega)
    have q1 := Int.emod_lt_of_pos (m : Int) (show 0 < t 234 7 by omega)
    have less : ∀ x y : Int, 0 ≤ x → x < t 234 7 → y < t 234 7 → (x < (m : Int) / t 234 7 % t 234 7 ∨ (x = (m : Int) / t 234 7 % t 234 7 ∧ y < (m : Int) % t 234 7)) → ¬ ri_p t x y := fun x y x0 x1 y1 hl hp => by
      have hxy := hp.1
      have k := ri_cd w1 w5 x0 x1 (show 0 ≤ y by omega) y1
      have l := ri_lt w1 w5 (show 0 ≤ (m : Int) by omega) m1 x0 (show 0 ≤ y by omega) y1 hl
      refine m3 (x * t 234 7 + y).toNat (by omega) ?_
      rw [Int.toNat_of_nonneg k.1, k.2.2.1, k.2.2.2]
      exact ⟨k.2.1, hp⟩
    have hpq := m2.1
    rw [ri_C2 ht h i p1 q1 m2 (fun x y x0 x1 y1 => less x y x0 (by omega) y1 (Or.inl x1)) (fun y y0 y1 => less _ y p0 p1 (by omega) (Or.inr ⟨rfl, y1⟩)) 6 0 (by omega) p0 (by omega)]
    rw [dc_R_ring_7_s, if_neg (by omega)]
    have mm := sg_mul5 (t 234 7) (t 234 7) w0 w0 w5
    refine (ri_25h (dc_R_ring_7 5) s i (t 234 7 * t 234 7) m1 m2 3126 t 0 hR (by omega) (by omega) (fun k k0 k1 hp => ?_)).symm
    refine m3 k.toNat (by omega) ?_
    rw [Int.toNat_of_nonneg k0]
    exact ⟨by omega, hp⟩
  · have none : ∀ x y, 0 ≤ x → x < t 234 7 → y < t 234 7 → ¬ ri_p t x y := fun x y x0 x1 y1 hp => c (by
      have hxy := hp.1
      have k := ri_cd (show 1 ≤ t 234 7 by omega) w5 x0 x1 (show 0 ≤ y by omega) y1
      refine ⟨(x * t 234 7 + y).toNat, ?_⟩
      rw [Int.toNat_of_nonneg k.1, k.2.2.1, k.2.2.2]
      exact ⟨k.2.1, hp⟩)
    rw [ri_C2n ht h i none 6 0 (by omega) w0 (by omega)]
    by_cases z : t 234 7 < 2
    · rw [dc_R_ring_7_s, if_pos z]
    · refine (ri_7n (by omega) w5 (fun x y x0 x1 y0 y1 a1 a2 => ?_) i 6 t (t 234 7) 2 hR w0 (Or.inl ⟨rfl, w5⟩) (by omega)).symm
      by_cases q : x < y
      · exact none x y x0 x1 y1 ⟨q, a1, a2⟩
      · by_cases q2 : y < x
        · exact none y x y0 y1 x1 ⟨q2, a2, a1⟩
        · rw [show x = y by omega] at a1
          exact ri_rf t y a1
