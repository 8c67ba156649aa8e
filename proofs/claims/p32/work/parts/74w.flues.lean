/-! WHERE SOOT LIES -/
theorem yo_c (a b : Int) : sy_or a b = sy_or b a := by
  unfold sy_or
  rw [Int32.or_comm]
theorem yo_a (a b c : Int) : sy_or (sy_or a b) c = sy_or a (sy_or b c) := by
  unfold sy_or
  rw [Int32.ofInt_toInt, Int32.ofInt_toInt, Int32.or_assoc]
theorem yo_0 {a : Int} (h : -2147483648 ≤ a ∧ a ≤ 2147483647) : sy_or a 0 = a := by
  unfold sy_or
  rw [show Int32.ofInt 0 = 0 from rfl, Int32.or_zero]
  exact sy_toInt h
theorem re_ch {s t : sg_S} (ht : sv t) (g : t 234 6 ≤ 0 ∨ t 235 11 = -1) (h : r2 s t) (n : Nat) : ∀ (m : Nat) (x f l4 : Int), -1 ≤ f → f < t 234 6 → 0 ≤ l4 → f + l4 ≤ 8 → 9 - l4 < (n : Int) → f + 1 < (m : Int) → dc_St_down_7 n s x f l4 = dc_R_sootOf_23 m t x f := by
  have b9 := (st_b_of ht).2.1
  induction n with
  | zero => intro m x f l4 _ _ _ _ hn _; exact absurd hn (by omega)
  | succ n ih =>
    intro m x f l4 f0 f1 l0 fl hn hm
    cases m with
    | zero => exact absurd hm (by omega)
    | succ m =>
      rw [dc_St_down_7_s, dc_R_sootOf_23_s]
      by_cases c : f = -1
      · rw [if_pos c]
        by_cases q : 9 ≤ l4
        · rw [if_pos q]
        · rw [if_neg q, if_pos (by omega)]
      · have hi := mo_into ht g (f := f) (by omega) f1 (by omega)
        have e := an_into ht h (a := f) (by omega) f1
        rw [if_neg c, if_neg (show ¬ 9 ≤ l4 by omega), if_neg (show ¬ f < 0 by omega), if_neg (show ¬ 9 ≤ f by omega), e]
        rw [show (11 + f).toNat = 11 + f.toNat by omega]
        exact ih m _ _ _ hi.1 (by omega) (by omega) (by omega) (by omega) (by omega)
theorem re_sp {t : sg_S} (ht : sv t) (g : t 234 6 ≤ 0 ∨ t 235 11 = -1) (m : Nat) : ∀ (x y f : Int), -1 ≤ f → f < t 234 6 → f + 1 < (m : Int) → dc_R_sootOf_23 m t (sy_or x y) f = sy_or x (dc_R_sootOf_23 m t y f) := by
  have b9 := (st_b_of ht).2.1
  induction m with
  | zero => intro x y f _ _ hm; exact absurd hm (by omega)
  | succ m ih =>
    intro x y f f0 f1 hm
    rw [dc_R_sootOf_23_s, dc_R_sootOf_23_s]
    by_cases c : f = -1
    · rw [if_pos c, if_pos c]
    · have hi := mo_into ht g (f := f) (by omega) f1 (by omega)
      rw [if_neg c, if_neg c, yo_a, show (11 + f).toNat = 11 + f.toNat by omega]
      exact ih _ _ _ hi.1 (by omega) (by omega)
theorem an_reach {s t : sg_S} (ht : sv t) (g : t 234 6 ≤ 0 ∨ t 235 11 = -1) (h : r2 s t) {a : Int} (h0 : 0 ≤ a) (h1 : a < t 234 6) : dc_St_reach s a = dc_R_sootOf t a := by
  have b9 := (st_b_of ht).2.1
  obtain ⟨n1, n2⟩ := mo_nb (s := s) (t := t) h.2.2.2.2.2.2.1 (r2_houses h) a
  have e : dc_St_down s a = dc_R_sootOf_23 10 t 0 a := re_ch ht g h 10 10 0 a 0 (by omega) h1 (by omega) (by omega) (by omega) (by omega)
  unfold dc_St_reach dc_R_sootOf
  rw [n1, e]
  by_cases c : dc_R_blownTo t a = -1
  · rw [if_neg (by omega), if_pos c]
  · rw [if_pos (by omega), if_neg c]
    have hs := sg_shl9 (dc_R_blownTo t a) (by omega) (by omega)
    have := re_sp ht g 10 (sy_shl 1 (dc_R_blownTo t a)) 0 a (by omega) h1 (by omega)
    rw [yo_0 ⟨by omega, by omega⟩] at this
    rw [this, yo_c]
/-! flues that are alike -/
theorem an_lay {s t : sg_S} (ht : sv t) (h : r2 s t) (s0 : sg_S) {a l : Int} (h0 : 0 ≤ a) (h1 : a < t 234 6) (l0 : 0 ≤ l) (l7 : l ≤ 7) : dc_Soot_fromOldest s0 (s 14 a.toNat) l = dc_R_layerAt t 0 a l := by
  obtain ⟨e, m, f⟩ := fl_lay ht h.1 (x := a.toNat) (by omega)
  have f' : ∀ l, l < (t 235 (20 + a.toNat)).toNat → 0 ≤ t 235 (29 + 8 * a.toNat + l) ∧ t 235 (29 + 8 * a.toNat + l) ≤ 7 := fun l hl => by have := f l hl; omega
  have b := so_24 (f := fun l => t 235 (29 + 8 * a.toNat + l)) (m := (t 235 (20 + a.toNat)).toNat) (by omega) f'
  unfold dc_Soot_fromOldest dc_R_layerAt
  rw [fl_cnt ht h.1 s0 (by omega), show ((0 + 20 : Int) + a).toNat = 20 + a.toNat by omega]
  by_cases c : t 235 (20 + a.toNat) ≤ l
  · rw [if_neg (by omega), if_pos c]
  · rw [if_pos (by omega), if_neg c, e, so_new s0 b.1 b.2 (by omega) (by omega)]
    have := so_dig (f := fun l => t 235 (29 + 8 * a.toNat + l)) (t 235 (20 + a.toNat) - 1 - l).toNat (t 235 (20 + a.toNat)).toNat f' (by omega)
    rw [this, show ((0 + 29 : Int) + 8 * a + l).toNat = 29 + 8 * a.toNat + ((t 235 (20 + a.toNat)).toNat - 1 - (t 235 (20 + a.toNat) - 1 - l).toNat) by omega]
theorem li_eq {s t : sg_S} (ht : sv t) (h : r2 s t) {x y : Int} (x0 : 0 ≤ x) (x1 : x < t 234 6) (y0 : 0 ≤ y) (y1 : y < t 234 6) : s 14 x.toNat = s 14 y.toNat ↔ ∀ l : Int, 0 ≤ l → l < 8 → dc_R_layerAt t 0 x l = dc_R_layerAt t 0 y l := by
  constructor
  · intro e l l0 l8
    rw [← an_lay ht h s x0 x1 l0 (by omega), ← an_lay ht h s y0 y1 l0 (by omega), e]
  · intro e
    obtain ⟨e1, m1, f1⟩ := fl_lay ht h.1 (x := x.toNat) (by omega)
    obtain ⟨e2, m2, f2⟩ := fl_lay ht h.1 (x := y.toNat) (by omega)
    have la : ∀ (z : Int), 0 ≤ z → ∀ l : Int, 0 ≤ l → dc_R_layerAt t 0 z l = if t 235 (20 + z.toNat) ≤ l then 0 else t 235 (29 + 8 * z.toNat + l.toNat) := fun z z0 l l0 => by
      unfold dc_R_layerAt
      rw [show ((0 + 20 : Int) + z).toNat = 20 + z.toNat by omega, show ((0 + 29 : Int) + 8 * z + l).toNat = 29 + 8 * z.toNat + l.toNat by omega]
    have em : t 235 (20 + x.toNat) = t 235 (20 + y.toNat) := by
      by_cases c : t 235 (20 + x.toNat) < t 235 (20 + y.toNat)
      · have q := e (t 235 (20 + x.toNat)) m1.1 (by omega)
        rw [la x x0 _ m1.1, la y y0 _ m1.1, if_pos (Int.le_refl _), if_neg (by omega)] at q
        have := f2 (t 235 (20 + x.toNat)).toNat (by omega)
        omega
      · by_cases c2 : t 235 (20 + y.toNat) < t 235 (20 + x.toNat)
        · have q := e (t 235 (20 + y.toNat)) m2.1 (by omega)
          rw [la x x0 _ m2.1, la y y0 _ m2.1, if_neg (by omega), if_pos (Int.le_refl _)] at q
          have := f1 (t 235 (20 + y.toNat)).toNat (by omega)
          omega
        · omega
    rw [e1, e2, em]
    refine st_e_congr _ (fun l hl => ?_)
    have q := e (l : Int) (by omega) (by omega)
    rw [la x x0 _ (by omega), la y y0 _ (by omega), if_neg (by omega), if_neg (by omega)] at q
    exact q
theorem li_18 (k4 : sg_S → Int → Int → Int → Int) (t : sg_S) (a x z : Int) (n : Nat) : ∀ (is l : Int), 0 ≤ l → l ≤ 8 → (is = 0 ∨ is = 1) → 8 - l < (n : Int) → ((is = 1 ∧ ∀ q : Int, l ≤ q → q < 8 → dc_R_layerAt t 0 z q = dc_R_layerAt t 0 a q) → dc_R_likeOf_18 k4 n t a x z is l = k4 t a (sy_or x (sy_shl 1 z)) (z + 1)) ∧ (¬ (is = 1 ∧ ∀ q : Int, l ≤ q → q < 8 → dc_R_layerAt t 0 z q = dc_R_layerAt t 0 a q) → dc_R_likeOf_18 k4 n t a x z is l = k4 t a (sy_or x 0) (z + 1)) := by
  induction n with
  | zero => intro is l _ _ _ hn; exact absurd hn (by omega)
  | succ n ih =>
    intro is l l0 l8 hi hn
    rw [dc_R_likeOf_18_s]
    by_cases c : 8 ≤ l
    · rw [if_pos c]
      constructor
      · intro p; rw [if_neg (by omega)]
      · intro p
        have : is = 0 := by
          rcases hi with q | q
          · exact q
          · exact absurd ⟨q, fun q h1 h2 => absurd h1 (by omega)⟩ p
        rw [if_pos this]
    · rw [if_neg c]
      by_cases z0 : is = 0
      · rw [if_pos z0]
        have k := ih 0 (l + 1) (by omega) (by omega) (Or.inl rfl) (by omega)
        refine ⟨fun p => absurd p.1 (by omega), fun _ => k.2 (fun p => absurd p.1 (by decide))⟩
      · rw [if_neg z0]
        have i1 : is = 1 := by omega
        by_cases e : dc_R_layerAt t 0 z l = dc_R_layerAt t 0 a l
        · rw [if_pos e]
          have k := ih 1 (l + 1) (by omega) (by omega) (Or.inr rfl) (by omega)
          refine ⟨fun p => k.1 ⟨rfl, fun q h1 h2 => p.2 q (by omega) h2⟩, fun p => k.2 (fun w => p ⟨i1, fun q h1 h2 => ?_⟩)⟩
          by_cases y : q = l
          · rw [y]; exact e
          · exact w.2 q (by omega) h2
        · rw [if_neg e]
          have k := ih 0 (l + 1) (by omega) (by omega) (Or.inl rfl) (by omega)
          exact ⟨fun p => absurd (p.2 l (by omega) (by omega)) e, fun _ => k.2 (fun p => absurd p.1 (by decide))⟩
theorem li_4 {s t : sg_S} (ht : sv t) (h : r2 s t) {a : Int} (a0 : 0 ≤ a) (a1 : a < t 234 6) (n : Nat) : ∀ (m : Nat) (x z : Int), 0 ≤ x → x ≤ 511 → 0 ≤ z → z ≤ t 234 6 → t 234 6 - z < (n : Int) → t 234 6 - z < (m : Int) → dc_St_likeOf_5 n s a (t 234 6) x z = dc_R_likeOf_4 m t a x z := by
  have b9 := (st_b_of ht).2.1
  induction n with
  | zero => intro m x z _ _ _ _ hn _; exact absurd hn (by omega)
  | succ n ih =>
    intro m x z x0 x1 z0 z1 hn hm
    cases m with
    | zero => exact absurd hm (by omega)
    | succ m =>
      rw [dc_St_likeOf_5_s, dc_R_likeOf_4_s]
      by_cases c : t 234 6 ≤ z
      · rw [if_pos c, if_pos c]
      · rw [if_neg c, if_neg c]
        have k := li_18 (dc_R_likeOf_4 m) t a x z 9 1 0 (by omega) (by omega) (Or.inr rfl) (by omega)
        have e := li_eq ht h (x := z) (y := a) z0 (by omega) a0 a1
        have hs := sg_shl9 z z0 (by omega)
        have ho := sg_or9 x (sy_shl 1 z) x0 x1 (by omega) (by omega)
        by_cases q : s 14 z.toNat = s 14 a.toNat
        · rw [if_pos q, k.1 ⟨rfl, e.mp q⟩]
          exact ih m _ _ ho.1 ho.2 (by omega) (by omega) (by omega) (by omega)
        · rw [if_neg q, k.2 (fun p => q (e.mpr p.2)), yo_0 ⟨by omega, by omega⟩]
          exact ih m _ _ x0 x1 (by omega) (by omega) (by omega) (by omega)
theorem an_like {s t : sg_S} (ht : sv t) (h : r2 s t) {a : Int} (a0 : 0 ≤ a) (a1 : a < t 234 6) : dc_St_likeOf s a (t 234 6) = dc_R_likeOf t a := by
  have b := st_b_of ht
  have b0 := b.1
  have b9 := b.2.1
  exact li_4 ht h a0 a1 10 10 0 0 (by omega) (by omega) (by omega) (by omega) (by omega) (by omega)
