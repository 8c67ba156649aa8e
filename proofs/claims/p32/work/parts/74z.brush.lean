/-! HOW MANY FLUES HOLD A KIND, and the most feared -/
theorem on_s (n : Nat) : ∀ (s s' : sg_S) (a b c : Int), dc_R_ones_4 n s a b c = dc_R_ones_4 n s' a b c := by
  induction n with
  | zero => intro s s' a b c; rfl
  | succ n ih => intro s s' a b c; rw [dc_R_ones_4_s, dc_R_ones_4_s, ih s s']
theorem on_9 : ∀ n : Nat, n < 512 → dc_R_ones (fun _ _ => 0) (n : Int) = (ba_pop9 n : Int) := by decide +kernel
theorem on_bc (s s' : sg_S) {x : Int} (h0 : 0 ≤ x) (h1 : x ≤ 511) : dc_Integer_bitCount s x = dc_R_ones s' x := by
  have a := ba_bc9 x.toNat (by omega)
  have b := on_9 x.toNat (by omega)
  rw [Int.toNat_of_nonneg h0] at a b
  exact (show dc_Integer_bitCount s x = dc_Integer_bitCount (fun _ _ => 0) x from rfl).trans (a.trans (b.symm.trans (on_s 10 _ _ _ _ _)))
theorem re_bd {s t : sg_S} (ht : sv t) (g : t 234 6 ≤ 0 ∨ t 235 11 = -1) (h : r2 s t) {a : Int} (h0 : 0 ≤ a) (h1 : a < t 234 6) : 0 ≤ dc_R_sootOf t a ∧ dc_R_sootOf t a ≤ 511 := by
  have b9 := (st_b_of ht).2.1
  obtain ⟨n1, n2⟩ := mo_nb (s := s) (t := t) h.2.2.2.2.2.2.1 (r2_houses h) a
  have k := (ch_b ht g 10 a (by omega) h1 (by omega)).1
  unfold ch_f at k
  unfold dc_R_sootOf
  by_cases c : dc_R_blownTo t a = -1
  · rw [if_pos c]; exact k
  · rw [if_neg c]
    have hs := sg_shl9 (dc_R_blownTo t a) (by omega) (by omega)
    have := re_sp ht g 10 (sy_shl 1 (dc_R_blownTo t a)) 0 a (by omega) h1 (by omega)
    rw [yo_0 ⟨by omega, by omega⟩] at this
    rw [this]
    exact sg_or9 _ _ (by omega) (by omega) k.1 k.2
theorem ho_C (s0 : sg_S) (x k : Int) (n : Nat) : ∀ l : Int, 0 ≤ l → l ≤ 8 → 8 - l < (n : Int) → (dc_Soot_holds_2 n s0 x k l = 0 ↔ ∀ q : Int, l ≤ q → q < 8 → dc_Soot_fromNewest s0 x q ≠ k) := by
  induction n with
  | zero => intro l _ _ hn; exact absurd hn (by omega)
  | succ n ih =>
    intro l l0 l8 hn
    rw [dc_Soot_holds_2_s]
    by_cases c : 8 ≤ l
    · rw [if_pos c]
      exact ⟨fun _ q h1 h2 => absurd h1 (by omega), fun _ => rfl⟩
    · rw [if_neg c]
      by_cases e : dc_Soot_fromNewest s0 x l = k
      · rw [if_pos e]
        exact ⟨fun z => absurd z (by decide), fun z => absurd e (z l (Int.le_refl _) (by omega))⟩
      · rw [if_neg e, ih (l + 1) (by omega) (by omega) (by omega)]
        refine ⟨fun z q h1 h2 => ?_, fun z q h1 h2 => z q (by omega) h2⟩
        by_cases y : q = l
        · rw [y]; exact e
        · exact z q (by omega) h2
theorem fn_lay {s t : sg_S} (ht : sv t) (h : r2 s t) (s0 : sg_S) {a q : Int} (h0 : 0 ≤ a) (h1 : a < t 234 6) (q0 : 0 ≤ q) (q7 : q ≤ 7) : dc_Soot_fromNewest s0 (s 14 a.toNat) q = if t 235 (20 + a.toNat) ≤ q then 0 else dc_R_layerAt t 0 a (t 235 (20 + a.toNat) - 1 - q) := by
  obtain ⟨e, m, f⟩ := fl_lay ht h.1 (x := a.toNat) (by omega)
  have f' : ∀ l, l < (t 235 (20 + a.toNat)).toNat → 0 ≤ t 235 (29 + 8 * a.toNat + l) ∧ t 235 (29 + 8 * a.toNat + l) ≤ 7 := fun l hl => by have := f l hl; omega
  have b := so_24 (f := fun l => t 235 (29 + 8 * a.toNat + l)) (m := (t 235 (20 + a.toNat)).toNat) (by omega) f'
  rw [e, so_new s0 b.1 b.2 q0 q7]
  by_cases c : t 235 (20 + a.toNat) ≤ q
  · rw [if_pos c]
    exact so_dig0 f' (by omega)
  · rw [if_neg c]
    have := so_dig (f := fun l => t 235 (29 + 8 * a.toNat + l)) q.toNat (t 235 (20 + a.toNat)).toNat f' (by omega)
    unfold dc_R_layerAt
    rw [this, show ((0 + 20 : Int) + a).toNat = 20 + a.toNat by omega, if_neg (by omega), show ((0 + 29 : Int) + 8 * a + (t 235 (20 + a.toNat) - 1 - q)).toNat = 29 + 8 * a.toNat + ((t 235 (20 + a.toNat)).toNat - 1 - q.toNat) by omega]
theorem ho_eq {s t : sg_S} (ht : sv t) (h : r2 s t) (s0 : sg_S) {a k : Int} (h0 : 0 ≤ a) (h1 : a < t 234 6) (k1 : 1 ≤ k) : dc_Soot_holds s0 (s 14 a.toNat) k = 0 ↔ ∀ q : Int, 0 ≤ q → q < 8 → dc_R_layerAt t 0 a q ≠ k := by
  obtain ⟨_, m, _⟩ := fl_lay ht h.1 (x := a.toNat) (by omega)
  have e := ho_C s0 (s 14 a.toNat) k 9 0 (by omega) (by omega) (by omega)
  refine e.trans ⟨fun z q q0 q8 => ?_, fun z q q0 q8 => ?_⟩
  · by_cases c : t 235 (20 + a.toNat) ≤ q
    · have : dc_R_layerAt t 0 a q = 0 := by
        unfold dc_R_layerAt
        rw [show ((0 + 20 : Int) + a).toNat = 20 + a.toNat by omega, if_pos c]
      omega
    · have w := z (t 235 (20 + a.toNat) - 1 - q) (by omega) (by omega)
      rw [fn_lay ht h s0 h0 h1 (by omega) (by omega), if_neg (by omega), show t 235 (20 + a.toNat) - 1 - (t 235 (20 + a.toNat) - 1 - q) = q by omega] at w
      exact w
  · rw [fn_lay ht h s0 h0 h1 q0 (by omega)]
    by_cases c : t 235 (20 + a.toNat) ≤ q
    · rw [if_pos c]; omega
    · rw [if_neg c]; exact z _ (by omega) (by omega)
theorem br_tr (K : Int → Int → Int) (c : Prop) [Decidable c] (A l4 l5 z : Int) : (if c then (if A ≤ l5 then (if A ≤ l5 then K l4 l5 else K l4 A) else (if A ≤ l5 then K z l5 else K z A)) else (if 0 ≤ l5 then (if 0 ≤ l5 then K l4 l5 else K l4 0) else (if 0 ≤ l5 then K z l5 else K z 0))) = if c then (if A ≤ l5 then K l4 l5 else K z A) else (if 0 ≤ l5 then K l4 l5 else K z 0) := by
  by_cases p : c
  · rw [if_pos p, if_pos p]
    by_cases q : A ≤ l5
    · simp only [if_pos q]
    · simp only [if_neg q]
  · rw [if_neg p, if_neg p]
    by_cases q : 0 ≤ l5
    · simp only [if_pos q]
    · simp only [if_neg q]
def br_T (k36 : sg_S → Int → Int → Int → Int → Int → Int → Int) (t : sg_S) (kd l2 l3 l4 l5 z : Int) : Int := if t 235 ((2 + z).toNat) = kd then (if dc_R_ones t (dc_R_sootOf t z) ≤ l5 then k36 t kd l2 l3 l4 l5 (z + 1) else k36 t kd l2 l3 z (dc_R_ones t (dc_R_sootOf t z)) (z + 1)) else (if 0 ≤ l5 then k36 t kd l2 l3 l4 l5 (z + 1) else k36 t kd l2 l3 z 0 (z + 1))
theorem br_51 (k36 : sg_S → Int → Int → Int → Int → Int → Int → Int) (t : sg_S) (kd l2 l3 l4 l5 z : Int) (n : Nat) : ∀ (l7 l8 : Int), 0 ≤ l8 → l8 ≤ 8 → (l7 = 0 ∨ l7 = 1) → 8 - l8 < (n : Int) → ((l7 = 0 ∧ ∀ q : Int, l8 ≤ q → q < 8 → dc_R_layerAt t 0 z q ≠ kd) → dc_R_brushes_51 k36 n t kd l2 l3 l4 l5 z l7 l8 = br_T k36 t kd l2 (l3 + 0) l4 l5 z) ∧ (¬ (l7 = 0 ∧ ∀ q : Int, l8 ≤ q → q < 8 → dc_R_layerAt t 0 z q ≠ kd) → dc_R_brushes_51 k36 n t kd l2 l3 l4 l5 z l7 l8 = br_T k36 t kd l2 (l3 + 1) l4 l5 z) := by
  induction n with
  | zero => intro l7 l8 _ _ _ hn; exact absurd hn (by omega)
  | succ n ih =>
    intro l7 l8 l0 l8' hi hn
    rw [dc_R_brushes_51_s]
    by_cases c : 8 ≤ l8
    · rw [if_pos c]
      constructor
      · intro p
        rw [if_pos p.1]
        exact br_tr (fun a b => k36 t kd l2 (l3 + 0) a b (z + 1)) _ _ _ _ _
      · intro p
        rw [if_neg (fun w => p ⟨w, fun q h1 h2 => absurd h1 (by omega)⟩)]
        exact br_tr (fun a b => k36 t kd l2 (l3 + 1) a b (z + 1)) _ _ _ _ _
    · rw [if_neg c]
      by_cases z0 : l7 = 0
      · rw [if_pos z0]
        by_cases e : dc_R_layerAt t 0 z l8 = kd
        · rw [if_pos e]
          have k := ih 1 (l8 + 1) (by omega) (by omega) (Or.inr rfl) (by omega)
          exact ⟨fun p => absurd e (p.2 l8 (Int.le_refl _) (by omega)), fun _ => k.2 (fun w => absurd w.1 (by decide))⟩
        · rw [if_neg e]
          have k := ih 0 (l8 + 1) (by omega) (by omega) (Or.inl rfl) (by omega)
          refine ⟨fun p => k.1 ⟨rfl, fun q h1 h2 => p.2 q (by omega) h2⟩, fun p => k.2 (fun w => p ⟨z0, fun q h1 h2 => ?_⟩)⟩
          by_cases y : q = l8
          · rw [y]; exact e
          · exact w.2 q (by omega) h2
      · rw [if_neg z0]
        have k := ih 1 (l8 + 1) (by omega) (by omega) (Or.inr rfl) (by omega)
        exact ⟨fun p => absurd p.1 z0, fun _ => k.2 (fun w => absurd w.1 (by decide))⟩
theorem br_0 {s t : sg_S} (ht : sv t) (h : r2 s t) {kd : Int} (k1 : 1 ≤ kd) (n : Nat) : ∀ (m : Nat) (x l4 l5 z : Int), 0 ≤ z → z ≤ t 234 6 → t 234 6 - z < (n : Int) → t 234 6 - z < (m : Int) → dc_St_fluesWith_5 n s kd (t 234 6) x z = dc_R_brushes_36 m t kd 0 x l4 l5 z := by
  induction n with
  | zero => intro m x l4 l5 z _ _ hn _; exact absurd hn (by omega)
  | succ n ih =>
    intro m x l4 l5 z z0 z1 hn hm
    cases m with
    | zero => exact absurd hm (by omega)
    | succ m =>
      rw [dc_St_fluesWith_5_s, dc_R_brushes_36_s]
      by_cases c : t 234 6 ≤ z
      · rw [if_pos c, if_pos c, if_pos rfl]
      · rw [if_neg c, if_neg c]
        have k := br_51 (dc_R_brushes_36 m) t kd 0 x l4 l5 z 9 0 0 (by omega) (by omega) (Or.inl rfl) (by omega)
        have e := ho_eq ht h s z0 (by omega) k1
        by_cases q : dc_Soot_holds s (s 14 z.toNat) kd = 0
        · rw [if_pos q, k.1 ⟨rfl, e.mp q⟩, Int.add_zero]
          unfold br_T
          (repeat' split) <;> exact ih m _ _ _ _ (by omega) (by omega) (by omega) (by omega)
        · rw [if_neg q, k.2 (fun p => q (e.mpr p.2))]
          unfold br_T
          (repeat' split) <;> exact ih m _ _ _ _ (by omega) (by omega) (by omega) (by omega)
theorem br_1 {s t : sg_S} (ht : sv t) (g : t 234 6 ≤ 0 ∨ t 235 11 = -1) (h : r2 s t) {kd l2 : Int} (k1 : 1 ≤ kd) (hl : ¬ l2 = 0) (n : Nat) : ∀ (m : Nat) (f mx l3 z : Int), 0 ≤ z → z ≤ t 234 6 → t 234 6 - z < (n : Int) → t 234 6 - z < (m : Int) → dc_C_mostFeared_7 n s kd f mx z = dc_R_brushes_36 m t kd l2 l3 f mx z := by
  induction n with
  | zero => intro m f mx l3 z _ _ hn _; exact absurd hn (by omega)
  | succ n ih =>
    intro m f mx l3 z z0 z1 hn hm
    cases m with
    | zero => exact absurd hm (by omega)
    | succ m =>
      rw [dc_C_mostFeared_7_s, dc_R_brushes_36_s, r2_houses h]
      by_cases c : t 234 6 ≤ z
      · rw [if_pos c, if_pos c, if_neg hl]
      · rw [if_neg c, if_neg c]
        have k := br_51 (dc_R_brushes_36 m) t kd l2 l3 f mx z 9 0 0 (by omega) (by omega) (Or.inl rfl) (by omega)
        have e := ho_eq ht h s z0 (by omega) k1
        have bd := re_bd ht g h z0 (show z < t 234 6 by omega)
        rw [an_burns ht h z0 (by omega), an_reach ht g h z0 (by omega), on_bc s t bd.1 bd.2]
        have main : ∀ l3' : Int, (if t 235 ((2 + z).toNat) = kd then (if dc_R_ones t (dc_R_sootOf t z) ≤ mx then dc_C_mostFeared_7 n s kd f mx (z + 1) else dc_C_mostFeared_7 n s kd z (dc_R_ones t (dc_R_sootOf t z)) (z + 1)) else (if 0 ≤ mx then dc_C_mostFeared_7 n s kd f mx (z + 1) else dc_C_mostFeared_7 n s kd z 0 (z + 1))) = br_T (dc_R_brushes_36 m) t kd l2 l3' f mx z := fun l3' => by
          unfold br_T
          (repeat' split) <;> exact ih m _ _ _ _ (by omega) (by omega) (by omega) (by omega)
        by_cases q : dc_Soot_holds s (s 14 z.toNat) kd = 0
        · rw [k.1 ⟨rfl, e.mp q⟩]; exact main _
        · rw [k.2 (fun p => q (e.mpr p.2))]; exact main _
theorem an_brushes {s t : sg_S} (ht : sv t) (g : t 234 6 ≤ 0 ∨ t 235 11 = -1) (h : r2 s t) (a1 a2 : Int) : dc_C_brushes s a1 a2 = dc_R_brushes t a1 a2 := by
  have b := st_b_of ht
  have b0 := b.1
  have b9 := b.2.1
  unfold dc_C_brushes dc_R_brushes
  by_cases c1 : 1 ≤ a1 ∧ a1 ≤ 7
  · rw [if_neg (show ¬ a1 < 1 by omega), if_pos c1.2, if_neg (eq_in1 c1)]
    by_cases c2 : a2 = 0
    · rw [if_pos c2, if_neg (eq_in1 ⟨by omega, by omega⟩), c2, r2_houses h]
      exact br_0 ht h c1.1 10 10 0 (-1) 0 0 (by omega) (by omega) (by omega) (by omega)
    · rw [if_neg c2]
      by_cases c3 : a2 = 1
      · rw [if_pos c3, if_neg (eq_in1 ⟨by omega, by omega⟩)]
        exact br_1 ht g h c1.1 c2 10 10 (-1) 0 0 0 (by omega) (by omega) (by omega) (by omega)
      · rw [if_neg c3, if_pos (eq_in0 (by omega))]
  · rw [if_pos (eq_in0 c1)]
    (repeat' split) <;> first | rfl | omega
