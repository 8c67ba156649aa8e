/-! A MONTH IN THE ROW THAT IS TRIED, as far as one flue is concerned -/
def tq_l (x k : Int) : Int := (8 * x + k) % 16777216
/-- the row that is tried: t0 the state ahead, B what is burned, a the flue -/
def tq_I (t0 : sg_S) (B : Nat → Int) (a : Nat) (t : sg_S) : Prop := rb_pb t 112 ∧ (∀ k, t 234 k = t0 234 k) ∧ (∀ k, k < 112 → t 235 k = t0 235 k) ∧ (∀ f : Nat, f < 9 → t 235 (123 + f) = t0 235 (11 + f)) ∧ (∀ z : Nat, z < 9 → t 235 (114 + z) = B z) ∧ lb_I t a
def tq_c (t0 : sg_S) (a : Nat) (f kd x : Int) : Int := if (ch_f t0 f).toNat.testBit a = true then tq_l x kd else x
def tq_b (t0 : sg_S) (a : Nat) (z kd x : Int) : Int := if dc_R_blownTo t0 z = (a : Int) then tq_l x kd else x
/-- what lies in flue a behind the houses below z, from x on -/
def tq_f (t0 : sg_S) (B : Nat → Int) (a : Nat) : Nat → Int → Int
  | 0, x => x
  | z + 1, x => if B z ≤ 0 then tq_f t0 B a z x else tq_b t0 a (z : Int) (B z) (tq_c t0 a (z : Int) (B z) (tq_f t0 B a z x))
theorem tq_F {t : sg_S} {a : Nat} (h : lb_I t a) : 0 ≤ lb_F t a ∧ lb_F t a < 16777216 := by
  unfold lb_F
  exact so_24 (by have := h.1; omega) (fun l hl => by have := h.2 l hl; omega)
theorem tq_lay {t0 t : sg_S} {B : Nat → Int} {a : Nat} (ha : a ≤ 8) (h : tq_I t0 B a t) {x kd : Int} (x0 : 0 ≤ x) (x8 : x ≤ 8) (k1 : 1 ≤ kd) (k7 : kd ≤ 7) : tq_I t0 B a (dc_R_lays t 112 x kd) ∧ lb_F (dc_R_lays t 112 x kd) a = if x = (a : Int) then tq_l (lb_F t a) kd else lb_F t a := by
  obtain ⟨h1, h2, h3, h4, h5, h6⟩ := h
  have m := h1.2 x x0 x8
  have out : ∀ k : Nat, ((k : Int) < 132 ∨ 213 ≤ (k : Int)) → dc_R_lays t 112 x kd 235 k = t 235 k := fun k hk => dl_lays t 112 x kd k (by omega) x0 x8 m.1 m.2.1 (by omega)
  have ex : ((x.toNat : Nat) : Int) = x := Int.toNat_of_nonneg x0
  have e20 : ((112 + 20 : Int) + x).toNat = 132 + x.toNat := by omega
  rw [e20] at m
  have q := lb_lay (t := t) (a := a) (x := x.toNat) (kd := kd) ha (by omega) m.1 m.2.1 h6 k1 k7 t
  rw [ex] at q
  have b := tq_F h6
  refine ⟨⟨rb_pb_lays h1 (by omega) x0 x8, fun k => ?_, fun k hk => ?_, fun f hf => ?_, fun z hz => ?_, q.1⟩, ?_⟩
  · rw [dr_R_lays t 112 x kd 234 k rfl]; exact h2 k
  · rw [out k (by omega)]; exact h3 k hk
  · rw [out (123 + f) (by omega)]; exact h4 f hf
  · rw [out (114 + z) (by omega)]; exact h5 z hz
  · rw [q.2, so_laid t b.1 b.2 (by omega) k7]
    unfold tq_l
    by_cases c : x = (a : Int)
    · rw [if_pos c, if_pos (by omega)]
    · rw [if_neg c, if_neg (by omega)]
theorem tq_cs {t0 : sg_S} {a : Nat} (hs : sv t0) (g : t0 234 6 ≤ 0 ∨ t0 235 11 = -1) {f : Int} (f0 : 0 ≤ f) (f1 : f < t0 234 6) (kd x : Int) : tq_c t0 a (t0 235 (11 + f.toNat)) kd (if f = (a : Int) then tq_l x kd else x) = tq_c t0 a f kd x := by
  have b9 := (st_b_of hs).2.1
  have hi := mo_into hs g f0 f1 (by omega)
  unfold tq_c
  rw [ch_t hs g f0 f1 a]
  by_cases q : f = (a : Int)
  · rw [(ch_b hs g 10 (t0 235 (11 + f.toNat)) hi.1 (by omega) (by omega)).2 a (by omega), if_pos q, if_neg (by simp), if_pos (by simp; omega)]
  · rw [if_neg q, show decide (f.toNat = a) = false from decide_eq_false (by omega), Bool.false_or]
theorem tq_bl {t0 t : sg_S} (h : ∀ k, t 234 k = t0 234 k) (z : Int) : dc_R_blownTo t z = dc_R_blownTo t0 z := by
  unfold dc_R_blownTo dc_R_isHouse dc_R_in
  rw [h 4, h 6]
theorem tq_28 {t0 : sg_S} {B : Nat → Int} {a : Nat} (hs : sv t0) (g : t0 234 6 ≤ 0 ∨ t0 235 11 = -1) (ha : a ≤ 8) (k2 : sg_S → Int → Int → sg_S) (z kd : Int) (k1 : 1 ≤ kd) (k7 : kd ≤ 7) (m : Nat) : ∀ (t : sg_S) (f : Int), tq_I t0 B a t → -1 ≤ f → f < t0 234 6 → f + 1 < (m : Int) → ∃ t', dc_R_passes_28 k2 m t 112 z kd f = k2 t' 112 (z + 1) ∧ tq_I t0 B a t' ∧ lb_F t' a = tq_b t0 a z kd (tq_c t0 a f kd (lb_F t a)) := by
  have b9 := (st_b_of hs).2.1
  induction m with
  | zero => intro t f _ _ _ hm; exact absurd hm (by omega)
  | succ m ih =>
    intro t f h f0 f1 hm
    rw [dc_R_passes_28_s]
    by_cases c : f = -1
    · have e : tq_c t0 a f kd (lb_F t a) = lb_F t a := by
        unfold tq_c
        rw [c, ch_n]
        exact if_neg (by simp)
      rw [if_pos c, tq_bl h.2.1 z, e]
      unfold tq_b
      by_cases q : dc_R_blownTo t0 z = -1
      · rw [if_pos q, if_neg (by omega)]
        exact ⟨t, rfl, h, rfl⟩
      · rw [if_neg q]
        have b := rb_blown t0 z b9
        have w := tq_lay ha h (x := dc_R_blownTo t0 z) (kd := kd) (by omega) (by omega) k1 k7
        exact ⟨_, rfl, w.1, w.2⟩
    · rw [if_neg c]
      have hi := mo_into hs g (f := f) (by omega) f1 (by omega)
      have w := tq_lay ha h (x := f) (kd := kd) (by omega) (by omega) k1 k7
      have e : dc_R_lays t 112 f kd 235 (((112 + 11 : Int) + f).toNat) = t0 235 (11 + f.toNat) := by
        rw [show ((112 + 11 : Int) + f).toNat = 123 + f.toNat by omega]
        exact w.1.2.2.2.1 f.toNat (by omega)
      rw [e]
      obtain ⟨t', r1, r2, r3⟩ := ih (dc_R_lays t 112 f kd) (t0 235 (11 + f.toNat)) w.1 hi.1 (by omega) (by omega)
      refine ⟨t', r1, r2, ?_⟩
      rw [r3, w.2, tq_cs hs g (by omega) f1]
theorem tq_fr {t t' : sg_S} {a : Nat} (e : ∀ k, 132 ≤ k → t' 235 k = t 235 k) (h : lb_I t a) : lb_I t' a ∧ lb_F t' a = lb_F t a := by
  have e1 := e (132 + a) (by omega)
  have e2 : ∀ l, t' 235 (141 + 8 * a + l) = t 235 (141 + 8 * a + l) := fun l => e _ (by omega)
  refine ⟨⟨by rw [e1]; exact h.1, fun l hl => ?_⟩, ?_⟩
  · rw [e1] at hl
    rw [e2]
    exact h.2 l hl
  · unfold lb_F
    rw [e1]
    exact st_e_congr _ (fun l _ => e2 l)
theorem tq_0 {t0 t : sg_S} {B : Nat → Int} {a : Nat} (h : tq_I t0 B a t) (v : Int) : tq_I t0 B a (sg_up t 235 ((112 + 0 : Int).toNat) v) ∧ lb_F (sg_up t 235 ((112 + 0 : Int).toNat) v) a = lb_F t a := by
  obtain ⟨h1, h2, h3, h4, h5, h6⟩ := h
  have hp := rb_pb_up (z := 112 + 0) (v := v) h1 (by omega) (by omega) (Or.inl (by omega))
  have e : ((112 + 0 : Int)).toNat = 112 := by decide
  rw [e] at hp ⊢
  have w := tq_fr (t := t) (t' := sg_up t 235 112 v) (a := a) (fun k hk => sg_nk (by omega) _ _ _) h6
  refine ⟨⟨hp, fun k => ?_, fun k hk => ?_, fun f hf => ?_, fun z hz => ?_, w.1⟩, w.2⟩
  · rw [sg_na (by decide)]; exact h2 k
  · rw [sg_nk (by omega)]; exact h3 k hk
  · rw [sg_nk (by omega)]; exact h4 f hf
  · rw [sg_nk (by omega)]; exact h5 z hz
theorem tq_set {t0 t : sg_S} {B : Nat → Int} {a : Nat} (ha : a ≤ 8) (h : tq_I t0 B a t) (v : Int) : tq_I t0 (fun z => if z = a then v else B z) a (sg_up t 235 ((114 + (a : Int)).toNat) v) ∧ lb_F (sg_up t 235 ((114 + (a : Int)).toNat) v) a = lb_F t a := by
  obtain ⟨h1, h2, h3, h4, h5, h6⟩ := h
  have hp := rb_pb_up (z := 114 + (a : Int)) (v := v) h1 (by omega) (by omega) (Or.inl (by omega))
  have e : (114 + (a : Int)).toNat = 114 + a := by omega
  rw [e] at hp ⊢
  have w := tq_fr (t := t) (t' := sg_up t 235 (114 + a) v) (a := a) (fun k hk => sg_nk (by omega) _ _ _) h6
  refine ⟨⟨hp, fun k => ?_, fun k hk => ?_, fun f hf => ?_, fun z hz => ?_, w.1⟩, w.2⟩
  · rw [sg_na (by decide)]; exact h2 k
  · rw [sg_nk (by omega)]; exact h3 k hk
  · rw [sg_nk (by omega)]; exact h4 f hf
  · by_cases c : z = a
    · rw [c, sg_eq]; exact (if_pos rfl).symm
    · rw [sg_nk (by omega), h5 z hz]; exact (if_neg c).symm
theorem tq_2 {t0 : sg_S} {B : Nat → Int} {a : Nat} (hs : sv t0) (g : t0 234 6 ≤ 0 ∨ t0 235 11 = -1) (ha : a ≤ 8) (hB : ∀ z : Nat, z < 9 → B z ≤ 7) (x : Int) (m : Nat) : ∀ (t : sg_S) (z : Nat), tq_I t0 B a t → (z : Int) ≤ t0 234 6 → lb_F t a = tq_f t0 B a z x → t0 234 6 - (z : Int) < (m : Int) → tq_I t0 B a (dc_R_passes_2 m t 112 (z : Int)) ∧ lb_F (dc_R_passes_2 m t 112 (z : Int)) a = tq_f t0 B a (t0 234 6).toNat x := by
  have b9 := (st_b_of hs).2.1
  induction m with
  | zero => intro t z _ h1 _ hm; exact absurd hm (by omega)
  | succ m ih =>
    intro t z h z1 hF hm
    rw [dc_R_passes_2_s, h.2.1 6]
    by_cases c : t0 234 6 ≤ (z : Int)
    · rw [if_pos c, show (t0 234 6).toNat = z by omega, ← hF]
      exact tq_0 h _
    · rw [if_neg c]
      have eB : t 235 (((112 + 2 : Int) + (z : Int)).toNat) = B z := by
        rw [show ((112 + 2 : Int) + (z : Int)).toNat = 114 + z by omega]
        exact h.2.2.2.2.1 z (by omega)
      have ez : ((z : Int) + 1) = ((z + 1 : Nat) : Int) := by omega
      rw [eB]
      by_cases q : B z ≤ 0
      · rw [if_pos q, ez]
        exact ih t (z + 1) h (by omega) (hF.trans (if_pos q).symm) (by omega)
      · rw [if_neg q]
        obtain ⟨t', r1, r2, r3⟩ := tq_28 hs g ha (dc_R_passes_2 m) (z : Int) (B z) (by omega) (hB z (by omega)) 10 t (z : Int) h (by omega) (by omega) (by omega)
        rw [r1, ez]
        refine ih t' (z + 1) r2 (by omega) ?_ (by omega)
        rw [r3, hF]
        exact (if_neg q).symm
/-- a month -/
theorem tq_pass {t0 t : sg_S} {B : Nat → Int} {a : Nat} (hs : sv t0) (g : t0 234 6 ≤ 0 ∨ t0 235 11 = -1) (ha : a ≤ 8) (hB : ∀ z : Nat, z < 9 → B z ≤ 7) (h : tq_I t0 B a t) : tq_I t0 B a (dc_R_passes t 112) ∧ lb_F (dc_R_passes t 112) a = tq_f t0 B a (t0 234 6).toNat (lb_F t a) := by
  have b := st_b_of hs
  have b0 := b.1
  have b9 := b.2.1
  exact tq_2 hs g ha hB (lb_F t a) 10 t 0 h (by omega) rfl (by omega)
/-! what is tried is so -/
theorem tq_eq (s : sg_S) {f1 f2 : Nat → Int} {m1 m2 : Nat} (h1 : m1 ≤ 8) (h2 : m2 ≤ 8) (k1 : ∀ l, l < m1 → 1 ≤ f1 l ∧ f1 l ≤ 7) (k2 : ∀ l, l < m2 → 1 ≤ f2 l ∧ f2 l ≤ 7) : st_e f1 m1 = st_e f2 m2 ↔ m1 = m2 ∧ ∀ l, l < m1 → f1 l = f2 l := by
  constructor
  · intro e
    have a1 := so_lay s h1 k1
    have a2 := so_lay s h2 k2
    rw [e, a2] at a1
    have em : m1 = m2 := by omega
    subst em
    refine ⟨rfl, fun l hl => ?_⟩
    have d1 := so_dig (f := f1) (m1 - 1 - l) m1 (fun l hl => by have := k1 l hl; omega) (by omega)
    have d2 := so_dig (f := f2) (m1 - 1 - l) m1 (fun l hl => by have := k2 l hl; omega) (by omega)
    rw [e, d2, show m1 - 1 - (m1 - 1 - l) = l by omega] at d1
    exact d1.symm
  · rintro ⟨rfl, e⟩
    exact st_e_congr _ e
theorem tq_109 (t : sg_S) (a : Int) (n : Nat) : ∀ (l4 l5 : Int), 0 ≤ l5 → l5 ≤ 8 → (l4 = 0 ∨ l4 = 1) → 8 - l5 < (n : Int) → ((l4 = 1 ∧ ∀ q : Int, l5 ≤ q → q < 8 → dc_R_layerAt t 112 a q = dc_R_layerAt t 0 a q) → (dc_R_isSo_109 n t a l4 l5).2 = 1) ∧ (¬ (l4 = 1 ∧ ∀ q : Int, l5 ≤ q → q < 8 → dc_R_layerAt t 112 a q = dc_R_layerAt t 0 a q) → (dc_R_isSo_109 n t a l4 l5).2 = 0) := by
  induction n with
  | zero => intro l4 l5 _ _ _ hn; exact absurd hn (by omega)
  | succ n ih =>
    intro l4 l5 l0 l8 hi hn
    rw [dc_R_isSo_109_s]
    by_cases c : 8 ≤ l5
    · rw [if_pos c]
      refine ⟨fun p => p.1, fun p => ?_⟩
      rcases hi with q | q
      · exact q
      · exact absurd ⟨q, fun q h1 h2 => absurd h1 (by omega)⟩ p
    · rw [if_neg c]
      by_cases z0 : l4 = 0
      · rw [if_pos z0]
        have k := ih 0 (l5 + 1) (by omega) (by omega) (Or.inl rfl) (by omega)
        exact ⟨fun p => absurd p.1 (by omega), fun _ => k.2 (fun p => absurd p.1 (by decide))⟩
      · rw [if_neg z0]
        have i1 : l4 = 1 := by omega
        by_cases e : dc_R_layerAt t 112 a l5 = dc_R_layerAt t 0 a l5
        · rw [if_pos e]
          have k := ih 1 (l5 + 1) (by omega) (by omega) (Or.inr rfl) (by omega)
          refine ⟨fun p => k.1 ⟨rfl, fun q h1 h2 => p.2 q (by omega) h2⟩, fun p => k.2 (fun w => p ⟨i1, fun q h1 h2 => ?_⟩)⟩
          by_cases y : q = l5
          · rw [y]; exact e
          · exact w.2 q (by omega) h2
        · rw [if_neg e]
          have k := ih 0 (l5 + 1) (by omega) (by omega) (Or.inl rfl) (by omega)
          exact ⟨fun p => absurd (p.2 l5 (by omega) (by omega)) e, fun _ => k.2 (fun p => absurd p.1 (by decide))⟩
theorem tq_la (t : sg_S) (a : Nat) (q : Int) (q0 : 0 ≤ q) : dc_R_layerAt t 112 (a : Int) q = (if t 235 (132 + a) ≤ q then 0 else t 235 (141 + 8 * a + q.toNat)) ∧ dc_R_layerAt t 0 (a : Int) q = (if t 235 (20 + a) ≤ q then 0 else t 235 (29 + 8 * a + q.toNat)) := by
  unfold dc_R_layerAt
  rw [show ((112 + 20 : Int) + (a : Int)).toNat = 132 + a by omega, show ((112 + 29 : Int) + 8 * (a : Int) + q).toNat = 141 + 8 * a + q.toNat by omega, show ((0 + 20 : Int) + (a : Int)).toNat = 20 + a by omega, show ((0 + 29 : Int) + 8 * (a : Int) + q).toNat = 29 + 8 * a + q.toNat by omega]
  exact ⟨rfl, rfl⟩
theorem tq_end {t : sg_S} {a : Nat} (h : lb_I t a) {S : Int} (e : S = st_e (fun l => t 235 (29 + 8 * a + l)) (t 235 (20 + a)).toNat) (m : 0 ≤ t 235 (20 + a) ∧ t 235 (20 + a) ≤ 8) (f : ∀ l, l < (t 235 (20 + a)).toNat → 1 ≤ t 235 (29 + 8 * a + l) ∧ t 235 (29 + 8 * a + l) ≤ 7) : (if t 235 ((132 + (a : Int)).toNat) = t 235 ((20 + (a : Int)).toNat) then dc_R_isSo_109 9 t (a : Int) 1 0 else dc_R_isSo_109 9 t (a : Int) 0 0).2 = if lb_F t a = S then 1 else 0 := by
  rw [show (132 + (a : Int)).toNat = 132 + a by omega, show (20 + (a : Int)).toNat = 20 + a by omega]
  obtain ⟨i1, i2⟩ := h
  have key := tq_eq t (f1 := fun l => t 235 (141 + 8 * a + l)) (f2 := fun l => t 235 (29 + 8 * a + l)) (m1 := (t 235 (132 + a)).toNat) (m2 := (t 235 (20 + a)).toNat) (by omega) (by omega) i2 f
  have k1 := tq_109 t (a : Int) 9 1 0 (by omega) (by omega) (Or.inr rfl) (by omega)
  have k0 := tq_109 t (a : Int) 9 0 0 (by omega) (by omega) (Or.inl rfl) (by omega)
  by_cases c : lb_F t a = S
  · rw [if_pos c]
    have w := key.mp (by rw [← e]; exact c)
    have em : t 235 (132 + a) = t 235 (20 + a) := by omega
    rw [if_pos em]
    refine k1.1 ⟨rfl, fun q q0 q8 => ?_⟩
    rw [(tq_la t a q q0).1, (tq_la t a q q0).2, em]
    by_cases z : t 235 (20 + a) ≤ q
    · rw [if_pos z, if_pos z]
    · rw [if_neg z, if_neg z]
      exact w.2 q.toNat (by omega)
  · rw [if_neg c]
    by_cases em : t 235 (132 + a) = t 235 (20 + a)
    · rw [if_pos em]
      refine k1.2 (fun p => c ?_)
      rw [e]
      refine key.mpr ⟨by omega, fun l hl => ?_⟩
      have := p.2 (l : Int) (by omega) (by omega)
      rw [(tq_la t a (l : Int) (by omega)).1, (tq_la t a (l : Int) (by omega)).2, if_neg (by omega), if_neg (by omega)] at this
      exact this
    · rw [if_neg em]
      exact k0.2 (fun p => absurd p.1 (by decide))
