/-! STREETS OF BOTH SIDES: the class's cells in s, the reference's in t -/
def st_e (f : Nat → Int) : Nat → Int
  | 0 => 0
  | m + 1 => 8 * st_e f m + f m
theorem st_e_congr {f g : Nat → Int} : ∀ m : Nat, (∀ l, l < m → f l = g l) → st_e f m = st_e g m
  | 0, _ => rfl
  | m + 1, h => by
    show 8 * st_e f m + f m = 8 * st_e g m + g m
    rw [st_e_congr m (fun l hl => h l (by omega)), h m (by omega)]
def st_c (s : sg_S) (b p : Nat) : Int := if p = 0 then s b 5 else if p = 1 then s b 6 else if p < 11 then s (b + 2) (p - 2) else if p < 20 then s (b + 3) (p - 11) else if p < 29 then s (b + 1) (p - 20) else if p < 106 then s (b + 4) (p - 101) else s (b + 5) (p - 106)
def st_r (t : sg_S) (q p : Nat) : Int := if 20 ≤ p ∧ p < 29 then st_e (fun l => t 235 (112 * q + (29 + 8 * (p - 20) + l))) (t 235 (112 * q + p)).toNat else t 235 (112 * q + p)
def st_v (H W : Int) (p : Nat) : Prop := p < 2 ∨ (2 ≤ p ∧ (p : Int) < 2 + H) ∨ (11 ≤ p ∧ (p : Int) < 11 + H) ∨ (20 ≤ p ∧ (p : Int) < 20 + H) ∨ (101 ≤ p ∧ (p : Int) < 101 + W) ∨ (106 ≤ p ∧ (p : Int) < 106 + W)
def st_l (t : sg_S) (q : Nat) : Prop := ∀ h l : Nat, (h : Int) < t 234 6 → (l : Int) < t 235 (112 * q + (20 + h)) → 1 ≤ t 235 (112 * q + (29 + 8 * h + l))
def st_z (s : sg_S) (H : Int) (b : Nat) : Prop := ∀ h : Nat, H ≤ (h : Int) → h < 9 → s (b + 1) h = 0
def st_s (s t : sg_S) (b q : Nat) : Prop := (∀ p, st_v (t 234 6) (t 234 7) p → st_c s b p = st_r t q p) ∧ st_l t q ∧ st_z s (t 234 6) b
/-- bounds that the relation needs -/
def st_b (t : sg_S) : Prop := 0 ≤ t 234 6 ∧ t 234 6 ≤ 9 ∧ 0 ≤ t 234 7 ∧ t 234 7 ≤ 5 ∧ ∀ q h : Nat, q ≤ 33 → h < 9 → 0 ≤ t 235 (112 * q + (20 + h)) ∧ t 235 (112 * q + (20 + h)) ≤ 8
theorem st_b_of {t : sg_S} (hs : sv t) : st_b t := by
  have a := sv_bd hs (a := 234) (k := 6) rfl (by decide) rfl
  have b := sv_bd hs (a := 234) (k := 7) rfl (by decide) rfl
  refine ⟨a.1, a.2, b.1, b.2, fun q h hq hh => ?_⟩
  have := (sv_pb hs (r := ((112 * q : Nat) : Int)) (by omega) (by omega) (by omega)).2 (h : Int) (by omega) (by omega)
  rw [show ((((112 * q : Nat) : Int) + 20 + (h : Int))).toNat = 112 * q + (20 + h) by omega] at this
  exact ⟨this.1, this.2.1⟩
theorem st_cc {s s' : sg_S} {b b' : Nat} (hc : ∀ j l, j ≤ 5 → (j ≠ 0 ∨ l = 5 ∨ l = 6) → s' (b' + j) l = s (b + j) l) (p : Nat) : st_c s' b' p = st_c s b p := by
  unfold st_c
  (repeat' split)
  · exact hc 0 5 (by omega) (by omega)
  · exact hc 0 6 (by omega) (by omega)
  · exact hc 2 _ (by omega) (by omega)
  · exact hc 3 _ (by omega) (by omega)
  · exact hc 1 _ (by omega) (by omega)
  · exact hc 4 _ (by omega) (by omega)
  · exact hc 5 _ (by omega) (by omega)
theorem st_rr {t t' : sg_S} {q q' : Nat} (hb : st_b t) (hq : q ≤ 33) (hr : ∀ p, p < 111 → t' 235 (112 * q' + p) = t 235 (112 * q + p)) (p : Nat) (hp : p < 111) : st_r t' q' p = st_r t q p := by
  unfold st_r
  split
  · rename_i c
    rw [hr p hp]
    have := hb.2.2.2.2 q (p - 20) hq (by omega)
    rw [show 20 + (p - 20) = p by omega] at this
    exact st_e_congr _ (fun l hl => hr _ (by omega))
  · exact hr p hp
theorem st_vp {H W : Int} {p : Nat} (h9 : H ≤ 9) (h5 : W ≤ 5) (h : st_v H W p) : p < 111 := by
  unfold st_v at h
  omega
/-- streets go along with their cells -/
theorem st_go {s s' t t' : sg_S} {b b' q q' : Nat} (hb : st_b t) (hq : q ≤ 33) (e6 : t' 234 6 = t 234 6) (e7 : t' 234 7 = t 234 7) (hc : ∀ j l, j ≤ 5 → (j ≠ 0 ∨ l = 5 ∨ l = 6) → s' (b' + j) l = s (b + j) l) (hr : ∀ p, p < 111 → t' 235 (112 * q' + p) = t 235 (112 * q + p)) (h : st_s s t b q) : st_s s' t' b' q' := by
  obtain ⟨h1, h2, h3⟩ := h
  refine ⟨fun p hp => ?_, fun x l hx hl => ?_, fun x hx h9 => ?_⟩
  · rw [e6, e7] at hp
    rw [st_cc hc p, st_rr hb hq hr p (st_vp hb.2.1 hb.2.2.2.1 hp)]
    exact h1 p hp
  · rw [e6] at hx
    have b9 := hb.2.1
    rw [hr _ (by omega)] at hl
    have := hb.2.2.2.2 q x hq (by omega)
    rw [hr _ (by omega)]
    exact h2 x l hx hl
  · rw [e6] at hx
    rw [hc 1 x (by omega) (by omega)]
    exact h3 x hx h9
/-! what is remembered, what is kept -/
def st_pa (s t : sg_S) : Prop := s 19 2 = t 234 2 ∧ 0 ≤ s 19 2 ∧ s 19 2 ≤ 30 ∧ 0 ≤ s 19 1 ∧ s 19 1 ≤ 29 ∧ ∀ x : Nat, (x : Int) < s 19 2 → st_s s t (21 + 6 * ((s 19 1 - (x : Int)) % 30).toNat) (4 + (s 19 2 - 1 - (x : Int)).toNat)
def st_im (s t : sg_S) : Prop := ∀ i : Nat, i < 2 → t 236 i ≠ 0 → st_s s t (205 + 6 * i) (2 + i) ∧ s 203 i = t 235 (112 * (2 + i) + 111)
def r2 (s t : sg_S) : Prop := st_s s t 13 0 ∧ st_pa s t ∧ st_im s t ∧ s 0 9 = t 235 111 ∧ (∀ x : Nat, (x : Int) < t 234 7 → s 12 x = t 237 x) ∧ s 8 0 = t 234 3 ∧ s 8 1 = t 234 4 ∧ s 8 2 = t 234 5 ∧ s 8 3 = t 234 6 ∧ s 8 4 = t 234 7
/-- only what is so now has changed -/
theorem r2_now {s s' t t' : sg_S} (hb : st_b t) (hC : ∀ a k, (a < 13 ∨ 18 < a) → s' a k = s a k) (hR : ∀ k, t' 234 k = t 234 k) (h6 : ∀ k, t' 236 k = t 236 k) (h7 : ∀ k, t' 237 k = t 237 k) (hW : ∀ k, 224 ≤ k → t' 235 k = t 235 k) (hn : st_s s' t' 13 0) (hd : s' 0 9 = t' 235 111) (h : r2 s t) : r2 s' t' := by
  obtain ⟨-, ⟨p1, p2, p3, p4, p5, p6⟩, g3, -, g5, c0, c1, c2, c3, c4⟩ := h
  refine ⟨hn, ⟨?_, ?_, ?_, ?_, ?_, fun x hx => ?_⟩, fun i hi hk => ?_, hd, fun x hx => ?_, ?_, ?_, ?_, ?_, ?_⟩
  · rw [hC 19 2 (by omega), hR]; exact p1
  · rw [hC 19 2 (by omega)]; exact p2
  · rw [hC 19 2 (by omega)]; exact p3
  · rw [hC 19 1 (by omega)]; exact p4
  · rw [hC 19 1 (by omega)]; exact p5
  · rw [hC 19 2 (by omega)] at hx
    rw [hC 19 1 (by omega), hC 19 2 (by omega)]
    exact st_go hb (by omega) (hR 6) (hR 7) (fun j l _ _ => hC _ l (by omega)) (fun p _ => hW _ (by omega)) (p6 x hx)
  · rw [h6] at hk
    obtain ⟨k1, k2⟩ := g3 i hi hk
    refine ⟨st_go hb (by omega) (hR 6) (hR 7) (fun j l _ _ => hC _ l (by omega)) (fun p _ => hW _ (by omega)) k1, ?_⟩
    rw [hC 203 i (by omega), hW _ (by omega)]
    exact k2
  · rw [hR] at hx
    rw [hC 12 x (by omega), h7]
    exact g5 x hx
  · rw [hC 8 0 (by omega), hR]; exact c0
  · rw [hC 8 1 (by omega), hR]; exact c1
  · rw [hC 8 2 (by omega), hR]; exact c2
  · rw [hC 8 3 (by omega), hR]; exact c3
  · rw [hC 8 4 (by omega), hR]; exact c4
/-- only the dice have changed -/
theorem r2_dice {s s' t t' : sg_S} (hb : st_b t) (hC : ∀ a k, 0 < a → s' a k = s a k) (hR : ∀ k, t' 234 k = t 234 k) (h6 : ∀ k, t' 236 k = t 236 k) (h7 : ∀ k, t' 237 k = t 237 k) (hW : ∀ k, k ≠ 111 → t' 235 k = t 235 k) (hd : s' 0 9 = t' 235 111) (h : r2 s t) : r2 s' t' := by
  obtain ⟨g1, ⟨p1, p2, p3, p4, p5, p6⟩, g3, -, g5, c0, c1, c2, c3, c4⟩ := h
  refine ⟨st_go hb (by omega) (hR 6) (hR 7) (fun j l _ _ => hC _ l (by omega)) (fun p _ => hW _ (by omega)) g1, ⟨?_, ?_, ?_, ?_, ?_, fun x hx => ?_⟩, fun i hi hk => ?_, hd, fun x hx => ?_, ?_, ?_, ?_, ?_, ?_⟩
  · rw [hC 19 2 (by omega), hR]; exact p1
  · rw [hC 19 2 (by omega)]; exact p2
  · rw [hC 19 2 (by omega)]; exact p3
  · rw [hC 19 1 (by omega)]; exact p4
  · rw [hC 19 1 (by omega)]; exact p5
  · rw [hC 19 2 (by omega)] at hx
    rw [hC 19 1 (by omega), hC 19 2 (by omega)]
    exact st_go hb (by omega) (hR 6) (hR 7) (fun j l _ _ => hC _ l (by omega)) (fun p _ => hW _ (by omega)) (p6 x hx)
  · rw [h6] at hk
    obtain ⟨k1, k2⟩ := g3 i hi hk
    refine ⟨st_go hb (by omega) (hR 6) (hR 7) (fun j l _ _ => hC _ l (by omega)) (fun p _ => hW _ (by omega)) k1, ?_⟩
    rw [hC 203 i (by omega), hW _ (by omega)]
    exact k2
  · rw [hR] at hx
    rw [hC 12 x (by omega), h7]
    exact g5 x hx
  · rw [hC 8 0 (by omega), hR]; exact c0
  · rw [hC 8 1 (by omega), hR]; exact c1
  · rw [hC 8 2 (by omega), hR]; exact c2
  · rw [hC 8 3 (by omega), hR]; exact c3
  · rw [hC 8 4 (by omega), hR]; exact c4
/-! remembering -/
theorem st_copy_to (s : sg_S) (b a j l : Nat) (hj : j ≤ 5) (h : j ≠ 0 ∨ l = 5 ∨ l = 6) : sg_copy s b a (a + j) l = s (b + j) l := by
  unfold sg_copy
  by_cases c : j = 0
  · subst c
    rw [if_neg (by omega), if_pos ⟨rfl, by omega⟩]
    rfl
  · rw [if_pos (by omega), show a + j - a = j by omega]
theorem st_minds11 (n : Nat) : ∀ (s : sg_S) (l1 : Int), 0 ≤ l1 → l1 ≤ 3248 → s 234 2 = 30 → 3248 - l1 < (n : Int) → dc_R_minds_11 n s l1 234 2 = 30 ∧ ∀ j p : Nat, j < 30 → p < 112 → dc_R_minds_11 n s l1 235 (112 * (4 + j) + p) = if j = 29 then s 235 p else if ((112 * j + p : Nat) : Int) < l1 then s 235 (112 * (4 + j) + p) else s 235 (112 * (5 + j) + p) := by
  induction n with
  | zero => intro s l1 h0 h1 hu hn; omega
  | succ n ih =>
    intro s l1 h0 h1 hu hn
    rw [dc_R_minds_11_s]
    split
    · refine ⟨by rw [sg_eq]; omega, fun j p hj hp => ?_⟩
      rw [hu, sg_na (by decide)]
      by_cases q : j = 29
      · rw [if_pos q]
        subst q
        have := rb_copy_in (sg_up s 234 2 (30 - 1)) 0 (448 + (112 * (30 - 1))) (p : Int) (by omega) (by omega) (by omega) (by omega) (by omega)
        rw [sg_na (by decide), show (448 + 112 * (30 - 1) + (p : Int)).toNat = 112 * (4 + 29) + p by omega, show ((0 : Int) + (p : Int)).toNat = p by omega] at this
        exact this
      · rw [if_neg q, if_pos (by omega), rb_copy_out _ _ _ _ (by omega) (by omega), sg_na (by decide)]
    · have e := ih (sg_up s 235 ((448 + l1).toNat) (s 235 (((448 + l1) + 112).toNat))) (l1 + 1) (by omega) (by omega) (by rw [sg_na (by decide)]; exact hu) (by omega)
      refine ⟨e.1, fun j p hj hp => ?_⟩
      rw [e.2 j p hj hp]
      by_cases q : j = 29
      · rw [if_pos q, if_pos q, sg_nk (by omega)]
      · rw [if_neg q, if_neg q]
        by_cases q1 : ((112 * j + p : Nat) : Int) < l1
        · rw [if_pos q1, if_pos (by omega), sg_nk (by omega)]
        · rw [if_neg q1]
          by_cases q2 : ((112 * j + p : Nat) : Int) = l1
          · rw [if_pos (by omega), show 112 * (4 + j) + p = (448 + l1).toNat by omega, sg_eq, show ((448 + l1) + 112).toNat = 112 * (5 + j) + p by omega]
          · rw [if_neg (by omega), sg_nk (by omega)]
theorem st_minds_row {t : sg_S} (hu0 : 0 ≤ t 234 2) (hu : t 234 2 ≤ 30) : (dc_R_minds t 234 2 = min (t 234 2 + 1) 30) ∧ (∀ p, p < 112 → dc_R_minds t 235 (112 * (4 + (min (t 234 2 + 1) 30 - 1).toNat) + p) = t 235 p) ∧ (∀ x : Nat, 1 ≤ x → (x : Int) < min (t 234 2 + 1) 30 → ∀ p, p < 112 → dc_R_minds t 235 (112 * (4 + (min (t 234 2 + 1) 30 - 1 - (x : Int)).toNat) + p) = t 235 (112 * (4 + (t 234 2 - 1 - ((x : Int) - 1)).toNat) + p)) := by
  by_cases c : t 234 2 = 30
  · have hd : dc_R_minds t = dc_R_minds_11 3249 t 0 := if_pos c
    have e := st_minds11 3249 t 0 (by omega) (by omega) c (by omega)
    rw [hd, e.1, c, show min ((30 : Int) + 1) 30 = 30 by decide]
    refine ⟨rfl, fun p hp => ?_, fun x h1 hx p hp => ?_⟩
    · have := e.2 29 p (by omega) hp
      rw [if_pos rfl] at this
      exact this
    · have := e.2 (30 - 1 - (x : Int)).toNat p (by omega) hp
      rw [if_neg (by omega), if_neg (by omega)] at this
      rw [this, show 5 + (30 - 1 - (x : Int)).toNat = 4 + (30 - 1 - ((x : Int) - 1)).toNat by omega]
  · have hd : dc_R_minds t = sg_up (dc_R_copy t 0 (448 + (112 * (t 234 2)))) 234 2 ((t 234 2) + 1) := if_neg c
    rw [hd, sg_eq, Int.min_eq_left (by omega)]
    refine ⟨rfl, fun p hp => ?_, fun x h1 hx p hp => ?_⟩
    · have := rb_copy_in t 0 (448 + (112 * (t 234 2))) (p : Int) (by omega) (by omega) (by omega) (by omega) (by omega)
      rw [sg_na (by decide), show 112 * (4 + (t 234 2 + 1 - 1).toNat) + p = (448 + 112 * t 234 2 + (p : Int)).toNat by omega, this, show ((0 : Int) + (p : Int)).toNat = p by omega]
    · rw [sg_na (by decide), rb_copy_out _ _ _ _ (by omega) (by omega), show (t 234 2 + 1 - 1 - (x : Int)).toNat = (t 234 2 - 1 - ((x : Int) - 1)).toNat by omega]
theorem r2_minds {s t : sg_S} (ht : sv t) (h : r2 s t) : r2 (dc_Past_remember s) (dc_R_minds t) := by
  have hb := st_b_of ht
  obtain ⟨g1, ⟨p1, p2, p3, p4, p5, p6⟩, g3, g4, g5, c0, c1, c2, c3, c4⟩ := h
  have u := sv_bd ht (a := 234) (k := 2) rfl (by decide) rfl
  obtain ⟨m1, m2, m3⟩ := st_minds_row u.1 u.2
  rw [← p1] at m1 m2 m3
  have e6 : dc_R_minds t 234 6 = t 234 6 := dr_R_minds t 234 6 rfl
  have e7 : dc_R_minds t 234 7 = t 234 7 := dr_R_minds t 234 7 rfl
  have low : ∀ k, k < 448 → dc_R_minds t 235 k = t 235 k := fun k hk => rb_minds t k hk u.1
  have q1 : dc_Past_remember s 19 1 = (s 19 1 + 1) % 30 := by
    unfold dc_Past_remember
    rw [sg_nk (by decide), sg_copyn (by unfold dc_Math_floorMod; omega), sg_eq]
    rfl
  have q2 : dc_Past_remember s 19 2 = min (s 19 2 + 1) 30 := by
    unfold dc_Past_remember
    rw [sg_eq]
  have nu : ∀ j l, j ≤ 5 → (j ≠ 0 ∨ l = 5 ∨ l = 6) → dc_Past_remember s (21 + 6 * ((s 19 1 + 1) % 30).toNat + j) l = s (13 + j) l := fun j l hj hl => by
    unfold dc_Past_remember
    rw [sg_na (by omega)]
    rw [show dc_Math_floorMod s (s 19 1 + 1) 30 = (s 19 1 + 1) % 30 from rfl, st_copy_to _ _ _ j l hj hl, sg_na (by omega)]
  have old : ∀ a l, (a < 19 ∨ 19 < a) → (a < 21 + 6 * ((s 19 1 + 1) % 30).toNat ∨ 21 + 6 * ((s 19 1 + 1) % 30).toNat + 5 < a) → dc_Past_remember s a l = s a l := fun a l h19 ha => by
    unfold dc_Past_remember
    rw [sg_na (by omega), show dc_Math_floorMod s (s 19 1 + 1) 30 = (s 19 1 + 1) % 30 from rfl, sg_copyn ha, sg_na (by omega)]
  refine ⟨?_, ⟨?_, ?_, ?_, ?_, ?_, fun x hx => ?_⟩, fun i hi hk => ?_, ?_, fun x hx => ?_, ?_, ?_, ?_, ?_, ?_⟩
  · exact st_go hb (by omega) e6 e7 (fun j l _ _ => old _ l (by omega) (by omega)) (fun p _ => low _ (by omega)) g1
  · rw [q2, m1]
  · rw [q2]; omega
  · rw [q2]; omega
  · rw [q1]; omega
  · rw [q1]; omega
  · rw [q2] at hx
    rw [q1, q2]
    by_cases z : x = 0
    · subst z
      rw [show ((s 19 1 + 1) % 30 - ((0 : Nat) : Int)) % 30 = (s 19 1 + 1) % 30 by omega, show min (s 19 2 + 1) 30 - 1 - ((0 : Nat) : Int) = min (s 19 2 + 1) 30 - 1 by omega]
      exact st_go hb (by omega) e6 e7 nu (fun p hp => by rw [m2 p (by omega), show 112 * 0 + p = p by omega]) g1
    · have := p6 (x - 1) (by omega)
      rw [show ((x - 1 : Nat) : Int) = (x : Int) - 1 by omega] at this
      rw [show ((s 19 1 + 1) % 30 - (x : Int)) % 30 = (s 19 1 - ((x : Int) - 1)) % 30 by omega]
      exact st_go hb (by omega) e6 e7 (fun j l _ _ => old _ l (by omega) (by omega)) (fun p hp => m3 x (by omega) hx p (by omega)) this
  · rw [dr_R_minds t 236 i rfl] at hk
    obtain ⟨k1, k2⟩ := g3 i hi hk
    refine ⟨st_go hb (by omega) e6 e7 (fun j l _ _ => old _ l (by omega) (by omega)) (fun p _ => low _ (by omega)) k1, ?_⟩
    rw [old 203 i (by omega) (by omega), low _ (by omega)]
    exact k2
  · rw [old 0 9 (by omega) (by omega), low 111 (by omega)]; exact g4
  · rw [e7] at hx
    rw [old 12 x (by omega) (by omega), dr_R_minds t 237 x rfl]
    exact g5 x hx
  · rw [old 8 0 (by omega) (by omega), dr_R_minds t 234 3 rfl]; exact c0
  · rw [old 8 1 (by omega) (by omega), dr_R_minds t 234 4 rfl]; exact c1
  · rw [old 8 2 (by omega) (by omega), dr_R_minds t 234 5 rfl]; exact c2
  · rw [old 8 3 (by omega) (by omega), e6]; exact c3
  · rw [old 8 4 (by omega) (by omega), e7]; exact c4
