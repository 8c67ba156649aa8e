/-! THE HEAPS OF THE CLASS -/
theorem so_hk (k : Int) (kn : Nat) (hk : ∀ u : Int, (Int32.ofInt u <<< (Int32.ofInt k &&& 31)).toBitVec = BitVec.ofInt 32 u <<< kn) (k24 : kn ≤ 24) {u v : Nat} (hu : u < 16777216) (hv : v < 2 ^ kn) (hv2 : v < 16777216) : sy_and (sy_or (sy_shl (u : Int) k) (v : Int)) 16777215 = ((u * 2 ^ kn % 16777216 + v : Nat) : Int) := by
  unfold sy_and sy_or sy_shl
  rw [Int32.ofInt_toInt, Int32.ofInt_toInt]
  show (((Int32.ofInt (u : Int) <<< (Int32.ofInt k &&& 31)).toBitVec ||| BitVec.ofInt 32 (v : Int)) &&& BitVec.ofInt 32 16777215).toInt = _
  rw [hk, BitVec.ofInt_natCast, BitVec.ofInt_natCast]
  have hd : u * 2 ^ kn % 2 ^ 24 = 2 ^ kn * (u % 2 ^ (24 - kn)) := by
    rw [show (2 : Nat) ^ 24 = 2 ^ kn * 2 ^ (24 - kn) by rw [← Nat.pow_add]; congr 1; omega, Nat.mul_comm u, Nat.mul_mod_mul_left]
  have hn : (((BitVec.ofNat 32 u <<< kn) ||| BitVec.ofNat 32 v) &&& BitVec.ofInt 32 16777215).toNat = u * 2 ^ kn % 16777216 + v := by
    rw [BitVec.toNat_and, BitVec.toNat_or, BitVec.toNat_shiftLeft, BitVec.toNat_ofNat, BitVec.toNat_ofNat, show (BitVec.ofInt 32 16777215).toNat = 2 ^ 24 - 1 by decide, Nat.and_two_pow_sub_one_eq_mod, Nat.or_mod_two_pow, Nat.shiftLeft_eq, Nat.mod_eq_of_lt (a := u) (b := 2 ^ 32) (by omega), Nat.mod_eq_of_lt (a := v) (b := 2 ^ 32) (by omega), Nat.mod_eq_of_lt (a := v) (b := 2 ^ 24) (by omega), Nat.mod_mod_of_dvd _ (show 2 ^ 24 ∣ 2 ^ 32 by decide)]
    rw [show (16777216 : Nat) = 2 ^ 24 by decide, hd]
    exact (Nat.two_pow_add_eq_or_of_lt hv _).symm
  have hm : u * 2 ^ kn % 16777216 < 16777216 := Nat.mod_lt _ (by decide)
  rw [BitVec.toInt_eq_toNat_of_lt (by rw [hn]; generalize u * 2 ^ kn % 16777216 = y at hm ⊢; omega), hn]
theorem so_heap (s : sg_S) {x p : Int} {n : Nat} (x0 : 0 ≤ x) (x1 : x < 16777216) (p0 : 0 ≤ p) (p1 : p < 16777216) (pn : n < 8 → p < so_p n) : dc_Soot_heaped s x p (n : Int) = (x * so_p n + p) % 16777216 := by
  unfold dc_Soot_heaped
  by_cases c : n < 8
  · rw [if_pos (by omega)]
    have hp := pn c
    have ex := Int.toNat_of_nonneg x0
    have ep := Int.toNat_of_nonneg p0
    have gen : ∀ (k : Int) (kn : Nat), (∀ u : Int, (Int32.ofInt u <<< (Int32.ofInt k &&& 31)).toBitVec = BitVec.ofInt 32 u <<< kn) → kn ≤ 24 → p < ((2 ^ kn : Nat) : Int) → sy_and (sy_or (sy_shl x k) p) 16777215 = ((x.toNat * 2 ^ kn % 16777216 + p.toNat : Nat) : Int) := fun k kn hk k24 hv => by
      have := so_hk k kn hk k24 (u := x.toNat) (v := p.toNat) (by omega) (by omega) (by omega)
      rw [ex, ep] at this
      exact this
    have h8 : n = 0 ∨ n = 1 ∨ n = 2 ∨ n = 3 ∨ n = 4 ∨ n = 5 ∨ n = 6 ∨ n = 7 := by omega
    rcases h8 with rfl | rfl | rfl | rfl | rfl | rfl | rfl | rfl
    · rw [show so_p 0 = 1 by decide] at hp ⊢
      rw [show (3 * ((0 : Nat) : Int)) = 0 by decide, gen 0 0 (fun _ => rfl) (by omega) (by omega)]
      omega
    · rw [show so_p 1 = 8 by decide] at hp ⊢
      rw [show (3 * ((1 : Nat) : Int)) = 3 by decide, gen 3 3 (fun _ => rfl) (by omega) (by omega)]
      omega
    · rw [show so_p 2 = 64 by decide] at hp ⊢
      rw [show (3 * ((2 : Nat) : Int)) = 6 by decide, gen 6 6 (fun _ => rfl) (by omega) (by omega)]
      omega
    · rw [show so_p 3 = 512 by decide] at hp ⊢
      rw [show (3 * ((3 : Nat) : Int)) = 9 by decide, gen 9 9 (fun _ => rfl) (by omega) (by omega)]
      omega
    · rw [show so_p 4 = 4096 by decide] at hp ⊢
      rw [show (3 * ((4 : Nat) : Int)) = 12 by decide, gen 12 12 (fun _ => rfl) (by omega) (by omega)]
      omega
    · rw [show so_p 5 = 32768 by decide] at hp ⊢
      rw [show (3 * ((5 : Nat) : Int)) = 15 by decide, gen 15 15 (fun _ => rfl) (by omega) (by omega)]
      omega
    · rw [show so_p 6 = 262144 by decide] at hp ⊢
      rw [show (3 * ((6 : Nat) : Int)) = 18 by decide, gen 18 18 (fun _ => rfl) (by omega) (by omega)]
      omega
    · rw [show so_p 7 = 2097152 by decide] at hp ⊢
      rw [show (3 * ((7 : Nat) : Int)) = 21 by decide, gen 21 21 (fun _ => rfl) (by omega) (by omega)]
      omega
  · rw [if_neg (by omega)]
    have e : so_p n = 16777216 * so_p (n - 8) := by
      have : 8 ^ n = 8 ^ 8 * 8 ^ (n - 8) := by
        rw [← Nat.pow_add]
        congr 1
        omega
      unfold so_p
      rw [this]
      generalize 8 ^ (n - 8) = w
      omega
    rw [e, show x * (16777216 * so_p (n - 8)) + p = p + 16777216 * (x * so_p (n - 8)) by rw [Int.mul_left_comm, Int.add_comm], Int.add_mul_emod_self_left, Int.emod_eq_of_lt p0 p1]
/-- p, of n layers, is what F lays -/
def tq_H (F : Int → Int) (p n : Int) : Prop := (0 ≤ p ∧ p < 16777216) ∧ 0 ≤ n ∧ (n < 8 → p < so_p n.toNat) ∧ ∀ x, 0 ≤ x → x < 16777216 → F x = (x * so_p n.toNat + p) % 16777216
theorem tq_H0 : tq_H (fun x => x) 0 0 := by
  refine ⟨by omega, by omega, fun _ => ?_, fun x x0 x1 => ?_⟩
  · show (0 : Int) < so_p 0
    decide
  · show x = (x * so_p 0 + 0) % 16777216
    rw [show so_p 0 = 1 by decide]
    omega
theorem tq_Hc {F G : Int → Int} {p n : Int} (e : ∀ x, G x = F x) (h : tq_H F p n) : tq_H G p n := ⟨h.1, h.2.1, h.2.2.1, fun x x0 x1 => (e x).trans (h.2.2.2 x x0 x1)⟩
theorem tq_Hl {F : Int → Int} {p n k : Int} (h : tq_H F p n) (k1 : 1 ≤ k) (k7 : k ≤ 7) : tq_H (fun x => tq_l (F x) k) (tq_l p k) (n + 1) := by
  obtain ⟨h1, h2, h3, h4⟩ := h
  have e : (n + 1).toNat = n.toNat + 1 := by omega
  unfold tq_l
  refine ⟨by omega, by omega, fun c => ?_, fun x x0 x1 => ?_⟩
  · have := h3 (by omega)
    rw [e, so_ps]
    omega
  · show (8 * F x + k) % 16777216 = _
    rw [h4 x x0 x1, e, so_ps, show x * (8 * so_p n.toNat) = 8 * (x * so_p n.toNat) from Int.mul_left_comm _ _ _]
    generalize x * so_p n.toNat = y
    omega
theorem tq_Hs {F : Int → Int} {p n : Int} (h : tq_H F p n) (s : sg_S) {x : Int} (x0 : 0 ≤ x) (x1 : x < 16777216) : dc_Soot_heaped s x p n = F x := by
  have en : ((n.toNat : Nat) : Int) = n := Int.toNat_of_nonneg h.2.1
  have := so_heap s (n := n.toNat) x0 x1 h.1.1 h.1.2 (fun c => h.2.2.1 (by omega))
  rw [en] at this
  rw [this, h.2.2.2 x x0 x1]
def tq_up (s : sg_S) (k : Nat) (kd : Int) : sg_S := sg_up (sg_up s 225 k (dc_Soot_laid s (s 225 k) kd)) 226 k (sy_w (s 226 k + 1))
theorem tq_up1 {s : sg_S} {F : Int → Int} {k : Nat} {kd : Int} (h : tq_H F (s 225 k) (s 226 k)) (b : s 226 k ≤ 1000) (k1 : 1 ≤ kd) (k7 : kd ≤ 7) : tq_H (fun x => tq_l (F x) kd) (tq_up s k kd 225 k) (tq_up s k kd 226 k) ∧ tq_up s k kd 226 k = s 226 k + 1 := by
  have b0 := h.2.1
  have e1 : tq_up s k kd 225 k = tq_l (s 225 k) kd := by
    unfold tq_up
    rw [sg_na (by decide), sg_eq, so_laid s h.1.1 h.1.2 (by omega) k7]
    rfl
  have e2 : tq_up s k kd 226 k = s 226 k + 1 := by
    unfold tq_up
    rw [sg_eq]
    exact sy_w_id ⟨by omega, by omega⟩
  rw [e1, e2]
  exact ⟨tq_Hl h k1 k7, rfl⟩
theorem tq_ad (s : sg_S) (k : Nat) (kd : Int) : dc_Rows_addToHeap s (k : Int) kd 0 = s ∧ dc_Rows_addToHeap s (k : Int) kd 1 = (if kd = 0 then s else tq_up s k kd) ∧ dc_Rows_addToHeap s (k : Int) kd 2 = (if kd = 0 then s else tq_up (tq_up s k kd) k kd) := by
  unfold dc_Rows_addToHeap
  refine ⟨?_, ?_, ?_⟩
  · rw [dc_Rows_addToHeap_3_s, if_pos (by omega)]
  · rw [dc_Rows_addToHeap_3_s, if_neg (by omega)]
    by_cases c : kd = 0
    · rw [if_pos c, if_pos c]
    · rw [if_neg c, if_neg c, dc_Rows_addToHeap_3_s, if_pos (by omega), Int.toNat_natCast]
      rfl
  · rw [dc_Rows_addToHeap_3_s, if_neg (by omega)]
    by_cases c : kd = 0
    · rw [if_pos c, if_pos c]
    · rw [if_neg c, if_neg c, dc_Rows_addToHeap_3_s, if_neg (by omega), if_neg c, dc_Rows_addToHeap_3_s, if_pos (by omega), Int.toNat_natCast]
      rfl
theorem tq_adf3 (c j : Nat) (k : Int) (hc : (c ≠ 225 ∧ c ≠ 226) ∨ j ≠ k.toNat) (n : Nat) : ∀ (s : sg_S) (l2 l3 l4 : Int), dc_Rows_addToHeap_3 n s k l2 l3 l4 c j = s c j := by
  induction n with
  | zero => intro s l2 l3 l4; rfl
  | succ n ih =>
    intro s l2 l3 l4
    rw [dc_Rows_addToHeap_3_s]
    by_cases c1 : l3 ≤ l4
    · rw [if_pos c1]
    · rw [if_neg c1]
      by_cases c2 : l2 = 0
      · rw [if_pos c2]
      · rw [if_neg c2, ih]
        rcases hc with h | h
        · rw [sg_na h.2, sg_na h.1]
        · rw [sg_nk h, sg_nk h]
theorem tq_adf (s : sg_S) (k : Nat) (kd T : Int) {c j : Nat} (hc : (c ≠ 225 ∧ c ≠ 226) ∨ j ≠ k) : dc_Rows_addToHeap s (k : Int) kd T c j = s c j := tq_adf3 c j (k : Int) (by rw [Int.toNat_natCast]; exact hc) 3 s kd T 0
/-- how often the soot of house z comes into flue a in a month -/
def tq_t (t0 : sg_S) (a z : Nat) : Int := (if (ch_f t0 (z : Int)).toNat.testBit a = true then 1 else 0) + (if dc_R_blownTo t0 (z : Int) = (a : Int) then 1 else 0)
theorem tq_step {t0 : sg_S} {a : Nat} {B : Nat → Int} {s : sg_S} {k z : Nat} {kd : Int} (eB : B z = kd) (k0 : 0 ≤ kd) (k7 : kd ≤ 7) (h : tq_H (tq_f t0 B a z) (s 225 k) (s 226 k)) (b : s 226 k ≤ 900) : tq_H (tq_f t0 B a (z + 1)) (dc_Rows_addToHeap s (k : Int) kd (tq_t t0 a z) 225 k) (dc_Rows_addToHeap s (k : Int) kd (tq_t t0 a z) 226 k) ∧ dc_Rows_addToHeap s (k : Int) kd (tq_t t0 a z) 226 k ≤ s 226 k + 2 := by
  have hf : ∀ x, tq_f t0 B a (z + 1) x = if kd ≤ 0 then tq_f t0 B a z x else tq_b t0 a (z : Int) kd (tq_c t0 a (z : Int) kd (tq_f t0 B a z x)) := fun x => by
    rw [← eB]
    rfl
  obtain ⟨a0, a1, a2⟩ := tq_ad s k kd
  by_cases c : kd = 0
  · have e : dc_Rows_addToHeap s (k : Int) kd (tq_t t0 a z) = s := by
      unfold tq_t
      by_cases p : (ch_f t0 (z : Int)).toNat.testBit a = true
      · by_cases q : dc_R_blownTo t0 (z : Int) = (a : Int)
        · rw [if_pos p, if_pos q, show (1 + 1 : Int) = 2 by decide, a2, if_pos c]
        · rw [if_pos p, if_neg q, show (1 + 0 : Int) = 1 by decide, a1, if_pos c]
      · by_cases q : dc_R_blownTo t0 (z : Int) = (a : Int)
        · rw [if_neg p, if_pos q, show (0 + 1 : Int) = 1 by decide, a1, if_pos c]
        · rw [if_neg p, if_neg q, show (0 + 0 : Int) = 0 by decide, a0]
    rw [e]
    exact ⟨tq_Hc (fun x => by rw [hf x, if_pos (by omega)]) h, by omega⟩
  · have hf' : ∀ x, tq_f t0 B a (z + 1) x = tq_b t0 a (z : Int) kd (tq_c t0 a (z : Int) kd (tq_f t0 B a z x)) := fun x => by rw [hf x, if_neg (by omega)]
    unfold tq_t
    by_cases p : (ch_f t0 (z : Int)).toNat.testBit a = true
    · by_cases q : dc_R_blownTo t0 (z : Int) = (a : Int)
      · rw [if_pos p, if_pos q, show (1 + 1 : Int) = 2 by decide, a2, if_neg c]
        have w := tq_up1 h (by omega) (by omega) k7
        have w2 := tq_up1 w.1 (by omega) (show 1 ≤ kd by omega) k7
        refine ⟨tq_Hc (fun x => ?_) w2.1, by rw [w2.2]; omega⟩
        rw [hf' x]
        unfold tq_b tq_c
        rw [if_pos p, if_pos q]
      · rw [if_pos p, if_neg q, show (1 + 0 : Int) = 1 by decide, a1, if_neg c]
        have w := tq_up1 h (by omega) (show 1 ≤ kd by omega) k7
        refine ⟨tq_Hc (fun x => ?_) w.1, by rw [w.2]; omega⟩
        rw [hf' x]
        unfold tq_b tq_c
        rw [if_pos p, if_neg q]
    · by_cases q : dc_R_blownTo t0 (z : Int) = (a : Int)
      · rw [if_neg p, if_pos q, show (0 + 1 : Int) = 1 by decide, a1, if_neg c]
        have w := tq_up1 h (by omega) (show 1 ≤ kd by omega) k7
        refine ⟨tq_Hc (fun x => ?_) w.1, by rw [w.2]; omega⟩
        rw [hf' x]
        unfold tq_b tq_c
        rw [if_neg p, if_pos q]
      · rw [if_neg p, if_neg q, show (0 + 0 : Int) = 0 by decide, a0]
        refine ⟨tq_Hc (fun x => ?_) h, by omega⟩
        rw [hf' x]
        unfold tq_b tq_c
        rw [if_neg p, if_neg q]
/-- what is burned where flue a's house burns k -/
def tq_k (t0 : sg_S) (a k : Nat) : Nat → Int := fun z => if z = a then (k : Int) else t0 235 (2 + z)
theorem tq_85 {t0 : sg_S} {a : Nat} (k45 : sg_S → Int → Int → sg_S) {z : Nat} (z9 : z ≤ 9) (s0 : sg_S) (hb : s0 15 z = t0 235 (2 + z)) (hb0 : 0 ≤ t0 235 (2 + z)) (hb7 : t0 235 (2 + z) ≤ 7) (n : Nat) : ∀ (s : sg_S) (l6 : Nat), l6 ≤ 8 → 8 - l6 < n → (∀ c j, c ≠ 225 → c ≠ 226 → s c j = s0 c j) → (∀ k : Nat, k < 8 → tq_H (tq_f t0 (tq_k t0 a k) a (if k < l6 then z + 1 else z)) (s 225 k) (s 226 k) ∧ s 226 k ≤ 2 * ((if k < l6 then z + 1 else z : Nat) : Int)) → ∃ s', dc_Rows_lookInto_85 k45 n s (a : Int) (z : Int) (tq_t t0 a z) (l6 : Int) = k45 s' (a : Int) ((z : Int) + 1) ∧ (∀ c j, c ≠ 225 → c ≠ 226 → s' c j = s0 c j) ∧ (∀ k : Nat, k < 8 → tq_H (tq_f t0 (tq_k t0 a k) a (z + 1)) (s' 225 k) (s' 226 k) ∧ s' 226 k ≤ 2 * ((z + 1 : Nat) : Int)) := by
  have T0 : 0 ≤ tq_t t0 a z := by
    unfold tq_t
    (repeat' split) <;> decide
  induction n with
  | zero => intro s l6 _ hn; exact absurd hn (by omega)
  | succ n ih =>
    intro s l6 h8 hn hfr hh
    rw [dc_Rows_lookInto_85_s]
    by_cases c : 7 < (l6 : Int)
    · rw [if_pos c]
      refine ⟨s, rfl, hfr, fun k hk => ?_⟩
      have := hh k hk
      rw [if_pos (by omega)] at this
      exact this
    · rw [if_neg c]
      have kb : ∀ k : Nat, k < 8 → 0 ≤ tq_k t0 a k z ∧ tq_k t0 a k z ≤ 7 := fun k hk => by
        unfold tq_k
        split <;> omega
      have old : ∀ k : Nat, k < 8 → ¬ k < l6 → tq_H (tq_f t0 (tq_k t0 a k) a (z + 1)) (dc_Rows_addToHeap s (k : Int) (tq_k t0 a k z) (tq_t t0 a z) 225 k) (dc_Rows_addToHeap s (k : Int) (tq_k t0 a k z) (tq_t t0 a z) 226 k) ∧ dc_Rows_addToHeap s (k : Int) (tq_k t0 a k z) (tq_t t0 a z) 226 k ≤ 2 * ((z + 1 : Nat) : Int) := fun k hk hl => by
        have w := hh k hk
        rw [if_neg hl] at w
        have w2 := tq_step (t0 := t0) (a := a) (B := tq_k t0 a k) (z := z) rfl (kb k hk).1 (kb k hk).2 w.1 (by omega)
        exact ⟨w2.1, by omega⟩
      by_cases c2 : tq_t t0 a z ≤ 0
      · rw [if_pos c2]
        refine ⟨s, rfl, hfr, fun k hk => ?_⟩
        by_cases c3 : k < l6
        · have := hh k hk
          rw [if_pos c3] at this
          exact this
        · have w := old k hk c3
          rw [show tq_t t0 a z = 0 by omega, (tq_ad s k _).1] at w
          exact w
      · rw [if_neg c2]
        have e : (if (z : Int) = (a : Int) then dc_Rows_lookInto_85 k45 n (dc_Rows_addToHeap s (l6 : Int) (l6 : Int) (tq_t t0 a z)) (a : Int) (z : Int) (tq_t t0 a z) ((l6 : Int) + 1) else dc_Rows_lookInto_85 k45 n (dc_Rows_addToHeap s (l6 : Int) (s 15 ((z : Int).toNat)) (tq_t t0 a z)) (a : Int) (z : Int) (tq_t t0 a z) ((l6 : Int) + 1)) = dc_Rows_lookInto_85 k45 n (dc_Rows_addToHeap s (l6 : Int) (tq_k t0 a l6 z) (tq_t t0 a z)) (a : Int) (z : Int) (tq_t t0 a z) ((l6 + 1 : Nat) : Int) := by
          unfold tq_k
          by_cases q : z = a
          · rw [if_pos (show (z : Int) = (a : Int) by omega), if_pos q]
            rfl
          · rw [if_neg (show ¬ (z : Int) = (a : Int) by omega), if_neg q, Int.toNat_natCast, hfr 15 z (by decide) (by decide), hb]
            rfl
        rw [e]
        refine ih _ (l6 + 1) (by omega) (by omega) (fun c j c1 c2 => ?_) (fun k hk => ?_)
        · rw [tq_adf s l6 _ _ (Or.inl ⟨c1, c2⟩)]
          exact hfr c j c1 c2
        · by_cases q : k = l6
          · subst q
            rw [if_pos (by omega)]
            exact old k hk (by omega)
          · rw [tq_adf s l6 _ _ (Or.inr q), tq_adf s l6 _ _ (Or.inr q)]
            have w := hh k hk
            by_cases q2 : k < l6
            · rw [if_pos q2] at w
              rw [if_pos (by omega)]
              exact w
            · rw [if_neg q2] at w
              rw [if_neg (by omega)]
              exact w
theorem tq_45 {s1 t0 : sg_S} {a : Nat} (hs : sv t0) (g : t0 234 6 ≤ 0 ∨ t0 235 11 = -1) (hr : r2 s1 t0) (ha : (a : Int) < t0 234 6) (n : Nat) : ∀ (s : sg_S) (z : Nat), (z : Int) ≤ t0 234 6 → t0 234 6 - (z : Int) < (n : Int) → (∀ c j, c ≠ 225 → c ≠ 226 → s c j = s1 c j) → (∀ k : Nat, k < 8 → tq_H (tq_f t0 (tq_k t0 a k) a z) (s 225 k) (s 226 k) ∧ s 226 k ≤ 2 * (z : Int)) → (∀ c j, c ≠ 225 → c ≠ 226 → dc_Rows_lookInto_45 n s (a : Int) (z : Int) c j = s1 c j) ∧ (∀ k : Nat, k < 8 → tq_H (tq_f t0 (tq_k t0 a k) a (t0 234 6).toNat) (dc_Rows_lookInto_45 n s (a : Int) (z : Int) 225 k) (dc_Rows_lookInto_45 n s (a : Int) (z : Int) 226 k)) := by
  have b9 := (st_b_of hs).2.1
  induction n with
  | zero => intro s z _ hn; exact absurd hn (by omega)
  | succ n ih =>
    intro s z z1 hn hfr hh
    have h : r2 s t0 := r2_fr (st_b_of hs) (fun c k hc _ => hfr c k (by omega) (by omega)) (fun _ _ _ => rfl) (fun _ => rfl) (fun _ => rfl) (fun _ _ => rfl) hr
    rw [dc_Rows_lookInto_45_s, r2_houses h]
    by_cases c : t0 234 6 ≤ (z : Int)
    · rw [if_pos c, show (t0 234 6).toNat = z by omega]
      exact ⟨hfr, fun k hk => (hh k hk).1⟩
    · rw [if_neg c]
      have zc : (z : Int) < t0 234 6 := by omega
      obtain ⟨n1, n2⟩ := mo_nb (s := s) (t := t0) h.2.2.2.2.2.2.1 (r2_houses h) (z : Int)
      have kb := ch_b hs g 10 (z : Int) (by omega) zc (by omega)
      have eT : (if dc_Plan_neighbour s (z : Int) = (a : Int) then dc_Rows_lookInto_85 (dc_Rows_lookInto_45 n) 9 s (a : Int) (z : Int) (sy_and (sy_shr (dc_St_down s (z : Int)) (a : Int)) 1 + 1) 0 else dc_Rows_lookInto_85 (dc_Rows_lookInto_45 n) 9 s (a : Int) (z : Int) (sy_and (sy_shr (dc_St_down s (z : Int)) (a : Int)) 1 + 0) 0) = dc_Rows_lookInto_85 (dc_Rows_lookInto_45 n) 9 s (a : Int) (z : Int) (tq_t t0 a z) ((0 : Nat) : Int) := by
        rw [n1, ch_C hs g h (by omega) zc, yb_bt kb.1.1 (by omega) (by omega) (by omega), Int.toNat_natCast]
        unfold tq_t
        by_cases q : dc_R_blownTo t0 (z : Int) = (a : Int)
        · rw [if_pos q, if_pos q]
          rfl
        · rw [if_neg q, if_neg q]
          rfl
      rw [eT]
      have eb := an_burns hs h (a := (z : Int)) (by omega) zc
      rw [Int.toNat_natCast, show (2 + (z : Int)).toNat = 2 + z by omega] at eb
      have hr7 : 0 ≤ t0 235 (2 + z) ∧ t0 235 (2 + z) ≤ 7 := by
        obtain ⟨hp, hH, rfl⟩ := hs
        have := sg_wcN 2 11 (lo := 0) (hi := 7) (by decide) (by omega) (by omega) (by omega) (sg_rngW hH (z := 2 + (z : Int)) (by omega) (by omega))
        rw [show (2 + (z : Int)).toNat = 2 + z by omega] at this
        exact this
      obtain ⟨s', r1, r2', r3⟩ := tq_85 (t0 := t0) (a := a) (dc_Rows_lookInto_45 n) (z := z) (by omega) s eb hr7.1 hr7.2 9 s 0 (by omega) (by omega) (fun _ _ _ _ => rfl) (fun k hk => by
        rw [if_neg (by omega)]
        exact hh k hk)
      rw [r1, show ((z : Int) + 1) = ((z + 1 : Nat) : Int) by omega]
      exact ih s' (z + 1) (by omega) (by omega) (fun c j c1 c2 => (r2' c j c1 c2).trans (hfr c j c1 c2)) r3
theorem tq_13 (a : Int) (n : Nat) : ∀ (s : sg_S) (l4 : Nat), l4 ≤ 8 → 8 - l4 < n → (∀ k, k < l4 → s 225 k = 0 ∧ s 226 k = 0) → ∃ s', dc_Rows_lookInto_13 n s a (l4 : Int) = dc_Rows_lookInto_45 10 s' a 0 ∧ (∀ k, k < 8 → s' 225 k = 0 ∧ s' 226 k = 0) ∧ (∀ c j, c ≠ 225 → c ≠ 226 → s' c j = s c j) := by
  induction n with
  | zero => intro s l4 _ hn; exact absurd hn (by omega)
  | succ n ih =>
    intro s l4 h8 hn hz
    rw [dc_Rows_lookInto_13_s]
    by_cases c : 7 < (l4 : Int)
    · rw [if_pos c]
      exact ⟨s, rfl, fun k hk => hz k (by omega), fun _ _ _ _ => rfl⟩
    · rw [if_neg c, Int.toNat_natCast, show ((l4 : Int) + 1) = ((l4 + 1 : Nat) : Int) by omega]
      obtain ⟨s', r1, r2, r3⟩ := ih (sg_up (sg_up s 225 l4 0) 226 l4 0) (l4 + 1) (by omega) (by omega) (fun k hk => by
        by_cases q : k = l4
        · subst q
          refine ⟨?_, sg_eq _ _ _ _⟩
          rw [sg_na (by decide), sg_eq]
        · rw [sg_nk q, sg_nk q, sg_nk q, sg_nk q]
          exact hz k (by omega))
      exact ⟨s', r1, r2, fun c j c1 c2 => by rw [r3 c j c1 c2, sg_na c2, sg_na c1]⟩
/-- what the class looks up -/
theorem tq_look {s t0 : sg_S} {a : Nat} (hs : sv t0) (g : t0 234 6 ≤ 0 ∨ t0 235 11 = -1) (h : r2 s t0) (ha : (a : Int) < t0 234 6) : dc_Rows_lookInto s (a : Int) 224 2 = s 14 a ∧ ∀ k : Nat, k < 8 → tq_H (tq_f t0 (tq_k t0 a k) a (t0 234 6).toNat) (dc_Rows_lookInto s (a : Int) 225 k) (dc_Rows_lookInto s (a : Int) 226 k) := by
  have b := st_b_of hs
  have b0 := b.1
  have b9 := b.2.1
  unfold dc_Rows_lookInto
  rw [Int.toNat_natCast]
  obtain ⟨s', r1, r2', r3⟩ := tq_13 (a : Int) 9 (sg_up s 224 2 (s 14 a)) 0 (by omega) (by omega) (fun k hk => absurd hk (by omega))
  have h2 : r2 s' t0 := r2_fr b (fun c k hc _ => by rw [r3 c k (by omega) (by omega), sg_na (by omega)]) (fun _ _ _ => rfl) (fun _ => rfl) (fun _ => rfl) (fun _ _ => rfl) h
  have w := tq_45 hs g h2 ha 10 s' 0 (by omega) (by omega) (fun _ _ _ _ => rfl) (fun k hk => by
    obtain ⟨q1, q2⟩ := r2' k hk
    rw [q1, q2]
    exact ⟨tq_Hc (fun x => rfl) tq_H0, by omega⟩)
  have r1' : dc_Rows_lookInto_13 9 (sg_up s 224 2 (s 14 a)) (a : Int) 0 = dc_Rows_lookInto_45 10 s' (a : Int) ((0 : Nat) : Int) := r1
  rw [r1']
  refine ⟨?_, w.2⟩
  rw [w.1 224 2 (by decide) (by decide), r3 224 2 (by decide) (by decide), sg_eq]
