/-! BITS, and how many tallies there are -/
theorem tr_bit {a b : Int} (h0 : 0 ≤ a) (h1 : a ≤ 2147483647) (i : Nat) : (sy_and a b).toNat.testBit i = (a.toNat.testBit i && (BitVec.ofInt 32 b).getLsbD i) := by
  have ea : ((a.toNat : Nat) : Int) = a := Int.toNat_of_nonneg h0
  have e : sy_and a b = ((BitVec.ofInt 32 a) &&& (BitVec.ofInt 32 b)).toInt := rfl
  rw [← ea, BitVec.ofInt_natCast] at e
  have hl : (BitVec.ofNat 32 a.toNat &&& BitVec.ofInt 32 b).toNat ≤ a.toNat := by
    rw [BitVec.toNat_and, BitVec.toNat_ofNat, Nat.mod_eq_of_lt (by omega)]
    exact Nat.and_le_left
  rw [BitVec.toInt_eq_toNat_of_lt (by omega)] at e
  rw [ea] at e
  rw [e, Int.toNat_natCast, BitVec.toNat_and, Nat.testBit_and, BitVec.toNat_ofNat, Nat.mod_eq_of_lt (by omega)]
  rfl
theorem tr_kb {k : Int} (h0 : 0 ≤ k) (h1 : k ≤ 2147483647) {i : Nat} (hi : i < 32) : (BitVec.ofInt 32 k).getLsbD i = k.toNat.testBit i := by
  have ea : ((k.toNat : Nat) : Int) = k := Int.toNat_of_nonneg h0
  rw [← ea, BitVec.ofInt_natCast, BitVec.getLsbD_ofNat, Int.toNat_natCast, decide_eq_true hi, Bool.true_and]
theorem tr_xb {k : Int} (h0 : 0 ≤ k) (h1 : k ≤ 2147483647) {i : Nat} (hi : i < 32) : (BitVec.ofInt 32 (sy_xor k (-1))).getLsbD i = !k.toNat.testBit i := by
  have e : Int32.ofInt (sy_xor k (-1)) = Int32.ofInt k ^^^ Int32.ofInt (-1) := by
    unfold sy_xor
    rw [Int32.ofInt_toInt]
  have e2 : BitVec.ofInt 32 (sy_xor k (-1)) = BitVec.ofInt 32 k ^^^ BitVec.allOnes 32 := congrArg Int32.toBitVec e
  rw [e2, BitVec.getLsbD_xor, BitVec.getLsbD_allOnes, tr_kb h0 h1 hi, decide_eq_true hi, Bool.xor_true]
theorem tr_pop {u v : Nat} (h : ∀ i, u.testBit i = true → v.testBit i = true) : ba_pop9 u ≤ ba_pop9 v := by
  have b : ∀ i, (u.testBit i).toNat ≤ (v.testBit i).toNat := fun i => by
    have := h i
    cases hu : u.testBit i
    · exact Nat.zero_le _
    · rw [this hu]
      exact Nat.le_refl _
  have h0 := b 0
  have h1 := b 1
  have h2 := b 2
  have h3 := b 3
  have h4 := b 4
  have h5 := b 5
  have h6 := b 6
  have h7 := b 7
  have h8 := b 8
  unfold ba_pop9
  omega
theorem tr_bc (s : sg_S) {x : Int} (h0 : 0 ≤ x) (h1 : x ≤ 511) : dc_Integer_bitCount s x = (ba_pop9 x.toNat : Int) := by
  have := ba_bc9 x.toNat (by omega)
  rw [Int.toNat_of_nonneg h0] at this
  exact this
def tr_pc (y : Nat) : Nat → Nat
  | 0 => 0
  | h + 1 => tr_pc y h + (y.testBit h).toNat
theorem tr_pc9 (y : Nat) {h : Nat} (h9 : h ≤ 9) : tr_pc y h ≤ ba_pop9 y := by
  have mono : ∀ n, tr_pc y h ≤ tr_pc y (h + n) := fun n => by
    induction n with
    | zero => exact Nat.le_refl _
    | succ n ih =>
      show _ ≤ tr_pc y (h + n) + (y.testBit (h + n)).toNat
      omega
  have a := mono (9 - h)
  rw [show h + (9 - h) = 9 by omega] at a
  have e : tr_pc y 9 = ba_pop9 y := by
    unfold ba_pop9
    show 0 + (y.testBit 0).toNat + (y.testBit 1).toNat + (y.testBit 2).toNat + (y.testBit 3).toNat + (y.testBit 4).toNat + (y.testBit 5).toNat + (y.testBit 6).toNat + (y.testBit 7).toNat + (y.testBit 8).toNat = _
    omega
  omega
theorem tr_num : ∀ p, p < 10 → ∀ a, a < 10 → a ≤ p → a + p ≤ 9 → (p + 1) * (a + 1) ^ 4 ≤ 3750 ∧ (a + 1) ^ 4 ≤ 625 := by decide
theorem tr_Tc {sw : Nat → Int} {S a : Nat} (h0 : ∀ z, 0 ≤ sw z) (ha : ∀ z, sw z ≤ (a : Int)) (hS : sw S = 0) (w : Nat) : tr_T sw w ≤ (((a + 1) ^ (if S < w then w - 1 else w) : Nat) : Int) := by
  induction w with
  | zero =>
    rw [if_neg (by omega)]
    exact Int.le_refl _
  | succ w ih =>
    have t1 := tr_T1 h0 w
    rw [tr_T_s]
    by_cases c : w = S
    · rw [if_neg (by omega)] at ih
      rw [if_pos (by omega), c, hS, Int.zero_add, Int.mul_one, show S + 1 - 1 = S by omega]
      rw [c] at ih
      exact ih
    · have e : (if S < w + 1 then w + 1 - 1 else w + 1) = (if S < w then w - 1 else w) + 1 := by
        by_cases q : S < w
        · rw [if_pos q, if_pos (by omega)]; omega
        · rw [if_neg q, if_neg (by omega)]
      rw [e, Nat.pow_succ, Int.natCast_mul]
      have g1 : tr_T sw w * (sw w + 1) ≤ tr_T sw w * ((a : Int) + 1) := Int.mul_le_mul_of_nonneg_left (by have := ha w; omega) (by omega)
      have g2 : tr_T sw w * ((a : Int) + 1) ≤ (((a + 1) ^ (if S < w then w - 1 else w) : Nat) : Int) * ((a : Int) + 1) := Int.mul_le_mul_of_nonneg_right ih (by omega)
      exact Int.le_trans g1 g2
theorem tr_Tmo {sw : Nat → Int} (h0 : ∀ z, 0 ≤ sw z) (w n : Nat) : tr_T sw w ≤ tr_T sw (w + n) := by
  induction n with
  | zero => exact Int.le_refl _
  | succ n ih =>
    have t1 := tr_T1 h0 (w + n)
    have g : tr_T sw (w + n) * 1 ≤ tr_T sw (w + n) * (sw (w + n) + 1) := Int.mul_le_mul_of_nonneg_left (by have := h0 (w + n); omega) (by omega)
    show _ ≤ tr_T sw (w + n) * (sw (w + n) + 1)
    omega
/-- the room is wide enough -/
theorem tr_room {sw : Nat → Int} {S W p k M : Nat} (h0 : ∀ z, 0 ≤ sw z) (hp : ∀ z, sw z ≤ (p : Int)) (hk : ∀ z, sw z ≤ (k : Int)) (hS : sw S = 0) (SW : S < W) (W5 : W ≤ 5) (h9 : p + k ≤ 9) (hM : M ≤ p) : (∀ w, w ≤ W → tr_T sw w ≤ 625) ∧ ((M : Int) + 1) * tr_T sw W ≤ 3750 := by
  have c := tr_Tc (a := min k p) h0 (fun z => by have := hp z; have := hk z; omega) hS W
  rw [if_pos SW] at c
  have pw : (min k p + 1) ^ (W - 1) ≤ (min k p + 1) ^ 4 := Nat.pow_le_pow_right (by omega) (by omega)
  have nm := tr_num p (by omega) (min k p) (by omega) (by omega) (by omega)
  have cT : tr_T sw W ≤ (((min k p + 1) ^ 4 : Nat) : Int) := by omega
  have t1 := tr_T1 h0 W
  refine ⟨fun w hw => ?_, ?_⟩
  · have m := tr_Tmo h0 w (W - w)
    rw [show w + (W - w) = W by omega] at m
    have := nm.2
    omega
  · have g1 : ((M : Int) + 1) * tr_T sw W ≤ ((p : Int) + 1) * tr_T sw W := Int.mul_le_mul_of_nonneg_right (by omega) (by omega)
    have g2 : ((p : Int) + 1) * tr_T sw W ≤ ((p : Int) + 1) * (((min k p + 1) ^ 4 : Nat) : Int) := Int.mul_le_mul_of_nonneg_left cT (by omega)
    have g3 : ((p : Int) + 1) * (((min k p + 1) ^ 4 : Nat) : Int) = (((p + 1) * (min k p + 1) ^ 4 : Nat) : Int) := by
      rw [Int.natCast_mul]
      rfl
    have := nm.1
    omega
/-! the tallies are listed -/
theorem tr_118 (k15 : sg_S → Int → Int → Int → sg_S) (l1 l2 : Int) (z : Nat) (st T' : Int) (st1 : 1 ≤ st) (T625 : T' ≤ 625) (n : Nat) : ∀ (s : sg_S) (u : Nat), s 227 7 = T' → s 231 z = st → st ≤ (u : Int) → (u : Int) ≤ T' → T' - (u : Int) < (n : Int) → (∀ v : Nat, v < u → 0 ≤ s 232 v ∧ s 232 v ≤ (v : Int)) → ∃ s', dc_Ba_listTallies_118 k15 n s l1 l2 (z : Int) (u : Int) = k15 s' l1 l2 ((z : Int) + 1) ∧ (∀ c k, c ≠ 232 → s' c k = s c k) ∧ (∀ v : Nat, v < u → s' 232 v = s 232 v) ∧ (∀ v : Nat, u ≤ v → (v : Int) < T' → s' 232 v = s' 232 (((v : Int) - st).toNat) + 1) ∧ (∀ v : Nat, (v : Int) < T' → 0 ≤ s' 232 v ∧ s' 232 v ≤ (v : Int)) := by
  induction n with
  | zero => intro s u _ _ _ h hn; exact absurd hn (by omega)
  | succ n ih =>
    intro s u h7 hst hu hT hn hb
    rw [dc_Ba_listTallies_118_s, h7]
    by_cases c : T' ≤ (u : Int)
    · rw [if_pos c]
      exact ⟨s, rfl, fun _ _ _ => rfl, fun _ _ => rfl, fun v v1 v2 => absurd v1 (by omega), fun v hv => hb v (by omega)⟩
    · rw [if_neg c, Int.toNat_natCast, Int.toNat_natCast, hst, show ((u : Int) + 1) = ((u + 1 : Nat) : Int) by omega]
      have bb := hb ((u : Int) - st).toNat (by omega)
      have ev : sy_w (s 232 (((u : Int) - st).toNat) + 1) = s 232 (((u : Int) - st).toNat) + 1 := sy_w_id ⟨by omega, by omega⟩
      rw [ev]
      obtain ⟨s', r1, r2, r3, r4, r5⟩ := ih (sg_up s 232 u (s 232 (((u : Int) - st).toNat) + 1)) (u + 1) (by rw [sg_na (by decide)]; exact h7) (by rw [sg_na (by decide)]; exact hst) (by omega) (by omega) (by omega) (fun v hv => by
        by_cases q : v = u
        · rw [q, sg_eq]; omega
        · rw [sg_nk q]; exact hb v (by omega))
      refine ⟨s', r1, fun c k hc => by rw [r2 c k hc, sg_na hc], fun v hv => by rw [r3 v (by omega), sg_nk (by omega)], fun v v1 v2 => ?_, r5⟩
      by_cases q : v = u
      · subst q
        rw [r3 v (by omega), r3 _ (by omega), sg_eq, sg_nk (by omega)]
      · exact r4 v (by omega) v2
theorem tr_15 {sw K : Nat → Int} {S : Nat} {miss : Int} {W : Nat} (hsw : ∀ z, z < W → sw z = min (dc_Integer_bitCount (fun _ _ => 0) (sy_and (K S) (sy_xor (K z) (-1)))) (dc_Integer_bitCount (fun _ _ => 0) (sy_and miss (K z)))) (h0 : ∀ z, 0 ≤ sw z) (SW : S < W) (hT : ∀ w, w ≤ W → tr_T sw w ≤ 625) (s0 : sg_S) (n : Nat) : ∀ (s : sg_S) (z : Nat), z ≤ W → W - z < n → s 8 4 = (W : Int) → (∀ y, y < W → s 17 y = K y) → s 227 7 = tr_T sw z → s 227 6 = s0 227 6 → (∀ c k, c ≠ 227 → c ≠ 230 → c ≠ 231 → c ≠ 232 → s c k = s0 c k) → (∀ y, y < z → s 230 y = sw y ∧ s 231 y = tr_T sw y) → (∀ d, tr_v sw d → s 232 ((tr_e sw d z).toNat) = tr_s d z) → (∀ v : Nat, (v : Int) < tr_T sw z → 0 ≤ s 232 v ∧ s 232 v ≤ (v : Int)) → (∀ c k, c ≠ 227 → c ≠ 230 → c ≠ 231 → c ≠ 232 → dc_Ba_listTallies_15 n s (S : Int) miss (z : Int) c k = s0 c k) ∧ dc_Ba_listTallies_15 n s (S : Int) miss (z : Int) 227 6 = s0 227 6 ∧ dc_Ba_listTallies_15 n s (S : Int) miss (z : Int) 227 7 = tr_T sw W ∧ (∀ y, y < W → dc_Ba_listTallies_15 n s (S : Int) miss (z : Int) 230 y = sw y ∧ dc_Ba_listTallies_15 n s (S : Int) miss (z : Int) 231 y = tr_T sw y) ∧ tr_sp (dc_Ba_listTallies_15 n s (S : Int) miss (z : Int)) W sw := by
  induction n with
  | zero => intro s z _ hn; exact absurd hn (by omega)
  | succ n ih =>
    intro s z hz hn h84 hK h7 h6 hfr h23 hsp hb
    rw [dc_Ba_listTallies_15_s, h84]
    by_cases c : (W : Int) ≤ (z : Int)
    · have ez : z = W := by omega
      rw [if_pos c]
      rw [ez] at h7 h23 hsp
      exact ⟨hfr, h6, h7, h23, hsp⟩
    · rw [if_neg c, Int.toNat_natCast, Int.toNat_natCast, hK z (by omega), hK S SW, h7]
      have ex : min (dc_Integer_bitCount s (sy_and (K S) (sy_xor (K z) (-1)))) (dc_Integer_bitCount s (sy_and miss (K z))) = sw z := (hsw z (by omega)).symm
      rw [ex]
      have t1 := tr_T1 h0 z
      have t2 := hT (z + 1) (by omega)
      have t3 := tr_Tmo h0 z 1
      have et : min (tr_T sw z * (sw z + 1)) 625 = tr_T sw (z + 1) := by
        rw [← tr_T_s]
        omega
      rw [et]
      generalize hs1 : sg_up (sg_up (sg_up s 230 z (sw z)) 231 z (tr_T sw z)) 227 7 (tr_T sw (z + 1)) = s1
      have f7 : s1 227 7 = tr_T sw (z + 1) := by rw [← hs1, sg_eq]
      have f6 : s1 227 6 = s 227 6 := by rw [← hs1, sg_nk (by decide), sg_na (by decide), sg_na (by decide)]
      have f1 : ∀ c k, c ≠ 227 → c ≠ 230 → c ≠ 231 → s1 c k = s c k := fun c k c1 c2 c3 => by rw [← hs1, sg_na c1, sg_na c3, sg_na c2]
      have f230 : ∀ y, s1 230 y = if y = z then sw z else s 230 y := fun y => by
        rw [← hs1, sg_na (by decide), sg_na (by decide)]
        by_cases q : y = z
        · rw [if_pos q, q, sg_eq]
        · rw [if_neg q, sg_nk q]
      have f231 : ∀ y, s1 231 y = if y = z then tr_T sw z else s 231 y := fun y => by
        rw [← hs1, sg_na (by decide)]
        by_cases q : y = z
        · rw [if_pos q, q, sg_eq]
        · rw [if_neg q, sg_nk q, sg_na (by decide)]
      have eu : (((tr_T sw z).toNat : Nat) : Int) = tr_T sw z := Int.toNat_of_nonneg (by omega)
      obtain ⟨s', r1, r2, r3, r4, r5⟩ := tr_118 (dc_Ba_listTallies_15 n) (S : Int) miss z (tr_T sw z) (tr_T sw (z + 1)) t1 t2 626 s1 (tr_T sw z).toNat f7 (by rw [f231, if_pos rfl]) (by omega) (by omega) (by omega) (fun v hv => by rw [f1 232 v (by decide) (by decide) (by decide)]; exact hb v (by omega))
      rw [eu] at r1
      rw [r1, show ((z : Int) + 1) = ((z + 1 : Nat) : Int) by omega]
      refine ih s' (z + 1) (by omega) (by omega) (by rw [r2 8 4 (by decide), f1 8 4 (by decide) (by decide) (by decide)]; exact h84) (fun y hy => by rw [r2 17 y (by decide), f1 17 y (by decide) (by decide) (by decide)]; exact hK y hy) (by rw [r2 227 7 (by decide)]; exact f7) (by rw [r2 227 6 (by decide), f6]; exact h6) (fun c k c1 c2 c3 c4 => by rw [r2 c k c4, f1 c k c1 c2 c3]; exact hfr c k c1 c2 c3 c4) (fun y hy => by
        rw [r2 230 y (by decide), r2 231 y (by decide), f230, f231]
        by_cases q : y = z
        · rw [if_pos q, if_pos q, q]; exact ⟨rfl, rfl⟩
        · rw [if_neg q, if_neg q]; exact h23 y (by omega)) (fun d hd => ?_) r5
      have e1 := tr_e1 h0 hd z
      have eT := tr_Ts (sw := sw) z
      have up : ∀ k : Nat, (k : Int) ≤ sw z → s' 232 ((tr_e sw d z + (k : Int) * tr_T sw z).toNat) = tr_s d z + (k : Int) := fun k => by
        induction k with
        | zero =>
          intro _
          rw [show ((0 : Nat) : Int) = 0 from rfl, Int.zero_mul, Int.add_zero, Int.add_zero, r3 _ (by omega), f1 232 _ (by decide) (by decide) (by decide)]
          exact hsp d hd
        | succ k ihk =>
          intro hk
          have a1 : ((k + 1 : Nat) : Int) * tr_T sw z = (k : Int) * tr_T sw z + tr_T sw z := by
            rw [show ((k + 1 : Nat) : Int) = (k : Int) + 1 by omega, Int.add_mul, Int.one_mul]
          have a2 : ((k + 1 : Nat) : Int) * tr_T sw z ≤ sw z * tr_T sw z := Int.mul_le_mul_of_nonneg_right hk (by omega)
          have a3 : 0 ≤ (k : Int) * tr_T sw z := Int.mul_nonneg (by omega) (by omega)
          have w := ihk (by omega)
          rw [a1] at a2 ⊢
          have e5 : ((((tr_e sw d z + ((k : Int) * tr_T sw z + tr_T sw z)).toNat : Nat) : Int) - tr_T sw z).toNat = (tr_e sw d z + (k : Int) * tr_T sw z).toNat := by omega
          rw [r4 _ (by omega) (by omega), e5, w]
          omega
      have := up (d z).toNat (by have := (hd z).2; have := (hd z).1; omega)
      rw [Int.toNat_of_nonneg (hd z).1] at this
      rw [tr_e_s, tr_s_s]
      exact this
