/-! INTERVALS: bounds of the ints that an instruction makes -/
abbrev ab_I : Type := Int × Int
def ab_top : ab_I := (-2147483648, 2147483647)
def ab_ltop : ab_I := (-9223372036854775808, 9223372036854775807)
def ab_fit (p : ab_I) : ab_I := if -2147483648 ≤ p.1 ∧ p.2 ≤ 2147483647 then p else ab_top
def ab_lfit (p : ab_I) : ab_I := if -9223372036854775808 ≤ p.1 ∧ p.2 ≤ 9223372036854775807 then p else ab_ltop
def ab_i (p : ab_I) (x : Int) : Prop := p.1 ≤ x ∧ x ≤ p.2
theorem ab_i_top (x : Int32) : ab_i ab_top x.toInt := by
  have h1 := Int32.le_toInt x
  have h2 := Int32.toInt_lt x
  unfold ab_i ab_top
  constructor <;> simp only <;> omega
theorem ab_i_ltop (x : Int64) : ab_i ab_ltop x.toInt := by
  have h1 := Int64.le_toInt x
  have h2 := Int64.toInt_lt x
  unfold ab_i ab_ltop
  constructor <;> simp only <;> omega
theorem ab_bmod {z : Int} (h1 : -2147483648 ≤ z) (h2 : z ≤ 2147483647) : z.bmod (2 ^ 32) = z := by
  rw [show (2 ^ 32 : Nat) = 4294967296 from rfl]
  simp only [Int.bmod]
  split <;> omega
theorem ab_lbmod {z : Int} (h1 : -9223372036854775808 ≤ z) (h2 : z ≤ 9223372036854775807) : z.bmod (2 ^ 64) = z := by
  rw [show (2 ^ 64 : Nat) = 18446744073709551616 from rfl]
  simp only [Int.bmod]
  split <;> omega
/-- what a number z has, an int of it has, if the bounds fit -/
theorem ab_fit_ok {p : ab_I} {z : Int} {x : Int32} (hx : x.toInt = z.bmod (2 ^ 32)) (h : ab_i p z) : ab_i (ab_fit p) x.toInt := by
  unfold ab_fit
  split
  · rename_i hh
    obtain ⟨h1, h2⟩ := h
    rw [hx, ab_bmod (by omega) (by omega)]
    exact ⟨h1, h2⟩
  · exact ab_i_top x
theorem ab_lfit_ok {p : ab_I} {z : Int} {x : Int64} (hx : x.toInt = z.bmod (2 ^ 64)) (h : ab_i p z) : ab_i (ab_lfit p) x.toInt := by
  unfold ab_lfit
  split
  · rename_i hh
    obtain ⟨h1, h2⟩ := h
    rw [hx, ab_lbmod (by omega) (by omega)]
    exact ⟨h1, h2⟩
  · exact ab_i_ltop x
def ab_add (p q : ab_I) : ab_I := (p.1 + q.1, p.2 + q.2)
def ab_sub (p q : ab_I) : ab_I := (p.1 - q.2, p.2 - q.1)
def ab_mul (p q : ab_I) : ab_I := (min (min (p.1 * q.1) (p.1 * q.2)) (min (p.2 * q.1) (p.2 * q.2)), max (max (p.1 * q.1) (p.1 * q.2)) (max (p.2 * q.1) (p.2 * q.2)))
theorem ab_add_ok {p q : ab_I} {x y : Int} (hx : ab_i p x) (hy : ab_i q y) : ab_i (ab_add p q) (x + y) := by
  obtain ⟨a, b⟩ := hx
  obtain ⟨c, d⟩ := hy
  constructor <;> simp only [ab_add] <;> omega
theorem ab_sub_ok {p q : ab_I} {x y : Int} (hx : ab_i p x) (hy : ab_i q y) : ab_i (ab_sub p q) (x - y) := by
  obtain ⟨a, b⟩ := hx
  obtain ⟨c, d⟩ := hy
  constructor <;> simp only [ab_sub] <;> omega
/-- a product with y fixed lies between those with x's bounds -/
theorem ab_mul_1 {a b x y : Int} (h1 : a ≤ x) (h2 : x ≤ b) : min (a * y) (b * y) ≤ x * y ∧ x * y ≤ max (a * y) (b * y) := by
  by_cases hy : 0 ≤ y
  · have e1 := Int.mul_le_mul_of_nonneg_right h1 hy
    have e2 := Int.mul_le_mul_of_nonneg_right h2 hy
    omega
  · have e1 := Int.mul_le_mul_of_nonpos_right h1 (show y ≤ 0 by omega)
    have e2 := Int.mul_le_mul_of_nonpos_right h2 (show y ≤ 0 by omega)
    omega
theorem ab_mul_ok {p q : ab_I} {x y : Int} (hx : ab_i p x) (hy : ab_i q y) : ab_i (ab_mul p q) (x * y) := by
  obtain ⟨a, b⟩ := hx
  obtain ⟨c, d⟩ := hy
  have e1 := ab_mul_1 (y := y) a b
  have e2 := ab_mul_1 (y := p.1) c d
  have e3 := ab_mul_1 (y := p.2) c d
  rw [Int.mul_comm q.1 p.1, Int.mul_comm q.2 p.1, Int.mul_comm y p.1] at e2
  rw [Int.mul_comm q.1 p.2, Int.mul_comm q.2 p.2, Int.mul_comm y p.2] at e3
  constructor <;> simp only [ab_mul] <;> omega
/-- the bits of a number that is not below 0 -/
theorem ab_nat {x : Int32} (h : 0 ≤ x.toInt) : x.toInt = (x.toBitVec.toNat : Int) := by
  have h1 := x.toBitVec.isLt
  have e : x.toInt = x.toBitVec.toInt := rfl
  rw [e] at h ⊢
  rw [BitVec.toInt_eq_toNat_cond] at h ⊢
  split
  · rfl
  · rename_i q
    rw [if_neg q] at h
    omega
theorem ab_nat_of {x : Int32} (h : x.toBitVec.toNat < 2147483648) : x.toInt = (x.toBitVec.toNat : Int) := by
  have e : x.toInt = x.toBitVec.toInt := rfl
  rw [e, BitVec.toInt_eq_toNat_cond, if_pos (by omega)]
theorem ab_nat_lt {x : Int32} (h : 0 ≤ x.toInt) : x.toBitVec.toNat < 2147483648 := by
  have h2 := Int32.toInt_lt x
  have h3 := ab_nat h
  omega
def ab_and (p q : ab_I) : ab_I := if 0 ≤ p.1 then (if 0 ≤ q.1 then (0, min p.2 q.2) else (0, p.2)) else if 0 ≤ q.1 then (0, q.2) else ab_top
theorem ab_and_l {x y : Int32} (h : 0 ≤ x.toInt) : 0 ≤ (x &&& y).toInt ∧ (x &&& y).toInt ≤ x.toInt := by
  have h1 := ab_nat h
  have h2 := ab_nat_lt h
  have e : (x &&& y).toBitVec.toNat = x.toBitVec.toNat &&& y.toBitVec.toNat := by rw [Int32.toBitVec_and, BitVec.toNat_and]
  have h3 : x.toBitVec.toNat &&& y.toBitVec.toNat ≤ x.toBitVec.toNat := Nat.and_le_left
  have h4 := ab_nat_of (x := x &&& y) (by omega)
  omega
theorem ab_and_ok {p q : ab_I} {x y : Int32} (hx : ab_i p x.toInt) (hy : ab_i q y.toInt) : ab_i (ab_and p q) (x &&& y).toInt := by
  obtain ⟨a, b⟩ := hx
  obtain ⟨c, d⟩ := hy
  have ec : y &&& x = x &&& y := Int32.and_comm y x
  unfold ab_and
  split
  · have e1 := ab_and_l (x := x) (y := y) (by omega)
    split
    · have e2 := ab_and_l (x := y) (y := x) (by omega)
      rw [ec] at e2
      constructor <;> simp only <;> omega
    · constructor <;> simp only <;> omega
  · split
    · have e2 := ab_and_l (x := y) (y := x) (by omega)
      rw [ec] at e2
      constructor <;> simp only <;> omega
    · exact ab_i_top _
def ab_or (p q : ab_I) : ab_I := if 0 ≤ p.1 ∧ 0 ≤ q.1 then (0, (2 ^ ((max p.2.toNat q.2.toNat).log2 + 1) : Nat) - 1) else ab_top
theorem ab_or_ok {p q : ab_I} {x y : Int32} (hx : ab_i p x.toInt) (hy : ab_i q y.toInt) : ab_i (ab_or p q) (x ||| y).toInt := by
  obtain ⟨a, b⟩ := hx
  obtain ⟨c, d⟩ := hy
  unfold ab_or
  split
  · rename_i hh
    have h1 := ab_nat (x := x) (by omega)
    have h2 := ab_nat (x := y) (by omega)
    have l1 := ab_nat_lt (x := x) (by omega)
    have l2 := ab_nat_lt (x := y) (by omega)
    have e : (x ||| y).toBitVec.toNat = x.toBitVec.toNat ||| y.toBitVec.toNat := by rw [Int32.toBitVec_or, BitVec.toNat_or]
    have g1 : x.toBitVec.toNat ||| y.toBitVec.toNat < 2 ^ 31 := Nat.or_lt_two_pow (by omega) (by omega)
    have g2 : x.toBitVec.toNat ||| y.toBitVec.toNat < 2 ^ ((max p.2.toNat q.2.toNat).log2 + 1) := by
      have hm : max p.2.toNat q.2.toNat < 2 ^ ((max p.2.toNat q.2.toNat).log2 + 1) := Nat.lt_log2_self
      exact Nat.or_lt_two_pow (by omega) (by omega)
    have h4 := ab_nat_of (x := x ||| y) (by omega)
    constructor
    · simp only; omega
    · simp only
      have g3 : 1 ≤ 2 ^ ((max p.2.toNat q.2.toNat).log2 + 1) := Nat.one_le_two_pow
      omega
  · exact ab_i_top _
