/-! INTERVALS of shifts, quotients, remainders; longs -/
theorem ab_sl : ∀ n, n < 32 → ((nI n &&& 31).toBitVec.smod 32).toNat = n := by decide +kernel
theorem ab_nI {y : Int32} {n : Nat} (h : y.toInt = (n : Int)) : y = nI n := by
  apply Int32.toInt_inj.mp
  have h2 := Int32.toInt_lt y
  have e : (nI n).toInt = (n : Int) := by
    unfold nI
    rw [Int32.toInt_ofNat', ab_bmod (by omega) (by omega)]
  rw [h, e]
theorem ab_shl_nat (x : Int32) {n : Nat} (hn : n < 32) : (x <<< (nI n &&& 31)).toBitVec.toNat = (x.toBitVec.toNat * 2 ^ n) % 4294967296 := by
  have e : (x <<< (nI n &&& 31)).toBitVec = x.toBitVec <<< ((nI n &&& 31).toBitVec.smod 32) := rfl
  rw [e, BitVec.shiftLeft_eq', BitVec.toNat_shiftLeft, ab_sl n hn, Nat.shiftLeft_eq]
def ab_shl (p q : ab_I) : ab_I := if 0 ≤ p.1 ∧ 0 ≤ q.1 ∧ q.2 ≤ 31 ∧ p.2 * (2 ^ q.2.toNat : Nat) ≤ 2147483647 then (p.1 * (2 ^ q.1.toNat : Nat), p.2 * (2 ^ q.2.toNat : Nat)) else ab_top
theorem ab_shl_ok {p q : ab_I} {x y : Int32} (hx : ab_i p x.toInt) (hy : ab_i q y.toInt) : ab_i (ab_shl p q) (x <<< (y &&& 31)).toInt := by
  obtain ⟨a, b⟩ := hx
  obtain ⟨c, d⟩ := hy
  unfold ab_shl
  split
  · rename_i hh
    obtain ⟨g1, g2, g3, g4⟩ := hh
    obtain ⟨n, hn⟩ : ∃ n : Nat, y.toInt = (n : Int) := ⟨y.toInt.toNat, by omega⟩
    have e := ab_nI hn
    subst e
    have h1 := ab_nat (x := x) (by omega)
    have hl := ab_shl_nat x (n := n) (by omega)
    have k1 : 2 ^ q.1.toNat ≤ 2 ^ n := Nat.pow_le_pow_right (by decide) (by omega)
    have k2 : 2 ^ n ≤ 2 ^ q.2.toNat := Nat.pow_le_pow_right (by decide) (by omega)
    have m2 : x.toInt * (2 ^ n : Nat) ≤ p.2 * (2 ^ q.2.toNat : Nat) := by
      have z1 : x.toInt * ((2 ^ n : Nat) : Int) ≤ x.toInt * ((2 ^ q.2.toNat : Nat) : Int) := Int.mul_le_mul_of_nonneg_left (by exact_mod_cast k2) (by omega)
      have z2 : x.toInt * ((2 ^ q.2.toNat : Nat) : Int) ≤ p.2 * ((2 ^ q.2.toNat : Nat) : Int) := Int.mul_le_mul_of_nonneg_right b (Int.natCast_nonneg _)
      omega
    have m1 : p.1 * (2 ^ q.1.toNat : Nat) ≤ x.toInt * (2 ^ n : Nat) := by
      have z1 : p.1 * ((2 ^ q.1.toNat : Nat) : Int) ≤ p.1 * ((2 ^ n : Nat) : Int) := Int.mul_le_mul_of_nonneg_left (by exact_mod_cast k1) g1
      have z2 : p.1 * ((2 ^ n : Nat) : Int) ≤ x.toInt * ((2 ^ n : Nat) : Int) := Int.mul_le_mul_of_nonneg_right a (Int.natCast_nonneg _)
      omega
    have en : ((x.toBitVec.toNat * 2 ^ n : Nat) : Int) = x.toInt * (2 ^ n : Nat) := by rw [h1]; push_cast; rfl
    have hlt : x.toBitVec.toNat * 2 ^ n < 2147483648 := by omega
    rw [Nat.mod_eq_of_lt (by omega)] at hl
    have h4 := ab_nat_of (x := x <<< (nI n &&& 31)) (by omega)
    constructor <;> simp only <;> omega
  · exact ab_i_top _
def ab_shr (p : ab_I) : ab_I := (min p.1 0, max p.2 0)
theorem ab_shr_ok {p : ab_I} {x y : Int32} (hx : ab_i p x.toInt) : ab_i (ab_shr p) (x >>> (y &&& 31)).toInt := by
  obtain ⟨a, b⟩ := hx
  have e : (x >>> (y &&& 31)).toInt = (x.toBitVec.sshiftRight' ((y &&& 31).toBitVec.smod 32)).toInt := rfl
  have e2 : (x.toBitVec.sshiftRight' ((y &&& 31).toBitVec.smod 32)).toInt = x.toInt >>> ((y &&& 31).toBitVec.smod 32).toNat := by
    show (x.toBitVec.sshiftRight ((y &&& 31).toBitVec.smod 32).toNat).toInt = _
    rw [BitVec.toInt_sshiftRight]
    rfl
  rw [e, e2, Int.shiftRight_eq_div_pow]
  generalize ((y &&& 31).toBitVec.smod 32).toNat = n
  have hp : (0 : Int) < ((2 ^ n : Nat) : Int) := by exact_mod_cast Nat.two_pow_pos n
  unfold ab_i ab_shr
  by_cases hz : 0 ≤ x.toInt
  · have k1 := Int.ediv_nonneg hz (Int.le_of_lt hp)
    have k2 := Int.ediv_le_self ((2 ^ n : Nat) : Int) hz
    constructor <;> simp only <;> omega
  · have k1 : x.toInt / ((2 ^ n : Nat) : Int) < 0 := Int.ediv_neg_of_neg_of_pos (by omega) hp
    have k2 : x.toInt ≤ x.toInt / ((2 ^ n : Nat) : Int) := by
      rw [Int.le_ediv_iff_mul_le hp]
      generalize ((2 ^ n : Nat) : Int) = P at hp ⊢
      have hz2 := Int.mul_nonneg (show 0 ≤ -x.toInt by omega) (show 0 ≤ P - 1 by omega)
      rw [Int.mul_sub, Int.mul_one, Int.neg_mul] at hz2
      omega
    constructor <;> simp only <;> omega
def ab_div (p q : ab_I) : ab_I := if 0 ≤ p.1 ∧ 1 ≤ q.1 then (0, p.2 / q.1) else ab_top
def ab_rem (p q : ab_I) : ab_I := if 0 ≤ p.1 ∧ 1 ≤ q.1 then (0, min p.2 (q.2 - 1)) else ab_top
theorem ab_quot {p q : ab_I} {x y : Int} (hx : ab_i p x) (hy : ab_i q y) (h1 : 0 ≤ p.1) (h2 : 1 ≤ q.1) : 0 ≤ x / y ∧ x / y ≤ p.2 / q.1 ∧ x / y ≤ x ∧ 0 ≤ x % y ∧ x % y < y ∧ x % y ≤ x := by
  obtain ⟨a, b⟩ := hx
  obtain ⟨c, d⟩ := hy
  have k1 := Int.ediv_nonneg (show 0 ≤ x by omega) (show 0 ≤ y by omega)
  have k2 := Int.emod_nonneg x (show y ≠ 0 by omega)
  have k3 := Int.emod_lt_of_pos x (show 0 < y by omega)
  have k4 := Int.mul_ediv_add_emod x y
  have k5 := Int.mul_nonneg (show 0 ≤ y by omega) k1
  have k6 := Int.ediv_le_self y (show 0 ≤ x by omega)
  refine ⟨k1, ?_, k6, k2, k3, by omega⟩
  rw [Int.le_ediv_iff_mul_le (by omega)]
  have z1 : x / y * q.1 ≤ x / y * y := Int.mul_le_mul_of_nonneg_left c k1
  rw [Int.mul_comm (x / y) y] at z1
  omega
theorem ab_div_ok {p q : ab_I} {x y : Int32} (hx : ab_i p x.toInt) (hy : ab_i q y.toInt) : ab_i (ab_div p q) (x / y).toInt := by
  unfold ab_div
  split
  · rename_i hh
    have k := ab_quot hx hy hh.1 hh.2
    have hb := Int32.toInt_lt x
    have e : (x / y).toInt = x.toInt / y.toInt := by
      rw [Int32.toInt_div, Int.tdiv_eq_ediv_of_nonneg (by have := hx.1; omega), ab_bmod (by omega) (by omega)]
    rw [e]
    exact ⟨k.1, k.2.1⟩
  · exact ab_i_top _
theorem ab_rem_ok {p q : ab_I} {x y : Int32} (hx : ab_i p x.toInt) (hy : ab_i q y.toInt) : ab_i (ab_rem p q) (x - x / y * y).toInt := by
  unfold ab_rem
  split
  · rename_i hh
    have k := ab_quot hx hy hh.1 hh.2
    have e : (x - x / y * y).toInt = x.toInt % y.toInt := by
      rw [rem_toInt, Int.tmod_eq_emod_of_nonneg (by have := hx.1; omega)]
    rw [e]
    have := hx.2
    have := hy.2
    constructor <;> simp only <;> omega
  · exact ab_i_top _
def ab_ldiv (p q : ab_I) : ab_I := if 0 ≤ p.1 ∧ 1 ≤ q.1 then (0, p.2 / q.1) else ab_ltop
def ab_lrem (p q : ab_I) : ab_I := if 0 ≤ p.1 ∧ 1 ≤ q.1 then (0, min p.2 (q.2 - 1)) else ab_ltop
theorem ab_ldiv_eq {p q : ab_I} {x y : Int64} (hx : ab_i p x.toInt) (hy : ab_i q y.toInt) (h1 : 0 ≤ p.1) (h2 : 1 ≤ q.1) : (x / y).toInt = x.toInt / y.toInt := by
  have k := ab_quot hx hy h1 h2
  have hb := Int64.toInt_lt x
  rw [Int64.toInt_div, Int.tdiv_eq_ediv_of_nonneg (by have := hx.1; omega), ab_lbmod (by omega) (by omega)]
theorem ab_ldiv_ok {p q : ab_I} {x y : Int64} (hx : ab_i p x.toInt) (hy : ab_i q y.toInt) : ab_i (ab_ldiv p q) (x / y).toInt := by
  unfold ab_ldiv
  split
  · rename_i hh
    have k := ab_quot hx hy hh.1 hh.2
    rw [ab_ldiv_eq hx hy hh.1 hh.2]
    exact ⟨k.1, k.2.1⟩
  · exact ab_i_ltop _
theorem ab_lrem_ok {p q : ab_I} {x y : Int64} (hx : ab_i p x.toInt) (hy : ab_i q y.toInt) : ab_i (ab_lrem p q) (x - x / y * y).toInt := by
  unfold ab_lrem
  split
  · rename_i hh
    have k := ab_quot hx hy hh.1 hh.2
    have hb := Int64.toInt_lt x
    have e0 := ab_ldiv_eq hx hy hh.1 hh.2
    have k4 := Int.mul_ediv_add_emod x.toInt y.toInt
    rw [Int.mul_comm] at k4
    have k5 := Int.mul_nonneg k.1 (show 0 ≤ y.toInt by have := hy.1; omega)
    have e1 : (x / y * y).toInt = x.toInt / y.toInt * y.toInt := by
      rw [Int64.toInt_mul, e0, ab_lbmod (by omega) (by omega)]
    have e : (x - x / y * y).toInt = x.toInt % y.toInt := by
      rw [Int64.toInt_sub, e1, ab_lbmod (by omega) (by omega)]
      omega
    rw [e]
    have := hx.2
    have := hy.2
    constructor <;> simp only <;> omega
  · exact ab_i_ltop _
