/-! Arguments and answers of summaries -/
theorem sy_args1 {V : ab_V} {As : List ab_V} {vs : List Value} (h : ab_args ab_ty (V :: As) vs) : ∃ v vs', vs = v :: vs' ∧ ab_m ab_ty V v ∧ ab_args ab_ty As vs' := by
  cases vs with
  | nil => exact absurd h (by simp [ab_args])
  | cons v vs => exact ⟨v, vs, rfl, h.1, h.2⟩
theorem sy_args0 {vs : List Value} (h : ab_args ab_ty [] vs) : vs = [] := by
  cases vs with
  | nil => rfl
  | cons v vs => exact absurd h (by simp [ab_args])
theorem sy_retI {lo hi : Int} {o : Nat} {r : Option Value} (h : ab_ret ab_ty (some (0, lo, hi, o)) r) : ∃ z, r = some (sy_i z) ∧ lo ≤ z ∧ z ≤ hi ∧ -2147483648 ≤ z ∧ z ≤ 2147483647 := by
  cases r with
  | none => exact absurd h (by simp [ab_ret])
  | some v =>
    obtain ⟨z, e, q⟩ := sy_int (show ab_m ab_ty (0, lo, hi, o) v from h)
    exact ⟨z, by rw [e], q⟩
theorem sy_retN {r : Option Value} (h : ab_ret ab_ty none r) : r = none := by
  cases r with
  | none => rfl
  | some v => exact absurd h (by simp [ab_ret])
theorem sy_out1 {R : Option ab_V} {O : List ab_V} {out : ab_O} (h : out ∈ [(R, O)]) : out = (R, O) := List.mem_singleton.mp h
theorem sy_out2 {o1 o2 : ab_O} {out : ab_O} (h : out ∈ [o1, o2]) : out = o1 ∨ out = o2 := by simpa using h
theorem sy_out3 {o1 o2 o3 : ab_O} {out : ab_O} (h : out ∈ [o1, o2, o3]) : out = o1 ∨ out = o2 ∨ out = o3 := by simpa using h
theorem sy_narc {z : Int} (h1 : 0 ≤ z) (h2 : z ≤ 65535) : narrow .char (sy_i z) = sy_i z := sy_nar (tg := 101) (Or.inr (Or.inr ⟨rfl, h1, h2⟩))
theorem sy_retc {M : mj_M} {pc : Nat} {lv : mj_L} {h : mj_H} {Q : Option Value → mj_H → Prop} {z : Int} (hd : decode M.2.1 pc = .ok (.ireturn, 1)) (hr : M.2.2.2.1 = some .char) (hz : 0 ≤ z ∧ z ≤ 65535) (q : Q (some (sy_i z)) h) : sy_wp (M, pc, lv, [sy_i z], h) Q :=
  sy_ret hd hr (sy_narc hz.1 hz.2) q
theorem sy_i2l {M : mj_M} {pc : Nat} {lv : mj_L} {st : List Value} {h : mj_H} {Q : Option Value → mj_H → Prop} {a : Int} (hd : decode M.2.1 pc = .ok (.i2l, 1)) (ra : -2147483648 ≤ a ∧ a ≤ 2147483647) (kk : sy_wp (M, pc + 1, lv, sy_l a :: st, h) Q) : sy_wp (M, pc, lv, sy_i a :: st, h) Q := by
  refine sy_st (S' := (M, pc + 1, lv, sy_l a :: st, h)) hd (fun kc k => ?_) kk
  have e : (Int32.ofInt a).toInt64 = Int64.ofInt a := by
    apply Int64.toInt_inj.mp
    rw [Int32.toInt_toInt64, sy_toInt ra, Int64.toInt_ofInt, ab_lbmod (by omega) (by omega)]
  simp only [mj_do, mj_br, mj_loc, mj_alu, sy_i, sy_l, if_true, e]
