/-! WEAKEST CONDITIONS over the small machine: ints as numbers, cells by their place -/
def sy_i (z : Int) : Value := .int (Int32.ofInt z)
def sy_l (z : Int) : Value := .long (Int64.ofInt z)
def sy_wp (S : mj_S) (Q : Option Value → mj_H → Prop) : Prop := ∃ r h', mj_runs S r h' ∧ Q r h'
abbrev sy_H (h : mj_H) : Prop := ab_H ab_ty ab_TT h
def sy_at (xs : List Value) (k : Nat) : Int := match xs[k]? with
  | some (.int x) => x.toInt
  | _ => 0
def sy_rd (h : mj_H) (a k : Nat) : Int := match h[a]? with
  | some (_, xs) => sy_at xs k
  | none => 0
def sy_wr (h : mj_H) (a k : Nat) (z : Int) : mj_H := match h[a]? with
  | some (t, xs) => h.set a (t, xs.set k (sy_i z))
  | none => h
def sy_cell (a : Nat) : Option (Nat × Nat × List ab_V) := match ab_ty[a]? with
  | some t => ab_TT[t]?
  | none => none
/-- the only cell of type t -/
def sy_uni (t a : Nat) : Bool := (List.range ab_ty.length).all (fun b => !(ab_ty[b]? == some t) || b == a)
theorem sy_uni_ok {t a b : Nat} (h : sy_uni t a = true) (hb : ab_ty[b]? = some t) : b = a := by
  have hl : b < ab_ty.length := (List.getElem?_eq_some_iff.mp hb).1
  have := List.all_eq_true.mp h b (List.mem_range.mpr hl)
  rw [hb] at this
  simpa using this
theorem sy_toInt {z : Int} (h : -2147483648 ≤ z ∧ z ≤ 2147483647) : (Int32.ofInt z).toInt = z := by
  rw [Int32.toInt_ofInt]
  exact ab_bmod h.1 h.2
theorem sy_of (x : Int32) : sy_i x.toInt = .int x := by
  unfold sy_i
  rw [Int32.ofInt_toInt]
theorem sy_lo {x : Int32} : -2147483648 ≤ x.toInt ∧ x.toInt ≤ 2147483647 := by
  have h1 := Int32.le_toInt x
  have h2 := Int32.toInt_lt x
  omega
theorem sy_int {lo hi : Int} {o : Nat} {v : Value} (h : ab_m ab_ty (0, lo, hi, o) v) : ∃ z, v = sy_i z ∧ lo ≤ z ∧ z ≤ hi ∧ -2147483648 ≤ z ∧ z ≤ 2147483647 := by
  obtain ⟨x, rfl, h1, h2⟩ := ab_m_0 h
  exact ⟨x.toInt, (sy_of x).symm, h1, h2, sy_lo⟩
theorem sy_m {lo hi z : Int} {o : Nat} (h1 : lo ≤ z) (h2 : z ≤ hi) (hr : -2147483648 ≤ z ∧ z ≤ 2147483647) : ab_m ab_ty (0, lo, hi, o) (sy_i z) :=
  Or.inl ⟨rfl, _, rfl, by rw [sy_toInt hr]; exact ⟨h1, h2⟩⟩
theorem sy_ref {t : Int} {u : Int} {o a : Nat} {v : Value} (hu : sy_uni t.toNat a = true) (h : ab_m ab_ty (2, t, u, o) v) : v = .ref a := by
  obtain ⟨b, rfl, hb⟩ := ab_m_2 h
  rw [sy_uni_ok hu hb]
theorem sy_m2 {t : Nat} {u : Int} {o a : Nat} (h : ab_ty[a]? = some t) : ab_m ab_ty (2, (t : Int), u, o) (.ref a) := Or.inr (Or.inr ⟨rfl, a, rfl, h⟩)
section SY1
variable {h : mj_H} {a tag len k : Nat} {es : List ab_V}
theorem sy_cell_ty (hc : sy_cell a = some (tag, len, es)) : ∃ t, ab_ty[a]? = some t ∧ ab_TT[t]? = some (tag, len, es) := by
  unfold sy_cell at hc
  split at hc
  · rename_i t e
    exact ⟨t, e, hc⟩
  · cases hc
theorem sy_H.cell (hH : sy_H h) (hc : sy_cell a = some (tag, len, es)) : ∃ xs, h[a]? = some (tag, xs) ∧ xs.length = len ∧ ∀ i v, xs[i]? = some v → ab_m ab_ty (ab_el es i) v := by
  obtain ⟨t, e1, e2⟩ := sy_cell_ty hc
  obtain ⟨tag', len', es', xs, g1, g2, g3, g4⟩ := hH.2 a t e1
  rw [e2] at g1
  cases g1
  exact ⟨xs, g2, g3, g4⟩
theorem sy_H.get {lo hi : Int} {o : Nat} (hH : sy_H h) (hc : sy_cell a = some (tag, len, es)) (hk : k < len) (he : ab_el es k = (0, lo, hi, o)) : ∃ xs, h[a]? = some (tag, xs) ∧ xs.length = len ∧ xs[k]? = some (sy_i (sy_rd h a k)) ∧ lo ≤ sy_rd h a k ∧ sy_rd h a k ≤ hi := by
  obtain ⟨xs, g2, g3, g4⟩ := hH.cell hc
  have hv : xs[k]? = some (xs[k]'(by omega)) := List.getElem?_eq_getElem (by omega)
  have := g4 k _ hv
  rw [he] at this
  obtain ⟨x, e, h1, h2⟩ := ab_m_0 this
  have hr : sy_rd h a k = x.toInt := by
    unfold sy_rd
    rw [g2]
    dsimp only
    unfold sy_at
    rw [hv, e]
  refine ⟨xs, g2, g3, ?_, ?_, ?_⟩
  · rw [hv, e, hr, sy_of]
  · rw [hr]; exact h1
  · rw [hr]; exact h2
theorem sy_H.bd {lo hi : Int} {o : Nat} (hH : sy_H h) (hc : sy_cell a = some (tag, len, es)) (hk : k < len) (he : ab_el es k = (0, lo, hi, o)) : lo ≤ sy_rd h a k ∧ sy_rd h a k ≤ hi := by
  obtain ⟨xs, -, -, -, q⟩ := hH.get hc hk he
  exact q
theorem sy_H.wr {lo hi z : Int} {o : Nat} (hH : sy_H h) (hc : sy_cell a = some (tag, len, es)) (he : ab_el es k = (0, lo, hi, o)) (h1 : lo ≤ z) (h2 : z ≤ hi) (hr : -2147483648 ≤ z ∧ z ≤ 2147483647) : sy_H (sy_wr h a k z) := by
  obtain ⟨t, e1, e2⟩ := sy_cell_ty hc
  obtain ⟨xs, g2, g3, g4⟩ := hH.cell hc
  unfold sy_wr
  rw [g2]
  dsimp only
  exact ab_H.set hH e1 e2 g2 (by rw [he]; exact sy_m h1 h2 hr)
theorem sy_rd_same {z : Int} (hH : sy_H h) (hc : sy_cell a = some (tag, len, es)) (hk : k < len) (hr : -2147483648 ≤ z ∧ z ≤ 2147483647) : sy_rd (sy_wr h a k z) a k = z := by
  obtain ⟨xs, g2, g3, g4⟩ := hH.cell hc
  have hlt : a < h.length := (List.getElem?_eq_some_iff.mp g2).1
  unfold sy_wr
  rw [g2]
  dsimp only
  unfold sy_rd
  rw [List.getElem?_set_self hlt]
  dsimp only
  unfold sy_at
  rw [List.getElem?_set_self (by omega)]
  exact sy_toInt hr
theorem sy_rd_ne {b l : Nat} {z : Int} (hne : a ≠ b ∨ k ≠ l) : sy_rd (sy_wr h a k z) b l = sy_rd h b l := by
  unfold sy_wr
  split
  · rename_i t xs e
    have hlt : a < h.length := (List.getElem?_eq_some_iff.mp e).1
    unfold sy_rd
    by_cases q : a = b
    · subst q
      rw [List.getElem?_set_self hlt, e]
      dsimp only
      unfold sy_at
      rw [List.getElem?_set_ne (by omega)]
    · rw [List.getElem?_set_ne q]
  · rfl
end SY1
section SY2
variable {M M' : mj_M} {pc : Nat} {lv lv' : mj_L} {st vs rest : List Value} {h : mj_H} {Q Q' : Option Value → mj_H → Prop} {ins : Instr} {len : Nat} {S S' : mj_S}
theorem sy_wp.mono (k : sy_wp S Q) (hq : ∀ r h', Q r h' → Q' r h') : sy_wp S Q' := by
  obtain ⟨r, h', e, q⟩ := k
  exact ⟨r, h', e, hq r h' q⟩
theorem sy_st (hd : decode M.2.1 pc = .ok (ins, len)) (he : ∀ kc k : mj_S → mj_O, mj_do none kc k ins len M pc lv st h = k S') (kk : sy_wp S' Q) : sy_wp (M, pc, lv, st, h) Q := by
  obtain ⟨r, h', e, q⟩ := kk
  exact ⟨r, h', mj_runs.step (mj_one_of hd he) e, q⟩
theorem sy_one (h1 : mj_one none S S') (kk : sy_wp S' Q) : sy_wp S Q := by
  obtain ⟨r, h', e, q⟩ := kk
  exact ⟨r, h', mj_runs.step h1 e, q⟩
theorem sy_ret {t : FieldType} {v : Int32} (hd : decode M.2.1 pc = .ok (.ireturn, 1)) (hr : M.2.2.2.1 = some t) (hn : narrow t (.int v) = .int v) (q : Q (some (.int v)) h) : sy_wp (M, pc, lv, [.int v], h) Q :=
  ⟨_, _, mj_runs.ret (mj_ret_n hd hr hn), q⟩
theorem sy_reti {z : Int} (hd : decode M.2.1 pc = .ok (.ireturn, 1)) (hr : M.2.2.2.1 = some .int) (q : Q (some (sy_i z)) h) : sy_wp (M, pc, lv, [sy_i z], h) Q := sy_ret hd hr rfl q
theorem sy_retb {z : Int} (hd : decode M.2.1 pc = .ok (.ireturn, 1)) (hr : M.2.2.2.1 = some .boolean) (hz : 0 ≤ z ∧ z ≤ 1) (q : Q (some (sy_i z)) h) : sy_wp (M, pc, lv, [sy_i z], h) Q := by
  refine sy_ret hd hr ?_ q
  rcases (show z = 0 ∨ z = 1 by omega) with e | e <;> subst e <;> decide
theorem sy_retv (hd : decode M.2.1 pc = .ok (.return_, 1)) (hr : M.2.2.2.1 = none) (q : Q none h) : sy_wp (M, pc, lv, [], h) Q :=
  ⟨_, _, mj_runs.ret (mj_ret_v hd hr), q⟩
theorem sy_alu2 {x y z : Int32} (hd : decode M.2.1 pc = .ok (ins, 1)) (he : ∀ kc k : mj_S → mj_O, mj_do none kc k ins 1 M pc lv (.int y :: .int x :: st) h = k (M, pc + 1, lv, .int z :: st, h)) {c : Int} (hz : .int z = sy_i c) (kk : sy_wp (M, pc + 1, lv, sy_i c :: st, h) Q) : sy_wp (M, pc, lv, .int y :: .int x :: st, h) Q := by
  refine sy_st hd he ?_
  rw [hz]
  exact kk
theorem sy_add {a b : Int} (hd : decode M.2.1 pc = .ok (.iadd, 1)) (kk : sy_wp (M, pc + 1, lv, sy_i (a + b) :: st, h) Q) : sy_wp (M, pc, lv, sy_i b :: sy_i a :: st, h) Q :=
  sy_alu2 hd (fun _ _ => rfl) (by unfold sy_i; rw [Int32.ofInt_add]) kk
theorem sy_sub {a b : Int} (hd : decode M.2.1 pc = .ok (.isub, 1)) (kk : sy_wp (M, pc + 1, lv, sy_i (a - b) :: st, h) Q) : sy_wp (M, pc, lv, sy_i b :: sy_i a :: st, h) Q :=
  sy_alu2 hd (fun _ _ => rfl) (by unfold sy_i; rw [Int32.ofInt_sub]) kk
theorem sy_mul {a b : Int} (hd : decode M.2.1 pc = .ok (.imul, 1)) (kk : sy_wp (M, pc + 1, lv, sy_i (a * b) :: st, h) Q) : sy_wp (M, pc, lv, sy_i b :: sy_i a :: st, h) Q :=
  sy_alu2 hd (fun _ _ => rfl) (by unfold sy_i; rw [Int32.ofInt_mul]) kk
def sy_and (a b : Int) : Int := (Int32.ofInt a &&& Int32.ofInt b).toInt
def sy_or (a b : Int) : Int := (Int32.ofInt a ||| Int32.ofInt b).toInt
def sy_xor (a b : Int) : Int := (Int32.ofInt a ^^^ Int32.ofInt b).toInt
def sy_shl (a b : Int) : Int := (Int32.ofInt a <<< (Int32.ofInt b &&& 31)).toInt
def sy_shr (a b : Int) : Int := (Int32.ofInt a >>> (Int32.ofInt b &&& 31)).toInt
theorem sy_iand {a b : Int} (hd : decode M.2.1 pc = .ok (.iand, 1)) (kk : sy_wp (M, pc + 1, lv, sy_i (sy_and a b) :: st, h) Q) : sy_wp (M, pc, lv, sy_i b :: sy_i a :: st, h) Q :=
  sy_alu2 hd (fun _ _ => rfl) (sy_of _).symm kk
theorem sy_ior {a b : Int} (hd : decode M.2.1 pc = .ok (.ior, 1)) (kk : sy_wp (M, pc + 1, lv, sy_i (sy_or a b) :: st, h) Q) : sy_wp (M, pc, lv, sy_i b :: sy_i a :: st, h) Q :=
  sy_alu2 hd (fun _ _ => rfl) (sy_of _).symm kk
theorem sy_ixor {a b : Int} (hd : decode M.2.1 pc = .ok (.ixor, 1)) (kk : sy_wp (M, pc + 1, lv, sy_i (sy_xor a b) :: st, h) Q) : sy_wp (M, pc, lv, sy_i b :: sy_i a :: st, h) Q :=
  sy_alu2 hd (fun _ _ => rfl) (sy_of _).symm kk
theorem sy_ishl {a b : Int} (hd : decode M.2.1 pc = .ok (.ishl, 1)) (kk : sy_wp (M, pc + 1, lv, sy_i (sy_shl a b) :: st, h) Q) : sy_wp (M, pc, lv, sy_i b :: sy_i a :: st, h) Q :=
  sy_alu2 hd (fun _ _ => rfl) (sy_of _).symm kk
theorem sy_ishr {a b : Int} (hd : decode M.2.1 pc = .ok (.ishr, 1)) (kk : sy_wp (M, pc + 1, lv, sy_i (sy_shr a b) :: st, h) Q) : sy_wp (M, pc, lv, sy_i b :: sy_i a :: st, h) Q :=
  sy_alu2 hd (fun _ _ => rfl) (sy_of _).symm kk
theorem sy_quot {a b : Int} (ha : 0 ≤ a ∧ a ≤ 2147483647) (hb : 1 ≤ b ∧ b ≤ 2147483647) : (Int32.ofInt a / Int32.ofInt b).toInt = a / b := by
  have e1 := sy_toInt (z := a) ⟨by omega, by omega⟩
  have e2 := sy_toInt (z := b) ⟨by omega, by omega⟩
  rw [Int32.toInt_div, e1, e2, Int.tdiv_eq_ediv_of_nonneg ha.1]
  have h1 := Int.ediv_nonneg ha.1 (show 0 ≤ b by omega)
  have h2 := Int.ediv_le_self b ha.1
  exact ab_bmod (by omega) (by omega)
theorem sy_div {a b : Int} (hd : decode M.2.1 pc = .ok (.idiv, 1)) (ha : 0 ≤ a ∧ a ≤ 2147483647) (hb : 1 ≤ b ∧ b ≤ 2147483647) (kk : sy_wp (M, pc + 1, lv, sy_i (a / b) :: st, h) Q) : sy_wp (M, pc, lv, sy_i b :: sy_i a :: st, h) Q := by
  refine sy_alu2 (z := Int32.ofInt a / Int32.ofInt b) hd (fun kc k => ?_) (by rw [← sy_of, sy_quot ha hb]) kk
  have hne : ¬ Int32.ofInt b = 0 := fun e => by
    have := congrArg Int32.toInt e
    rw [sy_toInt ⟨by omega, by omega⟩, show (0 : Int32).toInt = 0 by decide] at this
    omega
  simp only [mj_do, mj_br, mj_loc, mj_alu, mj_ii, if_neg hne, if_true]
theorem sy_rem {a b : Int} (hd : decode M.2.1 pc = .ok (.irem, 1)) (ha : 0 ≤ a ∧ a ≤ 2147483647) (hb : 1 ≤ b ∧ b ≤ 2147483647) (kk : sy_wp (M, pc + 1, lv, sy_i (a % b) :: st, h) Q) : sy_wp (M, pc, lv, sy_i b :: sy_i a :: st, h) Q := by
  have hq : Int32.ofInt a / Int32.ofInt b = Int32.ofInt (a / b) := by
    rw [← sy_quot ha hb, Int32.ofInt_toInt]
  refine sy_alu2 (z := Int32.ofInt a - Int32.ofInt a / Int32.ofInt b * Int32.ofInt b) hd (fun kc k => ?_) (by rw [hq, ← Int32.ofInt_mul, ← Int32.ofInt_sub]; unfold sy_i; rw [Int.emod_def, Int.mul_comm b]) kk
  have hne : ¬ Int32.ofInt b = 0 := fun e => by
    have := congrArg Int32.toInt e
    rw [sy_toInt ⟨by omega, by omega⟩, show (0 : Int32).toInt = 0 by decide] at this
    omega
  simp only [mj_do, mj_br, mj_loc, mj_alu, mj_ii, if_neg hne, if_true]
theorem sy_bip {n : Int} (hd : decode M.2.1 pc = .ok (.bipush n, 2)) (e : (Int8.ofInt n).toInt32 = Int32.ofInt n) (kk : sy_wp (M, pc + 2, lv, sy_i n :: st, h) Q) : sy_wp (M, pc, lv, st, h) Q :=
  sy_st hd (fun _ _ => rfl) (by rw [e]; exact kk)
theorem sy_sip {n : Int} (hd : decode M.2.1 pc = .ok (.sipush n, 3)) (e : (Int16.ofInt n).toInt32 = Int32.ofInt n) (kk : sy_wp (M, pc + 3, lv, sy_i n :: st, h) Q) : sy_wp (M, pc, lv, st, h) Q :=
  sy_st hd (fun _ _ => rfl) (by rw [e]; exact kk)
theorem sy_ldc {idx ix v z : Nat} {n : Int} (hd : decode M.2.1 pc = .ok (.ldc idx, 2)) (he : mj_ent M idx = some (ix, 5, v, z)) (e : Int32.ofNat v = Int32.ofInt n) (kk : sy_wp (M, pc + 2, lv, sy_i n :: st, h) Q) : sy_wp (M, pc, lv, st, h) Q := by
  refine sy_st (S' := (M, pc + 2, lv, sy_i n :: st, h)) hd (fun kc k => ?_) kk
  unfold mj_do
  dsimp only
  rw [if_pos rfl]
  unfold mj_ldc
  rw [he]
  dsimp only
  rw [if_pos rfl, e]
  rfl
theorem sy_ldcw {idx ix v z : Nat} {n : Int} (hd : decode M.2.1 pc = .ok (.ldc_w idx, 3)) (he : mj_ent M idx = some (ix, 5, v, z)) (e : Int32.ofNat v = Int32.ofInt n) (kk : sy_wp (M, pc + 3, lv, sy_i n :: st, h) Q) : sy_wp (M, pc, lv, st, h) Q := by
  refine sy_st (S' := (M, pc + 3, lv, sy_i n :: st, h)) hd (fun kc k => ?_) kk
  unfold mj_do
  dsimp only
  rw [if_pos rfl]
  unfold mj_ldc
  rw [he]
  dsimp only
  rw [if_pos rfl, e]
  rfl
theorem sy_inc {i : Nat} {d a : Int} (hd : decode M.2.1 pc = .ok (.iinc i d, 3)) (hi : i < M.2.2.1) (hg : mj_get lv i = some (sy_i a)) (hp : mj_put1 lv i (sy_i (a + d)) = lv') (kk : sy_wp (M, pc + 3, lv', st, h) Q) : sy_wp (M, pc, lv, st, h) Q := by
  refine sy_st (S' := (M, pc + 3, lv', st, h)) hd (fun kc k => ?_) kk
  simp only [mj_do, mj_br, mj_loc]
  rw [if_pos ⟨trivial, hi⟩, hg]
  unfold sy_i at hp ⊢
  dsimp only
  rw [← hp, Int32.ofInt_add]
theorem sy_ifc {c : ClassFile.Cond} {off : Int} {a : Int} {t : Nat} (hd : decode M.2.1 pc = .ok (.ifCond c off, 3)) (ht : mj_to pc off = some t) (ra : -2147483648 ≤ a ∧ a ≤ 2147483647) (kT : ab_rel c a 0 → sy_wp (M, t, lv, st, h) Q) (kF : ¬ ab_rel c a 0 → sy_wp (M, pc + 3, lv, st, h) Q) : sy_wp (M, pc, lv, sy_i a :: st, h) Q := by
  have hx := ab_cmp_rel c (Int32.ofInt a) 0
  rw [sy_toInt ra, show (0 : Int32).toInt = 0 by decide] at hx
  by_cases hc : ab_rel c a 0
  · exact sy_one (mj_one_ifT hd ht (hx.mpr hc)) (kT hc)
  · exact sy_one (mj_one_ifF hd ht (Bool.eq_false_iff.mpr (fun q => hc (hx.mp q)))) (kF hc)
theorem sy_icm {c : ClassFile.Cond} {off : Int} {a b : Int} {t : Nat} (hd : decode M.2.1 pc = .ok (.if_icmp c off, 3)) (ht : mj_to pc off = some t) (ra : -2147483648 ≤ a ∧ a ≤ 2147483647) (rb : -2147483648 ≤ b ∧ b ≤ 2147483647) (kT : ab_rel c a b → sy_wp (M, t, lv, st, h) Q) (kF : ¬ ab_rel c a b → sy_wp (M, pc + 3, lv, st, h) Q) : sy_wp (M, pc, lv, sy_i b :: sy_i a :: st, h) Q := by
  have hx := ab_cmp_rel c (Int32.ofInt a) (Int32.ofInt b)
  rw [sy_toInt ra, sy_toInt rb] at hx
  by_cases hc : ab_rel c a b
  · exact sy_one (mj_one_icmpT hd ht (hx.mpr hc)) (kT hc)
  · exact sy_one (mj_one_icmpF hd ht (Bool.eq_false_iff.mpr (fun q => hc (hx.mp q)))) (kF hc)
theorem sy_gf {idx ix kd ci k a ln : Nat} {es : List ab_V} {lo hi : Int} {o : Nat} (hd : decode M.2.1 pc = .ok (.getfield idx, 3)) (he : mj_ent M idx = some (ix, kd, ci, k)) (hc : sy_cell a = some (ci, ln, es)) (hk : kd ≤ 1 ∧ ci < 11 ∧ k < ln) (hel : ab_el es k = (0, lo, hi, o)) (hH : sy_H h) (kk : ∀ x, x = sy_rd h a k → lo ≤ x → x ≤ hi → sy_wp (M, pc + 3, lv, sy_i x :: st, h) Q) : sy_wp (M, pc, lv, .ref a :: st, h) Q := by
  obtain ⟨xs, g1, g2, g3, g4, g5⟩ := hH.get hc hk.2.2 hel
  refine sy_st (S' := (M, pc + 3, lv, sy_i (sy_rd h a k) :: st, h)) hd (fun kc k => ?_) (kk _ rfl g4 g5)
  unfold mj_do
  dsimp only
  rw [if_pos rfl]
  unfold mj_gf
  rw [he]
  dsimp only
  rw [if_pos hk.1, g1]
  dsimp only
  rw [if_pos ⟨rfl, hk.2.1⟩, g3]
theorem sy_gr {idx ix kd ci k a ln b : Nat} {es : List ab_V} {t u : Int} {o : Nat} (hd : decode M.2.1 pc = .ok (.getfield idx, 3)) (he : mj_ent M idx = some (ix, kd, ci, k)) (hc : sy_cell a = some (ci, ln, es)) (hk : kd ≤ 1 ∧ ci < 11 ∧ k < ln) (hel : ab_el es k = (2, t, u, o)) (hu : sy_uni t.toNat b = true) (hH : sy_H h) (kk : sy_wp (M, pc + 3, lv, .ref b :: st, h) Q) : sy_wp (M, pc, lv, .ref a :: st, h) Q := by
  obtain ⟨xs, g1, g2, g3⟩ := hH.cell hc
  have hv : xs[k]? = some (xs[k]'(by omega)) := List.getElem?_eq_getElem (by omega)
  have g4 := g3 k _ hv
  rw [hel] at g4
  have g5 := sy_ref hu g4
  rw [g5] at hv
  refine sy_st (S' := (M, pc + 3, lv, .ref b :: st, h)) hd (fun kc k => ?_) kk
  unfold mj_do
  dsimp only
  rw [if_pos rfl]
  unfold mj_gf
  rw [he]
  dsimp only
  rw [if_pos hk.1, g1]
  dsimp only
  rw [if_pos ⟨rfl, hk.2.1⟩, hv]
theorem sy_narrow {ci k : Nat} {z : Int} (ht : mj_ty ci k = .int ∨ (mj_ty ci k = .boolean ∧ 0 ≤ z ∧ z ≤ 1)) : narrow (mj_ty ci k) (sy_i z) = sy_i z ∧ fits (mj_ty ci k) (sy_i z) = true := by
  rcases ht with c8 | ⟨c8, c81, c82⟩
  · rw [c8]; exact ⟨rfl, rfl⟩
  · rw [c8]
    rcases (show z = 0 ∨ z = 1 by omega) with e | e <;> subst e <;> exact ⟨by decide, by decide⟩
theorem sy_pf {idx ix kd ci k a ln : Nat} {es : List ab_V} {lo hi z : Int} {o : Nat} (hd : decode M.2.1 pc = .ok (.putfield idx, 3)) (he : mj_ent M idx = some (ix, kd, ci, k)) (hc : sy_cell a = some (ci, ln, es)) (hk : kd ≤ 1 ∧ ci < 11 ∧ k < ln ∧ mj_fin ci k = false) (ht : mj_ty ci k = .int ∨ (mj_ty ci k = .boolean ∧ 0 ≤ z ∧ z ≤ 1)) (hel : ab_el es k = (0, lo, hi, o)) (hH : sy_H h) (h1 : lo ≤ z) (h2 : z ≤ hi) (hr : -2147483648 ≤ z ∧ z ≤ 2147483647) (kk : ∀ h', h' = sy_wr h a k z → sy_H h' → sy_wp (M, pc + 3, lv, st, h') Q) : sy_wp (M, pc, lv, sy_i z :: .ref a :: st, h) Q := by
  obtain ⟨xs, g1, g2, g3⟩ := hH.cell hc
  refine sy_st (S' := (M, pc + 3, lv, st, sy_wr h a k z)) hd (fun kc k => ?_) (kk _ rfl (hH.wr hc hel h1 h2 hr))
  have hn := sy_narrow ht
  unfold mj_do
  dsimp only
  rw [if_pos rfl]
  unfold mj_pf
  rw [he]
  dsimp only
  rw [if_pos hk.1, g1]
  dsimp only
  rw [if_pos ⟨rfl, hk.2.1, by omega, hn.1, hn.2, Or.inl hk.2.2.2⟩]
  unfold sy_wr
  rw [g1]
theorem sy_idx {z : Int} {n : Nat} (h1 : 0 ≤ z) (h2 : z < n) (hn : n ≤ 2147483647) : ¬ (Int32.ofInt z) < 0 ∧ (Int32.ofInt z).toNatClampNeg = z.toNat := by
  have e := sy_toInt (z := z) ⟨by omega, by omega⟩
  have hj0 : ¬ (Int32.ofInt z) < 0 := fun q => by
    have := Int32.lt_iff_toInt_lt.mp q
    rw [show (0 : Int32).toInt = 0 by decide] at this
    omega
  refine ⟨hj0, ?_⟩
  have hjn := mj_nn _ hj0
  omega
theorem sy_ald {a tg ln : Nat} {es : List ab_V} {lo hi z : Int} {o : Nat} (hc : sy_cell a = some (tg, ln, es)) (hln : ln ≤ 2147483647) (h1 : 0 ≤ z) (h2 : z < ln) (hel : ab_el es z.toNat = (0, lo, hi, o)) (hH : sy_H h) : mj_ald tg none (sy_i z :: .ref a :: st) h = some (sy_i (sy_rd h a z.toNat) :: st) ∧ lo ≤ sy_rd h a z.toNat ∧ sy_rd h a z.toNat ≤ hi := by
  obtain ⟨xs, g1, g2, g3, g4, g5⟩ := hH.get hc (k := z.toNat) (by omega) hel
  obtain ⟨i1, i2⟩ := sy_idx h1 h2 hln
  refine ⟨?_, g4, g5⟩
  unfold mj_ald
  unfold sy_i at g3 ⊢
  dsimp only
  rw [g1]
  dsimp only
  rw [if_pos ⟨rfl, i1⟩, i2, g3]
theorem sy_ia {a ln : Nat} {es : List ab_V} {lo hi z : Int} {o : Nat} (hd : decode M.2.1 pc = .ok (.iaload, 1)) (hc : sy_cell a = some (100, ln, es)) (hln : ln ≤ 2147483647) (h1 : 0 ≤ z) (h2 : z < ln) (hel : ab_el es z.toNat = (0, lo, hi, o)) (hH : sy_H h) (kk : ∀ x, x = sy_rd h a z.toNat → lo ≤ x → x ≤ hi → sy_wp (M, pc + 1, lv, sy_i x :: st, h) Q) : sy_wp (M, pc, lv, sy_i z :: .ref a :: st, h) Q := by
  obtain ⟨e, g1, g2⟩ := sy_ald (st := st) hc hln h1 h2 hel hH
  refine sy_st (S' := (M, pc + 1, lv, sy_i (sy_rd h a z.toNat) :: st, h)) hd (fun kc k => ?_) (kk _ rfl g1 g2)
  unfold mj_do
  dsimp only
  rw [if_pos rfl, e]
theorem sy_ca {a ln : Nat} {es : List ab_V} {lo hi z : Int} {o : Nat} (hd : decode M.2.1 pc = .ok (.caload, 1)) (hc : sy_cell a = some (101, ln, es)) (hln : ln ≤ 2147483647) (h1 : 0 ≤ z) (h2 : z < ln) (hel : ab_el es z.toNat = (0, lo, hi, o)) (hH : sy_H h) (kk : ∀ x, x = sy_rd h a z.toNat → lo ≤ x → x ≤ hi → sy_wp (M, pc + 1, lv, sy_i x :: st, h) Q) : sy_wp (M, pc, lv, sy_i z :: .ref a :: st, h) Q := by
  obtain ⟨e, g1, g2⟩ := sy_ald (st := st) hc hln h1 h2 hel hH
  refine sy_st (S' := (M, pc + 1, lv, sy_i (sy_rd h a z.toNat) :: st, h)) hd (fun kc k => ?_) (kk _ rfl g1 g2)
  unfold mj_do
  dsimp only
  rw [if_pos rfl, e]
theorem sy_ba {a ln : Nat} {es : List ab_V} {lo hi z : Int} {o : Nat} (hd : decode M.2.1 pc = .ok (.baload, 1)) (hc : sy_cell a = some (102, ln, es)) (hln : ln ≤ 2147483647) (h1 : 0 ≤ z) (h2 : z < ln) (hel : ab_el es z.toNat = (0, lo, hi, o)) (hH : sy_H h) (kk : ∀ x, x = sy_rd h a z.toNat → lo ≤ x → x ≤ hi → sy_wp (M, pc + 1, lv, sy_i x :: st, h) Q) : sy_wp (M, pc, lv, sy_i z :: .ref a :: st, h) Q := by
  obtain ⟨e, g1, g2⟩ := sy_ald (st := st) hc hln h1 h2 hel hH
  refine sy_st (S' := (M, pc + 1, lv, sy_i (sy_rd h a z.toNat) :: st, h)) hd (fun kc k => ?_) (kk _ rfl g1 g2)
  unfold mj_do
  dsimp only
  rw [if_pos rfl, e]
theorem sy_nar {z : Int} {tg : Nat} (ht : tg = 100 ∨ (tg = 102 ∧ 0 ≤ z ∧ z ≤ 1) ∨ (tg = 101 ∧ 0 ≤ z ∧ z ≤ 65535)) : narrow (mj_elt tg) (sy_i z) = sy_i z := by
  rcases ht with rfl | ⟨rfl, h1, h2⟩ | ⟨rfl, h1, h2⟩
  · rfl
  · rcases (show z = 0 ∨ z = 1 by omega) with e | e <;> subst e <;> decide
  · show Value.int (((Int32.ofInt z).toUInt32 % 65536).toInt32) = Value.int (Int32.ofInt z)
    congr 1
    apply Int32.toBitVec_inj.mp
    apply BitVec.eq_of_toNat_eq
    have e : (((Int32.ofInt z).toUInt32 % 65536).toInt32).toBitVec.toNat = (Int32.ofInt z).toUInt32.toNat % 65536 := UInt32.toNat_mod (Int32.ofInt z).toUInt32 65536
    rw [e]
    have e2 : (Int32.ofInt z).toUInt32.toNat = (Int32.ofInt z).toBitVec.toNat := rfl
    have e3 := ab_nat (x := Int32.ofInt z) (by rw [sy_toInt ⟨by omega, by omega⟩]; omega)
    rw [sy_toInt ⟨by omega, by omega⟩] at e3
    rw [e2]
    omega
theorem sy_ast {a tg ln : Nat} {es : List ab_V} {lo hi z v : Int} {o : Nat} (hc : sy_cell a = some (tg, ln, es)) (hln : ln ≤ 2147483647) (h1 : 0 ≤ z) (h2 : z < ln) (ht : tg = 100 ∨ (tg = 102 ∧ 0 ≤ v ∧ v ≤ 1) ∨ (tg = 101 ∧ 0 ≤ v ∧ v ≤ 65535)) (hH : sy_H h) : mj_ast tg (sy_i v :: sy_i z :: .ref a :: st) h = some (st, sy_wr h a z.toNat v) := by
  obtain ⟨xs, g1, g2, g3⟩ := hH.cell hc
  obtain ⟨i1, i2⟩ := sy_idx h1 h2 hln
  have hn := sy_nar ht
  unfold mj_ast
  unfold sy_i at hn ⊢
  dsimp only
  rw [g1]
  dsimp only
  rw [i2, if_pos ⟨rfl, i1, by omega⟩, hn]
  unfold sy_wr sy_i
  rw [g1]
theorem sy_ias {a ln : Nat} {es : List ab_V} {lo hi z v : Int} {o : Nat} (hd : decode M.2.1 pc = .ok (.iastore, 1)) (hc : sy_cell a = some (100, ln, es)) (hln : ln ≤ 2147483647) (h1 : 0 ≤ z) (h2 : z < ln) (hel : ab_el es z.toNat = (0, lo, hi, o)) (hH : sy_H h) (v1 : lo ≤ v) (v2 : v ≤ hi) (hr : -2147483648 ≤ v ∧ v ≤ 2147483647) (kk : ∀ h', h' = sy_wr h a z.toNat v → sy_H h' → sy_wp (M, pc + 1, lv, st, h') Q) : sy_wp (M, pc, lv, sy_i v :: sy_i z :: .ref a :: st, h) Q := by
  have e := sy_ast (st := st) (v := v) (lo := lo) (hi := hi) (o := o) hc hln h1 h2 (Or.inl rfl) hH
  refine sy_st (S' := (M, pc + 1, lv, st, sy_wr h a z.toNat v)) hd (fun kc k => ?_) (kk _ rfl (hH.wr hc hel v1 v2 hr))
  unfold mj_do
  dsimp only
  rw [if_pos rfl, e]
theorem sy_bas {a ln : Nat} {es : List ab_V} {lo hi z v : Int} {o : Nat} (hd : decode M.2.1 pc = .ok (.bastore, 1)) (hc : sy_cell a = some (102, ln, es)) (hln : ln ≤ 2147483647) (h1 : 0 ≤ z) (h2 : z < ln) (hel : ab_el es z.toNat = (0, lo, hi, o)) (hH : sy_H h) (v1 : lo ≤ v) (v2 : v ≤ hi) (hr : 0 ≤ v ∧ v ≤ 1) (kk : ∀ h', h' = sy_wr h a z.toNat v → sy_H h' → sy_wp (M, pc + 1, lv, st, h') Q) : sy_wp (M, pc, lv, sy_i v :: sy_i z :: .ref a :: st, h) Q := by
  have e := sy_ast (st := st) (v := v) (lo := lo) (hi := hi) (o := o) hc hln h1 h2 (Or.inr (Or.inl ⟨rfl, hr⟩)) hH
  refine sy_st (S' := (M, pc + 1, lv, st, sy_wr h a z.toNat v)) hd (fun kc k => ?_) (kk _ rfl (hH.wr hc hel v1 v2 ⟨by omega, by omega⟩))
  unfold mj_do
  dsimp only
  rw [if_pos rfl, e]
theorem sy_cas {a ln : Nat} {es : List ab_V} {lo hi z v : Int} {o : Nat} (hd : decode M.2.1 pc = .ok (.castore, 1)) (hc : sy_cell a = some (101, ln, es)) (hln : ln ≤ 2147483647) (h1 : 0 ≤ z) (h2 : z < ln) (hel : ab_el es z.toNat = (0, lo, hi, o)) (hH : sy_H h) (v1 : lo ≤ v) (v2 : v ≤ hi) (hr : 0 ≤ v ∧ v ≤ 65535) (kk : ∀ h', h' = sy_wr h a z.toNat v → sy_H h' → sy_wp (M, pc + 1, lv, st, h') Q) : sy_wp (M, pc, lv, sy_i v :: sy_i z :: .ref a :: st, h) Q := by
  have e := sy_ast (st := st) (v := v) (lo := lo) (hi := hi) (o := o) hc hln h1 h2 (Or.inr (Or.inr ⟨rfl, hr⟩)) hH
  refine sy_st (S' := (M, pc + 1, lv, st, sy_wr h a z.toNat v)) hd (fun kc k => ?_) (kk _ rfl (hH.wr hc hel v1 v2 ⟨by omega, by omega⟩))
  unfold mj_do
  dsimp only
  rw [if_pos rfl, e]
/-- calls: what is called ends with Q', what is behind it goes on from there -/
theorem sy_cs {idx ix j z : Nat} (hd : decode M.2.1 pc = .ok (.invokestatic idx, 3)) (he : mj_ent M idx = some (ix, 2, j, z)) (hj : mj_meths[j]? = some M') (hk : M'.2.2.2.2.2.2.1 = 0) (hv : ((st.take M'.2.2.2.2.2.1).reverse, st.drop M'.2.2.2.2.2.1) = (vs, rest)) (hf : mj_fit M M' st M'.2.2.2.2.2.1) (k1 : sy_wp (M', 0, lv_args 0 vs, [], h) Q') (k2 : ∀ r h', Q' r h' → sy_wp (M, pc + 3, lv, r.toList ++ rest, h') Q) : sy_wp (M, pc, lv, st, h) Q := by
  obtain ⟨r1, h1, e1, q1⟩ := k1
  obtain ⟨r, h', e, q⟩ := k2 r1 h1 q1
  exact ⟨r, h', mj_runs.call (mj_calls_s hd he hj hk hv hf) e1 e, q⟩
theorem sy_cv {idx ix j z a tg ln : Nat} {es : List ab_V} (hd : decode M.2.1 pc = .ok (.invokevirtual idx, 3)) (he : mj_ent M idx = some (ix, 2, j, z)) (hj : mj_meths[j]? = some M') (hs : st[M'.2.2.2.2.2.1]? = some (.ref a)) (hc : sy_cell a = some (tg, ln, es)) (hH : sy_H h) (hk : (M'.2.2.2.2.2.2.1, M'.2.2.2.2.1) = (1, tg)) (hv : ((st.take (M'.2.2.2.2.2.1 + 1)).reverse, st.drop (M'.2.2.2.2.2.1 + 1)) = (vs, rest)) (hf : tg < 11 ∧ mj_fit M M' st (M'.2.2.2.2.2.1 + 1)) (k1 : sy_wp (M', 0, lv_args 0 vs, [], h) Q') (k2 : ∀ r h', Q' r h' → sy_wp (M, pc + 3, lv, r.toList ++ rest, h') Q) : sy_wp (M, pc, lv, st, h) Q := by
  obtain ⟨xs, g1, g2, g3⟩ := hH.cell hc
  obtain ⟨r1, h1, e1, q1⟩ := k1
  obtain ⟨r, h', e, q⟩ := k2 r1 h1 q1
  exact ⟨r, h', mj_runs.call (mj_calls_v hd he hj hs g1 hk hv hf) e1 e, q⟩
/-- a checked method -/
theorem sy_sum {s : ab_M} (hs : ab_sum ab_ty ab_TT s) (hj : mj_meths[s.1]? = some M') (ha : ab_args ab_ty s.2.1 vs) (hH : sy_H h) : sy_wp (M', 0, lv_args 0 vs, [], h) (fun r h' => sy_H h' ∧ ∃ out ∈ s.2.2, ab_ret ab_ty out.1 r ∧ ab_args ab_ty out.2 vs) := by
  obtain ⟨r, h', e1, e2, e3⟩ := hs M' vs h hj ha hH
  exact ⟨r, h', e1, e2, e3⟩
end SY2
