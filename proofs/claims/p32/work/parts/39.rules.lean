/-! MORE ROWS for walks: writes as reads see them, references by place, copies of arrays, switches, longs -/
theorem sy_tyid : ∀ b, b < 254 → ab_ty[b]? = some b := by decide +kernel
theorem sy_tylen : ab_ty.length = 254 := by decide +kernel
theorem sy_ty_eq {a t : Nat} (h : ab_ty[a]? = some t) : a = t := by
  have hl : a < ab_ty.length := (List.getElem?_eq_some_iff.mp h).1
  rw [sy_tylen] at hl
  rw [sy_tyid a hl] at h
  exact Option.some.inj h
theorem sy_ref1 {t u : Int} {o : Nat} {v : Value} (h : ab_m ab_ty (2, t, u, o) v) : v = .ref t.toNat := by
  obtain ⟨b, rfl, hb⟩ := ab_m_2 h
  rw [sy_ty_eq hb]
def sy_w (z : Int) : Int := (Int32.ofInt z).toInt
theorem sy_iw (z : Int) : sy_i (sy_w z) = sy_i z := sy_of _
theorem sy_w_rng (z : Int) : -2147483648 ≤ sy_w z ∧ sy_w z ≤ 2147483647 := sy_lo
theorem sy_w_id {z : Int} (h : -2147483648 ≤ z ∧ z ≤ 2147483647) : sy_w z = z := sy_toInt h
theorem sy_rdw {h : mj_H} {a tag len k : Nat} {es : List ab_V} {z : Int} (hH : sy_H h) (hc : sy_cell a = some (tag, len, es)) (hk : k < len) (hr : -2147483648 ≤ z ∧ z ≤ 2147483647) (b l : Nat) : sy_rd (sy_wr h a k z) b l = if b = a ∧ l = k then z else sy_rd h b l := by
  by_cases e : b = a ∧ l = k
  · rw [if_pos e, e.1, e.2]
    exact sy_rd_same hH hc hk hr
  · rw [if_neg e]
    exact sy_rd_ne (by omega)
section SY4
variable {M M' : mj_M} {pc : Nat} {lv lv' : mj_L} {st vs rest : List Value} {h : mj_H} {Q Q' : Option Value → mj_H → Prop} {ins : Instr} {len : Nat} {S S' : mj_S}
theorem sy_gr2 {idx ix kd ci k a ln b : Nat} {es : List ab_V} {t u : Int} {o : Nat} (hd : decode M.2.1 pc = .ok (.getfield idx, 3)) (he : mj_ent M idx = some (ix, kd, ci, k)) (hc : sy_cell a = some (ci, ln, es)) (hk : kd ≤ 1 ∧ ci < 11 ∧ k < ln) (hel : ab_el es k = (2, t, u, o)) (hb : t.toNat = b) (hH : sy_H h) (kk : sy_wp (M, pc + 3, lv, .ref b :: st, h) Q) : sy_wp (M, pc, lv, .ref a :: st, h) Q := by
  obtain ⟨xs, g1, g2, g3⟩ := hH.cell hc
  have hv : xs[k]? = some (xs[k]'(by omega)) := List.getElem?_eq_getElem (by omega)
  have g4 := g3 k _ hv
  rw [hel] at g4
  have g5 := sy_ref1 g4
  rw [g5, hb] at hv
  refine sy_st (S' := (M, pc + 3, lv, .ref b :: st, h)) hd (fun kc k => ?_) kk
  unfold mj_do
  dsimp only
  rw [if_pos rfl]
  unfold mj_gf
  rw [he]
  dsimp only
  rw [if_pos hk.1, g1]
  dsimp only
  rw [if_pos ⟨rfl, hk.2.1⟩, hv]
theorem sy_aa {a ln b : Nat} {es : List ab_V} {z t u : Int} {o : Nat} (hd : decode M.2.1 pc = .ok (.aaload, 1)) (hc : sy_cell a = some (103, ln, es)) (hln : ln ≤ 2147483647) (h1 : 0 ≤ z) (h2 : z < ln) (hel : ab_el es z.toNat = (2, t, u, o)) (hb : t.toNat = b) (hH : sy_H h) (kk : sy_wp (M, pc + 1, lv, .ref b :: st, h) Q) : sy_wp (M, pc, lv, sy_i z :: .ref a :: st, h) Q := by
  obtain ⟨xs, g1, g2, g3⟩ := hH.cell hc
  obtain ⟨i1, i2⟩ := sy_idx h1 h2 hln
  have hv : xs[z.toNat]? = some (xs[z.toNat]'(by omega)) := List.getElem?_eq_getElem (by omega)
  have g4 := g3 _ _ hv
  rw [hel] at g4
  have g5 := sy_ref1 g4
  rw [g5, hb] at hv
  refine sy_st (S' := (M, pc + 1, lv, .ref b :: st, h)) hd (fun kc k => ?_) kk
  unfold mj_do
  dsimp only
  rw [if_pos rfl]
  unfold mj_ald sy_i
  dsimp only
  rw [g1]
  dsimp only
  rw [if_pos ⟨rfl, i1⟩, i2, hv]
theorem sy_pf2 {idx ix kd ci k a ln : Nat} {es : List ab_V} {lo hi z : Int} {o : Nat} (hd : decode M.2.1 pc = .ok (.putfield idx, 3)) (he : mj_ent M idx = some (ix, kd, ci, k)) (hc : sy_cell a = some (ci, ln, es)) (hk : kd ≤ 1 ∧ ci < 11 ∧ k < ln ∧ mj_fin ci k = false) (ht : mj_ty ci k = .int ∨ (mj_ty ci k = .boolean ∧ 0 ≤ z ∧ z ≤ 1)) (hel : ab_el es k = (0, lo, hi, o)) (hH : sy_H h) (h1 : lo ≤ z) (h2 : z ≤ hi) (hr : -2147483648 ≤ z ∧ z ≤ 2147483647) (kk : ∀ h', sy_H h' → (∀ b l, sy_rd h' b l = if b = a ∧ l = k then z else sy_rd h b l) → sy_wp (M, pc + 3, lv, st, h') Q) : sy_wp (M, pc, lv, sy_i z :: .ref a :: st, h) Q :=
  sy_pf hd he hc hk ht hel hH h1 h2 hr (fun h' e th => kk h' th (by rw [e]; exact sy_rdw hH hc hk.2.2.1 hr))
theorem sy_pfw {idx ix kd ci k a ln : Nat} {es : List ab_V} {z : Int} {o : Nat} (hd : decode M.2.1 pc = .ok (.putfield idx, 3)) (he : mj_ent M idx = some (ix, kd, ci, k)) (hc : sy_cell a = some (ci, ln, es)) (hk : kd ≤ 1 ∧ ci < 11 ∧ k < ln ∧ mj_fin ci k = false) (ht : mj_ty ci k = .int) (hel : ab_el es k = (0, -2147483648, 2147483647, o)) (hH : sy_H h) (kk : ∀ h', sy_H h' → (∀ b l, sy_rd h' b l = if b = a ∧ l = k then sy_w z else sy_rd h b l) → sy_wp (M, pc + 3, lv, st, h') Q) : sy_wp (M, pc, lv, sy_i z :: .ref a :: st, h) Q := by
  rw [← sy_iw z]
  exact sy_pf2 hd he hc hk (Or.inl ht) hel hH (sy_w_rng z).1 (sy_w_rng z).2 (sy_w_rng z) kk
theorem sy_ias2 {a ln : Nat} {es : List ab_V} {lo hi z v : Int} {o : Nat} (hd : decode M.2.1 pc = .ok (.iastore, 1)) (hc : sy_cell a = some (100, ln, es)) (hln : ln ≤ 2147483647) (h1 : 0 ≤ z) (h2 : z < ln) (hel : ab_el es z.toNat = (0, lo, hi, o)) (hH : sy_H h) (v1 : lo ≤ v) (v2 : v ≤ hi) (hr : -2147483648 ≤ v ∧ v ≤ 2147483647) (kk : ∀ h', sy_H h' → (∀ b l, sy_rd h' b l = if b = a ∧ l = z.toNat then v else sy_rd h b l) → sy_wp (M, pc + 1, lv, st, h') Q) : sy_wp (M, pc, lv, sy_i v :: sy_i z :: .ref a :: st, h) Q :=
  sy_ias hd hc hln h1 h2 hel hH v1 v2 hr (fun h' e th => kk h' th (by rw [e]; exact sy_rdw hH hc (by omega) hr))
theorem sy_iasw {a ln : Nat} {es : List ab_V} {z v : Int} {o : Nat} (hd : decode M.2.1 pc = .ok (.iastore, 1)) (hc : sy_cell a = some (100, ln, es)) (hln : ln ≤ 2147483647) (h1 : 0 ≤ z) (h2 : z < ln) (hel : ab_el es z.toNat = (0, -2147483648, 2147483647, o)) (hH : sy_H h) (kk : ∀ h', sy_H h' → (∀ b l, sy_rd h' b l = if b = a ∧ l = z.toNat then sy_w v else sy_rd h b l) → sy_wp (M, pc + 1, lv, st, h') Q) : sy_wp (M, pc, lv, sy_i v :: sy_i z :: .ref a :: st, h) Q := by
  rw [← sy_iw v]
  exact sy_ias2 hd hc hln h1 h2 hel hH (sy_w_rng v).1 (sy_w_rng v).2 (sy_w_rng v) kk
theorem sy_bas2 {a ln : Nat} {es : List ab_V} {lo hi z v : Int} {o : Nat} (hd : decode M.2.1 pc = .ok (.bastore, 1)) (hc : sy_cell a = some (102, ln, es)) (hln : ln ≤ 2147483647) (h1 : 0 ≤ z) (h2 : z < ln) (hel : ab_el es z.toNat = (0, lo, hi, o)) (hH : sy_H h) (v1 : lo ≤ v) (v2 : v ≤ hi) (hr : 0 ≤ v ∧ v ≤ 1) (kk : ∀ h', sy_H h' → (∀ b l, sy_rd h' b l = if b = a ∧ l = z.toNat then v else sy_rd h b l) → sy_wp (M, pc + 1, lv, st, h') Q) : sy_wp (M, pc, lv, sy_i v :: sy_i z :: .ref a :: st, h) Q :=
  sy_bas hd hc hln h1 h2 hel hH v1 v2 hr (fun h' e th => kk h' th (by rw [e]; exact sy_rdw hH hc (by omega) ⟨by omega, by omega⟩))
theorem sy_cas2 {a ln : Nat} {es : List ab_V} {lo hi z v : Int} {o : Nat} (hd : decode M.2.1 pc = .ok (.castore, 1)) (hc : sy_cell a = some (101, ln, es)) (hln : ln ≤ 2147483647) (h1 : 0 ≤ z) (h2 : z < ln) (hel : ab_el es z.toNat = (0, lo, hi, o)) (hH : sy_H h) (v1 : lo ≤ v) (v2 : v ≤ hi) (hr : 0 ≤ v ∧ v ≤ 65535) (kk : ∀ h', sy_H h' → (∀ b l, sy_rd h' b l = if b = a ∧ l = z.toNat then v else sy_rd h b l) → sy_wp (M, pc + 1, lv, st, h') Q) : sy_wp (M, pc, lv, sy_i v :: sy_i z :: .ref a :: st, h) Q :=
  sy_cas hd hc hln h1 h2 hel hH v1 v2 hr (fun h' e th => kk h' th (by rw [e]; exact sy_rdw hH hc (by omega) ⟨by omega, by omega⟩))
/-- a whole array of ints copied to another one of the same bounds -/
theorem sy_ac {idx ix jj zz a d ln : Nat} {lo hi : Int} {o : Nat} (hd : decode M.2.1 pc = .ok (.invokestatic idx, 3)) (he : mj_ent M idx = some (ix, 7, jj, zz)) (hca : sy_cell a = some (100, ln, [(0, lo, hi, o)])) (hcd : sy_cell d = some (100, ln, [(0, lo, hi, o)])) (hln : ln ≤ 2147483646) (hroom : 1 ≤ M.2.2.2.2.2.2.2.1 ∧ (st.map fun v => v.category).sum + 18 ≤ M.2.2.2.2.2.2.2.2) (hH : sy_H h) (kk : ∀ h', sy_H h' → (∀ b l, sy_rd h' b l = if b = d then sy_rd h a l else sy_rd h b l) → sy_wp (M, pc + 3, lv, st, h') Q) : sy_wp (M, pc, lv, sy_i (ln : Int) :: sy_i 0 :: .ref d :: sy_i 0 :: .ref a :: st, h) Q := by
  obtain ⟨xs, a1, a2, a3⟩ := hH.cell hca
  obtain ⟨ys, d1, d2, d3⟩ := hH.cell hcd
  have hdl : d < h.length := (List.getElem?_eq_some_iff.mp d1).1
  have hcp : mj_cpy xs ys 0 0 ln = xs := by
    unfold mj_cpy
    rw [List.take_zero, List.drop_zero, List.nil_append, Nat.zero_add, ← a2, List.take_length, a2, ← d2, List.drop_length, List.append_nil]
  have hx : sy_H (h.set d (100, xs)) := by
    refine ⟨by rw [List.length_set]; exact hH.1, fun b t hb => ?_⟩
    obtain ⟨tag', len', es', zs, g1, g2, g3, g4⟩ := hH.2 b t hb
    by_cases e : d = b
    · subst e
      obtain ⟨t1, e1, e2⟩ := sy_cell_ty hcd
      rw [e1] at hb
      cases hb
      rw [e2] at g1
      cases g1
      refine ⟨100, ln, _, xs, e2, List.getElem?_set_self hdl, a2, a3⟩
    · exact ⟨tag', len', es', zs, g1, by rw [List.getElem?_set_ne e]; exact g2, g3, g4⟩
  have hrd : ∀ b l, sy_rd (h.set d (100, xs)) b l = if b = d then sy_rd h a l else sy_rd h b l := by
    intro b l
    unfold sy_rd
    by_cases e : b = d
    · subst e
      rw [if_pos rfl, List.getElem?_set_self hdl, a1]
    · rw [if_neg e, List.getElem?_set_ne (Ne.symm e)]
  refine sy_st (S' := (M, pc + 3, lv, st, h.set d (100, xs))) hd (fun kc k => ?_) (kk _ hx hrd)
  unfold mj_do
  dsimp only
  rw [if_pos rfl, he]
  dsimp only
  rw [if_pos rfl]
  unfold mj_acopy sy_i
  dsimp only
  rw [a1, d1]
  dsimp only
  have e0 : ¬ (Int32.ofInt 0) < 0 ∧ (Int32.ofInt 0).toNatClampNeg = 0 := by decide
  obtain ⟨n1, n2⟩ := sy_idx (z := (ln : Int)) (n := ln + 1) (by omega) (by omega) (by omega)
  have n3 : (Int32.ofInt (ln : Int)).toNatClampNeg = ln := by rw [n2]; omega
  have hall : ((xs.drop 0).take ln).all mj_isI = true := by
    rw [List.drop_zero, ← a2, List.take_length, List.all_eq_true]
    intro v hv
    obtain ⟨i, hi⟩ := List.getElem?_of_mem hv
    have := a3 i v hi
    rw [ab_el_1 rfl i] at this
    obtain ⟨x, rfl, -⟩ := ab_m_0 this
    rfl
  rw [e0.2, n3, if_pos ⟨rfl, rfl, e0.1, e0.1, n1, by omega, by omega, hall, hroom.1, hroom.2⟩, hcp]
theorem sy_mn {idx ix jj zz : Nat} {a b : Int} (hd : decode M.2.1 pc = .ok (.invokestatic idx, 3)) (he : mj_ent M idx = some (ix, 10, jj, zz)) (hroom : 1 ≤ M.2.2.2.2.2.2.2.1 ∧ (st.map fun v => v.category).sum + 13 ≤ M.2.2.2.2.2.2.2.2) (ra : -2147483648 ≤ a ∧ a ≤ 2147483647) (rb : -2147483648 ≤ b ∧ b ≤ 2147483647) (kk : sy_wp (M, pc + 3, lv, sy_i (min a b) :: st, h) Q) : sy_wp (M, pc, lv, sy_i b :: sy_i a :: st, h) Q := by
  refine sy_st (S' := (M, pc + 3, lv, sy_i (min a b) :: st, h)) hd (fun kc k => ?_) kk
  unfold mj_do
  dsimp only
  rw [if_pos rfl, he]
  dsimp only
  rw [if_neg (by decide), if_pos (Or.inr rfl)]
  unfold mj_mm sy_i
  dsimp only
  rw [if_pos hroom, if_neg (by decide)]
  by_cases c : b < a
  · rw [if_pos (Int32.lt_iff_toInt_lt.mpr (by rw [sy_toInt ra, sy_toInt rb]; exact c)), show min a b = b by omega]
  · rw [if_neg (fun q => c (by have := Int32.lt_iff_toInt_lt.mp q; rw [sy_toInt ra, sy_toInt rb] at this; exact this)), show min a b = a by omega]
theorem sy_mx {idx ix jj zz : Nat} {a b : Int} (hd : decode M.2.1 pc = .ok (.invokestatic idx, 3)) (he : mj_ent M idx = some (ix, 9, jj, zz)) (hroom : 1 ≤ M.2.2.2.2.2.2.2.1 ∧ (st.map fun v => v.category).sum + 13 ≤ M.2.2.2.2.2.2.2.2) (ra : -2147483648 ≤ a ∧ a ≤ 2147483647) (rb : -2147483648 ≤ b ∧ b ≤ 2147483647) (kk : sy_wp (M, pc + 3, lv, sy_i (max a b) :: st, h) Q) : sy_wp (M, pc, lv, sy_i b :: sy_i a :: st, h) Q := by
  refine sy_st (S' := (M, pc + 3, lv, sy_i (max a b) :: st, h)) hd (fun kc k => ?_) kk
  unfold mj_do
  dsimp only
  rw [if_pos rfl, he]
  dsimp only
  rw [if_neg (by decide), if_pos (Or.inl rfl)]
  unfold mj_mm sy_i
  dsimp only
  rw [if_pos hroom, if_pos rfl]
  by_cases c : a < b
  · rw [if_pos (Int32.lt_iff_toInt_lt.mpr (by rw [sy_toInt ra, sy_toInt rb]; exact c)), show max a b = b by omega]
  · rw [if_neg (fun q => c (by have := Int32.lt_iff_toInt_lt.mp q; rw [sy_toInt ra, sy_toInt rb] at this; exact this)), show max a b = a by omega]
theorem sy_tbO {d lo hi a : Int} {offs : Array Int} {t : Nat} (hd : decode M.2.1 pc = .ok (.tableswitch d lo hi offs, len)) (ht : mj_to pc d = some t) (ra : -2147483648 ≤ a ∧ a ≤ 2147483647) (hc : a < lo ∨ hi < a) (kk : sy_wp (M, t, lv, st, h) Q) : sy_wp (M, pc, lv, sy_i a :: st, h) Q :=
  sy_one (mj_one_tblOut hd ht (by rw [sy_toInt ra]; exact hc)) kk
theorem sy_tbI {d lo hi a off : Int} {offs : Array Int} {t : Nat} (hd : decode M.2.1 pc = .ok (.tableswitch d lo hi offs, len)) (ra : -2147483648 ≤ a ∧ a ≤ 2147483647) (h1 : lo ≤ a) (h2 : a ≤ hi) (ho : offs[(a - lo).toNat]? = some off) (ht : mj_to pc off = some t) (kk : sy_wp (M, t, lv, st, h) Q) : sy_wp (M, pc, lv, sy_i a :: st, h) Q := by
  refine sy_one (mj_one_br (pc' := t) (st' := st) hd ?_ (fun _ _ => rfl)) kk
  unfold mj_br sy_i
  dsimp only
  rw [sy_toInt ra, if_neg (by omega), ho]
  dsimp only
  rw [ht]
  rfl
theorem sy_lk {d a off : Int} {ps : Array (Int × Int)} {t : Nat} (hd : decode M.2.1 pc = .ok (.lookupswitch d ps, len)) (hp : (ps.toList.zip (ps.toList.drop 1)).all (fun (a, next) => a.1 < next.1) = true) (ra : -2147483648 ≤ a ∧ a ≤ 2147483647) (ho : Op.lookupswitch.offset ps.toList d a = off) (ht : mj_to pc off = some t) (kk : sy_wp (M, t, lv, st, h) Q) : sy_wp (M, pc, lv, sy_i a :: st, h) Q :=
  sy_one (mj_one_look hd hp (by rw [sy_toInt ra]; exact ho) ht) kk
theorem sy_ladd {a b : Int} (hd : decode M.2.1 pc = .ok (.ladd, 1)) (kk : sy_wp (M, pc + 1, lv, sy_l (a + b) :: st, h) Q) : sy_wp (M, pc, lv, sy_l b :: sy_l a :: st, h) Q := by
  refine sy_st (S' := (M, pc + 1, lv, sy_l (a + b) :: st, h)) hd (fun kc k => ?_) kk
  simp only [mj_do, mj_br, mj_loc, mj_alu, mj_ll, sy_l, if_true, Int64.ofInt_add]
theorem sy_lmul {a b : Int} (hd : decode M.2.1 pc = .ok (.lmul, 1)) (kk : sy_wp (M, pc + 1, lv, sy_l (a * b) :: st, h) Q) : sy_wp (M, pc, lv, sy_l b :: sy_l a :: st, h) Q := by
  refine sy_st (S' := (M, pc + 1, lv, sy_l (a * b) :: st, h)) hd (fun kc k => ?_) kk
  simp only [mj_do, mj_br, mj_loc, mj_alu, mj_ll, sy_l, if_true, Int64.ofInt_mul]
theorem sy_lquot {a b : Int} (ha : 0 ≤ a ∧ a ≤ 9223372036854775807) (hb : 1 ≤ b ∧ b ≤ 9223372036854775807) : Int64.ofInt a / Int64.ofInt b = Int64.ofInt (a / b) ∧ ¬ Int64.ofInt b = 0 := by
  have e1 := sy_lto (z := a) ⟨by omega, by omega⟩
  have e2 := sy_lto (z := b) ⟨by omega, by omega⟩
  have h1 := Int.ediv_nonneg ha.1 (show 0 ≤ b by omega)
  have h2 := Int.ediv_le_self b ha.1
  refine ⟨?_, fun e => ?_⟩
  · apply Int64.toInt_inj.mp
    rw [Int64.toInt_div, e1, e2, Int.tdiv_eq_ediv_of_nonneg ha.1, sy_lto ⟨by omega, by omega⟩]
    exact ab_lbmod (by omega) (by omega)
  · have := congrArg Int64.toInt e
    rw [e2, show (0 : Int64).toInt = 0 by decide] at this
    omega
theorem sy_ldiv {a b : Int} (hd : decode M.2.1 pc = .ok (.ldiv, 1)) (ha : 0 ≤ a ∧ a ≤ 9223372036854775807) (hb : 1 ≤ b ∧ b ≤ 9223372036854775807) (kk : sy_wp (M, pc + 1, lv, sy_l (a / b) :: st, h) Q) : sy_wp (M, pc, lv, sy_l b :: sy_l a :: st, h) Q := by
  refine sy_st (S' := (M, pc + 1, lv, sy_l (a / b) :: st, h)) hd (fun kc k => ?_) kk
  obtain ⟨q1, q2⟩ := sy_lquot ha hb
  simp only [mj_do, mj_br, mj_loc, mj_alu, mj_ll, sy_l, if_true, if_neg q2, q1]
theorem sy_lrem {a b : Int} (hd : decode M.2.1 pc = .ok (.lrem, 1)) (ha : 0 ≤ a ∧ a ≤ 9223372036854775807) (hb : 1 ≤ b ∧ b ≤ 9223372036854775807) (kk : sy_wp (M, pc + 1, lv, sy_l (a % b) :: st, h) Q) : sy_wp (M, pc, lv, sy_l b :: sy_l a :: st, h) Q := by
  refine sy_st (S' := (M, pc + 1, lv, sy_l (a % b) :: st, h)) hd (fun kc k => ?_) kk
  obtain ⟨q1, q2⟩ := sy_lquot ha hb
  have e : Int64.ofInt a - Int64.ofInt (a / b) * Int64.ofInt b = Int64.ofInt (a % b) := by
    rw [← Int64.ofInt_mul, ← Int64.ofInt_sub, Int.emod_def, Int.mul_comm b]
  simp only [mj_do, mj_br, mj_loc, mj_alu, mj_ll, sy_l, if_true, if_neg q2, q1, e]
theorem sy_ldc2 {idx ix v z : Nat} {n : Int} (hd : decode M.2.1 pc = .ok (.ldc2_w idx, 3)) (he : mj_ent M idx = some (ix, 6, v, z)) (e : Int64.ofNat v = Int64.ofInt n) (kk : sy_wp (M, pc + 3, lv, sy_l n :: st, h) Q) : sy_wp (M, pc, lv, st, h) Q := by
  refine sy_st (S' := (M, pc + 3, lv, sy_l n :: st, h)) hd (fun kc k => ?_) kk
  unfold mj_do
  dsimp only
  rw [if_pos rfl]
  unfold mj_ldc2
  rw [he]
  dsimp only
  rw [if_pos rfl, e]
  rfl
theorem sy_l2i {a : Int} (hd : decode M.2.1 pc = .ok (.l2i, 1)) (ra : -2147483648 ≤ a ∧ a ≤ 2147483647) (kk : sy_wp (M, pc + 1, lv, sy_i a :: st, h) Q) : sy_wp (M, pc, lv, sy_l a :: st, h) Q := by
  refine sy_st (S' := (M, pc + 1, lv, sy_i a :: st, h)) hd (fun kc k => ?_) kk
  have e : (Int64.ofInt a).toInt32 = Int32.ofInt a := by
    apply Int32.toInt_inj.mp
    rw [Int64.toInt_toInt32, sy_lto ⟨by omega, by omega⟩, sy_toInt ra, ab_bmod (by omega) (by omega)]
  simp only [mj_do, mj_br, mj_loc, mj_alu, sy_i, sy_l, if_true, e]
theorem sy_i2c {a : Int} (hd : decode M.2.1 pc = .ok (.i2c, 1)) (ra : 0 ≤ a ∧ a ≤ 65535) (kk : sy_wp (M, pc + 1, lv, sy_i a :: st, h) Q) : sy_wp (M, pc, lv, sy_i a :: st, h) Q := by
  refine sy_st (S' := (M, pc + 1, lv, sy_i a :: st, h)) hd (fun kc k => ?_) kk
  have e := sy_narc ra.1 ra.2
  have e2 : Value.int (((Int32.ofInt a).toUInt32 % 65536).toInt32) = .int (Int32.ofInt a) := e
  have e3 : ((Int32.ofInt a).toUInt32 % 65536).toInt32 = Int32.ofInt a := by injection e2
  simp only [mj_do, mj_br, mj_loc, mj_alu, sy_i, if_true, e3]
end SY4
