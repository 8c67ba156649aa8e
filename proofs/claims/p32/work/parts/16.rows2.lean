/-! Rows of the small machine itself -/
def mj_do (sc : Option (List Int32)) (kc k : mj_S → mj_O) (ins : Instr) (len : Nat) (M : mj_M) (pc : Nat) (lv : mj_L) (st : List Value) (h : mj_H) : mj_O := match ins with
  | .bipush n => if len = 2 then k (M, pc + 2, lv, .int (Int8.ofInt n).toInt32 :: st, h) else none
  | .sipush n => if len = 3 then k (M, pc + 3, lv, .int (Int16.ofInt n).toInt32 :: st, h) else none
  | .ldc idx => if len = 2 then match mj_ldc M idx st with
    | some st' => k (M, pc + 2, lv, st', h)
    | none => none
    else none
  | .ldc_w idx => if len = 3 then match mj_ldc M idx st with
    | some st' => k (M, pc + 3, lv, st', h)
    | none => none
    else none
  | .ldc2_w idx => if len = 3 then match mj_ldc2 M idx st with
    | some st' => k (M, pc + 3, lv, st', h)
    | none => none
    else none
  | .getfield idx => if len = 3 then match mj_gf M idx st h with
    | some st' => k (M, pc + 3, lv, st', h)
    | none => none
    else none
  | .putfield idx => if len = 3 then match mj_pf M idx st h with
    | some (st', h') => k (M, pc + 3, lv, st', h')
    | none => none
    else none
  | .new idx => if len = 3 then match mj_new M idx st h with
    | some (st', h') => k (M, pc + 3, lv, st', h')
    | none => none
    else none
  | .newarray a => if len = 2 then match mj_newa a st h with
    | some (st', h') => k (M, pc + 2, lv, st', h')
    | none => none
    else none
  | .anewarray idx => if len = 3 then match mj_anew M idx st h with
    | some (st', h') => k (M, pc + 3, lv, st', h')
    | none => none
    else none
  | .iaload => if len = 1 then match mj_ald 100 sc st h with
    | some st' => k (M, pc + 1, lv, st', h)
    | none => none
    else none
  | .caload => if len = 1 then match mj_ald 101 sc st h with
    | some st' => k (M, pc + 1, lv, st', h)
    | none => none
    else none
  | .baload => if len = 1 then match mj_ald 102 sc st h with
    | some st' => k (M, pc + 1, lv, st', h)
    | none => none
    else none
  | .aaload => if len = 1 then match mj_ald 103 sc st h with
    | some st' => k (M, pc + 1, lv, st', h)
    | none => none
    else none
  | .iastore => if len = 1 then match mj_ast 100 st h with
    | some (st', h') => k (M, pc + 1, lv, st', h')
    | none => none
    else none
  | .castore => if len = 1 then match mj_ast 101 st h with
    | some (st', h') => k (M, pc + 1, lv, st', h')
    | none => none
    else none
  | .bastore => if len = 1 then match mj_ast 102 st h with
    | some (st', h') => k (M, pc + 1, lv, st', h')
    | none => none
    else none
  | .aastore => if len = 1 then match mj_aast st h with
    | some (st', h') => k (M, pc + 1, lv, st', h')
    | none => none
    else none
  | .arraylength => if len = 1 then match mj_alen sc st h with
    | some st' => k (M, pc + 1, lv, st', h)
    | none => none
    else none
  | .ireturn => if len = 1 then match st, M.2.2.2.1 with
    | [.int v], some ty => if narrow ty (.int v) = .int v then some (some (.int v), h) else none
    | _, _ => none
    else none
  | .return_ => if len = 1 then match st, M.2.2.2.1 with
    | [], none => some (none, h)
    | _, _ => none
    else none
  | .invokestatic idx => if len = 3 then match mj_ent M idx with
    | some (_, kd, j, _) => if kd = 7 then match mj_acopy M st h with
        | some (st', h') => k (M, pc + 3, lv, st', h')
        | none => none
      else if kd = 9 ∨ kd = 10 then match mj_mm M kd st with
        | some st' => k (M, pc + 3, lv, st', h)
        | none => none
      else match mj_meths[j]? with
        | some M' => if kd = 2 ∧ M'.2.2.2.2.2.2.1 = 0 then mj_call kc k M pc lv st h M' M'.2.2.2.2.2.1 else none
        | none => none
    | none => none
    else none
  | .invokevirtual idx => if len = 3 then match mj_ent M idx with
    | some (_, kd, j, _) => match mj_meths[j]? with
        | some M' => match st[M'.2.2.2.2.2.1]? with
          | some (.ref a) => match h[a]? with
            | some (t, _) => if kd = 2 ∧ M'.2.2.2.2.2.2.1 = 1 ∧ t = M'.2.2.2.2.1 ∧ t < 11 then mj_call kc k M pc lv st h M' (M'.2.2.2.2.2.1 + 1) else none
            | none => none
          | _ => none
        | none => none
    | none => none
    else none
  | .invokespecial idx => if len = 3 then match mj_ent M idx with
    | some (_, kd, j, _) => if kd = 8 then match st with
        | .ref a :: r => if 1 ≤ M.2.2.2.2.2.2.2.1 ∧ (r.map fun v => v.category).sum + 12 ≤ M.2.2.2.2.2.2.2.2 then k (M, pc + 3, lv, r, h) else none
        | _ => none
      else match mj_meths[j]? with
        | some M' => match st[M'.2.2.2.2.2.1]? with
          | some (.ref a) => if (kd = 2 ∨ kd = 3) ∧ M'.2.2.2.2.2.2.1 = 2 then mj_call kc k M pc lv st h M' (M'.2.2.2.2.2.1 + 1) else none
          | _ => none
        | none => none
    | none => none
    else none
  | ins => match mj_br ins len pc st with
    | some (pc', st') => k (M, pc', lv, st', h)
    | none => match mj_loc ins len M.2.2.1 lv st with
      | some (lv', st') => k (M, pc + len, lv', st', h)
      | none => if len = 1 then match mj_alu ins st with
        | some st' => k (M, pc + 1, lv, st', h)
        | none => none
        else none
section MJ9
variable {sc : Option (List Int32)} {M M' : mj_M} {pc : Nat} {lv : mj_L} {st rest vs : List Value} {h : mj_H} {ins : Instr} {len : Nat} {S' : mj_S}
theorem mj_step_do (hd : decode M.2.1 pc = .ok (ins, len)) (kc k : mj_S → mj_O) : mj_step sc kc k (M, pc, lv, st, h) = mj_do sc kc k ins len M pc lv st h := by
  unfold mj_step
  dsimp only
  rw [hd]
  cases ins <;> rfl
theorem mj_one_of (hd : decode M.2.1 pc = .ok (ins, len)) (he : ∀ kc k : mj_S → mj_O, mj_do sc kc k ins len M pc lv st h = k S') : mj_one sc (M, pc, lv, st, h) S' := fun kc k => (mj_step_do hd kc k).trans (he kc k)
theorem mj_ret_of {r : Option Value} {h' : mj_H} (hd : decode M.2.1 pc = .ok (ins, len)) (he : ∀ kc k : mj_S → mj_O, mj_do sc kc k ins len M pc lv st h = some (r, h')) : ∀ kc k : mj_S → mj_O, mj_step sc kc k (M, pc, lv, st, h) = some (r, h') := fun kc k => (mj_step_do hd kc k).trans (he kc k)
theorem mj_one_br {pc' : Nat} {st' : List Value} (hd : decode M.2.1 pc = .ok (ins, len)) (hb : mj_br ins len pc st = some (pc', st')) (hdo : ∀ kc k : mj_S → mj_O, mj_do sc kc k ins len M pc lv st h = (match mj_br ins len pc st with
        | some (pc', st') => k (M, pc', lv, st', h)
        | none => match mj_loc ins len M.2.2.1 lv st with
          | some (lv', st') => k (M, pc + len, lv', st', h)
          | none => if len = 1 then match mj_alu ins st with
            | some st' => k (M, pc + 1, lv, st', h)
            | none => none
            else none)) : mj_one sc (M, pc, lv, st, h) (M, pc', lv, st', h) := by
  refine mj_one_of hd fun kc k => ?_
  rw [hdo, hb]
theorem mj_one_ifT {c : ClassFile.Cond} {off : Int} {x : Int32} {t : Nat} (hd : decode M.2.1 pc = .ok (.ifCond c off, 3)) (ht : mj_to pc off = some t) (hc : mj_cmp c x 0 = true) : mj_one sc (M, pc, lv, .int x :: st, h) (M, t, lv, st, h) :=
  mj_one_br hd (by simp only [mj_br, ht, hc]; rfl) (fun _ _ => rfl)
theorem mj_one_ifF {c : ClassFile.Cond} {off : Int} {x : Int32} {t : Nat} (hd : decode M.2.1 pc = .ok (.ifCond c off, 3)) (ht : mj_to pc off = some t) (hc : mj_cmp c x 0 = false) : mj_one sc (M, pc, lv, .int x :: st, h) (M, pc + 3, lv, st, h) :=
  mj_one_br hd (by simp only [mj_br, ht, hc]; rfl) (fun _ _ => rfl)
theorem mj_one_icmpT {c : ClassFile.Cond} {off : Int} {x y : Int32} {t : Nat} (hd : decode M.2.1 pc = .ok (.if_icmp c off, 3)) (ht : mj_to pc off = some t) (hc : mj_cmp c x y = true) : mj_one sc (M, pc, lv, .int y :: .int x :: st, h) (M, t, lv, st, h) :=
  mj_one_br hd (by simp only [mj_br, ht, hc]; rfl) (fun _ _ => rfl)
theorem mj_one_icmpF {c : ClassFile.Cond} {off : Int} {x y : Int32} {t : Nat} (hd : decode M.2.1 pc = .ok (.if_icmp c off, 3)) (ht : mj_to pc off = some t) (hc : mj_cmp c x y = false) : mj_one sc (M, pc, lv, .int y :: .int x :: st, h) (M, pc + 3, lv, st, h) :=
  mj_one_br hd (by simp only [mj_br, ht, hc]; rfl) (fun _ _ => rfl)
theorem mj_one_tblOut {d lo hi : Int} {offs : Array Int} {x : Int32} {t : Nat} (hd : decode M.2.1 pc = .ok (.tableswitch d lo hi offs, len)) (ht : mj_to pc d = some t) (hc : x.toInt < lo ∨ hi < x.toInt) : mj_one sc (M, pc, lv, .int x :: st, h) (M, t, lv, st, h) :=
  mj_one_br hd (by simp only [mj_br, ht]; rw [if_pos hc]; rfl) (fun _ _ => rfl)
theorem mj_one_look {d off : Int} {ps : Array (Int × Int)} {x : Int32} {t : Nat} (hd : decode M.2.1 pc = .ok (.lookupswitch d ps, len)) (hp : (ps.toList.zip (ps.toList.drop 1)).all (fun (a, next) => a.1 < next.1) = true) (ho : Op.lookupswitch.offset ps.toList d x.toInt = off) (ht : mj_to pc off = some t) : mj_one sc (M, pc, lv, .int x :: st, h) (M, t, lv, st, h) :=
  mj_one_br hd (by simp only [mj_br, ho, ht]; rw [if_pos hp]; rfl) (fun _ _ => rfl)
/-- the room and the shape of a call -/
abbrev mj_fit (M M' : mj_M) (st : List Value) (n : Nat) : Prop := n ≤ st.length ∧ ((st.drop n).map fun v => v.category).sum ≤ 8 ∧ M'.2.2.2.2.2.2.2.1 + 1 ≤ M.2.2.2.2.2.2.2.1 ∧ 8 + (M'.2.2.1 + 11) + M'.2.2.2.2.2.2.2.2 ≤ M.2.2.2.2.2.2.2.2 ∧ (lg_sl (st.take n).reverse).length ≤ M'.2.2.1
theorem mj_call_eq {kc k : mj_S → mj_O} {n : Nat} {r1 : Option Value} {h1 : mj_H} (hf : mj_fit M M' st n) (hv : (st.take n).reverse = vs) (hr : st.drop n = rest) (e : kc (M', 0, lv_args 0 vs, [], h) = some (r1, h1)) : mj_call kc k M pc lv st h M' n = k (M, pc + 3, lv, r1.toList ++ rest, h1) := by
  unfold mj_call
  rw [if_pos hf, hv, e]
  dsimp only
  rw [hr]
theorem mj_calls_s {idx ix j z : Nat} (hd : decode M.2.1 pc = .ok (.invokestatic idx, 3)) (he : mj_ent M idx = some (ix, 2, j, z)) (hj : mj_meths[j]? = some M') (hk : M'.2.2.2.2.2.2.1 = 0) (hv : ((st.take M'.2.2.2.2.2.1).reverse, st.drop M'.2.2.2.2.2.1) = (vs, rest)) (hf : mj_fit M M' st M'.2.2.2.2.2.1) :
    mj_calls sc (M, pc, lv, st, h) (M', 0, lv_args 0 vs, [], h) (fun r1 h1 => (M, pc + 3, lv, r1.toList ++ rest, h1)) := by
  intro kc k r1 h1 e
  rw [mj_step_do hd]
  unfold mj_do
  dsimp only
  rw [if_pos rfl, he]
  dsimp only
  rw [if_neg (by decide), if_neg (by decide), hj]
  dsimp only
  rw [if_pos ⟨rfl, hk⟩]
  exact mj_call_eq hf (congrArg Prod.fst hv) (congrArg Prod.snd hv) e
theorem mj_calls_v {idx ix j z a t : Nat} {xs : List Value} (hd : decode M.2.1 pc = .ok (.invokevirtual idx, 3)) (he : mj_ent M idx = some (ix, 2, j, z)) (hj : mj_meths[j]? = some M') (hs : st[M'.2.2.2.2.2.1]? = some (.ref a)) (hc : h[a]? = some (t, xs)) (hk : (M'.2.2.2.2.2.2.1, M'.2.2.2.2.1) = (1, t)) (hv : ((st.take (M'.2.2.2.2.2.1 + 1)).reverse, st.drop (M'.2.2.2.2.2.1 + 1)) = (vs, rest)) (hf : t < 11 ∧ mj_fit M M' st (M'.2.2.2.2.2.1 + 1)) :
    mj_calls sc (M, pc, lv, st, h) (M', 0, lv_args 0 vs, [], h) (fun r1 h1 => (M, pc + 3, lv, r1.toList ++ rest, h1)) := by
  intro kc k r1 h1 e
  rw [mj_step_do hd]
  unfold mj_do
  dsimp only
  rw [if_pos rfl, he]
  dsimp only
  rw [hj]
  dsimp only
  rw [hs]
  dsimp only
  rw [hc]
  dsimp only
  rw [if_pos ⟨rfl, congrArg Prod.fst hk, (congrArg Prod.snd hk).symm, hf.1⟩]
  exact mj_call_eq hf.2 (congrArg Prod.fst hv) (congrArg Prod.snd hv) e
theorem mj_calls_i {idx ix kd j z a : Nat} (hd : decode M.2.1 pc = .ok (.invokespecial idx, 3)) (he : mj_ent M idx = some (ix, kd, j, z)) (hj : mj_meths[j]? = some M') (hs : st[M'.2.2.2.2.2.1]? = some (.ref a)) (hk : (kd = 2 ∨ kd = 3) ∧ M'.2.2.2.2.2.2.1 = 2) (hv : ((st.take (M'.2.2.2.2.2.1 + 1)).reverse, st.drop (M'.2.2.2.2.2.1 + 1)) = (vs, rest)) (hf : mj_fit M M' st (M'.2.2.2.2.2.1 + 1)) :
    mj_calls sc (M, pc, lv, st, h) (M', 0, lv_args 0 vs, [], h) (fun r1 h1 => (M, pc + 3, lv, r1.toList ++ rest, h1)) := by
  intro kc k r1 h1 e
  rw [mj_step_do hd]
  unfold mj_do
  dsimp only
  rw [if_pos rfl, he]
  dsimp only
  rw [if_neg (by rcases hk.1 with q | q <;> omega), hj]
  dsimp only
  rw [hs]
  dsimp only
  rw [if_pos hk]
  exact mj_call_eq hf (congrArg Prod.fst hv) (congrArg Prod.snd hv) e
end MJ9
theorem mj_l32 (x : Int32) : x.toInt64.toInt = x.toInt := Int32.toInt_toInt64 x
section MJ10
variable {x y : Int32} {i j : Int}
theorem mj_cT_eq (hx : x.toInt = i) (hy : y.toInt = j) (h : i = j) : mj_cmp .eq x y = true := decide_eq_true (Int32.toInt_inj.mp (by omega))
theorem mj_cF_eq (hx : x.toInt = i) (hy : y.toInt = j) (h : ¬ i = j) : mj_cmp .eq x y = false := decide_eq_false (fun q => h (by rw [← hx, ← hy, q]))
theorem mj_cT_ne (hx : x.toInt = i) (hy : y.toInt = j) (h : ¬ i = j) : mj_cmp .ne x y = true := decide_eq_true (fun q => h (by rw [← hx, ← hy, q]))
theorem mj_cF_ne (hx : x.toInt = i) (hy : y.toInt = j) (h : i = j) : mj_cmp .ne x y = false := decide_eq_false (fun q => q (Int32.toInt_inj.mp (by omega)))
theorem mj_cT_lt (hx : x.toInt = i) (hy : y.toInt = j) (h : i < j) : mj_cmp .lt x y = true := decide_eq_true (Int32.lt_iff_toInt_lt.mpr (by omega))
theorem mj_cF_lt (hx : x.toInt = i) (hy : y.toInt = j) (h : ¬ i < j) : mj_cmp .lt x y = false := decide_eq_false (fun q => h (by have := Int32.lt_iff_toInt_lt.mp q; omega))
theorem mj_cT_ge (hx : x.toInt = i) (hy : y.toInt = j) (h : j ≤ i) : mj_cmp .ge x y = true := decide_eq_true (Int32.le_iff_toInt_le.mpr (by omega))
theorem mj_cF_ge (hx : x.toInt = i) (hy : y.toInt = j) (h : ¬ j ≤ i) : mj_cmp .ge x y = false := decide_eq_false (fun q => h (by have := Int32.le_iff_toInt_le.mp q; omega))
theorem mj_cT_gt (hx : x.toInt = i) (hy : y.toInt = j) (h : j < i) : mj_cmp .gt x y = true := decide_eq_true (Int32.lt_iff_toInt_lt.mpr (by omega))
theorem mj_cF_gt (hx : x.toInt = i) (hy : y.toInt = j) (h : ¬ j < i) : mj_cmp .gt x y = false := decide_eq_false (fun q => h (by have := Int32.lt_iff_toInt_lt.mp q; omega))
theorem mj_cT_le (hx : x.toInt = i) (hy : y.toInt = j) (h : i ≤ j) : mj_cmp .le x y = true := decide_eq_true (Int32.le_iff_toInt_le.mpr (by omega))
theorem mj_cF_le (hx : x.toInt = i) (hy : y.toInt = j) (h : ¬ i ≤ j) : mj_cmp .le x y = false := decide_eq_false (fun q => h (by have := Int32.le_iff_toInt_le.mp q; omega))
end MJ10
section MJ11
variable {x y : Int64} {i j : Int}
theorem mj_lg_int (hx : x.toInt = i) (hy : y.toInt = j) : (lg_cmp x y).toInt = if j < i then 1 else if i = j then 0 else -1 := by
  unfold lg_cmp
  have e1 : x > y ↔ j < i := by
    rw [← hx, ← hy]
    exact Int64.lt_iff_toInt_lt
  have e2 : x = y ↔ i = j := by
    rw [← hx, ← hy]
    exact Int64.toInt_inj.symm
  by_cases h1 : j < i
  · rw [if_pos (e1.mpr h1), if_pos h1]; decide
  · rw [if_neg (fun q => h1 (e1.mp q)), if_neg h1]
    by_cases h2 : i = j
    · rw [if_pos (e2.mpr h2), if_pos h2]; decide
    · rw [if_neg (fun q => h2 (e2.mp q)), if_neg h2]; decide
theorem mj_lgT_eq (hx : x.toInt = i) (hy : y.toInt = j) (h : i = j) : mj_cmp .eq (lg_cmp x y) 0 = true := mj_cT_eq (mj_lg_int hx hy) (show (0 : Int32).toInt = 0 by decide) (by repeat' first | omega | split)
theorem mj_lgF_eq (hx : x.toInt = i) (hy : y.toInt = j) (h : ¬ i = j) : mj_cmp .eq (lg_cmp x y) 0 = false := mj_cF_eq (mj_lg_int hx hy) (show (0 : Int32).toInt = 0 by decide) (by repeat' first | omega | split)
theorem mj_lgT_ne (hx : x.toInt = i) (hy : y.toInt = j) (h : ¬ i = j) : mj_cmp .ne (lg_cmp x y) 0 = true := mj_cT_ne (mj_lg_int hx hy) (show (0 : Int32).toInt = 0 by decide) (by repeat' first | omega | split)
theorem mj_lgF_ne (hx : x.toInt = i) (hy : y.toInt = j) (h : i = j) : mj_cmp .ne (lg_cmp x y) 0 = false := mj_cF_ne (mj_lg_int hx hy) (show (0 : Int32).toInt = 0 by decide) (by repeat' first | omega | split)
theorem mj_lgT_lt (hx : x.toInt = i) (hy : y.toInt = j) (h : i < j) : mj_cmp .lt (lg_cmp x y) 0 = true := mj_cT_lt (mj_lg_int hx hy) (show (0 : Int32).toInt = 0 by decide) (by repeat' first | omega | split)
theorem mj_lgF_lt (hx : x.toInt = i) (hy : y.toInt = j) (h : ¬ i < j) : mj_cmp .lt (lg_cmp x y) 0 = false := mj_cF_lt (mj_lg_int hx hy) (show (0 : Int32).toInt = 0 by decide) (by repeat' first | omega | split)
theorem mj_lgT_ge (hx : x.toInt = i) (hy : y.toInt = j) (h : j ≤ i) : mj_cmp .ge (lg_cmp x y) 0 = true := mj_cT_ge (mj_lg_int hx hy) (show (0 : Int32).toInt = 0 by decide) (by repeat' first | omega | split)
theorem mj_lgF_ge (hx : x.toInt = i) (hy : y.toInt = j) (h : ¬ j ≤ i) : mj_cmp .ge (lg_cmp x y) 0 = false := mj_cF_ge (mj_lg_int hx hy) (show (0 : Int32).toInt = 0 by decide) (by repeat' first | omega | split)
theorem mj_lgT_gt (hx : x.toInt = i) (hy : y.toInt = j) (h : j < i) : mj_cmp .gt (lg_cmp x y) 0 = true := mj_cT_gt (mj_lg_int hx hy) (show (0 : Int32).toInt = 0 by decide) (by repeat' first | omega | split)
theorem mj_lgF_gt (hx : x.toInt = i) (hy : y.toInt = j) (h : ¬ j < i) : mj_cmp .gt (lg_cmp x y) 0 = false := mj_cF_gt (mj_lg_int hx hy) (show (0 : Int32).toInt = 0 by decide) (by repeat' first | omega | split)
theorem mj_lgT_le (hx : x.toInt = i) (hy : y.toInt = j) (h : i ≤ j) : mj_cmp .le (lg_cmp x y) 0 = true := mj_cT_le (mj_lg_int hx hy) (show (0 : Int32).toInt = 0 by decide) (by repeat' first | omega | split)
theorem mj_lgF_le (hx : x.toInt = i) (hy : y.toInt = j) (h : ¬ i ≤ j) : mj_cmp .le (lg_cmp x y) 0 = false := mj_cF_le (mj_lg_int hx hy) (show (0 : Int32).toInt = 0 by decide) (by repeat' first | omega | split)
end MJ11
/-- a closed run, worked out -/
def mj_res (f : Nat) (S : mj_S) : mj_H := match mj_ex f S with
  | some q => q.2
  | none => []
def mj_ans (f : Nat) (S : mj_S) : Option (Option Value) := match mj_ex f S with
  | some q => some q.1
  | none => none
theorem mj_closed (f : Nat) (S : mj_S) (r : Option Value) (h : mj_ans f S = some r) : mj_runs S r (mj_res f S) := by
  unfold mj_ans at h
  refine ⟨f, ?_⟩
  unfold mj_res
  split at h
  · rename_i q e
    rw [e]
    cases h
    rfl
  · cases h
