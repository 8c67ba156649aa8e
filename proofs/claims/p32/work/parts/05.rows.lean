/-! From the small machine to the model: values, stacks, locals -/
def mj_cv (b B : Nat) (v : Value) : Value := match v with
  | .ref k => .ref (B + k)
  | .retAddr _ => .ref b
  | v => v
def mj_cl (b B : Nat) (lv : mj_L) : List (Nat × Value) := lv.map (fun q => (q.1, mj_cv b B q.2))
theorem mj_cv_cat (b B : Nat) (v : Value) : (mj_cv b B v).category = v.category := by cases v <;> rfl
theorem mj_cv_int (b B : Nat) (x : Int32) : mj_cv b B (.int x) = .int x := rfl
theorem mj_cat_sum (b B : Nat) (st : List Value) : ((st.map (mj_cv b B)).map fun v => v.category).sum = (st.map fun v => v.category).sum := by
  rw [List.map_map]
  congr 1
  exact List.map_congr_left fun v _ => mj_cv_cat b B v
theorem mj_ii_inv {st st' : List Value} {f : Int32 → Int32 → Option Int32} (h : mj_ii st f = some st') : ∃ x y r v, st = .int y :: .int x :: r ∧ f x y = some v ∧ st' = .int v :: r := by
  unfold mj_ii at h
  split at h
  · rename_i y x r
    split at h
    · rename_i v e
      cases h
      exact ⟨x, y, r, v, rfl, e, rfl⟩
    · cases h
  · cases h
theorem mj_ll_inv {st st' : List Value} {f : Int64 → Int64 → Option Int64} (h : mj_ll st f = some st') : ∃ x y r v, st = .long y :: .long x :: r ∧ f x y = some v ∧ st' = .long v :: r := by
  unfold mj_ll at h
  split at h
  · rename_i y x r
    split at h
    · rename_i v e
      cases h
      exact ⟨x, y, r, v, rfl, e, rfl⟩
    · cases h
  · cases h
section MJ1
variable {p : Program} {l : Launch} {e : Env} {R : Room} {s : State} {m : MethodId} {args : Array Value} {below : List Frame} {meth : Method} {c : Code} {H : Heap} {locs : List Loc} {cells slots : Nat} {Q : State → Prop}
variable {cc : ByteArray} {pc : Nat} {ls : Array Slot} {b B : Nat}
set_option maxHeartbeats 4000000 in
theorem mj_alu_ok (hx : p.tables.exec = Jvm.exec) (hb : c.code = cc) {ins : Instr} {st st' : List Value} (h : mj_alu ins st = some st') (hd : decode cc pc = .ok (ins, 1))
    (k : W p l e R s m args below meth c H locs cells slots Q (F0 m (pc + 1) ls (st'.map (mj_cv b B)))) : W p l e R s m args below meth c H locs cells slots Q (F0 m pc ls (st.map (mj_cv b B))) := by
  cases ins with
  | iconst n => cases h; exact lv_iconst hx hb hd rfl k
  | lconst n => cases h; exact lv_lconst hx hb hd rfl k
  | iadd => simp only [mj_alu] at h; obtain ⟨x, y, r, v, rfl, ev, rfl⟩ := mj_ii_inv h; cases ev; exact lv_iadd hx hb hd k
  | isub => simp only [mj_alu] at h; obtain ⟨x, y, r, v, rfl, ev, rfl⟩ := mj_ii_inv h; cases ev; exact lv_isub hx hb hd k
  | imul => simp only [mj_alu] at h; obtain ⟨x, y, r, v, rfl, ev, rfl⟩ := mj_ii_inv h; cases ev; exact lv_imul hx hb hd k
  | iand => simp only [mj_alu] at h; obtain ⟨x, y, r, v, rfl, ev, rfl⟩ := mj_ii_inv h; cases ev; exact lv_iand hx hb hd k
  | ior => simp only [mj_alu] at h; obtain ⟨x, y, r, v, rfl, ev, rfl⟩ := mj_ii_inv h; cases ev; exact lv_ior hx hb hd k
  | ixor => simp only [mj_alu] at h; obtain ⟨x, y, r, v, rfl, ev, rfl⟩ := mj_ii_inv h; cases ev; exact lv_ixor hx hb hd k
  | idiv =>
    simp only [mj_alu] at h
    obtain ⟨x, y, r, v, rfl, ev, rfl⟩ := mj_ii_inv h
    by_cases hy : y = 0
    · rw [if_pos hy] at ev; cases ev
    · rw [if_neg hy] at ev; cases ev; exact lv_idiv hx hb hd hy k
  | irem =>
    simp only [mj_alu] at h
    obtain ⟨x, y, r, v, rfl, ev, rfl⟩ := mj_ii_inv h
    by_cases hy : y = 0
    · rw [if_pos hy] at ev; cases ev
    · rw [if_neg hy] at ev; cases ev; exact lv_irem hx hb hd hy k
  | ishl => simp only [mj_alu] at h; obtain ⟨x, y, r, v, rfl, ev, rfl⟩ := mj_ii_inv h; cases ev; exact lv_ishl hx hb hd k
  | ishr => simp only [mj_alu] at h; obtain ⟨x, y, r, v, rfl, ev, rfl⟩ := mj_ii_inv h; cases ev; exact lv_ishr hx hb hd k
  | iushr => simp only [mj_alu] at h; obtain ⟨x, y, r, v, rfl, ev, rfl⟩ := mj_ii_inv h; cases ev; exact lv_iushr hx hb hd rfl k
  | ladd => simp only [mj_alu] at h; obtain ⟨x, y, r, v, rfl, ev, rfl⟩ := mj_ll_inv h; cases ev; exact lv_ladd hx hb hd k
  | lmul => simp only [mj_alu] at h; obtain ⟨x, y, r, v, rfl, ev, rfl⟩ := mj_ll_inv h; cases ev; exact lv_lmul hx hb hd k
  | ldiv =>
    simp only [mj_alu] at h
    obtain ⟨x, y, r, v, rfl, ev, rfl⟩ := mj_ll_inv h
    by_cases hy : y = 0
    · rw [if_pos hy] at ev; cases ev
    · rw [if_neg hy] at ev; cases ev; exact lv_ldiv hx hb hd hy k
  | lrem =>
    simp only [mj_alu] at h
    obtain ⟨x, y, r, v, rfl, ev, rfl⟩ := mj_ll_inv h
    by_cases hy : y = 0
    · rw [if_pos hy] at ev; cases ev
    · rw [if_neg hy] at ev; cases ev; exact lv_lrem hx hb hd hy k
  | lcmp =>
    simp only [mj_alu] at h
    split at h
    · cases h; exact W.lcmp hx hb hd k
    · cases h
  | i2l =>
    simp only [mj_alu] at h
    split at h
    · cases h; exact lv_i2l hx hb hd rfl k
    · cases h
  | l2i =>
    simp only [mj_alu] at h
    split at h
    · cases h; exact lv_l2i hx hb hd rfl k
    · cases h
  | i2c =>
    simp only [mj_alu] at h
    split at h
    · cases h; exact lv_i2c hx hb hd rfl k
    · cases h
  | dup =>
    simp only [mj_alu] at h
    split at h
    · split at h
      · rename_i hc; cases h; exact lv_dup hx hb hd (by rw [mj_cv_cat]; exact hc) k
      · cases h
    · cases h
  | pop =>
    simp only [mj_alu] at h
    split at h
    · split at h
      · rename_i hc; cases h; exact lv_pop hx hb hd (by rw [mj_cv_cat]; exact hc) k
      · cases h
    · cases h
  | dup2 =>
    simp only [mj_alu] at h
    split at h
    · split at h
      · rename_i hc; cases h; exact lv_dup2_11 hx hb hd (by rw [mj_cv_cat]; exact hc.1) (by rw [mj_cv_cat]; exact hc.2) k
      · cases h
    · cases h
  | _ => exact absurd (show (none : Option (List Value)) = some st' from h) (by simp)
theorem mj_to_eq {pc t : Nat} {off : Int} (h : mj_to pc off = some t) : (pc : Int) + off = (t : Int) := by
  unfold mj_to at h
  split at h
  · cases h; omega
  · cases h
theorem mj_to_map {pc : Nat} {off : Int} {f : Nat → Nat × List Value} {q : Nat × List Value} (h : (mj_to pc off).map f = some q) : ∃ t : Nat, (pc : Int) + off = (t : Int) ∧ f t = q := by
  cases ht : mj_to pc off with
  | none => rw [ht] at h; cases h
  | some t => rw [ht] at h; exact ⟨t, mj_to_eq ht, Option.some.inj h⟩
theorem mj_pick {X : Bool} {P : Prop} {t u pc' : Nat} {G : Nat → Prop} (hX : X = true ↔ P) (he : (if X = true then t else u) = pc') (k : G pc') : (P → G t) ∧ (¬ P → G u) := by
  subst he
  refine ⟨fun q => ?_, fun q => ?_⟩
  · rw [if_pos (hX.mpr q)] at k; exact k
  · rw [if_neg (fun z => q (hX.mp z))] at k; exact k
set_option maxHeartbeats 4000000 in
theorem mj_br_ok (hx : p.tables.exec = Jvm.exec) (hb : c.code = cc) {ins : Instr} {len pc' : Nat} {st st' : List Value} (h : mj_br ins len pc st = some (pc', st')) (hd : decode cc pc = .ok (ins, len))
    (k : W p l e R s m args below meth c H locs cells slots Q (F0 m pc' ls (st'.map (mj_cv b B)))) : W p l e R s m args below meth c H locs cells slots Q (F0 m pc ls (st.map (mj_cv b B))) := by
  cases ins with
  | goto off =>
    simp only [mj_br] at h
    split at h
    · rename_i hl; subst hl
      obtain ⟨t, h1, h2⟩ := mj_to_map h
      cases h2
      exact lv_goto hx hb hd h1 k
    · cases h
  | ifCond cd off =>
    simp only [mj_br] at h
    split at h
    · split at h
      · rename_i hl; subst hl
        obtain ⟨t, h1, h2⟩ := mj_to_map h
        obtain ⟨h3, rfl⟩ := Prod.mk.inj h2
        cases cd
        · have kk := mj_pick (G := fun pc => W p l e R s m args below meth c H locs cells slots Q (F0 m pc ls _)) decide_eq_true_iff h3 k
          exact lv_if_eq hx hb hd h1 kk.1 kk.2
        · have kk := mj_pick (G := fun pc => W p l e R s m args below meth c H locs cells slots Q (F0 m pc ls _)) decide_eq_true_iff h3 k
          exact lv_if_ne hx hb hd h1 kk.1 (fun q => kk.2 (fun z => z q))
        · have kk := mj_pick (G := fun pc => W p l e R s m args below meth c H locs cells slots Q (F0 m pc ls _)) decide_eq_true_iff h3 k
          exact lv_if_lt hx hb hd h1 kk.1 kk.2
        · have kk := mj_pick (G := fun pc => W p l e R s m args below meth c H locs cells slots Q (F0 m pc ls _)) decide_eq_true_iff h3 k
          exact lv_if_ge hx hb hd h1 kk.1 kk.2
        · have kk := mj_pick (G := fun pc => W p l e R s m args below meth c H locs cells slots Q (F0 m pc ls _)) decide_eq_true_iff h3 k
          exact lv_if_gt hx hb hd h1 kk.1 kk.2
        · have kk := mj_pick (G := fun pc => W p l e R s m args below meth c H locs cells slots Q (F0 m pc ls _)) decide_eq_true_iff h3 k
          exact lv_if_le hx hb hd h1 kk.1 kk.2
      · cases h
    · cases h
  | if_icmp cd off =>
    simp only [mj_br] at h
    split at h
    · split at h
      · rename_i hl; subst hl
        obtain ⟨t, h1, h2⟩ := mj_to_map h
        obtain ⟨h3, rfl⟩ := Prod.mk.inj h2
        cases cd
        · have kk := mj_pick (G := fun pc => W p l e R s m args below meth c H locs cells slots Q (F0 m pc ls _)) decide_eq_true_iff h3 k
          exact lv_icmp_eq hx hb hd h1 kk.1 kk.2
        · have kk := mj_pick (G := fun pc => W p l e R s m args below meth c H locs cells slots Q (F0 m pc ls _)) decide_eq_true_iff h3 k
          exact lv_icmp_ne hx hb hd h1 kk.1 (fun q => kk.2 (fun z => z q))
        · have kk := mj_pick (G := fun pc => W p l e R s m args below meth c H locs cells slots Q (F0 m pc ls _)) decide_eq_true_iff h3 k
          exact lv_icmp_lt hx hb hd h1 kk.1 kk.2
        · have kk := mj_pick (G := fun pc => W p l e R s m args below meth c H locs cells slots Q (F0 m pc ls _)) decide_eq_true_iff h3 k
          exact lv_icmp_ge hx hb hd h1 kk.1 kk.2
        · have kk := mj_pick (G := fun pc => W p l e R s m args below meth c H locs cells slots Q (F0 m pc ls _)) decide_eq_true_iff h3 k
          exact lv_icmp_gt hx hb hd h1 kk.1 kk.2
        · have kk := mj_pick (G := fun pc => W p l e R s m args below meth c H locs cells slots Q (F0 m pc ls _)) decide_eq_true_iff h3 k
          exact lv_icmp_le hx hb hd h1 kk.1 kk.2
      · cases h
    · cases h
  | tableswitch d lo hi offs =>
    simp only [mj_br] at h
    split at h
    · split at h
      · rename_i ho
        obtain ⟨t, h1, h2⟩ := mj_to_map h
        cases h2
        exact lv_tableOut hx hb hd ho h1 k
      · rename_i ho
        split at h
        · rename_i off hoff
          obtain ⟨t, h1, h2⟩ := mj_to_map h
          cases h2
          exact lv_tableIn hx hb hd (fun q => ho (Or.inl q)) (fun q => ho (Or.inr q)) hoff h1 k
        · cases h
    · cases h
  | lookupswitch d ps =>
    simp only [mj_br] at h
    split at h
    · split at h
      · rename_i ho
        obtain ⟨t, h1, h2⟩ := mj_to_map h
        cases h2
        exact lv_lookup hx hb hd ho rfl h1 k
      · cases h
    · cases h
  | _ => exact absurd (show (none : Option (Nat × List Value)) = some (pc', st') from h) (by simp)
theorem mj_get_mem {lv : mj_L} {i : Nat} {v : Value} (h : mj_get lv i = some v) : (i, v) ∈ lv := by
  unfold mj_get at h
  obtain ⟨q, h1, h2⟩ := Option.map_eq_some_iff.mp h
  have h3 := List.find?_some h1
  have h4 : q.1 = i := by simpa using h3
  have h5 : q = (i, v) := by rw [← h4, ← h2]
  rw [← h5]
  exact List.mem_of_find?_eq_some h1
theorem mj_has_get {n : Nat} {lv : mj_L} {i : Nat} {v : Value} (hl : lv_has ls n (mj_cl b B lv)) (h : mj_get lv i = some v) : ls[i]? = some (.val (mj_cv b B v)) :=
  hl.2.2 (i, mj_cv b B v) (List.mem_map.mpr ⟨(i, v), mj_get_mem h, rfl⟩)
theorem mj_cl_put1 {lv : mj_L} {i : Nat} {v : Value} : (i, mj_cv b B v) :: (mj_cl b B lv).filter (fun q => !(q.1 == i) && !(q.1 + 1 == i && q.2.category == 2)) = mj_cl b B (mj_put1 lv i v) := by
  unfold mj_cl mj_put1
  rw [List.map_cons, List.filter_map]
  congr 2
  refine List.filter_congr fun q _ => ?_
  simp [Function.comp, mj_cv_cat]
theorem mj_cl_put2 {lv : mj_L} {i : Nat} {v : Value} : (i, mj_cv b B v) :: (mj_cl b B lv).filter (fun q => !(q.1 == i) && (!(q.1 == i + 1) && !(q.1 + 1 == i && q.2.category == 2))) = mj_cl b B (mj_put2 lv i v) := by
  unfold mj_cl mj_put2
  rw [List.map_cons, List.filter_map]
  congr 2
  refine List.filter_congr fun q _ => ?_
  simp [Function.comp, mj_cv_cat]
theorem mj_lo1_inv {i n len want : Nat} {lv lv' : mj_L} {st st' : List Value} {ok : Value → Bool} (h : mj_lo1 i n len want lv st ok = some (lv', st')) : len = want ∧ lv' = lv ∧ ∃ v, mj_get lv i = some v ∧ ok v = true ∧ st' = v :: st := by
  unfold mj_lo1 at h
  split at h
  · rename_i h1
    split at h
    · rename_i v h2
      split at h
      · rename_i h3
        cases h
        exact ⟨h1, rfl, v, h2, h3, rfl⟩
      · cases h
    · cases h
  · cases h
theorem mj_st1_inv {i n len want : Nat} {lv lv' : mj_L} {st st' : List Value} {ok : Value → Bool} (h : mj_st1 i n len want lv st ok = some (lv', st')) : len = want ∧ i < n ∧ ∃ v, st = v :: st' ∧ ok v = true ∧ lv' = mj_put1 lv i v := by
  unfold mj_st1 at h
  split at h
  · rename_i h1
    split at h
    · rename_i v r
      split at h
      · rename_i h3
        cases h
        exact ⟨h1.1, h1.2, v, rfl, h3, rfl⟩
      · cases h
    · cases h
  · cases h
theorem mj_isI_inv {v : Value} (h : mj_isI v = true) : ∃ x, v = .int x := by cases v <;> simp [mj_isI] at h; exact ⟨_, rfl⟩
theorem mj_isL_inv {v : Value} (h : mj_isL v = true) : ∃ x, v = .long x := by cases v <;> simp [mj_isL] at h; exact ⟨_, rfl⟩
theorem mj_isR_inv {v : Value} (h : mj_isR v = true) : ∃ x, v = .ref x := by cases v <;> simp [mj_isR] at h; exact ⟨_, rfl⟩
theorem mj_isA_inv (b B : Nat) {v : Value} (h : mj_isA v = true) : ∃ x, mj_cv b B v = .ref x := by cases v <;> simp [mj_isA] at h <;> exact ⟨_, rfl⟩
set_option maxHeartbeats 4000000 in
theorem mj_loc_ok (hx : p.tables.exec = Jvm.exec) (hb : c.code = cc) {ins : Instr} {len n : Nat} {lv lv' : mj_L} {st st' : List Value} (h : mj_loc ins len n lv st = some (lv', st')) (hd : decode cc pc = .ok (ins, len)) (hl : lv_has ls n (mj_cl b B lv))
    (k : ∀ ls' : Array Slot, lv_has ls' n (mj_cl b B lv') → W p l e R s m args below meth c H locs cells slots Q (F0 m (pc + len) ls' (st'.map (mj_cv b B)))) : W p l e R s m args below meth c H locs cells slots Q (F0 m pc ls (st.map (mj_cv b B))) := by
  cases ins with
  | iload_n i =>
    simp only [mj_loc] at h
    obtain ⟨rfl, rfl, v, h1, h2, rfl⟩ := mj_lo1_inv h
    obtain ⟨x, rfl⟩ := mj_isI_inv h2
    exact lv_iload_n hx hb hd rfl (mj_has_get hl h1) (k ls hl)
  | iload i =>
    simp only [mj_loc] at h
    obtain ⟨rfl, rfl, v, h1, h2, rfl⟩ := mj_lo1_inv h
    obtain ⟨x, rfl⟩ := mj_isI_inv h2
    exact lv_iload hx hb hd (mj_has_get hl h1) (k ls hl)
  | lload_n i =>
    simp only [mj_loc] at h
    obtain ⟨rfl, rfl, v, h1, h2, rfl⟩ := mj_lo1_inv h
    obtain ⟨x, rfl⟩ := mj_isL_inv h2
    exact lv_lload_n hx hb hd rfl (mj_has_get hl h1) (k ls hl)
  | lload i =>
    simp only [mj_loc] at h
    obtain ⟨rfl, rfl, v, h1, h2, rfl⟩ := mj_lo1_inv h
    obtain ⟨x, rfl⟩ := mj_isL_inv h2
    exact lv_lload hx hb hd (mj_has_get hl h1) (k ls hl)
  | aload_n i =>
    simp only [mj_loc] at h
    obtain ⟨rfl, rfl, v, h1, h2, rfl⟩ := mj_lo1_inv h
    have h3 := mj_has_get hl h1
    have h4 := k ls hl
    rw [List.map_cons] at h4
    obtain ⟨x, e⟩ := mj_isA_inv b B h2
    rw [e] at h3 h4
    exact lv_aload_n hx hb hd rfl h3 h4
  | aload i =>
    simp only [mj_loc] at h
    obtain ⟨rfl, rfl, v, h1, h2, rfl⟩ := mj_lo1_inv h
    have h3 := mj_has_get hl h1
    have h4 := k ls hl
    rw [List.map_cons] at h4
    obtain ⟨x, e⟩ := mj_isA_inv b B h2
    rw [e] at h3 h4
    exact lv_aload hx hb hd h3 h4
  | istore_n i =>
    simp only [mj_loc] at h
    obtain ⟨rfl, h1, v, rfl, h2, rfl⟩ := mj_st1_inv h
    obtain ⟨x, rfl⟩ := mj_isI_inv h2
    exact lv_istore_n hx hb hd rfl hl h1 (mj_cl_put1 (v := .int x)) k
  | istore i =>
    simp only [mj_loc] at h
    obtain ⟨rfl, h1, v, rfl, h2, rfl⟩ := mj_st1_inv h
    obtain ⟨x, rfl⟩ := mj_isI_inv h2
    exact lv_istore hx hb hd hl h1 (mj_cl_put1 (v := .int x)) k
  | astore_n i =>
    simp only [mj_loc] at h
    obtain ⟨rfl, h1, v, rfl, h2, rfl⟩ := mj_st1_inv h
    obtain ⟨x, rfl⟩ := mj_isR_inv h2
    exact lv_astore_n hx hb hd rfl hl h1 (mj_cl_put1 (v := .ref x)) k
  | astore i =>
    simp only [mj_loc] at h
    obtain ⟨rfl, h1, v, rfl, h2, rfl⟩ := mj_st1_inv h
    obtain ⟨x, rfl⟩ := mj_isR_inv h2
    exact lv_astore hx hb hd hl h1 (mj_cl_put1 (v := .ref x)) k
  | lstore_n i =>
    simp only [mj_loc] at h
    split at h
    · rename_i h1
      split at h
      · rename_i x r
        cases h
        obtain ⟨rfl, h2⟩ := h1
        exact lv_lstore_n hx hb hd rfl hl h2 (mj_cl_put2 (v := .long x)) k
      · cases h
    · cases h
  | iinc i d =>
    simp only [mj_loc] at h
    split at h
    · rename_i h1
      split at h
      · rename_i x hg
        cases h
        obtain ⟨rfl, h2⟩ := h1
        obtain ⟨q, hq⟩ := List.getElem?_of_mem (List.mem_map.mpr ⟨(i, Value.int x), mj_get_mem hg, rfl⟩ : (i, mj_cv b B (.int x)) ∈ mj_cl b B lv)
        exact lv_iinc hx hb hd hl hq rfl h2 (mj_cl_put1 (v := .int (x + Int32.ofInt d))) k
      · cases h
    · cases h
  | _ => exact absurd (show (none : Option (mj_L × List Value)) = some (lv', st') from h) (by simp)
end MJ1
