/-! MORE LOCALS change no run; more rows for walks -/
def sy_les (lv lv' : mj_L) : Prop := ∀ i v, mj_get lv i = some v → mj_get lv' i = some v
def sy_nd (lv : mj_L) : Prop := (lv.map (fun q => q.1)).Nodup
theorem mj_get_nd : ∀ {lv : mj_L} {i : Nat} {v : Value}, sy_nd lv → (i, v) ∈ lv → mj_get lv i = some v := by
  intro lv
  induction lv with
  | nil => intro i v _ h; cases h
  | cons q lv ih =>
    intro i v hn h
    obtain ⟨a, b⟩ := q
    unfold sy_nd at hn
    rw [List.map_cons, List.nodup_cons] at hn
    rcases List.mem_cons.mp h with e | h
    · cases e; exact mj_get_self
    · have hne : i ≠ a := fun e => hn.1 (List.mem_map.mpr ⟨(i, v), h, e⟩)
      rw [mj_get_cons_ne hne]
      exact ih hn.2 h
theorem sy_nd_filter {lv : mj_L} (P : Nat × Value → Bool) (h : sy_nd lv) : sy_nd (lv.filter P) := by
  unfold sy_nd at h ⊢
  exact List.Nodup.sublist (List.Sublist.map _ List.filter_sublist) h
theorem sy_sub_put {lv lv' : mj_L} {i : Nat} {v : Value} (P : Nat × Value → Bool) (hn : sy_nd lv) (hs : sy_les lv lv') : sy_les ((i, v) :: lv.filter P) ((i, v) :: lv'.filter P) := by
  intro j w h
  by_cases e : j = i
  · subst e
    rw [mj_get_self] at h ⊢
    exact h
  · rw [mj_get_cons_ne e] at h ⊢
    have hm := List.mem_filter.mp (mj_get_mem h)
    exact mj_find_filter hm.2 lv' (hs j w (mj_get_nd hn hm.1))
theorem sy_nd_put {lv : mj_L} {i : Nat} {v : Value} (P : Nat × Value → Bool) (hP : ∀ q, P q = true → q.1 ≠ i) (hn : sy_nd lv) : sy_nd ((i, v) :: lv.filter P) := by
  unfold sy_nd
  rw [List.map_cons, List.nodup_cons]
  refine ⟨fun h => ?_, sy_nd_filter P hn⟩
  obtain ⟨q, hq, e⟩ := List.mem_map.mp h
  exact hP q (List.mem_filter.mp hq).2 e
theorem sy_sub_put1 {lv lv' : mj_L} {i : Nat} {v : Value} (hn : sy_nd lv) (hs : sy_les lv lv') : sy_nd (mj_put1 lv i v) ∧ sy_les (mj_put1 lv i v) (mj_put1 lv' i v) :=
  ⟨sy_nd_put _ (fun q hq e => by simp [e] at hq) hn, sy_sub_put _ hn hs⟩
theorem sy_sub_put2 {lv lv' : mj_L} {i : Nat} {v : Value} (hn : sy_nd lv) (hs : sy_les lv lv') : sy_nd (mj_put2 lv i v) ∧ sy_les (mj_put2 lv i v) (mj_put2 lv' i v) :=
  ⟨sy_nd_put _ (fun q hq e => by simp [e] at hq) hn, sy_sub_put _ hn hs⟩
theorem sy_lo1_sub {lv lv' lv1 : mj_L} {i n len want : Nat} {st st1 : List Value} {ok : Value → Bool} (hn : sy_nd lv) (hs : sy_les lv lv') (h : mj_lo1 i n len want lv st ok = some (lv1, st1)) : ∃ lv1', mj_lo1 i n len want lv' st ok = some (lv1', st1) ∧ sy_nd lv1 ∧ sy_les lv1 lv1' := by
  unfold mj_lo1 at h ⊢
  split at h
  · rename_i hl
    rw [if_pos hl]
    split at h
    · rename_i v e
      rw [hs _ _ e]
      dsimp only
      split at h
      · rename_i ho
        cases h
        rw [if_pos ho]
        exact ⟨lv', rfl, hn, hs⟩
      · cases h
    · cases h
  · cases h
theorem sy_st1_sub {lv lv' lv1 : mj_L} {i n len want : Nat} {st st1 : List Value} {ok : Value → Bool} (hn : sy_nd lv) (hs : sy_les lv lv') (h : mj_st1 i n len want lv st ok = some (lv1, st1)) : ∃ lv1', mj_st1 i n len want lv' st ok = some (lv1', st1) ∧ sy_nd lv1 ∧ sy_les lv1 lv1' := by
  unfold mj_st1 at h ⊢
  split at h
  · rename_i hl
    rw [if_pos hl]
    split at h
    · split at h
      · rename_i ho
        cases h
        rw [if_pos ho]
        exact ⟨_, rfl, sy_sub_put1 hn hs⟩
      · cases h
    · cases h
  · cases h
theorem sy_loc_sub {lv lv' lv1 : mj_L} {ins : Instr} {len n : Nat} {st st1 : List Value} (hn : sy_nd lv) (hs : sy_les lv lv') (h : mj_loc ins len n lv st = some (lv1, st1)) : ∃ lv1', mj_loc ins len n lv' st = some (lv1', st1) ∧ sy_nd lv1 ∧ sy_les lv1 lv1' := by
  unfold mj_loc at h ⊢
  split at h
  all_goals first
    | exact sy_lo1_sub hn hs h
    | exact sy_st1_sub hn hs h
    | skip
  · split at h
    · rename_i hl
      rw [if_pos hl]
      split at h
      · cases h
        exact ⟨_, rfl, sy_sub_put2 hn hs⟩
      · cases h
    · cases h
  · split at h
    · rename_i hl
      rw [if_pos hl]
      split at h
      · rename_i x e
        cases h
        rw [hs _ _ e]
        exact ⟨_, rfl, sy_sub_put1 hn hs⟩
      · cases h
    · cases h
  · cases h
theorem sy_loc_alu {ins : Instr} {len n : Nat} {lv : mj_L} {st : List Value} {q : mj_L × List Value} (h : mj_loc ins len n lv st = some q) : ∀ st', mj_alu ins st' = none := by
  intro st'
  cases ins <;> first | rfl | (cases h; done)
def sy_LV (k : mj_S → mj_O) : Prop := ∀ (M : mj_M) (pc : Nat) (lv lv' : mj_L) (st : List Value) (h : mj_H) (x : Option Value × mj_H), sy_nd lv → sy_les lv lv' → k (M, pc, lv, st, h) = some x → k (M, pc, lv', st, h) = some x
theorem sy_call_lv {kc k : mj_S → mj_O} (hk : sy_LV k) {M M' : mj_M} {pc n : Nat} {lv lv' : mj_L} {st : List Value} {h : mj_H} {x : Option Value × mj_H} (hn : sy_nd lv) (hs : sy_les lv lv') (hc : mj_call kc k M pc lv st h M' n = some x) : mj_call kc k M pc lv' st h M' n = some x := by
  unfold mj_call at hc ⊢
  split at hc
  · rename_i hh
    rw [if_pos hh]
    split at hc
    · exact hk _ _ _ _ _ _ _ hn hs hc
    · cases hc
  · cases hc
theorem sy_dfl_lv {k : mj_S → mj_O} (hk : sy_LV k) {M : mj_M} {pc len : Nat} {ins : Instr} {lv lv' : mj_L} {st : List Value} {h : mj_H} {x : Option Value × mj_H} (hn : sy_nd lv) (hs : sy_les lv lv') :
    (match mj_br ins len pc st with
        | some (pc', st') => k (M, pc', lv, st', h)
        | none => match mj_loc ins len M.2.2.1 lv st with
          | some (lv', st') => k (M, pc + len, lv', st', h)
          | none => if len = 1 then match mj_alu ins st with
            | some st' => k (M, pc + 1, lv, st', h)
            | none => none
            else none) = some x → (match mj_br ins len pc st with
        | some (pc', st') => k (M, pc', lv', st', h)
        | none => match mj_loc ins len M.2.2.1 lv' st with
          | some (lv', st') => k (M, pc + len, lv', st', h)
          | none => if len = 1 then match mj_alu ins st with
            | some st' => k (M, pc + 1, lv', st', h)
            | none => none
            else none) = some x := by
  intro hc
  cases e : mj_br ins len pc st with
  | some q => rw [e] at hc; exact hk _ _ _ _ _ _ _ hn hs hc
  | none =>
    rw [e] at hc
    dsimp only at hc ⊢
    cases e2 : mj_loc ins len M.2.2.1 lv st with
    | some q =>
      rw [e2] at hc
      obtain ⟨l1, s1⟩ := q
      obtain ⟨l2, g1, g2, g3⟩ := sy_loc_sub hn hs e2
      rw [g1]
      exact hk _ _ _ _ _ _ _ g2 g3 hc
    | none =>
      rw [e2] at hc
      dsimp only at hc
      split at hc
      · rename_i hl
        split at hc
        · rename_i st' e3
          cases e4 : mj_loc ins len M.2.2.1 lv' st with
          | some q =>
            rw [sy_loc_alu e4] at e3
            cases e3
          | none =>
            dsimp only
            rw [if_pos hl]
            exact hk _ _ _ _ _ _ _ hn hs hc
        · cases hc
      · cases hc
set_option maxHeartbeats 4000000 in
theorem sy_step_lv {kc k : mj_S → mj_O} (hk : sy_LV k) : sy_LV (mj_step none kc k) := by
  intro M pc lv lv' st h x hn hs
  unfold mj_step
  dsimp only
  cases hd : decode M.2.1 pc with
  | error e => intro hc; cases hc
  | ok q =>
    obtain ⟨ins, len⟩ := q
    dsimp only
    have dfl := sy_dfl_lv (k := k) hk (M := M) (pc := pc) (len := len) (ins := ins) (h := h) (st := st) (x := x) hn hs
    cases ins <;> dsimp only
    all_goals first
      | exact dfl
      | skip
    all_goals clear dfl
    all_goals repeat' first
      | exact fun hc => hk _ _ _ _ _ _ _ hn hs hc
      | exact fun hc => hc
      | exact sy_call_lv hk hn hs
      | split
      | (intro hc; cases hc; done)
theorem sy_ex_lv (f : Nat) : sy_LV (mj_ex f) := by
  induction f with
  | zero => intro M pc lv lv' st h x _ _ hs; cases hs
  | succ f ih => exact sy_step_lv ih
def sy_sl (lv' : mj_L) : mj_L → Prop
  | [] => True
  | (i, v) :: r => mj_get lv' i = some v ∧ sy_sl lv' r
theorem sy_sl_ok {lv' : mj_L} : ∀ lv : mj_L, sy_sl lv' lv → ∀ i v, (i, v) ∈ lv → mj_get lv' i = some v := by
  intro lv
  induction lv with
  | nil => intro _ i v h; cases h
  | cons q lv ih =>
    intro h i v hm
    obtain ⟨a, b⟩ := q
    rcases List.mem_cons.mp hm with e | hm
    · cases e; exact h.1
    · exact ih h.2 i v hm
def sy_ndk : List Nat → Bool
  | [] => true
  | i :: r => !(r.any (fun j => j == i)) && sy_ndk r
theorem sy_ndk_ok : ∀ l : List Nat, sy_ndk l = true → l.Nodup := by
  intro l
  induction l with
  | nil => intro _; exact List.nodup_nil
  | cons i r ih =>
    intro h
    simp only [sy_ndk, Bool.and_eq_true] at h
    refine List.nodup_cons.mpr ⟨fun hm => ?_, ih h.2⟩
    have h1 := h.1
    have : r.any (fun j => j == i) = true := List.any_eq_true.mpr ⟨i, hm, by simp⟩
    rw [this] at h1
    cases h1
/-- the same run from locals that say as much -/
theorem sy_lv {M : mj_M} {pc : Nat} {lv lv' : mj_L} {st : List Value} {h : mj_H} {Q : Option Value → mj_H → Prop} (hn : sy_ndk (lv.map (fun q => q.1)) = true) (hs : sy_sl lv' lv) (k : sy_wp (M, pc, lv, st, h) Q) : sy_wp (M, pc, lv', st, h) Q := by
  obtain ⟨r, h', ⟨f, e⟩, q⟩ := k
  exact ⟨r, h', ⟨f, sy_ex_lv f _ _ _ _ _ _ _ (sy_ndk_ok _ hn) (fun i v hv => sy_sl_ok lv hs i v (mj_get_mem hv)) e⟩, q⟩
