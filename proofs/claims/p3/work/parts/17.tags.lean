/-! Cells keep their kind and their length -/
def mj_T (h h' : mj_H) : Prop := ∀ (a t : Nat) (xs : List Value), h[a]? = some (t, xs) → ∃ ys, h'[a]? = some (t, ys) ∧ ys.length = xs.length
theorem mj_T.rf (h : mj_H) : mj_T h h := fun _ _ xs e => ⟨xs, e, rfl⟩
theorem mj_T.tr {h h1 h2 : mj_H} (p : mj_T h h1) (q : mj_T h1 h2) : mj_T h h2 := fun a t xs e => by
  obtain ⟨ys, e1, e2⟩ := p a t xs e
  obtain ⟨zs, e3, e4⟩ := q a t ys e1
  exact ⟨zs, e3, e4.trans e2⟩
theorem mj_T.st {h : mj_H} {a t : Nat} {xs ys : List Value} (hc : h[a]? = some (t, xs)) (hl : ys.length = xs.length) : mj_T h (h.set a (t, ys)) := fun a' t' xs' e => by
  by_cases q : a' = a
  · subst q
    rw [hc] at e
    cases e
    have hlt : a' < h.length := (List.getElem?_eq_some_iff.mp hc).1
    exact ⟨ys, by rw [List.getElem?_set_self hlt], hl⟩
  · exact ⟨xs', by rw [List.getElem?_set_ne (Ne.symm q)]; exact e, rfl⟩
theorem mj_T.ap (h : mj_H) (c : mj_C) : mj_T h (h ++ [c]) := fun a t xs e => by
  have hlt : a < h.length := (List.getElem?_eq_some_iff.mp e).1
  exact ⟨xs, by rw [List.getElem?_append_left hlt]; exact e, rfl⟩
theorem mj_pf_T {M : mj_M} {idx : Nat} {st st' : List Value} {h h' : mj_H} (hs : mj_pf M idx st h = some (st', h')) : mj_T h h' := by
  unfold mj_pf at hs
  split at hs
  · split at hs
    · split at hs
      · split at hs
        · rename_i t xs hcell
          split at hs
          · cases hs
            exact mj_T.st hcell List.length_set
          · cases hs
        · cases hs
      · cases hs
    · cases hs
  · cases hs
theorem mj_ast_T {t : Nat} {st st' : List Value} {h h' : mj_H} (hs : mj_ast t st h = some (st', h')) : mj_T h h' := by
  obtain ⟨x, j, a, xs, -, hc, -, -, rfl⟩ := mj_ast_inv hs
  exact mj_T.st hc List.length_set
theorem mj_aast_T {st st' : List Value} {h h' : mj_H} (hs : mj_aast st h = some (st', h')) : mj_T h h' := by
  unfold mj_aast at hs
  split at hs
  · split at hs
    · rename_i t xs vs hc hv
      split at hs
      · cases hs
        exact mj_T.st hc List.length_set
      · cases hs
    · cases hs
  · cases hs
theorem mj_acopy_T {M : mj_M} {st st' : List Value} {h h' : mj_H} (hs : mj_acopy M st h = some (st', h')) : mj_T h h' := by
  unfold mj_acopy at hs
  split at hs
  · split at hs
    · rename_i t xs t' ys hc0 hc1
      split at hs
      · rename_i hh
        cases hs
        exact mj_T.st hc1 (mj_cpy_len hh.2.2.2.2.2.1 hh.2.2.2.2.2.2.1)
      · cases hs
    · cases hs
  · cases hs
theorem mj_new_T {M : mj_M} {idx : Nat} {st st' : List Value} {h h' : mj_H} (hs : mj_new M idx st h = some (st', h')) : mj_T h h' := by
  obtain ⟨t, ys, rfl⟩ := mj_new_app hs
  exact mj_T.ap _ _
theorem mj_newa_T {a : ArrayType} {st st' : List Value} {h h' : mj_H} (hs : mj_newa a st h = some (st', h')) : mj_T h h' := by
  obtain ⟨t, ys, rfl⟩ := mj_newa_app hs
  exact mj_T.ap _ _
theorem mj_anew_T {M : mj_M} {idx : Nat} {st st' : List Value} {h h' : mj_H} (hs : mj_anew M idx st h = some (st', h')) : mj_T h h' := by
  obtain ⟨t, ys, rfl⟩ := mj_anew_app hs
  exact mj_T.ap _ _
def mj_GT (k : mj_S → mj_O) : Prop := ∀ (M : mj_M) (pc : Nat) (lv : mj_L) (st : List Value) (h : mj_H) (r : Option Value) (h' : mj_H), k (M, pc, lv, st, h) = some (r, h') → mj_T h h'
theorem mj_call_T {kc k : mj_S → mj_O} (hkc : mj_GT kc) (hk : mj_GT k) {M M' : mj_M} {pc n : Nat} {lv : mj_L} {st : List Value} {h : mj_H} {r : Option Value} {h' : mj_H} (hs : mj_call kc k M pc lv st h M' n = some (r, h')) : mj_T h h' := by
  obtain ⟨-, r1, h1, e1, e2⟩ := mj_call_inv hs
  exact (hkc _ _ _ _ _ _ _ e1).tr (hk _ _ _ _ _ _ _ e2)
set_option maxHeartbeats 4000000 in
theorem mj_step_T {sc : Option (List Int32)} {kc k : mj_S → mj_O} (hkc : mj_GT kc) (hk : mj_GT k) : mj_GT (mj_step sc kc k) := by
  intro M pc lv st h r h'
  unfold mj_step
  dsimp only
  cases hd : decode M.2.1 pc with
  | error e => intro hs; cases hs
  | ok q =>
    obtain ⟨ins, len⟩ := q
    dsimp only
    cases ins <;> dsimp only
    all_goals repeat' first
      | exact fun hs => hk _ _ _ _ _ _ _ hs
      | exact fun hs => mj_call_T hkc hk hs
      | exact fun hs => (mj_pf_T (by assumption)).tr (hk _ _ _ _ _ _ _ hs)
      | exact fun hs => (mj_ast_T (by assumption)).tr (hk _ _ _ _ _ _ _ hs)
      | exact fun hs => (mj_aast_T (by assumption)).tr (hk _ _ _ _ _ _ _ hs)
      | exact fun hs => (mj_acopy_T (by assumption)).tr (hk _ _ _ _ _ _ _ hs)
      | exact fun hs => (mj_new_T (by assumption)).tr (hk _ _ _ _ _ _ _ hs)
      | exact fun hs => (mj_newa_T (by assumption)).tr (hk _ _ _ _ _ _ _ hs)
      | exact fun hs => (mj_anew_T (by assumption)).tr (hk _ _ _ _ _ _ _ hs)
      | split
      | (intro hs; cases hs; exact mj_T.rf _)
      | (intro hs; cases hs; done)
theorem mj_ex_T (f : Nat) : mj_GT (mj_ex f) := by
  induction f with
  | zero => intro M pc lv st h r h' hs; cases hs
  | succ f ih => exact mj_step_T ih ih
theorem mj_runs.T {M : mj_M} {pc : Nat} {lv : mj_L} {st : List Value} {h h' : mj_H} {r : Option Value} (h0 : mj_runs (M, pc, lv, st, h) r h') : mj_T h h' := by
  obtain ⟨f, e⟩ := h0
  exact mj_ex_T f _ _ _ _ _ _ _ e
