theorem mj_pf_len {M : mj_M} {idx : Nat} {st st' : List Value} {h h' : mj_H} (hs : mj_pf M idx st h = some (st', h')) : (h'.map fun c => c.2.length) = (h.map fun c => c.2.length) := by
  unfold mj_pf at hs
  split at hs
  · split at hs
    · split at hs
      · split at hs
        · rename_i t xs hcell
          split at hs
          · cases hs
            exact mj_lens hcell List.length_set
          · cases hs
        · cases hs
      · cases hs
    · cases hs
  · cases hs
theorem mj_ast_len {t : Nat} {st st' : List Value} {h h' : mj_H} (hs : mj_ast t st h = some (st', h')) : (h'.map fun c => c.2.length) = (h.map fun c => c.2.length) := by
  obtain ⟨x, j, a, xs, -, hc, -, -, rfl⟩ := mj_ast_inv hs
  exact mj_lens hc List.length_set
theorem mj_aast_len {st st' : List Value} {h h' : mj_H} (hs : mj_aast st h = some (st', h')) : (h'.map fun c => c.2.length) = (h.map fun c => c.2.length) := by
  unfold mj_aast at hs
  split at hs
  · split at hs
    · rename_i t xs vs hc hv
      split at hs
      · cases hs
        exact mj_lens hc List.length_set
      · cases hs
    · cases hs
  · cases hs
theorem mj_acopy_len {M : mj_M} {st st' : List Value} {h h' : mj_H} (hs : mj_acopy M st h = some (st', h')) : (h'.map fun c => c.2.length) = (h.map fun c => c.2.length) := by
  unfold mj_acopy at hs
  split at hs
  · split at hs
    · rename_i t xs t' ys hc0 hc1
      split at hs
      · rename_i hh
        cases hs
        exact mj_lens hc1 (mj_cpy_len hh.2.2.2.2.2.1 hh.2.2.2.2.2.2.1)
      · cases hs
    · cases hs
  · cases hs
theorem mj_new_app {M : mj_M} {idx : Nat} {st st' : List Value} {h h' : mj_H} (hs : mj_new M idx st h = some (st', h')) : ∃ t ys, h' = h ++ [(t, ys)] := by
  unfold mj_new at hs
  split at hs
  · split at hs
    · cases hs; exact ⟨_, _, rfl⟩
    · cases hs
  · cases hs
theorem mj_newa_app {a : ArrayType} {st st' : List Value} {h h' : mj_H} (hs : mj_newa a st h = some (st', h')) : ∃ t ys, h' = h ++ [(t, ys)] := by
  unfold mj_newa at hs
  split at hs
  · split at hs
    · cases hs; exact ⟨_, _, rfl⟩
    · cases hs
  · cases hs
theorem mj_anew_app {M : mj_M} {idx : Nat} {st st' : List Value} {h h' : mj_H} (hs : mj_anew M idx st h = some (st', h')) : ∃ t ys, h' = h ++ [(t, ys)] := by
  unfold mj_anew at hs
  split at hs
  · split at hs
    · cases hs; exact ⟨_, _, rfl⟩
    · cases hs
  · cases hs
