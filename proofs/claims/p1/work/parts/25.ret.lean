/-- an int as an answer of type int -/
theorem mj_ret_I {sc : Option (List Int32)} {M : mj_M} {pc : Nat} {lv : mj_L} {h : mj_H} {v : Int32} (hd : decode M.2.1 pc = .ok (.ireturn, 1)) (hr : M.2.2.2.1 = some .int) : ∀ kc k : mj_S → mj_O, mj_step sc kc k (M, pc, lv, [.int v], h) = some (some (.int v), h) := by
  refine mj_ret_of hd fun kc k => ?_
  unfold mj_do
  dsimp only
  rw [if_pos rfl, hr]
  dsimp only
  exact if_pos rfl
