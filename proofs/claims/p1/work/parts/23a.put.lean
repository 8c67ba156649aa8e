/-- an int into a field of type int that is not final -/
theorem mj_one_putI {sc : Option (List Int32)} {M : mj_M} {pc idx ix kd ci kf a : Nat} {lv : mj_L} {st xs : List Value} {h : mj_H} {x : Int32} (hd : decode M.2.1 pc = .ok (.putfield idx, 3)) (he : mj_ent M idx = some (ix, kd, ci, kf)) (hkd : kd ≤ 1) (hc : h[a]? = some (ci, xs)) (hty : mj_ty ci kf = .int) (hfin : mj_fin ci kf = false) (hci : ci < 11) (hk : kf < xs.length) :
    mj_one sc (M, pc, lv, .int x :: .ref a :: st, h) (M, pc + 3, lv, st, h.set a (ci, xs.set kf (.int x))) := by
  refine mj_one_of hd fun kc k => ?_
  have hp : mj_pf M idx (.int x :: .ref a :: st) h = some (st, h.set a (ci, xs.set kf (.int x))) := by
    unfold mj_pf
    rw [he]
    dsimp only
    rw [if_pos hkd, hc]
    dsimp only
    rw [if_pos ⟨rfl, hci, hk, by rw [hty]; rfl, by rw [hty]; rfl, Or.inl hfin⟩]
  unfold mj_do
  dsimp only
  rw [if_pos rfl, hp]
