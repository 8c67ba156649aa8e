/-! More steps change no answer; runs, with no count of steps -/
section MJ8
variable {sc : Option (List Int32)} {kc kc' k k' : mj_S → mj_O}
theorem mj_call_mono (h1 : ∀ S x, kc S = some x → kc' S = some x) (h2 : ∀ S x, k S = some x → k' S = some x) {M M' : mj_M} {pc n : Nat} {lv : mj_L} {st : List Value} {h : mj_H} {x : Option Value × mj_H} (hs : mj_call kc k M pc lv st h M' n = some x) : mj_call kc' k' M pc lv st h M' n = some x := by
  unfold mj_call at hs ⊢
  split at hs
  · rename_i hh
    rw [if_pos hh]
    split at hs
    · rename_i r1 hh1 e1
      rw [h1 _ _ e1]
      exact h2 _ _ hs
    · cases hs
  · cases hs
set_option maxHeartbeats 4000000 in
theorem mj_step_mono (h1 : ∀ S x, kc S = some x → kc' S = some x) (h2 : ∀ S x, k S = some x → k' S = some x) (S : mj_S) (x : Option Value × mj_H) (hs : mj_step sc kc k S = some x) : mj_step sc kc' k' S = some x := by
  obtain ⟨M, pc, lv, st, h⟩ := S
  unfold mj_step at hs ⊢
  dsimp only at hs ⊢
  cases hd : decode M.2.1 pc with
  | error e => rw [hd] at hs; cases hs
  | ok q =>
    obtain ⟨ins, len⟩ := q
    rw [hd] at hs
    dsimp only at hs ⊢
    revert hs
    cases ins <;> dsimp only
    all_goals repeat' first
      | exact fun h => h2 _ _ h
      | exact fun h => h
      | exact mj_call_mono h1 h2
      | split
      | (intro h; cases h; done)
theorem mj_ex_mono (f n : Nat) (S : mj_S) (x : Option Value × mj_H) (h : mj_ex f S = some x) : mj_ex (f + n) S = some x := by
  induction f generalizing S x with
  | zero => cases h
  | succ f ih =>
    rw [Nat.add_right_comm, mj_ex_s]
    rw [mj_ex_s] at h
    exact mj_step_mono ih ih S x h
theorem mj_exL_mono (sc : List Int32) (h1 : ∀ S x, kc S = some x → kc' S = some x) (f n : Nat) (S : mj_S) (x : Option Value × mj_H) (h : mj_exL sc kc f S = some x) : mj_exL sc kc' (f + n) S = some x := by
  induction f generalizing S x with
  | zero => cases h
  | succ f ih =>
    rw [Nat.add_right_comm, mj_exL_s]
    rw [mj_exL_s] at h
    exact mj_step_mono h1 ih S x h
end MJ8
/-- a method's run comes to an end, with an answer and cells -/
def mj_runs (S : mj_S) (r : Option Value) (h' : mj_H) : Prop := ∃ f, mj_ex f S = some (r, h')
/-- the law's run comes to an end, with an answer and cells -/
def mj_runsL (sc : List Int32) (S : mj_S) (r : Option Value) (h' : mj_H) : Prop := ∃ f0 f, mj_exL sc (mj_ex f0) f S = some (r, h')
/-- a step without a call, of any machine -/
def mj_one (sc : Option (List Int32)) (S S' : mj_S) : Prop := ∀ kc k : mj_S → mj_O, mj_step sc kc k S = k S'
theorem mj_runs.step {S S' : mj_S} {r : Option Value} {h' : mj_H} (h : mj_one none S S') (k : mj_runs S' r h') : mj_runs S r h' := by
  obtain ⟨f, e⟩ := k
  exact ⟨f + 1, by rw [mj_ex_s, h]; exact e⟩
theorem mj_runsL.step {sc : List Int32} {S S' : mj_S} {r : Option Value} {h' : mj_H} (h : mj_one (some sc) S S') (k : mj_runsL sc S' r h') : mj_runsL sc S r h' := by
  obtain ⟨f0, f, e⟩ := k
  exact ⟨f0, f + 1, by rw [mj_exL_s, h]; exact e⟩
/-- a step that ends the method -/
theorem mj_runs.ret {S : mj_S} {r : Option Value} {h' : mj_H} (h : ∀ kc k : mj_S → mj_O, mj_step none kc k S = some (r, h')) : mj_runs S r h' := ⟨1, h _ _⟩
theorem mj_runsL.ret {sc : List Int32} {S : mj_S} {r : Option Value} {h' : mj_H} (h : ∀ kc k : mj_S → mj_O, mj_step (some sc) kc k S = some (r, h')) : mj_runsL sc S r h' := ⟨0, 1, h _ _⟩
/-- a step that calls: what is called, what goes on behind it -/
def mj_calls (sc : Option (List Int32)) (S S1 : mj_S) (S2 : Option Value → mj_H → mj_S) : Prop := ∀ kc k : mj_S → mj_O, ∀ r1 h1, kc S1 = some (r1, h1) → mj_step sc kc k S = k (S2 r1 h1)
theorem mj_runs.call {S S1 : mj_S} {S2 : Option Value → mj_H → mj_S} {r r1 : Option Value} {h1 h' : mj_H} (h : mj_calls none S S1 S2) (k1 : mj_runs S1 r1 h1) (k2 : mj_runs (S2 r1 h1) r h') : mj_runs S r h' := by
  obtain ⟨f1, e1⟩ := k1
  obtain ⟨f2, e2⟩ := k2
  refine ⟨f1 + f2 + 1, ?_⟩
  rw [mj_ex_s, h _ _ r1 h1 (mj_ex_mono f1 f2 _ _ e1), Nat.add_comm]
  exact mj_ex_mono f2 f1 _ _ e2
theorem mj_runsL.call {sc : List Int32} {S S1 : mj_S} {S2 : Option Value → mj_H → mj_S} {r r1 : Option Value} {h1 h' : mj_H} (h : mj_calls (some sc) S S1 S2) (k1 : mj_runs S1 r1 h1) (k2 : mj_runsL sc (S2 r1 h1) r h') : mj_runsL sc S r h' := by
  obtain ⟨f1, e1⟩ := k1
  obtain ⟨f0, f2, e2⟩ := k2
  refine ⟨f1 + f0, f2 + 1, ?_⟩
  rw [mj_exL_s, h _ _ r1 h1 (mj_ex_mono f1 f0 _ _ e1)]
  have := mj_exL_mono sc (kc := mj_ex f0) (kc' := mj_ex (f1 + f0)) (fun S x e => by rw [Nat.add_comm]; exact mj_ex_mono f0 f1 S x e) f2 0 _ _ e2
  exact this
