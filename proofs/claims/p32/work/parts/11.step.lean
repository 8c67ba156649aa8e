section MJ6
variable {l : Launch} {D : va_G} {cA : Nat → ClassId} {b B : Nat} {sc : Option (List Int32)} {kc k : mj_S → mj_O}
theorem mj_sl_app (h : mj_H) (t : Nat) (ys : List Value) : mj_sl (h ++ [(t, ys)]) = mj_sl h + ys.length := by simp [mj_sl]
theorem mj_sl_eq {h h' : mj_H} (e : (h'.map fun c => c.2.length) = (h.map fun c => c.2.length)) : mj_sl h' = mj_sl h := by unfold mj_sl; rw [e]
theorem mj_len_eq {h h' : mj_H} (e : (h'.map fun c => c.2.length) = (h.map fun c => c.2.length)) : h'.length = h.length := by
  have := congrArg List.length e
  simpa using this
/-- a step that leaves the heap as it was -/
theorem mj_keep (hk : mj_G l D cA b B sc k) {M : mj_M} {pc pc1 : Nat} {lv lv1 : mj_L} {st st1 : List Value} {h : mj_H} {r : Option Value} {h' : mj_H} (hs : k (M, pc1, lv1, st1, h) = some (r, h'))
    (row : ∀ (p : Program) (e : Env) (R : Room) (s : State) (m : MethodId) (args : Array Value) (below : List Frame) (meth : Method) (c : Code) (H : Heap) (locs : List Loc) (cells slots : Nat) (ls : Array Slot) (Q : State → Prop),
      p.tables.exec = Jvm.exec → c.code = M.2.1 → s.vm.findClass M.1.cls = some m.cls → mj_names[M.2.2.2.2.1]? = some M.1.cls → (∀ w ∈ mj_tbl, w.before args s = true) → mj_K D cA s → mj_X b sc s → H[b]? = s.heap[b]? → mj_R D cA b B h H → lv_has ls M.2.2.1 (mj_cl b B lv) → ls.size = c.maxLocals → M.2.2.2.2.2.2.2.1 ≤ R.frames → M.2.2.2.2.2.2.2.2 ≤ R.locals → cells ≤ R.cells → slots ≤ R.slots →
      (∀ ls1 : Array Slot, lv_has ls1 M.2.2.1 (mj_cl b B lv1) → W p l e R s m args below meth c H locs cells slots Q (F0 m pc1 ls1 (st1.map (mj_cv b B)))) → W p l e R s m args below meth c H locs cells slots Q (F0 m pc ls (st.map (mj_cv b B)))) :
    (h.length ≤ h'.length ∧ mj_sl h ≤ mj_sl h') ∧ mj_W l D cA b B sc M pc lv st h r h' := by
  obtain ⟨⟨m1, m2⟩, w⟩ := hk _ _ _ _ _ _ _ hs
  refine ⟨⟨m1, m2⟩, ?_⟩
  intro p e R s m args below meth c H locs n0 s0 ls Q a1 a2 a3 a4 a5 a6 a7 a8 a9 a10 a11 a12 a13 a14 a15 a16 a17 a18 a19 a20 a21
  refine row p e R s m args below meth c H locs _ _ ls Q a1 a2 a4 a5 a7 a8 a9 (a11 b a10) a13 a14 (a14.1.trans a3.symm) a15 a16 (by omega) (by omega) fun ls1 hl1 => ?_
  exact w p e R s m args below meth c H locs n0 s0 ls1 Q a1 a2 a3 a4 a5 a6 a7 a8 a9 a10 a11 a12 a13 hl1 a15 a16 a17 a18 a19 a20 a21
/-- a step that writes to one cell -/
theorem mj_write (hk : mj_G l D cA b B sc k) {M : mj_M} {pc pc1 : Nat} {lv : mj_L} {st st1 : List Value} {h h1 : mj_H} {r : Option Value} {h' : mj_H} (hs : k (M, pc1, lv, st1, h1) = some (r, h')) (hlen : (h1.map fun c => c.2.length) = (h.map fun c => c.2.length))
    (row : ∀ (p : Program) (e : Env) (R : Room) (s : State) (m : MethodId) (args : Array Value) (below : List Frame) (meth : Method) (c : Code) (H : Heap) (locs : List Loc) (cells slots : Nat) (ls : Array Slot) (Q : State → Prop),
      p.tables.exec = Jvm.exec → c.code = M.2.1 → s.vm.findClass M.1.cls = some m.cls → mj_names[M.2.2.2.2.1]? = some M.1.cls → (M.2.2.2.2.2.2.1 = 2 → meth.name = "<init>") → (∀ w ∈ mj_tbl, w.before args s = true) → mj_K D cA s → mj_R D cA b B h H → ls.size = c.maxLocals → M.2.2.2.2.2.2.2.1 ≤ R.frames → M.2.2.2.2.2.2.2.2 ≤ R.locals →
      (∀ (H1 : Heap) (a : Nat) (L : List Loc), mj_R D cA b B h1 H1 → (∀ q, q ≠ B + a → H1[q]? = H[q]?) → (∀ q ∈ L, q.base = B + a) → W p l e R s m args below meth c H1 (locs ++ L) cells slots Q (F0 m pc1 ls (st1.map (mj_cv b B)))) → W p l e R s m args below meth c H locs cells slots Q (F0 m pc ls (st.map (mj_cv b B)))) :
    (h.length ≤ h'.length ∧ mj_sl h ≤ mj_sl h') ∧ mj_W l D cA b B sc M pc lv st h r h' := by
  obtain ⟨⟨m1, m2⟩, w⟩ := hk _ _ _ _ _ _ _ hs
  have z1 := mj_len_eq hlen
  have z2 := mj_sl_eq hlen
  refine ⟨⟨by omega, by omega⟩, ?_⟩
  intro p e R s m args below meth c H locs n0 s0 ls Q a1 a2 a3 a4 a5 a6 a7 a8 a9 a10 a11 a12 a13 a14 a15 a16 a17 a18 a19 a20 a21
  refine row p e R s m args below meth c H locs _ _ ls Q a1 a2 a4 a5 a6 a7 a8 a13 (a14.1.trans a3.symm) a15 a16 fun H1 a L c1 c2 c3 => ?_
  have := w p e R s m args below meth c H1 (locs ++ L) n0 s0 ls Q a1 a2 a3 a4 a5 a6 a7 a8 a9 a10 (fun q hq => (c2 q (by omega)).trans (a11 q hq)) (fun q hq => by
    rcases List.mem_append.mp hq with z | z
    · exact a12 q z
    · rw [c3 q z]; omega) c1 a14 a15 a16 (by omega) (by omega) a19 a20 a21
  rw [z1, z2] at this
  exact this
/-- a step that makes one cell -/
theorem mj_made (hk : mj_G l D cA b B sc k) {M : mj_M} {pc pc1 : Nat} {lv : mj_L} {st st1 : List Value} {h : mj_H} {t : Nat} {ys : List Value} {r : Option Value} {h' : mj_H} (hs : k (M, pc1, lv, st1, h ++ [(t, ys)]) = some (r, h'))
    (row : ∀ (p : Program) (e : Env) (R : Room) (s : State) (m : MethodId) (args : Array Value) (below : List Frame) (meth : Method) (c : Code) (H : Heap) (locs : List Loc) (cells slots : Nat) (ls : Array Slot) (Q : State → Prop),
      p.tables.exec = Jvm.exec → c.code = M.2.1 → s.vm.findClass M.1.cls = some m.cls → mj_names[M.2.2.2.2.1]? = some M.1.cls → (∀ w ∈ mj_tbl, w.before args s = true) → mj_K D cA s → mj_R D cA b B h H →
      (cells + 1 ≤ R.cells ∧ slots + ys.length ≤ R.slots ∧ ∀ H1 : Heap, mj_R D cA b B (h ++ [(t, ys)]) H1 → (∀ q, q < H.size → H1[q]? = H[q]?) → W p l e R s m args below meth c H1 locs (cells + 1) (slots + ys.length) Q (F0 m pc1 ls (st1.map (mj_cv b B)))) → W p l e R s m args below meth c H locs cells slots Q (F0 m pc ls (st.map (mj_cv b B)))) :
    (h.length ≤ h'.length ∧ mj_sl h ≤ mj_sl h') ∧ mj_W l D cA b B sc M pc lv st h r h' := by
  obtain ⟨⟨m1, m2⟩, w⟩ := hk _ _ _ _ _ _ _ hs
  have z2 := mj_sl_app h t ys
  have z1 : (h ++ [(t, ys)]).length = h.length + 1 := by simp
  refine ⟨⟨by omega, by omega⟩, ?_⟩
  intro p e R s m args below meth c H locs n0 s0 ls Q a1 a2 a3 a4 a5 a6 a7 a8 a9 a10 a11 a12 a13 a14 a15 a16 a17 a18 a19 a20 a21
  refine row p e R s m args below meth c H locs _ _ ls Q a1 a2 a4 a5 a7 a8 a13 ⟨by omega, by omega, fun H1 c1 c2 => ?_⟩
  have := w p e R s m args below meth c H1 locs n0 s0 ls Q a1 a2 a3 a4 a5 a6 a7 a8 a9 a10 (fun q hq => (c2 q (by rw [a13.1]; omega)).trans (a11 q hq)) a12 c1 a14 a15 a16 (by omega) (by omega) a19 a20 a21
  rw [z1, z2, show h.length + 1 - n0 = h.length - n0 + 1 by omega, show mj_sl h + ys.length - s0 = mj_sl h - s0 + ys.length by omega] at this
  exact this
/-- a call -/
theorem mj_called (hkc : mj_G l D cA b B none kc) (hk : mj_G l D cA b B sc k) {M M' : mj_M} {pc n : Nat} {lv : mj_L} {st : List Value} {h : mj_H} {r : Option Value} {h' : mj_H} (hM : M' ∈ mj_meths) (hs : mj_call kc k M pc lv st h M' n = some (r, h'))
    (row : ∀ (r1 : Option Value) (h1 : mj_H) (p : Program) (e : Env) (R : Room) (s : State) (m : MethodId) (args : Array Value) (below : List Frame) (meth : Method) (c : Code) (H : Heap) (locs : List Loc) (cells slots mc ms : Nat) (ls : Array Slot),
      Met l M'.1 (mj_ws M') ({ frames := M'.2.2.2.2.2.2.2.1, cells := mc, slots := ms, locals := M'.2.2.2.2.2.2.2.2 }) (mj_Pc D cA b B none (st.take n).reverse h) (mj_Qc D cA b B r1 h1) mc ms (fun q => B ≤ q) →
      p.tables.exec = Jvm.exec → c.code = M.2.1 → c.maxLocals = M.2.2.1 → s.vm.findClass M.1.cls = some m.cls → mj_names[M.2.2.2.2.1]? = some M.1.cls → (∀ w ∈ mj_tbl, w.before args s = true) → mj_K D cA s → mj_R D cA b B h H → ls.size = M.2.2.1 →
      M'.2.2.2.2.2.2.2.1 + 1 ≤ R.frames → 8 + (M'.2.2.1 + 11) + M'.2.2.2.2.2.2.2.2 ≤ R.locals → cells + mc ≤ R.cells → slots + ms ≤ R.slots → n ≤ st.length → (((st.drop n).map (mj_cv b B)).map fun v => v.category).sum ≤ 8 →
      (∀ U : State, U.heap = H → s.WarmedH U.vm → mj_Pc D cA b B none (st.take n).reverse h ((st.take n).reverse.map (mj_cv b B)).toArray U) →
      va_Run p l e R s m args below meth c H locs cells slots mc ms (F0 m pc ls (st.map (mj_cv b B))) ((st.drop n).map (mj_cv b B)) (mj_Qc D cA b B r1 h1 ((st.take n).reverse.map (mj_cv b B)).toArray) (fun q => B ≤ q)) :
    (h.length ≤ h'.length ∧ mj_sl h ≤ mj_sl h') ∧ mj_W l D cA b B sc M pc lv st h r h' := by
  obtain ⟨⟨d1, d2, d3, d4, d5⟩, r1, h1, e1, e2⟩ := mj_call_inv hs
  obtain ⟨⟨m1, m2⟩, w1⟩ := hkc _ _ _ _ _ _ _ e1
  obtain ⟨⟨m3, m4⟩, w2⟩ := hk _ _ _ _ _ _ _ e2
  refine ⟨⟨by omega, by omega⟩, ?_⟩
  intro p e R s m args below meth c H locs n0 s0 ls Q a1 a2 a3 a4 a5 a6 a7 a8 a9 a10 a11 a12 a13 a14 a15 a16 a17 a18 a19 a20 a21
  have hMet := mj_met hM d5 m1 m2 w1
  refine mj_go (row r1 h1 p e R s m args below meth c H locs _ _ _ _ ls hMet a1 a2 a3 a4 a5 a7 a8 a13 a14.1 (by omega) (by omega) (by omega) (by omega) d1 (by rw [mj_cat_sum]; exact d2) ?_) ?_
  · intro U hU hW
    exact ⟨rfl, by rw [hU]; exact a13, a8.moved hW, trivial, a10⟩
  · intro v st₀ t L c1 c2 c3
    obtain ⟨q1, q2, q3⟩ := c2
    cases q1
    have := w2 p e R s m args below meth c t.heap (locs ++ L) n0 s0 ls Q a1 a2 a3 a4 a5 a6 a7 a8 a9 a10 (fun q hq => (q3 q hq).trans (by rw [c1]; exact a11 q hq)) (fun q hq => by
      rcases List.mem_append.mp hq with z | z
      · exact a12 q z
      · exact c3 q z) q2 a14 a15 a16 (by omega) (by omega) a19 a20 a21
    rw [show h1.length - n0 = h.length - n0 + (h1.length - h.length) by omega, show mj_sl h1 - s0 = mj_sl h - s0 + (mj_sl h1 - mj_sl h) by omega, List.map_append] at this
    cases r1 with
    | none => exact this
    | some v => exact this
end MJ6
