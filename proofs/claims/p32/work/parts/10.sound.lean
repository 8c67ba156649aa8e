/-! THE SMALL MACHINE IS SOUND: where it comes to an end, the model does, with the same answer and the same cells -/
def mj_sl (h : mj_H) : Nat := (h.map fun c => c.2.length).sum
def mj_Pc (D : va_G) (cA : Nat → ClassId) (b B : Nat) (sc : Option (List Int32)) (vs : List Value) (h : mj_H) : Array Value → State → Prop := va_Pc (vs.map (mj_cv b B)) (fun U => mj_R D cA b B h U.heap ∧ mj_K D cA U ∧ mj_X b sc U ∧ b < B)
def mj_Qc (D : va_G) (cA : Nat → ClassId) (b B : Nat) (r : Option Value) (h' : mj_H) : Array Value → State → Outcome → State → Prop := fun _ st o t => o = .returned (r.map (mj_cv b B)) ∧ mj_R D cA b B h' t.heap ∧ ∀ q, q < B → t.heap[q]? = st.heap[q]?
abbrev mj_ws (M : mj_M) : List Cond := mj_wC M :: mj_tbl
/-- how a method ends: with an answer r, by an instruction that gives it -/
def mj_end (M : mj_M) (r : Option Value) (pc : Nat) : Prop := (r = none ∧ M.2.2.2.1 = none ∧ decode M.2.1 pc = .ok (.return_, 1)) ∨ (∃ (v : Int32) (ty : FieldType), r = some (.int v) ∧ M.2.2.2.1 = some ty ∧ narrow ty (.int v) = .int v ∧ decode M.2.1 pc = .ok (.ireturn, 1))
def mj_W (l : Launch) (D : va_G) (cA : Nat → ClassId) (b B : Nat) (sc : Option (List Int32)) (M : mj_M) (pc : Nat) (lv : mj_L) (st : List Value) (h : mj_H) (r : Option Value) (h' : mj_H) : Prop :=
  ∀ (p : Program) (e : Env) (R : Room) (s : State) (m : MethodId) (args : Array Value) (below : List Frame) (meth : Method) (c : Code) (H : Heap) (locs : List Loc) (n0 s0 : Nat) (ls : Array Slot) (Q : State → Prop),
    p.tables.exec = Jvm.exec → c.code = M.2.1 → c.maxLocals = M.2.2.1 → s.vm.findClass M.1.cls = some m.cls → mj_names[M.2.2.2.2.1]? = some M.1.cls → (M.2.2.2.2.2.2.1 = 2 → meth.name = "<init>") → (∀ w ∈ mj_tbl, w.before args s = true) → mj_K D cA s → mj_X b sc s → b < B →
    (∀ q, q < B → H[q]? = s.heap[q]?) → (∀ q ∈ locs, B ≤ q.base) → mj_R D cA b B h H → lv_has ls M.2.2.1 (mj_cl b B lv) → M.2.2.2.2.2.2.2.1 ≤ R.frames → M.2.2.2.2.2.2.2.2 ≤ R.locals →
    n0 ≤ h.length → s0 ≤ mj_sl h → h'.length ≤ n0 + R.cells → mj_sl h' ≤ s0 + R.slots →
    (∀ (H' : Heap) (locs' : List Loc) (pc' : Nat) (ls' : Array Slot), (∀ q, q < B → H'[q]? = s.heap[q]?) → (∀ q ∈ locs', B ≤ q.base) → mj_R D cA b B h' H' → mj_end M r pc' → W p l e R s m args below meth c H' locs' (h'.length - n0) (mj_sl h' - s0) Q (F0 m pc' ls' (r.toList.map (mj_cv b B)))) →
    W p l e R s m args below meth c H locs (h.length - n0) (mj_sl h - s0) Q (F0 m pc ls (st.map (mj_cv b B)))
def mj_G (l : Launch) (D : va_G) (cA : Nat → ClassId) (b B : Nat) (sc : Option (List Int32)) (k : mj_S → mj_O) : Prop :=
  ∀ (M : mj_M) (pc : Nat) (lv : mj_L) (st : List Value) (h : mj_H) (r : Option Value) (h' : mj_H), k (M, pc, lv, st, h) = some (r, h') → (h.length ≤ h'.length ∧ mj_sl h ≤ mj_sl h') ∧ mj_W l D cA b B sc M pc lv st h r h'
theorem mj_K.same {D : va_G} {cA : Nat → ClassId} {s U : State} (hv : s.vm = U.vm) (h : mj_K D cA s) : mj_K D cA U := by
  have ha : s.vm.Alike U.vm := by rw [hv]; exact Vm.Alike.refl _
  refine ⟨va_K.moved ha h.1, ?_, h.2.2.moved ha⟩
  intro o pool C h1 h2 e he hk
  have h3 := h.2.1 o pool C h1 h2 e he hk
  obtain ⟨ix, kd, a, b⟩ := e
  rcases hk with hk | hk
  · dsimp only at hk
    subst hk
    exact va_Nw.same rfl hv h3
  · dsimp only at hk
    subst hk
    exact va_Nw.same rfl hv h3
theorem mj_X.at {b : Nat} {sc : Option (List Int32)} {s U : State} (ha : s.vm.Alike U.vm) (hb : U.heap[b]? = s.heap[b]?) (h : mj_X b sc s) : mj_X b sc U := by
  cases sc with
  | none => exact trivial
  | some sc =>
    obtain ⟨scr, h1, h2, h3, h4, h5⟩ := h
    exact ⟨scr, hb.trans h1, State.isArrayOf_alike ha h2, h3, h4, h5⟩
theorem mj_blind {D : va_G} {cA : Nat → ClassId} {b B : Nat} {sc : Option (List Int32)} {vs : List Value} {h : mj_H} : FrameBlind (mj_Pc D cA b B sc vs h) := by
  intro a U g mk q
  obtain ⟨q0, q1, q2, q3, q4⟩ := q
  exact ⟨q0, q1, mj_K.same (s := U) (U := U.calling g mk a) rfl q2, mj_X.at (s := U) (U := U.calling g mk a) (Vm.Alike.refl U.vm) rfl q3, q4⟩
theorem mj_args_cl (b B : Nat) (vs : List Value) : ∀ i : Nat, lv_args i (vs.map (mj_cv b B)) = mj_cl b B (lv_args i vs) := by
  induction vs with
  | nil => intro i; rfl
  | cons v vs ih =>
    intro i
    show (i, mj_cv b B v) :: lv_args (if (mj_cv b B v).category = 2 then i + 2 else i + 1) (vs.map (mj_cv b B)) = _
    rw [mj_cv_cat, ih]
    rfl
theorem mj_sl_cl (b B : Nat) (vs : List Value) : (lg_sl (vs.map (mj_cv b B))).length = (lg_sl vs).length := by
  induction vs with
  | nil => rfl
  | cons v vs ih =>
    have e : ∀ (v : Value) (vs : List Value), (lg_sl (v :: vs)).length = (if v.category = 2 then 2 else 1) + (lg_sl vs).length := by
      intro v vs
      unfold lg_sl
      rw [List.flatMap_cons, List.length_append]
      split <;> rfl
    rw [List.map_cons, e, e, mj_cv_cat, ih]
theorem mj_mth_good {M : mj_M} (hM : M ∈ mj_meths) : mj_wC M ∈ mj_tbl ∧ Cond.initialized M.1.cls ∈ mj_tbl := ⟨mj_tbl_of (mj_inC _ (List.mem_map_of_mem hM)) rfl, mj_tbl_of (mj_inI _ (List.mem_map_of_mem hM)) rfl⟩
set_option maxHeartbeats 1000000 in
theorem mj_met {l : Launch} {D : va_G} {cA : Nat → ClassId} {b B : Nat} {sc : Option (List Int32)} {M : mj_M} {vs : List Value} {h : mj_H} {r : Option Value} {h' : mj_H} (hM : M ∈ mj_meths) (hlen : (lg_sl vs).length ≤ M.2.2.1) (hm1 : h.length ≤ h'.length) (hm2 : mj_sl h ≤ mj_sl h') (hw : mj_W l D cA b B sc M 0 (lv_args 0 vs) [] h r h') :
    Met l M.1 (mj_ws M) ({ frames := M.2.2.2.2.2.2.2.1, cells := h'.length - h.length, slots := mj_sl h' - mj_sl h, locals := M.2.2.2.2.2.2.2.2 }) (mj_Pc D cA b B sc vs h) (mj_Qc D cA b B r h') (h'.length - h.length) (mj_sl h' - mj_sl h) (fun q => B ≤ q) := by
  obtain ⟨p1, p2, p3, p4, p5, p6⟩ := mj_plain M hM
  refine va_MetF (cc := M.2.1) (maxL := M.2.2.1) (ret := M.2.2.2.1) p1 rfl ?_
  intro p e s m args below meth c s₁ Bd hml hv
  obtain ⟨rfl, hR, hK, hX, hbB⟩ := hv
  have hts : ∀ w ∈ mj_tbl, w.before (vs.map (mj_cv b B)).toArray s = true := fun w hw => atoms_spec (ws := mj_ws M) Bd.pre w (List.mem_cons_of_mem _ hw)
  have hlocks := Bd.notSynchronized
  have hl := lv_entry (vs.map (mj_cv b B)) (n := M.2.2.1) (by rw [mj_sl_cl]; exact hlen)
  rw [lg_entry_eq]
  rw [mj_args_cl] at hl
  have hnm : M.2.2.2.2.2.2.1 = 2 → meth.name = "<init>" := fun hk => (name_of_methodNamed Bd.named Bd.method).1.trans (p6 hk).1
  have := hw p e ({ frames := M.2.2.2.2.2.2.2.1, cells := h'.length - h.length, slots := mj_sl h' - mj_sl h, locals := M.2.2.2.2.2.2.2.2 }) s m _ below meth c s.heap [] h.length (mj_sl h) _ (MQ below (mj_Qc D cA b B r h') (vs.map (mj_cv b B)).toArray s (h'.length - h.length) (mj_sl h' - mj_sl h) (fun q => B ≤ q)) Bd.exec Bd.bytes hml (findClass_of_methodNamed Bd.named) p2 hnm hts hK hX hbB (fun _ _ => rfl) (fun q hq => absurd hq List.not_mem_nil) hR hl (Nat.le_refl _) (Nat.le_refl _) (Nat.le_refl _) (Nat.le_refl _) (by show _ ≤ _ + (h'.length - h.length); omega) (by show _ ≤ _ + (mj_sl h' - mj_sl h); omega) ?_
  · rw [Nat.sub_self, Nat.sub_self] at this
    exact this
  · intro H' locs' pc' ls' o1 o2 o3 o4
    have hr := Bd.returns
    rcases o4 with ⟨rfl, e2, e3⟩ | ⟨v, ty, rfl, e2, e3, e4⟩
    · exact W.vret Bd.exec Bd.bytes (hr.trans e2) (fun t ht _ => ⟨rfl, by rw [ht]; exact o3, by rw [ht]; exact o1⟩) o2 e3
    · exact W.zret (v := v) Bd.exec Bd.bytes (hr.trans e2) e3 (fun t ht _ => ⟨rfl, by rw [ht]; exact o3, by rw [ht]; exact o1⟩) o2 e4
section MJ5
variable {p : Program} {l : Launch} {e : Env} {R : Room} {s : State} {m : MethodId} {args : Array Value} {below : List Frame} {meth : Method} {c : Code} {H : Heap} {locs : List Loc} {cells slots : Nat} {Q : State → Prop}
variable {pc : Nat} {ls : Array Slot}
theorem mj_go {mc ms : Nat} {st0 rest : List Value} {Qa : State → Outcome → State → Prop} {free : Addr → Prop} (hr : va_Run p l e R s m args below meth c H locs cells slots mc ms (F0 m pc ls st0) rest Qa free)
    (kk : ∀ (v : Option Value) (st₀ t : State) (L : List Loc), st₀.heap = H → Qa st₀ (.returned v) t → (∀ q ∈ L, free q.base) → W p l e R s m args below meth c t.heap (locs ++ L) (cells + mc) (slots + ms) Q (F0 m (pc + 3) ls (v.toList ++ rest))) : W p l e R s m args below meth c H locs cells slots Q (F0 m pc ls st0) := by
  intro T hT X
  obtain ⟨v, st₀, t, T', L, h1, X', hL, e1, e2, hq, go⟩ := hr T hT X
  obtain ⟨t2, a1, b1⟩ := kk v st₀ t L h1 hq hL T' e1 X'
  exact ⟨t2, go t2 a1, b1⟩
end MJ5
theorem mj_call_inv {kc k : mj_S → mj_O} {M M' : mj_M} {pc n : Nat} {lv : mj_L} {st : List Value} {h : mj_H} {r : Option Value} {h' : mj_H} (hs : mj_call kc k M pc lv st h M' n = some (r, h')) :
    (n ≤ st.length ∧ ((st.drop n).map fun v => v.category).sum ≤ 8 ∧ M'.2.2.2.2.2.2.2.1 + 1 ≤ M.2.2.2.2.2.2.2.1 ∧ 8 + (M'.2.2.1 + 11) + M'.2.2.2.2.2.2.2.2 ≤ M.2.2.2.2.2.2.2.2 ∧ (lg_sl (st.take n).reverse).length ≤ M'.2.2.1) ∧ ∃ r1 h1, kc (M', 0, lv_args 0 (st.take n).reverse, [], h) = some (r1, h1) ∧ k (M, pc + 3, lv, r1.toList ++ st.drop n, h1) = some (r, h') := by
  unfold mj_call at hs
  split at hs
  · rename_i hh
    split at hs
    · rename_i r1 h1 e1
      exact ⟨hh, r1, h1, e1, hs⟩
    · cases hs
  · cases hs
