/-- all that the walk looks at: the table of methods known, types, the method, its arguments' bounds, its ways out, ranked locals, cuts -/
abbrev ab_C : Type := List ab_M × ab_T × mj_M × List ab_V × List ab_O × List (Nat × Int) × List ab_K × Bool
def ab_retok (R : Option FieldType) (V : ab_V) : Bool := match R with
  | some .int => decide (V.1 = 0)
  | some .boolean => decide (V.1 = 0) && decide (0 ≤ V.2.1) && decide (V.2.2.1 ≤ 1)
  | _ => false
def ab_isret (simple : Bool) (args : List ab_V) (outs : List ab_O) (R : Option FieldType) (al : ab_L) (A : List ab_V) : Bool := match A with
  | [V] => ab_retok R V && outs.any (fun o => (match o.1 with
    | some W => ab_le V W
    | none => false) && ab_oargs simple al 0 args o.2)
  | _ => false
def ab_vret (simple : Bool) (args : List ab_V) (outs : List ab_O) (R : Option FieldType) (al : ab_L) (A : List ab_V) : Bool := A.isEmpty && R.isNone && outs.any (fun o => o.1.isNone && ab_oargs simple al 0 args o.2)
/-- the ways of one instruction, calls too -/
def ab_ways (X : ab_C) (ins : Instr) (len pc : Nat) (al : ab_L) (A : List ab_V) : Option ab_W := match ins with
  | .invokevirtual idx => match mj_ent X.2.2.1 idx with
    | some (_, kd, j, _) => match mj_meths[j]? with
      | some M' => match A[M'.2.2.2.2.2.1]? with
        | some (k, t, _, _) => match X.2.1[t.toNat]? with
          | some (tag, _, _) => if len = 3 ∧ kd = 2 ∧ k = 2 ∧ M'.2.2.2.2.2.2.1 = 1 ∧ tag = M'.2.2.2.2.1 ∧ tag < 11 then ab_call X.1 X.2.2.1 M' j (M'.2.2.2.2.2.1 + 1) pc al A else none
          | none => none
        | none => none
      | none => none
    | none => none
  | .invokestatic idx => match mj_ent X.2.2.1 idx with
    | some (_, kd, j, _) => if kd = 2 then (match mj_meths[j]? with
      | some M' => if len = 3 ∧ M'.2.2.2.2.2.2.1 = 0 then ab_call X.1 X.2.2.1 M' j M'.2.2.2.2.2.1 pc al A else none
      | none => none) else ab_do X.2.1 X.2.2.1 ins len pc al A
    | none => none
  | ins => ab_do X.2.1 X.2.2.1 ins len pc al A
def ab_chk (X : ab_C) (cur : ab_K) : Nat → Bool → (Nat × ab_L × List ab_V) → Bool
  | 0, _, _ => false
  | f + 1, fst, (pc, al, A) =>
    if (!fst && !X.2.2.2.2.2.2.2 && X.2.2.2.2.2.2.1.any (fun c => c.1 == pc)) = true then
      A.isEmpty && X.2.2.2.2.2.2.1.any (fun c => c.1 == pc && ab_lle al c.2.1 && ab_dec X.2.2.2.2.2.1 cur c al)
    else match decode X.2.2.1.2.1 pc with
      | .error _ => false
      | .ok (ins, len) =>
        if ins = .ireturn then decide (len = 1) && ab_isret X.2.2.2.2.2.2.2 X.2.2.2.1 X.2.2.2.2.1 X.2.2.1.2.2.2.1 al A
        else if ins = .return_ then decide (len = 1) && ab_vret X.2.2.2.2.2.2.2 X.2.2.2.1 X.2.2.2.2.1 X.2.2.1.2.2.2.1 al A
        else match ab_ways X ins len pc al A with
          | some ws => ws.all (fun w => ab_chk X cur f false w)
          | none => false
/-- the method ends from there, in one of the ways -/
def ab_goal (ty : List Nat) (X : ab_C) (vs : List Value) (S : mj_S) : Prop := ∃ r h', mj_runs S r h' ∧ ab_H ty X.2.1 h' ∧ ∃ out ∈ X.2.2.2.2.1, ab_ret ty out.1 r ∧ ab_args ty out.2 vs
theorem ab_step_goal {ty : List Nat} {X : ab_C} {vs : List Value} {S S' : mj_S} (h1 : mj_one none S S') (h2 : ab_goal ty X vs S') : ab_goal ty X vs S := by
  obtain ⟨r, h', e1, e2⟩ := h2
  exact ⟨r, h', mj_runs.step h1 e1, e2⟩
set_option maxHeartbeats 2000000 in
theorem ab_ways_ok {ty : List Nat} {X : ab_C} {vs : List Value} {lv0 lv : mj_L} {ins : Instr} {len pc : Nat} {al : ab_L} {A : List ab_V} {st : List Value} {h : mj_H} {ws : ab_W} (hsums : ∀ s ∈ X.1, ab_sum ty X.2.1 s) (hd : decode X.2.2.1.2.1 pc = .ok (ins, len)) (hg : ab_ways X ins len pc al A = some ws) (hH : ab_H ty X.2.1 h) (hl : ab_l ty al lv) (hdl : ab_dl lv0 al lv) (hs : ab_st ty lv A st)
    (k : ∀ w ∈ ws, ∀ lv' st' h', ab_l ty w.2.1 lv' → ab_dl lv0 w.2.1 lv' → ab_st ty lv' w.2.2 st' → ab_H ty X.2.1 h' → ab_goal ty X vs (X.2.2.1, w.1, lv', st', h')) : ab_goal ty X vs (X.2.2.1, pc, lv, st, h) := by
  have hdo : ab_do X.2.1 X.2.2.1 ins len pc al A = some ws → ab_goal ty X vs (X.2.2.1, pc, lv, st, h) := by
    intro e
    obtain ⟨S', h1, w, g1, lv', st', h', rfl, g2, g3, g4, g5⟩ := ab_do_ok hd e hH hl hdl hs
    exact ab_step_goal h1 (k w g1 lv' st' h' g2 g3 g4 g5)
  cases ins with
  | invokevirtual idx =>
    simp only [ab_ways] at hg
    split at hg
    · rename_i ix kd j zz he
      split at hg
      · rename_i M' hj
        split at hg
        · rename_i kk t z1 z2 hA
          split at hg
          · rename_i tag z3 z4 hT
            split at hg
            · rename_i hc
              obtain ⟨hlen, hkd, hkk, c1, c2, c3⟩ := hc
              subst hlen; subst hkd; subst hkk
              obtain ⟨v, s1, s2⟩ := ab_st_get _ _ _ _ hs hA
              obtain ⟨a, rfl, ha⟩ := ab_s_2 s2
              obtain ⟨tg, ln, es, xs, g1, g2, g3, g4⟩ := hH.2 a _ ha
              rw [hT] at g1
              cases g1
              obtain ⟨hfit, r1, h1, e1, e2, w, w1, w2, w3, w4, w5⟩ := ab_call_ok hsums hj hg hH hl hdl hs
              obtain ⟨r, h', e3, e4⟩ := k w w1 lv _ h1 w3 w4 w5 e2
              refine ⟨r, h', mj_runs.call (mj_calls_v hd he hj s1 g2 (by rw [c1, c2]) rfl ⟨c3, hfit⟩) e1 ?_, e4⟩
              rw [w2] at e3
              exact e3
            · cases hg
          · cases hg
        · cases hg
      · cases hg
    · cases hg
  | invokestatic idx =>
    simp only [ab_ways] at hg
    split at hg
    · rename_i ix kd j zz he
      split at hg
      · rename_i hkd
        subst hkd
        split at hg
        · rename_i M' hj
          split at hg
          · rename_i hc
            obtain ⟨hlen, c1⟩ := hc
            subst hlen
            obtain ⟨hfit, r1, h1, e1, e2, w, w1, w2, w3, w4, w5⟩ := ab_call_ok hsums hj hg hH hl hdl hs
            obtain ⟨r, h', e3, e4⟩ := k w w1 lv _ h1 w3 w4 w5 e2
            refine ⟨r, h', mj_runs.call (mj_calls_s hd he hj c1 rfl hfit) e1 ?_, e4⟩
            rw [w2] at e3
            exact e3
          · cases hg
        · cases hg
      · exact hdo hg
    · cases hg
  | _ => exact hdo hg
theorem ab_retok_ok {R : Option FieldType} {V : ab_V} {ty : List Nat} {lv : mj_L} {v : Value} (h : ab_retok R V = true) (hs : ab_s ty lv V v) : ∃ (x : Int32) (t : FieldType), v = .int x ∧ R = some t ∧ narrow t (.int x) = .int x ∧ ab_m ty V v := by
  unfold ab_retok at h
  split at h
  · have hk := of_decide_eq_true h
    obtain ⟨k, l, u, o⟩ := V
    dsimp only at hk
    subst hk
    obtain ⟨x, rfl, hx, -⟩ := ab_s_0 hs
    exact ⟨x, .int, rfl, rfl, rfl, Or.inl ⟨rfl, x, rfl, hx⟩⟩
  · simp only [Bool.and_eq_true, decide_eq_true_eq] at h
    obtain ⟨k, l, u, o⟩ := V
    dsimp only at h
    obtain ⟨⟨rfl, h1⟩, h2⟩ := h
    obtain ⟨x, rfl, hx, -⟩ := ab_s_0 hs
    refine ⟨x, .boolean, rfl, rfl, ?_, Or.inl ⟨rfl, x, rfl, hx⟩⟩
    obtain ⟨a, b⟩ := hx
    simp only at a b
    rcases ab_01 (x := x) (by omega) (by omega) with rfl | rfl <;> decide
  · cases h
theorem mj_ret_n {M : mj_M} {pc : Nat} {lv : mj_L} {h : mj_H} {v : Int32} {t : FieldType} (hd : decode M.2.1 pc = .ok (.ireturn, 1)) (hr : M.2.2.2.1 = some t) (hn : narrow t (.int v) = .int v) : ∀ kc k : mj_S → mj_O, mj_step none kc k (M, pc, lv, [.int v], h) = some (some (.int v), h) := by
  refine mj_ret_of hd fun kc k => ?_
  unfold mj_do
  dsimp only
  rw [if_pos rfl, hr]
  dsimp only
  exact if_pos hn
theorem mj_ret_v {M : mj_M} {pc : Nat} {lv : mj_L} {h : mj_H} (hd : decode M.2.1 pc = .ok (.return_, 1)) (hr : M.2.2.2.1 = none) : ∀ kc k : mj_S → mj_O, mj_step none kc k (M, pc, lv, [], h) = some (none, h) := by
  refine mj_ret_of hd fun kc k => ?_
  unfold mj_do
  dsimp only
  rw [if_pos rfl, hr]
set_option maxHeartbeats 2000000 in
theorem ab_chk_ok {ty : List Nat} {X : ab_C} {vs : List Value} {lv0 : mj_L} {cur : ab_K} (hsums : ∀ s ∈ X.1, ab_sum ty X.2.1 s) (hvs : ab_args ty X.2.2.2.1 vs) (hl0 : ab_l ty cur.2.1 lv0)
    (IH : X.2.2.2.2.2.2.2 = false → ∀ c ∈ X.2.2.2.2.2.2.1, ∀ lv h, ab_l ty c.2.1 lv → ab_H ty X.2.1 h → ab_rank X.2.2.2.2.2.1 c lv < ab_rank X.2.2.2.2.2.1 cur lv0 → ab_goal ty X vs (X.2.2.1, c.1, lv, [], h))
    (hsim : X.2.2.2.2.2.2.2 = true → ∀ k v, (k, v) ∈ lv_args 0 vs → mj_get lv0 k = some v) : ∀ (f : Nat) (fst : Bool) (w : Nat × ab_L × List ab_V) (lv : mj_L) (st : List Value) (h : mj_H), ab_chk X cur f fst w = true → ab_l ty w.2.1 lv → ab_dl lv0 w.2.1 lv → ab_st ty lv w.2.2 st → ab_H ty X.2.1 h → ab_goal ty X vs (X.2.2.1, w.1, lv, st, h) := by
  intro f
  induction f with
  | zero => intro fst w lv st h hc; cases hc
  | succ f ih =>
    intro fst w lv st h hc hl hdl hs hH
    obtain ⟨pc, al, A⟩ := w
    unfold ab_chk at hc
    split at hc
    · rename_i hcut
      rw [Bool.and_eq_true] at hc hcut
      have hsf : X.2.2.2.2.2.2.2 = false := by
        have := hcut.1
        rw [Bool.and_eq_true] at this
        simpa using this.2
      obtain ⟨c, c1, c2⟩ := List.any_eq_true.mp hc.2
      rw [Bool.and_eq_true, Bool.and_eq_true] at c2
      have hpc : c.1 = pc := by simpa using c2.1.1
      have hA : A = [] := List.isEmpty_iff.mp hc.1
      subst hA
      cases st with
      | cons v r => exact absurd hs (by simp [ab_st])
      | nil =>
        have hg := IH hsf c c1 lv h (ab_lle_ok c2.1.2 hl) hH (ab_dec_ok hl0 hl hdl c2.2)
        rw [hpc] at hg
        exact hg
    · split at hc
      · cases hc
      · rename_i ins len hd
        split at hc
        · rename_i hi
          subst hi
          rw [Bool.and_eq_true, decide_eq_true_eq] at hc
          obtain ⟨hlen, hc⟩ := hc
          subst hlen
          unfold ab_isret at hc
          split at hc
          · rename_i V
            rw [Bool.and_eq_true] at hc
            obtain ⟨v, r0, rfl, s1, hs1⟩ := ab_st_cons hs
            cases r0 with
            | cons v2 r => exact absurd hs1 (by simp [ab_st])
            | nil =>
              obtain ⟨x, t, rfl, q1, q2, q3⟩ := ab_retok_ok hc.1 s1
              obtain ⟨o, o1, o2⟩ := List.any_eq_true.mp hc.2
              rw [Bool.and_eq_true] at o2
              refine ⟨some (.int x), h, mj_runs.ret (mj_ret_n hd q1 q2), hH, o, o1, ?_, ab_oargs_ok hl hdl _ _ _ _ o2.2 hvs hsim⟩
              have h3 := o2.1
              split at h3
              · rename_i W e
                rw [e]
                exact ab_le_ok h3 q3
              · cases h3
          · cases hc
        · split at hc
          · rename_i hi
            subst hi
            rw [Bool.and_eq_true, decide_eq_true_eq] at hc
            obtain ⟨hlen, hc⟩ := hc
            subst hlen
            unfold ab_vret at hc
            rw [Bool.and_eq_true, Bool.and_eq_true] at hc
            have hA : A = [] := List.isEmpty_iff.mp hc.1.1
            subst hA
            cases st with
            | cons v r => exact absurd hs (by simp [ab_st])
            | nil =>
              obtain ⟨o, o1, o2⟩ := List.any_eq_true.mp hc.2
              rw [Bool.and_eq_true] at o2
              refine ⟨none, h, mj_runs.ret (mj_ret_v hd (Option.isNone_iff_eq_none.mp hc.1.2)), hH, o, o1, ?_, ab_oargs_ok hl hdl _ _ _ _ o2.2 hvs hsim⟩
              rw [Option.isNone_iff_eq_none.mp o2.1]
              trivial
          · split at hc
            · rename_i ws hw
              refine ab_ways_ok hsums hd hw hH hl hdl hs (fun w hm lv' st' h' g1 g2 g3 g4 => ?_)
              exact ih false w lv' st' h' (List.all_eq_true.mp hc w hm) g1 g2 g3 g4
            · cases hc
/-- locals at the entry -/
def ab_largs : Nat → List ab_V → ab_L
  | _, [] => []
  | i, V :: As => (i, (V.1, V.2.1, V.2.2.1, if V.1 ≤ 1 then 1000000 else 0)) :: ab_largs (if V.1 = 1 then i + 2 else i + 1) As
def ab_orig (al : ab_L) : Bool := al.all (fun q => decide (q.2.2.2.2 = 0) || (decide (q.2.2.2.2 = 1000000) && decide (q.2.1 ≤ 1)))
/-- the whole check of a method: its entry is a cut that lies within the first one -/
def ab_ok (X : ab_C) (F : Nat) : Bool := match X.2.2.2.2.2.2.1 with
  | [] => false
  | c0 :: _ => decide (c0.1 = 0) && decide (c0.2.1 = ab_largs 0 X.2.2.2.1) && (X.2.2.2.2.2.2.1).all (fun c => decide (0 ≤ c.2.2.1) && ab_nn c.2.1 X.2.2.2.2.2.1 c.2.2.2 && ab_orig c.2.1 && ab_chk X c F true (c.1, c.2.1, []))
theorem ab_orig_dl {ty : List Nat} {al : ab_L} {lv : mj_L} (h : ab_orig al = true) (hl : ab_l ty al lv) : ab_dl lv al lv := by
  intro i V e hV
  have e0 := e
  unfold ab_get at e
  obtain ⟨q, e1, e2⟩ := Option.map_eq_some_iff.mp e
  have h1 := List.all_eq_true.mp h q (List.mem_of_find?_eq_some e1)
  rw [Bool.or_eq_true, Bool.and_eq_true, decide_eq_true_eq, decide_eq_true_eq, decide_eq_true_eq] at h1
  rw [e2] at h1
  rcases h1 with h1 | ⟨h1, h2⟩
  · exact absurd h1 hV
  · obtain ⟨v, g1, g2⟩ := hl i V e0
    obtain ⟨z, g3, -⟩ := ab_m_num g2 h2
    exact ⟨v, z, v, z, g1, g3, g1, g3, by rw [h1]; simp⟩
theorem ab_largs_get : ∀ (As : List ab_V) (vs : List Value) (i j : Nat) (V : ab_V), ab_get (ab_largs i As) j = some V → ∀ ty, ab_args ty As vs → ∃ v, mj_get (lv_args i vs) j = some v ∧ ab_m ty V v := by
  intro As
  induction As with
  | nil => intro vs i j V h; cases h
  | cons W As ih =>
    intro vs i j V h ty ha
    cases vs with
    | nil => exact absurd ha (by simp [ab_args])
    | cons v vs =>
      have hcat : v.category = if W.1 = 1 then 2 else 1 := by
        rcases ha.1 with ⟨k, x, rfl, -⟩ | ⟨k, x, rfl, -⟩ | ⟨k, x, rfl, -⟩ <;> rw [k] <;> rfl
      simp only [ab_largs] at h
      simp only [lv_args]
      by_cases e : j = i
      · subst e
        rw [ab_get_self] at h
        cases h
        exact ⟨v, mj_get_self, ab_m_o _ ha.1⟩
      · rw [ab_get_cons_ne e] at h
        rw [mj_get_cons_ne e]
        have hi : (if v.category = 2 then i + 2 else i + 1) = (if W.1 = 1 then i + 2 else i + 1) := by
          rw [hcat]
          by_cases hv : W.1 = 1
          · rw [if_pos hv, if_pos hv, if_pos rfl]
          · rw [if_neg hv, if_neg hv, if_neg (by decide)]
        rw [hi]
        exact ih vs _ j V h ty ha.2
theorem lv_args_ge : ∀ (vs : List Value) (i k : Nat) (v : Value), (k, v) ∈ lv_args i vs → i ≤ k := by
  intro vs
  induction vs with
  | nil => intro i k v h; cases h
  | cons w vs ih =>
    intro i k v h
    rcases List.mem_cons.mp h with e | h
    · cases e; exact Nat.le_refl _
    · have := ih _ _ _ h
      split at this <;> omega
theorem lv_args_get : ∀ (vs : List Value) (i k : Nat) (v : Value), (k, v) ∈ lv_args i vs → mj_get (lv_args i vs) k = some v := by
  intro vs
  induction vs with
  | nil => intro i k v h; cases h
  | cons w vs ih =>
    intro i k v h
    rcases List.mem_cons.mp h with e | h
    · cases e
      exact mj_get_self
    · have hg := lv_args_ge _ _ _ _ h
      show mj_get ((i, w) :: lv_args (if w.category = 2 then i + 2 else i + 1) vs) k = some v
      rw [mj_get_cons_ne (by split at hg <;> omega)]
      exact ih _ _ _ h
/-- A METHOD THAT IS CHECKED ends from every typed heap and all arguments within their bounds, in one of its ways -/
theorem ab_ok_sum {ty : List Nat} {X : ab_C} {F j : Nat} (hsums : ∀ s ∈ X.1, ab_sum ty X.2.1 s) (hj : mj_meths[j]? = some X.2.2.1) (h : ab_ok X F = true) : ab_sum ty X.2.1 (j, X.2.2.2.1, X.2.2.2.2.1) := by
  intro M vs h0 hM hvs hH
  rw [hj] at hM
  cases hM
  unfold ab_ok at h
  split at h
  · cases h
  · rename_i c0 cs hcs
    rw [Bool.and_eq_true, Bool.and_eq_true, decide_eq_true_eq, decide_eq_true_eq] at h
    obtain ⟨⟨k1, k2⟩, k3⟩ := h
    have hall : ∀ c ∈ X.2.2.2.2.2.2.1, 0 ≤ c.2.2.1 ∧ ab_nn c.2.1 X.2.2.2.2.2.1 c.2.2.2 = true ∧ ab_orig c.2.1 = true ∧ ab_chk X c F true (c.1, c.2.1, []) = true := by
      intro c hc
      have := List.all_eq_true.mp k3 c hc
      rw [Bool.and_eq_true, Bool.and_eq_true, Bool.and_eq_true, decide_eq_true_eq] at this
      exact ⟨this.1.1.1, this.1.1.2, this.1.2, this.2⟩
    have hmem : c0 ∈ X.2.2.2.2.2.2.1 := by rw [hcs]; exact List.mem_cons_self
    have hl0 : ab_l ty c0.2.1 (lv_args 0 vs) := by
      intro i V e
      rw [k2] at e
      exact ab_largs_get _ _ _ _ _ e ty hvs
    by_cases hsf : X.2.2.2.2.2.2.2 = true
    · obtain ⟨g1, g2, g3, g4⟩ := hall c0 hmem
      have := ab_chk_ok hsums hvs hl0 (fun q => by rw [hsf] at q; cases q) (fun _ k v hm => lv_args_get _ _ _ _ hm) F true (c0.1, c0.2.1, []) (lv_args 0 vs) [] h0 g4 hl0 (ab_orig_dl g3 hl0) trivial hH
      rw [k1] at this
      exact this
    · have key : ∀ (n : Nat) (c : ab_K), c ∈ X.2.2.2.2.2.2.1 → ∀ lv h, ab_l ty c.2.1 lv → ab_H ty X.2.1 h → (ab_rank X.2.2.2.2.2.1 c lv).toNat = n → ab_goal ty X vs (X.2.2.1, c.1, lv, [], h) := by
        intro n
        induction n using Nat.strongRecOn with
        | ind n ih =>
          intro c hc lv h hl hH hn
          obtain ⟨g1, g2, g3, g4⟩ := hall c hc
          have hr0 := ab_nn_ok hl _ _ g2
          refine ab_chk_ok hsums hvs hl (fun _ c' hc' lv' h' hl' hH' hlt => ?_) (fun q => absurd q hsf) F true (c.1, c.2.1, []) lv [] h g4 hl (ab_orig_dl g3 hl) trivial hH
          obtain ⟨f1, f2, f3, f4⟩ := hall c' hc'
          have hr1 := ab_nn_ok hl' _ _ f2
          refine ih _ ?_ c' hc' lv' h' hl' hH' rfl
          unfold ab_rank at hlt hn ⊢
          omega
      have := key _ c0 hmem (lv_args 0 vs) h0 hl0 hH rfl
      rw [k1] at this
      exact this
