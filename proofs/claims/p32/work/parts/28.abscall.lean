/-! ABSTRACT CALLS: what is known of a method: its arguments' bounds, and its ways out (answer, arguments) -/
abbrev ab_O : Type := Option ab_V × List ab_V
abbrev ab_M : Type := Nat × List ab_V × List ab_O
def ab_args (ty : List Nat) : List ab_V → List Value → Prop
  | [], [] => True
  | V :: As, v :: vs => ab_m ty V v ∧ ab_args ty As vs
  | _, _ => False
def ab_ret (ty : List Nat) (R : Option ab_V) (r : Option Value) : Prop := match R, r with
  | none, none => True
  | some V, some v => ab_m ty V v
  | _, _ => False
/-- from every typed heap and arguments within bounds the method ends, in one of the ways -/
def ab_sum (ty : List Nat) (T : ab_T) (s : ab_M) : Prop := ∀ (M : mj_M) (vs : List Value) (h : mj_H), mj_meths[s.1]? = some M → ab_args ty s.2.1 vs → ab_H ty T h → ∃ r h', mj_runs (M, 0, lv_args 0 vs, [], h) r h' ∧ ab_H ty T h' ∧ ∃ out ∈ s.2.2, ab_ret ty out.1 r ∧ ab_args ty out.2 vs
def ab_leL : List ab_V → List ab_V → Bool
  | [], [] => true
  | V :: As, W :: Bs => decide (V.1 ≠ 4) && ab_le V W && ab_leL As Bs
  | _, _ => false
/-- bounds for the locals that the arguments came from; none: that way can't be -/
def ab_upds (al : ab_L) : List ab_V → List ab_V → Option ab_L
  | V :: As, W :: Bs => match ab_upds al As Bs with
    | some al' => if V.1 ≤ 1 ∧ W.1 ≤ 1 then (if max V.2.1 W.2.1 ≤ min V.2.2.1 W.2.2.1 then some (ab_upd al' V.2.2.2 (W.2.1, W.2.2.1)) else none) else some al'
    | none => none
  | _, _ => some al
def ab_outs (pc : Nat) (al : ab_L) (act rest : List ab_V) : List ab_O → ab_W
  | [] => []
  | out :: os => match ab_upds al act out.2 with
    | some al' => (pc, al', (out.1.map fun V => (V.1, V.2.1, V.2.2.1, 0)).toList ++ rest) :: ab_outs pc al act rest os
    | none => ab_outs pc al act rest os
def ab_w (V : ab_V) : Nat := if V.1 = 1 then 2 else 1
/-- the call of method j with n words of the stack: the ways behind it -/
def ab_call (sums : List ab_M) (M M' : mj_M) (j n pc : Nat) (al : ab_L) (A : List ab_V) : Option ab_W :=
  if n ≤ A.length ∧ ((A.drop n).map ab_w).sum ≤ 8 ∧ M'.2.2.2.2.2.2.2.1 + 1 ≤ M.2.2.2.2.2.2.2.1 ∧ 8 + (M'.2.2.1 + 11) + M'.2.2.2.2.2.2.2.2 ≤ M.2.2.2.2.2.2.2.2 ∧ ((A.take n).map ab_w).sum ≤ M'.2.2.1 then
    match sums.find? (fun s => s.1 == j && ab_leL (A.take n).reverse s.2.1) with
    | some s => some (ab_outs (pc + 3) al (A.take n).reverse (A.drop n) s.2.2)
    | none => none
  else none
section AB7
variable {ty : List Nat} {T : ab_T} {lv0 lv : mj_L}
theorem ab_st_len : ∀ (A : List ab_V) (st : List Value), ab_st ty lv A st → st.length = A.length := by
  intro A
  induction A with
  | nil =>
    intro st h
    cases st with
    | nil => rfl
    | cons v r => exact absurd h (by simp [ab_st])
  | cons V A ih =>
    intro st h
    obtain ⟨v, r, rfl, s1, hs1⟩ := ab_st_cons h
    rw [List.length_cons, List.length_cons, ih r hs1]
theorem ab_st_drop : ∀ (n : Nat) (A : List ab_V) (st : List Value), ab_st ty lv A st → ab_st ty lv (A.drop n) (st.drop n) := by
  intro n
  induction n with
  | zero => intro A st h; exact h
  | succ n ih =>
    intro A st h
    cases A with
    | nil =>
      cases st with
      | nil => exact h
      | cons v r => exact absurd h (by simp [ab_st])
    | cons V A =>
      obtain ⟨v, r, rfl, s1, hs1⟩ := ab_st_cons h
      exact ih A r hs1
theorem ab_st_get : ∀ (n : Nat) (A : List ab_V) (st : List Value) (V : ab_V), ab_st ty lv A st → A[n]? = some V → ∃ v, st[n]? = some v ∧ ab_s ty lv V v := by
  intro n
  induction n with
  | zero =>
    intro A st V h e
    cases A with
    | nil => cases e
    | cons W A =>
      cases e
      obtain ⟨v, r, rfl, s1, hs1⟩ := ab_st_cons h
      exact ⟨v, rfl, s1⟩
  | succ n ih =>
    intro A st V h e
    cases A with
    | nil => cases e
    | cons W A =>
      obtain ⟨v, r, rfl, s1, hs1⟩ := ab_st_cons h
      exact ih A r V hs1 e
/-- a stack of values as a list of arguments, with their origins -/
def ab_sL (ty : List Nat) (lv : mj_L) : List ab_V → List Value → Prop
  | [], [] => True
  | V :: As, v :: vs => ab_s ty lv V v ∧ ab_sL ty lv As vs
  | _, _ => False
theorem ab_sL_app : ∀ (A B : List ab_V) (vs ws : List Value), ab_sL ty lv A vs → ab_sL ty lv B ws → ab_sL ty lv (A ++ B) (vs ++ ws) := by
  intro A
  induction A with
  | nil =>
    intro B vs ws h1 h2
    cases vs with
    | nil => exact h2
    | cons v r => exact absurd h1 (by simp [ab_sL])
  | cons V A ih =>
    intro B vs ws h1 h2
    cases vs with
    | nil => exact absurd h1 (by simp [ab_sL])
    | cons v r => exact ⟨h1.1, ih B r ws h1.2 h2⟩
theorem ab_sL_take : ∀ (n : Nat) (A : List ab_V) (st : List Value), ab_st ty lv A st → ab_sL ty lv (A.take n).reverse (st.take n).reverse := by
  intro n
  induction n with
  | zero => intro A st h; exact trivial
  | succ n ih =>
    intro A st h
    cases A with
    | nil =>
      cases st with
      | nil => exact trivial
      | cons v r => exact absurd h (by simp [ab_st])
    | cons V A =>
      obtain ⟨v, r, rfl, s1, hs1⟩ := ab_st_cons h
      rw [List.take_succ_cons, List.take_succ_cons, List.reverse_cons, List.reverse_cons]
      exact ab_sL_app _ _ _ _ (ih A r hs1) ⟨s1, trivial⟩
theorem ab_leL_ok : ∀ (A B : List ab_V) (vs : List Value), ab_leL A B = true → ab_sL ty lv A vs → ab_args ty B vs := by
  intro A
  induction A with
  | nil =>
    intro B vs h hs
    cases B with
    | nil =>
      cases vs with
      | nil => trivial
      | cons v r => exact absurd hs (by simp [ab_sL])
    | cons W B => exact absurd h (by simp [ab_leL])
  | cons V A ih =>
    intro B vs h hs
    cases B with
    | nil => exact absurd h (by simp [ab_leL])
    | cons W B =>
      cases vs with
      | nil => exact absurd hs (by simp [ab_sL])
      | cons v r =>
        simp only [ab_leL, Bool.and_eq_true, decide_eq_true_eq] at h
        exact ⟨ab_le_ok h.1.2 (ab_s_m hs.1 h.1.1), ih B r h.2 hs.2⟩
theorem ab_m_num {V : ab_V} {v : Value} (h : ab_m ty V v) (hk : V.1 ≤ 1) : ∃ z, ab_num v = some z ∧ ab_i (V.2.1, V.2.2.1) z := by
  rcases h with ⟨-, x, rfl, h⟩ | ⟨-, x, rfl, h⟩ | ⟨h, -⟩
  · exact ⟨_, rfl, h⟩
  · exact ⟨_, rfl, h⟩
  · omega
theorem ab_upds_ok {al : ab_L} (hl : ab_l ty al lv) : ∀ (A B : List ab_V) (vs : List Value), ab_sL ty lv A vs → ab_args ty B vs → ∃ al', ab_upds al A B = some al' ∧ ab_l ty al' lv := by
  intro A
  induction A with
  | nil => intro B vs _ _; exact ⟨al, rfl, hl⟩
  | cons V A ih =>
    intro B vs hs ha
    cases B with
    | nil => exact ⟨al, rfl, hl⟩
    | cons W B =>
      cases vs with
      | nil => exact absurd hs (by simp [ab_sL])
      | cons v r =>
        obtain ⟨al', e1, e2⟩ := ih B r hs.2 ha.2
        simp only [ab_upds, e1]
        split
        · rename_i hk
          obtain ⟨z, z1, z2⟩ := ab_m_num ha.1 hk.2
          have hm : ab_m ty V v := ab_s_m hs.1 (by omega)
          obtain ⟨z', z3, z4⟩ := ab_m_num hm hk.1
          rw [z1] at z3
          cases z3
          have hne : max V.2.1 W.2.1 ≤ min V.2.2.1 W.2.2.1 := by
            obtain ⟨a, b⟩ := z2
            obtain ⟨c, d⟩ := z4
            simp only at a b c d
            omega
          rw [if_pos hne]
          refine ⟨_, rfl, ab_upd_ok e2 ?_⟩
          rcases hs.1 with ⟨q, -⟩ | ⟨-, q⟩
          · omega
          · rcases q with q | ⟨u, z', q1, q2, q3⟩
            · exact Or.inl q
            · rw [z1] at q3
              cases q3
              exact Or.inr ⟨u, z, q1, q2, z2⟩
        · exact ⟨al', rfl, e2⟩
theorem ab_upds_dl {al : ab_L} (hd : ab_dl lv0 al lv) : ∀ (A B : List ab_V) (al' : ab_L), ab_upds al A B = some al' → ab_dl lv0 al' lv := by
  intro A
  induction A with
  | nil => intro B al' h; cases h; exact hd
  | cons V A ih =>
    intro B al' h
    cases B with
    | nil => cases h; exact hd
    | cons W B =>
      simp only [ab_upds] at h
      split at h
      · rename_i al2 e
        split at h
        · split at h
          · cases h
            exact ab_dl_upd (ih B al2 e)
          · cases h
        · cases h
          exact ih B _ e
      · cases h
theorem ab_outs_ok {pc : Nat} {al : ab_L} {act rest : List ab_V} {vs rs : List Value} {r : Option Value} (hl : ab_l ty al lv) (hd : ab_dl lv0 al lv) (hs : ab_sL ty lv act vs) (hr : ab_st ty lv rest rs) : ∀ (os : List ab_O) (out : ab_O), out ∈ os → ab_ret ty out.1 r → ab_args ty out.2 vs → ∃ w ∈ ab_outs pc al act rest os, w.1 = pc ∧ ab_l ty w.2.1 lv ∧ ab_dl lv0 w.2.1 lv ∧ ab_st ty lv w.2.2 (r.toList ++ rs) := by
  intro os
  induction os with
  | nil => intro out h; cases h
  | cons o os ih =>
    intro out hm h1 h2
    rcases List.mem_cons.mp hm with rfl | hm
    · obtain ⟨al', e1, e2⟩ := ab_upds_ok hl act out.2 vs hs h2
      simp only [ab_outs, e1]
      refine ⟨_, List.mem_cons_self, rfl, e2, ab_upds_dl hd _ _ _ e1, ?_⟩
      obtain ⟨R, Os⟩ := out
      cases R with
      | none =>
        cases r with
        | none => exact hr
        | some v => exact absurd h1 (by simp [ab_ret])
      | some V =>
        cases r with
        | none => exact absurd h1 (by simp [ab_ret])
        | some v => exact ⟨ab_s_of h1, hr⟩
    · obtain ⟨w, g1, g2⟩ := ih out hm h1 h2
      simp only [ab_outs]
      split
      · exact ⟨w, List.mem_cons_of_mem _ g1, g2⟩
      · exact ⟨w, g1, g2⟩
theorem ab_lgsl : ∀ (A : List ab_V) (vs : List Value), ab_sL ty lv A vs → (lg_sl vs).length = (A.map ab_w).sum := by
  intro A
  induction A with
  | nil =>
    intro vs h
    cases vs with
    | nil => rfl
    | cons v r => exact absurd h (by simp [ab_sL])
  | cons V A ih =>
    intro vs h
    cases vs with
    | nil => exact absurd h (by simp [ab_sL])
    | cons v r =>
      have e : (lg_sl (v :: r)).length = (if v.category = 2 then 2 else 1) + (lg_sl r).length := by
        unfold lg_sl
        rw [List.flatMap_cons, List.length_append]
        split <;> rfl
      rw [e, ih r h.2, List.map_cons, List.sum_cons, ab_s_cat h.1]
      unfold ab_w
      split <;> simp
/-- a call that the table knows comes to one of its ways -/
theorem ab_call_ok {sums : List ab_M} (hsums : ∀ s ∈ sums, ab_sum ty T s) {M M' : mj_M} {j n pc : Nat} {al : ab_L} {A : List ab_V} {st : List Value} {h : mj_H} {ws : ab_W} (hj : mj_meths[j]? = some M') (hc : ab_call sums M M' j n pc al A = some ws) (hH : ab_H ty T h) (hl : ab_l ty al lv) (hd : ab_dl lv0 al lv) (hs : ab_st ty lv A st) :
    mj_fit M M' st n ∧ ∃ r1 h1, mj_runs (M', 0, lv_args 0 (st.take n).reverse, [], h) r1 h1 ∧ ab_H ty T h1 ∧ ∃ w ∈ ws, w.1 = pc + 3 ∧ ab_l ty w.2.1 lv ∧ ab_dl lv0 w.2.1 lv ∧ ab_st ty lv w.2.2 (r1.toList ++ st.drop n) := by
  unfold ab_call at hc
  split at hc
  · rename_i hh
    obtain ⟨c1, c2, c3, c4, c5⟩ := hh
    split at hc
    · rename_i s hf
      cases hc
      have hs1 := List.find?_some hf
      rw [Bool.and_eq_true] at hs1
      have hm := List.mem_of_find?_eq_some hf
      have hsj : s.1 = j := by simpa using hs1.1
      have hL := ab_sL_take n A st hs
      have hlen := ab_st_len A st hs
      have hdr := ab_st_drop n A st hs
      have hcat := ab_cat_sum _ _ hdr
      refine ⟨⟨by omega, ?_, c3, c4, ?_⟩, ?_⟩
      · rw [hcat]
        exact c2
      · rw [ab_lgsl _ _ hL, List.map_reverse, List.sum_reverse]
        exact c5
      · obtain ⟨r1, h1, e1, e2, out, o1, o2, o3⟩ := hsums s hm M' (st.take n).reverse h (by rw [hsj]; exact hj) (ab_leL_ok _ _ _ hs1.2 hL) hH
        exact ⟨r1, h1, e1, e2, ab_outs_ok hl hd hL hdr _ out o1 o2 o3⟩
    · cases hc
  · cases hc
end AB7
