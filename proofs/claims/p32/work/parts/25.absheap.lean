/-! ABSTRACT HEAP: a type for each cell (its kind, its length, bounds of its elements, in turn) -/
abbrev ab_T : Type := List (Nat × Nat × List ab_V)
def ab_el (es : List ab_V) (i : Nat) : ab_V := es.getD (i % es.length) (9, 0, 0, 0)
def ab_H (ty : List Nat) (T : ab_T) (h : mj_H) : Prop := h.length = ty.length ∧ ∀ (a t : Nat), ty[a]? = some t → ∃ (tag len : Nat) (es : List ab_V) (xs : List Value), T[t]? = some (tag, len, es) ∧ h[a]? = some (tag, xs) ∧ xs.length = len ∧ ∀ (i : Nat) (v : Value), xs[i]? = some v → ab_m ty (ab_el es i) v
def ab_le (V W : ab_V) : Bool := decide (V.1 = W.1) && (if V.1 = 2 then decide (V.2.1 = W.2.1) else decide (W.2.1 ≤ V.2.1) && decide (V.2.2.1 ≤ W.2.2.1))
theorem ab_le_ok {ty : List Nat} {V W : ab_V} {v : Value} (h : ab_le V W = true) (hv : ab_m ty V v) : ab_m ty W v := by
  unfold ab_le at h
  rw [Bool.and_eq_true, decide_eq_true_eq] at h
  obtain ⟨h1, h2⟩ := h
  rcases hv with ⟨k, x, e, a, b⟩ | ⟨k, x, e, a, b⟩ | ⟨k, x, e, a⟩
  · rw [if_neg (by omega), Bool.and_eq_true, decide_eq_true_eq, decide_eq_true_eq] at h2
    exact Or.inl ⟨by omega, x, e, by constructor <;> simp only at * <;> omega⟩
  · rw [if_neg (by omega), Bool.and_eq_true, decide_eq_true_eq, decide_eq_true_eq] at h2
    exact Or.inr (Or.inl ⟨by omega, x, e, by constructor <;> simp only at * <;> omega⟩)
  · rw [if_pos k, decide_eq_true_eq] at h2
    exact Or.inr (Or.inr ⟨by omega, x, e, by rw [a, h2]⟩)
theorem ab_m_o {ty : List Nat} {V : ab_V} {v : Value} (o : Nat) (h : ab_m ty V v) : ab_m ty (V.1, V.2.1, V.2.2.1, o) v := by
  rcases h with q | q | q
  · exact Or.inl q
  · exact Or.inr (Or.inl q)
  · exact Or.inr (Or.inr q)
theorem ab_s_m {ty : List Nat} {lv : mj_L} {V : ab_V} {v : Value} (h : ab_s ty lv V v) (hk : V.1 ≠ 4) : ab_m ty V v := by
  rcases h with ⟨q, -⟩ | ⟨q, -⟩
  · exact absurd q hk
  · exact q
theorem ab_s_of {ty : List Nat} {lv : mj_L} {V : ab_V} {v : Value} (h : ab_m ty V v) : ab_s ty lv (V.1, V.2.1, V.2.2.1, 0) v := Or.inr ⟨ab_m_o 0 h, Or.inl rfl⟩
theorem ab_H.set {ty : List Nat} {T : ab_T} {h : mj_H} {a t tag len k : Nat} {es : List ab_V} {xs : List Value} {v : Value} (hH : ab_H ty T h) (h1 : ty[a]? = some t) (h2 : T[t]? = some (tag, len, es)) (h3 : h[a]? = some (tag, xs)) (hv : ab_m ty (ab_el es k) v) : ab_H ty T (h.set a (tag, xs.set k v)) := by
  refine ⟨by rw [List.length_set]; exact hH.1, fun a' t' e => ?_⟩
  obtain ⟨tag', len', es', xs', g1, g2, g3, g4⟩ := hH.2 a' t' e
  by_cases q : a' = a
  · subst q
    rw [h1] at e
    cases e
    rw [h2] at g1
    cases g1
    rw [h3] at g2
    cases g2
    have hlt : a' < h.length := (List.getElem?_eq_some_iff.mp h3).1
    refine ⟨tag, len, es, xs.set k v, h2, by rw [List.getElem?_set_self hlt], by rw [List.length_set]; exact g3, fun i w hw => ?_⟩
    by_cases e2 : i = k
    · subst e2
      have hl : i < xs.length := by
        have := (List.getElem?_eq_some_iff.mp hw).1
        rw [List.length_set] at this
        exact this
      rw [List.getElem?_set_self hl] at hw
      cases hw
      exact hv
    · rw [List.getElem?_set_ne (Ne.symm e2)] at hw
      exact g4 i w hw
  · exact ⟨tag', len', es', xs', g1, by rw [List.getElem?_set_ne (Ne.symm q)]; exact g2, g3, g4⟩
/-- bounds of the elements from l on, n more -/
def ab_join (V W : ab_V) : ab_V := if V.1 = W.1 ∧ (V.1 ≤ 1 ∨ V.2.1 = W.2.1) then (V.1, min V.2.1 W.2.1, max V.2.2.1 W.2.2.1, 0) else (9, 0, 0, 0)
def ab_rng (es : List ab_V) (l : Nat) : Nat → ab_V
  | 0 => ab_el es l
  | n + 1 => ab_join (ab_rng es l n) (ab_el es (l + n + 1))
def ab_rngq (es : List ab_V) (l n : Nat) : ab_V := if es.length = 1 then ab_el es 0 else ab_rng es l n
def ab_all (es : List ab_V) (V : ab_V) (l : Nat) : Nat → Bool
  | 0 => ab_le V (ab_el es l)
  | n + 1 => ab_all es V l n && ab_le V (ab_el es (l + n + 1))
def ab_allq (es : List ab_V) (V : ab_V) (l n : Nat) : Bool := if es.length = 1 then ab_le V (ab_el es 0) else ab_all es V l n
theorem ab_join_l {ty : List Nat} {V W : ab_V} {v : Value} (hk : (ab_join V W).1 ≠ 9) (h : ab_m ty V v) : ab_m ty (ab_join V W) v := by
  unfold ab_join at hk ⊢
  split
  · rename_i hc
    rcases h with ⟨k, x, e, a, b⟩ | ⟨k, x, e, a, b⟩ | ⟨k, x, e, a⟩
    · exact Or.inl ⟨k, x, e, by constructor <;> simp only at * <;> omega⟩
    · exact Or.inr (Or.inl ⟨k, x, e, by constructor <;> simp only at * <;> omega⟩)
    · refine Or.inr (Or.inr ⟨k, x, e, ?_⟩)
      have : V.2.1 = W.2.1 := by omega
      dsimp only
      rw [a, ← this, Int.min_self]
  · rename_i hc
    rw [if_neg hc] at hk
    exact absurd rfl hk
theorem ab_join_r {ty : List Nat} {V W : ab_V} {v : Value} (hk : (ab_join V W).1 ≠ 9) (h : ab_m ty W v) : ab_m ty (ab_join V W) v := by
  unfold ab_join at hk ⊢
  split
  · rename_i hc
    rcases h with ⟨k, x, e, a, b⟩ | ⟨k, x, e, a, b⟩ | ⟨k, x, e, a⟩
    · exact Or.inl ⟨by dsimp only; omega, x, e, by constructor <;> simp only at * <;> omega⟩
    · exact Or.inr (Or.inl ⟨by dsimp only; omega, x, e, by constructor <;> simp only at * <;> omega⟩)
    · refine Or.inr (Or.inr ⟨by dsimp only; omega, x, e, ?_⟩)
      have : V.2.1 = W.2.1 := by omega
      dsimp only
      rw [a, this, Int.min_self]
  · rename_i hc
    rw [if_neg hc] at hk
    exact absurd rfl hk
theorem ab_m_9 {ty : List Nat} {V : ab_V} {v : Value} (h : ab_m ty V v) : V.1 ≠ 9 := by
  rcases h with ⟨k, -⟩ | ⟨k, -⟩ | ⟨k, -⟩ <;> omega
theorem ab_rng_ok {ty : List Nat} {es : List ab_V} {l : Nat} {v : Value} : ∀ n i, l ≤ i → i ≤ l + n → (ab_rng es l n).1 ≠ 9 → ab_m ty (ab_el es i) v → ab_m ty (ab_rng es l n) v := by
  intro n
  induction n with
  | zero =>
    intro i h1 h2 _ h
    have e : i = l := by omega
    subst e
    exact h
  | succ n ih =>
    intro i h1 h2 hk h
    by_cases e : i = l + n + 1
    · subst e
      exact ab_join_r hk h
    · refine ab_join_l hk (ih i h1 (by omega) ?_ h)
      intro q
      apply hk
      show (ab_join (ab_rng es l n) (ab_el es (l + n + 1))).1 = 9
      unfold ab_join
      split
      · exact q
      · rfl
theorem ab_el_1 {es : List ab_V} (h : es.length = 1) (i : Nat) : ab_el es i = ab_el es 0 := by
  unfold ab_el
  rw [h, Nat.mod_one, Nat.mod_one]
theorem ab_rngq_ok {ty : List Nat} {es : List ab_V} {l n i : Nat} {v : Value} (h1 : l ≤ i) (h2 : i ≤ l + n) (hk : (ab_rngq es l n).1 ≠ 9) (h : ab_m ty (ab_el es i) v) : ab_m ty (ab_rngq es l n) v := by
  unfold ab_rngq at hk ⊢
  split
  · rename_i e
    rw [← ab_el_1 e i]
    exact h
  · rename_i e
    rw [if_neg e] at hk
    exact ab_rng_ok n i h1 h2 hk h
theorem ab_all_ok {es : List ab_V} {V : ab_V} {l : Nat} : ∀ n i, l ≤ i → i ≤ l + n → ab_all es V l n = true → ab_le V (ab_el es i) = true := by
  intro n
  induction n with
  | zero =>
    intro i h1 h2 h
    have e : i = l := by omega
    subst e
    exact h
  | succ n ih =>
    intro i h1 h2 h
    unfold ab_all at h
    rw [Bool.and_eq_true] at h
    by_cases e : i = l + n + 1
    · subst e
      exact h.2
    · exact ih i h1 (by omega) h.1
theorem ab_allq_ok {es : List ab_V} {V : ab_V} {l n i : Nat} (h1 : l ≤ i) (h2 : i ≤ l + n) (h : ab_allq es V l n = true) : ab_le V (ab_el es i) = true := by
  unfold ab_allq at h
  split at h
  · rename_i e
    rw [ab_el_1 e i]
    exact h
  · exact ab_all_ok n i h1 h2 h
/-- a field -/
def ab_gf (T : ab_T) (M : mj_M) (idx : Nat) (A : List ab_V) : Option (List ab_V) := match mj_ent M idx, A with
  | some (_, kd, ci, k), (kk, t, _, _) :: r => match T[t.toNat]? with
    | some (tag, len, es) => if kd ≤ 1 ∧ kk = 2 ∧ tag = ci ∧ ci < 11 ∧ k < len then some (((ab_el es k).1, (ab_el es k).2.1, (ab_el es k).2.2.1, 0) :: r) else none
    | none => none
  | _, _ => none
theorem ab_gf_ok {ty : List Nat} {T : ab_T} {lv : mj_L} {h : mj_H} {M : mj_M} {idx : Nat} {A A' : List ab_V} {st : List Value} (hH : ab_H ty T h) (hg : ab_gf T M idx A = some A') (hs : ab_st ty lv A st) : ∃ st', mj_gf M idx st h = some st' ∧ ab_st ty lv A' st' := by
  unfold ab_gf at hg
  split at hg
  · rename_i z kd ci k kk t z1 z2 r he
    split at hg
    · rename_i tag len es hT
      split at hg
      · rename_i hc
        obtain ⟨c1, rfl, rfl, c4, c5⟩ := hc
        cases hg
        obtain ⟨v, r0, rfl, s1, hs1⟩ := ab_st_cons hs
        obtain ⟨a, rfl, ha⟩ := ab_s_2 s1
        obtain ⟨tag', len', es', xs, g1, g2, g3, g4⟩ := hH.2 a _ ha
        rw [hT] at g1
        cases g1
        have hv : xs[k]? = some xs[k] := List.getElem?_eq_getElem (by omega)
        refine ⟨xs[k] :: r0, ?_, ab_s_of (g4 k _ hv), hs1⟩
        unfold mj_gf
        rw [he]
        dsimp only
        rw [if_pos c1, g2]
        dsimp only
        rw [if_pos ⟨rfl, c4⟩, hv]
      · cases hg
    · cases hg
  · cases hg
/-- an int or a truth into a field -/
def ab_pf (T : ab_T) (M : mj_M) (idx : Nat) (A : List ab_V) : Option (List ab_V) := match mj_ent M idx, A with
  | some (_, kd, ci, k), (k0, l0, u0, _) :: (kk, t, _, _) :: r => match T[t.toNat]? with
    | some (tag, len, es) => if kd ≤ 1 ∧ kk = 2 ∧ tag = ci ∧ ci < 11 ∧ k < len ∧ k0 = 0 ∧ mj_fin ci k = false ∧ (mj_ty ci k = .int ∨ (mj_ty ci k = .boolean ∧ 0 ≤ l0 ∧ u0 ≤ 1)) ∧ ab_le (0, l0, u0, 0) (ab_el es k) = true then some r else none
    | none => none
  | _, _ => none
theorem ab_01 {x : Int32} (h1 : 0 ≤ x.toInt) (h2 : x.toInt ≤ 1) : x = 0 ∨ x = 1 := by
  by_cases h : x.toInt = 0
  · exact Or.inl (Int32.toInt_inj.mp (by rw [h]; decide))
  · exact Or.inr (Int32.toInt_inj.mp (by rw [show (1 : Int32).toInt = 1 by decide]; omega))
theorem ab_pf_ok {ty : List Nat} {T : ab_T} {lv : mj_L} {h : mj_H} {M : mj_M} {idx : Nat} {A A' : List ab_V} {st : List Value} (hH : ab_H ty T h) (hg : ab_pf T M idx A = some A') (hs : ab_st ty lv A st) : ∃ st' h', mj_pf M idx st h = some (st', h') ∧ ab_st ty lv A' st' ∧ ab_H ty T h' := by
  unfold ab_pf at hg
  split at hg
  · rename_i z kd ci k k0 l0 u0 z0 kk t z1 z2 r he
    split at hg
    · rename_i tag len es hT
      split at hg
      · rename_i hc
        obtain ⟨c1, rfl, rfl, c4, c5, rfl, c7, c8, c9⟩ := hc
        cases hg
        obtain ⟨v, r0, rfl, s1, hs1⟩ := ab_st_cons hs
        obtain ⟨w, r1, rfl, s2, hs2⟩ := ab_st_cons hs1
        obtain ⟨x, rfl, hx, -⟩ := ab_s_0 s1
        obtain ⟨a, rfl, ha⟩ := ab_s_2 s2
        obtain ⟨tag', len', es', xs, g1, g2, g3, g4⟩ := hH.2 a _ ha
        rw [hT] at g1
        cases g1
        refine ⟨r1, h.set a (tag, xs.set k (.int x)), ?_, hs2, hH.set ha hT g2 (ab_le_ok c9 (Or.inl ⟨rfl, x, rfl, hx⟩))⟩
        have hn : narrow (mj_ty tag k) (.int x) = .int x ∧ fits (mj_ty tag k) (.int x) = true := by
          rcases c8 with c8 | ⟨c8, c81, c82⟩
          · rw [c8]; exact ⟨rfl, rfl⟩
          · rw [c8]
            obtain ⟨a1, b1⟩ := hx
            simp only at a1 b1
            rcases ab_01 (x := x) (by omega) (by omega) with rfl | rfl
            · exact ⟨by decide, by decide⟩
            · exact ⟨by decide, by decide⟩
        unfold mj_pf
        rw [he]
        dsimp only
        rw [if_pos c1, g2]
        dsimp only
        rw [if_pos ⟨rfl, c4, by omega, hn.1, hn.2, Or.inl c7⟩]
      · cases hg
    · cases hg
  · cases hg
/-- an element of an array of kind tg -/
def ab_ald (T : ab_T) (tg : Nat) (A : List ab_V) : Option (List ab_V) := match A with
  | (k, l, u, _) :: (kk, t, _, _) :: r => match T[t.toNat]? with
    | some (tag, len, es) => if k = 0 ∧ kk = 2 ∧ tag = tg ∧ 0 ≤ l ∧ u < len ∧ (ab_rngq es l.toNat (u - l).toNat).1 ≤ 2 then some (((ab_rngq es l.toNat (u - l).toNat).1, (ab_rngq es l.toNat (u - l).toNat).2.1, (ab_rngq es l.toNat (u - l).toNat).2.2.1, 0) :: r) else none
    | none => none
  | _ => none
theorem ab_ald_ok {ty : List Nat} {T : ab_T} {lv : mj_L} {h : mj_H} {tg : Nat} {A A' : List ab_V} {st : List Value} {sc : Option (List Int32)} (hH : ab_H ty T h) (hg : ab_ald T tg A = some A') (hs : ab_st ty lv A st) : ∃ st', mj_ald tg sc st h = some st' ∧ ab_st ty lv A' st' := by
  unfold ab_ald at hg
  split at hg
  · rename_i k l u z kk t z1 z2 r
    split at hg
    · rename_i tag len es hT
      split at hg
      · rename_i hc
        obtain ⟨rfl, rfl, rfl, c4, c5, c6⟩ := hc
        cases hg
        obtain ⟨v, r0, rfl, s1, hs1⟩ := ab_st_cons hs
        obtain ⟨w, r1, rfl, s2, hs2⟩ := ab_st_cons hs1
        obtain ⟨j, rfl, hj, -⟩ := ab_s_0 s1
        obtain ⟨a, rfl, ha⟩ := ab_s_2 s2
        obtain ⟨tag', len', es', xs, g1, g2, g3, g4⟩ := hH.2 a _ ha
        rw [hT] at g1
        cases g1
        obtain ⟨a1, b1⟩ := hj
        simp only at a1 b1
        have hj0 : ¬ j < 0 := fun q => by
          have := Int32.lt_iff_toInt_lt.mp q
          rw [show (0 : Int32).toInt = 0 by decide] at this
          omega
        have hjn := mj_nn j hj0
        have hv : xs[j.toNatClampNeg]? = some (xs[j.toNatClampNeg]'(by omega)) := List.getElem?_eq_getElem (by omega)
        refine ⟨xs[j.toNatClampNeg]'(by omega) :: r1, ?_, ab_s_of (ab_rngq_ok (i := j.toNatClampNeg) (by omega) (by omega) (by omega) (g4 _ _ hv)), hs2⟩
        unfold mj_ald
        dsimp only
        rw [g2]
        dsimp only
        rw [if_pos ⟨rfl, hj0⟩, hv]
      · cases hg
    · cases hg
  · cases hg
/-- an int into an array of kind tg: 100, or truths into 102 -/
def ab_ast (T : ab_T) (tg : Nat) (A : List ab_V) : Option (List ab_V) := match A with
  | (k0, l0, u0, _) :: (k, l, u, _) :: (kk, t, _, _) :: r => match T[t.toNat]? with
    | some (tag, len, es) => if k0 = 0 ∧ k = 0 ∧ kk = 2 ∧ tag = tg ∧ 0 ≤ l ∧ u < len ∧ (tg = 100 ∨ (tg = 102 ∧ 0 ≤ l0 ∧ u0 ≤ 1)) ∧ ab_allq es (0, l0, u0, 0) l.toNat (u - l).toNat = true then some r else none
    | none => none
  | _ => none
theorem ab_ast_ok {ty : List Nat} {T : ab_T} {lv : mj_L} {h : mj_H} {tg : Nat} {A A' : List ab_V} {st : List Value} (hH : ab_H ty T h) (hg : ab_ast T tg A = some A') (hs : ab_st ty lv A st) : ∃ st' h', mj_ast tg st h = some (st', h') ∧ ab_st ty lv A' st' ∧ ab_H ty T h' := by
  unfold ab_ast at hg
  split at hg
  · rename_i k0 l0 u0 z0 k l u z kk t z1 z2 r
    split at hg
    · rename_i tag len es hT
      split at hg
      · rename_i hc
        obtain ⟨rfl, rfl, rfl, rfl, c4, c5, c6, c7⟩ := hc
        cases hg
        obtain ⟨v0, r9, rfl, s0, hs0⟩ := ab_st_cons hs
        obtain ⟨v, r0, rfl, s1, hs1⟩ := ab_st_cons hs0
        obtain ⟨w, r1, rfl, s2, hs2⟩ := ab_st_cons hs1
        obtain ⟨x, rfl, hx, -⟩ := ab_s_0 s0
        obtain ⟨j, rfl, hj, -⟩ := ab_s_0 s1
        obtain ⟨a, rfl, ha⟩ := ab_s_2 s2
        obtain ⟨tag', len', es', xs, g1, g2, g3, g4⟩ := hH.2 a _ ha
        rw [hT] at g1
        cases g1
        obtain ⟨a1, b1⟩ := hj
        simp only at a1 b1
        have hj0 : ¬ j < 0 := fun q => by
          have := Int32.lt_iff_toInt_lt.mp q
          rw [show (0 : Int32).toInt = 0 by decide] at this
          omega
        have hjn := mj_nn j hj0
        have hnar : narrow (mj_elt tag) (.int x) = .int x := by
          rcases c6 with rfl | ⟨rfl, c61, c62⟩
          · rfl
          · obtain ⟨a2, b2⟩ := hx
            simp only at a2 b2
            rcases ab_01 (x := x) (by omega) (by omega) with rfl | rfl <;> decide
        refine ⟨r1, h.set a (tag, xs.set j.toNatClampNeg (.int x)), ?_, hs2, hH.set ha hT g2 (ab_le_ok (ab_allq_ok (i := j.toNatClampNeg) (by omega) (by omega) c7) (Or.inl ⟨rfl, x, rfl, hx⟩))⟩
        unfold mj_ast
        dsimp only
        rw [g2]
        dsimp only
        rw [if_pos ⟨rfl, hj0, by omega⟩, hnar]
      · cases hg
    · cases hg
  · cases hg
