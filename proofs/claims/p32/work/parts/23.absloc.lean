/-! ABSTRACT LOCALS -/
theorem mj_find_filter {P : Nat × Value → Bool} {j : Nat} {w : Value} (hP : P (j, w) = true) : ∀ lv : mj_L, mj_get lv j = some w → mj_get (lv.filter P) j = some w := by
  intro lv
  induction lv with
  | nil => intro h; cases h
  | cons q lv ih =>
    intro h
    obtain ⟨i, v⟩ := q
    by_cases e : i = j
    · subst e
      have hv : v = w := by simpa [mj_get] using h
      subst hv
      rw [List.filter_cons, if_pos hP]
      simp [mj_get]
    · have h2 : mj_get lv j = some w := by
        simp only [mj_get, List.find?_cons] at h ⊢
        rw [show ((i, v).1 == j) = false by simpa using e] at h
        exact h
      rw [List.filter_cons]
      split
      · simp only [mj_get, List.find?_cons]
        rw [show ((i, v).1 == j) = false by simpa using e]
        exact ih h2
      · exact ih h2
theorem mj_get_cons_ne {lv : mj_L} {i j : Nat} {v : Value} (h : j ≠ i) : mj_get ((i, v) :: lv) j = mj_get lv j := by
  simp only [mj_get, List.find?_cons]
  rw [show ((i, v).1 == j) = false by simpa using (Ne.symm h)]
theorem mj_get_self {lv : mj_L} {i : Nat} {v : Value} : mj_get ((i, v) :: lv) i = some v := by simp [mj_get]
theorem mj_get_put1 {lv : mj_L} {i j : Nat} {v w : Value} (hj : j ≠ i) (hw : mj_get lv j = some w) (hc : j + 1 ≠ i ∨ w.category = 1) : mj_get (mj_put1 lv i v) j = some w := by
  unfold mj_put1
  rw [mj_get_cons_ne hj]
  refine mj_find_filter ?_ lv hw
  rcases hc with hc | hc
  · simp [hj, hc]
  · simp [hj, hc]
theorem mj_get_put2 {lv : mj_L} {i j : Nat} {v w : Value} (hj : j ≠ i) (hj2 : j ≠ i + 1) (hw : mj_get lv j = some w) (hc : j + 1 ≠ i ∨ w.category = 1) : mj_get (mj_put2 lv i v) j = some w := by
  unfold mj_put2
  rw [mj_get_cons_ne hj]
  refine mj_find_filter ?_ lv hw
  rcases hc with hc | hc
  · simp [hj, hj2, hc]
  · simp [hj, hj2, hc]
/-- keys alone are filtered -/
theorem ab_get_filter (K : Nat → Bool) (j : Nat) : ∀ al : ab_L, ab_get (al.filter (fun q => K q.1)) j = if K j = true then ab_get al j else none := by
  intro al
  induction al with
  | nil => split <;> rfl
  | cons q al ih =>
    obtain ⟨i, V⟩ := q
    rw [List.filter_cons]
    by_cases e : i = j
    · subst e
      dsimp only
      split
      · simp [ab_get]
      · rename_i hk
        rw [ih, if_neg hk]
    · have h1 : ∀ l : ab_L, ab_get ((i, V) :: l) j = ab_get l j := fun l => by
        simp only [ab_get, List.find?_cons]
        rw [show ((i, V).1 == j) = false by simpa using e]
      split
      · rw [h1, ih, h1]
      · rw [ih, h1]
theorem ab_get_cons_ne {al : ab_L} {i j : Nat} {V : ab_V} (h : j ≠ i) : ab_get ((i, V) :: al) j = ab_get al j := by
  simp only [ab_get, List.find?_cons]
  rw [show ((i, V).1 == j) = false by simpa using (Ne.symm h)]
theorem ab_get_self {al : ab_L} {i : Nat} {V : ab_V} : ab_get ((i, V) :: al) i = some V := by simp [ab_get]
/-- is the local below i a long -/
def ab_lg (al : ab_L) (i : Nat) : Bool := match ab_get al (i - 1) with
  | some V => V.1 == 1
  | none => false
def ab_put1 (al : ab_L) (i : Nat) (V : ab_V) : ab_L := (i, V) :: al.filter (fun q => !(q.1 == i) && !(q.1 + 1 == i && ab_lg al i))
def ab_put2 (al : ab_L) (i : Nat) (V : ab_V) : ab_L := (i, V) :: al.filter (fun q => !(q.1 == i) && (!(q.1 == i + 1) && !(q.1 + 1 == i && ab_lg al i)))
theorem ab_m_cat {ty : List Nat} {V : ab_V} {v : Value} (h : ab_m ty V v) (hk : ¬ V.1 = 1) : v.category = 1 := by
  rcases h with ⟨-, x, rfl, -⟩ | ⟨h, -⟩ | ⟨-, x, rfl, -⟩
  · rfl
  · exact absurd h hk
  · rfl
theorem ab_l_put1 {ty : List Nat} {al : ab_L} {lv : mj_L} {i : Nat} {V : ab_V} {v : Value} (hl : ab_l ty al lv) (hv : ab_m ty V v) : ab_l ty (ab_put1 al i V) (mj_put1 lv i v) := by
  intro j W h
  by_cases e : j = i
  · subst e
    unfold ab_put1 at h
    rw [ab_get_self] at h
    cases h
    exact ⟨v, mj_get_self, hv⟩
  · unfold ab_put1 at h
    rw [ab_get_cons_ne e, ab_get_filter (fun k => !(k == i) && !(k + 1 == i && ab_lg al i))] at h
    split at h
    · rename_i hk
      obtain ⟨w, h1, h2⟩ := hl j W h
      refine ⟨w, mj_get_put1 e h1 ?_, h2⟩
      by_cases e2 : j + 1 = i
      · refine Or.inr (ab_m_cat h2 ?_)
        subst e2
        simp only [ab_lg, Nat.add_sub_cancel, h] at hk
        simpa using hk
      · exact Or.inl e2
    · cases h
theorem ab_l_put2 {ty : List Nat} {al : ab_L} {lv : mj_L} {i : Nat} {V : ab_V} {v : Value} (hl : ab_l ty al lv) (hv : ab_m ty V v) : ab_l ty (ab_put2 al i V) (mj_put2 lv i v) := by
  intro j W h
  by_cases e : j = i
  · subst e
    unfold ab_put2 at h
    rw [ab_get_self] at h
    cases h
    exact ⟨v, mj_get_self, hv⟩
  · unfold ab_put2 at h
    rw [ab_get_cons_ne e, ab_get_filter (fun k => !(k == i) && (!(k == i + 1) && !(k + 1 == i && ab_lg al i)))] at h
    split at h
    · rename_i hk
      obtain ⟨w, h1, h2⟩ := hl j W h
      have e3 : j ≠ i + 1 := by
        intro q
        subst q
        simp at hk
      refine ⟨w, mj_get_put2 e e3 h1 ?_, h2⟩
      by_cases e2 : j + 1 = i
      · refine Or.inr (ab_m_cat h2 ?_)
        subst e2
        simp only [ab_lg, Nat.add_sub_cancel, h] at hk
        have := hk
        simp at this
        simpa using this.2
      · exact Or.inl e2
    · cases h
/-- origins that a store makes wrong are forgotten -/
def ab_clr (bad : List Nat) : List ab_V → Option (List ab_V)
  | [] => some []
  | V :: r => match ab_clr bad r with
    | some r' => if V.2.2.2 ∈ bad then (if V.1 = 4 then none else some ((V.1, V.2.1, V.2.2.1, 0) :: r')) else some (V :: r')
    | none => none
theorem ab_clr_ok {ty : List Nat} {lv lv' : mj_L} {bad : List Nat} (hb : ∀ o u, o ≠ 0 → o ∉ bad → mj_get lv (o - 1) = some u → mj_get lv' (o - 1) = some u) : ∀ (A A' : List ab_V) (st : List Value), ab_clr bad A = some A' → ab_st ty lv A st → ab_st ty lv' A' st := by
  intro A
  induction A with
  | nil =>
    intro A' st h hs
    cases h
    cases st with
    | nil => trivial
    | cons v r => exact absurd hs (by simp [ab_st])
  | cons V A ih =>
    intro A' st h hs
    obtain ⟨v, r, rfl, s1, hs1⟩ := ab_st_cons hs
    unfold ab_clr at h
    split at h
    · rename_i r' e
      have h2 := ih r' r e hs1
      split at h
      · split at h
        · cases h
        · rename_i hk
          cases h
          refine ⟨Or.inr ⟨?_, Or.inl rfl⟩, h2⟩
          rcases s1 with ⟨q, -⟩ | ⟨q, -⟩
          · exact absurd q hk
          · exact q
      · rename_i hnb
        cases h
        refine ⟨?_, h2⟩
        rcases s1 with ⟨q1, q2, x, y, u, q3, q4, q5⟩ | ⟨q, q2⟩
        · exact Or.inl ⟨q1, q2, x, y, u, q3, hb _ _ q2 hnb q4, q5⟩
        · refine Or.inr ⟨q, ?_⟩
          rcases q2 with q2 | ⟨u, z, e1, e2, e3⟩
          · exact Or.inl q2
          · by_cases ho : V.2.2.2 = 0
            · exact Or.inl ho
            · exact Or.inr ⟨u, z, hb _ _ ho hnb e1, e2, e3⟩
    · cases h
def ab_lo1 (i len want kd : Nat) (al : ab_L) (A : List ab_V) : Option (ab_L × List ab_V) :=
  if len = want then match ab_get al i with
    | some (k, l, u, _) => if k = kd then some (al, (k, l, u, if kd = 2 then 0 else i + 1) :: A) else none
    | none => none
  else none
def ab_st1 (i n len want kd : Nat) (al : ab_L) (A : List ab_V) : Option (ab_L × List ab_V) :=
  if len = want ∧ i < n then match A with
    | (k, l, u, _) :: r => if k = kd then match ab_clr [i + 1, i] r with
      | some r' => some (ab_put1 al i (k, l, u, 0), r')
      | none => none
      else none
    | _ => none
  else none
/-- bounds, and how much the local has grown (1000000 and that; 0: not known), behind iinc -/
def ab_inc (l u : Int) (o : Nat) (d : Int) : ab_V := (0, (ab_fit (ab_add (l, u) (d, d))).1, (ab_fit (ab_add (l, u) (d, d))).2, if o ≠ 0 ∧ -2147483648 ≤ l + d ∧ u + d ≤ 2147483647 then ((o : Int) + d).toNat else 0)
def ab_loc (ins : Instr) (len n : Nat) (al : ab_L) (A : List ab_V) : Option (ab_L × List ab_V) := match ins with
  | .iload_n k => ab_lo1 k len 1 0 al A
  | .iload i => ab_lo1 i len 2 0 al A
  | .lload_n k => ab_lo1 k len 1 1 al A
  | .lload i => ab_lo1 i len 2 1 al A
  | .aload_n k => ab_lo1 k len 1 2 al A
  | .aload i => ab_lo1 i len 2 2 al A
  | .istore_n k => ab_st1 k n len 1 0 al A
  | .istore i => ab_st1 i n len 2 0 al A
  | .astore_n k => ab_st1 k n len 1 2 al A
  | .astore i => ab_st1 i n len 2 2 al A
  | .lstore_n k => if len = 1 ∧ (k : Nat) + 1 < n then match A with
    | (kd, l, u, _) :: r => if kd = 1 then match ab_clr [(k : Nat) + 2, (k : Nat) + 1, (k : Nat)] r with
      | some r' => some (ab_put2 al k (1, l, u, 0), r')
      | none => none
      else none
    | _ => none
    else none
  | .iinc i d => if len = 3 ∧ i < n then match ab_get al i with
    | some (k, l, u, o) => if k = 0 then match ab_clr [i + 1, i] A with
      | some A' => some (ab_put1 al i (ab_inc l u o (Int32.ofInt d).toInt), A')
      | none => none
      else none
    | none => none
    else none
  | _ => none
theorem ab_m_0 {ty : List Nat} {l u : Int} {o : Nat} {v : Value} (h : ab_m ty (0, l, u, o) v) : ∃ x : Int32, v = .int x ∧ ab_i (l, u) x.toInt := by
  rcases h with ⟨-, h⟩ | ⟨h, -⟩ | ⟨h, -⟩
  · exact h
  · simp at h
  · simp at h
theorem ab_m_1 {ty : List Nat} {l u : Int} {o : Nat} {v : Value} (h : ab_m ty (1, l, u, o) v) : ∃ x : Int64, v = .long x ∧ ab_i (l, u) x.toInt := by
  rcases h with ⟨h, -⟩ | ⟨-, h⟩ | ⟨h, -⟩
  · simp at h
  · exact h
  · simp at h
theorem ab_m_2 {ty : List Nat} {l u : Int} {o : Nat} {v : Value} (h : ab_m ty (2, l, u, o) v) : ∃ a : Nat, v = .ref a ∧ ty[a]? = some l.toNat := by
  rcases h with ⟨h, -⟩ | ⟨h, -⟩ | ⟨-, h⟩
  · simp at h
  · simp at h
  · exact h
theorem ab_lo1_ok {ty : List Nat} {lv : mj_L} {i n len want kd : Nat} {al al' : ab_L} {A A' : List ab_V} {st : List Value} {ok : Value → Bool} (hok : ∀ l u o v, ab_m ty (kd, l, u, o) v → ok v = true) (hkd : kd = 0 ∨ kd = 1 ∨ kd = 2) (h : ab_lo1 i len want kd al A = some (al', A')) (hl : ab_l ty al lv) (hs : ab_st ty lv A st) : ∃ st', mj_lo1 i n len want lv st ok = some (lv, st') ∧ ab_l ty al' lv ∧ ab_st ty lv A' st' := by
  unfold ab_lo1 at h
  split at h
  · rename_i hlen
    split at h
    · rename_i k l u o e
      split at h
      · rename_i hk
        subst hk
        cases h
        obtain ⟨v, h1, h2⟩ := hl _ _ e
        refine ⟨v :: st, ?_, hl, Or.inr ⟨?_, ?_⟩, hs⟩
        · unfold mj_lo1
          rw [if_pos hlen, h1]
          dsimp only
          rw [if_pos (hok _ _ _ _ h2)]
        · rcases h2 with q | q | q
          · exact Or.inl q
          · exact Or.inr (Or.inl q)
          · exact Or.inr (Or.inr q)
        · dsimp only
          split
          · exact Or.inl rfl
          · rename_i h3
            have hz : ∃ z, ab_num v = some z := by
              rcases hkd with rfl | rfl | rfl
              · obtain ⟨x, rfl, -⟩ := ab_m_0 h2; exact ⟨_, rfl⟩
              · obtain ⟨x, rfl, -⟩ := ab_m_1 h2; exact ⟨_, rfl⟩
              · exact absurd rfl h3
            obtain ⟨z, hz⟩ := hz
            exact Or.inr ⟨v, z, h1, hz, hz⟩
      · cases h
    · cases h
  · cases h
theorem ab_st1_ok {ty : List Nat} {lv : mj_L} {i n len want kd : Nat} {al al' : ab_L} {A A' : List ab_V} {st : List Value} {ok : Value → Bool} (hok : ∀ l u o v, ab_m ty (kd, l, u, o) v → ok v = true) (hkd : kd = 0 ∨ kd = 1 ∨ kd = 2) (h : ab_st1 i n len want kd al A = some (al', A')) (hl : ab_l ty al lv) (hs : ab_st ty lv A st) : ∃ lv' st', mj_st1 i n len want lv st ok = some (lv', st') ∧ ab_l ty al' lv' ∧ ab_st ty lv' A' st' := by
  unfold ab_st1 at h
  split at h
  · rename_i hlen
    split at h
    · rename_i k l u o r
      split at h
      · rename_i hk
        subst hk
        split at h
        · rename_i r' e
          cases h
          obtain ⟨v, r0, rfl, s1, hs1⟩ := ab_st_cons hs
          have hm : ab_m ty (k, l, u, o) v := by
            rcases s1 with ⟨q, -⟩ | ⟨q, -⟩
            · dsimp only at q; omega
            · exact q
          have hm2 : ab_m ty (k, l, u, 0) v := by
            rcases hm with q | q | q
            · exact Or.inl q
            · exact Or.inr (Or.inl q)
            · exact Or.inr (Or.inr q)
          refine ⟨mj_put1 lv i v, r0, ?_, ab_l_put1 hl hm2, ab_clr_ok (fun o u ho hn hu => ?_) _ _ _ e hs1⟩
          · unfold mj_st1
            rw [if_pos hlen]
            dsimp only
            rw [if_pos (hok _ _ _ _ hm)]
          · simp at hn
            exact mj_get_put1 (by omega) hu (Or.inl (by omega))
        · cases h
      · cases h
    · cases h
  · cases h
set_option maxHeartbeats 2000000 in
theorem ab_loc_ok {ty : List Nat} {lv : mj_L} {ins : Instr} {len n : Nat} {al al' : ab_L} {A A' : List ab_V} {st : List Value} (h : ab_loc ins len n al A = some (al', A')) (hl : ab_l ty al lv) (hs : ab_st ty lv A st) : ∃ lv' st', mj_loc ins len n lv st = some (lv', st') ∧ ab_l ty al' lv' ∧ ab_st ty lv' A' st' := by
  have k0 : ∀ l u o v, ab_m ty (0, l, u, o) v → mj_isI v = true := fun l u o v q => by obtain ⟨x, rfl, -⟩ := ab_m_0 q; rfl
  have k1 : ∀ l u o v, ab_m ty (1, l, u, o) v → mj_isL v = true := fun l u o v q => by obtain ⟨x, rfl, -⟩ := ab_m_1 q; rfl
  have k2 : ∀ l u o v, ab_m ty (2, l, u, o) v → mj_isA v = true := fun l u o v q => by obtain ⟨x, rfl, -⟩ := ab_m_2 q; rfl
  have k3 : ∀ l u o v, ab_m ty (2, l, u, o) v → mj_isR v = true := fun l u o v q => by obtain ⟨x, rfl, -⟩ := ab_m_2 q; rfl
  cases ins with
  | iload_n i => simp only [ab_loc] at h; obtain ⟨st', e⟩ := ab_lo1_ok (n := n) k0 (by omega) h hl hs; exact ⟨lv, st', e⟩
  | iload i => simp only [ab_loc] at h; obtain ⟨st', e⟩ := ab_lo1_ok (n := n) k0 (by omega) h hl hs; exact ⟨lv, st', e⟩
  | lload_n i => simp only [ab_loc] at h; obtain ⟨st', e⟩ := ab_lo1_ok (n := n) k1 (by omega) h hl hs; exact ⟨lv, st', e⟩
  | lload i => simp only [ab_loc] at h; obtain ⟨st', e⟩ := ab_lo1_ok (n := n) k1 (by omega) h hl hs; exact ⟨lv, st', e⟩
  | aload_n i => simp only [ab_loc] at h; obtain ⟨st', e⟩ := ab_lo1_ok (n := n) k2 (by omega) h hl hs; exact ⟨lv, st', e⟩
  | aload i => simp only [ab_loc] at h; obtain ⟨st', e⟩ := ab_lo1_ok (n := n) k2 (by omega) h hl hs; exact ⟨lv, st', e⟩
  | istore_n i => simp only [ab_loc] at h; exact ab_st1_ok k0 (by omega) h hl hs
  | istore i => simp only [ab_loc] at h; exact ab_st1_ok k0 (by omega) h hl hs
  | astore_n i => simp only [ab_loc] at h; exact ab_st1_ok k3 (by omega) h hl hs
  | astore i => simp only [ab_loc] at h; exact ab_st1_ok k3 (by omega) h hl hs
  | lstore_n i =>
    simp only [ab_loc] at h
    split at h
    · rename_i hlen
      split at h
      · rename_i kd l u o r
        split at h
        · rename_i hk
          subst hk
          split at h
          · rename_i r' e
            cases h
            obtain ⟨v, r0, rfl, s1, hs1⟩ := ab_st_cons hs
            obtain ⟨x, rfl, hx, -⟩ := ab_s_1 s1
            refine ⟨mj_put2 lv i (.long x), r0, ?_, ab_l_put2 hl (Or.inr (Or.inl ⟨rfl, x, rfl, hx⟩)), ab_clr_ok (fun o u ho hn hu => ?_) _ _ _ e hs1⟩
            · simp only [mj_loc]
              rw [if_pos hlen]
            · simp at hn
              exact mj_get_put2 (by omega) (by omega) hu (Or.inl (by omega))
          · cases h
        · cases h
      · cases h
    · cases h
  | iinc i d =>
    simp only [ab_loc] at h
    split at h
    · rename_i hlen
      split at h
      · rename_i k l u o e0
        split at h
        · rename_i hk
          subst hk
          split at h
          · rename_i A0 e
            cases h
            obtain ⟨v, h1, h2⟩ := hl _ _ e0
            obtain ⟨x, rfl, hx⟩ := ab_m_0 h2
            refine ⟨mj_put1 lv i (.int (x + Int32.ofInt d)), st, ?_, ab_l_put1 hl (Or.inl ⟨rfl, _, rfl, ab_fit_ok (Int32.toInt_add x (Int32.ofInt d)) (ab_add_ok hx ⟨Int.le_refl _, Int.le_refl _⟩)⟩), ab_clr_ok (fun o u ho hn hu => ?_) _ _ _ e hs⟩
            · simp only [mj_loc]
              rw [if_pos hlen, h1]
            · simp at hn
              exact mj_get_put1 (by omega) hu (Or.inl (by omega))
          · cases h
        · cases h
      · cases h
    · cases h
  | _ => exact absurd (show (none : Option (ab_L × List ab_V)) = some (al', A') from h) (by simp)
