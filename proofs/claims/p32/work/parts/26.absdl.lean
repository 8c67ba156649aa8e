/-! HOW LOCALS HAVE GROWN since a cut -/
def ab_dl (lv0 : mj_L) (al : ab_L) (lv : mj_L) : Prop := ∀ (i : Nat) (V : ab_V), ab_get al i = some V → V.2.2.2 ≠ 0 → ∃ u0 z0 u z, mj_get lv0 i = some u0 ∧ ab_num u0 = some z0 ∧ mj_get lv i = some u ∧ ab_num u = some z ∧ z = z0 + ((V.2.2.2 : Int) - 1000000)
theorem ab_dl_put1 {lv0 : mj_L} {al : ab_L} {lv : mj_L} {i : Nat} {V : ab_V} {v : Value} {ty : List Nat} (hl : ab_l ty al lv) (hd : ab_dl lv0 al lv) (hv : V.2.2.2 ≠ 0 → ∃ u0 z0 z, mj_get lv0 i = some u0 ∧ ab_num u0 = some z0 ∧ ab_num v = some z ∧ z = z0 + ((V.2.2.2 : Int) - 1000000)) : ab_dl lv0 (ab_put1 al i V) (mj_put1 lv i v) := by
  intro j W h hW
  by_cases e : j = i
  · subst e
    unfold ab_put1 at h
    rw [ab_get_self] at h
    cases h
    obtain ⟨u0, z0, z, e1, e2, e3, e4⟩ := hv hW
    exact ⟨u0, z0, v, z, e1, e2, mj_get_self, e3, e4⟩
  · unfold ab_put1 at h
    rw [ab_get_cons_ne e, ab_get_filter (fun k => !(k == i) && !(k + 1 == i && ab_lg al i))] at h
    split at h
    · rename_i hk
      obtain ⟨u0, z0, u, z, e1, e2, e3, e4, e5⟩ := hd j W h hW
      obtain ⟨w, h1, h2⟩ := hl j W h
      rw [e3] at h1
      cases h1
      refine ⟨u0, z0, u, z, e1, e2, mj_get_put1 e e3 ?_, e4, e5⟩
      by_cases e2 : j + 1 = i
      · refine Or.inr (ab_m_cat h2 ?_)
        subst e2
        simp only [ab_lg, Nat.add_sub_cancel, h] at hk
        simpa using hk
      · exact Or.inl e2
    · cases h
theorem ab_dl_put2 {lv0 : mj_L} {al : ab_L} {lv : mj_L} {i : Nat} {V : ab_V} {v : Value} {ty : List Nat} (hl : ab_l ty al lv) (hd : ab_dl lv0 al lv) (hv : V.2.2.2 = 0) : ab_dl lv0 (ab_put2 al i V) (mj_put2 lv i v) := by
  intro j W h hW
  by_cases e : j = i
  · subst e
    unfold ab_put2 at h
    rw [ab_get_self] at h
    cases h
    exact absurd hv hW
  · unfold ab_put2 at h
    rw [ab_get_cons_ne e, ab_get_filter (fun k => !(k == i) && (!(k == i + 1) && !(k + 1 == i && ab_lg al i)))] at h
    split at h
    · rename_i hk
      obtain ⟨u0, z0, u, z, e1, e2, e3, e4, e5⟩ := hd j W h hW
      obtain ⟨w, h1, h2⟩ := hl j W h
      rw [e3] at h1
      cases h1
      have e9 : j ≠ i + 1 := by
        intro q
        subst q
        simp at hk
      refine ⟨u0, z0, u, z, e1, e2, mj_get_put2 e e9 e3 ?_, e4, e5⟩
      by_cases e2 : j + 1 = i
      · refine Or.inr (ab_m_cat h2 ?_)
        subst e2
        simp only [ab_lg, Nat.add_sub_cancel, h] at hk
        have := hk
        simp at this
        simpa using this.2
      · exact Or.inl e2
    · cases h
theorem ab_dl_upd {lv0 : mj_L} {al : ab_L} {lv : mj_L} {o : Nat} {p : ab_I} (hd : ab_dl lv0 al lv) : ab_dl lv0 (ab_upd al o p) lv := by
  unfold ab_upd
  split
  · exact hd
  · intro j V h hV
    rw [ab_get_map _ (fun q => by split <;> rfl)] at h
    obtain ⟨q, h1, h2⟩ := Option.map_eq_some_iff.mp h
    have hg : ab_get al j = some q.2 := by
      unfold ab_get
      rw [h1]
      rfl
    have ho : V.2.2.2 = q.2.2.2.2 := by
      split at h2 <;> rw [← h2]
    obtain ⟨u0, z0, u, z, e⟩ := hd j q.2 hg (by rw [← ho]; exact hV)
    exact ⟨u0, z0, u, z, by rw [ho]; exact e⟩
theorem ab_way_dl {lv0 lv : mj_L} {pc : Nat} {al : ab_L} {o1 o2 : Nat} {pq : ab_I × ab_I} {A : List ab_V} (hd : ab_dl lv0 al lv) : ∀ w ∈ ab_way pc al o1 o2 pq A, ab_dl lv0 w.2.1 lv := by
  intro w hw
  unfold ab_way at hw
  split at hw
  · rw [List.mem_singleton.mp hw]
    exact ab_dl_upd (ab_dl_upd hd)
  · cases hw
theorem ab_two_dl {lv0 lv : mj_L} {c : ClassFile.Cond} {t pc : Nat} {al : ab_L} {o1 o2 : Nat} {p q : ab_I} {A : List ab_V} (hd : ab_dl lv0 al lv) : ∀ w ∈ ab_two c t pc al o1 o2 p q A, ab_dl lv0 w.2.1 lv := by
  intro w hw
  rcases List.mem_append.mp hw with h | h
  · exact ab_way_dl hd w h
  · exact ab_way_dl hd w h
theorem ab_cases_dl {lv0 lv : mj_L} {pc : Nat} {al : ab_L} {o : Nat} {p : ab_I} {A : List ab_V} (hd : ab_dl lv0 al lv) : ∀ (offs : List Int) (lo : Int) (ws : List (Nat × ab_L × List ab_V)), ab_cases lo offs pc al o p A = some ws → ∀ w ∈ ws, ab_dl lv0 w.2.1 lv := by
  intro offs
  induction offs with
  | nil => intro lo ws h w hw; cases h; cases hw
  | cons off r ih =>
    intro lo ws h w hw
    unfold ab_cases at h
    split at h
    · cases h
    · rename_i ws' e
      split at h
      · split at h
        · cases h
          rcases List.mem_cons.mp hw with rfl | hw
          · exact ab_dl_upd hd
          · exact ih _ _ e w hw
        · cases h
      · cases h
        exact ih _ _ e w hw
theorem ab_pairs_dl {lv0 lv : mj_L} {pc : Nat} {al : ab_L} {o : Nat} {A : List ab_V} (hd : ab_dl lv0 al lv) : ∀ (ps : List (Int × Int)) (ws : List (Nat × ab_L × List ab_V)), ab_pairs pc al o A ps = some ws → ∀ w ∈ ws, ab_dl lv0 w.2.1 lv := by
  intro ps
  induction ps with
  | nil => intro ws h w hw; cases h; cases hw
  | cons q ps ih =>
    intro ws h w hw
    obtain ⟨a, off⟩ := q
    simp only [ab_pairs] at h
    split at h
    · rename_i t ws' ht e
      cases h
      rcases List.mem_cons.mp hw with rfl | hw
      · exact ab_dl_upd hd
      · exact ih _ e w hw
    · cases h
theorem ab_br_dl {lv0 lv : mj_L} {ins : Instr} {len pc : Nat} {al : ab_L} {A : List ab_V} {ws : List (Nat × ab_L × List ab_V)} (h : ab_br ins len pc al A = some ws) (hd : ab_dl lv0 al lv) : ∀ w ∈ ws, ab_dl lv0 w.2.1 lv := by
  intro w hw
  cases ins with
  | goto off =>
    simp only [ab_br] at h
    split at h
    · cases ht : mj_to pc off with
      | none => rw [ht] at h; cases h
      | some t =>
        rw [ht] at h
        cases h
        rw [List.mem_singleton.mp hw]
        exact hd
    · cases h
  | ifCond c off =>
    simp only [ab_br] at h
    repeat' split at h
    all_goals first
      | (cases h; exact ab_two_dl hd w hw)
      | cases h
  | if_icmp c off =>
    simp only [ab_br] at h
    repeat' split at h
    all_goals first
      | (cases h; exact ab_two_dl hd w hw)
      | cases h
  | tableswitch d lo hi offs =>
    simp only [ab_br] at h
    split at h
    · split at h
      · split at h
        · rename_i t ws0 ht e
          cases h
          split at hw
          · exact ab_cases_dl hd _ _ _ e w hw
          · rcases List.mem_cons.mp hw with rfl | hw
            · exact hd
            · exact ab_cases_dl hd _ _ _ e w hw
        · cases h
      · cases h
    · cases h
  | lookupswitch d ps =>
    simp only [ab_br] at h
    split at h
    · split at h
      · split at h
        · rename_i t ws0 ht e
          cases h
          rcases List.mem_cons.mp hw with rfl | hw
          · exact hd
          · exact ab_pairs_dl hd _ _ e w hw
        · cases h
      · cases h
    · cases h
  | _ => exact absurd (show (none : Option (List (Nat × ab_L × List ab_V))) = some ws from h) (by simp)
theorem ab_lo1_al {i len want kd : Nat} {al al' : ab_L} {A A' : List ab_V} (h : ab_lo1 i len want kd al A = some (al', A')) : al' = al := by
  unfold ab_lo1 at h
  repeat' split at h
  all_goals first
    | (cases h; rfl)
    | cases h
theorem mj_lo1_lv {i n len want : Nat} {lv lv' : mj_L} {st st' : List Value} {ok : Value → Bool} (h : mj_lo1 i n len want lv st ok = some (lv', st')) : lv' = lv := (mj_lo1_inv h).2.1
theorem ab_st1_dl {ty : List Nat} {lv0 lv lv' : mj_L} {i n len want kd : Nat} {al al' : ab_L} {A A' : List ab_V} {st st' : List Value} {ok : Value → Bool} (h : ab_st1 i n len want kd al A = some (al', A')) (hl : ab_l ty al lv) (hd : ab_dl lv0 al lv) (hm : mj_st1 i n len want lv st ok = some (lv', st')) : ab_dl lv0 al' lv' := by
  obtain ⟨-, -, v, -, -, rfl⟩ := mj_st1_inv hm
  unfold ab_st1 at h
  repeat' split at h
  all_goals first
    | (cases h; exact ab_dl_put1 hl hd (fun q => absurd rfl q))
    | cases h
set_option maxHeartbeats 2000000 in
theorem ab_loc_dl {ty : List Nat} {lv0 lv lv' : mj_L} {ins : Instr} {len n : Nat} {al al' : ab_L} {A A' : List ab_V} {st st' : List Value} (h : ab_loc ins len n al A = some (al', A')) (hl : ab_l ty al lv) (hd : ab_dl lv0 al lv) (hm : mj_loc ins len n lv st = some (lv', st')) : ab_dl lv0 al' lv' := by
  cases ins with
  | iload_n i => simp only [ab_loc, mj_loc] at h hm; rw [ab_lo1_al h, mj_lo1_lv hm]; exact hd
  | iload i => simp only [ab_loc, mj_loc] at h hm; rw [ab_lo1_al h, mj_lo1_lv hm]; exact hd
  | lload_n i => simp only [ab_loc, mj_loc] at h hm; rw [ab_lo1_al h, mj_lo1_lv hm]; exact hd
  | lload i => simp only [ab_loc, mj_loc] at h hm; rw [ab_lo1_al h, mj_lo1_lv hm]; exact hd
  | aload_n i => simp only [ab_loc, mj_loc] at h hm; rw [ab_lo1_al h, mj_lo1_lv hm]; exact hd
  | aload i => simp only [ab_loc, mj_loc] at h hm; rw [ab_lo1_al h, mj_lo1_lv hm]; exact hd
  | istore_n i => simp only [ab_loc, mj_loc] at h hm; exact ab_st1_dl h hl hd hm
  | istore i => simp only [ab_loc, mj_loc] at h hm; exact ab_st1_dl h hl hd hm
  | astore_n i => simp only [ab_loc, mj_loc] at h hm; exact ab_st1_dl h hl hd hm
  | astore i => simp only [ab_loc, mj_loc] at h hm; exact ab_st1_dl h hl hd hm
  | lstore_n i =>
    simp only [ab_loc, mj_loc] at h hm
    split at hm
    · split at hm
      · cases hm
        repeat' split at h
        all_goals first
          | (cases h; exact ab_dl_put2 hl hd rfl)
          | cases h
      · cases hm
    · cases hm
  | iinc i d =>
    simp only [ab_loc, mj_loc] at h hm
    split at hm
    · rename_i hlen
      split at hm
      · rename_i x hx
        cases hm
        rw [if_pos hlen] at h
        split at h
        · rename_i k l u o e0
          split at h
          · rename_i hk
            subst hk
            split at h
            · cases h
              refine ab_dl_put1 hl hd (fun q => ?_)
              unfold ab_inc at q ⊢
              dsimp only at q ⊢
              split at q
              · rename_i hc
                rw [if_pos hc]
                obtain ⟨u0, z0, w, z, e1, e2, e3, e4, e5⟩ := hd _ _ e0 hc.1
                rw [hx] at e3
                cases e3
                have hz : x.toInt = z := Option.some.inj e4
                obtain ⟨v', f1, f2⟩ := hl _ _ e0
                rw [hx] at f1
                cases f1
                obtain ⟨x', f3, f4⟩ := ab_m_0 f2
                cases f3
                obtain ⟨a, b⟩ := f4
                simp only at a b
                have hs : (x + Int32.ofInt d).toInt = x.toInt + (Int32.ofInt d).toInt := by
                  rw [Int32.toInt_add, ab_bmod (by omega) (by omega)]
                refine ⟨u0, z0, _, e1, e2, rfl, ?_⟩
                rw [hs, hz, e5]
                dsimp only at hc q ⊢
                omega
              · exact absurd rfl q
            · cases h
          · cases h
        · cases h
      · cases hm
    · cases hm
  | _ => exact absurd (show (none : Option (ab_L × List ab_V)) = some (al', A') from h) (by simp)
