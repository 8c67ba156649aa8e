/-! ABSTRACT BRANCHES: what a comparison tells of its operands -/
def ab_rel (c : ClassFile.Cond) (x y : Int) : Prop := match c with
  | .eq => x = y
  | .ne => ¬ x = y
  | .lt => x < y
  | .ge => y ≤ x
  | .gt => y < x
  | .le => x ≤ y
def ab_neg (c : ClassFile.Cond) : ClassFile.Cond := match c with
  | .eq => .ne
  | .ne => .eq
  | .lt => .ge
  | .ge => .lt
  | .gt => .le
  | .le => .gt
theorem ab_neg_rel {c : ClassFile.Cond} {x y : Int} (h : ¬ ab_rel c x y) : ab_rel (ab_neg c) x y := by
  cases c <;> simp only [ab_rel, ab_neg] at h ⊢ <;> omega
def ab_trim (p : ab_I) (k : Int) : ab_I := (if p.1 = k then k + 1 else p.1, if p.2 = k then k - 1 else p.2)
def ab_rf (c : ClassFile.Cond) (p q : ab_I) : ab_I × ab_I := match c with
  | .eq => ((max p.1 q.1, min p.2 q.2), (max p.1 q.1, min p.2 q.2))
  | .ne => (if q.1 = q.2 then ab_trim p q.1 else p, if p.1 = p.2 then ab_trim q p.1 else q)
  | .lt => ((p.1, min p.2 (q.2 - 1)), (max q.1 (p.1 + 1), q.2))
  | .ge => ((max p.1 q.1, p.2), (q.1, min q.2 p.2))
  | .gt => ((max p.1 (q.1 + 1), p.2), (q.1, min q.2 (p.2 - 1)))
  | .le => ((p.1, min p.2 q.2), (max q.1 p.1, q.2))
theorem ab_trim_ok {p : ab_I} {k x : Int} (h : ab_i p x) (hne : ¬ x = k) : ab_i (ab_trim p k) x := by
  obtain ⟨a, b⟩ := h
  unfold ab_i ab_trim
  constructor <;> simp only <;> split <;> omega
theorem ab_rf_ok {c : ClassFile.Cond} {p q : ab_I} {x y : Int} (hx : ab_i p x) (hy : ab_i q y) (h : ab_rel c x y) : ab_i (ab_rf c p q).1 x ∧ ab_i (ab_rf c p q).2 y := by
  cases c with
  | ne =>
    simp only [ab_rel] at h
    refine ⟨?_, ?_⟩
    · show ab_i (if q.1 = q.2 then ab_trim p q.1 else p) x
      split
      · rename_i e
        obtain ⟨c1, c2⟩ := hy
        exact ab_trim_ok hx (by omega)
      · exact hx
    · show ab_i (if p.1 = p.2 then ab_trim q p.1 else q) y
      split
      · rename_i e
        obtain ⟨c1, c2⟩ := hx
        exact ab_trim_ok hy (by omega)
      · exact hy
  | _ =>
    obtain ⟨a, b⟩ := hx
    obtain ⟨c1, c2⟩ := hy
    simp only [ab_rel] at h
    refine ⟨⟨?_, ?_⟩, ⟨?_, ?_⟩⟩ <;> simp only [ab_rf] <;> omega
/-- a bound for the local of an origin -/
def ab_upd (al : ab_L) (o : Nat) (p : ab_I) : ab_L := if o = 0 then al else al.map (fun q => if q.1 = o - 1 ∧ q.2.1 ≤ 1 then (q.1, (q.2.1, max q.2.2.1 p.1, min q.2.2.2.1 p.2, q.2.2.2.2)) else q)
theorem ab_get_map (F : Nat × ab_V → Nat × ab_V) (hF : ∀ q, (F q).1 = q.1) (j : Nat) : ∀ al : ab_L, ab_get (al.map F) j = (al.find? (fun q => q.1 == j)).map (fun q => (F q).2) := by
  intro al
  induction al with
  | nil => rfl
  | cons q al ih =>
    rw [List.map_cons]
    simp only [ab_get, List.find?_cons] at ih ⊢
    rw [hF q]
    by_cases e : q.1 = j
    · rw [show (q.1 == j) = true by simpa using e]
      rfl
    · rw [show (q.1 == j) = false by simpa using e]
      exact ih
theorem ab_upd_ok {ty : List Nat} {al : ab_L} {lv : mj_L} {o : Nat} {p : ab_I} (hl : ab_l ty al lv) (ho : o = 0 ∨ ∃ u z, mj_get lv (o - 1) = some u ∧ ab_num u = some z ∧ ab_i p z) : ab_l ty (ab_upd al o p) lv := by
  unfold ab_upd
  split
  · exact hl
  · rename_i hne
    rcases ho with q | ⟨u, z, e1, e2, e3⟩
    · exact absurd q hne
    · intro j V h
      rw [ab_get_map _ (fun q => by split <;> rfl)] at h
      obtain ⟨q, h1, h2⟩ := Option.map_eq_some_iff.mp h
      have hq : q.1 = j := by simpa using List.find?_some h1
      have hg : ab_get al j = some q.2 := by
        unfold ab_get
        rw [h1]
        rfl
      obtain ⟨v, g1, g2⟩ := hl j q.2 hg
      split at h2
      · rename_i hc
        have hj : j = o - 1 := by omega
        subst hj
        rw [e1] at g1
        cases g1
        refine ⟨u, e1, ?_⟩
        rw [← h2]
        rcases g2 with ⟨k1, x, rfl, k2⟩ | ⟨k1, x, rfl, k2⟩ | ⟨k1, -⟩
        · have hz : x.toInt = z := Option.some.inj e2
          refine Or.inl ⟨k1, x, rfl, ?_⟩
          obtain ⟨a, b⟩ := k2
          obtain ⟨c, d⟩ := e3
          constructor <;> simp only at * <;> omega
        · have hz : x.toInt = z := Option.some.inj e2
          refine Or.inr (Or.inl ⟨k1, x, rfl, ?_⟩)
          obtain ⟨a, b⟩ := k2
          obtain ⟨c, d⟩ := e3
          constructor <;> simp only at * <;> omega
        · omega
      · rw [← h2]
        exact ⟨v, g1, g2⟩
theorem ab_cmp_rel (c : ClassFile.Cond) (x y : Int32) : mj_cmp c x y = true ↔ ab_rel c x.toInt y.toInt := by
  cases c <;> simp only [mj_cmp, ab_rel, decide_eq_true_eq]
  · exact Int32.toInt_inj.symm
  · exact not_congr Int32.toInt_inj.symm
  · exact Int32.lt_iff_toInt_lt
  · exact Int32.le_iff_toInt_le
  · exact Int32.lt_iff_toInt_lt
  · exact Int32.le_iff_toInt_le
theorem ab_lcmp_rel (c : ClassFile.Cond) (x y : Int64) : mj_cmp c (lg_cmp x y) 0 = true ↔ ab_rel c x.toInt y.toInt := by
  rw [ab_cmp_rel, mj_lg_int rfl rfl, show (0 : Int32).toInt = 0 by decide]
  cases c <;> simp only [ab_rel] <;> (repeat' first | omega | split)
/-- one way out of a branch: none if nothing is left -/
def ab_way (pc : Nat) (al : ab_L) (o1 o2 : Nat) (pq : ab_I × ab_I) (A : List ab_V) : List (Nat × ab_L × List ab_V) :=
  if pq.1.1 ≤ pq.1.2 ∧ pq.2.1 ≤ pq.2.2 then [(pc, ab_upd (ab_upd al o1 pq.1) o2 pq.2, A)] else []
def ab_two (c : ClassFile.Cond) (t pc : Nat) (al : ab_L) (o1 o2 : Nat) (p q : ab_I) (A : List ab_V) : List (Nat × ab_L × List ab_V) :=
  ab_way t al o1 o2 (ab_rf c p q) A ++ ab_way (pc + 3) al o1 o2 (ab_rf (ab_neg c) p q) A
/-- the cases of a table between the bounds -/
def ab_cases (lo : Int) (offs : List Int) (pc : Nat) (al : ab_L) (o : Nat) (p : ab_I) (A : List ab_V) : Option (List (Nat × ab_L × List ab_V)) := match offs with
  | [] => some []
  | off :: r => match ab_cases (lo + 1) r pc al o p A with
    | none => none
    | some ws => if p.1 ≤ lo ∧ lo ≤ p.2 then match mj_to pc off with
      | some t => some ((t, ab_upd al o (lo, lo), A) :: ws)
      | none => none
      else some ws
/-- the pairs of a lookup -/
def ab_pairs (pc : Nat) (al : ab_L) (o : Nat) (A : List ab_V) : List (Int × Int) → Option (List (Nat × ab_L × List ab_V))
  | [] => some []
  | (a, off) :: r => match mj_to pc off, ab_pairs pc al o A r with
    | some t, some ws => some ((t, ab_upd al o (a, a), A) :: ws)
    | _, _ => none
def ab_br (ins : Instr) (len pc : Nat) (al : ab_L) (A : List ab_V) : Option (List (Nat × ab_L × List ab_V)) := match ins with
  | .goto off => if len = 3 then (mj_to pc off).map (fun t => [(t, al, A)]) else none
  | .ifCond c off => match A with
    | (k, l, u, o) :: r => if len = 3 then match mj_to pc off with
      | some t => if k = 0 then some (ab_two c t pc al o 0 (l, u) (0, 0) r) else if k = 4 then match ab_get al (o - 1) with
        | some (k2, l2, u2, _) => if k2 ≤ 1 then some (ab_two c t pc al o 0 (l2, u2) (l, u) r) else none
        | none => none
        else none
      | none => none
      else none
    | _ => none
  | .if_icmp c off => match A with
    | (k2, l2, u2, o2) :: (k1, l1, u1, o1) :: r => if len = 3 ∧ k1 = 0 ∧ k2 = 0 then match mj_to pc off with
      | some t => some (ab_two c t pc al o1 o2 (l1, u1) (l2, u2) r)
      | none => none
      else none
    | _ => none
  | .tableswitch d lo hi offs => match A with
    | (k, l, u, o) :: r => if k = 0 ∧ hi = lo + offs.size - 1 then match mj_to pc d, ab_cases lo offs.toList pc al o (l, u) r with
      | some t, some ws => some (if lo ≤ l ∧ u ≤ hi then ws else (t, al, r) :: ws)
      | _, _ => none
      else none
    | _ => none
  | .lookupswitch d ps => match A with
    | (k, _, _, o) :: r => if k = 0 ∧ (ps.toList.zip (ps.toList.drop 1)).all (fun (a, next) => a.1 < next.1) = true then match mj_to pc d, ab_pairs pc al o r ps.toList with
      | some t, some ws => some ((t, al, r) :: ws)
      | _, _ => none
      else none
    | _ => none
  | _ => none
theorem ab_way_ok {ty : List Nat} {lv : mj_L} {pc : Nat} {al : ab_L} {o1 o2 : Nat} {pq : ab_I × ab_I} {A : List ab_V} {x y : Int} (hl : ab_l ty al lv) (h1 : ab_i pq.1 x) (h2 : ab_i pq.2 y) (e1 : o1 = 0 ∨ ∃ u, mj_get lv (o1 - 1) = some u ∧ ab_num u = some x) (e2 : o2 = 0 ∨ ∃ u, mj_get lv (o2 - 1) = some u ∧ ab_num u = some y) : ∃ w ∈ ab_way pc al o1 o2 pq A, w.1 = pc ∧ w.2.2 = A ∧ ab_l ty w.2.1 lv := by
  unfold ab_way
  rw [if_pos ⟨Int.le_trans h1.1 h1.2, Int.le_trans h2.1 h2.2⟩]
  refine ⟨_, List.mem_singleton.mpr rfl, rfl, rfl, ?_⟩
  refine ab_upd_ok (ab_upd_ok hl ?_) ?_
  · rcases e1 with q | ⟨u, q1, q2⟩
    · exact Or.inl q
    · exact Or.inr ⟨u, x, q1, q2, h1⟩
  · rcases e2 with q | ⟨u, q1, q2⟩
    · exact Or.inl q
    · exact Or.inr ⟨u, y, q1, q2, h2⟩
theorem ab_two_ok {ty : List Nat} {lv : mj_L} {c : ClassFile.Cond} {t pc : Nat} {al : ab_L} {o1 o2 : Nat} {p q : ab_I} {A : List ab_V} {x y : Int} {X : Bool} (hX : X = true ↔ ab_rel c x y) (hl : ab_l ty al lv) (h1 : ab_i p x) (h2 : ab_i q y) (e1 : o1 = 0 ∨ ∃ u, mj_get lv (o1 - 1) = some u ∧ ab_num u = some x) (e2 : o2 = 0 ∨ ∃ u, mj_get lv (o2 - 1) = some u ∧ ab_num u = some y) : ∃ w ∈ ab_two c t pc al o1 o2 p q A, w.1 = (if X = true then t else pc + 3) ∧ w.2.2 = A ∧ ab_l ty w.2.1 lv := by
  by_cases hx : X = true
  · have hr := ab_rf_ok h1 h2 (hX.mp hx)
    obtain ⟨w, g1, g2, g3, g4⟩ := ab_way_ok (pc := t) (A := A) hl hr.1 hr.2 e1 e2
    exact ⟨w, List.mem_append_left _ g1, by rw [if_pos hx]; exact g2, g3, g4⟩
  · have hr := ab_rf_ok h1 h2 (ab_neg_rel (fun z => hx (hX.mpr z)))
    obtain ⟨w, g1, g2, g3, g4⟩ := ab_way_ok (pc := pc + 3) (A := A) hl hr.1 hr.2 e1 e2
    exact ⟨w, List.mem_append_right _ g1, by rw [if_neg hx]; exact g2, g3, g4⟩
theorem ab_o_num {lv : mj_L} {o : Nat} {x : Int32} (h : ab_o lv o (.int x)) : o = 0 ∨ ∃ u, mj_get lv (o - 1) = some u ∧ ab_num u = some x.toInt := by
  rcases h with q | ⟨u, z, e1, e2, e3⟩
  · exact Or.inl q
  · exact Or.inr ⟨u, e1, by rw [e2]; exact e3.symm⟩
theorem ab_cases_ok {ty : List Nat} {lv : mj_L} {pc : Nat} {al : ab_L} {o : Nat} {p : ab_I} {A : List ab_V} {x : Int} (hl : ab_l ty al lv) (h1 : ab_i p x) (e1 : o = 0 ∨ ∃ u, mj_get lv (o - 1) = some u ∧ ab_num u = some x) : ∀ (offs : List Int) (lo : Int) (ws : List (Nat × ab_L × List ab_V)), ab_cases lo offs pc al o p A = some ws → lo ≤ x → x < lo + offs.length → ∃ off t w, offs[(x - lo).toNat]? = some off ∧ mj_to pc off = some t ∧ w ∈ ws ∧ w.1 = t ∧ w.2.2 = A ∧ ab_l ty w.2.1 lv := by
  intro offs
  induction offs with
  | nil => intro lo ws h a b; simp at b; omega
  | cons off r ih =>
    intro lo ws h a b
    unfold ab_cases at h
    split at h
    · cases h
    · rename_i ws' e
      by_cases hx : x = lo
      · subst hx
        rw [if_pos (show p.1 ≤ x ∧ x ≤ p.2 from h1)] at h
        split at h
        · rename_i t ht
          cases h
          refine ⟨off, t, _, by simp, ht, List.mem_cons_self, rfl, rfl, ab_upd_ok hl ?_⟩
          rcases e1 with q | ⟨u, q1, q2⟩
          · exact Or.inl q
          · exact Or.inr ⟨u, x, q1, q2, Int.le_refl _, Int.le_refl _⟩
        · cases h
      · simp only [List.length_cons] at b
        obtain ⟨off', t, w, g1, g2, g3, g4⟩ := ih (lo + 1) ws' e (by omega) (by omega)
        have hi : (x - lo).toNat = (x - (lo + 1)).toNat + 1 := by omega
        refine ⟨off', t, w, by rw [hi, List.getElem?_cons_succ]; exact g1, g2, ?_, g4⟩
        split at h
        · split at h
          · cases h; exact List.mem_cons_of_mem _ g3
          · cases h
        · cases h; exact g3
theorem ab_pairs_ok {ty : List Nat} {lv : mj_L} {pc : Nat} {al : ab_L} {o : Nat} {A : List ab_V} {x d : Int} {td : Nat} (hl : ab_l ty al lv) (e1 : o = 0 ∨ ∃ u, mj_get lv (o - 1) = some u ∧ ab_num u = some x) (htd : mj_to pc d = some td) : ∀ (ps : List (Int × Int)) (ws : List (Nat × ab_L × List ab_V)), ab_pairs pc al o A ps = some ws → ∃ t, mj_to pc (Op.lookupswitch.offset ps d x) = some t ∧ ∃ w ∈ (td, al, A) :: ws, w.1 = t ∧ w.2.2 = A ∧ ab_l ty w.2.1 lv := by
  intro ps
  induction ps with
  | nil => intro ws h; exact ⟨td, htd, _, List.mem_cons_self, rfl, rfl, hl⟩
  | cons q ps ih =>
    intro ws h
    obtain ⟨a, off⟩ := q
    simp only [ab_pairs] at h
    split at h
    · rename_i t ws' ht e
      cases h
      by_cases hx : a = x
      · subst hx
        refine ⟨t, by simp only [Op.lookupswitch.offset]; rw [if_pos trivial]; exact ht, _, List.mem_cons_of_mem _ List.mem_cons_self, rfl, rfl, ab_upd_ok hl ?_⟩
        rcases e1 with q | ⟨u, q1, q2⟩
        · exact Or.inl q
        · exact Or.inr ⟨u, a, q1, q2, Int.le_refl _, Int.le_refl _⟩
      · obtain ⟨t', g1, w, g2, g3⟩ := ih ws' e
        refine ⟨t', by simp only [Op.lookupswitch.offset]; rw [if_neg hx]; exact g1, w, ?_, g3⟩
        rcases List.mem_cons.mp g2 with h | h
        · rw [h]; exact List.mem_cons_self
        · exact List.mem_cons_of_mem _ (List.mem_cons_of_mem _ h)
    · cases h
set_option maxHeartbeats 2000000 in
theorem ab_br_ok {ty : List Nat} {lv : mj_L} {ins : Instr} {len pc : Nat} {al : ab_L} {A : List ab_V} {st : List Value} {ws : List (Nat × ab_L × List ab_V)} (h : ab_br ins len pc al A = some ws) (hl : ab_l ty al lv) (hs : ab_st ty lv A st) : ∃ pc' st' w, mj_br ins len pc st = some (pc', st') ∧ w ∈ ws ∧ w.1 = pc' ∧ ab_l ty w.2.1 lv ∧ ab_st ty lv w.2.2 st' := by
  cases ins with
  | goto off =>
    simp only [ab_br] at h
    split at h
    · rename_i hlen
      cases ht : mj_to pc off with
      | none => rw [ht] at h; cases h
      | some t =>
        rw [ht] at h
        cases h
        exact ⟨t, st, _, by simp only [mj_br]; rw [if_pos hlen, ht]; rfl, List.mem_singleton.mpr rfl, rfl, hl, hs⟩
    · cases h
  | ifCond c off =>
    simp only [ab_br] at h
    split at h
    · rename_i k l u o r
      split at h
      · rename_i hlen
        split at h
        · rename_i t ht
          obtain ⟨v, r0, rfl, s1, hs1⟩ := ab_st_cons hs
          split at h
          · rename_i hk
            subst hk
            cases h
            obtain ⟨x, rfl, hx, hxo⟩ := ab_s_0 s1
            have h0 : (0 : Int32).toInt = 0 := by decide
            obtain ⟨w, g1, g2, g3, g4⟩ := ab_two_ok (t := t) (pc := pc) (A := r) (c := c) (y := 0) (q := (0, 0)) (o2 := 0) (X := mj_cmp c x 0) (by rw [ab_cmp_rel, h0]) hl hx ⟨Int.le_refl _, Int.le_refl _⟩ (ab_o_num hxo) (Or.inl rfl)
            refine ⟨_, r0, w, by simp only [mj_br]; rw [if_pos hlen, ht]; rfl, g1, g2, g4, by rw [g3]; exact hs1⟩
          · split at h
            · rename_i hk
              subst hk
              split at h
              · rename_i k2 l2 u2 o2 e0
                split at h
                · rename_i hk2
                  cases h
                  rcases s1 with ⟨-, q2, x, y, w0, q3, q4, q5, q6⟩ | ⟨⟨q, -⟩ | ⟨q, -⟩ | ⟨q, -⟩, -⟩
                  · subst q3
                    obtain ⟨v', f1, f2⟩ := hl _ _ e0
                    dsimp only at q4
                    rw [q4] at f1
                    cases f1
                    have hx : ab_i (l2, u2) x.toInt := by
                      rcases f2 with ⟨-, z, rfl, f3⟩ | ⟨-, z, rfl, f3⟩ | ⟨f3, -⟩
                      · have : z.toInt = x.toInt := Option.some.inj q5
                        rw [← this]; exact f3
                      · have : z.toInt = x.toInt := Option.some.inj q5
                        rw [← this]; exact f3
                      · dsimp only at f3; omega
                    obtain ⟨w, g1, g2, g3, g4⟩ := ab_two_ok (t := t) (pc := pc) (A := r) (c := c) (o2 := 0) (X := mj_cmp c (lg_cmp x y) 0) (ab_lcmp_rel c x y) hl hx q6 (Or.inr ⟨w0, q4, q5⟩) (Or.inl rfl)
                    refine ⟨_, r0, w, by simp only [mj_br]; rw [if_pos hlen, ht]; rfl, g1, g2, g4, by rw [g3]; exact hs1⟩
                  · simp at q
                  · simp at q
                  · simp at q
                · cases h
              · cases h
            · cases h
        · cases h
      · cases h
    · cases h
  | if_icmp c off =>
    simp only [ab_br] at h
    split at h
    · split at h
      · rename_i hlen
        obtain ⟨hlen, rfl, rfl⟩ := hlen
        split at h
        · rename_i t ht
          cases h
          obtain ⟨v2, r2, rfl, s2, hs2⟩ := ab_st_cons hs
          obtain ⟨v1, r1, rfl, s1, hs1⟩ := ab_st_cons hs2
          obtain ⟨y, rfl, hy, hyo⟩ := ab_s_0 s2
          obtain ⟨x, rfl, hx, hxo⟩ := ab_s_0 s1
          obtain ⟨w, g1, g2, g3, g4⟩ := ab_two_ok (t := t) (pc := pc) (c := c) (X := mj_cmp c x y) (ab_cmp_rel c x y) hl hx hy (ab_o_num hxo) (ab_o_num hyo)
          refine ⟨_, r1, w, by simp only [mj_br]; rw [if_pos hlen, ht]; rfl, g1, g2, g4, by rw [g3]; exact hs1⟩
        · cases h
      · cases h
    · cases h
  | tableswitch d lo hi offs =>
    simp only [ab_br] at h
    split at h
    · rename_i k l u o r
      split at h
      · rename_i hk
        obtain ⟨rfl, hhi⟩ := hk
        split at h
        · rename_i t ws0 ht e
          cases h
          obtain ⟨v, r0, rfl, s1, hs1⟩ := ab_st_cons hs
          obtain ⟨x, rfl, hx, hxo⟩ := ab_s_0 s1
          by_cases hin : x.toInt < lo ∨ hi < x.toInt
          · refine ⟨t, r0, (t, al, r), by simp only [mj_br]; rw [if_pos hin, ht]; rfl, ?_, rfl, hl, hs1⟩
            rw [if_neg (by obtain ⟨a, b⟩ := hx; simp only at a b; omega)]
            exact List.mem_cons_self
          · obtain ⟨off, t', w, g1, g2, g3, g4, g5, g6⟩ := ab_cases_ok hl hx (ab_o_num hxo) _ _ _ e (by omega) (by rw [Array.length_toList]; omega)
            rw [Array.getElem?_toList] at g1
            refine ⟨t', r0, w, by simp only [mj_br]; rw [if_neg hin, g1]; dsimp only; rw [g2]; rfl, ?_, g4, g6, by rw [g5]; exact hs1⟩
            split
            · exact g3
            · exact List.mem_cons_of_mem _ g3
        · cases h
      · cases h
    · cases h
  | lookupswitch d ps =>
    simp only [ab_br] at h
    split at h
    · rename_i k l u o r
      split at h
      · rename_i hk
        obtain ⟨rfl, hp⟩ := hk
        split at h
        · rename_i t ws0 ht e
          cases h
          obtain ⟨v, r0, rfl, s1, hs1⟩ := ab_st_cons hs
          obtain ⟨x, rfl, hx, hxo⟩ := ab_s_0 s1
          obtain ⟨t', g1, w, g2, g3, g4, g5⟩ := ab_pairs_ok hl (ab_o_num hxo) ht _ _ e
          refine ⟨t', r0, w, by simp only [mj_br]; rw [if_pos hp, g1]; rfl, g2, g3, g5, by rw [g4]; exact hs1⟩
        · cases h
      · cases h
    · cases h
  | _ => exact absurd (show (none : Option (List (Nat × ab_L × List ab_V))) = some ws from h) (by simp)
