/-! FRAMES: what a method, and all that it calls, can write: fields (class, place), arrays by their kind -/
def fr_same (WF : List (Nat × Nat)) (WA : List Nat) (h h' : mj_H) : Prop := ∀ (a t : Nat) (xs : List Value), h[a]? = some (t, xs) → ∃ ys, h'[a]? = some (t, ys) ∧ ys.length = xs.length ∧ (WA.contains t = false → ∀ k, WF.contains (t, k) = false → ys[k]? = xs[k]?)
theorem fr_same.rf {WF : List (Nat × Nat)} {WA : List Nat} (h : mj_H) : fr_same WF WA h h := fun _ _ xs e => ⟨xs, e, rfl, fun _ _ _ => rfl⟩
theorem fr_same.tr {WF : List (Nat × Nat)} {WA : List Nat} {h h1 h2 : mj_H} (p : fr_same WF WA h h1) (q : fr_same WF WA h1 h2) : fr_same WF WA h h2 := fun a t xs e => by
  obtain ⟨ys, e1, e2, e3⟩ := p a t xs e
  obtain ⟨zs, e4, e5, e6⟩ := q a t ys e1
  exact ⟨zs, e4, e5.trans e2, fun w k hk => (e6 w k hk).trans (e3 w k hk)⟩
theorem fr_same.st {WF : List (Nat × Nat)} {WA : List Nat} {h : mj_H} {a t : Nat} {xs ys : List Value} (hc : h[a]? = some (t, xs)) (hl : ys.length = xs.length) (hw : WA.contains t = false → ∀ k, WF.contains (t, k) = false → ys[k]? = xs[k]?) : fr_same WF WA h (h.set a (t, ys)) := fun a' t' xs' e => by
  by_cases q : a' = a
  · subst q
    rw [hc] at e
    cases e
    have hlt : a' < h.length := (List.getElem?_eq_some_iff.mp hc).1
    exact ⟨ys, by rw [List.getElem?_set_self hlt], hl, hw⟩
  · exact ⟨xs', by rw [List.getElem?_set_ne (Ne.symm q)]; exact e, rfl, fun _ _ _ => rfl⟩
section FR1
variable {WF : List (Nat × Nat)} {WA : List Nat}
theorem fr_pf {M : mj_M} {idx : Nat} {st st' : List Value} {h h' : mj_H} (hs : mj_pf M idx st h = some (st', h')) (hw : ∀ ix kd ci k, mj_ent M idx = some (ix, kd, ci, k) → WF.contains (ci, k) = true) : fr_same WF WA h h' := by
  unfold mj_pf at hs
  split at hs
  · rename_i ix kd ci k he
    split at hs
    · split at hs
      · split at hs
        · rename_i t xs hcell
          split at hs
          · rename_i hh
            cases hs
            refine fr_same.st hcell List.length_set (fun _ k' hk' => ?_)
            by_cases q : k = k'
            · subst q
              rw [hh.1, hw _ _ _ _ he] at hk'
              cases hk'
            · rw [List.getElem?_set_ne q]
          · cases hs
        · cases hs
      · cases hs
    · cases hs
  · cases hs
theorem fr_ast {t : Nat} {st st' : List Value} {h h' : mj_H} (hs : mj_ast t st h = some (st', h')) (hw : WA.contains t = true) : fr_same WF WA h h' := by
  unfold mj_ast at hs
  split at hs
  · split at hs
    · rename_i t' xs hc
      split at hs
      · rename_i hh
        cases hs
        refine fr_same.st hc List.length_set (fun q => ?_)
        rw [hh.1, hw] at q
        cases q
      · cases hs
    · cases hs
  · cases hs
theorem fr_acopy {M : mj_M} {st st' : List Value} {h h' : mj_H} (hs : mj_acopy M st h = some (st', h')) (hw : WA.contains 100 = true) : fr_same WF WA h h' := by
  unfold mj_acopy at hs
  split at hs
  · split at hs
    · rename_i t xs t' ys hc0 hc1
      split at hs
      · rename_i hh
        cases hs
        refine fr_same.st hc1 (mj_cpy_len hh.2.2.2.2.2.1 hh.2.2.2.2.2.2.1) (fun q => ?_)
        rw [hh.2.1, hw] at q
        cases q
      · cases hs
    · cases hs
  · cases hs
abbrev fr_F : Type := List (Nat × List Nat)
def fr_to (pcs : List Nat) (pc : Nat) (off : Int) : Bool := match mj_to pc off with
  | some t => pcs.contains t
  | none => true
/-- what is asked of an instruction -/
def fr_ins (F : fr_F) (WF : List (Nat × Nat)) (WA : List Nat) (M : mj_M) (pcs : List Nat) (pc : Nat) (ins : Instr) (len : Nat) : Bool := match ins with
  | .goto off => fr_to pcs pc off
  | .ifCond _ off => fr_to pcs pc off && pcs.contains (pc + 3)
  | .if_icmp _ off => fr_to pcs pc off && pcs.contains (pc + 3)
  | .tableswitch d _ _ offs => fr_to pcs pc d && offs.toList.all (fun o => fr_to pcs pc o)
  | .lookupswitch d ps => fr_to pcs pc d && ps.toList.all (fun o => fr_to pcs pc o.2)
  | .ireturn => true
  | .return_ => true
  | .putfield idx => pcs.contains (pc + len) && (match mj_ent M idx with
    | some (_, _, ci, k) => WF.contains (ci, k)
    | none => true)
  | .iastore => WA.contains 100 && pcs.contains (pc + len)
  | .castore => WA.contains 101 && pcs.contains (pc + len)
  | .bastore => WA.contains 102 && pcs.contains (pc + len)
  | .new _ => false
  | .newarray _ => false
  | .anewarray _ => false
  | .aastore => false
  | .invokespecial _ => false
  | .invokestatic idx => pcs.contains (pc + len) && (match mj_ent M idx with
    | some (_, kd, j, _) => if kd = 7 then WA.contains 100 else if kd = 9 ∨ kd = 10 then true else F.any (fun q => q.1 == j && q.2.contains 0)
    | none => true)
  | .invokevirtual idx => pcs.contains (pc + len) && (match mj_ent M idx with
    | some (_, _, j, _) => F.any (fun q => q.1 == j && q.2.contains 0)
    | none => true)
  | _ => pcs.contains (pc + len)
def fr_ok (F : fr_F) (WF : List (Nat × Nat)) (WA : List Nat) : Bool := F.all (fun q => match mj_meths[q.1]? with
  | some M => q.2.all (fun pc => match decode M.2.1 pc with
    | .ok (ins, len) => fr_ins F WF WA M q.2 pc ins len
    | .error _ => true)
  | none => false)
def fr_has (F : fr_F) (M : mj_M) (pc : Nat) : Prop := ∃ j pcs, (j, pcs) ∈ F ∧ mj_meths[j]? = some M ∧ pcs.contains pc = true
def fr_K (F : fr_F) (WF : List (Nat × Nat)) (WA : List Nat) (k : mj_S → mj_O) : Prop := ∀ (M : mj_M) (pc : Nat) (lv : mj_L) (st : List Value) (h : mj_H) (r : Option Value) (h' : mj_H), fr_has F M pc → k (M, pc, lv, st, h) = some (r, h') → fr_same WF WA h h'
theorem fr_look {d x : Int} {P : Int → Prop} (hd : P d) : ∀ ps : List (Int × Int), (∀ q ∈ ps, P q.2) → P (Op.lookupswitch.offset ps d x) := by
  intro ps
  induction ps with
  | nil => intro _; exact hd
  | cons q ps ih =>
    intro h
    obtain ⟨a, off⟩ := q
    simp only [Op.lookupswitch.offset]
    split
    · exact h _ List.mem_cons_self
    · exact ih (fun q hq => h q (List.mem_cons_of_mem _ hq))
theorem fr_to_ok {pcs : List Nat} {pc t : Nat} {off : Int} (h : fr_to pcs pc off = true) (ht : mj_to pc off = some t) : pcs.contains t = true := by
  unfold fr_to at h
  rw [ht] at h
  exact h
theorem fr_br {F : fr_F} {M : mj_M} {pcs : List Nat} {pc len pc' : Nat} {ins : Instr} {st st' : List Value} (h : fr_ins F WF WA M pcs pc ins len = true) (hb : mj_br ins len pc st = some (pc', st')) : pcs.contains pc' = true := by
  unfold mj_br at hb
  split at hb
  · rename_i off
    simp only [fr_ins] at h
    split at hb
    · obtain ⟨t, e1, e2⟩ := Option.map_eq_some_iff.mp hb
      cases e2
      exact fr_to_ok h e1
    · cases hb
  · rename_i c off
    simp only [fr_ins, Bool.and_eq_true] at h
    split at hb
    · split at hb
      · obtain ⟨t, e1, e2⟩ := Option.map_eq_some_iff.mp hb
        cases e2
        split
        · exact fr_to_ok h.1 e1
        · exact h.2
      · cases hb
    · cases hb
  · rename_i c off
    simp only [fr_ins, Bool.and_eq_true] at h
    split at hb
    · split at hb
      · obtain ⟨t, e1, e2⟩ := Option.map_eq_some_iff.mp hb
        cases e2
        split
        · exact fr_to_ok h.1 e1
        · exact h.2
      · cases hb
    · cases hb
  · rename_i d lo hi offs
    simp only [fr_ins, Bool.and_eq_true] at h
    split at hb
    · split at hb
      · obtain ⟨t, e1, e2⟩ := Option.map_eq_some_iff.mp hb
        cases e2
        exact fr_to_ok h.1 e1
      · split at hb
        · rename_i off ho
          obtain ⟨t, e1, e2⟩ := Option.map_eq_some_iff.mp hb
          cases e2
          have hm : off ∈ offs.toList := by
            obtain ⟨q1, q2⟩ := Array.getElem?_eq_some_iff.mp ho
            rw [← q2]
            exact Array.mem_toList_iff.mpr (Array.getElem_mem q1)
          exact fr_to_ok (List.all_eq_true.mp h.2 off hm) e1
        · cases hb
    · cases hb
  · rename_i d ps
    simp only [fr_ins, Bool.and_eq_true] at h
    split at hb
    · split at hb
      · obtain ⟨t, e1, e2⟩ := Option.map_eq_some_iff.mp hb
        cases e2
        refine fr_to_ok ?_ e1
        exact fr_look (P := fun o => fr_to pcs pc o = true) h.1 _ (fun q hq => List.all_eq_true.mp h.2 q hq)
      · cases hb
    · cases hb
  · cases hb
theorem fr_nobr {ins : Instr} {len n pc : Nat} {lv lv' : mj_L} {st st' : List Value} (h : mj_loc ins len n lv st = some (lv', st')) (F : fr_F) (M : mj_M) (pcs : List Nat) : fr_ins F WF WA M pcs pc ins len = pcs.contains (pc + len) := by
  cases ins <;> first | rfl | cases h
theorem fr_noalu {ins : Instr} {pc : Nat} {st st' : List Value} (h : mj_alu ins st = some st') (F : fr_F) (M : mj_M) (pcs : List Nat) : fr_ins F WF WA M pcs pc ins 1 = pcs.contains (pc + 1) := by
  cases ins <;> first | rfl | cases h
theorem fr_call {F : fr_F} {k : mj_S → mj_O} (hk : fr_K F WF WA k) {M M' : mj_M} {pc n j : Nat} {lv : mj_L} {st : List Value} {h : mj_H} {r : Option Value} {h' : mj_H} (hpc : fr_has F M (pc + 3)) (hj : mj_meths[j]? = some M') (hF : F.any (fun q => q.1 == j && q.2.contains 0) = true) (hs : mj_call k k M pc lv st h M' n = some (r, h')) : fr_same WF WA h h' := by
  obtain ⟨-, r1, h1, e1, e2⟩ := mj_call_inv hs
  obtain ⟨q, q1, q2⟩ := List.any_eq_true.mp hF
  rw [Bool.and_eq_true] at q2
  have hq : q.1 = j := by simpa using q2.1
  have h0 : fr_has F M' 0 := ⟨q.1, q.2, q1, by rw [hq]; exact hj, q2.2⟩
  exact (hk _ _ _ _ _ _ _ h0 e1).tr (hk _ _ _ _ _ _ _ hpc e2)
set_option maxHeartbeats 4000000 in
theorem fr_step {F : fr_F} {k : mj_S → mj_O} (hF : fr_ok F WF WA = true) (hk : fr_K F WF WA k) : fr_K F WF WA (mj_step none k k) := by
  intro M pc lv st h r h' hh
  obtain ⟨j, pcs, hm, hj, hpc⟩ := hh
  have h1 := List.all_eq_true.mp hF _ hm
  dsimp only at h1
  rw [hj] at h1
  dsimp only at h1
  have h2 := List.all_eq_true.mp h1 pc (List.contains_iff_mem.mp hpc)
  have has : ∀ n, pcs.contains n = true → fr_has F M n := fun n hn => ⟨j, pcs, hm, hj, hn⟩
  unfold mj_step
  dsimp only
  cases hd : decode M.2.1 pc with
  | error e => intro hs; cases hs
  | ok q =>
    obtain ⟨ins, len⟩ := q
    rw [hd] at h2
    dsimp only at h2 ⊢
    have dfl : (match mj_br ins len pc st with
      | some (pc', st') => k (M, pc', lv, st', h)
      | none => match mj_loc ins len M.2.2.1 lv st with
        | some (lv', st') => k (M, pc + len, lv', st', h)
        | none => if len = 1 then match mj_alu ins st with
          | some st' => k (M, pc + 1, lv, st', h)
          | none => none
          else none) = some (r, h') → fr_same WF WA h h' := by
      split
      · rename_i pc' st' e
        intro hs
        exact hk _ _ _ _ _ _ _ (has _ (fr_br h2 e)) hs
      · split
        · rename_i lv' st' e
          intro hs
          rw [fr_nobr e] at h2
          exact hk _ _ _ _ _ _ _ (has _ h2) hs
        · split
          · rename_i hlen
            subst hlen
            split
            · rename_i st' e
              intro hs
              rw [fr_noalu e] at h2
              exact hk _ _ _ _ _ _ _ (has _ h2) hs
            · intro hs; cases hs
          · intro hs; cases hs
    cases ins <;> dsimp only
    case bipush =>
      intro hs
      split at hs
      · rename_i hl
        subst hl
        exact hk _ _ _ _ _ _ _ (has _ h2) hs
      · cases hs
    case sipush =>
      intro hs
      split at hs
      · rename_i hl
        subst hl
        exact hk _ _ _ _ _ _ _ (has _ h2) hs
      · cases hs
    case ldc =>
      intro hs
      split at hs
      · rename_i hl
        subst hl
        split at hs
        · exact hk _ _ _ _ _ _ _ (has _ h2) hs
        · cases hs
      · cases hs
    case ldc_w =>
      intro hs
      split at hs
      · rename_i hl
        subst hl
        split at hs
        · exact hk _ _ _ _ _ _ _ (has _ h2) hs
        · cases hs
      · cases hs
    case ldc2_w =>
      intro hs
      split at hs
      · rename_i hl
        subst hl
        split at hs
        · exact hk _ _ _ _ _ _ _ (has _ h2) hs
        · cases hs
      · cases hs
    case getfield =>
      intro hs
      split at hs
      · rename_i hl
        subst hl
        split at hs
        · exact hk _ _ _ _ _ _ _ (has _ h2) hs
        · cases hs
      · cases hs
    case iaload =>
      intro hs
      split at hs
      · rename_i hl
        subst hl
        split at hs
        · exact hk _ _ _ _ _ _ _ (has _ h2) hs
        · cases hs
      · cases hs
    case caload =>
      intro hs
      split at hs
      · rename_i hl
        subst hl
        split at hs
        · exact hk _ _ _ _ _ _ _ (has _ h2) hs
        · cases hs
      · cases hs
    case baload =>
      intro hs
      split at hs
      · rename_i hl
        subst hl
        split at hs
        · exact hk _ _ _ _ _ _ _ (has _ h2) hs
        · cases hs
      · cases hs
    case aaload =>
      intro hs
      split at hs
      · rename_i hl
        subst hl
        split at hs
        · exact hk _ _ _ _ _ _ _ (has _ h2) hs
        · cases hs
      · cases hs
    case arraylength =>
      intro hs
      split at hs
      · rename_i hl
        subst hl
        split at hs
        · exact hk _ _ _ _ _ _ _ (has _ h2) hs
        · cases hs
      · cases hs
    case putfield idx =>
      intro hs
      simp only [fr_ins, Bool.and_eq_true] at h2
      split at hs
      · rename_i hl
        subst hl
        split at hs
        · rename_i st' h1' e
          refine (fr_pf e (fun ix kd ci kk he => ?_)).tr (hk _ _ _ _ _ _ _ (has _ h2.1) hs)
          have := h2.2
          rw [he] at this
          exact this
        · cases hs
      · cases hs
    case iastore =>
      intro hs
      simp only [fr_ins, Bool.and_eq_true] at h2
      split at hs
      · rename_i hl
        subst hl
        split at hs
        · rename_i st' h1' e
          exact (fr_ast e h2.1).tr (hk _ _ _ _ _ _ _ (has _ h2.2) hs)
        · cases hs
      · cases hs
    case castore =>
      intro hs
      simp only [fr_ins, Bool.and_eq_true] at h2
      split at hs
      · rename_i hl
        subst hl
        split at hs
        · rename_i st' h1' e
          exact (fr_ast e h2.1).tr (hk _ _ _ _ _ _ _ (has _ h2.2) hs)
        · cases hs
      · cases hs
    case bastore =>
      intro hs
      simp only [fr_ins, Bool.and_eq_true] at h2
      split at hs
      · rename_i hl
        subst hl
        split at hs
        · rename_i st' h1' e
          exact (fr_ast e h2.1).tr (hk _ _ _ _ _ _ _ (has _ h2.2) hs)
        · cases hs
      · cases hs
    case new => cases h2
    case newarray => cases h2
    case anewarray => cases h2
    case aastore => cases h2
    case invokespecial => cases h2
    case ireturn =>
      intro hs
      split at hs
      · split at hs
        · split at hs
          · cases hs; exact fr_same.rf _
          · cases hs
        · cases hs
      · cases hs
    case return_ =>
      intro hs
      split at hs
      · split at hs
        · cases hs; exact fr_same.rf _
        · cases hs
      · cases hs
    case invokestatic idx =>
      intro hs
      simp only [fr_ins, Bool.and_eq_true] at h2
      split at hs
      · rename_i hl
        subst hl
        split at hs
        · rename_i ix kd jj z he
          rw [he] at h2
          dsimp only at h2
          split at hs
          · rename_i hkd
            rw [if_pos hkd] at h2
            split at hs
            · rename_i st' h1' e
              exact (fr_acopy e h2.2).tr (hk _ _ _ _ _ _ _ (has _ h2.1) hs)
            · cases hs
          · rename_i hkd
            rw [if_neg hkd] at h2
            split at hs
            · split at hs
              · exact hk _ _ _ _ _ _ _ (has _ h2.1) hs
              · cases hs
            · rename_i hkd2
              rw [if_neg hkd2] at h2
              split at hs
              · rename_i M' hj'
                split at hs
                · exact fr_call hk (has _ h2.1) hj' h2.2 hs
                · cases hs
              · cases hs
        · cases hs
      · cases hs
    case invokevirtual idx =>
      intro hs
      simp only [fr_ins, Bool.and_eq_true] at h2
      split at hs
      · rename_i hl
        subst hl
        split at hs
        · rename_i ix kd jj z he
          rw [he] at h2
          dsimp only at h2
          split at hs
          · rename_i M' hj'
            split at hs
            · split at hs
              · split at hs
                · exact fr_call hk (has _ h2.1) hj' h2.2 hs
                · cases hs
              · cases hs
            · cases hs
          · cases hs
        · cases hs
      · cases hs
    all_goals exact dfl
theorem fr_ex {F : fr_F} (hF : fr_ok F WF WA = true) (f : Nat) : fr_K F WF WA (mj_ex f) := by
  induction f with
  | zero => intro M pc lv st h r h' _ hs; cases hs
  | succ f ih => exact fr_step hF ih
/-- A METHOD OF A CLOSED SET writes no more than what is allowed -/
theorem fr_runs {F : fr_F} (hF : fr_ok F WF WA = true) {M : mj_M} {pc : Nat} {lv : mj_L} {st : List Value} {h h' : mj_H} {r : Option Value} (hh : fr_has F M pc) (h0 : mj_runs (M, pc, lv, st, h) r h') : fr_same WF WA h h' := by
  obtain ⟨f, e⟩ := h0
  exact fr_ex hF f _ _ _ _ _ _ _ hh e
/-- nothing written: the same cells -/
theorem fr_same.pure {h h' : mj_H} (hs : fr_same [] [] h h') (hl : h'.length = h.length) : h' = h := by
  apply List.ext_getElem? 
  intro a
  cases e : h[a]? with
  | none =>
    have := List.getElem?_eq_none_iff.mp e
    exact List.getElem?_eq_none_iff.mpr (by omega)
  | some c =>
    obtain ⟨t, xs⟩ := c
    obtain ⟨ys, e1, e2, e3⟩ := hs a t xs e
    rw [e1]
    have : ys = xs := List.ext_getElem? (fun k => e3 rfl k rfl)
    rw [this]
theorem fr_same.rd {h h' : mj_H} (hs : fr_same WF WA h h') {a k tag ln : Nat} {es : List ab_V} (hH : sy_H h) (hc : sy_cell a = some (tag, ln, es)) (hw : WA.contains tag = false) (hk : WF.contains (tag, k) = false) : sy_rd h' a k = sy_rd h a k := by
  obtain ⟨xs, g1, g2, g3⟩ := hH.cell hc
  obtain ⟨ys, e1, e2, e3⟩ := hs a tag xs g1
  unfold sy_rd
  rw [g1, e1]
  dsimp only
  unfold sy_at
  rw [e3 hw k hk]
end FR1
section SY3
variable {M M' : mj_M} {pc : Nat} {lv lv' : mj_L} {st vs rest : List Value} {h : mj_H} {Q Q' : Option Value → mj_H → Prop}
theorem sy_lto {z : Int} (h : -9223372036854775808 ≤ z ∧ z ≤ 9223372036854775807) : (Int64.ofInt z).toInt = z := by
  rw [Int64.toInt_ofInt]
  exact ab_lbmod h.1 h.2
/-- two longs compared, and the branch behind it -/
theorem sy_lc {c : ClassFile.Cond} {off a b : Int} {t : Nat} (hd : decode M.2.1 pc = .ok (.lcmp, 1)) (hd2 : decode M.2.1 (pc + 1) = .ok (.ifCond c off, 3)) (ht : mj_to (pc + 1) off = some t) (ra : -9223372036854775808 ≤ a ∧ a ≤ 9223372036854775807) (rb : -9223372036854775808 ≤ b ∧ b ≤ 9223372036854775807) (kT : ab_rel c a b → sy_wp (M, t, lv, st, h) Q) (kF : ¬ ab_rel c a b → sy_wp (M, pc + 1 + 3, lv, st, h) Q) : sy_wp (M, pc, lv, sy_l b :: sy_l a :: st, h) Q := by
  refine sy_st (S' := (M, pc + 1, lv, .int (lg_cmp (Int64.ofInt a) (Int64.ofInt b)) :: st, h)) hd (fun _ _ => rfl) ?_
  have hx := ab_lcmp_rel c (Int64.ofInt a) (Int64.ofInt b)
  rw [sy_lto ra, sy_lto rb] at hx
  by_cases hc : ab_rel c a b
  · exact sy_one (mj_one_ifT hd2 ht (hx.mpr hc)) (kT hc)
  · exact sy_one (mj_one_ifF hd2 ht (Bool.eq_false_iff.mpr (fun q => hc (hx.mp q)))) (kF hc)
theorem sy_fr {F : fr_F} {WF : List (Nat × Nat)} {WA : List Nat} (hF : fr_ok F WF WA = true) (hh : fr_has F M pc) (k : sy_wp (M, pc, lv, st, h) Q) : sy_wp (M, pc, lv, st, h) (fun r h' => Q r h' ∧ fr_same WF WA h h') := by
  obtain ⟨r, h', e, q⟩ := k
  exact ⟨r, h', e, q, fr_runs hF hh e⟩
theorem sy_pure {s : ab_M} {F : fr_F} (hs : ab_sum ab_ty ab_TT s) (hj : mj_meths[s.1]? = some M') (ha : ab_args ab_ty s.2.1 vs) (hH : sy_H h) (hF : fr_ok F [] [] = true) (hh : fr_has F M' 0) : sy_wp (M', 0, lv_args 0 vs, [], h) (fun r h' => h = h' ∧ ∃ out ∈ s.2.2, ab_ret ab_ty out.1 r ∧ ab_args ab_ty out.2 vs) := by
  refine (sy_fr hF hh (sy_sum hs hj ha hH)).mono (fun r h' q => ⟨(q.2.pure ?_).symm, q.1.2⟩)
  rw [q.1.1.1, hH.1]
theorem sy_sumf {s : ab_M} {F : fr_F} {WF : List (Nat × Nat)} {WA : List Nat} (hs : ab_sum ab_ty ab_TT s) (hj : mj_meths[s.1]? = some M') (ha : ab_args ab_ty s.2.1 vs) (hH : sy_H h) (hF : fr_ok F WF WA = true) (hh : fr_has F M' 0) : sy_wp (M', 0, lv_args 0 vs, [], h) (fun r h' => sy_H h' ∧ fr_same WF WA h h' ∧ ∃ out ∈ s.2.2, ab_ret ab_ty out.1 r ∧ ab_args ab_ty out.2 vs) :=
  (sy_fr hF hh (sy_sum hs hj ha hH)).mono (fun r h' q => ⟨q.1.1, q.2, q.1.2⟩)
end SY3
