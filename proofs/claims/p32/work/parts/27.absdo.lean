/-! ABSTRACT STEPS: all instructions but calls and returns -/
abbrev ab_W : Type := List (Nat × ab_L × List ab_V)
def ab_dflt (ins : Instr) (len n pc : Nat) (al : ab_L) (A : List ab_V) : Option ab_W := match ab_br ins len pc al A with
  | some ws => some ws
  | none => match ab_loc ins len n al A with
    | some (al', A') => some [(pc + len, al', A')]
    | none => if len = 1 then match ab_alu ins A with
      | some A' => some [(pc + 1, al, A')]
      | none => none
      else none
/-- all elements of one kind of array lie within those of the other's -/
def ab_les (es es' : List ab_V) : Bool := decide (es.length = es'.length) && (es.zip es').all (fun q => decide (q.1.1 = 0) && ab_le q.1 q.2)
def ab_acopy (T : ab_T) (M : mj_M) (A : List ab_V) : Option (List ab_V) := match A with
  | (k1, n1, n2, _) :: (k2, d1, d2, _) :: (k3, td, _, _) :: (k4, s1, s2, _) :: (k5, ts, _, _) :: r => match T[td.toNat]?, T[ts.toNat]? with
    | some (tagd, lend, esd), some (tags, lens, ess) => if k1 = 0 ∧ k2 = 0 ∧ k3 = 2 ∧ k4 = 0 ∧ k5 = 2 ∧ d1 = 0 ∧ d2 = 0 ∧ s1 = 0 ∧ s2 = 0 ∧ n1 = lend ∧ n2 = lend ∧ lens = lend ∧ tagd = 100 ∧ tags = 100 ∧ 0 < esd.length ∧ ab_les ess esd = true ∧ 1 ≤ M.2.2.2.2.2.2.2.1 ∧ (r.map fun V => if V.1 = 1 then 2 else 1).sum + 18 ≤ M.2.2.2.2.2.2.2.2 then some r else none
    | _, _ => none
  | _ => none
def ab_mm (M : mj_M) (kd : Nat) (A : List ab_V) : Option (List ab_V) := match A with
  | (k2, l2, u2, _) :: (k1, l1, u1, _) :: r => if k1 = 0 ∧ k2 = 0 ∧ 1 ≤ M.2.2.2.2.2.2.2.1 ∧ (r.map fun V => if V.1 = 1 then 2 else 1).sum + 13 ≤ M.2.2.2.2.2.2.2.2 then some (ab_int (if kd = 9 then (max l1 l2, max u1 u2) else (min l1 l2, min u1 u2)) :: r) else none
  | _ => none
theorem ab_cat_sum {ty : List Nat} {lv : mj_L} : ∀ (A : List ab_V) (st : List Value), ab_st ty lv A st → (st.map fun v => v.category).sum = (A.map fun V => if V.1 = 1 then 2 else 1).sum := by
  intro A
  induction A with
  | nil =>
    intro st h
    cases st with
    | nil => rfl
    | cons v r => exact absurd h (by simp [ab_st])
  | cons V A ih =>
    intro st h
    obtain ⟨v, r, rfl, s1, hs1⟩ := ab_st_cons h
    rw [List.map_cons, List.map_cons, List.sum_cons, List.sum_cons, ih r hs1, ab_s_cat s1]
theorem ab_mm_ok {ty : List Nat} {lv : mj_L} {M : mj_M} {kd : Nat} {A A' : List ab_V} {st : List Value} (h : ab_mm M kd A = some A') (hs : ab_st ty lv A st) : ∃ st', mj_mm M kd st = some st' ∧ ab_st ty lv A' st' := by
  unfold ab_mm at h
  split at h
  · rename_i k2 l2 u2 o2 k1 l1 u1 o1 r
    split at h
    · rename_i hc
      obtain ⟨rfl, rfl, c3, c4⟩ := hc
      cases h
      obtain ⟨v2, r2, rfl, s2, hs2⟩ := ab_st_cons hs
      obtain ⟨v1, r1, rfl, s1, hs1⟩ := ab_st_cons hs2
      obtain ⟨y, rfl, ⟨hy1, hy2⟩, -⟩ := ab_s_0 s2
      obtain ⟨x, rfl, ⟨hx1, hx2⟩, -⟩ := ab_s_0 s1
      simp only at hx1 hx2 hy1 hy2
      have hc := ab_cat_sum _ _ hs1
      unfold mj_mm
      dsimp only
      rw [if_pos ⟨c3, by rw [hc]; exact c4⟩]
      by_cases hk : kd = 9
      · rw [if_pos hk, if_pos hk]
        refine ⟨_, rfl, ab_s_int ?_, hs1⟩
        split
        · rename_i q
          have := Int32.lt_iff_toInt_lt.mp q
          constructor <;> simp only <;> omega
        · rename_i q
          have : ¬ x.toInt < y.toInt := fun z => q (Int32.lt_iff_toInt_lt.mpr z)
          constructor <;> simp only <;> omega
      · rw [if_neg hk, if_neg hk]
        refine ⟨_, rfl, ab_s_int ?_, hs1⟩
        split
        · rename_i q
          have := Int32.lt_iff_toInt_lt.mp q
          constructor <;> simp only <;> omega
        · rename_i q
          have : ¬ y.toInt < x.toInt := fun z => q (Int32.lt_iff_toInt_lt.mpr z)
          constructor <;> simp only <;> omega
    · cases h
  · cases h
theorem ab_one {l u z : Int} {x : Int32} (h : ab_i (l, u) x.toInt) (h1 : l = z) (h2 : u = z) : x.toInt = z := by
  obtain ⟨a, b⟩ := h
  simp only at a b
  omega
theorem ab_les_el {es es' : List ab_V} (h : ab_les es es' = true) (h0 : 0 < es'.length) (i : Nat) : (ab_el es i).1 = 0 ∧ ab_le (ab_el es i) (ab_el es' i) = true := by
  unfold ab_les at h
  rw [Bool.and_eq_true, decide_eq_true_eq] at h
  obtain ⟨h1, h2⟩ := h
  have hlt : i % es'.length < es'.length := Nat.mod_lt _ h0
  have hlt2 : i % es.length < es.length := by rw [h1]; exact hlt
  have e1 : es[i % es.length]? = some (es[i % es.length]'hlt2) := List.getElem?_eq_getElem hlt2
  have e2 : es'[i % es.length]? = some (es'[i % es.length]'(by rw [h1]; exact hlt)) := List.getElem?_eq_getElem _
  have hm : (es[i % es.length]'hlt2, es'[i % es.length]'(by rw [h1]; exact hlt)) ∈ es.zip es' := by
    refine List.mem_of_getElem? (i := i % es.length) ?_
    rw [List.getElem?_zip_eq_some]
    exact ⟨e1, e2⟩
  have h3 := List.all_eq_true.mp h2 _ hm
  rw [Bool.and_eq_true, decide_eq_true_eq] at h3
  unfold ab_el
  rw [List.getD_eq_getElem?_getD, e1, List.getD_eq_getElem?_getD, ← h1, e2]
  exact h3
theorem ab_acopy_ok {ty : List Nat} {T : ab_T} {lv : mj_L} {h : mj_H} {M : mj_M} {A A' : List ab_V} {st : List Value} (hH : ab_H ty T h) (hg : ab_acopy T M A = some A') (hs : ab_st ty lv A st) : ∃ st' h', mj_acopy M st h = some (st', h') ∧ ab_st ty lv A' st' ∧ ab_H ty T h' := by
  unfold ab_acopy at hg
  split at hg
  · rename_i k1 n1 n2 z1 k2 d1 d2 z2 k3 td z3 z4 k4 s1 s2 z5 k5 ts z6 z7 r
    split at hg
    · rename_i tagd lend esd tags lens ess hTd hTs
      split at hg
      · rename_i hc
        obtain ⟨rfl, rfl, rfl, rfl, rfl, rfl, rfl, rfl, rfl, e1, e2, rfl, rfl, rfl, h0, hle, c1, c2⟩ := hc
        cases hg
        obtain ⟨v1, q1, rfl, t1, w1⟩ := ab_st_cons hs
        obtain ⟨v2, q2, rfl, t2, w2⟩ := ab_st_cons w1
        obtain ⟨v3, q3, rfl, t3, w3⟩ := ab_st_cons w2
        obtain ⟨v4, q4, rfl, t4, w4⟩ := ab_st_cons w3
        obtain ⟨v5, q5, rfl, t5, w5⟩ := ab_st_cons w4
        obtain ⟨n, rfl, hn, -⟩ := ab_s_0 t1
        obtain ⟨dp, rfl, hdp, -⟩ := ab_s_0 t2
        obtain ⟨d, rfl, hd⟩ := ab_s_2 t3
        obtain ⟨sp, rfl, hsp, -⟩ := ab_s_0 t4
        obtain ⟨a, rfl, ha⟩ := ab_s_2 t5
        obtain ⟨tg, ln, es, ys, g1, g2, g3, g4⟩ := hH.2 d _ hd
        rw [hTd] at g1
        cases g1
        obtain ⟨tg, ln, es, xs, f1, f2, f3, f4⟩ := hH.2 a _ ha
        rw [hTs] at f1
        cases f1
        have nn : ∀ z : Int32, ∀ k : Nat, z.toInt = (k : Int) → ¬ z < 0 ∧ z.toNatClampNeg = k := by
          intro z k hz
          have h1 : ¬ z < 0 := fun q => by
            have := Int32.lt_iff_toInt_lt.mp q
            rw [show (0 : Int32).toInt = 0 by decide] at this
            omega
          have h2 := mj_nn z h1
          exact ⟨h1, by omega⟩
        obtain ⟨a1, a2⟩ := nn n lens (ab_one hn e1 e2)
        obtain ⟨b1, b2⟩ := nn dp 0 (ab_one hdp rfl rfl)
        obtain ⟨c3, c4⟩ := nn sp 0 (ab_one hsp rfl rfl)
        have hall : ((xs.drop sp.toNatClampNeg).take n.toNatClampNeg).all mj_isI = true := by
          rw [List.all_eq_true]
          intro v hv
          have hv2 : v ∈ xs := List.mem_of_mem_drop (List.mem_of_mem_take hv)
          obtain ⟨i, hi⟩ := List.getElem?_of_mem hv2
          have h1 := f4 i v hi
          have h2 := (ab_les_el hle h0 i).1
          rcases h1 with ⟨-, x, rfl, -⟩ | ⟨q, -⟩ | ⟨q, -⟩
          · rfl
          · omega
          · omega
        have hcat := ab_cat_sum _ _ w5
        refine ⟨q5, h.set d (100, mj_cpy xs ys sp.toNatClampNeg dp.toNatClampNeg n.toNatClampNeg), ?_, w5, ?_⟩
        · unfold mj_acopy
          dsimp only
          rw [f2, g2]
          dsimp only
          rw [if_pos ⟨rfl, rfl, c3, b1, a1, by omega, by omega, hall, c1, by rw [hcat]; exact c2⟩]
        · refine ⟨by rw [List.length_set]; exact hH.1, fun a' t' e => ?_⟩
          by_cases q : a' = d
          · subst q
            rw [hd] at e
            cases e
            have hlt : a' < h.length := (List.getElem?_eq_some_iff.mp g2).1
            refine ⟨100, lens, esd, _, hTd, by rw [List.getElem?_set_self hlt], by rw [mj_cpy_len (by omega) (by omega)]; exact g3, fun i v hv => ?_⟩
            rw [mj_cpy_get (by omega) (by omega)] at hv
            split at hv
            · rename_i hr
              have : sp.toNatClampNeg + (i - dp.toNatClampNeg) = i := by omega
              rw [this] at hv
              exact ab_le_ok (ab_les_el hle h0 i).2 (f4 i v hv)
            · exact g4 i v hv
          · obtain ⟨tag', len', es', xs', k1, k2, k3, k4⟩ := hH.2 a' t' e
            exact ⟨tag', len', es', xs', k1, by rw [List.getElem?_set_ne (Ne.symm q)]; exact k2, k3, k4⟩
      · cases hg
    · cases hg
  · cases hg
def ab_do (T : ab_T) (M : mj_M) (ins : Instr) (len pc : Nat) (al : ab_L) (A : List ab_V) : Option ab_W := match ins with
  | .bipush n => if len = 2 then some [(pc + 2, al, ab_int ((Int8.ofInt n).toInt32.toInt, (Int8.ofInt n).toInt32.toInt) :: A)] else none
  | .sipush n => if len = 3 then some [(pc + 3, al, ab_int ((Int16.ofInt n).toInt32.toInt, (Int16.ofInt n).toInt32.toInt) :: A)] else none
  | .ldc idx => match mj_ent M idx with
    | some (_, kd, v, _) => if len = 2 ∧ kd = 5 then some [(pc + 2, al, ab_int ((Int32.ofNat v).toInt, (Int32.ofNat v).toInt) :: A)] else none
    | none => none
  | .ldc_w idx => match mj_ent M idx with
    | some (_, kd, v, _) => if len = 3 ∧ kd = 5 then some [(pc + 3, al, ab_int ((Int32.ofNat v).toInt, (Int32.ofNat v).toInt) :: A)] else none
    | none => none
  | .ldc2_w idx => match mj_ent M idx with
    | some (_, kd, v, _) => if len = 3 ∧ kd = 6 then some [(pc + 3, al, ab_long ((Int64.ofNat v).toInt, (Int64.ofNat v).toInt) :: A)] else none
    | none => none
  | .getfield idx => if len = 3 then (ab_gf T M idx A).map (fun A' => [(pc + 3, al, A')]) else none
  | .putfield idx => if len = 3 then (ab_pf T M idx A).map (fun A' => [(pc + 3, al, A')]) else none
  | .iaload => if len = 1 then (ab_ald T 100 A).map (fun A' => [(pc + 1, al, A')]) else none
  | .caload => if len = 1 then (ab_ald T 101 A).map (fun A' => [(pc + 1, al, A')]) else none
  | .baload => if len = 1 then (ab_ald T 102 A).map (fun A' => [(pc + 1, al, A')]) else none
  | .aaload => if len = 1 then (ab_ald T 103 A).map (fun A' => [(pc + 1, al, A')]) else none
  | .iastore => if len = 1 then (ab_ast T 100 A).map (fun A' => [(pc + 1, al, A')]) else none
  | .bastore => if len = 1 then (ab_ast T 102 A).map (fun A' => [(pc + 1, al, A')]) else none
  | .invokestatic idx => match mj_ent M idx with
    | some (_, kd, _, _) => if len = 3 then (if kd = 7 then (ab_acopy T M A).map (fun A' => [(pc + 3, al, A')]) else if kd = 9 ∨ kd = 10 then (ab_mm M kd A).map (fun A' => [(pc + 3, al, A')]) else none) else none
    | none => none
  | ins => ab_dflt ins len M.2.2.1 pc al A
theorem ab_st_push {ty : List Nat} {lv : mj_L} {V : ab_V} {A : List ab_V} {v : Value} {st : List Value} (h : ab_s ty lv V v) (hs : ab_st ty lv A st) : ab_st ty lv (V :: A) (v :: st) := ⟨h, hs⟩
theorem ab_loc_nobr {ins : Instr} {len n pc : Nat} {al al' : ab_L} {A A' : List ab_V} {st : List Value} (h : ab_loc ins len n al A = some (al', A')) : mj_br ins len pc st = none := by
  cases ins <;> first
    | rfl
    | exact absurd (show (none : Option (ab_L × List ab_V)) = some (al', A') from h) (by simp)
theorem ab_alu_nobr {ins : Instr} {len n pc : Nat} {lv : mj_L} {A A' : List ab_V} {st : List Value} (h : ab_alu ins A = some A') : mj_br ins len pc st = none ∧ mj_loc ins len n lv st = none := by
  cases ins <;> first
    | exact ⟨rfl, rfl⟩
    | exact absurd (show (none : Option (List ab_V)) = some A' from h) (by simp)
/-- what a step comes to: one of the ways -/
def ab_to (ty : List Nat) (T : ab_T) (lv0 : mj_L) (M : mj_M) (ws : ab_W) (S S' : mj_S) : Prop := mj_one none S S' ∧ ∃ w ∈ ws, ∃ lv' st' h', S' = (M, w.1, lv', st', h') ∧ ab_l ty w.2.1 lv' ∧ ab_dl lv0 w.2.1 lv' ∧ ab_st ty lv' w.2.2 st' ∧ ab_H ty T h'
theorem ab_dflt_ok {ty : List Nat} {T : ab_T} {lv0 lv : mj_L} {M : mj_M} {ins : Instr} {len pc : Nat} {al : ab_L} {A : List ab_V} {st : List Value} {h : mj_H} {ws : ab_W} (hd : decode M.2.1 pc = .ok (ins, len)) (hdo : ∀ kc k : mj_S → mj_O, mj_do none kc k ins len M pc lv st h = (match mj_br ins len pc st with
        | some (pc', st') => k (M, pc', lv, st', h)
        | none => match mj_loc ins len M.2.2.1 lv st with
          | some (lv', st') => k (M, pc + len, lv', st', h)
          | none => if len = 1 then match mj_alu ins st with
            | some st' => k (M, pc + 1, lv, st', h)
            | none => none
            else none)) (hg : ab_dflt ins len M.2.2.1 pc al A = some ws) (hH : ab_H ty T h) (hl : ab_l ty al lv) (hdl : ab_dl lv0 al lv) (hs : ab_st ty lv A st) : ∃ S', ab_to ty T lv0 M ws (M, pc, lv, st, h) S' := by
  unfold ab_dflt at hg
  split at hg
  · rename_i ws' e
    cases hg
    obtain ⟨pc', st', w, g1, g2, g3, g4, g5⟩ := ab_br_ok e hl hs
    exact ⟨(M, pc', lv, st', h), mj_one_of hd (fun kc k => by rw [hdo, g1]), w, g2, lv, st', h, by rw [g3], g4, ab_br_dl e hdl w g2, g5, hH⟩
  · split at hg
    · rename_i al' A' e
      cases hg
      obtain ⟨lv', st', g1, g2, g3⟩ := ab_loc_ok e hl hs
      exact ⟨(M, pc + len, lv', st', h), mj_one_of hd (fun kc k => by rw [hdo, ab_loc_nobr e, g1]), _, List.mem_singleton.mpr rfl, lv', st', h, rfl, g2, ab_loc_dl e hl hdl g1, g3, hH⟩
    · split at hg
      · rename_i hlen
        split at hg
        · rename_i A' e
          cases hg
          obtain ⟨st', g1, g2⟩ := ab_alu_ok e hs
          have hn := ab_alu_nobr (len := len) (n := M.2.2.1) (pc := pc) (lv := lv) (st := st) e
          exact ⟨(M, pc + 1, lv, st', h), mj_one_of hd (fun kc k => by rw [hdo, hn.1]; dsimp only; rw [hn.2]; dsimp only; rw [if_pos hlen, g1]), _, List.mem_singleton.mpr rfl, lv, st', h, rfl, hl, hdl, g2, hH⟩
        · cases hg
      · cases hg
set_option maxHeartbeats 4000000 in
theorem ab_do_ok {ty : List Nat} {T : ab_T} {lv0 lv : mj_L} {M : mj_M} {ins : Instr} {len pc : Nat} {al : ab_L} {A : List ab_V} {st : List Value} {h : mj_H} {ws : ab_W} (hd : decode M.2.1 pc = .ok (ins, len)) (hg : ab_do T M ins len pc al A = some ws) (hH : ab_H ty T h) (hl : ab_l ty al lv) (hdl : ab_dl lv0 al lv) (hs : ab_st ty lv A st) : ∃ S', ab_to ty T lv0 M ws (M, pc, lv, st, h) S' := by
  cases ins with
  | bipush n =>
    simp only [ab_do] at hg
    split at hg
    · rename_i hlen; cases hg
      exact ⟨(M, pc + 2, lv, .int (Int8.ofInt n).toInt32 :: st, h), mj_one_of hd (fun kc k => by unfold mj_do; dsimp only; rw [if_pos hlen]), _, List.mem_singleton.mpr rfl, lv, _, h, rfl, hl, hdl, ab_st_push (ab_s_int ⟨Int.le_refl _, Int.le_refl _⟩) hs, hH⟩
    · cases hg
  | sipush n =>
    simp only [ab_do] at hg
    split at hg
    · rename_i hlen; cases hg
      exact ⟨(M, pc + 3, lv, .int (Int16.ofInt n).toInt32 :: st, h), mj_one_of hd (fun kc k => by unfold mj_do; dsimp only; rw [if_pos hlen]), _, List.mem_singleton.mpr rfl, lv, _, h, rfl, hl, hdl, ab_st_push (ab_s_int ⟨Int.le_refl _, Int.le_refl _⟩) hs, hH⟩
    · cases hg
  | ldc idx =>
    simp only [ab_do] at hg
    split at hg
    · rename_i z kd v z2 he
      split at hg
      · rename_i hc; cases hg
        have hm : mj_ldc M idx st = some (.int (Int32.ofNat v) :: st) := by unfold mj_ldc; rw [he]; dsimp only; rw [if_pos hc.2]
        exact ⟨(M, pc + 2, lv, .int (Int32.ofNat v) :: st, h), mj_one_of hd (fun kc k => by unfold mj_do; dsimp only; rw [if_pos hc.1, hm]), _, List.mem_singleton.mpr rfl, lv, _, h, rfl, hl, hdl, ab_st_push (ab_s_int ⟨Int.le_refl _, Int.le_refl _⟩) hs, hH⟩
      · cases hg
    · cases hg
  | ldc_w idx =>
    simp only [ab_do] at hg
    split at hg
    · rename_i z kd v z2 he
      split at hg
      · rename_i hc; cases hg
        have hm : mj_ldc M idx st = some (.int (Int32.ofNat v) :: st) := by unfold mj_ldc; rw [he]; dsimp only; rw [if_pos hc.2]
        exact ⟨(M, pc + 3, lv, .int (Int32.ofNat v) :: st, h), mj_one_of hd (fun kc k => by unfold mj_do; dsimp only; rw [if_pos hc.1, hm]), _, List.mem_singleton.mpr rfl, lv, _, h, rfl, hl, hdl, ab_st_push (ab_s_int ⟨Int.le_refl _, Int.le_refl _⟩) hs, hH⟩
      · cases hg
    · cases hg
  | ldc2_w idx =>
    simp only [ab_do] at hg
    split at hg
    · rename_i z kd v z2 he
      split at hg
      · rename_i hc; cases hg
        have hm : mj_ldc2 M idx st = some (.long (Int64.ofNat v) :: st) := by unfold mj_ldc2; rw [he]; dsimp only; rw [if_pos hc.2]
        exact ⟨(M, pc + 3, lv, .long (Int64.ofNat v) :: st, h), mj_one_of hd (fun kc k => by unfold mj_do; dsimp only; rw [if_pos hc.1, hm]), _, List.mem_singleton.mpr rfl, lv, _, h, rfl, hl, hdl, ab_st_push (ab_s_long ⟨Int.le_refl _, Int.le_refl _⟩) hs, hH⟩
      · cases hg
    · cases hg
  | getfield idx =>
    simp only [ab_do] at hg
    split at hg
    · rename_i hlen
      obtain ⟨A', e1, rfl⟩ := Option.map_eq_some_iff.mp hg
      obtain ⟨st', g1, g2⟩ := ab_gf_ok hH e1 hs
      exact ⟨_, mj_one_of hd (fun kc k => by unfold mj_do; dsimp only; rw [if_pos hlen, g1]), _, List.mem_singleton.mpr rfl, lv, _, h, rfl, hl, hdl, g2, hH⟩
    · cases hg
  | putfield idx =>
    simp only [ab_do] at hg
    split at hg
    · rename_i hlen
      obtain ⟨A', e1, rfl⟩ := Option.map_eq_some_iff.mp hg
      obtain ⟨st', h', g1, g2, g3⟩ := ab_pf_ok hH e1 hs
      exact ⟨_, mj_one_of hd (fun kc k => by unfold mj_do; dsimp only; rw [if_pos hlen, g1]), _, List.mem_singleton.mpr rfl, lv, _, h', rfl, hl, hdl, g2, g3⟩
    · cases hg
  | iaload =>
    simp only [ab_do] at hg
    split at hg
    · rename_i hlen
      obtain ⟨A', e1, rfl⟩ := Option.map_eq_some_iff.mp hg
      obtain ⟨st', g1, g2⟩ := ab_ald_ok (sc := none) hH e1 hs
      exact ⟨_, mj_one_of hd (fun kc k => by unfold mj_do; dsimp only; rw [if_pos hlen, g1]), _, List.mem_singleton.mpr rfl, lv, _, h, rfl, hl, hdl, g2, hH⟩
    · cases hg
  | caload =>
    simp only [ab_do] at hg
    split at hg
    · rename_i hlen
      obtain ⟨A', e1, rfl⟩ := Option.map_eq_some_iff.mp hg
      obtain ⟨st', g1, g2⟩ := ab_ald_ok (sc := none) hH e1 hs
      exact ⟨_, mj_one_of hd (fun kc k => by unfold mj_do; dsimp only; rw [if_pos hlen, g1]), _, List.mem_singleton.mpr rfl, lv, _, h, rfl, hl, hdl, g2, hH⟩
    · cases hg
  | baload =>
    simp only [ab_do] at hg
    split at hg
    · rename_i hlen
      obtain ⟨A', e1, rfl⟩ := Option.map_eq_some_iff.mp hg
      obtain ⟨st', g1, g2⟩ := ab_ald_ok (sc := none) hH e1 hs
      exact ⟨_, mj_one_of hd (fun kc k => by unfold mj_do; dsimp only; rw [if_pos hlen, g1]), _, List.mem_singleton.mpr rfl, lv, _, h, rfl, hl, hdl, g2, hH⟩
    · cases hg
  | aaload =>
    simp only [ab_do] at hg
    split at hg
    · rename_i hlen
      obtain ⟨A', e1, rfl⟩ := Option.map_eq_some_iff.mp hg
      obtain ⟨st', g1, g2⟩ := ab_ald_ok (sc := none) hH e1 hs
      exact ⟨_, mj_one_of hd (fun kc k => by unfold mj_do; dsimp only; rw [if_pos hlen, g1]), _, List.mem_singleton.mpr rfl, lv, _, h, rfl, hl, hdl, g2, hH⟩
    · cases hg
  | iastore =>
    simp only [ab_do] at hg
    split at hg
    · rename_i hlen
      obtain ⟨A', e1, rfl⟩ := Option.map_eq_some_iff.mp hg
      obtain ⟨st', h', g1, g2, g3⟩ := ab_ast_ok hH e1 hs
      exact ⟨_, mj_one_of hd (fun kc k => by unfold mj_do; dsimp only; rw [if_pos hlen, g1]), _, List.mem_singleton.mpr rfl, lv, _, h', rfl, hl, hdl, g2, g3⟩
    · cases hg
  | bastore =>
    simp only [ab_do] at hg
    split at hg
    · rename_i hlen
      obtain ⟨A', e1, rfl⟩ := Option.map_eq_some_iff.mp hg
      obtain ⟨st', h', g1, g2, g3⟩ := ab_ast_ok hH e1 hs
      exact ⟨_, mj_one_of hd (fun kc k => by unfold mj_do; dsimp only; rw [if_pos hlen, g1]), _, List.mem_singleton.mpr rfl, lv, _, h', rfl, hl, hdl, g2, g3⟩
    · cases hg
  | invokestatic idx =>
    simp only [ab_do] at hg
    split at hg
    · rename_i z kd z2 z3 he
      split at hg
      · rename_i hlen
        split at hg
        · rename_i hk
          subst hk
          obtain ⟨A', e1, rfl⟩ := Option.map_eq_some_iff.mp hg
          obtain ⟨st', h', g1, g2, g3⟩ := ab_acopy_ok hH e1 hs
          exact ⟨_, mj_one_of hd (fun kc k => by unfold mj_do; dsimp only; rw [if_pos hlen, he]; dsimp only; rw [if_pos rfl, g1]), _, List.mem_singleton.mpr rfl, lv, _, h', rfl, hl, hdl, g2, g3⟩
        · rename_i hk7
          split at hg
          · rename_i hk
            obtain ⟨A', e1, rfl⟩ := Option.map_eq_some_iff.mp hg
            obtain ⟨st', g1, g2⟩ := ab_mm_ok e1 hs
            exact ⟨_, mj_one_of hd (fun kc k => by unfold mj_do; dsimp only; rw [if_pos hlen, he]; dsimp only; rw [if_neg hk7, if_pos hk, g1]), _, List.mem_singleton.mpr rfl, lv, _, h, rfl, hl, hdl, g2, hH⟩
          · cases hg
      · cases hg
    · cases hg
  | _ => first
    | exact ab_dflt_ok hd (fun _ _ => rfl) hg hH hl hdl hs
    | (simp [ab_do, ab_dflt, ab_br, ab_loc, ab_alu] at hg; done)
