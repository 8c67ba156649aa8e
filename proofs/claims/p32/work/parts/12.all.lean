section MJ7
variable {l : Launch} {D : va_G} {cA : Nat → ClassId} {b B : Nat} {sc : Option (List Int32)} {kc k : mj_S → mj_O}
theorem mj_dflt (hk : mj_G l D cA b B sc k) {M : mj_M} {pc len : Nat} {lv : mj_L} {st : List Value} {h : mj_H} {r : Option Value} {h' : mj_H} {ins : Instr} (hd : decode M.2.1 pc = .ok (ins, len))
    (hs : (match mj_br ins len pc st with
        | some (pc', st') => k (M, pc', lv, st', h)
        | none => match mj_loc ins len M.2.2.1 lv st with
          | some (lv', st') => k (M, pc + len, lv', st', h)
          | none => if len = 1 then match mj_alu ins st with
            | some st' => k (M, pc + 1, lv, st', h)
            | none => none
            else none) = some (r, h')) : (h.length ≤ h'.length ∧ mj_sl h ≤ mj_sl h') ∧ mj_W l D cA b B sc M pc lv st h r h' := by
  split at hs
  · rename_i pc' st' e1
    exact mj_keep hk hs fun p e R s m args below meth c H locs cells slots ls Q a1 a2 a3 a4 a5 a6 a7 a8 a9 a10 a11 a12 a13 a14 a15 kk => mj_br_ok a1 a2 e1 hd (kk ls a10)
  · split at hs
    · rename_i lv' st' e1
      exact mj_keep hk hs fun p e R s m args below meth c H locs cells slots ls Q a1 a2 a3 a4 a5 a6 a7 a8 a9 a10 a11 a12 a13 a14 a15 kk => mj_loc_ok a1 a2 e1 hd a10 kk
    · split at hs
      · rename_i hl
        subst hl
        split at hs
        · rename_i st' e1
          exact mj_keep hk hs fun p e R s m args below meth c H locs cells slots ls Q a1 a2 a3 a4 a5 a6 a7 a8 a9 a10 a11 a12 a13 a14 a15 kk => mj_alu_ok a1 a2 e1 hd (kk ls a10)
        · cases hs
      · cases hs
theorem mj_take1 {st : List Value} {n : Nat} {v : Value} (h : st[n]? = some v) : (st.take (n + 1)).reverse = v :: (st.take n).reverse := by
  have hl : n < st.length := (List.getElem?_eq_some_iff.mp h).1
  have hv : st[n] = v := (List.getElem?_eq_some_iff.mp h).2
  rw [List.take_succ_eq_append_getElem hl, List.reverse_append, hv]
  rfl
theorem mj_split1 {st : List Value} {n : Nat} {v : Value} (b B : Nat) (h : st[n]? = some v) : st.map (mj_cv b B) = ((st.take n).reverse.map (mj_cv b B)).reverse ++ mj_cv b B v :: (st.drop (n + 1)).map (mj_cv b B) := by
  have hl : n < st.length := (List.getElem?_eq_some_iff.mp h).1
  have hv : st[n] = v := (List.getElem?_eq_some_iff.mp h).2
  have e1 : st = st.take n ++ v :: st.drop (n + 1) := by rw [← hv, List.getElem_cons_drop hl, List.take_append_drop]
  rw [← List.map_reverse, List.reverse_reverse, ← List.map_cons, ← List.map_append, ← e1]
theorem mj_split0 {st : List Value} {n : Nat} (b B : Nat) : st.map (mj_cv b B) = ((st.take n).reverse.map (mj_cv b B)).reverse ++ (st.drop n).map (mj_cv b B) := by
  rw [← List.map_reverse, List.reverse_reverse, ← List.map_append, List.take_append_drop]
theorem mj_words_ok {s : State} {args : Array Value} {M' : mj_M} (hM : M' ∈ mj_meths) (hts : ∀ w ∈ mj_tbl, w.before args s = true) : ∀ w ∈ mj_ws M', ∀ (a' : Array Value) (U : State), s.WarmedH U.vm → w.before a' U = true := by
  intro w hw a' U hW
  have hm : w ∈ mj_tbl := by
    rcases List.mem_cons.mp hw with rfl | h
    · exact (mj_mth_good hM).1
    · exact h
  exact word_at hW (good_of_word (List.mem_filter.mp hm).2) (hts w hm)
theorem mj_params {M' : mj_M} (hM : M' ∈ mj_meths) : ∀ sig, parseMethodDescriptor M'.1.desc = some sig → M'.2.2.2.2.2.1 = sig.parameters.length := by
  intro sig h
  have h2 := (mj_plain M' hM).2.2.2.2.1
  rw [h] at h2
  exact (Option.some.inj h2).symm
theorem mj_monoroom {m : MethodId} {pc : Nat} {ls : Array Slot} {st rest : List Value} (h : (rest.map fun v => v.category).sum ≤ 8) : 2 * (F0 m pc ls st).monitorRoom + (rest.map fun v => v.category).sum ≤ 8 := by
  have : (F0 m pc ls st).monitorRoom = 0 := rfl
  omega
set_option maxHeartbeats 4000000 in
theorem mj_step_ok (hkc : mj_G l D cA b B none kc) (hk : mj_G l D cA b B sc k) : mj_G l D cA b B sc (mj_step sc kc k) := by
  intro M pc lv st h r h' hs
  unfold mj_step at hs
  dsimp only at hs
  split at hs
  · cases hs
  · rename_i ins len hd
    cases ins with
    | bipush n =>
      dsimp only at hs
      split at hs
      · rename_i hl; subst hl
        exact mj_keep hk hs fun p e R s m args below meth c H locs cells slots ls Q a1 a2 a3 a4 a5 a6 a7 a8 a9 a10 a11 a12 a13 a14 a15 kk => lv_bipush a1 a2 hd rfl (kk ls a10)
      · cases hs
    | sipush n =>
      dsimp only at hs
      split at hs
      · rename_i hl; subst hl
        exact mj_keep hk hs fun p e R s m args below meth c H locs cells slots ls Q a1 a2 a3 a4 a5 a6 a7 a8 a9 a10 a11 a12 a13 a14 a15 kk => lv_sipush a1 a2 hd rfl (kk ls a10)
      · cases hs
    | ldc idx =>
      dsimp only at hs
      split at hs
      · rename_i hl; subst hl
        split at hs
        · rename_i st' e1
          exact mj_keep hk hs fun p e R s m args below meth c H locs cells slots ls Q a1 a2 a3 a4 a5 a6 a7 a8 a9 a10 a11 a12 a13 a14 a15 kk => mj_ldc_ok a1 a2 a3 a4 a5 e1 hd (kk ls a10)
        · cases hs
      · cases hs
    | ldc_w idx =>
      dsimp only at hs
      split at hs
      · rename_i hl; subst hl
        split at hs
        · rename_i st' e1
          exact mj_keep hk hs fun p e R s m args below meth c H locs cells slots ls Q a1 a2 a3 a4 a5 a6 a7 a8 a9 a10 a11 a12 a13 a14 a15 kk => mj_ldcw_ok a1 a2 a3 a4 a5 e1 hd (kk ls a10)
        · cases hs
      · cases hs
    | ldc2_w idx =>
      dsimp only at hs
      split at hs
      · rename_i hl; subst hl
        split at hs
        · rename_i st' e1
          exact mj_keep hk hs fun p e R s m args below meth c H locs cells slots ls Q a1 a2 a3 a4 a5 a6 a7 a8 a9 a10 a11 a12 a13 a14 a15 kk => mj_ldc2_ok a1 a2 a3 a4 a5 e1 hd (kk ls a10)
        · cases hs
      · cases hs
    | getfield idx =>
      dsimp only at hs
      split at hs
      · rename_i hl; subst hl
        split at hs
        · rename_i st' e1
          exact mj_keep hk hs fun p e R s m args below meth c H locs cells slots ls Q a1 a2 a3 a4 a5 a6 a7 a8 a9 a10 a11 a12 a13 a14 a15 kk => mj_gf_ok a1 a2 a3 a4 a5 a6 a9 e1 hd (kk ls a10)
        · cases hs
      · cases hs
    | putfield idx =>
      dsimp only at hs
      split at hs
      · rename_i hl; subst hl
        split at hs
        · rename_i st' h1 e1
          have hlen : (h1.map fun c => c.2.length) = (h.map fun c => c.2.length) := mj_pf_len e1
          exact mj_write hk hs hlen fun p e R s m args below meth c H locs cells slots ls Q a1 a2 a3 a4 a5 a6 a7 a8 a9 a10 a11 kk => mj_pf_ok a1 a2 a3 a4 a5 a6 a7 a8 e1 hd (fun H1 a i c1 _ c3 _ _ => kk H1 a [⟨B + a, i⟩] c1 c3 (fun q hq => by rw [List.mem_singleton.mp hq]))
        · cases hs
      · cases hs
    | new idx =>
      dsimp only at hs
      split at hs
      · rename_i hl; subst hl
        split at hs
        · rename_i st' h1 e1
          obtain ⟨t, ys, rfl⟩ := mj_new_app e1
          exact mj_made hk hs fun p e R s m args below meth c H locs cells slots ls Q a1 a2 a3 a4 a5 a6 a7 kk => mj_new_ok a1 a2 a3 a4 a5 a6 a7 e1 hd (fun t2 ys2 he => by
            obtain ⟨rfl, rfl⟩ := Prod.mk.inj (List.cons.inj (List.append_cancel_left he)).1
            exact kk)
        · cases hs
      · cases hs
    | newarray a0 =>
      dsimp only at hs
      split at hs
      · rename_i hl; subst hl
        split at hs
        · rename_i st' h1 e1
          obtain ⟨t, ys, rfl⟩ := mj_newa_app e1
          exact mj_made hk hs fun p e R s m args below meth c H locs cells slots ls Q a1 a2 a3 a4 a5 a6 a7 kk => mj_newa_ok a1 a2 a5 a6 a7 e1 hd (fun t2 ys2 he => by
            obtain ⟨rfl, rfl⟩ := Prod.mk.inj (List.cons.inj (List.append_cancel_left he)).1
            exact kk)
        · cases hs
      · cases hs
    | anewarray idx =>
      dsimp only at hs
      split at hs
      · rename_i hl; subst hl
        split at hs
        · rename_i st' h1 e1
          obtain ⟨t, ys, rfl⟩ := mj_anew_app e1
          exact mj_made hk hs fun p e R s m args below meth c H locs cells slots ls Q a1 a2 a3 a4 a5 a6 a7 kk => mj_anew_ok a1 a2 a3 a4 a5 a6 a7 e1 hd (fun t2 ys2 he => by
            obtain ⟨rfl, rfl⟩ := Prod.mk.inj (List.cons.inj (List.append_cancel_left he)).1
            exact kk)
        · cases hs
      · cases hs
    | iaload =>
      dsimp only at hs
      split at hs
      · rename_i hl; subst hl
        split at hs
        · rename_i st' e1
          exact mj_keep hk hs fun p e R s m args below meth c H locs cells slots ls Q a1 a2 a3 a4 a5 a6 a7 a8 a9 a10 a11 a12 a13 a14 a15 kk => mj_iald_ok a1 a2 a6 a9 a7 a8 e1 hd (kk ls a10)
        · cases hs
      · cases hs
    | caload =>
      dsimp only at hs
      split at hs
      · rename_i hl; subst hl
        split at hs
        · rename_i st' e1
          exact mj_keep hk hs fun p e R s m args below meth c H locs cells slots ls Q a1 a2 a3 a4 a5 a6 a7 a8 a9 a10 a11 a12 a13 a14 a15 kk => mj_cald_ok a1 a2 a6 a9 e1 hd (kk ls a10)
        · cases hs
      · cases hs
    | baload =>
      dsimp only at hs
      split at hs
      · rename_i hl; subst hl
        split at hs
        · rename_i st' e1
          exact mj_keep hk hs fun p e R s m args below meth c H locs cells slots ls Q a1 a2 a3 a4 a5 a6 a7 a8 a9 a10 a11 a12 a13 a14 a15 kk => mj_zald_ok a1 a2 a6 a9 e1 hd (kk ls a10)
        · cases hs
      · cases hs
    | aaload =>
      dsimp only at hs
      split at hs
      · rename_i hl; subst hl
        split at hs
        · rename_i st' e1
          exact mj_keep hk hs fun p e R s m args below meth c H locs cells slots ls Q a1 a2 a3 a4 a5 a6 a7 a8 a9 a10 a11 a12 a13 a14 a15 kk => mj_aald_ok a1 a2 a6 a9 e1 hd (kk ls a10)
        · cases hs
      · cases hs
    | iastore =>
      dsimp only at hs
      split at hs
      · rename_i hl; subst hl
        split at hs
        · rename_i st' h1 e1
          exact mj_write hk hs (mj_ast_len e1) fun p e R s m args below meth c H locs cells slots ls Q a1 a2 a3 a4 a5 a6 a7 a8 a9 a10 a11 kk => mj_iast_ok a1 a2 a7 a8 e1 hd (fun H1 a i c1 _ c3 _ _ => kk H1 a [⟨B + a, i⟩] c1 c3 (fun q hq => by rw [List.mem_singleton.mp hq]))
        · cases hs
      · cases hs
    | castore =>
      dsimp only at hs
      split at hs
      · rename_i hl; subst hl
        split at hs
        · rename_i st' h1 e1
          exact mj_write hk hs (mj_ast_len e1) fun p e R s m args below meth c H locs cells slots ls Q a1 a2 a3 a4 a5 a6 a7 a8 a9 a10 a11 kk => mj_cast_ok a1 a2 a7 a8 e1 hd (fun H1 a i c1 _ c3 _ _ => kk H1 a [⟨B + a, i⟩] c1 c3 (fun q hq => by rw [List.mem_singleton.mp hq]))
        · cases hs
      · cases hs
    | bastore =>
      dsimp only at hs
      split at hs
      · rename_i hl; subst hl
        split at hs
        · rename_i st' h1 e1
          exact mj_write hk hs (mj_ast_len e1) fun p e R s m args below meth c H locs cells slots ls Q a1 a2 a3 a4 a5 a6 a7 a8 a9 a10 a11 kk => mj_zast_ok a1 a2 a7 a8 e1 hd (fun H1 a i c1 _ c3 _ _ => kk H1 a [⟨B + a, i⟩] c1 c3 (fun q hq => by rw [List.mem_singleton.mp hq]))
        · cases hs
      · cases hs
    | aastore =>
      dsimp only at hs
      split at hs
      · rename_i hl; subst hl
        split at hs
        · rename_i st' h1 e1
          exact mj_write hk hs (mj_aast_len e1) fun p e R s m args below meth c H locs cells slots ls Q a1 a2 a3 a4 a5 a6 a7 a8 a9 a10 a11 kk => mj_aast_ok a1 a2 a7 a8 e1 hd (fun H1 a i c1 _ c3 _ _ => kk H1 a [⟨B + a, i⟩] c1 c3 (fun q hq => by rw [List.mem_singleton.mp hq]))
        · cases hs
      · cases hs
    | arraylength =>
      dsimp only at hs
      split at hs
      · rename_i hl; subst hl
        split at hs
        · rename_i st' e1
          exact mj_keep hk hs fun p e R s m args below meth c H locs cells slots ls Q a1 a2 a3 a4 a5 a6 a7 a8 a9 a10 a11 a12 a13 a14 a15 kk => mj_alen_ok a1 a2 a6 a9 a7 a8 e1 hd (kk ls a10)
        · cases hs
      · cases hs
    | ireturn =>
      dsimp only at hs
      split at hs
      · rename_i hl; subst hl
        split at hs
        · rename_i v ty hret
          split at hs
          · rename_i hnar
            cases hs
            refine ⟨⟨Nat.le_refl _, Nat.le_refl _⟩, ?_⟩
            intro p e R s m args below meth c H locs n0 s0 ls Q a1 a2 a3 a4 a5 a6 a7 a8 a9 a10 a11 a12 a13 a14 a15 a16 a17 a18 a19 a20 a21
            exact a21 H locs pc ls a11 a12 a13 (Or.inr ⟨v, ty, rfl, hret, hnar, hd⟩)
          · cases hs
        · cases hs
      · cases hs
    | return_ =>
      dsimp only at hs
      split at hs
      · rename_i hl; subst hl
        split at hs
        · rename_i hret
          cases hs
          refine ⟨⟨Nat.le_refl _, Nat.le_refl _⟩, ?_⟩
          intro p e R s m args below meth c H locs n0 s0 ls Q a1 a2 a3 a4 a5 a6 a7 a8 a9 a10 a11 a12 a13 a14 a15 a16 a17 a18 a19 a20 a21
          exact a21 H locs pc ls a11 a12 a13 (Or.inl ⟨rfl, hret, hd⟩)
        · cases hs
      · cases hs
    | invokestatic idx =>
      dsimp only at hs
      split at hs
      · rename_i hl; subst hl
        split at hs
        · rename_i ix kd j zz he
          split at hs
          · rename_i hkd; subst hkd
            split at hs
            · rename_i st' h1 e1
              exact mj_write hk hs (mj_acopy_len e1) fun p e R s m args below meth c H locs cells slots ls Q a1 a2 a3 a4 a5 a6 a7 a8 a9 a10 a11 kk => mj_acopy_ok a1 a2 a3 a4 a6 a7 a8 a9 a10 a11 he e1 hd (fun H1 a L c1 _ c3 c4 _ _ => kk H1 a L c1 c3 c4)
            · cases hs
          · split at hs
            · rename_i hkd
              split at hs
              · rename_i st' e1
                exact mj_keep hk hs fun p e R s m args below meth c H locs cells slots ls Q a1 a2 a3 a4 a5 a6 a7 a8 a9 a10 a11 a12 a13 a14 a15 kk => mj_mm_ok a1 a2 a3 a4 a5 a11 a12 a13 a14 a15 he hkd e1 hd (kk ls a10)
              · cases hs
            · split at hs
              · rename_i M' hj
                split at hs
                · rename_i hh
                  obtain ⟨rfl, hst⟩ := hh
                  have hM : M' ∈ mj_meths := List.mem_of_getElem? hj
                  refine mj_called hkc hk hM hs fun r1 h1 p e R s m args below meth c H locs cells slots mc ms ls hMet a1 a2 a3 a4 a5 a6 a7 a8 a9 a10 a11 a12 a13 a14 a15 a16 => ?_
                  obtain ⟨g1, g2, -⟩ := mj_ent_in he a5
                  dsimp only at g1
                  subst g1
                  have hlink : (Cond.methodLink M.1.cls ix M'.1).before args s = true := mj_good a6 (show Cond.methodLink M.1.cls ix M'.1 ∈ lw_tbl by simp only [mj_word, hj] at g2; exact g2) rfl
                  have hstat : (Cond.static M'.1).before args s = true := by
                    have := mj_inK _ (List.mem_map_of_mem hM)
                    rw [mj_wK, if_pos hst] at this
                    exact mj_good a6 this rfl
                  have hpl := mj_plain M' hM
                  exact va_runS (Ts := mj_tbl) (bytes := M'.2.1) (maxL := M'.2.2.1) (ret := M'.2.2.2.1) (n := M'.2.2.2.2.2.1) ⟨a1, a2, a3, a4, a6⟩ hMet ⟨⟨rfl, rfl, a10, a11, mj_words_ok hM a6, List.mem_cons_self, a6 _ (mj_mth_good hM).1, a6 _ (mj_mth_good hM).2, ⟨hpl.2.2.1, hpl.2.2.2.1⟩, mj_params hM, hlink⟩, hstat⟩ ⟨mj_blind, a16⟩ rfl (by rw [List.length_map, List.length_reverse, List.length_take]; omega) a9 (mj_split0 b B) (mj_monoroom a15) hd ⟨a12, a13⟩
                · cases hs
              · cases hs
        · cases hs
      · cases hs
    | invokevirtual idx =>
      dsimp only at hs
      split at hs
      · rename_i hl; subst hl
        split at hs
        · rename_i ix kd j zz he
          split at hs
          · rename_i M' hj
            split at hs
            · rename_i a hsa
              split at hs
              · rename_i t xs hcell
                split at hs
                · rename_i hh
                  obtain ⟨rfl, hkd, htc, hlt⟩ := hh
                  have hM : M' ∈ mj_meths := List.mem_of_getElem? hj
                  have hpl := mj_plain M' hM
                  refine mj_called hkc hk hM hs fun r1 h1 p e R s m args below meth c H locs cells slots mc ms ls hMet a1 a2 a3 a4 a5 a6 a7 a8 a9 a10 a11 a12 a13 a14 a15 a16 => ?_
                  obtain ⟨g1, g2, -⟩ := mj_ent_in he a5
                  dsimp only at g1
                  subst g1
                  have hlink : (Cond.methodLink M.1.cls ix M'.1).before args s = true := mj_good a6 (show Cond.methodLink M.1.cls ix M'.1 ∈ lw_tbl by simp only [mj_word, hj] at g2; exact g2) rfl
                  have hinst : (Cond.instanceMethod M'.1).before args s = true := by
                    have := mj_inK _ (List.mem_map_of_mem hM)
                    rw [mj_wK, if_neg (by rw [hkd]; decide)] at this
                    exact mj_good a6 this rfl
                  have hsel : (Cond.selects M'.1.cls M'.1 M'.1).before args s = true := mj_good a6 (mj_inS _ (List.mem_map_of_mem (List.mem_filter.mpr ⟨hM, by simp [hkd]⟩))) rfl
                  obtain ⟨q, hq, hlen, hob⟩ : ∃ q : vw_C, vwCl[t]? = some q ∧ q.2.2 = xs.length ∧ t_OB (B + a) (D.1 t) q.2.2 (D.2 t) H (vp_V (xs.map (mj_cv b B))) := by
                    rcases a8.2 a t xs hcell with ⟨-, q, c1, c2, c3⟩ | ⟨c1, -⟩
                    · exact ⟨q, c1, c2, c3⟩
                    · omega
                  have hC := mj_cls t q hq
                  have hqc : q.1 = M'.1.cls := by
                    have e1 := hC.2.2.2.2
                    rw [htc, hpl.2.1] at e1
                    exact (Option.some.inj e1).symm
                  have hrecv : ∃ cellB : Cell, H[B + a]? = some cellB ∧ cellB.vm.isStatics = false ∧ s.vm.findClass M'.1.cls = some cellB.cls := by
                    obtain ⟨cell, c1, c2, c3, -⟩ := hob
                    exact ⟨cell, c1, by rw [c3]; rfl, by rw [c2, ← hqc]; exact (a7.1.1 t q hq).2.1⟩
                  have e1 := mj_take1 hsa
                  rw [e1] at hMet a16 ⊢
                  exact va_runV (Ts := mj_tbl) (C := M'.1.cls) (b := B + a) (As := (st.take M'.2.2.2.2.2.1).reverse.map (mj_cv b B)) (bytes := M'.2.1) (maxL := M'.2.2.1) (ret := M'.2.2.2.1) (n := M'.2.2.2.2.2.1) ⟨a1, a2, a3, a4, a6⟩ hMet ⟨⟨rfl, rfl, a10, a11, mj_words_ok hM a6, List.mem_cons_self, a6 _ (mj_mth_good hM).1, a6 _ (mj_mth_good hM).2, ⟨hpl.2.2.1, hpl.2.2.2.1⟩, mj_params hM, hlink⟩, hinst, hsel⟩ ⟨mj_blind, hrecv, a16⟩ rfl (by rw [List.length_map, List.length_reverse, List.length_take]; omega) a9 (mj_split1 b B hsa) (mj_monoroom a15) hd ⟨a12, a13⟩
                · cases hs
              · cases hs
            · cases hs
          · cases hs
        · cases hs
      · cases hs
    | invokespecial idx =>
      dsimp only at hs
      split at hs
      · rename_i hl; subst hl
        split at hs
        · rename_i ix kd j zz he
          split at hs
          · rename_i hkd; subst hkd
            split at hs
            · rename_i a r0
              split at hs
              · rename_i hh
                exact mj_keep hk hs fun p e R s m args below meth c H locs cells slots ls Q a1 a2 a3 a4 a5 a6 a7 a8 a9 a10 a11 a12 a13 a14 a15 kk => mj_oi_ok a1 a2 a3 a4 a5 a11 a12 a13 he hh.1 hh.2 hd (kk ls a10)
              · cases hs
            · cases hs
          · split at hs
            · rename_i M' hj
              split at hs
              · rename_i a hsa
                split at hs
                · rename_i hh
                  obtain ⟨hk23, hkd⟩ := hh
                  have hM : M' ∈ mj_meths := List.mem_of_getElem? hj
                  have hpl := mj_plain M' hM
                  have hini := hpl.2.2.2.2.2 hkd
                  refine mj_called hkc hk hM hs fun r1 h1 p e R s m args below meth c H locs cells slots mc ms ls hMet a1 a2 a3 a4 a5 a6 a7 a8 a9 a10 a11 a12 a13 a14 a15 a16 => ?_
                  obtain ⟨g1, g2, pool, g3, g4⟩ := mj_ent_in he a5
                  dsimp only at g1
                  subst g1
                  have hinst : (Cond.instanceMethod M'.1).before args s = true := by
                    have := mj_inK _ (List.mem_map_of_mem hM)
                    rw [mj_wK, if_neg (by rw [hkd]; decide)] at this
                    exact mj_good a6 this rfl
                  have e1 := mj_take1 hsa
                  rw [e1] at hMet a16 ⊢
                  have hcw : Cond.code M'.1 M'.2.1 M'.2.2.1 none ∈ mj_tbl := by
                    have := (mj_mth_good hM).1
                    rw [mj_wC, hini.2] at this
                    exact this
                  have hcw2 : Cond.code M'.1 M'.2.1 M'.2.2.1 none ∈ mj_ws M' := List.mem_cons_of_mem _ hcw
                  rcases hk23 with rfl | rfl
                  · have hlink : (Cond.methodLink M.1.cls ix M'.1).before args s = true := mj_good a6 (show Cond.methodLink M.1.cls ix M'.1 ∈ lw_tbl by simp only [mj_word, hj] at g2; exact g2) rfl
                    exact va_runI (Ts := mj_tbl) (b := B + a) (As := (st.take M'.2.2.2.2.2.1).reverse.map (mj_cv b B)) (bytes := M'.2.1) (maxL := M'.2.2.1) (n := M'.2.2.2.2.2.1) ⟨a1, a2, a3, a4, a6⟩ hMet ⟨⟨rfl, rfl, a10, a11, mj_words_ok hM a6, hcw2, a6 _ hcw, a6 _ (mj_mth_good hM).2, ⟨hpl.2.2.1, hpl.2.2.2.1⟩, mj_params hM, hlink⟩, hini.1, hinst⟩ ⟨mj_blind, a16⟩ rfl (by rw [List.length_map, List.length_reverse, List.length_take]; omega) a9 (mj_split1 b B hsa) (mj_monoroom a15) hd ⟨a12, a13⟩
                  · have hw := a7.2.1 _ _ _ g3 a5 _ g4 (Or.inr rfl)
                    simp only [mj_word, hj] at hw
                    have hlink : (Cond.methodLinkNest M.1.cls ix M'.1 "SootMaps").before args s = true := va_Nw.use rfl hw
                    exact va_runIN (Ts := mj_tbl) (b := B + a) (As := (st.take M'.2.2.2.2.2.1).reverse.map (mj_cv b B)) (bytes := M'.2.1) (maxL := M'.2.2.1) (n := M'.2.2.2.2.2.1) ⟨a1, a2, a3, a4, a6⟩ hMet ⟨⟨⟨rfl, rfl, a10, a11, mj_words_ok hM a6, hcw2⟩, a6 _ hcw, a6 _ (mj_mth_good hM).2, ⟨hpl.2.2.1, hpl.2.2.2.1⟩, mj_params hM, hlink⟩, hini.1, hinst⟩ ⟨mj_blind, a16⟩ rfl (by rw [List.length_map, List.length_reverse, List.length_take]; omega) a9 (mj_split1 b B hsa) (mj_monoroom a15) hd ⟨a12, a13⟩
                · cases hs
              · cases hs
            · cases hs
        · cases hs
      · cases hs
    | _ => exact mj_dflt hk hd hs
theorem mj_sound (f : Nat) : mj_G l D cA b B none (mj_ex f) := by
  induction f with
  | zero => intro M pc lv st h r h' hs; cases hs
  | succ f ih => exact mj_step_ok ih ih
theorem mj_soundL (sc : List Int32) (f0 f : Nat) : mj_G l D cA b B (some sc) (mj_exL sc (mj_ex f0) f) := by
  induction f with
  | zero => intro M pc lv st h r h' hs; cases hs
  | succ f ih => exact mj_step_ok (mj_sound f0) ih
end MJ7
