/-! The rows of the heap: fields, arrays, new ones, copies -/
section MJ2
variable {p : Program} {l : Launch} {e : Env} {R : Room} {s : State} {m : MethodId} {args : Array Value} {below : List Frame} {meth : Method} {c : Code} {H : Heap} {locs : List Loc} {cells slots : Nat} {Q : State → Prop}
variable {cc : ByteArray} {pc : Nat} {ls : Array Slot} {b B : Nat} {D : va_G} {cA : Nat → ClassId} {M : mj_M} {h : mj_H} {sc : Option (List Int32)}
theorem mj_good {w : Cond} (hts : ∀ w ∈ mj_tbl, w.before args s = true) (h : w ∈ lw_tbl) (hg : goodWord w = true) : w.before args s = true := hts w (mj_tbl_of h hg)
set_option maxHeartbeats 1000000 in
theorem mj_gf_ok (hx : p.tables.exec = Jvm.exec) (hb : c.code = M.2.1) (hown : s.vm.findClass M.1.cls = some m.cls) (hn : mj_names[M.2.2.2.2.1]? = some M.1.cls) (hts : ∀ w ∈ mj_tbl, w.before args s = true) (hK : mj_K D cA s) (hR : mj_R D cA b B h H)
    {idx : Nat} {st st' : List Value} (hs : mj_gf M idx st h = some st') (hd : decode M.2.1 pc = .ok (.getfield idx, 3))
    (k : W p l e R s m args below meth c H locs cells slots Q (F0 m (pc + 3) ls (st'.map (mj_cv b B)))) : W p l e R s m args below meth c H locs cells slots Q (F0 m pc ls (st.map (mj_cv b B))) := by
  unfold mj_gf at hs
  split at hs
  · rename_i ix kd ci kf he
    split at hs
    · rename_i hkd
      split at hs
      · rename_i a r
        split at hs
        · rename_i t xs hcell
          split at hs
          · rename_i htc
            obtain ⟨rfl, hlt⟩ := htc
            split at hs
            · rename_i v hv
              cases hs
              obtain ⟨h1, h2, pool, h3, h4⟩ := mj_ent_in he hn
              dsimp only at h1
              subst h1
              rcases hR.2 a t xs hcell with ⟨-, q, hq, hlen, hob⟩ | ⟨hbad, -⟩
              · have hC := mj_cls t q hq
                have hP : va_P D vwCl [(B + a, .inr (t, xs.map (mj_cv b B)))] H := by
                  intro k' z hz
                  match k', hz with
                  | 0, hz => cases hz; exact ⟨q, hq, hob⟩
                  | k' + 1, hz => simp at hz
                have hkN : kf < q.2.2 := by rw [hlen]; exact (List.getElem?_eq_some_iff.mp hv).1
                have hT1 : (q.2.1 kf).1 = q.1 := hC.2.2.2.1 kf hkN
                rcases (show kd = 0 ∨ kd = 1 by omega) with rfl | rfl
                · have hw : Cond.fieldLink M.1.cls ix (q.2.1 kf).1 (q.2.1 kf).2.1 (q.2.1 kf).2.2.1 ∈ lw_tbl := by
                    have := h2
                    simp only [mj_word, hq] at this
                    exact this
                  exact va_get (C := q.1) (T := q.2.1) (N := q.2.2) hx hb hts hC.uws hown hK.1 hP 0 rfl hq kf hkN (mj_good hts hw rfl) (fun _ z => z) (v := mj_cv b B v) (by rw [List.getElem?_map, hv]; rfl) hd k
                · have hw := hK.2.1 _ _ _ h3 hn _ h4 (Or.inl rfl)
                  simp only [mj_word, hq] at hw
                  exact va_getN (C := q.1) (T := q.2.1) (N := q.2.2) hx hb hts hC.uws hown hK.1 hP 0 rfl hq kf hkN (va_Nw.use rfl hw) (fun _ z => z) (v := mj_cv b B v) (by rw [List.getElem?_map, hv]; rfl) hd k
              · omega
            · cases hs
          · cases hs
        · cases hs
      · cases hs
    · cases hs
  · cases hs
theorem mj_cv_fits {ty : FieldType} {v : Value} (h : fits ty v = true) : fits ty (mj_cv b B v) = true := by
  cases v <;> first | exact h | skip
  · cases ty <;> first | exact h | simp [fits] at h
  · cases ty <;> simp [fits] at h
theorem mj_cv_narrow {ty : FieldType} {v : Value} (h : narrow ty v = v) : narrow ty (mj_cv b B v) = mj_cv b B v := by
  cases v <;> first | exact h | (cases ty <;> rfl)
set_option maxHeartbeats 2000000 in
theorem mj_pf_ok (hx : p.tables.exec = Jvm.exec) (hb : c.code = M.2.1) (hown : s.vm.findClass M.1.cls = some m.cls) (hn : mj_names[M.2.2.2.2.1]? = some M.1.cls) (hin : M.2.2.2.2.2.2.1 = 2 → meth.name = "<init>") (hts : ∀ w ∈ mj_tbl, w.before args s = true) (hK : mj_K D cA s) (hR : mj_R D cA b B h H)
    {idx : Nat} {st st' : List Value} {h' : mj_H} (hs : mj_pf M idx st h = some (st', h')) (hd : decode M.2.1 pc = .ok (.putfield idx, 3))
    (k : ∀ (H1 : Heap) (a i : Nat), mj_R D cA b B h' H1 → H1.size = H.size → (∀ q, q ≠ B + a → H1[q]? = H[q]?) → h'.length = h.length → (h'.map fun c => c.2.length) = (h.map fun c => c.2.length) → W p l e R s m args below meth c H1 (locs ++ [⟨B + a, i⟩]) cells slots Q (F0 m (pc + 3) ls (st'.map (mj_cv b B)))) : W p l e R s m args below meth c H locs cells slots Q (F0 m pc ls (st.map (mj_cv b B))) := by
  unfold mj_pf at hs
  split at hs
  · rename_i ix kd ci kf he
    split at hs
    · rename_i hkd
      split at hs
      · rename_i v a r
        split at hs
        · rename_i t xs hcell
          split at hs
          · rename_i htc
            obtain ⟨rfl, hlt, hkl, hnar, hfit, hfin⟩ := htc
            cases hs
            obtain ⟨h1, h2, pool, h3, h4⟩ := mj_ent_in he hn
            dsimp only at h1
            subst h1
            rcases hR.2 a t xs hcell with ⟨-, q, hq, hlen, hob⟩ | ⟨hbad, -⟩
            · have hC := mj_cls t q hq
              have hkN : kf < q.2.2 := by rw [hlen]; exact hkl
              have hap := va_apart (own := M.1.cls) (D := D) (cl := vwCl) (tys := mj_arrs cA) hts hC.uws (mj_ty t) hC.2.1 hC.2.2.1 hK.1 hq
              obtain ⟨cell, q1, q2, q3, q4⟩ := hob
              obtain ⟨hS, hfc, kC, hkC, hkind⟩ := hK.1.1 t _ hq
              obtain ⟨cf, kc, fi, f, hi, hsl⟩ := hS kf hkN
              have hst := (u_facts hfc hkC (u_lays hts hC.uws hkN) hi).1
              have hnn : ∀ H1 : Heap, H1[B + a]? = some (cell.setSlot f.slot (mj_cv b B v)) → mj_at D cA b B H1 a t (xs.set kf v) := by
                intro H1 e1
                rw [hsl] at e1
                exact Or.inl ⟨hlt, q, hq, by rw [List.length_set]; exact hlen, t_OB.to (V := updV (vp_V (xs.map (mj_cv b B))) kf (mj_cv b B v)) ⟨_, e1, q2, q3, t_set q4 hap hkN _⟩ (fun j _ => mj_vp_set hkl j)⟩
              have hlens : ((h.set a (t, xs.set kf v)).map fun c => c.2.length) = (h.map fun c => c.2.length) := by
                rw [List.map_set]
                apply List.ext_getElem?
                intro j
                rw [List.getElem?_set]
                split
                · rename_i e2
                  subst e2
                  simp only [List.length_map, List.length_set, List.getElem?_map, hcell]
                  have : a < h.length := (List.getElem?_eq_some_iff.mp hcell).1
                  simp [this]
                · rfl
              have hd1 : parseFieldDescriptor (q.2.1 kf).2.2.1 = some (mj_ty t kf) := hC.2.1 kf hkN
              rcases hfin with hfin | ⟨rfl, hk2, ho2, hft0⟩
              · have hfin' : (q.2.1 kf).2.2.2 = false := by simpa only [mj_fin, hq] using hfin
                have hlay := hts _ (hC.uws _ (u_in_lay hkN))
                unfold u_lay at hlay
                rw [if_neg (by rw [hfin']; decide)] at hlay
                have h6 := u_store hfc hkC hkind hlay hi hd1 (mj_cv_narrow (b := b) (B := B) hnar) (mj_cv_fits (b := b) (B := B) hfit)
                rcases (show kd = 0 ∨ kd = 1 by omega) with rfl | rfl
                · have hw : Cond.fieldLink M.1.cls ix (q.2.1 kf).1 (q.2.1 kf).2.1 (q.2.1 kf).2.2.1 ∈ lw_tbl := by
                    have := h2
                    simp only [mj_word, hq] at this
                    exact this
                  refine W.putK hx hb (f := f) ⟨hown, mj_good hts hw rfl, ⟨_, _, _, hi⟩, hst⟩ (by rw [q2]; exact h6) q1 q3 (by rw [hsl]; exact k2_hasslot (q4 kf hkN)) rfl rfl hd fun H' e1 e2 e3 => ?_
                  exact k H' a _ (hR.set e2 e3 (hnn H' e1)) e2 e3 List.length_set hlens
                · have hw := hK.2.1 _ _ _ h3 hn _ h4 (Or.inl rfl)
                  simp only [mj_word, hq] at hw
                  refine va_WputK hx hb (f := f) hown (va_Nw.use rfl hw) hi hst (by rw [q2]; exact h6) q1 q3 (by rw [hsl]; exact k2_hasslot (q4 kf hkN)) rfl rfl hd fun H' e1 e2 e3 => ?_
                  exact k H' a _ (hR.set e2 e3 (hnn H' e1)) e2 e3 List.length_set hlens
              · have hw : Cond.fieldLink M.1.cls ix (q.2.1 kf).1 (q.2.1 kf).2.1 (q.2.1 kf).2.2.1 ∈ lw_tbl := by
                  have := h2
                  simp only [mj_word, hq] at this
                  exact this
                have hft : (q.2.1 kf).2.2.2 = true := by simpa only [mj_fin, hq] using hft0
                have h6 := u_fits hfc hkC hkind (u_lays hts hC.uws hkN) hi hd1 (mj_cv_narrow (b := b) (B := B) hnar) (mj_cv_fits (b := b) (B := B) hfit)
                have hcf : m.cls = cf := by
                  have e0 := hn
                  rw [ho2] at e0
                  have e1 : M.1.cls = q.1 := Option.some.inj (e0.symm.trans hC.2.2.2.2)
                  have e2 : (q.2.1 kf).1 = M.1.cls := (hC.2.2.2.1 kf hkN).trans e1.symm
                  have hl := hts _ (hC.uws _ (u_in_lay hkN))
                  unfold u_lay at hl
                  rw [if_pos hft] at hl
                  obtain ⟨_, _, c', _, _, _, -, -, hf', -, -, -, hown2, -⟩ := Cond.laysFinal_spec hl
                  have e3 : c' = cf := by have := hi.symm.trans hf'; simp at this; exact this.1.symm
                  rw [e2] at hown2
                  rw [← e3]; exact Option.some.inj (hown.symm.trans hown2)
                refine W.putFinK hx hb hown (mj_good hts hw rfl) hi hst hcf (hin hk2) (by rw [q2]; exact h6) q1 q3 (by rw [hsl]; exact k2_hasslot (q4 kf hkN)) rfl rfl hd fun H' e1 e2 e3 => ?_
                exact k H' a _ (hR.set e2 e3 (hnn H' e1)) e2 e3 List.length_set hlens
            · omega
          · cases hs
        · cases hs
      · cases hs
    · cases hs
  · cases hs
end MJ2
