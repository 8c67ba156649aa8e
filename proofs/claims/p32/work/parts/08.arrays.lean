/-! The rows of arrays, of new cells, of constants -/
section MJ3
variable {p : Program} {l : Launch} {e : Env} {R : Room} {s : State} {m : MethodId} {args : Array Value} {below : List Frame} {meth : Method} {c : Code} {H : Heap} {locs : List Loc} {cells slots : Nat} {Q : State → Prop}
variable {cc : ByteArray} {pc : Nat} {ls : Array Slot} {b B : Nat} {D : va_G} {cA : Nat → ClassId} {M : mj_M} {h : mj_H} {sc : Option (List Int32)}
/-- the script, as the state at a method's start has it -/
def mj_X (b : Nat) (sc : Option (List Int32)) (U : State) : Prop := match sc with
  | some sc => va_X b sc.length (fun j => sc.getD j 0) U U.heap
  | none => True
theorem mj_arr_cell (hK : mj_K D cA s) (hR : mj_R D cA b B h H) {a t : Nat} {xs : List Value} (ht : 100 ≤ t) (hc : h[a]? = some (t, xs)) : t < 104 ∧ H[B + a]? = some (arrV (cA t) xs.length (vp_V (xs.map (mj_cv b B)))) ∧ s.isArrayOf (arrV (cA t) xs.length (vp_V (xs.map (mj_cv b B)))) (mj_elt t) := by
  rcases hR.2 a t xs hc with ⟨h1, -⟩ | ⟨h1, h2, h3⟩
  · omega
  · exact ⟨h2, h3, (hK.arr h1 h2).1 _ _⟩
theorem mj_ald_inv {t : Nat} {st st' : List Value} (hs : mj_ald t sc st h = some st') : (∃ j a r xs v, st = .int j :: .ref a :: r ∧ h[a]? = some (t, xs) ∧ ¬ j < 0 ∧ xs[j.toNatClampNeg]? = some v ∧ st' = v :: r) ∨ (∃ j a r v sc', st = .int j :: .retAddr a :: r ∧ sc = some sc' ∧ t = 100 ∧ ¬ j < 0 ∧ sc'[j.toNatClampNeg]? = some v ∧ st' = .int v :: r) := by
  unfold mj_ald at hs
  split at hs
  · rename_i j a r
    split at hs
    · rename_i t' xs hc
      split at hs
      · rename_i hh
        obtain ⟨rfl, hj⟩ := hh
        split at hs
        · rename_i v hv
          cases hs
          exact Or.inl ⟨j, a, r, xs, v, rfl, hc, hj, hv, rfl⟩
        · cases hs
      · cases hs
    · cases hs
  · rename_i j a r
    split at hs
    · rename_i sc'
      split at hs
      · rename_i hh
        obtain ⟨rfl, hj⟩ := hh
        split at hs
        · rename_i v hv
          cases hs
          exact Or.inr ⟨j, a, r, v, sc', rfl, rfl, rfl, hj, hv, rfl⟩
        · cases hs
      · cases hs
    · cases hs
  · cases hs
theorem mj_in {c0 : ClassId} {xs : List Value} {f : Nat → Value} {j : Int32} (hj : ¬ j < 0) (hl : j.toNatClampNeg < xs.length) : ¬ (j < 0 ∨ (arrV c0 xs.length f).slots.size ≤ j.toNatClampNeg) := by
  rw [arrV_size]
  rintro (q | q)
  · exact hj q
  · omega
theorem mj_iald_ok (hx : p.tables.exec = Jvm.exec) (hb : c.code = cc) (hK : mj_K D cA s) (hR : mj_R D cA b B h H) (hX : mj_X b sc s) (hbH : H[b]? = s.heap[b]?)
    {st st' : List Value} (hs : mj_ald 100 sc st h = some st') (hd : decode cc pc = .ok (.iaload, 1))
    (k : W p l e R s m args below meth c H locs cells slots Q (F0 m (pc + 1) ls (st'.map (mj_cv b B)))) : W p l e R s m args below meth c H locs cells slots Q (F0 m pc ls (st.map (mj_cv b B))) := by
  rcases mj_ald_inv hs with ⟨j, a, r, xs, v, rfl, hc, hj, hv, rfl⟩ | ⟨j, a, r, v, sc', rfl, rfl, -, hj, hv, rfl⟩
  · obtain ⟨h1, h2, h3⟩ := mj_arr_cell hK hR (by decide) hc
    have hl : j.toNatClampNeg < xs.length := (List.getElem?_eq_some_iff.mp hv).1
    exact W.iald (v := mj_cv b B v) hx hb h2 h3 (fun q => by cases q) (mj_in hj hl) (by rw [arrV_read _ _ hl, mj_vp hv]) rfl rfl hd k
  · obtain ⟨scr, h1, h2, h3, h4, h5⟩ := hX
    have hl : j.toNatClampNeg < sc'.length := (List.getElem?_eq_some_iff.mp hv).1
    have h6 := h5 _ hl
    dsimp only at h6
    rw [List.getD_eq_getElem?_getD, hv] at h6
    exact W.iald (v := .int v) hx hb (hbH.trans h1) h2 h3 (by rw [h4]; rintro (q | q); exact hj q; omega) h6 rfl rfl hd k
theorem mj_cald_ok (hx : p.tables.exec = Jvm.exec) (hb : c.code = cc) (hK : mj_K D cA s) (hR : mj_R D cA b B h H)
    {st st' : List Value} (hs : mj_ald 101 sc st h = some st') (hd : decode cc pc = .ok (.caload, 1))
    (k : W p l e R s m args below meth c H locs cells slots Q (F0 m (pc + 1) ls (st'.map (mj_cv b B)))) : W p l e R s m args below meth c H locs cells slots Q (F0 m pc ls (st.map (mj_cv b B))) := by
  rcases mj_ald_inv hs with ⟨j, a, r, xs, v, rfl, hc, hj, hv, rfl⟩ | ⟨j, a, r, v, sc', rfl, -, hz, hj, hv, rfl⟩
  · obtain ⟨h1, h2, h3⟩ := mj_arr_cell hK hR (by decide) hc
    have hl : j.toNatClampNeg < xs.length := (List.getElem?_eq_some_iff.mp hv).1
    exact W.cald (v := mj_cv b B v) hx hb h2 h3 (fun q => by cases q) (mj_in hj hl) (by rw [arrV_read _ _ hl, mj_vp hv]) rfl rfl hd k
  · omega
theorem mj_zald_ok (hx : p.tables.exec = Jvm.exec) (hb : c.code = cc) (hK : mj_K D cA s) (hR : mj_R D cA b B h H)
    {st st' : List Value} (hs : mj_ald 102 sc st h = some st') (hd : decode cc pc = .ok (.baload, 1))
    (k : W p l e R s m args below meth c H locs cells slots Q (F0 m (pc + 1) ls (st'.map (mj_cv b B)))) : W p l e R s m args below meth c H locs cells slots Q (F0 m pc ls (st.map (mj_cv b B))) := by
  rcases mj_ald_inv hs with ⟨j, a, r, xs, v, rfl, hc, hj, hv, rfl⟩ | ⟨j, a, r, v, sc', rfl, -, hz, hj, hv, rfl⟩
  · obtain ⟨h1, h2, h3⟩ := mj_arr_cell hK hR (by decide) hc
    have hl : j.toNatClampNeg < xs.length := (List.getElem?_eq_some_iff.mp hv).1
    exact W.zald (v := mj_cv b B v) hx hb h2 h3 (fun q => by cases q) (mj_in hj hl) (by rw [arrV_read _ _ hl, mj_vp hv]) rfl rfl hd k
  · omega
theorem mj_aald_ok (hx : p.tables.exec = Jvm.exec) (hb : c.code = cc) (hK : mj_K D cA s) (hR : mj_R D cA b B h H)
    {st st' : List Value} (hs : mj_ald 103 sc st h = some st') (hd : decode cc pc = .ok (.aaload, 1))
    (k : W p l e R s m args below meth c H locs cells slots Q (F0 m (pc + 1) ls (st'.map (mj_cv b B)))) : W p l e R s m args below meth c H locs cells slots Q (F0 m pc ls (st.map (mj_cv b B))) := by
  rcases mj_ald_inv hs with ⟨j, a, r, xs, v, rfl, hc, hj, hv, rfl⟩ | ⟨j, a, r, v, sc', rfl, -, hz, hj, hv, rfl⟩
  · obtain ⟨h1, h2, h3⟩ := mj_arr_cell hK hR (by decide) hc
    have hl : j.toNatClampNeg < xs.length := (List.getElem?_eq_some_iff.mp hv).1
    exact W.aald (v := mj_cv b B v) (ty := mj_elt 103) hx hb h2 h3 rfl (fun q => by cases q) (mj_in hj hl) (by rw [arrV_read _ _ hl, mj_vp hv]) rfl rfl hd k
  · omega
/-- the lengths of a cell list stay when a cell's elements change -/
theorem mj_lens {a t : Nat} {xs ys : List Value} (hc : h[a]? = some (t, xs)) (hl : ys.length = xs.length) : ((h.set a (t, ys)).map fun c => c.2.length) = (h.map fun c => c.2.length) := by
  rw [List.map_set]
  apply List.ext_getElem?
  intro j
  rw [List.getElem?_set]
  split
  · rename_i e2
    subst e2
    have : a < h.length := (List.getElem?_eq_some_iff.mp hc).1
    simp only [List.length_map, List.getElem?_map, hc]
    simp [this, hl]
  · rfl
theorem mj_ast_inv {t : Nat} {st st' : List Value} {h' : mj_H} (hs : mj_ast t st h = some (st', h')) : ∃ x j a xs, st = .int x :: .int j :: .ref a :: st' ∧ h[a]? = some (t, xs) ∧ ¬ j < 0 ∧ j.toNatClampNeg < xs.length ∧ h' = h.set a (t, xs.set j.toNatClampNeg (narrow (mj_elt t) (.int x))) := by
  unfold mj_ast at hs
  split at hs
  · rename_i x j a r
    split at hs
    · rename_i t' xs hc
      split at hs
      · rename_i hh
        obtain ⟨rfl, hj, hl⟩ := hh
        cases hs
        exact ⟨x, j, a, xs, rfl, hc, hj, hl, rfl⟩
      · cases hs
    · cases hs
  · cases hs
theorem mj_stored {a t : Nat} {xs : List Value} {v : Value} {j : Nat} {H1 : Heap} (h1 : 100 ≤ t) (h2 : t < 104) (hj : j < xs.length) (e1 : H1[B + a]? = some ((arrV (cA t) xs.length (vp_V (xs.map (mj_cv b B)))).setSlot j (mj_cv b B v))) : mj_at D cA b B H1 a t (xs.set j v) := by
  refine Or.inr ⟨h1, h2, ?_⟩
  rw [e1, arrV_store, List.length_set]
  congr 1
  exact mj_arrV_ext fun q _ => mj_vp_set hj q
theorem mj_narrow_int (ty : FieldType) (x : Int32) : mj_cv b B (narrow ty (.int x)) = narrow ty (.int x) := by cases ty <;> rfl
theorem mj_iast_ok (hx : p.tables.exec = Jvm.exec) (hb : c.code = cc) (hK : mj_K D cA s) (hR : mj_R D cA b B h H)
    {st st' : List Value} {h' : mj_H} (hs : mj_ast 100 st h = some (st', h')) (hd : decode cc pc = .ok (.iastore, 1))
    (k : ∀ (H1 : Heap) (a i : Nat), mj_R D cA b B h' H1 → H1.size = H.size → (∀ q, q ≠ B + a → H1[q]? = H[q]?) → h'.length = h.length → (h'.map fun c => c.2.length) = (h.map fun c => c.2.length) → W p l e R s m args below meth c H1 (locs ++ [⟨B + a, i⟩]) cells slots Q (F0 m (pc + 1) ls (st'.map (mj_cv b B)))) : W p l e R s m args below meth c H locs cells slots Q (F0 m pc ls (st.map (mj_cv b B))) := by
  obtain ⟨x, j, a, xs, rfl, hc, hj, hl, rfl⟩ := mj_ast_inv hs
  obtain ⟨h1, h2, h3⟩ := mj_arr_cell hK hR (by decide) hc
  refine W.iast hx hb h2 h3 (fun q => by cases q) (mj_in hj hl) rfl rfl hd fun H1 e1 e2 e3 => ?_
  exact k H1 a _ (hR.set e2 e3 (mj_stored (by decide) h1 hl (by rw [mj_narrow_int]; exact e1))) e2 e3 List.length_set (mj_lens hc List.length_set)
theorem mj_cast_ok (hx : p.tables.exec = Jvm.exec) (hb : c.code = cc) (hK : mj_K D cA s) (hR : mj_R D cA b B h H)
    {st st' : List Value} {h' : mj_H} (hs : mj_ast 101 st h = some (st', h')) (hd : decode cc pc = .ok (.castore, 1))
    (k : ∀ (H1 : Heap) (a i : Nat), mj_R D cA b B h' H1 → H1.size = H.size → (∀ q, q ≠ B + a → H1[q]? = H[q]?) → h'.length = h.length → (h'.map fun c => c.2.length) = (h.map fun c => c.2.length) → W p l e R s m args below meth c H1 (locs ++ [⟨B + a, i⟩]) cells slots Q (F0 m (pc + 1) ls (st'.map (mj_cv b B)))) : W p l e R s m args below meth c H locs cells slots Q (F0 m pc ls (st.map (mj_cv b B))) := by
  obtain ⟨x, j, a, xs, rfl, hc, hj, hl, rfl⟩ := mj_ast_inv hs
  obtain ⟨h1, h2, h3⟩ := mj_arr_cell hK hR (by decide) hc
  refine W.cast hx hb h2 h3 (fun q => by cases q) (mj_in hj hl) rfl rfl hd fun H1 e1 e2 e3 => ?_
  exact k H1 a _ (hR.set e2 e3 (mj_stored (by decide) h1 hl (by rw [mj_narrow_int]; exact e1))) e2 e3 List.length_set (mj_lens hc List.length_set)
theorem mj_zast_ok (hx : p.tables.exec = Jvm.exec) (hb : c.code = cc) (hK : mj_K D cA s) (hR : mj_R D cA b B h H)
    {st st' : List Value} {h' : mj_H} (hs : mj_ast 102 st h = some (st', h')) (hd : decode cc pc = .ok (.bastore, 1))
    (k : ∀ (H1 : Heap) (a i : Nat), mj_R D cA b B h' H1 → H1.size = H.size → (∀ q, q ≠ B + a → H1[q]? = H[q]?) → h'.length = h.length → (h'.map fun c => c.2.length) = (h.map fun c => c.2.length) → W p l e R s m args below meth c H1 (locs ++ [⟨B + a, i⟩]) cells slots Q (F0 m (pc + 1) ls (st'.map (mj_cv b B)))) : W p l e R s m args below meth c H locs cells slots Q (F0 m pc ls (st.map (mj_cv b B))) := by
  obtain ⟨x, j, a, xs, rfl, hc, hj, hl, rfl⟩ := mj_ast_inv hs
  obtain ⟨h1, h2, h3⟩ := mj_arr_cell hK hR (by decide) hc
  refine W.zast hx hb h2 h3 (fun q => by cases q) (mj_in hj hl) rfl rfl hd fun H1 e1 e2 e3 => ?_
  exact k H1 a _ (hR.set e2 e3 (mj_stored (by decide) h1 hl (by rw [mj_narrow_int]; exact e1))) e2 e3 List.length_set (mj_lens hc List.length_set)
set_option maxHeartbeats 1000000 in
theorem mj_aast_ok (hx : p.tables.exec = Jvm.exec) (hb : c.code = cc) (hK : mj_K D cA s) (hR : mj_R D cA b B h H)
    {st st' : List Value} {h' : mj_H} (hs : mj_aast st h = some (st', h')) (hd : decode cc pc = .ok (.aastore, 1))
    (k : ∀ (H1 : Heap) (a i : Nat), mj_R D cA b B h' H1 → H1.size = H.size → (∀ q, q ≠ B + a → H1[q]? = H[q]?) → h'.length = h.length → (h'.map fun c => c.2.length) = (h.map fun c => c.2.length) → W p l e R s m args below meth c H1 (locs ++ [⟨B + a, i⟩]) cells slots Q (F0 m (pc + 1) ls (st'.map (mj_cv b B)))) : W p l e R s m args below meth c H locs cells slots Q (F0 m pc ls (st.map (mj_cv b B))) := by
  unfold mj_aast at hs
  split at hs
  · rename_i v j a r
    split at hs
    · rename_i t xs vs hc hv
      split at hs
      · rename_i hh
        obtain ⟨rfl, hj, hl⟩ := hh
        cases hs
        obtain ⟨h1, h2, h3⟩ := mj_arr_cell hK hR (by decide) hc
        rcases hR.2 v 7 vs hv with ⟨-, q, hq, hlen, cellV, g1, g2, g3, -⟩ | ⟨hbad, -⟩
        · cases hq
          have hcls := (hK.1.1 7 _ rfl).2
          obtain ⟨kA, comp, k1, k2, k3, -⟩ := (hK.arr (t := 103) (by decide) (by decide)).2
          have hcomp : comp = D.1 7 := Option.some.inj (k3.symm.trans hcls.1)
          subst hcomp
          obtain ⟨kC, hkC, -⟩ := hcls.2
          refine W.aast hx hb h2 (fun q h => by cases h) (fun h => by cases h) k1 k2 rfl hkC ⟨hj, by rw [arrV_size]; exact hl⟩ g1 (fun q h => by rw [g3] at h; cases h) (by rw [g2]; exact hkC) (by rw [g2]; exact va_assign hcls) rfl rfl hd fun H1 e1 e2 e3 => ?_
          exact k H1 a _ (hR.set e2 e3 (mj_stored (by decide) h1 hl (v := .ref v) e1)) e2 e3 List.length_set (mj_lens hc List.length_set)
        · omega
      · cases hs
    · cases hs
  · cases hs
theorem mj_alen_ok (hx : p.tables.exec = Jvm.exec) (hb : c.code = cc) (hK : mj_K D cA s) (hR : mj_R D cA b B h H) (hX : mj_X b sc s) (hbH : H[b]? = s.heap[b]?)
    {st st' : List Value} (hs : mj_alen sc st h = some st') (hd : decode cc pc = .ok (.arraylength, 1))
    (k : W p l e R s m args below meth c H locs cells slots Q (F0 m (pc + 1) ls (st'.map (mj_cv b B)))) : W p l e R s m args below meth c H locs cells slots Q (F0 m pc ls (st.map (mj_cv b B))) := by
  unfold mj_alen at hs
  split at hs
  · rename_i a r
    split at hs
    · rename_i t xs hc
      split at hs
      · rename_i hh
        cases hs
        obtain ⟨h1, h2, h3⟩ := mj_arr_cell hK hR hh.1 hc
        exact W.alen (n := Int32.ofNat xs.length) hx hb h2 h3 (by rw [arrV_size]) rfl rfl hd k
      · cases hs
    · cases hs
  · split at hs
    · rename_i sc'
      cases hs
      obtain ⟨scr, h1, h2, h3, h4, h5⟩ := hX
      exact W.alen (n := Int32.ofNat sc'.length) hx hb (hbH.trans h1) h2 (by rw [h4]) rfl rfl hd k
    · cases hs
  · cases hs
set_option maxHeartbeats 1000000 in
theorem mj_new_ok (hx : p.tables.exec = Jvm.exec) (hb : c.code = M.2.1) (hown : s.vm.findClass M.1.cls = some m.cls) (hn : mj_names[M.2.2.2.2.1]? = some M.1.cls) (hts : ∀ w ∈ mj_tbl, w.before args s = true) (hK : mj_K D cA s) (hR : mj_R D cA b B h H)
    {idx : Nat} {st st' : List Value} {h' : mj_H} (hs : mj_new M idx st h = some (st', h')) (hd : decode M.2.1 pc = .ok (.new idx, 3))
    (k : ∀ (t : Nat) (ys : List Value), h' = h ++ [(t, ys)] → cells + 1 ≤ R.cells ∧ slots + ys.length ≤ R.slots ∧ ∀ H1 : Heap, mj_R D cA b B h' H1 → (∀ q, q < H.size → H1[q]? = H[q]?) → W p l e R s m args below meth c H1 locs (cells + 1) (slots + ys.length) Q (F0 m (pc + 3) ls (st'.map (mj_cv b B)))) : W p l e R s m args below meth c H locs cells slots Q (F0 m pc ls (st.map (mj_cv b B))) := by
  unfold mj_new at hs
  split at hs
  · rename_i ix kd ci zz he
    split at hs
    · rename_i hh
      obtain ⟨rfl, hlt⟩ := hh
      cases hs
      obtain ⟨h1, h2, pool, h3, h4⟩ := mj_ent_in he hn
      dsimp only at h1
      subst h1
      obtain ⟨q, hq⟩ : ∃ q, vwCl[ci]? = some q := ⟨_, List.getElem?_eq_getElem (by exact hlt)⟩
      have hC := mj_cls ci q hq
      have hw : Cond.classLink M.1.cls ix q.1 ∈ lw_tbl := by
        have := h2
        simp only [mj_word, List.getD_eq_getElem?_getD, hC.2.2.2.2] at this
        exact this
      obtain ⟨k1, k2, k3⟩ := k ci _ rfl
      have hnf : mj_nf ci = q.2.2 := by simp only [mj_nf, hq]
      have hlen : ((List.range (mj_nf ci)).map (fun k => defaultValue (mj_ty ci k))).length = q.2.2 := by rw [List.length_map, List.length_range, hnf]
      rw [hlen] at k2 k3
      have hKn := hK.1.1 ci _ hq
      refine W.newcK hx hb hown (mj_good hts hw rfl) (hts _ hC.inst) (hts _ hC.ini) rfl hd k1 k2 hKn.2.1 rfl fun H1 kC hkC e1 z1 o1 => ?_
      have e9 : H.size = B + h.length := hR.1
      have hob := u_born (mj_ty ci) hts hC.uws hKn hkC e1 hC.2.1
      rw [e9] at hob
      have hr : mj_R D cA b B (h ++ [(ci, (List.range (mj_nf ci)).map (fun k => defaultValue (mj_ty ci k)))]) H1 := by
        refine hR.push z1 o1 (Or.inl ⟨hlt, q, hq, hlen.symm, hob.to fun j hj => ?_⟩)
        rw [← hnf] at hj
        rw [mj_vp (v := defaultValue (mj_ty ci j)) (by simp [hj])]
        cases mj_ty ci j <;> rfl
      have := k3 H1 hr o1
      rw [List.map_cons] at this
      rw [e9]
      exact this
    · cases hs
  · cases hs
theorem mj_tag_ty {a : ArrayType} {t : Nat} (h : mj_tag a = some t) : 100 ≤ t ∧ t < 103 ∧ newarray.typeOf a = mj_elt t := by
  cases a <;> cases h <;> exact ⟨by decide, by decide, rfl⟩
theorem mj_arrw {t : Nat} (h1 : 100 ≤ t) (h2 : t < 103) : Cond.arrayClass (mj_elt t) ∈ mj_tbl := by
  rcases (show t = 100 ∨ t = 101 ∨ t = 102 by omega) with rfl | rfl | rfl
  · exact mj_tbl_of (List.mem_of_getElem? (i := 142) (by decide +kernel)) rfl
  · exact mj_tbl_of (List.mem_of_getElem? (i := 141) (by decide +kernel)) rfl
  · exact mj_tbl_of (List.mem_of_getElem? (i := 245) (by decide +kernel)) rfl
set_option maxHeartbeats 1000000 in
theorem mj_newa_ok (hx : p.tables.exec = Jvm.exec) (hb : c.code = cc) (hts : ∀ w ∈ mj_tbl, w.before args s = true) (hK : mj_K D cA s) (hR : mj_R D cA b B h H)
    {at0 : ArrayType} {st st' : List Value} {h' : mj_H} (hs : mj_newa at0 st h = some (st', h')) (hd : decode cc pc = .ok (.newarray at0, 2))
    (k : ∀ (t : Nat) (ys : List Value), h' = h ++ [(t, ys)] → cells + 1 ≤ R.cells ∧ slots + ys.length ≤ R.slots ∧ ∀ H1 : Heap, mj_R D cA b B h' H1 → (∀ q, q < H.size → H1[q]? = H[q]?) → W p l e R s m args below meth c H1 locs (cells + 1) (slots + ys.length) Q (F0 m (pc + 2) ls (st'.map (mj_cv b B)))) : W p l e R s m args below meth c H locs cells slots Q (F0 m pc ls (st.map (mj_cv b B))) := by
  unfold mj_newa at hs
  split at hs
  · rename_i t n r ht
    split at hs
    · rename_i hh
      cases hs
      obtain ⟨t1, t2, t3⟩ := mj_tag_ty ht
      obtain ⟨k1, k2, k3⟩ := k t _ rfl
      rw [List.length_replicate] at k2 k3
      have hw := hts _ (mj_arrw t1 t2)
      rw [← t3] at hw
      refine va_newaK hx hb hw rfl hd rfl hh.1 rfl ?_ k1 k2 rfl fun H1 cA1 e1 z1 o1 hAr hNm => ?_
      · have : componentBytes (newarray.typeOf at0) ≤ 8 := by cases at0 <;> decide
        calc n.toNatClampNeg * componentBytes (newarray.typeOf at0) ≤ 1000000 * 8 := Nat.mul_le_mul hh.2 this
          _ ≤ 536870912 := by decide
      have e9 : H.size = B + h.length := hR.1
      have hra := (hK.arr (t := t) t1 (by omega)).2
      have hcA : cA1 = cA t := by
        have : s.vm.findClass ("[" ++ (mj_elt t).toString) = some (cA t) := by
          rcases (show t = 100 ∨ t = 101 ∨ t = 102 by omega) with rfl | rfl | rfl <;> exact hra
        rw [← t3] at this
        exact Option.some.inj (hNm.symm.trans this)
      have hr : mj_R D cA b B (h ++ [(t, List.replicate n.toNatClampNeg (.int 0))]) H1 := by
        refine hR.push z1 o1 (Or.inr ⟨t1, by omega, ?_⟩)
        rw [← e9, e1, hcA, List.length_replicate]
        congr 1
        refine mj_arrV_ext fun j hj => ?_
        rw [mj_vp (v := .int 0) (by simp [hj])]
        cases at0 <;> cases ht <;> rfl
      have := k3 H1 hr o1
      rw [List.map_cons] at this
      rw [e9]
      exact this
    · cases hs
  · cases hs
set_option maxHeartbeats 1000000 in
theorem mj_anew_ok (hx : p.tables.exec = Jvm.exec) (hb : c.code = M.2.1) (hown : s.vm.findClass M.1.cls = some m.cls) (hn : mj_names[M.2.2.2.2.1]? = some M.1.cls) (hts : ∀ w ∈ mj_tbl, w.before args s = true) (hK : mj_K D cA s) (hR : mj_R D cA b B h H)
    {idx : Nat} {st st' : List Value} {h' : mj_H} (hs : mj_anew M idx st h = some (st', h')) (hd : decode M.2.1 pc = .ok (.anewarray idx, 3))
    (k : ∀ (t : Nat) (ys : List Value), h' = h ++ [(t, ys)] → cells + 1 ≤ R.cells ∧ slots + ys.length ≤ R.slots ∧ ∀ H1 : Heap, mj_R D cA b B h' H1 → (∀ q, q < H.size → H1[q]? = H[q]?) → W p l e R s m args below meth c H1 locs (cells + 1) (slots + ys.length) Q (F0 m (pc + 3) ls (st'.map (mj_cv b B)))) : W p l e R s m args below meth c H locs cells slots Q (F0 m pc ls (st.map (mj_cv b B))) := by
  unfold mj_anew at hs
  split at hs
  · rename_i ix kd ci zz n r he
    split at hs
    · rename_i hh
      obtain ⟨rfl, rfl, hn0, hn1⟩ := hh
      cases hs
      obtain ⟨h1, h2, pool, h3, h4⟩ := mj_ent_in he hn
      dsimp only at h1
      subst h1
      have hw : Cond.classLink M.1.cls ix "SootMaps$Streets" ∈ lw_tbl := h2
      obtain ⟨k1, k2, k3⟩ := k 103 _ rfl
      rw [List.length_replicate] at k2 k3
      refine W.anew hx hb hown (mj_good hts hw rfl) (va_AO.use hK.2.2) rfl hd rfl hn0 (by omega) k1 k2 fun cA1 kA comp f1 f2 f3 f4 => ?_
      generalize hH1 : H.push ({ cls := cA1, slots := Array.replicate n.toNatClampNeg .null, vm := .none } : Cell) = H1
      have z1 : H1.size = H.size + 1 := by rw [← hH1, Array.size_push]
      have e1 : H1[H.size]? = some (arrV cA1 n.toNatClampNeg (fun _ => .null)) := by rw [← hH1, Array.getElem?_push_size, ← arrV_new]
      have o1 : ∀ q : Nat, q < H.size → H1[q]? = H[q]? := fun q hq => by rw [← hH1, Array.getElem?_push, if_neg (Nat.ne_of_lt hq)]
      have e9 : H.size = B + h.length := hR.1
      obtain ⟨kA', comp', -, -, -, g4⟩ := (hK.arr (t := 103) (by decide) (by decide)).2
      have hcA : cA1 = cA 103 := Option.some.inj (f1.symm.trans g4)
      have hr : mj_R D cA b B (h ++ [(103, List.replicate n.toNatClampNeg .null)]) H1 := by
        refine hR.push z1 o1 (Or.inr ⟨by decide, by decide, ?_⟩)
        rw [← e9, e1, hcA, List.length_replicate]
        congr 1
        refine mj_arrV_ext fun j hj => ?_
        rw [mj_vp (v := .null) (by simp [hj])]
        rfl
      have := k3 H1 hr o1
      rw [List.map_cons] at this
      rw [e9]
      exact this
    · cases hs
  · cases hs
theorem mj_ldc_ok (hx : p.tables.exec = Jvm.exec) (hb : c.code = M.2.1) (hown : s.vm.findClass M.1.cls = some m.cls) (hn : mj_names[M.2.2.2.2.1]? = some M.1.cls) (hts : ∀ w ∈ mj_tbl, w.before args s = true)
    {idx : Nat} {st st' : List Value} (hs : mj_ldc M idx st = some st') (hd : decode M.2.1 pc = .ok (.ldc idx, 2))
    (k : W p l e R s m args below meth c H locs cells slots Q (F0 m (pc + 2) ls (st'.map (mj_cv b B)))) : W p l e R s m args below meth c H locs cells slots Q (F0 m pc ls (st.map (mj_cv b B))) := by
  unfold mj_ldc at hs
  split at hs
  · rename_i ix kd v zz he
    split at hs
    · rename_i hh
      subst hh
      cases hs
      obtain ⟨h1, h2, pool, h3, h4⟩ := mj_ent_in he hn
      dsimp only at h1
      subst h1
      exact lv_ldc hx hb hown (mj_good hts (show Cond.constant M.1.cls ix (Int32.ofNat v) ∈ lw_tbl from h2) rfl) hd k
    · cases hs
  · cases hs
theorem mj_ldcw_ok (hx : p.tables.exec = Jvm.exec) (hb : c.code = M.2.1) (hown : s.vm.findClass M.1.cls = some m.cls) (hn : mj_names[M.2.2.2.2.1]? = some M.1.cls) (hts : ∀ w ∈ mj_tbl, w.before args s = true)
    {idx : Nat} {st st' : List Value} (hs : mj_ldc M idx st = some st') (hd : decode M.2.1 pc = .ok (.ldc_w idx, 3))
    (k : W p l e R s m args below meth c H locs cells slots Q (F0 m (pc + 3) ls (st'.map (mj_cv b B)))) : W p l e R s m args below meth c H locs cells slots Q (F0 m pc ls (st.map (mj_cv b B))) := by
  unfold mj_ldc at hs
  split at hs
  · rename_i ix kd v zz he
    split at hs
    · rename_i hh
      subst hh
      cases hs
      obtain ⟨h1, h2, pool, h3, h4⟩ := mj_ent_in he hn
      dsimp only at h1
      subst h1
      exact lv_ldcw hx hb hown (mj_good hts (show Cond.constant M.1.cls ix (Int32.ofNat v) ∈ lw_tbl from h2) rfl) hd k
    · cases hs
  · cases hs
theorem mj_ldc2_ok (hx : p.tables.exec = Jvm.exec) (hb : c.code = M.2.1) (hown : s.vm.findClass M.1.cls = some m.cls) (hn : mj_names[M.2.2.2.2.1]? = some M.1.cls) (hts : ∀ w ∈ mj_tbl, w.before args s = true)
    {idx : Nat} {st st' : List Value} (hs : mj_ldc2 M idx st = some st') (hd : decode M.2.1 pc = .ok (.ldc2_w idx, 3))
    (k : W p l e R s m args below meth c H locs cells slots Q (F0 m (pc + 3) ls (st'.map (mj_cv b B)))) : W p l e R s m args below meth c H locs cells slots Q (F0 m pc ls (st.map (mj_cv b B))) := by
  unfold mj_ldc2 at hs
  split at hs
  · rename_i ix kd v zz he
    split at hs
    · rename_i hh
      subst hh
      cases hs
      obtain ⟨h1, h2, pool, h3, h4⟩ := mj_ent_in he hn
      dsimp only at h1
      subst h1
      exact lv_ldc2 hx hb hown (mj_good hts (show Cond.constantLong M.1.cls ix (Int64.ofNat v) ∈ lw_tbl from h2) rfl) hd k
    · cases hs
  · cases hs
end MJ3
