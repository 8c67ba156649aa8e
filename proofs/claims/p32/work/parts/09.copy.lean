/-! System.arraycopy of ints, Math.max, Math.min, Object's constructor -/
theorem mj_cpy_get {xs ys : List Value} {sp dp n j : Nat} (h1 : sp + n ≤ xs.length) (h2 : dp + n ≤ ys.length) : (mj_cpy xs ys sp dp n)[j]? = if dp ≤ j ∧ j < dp + n then xs[sp + (j - dp)]? else ys[j]? := by
  unfold mj_cpy
  by_cases a1 : j < dp
  · rw [if_neg (by omega), List.append_assoc, List.getElem?_append_left (by rw [List.length_take]; omega), List.getElem?_take_of_lt a1]
  · by_cases a2 : j < dp + n
    · rw [if_pos ⟨by omega, a2⟩, List.append_assoc, List.getElem?_append_right (by rw [List.length_take]; omega), List.length_take, Nat.min_eq_left (by omega), List.getElem?_append_left (by rw [List.length_take, List.length_drop]; omega), List.getElem?_take_of_lt (by omega), List.getElem?_drop]
    · rw [if_neg (by omega), List.getElem?_append_right (by rw [List.length_append, List.length_take, List.length_take, List.length_drop]; omega), List.length_append, List.length_take, List.length_take, List.length_drop, List.getElem?_drop]
      congr 1
      omega
theorem mj_cpy_len {xs ys : List Value} {sp dp n : Nat} (h1 : sp + n ≤ xs.length) (h2 : dp + n ≤ ys.length) : (mj_cpy xs ys sp dp n).length = ys.length := by
  unfold mj_cpy
  rw [List.length_append, List.length_append, List.length_take, List.length_take, List.length_drop, List.length_drop]
  omega
theorem mj_nn (z : Int32) (hz : ¬ z < 0) : z.toInt = (z.toNatClampNeg : Int) := by
  have hz0 : (0 : Int) ≤ z.toInt := by
    have := Int32.not_lt.mp hz
    simpa using Int32.le_iff_toInt_le.mp this
  show z.toInt = ((z.toInt.toNat : Nat) : Int)
  omega
theorem mj_w_nat : Cond.native arraycopyName ∈ mj_tbl := mj_tbl_of (List.mem_of_getElem? (i := 444) (by decide +kernel)) rfl
theorem mj_w_ast : Cond.static arraycopyName ∈ mj_tbl := mj_tbl_of (List.mem_of_getElem? (i := 443) (by decide +kernel)) rfl
theorem mj_w_sys : Cond.initialized "java/lang/System" ∈ mj_tbl := mj_tbl_of (List.mem_of_getElem? (i := 72) (by decide +kernel)) rfl
theorem mj_w_math : Cond.initialized "java/lang/Math" ∈ mj_tbl := mj_tbl_of (List.mem_of_getElem? (i := 74) (by decide +kernel)) rfl
theorem mj_w_maxS : Cond.static Lib.Math.max.name ∈ mj_tbl := mj_tbl_of (List.mem_of_getElem? (i := 792) (by decide +kernel)) rfl
theorem mj_w_minS : Cond.static Lib.Math.min.name ∈ mj_tbl := mj_tbl_of (List.mem_of_getElem? (i := 528) (by decide +kernel)) rfl
theorem mj_w_maxC : Cond.code Lib.Math.max.name Lib.Math.max.code 2 (some .int) ∈ mj_tbl := mj_tbl_of (List.mem_of_getElem? (i := 793) (by decide +kernel)) rfl
theorem mj_w_minC : Cond.code Lib.Math.min.name Lib.Math.min.code 2 (some .int) ∈ mj_tbl := mj_tbl_of (List.mem_of_getElem? (i := 529) (by decide +kernel)) rfl
theorem mj_w_oi : Cond.instanceMethod objectInit ∈ mj_tbl := mj_tbl_of (List.mem_of_getElem? (i := 82) (by decide +kernel)) rfl
theorem mj_w_oc : Cond.code objectInit ⟨#[0xb1]⟩ 1 none ∈ mj_tbl := mj_tbl_of (List.mem_of_getElem? (i := 83) (by decide +kernel)) rfl
section MJ4
variable {p : Program} {l : Launch} {e : Env} {R : Room} {s : State} {m : MethodId} {args : Array Value} {below : List Frame} {meth : Method} {c : Code} {H : Heap} {locs : List Loc} {cells slots : Nat} {Q : State → Prop}
variable {pc : Nat} {ls : Array Slot} {b B : Nat} {D : va_G} {cA : Nat → ClassId} {M : mj_M} {h : mj_H}
set_option maxHeartbeats 2000000 in
theorem mj_acopy_ok (hx : p.tables.exec = Jvm.exec) (hb : c.code = M.2.1) (hown : s.vm.findClass M.1.cls = some m.cls) (hn : mj_names[M.2.2.2.2.1]? = some M.1.cls) (hts : ∀ w ∈ mj_tbl, w.before args s = true) (hK : mj_K D cA s) (hR : mj_R D cA b B h H) (hls : ls.size = c.maxLocals) (hRf : M.2.2.2.2.2.2.2.1 ≤ R.frames) (hRl : M.2.2.2.2.2.2.2.2 ≤ R.locals)
    {idx ix z1 z2 : Nat} {st st' : List Value} {h' : mj_H} (he : mj_ent M idx = some (ix, 7, z1, z2)) (hs : mj_acopy M st h = some (st', h')) (hd : decode M.2.1 pc = .ok (.invokestatic idx, 3))
    (k : ∀ (H1 : Heap) (a : Nat) (L : List Loc), mj_R D cA b B h' H1 → H1.size = H.size → (∀ q, q ≠ B + a → H1[q]? = H[q]?) → (∀ q ∈ L, q.base = B + a) → h'.length = h.length → (h'.map fun c => c.2.length) = (h.map fun c => c.2.length) → W p l e R s m args below meth c H1 (locs ++ L) cells slots Q (F0 m (pc + 3) ls (st'.map (mj_cv b B)))) : W p l e R s m args below meth c H locs cells slots Q (F0 m pc ls (st.map (mj_cv b B))) := by
  obtain ⟨g1, g2, -⟩ := mj_ent_in he hn
  dsimp only at g1
  subst g1
  have hlink : (Cond.methodLink M.1.cls ix arraycopyName).before args s = true := mj_good hts (show Cond.methodLink M.1.cls ix arraycopyName ∈ lw_tbl from g2) rfl
  unfold mj_acopy at hs
  split at hs
  · rename_i n dp d sp a r
    split at hs
    · rename_i t xs t' ys hc0 hc1
      split at hs
      · rename_i hh
        obtain ⟨rfl, rfl, s1, s2, s3, s4, s5, s6, s7, s8⟩ := hh
        cases hs
        obtain ⟨-, c0, -⟩ := mj_arr_cell hK hR (by decide) hc0
        obtain ⟨-, c1, -⟩ := mj_arr_cell hK hR (by decide) hc1
        obtain ⟨-, k0, hk0, cm0, hkk0⟩ := (hK.arr (t := 100) (by decide) (by decide)).1 xs.length (vp_V (xs.map (mj_cv b B)))
        obtain ⟨-, k1, hk1, cm1, hkk1⟩ := (hK.arr (t := 100) (by decide) (by decide)).1 ys.length (vp_V (ys.map (mj_cv b B)))
        intro T hT X
        obtain ⟨vm', X', step⟩ := X.arraycopy hx hown hlink (hts _ mj_w_nat) (hts _ mj_w_ast) (hts _ mj_w_sys) (src := B + a) (dst := B + d) (cs := arrV (cA 100) xs.length (vp_V (xs.map (mj_cv b B)))) (cd := arrV (cA 100) ys.length (vp_V (ys.map (mj_cv b B)))) (srcPos := sp) (destPos := dp) (n := n) (by rw [hT]; exact c0) (by rw [hT]; exact c1)
          (fun _ h => by cases h) (fun _ h => by cases h) (fun h => by cases h) (fun h => by cases h) hk0 hk1 hkk0 hkk1 (by decide) s1 s2 s3
          (by rw [mj_nn sp s1, mj_nn n s3, arrV_size]; omega)
          (by rw [mj_nn dp s2, mj_nn n s3, arrV_size]; omega)
          (fun vm₁ _ i hi => by
            have hlt : sp.toNatClampNeg + i < xs.length := by omega
            have hv : xs[sp.toNatClampNeg + i]? = some xs[sp.toNatClampNeg + i] := List.getElem?_eq_getElem hlt
            have hm : xs[sp.toNatClampNeg + i] ∈ (xs.drop sp.toNatClampNeg).take n.toNatClampNeg := by
              refine List.mem_of_getElem? (i := i) ?_
              rw [List.getElem?_take_of_lt hi, List.getElem?_drop, hv]
            obtain ⟨x, hx9⟩ := mj_isI_inv (List.all_eq_true.mp s6 _ hm)
            rw [hx9] at hv
            have e : (arrV (cA 100) xs.length (vp_V (xs.map (mj_cv b B)))).slots.getD (sp.toNatClampNeg + i) .null = .int x := by
              rw [Array.getD_eq_getD_getElem?, arrV_read _ _ hlt, mj_vp hv]
              rfl
            rw [e]
            exact ⟨rfl, trivial⟩)
          (g := F0 m pc ls (.int n :: .int dp :: .ref (B + d) :: .int sp :: .ref (B + a) :: st'.map (mj_cv b B))) rfl hls (rest := st'.map (mj_cv b B)) rfl (by rw [hb]; exact hd) (by omega) (by
            have := mj_cat_sum b B st'
            show 2 * 0 + _ + _ ≤ _
            rw [this]
            have e18 : nativeFrameWords "java/lang/System" "arraycopy" 5 + 11 = 18 := by decide
            omega)
        have e1 : copied (arrV (cA 100) xs.length (vp_V (xs.map (mj_cv b B)))) (arrV (cA 100) ys.length (vp_V (ys.map (mj_cv b B)))) sp dp n = arrV (cA 100) ys.length (va_cpy (vp_V (xs.map (mj_cv b B))) (vp_V (ys.map (mj_cv b B))) sp.toNatClampNeg dp.toNatClampNeg n.toNatClampNeg) := va_copied (fun z => z) (cA 100) (cA 100) _ _ s4
        have e2 : arrV (cA 100) ys.length (va_cpy (vp_V (xs.map (mj_cv b B))) (vp_V (ys.map (mj_cv b B))) sp.toNatClampNeg dp.toNatClampNeg n.toNatClampNeg) = arrV (cA 100) (mj_cpy xs ys sp.toNatClampNeg dp.toNatClampNeg n.toNatClampNeg).length (vp_V ((mj_cpy xs ys sp.toNatClampNeg dp.toNatClampNeg n.toNatClampNeg).map (mj_cv b B))) := by
          rw [mj_cpy_len s4 s5]
          refine mj_arrV_ext fun j hj => ?_
          have hg := mj_cpy_get (j := j) s4 s5
          unfold va_cpy
          by_cases hc : dp.toNatClampNeg ≤ j ∧ j < dp.toNatClampNeg + n.toNatClampNeg
          · rw [if_pos hc]
            rw [if_pos hc] at hg
            simp [vp_V, hg]
          · rw [if_neg hc]
            rw [if_neg hc] at hg
            simp [vp_V, hg]
        rw [e1, e2] at X' step
        have hl : B + d < H.size := (Array.getElem?_eq_some_iff.mp c1).1
        generalize hnew : arrV (cA 100) (mj_cpy xs ys sp.toNatClampNeg dp.toNatClampNeg n.toNatClampNeg).length (vp_V ((mj_cpy xs ys sp.toNatClampNeg dp.toNatClampNeg n.toNatClampNeg).map (mj_cv b B))) = new at X' step
        have hheap : ((T.setVm vm').setCell (B + d) new).heap = H.setIfInBounds (B + d) new := by rw [← hT]; rfl
        have oq : ∀ q : Nat, q ≠ B + d → (H.setIfInBounds (B + d) new)[q]? = H[q]? := fun q hq => by simp [Array.getElem?_setIfInBounds, Ne.symm hq]
        have hsz : (H.setIfInBounds (B + d) new).size = H.size := by simp
        have hat : mj_at D cA b B (H.setIfInBounds (B + d) new) d 100 (mj_cpy xs ys sp.toNatClampNeg dp.toNatClampNeg n.toNatClampNeg) := by
          refine Or.inr ⟨by decide, by decide, ?_⟩
          rw [hnew]
          simp [Array.getElem?_setIfInBounds, hl]
        obtain ⟨t, a1, b1⟩ := k _ d _ (hR.set hsz oq hat) hsz oq (fun q hq => by
          obtain ⟨z, -, hz⟩ := List.mem_map.mp hq
          rw [← hz]) List.length_set (mj_lens hc1 (mj_cpy_len s4 s5)) _ hheap X'
        exact ⟨t, step t a1, b1⟩
      · cases hs
    · cases hs
  · cases hs
set_option maxHeartbeats 1000000 in
theorem mj_mm_ok (hx : p.tables.exec = Jvm.exec) (hb : c.code = M.2.1) (hown : s.vm.findClass M.1.cls = some m.cls) (hn : mj_names[M.2.2.2.2.1]? = some M.1.cls) (hts : ∀ w ∈ mj_tbl, w.before args s = true) (hls : ls.size = c.maxLocals) (hRf : M.2.2.2.2.2.2.2.1 ≤ R.frames) (hRl : M.2.2.2.2.2.2.2.2 ≤ R.locals) (hcs : cells ≤ R.cells) (hss : slots ≤ R.slots)
    {idx ix kd z1 z2 : Nat} {st st' : List Value} (he : mj_ent M idx = some (ix, kd, z1, z2)) (hkd : kd = 9 ∨ kd = 10) (hs : mj_mm M kd st = some st') (hd : decode M.2.1 pc = .ok (.invokestatic idx, 3))
    (k : W p l e R s m args below meth c H locs cells slots Q (F0 m (pc + 3) ls (st'.map (mj_cv b B)))) : W p l e R s m args below meth c H locs cells slots Q (F0 m pc ls (st.map (mj_cv b B))) := by
  obtain ⟨g1, g2, -⟩ := mj_ent_in he hn
  dsimp only at g1
  subst g1
  unfold mj_mm at hs
  split at hs
  · rename_i y x r
    split at hs
    · rename_i hh
      have hlo : ((r.map (mj_cv b B)).map fun v => v.category).sum + 13 ≤ R.locals := by rw [mj_cat_sum]; omega
      rcases hkd with rfl | rfl
      · rw [if_pos rfl] at hs
        cases hs
        exact va_mmax hx hb hls.symm hown (mj_good hts (show Cond.methodLink M.1.cls ix Lib.Math.max.name ∈ lw_tbl from g2) rfl) (hts _ mj_w_maxS) (hts _ mj_w_math) (hts _ mj_w_maxC) (by omega) hlo hcs hss hd k
      · rw [if_neg (by decide)] at hs
        cases hs
        exact va_mmin hx hb hls.symm hown (mj_good hts (show Cond.methodLink M.1.cls ix Lib.Math.min.name ∈ lw_tbl from g2) rfl) (hts _ mj_w_minS) (hts _ mj_w_math) (hts _ mj_w_minC) (by omega) hlo hcs hss hd k
    · cases hs
  · cases hs
theorem mj_oi_ok (hx : p.tables.exec = Jvm.exec) (hb : c.code = M.2.1) (hown : s.vm.findClass M.1.cls = some m.cls) (hn : mj_names[M.2.2.2.2.1]? = some M.1.cls) (hts : ∀ w ∈ mj_tbl, w.before args s = true) (hls : ls.size = c.maxLocals) (hRf : M.2.2.2.2.2.2.2.1 ≤ R.frames) (hRl : M.2.2.2.2.2.2.2.2 ≤ R.locals)
    {idx ix z1 z2 a : Nat} {r : List Value} (he : mj_ent M idx = some (ix, 8, z1, z2)) (h1 : 1 ≤ M.2.2.2.2.2.2.2.1) (h2 : (r.map fun v => v.category).sum + 12 ≤ M.2.2.2.2.2.2.2.2) (hd : decode M.2.1 pc = .ok (.invokespecial idx, 3))
    (k : W p l e R s m args below meth c H locs cells slots Q (F0 m (pc + 3) ls (r.map (mj_cv b B)))) : W p l e R s m args below meth c H locs cells slots Q (F0 m pc ls ((.ref a :: r).map (mj_cv b B))) := by
  obtain ⟨g1, g2, -⟩ := mj_ent_in he hn
  dsimp only at g1
  subst g1
  exact W.objInit hx hb hown (mj_good hts (show Cond.methodLink M.1.cls ix objectInit ∈ lw_tbl from g2) rfl) (hts _ mj_w_oi) (hts _ mj_w_oc) rfl hls rfl hd (by omega) (by
    show 2 * 0 + _ + 12 ≤ _
    rw [mj_cat_sum]
    omega) k
end MJ4
