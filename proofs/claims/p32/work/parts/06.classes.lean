set_option maxRecDepth 100000 in
theorem mj_u_0 : ∀ w ∈ u_ws RX0 TX0 8 ++ [.instantiable RX0 8, .initialized RX0], w ∈ lw_tbl := mj_places _ [313, 315, 317, 319, 321, 323, 325, 327, 300, 70] (by decide +kernel)
set_option maxRecDepth 100000 in
theorem mj_u_1 : ∀ w ∈ u_ws RX1 TX1 3 ++ [.instantiable RX1 3, .initialized RX1], w ∈ lw_tbl := mj_places _ [276, 278, 280, 267, 68] (by decide +kernel)
set_option maxRecDepth 100000 in
theorem mj_u_2 : ∀ w ∈ u_ws RX2 TX2 3 ++ [.instantiable RX2 3, .initialized RX2], w ∈ lw_tbl := mj_places _ [238, 240, 242, 228, 66] (by decide +kernel)
set_option maxRecDepth 100000 in
theorem mj_u_3 : ∀ w ∈ u_ws RX3 TX3 3 ++ [.instantiable RX3 3, .initialized RX3], w ∈ lw_tbl := mj_places _ [220, 222, 224, 208, 65] (by decide +kernel)
set_option maxRecDepth 100000 in
theorem mj_u_4 : ∀ w ∈ u_ws RX4 TX4 9 ++ [.instantiable RX4 9, .initialized RX4], w ∈ lw_tbl := mj_places _ [122, 124, 126, 128, 130, 132, 134, 136, 138, 91, 63] (by decide +kernel)
set_option maxRecDepth 100000 in
theorem mj_u_5 : ∀ w ∈ u_ws RX5 TX5 3 ++ [.instantiable RX5 3, .initialized RX5], w ∈ lw_tbl := mj_places _ [292, 294, 296, 284, 69] (by decide +kernel)
set_option maxRecDepth 100000 in
theorem mj_u_6 : ∀ w ∈ u_ws RX6 TX6 4 ++ [.instantiable RX6 4, .initialized RX6], w ∈ lw_tbl := mj_places _ [257, 259, 261, 263, 247, 67] (by decide +kernel)
set_option maxRecDepth 100000 in
theorem mj_u_7 : ∀ w ∈ u_ws RX8 TX8 7 ++ [.instantiable RX8 7, .initialized RX8], w ∈ lw_tbl := mj_places _ [192, 194, 196, 198, 200, 202, 204, 169, 64] (by decide +kernel)
set_option maxRecDepth 100000 in
theorem mj_u_8 : ∀ w ∈ u_ws RX9 TX9 6 ++ [.instantiable RX9 6, .initialized RX9], w ∈ lw_tbl := mj_places _ [153, 155, 157, 159, 161, 163, 85, 62] (by decide +kernel)
set_option maxRecDepth 100000 in
theorem mj_u_9 : ∀ w ∈ u_ws RX10 TX10 10 ++ [.instantiable RX10 10, .initialized RX10], w ∈ lw_tbl := mj_places _ [340, 342, 344, 346, 348, 350, 352, 354, 356, 358, 77, 61] (by decide +kernel)
set_option maxRecDepth 100000 in
theorem mj_u_10 : ∀ w ∈ u_ws RX11 TX11 38 ++ [.instantiable RX11 38, .initialized RX11], w ∈ lw_tbl := mj_places _ [885, 887, 889, 891, 893, 895, 897, 899, 901, 903, 905, 907, 909, 911, 913, 915, 917, 919, 921, 923, 925, 927, 929, 931, 933, 935, 937, 939, 941, 943, 945, 947, 949, 951, 953, 955, 957, 959, 842, 71] (by decide +kernel)
/-- all that is fixed of a class whose objects there are -/
def mj_CF (ci : Nat) (q : vw_C) : Prop := (∀ w ∈ u_ws q.1 q.2.1 q.2.2 ++ [.instantiable q.1 q.2.2, .initialized q.1], w ∈ lw_tbl) ∧ (∀ k, k < q.2.2 → parseFieldDescriptor (q.2.1 k).2.2.1 = some (mj_ty ci k)) ∧ (∀ a, a < q.2.2 → ∀ b, b < q.2.2 → a ≠ b → (q.2.1 a).2.1 ≠ (q.2.1 b).2.1) ∧ (∀ k, k < q.2.2 → (q.2.1 k).1 = q.1) ∧ mj_names[ci]? = some q.1
theorem mj_cls (ci : Nat) (q : vw_C) (hq : vwCl[ci]? = some q) : mj_CF ci q := by
  match ci, hq with
  | 0, hq => cases hq; exact ⟨mj_u_0, tyX0_ok, nmX0, by decide +kernel, rfl⟩
  | 1, hq => cases hq; exact ⟨mj_u_1, tyX1_ok, nmX1, by decide +kernel, rfl⟩
  | 2, hq => cases hq; exact ⟨mj_u_2, tyX2_ok, nmX2, by decide +kernel, rfl⟩
  | 3, hq => cases hq; exact ⟨mj_u_3, tyX3_ok, nmX3, by decide +kernel, rfl⟩
  | 4, hq => cases hq; exact ⟨mj_u_4, tyX4_ok, nmX4, by decide +kernel, rfl⟩
  | 5, hq => cases hq; exact ⟨mj_u_5, tyX5_ok, nmX5, by decide +kernel, rfl⟩
  | 6, hq => cases hq; exact ⟨mj_u_6, tyX6_ok, nmX6, by decide +kernel, rfl⟩
  | 7, hq => cases hq; exact ⟨mj_u_7, tyX8_ok, nmX8, by decide +kernel, rfl⟩
  | 8, hq => cases hq; exact ⟨mj_u_8, tyX9_ok, nmX9, by decide +kernel, rfl⟩
  | 9, hq => cases hq; exact ⟨mj_u_9, tyX10_ok, nmX10, by decide +kernel, rfl⟩
  | 10, hq => cases hq; exact ⟨mj_u_10, tyX11_ok, nmX11, by decide +kernel, rfl⟩
  | n + 11, hq => simp [vwCl] at hq
theorem mj_tbl_of {w : Cond} (h : w ∈ lw_tbl) (hg : goodWord w = true) : w ∈ mj_tbl := List.mem_filter.mpr ⟨h, hg⟩
theorem mj_uws_good (C : String) (T : u_T) (N : Nat) : ∀ w ∈ u_ws C T N, goodWord w = true := by
  intro w hw
  obtain ⟨k, -, rfl⟩ := List.mem_map.mp hw
  unfold u_lay
  split <;> rfl
theorem mj_CF.uws {ci : Nat} {q : vw_C} (h : mj_CF ci q) : ∀ w ∈ u_ws q.1 q.2.1 q.2.2, w ∈ mj_tbl := fun w hw => mj_tbl_of (h.1 w (List.mem_append_left _ hw)) (mj_uws_good _ _ _ w hw)
theorem mj_CF.inst {ci : Nat} {q : vw_C} (h : mj_CF ci q) : Cond.instantiable q.1 q.2.2 ∈ mj_tbl := mj_tbl_of (h.1 _ (List.mem_append_right _ (by simp))) rfl
theorem mj_CF.ini {ci : Nat} {q : vw_C} (h : mj_CF ci q) : Cond.initialized q.1 ∈ mj_tbl := mj_tbl_of (h.1 _ (List.mem_append_right _ (by simp))) rfl
/-- an entry that was found stands in the pool of the method's class -/
theorem mj_ent_in {M : mj_M} {idx : Nat} {e : mj_E} (h : mj_ent M idx = some e) (hn : mj_names[M.2.2.2.2.1]? = some M.1.cls) : e.1 = idx ∧ mj_word M.1.cls e ∈ lw_tbl ∧ ∃ pool, mj_pools[M.2.2.2.2.1]? = some pool ∧ e ∈ pool := by
  unfold mj_ent at h
  split at h
  · rename_i pool hp
    have h1 := List.find?_some h
    have h2 := List.mem_of_find?_eq_some h
    exact ⟨by simpa using h1, mj_inP _ _ _ hp hn _ h2, pool, hp, h2⟩
  · cases h
/-- the words of nest mates, which the good words don't hold -/
def mj_N (U : State) : Prop := ∀ (o : Nat) (pool : List mj_E) (C : String), mj_pools[o]? = some pool → mj_names[o]? = some C → ∀ e ∈ pool, (e.2.1 = 1 ∨ e.2.1 = 3) → va_Nw (mj_word C e) U
theorem mj_N.moved {s U : State} (hW : s.WarmedH U.vm) (h : mj_N s) : mj_N U := by
  intro o pool C h1 h2 e he hk
  have h3 := h o pool C h1 h2 e he hk
  obtain ⟨ix, kd, a, b⟩ := e
  rcases hk with hk | hk
  · dsimp only at hk
    subst hk
    exact va_Nw.warmF hW h3
  · dsimp only at hk
    subst hk
    exact va_Nw.warmM hW h3
abbrev mj_arrs (cA : Nat → ClassId) : List (ClassId × FieldType) := [(cA 100, .int), (cA 101, .char), (cA 102, .boolean), (cA 103, .object "SootMaps$Streets")]
/-- what a state's tables say: classes, arrays, nest mates; and the script -/
def mj_K (D : va_G) (cA : Nat → ClassId) (U : State) : Prop := va_K D vwCl (mj_arrs cA) U ∧ mj_N U ∧ va_AO "SootMaps$Streets" U
theorem mj_K.moved {D : va_G} {cA : Nat → ClassId} {s U : State} (hW : s.WarmedH U.vm) (h : mj_K D cA s) : mj_K D cA U := ⟨va_K.moved hW.alike h.1, h.2.1.moved hW, h.2.2.moved hW.alike⟩
theorem mj_K.arr {D : va_G} {cA : Nat → ClassId} {s : State} (h : mj_K D cA s) {t : Nat} (h1 : 100 ≤ t) (h2 : t < 104) : ArrOfT s (cA t) (mj_elt t) ∧ va_RA s (cA t) (mj_elt t) := by
  rcases (show t = 100 ∨ t = 101 ∨ t = 102 ∨ t = 103 by omega) with rfl | rfl | rfl | rfl
  · exact h.1.2 0 _ rfl
  · exact h.1.2 1 _ rfl
  · exact h.1.2 2 _ rfl
  · exact h.1.2 3 _ rfl
theorem mj_arrV_ext {c : ClassId} {n : Nat} {f g : Nat → Value} (h : ∀ j, j < n → f j = g j) : arrV c n f = arrV c n g := by
  unfold arrV
  congr 2
  funext j
  exact h j.val j.isLt
/-- a cell of the list and the heap's -/
def mj_at (D : va_G) (cA : Nat → ClassId) (b B : Nat) (H : Heap) (a t : Nat) (xs : List Value) : Prop :=
  (t < 11 ∧ ∃ r : vw_C, vwCl[t]? = some r ∧ r.2.2 = xs.length ∧ t_OB (B + a) (D.1 t) r.2.2 (D.2 t) H (vp_V (xs.map (mj_cv b B)))) ∨
  (100 ≤ t ∧ t < 104 ∧ H[B + a]? = some (arrV (cA t) xs.length (vp_V (xs.map (mj_cv b B)))))
def mj_R (D : va_G) (cA : Nat → ClassId) (b B : Nat) (h : mj_H) (H : Heap) : Prop := H.size = B + h.length ∧ ∀ (a t : Nat) (xs : List Value), h[a]? = some (t, xs) → mj_at D cA b B H a t xs
theorem mj_at.kept {D : va_G} {cA : Nat → ClassId} {b B : Nat} {H H1 : Heap} {a t : Nat} {xs : List Value} (h : mj_at D cA b B H a t xs) (hq : H1[B + a]? = H[B + a]?) : mj_at D cA b B H1 a t xs := by
  rcases h with ⟨h1, r, h2, h3, h4⟩ | ⟨h1, h2, h3⟩
  · exact Or.inl ⟨h1, r, h2, h3, h4.kept hq⟩
  · exact Or.inr ⟨h1, h2, hq.trans h3⟩
theorem mj_R.set {D : va_G} {cA : Nat → ClassId} {b B : Nat} {h : mj_H} {H H1 : Heap} {a t : Nat} {ys : List Value} (hR : mj_R D cA b B h H) (hz : H1.size = H.size) (ho : ∀ q, q ≠ B + a → H1[q]? = H[q]?) (hn : mj_at D cA b B H1 a t ys) : mj_R D cA b B (h.set a (t, ys)) H1 := by
  refine ⟨by rw [hz, List.length_set]; exact hR.1, fun a' t' xs' he => ?_⟩
  by_cases e : a' = a
  · subst e
    by_cases hl : a' < h.length
    · rw [List.getElem?_set_self hl] at he
      cases he
      exact hn
    · rw [List.getElem?_eq_none (by rw [List.length_set]; omega)] at he
      cases he
  · rw [List.getElem?_set_ne (Ne.symm e)] at he
    exact (hR.2 a' t' xs' he).kept (ho _ (by omega))
theorem mj_R.push {D : va_G} {cA : Nat → ClassId} {b B : Nat} {h : mj_H} {H H1 : Heap} {t : Nat} {ys : List Value} (hR : mj_R D cA b B h H) (hz : H1.size = H.size + 1) (ho : ∀ q, q < H.size → H1[q]? = H[q]?) (hn : mj_at D cA b B H1 h.length t ys) : mj_R D cA b B (h ++ [(t, ys)]) H1 := by
  refine ⟨by rw [hz, List.length_append, hR.1]; simp; omega, fun a' t' xs' he => ?_⟩
  by_cases hl : a' < h.length
  · rw [List.getElem?_append_left hl] at he
    exact (hR.2 a' t' xs' he).kept (ho _ (by rw [hR.1]; omega))
  · have hz2 : a' < (h ++ [(t, ys)]).length := (List.getElem?_eq_some_iff.mp he).1
    rw [List.length_append] at hz2
    simp at hz2
    have e : a' = h.length := by omega
    subst e
    rw [List.getElem?_append_right (Nat.le_refl _), Nat.sub_self] at he
    cases he
    exact hn
theorem mj_vp {b B : Nat} {xs : List Value} {j : Nat} {v : Value} (h : xs[j]? = some v) : vp_V (xs.map (mj_cv b B)) j = mj_cv b B v := by
  simp [vp_V, h]
theorem mj_vp_set {b B : Nat} {xs : List Value} {j : Nat} {v : Value} (hj : j < xs.length) (q : Nat) : updV (vp_V (xs.map (mj_cv b B))) j (mj_cv b B v) q = vp_V ((xs.set j v).map (mj_cv b B)) q := by
  rw [vp_updV_set (by rw [List.length_map]; exact hj), List.map_set]
