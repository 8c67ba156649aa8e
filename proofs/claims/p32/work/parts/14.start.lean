theorem mj_w_over : Cond.arrayOver (.object "SootMaps$Streets") ∈ lw_tbl := List.mem_of_getElem? (i := 214) (by decide +kernel)
theorem mj_arrK {s : State} {args : Array Value} {ty : FieldType} (h : (Cond.arrayClass ty).before args s = true) (hty : ∀ C, ty ≠ .object C) : ∃ cA : ClassId, ArrOfT s cA ty ∧ va_RA s cA ty := by
  obtain ⟨cA, kA, comp, h1, h2, h3⟩ := Cond.arrayClass_spec h
  refine ⟨cA, fun n z => ⟨fun k h => (by cases h), kA, h2, comp, h3⟩, ?_⟩
  cases ty with
  | object C => exact absurd rfl (hty C)
  | _ => exact h1
set_option maxHeartbeats 4000000 in
set_option maxRecDepth 100000 in
/-- the law's contract out of a run of the small machine -/
theorem mj_start {p : Program} {e : Env} {s : State} {m : MethodId} {below : List Frame} {meth : Method} {c : Code} (l : Launch) {b L : Nat} {xs : Nat → Int32} (C0 : lw_At p s m meth c b L xs)
    (hrun : ∃ f0 f h', mj_exL ((List.range L).map xs) (mj_ex f0) f (mj_law, 0, [(0, .retAddr 0)], [], []) = some (some (.int 1), h') ∧ h'.length ≤ 600000 ∧ mj_sl h' ≤ 7302249) :
    W p l e room_1 s m #[Value.ref b] below meth c s.heap [] 0 0 (lw_Z below #[Value.ref b] s) (entryFrame m ([Value.ref b] : List Value).toArray 4) := by
  obtain ⟨f0, f, h', hf, hz1, hz2⟩ := hrun
  obtain ⟨hx, hb, hr, hml, hown, hts0, hX, hbl, hlocks, hgv⟩ := C0
  have hts : ∀ w ∈ mj_tbl, w.before #[Value.ref b] s = true := fun w hw => hts0 w (List.mem_filter.mp hw).1
  obtain ⟨c0, iS0, hKn0⟩ := u_known (C := RX0) (T := TX0) (N := 8) (n := 8) hts (mj_cls 0 _ rfl).uws (hts _ (mj_cls 0 _ rfl).inst)
  obtain ⟨c1, iS1, hKn1⟩ := u_known (C := RX1) (T := TX1) (N := 3) (n := 3) hts (mj_cls 1 _ rfl).uws (hts _ (mj_cls 1 _ rfl).inst)
  obtain ⟨c2, iS2, hKn2⟩ := u_known (C := RX2) (T := TX2) (N := 3) (n := 3) hts (mj_cls 2 _ rfl).uws (hts _ (mj_cls 2 _ rfl).inst)
  obtain ⟨c3, iS3, hKn3⟩ := u_known (C := RX3) (T := TX3) (N := 3) (n := 3) hts (mj_cls 3 _ rfl).uws (hts _ (mj_cls 3 _ rfl).inst)
  obtain ⟨c4, iS4, hKn4⟩ := u_known (C := RX4) (T := TX4) (N := 9) (n := 9) hts (mj_cls 4 _ rfl).uws (hts _ (mj_cls 4 _ rfl).inst)
  obtain ⟨c5, iS5, hKn5⟩ := u_known (C := RX5) (T := TX5) (N := 3) (n := 3) hts (mj_cls 5 _ rfl).uws (hts _ (mj_cls 5 _ rfl).inst)
  obtain ⟨c6, iS6, hKn6⟩ := u_known (C := RX6) (T := TX6) (N := 4) (n := 4) hts (mj_cls 6 _ rfl).uws (hts _ (mj_cls 6 _ rfl).inst)
  obtain ⟨c7, iS7, hKn7⟩ := u_known (C := RX8) (T := TX8) (N := 7) (n := 7) hts (mj_cls 7 _ rfl).uws (hts _ (mj_cls 7 _ rfl).inst)
  obtain ⟨c8, iS8, hKn8⟩ := u_known (C := RX9) (T := TX9) (N := 6) (n := 6) hts (mj_cls 8 _ rfl).uws (hts _ (mj_cls 8 _ rfl).inst)
  obtain ⟨c9, iS9, hKn9⟩ := u_known (C := RX10) (T := TX10) (N := 10) (n := 10) hts (mj_cls 9 _ rfl).uws (hts _ (mj_cls 9 _ rfl).inst)
  obtain ⟨c10, iS10, hKn10⟩ := u_known (C := RX11) (T := TX11) (N := 38) (n := 38) hts (mj_cls 10 _ rfl).uws (hts _ (mj_cls 10 _ rfl).inst)
  obtain ⟨dC, dI, hKc⟩ : ∃ (dC : Nat → ClassId) (dI : Nat → Nat → Nat), ∀ (k : Nat) (q : vw_C), vwCl[k]? = some q → u_Kn s q.1 q.2.1 q.2.2 (dC k) (dI k) := by
    refine ⟨fun k => if k = 0 then c0 else (if k = 1 then c1 else (if k = 2 then c2 else (if k = 3 then c3 else (if k = 4 then c4 else (if k = 5 then c5 else (if k = 6 then c6 else (if k = 7 then c7 else (if k = 8 then c8 else (if k = 9 then c9 else (c10)))))))))), fun k => if k = 0 then iS0 else (if k = 1 then iS1 else (if k = 2 then iS2 else (if k = 3 then iS3 else (if k = 4 then iS4 else (if k = 5 then iS5 else (if k = 6 then iS6 else (if k = 7 then iS7 else (if k = 8 then iS8 else (if k = 9 then iS9 else (iS10)))))))))), ?_⟩
    intro k q hq
    match k, hq with
    | 0, hq => cases hq; exact hKn0
    | 1, hq => cases hq; exact hKn1
    | 2, hq => cases hq; exact hKn2
    | 3, hq => cases hq; exact hKn3
    | 4, hq => cases hq; exact hKn4
    | 5, hq => cases hq; exact hKn5
    | 6, hq => cases hq; exact hKn6
    | 7, hq => cases hq; exact hKn7
    | 8, hq => cases hq; exact hKn8
    | 9, hq => cases hq; exact hKn9
    | 10, hq => cases hq; exact hKn10
    | k + 11, hq => simp [vwCl] at hq
  obtain ⟨a0, ha0⟩ := mj_arrK (hts _ (mj_arrw (t := 100) (by decide) (by decide))) (fun C h => by cases h)
  obtain ⟨a1, ha1⟩ := mj_arrK (hts _ (mj_arrw (t := 101) (by decide) (by decide))) (fun C h => by cases h)
  obtain ⟨a2, ha2⟩ := mj_arrK (hts _ (mj_arrw (t := 102) (by decide) (by decide))) (fun C h => by cases h)
  have hAO : va_AO "SootMaps$Streets" s := va_AO.of (hts0 _ mj_w_over)
  obtain ⟨a3, ha3⟩ : ∃ cA : ClassId, ArrOfT s cA (.object "SootMaps$Streets") ∧ va_RA s cA (.object "SootMaps$Streets") := by
    obtain ⟨comp, cA, kA, f1, -, f2, f3, f4⟩ := Cond.arrayOver_spec hAO
    exact ⟨cA, fun N z => ⟨(fun k h => by cases h), kA, f2, comp, f3⟩, kA, comp, f2, f3, f1, f4⟩
  obtain ⟨cA, hcA⟩ : ∃ cA : Nat → ClassId, cA 100 = a0 ∧ cA 101 = a1 ∧ cA 102 = a2 ∧ cA 103 = a3 := ⟨fun k => if k = 100 then a0 else if k = 101 then a1 else if k = 102 then a2 else a3, rfl, rfl, rfl, rfl⟩
  obtain ⟨rfl, rfl, rfl, rfl⟩ := hcA
  have hK : mj_K (dC, dI) cA s := by
    refine ⟨⟨hKc, fun k q h => ?_⟩, ?_, hAO⟩
    · match k, h with
      | 0, h => cases h; exact ha0
      | 1, h => cases h; exact ha1
      | 2, h => cases h; exact ha2
      | 3, h => cases h; exact ha3
      | k + 4, h => simp at h
    · intro o pool C h1 h2 e he hk
      have h3 := hts0 _ (mj_inP o pool C h1 h2 e he)
      obtain ⟨ix, kd, a, b⟩ := e
      rcases hk with hk | hk
      · dsimp only at hk
        subst hk
        exact va_Nw.of rfl h3
      · dsimp only at hk
        subst hk
        exact va_Nw.of rfl h3
  have hX' : mj_X b (some ((List.range L).map xs)) s := by
    obtain ⟨scr, g1, g2, g3, g4, g5⟩ := hX
    refine ⟨scr, g1, g2, g3, by rw [g4, List.length_map, List.length_range], fun j hj => ?_⟩
    rw [List.length_map, List.length_range] at hj
    rw [g5 j hj]
    simp [hj]
  have hR : mj_R (dC, dI) cA b s.heap.size [] s.heap := ⟨rfl, fun a t xs h => by simp at h⟩
  have hl := lv_entry ([.ref b]) (n := 4) (Nat.le_of_ble_eq_true rfl)
  rw [lg_entry_eq]
  generalize (lg_sl ([.ref b]) ++ List.replicate (4 - (lg_sl ([.ref b])).length) Slot.unset).toArray = ls at hl ⊢
  have hl : lv_has ls 4 (mj_cl b s.heap.size [(0, .retAddr 0)]) := hl
  have key := (mj_soundL (l := l) (D := (dC, dI)) (cA := cA) (b := b) (B := s.heap.size) (sc := (List.range L).map xs) f0 f mj_law 0 _ [] [] _ h' hf).2 p e room_1 s m #[Value.ref b] below meth c s.heap [] 0 0 ls (lw_Z below #[Value.ref b] s) hx hb hml hown rfl (fun h => absurd h (by decide)) hts hK hX' hbl (fun _ _ => rfl) (fun q hq => absurd hq List.not_mem_nil) hR hl (by decide) (by decide) (Nat.le_refl _) (Nat.le_refl _) (by show _ ≤ 0 + 600000; omega) (by show _ ≤ 0 + 7302249; omega) ?_
  · exact key
  · intro H' locs' pc' ls' o1 o2 o3 o4
    rcases o4 with ⟨q1, -⟩ | ⟨v, ty, q1, q2, q3, q4⟩
    · cases q1
    · refine va_forget o2 ?_
      refine W.widen (k := 600000) (n := 7302249) (by omega) (by omega) ?_
      exact lw_ret hx hb hr hlocks q4
