/-! MONTHS BY DRAWS -/
theorem r2_pd {s t : sg_S} (ht : sv t) (g : t 234 6 ≤ 0 ∨ t 235 11 = -1) (h : r2 s t) : (dc_C_draw s 4).2 = (dc_R_draw (dc_R_passes t 0) 4).2 ∧ r2 (dc_St_passMonth (dc_C_draw s 4).1) (dc_R_draw (dc_R_passes t 0) 4).1 := by
  have hb := st_b_of ht
  obtain ⟨d1, d2⟩ := r2_draw ht h (n := 4) (by omega)
  have eC : ∀ a k, 0 < a → (dc_C_draw s 4).1 a k = s a k := fun a k ha => by
    unfold dc_C_draw
    rw [if_pos (by decide)]
    exact sg_na (by omega) _ _ _
  have hn : st_s (dc_C_draw s 4).1 t 13 0 := st_go hb (by omega) rfl rfl (fun j l _ _ => eC _ l (by omega)) (fun _ _ => rfl) h.1
  obtain ⟨w1, w2, w3, w4⟩ := mo_pass 10 10 (dc_C_draw s 4).1 t 0 ht g hn (by rw [eC 8 1 (by omega)]; exact h.2.2.2.2.2.2.1) (by rw [eC 8 3 (by omega)]; exact r2_houses h) (by omega) (by omega) (by omega) (by omega)
  have e111 : dc_R_passes t 0 235 111 = t 235 111 := w4 111 (by omega)
  have eD : (dc_R_draw (dc_R_passes t 0) 4).2 = (dc_R_draw t 4).2 := by
    unfold dc_R_draw
    dsimp only
    rw [e111]
  have eD1 : (dc_R_draw (dc_R_passes t 0) 4).1 235 111 = (dc_R_draw t 4).1 235 111 := by
    unfold dc_R_draw
    dsimp only
    rw [sg_eq, sg_eq, e111]
  have eR : ∀ a k, a ≠ 235 → (dc_R_draw (dc_R_passes t 0) 4).1 a k = t a k := fun a k ha => by
    unfold dc_R_draw
    exact (sg_na ha _ _ _).trans (w3 a k ha)
  have eRt : ∀ a k, a ≠ 235 → (dc_R_draw t 4).1 a k = t a k := fun a k ha => by
    unfold dc_R_draw
    exact sg_na ha _ _ _
  have eW : ∀ k, k ≠ 111 → (dc_R_draw (dc_R_passes t 0) 4).1 235 k = dc_R_passes t 0 235 k := fun k hk => by
    unfold dc_R_draw
    exact sg_nk hk _ _ _
  have eWt : ∀ k, k ≠ 111 → (dc_R_draw t 4).1 235 k = t 235 k := fun k hk => by
    unfold dc_R_draw
    exact sg_nk hk _ _ _
  refine ⟨d1.trans eD.symm, ?_⟩
  have sp := sv_passes ht g
  refine r2_now (st_b_of (sv_draw ht (a := 4) (by omega) (by omega)).1) w2 (fun k => (eR 234 k (by decide)).trans (eRt 234 k (by decide)).symm) (fun k => (eR 236 k (by decide)).trans (eRt 236 k (by decide)).symm) (fun k => (eR 237 k (by decide)).trans (eRt 237 k (by decide)).symm) (fun k hk => by rw [eW k (by omega), eWt k (by omega)]; exact w4 k (by omega)) ?_ ?_ d2
  · exact st_go (st_b_of sp) (by omega) ((eR 234 6 (by decide)).trans (w3 234 6 (by decide)).symm) ((eR 234 7 (by decide)).trans (w3 234 7 (by decide)).symm) (fun _ _ _ _ => rfl) (fun p hp => eW _ (by omega)) w1
  · have : dc_St_passMonth (dc_C_draw s 4).1 0 9 = (dc_C_draw s 4).1 0 9 := w2 0 9 (by omega)
    rw [this, eD1]
    exact d2.2.2.2.1
theorem r2_wash' {s t : sg_S} (ht : sv t) (h : r2 s t) {c d : Int} (e : c = d) : r2 (if c = 0 then (dc_St_washOff s (s 8 2)).1 else s) (if d = 0 then (dc_R_washes t).1 else t) := by
  rw [e]
  split
  · exact (r2_wash ht h).2
  · exact h
/-- the reference's month by draws, behind minding -/
def df_R (t : sg_S) : sg_S := if (t 234 6) ≤ 0 then (if ((dc_R_draw (dc_R_passes t 0) 4).2) = 0 then (dc_R_washes (dc_R_draw (dc_R_passes t 0) 4).1).1 else (dc_R_draw (dc_R_passes t 0) 4).1) else (if ((dc_R_draw (dc_R_passes (sg_up (dc_R_draw (dc_R_draw t (t 234 6)).1 8).1 235 ((2 + ((dc_R_draw t (t 234 6)).2)).toNat) ((dc_R_draw (dc_R_draw t (t 234 6)).1 8).2)) 0) 4).2) = 0 then (dc_R_washes (dc_R_draw (dc_R_passes (sg_up (dc_R_draw (dc_R_draw t (t 234 6)).1 8).1 235 ((2 + ((dc_R_draw t (t 234 6)).2)).toNat) ((dc_R_draw (dc_R_draw t (t 234 6)).1 8).2)) 0) 4).1).1 else (dc_R_draw (dc_R_passes (sg_up (dc_R_draw (dc_R_draw t (t 234 6)).1 8).1 235 ((2 + ((dc_R_draw t (t 234 6)).2)).toNat) ((dc_R_draw (dc_R_draw t (t 234 6)).1 8).2)) 0) 4).1)
theorem df_pd {s t : sg_S} (ht : sv t) (hg : gv_R t) (h : r2 s t) : sv (df_R t) ∧ gv_R (df_R t) ∧ r2 (dc_C_passDrawnMonth s) (df_R t) := by
  have hb := st_b_of ht
  have b9 := hb.2.1
  have e83 := r2_houses h
  unfold dc_C_passDrawnMonth df_R
  rw [e83]
  by_cases c : t 234 6 ≤ 0
  · rw [if_pos c, if_pos c]
    obtain ⟨p1, p2⟩ := r2_pd ht (gv_of hg) h
    have en := gx_end ht hg
    rw [p1]
    split
    · exact ⟨en.2.1, en.2.2, (r2_wash en.1.1 p2).2⟩
    · exact ⟨en.1.1, en.1.2, p2⟩
  · rw [if_neg c, if_neg c]
    obtain ⟨q1, q2⟩ := r2_draw ht h (n := t 234 6) (by omega)
    have s1 := sv_draw ht (a := t 234 6) (by omega) (by omega)
    have g1 := gv_RK hg (gv_K_draw (s := t) (a := t 234 6))
    obtain ⟨q3, q4⟩ := r2_draw s1.1 q2 (n := 8) (by omega)
    have s2 := sv_draw s1.1 (a := 8) (by omega) (by omega)
    have g2 := gv_RK g1 (gv_K_draw (s := (dc_R_draw t (t 234 6)).1) (a := 8))
    have e6 : (dc_R_draw (dc_R_draw t (t 234 6)).1 8).1 234 6 = t 234 6 := by
      unfold dc_R_draw
      dsimp only
      rw [sg_na (by decide), sg_na (by decide)]
    rw [q1, q3]
    have hh : ¬ dc_C_isHouse (dc_C_draw (dc_C_draw s (t 234 6)).1 8).1 (dc_R_draw t (t 234 6)).2 = 0 := fun z => by
      have := (r1_hC _ _).mp z
      rw [r2_houses q4, e6] at this
      omega
    rw [if_neg hh]
    have pa : st_pa1 (2 + (dc_R_draw t (t 234 6)).2.toNat) = 2 := by unfold st_pa1; rw [if_neg (by omega), if_pos (by omega)]
    have pk : st_pk (2 + (dc_R_draw t (t 234 6)).2.toNat) = (dc_R_draw t (t 234 6)).2.toNat := by unfold st_pk; rw [if_neg (by omega), if_neg (by omega), if_pos (by omega)]; omega
    have q5 := r2_set (st_b_of s2.1) q4 (p := 2 + (dc_R_draw t (t 234 6)).2.toNat) (by omega) (dc_R_draw (dc_R_draw t (t 234 6)).1 8).2
    rw [pa, pk, show 2 + (dc_R_draw t (t 234 6)).2.toNat = (2 + (dc_R_draw t (t 234 6)).2).toNat by omega] at q5
    have s3 := sv_burns s2.1 (x := (dc_R_draw t (t 234 6)).2) (v := (dc_R_draw (dc_R_draw t (t 234 6)).1 8).2) (by omega) (by omega) (by omega) (by omega)
    have g3 := gv_RK g2 (gv_K_up (s := (dc_R_draw (dc_R_draw t (t 234 6)).1 8).1) (k := (2 + (dc_R_draw t (t 234 6)).2).toNat) (v := (dc_R_draw (dc_R_draw t (t 234 6)).1 8).2) (by omega))
    obtain ⟨p1, p2⟩ := r2_pd s3 (gv_of g3) q5
    have en := gx_end s3 g3
    have p1' : (dc_C_draw (sg_up (dc_C_draw (dc_C_draw s (t 234 6)).1 8).1 15 ((dc_R_draw t (t 234 6)).2.toNat) (dc_R_draw (dc_R_draw t (t 234 6)).1 8).2) 4).2 = (dc_R_draw (dc_R_passes (sg_up (dc_R_draw (dc_R_draw t (t 234 6)).1 8).1 235 ((2 + ((dc_R_draw t (t 234 6)).2)).toNat) ((dc_R_draw (dc_R_draw t (t 234 6)).1 8).2)) 0) 4).2 := p1
    rw [p1']
    split
    · exact ⟨en.2.1, en.2.2, (r2_wash en.1.1 p2).2⟩
    · exact ⟨en.1.1, en.1.2, p2⟩
theorem df_loop (n : Nat) : ∀ (s t : sg_S) (a k : Int), sv t → gv_R t → r2 s t → (dc_C_drift_14 n s a k).2 = (dc_R_drift_42 n t a k).2 ∧ r2 (dc_C_drift_14 n s a k).1 (dc_R_drift_42 n t a k).1 := by
  induction n with
  | zero => intro s t a k _ _ h; exact ⟨rfl, h⟩
  | succ n ih =>
    intro s t a k ht hg h
    have hm := r2_minds ht h
    have hs := sv_minds ht
    have hv := gv_minds ht hg
    obtain ⟨k1, k2, k3⟩ := df_pd hs hv hm
    have e6 : dc_R_minds t 234 6 = t 234 6 := dr_R_minds t 234 6 rfl
    rw [dc_C_drift_14_s, dc_R_drift_42_s]
    by_cases c : a ≤ k
    · rw [if_pos c, if_pos c]
      exact ⟨su_same ht h.1, h⟩
    · rw [if_neg c, if_neg c]
      have key := ih _ _ a (k + 1) k1 k2 k3
      unfold df_R at key
      rw [e6] at key
      by_cases c1 : t 234 6 ≤ 0
      · rw [if_pos c1] at key ⊢
        by_cases c2 : (dc_R_draw (dc_R_passes (dc_R_minds t) 0) 4).2 = 0
        · rw [if_pos c2] at key ⊢; exact key
        · rw [if_neg c2] at key ⊢; exact key
      · rw [if_neg c1] at key ⊢
        by_cases c2 : (dc_R_draw (dc_R_passes (sg_up (dc_R_draw (dc_R_draw (dc_R_minds t) (t 234 6)).1 8).1 235 ((2 + ((dc_R_draw (dc_R_minds t) (t 234 6)).2)).toNat) ((dc_R_draw (dc_R_draw (dc_R_minds t) (t 234 6)).1 8).2)) 0) 4).2 = 0
        · rw [if_pos c2] at key ⊢; exact key
        · rw [if_neg c2] at key ⊢; exact key
theorem r2_drift {s t : sg_S} (ht : sv t) (hg : gv_R t) (h : r2 s t) (a : Int) : (dc_C_drift s a).2 = (dc_R_drift t a).2 ∧ r2 (dc_C_drift s a).1 (dc_R_drift t a).1 := by
  unfold dc_C_drift dc_R_drift
  rcases mo_ref h a with ⟨c1, c2, c3, c4, c5⟩ | ⟨c1, c2⟩
  · rw [if_pos c5, if_neg (eq_in1 ⟨c1, c2⟩), if_neg c3, if_pos c4]
    exact df_loop 31 s t a 0 ht hg h
  · rw [if_neg c1, c2]
    exact ⟨rfl, h⟩
/-! calls that leave streets, past, images and dice as they are -/
theorem r2_fr {s s' t t' : sg_S} (hb : st_b t) (hC : ∀ a k, (a = 0 ∨ a = 8 ∨ (12 ≤ a ∧ a ≤ 216)) → a ≠ 204 → s' a k = s a k) (hR : ∀ k, 2 ≤ k → k ≤ 7 → t' 234 k = t 234 k) (h6 : ∀ k, t' 236 k = t 236 k) (h7 : ∀ k, t' 237 k = t 237 k) (hW : ∀ k, (k < 112 ∨ 224 ≤ k) → t' 235 k = t 235 k) (h : r2 s t) : r2 s' t' := by
  obtain ⟨g1, ⟨p1, p2, p3, p4, p5, p6⟩, g3, g4, g5, c0, c1, c2, c3, c4⟩ := h
  have r6 := hR 6 (by omega) (by omega)
  have r7 := hR 7 (by omega) (by omega)
  refine ⟨st_go hb (by omega) r6 r7 (fun j l _ _ => hC _ l (by omega) (by omega)) (fun p _ => hW _ (by omega)) g1, ⟨?_, ?_, ?_, ?_, ?_, fun x hx => ?_⟩, fun i hi hk => ?_, ?_, fun x hx => ?_, ?_, ?_, ?_, ?_, ?_⟩
  · rw [hC 19 2 (by omega) (by omega), hR 2 (by omega) (by omega)]; exact p1
  · rw [hC 19 2 (by omega) (by omega)]; exact p2
  · rw [hC 19 2 (by omega) (by omega)]; exact p3
  · rw [hC 19 1 (by omega) (by omega)]; exact p4
  · rw [hC 19 1 (by omega) (by omega)]; exact p5
  · rw [hC 19 2 (by omega) (by omega)] at hx
    rw [hC 19 1 (by omega) (by omega), hC 19 2 (by omega) (by omega)]
    exact st_go hb (by omega) r6 r7 (fun j l _ _ => hC _ l (by omega) (by omega)) (fun p _ => hW _ (by omega)) (p6 x hx)
  · rw [h6] at hk
    obtain ⟨k1, k2⟩ := g3 i hi hk
    refine ⟨st_go hb (by omega) r6 r7 (fun j l _ _ => hC _ l (by omega) (by omega)) (fun p _ => hW _ (by omega)) k1, ?_⟩
    rw [hC 203 i (by omega) (by omega), hW _ (by omega)]
    exact k2
  · rw [hC 0 9 (by omega) (by omega), hW 111 (by omega)]; exact g4
  · rw [r7] at hx
    rw [hC 12 x (by omega) (by omega), h7]
    exact g5 x hx
  · rw [hC 8 0 (by omega) (by omega), hR 3 (by omega) (by omega)]; exact c0
  · rw [hC 8 1 (by omega) (by omega), hR 4 (by omega) (by omega)]; exact c1
  · rw [hC 8 2 (by omega) (by omega), hR 5 (by omega) (by omega)]; exact c2
  · rw [hC 8 3 (by omega) (by omega), r6]; exact c3
  · rw [hC 8 4 (by omega) (by omega), r7]; exact c4
