/-! TRADE ON BOTH SIDES -/
theorem tr_25a {S m : Int} {M : Nat} (n : Nat) : ∀ (s : sg_S) (i : Nat), s 227 6 = (M : Int) → i ≤ M → M - i < n → (∀ j, i ≤ j → j < M → s 229 j ≠ 0) → dc_Ba_settle_25 n s S m (i : Int) = (if ((M : Int) + 1) * (dc_Ba_listTallies s S m 227 7) ≤ 3750 then dc_Ba_settle_84 626 (dc_Ba_listTallies s S m) 0 else (dc_Ba_listTallies s S m, 0)) := by
  induction n with
  | zero => intro s i _ _ hn; exact absurd hn (by omega)
  | succ n ih =>
    intro s i h6 hi hn hz
    rw [dc_Ba_settle_25_s, h6]
    by_cases c : (M : Int) ≤ (i : Int)
    · rw [if_pos c]
    · rw [if_neg c, Int.toNat_natCast, if_neg (hz i (Nat.le_refl _) (by omega)), show ((i : Int) + 1) = ((i + 1 : Nat) : Int) by omega]
      exact ih s (i + 1) h6 (by omega) (by omega) (fun j j1 j2 => hz j (by omega) j2)
theorem tr_25b {S m : Int} {M j0 : Nat} (hM : j0 < M) (n : Nat) : ∀ (s : sg_S) (i : Nat), s 227 6 = (M : Int) → i ≤ j0 → M - i < n → s 229 j0 = 0 → (dc_Ba_settle_25 n s S m (i : Int)).2 = 0 := by
  induction n with
  | zero => intro s i _ _ hn; exact absurd hn (by omega)
  | succ n ih =>
    intro s i h6 hi hn hz
    rw [dc_Ba_settle_25_s, h6, if_neg (show ¬ (M : Int) ≤ (i : Int) by omega), Int.toNat_natCast]
    by_cases q : s 229 i = 0
    · rw [if_pos q]
    · rw [if_neg q, show ((i : Int) + 1) = ((i + 1 : Nat) : Int) by omega]
      refine ih s (i + 1) h6 ?_ (by omega) hz
      have : i ≠ j0 := fun e => q (by rw [e]; exact hz)
      omega
theorem tr_237 {t : sg_S} (ht : sv t) (z : Nat) : 0 ≤ t 237 z ∧ t 237 z ≤ 99 := by
  by_cases c : z < 5
  · exact sv_bd ht (a := 237) (k := z) (lo := 0) (hi := 99) rfl c (ab_el_1 rfl _)
  · obtain ⟨h, hH, rfl⟩ := ht
    obtain ⟨xs, hx, hl, -⟩ := hH.cell (a := 237) rfl
    have e : sy_rd h 237 z = 0 := by
      unfold sy_rd
      rw [hx]
      show sy_at xs z = 0
      unfold sy_at
      rw [List.getElem?_eq_none (by omega)]
    omega
theorem tr_K5 {t : sg_S} (ht : sv t) {y : Nat} (hy : y < 5) : 0 ≤ t 235 (101 + y) ∧ t 235 (101 + y) ≤ 511 := by
  obtain ⟨hp, hH, rfl⟩ := ht
  have := sg_wcN 101 106 (lo := 0) (hi := 511) (by decide) (by omega) (by omega) (by omega) (sg_rngW hH (z := 101 + (y : Int)) (by omega) (by omega))
  rw [show (101 + (y : Int)).toNat = 101 + y by omega] at this
  exact this
theorem tr_has (t : sg_S) {x : Int} (x0 : 0 ≤ x) (x1 : x ≤ 511) {h : Nat} (hh : h < 9) : dc_R_has t x (h : Int) = if x.toNat.testBit h = true then 1 else 0 := by
  unfold dc_R_has
  rw [yb_bt x0 (by omega) (by omega) (by omega), Int.toNat_natCast]
  by_cases c : x.toNat.testBit h = true
  · simp [c]
  · simp [c]
def tr_cn (g : Nat → Bool) : Nat → Int
  | 0 => 0
  | i + 1 => tr_cn g i + (if g i = true then 1 else 0)
theorem tr_cn_s (g : Nat → Bool) (i : Nat) : tr_cn g (i + 1) = tr_cn g i + (if g i = true then 1 else 0) := rfl
theorem tr_cn_m (g : Nat → Bool) (i n : Nat) : tr_cn g i ≤ tr_cn g (i + n) := by
  induction n with
  | zero => exact Int.le_refl _
  | succ n ih =>
    show _ ≤ tr_cn g (i + n) + (if g (i + n) = true then 1 else 0)
    split <;> omega
theorem tr_e0 (sw : Nat → Int) (w : Nat) : tr_e sw (fun _ => 0) w = 0 ∧ tr_s (fun _ => 0) w = 0 := by
  induction w with
  | zero => exact ⟨rfl, rfl⟩
  | succ w ih => rw [tr_e_s, tr_s_s, ih.1, ih.2, Int.zero_mul]; exact ⟨rfl, rfl⟩
/-- how often somebody can give is no more than what is wanted of him -/
theorem tr_want {P : Nat → Bool} {g : Nat → Bool} {y : Nat} (H : Nat) (hg : ∀ h, h < H → P h = true → g (tr_ct P h) = true → y.testBit h = true) : tr_cn g (tr_ct P H) ≤ (tr_pc y H : Int) := by
  induction H with
  | zero => exact Int.le_refl _
  | succ H ih =>
    have k := ih (fun h hh => hg h (by omega))
    show tr_cn g (tr_ct P (H + 1)) ≤ ((tr_pc y H + (y.testBit H).toNat : Nat) : Int)
    rw [tr_ct_s]
    by_cases c : P H = true
    · rw [if_pos c, tr_cn_s]
      by_cases q : g (tr_ct P H) = true
      · rw [if_pos q, hg H (by omega) c q]
        show tr_cn g (tr_ct P H) + 1 ≤ ((tr_pc y H + 1 : Nat) : Int)
        omega
      · rw [if_neg q]
        omega
    · rw [if_neg c]
      show tr_cn g (tr_ct P H) ≤ _
      omega
theorem tr_ctp (y : Nat) (H : Nat) : tr_ct (fun h => y.testBit h) H = tr_pc y H := by
  induction H with
  | zero => rfl
  | succ H ih =>
    show tr_ct (fun h => y.testBit h) H + (if y.testBit H = true then 1 else 0) = tr_pc y H + (y.testBit H).toNat
    rw [ih]
    cases y.testBit H <;> rfl
theorem tr_step1 {og wa sw d e c : Int} (hs : sw = min og wa) (h0 : 0 ≤ sw) (hd : 0 ≤ d) (hc : d ≤ c) (hw : c + 1 ≤ wa) (he : e = min d sw) : (og ≤ d ↔ sw ≤ e) ∧ (e < sw → min (d + 1) sw = e + 1) ∧ (¬ e < sw → min (d + 1) sw = e) := by
  omega
/-- both count alike -/
theorem tr_same {t' : sg_S} {S : Int} {W M : Nat} {sw pr wa : Nat → Int} (hp : ∀ z, 0 ≤ t' 237 z) (h0 : ∀ z, 0 ≤ sw z) (hsw : ∀ z, z < W → sw z = min (tr_of t' S z) (wa z)) (hpr : ∀ z, z < W → pr z = t' 237 z) (hwa : ∀ z, z < W → (∃ i, i < M ∧ tr_G t' S i z = true) → tr_cn (fun i => tr_G t' S i z) M ≤ wa z) : tr_V W (tr_G t' S) (tr_mR t' S) tr_nR M 0 (fun _ => 0) = tr_V W (tr_G t' S) (tr_mC sw pr) (tr_nC sw) M 0 (fun _ => 0) ∧ (tr_V W (tr_G t' S) (tr_mR t' S) tr_nR M 0 (fun _ => 0) < 1000000 → ∀ j, tr_Q W (tr_G t' S) (tr_mR t' S) tr_nR M 0 (fun _ => 0) j = tr_Q W (tr_G t' S) (tr_mC sw pr) (tr_nC sw) M 0 (fun _ => 0) j) := by
  refine tr_eq (M := M) (tr_m0 hp) (fun i d e => ∀ z, z < W → 0 ≤ d z ∧ d z ≤ tr_cn (fun i => tr_G t' S i z) i ∧ e z = min (d z) (sw z)) (fun i d e z hi hR hz hg => ?_) M 0 _ _ (by omega) (fun z hz => ?_)
  · obtain ⟨r1, r2, r3⟩ := hR z hz
    have c1 : tr_cn (fun i => tr_G t' S i z) (i + 1) = tr_cn (fun i => tr_G t' S i z) i + 1 := by rw [tr_cn_s, if_pos hg]
    have c2 := tr_cn_m (fun i => tr_G t' S i z) (i + 1) (M - (i + 1))
    rw [show i + 1 + (M - (i + 1)) = M by omega] at c2
    have c3 := hwa z hz ⟨i, hi, hg⟩
    obtain ⟨q1, q2, q3⟩ := tr_step1 (hsw z hz) (h0 z) r1 r2 (by omega) r3
    refine ⟨?_, fun y hy => ?_⟩
    · unfold tr_mR tr_mC
      by_cases c : tr_of t' S z ≤ d z
      · rw [if_pos c, if_pos (q1.mp c), hpr z hz]
      · rw [if_neg c, if_neg (fun k => c (q1.mpr k))]
    · obtain ⟨w1, w2, w3⟩ := hR y hy
      have m1 := tr_cn_m (fun i => tr_G t' S i y) i 1
      show 0 ≤ tr_nR d z y ∧ tr_nR d z y ≤ tr_cn (fun i => tr_G t' S i y) (i + 1) ∧ tr_nC sw e z y = min (tr_nR d z y) (sw y)
      unfold tr_nR tr_nC
      by_cases p : y = z
      · subst p
        rw [if_pos rfl, c1]
        refine ⟨by omega, by omega, ?_⟩
        by_cases k : e y < sw y
        · rw [if_pos ⟨rfl, k⟩]; exact (q2 k).symm
        · rw [if_neg (fun w => k w.2)]; exact (q3 k).symm
      · rw [if_neg p, if_neg (fun w => p w.1)]
        exact ⟨w1, by omega, w3⟩
  · have := h0 z
    refine ⟨Int.le_refl _, Int.le_refl _, ?_⟩
    show (0 : Int) = min 0 (sw z)
    omega
theorem tr_core {s t : sg_S} (ht : sv t) (h : r2 s t) {S : Nat} (hS : (S : Int) < t 234 7) {set : Int} (set0 : 0 ≤ set) (set1 : set ≤ 511) (x : Int) : (if (dc_Ba_settle s (S : Int) set).2 = 0 then -1 else if x = -1 then dc_Ba_leastPaid (dc_Ba_settle s (S : Int) set).1 else dc_Ba_giverOf (dc_Ba_settle s (S : Int) set).1 x) = (dc_R_trade_48 10 t (S : Int) set x 0 0).2 := by
  have b := st_b_of ht
  obtain ⟨H, hH⟩ : ∃ H : Nat, t 234 6 = (H : Int) := ⟨(t 234 6).toNat, (Int.toNat_of_nonneg b.1).symm⟩
  obtain ⟨W, hW⟩ : ∃ W : Nat, t 234 7 = (W : Int) := ⟨(t 234 7).toNat, (Int.toNat_of_nonneg b.2.2.1).symm⟩
  have H9 : H ≤ 9 := by have := b.2.1; omega
  have W5 : W ≤ 5 := by have := b.2.2.2.1; omega
  have SW : S < W := by omega
  have Kb : ∀ y, y < W → 0 ≤ t 235 (101 + y) ∧ t 235 (101 + y) ≤ 511 := fun y hy => tr_K5 ht (by omega)
  have eK : ∀ y, y < W → s 17 y = t 235 (101 + y) := fun y hy => by
    have := r2_kn h.1 (x := (y : Int)) (by omega) (by omega) (by omega)
    rw [Int.toNat_natCast, show (101 + (y : Int)).toNat = 101 + y by omega] at this
    exact this
  have KS := Kb S SW
  obtain ⟨m, hm⟩ : ∃ m, m = sy_and set (sy_xor (t 235 (101 + S)) (-1)) := ⟨_, rfl⟩
  have mb : 0 ≤ m ∧ m ≤ 511 := by rw [hm]; exact ba_and_l _ _ set0 set1
  have mbit : ∀ i, i < 32 → m.toNat.testBit i = (set.toNat.testBit i && !(t 235 (101 + S)).toNat.testBit i) := fun i hi => by
    rw [hm, tr_bit set0 (by omega), tr_xb KS.1 (by omega) hi]
  obtain ⟨P, hP⟩ : ∃ P : Nat → Bool, P = fun i => m.toNat.testBit i := ⟨_, rfl⟩
  have P_ : ∀ i, P i = m.toNat.testBit i := fun i => by rw [hP]
  have hPC : ∀ i : Nat, i < H → (sy_and (sy_shr m (i : Int)) 1 = 1 ↔ P i = true) := fun i hi => by
    rw [yb_bt mb.1 (by omega) (by omega) (by omega), Int.toNat_natCast, P_]
    by_cases c : m.toNat.testBit i = true
    · simp [c]
    · simp [c]
  have ikn : ∀ (t1 : sg_S) (z i : Nat), (∀ k, t1 235 k = t 235 k) → z < W → i < 9 → dc_R_isKnown t1 (z : Int) (i : Int) = if (t 235 (101 + z)).toNat.testBit i = true then 1 else 0 := fun t1 z i e hz hi => by
    unfold dc_R_isKnown
    rw [show (101 + (z : Int)).toNat = 101 + z by omega, e]
    exact tr_has t1 (Kb z hz).1 (Kb z hz).2 hi
  have hPR : ∀ i : Nat, i < H → (P i = true ↔ (dc_R_has t set (i : Int) ≠ 0 ∧ dc_R_isKnown t (S : Int) (i : Int) = 0)) := fun i hi => by
    rw [P_, mbit i (by omega), tr_has t set0 set1 (by omega), ikn t S i (fun _ => rfl) SW (by omega)]
    cases set.toNat.testBit i <;> cases (t 235 (101 + S)).toNat.testBit i <;> decide
  -- the class's list
  have h83 : sg_up s 227 6 0 8 3 = (H : Int) := by rw [sg_na (by decide), r2_houses h, hH]
  have h84 : sg_up s 227 6 0 8 4 = (W : Int) := by rw [sg_na (by decide), r2_sweeps h, hW]
  obtain ⟨l1, l2, l3⟩ := tr_ln (S := (S : Int)) hPC h83 10 (sg_up s 227 6 0) 0 (by omega) (by omega) (by rw [sg_eq]; rfl) (fun _ _ _ _ _ => rfl) (fun y hy => absurd hy (by omega))
  have es : dc_Ba_settle s (S : Int) set = dc_Ba_settle_25 10 (dc_Ba_listNeeds_8 10 (sg_up s 227 6 0) (S : Int) m ((0 : Nat) : Int)) (S : Int) m ((0 : Nat) : Int) := by
    unfold dc_Ba_settle
    rw [Int.toNat_natCast, eK S SW, ← hm]
    rfl
  rw [es]
  obtain ⟨s1, hs1⟩ : ∃ s1, s1 = dc_Ba_listNeeds_8 10 (sg_up s 227 6 0) (S : Int) m ((0 : Nat) : Int) := ⟨_, rfl⟩
  rw [← hs1] at l1 l2 l3 ⊢
  -- the reference's list
  obtain ⟨t', eR, frt, n243⟩ := tr_48 (x := x) hPR hH 10 t 0 (by omega) (by omega) (fun _ _ _ => rfl) (fun y hy => absurd hy (by omega))
  have eR' : dc_R_trade_48 10 t (S : Int) set x 0 0 = _ := eR
  rw [eR']
  obtain ⟨M, hM⟩ : ∃ M, M = tr_ct P H := ⟨_, rfl⟩
  rw [← hM] at l2 ⊢
  have M9 : M ≤ 9 := by have := tr_ct_le P H; omega
  have nd : ∀ j, j < M → ∃ y, y < H ∧ P y = true ∧ tr_ct P y = j ∧ s1 228 j = (y : Int) ∧ s1 229 j = dc_Ba_othersWhoKnow (sg_up s 227 6 0) (y : Int) (S : Int) ∧ t' 243 j = (y : Int) := fun j hj => by
    obtain ⟨y, y1, y2, y3⟩ := tr_ct_at P H j (by omega)
    have a := l3 y y1 y2
    have c := n243 y y1 y2
    rw [y3] at a c
    exact ⟨y, y1, y2, y3, a.1, a.2, c⟩
  have t5 : ∀ k, t' 235 k = t 235 k := fun k => frt 235 k (by decide)
  -- who can give
  have cg : ∀ y z : Nat, y < H → P y = true → z < W → (dc_St_canGive (sg_up s 227 6 0) (z : Int) (S : Int) (y : Int) ≠ 0 ↔ (t 235 (101 + z)).toNat.testBit y = true) := fun y z hy py hz => by
    have pb := mbit y (by omega)
    rw [← P_, py] at pb
    have nS : (t 235 (101 + S)).toNat.testBit y = false := by
      revert pb
      cases set.toNat.testBit y <;> cases (t 235 (101 + S)).toNat.testBit y <;> decide
    unfold dc_St_canGive
    rw [sg_na (by decide), sg_na (by decide), Int.toNat_natCast, Int.toNat_natCast, eK z hz, eK S SW, yb_bt (Kb z hz).1 (by have := (Kb z hz).2; omega) (by omega) (by omega), yb_bt KS.1 (by omega) (by omega) (by omega), Int.toNat_natCast, nS]
    cases (t 235 (101 + z)).toNat.testBit y <;> decide
  have gG : ∀ j z : Nat, j < M → z < W → ∀ y : Nat, t' 243 j = (y : Int) → y < H → (tr_G t' (S : Int) j z = true ↔ ((z : Int) ≠ (S : Int) ∧ (t 235 (101 + z)).toNat.testBit y = true)) := fun j z hj hz y ey hy => by
    unfold tr_G
    rw [Bool.and_eq_true, decide_eq_true_eq, decide_eq_true_eq, ey, ikn t' z y t5 hz (by omega)]
    cases (t 235 (101 + z)).toNat.testBit y <;> simp
  have ob : ∀ y : Nat, (0 ≤ dc_Ba_othersWhoKnow (sg_up s 227 6 0) (y : Int) (S : Int) ∧ dc_Ba_othersWhoKnow (sg_up s 227 6 0) (y : Int) (S : Int) ≤ 511) ∧ ∀ j : Nat, (dc_Ba_othersWhoKnow (sg_up s 227 6 0) (y : Int) (S : Int)).toNat.testBit j = (decide (j < W) && decide ((j : Int) ≠ (S : Int)) && decide (dc_St_canGive (sg_up s 227 6 0) (j : Int) (S : Int) (y : Int) ≠ 0)) := fun y => tr_owb h84 W5 (y : Int) (S : Int) 6 0 0 (by omega) (by omega) (by omega) (by omega) (fun j => by simp)
  have gbit : ∀ j z : Nat, j < M → z < W → (sy_and (sy_shr (s1 229 j) (z : Int)) 1 = 1 ↔ tr_G t' (S : Int) j z = true) := fun j z hj hz => by
    obtain ⟨y, y1, y2, y3, y4, y5, y6⟩ := nd j hj
    have o := ob y
    rw [gG j z hj hz y y6 y1, y5, yb_bt o.1.1 (by omega) (by omega) (by omega), Int.toNat_natCast, o.2 z, ← cg y z y1 y2 hz]
    by_cases c1 : (z : Int) = (S : Int)
    · simp [c1]
    · by_cases c2 : dc_St_canGive (sg_up s 227 6 0) (z : Int) (S : Int) (y : Int) = 0
      · simp [c2]
      · simp [hz, c1, c2]
  have hp : ∀ z, 0 ≤ t' 237 z := fun z => by rw [frt 237 z (by decide)]; exact (tr_237 ht z).1
  have hp9 : ∀ z, z < 5 → t' 237 z ≤ 99 := fun z _ => by rw [frt 237 z (by decide)]; exact (tr_237 ht z).2
  obtain ⟨sF, f1, f2, f3⟩ := tr_find (t0 := t') (S := (S : Int)) (W := W) (M := M) M9 (by rw [frt 234 7 (by decide)]; exact hW) W5 hp hp9
  rw [f1]
  dsimp only
  by_cases cz : ∃ j0, j0 < M ∧ s1 229 j0 = 0
  · obtain ⟨j0, j1, j2⟩ := cz
    rw [if_pos (tr_25b j1 10 s1 0 l2 (by omega) (by omega) j2)]
    have far : tr_V W (tr_G t' (S : Int)) (tr_mR t' (S : Int)) tr_nR M 0 (fun _ => 0) = 1000000 := tr_Vfar (tr_m0 hp) (i0 := j0) (fun z hz => by
      have k := gbit j0 z j1 hz
      rw [j2, show sy_and (sy_shr 0 (z : Int)) 1 = 0 by rw [yb_bt (by omega) (by omega) (by omega) (by omega)]; simp] at k
      cases hg : tr_G t' (S : Int) j0 z
      · rfl
      · exact absurd (k.mpr hg) (by decide)) M 0 _ (by omega) (by omega)
    rw [far, if_pos (by decide)]
  · have nz : ∀ j, j < M → s1 229 j ≠ 0 := fun j hj e => cz ⟨j, hj, e⟩
    have giv : ∀ j, j < M → ∃ z, z < W ∧ tr_G t' (S : Int) j z = true := fun j hj => Classical.byContradiction (fun no => nz j hj (by
      obtain ⟨y, y1, y2, y3, y4, y5, y6⟩ := nd j hj
      have o := ob y
      rw [y5]
      refine yb_ext o.1.1 (Int.le_refl _) (fun i => ?_)
      rw [show (0 : Int).toNat.testBit i = false by simp]
      cases hi : (dc_Ba_othersWhoKnow (sg_up s 227 6 0) (y : Int) (S : Int)).toNat.testBit i
      · rfl
      · exfalso
        rw [o.2 i, Bool.and_eq_true, Bool.and_eq_true, decide_eq_true_eq, decide_eq_true_eq, decide_eq_true_eq] at hi
        exact no ⟨i, hi.1.1, (gG j i hj hi.1.1 y y6 y1).mpr ⟨hi.1.2, (cg y i y1 y2 hi.1.1).mp hi.2⟩⟩))
    obtain ⟨sw, hsw0⟩ : ∃ sw : Nat → Int, sw = fun z => if z < W then min (dc_Integer_bitCount (fun _ _ => 0) (sy_and (t 235 (101 + S)) (sy_xor (t 235 (101 + z)) (-1)))) (dc_Integer_bitCount (fun _ _ => 0) (sy_and m (t 235 (101 + z)))) else 0 := ⟨_, rfl⟩
    have hsw : ∀ z, z < W → sw z = min (dc_Integer_bitCount (fun _ _ => 0) (sy_and (t 235 (101 + S)) (sy_xor (t 235 (101 + z)) (-1)))) (dc_Integer_bitCount (fun _ _ => 0) (sy_and m (t 235 (101 + z)))) := fun z hz => by rw [hsw0]; exact if_pos hz
    have hsw1 : ∀ z, ¬ z < W → sw z = 0 := fun z hz => by rw [hsw0]; exact if_neg hz
    have a1 : ∀ z, 0 ≤ sy_and (t 235 (101 + S)) (sy_xor (t 235 (101 + z)) (-1)) ∧ sy_and (t 235 (101 + S)) (sy_xor (t 235 (101 + z)) (-1)) ≤ 511 := fun z => ba_and_l _ _ KS.1 KS.2
    have a2 : ∀ z, 0 ≤ sy_and m (t 235 (101 + z)) ∧ sy_and m (t 235 (101 + z)) ≤ 511 := fun z => ba_and_l _ _ mb.1 mb.2
    have c1 := fun z => tr_bc (fun _ _ => 0) (a1 z).1 (a1 z).2
    have c2 := fun z => tr_bc (fun _ _ => 0) (a2 z).1 (a2 z).2
    have h0 : ∀ z, 0 ≤ sw z := fun z => by
      by_cases q : z < W
      · rw [hsw z q, c1, c2]; omega
      · rw [hsw1 z q]; exact Int.le_refl _
    have pk : ∀ z, sw z ≤ (ba_pop9 (t 235 (101 + S)).toNat : Int) ∧ sw z ≤ (ba_pop9 m.toNat : Int) := fun z => by
      by_cases q : z < W
      · have e1 := tr_pop (u := (sy_and (t 235 (101 + S)) (sy_xor (t 235 (101 + z)) (-1))).toNat) (v := (t 235 (101 + S)).toNat) (fun i hi => by
          rw [tr_bit KS.1 (by omega), Bool.and_eq_true] at hi
          exact hi.1)
        have e2 := tr_pop (u := (sy_and m (t 235 (101 + z))).toNat) (v := m.toNat) (fun i hi => by
          rw [tr_bit mb.1 (by omega), Bool.and_eq_true] at hi
          exact hi.1)
        rw [hsw z q, c1, c2]
        omega
      · rw [hsw1 z q]; omega
    have hSz : sw S = 0 := by
      rw [hsw S SW, ba_pop0 _ _ KS.1 KS.2, c2]
      omega
    have p9 : ba_pop9 m.toNat + ba_pop9 (t 235 (101 + S)).toNat ≤ 9 := ba_pop_sum (by
      have d := ba_dis set (t 235 (101 + S)) KS.1 KS.2
      rw [← hm] at d
      have w := ba_and_nat (u := m.toNat) (v := (t 235 (101 + S)).toNat) (by omega) (by omega)
      rw [Int.toNat_of_nonneg mb.1, Int.toNat_of_nonneg KS.1, d] at w
      omega)
    have Mp : M ≤ ba_pop9 m.toNat := by
      rw [hM, hP, tr_ctp]
      exact tr_pc9 _ H9
    obtain ⟨hT, hroom⟩ := tr_room (sw := sw) (S := S) (W := W) (M := M) h0 (fun z => (pk z).2) (fun z => (pk z).1) hSz SW W5 p9 Mp
    -- the tallies
    have K1 : ∀ c k, c ≠ 228 → c ≠ 229 → c ≠ 227 → s1 c k = s c k := fun c k d1 d2 d3 => by rw [l1 c k d1 d2 (Or.inl d3), sg_na d3]
    obtain ⟨v1, v2, v3, v4, v5⟩ := tr_15 (K := fun y => t 235 (101 + y)) (S := S) (miss := m) (W := W) hsw h0 SW hT s1 6 (sg_up (sg_up s1 227 7 1) 232 0 0) 0 (by omega) (by omega) (by rw [sg_na (by decide), sg_na (by decide), K1 8 4 (by decide) (by decide) (by decide), r2_sweeps h, hW]) (fun y hy => by rw [sg_na (by decide), sg_na (by decide), K1 17 y (by decide) (by decide) (by decide)]; exact eK y hy) (by rw [sg_na (by decide), sg_eq]; rfl) (by rw [sg_na (by decide), sg_nk (by decide)]) (fun c k d1 _ _ d4 => by rw [sg_na d4, sg_na d1]) (fun y hy => absurd hy (by omega)) (fun d hd => by
        show sg_up (sg_up s1 227 7 1) 232 0 0 232 0 = 0
        rw [sg_eq]) (fun v hv => by
        have ev : v = 0 := by
          have : (v : Int) < 1 := hv
          omega
        rw [ev, sg_eq]
        omega)
    have el : dc_Ba_listTallies s1 (S : Int) m = dc_Ba_listTallies_15 6 (sg_up (sg_up s1 227 7 1) 232 0 0) (S : Int) m ((0 : Nat) : Int) := rfl
    rw [← el] at v1 v2 v3 v4 v5
    obtain ⟨pr, hpr0⟩ : ∃ pr : Nat → Int, pr = fun z => if z < W then t 237 z else 0 := ⟨_, rfl⟩
    have hpr : ∀ z, z < W → pr z = t 237 z := fun z hz => by rw [hpr0]; exact if_pos hz
    have hC : tr_C W M sw pr (tr_G t' (S : Int)) := ⟨M9, h0, fun z => by
      by_cases q : z < W
      · rw [hpr z q]; exact tr_237 ht z
      · rw [hpr0]
        show 0 ≤ (if z < W then t 237 z else 0) ∧ (if z < W then t 237 z else 0) ≤ 99
        rw [if_neg q]; decide, giv⟩
    have hK : tr_K (dc_Ba_listTallies s1 (S : Int) m) W M sw pr (tr_G t' (S : Int)) := by
      refine ⟨?_, v2.trans l2, v3, fun z hz => ⟨(v4 z hz).1, (v4 z hz).2, ?_⟩, fun i z hi hz => ?_⟩
      · rw [v1 8 4 (by decide) (by decide) (by decide) (by decide), K1 8 4 (by decide) (by decide) (by decide), r2_sweeps h, hW]
      · rw [v1 12 z (by decide) (by decide) (by decide) (by decide), K1 12 z (by decide) (by decide) (by decide), hpr z hz]
        exact h.2.2.2.2.1 z (by omega)
      · rw [v1 229 i (by decide) (by decide) (by decide) (by decide)]
        exact gbit i z hi hz
    rw [tr_25a 10 s1 0 l2 (by omega) (by omega) (fun j _ hj => nz j hj), v3, if_pos hroom]
    obtain ⟨s4, g1, g2, g3, g4⟩ := tr_84 W5 hC (hT W (Nat.le_refl _)) 626 (dc_Ba_listTallies s1 (S : Int) m) 0 hK v5 (by have := tr_T1 h0 W; omega) (by have := hT W (Nat.le_refl _); omega) (fun v hv => absurd hv (by omega))
    have g1' : dc_Ba_settle_84 626 (dc_Ba_listTallies s1 (S : Int) m) 0 = (s4, 1) := g1
    rw [g1', if_neg (fun e => absurd (show (1 : Int) = 0 from e) (by decide))]
    dsimp only
    -- both count alike
    have t7 : ∀ z, t' 237 z = t 237 z := fun z => frt 237 z (by decide)
    obtain ⟨q1, q2⟩ := tr_same (t' := t') (S := (S : Int)) (W := W) (M := M) (sw := sw) (pr := pr) (wa := fun z => dc_Integer_bitCount (fun _ _ => 0) (sy_and m (t 235 (101 + z)))) hp h0 (fun z hz => by
        rw [hsw z hz]
        have e : tr_of t' (S : Int) z = dc_Integer_bitCount (fun _ _ => 0) (sy_and (t 235 (101 + S)) (sy_xor (t 235 (101 + z)) (-1))) := by
          unfold tr_of
          rw [t5, t5, show (101 + (S : Int)).toNat = 101 + S by omega, show (101 + (z : Int)).toNat = 101 + z by omega]
          exact (on_bc _ _ (a1 z).1 (a1 z).2).symm
        rw [e]) (fun z hz => by rw [hpr z hz, t7]) (fun z hz _ => by
        have w := tr_want (P := P) (g := fun i => tr_G t' (S : Int) i z) (y := (sy_and m (t 235 (101 + z))).toNat) H (fun y hy py hg => by
          have lt := tr_ct_lt P py H hy
          have k := (gG (tr_ct P y) z (by omega) hz y (n243 y hy py) hy).mp hg
          rw [tr_bit mb.1 (by omega), tr_kb (Kb z hz).1 (by have := (Kb z hz).2; omega) (by omega), Bool.and_eq_true]
          exact ⟨by rw [← P_]; exact py, k.2⟩)
        rw [← hM] at w
        have p := tr_pc9 (sy_and m (t 235 (101 + z))).toNat H9
        show tr_cn (fun i => tr_G t' (S : Int) i z) M ≤ dc_Integer_bitCount (fun _ _ => 0) (sy_and m (t 235 (101 + z)))
        rw [c2]
        omega)
    have wb := tr_Wb hC (i := 0) (by omega) (fun _ => 0)
    have eW : tr_W W M sw pr (tr_G t' (S : Int)) 0 (fun _ => 0) = tr_V W (tr_G t' (S : Int)) (tr_mC sw pr) (tr_nC sw) M 0 (fun _ => 0) := rfl
    rw [eW, ← q1] at wb
    have Vf : tr_V W (tr_G t' (S : Int)) (tr_mR t' (S : Int)) tr_nR M 0 (fun _ => 0) < 1000000 := by omega
    rw [if_neg (show ¬ min 1000000 (tr_V W (tr_G t' (S : Int)) (tr_mR t' (S : Int)) tr_nR M 0 (fun _ => 0)) = 1000000 by omega), show min 1000000 (tr_V W (tr_G t' (S : Int)) (tr_mR t' (S : Int)) tr_nR M 0 (fun _ => 0)) = tr_V W (tr_G t' (S : Int)) (tr_mR t' (S : Int)) tr_nR M 0 (fun _ => 0) by omega]
    have v0 : tr_v sw (fun _ => 0) := fun z => ⟨Int.le_refl _, h0 z⟩
    by_cases cx : x = -1
    · rw [if_pos cx, cx]
      have w := tr_118n sF M (tr_V W (tr_G t' (S : Int)) (tr_mR t' (S : Int)) tr_nR M 0 (fun _ => 0)) 10 (-1) 0 (by omega) (by omega)
      refine Eq.trans ?_ w.symm
      have r0 := g4 0 (by omega) (fun _ => 0) v0 (by rw [(tr_e0 sw W).2]; exact Int.le_refl _)
      rw [(tr_e0 sw W).1, eW, ← q1] at r0
      rw [← r0]
      show s4 233 0 = _
      rw [show (((0 : Nat) : Int) * tr_T sw W + 0).toNat = 0 by rw [show ((0 : Nat) : Int) = 0 from rfl, Int.zero_mul]; rfl]
    · rw [if_neg cx]
      have e28 : ∀ j, j < M → s4 228 j = sF 243 j := fun j hj => by
        obtain ⟨y, _, _, _, y4, _, y6⟩ := nd j hj
        rw [g2 228 j (by decide), v1 228 j (by decide) (by decide) (by decide) (by decide), f2.2.2.2, y4, y6]
      have inj : ∀ i j, i < M → j < M → sF 243 i = sF 243 j → i = j := fun i j hi hj e => by
        obtain ⟨y, _, _, y3, _, _, y6⟩ := nd i hi
        obtain ⟨y', _, _, y3', _, _, y6'⟩ := nd j hj
        rw [f2.2.2.2, f2.2.2.2, y6, y6'] at e
        have : y = y' := by omega
        rw [← y3, ← y3', this]
      have gv := tr_gv W5 hC g3 g4 (fun j => tr_Q W (tr_G t' (S : Int)) (tr_mC sw pr) (tr_nC sw) M 0 (fun _ => 0) j) x 10 0 (fun _ => 0) v0 (by rw [(tr_e0 sw W).2]; exact Int.le_refl _) (by omega) (by omega) (fun j _ => rfl)
      rw [(tr_e0 sw W).1] at gv
      have rf := tr_118f sF cx M (tr_V W (tr_G t' (S : Int)) (tr_mR t' (S : Int)) tr_nR M 0 (fun _ => 0)) 10 (-1) 0 (by omega) (by omega)
      by_cases ce : ∃ j, j < M ∧ sF 243 j = x
      · obtain ⟨j, j1, j2⟩ := ce
        have w := rf.2 j (by omega) j1 j2 (fun y y1 y2 e => by
          have := inj y j y2 j1 (e.trans j2.symm)
          omega)
        refine Eq.trans ?_ w.symm
        have u := gv.2 j (by omega) j1 (by rw [e28 j j1]; exact j2) (fun y y1 e => by
          rw [e28 y (by omega)] at e
          have := inj y j (by omega) j1 (e.trans j2.symm)
          omega)
        rw [f3 Vf j j1, q2 Vf j]
        exact u
      · have no : ∀ j, j < M → sF 243 j ≠ x := fun j hj e => ce ⟨j, hj, e⟩
        have w := rf.1 (fun i _ hi => no i hi)
        refine Eq.trans ?_ w.symm
        exact gv.1 (fun j _ hj => by rw [e28 j hj]; exact no j hj)
theorem an_trade {s t : sg_S} (ht : sv t) (h : r2 s t) (a1 a2 a3 : Int) : (dc_C_trade s a1 a2 a3).2 = (dc_R_trade t a1 a2 a3).2 := by
  have b := st_b_of ht
  have b0 := b.1
  have b9 := b.2.1
  have b5 := b.2.2.2.1
  have kC := r2_sC s a1
  have kR := r2_sR t a1
  rw [r2_sweeps h] at kC
  have sb := sg_shl10 (t 234 6) b0 (by omega)
  unfold dc_C_trade dc_R_trade
  by_cases c1 : dc_R_isSweep t a1 = 0
  · rw [if_pos (kC.mpr (kR.mp c1)), if_pos c1]
  · have k1 : 0 ≤ a1 ∧ a1 < t 234 7 := Decidable.not_not.mp (fun z => c1 (kR.mpr z))
    rw [if_neg (fun z => c1 (kR.mpr (kC.mp z))), if_neg c1, r2_houses h]
    by_cases c2 : 0 ≤ a2 ∧ a2 ≤ sy_shl 1 (t 234 6) - 1
    · rw [if_neg (show ¬ a2 < 0 by omega), if_neg (show ¬ sy_shl 1 (t 234 6) ≤ a2 by omega), if_neg (eq_in1 c2)]
      have core := tr_core (S := a1.toNat) ht h (by omega) c2.1 (show a2 ≤ 511 by omega) a3
      rw [Int.toNat_of_nonneg k1.1] at core
      have e : (if (dc_Ba_settle s a1 a2).2 = 0 then ((dc_Ba_settle s a1 a2).1, (-1)) else (if a3 = (-1) then ((dc_Ba_settle s a1 a2).1, (dc_Ba_leastPaid (dc_Ba_settle s a1 a2).1)) else ((dc_Ba_settle s a1 a2).1, (dc_Ba_giverOf (dc_Ba_settle s a1 a2).1 a3)))).2 = (dc_R_trade_48 10 t a1 a2 a3 0 0).2 := by
        rw [← core]
        by_cases q : (dc_Ba_settle s a1 a2).2 = 0
        · rw [if_pos q, if_pos q]
        · rw [if_neg q, if_neg q]
          by_cases q2 : a3 = -1
          · rw [if_pos q2, if_pos q2]
          · rw [if_neg q2, if_neg q2]
      by_cases c3 : a3 = -1
      · refine (congrArg Prod.snd (if_pos c3)).trans (Eq.trans e (congrArg Prod.snd (if_pos c3)).symm)
      · refine (congrArg Prod.snd (if_neg c3)).trans (Eq.trans ?_ (congrArg Prod.snd (if_neg c3)).symm)
        by_cases c4 : dc_R_isHouse t a3 = 0
        · rw [if_pos ((r2_hh h a3).mpr c4), if_pos c4]
        · rw [if_neg (fun z => c4 ((r2_hh h a3).mp z)), if_neg c4]
          exact e
    · rw [if_pos (eq_in0 c2)]
      by_cases q : a2 < 0
      · rw [if_pos q]
      · rw [if_neg q, if_pos (show sy_shl 1 (t 234 6) ≤ a2 by omega)]
