/-! THE CHECKER: cuts of a method (pc, locals, a base and a factor for each ranked local), and a walk from each to the next -/
abbrev ab_K : Type := Nat × ab_L × Int × List Int
def ab_val (lv : mj_L) (i : Nat) : Int := match mj_get lv i with
  | some v => (ab_num v).getD 0
  | none => 0
def ab_rsum (lv : mj_L) : List (Nat × Int) → List Int → Int
  | (l, K) :: ls, C :: Cs => C * (K - ab_val lv l) + ab_rsum lv ls Cs
  | _, _ => 0
def ab_rank (ls : List (Nat × Int)) (c : ab_K) (lv : mj_L) : Int := c.2.2.1 + ab_rsum lv ls c.2.2.2
def ab_nn (al : ab_L) : List (Nat × Int) → List Int → Bool
  | (l, K) :: ls, C :: Cs => (decide (C = 0) || (match ab_get al l with
    | some V => decide (V.1 ≤ 1) && decide (0 ≤ C * (K - V.2.1)) && decide (0 ≤ C * (K - V.2.2.1))
    | none => false)) && ab_nn al ls Cs
  | _, _ => true
/-- the greatest of -C * (K - z) -/
def ab_low (al0 : ab_L) (l : Nat) (K C : Int) : Option Int := if C = 0 then some 0 else match ab_get al0 l with
  | some V => if V.1 ≤ 1 then some (max (-C * (K - V.2.1)) (-C * (K - V.2.2.1))) else none
  | none => none
def ab_one9 (al0 al : ab_L) (l : Nat) (K C C' : Int) : Option Int := match ab_get al l with
  | some V => if V.1 ≤ 1 then (if V.2.2.2 ≠ 0 then some (max ((C' - C) * (K - V.2.1)) ((C' - C) * (K - V.2.2.1)) - C * ((V.2.2.2 : Int) - 1000000)) else (ab_low al0 l K C).map (fun b => max (C' * (K - V.2.1)) (C' * (K - V.2.2.1)) + b)) else if C' = 0 then ab_low al0 l K C else none
  | none => if C' = 0 then ab_low al0 l K C else none
def ab_up (al0 al : ab_L) : List (Nat × Int) → List Int → List Int → Option Int
  | (l, K) :: ls, C :: Cs, C' :: Cs' => match ab_one9 al0 al l K C C', ab_up al0 al ls Cs Cs' with
    | some a, some b => some (a + b)
    | _, _ => none
  | [], [], [] => some 0
  | _, _, _ => none
def ab_dec (ls : List (Nat × Int)) (c c' : ab_K) (al : ab_L) : Bool := match ab_up c.2.1 al ls c.2.2.2 c'.2.2.2 with
  | some b => decide (c'.2.2.1 - c.2.2.1 + b < 0)
  | none => false
section AB8
variable {ty : List Nat} {lv0 lv : mj_L} {al0 al : ab_L}
theorem ab_lin {e K a b x : Int} (h1 : a ≤ x) (h2 : x ≤ b) : e * (K - x) ≤ max (e * (K - a)) (e * (K - b)) := by
  have h := (ab_mul_1 (a := K - b) (b := K - a) (x := K - x) (y := e) (by omega) (by omega)).2
  rw [Int.mul_comm (K - x) e, Int.mul_comm (K - b) e, Int.mul_comm (K - a) e] at h
  omega
theorem ab_lin0 {e K a b x : Int} (h1 : a ≤ x) (h2 : x ≤ b) (g1 : 0 ≤ e * (K - a)) (g2 : 0 ≤ e * (K - b)) : 0 ≤ e * (K - x) := by
  have h := (ab_mul_1 (a := K - b) (b := K - a) (x := K - x) (y := e) (by omega) (by omega)).1
  rw [Int.mul_comm (K - x) e, Int.mul_comm (K - b) e, Int.mul_comm (K - a) e] at h
  omega
theorem ab_val_in {V : ab_V} {l : Nat} (hl : ab_l ty al lv) (h : ab_get al l = some V) (hk : V.1 ≤ 1) : V.2.1 ≤ ab_val lv l ∧ ab_val lv l ≤ V.2.2.1 := by
  obtain ⟨v, e1, e2⟩ := hl _ _ h
  obtain ⟨z, z1, z2⟩ := ab_m_num e2 hk
  unfold ab_val
  rw [e1]
  dsimp only
  rw [z1]
  exact z2
theorem ab_nn_ok (hl : ab_l ty al lv) : ∀ (ls : List (Nat × Int)) (Cs : List Int), ab_nn al ls Cs = true → 0 ≤ ab_rsum lv ls Cs := by
  intro ls
  induction ls with
  | nil => intro Cs _; exact Int.le_refl 0
  | cons q ls ih =>
    intro Cs h
    obtain ⟨l, K⟩ := q
    cases Cs with
    | nil => exact Int.le_refl 0
    | cons C Cs =>
      simp only [ab_nn, Bool.and_eq_true, Bool.or_eq_true, decide_eq_true_eq] at h
      have h2 := ih Cs h.2
      show 0 ≤ C * (K - ab_val lv l) + ab_rsum lv ls Cs
      have h3 : 0 ≤ C * (K - ab_val lv l) := by
        rcases h.1 with rfl | h1
        · simp
        · split at h1
          · rename_i V e
            simp only [Bool.and_eq_true, decide_eq_true_eq] at h1
            obtain ⟨a, b⟩ := ab_val_in hl e h1.1.1
            exact ab_lin0 a b h1.1.2 h1.2
          · cases h1
      omega
theorem ab_low_ok {l : Nat} {K C b : Int} (hl : ab_l ty al0 lv0) (h : ab_low al0 l K C = some b) : -(C * (K - ab_val lv0 l)) ≤ b := by
  unfold ab_low at h
  split at h
  · rename_i e
    subst e
    cases h
    simp
  · split at h
    · rename_i V e
      split at h
      · rename_i hk
        cases h
        obtain ⟨a1, b1⟩ := ab_val_in hl e hk
        have := ab_lin (e := -C) (K := K) a1 b1
        rw [Int.neg_mul] at this
        exact this
      · cases h
    · cases h
theorem ab_one9_ok {l : Nat} {K C C' b : Int} (hl0 : ab_l ty al0 lv0) (hl : ab_l ty al lv) (hd : ab_dl lv0 al lv) (h : ab_one9 al0 al l K C C' = some b) : C' * (K - ab_val lv l) - C * (K - ab_val lv0 l) ≤ b := by
  unfold ab_one9 at h
  split at h
  · rename_i V e
    split at h
    · rename_i hk
      obtain ⟨a1, b1⟩ := ab_val_in hl e hk
      split at h
      · rename_i ho
        cases h
        obtain ⟨u0, z0, u, z, e1, e2, e3, e4, e5⟩ := hd _ _ e ho
        have v0 : ab_val lv0 l = z0 := by unfold ab_val; rw [e1]; dsimp only; rw [e2]; rfl
        have v1 : ab_val lv l = z := by unfold ab_val; rw [e3]; dsimp only; rw [e4]; rfl
        have hb := ab_lin (e := C' - C) (K := K) a1 b1
        have e6 : ab_val lv0 l = ab_val lv l - ((V.2.2.2 : Int) - 1000000) := by omega
        rw [e6]
        generalize ab_val lv l = x at hb ⊢
        generalize ((V.2.2.2 : Int) - 1000000) = d
        have i1 : (C' - C) * (K - x) = C' * (K - x) - C * (K - x) := Int.sub_mul _ _ _
        have i2 : C * (K - (x - d)) = C * (K - x) + C * d := by rw [← Int.mul_add]; congr 1; omega
        omega
      · cases hlow : ab_low al0 l K C with
        | none => rw [hlow] at h; cases h
        | some b0 =>
          rw [hlow] at h
          cases h
          have h1 := ab_low_ok hl0 hlow
          have h2 := ab_lin (e := C') (K := K) a1 b1
          dsimp only
          omega
    · split at h
      · rename_i hc
        subst hc
        have h1 := ab_low_ok hl0 h
        rw [Int.zero_mul]
        omega
      · cases h
  · split at h
    · rename_i hc
      subst hc
      have h1 := ab_low_ok hl0 h
      rw [Int.zero_mul]
      omega
    · cases h
theorem ab_up_ok (hl0 : ab_l ty al0 lv0) (hl : ab_l ty al lv) (hd : ab_dl lv0 al lv) : ∀ (ls : List (Nat × Int)) (Cs Cs' : List Int) (b : Int), ab_up al0 al ls Cs Cs' = some b → ab_rsum lv ls Cs' - ab_rsum lv0 ls Cs ≤ b := by
  intro ls
  induction ls with
  | nil =>
    intro Cs Cs' b h
    cases Cs <;> cases Cs' <;> cases h
    exact Int.le_refl 0
  | cons q ls ih =>
    intro Cs Cs' b h
    obtain ⟨l, K⟩ := q
    cases Cs with
    | nil => cases h
    | cons C Cs =>
      cases Cs' with
      | nil => cases h
      | cons C' Cs' =>
        simp only [ab_up] at h
        split at h
        · rename_i a0 b0 e1 e2
          cases h
          have h1 := ab_one9_ok hl0 hl hd e1
          have h2 := ih Cs Cs' b0 e2
          show C' * (K - ab_val lv l) + ab_rsum lv ls Cs' - (C * (K - ab_val lv0 l) + ab_rsum lv0 ls Cs) ≤ a0 + b0
          omega
        · cases h
theorem ab_dec_ok {ls : List (Nat × Int)} {c c' : ab_K} (hl0 : ab_l ty c.2.1 lv0) (hl : ab_l ty al lv) (hd : ab_dl lv0 al lv) (h : ab_dec ls c c' al = true) : ab_rank ls c' lv < ab_rank ls c lv0 := by
  unfold ab_dec at h
  split at h
  · rename_i b e
    have h1 := ab_up_ok hl0 hl hd _ _ _ _ e
    have h2 := of_decide_eq_true h
    unfold ab_rank
    omega
  · cases h
end AB8
def ab_lle (al bl : ab_L) : Bool := bl.all (fun q => match ab_get al q.1 with
  | some V => ab_le V q.2
  | none => false)
theorem ab_lle_ok {ty : List Nat} {al bl : ab_L} {lv : mj_L} (h : ab_lle al bl = true) (hl : ab_l ty al lv) : ab_l ty bl lv := by
  intro i W e
  unfold ab_get at e
  obtain ⟨q, e1, e2⟩ := Option.map_eq_some_iff.mp e
  have hq : q.1 = i := by simpa using List.find?_some e1
  have hm := List.mem_of_find?_eq_some e1
  have h1 := List.all_eq_true.mp h q hm
  split at h1
  · rename_i V e3
    rw [hq] at e3
    obtain ⟨v, g1, g2⟩ := hl i V e3
    exact ⟨v, g1, by rw [← e2]; exact ab_le_ok h1 g2⟩
  · cases h1
/-- the arguments, as they were at the entry, lie within a way's bounds -/
def ab_oargs (simple : Bool) (al : ab_L) : Nat → List ab_V → List ab_V → Bool
  | _, [], [] => true
  | i, V :: As, W :: Ws => (ab_le V W || (simple && (match ab_get al i with
    | some U => decide (U.2.2.2 = 1000000) && decide (U.1 ≤ 1) && decide (W.1 = V.1) && decide (V.1 ≤ 1) && decide (W.2.1 ≤ U.2.1) && decide (U.2.2.1 ≤ W.2.2.1)
    | none => false))) && ab_oargs simple al (if V.1 = 1 then i + 2 else i + 1) As Ws
  | _, _, _ => false
theorem ab_oargs_ok {ty : List Nat} {simple : Bool} {al : ab_L} {lv0 lv : mj_L} (hl : ab_l ty al lv) (hd : ab_dl lv0 al lv) : ∀ (As Ws : List ab_V) (vs : List Value) (i : Nat), ab_oargs simple al i As Ws = true → ab_args ty As vs → (simple = true → ∀ k v, (k, v) ∈ lv_args i vs → mj_get lv0 k = some v) → ab_args ty Ws vs := by
  intro As
  induction As with
  | nil =>
    intro Ws vs i h ha _
    cases Ws with
    | nil => exact ha
    | cons W Ws => exact absurd h (by simp [ab_oargs])
  | cons V As ih =>
    intro Ws vs i h ha hlv
    cases Ws with
    | nil => exact absurd h (by simp [ab_oargs])
    | cons W Ws =>
      cases vs with
      | nil => exact absurd ha (by simp [ab_args])
      | cons v vs =>
        simp only [ab_oargs, Bool.and_eq_true, Bool.or_eq_true] at h
        have hcat : v.category = if V.1 = 1 then 2 else 1 := by
          rcases ha.1 with ⟨k, x, rfl, -⟩ | ⟨k, x, rfl, -⟩ | ⟨k, x, rfl, -⟩ <;> rw [k] <;> rfl
        refine ⟨?_, ih Ws vs _ h.2 ha.2 (fun hs k w hm => hlv hs k w ?_)⟩
        · rcases h.1 with h1 | ⟨hs, h1⟩
          · exact ab_le_ok h1 ha.1
          · split at h1
            · rename_i U e
              simp only [Bool.and_eq_true, decide_eq_true_eq] at h1
              obtain ⟨⟨⟨⟨⟨c1, c2⟩, c3⟩, c4⟩, c5⟩, c6⟩ := h1
              obtain ⟨u0, z0, u, z, e1, e2, e3, e4, e5⟩ := hd _ _ e (by rw [c1]; decide)
              have hg := hlv hs i v (by simp [lv_args])
              rw [hg] at e1
              cases e1
              obtain ⟨w, f1, f2⟩ := hl _ _ e
              rw [e3] at f1
              cases f1
              obtain ⟨z9, f3, f4⟩ := ab_m_num f2 c2
              rw [e4] at f3
              cases f3
              have hz : z = z0 := by rw [e5, c1]; simp
              subst hz
              obtain ⟨p1, p2⟩ := f4
              simp only at p1 p2
              rcases ha.1 with ⟨k, x, rfl, -⟩ | ⟨k, x, rfl, -⟩ | ⟨k, -⟩
              · have : x.toInt = z := Option.some.inj e2
                exact Or.inl ⟨by omega, x, rfl, by constructor <;> simp only <;> omega⟩
              · have : x.toInt = z := Option.some.inj e2
                exact Or.inr (Or.inl ⟨by omega, x, rfl, by constructor <;> simp only <;> omega⟩)
              · omega
            · cases h1
        · show (k, w) ∈ (i, v) :: lv_args (if v.category = 2 then i + 2 else i + 1) vs
          refine List.mem_cons_of_mem _ ?_
          rw [hcat]
          by_cases hv : V.1 = 1
          · rw [if_pos hv] at hm ⊢
            rw [if_pos rfl]
            exact hm
          · rw [if_neg hv] at hm ⊢
            rw [if_neg (by decide)]
            exact hm
