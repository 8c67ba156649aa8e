/-! ABSTRACT VALUES: (kind, least, greatest, origin): 0 an int, 1 a long, 2 a reference to a cell of type 'least', 4 lcmp of the origin's number and one between the bounds; origin n + 1: the number of local n -/
abbrev ab_V : Type := Nat × Int × Int × Nat
abbrev ab_L : Type := List (Nat × ab_V)
def ab_num (v : Value) : Option Int := match v with
  | .int x => some x.toInt
  | .long x => some x.toInt
  | _ => none
def ab_m (ty : List Nat) (V : ab_V) (v : Value) : Prop := (V.1 = 0 ∧ ∃ x : Int32, v = .int x ∧ ab_i (V.2.1, V.2.2.1) x.toInt) ∨ (V.1 = 1 ∧ ∃ x : Int64, v = .long x ∧ ab_i (V.2.1, V.2.2.1) x.toInt) ∨ (V.1 = 2 ∧ ∃ a : Nat, v = .ref a ∧ ty[a]? = some V.2.1.toNat)
/-- v is the number of local o - 1 -/
def ab_o (lv : mj_L) (o : Nat) (v : Value) : Prop := o = 0 ∨ ∃ (u : Value) (z : Int), mj_get lv (o - 1) = some u ∧ ab_num u = some z ∧ ab_num v = some z
def ab_s (ty : List Nat) (lv : mj_L) (V : ab_V) (v : Value) : Prop := (V.1 = 4 ∧ V.2.2.2 ≠ 0 ∧ ∃ (x y : Int64) (u : Value), v = .int (lg_cmp x y) ∧ mj_get lv (V.2.2.2 - 1) = some u ∧ ab_num u = some x.toInt ∧ ab_i (V.2.1, V.2.2.1) y.toInt) ∨ (ab_m ty V v ∧ ab_o lv V.2.2.2 v)
def ab_st (ty : List Nat) (lv : mj_L) : List ab_V → List Value → Prop
  | [], [] => True
  | V :: A, v :: st => ab_s ty lv V v ∧ ab_st ty lv A st
  | _, _ => False
def ab_get (al : ab_L) (i : Nat) : Option ab_V := (al.find? (fun q => q.1 == i)).map (fun q => q.2)
def ab_l (ty : List Nat) (al : ab_L) (lv : mj_L) : Prop := ∀ (i : Nat) (V : ab_V), ab_get al i = some V → ∃ v, mj_get lv i = some v ∧ ab_m ty V v
def ab_int (p : ab_I) : ab_V := (0, p.1, p.2, 0)
def ab_long (p : ab_I) : ab_V := (1, p.1, p.2, 0)
section AB1
variable {ty : List Nat} {lv : mj_L}
theorem ab_s_int {p : ab_I} {x : Int32} (h : ab_i p x.toInt) : ab_s ty lv (ab_int p) (.int x) := Or.inr ⟨Or.inl ⟨rfl, x, rfl, h⟩, Or.inl rfl⟩
theorem ab_s_long {p : ab_I} {x : Int64} (h : ab_i p x.toInt) : ab_s ty lv (ab_long p) (.long x) := Or.inr ⟨Or.inr (Or.inl ⟨rfl, x, rfl, h⟩), Or.inl rfl⟩
theorem ab_st_cons {V : ab_V} {A : List ab_V} {st : List Value} (h : ab_st ty lv (V :: A) st) : ∃ v r, st = v :: r ∧ ab_s ty lv V v ∧ ab_st ty lv A r := by
  cases st with
  | nil => exact absurd h (by simp [ab_st])
  | cons v r => exact ⟨v, r, rfl, h.1, h.2⟩
theorem ab_s_0 {l u : Int} {o : Nat} {v : Value} (h : ab_s ty lv (0, l, u, o) v) : ∃ x : Int32, v = .int x ∧ ab_i (l, u) x.toInt ∧ ab_o lv o v := by
  rcases h with ⟨h, -⟩ | ⟨⟨-, x, e, h⟩ | ⟨h, -⟩ | ⟨h, -⟩, ho⟩
  · simp at h
  · exact ⟨x, e, h, ho⟩
  · simp at h
  · simp at h
theorem ab_s_1 {l u : Int} {o : Nat} {v : Value} (h : ab_s ty lv (1, l, u, o) v) : ∃ x : Int64, v = .long x ∧ ab_i (l, u) x.toInt ∧ ab_o lv o v := by
  rcases h with ⟨h, -⟩ | ⟨⟨h, -⟩ | ⟨-, x, e, h⟩ | ⟨h, -⟩, ho⟩
  · simp at h
  · simp at h
  · exact ⟨x, e, h, ho⟩
  · simp at h
theorem ab_s_2 {l u : Int} {o : Nat} {v : Value} (h : ab_s ty lv (2, l, u, o) v) : ∃ a : Nat, v = .ref a ∧ ty[a]? = some l.toNat := by
  rcases h with ⟨h, -⟩ | ⟨⟨h, -⟩ | ⟨h, -⟩ | ⟨-, a, e, h⟩, ho⟩
  · simp at h
  · simp at h
  · simp at h
  · exact ⟨a, e, h⟩
theorem ab_s_cat {V : ab_V} {v : Value} (h : ab_s ty lv V v) : v.category = if V.1 = 1 then 2 else 1 := by
  rcases h with ⟨h, -, x, y, u, e, -⟩ | ⟨⟨h, x, e, -⟩ | ⟨h, x, e, -⟩ | ⟨h, x, e, -⟩, -⟩ <;> rw [e, h] <;> rfl
end AB1
def ab_ii (A : List ab_V) (f : ab_I → ab_I → Option ab_I) : Option (List ab_V) := match A with
  | (k2, l2, u2, _) :: (k1, l1, u1, _) :: r => if k1 = 0 ∧ k2 = 0 then match f (l1, u1) (l2, u2) with
    | some p => some (ab_int p :: r)
    | none => none
    else none
  | _ => none
def ab_ll (A : List ab_V) (f : ab_I → ab_I → Option ab_I) : Option (List ab_V) := match A with
  | (k2, l2, u2, _) :: (k1, l1, u1, _) :: r => if k1 = 1 ∧ k2 = 1 then match f (l1, u1) (l2, u2) with
    | some p => some (ab_long p :: r)
    | none => none
    else none
  | _ => none
theorem ab_ii_ok {ty : List Nat} {lv : mj_L} {A A' : List ab_V} {st : List Value} {f : ab_I → ab_I → Option ab_I} {F : Int32 → Int32 → Option Int32} (hf : ∀ p q r x y, ab_i p x.toInt → ab_i q y.toInt → f p q = some r → ∃ v, F x y = some v ∧ ab_i r v.toInt) (h : ab_ii A f = some A') (hs : ab_st ty lv A st) : ∃ st', mj_ii st F = some st' ∧ ab_st ty lv A' st' := by
  unfold ab_ii at h
  split at h
  · rename_i k2 l2 u2 o2 k1 l1 u1 o1 r
    split at h
    · rename_i hk
      obtain ⟨rfl, rfl⟩ := hk
      split at h
      · rename_i p hp
        cases h
        obtain ⟨v2, r2, rfl, s2, hs2⟩ := ab_st_cons hs
        obtain ⟨v1, r1, rfl, s1, hs1⟩ := ab_st_cons hs2
        obtain ⟨y, rfl, hy, -⟩ := ab_s_0 s2
        obtain ⟨x, rfl, hx, -⟩ := ab_s_0 s1
        obtain ⟨v, e1, e2⟩ := hf _ _ _ x y hx hy hp
        refine ⟨.int v :: r1, ?_, ab_s_int e2, hs1⟩
        simp only [mj_ii, e1]
      · cases h
    · cases h
  · cases h
theorem ab_ll_ok {ty : List Nat} {lv : mj_L} {A A' : List ab_V} {st : List Value} {f : ab_I → ab_I → Option ab_I} {F : Int64 → Int64 → Option Int64} (hf : ∀ p q r x y, ab_i p x.toInt → ab_i q y.toInt → f p q = some r → ∃ v, F x y = some v ∧ ab_i r v.toInt) (h : ab_ll A f = some A') (hs : ab_st ty lv A st) : ∃ st', mj_ll st F = some st' ∧ ab_st ty lv A' st' := by
  unfold ab_ll at h
  split at h
  · rename_i k2 l2 u2 o2 k1 l1 u1 o1 r
    split at h
    · rename_i hk
      obtain ⟨rfl, rfl⟩ := hk
      split at h
      · rename_i p hp
        cases h
        obtain ⟨v2, r2, rfl, s2, hs2⟩ := ab_st_cons hs
        obtain ⟨v1, r1, rfl, s1, hs1⟩ := ab_st_cons hs2
        obtain ⟨y, rfl, hy, -⟩ := ab_s_1 s2
        obtain ⟨x, rfl, hx, -⟩ := ab_s_1 s1
        obtain ⟨v, e1, e2⟩ := hf _ _ _ x y hx hy hp
        refine ⟨.long v :: r1, ?_, ab_s_long e2, hs1⟩
        simp only [mj_ll, e1]
      · cases h
    · cases h
  · cases h
/-- the abstract stack behind an instruction of one byte -/
def ab_alu (ins : Instr) (A : List ab_V) : Option (List ab_V) := match ins with
  | .iconst n => some (ab_int ((Int32.ofInt n).toInt, (Int32.ofInt n).toInt) :: A)
  | .lconst n => some (ab_long ((Int64.ofNat (n : Nat)).toInt, (Int64.ofNat (n : Nat)).toInt) :: A)
  | .iadd => ab_ii A (fun p q => some (ab_fit (ab_add p q)))
  | .isub => ab_ii A (fun p q => some (ab_fit (ab_sub p q)))
  | .imul => ab_ii A (fun p q => some (ab_fit (ab_mul p q)))
  | .iand => ab_ii A (fun p q => some (ab_and p q))
  | .ior => ab_ii A (fun p q => some (ab_or p q))
  | .ixor => ab_ii A (fun _ _ => some ab_top)
  | .idiv => ab_ii A (fun p q => if 1 ≤ q.1 then some (ab_div p q) else none)
  | .irem => ab_ii A (fun p q => if 1 ≤ q.1 then some (ab_rem p q) else none)
  | .ishl => ab_ii A (fun p q => some (ab_shl p q))
  | .ishr => ab_ii A (fun p _ => some (ab_shr p))
  | .iushr => ab_ii A (fun _ _ => some ab_top)
  | .ladd => ab_ll A (fun p q => some (ab_lfit (ab_add p q)))
  | .lmul => ab_ll A (fun p q => some (ab_lfit (ab_mul p q)))
  | .ldiv => ab_ll A (fun p q => if 1 ≤ q.1 then some (ab_ldiv p q) else none)
  | .lrem => ab_ll A (fun p q => if 1 ≤ q.1 then some (ab_lrem p q) else none)
  | .lcmp => match A with
    | (k2, l2, u2, _) :: (k1, _, _, o1) :: r => if k1 = 1 ∧ k2 = 1 ∧ o1 ≠ 0 then some ((4, l2, u2, o1) :: r) else none
    | _ => none
  | .i2l => match A with
    | (k, l, u, o) :: r => if k = 0 then some ((1, l, u, o) :: r) else none
    | _ => none
  | .l2i => match A with
    | (k, l, u, _) :: r => if k = 1 then some (ab_int (ab_fit (l, u)) :: r) else none
    | _ => none
  | .i2c => match A with
    | (k, _, _, _) :: r => if k = 0 then some (ab_int (0, 65535) :: r) else none
    | _ => none
  | .dup => match A with
    | V :: r => if V.1 ≠ 1 then some (V :: V :: r) else none
    | _ => none
  | .pop => match A with
    | V :: r => if V.1 ≠ 1 then some r else none
    | _ => none
  | .dup2 => match A with
    | V :: W :: r => if V.1 ≠ 1 ∧ W.1 ≠ 1 then some (V :: W :: V :: W :: r) else none
    | _ => none
  | _ => none
theorem ab_ne0 {q : ab_I} {y : Int32} (h : 1 ≤ q.1) (hy : ab_i q y.toInt) : ¬ y = 0 := fun e => by
  subst e
  have := hy.1
  rw [show (0 : Int32).toInt = 0 by decide] at this
  omega
theorem ab_lne0 {q : ab_I} {y : Int64} (h : 1 ≤ q.1) (hy : ab_i q y.toInt) : ¬ y = 0 := fun e => by
  subst e
  have := hy.1
  rw [show (0 : Int64).toInt = 0 by decide] at this
  omega
theorem ab_i2c (x : Int32) : ab_i (0, 65535) ((x.toUInt32 % 65536).toInt32).toInt := by
  have e : ((x.toUInt32 % 65536).toInt32).toBitVec.toNat = x.toUInt32.toNat % 65536 := UInt32.toNat_mod x.toUInt32 65536
  have hl : x.toUInt32.toNat % 65536 < 65536 := Nat.mod_lt _ (by decide)
  have h4 := ab_nat_of (x := (x.toUInt32 % 65536).toInt32) (by omega)
  constructor <;> simp only <;> omega
set_option maxHeartbeats 4000000 in
theorem ab_alu_ok {ty : List Nat} {lv : mj_L} {ins : Instr} {A A' : List ab_V} {st : List Value} (h : ab_alu ins A = some A') (hs : ab_st ty lv A st) : ∃ st', mj_alu ins st = some st' ∧ ab_st ty lv A' st' := by
  cases ins with
  | iconst n => cases h; exact ⟨_, rfl, ab_s_int ⟨Int.le_refl _, Int.le_refl _⟩, hs⟩
  | lconst n => cases h; exact ⟨_, rfl, ab_s_long ⟨Int.le_refl _, Int.le_refl _⟩, hs⟩
  | iadd =>
    simp only [ab_alu] at h
    exact ab_ii_ok (fun p q r x y hx hy e => ⟨_, rfl, by cases e; exact ab_fit_ok (Int32.toInt_add x y) (ab_add_ok hx hy)⟩) h hs
  | isub =>
    simp only [ab_alu] at h
    exact ab_ii_ok (fun p q r x y hx hy e => ⟨_, rfl, by cases e; exact ab_fit_ok (Int32.toInt_sub x y) (ab_sub_ok hx hy)⟩) h hs
  | imul =>
    simp only [ab_alu] at h
    exact ab_ii_ok (fun p q r x y hx hy e => ⟨_, rfl, by cases e; exact ab_fit_ok (Int32.toInt_mul x y) (ab_mul_ok hx hy)⟩) h hs
  | iand =>
    simp only [ab_alu] at h
    exact ab_ii_ok (fun p q r x y hx hy e => ⟨_, rfl, by cases e; exact ab_and_ok hx hy⟩) h hs
  | ior =>
    simp only [ab_alu] at h
    exact ab_ii_ok (fun p q r x y hx hy e => ⟨_, rfl, by cases e; exact ab_or_ok hx hy⟩) h hs
  | ixor =>
    simp only [ab_alu] at h
    exact ab_ii_ok (fun p q r x y hx hy e => ⟨_, rfl, by cases e; exact ab_i_top _⟩) h hs
  | idiv =>
    simp only [ab_alu] at h
    refine ab_ii_ok (fun p q r x y hx hy e => ?_) h hs
    split at e
    · rename_i h1
      cases e
      exact ⟨_, if_neg (ab_ne0 h1 hy), ab_div_ok hx hy⟩
    · cases e
  | irem =>
    simp only [ab_alu] at h
    refine ab_ii_ok (fun p q r x y hx hy e => ?_) h hs
    split at e
    · rename_i h1
      cases e
      exact ⟨_, if_neg (ab_ne0 h1 hy), ab_rem_ok hx hy⟩
    · cases e
  | ishl =>
    simp only [ab_alu] at h
    exact ab_ii_ok (fun p q r x y hx hy e => ⟨_, rfl, by cases e; exact ab_shl_ok hx hy⟩) h hs
  | ishr =>
    simp only [ab_alu] at h
    exact ab_ii_ok (fun p q r x y hx hy e => ⟨_, rfl, by cases e; exact ab_shr_ok hx⟩) h hs
  | iushr =>
    simp only [ab_alu] at h
    exact ab_ii_ok (fun p q r x y hx hy e => ⟨_, rfl, by cases e; exact ab_i_top _⟩) h hs
  | ladd =>
    simp only [ab_alu] at h
    exact ab_ll_ok (fun p q r x y hx hy e => ⟨_, rfl, by cases e; exact ab_lfit_ok (Int64.toInt_add x y) (ab_add_ok hx hy)⟩) h hs
  | lmul =>
    simp only [ab_alu] at h
    exact ab_ll_ok (fun p q r x y hx hy e => ⟨_, rfl, by cases e; exact ab_lfit_ok (Int64.toInt_mul x y) (ab_mul_ok hx hy)⟩) h hs
  | ldiv =>
    simp only [ab_alu] at h
    refine ab_ll_ok (fun p q r x y hx hy e => ?_) h hs
    split at e
    · rename_i h1
      cases e
      exact ⟨_, if_neg (ab_lne0 h1 hy), ab_ldiv_ok hx hy⟩
    · cases e
  | lrem =>
    simp only [ab_alu] at h
    refine ab_ll_ok (fun p q r x y hx hy e => ?_) h hs
    split at e
    · rename_i h1
      cases e
      exact ⟨_, if_neg (ab_lne0 h1 hy), ab_lrem_ok hx hy⟩
    · cases e
  | lcmp =>
    simp only [ab_alu] at h
    split at h
    · split at h
      · rename_i hk
        obtain ⟨rfl, rfl, ho⟩ := hk
        cases h
        obtain ⟨v2, r2, rfl, s2, hs2⟩ := ab_st_cons hs
        obtain ⟨v1, r1, rfl, s1, hs1⟩ := ab_st_cons hs2
        obtain ⟨y, rfl, hy, -⟩ := ab_s_1 s2
        obtain ⟨x, rfl, hx, hxo⟩ := ab_s_1 s1
        refine ⟨.int (lg_cmp x y) :: r1, rfl, Or.inl ⟨rfl, ho, ?_⟩, hs1⟩
        rcases hxo with q | ⟨u, z, e1, e2, e3⟩
        · exact absurd q ho
        · exact ⟨x, y, u, rfl, e1, by rw [e2]; exact e3.symm, hy⟩
      · cases h
    · cases h
  | i2l =>
    simp only [ab_alu] at h
    split at h
    · split at h
      · rename_i hk
        subst hk
        cases h
        obtain ⟨v, r, rfl, s1, hs1⟩ := ab_st_cons hs
        obtain ⟨x, rfl, hx, hxo⟩ := ab_s_0 s1
        refine ⟨.long x.toInt64 :: r, rfl, Or.inr ⟨Or.inr (Or.inl ⟨rfl, _, rfl, by rw [mj_l32]; exact hx⟩), ?_⟩, hs1⟩
        rcases hxo with q | ⟨u, z, e1, e2, e3⟩
        · exact Or.inl q
        · exact Or.inr ⟨u, z, e1, e2, by show some (x.toInt64.toInt) = some z; rw [mj_l32]; exact e3⟩
      · cases h
    · cases h
  | l2i =>
    simp only [ab_alu] at h
    split at h
    · split at h
      · rename_i hk
        subst hk
        cases h
        obtain ⟨v, r, rfl, s1, hs1⟩ := ab_st_cons hs
        obtain ⟨x, rfl, hx, -⟩ := ab_s_1 s1
        exact ⟨.int x.toInt32 :: r, rfl, ab_s_int (ab_fit_ok (z := x.toInt) (Int64.toInt_toInt32 x) hx), hs1⟩
      · cases h
    · cases h
  | i2c =>
    simp only [ab_alu] at h
    split at h
    · split at h
      · rename_i hk
        subst hk
        cases h
        obtain ⟨v, r, rfl, s1, hs1⟩ := ab_st_cons hs
        obtain ⟨x, rfl, hx, -⟩ := ab_s_0 s1
        exact ⟨_, rfl, ab_s_int (ab_i2c x), hs1⟩
      · cases h
    · cases h
  | dup =>
    simp only [ab_alu] at h
    split at h
    · split at h
      · rename_i hk
        cases h
        obtain ⟨v, r, rfl, s1, hs1⟩ := ab_st_cons hs
        have hc := ab_s_cat s1
        rw [if_neg hk] at hc
        exact ⟨v :: v :: r, by simp only [mj_alu]; rw [if_pos hc], s1, s1, hs1⟩
      · cases h
    · cases h
  | pop =>
    simp only [ab_alu] at h
    split at h
    · split at h
      · rename_i hk
        cases h
        obtain ⟨v, r, rfl, s1, hs1⟩ := ab_st_cons hs
        have hc := ab_s_cat s1
        rw [if_neg hk] at hc
        exact ⟨r, by simp only [mj_alu]; rw [if_pos hc], hs1⟩
      · cases h
    · cases h
  | dup2 =>
    simp only [ab_alu] at h
    split at h
    · split at h
      · rename_i hk
        cases h
        obtain ⟨v, r, rfl, s1, hs1⟩ := ab_st_cons hs
        obtain ⟨w, r2, rfl, s2, hs2⟩ := ab_st_cons hs1
        have hc := ab_s_cat s1
        rw [if_neg hk.1] at hc
        have hc2 := ab_s_cat s2
        rw [if_neg hk.2] at hc2
        exact ⟨v :: w :: v :: w :: r2, by simp only [mj_alu]; rw [if_pos ⟨hc, hc2⟩], s1, s2, s1, s2, hs2⟩
      · cases h
    · cases h
  | _ => exact absurd (show (none : Option (List ab_V)) = some A' from h) (by simp)
