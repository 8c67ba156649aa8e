/-! THE CELLS AS NUMBERS: what a method makes of them is a function of them -/
abbrev sg_S : Type := Nat → Nat → Int
def sg_up (s : sg_S) (a k : Nat) (z : Int) : sg_S := fun b l => if b = a ∧ l = k then z else s b l
def sg_cp (s : sg_S) (a d : Nat) : sg_S := fun b l => if b = d then s a l else s b l
theorem sg_eq (s : sg_S) (a k : Nat) (z : Int) : sg_up s a k z a k = z := if_pos ⟨rfl, rfl⟩
theorem sg_na {s : sg_S} {a b : Nat} (h : b ≠ a) (k l : Nat) (z : Int) : sg_up s a k z b l = s b l := if_neg (fun q => h q.1)
theorem sg_nk {s : sg_S} {k l : Nat} (h : l ≠ k) (a b : Nat) (z : Int) : sg_up s a k z b l = s b l := if_neg (fun q => h q.2)
theorem sg_cpd (s : sg_S) (a d l : Nat) : sg_cp s a d d l = s a l := if_pos rfl
theorem sg_cpn {s : sg_S} {a d b : Nat} (h : b ≠ d) (l : Nat) : sg_cp s a d b l = s b l := if_neg h
/-- what a method answers: cells as they were; other cells; nothing -/
def dq1 (h : mj_H) (lo hi z : Int) : Option Value → mj_H → Prop := fun r h' => h = h' ∧ r = some (sy_i z) ∧ lo ≤ z ∧ z ≤ hi
def dq2 (lo hi : Int) (p : sg_S × Int) : Option Value → mj_H → Prop := fun r h' => sy_H h' ∧ sy_rd h' = p.1 ∧ r = some (sy_i p.2) ∧ lo ≤ p.2 ∧ p.2 ≤ hi
def dq3 (s : sg_S) : Option Value → mj_H → Prop := fun r h' => r = none ∧ sy_H h' ∧ sy_rd h' = s
def sg_ush (a b : Int) : Int := (((Int32.ofInt a).toUInt32 >>> ((Int32.ofInt b).toUInt32 &&& Int32.toUInt32 31)).toInt32).toInt
theorem sg_and_f (a b : Int) : (-2147483648 ≤ sy_and a b ∧ sy_and a b ≤ 2147483647) ∧ (0 ≤ a → a ≤ 2147483647 → 0 ≤ sy_and a b ∧ sy_and a b ≤ a) ∧ (0 ≤ b → b ≤ 2147483647 → 0 ≤ sy_and a b ∧ sy_and a b ≤ b) := by
  refine ⟨sy_lo, fun h1 h2 => ?_, fun h1 h2 => ?_⟩
  · have := ab_and_l (x := Int32.ofInt a) (y := Int32.ofInt b) (by rw [sy_toInt ⟨by omega, by omega⟩]; exact h1)
    rw [sy_toInt ⟨by omega, by omega⟩] at this
    exact this
  · have := ab_and_l (x := Int32.ofInt b) (y := Int32.ofInt a) (by rw [sy_toInt ⟨by omega, by omega⟩]; exact h1)
    rw [sy_toInt ⟨by omega, by omega⟩, Int32.and_comm] at this
    exact this
theorem sg_or_b {a b : Int} (m : Int) (hm : 0 ≤ m ∧ m ≤ 2147483647) (he : ab_or (0, m) (0, m) = (0, m)) (h1 : 0 ≤ a) (h2 : a ≤ m) (h3 : 0 ≤ b) (h4 : b ≤ m) : 0 ≤ sy_or a b ∧ sy_or a b ≤ m := by
  have e1 := sy_toInt (z := a) ⟨by omega, by omega⟩
  have e2 := sy_toInt (z := b) ⟨by omega, by omega⟩
  have := ab_or_ok (p := (0, m)) (q := (0, m)) (x := Int32.ofInt a) (y := Int32.ofInt b) (by rw [e1]; exact ⟨h1, h2⟩) (by rw [e2]; exact ⟨h3, h4⟩)
  rw [he] at this
  exact this
theorem sg_or_f (a b : Int) : (-2147483648 ≤ sy_or a b ∧ sy_or a b ≤ 2147483647) ∧ (0 ≤ a → a ≤ 2147483647 → 0 ≤ b → b ≤ 2147483647 → 0 ≤ sy_or a b) ∧ (0 ≤ a → a ≤ 31 → 0 ≤ b → b ≤ 31 → sy_or a b ≤ 31) ∧ (0 ≤ a → a ≤ 511 → 0 ≤ b → b ≤ 511 → sy_or a b ≤ 511) ∧ (0 ≤ a → a ≤ 255 → 0 ≤ b → b ≤ 255 → sy_or a b ≤ 255) := by
  refine ⟨sy_lo, fun h1 h2 h3 h4 => ?_, fun h1 h2 h3 h4 => ?_, fun h1 h2 h3 h4 => ?_, fun h1 h2 h3 h4 => ?_⟩
  · exact (sg_or_b 2147483647 (by decide) (by decide +kernel) h1 h2 h3 h4).1
  · exact (sg_or_b 31 (by decide) (by decide +kernel) h1 h2 h3 h4).2
  · exact (sg_or_b 511 (by decide) (by decide +kernel) h1 h2 h3 h4).2
  · exact (sg_or_b 255 (by decide) (by decide +kernel) h1 h2 h3 h4).2
theorem sg_shl_1 : ∀ n, n < 31 → (Int32.ofInt 1 <<< (Int32.ofInt (n : Nat) &&& 31)).toInt = ((2 ^ n : Nat) : Int) := by decide +kernel
theorem sg_shl1 {b : Int} (h1 : 0 ≤ b) (h2 : b < 31) : sy_shl 1 b = ((2 ^ b.toNat : Nat) : Int) := by
  have := sg_shl_1 b.toNat (by omega)
  rw [Int.toNat_of_nonneg h1] at this
  exact this
theorem sg_shl_t : ∀ n, n < 10 → 1 ≤ (2 ^ n : Nat) ∧ (2 ^ n : Nat) ≤ 512 ∧ (n < 9 → (2 ^ n : Nat) ≤ 256) ∧ (n < 5 → (2 ^ n : Nat) ≤ 16) ∧ (n < 4 → (2 ^ n : Nat) ≤ 8) := by decide
theorem sg_shl_f (a b : Int) : (-2147483648 ≤ sy_shl a b ∧ sy_shl a b ≤ 2147483647) ∧ (a = 1 → 0 ≤ b → b < 10 → 1 ≤ sy_shl a b ∧ sy_shl a b ≤ 512 ∧ (b < 9 → sy_shl a b ≤ 256) ∧ (b < 5 → sy_shl a b ≤ 16)) := by
  refine ⟨sy_lo, fun e h1 h2 => ?_⟩
  subst e
  rw [sg_shl1 h1 (by omega)]
  have := sg_shl_t b.toNat (by omega)
  refine ⟨by omega, by omega, fun h => ?_, fun h => ?_⟩
  · have := this.2.2.1 (by omega); omega
  · have := this.2.2.2.1 (by omega); omega
theorem sg_shr_f (a b : Int) : (-2147483648 ≤ sy_shr a b ∧ sy_shr a b ≤ 2147483647) ∧ (0 ≤ a → a ≤ 2147483647 → 0 ≤ sy_shr a b ∧ sy_shr a b ≤ a) := by
  refine ⟨sy_lo, fun h1 h2 => ?_⟩
  have e1 := sy_toInt (z := a) ⟨by omega, by omega⟩
  have := ab_shr_ok (p := (0, a)) (x := Int32.ofInt a) (y := Int32.ofInt b) (by rw [e1]; exact ⟨h1, Int.le_refl _⟩)
  obtain ⟨p, q⟩ := this
  simp only [ab_shr] at p q
  unfold sy_shr
  omega
theorem sg_ush_f (a b : Int) : -2147483648 ≤ sg_ush a b ∧ sg_ush a b ≤ 2147483647 := sy_lo
def sg_xor_f (a b : Int) : -2147483648 ≤ sy_xor a b ∧ sy_xor a b ≤ 2147483647 := sy_lo
/-- the reference's long row, by its places' remainders by 112 -/
def sg_W : List ab_V := match sy_cell 235 with
  | some q => q.2.2
  | none => []
set_option maxRecDepth 100000 in
theorem sg_Wc : sy_cell 235 = some (100, 3808, sg_W) := rfl
def sg_wlo (m : Nat) : Int := if m < 2 then -2147483648 else if m < 11 then 0 else if m < 20 then -1 else if m < 106 then 0 else if m < 111 then -2147483648 else 0
def sg_whi (m : Nat) : Int := if m < 2 then 2147483647 else if m < 11 then 7 else if m < 12 then 0 else if m < 20 then (m : Int) - 12 else if m < 29 then 8 else if m < 101 then 7 else if m < 106 then 511 else 2147483647
theorem sg_Wl : sg_W.length = 112 := by decide +kernel
theorem sg_We : ∀ m, m < 112 → sg_W.getD m (9, 0, 0, 0) = (0, sg_wlo m, sg_whi m, 0) := by decide +kernel
theorem sg_wel (k : Nat) : ab_el sg_W k = (0, sg_wlo (k % 112), sg_whi (k % 112), 0) := by
  unfold ab_el
  rw [sg_Wl]
  exact sg_We _ (Nat.mod_lt _ (by decide))
/-- bounds of x at place z -/
def sg_wb (z x : Int) : Prop := (-2147483648 ≤ x ∧ x ≤ 2147483647) ∧ (2 ≤ z % 112 → z % 112 < 11 → 0 ≤ x ∧ x ≤ 7) ∧ (z % 112 = 11 → -1 ≤ x ∧ x ≤ 0) ∧ (12 ≤ z % 112 → z % 112 < 20 → -1 ≤ x ∧ x ≤ z % 112 - 12) ∧ (20 ≤ z % 112 → z % 112 < 29 → 0 ≤ x ∧ x ≤ 8) ∧ (29 ≤ z % 112 → z % 112 < 101 → 0 ≤ x ∧ x ≤ 7) ∧ (101 ≤ z % 112 → z % 112 < 106 → 0 ≤ x ∧ x ≤ 511) ∧ (z % 112 = 111 → 0 ≤ x)
theorem sg_wb_of {z x : Int} (hz : 0 ≤ z) (h1 : sg_wlo (z.toNat % 112) ≤ x) (h2 : x ≤ sg_whi (z.toNat % 112)) : sg_wb z x := by
  have e : (z.toNat % 112 : Nat) = (z % 112).toNat := by omega
  unfold sg_wlo at h1
  unfold sg_whi at h2
  unfold sg_wb
  refine ⟨?_, ?_, ?_, ?_, ?_, ?_, ?_, ?_⟩ <;> intros <;> (repeat' split at h1) <;> (repeat' split at h2) <;> omega
theorem sg_wb_to {z x : Int} (hz : 0 ≤ z) (h : sg_wb z x) : sg_wlo (z.toNat % 112) ≤ x ∧ x ≤ sg_whi (z.toNat % 112) := by
  have e : (z.toNat % 112 : Nat) = (z % 112).toNat := by omega
  unfold sg_wlo sg_whi
  unfold sg_wb at h
  constructor <;> (repeat' split) <;> omega
section SG1
variable {M M' : mj_M} {pc : Nat} {lv lv' : mj_L} {st vs rest : List Value} {h : mj_H} {Q Q' : Option Value → mj_H → Prop} {ins : Instr} {len : Nat} {S S' : mj_S}
theorem sg_of {h h' : mj_H} {a k : Nat} {z : Int} (e : ∀ b l, sy_rd h' b l = if b = a ∧ l = k then z else sy_rd h b l) : sy_rd h' = sg_up (sy_rd h) a k z := funext fun b => funext fun l => e b l
theorem sg_pf {idx ix kd ci k a ln : Nat} {es : List ab_V} {lo hi z : Int} {o : Nat} (hd : decode M.2.1 pc = .ok (.putfield idx, 3)) (he : mj_ent M idx = some (ix, kd, ci, k)) (hc : sy_cell a = some (ci, ln, es)) (hk : kd ≤ 1 ∧ ci < 11 ∧ k < ln ∧ mj_fin ci k = false) (ht : mj_ty ci k = .int ∨ (mj_ty ci k = .boolean ∧ 0 ≤ z ∧ z ≤ 1)) (hel : ab_el es k = (0, lo, hi, o)) (hH : sy_H h) (h1 : lo ≤ z) (h2 : z ≤ hi) (hr : -2147483648 ≤ z ∧ z ≤ 2147483647) (kk : ∀ h', sy_H h' → sy_rd h' = sg_up (sy_rd h) a k z → sy_wp (M, pc + 3, lv, st, h') Q) : sy_wp (M, pc, lv, sy_i z :: .ref a :: st, h) Q :=
  sy_pf2 hd he hc hk ht hel hH h1 h2 hr (fun h' th e => kk h' th (sg_of e))
theorem sg_pfw {idx ix kd ci k a ln : Nat} {es : List ab_V} {z : Int} {o : Nat} (hd : decode M.2.1 pc = .ok (.putfield idx, 3)) (he : mj_ent M idx = some (ix, kd, ci, k)) (hc : sy_cell a = some (ci, ln, es)) (hk : kd ≤ 1 ∧ ci < 11 ∧ k < ln ∧ mj_fin ci k = false) (ht : mj_ty ci k = .int) (hel : ab_el es k = (0, -2147483648, 2147483647, o)) (hH : sy_H h) (kk : ∀ h', sy_H h' → sy_rd h' = sg_up (sy_rd h) a k (sy_w z) → sy_wp (M, pc + 3, lv, st, h') Q) : sy_wp (M, pc, lv, sy_i z :: .ref a :: st, h) Q :=
  sy_pfw hd he hc hk ht hel hH (fun h' th e => kk h' th (sg_of e))
theorem sg_ias {a ln : Nat} {es : List ab_V} {lo hi z v : Int} {o : Nat} (hd : decode M.2.1 pc = .ok (.iastore, 1)) (hc : sy_cell a = some (100, ln, es)) (hln : ln ≤ 2147483647) (h1 : 0 ≤ z) (h2 : z < ln) (hel : ab_el es z.toNat = (0, lo, hi, o)) (hH : sy_H h) (v1 : lo ≤ v) (v2 : v ≤ hi) (hr : -2147483648 ≤ v ∧ v ≤ 2147483647) (kk : ∀ h', sy_H h' → sy_rd h' = sg_up (sy_rd h) a z.toNat v → sy_wp (M, pc + 1, lv, st, h') Q) : sy_wp (M, pc, lv, sy_i v :: sy_i z :: .ref a :: st, h) Q :=
  sy_ias2 hd hc hln h1 h2 hel hH v1 v2 hr (fun h' th e => kk h' th (sg_of e))
theorem sg_iasw {a ln : Nat} {es : List ab_V} {z v : Int} {o : Nat} (hd : decode M.2.1 pc = .ok (.iastore, 1)) (hc : sy_cell a = some (100, ln, es)) (hln : ln ≤ 2147483647) (h1 : 0 ≤ z) (h2 : z < ln) (hel : ab_el es z.toNat = (0, -2147483648, 2147483647, o)) (hH : sy_H h) (kk : ∀ h', sy_H h' → sy_rd h' = sg_up (sy_rd h) a z.toNat (sy_w v) → sy_wp (M, pc + 1, lv, st, h') Q) : sy_wp (M, pc, lv, sy_i v :: sy_i z :: .ref a :: st, h) Q :=
  sy_iasw hd hc hln h1 h2 hel hH (fun h' th e => kk h' th (sg_of e))
theorem sg_bas {a ln : Nat} {es : List ab_V} {lo hi z v : Int} {o : Nat} (hd : decode M.2.1 pc = .ok (.bastore, 1)) (hc : sy_cell a = some (102, ln, es)) (hln : ln ≤ 2147483647) (h1 : 0 ≤ z) (h2 : z < ln) (hel : ab_el es z.toNat = (0, lo, hi, o)) (hH : sy_H h) (v1 : lo ≤ v) (v2 : v ≤ hi) (hr : 0 ≤ v ∧ v ≤ 1) (kk : ∀ h', sy_H h' → sy_rd h' = sg_up (sy_rd h) a z.toNat v → sy_wp (M, pc + 1, lv, st, h') Q) : sy_wp (M, pc, lv, sy_i v :: sy_i z :: .ref a :: st, h) Q :=
  sy_bas2 hd hc hln h1 h2 hel hH v1 v2 hr (fun h' th e => kk h' th (sg_of e))
theorem sg_cas {a ln : Nat} {es : List ab_V} {lo hi z v : Int} {o : Nat} (hd : decode M.2.1 pc = .ok (.castore, 1)) (hc : sy_cell a = some (101, ln, es)) (hln : ln ≤ 2147483647) (h1 : 0 ≤ z) (h2 : z < ln) (hel : ab_el es z.toNat = (0, lo, hi, o)) (hH : sy_H h) (v1 : lo ≤ v) (v2 : v ≤ hi) (hr : 0 ≤ v ∧ v ≤ 65535) (kk : ∀ h', sy_H h' → sy_rd h' = sg_up (sy_rd h) a z.toNat v → sy_wp (M, pc + 1, lv, st, h') Q) : sy_wp (M, pc, lv, sy_i v :: sy_i z :: .ref a :: st, h) Q :=
  sy_cas2 hd hc hln h1 h2 hel hH v1 v2 hr (fun h' th e => kk h' th (sg_of e))
theorem sg_ac {idx ix jj zz a d ln : Nat} {lo hi : Int} {o : Nat} (hd : decode M.2.1 pc = .ok (.invokestatic idx, 3)) (he : mj_ent M idx = some (ix, 7, jj, zz)) (hca : sy_cell a = some (100, ln, [(0, lo, hi, o)])) (hcd : sy_cell d = some (100, ln, [(0, lo, hi, o)])) (hln : ln ≤ 2147483646) (hroom : 1 ≤ M.2.2.2.2.2.2.2.1 ∧ (st.map fun v => v.category).sum + 18 ≤ M.2.2.2.2.2.2.2.2) (hH : sy_H h) (kk : ∀ h', sy_H h' → sy_rd h' = sg_cp (sy_rd h) a d → sy_wp (M, pc + 3, lv, st, h') Q) : sy_wp (M, pc, lv, sy_i (ln : Int) :: sy_i 0 :: .ref d :: sy_i 0 :: .ref a :: st, h) Q :=
  sy_ac hd he hca hcd hln hroom hH (fun h' th e => kk h' th (funext fun b => funext fun l => e b l))
theorem sg_iaW {z : Int} (hd : decode M.2.1 pc = .ok (.iaload, 1)) (h1 : 0 ≤ z) (h2 : z < 3808) (hH : sy_H h) (kk : ∀ x, x = sy_rd h 235 z.toNat → (-2147483648 ≤ x ∧ x ≤ 2147483647) ∧ (2 ≤ z % 112 → z % 112 < 11 → 0 ≤ x ∧ x ≤ 7) ∧ (z % 112 = 11 → -1 ≤ x ∧ x ≤ 0) ∧ (12 ≤ z % 112 → z % 112 < 20 → -1 ≤ x ∧ x ≤ z % 112 - 12) ∧ (20 ≤ z % 112 → z % 112 < 29 → 0 ≤ x ∧ x ≤ 8) ∧ (29 ≤ z % 112 → z % 112 < 101 → 0 ≤ x ∧ x ≤ 7) ∧ (101 ≤ z % 112 → z % 112 < 106 → 0 ≤ x ∧ x ≤ 511) ∧ (z % 112 = 111 → 0 ≤ x) → sy_wp (M, pc + 1, lv, sy_i x :: st, h) Q) : sy_wp (M, pc, lv, sy_i z :: .ref 235 :: st, h) Q :=
  sy_ia hd sg_Wc (by decide) h1 h2 (sg_wel _) hH (fun x e b t => kk x e (sg_wb_of h1 b t))
theorem sg_iasW {z v : Int} (hd : decode M.2.1 pc = .ok (.iastore, 1)) (h1 : 0 ≤ z) (h2 : z < 3808) (hH : sy_H h) (hv : (-2147483648 ≤ v ∧ v ≤ 2147483647) ∧ (2 ≤ z % 112 → z % 112 < 11 → 0 ≤ v ∧ v ≤ 7) ∧ (z % 112 = 11 → -1 ≤ v ∧ v ≤ 0) ∧ (12 ≤ z % 112 → z % 112 < 20 → -1 ≤ v ∧ v ≤ z % 112 - 12) ∧ (20 ≤ z % 112 → z % 112 < 29 → 0 ≤ v ∧ v ≤ 8) ∧ (29 ≤ z % 112 → z % 112 < 101 → 0 ≤ v ∧ v ≤ 7) ∧ (101 ≤ z % 112 → z % 112 < 106 → 0 ≤ v ∧ v ≤ 511) ∧ (z % 112 = 111 → 0 ≤ v)) (kk : ∀ h', sy_H h' → sy_rd h' = sg_up (sy_rd h) 235 z.toNat v → sy_wp (M, pc + 1, lv, st, h') Q) : sy_wp (M, pc, lv, sy_i v :: sy_i z :: .ref 235 :: st, h) Q := by
  obtain ⟨b, t⟩ := sg_wb_to h1 hv
  exact sg_ias hd sg_Wc (by decide) h1 h2 (sg_wel _) hH b t hv.1 kk
/-- into a place of any int -/
theorem sg_iasV {z v : Int} (hd : decode M.2.1 pc = .ok (.iastore, 1)) (h1 : 0 ≤ z) (h2 : z < 3808) (hz : z % 112 < 2 ∨ (106 ≤ z % 112 ∧ z % 112 < 111)) (hH : sy_H h) (kk : ∀ h', sy_H h' → sy_rd h' = sg_up (sy_rd h) 235 z.toNat (sy_w v) → sy_wp (M, pc + 1, lv, st, h') Q) : sy_wp (M, pc, lv, sy_i v :: sy_i z :: .ref 235 :: st, h) Q := by
  rw [← sy_iw v]
  have := sy_w_rng v
  exact sg_iasW hd h1 h2 hH (by omega) kk
/-- the reference's row of what was read of flues -/
theorem sg_Qe : ∀ m, m < 9 → ab_el [(0, -1, 0, 0), (0, -1, 0, 0), (0, -1, 1, 0), (0, -1, 2, 0), (0, -1, 3, 0), (0, -1, 4, 0), (0, -1, 5, 0), (0, -1, 6, 0), (0, -1, 7, 0)] m = (0, -1, if m = 0 then 0 else (m : Int) - 1, 0) := by decide +kernel
set_option maxRecDepth 100000 in
theorem sg_iaQ {z : Int} (hd : decode M.2.1 pc = .ok (.iaload, 1)) (h1 : 0 ≤ z) (h2 : z < 9) (hH : sy_H h) (kk : ∀ x, x = sy_rd h 239 z.toNat → -1 ≤ x ∧ (z = 0 → x ≤ 0) ∧ (1 ≤ z → x ≤ z - 1) → sy_wp (M, pc + 1, lv, sy_i x :: st, h) Q) : sy_wp (M, pc, lv, sy_i z :: .ref 239 :: st, h) Q :=
  sy_ia hd rfl (by decide) h1 h2 (sg_Qe _ (by omega)) hH (fun x e b t => kk x e ⟨b, fun q => by rw [if_pos (by omega)] at t; exact t, fun q => by rw [if_neg (by omega)] at t; omega⟩)
set_option maxRecDepth 100000 in
theorem sg_iasQ {z v : Int} (hd : decode M.2.1 pc = .ok (.iastore, 1)) (h1 : 0 ≤ z) (h2 : z < 9) (hH : sy_H h) (hv : -1 ≤ v ∧ (z = 0 → v ≤ 0) ∧ (1 ≤ z → v ≤ z - 1)) (kk : ∀ h', sy_H h' → sy_rd h' = sg_up (sy_rd h) 239 z.toNat v → sy_wp (M, pc + 1, lv, st, h') Q) : sy_wp (M, pc, lv, sy_i v :: sy_i z :: .ref 239 :: st, h) Q :=
  sg_ias hd rfl (by decide) h1 h2 (sg_Qe _ (by omega)) hH hv.1 (by split <;> omega) ⟨by omega, by omega⟩ kk
theorem sg_iush {a b : Int} (hd : decode M.2.1 pc = .ok (.iushr, 1)) (kk : sy_wp (M, pc + 1, lv, sy_i (sg_ush a b) :: st, h) Q) : sy_wp (M, pc, lv, sy_i b :: sy_i a :: st, h) Q :=
  sy_alu2 hd (fun _ _ => rfl) (sy_of _).symm kk
theorem sg_rem {a b : Int} (hd : decode M.2.1 pc = .ok (.irem, 1)) (ha : -2147483647 ≤ a ∧ a ≤ 2147483647) (hb : 1 ≤ b ∧ b ≤ 2147483647) (kk : sy_wp (M, pc + 1, lv, sy_i (a.tmod b) :: st, h) Q) : sy_wp (M, pc, lv, sy_i b :: sy_i a :: st, h) Q := by
  have e1 := sy_toInt (z := a) ⟨by omega, by omega⟩
  have e2 := sy_toInt (z := b) ⟨by omega, by omega⟩
  have hq : Int32.ofInt a / Int32.ofInt b = Int32.ofInt (a.tdiv b) := by
    apply Int32.toInt_inj.mp
    rw [Int32.toInt_div, e1, e2, Int32.toInt_ofInt]
  refine sy_alu2 (z := Int32.ofInt a - Int32.ofInt a / Int32.ofInt b * Int32.ofInt b) hd (fun kc k => ?_) (by rw [hq, ← Int32.ofInt_mul, ← Int32.ofInt_sub]; unfold sy_i; rw [Int.tmod_def, Int.mul_comm b]) kk
  have hne : ¬ Int32.ofInt b = 0 := fun e => by
    have := congrArg Int32.toInt e
    rw [e2, show (0 : Int32).toInt = 0 by decide] at this
    omega
  simp only [mj_do, mj_br, mj_loc, mj_alu, mj_ii, if_neg hne, if_true]
end SG1
theorem sg_div_f (a b : Int) : 0 ≤ a → 1 ≤ b → 0 ≤ a / b ∧ a / b ≤ a := fun h1 h2 => ⟨Int.ediv_nonneg h1 (by omega), Int.ediv_le_self b h1⟩
theorem sg_rem_f (a b : Int) : 1 ≤ b → 0 ≤ a % b ∧ a % b < b := fun h2 => ⟨Int.emod_nonneg a (by omega), Int.emod_lt_of_pos a (by omega)⟩
