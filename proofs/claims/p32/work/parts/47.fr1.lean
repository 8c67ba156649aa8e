/-! WHAT IS WRITTEN: cells that a function leaves as they are -/
theorem sg_upf {s : sg_S} {a b k l : Nat} {z : Int} (h : (a == b && k == l) = false) : sg_up s b l z a k = s a k := if_neg (fun q => by rw [q.1, q.2] at h; simp at h)
theorem sg_upa {s : sg_S} {a b k l : Nat} {z : Int} (h : (a == b) = false) : sg_up s b l z a k = s a k := if_neg (fun q => by rw [q.1] at h; simp at h)
theorem sg_cpa {s : sg_S} {a b d k : Nat} (h : (a == d) = false) : sg_cp s b d a k = s a k := if_neg (fun q => by rw [q] at h; simp at h)
theorem sg_cpyL {s : sg_S} {a b k : Nat} (h : (decide (13 ≤ a) && decide (a ≤ 18)) = false) : sg_copy s b 13 a k = s a k := by
  rw [Bool.and_eq_false_iff, decide_eq_false_iff_not, decide_eq_false_iff_not] at h
  exact sg_copyn (by omega)
theorem sg_cpyP {s s' : sg_S} {a b k : Nat} {x : Int} (h : (decide (21 ≤ a) && decide (a ≤ 200)) = false) : sg_copy s b (21 + 6 * (dc_Math_floorMod s' x 30).toNat) a k = s a k := by
  rw [Bool.and_eq_false_iff, decide_eq_false_iff_not, decide_eq_false_iff_not] at h
  unfold dc_Math_floorMod
  exact sg_copyn (by omega)
def dw_Plan_clear (a k : Nat) : Bool := (a == 3 && k == 0) || (a == 3 && k == 1) || (a == 3 && k == 2) || (a == 3 && k == 3) || (a == 3 && k == 4)
theorem dr_Plan_clear (s : sg_S) (a k : Nat) (h : dw_Plan_clear a k = false) : (dc_Plan_clear s) a k = s a k := by
  have h0 := h
  unfold dw_Plan_clear at h
  simp only [Bool.or_eq_false_iff] at h
  obtain ⟨⟨⟨⟨h1, h2⟩, h3⟩, h4⟩, h5⟩ := h
  unfold dc_Plan_clear
  (repeat' split) <;> simp only [(fun s z => sg_upf (s := s) (z := z) h1), (fun s z => sg_upf (s := s) (z := z) h2), (fun s z => sg_upf (s := s) (z := z) h3), (fun s z => sg_upf (s := s) (z := z) h4), (fun s z => sg_upf (s := s) (z := z) h5)]
def dw_Plan_copyFrom (a k : Nat) : Bool := (a == 8 && k == 0) || (a == 8 && k == 1) || (a == 8 && k == 2) || (a == 8 && k == 3) || (a == 8 && k == 4) || (a == 9) || (a == 10) || (a == 11) || (a == 12)
theorem dr_Plan_copyFrom (s : sg_S) (a k : Nat) (h : dw_Plan_copyFrom a k = false) : (dc_Plan_copyFrom s) a k = s a k := by
  have h0 := h
  unfold dw_Plan_copyFrom at h
  simp only [Bool.or_eq_false_iff] at h
  obtain ⟨⟨⟨⟨⟨⟨⟨⟨h1, h2⟩, h3⟩, h4⟩, h5⟩, h6⟩, h7⟩, h8⟩, h9⟩ := h
  unfold dc_Plan_copyFrom
  (repeat' split) <;> simp only [(fun s z => sg_upf (s := s) (z := z) h1), (fun s z => sg_upf (s := s) (z := z) h2), (fun s z => sg_upf (s := s) (z := z) h3), (fun s z => sg_upf (s := s) (z := z) h4), (fun s z => sg_upf (s := s) (z := z) h5), (fun s b => sg_cpa (s := s) (b := b) (k := k) h6), (fun s b => sg_cpa (s := s) (b := b) (k := k) h7), (fun s b => sg_cpa (s := s) (b := b) (k := k) h8), (fun s b => sg_cpa (s := s) (b := b) (k := k) h9)]
def dw_Plan_tellCity (a k : Nat) : Bool := (a == 3 && k == 0) || (a == 3 && k == 1) || (a == 3 && k == 2)
theorem dr_Plan_tellCity (s : sg_S) (a1 a2 : Int) (a k : Nat) (h : dw_Plan_tellCity a k = false) : (dc_Plan_tellCity s a1 a2) a k = s a k := by
  have h0 := h
  unfold dw_Plan_tellCity at h
  simp only [Bool.or_eq_false_iff] at h
  obtain ⟨⟨h1, h2⟩, h3⟩ := h
  unfold dc_Plan_tellCity
  (repeat' split) <;> simp only [(fun s z => sg_upf (s := s) (z := z) h1), (fun s z => sg_upf (s := s) (z := z) h2), (fun s z => sg_upf (s := s) (z := z) h3)]
def dw_Plan_tellHouse (a k : Nat) : Bool := (a == 4) || (a == 5) || (a == 3 && k == 3)
theorem dr_Plan_tellHouse (s : sg_S) (a1 a2 : Int) (a k : Nat) (h : dw_Plan_tellHouse a k = false) : (dc_Plan_tellHouse s a1 a2) a k = s a k := by
  have h0 := h
  unfold dw_Plan_tellHouse at h
  simp only [Bool.or_eq_false_iff] at h
  obtain ⟨⟨h1, h2⟩, h3⟩ := h
  unfold dc_Plan_tellHouse
  (repeat' split) <;> simp only [(fun s l z => sg_upa (s := s) (l := l) (z := z) (k := k) h1), (fun s l z => sg_upa (s := s) (l := l) (z := z) (k := k) h2), (fun s z => sg_upf (s := s) (z := z) h3)]
def dw_Plan_tellSweep (a k : Nat) : Bool := (a == 6) || (a == 7) || (a == 3 && k == 4)
theorem dr_Plan_tellSweep (s : sg_S) (a1 a2 : Int) (a k : Nat) (h : dw_Plan_tellSweep a k = false) : (dc_Plan_tellSweep s a1 a2) a k = s a k := by
  have h0 := h
  unfold dw_Plan_tellSweep at h
  simp only [Bool.or_eq_false_iff] at h
  obtain ⟨⟨h1, h2⟩, h3⟩ := h
  unfold dc_Plan_tellSweep
  (repeat' split) <;> simp only [(fun s l z => sg_upa (s := s) (l := l) (z := z) (k := k) h1), (fun s l z => sg_upa (s := s) (l := l) (z := z) (k := k) h2), (fun s z => sg_upf (s := s) (z := z) h3)]
def dw_St_begin (a k : Nat) : Bool := (a == 15) || (a == 16) || (a == 17) || (a == 14) || (a == 13 && k == 5) || (a == 13 && k == 6) || (a == 18)
theorem dr_St_begin_67 (a k : Nat) (h : dw_St_begin a k = false) : ∀ (n : Nat) (s : sg_S) (l2 : Int), (dc_St_begin_67 n s l2) a k = s a k := by
  have h0 := h
  unfold dw_St_begin at h
  simp only [Bool.or_eq_false_iff] at h
  obtain ⟨⟨⟨⟨⟨⟨h1, h2⟩, h3⟩, h4⟩, h5⟩, h6⟩, h7⟩ := h
  intro n
  induction n with
  | zero => intro s l2; rfl
  | succ n ih =>
    intro s l2
    rw [dc_St_begin_67_s]
    (repeat' split) <;> simp only [(fun s b => sg_cpa (s := s) (b := b) (k := k) h1), (fun s b => sg_cpa (s := s) (b := b) (k := k) h2), (fun s b => sg_cpa (s := s) (b := b) (k := k) h3), (fun s l z => sg_upa (s := s) (l := l) (z := z) (k := k) h4), (fun s z => sg_upf (s := s) (z := z) h5), (fun s z => sg_upf (s := s) (z := z) h6), (fun s l z => sg_upa (s := s) (l := l) (z := z) (k := k) h7), ih]
theorem dr_St_begin_46 (a k : Nat) (h : dw_St_begin a k = false) : ∀ (n : Nat) (s : sg_S) (l2 : Int), (dc_St_begin_46 n s l2) a k = s a k := by
  have h0 := h
  unfold dw_St_begin at h
  simp only [Bool.or_eq_false_iff] at h
  obtain ⟨⟨⟨⟨⟨⟨h1, h2⟩, h3⟩, h4⟩, h5⟩, h6⟩, h7⟩ := h
  intro n
  induction n with
  | zero => intro s l2; rfl
  | succ n ih =>
    intro s l2
    rw [dc_St_begin_46_s]
    (repeat' split) <;> simp only [(fun s b => sg_cpa (s := s) (b := b) (k := k) h1), (fun s b => sg_cpa (s := s) (b := b) (k := k) h2), (fun s b => sg_cpa (s := s) (b := b) (k := k) h3), (fun s l z => sg_upa (s := s) (l := l) (z := z) (k := k) h4), (fun s z => sg_upf (s := s) (z := z) h5), (fun s z => sg_upf (s := s) (z := z) h6), (fun s l z => sg_upa (s := s) (l := l) (z := z) (k := k) h7), ih, (dr_St_begin_67 a k h0)]
theorem dr_St_begin (s : sg_S) (a k : Nat) (h : dw_St_begin a k = false) : (dc_St_begin s) a k = s a k := by
  have h0 := h
  unfold dw_St_begin at h
  simp only [Bool.or_eq_false_iff] at h
  obtain ⟨⟨⟨⟨⟨⟨h1, h2⟩, h3⟩, h4⟩, h5⟩, h6⟩, h7⟩ := h
  unfold dc_St_begin
  (repeat' split) <;> simp only [(fun s b => sg_cpa (s := s) (b := b) (k := k) h1), (fun s b => sg_cpa (s := s) (b := b) (k := k) h2), (fun s b => sg_cpa (s := s) (b := b) (k := k) h3), (fun s l z => sg_upa (s := s) (l := l) (z := z) (k := k) h4), (fun s z => sg_upf (s := s) (z := z) h5), (fun s z => sg_upf (s := s) (z := z) h6), (fun s l z => sg_upa (s := s) (l := l) (z := z) (k := k) h7), (dr_St_begin_67 a k h0), (dr_St_begin_46 a k h0)]
def dw_St_burnIn (a k : Nat) : Bool := (a == 14)
theorem dr_St_burnIn_5 (a k : Nat) (h : dw_St_burnIn a k = false) : ∀ (n : Nat) (s : sg_S) (l1 l3 l4 : Int), (dc_St_burnIn_5 n s l1 l3 l4) a k = s a k := by
  have h0 := h
  unfold dw_St_burnIn at h
  have h1 := h
  intro n
  induction n with
  | zero => intro s l1 l3 l4; rfl
  | succ n ih =>
    intro s l1 l3 l4
    rw [dc_St_burnIn_5_s]
    (repeat' split) <;> simp only [(fun s l z => sg_upa (s := s) (l := l) (z := z) (k := k) h1), ih]
theorem dr_St_burnIn (s : sg_S) (a1 : Int) (a k : Nat) (h : dw_St_burnIn a k = false) : (dc_St_burnIn s a1) a k = s a k := by
  have h0 := h
  unfold dw_St_burnIn at h
  have h1 := h
  unfold dc_St_burnIn
  (repeat' split) <;> simp only [(fun s l z => sg_upa (s := s) (l := l) (z := z) (k := k) h1), (dr_St_burnIn_5 a k h0)]
def dw_St_passMonth (a k : Nat) : Bool := (a == 13 && k == 5) || dw_St_burnIn a k
theorem dr_St_passMonth_2 (a k : Nat) (h : dw_St_passMonth a k = false) : ∀ (n : Nat) (s : sg_S) (l2 : Int), (dc_St_passMonth_2 n s l2) a k = s a k := by
  have h0 := h
  unfold dw_St_passMonth at h
  simp only [Bool.or_eq_false_iff] at h
  obtain ⟨h1, h2⟩ := h
  intro n
  induction n with
  | zero => intro s l2; rfl
  | succ n ih =>
    intro s l2
    rw [dc_St_passMonth_2_s]
    (repeat' split) <;> simp only [(fun s z => sg_upf (s := s) (z := z) h1), (fun s x0 => dr_St_burnIn s x0 a k h2), ih]
theorem dr_St_passMonth (s : sg_S) (a k : Nat) (h : dw_St_passMonth a k = false) : (dc_St_passMonth s) a k = s a k := by
  have h0 := h
  unfold dw_St_passMonth at h
  simp only [Bool.or_eq_false_iff] at h
  obtain ⟨h1, h2⟩ := h
  unfold dc_St_passMonth
  (repeat' split) <;> simp only [(fun s z => sg_upf (s := s) (z := z) h1), (fun s x0 => dr_St_burnIn s x0 a k h2), (dr_St_passMonth_2 a k h0)]
def dw_St_washOff (a k : Nat) : Bool := (a == 14)
theorem dr_St_washOff_7 (a k : Nat) (h : dw_St_washOff a k = false) : ∀ (n : Nat) (s : sg_S) (l1 l2 l3 : Int), (dc_St_washOff_7 n s l1 l2 l3).1 a k = s a k := by
  have h0 := h
  unfold dw_St_washOff at h
  have h1 := h
  intro n
  induction n with
  | zero => intro s l1 l2 l3; rfl
  | succ n ih =>
    intro s l1 l2 l3
    rw [dc_St_washOff_7_s]
    (repeat' split) <;> simp only [(fun s l z => sg_upa (s := s) (l := l) (z := z) (k := k) h1), ih]
theorem dr_St_washOff (s : sg_S) (a1 : Int) (a k : Nat) (h : dw_St_washOff a k = false) : (dc_St_washOff s a1).1 a k = s a k := by
  have h0 := h
  unfold dw_St_washOff at h
  have h1 := h
  unfold dc_St_washOff
  (repeat' split) <;> simp only [(fun s l z => sg_upa (s := s) (l := l) (z := z) (k := k) h1), (dr_St_washOff_7 a k h0)]
def dw_St_learn (a k : Nat) : Bool := (a == 17)
theorem dr_St_learn (s : sg_S) (a1 a2 : Int) (a k : Nat) (h : dw_St_learn a k = false) : (dc_St_learn s a1 a2) a k = s a k := by
  have h0 := h
  unfold dw_St_learn at h
  have h1 := h
  unfold dc_St_learn
  (repeat' split) <;> simp only [(fun s l z => sg_upa (s := s) (l := l) (z := z) (k := k) h1)]
def dw_Past_forget (a k : Nat) : Bool := (a == 19 && k == 2)
theorem dr_Past_forget (s : sg_S) (a k : Nat) (h : dw_Past_forget a k = false) : (dc_Past_forget s) a k = s a k := by
  have h0 := h
  unfold dw_Past_forget at h
  have h1 := h
  unfold dc_Past_forget
  (repeat' split) <;> simp only [(fun s z => sg_upf (s := s) (z := z) h1)]
def dw_Past_remember (a k : Nat) : Bool := (a == 19 && k == 1) || (decide (21 ≤ a) && decide (a ≤ 200)) || (a == 19 && k == 2)
theorem dr_Past_remember (s : sg_S) (a k : Nat) (h : dw_Past_remember a k = false) : (dc_Past_remember s) a k = s a k := by
  have h0 := h
  unfold dw_Past_remember at h
  simp only [Bool.or_eq_false_iff] at h
  obtain ⟨⟨h1, h2⟩, h3⟩ := h
  unfold dc_Past_remember
  (repeat' split) <;> simp only [(fun s z => sg_upf (s := s) (z := z) h1), (fun s b s' x => sg_cpyP (s := s) (b := b) (s' := s') (x := x) (k := k) h2), (fun s z => sg_upf (s := s) (z := z) h3)]
def dw_Past_bringBack (a k : Nat) : Bool := (decide (13 ≤ a) && decide (a ≤ 18)) || (a == 19 && k == 1) || (a == 19 && k == 2)
theorem dr_Past_bringBack (s : sg_S) (a1 : Int) (a k : Nat) (h : dw_Past_bringBack a k = false) : (dc_Past_bringBack s a1) a k = s a k := by
  have h0 := h
  unfold dw_Past_bringBack at h
  simp only [Bool.or_eq_false_iff] at h
  obtain ⟨⟨h1, h2⟩, h3⟩ := h
  unfold dc_Past_bringBack
  (repeat' split) <;> simp only [(fun s b => sg_cpyL (s := s) (b := b) (k := k) h1), (fun s z => sg_upf (s := s) (z := z) h2), (fun s z => sg_upf (s := s) (z := z) h3)]
def dw_Im_forget (a k : Nat) : Bool := (a == 204)
theorem dr_Im_forget_2 (a k : Nat) (h : dw_Im_forget a k = false) : ∀ (n : Nat) (s : sg_S) (l1 : Int), (dc_Im_forget_2 n s l1) a k = s a k := by
  have h0 := h
  unfold dw_Im_forget at h
  have h1 := h
  intro n
  induction n with
  | zero => intro s l1; rfl
  | succ n ih =>
    intro s l1
    rw [dc_Im_forget_2_s]
    (repeat' split) <;> simp only [(fun s l z => sg_upa (s := s) (l := l) (z := z) (k := k) h1), ih]
theorem dr_Im_forget (s : sg_S) (a k : Nat) (h : dw_Im_forget a k = false) : (dc_Im_forget s) a k = s a k := by
  have h0 := h
  unfold dw_Im_forget at h
  have h1 := h
  unfold dc_Im_forget
  (repeat' split) <;> simp only [(fun s l z => sg_upa (s := s) (l := l) (z := z) (k := k) h1), (dr_Im_forget_2 a k h0)]
def dw_Im_bringBack (a k : Nat) : Bool := (decide (13 ≤ a) && decide (a ≤ 18))
theorem dr_Im_bringBack (s : sg_S) (a1 : Int) (a k : Nat) (h : dw_Im_bringBack a k = false) : (dc_Im_bringBack s a1).1 a k = s a k := by
  have h0 := h
  unfold dw_Im_bringBack at h
  have h1 := h
  unfold dc_Im_bringBack
  (repeat' split) <;> simp only [(fun s b => sg_cpyL (s := s) (b := b) (k := k) h1)]
def dw_Sights_add (a k : Nat) : Bool := (a == 218) || (a == 219) || (a == 220) || (a == 217 && k == 3)
theorem dr_Sights_add (s : sg_S) (a1 a2 a3 : Int) (a k : Nat) (h : dw_Sights_add a k = false) : (dc_Sights_add s a1 a2 a3).1 a k = s a k := by
  have h0 := h
  unfold dw_Sights_add at h
  simp only [Bool.or_eq_false_iff] at h
  obtain ⟨⟨⟨h1, h2⟩, h3⟩, h4⟩ := h
  unfold dc_Sights_add
  (repeat' split) <;> simp only [(fun s l z => sg_upa (s := s) (l := l) (z := z) (k := k) h1), (fun s l z => sg_upa (s := s) (l := l) (z := z) (k := k) h2), (fun s l z => sg_upa (s := s) (l := l) (z := z) (k := k) h3), (fun s z => sg_upf (s := s) (z := z) h4)]
def dw_Book_add (a k : Nat) : Bool := (a == 222) || (a == 223) || (a == 221 && k == 2)
theorem dr_Book_add (s : sg_S) (a1 a2 : Int) (a k : Nat) (h : dw_Book_add a k = false) : (dc_Book_add s a1 a2).1 a k = s a k := by
  have h0 := h
  unfold dw_Book_add at h
  simp only [Bool.or_eq_false_iff] at h
  obtain ⟨⟨h1, h2⟩, h3⟩ := h
  unfold dc_Book_add
  (repeat' split) <;> simp only [(fun s l z => sg_upa (s := s) (l := l) (z := z) (k := k) h1), (fun s l z => sg_upa (s := s) (l := l) (z := z) (k := k) h2), (fun s z => sg_upf (s := s) (z := z) h3)]
def dw_C_draw (a k : Nat) : Bool := (a == 0 && k == 9)
theorem dr_C_draw (s : sg_S) (a1 : Int) (a k : Nat) (h : dw_C_draw a k = false) : (dc_C_draw s a1).1 a k = s a k := by
  have h0 := h
  unfold dw_C_draw at h
  have h1 := h
  unfold dc_C_draw
  (repeat' split) <;> simp only [(fun s z => sg_upf (s := s) (z := z) h1)]
def dw_Text_add (a k : Nat) : Bool := (a == 2) || (a == 1 && k == 2)
theorem dr_Text_add (s : sg_S) (a1 : Int) (a k : Nat) (h : dw_Text_add a k = false) : (dc_Text_add s a1).1 a k = s a k := by
  have h0 := h
  unfold dw_Text_add at h
  simp only [Bool.or_eq_false_iff] at h
  obtain ⟨h1, h2⟩ := h
  unfold dc_Text_add
  (repeat' split) <;> simp only [(fun s l z => sg_upa (s := s) (l := l) (z := z) (k := k) h1), (fun s z => sg_upf (s := s) (z := z) h2)]
def dw_Text_skipBlanks (a k : Nat) : Bool := (a == 1 && k == 3)
theorem dr_Text_skipBlanks_2 (a k : Nat) (h : dw_Text_skipBlanks a k = false) : ∀ (n : Nat) (s : sg_S) (l1 : Int), (dc_Text_skipBlanks_2 n s l1) a k = s a k := by
  have h0 := h
  unfold dw_Text_skipBlanks at h
  have h1 := h
  intro n
  induction n with
  | zero => intro s l1; rfl
  | succ n ih =>
    intro s l1
    rw [dc_Text_skipBlanks_2_s]
    (repeat' split) <;> simp only [(fun s z => sg_upf (s := s) (z := z) h1), ih]
theorem dr_Text_skipBlanks (s : sg_S) (a k : Nat) (h : dw_Text_skipBlanks a k = false) : (dc_Text_skipBlanks s) a k = s a k := by
  have h0 := h
  unfold dw_Text_skipBlanks at h
  have h1 := h
  unfold dc_Text_skipBlanks
  (repeat' split) <;> simp only [(fun s z => sg_upf (s := s) (z := z) h1), (dr_Text_skipBlanks_2 a k h0)]
def dw_Text_fail (a k : Nat) : Bool := (a == 1 && k == 4) || (a == 1 && k == 5)
theorem dr_Text_fail (s : sg_S) (a1 a2 : Int) (a k : Nat) (h : dw_Text_fail a k = false) : (dc_Text_fail s a1 a2) a k = s a k := by
  have h0 := h
  unfold dw_Text_fail at h
  simp only [Bool.or_eq_false_iff] at h
  obtain ⟨h1, h2⟩ := h
  unfold dc_Text_fail
  (repeat' split) <;> simp only [(fun s z => sg_upf (s := s) (z := z) h1), (fun s z => sg_upf (s := s) (z := z) h2)]
def dw_Text_readNumber (a k : Nat) : Bool := dw_Text_fail a k || (a == 1 && k == 3)
theorem dr_Text_readNumber_13 (a k : Nat) (h : dw_Text_readNumber a k = false) : ∀ (n : Nat) (s : sg_S) (l1 l2 l3 l4 l5 : Int), (dc_Text_readNumber_13 n s l1 l2 l3 l4 l5).1 a k = s a k := by
  have h0 := h
  unfold dw_Text_readNumber at h
  simp only [Bool.or_eq_false_iff] at h
  obtain ⟨h1, h2⟩ := h
  intro n
  induction n with
  | zero => intro s l1 l2 l3 l4 l5; rfl
  | succ n ih =>
    intro s l1 l2 l3 l4 l5
    rw [dc_Text_readNumber_13_s]
    (repeat' split) <;> simp only [(fun s x0 x1 => dr_Text_fail s x0 x1 a k h1), (fun s z => sg_upf (s := s) (z := z) h2), ih]
theorem dr_Text_readNumber (s : sg_S) (a1 : Int) (a k : Nat) (h : dw_Text_readNumber a k = false) : (dc_Text_readNumber s a1).1 a k = s a k := by
  have h0 := h
  unfold dw_Text_readNumber at h
  simp only [Bool.or_eq_false_iff] at h
  obtain ⟨h1, h2⟩ := h
  unfold dc_Text_readNumber
  (repeat' split) <;> simp only [(fun s x0 x1 => dr_Text_fail s x0 x1 a k h1), (fun s z => sg_upf (s := s) (z := z) h2), (dr_Text_readNumber_13 a k h0)]
def dw_Text_readEnd (a k : Nat) : Bool := dw_Text_skipBlanks a k || dw_Text_fail a k || (a == 1 && k == 3)
theorem dr_Text_readEnd (s : sg_S) (a k : Nat) (h : dw_Text_readEnd a k = false) : (dc_Text_readEnd s) a k = s a k := by
  have h0 := h
  unfold dw_Text_readEnd at h
  simp only [Bool.or_eq_false_iff] at h
  obtain ⟨⟨h1, h2⟩, h3⟩ := h
  unfold dc_Text_readEnd
  (repeat' split) <;> simp only [(fun s => dr_Text_skipBlanks s a k h1), (fun s x0 x1 => dr_Text_fail s x0 x1 a k h2), (fun s z => sg_upf (s := s) (z := z) h3)]

theorem df_skip_f (s : sg_S) : (dc_Text_skipBlanks s) 1 4 = s 1 4 := dr_Text_skipBlanks s 1 4 (by decide)
theorem df_fail_f (s : sg_S) (a1 a2 : Int) : (dc_Text_fail s a1 a2) 1 4 = 0 → s 1 4 = 0 ∧ a1 = 0 := by
  unfold dc_Text_fail
  split
  · intro h
    rw [sg_nk (by decide), sg_eq] at h
    exact ⟨by assumption, h⟩
  · intro h; exact absurd h (by assumption)
theorem df_num_13 (n : Nat) : ∀ (s : sg_S) (l1 l2 l3 l4 l5 : Int), l5 ≤ 240 → 240 - l5 < (n : Int) → (dc_Text_readNumber_13 n s l1 l2 l3 l4 l5).1 1 4 = 0 → s 1 4 = 0 ∧ (dc_Text_readNumber_13 n s l1 l2 l3 l4 l5).2 ≤ l1 := by
  induction n with
  | zero => intro s l1 l2 l3 l4 l5 h5 hn; omega
  | succ n ih =>
    intro s l1 l2 l3 l4 l5 h5 hn
    have f1 := df_fail_f s 1 l2
    have f2 := df_fail_f s 2 l2
    rw [dc_Text_readNumber_13_s]
    by_cases c : 240 ≤ l5
    · rw [if_pos c]
      (repeat' split) <;> (try dsimp only) <;> omega
    · rw [if_neg c]
      have i1 := ih (sg_up s 1 3 (sy_w ((s 1 3) + 1))) l1 l2 l3 (l4 + 1) (l5 + 1) (by omega) (by omega)
      have i2 := ih (sg_up s 1 3 (sy_w ((s 1 3) + 1))) l1 l2 ((l3 * 10) + ((dc_Text_letter s) - 48)) (l4 + 1) (l5 + 1) (by omega) (by omega)
      rw [sg_nk (by decide)] at i1 i2
      (repeat' split) <;> (try dsimp only) <;> omega
theorem df_num_f (s : sg_S) (a1 : Int) : (dc_Text_readNumber s a1).1 1 4 = 0 → s 1 4 = 0 ∧ (dc_Text_readNumber s a1).2 ≤ a1 := df_num_13 241 s a1 (s 1 3) 0 0 0 (by omega) (by omega)
theorem df_end_f (s : sg_S) : (dc_Text_readEnd s) 1 4 = 0 → s 1 4 = 0 := by
  have f := df_fail_f (dc_Text_skipBlanks s) 1 ((dc_Text_skipBlanks s) 1 3)
  have g := df_skip_f s
  unfold dc_Text_readEnd
  split
  · rw [sg_nk (by decide), g]; exact fun h => h
  · omega
