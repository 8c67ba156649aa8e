def dw_Text_readFirst (a k : Nat) : Bool := dw_Text_readNumber a k || dw_Text_fail a k
theorem dr_Text_readFirst (s : sg_S) (a1 : Int) (a k : Nat) (h : dw_Text_readFirst a k = false) : (dc_Text_readFirst s a1).1 a k = s a k := by
  have h0 := h
  unfold dw_Text_readFirst at h
  simp only [Bool.or_eq_false_iff] at h
  obtain ⟨h1, h2⟩ := h
  unfold dc_Text_readFirst
  (repeat' split) <;> simp only [(fun s x0 => dr_Text_readNumber s x0 a k h1), (fun s x0 x1 => dr_Text_fail s x0 x1 a k h2)]
def dw_C_passDrawnMonth (a k : Nat) : Bool := dw_C_draw a k || dw_St_passMonth a k || dw_St_washOff a k || (a == 15)
theorem dr_C_passDrawnMonth (s : sg_S) (a k : Nat) (h : dw_C_passDrawnMonth a k = false) : (dc_C_passDrawnMonth s) a k = s a k := by
  have h0 := h
  unfold dw_C_passDrawnMonth at h
  simp only [Bool.or_eq_false_iff] at h
  obtain ⟨⟨⟨h1, h2⟩, h3⟩, h4⟩ := h
  unfold dc_C_passDrawnMonth
  (repeat' split) <;> simp only [(fun s x0 => dr_C_draw s x0 a k h1), (fun s => dr_St_passMonth s a k h2), (fun s x0 => dr_St_washOff s x0 a k h3), (fun s l z => sg_upa (s := s) (l := l) (z := z) (k := k) h4)]
def dw_C_month (a k : Nat) : Bool := dw_Past_remember a k || dw_St_passMonth a k
theorem dr_C_month_14 (a k : Nat) (h : dw_C_month a k = false) : ∀ (n : Nat) (s : sg_S) (l1 l3 : Int), (dc_C_month_14 n s l1 l3).1 a k = s a k := by
  have h0 := h
  unfold dw_C_month at h
  simp only [Bool.or_eq_false_iff] at h
  obtain ⟨h1, h2⟩ := h
  intro n
  induction n with
  | zero => intro s l1 l3; rfl
  | succ n ih =>
    intro s l1 l3
    rw [dc_C_month_14_s]
    (repeat' split) <;> simp only [(fun s => dr_Past_remember s a k h1), (fun s => dr_St_passMonth s a k h2), ih]
theorem dr_C_month (s : sg_S) (a1 : Int) (a k : Nat) (h : dw_C_month a k = false) : (dc_C_month s a1).1 a k = s a k := by
  have h0 := h
  unfold dw_C_month at h
  simp only [Bool.or_eq_false_iff] at h
  obtain ⟨h1, h2⟩ := h
  unfold dc_C_month
  (repeat' split) <;> simp only [(fun s => dr_Past_remember s a k h1), (fun s => dr_St_passMonth s a k h2), (dr_C_month_14 a k h0)]
def dw_C_drift (a k : Nat) : Bool := dw_Past_remember a k || dw_C_passDrawnMonth a k
theorem dr_C_drift_14 (a k : Nat) (h : dw_C_drift a k = false) : ∀ (n : Nat) (s : sg_S) (l1 l3 : Int), (dc_C_drift_14 n s l1 l3).1 a k = s a k := by
  have h0 := h
  unfold dw_C_drift at h
  simp only [Bool.or_eq_false_iff] at h
  obtain ⟨h1, h2⟩ := h
  intro n
  induction n with
  | zero => intro s l1 l3; rfl
  | succ n ih =>
    intro s l1 l3
    rw [dc_C_drift_14_s]
    (repeat' split) <;> simp only [(fun s => dr_Past_remember s a k h1), (fun s => dr_C_passDrawnMonth s a k h2), ih]
theorem dr_C_drift (s : sg_S) (a1 : Int) (a k : Nat) (h : dw_C_drift a k = false) : (dc_C_drift s a1).1 a k = s a k := by
  have h0 := h
  unfold dw_C_drift at h
  simp only [Bool.or_eq_false_iff] at h
  obtain ⟨h1, h2⟩ := h
  unfold dc_C_drift
  (repeat' split) <;> simp only [(fun s => dr_Past_remember s a k h1), (fun s => dr_C_passDrawnMonth s a k h2), (dr_C_drift_14 a k h0)]
def dw_C_fire (a k : Nat) : Bool := dw_Past_remember a k || (a == 15)
theorem dr_C_fire (s : sg_S) (a1 a2 : Int) (a k : Nat) (h : dw_C_fire a k = false) : (dc_C_fire s a1 a2).1 a k = s a k := by
  have h0 := h
  unfold dw_C_fire at h
  simp only [Bool.or_eq_false_iff] at h
  obtain ⟨h1, h2⟩ := h
  unfold dc_C_fire
  (repeat' split) <;> simp only [(fun s => dr_Past_remember s a k h1), (fun s l z => sg_upa (s := s) (l := l) (z := z) (k := k) h2)]
def dw_C_rain (a k : Nat) : Bool := dw_Past_remember a k || dw_St_washOff a k
theorem dr_C_rain (s : sg_S) (a k : Nat) (h : dw_C_rain a k = false) : (dc_C_rain s).1 a k = s a k := by
  have h0 := h
  unfold dw_C_rain at h
  simp only [Bool.or_eq_false_iff] at h
  obtain ⟨h1, h2⟩ := h
  unfold dc_C_rain
  (repeat' split) <;> simp only [(fun s => dr_Past_remember s a k h1), (fun s x0 => dr_St_washOff s x0 a k h2)]
def dw_C_swept (a k : Nat) : Bool := dw_Past_remember a k || (a == 14)
theorem dr_C_swept (s : sg_S) (a1 : Int) (a k : Nat) (h : dw_C_swept a k = false) : (dc_C_swept s a1).1 a k = s a k := by
  have h0 := h
  unfold dw_C_swept at h
  simp only [Bool.or_eq_false_iff] at h
  obtain ⟨h1, h2⟩ := h
  unfold dc_C_swept
  (repeat' split) <;> simp only [(fun s => dr_Past_remember s a k h1), (fun s l z => sg_upa (s := s) (l := l) (z := z) (k := k) h2)]
def dw_C_run (a k : Nat) : Bool := dw_Past_remember a k || (a == 16)
theorem dr_C_run (s : sg_S) (a1 a2 : Int) (a k : Nat) (h : dw_C_run a k = false) : (dc_C_run s a1 a2).1 a k = s a k := by
  have h0 := h
  unfold dw_C_run at h
  simp only [Bool.or_eq_false_iff] at h
  obtain ⟨h1, h2⟩ := h
  unfold dc_C_run
  (repeat' split) <;> simp only [(fun s => dr_Past_remember s a k h1), (fun s l z => sg_upa (s := s) (l := l) (z := z) (k := k) h2)]
def dw_C_undo (a k : Nat) : Bool := dw_Past_bringBack a k
theorem dr_C_undo (s : sg_S) (a1 : Int) (a k : Nat) (h : dw_C_undo a k = false) : (dc_C_undo s a1).1 a k = s a k := by
  have h0 := h
  unfold dw_C_undo at h
  have h1 := h
  unfold dc_C_undo
  (repeat' split) <;> simp only [(fun s x0 => dr_Past_bringBack s x0 a k h1)]
def dw_Rows_addToHeap (a k : Nat) : Bool := (a == 225) || (a == 226)
theorem dr_Rows_addToHeap_3 (a k : Nat) (h : dw_Rows_addToHeap a k = false) : ∀ (n : Nat) (s : sg_S) (l1 l2 l3 l4 : Int), (dc_Rows_addToHeap_3 n s l1 l2 l3 l4) a k = s a k := by
  have h0 := h
  unfold dw_Rows_addToHeap at h
  simp only [Bool.or_eq_false_iff] at h
  obtain ⟨h1, h2⟩ := h
  intro n
  induction n with
  | zero => intro s l1 l2 l3 l4; rfl
  | succ n ih =>
    intro s l1 l2 l3 l4
    rw [dc_Rows_addToHeap_3_s]
    (repeat' split) <;> simp only [(fun s l z => sg_upa (s := s) (l := l) (z := z) (k := k) h1), (fun s l z => sg_upa (s := s) (l := l) (z := z) (k := k) h2), ih]
theorem dr_Rows_addToHeap (s : sg_S) (a1 a2 a3 : Int) (a k : Nat) (h : dw_Rows_addToHeap a k = false) : (dc_Rows_addToHeap s a1 a2 a3) a k = s a k := by
  have h0 := h
  unfold dw_Rows_addToHeap at h
  simp only [Bool.or_eq_false_iff] at h
  obtain ⟨h1, h2⟩ := h
  unfold dc_Rows_addToHeap
  (repeat' split) <;> simp only [(fun s l z => sg_upa (s := s) (l := l) (z := z) (k := k) h1), (fun s l z => sg_upa (s := s) (l := l) (z := z) (k := k) h2), (dr_Rows_addToHeap_3 a k h0)]
def dw_Rows_lookInto (a k : Nat) : Bool := (a == 224 && k == 2) || (a == 225) || (a == 226) || dw_Rows_addToHeap a k
theorem dr_Rows_lookInto_85 (a k : Nat) (h : dw_Rows_lookInto a k = false) {k45 : sg_S → Int → Int → sg_S} (hk45 : ∀ s y0 y1, (k45 s y0 y1) a k = s a k) : ∀ (n : Nat) (s : sg_S) (l1 l4 l5 l6 : Int), (dc_Rows_lookInto_85 k45 n s l1 l4 l5 l6) a k = s a k := by
  have h0 := h
  unfold dw_Rows_lookInto at h
  simp only [Bool.or_eq_false_iff] at h
  obtain ⟨⟨⟨h1, h2⟩, h3⟩, h4⟩ := h
  intro n
  induction n with
  | zero => intro s l1 l4 l5 l6; rfl
  | succ n ih =>
    intro s l1 l4 l5 l6
    rw [dc_Rows_lookInto_85_s]
    (repeat' split) <;> simp only [(fun s z => sg_upf (s := s) (z := z) h1), (fun s l z => sg_upa (s := s) (l := l) (z := z) (k := k) h2), (fun s l z => sg_upa (s := s) (l := l) (z := z) (k := k) h3), (fun s x0 x1 x2 => dr_Rows_addToHeap s x0 x1 x2 a k h4), ih, hk45]
theorem dr_Rows_lookInto_45 (a k : Nat) (h : dw_Rows_lookInto a k = false) : ∀ (n : Nat) (s : sg_S) (l1 l4 : Int), (dc_Rows_lookInto_45 n s l1 l4) a k = s a k := by
  have h0 := h
  unfold dw_Rows_lookInto at h
  simp only [Bool.or_eq_false_iff] at h
  obtain ⟨⟨⟨h1, h2⟩, h3⟩, h4⟩ := h
  intro n
  induction n with
  | zero => intro s l1 l4; rfl
  | succ n ih =>
    intro s l1 l4
    rw [dc_Rows_lookInto_45_s]
    (repeat' split) <;> simp only [(fun s z => sg_upf (s := s) (z := z) h1), (fun s l z => sg_upa (s := s) (l := l) (z := z) (k := k) h2), (fun s l z => sg_upa (s := s) (l := l) (z := z) (k := k) h3), (fun s x0 x1 x2 => dr_Rows_addToHeap s x0 x1 x2 a k h4), ih, (dr_Rows_lookInto_85 a k h0 ih)]
theorem dr_Rows_lookInto_13 (a k : Nat) (h : dw_Rows_lookInto a k = false) : ∀ (n : Nat) (s : sg_S) (l1 l4 : Int), (dc_Rows_lookInto_13 n s l1 l4) a k = s a k := by
  have h0 := h
  unfold dw_Rows_lookInto at h
  simp only [Bool.or_eq_false_iff] at h
  obtain ⟨⟨⟨h1, h2⟩, h3⟩, h4⟩ := h
  intro n
  induction n with
  | zero => intro s l1 l4; rfl
  | succ n ih =>
    intro s l1 l4
    rw [dc_Rows_lookInto_13_s]
    (repeat' split) <;> simp only [(fun s z => sg_upf (s := s) (z := z) h1), (fun s l z => sg_upa (s := s) (l := l) (z := z) (k := k) h2), (fun s l z => sg_upa (s := s) (l := l) (z := z) (k := k) h3), (fun s x0 x1 x2 => dr_Rows_addToHeap s x0 x1 x2 a k h4), ih, (dr_Rows_lookInto_45 a k h0)]
theorem dr_Rows_lookInto (s : sg_S) (a1 : Int) (a k : Nat) (h : dw_Rows_lookInto a k = false) : (dc_Rows_lookInto s a1) a k = s a k := by
  have h0 := h
  unfold dw_Rows_lookInto at h
  simp only [Bool.or_eq_false_iff] at h
  obtain ⟨⟨⟨h1, h2⟩, h3⟩, h4⟩ := h
  unfold dc_Rows_lookInto
  (repeat' split) <;> simp only [(fun s z => sg_upf (s := s) (z := z) h1), (fun s l z => sg_upa (s := s) (l := l) (z := z) (k := k) h2), (fun s l z => sg_upa (s := s) (l := l) (z := z) (k := k) h3), (fun s x0 x1 x2 => dr_Rows_addToHeap s x0 x1 x2 a k h4), (dr_Rows_lookInto_45 a k h0), (dr_Rows_lookInto_13 a k h0)]
def dw_C_burned (a k : Nat) : Bool := dw_Rows_lookInto a k
theorem dr_C_burned (s : sg_S) (a1 a2 a3 : Int) (a k : Nat) (h : dw_C_burned a k = false) : (dc_C_burned s a1 a2 a3).1 a k = s a k := by
  have h0 := h
  unfold dw_C_burned at h
  have h1 := h
  unfold dc_C_burned
  (repeat' split) <;> simp only [(fun s x0 => dr_Rows_lookInto s x0 a k h1)]
def dw_C_sure (a k : Nat) : Bool := dw_Rows_lookInto a k
theorem dr_C_sure (s : sg_S) (a1 a2 a3 : Int) (a k : Nat) (h : dw_C_sure a k = false) : (dc_C_sure s a1 a2 a3).1 a k = s a k := by
  have h0 := h
  unfold dw_C_sure at h
  have h1 := h
  unfold dc_C_sure
  (repeat' split) <;> simp only [(fun s x0 => dr_Rows_lookInto s x0 a k h1)]
def dw_C_see (a k : Nat) : Bool := dw_Sights_add a k
theorem dr_C_see (s : sg_S) (a1 a2 a3 : Int) (a k : Nat) (h : dw_C_see a k = false) : (dc_C_see s a1 a2 a3).1 a k = s a k := by
  have h0 := h
  unfold dw_C_see at h
  have h1 := h
  unfold dc_C_see
  (repeat' split) <;> simp only [(fun s x0 x1 x2 => dr_Sights_add s x0 x1 x2 a k h1)]
def dw_C_write (a k : Nat) : Bool := dw_Book_add a k
theorem dr_C_write (s : sg_S) (a1 a2 : Int) (a k : Nat) (h : dw_C_write a k = false) : (dc_C_write s a1 a2).1 a k = s a k := by
  have h0 := h
  unfold dw_C_write at h
  have h1 := h
  unfold dc_C_write
  (repeat' split) <;> simp only [(fun s x0 x1 => dr_Book_add s x0 x1 a k h1)]
def dw_C_tear (a k : Nat) : Bool := (a == 217 && k == 3) || (a == 221 && k == 2)
theorem dr_C_tear (s : sg_S) (a k : Nat) (h : dw_C_tear a k = false) : (dc_C_tear s).1 a k = s a k := by
  have h0 := h
  unfold dw_C_tear at h
  simp only [Bool.or_eq_false_iff] at h
  obtain ⟨h1, h2⟩ := h
  unfold dc_C_tear
  (repeat' split) <;> simp only [(fun s z => sg_upf (s := s) (z := z) h1), (fun s z => sg_upf (s := s) (z := z) h2)]
def dw_C_seed (a k : Nat) : Bool := (a == 0 && k == 9)
theorem dr_C_seed (s : sg_S) (a1 : Int) (a k : Nat) (h : dw_C_seed a k = false) : (dc_C_seed s a1).1 a k = s a k := by
  have h0 := h
  unfold dw_C_seed at h
  have h1 := h
  unfold dc_C_seed
  (repeat' split) <;> simp only [(fun s z => sg_upf (s := s) (z := z) h1)]
def dw_C_goBack (a k : Nat) : Bool := dw_Im_bringBack a k || (a == 0 && k == 9) || dw_Past_forget a k
theorem dr_C_goBack (s : sg_S) (a1 : Int) (a k : Nat) (h : dw_C_goBack a k = false) : (dc_C_goBack s a1).1 a k = s a k := by
  have h0 := h
  unfold dw_C_goBack at h
  simp only [Bool.or_eq_false_iff] at h
  obtain ⟨⟨h1, h2⟩, h3⟩ := h
  unfold dc_C_goBack
  (repeat' split) <;> simp only [(fun s x0 => dr_Im_bringBack s x0 a k h1), (fun s z => sg_upf (s := s) (z := z) h2), (fun s => dr_Past_forget s a k h3)]
def dw_Text_readNumbersOf (a k : Nat) : Bool := dw_Text_skipBlanks a k || dw_Text_readFirst a k || dw_Text_readNumber a k || dw_Plan_tellSweep a k || dw_Plan_tellHouse a k || dw_Plan_tellCity a k || dw_Text_readEnd a k
theorem dr_Text_readNumbersOf (s : sg_S) (a1 : Int) (a k : Nat) (h : dw_Text_readNumbersOf a k = false) : (dc_Text_readNumbersOf s a1) a k = s a k := by
  have h0 := h
  unfold dw_Text_readNumbersOf at h
  simp only [Bool.or_eq_false_iff] at h
  obtain ⟨⟨⟨⟨⟨⟨h1, h2⟩, h3⟩, h4⟩, h5⟩, h6⟩, h7⟩ := h
  unfold dc_Text_readNumbersOf
  (repeat' split) <;> simp only [(fun s => dr_Text_skipBlanks s a k h1), (fun s x0 => dr_Text_readFirst s x0 a k h2), (fun s x0 => dr_Text_readNumber s x0 a k h3), (fun s x0 x1 => dr_Plan_tellSweep s x0 x1 a k h4), (fun s x0 x1 => dr_Plan_tellHouse s x0 x1 a k h5), (fun s x0 x1 => dr_Plan_tellCity s x0 x1 a k h6), (fun s => dr_Text_readEnd s a k h7)]
def dw_Text_readClause (a k : Nat) : Bool := (a == 1 && k == 3) || dw_Text_readNumbersOf a k || dw_Text_fail a k
theorem dr_Text_readClause (s : sg_S) (a k : Nat) (h : dw_Text_readClause a k = false) : (dc_Text_readClause s) a k = s a k := by
  have h0 := h
  unfold dw_Text_readClause at h
  simp only [Bool.or_eq_false_iff] at h
  obtain ⟨⟨h1, h2⟩, h3⟩ := h
  unfold dc_Text_readClause
  (repeat' split) <;> simp only [(fun s z => sg_upf (s := s) (z := z) h1), (fun s x0 => dr_Text_readNumbersOf s x0 a k h2), (fun s x0 x1 => dr_Text_fail s x0 x1 a k h3)]
def dw_Text_readAll (a k : Nat) : Bool := (a == 1 && k == 3) || (a == 1 && k == 4) || (a == 1 && k == 5) || dw_Plan_clear a k || (a == 1 && k == 2) || dw_Text_skipBlanks a k || dw_Text_readClause a k
theorem dr_Text_readAll_24 (a k : Nat) (h : dw_Text_readAll a k = false) : ∀ (n : Nat) (s : sg_S) (l1 : Int), (dc_Text_readAll_24 n s l1) a k = s a k := by
  have h0 := h
  unfold dw_Text_readAll at h
  simp only [Bool.or_eq_false_iff] at h
  obtain ⟨⟨⟨⟨⟨⟨h1, h2⟩, h3⟩, h4⟩, h5⟩, h6⟩, h7⟩ := h
  intro n
  induction n with
  | zero => intro s l1; rfl
  | succ n ih =>
    intro s l1
    rw [dc_Text_readAll_24_s]
    (repeat' split) <;> simp only [(fun s z => sg_upf (s := s) (z := z) h1), (fun s z => sg_upf (s := s) (z := z) h2), (fun s z => sg_upf (s := s) (z := z) h3), (fun s => dr_Plan_clear s a k h4), (fun s z => sg_upf (s := s) (z := z) h5), (fun s => dr_Text_skipBlanks s a k h6), (fun s => dr_Text_readClause s a k h7), ih]
theorem dr_Text_readAll (s : sg_S) (a k : Nat) (h : dw_Text_readAll a k = false) : (dc_Text_readAll s) a k = s a k := by
  have h0 := h
  unfold dw_Text_readAll at h
  simp only [Bool.or_eq_false_iff] at h
  obtain ⟨⟨⟨⟨⟨⟨h1, h2⟩, h3⟩, h4⟩, h5⟩, h6⟩, h7⟩ := h
  unfold dc_Text_readAll
  (repeat' split) <;> simp only [(fun s z => sg_upf (s := s) (z := z) h1), (fun s z => sg_upf (s := s) (z := z) h2), (fun s z => sg_upf (s := s) (z := z) h3), (fun s => dr_Plan_clear s a k h4), (fun s z => sg_upf (s := s) (z := z) h5), (fun s => dr_Text_skipBlanks s a k h6), (fun s => dr_Text_readClause s a k h7), (dr_Text_readAll_24 a k h0)]
def dw_C_feed (a k : Nat) : Bool := dw_Text_add a k
theorem dr_C_feed (s : sg_S) (a1 : Int) (a k : Nat) (h : dw_C_feed a k = false) : (dc_C_feed s a1).1 a k = s a k := by
  have h0 := h
  unfold dw_C_feed at h
  have h1 := h
  unfold dc_C_feed
  (repeat' split) <;> simp only [(fun s x0 => dr_Text_add s x0 a k h1)]
def dw_C_city (a k : Nat) : Bool := dw_Text_readAll a k || dw_Plan_copyFrom a k || dw_St_begin a k || dw_Past_forget a k || dw_Im_forget a k || (a == 217 && k == 3) || (a == 221 && k == 2)
theorem dr_C_city (s : sg_S) (a k : Nat) (h : dw_C_city a k = false) : (dc_C_city s).1 a k = s a k := by
  have h0 := h
  unfold dw_C_city at h
  simp only [Bool.or_eq_false_iff] at h
  obtain ⟨⟨⟨⟨⟨⟨h1, h2⟩, h3⟩, h4⟩, h5⟩, h6⟩, h7⟩ := h
  unfold dc_C_city
  (repeat' split) <;> simp only [(fun s => dr_Text_readAll s a k h1), (fun s => dr_Plan_copyFrom s a k h2), (fun s => dr_St_begin s a k h3), (fun s => dr_Past_forget s a k h4), (fun s => dr_Im_forget s a k h5), (fun s z => sg_upf (s := s) (z := z) h6), (fun s z => sg_upf (s := s) (z := z) h7)]
def dw_C_swap (a k : Nat) : Bool := dw_Past_remember a k || dw_St_learn a k
theorem dr_C_swap (s : sg_S) (a1 a2 a3 a4 : Int) (a k : Nat) (h : dw_C_swap a k = false) : (dc_C_swap s a1 a2 a3 a4).1 a k = s a k := by
  have h0 := h
  unfold dw_C_swap at h
  simp only [Bool.or_eq_false_iff] at h
  obtain ⟨h1, h2⟩ := h
  unfold dc_C_swap
  (repeat' split) <;> simp only [(fun s => dr_Past_remember s a k h1), (fun s x0 x1 => dr_St_learn s x0 x1 a k h2)]
def dw_C_pay (a k : Nat) : Bool := dw_Past_remember a k || dw_St_learn a k || (a == 18) || (a == 13 && k == 6)
theorem dr_C_pay (s : sg_S) (a1 a2 a3 : Int) (a k : Nat) (h : dw_C_pay a k = false) : (dc_C_pay s a1 a2 a3).1 a k = s a k := by
  have h0 := h
  unfold dw_C_pay at h
  simp only [Bool.or_eq_false_iff] at h
  obtain ⟨⟨⟨h1, h2⟩, h3⟩, h4⟩ := h
  unfold dc_C_pay
  (repeat' split) <;> simp only [(fun s => dr_Past_remember s a k h1), (fun s x0 x1 => dr_St_learn s x0 x1 a k h2), (fun s l z => sg_upa (s := s) (l := l) (z := z) (k := k) h3), (fun s z => sg_upf (s := s) (z := z) h4)]
theorem dr_C_keep (s : sg_S) (a1 : Int) (a k : Nat) (h : (decide (a < 19) || decide (234 ≤ a)) = true) : (dc_C_keep s a1).1 a k = s a k := by
  rw [Bool.or_eq_true, decide_eq_true_eq, decide_eq_true_eq] at h
  unfold dc_C_keep dc_Past_forget dc_Im_put
  split
  · rfl
  · split
    · rename_i c1 c2
      dsimp only
      rw [sg_na (by omega), sg_na (by omega), sg_na (by omega), sg_copyn (by omega)]
    · rfl
