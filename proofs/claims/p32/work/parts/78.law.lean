theorem mj_one_tblIn {sc : Option (List Int32)} {M : mj_M} {pc len : Nat} {lv : mj_L} {st : List Value} {h : mj_H} {d lo hi off : Int} {offs : Array Int} {x : Int32} {t : Nat} (hd : decode M.2.1 pc = .ok (.tableswitch d lo hi offs, len)) (h1 : ¬ x.toInt < lo) (h2 : ¬ hi < x.toInt) (ho : offs[(x.toInt - lo).toNat]? = some off) (ht : mj_to pc off = some t) : mj_one sc (M, pc, lv, .int x :: st, h) (M, t, lv, st, h) :=
  mj_one_br hd (by simp only [mj_br, ho, ht]; rw [if_neg (fun q => q.elim h1 h2)]; rfl) (fun _ _ => rfl)
theorem lw_ald {sc : List Int32} {M : mj_M} {pc : Nat} {lv : mj_L} {st : List Value} {h : mj_H} {i x : Int32} {q : Nat} (hd : decode M.2.1 pc = .ok (.iaload, 1)) (hi : i.toInt = (q : Int)) (hx : sc[q]? = some x) : mj_one (some sc) (M, pc, lv, .int i :: .retAddr 0 :: st, h) (M, pc + 1, lv, .int x :: st, h) := by
  have h1 : ¬ i < 0 := fun c => by
    have := Int32.lt_iff_toInt_lt.mp c
    rw [show (0 : Int32).toInt = 0 by decide] at this
    omega
  have h2 : i.toNatClampNeg = q := by
    show i.toInt.toNat = q
    omega
  have e : mj_ald 100 (some sc) (.int i :: .retAddr 0 :: st) h = some (.int x :: st) := by
    unfold mj_ald
    dsimp only
    rw [if_pos ⟨rfl, h1⟩, h2, hx]
  refine mj_one_of hd (fun kc k => ?_)
  unfold mj_do
  dsimp only
  rw [if_pos rfl, e]
theorem lw_add {i c : Int32} {q m : Nat} (hi : i.toInt = (q : Int)) (hc : c.toInt = (m : Int)) (hq : q + m < 2147483648) : (i + c).toInt = ((q + m : Nat) : Int) := by
  rw [Int32.toInt_add, hi, hc]
  have := ab_bmod (z := (q : Int) + m) (by omega) (by omega)
  rw [this]
  omega
set_option maxRecDepth 1000000 in
set_option maxHeartbeats 1000000 in
theorem lw_case_0 {sc : List Int32} {k : Nat} {i v : Int32} (hk : k < 100) (hi : i.toInt = ((5 * k : Nat) : Int)) {x1 : Int32} (e1 : sc[5 * k + 1]? = some x1) {h : mj_H} (hI : go_I h) (hv : v.toInt = 0) : ∃ h2, go_I h2 ∧ ∀ r h', mj_runsL sc (mj_law, 1081, [(3, .int i), (2, .ref 234), (1, .ref 0), (0, .retAddr 0)], [], h2) r h' → mj_runsL sc (mj_law, 32, [(3, .int i), (2, .ref 234), (1, .ref 0), (0, .retAddr 0)], [.int v], h) r h' := by
  obtain ⟨r1, r2, h1, h2, ⟨y1, z1⟩, ⟨y2, z2⟩, q1, q2, g2⟩ := go_feed x1 hI
  refine ⟨h2, g2, fun r h' K => ?_⟩
  refine mj_runsL.step (S' := (mj_law, 172, [(3, .int i), (2, .ref 234), (1, .ref 0), (0, .retAddr 0)], [], h)) (mj_one_tblIn mj_dL_32 (by rw [hv]; decide) (by rw [hv]; decide) (by rw [hv]; rfl) rfl) ?_
  refine mj_runsL.step (S' := (mj_law, 173, [(3, .int i), (2, .ref 234), (1, .ref 0), (0, .retAddr 0)], [.ref 0], h)) (mj_one_of mj_dL_172 fun _ _ => rfl) ?_
  refine mj_runsL.step (S' := (mj_law, 174, [(3, .int i), (2, .ref 234), (1, .ref 0), (0, .retAddr 0)], [.retAddr 0, .ref 0], h)) (mj_one_of mj_dL_173 fun _ _ => rfl) ?_
  refine mj_runsL.step (S' := (mj_law, 175, [(3, .int i), (2, .ref 234), (1, .ref 0), (0, .retAddr 0)], [.int i, .retAddr 0, .ref 0], h)) (mj_one_of mj_dL_174 fun _ _ => rfl) ?_
  refine mj_runsL.step (S' := (mj_law, 176, [(3, .int i), (2, .ref 234), (1, .ref 0), (0, .retAddr 0)], [.int (1 : Int32), .int i, .retAddr 0, .ref 0], h)) (mj_one_of mj_dL_175 fun _ _ => rfl) ?_
  refine mj_runsL.step (S' := (mj_law, 177, [(3, .int i), (2, .ref 234), (1, .ref 0), (0, .retAddr 0)], [.int (i + (1 : Int32)), .retAddr 0, .ref 0], h)) (mj_one_of mj_dL_176 fun _ _ => rfl) ?_
  refine mj_runsL.step (S' := (mj_law, 178, [(3, .int i), (2, .ref 234), (1, .ref 0), (0, .retAddr 0)], [.int x1, .ref 0], h)) (lw_ald mj_dL_177 (lw_add (m := 1) hi (by decide) (by omega)) e1) ?_
  refine mj_runsL.call (S1 := (mj_m_10, 0, [(0, .ref 0), (1, .int x1)], [], h)) (mj_calls_v mj_dL_178 rfl rfl rfl z1 rfl rfl ⟨Nat.le_of_ble_eq_true rfl, ⟨Nat.le_of_ble_eq_true rfl, Nat.le_of_ble_eq_true rfl, Nat.le_of_ble_eq_true rfl, Nat.le_of_ble_eq_true rfl, Nat.le_of_ble_eq_true rfl⟩⟩) q1 ?_
  show mj_runsL _ (mj_law, 181, [(3, .int i), (2, .ref 234), (1, .ref 0), (0, .retAddr 0)], [.int r1], h1) _ _
  refine mj_runsL.step (S' := (mj_law, 182, [(3, .int i), (2, .ref 234), (1, .ref 0), (0, .retAddr 0)], [], h1)) (mj_one_of mj_dL_181 fun _ _ => rfl) ?_
  refine mj_runsL.step (S' := (mj_law, 183, [(3, .int i), (2, .ref 234), (1, .ref 0), (0, .retAddr 0)], [.ref 234], h1)) (mj_one_of mj_dL_182 fun _ _ => rfl) ?_
  refine mj_runsL.step (S' := (mj_law, 184, [(3, .int i), (2, .ref 234), (1, .ref 0), (0, .retAddr 0)], [.retAddr 0, .ref 234], h1)) (mj_one_of mj_dL_183 fun _ _ => rfl) ?_
  refine mj_runsL.step (S' := (mj_law, 185, [(3, .int i), (2, .ref 234), (1, .ref 0), (0, .retAddr 0)], [.int i, .retAddr 0, .ref 234], h1)) (mj_one_of mj_dL_184 fun _ _ => rfl) ?_
  refine mj_runsL.step (S' := (mj_law, 186, [(3, .int i), (2, .ref 234), (1, .ref 0), (0, .retAddr 0)], [.int (1 : Int32), .int i, .retAddr 0, .ref 234], h1)) (mj_one_of mj_dL_185 fun _ _ => rfl) ?_
  refine mj_runsL.step (S' := (mj_law, 187, [(3, .int i), (2, .ref 234), (1, .ref 0), (0, .retAddr 0)], [.int (i + (1 : Int32)), .retAddr 0, .ref 234], h1)) (mj_one_of mj_dL_186 fun _ _ => rfl) ?_
  refine mj_runsL.step (S' := (mj_law, 188, [(3, .int i), (2, .ref 234), (1, .ref 0), (0, .retAddr 0)], [.int x1, .ref 234], h1)) (lw_ald mj_dL_187 (lw_add (m := 1) hi (by decide) (by omega)) e1) ?_
  refine mj_runsL.call (S1 := (mj_m_125, 0, [(0, .ref 234), (1, .int x1)], [], h1)) (mj_calls_v mj_dL_188 rfl rfl rfl z2 rfl rfl ⟨Nat.le_of_ble_eq_true rfl, ⟨Nat.le_of_ble_eq_true rfl, Nat.le_of_ble_eq_true rfl, Nat.le_of_ble_eq_true rfl, Nat.le_of_ble_eq_true rfl, Nat.le_of_ble_eq_true rfl⟩⟩) q2 ?_
  show mj_runsL _ (mj_law, 191, [(3, .int i), (2, .ref 234), (1, .ref 0), (0, .retAddr 0)], [.int r2], h2) _ _
  refine mj_runsL.step (S' := (mj_law, 192, [(3, .int i), (2, .ref 234), (1, .ref 0), (0, .retAddr 0)], [], h2)) (mj_one_of mj_dL_191 fun _ _ => rfl) ?_
  refine mj_runsL.step (S' := (mj_law, 1081, [(3, .int i), (2, .ref 234), (1, .ref 0), (0, .retAddr 0)], [], h2)) (mj_one_of mj_dL_192 fun _ _ => rfl) ?_
  exact K
set_option maxRecDepth 1000000 in
set_option maxHeartbeats 1000000 in
theorem lw_case_1 {sc : List Int32} {k : Nat} {i v : Int32} (hk : k < 100) (hi : i.toInt = ((5 * k : Nat) : Int)) {h : mj_H} (hI : go_I h) (hv : v.toInt = 1) : ∃ h2, go_I h2 ∧ ∀ r h', mj_runsL sc (mj_law, 1081, [(3, .int i), (2, .ref 234), (1, .ref 0), (0, .retAddr 0)], [], h2) r h' → mj_runsL sc (mj_law, 32, [(3, .int i), (2, .ref 234), (1, .ref 0), (0, .retAddr 0)], [.int v], h) r h' := by
  obtain ⟨r1, r2, h1, h2, ⟨y1, z1⟩, ⟨y2, z2⟩, q1, q2, g2⟩ := go_city hI
  refine ⟨h2, g2, fun r h' K => ?_⟩
  refine mj_runsL.step (S' := (mj_law, 195, [(3, .int i), (2, .ref 234), (1, .ref 0), (0, .retAddr 0)], [], h)) (mj_one_tblIn mj_dL_32 (by rw [hv]; decide) (by rw [hv]; decide) (by rw [hv]; rfl) rfl) ?_
  refine mj_runsL.step (S' := (mj_law, 196, [(3, .int i), (2, .ref 234), (1, .ref 0), (0, .retAddr 0)], [.ref 0], h)) (mj_one_of mj_dL_195 fun _ _ => rfl) ?_
  refine mj_runsL.call (S1 := (mj_m_12, 0, [(0, .ref 0)], [], h)) (mj_calls_v mj_dL_196 rfl rfl rfl z1 rfl rfl ⟨Nat.le_of_ble_eq_true rfl, ⟨Nat.le_of_ble_eq_true rfl, Nat.le_of_ble_eq_true rfl, Nat.le_of_ble_eq_true rfl, Nat.le_of_ble_eq_true rfl, Nat.le_of_ble_eq_true rfl⟩⟩) q1 ?_
  show mj_runsL _ (mj_law, 199, [(3, .int i), (2, .ref 234), (1, .ref 0), (0, .retAddr 0)], [.int r1], h1) _ _
  refine mj_runsL.step (S' := (mj_law, 200, [(3, .int i), (2, .ref 234), (1, .ref 0), (0, .retAddr 0)], [], h1)) (mj_one_of mj_dL_199 fun _ _ => rfl) ?_
  refine mj_runsL.step (S' := (mj_law, 201, [(3, .int i), (2, .ref 234), (1, .ref 0), (0, .retAddr 0)], [.ref 234], h1)) (mj_one_of mj_dL_200 fun _ _ => rfl) ?_
  refine mj_runsL.call (S1 := (mj_m_127, 0, [(0, .ref 234)], [], h1)) (mj_calls_v mj_dL_201 rfl rfl rfl z2 rfl rfl ⟨Nat.le_of_ble_eq_true rfl, ⟨Nat.le_of_ble_eq_true rfl, Nat.le_of_ble_eq_true rfl, Nat.le_of_ble_eq_true rfl, Nat.le_of_ble_eq_true rfl, Nat.le_of_ble_eq_true rfl⟩⟩) q2 ?_
  show mj_runsL _ (mj_law, 204, [(3, .int i), (2, .ref 234), (1, .ref 0), (0, .retAddr 0)], [.int r2], h2) _ _
  refine mj_runsL.step (S' := (mj_law, 205, [(3, .int i), (2, .ref 234), (1, .ref 0), (0, .retAddr 0)], [], h2)) (mj_one_of mj_dL_204 fun _ _ => rfl) ?_
  refine mj_runsL.step (S' := (mj_law, 1081, [(3, .int i), (2, .ref 234), (1, .ref 0), (0, .retAddr 0)], [], h2)) (mj_one_of mj_dL_205 fun _ _ => rfl) ?_
  exact K
set_option maxRecDepth 1000000 in
set_option maxHeartbeats 1000000 in
theorem lw_case_2 {sc : List Int32} {k : Nat} {i v : Int32} (hk : k < 100) (hi : i.toInt = ((5 * k : Nat) : Int)) {h : mj_H} (hI : go_I h) (hv : v.toInt = 2) : ∃ h2, go_I h2 ∧ ∀ r h', mj_runsL sc (mj_law, 1081, [(3, .int i), (2, .ref 234), (1, .ref 0), (0, .retAddr 0)], [], h2) r h' → mj_runsL sc (mj_law, 32, [(3, .int i), (2, .ref 234), (1, .ref 0), (0, .retAddr 0)], [.int v], h) r h' := by
  obtain ⟨r1, r2, h1, h2, ⟨y1, z1⟩, ⟨y2, z2⟩, q1, q2, g2⟩ := go_fault hI
  refine ⟨h2, g2, fun r h' K => ?_⟩
  refine mj_runsL.step (S' := (mj_law, 208, [(3, .int i), (2, .ref 234), (1, .ref 0), (0, .retAddr 0)], [], h)) (mj_one_tblIn mj_dL_32 (by rw [hv]; decide) (by rw [hv]; decide) (by rw [hv]; rfl) rfl) ?_
  refine mj_runsL.step (S' := (mj_law, 209, [(3, .int i), (2, .ref 234), (1, .ref 0), (0, .retAddr 0)], [.ref 0], h)) (mj_one_of mj_dL_208 fun _ _ => rfl) ?_
  refine mj_runsL.call (S1 := (mj_m_33, 0, [(0, .ref 0)], [], h)) (mj_calls_v mj_dL_209 rfl rfl rfl z1 rfl rfl ⟨Nat.le_of_ble_eq_true rfl, ⟨Nat.le_of_ble_eq_true rfl, Nat.le_of_ble_eq_true rfl, Nat.le_of_ble_eq_true rfl, Nat.le_of_ble_eq_true rfl, Nat.le_of_ble_eq_true rfl⟩⟩) q1 ?_
  show mj_runsL _ (mj_law, 212, [(3, .int i), (2, .ref 234), (1, .ref 0), (0, .retAddr 0)], [.int r1], h1) _ _
  refine mj_runsL.step (S' := (mj_law, 213, [(3, .int i), (2, .ref 234), (1, .ref 0), (0, .retAddr 0)], [], h1)) (mj_one_of mj_dL_212 fun _ _ => rfl) ?_
  refine mj_runsL.step (S' := (mj_law, 214, [(3, .int i), (2, .ref 234), (1, .ref 0), (0, .retAddr 0)], [.ref 234], h1)) (mj_one_of mj_dL_213 fun _ _ => rfl) ?_
  refine mj_runsL.call (S1 := (mj_m_137, 0, [(0, .ref 234)], [], h1)) (mj_calls_v mj_dL_214 rfl rfl rfl z2 rfl rfl ⟨Nat.le_of_ble_eq_true rfl, ⟨Nat.le_of_ble_eq_true rfl, Nat.le_of_ble_eq_true rfl, Nat.le_of_ble_eq_true rfl, Nat.le_of_ble_eq_true rfl, Nat.le_of_ble_eq_true rfl⟩⟩) q2 ?_
  show mj_runsL _ (mj_law, 217, [(3, .int i), (2, .ref 234), (1, .ref 0), (0, .retAddr 0)], [.int r2], h2) _ _
  refine mj_runsL.step (S' := (mj_law, 218, [(3, .int i), (2, .ref 234), (1, .ref 0), (0, .retAddr 0)], [], h2)) (mj_one_of mj_dL_217 fun _ _ => rfl) ?_
  refine mj_runsL.step (S' := (mj_law, 1081, [(3, .int i), (2, .ref 234), (1, .ref 0), (0, .retAddr 0)], [], h2)) (mj_one_of mj_dL_218 fun _ _ => rfl) ?_
  exact K
set_option maxRecDepth 1000000 in
set_option maxHeartbeats 1000000 in
theorem lw_case_3 {sc : List Int32} {k : Nat} {i v : Int32} (hk : k < 100) (hi : i.toInt = ((5 * k : Nat) : Int)) {x1 : Int32} (e1 : sc[5 * k + 1]? = some x1) {h : mj_H} (hI : go_I h) (hv : v.toInt = 3) : ∃ h2, go_I h2 ∧ ∀ r h', mj_runsL sc (mj_law, 1081, [(3, .int i), (2, .ref 234), (1, .ref 0), (0, .retAddr 0)], [], h2) r h' → mj_runsL sc (mj_law, 32, [(3, .int i), (2, .ref 234), (1, .ref 0), (0, .retAddr 0)], [.int v], h) r h' := by
  obtain ⟨r1, r2, h1, h2, ⟨y1, z1⟩, ⟨y2, z2⟩, q1, q2, g2⟩ := go_told x1 hI
  refine ⟨h2, g2, fun r h' K => ?_⟩
  refine mj_runsL.step (S' := (mj_law, 221, [(3, .int i), (2, .ref 234), (1, .ref 0), (0, .retAddr 0)], [], h)) (mj_one_tblIn mj_dL_32 (by rw [hv]; decide) (by rw [hv]; decide) (by rw [hv]; rfl) rfl) ?_
  refine mj_runsL.step (S' := (mj_law, 222, [(3, .int i), (2, .ref 234), (1, .ref 0), (0, .retAddr 0)], [.ref 0], h)) (mj_one_of mj_dL_221 fun _ _ => rfl) ?_
  refine mj_runsL.step (S' := (mj_law, 223, [(3, .int i), (2, .ref 234), (1, .ref 0), (0, .retAddr 0)], [.retAddr 0, .ref 0], h)) (mj_one_of mj_dL_222 fun _ _ => rfl) ?_
  refine mj_runsL.step (S' := (mj_law, 224, [(3, .int i), (2, .ref 234), (1, .ref 0), (0, .retAddr 0)], [.int i, .retAddr 0, .ref 0], h)) (mj_one_of mj_dL_223 fun _ _ => rfl) ?_
  refine mj_runsL.step (S' := (mj_law, 225, [(3, .int i), (2, .ref 234), (1, .ref 0), (0, .retAddr 0)], [.int (1 : Int32), .int i, .retAddr 0, .ref 0], h)) (mj_one_of mj_dL_224 fun _ _ => rfl) ?_
  refine mj_runsL.step (S' := (mj_law, 226, [(3, .int i), (2, .ref 234), (1, .ref 0), (0, .retAddr 0)], [.int (i + (1 : Int32)), .retAddr 0, .ref 0], h)) (mj_one_of mj_dL_225 fun _ _ => rfl) ?_
  refine mj_runsL.step (S' := (mj_law, 227, [(3, .int i), (2, .ref 234), (1, .ref 0), (0, .retAddr 0)], [.int x1, .ref 0], h)) (lw_ald mj_dL_226 (lw_add (m := 1) hi (by decide) (by omega)) e1) ?_
  refine mj_runsL.call (S1 := (mj_m_34, 0, [(0, .ref 0), (1, .int x1)], [], h)) (mj_calls_v mj_dL_227 rfl rfl rfl z1 rfl rfl ⟨Nat.le_of_ble_eq_true rfl, ⟨Nat.le_of_ble_eq_true rfl, Nat.le_of_ble_eq_true rfl, Nat.le_of_ble_eq_true rfl, Nat.le_of_ble_eq_true rfl, Nat.le_of_ble_eq_true rfl⟩⟩) q1 ?_
  show mj_runsL _ (mj_law, 230, [(3, .int i), (2, .ref 234), (1, .ref 0), (0, .retAddr 0)], [.int r1], h1) _ _
  refine mj_runsL.step (S' := (mj_law, 231, [(3, .int i), (2, .ref 234), (1, .ref 0), (0, .retAddr 0)], [], h1)) (mj_one_of mj_dL_230 fun _ _ => rfl) ?_
  refine mj_runsL.step (S' := (mj_law, 232, [(3, .int i), (2, .ref 234), (1, .ref 0), (0, .retAddr 0)], [.ref 234], h1)) (mj_one_of mj_dL_231 fun _ _ => rfl) ?_
  refine mj_runsL.step (S' := (mj_law, 233, [(3, .int i), (2, .ref 234), (1, .ref 0), (0, .retAddr 0)], [.retAddr 0, .ref 234], h1)) (mj_one_of mj_dL_232 fun _ _ => rfl) ?_
  refine mj_runsL.step (S' := (mj_law, 234, [(3, .int i), (2, .ref 234), (1, .ref 0), (0, .retAddr 0)], [.int i, .retAddr 0, .ref 234], h1)) (mj_one_of mj_dL_233 fun _ _ => rfl) ?_
  refine mj_runsL.step (S' := (mj_law, 235, [(3, .int i), (2, .ref 234), (1, .ref 0), (0, .retAddr 0)], [.int (1 : Int32), .int i, .retAddr 0, .ref 234], h1)) (mj_one_of mj_dL_234 fun _ _ => rfl) ?_
  refine mj_runsL.step (S' := (mj_law, 236, [(3, .int i), (2, .ref 234), (1, .ref 0), (0, .retAddr 0)], [.int (i + (1 : Int32)), .retAddr 0, .ref 234], h1)) (mj_one_of mj_dL_235 fun _ _ => rfl) ?_
  refine mj_runsL.step (S' := (mj_law, 237, [(3, .int i), (2, .ref 234), (1, .ref 0), (0, .retAddr 0)], [.int x1, .ref 234], h1)) (lw_ald mj_dL_236 (lw_add (m := 1) hi (by decide) (by omega)) e1) ?_
  refine mj_runsL.call (S1 := (mj_m_138, 0, [(0, .ref 234), (1, .int x1)], [], h1)) (mj_calls_v mj_dL_237 rfl rfl rfl z2 rfl rfl ⟨Nat.le_of_ble_eq_true rfl, ⟨Nat.le_of_ble_eq_true rfl, Nat.le_of_ble_eq_true rfl, Nat.le_of_ble_eq_true rfl, Nat.le_of_ble_eq_true rfl, Nat.le_of_ble_eq_true rfl⟩⟩) q2 ?_
  show mj_runsL _ (mj_law, 240, [(3, .int i), (2, .ref 234), (1, .ref 0), (0, .retAddr 0)], [.int r2], h2) _ _
  refine mj_runsL.step (S' := (mj_law, 241, [(3, .int i), (2, .ref 234), (1, .ref 0), (0, .retAddr 0)], [], h2)) (mj_one_of mj_dL_240 fun _ _ => rfl) ?_
  refine mj_runsL.step (S' := (mj_law, 1081, [(3, .int i), (2, .ref 234), (1, .ref 0), (0, .retAddr 0)], [], h2)) (mj_one_of mj_dL_241 fun _ _ => rfl) ?_
  exact K
set_option maxRecDepth 1000000 in
set_option maxHeartbeats 1000000 in
theorem lw_case_4 {sc : List Int32} {k : Nat} {i v : Int32} (hk : k < 100) (hi : i.toInt = ((5 * k : Nat) : Int)) {x1 : Int32} (e1 : sc[5 * k + 1]? = some x1) {x2 : Int32} (e2 : sc[5 * k + 2]? = some x2) {h : mj_H} (hI : go_I h) (hv : v.toInt = 4) : ∃ h2, go_I h2 ∧ ∀ r h', mj_runsL sc (mj_law, 1081, [(3, .int i), (2, .ref 234), (1, .ref 0), (0, .retAddr 0)], [], h2) r h' → mj_runsL sc (mj_law, 32, [(3, .int i), (2, .ref 234), (1, .ref 0), (0, .retAddr 0)], [.int v], h) r h' := by
  obtain ⟨r1, r2, h1, h2, ⟨y1, z1⟩, ⟨y2, z2⟩, q1, q2, g2⟩ := go_house x1 x2 hI
  refine ⟨h2, g2, fun r h' K => ?_⟩
  refine mj_runsL.step (S' := (mj_law, 244, [(3, .int i), (2, .ref 234), (1, .ref 0), (0, .retAddr 0)], [], h)) (mj_one_tblIn mj_dL_32 (by rw [hv]; decide) (by rw [hv]; decide) (by rw [hv]; rfl) rfl) ?_
  refine mj_runsL.step (S' := (mj_law, 245, [(3, .int i), (2, .ref 234), (1, .ref 0), (0, .retAddr 0)], [.ref 0], h)) (mj_one_of mj_dL_244 fun _ _ => rfl) ?_
  refine mj_runsL.step (S' := (mj_law, 246, [(3, .int i), (2, .ref 234), (1, .ref 0), (0, .retAddr 0)], [.retAddr 0, .ref 0], h)) (mj_one_of mj_dL_245 fun _ _ => rfl) ?_
  refine mj_runsL.step (S' := (mj_law, 247, [(3, .int i), (2, .ref 234), (1, .ref 0), (0, .retAddr 0)], [.int i, .retAddr 0, .ref 0], h)) (mj_one_of mj_dL_246 fun _ _ => rfl) ?_
  refine mj_runsL.step (S' := (mj_law, 248, [(3, .int i), (2, .ref 234), (1, .ref 0), (0, .retAddr 0)], [.int (1 : Int32), .int i, .retAddr 0, .ref 0], h)) (mj_one_of mj_dL_247 fun _ _ => rfl) ?_
  refine mj_runsL.step (S' := (mj_law, 249, [(3, .int i), (2, .ref 234), (1, .ref 0), (0, .retAddr 0)], [.int (i + (1 : Int32)), .retAddr 0, .ref 0], h)) (mj_one_of mj_dL_248 fun _ _ => rfl) ?_
  refine mj_runsL.step (S' := (mj_law, 250, [(3, .int i), (2, .ref 234), (1, .ref 0), (0, .retAddr 0)], [.int x1, .ref 0], h)) (lw_ald mj_dL_249 (lw_add (m := 1) hi (by decide) (by omega)) e1) ?_
  refine mj_runsL.step (S' := (mj_law, 251, [(3, .int i), (2, .ref 234), (1, .ref 0), (0, .retAddr 0)], [.retAddr 0, .int x1, .ref 0], h)) (mj_one_of mj_dL_250 fun _ _ => rfl) ?_
  refine mj_runsL.step (S' := (mj_law, 252, [(3, .int i), (2, .ref 234), (1, .ref 0), (0, .retAddr 0)], [.int i, .retAddr 0, .int x1, .ref 0], h)) (mj_one_of mj_dL_251 fun _ _ => rfl) ?_
  refine mj_runsL.step (S' := (mj_law, 253, [(3, .int i), (2, .ref 234), (1, .ref 0), (0, .retAddr 0)], [.int (2 : Int32), .int i, .retAddr 0, .int x1, .ref 0], h)) (mj_one_of mj_dL_252 fun _ _ => rfl) ?_
  refine mj_runsL.step (S' := (mj_law, 254, [(3, .int i), (2, .ref 234), (1, .ref 0), (0, .retAddr 0)], [.int (i + (2 : Int32)), .retAddr 0, .int x1, .ref 0], h)) (mj_one_of mj_dL_253 fun _ _ => rfl) ?_
  refine mj_runsL.step (S' := (mj_law, 255, [(3, .int i), (2, .ref 234), (1, .ref 0), (0, .retAddr 0)], [.int x2, .int x1, .ref 0], h)) (lw_ald mj_dL_254 (lw_add (m := 2) hi (by decide) (by omega)) e2) ?_
  refine mj_runsL.call (S1 := (mj_m_38, 0, [(0, .ref 0), (1, .int x1), (2, .int x2)], [], h)) (mj_calls_v mj_dL_255 rfl rfl rfl z1 rfl rfl ⟨Nat.le_of_ble_eq_true rfl, ⟨Nat.le_of_ble_eq_true rfl, Nat.le_of_ble_eq_true rfl, Nat.le_of_ble_eq_true rfl, Nat.le_of_ble_eq_true rfl, Nat.le_of_ble_eq_true rfl⟩⟩) q1 ?_
  show mj_runsL _ (mj_law, 258, [(3, .int i), (2, .ref 234), (1, .ref 0), (0, .retAddr 0)], [.int r1], h1) _ _
  refine mj_runsL.step (S' := (mj_law, 259, [(3, .int i), (2, .ref 234), (1, .ref 0), (0, .retAddr 0)], [], h1)) (mj_one_of mj_dL_258 fun _ _ => rfl) ?_
  refine mj_runsL.step (S' := (mj_law, 260, [(3, .int i), (2, .ref 234), (1, .ref 0), (0, .retAddr 0)], [.ref 234], h1)) (mj_one_of mj_dL_259 fun _ _ => rfl) ?_
  refine mj_runsL.step (S' := (mj_law, 261, [(3, .int i), (2, .ref 234), (1, .ref 0), (0, .retAddr 0)], [.retAddr 0, .ref 234], h1)) (mj_one_of mj_dL_260 fun _ _ => rfl) ?_
  refine mj_runsL.step (S' := (mj_law, 262, [(3, .int i), (2, .ref 234), (1, .ref 0), (0, .retAddr 0)], [.int i, .retAddr 0, .ref 234], h1)) (mj_one_of mj_dL_261 fun _ _ => rfl) ?_
  refine mj_runsL.step (S' := (mj_law, 263, [(3, .int i), (2, .ref 234), (1, .ref 0), (0, .retAddr 0)], [.int (1 : Int32), .int i, .retAddr 0, .ref 234], h1)) (mj_one_of mj_dL_262 fun _ _ => rfl) ?_
  refine mj_runsL.step (S' := (mj_law, 264, [(3, .int i), (2, .ref 234), (1, .ref 0), (0, .retAddr 0)], [.int (i + (1 : Int32)), .retAddr 0, .ref 234], h1)) (mj_one_of mj_dL_263 fun _ _ => rfl) ?_
  refine mj_runsL.step (S' := (mj_law, 265, [(3, .int i), (2, .ref 234), (1, .ref 0), (0, .retAddr 0)], [.int x1, .ref 234], h1)) (lw_ald mj_dL_264 (lw_add (m := 1) hi (by decide) (by omega)) e1) ?_
  refine mj_runsL.step (S' := (mj_law, 266, [(3, .int i), (2, .ref 234), (1, .ref 0), (0, .retAddr 0)], [.retAddr 0, .int x1, .ref 234], h1)) (mj_one_of mj_dL_265 fun _ _ => rfl) ?_
  refine mj_runsL.step (S' := (mj_law, 267, [(3, .int i), (2, .ref 234), (1, .ref 0), (0, .retAddr 0)], [.int i, .retAddr 0, .int x1, .ref 234], h1)) (mj_one_of mj_dL_266 fun _ _ => rfl) ?_
  refine mj_runsL.step (S' := (mj_law, 268, [(3, .int i), (2, .ref 234), (1, .ref 0), (0, .retAddr 0)], [.int (2 : Int32), .int i, .retAddr 0, .int x1, .ref 234], h1)) (mj_one_of mj_dL_267 fun _ _ => rfl) ?_
  refine mj_runsL.step (S' := (mj_law, 269, [(3, .int i), (2, .ref 234), (1, .ref 0), (0, .retAddr 0)], [.int (i + (2 : Int32)), .retAddr 0, .int x1, .ref 234], h1)) (mj_one_of mj_dL_268 fun _ _ => rfl) ?_
  refine mj_runsL.step (S' := (mj_law, 270, [(3, .int i), (2, .ref 234), (1, .ref 0), (0, .retAddr 0)], [.int x2, .int x1, .ref 234], h1)) (lw_ald mj_dL_269 (lw_add (m := 2) hi (by decide) (by omega)) e2) ?_
  refine mj_runsL.call (S1 := (mj_m_140, 0, [(0, .ref 234), (1, .int x1), (2, .int x2)], [], h1)) (mj_calls_v mj_dL_270 rfl rfl rfl z2 rfl rfl ⟨Nat.le_of_ble_eq_true rfl, ⟨Nat.le_of_ble_eq_true rfl, Nat.le_of_ble_eq_true rfl, Nat.le_of_ble_eq_true rfl, Nat.le_of_ble_eq_true rfl, Nat.le_of_ble_eq_true rfl⟩⟩) q2 ?_
  show mj_runsL _ (mj_law, 273, [(3, .int i), (2, .ref 234), (1, .ref 0), (0, .retAddr 0)], [.int r2], h2) _ _
  refine mj_runsL.step (S' := (mj_law, 274, [(3, .int i), (2, .ref 234), (1, .ref 0), (0, .retAddr 0)], [], h2)) (mj_one_of mj_dL_273 fun _ _ => rfl) ?_
  refine mj_runsL.step (S' := (mj_law, 1081, [(3, .int i), (2, .ref 234), (1, .ref 0), (0, .retAddr 0)], [], h2)) (mj_one_of mj_dL_274 fun _ _ => rfl) ?_
  exact K
set_option maxRecDepth 1000000 in
set_option maxHeartbeats 1000000 in
theorem lw_case_5 {sc : List Int32} {k : Nat} {i v : Int32} (hk : k < 100) (hi : i.toInt = ((5 * k : Nat) : Int)) {x1 : Int32} (e1 : sc[5 * k + 1]? = some x1) {x2 : Int32} (e2 : sc[5 * k + 2]? = some x2) {h : mj_H} (hI : go_I h) (hv : v.toInt = 5) : ∃ h2, go_I h2 ∧ ∀ r h', mj_runsL sc (mj_law, 1081, [(3, .int i), (2, .ref 234), (1, .ref 0), (0, .retAddr 0)], [], h2) r h' → mj_runsL sc (mj_law, 32, [(3, .int i), (2, .ref 234), (1, .ref 0), (0, .retAddr 0)], [.int v], h) r h' := by
  obtain ⟨r1, r2, h1, h2, ⟨y1, z1⟩, ⟨y2, z2⟩, q1, q2, g2⟩ := go_layer x1 x2 hI
  refine ⟨h2, g2, fun r h' K => ?_⟩
  refine mj_runsL.step (S' := (mj_law, 277, [(3, .int i), (2, .ref 234), (1, .ref 0), (0, .retAddr 0)], [], h)) (mj_one_tblIn mj_dL_32 (by rw [hv]; decide) (by rw [hv]; decide) (by rw [hv]; rfl) rfl) ?_
  refine mj_runsL.step (S' := (mj_law, 278, [(3, .int i), (2, .ref 234), (1, .ref 0), (0, .retAddr 0)], [.ref 0], h)) (mj_one_of mj_dL_277 fun _ _ => rfl) ?_
  refine mj_runsL.step (S' := (mj_law, 279, [(3, .int i), (2, .ref 234), (1, .ref 0), (0, .retAddr 0)], [.retAddr 0, .ref 0], h)) (mj_one_of mj_dL_278 fun _ _ => rfl) ?_
  refine mj_runsL.step (S' := (mj_law, 280, [(3, .int i), (2, .ref 234), (1, .ref 0), (0, .retAddr 0)], [.int i, .retAddr 0, .ref 0], h)) (mj_one_of mj_dL_279 fun _ _ => rfl) ?_
  refine mj_runsL.step (S' := (mj_law, 281, [(3, .int i), (2, .ref 234), (1, .ref 0), (0, .retAddr 0)], [.int (1 : Int32), .int i, .retAddr 0, .ref 0], h)) (mj_one_of mj_dL_280 fun _ _ => rfl) ?_
  refine mj_runsL.step (S' := (mj_law, 282, [(3, .int i), (2, .ref 234), (1, .ref 0), (0, .retAddr 0)], [.int (i + (1 : Int32)), .retAddr 0, .ref 0], h)) (mj_one_of mj_dL_281 fun _ _ => rfl) ?_
  refine mj_runsL.step (S' := (mj_law, 283, [(3, .int i), (2, .ref 234), (1, .ref 0), (0, .retAddr 0)], [.int x1, .ref 0], h)) (lw_ald mj_dL_282 (lw_add (m := 1) hi (by decide) (by omega)) e1) ?_
  refine mj_runsL.step (S' := (mj_law, 284, [(3, .int i), (2, .ref 234), (1, .ref 0), (0, .retAddr 0)], [.retAddr 0, .int x1, .ref 0], h)) (mj_one_of mj_dL_283 fun _ _ => rfl) ?_
  refine mj_runsL.step (S' := (mj_law, 285, [(3, .int i), (2, .ref 234), (1, .ref 0), (0, .retAddr 0)], [.int i, .retAddr 0, .int x1, .ref 0], h)) (mj_one_of mj_dL_284 fun _ _ => rfl) ?_
  refine mj_runsL.step (S' := (mj_law, 286, [(3, .int i), (2, .ref 234), (1, .ref 0), (0, .retAddr 0)], [.int (2 : Int32), .int i, .retAddr 0, .int x1, .ref 0], h)) (mj_one_of mj_dL_285 fun _ _ => rfl) ?_
  refine mj_runsL.step (S' := (mj_law, 287, [(3, .int i), (2, .ref 234), (1, .ref 0), (0, .retAddr 0)], [.int (i + (2 : Int32)), .retAddr 0, .int x1, .ref 0], h)) (mj_one_of mj_dL_286 fun _ _ => rfl) ?_
  refine mj_runsL.step (S' := (mj_law, 288, [(3, .int i), (2, .ref 234), (1, .ref 0), (0, .retAddr 0)], [.int x2, .int x1, .ref 0], h)) (lw_ald mj_dL_287 (lw_add (m := 2) hi (by decide) (by omega)) e2) ?_
  refine mj_runsL.call (S1 := (mj_m_41, 0, [(0, .ref 0), (1, .int x1), (2, .int x2)], [], h)) (mj_calls_v mj_dL_288 rfl rfl rfl z1 rfl rfl ⟨Nat.le_of_ble_eq_true rfl, ⟨Nat.le_of_ble_eq_true rfl, Nat.le_of_ble_eq_true rfl, Nat.le_of_ble_eq_true rfl, Nat.le_of_ble_eq_true rfl, Nat.le_of_ble_eq_true rfl⟩⟩) q1 ?_
  show mj_runsL _ (mj_law, 291, [(3, .int i), (2, .ref 234), (1, .ref 0), (0, .retAddr 0)], [.int r1], h1) _ _
  refine mj_runsL.step (S' := (mj_law, 292, [(3, .int i), (2, .ref 234), (1, .ref 0), (0, .retAddr 0)], [], h1)) (mj_one_of mj_dL_291 fun _ _ => rfl) ?_
  refine mj_runsL.step (S' := (mj_law, 293, [(3, .int i), (2, .ref 234), (1, .ref 0), (0, .retAddr 0)], [.ref 234], h1)) (mj_one_of mj_dL_292 fun _ _ => rfl) ?_
  refine mj_runsL.step (S' := (mj_law, 294, [(3, .int i), (2, .ref 234), (1, .ref 0), (0, .retAddr 0)], [.retAddr 0, .ref 234], h1)) (mj_one_of mj_dL_293 fun _ _ => rfl) ?_
  refine mj_runsL.step (S' := (mj_law, 295, [(3, .int i), (2, .ref 234), (1, .ref 0), (0, .retAddr 0)], [.int i, .retAddr 0, .ref 234], h1)) (mj_one_of mj_dL_294 fun _ _ => rfl) ?_
  refine mj_runsL.step (S' := (mj_law, 296, [(3, .int i), (2, .ref 234), (1, .ref 0), (0, .retAddr 0)], [.int (1 : Int32), .int i, .retAddr 0, .ref 234], h1)) (mj_one_of mj_dL_295 fun _ _ => rfl) ?_
  refine mj_runsL.step (S' := (mj_law, 297, [(3, .int i), (2, .ref 234), (1, .ref 0), (0, .retAddr 0)], [.int (i + (1 : Int32)), .retAddr 0, .ref 234], h1)) (mj_one_of mj_dL_296 fun _ _ => rfl) ?_
  refine mj_runsL.step (S' := (mj_law, 298, [(3, .int i), (2, .ref 234), (1, .ref 0), (0, .retAddr 0)], [.int x1, .ref 234], h1)) (lw_ald mj_dL_297 (lw_add (m := 1) hi (by decide) (by omega)) e1) ?_
  refine mj_runsL.step (S' := (mj_law, 299, [(3, .int i), (2, .ref 234), (1, .ref 0), (0, .retAddr 0)], [.retAddr 0, .int x1, .ref 234], h1)) (mj_one_of mj_dL_298 fun _ _ => rfl) ?_
  refine mj_runsL.step (S' := (mj_law, 300, [(3, .int i), (2, .ref 234), (1, .ref 0), (0, .retAddr 0)], [.int i, .retAddr 0, .int x1, .ref 234], h1)) (mj_one_of mj_dL_299 fun _ _ => rfl) ?_
  refine mj_runsL.step (S' := (mj_law, 301, [(3, .int i), (2, .ref 234), (1, .ref 0), (0, .retAddr 0)], [.int (2 : Int32), .int i, .retAddr 0, .int x1, .ref 234], h1)) (mj_one_of mj_dL_300 fun _ _ => rfl) ?_
  refine mj_runsL.step (S' := (mj_law, 302, [(3, .int i), (2, .ref 234), (1, .ref 0), (0, .retAddr 0)], [.int (i + (2 : Int32)), .retAddr 0, .int x1, .ref 234], h1)) (mj_one_of mj_dL_301 fun _ _ => rfl) ?_
  refine mj_runsL.step (S' := (mj_law, 303, [(3, .int i), (2, .ref 234), (1, .ref 0), (0, .retAddr 0)], [.int x2, .int x1, .ref 234], h1)) (lw_ald mj_dL_302 (lw_add (m := 2) hi (by decide) (by omega)) e2) ?_
  refine mj_runsL.call (S1 := (mj_m_143, 0, [(0, .ref 234), (1, .int x1), (2, .int x2)], [], h1)) (mj_calls_v mj_dL_303 rfl rfl rfl z2 rfl rfl ⟨Nat.le_of_ble_eq_true rfl, ⟨Nat.le_of_ble_eq_true rfl, Nat.le_of_ble_eq_true rfl, Nat.le_of_ble_eq_true rfl, Nat.le_of_ble_eq_true rfl, Nat.le_of_ble_eq_true rfl⟩⟩) q2 ?_
  show mj_runsL _ (mj_law, 306, [(3, .int i), (2, .ref 234), (1, .ref 0), (0, .retAddr 0)], [.int r2], h2) _ _
  refine mj_runsL.step (S' := (mj_law, 307, [(3, .int i), (2, .ref 234), (1, .ref 0), (0, .retAddr 0)], [], h2)) (mj_one_of mj_dL_306 fun _ _ => rfl) ?_
  refine mj_runsL.step (S' := (mj_law, 1081, [(3, .int i), (2, .ref 234), (1, .ref 0), (0, .retAddr 0)], [], h2)) (mj_one_of mj_dL_307 fun _ _ => rfl) ?_
  exact K
set_option maxRecDepth 1000000 in
set_option maxHeartbeats 1000000 in
theorem lw_case_6 {sc : List Int32} {k : Nat} {i v : Int32} (hk : k < 100) (hi : i.toInt = ((5 * k : Nat) : Int)) {x1 : Int32} (e1 : sc[5 * k + 1]? = some x1) {x2 : Int32} (e2 : sc[5 * k + 2]? = some x2) {h : mj_H} (hI : go_I h) (hv : v.toInt = 6) : ∃ h2, go_I h2 ∧ ∀ r h', mj_runsL sc (mj_law, 1081, [(3, .int i), (2, .ref 234), (1, .ref 0), (0, .retAddr 0)], [], h2) r h' → mj_runsL sc (mj_law, 32, [(3, .int i), (2, .ref 234), (1, .ref 0), (0, .retAddr 0)], [.int v], h) r h' := by
  obtain ⟨r1, r2, h1, h2, ⟨y1, z1⟩, ⟨y2, z2⟩, q1, q2, g2⟩ := go_sweep x1 x2 hI
  refine ⟨h2, g2, fun r h' K => ?_⟩
  refine mj_runsL.step (S' := (mj_law, 310, [(3, .int i), (2, .ref 234), (1, .ref 0), (0, .retAddr 0)], [], h)) (mj_one_tblIn mj_dL_32 (by rw [hv]; decide) (by rw [hv]; decide) (by rw [hv]; rfl) rfl) ?_
  refine mj_runsL.step (S' := (mj_law, 311, [(3, .int i), (2, .ref 234), (1, .ref 0), (0, .retAddr 0)], [.ref 0], h)) (mj_one_of mj_dL_310 fun _ _ => rfl) ?_
  refine mj_runsL.step (S' := (mj_law, 312, [(3, .int i), (2, .ref 234), (1, .ref 0), (0, .retAddr 0)], [.retAddr 0, .ref 0], h)) (mj_one_of mj_dL_311 fun _ _ => rfl) ?_
  refine mj_runsL.step (S' := (mj_law, 313, [(3, .int i), (2, .ref 234), (1, .ref 0), (0, .retAddr 0)], [.int i, .retAddr 0, .ref 0], h)) (mj_one_of mj_dL_312 fun _ _ => rfl) ?_
  refine mj_runsL.step (S' := (mj_law, 314, [(3, .int i), (2, .ref 234), (1, .ref 0), (0, .retAddr 0)], [.int (1 : Int32), .int i, .retAddr 0, .ref 0], h)) (mj_one_of mj_dL_313 fun _ _ => rfl) ?_
  refine mj_runsL.step (S' := (mj_law, 315, [(3, .int i), (2, .ref 234), (1, .ref 0), (0, .retAddr 0)], [.int (i + (1 : Int32)), .retAddr 0, .ref 0], h)) (mj_one_of mj_dL_314 fun _ _ => rfl) ?_
  refine mj_runsL.step (S' := (mj_law, 316, [(3, .int i), (2, .ref 234), (1, .ref 0), (0, .retAddr 0)], [.int x1, .ref 0], h)) (lw_ald mj_dL_315 (lw_add (m := 1) hi (by decide) (by omega)) e1) ?_
  refine mj_runsL.step (S' := (mj_law, 317, [(3, .int i), (2, .ref 234), (1, .ref 0), (0, .retAddr 0)], [.retAddr 0, .int x1, .ref 0], h)) (mj_one_of mj_dL_316 fun _ _ => rfl) ?_
  refine mj_runsL.step (S' := (mj_law, 318, [(3, .int i), (2, .ref 234), (1, .ref 0), (0, .retAddr 0)], [.int i, .retAddr 0, .int x1, .ref 0], h)) (mj_one_of mj_dL_317 fun _ _ => rfl) ?_
  refine mj_runsL.step (S' := (mj_law, 319, [(3, .int i), (2, .ref 234), (1, .ref 0), (0, .retAddr 0)], [.int (2 : Int32), .int i, .retAddr 0, .int x1, .ref 0], h)) (mj_one_of mj_dL_318 fun _ _ => rfl) ?_
  refine mj_runsL.step (S' := (mj_law, 320, [(3, .int i), (2, .ref 234), (1, .ref 0), (0, .retAddr 0)], [.int (i + (2 : Int32)), .retAddr 0, .int x1, .ref 0], h)) (mj_one_of mj_dL_319 fun _ _ => rfl) ?_
  refine mj_runsL.step (S' := (mj_law, 321, [(3, .int i), (2, .ref 234), (1, .ref 0), (0, .retAddr 0)], [.int x2, .int x1, .ref 0], h)) (lw_ald mj_dL_320 (lw_add (m := 2) hi (by decide) (by omega)) e2) ?_
  refine mj_runsL.call (S1 := (mj_m_43, 0, [(0, .ref 0), (1, .int x1), (2, .int x2)], [], h)) (mj_calls_v mj_dL_321 rfl rfl rfl z1 rfl rfl ⟨Nat.le_of_ble_eq_true rfl, ⟨Nat.le_of_ble_eq_true rfl, Nat.le_of_ble_eq_true rfl, Nat.le_of_ble_eq_true rfl, Nat.le_of_ble_eq_true rfl, Nat.le_of_ble_eq_true rfl⟩⟩) q1 ?_
  show mj_runsL _ (mj_law, 324, [(3, .int i), (2, .ref 234), (1, .ref 0), (0, .retAddr 0)], [.int r1], h1) _ _
  refine mj_runsL.step (S' := (mj_law, 325, [(3, .int i), (2, .ref 234), (1, .ref 0), (0, .retAddr 0)], [], h1)) (mj_one_of mj_dL_324 fun _ _ => rfl) ?_
  refine mj_runsL.step (S' := (mj_law, 326, [(3, .int i), (2, .ref 234), (1, .ref 0), (0, .retAddr 0)], [.ref 234], h1)) (mj_one_of mj_dL_325 fun _ _ => rfl) ?_
  refine mj_runsL.step (S' := (mj_law, 327, [(3, .int i), (2, .ref 234), (1, .ref 0), (0, .retAddr 0)], [.retAddr 0, .ref 234], h1)) (mj_one_of mj_dL_326 fun _ _ => rfl) ?_
  refine mj_runsL.step (S' := (mj_law, 328, [(3, .int i), (2, .ref 234), (1, .ref 0), (0, .retAddr 0)], [.int i, .retAddr 0, .ref 234], h1)) (mj_one_of mj_dL_327 fun _ _ => rfl) ?_
  refine mj_runsL.step (S' := (mj_law, 329, [(3, .int i), (2, .ref 234), (1, .ref 0), (0, .retAddr 0)], [.int (1 : Int32), .int i, .retAddr 0, .ref 234], h1)) (mj_one_of mj_dL_328 fun _ _ => rfl) ?_
  refine mj_runsL.step (S' := (mj_law, 330, [(3, .int i), (2, .ref 234), (1, .ref 0), (0, .retAddr 0)], [.int (i + (1 : Int32)), .retAddr 0, .ref 234], h1)) (mj_one_of mj_dL_329 fun _ _ => rfl) ?_
  refine mj_runsL.step (S' := (mj_law, 331, [(3, .int i), (2, .ref 234), (1, .ref 0), (0, .retAddr 0)], [.int x1, .ref 234], h1)) (lw_ald mj_dL_330 (lw_add (m := 1) hi (by decide) (by omega)) e1) ?_
  refine mj_runsL.step (S' := (mj_law, 332, [(3, .int i), (2, .ref 234), (1, .ref 0), (0, .retAddr 0)], [.retAddr 0, .int x1, .ref 234], h1)) (mj_one_of mj_dL_331 fun _ _ => rfl) ?_
  refine mj_runsL.step (S' := (mj_law, 333, [(3, .int i), (2, .ref 234), (1, .ref 0), (0, .retAddr 0)], [.int i, .retAddr 0, .int x1, .ref 234], h1)) (mj_one_of mj_dL_332 fun _ _ => rfl) ?_
  refine mj_runsL.step (S' := (mj_law, 334, [(3, .int i), (2, .ref 234), (1, .ref 0), (0, .retAddr 0)], [.int (2 : Int32), .int i, .retAddr 0, .int x1, .ref 234], h1)) (mj_one_of mj_dL_333 fun _ _ => rfl) ?_
  refine mj_runsL.step (S' := (mj_law, 335, [(3, .int i), (2, .ref 234), (1, .ref 0), (0, .retAddr 0)], [.int (i + (2 : Int32)), .retAddr 0, .int x1, .ref 234], h1)) (mj_one_of mj_dL_334 fun _ _ => rfl) ?_
  refine mj_runsL.step (S' := (mj_law, 336, [(3, .int i), (2, .ref 234), (1, .ref 0), (0, .retAddr 0)], [.int x2, .int x1, .ref 234], h1)) (lw_ald mj_dL_335 (lw_add (m := 2) hi (by decide) (by omega)) e2) ?_
  refine mj_runsL.call (S1 := (mj_m_145, 0, [(0, .ref 234), (1, .int x1), (2, .int x2)], [], h1)) (mj_calls_v mj_dL_336 rfl rfl rfl z2 rfl rfl ⟨Nat.le_of_ble_eq_true rfl, ⟨Nat.le_of_ble_eq_true rfl, Nat.le_of_ble_eq_true rfl, Nat.le_of_ble_eq_true rfl, Nat.le_of_ble_eq_true rfl, Nat.le_of_ble_eq_true rfl⟩⟩) q2 ?_
  show mj_runsL _ (mj_law, 339, [(3, .int i), (2, .ref 234), (1, .ref 0), (0, .retAddr 0)], [.int r2], h2) _ _
  refine mj_runsL.step (S' := (mj_law, 340, [(3, .int i), (2, .ref 234), (1, .ref 0), (0, .retAddr 0)], [], h2)) (mj_one_of mj_dL_339 fun _ _ => rfl) ?_
  refine mj_runsL.step (S' := (mj_law, 1081, [(3, .int i), (2, .ref 234), (1, .ref 0), (0, .retAddr 0)], [], h2)) (mj_one_of mj_dL_340 fun _ _ => rfl) ?_
  exact K
set_option maxRecDepth 1000000 in
set_option maxHeartbeats 1000000 in
theorem lw_case_7 {sc : List Int32} {k : Nat} {i v : Int32} (hk : k < 100) (hi : i.toInt = ((5 * k : Nat) : Int)) {x1 : Int32} (e1 : sc[5 * k + 1]? = some x1) {h : mj_H} (hI : go_I h) (hv : v.toInt = 7) : ∃ h2, go_I h2 ∧ ∀ r h', mj_runsL sc (mj_law, 1081, [(3, .int i), (2, .ref 234), (1, .ref 0), (0, .retAddr 0)], [], h2) r h' → mj_runsL sc (mj_law, 32, [(3, .int i), (2, .ref 234), (1, .ref 0), (0, .retAddr 0)], [.int v], h) r h' := by
  obtain ⟨r1, r2, h1, h2, ⟨y1, z1⟩, ⟨y2, z2⟩, q1, q2, g2⟩ := go_month x1 hI
  refine ⟨h2, g2, fun r h' K => ?_⟩
  refine mj_runsL.step (S' := (mj_law, 343, [(3, .int i), (2, .ref 234), (1, .ref 0), (0, .retAddr 0)], [], h)) (mj_one_tblIn mj_dL_32 (by rw [hv]; decide) (by rw [hv]; decide) (by rw [hv]; rfl) rfl) ?_
  refine mj_runsL.step (S' := (mj_law, 344, [(3, .int i), (2, .ref 234), (1, .ref 0), (0, .retAddr 0)], [.ref 0], h)) (mj_one_of mj_dL_343 fun _ _ => rfl) ?_
  refine mj_runsL.step (S' := (mj_law, 345, [(3, .int i), (2, .ref 234), (1, .ref 0), (0, .retAddr 0)], [.retAddr 0, .ref 0], h)) (mj_one_of mj_dL_344 fun _ _ => rfl) ?_
  refine mj_runsL.step (S' := (mj_law, 346, [(3, .int i), (2, .ref 234), (1, .ref 0), (0, .retAddr 0)], [.int i, .retAddr 0, .ref 0], h)) (mj_one_of mj_dL_345 fun _ _ => rfl) ?_
  refine mj_runsL.step (S' := (mj_law, 347, [(3, .int i), (2, .ref 234), (1, .ref 0), (0, .retAddr 0)], [.int (1 : Int32), .int i, .retAddr 0, .ref 0], h)) (mj_one_of mj_dL_346 fun _ _ => rfl) ?_
  refine mj_runsL.step (S' := (mj_law, 348, [(3, .int i), (2, .ref 234), (1, .ref 0), (0, .retAddr 0)], [.int (i + (1 : Int32)), .retAddr 0, .ref 0], h)) (mj_one_of mj_dL_347 fun _ _ => rfl) ?_
  refine mj_runsL.step (S' := (mj_law, 349, [(3, .int i), (2, .ref 234), (1, .ref 0), (0, .retAddr 0)], [.int x1, .ref 0], h)) (lw_ald mj_dL_348 (lw_add (m := 1) hi (by decide) (by omega)) e1) ?_
  refine mj_runsL.call (S1 := (mj_m_45, 0, [(0, .ref 0), (1, .int x1)], [], h)) (mj_calls_v mj_dL_349 rfl rfl rfl z1 rfl rfl ⟨Nat.le_of_ble_eq_true rfl, ⟨Nat.le_of_ble_eq_true rfl, Nat.le_of_ble_eq_true rfl, Nat.le_of_ble_eq_true rfl, Nat.le_of_ble_eq_true rfl, Nat.le_of_ble_eq_true rfl⟩⟩) q1 ?_
  show mj_runsL _ (mj_law, 352, [(3, .int i), (2, .ref 234), (1, .ref 0), (0, .retAddr 0)], [.int r1], h1) _ _
  refine mj_runsL.step (S' := (mj_law, 353, [(3, .int i), (2, .ref 234), (1, .ref 0), (0, .retAddr 0)], [], h1)) (mj_one_of mj_dL_352 fun _ _ => rfl) ?_
  refine mj_runsL.step (S' := (mj_law, 354, [(3, .int i), (2, .ref 234), (1, .ref 0), (0, .retAddr 0)], [.ref 234], h1)) (mj_one_of mj_dL_353 fun _ _ => rfl) ?_
  refine mj_runsL.step (S' := (mj_law, 355, [(3, .int i), (2, .ref 234), (1, .ref 0), (0, .retAddr 0)], [.retAddr 0, .ref 234], h1)) (mj_one_of mj_dL_354 fun _ _ => rfl) ?_
  refine mj_runsL.step (S' := (mj_law, 356, [(3, .int i), (2, .ref 234), (1, .ref 0), (0, .retAddr 0)], [.int i, .retAddr 0, .ref 234], h1)) (mj_one_of mj_dL_355 fun _ _ => rfl) ?_
  refine mj_runsL.step (S' := (mj_law, 357, [(3, .int i), (2, .ref 234), (1, .ref 0), (0, .retAddr 0)], [.int (1 : Int32), .int i, .retAddr 0, .ref 234], h1)) (mj_one_of mj_dL_356 fun _ _ => rfl) ?_
  refine mj_runsL.step (S' := (mj_law, 358, [(3, .int i), (2, .ref 234), (1, .ref 0), (0, .retAddr 0)], [.int (i + (1 : Int32)), .retAddr 0, .ref 234], h1)) (mj_one_of mj_dL_357 fun _ _ => rfl) ?_
  refine mj_runsL.step (S' := (mj_law, 359, [(3, .int i), (2, .ref 234), (1, .ref 0), (0, .retAddr 0)], [.int x1, .ref 234], h1)) (lw_ald mj_dL_358 (lw_add (m := 1) hi (by decide) (by omega)) e1) ?_
  refine mj_runsL.call (S1 := (mj_m_147, 0, [(0, .ref 234), (1, .int x1)], [], h1)) (mj_calls_v mj_dL_359 rfl rfl rfl z2 rfl rfl ⟨Nat.le_of_ble_eq_true rfl, ⟨Nat.le_of_ble_eq_true rfl, Nat.le_of_ble_eq_true rfl, Nat.le_of_ble_eq_true rfl, Nat.le_of_ble_eq_true rfl, Nat.le_of_ble_eq_true rfl⟩⟩) q2 ?_
  show mj_runsL _ (mj_law, 362, [(3, .int i), (2, .ref 234), (1, .ref 0), (0, .retAddr 0)], [.int r2], h2) _ _
  refine mj_runsL.step (S' := (mj_law, 363, [(3, .int i), (2, .ref 234), (1, .ref 0), (0, .retAddr 0)], [], h2)) (mj_one_of mj_dL_362 fun _ _ => rfl) ?_
  refine mj_runsL.step (S' := (mj_law, 1081, [(3, .int i), (2, .ref 234), (1, .ref 0), (0, .retAddr 0)], [], h2)) (mj_one_of mj_dL_363 fun _ _ => rfl) ?_
  exact K
set_option maxRecDepth 1000000 in
set_option maxHeartbeats 1000000 in
theorem lw_case_8 {sc : List Int32} {k : Nat} {i v : Int32} (hk : k < 100) (hi : i.toInt = ((5 * k : Nat) : Int)) {x1 : Int32} (e1 : sc[5 * k + 1]? = some x1) {x2 : Int32} (e2 : sc[5 * k + 2]? = some x2) {h : mj_H} (hI : go_I h) (hv : v.toInt = 8) : ∃ h2, go_I h2 ∧ ∀ r h', mj_runsL sc (mj_law, 1081, [(3, .int i), (2, .ref 234), (1, .ref 0), (0, .retAddr 0)], [], h2) r h' → mj_runsL sc (mj_law, 32, [(3, .int i), (2, .ref 234), (1, .ref 0), (0, .retAddr 0)], [.int v], h) r h' := by
  obtain ⟨r1, r2, h1, h2, ⟨y1, z1⟩, ⟨y2, z2⟩, q1, q2, g2⟩ := go_fire x1 x2 hI
  refine ⟨h2, g2, fun r h' K => ?_⟩
  refine mj_runsL.step (S' := (mj_law, 366, [(3, .int i), (2, .ref 234), (1, .ref 0), (0, .retAddr 0)], [], h)) (mj_one_tblIn mj_dL_32 (by rw [hv]; decide) (by rw [hv]; decide) (by rw [hv]; rfl) rfl) ?_
  refine mj_runsL.step (S' := (mj_law, 367, [(3, .int i), (2, .ref 234), (1, .ref 0), (0, .retAddr 0)], [.ref 0], h)) (mj_one_of mj_dL_366 fun _ _ => rfl) ?_
  refine mj_runsL.step (S' := (mj_law, 368, [(3, .int i), (2, .ref 234), (1, .ref 0), (0, .retAddr 0)], [.retAddr 0, .ref 0], h)) (mj_one_of mj_dL_367 fun _ _ => rfl) ?_
  refine mj_runsL.step (S' := (mj_law, 369, [(3, .int i), (2, .ref 234), (1, .ref 0), (0, .retAddr 0)], [.int i, .retAddr 0, .ref 0], h)) (mj_one_of mj_dL_368 fun _ _ => rfl) ?_
  refine mj_runsL.step (S' := (mj_law, 370, [(3, .int i), (2, .ref 234), (1, .ref 0), (0, .retAddr 0)], [.int (1 : Int32), .int i, .retAddr 0, .ref 0], h)) (mj_one_of mj_dL_369 fun _ _ => rfl) ?_
  refine mj_runsL.step (S' := (mj_law, 371, [(3, .int i), (2, .ref 234), (1, .ref 0), (0, .retAddr 0)], [.int (i + (1 : Int32)), .retAddr 0, .ref 0], h)) (mj_one_of mj_dL_370 fun _ _ => rfl) ?_
  refine mj_runsL.step (S' := (mj_law, 372, [(3, .int i), (2, .ref 234), (1, .ref 0), (0, .retAddr 0)], [.int x1, .ref 0], h)) (lw_ald mj_dL_371 (lw_add (m := 1) hi (by decide) (by omega)) e1) ?_
  refine mj_runsL.step (S' := (mj_law, 373, [(3, .int i), (2, .ref 234), (1, .ref 0), (0, .retAddr 0)], [.retAddr 0, .int x1, .ref 0], h)) (mj_one_of mj_dL_372 fun _ _ => rfl) ?_
  refine mj_runsL.step (S' := (mj_law, 374, [(3, .int i), (2, .ref 234), (1, .ref 0), (0, .retAddr 0)], [.int i, .retAddr 0, .int x1, .ref 0], h)) (mj_one_of mj_dL_373 fun _ _ => rfl) ?_
  refine mj_runsL.step (S' := (mj_law, 375, [(3, .int i), (2, .ref 234), (1, .ref 0), (0, .retAddr 0)], [.int (2 : Int32), .int i, .retAddr 0, .int x1, .ref 0], h)) (mj_one_of mj_dL_374 fun _ _ => rfl) ?_
  refine mj_runsL.step (S' := (mj_law, 376, [(3, .int i), (2, .ref 234), (1, .ref 0), (0, .retAddr 0)], [.int (i + (2 : Int32)), .retAddr 0, .int x1, .ref 0], h)) (mj_one_of mj_dL_375 fun _ _ => rfl) ?_
  refine mj_runsL.step (S' := (mj_law, 377, [(3, .int i), (2, .ref 234), (1, .ref 0), (0, .retAddr 0)], [.int x2, .int x1, .ref 0], h)) (lw_ald mj_dL_376 (lw_add (m := 2) hi (by decide) (by omega)) e2) ?_
  refine mj_runsL.call (S1 := (mj_m_54, 0, [(0, .ref 0), (1, .int x1), (2, .int x2)], [], h)) (mj_calls_v mj_dL_377 rfl rfl rfl z1 rfl rfl ⟨Nat.le_of_ble_eq_true rfl, ⟨Nat.le_of_ble_eq_true rfl, Nat.le_of_ble_eq_true rfl, Nat.le_of_ble_eq_true rfl, Nat.le_of_ble_eq_true rfl, Nat.le_of_ble_eq_true rfl⟩⟩) q1 ?_
  show mj_runsL _ (mj_law, 380, [(3, .int i), (2, .ref 234), (1, .ref 0), (0, .retAddr 0)], [.int r1], h1) _ _
  refine mj_runsL.step (S' := (mj_law, 381, [(3, .int i), (2, .ref 234), (1, .ref 0), (0, .retAddr 0)], [], h1)) (mj_one_of mj_dL_380 fun _ _ => rfl) ?_
  refine mj_runsL.step (S' := (mj_law, 382, [(3, .int i), (2, .ref 234), (1, .ref 0), (0, .retAddr 0)], [.ref 234], h1)) (mj_one_of mj_dL_381 fun _ _ => rfl) ?_
  refine mj_runsL.step (S' := (mj_law, 383, [(3, .int i), (2, .ref 234), (1, .ref 0), (0, .retAddr 0)], [.retAddr 0, .ref 234], h1)) (mj_one_of mj_dL_382 fun _ _ => rfl) ?_
  refine mj_runsL.step (S' := (mj_law, 384, [(3, .int i), (2, .ref 234), (1, .ref 0), (0, .retAddr 0)], [.int i, .retAddr 0, .ref 234], h1)) (mj_one_of mj_dL_383 fun _ _ => rfl) ?_
  refine mj_runsL.step (S' := (mj_law, 385, [(3, .int i), (2, .ref 234), (1, .ref 0), (0, .retAddr 0)], [.int (1 : Int32), .int i, .retAddr 0, .ref 234], h1)) (mj_one_of mj_dL_384 fun _ _ => rfl) ?_
  refine mj_runsL.step (S' := (mj_law, 386, [(3, .int i), (2, .ref 234), (1, .ref 0), (0, .retAddr 0)], [.int (i + (1 : Int32)), .retAddr 0, .ref 234], h1)) (mj_one_of mj_dL_385 fun _ _ => rfl) ?_
  refine mj_runsL.step (S' := (mj_law, 387, [(3, .int i), (2, .ref 234), (1, .ref 0), (0, .retAddr 0)], [.int x1, .ref 234], h1)) (lw_ald mj_dL_386 (lw_add (m := 1) hi (by decide) (by omega)) e1) ?_
  refine mj_runsL.step (S' := (mj_law, 388, [(3, .int i), (2, .ref 234), (1, .ref 0), (0, .retAddr 0)], [.retAddr 0, .int x1, .ref 234], h1)) (mj_one_of mj_dL_387 fun _ _ => rfl) ?_
  refine mj_runsL.step (S' := (mj_law, 389, [(3, .int i), (2, .ref 234), (1, .ref 0), (0, .retAddr 0)], [.int i, .retAddr 0, .int x1, .ref 234], h1)) (mj_one_of mj_dL_388 fun _ _ => rfl) ?_
  refine mj_runsL.step (S' := (mj_law, 390, [(3, .int i), (2, .ref 234), (1, .ref 0), (0, .retAddr 0)], [.int (2 : Int32), .int i, .retAddr 0, .int x1, .ref 234], h1)) (mj_one_of mj_dL_389 fun _ _ => rfl) ?_
  refine mj_runsL.step (S' := (mj_law, 391, [(3, .int i), (2, .ref 234), (1, .ref 0), (0, .retAddr 0)], [.int (i + (2 : Int32)), .retAddr 0, .int x1, .ref 234], h1)) (mj_one_of mj_dL_390 fun _ _ => rfl) ?_
  refine mj_runsL.step (S' := (mj_law, 392, [(3, .int i), (2, .ref 234), (1, .ref 0), (0, .retAddr 0)], [.int x2, .int x1, .ref 234], h1)) (lw_ald mj_dL_391 (lw_add (m := 2) hi (by decide) (by omega)) e2) ?_
  refine mj_runsL.call (S1 := (mj_m_153, 0, [(0, .ref 234), (1, .int x1), (2, .int x2)], [], h1)) (mj_calls_v mj_dL_392 rfl rfl rfl z2 rfl rfl ⟨Nat.le_of_ble_eq_true rfl, ⟨Nat.le_of_ble_eq_true rfl, Nat.le_of_ble_eq_true rfl, Nat.le_of_ble_eq_true rfl, Nat.le_of_ble_eq_true rfl, Nat.le_of_ble_eq_true rfl⟩⟩) q2 ?_
  show mj_runsL _ (mj_law, 395, [(3, .int i), (2, .ref 234), (1, .ref 0), (0, .retAddr 0)], [.int r2], h2) _ _
  refine mj_runsL.step (S' := (mj_law, 396, [(3, .int i), (2, .ref 234), (1, .ref 0), (0, .retAddr 0)], [], h2)) (mj_one_of mj_dL_395 fun _ _ => rfl) ?_
  refine mj_runsL.step (S' := (mj_law, 1081, [(3, .int i), (2, .ref 234), (1, .ref 0), (0, .retAddr 0)], [], h2)) (mj_one_of mj_dL_396 fun _ _ => rfl) ?_
  exact K
set_option maxRecDepth 1000000 in
set_option maxHeartbeats 1000000 in
theorem lw_case_9 {sc : List Int32} {k : Nat} {i v : Int32} (hk : k < 100) (hi : i.toInt = ((5 * k : Nat) : Int)) {h : mj_H} (hI : go_I h) (hv : v.toInt = 9) : ∃ h2, go_I h2 ∧ ∀ r h', mj_runsL sc (mj_law, 1081, [(3, .int i), (2, .ref 234), (1, .ref 0), (0, .retAddr 0)], [], h2) r h' → mj_runsL sc (mj_law, 32, [(3, .int i), (2, .ref 234), (1, .ref 0), (0, .retAddr 0)], [.int v], h) r h' := by
  obtain ⟨r1, r2, h1, h2, ⟨y1, z1⟩, ⟨y2, z2⟩, q1, q2, g2⟩ := go_rain hI
  refine ⟨h2, g2, fun r h' K => ?_⟩
  refine mj_runsL.step (S' := (mj_law, 399, [(3, .int i), (2, .ref 234), (1, .ref 0), (0, .retAddr 0)], [], h)) (mj_one_tblIn mj_dL_32 (by rw [hv]; decide) (by rw [hv]; decide) (by rw [hv]; rfl) rfl) ?_
  refine mj_runsL.step (S' := (mj_law, 400, [(3, .int i), (2, .ref 234), (1, .ref 0), (0, .retAddr 0)], [.ref 0], h)) (mj_one_of mj_dL_399 fun _ _ => rfl) ?_
  refine mj_runsL.call (S1 := (mj_m_55, 0, [(0, .ref 0)], [], h)) (mj_calls_v mj_dL_400 rfl rfl rfl z1 rfl rfl ⟨Nat.le_of_ble_eq_true rfl, ⟨Nat.le_of_ble_eq_true rfl, Nat.le_of_ble_eq_true rfl, Nat.le_of_ble_eq_true rfl, Nat.le_of_ble_eq_true rfl, Nat.le_of_ble_eq_true rfl⟩⟩) q1 ?_
  show mj_runsL _ (mj_law, 403, [(3, .int i), (2, .ref 234), (1, .ref 0), (0, .retAddr 0)], [.int r1], h1) _ _
  refine mj_runsL.step (S' := (mj_law, 404, [(3, .int i), (2, .ref 234), (1, .ref 0), (0, .retAddr 0)], [], h1)) (mj_one_of mj_dL_403 fun _ _ => rfl) ?_
  refine mj_runsL.step (S' := (mj_law, 405, [(3, .int i), (2, .ref 234), (1, .ref 0), (0, .retAddr 0)], [.ref 234], h1)) (mj_one_of mj_dL_404 fun _ _ => rfl) ?_
  refine mj_runsL.call (S1 := (mj_m_154, 0, [(0, .ref 234)], [], h1)) (mj_calls_v mj_dL_405 rfl rfl rfl z2 rfl rfl ⟨Nat.le_of_ble_eq_true rfl, ⟨Nat.le_of_ble_eq_true rfl, Nat.le_of_ble_eq_true rfl, Nat.le_of_ble_eq_true rfl, Nat.le_of_ble_eq_true rfl, Nat.le_of_ble_eq_true rfl⟩⟩) q2 ?_
  show mj_runsL _ (mj_law, 408, [(3, .int i), (2, .ref 234), (1, .ref 0), (0, .retAddr 0)], [.int r2], h2) _ _
  refine mj_runsL.step (S' := (mj_law, 409, [(3, .int i), (2, .ref 234), (1, .ref 0), (0, .retAddr 0)], [], h2)) (mj_one_of mj_dL_408 fun _ _ => rfl) ?_
  refine mj_runsL.step (S' := (mj_law, 1081, [(3, .int i), (2, .ref 234), (1, .ref 0), (0, .retAddr 0)], [], h2)) (mj_one_of mj_dL_409 fun _ _ => rfl) ?_
  exact K
set_option maxRecDepth 1000000 in
set_option maxHeartbeats 1000000 in
theorem lw_case_10 {sc : List Int32} {k : Nat} {i v : Int32} (hk : k < 100) (hi : i.toInt = ((5 * k : Nat) : Int)) {x1 : Int32} (e1 : sc[5 * k + 1]? = some x1) {h : mj_H} (hI : go_I h) (hv : v.toInt = 10) : ∃ h2, go_I h2 ∧ ∀ r h', mj_runsL sc (mj_law, 1081, [(3, .int i), (2, .ref 234), (1, .ref 0), (0, .retAddr 0)], [], h2) r h' → mj_runsL sc (mj_law, 32, [(3, .int i), (2, .ref 234), (1, .ref 0), (0, .retAddr 0)], [.int v], h) r h' := by
  obtain ⟨r1, r2, h1, h2, ⟨y1, z1⟩, ⟨y2, z2⟩, q1, q2, g2⟩ := go_swept x1 hI
  refine ⟨h2, g2, fun r h' K => ?_⟩
  refine mj_runsL.step (S' := (mj_law, 412, [(3, .int i), (2, .ref 234), (1, .ref 0), (0, .retAddr 0)], [], h)) (mj_one_tblIn mj_dL_32 (by rw [hv]; decide) (by rw [hv]; decide) (by rw [hv]; rfl) rfl) ?_
  refine mj_runsL.step (S' := (mj_law, 413, [(3, .int i), (2, .ref 234), (1, .ref 0), (0, .retAddr 0)], [.ref 0], h)) (mj_one_of mj_dL_412 fun _ _ => rfl) ?_
  refine mj_runsL.step (S' := (mj_law, 414, [(3, .int i), (2, .ref 234), (1, .ref 0), (0, .retAddr 0)], [.retAddr 0, .ref 0], h)) (mj_one_of mj_dL_413 fun _ _ => rfl) ?_
  refine mj_runsL.step (S' := (mj_law, 415, [(3, .int i), (2, .ref 234), (1, .ref 0), (0, .retAddr 0)], [.int i, .retAddr 0, .ref 0], h)) (mj_one_of mj_dL_414 fun _ _ => rfl) ?_
  refine mj_runsL.step (S' := (mj_law, 416, [(3, .int i), (2, .ref 234), (1, .ref 0), (0, .retAddr 0)], [.int (1 : Int32), .int i, .retAddr 0, .ref 0], h)) (mj_one_of mj_dL_415 fun _ _ => rfl) ?_
  refine mj_runsL.step (S' := (mj_law, 417, [(3, .int i), (2, .ref 234), (1, .ref 0), (0, .retAddr 0)], [.int (i + (1 : Int32)), .retAddr 0, .ref 0], h)) (mj_one_of mj_dL_416 fun _ _ => rfl) ?_
  refine mj_runsL.step (S' := (mj_law, 418, [(3, .int i), (2, .ref 234), (1, .ref 0), (0, .retAddr 0)], [.int x1, .ref 0], h)) (lw_ald mj_dL_417 (lw_add (m := 1) hi (by decide) (by omega)) e1) ?_
  refine mj_runsL.call (S1 := (mj_m_58, 0, [(0, .ref 0), (1, .int x1)], [], h)) (mj_calls_v mj_dL_418 rfl rfl rfl z1 rfl rfl ⟨Nat.le_of_ble_eq_true rfl, ⟨Nat.le_of_ble_eq_true rfl, Nat.le_of_ble_eq_true rfl, Nat.le_of_ble_eq_true rfl, Nat.le_of_ble_eq_true rfl, Nat.le_of_ble_eq_true rfl⟩⟩) q1 ?_
  show mj_runsL _ (mj_law, 421, [(3, .int i), (2, .ref 234), (1, .ref 0), (0, .retAddr 0)], [.int r1], h1) _ _
  refine mj_runsL.step (S' := (mj_law, 422, [(3, .int i), (2, .ref 234), (1, .ref 0), (0, .retAddr 0)], [], h1)) (mj_one_of mj_dL_421 fun _ _ => rfl) ?_
  refine mj_runsL.step (S' := (mj_law, 423, [(3, .int i), (2, .ref 234), (1, .ref 0), (0, .retAddr 0)], [.ref 234], h1)) (mj_one_of mj_dL_422 fun _ _ => rfl) ?_
  refine mj_runsL.step (S' := (mj_law, 424, [(3, .int i), (2, .ref 234), (1, .ref 0), (0, .retAddr 0)], [.retAddr 0, .ref 234], h1)) (mj_one_of mj_dL_423 fun _ _ => rfl) ?_
  refine mj_runsL.step (S' := (mj_law, 425, [(3, .int i), (2, .ref 234), (1, .ref 0), (0, .retAddr 0)], [.int i, .retAddr 0, .ref 234], h1)) (mj_one_of mj_dL_424 fun _ _ => rfl) ?_
  refine mj_runsL.step (S' := (mj_law, 426, [(3, .int i), (2, .ref 234), (1, .ref 0), (0, .retAddr 0)], [.int (1 : Int32), .int i, .retAddr 0, .ref 234], h1)) (mj_one_of mj_dL_425 fun _ _ => rfl) ?_
  refine mj_runsL.step (S' := (mj_law, 427, [(3, .int i), (2, .ref 234), (1, .ref 0), (0, .retAddr 0)], [.int (i + (1 : Int32)), .retAddr 0, .ref 234], h1)) (mj_one_of mj_dL_426 fun _ _ => rfl) ?_
  refine mj_runsL.step (S' := (mj_law, 428, [(3, .int i), (2, .ref 234), (1, .ref 0), (0, .retAddr 0)], [.int x1, .ref 234], h1)) (lw_ald mj_dL_427 (lw_add (m := 1) hi (by decide) (by omega)) e1) ?_
  refine mj_runsL.call (S1 := (mj_m_156, 0, [(0, .ref 234), (1, .int x1)], [], h1)) (mj_calls_v mj_dL_428 rfl rfl rfl z2 rfl rfl ⟨Nat.le_of_ble_eq_true rfl, ⟨Nat.le_of_ble_eq_true rfl, Nat.le_of_ble_eq_true rfl, Nat.le_of_ble_eq_true rfl, Nat.le_of_ble_eq_true rfl, Nat.le_of_ble_eq_true rfl⟩⟩) q2 ?_
  show mj_runsL _ (mj_law, 431, [(3, .int i), (2, .ref 234), (1, .ref 0), (0, .retAddr 0)], [.int r2], h2) _ _
  refine mj_runsL.step (S' := (mj_law, 432, [(3, .int i), (2, .ref 234), (1, .ref 0), (0, .retAddr 0)], [], h2)) (mj_one_of mj_dL_431 fun _ _ => rfl) ?_
  refine mj_runsL.step (S' := (mj_law, 1081, [(3, .int i), (2, .ref 234), (1, .ref 0), (0, .retAddr 0)], [], h2)) (mj_one_of mj_dL_432 fun _ _ => rfl) ?_
  exact K
set_option maxRecDepth 1000000 in
set_option maxHeartbeats 1000000 in
theorem lw_case_11 {sc : List Int32} {k : Nat} {i v : Int32} (hk : k < 100) (hi : i.toInt = ((5 * k : Nat) : Int)) {x1 : Int32} (e1 : sc[5 * k + 1]? = some x1) {x2 : Int32} (e2 : sc[5 * k + 2]? = some x2) {h : mj_H} (hI : go_I h) (hv : v.toInt = 11) : ∃ h2, go_I h2 ∧ ∀ r h', mj_runsL sc (mj_law, 1081, [(3, .int i), (2, .ref 234), (1, .ref 0), (0, .retAddr 0)], [], h2) r h' → mj_runsL sc (mj_law, 32, [(3, .int i), (2, .ref 234), (1, .ref 0), (0, .retAddr 0)], [.int v], h) r h' := by
  obtain ⟨r1, r2, h1, h2, ⟨y1, z1⟩, ⟨y2, z2⟩, q1, q2, g2⟩ := go_run x1 x2 hI
  refine ⟨h2, g2, fun r h' K => ?_⟩
  refine mj_runsL.step (S' := (mj_law, 435, [(3, .int i), (2, .ref 234), (1, .ref 0), (0, .retAddr 0)], [], h)) (mj_one_tblIn mj_dL_32 (by rw [hv]; decide) (by rw [hv]; decide) (by rw [hv]; rfl) rfl) ?_
  refine mj_runsL.step (S' := (mj_law, 436, [(3, .int i), (2, .ref 234), (1, .ref 0), (0, .retAddr 0)], [.ref 0], h)) (mj_one_of mj_dL_435 fun _ _ => rfl) ?_
  refine mj_runsL.step (S' := (mj_law, 437, [(3, .int i), (2, .ref 234), (1, .ref 0), (0, .retAddr 0)], [.retAddr 0, .ref 0], h)) (mj_one_of mj_dL_436 fun _ _ => rfl) ?_
  refine mj_runsL.step (S' := (mj_law, 438, [(3, .int i), (2, .ref 234), (1, .ref 0), (0, .retAddr 0)], [.int i, .retAddr 0, .ref 0], h)) (mj_one_of mj_dL_437 fun _ _ => rfl) ?_
  refine mj_runsL.step (S' := (mj_law, 439, [(3, .int i), (2, .ref 234), (1, .ref 0), (0, .retAddr 0)], [.int (1 : Int32), .int i, .retAddr 0, .ref 0], h)) (mj_one_of mj_dL_438 fun _ _ => rfl) ?_
  refine mj_runsL.step (S' := (mj_law, 440, [(3, .int i), (2, .ref 234), (1, .ref 0), (0, .retAddr 0)], [.int (i + (1 : Int32)), .retAddr 0, .ref 0], h)) (mj_one_of mj_dL_439 fun _ _ => rfl) ?_
  refine mj_runsL.step (S' := (mj_law, 441, [(3, .int i), (2, .ref 234), (1, .ref 0), (0, .retAddr 0)], [.int x1, .ref 0], h)) (lw_ald mj_dL_440 (lw_add (m := 1) hi (by decide) (by omega)) e1) ?_
  refine mj_runsL.step (S' := (mj_law, 442, [(3, .int i), (2, .ref 234), (1, .ref 0), (0, .retAddr 0)], [.retAddr 0, .int x1, .ref 0], h)) (mj_one_of mj_dL_441 fun _ _ => rfl) ?_
  refine mj_runsL.step (S' := (mj_law, 443, [(3, .int i), (2, .ref 234), (1, .ref 0), (0, .retAddr 0)], [.int i, .retAddr 0, .int x1, .ref 0], h)) (mj_one_of mj_dL_442 fun _ _ => rfl) ?_
  refine mj_runsL.step (S' := (mj_law, 444, [(3, .int i), (2, .ref 234), (1, .ref 0), (0, .retAddr 0)], [.int (2 : Int32), .int i, .retAddr 0, .int x1, .ref 0], h)) (mj_one_of mj_dL_443 fun _ _ => rfl) ?_
  refine mj_runsL.step (S' := (mj_law, 445, [(3, .int i), (2, .ref 234), (1, .ref 0), (0, .retAddr 0)], [.int (i + (2 : Int32)), .retAddr 0, .int x1, .ref 0], h)) (mj_one_of mj_dL_444 fun _ _ => rfl) ?_
  refine mj_runsL.step (S' := (mj_law, 446, [(3, .int i), (2, .ref 234), (1, .ref 0), (0, .retAddr 0)], [.int x2, .int x1, .ref 0], h)) (lw_ald mj_dL_445 (lw_add (m := 2) hi (by decide) (by omega)) e2) ?_
  refine mj_runsL.call (S1 := (mj_m_59, 0, [(0, .ref 0), (1, .int x1), (2, .int x2)], [], h)) (mj_calls_v mj_dL_446 rfl rfl rfl z1 rfl rfl ⟨Nat.le_of_ble_eq_true rfl, ⟨Nat.le_of_ble_eq_true rfl, Nat.le_of_ble_eq_true rfl, Nat.le_of_ble_eq_true rfl, Nat.le_of_ble_eq_true rfl, Nat.le_of_ble_eq_true rfl⟩⟩) q1 ?_
  show mj_runsL _ (mj_law, 449, [(3, .int i), (2, .ref 234), (1, .ref 0), (0, .retAddr 0)], [.int r1], h1) _ _
  refine mj_runsL.step (S' := (mj_law, 450, [(3, .int i), (2, .ref 234), (1, .ref 0), (0, .retAddr 0)], [], h1)) (mj_one_of mj_dL_449 fun _ _ => rfl) ?_
  refine mj_runsL.step (S' := (mj_law, 451, [(3, .int i), (2, .ref 234), (1, .ref 0), (0, .retAddr 0)], [.ref 234], h1)) (mj_one_of mj_dL_450 fun _ _ => rfl) ?_
  refine mj_runsL.step (S' := (mj_law, 452, [(3, .int i), (2, .ref 234), (1, .ref 0), (0, .retAddr 0)], [.retAddr 0, .ref 234], h1)) (mj_one_of mj_dL_451 fun _ _ => rfl) ?_
  refine mj_runsL.step (S' := (mj_law, 453, [(3, .int i), (2, .ref 234), (1, .ref 0), (0, .retAddr 0)], [.int i, .retAddr 0, .ref 234], h1)) (mj_one_of mj_dL_452 fun _ _ => rfl) ?_
  refine mj_runsL.step (S' := (mj_law, 454, [(3, .int i), (2, .ref 234), (1, .ref 0), (0, .retAddr 0)], [.int (1 : Int32), .int i, .retAddr 0, .ref 234], h1)) (mj_one_of mj_dL_453 fun _ _ => rfl) ?_
  refine mj_runsL.step (S' := (mj_law, 455, [(3, .int i), (2, .ref 234), (1, .ref 0), (0, .retAddr 0)], [.int (i + (1 : Int32)), .retAddr 0, .ref 234], h1)) (mj_one_of mj_dL_454 fun _ _ => rfl) ?_
  refine mj_runsL.step (S' := (mj_law, 456, [(3, .int i), (2, .ref 234), (1, .ref 0), (0, .retAddr 0)], [.int x1, .ref 234], h1)) (lw_ald mj_dL_455 (lw_add (m := 1) hi (by decide) (by omega)) e1) ?_
  refine mj_runsL.step (S' := (mj_law, 457, [(3, .int i), (2, .ref 234), (1, .ref 0), (0, .retAddr 0)], [.retAddr 0, .int x1, .ref 234], h1)) (mj_one_of mj_dL_456 fun _ _ => rfl) ?_
  refine mj_runsL.step (S' := (mj_law, 458, [(3, .int i), (2, .ref 234), (1, .ref 0), (0, .retAddr 0)], [.int i, .retAddr 0, .int x1, .ref 234], h1)) (mj_one_of mj_dL_457 fun _ _ => rfl) ?_
  refine mj_runsL.step (S' := (mj_law, 459, [(3, .int i), (2, .ref 234), (1, .ref 0), (0, .retAddr 0)], [.int (2 : Int32), .int i, .retAddr 0, .int x1, .ref 234], h1)) (mj_one_of mj_dL_458 fun _ _ => rfl) ?_
  refine mj_runsL.step (S' := (mj_law, 460, [(3, .int i), (2, .ref 234), (1, .ref 0), (0, .retAddr 0)], [.int (i + (2 : Int32)), .retAddr 0, .int x1, .ref 234], h1)) (mj_one_of mj_dL_459 fun _ _ => rfl) ?_
  refine mj_runsL.step (S' := (mj_law, 461, [(3, .int i), (2, .ref 234), (1, .ref 0), (0, .retAddr 0)], [.int x2, .int x1, .ref 234], h1)) (lw_ald mj_dL_460 (lw_add (m := 2) hi (by decide) (by omega)) e2) ?_
  refine mj_runsL.call (S1 := (mj_m_157, 0, [(0, .ref 234), (1, .int x1), (2, .int x2)], [], h1)) (mj_calls_v mj_dL_461 rfl rfl rfl z2 rfl rfl ⟨Nat.le_of_ble_eq_true rfl, ⟨Nat.le_of_ble_eq_true rfl, Nat.le_of_ble_eq_true rfl, Nat.le_of_ble_eq_true rfl, Nat.le_of_ble_eq_true rfl, Nat.le_of_ble_eq_true rfl⟩⟩) q2 ?_
  show mj_runsL _ (mj_law, 464, [(3, .int i), (2, .ref 234), (1, .ref 0), (0, .retAddr 0)], [.int r2], h2) _ _
  refine mj_runsL.step (S' := (mj_law, 465, [(3, .int i), (2, .ref 234), (1, .ref 0), (0, .retAddr 0)], [], h2)) (mj_one_of mj_dL_464 fun _ _ => rfl) ?_
  refine mj_runsL.step (S' := (mj_law, 1081, [(3, .int i), (2, .ref 234), (1, .ref 0), (0, .retAddr 0)], [], h2)) (mj_one_of mj_dL_465 fun _ _ => rfl) ?_
  exact K
set_option maxRecDepth 1000000 in
set_option maxHeartbeats 1000000 in
theorem lw_case_12 {sc : List Int32} {k : Nat} {i v : Int32} (hk : k < 100) (hi : i.toInt = ((5 * k : Nat) : Int)) {x1 : Int32} (e1 : sc[5 * k + 1]? = some x1) {x2 : Int32} (e2 : sc[5 * k + 2]? = some x2) {x3 : Int32} (e3 : sc[5 * k + 3]? = some x3) {x4 : Int32} (e4 : sc[5 * k + 4]? = some x4) {h : mj_H} (hI : go_I h) (hv : v.toInt = 12) : ∃ h2, go_I h2 ∧ ∀ r h', mj_runsL sc (mj_law, 1081, [(3, .int i), (2, .ref 234), (1, .ref 0), (0, .retAddr 0)], [], h2) r h' → mj_runsL sc (mj_law, 32, [(3, .int i), (2, .ref 234), (1, .ref 0), (0, .retAddr 0)], [.int v], h) r h' := by
  obtain ⟨r1, r2, h1, h2, ⟨y1, z1⟩, ⟨y2, z2⟩, q1, q2, g2⟩ := go_swap x1 x2 x3 x4 hI
  refine ⟨h2, g2, fun r h' K => ?_⟩
  refine mj_runsL.step (S' := (mj_law, 468, [(3, .int i), (2, .ref 234), (1, .ref 0), (0, .retAddr 0)], [], h)) (mj_one_tblIn mj_dL_32 (by rw [hv]; decide) (by rw [hv]; decide) (by rw [hv]; rfl) rfl) ?_
  refine mj_runsL.step (S' := (mj_law, 469, [(3, .int i), (2, .ref 234), (1, .ref 0), (0, .retAddr 0)], [.ref 0], h)) (mj_one_of mj_dL_468 fun _ _ => rfl) ?_
  refine mj_runsL.step (S' := (mj_law, 470, [(3, .int i), (2, .ref 234), (1, .ref 0), (0, .retAddr 0)], [.retAddr 0, .ref 0], h)) (mj_one_of mj_dL_469 fun _ _ => rfl) ?_
  refine mj_runsL.step (S' := (mj_law, 471, [(3, .int i), (2, .ref 234), (1, .ref 0), (0, .retAddr 0)], [.int i, .retAddr 0, .ref 0], h)) (mj_one_of mj_dL_470 fun _ _ => rfl) ?_
  refine mj_runsL.step (S' := (mj_law, 472, [(3, .int i), (2, .ref 234), (1, .ref 0), (0, .retAddr 0)], [.int (1 : Int32), .int i, .retAddr 0, .ref 0], h)) (mj_one_of mj_dL_471 fun _ _ => rfl) ?_
  refine mj_runsL.step (S' := (mj_law, 473, [(3, .int i), (2, .ref 234), (1, .ref 0), (0, .retAddr 0)], [.int (i + (1 : Int32)), .retAddr 0, .ref 0], h)) (mj_one_of mj_dL_472 fun _ _ => rfl) ?_
  refine mj_runsL.step (S' := (mj_law, 474, [(3, .int i), (2, .ref 234), (1, .ref 0), (0, .retAddr 0)], [.int x1, .ref 0], h)) (lw_ald mj_dL_473 (lw_add (m := 1) hi (by decide) (by omega)) e1) ?_
  refine mj_runsL.step (S' := (mj_law, 475, [(3, .int i), (2, .ref 234), (1, .ref 0), (0, .retAddr 0)], [.retAddr 0, .int x1, .ref 0], h)) (mj_one_of mj_dL_474 fun _ _ => rfl) ?_
  refine mj_runsL.step (S' := (mj_law, 476, [(3, .int i), (2, .ref 234), (1, .ref 0), (0, .retAddr 0)], [.int i, .retAddr 0, .int x1, .ref 0], h)) (mj_one_of mj_dL_475 fun _ _ => rfl) ?_
  refine mj_runsL.step (S' := (mj_law, 477, [(3, .int i), (2, .ref 234), (1, .ref 0), (0, .retAddr 0)], [.int (2 : Int32), .int i, .retAddr 0, .int x1, .ref 0], h)) (mj_one_of mj_dL_476 fun _ _ => rfl) ?_
  refine mj_runsL.step (S' := (mj_law, 478, [(3, .int i), (2, .ref 234), (1, .ref 0), (0, .retAddr 0)], [.int (i + (2 : Int32)), .retAddr 0, .int x1, .ref 0], h)) (mj_one_of mj_dL_477 fun _ _ => rfl) ?_
  refine mj_runsL.step (S' := (mj_law, 479, [(3, .int i), (2, .ref 234), (1, .ref 0), (0, .retAddr 0)], [.int x2, .int x1, .ref 0], h)) (lw_ald mj_dL_478 (lw_add (m := 2) hi (by decide) (by omega)) e2) ?_
  refine mj_runsL.step (S' := (mj_law, 480, [(3, .int i), (2, .ref 234), (1, .ref 0), (0, .retAddr 0)], [.retAddr 0, .int x2, .int x1, .ref 0], h)) (mj_one_of mj_dL_479 fun _ _ => rfl) ?_
  refine mj_runsL.step (S' := (mj_law, 481, [(3, .int i), (2, .ref 234), (1, .ref 0), (0, .retAddr 0)], [.int i, .retAddr 0, .int x2, .int x1, .ref 0], h)) (mj_one_of mj_dL_480 fun _ _ => rfl) ?_
  refine mj_runsL.step (S' := (mj_law, 482, [(3, .int i), (2, .ref 234), (1, .ref 0), (0, .retAddr 0)], [.int (3 : Int32), .int i, .retAddr 0, .int x2, .int x1, .ref 0], h)) (mj_one_of mj_dL_481 fun _ _ => rfl) ?_
  refine mj_runsL.step (S' := (mj_law, 483, [(3, .int i), (2, .ref 234), (1, .ref 0), (0, .retAddr 0)], [.int (i + (3 : Int32)), .retAddr 0, .int x2, .int x1, .ref 0], h)) (mj_one_of mj_dL_482 fun _ _ => rfl) ?_
  refine mj_runsL.step (S' := (mj_law, 484, [(3, .int i), (2, .ref 234), (1, .ref 0), (0, .retAddr 0)], [.int x3, .int x2, .int x1, .ref 0], h)) (lw_ald mj_dL_483 (lw_add (m := 3) hi (by decide) (by omega)) e3) ?_
  refine mj_runsL.step (S' := (mj_law, 485, [(3, .int i), (2, .ref 234), (1, .ref 0), (0, .retAddr 0)], [.retAddr 0, .int x3, .int x2, .int x1, .ref 0], h)) (mj_one_of mj_dL_484 fun _ _ => rfl) ?_
  refine mj_runsL.step (S' := (mj_law, 486, [(3, .int i), (2, .ref 234), (1, .ref 0), (0, .retAddr 0)], [.int i, .retAddr 0, .int x3, .int x2, .int x1, .ref 0], h)) (mj_one_of mj_dL_485 fun _ _ => rfl) ?_
  refine mj_runsL.step (S' := (mj_law, 487, [(3, .int i), (2, .ref 234), (1, .ref 0), (0, .retAddr 0)], [.int (4 : Int32), .int i, .retAddr 0, .int x3, .int x2, .int x1, .ref 0], h)) (mj_one_of mj_dL_486 fun _ _ => rfl) ?_
  refine mj_runsL.step (S' := (mj_law, 488, [(3, .int i), (2, .ref 234), (1, .ref 0), (0, .retAddr 0)], [.int (i + (4 : Int32)), .retAddr 0, .int x3, .int x2, .int x1, .ref 0], h)) (mj_one_of mj_dL_487 fun _ _ => rfl) ?_
  refine mj_runsL.step (S' := (mj_law, 489, [(3, .int i), (2, .ref 234), (1, .ref 0), (0, .retAddr 0)], [.int x4, .int x3, .int x2, .int x1, .ref 0], h)) (lw_ald mj_dL_488 (lw_add (m := 4) hi (by decide) (by omega)) e4) ?_
  refine mj_runsL.call (S1 := (mj_m_60, 0, [(0, .ref 0), (1, .int x1), (2, .int x2), (3, .int x3), (4, .int x4)], [], h)) (mj_calls_v mj_dL_489 rfl rfl rfl z1 rfl rfl ⟨Nat.le_of_ble_eq_true rfl, ⟨Nat.le_of_ble_eq_true rfl, Nat.le_of_ble_eq_true rfl, Nat.le_of_ble_eq_true rfl, Nat.le_of_ble_eq_true rfl, Nat.le_of_ble_eq_true rfl⟩⟩) q1 ?_
  show mj_runsL _ (mj_law, 492, [(3, .int i), (2, .ref 234), (1, .ref 0), (0, .retAddr 0)], [.int r1], h1) _ _
  refine mj_runsL.step (S' := (mj_law, 493, [(3, .int i), (2, .ref 234), (1, .ref 0), (0, .retAddr 0)], [], h1)) (mj_one_of mj_dL_492 fun _ _ => rfl) ?_
  refine mj_runsL.step (S' := (mj_law, 494, [(3, .int i), (2, .ref 234), (1, .ref 0), (0, .retAddr 0)], [.ref 234], h1)) (mj_one_of mj_dL_493 fun _ _ => rfl) ?_
  refine mj_runsL.step (S' := (mj_law, 495, [(3, .int i), (2, .ref 234), (1, .ref 0), (0, .retAddr 0)], [.retAddr 0, .ref 234], h1)) (mj_one_of mj_dL_494 fun _ _ => rfl) ?_
  refine mj_runsL.step (S' := (mj_law, 496, [(3, .int i), (2, .ref 234), (1, .ref 0), (0, .retAddr 0)], [.int i, .retAddr 0, .ref 234], h1)) (mj_one_of mj_dL_495 fun _ _ => rfl) ?_
  refine mj_runsL.step (S' := (mj_law, 497, [(3, .int i), (2, .ref 234), (1, .ref 0), (0, .retAddr 0)], [.int (1 : Int32), .int i, .retAddr 0, .ref 234], h1)) (mj_one_of mj_dL_496 fun _ _ => rfl) ?_
  refine mj_runsL.step (S' := (mj_law, 498, [(3, .int i), (2, .ref 234), (1, .ref 0), (0, .retAddr 0)], [.int (i + (1 : Int32)), .retAddr 0, .ref 234], h1)) (mj_one_of mj_dL_497 fun _ _ => rfl) ?_
  refine mj_runsL.step (S' := (mj_law, 499, [(3, .int i), (2, .ref 234), (1, .ref 0), (0, .retAddr 0)], [.int x1, .ref 234], h1)) (lw_ald mj_dL_498 (lw_add (m := 1) hi (by decide) (by omega)) e1) ?_
  refine mj_runsL.step (S' := (mj_law, 500, [(3, .int i), (2, .ref 234), (1, .ref 0), (0, .retAddr 0)], [.retAddr 0, .int x1, .ref 234], h1)) (mj_one_of mj_dL_499 fun _ _ => rfl) ?_
  refine mj_runsL.step (S' := (mj_law, 501, [(3, .int i), (2, .ref 234), (1, .ref 0), (0, .retAddr 0)], [.int i, .retAddr 0, .int x1, .ref 234], h1)) (mj_one_of mj_dL_500 fun _ _ => rfl) ?_
  refine mj_runsL.step (S' := (mj_law, 502, [(3, .int i), (2, .ref 234), (1, .ref 0), (0, .retAddr 0)], [.int (2 : Int32), .int i, .retAddr 0, .int x1, .ref 234], h1)) (mj_one_of mj_dL_501 fun _ _ => rfl) ?_
  refine mj_runsL.step (S' := (mj_law, 503, [(3, .int i), (2, .ref 234), (1, .ref 0), (0, .retAddr 0)], [.int (i + (2 : Int32)), .retAddr 0, .int x1, .ref 234], h1)) (mj_one_of mj_dL_502 fun _ _ => rfl) ?_
  refine mj_runsL.step (S' := (mj_law, 504, [(3, .int i), (2, .ref 234), (1, .ref 0), (0, .retAddr 0)], [.int x2, .int x1, .ref 234], h1)) (lw_ald mj_dL_503 (lw_add (m := 2) hi (by decide) (by omega)) e2) ?_
  refine mj_runsL.step (S' := (mj_law, 505, [(3, .int i), (2, .ref 234), (1, .ref 0), (0, .retAddr 0)], [.retAddr 0, .int x2, .int x1, .ref 234], h1)) (mj_one_of mj_dL_504 fun _ _ => rfl) ?_
  refine mj_runsL.step (S' := (mj_law, 506, [(3, .int i), (2, .ref 234), (1, .ref 0), (0, .retAddr 0)], [.int i, .retAddr 0, .int x2, .int x1, .ref 234], h1)) (mj_one_of mj_dL_505 fun _ _ => rfl) ?_
  refine mj_runsL.step (S' := (mj_law, 507, [(3, .int i), (2, .ref 234), (1, .ref 0), (0, .retAddr 0)], [.int (3 : Int32), .int i, .retAddr 0, .int x2, .int x1, .ref 234], h1)) (mj_one_of mj_dL_506 fun _ _ => rfl) ?_
  refine mj_runsL.step (S' := (mj_law, 508, [(3, .int i), (2, .ref 234), (1, .ref 0), (0, .retAddr 0)], [.int (i + (3 : Int32)), .retAddr 0, .int x2, .int x1, .ref 234], h1)) (mj_one_of mj_dL_507 fun _ _ => rfl) ?_
  refine mj_runsL.step (S' := (mj_law, 509, [(3, .int i), (2, .ref 234), (1, .ref 0), (0, .retAddr 0)], [.int x3, .int x2, .int x1, .ref 234], h1)) (lw_ald mj_dL_508 (lw_add (m := 3) hi (by decide) (by omega)) e3) ?_
  refine mj_runsL.step (S' := (mj_law, 510, [(3, .int i), (2, .ref 234), (1, .ref 0), (0, .retAddr 0)], [.retAddr 0, .int x3, .int x2, .int x1, .ref 234], h1)) (mj_one_of mj_dL_509 fun _ _ => rfl) ?_
  refine mj_runsL.step (S' := (mj_law, 511, [(3, .int i), (2, .ref 234), (1, .ref 0), (0, .retAddr 0)], [.int i, .retAddr 0, .int x3, .int x2, .int x1, .ref 234], h1)) (mj_one_of mj_dL_510 fun _ _ => rfl) ?_
  refine mj_runsL.step (S' := (mj_law, 512, [(3, .int i), (2, .ref 234), (1, .ref 0), (0, .retAddr 0)], [.int (4 : Int32), .int i, .retAddr 0, .int x3, .int x2, .int x1, .ref 234], h1)) (mj_one_of mj_dL_511 fun _ _ => rfl) ?_
  refine mj_runsL.step (S' := (mj_law, 513, [(3, .int i), (2, .ref 234), (1, .ref 0), (0, .retAddr 0)], [.int (i + (4 : Int32)), .retAddr 0, .int x3, .int x2, .int x1, .ref 234], h1)) (mj_one_of mj_dL_512 fun _ _ => rfl) ?_
  refine mj_runsL.step (S' := (mj_law, 514, [(3, .int i), (2, .ref 234), (1, .ref 0), (0, .retAddr 0)], [.int x4, .int x3, .int x2, .int x1, .ref 234], h1)) (lw_ald mj_dL_513 (lw_add (m := 4) hi (by decide) (by omega)) e4) ?_
  refine mj_runsL.call (S1 := (mj_m_158, 0, [(0, .ref 234), (1, .int x1), (2, .int x2), (3, .int x3), (4, .int x4)], [], h1)) (mj_calls_v mj_dL_514 rfl rfl rfl z2 rfl rfl ⟨Nat.le_of_ble_eq_true rfl, ⟨Nat.le_of_ble_eq_true rfl, Nat.le_of_ble_eq_true rfl, Nat.le_of_ble_eq_true rfl, Nat.le_of_ble_eq_true rfl, Nat.le_of_ble_eq_true rfl⟩⟩) q2 ?_
  show mj_runsL _ (mj_law, 517, [(3, .int i), (2, .ref 234), (1, .ref 0), (0, .retAddr 0)], [.int r2], h2) _ _
  refine mj_runsL.step (S' := (mj_law, 518, [(3, .int i), (2, .ref 234), (1, .ref 0), (0, .retAddr 0)], [], h2)) (mj_one_of mj_dL_517 fun _ _ => rfl) ?_
  refine mj_runsL.step (S' := (mj_law, 1081, [(3, .int i), (2, .ref 234), (1, .ref 0), (0, .retAddr 0)], [], h2)) (mj_one_of mj_dL_518 fun _ _ => rfl) ?_
  exact K
set_option maxRecDepth 1000000 in
set_option maxHeartbeats 1000000 in
theorem lw_case_13 {sc : List Int32} {k : Nat} {i v : Int32} (hk : k < 100) (hi : i.toInt = ((5 * k : Nat) : Int)) {x1 : Int32} (e1 : sc[5 * k + 1]? = some x1) {x2 : Int32} (e2 : sc[5 * k + 2]? = some x2) {x3 : Int32} (e3 : sc[5 * k + 3]? = some x3) {h : mj_H} (hI : go_I h) (hv : v.toInt = 13) : ∃ h2, go_I h2 ∧ ∀ r h', mj_runsL sc (mj_law, 1081, [(3, .int i), (2, .ref 234), (1, .ref 0), (0, .retAddr 0)], [], h2) r h' → mj_runsL sc (mj_law, 32, [(3, .int i), (2, .ref 234), (1, .ref 0), (0, .retAddr 0)], [.int v], h) r h' := by
  obtain ⟨r1, r2, h1, h2, ⟨y1, z1⟩, ⟨y2, z2⟩, q1, q2, g2⟩ := go_pay x1 x2 x3 hI
  refine ⟨h2, g2, fun r h' K => ?_⟩
  refine mj_runsL.step (S' := (mj_law, 521, [(3, .int i), (2, .ref 234), (1, .ref 0), (0, .retAddr 0)], [], h)) (mj_one_tblIn mj_dL_32 (by rw [hv]; decide) (by rw [hv]; decide) (by rw [hv]; rfl) rfl) ?_
  refine mj_runsL.step (S' := (mj_law, 522, [(3, .int i), (2, .ref 234), (1, .ref 0), (0, .retAddr 0)], [.ref 0], h)) (mj_one_of mj_dL_521 fun _ _ => rfl) ?_
  refine mj_runsL.step (S' := (mj_law, 523, [(3, .int i), (2, .ref 234), (1, .ref 0), (0, .retAddr 0)], [.retAddr 0, .ref 0], h)) (mj_one_of mj_dL_522 fun _ _ => rfl) ?_
  refine mj_runsL.step (S' := (mj_law, 524, [(3, .int i), (2, .ref 234), (1, .ref 0), (0, .retAddr 0)], [.int i, .retAddr 0, .ref 0], h)) (mj_one_of mj_dL_523 fun _ _ => rfl) ?_
  refine mj_runsL.step (S' := (mj_law, 525, [(3, .int i), (2, .ref 234), (1, .ref 0), (0, .retAddr 0)], [.int (1 : Int32), .int i, .retAddr 0, .ref 0], h)) (mj_one_of mj_dL_524 fun _ _ => rfl) ?_
  refine mj_runsL.step (S' := (mj_law, 526, [(3, .int i), (2, .ref 234), (1, .ref 0), (0, .retAddr 0)], [.int (i + (1 : Int32)), .retAddr 0, .ref 0], h)) (mj_one_of mj_dL_525 fun _ _ => rfl) ?_
  refine mj_runsL.step (S' := (mj_law, 527, [(3, .int i), (2, .ref 234), (1, .ref 0), (0, .retAddr 0)], [.int x1, .ref 0], h)) (lw_ald mj_dL_526 (lw_add (m := 1) hi (by decide) (by omega)) e1) ?_
  refine mj_runsL.step (S' := (mj_law, 528, [(3, .int i), (2, .ref 234), (1, .ref 0), (0, .retAddr 0)], [.retAddr 0, .int x1, .ref 0], h)) (mj_one_of mj_dL_527 fun _ _ => rfl) ?_
  refine mj_runsL.step (S' := (mj_law, 529, [(3, .int i), (2, .ref 234), (1, .ref 0), (0, .retAddr 0)], [.int i, .retAddr 0, .int x1, .ref 0], h)) (mj_one_of mj_dL_528 fun _ _ => rfl) ?_
  refine mj_runsL.step (S' := (mj_law, 530, [(3, .int i), (2, .ref 234), (1, .ref 0), (0, .retAddr 0)], [.int (2 : Int32), .int i, .retAddr 0, .int x1, .ref 0], h)) (mj_one_of mj_dL_529 fun _ _ => rfl) ?_
  refine mj_runsL.step (S' := (mj_law, 531, [(3, .int i), (2, .ref 234), (1, .ref 0), (0, .retAddr 0)], [.int (i + (2 : Int32)), .retAddr 0, .int x1, .ref 0], h)) (mj_one_of mj_dL_530 fun _ _ => rfl) ?_
  refine mj_runsL.step (S' := (mj_law, 532, [(3, .int i), (2, .ref 234), (1, .ref 0), (0, .retAddr 0)], [.int x2, .int x1, .ref 0], h)) (lw_ald mj_dL_531 (lw_add (m := 2) hi (by decide) (by omega)) e2) ?_
  refine mj_runsL.step (S' := (mj_law, 533, [(3, .int i), (2, .ref 234), (1, .ref 0), (0, .retAddr 0)], [.retAddr 0, .int x2, .int x1, .ref 0], h)) (mj_one_of mj_dL_532 fun _ _ => rfl) ?_
  refine mj_runsL.step (S' := (mj_law, 534, [(3, .int i), (2, .ref 234), (1, .ref 0), (0, .retAddr 0)], [.int i, .retAddr 0, .int x2, .int x1, .ref 0], h)) (mj_one_of mj_dL_533 fun _ _ => rfl) ?_
  refine mj_runsL.step (S' := (mj_law, 535, [(3, .int i), (2, .ref 234), (1, .ref 0), (0, .retAddr 0)], [.int (3 : Int32), .int i, .retAddr 0, .int x2, .int x1, .ref 0], h)) (mj_one_of mj_dL_534 fun _ _ => rfl) ?_
  refine mj_runsL.step (S' := (mj_law, 536, [(3, .int i), (2, .ref 234), (1, .ref 0), (0, .retAddr 0)], [.int (i + (3 : Int32)), .retAddr 0, .int x2, .int x1, .ref 0], h)) (mj_one_of mj_dL_535 fun _ _ => rfl) ?_
  refine mj_runsL.step (S' := (mj_law, 537, [(3, .int i), (2, .ref 234), (1, .ref 0), (0, .retAddr 0)], [.int x3, .int x2, .int x1, .ref 0], h)) (lw_ald mj_dL_536 (lw_add (m := 3) hi (by decide) (by omega)) e3) ?_
  refine mj_runsL.call (S1 := (mj_m_64, 0, [(0, .ref 0), (1, .int x1), (2, .int x2), (3, .int x3)], [], h)) (mj_calls_v mj_dL_537 rfl rfl rfl z1 rfl rfl ⟨Nat.le_of_ble_eq_true rfl, ⟨Nat.le_of_ble_eq_true rfl, Nat.le_of_ble_eq_true rfl, Nat.le_of_ble_eq_true rfl, Nat.le_of_ble_eq_true rfl, Nat.le_of_ble_eq_true rfl⟩⟩) q1 ?_
  show mj_runsL _ (mj_law, 540, [(3, .int i), (2, .ref 234), (1, .ref 0), (0, .retAddr 0)], [.int r1], h1) _ _
  refine mj_runsL.step (S' := (mj_law, 541, [(3, .int i), (2, .ref 234), (1, .ref 0), (0, .retAddr 0)], [], h1)) (mj_one_of mj_dL_540 fun _ _ => rfl) ?_
  refine mj_runsL.step (S' := (mj_law, 542, [(3, .int i), (2, .ref 234), (1, .ref 0), (0, .retAddr 0)], [.ref 234], h1)) (mj_one_of mj_dL_541 fun _ _ => rfl) ?_
  refine mj_runsL.step (S' := (mj_law, 543, [(3, .int i), (2, .ref 234), (1, .ref 0), (0, .retAddr 0)], [.retAddr 0, .ref 234], h1)) (mj_one_of mj_dL_542 fun _ _ => rfl) ?_
  refine mj_runsL.step (S' := (mj_law, 544, [(3, .int i), (2, .ref 234), (1, .ref 0), (0, .retAddr 0)], [.int i, .retAddr 0, .ref 234], h1)) (mj_one_of mj_dL_543 fun _ _ => rfl) ?_
  refine mj_runsL.step (S' := (mj_law, 545, [(3, .int i), (2, .ref 234), (1, .ref 0), (0, .retAddr 0)], [.int (1 : Int32), .int i, .retAddr 0, .ref 234], h1)) (mj_one_of mj_dL_544 fun _ _ => rfl) ?_
  refine mj_runsL.step (S' := (mj_law, 546, [(3, .int i), (2, .ref 234), (1, .ref 0), (0, .retAddr 0)], [.int (i + (1 : Int32)), .retAddr 0, .ref 234], h1)) (mj_one_of mj_dL_545 fun _ _ => rfl) ?_
  refine mj_runsL.step (S' := (mj_law, 547, [(3, .int i), (2, .ref 234), (1, .ref 0), (0, .retAddr 0)], [.int x1, .ref 234], h1)) (lw_ald mj_dL_546 (lw_add (m := 1) hi (by decide) (by omega)) e1) ?_
  refine mj_runsL.step (S' := (mj_law, 548, [(3, .int i), (2, .ref 234), (1, .ref 0), (0, .retAddr 0)], [.retAddr 0, .int x1, .ref 234], h1)) (mj_one_of mj_dL_547 fun _ _ => rfl) ?_
  refine mj_runsL.step (S' := (mj_law, 549, [(3, .int i), (2, .ref 234), (1, .ref 0), (0, .retAddr 0)], [.int i, .retAddr 0, .int x1, .ref 234], h1)) (mj_one_of mj_dL_548 fun _ _ => rfl) ?_
  refine mj_runsL.step (S' := (mj_law, 550, [(3, .int i), (2, .ref 234), (1, .ref 0), (0, .retAddr 0)], [.int (2 : Int32), .int i, .retAddr 0, .int x1, .ref 234], h1)) (mj_one_of mj_dL_549 fun _ _ => rfl) ?_
  refine mj_runsL.step (S' := (mj_law, 551, [(3, .int i), (2, .ref 234), (1, .ref 0), (0, .retAddr 0)], [.int (i + (2 : Int32)), .retAddr 0, .int x1, .ref 234], h1)) (mj_one_of mj_dL_550 fun _ _ => rfl) ?_
  refine mj_runsL.step (S' := (mj_law, 552, [(3, .int i), (2, .ref 234), (1, .ref 0), (0, .retAddr 0)], [.int x2, .int x1, .ref 234], h1)) (lw_ald mj_dL_551 (lw_add (m := 2) hi (by decide) (by omega)) e2) ?_
  refine mj_runsL.step (S' := (mj_law, 553, [(3, .int i), (2, .ref 234), (1, .ref 0), (0, .retAddr 0)], [.retAddr 0, .int x2, .int x1, .ref 234], h1)) (mj_one_of mj_dL_552 fun _ _ => rfl) ?_
  refine mj_runsL.step (S' := (mj_law, 554, [(3, .int i), (2, .ref 234), (1, .ref 0), (0, .retAddr 0)], [.int i, .retAddr 0, .int x2, .int x1, .ref 234], h1)) (mj_one_of mj_dL_553 fun _ _ => rfl) ?_
  refine mj_runsL.step (S' := (mj_law, 555, [(3, .int i), (2, .ref 234), (1, .ref 0), (0, .retAddr 0)], [.int (3 : Int32), .int i, .retAddr 0, .int x2, .int x1, .ref 234], h1)) (mj_one_of mj_dL_554 fun _ _ => rfl) ?_
  refine mj_runsL.step (S' := (mj_law, 556, [(3, .int i), (2, .ref 234), (1, .ref 0), (0, .retAddr 0)], [.int (i + (3 : Int32)), .retAddr 0, .int x2, .int x1, .ref 234], h1)) (mj_one_of mj_dL_555 fun _ _ => rfl) ?_
  refine mj_runsL.step (S' := (mj_law, 557, [(3, .int i), (2, .ref 234), (1, .ref 0), (0, .retAddr 0)], [.int x3, .int x2, .int x1, .ref 234], h1)) (lw_ald mj_dL_556 (lw_add (m := 3) hi (by decide) (by omega)) e3) ?_
  refine mj_runsL.call (S1 := (mj_m_162, 0, [(0, .ref 234), (1, .int x1), (2, .int x2), (3, .int x3)], [], h1)) (mj_calls_v mj_dL_557 rfl rfl rfl z2 rfl rfl ⟨Nat.le_of_ble_eq_true rfl, ⟨Nat.le_of_ble_eq_true rfl, Nat.le_of_ble_eq_true rfl, Nat.le_of_ble_eq_true rfl, Nat.le_of_ble_eq_true rfl, Nat.le_of_ble_eq_true rfl⟩⟩) q2 ?_
  show mj_runsL _ (mj_law, 560, [(3, .int i), (2, .ref 234), (1, .ref 0), (0, .retAddr 0)], [.int r2], h2) _ _
  refine mj_runsL.step (S' := (mj_law, 561, [(3, .int i), (2, .ref 234), (1, .ref 0), (0, .retAddr 0)], [], h2)) (mj_one_of mj_dL_560 fun _ _ => rfl) ?_
  refine mj_runsL.step (S' := (mj_law, 1081, [(3, .int i), (2, .ref 234), (1, .ref 0), (0, .retAddr 0)], [], h2)) (mj_one_of mj_dL_561 fun _ _ => rfl) ?_
  exact K
set_option maxRecDepth 1000000 in
set_option maxHeartbeats 1000000 in
theorem lw_case_14 {sc : List Int32} {k : Nat} {i v : Int32} (hk : k < 100) (hi : i.toInt = ((5 * k : Nat) : Int)) {x1 : Int32} (e1 : sc[5 * k + 1]? = some x1) {h : mj_H} (hI : go_I h) (hv : v.toInt = 14) : ∃ h2, go_I h2 ∧ ∀ r h', mj_runsL sc (mj_law, 1081, [(3, .int i), (2, .ref 234), (1, .ref 0), (0, .retAddr 0)], [], h2) r h' → mj_runsL sc (mj_law, 32, [(3, .int i), (2, .ref 234), (1, .ref 0), (0, .retAddr 0)], [.int v], h) r h' := by
  obtain ⟨r1, r2, h1, h2, ⟨y1, z1⟩, ⟨y2, z2⟩, q1, q2, g2⟩ := go_drift x1 hI
  refine ⟨h2, g2, fun r h' K => ?_⟩
  refine mj_runsL.step (S' := (mj_law, 564, [(3, .int i), (2, .ref 234), (1, .ref 0), (0, .retAddr 0)], [], h)) (mj_one_tblIn mj_dL_32 (by rw [hv]; decide) (by rw [hv]; decide) (by rw [hv]; rfl) rfl) ?_
  refine mj_runsL.step (S' := (mj_law, 565, [(3, .int i), (2, .ref 234), (1, .ref 0), (0, .retAddr 0)], [.ref 0], h)) (mj_one_of mj_dL_564 fun _ _ => rfl) ?_
  refine mj_runsL.step (S' := (mj_law, 566, [(3, .int i), (2, .ref 234), (1, .ref 0), (0, .retAddr 0)], [.retAddr 0, .ref 0], h)) (mj_one_of mj_dL_565 fun _ _ => rfl) ?_
  refine mj_runsL.step (S' := (mj_law, 567, [(3, .int i), (2, .ref 234), (1, .ref 0), (0, .retAddr 0)], [.int i, .retAddr 0, .ref 0], h)) (mj_one_of mj_dL_566 fun _ _ => rfl) ?_
  refine mj_runsL.step (S' := (mj_law, 568, [(3, .int i), (2, .ref 234), (1, .ref 0), (0, .retAddr 0)], [.int (1 : Int32), .int i, .retAddr 0, .ref 0], h)) (mj_one_of mj_dL_567 fun _ _ => rfl) ?_
  refine mj_runsL.step (S' := (mj_law, 569, [(3, .int i), (2, .ref 234), (1, .ref 0), (0, .retAddr 0)], [.int (i + (1 : Int32)), .retAddr 0, .ref 0], h)) (mj_one_of mj_dL_568 fun _ _ => rfl) ?_
  refine mj_runsL.step (S' := (mj_law, 570, [(3, .int i), (2, .ref 234), (1, .ref 0), (0, .retAddr 0)], [.int x1, .ref 0], h)) (lw_ald mj_dL_569 (lw_add (m := 1) hi (by decide) (by omega)) e1) ?_
  refine mj_runsL.call (S1 := (mj_m_65, 0, [(0, .ref 0), (1, .int x1)], [], h)) (mj_calls_v mj_dL_570 rfl rfl rfl z1 rfl rfl ⟨Nat.le_of_ble_eq_true rfl, ⟨Nat.le_of_ble_eq_true rfl, Nat.le_of_ble_eq_true rfl, Nat.le_of_ble_eq_true rfl, Nat.le_of_ble_eq_true rfl, Nat.le_of_ble_eq_true rfl⟩⟩) q1 ?_
  show mj_runsL _ (mj_law, 573, [(3, .int i), (2, .ref 234), (1, .ref 0), (0, .retAddr 0)], [.int r1], h1) _ _
  refine mj_runsL.step (S' := (mj_law, 574, [(3, .int i), (2, .ref 234), (1, .ref 0), (0, .retAddr 0)], [], h1)) (mj_one_of mj_dL_573 fun _ _ => rfl) ?_
  refine mj_runsL.step (S' := (mj_law, 575, [(3, .int i), (2, .ref 234), (1, .ref 0), (0, .retAddr 0)], [.ref 234], h1)) (mj_one_of mj_dL_574 fun _ _ => rfl) ?_
  refine mj_runsL.step (S' := (mj_law, 576, [(3, .int i), (2, .ref 234), (1, .ref 0), (0, .retAddr 0)], [.retAddr 0, .ref 234], h1)) (mj_one_of mj_dL_575 fun _ _ => rfl) ?_
  refine mj_runsL.step (S' := (mj_law, 577, [(3, .int i), (2, .ref 234), (1, .ref 0), (0, .retAddr 0)], [.int i, .retAddr 0, .ref 234], h1)) (mj_one_of mj_dL_576 fun _ _ => rfl) ?_
  refine mj_runsL.step (S' := (mj_law, 578, [(3, .int i), (2, .ref 234), (1, .ref 0), (0, .retAddr 0)], [.int (1 : Int32), .int i, .retAddr 0, .ref 234], h1)) (mj_one_of mj_dL_577 fun _ _ => rfl) ?_
  refine mj_runsL.step (S' := (mj_law, 579, [(3, .int i), (2, .ref 234), (1, .ref 0), (0, .retAddr 0)], [.int (i + (1 : Int32)), .retAddr 0, .ref 234], h1)) (mj_one_of mj_dL_578 fun _ _ => rfl) ?_
  refine mj_runsL.step (S' := (mj_law, 580, [(3, .int i), (2, .ref 234), (1, .ref 0), (0, .retAddr 0)], [.int x1, .ref 234], h1)) (lw_ald mj_dL_579 (lw_add (m := 1) hi (by decide) (by omega)) e1) ?_
  refine mj_runsL.call (S1 := (mj_m_163, 0, [(0, .ref 234), (1, .int x1)], [], h1)) (mj_calls_v mj_dL_580 rfl rfl rfl z2 rfl rfl ⟨Nat.le_of_ble_eq_true rfl, ⟨Nat.le_of_ble_eq_true rfl, Nat.le_of_ble_eq_true rfl, Nat.le_of_ble_eq_true rfl, Nat.le_of_ble_eq_true rfl, Nat.le_of_ble_eq_true rfl⟩⟩) q2 ?_
  show mj_runsL _ (mj_law, 583, [(3, .int i), (2, .ref 234), (1, .ref 0), (0, .retAddr 0)], [.int r2], h2) _ _
  refine mj_runsL.step (S' := (mj_law, 584, [(3, .int i), (2, .ref 234), (1, .ref 0), (0, .retAddr 0)], [], h2)) (mj_one_of mj_dL_583 fun _ _ => rfl) ?_
  refine mj_runsL.step (S' := (mj_law, 1081, [(3, .int i), (2, .ref 234), (1, .ref 0), (0, .retAddr 0)], [], h2)) (mj_one_of mj_dL_584 fun _ _ => rfl) ?_
  exact K
set_option maxRecDepth 1000000 in
set_option maxHeartbeats 1000000 in
theorem lw_case_15 {sc : List Int32} {k : Nat} {i v : Int32} (hk : k < 100) (hi : i.toInt = ((5 * k : Nat) : Int)) {x1 : Int32} (e1 : sc[5 * k + 1]? = some x1) {h : mj_H} (hI : go_I h) (hv : v.toInt = 15) : ∃ h2, go_I h2 ∧ ∀ r h', mj_runsL sc (mj_law, 1081, [(3, .int i), (2, .ref 234), (1, .ref 0), (0, .retAddr 0)], [], h2) r h' → mj_runsL sc (mj_law, 32, [(3, .int i), (2, .ref 234), (1, .ref 0), (0, .retAddr 0)], [.int v], h) r h' := by
  obtain ⟨r1, r2, h1, h2, ⟨y1, z1⟩, ⟨y2, z2⟩, q1, q2, g2⟩ := go_undo x1 hI
  refine ⟨h2, g2, fun r h' K => ?_⟩
  refine mj_runsL.step (S' := (mj_law, 587, [(3, .int i), (2, .ref 234), (1, .ref 0), (0, .retAddr 0)], [], h)) (mj_one_tblIn mj_dL_32 (by rw [hv]; decide) (by rw [hv]; decide) (by rw [hv]; rfl) rfl) ?_
  refine mj_runsL.step (S' := (mj_law, 588, [(3, .int i), (2, .ref 234), (1, .ref 0), (0, .retAddr 0)], [.ref 0], h)) (mj_one_of mj_dL_587 fun _ _ => rfl) ?_
  refine mj_runsL.step (S' := (mj_law, 589, [(3, .int i), (2, .ref 234), (1, .ref 0), (0, .retAddr 0)], [.retAddr 0, .ref 0], h)) (mj_one_of mj_dL_588 fun _ _ => rfl) ?_
  refine mj_runsL.step (S' := (mj_law, 590, [(3, .int i), (2, .ref 234), (1, .ref 0), (0, .retAddr 0)], [.int i, .retAddr 0, .ref 0], h)) (mj_one_of mj_dL_589 fun _ _ => rfl) ?_
  refine mj_runsL.step (S' := (mj_law, 591, [(3, .int i), (2, .ref 234), (1, .ref 0), (0, .retAddr 0)], [.int (1 : Int32), .int i, .retAddr 0, .ref 0], h)) (mj_one_of mj_dL_590 fun _ _ => rfl) ?_
  refine mj_runsL.step (S' := (mj_law, 592, [(3, .int i), (2, .ref 234), (1, .ref 0), (0, .retAddr 0)], [.int (i + (1 : Int32)), .retAddr 0, .ref 0], h)) (mj_one_of mj_dL_591 fun _ _ => rfl) ?_
  refine mj_runsL.step (S' := (mj_law, 593, [(3, .int i), (2, .ref 234), (1, .ref 0), (0, .retAddr 0)], [.int x1, .ref 0], h)) (lw_ald mj_dL_592 (lw_add (m := 1) hi (by decide) (by omega)) e1) ?_
  refine mj_runsL.call (S1 := (mj_m_68, 0, [(0, .ref 0), (1, .int x1)], [], h)) (mj_calls_v mj_dL_593 rfl rfl rfl z1 rfl rfl ⟨Nat.le_of_ble_eq_true rfl, ⟨Nat.le_of_ble_eq_true rfl, Nat.le_of_ble_eq_true rfl, Nat.le_of_ble_eq_true rfl, Nat.le_of_ble_eq_true rfl, Nat.le_of_ble_eq_true rfl⟩⟩) q1 ?_
  show mj_runsL _ (mj_law, 596, [(3, .int i), (2, .ref 234), (1, .ref 0), (0, .retAddr 0)], [.int r1], h1) _ _
  refine mj_runsL.step (S' := (mj_law, 597, [(3, .int i), (2, .ref 234), (1, .ref 0), (0, .retAddr 0)], [], h1)) (mj_one_of mj_dL_596 fun _ _ => rfl) ?_
  refine mj_runsL.step (S' := (mj_law, 598, [(3, .int i), (2, .ref 234), (1, .ref 0), (0, .retAddr 0)], [.ref 234], h1)) (mj_one_of mj_dL_597 fun _ _ => rfl) ?_
  refine mj_runsL.step (S' := (mj_law, 599, [(3, .int i), (2, .ref 234), (1, .ref 0), (0, .retAddr 0)], [.retAddr 0, .ref 234], h1)) (mj_one_of mj_dL_598 fun _ _ => rfl) ?_
  refine mj_runsL.step (S' := (mj_law, 600, [(3, .int i), (2, .ref 234), (1, .ref 0), (0, .retAddr 0)], [.int i, .retAddr 0, .ref 234], h1)) (mj_one_of mj_dL_599 fun _ _ => rfl) ?_
  refine mj_runsL.step (S' := (mj_law, 601, [(3, .int i), (2, .ref 234), (1, .ref 0), (0, .retAddr 0)], [.int (1 : Int32), .int i, .retAddr 0, .ref 234], h1)) (mj_one_of mj_dL_600 fun _ _ => rfl) ?_
  refine mj_runsL.step (S' := (mj_law, 602, [(3, .int i), (2, .ref 234), (1, .ref 0), (0, .retAddr 0)], [.int (i + (1 : Int32)), .retAddr 0, .ref 234], h1)) (mj_one_of mj_dL_601 fun _ _ => rfl) ?_
  refine mj_runsL.step (S' := (mj_law, 603, [(3, .int i), (2, .ref 234), (1, .ref 0), (0, .retAddr 0)], [.int x1, .ref 234], h1)) (lw_ald mj_dL_602 (lw_add (m := 1) hi (by decide) (by omega)) e1) ?_
  refine mj_runsL.call (S1 := (mj_m_165, 0, [(0, .ref 234), (1, .int x1)], [], h1)) (mj_calls_v mj_dL_603 rfl rfl rfl z2 rfl rfl ⟨Nat.le_of_ble_eq_true rfl, ⟨Nat.le_of_ble_eq_true rfl, Nat.le_of_ble_eq_true rfl, Nat.le_of_ble_eq_true rfl, Nat.le_of_ble_eq_true rfl, Nat.le_of_ble_eq_true rfl⟩⟩) q2 ?_
  show mj_runsL _ (mj_law, 606, [(3, .int i), (2, .ref 234), (1, .ref 0), (0, .retAddr 0)], [.int r2], h2) _ _
  refine mj_runsL.step (S' := (mj_law, 607, [(3, .int i), (2, .ref 234), (1, .ref 0), (0, .retAddr 0)], [], h2)) (mj_one_of mj_dL_606 fun _ _ => rfl) ?_
  refine mj_runsL.step (S' := (mj_law, 1081, [(3, .int i), (2, .ref 234), (1, .ref 0), (0, .retAddr 0)], [], h2)) (mj_one_of mj_dL_607 fun _ _ => rfl) ?_
  exact K
set_option maxRecDepth 1000000 in
set_option maxHeartbeats 1000000 in
theorem lw_case_16 {sc : List Int32} {k : Nat} {i v : Int32} (hk : k < 100) (hi : i.toInt = ((5 * k : Nat) : Int)) {x1 : Int32} (e1 : sc[5 * k + 1]? = some x1) {x2 : Int32} (e2 : sc[5 * k + 2]? = some x2) {x3 : Int32} (e3 : sc[5 * k + 3]? = some x3) {h : mj_H} (hI : go_I h) (hv : v.toInt = 16) : ∃ h2, go_I h2 ∧ ∀ r h', mj_runsL sc (mj_law, 1081, [(3, .int i), (2, .ref 234), (1, .ref 0), (0, .retAddr 0)], [], h2) r h' → mj_runsL sc (mj_law, 32, [(3, .int i), (2, .ref 234), (1, .ref 0), (0, .retAddr 0)], [.int v], h) r h' := by
  obtain ⟨r1, r2, h1, h2, ⟨y1, z1⟩, ⟨y2, z2⟩, q1, q2, g2⟩ := go_burned x1 x2 x3 hI
  refine ⟨h2, g2, fun r h' K => ?_⟩
  refine mj_runsL.step (S' := (mj_law, 610, [(3, .int i), (2, .ref 234), (1, .ref 0), (0, .retAddr 0)], [], h)) (mj_one_tblIn mj_dL_32 (by rw [hv]; decide) (by rw [hv]; decide) (by rw [hv]; rfl) rfl) ?_
  refine mj_runsL.step (S' := (mj_law, 611, [(3, .int i), (2, .ref 234), (1, .ref 0), (0, .retAddr 0)], [.ref 0], h)) (mj_one_of mj_dL_610 fun _ _ => rfl) ?_
  refine mj_runsL.step (S' := (mj_law, 612, [(3, .int i), (2, .ref 234), (1, .ref 0), (0, .retAddr 0)], [.retAddr 0, .ref 0], h)) (mj_one_of mj_dL_611 fun _ _ => rfl) ?_
  refine mj_runsL.step (S' := (mj_law, 613, [(3, .int i), (2, .ref 234), (1, .ref 0), (0, .retAddr 0)], [.int i, .retAddr 0, .ref 0], h)) (mj_one_of mj_dL_612 fun _ _ => rfl) ?_
  refine mj_runsL.step (S' := (mj_law, 614, [(3, .int i), (2, .ref 234), (1, .ref 0), (0, .retAddr 0)], [.int (1 : Int32), .int i, .retAddr 0, .ref 0], h)) (mj_one_of mj_dL_613 fun _ _ => rfl) ?_
  refine mj_runsL.step (S' := (mj_law, 615, [(3, .int i), (2, .ref 234), (1, .ref 0), (0, .retAddr 0)], [.int (i + (1 : Int32)), .retAddr 0, .ref 0], h)) (mj_one_of mj_dL_614 fun _ _ => rfl) ?_
  refine mj_runsL.step (S' := (mj_law, 616, [(3, .int i), (2, .ref 234), (1, .ref 0), (0, .retAddr 0)], [.int x1, .ref 0], h)) (lw_ald mj_dL_615 (lw_add (m := 1) hi (by decide) (by omega)) e1) ?_
  refine mj_runsL.step (S' := (mj_law, 617, [(3, .int i), (2, .ref 234), (1, .ref 0), (0, .retAddr 0)], [.retAddr 0, .int x1, .ref 0], h)) (mj_one_of mj_dL_616 fun _ _ => rfl) ?_
  refine mj_runsL.step (S' := (mj_law, 618, [(3, .int i), (2, .ref 234), (1, .ref 0), (0, .retAddr 0)], [.int i, .retAddr 0, .int x1, .ref 0], h)) (mj_one_of mj_dL_617 fun _ _ => rfl) ?_
  refine mj_runsL.step (S' := (mj_law, 619, [(3, .int i), (2, .ref 234), (1, .ref 0), (0, .retAddr 0)], [.int (2 : Int32), .int i, .retAddr 0, .int x1, .ref 0], h)) (mj_one_of mj_dL_618 fun _ _ => rfl) ?_
  refine mj_runsL.step (S' := (mj_law, 620, [(3, .int i), (2, .ref 234), (1, .ref 0), (0, .retAddr 0)], [.int (i + (2 : Int32)), .retAddr 0, .int x1, .ref 0], h)) (mj_one_of mj_dL_619 fun _ _ => rfl) ?_
  refine mj_runsL.step (S' := (mj_law, 621, [(3, .int i), (2, .ref 234), (1, .ref 0), (0, .retAddr 0)], [.int x2, .int x1, .ref 0], h)) (lw_ald mj_dL_620 (lw_add (m := 2) hi (by decide) (by omega)) e2) ?_
  refine mj_runsL.step (S' := (mj_law, 622, [(3, .int i), (2, .ref 234), (1, .ref 0), (0, .retAddr 0)], [.retAddr 0, .int x2, .int x1, .ref 0], h)) (mj_one_of mj_dL_621 fun _ _ => rfl) ?_
  refine mj_runsL.step (S' := (mj_law, 623, [(3, .int i), (2, .ref 234), (1, .ref 0), (0, .retAddr 0)], [.int i, .retAddr 0, .int x2, .int x1, .ref 0], h)) (mj_one_of mj_dL_622 fun _ _ => rfl) ?_
  refine mj_runsL.step (S' := (mj_law, 624, [(3, .int i), (2, .ref 234), (1, .ref 0), (0, .retAddr 0)], [.int (3 : Int32), .int i, .retAddr 0, .int x2, .int x1, .ref 0], h)) (mj_one_of mj_dL_623 fun _ _ => rfl) ?_
  refine mj_runsL.step (S' := (mj_law, 625, [(3, .int i), (2, .ref 234), (1, .ref 0), (0, .retAddr 0)], [.int (i + (3 : Int32)), .retAddr 0, .int x2, .int x1, .ref 0], h)) (mj_one_of mj_dL_624 fun _ _ => rfl) ?_
  refine mj_runsL.step (S' := (mj_law, 626, [(3, .int i), (2, .ref 234), (1, .ref 0), (0, .retAddr 0)], [.int x3, .int x2, .int x1, .ref 0], h)) (lw_ald mj_dL_625 (lw_add (m := 3) hi (by decide) (by omega)) e3) ?_
  refine mj_runsL.call (S1 := (mj_m_70, 0, [(0, .ref 0), (1, .int x1), (2, .int x2), (3, .int x3)], [], h)) (mj_calls_v mj_dL_626 rfl rfl rfl z1 rfl rfl ⟨Nat.le_of_ble_eq_true rfl, ⟨Nat.le_of_ble_eq_true rfl, Nat.le_of_ble_eq_true rfl, Nat.le_of_ble_eq_true rfl, Nat.le_of_ble_eq_true rfl, Nat.le_of_ble_eq_true rfl⟩⟩) q1 ?_
  show mj_runsL _ (mj_law, 629, [(3, .int i), (2, .ref 234), (1, .ref 0), (0, .retAddr 0)], [.int r1], h1) _ _
  refine mj_runsL.step (S' := (mj_law, 630, [(3, .int i), (2, .ref 234), (1, .ref 0), (0, .retAddr 0)], [], h1)) (mj_one_of mj_dL_629 fun _ _ => rfl) ?_
  refine mj_runsL.step (S' := (mj_law, 631, [(3, .int i), (2, .ref 234), (1, .ref 0), (0, .retAddr 0)], [.ref 234], h1)) (mj_one_of mj_dL_630 fun _ _ => rfl) ?_
  refine mj_runsL.step (S' := (mj_law, 632, [(3, .int i), (2, .ref 234), (1, .ref 0), (0, .retAddr 0)], [.retAddr 0, .ref 234], h1)) (mj_one_of mj_dL_631 fun _ _ => rfl) ?_
  refine mj_runsL.step (S' := (mj_law, 633, [(3, .int i), (2, .ref 234), (1, .ref 0), (0, .retAddr 0)], [.int i, .retAddr 0, .ref 234], h1)) (mj_one_of mj_dL_632 fun _ _ => rfl) ?_
  refine mj_runsL.step (S' := (mj_law, 634, [(3, .int i), (2, .ref 234), (1, .ref 0), (0, .retAddr 0)], [.int (1 : Int32), .int i, .retAddr 0, .ref 234], h1)) (mj_one_of mj_dL_633 fun _ _ => rfl) ?_
  refine mj_runsL.step (S' := (mj_law, 635, [(3, .int i), (2, .ref 234), (1, .ref 0), (0, .retAddr 0)], [.int (i + (1 : Int32)), .retAddr 0, .ref 234], h1)) (mj_one_of mj_dL_634 fun _ _ => rfl) ?_
  refine mj_runsL.step (S' := (mj_law, 636, [(3, .int i), (2, .ref 234), (1, .ref 0), (0, .retAddr 0)], [.int x1, .ref 234], h1)) (lw_ald mj_dL_635 (lw_add (m := 1) hi (by decide) (by omega)) e1) ?_
  refine mj_runsL.step (S' := (mj_law, 637, [(3, .int i), (2, .ref 234), (1, .ref 0), (0, .retAddr 0)], [.retAddr 0, .int x1, .ref 234], h1)) (mj_one_of mj_dL_636 fun _ _ => rfl) ?_
  refine mj_runsL.step (S' := (mj_law, 638, [(3, .int i), (2, .ref 234), (1, .ref 0), (0, .retAddr 0)], [.int i, .retAddr 0, .int x1, .ref 234], h1)) (mj_one_of mj_dL_637 fun _ _ => rfl) ?_
  refine mj_runsL.step (S' := (mj_law, 639, [(3, .int i), (2, .ref 234), (1, .ref 0), (0, .retAddr 0)], [.int (2 : Int32), .int i, .retAddr 0, .int x1, .ref 234], h1)) (mj_one_of mj_dL_638 fun _ _ => rfl) ?_
  refine mj_runsL.step (S' := (mj_law, 640, [(3, .int i), (2, .ref 234), (1, .ref 0), (0, .retAddr 0)], [.int (i + (2 : Int32)), .retAddr 0, .int x1, .ref 234], h1)) (mj_one_of mj_dL_639 fun _ _ => rfl) ?_
  refine mj_runsL.step (S' := (mj_law, 641, [(3, .int i), (2, .ref 234), (1, .ref 0), (0, .retAddr 0)], [.int x2, .int x1, .ref 234], h1)) (lw_ald mj_dL_640 (lw_add (m := 2) hi (by decide) (by omega)) e2) ?_
  refine mj_runsL.step (S' := (mj_law, 642, [(3, .int i), (2, .ref 234), (1, .ref 0), (0, .retAddr 0)], [.retAddr 0, .int x2, .int x1, .ref 234], h1)) (mj_one_of mj_dL_641 fun _ _ => rfl) ?_
  refine mj_runsL.step (S' := (mj_law, 643, [(3, .int i), (2, .ref 234), (1, .ref 0), (0, .retAddr 0)], [.int i, .retAddr 0, .int x2, .int x1, .ref 234], h1)) (mj_one_of mj_dL_642 fun _ _ => rfl) ?_
  refine mj_runsL.step (S' := (mj_law, 644, [(3, .int i), (2, .ref 234), (1, .ref 0), (0, .retAddr 0)], [.int (3 : Int32), .int i, .retAddr 0, .int x2, .int x1, .ref 234], h1)) (mj_one_of mj_dL_643 fun _ _ => rfl) ?_
  refine mj_runsL.step (S' := (mj_law, 645, [(3, .int i), (2, .ref 234), (1, .ref 0), (0, .retAddr 0)], [.int (i + (3 : Int32)), .retAddr 0, .int x2, .int x1, .ref 234], h1)) (mj_one_of mj_dL_644 fun _ _ => rfl) ?_
  refine mj_runsL.step (S' := (mj_law, 646, [(3, .int i), (2, .ref 234), (1, .ref 0), (0, .retAddr 0)], [.int x3, .int x2, .int x1, .ref 234], h1)) (lw_ald mj_dL_645 (lw_add (m := 3) hi (by decide) (by omega)) e3) ?_
  refine mj_runsL.call (S1 := (mj_m_166, 0, [(0, .ref 234), (1, .int x1), (2, .int x2), (3, .int x3)], [], h1)) (mj_calls_v mj_dL_646 rfl rfl rfl z2 rfl rfl ⟨Nat.le_of_ble_eq_true rfl, ⟨Nat.le_of_ble_eq_true rfl, Nat.le_of_ble_eq_true rfl, Nat.le_of_ble_eq_true rfl, Nat.le_of_ble_eq_true rfl, Nat.le_of_ble_eq_true rfl⟩⟩) q2 ?_
  show mj_runsL _ (mj_law, 649, [(3, .int i), (2, .ref 234), (1, .ref 0), (0, .retAddr 0)], [.int r2], h2) _ _
  refine mj_runsL.step (S' := (mj_law, 650, [(3, .int i), (2, .ref 234), (1, .ref 0), (0, .retAddr 0)], [], h2)) (mj_one_of mj_dL_649 fun _ _ => rfl) ?_
  refine mj_runsL.step (S' := (mj_law, 1081, [(3, .int i), (2, .ref 234), (1, .ref 0), (0, .retAddr 0)], [], h2)) (mj_one_of mj_dL_650 fun _ _ => rfl) ?_
  exact K
set_option maxRecDepth 1000000 in
set_option maxHeartbeats 1000000 in
theorem lw_case_17 {sc : List Int32} {k : Nat} {i v : Int32} (hk : k < 100) (hi : i.toInt = ((5 * k : Nat) : Int)) {x1 : Int32} (e1 : sc[5 * k + 1]? = some x1) {x2 : Int32} (e2 : sc[5 * k + 2]? = some x2) {x3 : Int32} (e3 : sc[5 * k + 3]? = some x3) {h : mj_H} (hI : go_I h) (hv : v.toInt = 17) : ∃ h2, go_I h2 ∧ ∀ r h', mj_runsL sc (mj_law, 1081, [(3, .int i), (2, .ref 234), (1, .ref 0), (0, .retAddr 0)], [], h2) r h' → mj_runsL sc (mj_law, 32, [(3, .int i), (2, .ref 234), (1, .ref 0), (0, .retAddr 0)], [.int v], h) r h' := by
  obtain ⟨r1, r2, h1, h2, ⟨y1, z1⟩, ⟨y2, z2⟩, q1, q2, g2⟩ := go_sure x1 x2 x3 hI
  refine ⟨h2, g2, fun r h' K => ?_⟩
  refine mj_runsL.step (S' := (mj_law, 653, [(3, .int i), (2, .ref 234), (1, .ref 0), (0, .retAddr 0)], [], h)) (mj_one_tblIn mj_dL_32 (by rw [hv]; decide) (by rw [hv]; decide) (by rw [hv]; rfl) rfl) ?_
  refine mj_runsL.step (S' := (mj_law, 654, [(3, .int i), (2, .ref 234), (1, .ref 0), (0, .retAddr 0)], [.ref 0], h)) (mj_one_of mj_dL_653 fun _ _ => rfl) ?_
  refine mj_runsL.step (S' := (mj_law, 655, [(3, .int i), (2, .ref 234), (1, .ref 0), (0, .retAddr 0)], [.retAddr 0, .ref 0], h)) (mj_one_of mj_dL_654 fun _ _ => rfl) ?_
  refine mj_runsL.step (S' := (mj_law, 656, [(3, .int i), (2, .ref 234), (1, .ref 0), (0, .retAddr 0)], [.int i, .retAddr 0, .ref 0], h)) (mj_one_of mj_dL_655 fun _ _ => rfl) ?_
  refine mj_runsL.step (S' := (mj_law, 657, [(3, .int i), (2, .ref 234), (1, .ref 0), (0, .retAddr 0)], [.int (1 : Int32), .int i, .retAddr 0, .ref 0], h)) (mj_one_of mj_dL_656 fun _ _ => rfl) ?_
  refine mj_runsL.step (S' := (mj_law, 658, [(3, .int i), (2, .ref 234), (1, .ref 0), (0, .retAddr 0)], [.int (i + (1 : Int32)), .retAddr 0, .ref 0], h)) (mj_one_of mj_dL_657 fun _ _ => rfl) ?_
  refine mj_runsL.step (S' := (mj_law, 659, [(3, .int i), (2, .ref 234), (1, .ref 0), (0, .retAddr 0)], [.int x1, .ref 0], h)) (lw_ald mj_dL_658 (lw_add (m := 1) hi (by decide) (by omega)) e1) ?_
  refine mj_runsL.step (S' := (mj_law, 660, [(3, .int i), (2, .ref 234), (1, .ref 0), (0, .retAddr 0)], [.retAddr 0, .int x1, .ref 0], h)) (mj_one_of mj_dL_659 fun _ _ => rfl) ?_
  refine mj_runsL.step (S' := (mj_law, 661, [(3, .int i), (2, .ref 234), (1, .ref 0), (0, .retAddr 0)], [.int i, .retAddr 0, .int x1, .ref 0], h)) (mj_one_of mj_dL_660 fun _ _ => rfl) ?_
  refine mj_runsL.step (S' := (mj_law, 662, [(3, .int i), (2, .ref 234), (1, .ref 0), (0, .retAddr 0)], [.int (2 : Int32), .int i, .retAddr 0, .int x1, .ref 0], h)) (mj_one_of mj_dL_661 fun _ _ => rfl) ?_
  refine mj_runsL.step (S' := (mj_law, 663, [(3, .int i), (2, .ref 234), (1, .ref 0), (0, .retAddr 0)], [.int (i + (2 : Int32)), .retAddr 0, .int x1, .ref 0], h)) (mj_one_of mj_dL_662 fun _ _ => rfl) ?_
  refine mj_runsL.step (S' := (mj_law, 664, [(3, .int i), (2, .ref 234), (1, .ref 0), (0, .retAddr 0)], [.int x2, .int x1, .ref 0], h)) (lw_ald mj_dL_663 (lw_add (m := 2) hi (by decide) (by omega)) e2) ?_
  refine mj_runsL.step (S' := (mj_law, 665, [(3, .int i), (2, .ref 234), (1, .ref 0), (0, .retAddr 0)], [.retAddr 0, .int x2, .int x1, .ref 0], h)) (mj_one_of mj_dL_664 fun _ _ => rfl) ?_
  refine mj_runsL.step (S' := (mj_law, 666, [(3, .int i), (2, .ref 234), (1, .ref 0), (0, .retAddr 0)], [.int i, .retAddr 0, .int x2, .int x1, .ref 0], h)) (mj_one_of mj_dL_665 fun _ _ => rfl) ?_
  refine mj_runsL.step (S' := (mj_law, 667, [(3, .int i), (2, .ref 234), (1, .ref 0), (0, .retAddr 0)], [.int (3 : Int32), .int i, .retAddr 0, .int x2, .int x1, .ref 0], h)) (mj_one_of mj_dL_666 fun _ _ => rfl) ?_
  refine mj_runsL.step (S' := (mj_law, 668, [(3, .int i), (2, .ref 234), (1, .ref 0), (0, .retAddr 0)], [.int (i + (3 : Int32)), .retAddr 0, .int x2, .int x1, .ref 0], h)) (mj_one_of mj_dL_667 fun _ _ => rfl) ?_
  refine mj_runsL.step (S' := (mj_law, 669, [(3, .int i), (2, .ref 234), (1, .ref 0), (0, .retAddr 0)], [.int x3, .int x2, .int x1, .ref 0], h)) (lw_ald mj_dL_668 (lw_add (m := 3) hi (by decide) (by omega)) e3) ?_
  refine mj_runsL.call (S1 := (mj_m_80, 0, [(0, .ref 0), (1, .int x1), (2, .int x2), (3, .int x3)], [], h)) (mj_calls_v mj_dL_669 rfl rfl rfl z1 rfl rfl ⟨Nat.le_of_ble_eq_true rfl, ⟨Nat.le_of_ble_eq_true rfl, Nat.le_of_ble_eq_true rfl, Nat.le_of_ble_eq_true rfl, Nat.le_of_ble_eq_true rfl, Nat.le_of_ble_eq_true rfl⟩⟩) q1 ?_
  show mj_runsL _ (mj_law, 672, [(3, .int i), (2, .ref 234), (1, .ref 0), (0, .retAddr 0)], [.int r1], h1) _ _
  refine mj_runsL.step (S' := (mj_law, 673, [(3, .int i), (2, .ref 234), (1, .ref 0), (0, .retAddr 0)], [], h1)) (mj_one_of mj_dL_672 fun _ _ => rfl) ?_
  refine mj_runsL.step (S' := (mj_law, 674, [(3, .int i), (2, .ref 234), (1, .ref 0), (0, .retAddr 0)], [.ref 234], h1)) (mj_one_of mj_dL_673 fun _ _ => rfl) ?_
  refine mj_runsL.step (S' := (mj_law, 675, [(3, .int i), (2, .ref 234), (1, .ref 0), (0, .retAddr 0)], [.retAddr 0, .ref 234], h1)) (mj_one_of mj_dL_674 fun _ _ => rfl) ?_
  refine mj_runsL.step (S' := (mj_law, 676, [(3, .int i), (2, .ref 234), (1, .ref 0), (0, .retAddr 0)], [.int i, .retAddr 0, .ref 234], h1)) (mj_one_of mj_dL_675 fun _ _ => rfl) ?_
  refine mj_runsL.step (S' := (mj_law, 677, [(3, .int i), (2, .ref 234), (1, .ref 0), (0, .retAddr 0)], [.int (1 : Int32), .int i, .retAddr 0, .ref 234], h1)) (mj_one_of mj_dL_676 fun _ _ => rfl) ?_
  refine mj_runsL.step (S' := (mj_law, 678, [(3, .int i), (2, .ref 234), (1, .ref 0), (0, .retAddr 0)], [.int (i + (1 : Int32)), .retAddr 0, .ref 234], h1)) (mj_one_of mj_dL_677 fun _ _ => rfl) ?_
  refine mj_runsL.step (S' := (mj_law, 679, [(3, .int i), (2, .ref 234), (1, .ref 0), (0, .retAddr 0)], [.int x1, .ref 234], h1)) (lw_ald mj_dL_678 (lw_add (m := 1) hi (by decide) (by omega)) e1) ?_
  refine mj_runsL.step (S' := (mj_law, 680, [(3, .int i), (2, .ref 234), (1, .ref 0), (0, .retAddr 0)], [.retAddr 0, .int x1, .ref 234], h1)) (mj_one_of mj_dL_679 fun _ _ => rfl) ?_
  refine mj_runsL.step (S' := (mj_law, 681, [(3, .int i), (2, .ref 234), (1, .ref 0), (0, .retAddr 0)], [.int i, .retAddr 0, .int x1, .ref 234], h1)) (mj_one_of mj_dL_680 fun _ _ => rfl) ?_
  refine mj_runsL.step (S' := (mj_law, 682, [(3, .int i), (2, .ref 234), (1, .ref 0), (0, .retAddr 0)], [.int (2 : Int32), .int i, .retAddr 0, .int x1, .ref 234], h1)) (mj_one_of mj_dL_681 fun _ _ => rfl) ?_
  refine mj_runsL.step (S' := (mj_law, 683, [(3, .int i), (2, .ref 234), (1, .ref 0), (0, .retAddr 0)], [.int (i + (2 : Int32)), .retAddr 0, .int x1, .ref 234], h1)) (mj_one_of mj_dL_682 fun _ _ => rfl) ?_
  refine mj_runsL.step (S' := (mj_law, 684, [(3, .int i), (2, .ref 234), (1, .ref 0), (0, .retAddr 0)], [.int x2, .int x1, .ref 234], h1)) (lw_ald mj_dL_683 (lw_add (m := 2) hi (by decide) (by omega)) e2) ?_
  refine mj_runsL.step (S' := (mj_law, 685, [(3, .int i), (2, .ref 234), (1, .ref 0), (0, .retAddr 0)], [.retAddr 0, .int x2, .int x1, .ref 234], h1)) (mj_one_of mj_dL_684 fun _ _ => rfl) ?_
  refine mj_runsL.step (S' := (mj_law, 686, [(3, .int i), (2, .ref 234), (1, .ref 0), (0, .retAddr 0)], [.int i, .retAddr 0, .int x2, .int x1, .ref 234], h1)) (mj_one_of mj_dL_685 fun _ _ => rfl) ?_
  refine mj_runsL.step (S' := (mj_law, 687, [(3, .int i), (2, .ref 234), (1, .ref 0), (0, .retAddr 0)], [.int (3 : Int32), .int i, .retAddr 0, .int x2, .int x1, .ref 234], h1)) (mj_one_of mj_dL_686 fun _ _ => rfl) ?_
  refine mj_runsL.step (S' := (mj_law, 688, [(3, .int i), (2, .ref 234), (1, .ref 0), (0, .retAddr 0)], [.int (i + (3 : Int32)), .retAddr 0, .int x2, .int x1, .ref 234], h1)) (mj_one_of mj_dL_687 fun _ _ => rfl) ?_
  refine mj_runsL.step (S' := (mj_law, 689, [(3, .int i), (2, .ref 234), (1, .ref 0), (0, .retAddr 0)], [.int x3, .int x2, .int x1, .ref 234], h1)) (lw_ald mj_dL_688 (lw_add (m := 3) hi (by decide) (by omega)) e3) ?_
  refine mj_runsL.call (S1 := (mj_m_168, 0, [(0, .ref 234), (1, .int x1), (2, .int x2), (3, .int x3)], [], h1)) (mj_calls_v mj_dL_689 rfl rfl rfl z2 rfl rfl ⟨Nat.le_of_ble_eq_true rfl, ⟨Nat.le_of_ble_eq_true rfl, Nat.le_of_ble_eq_true rfl, Nat.le_of_ble_eq_true rfl, Nat.le_of_ble_eq_true rfl, Nat.le_of_ble_eq_true rfl⟩⟩) q2 ?_
  show mj_runsL _ (mj_law, 692, [(3, .int i), (2, .ref 234), (1, .ref 0), (0, .retAddr 0)], [.int r2], h2) _ _
  refine mj_runsL.step (S' := (mj_law, 693, [(3, .int i), (2, .ref 234), (1, .ref 0), (0, .retAddr 0)], [], h2)) (mj_one_of mj_dL_692 fun _ _ => rfl) ?_
  refine mj_runsL.step (S' := (mj_law, 1081, [(3, .int i), (2, .ref 234), (1, .ref 0), (0, .retAddr 0)], [], h2)) (mj_one_of mj_dL_693 fun _ _ => rfl) ?_
  exact K
set_option maxRecDepth 1000000 in
set_option maxHeartbeats 1000000 in
theorem lw_case_18 {sc : List Int32} {k : Nat} {i v : Int32} (hk : k < 100) (hi : i.toInt = ((5 * k : Nat) : Int)) {x1 : Int32} (e1 : sc[5 * k + 1]? = some x1) {x2 : Int32} (e2 : sc[5 * k + 2]? = some x2) {h : mj_H} (hI : go_I h) (hv : v.toInt = 18) : ∃ h2, go_I h2 ∧ ∀ r h', mj_runsL sc (mj_law, 1081, [(3, .int i), (2, .ref 234), (1, .ref 0), (0, .retAddr 0)], [], h2) r h' → mj_runsL sc (mj_law, 32, [(3, .int i), (2, .ref 234), (1, .ref 0), (0, .retAddr 0)], [.int v], h) r h' := by
  obtain ⟨r1, r2, h1, h2, ⟨y1, z1⟩, ⟨y2, z2⟩, q1, q2, g2⟩ := go_flues x1 x2 hI
  refine ⟨h2, g2, fun r h' K => ?_⟩
  refine mj_runsL.step (S' := (mj_law, 696, [(3, .int i), (2, .ref 234), (1, .ref 0), (0, .retAddr 0)], [], h)) (mj_one_tblIn mj_dL_32 (by rw [hv]; decide) (by rw [hv]; decide) (by rw [hv]; rfl) rfl) ?_
  refine mj_runsL.step (S' := (mj_law, 697, [(3, .int i), (2, .ref 234), (1, .ref 0), (0, .retAddr 0)], [.ref 0], h)) (mj_one_of mj_dL_696 fun _ _ => rfl) ?_
  refine mj_runsL.step (S' := (mj_law, 698, [(3, .int i), (2, .ref 234), (1, .ref 0), (0, .retAddr 0)], [.retAddr 0, .ref 0], h)) (mj_one_of mj_dL_697 fun _ _ => rfl) ?_
  refine mj_runsL.step (S' := (mj_law, 699, [(3, .int i), (2, .ref 234), (1, .ref 0), (0, .retAddr 0)], [.int i, .retAddr 0, .ref 0], h)) (mj_one_of mj_dL_698 fun _ _ => rfl) ?_
  refine mj_runsL.step (S' := (mj_law, 700, [(3, .int i), (2, .ref 234), (1, .ref 0), (0, .retAddr 0)], [.int (1 : Int32), .int i, .retAddr 0, .ref 0], h)) (mj_one_of mj_dL_699 fun _ _ => rfl) ?_
  refine mj_runsL.step (S' := (mj_law, 701, [(3, .int i), (2, .ref 234), (1, .ref 0), (0, .retAddr 0)], [.int (i + (1 : Int32)), .retAddr 0, .ref 0], h)) (mj_one_of mj_dL_700 fun _ _ => rfl) ?_
  refine mj_runsL.step (S' := (mj_law, 702, [(3, .int i), (2, .ref 234), (1, .ref 0), (0, .retAddr 0)], [.int x1, .ref 0], h)) (lw_ald mj_dL_701 (lw_add (m := 1) hi (by decide) (by omega)) e1) ?_
  refine mj_runsL.step (S' := (mj_law, 703, [(3, .int i), (2, .ref 234), (1, .ref 0), (0, .retAddr 0)], [.retAddr 0, .int x1, .ref 0], h)) (mj_one_of mj_dL_702 fun _ _ => rfl) ?_
  refine mj_runsL.step (S' := (mj_law, 704, [(3, .int i), (2, .ref 234), (1, .ref 0), (0, .retAddr 0)], [.int i, .retAddr 0, .int x1, .ref 0], h)) (mj_one_of mj_dL_703 fun _ _ => rfl) ?_
  refine mj_runsL.step (S' := (mj_law, 705, [(3, .int i), (2, .ref 234), (1, .ref 0), (0, .retAddr 0)], [.int (2 : Int32), .int i, .retAddr 0, .int x1, .ref 0], h)) (mj_one_of mj_dL_704 fun _ _ => rfl) ?_
  refine mj_runsL.step (S' := (mj_law, 706, [(3, .int i), (2, .ref 234), (1, .ref 0), (0, .retAddr 0)], [.int (i + (2 : Int32)), .retAddr 0, .int x1, .ref 0], h)) (mj_one_of mj_dL_705 fun _ _ => rfl) ?_
  refine mj_runsL.step (S' := (mj_law, 707, [(3, .int i), (2, .ref 234), (1, .ref 0), (0, .retAddr 0)], [.int x2, .int x1, .ref 0], h)) (lw_ald mj_dL_706 (lw_add (m := 2) hi (by decide) (by omega)) e2) ?_
  refine mj_runsL.call (S1 := (mj_m_82, 0, [(0, .ref 0), (1, .int x1), (2, .int x2)], [], h)) (mj_calls_v mj_dL_707 rfl rfl rfl z1 rfl rfl ⟨Nat.le_of_ble_eq_true rfl, ⟨Nat.le_of_ble_eq_true rfl, Nat.le_of_ble_eq_true rfl, Nat.le_of_ble_eq_true rfl, Nat.le_of_ble_eq_true rfl, Nat.le_of_ble_eq_true rfl⟩⟩) q1 ?_
  show mj_runsL _ (mj_law, 710, [(3, .int i), (2, .ref 234), (1, .ref 0), (0, .retAddr 0)], [.int r1], h1) _ _
  refine mj_runsL.step (S' := (mj_law, 711, [(3, .int i), (2, .ref 234), (1, .ref 0), (0, .retAddr 0)], [], h1)) (mj_one_of mj_dL_710 fun _ _ => rfl) ?_
  refine mj_runsL.step (S' := (mj_law, 712, [(3, .int i), (2, .ref 234), (1, .ref 0), (0, .retAddr 0)], [.ref 234], h1)) (mj_one_of mj_dL_711 fun _ _ => rfl) ?_
  refine mj_runsL.step (S' := (mj_law, 713, [(3, .int i), (2, .ref 234), (1, .ref 0), (0, .retAddr 0)], [.retAddr 0, .ref 234], h1)) (mj_one_of mj_dL_712 fun _ _ => rfl) ?_
  refine mj_runsL.step (S' := (mj_law, 714, [(3, .int i), (2, .ref 234), (1, .ref 0), (0, .retAddr 0)], [.int i, .retAddr 0, .ref 234], h1)) (mj_one_of mj_dL_713 fun _ _ => rfl) ?_
  refine mj_runsL.step (S' := (mj_law, 715, [(3, .int i), (2, .ref 234), (1, .ref 0), (0, .retAddr 0)], [.int (1 : Int32), .int i, .retAddr 0, .ref 234], h1)) (mj_one_of mj_dL_714 fun _ _ => rfl) ?_
  refine mj_runsL.step (S' := (mj_law, 716, [(3, .int i), (2, .ref 234), (1, .ref 0), (0, .retAddr 0)], [.int (i + (1 : Int32)), .retAddr 0, .ref 234], h1)) (mj_one_of mj_dL_715 fun _ _ => rfl) ?_
  refine mj_runsL.step (S' := (mj_law, 717, [(3, .int i), (2, .ref 234), (1, .ref 0), (0, .retAddr 0)], [.int x1, .ref 234], h1)) (lw_ald mj_dL_716 (lw_add (m := 1) hi (by decide) (by omega)) e1) ?_
  refine mj_runsL.step (S' := (mj_law, 718, [(3, .int i), (2, .ref 234), (1, .ref 0), (0, .retAddr 0)], [.retAddr 0, .int x1, .ref 234], h1)) (mj_one_of mj_dL_717 fun _ _ => rfl) ?_
  refine mj_runsL.step (S' := (mj_law, 719, [(3, .int i), (2, .ref 234), (1, .ref 0), (0, .retAddr 0)], [.int i, .retAddr 0, .int x1, .ref 234], h1)) (mj_one_of mj_dL_718 fun _ _ => rfl) ?_
  refine mj_runsL.step (S' := (mj_law, 720, [(3, .int i), (2, .ref 234), (1, .ref 0), (0, .retAddr 0)], [.int (2 : Int32), .int i, .retAddr 0, .int x1, .ref 234], h1)) (mj_one_of mj_dL_719 fun _ _ => rfl) ?_
  refine mj_runsL.step (S' := (mj_law, 721, [(3, .int i), (2, .ref 234), (1, .ref 0), (0, .retAddr 0)], [.int (i + (2 : Int32)), .retAddr 0, .int x1, .ref 234], h1)) (mj_one_of mj_dL_720 fun _ _ => rfl) ?_
  refine mj_runsL.step (S' := (mj_law, 722, [(3, .int i), (2, .ref 234), (1, .ref 0), (0, .retAddr 0)], [.int x2, .int x1, .ref 234], h1)) (lw_ald mj_dL_721 (lw_add (m := 2) hi (by decide) (by omega)) e2) ?_
  refine mj_runsL.call (S1 := (mj_m_169, 0, [(0, .ref 234), (1, .int x1), (2, .int x2)], [], h1)) (mj_calls_v mj_dL_722 rfl rfl rfl z2 rfl rfl ⟨Nat.le_of_ble_eq_true rfl, ⟨Nat.le_of_ble_eq_true rfl, Nat.le_of_ble_eq_true rfl, Nat.le_of_ble_eq_true rfl, Nat.le_of_ble_eq_true rfl, Nat.le_of_ble_eq_true rfl⟩⟩) q2 ?_
  show mj_runsL _ (mj_law, 725, [(3, .int i), (2, .ref 234), (1, .ref 0), (0, .retAddr 0)], [.int r2], h2) _ _
  refine mj_runsL.step (S' := (mj_law, 726, [(3, .int i), (2, .ref 234), (1, .ref 0), (0, .retAddr 0)], [], h2)) (mj_one_of mj_dL_725 fun _ _ => rfl) ?_
  refine mj_runsL.step (S' := (mj_law, 1081, [(3, .int i), (2, .ref 234), (1, .ref 0), (0, .retAddr 0)], [], h2)) (mj_one_of mj_dL_726 fun _ _ => rfl) ?_
  exact K
set_option maxRecDepth 1000000 in
set_option maxHeartbeats 1000000 in
theorem lw_case_19 {sc : List Int32} {k : Nat} {i v : Int32} (hk : k < 100) (hi : i.toInt = ((5 * k : Nat) : Int)) {x1 : Int32} (e1 : sc[5 * k + 1]? = some x1) {x2 : Int32} (e2 : sc[5 * k + 2]? = some x2) {x3 : Int32} (e3 : sc[5 * k + 3]? = some x3) {h : mj_H} (hI : go_I h) (hv : v.toInt = 19) : ∃ h2, go_I h2 ∧ ∀ r h', mj_runsL sc (mj_law, 1081, [(3, .int i), (2, .ref 234), (1, .ref 0), (0, .retAddr 0)], [], h2) r h' → mj_runsL sc (mj_law, 32, [(3, .int i), (2, .ref 234), (1, .ref 0), (0, .retAddr 0)], [.int v], h) r h' := by
  obtain ⟨r1, r2, h1, h2, ⟨y1, z1⟩, ⟨y2, z2⟩, q1, q2, g2⟩ := go_trade x1 x2 x3 hI
  refine ⟨h2, g2, fun r h' K => ?_⟩
  refine mj_runsL.step (S' := (mj_law, 729, [(3, .int i), (2, .ref 234), (1, .ref 0), (0, .retAddr 0)], [], h)) (mj_one_tblIn mj_dL_32 (by rw [hv]; decide) (by rw [hv]; decide) (by rw [hv]; rfl) rfl) ?_
  refine mj_runsL.step (S' := (mj_law, 730, [(3, .int i), (2, .ref 234), (1, .ref 0), (0, .retAddr 0)], [.ref 0], h)) (mj_one_of mj_dL_729 fun _ _ => rfl) ?_
  refine mj_runsL.step (S' := (mj_law, 731, [(3, .int i), (2, .ref 234), (1, .ref 0), (0, .retAddr 0)], [.retAddr 0, .ref 0], h)) (mj_one_of mj_dL_730 fun _ _ => rfl) ?_
  refine mj_runsL.step (S' := (mj_law, 732, [(3, .int i), (2, .ref 234), (1, .ref 0), (0, .retAddr 0)], [.int i, .retAddr 0, .ref 0], h)) (mj_one_of mj_dL_731 fun _ _ => rfl) ?_
  refine mj_runsL.step (S' := (mj_law, 733, [(3, .int i), (2, .ref 234), (1, .ref 0), (0, .retAddr 0)], [.int (1 : Int32), .int i, .retAddr 0, .ref 0], h)) (mj_one_of mj_dL_732 fun _ _ => rfl) ?_
  refine mj_runsL.step (S' := (mj_law, 734, [(3, .int i), (2, .ref 234), (1, .ref 0), (0, .retAddr 0)], [.int (i + (1 : Int32)), .retAddr 0, .ref 0], h)) (mj_one_of mj_dL_733 fun _ _ => rfl) ?_
  refine mj_runsL.step (S' := (mj_law, 735, [(3, .int i), (2, .ref 234), (1, .ref 0), (0, .retAddr 0)], [.int x1, .ref 0], h)) (lw_ald mj_dL_734 (lw_add (m := 1) hi (by decide) (by omega)) e1) ?_
  refine mj_runsL.step (S' := (mj_law, 736, [(3, .int i), (2, .ref 234), (1, .ref 0), (0, .retAddr 0)], [.retAddr 0, .int x1, .ref 0], h)) (mj_one_of mj_dL_735 fun _ _ => rfl) ?_
  refine mj_runsL.step (S' := (mj_law, 737, [(3, .int i), (2, .ref 234), (1, .ref 0), (0, .retAddr 0)], [.int i, .retAddr 0, .int x1, .ref 0], h)) (mj_one_of mj_dL_736 fun _ _ => rfl) ?_
  refine mj_runsL.step (S' := (mj_law, 738, [(3, .int i), (2, .ref 234), (1, .ref 0), (0, .retAddr 0)], [.int (2 : Int32), .int i, .retAddr 0, .int x1, .ref 0], h)) (mj_one_of mj_dL_737 fun _ _ => rfl) ?_
  refine mj_runsL.step (S' := (mj_law, 739, [(3, .int i), (2, .ref 234), (1, .ref 0), (0, .retAddr 0)], [.int (i + (2 : Int32)), .retAddr 0, .int x1, .ref 0], h)) (mj_one_of mj_dL_738 fun _ _ => rfl) ?_
  refine mj_runsL.step (S' := (mj_law, 740, [(3, .int i), (2, .ref 234), (1, .ref 0), (0, .retAddr 0)], [.int x2, .int x1, .ref 0], h)) (lw_ald mj_dL_739 (lw_add (m := 2) hi (by decide) (by omega)) e2) ?_
  refine mj_runsL.step (S' := (mj_law, 741, [(3, .int i), (2, .ref 234), (1, .ref 0), (0, .retAddr 0)], [.retAddr 0, .int x2, .int x1, .ref 0], h)) (mj_one_of mj_dL_740 fun _ _ => rfl) ?_
  refine mj_runsL.step (S' := (mj_law, 742, [(3, .int i), (2, .ref 234), (1, .ref 0), (0, .retAddr 0)], [.int i, .retAddr 0, .int x2, .int x1, .ref 0], h)) (mj_one_of mj_dL_741 fun _ _ => rfl) ?_
  refine mj_runsL.step (S' := (mj_law, 743, [(3, .int i), (2, .ref 234), (1, .ref 0), (0, .retAddr 0)], [.int (3 : Int32), .int i, .retAddr 0, .int x2, .int x1, .ref 0], h)) (mj_one_of mj_dL_742 fun _ _ => rfl) ?_
  refine mj_runsL.step (S' := (mj_law, 744, [(3, .int i), (2, .ref 234), (1, .ref 0), (0, .retAddr 0)], [.int (i + (3 : Int32)), .retAddr 0, .int x2, .int x1, .ref 0], h)) (mj_one_of mj_dL_743 fun _ _ => rfl) ?_
  refine mj_runsL.step (S' := (mj_law, 745, [(3, .int i), (2, .ref 234), (1, .ref 0), (0, .retAddr 0)], [.int x3, .int x2, .int x1, .ref 0], h)) (lw_ald mj_dL_744 (lw_add (m := 3) hi (by decide) (by omega)) e3) ?_
  refine mj_runsL.call (S1 := (mj_m_86, 0, [(0, .ref 0), (1, .int x1), (2, .int x2), (3, .int x3)], [], h)) (mj_calls_v mj_dL_745 rfl rfl rfl z1 rfl rfl ⟨Nat.le_of_ble_eq_true rfl, ⟨Nat.le_of_ble_eq_true rfl, Nat.le_of_ble_eq_true rfl, Nat.le_of_ble_eq_true rfl, Nat.le_of_ble_eq_true rfl, Nat.le_of_ble_eq_true rfl⟩⟩) q1 ?_
  show mj_runsL _ (mj_law, 748, [(3, .int i), (2, .ref 234), (1, .ref 0), (0, .retAddr 0)], [.int r1], h1) _ _
  refine mj_runsL.step (S' := (mj_law, 749, [(3, .int i), (2, .ref 234), (1, .ref 0), (0, .retAddr 0)], [], h1)) (mj_one_of mj_dL_748 fun _ _ => rfl) ?_
  refine mj_runsL.step (S' := (mj_law, 750, [(3, .int i), (2, .ref 234), (1, .ref 0), (0, .retAddr 0)], [.ref 234], h1)) (mj_one_of mj_dL_749 fun _ _ => rfl) ?_
  refine mj_runsL.step (S' := (mj_law, 751, [(3, .int i), (2, .ref 234), (1, .ref 0), (0, .retAddr 0)], [.retAddr 0, .ref 234], h1)) (mj_one_of mj_dL_750 fun _ _ => rfl) ?_
  refine mj_runsL.step (S' := (mj_law, 752, [(3, .int i), (2, .ref 234), (1, .ref 0), (0, .retAddr 0)], [.int i, .retAddr 0, .ref 234], h1)) (mj_one_of mj_dL_751 fun _ _ => rfl) ?_
  refine mj_runsL.step (S' := (mj_law, 753, [(3, .int i), (2, .ref 234), (1, .ref 0), (0, .retAddr 0)], [.int (1 : Int32), .int i, .retAddr 0, .ref 234], h1)) (mj_one_of mj_dL_752 fun _ _ => rfl) ?_
  refine mj_runsL.step (S' := (mj_law, 754, [(3, .int i), (2, .ref 234), (1, .ref 0), (0, .retAddr 0)], [.int (i + (1 : Int32)), .retAddr 0, .ref 234], h1)) (mj_one_of mj_dL_753 fun _ _ => rfl) ?_
  refine mj_runsL.step (S' := (mj_law, 755, [(3, .int i), (2, .ref 234), (1, .ref 0), (0, .retAddr 0)], [.int x1, .ref 234], h1)) (lw_ald mj_dL_754 (lw_add (m := 1) hi (by decide) (by omega)) e1) ?_
  refine mj_runsL.step (S' := (mj_law, 756, [(3, .int i), (2, .ref 234), (1, .ref 0), (0, .retAddr 0)], [.retAddr 0, .int x1, .ref 234], h1)) (mj_one_of mj_dL_755 fun _ _ => rfl) ?_
  refine mj_runsL.step (S' := (mj_law, 757, [(3, .int i), (2, .ref 234), (1, .ref 0), (0, .retAddr 0)], [.int i, .retAddr 0, .int x1, .ref 234], h1)) (mj_one_of mj_dL_756 fun _ _ => rfl) ?_
  refine mj_runsL.step (S' := (mj_law, 758, [(3, .int i), (2, .ref 234), (1, .ref 0), (0, .retAddr 0)], [.int (2 : Int32), .int i, .retAddr 0, .int x1, .ref 234], h1)) (mj_one_of mj_dL_757 fun _ _ => rfl) ?_
  refine mj_runsL.step (S' := (mj_law, 759, [(3, .int i), (2, .ref 234), (1, .ref 0), (0, .retAddr 0)], [.int (i + (2 : Int32)), .retAddr 0, .int x1, .ref 234], h1)) (mj_one_of mj_dL_758 fun _ _ => rfl) ?_
  refine mj_runsL.step (S' := (mj_law, 760, [(3, .int i), (2, .ref 234), (1, .ref 0), (0, .retAddr 0)], [.int x2, .int x1, .ref 234], h1)) (lw_ald mj_dL_759 (lw_add (m := 2) hi (by decide) (by omega)) e2) ?_
  refine mj_runsL.step (S' := (mj_law, 761, [(3, .int i), (2, .ref 234), (1, .ref 0), (0, .retAddr 0)], [.retAddr 0, .int x2, .int x1, .ref 234], h1)) (mj_one_of mj_dL_760 fun _ _ => rfl) ?_
  refine mj_runsL.step (S' := (mj_law, 762, [(3, .int i), (2, .ref 234), (1, .ref 0), (0, .retAddr 0)], [.int i, .retAddr 0, .int x2, .int x1, .ref 234], h1)) (mj_one_of mj_dL_761 fun _ _ => rfl) ?_
  refine mj_runsL.step (S' := (mj_law, 763, [(3, .int i), (2, .ref 234), (1, .ref 0), (0, .retAddr 0)], [.int (3 : Int32), .int i, .retAddr 0, .int x2, .int x1, .ref 234], h1)) (mj_one_of mj_dL_762 fun _ _ => rfl) ?_
  refine mj_runsL.step (S' := (mj_law, 764, [(3, .int i), (2, .ref 234), (1, .ref 0), (0, .retAddr 0)], [.int (i + (3 : Int32)), .retAddr 0, .int x2, .int x1, .ref 234], h1)) (mj_one_of mj_dL_763 fun _ _ => rfl) ?_
  refine mj_runsL.step (S' := (mj_law, 765, [(3, .int i), (2, .ref 234), (1, .ref 0), (0, .retAddr 0)], [.int x3, .int x2, .int x1, .ref 234], h1)) (lw_ald mj_dL_764 (lw_add (m := 3) hi (by decide) (by omega)) e3) ?_
  refine mj_runsL.call (S1 := (mj_m_173, 0, [(0, .ref 234), (1, .int x1), (2, .int x2), (3, .int x3)], [], h1)) (mj_calls_v mj_dL_765 rfl rfl rfl z2 rfl rfl ⟨Nat.le_of_ble_eq_true rfl, ⟨Nat.le_of_ble_eq_true rfl, Nat.le_of_ble_eq_true rfl, Nat.le_of_ble_eq_true rfl, Nat.le_of_ble_eq_true rfl, Nat.le_of_ble_eq_true rfl⟩⟩) q2 ?_
  show mj_runsL _ (mj_law, 768, [(3, .int i), (2, .ref 234), (1, .ref 0), (0, .retAddr 0)], [.int r2], h2) _ _
  refine mj_runsL.step (S' := (mj_law, 769, [(3, .int i), (2, .ref 234), (1, .ref 0), (0, .retAddr 0)], [], h2)) (mj_one_of mj_dL_768 fun _ _ => rfl) ?_
  refine mj_runsL.step (S' := (mj_law, 1081, [(3, .int i), (2, .ref 234), (1, .ref 0), (0, .retAddr 0)], [], h2)) (mj_one_of mj_dL_769 fun _ _ => rfl) ?_
  exact K
set_option maxRecDepth 1000000 in
set_option maxHeartbeats 1000000 in
theorem lw_case_20 {sc : List Int32} {k : Nat} {i v : Int32} (hk : k < 100) (hi : i.toInt = ((5 * k : Nat) : Int)) {x1 : Int32} (e1 : sc[5 * k + 1]? = some x1) {h : mj_H} (hI : go_I h) (hv : v.toInt = 20) : ∃ h2, go_I h2 ∧ ∀ r h', mj_runsL sc (mj_law, 1081, [(3, .int i), (2, .ref 234), (1, .ref 0), (0, .retAddr 0)], [], h2) r h' → mj_runsL sc (mj_law, 32, [(3, .int i), (2, .ref 234), (1, .ref 0), (0, .retAddr 0)], [.int v], h) r h' := by
  obtain ⟨r1, r2, h1, h2, ⟨y1, z1⟩, ⟨y2, z2⟩, q1, q2, g2⟩ := go_ring x1 hI
  refine ⟨h2, g2, fun r h' K => ?_⟩
  refine mj_runsL.step (S' := (mj_law, 772, [(3, .int i), (2, .ref 234), (1, .ref 0), (0, .retAddr 0)], [], h)) (mj_one_tblIn mj_dL_32 (by rw [hv]; decide) (by rw [hv]; decide) (by rw [hv]; rfl) rfl) ?_
  refine mj_runsL.step (S' := (mj_law, 773, [(3, .int i), (2, .ref 234), (1, .ref 0), (0, .retAddr 0)], [.ref 0], h)) (mj_one_of mj_dL_772 fun _ _ => rfl) ?_
  refine mj_runsL.step (S' := (mj_law, 774, [(3, .int i), (2, .ref 234), (1, .ref 0), (0, .retAddr 0)], [.retAddr 0, .ref 0], h)) (mj_one_of mj_dL_773 fun _ _ => rfl) ?_
  refine mj_runsL.step (S' := (mj_law, 775, [(3, .int i), (2, .ref 234), (1, .ref 0), (0, .retAddr 0)], [.int i, .retAddr 0, .ref 0], h)) (mj_one_of mj_dL_774 fun _ _ => rfl) ?_
  refine mj_runsL.step (S' := (mj_law, 776, [(3, .int i), (2, .ref 234), (1, .ref 0), (0, .retAddr 0)], [.int (1 : Int32), .int i, .retAddr 0, .ref 0], h)) (mj_one_of mj_dL_775 fun _ _ => rfl) ?_
  refine mj_runsL.step (S' := (mj_law, 777, [(3, .int i), (2, .ref 234), (1, .ref 0), (0, .retAddr 0)], [.int (i + (1 : Int32)), .retAddr 0, .ref 0], h)) (mj_one_of mj_dL_776 fun _ _ => rfl) ?_
  refine mj_runsL.step (S' := (mj_law, 778, [(3, .int i), (2, .ref 234), (1, .ref 0), (0, .retAddr 0)], [.int x1, .ref 0], h)) (lw_ald mj_dL_777 (lw_add (m := 1) hi (by decide) (by omega)) e1) ?_
  refine mj_runsL.call (S1 := (mj_m_98, 0, [(0, .ref 0), (1, .int x1)], [], h)) (mj_calls_v mj_dL_778 rfl rfl rfl z1 rfl rfl ⟨Nat.le_of_ble_eq_true rfl, ⟨Nat.le_of_ble_eq_true rfl, Nat.le_of_ble_eq_true rfl, Nat.le_of_ble_eq_true rfl, Nat.le_of_ble_eq_true rfl, Nat.le_of_ble_eq_true rfl⟩⟩) q1 ?_
  show mj_runsL _ (mj_law, 781, [(3, .int i), (2, .ref 234), (1, .ref 0), (0, .retAddr 0)], [.int r1], h1) _ _
  refine mj_runsL.step (S' := (mj_law, 782, [(3, .int i), (2, .ref 234), (1, .ref 0), (0, .retAddr 0)], [], h1)) (mj_one_of mj_dL_781 fun _ _ => rfl) ?_
  refine mj_runsL.step (S' := (mj_law, 783, [(3, .int i), (2, .ref 234), (1, .ref 0), (0, .retAddr 0)], [.ref 234], h1)) (mj_one_of mj_dL_782 fun _ _ => rfl) ?_
  refine mj_runsL.step (S' := (mj_law, 784, [(3, .int i), (2, .ref 234), (1, .ref 0), (0, .retAddr 0)], [.retAddr 0, .ref 234], h1)) (mj_one_of mj_dL_783 fun _ _ => rfl) ?_
  refine mj_runsL.step (S' := (mj_law, 785, [(3, .int i), (2, .ref 234), (1, .ref 0), (0, .retAddr 0)], [.int i, .retAddr 0, .ref 234], h1)) (mj_one_of mj_dL_784 fun _ _ => rfl) ?_
  refine mj_runsL.step (S' := (mj_law, 786, [(3, .int i), (2, .ref 234), (1, .ref 0), (0, .retAddr 0)], [.int (1 : Int32), .int i, .retAddr 0, .ref 234], h1)) (mj_one_of mj_dL_785 fun _ _ => rfl) ?_
  refine mj_runsL.step (S' := (mj_law, 787, [(3, .int i), (2, .ref 234), (1, .ref 0), (0, .retAddr 0)], [.int (i + (1 : Int32)), .retAddr 0, .ref 234], h1)) (mj_one_of mj_dL_786 fun _ _ => rfl) ?_
  refine mj_runsL.step (S' := (mj_law, 788, [(3, .int i), (2, .ref 234), (1, .ref 0), (0, .retAddr 0)], [.int x1, .ref 234], h1)) (lw_ald mj_dL_787 (lw_add (m := 1) hi (by decide) (by omega)) e1) ?_
  refine mj_runsL.call (S1 := (mj_m_177, 0, [(0, .ref 234), (1, .int x1)], [], h1)) (mj_calls_v mj_dL_788 rfl rfl rfl z2 rfl rfl ⟨Nat.le_of_ble_eq_true rfl, ⟨Nat.le_of_ble_eq_true rfl, Nat.le_of_ble_eq_true rfl, Nat.le_of_ble_eq_true rfl, Nat.le_of_ble_eq_true rfl, Nat.le_of_ble_eq_true rfl⟩⟩) q2 ?_
  show mj_runsL _ (mj_law, 791, [(3, .int i), (2, .ref 234), (1, .ref 0), (0, .retAddr 0)], [.int r2], h2) _ _
  refine mj_runsL.step (S' := (mj_law, 792, [(3, .int i), (2, .ref 234), (1, .ref 0), (0, .retAddr 0)], [], h2)) (mj_one_of mj_dL_791 fun _ _ => rfl) ?_
  refine mj_runsL.step (S' := (mj_law, 1081, [(3, .int i), (2, .ref 234), (1, .ref 0), (0, .retAddr 0)], [], h2)) (mj_one_of mj_dL_792 fun _ _ => rfl) ?_
  exact K
set_option maxRecDepth 1000000 in
set_option maxHeartbeats 1000000 in
theorem lw_case_21 {sc : List Int32} {k : Nat} {i v : Int32} (hk : k < 100) (hi : i.toInt = ((5 * k : Nat) : Int)) {x1 : Int32} (e1 : sc[5 * k + 1]? = some x1) {x2 : Int32} (e2 : sc[5 * k + 2]? = some x2) {h : mj_H} (hI : go_I h) (hv : v.toInt = 21) : ∃ h2, go_I h2 ∧ ∀ r h', mj_runsL sc (mj_law, 1081, [(3, .int i), (2, .ref 234), (1, .ref 0), (0, .retAddr 0)], [], h2) r h' → mj_runsL sc (mj_law, 32, [(3, .int i), (2, .ref 234), (1, .ref 0), (0, .retAddr 0)], [.int v], h) r h' := by
  obtain ⟨r1, r2, h1, h2, ⟨y1, z1⟩, ⟨y2, z2⟩, q1, q2, g2⟩ := go_brushes x1 x2 hI
  refine ⟨h2, g2, fun r h' K => ?_⟩
  refine mj_runsL.step (S' := (mj_law, 795, [(3, .int i), (2, .ref 234), (1, .ref 0), (0, .retAddr 0)], [], h)) (mj_one_tblIn mj_dL_32 (by rw [hv]; decide) (by rw [hv]; decide) (by rw [hv]; rfl) rfl) ?_
  refine mj_runsL.step (S' := (mj_law, 796, [(3, .int i), (2, .ref 234), (1, .ref 0), (0, .retAddr 0)], [.ref 0], h)) (mj_one_of mj_dL_795 fun _ _ => rfl) ?_
  refine mj_runsL.step (S' := (mj_law, 797, [(3, .int i), (2, .ref 234), (1, .ref 0), (0, .retAddr 0)], [.retAddr 0, .ref 0], h)) (mj_one_of mj_dL_796 fun _ _ => rfl) ?_
  refine mj_runsL.step (S' := (mj_law, 798, [(3, .int i), (2, .ref 234), (1, .ref 0), (0, .retAddr 0)], [.int i, .retAddr 0, .ref 0], h)) (mj_one_of mj_dL_797 fun _ _ => rfl) ?_
  refine mj_runsL.step (S' := (mj_law, 799, [(3, .int i), (2, .ref 234), (1, .ref 0), (0, .retAddr 0)], [.int (1 : Int32), .int i, .retAddr 0, .ref 0], h)) (mj_one_of mj_dL_798 fun _ _ => rfl) ?_
  refine mj_runsL.step (S' := (mj_law, 800, [(3, .int i), (2, .ref 234), (1, .ref 0), (0, .retAddr 0)], [.int (i + (1 : Int32)), .retAddr 0, .ref 0], h)) (mj_one_of mj_dL_799 fun _ _ => rfl) ?_
  refine mj_runsL.step (S' := (mj_law, 801, [(3, .int i), (2, .ref 234), (1, .ref 0), (0, .retAddr 0)], [.int x1, .ref 0], h)) (lw_ald mj_dL_800 (lw_add (m := 1) hi (by decide) (by omega)) e1) ?_
  refine mj_runsL.step (S' := (mj_law, 802, [(3, .int i), (2, .ref 234), (1, .ref 0), (0, .retAddr 0)], [.retAddr 0, .int x1, .ref 0], h)) (mj_one_of mj_dL_801 fun _ _ => rfl) ?_
  refine mj_runsL.step (S' := (mj_law, 803, [(3, .int i), (2, .ref 234), (1, .ref 0), (0, .retAddr 0)], [.int i, .retAddr 0, .int x1, .ref 0], h)) (mj_one_of mj_dL_802 fun _ _ => rfl) ?_
  refine mj_runsL.step (S' := (mj_law, 804, [(3, .int i), (2, .ref 234), (1, .ref 0), (0, .retAddr 0)], [.int (2 : Int32), .int i, .retAddr 0, .int x1, .ref 0], h)) (mj_one_of mj_dL_803 fun _ _ => rfl) ?_
  refine mj_runsL.step (S' := (mj_law, 805, [(3, .int i), (2, .ref 234), (1, .ref 0), (0, .retAddr 0)], [.int (i + (2 : Int32)), .retAddr 0, .int x1, .ref 0], h)) (mj_one_of mj_dL_804 fun _ _ => rfl) ?_
  refine mj_runsL.step (S' := (mj_law, 806, [(3, .int i), (2, .ref 234), (1, .ref 0), (0, .retAddr 0)], [.int x2, .int x1, .ref 0], h)) (lw_ald mj_dL_805 (lw_add (m := 2) hi (by decide) (by omega)) e2) ?_
  refine mj_runsL.call (S1 := (mj_m_101, 0, [(0, .ref 0), (1, .int x1), (2, .int x2)], [], h)) (mj_calls_v mj_dL_806 rfl rfl rfl z1 rfl rfl ⟨Nat.le_of_ble_eq_true rfl, ⟨Nat.le_of_ble_eq_true rfl, Nat.le_of_ble_eq_true rfl, Nat.le_of_ble_eq_true rfl, Nat.le_of_ble_eq_true rfl, Nat.le_of_ble_eq_true rfl⟩⟩) q1 ?_
  show mj_runsL _ (mj_law, 809, [(3, .int i), (2, .ref 234), (1, .ref 0), (0, .retAddr 0)], [.int r1], h1) _ _
  refine mj_runsL.step (S' := (mj_law, 810, [(3, .int i), (2, .ref 234), (1, .ref 0), (0, .retAddr 0)], [], h1)) (mj_one_of mj_dL_809 fun _ _ => rfl) ?_
  refine mj_runsL.step (S' := (mj_law, 811, [(3, .int i), (2, .ref 234), (1, .ref 0), (0, .retAddr 0)], [.ref 234], h1)) (mj_one_of mj_dL_810 fun _ _ => rfl) ?_
  refine mj_runsL.step (S' := (mj_law, 812, [(3, .int i), (2, .ref 234), (1, .ref 0), (0, .retAddr 0)], [.retAddr 0, .ref 234], h1)) (mj_one_of mj_dL_811 fun _ _ => rfl) ?_
  refine mj_runsL.step (S' := (mj_law, 813, [(3, .int i), (2, .ref 234), (1, .ref 0), (0, .retAddr 0)], [.int i, .retAddr 0, .ref 234], h1)) (mj_one_of mj_dL_812 fun _ _ => rfl) ?_
  refine mj_runsL.step (S' := (mj_law, 814, [(3, .int i), (2, .ref 234), (1, .ref 0), (0, .retAddr 0)], [.int (1 : Int32), .int i, .retAddr 0, .ref 234], h1)) (mj_one_of mj_dL_813 fun _ _ => rfl) ?_
  refine mj_runsL.step (S' := (mj_law, 815, [(3, .int i), (2, .ref 234), (1, .ref 0), (0, .retAddr 0)], [.int (i + (1 : Int32)), .retAddr 0, .ref 234], h1)) (mj_one_of mj_dL_814 fun _ _ => rfl) ?_
  refine mj_runsL.step (S' := (mj_law, 816, [(3, .int i), (2, .ref 234), (1, .ref 0), (0, .retAddr 0)], [.int x1, .ref 234], h1)) (lw_ald mj_dL_815 (lw_add (m := 1) hi (by decide) (by omega)) e1) ?_
  refine mj_runsL.step (S' := (mj_law, 817, [(3, .int i), (2, .ref 234), (1, .ref 0), (0, .retAddr 0)], [.retAddr 0, .int x1, .ref 234], h1)) (mj_one_of mj_dL_816 fun _ _ => rfl) ?_
  refine mj_runsL.step (S' := (mj_law, 818, [(3, .int i), (2, .ref 234), (1, .ref 0), (0, .retAddr 0)], [.int i, .retAddr 0, .int x1, .ref 234], h1)) (mj_one_of mj_dL_817 fun _ _ => rfl) ?_
  refine mj_runsL.step (S' := (mj_law, 819, [(3, .int i), (2, .ref 234), (1, .ref 0), (0, .retAddr 0)], [.int (2 : Int32), .int i, .retAddr 0, .int x1, .ref 234], h1)) (mj_one_of mj_dL_818 fun _ _ => rfl) ?_
  refine mj_runsL.step (S' := (mj_law, 820, [(3, .int i), (2, .ref 234), (1, .ref 0), (0, .retAddr 0)], [.int (i + (2 : Int32)), .retAddr 0, .int x1, .ref 234], h1)) (mj_one_of mj_dL_819 fun _ _ => rfl) ?_
  refine mj_runsL.step (S' := (mj_law, 821, [(3, .int i), (2, .ref 234), (1, .ref 0), (0, .retAddr 0)], [.int x2, .int x1, .ref 234], h1)) (lw_ald mj_dL_820 (lw_add (m := 2) hi (by decide) (by omega)) e2) ?_
  refine mj_runsL.call (S1 := (mj_m_180, 0, [(0, .ref 234), (1, .int x1), (2, .int x2)], [], h1)) (mj_calls_v mj_dL_821 rfl rfl rfl z2 rfl rfl ⟨Nat.le_of_ble_eq_true rfl, ⟨Nat.le_of_ble_eq_true rfl, Nat.le_of_ble_eq_true rfl, Nat.le_of_ble_eq_true rfl, Nat.le_of_ble_eq_true rfl, Nat.le_of_ble_eq_true rfl⟩⟩) q2 ?_
  show mj_runsL _ (mj_law, 824, [(3, .int i), (2, .ref 234), (1, .ref 0), (0, .retAddr 0)], [.int r2], h2) _ _
  refine mj_runsL.step (S' := (mj_law, 825, [(3, .int i), (2, .ref 234), (1, .ref 0), (0, .retAddr 0)], [], h2)) (mj_one_of mj_dL_824 fun _ _ => rfl) ?_
  refine mj_runsL.step (S' := (mj_law, 1081, [(3, .int i), (2, .ref 234), (1, .ref 0), (0, .retAddr 0)], [], h2)) (mj_one_of mj_dL_825 fun _ _ => rfl) ?_
  exact K
set_option maxRecDepth 1000000 in
set_option maxHeartbeats 1000000 in
theorem lw_case_22 {sc : List Int32} {k : Nat} {i v : Int32} (hk : k < 100) (hi : i.toInt = ((5 * k : Nat) : Int)) {x1 : Int32} (e1 : sc[5 * k + 1]? = some x1) {x2 : Int32} (e2 : sc[5 * k + 2]? = some x2) {h : mj_H} (hI : go_I h) (hv : v.toInt = 22) : ∃ h2, go_I h2 ∧ ∀ r h', mj_runsL sc (mj_law, 1081, [(3, .int i), (2, .ref 234), (1, .ref 0), (0, .retAddr 0)], [], h2) r h' → mj_runsL sc (mj_law, 32, [(3, .int i), (2, .ref 234), (1, .ref 0), (0, .retAddr 0)], [.int v], h) r h' := by
  obtain ⟨r1, r2, h1, h2, ⟨y1, z1⟩, ⟨y2, z2⟩, q1, q2, g2⟩ := go_wet x1 x2 hI
  refine ⟨h2, g2, fun r h' K => ?_⟩
  refine mj_runsL.step (S' := (mj_law, 828, [(3, .int i), (2, .ref 234), (1, .ref 0), (0, .retAddr 0)], [], h)) (mj_one_tblIn mj_dL_32 (by rw [hv]; decide) (by rw [hv]; decide) (by rw [hv]; rfl) rfl) ?_
  refine mj_runsL.step (S' := (mj_law, 829, [(3, .int i), (2, .ref 234), (1, .ref 0), (0, .retAddr 0)], [.ref 0], h)) (mj_one_of mj_dL_828 fun _ _ => rfl) ?_
  refine mj_runsL.step (S' := (mj_law, 830, [(3, .int i), (2, .ref 234), (1, .ref 0), (0, .retAddr 0)], [.retAddr 0, .ref 0], h)) (mj_one_of mj_dL_829 fun _ _ => rfl) ?_
  refine mj_runsL.step (S' := (mj_law, 831, [(3, .int i), (2, .ref 234), (1, .ref 0), (0, .retAddr 0)], [.int i, .retAddr 0, .ref 0], h)) (mj_one_of mj_dL_830 fun _ _ => rfl) ?_
  refine mj_runsL.step (S' := (mj_law, 832, [(3, .int i), (2, .ref 234), (1, .ref 0), (0, .retAddr 0)], [.int (1 : Int32), .int i, .retAddr 0, .ref 0], h)) (mj_one_of mj_dL_831 fun _ _ => rfl) ?_
  refine mj_runsL.step (S' := (mj_law, 833, [(3, .int i), (2, .ref 234), (1, .ref 0), (0, .retAddr 0)], [.int (i + (1 : Int32)), .retAddr 0, .ref 0], h)) (mj_one_of mj_dL_832 fun _ _ => rfl) ?_
  refine mj_runsL.step (S' := (mj_law, 834, [(3, .int i), (2, .ref 234), (1, .ref 0), (0, .retAddr 0)], [.int x1, .ref 0], h)) (lw_ald mj_dL_833 (lw_add (m := 1) hi (by decide) (by omega)) e1) ?_
  refine mj_runsL.step (S' := (mj_law, 835, [(3, .int i), (2, .ref 234), (1, .ref 0), (0, .retAddr 0)], [.retAddr 0, .int x1, .ref 0], h)) (mj_one_of mj_dL_834 fun _ _ => rfl) ?_
  refine mj_runsL.step (S' := (mj_law, 836, [(3, .int i), (2, .ref 234), (1, .ref 0), (0, .retAddr 0)], [.int i, .retAddr 0, .int x1, .ref 0], h)) (mj_one_of mj_dL_835 fun _ _ => rfl) ?_
  refine mj_runsL.step (S' := (mj_law, 837, [(3, .int i), (2, .ref 234), (1, .ref 0), (0, .retAddr 0)], [.int (2 : Int32), .int i, .retAddr 0, .int x1, .ref 0], h)) (mj_one_of mj_dL_836 fun _ _ => rfl) ?_
  refine mj_runsL.step (S' := (mj_law, 838, [(3, .int i), (2, .ref 234), (1, .ref 0), (0, .retAddr 0)], [.int (i + (2 : Int32)), .retAddr 0, .int x1, .ref 0], h)) (mj_one_of mj_dL_837 fun _ _ => rfl) ?_
  refine mj_runsL.step (S' := (mj_law, 839, [(3, .int i), (2, .ref 234), (1, .ref 0), (0, .retAddr 0)], [.int x2, .int x1, .ref 0], h)) (lw_ald mj_dL_838 (lw_add (m := 2) hi (by decide) (by omega)) e2) ?_
  refine mj_runsL.call (S1 := (mj_m_105, 0, [(0, .ref 0), (1, .int x1), (2, .int x2)], [], h)) (mj_calls_v mj_dL_839 rfl rfl rfl z1 rfl rfl ⟨Nat.le_of_ble_eq_true rfl, ⟨Nat.le_of_ble_eq_true rfl, Nat.le_of_ble_eq_true rfl, Nat.le_of_ble_eq_true rfl, Nat.le_of_ble_eq_true rfl, Nat.le_of_ble_eq_true rfl⟩⟩) q1 ?_
  show mj_runsL _ (mj_law, 842, [(3, .int i), (2, .ref 234), (1, .ref 0), (0, .retAddr 0)], [.int r1], h1) _ _
  refine mj_runsL.step (S' := (mj_law, 843, [(3, .int i), (2, .ref 234), (1, .ref 0), (0, .retAddr 0)], [], h1)) (mj_one_of mj_dL_842 fun _ _ => rfl) ?_
  refine mj_runsL.step (S' := (mj_law, 844, [(3, .int i), (2, .ref 234), (1, .ref 0), (0, .retAddr 0)], [.ref 234], h1)) (mj_one_of mj_dL_843 fun _ _ => rfl) ?_
  refine mj_runsL.step (S' := (mj_law, 845, [(3, .int i), (2, .ref 234), (1, .ref 0), (0, .retAddr 0)], [.retAddr 0, .ref 234], h1)) (mj_one_of mj_dL_844 fun _ _ => rfl) ?_
  refine mj_runsL.step (S' := (mj_law, 846, [(3, .int i), (2, .ref 234), (1, .ref 0), (0, .retAddr 0)], [.int i, .retAddr 0, .ref 234], h1)) (mj_one_of mj_dL_845 fun _ _ => rfl) ?_
  refine mj_runsL.step (S' := (mj_law, 847, [(3, .int i), (2, .ref 234), (1, .ref 0), (0, .retAddr 0)], [.int (1 : Int32), .int i, .retAddr 0, .ref 234], h1)) (mj_one_of mj_dL_846 fun _ _ => rfl) ?_
  refine mj_runsL.step (S' := (mj_law, 848, [(3, .int i), (2, .ref 234), (1, .ref 0), (0, .retAddr 0)], [.int (i + (1 : Int32)), .retAddr 0, .ref 234], h1)) (mj_one_of mj_dL_847 fun _ _ => rfl) ?_
  refine mj_runsL.step (S' := (mj_law, 849, [(3, .int i), (2, .ref 234), (1, .ref 0), (0, .retAddr 0)], [.int x1, .ref 234], h1)) (lw_ald mj_dL_848 (lw_add (m := 1) hi (by decide) (by omega)) e1) ?_
  refine mj_runsL.step (S' := (mj_law, 850, [(3, .int i), (2, .ref 234), (1, .ref 0), (0, .retAddr 0)], [.retAddr 0, .int x1, .ref 234], h1)) (mj_one_of mj_dL_849 fun _ _ => rfl) ?_
  refine mj_runsL.step (S' := (mj_law, 851, [(3, .int i), (2, .ref 234), (1, .ref 0), (0, .retAddr 0)], [.int i, .retAddr 0, .int x1, .ref 234], h1)) (mj_one_of mj_dL_850 fun _ _ => rfl) ?_
  refine mj_runsL.step (S' := (mj_law, 852, [(3, .int i), (2, .ref 234), (1, .ref 0), (0, .retAddr 0)], [.int (2 : Int32), .int i, .retAddr 0, .int x1, .ref 234], h1)) (mj_one_of mj_dL_851 fun _ _ => rfl) ?_
  refine mj_runsL.step (S' := (mj_law, 853, [(3, .int i), (2, .ref 234), (1, .ref 0), (0, .retAddr 0)], [.int (i + (2 : Int32)), .retAddr 0, .int x1, .ref 234], h1)) (mj_one_of mj_dL_852 fun _ _ => rfl) ?_
  refine mj_runsL.step (S' := (mj_law, 854, [(3, .int i), (2, .ref 234), (1, .ref 0), (0, .retAddr 0)], [.int x2, .int x1, .ref 234], h1)) (lw_ald mj_dL_853 (lw_add (m := 2) hi (by decide) (by omega)) e2) ?_
  refine mj_runsL.call (S1 := (mj_m_181, 0, [(0, .ref 234), (1, .int x1), (2, .int x2)], [], h1)) (mj_calls_v mj_dL_854 rfl rfl rfl z2 rfl rfl ⟨Nat.le_of_ble_eq_true rfl, ⟨Nat.le_of_ble_eq_true rfl, Nat.le_of_ble_eq_true rfl, Nat.le_of_ble_eq_true rfl, Nat.le_of_ble_eq_true rfl, Nat.le_of_ble_eq_true rfl⟩⟩) q2 ?_
  show mj_runsL _ (mj_law, 857, [(3, .int i), (2, .ref 234), (1, .ref 0), (0, .retAddr 0)], [.int r2], h2) _ _
  refine mj_runsL.step (S' := (mj_law, 858, [(3, .int i), (2, .ref 234), (1, .ref 0), (0, .retAddr 0)], [], h2)) (mj_one_of mj_dL_857 fun _ _ => rfl) ?_
  refine mj_runsL.step (S' := (mj_law, 1081, [(3, .int i), (2, .ref 234), (1, .ref 0), (0, .retAddr 0)], [], h2)) (mj_one_of mj_dL_858 fun _ _ => rfl) ?_
  exact K
set_option maxRecDepth 1000000 in
set_option maxHeartbeats 1000000 in
theorem lw_case_23 {sc : List Int32} {k : Nat} {i v : Int32} (hk : k < 100) (hi : i.toInt = ((5 * k : Nat) : Int)) {x1 : Int32} (e1 : sc[5 * k + 1]? = some x1) {x2 : Int32} (e2 : sc[5 * k + 2]? = some x2) {x3 : Int32} (e3 : sc[5 * k + 3]? = some x3) {h : mj_H} (hI : go_I h) (hv : v.toInt = 23) : ∃ h2, go_I h2 ∧ ∀ r h', mj_runsL sc (mj_law, 1081, [(3, .int i), (2, .ref 234), (1, .ref 0), (0, .retAddr 0)], [], h2) r h' → mj_runsL sc (mj_law, 32, [(3, .int i), (2, .ref 234), (1, .ref 0), (0, .retAddr 0)], [.int v], h) r h' := by
  by_cases c0 : x3.toInt = 0
  · obtain ⟨r1, r2, h1, h2, ⟨y1, z1⟩, ⟨y2, z2⟩, q1, q2, g2⟩ := go_see x1 x2 (0 : Int32) (by decide) hI
    refine ⟨h2, g2, fun r h' K => ?_⟩
    refine mj_runsL.step (S' := (mj_law, 861, [(3, .int i), (2, .ref 234), (1, .ref 0), (0, .retAddr 0)], [], h)) (mj_one_tblIn mj_dL_32 (by rw [hv]; decide) (by rw [hv]; decide) (by rw [hv]; rfl) rfl) ?_
    refine mj_runsL.step (S' := (mj_law, 862, [(3, .int i), (2, .ref 234), (1, .ref 0), (0, .retAddr 0)], [.ref 0], h)) (mj_one_of mj_dL_861 fun _ _ => rfl) ?_
    refine mj_runsL.step (S' := (mj_law, 863, [(3, .int i), (2, .ref 234), (1, .ref 0), (0, .retAddr 0)], [.retAddr 0, .ref 0], h)) (mj_one_of mj_dL_862 fun _ _ => rfl) ?_
    refine mj_runsL.step (S' := (mj_law, 864, [(3, .int i), (2, .ref 234), (1, .ref 0), (0, .retAddr 0)], [.int i, .retAddr 0, .ref 0], h)) (mj_one_of mj_dL_863 fun _ _ => rfl) ?_
    refine mj_runsL.step (S' := (mj_law, 865, [(3, .int i), (2, .ref 234), (1, .ref 0), (0, .retAddr 0)], [.int (1 : Int32), .int i, .retAddr 0, .ref 0], h)) (mj_one_of mj_dL_864 fun _ _ => rfl) ?_
    refine mj_runsL.step (S' := (mj_law, 866, [(3, .int i), (2, .ref 234), (1, .ref 0), (0, .retAddr 0)], [.int (i + (1 : Int32)), .retAddr 0, .ref 0], h)) (mj_one_of mj_dL_865 fun _ _ => rfl) ?_
    refine mj_runsL.step (S' := (mj_law, 867, [(3, .int i), (2, .ref 234), (1, .ref 0), (0, .retAddr 0)], [.int x1, .ref 0], h)) (lw_ald mj_dL_866 (lw_add (m := 1) hi (by decide) (by omega)) e1) ?_
    refine mj_runsL.step (S' := (mj_law, 868, [(3, .int i), (2, .ref 234), (1, .ref 0), (0, .retAddr 0)], [.retAddr 0, .int x1, .ref 0], h)) (mj_one_of mj_dL_867 fun _ _ => rfl) ?_
    refine mj_runsL.step (S' := (mj_law, 869, [(3, .int i), (2, .ref 234), (1, .ref 0), (0, .retAddr 0)], [.int i, .retAddr 0, .int x1, .ref 0], h)) (mj_one_of mj_dL_868 fun _ _ => rfl) ?_
    refine mj_runsL.step (S' := (mj_law, 870, [(3, .int i), (2, .ref 234), (1, .ref 0), (0, .retAddr 0)], [.int (2 : Int32), .int i, .retAddr 0, .int x1, .ref 0], h)) (mj_one_of mj_dL_869 fun _ _ => rfl) ?_
    refine mj_runsL.step (S' := (mj_law, 871, [(3, .int i), (2, .ref 234), (1, .ref 0), (0, .retAddr 0)], [.int (i + (2 : Int32)), .retAddr 0, .int x1, .ref 0], h)) (mj_one_of mj_dL_870 fun _ _ => rfl) ?_
    refine mj_runsL.step (S' := (mj_law, 872, [(3, .int i), (2, .ref 234), (1, .ref 0), (0, .retAddr 0)], [.int x2, .int x1, .ref 0], h)) (lw_ald mj_dL_871 (lw_add (m := 2) hi (by decide) (by omega)) e2) ?_
    refine mj_runsL.step (S' := (mj_law, 873, [(3, .int i), (2, .ref 234), (1, .ref 0), (0, .retAddr 0)], [.retAddr 0, .int x2, .int x1, .ref 0], h)) (mj_one_of mj_dL_872 fun _ _ => rfl) ?_
    refine mj_runsL.step (S' := (mj_law, 874, [(3, .int i), (2, .ref 234), (1, .ref 0), (0, .retAddr 0)], [.int i, .retAddr 0, .int x2, .int x1, .ref 0], h)) (mj_one_of mj_dL_873 fun _ _ => rfl) ?_
    refine mj_runsL.step (S' := (mj_law, 875, [(3, .int i), (2, .ref 234), (1, .ref 0), (0, .retAddr 0)], [.int (3 : Int32), .int i, .retAddr 0, .int x2, .int x1, .ref 0], h)) (mj_one_of mj_dL_874 fun _ _ => rfl) ?_
    refine mj_runsL.step (S' := (mj_law, 876, [(3, .int i), (2, .ref 234), (1, .ref 0), (0, .retAddr 0)], [.int (i + (3 : Int32)), .retAddr 0, .int x2, .int x1, .ref 0], h)) (mj_one_of mj_dL_875 fun _ _ => rfl) ?_
    refine mj_runsL.step (S' := (mj_law, 877, [(3, .int i), (2, .ref 234), (1, .ref 0), (0, .retAddr 0)], [.int x3, .int x2, .int x1, .ref 0], h)) (lw_ald mj_dL_876 (lw_add (m := 3) hi (by decide) (by omega)) e3) ?_
    refine mj_runsL.step (S' := (mj_law, 884, [(3, .int i), (2, .ref 234), (1, .ref 0), (0, .retAddr 0)], [.int x2, .int x1, .ref 0], h)) (mj_one_ifT mj_dL_877 rfl (mj_cT_eq (rfl : (x3).toInt = (x3).toInt) (show (0 : Int32).toInt = 0 by decide) (by omega))) ?_
    refine mj_runsL.step (S' := (mj_law, 885, [(3, .int i), (2, .ref 234), (1, .ref 0), (0, .retAddr 0)], [.int (0 : Int32), .int x2, .int x1, .ref 0], h)) (mj_one_of mj_dL_884 fun _ _ => rfl) ?_
    refine mj_runsL.call (S1 := (mj_m_106, 0, [(0, .ref 0), (1, .int x1), (2, .int x2), (3, .int (0 : Int32))], [], h)) (mj_calls_v mj_dL_885 rfl rfl rfl z1 rfl rfl ⟨Nat.le_of_ble_eq_true rfl, ⟨Nat.le_of_ble_eq_true rfl, Nat.le_of_ble_eq_true rfl, Nat.le_of_ble_eq_true rfl, Nat.le_of_ble_eq_true rfl, Nat.le_of_ble_eq_true rfl⟩⟩) q1 ?_
    show mj_runsL _ (mj_law, 888, [(3, .int i), (2, .ref 234), (1, .ref 0), (0, .retAddr 0)], [.int r1], h1) _ _
    refine mj_runsL.step (S' := (mj_law, 889, [(3, .int i), (2, .ref 234), (1, .ref 0), (0, .retAddr 0)], [], h1)) (mj_one_of mj_dL_888 fun _ _ => rfl) ?_
    refine mj_runsL.step (S' := (mj_law, 890, [(3, .int i), (2, .ref 234), (1, .ref 0), (0, .retAddr 0)], [.ref 234], h1)) (mj_one_of mj_dL_889 fun _ _ => rfl) ?_
    refine mj_runsL.step (S' := (mj_law, 891, [(3, .int i), (2, .ref 234), (1, .ref 0), (0, .retAddr 0)], [.retAddr 0, .ref 234], h1)) (mj_one_of mj_dL_890 fun _ _ => rfl) ?_
    refine mj_runsL.step (S' := (mj_law, 892, [(3, .int i), (2, .ref 234), (1, .ref 0), (0, .retAddr 0)], [.int i, .retAddr 0, .ref 234], h1)) (mj_one_of mj_dL_891 fun _ _ => rfl) ?_
    refine mj_runsL.step (S' := (mj_law, 893, [(3, .int i), (2, .ref 234), (1, .ref 0), (0, .retAddr 0)], [.int (1 : Int32), .int i, .retAddr 0, .ref 234], h1)) (mj_one_of mj_dL_892 fun _ _ => rfl) ?_
    refine mj_runsL.step (S' := (mj_law, 894, [(3, .int i), (2, .ref 234), (1, .ref 0), (0, .retAddr 0)], [.int (i + (1 : Int32)), .retAddr 0, .ref 234], h1)) (mj_one_of mj_dL_893 fun _ _ => rfl) ?_
    refine mj_runsL.step (S' := (mj_law, 895, [(3, .int i), (2, .ref 234), (1, .ref 0), (0, .retAddr 0)], [.int x1, .ref 234], h1)) (lw_ald mj_dL_894 (lw_add (m := 1) hi (by decide) (by omega)) e1) ?_
    refine mj_runsL.step (S' := (mj_law, 896, [(3, .int i), (2, .ref 234), (1, .ref 0), (0, .retAddr 0)], [.retAddr 0, .int x1, .ref 234], h1)) (mj_one_of mj_dL_895 fun _ _ => rfl) ?_
    refine mj_runsL.step (S' := (mj_law, 897, [(3, .int i), (2, .ref 234), (1, .ref 0), (0, .retAddr 0)], [.int i, .retAddr 0, .int x1, .ref 234], h1)) (mj_one_of mj_dL_896 fun _ _ => rfl) ?_
    refine mj_runsL.step (S' := (mj_law, 898, [(3, .int i), (2, .ref 234), (1, .ref 0), (0, .retAddr 0)], [.int (2 : Int32), .int i, .retAddr 0, .int x1, .ref 234], h1)) (mj_one_of mj_dL_897 fun _ _ => rfl) ?_
    refine mj_runsL.step (S' := (mj_law, 899, [(3, .int i), (2, .ref 234), (1, .ref 0), (0, .retAddr 0)], [.int (i + (2 : Int32)), .retAddr 0, .int x1, .ref 234], h1)) (mj_one_of mj_dL_898 fun _ _ => rfl) ?_
    refine mj_runsL.step (S' := (mj_law, 900, [(3, .int i), (2, .ref 234), (1, .ref 0), (0, .retAddr 0)], [.int x2, .int x1, .ref 234], h1)) (lw_ald mj_dL_899 (lw_add (m := 2) hi (by decide) (by omega)) e2) ?_
    refine mj_runsL.step (S' := (mj_law, 901, [(3, .int i), (2, .ref 234), (1, .ref 0), (0, .retAddr 0)], [.retAddr 0, .int x2, .int x1, .ref 234], h1)) (mj_one_of mj_dL_900 fun _ _ => rfl) ?_
    refine mj_runsL.step (S' := (mj_law, 902, [(3, .int i), (2, .ref 234), (1, .ref 0), (0, .retAddr 0)], [.int i, .retAddr 0, .int x2, .int x1, .ref 234], h1)) (mj_one_of mj_dL_901 fun _ _ => rfl) ?_
    refine mj_runsL.step (S' := (mj_law, 903, [(3, .int i), (2, .ref 234), (1, .ref 0), (0, .retAddr 0)], [.int (3 : Int32), .int i, .retAddr 0, .int x2, .int x1, .ref 234], h1)) (mj_one_of mj_dL_902 fun _ _ => rfl) ?_
    refine mj_runsL.step (S' := (mj_law, 904, [(3, .int i), (2, .ref 234), (1, .ref 0), (0, .retAddr 0)], [.int (i + (3 : Int32)), .retAddr 0, .int x2, .int x1, .ref 234], h1)) (mj_one_of mj_dL_903 fun _ _ => rfl) ?_
    refine mj_runsL.step (S' := (mj_law, 905, [(3, .int i), (2, .ref 234), (1, .ref 0), (0, .retAddr 0)], [.int x3, .int x2, .int x1, .ref 234], h1)) (lw_ald mj_dL_904 (lw_add (m := 3) hi (by decide) (by omega)) e3) ?_
    refine mj_runsL.step (S' := (mj_law, 912, [(3, .int i), (2, .ref 234), (1, .ref 0), (0, .retAddr 0)], [.int x2, .int x1, .ref 234], h1)) (mj_one_ifT mj_dL_905 rfl (mj_cT_eq (rfl : (x3).toInt = (x3).toInt) (show (0 : Int32).toInt = 0 by decide) (by omega))) ?_
    refine mj_runsL.step (S' := (mj_law, 913, [(3, .int i), (2, .ref 234), (1, .ref 0), (0, .retAddr 0)], [.int (0 : Int32), .int x2, .int x1, .ref 234], h1)) (mj_one_of mj_dL_912 fun _ _ => rfl) ?_
    refine mj_runsL.call (S1 := (mj_m_182, 0, [(0, .ref 234), (1, .int x1), (2, .int x2), (3, .int (0 : Int32))], [], h1)) (mj_calls_v mj_dL_913 rfl rfl rfl z2 rfl rfl ⟨Nat.le_of_ble_eq_true rfl, ⟨Nat.le_of_ble_eq_true rfl, Nat.le_of_ble_eq_true rfl, Nat.le_of_ble_eq_true rfl, Nat.le_of_ble_eq_true rfl, Nat.le_of_ble_eq_true rfl⟩⟩) q2 ?_
    show mj_runsL _ (mj_law, 916, [(3, .int i), (2, .ref 234), (1, .ref 0), (0, .retAddr 0)], [.int r2], h2) _ _
    refine mj_runsL.step (S' := (mj_law, 917, [(3, .int i), (2, .ref 234), (1, .ref 0), (0, .retAddr 0)], [], h2)) (mj_one_of mj_dL_916 fun _ _ => rfl) ?_
    refine mj_runsL.step (S' := (mj_law, 1081, [(3, .int i), (2, .ref 234), (1, .ref 0), (0, .retAddr 0)], [], h2)) (mj_one_of mj_dL_917 fun _ _ => rfl) ?_
    exact K
  · obtain ⟨r1, r2, h1, h2, ⟨y1, z1⟩, ⟨y2, z2⟩, q1, q2, g2⟩ := go_see x1 x2 (1 : Int32) (by decide) hI
    refine ⟨h2, g2, fun r h' K => ?_⟩
    refine mj_runsL.step (S' := (mj_law, 861, [(3, .int i), (2, .ref 234), (1, .ref 0), (0, .retAddr 0)], [], h)) (mj_one_tblIn mj_dL_32 (by rw [hv]; decide) (by rw [hv]; decide) (by rw [hv]; rfl) rfl) ?_
    refine mj_runsL.step (S' := (mj_law, 862, [(3, .int i), (2, .ref 234), (1, .ref 0), (0, .retAddr 0)], [.ref 0], h)) (mj_one_of mj_dL_861 fun _ _ => rfl) ?_
    refine mj_runsL.step (S' := (mj_law, 863, [(3, .int i), (2, .ref 234), (1, .ref 0), (0, .retAddr 0)], [.retAddr 0, .ref 0], h)) (mj_one_of mj_dL_862 fun _ _ => rfl) ?_
    refine mj_runsL.step (S' := (mj_law, 864, [(3, .int i), (2, .ref 234), (1, .ref 0), (0, .retAddr 0)], [.int i, .retAddr 0, .ref 0], h)) (mj_one_of mj_dL_863 fun _ _ => rfl) ?_
    refine mj_runsL.step (S' := (mj_law, 865, [(3, .int i), (2, .ref 234), (1, .ref 0), (0, .retAddr 0)], [.int (1 : Int32), .int i, .retAddr 0, .ref 0], h)) (mj_one_of mj_dL_864 fun _ _ => rfl) ?_
    refine mj_runsL.step (S' := (mj_law, 866, [(3, .int i), (2, .ref 234), (1, .ref 0), (0, .retAddr 0)], [.int (i + (1 : Int32)), .retAddr 0, .ref 0], h)) (mj_one_of mj_dL_865 fun _ _ => rfl) ?_
    refine mj_runsL.step (S' := (mj_law, 867, [(3, .int i), (2, .ref 234), (1, .ref 0), (0, .retAddr 0)], [.int x1, .ref 0], h)) (lw_ald mj_dL_866 (lw_add (m := 1) hi (by decide) (by omega)) e1) ?_
    refine mj_runsL.step (S' := (mj_law, 868, [(3, .int i), (2, .ref 234), (1, .ref 0), (0, .retAddr 0)], [.retAddr 0, .int x1, .ref 0], h)) (mj_one_of mj_dL_867 fun _ _ => rfl) ?_
    refine mj_runsL.step (S' := (mj_law, 869, [(3, .int i), (2, .ref 234), (1, .ref 0), (0, .retAddr 0)], [.int i, .retAddr 0, .int x1, .ref 0], h)) (mj_one_of mj_dL_868 fun _ _ => rfl) ?_
    refine mj_runsL.step (S' := (mj_law, 870, [(3, .int i), (2, .ref 234), (1, .ref 0), (0, .retAddr 0)], [.int (2 : Int32), .int i, .retAddr 0, .int x1, .ref 0], h)) (mj_one_of mj_dL_869 fun _ _ => rfl) ?_
    refine mj_runsL.step (S' := (mj_law, 871, [(3, .int i), (2, .ref 234), (1, .ref 0), (0, .retAddr 0)], [.int (i + (2 : Int32)), .retAddr 0, .int x1, .ref 0], h)) (mj_one_of mj_dL_870 fun _ _ => rfl) ?_
    refine mj_runsL.step (S' := (mj_law, 872, [(3, .int i), (2, .ref 234), (1, .ref 0), (0, .retAddr 0)], [.int x2, .int x1, .ref 0], h)) (lw_ald mj_dL_871 (lw_add (m := 2) hi (by decide) (by omega)) e2) ?_
    refine mj_runsL.step (S' := (mj_law, 873, [(3, .int i), (2, .ref 234), (1, .ref 0), (0, .retAddr 0)], [.retAddr 0, .int x2, .int x1, .ref 0], h)) (mj_one_of mj_dL_872 fun _ _ => rfl) ?_
    refine mj_runsL.step (S' := (mj_law, 874, [(3, .int i), (2, .ref 234), (1, .ref 0), (0, .retAddr 0)], [.int i, .retAddr 0, .int x2, .int x1, .ref 0], h)) (mj_one_of mj_dL_873 fun _ _ => rfl) ?_
    refine mj_runsL.step (S' := (mj_law, 875, [(3, .int i), (2, .ref 234), (1, .ref 0), (0, .retAddr 0)], [.int (3 : Int32), .int i, .retAddr 0, .int x2, .int x1, .ref 0], h)) (mj_one_of mj_dL_874 fun _ _ => rfl) ?_
    refine mj_runsL.step (S' := (mj_law, 876, [(3, .int i), (2, .ref 234), (1, .ref 0), (0, .retAddr 0)], [.int (i + (3 : Int32)), .retAddr 0, .int x2, .int x1, .ref 0], h)) (mj_one_of mj_dL_875 fun _ _ => rfl) ?_
    refine mj_runsL.step (S' := (mj_law, 877, [(3, .int i), (2, .ref 234), (1, .ref 0), (0, .retAddr 0)], [.int x3, .int x2, .int x1, .ref 0], h)) (lw_ald mj_dL_876 (lw_add (m := 3) hi (by decide) (by omega)) e3) ?_
    refine mj_runsL.step (S' := (mj_law, 880, [(3, .int i), (2, .ref 234), (1, .ref 0), (0, .retAddr 0)], [.int x2, .int x1, .ref 0], h)) (mj_one_ifF mj_dL_877 (t := 884) rfl (mj_cF_eq (rfl : (x3).toInt = (x3).toInt) (show (0 : Int32).toInt = 0 by decide) (by omega))) ?_
    refine mj_runsL.step (S' := (mj_law, 881, [(3, .int i), (2, .ref 234), (1, .ref 0), (0, .retAddr 0)], [.int (1 : Int32), .int x2, .int x1, .ref 0], h)) (mj_one_of mj_dL_880 fun _ _ => rfl) ?_
    refine mj_runsL.step (S' := (mj_law, 885, [(3, .int i), (2, .ref 234), (1, .ref 0), (0, .retAddr 0)], [.int (1 : Int32), .int x2, .int x1, .ref 0], h)) (mj_one_of mj_dL_881 fun _ _ => rfl) ?_
    refine mj_runsL.call (S1 := (mj_m_106, 0, [(0, .ref 0), (1, .int x1), (2, .int x2), (3, .int (1 : Int32))], [], h)) (mj_calls_v mj_dL_885 rfl rfl rfl z1 rfl rfl ⟨Nat.le_of_ble_eq_true rfl, ⟨Nat.le_of_ble_eq_true rfl, Nat.le_of_ble_eq_true rfl, Nat.le_of_ble_eq_true rfl, Nat.le_of_ble_eq_true rfl, Nat.le_of_ble_eq_true rfl⟩⟩) q1 ?_
    show mj_runsL _ (mj_law, 888, [(3, .int i), (2, .ref 234), (1, .ref 0), (0, .retAddr 0)], [.int r1], h1) _ _
    refine mj_runsL.step (S' := (mj_law, 889, [(3, .int i), (2, .ref 234), (1, .ref 0), (0, .retAddr 0)], [], h1)) (mj_one_of mj_dL_888 fun _ _ => rfl) ?_
    refine mj_runsL.step (S' := (mj_law, 890, [(3, .int i), (2, .ref 234), (1, .ref 0), (0, .retAddr 0)], [.ref 234], h1)) (mj_one_of mj_dL_889 fun _ _ => rfl) ?_
    refine mj_runsL.step (S' := (mj_law, 891, [(3, .int i), (2, .ref 234), (1, .ref 0), (0, .retAddr 0)], [.retAddr 0, .ref 234], h1)) (mj_one_of mj_dL_890 fun _ _ => rfl) ?_
    refine mj_runsL.step (S' := (mj_law, 892, [(3, .int i), (2, .ref 234), (1, .ref 0), (0, .retAddr 0)], [.int i, .retAddr 0, .ref 234], h1)) (mj_one_of mj_dL_891 fun _ _ => rfl) ?_
    refine mj_runsL.step (S' := (mj_law, 893, [(3, .int i), (2, .ref 234), (1, .ref 0), (0, .retAddr 0)], [.int (1 : Int32), .int i, .retAddr 0, .ref 234], h1)) (mj_one_of mj_dL_892 fun _ _ => rfl) ?_
    refine mj_runsL.step (S' := (mj_law, 894, [(3, .int i), (2, .ref 234), (1, .ref 0), (0, .retAddr 0)], [.int (i + (1 : Int32)), .retAddr 0, .ref 234], h1)) (mj_one_of mj_dL_893 fun _ _ => rfl) ?_
    refine mj_runsL.step (S' := (mj_law, 895, [(3, .int i), (2, .ref 234), (1, .ref 0), (0, .retAddr 0)], [.int x1, .ref 234], h1)) (lw_ald mj_dL_894 (lw_add (m := 1) hi (by decide) (by omega)) e1) ?_
    refine mj_runsL.step (S' := (mj_law, 896, [(3, .int i), (2, .ref 234), (1, .ref 0), (0, .retAddr 0)], [.retAddr 0, .int x1, .ref 234], h1)) (mj_one_of mj_dL_895 fun _ _ => rfl) ?_
    refine mj_runsL.step (S' := (mj_law, 897, [(3, .int i), (2, .ref 234), (1, .ref 0), (0, .retAddr 0)], [.int i, .retAddr 0, .int x1, .ref 234], h1)) (mj_one_of mj_dL_896 fun _ _ => rfl) ?_
    refine mj_runsL.step (S' := (mj_law, 898, [(3, .int i), (2, .ref 234), (1, .ref 0), (0, .retAddr 0)], [.int (2 : Int32), .int i, .retAddr 0, .int x1, .ref 234], h1)) (mj_one_of mj_dL_897 fun _ _ => rfl) ?_
    refine mj_runsL.step (S' := (mj_law, 899, [(3, .int i), (2, .ref 234), (1, .ref 0), (0, .retAddr 0)], [.int (i + (2 : Int32)), .retAddr 0, .int x1, .ref 234], h1)) (mj_one_of mj_dL_898 fun _ _ => rfl) ?_
    refine mj_runsL.step (S' := (mj_law, 900, [(3, .int i), (2, .ref 234), (1, .ref 0), (0, .retAddr 0)], [.int x2, .int x1, .ref 234], h1)) (lw_ald mj_dL_899 (lw_add (m := 2) hi (by decide) (by omega)) e2) ?_
    refine mj_runsL.step (S' := (mj_law, 901, [(3, .int i), (2, .ref 234), (1, .ref 0), (0, .retAddr 0)], [.retAddr 0, .int x2, .int x1, .ref 234], h1)) (mj_one_of mj_dL_900 fun _ _ => rfl) ?_
    refine mj_runsL.step (S' := (mj_law, 902, [(3, .int i), (2, .ref 234), (1, .ref 0), (0, .retAddr 0)], [.int i, .retAddr 0, .int x2, .int x1, .ref 234], h1)) (mj_one_of mj_dL_901 fun _ _ => rfl) ?_
    refine mj_runsL.step (S' := (mj_law, 903, [(3, .int i), (2, .ref 234), (1, .ref 0), (0, .retAddr 0)], [.int (3 : Int32), .int i, .retAddr 0, .int x2, .int x1, .ref 234], h1)) (mj_one_of mj_dL_902 fun _ _ => rfl) ?_
    refine mj_runsL.step (S' := (mj_law, 904, [(3, .int i), (2, .ref 234), (1, .ref 0), (0, .retAddr 0)], [.int (i + (3 : Int32)), .retAddr 0, .int x2, .int x1, .ref 234], h1)) (mj_one_of mj_dL_903 fun _ _ => rfl) ?_
    refine mj_runsL.step (S' := (mj_law, 905, [(3, .int i), (2, .ref 234), (1, .ref 0), (0, .retAddr 0)], [.int x3, .int x2, .int x1, .ref 234], h1)) (lw_ald mj_dL_904 (lw_add (m := 3) hi (by decide) (by omega)) e3) ?_
    refine mj_runsL.step (S' := (mj_law, 908, [(3, .int i), (2, .ref 234), (1, .ref 0), (0, .retAddr 0)], [.int x2, .int x1, .ref 234], h1)) (mj_one_ifF mj_dL_905 (t := 912) rfl (mj_cF_eq (rfl : (x3).toInt = (x3).toInt) (show (0 : Int32).toInt = 0 by decide) (by omega))) ?_
    refine mj_runsL.step (S' := (mj_law, 909, [(3, .int i), (2, .ref 234), (1, .ref 0), (0, .retAddr 0)], [.int (1 : Int32), .int x2, .int x1, .ref 234], h1)) (mj_one_of mj_dL_908 fun _ _ => rfl) ?_
    refine mj_runsL.step (S' := (mj_law, 913, [(3, .int i), (2, .ref 234), (1, .ref 0), (0, .retAddr 0)], [.int (1 : Int32), .int x2, .int x1, .ref 234], h1)) (mj_one_of mj_dL_909 fun _ _ => rfl) ?_
    refine mj_runsL.call (S1 := (mj_m_182, 0, [(0, .ref 234), (1, .int x1), (2, .int x2), (3, .int (1 : Int32))], [], h1)) (mj_calls_v mj_dL_913 rfl rfl rfl z2 rfl rfl ⟨Nat.le_of_ble_eq_true rfl, ⟨Nat.le_of_ble_eq_true rfl, Nat.le_of_ble_eq_true rfl, Nat.le_of_ble_eq_true rfl, Nat.le_of_ble_eq_true rfl, Nat.le_of_ble_eq_true rfl⟩⟩) q2 ?_
    show mj_runsL _ (mj_law, 916, [(3, .int i), (2, .ref 234), (1, .ref 0), (0, .retAddr 0)], [.int r2], h2) _ _
    refine mj_runsL.step (S' := (mj_law, 917, [(3, .int i), (2, .ref 234), (1, .ref 0), (0, .retAddr 0)], [], h2)) (mj_one_of mj_dL_916 fun _ _ => rfl) ?_
    refine mj_runsL.step (S' := (mj_law, 1081, [(3, .int i), (2, .ref 234), (1, .ref 0), (0, .retAddr 0)], [], h2)) (mj_one_of mj_dL_917 fun _ _ => rfl) ?_
    exact K
set_option maxRecDepth 1000000 in
set_option maxHeartbeats 1000000 in
theorem lw_case_24 {sc : List Int32} {k : Nat} {i v : Int32} (hk : k < 100) (hi : i.toInt = ((5 * k : Nat) : Int)) {x1 : Int32} (e1 : sc[5 * k + 1]? = some x1) {x2 : Int32} (e2 : sc[5 * k + 2]? = some x2) {h : mj_H} (hI : go_I h) (hv : v.toInt = 24) : ∃ h2, go_I h2 ∧ ∀ r h', mj_runsL sc (mj_law, 1081, [(3, .int i), (2, .ref 234), (1, .ref 0), (0, .retAddr 0)], [], h2) r h' → mj_runsL sc (mj_law, 32, [(3, .int i), (2, .ref 234), (1, .ref 0), (0, .retAddr 0)], [.int v], h) r h' := by
  obtain ⟨r1, r2, h1, h2, ⟨y1, z1⟩, ⟨y2, z2⟩, q1, q2, g2⟩ := go_next x1 x2 hI
  refine ⟨h2, g2, fun r h' K => ?_⟩
  refine mj_runsL.step (S' := (mj_law, 920, [(3, .int i), (2, .ref 234), (1, .ref 0), (0, .retAddr 0)], [], h)) (mj_one_tblIn mj_dL_32 (by rw [hv]; decide) (by rw [hv]; decide) (by rw [hv]; rfl) rfl) ?_
  refine mj_runsL.step (S' := (mj_law, 921, [(3, .int i), (2, .ref 234), (1, .ref 0), (0, .retAddr 0)], [.ref 0], h)) (mj_one_of mj_dL_920 fun _ _ => rfl) ?_
  refine mj_runsL.step (S' := (mj_law, 922, [(3, .int i), (2, .ref 234), (1, .ref 0), (0, .retAddr 0)], [.retAddr 0, .ref 0], h)) (mj_one_of mj_dL_921 fun _ _ => rfl) ?_
  refine mj_runsL.step (S' := (mj_law, 923, [(3, .int i), (2, .ref 234), (1, .ref 0), (0, .retAddr 0)], [.int i, .retAddr 0, .ref 0], h)) (mj_one_of mj_dL_922 fun _ _ => rfl) ?_
  refine mj_runsL.step (S' := (mj_law, 924, [(3, .int i), (2, .ref 234), (1, .ref 0), (0, .retAddr 0)], [.int (1 : Int32), .int i, .retAddr 0, .ref 0], h)) (mj_one_of mj_dL_923 fun _ _ => rfl) ?_
  refine mj_runsL.step (S' := (mj_law, 925, [(3, .int i), (2, .ref 234), (1, .ref 0), (0, .retAddr 0)], [.int (i + (1 : Int32)), .retAddr 0, .ref 0], h)) (mj_one_of mj_dL_924 fun _ _ => rfl) ?_
  refine mj_runsL.step (S' := (mj_law, 926, [(3, .int i), (2, .ref 234), (1, .ref 0), (0, .retAddr 0)], [.int x1, .ref 0], h)) (lw_ald mj_dL_925 (lw_add (m := 1) hi (by decide) (by omega)) e1) ?_
  refine mj_runsL.step (S' := (mj_law, 927, [(3, .int i), (2, .ref 234), (1, .ref 0), (0, .retAddr 0)], [.retAddr 0, .int x1, .ref 0], h)) (mj_one_of mj_dL_926 fun _ _ => rfl) ?_
  refine mj_runsL.step (S' := (mj_law, 928, [(3, .int i), (2, .ref 234), (1, .ref 0), (0, .retAddr 0)], [.int i, .retAddr 0, .int x1, .ref 0], h)) (mj_one_of mj_dL_927 fun _ _ => rfl) ?_
  refine mj_runsL.step (S' := (mj_law, 929, [(3, .int i), (2, .ref 234), (1, .ref 0), (0, .retAddr 0)], [.int (2 : Int32), .int i, .retAddr 0, .int x1, .ref 0], h)) (mj_one_of mj_dL_928 fun _ _ => rfl) ?_
  refine mj_runsL.step (S' := (mj_law, 930, [(3, .int i), (2, .ref 234), (1, .ref 0), (0, .retAddr 0)], [.int (i + (2 : Int32)), .retAddr 0, .int x1, .ref 0], h)) (mj_one_of mj_dL_929 fun _ _ => rfl) ?_
  refine mj_runsL.step (S' := (mj_law, 931, [(3, .int i), (2, .ref 234), (1, .ref 0), (0, .retAddr 0)], [.int x2, .int x1, .ref 0], h)) (lw_ald mj_dL_930 (lw_add (m := 2) hi (by decide) (by omega)) e2) ?_
  refine mj_runsL.call (S1 := (mj_m_108, 0, [(0, .ref 0), (1, .int x1), (2, .int x2)], [], h)) (mj_calls_v mj_dL_931 rfl rfl rfl z1 rfl rfl ⟨Nat.le_of_ble_eq_true rfl, ⟨Nat.le_of_ble_eq_true rfl, Nat.le_of_ble_eq_true rfl, Nat.le_of_ble_eq_true rfl, Nat.le_of_ble_eq_true rfl, Nat.le_of_ble_eq_true rfl⟩⟩) q1 ?_
  show mj_runsL _ (mj_law, 934, [(3, .int i), (2, .ref 234), (1, .ref 0), (0, .retAddr 0)], [.int r1], h1) _ _
  refine mj_runsL.step (S' := (mj_law, 935, [(3, .int i), (2, .ref 234), (1, .ref 0), (0, .retAddr 0)], [], h1)) (mj_one_of mj_dL_934 fun _ _ => rfl) ?_
  refine mj_runsL.step (S' := (mj_law, 936, [(3, .int i), (2, .ref 234), (1, .ref 0), (0, .retAddr 0)], [.ref 234], h1)) (mj_one_of mj_dL_935 fun _ _ => rfl) ?_
  refine mj_runsL.step (S' := (mj_law, 937, [(3, .int i), (2, .ref 234), (1, .ref 0), (0, .retAddr 0)], [.retAddr 0, .ref 234], h1)) (mj_one_of mj_dL_936 fun _ _ => rfl) ?_
  refine mj_runsL.step (S' := (mj_law, 938, [(3, .int i), (2, .ref 234), (1, .ref 0), (0, .retAddr 0)], [.int i, .retAddr 0, .ref 234], h1)) (mj_one_of mj_dL_937 fun _ _ => rfl) ?_
  refine mj_runsL.step (S' := (mj_law, 939, [(3, .int i), (2, .ref 234), (1, .ref 0), (0, .retAddr 0)], [.int (1 : Int32), .int i, .retAddr 0, .ref 234], h1)) (mj_one_of mj_dL_938 fun _ _ => rfl) ?_
  refine mj_runsL.step (S' := (mj_law, 940, [(3, .int i), (2, .ref 234), (1, .ref 0), (0, .retAddr 0)], [.int (i + (1 : Int32)), .retAddr 0, .ref 234], h1)) (mj_one_of mj_dL_939 fun _ _ => rfl) ?_
  refine mj_runsL.step (S' := (mj_law, 941, [(3, .int i), (2, .ref 234), (1, .ref 0), (0, .retAddr 0)], [.int x1, .ref 234], h1)) (lw_ald mj_dL_940 (lw_add (m := 1) hi (by decide) (by omega)) e1) ?_
  refine mj_runsL.step (S' := (mj_law, 942, [(3, .int i), (2, .ref 234), (1, .ref 0), (0, .retAddr 0)], [.retAddr 0, .int x1, .ref 234], h1)) (mj_one_of mj_dL_941 fun _ _ => rfl) ?_
  refine mj_runsL.step (S' := (mj_law, 943, [(3, .int i), (2, .ref 234), (1, .ref 0), (0, .retAddr 0)], [.int i, .retAddr 0, .int x1, .ref 234], h1)) (mj_one_of mj_dL_942 fun _ _ => rfl) ?_
  refine mj_runsL.step (S' := (mj_law, 944, [(3, .int i), (2, .ref 234), (1, .ref 0), (0, .retAddr 0)], [.int (2 : Int32), .int i, .retAddr 0, .int x1, .ref 234], h1)) (mj_one_of mj_dL_943 fun _ _ => rfl) ?_
  refine mj_runsL.step (S' := (mj_law, 945, [(3, .int i), (2, .ref 234), (1, .ref 0), (0, .retAddr 0)], [.int (i + (2 : Int32)), .retAddr 0, .int x1, .ref 234], h1)) (mj_one_of mj_dL_944 fun _ _ => rfl) ?_
  refine mj_runsL.step (S' := (mj_law, 946, [(3, .int i), (2, .ref 234), (1, .ref 0), (0, .retAddr 0)], [.int x2, .int x1, .ref 234], h1)) (lw_ald mj_dL_945 (lw_add (m := 2) hi (by decide) (by omega)) e2) ?_
  refine mj_runsL.call (S1 := (mj_m_183, 0, [(0, .ref 234), (1, .int x1), (2, .int x2)], [], h1)) (mj_calls_v mj_dL_946 rfl rfl rfl z2 rfl rfl ⟨Nat.le_of_ble_eq_true rfl, ⟨Nat.le_of_ble_eq_true rfl, Nat.le_of_ble_eq_true rfl, Nat.le_of_ble_eq_true rfl, Nat.le_of_ble_eq_true rfl, Nat.le_of_ble_eq_true rfl⟩⟩) q2 ?_
  show mj_runsL _ (mj_law, 949, [(3, .int i), (2, .ref 234), (1, .ref 0), (0, .retAddr 0)], [.int r2], h2) _ _
  refine mj_runsL.step (S' := (mj_law, 950, [(3, .int i), (2, .ref 234), (1, .ref 0), (0, .retAddr 0)], [], h2)) (mj_one_of mj_dL_949 fun _ _ => rfl) ?_
  refine mj_runsL.step (S' := (mj_law, 1081, [(3, .int i), (2, .ref 234), (1, .ref 0), (0, .retAddr 0)], [], h2)) (mj_one_of mj_dL_950 fun _ _ => rfl) ?_
  exact K
set_option maxRecDepth 1000000 in
set_option maxHeartbeats 1000000 in
theorem lw_case_25 {sc : List Int32} {k : Nat} {i v : Int32} (hk : k < 100) (hi : i.toInt = ((5 * k : Nat) : Int)) {x1 : Int32} (e1 : sc[5 * k + 1]? = some x1) {x2 : Int32} (e2 : sc[5 * k + 2]? = some x2) {h : mj_H} (hI : go_I h) (hv : v.toInt = 25) : ∃ h2, go_I h2 ∧ ∀ r h', mj_runsL sc (mj_law, 1081, [(3, .int i), (2, .ref 234), (1, .ref 0), (0, .retAddr 0)], [], h2) r h' → mj_runsL sc (mj_law, 32, [(3, .int i), (2, .ref 234), (1, .ref 0), (0, .retAddr 0)], [.int v], h) r h' := by
  obtain ⟨r1, r2, h1, h2, ⟨y1, z1⟩, ⟨y2, z2⟩, q1, q2, g2⟩ := go_write x1 x2 hI
  refine ⟨h2, g2, fun r h' K => ?_⟩
  refine mj_runsL.step (S' := (mj_law, 953, [(3, .int i), (2, .ref 234), (1, .ref 0), (0, .retAddr 0)], [], h)) (mj_one_tblIn mj_dL_32 (by rw [hv]; decide) (by rw [hv]; decide) (by rw [hv]; rfl) rfl) ?_
  refine mj_runsL.step (S' := (mj_law, 954, [(3, .int i), (2, .ref 234), (1, .ref 0), (0, .retAddr 0)], [.ref 0], h)) (mj_one_of mj_dL_953 fun _ _ => rfl) ?_
  refine mj_runsL.step (S' := (mj_law, 955, [(3, .int i), (2, .ref 234), (1, .ref 0), (0, .retAddr 0)], [.retAddr 0, .ref 0], h)) (mj_one_of mj_dL_954 fun _ _ => rfl) ?_
  refine mj_runsL.step (S' := (mj_law, 956, [(3, .int i), (2, .ref 234), (1, .ref 0), (0, .retAddr 0)], [.int i, .retAddr 0, .ref 0], h)) (mj_one_of mj_dL_955 fun _ _ => rfl) ?_
  refine mj_runsL.step (S' := (mj_law, 957, [(3, .int i), (2, .ref 234), (1, .ref 0), (0, .retAddr 0)], [.int (1 : Int32), .int i, .retAddr 0, .ref 0], h)) (mj_one_of mj_dL_956 fun _ _ => rfl) ?_
  refine mj_runsL.step (S' := (mj_law, 958, [(3, .int i), (2, .ref 234), (1, .ref 0), (0, .retAddr 0)], [.int (i + (1 : Int32)), .retAddr 0, .ref 0], h)) (mj_one_of mj_dL_957 fun _ _ => rfl) ?_
  refine mj_runsL.step (S' := (mj_law, 959, [(3, .int i), (2, .ref 234), (1, .ref 0), (0, .retAddr 0)], [.int x1, .ref 0], h)) (lw_ald mj_dL_958 (lw_add (m := 1) hi (by decide) (by omega)) e1) ?_
  refine mj_runsL.step (S' := (mj_law, 960, [(3, .int i), (2, .ref 234), (1, .ref 0), (0, .retAddr 0)], [.retAddr 0, .int x1, .ref 0], h)) (mj_one_of mj_dL_959 fun _ _ => rfl) ?_
  refine mj_runsL.step (S' := (mj_law, 961, [(3, .int i), (2, .ref 234), (1, .ref 0), (0, .retAddr 0)], [.int i, .retAddr 0, .int x1, .ref 0], h)) (mj_one_of mj_dL_960 fun _ _ => rfl) ?_
  refine mj_runsL.step (S' := (mj_law, 962, [(3, .int i), (2, .ref 234), (1, .ref 0), (0, .retAddr 0)], [.int (2 : Int32), .int i, .retAddr 0, .int x1, .ref 0], h)) (mj_one_of mj_dL_961 fun _ _ => rfl) ?_
  refine mj_runsL.step (S' := (mj_law, 963, [(3, .int i), (2, .ref 234), (1, .ref 0), (0, .retAddr 0)], [.int (i + (2 : Int32)), .retAddr 0, .int x1, .ref 0], h)) (mj_one_of mj_dL_962 fun _ _ => rfl) ?_
  refine mj_runsL.step (S' := (mj_law, 964, [(3, .int i), (2, .ref 234), (1, .ref 0), (0, .retAddr 0)], [.int x2, .int x1, .ref 0], h)) (lw_ald mj_dL_963 (lw_add (m := 2) hi (by decide) (by omega)) e2) ?_
  refine mj_runsL.call (S1 := (mj_m_113, 0, [(0, .ref 0), (1, .int x1), (2, .int x2)], [], h)) (mj_calls_v mj_dL_964 rfl rfl rfl z1 rfl rfl ⟨Nat.le_of_ble_eq_true rfl, ⟨Nat.le_of_ble_eq_true rfl, Nat.le_of_ble_eq_true rfl, Nat.le_of_ble_eq_true rfl, Nat.le_of_ble_eq_true rfl, Nat.le_of_ble_eq_true rfl⟩⟩) q1 ?_
  show mj_runsL _ (mj_law, 967, [(3, .int i), (2, .ref 234), (1, .ref 0), (0, .retAddr 0)], [.int r1], h1) _ _
  refine mj_runsL.step (S' := (mj_law, 968, [(3, .int i), (2, .ref 234), (1, .ref 0), (0, .retAddr 0)], [], h1)) (mj_one_of mj_dL_967 fun _ _ => rfl) ?_
  refine mj_runsL.step (S' := (mj_law, 969, [(3, .int i), (2, .ref 234), (1, .ref 0), (0, .retAddr 0)], [.ref 234], h1)) (mj_one_of mj_dL_968 fun _ _ => rfl) ?_
  refine mj_runsL.step (S' := (mj_law, 970, [(3, .int i), (2, .ref 234), (1, .ref 0), (0, .retAddr 0)], [.retAddr 0, .ref 234], h1)) (mj_one_of mj_dL_969 fun _ _ => rfl) ?_
  refine mj_runsL.step (S' := (mj_law, 971, [(3, .int i), (2, .ref 234), (1, .ref 0), (0, .retAddr 0)], [.int i, .retAddr 0, .ref 234], h1)) (mj_one_of mj_dL_970 fun _ _ => rfl) ?_
  refine mj_runsL.step (S' := (mj_law, 972, [(3, .int i), (2, .ref 234), (1, .ref 0), (0, .retAddr 0)], [.int (1 : Int32), .int i, .retAddr 0, .ref 234], h1)) (mj_one_of mj_dL_971 fun _ _ => rfl) ?_
  refine mj_runsL.step (S' := (mj_law, 973, [(3, .int i), (2, .ref 234), (1, .ref 0), (0, .retAddr 0)], [.int (i + (1 : Int32)), .retAddr 0, .ref 234], h1)) (mj_one_of mj_dL_972 fun _ _ => rfl) ?_
  refine mj_runsL.step (S' := (mj_law, 974, [(3, .int i), (2, .ref 234), (1, .ref 0), (0, .retAddr 0)], [.int x1, .ref 234], h1)) (lw_ald mj_dL_973 (lw_add (m := 1) hi (by decide) (by omega)) e1) ?_
  refine mj_runsL.step (S' := (mj_law, 975, [(3, .int i), (2, .ref 234), (1, .ref 0), (0, .retAddr 0)], [.retAddr 0, .int x1, .ref 234], h1)) (mj_one_of mj_dL_974 fun _ _ => rfl) ?_
  refine mj_runsL.step (S' := (mj_law, 976, [(3, .int i), (2, .ref 234), (1, .ref 0), (0, .retAddr 0)], [.int i, .retAddr 0, .int x1, .ref 234], h1)) (mj_one_of mj_dL_975 fun _ _ => rfl) ?_
  refine mj_runsL.step (S' := (mj_law, 977, [(3, .int i), (2, .ref 234), (1, .ref 0), (0, .retAddr 0)], [.int (2 : Int32), .int i, .retAddr 0, .int x1, .ref 234], h1)) (mj_one_of mj_dL_976 fun _ _ => rfl) ?_
  refine mj_runsL.step (S' := (mj_law, 978, [(3, .int i), (2, .ref 234), (1, .ref 0), (0, .retAddr 0)], [.int (i + (2 : Int32)), .retAddr 0, .int x1, .ref 234], h1)) (mj_one_of mj_dL_977 fun _ _ => rfl) ?_
  refine mj_runsL.step (S' := (mj_law, 979, [(3, .int i), (2, .ref 234), (1, .ref 0), (0, .retAddr 0)], [.int x2, .int x1, .ref 234], h1)) (lw_ald mj_dL_978 (lw_add (m := 2) hi (by decide) (by omega)) e2) ?_
  refine mj_runsL.call (S1 := (mj_m_184, 0, [(0, .ref 234), (1, .int x1), (2, .int x2)], [], h1)) (mj_calls_v mj_dL_979 rfl rfl rfl z2 rfl rfl ⟨Nat.le_of_ble_eq_true rfl, ⟨Nat.le_of_ble_eq_true rfl, Nat.le_of_ble_eq_true rfl, Nat.le_of_ble_eq_true rfl, Nat.le_of_ble_eq_true rfl, Nat.le_of_ble_eq_true rfl⟩⟩) q2 ?_
  show mj_runsL _ (mj_law, 982, [(3, .int i), (2, .ref 234), (1, .ref 0), (0, .retAddr 0)], [.int r2], h2) _ _
  refine mj_runsL.step (S' := (mj_law, 983, [(3, .int i), (2, .ref 234), (1, .ref 0), (0, .retAddr 0)], [], h2)) (mj_one_of mj_dL_982 fun _ _ => rfl) ?_
  refine mj_runsL.step (S' := (mj_law, 1081, [(3, .int i), (2, .ref 234), (1, .ref 0), (0, .retAddr 0)], [], h2)) (mj_one_of mj_dL_983 fun _ _ => rfl) ?_
  exact K
set_option maxRecDepth 1000000 in
set_option maxHeartbeats 1000000 in
theorem lw_case_26 {sc : List Int32} {k : Nat} {i v : Int32} (hk : k < 100) (hi : i.toInt = ((5 * k : Nat) : Int)) {h : mj_H} (hI : go_I h) (hv : v.toInt = 26) : ∃ h2, go_I h2 ∧ ∀ r h', mj_runsL sc (mj_law, 1081, [(3, .int i), (2, .ref 234), (1, .ref 0), (0, .retAddr 0)], [], h2) r h' → mj_runsL sc (mj_law, 32, [(3, .int i), (2, .ref 234), (1, .ref 0), (0, .retAddr 0)], [.int v], h) r h' := by
  obtain ⟨r1, r2, h1, h2, ⟨y1, z1⟩, ⟨y2, z2⟩, q1, q2, g2⟩ := go_judge hI
  refine ⟨h2, g2, fun r h' K => ?_⟩
  refine mj_runsL.step (S' := (mj_law, 986, [(3, .int i), (2, .ref 234), (1, .ref 0), (0, .retAddr 0)], [], h)) (mj_one_tblIn mj_dL_32 (by rw [hv]; decide) (by rw [hv]; decide) (by rw [hv]; rfl) rfl) ?_
  refine mj_runsL.step (S' := (mj_law, 987, [(3, .int i), (2, .ref 234), (1, .ref 0), (0, .retAddr 0)], [.ref 0], h)) (mj_one_of mj_dL_986 fun _ _ => rfl) ?_
  refine mj_runsL.call (S1 := (mj_m_115, 0, [(0, .ref 0)], [], h)) (mj_calls_v mj_dL_987 rfl rfl rfl z1 rfl rfl ⟨Nat.le_of_ble_eq_true rfl, ⟨Nat.le_of_ble_eq_true rfl, Nat.le_of_ble_eq_true rfl, Nat.le_of_ble_eq_true rfl, Nat.le_of_ble_eq_true rfl, Nat.le_of_ble_eq_true rfl⟩⟩) q1 ?_
  show mj_runsL _ (mj_law, 990, [(3, .int i), (2, .ref 234), (1, .ref 0), (0, .retAddr 0)], [.int r1], h1) _ _
  refine mj_runsL.step (S' := (mj_law, 991, [(3, .int i), (2, .ref 234), (1, .ref 0), (0, .retAddr 0)], [], h1)) (mj_one_of mj_dL_990 fun _ _ => rfl) ?_
  refine mj_runsL.step (S' := (mj_law, 992, [(3, .int i), (2, .ref 234), (1, .ref 0), (0, .retAddr 0)], [.ref 234], h1)) (mj_one_of mj_dL_991 fun _ _ => rfl) ?_
  refine mj_runsL.call (S1 := (mj_m_185, 0, [(0, .ref 234)], [], h1)) (mj_calls_v mj_dL_992 rfl rfl rfl z2 rfl rfl ⟨Nat.le_of_ble_eq_true rfl, ⟨Nat.le_of_ble_eq_true rfl, Nat.le_of_ble_eq_true rfl, Nat.le_of_ble_eq_true rfl, Nat.le_of_ble_eq_true rfl, Nat.le_of_ble_eq_true rfl⟩⟩) q2 ?_
  show mj_runsL _ (mj_law, 995, [(3, .int i), (2, .ref 234), (1, .ref 0), (0, .retAddr 0)], [.int r2], h2) _ _
  refine mj_runsL.step (S' := (mj_law, 996, [(3, .int i), (2, .ref 234), (1, .ref 0), (0, .retAddr 0)], [], h2)) (mj_one_of mj_dL_995 fun _ _ => rfl) ?_
  refine mj_runsL.step (S' := (mj_law, 1081, [(3, .int i), (2, .ref 234), (1, .ref 0), (0, .retAddr 0)], [], h2)) (mj_one_of mj_dL_996 fun _ _ => rfl) ?_
  exact K
set_option maxRecDepth 1000000 in
set_option maxHeartbeats 1000000 in
theorem lw_case_27 {sc : List Int32} {k : Nat} {i v : Int32} (hk : k < 100) (hi : i.toInt = ((5 * k : Nat) : Int)) {h : mj_H} (hI : go_I h) (hv : v.toInt = 27) : ∃ h2, go_I h2 ∧ ∀ r h', mj_runsL sc (mj_law, 1081, [(3, .int i), (2, .ref 234), (1, .ref 0), (0, .retAddr 0)], [], h2) r h' → mj_runsL sc (mj_law, 32, [(3, .int i), (2, .ref 234), (1, .ref 0), (0, .retAddr 0)], [.int v], h) r h' := by
  obtain ⟨r1, r2, h1, h2, ⟨y1, z1⟩, ⟨y2, z2⟩, q1, q2, g2⟩ := go_tear hI
  refine ⟨h2, g2, fun r h' K => ?_⟩
  refine mj_runsL.step (S' := (mj_law, 999, [(3, .int i), (2, .ref 234), (1, .ref 0), (0, .retAddr 0)], [], h)) (mj_one_tblIn mj_dL_32 (by rw [hv]; decide) (by rw [hv]; decide) (by rw [hv]; rfl) rfl) ?_
  refine mj_runsL.step (S' := (mj_law, 1000, [(3, .int i), (2, .ref 234), (1, .ref 0), (0, .retAddr 0)], [.ref 0], h)) (mj_one_of mj_dL_999 fun _ _ => rfl) ?_
  refine mj_runsL.call (S1 := (mj_m_117, 0, [(0, .ref 0)], [], h)) (mj_calls_v mj_dL_1000 rfl rfl rfl z1 rfl rfl ⟨Nat.le_of_ble_eq_true rfl, ⟨Nat.le_of_ble_eq_true rfl, Nat.le_of_ble_eq_true rfl, Nat.le_of_ble_eq_true rfl, Nat.le_of_ble_eq_true rfl, Nat.le_of_ble_eq_true rfl⟩⟩) q1 ?_
  show mj_runsL _ (mj_law, 1003, [(3, .int i), (2, .ref 234), (1, .ref 0), (0, .retAddr 0)], [.int r1], h1) _ _
  refine mj_runsL.step (S' := (mj_law, 1004, [(3, .int i), (2, .ref 234), (1, .ref 0), (0, .retAddr 0)], [], h1)) (mj_one_of mj_dL_1003 fun _ _ => rfl) ?_
  refine mj_runsL.step (S' := (mj_law, 1005, [(3, .int i), (2, .ref 234), (1, .ref 0), (0, .retAddr 0)], [.ref 234], h1)) (mj_one_of mj_dL_1004 fun _ _ => rfl) ?_
  refine mj_runsL.call (S1 := (mj_m_186, 0, [(0, .ref 234)], [], h1)) (mj_calls_v mj_dL_1005 rfl rfl rfl z2 rfl rfl ⟨Nat.le_of_ble_eq_true rfl, ⟨Nat.le_of_ble_eq_true rfl, Nat.le_of_ble_eq_true rfl, Nat.le_of_ble_eq_true rfl, Nat.le_of_ble_eq_true rfl, Nat.le_of_ble_eq_true rfl⟩⟩) q2 ?_
  show mj_runsL _ (mj_law, 1008, [(3, .int i), (2, .ref 234), (1, .ref 0), (0, .retAddr 0)], [.int r2], h2) _ _
  refine mj_runsL.step (S' := (mj_law, 1009, [(3, .int i), (2, .ref 234), (1, .ref 0), (0, .retAddr 0)], [], h2)) (mj_one_of mj_dL_1008 fun _ _ => rfl) ?_
  refine mj_runsL.step (S' := (mj_law, 1081, [(3, .int i), (2, .ref 234), (1, .ref 0), (0, .retAddr 0)], [], h2)) (mj_one_of mj_dL_1009 fun _ _ => rfl) ?_
  exact K
set_option maxRecDepth 1000000 in
set_option maxHeartbeats 1000000 in
theorem lw_case_28 {sc : List Int32} {k : Nat} {i v : Int32} (hk : k < 100) (hi : i.toInt = ((5 * k : Nat) : Int)) {x1 : Int32} (e1 : sc[5 * k + 1]? = some x1) {h : mj_H} (hI : go_I h) (hv : v.toInt = 28) : ∃ h2, go_I h2 ∧ ∀ r h', mj_runsL sc (mj_law, 1081, [(3, .int i), (2, .ref 234), (1, .ref 0), (0, .retAddr 0)], [], h2) r h' → mj_runsL sc (mj_law, 32, [(3, .int i), (2, .ref 234), (1, .ref 0), (0, .retAddr 0)], [.int v], h) r h' := by
  obtain ⟨r1, r2, h1, h2, ⟨y1, z1⟩, ⟨y2, z2⟩, q1, q2, g2⟩ := go_seed x1 hI
  refine ⟨h2, g2, fun r h' K => ?_⟩
  refine mj_runsL.step (S' := (mj_law, 1012, [(3, .int i), (2, .ref 234), (1, .ref 0), (0, .retAddr 0)], [], h)) (mj_one_tblIn mj_dL_32 (by rw [hv]; decide) (by rw [hv]; decide) (by rw [hv]; rfl) rfl) ?_
  refine mj_runsL.step (S' := (mj_law, 1013, [(3, .int i), (2, .ref 234), (1, .ref 0), (0, .retAddr 0)], [.ref 0], h)) (mj_one_of mj_dL_1012 fun _ _ => rfl) ?_
  refine mj_runsL.step (S' := (mj_law, 1014, [(3, .int i), (2, .ref 234), (1, .ref 0), (0, .retAddr 0)], [.retAddr 0, .ref 0], h)) (mj_one_of mj_dL_1013 fun _ _ => rfl) ?_
  refine mj_runsL.step (S' := (mj_law, 1015, [(3, .int i), (2, .ref 234), (1, .ref 0), (0, .retAddr 0)], [.int i, .retAddr 0, .ref 0], h)) (mj_one_of mj_dL_1014 fun _ _ => rfl) ?_
  refine mj_runsL.step (S' := (mj_law, 1016, [(3, .int i), (2, .ref 234), (1, .ref 0), (0, .retAddr 0)], [.int (1 : Int32), .int i, .retAddr 0, .ref 0], h)) (mj_one_of mj_dL_1015 fun _ _ => rfl) ?_
  refine mj_runsL.step (S' := (mj_law, 1017, [(3, .int i), (2, .ref 234), (1, .ref 0), (0, .retAddr 0)], [.int (i + (1 : Int32)), .retAddr 0, .ref 0], h)) (mj_one_of mj_dL_1016 fun _ _ => rfl) ?_
  refine mj_runsL.step (S' := (mj_law, 1018, [(3, .int i), (2, .ref 234), (1, .ref 0), (0, .retAddr 0)], [.int x1, .ref 0], h)) (lw_ald mj_dL_1017 (lw_add (m := 1) hi (by decide) (by omega)) e1) ?_
  refine mj_runsL.call (S1 := (mj_m_118, 0, [(0, .ref 0), (1, .int x1)], [], h)) (mj_calls_v mj_dL_1018 rfl rfl rfl z1 rfl rfl ⟨Nat.le_of_ble_eq_true rfl, ⟨Nat.le_of_ble_eq_true rfl, Nat.le_of_ble_eq_true rfl, Nat.le_of_ble_eq_true rfl, Nat.le_of_ble_eq_true rfl, Nat.le_of_ble_eq_true rfl⟩⟩) q1 ?_
  show mj_runsL _ (mj_law, 1021, [(3, .int i), (2, .ref 234), (1, .ref 0), (0, .retAddr 0)], [.int r1], h1) _ _
  refine mj_runsL.step (S' := (mj_law, 1022, [(3, .int i), (2, .ref 234), (1, .ref 0), (0, .retAddr 0)], [], h1)) (mj_one_of mj_dL_1021 fun _ _ => rfl) ?_
  refine mj_runsL.step (S' := (mj_law, 1023, [(3, .int i), (2, .ref 234), (1, .ref 0), (0, .retAddr 0)], [.ref 234], h1)) (mj_one_of mj_dL_1022 fun _ _ => rfl) ?_
  refine mj_runsL.step (S' := (mj_law, 1024, [(3, .int i), (2, .ref 234), (1, .ref 0), (0, .retAddr 0)], [.retAddr 0, .ref 234], h1)) (mj_one_of mj_dL_1023 fun _ _ => rfl) ?_
  refine mj_runsL.step (S' := (mj_law, 1025, [(3, .int i), (2, .ref 234), (1, .ref 0), (0, .retAddr 0)], [.int i, .retAddr 0, .ref 234], h1)) (mj_one_of mj_dL_1024 fun _ _ => rfl) ?_
  refine mj_runsL.step (S' := (mj_law, 1026, [(3, .int i), (2, .ref 234), (1, .ref 0), (0, .retAddr 0)], [.int (1 : Int32), .int i, .retAddr 0, .ref 234], h1)) (mj_one_of mj_dL_1025 fun _ _ => rfl) ?_
  refine mj_runsL.step (S' := (mj_law, 1027, [(3, .int i), (2, .ref 234), (1, .ref 0), (0, .retAddr 0)], [.int (i + (1 : Int32)), .retAddr 0, .ref 234], h1)) (mj_one_of mj_dL_1026 fun _ _ => rfl) ?_
  refine mj_runsL.step (S' := (mj_law, 1028, [(3, .int i), (2, .ref 234), (1, .ref 0), (0, .retAddr 0)], [.int x1, .ref 234], h1)) (lw_ald mj_dL_1027 (lw_add (m := 1) hi (by decide) (by omega)) e1) ?_
  refine mj_runsL.call (S1 := (mj_m_187, 0, [(0, .ref 234), (1, .int x1)], [], h1)) (mj_calls_v mj_dL_1028 rfl rfl rfl z2 rfl rfl ⟨Nat.le_of_ble_eq_true rfl, ⟨Nat.le_of_ble_eq_true rfl, Nat.le_of_ble_eq_true rfl, Nat.le_of_ble_eq_true rfl, Nat.le_of_ble_eq_true rfl, Nat.le_of_ble_eq_true rfl⟩⟩) q2 ?_
  show mj_runsL _ (mj_law, 1031, [(3, .int i), (2, .ref 234), (1, .ref 0), (0, .retAddr 0)], [.int r2], h2) _ _
  refine mj_runsL.step (S' := (mj_law, 1032, [(3, .int i), (2, .ref 234), (1, .ref 0), (0, .retAddr 0)], [], h2)) (mj_one_of mj_dL_1031 fun _ _ => rfl) ?_
  refine mj_runsL.step (S' := (mj_law, 1081, [(3, .int i), (2, .ref 234), (1, .ref 0), (0, .retAddr 0)], [], h2)) (mj_one_of mj_dL_1032 fun _ _ => rfl) ?_
  exact K
set_option maxRecDepth 1000000 in
set_option maxHeartbeats 1000000 in
theorem lw_case_29 {sc : List Int32} {k : Nat} {i v : Int32} (hk : k < 100) (hi : i.toInt = ((5 * k : Nat) : Int)) {x1 : Int32} (e1 : sc[5 * k + 1]? = some x1) {h : mj_H} (hI : go_I h) (hv : v.toInt = 29) : ∃ h2, go_I h2 ∧ ∀ r h', mj_runsL sc (mj_law, 1081, [(3, .int i), (2, .ref 234), (1, .ref 0), (0, .retAddr 0)], [], h2) r h' → mj_runsL sc (mj_law, 32, [(3, .int i), (2, .ref 234), (1, .ref 0), (0, .retAddr 0)], [.int v], h) r h' := by
  obtain ⟨r1, r2, h1, h2, ⟨y1, z1⟩, ⟨y2, z2⟩, q1, q2, g2⟩ := go_keep x1 hI
  refine ⟨h2, g2, fun r h' K => ?_⟩
  refine mj_runsL.step (S' := (mj_law, 1035, [(3, .int i), (2, .ref 234), (1, .ref 0), (0, .retAddr 0)], [], h)) (mj_one_tblIn mj_dL_32 (by rw [hv]; decide) (by rw [hv]; decide) (by rw [hv]; rfl) rfl) ?_
  refine mj_runsL.step (S' := (mj_law, 1036, [(3, .int i), (2, .ref 234), (1, .ref 0), (0, .retAddr 0)], [.ref 0], h)) (mj_one_of mj_dL_1035 fun _ _ => rfl) ?_
  refine mj_runsL.step (S' := (mj_law, 1037, [(3, .int i), (2, .ref 234), (1, .ref 0), (0, .retAddr 0)], [.retAddr 0, .ref 0], h)) (mj_one_of mj_dL_1036 fun _ _ => rfl) ?_
  refine mj_runsL.step (S' := (mj_law, 1038, [(3, .int i), (2, .ref 234), (1, .ref 0), (0, .retAddr 0)], [.int i, .retAddr 0, .ref 0], h)) (mj_one_of mj_dL_1037 fun _ _ => rfl) ?_
  refine mj_runsL.step (S' := (mj_law, 1039, [(3, .int i), (2, .ref 234), (1, .ref 0), (0, .retAddr 0)], [.int (1 : Int32), .int i, .retAddr 0, .ref 0], h)) (mj_one_of mj_dL_1038 fun _ _ => rfl) ?_
  refine mj_runsL.step (S' := (mj_law, 1040, [(3, .int i), (2, .ref 234), (1, .ref 0), (0, .retAddr 0)], [.int (i + (1 : Int32)), .retAddr 0, .ref 0], h)) (mj_one_of mj_dL_1039 fun _ _ => rfl) ?_
  refine mj_runsL.step (S' := (mj_law, 1041, [(3, .int i), (2, .ref 234), (1, .ref 0), (0, .retAddr 0)], [.int x1, .ref 0], h)) (lw_ald mj_dL_1040 (lw_add (m := 1) hi (by decide) (by omega)) e1) ?_
  refine mj_runsL.call (S1 := (mj_m_119, 0, [(0, .ref 0), (1, .int x1)], [], h)) (mj_calls_v mj_dL_1041 rfl rfl rfl z1 rfl rfl ⟨Nat.le_of_ble_eq_true rfl, ⟨Nat.le_of_ble_eq_true rfl, Nat.le_of_ble_eq_true rfl, Nat.le_of_ble_eq_true rfl, Nat.le_of_ble_eq_true rfl, Nat.le_of_ble_eq_true rfl⟩⟩) q1 ?_
  show mj_runsL _ (mj_law, 1044, [(3, .int i), (2, .ref 234), (1, .ref 0), (0, .retAddr 0)], [.int r1], h1) _ _
  refine mj_runsL.step (S' := (mj_law, 1045, [(3, .int i), (2, .ref 234), (1, .ref 0), (0, .retAddr 0)], [], h1)) (mj_one_of mj_dL_1044 fun _ _ => rfl) ?_
  refine mj_runsL.step (S' := (mj_law, 1046, [(3, .int i), (2, .ref 234), (1, .ref 0), (0, .retAddr 0)], [.ref 234], h1)) (mj_one_of mj_dL_1045 fun _ _ => rfl) ?_
  refine mj_runsL.step (S' := (mj_law, 1047, [(3, .int i), (2, .ref 234), (1, .ref 0), (0, .retAddr 0)], [.retAddr 0, .ref 234], h1)) (mj_one_of mj_dL_1046 fun _ _ => rfl) ?_
  refine mj_runsL.step (S' := (mj_law, 1048, [(3, .int i), (2, .ref 234), (1, .ref 0), (0, .retAddr 0)], [.int i, .retAddr 0, .ref 234], h1)) (mj_one_of mj_dL_1047 fun _ _ => rfl) ?_
  refine mj_runsL.step (S' := (mj_law, 1049, [(3, .int i), (2, .ref 234), (1, .ref 0), (0, .retAddr 0)], [.int (1 : Int32), .int i, .retAddr 0, .ref 234], h1)) (mj_one_of mj_dL_1048 fun _ _ => rfl) ?_
  refine mj_runsL.step (S' := (mj_law, 1050, [(3, .int i), (2, .ref 234), (1, .ref 0), (0, .retAddr 0)], [.int (i + (1 : Int32)), .retAddr 0, .ref 234], h1)) (mj_one_of mj_dL_1049 fun _ _ => rfl) ?_
  refine mj_runsL.step (S' := (mj_law, 1051, [(3, .int i), (2, .ref 234), (1, .ref 0), (0, .retAddr 0)], [.int x1, .ref 234], h1)) (lw_ald mj_dL_1050 (lw_add (m := 1) hi (by decide) (by omega)) e1) ?_
  refine mj_runsL.call (S1 := (mj_m_188, 0, [(0, .ref 234), (1, .int x1)], [], h1)) (mj_calls_v mj_dL_1051 rfl rfl rfl z2 rfl rfl ⟨Nat.le_of_ble_eq_true rfl, ⟨Nat.le_of_ble_eq_true rfl, Nat.le_of_ble_eq_true rfl, Nat.le_of_ble_eq_true rfl, Nat.le_of_ble_eq_true rfl, Nat.le_of_ble_eq_true rfl⟩⟩) q2 ?_
  show mj_runsL _ (mj_law, 1054, [(3, .int i), (2, .ref 234), (1, .ref 0), (0, .retAddr 0)], [.int r2], h2) _ _
  refine mj_runsL.step (S' := (mj_law, 1055, [(3, .int i), (2, .ref 234), (1, .ref 0), (0, .retAddr 0)], [], h2)) (mj_one_of mj_dL_1054 fun _ _ => rfl) ?_
  refine mj_runsL.step (S' := (mj_law, 1081, [(3, .int i), (2, .ref 234), (1, .ref 0), (0, .retAddr 0)], [], h2)) (mj_one_of mj_dL_1055 fun _ _ => rfl) ?_
  exact K
set_option maxRecDepth 1000000 in
set_option maxHeartbeats 1000000 in
theorem lw_case_30 {sc : List Int32} {k : Nat} {i v : Int32} (hk : k < 100) (hi : i.toInt = ((5 * k : Nat) : Int)) {x1 : Int32} (e1 : sc[5 * k + 1]? = some x1) {h : mj_H} (hI : go_I h) (hv : v.toInt = 30) : ∃ h2, go_I h2 ∧ ∀ r h', mj_runsL sc (mj_law, 1081, [(3, .int i), (2, .ref 234), (1, .ref 0), (0, .retAddr 0)], [], h2) r h' → mj_runsL sc (mj_law, 32, [(3, .int i), (2, .ref 234), (1, .ref 0), (0, .retAddr 0)], [.int v], h) r h' := by
  obtain ⟨r1, r2, h1, h2, ⟨y1, z1⟩, ⟨y2, z2⟩, q1, q2, g2, er⟩ := go_goBack x1 hI
  refine ⟨h2, g2, fun r h' K => ?_⟩
  refine mj_runsL.step (S' := (mj_law, 1058, [(3, .int i), (2, .ref 234), (1, .ref 0), (0, .retAddr 0)], [], h)) (mj_one_tblIn mj_dL_32 (by rw [hv]; decide) (by rw [hv]; decide) (by rw [hv]; rfl) rfl) ?_
  refine mj_runsL.step (S' := (mj_law, 1059, [(3, .int i), (2, .ref 234), (1, .ref 0), (0, .retAddr 0)], [.ref 0], h)) (mj_one_of mj_dL_1058 fun _ _ => rfl) ?_
  refine mj_runsL.step (S' := (mj_law, 1060, [(3, .int i), (2, .ref 234), (1, .ref 0), (0, .retAddr 0)], [.retAddr 0, .ref 0], h)) (mj_one_of mj_dL_1059 fun _ _ => rfl) ?_
  refine mj_runsL.step (S' := (mj_law, 1061, [(3, .int i), (2, .ref 234), (1, .ref 0), (0, .retAddr 0)], [.int i, .retAddr 0, .ref 0], h)) (mj_one_of mj_dL_1060 fun _ _ => rfl) ?_
  refine mj_runsL.step (S' := (mj_law, 1062, [(3, .int i), (2, .ref 234), (1, .ref 0), (0, .retAddr 0)], [.int (1 : Int32), .int i, .retAddr 0, .ref 0], h)) (mj_one_of mj_dL_1061 fun _ _ => rfl) ?_
  refine mj_runsL.step (S' := (mj_law, 1063, [(3, .int i), (2, .ref 234), (1, .ref 0), (0, .retAddr 0)], [.int (i + (1 : Int32)), .retAddr 0, .ref 0], h)) (mj_one_of mj_dL_1062 fun _ _ => rfl) ?_
  refine mj_runsL.step (S' := (mj_law, 1064, [(3, .int i), (2, .ref 234), (1, .ref 0), (0, .retAddr 0)], [.int x1, .ref 0], h)) (lw_ald mj_dL_1063 (lw_add (m := 1) hi (by decide) (by omega)) e1) ?_
  refine mj_runsL.call (S1 := (mj_m_121, 0, [(0, .ref 0), (1, .int x1)], [], h)) (mj_calls_v mj_dL_1064 rfl rfl rfl z1 rfl rfl ⟨Nat.le_of_ble_eq_true rfl, ⟨Nat.le_of_ble_eq_true rfl, Nat.le_of_ble_eq_true rfl, Nat.le_of_ble_eq_true rfl, Nat.le_of_ble_eq_true rfl, Nat.le_of_ble_eq_true rfl⟩⟩) q1 ?_
  show mj_runsL _ (mj_law, 1067, [(3, .int i), (2, .ref 234), (1, .ref 0), (0, .retAddr 0)], [.int r1], h1) _ _
  refine mj_runsL.step (S' := (mj_law, 1068, [(3, .int i), (2, .ref 234), (1, .ref 0), (0, .retAddr 0)], [.ref 234, .int r1], h1)) (mj_one_of mj_dL_1067 fun _ _ => rfl) ?_
  refine mj_runsL.step (S' := (mj_law, 1069, [(3, .int i), (2, .ref 234), (1, .ref 0), (0, .retAddr 0)], [.retAddr 0, .ref 234, .int r1], h1)) (mj_one_of mj_dL_1068 fun _ _ => rfl) ?_
  refine mj_runsL.step (S' := (mj_law, 1070, [(3, .int i), (2, .ref 234), (1, .ref 0), (0, .retAddr 0)], [.int i, .retAddr 0, .ref 234, .int r1], h1)) (mj_one_of mj_dL_1069 fun _ _ => rfl) ?_
  refine mj_runsL.step (S' := (mj_law, 1071, [(3, .int i), (2, .ref 234), (1, .ref 0), (0, .retAddr 0)], [.int (1 : Int32), .int i, .retAddr 0, .ref 234, .int r1], h1)) (mj_one_of mj_dL_1070 fun _ _ => rfl) ?_
  refine mj_runsL.step (S' := (mj_law, 1072, [(3, .int i), (2, .ref 234), (1, .ref 0), (0, .retAddr 0)], [.int (i + (1 : Int32)), .retAddr 0, .ref 234, .int r1], h1)) (mj_one_of mj_dL_1071 fun _ _ => rfl) ?_
  refine mj_runsL.step (S' := (mj_law, 1073, [(3, .int i), (2, .ref 234), (1, .ref 0), (0, .retAddr 0)], [.int x1, .ref 234, .int r1], h1)) (lw_ald mj_dL_1072 (lw_add (m := 1) hi (by decide) (by omega)) e1) ?_
  refine mj_runsL.call (S1 := (mj_m_189, 0, [(0, .ref 234), (1, .int x1)], [], h1)) (mj_calls_v mj_dL_1073 rfl rfl rfl z2 rfl rfl ⟨Nat.le_of_ble_eq_true rfl, ⟨Nat.le_of_ble_eq_true rfl, Nat.le_of_ble_eq_true rfl, Nat.le_of_ble_eq_true rfl, Nat.le_of_ble_eq_true rfl, Nat.le_of_ble_eq_true rfl⟩⟩) q2 ?_
  show mj_runsL _ (mj_law, 1076, [(3, .int i), (2, .ref 234), (1, .ref 0), (0, .retAddr 0)], [.int r2, .int r1], h2) _ _
  refine mj_runsL.step (S' := (mj_law, 1081, [(3, .int i), (2, .ref 234), (1, .ref 0), (0, .retAddr 0)], [], h2)) (mj_one_icmpT mj_dL_1076 rfl (by rw [er]; exact decide_eq_true rfl)) ?_
  exact K
theorem lw_case_d {sc : List Int32} {i v : Int32} {h : mj_H} (hI : go_I h) (hv : v.toInt < 0 ∨ 30 < v.toInt) : ∃ h2, go_I h2 ∧ ∀ r h', mj_runsL sc (mj_law, 1081, [(3, .int i), (2, .ref 234), (1, .ref 0), (0, .retAddr 0)], [], h2) r h' → mj_runsL sc (mj_law, 32, [(3, .int i), (2, .ref 234), (1, .ref 0), (0, .retAddr 0)], [.int v], h) r h' := by
  refine ⟨h, hI, fun r h' K => ?_⟩
  refine mj_runsL.step (S' := (mj_law, 1081, [(3, .int i), (2, .ref 234), (1, .ref 0), (0, .retAddr 0)], [], h)) (mj_one_tblOut mj_dL_32 rfl hv) ?_
  exact K
theorem lw_len {n : Nat} (hL : n ≤ 320) : (Int32.ofNat n - 5).toInt = (n : Int) - 5 := by
  have e : (Int32.ofNat n).toInt = (n : Int) := Int32.toInt_ofNat_of_lt (by omega)
  rw [Int32.toInt_sub, e, show (5 : Int32).toInt = 5 by decide]
  exact ab_bmod (by omega) (by omega)
set_option maxRecDepth 1000000 in
theorem lw_exit {sc : List Int32} (hL : sc.length ≤ 320) {k : Nat} {i : Int32} (hi : i.toInt = ((5 * k : Nat) : Int)) (hk : sc.length < 5 * k + 5) (h : mj_H) : mj_runsL sc (mj_law, 18, [(3, .int i), (2, .ref 234), (1, .ref 0), (0, .retAddr 0)], [], h) (some (.int 1)) h := by
  refine mj_runsL.step (S' := (mj_law, 19, [(3, .int i), (2, .ref 234), (1, .ref 0), (0, .retAddr 0)], [.int i], h)) (mj_one_of mj_dL_18 fun _ _ => rfl) ?_
  refine mj_runsL.step (S' := (mj_law, 20, [(3, .int i), (2, .ref 234), (1, .ref 0), (0, .retAddr 0)], [.retAddr 0, .int i], h)) (mj_one_of mj_dL_19 fun _ _ => rfl) ?_
  refine mj_runsL.step (S' := (mj_law, 21, [(3, .int i), (2, .ref 234), (1, .ref 0), (0, .retAddr 0)], [.int (Int32.ofNat sc.length), .int i], h)) (mj_one_of mj_dL_20 fun _ _ => rfl) ?_
  refine mj_runsL.step (S' := (mj_law, 22, [(3, .int i), (2, .ref 234), (1, .ref 0), (0, .retAddr 0)], [.int (5 : Int32), .int (Int32.ofNat sc.length), .int i], h)) (mj_one_of mj_dL_21 fun _ _ => rfl) ?_
  refine mj_runsL.step (S' := (mj_law, 23, [(3, .int i), (2, .ref 234), (1, .ref 0), (0, .retAddr 0)], [.int (Int32.ofNat sc.length - 5), .int i], h)) (mj_one_of mj_dL_22 fun _ _ => rfl) ?_
  refine mj_runsL.step (S' := (mj_law, 1087, [(3, .int i), (2, .ref 234), (1, .ref 0), (0, .retAddr 0)], [], h)) (mj_one_icmpT mj_dL_23 rfl (mj_cT_gt hi (lw_len hL) (by omega))) ?_
  refine mj_runsL.step (S' := (mj_law, 1088, [(3, .int i), (2, .ref 234), (1, .ref 0), (0, .retAddr 0)], [.int (1 : Int32)], h)) (mj_one_of mj_dL_1087 fun _ _ => rfl) ?_
  exact mj_runsL.ret (mj_ret_of mj_dL_1088 fun _ _ => rfl)
set_option maxRecDepth 1000000 in
theorem lw_enter {sc : List Int32} (hL : sc.length ≤ 320) {k : Nat} {i x0 : Int32} (hi : i.toInt = ((5 * k : Nat) : Int)) (hk : 5 * k + 4 < sc.length) (e0 : sc[5 * k]? = some x0) {h h' : mj_H} {r : Option Value} (K : mj_runsL sc (mj_law, 32, [(3, .int i), (2, .ref 234), (1, .ref 0), (0, .retAddr 0)], [.int (x0 &&& 31)], h) r h') : mj_runsL sc (mj_law, 18, [(3, .int i), (2, .ref 234), (1, .ref 0), (0, .retAddr 0)], [], h) r h' := by
  refine mj_runsL.step (S' := (mj_law, 19, [(3, .int i), (2, .ref 234), (1, .ref 0), (0, .retAddr 0)], [.int i], h)) (mj_one_of mj_dL_18 fun _ _ => rfl) ?_
  refine mj_runsL.step (S' := (mj_law, 20, [(3, .int i), (2, .ref 234), (1, .ref 0), (0, .retAddr 0)], [.retAddr 0, .int i], h)) (mj_one_of mj_dL_19 fun _ _ => rfl) ?_
  refine mj_runsL.step (S' := (mj_law, 21, [(3, .int i), (2, .ref 234), (1, .ref 0), (0, .retAddr 0)], [.int (Int32.ofNat sc.length), .int i], h)) (mj_one_of mj_dL_20 fun _ _ => rfl) ?_
  refine mj_runsL.step (S' := (mj_law, 22, [(3, .int i), (2, .ref 234), (1, .ref 0), (0, .retAddr 0)], [.int (5 : Int32), .int (Int32.ofNat sc.length), .int i], h)) (mj_one_of mj_dL_21 fun _ _ => rfl) ?_
  refine mj_runsL.step (S' := (mj_law, 23, [(3, .int i), (2, .ref 234), (1, .ref 0), (0, .retAddr 0)], [.int (Int32.ofNat sc.length - 5), .int i], h)) (mj_one_of mj_dL_22 fun _ _ => rfl) ?_
  refine mj_runsL.step (S' := (mj_law, 26, [(3, .int i), (2, .ref 234), (1, .ref 0), (0, .retAddr 0)], [], h)) (mj_one_icmpF mj_dL_23 (t := 1087) rfl (mj_cF_gt hi (lw_len hL) (by omega))) ?_
  refine mj_runsL.step (S' := (mj_law, 27, [(3, .int i), (2, .ref 234), (1, .ref 0), (0, .retAddr 0)], [.retAddr 0], h)) (mj_one_of mj_dL_26 fun _ _ => rfl) ?_
  refine mj_runsL.step (S' := (mj_law, 28, [(3, .int i), (2, .ref 234), (1, .ref 0), (0, .retAddr 0)], [.int i, .retAddr 0], h)) (mj_one_of mj_dL_27 fun _ _ => rfl) ?_
  refine mj_runsL.step (S' := (mj_law, 29, [(3, .int i), (2, .ref 234), (1, .ref 0), (0, .retAddr 0)], [.int x0], h)) (lw_ald mj_dL_28 hi e0) ?_
  refine mj_runsL.step (S' := (mj_law, 31, [(3, .int i), (2, .ref 234), (1, .ref 0), (0, .retAddr 0)], [.int (31 : Int32), .int x0], h)) (mj_one_of mj_dL_29 fun _ _ => rfl) ?_
  refine mj_runsL.step (S' := (mj_law, 32, [(3, .int i), (2, .ref 234), (1, .ref 0), (0, .retAddr 0)], [.int (x0 &&& 31)], h)) (mj_one_of mj_dL_31 fun _ _ => rfl) ?_
  exact K
set_option maxRecDepth 1000000 in
theorem lw_tail {sc : List Int32} {i : Int32} {h h' : mj_H} {r : Option Value} (K : mj_runsL sc (mj_law, 18, [(3, .int (i + 5)), (2, .ref 234), (1, .ref 0), (0, .retAddr 0)], [], h) r h') : mj_runsL sc (mj_law, 1081, [(3, .int i), (2, .ref 234), (1, .ref 0), (0, .retAddr 0)], [], h) r h' := by
  refine mj_runsL.step (S' := (mj_law, 1084, [(3, .int (i + 5)), (2, .ref 234), (1, .ref 0), (0, .retAddr 0)], [], h)) (mj_one_of mj_dL_1081 fun _ _ => rfl) ?_
  refine mj_runsL.step (S' := (mj_law, 18, [(3, .int (i + 5)), (2, .ref 234), (1, .ref 0), (0, .retAddr 0)], [], h)) (mj_one_of mj_dL_1084 fun _ _ => rfl) ?_
  exact K
theorem lw_one {sc : List Int32} {k : Nat} {i x0 : Int32} (hk3 : k < 100) (hi : i.toInt = ((5 * k : Nat) : Int)) (hk : 5 * k + 4 < sc.length) {h : mj_H} (hI : go_I h) : ∃ h2, go_I h2 ∧ ∀ r h', mj_runsL sc (mj_law, 1081, [(3, .int i), (2, .ref 234), (1, .ref 0), (0, .retAddr 0)], [], h2) r h' → mj_runsL sc (mj_law, 32, [(3, .int i), (2, .ref 234), (1, .ref 0), (0, .retAddr 0)], [.int (x0 &&& 31)], h) r h' := by
  have e1 : sc[5 * k + 1]? = some (sc[5 * k + 1]'(by omega)) := List.getElem?_eq_getElem (by omega)
  have e2 : sc[5 * k + 2]? = some (sc[5 * k + 2]'(by omega)) := List.getElem?_eq_getElem (by omega)
  have e3 : sc[5 * k + 3]? = some (sc[5 * k + 3]'(by omega)) := List.getElem?_eq_getElem (by omega)
  have e4 : sc[5 * k + 4]? = some (sc[5 * k + 4]'(by omega)) := List.getElem?_eq_getElem (by omega)
  generalize x0 &&& 31 = v
  by_cases hv : v.toInt < 0 ∨ 30 < v.toInt
  · exact lw_case_d hI hv
  · obtain ⟨j, hj, hv⟩ : ∃ j : Nat, j < 31 ∧ v.toInt = j := ⟨v.toInt.toNat, by omega, by omega⟩
    match j, hj, hv with
    | 0, _, hv => exact lw_case_0 hk3 hi e1 hI hv
    | 1, _, hv => exact lw_case_1 hk3 hi hI hv
    | 2, _, hv => exact lw_case_2 hk3 hi hI hv
    | 3, _, hv => exact lw_case_3 hk3 hi e1 hI hv
    | 4, _, hv => exact lw_case_4 hk3 hi e1 e2 hI hv
    | 5, _, hv => exact lw_case_5 hk3 hi e1 e2 hI hv
    | 6, _, hv => exact lw_case_6 hk3 hi e1 e2 hI hv
    | 7, _, hv => exact lw_case_7 hk3 hi e1 hI hv
    | 8, _, hv => exact lw_case_8 hk3 hi e1 e2 hI hv
    | 9, _, hv => exact lw_case_9 hk3 hi hI hv
    | 10, _, hv => exact lw_case_10 hk3 hi e1 hI hv
    | 11, _, hv => exact lw_case_11 hk3 hi e1 e2 hI hv
    | 12, _, hv => exact lw_case_12 hk3 hi e1 e2 e3 e4 hI hv
    | 13, _, hv => exact lw_case_13 hk3 hi e1 e2 e3 hI hv
    | 14, _, hv => exact lw_case_14 hk3 hi e1 hI hv
    | 15, _, hv => exact lw_case_15 hk3 hi e1 hI hv
    | 16, _, hv => exact lw_case_16 hk3 hi e1 e2 e3 hI hv
    | 17, _, hv => exact lw_case_17 hk3 hi e1 e2 e3 hI hv
    | 18, _, hv => exact lw_case_18 hk3 hi e1 e2 hI hv
    | 19, _, hv => exact lw_case_19 hk3 hi e1 e2 e3 hI hv
    | 20, _, hv => exact lw_case_20 hk3 hi e1 hI hv
    | 21, _, hv => exact lw_case_21 hk3 hi e1 e2 hI hv
    | 22, _, hv => exact lw_case_22 hk3 hi e1 e2 hI hv
    | 23, _, hv => exact lw_case_23 hk3 hi e1 e2 e3 hI hv
    | 24, _, hv => exact lw_case_24 hk3 hi e1 e2 hI hv
    | 25, _, hv => exact lw_case_25 hk3 hi e1 e2 hI hv
    | 26, _, hv => exact lw_case_26 hk3 hi hI hv
    | 27, _, hv => exact lw_case_27 hk3 hi hI hv
    | 28, _, hv => exact lw_case_28 hk3 hi e1 hI hv
    | 29, _, hv => exact lw_case_29 hk3 hi e1 hI hv
    | 30, _, hv => exact lw_case_30 hk3 hi e1 hI hv
    | n + 31, hj, _ => exact absurd hj (by omega)
theorem lw_loop {sc : List Int32} (hL : sc.length ≤ 320) (n : Nat) : ∀ (k : Nat) (i : Int32) (h : mj_H), i.toInt = ((5 * k : Nat) : Int) → sc.length < 5 * k + 5 * n + 5 → k < 100 → go_I h → ∃ h', mj_runsL sc (mj_law, 18, [(3, .int i), (2, .ref 234), (1, .ref 0), (0, .retAddr 0)], [], h) (some (.int 1)) h' ∧ mj_sz h' := by
  induction n with
  | zero =>
    intro k i h hi hn hk3 hI
    exact ⟨h, lw_exit hL hi (by omega) h, sz_of hI.1⟩
  | succ n ih =>
    intro k i h hi hn hk3 hI
    by_cases c : 5 * k + 4 < sc.length
    · have e0 : sc[5 * k]? = some (sc[5 * k]'(by omega)) := List.getElem?_eq_getElem (by omega)
      obtain ⟨h2, hI2, K⟩ := lw_one (x0 := sc[5 * k]'(by omega)) hk3 hi c hI
      have hi5 := lw_add (i := i) (c := 5) (q := 5 * k) (m := 5) hi (by decide) (by omega)
      obtain ⟨h', r1, r2⟩ := ih (k + 1) (i + 5) h2 (by rw [hi5]; omega) (by omega) (by omega) hI2
      exact ⟨h', lw_enter hL hi c e0 (K _ _ (lw_tail r1)), r2⟩
    · exact ⟨h, lw_exit hL hi (by omega) h, sz_of hI.1⟩
set_option maxRecDepth 1000000 in
set_option maxHeartbeats 1000000 in
theorem lw_begin {sc : List Int32} {h' : mj_H} {r : Option Value} (K : mj_runsL sc (mj_law, 18, [(3, .int (0 : Int32)), (2, .ref 234), (1, .ref 0), (0, .retAddr 0)], [], mj_h0) r h') : mj_runsL sc (mj_law, 0, [(0, .retAddr 0)], [], []) r h' := by
  refine mj_runsL.step (S' := (mj_law, 3, [(0, .retAddr 0)], [.ref 0], [(9, [.null, .null, .null, .null, .null, .null, .null, .null, .null, .int (0 : Int32)])])) (mj_one_of mj_dL_0 fun _ _ => rfl) ?_
  refine mj_runsL.step (S' := (mj_law, 4, [(0, .retAddr 0)], [.ref 0, .ref 0], [(9, [.null, .null, .null, .null, .null, .null, .null, .null, .null, .int (0 : Int32)])])) (mj_one_of mj_dL_3 fun _ _ => rfl) ?_
  refine mj_runsL.call (S1 := (mj_m_0, 0, [(0, .ref 0)], [], [(9, [.null, .null, .null, .null, .null, .null, .null, .null, .null, .int (0 : Int32)])])) (mj_calls_i mj_dL_4 rfl rfl rfl (by decide) rfl ⟨Nat.le_of_ble_eq_true rfl, Nat.le_of_ble_eq_true rfl, Nat.le_of_ble_eq_true rfl, Nat.le_of_ble_eq_true rfl, Nat.le_of_ble_eq_true rfl⟩) mj_runA ?_
  show mj_runsL _ (mj_law, 7, [(0, .retAddr 0)], [.ref 0], mj_hA) _ _
  refine mj_runsL.step (S' := (mj_law, 8, [(1, .ref 0), (0, .retAddr 0)], [], mj_hA)) (mj_one_of mj_dL_7 fun _ _ => rfl) ?_
  refine mj_runsL.step (S' := (mj_law, 11, [(1, .ref 0), (0, .retAddr 0)], [.ref 234], (mj_hA ++ [(10, [.null, .null, .int (0 : Int32), .int (0 : Int32), .int (0 : Int32), .int (0 : Int32), .int (0 : Int32), .int (0 : Int32), .null, .null, .int (0 : Int32), .int (0 : Int32), .int (0 : Int32), .int (0 : Int32), .int (0 : Int32), .int (0 : Int32), .int (0 : Int32), .int (0 : Int32), .int (0 : Int32), .int (0 : Int32), .null, .null, .int (0 : Int32), .null, .null, .null, .null, .null, .null, .null, .null, .int (0 : Int32), .null, .null, .null, .int (0 : Int32), .null, .null])]))) (mj_one_of mj_dL_8 fun _ _ => rfl) ?_
  refine mj_runsL.step (S' := (mj_law, 12, [(1, .ref 0), (0, .retAddr 0)], [.ref 234, .ref 234], (mj_hA ++ [(10, [.null, .null, .int (0 : Int32), .int (0 : Int32), .int (0 : Int32), .int (0 : Int32), .int (0 : Int32), .int (0 : Int32), .null, .null, .int (0 : Int32), .int (0 : Int32), .int (0 : Int32), .int (0 : Int32), .int (0 : Int32), .int (0 : Int32), .int (0 : Int32), .int (0 : Int32), .int (0 : Int32), .int (0 : Int32), .null, .null, .int (0 : Int32), .null, .null, .null, .null, .null, .null, .null, .null, .int (0 : Int32), .null, .null, .null, .int (0 : Int32), .null, .null])]))) (mj_one_of mj_dL_11 fun _ _ => rfl) ?_
  refine mj_runsL.call (S1 := (mj_m_124, 0, [(0, .ref 234)], [], (mj_hA ++ [(10, [.null, .null, .int (0 : Int32), .int (0 : Int32), .int (0 : Int32), .int (0 : Int32), .int (0 : Int32), .int (0 : Int32), .null, .null, .int (0 : Int32), .int (0 : Int32), .int (0 : Int32), .int (0 : Int32), .int (0 : Int32), .int (0 : Int32), .int (0 : Int32), .int (0 : Int32), .int (0 : Int32), .int (0 : Int32), .null, .null, .int (0 : Int32), .null, .null, .null, .null, .null, .null, .null, .null, .int (0 : Int32), .null, .null, .null, .int (0 : Int32), .null, .null])]))) (mj_calls_i mj_dL_12 rfl rfl rfl (by decide) rfl ⟨Nat.le_of_ble_eq_true rfl, Nat.le_of_ble_eq_true rfl, Nat.le_of_ble_eq_true rfl, Nat.le_of_ble_eq_true rfl, Nat.le_of_ble_eq_true rfl⟩) mj_runB ?_
  show mj_runsL _ (mj_law, 15, [(1, .ref 0), (0, .retAddr 0)], [.ref 234], mj_h0) _ _
  refine mj_runsL.step (S' := (mj_law, 16, [(2, .ref 234), (1, .ref 0), (0, .retAddr 0)], [], mj_h0)) (mj_one_of mj_dL_15 fun _ _ => rfl) ?_
  refine mj_runsL.step (S' := (mj_law, 17, [(2, .ref 234), (1, .ref 0), (0, .retAddr 0)], [.int (0 : Int32)], mj_h0)) (mj_one_of mj_dL_16 fun _ _ => rfl) ?_
  refine mj_runsL.step (S' := (mj_law, 18, [(3, .int (0 : Int32)), (2, .ref 234), (1, .ref 0), (0, .retAddr 0)], [], mj_h0)) (mj_one_of mj_dL_17 fun _ _ => rfl) ?_
  exact K
theorem mj_runs1 (sc : List Int32) (hL : sc.length ≤ 320) : ∃ f0 f h', mj_exL sc (mj_ex f0) f (mj_law, 0, [(0, .retAddr 0)], [], []) = some (some (.int 1), h') ∧ h'.length ≤ 600000 ∧ mj_sl h' ≤ 7302249 := by
  obtain ⟨h', k, z1, z2⟩ := lw_loop hL 64 0 0 mj_h0 (by decide) (by omega) (by omega) go_0
  obtain ⟨f0, f, e⟩ := lw_begin k
  exact ⟨f0, f, h', e, z1, z2⟩
