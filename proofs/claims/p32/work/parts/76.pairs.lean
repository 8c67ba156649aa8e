set_option maxRecDepth 100000 in
theorem go_feed (x1 : Int32) {h : mj_H} (hI : go_I h) : ∃ (r1 r2 : Int32) (h1 h2 : mj_H), (∃ ys, h[0]? = some (9, ys)) ∧ (∃ ys, h1[234]? = some (10, ys)) ∧ mj_runs (mj_m_10, 0, [(0, .ref 0), (1, .int x1)], [], h) (some (.int r1)) h1 ∧ mj_runs (mj_m_125, 0, [(0, .ref 234), (1, .int x1)], [], h1) (some (.int r2)) h2 ∧ go_I h2 := by
  obtain ⟨hH, hg, hr, hq, hz⟩ := hI
  have sh : sv (sy_rd h) := ⟨h, hH, rfl⟩
  obtain ⟨c1, k1, e1, Q1⟩ := dt_C_feed hH (a1 := x1.toInt) (sy_lo (x := x1)).1 (sy_lo (x := x1)).2
  obtain ⟨hH1, s1, rfl, -, -⟩ := Q1
  have hg1 : gv_R (sy_rd k1) := by rw [s1]; exact gv_RK hg ⟨dr_C_feed _ _ 234 6 rfl, dr_C_feed _ _ 234 2 rfl, fun i => dr_C_feed _ _ 236 i rfl, fun q _ => dr_C_feed _ _ 235 _ rfl⟩
  have sk : sv (sy_rd k1) := ⟨k1, hH1, rfl⟩
  have hq1 : r2 (sy_rd h) (sy_rd k1) := r2_fr (st_b_of sh) (fun _ _ _ _ => rfl) (fun k _ _ => by rw [s1]; exact dr_C_feed _ _ 234 k rfl) (fun k => by rw [s1]; exact dr_C_feed _ _ 236 k rfl) (fun k => by rw [s1]; exact dr_C_feed _ _ 237 k rfl) (fun k _ => by rw [s1]; exact dr_C_feed _ _ 235 k rfl) hq
  have hz1 : r3 (sy_rd h) (sy_rd k1) := r3_fr (fun _ => rfl) (fun _ => rfl) (fun _ => rfl) (fun _ => rfl) (fun _ => rfl) (fun k => by rw [s1]; exact dr_C_feed _ _ 249 k rfl) (fun k => by rw [s1]; exact dr_C_feed _ _ 250 k rfl) (fun k => by rw [s1]; exact dr_C_feed _ _ 251 k rfl) (fun k => by rw [s1]; exact dr_C_feed _ _ 252 k rfl) (fun k => by rw [s1]; exact dr_C_feed _ _ 253 k rfl) (by rw [s1]; exact dr_C_feed _ _ 234 31 rfl) (by rw [s1]; exact dr_C_feed _ _ 234 35 rfl) (by rw [s1]; exact dr_C_feed _ _ 234 6 rfl) hz
  obtain ⟨c2, k2, e2, Q2⟩ := dt_R_feed hH1 (a1 := x1.toInt) (sy_lo (x := x1)).1 (sy_lo (x := x1)).2
  obtain ⟨hH2, s2, rfl, -, -⟩ := Q2
  have hq2 : r2 (sy_rd k1) (sy_rd k2) := r2_fr (st_b_of sk) (fun a k ha _ => by rw [s1]; exact dr_C_feed _ _ a k (dz_C_feed k ha)) (r2_27 (fun k hk => by rw [s2]; rcases hk with rfl | rfl | rfl | rfl | rfl | rfl <;> exact dr_R_feed _ _ 234 _ rfl)) (fun k => by rw [s2]; exact dr_R_feed _ _ 236 k rfl) (fun k => by rw [s2]; exact dr_R_feed _ _ 237 k rfl) (fun k hk => by rw [s2]; exact dr_R_feed _ _ 235 k rfl) hq1
  have hq3 : r2 (sy_rd k2) (sy_rd k2) := r2_fr (st_b_of ⟨k2, hH2, rfl⟩) (fun a k ha _ => by rw [s2]; exact dr_R_feed _ _ a k (dz_R_feed k (by omega))) (fun _ _ _ => rfl) (fun _ => rfl) (fun _ => rfl) (fun _ _ => rfl) hq2
  have hz2 : r3 (sy_rd k1) (sy_rd k2) := r3_fr (fun k => by rw [s1]; exact dr_C_feed _ _ 218 k rfl) (fun k => by rw [s1]; exact dr_C_feed _ _ 219 k rfl) (fun k => by rw [s1]; exact dr_C_feed _ _ 220 k rfl) (fun k => by rw [s1]; exact dr_C_feed _ _ 222 k rfl) (fun k => by rw [s1]; exact dr_C_feed _ _ 223 k rfl) (fun k => by rw [s2]; exact dr_R_feed _ _ 249 k rfl) (fun k => by rw [s2]; exact dr_R_feed _ _ 250 k rfl) (fun k => by rw [s2]; exact dr_R_feed _ _ 251 k rfl) (fun k => by rw [s2]; exact dr_R_feed _ _ 252 k rfl) (fun k => by rw [s2]; exact dr_R_feed _ _ 253 k rfl) (by rw [s2]; exact dr_R_feed _ _ 234 31 rfl) (by rw [s2]; exact dr_R_feed _ _ 234 35 rfl) (by rw [s2]; exact dr_R_feed _ _ 234 6 rfl) hz1
  have hz3 : r3 (sy_rd k2) (sy_rd k2) := r3_fr (fun k => by rw [s2]; exact dr_R_feed _ _ 218 k rfl) (fun k => by rw [s2]; exact dr_R_feed _ _ 219 k rfl) (fun k => by rw [s2]; exact dr_R_feed _ _ 220 k rfl) (fun k => by rw [s2]; exact dr_R_feed _ _ 222 k rfl) (fun k => by rw [s2]; exact dr_R_feed _ _ 223 k rfl) (fun _ => rfl) (fun _ => rfl) (fun _ => rfl) (fun _ => rfl) (fun _ => rfl) rfl rfl rfl hz2
  have g2 : go_I k2 := ⟨hH2, by rw [s2]; exact gv_feed hg1 _, by rw [s2, s1]; exact (r1_feed ⟨h, hH, rfl⟩ hr _).2, hq3, hz3⟩
  simp only [sy_of] at e1 e2
  obtain ⟨y1, z1, -⟩ := hH.cell (a := 0) (tag := 9) rfl
  obtain ⟨y2, z2, -⟩ := hH1.cell (a := 234) (tag := 10) rfl
  exact ⟨_, _, k1, k2, ⟨y1, z1⟩, ⟨y2, z2⟩, e1, e2, g2⟩
set_option maxRecDepth 100000 in
theorem go_city {h : mj_H} (hI : go_I h) : ∃ (r1 r2 : Int32) (h1 h2 : mj_H), (∃ ys, h[0]? = some (9, ys)) ∧ (∃ ys, h1[234]? = some (10, ys)) ∧ mj_runs (mj_m_12, 0, [(0, .ref 0)], [], h) (some (.int r1)) h1 ∧ mj_runs (mj_m_127, 0, [(0, .ref 234)], [], h1) (some (.int r2)) h2 ∧ go_I h2 := by
  obtain ⟨hH, hg, hr, hq, hz⟩ := hI
  have sh : sv (sy_rd h) := ⟨h, hH, rfl⟩
  obtain ⟨c1, k1, e1, Q1⟩ := dt_C_city hH
  obtain ⟨hH1, s1, rfl, -, -⟩ := Q1
  have hg1 : gv_R (sy_rd k1) := by rw [s1]; exact gv_RK hg ⟨dr_C_city _ 234 6 rfl, dr_C_city _ 234 2 rfl, fun i => dr_C_city _ 236 i rfl, fun q _ => dr_C_city _ 235 _ rfl⟩
  have sk : sv (sy_rd k1) := ⟨k1, hH1, rfl⟩
  have hq1 : r2 (sy_rd h) (sy_rd k1) := r2_fr (st_b_of sh) (fun _ _ _ _ => rfl) (fun k _ _ => by rw [s1]; exact dr_C_city _ 234 k rfl) (fun k => by rw [s1]; exact dr_C_city _ 236 k rfl) (fun k => by rw [s1]; exact dr_C_city _ 237 k rfl) (fun k _ => by rw [s1]; exact dr_C_city _ 235 k rfl) hq
  have hz1 : r3 (sy_rd h) (sy_rd k1) := r3_fr (fun _ => rfl) (fun _ => rfl) (fun _ => rfl) (fun _ => rfl) (fun _ => rfl) (fun k => by rw [s1]; exact dr_C_city _ 249 k rfl) (fun k => by rw [s1]; exact dr_C_city _ 250 k rfl) (fun k => by rw [s1]; exact dr_C_city _ 251 k rfl) (fun k => by rw [s1]; exact dr_C_city _ 252 k rfl) (fun k => by rw [s1]; exact dr_C_city _ 253 k rfl) (by rw [s1]; exact dr_C_city _ 234 31 rfl) (by rw [s1]; exact dr_C_city _ 234 35 rfl) (by rw [s1]; exact dr_C_city _ 234 6 rfl) hz
  obtain ⟨c2, k2, e2, Q2⟩ := dt_R_city hH1
  obtain ⟨hH2, s2, rfl, -, -⟩ := Q2
  have hq2 : r2 (sy_rd k1) (sy_rd k2) := by
    have c := r2_city sh sk (r1_T sh hr (by rw [s1]; exact dr_C_city _ 234 10 rfl) (fun k => by rw [s1]; exact dr_C_city _ 238 k rfl)) hq1
    rw [← s1, ← s2] at c
    exact c
  have hq3 : r2 (sy_rd k2) (sy_rd k2) := r2_fr (st_b_of ⟨k2, hH2, rfl⟩) (fun a k ha _ => by rw [s2]; exact dr_R_city _ a k (dz_R_city k (by omega))) (fun _ _ _ => rfl) (fun _ => rfl) (fun _ => rfl) (fun _ _ => rfl) hq2
  have hz2 : r3 (sy_rd k1) (sy_rd k2) := by
    have c := r3_city (r1_T sh hr (by rw [s1]; exact dr_C_city _ 234 10 rfl) (fun k => by rw [s1]; exact dr_C_city _ 238 k rfl)) hz1
    rw [← s1, ← s2] at c
    exact c
  have hz3 : r3 (sy_rd k2) (sy_rd k2) := r3_fr (fun k => by rw [s2]; exact dr_R_city _ 218 k rfl) (fun k => by rw [s2]; exact dr_R_city _ 219 k rfl) (fun k => by rw [s2]; exact dr_R_city _ 220 k rfl) (fun k => by rw [s2]; exact dr_R_city _ 222 k rfl) (fun k => by rw [s2]; exact dr_R_city _ 223 k rfl) (fun _ => rfl) (fun _ => rfl) (fun _ => rfl) (fun _ => rfl) (fun _ => rfl) rfl rfl rfl hz2
  have g2 : go_I k2 := ⟨hH2, by rw [s2]; exact gv_city ⟨k1, hH1, rfl⟩ hg1, by rw [s2, s1]; exact (r1_city ⟨h, hH, rfl⟩ hr).2, hq3, hz3⟩
  obtain ⟨y1, z1, -⟩ := hH.cell (a := 0) (tag := 9) rfl
  obtain ⟨y2, z2, -⟩ := hH1.cell (a := 234) (tag := 10) rfl
  exact ⟨_, _, k1, k2, ⟨y1, z1⟩, ⟨y2, z2⟩, e1, e2, g2⟩
set_option maxRecDepth 100000 in
theorem go_fault {h : mj_H} (hI : go_I h) : ∃ (r1 r2 : Int32) (h1 h2 : mj_H), (∃ ys, h[0]? = some (9, ys)) ∧ (∃ ys, h1[234]? = some (10, ys)) ∧ mj_runs (mj_m_33, 0, [(0, .ref 0)], [], h) (some (.int r1)) h1 ∧ mj_runs (mj_m_137, 0, [(0, .ref 234)], [], h1) (some (.int r2)) h2 ∧ go_I h2 := by
  obtain ⟨hH, hg, hr, hq, hz⟩ := hI
  have sh : sv (sy_rd h) := ⟨h, hH, rfl⟩
  obtain ⟨c1, k1, e1, Q1⟩ := dt_C_fault hH
  obtain ⟨q1, rfl, -, -⟩ := Q1
  have hH1 : sy_H k1 := by rw [← q1]; exact hH
  have hg1 : gv_R (sy_rd k1) := by rw [← q1]; exact hg
  have hr1 : r1 (sy_rd k1) := by rw [← q1]; exact hr
  have sk : sv (sy_rd k1) := ⟨k1, hH1, rfl⟩
  have hq1 : r2 (sy_rd h) (sy_rd k1) := by rw [← q1]; exact hq
  have hz1 : r3 (sy_rd h) (sy_rd k1) := by rw [← q1]; exact hz
  obtain ⟨c2, k2, e2, Q2⟩ := dt_R_fault hH1
  obtain ⟨q2, rfl, -, -⟩ := Q2
  have g2 : go_I k2 := by rw [← q2]; exact ⟨hH1, hg1, hr1, by rw [← q1]; exact hq, by rw [← q1]; exact hz⟩
  obtain ⟨y1, z1, -⟩ := hH.cell (a := 0) (tag := 9) rfl
  obtain ⟨y2, z2, -⟩ := hH1.cell (a := 234) (tag := 10) rfl
  exact ⟨_, _, k1, k2, ⟨y1, z1⟩, ⟨y2, z2⟩, e1, e2, g2⟩
set_option maxRecDepth 100000 in
theorem go_told (x1 : Int32) {h : mj_H} (hI : go_I h) : ∃ (r1 r2 : Int32) (h1 h2 : mj_H), (∃ ys, h[0]? = some (9, ys)) ∧ (∃ ys, h1[234]? = some (10, ys)) ∧ mj_runs (mj_m_34, 0, [(0, .ref 0), (1, .int x1)], [], h) (some (.int r1)) h1 ∧ mj_runs (mj_m_138, 0, [(0, .ref 234), (1, .int x1)], [], h1) (some (.int r2)) h2 ∧ go_I h2 := by
  obtain ⟨hH, hg, hr, hq, hz⟩ := hI
  have sh : sv (sy_rd h) := ⟨h, hH, rfl⟩
  obtain ⟨c1, k1, e1, Q1⟩ := dt_C_told hH (a1 := x1.toInt) (sy_lo (x := x1)).1 (sy_lo (x := x1)).2
  obtain ⟨q1, rfl, -, -⟩ := Q1
  have hH1 : sy_H k1 := by rw [← q1]; exact hH
  have hg1 : gv_R (sy_rd k1) := by rw [← q1]; exact hg
  have hr1 : r1 (sy_rd k1) := by rw [← q1]; exact hr
  have sk : sv (sy_rd k1) := ⟨k1, hH1, rfl⟩
  have hq1 : r2 (sy_rd h) (sy_rd k1) := by rw [← q1]; exact hq
  have hz1 : r3 (sy_rd h) (sy_rd k1) := by rw [← q1]; exact hz
  obtain ⟨c2, k2, e2, Q2⟩ := dt_R_told hH1 (a1 := x1.toInt) (sy_lo (x := x1)).1 (sy_lo (x := x1)).2
  obtain ⟨q2, rfl, -, -⟩ := Q2
  have g2 : go_I k2 := by rw [← q2]; exact ⟨hH1, hg1, hr1, by rw [← q1]; exact hq, by rw [← q1]; exact hz⟩
  simp only [sy_of] at e1 e2
  obtain ⟨y1, z1, -⟩ := hH.cell (a := 0) (tag := 9) rfl
  obtain ⟨y2, z2, -⟩ := hH1.cell (a := 234) (tag := 10) rfl
  exact ⟨_, _, k1, k2, ⟨y1, z1⟩, ⟨y2, z2⟩, e1, e2, g2⟩
set_option maxRecDepth 100000 in
theorem go_house (x1 x2 : Int32) {h : mj_H} (hI : go_I h) : ∃ (r1 r2 : Int32) (h1 h2 : mj_H), (∃ ys, h[0]? = some (9, ys)) ∧ (∃ ys, h1[234]? = some (10, ys)) ∧ mj_runs (mj_m_38, 0, [(0, .ref 0), (1, .int x1), (2, .int x2)], [], h) (some (.int r1)) h1 ∧ mj_runs (mj_m_140, 0, [(0, .ref 234), (1, .int x1), (2, .int x2)], [], h1) (some (.int r2)) h2 ∧ go_I h2 := by
  obtain ⟨hH, hg, hr, hq, hz⟩ := hI
  have sh : sv (sy_rd h) := ⟨h, hH, rfl⟩
  obtain ⟨c1, k1, e1, Q1⟩ := dt_C_house hH (a1 := x1.toInt) (a2 := x2.toInt) (sy_lo (x := x1)).1 (sy_lo (x := x1)).2 (sy_lo (x := x2)).1 (sy_lo (x := x2)).2
  obtain ⟨q1, rfl, -, -⟩ := Q1
  have hH1 : sy_H k1 := by rw [← q1]; exact hH
  have hg1 : gv_R (sy_rd k1) := by rw [← q1]; exact hg
  have hr1 : r1 (sy_rd k1) := by rw [← q1]; exact hr
  have sk : sv (sy_rd k1) := ⟨k1, hH1, rfl⟩
  have hq1 : r2 (sy_rd h) (sy_rd k1) := by rw [← q1]; exact hq
  have hz1 : r3 (sy_rd h) (sy_rd k1) := by rw [← q1]; exact hz
  obtain ⟨c2, k2, e2, Q2⟩ := dt_R_house hH1 (a1 := x1.toInt) (a2 := x2.toInt) (sy_lo (x := x1)).1 (sy_lo (x := x1)).2 (sy_lo (x := x2)).1 (sy_lo (x := x2)).2
  obtain ⟨q2, rfl, -, -⟩ := Q2
  have g2 : go_I k2 := by rw [← q2]; exact ⟨hH1, hg1, hr1, by rw [← q1]; exact hq, by rw [← q1]; exact hz⟩
  simp only [sy_of] at e1 e2
  obtain ⟨y1, z1, -⟩ := hH.cell (a := 0) (tag := 9) rfl
  obtain ⟨y2, z2, -⟩ := hH1.cell (a := 234) (tag := 10) rfl
  exact ⟨_, _, k1, k2, ⟨y1, z1⟩, ⟨y2, z2⟩, e1, e2, g2⟩
set_option maxRecDepth 100000 in
theorem go_layer (x1 x2 : Int32) {h : mj_H} (hI : go_I h) : ∃ (r1 r2 : Int32) (h1 h2 : mj_H), (∃ ys, h[0]? = some (9, ys)) ∧ (∃ ys, h1[234]? = some (10, ys)) ∧ mj_runs (mj_m_41, 0, [(0, .ref 0), (1, .int x1), (2, .int x2)], [], h) (some (.int r1)) h1 ∧ mj_runs (mj_m_143, 0, [(0, .ref 234), (1, .int x1), (2, .int x2)], [], h1) (some (.int r2)) h2 ∧ go_I h2 := by
  obtain ⟨hH, hg, hr, hq, hz⟩ := hI
  have sh : sv (sy_rd h) := ⟨h, hH, rfl⟩
  obtain ⟨c1, k1, e1, Q1⟩ := dt_C_layer hH (a1 := x1.toInt) (a2 := x2.toInt) (sy_lo (x := x1)).1 (sy_lo (x := x1)).2 (sy_lo (x := x2)).1 (sy_lo (x := x2)).2
  obtain ⟨q1, rfl, -, -⟩ := Q1
  have hH1 : sy_H k1 := by rw [← q1]; exact hH
  have hg1 : gv_R (sy_rd k1) := by rw [← q1]; exact hg
  have hr1 : r1 (sy_rd k1) := by rw [← q1]; exact hr
  have sk : sv (sy_rd k1) := ⟨k1, hH1, rfl⟩
  have hq1 : r2 (sy_rd h) (sy_rd k1) := by rw [← q1]; exact hq
  have hz1 : r3 (sy_rd h) (sy_rd k1) := by rw [← q1]; exact hz
  obtain ⟨c2, k2, e2, Q2⟩ := dt_R_layer hH1 (a1 := x1.toInt) (a2 := x2.toInt) (sy_lo (x := x1)).1 (sy_lo (x := x1)).2 (sy_lo (x := x2)).1 (sy_lo (x := x2)).2
  obtain ⟨q2, rfl, -, -⟩ := Q2
  have g2 : go_I k2 := by rw [← q2]; exact ⟨hH1, hg1, hr1, by rw [← q1]; exact hq, by rw [← q1]; exact hz⟩
  simp only [sy_of] at e1 e2
  obtain ⟨y1, z1, -⟩ := hH.cell (a := 0) (tag := 9) rfl
  obtain ⟨y2, z2, -⟩ := hH1.cell (a := 234) (tag := 10) rfl
  exact ⟨_, _, k1, k2, ⟨y1, z1⟩, ⟨y2, z2⟩, e1, e2, g2⟩
set_option maxRecDepth 100000 in
theorem go_sweep (x1 x2 : Int32) {h : mj_H} (hI : go_I h) : ∃ (r1 r2 : Int32) (h1 h2 : mj_H), (∃ ys, h[0]? = some (9, ys)) ∧ (∃ ys, h1[234]? = some (10, ys)) ∧ mj_runs (mj_m_43, 0, [(0, .ref 0), (1, .int x1), (2, .int x2)], [], h) (some (.int r1)) h1 ∧ mj_runs (mj_m_145, 0, [(0, .ref 234), (1, .int x1), (2, .int x2)], [], h1) (some (.int r2)) h2 ∧ go_I h2 := by
  obtain ⟨hH, hg, hr, hq, hz⟩ := hI
  have sh : sv (sy_rd h) := ⟨h, hH, rfl⟩
  obtain ⟨c1, k1, e1, Q1⟩ := dt_C_sweep hH (a1 := x1.toInt) (a2 := x2.toInt) (sy_lo (x := x1)).1 (sy_lo (x := x1)).2 (sy_lo (x := x2)).1 (sy_lo (x := x2)).2
  obtain ⟨q1, rfl, -, -⟩ := Q1
  have hH1 : sy_H k1 := by rw [← q1]; exact hH
  have hg1 : gv_R (sy_rd k1) := by rw [← q1]; exact hg
  have hr1 : r1 (sy_rd k1) := by rw [← q1]; exact hr
  have sk : sv (sy_rd k1) := ⟨k1, hH1, rfl⟩
  have hq1 : r2 (sy_rd h) (sy_rd k1) := by rw [← q1]; exact hq
  have hz1 : r3 (sy_rd h) (sy_rd k1) := by rw [← q1]; exact hz
  obtain ⟨c2, k2, e2, Q2⟩ := dt_R_sweep hH1 (a1 := x1.toInt) (a2 := x2.toInt) (sy_lo (x := x1)).1 (sy_lo (x := x1)).2 (sy_lo (x := x2)).1 (sy_lo (x := x2)).2
  obtain ⟨q2, rfl, -, -⟩ := Q2
  have g2 : go_I k2 := by rw [← q2]; exact ⟨hH1, hg1, hr1, by rw [← q1]; exact hq, by rw [← q1]; exact hz⟩
  simp only [sy_of] at e1 e2
  obtain ⟨y1, z1, -⟩ := hH.cell (a := 0) (tag := 9) rfl
  obtain ⟨y2, z2, -⟩ := hH1.cell (a := 234) (tag := 10) rfl
  exact ⟨_, _, k1, k2, ⟨y1, z1⟩, ⟨y2, z2⟩, e1, e2, g2⟩
set_option maxRecDepth 100000 in
theorem go_month (x1 : Int32) {h : mj_H} (hI : go_I h) : ∃ (r1 r2 : Int32) (h1 h2 : mj_H), (∃ ys, h[0]? = some (9, ys)) ∧ (∃ ys, h1[234]? = some (10, ys)) ∧ mj_runs (mj_m_45, 0, [(0, .ref 0), (1, .int x1)], [], h) (some (.int r1)) h1 ∧ mj_runs (mj_m_147, 0, [(0, .ref 234), (1, .int x1)], [], h1) (some (.int r2)) h2 ∧ go_I h2 := by
  obtain ⟨hH, hg, hr, hq, hz⟩ := hI
  have sh : sv (sy_rd h) := ⟨h, hH, rfl⟩
  obtain ⟨c1, k1, e1, Q1⟩ := dt_C_month hH (a1 := x1.toInt) (sy_lo (x := x1)).1 (sy_lo (x := x1)).2
  obtain ⟨hH1, s1, rfl, -, -⟩ := Q1
  have hg1 : gv_R (sy_rd k1) := by rw [s1]; exact gv_RK hg ⟨dr_C_month _ _ 234 6 rfl, dr_C_month _ _ 234 2 rfl, fun i => dr_C_month _ _ 236 i rfl, fun q _ => dr_C_month _ _ 235 _ rfl⟩
  have hr1 : r1 (sy_rd k1) := by rw [s1]; exact r1_K (dw := dw_C_month) (fun a k q => dr_C_month _ _ a k q) rfl rfl (fun _ => rfl) (fun _ => rfl) hr
  have sk : sv (sy_rd k1) := ⟨k1, hH1, rfl⟩
  have hq1 : r2 (sy_rd h) (sy_rd k1) := r2_fr (st_b_of sh) (fun _ _ _ _ => rfl) (fun k _ _ => by rw [s1]; exact dr_C_month _ _ 234 k rfl) (fun k => by rw [s1]; exact dr_C_month _ _ 236 k rfl) (fun k => by rw [s1]; exact dr_C_month _ _ 237 k rfl) (fun k _ => by rw [s1]; exact dr_C_month _ _ 235 k rfl) hq
  have hz1 : r3 (sy_rd h) (sy_rd k1) := r3_fr (fun _ => rfl) (fun _ => rfl) (fun _ => rfl) (fun _ => rfl) (fun _ => rfl) (fun k => by rw [s1]; exact dr_C_month _ _ 249 k rfl) (fun k => by rw [s1]; exact dr_C_month _ _ 250 k rfl) (fun k => by rw [s1]; exact dr_C_month _ _ 251 k rfl) (fun k => by rw [s1]; exact dr_C_month _ _ 252 k rfl) (fun k => by rw [s1]; exact dr_C_month _ _ 253 k rfl) (by rw [s1]; exact dr_C_month _ _ 234 31 rfl) (by rw [s1]; exact dr_C_month _ _ 234 35 rfl) (by rw [s1]; exact dr_C_month _ _ 234 6 rfl) hz
  obtain ⟨c2, k2, e2, Q2⟩ := dt_R_month hH1 (a1 := x1.toInt) (sy_lo (x := x1)).1 (sy_lo (x := x1)).2 (gv_of hg1)
  obtain ⟨hH2, s2, rfl, -, -⟩ := Q2
  have hq2 : r2 (sy_rd k1) (sy_rd k2) := by
    have c := (r2_month sk hg1 hq1 x1.toInt).2
    rw [← s1, ← s2] at c
    exact c
  have hq3 : r2 (sy_rd k2) (sy_rd k2) := r2_fr (st_b_of ⟨k2, hH2, rfl⟩) (fun a k ha _ => by rw [s2]; exact dr_R_month _ _ a k (dz_R_month k (by omega))) (fun _ _ _ => rfl) (fun _ => rfl) (fun _ => rfl) (fun _ _ => rfl) hq2
  have hz2 : r3 (sy_rd k1) (sy_rd k2) := r3_fr (fun k => by rw [s1]; exact dr_C_month _ _ 218 k rfl) (fun k => by rw [s1]; exact dr_C_month _ _ 219 k rfl) (fun k => by rw [s1]; exact dr_C_month _ _ 220 k rfl) (fun k => by rw [s1]; exact dr_C_month _ _ 222 k rfl) (fun k => by rw [s1]; exact dr_C_month _ _ 223 k rfl) (fun k => by rw [s2]; exact dr_R_month _ _ 249 k rfl) (fun k => by rw [s2]; exact dr_R_month _ _ 250 k rfl) (fun k => by rw [s2]; exact dr_R_month _ _ 251 k rfl) (fun k => by rw [s2]; exact dr_R_month _ _ 252 k rfl) (fun k => by rw [s2]; exact dr_R_month _ _ 253 k rfl) (by rw [s2]; exact dr_R_month _ _ 234 31 rfl) (by rw [s2]; exact dr_R_month _ _ 234 35 rfl) (by rw [s2]; exact dr_R_month _ _ 234 6 rfl) hz1
  have hz3 : r3 (sy_rd k2) (sy_rd k2) := r3_fr (fun k => by rw [s2]; exact dr_R_month _ _ 218 k rfl) (fun k => by rw [s2]; exact dr_R_month _ _ 219 k rfl) (fun k => by rw [s2]; exact dr_R_month _ _ 220 k rfl) (fun k => by rw [s2]; exact dr_R_month _ _ 222 k rfl) (fun k => by rw [s2]; exact dr_R_month _ _ 223 k rfl) (fun _ => rfl) (fun _ => rfl) (fun _ => rfl) (fun _ => rfl) (fun _ => rfl) rfl rfl rfl hz2
  have g2 : go_I k2 := ⟨hH2, by rw [s2]; exact gv_month ⟨k1, hH1, rfl⟩ hg1 _, by rw [s2]; exact r1_K (dw := dw_R_month) (fun a k q => dr_R_month _ _ a k q) rfl rfl (fun _ => rfl) (fun _ => rfl) hr1, hq3, hz3⟩
  simp only [sy_of] at e1 e2
  obtain ⟨y1, z1, -⟩ := hH.cell (a := 0) (tag := 9) rfl
  obtain ⟨y2, z2, -⟩ := hH1.cell (a := 234) (tag := 10) rfl
  exact ⟨_, _, k1, k2, ⟨y1, z1⟩, ⟨y2, z2⟩, e1, e2, g2⟩
set_option maxRecDepth 100000 in
theorem go_fire (x1 x2 : Int32) {h : mj_H} (hI : go_I h) : ∃ (r1 r2 : Int32) (h1 h2 : mj_H), (∃ ys, h[0]? = some (9, ys)) ∧ (∃ ys, h1[234]? = some (10, ys)) ∧ mj_runs (mj_m_54, 0, [(0, .ref 0), (1, .int x1), (2, .int x2)], [], h) (some (.int r1)) h1 ∧ mj_runs (mj_m_153, 0, [(0, .ref 234), (1, .int x1), (2, .int x2)], [], h1) (some (.int r2)) h2 ∧ go_I h2 := by
  obtain ⟨hH, hg, hr, hq, hz⟩ := hI
  have sh : sv (sy_rd h) := ⟨h, hH, rfl⟩
  obtain ⟨c1, k1, e1, Q1⟩ := dt_C_fire hH (a1 := x1.toInt) (a2 := x2.toInt) (sy_lo (x := x1)).1 (sy_lo (x := x1)).2 (sy_lo (x := x2)).1 (sy_lo (x := x2)).2
  obtain ⟨hH1, s1, rfl, -, -⟩ := Q1
  have hg1 : gv_R (sy_rd k1) := by rw [s1]; exact gv_RK hg ⟨dr_C_fire _ _ _ 234 6 rfl, dr_C_fire _ _ _ 234 2 rfl, fun i => dr_C_fire _ _ _ 236 i rfl, fun q _ => dr_C_fire _ _ _ 235 _ rfl⟩
  have hr1 : r1 (sy_rd k1) := by rw [s1]; exact r1_K (dw := dw_C_fire) (fun a k q => dr_C_fire _ _ _ a k q) rfl rfl (fun _ => rfl) (fun _ => rfl) hr
  have sk : sv (sy_rd k1) := ⟨k1, hH1, rfl⟩
  have hq1 : r2 (sy_rd h) (sy_rd k1) := r2_fr (st_b_of sh) (fun _ _ _ _ => rfl) (fun k _ _ => by rw [s1]; exact dr_C_fire _ _ _ 234 k rfl) (fun k => by rw [s1]; exact dr_C_fire _ _ _ 236 k rfl) (fun k => by rw [s1]; exact dr_C_fire _ _ _ 237 k rfl) (fun k _ => by rw [s1]; exact dr_C_fire _ _ _ 235 k rfl) hq
  have hz1 : r3 (sy_rd h) (sy_rd k1) := r3_fr (fun _ => rfl) (fun _ => rfl) (fun _ => rfl) (fun _ => rfl) (fun _ => rfl) (fun k => by rw [s1]; exact dr_C_fire _ _ _ 249 k rfl) (fun k => by rw [s1]; exact dr_C_fire _ _ _ 250 k rfl) (fun k => by rw [s1]; exact dr_C_fire _ _ _ 251 k rfl) (fun k => by rw [s1]; exact dr_C_fire _ _ _ 252 k rfl) (fun k => by rw [s1]; exact dr_C_fire _ _ _ 253 k rfl) (by rw [s1]; exact dr_C_fire _ _ _ 234 31 rfl) (by rw [s1]; exact dr_C_fire _ _ _ 234 35 rfl) (by rw [s1]; exact dr_C_fire _ _ _ 234 6 rfl) hz
  obtain ⟨c2, k2, e2, Q2⟩ := dt_R_fire hH1 (a1 := x1.toInt) (a2 := x2.toInt) (sy_lo (x := x1)).1 (sy_lo (x := x1)).2 (sy_lo (x := x2)).1 (sy_lo (x := x2)).2
  obtain ⟨hH2, s2, rfl, -, -⟩ := Q2
  have hq2 : r2 (sy_rd k1) (sy_rd k2) := by
    have c := (r2_fire sk hq1 x1.toInt x2.toInt).2
    rw [← s1, ← s2] at c
    exact c
  have hq3 : r2 (sy_rd k2) (sy_rd k2) := r2_fr (st_b_of ⟨k2, hH2, rfl⟩) (fun a k ha _ => by rw [s2]; exact dr_R_fire _ _ _ a k (dz_R_fire k (by omega))) (fun _ _ _ => rfl) (fun _ => rfl) (fun _ => rfl) (fun _ _ => rfl) hq2
  have hz2 : r3 (sy_rd k1) (sy_rd k2) := r3_fr (fun k => by rw [s1]; exact dr_C_fire _ _ _ 218 k rfl) (fun k => by rw [s1]; exact dr_C_fire _ _ _ 219 k rfl) (fun k => by rw [s1]; exact dr_C_fire _ _ _ 220 k rfl) (fun k => by rw [s1]; exact dr_C_fire _ _ _ 222 k rfl) (fun k => by rw [s1]; exact dr_C_fire _ _ _ 223 k rfl) (fun k => by rw [s2]; exact dr_R_fire _ _ _ 249 k rfl) (fun k => by rw [s2]; exact dr_R_fire _ _ _ 250 k rfl) (fun k => by rw [s2]; exact dr_R_fire _ _ _ 251 k rfl) (fun k => by rw [s2]; exact dr_R_fire _ _ _ 252 k rfl) (fun k => by rw [s2]; exact dr_R_fire _ _ _ 253 k rfl) (by rw [s2]; exact dr_R_fire _ _ _ 234 31 rfl) (by rw [s2]; exact dr_R_fire _ _ _ 234 35 rfl) (by rw [s2]; exact dr_R_fire _ _ _ 234 6 rfl) hz1
  have hz3 : r3 (sy_rd k2) (sy_rd k2) := r3_fr (fun k => by rw [s2]; exact dr_R_fire _ _ _ 218 k rfl) (fun k => by rw [s2]; exact dr_R_fire _ _ _ 219 k rfl) (fun k => by rw [s2]; exact dr_R_fire _ _ _ 220 k rfl) (fun k => by rw [s2]; exact dr_R_fire _ _ _ 222 k rfl) (fun k => by rw [s2]; exact dr_R_fire _ _ _ 223 k rfl) (fun _ => rfl) (fun _ => rfl) (fun _ => rfl) (fun _ => rfl) (fun _ => rfl) rfl rfl rfl hz2
  have g2 : go_I k2 := ⟨hH2, by rw [s2]; exact gv_fire ⟨k1, hH1, rfl⟩ hg1 _ _, by rw [s2]; exact r1_K (dw := dw_R_fire) (fun a k q => dr_R_fire _ _ _ a k q) rfl rfl (fun _ => rfl) (fun _ => rfl) hr1, hq3, hz3⟩
  simp only [sy_of] at e1 e2
  obtain ⟨y1, z1, -⟩ := hH.cell (a := 0) (tag := 9) rfl
  obtain ⟨y2, z2, -⟩ := hH1.cell (a := 234) (tag := 10) rfl
  exact ⟨_, _, k1, k2, ⟨y1, z1⟩, ⟨y2, z2⟩, e1, e2, g2⟩
set_option maxRecDepth 100000 in
theorem go_rain {h : mj_H} (hI : go_I h) : ∃ (r1 r2 : Int32) (h1 h2 : mj_H), (∃ ys, h[0]? = some (9, ys)) ∧ (∃ ys, h1[234]? = some (10, ys)) ∧ mj_runs (mj_m_55, 0, [(0, .ref 0)], [], h) (some (.int r1)) h1 ∧ mj_runs (mj_m_154, 0, [(0, .ref 234)], [], h1) (some (.int r2)) h2 ∧ go_I h2 := by
  obtain ⟨hH, hg, hr, hq, hz⟩ := hI
  have sh : sv (sy_rd h) := ⟨h, hH, rfl⟩
  obtain ⟨c1, k1, e1, Q1⟩ := dt_C_rain hH
  obtain ⟨hH1, s1, rfl, -, -⟩ := Q1
  have hg1 : gv_R (sy_rd k1) := by rw [s1]; exact gv_RK hg ⟨dr_C_rain _ 234 6 rfl, dr_C_rain _ 234 2 rfl, fun i => dr_C_rain _ 236 i rfl, fun q _ => dr_C_rain _ 235 _ rfl⟩
  have hr1 : r1 (sy_rd k1) := by rw [s1]; exact r1_K (dw := dw_C_rain) (fun a k q => dr_C_rain _ a k q) rfl rfl (fun _ => rfl) (fun _ => rfl) hr
  have sk : sv (sy_rd k1) := ⟨k1, hH1, rfl⟩
  have hq1 : r2 (sy_rd h) (sy_rd k1) := r2_fr (st_b_of sh) (fun _ _ _ _ => rfl) (fun k _ _ => by rw [s1]; exact dr_C_rain _ 234 k rfl) (fun k => by rw [s1]; exact dr_C_rain _ 236 k rfl) (fun k => by rw [s1]; exact dr_C_rain _ 237 k rfl) (fun k _ => by rw [s1]; exact dr_C_rain _ 235 k rfl) hq
  have hz1 : r3 (sy_rd h) (sy_rd k1) := r3_fr (fun _ => rfl) (fun _ => rfl) (fun _ => rfl) (fun _ => rfl) (fun _ => rfl) (fun k => by rw [s1]; exact dr_C_rain _ 249 k rfl) (fun k => by rw [s1]; exact dr_C_rain _ 250 k rfl) (fun k => by rw [s1]; exact dr_C_rain _ 251 k rfl) (fun k => by rw [s1]; exact dr_C_rain _ 252 k rfl) (fun k => by rw [s1]; exact dr_C_rain _ 253 k rfl) (by rw [s1]; exact dr_C_rain _ 234 31 rfl) (by rw [s1]; exact dr_C_rain _ 234 35 rfl) (by rw [s1]; exact dr_C_rain _ 234 6 rfl) hz
  obtain ⟨c2, k2, e2, Q2⟩ := dt_R_rain hH1
  obtain ⟨hH2, s2, rfl, -, -⟩ := Q2
  have hq2 : r2 (sy_rd k1) (sy_rd k2) := by
    have c := (r2_rain sk hq1).2
    rw [← s1, ← s2] at c
    exact c
  have hq3 : r2 (sy_rd k2) (sy_rd k2) := r2_fr (st_b_of ⟨k2, hH2, rfl⟩) (fun a k ha _ => by rw [s2]; exact dr_R_rain _ a k (dz_R_rain k (by omega))) (fun _ _ _ => rfl) (fun _ => rfl) (fun _ => rfl) (fun _ _ => rfl) hq2
  have hz2 : r3 (sy_rd k1) (sy_rd k2) := r3_fr (fun k => by rw [s1]; exact dr_C_rain _ 218 k rfl) (fun k => by rw [s1]; exact dr_C_rain _ 219 k rfl) (fun k => by rw [s1]; exact dr_C_rain _ 220 k rfl) (fun k => by rw [s1]; exact dr_C_rain _ 222 k rfl) (fun k => by rw [s1]; exact dr_C_rain _ 223 k rfl) (fun k => by rw [s2]; exact dr_R_rain _ 249 k rfl) (fun k => by rw [s2]; exact dr_R_rain _ 250 k rfl) (fun k => by rw [s2]; exact dr_R_rain _ 251 k rfl) (fun k => by rw [s2]; exact dr_R_rain _ 252 k rfl) (fun k => by rw [s2]; exact dr_R_rain _ 253 k rfl) (by rw [s2]; exact dr_R_rain _ 234 31 rfl) (by rw [s2]; exact dr_R_rain _ 234 35 rfl) (by rw [s2]; exact dr_R_rain _ 234 6 rfl) hz1
  have hz3 : r3 (sy_rd k2) (sy_rd k2) := r3_fr (fun k => by rw [s2]; exact dr_R_rain _ 218 k rfl) (fun k => by rw [s2]; exact dr_R_rain _ 219 k rfl) (fun k => by rw [s2]; exact dr_R_rain _ 220 k rfl) (fun k => by rw [s2]; exact dr_R_rain _ 222 k rfl) (fun k => by rw [s2]; exact dr_R_rain _ 223 k rfl) (fun _ => rfl) (fun _ => rfl) (fun _ => rfl) (fun _ => rfl) (fun _ => rfl) rfl rfl rfl hz2
  have g2 : go_I k2 := ⟨hH2, by rw [s2]; exact gv_rain ⟨k1, hH1, rfl⟩ hg1, by rw [s2]; exact r1_K (dw := dw_R_rain) (fun a k q => dr_R_rain _ a k q) rfl rfl (fun _ => rfl) (fun _ => rfl) hr1, hq3, hz3⟩
  obtain ⟨y1, z1, -⟩ := hH.cell (a := 0) (tag := 9) rfl
  obtain ⟨y2, z2, -⟩ := hH1.cell (a := 234) (tag := 10) rfl
  exact ⟨_, _, k1, k2, ⟨y1, z1⟩, ⟨y2, z2⟩, e1, e2, g2⟩
set_option maxRecDepth 100000 in
theorem go_swept (x1 : Int32) {h : mj_H} (hI : go_I h) : ∃ (r1 r2 : Int32) (h1 h2 : mj_H), (∃ ys, h[0]? = some (9, ys)) ∧ (∃ ys, h1[234]? = some (10, ys)) ∧ mj_runs (mj_m_58, 0, [(0, .ref 0), (1, .int x1)], [], h) (some (.int r1)) h1 ∧ mj_runs (mj_m_156, 0, [(0, .ref 234), (1, .int x1)], [], h1) (some (.int r2)) h2 ∧ go_I h2 := by
  obtain ⟨hH, hg, hr, hq, hz⟩ := hI
  have sh : sv (sy_rd h) := ⟨h, hH, rfl⟩
  obtain ⟨c1, k1, e1, Q1⟩ := dt_C_swept hH (a1 := x1.toInt) (sy_lo (x := x1)).1 (sy_lo (x := x1)).2
  obtain ⟨hH1, s1, rfl, -, -⟩ := Q1
  have hg1 : gv_R (sy_rd k1) := by rw [s1]; exact gv_RK hg ⟨dr_C_swept _ _ 234 6 rfl, dr_C_swept _ _ 234 2 rfl, fun i => dr_C_swept _ _ 236 i rfl, fun q _ => dr_C_swept _ _ 235 _ rfl⟩
  have hr1 : r1 (sy_rd k1) := by rw [s1]; exact r1_K (dw := dw_C_swept) (fun a k q => dr_C_swept _ _ a k q) rfl rfl (fun _ => rfl) (fun _ => rfl) hr
  have sk : sv (sy_rd k1) := ⟨k1, hH1, rfl⟩
  have hq1 : r2 (sy_rd h) (sy_rd k1) := r2_fr (st_b_of sh) (fun _ _ _ _ => rfl) (fun k _ _ => by rw [s1]; exact dr_C_swept _ _ 234 k rfl) (fun k => by rw [s1]; exact dr_C_swept _ _ 236 k rfl) (fun k => by rw [s1]; exact dr_C_swept _ _ 237 k rfl) (fun k _ => by rw [s1]; exact dr_C_swept _ _ 235 k rfl) hq
  have hz1 : r3 (sy_rd h) (sy_rd k1) := r3_fr (fun _ => rfl) (fun _ => rfl) (fun _ => rfl) (fun _ => rfl) (fun _ => rfl) (fun k => by rw [s1]; exact dr_C_swept _ _ 249 k rfl) (fun k => by rw [s1]; exact dr_C_swept _ _ 250 k rfl) (fun k => by rw [s1]; exact dr_C_swept _ _ 251 k rfl) (fun k => by rw [s1]; exact dr_C_swept _ _ 252 k rfl) (fun k => by rw [s1]; exact dr_C_swept _ _ 253 k rfl) (by rw [s1]; exact dr_C_swept _ _ 234 31 rfl) (by rw [s1]; exact dr_C_swept _ _ 234 35 rfl) (by rw [s1]; exact dr_C_swept _ _ 234 6 rfl) hz
  obtain ⟨c2, k2, e2, Q2⟩ := dt_R_swept hH1 (a1 := x1.toInt) (sy_lo (x := x1)).1 (sy_lo (x := x1)).2
  obtain ⟨hH2, s2, rfl, -, -⟩ := Q2
  have hq2 : r2 (sy_rd k1) (sy_rd k2) := by
    have c := (r2_swept sk hq1 x1.toInt).2
    rw [← s1, ← s2] at c
    exact c
  have hq3 : r2 (sy_rd k2) (sy_rd k2) := r2_fr (st_b_of ⟨k2, hH2, rfl⟩) (fun a k ha _ => by rw [s2]; exact dr_R_swept _ _ a k (dz_R_swept k (by omega))) (fun _ _ _ => rfl) (fun _ => rfl) (fun _ => rfl) (fun _ _ => rfl) hq2
  have hz2 : r3 (sy_rd k1) (sy_rd k2) := r3_fr (fun k => by rw [s1]; exact dr_C_swept _ _ 218 k rfl) (fun k => by rw [s1]; exact dr_C_swept _ _ 219 k rfl) (fun k => by rw [s1]; exact dr_C_swept _ _ 220 k rfl) (fun k => by rw [s1]; exact dr_C_swept _ _ 222 k rfl) (fun k => by rw [s1]; exact dr_C_swept _ _ 223 k rfl) (fun k => by rw [s2]; exact dr_R_swept _ _ 249 k rfl) (fun k => by rw [s2]; exact dr_R_swept _ _ 250 k rfl) (fun k => by rw [s2]; exact dr_R_swept _ _ 251 k rfl) (fun k => by rw [s2]; exact dr_R_swept _ _ 252 k rfl) (fun k => by rw [s2]; exact dr_R_swept _ _ 253 k rfl) (by rw [s2]; exact dr_R_swept _ _ 234 31 rfl) (by rw [s2]; exact dr_R_swept _ _ 234 35 rfl) (by rw [s2]; exact dr_R_swept _ _ 234 6 rfl) hz1
  have hz3 : r3 (sy_rd k2) (sy_rd k2) := r3_fr (fun k => by rw [s2]; exact dr_R_swept _ _ 218 k rfl) (fun k => by rw [s2]; exact dr_R_swept _ _ 219 k rfl) (fun k => by rw [s2]; exact dr_R_swept _ _ 220 k rfl) (fun k => by rw [s2]; exact dr_R_swept _ _ 222 k rfl) (fun k => by rw [s2]; exact dr_R_swept _ _ 223 k rfl) (fun _ => rfl) (fun _ => rfl) (fun _ => rfl) (fun _ => rfl) (fun _ => rfl) rfl rfl rfl hz2
  have g2 : go_I k2 := ⟨hH2, by rw [s2]; exact gv_swept ⟨k1, hH1, rfl⟩ hg1 _, by rw [s2]; exact r1_K (dw := dw_R_swept) (fun a k q => dr_R_swept _ _ a k q) rfl rfl (fun _ => rfl) (fun _ => rfl) hr1, hq3, hz3⟩
  simp only [sy_of] at e1 e2
  obtain ⟨y1, z1, -⟩ := hH.cell (a := 0) (tag := 9) rfl
  obtain ⟨y2, z2, -⟩ := hH1.cell (a := 234) (tag := 10) rfl
  exact ⟨_, _, k1, k2, ⟨y1, z1⟩, ⟨y2, z2⟩, e1, e2, g2⟩
set_option maxRecDepth 100000 in
theorem go_run (x1 x2 : Int32) {h : mj_H} (hI : go_I h) : ∃ (r1 r2 : Int32) (h1 h2 : mj_H), (∃ ys, h[0]? = some (9, ys)) ∧ (∃ ys, h1[234]? = some (10, ys)) ∧ mj_runs (mj_m_59, 0, [(0, .ref 0), (1, .int x1), (2, .int x2)], [], h) (some (.int r1)) h1 ∧ mj_runs (mj_m_157, 0, [(0, .ref 234), (1, .int x1), (2, .int x2)], [], h1) (some (.int r2)) h2 ∧ go_I h2 := by
  obtain ⟨hH, hg, hr, hq, hz⟩ := hI
  have sh : sv (sy_rd h) := ⟨h, hH, rfl⟩
  obtain ⟨c1, k1, e1, Q1⟩ := dt_C_run hH (a1 := x1.toInt) (a2 := x2.toInt) (sy_lo (x := x1)).1 (sy_lo (x := x1)).2 (sy_lo (x := x2)).1 (sy_lo (x := x2)).2
  obtain ⟨hH1, s1, rfl, -, -⟩ := Q1
  have hg1 : gv_R (sy_rd k1) := by rw [s1]; exact gv_RK hg ⟨dr_C_run _ _ _ 234 6 rfl, dr_C_run _ _ _ 234 2 rfl, fun i => dr_C_run _ _ _ 236 i rfl, fun q _ => dr_C_run _ _ _ 235 _ rfl⟩
  have hr1 : r1 (sy_rd k1) := by rw [s1]; exact r1_K (dw := dw_C_run) (fun a k q => dr_C_run _ _ _ a k q) rfl rfl (fun _ => rfl) (fun _ => rfl) hr
  have sk : sv (sy_rd k1) := ⟨k1, hH1, rfl⟩
  have hq1 : r2 (sy_rd h) (sy_rd k1) := r2_fr (st_b_of sh) (fun _ _ _ _ => rfl) (fun k _ _ => by rw [s1]; exact dr_C_run _ _ _ 234 k rfl) (fun k => by rw [s1]; exact dr_C_run _ _ _ 236 k rfl) (fun k => by rw [s1]; exact dr_C_run _ _ _ 237 k rfl) (fun k _ => by rw [s1]; exact dr_C_run _ _ _ 235 k rfl) hq
  have hz1 : r3 (sy_rd h) (sy_rd k1) := r3_fr (fun _ => rfl) (fun _ => rfl) (fun _ => rfl) (fun _ => rfl) (fun _ => rfl) (fun k => by rw [s1]; exact dr_C_run _ _ _ 249 k rfl) (fun k => by rw [s1]; exact dr_C_run _ _ _ 250 k rfl) (fun k => by rw [s1]; exact dr_C_run _ _ _ 251 k rfl) (fun k => by rw [s1]; exact dr_C_run _ _ _ 252 k rfl) (fun k => by rw [s1]; exact dr_C_run _ _ _ 253 k rfl) (by rw [s1]; exact dr_C_run _ _ _ 234 31 rfl) (by rw [s1]; exact dr_C_run _ _ _ 234 35 rfl) (by rw [s1]; exact dr_C_run _ _ _ 234 6 rfl) hz
  obtain ⟨c2, k2, e2, Q2⟩ := dt_R_run hH1 (a1 := x1.toInt) (a2 := x2.toInt) (sy_lo (x := x1)).1 (sy_lo (x := x1)).2 (sy_lo (x := x2)).1 (sy_lo (x := x2)).2
  obtain ⟨hH2, s2, rfl, -, -⟩ := Q2
  have hq2 : r2 (sy_rd k1) (sy_rd k2) := by
    have c := (r2_run sk hq1 x1.toInt x2.toInt).2
    rw [← s1, ← s2] at c
    exact c
  have hq3 : r2 (sy_rd k2) (sy_rd k2) := r2_fr (st_b_of ⟨k2, hH2, rfl⟩) (fun a k ha _ => by rw [s2]; exact dr_R_run _ _ _ a k (dz_R_run k (by omega))) (fun _ _ _ => rfl) (fun _ => rfl) (fun _ => rfl) (fun _ _ => rfl) hq2
  have hz2 : r3 (sy_rd k1) (sy_rd k2) := r3_fr (fun k => by rw [s1]; exact dr_C_run _ _ _ 218 k rfl) (fun k => by rw [s1]; exact dr_C_run _ _ _ 219 k rfl) (fun k => by rw [s1]; exact dr_C_run _ _ _ 220 k rfl) (fun k => by rw [s1]; exact dr_C_run _ _ _ 222 k rfl) (fun k => by rw [s1]; exact dr_C_run _ _ _ 223 k rfl) (fun k => by rw [s2]; exact dr_R_run _ _ _ 249 k rfl) (fun k => by rw [s2]; exact dr_R_run _ _ _ 250 k rfl) (fun k => by rw [s2]; exact dr_R_run _ _ _ 251 k rfl) (fun k => by rw [s2]; exact dr_R_run _ _ _ 252 k rfl) (fun k => by rw [s2]; exact dr_R_run _ _ _ 253 k rfl) (by rw [s2]; exact dr_R_run _ _ _ 234 31 rfl) (by rw [s2]; exact dr_R_run _ _ _ 234 35 rfl) (by rw [s2]; exact dr_R_run _ _ _ 234 6 rfl) hz1
  have hz3 : r3 (sy_rd k2) (sy_rd k2) := r3_fr (fun k => by rw [s2]; exact dr_R_run _ _ _ 218 k rfl) (fun k => by rw [s2]; exact dr_R_run _ _ _ 219 k rfl) (fun k => by rw [s2]; exact dr_R_run _ _ _ 220 k rfl) (fun k => by rw [s2]; exact dr_R_run _ _ _ 222 k rfl) (fun k => by rw [s2]; exact dr_R_run _ _ _ 223 k rfl) (fun _ => rfl) (fun _ => rfl) (fun _ => rfl) (fun _ => rfl) (fun _ => rfl) rfl rfl rfl hz2
  have g2 : go_I k2 := ⟨hH2, by rw [s2]; exact gv_run ⟨k1, hH1, rfl⟩ hg1 _ _, by rw [s2]; exact r1_K (dw := dw_R_run) (fun a k q => dr_R_run _ _ _ a k q) rfl rfl (fun _ => rfl) (fun _ => rfl) hr1, hq3, hz3⟩
  simp only [sy_of] at e1 e2
  obtain ⟨y1, z1, -⟩ := hH.cell (a := 0) (tag := 9) rfl
  obtain ⟨y2, z2, -⟩ := hH1.cell (a := 234) (tag := 10) rfl
  exact ⟨_, _, k1, k2, ⟨y1, z1⟩, ⟨y2, z2⟩, e1, e2, g2⟩
set_option maxRecDepth 100000 in
theorem go_swap (x1 x2 x3 x4 : Int32) {h : mj_H} (hI : go_I h) : ∃ (r1 r2 : Int32) (h1 h2 : mj_H), (∃ ys, h[0]? = some (9, ys)) ∧ (∃ ys, h1[234]? = some (10, ys)) ∧ mj_runs (mj_m_60, 0, [(0, .ref 0), (1, .int x1), (2, .int x2), (3, .int x3), (4, .int x4)], [], h) (some (.int r1)) h1 ∧ mj_runs (mj_m_158, 0, [(0, .ref 234), (1, .int x1), (2, .int x2), (3, .int x3), (4, .int x4)], [], h1) (some (.int r2)) h2 ∧ go_I h2 := by
  obtain ⟨hH, hg, hr, hq, hz⟩ := hI
  have sh : sv (sy_rd h) := ⟨h, hH, rfl⟩
  obtain ⟨c1, k1, e1, Q1⟩ := dt_C_swap hH (a1 := x1.toInt) (a2 := x2.toInt) (a3 := x3.toInt) (a4 := x4.toInt) (sy_lo (x := x1)).1 (sy_lo (x := x1)).2 (sy_lo (x := x2)).1 (sy_lo (x := x2)).2 (sy_lo (x := x3)).1 (sy_lo (x := x3)).2 (sy_lo (x := x4)).1 (sy_lo (x := x4)).2
  obtain ⟨hH1, s1, rfl, -, -⟩ := Q1
  have hg1 : gv_R (sy_rd k1) := by rw [s1]; exact gv_RK hg ⟨dr_C_swap _ _ _ _ _ 234 6 rfl, dr_C_swap _ _ _ _ _ 234 2 rfl, fun i => dr_C_swap _ _ _ _ _ 236 i rfl, fun q _ => dr_C_swap _ _ _ _ _ 235 _ rfl⟩
  have hr1 : r1 (sy_rd k1) := by rw [s1]; exact r1_K (dw := dw_C_swap) (fun a k q => dr_C_swap _ _ _ _ _ a k q) rfl rfl (fun _ => rfl) (fun _ => rfl) hr
  have sk : sv (sy_rd k1) := ⟨k1, hH1, rfl⟩
  have hq1 : r2 (sy_rd h) (sy_rd k1) := r2_fr (st_b_of sh) (fun _ _ _ _ => rfl) (fun k _ _ => by rw [s1]; exact dr_C_swap _ _ _ _ _ 234 k rfl) (fun k => by rw [s1]; exact dr_C_swap _ _ _ _ _ 236 k rfl) (fun k => by rw [s1]; exact dr_C_swap _ _ _ _ _ 237 k rfl) (fun k _ => by rw [s1]; exact dr_C_swap _ _ _ _ _ 235 k rfl) hq
  have hz1 : r3 (sy_rd h) (sy_rd k1) := r3_fr (fun _ => rfl) (fun _ => rfl) (fun _ => rfl) (fun _ => rfl) (fun _ => rfl) (fun k => by rw [s1]; exact dr_C_swap _ _ _ _ _ 249 k rfl) (fun k => by rw [s1]; exact dr_C_swap _ _ _ _ _ 250 k rfl) (fun k => by rw [s1]; exact dr_C_swap _ _ _ _ _ 251 k rfl) (fun k => by rw [s1]; exact dr_C_swap _ _ _ _ _ 252 k rfl) (fun k => by rw [s1]; exact dr_C_swap _ _ _ _ _ 253 k rfl) (by rw [s1]; exact dr_C_swap _ _ _ _ _ 234 31 rfl) (by rw [s1]; exact dr_C_swap _ _ _ _ _ 234 35 rfl) (by rw [s1]; exact dr_C_swap _ _ _ _ _ 234 6 rfl) hz
  obtain ⟨c2, k2, e2, Q2⟩ := dt_R_swap hH1 (a1 := x1.toInt) (a2 := x2.toInt) (a3 := x3.toInt) (a4 := x4.toInt) (sy_lo (x := x1)).1 (sy_lo (x := x1)).2 (sy_lo (x := x2)).1 (sy_lo (x := x2)).2 (sy_lo (x := x3)).1 (sy_lo (x := x3)).2 (sy_lo (x := x4)).1 (sy_lo (x := x4)).2
  obtain ⟨hH2, s2, rfl, -, -⟩ := Q2
  have hq2 : r2 (sy_rd k1) (sy_rd k2) := by
    have c := r2_swap sk hq1 x1.toInt x2.toInt x3.toInt x4.toInt
    rw [← s1, ← s2] at c
    exact c
  have hq3 : r2 (sy_rd k2) (sy_rd k2) := r2_fr (st_b_of ⟨k2, hH2, rfl⟩) (fun a k ha _ => by rw [s2]; exact dr_R_swap _ _ _ _ _ a k (dz_R_swap k (by omega))) (fun _ _ _ => rfl) (fun _ => rfl) (fun _ => rfl) (fun _ _ => rfl) hq2
  have hz2 : r3 (sy_rd k1) (sy_rd k2) := r3_fr (fun k => by rw [s1]; exact dr_C_swap _ _ _ _ _ 218 k rfl) (fun k => by rw [s1]; exact dr_C_swap _ _ _ _ _ 219 k rfl) (fun k => by rw [s1]; exact dr_C_swap _ _ _ _ _ 220 k rfl) (fun k => by rw [s1]; exact dr_C_swap _ _ _ _ _ 222 k rfl) (fun k => by rw [s1]; exact dr_C_swap _ _ _ _ _ 223 k rfl) (fun k => by rw [s2]; exact dr_R_swap _ _ _ _ _ 249 k rfl) (fun k => by rw [s2]; exact dr_R_swap _ _ _ _ _ 250 k rfl) (fun k => by rw [s2]; exact dr_R_swap _ _ _ _ _ 251 k rfl) (fun k => by rw [s2]; exact dr_R_swap _ _ _ _ _ 252 k rfl) (fun k => by rw [s2]; exact dr_R_swap _ _ _ _ _ 253 k rfl) (by rw [s2]; exact dr_R_swap _ _ _ _ _ 234 31 rfl) (by rw [s2]; exact dr_R_swap _ _ _ _ _ 234 35 rfl) (by rw [s2]; exact dr_R_swap _ _ _ _ _ 234 6 rfl) hz1
  have hz3 : r3 (sy_rd k2) (sy_rd k2) := r3_fr (fun k => by rw [s2]; exact dr_R_swap _ _ _ _ _ 218 k rfl) (fun k => by rw [s2]; exact dr_R_swap _ _ _ _ _ 219 k rfl) (fun k => by rw [s2]; exact dr_R_swap _ _ _ _ _ 220 k rfl) (fun k => by rw [s2]; exact dr_R_swap _ _ _ _ _ 222 k rfl) (fun k => by rw [s2]; exact dr_R_swap _ _ _ _ _ 223 k rfl) (fun _ => rfl) (fun _ => rfl) (fun _ => rfl) (fun _ => rfl) (fun _ => rfl) rfl rfl rfl hz2
  have g2 : go_I k2 := ⟨hH2, by rw [s2]; exact gv_swap ⟨k1, hH1, rfl⟩ hg1 _ _ _ _, by rw [s2]; exact r1_K (dw := dw_R_swap) (fun a k q => dr_R_swap _ _ _ _ _ a k q) rfl rfl (fun _ => rfl) (fun _ => rfl) hr1, hq3, hz3⟩
  simp only [sy_of] at e1 e2
  obtain ⟨y1, z1, -⟩ := hH.cell (a := 0) (tag := 9) rfl
  obtain ⟨y2, z2, -⟩ := hH1.cell (a := 234) (tag := 10) rfl
  exact ⟨_, _, k1, k2, ⟨y1, z1⟩, ⟨y2, z2⟩, e1, e2, g2⟩
set_option maxRecDepth 100000 in
theorem go_pay (x1 x2 x3 : Int32) {h : mj_H} (hI : go_I h) : ∃ (r1 r2 : Int32) (h1 h2 : mj_H), (∃ ys, h[0]? = some (9, ys)) ∧ (∃ ys, h1[234]? = some (10, ys)) ∧ mj_runs (mj_m_64, 0, [(0, .ref 0), (1, .int x1), (2, .int x2), (3, .int x3)], [], h) (some (.int r1)) h1 ∧ mj_runs (mj_m_162, 0, [(0, .ref 234), (1, .int x1), (2, .int x2), (3, .int x3)], [], h1) (some (.int r2)) h2 ∧ go_I h2 := by
  obtain ⟨hH, hg, hr, hq, hz⟩ := hI
  have sh : sv (sy_rd h) := ⟨h, hH, rfl⟩
  obtain ⟨c1, k1, e1, Q1⟩ := dt_C_pay hH (a1 := x1.toInt) (a2 := x2.toInt) (a3 := x3.toInt) (sy_lo (x := x1)).1 (sy_lo (x := x1)).2 (sy_lo (x := x2)).1 (sy_lo (x := x2)).2 (sy_lo (x := x3)).1 (sy_lo (x := x3)).2
  obtain ⟨hH1, s1, rfl, -, -⟩ := Q1
  have hg1 : gv_R (sy_rd k1) := by rw [s1]; exact gv_RK hg ⟨dr_C_pay _ _ _ _ 234 6 rfl, dr_C_pay _ _ _ _ 234 2 rfl, fun i => dr_C_pay _ _ _ _ 236 i rfl, fun q _ => dr_C_pay _ _ _ _ 235 _ rfl⟩
  have hr1 : r1 (sy_rd k1) := by rw [s1]; exact r1_K (dw := dw_C_pay) (fun a k q => dr_C_pay _ _ _ _ a k q) rfl rfl (fun _ => rfl) (fun _ => rfl) hr
  have sk : sv (sy_rd k1) := ⟨k1, hH1, rfl⟩
  have hq1 : r2 (sy_rd h) (sy_rd k1) := r2_fr (st_b_of sh) (fun _ _ _ _ => rfl) (fun k _ _ => by rw [s1]; exact dr_C_pay _ _ _ _ 234 k rfl) (fun k => by rw [s1]; exact dr_C_pay _ _ _ _ 236 k rfl) (fun k => by rw [s1]; exact dr_C_pay _ _ _ _ 237 k rfl) (fun k _ => by rw [s1]; exact dr_C_pay _ _ _ _ 235 k rfl) hq
  have hz1 : r3 (sy_rd h) (sy_rd k1) := r3_fr (fun _ => rfl) (fun _ => rfl) (fun _ => rfl) (fun _ => rfl) (fun _ => rfl) (fun k => by rw [s1]; exact dr_C_pay _ _ _ _ 249 k rfl) (fun k => by rw [s1]; exact dr_C_pay _ _ _ _ 250 k rfl) (fun k => by rw [s1]; exact dr_C_pay _ _ _ _ 251 k rfl) (fun k => by rw [s1]; exact dr_C_pay _ _ _ _ 252 k rfl) (fun k => by rw [s1]; exact dr_C_pay _ _ _ _ 253 k rfl) (by rw [s1]; exact dr_C_pay _ _ _ _ 234 31 rfl) (by rw [s1]; exact dr_C_pay _ _ _ _ 234 35 rfl) (by rw [s1]; exact dr_C_pay _ _ _ _ 234 6 rfl) hz
  obtain ⟨c2, k2, e2, Q2⟩ := dt_R_pay hH1 (a1 := x1.toInt) (a2 := x2.toInt) (a3 := x3.toInt) (sy_lo (x := x1)).1 (sy_lo (x := x1)).2 (sy_lo (x := x2)).1 (sy_lo (x := x2)).2 (sy_lo (x := x3)).1 (sy_lo (x := x3)).2
  obtain ⟨hH2, s2, rfl, -, -⟩ := Q2
  have hq2 : r2 (sy_rd k1) (sy_rd k2) := by
    have c := (r2_pay sk hq1 x1.toInt x2.toInt x3.toInt).2
    rw [← s1, ← s2] at c
    exact c
  have hq3 : r2 (sy_rd k2) (sy_rd k2) := r2_fr (st_b_of ⟨k2, hH2, rfl⟩) (fun a k ha _ => by rw [s2]; exact dr_R_pay _ _ _ _ a k (dz_R_pay k (by omega))) (fun _ _ _ => rfl) (fun _ => rfl) (fun _ => rfl) (fun _ _ => rfl) hq2
  have hz2 : r3 (sy_rd k1) (sy_rd k2) := r3_fr (fun k => by rw [s1]; exact dr_C_pay _ _ _ _ 218 k rfl) (fun k => by rw [s1]; exact dr_C_pay _ _ _ _ 219 k rfl) (fun k => by rw [s1]; exact dr_C_pay _ _ _ _ 220 k rfl) (fun k => by rw [s1]; exact dr_C_pay _ _ _ _ 222 k rfl) (fun k => by rw [s1]; exact dr_C_pay _ _ _ _ 223 k rfl) (fun k => by rw [s2]; exact dr_R_pay _ _ _ _ 249 k rfl) (fun k => by rw [s2]; exact dr_R_pay _ _ _ _ 250 k rfl) (fun k => by rw [s2]; exact dr_R_pay _ _ _ _ 251 k rfl) (fun k => by rw [s2]; exact dr_R_pay _ _ _ _ 252 k rfl) (fun k => by rw [s2]; exact dr_R_pay _ _ _ _ 253 k rfl) (by rw [s2]; exact dr_R_pay _ _ _ _ 234 31 rfl) (by rw [s2]; exact dr_R_pay _ _ _ _ 234 35 rfl) (by rw [s2]; exact dr_R_pay _ _ _ _ 234 6 rfl) hz1
  have hz3 : r3 (sy_rd k2) (sy_rd k2) := r3_fr (fun k => by rw [s2]; exact dr_R_pay _ _ _ _ 218 k rfl) (fun k => by rw [s2]; exact dr_R_pay _ _ _ _ 219 k rfl) (fun k => by rw [s2]; exact dr_R_pay _ _ _ _ 220 k rfl) (fun k => by rw [s2]; exact dr_R_pay _ _ _ _ 222 k rfl) (fun k => by rw [s2]; exact dr_R_pay _ _ _ _ 223 k rfl) (fun _ => rfl) (fun _ => rfl) (fun _ => rfl) (fun _ => rfl) (fun _ => rfl) rfl rfl rfl hz2
  have g2 : go_I k2 := ⟨hH2, by rw [s2]; exact gv_pay ⟨k1, hH1, rfl⟩ hg1 _ _ _, by rw [s2]; exact r1_K (dw := dw_R_pay) (fun a k q => dr_R_pay _ _ _ _ a k q) rfl rfl (fun _ => rfl) (fun _ => rfl) hr1, hq3, hz3⟩
  simp only [sy_of] at e1 e2
  obtain ⟨y1, z1, -⟩ := hH.cell (a := 0) (tag := 9) rfl
  obtain ⟨y2, z2, -⟩ := hH1.cell (a := 234) (tag := 10) rfl
  exact ⟨_, _, k1, k2, ⟨y1, z1⟩, ⟨y2, z2⟩, e1, e2, g2⟩
set_option maxRecDepth 100000 in
theorem go_drift (x1 : Int32) {h : mj_H} (hI : go_I h) : ∃ (r1 r2 : Int32) (h1 h2 : mj_H), (∃ ys, h[0]? = some (9, ys)) ∧ (∃ ys, h1[234]? = some (10, ys)) ∧ mj_runs (mj_m_65, 0, [(0, .ref 0), (1, .int x1)], [], h) (some (.int r1)) h1 ∧ mj_runs (mj_m_163, 0, [(0, .ref 234), (1, .int x1)], [], h1) (some (.int r2)) h2 ∧ go_I h2 := by
  obtain ⟨hH, hg, hr, hq, hz⟩ := hI
  have sh : sv (sy_rd h) := ⟨h, hH, rfl⟩
  obtain ⟨c1, k1, e1, Q1⟩ := dt_C_drift hH (a1 := x1.toInt) (sy_lo (x := x1)).1 (sy_lo (x := x1)).2
  obtain ⟨hH1, s1, rfl, -, -⟩ := Q1
  have hg1 : gv_R (sy_rd k1) := by rw [s1]; exact gv_RK hg ⟨dr_C_drift _ _ 234 6 rfl, dr_C_drift _ _ 234 2 rfl, fun i => dr_C_drift _ _ 236 i rfl, fun q _ => dr_C_drift _ _ 235 _ rfl⟩
  have hr1 : r1 (sy_rd k1) := by rw [s1]; exact r1_K (dw := dw_C_drift) (fun a k q => dr_C_drift _ _ a k q) rfl rfl (fun _ => rfl) (fun _ => rfl) hr
  have sk : sv (sy_rd k1) := ⟨k1, hH1, rfl⟩
  have hq1 : r2 (sy_rd h) (sy_rd k1) := r2_fr (st_b_of sh) (fun _ _ _ _ => rfl) (fun k _ _ => by rw [s1]; exact dr_C_drift _ _ 234 k rfl) (fun k => by rw [s1]; exact dr_C_drift _ _ 236 k rfl) (fun k => by rw [s1]; exact dr_C_drift _ _ 237 k rfl) (fun k _ => by rw [s1]; exact dr_C_drift _ _ 235 k rfl) hq
  have hz1 : r3 (sy_rd h) (sy_rd k1) := r3_fr (fun _ => rfl) (fun _ => rfl) (fun _ => rfl) (fun _ => rfl) (fun _ => rfl) (fun k => by rw [s1]; exact dr_C_drift _ _ 249 k rfl) (fun k => by rw [s1]; exact dr_C_drift _ _ 250 k rfl) (fun k => by rw [s1]; exact dr_C_drift _ _ 251 k rfl) (fun k => by rw [s1]; exact dr_C_drift _ _ 252 k rfl) (fun k => by rw [s1]; exact dr_C_drift _ _ 253 k rfl) (by rw [s1]; exact dr_C_drift _ _ 234 31 rfl) (by rw [s1]; exact dr_C_drift _ _ 234 35 rfl) (by rw [s1]; exact dr_C_drift _ _ 234 6 rfl) hz
  obtain ⟨c2, k2, e2, Q2⟩ := dt_R_drift hH1 (a1 := x1.toInt) (sy_lo (x := x1)).1 (sy_lo (x := x1)).2 (gv_of hg1)
  obtain ⟨hH2, s2, rfl, -, -⟩ := Q2
  have hq2 : r2 (sy_rd k1) (sy_rd k2) := by
    have c := (r2_drift sk hg1 hq1 x1.toInt).2
    rw [← s1, ← s2] at c
    exact c
  have hq3 : r2 (sy_rd k2) (sy_rd k2) := r2_fr (st_b_of ⟨k2, hH2, rfl⟩) (fun a k ha _ => by rw [s2]; exact dr_R_drift _ _ a k (dz_R_drift k (by omega))) (fun _ _ _ => rfl) (fun _ => rfl) (fun _ => rfl) (fun _ _ => rfl) hq2
  have hz2 : r3 (sy_rd k1) (sy_rd k2) := r3_fr (fun k => by rw [s1]; exact dr_C_drift _ _ 218 k rfl) (fun k => by rw [s1]; exact dr_C_drift _ _ 219 k rfl) (fun k => by rw [s1]; exact dr_C_drift _ _ 220 k rfl) (fun k => by rw [s1]; exact dr_C_drift _ _ 222 k rfl) (fun k => by rw [s1]; exact dr_C_drift _ _ 223 k rfl) (fun k => by rw [s2]; exact dr_R_drift _ _ 249 k rfl) (fun k => by rw [s2]; exact dr_R_drift _ _ 250 k rfl) (fun k => by rw [s2]; exact dr_R_drift _ _ 251 k rfl) (fun k => by rw [s2]; exact dr_R_drift _ _ 252 k rfl) (fun k => by rw [s2]; exact dr_R_drift _ _ 253 k rfl) (by rw [s2]; exact dr_R_drift _ _ 234 31 rfl) (by rw [s2]; exact dr_R_drift _ _ 234 35 rfl) (by rw [s2]; exact dr_R_drift _ _ 234 6 rfl) hz1
  have hz3 : r3 (sy_rd k2) (sy_rd k2) := r3_fr (fun k => by rw [s2]; exact dr_R_drift _ _ 218 k rfl) (fun k => by rw [s2]; exact dr_R_drift _ _ 219 k rfl) (fun k => by rw [s2]; exact dr_R_drift _ _ 220 k rfl) (fun k => by rw [s2]; exact dr_R_drift _ _ 222 k rfl) (fun k => by rw [s2]; exact dr_R_drift _ _ 223 k rfl) (fun _ => rfl) (fun _ => rfl) (fun _ => rfl) (fun _ => rfl) (fun _ => rfl) rfl rfl rfl hz2
  have g2 : go_I k2 := ⟨hH2, by rw [s2]; exact gv_drift ⟨k1, hH1, rfl⟩ hg1 _, by rw [s2]; exact r1_K (dw := dw_R_drift) (fun a k q => dr_R_drift _ _ a k q) rfl rfl (fun _ => rfl) (fun _ => rfl) hr1, hq3, hz3⟩
  simp only [sy_of] at e1 e2
  obtain ⟨y1, z1, -⟩ := hH.cell (a := 0) (tag := 9) rfl
  obtain ⟨y2, z2, -⟩ := hH1.cell (a := 234) (tag := 10) rfl
  exact ⟨_, _, k1, k2, ⟨y1, z1⟩, ⟨y2, z2⟩, e1, e2, g2⟩
set_option maxRecDepth 100000 in
theorem go_undo (x1 : Int32) {h : mj_H} (hI : go_I h) : ∃ (r1 r2 : Int32) (h1 h2 : mj_H), (∃ ys, h[0]? = some (9, ys)) ∧ (∃ ys, h1[234]? = some (10, ys)) ∧ mj_runs (mj_m_68, 0, [(0, .ref 0), (1, .int x1)], [], h) (some (.int r1)) h1 ∧ mj_runs (mj_m_165, 0, [(0, .ref 234), (1, .int x1)], [], h1) (some (.int r2)) h2 ∧ go_I h2 := by
  obtain ⟨hH, hg, hr, hq, hz⟩ := hI
  have sh : sv (sy_rd h) := ⟨h, hH, rfl⟩
  obtain ⟨c1, k1, e1, Q1⟩ := dt_C_undo hH (a1 := x1.toInt) (sy_lo (x := x1)).1 (sy_lo (x := x1)).2
  obtain ⟨hH1, s1, rfl, -, -⟩ := Q1
  have hg1 : gv_R (sy_rd k1) := by rw [s1]; exact gv_RK hg ⟨dr_C_undo _ _ 234 6 rfl, dr_C_undo _ _ 234 2 rfl, fun i => dr_C_undo _ _ 236 i rfl, fun q _ => dr_C_undo _ _ 235 _ rfl⟩
  have hr1 : r1 (sy_rd k1) := by rw [s1]; exact r1_K (dw := dw_C_undo) (fun a k q => dr_C_undo _ _ a k q) rfl rfl (fun _ => rfl) (fun _ => rfl) hr
  have sk : sv (sy_rd k1) := ⟨k1, hH1, rfl⟩
  have hq1 : r2 (sy_rd h) (sy_rd k1) := r2_fr (st_b_of sh) (fun _ _ _ _ => rfl) (fun k _ _ => by rw [s1]; exact dr_C_undo _ _ 234 k rfl) (fun k => by rw [s1]; exact dr_C_undo _ _ 236 k rfl) (fun k => by rw [s1]; exact dr_C_undo _ _ 237 k rfl) (fun k _ => by rw [s1]; exact dr_C_undo _ _ 235 k rfl) hq
  have hz1 : r3 (sy_rd h) (sy_rd k1) := r3_fr (fun _ => rfl) (fun _ => rfl) (fun _ => rfl) (fun _ => rfl) (fun _ => rfl) (fun k => by rw [s1]; exact dr_C_undo _ _ 249 k rfl) (fun k => by rw [s1]; exact dr_C_undo _ _ 250 k rfl) (fun k => by rw [s1]; exact dr_C_undo _ _ 251 k rfl) (fun k => by rw [s1]; exact dr_C_undo _ _ 252 k rfl) (fun k => by rw [s1]; exact dr_C_undo _ _ 253 k rfl) (by rw [s1]; exact dr_C_undo _ _ 234 31 rfl) (by rw [s1]; exact dr_C_undo _ _ 234 35 rfl) (by rw [s1]; exact dr_C_undo _ _ 234 6 rfl) hz
  obtain ⟨c2, k2, e2, Q2⟩ := dt_R_undo hH1 (a1 := x1.toInt) (sy_lo (x := x1)).1 (sy_lo (x := x1)).2
  obtain ⟨hH2, s2, rfl, -, -⟩ := Q2
  have hq2 : r2 (sy_rd k1) (sy_rd k2) := by
    have c := (r2_undo sk hq1 x1.toInt).2
    rw [← s1, ← s2] at c
    exact c
  have hq3 : r2 (sy_rd k2) (sy_rd k2) := r2_fr (st_b_of ⟨k2, hH2, rfl⟩) (fun a k ha _ => by rw [s2]; exact dr_R_undo _ _ a k (dz_R_undo k (by omega))) (fun _ _ _ => rfl) (fun _ => rfl) (fun _ => rfl) (fun _ _ => rfl) hq2
  have hz2 : r3 (sy_rd k1) (sy_rd k2) := r3_fr (fun k => by rw [s1]; exact dr_C_undo _ _ 218 k rfl) (fun k => by rw [s1]; exact dr_C_undo _ _ 219 k rfl) (fun k => by rw [s1]; exact dr_C_undo _ _ 220 k rfl) (fun k => by rw [s1]; exact dr_C_undo _ _ 222 k rfl) (fun k => by rw [s1]; exact dr_C_undo _ _ 223 k rfl) (fun k => by rw [s2]; exact dr_R_undo _ _ 249 k rfl) (fun k => by rw [s2]; exact dr_R_undo _ _ 250 k rfl) (fun k => by rw [s2]; exact dr_R_undo _ _ 251 k rfl) (fun k => by rw [s2]; exact dr_R_undo _ _ 252 k rfl) (fun k => by rw [s2]; exact dr_R_undo _ _ 253 k rfl) (by rw [s2]; exact dr_R_undo _ _ 234 31 rfl) (by rw [s2]; exact dr_R_undo _ _ 234 35 rfl) (by rw [s2]; exact dr_R_undo _ _ 234 6 rfl) hz1
  have hz3 : r3 (sy_rd k2) (sy_rd k2) := r3_fr (fun k => by rw [s2]; exact dr_R_undo _ _ 218 k rfl) (fun k => by rw [s2]; exact dr_R_undo _ _ 219 k rfl) (fun k => by rw [s2]; exact dr_R_undo _ _ 220 k rfl) (fun k => by rw [s2]; exact dr_R_undo _ _ 222 k rfl) (fun k => by rw [s2]; exact dr_R_undo _ _ 223 k rfl) (fun _ => rfl) (fun _ => rfl) (fun _ => rfl) (fun _ => rfl) (fun _ => rfl) rfl rfl rfl hz2
  have g2 : go_I k2 := ⟨hH2, by rw [s2]; exact gv_undo ⟨k1, hH1, rfl⟩ hg1 _, by rw [s2]; exact r1_K (dw := dw_R_undo) (fun a k q => dr_R_undo _ _ a k q) rfl rfl (fun _ => rfl) (fun _ => rfl) hr1, hq3, hz3⟩
  simp only [sy_of] at e1 e2
  obtain ⟨y1, z1, -⟩ := hH.cell (a := 0) (tag := 9) rfl
  obtain ⟨y2, z2, -⟩ := hH1.cell (a := 234) (tag := 10) rfl
  exact ⟨_, _, k1, k2, ⟨y1, z1⟩, ⟨y2, z2⟩, e1, e2, g2⟩
set_option maxRecDepth 100000 in
theorem go_burned (x1 x2 x3 : Int32) {h : mj_H} (hI : go_I h) : ∃ (r1 r2 : Int32) (h1 h2 : mj_H), (∃ ys, h[0]? = some (9, ys)) ∧ (∃ ys, h1[234]? = some (10, ys)) ∧ mj_runs (mj_m_70, 0, [(0, .ref 0), (1, .int x1), (2, .int x2), (3, .int x3)], [], h) (some (.int r1)) h1 ∧ mj_runs (mj_m_166, 0, [(0, .ref 234), (1, .int x1), (2, .int x2), (3, .int x3)], [], h1) (some (.int r2)) h2 ∧ go_I h2 := by
  obtain ⟨hH, hg, hr, hq, hz⟩ := hI
  have sh : sv (sy_rd h) := ⟨h, hH, rfl⟩
  obtain ⟨c1, k1, e1, Q1⟩ := dt_C_burned hH (a1 := x1.toInt) (a2 := x2.toInt) (a3 := x3.toInt) (sy_lo (x := x1)).1 (sy_lo (x := x1)).2 (sy_lo (x := x2)).1 (sy_lo (x := x2)).2 (sy_lo (x := x3)).1 (sy_lo (x := x3)).2
  obtain ⟨hH1, s1, rfl, -, -⟩ := Q1
  have hg1 : gv_R (sy_rd k1) := by rw [s1]; exact gv_RK hg ⟨dr_C_burned _ _ _ _ 234 6 rfl, dr_C_burned _ _ _ _ 234 2 rfl, fun i => dr_C_burned _ _ _ _ 236 i rfl, fun q _ => dr_C_burned _ _ _ _ 235 _ rfl⟩
  have hr1 : r1 (sy_rd k1) := by rw [s1]; exact r1_K (dw := dw_C_burned) (fun a k q => dr_C_burned _ _ _ _ a k q) rfl rfl (fun _ => rfl) (fun _ => rfl) hr
  have sk : sv (sy_rd k1) := ⟨k1, hH1, rfl⟩
  have hq1 : r2 (sy_rd h) (sy_rd k1) := r2_fr (st_b_of sh) (fun _ _ _ _ => rfl) (fun k _ _ => by rw [s1]; exact dr_C_burned _ _ _ _ 234 k rfl) (fun k => by rw [s1]; exact dr_C_burned _ _ _ _ 236 k rfl) (fun k => by rw [s1]; exact dr_C_burned _ _ _ _ 237 k rfl) (fun k _ => by rw [s1]; exact dr_C_burned _ _ _ _ 235 k rfl) hq
  have hz1 : r3 (sy_rd h) (sy_rd k1) := r3_fr (fun _ => rfl) (fun _ => rfl) (fun _ => rfl) (fun _ => rfl) (fun _ => rfl) (fun k => by rw [s1]; exact dr_C_burned _ _ _ _ 249 k rfl) (fun k => by rw [s1]; exact dr_C_burned _ _ _ _ 250 k rfl) (fun k => by rw [s1]; exact dr_C_burned _ _ _ _ 251 k rfl) (fun k => by rw [s1]; exact dr_C_burned _ _ _ _ 252 k rfl) (fun k => by rw [s1]; exact dr_C_burned _ _ _ _ 253 k rfl) (by rw [s1]; exact dr_C_burned _ _ _ _ 234 31 rfl) (by rw [s1]; exact dr_C_burned _ _ _ _ 234 35 rfl) (by rw [s1]; exact dr_C_burned _ _ _ _ 234 6 rfl) hz
  obtain ⟨c2, k2, e2, Q2⟩ := dt_R_burned hH1 (a1 := x1.toInt) (a2 := x2.toInt) (a3 := x3.toInt) (sy_lo (x := x1)).1 (sy_lo (x := x1)).2 (sy_lo (x := x2)).1 (sy_lo (x := x2)).2 (sy_lo (x := x3)).1 (sy_lo (x := x3)).2 (gv_of hg1)
  obtain ⟨hH2, s2, rfl, -, -⟩ := Q2
  have hq2 : r2 (sy_rd k1) (sy_rd k2) := r2_fr (st_b_of sk) (fun a k ha _ => by rw [s1]; exact dr_C_burned _ _ _ _ a k (dz_C_burned k ha)) (r2_27 (fun k hk => by rw [s2]; rcases hk with rfl | rfl | rfl | rfl | rfl | rfl <;> exact dr_R_burned _ _ _ _ 234 _ rfl)) (fun k => by rw [s2]; exact dr_R_burned _ _ _ _ 236 k rfl) (fun k => by rw [s2]; exact dr_R_burned _ _ _ _ 237 k rfl) (fun k hk => by rw [s2]; exact bu_row sk hg1 _ _ _ k hk) hq1
  have hq3 : r2 (sy_rd k2) (sy_rd k2) := r2_fr (st_b_of ⟨k2, hH2, rfl⟩) (fun a k ha _ => by rw [s2]; exact dr_R_burned _ _ _ _ a k (dz_R_burned k (by omega))) (fun _ _ _ => rfl) (fun _ => rfl) (fun _ => rfl) (fun _ _ => rfl) hq2
  have hz2 : r3 (sy_rd k1) (sy_rd k2) := r3_fr (fun k => by rw [s1]; exact dr_C_burned _ _ _ _ 218 k rfl) (fun k => by rw [s1]; exact dr_C_burned _ _ _ _ 219 k rfl) (fun k => by rw [s1]; exact dr_C_burned _ _ _ _ 220 k rfl) (fun k => by rw [s1]; exact dr_C_burned _ _ _ _ 222 k rfl) (fun k => by rw [s1]; exact dr_C_burned _ _ _ _ 223 k rfl) (fun k => by rw [s2]; exact dr_R_burned _ _ _ _ 249 k rfl) (fun k => by rw [s2]; exact dr_R_burned _ _ _ _ 250 k rfl) (fun k => by rw [s2]; exact dr_R_burned _ _ _ _ 251 k rfl) (fun k => by rw [s2]; exact dr_R_burned _ _ _ _ 252 k rfl) (fun k => by rw [s2]; exact dr_R_burned _ _ _ _ 253 k rfl) (by rw [s2]; exact dr_R_burned _ _ _ _ 234 31 rfl) (by rw [s2]; exact dr_R_burned _ _ _ _ 234 35 rfl) (by rw [s2]; exact dr_R_burned _ _ _ _ 234 6 rfl) hz1
  have hz3 : r3 (sy_rd k2) (sy_rd k2) := r3_fr (fun k => by rw [s2]; exact dr_R_burned _ _ _ _ 218 k rfl) (fun k => by rw [s2]; exact dr_R_burned _ _ _ _ 219 k rfl) (fun k => by rw [s2]; exact dr_R_burned _ _ _ _ 220 k rfl) (fun k => by rw [s2]; exact dr_R_burned _ _ _ _ 222 k rfl) (fun k => by rw [s2]; exact dr_R_burned _ _ _ _ 223 k rfl) (fun _ => rfl) (fun _ => rfl) (fun _ => rfl) (fun _ => rfl) (fun _ => rfl) rfl rfl rfl hz2
  have g2 : go_I k2 := ⟨hH2, by rw [s2]; exact gv_burned ⟨k1, hH1, rfl⟩ hg1 _ _ _, by rw [s2]; exact r1_K (dw := dw_R_burned) (fun a k q => dr_R_burned _ _ _ _ a k q) rfl rfl (fun _ => rfl) (fun _ => rfl) hr1, hq3, hz3⟩
  simp only [sy_of] at e1 e2
  obtain ⟨y1, z1, -⟩ := hH.cell (a := 0) (tag := 9) rfl
  obtain ⟨y2, z2, -⟩ := hH1.cell (a := 234) (tag := 10) rfl
  exact ⟨_, _, k1, k2, ⟨y1, z1⟩, ⟨y2, z2⟩, e1, e2, g2⟩
set_option maxRecDepth 100000 in
theorem go_sure (x1 x2 x3 : Int32) {h : mj_H} (hI : go_I h) : ∃ (r1 r2 : Int32) (h1 h2 : mj_H), (∃ ys, h[0]? = some (9, ys)) ∧ (∃ ys, h1[234]? = some (10, ys)) ∧ mj_runs (mj_m_80, 0, [(0, .ref 0), (1, .int x1), (2, .int x2), (3, .int x3)], [], h) (some (.int r1)) h1 ∧ mj_runs (mj_m_168, 0, [(0, .ref 234), (1, .int x1), (2, .int x2), (3, .int x3)], [], h1) (some (.int r2)) h2 ∧ go_I h2 := by
  obtain ⟨hH, hg, hr, hq, hz⟩ := hI
  have sh : sv (sy_rd h) := ⟨h, hH, rfl⟩
  obtain ⟨c1, k1, e1, Q1⟩ := dt_C_sure hH (a1 := x1.toInt) (a2 := x2.toInt) (a3 := x3.toInt) (sy_lo (x := x1)).1 (sy_lo (x := x1)).2 (sy_lo (x := x2)).1 (sy_lo (x := x2)).2 (sy_lo (x := x3)).1 (sy_lo (x := x3)).2
  obtain ⟨hH1, s1, rfl, -, -⟩ := Q1
  have hg1 : gv_R (sy_rd k1) := by rw [s1]; exact gv_RK hg ⟨dr_C_sure _ _ _ _ 234 6 rfl, dr_C_sure _ _ _ _ 234 2 rfl, fun i => dr_C_sure _ _ _ _ 236 i rfl, fun q _ => dr_C_sure _ _ _ _ 235 _ rfl⟩
  have hr1 : r1 (sy_rd k1) := by rw [s1]; exact r1_K (dw := dw_C_sure) (fun a k q => dr_C_sure _ _ _ _ a k q) rfl rfl (fun _ => rfl) (fun _ => rfl) hr
  have sk : sv (sy_rd k1) := ⟨k1, hH1, rfl⟩
  have hq1 : r2 (sy_rd h) (sy_rd k1) := r2_fr (st_b_of sh) (fun _ _ _ _ => rfl) (fun k _ _ => by rw [s1]; exact dr_C_sure _ _ _ _ 234 k rfl) (fun k => by rw [s1]; exact dr_C_sure _ _ _ _ 236 k rfl) (fun k => by rw [s1]; exact dr_C_sure _ _ _ _ 237 k rfl) (fun k _ => by rw [s1]; exact dr_C_sure _ _ _ _ 235 k rfl) hq
  have hz1 : r3 (sy_rd h) (sy_rd k1) := r3_fr (fun _ => rfl) (fun _ => rfl) (fun _ => rfl) (fun _ => rfl) (fun _ => rfl) (fun k => by rw [s1]; exact dr_C_sure _ _ _ _ 249 k rfl) (fun k => by rw [s1]; exact dr_C_sure _ _ _ _ 250 k rfl) (fun k => by rw [s1]; exact dr_C_sure _ _ _ _ 251 k rfl) (fun k => by rw [s1]; exact dr_C_sure _ _ _ _ 252 k rfl) (fun k => by rw [s1]; exact dr_C_sure _ _ _ _ 253 k rfl) (by rw [s1]; exact dr_C_sure _ _ _ _ 234 31 rfl) (by rw [s1]; exact dr_C_sure _ _ _ _ 234 35 rfl) (by rw [s1]; exact dr_C_sure _ _ _ _ 234 6 rfl) hz
  obtain ⟨c2, k2, e2, Q2⟩ := dt_R_sure hH1 (a1 := x1.toInt) (a2 := x2.toInt) (a3 := x3.toInt) (sy_lo (x := x1)).1 (sy_lo (x := x1)).2 (sy_lo (x := x2)).1 (sy_lo (x := x2)).2 (sy_lo (x := x3)).1 (sy_lo (x := x3)).2 (gv_of hg1)
  obtain ⟨hH2, s2, rfl, -, -⟩ := Q2
  have hq2 : r2 (sy_rd k1) (sy_rd k2) := r2_fr (st_b_of sk) (fun a k ha _ => by rw [s1]; exact dr_C_sure _ _ _ _ a k (dz_C_sure k ha)) (r2_27 (fun k hk => by rw [s2]; rcases hk with rfl | rfl | rfl | rfl | rfl | rfl <;> exact dr_R_sure _ _ _ _ 234 _ rfl)) (fun k => by rw [s2]; exact dr_R_sure _ _ _ _ 236 k rfl) (fun k => by rw [s2]; exact dr_R_sure _ _ _ _ 237 k rfl) (fun k hk => by rw [s2]; exact sure_row sk hg1 _ _ _ k hk) hq1
  have hq3 : r2 (sy_rd k2) (sy_rd k2) := r2_fr (st_b_of ⟨k2, hH2, rfl⟩) (fun a k ha _ => by rw [s2]; exact dr_R_sure _ _ _ _ a k (dz_R_sure k (by omega))) (fun _ _ _ => rfl) (fun _ => rfl) (fun _ => rfl) (fun _ _ => rfl) hq2
  have hz2 : r3 (sy_rd k1) (sy_rd k2) := r3_fr (fun k => by rw [s1]; exact dr_C_sure _ _ _ _ 218 k rfl) (fun k => by rw [s1]; exact dr_C_sure _ _ _ _ 219 k rfl) (fun k => by rw [s1]; exact dr_C_sure _ _ _ _ 220 k rfl) (fun k => by rw [s1]; exact dr_C_sure _ _ _ _ 222 k rfl) (fun k => by rw [s1]; exact dr_C_sure _ _ _ _ 223 k rfl) (fun k => by rw [s2]; exact dr_R_sure _ _ _ _ 249 k rfl) (fun k => by rw [s2]; exact dr_R_sure _ _ _ _ 250 k rfl) (fun k => by rw [s2]; exact dr_R_sure _ _ _ _ 251 k rfl) (fun k => by rw [s2]; exact dr_R_sure _ _ _ _ 252 k rfl) (fun k => by rw [s2]; exact dr_R_sure _ _ _ _ 253 k rfl) (by rw [s2]; exact dr_R_sure _ _ _ _ 234 31 rfl) (by rw [s2]; exact dr_R_sure _ _ _ _ 234 35 rfl) (by rw [s2]; exact dr_R_sure _ _ _ _ 234 6 rfl) hz1
  have hz3 : r3 (sy_rd k2) (sy_rd k2) := r3_fr (fun k => by rw [s2]; exact dr_R_sure _ _ _ _ 218 k rfl) (fun k => by rw [s2]; exact dr_R_sure _ _ _ _ 219 k rfl) (fun k => by rw [s2]; exact dr_R_sure _ _ _ _ 220 k rfl) (fun k => by rw [s2]; exact dr_R_sure _ _ _ _ 222 k rfl) (fun k => by rw [s2]; exact dr_R_sure _ _ _ _ 223 k rfl) (fun _ => rfl) (fun _ => rfl) (fun _ => rfl) (fun _ => rfl) (fun _ => rfl) rfl rfl rfl hz2
  have g2 : go_I k2 := ⟨hH2, by rw [s2]; exact gv_sure ⟨k1, hH1, rfl⟩ hg1 _ _ _, by rw [s2]; exact r1_K (dw := dw_R_sure) (fun a k q => dr_R_sure _ _ _ _ a k q) rfl rfl (fun _ => rfl) (fun _ => rfl) hr1, hq3, hz3⟩
  simp only [sy_of] at e1 e2
  obtain ⟨y1, z1, -⟩ := hH.cell (a := 0) (tag := 9) rfl
  obtain ⟨y2, z2, -⟩ := hH1.cell (a := 234) (tag := 10) rfl
  exact ⟨_, _, k1, k2, ⟨y1, z1⟩, ⟨y2, z2⟩, e1, e2, g2⟩
set_option maxRecDepth 100000 in
theorem go_flues (x1 x2 : Int32) {h : mj_H} (hI : go_I h) : ∃ (r1 r2 : Int32) (h1 h2 : mj_H), (∃ ys, h[0]? = some (9, ys)) ∧ (∃ ys, h1[234]? = some (10, ys)) ∧ mj_runs (mj_m_82, 0, [(0, .ref 0), (1, .int x1), (2, .int x2)], [], h) (some (.int r1)) h1 ∧ mj_runs (mj_m_169, 0, [(0, .ref 234), (1, .int x1), (2, .int x2)], [], h1) (some (.int r2)) h2 ∧ go_I h2 := by
  obtain ⟨hH, hg, hr, hq, hz⟩ := hI
  have sh : sv (sy_rd h) := ⟨h, hH, rfl⟩
  obtain ⟨c1, k1, e1, Q1⟩ := dt_C_flues hH (a1 := x1.toInt) (a2 := x2.toInt) (sy_lo (x := x1)).1 (sy_lo (x := x1)).2 (sy_lo (x := x2)).1 (sy_lo (x := x2)).2
  obtain ⟨q1, rfl, -, -⟩ := Q1
  have hH1 : sy_H k1 := by rw [← q1]; exact hH
  have hg1 : gv_R (sy_rd k1) := by rw [← q1]; exact hg
  have hr1 : r1 (sy_rd k1) := by rw [← q1]; exact hr
  have sk : sv (sy_rd k1) := ⟨k1, hH1, rfl⟩
  have hq1 : r2 (sy_rd h) (sy_rd k1) := by rw [← q1]; exact hq
  have hz1 : r3 (sy_rd h) (sy_rd k1) := by rw [← q1]; exact hz
  obtain ⟨c2, k2, e2, Q2⟩ := dt_R_flues hH1 (a1 := x1.toInt) (a2 := x2.toInt) (sy_lo (x := x1)).1 (sy_lo (x := x1)).2 (sy_lo (x := x2)).1 (sy_lo (x := x2)).2 (gv_of hg1)
  obtain ⟨q2, rfl, -, -⟩ := Q2
  have g2 : go_I k2 := by rw [← q2]; exact ⟨hH1, hg1, hr1, by rw [← q1]; exact hq, by rw [← q1]; exact hz⟩
  simp only [sy_of] at e1 e2
  obtain ⟨y1, z1, -⟩ := hH.cell (a := 0) (tag := 9) rfl
  obtain ⟨y2, z2, -⟩ := hH1.cell (a := 234) (tag := 10) rfl
  exact ⟨_, _, k1, k2, ⟨y1, z1⟩, ⟨y2, z2⟩, e1, e2, g2⟩
set_option maxRecDepth 100000 in
theorem go_trade (x1 x2 x3 : Int32) {h : mj_H} (hI : go_I h) : ∃ (r1 r2 : Int32) (h1 h2 : mj_H), (∃ ys, h[0]? = some (9, ys)) ∧ (∃ ys, h1[234]? = some (10, ys)) ∧ mj_runs (mj_m_86, 0, [(0, .ref 0), (1, .int x1), (2, .int x2), (3, .int x3)], [], h) (some (.int r1)) h1 ∧ mj_runs (mj_m_173, 0, [(0, .ref 234), (1, .int x1), (2, .int x2), (3, .int x3)], [], h1) (some (.int r2)) h2 ∧ go_I h2 := by
  obtain ⟨hH, hg, hr, hq, hz⟩ := hI
  have sh : sv (sy_rd h) := ⟨h, hH, rfl⟩
  obtain ⟨c1, k1, e1, Q1⟩ := dt_C_trade hH (a1 := x1.toInt) (a2 := x2.toInt) (a3 := x3.toInt) (sy_lo (x := x1)).1 (sy_lo (x := x1)).2 (sy_lo (x := x2)).1 (sy_lo (x := x2)).2 (sy_lo (x := x3)).1 (sy_lo (x := x3)).2
  obtain ⟨hH1, s1, rfl, -, -⟩ := Q1
  have hg1 : gv_R (sy_rd k1) := by rw [s1]; exact gv_RK hg ⟨dr_C_trade _ _ _ _ 234 6 rfl, dr_C_trade _ _ _ _ 234 2 rfl, fun i => dr_C_trade _ _ _ _ 236 i rfl, fun q _ => dr_C_trade _ _ _ _ 235 _ rfl⟩
  have hr1 : r1 (sy_rd k1) := by rw [s1]; exact r1_K (dw := dw_C_trade) (fun a k q => dr_C_trade _ _ _ _ a k q) rfl rfl (fun _ => rfl) (fun _ => rfl) hr
  have sk : sv (sy_rd k1) := ⟨k1, hH1, rfl⟩
  have hq1 : r2 (sy_rd h) (sy_rd k1) := r2_fr (st_b_of sh) (fun _ _ _ _ => rfl) (fun k _ _ => by rw [s1]; exact dr_C_trade _ _ _ _ 234 k rfl) (fun k => by rw [s1]; exact dr_C_trade _ _ _ _ 236 k rfl) (fun k => by rw [s1]; exact dr_C_trade _ _ _ _ 237 k rfl) (fun k _ => by rw [s1]; exact dr_C_trade _ _ _ _ 235 k rfl) hq
  have hz1 : r3 (sy_rd h) (sy_rd k1) := r3_fr (fun _ => rfl) (fun _ => rfl) (fun _ => rfl) (fun _ => rfl) (fun _ => rfl) (fun k => by rw [s1]; exact dr_C_trade _ _ _ _ 249 k rfl) (fun k => by rw [s1]; exact dr_C_trade _ _ _ _ 250 k rfl) (fun k => by rw [s1]; exact dr_C_trade _ _ _ _ 251 k rfl) (fun k => by rw [s1]; exact dr_C_trade _ _ _ _ 252 k rfl) (fun k => by rw [s1]; exact dr_C_trade _ _ _ _ 253 k rfl) (by rw [s1]; exact dr_C_trade _ _ _ _ 234 31 rfl) (by rw [s1]; exact dr_C_trade _ _ _ _ 234 35 rfl) (by rw [s1]; exact dr_C_trade _ _ _ _ 234 6 rfl) hz
  obtain ⟨c2, k2, e2, Q2⟩ := dt_R_trade hH1 (a1 := x1.toInt) (a2 := x2.toInt) (a3 := x3.toInt) (sy_lo (x := x1)).1 (sy_lo (x := x1)).2 (sy_lo (x := x2)).1 (sy_lo (x := x2)).2 (sy_lo (x := x3)).1 (sy_lo (x := x3)).2
  obtain ⟨hH2, s2, rfl, -, -⟩ := Q2
  have hq2 : r2 (sy_rd k1) (sy_rd k2) := r2_fr (st_b_of sk) (fun a k ha _ => by rw [s1]; exact dr_C_trade _ _ _ _ a k (dz_C_trade k ha)) (r2_27 (fun k hk => by rw [s2]; rcases hk with rfl | rfl | rfl | rfl | rfl | rfl <;> exact dr_R_trade _ _ _ _ 234 _ rfl)) (fun k => by rw [s2]; exact dr_R_trade _ _ _ _ 236 k rfl) (fun k => by rw [s2]; exact dr_R_trade _ _ _ _ 237 k rfl) (fun k hk => by rw [s2]; exact dr_R_trade _ _ _ _ 235 k rfl) hq1
  have hq3 : r2 (sy_rd k2) (sy_rd k2) := r2_fr (st_b_of ⟨k2, hH2, rfl⟩) (fun a k ha _ => by rw [s2]; exact dr_R_trade _ _ _ _ a k (dz_R_trade k (by omega))) (fun _ _ _ => rfl) (fun _ => rfl) (fun _ => rfl) (fun _ _ => rfl) hq2
  have hz2 : r3 (sy_rd k1) (sy_rd k2) := r3_fr (fun k => by rw [s1]; exact dr_C_trade _ _ _ _ 218 k rfl) (fun k => by rw [s1]; exact dr_C_trade _ _ _ _ 219 k rfl) (fun k => by rw [s1]; exact dr_C_trade _ _ _ _ 220 k rfl) (fun k => by rw [s1]; exact dr_C_trade _ _ _ _ 222 k rfl) (fun k => by rw [s1]; exact dr_C_trade _ _ _ _ 223 k rfl) (fun k => by rw [s2]; exact dr_R_trade _ _ _ _ 249 k rfl) (fun k => by rw [s2]; exact dr_R_trade _ _ _ _ 250 k rfl) (fun k => by rw [s2]; exact dr_R_trade _ _ _ _ 251 k rfl) (fun k => by rw [s2]; exact dr_R_trade _ _ _ _ 252 k rfl) (fun k => by rw [s2]; exact dr_R_trade _ _ _ _ 253 k rfl) (by rw [s2]; exact dr_R_trade _ _ _ _ 234 31 rfl) (by rw [s2]; exact dr_R_trade _ _ _ _ 234 35 rfl) (by rw [s2]; exact dr_R_trade _ _ _ _ 234 6 rfl) hz1
  have hz3 : r3 (sy_rd k2) (sy_rd k2) := r3_fr (fun k => by rw [s2]; exact dr_R_trade _ _ _ _ 218 k rfl) (fun k => by rw [s2]; exact dr_R_trade _ _ _ _ 219 k rfl) (fun k => by rw [s2]; exact dr_R_trade _ _ _ _ 220 k rfl) (fun k => by rw [s2]; exact dr_R_trade _ _ _ _ 222 k rfl) (fun k => by rw [s2]; exact dr_R_trade _ _ _ _ 223 k rfl) (fun _ => rfl) (fun _ => rfl) (fun _ => rfl) (fun _ => rfl) (fun _ => rfl) rfl rfl rfl hz2
  have g2 : go_I k2 := ⟨hH2, by rw [s2]; exact gv_trade hg1 _ _ _, by rw [s2]; exact r1_K (dw := dw_R_trade) (fun a k q => dr_R_trade _ _ _ _ a k q) rfl rfl (fun _ => rfl) (fun _ => rfl) hr1, hq3, hz3⟩
  simp only [sy_of] at e1 e2
  obtain ⟨y1, z1, -⟩ := hH.cell (a := 0) (tag := 9) rfl
  obtain ⟨y2, z2, -⟩ := hH1.cell (a := 234) (tag := 10) rfl
  exact ⟨_, _, k1, k2, ⟨y1, z1⟩, ⟨y2, z2⟩, e1, e2, g2⟩
set_option maxRecDepth 100000 in
theorem go_ring (x1 : Int32) {h : mj_H} (hI : go_I h) : ∃ (r1 r2 : Int32) (h1 h2 : mj_H), (∃ ys, h[0]? = some (9, ys)) ∧ (∃ ys, h1[234]? = some (10, ys)) ∧ mj_runs (mj_m_98, 0, [(0, .ref 0), (1, .int x1)], [], h) (some (.int r1)) h1 ∧ mj_runs (mj_m_177, 0, [(0, .ref 234), (1, .int x1)], [], h1) (some (.int r2)) h2 ∧ go_I h2 := by
  obtain ⟨hH, hg, hr, hq, hz⟩ := hI
  have sh : sv (sy_rd h) := ⟨h, hH, rfl⟩
  obtain ⟨c1, k1, e1, Q1⟩ := dt_C_ring hH (a1 := x1.toInt) (sy_lo (x := x1)).1 (sy_lo (x := x1)).2
  obtain ⟨q1, rfl, -, -⟩ := Q1
  have hH1 : sy_H k1 := by rw [← q1]; exact hH
  have hg1 : gv_R (sy_rd k1) := by rw [← q1]; exact hg
  have hr1 : r1 (sy_rd k1) := by rw [← q1]; exact hr
  have sk : sv (sy_rd k1) := ⟨k1, hH1, rfl⟩
  have hq1 : r2 (sy_rd h) (sy_rd k1) := by rw [← q1]; exact hq
  have hz1 : r3 (sy_rd h) (sy_rd k1) := by rw [← q1]; exact hz
  obtain ⟨c2, k2, e2, Q2⟩ := dt_R_ring hH1 (a1 := x1.toInt) (sy_lo (x := x1)).1 (sy_lo (x := x1)).2
  obtain ⟨hH2, s2, rfl, -, -⟩ := Q2
  have hq2 : r2 (sy_rd k1) (sy_rd k2) := r2_fr (st_b_of sk) (fun a k ha _ => by rw [← q1]) (r2_27 (fun k hk => by rw [s2]; rcases hk with rfl | rfl | rfl | rfl | rfl | rfl <;> exact dr_R_ring _ _ 234 _ rfl)) (fun k => by rw [s2]; exact dr_R_ring _ _ 236 k rfl) (fun k => by rw [s2]; exact dr_R_ring _ _ 237 k rfl) (fun k hk => by rw [s2]; exact dr_R_ring _ _ 235 k rfl) hq1
  have hq3 : r2 (sy_rd k2) (sy_rd k2) := r2_fr (st_b_of ⟨k2, hH2, rfl⟩) (fun a k ha _ => by rw [s2]; exact dr_R_ring _ _ a k (dz_R_ring k (by omega))) (fun _ _ _ => rfl) (fun _ => rfl) (fun _ => rfl) (fun _ _ => rfl) hq2
  have hz2 : r3 (sy_rd k1) (sy_rd k2) := r3_fr (fun k => by rw [← q1]) (fun k => by rw [← q1]) (fun k => by rw [← q1]) (fun k => by rw [← q1]) (fun k => by rw [← q1]) (fun k => by rw [s2]; exact dr_R_ring _ _ 249 k rfl) (fun k => by rw [s2]; exact dr_R_ring _ _ 250 k rfl) (fun k => by rw [s2]; exact dr_R_ring _ _ 251 k rfl) (fun k => by rw [s2]; exact dr_R_ring _ _ 252 k rfl) (fun k => by rw [s2]; exact dr_R_ring _ _ 253 k rfl) (by rw [s2]; exact dr_R_ring _ _ 234 31 rfl) (by rw [s2]; exact dr_R_ring _ _ 234 35 rfl) (by rw [s2]; exact dr_R_ring _ _ 234 6 rfl) hz1
  have hz3 : r3 (sy_rd k2) (sy_rd k2) := r3_fr (fun k => by rw [s2]; exact dr_R_ring _ _ 218 k rfl) (fun k => by rw [s2]; exact dr_R_ring _ _ 219 k rfl) (fun k => by rw [s2]; exact dr_R_ring _ _ 220 k rfl) (fun k => by rw [s2]; exact dr_R_ring _ _ 222 k rfl) (fun k => by rw [s2]; exact dr_R_ring _ _ 223 k rfl) (fun _ => rfl) (fun _ => rfl) (fun _ => rfl) (fun _ => rfl) (fun _ => rfl) rfl rfl rfl hz2
  have g2 : go_I k2 := ⟨hH2, by rw [s2]; exact gv_ring hg1 _, by rw [s2]; exact r1_K (dw := dw_R_ring) (fun a k q => dr_R_ring _ _ a k q) rfl rfl (fun _ => rfl) (fun _ => rfl) hr1, hq3, hz3⟩
  simp only [sy_of] at e1 e2
  obtain ⟨y1, z1, -⟩ := hH.cell (a := 0) (tag := 9) rfl
  obtain ⟨y2, z2, -⟩ := hH1.cell (a := 234) (tag := 10) rfl
  exact ⟨_, _, k1, k2, ⟨y1, z1⟩, ⟨y2, z2⟩, e1, e2, g2⟩
set_option maxRecDepth 100000 in
theorem go_brushes (x1 x2 : Int32) {h : mj_H} (hI : go_I h) : ∃ (r1 r2 : Int32) (h1 h2 : mj_H), (∃ ys, h[0]? = some (9, ys)) ∧ (∃ ys, h1[234]? = some (10, ys)) ∧ mj_runs (mj_m_101, 0, [(0, .ref 0), (1, .int x1), (2, .int x2)], [], h) (some (.int r1)) h1 ∧ mj_runs (mj_m_180, 0, [(0, .ref 234), (1, .int x1), (2, .int x2)], [], h1) (some (.int r2)) h2 ∧ go_I h2 := by
  obtain ⟨hH, hg, hr, hq, hz⟩ := hI
  have sh : sv (sy_rd h) := ⟨h, hH, rfl⟩
  obtain ⟨c1, k1, e1, Q1⟩ := dt_C_brushes hH (a1 := x1.toInt) (a2 := x2.toInt) (sy_lo (x := x1)).1 (sy_lo (x := x1)).2 (sy_lo (x := x2)).1 (sy_lo (x := x2)).2
  obtain ⟨q1, rfl, -, -⟩ := Q1
  have hH1 : sy_H k1 := by rw [← q1]; exact hH
  have hg1 : gv_R (sy_rd k1) := by rw [← q1]; exact hg
  have hr1 : r1 (sy_rd k1) := by rw [← q1]; exact hr
  have sk : sv (sy_rd k1) := ⟨k1, hH1, rfl⟩
  have hq1 : r2 (sy_rd h) (sy_rd k1) := by rw [← q1]; exact hq
  have hz1 : r3 (sy_rd h) (sy_rd k1) := by rw [← q1]; exact hz
  obtain ⟨c2, k2, e2, Q2⟩ := dt_R_brushes hH1 (a1 := x1.toInt) (a2 := x2.toInt) (sy_lo (x := x1)).1 (sy_lo (x := x1)).2 (sy_lo (x := x2)).1 (sy_lo (x := x2)).2 (gv_of hg1)
  obtain ⟨q2, rfl, -, -⟩ := Q2
  have g2 : go_I k2 := by rw [← q2]; exact ⟨hH1, hg1, hr1, by rw [← q1]; exact hq, by rw [← q1]; exact hz⟩
  simp only [sy_of] at e1 e2
  obtain ⟨y1, z1, -⟩ := hH.cell (a := 0) (tag := 9) rfl
  obtain ⟨y2, z2, -⟩ := hH1.cell (a := 234) (tag := 10) rfl
  exact ⟨_, _, k1, k2, ⟨y1, z1⟩, ⟨y2, z2⟩, e1, e2, g2⟩
set_option maxRecDepth 100000 in
theorem go_wet (x1 x2 : Int32) {h : mj_H} (hI : go_I h) : ∃ (r1 r2 : Int32) (h1 h2 : mj_H), (∃ ys, h[0]? = some (9, ys)) ∧ (∃ ys, h1[234]? = some (10, ys)) ∧ mj_runs (mj_m_105, 0, [(0, .ref 0), (1, .int x1), (2, .int x2)], [], h) (some (.int r1)) h1 ∧ mj_runs (mj_m_181, 0, [(0, .ref 234), (1, .int x1), (2, .int x2)], [], h1) (some (.int r2)) h2 ∧ go_I h2 := by
  obtain ⟨hH, hg, hr, hq, hz⟩ := hI
  have sh : sv (sy_rd h) := ⟨h, hH, rfl⟩
  obtain ⟨c1, k1, e1, Q1⟩ := dt_C_wet hH (a1 := x1.toInt) (a2 := x2.toInt) (sy_lo (x := x1)).1 (sy_lo (x := x1)).2 (sy_lo (x := x2)).1 (sy_lo (x := x2)).2
  obtain ⟨q1, rfl, -, -⟩ := Q1
  have hH1 : sy_H k1 := by rw [← q1]; exact hH
  have hg1 : gv_R (sy_rd k1) := by rw [← q1]; exact hg
  have hr1 : r1 (sy_rd k1) := by rw [← q1]; exact hr
  have sk : sv (sy_rd k1) := ⟨k1, hH1, rfl⟩
  have hq1 : r2 (sy_rd h) (sy_rd k1) := by rw [← q1]; exact hq
  have hz1 : r3 (sy_rd h) (sy_rd k1) := by rw [← q1]; exact hz
  obtain ⟨c2, k2, e2, Q2⟩ := dt_R_wet hH1 (a1 := x1.toInt) (a2 := x2.toInt) (sy_lo (x := x1)).1 (sy_lo (x := x1)).2 (sy_lo (x := x2)).1 (sy_lo (x := x2)).2
  obtain ⟨q2, rfl, -, -⟩ := Q2
  have g2 : go_I k2 := by rw [← q2]; exact ⟨hH1, hg1, hr1, by rw [← q1]; exact hq, by rw [← q1]; exact hz⟩
  simp only [sy_of] at e1 e2
  obtain ⟨y1, z1, -⟩ := hH.cell (a := 0) (tag := 9) rfl
  obtain ⟨y2, z2, -⟩ := hH1.cell (a := 234) (tag := 10) rfl
  exact ⟨_, _, k1, k2, ⟨y1, z1⟩, ⟨y2, z2⟩, e1, e2, g2⟩
set_option maxRecDepth 100000 in
theorem go_see (x1 x2 x3 : Int32) (hb : x3 = 0 ∨ x3 = 1) {h : mj_H} (hI : go_I h) : ∃ (r1 r2 : Int32) (h1 h2 : mj_H), (∃ ys, h[0]? = some (9, ys)) ∧ (∃ ys, h1[234]? = some (10, ys)) ∧ mj_runs (mj_m_106, 0, [(0, .ref 0), (1, .int x1), (2, .int x2), (3, .int x3)], [], h) (some (.int r1)) h1 ∧ mj_runs (mj_m_182, 0, [(0, .ref 234), (1, .int x1), (2, .int x2), (3, .int x3)], [], h1) (some (.int r2)) h2 ∧ go_I h2 := by
  obtain ⟨hH, hg, hr, hq, hz⟩ := hI
  have sh : sv (sy_rd h) := ⟨h, hH, rfl⟩
  have b3 : 0 ≤ x3.toInt ∧ x3.toInt ≤ 1 := by rcases hb with rfl | rfl <;> decide
  obtain ⟨c1, k1, e1, Q1⟩ := dt_C_see hH (a1 := x1.toInt) (a2 := x2.toInt) (a3 := x3.toInt) (sy_lo (x := x1)).1 (sy_lo (x := x1)).2 (sy_lo (x := x2)).1 (sy_lo (x := x2)).2 b3.1 b3.2
  obtain ⟨hH1, s1, rfl, -, -⟩ := Q1
  have hg1 : gv_R (sy_rd k1) := by rw [s1]; exact gv_RK hg ⟨dr_C_see _ _ _ _ 234 6 rfl, dr_C_see _ _ _ _ 234 2 rfl, fun i => dr_C_see _ _ _ _ 236 i rfl, fun q _ => dr_C_see _ _ _ _ 235 _ rfl⟩
  have sk : sv (sy_rd k1) := ⟨k1, hH1, rfl⟩
  have hq1 : r2 (sy_rd h) (sy_rd k1) := r2_fr (st_b_of sh) (fun _ _ _ _ => rfl) (fun k _ _ => by rw [s1]; exact dr_C_see _ _ _ _ 234 k rfl) (fun k => by rw [s1]; exact dr_C_see _ _ _ _ 236 k rfl) (fun k => by rw [s1]; exact dr_C_see _ _ _ _ 237 k rfl) (fun k _ => by rw [s1]; exact dr_C_see _ _ _ _ 235 k rfl) hq
  have hz1 : r3 (sy_rd h) (sy_rd k1) := r3_fr (fun _ => rfl) (fun _ => rfl) (fun _ => rfl) (fun _ => rfl) (fun _ => rfl) (fun k => by rw [s1]; exact dr_C_see _ _ _ _ 249 k rfl) (fun k => by rw [s1]; exact dr_C_see _ _ _ _ 250 k rfl) (fun k => by rw [s1]; exact dr_C_see _ _ _ _ 251 k rfl) (fun k => by rw [s1]; exact dr_C_see _ _ _ _ 252 k rfl) (fun k => by rw [s1]; exact dr_C_see _ _ _ _ 253 k rfl) (by rw [s1]; exact dr_C_see _ _ _ _ 234 31 rfl) (by rw [s1]; exact dr_C_see _ _ _ _ 234 35 rfl) (by rw [s1]; exact dr_C_see _ _ _ _ 234 6 rfl) hz
  obtain ⟨c2, k2, e2, Q2⟩ := dt_R_see hH1 (a1 := x1.toInt) (a2 := x2.toInt) (a3 := x3.toInt) (sy_lo (x := x1)).1 (sy_lo (x := x1)).2 (sy_lo (x := x2)).1 (sy_lo (x := x2)).2 b3.1 b3.2
  obtain ⟨hH2, s2, rfl, -, -⟩ := Q2
  have hq2 : r2 (sy_rd k1) (sy_rd k2) := r2_fr (st_b_of sk) (fun a k ha _ => by rw [s1]; exact dr_C_see _ _ _ _ a k (dz_C_see k ha)) (r2_27 (fun k hk => by rw [s2]; rcases hk with rfl | rfl | rfl | rfl | rfl | rfl <;> exact dr_R_see _ _ _ _ 234 _ rfl)) (fun k => by rw [s2]; exact dr_R_see _ _ _ _ 236 k rfl) (fun k => by rw [s2]; exact dr_R_see _ _ _ _ 237 k rfl) (fun k hk => by rw [s2]; exact dr_R_see _ _ _ _ 235 k rfl) hq1
  have hq3 : r2 (sy_rd k2) (sy_rd k2) := r2_fr (st_b_of ⟨k2, hH2, rfl⟩) (fun a k ha _ => by rw [s2]; exact dr_R_see _ _ _ _ a k (dz_R_see k (by omega))) (fun _ _ _ => rfl) (fun _ => rfl) (fun _ => rfl) (fun _ _ => rfl) hq2
  have hz2 : r3 (sy_rd k1) (sy_rd k2) := by
    have c := r3_see sh (by rw [r1_seen hr, s1]; exact (dr_C_see _ _ _ _ 234 31 rfl).symm) hq1 hz1 x1.toInt x2.toInt x3.toInt
    rw [← s1, ← s2] at c
    exact c
  have hz3 : r3 (sy_rd k2) (sy_rd k2) := r3_fr (fun k => by rw [s2]; exact dr_R_see _ _ _ _ 218 k rfl) (fun k => by rw [s2]; exact dr_R_see _ _ _ _ 219 k rfl) (fun k => by rw [s2]; exact dr_R_see _ _ _ _ 220 k rfl) (fun k => by rw [s2]; exact dr_R_see _ _ _ _ 222 k rfl) (fun k => by rw [s2]; exact dr_R_see _ _ _ _ 223 k rfl) (fun _ => rfl) (fun _ => rfl) (fun _ => rfl) (fun _ => rfl) (fun _ => rfl) rfl rfl rfl hz2
  have g2 : go_I k2 := ⟨hH2, by rw [s2]; exact gv_see hg1 _ _ _, by rw [s2, s1]; exact (r1_see ⟨h, hH, rfl⟩ hr _ _ _).2, hq3, hz3⟩
  simp only [sy_of] at e1 e2
  obtain ⟨y1, z1, -⟩ := hH.cell (a := 0) (tag := 9) rfl
  obtain ⟨y2, z2, -⟩ := hH1.cell (a := 234) (tag := 10) rfl
  exact ⟨_, _, k1, k2, ⟨y1, z1⟩, ⟨y2, z2⟩, e1, e2, g2⟩
set_option maxRecDepth 100000 in
theorem go_next (x1 x2 : Int32) {h : mj_H} (hI : go_I h) : ∃ (r1 r2 : Int32) (h1 h2 : mj_H), (∃ ys, h[0]? = some (9, ys)) ∧ (∃ ys, h1[234]? = some (10, ys)) ∧ mj_runs (mj_m_108, 0, [(0, .ref 0), (1, .int x1), (2, .int x2)], [], h) (some (.int r1)) h1 ∧ mj_runs (mj_m_183, 0, [(0, .ref 234), (1, .int x1), (2, .int x2)], [], h1) (some (.int r2)) h2 ∧ go_I h2 := by
  obtain ⟨hH, hg, hr, hq, hz⟩ := hI
  have sh : sv (sy_rd h) := ⟨h, hH, rfl⟩
  obtain ⟨c1, k1, e1, Q1⟩ := dt_C_next hH (a1 := x1.toInt) (a2 := x2.toInt) (sy_lo (x := x1)).1 (sy_lo (x := x1)).2 (sy_lo (x := x2)).1 (sy_lo (x := x2)).2
  obtain ⟨q1, rfl, -, -⟩ := Q1
  have hH1 : sy_H k1 := by rw [← q1]; exact hH
  have hg1 : gv_R (sy_rd k1) := by rw [← q1]; exact hg
  have hr1 : r1 (sy_rd k1) := by rw [← q1]; exact hr
  have sk : sv (sy_rd k1) := ⟨k1, hH1, rfl⟩
  have hq1 : r2 (sy_rd h) (sy_rd k1) := by rw [← q1]; exact hq
  have hz1 : r3 (sy_rd h) (sy_rd k1) := by rw [← q1]; exact hz
  obtain ⟨c2, k2, e2, Q2⟩ := dt_R_next hH1 (a1 := x1.toInt) (a2 := x2.toInt) (sy_lo (x := x1)).1 (sy_lo (x := x1)).2 (sy_lo (x := x2)).1 (sy_lo (x := x2)).2 (gv_of hg1)
  obtain ⟨q2, rfl, -, -⟩ := Q2
  have g2 : go_I k2 := by rw [← q2]; exact ⟨hH1, hg1, hr1, by rw [← q1]; exact hq, by rw [← q1]; exact hz⟩
  simp only [sy_of] at e1 e2
  obtain ⟨y1, z1, -⟩ := hH.cell (a := 0) (tag := 9) rfl
  obtain ⟨y2, z2, -⟩ := hH1.cell (a := 234) (tag := 10) rfl
  exact ⟨_, _, k1, k2, ⟨y1, z1⟩, ⟨y2, z2⟩, e1, e2, g2⟩
set_option maxRecDepth 100000 in
theorem go_write (x1 x2 : Int32) {h : mj_H} (hI : go_I h) : ∃ (r1 r2 : Int32) (h1 h2 : mj_H), (∃ ys, h[0]? = some (9, ys)) ∧ (∃ ys, h1[234]? = some (10, ys)) ∧ mj_runs (mj_m_113, 0, [(0, .ref 0), (1, .int x1), (2, .int x2)], [], h) (some (.int r1)) h1 ∧ mj_runs (mj_m_184, 0, [(0, .ref 234), (1, .int x1), (2, .int x2)], [], h1) (some (.int r2)) h2 ∧ go_I h2 := by
  obtain ⟨hH, hg, hr, hq, hz⟩ := hI
  have sh : sv (sy_rd h) := ⟨h, hH, rfl⟩
  obtain ⟨c1, k1, e1, Q1⟩ := dt_C_write hH (a1 := x1.toInt) (a2 := x2.toInt) (sy_lo (x := x1)).1 (sy_lo (x := x1)).2 (sy_lo (x := x2)).1 (sy_lo (x := x2)).2
  obtain ⟨hH1, s1, rfl, -, -⟩ := Q1
  have hg1 : gv_R (sy_rd k1) := by rw [s1]; exact gv_RK hg ⟨dr_C_write _ _ _ 234 6 rfl, dr_C_write _ _ _ 234 2 rfl, fun i => dr_C_write _ _ _ 236 i rfl, fun q _ => dr_C_write _ _ _ 235 _ rfl⟩
  have sk : sv (sy_rd k1) := ⟨k1, hH1, rfl⟩
  have hq1 : r2 (sy_rd h) (sy_rd k1) := r2_fr (st_b_of sh) (fun _ _ _ _ => rfl) (fun k _ _ => by rw [s1]; exact dr_C_write _ _ _ 234 k rfl) (fun k => by rw [s1]; exact dr_C_write _ _ _ 236 k rfl) (fun k => by rw [s1]; exact dr_C_write _ _ _ 237 k rfl) (fun k _ => by rw [s1]; exact dr_C_write _ _ _ 235 k rfl) hq
  have hz1 : r3 (sy_rd h) (sy_rd k1) := r3_fr (fun _ => rfl) (fun _ => rfl) (fun _ => rfl) (fun _ => rfl) (fun _ => rfl) (fun k => by rw [s1]; exact dr_C_write _ _ _ 249 k rfl) (fun k => by rw [s1]; exact dr_C_write _ _ _ 250 k rfl) (fun k => by rw [s1]; exact dr_C_write _ _ _ 251 k rfl) (fun k => by rw [s1]; exact dr_C_write _ _ _ 252 k rfl) (fun k => by rw [s1]; exact dr_C_write _ _ _ 253 k rfl) (by rw [s1]; exact dr_C_write _ _ _ 234 31 rfl) (by rw [s1]; exact dr_C_write _ _ _ 234 35 rfl) (by rw [s1]; exact dr_C_write _ _ _ 234 6 rfl) hz
  obtain ⟨c2, k2, e2, Q2⟩ := dt_R_write hH1 (a1 := x1.toInt) (a2 := x2.toInt) (sy_lo (x := x1)).1 (sy_lo (x := x1)).2 (sy_lo (x := x2)).1 (sy_lo (x := x2)).2
  obtain ⟨hH2, s2, rfl, -, -⟩ := Q2
  have hq2 : r2 (sy_rd k1) (sy_rd k2) := r2_fr (st_b_of sk) (fun a k ha _ => by rw [s1]; exact dr_C_write _ _ _ a k (dz_C_write k ha)) (r2_27 (fun k hk => by rw [s2]; rcases hk with rfl | rfl | rfl | rfl | rfl | rfl <;> exact dr_R_write _ _ _ 234 _ rfl)) (fun k => by rw [s2]; exact dr_R_write _ _ _ 236 k rfl) (fun k => by rw [s2]; exact dr_R_write _ _ _ 237 k rfl) (fun k hk => by rw [s2]; exact dr_R_write _ _ _ 235 k rfl) hq1
  have hq3 : r2 (sy_rd k2) (sy_rd k2) := r2_fr (st_b_of ⟨k2, hH2, rfl⟩) (fun a k ha _ => by rw [s2]; exact dr_R_write _ _ _ a k (dz_R_write k (by omega))) (fun _ _ _ => rfl) (fun _ => rfl) (fun _ => rfl) (fun _ _ => rfl) hq2
  have hz2 : r3 (sy_rd k1) (sy_rd k2) := by
    have c := r3_write sh (by rw [r1_book hr, s1]; exact (dr_C_write _ _ _ 234 35 rfl).symm) hq1 hz1 x1.toInt x2.toInt
    rw [← s1, ← s2] at c
    exact c
  have hz3 : r3 (sy_rd k2) (sy_rd k2) := r3_fr (fun k => by rw [s2]; exact dr_R_write _ _ _ 218 k rfl) (fun k => by rw [s2]; exact dr_R_write _ _ _ 219 k rfl) (fun k => by rw [s2]; exact dr_R_write _ _ _ 220 k rfl) (fun k => by rw [s2]; exact dr_R_write _ _ _ 222 k rfl) (fun k => by rw [s2]; exact dr_R_write _ _ _ 223 k rfl) (fun _ => rfl) (fun _ => rfl) (fun _ => rfl) (fun _ => rfl) (fun _ => rfl) rfl rfl rfl hz2
  have g2 : go_I k2 := ⟨hH2, by rw [s2]; exact gv_write hg1 _ _, by rw [s2, s1]; exact (r1_write ⟨h, hH, rfl⟩ hr _ _).2, hq3, hz3⟩
  simp only [sy_of] at e1 e2
  obtain ⟨y1, z1, -⟩ := hH.cell (a := 0) (tag := 9) rfl
  obtain ⟨y2, z2, -⟩ := hH1.cell (a := 234) (tag := 10) rfl
  exact ⟨_, _, k1, k2, ⟨y1, z1⟩, ⟨y2, z2⟩, e1, e2, g2⟩
set_option maxRecDepth 100000 in
theorem go_judge {h : mj_H} (hI : go_I h) : ∃ (r1 r2 : Int32) (h1 h2 : mj_H), (∃ ys, h[0]? = some (9, ys)) ∧ (∃ ys, h1[234]? = some (10, ys)) ∧ mj_runs (mj_m_115, 0, [(0, .ref 0)], [], h) (some (.int r1)) h1 ∧ mj_runs (mj_m_185, 0, [(0, .ref 234)], [], h1) (some (.int r2)) h2 ∧ go_I h2 := by
  obtain ⟨hH, hg, hr, hq, hz⟩ := hI
  have sh : sv (sy_rd h) := ⟨h, hH, rfl⟩
  obtain ⟨c1, k1, e1, Q1⟩ := dt_C_judge hH
  obtain ⟨q1, rfl, -, -⟩ := Q1
  have hH1 : sy_H k1 := by rw [← q1]; exact hH
  have hg1 : gv_R (sy_rd k1) := by rw [← q1]; exact hg
  have hr1 : r1 (sy_rd k1) := by rw [← q1]; exact hr
  have sk : sv (sy_rd k1) := ⟨k1, hH1, rfl⟩
  have hq1 : r2 (sy_rd h) (sy_rd k1) := by rw [← q1]; exact hq
  have hz1 : r3 (sy_rd h) (sy_rd k1) := by rw [← q1]; exact hz
  obtain ⟨c2, k2, e2, Q2⟩ := dt_R_judge hH1
  obtain ⟨q2, rfl, -, -⟩ := Q2
  have g2 : go_I k2 := by rw [← q2]; exact ⟨hH1, hg1, hr1, by rw [← q1]; exact hq, by rw [← q1]; exact hz⟩
  obtain ⟨y1, z1, -⟩ := hH.cell (a := 0) (tag := 9) rfl
  obtain ⟨y2, z2, -⟩ := hH1.cell (a := 234) (tag := 10) rfl
  exact ⟨_, _, k1, k2, ⟨y1, z1⟩, ⟨y2, z2⟩, e1, e2, g2⟩
set_option maxRecDepth 100000 in
theorem go_tear {h : mj_H} (hI : go_I h) : ∃ (r1 r2 : Int32) (h1 h2 : mj_H), (∃ ys, h[0]? = some (9, ys)) ∧ (∃ ys, h1[234]? = some (10, ys)) ∧ mj_runs (mj_m_117, 0, [(0, .ref 0)], [], h) (some (.int r1)) h1 ∧ mj_runs (mj_m_186, 0, [(0, .ref 234)], [], h1) (some (.int r2)) h2 ∧ go_I h2 := by
  obtain ⟨hH, hg, hr, hq, hz⟩ := hI
  have sh : sv (sy_rd h) := ⟨h, hH, rfl⟩
  obtain ⟨c1, k1, e1, Q1⟩ := dt_C_tear hH
  obtain ⟨hH1, s1, rfl, -, -⟩ := Q1
  have hg1 : gv_R (sy_rd k1) := by rw [s1]; exact gv_RK hg ⟨dr_C_tear _ 234 6 rfl, dr_C_tear _ 234 2 rfl, fun i => dr_C_tear _ 236 i rfl, fun q _ => dr_C_tear _ 235 _ rfl⟩
  have sk : sv (sy_rd k1) := ⟨k1, hH1, rfl⟩
  have hq1 : r2 (sy_rd h) (sy_rd k1) := r2_fr (st_b_of sh) (fun _ _ _ _ => rfl) (fun k _ _ => by rw [s1]; exact dr_C_tear _ 234 k rfl) (fun k => by rw [s1]; exact dr_C_tear _ 236 k rfl) (fun k => by rw [s1]; exact dr_C_tear _ 237 k rfl) (fun k _ => by rw [s1]; exact dr_C_tear _ 235 k rfl) hq
  have hz1 : r3 (sy_rd h) (sy_rd k1) := r3_fr (fun _ => rfl) (fun _ => rfl) (fun _ => rfl) (fun _ => rfl) (fun _ => rfl) (fun k => by rw [s1]; exact dr_C_tear _ 249 k rfl) (fun k => by rw [s1]; exact dr_C_tear _ 250 k rfl) (fun k => by rw [s1]; exact dr_C_tear _ 251 k rfl) (fun k => by rw [s1]; exact dr_C_tear _ 252 k rfl) (fun k => by rw [s1]; exact dr_C_tear _ 253 k rfl) (by rw [s1]; exact dr_C_tear _ 234 31 rfl) (by rw [s1]; exact dr_C_tear _ 234 35 rfl) (by rw [s1]; exact dr_C_tear _ 234 6 rfl) hz
  obtain ⟨c2, k2, e2, Q2⟩ := dt_R_tear hH1
  obtain ⟨hH2, s2, rfl, -, -⟩ := Q2
  have hq2 : r2 (sy_rd k1) (sy_rd k2) := r2_fr (st_b_of sk) (fun a k ha _ => by rw [s1]; exact dr_C_tear _ a k (dz_C_tear k ha)) (r2_27 (fun k hk => by rw [s2]; rcases hk with rfl | rfl | rfl | rfl | rfl | rfl <;> exact dr_R_tear _ 234 _ rfl)) (fun k => by rw [s2]; exact dr_R_tear _ 236 k rfl) (fun k => by rw [s2]; exact dr_R_tear _ 237 k rfl) (fun k hk => by rw [s2]; exact dr_R_tear _ 235 k rfl) hq1
  have hq3 : r2 (sy_rd k2) (sy_rd k2) := r2_fr (st_b_of ⟨k2, hH2, rfl⟩) (fun a k ha _ => by rw [s2]; exact dr_R_tear _ a k (dz_R_tear k (by omega))) (fun _ _ _ => rfl) (fun _ => rfl) (fun _ => rfl) (fun _ _ => rfl) hq2
  have hz2 : r3 (sy_rd k1) (sy_rd k2) := by
    have c := r3_tear (dc_C_tear (sy_rd h)).1 (sy_rd k1)
    rw [← s1, ← s2] at c
    exact c
  have hz3 : r3 (sy_rd k2) (sy_rd k2) := r3_fr (fun k => by rw [s2]; exact dr_R_tear _ 218 k rfl) (fun k => by rw [s2]; exact dr_R_tear _ 219 k rfl) (fun k => by rw [s2]; exact dr_R_tear _ 220 k rfl) (fun k => by rw [s2]; exact dr_R_tear _ 222 k rfl) (fun k => by rw [s2]; exact dr_R_tear _ 223 k rfl) (fun _ => rfl) (fun _ => rfl) (fun _ => rfl) (fun _ => rfl) (fun _ => rfl) rfl rfl rfl hz2
  have g2 : go_I k2 := ⟨hH2, by rw [s2]; exact gv_tear hg1, by rw [s2, s1]; exact (r1_tear hr).2, hq3, hz3⟩
  obtain ⟨y1, z1, -⟩ := hH.cell (a := 0) (tag := 9) rfl
  obtain ⟨y2, z2, -⟩ := hH1.cell (a := 234) (tag := 10) rfl
  exact ⟨_, _, k1, k2, ⟨y1, z1⟩, ⟨y2, z2⟩, e1, e2, g2⟩
set_option maxRecDepth 100000 in
theorem go_seed (x1 : Int32) {h : mj_H} (hI : go_I h) : ∃ (r1 r2 : Int32) (h1 h2 : mj_H), (∃ ys, h[0]? = some (9, ys)) ∧ (∃ ys, h1[234]? = some (10, ys)) ∧ mj_runs (mj_m_118, 0, [(0, .ref 0), (1, .int x1)], [], h) (some (.int r1)) h1 ∧ mj_runs (mj_m_187, 0, [(0, .ref 234), (1, .int x1)], [], h1) (some (.int r2)) h2 ∧ go_I h2 := by
  obtain ⟨hH, hg, hr, hq, hz⟩ := hI
  have sh : sv (sy_rd h) := ⟨h, hH, rfl⟩
  obtain ⟨c1, k1, e1, Q1⟩ := dt_C_seed hH (a1 := x1.toInt) (sy_lo (x := x1)).1 (sy_lo (x := x1)).2
  obtain ⟨hH1, s1, rfl, -, -⟩ := Q1
  have hg1 : gv_R (sy_rd k1) := by rw [s1]; exact gv_RK hg ⟨dr_C_seed _ _ 234 6 rfl, dr_C_seed _ _ 234 2 rfl, fun i => dr_C_seed _ _ 236 i rfl, fun q _ => dr_C_seed _ _ 235 _ rfl⟩
  have hr1 : r1 (sy_rd k1) := by rw [s1]; exact r1_K (dw := dw_C_seed) (fun a k q => dr_C_seed _ _ a k q) rfl rfl (fun _ => rfl) (fun _ => rfl) hr
  have sk : sv (sy_rd k1) := ⟨k1, hH1, rfl⟩
  have hq1 : r2 (sy_rd h) (sy_rd k1) := r2_fr (st_b_of sh) (fun _ _ _ _ => rfl) (fun k _ _ => by rw [s1]; exact dr_C_seed _ _ 234 k rfl) (fun k => by rw [s1]; exact dr_C_seed _ _ 236 k rfl) (fun k => by rw [s1]; exact dr_C_seed _ _ 237 k rfl) (fun k _ => by rw [s1]; exact dr_C_seed _ _ 235 k rfl) hq
  have hz1 : r3 (sy_rd h) (sy_rd k1) := r3_fr (fun _ => rfl) (fun _ => rfl) (fun _ => rfl) (fun _ => rfl) (fun _ => rfl) (fun k => by rw [s1]; exact dr_C_seed _ _ 249 k rfl) (fun k => by rw [s1]; exact dr_C_seed _ _ 250 k rfl) (fun k => by rw [s1]; exact dr_C_seed _ _ 251 k rfl) (fun k => by rw [s1]; exact dr_C_seed _ _ 252 k rfl) (fun k => by rw [s1]; exact dr_C_seed _ _ 253 k rfl) (by rw [s1]; exact dr_C_seed _ _ 234 31 rfl) (by rw [s1]; exact dr_C_seed _ _ 234 35 rfl) (by rw [s1]; exact dr_C_seed _ _ 234 6 rfl) hz
  obtain ⟨c2, k2, e2, Q2⟩ := dt_R_seed hH1 (a1 := x1.toInt) (sy_lo (x := x1)).1 (sy_lo (x := x1)).2
  obtain ⟨hH2, s2, rfl, -, -⟩ := Q2
  have hq2 : r2 (sy_rd k1) (sy_rd k2) := by
    have c := (r2_seed sk hq1 x1.toInt).2
    rw [← s1, ← s2] at c
    exact c
  have hq3 : r2 (sy_rd k2) (sy_rd k2) := r2_fr (st_b_of ⟨k2, hH2, rfl⟩) (fun a k ha _ => by rw [s2]; exact dr_R_seed _ _ a k (dz_R_seed k (by omega))) (fun _ _ _ => rfl) (fun _ => rfl) (fun _ => rfl) (fun _ _ => rfl) hq2
  have hz2 : r3 (sy_rd k1) (sy_rd k2) := r3_fr (fun k => by rw [s1]; exact dr_C_seed _ _ 218 k rfl) (fun k => by rw [s1]; exact dr_C_seed _ _ 219 k rfl) (fun k => by rw [s1]; exact dr_C_seed _ _ 220 k rfl) (fun k => by rw [s1]; exact dr_C_seed _ _ 222 k rfl) (fun k => by rw [s1]; exact dr_C_seed _ _ 223 k rfl) (fun k => by rw [s2]; exact dr_R_seed _ _ 249 k rfl) (fun k => by rw [s2]; exact dr_R_seed _ _ 250 k rfl) (fun k => by rw [s2]; exact dr_R_seed _ _ 251 k rfl) (fun k => by rw [s2]; exact dr_R_seed _ _ 252 k rfl) (fun k => by rw [s2]; exact dr_R_seed _ _ 253 k rfl) (by rw [s2]; exact dr_R_seed _ _ 234 31 rfl) (by rw [s2]; exact dr_R_seed _ _ 234 35 rfl) (by rw [s2]; exact dr_R_seed _ _ 234 6 rfl) hz1
  have hz3 : r3 (sy_rd k2) (sy_rd k2) := r3_fr (fun k => by rw [s2]; exact dr_R_seed _ _ 218 k rfl) (fun k => by rw [s2]; exact dr_R_seed _ _ 219 k rfl) (fun k => by rw [s2]; exact dr_R_seed _ _ 220 k rfl) (fun k => by rw [s2]; exact dr_R_seed _ _ 222 k rfl) (fun k => by rw [s2]; exact dr_R_seed _ _ 223 k rfl) (fun _ => rfl) (fun _ => rfl) (fun _ => rfl) (fun _ => rfl) (fun _ => rfl) rfl rfl rfl hz2
  have g2 : go_I k2 := ⟨hH2, by rw [s2]; exact gv_seed hg1 _, by rw [s2]; exact r1_K (dw := dw_R_seed) (fun a k q => dr_R_seed _ _ a k q) rfl rfl (fun _ => rfl) (fun _ => rfl) hr1, hq3, hz3⟩
  simp only [sy_of] at e1 e2
  obtain ⟨y1, z1, -⟩ := hH.cell (a := 0) (tag := 9) rfl
  obtain ⟨y2, z2, -⟩ := hH1.cell (a := 234) (tag := 10) rfl
  exact ⟨_, _, k1, k2, ⟨y1, z1⟩, ⟨y2, z2⟩, e1, e2, g2⟩
set_option maxRecDepth 100000 in
theorem go_keep (x1 : Int32) {h : mj_H} (hI : go_I h) : ∃ (r1 r2 : Int32) (h1 h2 : mj_H), (∃ ys, h[0]? = some (9, ys)) ∧ (∃ ys, h1[234]? = some (10, ys)) ∧ mj_runs (mj_m_119, 0, [(0, .ref 0), (1, .int x1)], [], h) (some (.int r1)) h1 ∧ mj_runs (mj_m_188, 0, [(0, .ref 234), (1, .int x1)], [], h1) (some (.int r2)) h2 ∧ go_I h2 := by
  obtain ⟨hH, hg, hr, hq, hz⟩ := hI
  have sh : sv (sy_rd h) := ⟨h, hH, rfl⟩
  obtain ⟨c1, k1, e1, Q1⟩ := dt_C_keep hH (a1 := x1.toInt) (sy_lo (x := x1)).1 (sy_lo (x := x1)).2
  obtain ⟨hH1, s1, rfl, -, -⟩ := Q1
  have hg1 : gv_R (sy_rd k1) := by rw [s1]; exact gv_RK hg ⟨dr_C_keep _ _ 234 6 rfl, dr_C_keep _ _ 234 2 rfl, fun i => dr_C_keep _ _ 236 i rfl, fun q _ => dr_C_keep _ _ 235 _ rfl⟩
  have sk : sv (sy_rd k1) := ⟨k1, hH1, rfl⟩
  have hq1 : r2 (sy_rd h) (sy_rd k1) := r2_fr (st_b_of sh) (fun _ _ _ _ => rfl) (fun k _ _ => by rw [s1]; exact dr_Ck _ _ 234 k rfl) (fun k => by rw [s1]; exact dr_Ck _ _ 236 k rfl) (fun k => by rw [s1]; exact dr_Ck _ _ 237 k rfl) (fun k _ => by rw [s1]; exact dr_Ck _ _ 235 k rfl) hq
  have hz1 : r3 (sy_rd h) (sy_rd k1) := r3_fr (fun _ => rfl) (fun _ => rfl) (fun _ => rfl) (fun _ => rfl) (fun _ => rfl) (fun k => by rw [s1]; exact dr_Ck _ _ 249 k rfl) (fun k => by rw [s1]; exact dr_Ck _ _ 250 k rfl) (fun k => by rw [s1]; exact dr_Ck _ _ 251 k rfl) (fun k => by rw [s1]; exact dr_Ck _ _ 252 k rfl) (fun k => by rw [s1]; exact dr_Ck _ _ 253 k rfl) (by rw [s1]; exact dr_Ck _ _ 234 31 rfl) (by rw [s1]; exact dr_Ck _ _ 234 35 rfl) (by rw [s1]; exact dr_Ck _ _ 234 6 rfl) hz
  obtain ⟨c2, k2, e2, Q2⟩ := dt_R_keep hH1 (a1 := x1.toInt) (sy_lo (x := x1)).1 (sy_lo (x := x1)).2
  obtain ⟨hH2, s2, rfl, -, -⟩ := Q2
  have hq2 : r2 (sy_rd k1) (sy_rd k2) := by
    have c := r2_keep sk hq1 x1.toInt
    rw [← s1, ← s2] at c
    exact c
  have hq3 : r2 (sy_rd k2) (sy_rd k2) := r2_fr (st_b_of ⟨k2, hH2, rfl⟩) (fun a k ha _ => by rw [s2]; exact dr_R_keep _ _ a k (dz_R_keep k (by omega))) (fun _ _ _ => rfl) (fun _ => rfl) (fun _ => rfl) (fun _ _ => rfl) hq2
  have hz2 : r3 (sy_rd k1) (sy_rd k2) := r3_fr (fun k => by rw [s1]; exact dr_Ck _ _ 218 k rfl) (fun k => by rw [s1]; exact dr_Ck _ _ 219 k rfl) (fun k => by rw [s1]; exact dr_Ck _ _ 220 k rfl) (fun k => by rw [s1]; exact dr_Ck _ _ 222 k rfl) (fun k => by rw [s1]; exact dr_Ck _ _ 223 k rfl) (fun k => by rw [s2]; exact dr_R_keep _ _ 249 k rfl) (fun k => by rw [s2]; exact dr_R_keep _ _ 250 k rfl) (fun k => by rw [s2]; exact dr_R_keep _ _ 251 k rfl) (fun k => by rw [s2]; exact dr_R_keep _ _ 252 k rfl) (fun k => by rw [s2]; exact dr_R_keep _ _ 253 k rfl) (by rw [s2]; exact dr_R_keep _ _ 234 31 rfl) (by rw [s2]; exact dr_R_keep _ _ 234 35 rfl) (by rw [s2]; exact dr_R_keep _ _ 234 6 rfl) hz1
  have hz3 : r3 (sy_rd k2) (sy_rd k2) := r3_fr (fun k => by rw [s2]; exact dr_R_keep _ _ 218 k rfl) (fun k => by rw [s2]; exact dr_R_keep _ _ 219 k rfl) (fun k => by rw [s2]; exact dr_R_keep _ _ 220 k rfl) (fun k => by rw [s2]; exact dr_R_keep _ _ 222 k rfl) (fun k => by rw [s2]; exact dr_R_keep _ _ 223 k rfl) (fun _ => rfl) (fun _ => rfl) (fun _ => rfl) (fun _ => rfl) (fun _ => rfl) rfl rfl rfl hz2
  have g2 : go_I k2 := ⟨hH2, by rw [s2]; exact gv_keep hg1 _, by rw [s2, s1]; exact r1_keep hr _, hq3, hz3⟩
  simp only [sy_of] at e1 e2
  obtain ⟨y1, z1, -⟩ := hH.cell (a := 0) (tag := 9) rfl
  obtain ⟨y2, z2, -⟩ := hH1.cell (a := 234) (tag := 10) rfl
  exact ⟨_, _, k1, k2, ⟨y1, z1⟩, ⟨y2, z2⟩, e1, e2, g2⟩
set_option maxRecDepth 100000 in
theorem go_goBack (x1 : Int32) {h : mj_H} (hI : go_I h) : ∃ (r1 r2 : Int32) (h1 h2 : mj_H), (∃ ys, h[0]? = some (9, ys)) ∧ (∃ ys, h1[234]? = some (10, ys)) ∧ mj_runs (mj_m_121, 0, [(0, .ref 0), (1, .int x1)], [], h) (some (.int r1)) h1 ∧ mj_runs (mj_m_189, 0, [(0, .ref 234), (1, .int x1)], [], h1) (some (.int r2)) h2 ∧ go_I h2 ∧ r1 = r2 := by
  obtain ⟨hH, hg, hr, hq, hz⟩ := hI
  have sh : sv (sy_rd h) := ⟨h, hH, rfl⟩
  obtain ⟨c1, k1, e1, Q1⟩ := dt_C_goBack hH (a1 := x1.toInt) (sy_lo (x := x1)).1 (sy_lo (x := x1)).2
  obtain ⟨hH1, s1, rfl, -, -⟩ := Q1
  have hg1 : gv_R (sy_rd k1) := by rw [s1]; exact gv_RK hg ⟨dr_C_goBack _ _ 234 6 rfl, dr_C_goBack _ _ 234 2 rfl, fun i => dr_C_goBack _ _ 236 i rfl, fun q _ => dr_C_goBack _ _ 235 _ rfl⟩
  have hr1 : r1 (sy_rd k1) := by rw [s1]; exact r1_K (dw := dw_C_goBack) (fun a k q => dr_C_goBack _ _ a k q) rfl rfl (fun _ => rfl) (fun _ => rfl) hr
  have sk : sv (sy_rd k1) := ⟨k1, hH1, rfl⟩
  have hq1 : r2 (sy_rd h) (sy_rd k1) := r2_fr (st_b_of sh) (fun _ _ _ _ => rfl) (fun k _ _ => by rw [s1]; exact dr_C_goBack _ _ 234 k rfl) (fun k => by rw [s1]; exact dr_C_goBack _ _ 236 k rfl) (fun k => by rw [s1]; exact dr_C_goBack _ _ 237 k rfl) (fun k _ => by rw [s1]; exact dr_C_goBack _ _ 235 k rfl) hq
  have hz1 : r3 (sy_rd h) (sy_rd k1) := r3_fr (fun _ => rfl) (fun _ => rfl) (fun _ => rfl) (fun _ => rfl) (fun _ => rfl) (fun k => by rw [s1]; exact dr_C_goBack _ _ 249 k rfl) (fun k => by rw [s1]; exact dr_C_goBack _ _ 250 k rfl) (fun k => by rw [s1]; exact dr_C_goBack _ _ 251 k rfl) (fun k => by rw [s1]; exact dr_C_goBack _ _ 252 k rfl) (fun k => by rw [s1]; exact dr_C_goBack _ _ 253 k rfl) (by rw [s1]; exact dr_C_goBack _ _ 234 31 rfl) (by rw [s1]; exact dr_C_goBack _ _ 234 35 rfl) (by rw [s1]; exact dr_C_goBack _ _ 234 6 rfl) hz
  obtain ⟨c2, k2, e2, Q2⟩ := dt_R_goBack hH1 (a1 := x1.toInt) (sy_lo (x := x1)).1 (sy_lo (x := x1)).2
  obtain ⟨hH2, s2, rfl, -, -⟩ := Q2
  have hq2 : r2 (sy_rd k1) (sy_rd k2) := by
    have c := r2_goBack sk hq1 (fun i hi => by rw [s1, dr_C_goBack _ _ 236 i rfl]; exact r1_kept hr i hi) x1.toInt
    rw [← s1, ← s2] at c
    exact c
  have hq3 : r2 (sy_rd k2) (sy_rd k2) := r2_fr (st_b_of ⟨k2, hH2, rfl⟩) (fun a k ha _ => by rw [s2]; exact dr_R_goBack _ _ a k (dz_R_goBack k (by omega))) (fun _ _ _ => rfl) (fun _ => rfl) (fun _ => rfl) (fun _ _ => rfl) hq2
  have hz2 : r3 (sy_rd k1) (sy_rd k2) := r3_fr (fun k => by rw [s1]; exact dr_C_goBack _ _ 218 k rfl) (fun k => by rw [s1]; exact dr_C_goBack _ _ 219 k rfl) (fun k => by rw [s1]; exact dr_C_goBack _ _ 220 k rfl) (fun k => by rw [s1]; exact dr_C_goBack _ _ 222 k rfl) (fun k => by rw [s1]; exact dr_C_goBack _ _ 223 k rfl) (fun k => by rw [s2]; exact dr_R_goBack _ _ 249 k rfl) (fun k => by rw [s2]; exact dr_R_goBack _ _ 250 k rfl) (fun k => by rw [s2]; exact dr_R_goBack _ _ 251 k rfl) (fun k => by rw [s2]; exact dr_R_goBack _ _ 252 k rfl) (fun k => by rw [s2]; exact dr_R_goBack _ _ 253 k rfl) (by rw [s2]; exact dr_R_goBack _ _ 234 31 rfl) (by rw [s2]; exact dr_R_goBack _ _ 234 35 rfl) (by rw [s2]; exact dr_R_goBack _ _ 234 6 rfl) hz1
  have hz3 : r3 (sy_rd k2) (sy_rd k2) := r3_fr (fun k => by rw [s2]; exact dr_R_goBack _ _ 218 k rfl) (fun k => by rw [s2]; exact dr_R_goBack _ _ 219 k rfl) (fun k => by rw [s2]; exact dr_R_goBack _ _ 220 k rfl) (fun k => by rw [s2]; exact dr_R_goBack _ _ 222 k rfl) (fun k => by rw [s2]; exact dr_R_goBack _ _ 223 k rfl) (fun _ => rfl) (fun _ => rfl) (fun _ => rfl) (fun _ => rfl) (fun _ => rfl) rfl rfl rfl hz2
  have g2 : go_I k2 := ⟨hH2, by rw [s2]; exact gv_goBack hg1 _, by rw [s2]; exact r1_K (dw := dw_R_goBack) (fun a k q => dr_R_goBack _ _ a k q) rfl rfl (fun _ => rfl) (fun _ => rfl) hr1, hq3, hz3⟩
  simp only [sy_of] at e1 e2
  obtain ⟨y1, z1, -⟩ := hH.cell (a := 0) (tag := 9) rfl
  obtain ⟨y2, z2, -⟩ := hH1.cell (a := 234) (tag := 10) rfl
  exact ⟨_, _, k1, k2, ⟨y1, z1⟩, ⟨y2, z2⟩, e1, e2, g2, congrArg Int32.ofInt (by rw [s1]; exact r1_goBack hr _)⟩
