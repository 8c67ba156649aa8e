/-! THE REFERENCE'S WAY, a level above another -/
def tr_F (t0 : sg_S) (S : Int) (W r n : Nat) (d : Nat → Int) : Nat → Int := fun z => tr_mR t0 S d z + tr_V W (tr_G t0 S) (tr_mR t0 S) tr_nR r (n + 1) (tr_nR d z)
def tr_X (t0 : sg_S) (S : Int) (W r n M : Nat) (d p g0 : Nat → Int) (b c : Int) (w : Nat) (s : sg_S) : Prop := (c + tr_min (tr_F t0 S W r n d) (tr_G t0 S n) w < b → ∀ j, j < M → s 245 j = if j < n then p j else if j = n then (tr_arg (tr_F t0 S W r n d) (tr_G t0 S n) w : Int) else (tr_Q W (tr_G t0 S) (tr_mR t0 S) tr_nR r (n + 1) (tr_nR d (tr_arg (tr_F t0 S W r n d) (tr_G t0 S n) w)) j : Int)) ∧ (¬ c + tr_min (tr_F t0 S W r n d) (tr_G t0 S n) w < b → ∀ j, j < M → s 245 j = g0 j)
theorem tr_m0 {t0 : sg_S} {S : Int} (hp : ∀ z, 0 ≤ t0 237 z) (d : Nat → Int) (z : Nat) : 0 ≤ tr_mR t0 S d z := by
  unfold tr_mR
  by_cases c : tr_of t0 S z ≤ d z
  · rw [if_pos c]; exact hp z
  · rw [if_neg c]; exact Int.le_refl _
theorem tr_in {t0 : sg_S} {S : Int} {W M r : Nat} (hM : M ≤ 9) (hW : t0 234 7 = (W : Int)) (W5 : W ≤ 5) (hp : ∀ z, 0 ≤ t0 237 z) (hp9 : ∀ z, z < 5 → t0 237 z ≤ 99) (ih : tr_L t0 S W M r) {n : Nat} (hn : n + (r + 1) = M) {b c : Int} (hb : b ≤ 1000000) {d : Nat → Int} (hdb : ∀ z, z < 5 → 0 ≤ d z ∧ d z ≤ (n : Int)) (p g0 cs : Nat → Int) (hcs : cs n = c) (q : Nat) : ∀ (w m : Nat) (s : sg_S) (l : Int), w + q = W → q < m → tr_E t0 s → ft_I s (n : Int) → -1 ≤ s 244 n → s 244 n < (w : Int) → s 244 n ≤ 4 → (∀ z, z < 5 → s 247 z = d z) → (∀ j, j < n → s 244 j = p j) → (∀ j, j ≤ n → s 246 j = cs j) → l = min b (c + tr_min (tr_F t0 S W r n d) (tr_G t0 S n) w) → tr_X t0 S W r n M d p g0 b c w s → ∃ (s' : sg_S) (k : Nat), k + 1 + ft_M s' ((n : Int) + (-1)) ≤ ft_M s (n : Int) ∧ (∀ f, dc_R_findTrade_113 (dc_R_findTrade_43 (f + k)) m s S (M : Int) l (n : Int) (w : Int) = dc_R_findTrade_43 f s' S (M : Int) (min b (c + tr_min (tr_F t0 S W r n d) (tr_G t0 S n) W)) ((n : Int) + (-1))) ∧ tr_E t0 s' ∧ (∀ j, j < n → s' 244 j = p j) ∧ (∀ j, j ≤ n → s' 246 j = cs j) ∧ (1 ≤ n → ∀ z, z < 5 → s' 247 z = if (z : Int) = p (n - 1) then d z - 1 else d z) ∧ tr_X t0 S W r n M d p g0 b c W s' := by
  induction q with
  | zero =>
    intro w m s l hw hm hE hI g1 g2 g4 hd hpj hcj hl hX
    have ew : w = W := by omega
    rw [ew] at hl hX ⊢
    cases m with
    | zero => exact absurd hm (by omega)
    | succ m =>
      obtain ⟨q1, q2, q3, q4⟩ := tr_back (by omega) hE hI g4 hd (fun z hz => by have := hdb z hz; omega)
      refine ⟨tr_rs s (n : Int), 0, by omega, fun f => ?_, q2, fun j hj => (q3 244 j (by decide)).trans (hpj j hj), fun j hj => (q3 246 j (by decide)).trans (hcj j hj), fun h1 z hz => ?_, ?_⟩
      · rw [tr_113r _ _ _ _ _ _ _ _ (Or.inr (by rw [hE.1 7, hW]; exact Int.le_refl _)), ← hl]
        rfl
      · rw [q4 h1 z hz, hpj (n - 1) (by omega)]
      · unfold tr_X at hX ⊢
        exact ⟨fun h j hj => (q3 245 j (by decide)).trans (hX.1 h j hj), fun h j hj => (q3 245 j (by decide)).trans (hX.2 h j hj)⟩
  | succ q ihq =>
    intro w m s l hw hm hE hI g1 g2 g4 hd hpj hcj hl hX
    cases m with
    | zero => exact absurd hm (by omega)
    | succ m =>
      have em := tr_mo hE S (z := w) (hd w (by omega))
      have en : s 246 n = c := (hcj n (Nat.le_refl _)).trans hcs
      have V0 := tr_V0 (W := W) (G := tr_G t0 S) (mo := tr_mR t0 S) (nx := tr_nR) (tr_m0 hp) r (n + 1) (tr_nR d w)
      have eF : tr_F t0 S W r n d w = tr_mR t0 S d w + tr_V W (tr_G t0 S) (tr_mR t0 S) tr_nR r (n + 1) (tr_nR d w) := rfl
      have h1 : ¬ (M : Int) ≤ (n : Int) := by omega
      have h2 : ¬ s 234 7 ≤ (w : Int) := by rw [hE.1 7, hW]; omega
      have stay : ∀ s1 : sg_S, (∀ j, s1 245 j = s 245 j) → (tr_G t0 S n w = true → l ≤ c + tr_F t0 S W r n d w) → l = min b (c + tr_min (tr_F t0 S W r n d) (tr_G t0 S n) (w + 1)) ∧ tr_X t0 S W r n M d p g0 b c (w + 1) s1 := fun s1 e1 hs => by
        obtain ⟨t1, t2, t3⟩ := tr_stay hl hs
        refine ⟨t1, ?_⟩
        unfold tr_X at hX ⊢
        refine ⟨fun h j hj => ?_, fun h j hj => ?_⟩
        · rw [e1, t3 (t2.mp h)]
          exact hX.1 (t2.mp h) j hj
        · rw [e1]
          exact hX.2 (fun k => h (t2.mpr k)) j hj
      by_cases ok : tr_G t0 S n w = true ∧ c + tr_mR t0 S d w < l
      · obtain ⟨o1, o2⟩ := ok
        have o1' : (w : Int) ≠ S ∧ dc_R_isKnown t0 (w : Int) (t0 243 n) ≠ 0 := by
          unfold tr_G at o1
          rw [Bool.and_eq_true, decide_eq_true_eq, decide_eq_true_eq] at o1
          exact o1
        have mo0 := tr_m0 (S := S) hp d w
        have mo9 : tr_mR t0 S d w ≤ 99 := by
          unfold tr_mR
          by_cases k : tr_of t0 S w ≤ d w
          · rw [if_pos k]; exact hp9 w (by omega)
          · rw [if_neg k]; decide
        have cb := hI.2 n (Int.le_refl _)
        rw [en] at cb
        have adv := ft_adv (s := s) (n := (n : Int)) (z := (w : Int)) (c := s 246 n + dc_R_moreOf s S (w : Int)) (v := sy_w (s 247 w + 1)) (k := w) hI (by omega) (by omega) (by rw [Int.toNat_natCast]; exact g1) (by rw [Int.toNat_natCast]; exact g4) (by rw [Int.toNat_natCast]; exact g2) (by omega) (by omega) (by rw [en, em]; omega) (by rw [en, em]; omega)
        have eA : tr_as s S (n : Int) (w : Int) = sg_up (sg_up (sg_up (sg_up s 246 ((n : Int) + 1).toNat (s 246 n + dc_R_moreOf s S (w : Int))) 247 w (sy_w (s 247 w + 1))) 244 (n : Int).toNat (w : Int)) 244 ((n : Int) + 1).toNat (-1) := by
          unfold tr_as
          rw [Int.toNat_natCast, Int.toNat_natCast]
        rw [← eA] at adv
        have n1 : ((n : Int) + 1) = ((n + 1 : Nat) : Int) := by omega
        have n1' : ((n : Int) + 1).toNat = n + 1 := by omega
        have a244 : ∀ j, tr_as s S (n : Int) (w : Int) 244 j = if j = n + 1 then -1 else if j = n then (w : Int) else s 244 j := fun j => by
          rw [eA, n1', Int.toNat_natCast]
          by_cases k : j = n + 1
          · rw [if_pos k, k, sg_eq]
          · rw [if_neg k, sg_nk k]
            by_cases k2 : j = n
            · rw [if_pos k2, k2, sg_eq]
            · rw [if_neg k2, sg_nk k2, sg_na (by decide), sg_na (by decide)]
        have a246 : ∀ j, tr_as s S (n : Int) (w : Int) 246 j = if j = n + 1 then c + tr_mR t0 S d w else s 246 j := fun j => by
          rw [eA, n1', sg_na (by decide), sg_na (by decide), sg_na (by decide)]
          by_cases k : j = n + 1
          · rw [if_pos k, k, sg_eq, en, em]
          · rw [if_neg k, sg_nk k]
        have a247 : ∀ z, z < 5 → tr_as s S (n : Int) (w : Int) 247 z = tr_nR d w z := fun z hz => by
          rw [eA, sg_na (by decide), sg_na (by decide)]
          unfold tr_nR
          have := hdb z hz
          by_cases k : z = w
          · subst k
            rw [if_pos rfl, sg_eq, hd z hz]
            exact sy_w_id ⟨by omega, by omega⟩
          · rw [if_neg k, sg_nk k, sg_na (by decide)]
            exact hd z hz
        have a245 : ∀ j, tr_as s S (n : Int) (w : Int) 245 j = s 245 j := fun j => by
          rw [eA, sg_na (by decide), sg_na (by decide), sg_na (by decide), sg_na (by decide)]
        have aE : tr_E t0 (tr_as s S (n : Int) (w : Int)) := by
          rw [eA]
          exact tr_Eu (tr_Eu (tr_Eu (tr_Eu hE (by decide)) (by decide)) (by decide)) (by decide)
        obtain ⟨sA, hA⟩ : ∃ x, x = tr_as s S (n : Int) (w : Int) := ⟨_, rfl⟩
        rw [← hA, n1] at adv
        rw [← hA] at a244 a246 a247 a245 aE
        obtain ⟨sB, k1, b1, b2, b3, b4, b5, b6, b7⟩ := ih (n + 1) sA l (tr_nR d w) (by omega) aE adv.2 (by rw [a244, if_pos rfl]) (by omega) a247 (fun z hz => by
          have := hdb z hz
          unfold tr_nR
          by_cases k : z = w
          · rw [if_pos k]; omega
          · rw [if_neg k]; omega)
        have n2 : ((n + 1 : Nat) : Int) + (-1) = (n : Int) := by omega
        have eV : sA 246 (n + 1) + tr_V W (tr_G t0 S) (tr_mR t0 S) tr_nR r (n + 1) (tr_nR d w) = c + tr_F t0 S W r n d w := by
          rw [a246, if_pos rfl, eF]
          omega
        rw [n2] at b1
        rw [n2, eV] at b2
        have B244 : ∀ j, j < n → sB 244 j = p j := fun j hj => by
          rw [b4 j (by omega), a244, if_neg (by omega), if_neg (by omega)]
          exact hpj j hj
        have B244n : sB 244 n = (w : Int) := by rw [b4 n (by omega), a244, if_neg (by omega), if_pos rfl]
        have B246 : ∀ j, j ≤ n → sB 246 j = cs j := fun j hj => by
          rw [b5 j (by omega), a246, if_neg (by omega)]
          exact hcj j hj
        have B247 : ∀ z, z < 5 → sB 247 z = d z := fun z hz => by
          have eg : sA 244 n = (w : Int) := by rw [a244, if_neg (show ¬ n = n + 1 by omega), if_pos rfl]
          rw [b6 (by omega) z hz, show n + 1 - 1 = n by omega, eg]
          unfold tr_nR
          by_cases k : z = w
          · rw [if_pos (by omega), if_pos k]; omega
          · rw [if_neg (by omega), if_neg k]
        have BI : ft_I sB (n : Int) := ⟨fun j hj => by
            rw [B244 j (by omega), ← hpj j (by omega)]
            exact hI.1 j hj, fun j hj => by
            rw [B246 j (by omega), ← hcj j (by omega)]
            exact hI.2 j hj⟩
        unfold tr_fin at b7
        rw [eV] at b7
        have nxt : min l (c + tr_F t0 S W r n d w) = min b (c + tr_min (tr_F t0 S W r n d) (tr_G t0 S n) (w + 1)) ∧ tr_X t0 S W r n M d p g0 b c (w + 1) sB := by
          by_cases hit : c + tr_F t0 S W r n d w < l
          · obtain ⟨t1, t2, t3⟩ := tr_hit hl o1 hit
            refine ⟨by rw [t1]; omega, ?_⟩
            unfold tr_X
            rw [t1, t2]
            refine ⟨fun _ j hj => ?_, fun h => absurd t3 h⟩
            rw [b7.1 hit j hj]
            by_cases k : j < n
            · rw [if_pos (by omega), if_pos k, a244, if_neg (by omega), if_neg (by omega)]
              exact hpj j k
            · rw [if_neg k]
              by_cases k2 : j = n
              · rw [if_pos (by omega), if_pos k2, a244, if_neg (by omega), if_pos k2]
              · rw [if_neg (by omega), if_neg k2]
          · obtain ⟨t1, t2⟩ := stay sA a245 (fun _ => by omega)
            refine ⟨by rw [← t1]; omega, ?_⟩
            unfold tr_X at t2 ⊢
            exact ⟨fun h j hj => (b7.2 hit j hj).trans (t2.1 h j hj), fun h j hj => (b7.2 hit j hj).trans (t2.2 h j hj)⟩
        obtain ⟨s', k2, c1, c2, c3, c4, c5, c6, c7⟩ := ihq (w + 1) 6 sB (min l (c + tr_F t0 S W r n d w)) (by omega) (by omega) b3 BI (by rw [B244n]; omega) (by rw [B244n]; omega) (by rw [B244n]; omega) B247 B244 B246 nxt.1 nxt.2
        refine ⟨s', k2 + 1 + k1, by omega, fun f => ?_, c3, c4, c5, c6, c7⟩
        rw [tr_113a _ _ _ _ _ _ _ _ h1 h2 o1'.1 (by rw [Int.toNat_natCast, hE.2.2.2, tr_kn hE]; exact o1'.2) (by rw [Int.toNat_natCast, en, em]; exact o2), ← hA, n1, show f + (k2 + 1 + k1) = (f + k2 + 1) + k1 by omega, b2, tr_43 _ _ _ _ _ _ (by omega), B244n, show ((w : Int) + 1) = ((w + 1 : Nat) : Int) by omega]
        exact c2 f
      · have sk : (w : Int) = S ∨ dc_R_isKnown s (w : Int) (s 243 (n : Int).toNat) = 0 ∨ l ≤ s 246 (n : Int).toNat + dc_R_moreOf s S (w : Int) := by
          rw [Int.toNat_natCast, hE.2.2.2, tr_kn hE, en, em]
          by_cases k : (w : Int) = S
          · exact Or.inl k
          · by_cases k2 : dc_R_isKnown t0 (w : Int) (t0 243 n) = 0
            · exact Or.inr (Or.inl k2)
            · refine Or.inr (Or.inr ?_)
              have : ¬ c + tr_mR t0 S d w < l := fun k3 => ok ⟨by
                unfold tr_G
                rw [Bool.and_eq_true, decide_eq_true_eq, decide_eq_true_eq]
                exact ⟨k, k2⟩, k3⟩
              omega
        obtain ⟨t1, t2⟩ := stay s (fun _ => rfl) (fun hg => by
          have : ¬ c + tr_mR t0 S d w < l := fun k3 => ok ⟨hg, k3⟩
          omega)
        obtain ⟨s', k2, c1, c2, c3, c4, c5, c6, c7⟩ := ihq (w + 1) m s l (by omega) (by omega) hE hI g1 (by omega) g4 hd hpj hcj t1 t2
        refine ⟨s', k2, c1, fun f => ?_, c3, c4, c5, c6, c7⟩
        rw [tr_113s _ _ _ _ _ _ _ _ h1 h2 sk, show ((w : Int) + 1) = ((w + 1 : Nat) : Int) by omega]
        exact c2 f
theorem tr_LS {t0 : sg_S} {S : Int} {W M r : Nat} (hM : M ≤ 9) (hW : t0 234 7 = (W : Int)) (W5 : W ≤ 5) (hp : ∀ z, 0 ≤ t0 237 z) (hp9 : ∀ z, z < 5 → t0 237 z ≤ 99) (ih : tr_L t0 S W M r) : tr_L t0 S W M (r + 1) := by
  intro n s b d hn hE hI hg hb hd hdb
  have c0 := hI.2 n (Int.le_refl _)
  have m0 : tr_min (tr_F t0 S W r n d) (tr_G t0 S n) 0 = 1000000 := rfl
  obtain ⟨s', k, c1, c2, c3, c4, c5, c6, c7⟩ := tr_in hM hW W5 hp hp9 ih hn (b := b) (c := s 246 n) hb hdb (fun j => s 244 j) (fun j => s 245 j) (fun j => s 246 j) rfl W 0 6 s b (by omega) (by omega) hE hI (by omega) (by omega) (by omega) hd (fun _ _ => rfl) (fun _ _ => rfl) (by rw [m0]; omega) (by
    unfold tr_X
    rw [m0]
    exact ⟨fun h => absurd h (by omega), fun _ j _ => rfl⟩)
  have eV : tr_V W (tr_G t0 S) (tr_mR t0 S) tr_nR (r + 1) n d = tr_min (tr_F t0 S W r n d) (tr_G t0 S n) W := rfl
  refine ⟨s', k + 1, by omega, fun f => ?_, c3, c4, c5, c6, ?_⟩
  · rw [show f + (k + 1) = (f + k) + 1 by omega, tr_43 _ _ _ _ _ _ (by omega), hg, eV]
    exact c2 f
  · unfold tr_fin
    unfold tr_X at c7
    rw [eV]
    refine ⟨fun h j hj => ?_, c7.2⟩
    rw [c7.1 h j hj, tr_Q_s]
    by_cases q : j < n
    · rw [if_pos q, if_pos q]
    · rw [if_neg q, if_neg q]
      by_cases q2 : j = n
      · rw [if_pos q2, if_pos q2]; rfl
      · rw [if_neg q2, if_neg q2]; rfl
theorem tr_Lr {t0 : sg_S} {S : Int} {W M : Nat} (hM : M ≤ 9) (hW : t0 234 7 = (W : Int)) (W5 : W ≤ 5) (hp : ∀ z, 0 ≤ t0 237 z) (hp9 : ∀ z, z < 5 → t0 237 z ≤ 99) (r : Nat) : tr_L t0 S W M r := by
  induction r with
  | zero => exact tr_L0 hM
  | succ r ih => exact tr_LS hM hW W5 hp hp9 ih
theorem tr_9 (l1 l2 l3 l4 : Int) (n : Nat) : ∀ (s : sg_S) (i : Nat), i ≤ 5 → 5 - i < n → (∀ z, z < i → s 247 z = 0) → ∃ s', dc_R_findTrade_9 n s l1 l2 l3 l4 (i : Int) = dc_R_findTrade_43 3990767617 (sg_up (sg_up s' 246 0 0) 244 0 (-1)) l1 l2 l3 l4 ∧ (∀ c k, c ≠ 247 → s' c k = s c k) ∧ (∀ z, z < 5 → s' 247 z = 0) := by
  induction n with
  | zero => intro s i _ hn; exact absurd hn (by omega)
  | succ n ih =>
    intro s i hi hn hz
    rw [dc_R_findTrade_9_s]
    by_cases c : 5 ≤ (i : Int)
    · rw [if_pos c]
      exact ⟨s, rfl, fun _ _ _ => rfl, fun z h => hz z (by omega)⟩
    · rw [if_neg c, Int.toNat_natCast, show ((i : Int) + 1) = ((i + 1 : Nat) : Int) by omega]
      obtain ⟨s', r1, r2, r3⟩ := ih (sg_up s 247 i 0) (i + 1) (by omega) (by omega) (fun z h => by
        by_cases q : z = i
        · rw [q, sg_eq]
        · rw [sg_nk q]; exact hz z (by omega))
      exact ⟨s', r1, fun c k hc => by rw [r2 c k hc, sg_na hc], r3⟩
/-- what the reference finds -/
theorem tr_find {t0 : sg_S} {S : Int} {W M : Nat} (hM : M ≤ 9) (hW : t0 234 7 = (W : Int)) (W5 : W ≤ 5) (hp : ∀ z, 0 ≤ t0 237 z) (hp9 : ∀ z, z < 5 → t0 237 z ≤ 99) : ∃ s', dc_R_findTrade t0 S (M : Int) = (s', min 1000000 (tr_V W (tr_G t0 S) (tr_mR t0 S) tr_nR M 0 (fun _ => 0))) ∧ tr_E t0 s' ∧ (tr_V W (tr_G t0 S) (tr_mR t0 S) tr_nR M 0 (fun _ => 0) < 1000000 → ∀ j, j < M → s' 245 j = (tr_Q W (tr_G t0 S) (tr_mR t0 S) tr_nR M 0 (fun _ => 0) j : Int)) := by
  obtain ⟨s1, r1, r2, r3⟩ := tr_9 S (M : Int) 1000000 0 6 t0 0 (by omega) (by omega) (fun z h => absurd h (by omega))
  have hI := ft_in s1
  have e0 : sg_up (sg_up s1 246 0 0) 244 0 (-1) 246 0 = 0 := by rw [sg_na (by decide), sg_eq]
  have hE : tr_E t0 (sg_up (sg_up s1 246 0 0) 244 0 (-1)) := tr_Eu (tr_Eu ⟨fun k => r2 234 k (by decide), fun k => r2 235 k (by decide), fun k => r2 237 k (by decide), fun k => r2 243 k (by decide)⟩ (by decide)) (by decide)
  obtain ⟨s', k, c1, c2, c3, c4, c5, c6, c7⟩ := tr_Lr hM hW W5 hp hp9 M 0 (sg_up (sg_up s1 246 0 0) 244 0 (-1)) 1000000 (fun _ => 0) (by omega) hE hI.1 (sg_eq _ _ _ _) (by omega) (fun z hz => by rw [sg_na (by decide), sg_na (by decide)]; exact r3 z hz) (fun z _ => by omega)
  have hk : k < 3990767617 := by
    have := hI.2
    have e : ((0 : Nat) : Int) = 0 := rfl
    rw [e] at c1
    omega
  rw [e0, show ((0 : Int) + tr_V W (tr_G t0 S) (tr_mR t0 S) tr_nR M 0 (fun _ => 0)) = tr_V W (tr_G t0 S) (tr_mR t0 S) tr_nR M 0 (fun _ => 0) by omega] at c2
  unfold tr_fin at c7
  rw [e0, show ((0 : Int) + tr_V W (tr_G t0 S) (tr_mR t0 S) tr_nR M 0 (fun _ => 0)) = tr_V W (tr_G t0 S) (tr_mR t0 S) tr_nR M 0 (fun _ => 0) by omega] at c7
  refine ⟨s', ?_, c3, fun h j hj => by rw [c7.1 h j hj, if_neg (by omega)]⟩
  obtain ⟨g, hg⟩ : ∃ g, 3990767617 = g + 1 + k := ⟨3990767617 - k - 1, by omega⟩
  have w := c2 (g + 1)
  rw [← hg] at w
  have w2 : ∀ B, dc_R_findTrade_43 (g + 1) s' S (M : Int) B (((0 : Nat) : Int) + (-1)) = (s', B) := fun B => by
    rw [dc_R_findTrade_43_s, if_pos (by decide)]
  exact r1.trans (w.trans (w2 _))
