/-- the words that stay good at every call -/
def mj_tbl : List Cond := lw_tbl.filter goodWord
def mj_wC (M : mj_M) : Cond := .code M.1 M.2.1 M.2.2.1 M.2.2.2.1
def mj_wI (M : mj_M) : Cond := .initialized M.1.cls
def mj_wK (M : mj_M) : Cond := if M.2.2.2.2.2.2.1 = 0 then .static M.1 else .instanceMethod M.1
def mj_wS (M : mj_M) : Cond := .selects M.1.cls M.1 M.1
theorem mj_places {big : List Cond} (ws : List Cond) (ps : List Nat) (hp : ws = ps.filterMap (fun i => big[i]?)) : ∀ w ∈ ws, w ∈ big := by
  intro w hw
  rw [hp] at hw
  obtain ⟨i, -, hi⟩ := List.mem_filterMap.mp hw
  exact List.mem_of_getElem? hi
set_option maxRecDepth 100000 in
set_option maxHeartbeats 4000000 in
theorem mj_inC_0 : ∀ w ∈ mj_meths_0.map mj_wC, w ∈ lw_tbl := mj_places _ mj_plC_0 rfl
set_option maxRecDepth 100000 in
set_option maxHeartbeats 4000000 in
theorem mj_inC_1 : ∀ w ∈ mj_meths_1.map mj_wC, w ∈ lw_tbl := mj_places _ mj_plC_1 rfl
set_option maxRecDepth 100000 in
set_option maxHeartbeats 4000000 in
theorem mj_inC_2 : ∀ w ∈ mj_meths_2.map mj_wC, w ∈ lw_tbl := mj_places _ mj_plC_2 rfl
set_option maxRecDepth 100000 in
set_option maxHeartbeats 4000000 in
theorem mj_inC_3 : ∀ w ∈ mj_meths_3.map mj_wC, w ∈ lw_tbl := mj_places _ mj_plC_3 rfl
set_option maxRecDepth 100000 in
set_option maxHeartbeats 4000000 in
theorem mj_inC_4 : ∀ w ∈ mj_meths_4.map mj_wC, w ∈ lw_tbl := mj_places _ mj_plC_4 rfl
set_option maxRecDepth 100000 in
set_option maxHeartbeats 4000000 in
theorem mj_inC_5 : ∀ w ∈ mj_meths_5.map mj_wC, w ∈ lw_tbl := mj_places _ mj_plC_5 rfl
set_option maxRecDepth 100000 in
set_option maxHeartbeats 4000000 in
theorem mj_inC_6 : ∀ w ∈ mj_meths_6.map mj_wC, w ∈ lw_tbl := mj_places _ mj_plC_6 rfl
set_option maxRecDepth 100000 in
set_option maxHeartbeats 4000000 in
theorem mj_inC_7 : ∀ w ∈ mj_meths_7.map mj_wC, w ∈ lw_tbl := mj_places _ mj_plC_7 rfl
theorem mj_inC : ∀ w ∈ mj_meths.map mj_wC, w ∈ lw_tbl := by
  intro w hw
  simp only [mj_meths, List.map_append, List.mem_append] at hw
  rcases hw with h | h | h | h | h | h | h | h
  · exact mj_inC_0 w h
  · exact mj_inC_1 w h
  · exact mj_inC_2 w h
  · exact mj_inC_3 w h
  · exact mj_inC_4 w h
  · exact mj_inC_5 w h
  · exact mj_inC_6 w h
  · exact mj_inC_7 w h
set_option maxRecDepth 100000 in
theorem mj_inI : ∀ w ∈ mj_meths.map mj_wI, w ∈ lw_tbl := mj_places _ mj_plI (by decide +kernel)
set_option maxRecDepth 100000 in
theorem mj_inK : ∀ w ∈ mj_meths.map mj_wK, w ∈ lw_tbl := mj_places _ mj_plK (by decide +kernel)
set_option maxRecDepth 100000 in
theorem mj_inS : ∀ w ∈ (mj_meths.filter (fun M => M.2.2.2.2.2.2.1 == 1)).map mj_wS, w ∈ lw_tbl := mj_places _ mj_plS (by decide +kernel)
set_option maxRecDepth 100000 in
/-- what is plain of every method -/
theorem mj_plain : ∀ M ∈ mj_meths, plainFor M.1 = true ∧ mj_names[M.2.2.2.2.1]? = some M.1.cls ∧ M.1.cls ≠ "java/lang/invoke/MethodHandle" ∧ M.1.cls ≠ "java/lang/invoke/VarHandle" ∧ (parseMethodDescriptor M.1.desc).map (fun d => d.parameters.length) = some M.2.2.2.2.2.1 ∧ (M.2.2.2.2.2.2.1 = 2 → M.1.name = "<init>" ∧ M.2.2.2.1 = none) := by decide +kernel
/-- the word that an entry of a pool stands for -/
def mj_word (C : String) (e : mj_E) : Cond :=
  let T : u_T := match vwCl[e.2.2.1]? with
    | some q => q.2.1
    | none => fun _ => ("", "", "", false)
  let y : MethodName := match mj_meths[e.2.2.1]? with
    | some M => M.1
    | none => ⟨"", "", ""⟩
  match e.2.1 with
  | 0 => .fieldLink C e.1 (T e.2.2.2).1 (T e.2.2.2).2.1 (T e.2.2.2).2.2.1
  | 1 => .fieldLinkNest C e.1 (T e.2.2.2).1 (T e.2.2.2).2.1 (T e.2.2.2).2.2.1 "SootMaps"
  | 2 => .methodLink C e.1 y
  | 3 => .methodLinkNest C e.1 y "SootMaps"
  | 4 => .classLink C e.1 (mj_names.getD e.2.2.1 "")
  | 5 => .constant C e.1 (Int32.ofNat e.2.2.1)
  | 6 => .constantLong C e.1 (Int64.ofNat e.2.2.1)
  | 7 => .methodLink C e.1 arraycopyName
  | 8 => .methodLink C e.1 objectInit
  | 9 => .methodLink C e.1 Lib.Math.max.name
  | 10 => .methodLink C e.1 Lib.Math.min.name
  | _ => .methodLink C e.1 ⟨"java/lang/Math", "floorMod", "(II)I"⟩
set_option maxRecDepth 100000 in
theorem mj_in_0 : ∀ w ∈ mj_pool_0.map (mj_word "SootMaps$Bargain"), w ∈ lw_tbl := mj_places _ mj_pl_0 (by decide +kernel)
set_option maxRecDepth 100000 in
theorem mj_in_1 : ∀ w ∈ mj_pool_1.map (mj_word "SootMaps$Book"), w ∈ lw_tbl := mj_places _ mj_pl_1 (by decide +kernel)
set_option maxRecDepth 100000 in
theorem mj_in_2 : ∀ w ∈ mj_pool_2.map (mj_word "SootMaps$Images"), w ∈ lw_tbl := mj_places _ mj_pl_2 (by decide +kernel)
set_option maxRecDepth 100000 in
theorem mj_in_3 : ∀ w ∈ mj_pool_3.map (mj_word "SootMaps$Past"), w ∈ lw_tbl := mj_places _ mj_pl_3 (by decide +kernel)
set_option maxRecDepth 100000 in
theorem mj_in_4 : ∀ w ∈ mj_pool_4.map (mj_word "SootMaps$Plan"), w ∈ lw_tbl := mj_places _ mj_pl_4 (by decide +kernel)
set_option maxRecDepth 100000 in
theorem mj_in_5 : ∀ w ∈ mj_pool_5.map (mj_word "SootMaps$Rows"), w ∈ lw_tbl := mj_places _ mj_pl_5 (by decide +kernel)
set_option maxRecDepth 100000 in
theorem mj_in_6 : ∀ w ∈ mj_pool_6.map (mj_word "SootMaps$Sights"), w ∈ lw_tbl := mj_places _ mj_pl_6 (by decide +kernel)
set_option maxRecDepth 100000 in
theorem mj_in_7 : ∀ w ∈ mj_pool_7.map (mj_word "SootMaps$Streets"), w ∈ lw_tbl := mj_places _ mj_pl_7 (by decide +kernel)
set_option maxRecDepth 100000 in
theorem mj_in_8 : ∀ w ∈ mj_pool_8.map (mj_word "SootMaps$Text"), w ∈ lw_tbl := mj_places _ mj_pl_8 (by decide +kernel)
set_option maxRecDepth 100000 in
theorem mj_in_9 : ∀ w ∈ mj_pool_9.map (mj_word "SootMaps"), w ∈ lw_tbl := mj_places _ mj_pl_9 (by decide +kernel)
set_option maxRecDepth 100000 in
theorem mj_in_10 : ∀ w ∈ mj_pool_10.map (mj_word "SootMapsModel"), w ∈ lw_tbl := mj_places _ mj_pl_10 (by decide +kernel)
set_option maxRecDepth 100000 in
theorem mj_in_11 : ∀ w ∈ mj_pool_11.map (mj_word "SootMaps$Soot"), w ∈ lw_tbl := mj_places _ mj_pl_11 (by decide +kernel)
set_option maxRecDepth 100000 in
theorem mj_in_12 : ∀ w ∈ mj_pool_12.map (mj_word "SootMapsLaw"), w ∈ lw_tbl := mj_places _ mj_pl_12 (by decide +kernel)
set_option maxRecDepth 100000 in
theorem mj_in_13 : ∀ w ∈ mj_pool_13.map (mj_word "java/lang/Integer"), w ∈ lw_tbl := mj_places _ mj_pl_13 (by decide +kernel)
set_option maxRecDepth 100000 in
theorem mj_in_14 : ∀ w ∈ mj_pool_14.map (mj_word "java/lang/Math"), w ∈ lw_tbl := mj_places _ mj_pl_14 (by decide +kernel)
theorem mj_inP (o : Nat) (pool : List mj_E) (C : String) (hp : mj_pools[o]? = some pool) (hn : mj_names[o]? = some C) : ∀ e ∈ pool, mj_word C e ∈ lw_tbl := by
  have key : ∀ (o : Nat) (pool : List mj_E) (C : String), mj_pools[o]? = some pool → mj_names[o]? = some C → ∀ w ∈ pool.map (mj_word C), w ∈ lw_tbl := by
    intro o pool C hp hn
    match o, hp, hn with
    | 0, hp, hn => cases hp; cases hn; exact mj_in_0
    | 1, hp, hn => cases hp; cases hn; exact mj_in_1
    | 2, hp, hn => cases hp; cases hn; exact mj_in_2
    | 3, hp, hn => cases hp; cases hn; exact mj_in_3
    | 4, hp, hn => cases hp; cases hn; exact mj_in_4
    | 5, hp, hn => cases hp; cases hn; exact mj_in_5
    | 6, hp, hn => cases hp; cases hn; exact mj_in_6
    | 7, hp, hn => cases hp; cases hn; exact mj_in_7
    | 8, hp, hn => cases hp; cases hn; exact mj_in_8
    | 9, hp, hn => cases hp; cases hn; exact mj_in_9
    | 10, hp, hn => cases hp; cases hn; exact mj_in_10
    | 11, hp, hn => cases hp; cases hn; exact mj_in_11
    | 12, hp, hn => cases hp; cases hn; exact mj_in_12
    | 13, hp, hn => cases hp; cases hn; exact mj_in_13
    | 14, hp, hn => cases hp; cases hn; exact mj_in_14
    | n + 15, hp, hn => simp [mj_pools] at hp
  exact fun e he => key o pool C hp hn _ (List.mem_map_of_mem he)
