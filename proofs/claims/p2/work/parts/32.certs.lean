def mj_m_33 : mj_M := (⟨"SootMaps", "fault", "()I"⟩, prog_1_method_4_code, 1, (some .int), 9, 0, 1, 0, 0)
def mj_m_34 : mj_M := (⟨"SootMaps", "told", "(I)I"⟩, prog_1_method_5_code, 2, (some .int), 9, 1, 1, 3, 65)
def mj_m_35 : mj_M := (⟨"SootMaps$Streets", "layersOfAll", "()I"⟩, prog_10_method_4_code, 3, (some .int), 7, 0, 1, 2, 43)
def mj_m_36 : mj_M := (⟨"SootMaps$Soot", "layers", "(I)I"⟩, prog_9_method_5_code, 3, (some .int), 11, 1, 0, 1, 21)
def mj_m_37 : mj_M := (⟨"SootMaps$Soot", "fromNewest", "(II)I"⟩, prog_9_method_8_code, 2, (some .int), 11, 2, 0, 0, 0)
def mj_m_137 : mj_M := (⟨"SootMapsModel", "fault", "()I"⟩, prog_13_method_20_code, 1, (some .int), 10, 0, 1, 0, 0)
def ab_s_33_0_d : ab_M := (33, [(2, 0, 0, 0)], [(some (0, -2147483648, 2147483647, 0), [(2, 0, 0, 0)])])
set_option maxRecDepth 1000000 in
theorem ab_s_33_0 : ab_sum ab_ty ab_TT ab_s_33_0_d := ab_ok_sum (X := ([], ab_TT, mj_m_33, ab_s_33_0_d.2.1, ab_s_33_0_d.2.2, [], [(0, [(0, (2, 0, 0, 0))], 0, [])], true)) (F := 600) (fun _ h => absurd h List.not_mem_nil) rfl (by decide +kernel)
def ab_s_137_0_d : ab_M := (137, [(2, 54, 0, 0)], [(some (0, -2147483648, 2147483647, 0), [(2, 54, 0, 0)])])
set_option maxRecDepth 1000000 in
theorem ab_s_137_0 : ab_sum ab_ty ab_TT ab_s_137_0_d := ab_ok_sum (X := ([], ab_TT, mj_m_137, ab_s_137_0_d.2.1, ab_s_137_0_d.2.2, [], [(0, [(0, (2, 54, 0, 0))], 0, [])], true)) (F := 600) (fun _ h => absurd h List.not_mem_nil) rfl (by decide +kernel)
def ab_s_37_0_d : ab_M := (37, [(0, 0, 16777215, 0), (0, 0, 0, 0)], [(some (0, 0, 7, 0), [(0, 0, 16777215, 0), (0, 0, 0, 0)])])
set_option maxRecDepth 1000000 in
theorem ab_s_37_0 : ab_sum ab_ty ab_TT ab_s_37_0_d := ab_ok_sum (X := ([], ab_TT, mj_m_37, ab_s_37_0_d.2.1, ab_s_37_0_d.2.2, [], [(0, [(0, (0, 0, 16777215, 1000000)), (1, (0, 0, 0, 1000000))], 0, [])], true)) (F := 600) (fun _ h => absurd h List.not_mem_nil) rfl (by decide +kernel)
def ab_s_37_1_d : ab_M := (37, [(0, 0, 16777215, 0), (0, 0, 1, 0)], [(some (0, 0, 7, 0), [(0, 0, 16777215, 0), (0, 0, 1, 0)])])
set_option maxRecDepth 1000000 in
theorem ab_s_37_1 : ab_sum ab_ty ab_TT ab_s_37_1_d := ab_ok_sum (X := ([], ab_TT, mj_m_37, ab_s_37_1_d.2.1, ab_s_37_1_d.2.2, [], [(0, [(0, (0, 0, 16777215, 1000000)), (1, (0, 0, 1, 1000000))], 0, [])], true)) (F := 600) (fun _ h => absurd h List.not_mem_nil) rfl (by decide +kernel)
def ab_s_37_2_d : ab_M := (37, [(0, 0, 16777215, 0), (0, 0, 2, 0)], [(some (0, 0, 7, 0), [(0, 0, 16777215, 0), (0, 0, 2, 0)])])
set_option maxRecDepth 1000000 in
theorem ab_s_37_2 : ab_sum ab_ty ab_TT ab_s_37_2_d := ab_ok_sum (X := ([], ab_TT, mj_m_37, ab_s_37_2_d.2.1, ab_s_37_2_d.2.2, [], [(0, [(0, (0, 0, 16777215, 1000000)), (1, (0, 0, 2, 1000000))], 0, [])], true)) (F := 600) (fun _ h => absurd h List.not_mem_nil) rfl (by decide +kernel)
def ab_s_37_3_d : ab_M := (37, [(0, 0, 16777215, 0), (0, 0, 3, 0)], [(some (0, 0, 7, 0), [(0, 0, 16777215, 0), (0, 0, 3, 0)])])
set_option maxRecDepth 1000000 in
theorem ab_s_37_3 : ab_sum ab_ty ab_TT ab_s_37_3_d := ab_ok_sum (X := ([], ab_TT, mj_m_37, ab_s_37_3_d.2.1, ab_s_37_3_d.2.2, [], [(0, [(0, (0, 0, 16777215, 1000000)), (1, (0, 0, 3, 1000000))], 0, [])], true)) (F := 600) (fun _ h => absurd h List.not_mem_nil) rfl (by decide +kernel)
def ab_s_37_4_d : ab_M := (37, [(0, 0, 16777215, 0), (0, 0, 4, 0)], [(some (0, 0, 7, 0), [(0, 0, 16777215, 0), (0, 0, 4, 0)])])
set_option maxRecDepth 1000000 in
theorem ab_s_37_4 : ab_sum ab_ty ab_TT ab_s_37_4_d := ab_ok_sum (X := ([], ab_TT, mj_m_37, ab_s_37_4_d.2.1, ab_s_37_4_d.2.2, [], [(0, [(0, (0, 0, 16777215, 1000000)), (1, (0, 0, 4, 1000000))], 0, [])], true)) (F := 600) (fun _ h => absurd h List.not_mem_nil) rfl (by decide +kernel)
def ab_s_37_5_d : ab_M := (37, [(0, 0, 16777215, 0), (0, 0, 5, 0)], [(some (0, 0, 7, 0), [(0, 0, 16777215, 0), (0, 0, 5, 0)])])
set_option maxRecDepth 1000000 in
theorem ab_s_37_5 : ab_sum ab_ty ab_TT ab_s_37_5_d := ab_ok_sum (X := ([], ab_TT, mj_m_37, ab_s_37_5_d.2.1, ab_s_37_5_d.2.2, [], [(0, [(0, (0, 0, 16777215, 1000000)), (1, (0, 0, 5, 1000000))], 0, [])], true)) (F := 600) (fun _ h => absurd h List.not_mem_nil) rfl (by decide +kernel)
def ab_s_37_6_d : ab_M := (37, [(0, 0, 16777215, 0), (0, 0, 7, 0)], [(some (0, 0, 7, 0), [(0, 0, 16777215, 0), (0, 0, 7, 0)])])
set_option maxRecDepth 1000000 in
theorem ab_s_37_6 : ab_sum ab_ty ab_TT ab_s_37_6_d := ab_ok_sum (X := ([], ab_TT, mj_m_37, ab_s_37_6_d.2.1, ab_s_37_6_d.2.2, [], [(0, [(0, (0, 0, 16777215, 1000000)), (1, (0, 0, 7, 1000000))], 0, [])], true)) (F := 600) (fun _ h => absurd h List.not_mem_nil) rfl (by decide +kernel)
def ab_s_36_0_d : ab_M := (36, [(0, 0, 16777215, 0)], [(some (0, -2147483648, 2147483647, 0), [(0, 0, 16777215, 0)])])
set_option maxRecDepth 1000000 in
theorem ab_s_36_0 : ab_sum ab_ty ab_TT ab_s_36_0_d := ab_ok_sum (X := ([ab_s_37_0_d, ab_s_37_1_d, ab_s_37_2_d, ab_s_37_3_d, ab_s_37_4_d, ab_s_37_5_d, ab_s_37_6_d], ab_TT, mj_m_36, ab_s_36_0_d.2.1, ab_s_36_0_d.2.2, [(2, 8)], [(0, [(0, (0, 0, 16777215, 1000000))], 9, [0]), (4, [(2, (0, 0, 8, 1000000)), (1, (0, -2147483648, 2147483647, 1000000)), (0, (0, 0, 16777215, 1000000))], 0, [1])], false)) (F := 600) (List.forall_mem_cons.mpr ⟨ab_s_37_0, List.forall_mem_cons.mpr ⟨ab_s_37_1, List.forall_mem_cons.mpr ⟨ab_s_37_2, List.forall_mem_cons.mpr ⟨ab_s_37_3, List.forall_mem_cons.mpr ⟨ab_s_37_4, List.forall_mem_cons.mpr ⟨ab_s_37_5, List.forall_mem_cons.mpr ⟨ab_s_37_6, fun _ h => absurd h List.not_mem_nil⟩⟩⟩⟩⟩⟩⟩) rfl (by decide +kernel)
def ab_s_35_0_d : ab_M := (35, [(2, 13, 0, 0)], [(some (0, -2147483648, 2147483647, 0), [(2, 13, 0, 0)])])
set_option maxRecDepth 1000000 in
theorem ab_s_35_0 : ab_sum ab_ty ab_TT ab_s_35_0_d := ab_ok_sum (X := ([ab_s_36_0_d], ab_TT, mj_m_35, ab_s_35_0_d.2.1, ab_s_35_0_d.2.2, [(2, 9)], [(0, [(0, (2, 13, 0, 0))], 10, [0]), (4, [(2, (0, 0, 9, 1000000)), (1, (0, -2147483648, 2147483647, 1000000)), (0, (2, 13, 0, 0))], 0, [1])], false)) (F := 600) (List.forall_mem_cons.mpr ⟨ab_s_36_0, fun _ h => absurd h List.not_mem_nil⟩) rfl (by decide +kernel)
def ab_s_34_0_d : ab_M := (34, [(2, 0, 0, 0), (0, -2147483648, 2147483647, 0)], [(some (0, -2147483648, 2147483647, 0), [(2, 0, 0, 0), (0, -2147483648, 2147483647, 0)])])
set_option maxRecDepth 1000000 in
theorem ab_s_34_0 : ab_sum ab_ty ab_TT ab_s_34_0_d := ab_ok_sum (X := ([ab_s_35_0_d], ab_TT, mj_m_34, ab_s_34_0_d.2.1, ab_s_34_0_d.2.2, [], [(0, [(0, (2, 0, 0, 0)), (1, (0, -2147483648, 2147483647, 1000000))], 0, [])], true)) (F := 600) (List.forall_mem_cons.mpr ⟨ab_s_35_0, fun _ h => absurd h List.not_mem_nil⟩) rfl (by decide +kernel)
