def mj_m_127 : mj_M := (⟨"SootMapsModel", "city", "()I"⟩, prog_13_method_19_code, 4, (some .int), 10, 0, 1, 5, 107)
theorem mj_d_127_0 : decode mj_m_127.2.1 0 = .ok (.aload_n 0, 1) := by decide +kernel
theorem mj_d_127_1 : decode mj_m_127.2.1 1 = .ok (.iconst 0, 1) := by decide +kernel
theorem mj_d_127_2 : decode mj_m_127.2.1 2 = .ok (.putfield 93, 3) := by decide +kernel
theorem mj_d_127_5 : decode mj_m_127.2.1 5 = .ok (.aload_n 0, 1) := by decide +kernel
theorem mj_d_127_6 : decode mj_m_127.2.1 6 = .ok (.iconst 0, 1) := by decide +kernel
theorem mj_d_127_7 : decode mj_m_127.2.1 7 = .ok (.putfield 103, 3) := by decide +kernel
theorem mj_d_127_10 : decode mj_m_127.2.1 10 = .ok (.aload_n 0, 1) := by decide +kernel
theorem mj_d_127_11 : decode mj_m_127.2.1 11 = .ok (.iconst (-1), 1) := by decide +kernel
theorem mj_d_127_12 : decode mj_m_127.2.1 12 = .ok (.putfield 23, 3) := by decide +kernel
theorem mj_d_127_15 : decode mj_m_127.2.1 15 = .ok (.aload_n 0, 1) := by decide +kernel
theorem mj_d_127_16 : decode mj_m_127.2.1 16 = .ok (.iconst 0, 1) := by decide +kernel
theorem mj_d_127_17 : decode mj_m_127.2.1 17 = .ok (.putfield 121, 3) := by decide +kernel
theorem mj_d_127_20 : decode mj_m_127.2.1 20 = .ok (.aload_n 0, 1) := by decide +kernel
theorem mj_d_127_21 : decode mj_m_127.2.1 21 = .ok (.iconst 0, 1) := by decide +kernel
theorem mj_d_127_22 : decode mj_m_127.2.1 22 = .ok (.putfield 127, 3) := by decide +kernel
theorem mj_d_127_25 : decode mj_m_127.2.1 25 = .ok (.aload_n 0, 1) := by decide +kernel
theorem mj_d_127_26 : decode mj_m_127.2.1 26 = .ok (.iconst 0, 1) := by decide +kernel
theorem mj_d_127_27 : decode mj_m_127.2.1 27 = .ok (.putfield 130, 3) := by decide +kernel
theorem mj_d_127_30 : decode mj_m_127.2.1 30 = .ok (.aload_n 0, 1) := by decide +kernel
theorem mj_d_127_31 : decode mj_m_127.2.1 31 = .ok (.iconst 0, 1) := by decide +kernel
theorem mj_d_127_32 : decode mj_m_127.2.1 32 = .ok (.putfield 133, 3) := by decide +kernel
theorem mj_d_127_35 : decode mj_m_127.2.1 35 = .ok (.aload_n 0, 1) := by decide +kernel
theorem mj_d_127_36 : decode mj_m_127.2.1 36 = .ok (.iconst 0, 1) := by decide +kernel
theorem mj_d_127_37 : decode mj_m_127.2.1 37 = .ok (.putfield 136, 3) := by decide +kernel
theorem mj_d_127_40 : decode mj_m_127.2.1 40 = .ok (.iconst 1, 1) := by decide +kernel
theorem mj_d_127_41 : decode mj_m_127.2.1 41 = .ok (.istore_n 1, 1) := by decide +kernel
theorem mj_d_127_42 : decode mj_m_127.2.1 42 = .ok (.iload_n 1, 1) := by decide +kernel
theorem mj_d_127_43 : decode mj_m_127.2.1 43 = .ok (.ifCond .eq 19, 3) := by decide +kernel
theorem mj_d_127_46 : decode mj_m_127.2.1 46 = .ok (.aload_n 0, 1) := by decide +kernel
theorem mj_d_127_47 : decode mj_m_127.2.1 47 = .ok (.invokevirtual 106, 3) := by decide +kernel
theorem mj_d_127_50 : decode mj_m_127.2.1 50 = .ok (.iconst (-1), 1) := by decide +kernel
theorem mj_d_127_51 : decode mj_m_127.2.1 51 = .ok (.if_icmp .eq 11, 3) := by decide +kernel
theorem mj_d_127_54 : decode mj_m_127.2.1 54 = .ok (.aload_n 0, 1) := by decide +kernel
theorem mj_d_127_55 : decode mj_m_127.2.1 55 = .ok (.invokevirtual 153, 3) := by decide +kernel
theorem mj_d_127_58 : decode mj_m_127.2.1 58 = .ok (.istore_n 1, 1) := by decide +kernel
theorem mj_d_127_59 : decode mj_m_127.2.1 59 = .ok (.goto (-17), 3) := by decide +kernel
theorem mj_d_127_62 : decode mj_m_127.2.1 62 = .ok (.aload_n 0, 1) := by decide +kernel
theorem mj_d_127_63 : decode mj_m_127.2.1 63 = .ok (.iconst 0, 1) := by decide +kernel
theorem mj_d_127_64 : decode mj_m_127.2.1 64 = .ok (.putfield 89, 3) := by decide +kernel
theorem mj_d_127_67 : decode mj_m_127.2.1 67 = .ok (.iload_n 1, 1) := by decide +kernel
theorem mj_d_127_68 : decode mj_m_127.2.1 68 = .ok (.ifCond .ne 11, 3) := by decide +kernel
theorem mj_d_127_71 : decode mj_m_127.2.1 71 = .ok (.bipush (-10), 2) := by decide +kernel
theorem mj_d_127_73 : decode mj_m_127.2.1 73 = .ok (.aload_n 0, 1) := by decide +kernel
theorem mj_d_127_74 : decode mj_m_127.2.1 74 = .ok (.getfield 103, 3) := by decide +kernel
theorem mj_d_127_77 : decode mj_m_127.2.1 77 = .ok (.isub, 1) := by decide +kernel
theorem mj_d_127_78 : decode mj_m_127.2.1 78 = .ok (.ireturn, 1) := by decide +kernel
theorem mj_d_127_79 : decode mj_m_127.2.1 79 = .ok (.aload_n 0, 1) := by decide +kernel
theorem mj_d_127_80 : decode mj_m_127.2.1 80 = .ok (.getfield 7, 3) := by decide +kernel
theorem mj_d_127_83 : decode mj_m_127.2.1 83 = .ok (.bipush 111, 2) := by decide +kernel
theorem mj_d_127_85 : decode mj_m_127.2.1 85 = .ok (.iaload, 1) := by decide +kernel
theorem mj_d_127_86 : decode mj_m_127.2.1 86 = .ok (.istore_n 2, 1) := by decide +kernel
theorem mj_d_127_87 : decode mj_m_127.2.1 87 = .ok (.iconst 0, 1) := by decide +kernel
theorem mj_d_127_88 : decode mj_m_127.2.1 88 = .ok (.istore_n 3, 1) := by decide +kernel
theorem mj_d_127_89 : decode mj_m_127.2.1 89 = .ok (.iload_n 3, 1) := by decide +kernel
theorem mj_d_127_90 : decode mj_m_127.2.1 90 = .ok (.bipush 112, 2) := by decide +kernel
theorem mj_d_127_92 : decode mj_m_127.2.1 92 = .ok (.if_icmp .ge 16, 3) := by decide +kernel
theorem mj_d_127_95 : decode mj_m_127.2.1 95 = .ok (.aload_n 0, 1) := by decide +kernel
theorem mj_d_127_96 : decode mj_m_127.2.1 96 = .ok (.getfield 7, 3) := by decide +kernel
theorem mj_d_127_99 : decode mj_m_127.2.1 99 = .ok (.iload_n 3, 1) := by decide +kernel
theorem mj_d_127_100 : decode mj_m_127.2.1 100 = .ok (.iconst 0, 1) := by decide +kernel
theorem mj_d_127_101 : decode mj_m_127.2.1 101 = .ok (.iastore, 1) := by decide +kernel
theorem mj_d_127_102 : decode mj_m_127.2.1 102 = .ok (.iinc 3 1, 3) := by decide +kernel
theorem mj_d_127_105 : decode mj_m_127.2.1 105 = .ok (.goto (-16), 3) := by decide +kernel
theorem mj_d_127_108 : decode mj_m_127.2.1 108 = .ok (.aload_n 0, 1) := by decide +kernel
theorem mj_d_127_109 : decode mj_m_127.2.1 109 = .ok (.getfield 7, 3) := by decide +kernel
theorem mj_d_127_112 : decode mj_m_127.2.1 112 = .ok (.bipush 111, 2) := by decide +kernel
theorem mj_d_127_114 : decode mj_m_127.2.1 114 = .ok (.iload_n 2, 1) := by decide +kernel
theorem mj_d_127_115 : decode mj_m_127.2.1 115 = .ok (.iastore, 1) := by decide +kernel
theorem mj_d_127_116 : decode mj_m_127.2.1 116 = .ok (.aload_n 0, 1) := by decide +kernel
theorem mj_d_127_117 : decode mj_m_127.2.1 117 = .ok (.aload_n 0, 1) := by decide +kernel
theorem mj_d_127_118 : decode mj_m_127.2.1 118 = .ok (.getfield 121, 3) := by decide +kernel
theorem mj_d_127_121 : decode mj_m_127.2.1 121 = .ok (.putfield 72, 3) := by decide +kernel
theorem mj_d_127_124 : decode mj_m_127.2.1 124 = .ok (.aload_n 0, 1) := by decide +kernel
theorem mj_d_127_125 : decode mj_m_127.2.1 125 = .ok (.aload_n 0, 1) := by decide +kernel
theorem mj_d_127_126 : decode mj_m_127.2.1 126 = .ok (.getfield 127, 3) := by decide +kernel
theorem mj_d_127_129 : decode mj_m_127.2.1 129 = .ok (.putfield 156, 3) := by decide +kernel
theorem mj_d_127_132 : decode mj_m_127.2.1 132 = .ok (.aload_n 0, 1) := by decide +kernel
theorem mj_d_127_133 : decode mj_m_127.2.1 133 = .ok (.aload_n 0, 1) := by decide +kernel
theorem mj_d_127_134 : decode mj_m_127.2.1 134 = .ok (.getfield 130, 3) := by decide +kernel
theorem mj_d_127_137 : decode mj_m_127.2.1 137 = .ok (.putfield 159, 3) := by decide +kernel
theorem mj_d_127_140 : decode mj_m_127.2.1 140 = .ok (.aload_n 0, 1) := by decide +kernel
theorem mj_d_127_141 : decode mj_m_127.2.1 141 = .ok (.aload_n 0, 1) := by decide +kernel
theorem mj_d_127_142 : decode mj_m_127.2.1 142 = .ok (.getfield 133, 3) := by decide +kernel
theorem mj_d_127_145 : decode mj_m_127.2.1 145 = .ok (.putfield 76, 3) := by decide +kernel
theorem mj_d_127_148 : decode mj_m_127.2.1 148 = .ok (.aload_n 0, 1) := by decide +kernel
theorem mj_d_127_149 : decode mj_m_127.2.1 149 = .ok (.aload_n 0, 1) := by decide +kernel
theorem mj_d_127_150 : decode mj_m_127.2.1 150 = .ok (.getfield 136, 3) := by decide +kernel
theorem mj_d_127_153 : decode mj_m_127.2.1 153 = .ok (.putfield 83, 3) := by decide +kernel
theorem mj_d_127_156 : decode mj_m_127.2.1 156 = .ok (.iconst 0, 1) := by decide +kernel
theorem mj_d_127_157 : decode mj_m_127.2.1 157 = .ok (.istore_n 3, 1) := by decide +kernel
theorem mj_d_127_158 : decode mj_m_127.2.1 158 = .ok (.iload_n 3, 1) := by decide +kernel
theorem mj_d_127_159 : decode mj_m_127.2.1 159 = .ok (.aload_n 0, 1) := by decide +kernel
theorem mj_d_127_160 : decode mj_m_127.2.1 160 = .ok (.getfield 76, 3) := by decide +kernel
theorem mj_d_127_163 : decode mj_m_127.2.1 163 = .ok (.if_icmp .ge 38, 3) := by decide +kernel
theorem mj_d_127_166 : decode mj_m_127.2.1 166 = .ok (.aload_n 0, 1) := by decide +kernel
theorem mj_d_127_167 : decode mj_m_127.2.1 167 = .ok (.getfield 7, 3) := by decide +kernel
theorem mj_d_127_170 : decode mj_m_127.2.1 170 = .ok (.iconst 2, 1) := by decide +kernel
theorem mj_d_127_171 : decode mj_m_127.2.1 171 = .ok (.iload_n 3, 1) := by decide +kernel
theorem mj_d_127_172 : decode mj_m_127.2.1 172 = .ok (.iadd, 1) := by decide +kernel
theorem mj_d_127_173 : decode mj_m_127.2.1 173 = .ok (.aload_n 0, 1) := by decide +kernel
theorem mj_d_127_174 : decode mj_m_127.2.1 174 = .ok (.getfield 30, 3) := by decide +kernel
theorem mj_d_127_177 : decode mj_m_127.2.1 177 = .ok (.iload_n 3, 1) := by decide +kernel
theorem mj_d_127_178 : decode mj_m_127.2.1 178 = .ok (.iaload, 1) := by decide +kernel
theorem mj_d_127_179 : decode mj_m_127.2.1 179 = .ok (.iastore, 1) := by decide +kernel
theorem mj_d_127_180 : decode mj_m_127.2.1 180 = .ok (.aload_n 0, 1) := by decide +kernel
theorem mj_d_127_181 : decode mj_m_127.2.1 181 = .ok (.getfield 7, 3) := by decide +kernel
theorem mj_d_127_184 : decode mj_m_127.2.1 184 = .ok (.bipush 11, 2) := by decide +kernel
theorem mj_d_127_186 : decode mj_m_127.2.1 186 = .ok (.iload_n 3, 1) := by decide +kernel
theorem mj_d_127_187 : decode mj_m_127.2.1 187 = .ok (.iadd, 1) := by decide +kernel
theorem mj_d_127_188 : decode mj_m_127.2.1 188 = .ok (.aload_n 0, 1) := by decide +kernel
theorem mj_d_127_189 : decode mj_m_127.2.1 189 = .ok (.getfield 27, 3) := by decide +kernel
theorem mj_d_127_192 : decode mj_m_127.2.1 192 = .ok (.iload_n 3, 1) := by decide +kernel
theorem mj_d_127_193 : decode mj_m_127.2.1 193 = .ok (.iaload, 1) := by decide +kernel
theorem mj_d_127_194 : decode mj_m_127.2.1 194 = .ok (.iastore, 1) := by decide +kernel
theorem mj_d_127_195 : decode mj_m_127.2.1 195 = .ok (.iinc 3 1, 3) := by decide +kernel
theorem mj_d_127_198 : decode mj_m_127.2.1 198 = .ok (.goto (-40), 3) := by decide +kernel
theorem mj_d_127_201 : decode mj_m_127.2.1 201 = .ok (.iconst 0, 1) := by decide +kernel
theorem mj_d_127_202 : decode mj_m_127.2.1 202 = .ok (.istore_n 3, 1) := by decide +kernel
theorem mj_d_127_203 : decode mj_m_127.2.1 203 = .ok (.iload_n 3, 1) := by decide +kernel
theorem mj_d_127_204 : decode mj_m_127.2.1 204 = .ok (.aload_n 0, 1) := by decide +kernel
theorem mj_d_127_205 : decode mj_m_127.2.1 205 = .ok (.getfield 83, 3) := by decide +kernel
theorem mj_d_127_208 : decode mj_m_127.2.1 208 = .ok (.if_icmp .ge 36, 3) := by decide +kernel
theorem mj_d_127_211 : decode mj_m_127.2.1 211 = .ok (.aload_n 0, 1) := by decide +kernel
theorem mj_d_127_212 : decode mj_m_127.2.1 212 = .ok (.getfield 7, 3) := by decide +kernel
theorem mj_d_127_215 : decode mj_m_127.2.1 215 = .ok (.bipush 101, 2) := by decide +kernel
theorem mj_d_127_217 : decode mj_m_127.2.1 217 = .ok (.iload_n 3, 1) := by decide +kernel
theorem mj_d_127_218 : decode mj_m_127.2.1 218 = .ok (.iadd, 1) := by decide +kernel
theorem mj_d_127_219 : decode mj_m_127.2.1 219 = .ok (.aload_n 0, 1) := by decide +kernel
theorem mj_d_127_220 : decode mj_m_127.2.1 220 = .ok (.getfield 33, 3) := by decide +kernel
theorem mj_d_127_223 : decode mj_m_127.2.1 223 = .ok (.iload_n 3, 1) := by decide +kernel
theorem mj_d_127_224 : decode mj_m_127.2.1 224 = .ok (.iaload, 1) := by decide +kernel
theorem mj_d_127_225 : decode mj_m_127.2.1 225 = .ok (.iastore, 1) := by decide +kernel
theorem mj_d_127_226 : decode mj_m_127.2.1 226 = .ok (.aload_n 0, 1) := by decide +kernel
theorem mj_d_127_227 : decode mj_m_127.2.1 227 = .ok (.getfield 17, 3) := by decide +kernel
theorem mj_d_127_230 : decode mj_m_127.2.1 230 = .ok (.iload_n 3, 1) := by decide +kernel
theorem mj_d_127_231 : decode mj_m_127.2.1 231 = .ok (.aload_n 0, 1) := by decide +kernel
theorem mj_d_127_232 : decode mj_m_127.2.1 232 = .ok (.getfield 36, 3) := by decide +kernel
theorem mj_d_127_235 : decode mj_m_127.2.1 235 = .ok (.iload_n 3, 1) := by decide +kernel
theorem mj_d_127_236 : decode mj_m_127.2.1 236 = .ok (.iaload, 1) := by decide +kernel
theorem mj_d_127_237 : decode mj_m_127.2.1 237 = .ok (.iastore, 1) := by decide +kernel
theorem mj_d_127_238 : decode mj_m_127.2.1 238 = .ok (.iinc 3 1, 3) := by decide +kernel
theorem mj_d_127_241 : decode mj_m_127.2.1 241 = .ok (.goto (-38), 3) := by decide +kernel
theorem mj_d_127_244 : decode mj_m_127.2.1 244 = .ok (.aload_n 0, 1) := by decide +kernel
theorem mj_d_127_245 : decode mj_m_127.2.1 245 = .ok (.iconst 0, 1) := by decide +kernel
theorem mj_d_127_246 : decode mj_m_127.2.1 246 = .ok (.putfield 162, 3) := by decide +kernel
theorem mj_d_127_249 : decode mj_m_127.2.1 249 = .ok (.aload_n 0, 1) := by decide +kernel
theorem mj_d_127_250 : decode mj_m_127.2.1 250 = .ok (.iconst 0, 1) := by decide +kernel
theorem mj_d_127_251 : decode mj_m_127.2.1 251 = .ok (.putfield 165, 3) := by decide +kernel
theorem mj_d_127_254 : decode mj_m_127.2.1 254 = .ok (.aload_n 0, 1) := by decide +kernel
theorem mj_d_127_255 : decode mj_m_127.2.1 255 = .ok (.iconst 0, 1) := by decide +kernel
theorem mj_d_127_256 : decode mj_m_127.2.1 256 = .ok (.putfield 168, 3) := by decide +kernel
theorem mj_d_127_259 : decode mj_m_127.2.1 259 = .ok (.aload_n 0, 1) := by decide +kernel
theorem mj_d_127_260 : decode mj_m_127.2.1 260 = .ok (.getfield 13, 3) := by decide +kernel
theorem mj_d_127_263 : decode mj_m_127.2.1 263 = .ok (.iconst 0, 1) := by decide +kernel
theorem mj_d_127_264 : decode mj_m_127.2.1 264 = .ok (.iconst 0, 1) := by decide +kernel
theorem mj_d_127_265 : decode mj_m_127.2.1 265 = .ok (.bastore, 1) := by decide +kernel
theorem mj_d_127_266 : decode mj_m_127.2.1 266 = .ok (.aload_n 0, 1) := by decide +kernel
theorem mj_d_127_267 : decode mj_m_127.2.1 267 = .ok (.getfield 13, 3) := by decide +kernel
theorem mj_d_127_270 : decode mj_m_127.2.1 270 = .ok (.iconst 1, 1) := by decide +kernel
theorem mj_d_127_271 : decode mj_m_127.2.1 271 = .ok (.iconst 0, 1) := by decide +kernel
theorem mj_d_127_272 : decode mj_m_127.2.1 272 = .ok (.bastore, 1) := by decide +kernel
theorem mj_d_127_273 : decode mj_m_127.2.1 273 = .ok (.aload_n 0, 1) := by decide +kernel
theorem mj_d_127_274 : decode mj_m_127.2.1 274 = .ok (.getfield 76, 3) := by decide +kernel
theorem mj_d_127_277 : decode mj_m_127.2.1 277 = .ok (.ireturn, 1) := by decide +kernel
def dc_R_city_203 (n : Nat) : sg_S → Int → sg_S × Int := Nat.rec (fun (s : sg_S) l3 => (s, 0)) (fun _ ih => fun s l3 => (if (s 234 7) ≤ l3 then ((sg_up (sg_up (sg_up (sg_up (sg_up s 234 31 0) 234 35 0) 234 2 0) 236 0 0) 236 1 0), (s 234 6)) else (ih (sg_up (sg_up s 235 ((101 + l3).toNat) (s 241 ((l3).toNat))) 237 ((l3).toNat) (s 242 ((l3).toNat))) (l3 + 1)))) n
theorem dc_R_city_203_s (n : Nat) (s : sg_S) (l3 : Int) : dc_R_city_203 (n + 1) s l3 = (if (s 234 7) ≤ l3 then ((sg_up (sg_up (sg_up (sg_up (sg_up s 234 31 0) 234 35 0) 234 2 0) 236 0 0) 236 1 0), (s 234 6)) else ((dc_R_city_203 n) (sg_up (sg_up s 235 ((101 + l3).toNat) (s 241 ((l3).toNat))) 237 ((l3).toNat) (s 242 ((l3).toNat))) (l3 + 1))) := rfl
def dc_R_city_158 (n : Nat) : sg_S → Int → sg_S × Int := Nat.rec (fun (s : sg_S) l3 => (s, 0)) (fun _ ih => fun s l3 => (if (s 234 6) ≤ l3 then (dc_R_city_203 6 s 0) else (ih (sg_up (sg_up s 235 ((2 + l3).toNat) (s 240 ((l3).toNat))) 235 ((11 + l3).toNat) (s 239 ((l3).toNat))) (l3 + 1)))) n
theorem dc_R_city_158_s (n : Nat) (s : sg_S) (l3 : Int) : dc_R_city_158 (n + 1) s l3 = (if (s 234 6) ≤ l3 then (dc_R_city_203 6 s 0) else ((dc_R_city_158 n) (sg_up (sg_up s 235 ((2 + l3).toNat) (s 240 ((l3).toNat))) 235 ((11 + l3).toNat) (s 239 ((l3).toNat))) (l3 + 1))) := rfl
def dc_R_city_89 (n : Nat) : sg_S → Int → Int → sg_S × Int := Nat.rec (fun (s : sg_S) l2 l3 => (s, 0)) (fun _ ih => fun s l2 l3 => (if 112 ≤ l3 then (dc_R_city_158 10 (sg_up (sg_up (sg_up (sg_up (sg_up (sg_up s 235 111 l2) 234 3 (s 234 16)) 234 4 (s 234 17)) 234 5 (s 234 18)) 234 6 (s 234 19)) 234 7 (s 234 22)) 0) else (ih (sg_up s 235 ((l3).toNat) 0) l2 (l3 + 1)))) n
theorem dc_R_city_89_s (n : Nat) (s : sg_S) (l2 l3 : Int) : dc_R_city_89 (n + 1) s l2 l3 = (if 112 ≤ l3 then (dc_R_city_158 10 (sg_up (sg_up (sg_up (sg_up (sg_up (sg_up s 235 111 l2) 234 3 (s 234 16)) 234 4 (s 234 17)) 234 5 (s 234 18)) 234 6 (s 234 19)) 234 7 (s 234 22)) 0) else ((dc_R_city_89 n) (sg_up s 235 ((l3).toNat) 0) l2 (l3 + 1))) := rfl
def dc_R_city_42 (n : Nat) : sg_S → Int → sg_S × Int := Nat.rec (fun (s : sg_S) l1 => (s, 0)) (fun _ ih => fun s l1 => (if l1 = 0 then (if l1 = 0 then ((sg_up s 234 10 0), ((-10) - (s 234 14))) else (dc_R_city_89 113 (sg_up s 234 10 0) (s 235 111) 0)) else (if ((dc_R_here s).2) = (-1) then (if l1 = 0 then ((sg_up (dc_R_here s).1 234 10 0), ((-10) - (s 234 14))) else (dc_R_city_89 113 (sg_up (dc_R_here s).1 234 10 0) (s 235 111) 0)) else (ih (dc_R_takesClause (dc_R_here s).1).1 ((dc_R_takesClause (dc_R_here s).1).2))))) n
theorem dc_R_city_42_s (n : Nat) (s : sg_S) (l1 : Int) : dc_R_city_42 (n + 1) s l1 = (if l1 = 0 then (if l1 = 0 then ((sg_up s 234 10 0), ((-10) - (s 234 14))) else (dc_R_city_89 113 (sg_up s 234 10 0) (s 235 111) 0)) else (if ((dc_R_here s).2) = (-1) then (if l1 = 0 then ((sg_up (dc_R_here s).1 234 10 0), ((-10) - (s 234 14))) else (dc_R_city_89 113 (sg_up (dc_R_here s).1 234 10 0) (s 235 111) 0)) else ((dc_R_city_42 n) (dc_R_takesClause (dc_R_here s).1).1 ((dc_R_takesClause (dc_R_here s).1).2)))) := rfl
def dc_R_city (s : sg_S) : sg_S × Int := (dc_R_city_42 242 (sg_up (sg_up (sg_up (sg_up (sg_up (sg_up (sg_up (sg_up s 234 11 0) 234 14 0) 234 15 (-1)) 234 16 0) 234 17 0) 234 18 0) 234 19 0) 234 22 0) 1)
def dw_R_city (a k : Nat) : Bool := (a == 234 && k == 11) || (a == 234 && k == 14) || (a == 234 && k == 15) || (a == 234 && k == 16) || (a == 234 && k == 17) || (a == 234 && k == 18) || (a == 234 && k == 19) || (a == 234 && k == 22) || (a == 234 && k == 10) || dw_R_here a k || dw_R_takesClause a k || (a == 235) || (a == 234 && k == 3) || (a == 234 && k == 4) || (a == 234 && k == 5) || (a == 234 && k == 6) || (a == 234 && k == 7) || (a == 234 && k == 31) || (a == 234 && k == 35) || (a == 234 && k == 2) || (a == 236) || (a == 237)
theorem dr_R_city_203 (a k : Nat) (h : dw_R_city a k = false) : ∀ (n : Nat) (s : sg_S) (l3 : Int), (dc_R_city_203 n s l3).1 a k = s a k := by
  have h0 := h
  unfold dw_R_city at h
  simp only [Bool.or_eq_false_iff] at h
  obtain ⟨⟨⟨⟨⟨⟨⟨⟨⟨⟨⟨⟨⟨⟨⟨⟨⟨⟨⟨⟨⟨h1, h2⟩, h3⟩, h4⟩, h5⟩, h6⟩, h7⟩, h8⟩, h9⟩, h10⟩, h11⟩, h12⟩, h13⟩, h14⟩, h15⟩, h16⟩, h17⟩, h18⟩, h19⟩, h20⟩, h21⟩, h22⟩ := h
  intro n
  induction n with
  | zero => intro s l3; rfl
  | succ n ih =>
    intro s l3
    rw [dc_R_city_203_s]
    (repeat' split) <;> simp only [(fun s z => sg_upf (s := s) (z := z) h1), (fun s z => sg_upf (s := s) (z := z) h2), (fun s z => sg_upf (s := s) (z := z) h3), (fun s z => sg_upf (s := s) (z := z) h4), (fun s z => sg_upf (s := s) (z := z) h5), (fun s z => sg_upf (s := s) (z := z) h6), (fun s z => sg_upf (s := s) (z := z) h7), (fun s z => sg_upf (s := s) (z := z) h8), (fun s z => sg_upf (s := s) (z := z) h9), (fun s => dr_R_here s a k h10), (fun s => dr_R_takesClause s a k h11), (fun s l z => sg_upa (s := s) (l := l) (z := z) (k := k) h12), (fun s z => sg_upf (s := s) (z := z) h13), (fun s z => sg_upf (s := s) (z := z) h14), (fun s z => sg_upf (s := s) (z := z) h15), (fun s z => sg_upf (s := s) (z := z) h16), (fun s z => sg_upf (s := s) (z := z) h17), (fun s z => sg_upf (s := s) (z := z) h18), (fun s z => sg_upf (s := s) (z := z) h19), (fun s z => sg_upf (s := s) (z := z) h20), (fun s l z => sg_upa (s := s) (l := l) (z := z) (k := k) h21), (fun s l z => sg_upa (s := s) (l := l) (z := z) (k := k) h22), ih]
theorem dr_R_city_158 (a k : Nat) (h : dw_R_city a k = false) : ∀ (n : Nat) (s : sg_S) (l3 : Int), (dc_R_city_158 n s l3).1 a k = s a k := by
  have h0 := h
  unfold dw_R_city at h
  simp only [Bool.or_eq_false_iff] at h
  obtain ⟨⟨⟨⟨⟨⟨⟨⟨⟨⟨⟨⟨⟨⟨⟨⟨⟨⟨⟨⟨⟨h1, h2⟩, h3⟩, h4⟩, h5⟩, h6⟩, h7⟩, h8⟩, h9⟩, h10⟩, h11⟩, h12⟩, h13⟩, h14⟩, h15⟩, h16⟩, h17⟩, h18⟩, h19⟩, h20⟩, h21⟩, h22⟩ := h
  intro n
  induction n with
  | zero => intro s l3; rfl
  | succ n ih =>
    intro s l3
    rw [dc_R_city_158_s]
    (repeat' split) <;> simp only [(fun s z => sg_upf (s := s) (z := z) h1), (fun s z => sg_upf (s := s) (z := z) h2), (fun s z => sg_upf (s := s) (z := z) h3), (fun s z => sg_upf (s := s) (z := z) h4), (fun s z => sg_upf (s := s) (z := z) h5), (fun s z => sg_upf (s := s) (z := z) h6), (fun s z => sg_upf (s := s) (z := z) h7), (fun s z => sg_upf (s := s) (z := z) h8), (fun s z => sg_upf (s := s) (z := z) h9), (fun s => dr_R_here s a k h10), (fun s => dr_R_takesClause s a k h11), (fun s l z => sg_upa (s := s) (l := l) (z := z) (k := k) h12), (fun s z => sg_upf (s := s) (z := z) h13), (fun s z => sg_upf (s := s) (z := z) h14), (fun s z => sg_upf (s := s) (z := z) h15), (fun s z => sg_upf (s := s) (z := z) h16), (fun s z => sg_upf (s := s) (z := z) h17), (fun s z => sg_upf (s := s) (z := z) h18), (fun s z => sg_upf (s := s) (z := z) h19), (fun s z => sg_upf (s := s) (z := z) h20), (fun s l z => sg_upa (s := s) (l := l) (z := z) (k := k) h21), (fun s l z => sg_upa (s := s) (l := l) (z := z) (k := k) h22), ih, (dr_R_city_203 a k h0)]
theorem dr_R_city_89 (a k : Nat) (h : dw_R_city a k = false) : ∀ (n : Nat) (s : sg_S) (l2 l3 : Int), (dc_R_city_89 n s l2 l3).1 a k = s a k := by
  have h0 := h
  unfold dw_R_city at h
  simp only [Bool.or_eq_false_iff] at h
  obtain ⟨⟨⟨⟨⟨⟨⟨⟨⟨⟨⟨⟨⟨⟨⟨⟨⟨⟨⟨⟨⟨h1, h2⟩, h3⟩, h4⟩, h5⟩, h6⟩, h7⟩, h8⟩, h9⟩, h10⟩, h11⟩, h12⟩, h13⟩, h14⟩, h15⟩, h16⟩, h17⟩, h18⟩, h19⟩, h20⟩, h21⟩, h22⟩ := h
  intro n
  induction n with
  | zero => intro s l2 l3; rfl
  | succ n ih =>
    intro s l2 l3
    rw [dc_R_city_89_s]
    (repeat' split) <;> simp only [(fun s z => sg_upf (s := s) (z := z) h1), (fun s z => sg_upf (s := s) (z := z) h2), (fun s z => sg_upf (s := s) (z := z) h3), (fun s z => sg_upf (s := s) (z := z) h4), (fun s z => sg_upf (s := s) (z := z) h5), (fun s z => sg_upf (s := s) (z := z) h6), (fun s z => sg_upf (s := s) (z := z) h7), (fun s z => sg_upf (s := s) (z := z) h8), (fun s z => sg_upf (s := s) (z := z) h9), (fun s => dr_R_here s a k h10), (fun s => dr_R_takesClause s a k h11), (fun s l z => sg_upa (s := s) (l := l) (z := z) (k := k) h12), (fun s z => sg_upf (s := s) (z := z) h13), (fun s z => sg_upf (s := s) (z := z) h14), (fun s z => sg_upf (s := s) (z := z) h15), (fun s z => sg_upf (s := s) (z := z) h16), (fun s z => sg_upf (s := s) (z := z) h17), (fun s z => sg_upf (s := s) (z := z) h18), (fun s z => sg_upf (s := s) (z := z) h19), (fun s z => sg_upf (s := s) (z := z) h20), (fun s l z => sg_upa (s := s) (l := l) (z := z) (k := k) h21), (fun s l z => sg_upa (s := s) (l := l) (z := z) (k := k) h22), ih, (dr_R_city_203 a k h0), (dr_R_city_158 a k h0)]
theorem dr_R_city_42 (a k : Nat) (h : dw_R_city a k = false) : ∀ (n : Nat) (s : sg_S) (l1 : Int), (dc_R_city_42 n s l1).1 a k = s a k := by
  have h0 := h
  unfold dw_R_city at h
  simp only [Bool.or_eq_false_iff] at h
  obtain ⟨⟨⟨⟨⟨⟨⟨⟨⟨⟨⟨⟨⟨⟨⟨⟨⟨⟨⟨⟨⟨h1, h2⟩, h3⟩, h4⟩, h5⟩, h6⟩, h7⟩, h8⟩, h9⟩, h10⟩, h11⟩, h12⟩, h13⟩, h14⟩, h15⟩, h16⟩, h17⟩, h18⟩, h19⟩, h20⟩, h21⟩, h22⟩ := h
  intro n
  induction n with
  | zero => intro s l1; rfl
  | succ n ih =>
    intro s l1
    rw [dc_R_city_42_s]
    (repeat' split) <;> simp only [(fun s z => sg_upf (s := s) (z := z) h1), (fun s z => sg_upf (s := s) (z := z) h2), (fun s z => sg_upf (s := s) (z := z) h3), (fun s z => sg_upf (s := s) (z := z) h4), (fun s z => sg_upf (s := s) (z := z) h5), (fun s z => sg_upf (s := s) (z := z) h6), (fun s z => sg_upf (s := s) (z := z) h7), (fun s z => sg_upf (s := s) (z := z) h8), (fun s z => sg_upf (s := s) (z := z) h9), (fun s => dr_R_here s a k h10), (fun s => dr_R_takesClause s a k h11), (fun s l z => sg_upa (s := s) (l := l) (z := z) (k := k) h12), (fun s z => sg_upf (s := s) (z := z) h13), (fun s z => sg_upf (s := s) (z := z) h14), (fun s z => sg_upf (s := s) (z := z) h15), (fun s z => sg_upf (s := s) (z := z) h16), (fun s z => sg_upf (s := s) (z := z) h17), (fun s z => sg_upf (s := s) (z := z) h18), (fun s z => sg_upf (s := s) (z := z) h19), (fun s z => sg_upf (s := s) (z := z) h20), (fun s l z => sg_upa (s := s) (l := l) (z := z) (k := k) h21), (fun s l z => sg_upa (s := s) (l := l) (z := z) (k := k) h22), ih, (dr_R_city_203 a k h0), (dr_R_city_158 a k h0), (dr_R_city_89 a k h0)]
theorem dr_R_city (s : sg_S) (a k : Nat) (h : dw_R_city a k = false) : (dc_R_city s).1 a k = s a k := by
  have h0 := h
  unfold dw_R_city at h
  simp only [Bool.or_eq_false_iff] at h
  obtain ⟨⟨⟨⟨⟨⟨⟨⟨⟨⟨⟨⟨⟨⟨⟨⟨⟨⟨⟨⟨⟨h1, h2⟩, h3⟩, h4⟩, h5⟩, h6⟩, h7⟩, h8⟩, h9⟩, h10⟩, h11⟩, h12⟩, h13⟩, h14⟩, h15⟩, h16⟩, h17⟩, h18⟩, h19⟩, h20⟩, h21⟩, h22⟩ := h
  unfold dc_R_city
  (repeat' split) <;> simp only [(fun s z => sg_upf (s := s) (z := z) h1), (fun s z => sg_upf (s := s) (z := z) h2), (fun s z => sg_upf (s := s) (z := z) h3), (fun s z => sg_upf (s := s) (z := z) h4), (fun s z => sg_upf (s := s) (z := z) h5), (fun s z => sg_upf (s := s) (z := z) h6), (fun s z => sg_upf (s := s) (z := z) h7), (fun s z => sg_upf (s := s) (z := z) h8), (fun s z => sg_upf (s := s) (z := z) h9), (fun s => dr_R_here s a k h10), (fun s => dr_R_takesClause s a k h11), (fun s l z => sg_upa (s := s) (l := l) (z := z) (k := k) h12), (fun s z => sg_upf (s := s) (z := z) h13), (fun s z => sg_upf (s := s) (z := z) h14), (fun s z => sg_upf (s := s) (z := z) h15), (fun s z => sg_upf (s := s) (z := z) h16), (fun s z => sg_upf (s := s) (z := z) h17), (fun s z => sg_upf (s := s) (z := z) h18), (fun s z => sg_upf (s := s) (z := z) h19), (fun s z => sg_upf (s := s) (z := z) h20), (fun s l z => sg_upa (s := s) (l := l) (z := z) (k := k) h21), (fun s l z => sg_upa (s := s) (l := l) (z := z) (k := k) h22), (dr_R_city_203 a k h0), (dr_R_city_158 a k h0), (dr_R_city_89 a k h0), (dr_R_city_42 a k h0)]
set_option maxRecDepth 100000 in
theorem dt_R_city_203 : ∀ (n : Nat) {h : mj_H} (hH : sy_H h) {l3 : Int} (b_l3 : 0 ≤ l3) (t_l3 : l3 ≤ 5) (hm : 5 - l3 < (n : Int)), sy_wp (mj_m_127, 203, [(0, .ref 234), (3, sy_i l3)], [], h) (dq2 (-13) (9) (dc_R_city_203 n (sy_rd h) l3)) := by
  intro n
  induction n with
  | zero =>
    intro h hH l3 b_l3 t_l3 hm
    have n234_7 := hH.bd (a := 234) (k := 7) rfl (by decide) rfl
    exact absurd hm (by omega)
  | succ n ih =>
    intro h hH l3 b_l3 t_l3 hm
    rw [dc_R_city_203_s]
    have n234_7 := hH.bd (a := 234) (k := 7) rfl (by decide) rfl
    refine sy_st (S' := (mj_m_127, 204, [(0, .ref 234), (3, sy_i l3)], [sy_i l3], h)) mj_d_127_203 (fun _ _ => rfl) ?_
    refine sy_st (S' := (mj_m_127, 205, [(0, .ref 234), (3, sy_i l3)], [.ref 234, sy_i l3], h)) mj_d_127_204 (fun _ _ => rfl) ?_
    refine sy_gf mj_d_127_205 rfl rfl (by decide) rfl hH ?_
    intro x1 ex1 bx1 tx1
    replace ex1 : x1 = sy_rd h 234 7 := ex1
    subst ex1
    refine sy_icm mj_d_127_208 rfl ⟨by omega, by omega⟩ ⟨by omega, by omega⟩ (fun (c2 : (sy_rd h 234 7) ≤ l3) => ?_) (fun (c2 : ¬ ((sy_rd h 234 7) ≤ l3)) => ?_)
    · skip
      rw [if_pos c2]
      refine sy_st (S' := (mj_m_127, 245, [(0, .ref 234), (3, sy_i l3)], [.ref 234], h)) mj_d_127_244 (fun _ _ => rfl) ?_
      refine sy_st (S' := (mj_m_127, 246, [(0, .ref 234), (3, sy_i l3)], [sy_i 0, .ref 234], h)) mj_d_127_245 (fun _ _ => rfl) ?_
      refine sg_pf (z := 0) mj_d_127_246 rfl rfl (by decide) (Or.inl rfl) rfl hH (by omega) (by omega) ⟨by omega, by omega⟩ ?_
      intro h3 th3 eh3
      refine sy_st (S' := (mj_m_127, 250, [(0, .ref 234), (3, sy_i l3)], [.ref 234], h3)) mj_d_127_249 (fun _ _ => rfl) ?_
      refine sy_st (S' := (mj_m_127, 251, [(0, .ref 234), (3, sy_i l3)], [sy_i 0, .ref 234], h3)) mj_d_127_250 (fun _ _ => rfl) ?_
      refine sg_pf (z := 0) mj_d_127_251 rfl rfl (by decide) (Or.inl rfl) rfl th3 (by omega) (by omega) ⟨by omega, by omega⟩ ?_
      intro h4 th4 eh4
      rw [eh3] at eh4
      refine sy_st (S' := (mj_m_127, 255, [(0, .ref 234), (3, sy_i l3)], [.ref 234], h4)) mj_d_127_254 (fun _ _ => rfl) ?_
      refine sy_st (S' := (mj_m_127, 256, [(0, .ref 234), (3, sy_i l3)], [sy_i 0, .ref 234], h4)) mj_d_127_255 (fun _ _ => rfl) ?_
      refine sg_pf (z := 0) mj_d_127_256 rfl rfl (by decide) (Or.inl rfl) rfl th4 (by omega) (by omega) ⟨by omega, by omega⟩ ?_
      intro h5 th5 eh5
      rw [eh4] at eh5
      refine sy_st (S' := (mj_m_127, 260, [(0, .ref 234), (3, sy_i l3)], [.ref 234], h5)) mj_d_127_259 (fun _ _ => rfl) ?_
      refine sy_gr2 (b := 236) mj_d_127_260 rfl rfl (by decide) rfl rfl th5 ?_
      refine sy_st (S' := (mj_m_127, 264, [(0, .ref 234), (3, sy_i l3)], [sy_i 0, .ref 236], h5)) mj_d_127_263 (fun _ _ => rfl) ?_
      refine sy_st (S' := (mj_m_127, 265, [(0, .ref 234), (3, sy_i l3)], [sy_i 0, sy_i 0, .ref 236], h5)) mj_d_127_264 (fun _ _ => rfl) ?_
      refine sg_bas (v := 0) mj_d_127_265 rfl (by decide) (by omega) (by omega) (ab_el_1 rfl _) th5 (by omega) (by omega) ⟨by omega, by omega⟩ ?_
      intro h6 th6 eh6
      replace eh6 : sy_rd h6 = sg_up (sy_rd h5) 236 0 0 := eh6
      rw [eh5] at eh6
      refine sy_st (S' := (mj_m_127, 267, [(0, .ref 234), (3, sy_i l3)], [.ref 234], h6)) mj_d_127_266 (fun _ _ => rfl) ?_
      refine sy_gr2 (b := 236) mj_d_127_267 rfl rfl (by decide) rfl rfl th6 ?_
      refine sy_st (S' := (mj_m_127, 271, [(0, .ref 234), (3, sy_i l3)], [sy_i 1, .ref 236], h6)) mj_d_127_270 (fun _ _ => rfl) ?_
      refine sy_st (S' := (mj_m_127, 272, [(0, .ref 234), (3, sy_i l3)], [sy_i 0, sy_i 1, .ref 236], h6)) mj_d_127_271 (fun _ _ => rfl) ?_
      refine sg_bas (v := 0) mj_d_127_272 rfl (by decide) (by omega) (by omega) (ab_el_1 rfl _) th6 (by omega) (by omega) ⟨by omega, by omega⟩ ?_
      intro h7 th7 eh7
      replace eh7 : sy_rd h7 = sg_up (sy_rd h6) 236 1 0 := eh7
      rw [eh6] at eh7
      refine sy_st (S' := (mj_m_127, 274, [(0, .ref 234), (3, sy_i l3)], [.ref 234], h7)) mj_d_127_273 (fun _ _ => rfl) ?_
      refine sy_gf mj_d_127_274 rfl rfl (by decide) rfl th7 ?_
      intro x8 ex8 bx8 tx8
      replace ex8 : x8 = sy_rd h7 234 6 := ex8
      rw [eh7, sg_na (by decide), sg_na (by decide), sg_nk (by decide), sg_nk (by decide), sg_nk (by decide)] at ex8
      subst ex8
      exact sy_reti mj_d_127_277 rfl ⟨th7, eh7, rfl, by omega, by omega⟩
    · skip
      rw [if_neg c2]
      refine sy_st (S' := (mj_m_127, 212, [(0, .ref 234), (3, sy_i l3)], [.ref 234], h)) mj_d_127_211 (fun _ _ => rfl) ?_
      refine sy_gr2 (b := 235) mj_d_127_212 rfl rfl (by decide) rfl rfl hH ?_
      refine sy_bip mj_d_127_215 (by decide) ?_
      refine sy_st (S' := (mj_m_127, 218, [(0, .ref 234), (3, sy_i l3)], [sy_i l3, sy_i 101, .ref 235], h)) mj_d_127_217 (fun _ _ => rfl) ?_
      refine sy_add mj_d_127_218 ?_
      refine sy_st (S' := (mj_m_127, 220, [(0, .ref 234), (3, sy_i l3)], [.ref 234, sy_i (101 + l3), .ref 235], h)) mj_d_127_219 (fun _ _ => rfl) ?_
      refine sy_gr2 (b := 241) mj_d_127_220 rfl rfl (by decide) rfl rfl hH ?_
      refine sy_st (S' := (mj_m_127, 224, [(0, .ref 234), (3, sy_i l3)], [sy_i l3, .ref 241, sy_i (101 + l3), .ref 235], h)) mj_d_127_223 (fun _ _ => rfl) ?_
      refine sy_ia mj_d_127_224 rfl (by decide) (by omega) (by omega) (ab_el_1 rfl _) hH ?_
      rintro _ rfl bx9 tx9
      refine sg_iasN (v := (sy_rd h 241 ((l3).toNat))) (lo := 0) (hi := 511) 101 106 (by decide) mj_d_127_225 (by omega) (by omega) (by omega) (by omega) (by omega) (by omega) hH ?_
      intro h10 th10 eh10
      refine sy_st (S' := (mj_m_127, 227, [(0, .ref 234), (3, sy_i l3)], [.ref 234], h10)) mj_d_127_226 (fun _ _ => rfl) ?_
      refine sy_gr2 (b := 237) mj_d_127_227 rfl rfl (by decide) rfl rfl th10 ?_
      refine sy_st (S' := (mj_m_127, 231, [(0, .ref 234), (3, sy_i l3)], [sy_i l3, .ref 237], h10)) mj_d_127_230 (fun _ _ => rfl) ?_
      refine sy_st (S' := (mj_m_127, 232, [(0, .ref 234), (3, sy_i l3)], [.ref 234, sy_i l3, .ref 237], h10)) mj_d_127_231 (fun _ _ => rfl) ?_
      refine sy_gr2 (b := 242) mj_d_127_232 rfl rfl (by decide) rfl rfl th10 ?_
      refine sy_st (S' := (mj_m_127, 236, [(0, .ref 234), (3, sy_i l3)], [sy_i l3, .ref 242, sy_i l3, .ref 237], h10)) mj_d_127_235 (fun _ _ => rfl) ?_
      refine sy_ia mj_d_127_236 rfl (by decide) (by omega) (by omega) (ab_el_1 rfl _) th10 ?_
      intro x11 ex11 bx11 tx11
      rw [eh10, sg_na (by decide)] at ex11
      subst ex11
      refine sg_ias (v := (sy_rd h 242 ((l3).toNat))) mj_d_127_237 rfl (by decide) (by omega) (by omega) (ab_el_1 rfl _) th10 (by omega) (by omega) ⟨by omega, by omega⟩ ?_
      intro h12 th12 eh12
      rw [eh10] at eh12
      refine sy_inc (a := l3) (lv' := [(3, sy_i (l3 + 1)), (0, .ref 234)]) mj_d_127_238 (Nat.le_of_ble_eq_true rfl) rfl rfl ?_
      refine sy_st (S' := (mj_m_127, 203, [(3, sy_i (l3 + 1)), (0, .ref 234)], [], h12)) mj_d_127_241 (fun _ _ => rfl) ?_
      refine sy_lv (lv := [(0, .ref 234), (3, sy_i (l3 + 1))]) rfl ⟨rfl, rfl, trivial⟩ ?_
      rw [← eh12]
      exact ih th12 (by first | omega | assumption) (by first | omega | assumption) (by omega)
set_option maxRecDepth 100000 in
theorem dt_R_city_158 : ∀ (n : Nat) {h : mj_H} (hH : sy_H h) {l3 : Int} (b_l3 : 0 ≤ l3) (t_l3 : l3 ≤ 9) (hm : 9 - l3 < (n : Int)), sy_wp (mj_m_127, 158, [(0, .ref 234), (3, sy_i l3)], [], h) (dq2 (-13) (9) (dc_R_city_158 n (sy_rd h) l3)) := by
  intro n
  induction n with
  | zero =>
    intro h hH l3 b_l3 t_l3 hm
    have n234_6 := hH.bd (a := 234) (k := 6) rfl (by decide) rfl
    exact absurd hm (by omega)
  | succ n ih =>
    intro h hH l3 b_l3 t_l3 hm
    rw [dc_R_city_158_s]
    have n234_6 := hH.bd (a := 234) (k := 6) rfl (by decide) rfl
    refine sy_st (S' := (mj_m_127, 159, [(0, .ref 234), (3, sy_i l3)], [sy_i l3], h)) mj_d_127_158 (fun _ _ => rfl) ?_
    refine sy_st (S' := (mj_m_127, 160, [(0, .ref 234), (3, sy_i l3)], [.ref 234, sy_i l3], h)) mj_d_127_159 (fun _ _ => rfl) ?_
    refine sy_gf mj_d_127_160 rfl rfl (by decide) rfl hH ?_
    intro x1 ex1 bx1 tx1
    replace ex1 : x1 = sy_rd h 234 6 := ex1
    subst ex1
    refine sy_icm mj_d_127_163 rfl ⟨by omega, by omega⟩ ⟨by omega, by omega⟩ (fun (c2 : (sy_rd h 234 6) ≤ l3) => ?_) (fun (c2 : ¬ ((sy_rd h 234 6) ≤ l3)) => ?_)
    · skip
      rw [if_pos c2]
      refine sy_st (S' := (mj_m_127, 202, [(0, .ref 234), (3, sy_i l3)], [sy_i 0], h)) mj_d_127_201 (fun _ _ => rfl) ?_
      refine sy_st (S' := (mj_m_127, 203, [(3, sy_i 0), (0, .ref 234)], [], h)) mj_d_127_202 (fun _ _ => rfl) ?_
      refine sy_lv (lv := [(0, .ref 234), (3, sy_i 0)]) rfl ⟨rfl, rfl, trivial⟩ ?_
      exact dt_R_city_203 6 hH (by first | omega | assumption) (by first | omega | assumption) (by omega)
    · skip
      rw [if_neg c2]
      refine sy_st (S' := (mj_m_127, 167, [(0, .ref 234), (3, sy_i l3)], [.ref 234], h)) mj_d_127_166 (fun _ _ => rfl) ?_
      refine sy_gr2 (b := 235) mj_d_127_167 rfl rfl (by decide) rfl rfl hH ?_
      refine sy_st (S' := (mj_m_127, 171, [(0, .ref 234), (3, sy_i l3)], [sy_i 2, .ref 235], h)) mj_d_127_170 (fun _ _ => rfl) ?_
      refine sy_st (S' := (mj_m_127, 172, [(0, .ref 234), (3, sy_i l3)], [sy_i l3, sy_i 2, .ref 235], h)) mj_d_127_171 (fun _ _ => rfl) ?_
      refine sy_add mj_d_127_172 ?_
      refine sy_st (S' := (mj_m_127, 174, [(0, .ref 234), (3, sy_i l3)], [.ref 234, sy_i (2 + l3), .ref 235], h)) mj_d_127_173 (fun _ _ => rfl) ?_
      refine sy_gr2 (b := 240) mj_d_127_174 rfl rfl (by decide) rfl rfl hH ?_
      refine sy_st (S' := (mj_m_127, 178, [(0, .ref 234), (3, sy_i l3)], [sy_i l3, .ref 240, sy_i (2 + l3), .ref 235], h)) mj_d_127_177 (fun _ _ => rfl) ?_
      refine sy_ia mj_d_127_178 rfl (by decide) (by omega) (by omega) (ab_el_1 rfl _) hH ?_
      rintro _ rfl bx3 tx3
      refine sg_iasN (v := (sy_rd h 240 ((l3).toNat))) (lo := 0) (hi := 7) 2 11 (by decide) mj_d_127_179 (by omega) (by omega) (by omega) (by omega) (by omega) (by omega) hH ?_
      intro h4 th4 eh4
      refine sy_st (S' := (mj_m_127, 181, [(0, .ref 234), (3, sy_i l3)], [.ref 234], h4)) mj_d_127_180 (fun _ _ => rfl) ?_
      refine sy_gr2 (b := 235) mj_d_127_181 rfl rfl (by decide) rfl rfl th4 ?_
      refine sy_bip mj_d_127_184 (by decide) ?_
      refine sy_st (S' := (mj_m_127, 187, [(0, .ref 234), (3, sy_i l3)], [sy_i l3, sy_i 11, .ref 235], h4)) mj_d_127_186 (fun _ _ => rfl) ?_
      refine sy_add mj_d_127_187 ?_
      refine sy_st (S' := (mj_m_127, 189, [(0, .ref 234), (3, sy_i l3)], [.ref 234, sy_i (11 + l3), .ref 235], h4)) mj_d_127_188 (fun _ _ => rfl) ?_
      refine sy_gr2 (b := 239) mj_d_127_189 rfl rfl (by decide) rfl rfl th4 ?_
      refine sy_st (S' := (mj_m_127, 193, [(0, .ref 234), (3, sy_i l3)], [sy_i l3, .ref 239, sy_i (11 + l3), .ref 235], h4)) mj_d_127_192 (fun _ _ => rfl) ?_
      refine sg_iaQ mj_d_127_193 (by omega) (by omega) th4 ?_
      intro x5 ex5 bx5
      rw [eh4, sg_na (by decide)] at ex5
      subst ex5
      refine sg_iasR (v := (sy_rd h 239 ((l3).toNat))) mj_d_127_194 (by omega) (by omega) (by omega) (by omega) (by omega) (by omega) th4 ?_
      intro h6 th6 eh6
      rw [eh4] at eh6
      refine sy_inc (a := l3) (lv' := [(3, sy_i (l3 + 1)), (0, .ref 234)]) mj_d_127_195 (Nat.le_of_ble_eq_true rfl) rfl rfl ?_
      refine sy_st (S' := (mj_m_127, 158, [(3, sy_i (l3 + 1)), (0, .ref 234)], [], h6)) mj_d_127_198 (fun _ _ => rfl) ?_
      refine sy_lv (lv := [(0, .ref 234), (3, sy_i (l3 + 1))]) rfl ⟨rfl, rfl, trivial⟩ ?_
      rw [← eh6]
      exact ih th6 (by first | omega | assumption) (by first | omega | assumption) (by omega)
set_option maxRecDepth 100000 in
theorem dt_R_city_89 : ∀ (n : Nat) {h : mj_H} (hH : sy_H h) {l2 l3 : Int} (b_l2 : 0 ≤ l2) (t_l2 : l2 ≤ 2147483647) (b_l3 : 0 ≤ l3) (t_l3 : l3 ≤ 112) (hm : 112 - l3 < (n : Int)), sy_wp (mj_m_127, 89, [(0, .ref 234), (2, sy_i l2), (3, sy_i l3)], [], h) (dq2 (-13) (9) (dc_R_city_89 n (sy_rd h) l2 l3)) := by
  intro n
  induction n with
  | zero =>
    intro h hH l2 l3 b_l2 t_l2 b_l3 t_l3 hm
    exact absurd hm (by omega)
  | succ n ih =>
    intro h hH l2 l3 b_l2 t_l2 b_l3 t_l3 hm
    rw [dc_R_city_89_s]
    refine sy_st (S' := (mj_m_127, 90, [(0, .ref 234), (2, sy_i l2), (3, sy_i l3)], [sy_i l3], h)) mj_d_127_89 (fun _ _ => rfl) ?_
    refine sy_bip mj_d_127_90 (by decide) ?_
    refine sy_icm mj_d_127_92 rfl ⟨by omega, by omega⟩ ⟨by omega, by omega⟩ (fun (c1 : 112 ≤ l3) => ?_) (fun (c1 : ¬ (112 ≤ l3)) => ?_)
    · skip
      rw [if_pos c1]
      refine sy_st (S' := (mj_m_127, 109, [(0, .ref 234), (2, sy_i l2), (3, sy_i l3)], [.ref 234], h)) mj_d_127_108 (fun _ _ => rfl) ?_
      refine sy_gr2 (b := 235) mj_d_127_109 rfl rfl (by decide) rfl rfl hH ?_
      refine sy_bip mj_d_127_112 (by decide) ?_
      refine sy_st (S' := (mj_m_127, 115, [(0, .ref 234), (2, sy_i l2), (3, sy_i l3)], [sy_i l2, sy_i 111, .ref 235], h)) mj_d_127_114 (fun _ _ => rfl) ?_
      refine sg_iasN (v := l2) (lo := 0) (hi := 2147483647) 111 112 (by decide) mj_d_127_115 (by omega) (by omega) (by omega) (by omega) (by omega) (by omega) hH ?_
      intro h2 th2 eh2
      replace eh2 : sy_rd h2 = sg_up (sy_rd h) 235 111 l2 := eh2
      refine sy_st (S' := (mj_m_127, 117, [(0, .ref 234), (2, sy_i l2), (3, sy_i l3)], [.ref 234], h2)) mj_d_127_116 (fun _ _ => rfl) ?_
      refine sy_st (S' := (mj_m_127, 118, [(0, .ref 234), (2, sy_i l2), (3, sy_i l3)], [.ref 234, .ref 234], h2)) mj_d_127_117 (fun _ _ => rfl) ?_
      refine sy_gf mj_d_127_118 rfl rfl (by decide) rfl th2 ?_
      intro x3 ex3 bx3 tx3
      replace ex3 : x3 = sy_rd h2 234 16 := ex3
      rw [eh2, sg_na (by decide)] at ex3
      subst ex3
      refine sg_pf (z := (sy_rd h 234 16)) mj_d_127_121 rfl rfl (by decide) (Or.inr ⟨rfl, by omega, by omega⟩) rfl th2 (by omega) (by omega) ⟨by omega, by omega⟩ ?_
      intro h4 th4 eh4
      rw [eh2] at eh4
      refine sy_st (S' := (mj_m_127, 125, [(0, .ref 234), (2, sy_i l2), (3, sy_i l3)], [.ref 234], h4)) mj_d_127_124 (fun _ _ => rfl) ?_
      refine sy_st (S' := (mj_m_127, 126, [(0, .ref 234), (2, sy_i l2), (3, sy_i l3)], [.ref 234, .ref 234], h4)) mj_d_127_125 (fun _ _ => rfl) ?_
      refine sy_gf mj_d_127_126 rfl rfl (by decide) rfl th4 ?_
      intro x5 ex5 bx5 tx5
      replace ex5 : x5 = sy_rd h4 234 17 := ex5
      rw [eh4, sg_nk (by decide), sg_na (by decide)] at ex5
      subst ex5
      refine sg_pf (z := (sy_rd h 234 17)) mj_d_127_129 rfl rfl (by decide) (Or.inl rfl) rfl th4 (by omega) (by omega) ⟨by omega, by omega⟩ ?_
      intro h6 th6 eh6
      rw [eh4] at eh6
      refine sy_st (S' := (mj_m_127, 133, [(0, .ref 234), (2, sy_i l2), (3, sy_i l3)], [.ref 234], h6)) mj_d_127_132 (fun _ _ => rfl) ?_
      refine sy_st (S' := (mj_m_127, 134, [(0, .ref 234), (2, sy_i l2), (3, sy_i l3)], [.ref 234, .ref 234], h6)) mj_d_127_133 (fun _ _ => rfl) ?_
      refine sy_gf mj_d_127_134 rfl rfl (by decide) rfl th6 ?_
      intro x7 ex7 bx7 tx7
      replace ex7 : x7 = sy_rd h6 234 18 := ex7
      rw [eh6, sg_nk (by decide), sg_nk (by decide), sg_na (by decide)] at ex7
      subst ex7
      refine sg_pf (z := (sy_rd h 234 18)) mj_d_127_137 rfl rfl (by decide) (Or.inl rfl) rfl th6 (by omega) (by omega) ⟨by omega, by omega⟩ ?_
      intro h8 th8 eh8
      rw [eh6] at eh8
      refine sy_st (S' := (mj_m_127, 141, [(0, .ref 234), (2, sy_i l2), (3, sy_i l3)], [.ref 234], h8)) mj_d_127_140 (fun _ _ => rfl) ?_
      refine sy_st (S' := (mj_m_127, 142, [(0, .ref 234), (2, sy_i l2), (3, sy_i l3)], [.ref 234, .ref 234], h8)) mj_d_127_141 (fun _ _ => rfl) ?_
      refine sy_gf mj_d_127_142 rfl rfl (by decide) rfl th8 ?_
      intro x9 ex9 bx9 tx9
      replace ex9 : x9 = sy_rd h8 234 19 := ex9
      rw [eh8, sg_nk (by decide), sg_nk (by decide), sg_nk (by decide), sg_na (by decide)] at ex9
      subst ex9
      refine sg_pf (z := (sy_rd h 234 19)) mj_d_127_145 rfl rfl (by decide) (Or.inl rfl) rfl th8 (by omega) (by omega) ⟨by omega, by omega⟩ ?_
      intro h10 th10 eh10
      rw [eh8] at eh10
      refine sy_st (S' := (mj_m_127, 149, [(0, .ref 234), (2, sy_i l2), (3, sy_i l3)], [.ref 234], h10)) mj_d_127_148 (fun _ _ => rfl) ?_
      refine sy_st (S' := (mj_m_127, 150, [(0, .ref 234), (2, sy_i l2), (3, sy_i l3)], [.ref 234, .ref 234], h10)) mj_d_127_149 (fun _ _ => rfl) ?_
      refine sy_gf mj_d_127_150 rfl rfl (by decide) rfl th10 ?_
      intro x11 ex11 bx11 tx11
      replace ex11 : x11 = sy_rd h10 234 22 := ex11
      rw [eh10, sg_nk (by decide), sg_nk (by decide), sg_nk (by decide), sg_nk (by decide), sg_na (by decide)] at ex11
      subst ex11
      refine sg_pf (z := (sy_rd h 234 22)) mj_d_127_153 rfl rfl (by decide) (Or.inl rfl) rfl th10 (by omega) (by omega) ⟨by omega, by omega⟩ ?_
      intro h12 th12 eh12
      rw [eh10] at eh12
      refine sy_st (S' := (mj_m_127, 157, [(0, .ref 234), (2, sy_i l2), (3, sy_i l3)], [sy_i 0], h12)) mj_d_127_156 (fun _ _ => rfl) ?_
      refine sy_st (S' := (mj_m_127, 158, [(3, sy_i 0), (0, .ref 234), (2, sy_i l2)], [], h12)) mj_d_127_157 (fun _ _ => rfl) ?_
      refine sy_lv (lv := [(0, .ref 234), (3, sy_i 0)]) rfl ⟨rfl, rfl, trivial⟩ ?_
      rw [← eh12]
      exact dt_R_city_158 10 th12 (by first | omega | assumption) (by first | omega | assumption) (by omega)
    · skip
      rw [if_neg c1]
      refine sy_st (S' := (mj_m_127, 96, [(0, .ref 234), (2, sy_i l2), (3, sy_i l3)], [.ref 234], h)) mj_d_127_95 (fun _ _ => rfl) ?_
      refine sy_gr2 (b := 235) mj_d_127_96 rfl rfl (by decide) rfl rfl hH ?_
      refine sy_st (S' := (mj_m_127, 100, [(0, .ref 234), (2, sy_i l2), (3, sy_i l3)], [sy_i l3, .ref 235], h)) mj_d_127_99 (fun _ _ => rfl) ?_
      refine sy_st (S' := (mj_m_127, 101, [(0, .ref 234), (2, sy_i l2), (3, sy_i l3)], [sy_i 0, sy_i l3, .ref 235], h)) mj_d_127_100 (fun _ _ => rfl) ?_
      refine sg_ias0 mj_d_127_101 (by omega) (by omega) hH ?_
      intro h13 th13 eh13
      refine sy_inc (a := l3) (lv' := [(3, sy_i (l3 + 1)), (0, .ref 234), (2, sy_i l2)]) mj_d_127_102 (Nat.le_of_ble_eq_true rfl) rfl rfl ?_
      refine sy_st (S' := (mj_m_127, 89, [(3, sy_i (l3 + 1)), (0, .ref 234), (2, sy_i l2)], [], h13)) mj_d_127_105 (fun _ _ => rfl) ?_
      refine sy_lv (lv := [(0, .ref 234), (2, sy_i l2), (3, sy_i (l3 + 1))]) rfl ⟨rfl, rfl, rfl, trivial⟩ ?_
      rw [← eh13]
      exact ih th13 (by first | omega | assumption) (by first | omega | assumption) (by first | omega | assumption) (by first | omega | assumption) (by omega)
set_option maxRecDepth 100000 in
theorem dt_R_city_42 : ∀ (n : Nat) {h : mj_H} (hH : sy_H h) {l1 : Int} (b_l1 : 0 ≤ l1) (t_l1 : l1 ≤ 1) (hm : 240 - (sy_rd h 234 11) + l1 < (n : Int)), sy_wp (mj_m_127, 42, [(0, .ref 234), (1, sy_i l1)], [], h) (dq2 (-13) (9) (dc_R_city_42 n (sy_rd h) l1)) := by
  intro n
  induction n with
  | zero =>
    intro h hH l1 b_l1 t_l1 hm
    have n234_11 := hH.bd (a := 234) (k := 11) rfl (by decide) rfl
    exact absurd hm (by omega)
  | succ n ih =>
    intro h hH l1 b_l1 t_l1 hm
    rw [dc_R_city_42_s]
    have n234_11 := hH.bd (a := 234) (k := 11) rfl (by decide) rfl
    refine sy_st (S' := (mj_m_127, 43, [(0, .ref 234), (1, sy_i l1)], [sy_i l1], h)) mj_d_127_42 (fun _ _ => rfl) ?_
    refine sy_ifc mj_d_127_43 rfl ⟨by omega, by omega⟩ (fun (c1 : l1 = 0) => ?_) (fun (c1 : ¬ (l1 = 0)) => ?_)
    · skip
      rw [if_pos c1]
      refine sy_st (S' := (mj_m_127, 63, [(0, .ref 234), (1, sy_i l1)], [.ref 234], h)) mj_d_127_62 (fun _ _ => rfl) ?_
      refine sy_st (S' := (mj_m_127, 64, [(0, .ref 234), (1, sy_i l1)], [sy_i 0, .ref 234], h)) mj_d_127_63 (fun _ _ => rfl) ?_
      refine sg_pf (z := 0) mj_d_127_64 rfl rfl (by decide) (Or.inl rfl) rfl hH (by omega) (by omega) ⟨by omega, by omega⟩ ?_
      intro h2 th2 eh2
      refine sy_st (S' := (mj_m_127, 68, [(0, .ref 234), (1, sy_i l1)], [sy_i l1], h2)) mj_d_127_67 (fun _ _ => rfl) ?_
      refine sy_ifc mj_d_127_68 rfl ⟨by omega, by omega⟩ (fun (c3 : ¬ (l1 = 0)) => ?_) (fun (c3 : ¬ ¬ (l1 = 0)) => ?_)
      · skip
        rw [if_neg c3]
        refine sy_st (S' := (mj_m_127, 80, [(0, .ref 234), (1, sy_i l1)], [.ref 234], h2)) mj_d_127_79 (fun _ _ => rfl) ?_
        refine sy_gr2 (b := 235) mj_d_127_80 rfl rfl (by decide) rfl rfl th2 ?_
        refine sy_bip mj_d_127_83 (by decide) ?_
        refine sg_iaN (lo := 0) (hi := 2147483647) 111 112 (by decide) mj_d_127_85 (by omega) (by omega) (by omega) (by omega) th2 ?_
        intro x4 ex4 bx4 tx4
        replace ex4 : x4 = sy_rd h2 235 111 := ex4
        rw [eh2, sg_na (by decide)] at ex4
        subst ex4
        refine sy_st (S' := (mj_m_127, 87, [(2, sy_i (sy_rd h 235 111)), (0, .ref 234), (1, sy_i l1)], [], h2)) mj_d_127_86 (fun _ _ => rfl) ?_
        refine sy_st (S' := (mj_m_127, 88, [(2, sy_i (sy_rd h 235 111)), (0, .ref 234), (1, sy_i l1)], [sy_i 0], h2)) mj_d_127_87 (fun _ _ => rfl) ?_
        refine sy_st (S' := (mj_m_127, 89, [(3, sy_i 0), (2, sy_i (sy_rd h 235 111)), (0, .ref 234), (1, sy_i l1)], [], h2)) mj_d_127_88 (fun _ _ => rfl) ?_
        refine sy_lv (lv := [(0, .ref 234), (2, sy_i (sy_rd h 235 111)), (3, sy_i 0)]) rfl ⟨rfl, rfl, rfl, trivial⟩ ?_
        rw [← eh2]
        exact dt_R_city_89 113 th2 (by first | omega | assumption) (by first | omega | assumption) (by first | omega | assumption) (by first | omega | assumption) (by omega)
      · skip
        rw [if_pos (Decidable.not_not.mp c3)]
        replace c3 := Decidable.not_not.mp c3
        refine sy_bip mj_d_127_71 (by decide) ?_
        refine sy_st (S' := (mj_m_127, 74, [(0, .ref 234), (1, sy_i l1)], [.ref 234, sy_i (-10)], h2)) mj_d_127_73 (fun _ _ => rfl) ?_
        refine sy_gf mj_d_127_74 rfl rfl (by decide) rfl th2 ?_
        intro x5 ex5 bx5 tx5
        replace ex5 : x5 = sy_rd h2 234 14 := ex5
        rw [eh2, sg_nk (by decide)] at ex5
        subst ex5
        refine sy_sub mj_d_127_77 ?_
        exact sy_reti mj_d_127_78 rfl ⟨th2, eh2, rfl, by omega, by omega⟩
    · skip
      rw [if_neg c1]
      refine sy_st (S' := (mj_m_127, 47, [(0, .ref 234), (1, sy_i l1)], [.ref 234], h)) mj_d_127_46 (fun _ _ => rfl) ?_
      refine sy_cv (M' := mj_m_128) (vs := [.ref 234]) (rest := []) mj_d_127_47 rfl rfl rfl rfl hH rfl rfl ⟨by decide, ⟨Nat.le_of_ble_eq_true rfl, Nat.le_of_ble_eq_true rfl, Nat.le_of_ble_eq_true rfl, Nat.le_of_ble_eq_true rfl, Nat.le_of_ble_eq_true rfl⟩⟩ (dt_R_here hH) ?_
      rintro _ h6 ⟨th6, eh6, rfl, b7, b7t⟩
      show sy_wp (mj_m_127, 50, [(0, .ref 234), (1, sy_i l1)], [sy_i ((dc_R_here (sy_rd h)).2)], h6) _
      have hx := rt_hereY hH rfl
      refine sy_st (S' := (mj_m_127, 51, [(0, .ref 234), (1, sy_i l1)], [sy_i (-1), sy_i ((dc_R_here (sy_rd h)).2)], h6)) mj_d_127_50 (fun _ _ => rfl) ?_
      refine sy_icm mj_d_127_51 rfl ⟨by omega, by omega⟩ ⟨by omega, by omega⟩ (fun (c8 : ((dc_R_here (sy_rd h)).2) = (-1)) => ?_) (fun (c8 : ¬ (((dc_R_here (sy_rd h)).2) = (-1))) => ?_)
      · skip
        rw [if_pos c8]
        refine sy_st (S' := (mj_m_127, 63, [(0, .ref 234), (1, sy_i l1)], [.ref 234], h6)) mj_d_127_62 (fun _ _ => rfl) ?_
        refine sy_st (S' := (mj_m_127, 64, [(0, .ref 234), (1, sy_i l1)], [sy_i 0, .ref 234], h6)) mj_d_127_63 (fun _ _ => rfl) ?_
        refine sg_pf (z := 0) mj_d_127_64 rfl rfl (by decide) (Or.inl rfl) rfl th6 (by omega) (by omega) ⟨by omega, by omega⟩ ?_
        intro h9 th9 eh9
        rw [eh6] at eh9
        refine sy_st (S' := (mj_m_127, 68, [(0, .ref 234), (1, sy_i l1)], [sy_i l1], h9)) mj_d_127_67 (fun _ _ => rfl) ?_
        refine sy_ifc mj_d_127_68 rfl ⟨by omega, by omega⟩ (fun (c10 : ¬ (l1 = 0)) => ?_) (fun (c10 : ¬ ¬ (l1 = 0)) => ?_)
        · skip
          rw [if_neg c10]
          refine sy_st (S' := (mj_m_127, 80, [(0, .ref 234), (1, sy_i l1)], [.ref 234], h9)) mj_d_127_79 (fun _ _ => rfl) ?_
          refine sy_gr2 (b := 235) mj_d_127_80 rfl rfl (by decide) rfl rfl th9 ?_
          refine sy_bip mj_d_127_83 (by decide) ?_
          refine sg_iaN (lo := 0) (hi := 2147483647) 111 112 (by decide) mj_d_127_85 (by omega) (by omega) (by omega) (by omega) th9 ?_
          intro x11 ex11 bx11 tx11
          replace ex11 : x11 = sy_rd h9 235 111 := ex11
          rw [eh9, sg_na (by decide), dr_R_here _ 235 111 rfl] at ex11
          subst ex11
          refine sy_st (S' := (mj_m_127, 87, [(2, sy_i (sy_rd h 235 111)), (0, .ref 234), (1, sy_i l1)], [], h9)) mj_d_127_86 (fun _ _ => rfl) ?_
          refine sy_st (S' := (mj_m_127, 88, [(2, sy_i (sy_rd h 235 111)), (0, .ref 234), (1, sy_i l1)], [sy_i 0], h9)) mj_d_127_87 (fun _ _ => rfl) ?_
          refine sy_st (S' := (mj_m_127, 89, [(3, sy_i 0), (2, sy_i (sy_rd h 235 111)), (0, .ref 234), (1, sy_i l1)], [], h9)) mj_d_127_88 (fun _ _ => rfl) ?_
          refine sy_lv (lv := [(0, .ref 234), (2, sy_i (sy_rd h 235 111)), (3, sy_i 0)]) rfl ⟨rfl, rfl, rfl, trivial⟩ ?_
          rw [← eh9]
          exact dt_R_city_89 113 th9 (by first | omega | assumption) (by first | omega | assumption) (by first | omega | assumption) (by first | omega | assumption) (by omega)
        · skip
          rw [if_pos (Decidable.not_not.mp c10)]
          replace c10 := Decidable.not_not.mp c10
          refine sy_bip mj_d_127_71 (by decide) ?_
          refine sy_st (S' := (mj_m_127, 74, [(0, .ref 234), (1, sy_i l1)], [.ref 234, sy_i (-10)], h9)) mj_d_127_73 (fun _ _ => rfl) ?_
          refine sy_gf mj_d_127_74 rfl rfl (by decide) rfl th9 ?_
          intro x12 ex12 bx12 tx12
          replace ex12 : x12 = sy_rd h9 234 14 := ex12
          rw [eh9, sg_nk (by decide), dr_R_here _ 234 14 rfl] at ex12
          subst ex12
          refine sy_sub mj_d_127_77 ?_
          exact sy_reti mj_d_127_78 rfl ⟨th9, eh9, rfl, by omega, by omega⟩
      · skip
        rw [if_neg c8]
        refine sy_st (S' := (mj_m_127, 55, [(0, .ref 234), (1, sy_i l1)], [.ref 234], h6)) mj_d_127_54 (fun _ _ => rfl) ?_
        refine sy_cv (M' := mj_m_130) (vs := [.ref 234]) (rest := []) mj_d_127_55 rfl rfl rfl rfl th6 rfl rfl ⟨by decide, ⟨Nat.le_of_ble_eq_true rfl, Nat.le_of_ble_eq_true rfl, Nat.le_of_ble_eq_true rfl, Nat.le_of_ble_eq_true rfl, Nat.le_of_ble_eq_true rfl⟩⟩ (dt_R_takesClause th6) ?_
        rintro _ h13 ⟨th13, eh13, rfl, b14, b14t⟩
        rw [eh6] at eh13 b14 b14t ⊢
        show sy_wp (mj_m_127, 58, [(0, .ref 234), (1, sy_i l1)], [sy_i ((dc_R_takesClause (dc_R_here (sy_rd h)).1).2)], h13) _
        have cx := rt_clauseX th6 eh6
        refine sy_st (S' := (mj_m_127, 59, [(1, sy_i ((dc_R_takesClause (dc_R_here (sy_rd h)).1).2)), (0, .ref 234)], [], h13)) mj_d_127_58 (fun _ _ => rfl) ?_
        refine sy_st (S' := (mj_m_127, 42, [(1, sy_i ((dc_R_takesClause (dc_R_here (sy_rd h)).1).2)), (0, .ref 234)], [], h13)) mj_d_127_59 (fun _ _ => rfl) ?_
        refine sy_lv (lv := [(0, .ref 234), (1, sy_i ((dc_R_takesClause (dc_R_here (sy_rd h)).1).2))]) rfl ⟨rfl, rfl, trivial⟩ ?_
        rw [← eh13]
        exact ih th13 (by first | omega | assumption) (by first | omega | assumption) (by rw [eh13]; omega)
set_option maxRecDepth 100000 in
theorem dt_R_city {h : mj_H} (hH : sy_H h) : sy_wp (mj_m_127, 0, [(0, .ref 234)], [], h) (dq2 (-13) (9) (dc_R_city (sy_rd h))) := by
  unfold dc_R_city
  refine sy_st (S' := (mj_m_127, 1, [(0, .ref 234)], [.ref 234], h)) mj_d_127_0 (fun _ _ => rfl) ?_
  refine sy_st (S' := (mj_m_127, 2, [(0, .ref 234)], [sy_i 0, .ref 234], h)) mj_d_127_1 (fun _ _ => rfl) ?_
  refine sg_pf (z := 0) mj_d_127_2 rfl rfl (by decide) (Or.inl rfl) rfl hH (by omega) (by omega) ⟨by omega, by omega⟩ ?_
  intro h1 th1 eh1
  refine sy_st (S' := (mj_m_127, 6, [(0, .ref 234)], [.ref 234], h1)) mj_d_127_5 (fun _ _ => rfl) ?_
  refine sy_st (S' := (mj_m_127, 7, [(0, .ref 234)], [sy_i 0, .ref 234], h1)) mj_d_127_6 (fun _ _ => rfl) ?_
  refine sg_pf (z := 0) mj_d_127_7 rfl rfl (by decide) (Or.inl rfl) rfl th1 (by omega) (by omega) ⟨by omega, by omega⟩ ?_
  intro h2 th2 eh2
  rw [eh1] at eh2
  refine sy_st (S' := (mj_m_127, 11, [(0, .ref 234)], [.ref 234], h2)) mj_d_127_10 (fun _ _ => rfl) ?_
  refine sy_st (S' := (mj_m_127, 12, [(0, .ref 234)], [sy_i (-1), .ref 234], h2)) mj_d_127_11 (fun _ _ => rfl) ?_
  refine sg_pf (z := (-1)) mj_d_127_12 rfl rfl (by decide) (Or.inl rfl) rfl th2 (by omega) (by omega) ⟨by omega, by omega⟩ ?_
  intro h3 th3 eh3
  rw [eh2] at eh3
  refine sy_st (S' := (mj_m_127, 16, [(0, .ref 234)], [.ref 234], h3)) mj_d_127_15 (fun _ _ => rfl) ?_
  refine sy_st (S' := (mj_m_127, 17, [(0, .ref 234)], [sy_i 0, .ref 234], h3)) mj_d_127_16 (fun _ _ => rfl) ?_
  refine sg_pf (z := 0) mj_d_127_17 rfl rfl (by decide) (Or.inr ⟨rfl, by omega, by omega⟩) rfl th3 (by omega) (by omega) ⟨by omega, by omega⟩ ?_
  intro h4 th4 eh4
  rw [eh3] at eh4
  refine sy_st (S' := (mj_m_127, 21, [(0, .ref 234)], [.ref 234], h4)) mj_d_127_20 (fun _ _ => rfl) ?_
  refine sy_st (S' := (mj_m_127, 22, [(0, .ref 234)], [sy_i 0, .ref 234], h4)) mj_d_127_21 (fun _ _ => rfl) ?_
  refine sg_pf (z := 0) mj_d_127_22 rfl rfl (by decide) (Or.inl rfl) rfl th4 (by omega) (by omega) ⟨by omega, by omega⟩ ?_
  intro h5 th5 eh5
  rw [eh4] at eh5
  refine sy_st (S' := (mj_m_127, 26, [(0, .ref 234)], [.ref 234], h5)) mj_d_127_25 (fun _ _ => rfl) ?_
  refine sy_st (S' := (mj_m_127, 27, [(0, .ref 234)], [sy_i 0, .ref 234], h5)) mj_d_127_26 (fun _ _ => rfl) ?_
  refine sg_pf (z := 0) mj_d_127_27 rfl rfl (by decide) (Or.inl rfl) rfl th5 (by omega) (by omega) ⟨by omega, by omega⟩ ?_
  intro h6 th6 eh6
  rw [eh5] at eh6
  refine sy_st (S' := (mj_m_127, 31, [(0, .ref 234)], [.ref 234], h6)) mj_d_127_30 (fun _ _ => rfl) ?_
  refine sy_st (S' := (mj_m_127, 32, [(0, .ref 234)], [sy_i 0, .ref 234], h6)) mj_d_127_31 (fun _ _ => rfl) ?_
  refine sg_pf (z := 0) mj_d_127_32 rfl rfl (by decide) (Or.inl rfl) rfl th6 (by omega) (by omega) ⟨by omega, by omega⟩ ?_
  intro h7 th7 eh7
  rw [eh6] at eh7
  refine sy_st (S' := (mj_m_127, 36, [(0, .ref 234)], [.ref 234], h7)) mj_d_127_35 (fun _ _ => rfl) ?_
  refine sy_st (S' := (mj_m_127, 37, [(0, .ref 234)], [sy_i 0, .ref 234], h7)) mj_d_127_36 (fun _ _ => rfl) ?_
  refine sg_pf (z := 0) mj_d_127_37 rfl rfl (by decide) (Or.inl rfl) rfl th7 (by omega) (by omega) ⟨by omega, by omega⟩ ?_
  intro h8 th8 eh8
  rw [eh7] at eh8
  refine sy_st (S' := (mj_m_127, 41, [(0, .ref 234)], [sy_i 1], h8)) mj_d_127_40 (fun _ _ => rfl) ?_
  refine sy_st (S' := (mj_m_127, 42, [(1, sy_i 1), (0, .ref 234)], [], h8)) mj_d_127_41 (fun _ _ => rfl) ?_
  refine sy_lv (lv := [(0, .ref 234), (1, sy_i 1)]) rfl ⟨rfl, rfl, trivial⟩ ?_
  rw [← eh8]
  exact dt_R_city_42 242 th8 (by first | omega | assumption) (by first | omega | assumption) (by have := (th8).bd (a := 234) (k := 11) rfl (by decide) rfl; omega)
