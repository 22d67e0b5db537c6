theorem dL_some_0 : decode cL_some 0 = .ok (.iload_n 0, 1) := by decide +kernel
theorem dL_some_1 : decode cL_some 1 = .ok (.iload_n 1, 1) := by decide +kernel
theorem dL_some_2 : decode cL_some 2 = .ok (.irem, 1) := by decide +kernel
theorem dL_some_3 : decode cL_some 3 = .ok (.istore_n 2, 1) := by decide +kernel
theorem dL_some_4 : decode cL_some 4 = .ok (.iload_n 2, 1) := by decide +kernel
theorem dL_some_5 : decode cL_some 5 = .ok (.ifCond .ge 9, 3) := by decide +kernel
theorem dL_some_8 : decode cL_some 8 = .ok (.iload_n 2, 1) := by decide +kernel
theorem dL_some_9 : decode cL_some 9 = .ok (.iload_n 1, 1) := by decide +kernel
theorem dL_some_10 : decode cL_some 10 = .ok (.iadd, 1) := by decide +kernel
theorem dL_some_11 : decode cL_some 11 = .ok (.goto 4, 3) := by decide +kernel
theorem dL_some_14 : decode cL_some 14 = .ok (.iload_n 2, 1) := by decide +kernel
theorem dL_some_15 : decode cL_some 15 = .ok (.ireturn, 1) := by decide +kernel
theorem dL_drawn_0 : decode cL_drawn 0 = .ok (.iload_n 0, 1) := by decide +kernel
theorem dL_drawn_1 : decode cL_drawn 1 = .ok (.bipush 24, 2) := by decide +kernel
theorem dL_drawn_3 : decode cL_drawn 3 = .ok (.idiv, 1) := by decide +kernel
theorem dL_drawn_4 : decode cL_drawn 4 = .ok (.istore_n 2, 1) := by decide +kernel
theorem dL_drawn_5 : decode cL_drawn 5 = .ok (.bipush 24, 2) := by decide +kernel
theorem dL_drawn_7 : decode cL_drawn 7 = .ok (.newarray .int, 2) := by decide +kernel
theorem dL_drawn_9 : decode cL_drawn 9 = .ok (.dup, 1) := by decide +kernel
theorem dL_drawn_10 : decode cL_drawn 10 = .ok (.iconst 0, 1) := by decide +kernel
theorem dL_drawn_11 : decode cL_drawn 11 = .ok (.iconst 1, 1) := by decide +kernel
theorem dL_drawn_12 : decode cL_drawn 12 = .ok (.iastore, 1) := by decide +kernel
theorem dL_drawn_13 : decode cL_drawn 13 = .ok (.dup, 1) := by decide +kernel
theorem dL_drawn_14 : decode cL_drawn 14 = .ok (.iconst 1, 1) := by decide +kernel
theorem dL_drawn_15 : decode cL_drawn 15 = .ok (.iconst 1, 1) := by decide +kernel
theorem dL_drawn_16 : decode cL_drawn 16 = .ok (.iastore, 1) := by decide +kernel
theorem dL_drawn_17 : decode cL_drawn 17 = .ok (.dup, 1) := by decide +kernel
theorem dL_drawn_18 : decode cL_drawn 18 = .ok (.iconst 2, 1) := by decide +kernel
theorem dL_drawn_19 : decode cL_drawn 19 = .ok (.iconst 2, 1) := by decide +kernel
theorem dL_drawn_20 : decode cL_drawn 20 = .ok (.iastore, 1) := by decide +kernel
theorem dL_drawn_21 : decode cL_drawn 21 = .ok (.dup, 1) := by decide +kernel
theorem dL_drawn_22 : decode cL_drawn 22 = .ok (.iconst 3, 1) := by decide +kernel
theorem dL_drawn_23 : decode cL_drawn 23 = .ok (.iconst 3, 1) := by decide +kernel
theorem dL_drawn_24 : decode cL_drawn 24 = .ok (.iastore, 1) := by decide +kernel
theorem dL_drawn_25 : decode cL_drawn 25 = .ok (.dup, 1) := by decide +kernel
theorem dL_drawn_26 : decode cL_drawn 26 = .ok (.iconst 4, 1) := by decide +kernel
theorem dL_drawn_27 : decode cL_drawn 27 = .ok (.iconst 4, 1) := by decide +kernel
theorem dL_drawn_28 : decode cL_drawn 28 = .ok (.iastore, 1) := by decide +kernel
theorem dL_drawn_29 : decode cL_drawn 29 = .ok (.dup, 1) := by decide +kernel
theorem dL_drawn_30 : decode cL_drawn 30 = .ok (.iconst 5, 1) := by decide +kernel
theorem dL_drawn_31 : decode cL_drawn 31 = .ok (.iconst 5, 1) := by decide +kernel
theorem dL_drawn_32 : decode cL_drawn 32 = .ok (.iastore, 1) := by decide +kernel
theorem dL_drawn_33 : decode cL_drawn 33 = .ok (.dup, 1) := by decide +kernel
theorem dL_drawn_34 : decode cL_drawn 34 = .ok (.bipush 6, 2) := by decide +kernel
theorem dL_drawn_36 : decode cL_drawn 36 = .ok (.bipush 6, 2) := by decide +kernel
theorem dL_drawn_38 : decode cL_drawn 38 = .ok (.iastore, 1) := by decide +kernel
theorem dL_drawn_39 : decode cL_drawn 39 = .ok (.dup, 1) := by decide +kernel
theorem dL_drawn_40 : decode cL_drawn 40 = .ok (.bipush 7, 2) := by decide +kernel
theorem dL_drawn_42 : decode cL_drawn 42 = .ok (.bipush 7, 2) := by decide +kernel
theorem dL_drawn_44 : decode cL_drawn 44 = .ok (.iastore, 1) := by decide +kernel
theorem dL_drawn_45 : decode cL_drawn 45 = .ok (.dup, 1) := by decide +kernel
theorem dL_drawn_46 : decode cL_drawn 46 = .ok (.bipush 8, 2) := by decide +kernel
theorem dL_drawn_48 : decode cL_drawn 48 = .ok (.bipush 8, 2) := by decide +kernel
theorem dL_drawn_50 : decode cL_drawn 50 = .ok (.iastore, 1) := by decide +kernel
theorem dL_drawn_51 : decode cL_drawn 51 = .ok (.dup, 1) := by decide +kernel
theorem dL_drawn_52 : decode cL_drawn 52 = .ok (.bipush 9, 2) := by decide +kernel
theorem dL_drawn_54 : decode cL_drawn 54 = .ok (.bipush 9, 2) := by decide +kernel
theorem dL_drawn_56 : decode cL_drawn 56 = .ok (.iastore, 1) := by decide +kernel
theorem dL_drawn_57 : decode cL_drawn 57 = .ok (.dup, 1) := by decide +kernel
theorem dL_drawn_58 : decode cL_drawn 58 = .ok (.bipush 10, 2) := by decide +kernel
theorem dL_drawn_60 : decode cL_drawn 60 = .ok (.bipush 9, 2) := by decide +kernel
theorem dL_drawn_62 : decode cL_drawn 62 = .ok (.iastore, 1) := by decide +kernel
theorem dL_drawn_63 : decode cL_drawn 63 = .ok (.dup, 1) := by decide +kernel
theorem dL_drawn_64 : decode cL_drawn 64 = .ok (.bipush 11, 2) := by decide +kernel
theorem dL_drawn_66 : decode cL_drawn 66 = .ok (.bipush 10, 2) := by decide +kernel
theorem dL_drawn_68 : decode cL_drawn 68 = .ok (.iastore, 1) := by decide +kernel
theorem dL_drawn_69 : decode cL_drawn 69 = .ok (.dup, 1) := by decide +kernel
theorem dL_drawn_70 : decode cL_drawn 70 = .ok (.bipush 12, 2) := by decide +kernel
theorem dL_drawn_72 : decode cL_drawn 72 = .ok (.bipush 10, 2) := by decide +kernel
theorem dL_drawn_74 : decode cL_drawn 74 = .ok (.iastore, 1) := by decide +kernel
theorem dL_drawn_75 : decode cL_drawn 75 = .ok (.dup, 1) := by decide +kernel
theorem dL_drawn_76 : decode cL_drawn 76 = .ok (.bipush 13, 2) := by decide +kernel
theorem dL_drawn_78 : decode cL_drawn 78 = .ok (.bipush 11, 2) := by decide +kernel
theorem dL_drawn_80 : decode cL_drawn 80 = .ok (.iastore, 1) := by decide +kernel
theorem dL_drawn_81 : decode cL_drawn 81 = .ok (.dup, 1) := by decide +kernel
theorem dL_drawn_82 : decode cL_drawn 82 = .ok (.bipush 14, 2) := by decide +kernel
theorem dL_drawn_84 : decode cL_drawn 84 = .ok (.bipush 12, 2) := by decide +kernel
theorem dL_drawn_86 : decode cL_drawn 86 = .ok (.iastore, 1) := by decide +kernel
theorem dL_drawn_87 : decode cL_drawn 87 = .ok (.dup, 1) := by decide +kernel
theorem dL_drawn_88 : decode cL_drawn 88 = .ok (.bipush 15, 2) := by decide +kernel
theorem dL_drawn_90 : decode cL_drawn 90 = .ok (.bipush 13, 2) := by decide +kernel
theorem dL_drawn_92 : decode cL_drawn 92 = .ok (.iastore, 1) := by decide +kernel
theorem dL_drawn_93 : decode cL_drawn 93 = .ok (.dup, 1) := by decide +kernel
theorem dL_drawn_94 : decode cL_drawn 94 = .ok (.bipush 16, 2) := by decide +kernel
theorem dL_drawn_96 : decode cL_drawn 96 = .ok (.bipush 14, 2) := by decide +kernel
theorem dL_drawn_98 : decode cL_drawn 98 = .ok (.iastore, 1) := by decide +kernel
theorem dL_drawn_99 : decode cL_drawn 99 = .ok (.dup, 1) := by decide +kernel
theorem dL_drawn_100 : decode cL_drawn 100 = .ok (.bipush 17, 2) := by decide +kernel
theorem dL_drawn_102 : decode cL_drawn 102 = .ok (.bipush 15, 2) := by decide +kernel
theorem dL_drawn_104 : decode cL_drawn 104 = .ok (.iastore, 1) := by decide +kernel
theorem dL_drawn_105 : decode cL_drawn 105 = .ok (.dup, 1) := by decide +kernel
theorem dL_drawn_106 : decode cL_drawn 106 = .ok (.bipush 18, 2) := by decide +kernel
theorem dL_drawn_108 : decode cL_drawn 108 = .ok (.bipush 16, 2) := by decide +kernel
theorem dL_drawn_110 : decode cL_drawn 110 = .ok (.iastore, 1) := by decide +kernel
theorem dL_drawn_111 : decode cL_drawn 111 = .ok (.dup, 1) := by decide +kernel
theorem dL_drawn_112 : decode cL_drawn 112 = .ok (.bipush 19, 2) := by decide +kernel
theorem dL_drawn_114 : decode cL_drawn 114 = .ok (.bipush 17, 2) := by decide +kernel
theorem dL_drawn_116 : decode cL_drawn 116 = .ok (.iastore, 1) := by decide +kernel
theorem dL_drawn_117 : decode cL_drawn 117 = .ok (.dup, 1) := by decide +kernel
theorem dL_drawn_118 : decode cL_drawn 118 = .ok (.bipush 20, 2) := by decide +kernel
theorem dL_drawn_120 : decode cL_drawn 120 = .ok (.bipush 18, 2) := by decide +kernel
theorem dL_drawn_122 : decode cL_drawn 122 = .ok (.iastore, 1) := by decide +kernel
theorem dL_drawn_123 : decode cL_drawn 123 = .ok (.dup, 1) := by decide +kernel
theorem dL_drawn_124 : decode cL_drawn 124 = .ok (.bipush 21, 2) := by decide +kernel
theorem dL_drawn_126 : decode cL_drawn 126 = .ok (.bipush 19, 2) := by decide +kernel
theorem dL_drawn_128 : decode cL_drawn 128 = .ok (.iastore, 1) := by decide +kernel
theorem dL_drawn_129 : decode cL_drawn 129 = .ok (.dup, 1) := by decide +kernel
theorem dL_drawn_130 : decode cL_drawn 130 = .ok (.bipush 22, 2) := by decide +kernel
theorem dL_drawn_132 : decode cL_drawn 132 = .ok (.bipush 20, 2) := by decide +kernel
theorem dL_drawn_134 : decode cL_drawn 134 = .ok (.iastore, 1) := by decide +kernel
theorem dL_drawn_135 : decode cL_drawn 135 = .ok (.dup, 1) := by decide +kernel
theorem dL_drawn_136 : decode cL_drawn 136 = .ok (.bipush 23, 2) := by decide +kernel
theorem dL_drawn_138 : decode cL_drawn 138 = .ok (.bipush 21, 2) := by decide +kernel
theorem dL_drawn_140 : decode cL_drawn 140 = .ok (.iastore, 1) := by decide +kernel
theorem dL_drawn_141 : decode cL_drawn 141 = .ok (.astore_n 3, 1) := by decide +kernel
theorem dL_drawn_142 : decode cL_drawn 142 = .ok (.aload_n 3, 1) := by decide +kernel
theorem dL_drawn_143 : decode cL_drawn 143 = .ok (.iload_n 0, 1) := by decide +kernel
theorem dL_drawn_144 : decode cL_drawn 144 = .ok (.bipush 24, 2) := by decide +kernel
theorem dL_drawn_146 : decode cL_drawn 146 = .ok (.irem, 1) := by decide +kernel
theorem dL_drawn_147 : decode cL_drawn 147 = .ok (.iaload, 1) := by decide +kernel
theorem dL_drawn_148 : decode cL_drawn 148 = .ok (.bipush 18, 2) := by decide +kernel
theorem dL_drawn_150 : decode cL_drawn 150 = .ok (.if_icmp .ne 13, 3) := by decide +kernel
theorem dL_drawn_153 : decode cL_drawn 153 = .ok (.iload_n 2, 1) := by decide +kernel
theorem dL_drawn_154 : decode cL_drawn 154 = .ok (.iconst 3, 1) := by decide +kernel
theorem dL_drawn_155 : decode cL_drawn 155 = .ok (.irem, 1) := by decide +kernel
theorem dL_drawn_156 : decode cL_drawn 156 = .ok (.ifCond .le 7, 3) := by decide +kernel
theorem dL_drawn_159 : decode cL_drawn 159 = .ok (.iconst 2, 1) := by decide +kernel
theorem dL_drawn_160 : decode cL_drawn 160 = .ok (.goto 9, 3) := by decide +kernel
theorem dL_drawn_163 : decode cL_drawn 163 = .ok (.aload_n 3, 1) := by decide +kernel
theorem dL_drawn_164 : decode cL_drawn 164 = .ok (.iload_n 0, 1) := by decide +kernel
theorem dL_drawn_165 : decode cL_drawn 165 = .ok (.bipush 24, 2) := by decide +kernel
theorem dL_drawn_167 : decode cL_drawn 167 = .ok (.irem, 1) := by decide +kernel
theorem dL_drawn_168 : decode cL_drawn 168 = .ok (.iaload, 1) := by decide +kernel
theorem dL_drawn_169 : decode cL_drawn 169 = .ok (.istore 4, 2) := by decide +kernel
theorem dL_drawn_171 : decode cL_drawn 171 = .ok (.iload_n 2, 1) := by decide +kernel
theorem dL_drawn_172 : decode cL_drawn 172 = .ok (.iconst 5, 1) := by decide +kernel
theorem dL_drawn_173 : decode cL_drawn 173 = .ok (.irem, 1) := by decide +kernel
theorem dL_drawn_174 : decode cL_drawn 174 = .ok (.ifCond .ne 12, 3) := by decide +kernel
theorem dL_drawn_177 : decode cL_drawn 177 = .ok (.iload_n 2, 1) := by decide +kernel
theorem dL_drawn_178 : decode cL_drawn 178 = .ok (.iconst 5, 1) := by decide +kernel
theorem dL_drawn_179 : decode cL_drawn 179 = .ok (.idiv, 1) := by decide +kernel
theorem dL_drawn_180 : decode cL_drawn 180 = .ok (.bipush 70, 2) := by decide +kernel
theorem dL_drawn_182 : decode cL_drawn 182 = .ok (.irem, 1) := by decide +kernel
theorem dL_drawn_183 : decode cL_drawn 183 = .ok (.goto 9, 3) := by decide +kernel
theorem dL_drawn_186 : decode cL_drawn 186 = .ok (.iload_n 2, 1) := by decide +kernel
theorem dL_drawn_187 : decode cL_drawn 187 = .ok (.iconst 5, 1) := by decide +kernel
theorem dL_drawn_188 : decode cL_drawn 188 = .ok (.idiv, 1) := by decide +kernel
theorem dL_drawn_189 : decode cL_drawn 189 = .ok (.bipush 9, 2) := by decide +kernel
theorem dL_drawn_191 : decode cL_drawn 191 = .ok (.irem, 1) := by decide +kernel
theorem dL_drawn_192 : decode cL_drawn 192 = .ok (.istore 5, 2) := by decide +kernel
theorem dL_drawn_194 : decode cL_drawn 194 = .ok (.bipush 63, 2) := by decide +kernel
theorem dL_drawn_196 : decode cL_drawn 196 = .ok (.iload_n 1, 1) := by decide +kernel
theorem dL_drawn_197 : decode cL_drawn 197 = .ok (.iload_n 2, 1) := by decide +kernel
theorem dL_drawn_198 : decode cL_drawn 198 = .ok (.iconst 5, 1) := by decide +kernel
theorem dL_drawn_199 : decode cL_drawn 199 = .ok (.idiv, 1) := by decide +kernel
theorem dL_drawn_200 : decode cL_drawn 200 = .ok (.iconst 5, 1) := by decide +kernel
theorem dL_drawn_201 : decode cL_drawn 201 = .ok (.irem, 1) := by decide +kernel
theorem dL_drawn_202 : decode cL_drawn 202 = .ok (.iadd, 1) := by decide +kernel
theorem dL_drawn_203 : decode cL_drawn 203 = .ok (.iload_n 2, 1) := by decide +kernel
theorem dL_drawn_204 : decode cL_drawn 204 = .ok (.bipush 7, 2) := by decide +kernel
theorem dL_drawn_206 : decode cL_drawn 206 = .ok (.irem, 1) := by decide +kernel
theorem dL_drawn_207 : decode cL_drawn 207 = .ok (.ifCond .ne 7, 3) := by decide +kernel
theorem dL_drawn_210 : decode cL_drawn 210 = .ok (.iconst 3, 1) := by decide +kernel
theorem dL_drawn_211 : decode cL_drawn 211 = .ok (.goto 4, 3) := by decide +kernel
theorem dL_drawn_214 : decode cL_drawn 214 = .ok (.iconst (-1), 1) := by decide +kernel
theorem dL_drawn_215 : decode cL_drawn 215 = .ok (.isub, 1) := by decide +kernel
theorem dL_drawn_216 : decode cL_drawn 216 = .ok (.invokestatic 132, 3) := by decide +kernel
theorem dL_drawn_219 : decode cL_drawn 219 = .ok (.istore 6, 2) := by decide +kernel
theorem dL_drawn_221 : decode cL_drawn 221 = .ok (.iload 4, 2) := by decide +kernel
theorem dL_drawn_223 : decode cL_drawn 223 = .ok (.bipush 11, 2) := by decide +kernel
theorem dL_drawn_225 : decode cL_drawn 225 = .ok (.if_icmp .le 19, 3) := by decide +kernel
theorem dL_drawn_228 : decode cL_drawn 228 = .ok (.iload 4, 2) := by decide +kernel
theorem dL_drawn_230 : decode cL_drawn 230 = .ok (.bipush 16, 2) := by decide +kernel
theorem dL_drawn_232 : decode cL_drawn 232 = .ok (.if_icmp .ge 12, 3) := by decide +kernel
theorem dL_drawn_235 : decode cL_drawn 235 = .ok (.iconst 0, 1) := by decide +kernel
theorem dL_drawn_236 : decode cL_drawn 236 = .ok (.iload 6, 2) := by decide +kernel
theorem dL_drawn_238 : decode cL_drawn 238 = .ok (.invokestatic 137, 3) := by decide +kernel
theorem dL_drawn_241 : decode cL_drawn 241 = .ok (.goto 5, 3) := by decide +kernel
theorem dL_drawn_244 : decode cL_drawn 244 = .ok (.iload 5, 2) := by decide +kernel
theorem dL_drawn_246 : decode cL_drawn 246 = .ok (.istore 5, 2) := by decide +kernel
theorem dL_drawn_248 : decode cL_drawn 248 = .ok (.iconst 5, 1) := by decide +kernel
theorem dL_drawn_249 : decode cL_drawn 249 = .ok (.newarray .int, 2) := by decide +kernel
theorem dL_drawn_251 : decode cL_drawn 251 = .ok (.dup, 1) := by decide +kernel
theorem dL_drawn_252 : decode cL_drawn 252 = .ok (.iconst 0, 1) := by decide +kernel
theorem dL_drawn_253 : decode cL_drawn 253 = .ok (.iload 4, 2) := by decide +kernel
theorem dL_drawn_255 : decode cL_drawn 255 = .ok (.iastore, 1) := by decide +kernel
theorem dL_drawn_256 : decode cL_drawn 256 = .ok (.dup, 1) := by decide +kernel
theorem dL_drawn_257 : decode cL_drawn 257 = .ok (.iconst 1, 1) := by decide +kernel
theorem dL_drawn_258 : decode cL_drawn 258 = .ok (.iload_n 2, 1) := by decide +kernel
theorem dL_drawn_259 : decode cL_drawn 259 = .ok (.iconst 4, 1) := by decide +kernel
theorem dL_drawn_260 : decode cL_drawn 260 = .ok (.irem, 1) := by decide +kernel
theorem dL_drawn_261 : decode cL_drawn 261 = .ok (.iastore, 1) := by decide +kernel
theorem dL_drawn_262 : decode cL_drawn 262 = .ok (.dup, 1) := by decide +kernel
theorem dL_drawn_263 : decode cL_drawn 263 = .ok (.iconst 2, 1) := by decide +kernel
theorem dL_drawn_264 : decode cL_drawn 264 = .ok (.iload_n 2, 1) := by decide +kernel
theorem dL_drawn_265 : decode cL_drawn 265 = .ok (.iconst 4, 1) := by decide +kernel
theorem dL_drawn_266 : decode cL_drawn 266 = .ok (.idiv, 1) := by decide +kernel
theorem dL_drawn_267 : decode cL_drawn 267 = .ok (.iconst 4, 1) := by decide +kernel
theorem dL_drawn_268 : decode cL_drawn 268 = .ok (.irem, 1) := by decide +kernel
theorem dL_drawn_269 : decode cL_drawn 269 = .ok (.iastore, 1) := by decide +kernel
theorem dL_drawn_270 : decode cL_drawn 270 = .ok (.dup, 1) := by decide +kernel
theorem dL_drawn_271 : decode cL_drawn 271 = .ok (.iconst 3, 1) := by decide +kernel
theorem dL_drawn_272 : decode cL_drawn 272 = .ok (.iload_n 2, 1) := by decide +kernel
theorem dL_drawn_273 : decode cL_drawn 273 = .ok (.bipush 16, 2) := by decide +kernel
theorem dL_drawn_275 : decode cL_drawn 275 = .ok (.idiv, 1) := by decide +kernel
theorem dL_drawn_276 : decode cL_drawn 276 = .ok (.iconst 4, 1) := by decide +kernel
theorem dL_drawn_277 : decode cL_drawn 277 = .ok (.irem, 1) := by decide +kernel
theorem dL_drawn_278 : decode cL_drawn 278 = .ok (.iastore, 1) := by decide +kernel
theorem dL_drawn_279 : decode cL_drawn 279 = .ok (.dup, 1) := by decide +kernel
theorem dL_drawn_280 : decode cL_drawn 280 = .ok (.iconst 4, 1) := by decide +kernel
theorem dL_drawn_281 : decode cL_drawn 281 = .ok (.iload 5, 2) := by decide +kernel
theorem dL_drawn_283 : decode cL_drawn 283 = .ok (.iastore, 1) := by decide +kernel
theorem dL_drawn_284 : decode cL_drawn 284 = .ok (.areturn, 1) := by decide +kernel
def mL_some : MD := (cL_some, RL, yL_some, 3, (some .int), 0, 0)
theorem mf_L_some : MF mL_some 2 := MF.of 495 38 (by decide +kernel) (by decide +kernel) (by decide +kernel) (by decide +kernel) (by decide +kernel) rfl
def mL_drawn : MD := (cL_drawn, RL, yL_drawn, 7, (some (.array .int)), 1, 21)
theorem mf_L_drawn : MF mL_drawn 2 := MF.of 1387 38 (by decide +kernel) (by decide +kernel) (by decide +kernel) (by decide +kernel) (by decide +kernel) rfl
theorem cs_L_132 : CSs RL 132 mJ9_min_7cf53 := CSs.of 1388 687 (by decide +kernel) (by decide +kernel)
theorem cs_L_137 : CSs RL 137 mJ9_max_7cf53 := CSs.of 1389 651 (by decide +kernel) (by decide +kernel)
theorem iv_bipush_20 : (Int8.ofInt (20)).toInt32 = 20 := by decide
theorem iv_bipush_22 : (Int8.ofInt (22)).toInt32 = 22 := by decide
theorem iv_bipush_23 : (Int8.ofInt (23)).toInt32 = 23 := by decide
theorem iv_bipush_63 : (Int8.ofInt (63)).toInt32 = 63 := by decide
theorem iv_bipush_7 : (Int8.ofInt (7)).toInt32 = 7 := by decide
theorem iv_bipush_70 : (Int8.ofInt (70)).toInt32 = 70 := by decide
def f_L_some (x0 : Int32) (x1 : Int32) : Option Int32 :=
  ck (¬ (x1 : Int32) = 0) <|
  if 0 ≤ (x0 - x0 / x1 * x1) then
    some (x0 - x0 / x1 * x1)
  else
    some ((x0 - x0 / x1 * x1) + x1)
set_option maxRecDepth 100000 in
theorem s_L_some {l : Launch} {G : Gt} (hG : Gok l G) (x0 : Int32) (x1 : Int32) (μ : Mm) (r : Int32) (h : f_L_some x0 x1 = some r) : ZX l G mL_some 0 [(0, .int x0), (1, .int x1)] [] μ (.inl (some (.int r))) μ := by
  unfold f_L_some at h
  refine zx_iload_n dL_some_0 rfl (q := 0) rfl ?_
  refine zx_iload_n dL_some_1 rfl (q := 1) rfl ?_
  obtain ⟨h1, h⟩ := ck_e h
  refine zx_irem dL_some_2 h1 ?_
  refine zx_istore_n (L' := [(2, .int (x0 - x0 / x1 * x1)), (0, .int x0), (1, .int x1)]) dL_some_3 rfl (by decide) rfl ?_
  refine zx_iload_n dL_some_4 rfl (q := 0) rfl ?_
  by_cases c2 : 0 ≤ (x0 - x0 / x1 * x1)
  · have h := it_t c2 h
    refine zx_if_ge_t (tgt := 14) dL_some_5 (by decide) c2 ?_
    refine zx_iload_n dL_some_14 rfl (q := 0) rfl ?_
    cases h
    exact zx_iret dL_some_15 rfl
  · have h := it_f c2 h
    refine zx_if_ge_f (tgt := 14) dL_some_5 (by decide) c2 ?_
    refine zx_iload_n dL_some_8 rfl (q := 0) rfl ?_
    refine zx_iload_n dL_some_9 rfl (q := 2) rfl ?_
    refine zx_iadd dL_some_10 ?_
    refine zx_goto (tgt := 15) dL_some_11 (by decide) ?_
    cases h
    exact zx_iret dL_some_15 rfl
def f_L_drawn_b246 (x2 : Int32) (x4 : Int32) (s0 : Int32) (μ : Mm) : Option (Nat × Mm) :=
  ck (smn 5) <|
  zl (mN μ) fun p128 =>
  zl (nw μ 31 (Int32.toNatClampNeg 5) (Int32.toNatClampNeg 5)) fun μ129 =>
  ck (inb 0 (mL μ129 p128)) <|
  zl (sI μ129 p128 (Int32.toNatClampNeg 0) x4) fun μ135 =>
  ck (¬ (4 : Int32) = 0) <|
  ck (inb 1 (mL μ135 p128)) <|
  zl (sI μ135 p128 (Int32.toNatClampNeg 1) (x2 - x2 / 4 * 4)) fun μ140 =>
  ck (¬ (4 : Int32) = 0) <|
  ck (¬ (4 : Int32) = 0) <|
  ck (inb 2 (mL μ140 p128)) <|
  zl (sI μ140 p128 (Int32.toNatClampNeg 2) ((x2 / 4) - (x2 / 4) / 4 * 4)) fun μ146 =>
  ck (¬ (16 : Int32) = 0) <|
  ck (¬ (4 : Int32) = 0) <|
  ck (inb 3 (mL μ146 p128)) <|
  zl (sI μ146 p128 (Int32.toNatClampNeg 3) ((x2 / 16) - (x2 / 16) / 4 * 4)) fun μ152 =>
  ck (inb 4 (mL μ152 p128)) <|
  zl (sI μ152 p128 (Int32.toNatClampNeg 4) s0) fun μ156 =>
  some (p128, μ156)
def f_L_drawn_b244 (x2 : Int32) (x4 : Int32) (x5 : Int32) (μ : Mm) : Option (Nat × Mm) :=
  f_L_drawn_b246 x2 x4 x5 μ
def f_L_drawn_b215 (x2 : Int32) (x4 : Int32) (x5 : Int32) (s0 : Int32) (s1 : Int32) (s2 : Int32) (μ : Mm) : Option (Nat × Mm) :=
  bd (f_J9_min_7cf53 s2 (s1 - s0)) fun y121 =>
  if x4 ≤ 11 then
    f_L_drawn_b244 x2 x4 x5 μ
  else
    if 16 ≤ x4 then
      f_L_drawn_b244 x2 x4 x5 μ
    else
      bd (f_J9_max_7cf53 0 y121) fun y125 =>
      f_L_drawn_b246 x2 x4 y125 μ
def f_L_drawn_b192 (x1 : Int32) (x2 : Int32) (x4 : Int32) (s0 : Int32) (μ : Mm) : Option (Nat × Mm) :=
  ck (¬ (5 : Int32) = 0) <|
  ck (¬ (5 : Int32) = 0) <|
  ck (¬ (7 : Int32) = 0) <|
  if ¬ (x2 - x2 / 7 * 7) = 0 then
    f_L_drawn_b215 x2 x4 s0 ((-1)) (x1 + ((x2 / 5) - (x2 / 5) / 5 * 5)) 63 μ
  else
    f_L_drawn_b215 x2 x4 s0 3 (x1 + ((x2 / 5) - (x2 / 5) / 5 * 5)) 63 μ
def f_L_drawn_b169 (x1 : Int32) (x2 : Int32) (s0 : Int32) (μ : Mm) : Option (Nat × Mm) :=
  ck (¬ (5 : Int32) = 0) <|
  if ¬ (x2 - x2 / 5 * 5) = 0 then
    ck (¬ (5 : Int32) = 0) <|
    ck (¬ (9 : Int32) = 0) <|
    f_L_drawn_b192 x1 x2 s0 ((x2 / 5) - (x2 / 5) / 9 * 9) μ
  else
    ck (¬ (5 : Int32) = 0) <|
    ck (¬ (70 : Int32) = 0) <|
    f_L_drawn_b192 x1 x2 s0 ((x2 / 5) - (x2 / 5) / 70 * 70) μ
def f_L_drawn_b163 (x0 : Int32) (x1 : Int32) (x2 : Int32) (a3 : Nat) (μ : Mm) : Option (Nat × Mm) :=
  ck (¬ (24 : Int32) = 0) <|
  ck (isA 1 (mK μ a3)) <|
  ck (inb (x0 - x0 / 24 * 24) (mL μ a3)) <|
  f_L_drawn_b169 x1 x2 (mI μ a3 (Int32.toNatClampNeg (x0 - x0 / 24 * 24))) μ
def f_L_drawn_b142 (x0 : Int32) (x1 : Int32) (x2 : Int32) (a3 : Nat) (μ : Mm) : Option (Nat × Mm) :=
  ck (¬ (24 : Int32) = 0) <|
  ck (isA 1 (mK μ a3)) <|
  ck (inb (x0 - x0 / 24 * 24) (mL μ a3)) <|
  if ¬ (mI μ a3 (Int32.toNatClampNeg (x0 - x0 / 24 * 24))) = 18 then
    f_L_drawn_b163 x0 x1 x2 a3 μ
  else
    ck (¬ (3 : Int32) = 0) <|
    if (x2 - x2 / 3 * 3) ≤ 0 then
      f_L_drawn_b163 x0 x1 x2 a3 μ
    else
      f_L_drawn_b169 x1 x2 2 μ
def f_L_drawn (x0 : Int32) (x1 : Int32) (μ : Mm) : Option (Nat × Mm) :=
  ck (¬ (24 : Int32) = 0) <|
  ck (smn 24) <|
  zl (mN μ) fun p3 =>
  zl (nw μ 31 (Int32.toNatClampNeg 24) (Int32.toNatClampNeg 24)) fun μ4 =>
  ck (inb 0 (mL μ4 p3)) <|
  zl (sI μ4 p3 (Int32.toNatClampNeg 0) 1) fun μ10 =>
  ck (inb 1 (mL μ10 p3)) <|
  zl (sI μ10 p3 (Int32.toNatClampNeg 1) 1) fun μ14 =>
  ck (inb 2 (mL μ14 p3)) <|
  zl (sI μ14 p3 (Int32.toNatClampNeg 2) 2) fun μ18 =>
  ck (inb 3 (mL μ18 p3)) <|
  zl (sI μ18 p3 (Int32.toNatClampNeg 3) 3) fun μ22 =>
  ck (inb 4 (mL μ22 p3)) <|
  zl (sI μ22 p3 (Int32.toNatClampNeg 4) 4) fun μ26 =>
  ck (inb 5 (mL μ26 p3)) <|
  zl (sI μ26 p3 (Int32.toNatClampNeg 5) 5) fun μ30 =>
  ck (inb 6 (mL μ30 p3)) <|
  zl (sI μ30 p3 (Int32.toNatClampNeg 6) 6) fun μ34 =>
  ck (inb 7 (mL μ34 p3)) <|
  zl (sI μ34 p3 (Int32.toNatClampNeg 7) 7) fun μ38 =>
  ck (inb 8 (mL μ38 p3)) <|
  zl (sI μ38 p3 (Int32.toNatClampNeg 8) 8) fun μ42 =>
  ck (inb 9 (mL μ42 p3)) <|
  zl (sI μ42 p3 (Int32.toNatClampNeg 9) 9) fun μ46 =>
  ck (inb 10 (mL μ46 p3)) <|
  zl (sI μ46 p3 (Int32.toNatClampNeg 10) 9) fun μ50 =>
  ck (inb 11 (mL μ50 p3)) <|
  zl (sI μ50 p3 (Int32.toNatClampNeg 11) 10) fun μ54 =>
  ck (inb 12 (mL μ54 p3)) <|
  zl (sI μ54 p3 (Int32.toNatClampNeg 12) 10) fun μ58 =>
  ck (inb 13 (mL μ58 p3)) <|
  zl (sI μ58 p3 (Int32.toNatClampNeg 13) 11) fun μ62 =>
  ck (inb 14 (mL μ62 p3)) <|
  zl (sI μ62 p3 (Int32.toNatClampNeg 14) 12) fun μ66 =>
  ck (inb 15 (mL μ66 p3)) <|
  zl (sI μ66 p3 (Int32.toNatClampNeg 15) 13) fun μ70 =>
  ck (inb 16 (mL μ70 p3)) <|
  zl (sI μ70 p3 (Int32.toNatClampNeg 16) 14) fun μ74 =>
  ck (inb 17 (mL μ74 p3)) <|
  zl (sI μ74 p3 (Int32.toNatClampNeg 17) 15) fun μ78 =>
  ck (inb 18 (mL μ78 p3)) <|
  zl (sI μ78 p3 (Int32.toNatClampNeg 18) 16) fun μ82 =>
  ck (inb 19 (mL μ82 p3)) <|
  zl (sI μ82 p3 (Int32.toNatClampNeg 19) 17) fun μ86 =>
  ck (inb 20 (mL μ86 p3)) <|
  zl (sI μ86 p3 (Int32.toNatClampNeg 20) 18) fun μ90 =>
  ck (inb 21 (mL μ90 p3)) <|
  zl (sI μ90 p3 (Int32.toNatClampNeg 21) 19) fun μ94 =>
  ck (inb 22 (mL μ94 p3)) <|
  zl (sI μ94 p3 (Int32.toNatClampNeg 22) 20) fun μ98 =>
  ck (inb 23 (mL μ98 p3)) <|
  zl (sI μ98 p3 (Int32.toNatClampNeg 23) 21) fun μ102 =>
  f_L_drawn_b142 x0 x1 (x0 / 24) p3 μ102
set_option maxRecDepth 100000 in
theorem s_L_drawn_b246 {l : Launch} {G : Gt} (hG : Gok l G) (x2 : Int32) (x4 : Int32) (s0 : Int32) (μ : Mm) (r : Nat) (μ' : Mm) (h : f_L_drawn_b246 x2 x4 s0 μ = some (r, μ')) : ZX l G mL_drawn 246 [(2, .int x2), (4, .int x4)] [.int s0] μ (.inl (some (.ref r))) μ' := by
  unfold f_L_drawn_b246 at h
  refine zx_istore (L' := [(5, .int s0), (2, .int x2), (4, .int x4)]) dL_drawn_246 (by decide) rfl ?_
  refine zx_iconst (v := 5) dL_drawn_248 iv_iconst_5 ?_
  obtain ⟨h127, h⟩ := ck_e h
  refine zx_newa 31 (at9 := .int) hG w_ac_int (by decide) (by decide) (smn_e h127) (h127).2 dL_drawn_249 ?_
  obtain ⟨p128, e131, h⟩ := zlm_e h
  obtain ⟨μ129, e132, h⟩ := zlm_e h
  refine zx_mem e132 (zx_stk e131 ?_)
  have h130 : mK μ129 p128 = 31 := nw_Kp e132 e131
  have h133 : isA 1 (mK μ129 p128) := by rw [h130]; decide
  refine zx_dup dL_drawn_251 rfl ?_
  refine zx_iconst (v := 0) dL_drawn_252 iv_iconst_0 ?_
  refine zx_iload dL_drawn_253 (q := 2) rfl ?_
  obtain ⟨h134, h⟩ := ck_e h
  refine zx_iast hG rfl (h133).1 (h133).2 (inb_e h134) dL_drawn_255 ?_
  obtain ⟨μ135, e137, h⟩ := zlm_e h
  refine zx_mem e137 ?_
  have e136 : mK μ135 = mK μ129 := (congrArg mK e137).trans rfl
  refine zx_dup dL_drawn_256 rfl ?_
  refine zx_iconst (v := 1) dL_drawn_257 iv_iconst_1 ?_
  refine zx_iload_n dL_drawn_258 rfl (q := 1) rfl ?_
  refine zx_iconst (v := 4) dL_drawn_259 iv_iconst_4 ?_
  obtain ⟨h138, h⟩ := ck_e h
  refine zx_irem dL_drawn_260 h138 ?_
  obtain ⟨h139, h⟩ := ck_e h
  refine zx_iast hG rfl ((kp_a (e136) h133)).1 ((kp_a (e136) h133)).2 (inb_e h139) dL_drawn_261 ?_
  obtain ⟨μ140, e142, h⟩ := zlm_e h
  refine zx_mem e142 ?_
  have e141 : mK μ140 = mK μ135 := (congrArg mK e142).trans rfl
  refine zx_dup dL_drawn_262 rfl ?_
  refine zx_iconst (v := 2) dL_drawn_263 iv_iconst_2 ?_
  refine zx_iload_n dL_drawn_264 rfl (q := 1) rfl ?_
  refine zx_iconst (v := 4) dL_drawn_265 iv_iconst_4 ?_
  obtain ⟨h143, h⟩ := ck_e h
  refine zx_idiv dL_drawn_266 h143 ?_
  refine zx_iconst (v := 4) dL_drawn_267 iv_iconst_4 ?_
  obtain ⟨h144, h⟩ := ck_e h
  refine zx_irem dL_drawn_268 h144 ?_
  obtain ⟨h145, h⟩ := ck_e h
  refine zx_iast hG rfl ((kp_a (Eq.trans e141 e136) h133)).1 ((kp_a (Eq.trans e141 e136) h133)).2 (inb_e h145) dL_drawn_269 ?_
  obtain ⟨μ146, e148, h⟩ := zlm_e h
  refine zx_mem e148 ?_
  have e147 : mK μ146 = mK μ140 := (congrArg mK e148).trans rfl
  refine zx_dup dL_drawn_270 rfl ?_
  refine zx_iconst (v := 3) dL_drawn_271 iv_iconst_3 ?_
  refine zx_iload_n dL_drawn_272 rfl (q := 1) rfl ?_
  refine zx_bipush (v := 16) dL_drawn_273 iv_bipush_16 ?_
  obtain ⟨h149, h⟩ := ck_e h
  refine zx_idiv dL_drawn_275 h149 ?_
  refine zx_iconst (v := 4) dL_drawn_276 iv_iconst_4 ?_
  obtain ⟨h150, h⟩ := ck_e h
  refine zx_irem dL_drawn_277 h150 ?_
  obtain ⟨h151, h⟩ := ck_e h
  refine zx_iast hG rfl ((kp_a (Eq.trans (Eq.trans e147 e141) e136) h133)).1 ((kp_a (Eq.trans (Eq.trans e147 e141) e136) h133)).2 (inb_e h151) dL_drawn_278 ?_
  obtain ⟨μ152, e154, h⟩ := zlm_e h
  refine zx_mem e154 ?_
  have e153 : mK μ152 = mK μ146 := (congrArg mK e154).trans rfl
  refine zx_dup dL_drawn_279 rfl ?_
  refine zx_iconst (v := 4) dL_drawn_280 iv_iconst_4 ?_
  refine zx_iload dL_drawn_281 (q := 0) rfl ?_
  obtain ⟨h155, h⟩ := ck_e h
  refine zx_iast hG rfl ((kp_a (Eq.trans (Eq.trans (Eq.trans e153 e147) e141) e136) h133)).1 ((kp_a (Eq.trans (Eq.trans (Eq.trans e153 e147) e141) e136) h133)).2 (inb_e h155) dL_drawn_283 ?_
  obtain ⟨μ156, e158, h⟩ := zlm_e h
  refine zx_mem e158 ?_
  have e157 : mK μ156 = mK μ152 := (congrArg mK e158).trans rfl
  cases h
  exact zx_aret dL_drawn_284 rfl (Or.inr ⟨_, rfl⟩)
set_option maxRecDepth 100000 in
theorem s_L_drawn_b244 {l : Launch} {G : Gt} (hG : Gok l G) (x2 : Int32) (x4 : Int32) (x5 : Int32) (μ : Mm) (r : Nat) (μ' : Mm) (h : f_L_drawn_b244 x2 x4 x5 μ = some (r, μ')) : ZX l G mL_drawn 244 [(2, .int x2), (4, .int x4), (5, .int x5)] [] μ (.inl (some (.ref r))) μ' := by
  unfold f_L_drawn_b244 at h
  refine zx_iload dL_drawn_244 (q := 2) rfl ?_
  refine zx_sub (L' := [(2, .int x2), (4, .int x4)]) [0, 1] rfl ?_
  exact s_L_drawn_b246 hG _ _ _ _ _ _ h
set_option maxRecDepth 100000 in
theorem s_L_drawn_b215 {l : Launch} {G : Gt} (hG : Gok l G) (x2 : Int32) (x4 : Int32) (x5 : Int32) (s0 : Int32) (s1 : Int32) (s2 : Int32) (μ : Mm) (r : Nat) (μ' : Mm) (h : f_L_drawn_b215 x2 x4 x5 s0 s1 s2 μ = some (r, μ')) : ZX l G mL_drawn 215 [(2, .int x2), (4, .int x4), (5, .int x5)] [.int s0, .int s1, .int s2] μ (.inl (some (.ref r))) μ' := by
  unfold f_L_drawn_b215 at h
  refine zx_isub dL_drawn_215 ?_
  obtain ⟨y121, z122, h⟩ := bd_e h
  refine zx_callS (As := [.int s2, .int (s1 - s0)]) hG mf_J9_min_7cf53 cs_L_132 ⟨by decide, by decide⟩ rfl rfl (Nat.le_of_ble_eq_true rfl) (s_J9_min_7cf53 hG _ _ _ _ z122) (Nat.le_of_ble_eq_true rfl) dL_drawn_216 ?_
  refine zx_istore (L' := [(6, .int y121), (2, .int x2), (4, .int x4), (5, .int x5)]) dL_drawn_219 (by decide) rfl ?_
  refine zx_iload dL_drawn_221 (q := 2) rfl ?_
  refine zx_bipush (v := 11) dL_drawn_223 iv_bipush_11 ?_
  by_cases c123 : x4 ≤ 11
  · have h := it_t c123 h
    refine zx_icmp_le_t (tgt := 244) dL_drawn_225 (by decide) c123 ?_
    refine zx_sub (L' := [(2, .int x2), (4, .int x4), (5, .int x5)]) [1, 2, 3] rfl ?_
    exact s_L_drawn_b244 hG _ _ _ _ _ _ h
  · have h := it_f c123 h
    refine zx_icmp_le_f (tgt := 244) dL_drawn_225 (by decide) c123 ?_
    refine zx_iload dL_drawn_228 (q := 2) rfl ?_
    refine zx_bipush (v := 16) dL_drawn_230 iv_bipush_16 ?_
    by_cases c124 : 16 ≤ x4
    · have h := it_t c124 h
      refine zx_icmp_ge_t (tgt := 244) dL_drawn_232 (by decide) c124 ?_
      refine zx_sub (L' := [(2, .int x2), (4, .int x4), (5, .int x5)]) [1, 2, 3] rfl ?_
      exact s_L_drawn_b244 hG _ _ _ _ _ _ h
    · have h := it_f c124 h
      refine zx_icmp_ge_f (tgt := 244) dL_drawn_232 (by decide) c124 ?_
      refine zx_iconst (v := 0) dL_drawn_235 iv_iconst_0 ?_
      refine zx_iload dL_drawn_236 (q := 0) rfl ?_
      obtain ⟨y125, z126, h⟩ := bd_e h
      refine zx_callS (As := [.int 0, .int y121]) hG mf_J9_max_7cf53 cs_L_137 ⟨by decide, by decide⟩ rfl rfl (Nat.le_of_ble_eq_true rfl) (s_J9_max_7cf53 hG _ _ _ _ z126) (Nat.le_of_ble_eq_true rfl) dL_drawn_238 ?_
      refine zx_goto (tgt := 246) dL_drawn_241 (by decide) ?_
      refine zx_sub (L' := [(2, .int x2), (4, .int x4)]) [1, 2] rfl ?_
      exact s_L_drawn_b246 hG _ _ _ _ _ _ h
set_option maxRecDepth 100000 in
theorem s_L_drawn_b192 {l : Launch} {G : Gt} (hG : Gok l G) (x1 : Int32) (x2 : Int32) (x4 : Int32) (s0 : Int32) (μ : Mm) (r : Nat) (μ' : Mm) (h : f_L_drawn_b192 x1 x2 x4 s0 μ = some (r, μ')) : ZX l G mL_drawn 192 [(1, .int x1), (2, .int x2), (4, .int x4)] [.int s0] μ (.inl (some (.ref r))) μ' := by
  unfold f_L_drawn_b192 at h
  refine zx_istore (L' := [(5, .int s0), (1, .int x1), (2, .int x2), (4, .int x4)]) dL_drawn_192 (by decide) rfl ?_
  refine zx_bipush (v := 63) dL_drawn_194 iv_bipush_63 ?_
  refine zx_iload_n dL_drawn_196 rfl (q := 1) rfl ?_
  refine zx_iload_n dL_drawn_197 rfl (q := 2) rfl ?_
  refine zx_iconst (v := 5) dL_drawn_198 iv_iconst_5 ?_
  obtain ⟨h117, h⟩ := ck_e h
  refine zx_idiv dL_drawn_199 h117 ?_
  refine zx_iconst (v := 5) dL_drawn_200 iv_iconst_5 ?_
  obtain ⟨h118, h⟩ := ck_e h
  refine zx_irem dL_drawn_201 h118 ?_
  refine zx_iadd dL_drawn_202 ?_
  refine zx_iload_n dL_drawn_203 rfl (q := 2) rfl ?_
  refine zx_bipush (v := 7) dL_drawn_204 iv_bipush_7 ?_
  obtain ⟨h119, h⟩ := ck_e h
  refine zx_irem dL_drawn_206 h119 ?_
  by_cases c120 : ¬ (x2 - x2 / 7 * 7) = 0
  · have h := it_t c120 h
    refine zx_if_ne_t (tgt := 214) dL_drawn_207 (by decide) c120 ?_
    refine zx_iconst (v := (-1)) dL_drawn_214 iv_iconst_m1 ?_
    refine zx_sub (L' := [(2, .int x2), (4, .int x4), (5, .int s0)]) [2, 3, 0] rfl ?_
    exact s_L_drawn_b215 hG _ _ _ _ _ _ _ _ _ h
  · have h := it_f c120 h
    refine zx_if_ne_f (tgt := 214) dL_drawn_207 (by decide) (Classical.not_not.mp c120) ?_
    refine zx_iconst (v := 3) dL_drawn_210 iv_iconst_3 ?_
    refine zx_goto (tgt := 215) dL_drawn_211 (by decide) ?_
    refine zx_sub (L' := [(2, .int x2), (4, .int x4), (5, .int s0)]) [2, 3, 0] rfl ?_
    exact s_L_drawn_b215 hG _ _ _ _ _ _ _ _ _ h
set_option maxRecDepth 100000 in
theorem s_L_drawn_b169 {l : Launch} {G : Gt} (hG : Gok l G) (x1 : Int32) (x2 : Int32) (s0 : Int32) (μ : Mm) (r : Nat) (μ' : Mm) (h : f_L_drawn_b169 x1 x2 s0 μ = some (r, μ')) : ZX l G mL_drawn 169 [(1, .int x1), (2, .int x2)] [.int s0] μ (.inl (some (.ref r))) μ' := by
  unfold f_L_drawn_b169 at h
  refine zx_istore (L' := [(4, .int s0), (1, .int x1), (2, .int x2)]) dL_drawn_169 (by decide) rfl ?_
  refine zx_iload_n dL_drawn_171 rfl (q := 2) rfl ?_
  refine zx_iconst (v := 5) dL_drawn_172 iv_iconst_5 ?_
  obtain ⟨h111, h⟩ := ck_e h
  refine zx_irem dL_drawn_173 h111 ?_
  by_cases c112 : ¬ (x2 - x2 / 5 * 5) = 0
  · have h := it_t c112 h
    refine zx_if_ne_t (tgt := 186) dL_drawn_174 (by decide) c112 ?_
    refine zx_iload_n dL_drawn_186 rfl (q := 2) rfl ?_
    refine zx_iconst (v := 5) dL_drawn_187 iv_iconst_5 ?_
    obtain ⟨h113, h⟩ := ck_e h
    refine zx_idiv dL_drawn_188 h113 ?_
    refine zx_bipush (v := 9) dL_drawn_189 iv_bipush_9 ?_
    obtain ⟨h114, h⟩ := ck_e h
    refine zx_irem dL_drawn_191 h114 ?_
    refine zx_sub (L' := [(1, .int x1), (2, .int x2), (4, .int s0)]) [1, 2, 0] rfl ?_
    exact s_L_drawn_b192 hG _ _ _ _ _ _ _ h
  · have h := it_f c112 h
    refine zx_if_ne_f (tgt := 186) dL_drawn_174 (by decide) (Classical.not_not.mp c112) ?_
    refine zx_iload_n dL_drawn_177 rfl (q := 2) rfl ?_
    refine zx_iconst (v := 5) dL_drawn_178 iv_iconst_5 ?_
    obtain ⟨h115, h⟩ := ck_e h
    refine zx_idiv dL_drawn_179 h115 ?_
    refine zx_bipush (v := 70) dL_drawn_180 iv_bipush_70 ?_
    obtain ⟨h116, h⟩ := ck_e h
    refine zx_irem dL_drawn_182 h116 ?_
    refine zx_goto (tgt := 192) dL_drawn_183 (by decide) ?_
    refine zx_sub (L' := [(1, .int x1), (2, .int x2), (4, .int s0)]) [1, 2, 0] rfl ?_
    exact s_L_drawn_b192 hG _ _ _ _ _ _ _ h
set_option maxRecDepth 100000 in
theorem s_L_drawn_b163 {l : Launch} {G : Gt} (hG : Gok l G) (x0 : Int32) (x1 : Int32) (x2 : Int32) (a3 : Nat) (μ : Mm) (r : Nat) (μ' : Mm) (h : f_L_drawn_b163 x0 x1 x2 a3 μ = some (r, μ')) : ZX l G mL_drawn 163 [(0, .int x0), (1, .int x1), (2, .int x2), (3, .ref a3)] [] μ (.inl (some (.ref r))) μ' := by
  unfold f_L_drawn_b163 at h
  refine zx_aload_n dL_drawn_163 rfl (q := 3) rfl ?_
  refine zx_iload_n dL_drawn_164 rfl (q := 0) rfl ?_
  refine zx_bipush (v := 24) dL_drawn_165 iv_bipush_24 ?_
  obtain ⟨h159, h⟩ := ck_e h
  refine zx_irem dL_drawn_167 h159 ?_
  obtain ⟨h160, h⟩ := ck_e h
  obtain ⟨h161, h⟩ := ck_e h
  refine zx_iald hG rfl (h160).1 (h160).2 (inb_e h161) dL_drawn_168 ?_
  refine zx_sub (L' := [(1, .int x1), (2, .int x2)]) [1, 2] rfl ?_
  exact s_L_drawn_b169 hG _ _ _ _ _ _ h
set_option maxRecDepth 100000 in
theorem s_L_drawn_b142 {l : Launch} {G : Gt} (hG : Gok l G) (x0 : Int32) (x1 : Int32) (x2 : Int32) (a3 : Nat) (μ : Mm) (r : Nat) (μ' : Mm) (h : f_L_drawn_b142 x0 x1 x2 a3 μ = some (r, μ')) : ZX l G mL_drawn 142 [(0, .int x0), (1, .int x1), (2, .int x2), (3, .ref a3)] [] μ (.inl (some (.ref r))) μ' := by
  unfold f_L_drawn_b142 at h
  refine zx_aload_n dL_drawn_142 rfl (q := 3) rfl ?_
  refine zx_iload_n dL_drawn_143 rfl (q := 0) rfl ?_
  refine zx_bipush (v := 24) dL_drawn_144 iv_bipush_24 ?_
  obtain ⟨h105, h⟩ := ck_e h
  refine zx_irem dL_drawn_146 h105 ?_
  obtain ⟨h106, h⟩ := ck_e h
  obtain ⟨h107, h⟩ := ck_e h
  refine zx_iald hG rfl (h106).1 (h106).2 (inb_e h107) dL_drawn_147 ?_
  refine zx_bipush (v := 18) dL_drawn_148 iv_bipush_18 ?_
  by_cases c108 : ¬ (mI μ a3 (Int32.toNatClampNeg (x0 - x0 / 24 * 24))) = 18
  · have h := it_t c108 h
    refine zx_icmp_ne_t (tgt := 163) dL_drawn_150 (by decide) c108 ?_
    exact s_L_drawn_b163 hG _ _ _ _ _ _ _ h
  · have h := it_f c108 h
    refine zx_icmp_ne_f (tgt := 163) dL_drawn_150 (by decide) (Classical.not_not.mp c108) ?_
    refine zx_iload_n dL_drawn_153 rfl (q := 2) rfl ?_
    refine zx_iconst (v := 3) dL_drawn_154 iv_iconst_3 ?_
    obtain ⟨h109, h⟩ := ck_e h
    refine zx_irem dL_drawn_155 h109 ?_
    by_cases c110 : (x2 - x2 / 3 * 3) ≤ 0
    · have h := it_t c110 h
      refine zx_if_le_t (tgt := 163) dL_drawn_156 (by decide) c110 ?_
      exact s_L_drawn_b163 hG _ _ _ _ _ _ _ h
    · have h := it_f c110 h
      refine zx_if_le_f (tgt := 163) dL_drawn_156 (by decide) c110 ?_
      refine zx_iconst (v := 2) dL_drawn_159 iv_iconst_2 ?_
      refine zx_goto (tgt := 169) dL_drawn_160 (by decide) ?_
      refine zx_sub (L' := [(1, .int x1), (2, .int x2)]) [1, 2] rfl ?_
      exact s_L_drawn_b169 hG _ _ _ _ _ _ h
set_option maxRecDepth 100000 in
theorem s_L_drawn {l : Launch} {G : Gt} (hG : Gok l G) (x0 : Int32) (x1 : Int32) (μ : Mm) (r : Nat) (μ' : Mm) (h : f_L_drawn x0 x1 μ = some (r, μ')) : ZX l G mL_drawn 0 [(0, .int x0), (1, .int x1)] [] μ (.inl (some (.ref r))) μ' := by
  unfold f_L_drawn at h
  refine zx_iload_n dL_drawn_0 rfl (q := 0) rfl ?_
  refine zx_bipush (v := 24) dL_drawn_1 iv_bipush_24 ?_
  obtain ⟨h1, h⟩ := ck_e h
  refine zx_idiv dL_drawn_3 h1 ?_
  refine zx_istore_n (L' := [(2, .int (x0 / 24)), (0, .int x0), (1, .int x1)]) dL_drawn_4 rfl (by decide) rfl ?_
  refine zx_bipush (v := 24) dL_drawn_5 iv_bipush_24 ?_
  obtain ⟨h2, h⟩ := ck_e h
  refine zx_newa 31 (at9 := .int) hG w_ac_int (by decide) (by decide) (smn_e h2) (h2).2 dL_drawn_7 ?_
  obtain ⟨p3, e6, h⟩ := zlm_e h
  obtain ⟨μ4, e7, h⟩ := zlm_e h
  refine zx_mem e7 (zx_stk e6 ?_)
  have h5 : mK μ4 p3 = 31 := nw_Kp e7 e6
  have h8 : isA 1 (mK μ4 p3) := by rw [h5]; decide
  refine zx_dup dL_drawn_9 rfl ?_
  refine zx_iconst (v := 0) dL_drawn_10 iv_iconst_0 ?_
  refine zx_iconst (v := 1) dL_drawn_11 iv_iconst_1 ?_
  obtain ⟨h9, h⟩ := ck_e h
  refine zx_iast hG rfl (h8).1 (h8).2 (inb_e h9) dL_drawn_12 ?_
  obtain ⟨μ10, e12, h⟩ := zlm_e h
  refine zx_mem e12 ?_
  have e11 : mK μ10 = mK μ4 := (congrArg mK e12).trans rfl
  refine zx_dup dL_drawn_13 rfl ?_
  refine zx_iconst (v := 1) dL_drawn_14 iv_iconst_1 ?_
  refine zx_iconst (v := 1) dL_drawn_15 iv_iconst_1 ?_
  obtain ⟨h13, h⟩ := ck_e h
  refine zx_iast hG rfl ((kp_a (e11) h8)).1 ((kp_a (e11) h8)).2 (inb_e h13) dL_drawn_16 ?_
  obtain ⟨μ14, e16, h⟩ := zlm_e h
  refine zx_mem e16 ?_
  have e15 : mK μ14 = mK μ10 := (congrArg mK e16).trans rfl
  refine zx_dup dL_drawn_17 rfl ?_
  refine zx_iconst (v := 2) dL_drawn_18 iv_iconst_2 ?_
  refine zx_iconst (v := 2) dL_drawn_19 iv_iconst_2 ?_
  obtain ⟨h17, h⟩ := ck_e h
  refine zx_iast hG rfl ((kp_a (Eq.trans e15 e11) h8)).1 ((kp_a (Eq.trans e15 e11) h8)).2 (inb_e h17) dL_drawn_20 ?_
  obtain ⟨μ18, e20, h⟩ := zlm_e h
  refine zx_mem e20 ?_
  have e19 : mK μ18 = mK μ14 := (congrArg mK e20).trans rfl
  refine zx_dup dL_drawn_21 rfl ?_
  refine zx_iconst (v := 3) dL_drawn_22 iv_iconst_3 ?_
  refine zx_iconst (v := 3) dL_drawn_23 iv_iconst_3 ?_
  obtain ⟨h21, h⟩ := ck_e h
  refine zx_iast hG rfl ((kp_a (Eq.trans (Eq.trans e19 e15) e11) h8)).1 ((kp_a (Eq.trans (Eq.trans e19 e15) e11) h8)).2 (inb_e h21) dL_drawn_24 ?_
  obtain ⟨μ22, e24, h⟩ := zlm_e h
  refine zx_mem e24 ?_
  have e23 : mK μ22 = mK μ18 := (congrArg mK e24).trans rfl
  refine zx_dup dL_drawn_25 rfl ?_
  refine zx_iconst (v := 4) dL_drawn_26 iv_iconst_4 ?_
  refine zx_iconst (v := 4) dL_drawn_27 iv_iconst_4 ?_
  obtain ⟨h25, h⟩ := ck_e h
  refine zx_iast hG rfl ((kp_a (Eq.trans (Eq.trans (Eq.trans e23 e19) e15) e11) h8)).1 ((kp_a (Eq.trans (Eq.trans (Eq.trans e23 e19) e15) e11) h8)).2 (inb_e h25) dL_drawn_28 ?_
  obtain ⟨μ26, e28, h⟩ := zlm_e h
  refine zx_mem e28 ?_
  have e27 : mK μ26 = mK μ22 := (congrArg mK e28).trans rfl
  refine zx_dup dL_drawn_29 rfl ?_
  refine zx_iconst (v := 5) dL_drawn_30 iv_iconst_5 ?_
  refine zx_iconst (v := 5) dL_drawn_31 iv_iconst_5 ?_
  obtain ⟨h29, h⟩ := ck_e h
  refine zx_iast hG rfl ((kp_a (Eq.trans (Eq.trans (Eq.trans (Eq.trans e27 e23) e19) e15) e11) h8)).1 ((kp_a (Eq.trans (Eq.trans (Eq.trans (Eq.trans e27 e23) e19) e15) e11) h8)).2 (inb_e h29) dL_drawn_32 ?_
  obtain ⟨μ30, e32, h⟩ := zlm_e h
  refine zx_mem e32 ?_
  have e31 : mK μ30 = mK μ26 := (congrArg mK e32).trans rfl
  refine zx_dup dL_drawn_33 rfl ?_
  refine zx_bipush (v := 6) dL_drawn_34 iv_bipush_6 ?_
  refine zx_bipush (v := 6) dL_drawn_36 iv_bipush_6 ?_
  obtain ⟨h33, h⟩ := ck_e h
  refine zx_iast hG rfl ((kp_a (Eq.trans (Eq.trans (Eq.trans (Eq.trans (Eq.trans e31 e27) e23) e19) e15) e11) h8)).1 ((kp_a (Eq.trans (Eq.trans (Eq.trans (Eq.trans (Eq.trans e31 e27) e23) e19) e15) e11) h8)).2 (inb_e h33) dL_drawn_38 ?_
  obtain ⟨μ34, e36, h⟩ := zlm_e h
  refine zx_mem e36 ?_
  have e35 : mK μ34 = mK μ30 := (congrArg mK e36).trans rfl
  refine zx_dup dL_drawn_39 rfl ?_
  refine zx_bipush (v := 7) dL_drawn_40 iv_bipush_7 ?_
  refine zx_bipush (v := 7) dL_drawn_42 iv_bipush_7 ?_
  obtain ⟨h37, h⟩ := ck_e h
  refine zx_iast hG rfl ((kp_a (Eq.trans (Eq.trans (Eq.trans (Eq.trans (Eq.trans (Eq.trans e35 e31) e27) e23) e19) e15) e11) h8)).1 ((kp_a (Eq.trans (Eq.trans (Eq.trans (Eq.trans (Eq.trans (Eq.trans e35 e31) e27) e23) e19) e15) e11) h8)).2 (inb_e h37) dL_drawn_44 ?_
  obtain ⟨μ38, e40, h⟩ := zlm_e h
  refine zx_mem e40 ?_
  have e39 : mK μ38 = mK μ34 := (congrArg mK e40).trans rfl
  refine zx_dup dL_drawn_45 rfl ?_
  refine zx_bipush (v := 8) dL_drawn_46 iv_bipush_8 ?_
  refine zx_bipush (v := 8) dL_drawn_48 iv_bipush_8 ?_
  obtain ⟨h41, h⟩ := ck_e h
  refine zx_iast hG rfl ((kp_a (Eq.trans (Eq.trans (Eq.trans (Eq.trans (Eq.trans (Eq.trans (Eq.trans e39 e35) e31) e27) e23) e19) e15) e11) h8)).1 ((kp_a (Eq.trans (Eq.trans (Eq.trans (Eq.trans (Eq.trans (Eq.trans (Eq.trans e39 e35) e31) e27) e23) e19) e15) e11) h8)).2 (inb_e h41) dL_drawn_50 ?_
  obtain ⟨μ42, e44, h⟩ := zlm_e h
  refine zx_mem e44 ?_
  have e43 : mK μ42 = mK μ38 := (congrArg mK e44).trans rfl
  refine zx_dup dL_drawn_51 rfl ?_
  refine zx_bipush (v := 9) dL_drawn_52 iv_bipush_9 ?_
  refine zx_bipush (v := 9) dL_drawn_54 iv_bipush_9 ?_
  obtain ⟨h45, h⟩ := ck_e h
  refine zx_iast hG rfl ((kp_a (Eq.trans (Eq.trans (Eq.trans (Eq.trans (Eq.trans (Eq.trans (Eq.trans (Eq.trans e43 e39) e35) e31) e27) e23) e19) e15) e11) h8)).1 ((kp_a (Eq.trans (Eq.trans (Eq.trans (Eq.trans (Eq.trans (Eq.trans (Eq.trans (Eq.trans e43 e39) e35) e31) e27) e23) e19) e15) e11) h8)).2 (inb_e h45) dL_drawn_56 ?_
  obtain ⟨μ46, e48, h⟩ := zlm_e h
  refine zx_mem e48 ?_
  have e47 : mK μ46 = mK μ42 := (congrArg mK e48).trans rfl
  refine zx_dup dL_drawn_57 rfl ?_
  refine zx_bipush (v := 10) dL_drawn_58 iv_bipush_10 ?_
  refine zx_bipush (v := 9) dL_drawn_60 iv_bipush_9 ?_
  obtain ⟨h49, h⟩ := ck_e h
  refine zx_iast hG rfl ((kp_a (Eq.trans (Eq.trans (Eq.trans (Eq.trans (Eq.trans (Eq.trans (Eq.trans (Eq.trans (Eq.trans e47 e43) e39) e35) e31) e27) e23) e19) e15) e11) h8)).1 ((kp_a (Eq.trans (Eq.trans (Eq.trans (Eq.trans (Eq.trans (Eq.trans (Eq.trans (Eq.trans (Eq.trans e47 e43) e39) e35) e31) e27) e23) e19) e15) e11) h8)).2 (inb_e h49) dL_drawn_62 ?_
  obtain ⟨μ50, e52, h⟩ := zlm_e h
  refine zx_mem e52 ?_
  have e51 : mK μ50 = mK μ46 := (congrArg mK e52).trans rfl
  refine zx_dup dL_drawn_63 rfl ?_
  refine zx_bipush (v := 11) dL_drawn_64 iv_bipush_11 ?_
  refine zx_bipush (v := 10) dL_drawn_66 iv_bipush_10 ?_
  obtain ⟨h53, h⟩ := ck_e h
  refine zx_iast hG rfl ((kp_a (Eq.trans (Eq.trans (Eq.trans (Eq.trans (Eq.trans (Eq.trans (Eq.trans (Eq.trans (Eq.trans (Eq.trans e51 e47) e43) e39) e35) e31) e27) e23) e19) e15) e11) h8)).1 ((kp_a (Eq.trans (Eq.trans (Eq.trans (Eq.trans (Eq.trans (Eq.trans (Eq.trans (Eq.trans (Eq.trans (Eq.trans e51 e47) e43) e39) e35) e31) e27) e23) e19) e15) e11) h8)).2 (inb_e h53) dL_drawn_68 ?_
  obtain ⟨μ54, e56, h⟩ := zlm_e h
  refine zx_mem e56 ?_
  have e55 : mK μ54 = mK μ50 := (congrArg mK e56).trans rfl
  refine zx_dup dL_drawn_69 rfl ?_
  refine zx_bipush (v := 12) dL_drawn_70 iv_bipush_12 ?_
  refine zx_bipush (v := 10) dL_drawn_72 iv_bipush_10 ?_
  obtain ⟨h57, h⟩ := ck_e h
  refine zx_iast hG rfl ((kp_a (Eq.trans (Eq.trans (Eq.trans (Eq.trans (Eq.trans (Eq.trans (Eq.trans (Eq.trans (Eq.trans (Eq.trans (Eq.trans e55 e51) e47) e43) e39) e35) e31) e27) e23) e19) e15) e11) h8)).1 ((kp_a (Eq.trans (Eq.trans (Eq.trans (Eq.trans (Eq.trans (Eq.trans (Eq.trans (Eq.trans (Eq.trans (Eq.trans (Eq.trans e55 e51) e47) e43) e39) e35) e31) e27) e23) e19) e15) e11) h8)).2 (inb_e h57) dL_drawn_74 ?_
  obtain ⟨μ58, e60, h⟩ := zlm_e h
  refine zx_mem e60 ?_
  have e59 : mK μ58 = mK μ54 := (congrArg mK e60).trans rfl
  refine zx_dup dL_drawn_75 rfl ?_
  refine zx_bipush (v := 13) dL_drawn_76 iv_bipush_13 ?_
  refine zx_bipush (v := 11) dL_drawn_78 iv_bipush_11 ?_
  obtain ⟨h61, h⟩ := ck_e h
  refine zx_iast hG rfl ((kp_a (Eq.trans (Eq.trans (Eq.trans (Eq.trans (Eq.trans (Eq.trans (Eq.trans (Eq.trans (Eq.trans (Eq.trans (Eq.trans (Eq.trans e59 e55) e51) e47) e43) e39) e35) e31) e27) e23) e19) e15) e11) h8)).1 ((kp_a (Eq.trans (Eq.trans (Eq.trans (Eq.trans (Eq.trans (Eq.trans (Eq.trans (Eq.trans (Eq.trans (Eq.trans (Eq.trans (Eq.trans e59 e55) e51) e47) e43) e39) e35) e31) e27) e23) e19) e15) e11) h8)).2 (inb_e h61) dL_drawn_80 ?_
  obtain ⟨μ62, e64, h⟩ := zlm_e h
  refine zx_mem e64 ?_
  have e63 : mK μ62 = mK μ58 := (congrArg mK e64).trans rfl
  refine zx_dup dL_drawn_81 rfl ?_
  refine zx_bipush (v := 14) dL_drawn_82 iv_bipush_14 ?_
  refine zx_bipush (v := 12) dL_drawn_84 iv_bipush_12 ?_
  obtain ⟨h65, h⟩ := ck_e h
  refine zx_iast hG rfl ((kp_a (Eq.trans (Eq.trans (Eq.trans (Eq.trans (Eq.trans (Eq.trans (Eq.trans (Eq.trans (Eq.trans (Eq.trans (Eq.trans (Eq.trans (Eq.trans e63 e59) e55) e51) e47) e43) e39) e35) e31) e27) e23) e19) e15) e11) h8)).1 ((kp_a (Eq.trans (Eq.trans (Eq.trans (Eq.trans (Eq.trans (Eq.trans (Eq.trans (Eq.trans (Eq.trans (Eq.trans (Eq.trans (Eq.trans (Eq.trans e63 e59) e55) e51) e47) e43) e39) e35) e31) e27) e23) e19) e15) e11) h8)).2 (inb_e h65) dL_drawn_86 ?_
  obtain ⟨μ66, e68, h⟩ := zlm_e h
  refine zx_mem e68 ?_
  have e67 : mK μ66 = mK μ62 := (congrArg mK e68).trans rfl
  refine zx_dup dL_drawn_87 rfl ?_
  refine zx_bipush (v := 15) dL_drawn_88 iv_bipush_15 ?_
  refine zx_bipush (v := 13) dL_drawn_90 iv_bipush_13 ?_
  obtain ⟨h69, h⟩ := ck_e h
  refine zx_iast hG rfl ((kp_a (Eq.trans (Eq.trans (Eq.trans (Eq.trans (Eq.trans (Eq.trans (Eq.trans (Eq.trans (Eq.trans (Eq.trans (Eq.trans (Eq.trans (Eq.trans (Eq.trans e67 e63) e59) e55) e51) e47) e43) e39) e35) e31) e27) e23) e19) e15) e11) h8)).1 ((kp_a (Eq.trans (Eq.trans (Eq.trans (Eq.trans (Eq.trans (Eq.trans (Eq.trans (Eq.trans (Eq.trans (Eq.trans (Eq.trans (Eq.trans (Eq.trans (Eq.trans e67 e63) e59) e55) e51) e47) e43) e39) e35) e31) e27) e23) e19) e15) e11) h8)).2 (inb_e h69) dL_drawn_92 ?_
  obtain ⟨μ70, e72, h⟩ := zlm_e h
  refine zx_mem e72 ?_
  have e71 : mK μ70 = mK μ66 := (congrArg mK e72).trans rfl
  refine zx_dup dL_drawn_93 rfl ?_
  refine zx_bipush (v := 16) dL_drawn_94 iv_bipush_16 ?_
  refine zx_bipush (v := 14) dL_drawn_96 iv_bipush_14 ?_
  obtain ⟨h73, h⟩ := ck_e h
  refine zx_iast hG rfl ((kp_a (Eq.trans (Eq.trans (Eq.trans (Eq.trans (Eq.trans (Eq.trans (Eq.trans (Eq.trans (Eq.trans (Eq.trans (Eq.trans (Eq.trans (Eq.trans (Eq.trans (Eq.trans e71 e67) e63) e59) e55) e51) e47) e43) e39) e35) e31) e27) e23) e19) e15) e11) h8)).1 ((kp_a (Eq.trans (Eq.trans (Eq.trans (Eq.trans (Eq.trans (Eq.trans (Eq.trans (Eq.trans (Eq.trans (Eq.trans (Eq.trans (Eq.trans (Eq.trans (Eq.trans (Eq.trans e71 e67) e63) e59) e55) e51) e47) e43) e39) e35) e31) e27) e23) e19) e15) e11) h8)).2 (inb_e h73) dL_drawn_98 ?_
  obtain ⟨μ74, e76, h⟩ := zlm_e h
  refine zx_mem e76 ?_
  have e75 : mK μ74 = mK μ70 := (congrArg mK e76).trans rfl
  refine zx_dup dL_drawn_99 rfl ?_
  refine zx_bipush (v := 17) dL_drawn_100 iv_bipush_17 ?_
  refine zx_bipush (v := 15) dL_drawn_102 iv_bipush_15 ?_
  obtain ⟨h77, h⟩ := ck_e h
  refine zx_iast hG rfl ((kp_a (Eq.trans (Eq.trans (Eq.trans (Eq.trans (Eq.trans (Eq.trans (Eq.trans (Eq.trans (Eq.trans (Eq.trans (Eq.trans (Eq.trans (Eq.trans (Eq.trans (Eq.trans (Eq.trans e75 e71) e67) e63) e59) e55) e51) e47) e43) e39) e35) e31) e27) e23) e19) e15) e11) h8)).1 ((kp_a (Eq.trans (Eq.trans (Eq.trans (Eq.trans (Eq.trans (Eq.trans (Eq.trans (Eq.trans (Eq.trans (Eq.trans (Eq.trans (Eq.trans (Eq.trans (Eq.trans (Eq.trans (Eq.trans e75 e71) e67) e63) e59) e55) e51) e47) e43) e39) e35) e31) e27) e23) e19) e15) e11) h8)).2 (inb_e h77) dL_drawn_104 ?_
  obtain ⟨μ78, e80, h⟩ := zlm_e h
  refine zx_mem e80 ?_
  have e79 : mK μ78 = mK μ74 := (congrArg mK e80).trans rfl
  refine zx_dup dL_drawn_105 rfl ?_
  refine zx_bipush (v := 18) dL_drawn_106 iv_bipush_18 ?_
  refine zx_bipush (v := 16) dL_drawn_108 iv_bipush_16 ?_
  obtain ⟨h81, h⟩ := ck_e h
  refine zx_iast hG rfl ((kp_a (Eq.trans (Eq.trans (Eq.trans (Eq.trans (Eq.trans (Eq.trans (Eq.trans (Eq.trans (Eq.trans (Eq.trans (Eq.trans (Eq.trans (Eq.trans (Eq.trans (Eq.trans (Eq.trans (Eq.trans e79 e75) e71) e67) e63) e59) e55) e51) e47) e43) e39) e35) e31) e27) e23) e19) e15) e11) h8)).1 ((kp_a (Eq.trans (Eq.trans (Eq.trans (Eq.trans (Eq.trans (Eq.trans (Eq.trans (Eq.trans (Eq.trans (Eq.trans (Eq.trans (Eq.trans (Eq.trans (Eq.trans (Eq.trans (Eq.trans (Eq.trans e79 e75) e71) e67) e63) e59) e55) e51) e47) e43) e39) e35) e31) e27) e23) e19) e15) e11) h8)).2 (inb_e h81) dL_drawn_110 ?_
  obtain ⟨μ82, e84, h⟩ := zlm_e h
  refine zx_mem e84 ?_
  have e83 : mK μ82 = mK μ78 := (congrArg mK e84).trans rfl
  refine zx_dup dL_drawn_111 rfl ?_
  refine zx_bipush (v := 19) dL_drawn_112 iv_bipush_19 ?_
  refine zx_bipush (v := 17) dL_drawn_114 iv_bipush_17 ?_
  obtain ⟨h85, h⟩ := ck_e h
  refine zx_iast hG rfl ((kp_a (Eq.trans (Eq.trans (Eq.trans (Eq.trans (Eq.trans (Eq.trans (Eq.trans (Eq.trans (Eq.trans (Eq.trans (Eq.trans (Eq.trans (Eq.trans (Eq.trans (Eq.trans (Eq.trans (Eq.trans (Eq.trans e83 e79) e75) e71) e67) e63) e59) e55) e51) e47) e43) e39) e35) e31) e27) e23) e19) e15) e11) h8)).1 ((kp_a (Eq.trans (Eq.trans (Eq.trans (Eq.trans (Eq.trans (Eq.trans (Eq.trans (Eq.trans (Eq.trans (Eq.trans (Eq.trans (Eq.trans (Eq.trans (Eq.trans (Eq.trans (Eq.trans (Eq.trans (Eq.trans e83 e79) e75) e71) e67) e63) e59) e55) e51) e47) e43) e39) e35) e31) e27) e23) e19) e15) e11) h8)).2 (inb_e h85) dL_drawn_116 ?_
  obtain ⟨μ86, e88, h⟩ := zlm_e h
  refine zx_mem e88 ?_
  have e87 : mK μ86 = mK μ82 := (congrArg mK e88).trans rfl
  refine zx_dup dL_drawn_117 rfl ?_
  refine zx_bipush (v := 20) dL_drawn_118 iv_bipush_20 ?_
  refine zx_bipush (v := 18) dL_drawn_120 iv_bipush_18 ?_
  obtain ⟨h89, h⟩ := ck_e h
  refine zx_iast hG rfl ((kp_a (Eq.trans (Eq.trans (Eq.trans (Eq.trans (Eq.trans (Eq.trans (Eq.trans (Eq.trans (Eq.trans (Eq.trans (Eq.trans (Eq.trans (Eq.trans (Eq.trans (Eq.trans (Eq.trans (Eq.trans (Eq.trans (Eq.trans e87 e83) e79) e75) e71) e67) e63) e59) e55) e51) e47) e43) e39) e35) e31) e27) e23) e19) e15) e11) h8)).1 ((kp_a (Eq.trans (Eq.trans (Eq.trans (Eq.trans (Eq.trans (Eq.trans (Eq.trans (Eq.trans (Eq.trans (Eq.trans (Eq.trans (Eq.trans (Eq.trans (Eq.trans (Eq.trans (Eq.trans (Eq.trans (Eq.trans (Eq.trans e87 e83) e79) e75) e71) e67) e63) e59) e55) e51) e47) e43) e39) e35) e31) e27) e23) e19) e15) e11) h8)).2 (inb_e h89) dL_drawn_122 ?_
  obtain ⟨μ90, e92, h⟩ := zlm_e h
  refine zx_mem e92 ?_
  have e91 : mK μ90 = mK μ86 := (congrArg mK e92).trans rfl
  refine zx_dup dL_drawn_123 rfl ?_
  refine zx_bipush (v := 21) dL_drawn_124 iv_bipush_21 ?_
  refine zx_bipush (v := 19) dL_drawn_126 iv_bipush_19 ?_
  obtain ⟨h93, h⟩ := ck_e h
  refine zx_iast hG rfl ((kp_a (Eq.trans (Eq.trans (Eq.trans (Eq.trans (Eq.trans (Eq.trans (Eq.trans (Eq.trans (Eq.trans (Eq.trans (Eq.trans (Eq.trans (Eq.trans (Eq.trans (Eq.trans (Eq.trans (Eq.trans (Eq.trans (Eq.trans (Eq.trans e91 e87) e83) e79) e75) e71) e67) e63) e59) e55) e51) e47) e43) e39) e35) e31) e27) e23) e19) e15) e11) h8)).1 ((kp_a (Eq.trans (Eq.trans (Eq.trans (Eq.trans (Eq.trans (Eq.trans (Eq.trans (Eq.trans (Eq.trans (Eq.trans (Eq.trans (Eq.trans (Eq.trans (Eq.trans (Eq.trans (Eq.trans (Eq.trans (Eq.trans (Eq.trans (Eq.trans e91 e87) e83) e79) e75) e71) e67) e63) e59) e55) e51) e47) e43) e39) e35) e31) e27) e23) e19) e15) e11) h8)).2 (inb_e h93) dL_drawn_128 ?_
  obtain ⟨μ94, e96, h⟩ := zlm_e h
  refine zx_mem e96 ?_
  have e95 : mK μ94 = mK μ90 := (congrArg mK e96).trans rfl
  refine zx_dup dL_drawn_129 rfl ?_
  refine zx_bipush (v := 22) dL_drawn_130 iv_bipush_22 ?_
  refine zx_bipush (v := 20) dL_drawn_132 iv_bipush_20 ?_
  obtain ⟨h97, h⟩ := ck_e h
  refine zx_iast hG rfl ((kp_a (Eq.trans (Eq.trans (Eq.trans (Eq.trans (Eq.trans (Eq.trans (Eq.trans (Eq.trans (Eq.trans (Eq.trans (Eq.trans (Eq.trans (Eq.trans (Eq.trans (Eq.trans (Eq.trans (Eq.trans (Eq.trans (Eq.trans (Eq.trans (Eq.trans e95 e91) e87) e83) e79) e75) e71) e67) e63) e59) e55) e51) e47) e43) e39) e35) e31) e27) e23) e19) e15) e11) h8)).1 ((kp_a (Eq.trans (Eq.trans (Eq.trans (Eq.trans (Eq.trans (Eq.trans (Eq.trans (Eq.trans (Eq.trans (Eq.trans (Eq.trans (Eq.trans (Eq.trans (Eq.trans (Eq.trans (Eq.trans (Eq.trans (Eq.trans (Eq.trans (Eq.trans (Eq.trans e95 e91) e87) e83) e79) e75) e71) e67) e63) e59) e55) e51) e47) e43) e39) e35) e31) e27) e23) e19) e15) e11) h8)).2 (inb_e h97) dL_drawn_134 ?_
  obtain ⟨μ98, e100, h⟩ := zlm_e h
  refine zx_mem e100 ?_
  have e99 : mK μ98 = mK μ94 := (congrArg mK e100).trans rfl
  refine zx_dup dL_drawn_135 rfl ?_
  refine zx_bipush (v := 23) dL_drawn_136 iv_bipush_23 ?_
  refine zx_bipush (v := 21) dL_drawn_138 iv_bipush_21 ?_
  obtain ⟨h101, h⟩ := ck_e h
  refine zx_iast hG rfl ((kp_a (Eq.trans (Eq.trans (Eq.trans (Eq.trans (Eq.trans (Eq.trans (Eq.trans (Eq.trans (Eq.trans (Eq.trans (Eq.trans (Eq.trans (Eq.trans (Eq.trans (Eq.trans (Eq.trans (Eq.trans (Eq.trans (Eq.trans (Eq.trans (Eq.trans (Eq.trans e99 e95) e91) e87) e83) e79) e75) e71) e67) e63) e59) e55) e51) e47) e43) e39) e35) e31) e27) e23) e19) e15) e11) h8)).1 ((kp_a (Eq.trans (Eq.trans (Eq.trans (Eq.trans (Eq.trans (Eq.trans (Eq.trans (Eq.trans (Eq.trans (Eq.trans (Eq.trans (Eq.trans (Eq.trans (Eq.trans (Eq.trans (Eq.trans (Eq.trans (Eq.trans (Eq.trans (Eq.trans (Eq.trans (Eq.trans e99 e95) e91) e87) e83) e79) e75) e71) e67) e63) e59) e55) e51) e47) e43) e39) e35) e31) e27) e23) e19) e15) e11) h8)).2 (inb_e h101) dL_drawn_140 ?_
  obtain ⟨μ102, e104, h⟩ := zlm_e h
  refine zx_mem e104 ?_
  have e103 : mK μ102 = mK μ98 := (congrArg mK e104).trans rfl
  refine zx_astore_n (L' := [(3, .ref p3), (2, .int (x0 / 24)), (0, .int x0), (1, .int x1)]) dL_drawn_141 rfl (by decide) rfl ?_
  refine zx_sub (L' := [(0, .int x0), (1, .int x1), (2, .int (x0 / 24)), (3, .ref p3)]) [2, 3, 1, 0] rfl ?_
  exact s_L_drawn_b142 hG _ _ _ _ _ _ _ h
