theorem dX11_laysFree_0 : decode cX11_laysFree 0 = .ok (.aload_n 0, 1) := by decide +kernel
theorem dX11_laysFree_1 : decode cX11_laysFree 1 = .ok (.aload_n 0, 1) := by decide +kernel
theorem dX11_laysFree_2 : decode cX11_laysFree 2 = .ok (.getfield 35, 3) := by decide +kernel
theorem dX11_laysFree_5 : decode cX11_laysFree 5 = .ok (.bipush 8, 2) := by decide +kernel
theorem dX11_laysFree_7 : decode cX11_laysFree 7 = .ok (.isub, 1) := by decide +kernel
theorem dX11_laysFree_8 : decode cX11_laysFree 8 = .ok (.putfield 126, 3) := by decide +kernel
theorem dX11_laysFree_11 : decode cX11_laysFree 11 = .ok (.iconst 0, 1) := by decide +kernel
theorem dX11_laysFree_12 : decode cX11_laysFree 12 = .ok (.istore_n 1, 1) := by decide +kernel
theorem dX11_laysFree_13 : decode cX11_laysFree 13 = .ok (.iload_n 1, 1) := by decide +kernel
theorem dX11_laysFree_14 : decode cX11_laysFree 14 = .ok (.aload_n 0, 1) := by decide +kernel
theorem dX11_laysFree_15 : decode cX11_laysFree 15 = .ok (.getfield 126, 3) := by decide +kernel
theorem dX11_laysFree_18 : decode cX11_laysFree 18 = .ok (.if_icmp .ge 19, 3) := by decide +kernel
theorem dX11_laysFree_21 : decode cX11_laysFree 21 = .ok (.aload_n 0, 1) := by decide +kernel
theorem dX11_laysFree_22 : decode cX11_laysFree 22 = .ok (.getfield 69, 3) := by decide +kernel
theorem dX11_laysFree_25 : decode cX11_laysFree 25 = .ok (.iload_n 1, 1) := by decide +kernel
theorem dX11_laysFree_26 : decode cX11_laysFree 26 = .ok (.bipush 8, 2) := by decide +kernel
theorem dX11_laysFree_28 : decode cX11_laysFree 28 = .ok (.iload_n 1, 1) := by decide +kernel
theorem dX11_laysFree_29 : decode cX11_laysFree 29 = .ok (.iadd, 1) := by decide +kernel
theorem dX11_laysFree_30 : decode cX11_laysFree 30 = .ok (.iastore, 1) := by decide +kernel
theorem dX11_laysFree_31 : decode cX11_laysFree 31 = .ok (.iinc 1 1, 3) := by decide +kernel
theorem dX11_laysFree_34 : decode cX11_laysFree 34 = .ok (.goto (-21), 3) := by decide +kernel
theorem dX11_laysFree_37 : decode cX11_laysFree 37 = .ok (.return_, 1) := by decide +kernel
theorem dX11_init_0 : decode cX11_init 0 = .ok (.aload_n 0, 1) := by decide +kernel
theorem dX11_init_1 : decode cX11_init 1 = .ok (.invokespecial 1, 3) := by decide +kernel
theorem dX11_init_4 : decode cX11_init 4 = .ok (.aload_n 0, 1) := by decide +kernel
theorem dX11_init_5 : decode cX11_init 5 = .ok (.bipush 64, 2) := by decide +kernel
theorem dX11_init_7 : decode cX11_init 7 = .ok (.newarray .int, 2) := by decide +kernel
theorem dX11_init_9 : decode cX11_init 9 = .ok (.putfield 9, 3) := by decide +kernel
theorem dX11_init_12 : decode cX11_init 12 = .ok (.aload_n 0, 1) := by decide +kernel
theorem dX11_init_13 : decode cX11_init 13 = .ok (.bipush 64, 2) := by decide +kernel
theorem dX11_init_15 : decode cX11_init 15 = .ok (.newarray .int, 2) := by decide +kernel
theorem dX11_init_17 : decode cX11_init 17 = .ok (.putfield 13, 3) := by decide +kernel
theorem dX11_init_20 : decode cX11_init 20 = .ok (.aload_n 0, 1) := by decide +kernel
theorem dX11_init_21 : decode cX11_init 21 = .ok (.bipush 64, 2) := by decide +kernel
theorem dX11_init_23 : decode cX11_init 23 = .ok (.newarray .int, 2) := by decide +kernel
theorem dX11_init_25 : decode cX11_init 25 = .ok (.putfield 16, 3) := by decide +kernel
theorem dX11_init_28 : decode cX11_init 28 = .ok (.aload_n 0, 1) := by decide +kernel
theorem dX11_init_29 : decode cX11_init 29 = .ok (.bipush 64, 2) := by decide +kernel
theorem dX11_init_31 : decode cX11_init 31 = .ok (.newarray .int, 2) := by decide +kernel
theorem dX11_init_33 : decode cX11_init 33 = .ok (.putfield 19, 3) := by decide +kernel
theorem dX11_init_36 : decode cX11_init 36 = .ok (.aload_n 0, 1) := by decide +kernel
theorem dX11_init_37 : decode cX11_init 37 = .ok (.bipush 64, 2) := by decide +kernel
theorem dX11_init_39 : decode cX11_init 39 = .ok (.newarray .int, 2) := by decide +kernel
theorem dX11_init_41 : decode cX11_init 41 = .ok (.putfield 22, 3) := by decide +kernel
theorem dX11_init_44 : decode cX11_init 44 = .ok (.aload_n 0, 1) := by decide +kernel
theorem dX11_init_45 : decode cX11_init 45 = .ok (.iconst 2, 1) := by decide +kernel
theorem dX11_init_46 : decode cX11_init 46 = .ok (.putfield 25, 3) := by decide +kernel
theorem dX11_init_49 : decode cX11_init 49 = .ok (.aload_n 0, 1) := by decide +kernel
theorem dX11_init_50 : decode cX11_init 50 = .ok (.bipush 8, 2) := by decide +kernel
theorem dX11_init_52 : decode cX11_init 52 = .ok (.putfield 29, 3) := by decide +kernel
theorem dX11_init_55 : decode cX11_init 55 = .ok (.aload_n 0, 1) := by decide +kernel
theorem dX11_init_56 : decode cX11_init 56 = .ok (.iconst 4, 1) := by decide +kernel
theorem dX11_init_57 : decode cX11_init 57 = .ok (.putfield 32, 3) := by decide +kernel
theorem dX11_init_60 : decode cX11_init 60 = .ok (.aload_n 0, 1) := by decide +kernel
theorem dX11_init_61 : decode cX11_init 61 = .ok (.bipush 16, 2) := by decide +kernel
theorem dX11_init_63 : decode cX11_init 63 = .ok (.putfield 35, 3) := by decide +kernel
theorem dX11_init_66 : decode cX11_init 66 = .ok (.aload_n 0, 1) := by decide +kernel
theorem dX11_init_67 : decode cX11_init 67 = .ok (.iconst (-1), 1) := by decide +kernel
theorem dX11_init_68 : decode cX11_init 68 = .ok (.putfield 38, 3) := by decide +kernel
theorem dX11_init_71 : decode cX11_init 71 = .ok (.aload_n 0, 1) := by decide +kernel
theorem dX11_init_72 : decode cX11_init 72 = .ok (.iconst (-1), 1) := by decide +kernel
theorem dX11_init_73 : decode cX11_init 73 = .ok (.putfield 41, 3) := by decide +kernel
theorem dX11_init_76 : decode cX11_init 76 = .ok (.aload_n 0, 1) := by decide +kernel
theorem dX11_init_77 : decode cX11_init 77 = .ok (.bipush 8, 2) := by decide +kernel
theorem dX11_init_79 : decode cX11_init 79 = .ok (.newarray .int, 2) := by decide +kernel
theorem dX11_init_81 : decode cX11_init 81 = .ok (.putfield 44, 3) := by decide +kernel
theorem dX11_init_84 : decode cX11_init 84 = .ok (.aload_n 0, 1) := by decide +kernel
theorem dX11_init_85 : decode cX11_init 85 = .ok (.bipush 64, 2) := by decide +kernel
theorem dX11_init_87 : decode cX11_init 87 = .ok (.newarray .int, 2) := by decide +kernel
theorem dX11_init_89 : decode cX11_init 89 = .ok (.putfield 47, 3) := by decide +kernel
theorem dX11_init_92 : decode cX11_init 92 = .ok (.aload_n 0, 1) := by decide +kernel
theorem dX11_init_93 : decode cX11_init 93 = .ok (.bipush 16, 2) := by decide +kernel
theorem dX11_init_95 : decode cX11_init 95 = .ok (.newarray .int, 2) := by decide +kernel
theorem dX11_init_97 : decode cX11_init 97 = .ok (.putfield 50, 3) := by decide +kernel
theorem dX11_init_100 : decode cX11_init 100 = .ok (.aload_n 0, 1) := by decide +kernel
theorem dX11_init_101 : decode cX11_init 101 = .ok (.bipush 64, 2) := by decide +kernel
theorem dX11_init_103 : decode cX11_init 103 = .ok (.newarray .int, 2) := by decide +kernel
theorem dX11_init_105 : decode cX11_init 105 = .ok (.putfield 53, 3) := by decide +kernel
theorem dX11_init_108 : decode cX11_init 108 = .ok (.aload_n 0, 1) := by decide +kernel
theorem dX11_init_109 : decode cX11_init 109 = .ok (.bipush 8, 2) := by decide +kernel
theorem dX11_init_111 : decode cX11_init 111 = .ok (.newarray .int, 2) := by decide +kernel
theorem dX11_init_113 : decode cX11_init 113 = .ok (.putfield 56, 3) := by decide +kernel
theorem dX11_init_116 : decode cX11_init 116 = .ok (.aload_n 0, 1) := by decide +kernel
theorem dX11_init_117 : decode cX11_init 117 = .ok (.bipush 8, 2) := by decide +kernel
theorem dX11_init_119 : decode cX11_init 119 = .ok (.newarray .int, 2) := by decide +kernel
theorem dX11_init_121 : decode cX11_init 121 = .ok (.putfield 59, 3) := by decide +kernel
theorem dX11_init_124 : decode cX11_init 124 = .ok (.aload_n 0, 1) := by decide +kernel
theorem dX11_init_125 : decode cX11_init 125 = .ok (.bipush 24, 2) := by decide +kernel
theorem dX11_init_127 : decode cX11_init 127 = .ok (.newarray .int, 2) := by decide +kernel
theorem dX11_init_129 : decode cX11_init 129 = .ok (.putfield 62, 3) := by decide +kernel
theorem dX11_init_132 : decode cX11_init 132 = .ok (.aload_n 0, 1) := by decide +kernel
theorem dX11_init_133 : decode cX11_init 133 = .ok (.bipush 24, 2) := by decide +kernel
theorem dX11_init_135 : decode cX11_init 135 = .ok (.newarray .boolean, 2) := by decide +kernel
theorem dX11_init_137 : decode cX11_init 137 = .ok (.putfield 65, 3) := by decide +kernel
theorem dX11_init_140 : decode cX11_init 140 = .ok (.aload_n 0, 1) := by decide +kernel
theorem dX11_init_141 : decode cX11_init 141 = .ok (.bipush 24, 2) := by decide +kernel
theorem dX11_init_143 : decode cX11_init 143 = .ok (.newarray .int, 2) := by decide +kernel
theorem dX11_init_145 : decode cX11_init 145 = .ok (.putfield 69, 3) := by decide +kernel
theorem dX11_init_148 : decode cX11_init 148 = .ok (.aload_n 0, 1) := by decide +kernel
theorem dX11_init_149 : decode cX11_init 149 = .ok (.bipush 16, 2) := by decide +kernel
theorem dX11_init_151 : decode cX11_init 151 = .ok (.bipush 28, 2) := by decide +kernel
theorem dX11_init_153 : decode cX11_init 153 = .ok (.multianewarray 72 2, 4) := by decide +kernel
theorem dX11_init_157 : decode cX11_init 157 = .ok (.putfield 74, 3) := by decide +kernel
theorem dX11_init_160 : decode cX11_init 160 = .ok (.aload_n 0, 1) := by decide +kernel
theorem dX11_init_161 : decode cX11_init 161 = .ok (.bipush 8, 2) := by decide +kernel
theorem dX11_init_163 : decode cX11_init 163 = .ok (.bipush 28, 2) := by decide +kernel
theorem dX11_init_165 : decode cX11_init 165 = .ok (.multianewarray 72 2, 4) := by decide +kernel
theorem dX11_init_169 : decode cX11_init 169 = .ok (.putfield 77, 3) := by decide +kernel
theorem dX11_init_172 : decode cX11_init 172 = .ok (.aload_n 0, 1) := by decide +kernel
theorem dX11_init_173 : decode cX11_init 173 = .ok (.iconst 5, 1) := by decide +kernel
theorem dX11_init_174 : decode cX11_init 174 = .ok (.newarray .int, 2) := by decide +kernel
theorem dX11_init_176 : decode cX11_init 176 = .ok (.putfield 80, 3) := by decide +kernel
theorem dX11_init_179 : decode cX11_init 179 = .ok (.aload_n 0, 1) := by decide +kernel
theorem dX11_init_180 : decode cX11_init 180 = .ok (.bipush 16, 2) := by decide +kernel
theorem dX11_init_182 : decode cX11_init 182 = .ok (.newarray .int, 2) := by decide +kernel
theorem dX11_init_184 : decode cX11_init 184 = .ok (.putfield 83, 3) := by decide +kernel
theorem dX11_init_187 : decode cX11_init 187 = .ok (.aload_n 0, 1) := by decide +kernel
theorem dX11_init_188 : decode cX11_init 188 = .ok (.bipush 8, 2) := by decide +kernel
theorem dX11_init_190 : decode cX11_init 190 = .ok (.newarray .int, 2) := by decide +kernel
theorem dX11_init_192 : decode cX11_init 192 = .ok (.putfield 86, 3) := by decide +kernel
theorem dX11_init_195 : decode cX11_init 195 = .ok (.aload_n 0, 1) := by decide +kernel
theorem dX11_init_196 : decode cX11_init 196 = .ok (.bipush 16, 2) := by decide +kernel
theorem dX11_init_198 : decode cX11_init 198 = .ok (.newarray .boolean, 2) := by decide +kernel
theorem dX11_init_200 : decode cX11_init 200 = .ok (.putfield 89, 3) := by decide +kernel
theorem dX11_init_203 : decode cX11_init 203 = .ok (.aload_n 0, 1) := by decide +kernel
theorem dX11_init_204 : decode cX11_init 204 = .ok (.iconst 4, 1) := by decide +kernel
theorem dX11_init_205 : decode cX11_init 205 = .ok (.newarray .int, 2) := by decide +kernel
theorem dX11_init_207 : decode cX11_init 207 = .ok (.putfield 92, 3) := by decide +kernel
theorem dX11_init_210 : decode cX11_init 210 = .ok (.aload_n 0, 1) := by decide +kernel
theorem dX11_init_211 : decode cX11_init 211 = .ok (.iconst 2, 1) := by decide +kernel
theorem dX11_init_212 : decode cX11_init 212 = .ok (.newarray .int, 2) := by decide +kernel
theorem dX11_init_214 : decode cX11_init 214 = .ok (.putfield 95, 3) := by decide +kernel
theorem dX11_init_217 : decode cX11_init 217 = .ok (.aload_n 0, 1) := by decide +kernel
theorem dX11_init_218 : decode cX11_init 218 = .ok (.iconst 2, 1) := by decide +kernel
theorem dX11_init_219 : decode cX11_init 219 = .ok (.newarray .int, 2) := by decide +kernel
theorem dX11_init_221 : decode cX11_init 221 = .ok (.putfield 98, 3) := by decide +kernel
theorem dX11_init_224 : decode cX11_init 224 = .ok (.aload_n 0, 1) := by decide +kernel
theorem dX11_init_225 : decode cX11_init 225 = .ok (.sipush 2004, 3) := by decide +kernel
theorem dX11_init_228 : decode cX11_init 228 = .ok (.newarray .int, 2) := by decide +kernel
theorem dX11_init_230 : decode cX11_init 230 = .ok (.putfield 101, 3) := by decide +kernel
theorem dX11_init_233 : decode cX11_init 233 = .ok (.aload_n 0, 1) := by decide +kernel
theorem dX11_init_234 : decode cX11_init 234 = .ok (.sipush 2004, 3) := by decide +kernel
theorem dX11_init_237 : decode cX11_init 237 = .ok (.newarray .int, 2) := by decide +kernel
theorem dX11_init_239 : decode cX11_init 239 = .ok (.putfield 104, 3) := by decide +kernel
theorem dX11_init_242 : decode cX11_init 242 = .ok (.aload_n 0, 1) := by decide +kernel
theorem dX11_init_243 : decode cX11_init 243 = .ok (.sipush 2004, 3) := by decide +kernel
theorem dX11_init_246 : decode cX11_init 246 = .ok (.anewarray 107, 3) := by decide +kernel
theorem dX11_init_249 : decode cX11_init 249 = .ok (.putfield 108, 3) := by decide +kernel
theorem dX11_init_252 : decode cX11_init 252 = .ok (.aload_n 0, 1) := by decide +kernel
theorem dX11_init_253 : decode cX11_init 253 = .ok (.bipush 8, 2) := by decide +kernel
theorem dX11_init_255 : decode cX11_init 255 = .ok (.newarray .int, 2) := by decide +kernel
theorem dX11_init_257 : decode cX11_init 257 = .ok (.putfield 111, 3) := by decide +kernel
theorem dX11_init_260 : decode cX11_init 260 = .ok (.aload_n 0, 1) := by decide +kernel
theorem dX11_init_261 : decode cX11_init 261 = .ok (.bipush 8, 2) := by decide +kernel
theorem dX11_init_263 : decode cX11_init 263 = .ok (.newarray .int, 2) := by decide +kernel
theorem dX11_init_265 : decode cX11_init 265 = .ok (.putfield 114, 3) := by decide +kernel
theorem dX11_init_268 : decode cX11_init 268 = .ok (.aload_n 0, 1) := by decide +kernel
theorem dX11_init_269 : decode cX11_init 269 = .ok (.bipush 64, 2) := by decide +kernel
theorem dX11_init_271 : decode cX11_init 271 = .ok (.newarray .int, 2) := by decide +kernel
theorem dX11_init_273 : decode cX11_init 273 = .ok (.putfield 117, 3) := by decide +kernel
theorem dX11_init_276 : decode cX11_init 276 = .ok (.iconst 0, 1) := by decide +kernel
theorem dX11_init_277 : decode cX11_init 277 = .ok (.istore_n 1, 1) := by decide +kernel
theorem dX11_init_278 : decode cX11_init 278 = .ok (.iload_n 1, 1) := by decide +kernel
theorem dX11_init_279 : decode cX11_init 279 = .ok (.bipush 16, 2) := by decide +kernel
theorem dX11_init_281 : decode cX11_init 281 = .ok (.if_icmp .ge 24, 3) := by decide +kernel
theorem dX11_init_284 : decode cX11_init 284 = .ok (.aload_n 0, 1) := by decide +kernel
theorem dX11_init_285 : decode cX11_init 285 = .ok (.getfield 50, 3) := by decide +kernel
theorem dX11_init_288 : decode cX11_init 288 = .ok (.iload_n 1, 1) := by decide +kernel
theorem dX11_init_289 : decode cX11_init 289 = .ok (.bipush 6, 2) := by decide +kernel
theorem dX11_init_291 : decode cX11_init 291 = .ok (.iastore, 1) := by decide +kernel
theorem dX11_init_292 : decode cX11_init 292 = .ok (.aload_n 0, 1) := by decide +kernel
theorem dX11_init_293 : decode cX11_init 293 = .ok (.getfield 83, 3) := by decide +kernel
theorem dX11_init_296 : decode cX11_init 296 = .ok (.iload_n 1, 1) := by decide +kernel
theorem dX11_init_297 : decode cX11_init 297 = .ok (.iconst 1, 1) := by decide +kernel
theorem dX11_init_298 : decode cX11_init 298 = .ok (.iastore, 1) := by decide +kernel
theorem dX11_init_299 : decode cX11_init 299 = .ok (.iinc 1 1, 3) := by decide +kernel
theorem dX11_init_302 : decode cX11_init 302 = .ok (.goto (-24), 3) := by decide +kernel
theorem dX11_init_305 : decode cX11_init 305 = .ok (.iconst 0, 1) := by decide +kernel
theorem dX11_init_306 : decode cX11_init 306 = .ok (.istore_n 1, 1) := by decide +kernel
theorem dX11_init_307 : decode cX11_init 307 = .ok (.iload_n 1, 1) := by decide +kernel
theorem dX11_init_308 : decode cX11_init 308 = .ok (.bipush 8, 2) := by decide +kernel
theorem dX11_init_310 : decode cX11_init 310 = .ok (.if_icmp .ge 16, 3) := by decide +kernel
theorem dX11_init_313 : decode cX11_init 313 = .ok (.aload_n 0, 1) := by decide +kernel
theorem dX11_init_314 : decode cX11_init 314 = .ok (.getfield 86, 3) := by decide +kernel
theorem dX11_init_317 : decode cX11_init 317 = .ok (.iload_n 1, 1) := by decide +kernel
theorem dX11_init_318 : decode cX11_init 318 = .ok (.iconst (-1), 1) := by decide +kernel
theorem dX11_init_319 : decode cX11_init 319 = .ok (.iastore, 1) := by decide +kernel
theorem dX11_init_320 : decode cX11_init 320 = .ok (.iinc 1 1, 3) := by decide +kernel
theorem dX11_init_323 : decode cX11_init 323 = .ok (.goto (-16), 3) := by decide +kernel
theorem dX11_init_326 : decode cX11_init 326 = .ok (.iconst 0, 1) := by decide +kernel
theorem dX11_init_327 : decode cX11_init 327 = .ok (.istore_n 1, 1) := by decide +kernel
theorem dX11_init_328 : decode cX11_init 328 = .ok (.iload_n 1, 1) := by decide +kernel
theorem dX11_init_329 : decode cX11_init 329 = .ok (.iconst 4, 1) := by decide +kernel
theorem dX11_init_330 : decode cX11_init 330 = .ok (.if_icmp .ge 16, 3) := by decide +kernel
theorem dX11_init_333 : decode cX11_init 333 = .ok (.aload_n 0, 1) := by decide +kernel
theorem dX11_init_334 : decode cX11_init 334 = .ok (.getfield 92, 3) := by decide +kernel
theorem dX11_init_337 : decode cX11_init 337 = .ok (.iload_n 1, 1) := by decide +kernel
theorem dX11_init_338 : decode cX11_init 338 = .ok (.iconst (-1), 1) := by decide +kernel
theorem dX11_init_339 : decode cX11_init 339 = .ok (.iastore, 1) := by decide +kernel
theorem dX11_init_340 : decode cX11_init 340 = .ok (.iinc 1 1, 3) := by decide +kernel
theorem dX11_init_343 : decode cX11_init 343 = .ok (.goto (-15), 3) := by decide +kernel
theorem dX11_init_346 : decode cX11_init 346 = .ok (.iconst 0, 1) := by decide +kernel
theorem dX11_init_347 : decode cX11_init 347 = .ok (.istore_n 1, 1) := by decide +kernel
theorem dX11_init_348 : decode cX11_init 348 = .ok (.iload_n 1, 1) := by decide +kernel
theorem dX11_init_349 : decode cX11_init 349 = .ok (.bipush 8, 2) := by decide +kernel
theorem dX11_init_351 : decode cX11_init 351 = .ok (.if_icmp .ge 30, 3) := by decide +kernel
theorem dX11_init_354 : decode cX11_init 354 = .ok (.aload_n 0, 1) := by decide +kernel
theorem dX11_init_355 : decode cX11_init 355 = .ok (.getfield 56, 3) := by decide +kernel
theorem dX11_init_358 : decode cX11_init 358 = .ok (.iload_n 1, 1) := by decide +kernel
theorem dX11_init_359 : decode cX11_init 359 = .ok (.iload_n 1, 1) := by decide +kernel
theorem dX11_init_360 : decode cX11_init 360 = .ok (.iastore, 1) := by decide +kernel
theorem dX11_init_361 : decode cX11_init 361 = .ok (.aload_n 0, 1) := by decide +kernel
theorem dX11_init_362 : decode cX11_init 362 = .ok (.getfield 59, 3) := by decide +kernel
theorem dX11_init_365 : decode cX11_init 365 = .ok (.iload_n 1, 1) := by decide +kernel
theorem dX11_init_366 : decode cX11_init 366 = .ok (.iload_n 1, 1) := by decide +kernel
theorem dX11_init_367 : decode cX11_init 367 = .ok (.iastore, 1) := by decide +kernel
theorem dX11_init_368 : decode cX11_init 368 = .ok (.aload_n 0, 1) := by decide +kernel
theorem dX11_init_369 : decode cX11_init 369 = .ok (.getfield 65, 3) := by decide +kernel
theorem dX11_init_372 : decode cX11_init 372 = .ok (.iload_n 1, 1) := by decide +kernel
theorem dX11_init_373 : decode cX11_init 373 = .ok (.iconst 1, 1) := by decide +kernel
theorem dX11_init_374 : decode cX11_init 374 = .ok (.bastore, 1) := by decide +kernel
theorem dX11_init_375 : decode cX11_init 375 = .ok (.iinc 1 1, 3) := by decide +kernel
theorem dX11_init_378 : decode cX11_init 378 = .ok (.goto (-30), 3) := by decide +kernel
theorem dX11_init_381 : decode cX11_init 381 = .ok (.aload_n 0, 1) := by decide +kernel
theorem dX11_init_382 : decode cX11_init 382 = .ok (.invokevirtual 120, 3) := by decide +kernel
theorem dX11_init_385 : decode cX11_init 385 = .ok (.return_, 1) := by decide +kernel
theorem dX11_thrown_0 : decode cX11_thrown 0 = .ok (.aload_n 0, 1) := by decide +kernel
theorem dX11_thrown_1 : decode cX11_thrown 1 = .ok (.getfield 123, 3) := by decide +kernel
theorem dX11_thrown_4 : decode cX11_thrown 4 = .ok (.ireturn, 1) := by decide +kernel
theorem dX11_raises_0 : decode cX11_raises 0 = .ok (.aload_n 0, 1) := by decide +kernel
theorem dX11_raises_1 : decode cX11_raises 1 = .ok (.iload_n 1, 1) := by decide +kernel
theorem dX11_raises_2 : decode cX11_raises 2 = .ok (.putfield 123, 3) := by decide +kernel
theorem dX11_raises_5 : decode cX11_raises 5 = .ok (.iconst 0, 1) := by decide +kernel
theorem dX11_raises_6 : decode cX11_raises 6 = .ok (.ireturn, 1) := by decide +kernel
theorem dX11_in_0 : decode cX11_in 0 = .ok (.iload_n 0, 1) := by decide +kernel
theorem dX11_in_1 : decode cX11_in 1 = .ok (.iload_n 1, 1) := by decide +kernel
theorem dX11_in_2 : decode cX11_in 2 = .ok (.if_icmp .lt 12, 3) := by decide +kernel
theorem dX11_in_5 : decode cX11_in 5 = .ok (.iload_n 0, 1) := by decide +kernel
theorem dX11_in_6 : decode cX11_in 6 = .ok (.iload_n 2, 1) := by decide +kernel
theorem dX11_in_7 : decode cX11_in 7 = .ok (.if_icmp .gt 7, 3) := by decide +kernel
theorem dX11_in_10 : decode cX11_in 10 = .ok (.iconst 1, 1) := by decide +kernel
theorem dX11_in_11 : decode cX11_in 11 = .ok (.goto 4, 3) := by decide +kernel
theorem dX11_in_14 : decode cX11_in 14 = .ok (.iconst 0, 1) := by decide +kernel
theorem dX11_in_15 : decode cX11_in 15 = .ok (.ireturn, 1) := by decide +kernel
theorem dX11_add_0 : decode cX11_add 0 = .ok (.iload_n 1, 1) := by decide +kernel
theorem dX11_add_1 : decode cX11_add 1 = .ok (.iconst 0, 1) := by decide +kernel
theorem dX11_add_2 : decode cX11_add 2 = .ok (.bipush 21, 2) := by decide +kernel
theorem dX11_add_4 : decode cX11_add 4 = .ok (.invokestatic 129, 3) := by decide +kernel
theorem dX11_add_7 : decode cX11_add 7 = .ok (.ifCond .eq 60, 3) := by decide +kernel
theorem dX11_add_10 : decode cX11_add 10 = .ok (.iload_n 2, 1) := by decide +kernel
theorem dX11_add_11 : decode cX11_add 11 = .ok (.iconst 0, 1) := by decide +kernel
theorem dX11_add_12 : decode cX11_add 12 = .ok (.bipush 7, 2) := by decide +kernel
theorem dX11_add_14 : decode cX11_add 14 = .ok (.invokestatic 129, 3) := by decide +kernel
theorem dX11_add_17 : decode cX11_add 17 = .ok (.ifCond .eq 50, 3) := by decide +kernel
theorem dX11_add_20 : decode cX11_add 20 = .ok (.iload_n 3, 1) := by decide +kernel
theorem dX11_add_21 : decode cX11_add 21 = .ok (.iconst 0, 1) := by decide +kernel
theorem dX11_add_22 : decode cX11_add 22 = .ok (.bipush 7, 2) := by decide +kernel
theorem dX11_add_24 : decode cX11_add 24 = .ok (.invokestatic 129, 3) := by decide +kernel
theorem dX11_add_27 : decode cX11_add 27 = .ok (.ifCond .eq 40, 3) := by decide +kernel
theorem dX11_add_30 : decode cX11_add 30 = .ok (.iload 4, 2) := by decide +kernel
theorem dX11_add_32 : decode cX11_add 32 = .ok (.iconst 0, 1) := by decide +kernel
theorem dX11_add_33 : decode cX11_add 33 = .ok (.bipush 7, 2) := by decide +kernel
theorem dX11_add_35 : decode cX11_add 35 = .ok (.invokestatic 129, 3) := by decide +kernel
theorem dX11_add_38 : decode cX11_add 38 = .ok (.ifCond .eq 29, 3) := by decide +kernel
theorem dX11_add_41 : decode cX11_add 41 = .ok (.iload_n 1, 1) := by decide +kernel
theorem dX11_add_42 : decode cX11_add 42 = .ok (.bipush 12, 2) := by decide +kernel
theorem dX11_add_44 : decode cX11_add 44 = .ok (.bipush 15, 2) := by decide +kernel
theorem dX11_add_46 : decode cX11_add 46 = .ok (.invokestatic 129, 3) := by decide +kernel
theorem dX11_add_49 : decode cX11_add 49 = .ok (.ifCond .eq 14, 3) := by decide +kernel
theorem dX11_add_52 : decode cX11_add 52 = .ok (.iload 5, 2) := by decide +kernel
theorem dX11_add_54 : decode cX11_add 54 = .ok (.iconst 0, 1) := by decide +kernel
theorem dX11_add_55 : decode cX11_add 55 = .ok (.bipush 63, 2) := by decide +kernel
theorem dX11_add_57 : decode cX11_add 57 = .ok (.invokestatic 129, 3) := by decide +kernel
theorem dX11_add_60 : decode cX11_add 60 = .ok (.ifCond .eq 7, 3) := by decide +kernel
theorem dX11_add_63 : decode cX11_add 63 = .ok (.iconst 1, 1) := by decide +kernel
theorem dX11_add_64 : decode cX11_add 64 = .ok (.goto 4, 3) := by decide +kernel
theorem dX11_add_67 : decode cX11_add 67 = .ok (.iconst 0, 1) := by decide +kernel
theorem dX11_add_68 : decode cX11_add 68 = .ok (.istore 6, 2) := by decide +kernel
theorem dX11_add_70 : decode cX11_add 70 = .ok (.aload_n 0, 1) := by decide +kernel
theorem dX11_add_71 : decode cX11_add 71 = .ok (.iload 6, 2) := by decide +kernel
theorem dX11_add_73 : decode cX11_add 73 = .ok (.ifCond .ne 7, 3) := by decide +kernel
theorem dX11_add_76 : decode cX11_add 76 = .ok (.iconst 1, 1) := by decide +kernel
theorem dX11_add_77 : decode cX11_add 77 = .ok (.goto 24, 3) := by decide +kernel
theorem dX11_add_80 : decode cX11_add 80 = .ok (.aload_n 0, 1) := by decide +kernel
theorem dX11_add_81 : decode cX11_add 81 = .ok (.getfield 133, 3) := by decide +kernel
theorem dX11_add_84 : decode cX11_add 84 = .ok (.ifCond .gt 12, 3) := by decide +kernel
theorem dX11_add_87 : decode cX11_add 87 = .ok (.aload_n 0, 1) := by decide +kernel
theorem dX11_add_88 : decode cX11_add 88 = .ok (.getfield 136, 3) := by decide +kernel
theorem dX11_add_91 : decode cX11_add 91 = .ok (.bipush 64, 2) := by decide +kernel
theorem dX11_add_93 : decode cX11_add 93 = .ok (.if_icmp .ne 7, 3) := by decide +kernel
theorem dX11_add_96 : decode cX11_add 96 = .ok (.iconst 2, 1) := by decide +kernel
theorem dX11_add_97 : decode cX11_add 97 = .ok (.goto 4, 3) := by decide +kernel
theorem dX11_add_100 : decode cX11_add 100 = .ok (.iconst 0, 1) := by decide +kernel
theorem dX11_add_101 : decode cX11_add 101 = .ok (.putfield 123, 3) := by decide +kernel
theorem dX11_add_104 : decode cX11_add 104 = .ok (.aload_n 0, 1) := by decide +kernel
theorem dX11_add_105 : decode cX11_add 105 = .ok (.getfield 123, 3) := by decide +kernel
theorem dX11_add_108 : decode cX11_add 108 = .ok (.ifCond .le 5, 3) := by decide +kernel
theorem dX11_add_111 : decode cX11_add 111 = .ok (.iconst 0, 1) := by decide +kernel
theorem dX11_add_112 : decode cX11_add 112 = .ok (.ireturn, 1) := by decide +kernel
theorem dX11_add_113 : decode cX11_add 113 = .ok (.aload_n 0, 1) := by decide +kernel
theorem dX11_add_114 : decode cX11_add 114 = .ok (.getfield 9, 3) := by decide +kernel
theorem dX11_add_117 : decode cX11_add 117 = .ok (.aload_n 0, 1) := by decide +kernel
theorem dX11_add_118 : decode cX11_add 118 = .ok (.getfield 136, 3) := by decide +kernel
theorem dX11_add_121 : decode cX11_add 121 = .ok (.iload_n 1, 1) := by decide +kernel
theorem dX11_add_122 : decode cX11_add 122 = .ok (.iastore, 1) := by decide +kernel
theorem dX11_add_123 : decode cX11_add 123 = .ok (.aload_n 0, 1) := by decide +kernel
theorem dX11_add_124 : decode cX11_add 124 = .ok (.getfield 13, 3) := by decide +kernel
theorem dX11_add_127 : decode cX11_add 127 = .ok (.aload_n 0, 1) := by decide +kernel
theorem dX11_add_128 : decode cX11_add 128 = .ok (.getfield 136, 3) := by decide +kernel
theorem dX11_add_131 : decode cX11_add 131 = .ok (.iload_n 2, 1) := by decide +kernel
theorem dX11_add_132 : decode cX11_add 132 = .ok (.iastore, 1) := by decide +kernel
theorem dX11_add_133 : decode cX11_add 133 = .ok (.aload_n 0, 1) := by decide +kernel
theorem dX11_add_134 : decode cX11_add 134 = .ok (.getfield 16, 3) := by decide +kernel
theorem dX11_add_137 : decode cX11_add 137 = .ok (.aload_n 0, 1) := by decide +kernel
theorem dX11_add_138 : decode cX11_add 138 = .ok (.getfield 136, 3) := by decide +kernel
theorem dX11_add_141 : decode cX11_add 141 = .ok (.iload_n 3, 1) := by decide +kernel
theorem dX11_add_142 : decode cX11_add 142 = .ok (.iastore, 1) := by decide +kernel
theorem dX11_add_143 : decode cX11_add 143 = .ok (.aload_n 0, 1) := by decide +kernel
theorem dX11_add_144 : decode cX11_add 144 = .ok (.getfield 19, 3) := by decide +kernel
theorem dX11_add_147 : decode cX11_add 147 = .ok (.aload_n 0, 1) := by decide +kernel
theorem dX11_add_148 : decode cX11_add 148 = .ok (.getfield 136, 3) := by decide +kernel
theorem dX11_add_151 : decode cX11_add 151 = .ok (.iload 4, 2) := by decide +kernel
theorem dX11_add_153 : decode cX11_add 153 = .ok (.iastore, 1) := by decide +kernel
theorem dX11_add_154 : decode cX11_add 154 = .ok (.aload_n 0, 1) := by decide +kernel
theorem dX11_add_155 : decode cX11_add 155 = .ok (.getfield 22, 3) := by decide +kernel
theorem dX11_add_158 : decode cX11_add 158 = .ok (.aload_n 0, 1) := by decide +kernel
theorem dX11_add_159 : decode cX11_add 159 = .ok (.getfield 136, 3) := by decide +kernel
theorem dX11_add_162 : decode cX11_add 162 = .ok (.iload 5, 2) := by decide +kernel
theorem dX11_add_164 : decode cX11_add 164 = .ok (.iastore, 1) := by decide +kernel
theorem dX11_add_165 : decode cX11_add 165 = .ok (.aload_n 0, 1) := by decide +kernel
theorem dX11_add_166 : decode cX11_add 166 = .ok (.dup, 1) := by decide +kernel
theorem dX11_add_167 : decode cX11_add 167 = .ok (.getfield 136, 3) := by decide +kernel
theorem dX11_add_170 : decode cX11_add 170 = .ok (.iconst 1, 1) := by decide +kernel
theorem dX11_add_171 : decode cX11_add 171 = .ok (.iadd, 1) := by decide +kernel
theorem dX11_add_172 : decode cX11_add 172 = .ok (.putfield 136, 3) := by decide +kernel
theorem dX11_add_175 : decode cX11_add 175 = .ok (.aload_n 0, 1) := by decide +kernel
theorem dX11_add_176 : decode cX11_add 176 = .ok (.getfield 136, 3) := by decide +kernel
theorem dX11_add_179 : decode cX11_add 179 = .ok (.iconst 1, 1) := by decide +kernel
theorem dX11_add_180 : decode cX11_add 180 = .ok (.isub, 1) := by decide +kernel
theorem dX11_add_181 : decode cX11_add 181 = .ok (.ireturn, 1) := by decide +kernel
theorem dX11_cannot_0 : decode cX11_cannot 0 = .ok (.aload_n 0, 1) := by decide +kernel
theorem dX11_cannot_1 : decode cX11_cannot 1 = .ok (.iload_n 1, 1) := by decide +kernel
theorem dX11_cannot_2 : decode cX11_cannot 2 = .ok (.ifCond .ne 7, 3) := by decide +kernel
theorem dX11_cannot_5 : decode cX11_cannot 5 = .ok (.iconst 1, 1) := by decide +kernel
theorem dX11_cannot_6 : decode cX11_cannot 6 = .ok (.goto 15, 3) := by decide +kernel
theorem dX11_cannot_9 : decode cX11_cannot 9 = .ok (.aload_n 0, 1) := by decide +kernel
theorem dX11_cannot_10 : decode cX11_cannot 10 = .ok (.getfield 133, 3) := by decide +kernel
theorem dX11_cannot_13 : decode cX11_cannot 13 = .ok (.ifCond .le 7, 3) := by decide +kernel
theorem dX11_cannot_16 : decode cX11_cannot 16 = .ok (.iconst 2, 1) := by decide +kernel
theorem dX11_cannot_17 : decode cX11_cannot 17 = .ok (.goto 4, 3) := by decide +kernel
theorem dX11_cannot_20 : decode cX11_cannot 20 = .ok (.iconst 0, 1) := by decide +kernel
theorem dX11_cannot_21 : decode cX11_cannot 21 = .ok (.putfield 123, 3) := by decide +kernel
theorem dX11_cannot_24 : decode cX11_cannot 24 = .ok (.aload_n 0, 1) := by decide +kernel
theorem dX11_cannot_25 : decode cX11_cannot 25 = .ok (.getfield 123, 3) := by decide +kernel
theorem dX11_cannot_28 : decode cX11_cannot 28 = .ok (.ifCond .le 7, 3) := by decide +kernel
theorem dX11_cannot_31 : decode cX11_cannot 31 = .ok (.iconst 1, 1) := by decide +kernel
theorem dX11_cannot_32 : decode cX11_cannot 32 = .ok (.goto 4, 3) := by decide +kernel
theorem dX11_cannot_35 : decode cX11_cannot 35 = .ok (.iconst 0, 1) := by decide +kernel
theorem dX11_cannot_36 : decode cX11_cannot 36 = .ok (.ireturn, 1) := by decide +kernel
theorem dX11_setRegister_0 : decode cX11_setRegister 0 = .ok (.aload_n 0, 1) := by decide +kernel
theorem dX11_setRegister_1 : decode cX11_setRegister 1 = .ok (.iload_n 1, 1) := by decide +kernel
theorem dX11_setRegister_2 : decode cX11_setRegister 2 = .ok (.iconst 0, 1) := by decide +kernel
theorem dX11_setRegister_3 : decode cX11_setRegister 3 = .ok (.bipush 7, 2) := by decide +kernel
theorem dX11_setRegister_5 : decode cX11_setRegister 5 = .ok (.invokestatic 129, 3) := by decide +kernel
theorem dX11_setRegister_8 : decode cX11_setRegister 8 = .ok (.invokevirtual 139, 3) := by decide +kernel
theorem dX11_setRegister_11 : decode cX11_setRegister 11 = .ok (.ifCond .eq 5, 3) := by decide +kernel
theorem dX11_setRegister_14 : decode cX11_setRegister 14 = .ok (.iconst 0, 1) := by decide +kernel
theorem dX11_setRegister_15 : decode cX11_setRegister 15 = .ok (.ireturn, 1) := by decide +kernel
theorem dX11_setRegister_16 : decode cX11_setRegister 16 = .ok (.aload_n 0, 1) := by decide +kernel
theorem dX11_setRegister_17 : decode cX11_setRegister 17 = .ok (.getfield 62, 3) := by decide +kernel
theorem dX11_setRegister_20 : decode cX11_setRegister 20 = .ok (.iload_n 1, 1) := by decide +kernel
theorem dX11_setRegister_21 : decode cX11_setRegister 21 = .ok (.iaload, 1) := by decide +kernel
theorem dX11_setRegister_22 : decode cX11_setRegister 22 = .ok (.istore_n 3, 1) := by decide +kernel
theorem dX11_setRegister_23 : decode cX11_setRegister 23 = .ok (.aload_n 0, 1) := by decide +kernel
theorem dX11_setRegister_24 : decode cX11_setRegister 24 = .ok (.getfield 62, 3) := by decide +kernel
theorem dX11_setRegister_27 : decode cX11_setRegister 27 = .ok (.iload_n 1, 1) := by decide +kernel
theorem dX11_setRegister_28 : decode cX11_setRegister 28 = .ok (.iload_n 2, 1) := by decide +kernel
theorem dX11_setRegister_29 : decode cX11_setRegister 29 = .ok (.iastore, 1) := by decide +kernel
theorem dX11_setRegister_30 : decode cX11_setRegister 30 = .ok (.aload_n 0, 1) := by decide +kernel
theorem dX11_setRegister_31 : decode cX11_setRegister 31 = .ok (.getfield 44, 3) := by decide +kernel
theorem dX11_setRegister_34 : decode cX11_setRegister 34 = .ok (.iload_n 1, 1) := by decide +kernel
theorem dX11_setRegister_35 : decode cX11_setRegister 35 = .ok (.iload_n 2, 1) := by decide +kernel
theorem dX11_setRegister_36 : decode cX11_setRegister 36 = .ok (.iastore, 1) := by decide +kernel
theorem dX11_setRegister_37 : decode cX11_setRegister 37 = .ok (.iload_n 3, 1) := by decide +kernel
theorem dX11_setRegister_38 : decode cX11_setRegister 38 = .ok (.ireturn, 1) := by decide +kernel
theorem dX11_setWord_0 : decode cX11_setWord 0 = .ok (.aload_n 0, 1) := by decide +kernel
theorem dX11_setWord_1 : decode cX11_setWord 1 = .ok (.iload_n 1, 1) := by decide +kernel
theorem dX11_setWord_2 : decode cX11_setWord 2 = .ok (.iconst 0, 1) := by decide +kernel
theorem dX11_setWord_3 : decode cX11_setWord 3 = .ok (.bipush 63, 2) := by decide +kernel
theorem dX11_setWord_5 : decode cX11_setWord 5 = .ok (.invokestatic 129, 3) := by decide +kernel
theorem dX11_setWord_8 : decode cX11_setWord 8 = .ok (.invokevirtual 139, 3) := by decide +kernel
theorem dX11_setWord_11 : decode cX11_setWord 11 = .ok (.ifCond .eq 5, 3) := by decide +kernel
theorem dX11_setWord_14 : decode cX11_setWord 14 = .ok (.iconst 0, 1) := by decide +kernel
theorem dX11_setWord_15 : decode cX11_setWord 15 = .ok (.ireturn, 1) := by decide +kernel
theorem dX11_setWord_16 : decode cX11_setWord 16 = .ok (.aload_n 0, 1) := by decide +kernel
theorem dX11_setWord_17 : decode cX11_setWord 17 = .ok (.getfield 53, 3) := by decide +kernel
theorem dX11_setWord_20 : decode cX11_setWord 20 = .ok (.iload_n 1, 1) := by decide +kernel
theorem dX11_setWord_21 : decode cX11_setWord 21 = .ok (.iaload, 1) := by decide +kernel
theorem dX11_setWord_22 : decode cX11_setWord 22 = .ok (.istore_n 3, 1) := by decide +kernel
theorem dX11_setWord_23 : decode cX11_setWord 23 = .ok (.aload_n 0, 1) := by decide +kernel
theorem dX11_setWord_24 : decode cX11_setWord 24 = .ok (.getfield 53, 3) := by decide +kernel
theorem dX11_setWord_27 : decode cX11_setWord 27 = .ok (.iload_n 1, 1) := by decide +kernel
theorem dX11_setWord_28 : decode cX11_setWord 28 = .ok (.iload_n 2, 1) := by decide +kernel
theorem dX11_setWord_29 : decode cX11_setWord 29 = .ok (.iastore, 1) := by decide +kernel
theorem dX11_setWord_30 : decode cX11_setWord 30 = .ok (.aload_n 0, 1) := by decide +kernel
theorem dX11_setWord_31 : decode cX11_setWord 31 = .ok (.getfield 47, 3) := by decide +kernel
theorem dX11_setWord_34 : decode cX11_setWord 34 = .ok (.iload_n 1, 1) := by decide +kernel
theorem dX11_setWord_35 : decode cX11_setWord 35 = .ok (.iload_n 2, 1) := by decide +kernel
theorem dX11_setWord_36 : decode cX11_setWord 36 = .ok (.iastore, 1) := by decide +kernel
theorem dX11_setWord_37 : decode cX11_setWord 37 = .ok (.iload_n 3, 1) := by decide +kernel
theorem dX11_setWord_38 : decode cX11_setWord 38 = .ok (.ireturn, 1) := by decide +kernel
theorem dX11_setWidth_0 : decode cX11_setWidth 0 = .ok (.aload_n 0, 1) := by decide +kernel
theorem dX11_setWidth_1 : decode cX11_setWidth 1 = .ok (.iload_n 1, 1) := by decide +kernel
theorem dX11_setWidth_2 : decode cX11_setWidth 2 = .ok (.iconst 1, 1) := by decide +kernel
theorem dX11_setWidth_3 : decode cX11_setWidth 3 = .ok (.iconst 4, 1) := by decide +kernel
theorem dX11_setWidth_4 : decode cX11_setWidth 4 = .ok (.invokestatic 129, 3) := by decide +kernel
theorem dX11_setWidth_7 : decode cX11_setWidth 7 = .ok (.invokevirtual 139, 3) := by decide +kernel
theorem dX11_setWidth_10 : decode cX11_setWidth 10 = .ok (.ifCond .eq 5, 3) := by decide +kernel
theorem dX11_setWidth_13 : decode cX11_setWidth 13 = .ok (.iconst 0, 1) := by decide +kernel
theorem dX11_setWidth_14 : decode cX11_setWidth 14 = .ok (.ireturn, 1) := by decide +kernel
theorem dX11_setWidth_15 : decode cX11_setWidth 15 = .ok (.aload_n 0, 1) := by decide +kernel
theorem dX11_setWidth_16 : decode cX11_setWidth 16 = .ok (.getfield 25, 3) := by decide +kernel
theorem dX11_setWidth_19 : decode cX11_setWidth 19 = .ok (.istore_n 2, 1) := by decide +kernel
theorem dX11_setWidth_20 : decode cX11_setWidth 20 = .ok (.aload_n 0, 1) := by decide +kernel
theorem dX11_setWidth_21 : decode cX11_setWidth 21 = .ok (.iload_n 1, 1) := by decide +kernel
theorem dX11_setWidth_22 : decode cX11_setWidth 22 = .ok (.putfield 25, 3) := by decide +kernel
theorem dX11_setWidth_25 : decode cX11_setWidth 25 = .ok (.iload_n 2, 1) := by decide +kernel
theorem dX11_setWidth_26 : decode cX11_setWidth 26 = .ok (.ireturn, 1) := by decide +kernel
theorem dX11_setBuffer_0 : decode cX11_setBuffer 0 = .ok (.aload_n 0, 1) := by decide +kernel
theorem dX11_setBuffer_1 : decode cX11_setBuffer 1 = .ok (.iload_n 1, 1) := by decide +kernel
theorem dX11_setBuffer_2 : decode cX11_setBuffer 2 = .ok (.iconst 4, 1) := by decide +kernel
theorem dX11_setBuffer_3 : decode cX11_setBuffer 3 = .ok (.bipush 16, 2) := by decide +kernel
theorem dX11_setBuffer_5 : decode cX11_setBuffer 5 = .ok (.invokestatic 129, 3) := by decide +kernel
theorem dX11_setBuffer_8 : decode cX11_setBuffer 8 = .ok (.invokevirtual 139, 3) := by decide +kernel
theorem dX11_setBuffer_11 : decode cX11_setBuffer 11 = .ok (.ifCond .eq 5, 3) := by decide +kernel
theorem dX11_setBuffer_14 : decode cX11_setBuffer 14 = .ok (.iconst 0, 1) := by decide +kernel
theorem dX11_setBuffer_15 : decode cX11_setBuffer 15 = .ok (.ireturn, 1) := by decide +kernel
theorem dX11_setBuffer_16 : decode cX11_setBuffer 16 = .ok (.aload_n 0, 1) := by decide +kernel
theorem dX11_setBuffer_17 : decode cX11_setBuffer 17 = .ok (.getfield 29, 3) := by decide +kernel
theorem dX11_setBuffer_20 : decode cX11_setBuffer 20 = .ok (.istore_n 2, 1) := by decide +kernel
theorem dX11_setBuffer_21 : decode cX11_setBuffer 21 = .ok (.aload_n 0, 1) := by decide +kernel
theorem dX11_setBuffer_22 : decode cX11_setBuffer 22 = .ok (.iload_n 1, 1) := by decide +kernel
theorem dX11_setBuffer_23 : decode cX11_setBuffer 23 = .ok (.putfield 29, 3) := by decide +kernel
theorem dX11_setBuffer_26 : decode cX11_setBuffer 26 = .ok (.iload_n 2, 1) := by decide +kernel
theorem dX11_setBuffer_27 : decode cX11_setBuffer 27 = .ok (.ireturn, 1) := by decide +kernel
theorem dX11_setQueue_0 : decode cX11_setQueue 0 = .ok (.aload_n 0, 1) := by decide +kernel
theorem dX11_setQueue_1 : decode cX11_setQueue 1 = .ok (.iload_n 1, 1) := by decide +kernel
theorem dX11_setQueue_2 : decode cX11_setQueue 2 = .ok (.iconst 2, 1) := by decide +kernel
theorem dX11_setQueue_3 : decode cX11_setQueue 3 = .ok (.bipush 8, 2) := by decide +kernel
theorem dX11_setQueue_5 : decode cX11_setQueue 5 = .ok (.invokestatic 129, 3) := by decide +kernel
theorem dX11_setQueue_8 : decode cX11_setQueue 8 = .ok (.invokevirtual 139, 3) := by decide +kernel
theorem dX11_setQueue_11 : decode cX11_setQueue 11 = .ok (.ifCond .eq 5, 3) := by decide +kernel
theorem dX11_setQueue_14 : decode cX11_setQueue 14 = .ok (.iconst 0, 1) := by decide +kernel
theorem dX11_setQueue_15 : decode cX11_setQueue 15 = .ok (.ireturn, 1) := by decide +kernel
theorem dX11_setQueue_16 : decode cX11_setQueue 16 = .ok (.aload_n 0, 1) := by decide +kernel
theorem dX11_setQueue_17 : decode cX11_setQueue 17 = .ok (.getfield 32, 3) := by decide +kernel
theorem dX11_setQueue_20 : decode cX11_setQueue 20 = .ok (.istore_n 2, 1) := by decide +kernel
theorem dX11_setQueue_21 : decode cX11_setQueue 21 = .ok (.aload_n 0, 1) := by decide +kernel
theorem dX11_setQueue_22 : decode cX11_setQueue 22 = .ok (.iload_n 1, 1) := by decide +kernel
theorem dX11_setQueue_23 : decode cX11_setQueue 23 = .ok (.putfield 32, 3) := by decide +kernel
theorem dX11_setQueue_26 : decode cX11_setQueue 26 = .ok (.iload_n 2, 1) := by decide +kernel
theorem dX11_setQueue_27 : decode cX11_setQueue 27 = .ok (.ireturn, 1) := by decide +kernel
theorem dX11_setInner_0 : decode cX11_setInner 0 = .ok (.aload_n 0, 1) := by decide +kernel
theorem dX11_setInner_1 : decode cX11_setInner 1 = .ok (.iload_n 1, 1) := by decide +kernel
theorem dX11_setInner_2 : decode cX11_setInner 2 = .ok (.bipush 10, 2) := by decide +kernel
theorem dX11_setInner_4 : decode cX11_setInner 4 = .ok (.bipush 24, 2) := by decide +kernel
theorem dX11_setInner_6 : decode cX11_setInner 6 = .ok (.invokestatic 129, 3) := by decide +kernel
theorem dX11_setInner_9 : decode cX11_setInner 9 = .ok (.invokevirtual 139, 3) := by decide +kernel
theorem dX11_setInner_12 : decode cX11_setInner 12 = .ok (.ifCond .eq 5, 3) := by decide +kernel
theorem dX11_setInner_15 : decode cX11_setInner 15 = .ok (.iconst 0, 1) := by decide +kernel
theorem dX11_setInner_16 : decode cX11_setInner 16 = .ok (.ireturn, 1) := by decide +kernel
theorem dX11_setInner_17 : decode cX11_setInner 17 = .ok (.aload_n 0, 1) := by decide +kernel
theorem dX11_setInner_18 : decode cX11_setInner 18 = .ok (.getfield 35, 3) := by decide +kernel
theorem dX11_setInner_21 : decode cX11_setInner 21 = .ok (.istore_n 2, 1) := by decide +kernel
theorem dX11_setInner_22 : decode cX11_setInner 22 = .ok (.aload_n 0, 1) := by decide +kernel
theorem dX11_setInner_23 : decode cX11_setInner 23 = .ok (.iload_n 1, 1) := by decide +kernel
theorem dX11_setInner_24 : decode cX11_setInner 24 = .ok (.putfield 35, 3) := by decide +kernel
theorem dX11_setInner_27 : decode cX11_setInner 27 = .ok (.aload_n 0, 1) := by decide +kernel
theorem dX11_setInner_28 : decode cX11_setInner 28 = .ok (.invokevirtual 120, 3) := by decide +kernel
theorem dX11_setInner_31 : decode cX11_setInner 31 = .ok (.iload_n 2, 1) := by decide +kernel
theorem dX11_setInner_32 : decode cX11_setInner 32 = .ok (.ireturn, 1) := by decide +kernel
theorem dX11_setHandlers_0 : decode cX11_setHandlers 0 = .ok (.aload_n 0, 1) := by decide +kernel
theorem dX11_setHandlers_1 : decode cX11_setHandlers 1 = .ok (.iload_n 1, 1) := by decide +kernel
theorem dX11_setHandlers_2 : decode cX11_setHandlers 2 = .ok (.iconst (-1), 1) := by decide +kernel
theorem dX11_setHandlers_3 : decode cX11_setHandlers 3 = .ok (.bipush 63, 2) := by decide +kernel
theorem dX11_setHandlers_5 : decode cX11_setHandlers 5 = .ok (.invokestatic 129, 3) := by decide +kernel
theorem dX11_setHandlers_8 : decode cX11_setHandlers 8 = .ok (.ifCond .eq 17, 3) := by decide +kernel
theorem dX11_setHandlers_11 : decode cX11_setHandlers 11 = .ok (.iload_n 2, 1) := by decide +kernel
theorem dX11_setHandlers_12 : decode cX11_setHandlers 12 = .ok (.iconst (-1), 1) := by decide +kernel
theorem dX11_setHandlers_13 : decode cX11_setHandlers 13 = .ok (.bipush 63, 2) := by decide +kernel
theorem dX11_setHandlers_15 : decode cX11_setHandlers 15 = .ok (.invokestatic 129, 3) := by decide +kernel
theorem dX11_setHandlers_18 : decode cX11_setHandlers 18 = .ok (.ifCond .eq 7, 3) := by decide +kernel
theorem dX11_setHandlers_21 : decode cX11_setHandlers 21 = .ok (.iconst 1, 1) := by decide +kernel
theorem dX11_setHandlers_22 : decode cX11_setHandlers 22 = .ok (.goto 4, 3) := by decide +kernel
theorem dX11_setHandlers_25 : decode cX11_setHandlers 25 = .ok (.iconst 0, 1) := by decide +kernel
theorem dX11_setHandlers_26 : decode cX11_setHandlers 26 = .ok (.invokevirtual 139, 3) := by decide +kernel
theorem dX11_setHandlers_29 : decode cX11_setHandlers 29 = .ok (.ifCond .eq 5, 3) := by decide +kernel
theorem dX11_setHandlers_32 : decode cX11_setHandlers 32 = .ok (.iconst 0, 1) := by decide +kernel
theorem dX11_setHandlers_33 : decode cX11_setHandlers 33 = .ok (.ireturn, 1) := by decide +kernel
theorem dX11_setHandlers_34 : decode cX11_setHandlers 34 = .ok (.bipush 64, 2) := by decide +kernel
theorem dX11_setHandlers_36 : decode cX11_setHandlers 36 = .ok (.aload_n 0, 1) := by decide +kernel
theorem dX11_setHandlers_37 : decode cX11_setHandlers 37 = .ok (.getfield 38, 3) := by decide +kernel
theorem dX11_setHandlers_40 : decode cX11_setHandlers 40 = .ok (.imul, 1) := by decide +kernel
theorem dX11_setHandlers_41 : decode cX11_setHandlers 41 = .ok (.aload_n 0, 1) := by decide +kernel
theorem dX11_setHandlers_42 : decode cX11_setHandlers 42 = .ok (.getfield 41, 3) := by decide +kernel
theorem dX11_setHandlers_45 : decode cX11_setHandlers 45 = .ok (.iadd, 1) := by decide +kernel
theorem dX11_setHandlers_46 : decode cX11_setHandlers 46 = .ok (.istore_n 3, 1) := by decide +kernel
theorem dX11_setHandlers_47 : decode cX11_setHandlers 47 = .ok (.aload_n 0, 1) := by decide +kernel
theorem dX11_setHandlers_48 : decode cX11_setHandlers 48 = .ok (.iload_n 1, 1) := by decide +kernel
theorem dX11_setHandlers_49 : decode cX11_setHandlers 49 = .ok (.putfield 38, 3) := by decide +kernel
theorem dX11_setHandlers_52 : decode cX11_setHandlers 52 = .ok (.aload_n 0, 1) := by decide +kernel
theorem dX11_setHandlers_53 : decode cX11_setHandlers 53 = .ok (.iload_n 2, 1) := by decide +kernel
theorem dX11_setHandlers_54 : decode cX11_setHandlers 54 = .ok (.putfield 41, 3) := by decide +kernel
theorem dX11_setHandlers_57 : decode cX11_setHandlers 57 = .ok (.iload_n 3, 1) := by decide +kernel
theorem dX11_setHandlers_58 : decode cX11_setHandlers 58 = .ok (.ireturn, 1) := by decide +kernel
def mX11_laysFree : MD := (cX11_laysFree, RX11, yX11_laysFree, 2, none, 0, 0)
theorem mf_X11_laysFree : MF mX11_laysFree 0 := MF.of 1546 90 (by decide +kernel) (by decide +kernel) (by decide +kernel) (by decide +kernel) (by decide +kernel) rfl
def mX11_init : MD := (cX11_init, RX11, yX11_init, 2, none, 1, 21)
theorem mf_X11_init : MF mX11_init 0 := MF.of 1538 90 (by decide +kernel) (by decide +kernel) (by decide +kernel) (by decide +kernel) (by decide +kernel) rfl
def mX11_thrown : MD := (cX11_thrown, RX11, yX11_thrown, 1, (some .int), 0, 0)
theorem mf_X11_thrown : MF mX11_thrown 0 := MF.of 1734 90 (by decide +kernel) (by decide +kernel) (by decide +kernel) (by decide +kernel) (by decide +kernel) rfl
def mX11_raises : MD := (cX11_raises, RX11, yX11_raises, 2, (some .int), 0, 0)
theorem mf_X11_raises : MF mX11_raises 1 := MF.of 2003 90 (by decide +kernel) (by decide +kernel) (by decide +kernel) (by decide +kernel) (by decide +kernel) rfl
def mX11_in : MD := (cX11_in, RX11, yX11_in, 3, (some .boolean), 0, 0)
theorem mf_X11_in : MF mX11_in 3 := MF.of 1741 90 (by decide +kernel) (by decide +kernel) (by decide +kernel) (by decide +kernel) (by decide +kernel) rfl
def mX11_add : MD := (cX11_add, RX11, yX11_add, 7, (some .int), 1, 22)
theorem mf_X11_add : MF mX11_add 5 := MF.of 1738 90 (by decide +kernel) (by decide +kernel) (by decide +kernel) (by decide +kernel) (by decide +kernel) rfl
def mX11_cannot : MD := (cX11_cannot, RX11, yX11_cannot, 2, (some .boolean), 0, 0)
theorem mf_X11_cannot : MF mX11_cannot 1 := MF.of 1749 90 (by decide +kernel) (by decide +kernel) (by decide +kernel) (by decide +kernel) (by decide +kernel) rfl
def mX11_setRegister : MD := (cX11_setRegister, RX11, yX11_setRegister, 4, (some .int), 1, 22)
theorem mf_X11_setRegister : MF mX11_setRegister 2 := MF.of 1745 90 (by decide +kernel) (by decide +kernel) (by decide +kernel) (by decide +kernel) (by decide +kernel) rfl
def mX11_setWord : MD := (cX11_setWord, RX11, yX11_setWord, 4, (some .int), 1, 22)
theorem mf_X11_setWord : MF mX11_setWord 2 := MF.of 1753 90 (by decide +kernel) (by decide +kernel) (by decide +kernel) (by decide +kernel) (by decide +kernel) rfl
def mX11_setWidth : MD := (cX11_setWidth, RX11, yX11_setWidth, 3, (some .int), 1, 22)
theorem mf_X11_setWidth : MF mX11_setWidth 1 := MF.of 1757 90 (by decide +kernel) (by decide +kernel) (by decide +kernel) (by decide +kernel) (by decide +kernel) rfl
def mX11_setBuffer : MD := (cX11_setBuffer, RX11, yX11_setBuffer, 3, (some .int), 1, 22)
theorem mf_X11_setBuffer : MF mX11_setBuffer 1 := MF.of 1761 90 (by decide +kernel) (by decide +kernel) (by decide +kernel) (by decide +kernel) (by decide +kernel) rfl
def mX11_setQueue : MD := (cX11_setQueue, RX11, yX11_setQueue, 3, (some .int), 1, 22)
theorem mf_X11_setQueue : MF mX11_setQueue 1 := MF.of 1765 90 (by decide +kernel) (by decide +kernel) (by decide +kernel) (by decide +kernel) (by decide +kernel) rfl
def mX11_setInner : MD := (cX11_setInner, RX11, yX11_setInner, 3, (some .int), 1, 22)
theorem mf_X11_setInner : MF mX11_setInner 1 := MF.of 1769 90 (by decide +kernel) (by decide +kernel) (by decide +kernel) (by decide +kernel) (by decide +kernel) rfl
def mX11_setHandlers : MD := (cX11_setHandlers, RX11, yX11_setHandlers, 4, (some .int), 1, 22)
theorem mf_X11_setHandlers : MF mX11_setHandlers 2 := MF.of 1773 90 (by decide +kernel) (by decide +kernel) (by decide +kernel) (by decide +kernel) (by decide +kernel) rfl
theorem cs_X11_129 : CSs RX11 129 mX11_in := CSs.of 1739 1740 (by decide +kernel) (by decide +kernel)
theorem cv_X11_120 : CVs RX11 120 mX11_laysFree 12 := CVs.of 1543 1545 38 (by decide +kernel) (by decide +kernel) (by decide +kernel) _ rfl rfl
theorem cv_X11_139 : CVs RX11 139 mX11_cannot 12 := CVs.of 1746 1748 39 (by decide +kernel) (by decide +kernel) (by decide +kernel) _ rfl rfl
theorem fl_X11_101 : FL RX11 101 12 43 3 := FL.of _ rfl (by decide) 1590 (by decide +kernel) (by decide)
theorem fl_X11_104 : FL RX11 104 12 44 3 := FL.of _ rfl (by decide) 1591 (by decide +kernel) (by decide)
theorem fl_X11_108 : FL RX11 108 12 45 3 := FL.of _ rfl (by decide) 1592 (by decide +kernel) (by decide)
theorem fl_X11_111 : FL RX11 111 12 47 3 := FL.of _ rfl (by decide) 1594 (by decide +kernel) (by decide)
theorem fl_X11_114 : FL RX11 114 12 55 3 := FL.of _ rfl (by decide) 1602 (by decide +kernel) (by decide)
theorem fl_X11_117 : FL RX11 117 12 56 3 := FL.of _ rfl (by decide) 1603 (by decide +kernel) (by decide)
theorem fl_X11_123 : FL RX11 123 12 54 0 := FL.of _ rfl (by decide) 1601 (by decide +kernel) (by decide)
theorem fl_X11_126 : FL RX11 126 12 21 0 := FL.of _ rfl (by decide) 1568 (by decide +kernel) (by decide)
theorem fl_X11_13 : FL RX11 13 12 1 3 := FL.of _ rfl (by decide) 1548 (by decide +kernel) (by decide)
theorem fl_X11_133 : FL RX11 133 12 36 0 := FL.of _ rfl (by decide) 1583 (by decide +kernel) (by decide)
theorem fl_X11_136 : FL RX11 136 12 5 0 := FL.of _ rfl (by decide) 1552 (by decide +kernel) (by decide)
theorem fl_X11_16 : FL RX11 16 12 2 3 := FL.of _ rfl (by decide) 1549 (by decide +kernel) (by decide)
theorem fl_X11_19 : FL RX11 19 12 3 3 := FL.of _ rfl (by decide) 1550 (by decide +kernel) (by decide)
theorem fl_X11_22 : FL RX11 22 12 4 3 := FL.of _ rfl (by decide) 1551 (by decide +kernel) (by decide)
theorem fl_X11_25 : FL RX11 25 12 6 0 := FL.of _ rfl (by decide) 1553 (by decide +kernel) (by decide)
theorem fl_X11_29 : FL RX11 29 12 7 0 := FL.of _ rfl (by decide) 1554 (by decide +kernel) (by decide)
theorem fl_X11_32 : FL RX11 32 12 8 0 := FL.of _ rfl (by decide) 1555 (by decide +kernel) (by decide)
theorem fl_X11_35 : FL RX11 35 12 9 0 := FL.of _ rfl (by decide) 1556 (by decide +kernel) (by decide)
theorem fl_X11_38 : FL RX11 38 12 10 0 := FL.of _ rfl (by decide) 1557 (by decide +kernel) (by decide)
theorem fl_X11_41 : FL RX11 41 12 11 0 := FL.of _ rfl (by decide) 1558 (by decide +kernel) (by decide)
theorem fl_X11_44 : FL RX11 44 12 12 3 := FL.of _ rfl (by decide) 1559 (by decide +kernel) (by decide)
theorem fl_X11_47 : FL RX11 47 12 13 3 := FL.of _ rfl (by decide) 1560 (by decide +kernel) (by decide)
theorem fl_X11_50 : FL RX11 50 12 14 3 := FL.of _ rfl (by decide) 1561 (by decide +kernel) (by decide)
theorem fl_X11_53 : FL RX11 53 12 15 3 := FL.of _ rfl (by decide) 1562 (by decide +kernel) (by decide)
theorem fl_X11_56 : FL RX11 56 12 16 3 := FL.of _ rfl (by decide) 1563 (by decide +kernel) (by decide)
theorem fl_X11_59 : FL RX11 59 12 17 3 := FL.of _ rfl (by decide) 1564 (by decide +kernel) (by decide)
theorem fl_X11_62 : FL RX11 62 12 18 3 := FL.of _ rfl (by decide) 1565 (by decide +kernel) (by decide)
theorem fl_X11_65 : FL RX11 65 12 19 3 := FL.of _ rfl (by decide) 1566 (by decide +kernel) (by decide)
theorem fl_X11_69 : FL RX11 69 12 20 3 := FL.of _ rfl (by decide) 1567 (by decide +kernel) (by decide)
theorem fl_X11_74 : FL RX11 74 12 22 3 := FL.of _ rfl (by decide) 1569 (by decide +kernel) (by decide)
theorem fl_X11_77 : FL RX11 77 12 24 3 := FL.of _ rfl (by decide) 1571 (by decide +kernel) (by decide)
theorem fl_X11_80 : FL RX11 80 12 28 3 := FL.of _ rfl (by decide) 1575 (by decide +kernel) (by decide)
theorem fl_X11_83 : FL RX11 83 12 29 3 := FL.of _ rfl (by decide) 1576 (by decide +kernel) (by decide)
theorem fl_X11_86 : FL RX11 86 12 30 3 := FL.of _ rfl (by decide) 1577 (by decide +kernel) (by decide)
theorem fl_X11_89 : FL RX11 89 12 31 3 := FL.of _ rfl (by decide) 1578 (by decide +kernel) (by decide)
theorem fl_X11_9 : FL RX11 9 12 0 3 := FL.of _ rfl (by decide) 1547 (by decide +kernel) (by decide)
theorem fl_X11_92 : FL RX11 92 12 32 3 := FL.of _ rfl (by decide) 1579 (by decide +kernel) (by decide)
theorem fl_X11_95 : FL RX11 95 12 33 3 := FL.of _ rfl (by decide) 1580 (by decide +kernel) (by decide)
theorem fl_X11_98 : FL RX11 98 12 34 3 := FL.of _ rfl (by decide) 1581 (by decide +kernel) (by decide)
theorem fn_12_0 : FO 12 0 RX11 := fun q h => by cases h; exact ⟨rfl, rfl⟩
theorem fn_12_1 : FO 12 1 RX11 := fun q h => by cases h; exact ⟨rfl, rfl⟩
theorem fn_12_10 : FN 12 10 false := fun q h => by cases h; rfl
theorem fn_12_11 : FN 12 11 false := fun q h => by cases h; rfl
theorem fn_12_12 : FO 12 12 RX11 := fun q h => by cases h; exact ⟨rfl, rfl⟩
theorem fn_12_13 : FO 12 13 RX11 := fun q h => by cases h; exact ⟨rfl, rfl⟩
theorem fn_12_14 : FO 12 14 RX11 := fun q h => by cases h; exact ⟨rfl, rfl⟩
theorem fn_12_15 : FO 12 15 RX11 := fun q h => by cases h; exact ⟨rfl, rfl⟩
theorem fn_12_16 : FO 12 16 RX11 := fun q h => by cases h; exact ⟨rfl, rfl⟩
theorem fn_12_17 : FO 12 17 RX11 := fun q h => by cases h; exact ⟨rfl, rfl⟩
theorem fn_12_18 : FO 12 18 RX11 := fun q h => by cases h; exact ⟨rfl, rfl⟩
theorem fn_12_19 : FO 12 19 RX11 := fun q h => by cases h; exact ⟨rfl, rfl⟩
theorem fn_12_2 : FO 12 2 RX11 := fun q h => by cases h; exact ⟨rfl, rfl⟩
theorem fn_12_20 : FO 12 20 RX11 := fun q h => by cases h; exact ⟨rfl, rfl⟩
theorem fn_12_21 : FN 12 21 false := fun q h => by cases h; rfl
theorem fn_12_22 : FO 12 22 RX11 := fun q h => by cases h; exact ⟨rfl, rfl⟩
theorem fn_12_24 : FO 12 24 RX11 := fun q h => by cases h; exact ⟨rfl, rfl⟩
theorem fn_12_28 : FO 12 28 RX11 := fun q h => by cases h; exact ⟨rfl, rfl⟩
theorem fn_12_29 : FO 12 29 RX11 := fun q h => by cases h; exact ⟨rfl, rfl⟩
theorem fn_12_3 : FO 12 3 RX11 := fun q h => by cases h; exact ⟨rfl, rfl⟩
theorem fn_12_30 : FO 12 30 RX11 := fun q h => by cases h; exact ⟨rfl, rfl⟩
theorem fn_12_31 : FO 12 31 RX11 := fun q h => by cases h; exact ⟨rfl, rfl⟩
theorem fn_12_32 : FO 12 32 RX11 := fun q h => by cases h; exact ⟨rfl, rfl⟩
theorem fn_12_33 : FO 12 33 RX11 := fun q h => by cases h; exact ⟨rfl, rfl⟩
theorem fn_12_34 : FO 12 34 RX11 := fun q h => by cases h; exact ⟨rfl, rfl⟩
theorem fn_12_4 : FO 12 4 RX11 := fun q h => by cases h; exact ⟨rfl, rfl⟩
theorem fn_12_43 : FO 12 43 RX11 := fun q h => by cases h; exact ⟨rfl, rfl⟩
theorem fn_12_44 : FO 12 44 RX11 := fun q h => by cases h; exact ⟨rfl, rfl⟩
theorem fn_12_45 : FO 12 45 RX11 := fun q h => by cases h; exact ⟨rfl, rfl⟩
theorem fn_12_47 : FO 12 47 RX11 := fun q h => by cases h; exact ⟨rfl, rfl⟩
theorem fn_12_5 : FN 12 5 false := fun q h => by cases h; rfl
theorem fn_12_54 : FN 12 54 false := fun q h => by cases h; rfl
theorem fn_12_55 : FO 12 55 RX11 := fun q h => by cases h; exact ⟨rfl, rfl⟩
theorem fn_12_56 : FO 12 56 RX11 := fun q h => by cases h; exact ⟨rfl, rfl⟩
theorem fn_12_6 : FN 12 6 false := fun q h => by cases h; rfl
theorem fn_12_7 : FN 12 7 false := fun q h => by cases h; rfl
theorem fn_12_8 : FN 12 8 false := fun q h => by cases h; rfl
theorem fn_12_9 : FN 12 9 false := fun q h => by cases h; rfl
theorem iv_bipush_28 : (Int8.ofInt (28)).toInt32 = 28 := by decide
theorem iv_bipush_63 : (Int8.ofInt (63)).toInt32 = 63 := by decide
theorem iv_bipush_7 : (Int8.ofInt (7)).toInt32 = 7 := by decide
theorem iv_sipush_2004 : (Int16.ofInt (2004)).toInt32 = 2004 := by decide
theorem kl_X11_107 : Cond.classLink RX11 107 "[I" ∈ lw_tbl := List.mem_of_getElem? (i := 1542) (by decide +kernel)
theorem kl_X11_72 : Cond.classLink RX11 72 "[[I" ∈ lw_tbl := List.mem_of_getElem? (i := 1540) (by decide +kernel)
theorem oi_X11_1 : Cond.methodLink RX11 1 Lib.objectInit ∈ lw_tbl := List.mem_of_getElem? (i := 1539) (by decide +kernel)
def f_X11_laysFree_b13 : Nat → Nat → Int32 → Mm → Option (Unit × Mm)
  | 0, _, _, _ => none
  | n + 1, a0, x1, μ =>
  ck (mK μ a0 = 112) <|
  if (mI μ a0 21) ≤ x1 then
    some ((), μ)
  else
    bd (mR μ a0 20) fun p7 =>
    ck (isA 1 (mK μ p7)) <|
    ck (inb x1 (mL μ p7)) <|
    zl (sI μ p7 (Int32.toNatClampNeg x1) (8 + x1)) fun μ11 =>
    f_X11_laysFree_b13 n a0 (x1 + 1) μ11
def f_X11_laysFree (a0 : Nat) (μ : Mm) : Option (Unit × Mm) :=
  ck (mK μ a0 = 112) <|
  zl (sI μ a0 21 ((mI μ a0 9) - 8)) fun μ2 =>
  f_X11_laysFree_b13 5000 a0 0 μ2
set_option maxRecDepth 100000 in
theorem s_X11_laysFree_b13 {l : Launch} {G : Gt} (hG : Gok l G) : ∀ (n : Nat) (a0 : Nat) (x1 : Int32) (μ : Mm) (r : Unit) (μ' : Mm), f_X11_laysFree_b13 n a0 x1 μ = some (r, μ') → ZX l G mX11_laysFree 13 [(0, .ref a0), (1, .int x1)] [] μ (.inl none) μ' := by
  intro n
  induction n with
  | zero =>
    intro a0 x1 μ r μ' h
    cases h
  | succ n ih =>
    intro a0 x1 μ r μ' h
    unfold f_X11_laysFree_b13 at h
    refine zx_iload_n dX11_laysFree_13 rfl (q := 1) rfl ?_
    refine zx_aload_n dX11_laysFree_14 rfl (q := 0) rfl ?_
    obtain ⟨h5, h⟩ := ck_e h
    refine zx_getI hG fl_X11_126 h5 dX11_laysFree_15 ?_
    by_cases c6 : (mI μ a0 21) ≤ x1
    · have h := it_t c6 h
      refine zx_icmp_ge_t (tgt := 37) dX11_laysFree_18 (by decide) c6 ?_
      cases h
      exact zx_vret dX11_laysFree_37 rfl
    · have h := it_f c6 h
      refine zx_icmp_ge_f (tgt := 37) dX11_laysFree_18 (by decide) c6 ?_
      refine zx_aload_n dX11_laysFree_21 rfl (q := 0) rfl ?_
      obtain ⟨p7, h8, h⟩ := bd_e h
      refine zx_getR hG fl_X11_69 h5 h8 dX11_laysFree_22 ?_
      refine zx_iload_n dX11_laysFree_25 rfl (q := 1) rfl ?_
      refine zx_bipush (v := 8) dX11_laysFree_26 iv_bipush_8 ?_
      refine zx_iload_n dX11_laysFree_28 rfl (q := 1) rfl ?_
      refine zx_iadd dX11_laysFree_29 ?_
      obtain ⟨h9, h⟩ := ck_e h
      obtain ⟨h10, h⟩ := ck_e h
      refine zx_iast hG rfl (h9).1 (h9).2 (inb_e h10) dX11_laysFree_30 ?_
      obtain ⟨μ11, e13, h⟩ := zlm_e h
      refine zx_mem e13 ?_
      have e12 : mK μ11 = mK μ := (congrArg mK e13).trans rfl
      refine zx_iinc (q := 1) (v := x1 + 1) (L' := [(1, .int (x1 + 1)), (0, .ref a0)]) dX11_laysFree_31 rfl rfl (by decide) rfl ?_
      refine zx_goto (tgt := 13) dX11_laysFree_34 (by decide) ?_
      refine zx_sub (L' := [(0, .ref a0), (1, .int (x1 + 1))]) [1, 0] rfl ?_
      exact ih _ _ _ _ _ h
set_option maxRecDepth 100000 in
theorem s_X11_laysFree {l : Launch} {G : Gt} (hG : Gok l G) (a0 : Nat) (μ : Mm) (r : Unit) (μ' : Mm) (h : f_X11_laysFree a0 μ = some (r, μ')) : ZX l G mX11_laysFree 0 [(0, .ref a0)] [] μ (.inl none) μ' := by
  unfold f_X11_laysFree at h
  refine zx_aload_n dX11_laysFree_0 rfl (q := 0) rfl ?_
  refine zx_aload_n dX11_laysFree_1 rfl (q := 0) rfl ?_
  obtain ⟨h1, h⟩ := ck_e h
  refine zx_getI hG fl_X11_35 h1 dX11_laysFree_2 ?_
  refine zx_bipush (v := 8) dX11_laysFree_5 iv_bipush_8 ?_
  refine zx_isub dX11_laysFree_7 ?_
  refine zx_putI hG fl_X11_126 fn_12_21 h1 dX11_laysFree_8 ?_
  obtain ⟨μ2, e4, h⟩ := zlm_e h
  refine zx_mem e4 ?_
  have e3 : mK μ2 = mK μ := (congrArg mK e4).trans rfl
  refine zx_iconst (v := 0) dX11_laysFree_11 iv_iconst_0 ?_
  refine zx_istore_n (L' := [(1, .int 0), (0, .ref a0)]) dX11_laysFree_12 rfl (by decide) rfl ?_
  refine zx_sub (L' := [(0, .ref a0), (1, .int 0)]) [1, 0] rfl ?_
  exact s_X11_laysFree_b13 hG 5000 _ _ _ _ _ h
def f_X11_init_b381 (a0 : Nat) (μ : Mm) : Option (Unit × Mm) :=
  ck (mK μ a0 = 112) <|
  cl (f_X11_laysFree a0 μ) fun _ μ396 =>
  some ((), μ396)
def f_X11_init_b348 : Nat → Nat → Int32 → Mm → Option (Unit × Mm)
  | 0, _, _, _ => none
  | n + 1, a0, x1, μ =>
  if 8 ≤ x1 then
    f_X11_init_b381 a0 μ
  else
    ck (mK μ a0 = 112) <|
    bd (mR μ a0 16) fun p372 =>
    ck (isA 1 (mK μ p372)) <|
    ck (inb x1 (mL μ p372)) <|
    zl (sI μ p372 (Int32.toNatClampNeg x1) x1) fun μ376 =>
    bd (mR μ376 a0 17) fun p379 =>
    ck (isA 1 (mK μ376 p379)) <|
    ck (inb x1 (mL μ376 p379)) <|
    zl (sI μ376 p379 (Int32.toNatClampNeg x1) x1) fun μ383 =>
    bd (mR μ383 a0 19) fun p386 =>
    ck (isA 2 (mK μ383 p386)) <|
    ck (inb x1 (mL μ383 p386)) <|
    zl (sI μ383 p386 (Int32.toNatClampNeg x1) 1) fun μ390 =>
    f_X11_init_b348 n a0 (x1 + 1) μ390
def f_X11_init_b346 (a0 : Nat) (μ : Mm) : Option (Unit × Mm) :=
  f_X11_init_b348 5000 a0 0 μ
def f_X11_init_b328 : Nat → Nat → Int32 → Mm → Option (Unit × Mm)
  | 0, _, _, _ => none
  | n + 1, a0, x1, μ =>
  if 4 ≤ x1 then
    f_X11_init_b346 a0 μ
  else
    ck (mK μ a0 = 112) <|
    bd (mR μ a0 32) fun p363 =>
    ck (isA 1 (mK μ p363)) <|
    ck (inb x1 (mL μ p363)) <|
    zl (sI μ p363 (Int32.toNatClampNeg x1) ((-1))) fun μ367 =>
    f_X11_init_b328 n a0 (x1 + 1) μ367
def f_X11_init_b326 (a0 : Nat) (μ : Mm) : Option (Unit × Mm) :=
  f_X11_init_b328 5000 a0 0 μ
def f_X11_init_b307 : Nat → Nat → Int32 → Mm → Option (Unit × Mm)
  | 0, _, _, _ => none
  | n + 1, a0, x1, μ =>
  if 8 ≤ x1 then
    f_X11_init_b326 a0 μ
  else
    ck (mK μ a0 = 112) <|
    bd (mR μ a0 30) fun p354 =>
    ck (isA 1 (mK μ p354)) <|
    ck (inb x1 (mL μ p354)) <|
    zl (sI μ p354 (Int32.toNatClampNeg x1) ((-1))) fun μ358 =>
    f_X11_init_b307 n a0 (x1 + 1) μ358
def f_X11_init_b305 (a0 : Nat) (μ : Mm) : Option (Unit × Mm) :=
  f_X11_init_b307 5000 a0 0 μ
def f_X11_init_b278 : Nat → Nat → Int32 → Mm → Option (Unit × Mm)
  | 0, _, _, _ => none
  | n + 1, a0, x1, μ =>
  if 16 ≤ x1 then
    f_X11_init_b305 a0 μ
  else
    ck (mK μ a0 = 112) <|
    bd (mR μ a0 14) fun p338 =>
    ck (isA 1 (mK μ p338)) <|
    ck (inb x1 (mL μ p338)) <|
    zl (sI μ p338 (Int32.toNatClampNeg x1) 6) fun μ342 =>
    bd (mR μ342 a0 29) fun p345 =>
    ck (isA 1 (mK μ342 p345)) <|
    ck (inb x1 (mL μ342 p345)) <|
    zl (sI μ342 p345 (Int32.toNatClampNeg x1) 1) fun μ349 =>
    f_X11_init_b278 n a0 (x1 + 1) μ349
def f_X11_init_b252 (a0 : Nat) (μ : Mm) : Option (Unit × Mm) :=
  ck (smn 8) <|
  zl (mN μ) fun p304 =>
  zl (nw μ 11 (Int32.toNatClampNeg 8) (Int32.toNatClampNeg 8)) fun μ305 =>
  ck (mK μ305 a0 = 112) <|
  zl (sR μ305 a0 47 (some p304)) fun μ311 =>
  ck (smn 8) <|
  zl (mN μ311) fun p315 =>
  zl (nw μ311 11 (Int32.toNatClampNeg 8) (Int32.toNatClampNeg 8)) fun μ316 =>
  ck (mK μ316 a0 = 112) <|
  zl (sR μ316 a0 55 (some p315)) fun μ322 =>
  ck (smn 64) <|
  zl (mN μ322) fun p326 =>
  zl (nw μ322 11 (Int32.toNatClampNeg 64) (Int32.toNatClampNeg 64)) fun μ327 =>
  ck (mK μ327 a0 = 112) <|
  zl (sR μ327 a0 56 (some p326)) fun μ333 =>
  f_X11_init_b278 5000 a0 0 μ333
def f_X11_init_b124 (a0 : Nat) (μ : Mm) : Option (Unit × Mm) :=
  ck (smn 24) <|
  zl (mN μ) fun p141 =>
  zl (nw μ 11 (Int32.toNatClampNeg 24) (Int32.toNatClampNeg 24)) fun μ142 =>
  ck (mK μ142 a0 = 112) <|
  zl (sR μ142 a0 18 (some p141)) fun μ148 =>
  ck (smn 24) <|
  zl (mN μ148) fun p152 =>
  zl (nw μ148 12 (Int32.toNatClampNeg 24) (Int32.toNatClampNeg 24)) fun μ153 =>
  ck (mK μ153 a0 = 112) <|
  zl (sR μ153 a0 19 (some p152)) fun μ159 =>
  ck (smn 24) <|
  zl (mN μ159) fun p163 =>
  zl (nw μ159 11 (Int32.toNatClampNeg 24) (Int32.toNatClampNeg 24)) fun μ164 =>
  ck (mK μ164 a0 = 112) <|
  zl (sR μ164 a0 20 (some p163)) fun μ170 =>
  ck (smn 16) <|
  ck (smn 28) <|
  zl (mN μ170) fun p175 =>
  zl (nwM μ170 15 11 (Int32.toNatClampNeg 16) (Int32.toNatClampNeg 28)) fun μ176 =>
  ck (mK μ176 a0 = 112) <|
  zl (sR μ176 a0 22 (some p175)) fun μ180 =>
  ck (smn 8) <|
  ck (smn 28) <|
  zl (mN μ180) fun p185 =>
  zl (nwM μ180 15 11 (Int32.toNatClampNeg 8) (Int32.toNatClampNeg 28)) fun μ186 =>
  ck (mK μ186 a0 = 112) <|
  zl (sR μ186 a0 24 (some p185)) fun μ190 =>
  ck (smn 5) <|
  zl (mN μ190) fun p194 =>
  zl (nw μ190 11 (Int32.toNatClampNeg 5) (Int32.toNatClampNeg 5)) fun μ195 =>
  ck (mK μ195 a0 = 112) <|
  zl (sR μ195 a0 28 (some p194)) fun μ201 =>
  ck (smn 16) <|
  zl (mN μ201) fun p205 =>
  zl (nw μ201 11 (Int32.toNatClampNeg 16) (Int32.toNatClampNeg 16)) fun μ206 =>
  ck (mK μ206 a0 = 112) <|
  zl (sR μ206 a0 29 (some p205)) fun μ212 =>
  ck (smn 8) <|
  zl (mN μ212) fun p216 =>
  zl (nw μ212 11 (Int32.toNatClampNeg 8) (Int32.toNatClampNeg 8)) fun μ217 =>
  ck (mK μ217 a0 = 112) <|
  zl (sR μ217 a0 30 (some p216)) fun μ223 =>
  ck (smn 16) <|
  zl (mN μ223) fun p227 =>
  zl (nw μ223 12 (Int32.toNatClampNeg 16) (Int32.toNatClampNeg 16)) fun μ228 =>
  ck (mK μ228 a0 = 112) <|
  zl (sR μ228 a0 31 (some p227)) fun μ234 =>
  ck (smn 4) <|
  zl (mN μ234) fun p238 =>
  zl (nw μ234 11 (Int32.toNatClampNeg 4) (Int32.toNatClampNeg 4)) fun μ239 =>
  ck (mK μ239 a0 = 112) <|
  zl (sR μ239 a0 32 (some p238)) fun μ245 =>
  ck (smn 2) <|
  zl (mN μ245) fun p249 =>
  zl (nw μ245 11 (Int32.toNatClampNeg 2) (Int32.toNatClampNeg 2)) fun μ250 =>
  ck (mK μ250 a0 = 112) <|
  zl (sR μ250 a0 33 (some p249)) fun μ256 =>
  ck (smn 2) <|
  zl (mN μ256) fun p260 =>
  zl (nw μ256 11 (Int32.toNatClampNeg 2) (Int32.toNatClampNeg 2)) fun μ261 =>
  ck (mK μ261 a0 = 112) <|
  zl (sR μ261 a0 34 (some p260)) fun μ267 =>
  ck (smn 2004) <|
  zl (mN μ267) fun p271 =>
  zl (nw μ267 11 (Int32.toNatClampNeg 2004) (Int32.toNatClampNeg 2004)) fun μ272 =>
  ck (mK μ272 a0 = 112) <|
  zl (sR μ272 a0 43 (some p271)) fun μ278 =>
  ck (smn 2004) <|
  zl (mN μ278) fun p282 =>
  zl (nw μ278 11 (Int32.toNatClampNeg 2004) (Int32.toNatClampNeg 2004)) fun μ283 =>
  ck (mK μ283 a0 = 112) <|
  zl (sR μ283 a0 44 (some p282)) fun μ289 =>
  ck (smn 2004) <|
  zl (mN μ289) fun p293 =>
  zl (nw μ289 15 (Int32.toNatClampNeg 2004) (Int32.toNatClampNeg 2004)) fun μ294 =>
  ck (mK μ294 a0 = 112) <|
  zl (sR μ294 a0 45 (some p293)) fun μ300 =>
  f_X11_init_b252 a0 μ300
def f_X11_init (a0 : Nat) (μ : Mm) : Option (Unit × Mm) :=
  ck (smn 64) <|
  zl (mN μ) fun p2 =>
  zl (nw μ 11 (Int32.toNatClampNeg 64) (Int32.toNatClampNeg 64)) fun μ3 =>
  ck (mK μ3 a0 = 112) <|
  zl (sR μ3 a0 0 (some p2)) fun μ9 =>
  ck (smn 64) <|
  zl (mN μ9) fun p13 =>
  zl (nw μ9 11 (Int32.toNatClampNeg 64) (Int32.toNatClampNeg 64)) fun μ14 =>
  ck (mK μ14 a0 = 112) <|
  zl (sR μ14 a0 1 (some p13)) fun μ20 =>
  ck (smn 64) <|
  zl (mN μ20) fun p24 =>
  zl (nw μ20 11 (Int32.toNatClampNeg 64) (Int32.toNatClampNeg 64)) fun μ25 =>
  ck (mK μ25 a0 = 112) <|
  zl (sR μ25 a0 2 (some p24)) fun μ31 =>
  ck (smn 64) <|
  zl (mN μ31) fun p35 =>
  zl (nw μ31 11 (Int32.toNatClampNeg 64) (Int32.toNatClampNeg 64)) fun μ36 =>
  ck (mK μ36 a0 = 112) <|
  zl (sR μ36 a0 3 (some p35)) fun μ42 =>
  ck (smn 64) <|
  zl (mN μ42) fun p46 =>
  zl (nw μ42 11 (Int32.toNatClampNeg 64) (Int32.toNatClampNeg 64)) fun μ47 =>
  ck (mK μ47 a0 = 112) <|
  zl (sR μ47 a0 4 (some p46)) fun μ53 =>
  zl (sI μ53 a0 6 2) fun μ56 =>
  zl (sI μ56 a0 7 8) fun μ59 =>
  zl (sI μ59 a0 8 4) fun μ62 =>
  zl (sI μ62 a0 9 16) fun μ65 =>
  zl (sI μ65 a0 10 ((-1))) fun μ68 =>
  zl (sI μ68 a0 11 ((-1))) fun μ71 =>
  ck (smn 8) <|
  zl (mN μ71) fun p75 =>
  zl (nw μ71 11 (Int32.toNatClampNeg 8) (Int32.toNatClampNeg 8)) fun μ76 =>
  ck (mK μ76 a0 = 112) <|
  zl (sR μ76 a0 12 (some p75)) fun μ82 =>
  ck (smn 64) <|
  zl (mN μ82) fun p86 =>
  zl (nw μ82 11 (Int32.toNatClampNeg 64) (Int32.toNatClampNeg 64)) fun μ87 =>
  ck (mK μ87 a0 = 112) <|
  zl (sR μ87 a0 13 (some p86)) fun μ93 =>
  ck (smn 16) <|
  zl (mN μ93) fun p97 =>
  zl (nw μ93 11 (Int32.toNatClampNeg 16) (Int32.toNatClampNeg 16)) fun μ98 =>
  ck (mK μ98 a0 = 112) <|
  zl (sR μ98 a0 14 (some p97)) fun μ104 =>
  ck (smn 64) <|
  zl (mN μ104) fun p108 =>
  zl (nw μ104 11 (Int32.toNatClampNeg 64) (Int32.toNatClampNeg 64)) fun μ109 =>
  ck (mK μ109 a0 = 112) <|
  zl (sR μ109 a0 15 (some p108)) fun μ115 =>
  ck (smn 8) <|
  zl (mN μ115) fun p119 =>
  zl (nw μ115 11 (Int32.toNatClampNeg 8) (Int32.toNatClampNeg 8)) fun μ120 =>
  ck (mK μ120 a0 = 112) <|
  zl (sR μ120 a0 16 (some p119)) fun μ126 =>
  ck (smn 8) <|
  zl (mN μ126) fun p130 =>
  zl (nw μ126 11 (Int32.toNatClampNeg 8) (Int32.toNatClampNeg 8)) fun μ131 =>
  ck (mK μ131 a0 = 112) <|
  zl (sR μ131 a0 17 (some p130)) fun μ137 =>
  f_X11_init_b124 a0 μ137
set_option maxRecDepth 100000 in
theorem s_X11_init_b381 {l : Launch} {G : Gt} (hG : Gok l G) (a0 : Nat) (μ : Mm) (r : Unit) (μ' : Mm) (h : f_X11_init_b381 a0 μ = some (r, μ')) : ZX l G mX11_init 381 [(0, .ref a0)] [] μ (.inl none) μ' := by
  unfold f_X11_init_b381 at h
  refine zx_aload_n dX11_init_381 rfl (q := 0) rfl ?_
  obtain ⟨h393, h⟩ := ck_e h
  obtain ⟨uu394, μ396, z395, h⟩ := cl_e h
  refine zx_callV (As := []) hG mf_X11_laysFree cv_X11_120 h393 ⟨by decide, by decide⟩ rfl rfl (Nat.le_of_ble_eq_true rfl) (s_X11_laysFree hG _ _ _ _ z395) (Nat.le_of_ble_eq_true rfl) dX11_init_382 ?_
  cases h
  exact zx_vret dX11_init_385 rfl
set_option maxRecDepth 100000 in
theorem s_X11_init_b348 {l : Launch} {G : Gt} (hG : Gok l G) : ∀ (n : Nat) (a0 : Nat) (x1 : Int32) (μ : Mm) (r : Unit) (μ' : Mm), f_X11_init_b348 n a0 x1 μ = some (r, μ') → ZX l G mX11_init 348 [(0, .ref a0), (1, .int x1)] [] μ (.inl none) μ' := by
  intro n
  induction n with
  | zero =>
    intro a0 x1 μ r μ' h
    cases h
  | succ n ih =>
    intro a0 x1 μ r μ' h
    unfold f_X11_init_b348 at h
    refine zx_iload_n dX11_init_348 rfl (q := 1) rfl ?_
    refine zx_bipush (v := 8) dX11_init_349 iv_bipush_8 ?_
    by_cases c370 : 8 ≤ x1
    · have h := it_t c370 h
      refine zx_icmp_ge_t (tgt := 381) dX11_init_351 (by decide) c370 ?_
      refine zx_sub (L' := [(0, .ref a0)]) [0] rfl ?_
      exact s_X11_init_b381 hG _ _ _ _ h
    · have h := it_f c370 h
      refine zx_icmp_ge_f (tgt := 381) dX11_init_351 (by decide) c370 ?_
      refine zx_aload_n dX11_init_354 rfl (q := 0) rfl ?_
      obtain ⟨h371, h⟩ := ck_e h
      obtain ⟨p372, h373, h⟩ := bd_e h
      refine zx_getR hG fl_X11_56 h371 h373 dX11_init_355 ?_
      refine zx_iload_n dX11_init_358 rfl (q := 1) rfl ?_
      refine zx_iload_n dX11_init_359 rfl (q := 1) rfl ?_
      obtain ⟨h374, h⟩ := ck_e h
      obtain ⟨h375, h⟩ := ck_e h
      refine zx_iast hG rfl (h374).1 (h374).2 (inb_e h375) dX11_init_360 ?_
      obtain ⟨μ376, e378, h⟩ := zlm_e h
      refine zx_mem e378 ?_
      have e377 : mK μ376 = mK μ := (congrArg mK e378).trans rfl
      refine zx_aload_n dX11_init_361 rfl (q := 0) rfl ?_
      obtain ⟨p379, h380, h⟩ := bd_e h
      refine zx_getR hG fl_X11_59 (kp_o (e377) h371) h380 dX11_init_362 ?_
      refine zx_iload_n dX11_init_365 rfl (q := 1) rfl ?_
      refine zx_iload_n dX11_init_366 rfl (q := 1) rfl ?_
      obtain ⟨h381, h⟩ := ck_e h
      obtain ⟨h382, h⟩ := ck_e h
      refine zx_iast hG rfl (h381).1 (h381).2 (inb_e h382) dX11_init_367 ?_
      obtain ⟨μ383, e385, h⟩ := zlm_e h
      refine zx_mem e385 ?_
      have e384 : mK μ383 = mK μ376 := (congrArg mK e385).trans rfl
      refine zx_aload_n dX11_init_368 rfl (q := 0) rfl ?_
      obtain ⟨p386, h387, h⟩ := bd_e h
      refine zx_getR hG fl_X11_65 (kp_o (Eq.trans e384 e377) h371) h387 dX11_init_369 ?_
      refine zx_iload_n dX11_init_372 rfl (q := 1) rfl ?_
      refine zx_iconst (v := 1) dX11_init_373 iv_iconst_1 ?_
      obtain ⟨h388, h⟩ := ck_e h
      obtain ⟨h389, h⟩ := ck_e h
      refine zx_zast hG rfl (h388).1 (h388).2 (inb_e h389) dX11_init_374 ?_
      obtain ⟨μ390, e392, h⟩ := zlm_e h
      refine zx_mem e392 ?_
      have e391 : mK μ390 = mK μ383 := (congrArg mK e392).trans rfl
      refine zx_iinc (q := 1) (v := x1 + 1) (L' := [(1, .int (x1 + 1)), (0, .ref a0)]) dX11_init_375 rfl rfl (by decide) rfl ?_
      refine zx_goto (tgt := 348) dX11_init_378 (by decide) ?_
      refine zx_sub (L' := [(0, .ref a0), (1, .int (x1 + 1))]) [1, 0] rfl ?_
      exact ih _ _ _ _ _ h
set_option maxRecDepth 100000 in
theorem s_X11_init_b346 {l : Launch} {G : Gt} (hG : Gok l G) (a0 : Nat) (μ : Mm) (r : Unit) (μ' : Mm) (h : f_X11_init_b346 a0 μ = some (r, μ')) : ZX l G mX11_init 346 [(0, .ref a0)] [] μ (.inl none) μ' := by
  unfold f_X11_init_b346 at h
  refine zx_iconst (v := 0) dX11_init_346 iv_iconst_0 ?_
  refine zx_istore_n (L' := [(1, .int 0), (0, .ref a0)]) dX11_init_347 rfl (by decide) rfl ?_
  refine zx_sub (L' := [(0, .ref a0), (1, .int 0)]) [1, 0] rfl ?_
  exact s_X11_init_b348 hG 5000 _ _ _ _ _ h
set_option maxRecDepth 100000 in
theorem s_X11_init_b328 {l : Launch} {G : Gt} (hG : Gok l G) : ∀ (n : Nat) (a0 : Nat) (x1 : Int32) (μ : Mm) (r : Unit) (μ' : Mm), f_X11_init_b328 n a0 x1 μ = some (r, μ') → ZX l G mX11_init 328 [(0, .ref a0), (1, .int x1)] [] μ (.inl none) μ' := by
  intro n
  induction n with
  | zero =>
    intro a0 x1 μ r μ' h
    cases h
  | succ n ih =>
    intro a0 x1 μ r μ' h
    unfold f_X11_init_b328 at h
    refine zx_iload_n dX11_init_328 rfl (q := 1) rfl ?_
    refine zx_iconst (v := 4) dX11_init_329 iv_iconst_4 ?_
    by_cases c361 : 4 ≤ x1
    · have h := it_t c361 h
      refine zx_icmp_ge_t (tgt := 346) dX11_init_330 (by decide) c361 ?_
      refine zx_sub (L' := [(0, .ref a0)]) [0] rfl ?_
      exact s_X11_init_b346 hG _ _ _ _ h
    · have h := it_f c361 h
      refine zx_icmp_ge_f (tgt := 346) dX11_init_330 (by decide) c361 ?_
      refine zx_aload_n dX11_init_333 rfl (q := 0) rfl ?_
      obtain ⟨h362, h⟩ := ck_e h
      obtain ⟨p363, h364, h⟩ := bd_e h
      refine zx_getR hG fl_X11_92 h362 h364 dX11_init_334 ?_
      refine zx_iload_n dX11_init_337 rfl (q := 1) rfl ?_
      refine zx_iconst (v := (-1)) dX11_init_338 iv_iconst_m1 ?_
      obtain ⟨h365, h⟩ := ck_e h
      obtain ⟨h366, h⟩ := ck_e h
      refine zx_iast hG rfl (h365).1 (h365).2 (inb_e h366) dX11_init_339 ?_
      obtain ⟨μ367, e369, h⟩ := zlm_e h
      refine zx_mem e369 ?_
      have e368 : mK μ367 = mK μ := (congrArg mK e369).trans rfl
      refine zx_iinc (q := 1) (v := x1 + 1) (L' := [(1, .int (x1 + 1)), (0, .ref a0)]) dX11_init_340 rfl rfl (by decide) rfl ?_
      refine zx_goto (tgt := 328) dX11_init_343 (by decide) ?_
      refine zx_sub (L' := [(0, .ref a0), (1, .int (x1 + 1))]) [1, 0] rfl ?_
      exact ih _ _ _ _ _ h
set_option maxRecDepth 100000 in
theorem s_X11_init_b326 {l : Launch} {G : Gt} (hG : Gok l G) (a0 : Nat) (μ : Mm) (r : Unit) (μ' : Mm) (h : f_X11_init_b326 a0 μ = some (r, μ')) : ZX l G mX11_init 326 [(0, .ref a0)] [] μ (.inl none) μ' := by
  unfold f_X11_init_b326 at h
  refine zx_iconst (v := 0) dX11_init_326 iv_iconst_0 ?_
  refine zx_istore_n (L' := [(1, .int 0), (0, .ref a0)]) dX11_init_327 rfl (by decide) rfl ?_
  refine zx_sub (L' := [(0, .ref a0), (1, .int 0)]) [1, 0] rfl ?_
  exact s_X11_init_b328 hG 5000 _ _ _ _ _ h
set_option maxRecDepth 100000 in
theorem s_X11_init_b307 {l : Launch} {G : Gt} (hG : Gok l G) : ∀ (n : Nat) (a0 : Nat) (x1 : Int32) (μ : Mm) (r : Unit) (μ' : Mm), f_X11_init_b307 n a0 x1 μ = some (r, μ') → ZX l G mX11_init 307 [(0, .ref a0), (1, .int x1)] [] μ (.inl none) μ' := by
  intro n
  induction n with
  | zero =>
    intro a0 x1 μ r μ' h
    cases h
  | succ n ih =>
    intro a0 x1 μ r μ' h
    unfold f_X11_init_b307 at h
    refine zx_iload_n dX11_init_307 rfl (q := 1) rfl ?_
    refine zx_bipush (v := 8) dX11_init_308 iv_bipush_8 ?_
    by_cases c352 : 8 ≤ x1
    · have h := it_t c352 h
      refine zx_icmp_ge_t (tgt := 326) dX11_init_310 (by decide) c352 ?_
      refine zx_sub (L' := [(0, .ref a0)]) [0] rfl ?_
      exact s_X11_init_b326 hG _ _ _ _ h
    · have h := it_f c352 h
      refine zx_icmp_ge_f (tgt := 326) dX11_init_310 (by decide) c352 ?_
      refine zx_aload_n dX11_init_313 rfl (q := 0) rfl ?_
      obtain ⟨h353, h⟩ := ck_e h
      obtain ⟨p354, h355, h⟩ := bd_e h
      refine zx_getR hG fl_X11_86 h353 h355 dX11_init_314 ?_
      refine zx_iload_n dX11_init_317 rfl (q := 1) rfl ?_
      refine zx_iconst (v := (-1)) dX11_init_318 iv_iconst_m1 ?_
      obtain ⟨h356, h⟩ := ck_e h
      obtain ⟨h357, h⟩ := ck_e h
      refine zx_iast hG rfl (h356).1 (h356).2 (inb_e h357) dX11_init_319 ?_
      obtain ⟨μ358, e360, h⟩ := zlm_e h
      refine zx_mem e360 ?_
      have e359 : mK μ358 = mK μ := (congrArg mK e360).trans rfl
      refine zx_iinc (q := 1) (v := x1 + 1) (L' := [(1, .int (x1 + 1)), (0, .ref a0)]) dX11_init_320 rfl rfl (by decide) rfl ?_
      refine zx_goto (tgt := 307) dX11_init_323 (by decide) ?_
      refine zx_sub (L' := [(0, .ref a0), (1, .int (x1 + 1))]) [1, 0] rfl ?_
      exact ih _ _ _ _ _ h
set_option maxRecDepth 100000 in
theorem s_X11_init_b305 {l : Launch} {G : Gt} (hG : Gok l G) (a0 : Nat) (μ : Mm) (r : Unit) (μ' : Mm) (h : f_X11_init_b305 a0 μ = some (r, μ')) : ZX l G mX11_init 305 [(0, .ref a0)] [] μ (.inl none) μ' := by
  unfold f_X11_init_b305 at h
  refine zx_iconst (v := 0) dX11_init_305 iv_iconst_0 ?_
  refine zx_istore_n (L' := [(1, .int 0), (0, .ref a0)]) dX11_init_306 rfl (by decide) rfl ?_
  refine zx_sub (L' := [(0, .ref a0), (1, .int 0)]) [1, 0] rfl ?_
  exact s_X11_init_b307 hG 5000 _ _ _ _ _ h
set_option maxRecDepth 100000 in
theorem s_X11_init_b278 {l : Launch} {G : Gt} (hG : Gok l G) : ∀ (n : Nat) (a0 : Nat) (x1 : Int32) (μ : Mm) (r : Unit) (μ' : Mm), f_X11_init_b278 n a0 x1 μ = some (r, μ') → ZX l G mX11_init 278 [(0, .ref a0), (1, .int x1)] [] μ (.inl none) μ' := by
  intro n
  induction n with
  | zero =>
    intro a0 x1 μ r μ' h
    cases h
  | succ n ih =>
    intro a0 x1 μ r μ' h
    unfold f_X11_init_b278 at h
    refine zx_iload_n dX11_init_278 rfl (q := 1) rfl ?_
    refine zx_bipush (v := 16) dX11_init_279 iv_bipush_16 ?_
    by_cases c336 : 16 ≤ x1
    · have h := it_t c336 h
      refine zx_icmp_ge_t (tgt := 305) dX11_init_281 (by decide) c336 ?_
      refine zx_sub (L' := [(0, .ref a0)]) [0] rfl ?_
      exact s_X11_init_b305 hG _ _ _ _ h
    · have h := it_f c336 h
      refine zx_icmp_ge_f (tgt := 305) dX11_init_281 (by decide) c336 ?_
      refine zx_aload_n dX11_init_284 rfl (q := 0) rfl ?_
      obtain ⟨h337, h⟩ := ck_e h
      obtain ⟨p338, h339, h⟩ := bd_e h
      refine zx_getR hG fl_X11_50 h337 h339 dX11_init_285 ?_
      refine zx_iload_n dX11_init_288 rfl (q := 1) rfl ?_
      refine zx_bipush (v := 6) dX11_init_289 iv_bipush_6 ?_
      obtain ⟨h340, h⟩ := ck_e h
      obtain ⟨h341, h⟩ := ck_e h
      refine zx_iast hG rfl (h340).1 (h340).2 (inb_e h341) dX11_init_291 ?_
      obtain ⟨μ342, e344, h⟩ := zlm_e h
      refine zx_mem e344 ?_
      have e343 : mK μ342 = mK μ := (congrArg mK e344).trans rfl
      refine zx_aload_n dX11_init_292 rfl (q := 0) rfl ?_
      obtain ⟨p345, h346, h⟩ := bd_e h
      refine zx_getR hG fl_X11_83 (kp_o (e343) h337) h346 dX11_init_293 ?_
      refine zx_iload_n dX11_init_296 rfl (q := 1) rfl ?_
      refine zx_iconst (v := 1) dX11_init_297 iv_iconst_1 ?_
      obtain ⟨h347, h⟩ := ck_e h
      obtain ⟨h348, h⟩ := ck_e h
      refine zx_iast hG rfl (h347).1 (h347).2 (inb_e h348) dX11_init_298 ?_
      obtain ⟨μ349, e351, h⟩ := zlm_e h
      refine zx_mem e351 ?_
      have e350 : mK μ349 = mK μ342 := (congrArg mK e351).trans rfl
      refine zx_iinc (q := 1) (v := x1 + 1) (L' := [(1, .int (x1 + 1)), (0, .ref a0)]) dX11_init_299 rfl rfl (by decide) rfl ?_
      refine zx_goto (tgt := 278) dX11_init_302 (by decide) ?_
      refine zx_sub (L' := [(0, .ref a0), (1, .int (x1 + 1))]) [1, 0] rfl ?_
      exact ih _ _ _ _ _ h
set_option maxRecDepth 100000 in
theorem s_X11_init_b252 {l : Launch} {G : Gt} (hG : Gok l G) (a0 : Nat) (μ : Mm) (r : Unit) (μ' : Mm) (h : f_X11_init_b252 a0 μ = some (r, μ')) : ZX l G mX11_init 252 [(0, .ref a0)] [] μ (.inl none) μ' := by
  unfold f_X11_init_b252 at h
  refine zx_aload_n dX11_init_252 rfl (q := 0) rfl ?_
  refine zx_bipush (v := 8) dX11_init_253 iv_bipush_8 ?_
  obtain ⟨h303, h⟩ := ck_e h
  refine zx_newa 11 (at9 := .int) hG w_ac_int (by decide) (by decide) (smn_e h303) (h303).2 dX11_init_255 ?_
  obtain ⟨p304, e307, h⟩ := zlm_e h
  obtain ⟨μ305, e308, h⟩ := zlm_e h
  refine zx_mem e308 (zx_stk e307 ?_)
  have h306 : mK μ305 p304 = 11 := nw_Kp e308 e307
  have h309 : isA 1 (mK μ305 p304) := by rw [h306]; decide
  obtain ⟨h310, h⟩ := ck_e h
  refine zx_putRF hG fl_X11_111 fn_12_47 rfl h310 dX11_init_257 ?_
  obtain ⟨μ311, e313, h⟩ := zlm_e h
  refine zx_mem e313 ?_
  have e312 : mK μ311 = mK μ305 := (congrArg mK e313).trans rfl
  refine zx_aload_n dX11_init_260 rfl (q := 0) rfl ?_
  refine zx_bipush (v := 8) dX11_init_261 iv_bipush_8 ?_
  obtain ⟨h314, h⟩ := ck_e h
  refine zx_newa 11 (at9 := .int) hG w_ac_int (by decide) (by decide) (smn_e h314) (h314).2 dX11_init_263 ?_
  obtain ⟨p315, e318, h⟩ := zlm_e h
  obtain ⟨μ316, e319, h⟩ := zlm_e h
  refine zx_mem e319 (zx_stk e318 ?_)
  have h317 : mK μ316 p315 = 11 := nw_Kp e319 e318
  have h320 : isA 1 (mK μ316 p315) := by rw [h317]; decide
  obtain ⟨h321, h⟩ := ck_e h
  refine zx_putRF hG fl_X11_114 fn_12_55 rfl h321 dX11_init_265 ?_
  obtain ⟨μ322, e324, h⟩ := zlm_e h
  refine zx_mem e324 ?_
  have e323 : mK μ322 = mK μ316 := (congrArg mK e324).trans rfl
  refine zx_aload_n dX11_init_268 rfl (q := 0) rfl ?_
  refine zx_bipush (v := 64) dX11_init_269 iv_bipush_64 ?_
  obtain ⟨h325, h⟩ := ck_e h
  refine zx_newa 11 (at9 := .int) hG w_ac_int (by decide) (by decide) (smn_e h325) (h325).2 dX11_init_271 ?_
  obtain ⟨p326, e329, h⟩ := zlm_e h
  obtain ⟨μ327, e330, h⟩ := zlm_e h
  refine zx_mem e330 (zx_stk e329 ?_)
  have h328 : mK μ327 p326 = 11 := nw_Kp e330 e329
  have h331 : isA 1 (mK μ327 p326) := by rw [h328]; decide
  obtain ⟨h332, h⟩ := ck_e h
  refine zx_putRF hG fl_X11_117 fn_12_56 rfl h332 dX11_init_273 ?_
  obtain ⟨μ333, e335, h⟩ := zlm_e h
  refine zx_mem e335 ?_
  have e334 : mK μ333 = mK μ327 := (congrArg mK e335).trans rfl
  refine zx_iconst (v := 0) dX11_init_276 iv_iconst_0 ?_
  refine zx_istore_n (L' := [(1, .int 0), (0, .ref a0)]) dX11_init_277 rfl (by decide) rfl ?_
  refine zx_sub (L' := [(0, .ref a0), (1, .int 0)]) [1, 0] rfl ?_
  exact s_X11_init_b278 hG 5000 _ _ _ _ _ h
set_option maxRecDepth 100000 in
theorem s_X11_init_b124 {l : Launch} {G : Gt} (hG : Gok l G) (a0 : Nat) (μ : Mm) (r : Unit) (μ' : Mm) (h : f_X11_init_b124 a0 μ = some (r, μ')) : ZX l G mX11_init 124 [(0, .ref a0)] [] μ (.inl none) μ' := by
  unfold f_X11_init_b124 at h
  refine zx_aload_n dX11_init_124 rfl (q := 0) rfl ?_
  refine zx_bipush (v := 24) dX11_init_125 iv_bipush_24 ?_
  obtain ⟨h140, h⟩ := ck_e h
  refine zx_newa 11 (at9 := .int) hG w_ac_int (by decide) (by decide) (smn_e h140) (h140).2 dX11_init_127 ?_
  obtain ⟨p141, e144, h⟩ := zlm_e h
  obtain ⟨μ142, e145, h⟩ := zlm_e h
  refine zx_mem e145 (zx_stk e144 ?_)
  have h143 : mK μ142 p141 = 11 := nw_Kp e145 e144
  have h146 : isA 1 (mK μ142 p141) := by rw [h143]; decide
  obtain ⟨h147, h⟩ := ck_e h
  refine zx_putRF hG fl_X11_62 fn_12_18 rfl h147 dX11_init_129 ?_
  obtain ⟨μ148, e150, h⟩ := zlm_e h
  refine zx_mem e150 ?_
  have e149 : mK μ148 = mK μ142 := (congrArg mK e150).trans rfl
  refine zx_aload_n dX11_init_132 rfl (q := 0) rfl ?_
  refine zx_bipush (v := 24) dX11_init_133 iv_bipush_24 ?_
  obtain ⟨h151, h⟩ := ck_e h
  refine zx_newa 12 (at9 := .boolean) hG w_ac_boolean (by decide) (by decide) (smn_e h151) (h151).2 dX11_init_135 ?_
  obtain ⟨p152, e155, h⟩ := zlm_e h
  obtain ⟨μ153, e156, h⟩ := zlm_e h
  refine zx_mem e156 (zx_stk e155 ?_)
  have h154 : mK μ153 p152 = 12 := nw_Kp e156 e155
  have h157 : isA 2 (mK μ153 p152) := by rw [h154]; decide
  obtain ⟨h158, h⟩ := ck_e h
  refine zx_putRF hG fl_X11_65 fn_12_19 rfl h158 dX11_init_137 ?_
  obtain ⟨μ159, e161, h⟩ := zlm_e h
  refine zx_mem e161 ?_
  have e160 : mK μ159 = mK μ153 := (congrArg mK e161).trans rfl
  refine zx_aload_n dX11_init_140 rfl (q := 0) rfl ?_
  refine zx_bipush (v := 24) dX11_init_141 iv_bipush_24 ?_
  obtain ⟨h162, h⟩ := ck_e h
  refine zx_newa 11 (at9 := .int) hG w_ac_int (by decide) (by decide) (smn_e h162) (h162).2 dX11_init_143 ?_
  obtain ⟨p163, e166, h⟩ := zlm_e h
  obtain ⟨μ164, e167, h⟩ := zlm_e h
  refine zx_mem e167 (zx_stk e166 ?_)
  have h165 : mK μ164 p163 = 11 := nw_Kp e167 e166
  have h168 : isA 1 (mK μ164 p163) := by rw [h165]; decide
  obtain ⟨h169, h⟩ := ck_e h
  refine zx_putRF hG fl_X11_69 fn_12_20 rfl h169 dX11_init_145 ?_
  obtain ⟨μ170, e172, h⟩ := zlm_e h
  refine zx_mem e172 ?_
  have e171 : mK μ170 = mK μ164 := (congrArg mK e172).trans rfl
  refine zx_aload_n dX11_init_148 rfl (q := 0) rfl ?_
  refine zx_bipush (v := 16) dX11_init_149 iv_bipush_16 ?_
  refine zx_bipush (v := 28) dX11_init_151 iv_bipush_28 ?_
  obtain ⟨h173, h⟩ := ck_e h
  obtain ⟨h174, h⟩ := ck_e h
  refine zx_newM 15 11 hG kl_X11_72 w_ao_I w_ac_int (by decide) (by decide) (smn_e h173) (h173).2 (smn_e h174) (h174).2 dX11_init_153 ?_
  obtain ⟨p175, e177, h⟩ := zlm_e h
  obtain ⟨μ176, e178, h⟩ := zlm_e h
  refine zx_mem e178 (zx_stk e177 ?_)
  obtain ⟨h179, h⟩ := ck_e h
  refine zx_putRF hG fl_X11_74 fn_12_22 rfl h179 dX11_init_157 ?_
  obtain ⟨μ180, e182, h⟩ := zlm_e h
  refine zx_mem e182 ?_
  have e181 : mK μ180 = mK μ176 := (congrArg mK e182).trans rfl
  refine zx_aload_n dX11_init_160 rfl (q := 0) rfl ?_
  refine zx_bipush (v := 8) dX11_init_161 iv_bipush_8 ?_
  refine zx_bipush (v := 28) dX11_init_163 iv_bipush_28 ?_
  obtain ⟨h183, h⟩ := ck_e h
  obtain ⟨h184, h⟩ := ck_e h
  refine zx_newM 15 11 hG kl_X11_72 w_ao_I w_ac_int (by decide) (by decide) (smn_e h183) (h183).2 (smn_e h184) (h184).2 dX11_init_165 ?_
  obtain ⟨p185, e187, h⟩ := zlm_e h
  obtain ⟨μ186, e188, h⟩ := zlm_e h
  refine zx_mem e188 (zx_stk e187 ?_)
  obtain ⟨h189, h⟩ := ck_e h
  refine zx_putRF hG fl_X11_77 fn_12_24 rfl h189 dX11_init_169 ?_
  obtain ⟨μ190, e192, h⟩ := zlm_e h
  refine zx_mem e192 ?_
  have e191 : mK μ190 = mK μ186 := (congrArg mK e192).trans rfl
  refine zx_aload_n dX11_init_172 rfl (q := 0) rfl ?_
  refine zx_iconst (v := 5) dX11_init_173 iv_iconst_5 ?_
  obtain ⟨h193, h⟩ := ck_e h
  refine zx_newa 11 (at9 := .int) hG w_ac_int (by decide) (by decide) (smn_e h193) (h193).2 dX11_init_174 ?_
  obtain ⟨p194, e197, h⟩ := zlm_e h
  obtain ⟨μ195, e198, h⟩ := zlm_e h
  refine zx_mem e198 (zx_stk e197 ?_)
  have h196 : mK μ195 p194 = 11 := nw_Kp e198 e197
  have h199 : isA 1 (mK μ195 p194) := by rw [h196]; decide
  obtain ⟨h200, h⟩ := ck_e h
  refine zx_putRF hG fl_X11_80 fn_12_28 rfl h200 dX11_init_176 ?_
  obtain ⟨μ201, e203, h⟩ := zlm_e h
  refine zx_mem e203 ?_
  have e202 : mK μ201 = mK μ195 := (congrArg mK e203).trans rfl
  refine zx_aload_n dX11_init_179 rfl (q := 0) rfl ?_
  refine zx_bipush (v := 16) dX11_init_180 iv_bipush_16 ?_
  obtain ⟨h204, h⟩ := ck_e h
  refine zx_newa 11 (at9 := .int) hG w_ac_int (by decide) (by decide) (smn_e h204) (h204).2 dX11_init_182 ?_
  obtain ⟨p205, e208, h⟩ := zlm_e h
  obtain ⟨μ206, e209, h⟩ := zlm_e h
  refine zx_mem e209 (zx_stk e208 ?_)
  have h207 : mK μ206 p205 = 11 := nw_Kp e209 e208
  have h210 : isA 1 (mK μ206 p205) := by rw [h207]; decide
  obtain ⟨h211, h⟩ := ck_e h
  refine zx_putRF hG fl_X11_83 fn_12_29 rfl h211 dX11_init_184 ?_
  obtain ⟨μ212, e214, h⟩ := zlm_e h
  refine zx_mem e214 ?_
  have e213 : mK μ212 = mK μ206 := (congrArg mK e214).trans rfl
  refine zx_aload_n dX11_init_187 rfl (q := 0) rfl ?_
  refine zx_bipush (v := 8) dX11_init_188 iv_bipush_8 ?_
  obtain ⟨h215, h⟩ := ck_e h
  refine zx_newa 11 (at9 := .int) hG w_ac_int (by decide) (by decide) (smn_e h215) (h215).2 dX11_init_190 ?_
  obtain ⟨p216, e219, h⟩ := zlm_e h
  obtain ⟨μ217, e220, h⟩ := zlm_e h
  refine zx_mem e220 (zx_stk e219 ?_)
  have h218 : mK μ217 p216 = 11 := nw_Kp e220 e219
  have h221 : isA 1 (mK μ217 p216) := by rw [h218]; decide
  obtain ⟨h222, h⟩ := ck_e h
  refine zx_putRF hG fl_X11_86 fn_12_30 rfl h222 dX11_init_192 ?_
  obtain ⟨μ223, e225, h⟩ := zlm_e h
  refine zx_mem e225 ?_
  have e224 : mK μ223 = mK μ217 := (congrArg mK e225).trans rfl
  refine zx_aload_n dX11_init_195 rfl (q := 0) rfl ?_
  refine zx_bipush (v := 16) dX11_init_196 iv_bipush_16 ?_
  obtain ⟨h226, h⟩ := ck_e h
  refine zx_newa 12 (at9 := .boolean) hG w_ac_boolean (by decide) (by decide) (smn_e h226) (h226).2 dX11_init_198 ?_
  obtain ⟨p227, e230, h⟩ := zlm_e h
  obtain ⟨μ228, e231, h⟩ := zlm_e h
  refine zx_mem e231 (zx_stk e230 ?_)
  have h229 : mK μ228 p227 = 12 := nw_Kp e231 e230
  have h232 : isA 2 (mK μ228 p227) := by rw [h229]; decide
  obtain ⟨h233, h⟩ := ck_e h
  refine zx_putRF hG fl_X11_89 fn_12_31 rfl h233 dX11_init_200 ?_
  obtain ⟨μ234, e236, h⟩ := zlm_e h
  refine zx_mem e236 ?_
  have e235 : mK μ234 = mK μ228 := (congrArg mK e236).trans rfl
  refine zx_aload_n dX11_init_203 rfl (q := 0) rfl ?_
  refine zx_iconst (v := 4) dX11_init_204 iv_iconst_4 ?_
  obtain ⟨h237, h⟩ := ck_e h
  refine zx_newa 11 (at9 := .int) hG w_ac_int (by decide) (by decide) (smn_e h237) (h237).2 dX11_init_205 ?_
  obtain ⟨p238, e241, h⟩ := zlm_e h
  obtain ⟨μ239, e242, h⟩ := zlm_e h
  refine zx_mem e242 (zx_stk e241 ?_)
  have h240 : mK μ239 p238 = 11 := nw_Kp e242 e241
  have h243 : isA 1 (mK μ239 p238) := by rw [h240]; decide
  obtain ⟨h244, h⟩ := ck_e h
  refine zx_putRF hG fl_X11_92 fn_12_32 rfl h244 dX11_init_207 ?_
  obtain ⟨μ245, e247, h⟩ := zlm_e h
  refine zx_mem e247 ?_
  have e246 : mK μ245 = mK μ239 := (congrArg mK e247).trans rfl
  refine zx_aload_n dX11_init_210 rfl (q := 0) rfl ?_
  refine zx_iconst (v := 2) dX11_init_211 iv_iconst_2 ?_
  obtain ⟨h248, h⟩ := ck_e h
  refine zx_newa 11 (at9 := .int) hG w_ac_int (by decide) (by decide) (smn_e h248) (h248).2 dX11_init_212 ?_
  obtain ⟨p249, e252, h⟩ := zlm_e h
  obtain ⟨μ250, e253, h⟩ := zlm_e h
  refine zx_mem e253 (zx_stk e252 ?_)
  have h251 : mK μ250 p249 = 11 := nw_Kp e253 e252
  have h254 : isA 1 (mK μ250 p249) := by rw [h251]; decide
  obtain ⟨h255, h⟩ := ck_e h
  refine zx_putRF hG fl_X11_95 fn_12_33 rfl h255 dX11_init_214 ?_
  obtain ⟨μ256, e258, h⟩ := zlm_e h
  refine zx_mem e258 ?_
  have e257 : mK μ256 = mK μ250 := (congrArg mK e258).trans rfl
  refine zx_aload_n dX11_init_217 rfl (q := 0) rfl ?_
  refine zx_iconst (v := 2) dX11_init_218 iv_iconst_2 ?_
  obtain ⟨h259, h⟩ := ck_e h
  refine zx_newa 11 (at9 := .int) hG w_ac_int (by decide) (by decide) (smn_e h259) (h259).2 dX11_init_219 ?_
  obtain ⟨p260, e263, h⟩ := zlm_e h
  obtain ⟨μ261, e264, h⟩ := zlm_e h
  refine zx_mem e264 (zx_stk e263 ?_)
  have h262 : mK μ261 p260 = 11 := nw_Kp e264 e263
  have h265 : isA 1 (mK μ261 p260) := by rw [h262]; decide
  obtain ⟨h266, h⟩ := ck_e h
  refine zx_putRF hG fl_X11_98 fn_12_34 rfl h266 dX11_init_221 ?_
  obtain ⟨μ267, e269, h⟩ := zlm_e h
  refine zx_mem e269 ?_
  have e268 : mK μ267 = mK μ261 := (congrArg mK e269).trans rfl
  refine zx_aload_n dX11_init_224 rfl (q := 0) rfl ?_
  refine zx_sipush (v := 2004) dX11_init_225 iv_sipush_2004 ?_
  obtain ⟨h270, h⟩ := ck_e h
  refine zx_newa 11 (at9 := .int) hG w_ac_int (by decide) (by decide) (smn_e h270) (h270).2 dX11_init_228 ?_
  obtain ⟨p271, e274, h⟩ := zlm_e h
  obtain ⟨μ272, e275, h⟩ := zlm_e h
  refine zx_mem e275 (zx_stk e274 ?_)
  have h273 : mK μ272 p271 = 11 := nw_Kp e275 e274
  have h276 : isA 1 (mK μ272 p271) := by rw [h273]; decide
  obtain ⟨h277, h⟩ := ck_e h
  refine zx_putRF hG fl_X11_101 fn_12_43 rfl h277 dX11_init_230 ?_
  obtain ⟨μ278, e280, h⟩ := zlm_e h
  refine zx_mem e280 ?_
  have e279 : mK μ278 = mK μ272 := (congrArg mK e280).trans rfl
  refine zx_aload_n dX11_init_233 rfl (q := 0) rfl ?_
  refine zx_sipush (v := 2004) dX11_init_234 iv_sipush_2004 ?_
  obtain ⟨h281, h⟩ := ck_e h
  refine zx_newa 11 (at9 := .int) hG w_ac_int (by decide) (by decide) (smn_e h281) (h281).2 dX11_init_237 ?_
  obtain ⟨p282, e285, h⟩ := zlm_e h
  obtain ⟨μ283, e286, h⟩ := zlm_e h
  refine zx_mem e286 (zx_stk e285 ?_)
  have h284 : mK μ283 p282 = 11 := nw_Kp e286 e285
  have h287 : isA 1 (mK μ283 p282) := by rw [h284]; decide
  obtain ⟨h288, h⟩ := ck_e h
  refine zx_putRF hG fl_X11_104 fn_12_44 rfl h288 dX11_init_239 ?_
  obtain ⟨μ289, e291, h⟩ := zlm_e h
  refine zx_mem e291 ?_
  have e290 : mK μ289 = mK μ283 := (congrArg mK e291).trans rfl
  refine zx_aload_n dX11_init_242 rfl (q := 0) rfl ?_
  refine zx_sipush (v := 2004) dX11_init_243 iv_sipush_2004 ?_
  obtain ⟨h292, h⟩ := ck_e h
  refine zx_newA 15 hG kl_X11_107 w_ao_I (by decide) (by decide) (smn_e h292) (h292).2 dX11_init_246 ?_
  obtain ⟨p293, e296, h⟩ := zlm_e h
  obtain ⟨μ294, e297, h⟩ := zlm_e h
  refine zx_mem e297 (zx_stk e296 ?_)
  have h295 : mK μ294 p293 = 15 := nw_Kp e297 e296
  have h298 : isA 5 (mK μ294 p293) := by rw [h295]; decide
  obtain ⟨h299, h⟩ := ck_e h
  refine zx_putRF hG fl_X11_108 fn_12_45 rfl h299 dX11_init_249 ?_
  obtain ⟨μ300, e302, h⟩ := zlm_e h
  refine zx_mem e302 ?_
  have e301 : mK μ300 = mK μ294 := (congrArg mK e302).trans rfl
  exact s_X11_init_b252 hG _ _ _ _ h
set_option maxRecDepth 100000 in
theorem s_X11_init {l : Launch} {G : Gt} (hG : Gok l G) (a0 : Nat) (μ : Mm) (r : Unit) (μ' : Mm) (h : f_X11_init a0 μ = some (r, μ')) : ZX l G mX11_init 0 [(0, .ref a0)] [] μ (.inl none) μ' := by
  unfold f_X11_init at h
  refine zx_aload_n dX11_init_0 rfl (q := 0) rfl ?_
  refine zx_objInit hG oi_X11_1 w_oi2 w_oi3 (by decide) (by decide) (Nat.le_of_ble_eq_true rfl) dX11_init_1 ?_
  refine zx_aload_n dX11_init_4 rfl (q := 0) rfl ?_
  refine zx_bipush (v := 64) dX11_init_5 iv_bipush_64 ?_
  obtain ⟨h1, h⟩ := ck_e h
  refine zx_newa 11 (at9 := .int) hG w_ac_int (by decide) (by decide) (smn_e h1) (h1).2 dX11_init_7 ?_
  obtain ⟨p2, e5, h⟩ := zlm_e h
  obtain ⟨μ3, e6, h⟩ := zlm_e h
  refine zx_mem e6 (zx_stk e5 ?_)
  have h4 : mK μ3 p2 = 11 := nw_Kp e6 e5
  have h7 : isA 1 (mK μ3 p2) := by rw [h4]; decide
  obtain ⟨h8, h⟩ := ck_e h
  refine zx_putRF hG fl_X11_9 fn_12_0 rfl h8 dX11_init_9 ?_
  obtain ⟨μ9, e11, h⟩ := zlm_e h
  refine zx_mem e11 ?_
  have e10 : mK μ9 = mK μ3 := (congrArg mK e11).trans rfl
  refine zx_aload_n dX11_init_12 rfl (q := 0) rfl ?_
  refine zx_bipush (v := 64) dX11_init_13 iv_bipush_64 ?_
  obtain ⟨h12, h⟩ := ck_e h
  refine zx_newa 11 (at9 := .int) hG w_ac_int (by decide) (by decide) (smn_e h12) (h12).2 dX11_init_15 ?_
  obtain ⟨p13, e16, h⟩ := zlm_e h
  obtain ⟨μ14, e17, h⟩ := zlm_e h
  refine zx_mem e17 (zx_stk e16 ?_)
  have h15 : mK μ14 p13 = 11 := nw_Kp e17 e16
  have h18 : isA 1 (mK μ14 p13) := by rw [h15]; decide
  obtain ⟨h19, h⟩ := ck_e h
  refine zx_putRF hG fl_X11_13 fn_12_1 rfl h19 dX11_init_17 ?_
  obtain ⟨μ20, e22, h⟩ := zlm_e h
  refine zx_mem e22 ?_
  have e21 : mK μ20 = mK μ14 := (congrArg mK e22).trans rfl
  refine zx_aload_n dX11_init_20 rfl (q := 0) rfl ?_
  refine zx_bipush (v := 64) dX11_init_21 iv_bipush_64 ?_
  obtain ⟨h23, h⟩ := ck_e h
  refine zx_newa 11 (at9 := .int) hG w_ac_int (by decide) (by decide) (smn_e h23) (h23).2 dX11_init_23 ?_
  obtain ⟨p24, e27, h⟩ := zlm_e h
  obtain ⟨μ25, e28, h⟩ := zlm_e h
  refine zx_mem e28 (zx_stk e27 ?_)
  have h26 : mK μ25 p24 = 11 := nw_Kp e28 e27
  have h29 : isA 1 (mK μ25 p24) := by rw [h26]; decide
  obtain ⟨h30, h⟩ := ck_e h
  refine zx_putRF hG fl_X11_16 fn_12_2 rfl h30 dX11_init_25 ?_
  obtain ⟨μ31, e33, h⟩ := zlm_e h
  refine zx_mem e33 ?_
  have e32 : mK μ31 = mK μ25 := (congrArg mK e33).trans rfl
  refine zx_aload_n dX11_init_28 rfl (q := 0) rfl ?_
  refine zx_bipush (v := 64) dX11_init_29 iv_bipush_64 ?_
  obtain ⟨h34, h⟩ := ck_e h
  refine zx_newa 11 (at9 := .int) hG w_ac_int (by decide) (by decide) (smn_e h34) (h34).2 dX11_init_31 ?_
  obtain ⟨p35, e38, h⟩ := zlm_e h
  obtain ⟨μ36, e39, h⟩ := zlm_e h
  refine zx_mem e39 (zx_stk e38 ?_)
  have h37 : mK μ36 p35 = 11 := nw_Kp e39 e38
  have h40 : isA 1 (mK μ36 p35) := by rw [h37]; decide
  obtain ⟨h41, h⟩ := ck_e h
  refine zx_putRF hG fl_X11_19 fn_12_3 rfl h41 dX11_init_33 ?_
  obtain ⟨μ42, e44, h⟩ := zlm_e h
  refine zx_mem e44 ?_
  have e43 : mK μ42 = mK μ36 := (congrArg mK e44).trans rfl
  refine zx_aload_n dX11_init_36 rfl (q := 0) rfl ?_
  refine zx_bipush (v := 64) dX11_init_37 iv_bipush_64 ?_
  obtain ⟨h45, h⟩ := ck_e h
  refine zx_newa 11 (at9 := .int) hG w_ac_int (by decide) (by decide) (smn_e h45) (h45).2 dX11_init_39 ?_
  obtain ⟨p46, e49, h⟩ := zlm_e h
  obtain ⟨μ47, e50, h⟩ := zlm_e h
  refine zx_mem e50 (zx_stk e49 ?_)
  have h48 : mK μ47 p46 = 11 := nw_Kp e50 e49
  have h51 : isA 1 (mK μ47 p46) := by rw [h48]; decide
  obtain ⟨h52, h⟩ := ck_e h
  refine zx_putRF hG fl_X11_22 fn_12_4 rfl h52 dX11_init_41 ?_
  obtain ⟨μ53, e55, h⟩ := zlm_e h
  refine zx_mem e55 ?_
  have e54 : mK μ53 = mK μ47 := (congrArg mK e55).trans rfl
  refine zx_aload_n dX11_init_44 rfl (q := 0) rfl ?_
  refine zx_iconst (v := 2) dX11_init_45 iv_iconst_2 ?_
  refine zx_putI hG fl_X11_25 fn_12_6 (kp_o (e54) h52) dX11_init_46 ?_
  obtain ⟨μ56, e58, h⟩ := zlm_e h
  refine zx_mem e58 ?_
  have e57 : mK μ56 = mK μ53 := (congrArg mK e58).trans rfl
  refine zx_aload_n dX11_init_49 rfl (q := 0) rfl ?_
  refine zx_bipush (v := 8) dX11_init_50 iv_bipush_8 ?_
  refine zx_putI hG fl_X11_29 fn_12_7 (kp_o (Eq.trans e57 e54) h52) dX11_init_52 ?_
  obtain ⟨μ59, e61, h⟩ := zlm_e h
  refine zx_mem e61 ?_
  have e60 : mK μ59 = mK μ56 := (congrArg mK e61).trans rfl
  refine zx_aload_n dX11_init_55 rfl (q := 0) rfl ?_
  refine zx_iconst (v := 4) dX11_init_56 iv_iconst_4 ?_
  refine zx_putI hG fl_X11_32 fn_12_8 (kp_o (Eq.trans (Eq.trans e60 e57) e54) h52) dX11_init_57 ?_
  obtain ⟨μ62, e64, h⟩ := zlm_e h
  refine zx_mem e64 ?_
  have e63 : mK μ62 = mK μ59 := (congrArg mK e64).trans rfl
  refine zx_aload_n dX11_init_60 rfl (q := 0) rfl ?_
  refine zx_bipush (v := 16) dX11_init_61 iv_bipush_16 ?_
  refine zx_putI hG fl_X11_35 fn_12_9 (kp_o (Eq.trans (Eq.trans (Eq.trans e63 e60) e57) e54) h52) dX11_init_63 ?_
  obtain ⟨μ65, e67, h⟩ := zlm_e h
  refine zx_mem e67 ?_
  have e66 : mK μ65 = mK μ62 := (congrArg mK e67).trans rfl
  refine zx_aload_n dX11_init_66 rfl (q := 0) rfl ?_
  refine zx_iconst (v := (-1)) dX11_init_67 iv_iconst_m1 ?_
  refine zx_putI hG fl_X11_38 fn_12_10 (kp_o (Eq.trans (Eq.trans (Eq.trans (Eq.trans e66 e63) e60) e57) e54) h52) dX11_init_68 ?_
  obtain ⟨μ68, e70, h⟩ := zlm_e h
  refine zx_mem e70 ?_
  have e69 : mK μ68 = mK μ65 := (congrArg mK e70).trans rfl
  refine zx_aload_n dX11_init_71 rfl (q := 0) rfl ?_
  refine zx_iconst (v := (-1)) dX11_init_72 iv_iconst_m1 ?_
  refine zx_putI hG fl_X11_41 fn_12_11 (kp_o (Eq.trans (Eq.trans (Eq.trans (Eq.trans (Eq.trans e69 e66) e63) e60) e57) e54) h52) dX11_init_73 ?_
  obtain ⟨μ71, e73, h⟩ := zlm_e h
  refine zx_mem e73 ?_
  have e72 : mK μ71 = mK μ68 := (congrArg mK e73).trans rfl
  refine zx_aload_n dX11_init_76 rfl (q := 0) rfl ?_
  refine zx_bipush (v := 8) dX11_init_77 iv_bipush_8 ?_
  obtain ⟨h74, h⟩ := ck_e h
  refine zx_newa 11 (at9 := .int) hG w_ac_int (by decide) (by decide) (smn_e h74) (h74).2 dX11_init_79 ?_
  obtain ⟨p75, e78, h⟩ := zlm_e h
  obtain ⟨μ76, e79, h⟩ := zlm_e h
  refine zx_mem e79 (zx_stk e78 ?_)
  have h77 : mK μ76 p75 = 11 := nw_Kp e79 e78
  have h80 : isA 1 (mK μ76 p75) := by rw [h77]; decide
  obtain ⟨h81, h⟩ := ck_e h
  refine zx_putRF hG fl_X11_44 fn_12_12 rfl h81 dX11_init_81 ?_
  obtain ⟨μ82, e84, h⟩ := zlm_e h
  refine zx_mem e84 ?_
  have e83 : mK μ82 = mK μ76 := (congrArg mK e84).trans rfl
  refine zx_aload_n dX11_init_84 rfl (q := 0) rfl ?_
  refine zx_bipush (v := 64) dX11_init_85 iv_bipush_64 ?_
  obtain ⟨h85, h⟩ := ck_e h
  refine zx_newa 11 (at9 := .int) hG w_ac_int (by decide) (by decide) (smn_e h85) (h85).2 dX11_init_87 ?_
  obtain ⟨p86, e89, h⟩ := zlm_e h
  obtain ⟨μ87, e90, h⟩ := zlm_e h
  refine zx_mem e90 (zx_stk e89 ?_)
  have h88 : mK μ87 p86 = 11 := nw_Kp e90 e89
  have h91 : isA 1 (mK μ87 p86) := by rw [h88]; decide
  obtain ⟨h92, h⟩ := ck_e h
  refine zx_putRF hG fl_X11_47 fn_12_13 rfl h92 dX11_init_89 ?_
  obtain ⟨μ93, e95, h⟩ := zlm_e h
  refine zx_mem e95 ?_
  have e94 : mK μ93 = mK μ87 := (congrArg mK e95).trans rfl
  refine zx_aload_n dX11_init_92 rfl (q := 0) rfl ?_
  refine zx_bipush (v := 16) dX11_init_93 iv_bipush_16 ?_
  obtain ⟨h96, h⟩ := ck_e h
  refine zx_newa 11 (at9 := .int) hG w_ac_int (by decide) (by decide) (smn_e h96) (h96).2 dX11_init_95 ?_
  obtain ⟨p97, e100, h⟩ := zlm_e h
  obtain ⟨μ98, e101, h⟩ := zlm_e h
  refine zx_mem e101 (zx_stk e100 ?_)
  have h99 : mK μ98 p97 = 11 := nw_Kp e101 e100
  have h102 : isA 1 (mK μ98 p97) := by rw [h99]; decide
  obtain ⟨h103, h⟩ := ck_e h
  refine zx_putRF hG fl_X11_50 fn_12_14 rfl h103 dX11_init_97 ?_
  obtain ⟨μ104, e106, h⟩ := zlm_e h
  refine zx_mem e106 ?_
  have e105 : mK μ104 = mK μ98 := (congrArg mK e106).trans rfl
  refine zx_aload_n dX11_init_100 rfl (q := 0) rfl ?_
  refine zx_bipush (v := 64) dX11_init_101 iv_bipush_64 ?_
  obtain ⟨h107, h⟩ := ck_e h
  refine zx_newa 11 (at9 := .int) hG w_ac_int (by decide) (by decide) (smn_e h107) (h107).2 dX11_init_103 ?_
  obtain ⟨p108, e111, h⟩ := zlm_e h
  obtain ⟨μ109, e112, h⟩ := zlm_e h
  refine zx_mem e112 (zx_stk e111 ?_)
  have h110 : mK μ109 p108 = 11 := nw_Kp e112 e111
  have h113 : isA 1 (mK μ109 p108) := by rw [h110]; decide
  obtain ⟨h114, h⟩ := ck_e h
  refine zx_putRF hG fl_X11_53 fn_12_15 rfl h114 dX11_init_105 ?_
  obtain ⟨μ115, e117, h⟩ := zlm_e h
  refine zx_mem e117 ?_
  have e116 : mK μ115 = mK μ109 := (congrArg mK e117).trans rfl
  refine zx_aload_n dX11_init_108 rfl (q := 0) rfl ?_
  refine zx_bipush (v := 8) dX11_init_109 iv_bipush_8 ?_
  obtain ⟨h118, h⟩ := ck_e h
  refine zx_newa 11 (at9 := .int) hG w_ac_int (by decide) (by decide) (smn_e h118) (h118).2 dX11_init_111 ?_
  obtain ⟨p119, e122, h⟩ := zlm_e h
  obtain ⟨μ120, e123, h⟩ := zlm_e h
  refine zx_mem e123 (zx_stk e122 ?_)
  have h121 : mK μ120 p119 = 11 := nw_Kp e123 e122
  have h124 : isA 1 (mK μ120 p119) := by rw [h121]; decide
  obtain ⟨h125, h⟩ := ck_e h
  refine zx_putRF hG fl_X11_56 fn_12_16 rfl h125 dX11_init_113 ?_
  obtain ⟨μ126, e128, h⟩ := zlm_e h
  refine zx_mem e128 ?_
  have e127 : mK μ126 = mK μ120 := (congrArg mK e128).trans rfl
  refine zx_aload_n dX11_init_116 rfl (q := 0) rfl ?_
  refine zx_bipush (v := 8) dX11_init_117 iv_bipush_8 ?_
  obtain ⟨h129, h⟩ := ck_e h
  refine zx_newa 11 (at9 := .int) hG w_ac_int (by decide) (by decide) (smn_e h129) (h129).2 dX11_init_119 ?_
  obtain ⟨p130, e133, h⟩ := zlm_e h
  obtain ⟨μ131, e134, h⟩ := zlm_e h
  refine zx_mem e134 (zx_stk e133 ?_)
  have h132 : mK μ131 p130 = 11 := nw_Kp e134 e133
  have h135 : isA 1 (mK μ131 p130) := by rw [h132]; decide
  obtain ⟨h136, h⟩ := ck_e h
  refine zx_putRF hG fl_X11_59 fn_12_17 rfl h136 dX11_init_121 ?_
  obtain ⟨μ137, e139, h⟩ := zlm_e h
  refine zx_mem e139 ?_
  have e138 : mK μ137 = mK μ131 := (congrArg mK e139).trans rfl
  exact s_X11_init_b124 hG _ _ _ _ h
def f_X11_thrown (a0 : Nat) (μ : Mm) : Option Int32 :=
  ck (mK μ a0 = 112) <|
  some (mI μ a0 54)
set_option maxRecDepth 100000 in
theorem s_X11_thrown {l : Launch} {G : Gt} (hG : Gok l G) (a0 : Nat) (μ : Mm) (r : Int32) (h : f_X11_thrown a0 μ = some r) : ZX l G mX11_thrown 0 [(0, .ref a0)] [] μ (.inl (some (.int r))) μ := by
  unfold f_X11_thrown at h
  refine zx_aload_n dX11_thrown_0 rfl (q := 0) rfl ?_
  obtain ⟨h1, h⟩ := ck_e h
  refine zx_getI hG fl_X11_123 h1 dX11_thrown_1 ?_
  cases h
  exact zx_iret dX11_thrown_4 rfl
def f_X11_raises (a0 : Nat) (x1 : Int32) (μ : Mm) : Option (Int32 × Mm) :=
  ck (mK μ a0 = 112) <|
  zl (sI μ a0 54 x1) fun μ2 =>
  some (0, μ2)
set_option maxRecDepth 100000 in
theorem s_X11_raises {l : Launch} {G : Gt} (hG : Gok l G) (a0 : Nat) (x1 : Int32) (μ : Mm) (r : Int32) (μ' : Mm) (h : f_X11_raises a0 x1 μ = some (r, μ')) : ZX l G mX11_raises 0 [(0, .ref a0), (1, .int x1)] [] μ (.inl (some (.int r))) μ' := by
  unfold f_X11_raises at h
  refine zx_aload_n dX11_raises_0 rfl (q := 0) rfl ?_
  refine zx_iload_n dX11_raises_1 rfl (q := 1) rfl ?_
  obtain ⟨h1, h⟩ := ck_e h
  refine zx_putI hG fl_X11_123 fn_12_54 h1 dX11_raises_2 ?_
  obtain ⟨μ2, e4, h⟩ := zlm_e h
  refine zx_mem e4 ?_
  have e3 : mK μ2 = mK μ := (congrArg mK e4).trans rfl
  refine zx_iconst (v := 0) dX11_raises_5 iv_iconst_0 ?_
  cases h
  exact zx_iret dX11_raises_6 rfl
def f_X11_in (x0 : Int32) (x1 : Int32) (x2 : Int32) : Option Int32 :=
  if x0 < x1 then
    some 0
  else
    if x2 < x0 then
      some 0
    else
      some 1
set_option maxRecDepth 100000 in
theorem s_X11_in {l : Launch} {G : Gt} (hG : Gok l G) (x0 : Int32) (x1 : Int32) (x2 : Int32) (μ : Mm) (r : Int32) (h : f_X11_in x0 x1 x2 = some r) : ZX l G mX11_in 0 [(0, .int x0), (1, .int x1), (2, .int x2)] [] μ (.inl (some (.int r))) μ := by
  unfold f_X11_in at h
  refine zx_iload_n dX11_in_0 rfl (q := 0) rfl ?_
  refine zx_iload_n dX11_in_1 rfl (q := 1) rfl ?_
  by_cases c1 : x0 < x1
  · have h := it_t c1 h
    refine zx_icmp_lt_t (tgt := 14) dX11_in_2 (by decide) c1 ?_
    refine zx_iconst (v := 0) dX11_in_14 iv_iconst_0 ?_
    cases h
    exact zx_zretZ dX11_in_15 rfl zb_0
  · have h := it_f c1 h
    refine zx_icmp_lt_f (tgt := 14) dX11_in_2 (by decide) c1 ?_
    refine zx_iload_n dX11_in_5 rfl (q := 0) rfl ?_
    refine zx_iload_n dX11_in_6 rfl (q := 2) rfl ?_
    by_cases c2 : x2 < x0
    · have h := it_t c2 h
      refine zx_icmp_gt_t (tgt := 14) dX11_in_7 (by decide) c2 ?_
      refine zx_iconst (v := 0) dX11_in_14 iv_iconst_0 ?_
      cases h
      exact zx_zretZ dX11_in_15 rfl zb_0
    · have h := it_f c2 h
      refine zx_icmp_gt_f (tgt := 14) dX11_in_7 (by decide) c2 ?_
      refine zx_iconst (v := 1) dX11_in_10 iv_iconst_1 ?_
      refine zx_goto (tgt := 15) dX11_in_11 (by decide) ?_
      cases h
      exact zx_zretZ dX11_in_15 rfl zb_1
def f_X11_add_b101 (a0 : Nat) (x1 : Int32) (x2 : Int32) (x3 : Int32) (x4 : Int32) (x5 : Int32) (s0 : Int32) (s1 : Nat) (μ : Mm) : Option (Int32 × Mm) :=
  ck (mK μ s1 = 112) <|
  zl (sI μ s1 54 s0) fun μ24 =>
  ck (mK μ24 a0 = 112) <|
  if (mI μ24 a0 54) ≤ 0 then
    bd (mR μ24 a0 0) fun p29 =>
    ck (isA 1 (mK μ24 p29)) <|
    ck (inb (mI μ24 a0 5) (mL μ24 p29)) <|
    zl (sI μ24 p29 (Int32.toNatClampNeg (mI μ24 a0 5)) x1) fun μ33 =>
    bd (mR μ33 a0 1) fun p36 =>
    ck (isA 1 (mK μ33 p36)) <|
    ck (inb (mI μ33 a0 5) (mL μ33 p36)) <|
    zl (sI μ33 p36 (Int32.toNatClampNeg (mI μ33 a0 5)) x2) fun μ40 =>
    bd (mR μ40 a0 2) fun p43 =>
    ck (isA 1 (mK μ40 p43)) <|
    ck (inb (mI μ40 a0 5) (mL μ40 p43)) <|
    zl (sI μ40 p43 (Int32.toNatClampNeg (mI μ40 a0 5)) x3) fun μ47 =>
    bd (mR μ47 a0 3) fun p50 =>
    ck (isA 1 (mK μ47 p50)) <|
    ck (inb (mI μ47 a0 5) (mL μ47 p50)) <|
    zl (sI μ47 p50 (Int32.toNatClampNeg (mI μ47 a0 5)) x4) fun μ54 =>
    bd (mR μ54 a0 4) fun p57 =>
    ck (isA 1 (mK μ54 p57)) <|
    ck (inb (mI μ54 a0 5) (mL μ54 p57)) <|
    zl (sI μ54 p57 (Int32.toNatClampNeg (mI μ54 a0 5)) x5) fun μ61 =>
    zl (sI μ61 a0 5 ((mI μ61 a0 5) + 1)) fun μ64 =>
    some ((mI μ64 a0 5) - 1, μ64)
  else
    some (0, μ24)
def f_X11_add_b96 (a0 : Nat) (x1 : Int32) (x2 : Int32) (x3 : Int32) (x4 : Int32) (x5 : Int32) (s0 : Nat) (μ : Mm) : Option (Int32 × Mm) :=
  f_X11_add_b101 a0 x1 x2 x3 x4 x5 2 s0 μ
def f_X11_add_b68 (a0 : Nat) (x1 : Int32) (x2 : Int32) (x3 : Int32) (x4 : Int32) (x5 : Int32) (s0 : Int32) (μ : Mm) : Option (Int32 × Mm) :=
  if ¬ s0 = 0 then
    ck (mK μ a0 = 112) <|
    if 0 < (mI μ a0 36) then
      f_X11_add_b96 a0 x1 x2 x3 x4 x5 a0 μ
    else
      if ¬ (mI μ a0 5) = 64 then
        f_X11_add_b101 a0 x1 x2 x3 x4 x5 0 a0 μ
      else
        f_X11_add_b96 a0 x1 x2 x3 x4 x5 a0 μ
  else
    f_X11_add_b101 a0 x1 x2 x3 x4 x5 1 a0 μ
def f_X11_add_b63 (a0 : Nat) (x1 : Int32) (x2 : Int32) (x3 : Int32) (x4 : Int32) (x5 : Int32) (μ : Mm) : Option (Int32 × Mm) :=
  f_X11_add_b68 a0 x1 x2 x3 x4 x5 1 μ
def f_X11_add_b67 (a0 : Nat) (x1 : Int32) (x2 : Int32) (x3 : Int32) (x4 : Int32) (x5 : Int32) (μ : Mm) : Option (Int32 × Mm) :=
  f_X11_add_b68 a0 x1 x2 x3 x4 x5 0 μ
def f_X11_add (a0 : Nat) (x1 : Int32) (x2 : Int32) (x3 : Int32) (x4 : Int32) (x5 : Int32) (μ : Mm) : Option (Int32 × Mm) :=
  bd (f_X11_in x1 0 21) fun y1 =>
  if y1 = 0 then
    f_X11_add_b67 a0 x1 x2 x3 x4 x5 μ
  else
    bd (f_X11_in x2 0 7) fun y4 =>
    if y4 = 0 then
      f_X11_add_b67 a0 x1 x2 x3 x4 x5 μ
    else
      bd (f_X11_in x3 0 7) fun y7 =>
      if y7 = 0 then
        f_X11_add_b67 a0 x1 x2 x3 x4 x5 μ
      else
        bd (f_X11_in x4 0 7) fun y10 =>
        if y10 = 0 then
          f_X11_add_b67 a0 x1 x2 x3 x4 x5 μ
        else
          bd (f_X11_in x1 12 15) fun y13 =>
          if y13 = 0 then
            f_X11_add_b63 a0 x1 x2 x3 x4 x5 μ
          else
            bd (f_X11_in x5 0 63) fun y16 =>
            if y16 = 0 then
              f_X11_add_b67 a0 x1 x2 x3 x4 x5 μ
            else
              f_X11_add_b63 a0 x1 x2 x3 x4 x5 μ
set_option maxRecDepth 100000 in
theorem s_X11_add_b101 {l : Launch} {G : Gt} (hG : Gok l G) (a0 : Nat) (x1 : Int32) (x2 : Int32) (x3 : Int32) (x4 : Int32) (x5 : Int32) (s0 : Int32) (s1 : Nat) (μ : Mm) (r : Int32) (μ' : Mm) (h : f_X11_add_b101 a0 x1 x2 x3 x4 x5 s0 s1 μ = some (r, μ')) : ZX l G mX11_add 101 [(0, .ref a0), (1, .int x1), (2, .int x2), (3, .int x3), (4, .int x4), (5, .int x5)] [.int s0, .ref s1] μ (.inl (some (.int r))) μ' := by
  unfold f_X11_add_b101 at h
  obtain ⟨h23, h⟩ := ck_e h
  refine zx_putI hG fl_X11_123 fn_12_54 h23 dX11_add_101 ?_
  obtain ⟨μ24, e26, h⟩ := zlm_e h
  refine zx_mem e26 ?_
  have e25 : mK μ24 = mK μ := (congrArg mK e26).trans rfl
  refine zx_aload_n dX11_add_104 rfl (q := 0) rfl ?_
  obtain ⟨h27, h⟩ := ck_e h
  refine zx_getI hG fl_X11_123 h27 dX11_add_105 ?_
  by_cases c28 : (mI μ24 a0 54) ≤ 0
  · have h := it_t c28 h
    refine zx_if_le_t (tgt := 113) dX11_add_108 (by decide) c28 ?_
    refine zx_aload_n dX11_add_113 rfl (q := 0) rfl ?_
    obtain ⟨p29, h30, h⟩ := bd_e h
    refine zx_getR hG fl_X11_9 h27 h30 dX11_add_114 ?_
    refine zx_aload_n dX11_add_117 rfl (q := 0) rfl ?_
    refine zx_getI hG fl_X11_136 h27 dX11_add_118 ?_
    refine zx_iload_n dX11_add_121 rfl (q := 1) rfl ?_
    obtain ⟨h31, h⟩ := ck_e h
    obtain ⟨h32, h⟩ := ck_e h
    refine zx_iast hG rfl (h31).1 (h31).2 (inb_e h32) dX11_add_122 ?_
    obtain ⟨μ33, e35, h⟩ := zlm_e h
    refine zx_mem e35 ?_
    have e34 : mK μ33 = mK μ24 := (congrArg mK e35).trans rfl
    refine zx_aload_n dX11_add_123 rfl (q := 0) rfl ?_
    obtain ⟨p36, h37, h⟩ := bd_e h
    refine zx_getR hG fl_X11_13 (kp_o (e34) h27) h37 dX11_add_124 ?_
    refine zx_aload_n dX11_add_127 rfl (q := 0) rfl ?_
    refine zx_getI hG fl_X11_136 (kp_o (e34) h27) dX11_add_128 ?_
    refine zx_iload_n dX11_add_131 rfl (q := 2) rfl ?_
    obtain ⟨h38, h⟩ := ck_e h
    obtain ⟨h39, h⟩ := ck_e h
    refine zx_iast hG rfl (h38).1 (h38).2 (inb_e h39) dX11_add_132 ?_
    obtain ⟨μ40, e42, h⟩ := zlm_e h
    refine zx_mem e42 ?_
    have e41 : mK μ40 = mK μ33 := (congrArg mK e42).trans rfl
    refine zx_aload_n dX11_add_133 rfl (q := 0) rfl ?_
    obtain ⟨p43, h44, h⟩ := bd_e h
    refine zx_getR hG fl_X11_16 (kp_o (Eq.trans e41 e34) h27) h44 dX11_add_134 ?_
    refine zx_aload_n dX11_add_137 rfl (q := 0) rfl ?_
    refine zx_getI hG fl_X11_136 (kp_o (Eq.trans e41 e34) h27) dX11_add_138 ?_
    refine zx_iload_n dX11_add_141 rfl (q := 3) rfl ?_
    obtain ⟨h45, h⟩ := ck_e h
    obtain ⟨h46, h⟩ := ck_e h
    refine zx_iast hG rfl (h45).1 (h45).2 (inb_e h46) dX11_add_142 ?_
    obtain ⟨μ47, e49, h⟩ := zlm_e h
    refine zx_mem e49 ?_
    have e48 : mK μ47 = mK μ40 := (congrArg mK e49).trans rfl
    refine zx_aload_n dX11_add_143 rfl (q := 0) rfl ?_
    obtain ⟨p50, h51, h⟩ := bd_e h
    refine zx_getR hG fl_X11_19 (kp_o (Eq.trans (Eq.trans e48 e41) e34) h27) h51 dX11_add_144 ?_
    refine zx_aload_n dX11_add_147 rfl (q := 0) rfl ?_
    refine zx_getI hG fl_X11_136 (kp_o (Eq.trans (Eq.trans e48 e41) e34) h27) dX11_add_148 ?_
    refine zx_iload dX11_add_151 (q := 4) rfl ?_
    obtain ⟨h52, h⟩ := ck_e h
    obtain ⟨h53, h⟩ := ck_e h
    refine zx_iast hG rfl (h52).1 (h52).2 (inb_e h53) dX11_add_153 ?_
    obtain ⟨μ54, e56, h⟩ := zlm_e h
    refine zx_mem e56 ?_
    have e55 : mK μ54 = mK μ47 := (congrArg mK e56).trans rfl
    refine zx_aload_n dX11_add_154 rfl (q := 0) rfl ?_
    obtain ⟨p57, h58, h⟩ := bd_e h
    refine zx_getR hG fl_X11_22 (kp_o (Eq.trans (Eq.trans (Eq.trans e55 e48) e41) e34) h27) h58 dX11_add_155 ?_
    refine zx_aload_n dX11_add_158 rfl (q := 0) rfl ?_
    refine zx_getI hG fl_X11_136 (kp_o (Eq.trans (Eq.trans (Eq.trans e55 e48) e41) e34) h27) dX11_add_159 ?_
    refine zx_iload dX11_add_162 (q := 5) rfl ?_
    obtain ⟨h59, h⟩ := ck_e h
    obtain ⟨h60, h⟩ := ck_e h
    refine zx_iast hG rfl (h59).1 (h59).2 (inb_e h60) dX11_add_164 ?_
    obtain ⟨μ61, e63, h⟩ := zlm_e h
    refine zx_mem e63 ?_
    have e62 : mK μ61 = mK μ54 := (congrArg mK e63).trans rfl
    refine zx_aload_n dX11_add_165 rfl (q := 0) rfl ?_
    refine zx_dup dX11_add_166 rfl ?_
    refine zx_getI hG fl_X11_136 (kp_o (Eq.trans (Eq.trans (Eq.trans (Eq.trans e62 e55) e48) e41) e34) h27) dX11_add_167 ?_
    refine zx_iconst (v := 1) dX11_add_170 iv_iconst_1 ?_
    refine zx_iadd dX11_add_171 ?_
    refine zx_putI hG fl_X11_136 fn_12_5 (kp_o (Eq.trans (Eq.trans (Eq.trans (Eq.trans e62 e55) e48) e41) e34) h27) dX11_add_172 ?_
    obtain ⟨μ64, e66, h⟩ := zlm_e h
    refine zx_mem e66 ?_
    have e65 : mK μ64 = mK μ61 := (congrArg mK e66).trans rfl
    refine zx_aload_n dX11_add_175 rfl (q := 0) rfl ?_
    refine zx_getI hG fl_X11_136 (kp_o (Eq.trans (Eq.trans (Eq.trans (Eq.trans (Eq.trans e65 e62) e55) e48) e41) e34) h27) dX11_add_176 ?_
    refine zx_iconst (v := 1) dX11_add_179 iv_iconst_1 ?_
    refine zx_isub dX11_add_180 ?_
    cases h
    exact zx_iret dX11_add_181 rfl
  · have h := it_f c28 h
    refine zx_if_le_f (tgt := 113) dX11_add_108 (by decide) c28 ?_
    refine zx_iconst (v := 0) dX11_add_111 iv_iconst_0 ?_
    cases h
    exact zx_iret dX11_add_112 rfl
set_option maxRecDepth 100000 in
theorem s_X11_add_b96 {l : Launch} {G : Gt} (hG : Gok l G) (a0 : Nat) (x1 : Int32) (x2 : Int32) (x3 : Int32) (x4 : Int32) (x5 : Int32) (s0 : Nat) (μ : Mm) (r : Int32) (μ' : Mm) (h : f_X11_add_b96 a0 x1 x2 x3 x4 x5 s0 μ = some (r, μ')) : ZX l G mX11_add 96 [(0, .ref a0), (1, .int x1), (2, .int x2), (3, .int x3), (4, .int x4), (5, .int x5)] [.ref s0] μ (.inl (some (.int r))) μ' := by
  unfold f_X11_add_b96 at h
  refine zx_iconst (v := 2) dX11_add_96 iv_iconst_2 ?_
  refine zx_goto (tgt := 101) dX11_add_97 (by decide) ?_
  exact s_X11_add_b101 hG _ _ _ _ _ _ _ _ _ _ _ h
set_option maxRecDepth 100000 in
theorem s_X11_add_b68 {l : Launch} {G : Gt} (hG : Gok l G) (a0 : Nat) (x1 : Int32) (x2 : Int32) (x3 : Int32) (x4 : Int32) (x5 : Int32) (s0 : Int32) (μ : Mm) (r : Int32) (μ' : Mm) (h : f_X11_add_b68 a0 x1 x2 x3 x4 x5 s0 μ = some (r, μ')) : ZX l G mX11_add 68 [(0, .ref a0), (1, .int x1), (2, .int x2), (3, .int x3), (4, .int x4), (5, .int x5)] [.int s0] μ (.inl (some (.int r))) μ' := by
  unfold f_X11_add_b68 at h
  refine zx_istore (L' := [(6, .int s0), (0, .ref a0), (1, .int x1), (2, .int x2), (3, .int x3), (4, .int x4), (5, .int x5)]) dX11_add_68 (by decide) rfl ?_
  refine zx_aload_n dX11_add_70 rfl (q := 1) rfl ?_
  refine zx_iload dX11_add_71 (q := 0) rfl ?_
  by_cases c19 : ¬ s0 = 0
  · have h := it_t c19 h
    refine zx_if_ne_t (tgt := 80) dX11_add_73 (by decide) c19 ?_
    refine zx_aload_n dX11_add_80 rfl (q := 1) rfl ?_
    obtain ⟨h20, h⟩ := ck_e h
    refine zx_getI hG fl_X11_133 h20 dX11_add_81 ?_
    by_cases c21 : 0 < (mI μ a0 36)
    · have h := it_t c21 h
      refine zx_if_gt_t (tgt := 96) dX11_add_84 (by decide) c21 ?_
      refine zx_sub (L' := [(0, .ref a0), (1, .int x1), (2, .int x2), (3, .int x3), (4, .int x4), (5, .int x5)]) [1, 2, 3, 4, 5, 6] rfl ?_
      exact s_X11_add_b96 hG _ _ _ _ _ _ _ _ _ _ h
    · have h := it_f c21 h
      refine zx_if_gt_f (tgt := 96) dX11_add_84 (by decide) c21 ?_
      refine zx_aload_n dX11_add_87 rfl (q := 1) rfl ?_
      refine zx_getI hG fl_X11_136 h20 dX11_add_88 ?_
      refine zx_bipush (v := 64) dX11_add_91 iv_bipush_64 ?_
      by_cases c22 : ¬ (mI μ a0 5) = 64
      · have h := it_t c22 h
        refine zx_icmp_ne_t (tgt := 100) dX11_add_93 (by decide) c22 ?_
        refine zx_iconst (v := 0) dX11_add_100 iv_iconst_0 ?_
        refine zx_sub (L' := [(0, .ref a0), (1, .int x1), (2, .int x2), (3, .int x3), (4, .int x4), (5, .int x5)]) [1, 2, 3, 4, 5, 6] rfl ?_
        exact s_X11_add_b101 hG _ _ _ _ _ _ _ _ _ _ _ h
      · have h := it_f c22 h
        refine zx_icmp_ne_f (tgt := 100) dX11_add_93 (by decide) (Classical.not_not.mp c22) ?_
        refine zx_sub (L' := [(0, .ref a0), (1, .int x1), (2, .int x2), (3, .int x3), (4, .int x4), (5, .int x5)]) [1, 2, 3, 4, 5, 6] rfl ?_
        exact s_X11_add_b96 hG _ _ _ _ _ _ _ _ _ _ h
  · have h := it_f c19 h
    refine zx_if_ne_f (tgt := 80) dX11_add_73 (by decide) (Classical.not_not.mp c19) ?_
    refine zx_iconst (v := 1) dX11_add_76 iv_iconst_1 ?_
    refine zx_goto (tgt := 101) dX11_add_77 (by decide) ?_
    refine zx_sub (L' := [(0, .ref a0), (1, .int x1), (2, .int x2), (3, .int x3), (4, .int x4), (5, .int x5)]) [1, 2, 3, 4, 5, 6] rfl ?_
    exact s_X11_add_b101 hG _ _ _ _ _ _ _ _ _ _ _ h
set_option maxRecDepth 100000 in
theorem s_X11_add_b63 {l : Launch} {G : Gt} (hG : Gok l G) (a0 : Nat) (x1 : Int32) (x2 : Int32) (x3 : Int32) (x4 : Int32) (x5 : Int32) (μ : Mm) (r : Int32) (μ' : Mm) (h : f_X11_add_b63 a0 x1 x2 x3 x4 x5 μ = some (r, μ')) : ZX l G mX11_add 63 [(0, .ref a0), (1, .int x1), (2, .int x2), (3, .int x3), (4, .int x4), (5, .int x5)] [] μ (.inl (some (.int r))) μ' := by
  unfold f_X11_add_b63 at h
  refine zx_iconst (v := 1) dX11_add_63 iv_iconst_1 ?_
  refine zx_goto (tgt := 68) dX11_add_64 (by decide) ?_
  exact s_X11_add_b68 hG _ _ _ _ _ _ _ _ _ _ h
set_option maxRecDepth 100000 in
theorem s_X11_add_b67 {l : Launch} {G : Gt} (hG : Gok l G) (a0 : Nat) (x1 : Int32) (x2 : Int32) (x3 : Int32) (x4 : Int32) (x5 : Int32) (μ : Mm) (r : Int32) (μ' : Mm) (h : f_X11_add_b67 a0 x1 x2 x3 x4 x5 μ = some (r, μ')) : ZX l G mX11_add 67 [(0, .ref a0), (1, .int x1), (2, .int x2), (3, .int x3), (4, .int x4), (5, .int x5)] [] μ (.inl (some (.int r))) μ' := by
  unfold f_X11_add_b67 at h
  refine zx_iconst (v := 0) dX11_add_67 iv_iconst_0 ?_
  exact s_X11_add_b68 hG _ _ _ _ _ _ _ _ _ _ h
set_option maxRecDepth 100000 in
theorem s_X11_add {l : Launch} {G : Gt} (hG : Gok l G) (a0 : Nat) (x1 : Int32) (x2 : Int32) (x3 : Int32) (x4 : Int32) (x5 : Int32) (μ : Mm) (r : Int32) (μ' : Mm) (h : f_X11_add a0 x1 x2 x3 x4 x5 μ = some (r, μ')) : ZX l G mX11_add 0 [(0, .ref a0), (1, .int x1), (2, .int x2), (3, .int x3), (4, .int x4), (5, .int x5)] [] μ (.inl (some (.int r))) μ' := by
  unfold f_X11_add at h
  refine zx_iload_n dX11_add_0 rfl (q := 1) rfl ?_
  refine zx_iconst (v := 0) dX11_add_1 iv_iconst_0 ?_
  refine zx_bipush (v := 21) dX11_add_2 iv_bipush_21 ?_
  obtain ⟨y1, z2, h⟩ := bd_e h
  refine zx_callS (As := [.int x1, .int 0, .int 21]) hG mf_X11_in cs_X11_129 ⟨by decide, by decide⟩ rfl rfl (Nat.le_of_ble_eq_true rfl) (s_X11_in hG _ _ _ _ _ z2) (Nat.le_of_ble_eq_true rfl) dX11_add_4 ?_
  by_cases c3 : y1 = 0
  · have h := it_t c3 h
    refine zx_if_eq_t (tgt := 67) dX11_add_7 (by decide) c3 ?_
    exact s_X11_add_b67 hG _ _ _ _ _ _ _ _ _ h
  · have h := it_f c3 h
    refine zx_if_eq_f (tgt := 67) dX11_add_7 (by decide) c3 ?_
    refine zx_iload_n dX11_add_10 rfl (q := 2) rfl ?_
    refine zx_iconst (v := 0) dX11_add_11 iv_iconst_0 ?_
    refine zx_bipush (v := 7) dX11_add_12 iv_bipush_7 ?_
    obtain ⟨y4, z5, h⟩ := bd_e h
    refine zx_callS (As := [.int x2, .int 0, .int 7]) hG mf_X11_in cs_X11_129 ⟨by decide, by decide⟩ rfl rfl (Nat.le_of_ble_eq_true rfl) (s_X11_in hG _ _ _ _ _ z5) (Nat.le_of_ble_eq_true rfl) dX11_add_14 ?_
    by_cases c6 : y4 = 0
    · have h := it_t c6 h
      refine zx_if_eq_t (tgt := 67) dX11_add_17 (by decide) c6 ?_
      exact s_X11_add_b67 hG _ _ _ _ _ _ _ _ _ h
    · have h := it_f c6 h
      refine zx_if_eq_f (tgt := 67) dX11_add_17 (by decide) c6 ?_
      refine zx_iload_n dX11_add_20 rfl (q := 3) rfl ?_
      refine zx_iconst (v := 0) dX11_add_21 iv_iconst_0 ?_
      refine zx_bipush (v := 7) dX11_add_22 iv_bipush_7 ?_
      obtain ⟨y7, z8, h⟩ := bd_e h
      refine zx_callS (As := [.int x3, .int 0, .int 7]) hG mf_X11_in cs_X11_129 ⟨by decide, by decide⟩ rfl rfl (Nat.le_of_ble_eq_true rfl) (s_X11_in hG _ _ _ _ _ z8) (Nat.le_of_ble_eq_true rfl) dX11_add_24 ?_
      by_cases c9 : y7 = 0
      · have h := it_t c9 h
        refine zx_if_eq_t (tgt := 67) dX11_add_27 (by decide) c9 ?_
        exact s_X11_add_b67 hG _ _ _ _ _ _ _ _ _ h
      · have h := it_f c9 h
        refine zx_if_eq_f (tgt := 67) dX11_add_27 (by decide) c9 ?_
        refine zx_iload dX11_add_30 (q := 4) rfl ?_
        refine zx_iconst (v := 0) dX11_add_32 iv_iconst_0 ?_
        refine zx_bipush (v := 7) dX11_add_33 iv_bipush_7 ?_
        obtain ⟨y10, z11, h⟩ := bd_e h
        refine zx_callS (As := [.int x4, .int 0, .int 7]) hG mf_X11_in cs_X11_129 ⟨by decide, by decide⟩ rfl rfl (Nat.le_of_ble_eq_true rfl) (s_X11_in hG _ _ _ _ _ z11) (Nat.le_of_ble_eq_true rfl) dX11_add_35 ?_
        by_cases c12 : y10 = 0
        · have h := it_t c12 h
          refine zx_if_eq_t (tgt := 67) dX11_add_38 (by decide) c12 ?_
          exact s_X11_add_b67 hG _ _ _ _ _ _ _ _ _ h
        · have h := it_f c12 h
          refine zx_if_eq_f (tgt := 67) dX11_add_38 (by decide) c12 ?_
          refine zx_iload_n dX11_add_41 rfl (q := 1) rfl ?_
          refine zx_bipush (v := 12) dX11_add_42 iv_bipush_12 ?_
          refine zx_bipush (v := 15) dX11_add_44 iv_bipush_15 ?_
          obtain ⟨y13, z14, h⟩ := bd_e h
          refine zx_callS (As := [.int x1, .int 12, .int 15]) hG mf_X11_in cs_X11_129 ⟨by decide, by decide⟩ rfl rfl (Nat.le_of_ble_eq_true rfl) (s_X11_in hG _ _ _ _ _ z14) (Nat.le_of_ble_eq_true rfl) dX11_add_46 ?_
          by_cases c15 : y13 = 0
          · have h := it_t c15 h
            refine zx_if_eq_t (tgt := 63) dX11_add_49 (by decide) c15 ?_
            exact s_X11_add_b63 hG _ _ _ _ _ _ _ _ _ h
          · have h := it_f c15 h
            refine zx_if_eq_f (tgt := 63) dX11_add_49 (by decide) c15 ?_
            refine zx_iload dX11_add_52 (q := 5) rfl ?_
            refine zx_iconst (v := 0) dX11_add_54 iv_iconst_0 ?_
            refine zx_bipush (v := 63) dX11_add_55 iv_bipush_63 ?_
            obtain ⟨y16, z17, h⟩ := bd_e h
            refine zx_callS (As := [.int x5, .int 0, .int 63]) hG mf_X11_in cs_X11_129 ⟨by decide, by decide⟩ rfl rfl (Nat.le_of_ble_eq_true rfl) (s_X11_in hG _ _ _ _ _ z17) (Nat.le_of_ble_eq_true rfl) dX11_add_57 ?_
            by_cases c18 : y16 = 0
            · have h := it_t c18 h
              refine zx_if_eq_t (tgt := 67) dX11_add_60 (by decide) c18 ?_
              exact s_X11_add_b67 hG _ _ _ _ _ _ _ _ _ h
            · have h := it_f c18 h
              refine zx_if_eq_f (tgt := 67) dX11_add_60 (by decide) c18 ?_
              exact s_X11_add_b63 hG _ _ _ _ _ _ _ _ _ h
def f_X11_cannot_b21 (a0 : Nat) (s0 : Int32) (s1 : Nat) (μ : Mm) : Option (Int32 × Mm) :=
  ck (mK μ s1 = 112) <|
  zl (sI μ s1 54 s0) fun μ5 =>
  ck (mK μ5 a0 = 112) <|
  if (mI μ5 a0 54) ≤ 0 then
    some (0, μ5)
  else
    some (1, μ5)
def f_X11_cannot (a0 : Nat) (x1 : Int32) (μ : Mm) : Option (Int32 × Mm) :=
  if ¬ x1 = 0 then
    ck (mK μ a0 = 112) <|
    if (mI μ a0 36) ≤ 0 then
      f_X11_cannot_b21 a0 0 a0 μ
    else
      f_X11_cannot_b21 a0 2 a0 μ
  else
    f_X11_cannot_b21 a0 1 a0 μ
set_option maxRecDepth 100000 in
theorem s_X11_cannot_b21 {l : Launch} {G : Gt} (hG : Gok l G) (a0 : Nat) (s0 : Int32) (s1 : Nat) (μ : Mm) (r : Int32) (μ' : Mm) (h : f_X11_cannot_b21 a0 s0 s1 μ = some (r, μ')) : ZX l G mX11_cannot 21 [(0, .ref a0)] [.int s0, .ref s1] μ (.inl (some (.int r))) μ' := by
  unfold f_X11_cannot_b21 at h
  obtain ⟨h4, h⟩ := ck_e h
  refine zx_putI hG fl_X11_123 fn_12_54 h4 dX11_cannot_21 ?_
  obtain ⟨μ5, e7, h⟩ := zlm_e h
  refine zx_mem e7 ?_
  have e6 : mK μ5 = mK μ := (congrArg mK e7).trans rfl
  refine zx_aload_n dX11_cannot_24 rfl (q := 0) rfl ?_
  obtain ⟨h8, h⟩ := ck_e h
  refine zx_getI hG fl_X11_123 h8 dX11_cannot_25 ?_
  by_cases c9 : (mI μ5 a0 54) ≤ 0
  · have h := it_t c9 h
    refine zx_if_le_t (tgt := 35) dX11_cannot_28 (by decide) c9 ?_
    refine zx_iconst (v := 0) dX11_cannot_35 iv_iconst_0 ?_
    cases h
    exact zx_zretZ dX11_cannot_36 rfl zb_0
  · have h := it_f c9 h
    refine zx_if_le_f (tgt := 35) dX11_cannot_28 (by decide) c9 ?_
    refine zx_iconst (v := 1) dX11_cannot_31 iv_iconst_1 ?_
    refine zx_goto (tgt := 36) dX11_cannot_32 (by decide) ?_
    cases h
    exact zx_zretZ dX11_cannot_36 rfl zb_1
set_option maxRecDepth 100000 in
theorem s_X11_cannot {l : Launch} {G : Gt} (hG : Gok l G) (a0 : Nat) (x1 : Int32) (μ : Mm) (r : Int32) (μ' : Mm) (h : f_X11_cannot a0 x1 μ = some (r, μ')) : ZX l G mX11_cannot 0 [(0, .ref a0), (1, .int x1)] [] μ (.inl (some (.int r))) μ' := by
  unfold f_X11_cannot at h
  refine zx_aload_n dX11_cannot_0 rfl (q := 0) rfl ?_
  refine zx_iload_n dX11_cannot_1 rfl (q := 1) rfl ?_
  by_cases c1 : ¬ x1 = 0
  · have h := it_t c1 h
    refine zx_if_ne_t (tgt := 9) dX11_cannot_2 (by decide) c1 ?_
    refine zx_aload_n dX11_cannot_9 rfl (q := 0) rfl ?_
    obtain ⟨h2, h⟩ := ck_e h
    refine zx_getI hG fl_X11_133 h2 dX11_cannot_10 ?_
    by_cases c3 : (mI μ a0 36) ≤ 0
    · have h := it_t c3 h
      refine zx_if_le_t (tgt := 20) dX11_cannot_13 (by decide) c3 ?_
      refine zx_iconst (v := 0) dX11_cannot_20 iv_iconst_0 ?_
      refine zx_sub (L' := [(0, .ref a0)]) [0] rfl ?_
      exact s_X11_cannot_b21 hG _ _ _ _ _ _ h
    · have h := it_f c3 h
      refine zx_if_le_f (tgt := 20) dX11_cannot_13 (by decide) c3 ?_
      refine zx_iconst (v := 2) dX11_cannot_16 iv_iconst_2 ?_
      refine zx_goto (tgt := 21) dX11_cannot_17 (by decide) ?_
      refine zx_sub (L' := [(0, .ref a0)]) [0] rfl ?_
      exact s_X11_cannot_b21 hG _ _ _ _ _ _ h
  · have h := it_f c1 h
    refine zx_if_ne_f (tgt := 9) dX11_cannot_2 (by decide) (Classical.not_not.mp c1) ?_
    refine zx_iconst (v := 1) dX11_cannot_5 iv_iconst_1 ?_
    refine zx_goto (tgt := 21) dX11_cannot_6 (by decide) ?_
    refine zx_sub (L' := [(0, .ref a0)]) [0] rfl ?_
    exact s_X11_cannot_b21 hG _ _ _ _ _ _ h
def f_X11_setRegister (a0 : Nat) (x1 : Int32) (x2 : Int32) (μ : Mm) : Option (Int32 × Mm) :=
  bd (f_X11_in x1 0 7) fun y1 =>
  ck (mK μ a0 = 112) <|
  cl (f_X11_cannot a0 y1 μ) fun y4 μ6 =>
  if y4 = 0 then
    ck (mK μ6 a0 = 112) <|
    bd (mR μ6 a0 18) fun p9 =>
    ck (isA 1 (mK μ6 p9)) <|
    ck (inb x1 (mL μ6 p9)) <|
    bd (mR μ6 a0 18) fun p13 =>
    ck (isA 1 (mK μ6 p13)) <|
    ck (inb x1 (mL μ6 p13)) <|
    zl (sI μ6 p13 (Int32.toNatClampNeg x1) x2) fun μ17 =>
    bd (mR μ17 a0 12) fun p20 =>
    ck (isA 1 (mK μ17 p20)) <|
    ck (inb x1 (mL μ17 p20)) <|
    zl (sI μ17 p20 (Int32.toNatClampNeg x1) x2) fun μ24 =>
    some (mI μ6 p9 (Int32.toNatClampNeg x1), μ24)
  else
    some (0, μ6)
set_option maxRecDepth 100000 in
theorem s_X11_setRegister {l : Launch} {G : Gt} (hG : Gok l G) (a0 : Nat) (x1 : Int32) (x2 : Int32) (μ : Mm) (r : Int32) (μ' : Mm) (h : f_X11_setRegister a0 x1 x2 μ = some (r, μ')) : ZX l G mX11_setRegister 0 [(0, .ref a0), (1, .int x1), (2, .int x2)] [] μ (.inl (some (.int r))) μ' := by
  unfold f_X11_setRegister at h
  refine zx_aload_n dX11_setRegister_0 rfl (q := 0) rfl ?_
  refine zx_iload_n dX11_setRegister_1 rfl (q := 1) rfl ?_
  refine zx_iconst (v := 0) dX11_setRegister_2 iv_iconst_0 ?_
  refine zx_bipush (v := 7) dX11_setRegister_3 iv_bipush_7 ?_
  obtain ⟨y1, z2, h⟩ := bd_e h
  refine zx_callS (As := [.int x1, .int 0, .int 7]) hG mf_X11_in cs_X11_129 ⟨by decide, by decide⟩ rfl rfl (Nat.le_of_ble_eq_true rfl) (s_X11_in hG _ _ _ _ _ z2) (Nat.le_of_ble_eq_true rfl) dX11_setRegister_5 ?_
  obtain ⟨h3, h⟩ := ck_e h
  obtain ⟨y4, μ6, z5, h⟩ := cl_e h
  refine zx_callV (As := [.int y1]) hG mf_X11_cannot cv_X11_139 h3 ⟨by decide, by decide⟩ rfl rfl (Nat.le_of_ble_eq_true rfl) (s_X11_cannot hG _ _ _ _ _ z5) (Nat.le_of_ble_eq_true rfl) dX11_setRegister_8 ?_
  by_cases c7 : y4 = 0
  · have h := it_t c7 h
    refine zx_if_eq_t (tgt := 16) dX11_setRegister_11 (by decide) c7 ?_
    refine zx_aload_n dX11_setRegister_16 rfl (q := 0) rfl ?_
    obtain ⟨h8, h⟩ := ck_e h
    obtain ⟨p9, h10, h⟩ := bd_e h
    refine zx_getR hG fl_X11_62 h8 h10 dX11_setRegister_17 ?_
    refine zx_iload_n dX11_setRegister_20 rfl (q := 1) rfl ?_
    obtain ⟨h11, h⟩ := ck_e h
    obtain ⟨h12, h⟩ := ck_e h
    refine zx_iald hG rfl (h11).1 (h11).2 (inb_e h12) dX11_setRegister_21 ?_
    refine zx_istore_n (L' := [(3, .int (mI μ6 p9 (Int32.toNatClampNeg x1))), (0, .ref a0), (1, .int x1), (2, .int x2)]) dX11_setRegister_22 rfl (by decide) rfl ?_
    refine zx_aload_n dX11_setRegister_23 rfl (q := 1) rfl ?_
    obtain ⟨p13, h14, h⟩ := bd_e h
    refine zx_getR hG fl_X11_62 h8 h14 dX11_setRegister_24 ?_
    refine zx_iload_n dX11_setRegister_27 rfl (q := 2) rfl ?_
    refine zx_iload_n dX11_setRegister_28 rfl (q := 3) rfl ?_
    obtain ⟨h15, h⟩ := ck_e h
    obtain ⟨h16, h⟩ := ck_e h
    refine zx_iast hG rfl (h15).1 (h15).2 (inb_e h16) dX11_setRegister_29 ?_
    obtain ⟨μ17, e19, h⟩ := zlm_e h
    refine zx_mem e19 ?_
    have e18 : mK μ17 = mK μ6 := (congrArg mK e19).trans rfl
    refine zx_aload_n dX11_setRegister_30 rfl (q := 1) rfl ?_
    obtain ⟨p20, h21, h⟩ := bd_e h
    refine zx_getR hG fl_X11_44 (kp_o (e18) h8) h21 dX11_setRegister_31 ?_
    refine zx_iload_n dX11_setRegister_34 rfl (q := 2) rfl ?_
    refine zx_iload_n dX11_setRegister_35 rfl (q := 3) rfl ?_
    obtain ⟨h22, h⟩ := ck_e h
    obtain ⟨h23, h⟩ := ck_e h
    refine zx_iast hG rfl (h22).1 (h22).2 (inb_e h23) dX11_setRegister_36 ?_
    obtain ⟨μ24, e26, h⟩ := zlm_e h
    refine zx_mem e26 ?_
    have e25 : mK μ24 = mK μ17 := (congrArg mK e26).trans rfl
    refine zx_iload_n dX11_setRegister_37 rfl (q := 0) rfl ?_
    cases h
    exact zx_iret dX11_setRegister_38 rfl
  · have h := it_f c7 h
    refine zx_if_eq_f (tgt := 16) dX11_setRegister_11 (by decide) c7 ?_
    refine zx_iconst (v := 0) dX11_setRegister_14 iv_iconst_0 ?_
    cases h
    exact zx_iret dX11_setRegister_15 rfl
def f_X11_setWord (a0 : Nat) (x1 : Int32) (x2 : Int32) (μ : Mm) : Option (Int32 × Mm) :=
  bd (f_X11_in x1 0 63) fun y1 =>
  ck (mK μ a0 = 112) <|
  cl (f_X11_cannot a0 y1 μ) fun y4 μ6 =>
  if y4 = 0 then
    ck (mK μ6 a0 = 112) <|
    bd (mR μ6 a0 15) fun p9 =>
    ck (isA 1 (mK μ6 p9)) <|
    ck (inb x1 (mL μ6 p9)) <|
    bd (mR μ6 a0 15) fun p13 =>
    ck (isA 1 (mK μ6 p13)) <|
    ck (inb x1 (mL μ6 p13)) <|
    zl (sI μ6 p13 (Int32.toNatClampNeg x1) x2) fun μ17 =>
    bd (mR μ17 a0 13) fun p20 =>
    ck (isA 1 (mK μ17 p20)) <|
    ck (inb x1 (mL μ17 p20)) <|
    zl (sI μ17 p20 (Int32.toNatClampNeg x1) x2) fun μ24 =>
    some (mI μ6 p9 (Int32.toNatClampNeg x1), μ24)
  else
    some (0, μ6)
set_option maxRecDepth 100000 in
theorem s_X11_setWord {l : Launch} {G : Gt} (hG : Gok l G) (a0 : Nat) (x1 : Int32) (x2 : Int32) (μ : Mm) (r : Int32) (μ' : Mm) (h : f_X11_setWord a0 x1 x2 μ = some (r, μ')) : ZX l G mX11_setWord 0 [(0, .ref a0), (1, .int x1), (2, .int x2)] [] μ (.inl (some (.int r))) μ' := by
  unfold f_X11_setWord at h
  refine zx_aload_n dX11_setWord_0 rfl (q := 0) rfl ?_
  refine zx_iload_n dX11_setWord_1 rfl (q := 1) rfl ?_
  refine zx_iconst (v := 0) dX11_setWord_2 iv_iconst_0 ?_
  refine zx_bipush (v := 63) dX11_setWord_3 iv_bipush_63 ?_
  obtain ⟨y1, z2, h⟩ := bd_e h
  refine zx_callS (As := [.int x1, .int 0, .int 63]) hG mf_X11_in cs_X11_129 ⟨by decide, by decide⟩ rfl rfl (Nat.le_of_ble_eq_true rfl) (s_X11_in hG _ _ _ _ _ z2) (Nat.le_of_ble_eq_true rfl) dX11_setWord_5 ?_
  obtain ⟨h3, h⟩ := ck_e h
  obtain ⟨y4, μ6, z5, h⟩ := cl_e h
  refine zx_callV (As := [.int y1]) hG mf_X11_cannot cv_X11_139 h3 ⟨by decide, by decide⟩ rfl rfl (Nat.le_of_ble_eq_true rfl) (s_X11_cannot hG _ _ _ _ _ z5) (Nat.le_of_ble_eq_true rfl) dX11_setWord_8 ?_
  by_cases c7 : y4 = 0
  · have h := it_t c7 h
    refine zx_if_eq_t (tgt := 16) dX11_setWord_11 (by decide) c7 ?_
    refine zx_aload_n dX11_setWord_16 rfl (q := 0) rfl ?_
    obtain ⟨h8, h⟩ := ck_e h
    obtain ⟨p9, h10, h⟩ := bd_e h
    refine zx_getR hG fl_X11_53 h8 h10 dX11_setWord_17 ?_
    refine zx_iload_n dX11_setWord_20 rfl (q := 1) rfl ?_
    obtain ⟨h11, h⟩ := ck_e h
    obtain ⟨h12, h⟩ := ck_e h
    refine zx_iald hG rfl (h11).1 (h11).2 (inb_e h12) dX11_setWord_21 ?_
    refine zx_istore_n (L' := [(3, .int (mI μ6 p9 (Int32.toNatClampNeg x1))), (0, .ref a0), (1, .int x1), (2, .int x2)]) dX11_setWord_22 rfl (by decide) rfl ?_
    refine zx_aload_n dX11_setWord_23 rfl (q := 1) rfl ?_
    obtain ⟨p13, h14, h⟩ := bd_e h
    refine zx_getR hG fl_X11_53 h8 h14 dX11_setWord_24 ?_
    refine zx_iload_n dX11_setWord_27 rfl (q := 2) rfl ?_
    refine zx_iload_n dX11_setWord_28 rfl (q := 3) rfl ?_
    obtain ⟨h15, h⟩ := ck_e h
    obtain ⟨h16, h⟩ := ck_e h
    refine zx_iast hG rfl (h15).1 (h15).2 (inb_e h16) dX11_setWord_29 ?_
    obtain ⟨μ17, e19, h⟩ := zlm_e h
    refine zx_mem e19 ?_
    have e18 : mK μ17 = mK μ6 := (congrArg mK e19).trans rfl
    refine zx_aload_n dX11_setWord_30 rfl (q := 1) rfl ?_
    obtain ⟨p20, h21, h⟩ := bd_e h
    refine zx_getR hG fl_X11_47 (kp_o (e18) h8) h21 dX11_setWord_31 ?_
    refine zx_iload_n dX11_setWord_34 rfl (q := 2) rfl ?_
    refine zx_iload_n dX11_setWord_35 rfl (q := 3) rfl ?_
    obtain ⟨h22, h⟩ := ck_e h
    obtain ⟨h23, h⟩ := ck_e h
    refine zx_iast hG rfl (h22).1 (h22).2 (inb_e h23) dX11_setWord_36 ?_
    obtain ⟨μ24, e26, h⟩ := zlm_e h
    refine zx_mem e26 ?_
    have e25 : mK μ24 = mK μ17 := (congrArg mK e26).trans rfl
    refine zx_iload_n dX11_setWord_37 rfl (q := 0) rfl ?_
    cases h
    exact zx_iret dX11_setWord_38 rfl
  · have h := it_f c7 h
    refine zx_if_eq_f (tgt := 16) dX11_setWord_11 (by decide) c7 ?_
    refine zx_iconst (v := 0) dX11_setWord_14 iv_iconst_0 ?_
    cases h
    exact zx_iret dX11_setWord_15 rfl
def f_X11_setWidth (a0 : Nat) (x1 : Int32) (μ : Mm) : Option (Int32 × Mm) :=
  bd (f_X11_in x1 1 4) fun y1 =>
  ck (mK μ a0 = 112) <|
  cl (f_X11_cannot a0 y1 μ) fun y4 μ6 =>
  if y4 = 0 then
    ck (mK μ6 a0 = 112) <|
    zl (sI μ6 a0 6 x1) fun μ9 =>
    some (mI μ6 a0 6, μ9)
  else
    some (0, μ6)
set_option maxRecDepth 100000 in
theorem s_X11_setWidth {l : Launch} {G : Gt} (hG : Gok l G) (a0 : Nat) (x1 : Int32) (μ : Mm) (r : Int32) (μ' : Mm) (h : f_X11_setWidth a0 x1 μ = some (r, μ')) : ZX l G mX11_setWidth 0 [(0, .ref a0), (1, .int x1)] [] μ (.inl (some (.int r))) μ' := by
  unfold f_X11_setWidth at h
  refine zx_aload_n dX11_setWidth_0 rfl (q := 0) rfl ?_
  refine zx_iload_n dX11_setWidth_1 rfl (q := 1) rfl ?_
  refine zx_iconst (v := 1) dX11_setWidth_2 iv_iconst_1 ?_
  refine zx_iconst (v := 4) dX11_setWidth_3 iv_iconst_4 ?_
  obtain ⟨y1, z2, h⟩ := bd_e h
  refine zx_callS (As := [.int x1, .int 1, .int 4]) hG mf_X11_in cs_X11_129 ⟨by decide, by decide⟩ rfl rfl (Nat.le_of_ble_eq_true rfl) (s_X11_in hG _ _ _ _ _ z2) (Nat.le_of_ble_eq_true rfl) dX11_setWidth_4 ?_
  obtain ⟨h3, h⟩ := ck_e h
  obtain ⟨y4, μ6, z5, h⟩ := cl_e h
  refine zx_callV (As := [.int y1]) hG mf_X11_cannot cv_X11_139 h3 ⟨by decide, by decide⟩ rfl rfl (Nat.le_of_ble_eq_true rfl) (s_X11_cannot hG _ _ _ _ _ z5) (Nat.le_of_ble_eq_true rfl) dX11_setWidth_7 ?_
  by_cases c7 : y4 = 0
  · have h := it_t c7 h
    refine zx_if_eq_t (tgt := 15) dX11_setWidth_10 (by decide) c7 ?_
    refine zx_aload_n dX11_setWidth_15 rfl (q := 0) rfl ?_
    obtain ⟨h8, h⟩ := ck_e h
    refine zx_getI hG fl_X11_25 h8 dX11_setWidth_16 ?_
    refine zx_istore_n (L' := [(2, .int (mI μ6 a0 6)), (0, .ref a0), (1, .int x1)]) dX11_setWidth_19 rfl (by decide) rfl ?_
    refine zx_aload_n dX11_setWidth_20 rfl (q := 1) rfl ?_
    refine zx_iload_n dX11_setWidth_21 rfl (q := 2) rfl ?_
    refine zx_putI hG fl_X11_25 fn_12_6 h8 dX11_setWidth_22 ?_
    obtain ⟨μ9, e11, h⟩ := zlm_e h
    refine zx_mem e11 ?_
    have e10 : mK μ9 = mK μ6 := (congrArg mK e11).trans rfl
    refine zx_iload_n dX11_setWidth_25 rfl (q := 0) rfl ?_
    cases h
    exact zx_iret dX11_setWidth_26 rfl
  · have h := it_f c7 h
    refine zx_if_eq_f (tgt := 15) dX11_setWidth_10 (by decide) c7 ?_
    refine zx_iconst (v := 0) dX11_setWidth_13 iv_iconst_0 ?_
    cases h
    exact zx_iret dX11_setWidth_14 rfl
def f_X11_setBuffer (a0 : Nat) (x1 : Int32) (μ : Mm) : Option (Int32 × Mm) :=
  bd (f_X11_in x1 4 16) fun y1 =>
  ck (mK μ a0 = 112) <|
  cl (f_X11_cannot a0 y1 μ) fun y4 μ6 =>
  if y4 = 0 then
    ck (mK μ6 a0 = 112) <|
    zl (sI μ6 a0 7 x1) fun μ9 =>
    some (mI μ6 a0 7, μ9)
  else
    some (0, μ6)
set_option maxRecDepth 100000 in
theorem s_X11_setBuffer {l : Launch} {G : Gt} (hG : Gok l G) (a0 : Nat) (x1 : Int32) (μ : Mm) (r : Int32) (μ' : Mm) (h : f_X11_setBuffer a0 x1 μ = some (r, μ')) : ZX l G mX11_setBuffer 0 [(0, .ref a0), (1, .int x1)] [] μ (.inl (some (.int r))) μ' := by
  unfold f_X11_setBuffer at h
  refine zx_aload_n dX11_setBuffer_0 rfl (q := 0) rfl ?_
  refine zx_iload_n dX11_setBuffer_1 rfl (q := 1) rfl ?_
  refine zx_iconst (v := 4) dX11_setBuffer_2 iv_iconst_4 ?_
  refine zx_bipush (v := 16) dX11_setBuffer_3 iv_bipush_16 ?_
  obtain ⟨y1, z2, h⟩ := bd_e h
  refine zx_callS (As := [.int x1, .int 4, .int 16]) hG mf_X11_in cs_X11_129 ⟨by decide, by decide⟩ rfl rfl (Nat.le_of_ble_eq_true rfl) (s_X11_in hG _ _ _ _ _ z2) (Nat.le_of_ble_eq_true rfl) dX11_setBuffer_5 ?_
  obtain ⟨h3, h⟩ := ck_e h
  obtain ⟨y4, μ6, z5, h⟩ := cl_e h
  refine zx_callV (As := [.int y1]) hG mf_X11_cannot cv_X11_139 h3 ⟨by decide, by decide⟩ rfl rfl (Nat.le_of_ble_eq_true rfl) (s_X11_cannot hG _ _ _ _ _ z5) (Nat.le_of_ble_eq_true rfl) dX11_setBuffer_8 ?_
  by_cases c7 : y4 = 0
  · have h := it_t c7 h
    refine zx_if_eq_t (tgt := 16) dX11_setBuffer_11 (by decide) c7 ?_
    refine zx_aload_n dX11_setBuffer_16 rfl (q := 0) rfl ?_
    obtain ⟨h8, h⟩ := ck_e h
    refine zx_getI hG fl_X11_29 h8 dX11_setBuffer_17 ?_
    refine zx_istore_n (L' := [(2, .int (mI μ6 a0 7)), (0, .ref a0), (1, .int x1)]) dX11_setBuffer_20 rfl (by decide) rfl ?_
    refine zx_aload_n dX11_setBuffer_21 rfl (q := 1) rfl ?_
    refine zx_iload_n dX11_setBuffer_22 rfl (q := 2) rfl ?_
    refine zx_putI hG fl_X11_29 fn_12_7 h8 dX11_setBuffer_23 ?_
    obtain ⟨μ9, e11, h⟩ := zlm_e h
    refine zx_mem e11 ?_
    have e10 : mK μ9 = mK μ6 := (congrArg mK e11).trans rfl
    refine zx_iload_n dX11_setBuffer_26 rfl (q := 0) rfl ?_
    cases h
    exact zx_iret dX11_setBuffer_27 rfl
  · have h := it_f c7 h
    refine zx_if_eq_f (tgt := 16) dX11_setBuffer_11 (by decide) c7 ?_
    refine zx_iconst (v := 0) dX11_setBuffer_14 iv_iconst_0 ?_
    cases h
    exact zx_iret dX11_setBuffer_15 rfl
def f_X11_setQueue (a0 : Nat) (x1 : Int32) (μ : Mm) : Option (Int32 × Mm) :=
  bd (f_X11_in x1 2 8) fun y1 =>
  ck (mK μ a0 = 112) <|
  cl (f_X11_cannot a0 y1 μ) fun y4 μ6 =>
  if y4 = 0 then
    ck (mK μ6 a0 = 112) <|
    zl (sI μ6 a0 8 x1) fun μ9 =>
    some (mI μ6 a0 8, μ9)
  else
    some (0, μ6)
set_option maxRecDepth 100000 in
theorem s_X11_setQueue {l : Launch} {G : Gt} (hG : Gok l G) (a0 : Nat) (x1 : Int32) (μ : Mm) (r : Int32) (μ' : Mm) (h : f_X11_setQueue a0 x1 μ = some (r, μ')) : ZX l G mX11_setQueue 0 [(0, .ref a0), (1, .int x1)] [] μ (.inl (some (.int r))) μ' := by
  unfold f_X11_setQueue at h
  refine zx_aload_n dX11_setQueue_0 rfl (q := 0) rfl ?_
  refine zx_iload_n dX11_setQueue_1 rfl (q := 1) rfl ?_
  refine zx_iconst (v := 2) dX11_setQueue_2 iv_iconst_2 ?_
  refine zx_bipush (v := 8) dX11_setQueue_3 iv_bipush_8 ?_
  obtain ⟨y1, z2, h⟩ := bd_e h
  refine zx_callS (As := [.int x1, .int 2, .int 8]) hG mf_X11_in cs_X11_129 ⟨by decide, by decide⟩ rfl rfl (Nat.le_of_ble_eq_true rfl) (s_X11_in hG _ _ _ _ _ z2) (Nat.le_of_ble_eq_true rfl) dX11_setQueue_5 ?_
  obtain ⟨h3, h⟩ := ck_e h
  obtain ⟨y4, μ6, z5, h⟩ := cl_e h
  refine zx_callV (As := [.int y1]) hG mf_X11_cannot cv_X11_139 h3 ⟨by decide, by decide⟩ rfl rfl (Nat.le_of_ble_eq_true rfl) (s_X11_cannot hG _ _ _ _ _ z5) (Nat.le_of_ble_eq_true rfl) dX11_setQueue_8 ?_
  by_cases c7 : y4 = 0
  · have h := it_t c7 h
    refine zx_if_eq_t (tgt := 16) dX11_setQueue_11 (by decide) c7 ?_
    refine zx_aload_n dX11_setQueue_16 rfl (q := 0) rfl ?_
    obtain ⟨h8, h⟩ := ck_e h
    refine zx_getI hG fl_X11_32 h8 dX11_setQueue_17 ?_
    refine zx_istore_n (L' := [(2, .int (mI μ6 a0 8)), (0, .ref a0), (1, .int x1)]) dX11_setQueue_20 rfl (by decide) rfl ?_
    refine zx_aload_n dX11_setQueue_21 rfl (q := 1) rfl ?_
    refine zx_iload_n dX11_setQueue_22 rfl (q := 2) rfl ?_
    refine zx_putI hG fl_X11_32 fn_12_8 h8 dX11_setQueue_23 ?_
    obtain ⟨μ9, e11, h⟩ := zlm_e h
    refine zx_mem e11 ?_
    have e10 : mK μ9 = mK μ6 := (congrArg mK e11).trans rfl
    refine zx_iload_n dX11_setQueue_26 rfl (q := 0) rfl ?_
    cases h
    exact zx_iret dX11_setQueue_27 rfl
  · have h := it_f c7 h
    refine zx_if_eq_f (tgt := 16) dX11_setQueue_11 (by decide) c7 ?_
    refine zx_iconst (v := 0) dX11_setQueue_14 iv_iconst_0 ?_
    cases h
    exact zx_iret dX11_setQueue_15 rfl
def f_X11_setInner (a0 : Nat) (x1 : Int32) (μ : Mm) : Option (Int32 × Mm) :=
  bd (f_X11_in x1 10 24) fun y1 =>
  ck (mK μ a0 = 112) <|
  cl (f_X11_cannot a0 y1 μ) fun y4 μ6 =>
  if y4 = 0 then
    ck (mK μ6 a0 = 112) <|
    zl (sI μ6 a0 9 x1) fun μ9 =>
    cl (f_X11_laysFree a0 μ9) fun _ μ14 =>
    some (mI μ6 a0 9, μ14)
  else
    some (0, μ6)
set_option maxRecDepth 100000 in
theorem s_X11_setInner {l : Launch} {G : Gt} (hG : Gok l G) (a0 : Nat) (x1 : Int32) (μ : Mm) (r : Int32) (μ' : Mm) (h : f_X11_setInner a0 x1 μ = some (r, μ')) : ZX l G mX11_setInner 0 [(0, .ref a0), (1, .int x1)] [] μ (.inl (some (.int r))) μ' := by
  unfold f_X11_setInner at h
  refine zx_aload_n dX11_setInner_0 rfl (q := 0) rfl ?_
  refine zx_iload_n dX11_setInner_1 rfl (q := 1) rfl ?_
  refine zx_bipush (v := 10) dX11_setInner_2 iv_bipush_10 ?_
  refine zx_bipush (v := 24) dX11_setInner_4 iv_bipush_24 ?_
  obtain ⟨y1, z2, h⟩ := bd_e h
  refine zx_callS (As := [.int x1, .int 10, .int 24]) hG mf_X11_in cs_X11_129 ⟨by decide, by decide⟩ rfl rfl (Nat.le_of_ble_eq_true rfl) (s_X11_in hG _ _ _ _ _ z2) (Nat.le_of_ble_eq_true rfl) dX11_setInner_6 ?_
  obtain ⟨h3, h⟩ := ck_e h
  obtain ⟨y4, μ6, z5, h⟩ := cl_e h
  refine zx_callV (As := [.int y1]) hG mf_X11_cannot cv_X11_139 h3 ⟨by decide, by decide⟩ rfl rfl (Nat.le_of_ble_eq_true rfl) (s_X11_cannot hG _ _ _ _ _ z5) (Nat.le_of_ble_eq_true rfl) dX11_setInner_9 ?_
  by_cases c7 : y4 = 0
  · have h := it_t c7 h
    refine zx_if_eq_t (tgt := 17) dX11_setInner_12 (by decide) c7 ?_
    refine zx_aload_n dX11_setInner_17 rfl (q := 0) rfl ?_
    obtain ⟨h8, h⟩ := ck_e h
    refine zx_getI hG fl_X11_35 h8 dX11_setInner_18 ?_
    refine zx_istore_n (L' := [(2, .int (mI μ6 a0 9)), (0, .ref a0), (1, .int x1)]) dX11_setInner_21 rfl (by decide) rfl ?_
    refine zx_aload_n dX11_setInner_22 rfl (q := 1) rfl ?_
    refine zx_iload_n dX11_setInner_23 rfl (q := 2) rfl ?_
    refine zx_putI hG fl_X11_35 fn_12_9 h8 dX11_setInner_24 ?_
    obtain ⟨μ9, e11, h⟩ := zlm_e h
    refine zx_mem e11 ?_
    have e10 : mK μ9 = mK μ6 := (congrArg mK e11).trans rfl
    refine zx_aload_n dX11_setInner_27 rfl (q := 1) rfl ?_
    obtain ⟨uu12, μ14, z13, h⟩ := cl_e h
    refine zx_callV (As := []) hG mf_X11_laysFree cv_X11_120 (kp_o (e10) h8) ⟨by decide, by decide⟩ rfl rfl (Nat.le_of_ble_eq_true rfl) (s_X11_laysFree hG _ _ _ _ z13) (Nat.le_of_ble_eq_true rfl) dX11_setInner_28 ?_
    refine zx_iload_n dX11_setInner_31 rfl (q := 0) rfl ?_
    cases h
    exact zx_iret dX11_setInner_32 rfl
  · have h := it_f c7 h
    refine zx_if_eq_f (tgt := 17) dX11_setInner_12 (by decide) c7 ?_
    refine zx_iconst (v := 0) dX11_setInner_15 iv_iconst_0 ?_
    cases h
    exact zx_iret dX11_setInner_16 rfl
def f_X11_setHandlers_b26 (a0 : Nat) (x1 : Int32) (x2 : Int32) (s0 : Int32) (s1 : Nat) (μ : Mm) : Option (Int32 × Mm) :=
  ck (mK μ s1 = 112) <|
  cl (f_X11_cannot s1 s0 μ) fun y8 μ10 =>
  if y8 = 0 then
    ck (mK μ10 a0 = 112) <|
    zl (sI μ10 a0 10 x1) fun μ13 =>
    zl (sI μ13 a0 11 x2) fun μ16 =>
    some ((64 * (mI μ10 a0 10)) + (mI μ10 a0 11), μ16)
  else
    some (0, μ10)
def f_X11_setHandlers_b25 (a0 : Nat) (x1 : Int32) (x2 : Int32) (s0 : Nat) (μ : Mm) : Option (Int32 × Mm) :=
  f_X11_setHandlers_b26 a0 x1 x2 0 s0 μ
def f_X11_setHandlers (a0 : Nat) (x1 : Int32) (x2 : Int32) (μ : Mm) : Option (Int32 × Mm) :=
  bd (f_X11_in x1 ((-1)) 63) fun y1 =>
  if y1 = 0 then
    f_X11_setHandlers_b25 a0 x1 x2 a0 μ
  else
    bd (f_X11_in x2 ((-1)) 63) fun y4 =>
    if y4 = 0 then
      f_X11_setHandlers_b25 a0 x1 x2 a0 μ
    else
      f_X11_setHandlers_b26 a0 x1 x2 1 a0 μ
set_option maxRecDepth 100000 in
theorem s_X11_setHandlers_b26 {l : Launch} {G : Gt} (hG : Gok l G) (a0 : Nat) (x1 : Int32) (x2 : Int32) (s0 : Int32) (s1 : Nat) (μ : Mm) (r : Int32) (μ' : Mm) (h : f_X11_setHandlers_b26 a0 x1 x2 s0 s1 μ = some (r, μ')) : ZX l G mX11_setHandlers 26 [(0, .ref a0), (1, .int x1), (2, .int x2)] [.int s0, .ref s1] μ (.inl (some (.int r))) μ' := by
  unfold f_X11_setHandlers_b26 at h
  obtain ⟨h7, h⟩ := ck_e h
  obtain ⟨y8, μ10, z9, h⟩ := cl_e h
  refine zx_callV (As := [.int s0]) hG mf_X11_cannot cv_X11_139 h7 ⟨by decide, by decide⟩ rfl rfl (Nat.le_of_ble_eq_true rfl) (s_X11_cannot hG _ _ _ _ _ z9) (Nat.le_of_ble_eq_true rfl) dX11_setHandlers_26 ?_
  by_cases c11 : y8 = 0
  · have h := it_t c11 h
    refine zx_if_eq_t (tgt := 34) dX11_setHandlers_29 (by decide) c11 ?_
    refine zx_bipush (v := 64) dX11_setHandlers_34 iv_bipush_64 ?_
    refine zx_aload_n dX11_setHandlers_36 rfl (q := 0) rfl ?_
    obtain ⟨h12, h⟩ := ck_e h
    refine zx_getI hG fl_X11_38 h12 dX11_setHandlers_37 ?_
    refine zx_imul dX11_setHandlers_40 ?_
    refine zx_aload_n dX11_setHandlers_41 rfl (q := 0) rfl ?_
    refine zx_getI hG fl_X11_41 h12 dX11_setHandlers_42 ?_
    refine zx_iadd dX11_setHandlers_45 ?_
    refine zx_istore_n (L' := [(3, .int ((64 * (mI μ10 a0 10)) + (mI μ10 a0 11))), (0, .ref a0), (1, .int x1), (2, .int x2)]) dX11_setHandlers_46 rfl (by decide) rfl ?_
    refine zx_aload_n dX11_setHandlers_47 rfl (q := 1) rfl ?_
    refine zx_iload_n dX11_setHandlers_48 rfl (q := 2) rfl ?_
    refine zx_putI hG fl_X11_38 fn_12_10 h12 dX11_setHandlers_49 ?_
    obtain ⟨μ13, e15, h⟩ := zlm_e h
    refine zx_mem e15 ?_
    have e14 : mK μ13 = mK μ10 := (congrArg mK e15).trans rfl
    refine zx_aload_n dX11_setHandlers_52 rfl (q := 1) rfl ?_
    refine zx_iload_n dX11_setHandlers_53 rfl (q := 3) rfl ?_
    refine zx_putI hG fl_X11_41 fn_12_11 (kp_o (e14) h12) dX11_setHandlers_54 ?_
    obtain ⟨μ16, e18, h⟩ := zlm_e h
    refine zx_mem e18 ?_
    have e17 : mK μ16 = mK μ13 := (congrArg mK e18).trans rfl
    refine zx_iload_n dX11_setHandlers_57 rfl (q := 0) rfl ?_
    cases h
    exact zx_iret dX11_setHandlers_58 rfl
  · have h := it_f c11 h
    refine zx_if_eq_f (tgt := 34) dX11_setHandlers_29 (by decide) c11 ?_
    refine zx_iconst (v := 0) dX11_setHandlers_32 iv_iconst_0 ?_
    cases h
    exact zx_iret dX11_setHandlers_33 rfl
set_option maxRecDepth 100000 in
theorem s_X11_setHandlers_b25 {l : Launch} {G : Gt} (hG : Gok l G) (a0 : Nat) (x1 : Int32) (x2 : Int32) (s0 : Nat) (μ : Mm) (r : Int32) (μ' : Mm) (h : f_X11_setHandlers_b25 a0 x1 x2 s0 μ = some (r, μ')) : ZX l G mX11_setHandlers 25 [(0, .ref a0), (1, .int x1), (2, .int x2)] [.ref s0] μ (.inl (some (.int r))) μ' := by
  unfold f_X11_setHandlers_b25 at h
  refine zx_iconst (v := 0) dX11_setHandlers_25 iv_iconst_0 ?_
  exact s_X11_setHandlers_b26 hG _ _ _ _ _ _ _ _ h
set_option maxRecDepth 100000 in
theorem s_X11_setHandlers {l : Launch} {G : Gt} (hG : Gok l G) (a0 : Nat) (x1 : Int32) (x2 : Int32) (μ : Mm) (r : Int32) (μ' : Mm) (h : f_X11_setHandlers a0 x1 x2 μ = some (r, μ')) : ZX l G mX11_setHandlers 0 [(0, .ref a0), (1, .int x1), (2, .int x2)] [] μ (.inl (some (.int r))) μ' := by
  unfold f_X11_setHandlers at h
  refine zx_aload_n dX11_setHandlers_0 rfl (q := 0) rfl ?_
  refine zx_iload_n dX11_setHandlers_1 rfl (q := 1) rfl ?_
  refine zx_iconst (v := (-1)) dX11_setHandlers_2 iv_iconst_m1 ?_
  refine zx_bipush (v := 63) dX11_setHandlers_3 iv_bipush_63 ?_
  obtain ⟨y1, z2, h⟩ := bd_e h
  refine zx_callS (As := [.int x1, .int ((-1)), .int 63]) hG mf_X11_in cs_X11_129 ⟨by decide, by decide⟩ rfl rfl (Nat.le_of_ble_eq_true rfl) (s_X11_in hG _ _ _ _ _ z2) (Nat.le_of_ble_eq_true rfl) dX11_setHandlers_5 ?_
  by_cases c3 : y1 = 0
  · have h := it_t c3 h
    refine zx_if_eq_t (tgt := 25) dX11_setHandlers_8 (by decide) c3 ?_
    exact s_X11_setHandlers_b25 hG _ _ _ _ _ _ _ h
  · have h := it_f c3 h
    refine zx_if_eq_f (tgt := 25) dX11_setHandlers_8 (by decide) c3 ?_
    refine zx_iload_n dX11_setHandlers_11 rfl (q := 2) rfl ?_
    refine zx_iconst (v := (-1)) dX11_setHandlers_12 iv_iconst_m1 ?_
    refine zx_bipush (v := 63) dX11_setHandlers_13 iv_bipush_63 ?_
    obtain ⟨y4, z5, h⟩ := bd_e h
    refine zx_callS (As := [.int x2, .int ((-1)), .int 63]) hG mf_X11_in cs_X11_129 ⟨by decide, by decide⟩ rfl rfl (Nat.le_of_ble_eq_true rfl) (s_X11_in hG _ _ _ _ _ z5) (Nat.le_of_ble_eq_true rfl) dX11_setHandlers_15 ?_
    by_cases c6 : y4 = 0
    · have h := it_t c6 h
      refine zx_if_eq_t (tgt := 25) dX11_setHandlers_18 (by decide) c6 ?_
      exact s_X11_setHandlers_b25 hG _ _ _ _ _ _ _ h
    · have h := it_f c6 h
      refine zx_if_eq_f (tgt := 25) dX11_setHandlers_18 (by decide) c6 ?_
      refine zx_iconst (v := 1) dX11_setHandlers_21 iv_iconst_1 ?_
      refine zx_goto (tgt := 26) dX11_setHandlers_22 (by decide) ?_
      exact s_X11_setHandlers_b26 hG _ _ _ _ _ _ _ _ h
