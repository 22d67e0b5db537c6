/-! the cases of the law, 0 to 5 -/
theorem dL_law_264 : decode cL_law 264 = .ok (.aload_n 1, 1) := by decide +kernel
theorem dL_law_265 : decode cL_law 265 = .ok (.aload_n 0, 1) := by decide +kernel
theorem dL_law_266 : decode cL_law 266 = .ok (.iload 5, 2) := by decide +kernel
theorem dL_law_268 : decode cL_law 268 = .ok (.iconst 1, 1) := by decide +kernel
theorem dL_law_269 : decode cL_law 269 = .ok (.iadd, 1) := by decide +kernel
theorem dL_law_270 : decode cL_law 270 = .ok (.iaload, 1) := by decide +kernel
theorem dL_law_271 : decode cL_law 271 = .ok (.aload_n 0, 1) := by decide +kernel
theorem dL_law_272 : decode cL_law 272 = .ok (.iload 5, 2) := by decide +kernel
theorem dL_law_274 : decode cL_law 274 = .ok (.iconst 2, 1) := by decide +kernel
theorem dL_law_275 : decode cL_law 275 = .ok (.iadd, 1) := by decide +kernel
theorem dL_law_276 : decode cL_law 276 = .ok (.iaload, 1) := by decide +kernel
theorem dL_law_277 : decode cL_law 277 = .ok (.aload_n 0, 1) := by decide +kernel
theorem dL_law_278 : decode cL_law 278 = .ok (.iload 5, 2) := by decide +kernel
theorem dL_law_280 : decode cL_law 280 = .ok (.iconst 3, 1) := by decide +kernel
theorem dL_law_281 : decode cL_law 281 = .ok (.iadd, 1) := by decide +kernel
theorem dL_law_282 : decode cL_law 282 = .ok (.iaload, 1) := by decide +kernel
theorem dL_law_283 : decode cL_law 283 = .ok (.aload_n 0, 1) := by decide +kernel
theorem dL_law_284 : decode cL_law 284 = .ok (.iload 5, 2) := by decide +kernel
theorem dL_law_286 : decode cL_law 286 = .ok (.iconst 4, 1) := by decide +kernel
theorem dL_law_287 : decode cL_law 287 = .ok (.iadd, 1) := by decide +kernel
theorem dL_law_288 : decode cL_law 288 = .ok (.iaload, 1) := by decide +kernel
theorem dL_law_289 : decode cL_law 289 = .ok (.aload_n 0, 1) := by decide +kernel
theorem dL_law_290 : decode cL_law 290 = .ok (.iload 5, 2) := by decide +kernel
theorem dL_law_292 : decode cL_law 292 = .ok (.iconst 5, 1) := by decide +kernel
theorem dL_law_293 : decode cL_law 293 = .ok (.iadd, 1) := by decide +kernel
theorem dL_law_294 : decode cL_law 294 = .ok (.iaload, 1) := by decide +kernel
theorem dL_law_295 : decode cL_law 295 = .ok (.aload_n 3, 1) := by decide +kernel
theorem dL_law_296 : decode cL_law 296 = .ok (.invokestatic 131, 3) := by decide +kernel
theorem dL_law_299 : decode cL_law 299 = .ok (.istore 6, 2) := by decide +kernel
theorem dL_law_301 : decode cL_law 301 = .ok (.aload_n 2, 1) := by decide +kernel
theorem dL_law_302 : decode cL_law 302 = .ok (.aload_n 0, 1) := by decide +kernel
theorem dL_law_303 : decode cL_law 303 = .ok (.iload 5, 2) := by decide +kernel
theorem dL_law_305 : decode cL_law 305 = .ok (.iconst 1, 1) := by decide +kernel
theorem dL_law_306 : decode cL_law 306 = .ok (.iadd, 1) := by decide +kernel
theorem dL_law_307 : decode cL_law 307 = .ok (.iaload, 1) := by decide +kernel
theorem dL_law_308 : decode cL_law 308 = .ok (.aload_n 0, 1) := by decide +kernel
theorem dL_law_309 : decode cL_law 309 = .ok (.iload 5, 2) := by decide +kernel
theorem dL_law_311 : decode cL_law 311 = .ok (.iconst 2, 1) := by decide +kernel
theorem dL_law_312 : decode cL_law 312 = .ok (.iadd, 1) := by decide +kernel
theorem dL_law_313 : decode cL_law 313 = .ok (.iaload, 1) := by decide +kernel
theorem dL_law_314 : decode cL_law 314 = .ok (.aload_n 0, 1) := by decide +kernel
theorem dL_law_315 : decode cL_law 315 = .ok (.iload 5, 2) := by decide +kernel
theorem dL_law_317 : decode cL_law 317 = .ok (.iconst 3, 1) := by decide +kernel
theorem dL_law_318 : decode cL_law 318 = .ok (.iadd, 1) := by decide +kernel
theorem dL_law_319 : decode cL_law 319 = .ok (.iaload, 1) := by decide +kernel
theorem dL_law_320 : decode cL_law 320 = .ok (.aload_n 0, 1) := by decide +kernel
theorem dL_law_321 : decode cL_law 321 = .ok (.iload 5, 2) := by decide +kernel
theorem dL_law_323 : decode cL_law 323 = .ok (.iconst 4, 1) := by decide +kernel
theorem dL_law_324 : decode cL_law 324 = .ok (.iadd, 1) := by decide +kernel
theorem dL_law_325 : decode cL_law 325 = .ok (.iaload, 1) := by decide +kernel
theorem dL_law_326 : decode cL_law 326 = .ok (.aload_n 0, 1) := by decide +kernel
theorem dL_law_327 : decode cL_law 327 = .ok (.iload 5, 2) := by decide +kernel
theorem dL_law_329 : decode cL_law 329 = .ok (.iconst 5, 1) := by decide +kernel
theorem dL_law_330 : decode cL_law 330 = .ok (.iadd, 1) := by decide +kernel
theorem dL_law_331 : decode cL_law 331 = .ok (.iaload, 1) := by decide +kernel
theorem dL_law_332 : decode cL_law 332 = .ok (.invokevirtual 136, 3) := by decide +kernel
theorem dL_law_335 : decode cL_law 335 = .ok (.istore 7, 2) := by decide +kernel
theorem dL_law_337 : decode cL_law 337 = .ok (.aload_n 2, 1) := by decide +kernel
theorem dL_law_338 : decode cL_law 338 = .ok (.invokevirtual 137, 3) := by decide +kernel
theorem dL_law_341 : decode cL_law 341 = .ok (.iload 6, 2) := by decide +kernel
theorem dL_law_343 : decode cL_law 343 = .ok (.if_icmp .eq 5, 3) := by decide +kernel
theorem dL_law_348 : decode cL_law 348 = .ok (.iload 6, 2) := by decide +kernel
theorem dL_law_350 : decode cL_law 350 = .ok (.ifCond .ne 15, 3) := by decide +kernel
theorem dL_law_353 : decode cL_law 353 = .ok (.aload_n 3, 1) := by decide +kernel
theorem dL_law_354 : decode cL_law 354 = .ok (.iconst 0, 1) := by decide +kernel
theorem dL_law_355 : decode cL_law 355 = .ok (.laload, 1) := by decide +kernel
theorem dL_law_356 : decode cL_law 356 = .ok (.iload 7, 2) := by decide +kernel
theorem dL_law_358 : decode cL_law 358 = .ok (.i2l, 1) := by decide +kernel
theorem dL_law_359 : decode cL_law 359 = .ok (.lcmp, 1) := by decide +kernel
theorem dL_law_360 : decode cL_law 360 = .ok (.ifCond .eq 5, 3) := by decide +kernel
theorem dL_law_365 : decode cL_law 365 = .ok (.goto 2135, 3) := by decide +kernel
/-! add -/
set_option maxRecDepth 100000 in
theorem lc_0 {l : Launch} {G : Gt} {p : Program} {e : Env} {R : Room} {s : State} {m : MethodId} {args : Array Value} {below : List Frame} {meth : Method} {c : Code} {Q : State → Prop} (C : CW G mL_law p R s m meth c) (hG : Gok2 l G) {q0 n : Nat} {xs : Nat → Int32} (hX : va_X q0 n xs G.1 G.1.heap) (hq : q0 < G.1.heap.size) {b z i : Nat} {A : Sx} {μ : Mm} {c1 s1 : Nat} (hi : i + 6 ≤ n) (hn : n ≤ 3072) (h : JV b z A μ) (kk : ∀ A' μ', JV b z A' μ' → LJ l G mL_law p e R s m args below meth c Q 2500 (L0 b q0 i) [] μ' (c1 + PhC A') (s1 + PhS A')) : LJ l G mL_law p e R s m args below meth c Q 264 (L0 b q0 i) [] μ (c1 + 4 + PhC A) (s1 + 220 + PhS A) := by
  refine lj_wf fun w => ?_
  obtain ⟨k, v, A', μ1, dc, ds, ec, es, kl, ef, p1, hc1, hs1, ai', pc, ps, hg⟩ := op_add (x1 := (xs (nI i + 1).toNatClampNeg)) (x2 := (xs (nI i + 2).toNatClampNeg)) (x3 := (xs (nI i + 3).toNatClampNeg)) (x4 := (xs (nI i + 4).toNatClampNeg)) (x5 := (xs (nI i + 5).toNatClampNeg)) h w
  refine lj_aload_n C dL_law_264 rfl (q := 4) rfl ?_
  refine lj_aload_n C dL_law_265 rfl (q := 5) rfl ?_
  refine lj_iload C dL_law_266 (q := 0) rfl ?_
  refine lj_iconst (v := 1) C dL_law_268 (by decide) ?_
  refine lj_iadd C dL_law_269 ?_
  refine lj_sld C hX hq (sI_vin (j := 1) (by decide) (by decide) hi hn) dL_law_270 ?_
  refine lj_aload_n C dL_law_271 rfl (q := 5) rfl ?_
  refine lj_iload C dL_law_272 (q := 0) rfl ?_
  refine lj_iconst (v := 2) C dL_law_274 (by decide) ?_
  refine lj_iadd C dL_law_275 ?_
  refine lj_sld C hX hq (sI_vin (j := 2) (by decide) (by decide) hi hn) dL_law_276 ?_
  refine lj_aload_n C dL_law_277 rfl (q := 5) rfl ?_
  refine lj_iload C dL_law_278 (q := 0) rfl ?_
  refine lj_iconst (v := 3) C dL_law_280 (by decide) ?_
  refine lj_iadd C dL_law_281 ?_
  refine lj_sld C hX hq (sI_vin (j := 3) (by decide) (by decide) hi hn) dL_law_282 ?_
  refine lj_aload_n C dL_law_283 rfl (q := 5) rfl ?_
  refine lj_iload C dL_law_284 (q := 0) rfl ?_
  refine lj_iconst (v := 4) C dL_law_286 (by decide) ?_
  refine lj_iadd C dL_law_287 ?_
  refine lj_sld C hX hq (sI_vin (j := 4) (by decide) (by decide) hi hn) dL_law_288 ?_
  refine lj_aload_n C dL_law_289 rfl (q := 5) rfl ?_
  refine lj_iload C dL_law_290 (q := 0) rfl ?_
  refine lj_iconst (v := 5) C dL_law_292 (by decide) ?_
  refine lj_iadd C dL_law_293 ?_
  refine lj_sld C hX hq (sI_vin (j := 5) (by decide) (by decide) hi hn) dL_law_294 ?_
  refine lj_aload_n C dL_law_295 rfl (q := 2) rfl ?_
  refine lj_callW (As := [.ref b, .int (xs (nI i + 1).toNatClampNeg), .int (xs (nI i + 2).toNatClampNeg), .int (xs (nI i + 3).toNatClampNeg), .int (xs (nI i + 4).toNatClampNeg), .int (xs (nI i + 5).toNatClampNeg), .ref (b + 84)]) (c2 := c1 + ec + PhC A') (s2 := s1 + es + PhS A') C hG.1 mw_add csL_add ⟨by decide, by decide⟩ rfl (wc_add hG h.1.kb p1.2.2.2.1.1 p1.2.2.2.1.2.1 ef (fun E q => rOf_in kl q)) (Nat.le_of_ble_eq_true rfl) dL_law_296 (by omega) (by omega) fun v9 μ2 wp => ?_
  obtain ⟨rfl, p2, hj⟩ := wp_out (by decide) kl p1 wp
  refine lj_istore C dL_law_299 (by decide) rfl ?_
  refine lj_wf fun w2 => ?_
  obtain ⟨w9, μ3, eg, hw, e54, p3, ej, hc3, hs3⟩ := hg μ2 p2 w2 (p2.n86 w2)
  refine lj_aload_n C dL_law_301 rfl (q := 4) rfl ?_
  refine lj_aload_n C dL_law_302 rfl (q := 6) rfl ?_
  refine lj_iload C dL_law_303 (q := 1) rfl ?_
  refine lj_iconst (v := 1) C dL_law_305 (by decide) ?_
  refine lj_iadd C dL_law_306 ?_
  refine lj_sld C hX hq (sI_vin (j := 1) (by decide) (by decide) hi hn) dL_law_307 ?_
  refine lj_aload_n C dL_law_308 rfl (q := 6) rfl ?_
  refine lj_iload C dL_law_309 (q := 1) rfl ?_
  refine lj_iconst (v := 2) C dL_law_311 (by decide) ?_
  refine lj_iadd C dL_law_312 ?_
  refine lj_sld C hX hq (sI_vin (j := 2) (by decide) (by decide) hi hn) dL_law_313 ?_
  refine lj_aload_n C dL_law_314 rfl (q := 6) rfl ?_
  refine lj_iload C dL_law_315 (q := 1) rfl ?_
  refine lj_iconst (v := 3) C dL_law_317 (by decide) ?_
  refine lj_iadd C dL_law_318 ?_
  refine lj_sld C hX hq (sI_vin (j := 3) (by decide) (by decide) hi hn) dL_law_319 ?_
  refine lj_aload_n C dL_law_320 rfl (q := 6) rfl ?_
  refine lj_iload C dL_law_321 (q := 1) rfl ?_
  refine lj_iconst (v := 4) C dL_law_323 (by decide) ?_
  refine lj_iadd C dL_law_324 ?_
  refine lj_sld C hX hq (sI_vin (j := 4) (by decide) (by decide) hi hn) dL_law_325 ?_
  refine lj_aload_n C dL_law_326 rfl (q := 6) rfl ?_
  refine lj_iload C dL_law_327 (q := 1) rfl ?_
  refine lj_iconst (v := 5) C dL_law_329 (by decide) ?_
  refine lj_iadd C dL_law_330 ?_
  refine lj_sld C hX hq (sI_vin (j := 5) (by decide) (by decide) hi hn) dL_law_331 ?_
  refine lj_callV (As := [.int (xs (nI i + 1).toNatClampNeg), .int (xs (nI i + 2).toNatClampNeg), .int (xs (nI i + 3).toNatClampNeg), .int (xs (nI i + 4).toNatClampNeg), .int (xs (nI i + 5).toNatClampNeg)]) (c2 := c1 + PhC A') (s2 := s1 + PhS A') C hG.1 mf_X11_add cvM_add p2.km ⟨by decide, by decide⟩ rfl rfl (Nat.le_of_ble_eq_true rfl) (s_X11_add hG.1 _ _ _ _ _ _ _ _ _ eg) (Nat.le_of_ble_eq_true rfl) dL_law_332 (by omega) (by omega) ?_
  refine lj_istore C dL_law_335 (by decide) rfl ?_
  refine lj_aload_n C dL_law_337 rfl (q := 5) rfl ?_
  refine lj_callV (As := []) (c2 := c1 + PhC A') (s2 := s1 + PhS A') C hG.1 mf_X11_thrown cvM_thrown p3.km ⟨by decide, by decide⟩ rfl rfl (Nat.le_of_ble_eq_true rfl) (s_X11_thrown hG.1 _ _ _ (m_thrown p3.km e54)) (Nat.le_of_ble_eq_true rfl) dL_law_338 (Nat.le_refl _) (Nat.le_refl _) ?_
  refine lj_iload C dL_law_341 (q := 1) rfl ?_
  refine lj_icmp_eq_t (tgt := 348) C dL_law_343 (by decide) rfl ?_
  refine lj_iload C dL_law_348 (q := 1) rfl ?_
  by_cases hk : k = 0
  · refine lj_if_ne_f (tgt := 365) C dL_law_350 (by decide) (by rw [hk]; rfl) ?_
    refine lj_aload_n C dL_law_353 rfl (q := 4) rfl ?_
    refine lj_iconst (v := 0) C dL_law_354 (by decide) ?_
    refine lj_laload C hG.1 p3.2.2.2.1.1 (by decide) rfl (vin1 p3.2.2.2.1.2.1) dL_law_355 ?_
    refine lj_iload C dL_law_356 (q := 0) rfl ?_
    refine lj_i2l C dL_law_358 ?_
    refine lj_lcmp C dL_law_359 (by rw [z0c, ej, hj hk, hw hk]) ?_
    refine lj_if_eq_t (tgt := 365) C dL_law_360 (by decide) rfl ?_
    refine lj_goto (tgt := 2500) C dL_law_365 (by decide) ?_
    exact lj_sub C [2, 3, 4, 5, 6, 7] rfl (kk A' μ3 ⟨p3, ai'⟩)
  · refine lj_if_ne_t (tgt := 365) C dL_law_350 (by decide) (nI_n0 (Nat.le_trans kl (by decide)) hk) ?_
    refine lj_goto (tgt := 2500) C dL_law_365 (by decide) ?_
    exact lj_sub C [2, 3, 4, 5, 6, 7] rfl (kk A' μ3 ⟨p3, ai'⟩)
theorem dL_law_368 : decode cL_law 368 = .ok (.aload_n 1, 1) := by decide +kernel
theorem dL_law_369 : decode cL_law 369 = .ok (.aload_n 0, 1) := by decide +kernel
theorem dL_law_370 : decode cL_law 370 = .ok (.iload 5, 2) := by decide +kernel
theorem dL_law_372 : decode cL_law 372 = .ok (.iconst 1, 1) := by decide +kernel
theorem dL_law_373 : decode cL_law 373 = .ok (.iadd, 1) := by decide +kernel
theorem dL_law_374 : decode cL_law 374 = .ok (.iaload, 1) := by decide +kernel
theorem dL_law_375 : decode cL_law 375 = .ok (.aload_n 0, 1) := by decide +kernel
theorem dL_law_376 : decode cL_law 376 = .ok (.iload 5, 2) := by decide +kernel
theorem dL_law_378 : decode cL_law 378 = .ok (.iconst 2, 1) := by decide +kernel
theorem dL_law_379 : decode cL_law 379 = .ok (.iadd, 1) := by decide +kernel
theorem dL_law_380 : decode cL_law 380 = .ok (.iaload, 1) := by decide +kernel
theorem dL_law_381 : decode cL_law 381 = .ok (.aload_n 3, 1) := by decide +kernel
theorem dL_law_382 : decode cL_law 382 = .ok (.invokestatic 140, 3) := by decide +kernel
theorem dL_law_385 : decode cL_law 385 = .ok (.istore 6, 2) := by decide +kernel
theorem dL_law_387 : decode cL_law 387 = .ok (.aload_n 2, 1) := by decide +kernel
theorem dL_law_388 : decode cL_law 388 = .ok (.aload_n 0, 1) := by decide +kernel
theorem dL_law_389 : decode cL_law 389 = .ok (.iload 5, 2) := by decide +kernel
theorem dL_law_391 : decode cL_law 391 = .ok (.iconst 1, 1) := by decide +kernel
theorem dL_law_392 : decode cL_law 392 = .ok (.iadd, 1) := by decide +kernel
theorem dL_law_393 : decode cL_law 393 = .ok (.iaload, 1) := by decide +kernel
theorem dL_law_394 : decode cL_law 394 = .ok (.aload_n 0, 1) := by decide +kernel
theorem dL_law_395 : decode cL_law 395 = .ok (.iload 5, 2) := by decide +kernel
theorem dL_law_397 : decode cL_law 397 = .ok (.iconst 2, 1) := by decide +kernel
theorem dL_law_398 : decode cL_law 398 = .ok (.iadd, 1) := by decide +kernel
theorem dL_law_399 : decode cL_law 399 = .ok (.iaload, 1) := by decide +kernel
theorem dL_law_400 : decode cL_law 400 = .ok (.invokevirtual 143, 3) := by decide +kernel
theorem dL_law_403 : decode cL_law 403 = .ok (.istore 7, 2) := by decide +kernel
theorem dL_law_405 : decode cL_law 405 = .ok (.aload_n 2, 1) := by decide +kernel
theorem dL_law_406 : decode cL_law 406 = .ok (.invokevirtual 137, 3) := by decide +kernel
theorem dL_law_409 : decode cL_law 409 = .ok (.iload 6, 2) := by decide +kernel
theorem dL_law_411 : decode cL_law 411 = .ok (.if_icmp .eq 5, 3) := by decide +kernel
theorem dL_law_416 : decode cL_law 416 = .ok (.iload 6, 2) := by decide +kernel
theorem dL_law_418 : decode cL_law 418 = .ok (.ifCond .ne 15, 3) := by decide +kernel
theorem dL_law_421 : decode cL_law 421 = .ok (.aload_n 3, 1) := by decide +kernel
theorem dL_law_422 : decode cL_law 422 = .ok (.iconst 0, 1) := by decide +kernel
theorem dL_law_423 : decode cL_law 423 = .ok (.laload, 1) := by decide +kernel
theorem dL_law_424 : decode cL_law 424 = .ok (.iload 7, 2) := by decide +kernel
theorem dL_law_426 : decode cL_law 426 = .ok (.i2l, 1) := by decide +kernel
theorem dL_law_427 : decode cL_law 427 = .ok (.lcmp, 1) := by decide +kernel
theorem dL_law_428 : decode cL_law 428 = .ok (.ifCond .eq 5, 3) := by decide +kernel
theorem dL_law_433 : decode cL_law 433 = .ok (.goto 2067, 3) := by decide +kernel
/-! setRegister -/
set_option maxRecDepth 100000 in
theorem lc_1 {l : Launch} {G : Gt} {p : Program} {e : Env} {R : Room} {s : State} {m : MethodId} {args : Array Value} {below : List Frame} {meth : Method} {c : Code} {Q : State → Prop} (C : CW G mL_law p R s m meth c) (hG : Gok2 l G) {q0 n : Nat} {xs : Nat → Int32} (hX : va_X q0 n xs G.1 G.1.heap) (hq : q0 < G.1.heap.size) {b z i : Nat} {A : Sx} {μ : Mm} {c1 s1 : Nat} (hi : i + 6 ≤ n) (hn : n ≤ 3072) (h : JV b z A μ) (kk : ∀ A' μ', JV b z A' μ' → LJ l G mL_law p e R s m args below meth c Q 2500 (L0 b q0 i) [] μ' (c1 + PhC A') (s1 + PhS A')) : LJ l G mL_law p e R s m args below meth c Q 368 (L0 b q0 i) [] μ (c1 + 4 + PhC A) (s1 + 220 + PhS A) := by
  refine lj_wf fun w => ?_
  obtain ⟨k, v, A', μ1, dc, ds, ec, es, kl, ef, p1, hc1, hs1, ai', pc, ps, hg⟩ := op_setRegister (x1 := (xs (nI i + 1).toNatClampNeg)) (x2 := (xs (nI i + 2).toNatClampNeg)) h w
  refine lj_aload_n C dL_law_368 rfl (q := 4) rfl ?_
  refine lj_aload_n C dL_law_369 rfl (q := 5) rfl ?_
  refine lj_iload C dL_law_370 (q := 0) rfl ?_
  refine lj_iconst (v := 1) C dL_law_372 (by decide) ?_
  refine lj_iadd C dL_law_373 ?_
  refine lj_sld C hX hq (sI_vin (j := 1) (by decide) (by decide) hi hn) dL_law_374 ?_
  refine lj_aload_n C dL_law_375 rfl (q := 5) rfl ?_
  refine lj_iload C dL_law_376 (q := 0) rfl ?_
  refine lj_iconst (v := 2) C dL_law_378 (by decide) ?_
  refine lj_iadd C dL_law_379 ?_
  refine lj_sld C hX hq (sI_vin (j := 2) (by decide) (by decide) hi hn) dL_law_380 ?_
  refine lj_aload_n C dL_law_381 rfl (q := 2) rfl ?_
  refine lj_callW (As := [.ref b, .int (xs (nI i + 1).toNatClampNeg), .int (xs (nI i + 2).toNatClampNeg), .ref (b + 84)]) (c2 := c1 + ec + PhC A') (s2 := s1 + es + PhS A') C hG.1 mw_setRegister csL_setRegister ⟨by decide, by decide⟩ rfl (wc_setRegister hG h.1.kb p1.2.2.2.1.1 p1.2.2.2.1.2.1 ef (fun E q => rOf_in kl q)) (Nat.le_of_ble_eq_true rfl) dL_law_382 (by omega) (by omega) fun v9 μ2 wp => ?_
  obtain ⟨rfl, p2, hj⟩ := wp_out (by decide) kl p1 wp
  refine lj_istore C dL_law_385 (by decide) rfl ?_
  refine lj_wf fun w2 => ?_
  obtain ⟨w9, μ3, eg, hw, e54, p3, ej, hc3, hs3⟩ := hg μ2 p2 w2 (p2.n86 w2)
  refine lj_aload_n C dL_law_387 rfl (q := 4) rfl ?_
  refine lj_aload_n C dL_law_388 rfl (q := 6) rfl ?_
  refine lj_iload C dL_law_389 (q := 1) rfl ?_
  refine lj_iconst (v := 1) C dL_law_391 (by decide) ?_
  refine lj_iadd C dL_law_392 ?_
  refine lj_sld C hX hq (sI_vin (j := 1) (by decide) (by decide) hi hn) dL_law_393 ?_
  refine lj_aload_n C dL_law_394 rfl (q := 6) rfl ?_
  refine lj_iload C dL_law_395 (q := 1) rfl ?_
  refine lj_iconst (v := 2) C dL_law_397 (by decide) ?_
  refine lj_iadd C dL_law_398 ?_
  refine lj_sld C hX hq (sI_vin (j := 2) (by decide) (by decide) hi hn) dL_law_399 ?_
  refine lj_callV (As := [.int (xs (nI i + 1).toNatClampNeg), .int (xs (nI i + 2).toNatClampNeg)]) (c2 := c1 + PhC A') (s2 := s1 + PhS A') C hG.1 mf_X11_setRegister cvM_setRegister p2.km ⟨by decide, by decide⟩ rfl rfl (Nat.le_of_ble_eq_true rfl) (s_X11_setRegister hG.1 _ _ _ _ _ _ eg) (Nat.le_of_ble_eq_true rfl) dL_law_400 (by omega) (by omega) ?_
  refine lj_istore C dL_law_403 (by decide) rfl ?_
  refine lj_aload_n C dL_law_405 rfl (q := 5) rfl ?_
  refine lj_callV (As := []) (c2 := c1 + PhC A') (s2 := s1 + PhS A') C hG.1 mf_X11_thrown cvM_thrown p3.km ⟨by decide, by decide⟩ rfl rfl (Nat.le_of_ble_eq_true rfl) (s_X11_thrown hG.1 _ _ _ (m_thrown p3.km e54)) (Nat.le_of_ble_eq_true rfl) dL_law_406 (Nat.le_refl _) (Nat.le_refl _) ?_
  refine lj_iload C dL_law_409 (q := 1) rfl ?_
  refine lj_icmp_eq_t (tgt := 416) C dL_law_411 (by decide) rfl ?_
  refine lj_iload C dL_law_416 (q := 1) rfl ?_
  by_cases hk : k = 0
  · refine lj_if_ne_f (tgt := 433) C dL_law_418 (by decide) (by rw [hk]; rfl) ?_
    refine lj_aload_n C dL_law_421 rfl (q := 4) rfl ?_
    refine lj_iconst (v := 0) C dL_law_422 (by decide) ?_
    refine lj_laload C hG.1 p3.2.2.2.1.1 (by decide) rfl (vin1 p3.2.2.2.1.2.1) dL_law_423 ?_
    refine lj_iload C dL_law_424 (q := 0) rfl ?_
    refine lj_i2l C dL_law_426 ?_
    refine lj_lcmp C dL_law_427 (by rw [z0c, ej, hj hk, hw hk]) ?_
    refine lj_if_eq_t (tgt := 433) C dL_law_428 (by decide) rfl ?_
    refine lj_goto (tgt := 2500) C dL_law_433 (by decide) ?_
    exact lj_sub C [2, 3, 4, 5, 6, 7] rfl (kk A' μ3 ⟨p3, ai'⟩)
  · refine lj_if_ne_t (tgt := 433) C dL_law_418 (by decide) (nI_n0 (Nat.le_trans kl (by decide)) hk) ?_
    refine lj_goto (tgt := 2500) C dL_law_433 (by decide) ?_
    exact lj_sub C [2, 3, 4, 5, 6, 7] rfl (kk A' μ3 ⟨p3, ai'⟩)
theorem dL_law_436 : decode cL_law 436 = .ok (.aload_n 1, 1) := by decide +kernel
theorem dL_law_437 : decode cL_law 437 = .ok (.aload_n 0, 1) := by decide +kernel
theorem dL_law_438 : decode cL_law 438 = .ok (.iload 5, 2) := by decide +kernel
theorem dL_law_440 : decode cL_law 440 = .ok (.iconst 1, 1) := by decide +kernel
theorem dL_law_441 : decode cL_law 441 = .ok (.iadd, 1) := by decide +kernel
theorem dL_law_442 : decode cL_law 442 = .ok (.iaload, 1) := by decide +kernel
theorem dL_law_443 : decode cL_law 443 = .ok (.aload_n 0, 1) := by decide +kernel
theorem dL_law_444 : decode cL_law 444 = .ok (.iload 5, 2) := by decide +kernel
theorem dL_law_446 : decode cL_law 446 = .ok (.iconst 2, 1) := by decide +kernel
theorem dL_law_447 : decode cL_law 447 = .ok (.iadd, 1) := by decide +kernel
theorem dL_law_448 : decode cL_law 448 = .ok (.iaload, 1) := by decide +kernel
theorem dL_law_449 : decode cL_law 449 = .ok (.aload_n 3, 1) := by decide +kernel
theorem dL_law_450 : decode cL_law 450 = .ok (.invokestatic 144, 3) := by decide +kernel
theorem dL_law_453 : decode cL_law 453 = .ok (.istore 6, 2) := by decide +kernel
theorem dL_law_455 : decode cL_law 455 = .ok (.aload_n 2, 1) := by decide +kernel
theorem dL_law_456 : decode cL_law 456 = .ok (.aload_n 0, 1) := by decide +kernel
theorem dL_law_457 : decode cL_law 457 = .ok (.iload 5, 2) := by decide +kernel
theorem dL_law_459 : decode cL_law 459 = .ok (.iconst 1, 1) := by decide +kernel
theorem dL_law_460 : decode cL_law 460 = .ok (.iadd, 1) := by decide +kernel
theorem dL_law_461 : decode cL_law 461 = .ok (.iaload, 1) := by decide +kernel
theorem dL_law_462 : decode cL_law 462 = .ok (.aload_n 0, 1) := by decide +kernel
theorem dL_law_463 : decode cL_law 463 = .ok (.iload 5, 2) := by decide +kernel
theorem dL_law_465 : decode cL_law 465 = .ok (.iconst 2, 1) := by decide +kernel
theorem dL_law_466 : decode cL_law 466 = .ok (.iadd, 1) := by decide +kernel
theorem dL_law_467 : decode cL_law 467 = .ok (.iaload, 1) := by decide +kernel
theorem dL_law_468 : decode cL_law 468 = .ok (.invokevirtual 146, 3) := by decide +kernel
theorem dL_law_471 : decode cL_law 471 = .ok (.istore 7, 2) := by decide +kernel
theorem dL_law_473 : decode cL_law 473 = .ok (.aload_n 2, 1) := by decide +kernel
theorem dL_law_474 : decode cL_law 474 = .ok (.invokevirtual 137, 3) := by decide +kernel
theorem dL_law_477 : decode cL_law 477 = .ok (.iload 6, 2) := by decide +kernel
theorem dL_law_479 : decode cL_law 479 = .ok (.if_icmp .eq 5, 3) := by decide +kernel
theorem dL_law_484 : decode cL_law 484 = .ok (.iload 6, 2) := by decide +kernel
theorem dL_law_486 : decode cL_law 486 = .ok (.ifCond .ne 15, 3) := by decide +kernel
theorem dL_law_489 : decode cL_law 489 = .ok (.aload_n 3, 1) := by decide +kernel
theorem dL_law_490 : decode cL_law 490 = .ok (.iconst 0, 1) := by decide +kernel
theorem dL_law_491 : decode cL_law 491 = .ok (.laload, 1) := by decide +kernel
theorem dL_law_492 : decode cL_law 492 = .ok (.iload 7, 2) := by decide +kernel
theorem dL_law_494 : decode cL_law 494 = .ok (.i2l, 1) := by decide +kernel
theorem dL_law_495 : decode cL_law 495 = .ok (.lcmp, 1) := by decide +kernel
theorem dL_law_496 : decode cL_law 496 = .ok (.ifCond .eq 5, 3) := by decide +kernel
theorem dL_law_501 : decode cL_law 501 = .ok (.goto 1999, 3) := by decide +kernel
/-! setWord -/
set_option maxRecDepth 100000 in
theorem lc_2 {l : Launch} {G : Gt} {p : Program} {e : Env} {R : Room} {s : State} {m : MethodId} {args : Array Value} {below : List Frame} {meth : Method} {c : Code} {Q : State → Prop} (C : CW G mL_law p R s m meth c) (hG : Gok2 l G) {q0 n : Nat} {xs : Nat → Int32} (hX : va_X q0 n xs G.1 G.1.heap) (hq : q0 < G.1.heap.size) {b z i : Nat} {A : Sx} {μ : Mm} {c1 s1 : Nat} (hi : i + 6 ≤ n) (hn : n ≤ 3072) (h : JV b z A μ) (kk : ∀ A' μ', JV b z A' μ' → LJ l G mL_law p e R s m args below meth c Q 2500 (L0 b q0 i) [] μ' (c1 + PhC A') (s1 + PhS A')) : LJ l G mL_law p e R s m args below meth c Q 436 (L0 b q0 i) [] μ (c1 + 4 + PhC A) (s1 + 220 + PhS A) := by
  refine lj_wf fun w => ?_
  obtain ⟨k, v, A', μ1, dc, ds, ec, es, kl, ef, p1, hc1, hs1, ai', pc, ps, hg⟩ := op_setWord (x1 := (xs (nI i + 1).toNatClampNeg)) (x2 := (xs (nI i + 2).toNatClampNeg)) h w
  refine lj_aload_n C dL_law_436 rfl (q := 4) rfl ?_
  refine lj_aload_n C dL_law_437 rfl (q := 5) rfl ?_
  refine lj_iload C dL_law_438 (q := 0) rfl ?_
  refine lj_iconst (v := 1) C dL_law_440 (by decide) ?_
  refine lj_iadd C dL_law_441 ?_
  refine lj_sld C hX hq (sI_vin (j := 1) (by decide) (by decide) hi hn) dL_law_442 ?_
  refine lj_aload_n C dL_law_443 rfl (q := 5) rfl ?_
  refine lj_iload C dL_law_444 (q := 0) rfl ?_
  refine lj_iconst (v := 2) C dL_law_446 (by decide) ?_
  refine lj_iadd C dL_law_447 ?_
  refine lj_sld C hX hq (sI_vin (j := 2) (by decide) (by decide) hi hn) dL_law_448 ?_
  refine lj_aload_n C dL_law_449 rfl (q := 2) rfl ?_
  refine lj_callW (As := [.ref b, .int (xs (nI i + 1).toNatClampNeg), .int (xs (nI i + 2).toNatClampNeg), .ref (b + 84)]) (c2 := c1 + ec + PhC A') (s2 := s1 + es + PhS A') C hG.1 mw_setWord csL_setWord ⟨by decide, by decide⟩ rfl (wc_setWord hG h.1.kb p1.2.2.2.1.1 p1.2.2.2.1.2.1 ef (fun E q => rOf_in kl q)) (Nat.le_of_ble_eq_true rfl) dL_law_450 (by omega) (by omega) fun v9 μ2 wp => ?_
  obtain ⟨rfl, p2, hj⟩ := wp_out (by decide) kl p1 wp
  refine lj_istore C dL_law_453 (by decide) rfl ?_
  refine lj_wf fun w2 => ?_
  obtain ⟨w9, μ3, eg, hw, e54, p3, ej, hc3, hs3⟩ := hg μ2 p2 w2 (p2.n86 w2)
  refine lj_aload_n C dL_law_455 rfl (q := 4) rfl ?_
  refine lj_aload_n C dL_law_456 rfl (q := 6) rfl ?_
  refine lj_iload C dL_law_457 (q := 1) rfl ?_
  refine lj_iconst (v := 1) C dL_law_459 (by decide) ?_
  refine lj_iadd C dL_law_460 ?_
  refine lj_sld C hX hq (sI_vin (j := 1) (by decide) (by decide) hi hn) dL_law_461 ?_
  refine lj_aload_n C dL_law_462 rfl (q := 6) rfl ?_
  refine lj_iload C dL_law_463 (q := 1) rfl ?_
  refine lj_iconst (v := 2) C dL_law_465 (by decide) ?_
  refine lj_iadd C dL_law_466 ?_
  refine lj_sld C hX hq (sI_vin (j := 2) (by decide) (by decide) hi hn) dL_law_467 ?_
  refine lj_callV (As := [.int (xs (nI i + 1).toNatClampNeg), .int (xs (nI i + 2).toNatClampNeg)]) (c2 := c1 + PhC A') (s2 := s1 + PhS A') C hG.1 mf_X11_setWord cvM_setWord p2.km ⟨by decide, by decide⟩ rfl rfl (Nat.le_of_ble_eq_true rfl) (s_X11_setWord hG.1 _ _ _ _ _ _ eg) (Nat.le_of_ble_eq_true rfl) dL_law_468 (by omega) (by omega) ?_
  refine lj_istore C dL_law_471 (by decide) rfl ?_
  refine lj_aload_n C dL_law_473 rfl (q := 5) rfl ?_
  refine lj_callV (As := []) (c2 := c1 + PhC A') (s2 := s1 + PhS A') C hG.1 mf_X11_thrown cvM_thrown p3.km ⟨by decide, by decide⟩ rfl rfl (Nat.le_of_ble_eq_true rfl) (s_X11_thrown hG.1 _ _ _ (m_thrown p3.km e54)) (Nat.le_of_ble_eq_true rfl) dL_law_474 (Nat.le_refl _) (Nat.le_refl _) ?_
  refine lj_iload C dL_law_477 (q := 1) rfl ?_
  refine lj_icmp_eq_t (tgt := 484) C dL_law_479 (by decide) rfl ?_
  refine lj_iload C dL_law_484 (q := 1) rfl ?_
  by_cases hk : k = 0
  · refine lj_if_ne_f (tgt := 501) C dL_law_486 (by decide) (by rw [hk]; rfl) ?_
    refine lj_aload_n C dL_law_489 rfl (q := 4) rfl ?_
    refine lj_iconst (v := 0) C dL_law_490 (by decide) ?_
    refine lj_laload C hG.1 p3.2.2.2.1.1 (by decide) rfl (vin1 p3.2.2.2.1.2.1) dL_law_491 ?_
    refine lj_iload C dL_law_492 (q := 0) rfl ?_
    refine lj_i2l C dL_law_494 ?_
    refine lj_lcmp C dL_law_495 (by rw [z0c, ej, hj hk, hw hk]) ?_
    refine lj_if_eq_t (tgt := 501) C dL_law_496 (by decide) rfl ?_
    refine lj_goto (tgt := 2500) C dL_law_501 (by decide) ?_
    exact lj_sub C [2, 3, 4, 5, 6, 7] rfl (kk A' μ3 ⟨p3, ai'⟩)
  · refine lj_if_ne_t (tgt := 501) C dL_law_486 (by decide) (nI_n0 (Nat.le_trans kl (by decide)) hk) ?_
    refine lj_goto (tgt := 2500) C dL_law_501 (by decide) ?_
    exact lj_sub C [2, 3, 4, 5, 6, 7] rfl (kk A' μ3 ⟨p3, ai'⟩)
theorem dL_law_504 : decode cL_law 504 = .ok (.aload_n 1, 1) := by decide +kernel
theorem dL_law_505 : decode cL_law 505 = .ok (.aload_n 0, 1) := by decide +kernel
theorem dL_law_506 : decode cL_law 506 = .ok (.iload 5, 2) := by decide +kernel
theorem dL_law_508 : decode cL_law 508 = .ok (.iconst 1, 1) := by decide +kernel
theorem dL_law_509 : decode cL_law 509 = .ok (.iadd, 1) := by decide +kernel
theorem dL_law_510 : decode cL_law 510 = .ok (.iaload, 1) := by decide +kernel
theorem dL_law_511 : decode cL_law 511 = .ok (.aload_n 3, 1) := by decide +kernel
theorem dL_law_512 : decode cL_law 512 = .ok (.invokestatic 147, 3) := by decide +kernel
theorem dL_law_515 : decode cL_law 515 = .ok (.istore 6, 2) := by decide +kernel
theorem dL_law_517 : decode cL_law 517 = .ok (.aload_n 2, 1) := by decide +kernel
theorem dL_law_518 : decode cL_law 518 = .ok (.aload_n 0, 1) := by decide +kernel
theorem dL_law_519 : decode cL_law 519 = .ok (.iload 5, 2) := by decide +kernel
theorem dL_law_521 : decode cL_law 521 = .ok (.iconst 1, 1) := by decide +kernel
theorem dL_law_522 : decode cL_law 522 = .ok (.iadd, 1) := by decide +kernel
theorem dL_law_523 : decode cL_law 523 = .ok (.iaload, 1) := by decide +kernel
theorem dL_law_524 : decode cL_law 524 = .ok (.invokevirtual 150, 3) := by decide +kernel
theorem dL_law_527 : decode cL_law 527 = .ok (.istore 7, 2) := by decide +kernel
theorem dL_law_529 : decode cL_law 529 = .ok (.aload_n 2, 1) := by decide +kernel
theorem dL_law_530 : decode cL_law 530 = .ok (.invokevirtual 137, 3) := by decide +kernel
theorem dL_law_533 : decode cL_law 533 = .ok (.iload 6, 2) := by decide +kernel
theorem dL_law_535 : decode cL_law 535 = .ok (.if_icmp .eq 5, 3) := by decide +kernel
theorem dL_law_540 : decode cL_law 540 = .ok (.iload 6, 2) := by decide +kernel
theorem dL_law_542 : decode cL_law 542 = .ok (.ifCond .ne 15, 3) := by decide +kernel
theorem dL_law_545 : decode cL_law 545 = .ok (.aload_n 3, 1) := by decide +kernel
theorem dL_law_546 : decode cL_law 546 = .ok (.iconst 0, 1) := by decide +kernel
theorem dL_law_547 : decode cL_law 547 = .ok (.laload, 1) := by decide +kernel
theorem dL_law_548 : decode cL_law 548 = .ok (.iload 7, 2) := by decide +kernel
theorem dL_law_550 : decode cL_law 550 = .ok (.i2l, 1) := by decide +kernel
theorem dL_law_551 : decode cL_law 551 = .ok (.lcmp, 1) := by decide +kernel
theorem dL_law_552 : decode cL_law 552 = .ok (.ifCond .eq 5, 3) := by decide +kernel
theorem dL_law_557 : decode cL_law 557 = .ok (.goto 1943, 3) := by decide +kernel
/-! setWidth -/
set_option maxRecDepth 100000 in
theorem lc_3 {l : Launch} {G : Gt} {p : Program} {e : Env} {R : Room} {s : State} {m : MethodId} {args : Array Value} {below : List Frame} {meth : Method} {c : Code} {Q : State → Prop} (C : CW G mL_law p R s m meth c) (hG : Gok2 l G) {q0 n : Nat} {xs : Nat → Int32} (hX : va_X q0 n xs G.1 G.1.heap) (hq : q0 < G.1.heap.size) {b z i : Nat} {A : Sx} {μ : Mm} {c1 s1 : Nat} (hi : i + 6 ≤ n) (hn : n ≤ 3072) (h : JV b z A μ) (kk : ∀ A' μ', JV b z A' μ' → LJ l G mL_law p e R s m args below meth c Q 2500 (L0 b q0 i) [] μ' (c1 + PhC A') (s1 + PhS A')) : LJ l G mL_law p e R s m args below meth c Q 504 (L0 b q0 i) [] μ (c1 + 4 + PhC A) (s1 + 220 + PhS A) := by
  refine lj_wf fun w => ?_
  obtain ⟨k, v, A', μ1, dc, ds, ec, es, kl, ef, p1, hc1, hs1, ai', pc, ps, hg⟩ := op_setWidth (x1 := (xs (nI i + 1).toNatClampNeg)) h w
  refine lj_aload_n C dL_law_504 rfl (q := 4) rfl ?_
  refine lj_aload_n C dL_law_505 rfl (q := 5) rfl ?_
  refine lj_iload C dL_law_506 (q := 0) rfl ?_
  refine lj_iconst (v := 1) C dL_law_508 (by decide) ?_
  refine lj_iadd C dL_law_509 ?_
  refine lj_sld C hX hq (sI_vin (j := 1) (by decide) (by decide) hi hn) dL_law_510 ?_
  refine lj_aload_n C dL_law_511 rfl (q := 2) rfl ?_
  refine lj_callW (As := [.ref b, .int (xs (nI i + 1).toNatClampNeg), .ref (b + 84)]) (c2 := c1 + ec + PhC A') (s2 := s1 + es + PhS A') C hG.1 mw_setWidth csL_setWidth ⟨by decide, by decide⟩ rfl (wc_setWidth hG h.1.kb p1.2.2.2.1.1 p1.2.2.2.1.2.1 ef (fun E q => rOf_in kl q)) (Nat.le_of_ble_eq_true rfl) dL_law_512 (by omega) (by omega) fun v9 μ2 wp => ?_
  obtain ⟨rfl, p2, hj⟩ := wp_out (by decide) kl p1 wp
  refine lj_istore C dL_law_515 (by decide) rfl ?_
  refine lj_wf fun w2 => ?_
  obtain ⟨w9, μ3, eg, hw, e54, p3, ej, hc3, hs3⟩ := hg μ2 p2 w2 (p2.n86 w2)
  refine lj_aload_n C dL_law_517 rfl (q := 4) rfl ?_
  refine lj_aload_n C dL_law_518 rfl (q := 6) rfl ?_
  refine lj_iload C dL_law_519 (q := 1) rfl ?_
  refine lj_iconst (v := 1) C dL_law_521 (by decide) ?_
  refine lj_iadd C dL_law_522 ?_
  refine lj_sld C hX hq (sI_vin (j := 1) (by decide) (by decide) hi hn) dL_law_523 ?_
  refine lj_callV (As := [.int (xs (nI i + 1).toNatClampNeg)]) (c2 := c1 + PhC A') (s2 := s1 + PhS A') C hG.1 mf_X11_setWidth cvM_setWidth p2.km ⟨by decide, by decide⟩ rfl rfl (Nat.le_of_ble_eq_true rfl) (s_X11_setWidth hG.1 _ _ _ _ _ eg) (Nat.le_of_ble_eq_true rfl) dL_law_524 (by omega) (by omega) ?_
  refine lj_istore C dL_law_527 (by decide) rfl ?_
  refine lj_aload_n C dL_law_529 rfl (q := 5) rfl ?_
  refine lj_callV (As := []) (c2 := c1 + PhC A') (s2 := s1 + PhS A') C hG.1 mf_X11_thrown cvM_thrown p3.km ⟨by decide, by decide⟩ rfl rfl (Nat.le_of_ble_eq_true rfl) (s_X11_thrown hG.1 _ _ _ (m_thrown p3.km e54)) (Nat.le_of_ble_eq_true rfl) dL_law_530 (Nat.le_refl _) (Nat.le_refl _) ?_
  refine lj_iload C dL_law_533 (q := 1) rfl ?_
  refine lj_icmp_eq_t (tgt := 540) C dL_law_535 (by decide) rfl ?_
  refine lj_iload C dL_law_540 (q := 1) rfl ?_
  by_cases hk : k = 0
  · refine lj_if_ne_f (tgt := 557) C dL_law_542 (by decide) (by rw [hk]; rfl) ?_
    refine lj_aload_n C dL_law_545 rfl (q := 4) rfl ?_
    refine lj_iconst (v := 0) C dL_law_546 (by decide) ?_
    refine lj_laload C hG.1 p3.2.2.2.1.1 (by decide) rfl (vin1 p3.2.2.2.1.2.1) dL_law_547 ?_
    refine lj_iload C dL_law_548 (q := 0) rfl ?_
    refine lj_i2l C dL_law_550 ?_
    refine lj_lcmp C dL_law_551 (by rw [z0c, ej, hj hk, hw hk]) ?_
    refine lj_if_eq_t (tgt := 557) C dL_law_552 (by decide) rfl ?_
    refine lj_goto (tgt := 2500) C dL_law_557 (by decide) ?_
    exact lj_sub C [2, 3, 4, 5, 6, 7] rfl (kk A' μ3 ⟨p3, ai'⟩)
  · refine lj_if_ne_t (tgt := 557) C dL_law_542 (by decide) (nI_n0 (Nat.le_trans kl (by decide)) hk) ?_
    refine lj_goto (tgt := 2500) C dL_law_557 (by decide) ?_
    exact lj_sub C [2, 3, 4, 5, 6, 7] rfl (kk A' μ3 ⟨p3, ai'⟩)
theorem dL_law_560 : decode cL_law 560 = .ok (.aload_n 1, 1) := by decide +kernel
theorem dL_law_561 : decode cL_law 561 = .ok (.aload_n 0, 1) := by decide +kernel
theorem dL_law_562 : decode cL_law 562 = .ok (.iload 5, 2) := by decide +kernel
theorem dL_law_564 : decode cL_law 564 = .ok (.iconst 1, 1) := by decide +kernel
theorem dL_law_565 : decode cL_law 565 = .ok (.iadd, 1) := by decide +kernel
theorem dL_law_566 : decode cL_law 566 = .ok (.iaload, 1) := by decide +kernel
theorem dL_law_567 : decode cL_law 567 = .ok (.aload_n 3, 1) := by decide +kernel
theorem dL_law_568 : decode cL_law 568 = .ok (.invokestatic 151, 3) := by decide +kernel
theorem dL_law_571 : decode cL_law 571 = .ok (.istore 6, 2) := by decide +kernel
theorem dL_law_573 : decode cL_law 573 = .ok (.aload_n 2, 1) := by decide +kernel
theorem dL_law_574 : decode cL_law 574 = .ok (.aload_n 0, 1) := by decide +kernel
theorem dL_law_575 : decode cL_law 575 = .ok (.iload 5, 2) := by decide +kernel
theorem dL_law_577 : decode cL_law 577 = .ok (.iconst 1, 1) := by decide +kernel
theorem dL_law_578 : decode cL_law 578 = .ok (.iadd, 1) := by decide +kernel
theorem dL_law_579 : decode cL_law 579 = .ok (.iaload, 1) := by decide +kernel
theorem dL_law_580 : decode cL_law 580 = .ok (.invokevirtual 153, 3) := by decide +kernel
theorem dL_law_583 : decode cL_law 583 = .ok (.istore 7, 2) := by decide +kernel
theorem dL_law_585 : decode cL_law 585 = .ok (.aload_n 2, 1) := by decide +kernel
theorem dL_law_586 : decode cL_law 586 = .ok (.invokevirtual 137, 3) := by decide +kernel
theorem dL_law_589 : decode cL_law 589 = .ok (.iload 6, 2) := by decide +kernel
theorem dL_law_591 : decode cL_law 591 = .ok (.if_icmp .eq 5, 3) := by decide +kernel
theorem dL_law_596 : decode cL_law 596 = .ok (.iload 6, 2) := by decide +kernel
theorem dL_law_598 : decode cL_law 598 = .ok (.ifCond .ne 15, 3) := by decide +kernel
theorem dL_law_601 : decode cL_law 601 = .ok (.aload_n 3, 1) := by decide +kernel
theorem dL_law_602 : decode cL_law 602 = .ok (.iconst 0, 1) := by decide +kernel
theorem dL_law_603 : decode cL_law 603 = .ok (.laload, 1) := by decide +kernel
theorem dL_law_604 : decode cL_law 604 = .ok (.iload 7, 2) := by decide +kernel
theorem dL_law_606 : decode cL_law 606 = .ok (.i2l, 1) := by decide +kernel
theorem dL_law_607 : decode cL_law 607 = .ok (.lcmp, 1) := by decide +kernel
theorem dL_law_608 : decode cL_law 608 = .ok (.ifCond .eq 5, 3) := by decide +kernel
theorem dL_law_613 : decode cL_law 613 = .ok (.goto 1887, 3) := by decide +kernel
/-! setBuffer -/
set_option maxRecDepth 100000 in
theorem lc_4 {l : Launch} {G : Gt} {p : Program} {e : Env} {R : Room} {s : State} {m : MethodId} {args : Array Value} {below : List Frame} {meth : Method} {c : Code} {Q : State → Prop} (C : CW G mL_law p R s m meth c) (hG : Gok2 l G) {q0 n : Nat} {xs : Nat → Int32} (hX : va_X q0 n xs G.1 G.1.heap) (hq : q0 < G.1.heap.size) {b z i : Nat} {A : Sx} {μ : Mm} {c1 s1 : Nat} (hi : i + 6 ≤ n) (hn : n ≤ 3072) (h : JV b z A μ) (kk : ∀ A' μ', JV b z A' μ' → LJ l G mL_law p e R s m args below meth c Q 2500 (L0 b q0 i) [] μ' (c1 + PhC A') (s1 + PhS A')) : LJ l G mL_law p e R s m args below meth c Q 560 (L0 b q0 i) [] μ (c1 + 4 + PhC A) (s1 + 220 + PhS A) := by
  refine lj_wf fun w => ?_
  obtain ⟨k, v, A', μ1, dc, ds, ec, es, kl, ef, p1, hc1, hs1, ai', pc, ps, hg⟩ := op_setBuffer (x1 := (xs (nI i + 1).toNatClampNeg)) h w
  refine lj_aload_n C dL_law_560 rfl (q := 4) rfl ?_
  refine lj_aload_n C dL_law_561 rfl (q := 5) rfl ?_
  refine lj_iload C dL_law_562 (q := 0) rfl ?_
  refine lj_iconst (v := 1) C dL_law_564 (by decide) ?_
  refine lj_iadd C dL_law_565 ?_
  refine lj_sld C hX hq (sI_vin (j := 1) (by decide) (by decide) hi hn) dL_law_566 ?_
  refine lj_aload_n C dL_law_567 rfl (q := 2) rfl ?_
  refine lj_callW (As := [.ref b, .int (xs (nI i + 1).toNatClampNeg), .ref (b + 84)]) (c2 := c1 + ec + PhC A') (s2 := s1 + es + PhS A') C hG.1 mw_setBuffer csL_setBuffer ⟨by decide, by decide⟩ rfl (wc_setBuffer hG h.1.kb p1.2.2.2.1.1 p1.2.2.2.1.2.1 ef (fun E q => rOf_in kl q)) (Nat.le_of_ble_eq_true rfl) dL_law_568 (by omega) (by omega) fun v9 μ2 wp => ?_
  obtain ⟨rfl, p2, hj⟩ := wp_out (by decide) kl p1 wp
  refine lj_istore C dL_law_571 (by decide) rfl ?_
  refine lj_wf fun w2 => ?_
  obtain ⟨w9, μ3, eg, hw, e54, p3, ej, hc3, hs3⟩ := hg μ2 p2 w2 (p2.n86 w2)
  refine lj_aload_n C dL_law_573 rfl (q := 4) rfl ?_
  refine lj_aload_n C dL_law_574 rfl (q := 6) rfl ?_
  refine lj_iload C dL_law_575 (q := 1) rfl ?_
  refine lj_iconst (v := 1) C dL_law_577 (by decide) ?_
  refine lj_iadd C dL_law_578 ?_
  refine lj_sld C hX hq (sI_vin (j := 1) (by decide) (by decide) hi hn) dL_law_579 ?_
  refine lj_callV (As := [.int (xs (nI i + 1).toNatClampNeg)]) (c2 := c1 + PhC A') (s2 := s1 + PhS A') C hG.1 mf_X11_setBuffer cvM_setBuffer p2.km ⟨by decide, by decide⟩ rfl rfl (Nat.le_of_ble_eq_true rfl) (s_X11_setBuffer hG.1 _ _ _ _ _ eg) (Nat.le_of_ble_eq_true rfl) dL_law_580 (by omega) (by omega) ?_
  refine lj_istore C dL_law_583 (by decide) rfl ?_
  refine lj_aload_n C dL_law_585 rfl (q := 5) rfl ?_
  refine lj_callV (As := []) (c2 := c1 + PhC A') (s2 := s1 + PhS A') C hG.1 mf_X11_thrown cvM_thrown p3.km ⟨by decide, by decide⟩ rfl rfl (Nat.le_of_ble_eq_true rfl) (s_X11_thrown hG.1 _ _ _ (m_thrown p3.km e54)) (Nat.le_of_ble_eq_true rfl) dL_law_586 (Nat.le_refl _) (Nat.le_refl _) ?_
  refine lj_iload C dL_law_589 (q := 1) rfl ?_
  refine lj_icmp_eq_t (tgt := 596) C dL_law_591 (by decide) rfl ?_
  refine lj_iload C dL_law_596 (q := 1) rfl ?_
  by_cases hk : k = 0
  · refine lj_if_ne_f (tgt := 613) C dL_law_598 (by decide) (by rw [hk]; rfl) ?_
    refine lj_aload_n C dL_law_601 rfl (q := 4) rfl ?_
    refine lj_iconst (v := 0) C dL_law_602 (by decide) ?_
    refine lj_laload C hG.1 p3.2.2.2.1.1 (by decide) rfl (vin1 p3.2.2.2.1.2.1) dL_law_603 ?_
    refine lj_iload C dL_law_604 (q := 0) rfl ?_
    refine lj_i2l C dL_law_606 ?_
    refine lj_lcmp C dL_law_607 (by rw [z0c, ej, hj hk, hw hk]) ?_
    refine lj_if_eq_t (tgt := 613) C dL_law_608 (by decide) rfl ?_
    refine lj_goto (tgt := 2500) C dL_law_613 (by decide) ?_
    exact lj_sub C [2, 3, 4, 5, 6, 7] rfl (kk A' μ3 ⟨p3, ai'⟩)
  · refine lj_if_ne_t (tgt := 613) C dL_law_598 (by decide) (nI_n0 (Nat.le_trans kl (by decide)) hk) ?_
    refine lj_goto (tgt := 2500) C dL_law_613 (by decide) ?_
    exact lj_sub C [2, 3, 4, 5, 6, 7] rfl (kk A' μ3 ⟨p3, ai'⟩)
theorem dL_law_616 : decode cL_law 616 = .ok (.aload_n 1, 1) := by decide +kernel
theorem dL_law_617 : decode cL_law 617 = .ok (.aload_n 0, 1) := by decide +kernel
theorem dL_law_618 : decode cL_law 618 = .ok (.iload 5, 2) := by decide +kernel
theorem dL_law_620 : decode cL_law 620 = .ok (.iconst 1, 1) := by decide +kernel
theorem dL_law_621 : decode cL_law 621 = .ok (.iadd, 1) := by decide +kernel
theorem dL_law_622 : decode cL_law 622 = .ok (.iaload, 1) := by decide +kernel
theorem dL_law_623 : decode cL_law 623 = .ok (.aload_n 3, 1) := by decide +kernel
theorem dL_law_624 : decode cL_law 624 = .ok (.invokestatic 154, 3) := by decide +kernel
theorem dL_law_627 : decode cL_law 627 = .ok (.istore 6, 2) := by decide +kernel
theorem dL_law_629 : decode cL_law 629 = .ok (.aload_n 2, 1) := by decide +kernel
theorem dL_law_630 : decode cL_law 630 = .ok (.aload_n 0, 1) := by decide +kernel
theorem dL_law_631 : decode cL_law 631 = .ok (.iload 5, 2) := by decide +kernel
theorem dL_law_633 : decode cL_law 633 = .ok (.iconst 1, 1) := by decide +kernel
theorem dL_law_634 : decode cL_law 634 = .ok (.iadd, 1) := by decide +kernel
theorem dL_law_635 : decode cL_law 635 = .ok (.iaload, 1) := by decide +kernel
theorem dL_law_636 : decode cL_law 636 = .ok (.invokevirtual 156, 3) := by decide +kernel
theorem dL_law_639 : decode cL_law 639 = .ok (.istore 7, 2) := by decide +kernel
theorem dL_law_641 : decode cL_law 641 = .ok (.aload_n 2, 1) := by decide +kernel
theorem dL_law_642 : decode cL_law 642 = .ok (.invokevirtual 137, 3) := by decide +kernel
theorem dL_law_645 : decode cL_law 645 = .ok (.iload 6, 2) := by decide +kernel
theorem dL_law_647 : decode cL_law 647 = .ok (.if_icmp .eq 5, 3) := by decide +kernel
theorem dL_law_652 : decode cL_law 652 = .ok (.iload 6, 2) := by decide +kernel
theorem dL_law_654 : decode cL_law 654 = .ok (.ifCond .ne 15, 3) := by decide +kernel
theorem dL_law_657 : decode cL_law 657 = .ok (.aload_n 3, 1) := by decide +kernel
theorem dL_law_658 : decode cL_law 658 = .ok (.iconst 0, 1) := by decide +kernel
theorem dL_law_659 : decode cL_law 659 = .ok (.laload, 1) := by decide +kernel
theorem dL_law_660 : decode cL_law 660 = .ok (.iload 7, 2) := by decide +kernel
theorem dL_law_662 : decode cL_law 662 = .ok (.i2l, 1) := by decide +kernel
theorem dL_law_663 : decode cL_law 663 = .ok (.lcmp, 1) := by decide +kernel
theorem dL_law_664 : decode cL_law 664 = .ok (.ifCond .eq 5, 3) := by decide +kernel
theorem dL_law_669 : decode cL_law 669 = .ok (.goto 1831, 3) := by decide +kernel
/-! setQueue -/
set_option maxRecDepth 100000 in
theorem lc_5 {l : Launch} {G : Gt} {p : Program} {e : Env} {R : Room} {s : State} {m : MethodId} {args : Array Value} {below : List Frame} {meth : Method} {c : Code} {Q : State → Prop} (C : CW G mL_law p R s m meth c) (hG : Gok2 l G) {q0 n : Nat} {xs : Nat → Int32} (hX : va_X q0 n xs G.1 G.1.heap) (hq : q0 < G.1.heap.size) {b z i : Nat} {A : Sx} {μ : Mm} {c1 s1 : Nat} (hi : i + 6 ≤ n) (hn : n ≤ 3072) (h : JV b z A μ) (kk : ∀ A' μ', JV b z A' μ' → LJ l G mL_law p e R s m args below meth c Q 2500 (L0 b q0 i) [] μ' (c1 + PhC A') (s1 + PhS A')) : LJ l G mL_law p e R s m args below meth c Q 616 (L0 b q0 i) [] μ (c1 + 4 + PhC A) (s1 + 220 + PhS A) := by
  refine lj_wf fun w => ?_
  obtain ⟨k, v, A', μ1, dc, ds, ec, es, kl, ef, p1, hc1, hs1, ai', pc, ps, hg⟩ := op_setQueue (x1 := (xs (nI i + 1).toNatClampNeg)) h w
  refine lj_aload_n C dL_law_616 rfl (q := 4) rfl ?_
  refine lj_aload_n C dL_law_617 rfl (q := 5) rfl ?_
  refine lj_iload C dL_law_618 (q := 0) rfl ?_
  refine lj_iconst (v := 1) C dL_law_620 (by decide) ?_
  refine lj_iadd C dL_law_621 ?_
  refine lj_sld C hX hq (sI_vin (j := 1) (by decide) (by decide) hi hn) dL_law_622 ?_
  refine lj_aload_n C dL_law_623 rfl (q := 2) rfl ?_
  refine lj_callW (As := [.ref b, .int (xs (nI i + 1).toNatClampNeg), .ref (b + 84)]) (c2 := c1 + ec + PhC A') (s2 := s1 + es + PhS A') C hG.1 mw_setQueue csL_setQueue ⟨by decide, by decide⟩ rfl (wc_setQueue hG h.1.kb p1.2.2.2.1.1 p1.2.2.2.1.2.1 ef (fun E q => rOf_in kl q)) (Nat.le_of_ble_eq_true rfl) dL_law_624 (by omega) (by omega) fun v9 μ2 wp => ?_
  obtain ⟨rfl, p2, hj⟩ := wp_out (by decide) kl p1 wp
  refine lj_istore C dL_law_627 (by decide) rfl ?_
  refine lj_wf fun w2 => ?_
  obtain ⟨w9, μ3, eg, hw, e54, p3, ej, hc3, hs3⟩ := hg μ2 p2 w2 (p2.n86 w2)
  refine lj_aload_n C dL_law_629 rfl (q := 4) rfl ?_
  refine lj_aload_n C dL_law_630 rfl (q := 6) rfl ?_
  refine lj_iload C dL_law_631 (q := 1) rfl ?_
  refine lj_iconst (v := 1) C dL_law_633 (by decide) ?_
  refine lj_iadd C dL_law_634 ?_
  refine lj_sld C hX hq (sI_vin (j := 1) (by decide) (by decide) hi hn) dL_law_635 ?_
  refine lj_callV (As := [.int (xs (nI i + 1).toNatClampNeg)]) (c2 := c1 + PhC A') (s2 := s1 + PhS A') C hG.1 mf_X11_setQueue cvM_setQueue p2.km ⟨by decide, by decide⟩ rfl rfl (Nat.le_of_ble_eq_true rfl) (s_X11_setQueue hG.1 _ _ _ _ _ eg) (Nat.le_of_ble_eq_true rfl) dL_law_636 (by omega) (by omega) ?_
  refine lj_istore C dL_law_639 (by decide) rfl ?_
  refine lj_aload_n C dL_law_641 rfl (q := 5) rfl ?_
  refine lj_callV (As := []) (c2 := c1 + PhC A') (s2 := s1 + PhS A') C hG.1 mf_X11_thrown cvM_thrown p3.km ⟨by decide, by decide⟩ rfl rfl (Nat.le_of_ble_eq_true rfl) (s_X11_thrown hG.1 _ _ _ (m_thrown p3.km e54)) (Nat.le_of_ble_eq_true rfl) dL_law_642 (Nat.le_refl _) (Nat.le_refl _) ?_
  refine lj_iload C dL_law_645 (q := 1) rfl ?_
  refine lj_icmp_eq_t (tgt := 652) C dL_law_647 (by decide) rfl ?_
  refine lj_iload C dL_law_652 (q := 1) rfl ?_
  by_cases hk : k = 0
  · refine lj_if_ne_f (tgt := 669) C dL_law_654 (by decide) (by rw [hk]; rfl) ?_
    refine lj_aload_n C dL_law_657 rfl (q := 4) rfl ?_
    refine lj_iconst (v := 0) C dL_law_658 (by decide) ?_
    refine lj_laload C hG.1 p3.2.2.2.1.1 (by decide) rfl (vin1 p3.2.2.2.1.2.1) dL_law_659 ?_
    refine lj_iload C dL_law_660 (q := 0) rfl ?_
    refine lj_i2l C dL_law_662 ?_
    refine lj_lcmp C dL_law_663 (by rw [z0c, ej, hj hk, hw hk]) ?_
    refine lj_if_eq_t (tgt := 669) C dL_law_664 (by decide) rfl ?_
    refine lj_goto (tgt := 2500) C dL_law_669 (by decide) ?_
    exact lj_sub C [2, 3, 4, 5, 6, 7] rfl (kk A' μ3 ⟨p3, ai'⟩)
  · refine lj_if_ne_t (tgt := 669) C dL_law_654 (by decide) (nI_n0 (Nat.le_trans kl (by decide)) hk) ?_
    refine lj_goto (tgt := 2500) C dL_law_669 (by decide) ?_
    exact lj_sub C [2, 3, 4, 5, 6, 7] rfl (kk A' μ3 ⟨p3, ai'⟩)
