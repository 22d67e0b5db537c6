/-! the cases of the law, 42 to 50 -/
theorem dL_law_2284 : decode cL_law 2284 = .ok (.aload_n 1, 1) := by decide +kernel
theorem dL_law_2285 : decode cL_law 2285 = .ok (.aload_n 0, 1) := by decide +kernel
theorem dL_law_2286 : decode cL_law 2286 = .ok (.iload 5, 2) := by decide +kernel
theorem dL_law_2288 : decode cL_law 2288 = .ok (.iconst 1, 1) := by decide +kernel
theorem dL_law_2289 : decode cL_law 2289 = .ok (.iadd, 1) := by decide +kernel
theorem dL_law_2290 : decode cL_law 2290 = .ok (.iaload, 1) := by decide +kernel
theorem dL_law_2291 : decode cL_law 2291 = .ok (.i2c, 1) := by decide +kernel
theorem dL_law_2292 : decode cL_law 2292 = .ok (.aload_n 3, 1) := by decide +kernel
theorem dL_law_2293 : decode cL_law 2293 = .ok (.invokestatic 277, 3) := by decide +kernel
theorem dL_law_2296 : decode cL_law 2296 = .ok (.istore 6, 2) := by decide +kernel
theorem dL_law_2298 : decode cL_law 2298 = .ok (.aload_n 2, 1) := by decide +kernel
theorem dL_law_2299 : decode cL_law 2299 = .ok (.aload_n 0, 1) := by decide +kernel
theorem dL_law_2300 : decode cL_law 2300 = .ok (.iload 5, 2) := by decide +kernel
theorem dL_law_2302 : decode cL_law 2302 = .ok (.iconst 1, 1) := by decide +kernel
theorem dL_law_2303 : decode cL_law 2303 = .ok (.iadd, 1) := by decide +kernel
theorem dL_law_2304 : decode cL_law 2304 = .ok (.iaload, 1) := by decide +kernel
theorem dL_law_2305 : decode cL_law 2305 = .ok (.i2c, 1) := by decide +kernel
theorem dL_law_2306 : decode cL_law 2306 = .ok (.invokevirtual 280, 3) := by decide +kernel
theorem dL_law_2309 : decode cL_law 2309 = .ok (.istore 7, 2) := by decide +kernel
theorem dL_law_2311 : decode cL_law 2311 = .ok (.aload_n 2, 1) := by decide +kernel
theorem dL_law_2312 : decode cL_law 2312 = .ok (.invokevirtual 137, 3) := by decide +kernel
theorem dL_law_2315 : decode cL_law 2315 = .ok (.iload 6, 2) := by decide +kernel
theorem dL_law_2317 : decode cL_law 2317 = .ok (.if_icmp .eq 5, 3) := by decide +kernel
theorem dL_law_2322 : decode cL_law 2322 = .ok (.iload 6, 2) := by decide +kernel
theorem dL_law_2324 : decode cL_law 2324 = .ok (.ifCond .ne 15, 3) := by decide +kernel
theorem dL_law_2327 : decode cL_law 2327 = .ok (.aload_n 3, 1) := by decide +kernel
theorem dL_law_2328 : decode cL_law 2328 = .ok (.iconst 0, 1) := by decide +kernel
theorem dL_law_2329 : decode cL_law 2329 = .ok (.laload, 1) := by decide +kernel
theorem dL_law_2330 : decode cL_law 2330 = .ok (.iload 7, 2) := by decide +kernel
theorem dL_law_2332 : decode cL_law 2332 = .ok (.i2l, 1) := by decide +kernel
theorem dL_law_2333 : decode cL_law 2333 = .ok (.lcmp, 1) := by decide +kernel
theorem dL_law_2334 : decode cL_law 2334 = .ok (.ifCond .eq 5, 3) := by decide +kernel
theorem dL_law_2339 : decode cL_law 2339 = .ok (.goto 161, 3) := by decide +kernel
/-! lost -/
set_option maxRecDepth 100000 in
theorem lc_42 {l : Launch} {G : Gt} {p : Program} {e : Env} {R : Room} {s : State} {m : MethodId} {args : Array Value} {below : List Frame} {meth : Method} {c : Code} {Q : State → Prop} (C : CW G mL_law p R s m meth c) (hG : Gok2 l G) {q0 n : Nat} {xs : Nat → Int32} (hX : va_X q0 n xs G.1 G.1.heap) (hq : q0 < G.1.heap.size) {b z i : Nat} {A : Sx} {μ : Mm} {c1 s1 : Nat} (hi : i + 6 ≤ n) (hn : n ≤ 3072) (h : JV b z A μ) (kk : ∀ A' μ', JV b z A' μ' → LJ l G mL_law p e R s m args below meth c Q 2500 (L0 b q0 i) [] μ' (c1 + PhC A') (s1 + PhS A')) : LJ l G mL_law p e R s m args below meth c Q 2284 (L0 b q0 i) [] μ (c1 + 4 + PhC A) (s1 + 220 + PhS A) := by
  refine lj_wf fun w => ?_
  obtain ⟨k, v, A', μ1, dc, ds, ec, es, kl, ef, p1, hc1, hs1, ai', pc, ps, hg⟩ := op_lost (x1 := (zc (xs (nI i + 1).toNatClampNeg))) h w
  refine lj_aload_n C dL_law_2284 rfl (q := 4) rfl ?_
  refine lj_aload_n C dL_law_2285 rfl (q := 5) rfl ?_
  refine lj_iload C dL_law_2286 (q := 0) rfl ?_
  refine lj_iconst (v := 1) C dL_law_2288 (by decide) ?_
  refine lj_iadd C dL_law_2289 ?_
  refine lj_sld C hX hq (sI_vin (j := 1) (by decide) (by decide) hi hn) dL_law_2290 ?_
  refine lj_i2c C dL_law_2291 ?_
  refine lj_aload_n C dL_law_2292 rfl (q := 2) rfl ?_
  refine lj_callW (As := [.ref b, .int (zc (xs (nI i + 1).toNatClampNeg)), .ref (b + 84)]) (c2 := c1 + ec + PhC A') (s2 := s1 + es + PhS A') C hG.1 mw_lost csL_lost ⟨by decide, by decide⟩ rfl (wc_lost hG h.1.kb p1.2.2.2.1.1 p1.2.2.2.1.2.1 ef (fun E q => rOf_in kl q)) (Nat.le_of_ble_eq_true rfl) dL_law_2293 (by omega) (by omega) fun v9 μ2 wp => ?_
  obtain ⟨rfl, p2, hj⟩ := wp_out (by decide) kl p1 wp
  refine lj_istore C dL_law_2296 (by decide) rfl ?_
  refine lj_wf fun w2 => ?_
  obtain ⟨w9, μ3, eg, hw, e54, p3, ej, hc3, hs3⟩ := hg μ2 p2 w2 (p2.n86 w2)
  refine lj_aload_n C dL_law_2298 rfl (q := 4) rfl ?_
  refine lj_aload_n C dL_law_2299 rfl (q := 6) rfl ?_
  refine lj_iload C dL_law_2300 (q := 1) rfl ?_
  refine lj_iconst (v := 1) C dL_law_2302 (by decide) ?_
  refine lj_iadd C dL_law_2303 ?_
  refine lj_sld C hX hq (sI_vin (j := 1) (by decide) (by decide) hi hn) dL_law_2304 ?_
  refine lj_i2c C dL_law_2305 ?_
  refine lj_callV (As := [.int (zc (xs (nI i + 1).toNatClampNeg))]) (c2 := c1 + PhC A') (s2 := s1 + PhS A') C hG.1 mf_X11_lost cvM_lost p2.km ⟨by decide, by decide⟩ rfl rfl (Nat.le_of_ble_eq_true rfl) (s_X11_lost hG.1 _ _ _ _ _ eg) (Nat.le_of_ble_eq_true rfl) dL_law_2306 (by omega) (by omega) ?_
  refine lj_istore C dL_law_2309 (by decide) rfl ?_
  refine lj_aload_n C dL_law_2311 rfl (q := 5) rfl ?_
  refine lj_callV (As := []) (c2 := c1 + PhC A') (s2 := s1 + PhS A') C hG.1 mf_X11_thrown cvM_thrown p3.km ⟨by decide, by decide⟩ rfl rfl (Nat.le_of_ble_eq_true rfl) (s_X11_thrown hG.1 _ _ _ (m_thrown p3.km e54)) (Nat.le_of_ble_eq_true rfl) dL_law_2312 (Nat.le_refl _) (Nat.le_refl _) ?_
  refine lj_iload C dL_law_2315 (q := 1) rfl ?_
  refine lj_icmp_eq_t (tgt := 2322) C dL_law_2317 (by decide) rfl ?_
  refine lj_iload C dL_law_2322 (q := 1) rfl ?_
  by_cases hk : k = 0
  · refine lj_if_ne_f (tgt := 2339) C dL_law_2324 (by decide) (by rw [hk]; rfl) ?_
    refine lj_aload_n C dL_law_2327 rfl (q := 4) rfl ?_
    refine lj_iconst (v := 0) C dL_law_2328 (by decide) ?_
    refine lj_laload C hG.1 p3.2.2.2.1.1 (by decide) rfl (vin1 p3.2.2.2.1.2.1) dL_law_2329 ?_
    refine lj_iload C dL_law_2330 (q := 0) rfl ?_
    refine lj_i2l C dL_law_2332 ?_
    refine lj_lcmp C dL_law_2333 (by rw [z0c, ej, hj hk, hw hk]) ?_
    refine lj_if_eq_t (tgt := 2339) C dL_law_2334 (by decide) rfl ?_
    refine lj_goto (tgt := 2500) C dL_law_2339 (by decide) ?_
    exact lj_sub C [2, 3, 4, 5, 6, 7] rfl (kk A' μ3 ⟨p3, ai'⟩)
  · refine lj_if_ne_t (tgt := 2339) C dL_law_2324 (by decide) (nI_n0 (Nat.le_trans kl (by decide)) hk) ?_
    refine lj_goto (tgt := 2500) C dL_law_2339 (by decide) ?_
    exact lj_sub C [2, 3, 4, 5, 6, 7] rfl (kk A' μ3 ⟨p3, ai'⟩)
theorem dL_law_2342 : decode cL_law 2342 = .ok (.aload_n 1, 1) := by decide +kernel
theorem dL_law_2343 : decode cL_law 2343 = .ok (.invokevirtual 281, 3) := by decide +kernel
theorem dL_law_2346 : decode cL_law 2346 = .ok (.aload_n 2, 1) := by decide +kernel
theorem dL_law_2347 : decode cL_law 2347 = .ok (.invokevirtual 284, 3) := by decide +kernel
theorem dL_law_2350 : decode cL_law 2350 = .ok (.if_icmp .eq 150, 3) := by decide +kernel
/-! wrong -/
set_option maxRecDepth 100000 in
theorem lc_43 {l : Launch} {G : Gt} {p : Program} {e : Env} {R : Room} {s : State} {m : MethodId} {args : Array Value} {below : List Frame} {meth : Method} {c : Code} {Q : State → Prop} (C : CW G mL_law p R s m meth c) (hG : Gok2 l G) {q0 n : Nat} {xs : Nat → Int32} (hX : va_X q0 n xs G.1 G.1.heap) (hq : q0 < G.1.heap.size) {b z i : Nat} {A : Sx} {μ : Mm} {c1 s1 : Nat} (hi : i + 6 ≤ n) (hn : n ≤ 3072) (h : JV b z A μ) (kk : ∀ A' μ', JV b z A' μ' → LJ l G mL_law p e R s m args below meth c Q 2500 (L0 b q0 i) [] μ' (c1 + PhC A') (s1 + PhS A')) : LJ l G mL_law p e R s m args below meth c Q 2342 (L0 b q0 i) [] μ (c1 + 4 + PhC A) (s1 + 220 + PhS A) := by
  refine lj_wf fun w => ?_
  obtain ⟨v, e1, e2⟩ := og_wrong h
  refine lj_aload_n C dL_law_2342 rfl (q := 4) rfl ?_
  refine lj_callV (As := []) (c2 := c1 + 4 + PhC A) (s2 := s1 + 220 + PhS A) C hG.1 mf_X10_wrong cvA_wrong h.1.kb ⟨by decide, by decide⟩ rfl rfl (Nat.le_of_ble_eq_true rfl) (s_X10_wrong hG.1 _ _ _ e1) (Nat.le_of_ble_eq_true rfl) dL_law_2343 (Nat.le_refl _) (Nat.le_refl _) ?_
  refine lj_aload_n C dL_law_2346 rfl (q := 3) rfl ?_
  refine lj_callV (As := []) (c2 := c1 + 4 + PhC A) (s2 := s1 + 220 + PhS A) C hG.1 mf_X11_wrong cvM_wrong h.1.km ⟨by decide, by decide⟩ rfl rfl (Nat.le_of_ble_eq_true rfl) (s_X11_wrong hG.1 _ _ _ _ e2) (Nat.le_of_ble_eq_true rfl) dL_law_2347 (Nat.le_refl _) (Nat.le_refl _) ?_
  refine lj_icmp_eq_t (tgt := 2500) C dL_law_2350 (by decide) rfl ?_
  exact lj_w (by omega) (by omega) (kk A _ (h.s54 w))
theorem dL_law_2355 : decode cL_law 2355 = .ok (.aload_n 1, 1) := by decide +kernel
theorem dL_law_2356 : decode cL_law 2356 = .ok (.invokevirtual 285, 3) := by decide +kernel
theorem dL_law_2359 : decode cL_law 2359 = .ok (.aload_n 2, 1) := by decide +kernel
theorem dL_law_2360 : decode cL_law 2360 = .ok (.invokevirtual 288, 3) := by decide +kernel
theorem dL_law_2363 : decode cL_law 2363 = .ok (.if_icmp .eq 137, 3) := by decide +kernel
/-! early -/
set_option maxRecDepth 100000 in
theorem lc_44 {l : Launch} {G : Gt} {p : Program} {e : Env} {R : Room} {s : State} {m : MethodId} {args : Array Value} {below : List Frame} {meth : Method} {c : Code} {Q : State → Prop} (C : CW G mL_law p R s m meth c) (hG : Gok2 l G) {q0 n : Nat} {xs : Nat → Int32} (hX : va_X q0 n xs G.1 G.1.heap) (hq : q0 < G.1.heap.size) {b z i : Nat} {A : Sx} {μ : Mm} {c1 s1 : Nat} (hi : i + 6 ≤ n) (hn : n ≤ 3072) (h : JV b z A μ) (kk : ∀ A' μ', JV b z A' μ' → LJ l G mL_law p e R s m args below meth c Q 2500 (L0 b q0 i) [] μ' (c1 + PhC A') (s1 + PhS A')) : LJ l G mL_law p e R s m args below meth c Q 2355 (L0 b q0 i) [] μ (c1 + 4 + PhC A) (s1 + 220 + PhS A) := by
  refine lj_wf fun w => ?_
  obtain ⟨v, e1, e2⟩ := og_early h
  refine lj_aload_n C dL_law_2355 rfl (q := 4) rfl ?_
  refine lj_callV (As := []) (c2 := c1 + 4 + PhC A) (s2 := s1 + 220 + PhS A) C hG.1 mf_X10_early cvA_early h.1.kb ⟨by decide, by decide⟩ rfl rfl (Nat.le_of_ble_eq_true rfl) (s_X10_early hG.1 _ _ _ e1) (Nat.le_of_ble_eq_true rfl) dL_law_2356 (Nat.le_refl _) (Nat.le_refl _) ?_
  refine lj_aload_n C dL_law_2359 rfl (q := 3) rfl ?_
  refine lj_callV (As := []) (c2 := c1 + 4 + PhC A) (s2 := s1 + 220 + PhS A) C hG.1 mf_X11_early cvM_early h.1.km ⟨by decide, by decide⟩ rfl rfl (Nat.le_of_ble_eq_true rfl) (s_X11_early hG.1 _ _ _ _ e2) (Nat.le_of_ble_eq_true rfl) dL_law_2360 (Nat.le_refl _) (Nat.le_refl _) ?_
  refine lj_icmp_eq_t (tgt := 2500) C dL_law_2363 (by decide) rfl ?_
  exact lj_w (by omega) (by omega) (kk A _ (h.s54 w))
theorem dL_law_2368 : decode cL_law 2368 = .ok (.aload_n 1, 1) := by decide +kernel
theorem dL_law_2369 : decode cL_law 2369 = .ok (.invokevirtual 289, 3) := by decide +kernel
theorem dL_law_2372 : decode cL_law 2372 = .ok (.aload_n 2, 1) := by decide +kernel
theorem dL_law_2373 : decode cL_law 2373 = .ok (.invokevirtual 292, 3) := by decide +kernel
theorem dL_law_2376 : decode cL_law 2376 = .ok (.if_icmp .eq 124, 3) := by decide +kernel
/-! thrownAway -/
set_option maxRecDepth 100000 in
theorem lc_45 {l : Launch} {G : Gt} {p : Program} {e : Env} {R : Room} {s : State} {m : MethodId} {args : Array Value} {below : List Frame} {meth : Method} {c : Code} {Q : State → Prop} (C : CW G mL_law p R s m meth c) (hG : Gok2 l G) {q0 n : Nat} {xs : Nat → Int32} (hX : va_X q0 n xs G.1 G.1.heap) (hq : q0 < G.1.heap.size) {b z i : Nat} {A : Sx} {μ : Mm} {c1 s1 : Nat} (hi : i + 6 ≤ n) (hn : n ≤ 3072) (h : JV b z A μ) (kk : ∀ A' μ', JV b z A' μ' → LJ l G mL_law p e R s m args below meth c Q 2500 (L0 b q0 i) [] μ' (c1 + PhC A') (s1 + PhS A')) : LJ l G mL_law p e R s m args below meth c Q 2368 (L0 b q0 i) [] μ (c1 + 4 + PhC A) (s1 + 220 + PhS A) := by
  refine lj_wf fun w => ?_
  obtain ⟨v, e1, e2⟩ := og_thrownAway h
  refine lj_aload_n C dL_law_2368 rfl (q := 4) rfl ?_
  refine lj_callV (As := []) (c2 := c1 + 4 + PhC A) (s2 := s1 + 220 + PhS A) C hG.1 mf_X10_thrownAway cvA_thrownAway h.1.kb ⟨by decide, by decide⟩ rfl rfl (Nat.le_of_ble_eq_true rfl) (s_X10_thrownAway hG.1 _ _ _ e1) (Nat.le_of_ble_eq_true rfl) dL_law_2369 (Nat.le_refl _) (Nat.le_refl _) ?_
  refine lj_aload_n C dL_law_2372 rfl (q := 3) rfl ?_
  refine lj_callV (As := []) (c2 := c1 + 4 + PhC A) (s2 := s1 + 220 + PhS A) C hG.1 mf_X11_thrownAway cvM_thrownAway h.1.km ⟨by decide, by decide⟩ rfl rfl (Nat.le_of_ble_eq_true rfl) (s_X11_thrownAway hG.1 _ _ _ _ e2) (Nat.le_of_ble_eq_true rfl) dL_law_2373 (Nat.le_refl _) (Nat.le_refl _) ?_
  refine lj_icmp_eq_t (tgt := 2500) C dL_law_2376 (by decide) rfl ?_
  exact lj_w (by omega) (by omega) (kk A _ (h.s54 w))
theorem dL_law_2381 : decode cL_law 2381 = .ok (.aload_n 1, 1) := by decide +kernel
theorem dL_law_2382 : decode cL_law 2382 = .ok (.invokevirtual 293, 3) := by decide +kernel
theorem dL_law_2385 : decode cL_law 2385 = .ok (.aload_n 2, 1) := by decide +kernel
theorem dL_law_2386 : decode cL_law 2386 = .ok (.invokevirtual 296, 3) := by decide +kernel
theorem dL_law_2389 : decode cL_law 2389 = .ok (.if_icmp .eq 111, 3) := by decide +kernel
/-! taken -/
set_option maxRecDepth 100000 in
theorem lc_46 {l : Launch} {G : Gt} {p : Program} {e : Env} {R : Room} {s : State} {m : MethodId} {args : Array Value} {below : List Frame} {meth : Method} {c : Code} {Q : State → Prop} (C : CW G mL_law p R s m meth c) (hG : Gok2 l G) {q0 n : Nat} {xs : Nat → Int32} (hX : va_X q0 n xs G.1 G.1.heap) (hq : q0 < G.1.heap.size) {b z i : Nat} {A : Sx} {μ : Mm} {c1 s1 : Nat} (hi : i + 6 ≤ n) (hn : n ≤ 3072) (h : JV b z A μ) (kk : ∀ A' μ', JV b z A' μ' → LJ l G mL_law p e R s m args below meth c Q 2500 (L0 b q0 i) [] μ' (c1 + PhC A') (s1 + PhS A')) : LJ l G mL_law p e R s m args below meth c Q 2381 (L0 b q0 i) [] μ (c1 + 4 + PhC A) (s1 + 220 + PhS A) := by
  refine lj_wf fun w => ?_
  obtain ⟨v, e1, e2⟩ := og_taken h
  refine lj_aload_n C dL_law_2381 rfl (q := 4) rfl ?_
  refine lj_callV (As := []) (c2 := c1 + 4 + PhC A) (s2 := s1 + 220 + PhS A) C hG.1 mf_X10_taken cvA_taken h.1.kb ⟨by decide, by decide⟩ rfl rfl (Nat.le_of_ble_eq_true rfl) (s_X10_taken hG.1 _ _ _ e1) (Nat.le_of_ble_eq_true rfl) dL_law_2382 (Nat.le_refl _) (Nat.le_refl _) ?_
  refine lj_aload_n C dL_law_2385 rfl (q := 3) rfl ?_
  refine lj_callV (As := []) (c2 := c1 + 4 + PhC A) (s2 := s1 + 220 + PhS A) C hG.1 mf_X11_taken cvM_taken h.1.km ⟨by decide, by decide⟩ rfl rfl (Nat.le_of_ble_eq_true rfl) (s_X11_taken hG.1 _ _ _ _ e2) (Nat.le_of_ble_eq_true rfl) dL_law_2386 (Nat.le_refl _) (Nat.le_refl _) ?_
  refine lj_icmp_eq_t (tgt := 2500) C dL_law_2389 (by decide) rfl ?_
  exact lj_w (by omega) (by omega) (kk A _ (h.s54 w))
theorem dL_law_2394 : decode cL_law 2394 = .ok (.aload_n 1, 1) := by decide +kernel
theorem dL_law_2395 : decode cL_law 2395 = .ok (.invokevirtual 297, 3) := by decide +kernel
theorem dL_law_2398 : decode cL_law 2398 = .ok (.aload_n 2, 1) := by decide +kernel
theorem dL_law_2399 : decode cL_law 2399 = .ok (.invokevirtual 301, 3) := by decide +kernel
theorem dL_law_2402 : decode cL_law 2402 = .ok (.lcmp, 1) := by decide +kernel
theorem dL_law_2403 : decode cL_law 2403 = .ok (.ifCond .eq 97, 3) := by decide +kernel
/-! hits -/
set_option maxRecDepth 100000 in
theorem lc_47 {l : Launch} {G : Gt} {p : Program} {e : Env} {R : Room} {s : State} {m : MethodId} {args : Array Value} {below : List Frame} {meth : Method} {c : Code} {Q : State → Prop} (C : CW G mL_law p R s m meth c) (hG : Gok2 l G) {q0 n : Nat} {xs : Nat → Int32} (hX : va_X q0 n xs G.1 G.1.heap) (hq : q0 < G.1.heap.size) {b z i : Nat} {A : Sx} {μ : Mm} {c1 s1 : Nat} (hi : i + 6 ≤ n) (hn : n ≤ 3072) (h : JV b z A μ) (kk : ∀ A' μ', JV b z A' μ' → LJ l G mL_law p e R s m args below meth c Q 2500 (L0 b q0 i) [] μ' (c1 + PhC A') (s1 + PhS A')) : LJ l G mL_law p e R s m args below meth c Q 2394 (L0 b q0 i) [] μ (c1 + 4 + PhC A) (s1 + 220 + PhS A) := by
  refine lj_wf fun w => ?_
  obtain ⟨v, e1, e2⟩ := og_hits h
  refine lj_aload_n C dL_law_2394 rfl (q := 4) rfl ?_
  refine lj_callV (As := []) (c2 := c1 + 4 + PhC A) (s2 := s1 + 220 + PhS A) C hG.1 mf_X10_hits cvA_hits h.1.kb ⟨by decide, by decide⟩ rfl rfl (Nat.le_of_ble_eq_true rfl) (s_X10_hits hG.1 _ _ _ e1) (Nat.le_of_ble_eq_true rfl) dL_law_2395 (Nat.le_refl _) (Nat.le_refl _) ?_
  refine lj_aload_n C dL_law_2398 rfl (q := 3) rfl ?_
  refine lj_callV (As := []) (c2 := c1 + 4 + PhC A) (s2 := s1 + 220 + PhS A) C hG.1 mf_X11_hits cvM_hits h.1.km ⟨by decide, by decide⟩ rfl rfl (Nat.le_of_ble_eq_true rfl) (s_X11_hits hG.1 _ _ _ _ e2) (Nat.le_of_ble_eq_true rfl) dL_law_2399 (Nat.le_refl _) (Nat.le_refl _) ?_
  refine lj_lcmp C dL_law_2402 rfl ?_
  refine lj_if_eq_t (tgt := 2500) C dL_law_2403 (by decide) rfl ?_
  exact lj_w (by omega) (by omega) (kk A _ (h.s54 w))
theorem dL_law_2408 : decode cL_law 2408 = .ok (.aload_n 1, 1) := by decide +kernel
theorem dL_law_2409 : decode cL_law 2409 = .ok (.aload 4, 2) := by decide +kernel
theorem dL_law_2411 : decode cL_law 2411 = .ok (.invokestatic 302, 3) := by decide +kernel
theorem dL_law_2414 : decode cL_law 2414 = .ok (.istore 6, 2) := by decide +kernel
theorem dL_law_2416 : decode cL_law 2416 = .ok (.aload_n 2, 1) := by decide +kernel
theorem dL_law_2417 : decode cL_law 2417 = .ok (.invokevirtual 305, 3) := by decide +kernel
theorem dL_law_2420 : decode cL_law 2420 = .ok (.fstore 7, 2) := by decide +kernel
theorem dL_law_2422 : decode cL_law 2422 = .ok (.aload_n 2, 1) := by decide +kernel
theorem dL_law_2423 : decode cL_law 2423 = .ok (.invokevirtual 137, 3) := by decide +kernel
theorem dL_law_2426 : decode cL_law 2426 = .ok (.iload 6, 2) := by decide +kernel
theorem dL_law_2428 : decode cL_law 2428 = .ok (.if_icmp .eq 5, 3) := by decide +kernel
theorem dL_law_2433 : decode cL_law 2433 = .ok (.iload 6, 2) := by decide +kernel
theorem dL_law_2435 : decode cL_law 2435 = .ok (.ifCond .ne 36, 3) := by decide +kernel
theorem dL_law_2438 : decode cL_law 2438 = .ok (.aload 4, 2) := by decide +kernel
theorem dL_law_2440 : decode cL_law 2440 = .ok (.iconst 0, 1) := by decide +kernel
theorem dL_law_2441 : decode cL_law 2441 = .ok (.daload, 1) := by decide +kernel
theorem dL_law_2442 : decode cL_law 2442 = .ok (.fload 7, 2) := by decide +kernel
theorem dL_law_2444 : decode cL_law 2444 = .ok (.f2d, 1) := by decide +kernel
theorem dL_law_2445 : decode cL_law 2445 = .ok (.dcmp .l, 1) := by decide +kernel
theorem dL_law_2446 : decode cL_law 2446 = .ok (.ifCond .eq 25, 3) := by decide +kernel
theorem dL_law_2471 : decode cL_law 2471 = .ok (.goto 29, 3) := by decide +kernel
/-! share -/
set_option maxRecDepth 100000 in
theorem lc_48 {l : Launch} {G : Gt} {p : Program} {e : Env} {R : Room} {s : State} {m : MethodId} {args : Array Value} {below : List Frame} {meth : Method} {c : Code} {Q : State → Prop} (C : CW G mL_law p R s m meth c) (hG : Gok2 l G) {q0 n : Nat} {xs : Nat → Int32} (hX : va_X q0 n xs G.1 G.1.heap) (hq : q0 < G.1.heap.size) {b z i : Nat} {A : Sx} {μ : Mm} {c1 s1 : Nat} (hi : i + 6 ≤ n) (hn : n ≤ 3072) (h : JV b z A μ) (kk : ∀ A' μ', JV b z A' μ' → LJ l G mL_law p e R s m args below meth c Q 2500 (L0 b q0 i) [] μ' (c1 + PhC A') (s1 + PhS A')) : LJ l G mL_law p e R s m args below meth c Q 2408 (L0 b q0 i) [] μ (c1 + 4 + PhC A) (s1 + 220 + PhS A) := by
  refine lj_wf fun w => ?_
  obtain ⟨k, v, μ1, kl, ef, p1, hc1, hs1, hv, hg⟩ := op_share h w
  refine lj_aload_n C dL_law_2408 rfl (q := 4) rfl ?_
  refine lj_aload C dL_law_2409 (q := 1) rfl ?_
  refine lj_callW (As := [.ref b, .ref (b + 85)]) (c2 := c1 + 3 + PhC A) (s2 := s1 + 200 + PhS A) C hG.1 mw_share csL_share ⟨by decide, by decide⟩ rfl (wc_share hG h.1.kb p1.2.2.2.1.2.2.1 p1.2.2.2.1.2.2.2 ef (fun E q => rOf_in kl q) (fun w9 q => nan64 (f2d_nan (by obtain ⟨k0, rfl⟩ := rOf_v q; exact hv k0)))) (Nat.le_of_ble_eq_true rfl) dL_law_2411 (by omega) (by omega) fun v9 μ2 wp => ?_
  obtain ⟨rfl, p2, hj⟩ := wp_outD (by decide) kl p1 wp
  refine lj_istore C dL_law_2414 (by decide) rfl ?_
  refine lj_wf fun w2 => ?_
  obtain ⟨w9, eg, hw⟩ := hg μ2 p2
  refine lj_aload_n C dL_law_2416 rfl (q := 4) rfl ?_
  refine lj_callV (As := []) (c2 := c1 + 3 + PhC A) (s2 := s1 + 200 + PhS A) C hG.1 mf_X11_share cvM_share p2.km ⟨by decide, by decide⟩ rfl rfl (Nat.le_of_ble_eq_true rfl) (s_X11_share hG.1 _ _ _ _ eg) (Nat.le_of_ble_eq_true rfl) dL_law_2417 (Nat.le_refl _) (Nat.le_refl _) ?_
  have w3 : WF (sI μ2 (b + 30) 54 (nI k)) := fun a ha => w2 a ha
  obtain ⟨ρ, r⟩ := p2.2.2.1
  obtain ⟨p3, -, ej⟩ := p2.mo w2 (m_54 (v := nI k) r h.2.n9 h.2.n10) ML.put
  have e54 := mI_at μ2 (b + 30) 54 (nI k)
  refine lj_fstore C dL_law_2420 (by decide) rfl ?_
  refine lj_aload_n C dL_law_2422 rfl (q := 5) rfl ?_
  refine lj_callV (As := []) (c2 := c1 + 3 + PhC A) (s2 := s1 + 200 + PhS A) C hG.1 mf_X11_thrown cvM_thrown p3.km ⟨by decide, by decide⟩ rfl rfl (Nat.le_of_ble_eq_true rfl) (s_X11_thrown hG.1 _ _ _ (m_thrown p3.km e54)) (Nat.le_of_ble_eq_true rfl) dL_law_2423 (Nat.le_refl _) (Nat.le_refl _) ?_
  refine lj_iload C dL_law_2426 (q := 1) rfl ?_
  refine lj_icmp_eq_t (tgt := 2433) C dL_law_2428 (by decide) rfl ?_
  refine lj_iload C dL_law_2433 (q := 1) rfl ?_
  by_cases hk : k = 0
  · refine lj_if_ne_f (tgt := 2471) C dL_law_2435 (by decide) (by rw [hk]; rfl) ?_
    refine lj_aload C dL_law_2438 (q := 3) rfl ?_
    refine lj_iconst (v := 0) C dL_law_2440 (by decide) ?_
    refine lj_daload C hG.1 p3.2.2.2.1.2.2.1 (by decide) rfl (vin1 p3.2.2.2.1.2.2.2) dL_law_2441 ?_
    refine lj_fload C dL_law_2442 (q := 0) rfl ?_
    have vn : FP.Core.val32 w9 ≠ FP.Core.Datum.nan := by rw [hw hk]; exact hv hk
    refine lj_f2d C dL_law_2444 (nan64 (f2d_nan vn)) ?_
    have ed : (mJ (sI μ2 (b + 30) 54 (nI k)) (b + 85) (0 : Int32).toNatClampNeg).toUInt64 = FP.f2d w9 := by
      rw [z0c, ej, hj hk, ← hw hk]
      exact UInt64.toUInt64_toInt64 _
    rw [ed]
    have ec : FP.dcmp (FP.f2d w9) (FP.f2d w9) = some .eq := FP.Core.dcmp_self (f2d_nan vn)
    refine lj_dcmp C dL_law_2445 ?_
    refine lj_if_eq_t (tgt := 2471) C dL_law_2446 (by decide) (by rw [ec]; rfl) ?_
    refine lj_goto (tgt := 2500) C dL_law_2471 (by decide) ?_
    exact lj_sub C [2, 3, 4, 5, 6, 7] rfl (lj_w (by omega) (by omega) (kk A _ ⟨p3, h.2⟩))
  · refine lj_if_ne_t (tgt := 2471) C dL_law_2435 (by decide) (nI_n0 (Nat.le_trans kl (by decide)) hk) ?_
    refine lj_goto (tgt := 2500) C dL_law_2471 (by decide) ?_
    exact lj_sub C [2, 3, 4, 5, 6, 7] rfl (lj_w (by omega) (by omega) (kk A _ ⟨p3, h.2⟩))
theorem dL_law_2474 : decode cL_law 2474 = .ok (.aload_n 1, 1) := by decide +kernel
theorem dL_law_2475 : decode cL_law 2475 = .ok (.invokevirtual 306, 3) := by decide +kernel
theorem dL_law_2478 : decode cL_law 2478 = .ok (.aload_n 2, 1) := by decide +kernel
theorem dL_law_2479 : decode cL_law 2479 = .ok (.invokevirtual 309, 3) := by decide +kernel
theorem dL_law_2482 : decode cL_law 2482 = .ok (.if_icmp .eq 18, 3) := by decide +kernel
/-! isSame -/
set_option maxRecDepth 100000 in
theorem lc_49 {l : Launch} {G : Gt} {p : Program} {e : Env} {R : Room} {s : State} {m : MethodId} {args : Array Value} {below : List Frame} {meth : Method} {c : Code} {Q : State → Prop} (C : CW G mL_law p R s m meth c) (hG : Gok2 l G) {q0 n : Nat} {xs : Nat → Int32} (hX : va_X q0 n xs G.1 G.1.heap) (hq : q0 < G.1.heap.size) {b z i : Nat} {A : Sx} {μ : Mm} {c1 s1 : Nat} (hi : i + 6 ≤ n) (hn : n ≤ 3072) (h : JV b z A μ) (kk : ∀ A' μ', JV b z A' μ' → LJ l G mL_law p e R s m args below meth c Q 2500 (L0 b q0 i) [] μ' (c1 + PhC A') (s1 + PhS A')) : LJ l G mL_law p e R s m args below meth c Q 2474 (L0 b q0 i) [] μ (c1 + 4 + PhC A) (s1 + 220 + PhS A) := by
  refine lj_wf fun w => ?_
  obtain ⟨v, e1, e2⟩ := og_isSame h
  refine lj_aload_n C dL_law_2474 rfl (q := 4) rfl ?_
  refine lj_callV (As := []) (c2 := c1 + 4 + PhC A) (s2 := s1 + 220 + PhS A) C hG.1 mf_X10_isSame cvA_isSame h.1.kb ⟨by decide, by decide⟩ rfl rfl (Nat.le_of_ble_eq_true rfl) (s_X10_isSame hG.1 _ _ _ e1) (Nat.le_of_ble_eq_true rfl) dL_law_2475 (Nat.le_refl _) (Nat.le_refl _) ?_
  refine lj_aload_n C dL_law_2478 rfl (q := 3) rfl ?_
  refine lj_callV (As := []) (c2 := c1 + 4 + PhC A) (s2 := s1 + 220 + PhS A) C hG.1 mf_X11_isSame cvM_isSame h.1.km ⟨by decide, by decide⟩ rfl rfl (Nat.le_of_ble_eq_true rfl) (s_X11_isSame hG.1 _ _ _ _ e2) (Nat.le_of_ble_eq_true rfl) dL_law_2479 (Nat.le_refl _) (Nat.le_refl _) ?_
  refine lj_icmp_eq_t (tgt := 2500) C dL_law_2482 (by decide) rfl ?_
  exact lj_w (by omega) (by omega) (kk A _ (h.s54 w))
theorem dL_law_2487 : decode cL_law 2487 = .ok (.aload_n 1, 1) := by decide +kernel
theorem dL_law_2488 : decode cL_law 2488 = .ok (.invokevirtual 310, 3) := by decide +kernel
theorem dL_law_2491 : decode cL_law 2491 = .ok (.aload_n 2, 1) := by decide +kernel
theorem dL_law_2492 : decode cL_law 2492 = .ok (.invokevirtual 313, 3) := by decide +kernel
theorem dL_law_2495 : decode cL_law 2495 = .ok (.if_icmp .eq 5, 3) := by decide +kernel
/-! isWhole -/
set_option maxRecDepth 100000 in
theorem lc_50 {l : Launch} {G : Gt} {p : Program} {e : Env} {R : Room} {s : State} {m : MethodId} {args : Array Value} {below : List Frame} {meth : Method} {c : Code} {Q : State → Prop} (C : CW G mL_law p R s m meth c) (hG : Gok2 l G) {q0 n : Nat} {xs : Nat → Int32} (hX : va_X q0 n xs G.1 G.1.heap) (hq : q0 < G.1.heap.size) {b z i : Nat} {A : Sx} {μ : Mm} {c1 s1 : Nat} (hi : i + 6 ≤ n) (hn : n ≤ 3072) (h : JV b z A μ) (kk : ∀ A' μ', JV b z A' μ' → LJ l G mL_law p e R s m args below meth c Q 2500 (L0 b q0 i) [] μ' (c1 + PhC A') (s1 + PhS A')) : LJ l G mL_law p e R s m args below meth c Q 2487 (L0 b q0 i) [] μ (c1 + 4 + PhC A) (s1 + 220 + PhS A) := by
  refine lj_wf fun w => ?_
  obtain ⟨v, e1, e2⟩ := og_isWhole h
  refine lj_aload_n C dL_law_2487 rfl (q := 4) rfl ?_
  refine lj_callV (As := []) (c2 := c1 + 4 + PhC A) (s2 := s1 + 220 + PhS A) C hG.1 mf_X10_isWhole cvA_isWhole h.1.kb ⟨by decide, by decide⟩ rfl rfl (Nat.le_of_ble_eq_true rfl) (s_X10_isWhole hG.1 _ _ _ e1) (Nat.le_of_ble_eq_true rfl) dL_law_2488 (Nat.le_refl _) (Nat.le_refl _) ?_
  refine lj_aload_n C dL_law_2491 rfl (q := 3) rfl ?_
  refine lj_callV (As := []) (c2 := c1 + 4 + PhC A) (s2 := s1 + 220 + PhS A) C hG.1 mf_X11_isWhole cvM_isWhole h.1.km ⟨by decide, by decide⟩ rfl rfl (Nat.le_of_ble_eq_true rfl) (s_X11_isWhole hG.1 _ _ _ _ e2) (Nat.le_of_ble_eq_true rfl) dL_law_2492 (Nat.le_refl _) (Nat.le_refl _) ?_
  refine lj_icmp_eq_t (tgt := 2500) C dL_law_2495 (by decide) rfl ?_
  exact lj_w (by omega) (by omega) (kk A _ (h.s54 w))
