/-! the settings of the law -/
section LAW6
variable {l : Launch} {G : Gt} {p : Program} {e : Env} {R : Room} {s : State} {m : MethodId} {args : Array Value} {below : List Frame} {meth : Method} {c : Code} {Q : State → Prop} {b z q0 n : Nat} {xs : Nat → Int32} {A A' : Sx} {μ : Mm} {c1 s1 : Nat}
theorem dL_law_371 : decode cL_law 371 = .ok (.ldc 235, 2) := by decide +kernel
theorem dL_law_373 : decode cL_law 373 = .ok (.iload 8, 2) := by decide +kernel
theorem dL_law_375 : decode cL_law 375 = .ok (.iconst 5, 1) := by decide +kernel
theorem dL_law_376 : decode cL_law 376 = .ok (.irem, 1) := by decide +kernel
theorem dL_law_377 : decode cL_law 377 = .ok (.invokevirtual 237, 3) := by decide +kernel
theorem dL_law_380 : decode cL_law 380 = .ok (.istore 15, 2) := by decide +kernel
theorem dL_law_382 : decode cL_law 382 = .ok (.iload 15, 2) := by decide +kernel
theorem dL_law_384 : decode cL_law 384 = .ok (.bipush 100, 2) := by decide +kernel
theorem dL_law_386 : decode cL_law 386 = .ok (.if_icmp .ne 14, 3) := by decide +kernel
theorem dL_law_389 : decode cL_law 389 = .ok (.iconst 1, 1) := by decide +kernel
theorem dL_law_390 : decode cL_law 390 = .ok (.iload 8, 2) := by decide +kernel
theorem dL_law_392 : decode cL_law 392 = .ok (.iconst 5, 1) := by decide +kernel
theorem dL_law_393 : decode cL_law 393 = .ok (.idiv, 1) := by decide +kernel
theorem dL_law_394 : decode cL_law 394 = .ok (.iconst 4, 1) := by decide +kernel
theorem dL_law_395 : decode cL_law 395 = .ok (.irem, 1) := by decide +kernel
theorem dL_law_396 : decode cL_law 396 = .ok (.iadd, 1) := by decide +kernel
theorem dL_law_397 : decode cL_law 397 = .ok (.goto 70, 3) := by decide +kernel
theorem dL_law_400 : decode cL_law 400 = .ok (.iload 15, 2) := by decide +kernel
theorem dL_law_402 : decode cL_law 402 = .ok (.bipush 98, 2) := by decide +kernel
theorem dL_law_404 : decode cL_law 404 = .ok (.if_icmp .ne 15, 3) := by decide +kernel
theorem dL_law_407 : decode cL_law 407 = .ok (.iconst 4, 1) := by decide +kernel
theorem dL_law_408 : decode cL_law 408 = .ok (.iload 8, 2) := by decide +kernel
theorem dL_law_410 : decode cL_law 410 = .ok (.iconst 5, 1) := by decide +kernel
theorem dL_law_411 : decode cL_law 411 = .ok (.idiv, 1) := by decide +kernel
theorem dL_law_412 : decode cL_law 412 = .ok (.bipush 13, 2) := by decide +kernel
theorem dL_law_414 : decode cL_law 414 = .ok (.irem, 1) := by decide +kernel
theorem dL_law_415 : decode cL_law 415 = .ok (.iadd, 1) := by decide +kernel
theorem dL_law_416 : decode cL_law 416 = .ok (.goto 51, 3) := by decide +kernel
theorem dL_law_419 : decode cL_law 419 = .ok (.iload 15, 2) := by decide +kernel
theorem dL_law_421 : decode cL_law 421 = .ok (.bipush 113, 2) := by decide +kernel
theorem dL_law_423 : decode cL_law 423 = .ok (.if_icmp .ne 15, 3) := by decide +kernel
theorem dL_law_426 : decode cL_law 426 = .ok (.iconst 2, 1) := by decide +kernel
theorem dL_law_427 : decode cL_law 427 = .ok (.iload 8, 2) := by decide +kernel
theorem dL_law_429 : decode cL_law 429 = .ok (.iconst 5, 1) := by decide +kernel
theorem dL_law_430 : decode cL_law 430 = .ok (.idiv, 1) := by decide +kernel
theorem dL_law_431 : decode cL_law 431 = .ok (.bipush 7, 2) := by decide +kernel
theorem dL_law_433 : decode cL_law 433 = .ok (.irem, 1) := by decide +kernel
theorem dL_law_434 : decode cL_law 434 = .ok (.iadd, 1) := by decide +kernel
theorem dL_law_435 : decode cL_law 435 = .ok (.goto 32, 3) := by decide +kernel
theorem dL_law_438 : decode cL_law 438 = .ok (.iload 15, 2) := by decide +kernel
theorem dL_law_440 : decode cL_law 440 = .ok (.bipush 105, 2) := by decide +kernel
theorem dL_law_442 : decode cL_law 442 = .ok (.if_icmp .ne 16, 3) := by decide +kernel
theorem dL_law_445 : decode cL_law 445 = .ok (.bipush 10, 2) := by decide +kernel
theorem dL_law_447 : decode cL_law 447 = .ok (.iload 8, 2) := by decide +kernel
theorem dL_law_449 : decode cL_law 449 = .ok (.iconst 5, 1) := by decide +kernel
theorem dL_law_450 : decode cL_law 450 = .ok (.idiv, 1) := by decide +kernel
theorem dL_law_451 : decode cL_law 451 = .ok (.bipush 15, 2) := by decide +kernel
theorem dL_law_453 : decode cL_law 453 = .ok (.irem, 1) := by decide +kernel
theorem dL_law_454 : decode cL_law 454 = .ok (.iadd, 1) := by decide +kernel
theorem dL_law_455 : decode cL_law 455 = .ok (.goto 12, 3) := by decide +kernel
theorem dL_law_458 : decode cL_law 458 = .ok (.iload 8, 2) := by decide +kernel
theorem dL_law_460 : decode cL_law 460 = .ok (.iconst 5, 1) := by decide +kernel
theorem dL_law_461 : decode cL_law 461 = .ok (.idiv, 1) := by decide +kernel
theorem dL_law_462 : decode cL_law 462 = .ok (.bipush 20, 2) := by decide +kernel
theorem dL_law_464 : decode cL_law 464 = .ok (.irem, 1) := by decide +kernel
theorem dL_law_465 : decode cL_law 465 = .ok (.iconst 1, 1) := by decide +kernel
theorem dL_law_466 : decode cL_law 466 = .ok (.isub, 1) := by decide +kernel
theorem dL_law_467 : decode cL_law 467 = .ok (.istore 16, 2) := by decide +kernel
theorem dL_law_469 : decode cL_law 469 = .ok (.aload_n 1, 1) := by decide +kernel
theorem dL_law_470 : decode cL_law 470 = .ok (.iload 15, 2) := by decide +kernel
theorem dL_law_472 : decode cL_law 472 = .ok (.iload 16, 2) := by decide +kernel
theorem dL_law_474 : decode cL_law 474 = .ok (.iload 8, 2) := by decide +kernel
theorem dL_law_476 : decode cL_law 476 = .ok (.bipush 100, 2) := by decide +kernel
theorem dL_law_478 : decode cL_law 478 = .ok (.idiv, 1) := by decide +kernel
theorem dL_law_479 : decode cL_law 479 = .ok (.bipush 20, 2) := by decide +kernel
theorem dL_law_481 : decode cL_law 481 = .ok (.irem, 1) := by decide +kernel
theorem dL_law_482 : decode cL_law 482 = .ok (.iconst 1, 1) := by decide +kernel
theorem dL_law_483 : decode cL_law 483 = .ok (.isub, 1) := by decide +kernel
theorem dL_law_484 : decode cL_law 484 = .ok (.invokestatic 231, 3) := by decide +kernel
theorem dL_law_487 : decode cL_law 487 = .ok (.istore 12, 2) := by decide +kernel
theorem dL_law_489 : decode cL_law 489 = .ok (.iload 15, 2) := by decide +kernel
theorem dL_law_491 : decode cL_law 491 = .ok (.bipush 105, 2) := by decide +kernel
theorem dL_law_493 : decode cL_law 493 = .ok (.if_icmp .ne 13, 3) := by decide +kernel
theorem dL_law_496 : decode cL_law 496 = .ok (.iload 12, 2) := by decide +kernel
theorem dL_law_498 : decode cL_law 498 = .ok (.ifCond .lt 8, 3) := by decide +kernel
theorem dL_law_501 : decode cL_law 501 = .ok (.iload 16, 2) := by decide +kernel
theorem dL_law_503 : decode cL_law 503 = .ok (.goto 5, 3) := by decide +kernel
theorem dL_law_506 : decode cL_law 506 = .ok (.iload 5, 2) := by decide +kernel
theorem dL_law_508 : decode cL_law 508 = .ok (.istore 5, 2) := by decide +kernel
theorem dL_law_510 : decode cL_law 510 = .ok (.iload 12, 2) := by decide +kernel
theorem dL_law_512 : decode cL_law 512 = .ok (.ldc 18, 2) := by decide +kernel
theorem dL_law_514 : decode cL_law 514 = .ok (.if_icmp .ne 7, 3) := by decide +kernel
theorem dL_law_517 : decode cL_law 517 = .ok (.iconst 1, 1) := by decide +kernel
theorem dL_law_518 : decode cL_law 518 = .ok (.goto 4, 3) := by decide +kernel
theorem dL_law_521 : decode cL_law 521 = .ok (.iconst 0, 1) := by decide +kernel
theorem dL_law_522 : decode cL_law 522 = .ok (.iload 14, 2) := by decide +kernel
theorem dL_law_524 : decode cL_law 524 = .ok (.ifCond .ne 7, 3) := by decide +kernel
theorem dL_law_527 : decode cL_law 527 = .ok (.iconst 1, 1) := by decide +kernel
theorem dL_law_528 : decode cL_law 528 = .ok (.goto 4, 3) := by decide +kernel
theorem dL_law_531 : decode cL_law 531 = .ok (.iconst 0, 1) := by decide +kernel
theorem dL_law_532 : decode cL_law 532 = .ok (.if_icmp .ne 27, 3) := by decide +kernel
theorem dL_law_535 : decode cL_law 535 = .ok (.iload 15, 2) := by decide +kernel
theorem dL_law_537 : decode cL_law 537 = .ok (.bipush 105, 2) := by decide +kernel
theorem dL_law_539 : decode cL_law 539 = .ok (.if_icmp .ne 22, 3) := by decide +kernel
theorem dL_law_542 : decode cL_law 542 = .ok (.iload 12, 2) := by decide +kernel
theorem dL_law_544 : decode cL_law 544 = .ok (.ifCond .lt 17, 3) := by decide +kernel
theorem dL_law_547 : decode cL_law 547 = .ok (.aload_n 1, 1) := by decide +kernel
theorem dL_law_548 : decode cL_law 548 = .ok (.invokevirtual 201, 3) := by decide +kernel
theorem dL_law_551 : decode cL_law 551 = .ok (.iload 16, 2) := by decide +kernel
theorem dL_law_553 : decode cL_law 553 = .ok (.bipush 8, 2) := by decide +kernel
theorem dL_law_555 : decode cL_law 555 = .ok (.isub, 1) := by decide +kernel
theorem dL_law_556 : decode cL_law 556 = .ok (.if_icmp .eq 5, 3) := by decide +kernel
theorem dL_law_561 : decode cL_law 561 = .ok (.iload 12, 2) := by decide +kernel
theorem dL_law_563 : decode cL_law 563 = .ok (.ldc 18, 2) := by decide +kernel
theorem dL_law_565 : decode cL_law 565 = .ok (.if_icmp .ne 8, 3) := by decide +kernel
theorem dL_law_568 : decode cL_law 568 = .ok (.iload 12, 2) := by decide +kernel
theorem dL_law_570 : decode cL_law 570 = .ok (.goto 4, 3) := by decide +kernel
theorem dL_law_573 : decode cL_law 573 = .ok (.iconst 0, 1) := by decide +kernel
theorem dL_law_574 : decode cL_law 574 = .ok (.istore 12, 2) := by decide +kernel
theorem dL_law_576 : decode cL_law 576 = .ok (.goto 331, 3) := by decide +kernel
theorem lj_charAt {Y : MD} {pc : Nat} {L : List (Nat × Value)} {st : List Value} {q q2 j n9 : Nat} {bs : List Int32} {x : Int32} (C : CW G Y p R s m meth c) (hG : Gok l G) (hY : Y.own = RL) (hR : mJ0_charAt_5068e.fr + 1 ≤ Y.fr ∧ 8 + (mJ0_charAt_5068e.maxL + 11) + mJ0_charAt_5068e.lo ≤ Y.lo) (ht : TxG G bs n9 q q2) (hn : n9 < 100000) (hb : ∀ j, zc (bs.getD j 0 &&& 255) = bs.getD j 0) (hx : x = nI j) (hj : j < n9) (hcat : (st.map fun v => v.category).sum ≤ 8) (d : decode Y.cc pc = .ok (.invokevirtual 237, 3)) (kk : LJ l G Y p e R s m args below meth c Q (pc + 3) L (.int (bs.getD j 0) :: st) μ c1 s1) : LJ l G Y p e R s m args below meth c Q pc L (.int x :: .ref q :: st) μ c1 s1 := by
  subst hx
  refine lj_callVO (As := [.int (nI j)]) (c2 := c1) (s2 := s1) C hG mf_J0_charAt_5068e (by rw [hY]; exact co_L237) ht.1 hR rfl rfl (Nat.le_of_ble_eq_true rfl) (sg_charAt hG ht hn hb (nI_in hj (by omega))) hcat d (Nat.le_refl _) (Nat.le_refl _) ?_
  rw [clN (by omega)]
  exact kk
theorem AI.hd (h : AI A) : ∀ k, k < 2 → aV A 0 k = -1 ∨ adok (aV A 0 k) = true := h.ib.1.2.2.2.2.2.2
theorem hand_ne (h : AI A) : ¬ 64 * aV A 0 0 + aV A 0 1 = -2000000003 := by
  have key : ∀ x : Int32, x = -1 ∨ adok x = true → ∃ i, i < 65 ∧ x = nI i - 1 := fun x hx => by
    rcases hx with q | q
    · exact ⟨0, by decide, by rw [q]; decide⟩
    · obtain ⟨e1, e2⟩ := adok_e q
      exact ⟨x.toNatClampNeg + 1, by omega, by rw [nI_pred]; exact e1⟩
  obtain ⟨i, hi, ei⟩ := key _ (h.hd 0 (by decide))
  obtain ⟨j, hj, ej⟩ := key _ (h.hd 1 (by decide))
  have c : ∀ i, i < 65 → ∀ j, j < 65 → ¬ 64 * (nI i - 1) + (nI j - 1) = -2000000003 := by decide +kernel
  rw [ei, ej]
  exact c i hi j hj
theorem law_xd (C : CW G mL_law p R s m meth c) (hG : Gok3 l G) {kind w k inn steps pg : Nat} {bf : Int64} {wa be fi : Bool} (hw : w < 100000000) (hf : fi = decide (aS A 0 = 0)) (h : JC b z A μ) (la : LA pg be inn A) (kt : ∀ its pg2 be2 inn2 A2 μ2, JC b z A2 μ2 → LA pg2 be2 inn2 A2 → (its < -2000000000 → A2 = A) → LJ l G mL_law p e R s m args below meth c Q 907 (LT its bf wa b q0 k inn2 be2 steps pg2) [] μ2 (c1 + PC A2) (s1 + PS A2)) : LJ l G mL_law p e R s m args below meth c Q 382 ((15, .int 100) :: LMi fi kind bf wa w b q0 k inn be steps pg) [] μ (c1 + PC A + 10) (s1 + PS A + 200) := by
  obtain ⟨l15, l8, l2, lr⟩ := la
  unfold LMi
  have b0 : w / 5 ≤ w := Nat.div_le_self _ _
  have b1 : w / 5 % 4 < 4 := Nat.mod_lt _ (by decide)
  have b3 : w / 100 ≤ w := Nat.div_le_self _ _
  have b4 : w / 100 % 20 < 20 := Nat.mod_lt _ (by decide)
  have hy : okH (nI (w / 100 % 20) - 1) = true := (show ∀ i, i < 20 → okH (nI i - 1) = true by decide) _ b4
  have hx : (!decide ((nI (1 + w / 5 % 4)) < 1) && decide ((nI (1 + w / 5 % 4)) ≤ 4)) = true := (show ∀ i, i < 4 → (!decide (nI (1 + i) < 1) && decide (nI (1 + i) ≤ 4)) = true by decide) _ b1
  refine lj_iload C dL_law_382 (q := 0) rfl ?_
  refine lj_bipush (v := 100) C dL_law_384 (by decide) ?_
  refine lj_icmp_ne_f (tgt := 400) C dL_law_386 (by decide) rfl ?_
  refine lj_iconst (v := 1) C dL_law_389 (by decide) ?_
  refine lj_iload C dL_law_390 (q := 6) rfl ?_
  refine lj_iconst (v := 5) C dL_law_392 (by decide) ?_
  refine lj_idivE (v := nI (w / 5)) C dL_law_393 (by decide) (nI_div (b := 5) (by decide) (by omega) (by decide)) ?_
  refine lj_iconst (v := 4) C dL_law_394 (by decide) ?_
  refine lj_iremE (v := nI (w / 5 % 4)) C dL_law_395 (by decide) (nI_mod (b := 4) (by decide) (by omega) (by decide)) ?_
  refine lj_iaddE (v := nI (1 + w / 5 % 4)) C dL_law_396 (nI_addR (b := 1) (by decide)) ?_
  refine lj_goto (tgt := 467) C dL_law_397 (by decide) ?_
  refine lj_istore C dL_law_467 (by decide) rfl ?_
  refine lj_aload_n C dL_law_469 rfl (q := 13) rfl ?_
  refine lj_iload C dL_law_470 (q := 1) rfl ?_
  refine lj_iload C dL_law_472 (q := 0) rfl ?_
  refine lj_iload C dL_law_474 (q := 7) rfl ?_
  refine lj_bipush (v := 100) C dL_law_476 (by decide) ?_
  refine lj_idivE (v := nI (w / 100)) C dL_law_478 (by decide) (nI_div (b := 100) (by decide) (by omega) (by decide)) ?_
  refine lj_bipush (v := 20) C dL_law_479 (by decide) ?_
  refine lj_iremE (v := nI (w / 100 % 20)) C dL_law_481 (by decide) (nI_mod (b := 20) (by decide) (by omega) (by decide)) ?_
  refine lj_iconst (v := 1) C dL_law_482 (by decide) ?_
  refine lj_isub C dL_law_483 ?_
  refine ls_d (c2 := c1 + PC A + 8) (s2 := s1 + PS A + 160) C hG.1 rfl ⟨by decide, by decide⟩ h (Nat.le_of_ble_eq_true rfl) dL_law_484 (by omega) (by omega) fun A2 μ2 eA h2 => ?_
  rw [hx] at eA
  rw [hx]
  by_cases h0 : aS A 0 = 0
  · have ka : kSet A true = 0 := by unfold kSet; rw [if_neg (by decide), if_pos h0]
    rw [ka, if_pos rfl] at eA
    rw [ka, exv_oc0]
    have ef : fi = true := by rw [hf]; exact decide_eq_true h0
    subst ef
    have vn : ¬ nI (aS A 16) = -2000000003 := m3_ne (nI_pos' (by have := h.2.2.ib.1; unfold CF at this; omega))
    have eS : ∀ i, i ≠ 16 → i ≠ 17 → i ≠ 18 → i ≠ 7 → i ≠ 8 → aS A2 i = aS A i := fun i h6 h7 h8 _ _ => by rw [eA]; exact zS_ne _ _ (by omega)
    have eV : ∀ q, q ≠ 0 → aV A2 q = aV A q := fun q hq => by rw [eA]; rfl
    have e8 : aS A2 8 = aS A 8 := by rw [eA]; exact zS_ne _ _ (by decide)
    refine lj_istore C dL_law_487 (by decide) rfl ?_
    refine lj_iload C dL_law_489 (q := 2) rfl ?_
    refine lj_bipush (v := 105) C dL_law_491 (by decide) ?_
    refine lj_icmp_ne_t (tgt := 506) C dL_law_493 (by decide) (by decide) ?_
    refine lj_iload C dL_law_506 (q := 9) rfl ?_
    refine lj_istore C dL_law_508 (by decide) rfl ?_
    refine lj_iload C dL_law_510 (q := 1) rfl ?_
    refine lj_ldc C hG.1.1 lc_L_18 dL_law_512 ?_
    refine lj_icmp_ne_t (tgt := 521) C dL_law_514 (by decide) vn ?_
    refine lj_iconst (v := 0) C dL_law_521 (by decide) ?_
    refine lj_iload C dL_law_522 (q := 4) rfl ?_
    refine lj_if_ne_t (tgt := 531) C dL_law_524 (by decide) (by decide) ?_
    refine lj_iconst (v := 0) C dL_law_531 (by decide) ?_
    refine lj_icmp_ne_f (tgt := 559) C dL_law_532 (by decide) rfl ?_
    refine lj_iload C dL_law_535 (q := 3) rfl ?_
    refine lj_bipush (v := 105) C dL_law_537 (by decide) ?_
    refine lj_icmp_ne_t (tgt := 561) C dL_law_539 (by decide) (by decide) ?_
    refine lj_iload C dL_law_561 (q := 1) rfl ?_
    refine lj_ldc C hG.1.1 lc_L_18 dL_law_563 ?_
    refine lj_icmp_ne_t (tgt := 573) C dL_law_565 (by decide) vn ?_
    refine lj_iconst (v := 0) C dL_law_573 (by decide) ?_
    refine lj_istore C dL_law_574 (by decide) rfl ?_
    refine lj_goto (tgt := 907) C dL_law_576 (by decide) ?_
    refine lj_sub C [0, 6, 7, 9, 1, 10, 11, 12, 13, 14] rfl ?_
    refine lj_w ?_ ?_ (kt 0 pg be inn A2 μ2 h2 ⟨by rw [eS 15 (by decide) (by decide) (by decide) (by decide) (by decide)]; exact l15, e8.trans l8, fun q => by rw [eS 2 (by decide) (by decide) (by decide) (by decide) (by decide)]; exact l2 q, fun q => by rw [eV 1 (by decide), eV 2 (by decide)]; exact lr h0⟩ fun q => absurd q (by decide))
    · have : PC A2 = PC A := by unfold PC; rw [eS 0 (by decide) (by decide) (by decide) (by decide) (by decide), eS 1 (by decide) (by decide) (by decide) (by decide) (by decide), eS 14 (by decide) (by decide) (by decide) (by decide) (by decide)]
      omega
    · have : PS A2 = PS A := by unfold PS; rw [eS 0 (by decide) (by decide) (by decide) (by decide) (by decide), eS 1 (by decide) (by decide) (by decide) (by decide) (by decide), eS 14 (by decide) (by decide) (by decide) (by decide) (by decide)]
      omega
  · have ka : kSet A true = 2 := by unfold kSet; rw [if_neg (by decide), if_neg h0]
    rw [ka, if_neg (by decide)] at eA
    have eB := eA.symm
    subst eB
    rw [ka, exv_oc2]
    have ef : fi = false := by rw [hf]; exact decide_eq_false h0
    subst ef
    refine lj_istore C dL_law_487 (by decide) rfl ?_
    refine lj_iload C dL_law_489 (q := 2) rfl ?_
    refine lj_bipush (v := 105) C dL_law_491 (by decide) ?_
    refine lj_icmp_ne_t (tgt := 506) C dL_law_493 (by decide) (by decide) ?_
    refine lj_iload C dL_law_506 (q := 9) rfl ?_
    refine lj_istore C dL_law_508 (by decide) rfl ?_
    refine lj_iload C dL_law_510 (q := 1) rfl ?_
    refine lj_ldc C hG.1.1 lc_L_18 dL_law_512 ?_
    refine lj_icmp_ne_f (tgt := 521) C dL_law_514 (by decide) rfl ?_
    refine lj_iconst (v := 1) C dL_law_517 (by decide) ?_
    refine lj_goto (tgt := 522) C dL_law_518 (by decide) ?_
    refine lj_iload C dL_law_522 (q := 4) rfl ?_
    refine lj_if_ne_f (tgt := 531) C dL_law_524 (by decide) rfl ?_
    refine lj_iconst (v := 1) C dL_law_527 (by decide) ?_
    refine lj_goto (tgt := 532) C dL_law_528 (by decide) ?_
    refine lj_icmp_ne_f (tgt := 559) C dL_law_532 (by decide) rfl ?_
    refine lj_iload C dL_law_535 (q := 3) rfl ?_
    refine lj_bipush (v := 105) C dL_law_537 (by decide) ?_
    refine lj_icmp_ne_t (tgt := 561) C dL_law_539 (by decide) (by decide) ?_
    refine lj_iload C dL_law_561 (q := 1) rfl ?_
    refine lj_ldc C hG.1.1 lc_L_18 dL_law_563 ?_
    refine lj_icmp_ne_f (tgt := 573) C dL_law_565 (by decide) rfl ?_
    refine lj_iload C dL_law_568 (q := 1) rfl ?_
    refine lj_goto (tgt := 574) C dL_law_570 (by decide) ?_
    refine lj_istore C dL_law_574 (by decide) rfl ?_
    refine lj_goto (tgt := 907) C dL_law_576 (by decide) ?_
    refine lj_sub C [0, 6, 7, 9, 1, 10, 11, 12, 13, 14] rfl ?_
    exact lj_w (by omega) (by omega) (kt _ pg be inn A μ2 h2 ⟨l15, l8, l2, lr⟩ fun _ => rfl)
theorem law_xb (C : CW G mL_law p R s m meth c) (hG : Gok3 l G) {kind w k inn steps pg : Nat} {bf : Int64} {wa be fi : Bool} (hw : w < 100000000) (hf : fi = decide (aS A 0 = 0)) (h : JC b z A μ) (la : LA pg be inn A) (kt : ∀ its pg2 be2 inn2 A2 μ2, JC b z A2 μ2 → LA pg2 be2 inn2 A2 → (its < -2000000000 → A2 = A) → LJ l G mL_law p e R s m args below meth c Q 907 (LT its bf wa b q0 k inn2 be2 steps pg2) [] μ2 (c1 + PC A2) (s1 + PS A2)) : LJ l G mL_law p e R s m args below meth c Q 382 ((15, .int 98) :: LMi fi kind bf wa w b q0 k inn be steps pg) [] μ (c1 + PC A + 10) (s1 + PS A + 200) := by
  obtain ⟨l15, l8, l2, lr⟩ := la
  unfold LMi
  have b0 : w / 5 ≤ w := Nat.div_le_self _ _
  have b1 : w / 5 % 13 < 13 := Nat.mod_lt _ (by decide)
  have b3 : w / 100 ≤ w := Nat.div_le_self _ _
  have b4 : w / 100 % 20 < 20 := Nat.mod_lt _ (by decide)
  have hy : okH (nI (w / 100 % 20) - 1) = true := (show ∀ i, i < 20 → okH (nI i - 1) = true by decide) _ b4
  have hx : (!decide ((nI (4 + w / 5 % 13)) < 4) && decide ((nI (4 + w / 5 % 13)) ≤ 16)) = true := (show ∀ i, i < 13 → (!decide (nI (4 + i) < 4) && decide (nI (4 + i) ≤ 16)) = true by decide) _ b1
  refine lj_iload C dL_law_382 (q := 0) rfl ?_
  refine lj_bipush (v := 100) C dL_law_384 (by decide) ?_
  refine lj_icmp_ne_t (tgt := 400) C dL_law_386 (by decide) (by decide) ?_
  refine lj_iload C dL_law_400 (q := 0) rfl ?_
  refine lj_bipush (v := 98) C dL_law_402 (by decide) ?_
  refine lj_icmp_ne_f (tgt := 419) C dL_law_404 (by decide) rfl ?_
  refine lj_iconst (v := 4) C dL_law_407 (by decide) ?_
  refine lj_iload C dL_law_408 (q := 6) rfl ?_
  refine lj_iconst (v := 5) C dL_law_410 (by decide) ?_
  refine lj_idivE (v := nI (w / 5)) C dL_law_411 (by decide) (nI_div (b := 5) (by decide) (by omega) (by decide)) ?_
  refine lj_bipush (v := 13) C dL_law_412 (by decide) ?_
  refine lj_iremE (v := nI (w / 5 % 13)) C dL_law_414 (by decide) (nI_mod (b := 13) (by decide) (by omega) (by decide)) ?_
  refine lj_iaddE (v := nI (4 + w / 5 % 13)) C dL_law_415 (nI_addR (b := 4) (by decide)) ?_
  refine lj_goto (tgt := 467) C dL_law_416 (by decide) ?_
  refine lj_istore C dL_law_467 (by decide) rfl ?_
  refine lj_aload_n C dL_law_469 rfl (q := 13) rfl ?_
  refine lj_iload C dL_law_470 (q := 1) rfl ?_
  refine lj_iload C dL_law_472 (q := 0) rfl ?_
  refine lj_iload C dL_law_474 (q := 7) rfl ?_
  refine lj_bipush (v := 100) C dL_law_476 (by decide) ?_
  refine lj_idivE (v := nI (w / 100)) C dL_law_478 (by decide) (nI_div (b := 100) (by decide) (by omega) (by decide)) ?_
  refine lj_bipush (v := 20) C dL_law_479 (by decide) ?_
  refine lj_iremE (v := nI (w / 100 % 20)) C dL_law_481 (by decide) (nI_mod (b := 20) (by decide) (by omega) (by decide)) ?_
  refine lj_iconst (v := 1) C dL_law_482 (by decide) ?_
  refine lj_isub C dL_law_483 ?_
  refine ls_b (c2 := c1 + PC A + 8) (s2 := s1 + PS A + 160) C hG.1 rfl ⟨by decide, by decide⟩ h (Nat.le_of_ble_eq_true rfl) dL_law_484 (by omega) (by omega) fun A2 μ2 eA h2 => ?_
  rw [hx] at eA
  rw [hx]
  by_cases h0 : aS A 0 = 0
  · have ka : kSet A true = 0 := by unfold kSet; rw [if_neg (by decide), if_pos h0]
    rw [ka, if_pos rfl] at eA
    rw [ka, exv_oc0]
    have ef : fi = true := by rw [hf]; exact decide_eq_true h0
    subst ef
    have vn : ¬ nI (aS A 17) = -2000000003 := m3_ne (nI_pos' (by have := h.2.2.ib.1; unfold CF at this; omega))
    have eS : ∀ i, i ≠ 16 → i ≠ 17 → i ≠ 18 → i ≠ 7 → i ≠ 8 → aS A2 i = aS A i := fun i h6 h7 h8 _ _ => by rw [eA]; exact zS_ne _ _ (by omega)
    have eV : ∀ q, q ≠ 0 → aV A2 q = aV A q := fun q hq => by rw [eA]; rfl
    have e8 : aS A2 8 = aS A 8 := by rw [eA]; exact zS_ne _ _ (by decide)
    refine lj_istore C dL_law_487 (by decide) rfl ?_
    refine lj_iload C dL_law_489 (q := 2) rfl ?_
    refine lj_bipush (v := 105) C dL_law_491 (by decide) ?_
    refine lj_icmp_ne_t (tgt := 506) C dL_law_493 (by decide) (by decide) ?_
    refine lj_iload C dL_law_506 (q := 9) rfl ?_
    refine lj_istore C dL_law_508 (by decide) rfl ?_
    refine lj_iload C dL_law_510 (q := 1) rfl ?_
    refine lj_ldc C hG.1.1 lc_L_18 dL_law_512 ?_
    refine lj_icmp_ne_t (tgt := 521) C dL_law_514 (by decide) vn ?_
    refine lj_iconst (v := 0) C dL_law_521 (by decide) ?_
    refine lj_iload C dL_law_522 (q := 4) rfl ?_
    refine lj_if_ne_t (tgt := 531) C dL_law_524 (by decide) (by decide) ?_
    refine lj_iconst (v := 0) C dL_law_531 (by decide) ?_
    refine lj_icmp_ne_f (tgt := 559) C dL_law_532 (by decide) rfl ?_
    refine lj_iload C dL_law_535 (q := 3) rfl ?_
    refine lj_bipush (v := 105) C dL_law_537 (by decide) ?_
    refine lj_icmp_ne_t (tgt := 561) C dL_law_539 (by decide) (by decide) ?_
    refine lj_iload C dL_law_561 (q := 1) rfl ?_
    refine lj_ldc C hG.1.1 lc_L_18 dL_law_563 ?_
    refine lj_icmp_ne_t (tgt := 573) C dL_law_565 (by decide) vn ?_
    refine lj_iconst (v := 0) C dL_law_573 (by decide) ?_
    refine lj_istore C dL_law_574 (by decide) rfl ?_
    refine lj_goto (tgt := 907) C dL_law_576 (by decide) ?_
    refine lj_sub C [0, 6, 7, 9, 1, 10, 11, 12, 13, 14] rfl ?_
    refine lj_w ?_ ?_ (kt 0 pg be inn A2 μ2 h2 ⟨by rw [eS 15 (by decide) (by decide) (by decide) (by decide) (by decide)]; exact l15, e8.trans l8, fun q => by rw [eS 2 (by decide) (by decide) (by decide) (by decide) (by decide)]; exact l2 q, fun q => by rw [eV 1 (by decide), eV 2 (by decide)]; exact lr h0⟩ fun q => absurd q (by decide))
    · have : PC A2 = PC A := by unfold PC; rw [eS 0 (by decide) (by decide) (by decide) (by decide) (by decide), eS 1 (by decide) (by decide) (by decide) (by decide) (by decide), eS 14 (by decide) (by decide) (by decide) (by decide) (by decide)]
      omega
    · have : PS A2 = PS A := by unfold PS; rw [eS 0 (by decide) (by decide) (by decide) (by decide) (by decide), eS 1 (by decide) (by decide) (by decide) (by decide) (by decide), eS 14 (by decide) (by decide) (by decide) (by decide) (by decide)]
      omega
  · have ka : kSet A true = 2 := by unfold kSet; rw [if_neg (by decide), if_neg h0]
    rw [ka, if_neg (by decide)] at eA
    have eB := eA.symm
    subst eB
    rw [ka, exv_oc2]
    have ef : fi = false := by rw [hf]; exact decide_eq_false h0
    subst ef
    refine lj_istore C dL_law_487 (by decide) rfl ?_
    refine lj_iload C dL_law_489 (q := 2) rfl ?_
    refine lj_bipush (v := 105) C dL_law_491 (by decide) ?_
    refine lj_icmp_ne_t (tgt := 506) C dL_law_493 (by decide) (by decide) ?_
    refine lj_iload C dL_law_506 (q := 9) rfl ?_
    refine lj_istore C dL_law_508 (by decide) rfl ?_
    refine lj_iload C dL_law_510 (q := 1) rfl ?_
    refine lj_ldc C hG.1.1 lc_L_18 dL_law_512 ?_
    refine lj_icmp_ne_f (tgt := 521) C dL_law_514 (by decide) rfl ?_
    refine lj_iconst (v := 1) C dL_law_517 (by decide) ?_
    refine lj_goto (tgt := 522) C dL_law_518 (by decide) ?_
    refine lj_iload C dL_law_522 (q := 4) rfl ?_
    refine lj_if_ne_f (tgt := 531) C dL_law_524 (by decide) rfl ?_
    refine lj_iconst (v := 1) C dL_law_527 (by decide) ?_
    refine lj_goto (tgt := 532) C dL_law_528 (by decide) ?_
    refine lj_icmp_ne_f (tgt := 559) C dL_law_532 (by decide) rfl ?_
    refine lj_iload C dL_law_535 (q := 3) rfl ?_
    refine lj_bipush (v := 105) C dL_law_537 (by decide) ?_
    refine lj_icmp_ne_t (tgt := 561) C dL_law_539 (by decide) (by decide) ?_
    refine lj_iload C dL_law_561 (q := 1) rfl ?_
    refine lj_ldc C hG.1.1 lc_L_18 dL_law_563 ?_
    refine lj_icmp_ne_f (tgt := 573) C dL_law_565 (by decide) rfl ?_
    refine lj_iload C dL_law_568 (q := 1) rfl ?_
    refine lj_goto (tgt := 574) C dL_law_570 (by decide) ?_
    refine lj_istore C dL_law_574 (by decide) rfl ?_
    refine lj_goto (tgt := 907) C dL_law_576 (by decide) ?_
    refine lj_sub C [0, 6, 7, 9, 1, 10, 11, 12, 13, 14] rfl ?_
    exact lj_w (by omega) (by omega) (kt _ pg be inn A μ2 h2 ⟨l15, l8, l2, lr⟩ fun _ => rfl)
theorem law_xq (C : CW G mL_law p R s m meth c) (hG : Gok3 l G) {kind w k inn steps pg : Nat} {bf : Int64} {wa be fi : Bool} (hw : w < 100000000) (hf : fi = decide (aS A 0 = 0)) (h : JC b z A μ) (la : LA pg be inn A) (kt : ∀ its pg2 be2 inn2 A2 μ2, JC b z A2 μ2 → LA pg2 be2 inn2 A2 → (its < -2000000000 → A2 = A) → LJ l G mL_law p e R s m args below meth c Q 907 (LT its bf wa b q0 k inn2 be2 steps pg2) [] μ2 (c1 + PC A2) (s1 + PS A2)) : LJ l G mL_law p e R s m args below meth c Q 382 ((15, .int 113) :: LMi fi kind bf wa w b q0 k inn be steps pg) [] μ (c1 + PC A + 10) (s1 + PS A + 200) := by
  obtain ⟨l15, l8, l2, lr⟩ := la
  unfold LMi
  have b0 : w / 5 ≤ w := Nat.div_le_self _ _
  have b1 : w / 5 % 7 < 7 := Nat.mod_lt _ (by decide)
  have b3 : w / 100 ≤ w := Nat.div_le_self _ _
  have b4 : w / 100 % 20 < 20 := Nat.mod_lt _ (by decide)
  have hy : okH (nI (w / 100 % 20) - 1) = true := (show ∀ i, i < 20 → okH (nI i - 1) = true by decide) _ b4
  have hx : (!decide ((nI (2 + w / 5 % 7)) < 2) && decide ((nI (2 + w / 5 % 7)) ≤ 8)) = true := (show ∀ i, i < 7 → (!decide (nI (2 + i) < 2) && decide (nI (2 + i) ≤ 8)) = true by decide) _ b1
  refine lj_iload C dL_law_382 (q := 0) rfl ?_
  refine lj_bipush (v := 100) C dL_law_384 (by decide) ?_
  refine lj_icmp_ne_t (tgt := 400) C dL_law_386 (by decide) (by decide) ?_
  refine lj_iload C dL_law_400 (q := 0) rfl ?_
  refine lj_bipush (v := 98) C dL_law_402 (by decide) ?_
  refine lj_icmp_ne_t (tgt := 419) C dL_law_404 (by decide) (by decide) ?_
  refine lj_iload C dL_law_419 (q := 0) rfl ?_
  refine lj_bipush (v := 113) C dL_law_421 (by decide) ?_
  refine lj_icmp_ne_f (tgt := 438) C dL_law_423 (by decide) rfl ?_
  refine lj_iconst (v := 2) C dL_law_426 (by decide) ?_
  refine lj_iload C dL_law_427 (q := 6) rfl ?_
  refine lj_iconst (v := 5) C dL_law_429 (by decide) ?_
  refine lj_idivE (v := nI (w / 5)) C dL_law_430 (by decide) (nI_div (b := 5) (by decide) (by omega) (by decide)) ?_
  refine lj_bipush (v := 7) C dL_law_431 (by decide) ?_
  refine lj_iremE (v := nI (w / 5 % 7)) C dL_law_433 (by decide) (nI_mod (b := 7) (by decide) (by omega) (by decide)) ?_
  refine lj_iaddE (v := nI (2 + w / 5 % 7)) C dL_law_434 (nI_addR (b := 2) (by decide)) ?_
  refine lj_goto (tgt := 467) C dL_law_435 (by decide) ?_
  refine lj_istore C dL_law_467 (by decide) rfl ?_
  refine lj_aload_n C dL_law_469 rfl (q := 13) rfl ?_
  refine lj_iload C dL_law_470 (q := 1) rfl ?_
  refine lj_iload C dL_law_472 (q := 0) rfl ?_
  refine lj_iload C dL_law_474 (q := 7) rfl ?_
  refine lj_bipush (v := 100) C dL_law_476 (by decide) ?_
  refine lj_idivE (v := nI (w / 100)) C dL_law_478 (by decide) (nI_div (b := 100) (by decide) (by omega) (by decide)) ?_
  refine lj_bipush (v := 20) C dL_law_479 (by decide) ?_
  refine lj_iremE (v := nI (w / 100 % 20)) C dL_law_481 (by decide) (nI_mod (b := 20) (by decide) (by omega) (by decide)) ?_
  refine lj_iconst (v := 1) C dL_law_482 (by decide) ?_
  refine lj_isub C dL_law_483 ?_
  refine ls_q (c2 := c1 + PC A + 8) (s2 := s1 + PS A + 160) C hG.1 rfl ⟨by decide, by decide⟩ h (Nat.le_of_ble_eq_true rfl) dL_law_484 (by omega) (by omega) fun A2 μ2 eA h2 => ?_
  rw [hx] at eA
  rw [hx]
  by_cases h0 : aS A 0 = 0
  · have ka : kSet A true = 0 := by unfold kSet; rw [if_neg (by decide), if_pos h0]
    rw [ka, if_pos rfl] at eA
    rw [ka, exv_oc0]
    have ef : fi = true := by rw [hf]; exact decide_eq_true h0
    subst ef
    have vn : ¬ nI (aS A 18) = -2000000003 := m3_ne (nI_pos' (by have := h.2.2.ib.1; unfold CF at this; omega))
    have eS : ∀ i, i ≠ 16 → i ≠ 17 → i ≠ 18 → i ≠ 7 → i ≠ 8 → aS A2 i = aS A i := fun i h6 h7 h8 _ _ => by rw [eA]; exact zS_ne _ _ (by omega)
    have eV : ∀ q, q ≠ 0 → aV A2 q = aV A q := fun q hq => by rw [eA]; rfl
    have e8 : aS A2 8 = aS A 8 := by rw [eA]; exact zS_ne _ _ (by decide)
    refine lj_istore C dL_law_487 (by decide) rfl ?_
    refine lj_iload C dL_law_489 (q := 2) rfl ?_
    refine lj_bipush (v := 105) C dL_law_491 (by decide) ?_
    refine lj_icmp_ne_t (tgt := 506) C dL_law_493 (by decide) (by decide) ?_
    refine lj_iload C dL_law_506 (q := 9) rfl ?_
    refine lj_istore C dL_law_508 (by decide) rfl ?_
    refine lj_iload C dL_law_510 (q := 1) rfl ?_
    refine lj_ldc C hG.1.1 lc_L_18 dL_law_512 ?_
    refine lj_icmp_ne_t (tgt := 521) C dL_law_514 (by decide) vn ?_
    refine lj_iconst (v := 0) C dL_law_521 (by decide) ?_
    refine lj_iload C dL_law_522 (q := 4) rfl ?_
    refine lj_if_ne_t (tgt := 531) C dL_law_524 (by decide) (by decide) ?_
    refine lj_iconst (v := 0) C dL_law_531 (by decide) ?_
    refine lj_icmp_ne_f (tgt := 559) C dL_law_532 (by decide) rfl ?_
    refine lj_iload C dL_law_535 (q := 3) rfl ?_
    refine lj_bipush (v := 105) C dL_law_537 (by decide) ?_
    refine lj_icmp_ne_t (tgt := 561) C dL_law_539 (by decide) (by decide) ?_
    refine lj_iload C dL_law_561 (q := 1) rfl ?_
    refine lj_ldc C hG.1.1 lc_L_18 dL_law_563 ?_
    refine lj_icmp_ne_t (tgt := 573) C dL_law_565 (by decide) vn ?_
    refine lj_iconst (v := 0) C dL_law_573 (by decide) ?_
    refine lj_istore C dL_law_574 (by decide) rfl ?_
    refine lj_goto (tgt := 907) C dL_law_576 (by decide) ?_
    refine lj_sub C [0, 6, 7, 9, 1, 10, 11, 12, 13, 14] rfl ?_
    refine lj_w ?_ ?_ (kt 0 pg be inn A2 μ2 h2 ⟨by rw [eS 15 (by decide) (by decide) (by decide) (by decide) (by decide)]; exact l15, e8.trans l8, fun q => by rw [eS 2 (by decide) (by decide) (by decide) (by decide) (by decide)]; exact l2 q, fun q => by rw [eV 1 (by decide), eV 2 (by decide)]; exact lr h0⟩ fun q => absurd q (by decide))
    · have : PC A2 = PC A := by unfold PC; rw [eS 0 (by decide) (by decide) (by decide) (by decide) (by decide), eS 1 (by decide) (by decide) (by decide) (by decide) (by decide), eS 14 (by decide) (by decide) (by decide) (by decide) (by decide)]
      omega
    · have : PS A2 = PS A := by unfold PS; rw [eS 0 (by decide) (by decide) (by decide) (by decide) (by decide), eS 1 (by decide) (by decide) (by decide) (by decide) (by decide), eS 14 (by decide) (by decide) (by decide) (by decide) (by decide)]
      omega
  · have ka : kSet A true = 2 := by unfold kSet; rw [if_neg (by decide), if_neg h0]
    rw [ka, if_neg (by decide)] at eA
    have eB := eA.symm
    subst eB
    rw [ka, exv_oc2]
    have ef : fi = false := by rw [hf]; exact decide_eq_false h0
    subst ef
    refine lj_istore C dL_law_487 (by decide) rfl ?_
    refine lj_iload C dL_law_489 (q := 2) rfl ?_
    refine lj_bipush (v := 105) C dL_law_491 (by decide) ?_
    refine lj_icmp_ne_t (tgt := 506) C dL_law_493 (by decide) (by decide) ?_
    refine lj_iload C dL_law_506 (q := 9) rfl ?_
    refine lj_istore C dL_law_508 (by decide) rfl ?_
    refine lj_iload C dL_law_510 (q := 1) rfl ?_
    refine lj_ldc C hG.1.1 lc_L_18 dL_law_512 ?_
    refine lj_icmp_ne_f (tgt := 521) C dL_law_514 (by decide) rfl ?_
    refine lj_iconst (v := 1) C dL_law_517 (by decide) ?_
    refine lj_goto (tgt := 522) C dL_law_518 (by decide) ?_
    refine lj_iload C dL_law_522 (q := 4) rfl ?_
    refine lj_if_ne_f (tgt := 531) C dL_law_524 (by decide) rfl ?_
    refine lj_iconst (v := 1) C dL_law_527 (by decide) ?_
    refine lj_goto (tgt := 532) C dL_law_528 (by decide) ?_
    refine lj_icmp_ne_f (tgt := 559) C dL_law_532 (by decide) rfl ?_
    refine lj_iload C dL_law_535 (q := 3) rfl ?_
    refine lj_bipush (v := 105) C dL_law_537 (by decide) ?_
    refine lj_icmp_ne_t (tgt := 561) C dL_law_539 (by decide) (by decide) ?_
    refine lj_iload C dL_law_561 (q := 1) rfl ?_
    refine lj_ldc C hG.1.1 lc_L_18 dL_law_563 ?_
    refine lj_icmp_ne_f (tgt := 573) C dL_law_565 (by decide) rfl ?_
    refine lj_iload C dL_law_568 (q := 1) rfl ?_
    refine lj_goto (tgt := 574) C dL_law_570 (by decide) ?_
    refine lj_istore C dL_law_574 (by decide) rfl ?_
    refine lj_goto (tgt := 907) C dL_law_576 (by decide) ?_
    refine lj_sub C [0, 6, 7, 9, 1, 10, 11, 12, 13, 14] rfl ?_
    exact lj_w (by omega) (by omega) (kt _ pg be inn A μ2 h2 ⟨l15, l8, l2, lr⟩ fun _ => rfl)
theorem law_xi (C : CW G mL_law p R s m meth c) (hG : Gok3 l G) {kind w k inn steps pg : Nat} {bf : Int64} {wa be fi : Bool} (hw : w < 100000000) (hf : fi = decide (aS A 0 = 0)) (h : JC b z A μ) (la : LA pg be inn A) (kt : ∀ its pg2 be2 inn2 A2 μ2, JC b z A2 μ2 → LA pg2 be2 inn2 A2 → (its < -2000000000 → A2 = A) → LJ l G mL_law p e R s m args below meth c Q 907 (LT its bf wa b q0 k inn2 be2 steps pg2) [] μ2 (c1 + PC A2) (s1 + PS A2)) : LJ l G mL_law p e R s m args below meth c Q 382 ((15, .int 105) :: LMi fi kind bf wa w b q0 k inn be steps pg) [] μ (c1 + PC A + 10) (s1 + PS A + 200) := by
  obtain ⟨l15, l8, l2, lr⟩ := la
  unfold LMi
  have b0 : w / 5 ≤ w := Nat.div_le_self _ _
  have b1 : w / 5 % 15 < 15 := Nat.mod_lt _ (by decide)
  have b3 : w / 100 ≤ w := Nat.div_le_self _ _
  have b4 : w / 100 % 20 < 20 := Nat.mod_lt _ (by decide)
  have hy : okH (nI (w / 100 % 20) - 1) = true := (show ∀ i, i < 20 → okH (nI i - 1) = true by decide) _ b4
  have hx : (!decide ((nI (10 + w / 5 % 15)) < 10) && decide ((nI (10 + w / 5 % 15)) ≤ 24)) = true := (show ∀ i, i < 15 → (!decide (nI (10 + i) < 10) && decide (nI (10 + i) ≤ 24)) = true by decide) _ b1
  have cl : (nI (10 + w / 5 % 15)).toNatClampNeg = 10 + w / 5 % 15 := clN (by omega)
  refine lj_iload C dL_law_382 (q := 0) rfl ?_
  refine lj_bipush (v := 100) C dL_law_384 (by decide) ?_
  refine lj_icmp_ne_t (tgt := 400) C dL_law_386 (by decide) (by decide) ?_
  refine lj_iload C dL_law_400 (q := 0) rfl ?_
  refine lj_bipush (v := 98) C dL_law_402 (by decide) ?_
  refine lj_icmp_ne_t (tgt := 419) C dL_law_404 (by decide) (by decide) ?_
  refine lj_iload C dL_law_419 (q := 0) rfl ?_
  refine lj_bipush (v := 113) C dL_law_421 (by decide) ?_
  refine lj_icmp_ne_t (tgt := 438) C dL_law_423 (by decide) (by decide) ?_
  refine lj_iload C dL_law_438 (q := 0) rfl ?_
  refine lj_bipush (v := 105) C dL_law_440 (by decide) ?_
  refine lj_icmp_ne_f (tgt := 458) C dL_law_442 (by decide) rfl ?_
  refine lj_bipush (v := 10) C dL_law_445 (by decide) ?_
  refine lj_iload C dL_law_447 (q := 6) rfl ?_
  refine lj_iconst (v := 5) C dL_law_449 (by decide) ?_
  refine lj_idivE (v := nI (w / 5)) C dL_law_450 (by decide) (nI_div (b := 5) (by decide) (by omega) (by decide)) ?_
  refine lj_bipush (v := 15) C dL_law_451 (by decide) ?_
  refine lj_iremE (v := nI (w / 5 % 15)) C dL_law_453 (by decide) (nI_mod (b := 15) (by decide) (by omega) (by decide)) ?_
  refine lj_iaddE (v := nI (10 + w / 5 % 15)) C dL_law_454 (nI_addR (b := 10) (by decide)) ?_
  refine lj_goto (tgt := 467) C dL_law_455 (by decide) ?_
  refine lj_istore C dL_law_467 (by decide) rfl ?_
  refine lj_aload_n C dL_law_469 rfl (q := 13) rfl ?_
  refine lj_iload C dL_law_470 (q := 1) rfl ?_
  refine lj_iload C dL_law_472 (q := 0) rfl ?_
  refine lj_iload C dL_law_474 (q := 7) rfl ?_
  refine lj_bipush (v := 100) C dL_law_476 (by decide) ?_
  refine lj_idivE (v := nI (w / 100)) C dL_law_478 (by decide) (nI_div (b := 100) (by decide) (by omega) (by decide)) ?_
  refine lj_bipush (v := 20) C dL_law_479 (by decide) ?_
  refine lj_iremE (v := nI (w / 100 % 20)) C dL_law_481 (by decide) (nI_mod (b := 20) (by decide) (by omega) (by decide)) ?_
  refine lj_iconst (v := 1) C dL_law_482 (by decide) ?_
  refine lj_isub C dL_law_483 ?_
  refine ls_i (c2 := c1 + PC A + 8) (s2 := s1 + PS A + 160) C hG.1 rfl ⟨by decide, by decide⟩ h (Nat.le_of_ble_eq_true rfl) dL_law_484 (by omega) (by omega) fun A2 μ2 eA h2 => ?_
  rw [hx] at eA
  rw [hx]
  rw [cl] at eA
  by_cases h0 : aS A 0 = 0
  · have ka : kSet A true = 0 := by unfold kSet; rw [if_neg (by decide), if_pos h0]
    rw [ka, if_pos rfl] at eA
    rw [ka, exv_oc0]
    have ef : fi = true := by rw [hf]; exact decide_eq_true h0
    subst ef
    have vn : ¬ nI (aS A 8) = -2000000003 := m3_ne (nI_pos' (by have := h.2.2.n8; omega))
    have eS : ∀ i, i ≠ 16 → i ≠ 17 → i ≠ 18 → i ≠ 7 → i ≠ 8 → aS A2 i = aS A i := fun i _ _ _ h7 h8 => by rw [eA]; exact inA_S h7 h8
    have eV : ∀ q, q ≠ 0 → aV A2 q = aV A q := fun q hq => by rw [eA]; rfl
    have e8 : aS A2 8 = 10 + w / 5 % 15 := by rw [eA]; exact inA_8
    have e7 : aS A2 7 = 10 + w / 5 % 15 - 8 := by rw [eA]; exact inA_7
    have vp : (0 : Int32) ≤ nI (aS A 8) := nI_pos' (by have := h.2.2.n8; omega)
    have vl : ¬ nI (aS A 8) < 0 := Int32.not_lt.mpr vp
    refine lj_istore C dL_law_487 (by decide) rfl ?_
    refine lj_iload C dL_law_489 (q := 2) rfl ?_
    refine lj_bipush (v := 105) C dL_law_491 (by decide) ?_
    refine lj_icmp_ne_f (tgt := 506) C dL_law_493 (by decide) rfl ?_
    refine lj_iload C dL_law_496 (q := 0) rfl ?_
    refine lj_if_lt_f (tgt := 506) C dL_law_498 (by decide) vl ?_
    refine lj_iload C dL_law_501 (q := 1) rfl ?_
    refine lj_goto (tgt := 508) C dL_law_503 (by decide) ?_
    refine lj_istore C dL_law_508 (by decide) rfl ?_
    refine lj_iload C dL_law_510 (q := 1) rfl ?_
    refine lj_ldc C hG.1.1 lc_L_18 dL_law_512 ?_
    refine lj_icmp_ne_t (tgt := 521) C dL_law_514 (by decide) vn ?_
    refine lj_iconst (v := 0) C dL_law_521 (by decide) ?_
    refine lj_iload C dL_law_522 (q := 4) rfl ?_
    refine lj_if_ne_t (tgt := 531) C dL_law_524 (by decide) (by decide) ?_
    refine lj_iconst (v := 0) C dL_law_531 (by decide) ?_
    refine lj_icmp_ne_f (tgt := 559) C dL_law_532 (by decide) rfl ?_
    refine lj_iload C dL_law_535 (q := 3) rfl ?_
    refine lj_bipush (v := 105) C dL_law_537 (by decide) ?_
    refine lj_icmp_ne_f (tgt := 561) C dL_law_539 (by decide) rfl ?_
    refine lj_iload C dL_law_542 (q := 1) rfl ?_
    refine lj_if_lt_f (tgt := 561) C dL_law_544 (by decide) vl ?_
    refine lj_aload_n C dL_law_547 rfl (q := 13) rfl ?_
    refine lg_free C hG.1 rfl ⟨by decide, by decide⟩ h2 (Nat.le_of_ble_eq_true rfl) dL_law_548 ?_
    refine lj_iload C dL_law_551 (q := 2) rfl ?_
    refine lj_bipush (v := 8) C dL_law_553 (by decide) ?_
    refine lj_isubE (v := nI (10 + w / 5 % 15 - 8)) C dL_law_555 (nI_sub (b := 8) (by decide) (by omega)) ?_
    refine lj_icmp_eq_t (tgt := 561) C dL_law_556 (by decide) (by rw [e7]) ?_
    refine lj_iload C dL_law_561 (q := 1) rfl ?_
    refine lj_ldc C hG.1.1 lc_L_18 dL_law_563 ?_
    refine lj_icmp_ne_t (tgt := 573) C dL_law_565 (by decide) vn ?_
    refine lj_iconst (v := 0) C dL_law_573 (by decide) ?_
    refine lj_istore C dL_law_574 (by decide) rfl ?_
    refine lj_goto (tgt := 907) C dL_law_576 (by decide) ?_
    refine lj_sub C [0, 6, 7, 9, 1, 10, 11, 12, 13, 14] rfl ?_
    refine lj_w ?_ ?_ (kt 0 pg be (10 + w / 5 % 15) A2 μ2 h2 ⟨by rw [eS 15 (by decide) (by decide) (by decide) (by decide) (by decide)]; exact l15, e8, fun q => by rw [eS 2 (by decide) (by decide) (by decide) (by decide) (by decide)]; exact l2 q, fun q => by rw [eV 1 (by decide), eV 2 (by decide)]; exact lr h0⟩ fun q => absurd q (by decide))
    · have : PC A2 = PC A := by unfold PC; rw [eS 0 (by decide) (by decide) (by decide) (by decide) (by decide), eS 1 (by decide) (by decide) (by decide) (by decide) (by decide), eS 14 (by decide) (by decide) (by decide) (by decide) (by decide)]
      omega
    · have : PS A2 = PS A := by unfold PS; rw [eS 0 (by decide) (by decide) (by decide) (by decide) (by decide), eS 1 (by decide) (by decide) (by decide) (by decide) (by decide), eS 14 (by decide) (by decide) (by decide) (by decide) (by decide)]
      omega
  · have ka : kSet A true = 2 := by unfold kSet; rw [if_neg (by decide), if_neg h0]
    rw [ka, if_neg (by decide)] at eA
    have eB := eA.symm
    subst eB
    rw [ka, exv_oc2]
    have ef : fi = false := by rw [hf]; exact decide_eq_false h0
    subst ef
    refine lj_istore C dL_law_487 (by decide) rfl ?_
    refine lj_iload C dL_law_489 (q := 2) rfl ?_
    refine lj_bipush (v := 105) C dL_law_491 (by decide) ?_
    refine lj_icmp_ne_f (tgt := 506) C dL_law_493 (by decide) rfl ?_
    refine lj_iload C dL_law_496 (q := 0) rfl ?_
    refine lj_if_lt_t (tgt := 506) C dL_law_498 (by decide) (by decide) ?_
    refine lj_iload C dL_law_506 (q := 9) rfl ?_
    refine lj_istore C dL_law_508 (by decide) rfl ?_
    refine lj_iload C dL_law_510 (q := 1) rfl ?_
    refine lj_ldc C hG.1.1 lc_L_18 dL_law_512 ?_
    refine lj_icmp_ne_f (tgt := 521) C dL_law_514 (by decide) rfl ?_
    refine lj_iconst (v := 1) C dL_law_517 (by decide) ?_
    refine lj_goto (tgt := 522) C dL_law_518 (by decide) ?_
    refine lj_iload C dL_law_522 (q := 4) rfl ?_
    refine lj_if_ne_f (tgt := 531) C dL_law_524 (by decide) rfl ?_
    refine lj_iconst (v := 1) C dL_law_527 (by decide) ?_
    refine lj_goto (tgt := 532) C dL_law_528 (by decide) ?_
    refine lj_icmp_ne_f (tgt := 559) C dL_law_532 (by decide) rfl ?_
    refine lj_iload C dL_law_535 (q := 3) rfl ?_
    refine lj_bipush (v := 105) C dL_law_537 (by decide) ?_
    refine lj_icmp_ne_f (tgt := 561) C dL_law_539 (by decide) rfl ?_
    refine lj_iload C dL_law_542 (q := 1) rfl ?_
    refine lj_if_lt_t (tgt := 561) C dL_law_544 (by decide) (by decide) ?_
    refine lj_iload C dL_law_561 (q := 1) rfl ?_
    refine lj_ldc C hG.1.1 lc_L_18 dL_law_563 ?_
    refine lj_icmp_ne_f (tgt := 573) C dL_law_565 (by decide) rfl ?_
    refine lj_iload C dL_law_568 (q := 1) rfl ?_
    refine lj_goto (tgt := 574) C dL_law_570 (by decide) ?_
    refine lj_istore C dL_law_574 (by decide) rfl ?_
    refine lj_goto (tgt := 907) C dL_law_576 (by decide) ?_
    refine lj_sub C [0, 6, 7, 9, 1, 10, 11, 12, 13, 14] rfl ?_
    exact lj_w (by omega) (by omega) (kt _ pg be inn A μ2 h2 ⟨l15, l8, l2, lr⟩ fun _ => rfl)
theorem law_xh (C : CW G mL_law p R s m meth c) (hG : Gok3 l G) {kind w k inn steps pg : Nat} {bf : Int64} {wa be fi : Bool} (hw : w < 100000000) (hf : fi = decide (aS A 0 = 0)) (h : JC b z A μ) (la : LA pg be inn A) (kt : ∀ its pg2 be2 inn2 A2 μ2, JC b z A2 μ2 → LA pg2 be2 inn2 A2 → (its < -2000000000 → A2 = A) → LJ l G mL_law p e R s m args below meth c Q 907 (LT its bf wa b q0 k inn2 be2 steps pg2) [] μ2 (c1 + PC A2) (s1 + PS A2)) : LJ l G mL_law p e R s m args below meth c Q 382 ((15, .int 104) :: LMi fi kind bf wa w b q0 k inn be steps pg) [] μ (c1 + PC A + 10) (s1 + PS A + 200) := by
  obtain ⟨l15, l8, l2, lr⟩ := la
  unfold LMi
  have b0 : w / 5 ≤ w := Nat.div_le_self _ _
  have b1 : w / 5 % 20 < 20 := Nat.mod_lt _ (by decide)
  have b3 : w / 100 ≤ w := Nat.div_le_self _ _
  have b4 : w / 100 % 20 < 20 := Nat.mod_lt _ (by decide)
  have hy : okH (nI (w / 100 % 20) - 1) = true := (show ∀ i, i < 20 → okH (nI i - 1) = true by decide) _ b4
  have hx : (okH ((nI (w / 5 % 20)) - 1) && okH ((nI (w / 100 % 20)) - 1)) = true := by rw [(show ∀ i, i < 20 → okH (nI i - 1) = true by decide) _ b1, hy]; rfl
  refine lj_iload C dL_law_382 (q := 0) rfl ?_
  refine lj_bipush (v := 100) C dL_law_384 (by decide) ?_
  refine lj_icmp_ne_t (tgt := 400) C dL_law_386 (by decide) (by decide) ?_
  refine lj_iload C dL_law_400 (q := 0) rfl ?_
  refine lj_bipush (v := 98) C dL_law_402 (by decide) ?_
  refine lj_icmp_ne_t (tgt := 419) C dL_law_404 (by decide) (by decide) ?_
  refine lj_iload C dL_law_419 (q := 0) rfl ?_
  refine lj_bipush (v := 113) C dL_law_421 (by decide) ?_
  refine lj_icmp_ne_t (tgt := 438) C dL_law_423 (by decide) (by decide) ?_
  refine lj_iload C dL_law_438 (q := 0) rfl ?_
  refine lj_bipush (v := 105) C dL_law_440 (by decide) ?_
  refine lj_icmp_ne_t (tgt := 458) C dL_law_442 (by decide) (by decide) ?_
  refine lj_iload C dL_law_458 (q := 6) rfl ?_
  refine lj_iconst (v := 5) C dL_law_460 (by decide) ?_
  refine lj_idivE (v := nI (w / 5)) C dL_law_461 (by decide) (nI_div (b := 5) (by decide) (by omega) (by decide)) ?_
  refine lj_bipush (v := 20) C dL_law_462 (by decide) ?_
  refine lj_iremE (v := nI (w / 5 % 20)) C dL_law_464 (by decide) (nI_mod (b := 20) (by decide) (by omega) (by decide)) ?_
  refine lj_iconst (v := 1) C dL_law_465 (by decide) ?_
  refine lj_isub C dL_law_466 ?_
  refine lj_istore C dL_law_467 (by decide) rfl ?_
  refine lj_aload_n C dL_law_469 rfl (q := 13) rfl ?_
  refine lj_iload C dL_law_470 (q := 1) rfl ?_
  refine lj_iload C dL_law_472 (q := 0) rfl ?_
  refine lj_iload C dL_law_474 (q := 7) rfl ?_
  refine lj_bipush (v := 100) C dL_law_476 (by decide) ?_
  refine lj_idivE (v := nI (w / 100)) C dL_law_478 (by decide) (nI_div (b := 100) (by decide) (by omega) (by decide)) ?_
  refine lj_bipush (v := 20) C dL_law_479 (by decide) ?_
  refine lj_iremE (v := nI (w / 100 % 20)) C dL_law_481 (by decide) (nI_mod (b := 20) (by decide) (by omega) (by decide)) ?_
  refine lj_iconst (v := 1) C dL_law_482 (by decide) ?_
  refine lj_isub C dL_law_483 ?_
  refine ls_h (c2 := c1 + PC A + 8) (s2 := s1 + PS A + 160) C hG.1 rfl ⟨by decide, by decide⟩ h (Nat.le_of_ble_eq_true rfl) dL_law_484 (by omega) (by omega) fun A2 μ2 eA h2 => ?_
  rw [hx] at eA
  rw [hx]
  by_cases h0 : aS A 0 = 0
  · have ka : kSet A true = 0 := by unfold kSet; rw [if_neg (by decide), if_pos h0]
    rw [ka, if_pos rfl] at eA
    rw [ka, exv_oc0]
    have ef : fi = true := by rw [hf]; exact decide_eq_true h0
    subst ef
    have vn : ¬ 64 * aV A 0 0 + aV A 0 1 = -2000000003 := hand_ne h.2.2
    have eS : ∀ i, i ≠ 16 → i ≠ 17 → i ≠ 18 → i ≠ 7 → i ≠ 8 → aS A2 i = aS A i := fun i _ _ _ _ _ => by rw [eA]; rfl
    have eV : ∀ q, q ≠ 0 → aV A2 q = aV A q := fun q hq => by rw [eA, zV_ne _ _ _ hq, zV_ne _ _ _ hq]
    have e8 : aS A2 8 = aS A 8 := by rw [eA]; rfl
    refine lj_istore C dL_law_487 (by decide) rfl ?_
    refine lj_iload C dL_law_489 (q := 2) rfl ?_
    refine lj_bipush (v := 105) C dL_law_491 (by decide) ?_
    refine lj_icmp_ne_t (tgt := 506) C dL_law_493 (by decide) (by decide) ?_
    refine lj_iload C dL_law_506 (q := 9) rfl ?_
    refine lj_istore C dL_law_508 (by decide) rfl ?_
    refine lj_iload C dL_law_510 (q := 1) rfl ?_
    refine lj_ldc C hG.1.1 lc_L_18 dL_law_512 ?_
    refine lj_icmp_ne_t (tgt := 521) C dL_law_514 (by decide) vn ?_
    refine lj_iconst (v := 0) C dL_law_521 (by decide) ?_
    refine lj_iload C dL_law_522 (q := 4) rfl ?_
    refine lj_if_ne_t (tgt := 531) C dL_law_524 (by decide) (by decide) ?_
    refine lj_iconst (v := 0) C dL_law_531 (by decide) ?_
    refine lj_icmp_ne_f (tgt := 559) C dL_law_532 (by decide) rfl ?_
    refine lj_iload C dL_law_535 (q := 3) rfl ?_
    refine lj_bipush (v := 105) C dL_law_537 (by decide) ?_
    refine lj_icmp_ne_t (tgt := 561) C dL_law_539 (by decide) (by decide) ?_
    refine lj_iload C dL_law_561 (q := 1) rfl ?_
    refine lj_ldc C hG.1.1 lc_L_18 dL_law_563 ?_
    refine lj_icmp_ne_t (tgt := 573) C dL_law_565 (by decide) vn ?_
    refine lj_iconst (v := 0) C dL_law_573 (by decide) ?_
    refine lj_istore C dL_law_574 (by decide) rfl ?_
    refine lj_goto (tgt := 907) C dL_law_576 (by decide) ?_
    refine lj_sub C [0, 6, 7, 9, 1, 10, 11, 12, 13, 14] rfl ?_
    refine lj_w ?_ ?_ (kt 0 pg be inn A2 μ2 h2 ⟨by rw [eS 15 (by decide) (by decide) (by decide) (by decide) (by decide)]; exact l15, e8.trans l8, fun q => by rw [eS 2 (by decide) (by decide) (by decide) (by decide) (by decide)]; exact l2 q, fun q => by rw [eV 1 (by decide), eV 2 (by decide)]; exact lr h0⟩ fun q => absurd q (by decide))
    · have : PC A2 = PC A := by unfold PC; rw [eS 0 (by decide) (by decide) (by decide) (by decide) (by decide), eS 1 (by decide) (by decide) (by decide) (by decide) (by decide), eS 14 (by decide) (by decide) (by decide) (by decide) (by decide)]
      omega
    · have : PS A2 = PS A := by unfold PS; rw [eS 0 (by decide) (by decide) (by decide) (by decide) (by decide), eS 1 (by decide) (by decide) (by decide) (by decide) (by decide), eS 14 (by decide) (by decide) (by decide) (by decide) (by decide)]
      omega
  · have ka : kSet A true = 2 := by unfold kSet; rw [if_neg (by decide), if_neg h0]
    rw [ka, if_neg (by decide)] at eA
    have eB := eA.symm
    subst eB
    rw [ka, exv_oc2]
    have ef : fi = false := by rw [hf]; exact decide_eq_false h0
    subst ef
    refine lj_istore C dL_law_487 (by decide) rfl ?_
    refine lj_iload C dL_law_489 (q := 2) rfl ?_
    refine lj_bipush (v := 105) C dL_law_491 (by decide) ?_
    refine lj_icmp_ne_t (tgt := 506) C dL_law_493 (by decide) (by decide) ?_
    refine lj_iload C dL_law_506 (q := 9) rfl ?_
    refine lj_istore C dL_law_508 (by decide) rfl ?_
    refine lj_iload C dL_law_510 (q := 1) rfl ?_
    refine lj_ldc C hG.1.1 lc_L_18 dL_law_512 ?_
    refine lj_icmp_ne_f (tgt := 521) C dL_law_514 (by decide) rfl ?_
    refine lj_iconst (v := 1) C dL_law_517 (by decide) ?_
    refine lj_goto (tgt := 522) C dL_law_518 (by decide) ?_
    refine lj_iload C dL_law_522 (q := 4) rfl ?_
    refine lj_if_ne_f (tgt := 531) C dL_law_524 (by decide) rfl ?_
    refine lj_iconst (v := 1) C dL_law_527 (by decide) ?_
    refine lj_goto (tgt := 532) C dL_law_528 (by decide) ?_
    refine lj_icmp_ne_f (tgt := 559) C dL_law_532 (by decide) rfl ?_
    refine lj_iload C dL_law_535 (q := 3) rfl ?_
    refine lj_bipush (v := 105) C dL_law_537 (by decide) ?_
    refine lj_icmp_ne_t (tgt := 561) C dL_law_539 (by decide) (by decide) ?_
    refine lj_iload C dL_law_561 (q := 1) rfl ?_
    refine lj_ldc C hG.1.1 lc_L_18 dL_law_563 ?_
    refine lj_icmp_ne_f (tgt := 573) C dL_law_565 (by decide) rfl ?_
    refine lj_iload C dL_law_568 (q := 1) rfl ?_
    refine lj_goto (tgt := 574) C dL_law_570 (by decide) ?_
    refine lj_istore C dL_law_574 (by decide) rfl ?_
    refine lj_goto (tgt := 907) C dL_law_576 (by decide) ?_
    refine lj_sub C [0, 6, 7, 9, 1, 10, 11, 12, 13, 14] rfl ?_
    exact lj_w (by omega) (by omega) (kt _ pg be inn A μ2 h2 ⟨l15, l8, l2, lr⟩ fun _ => rfl)
theorem law_c10 (C : CW G mL_law p R s m meth c) (hG : Gok3 l G) {kind w k inn steps pg : Nat} {bf : Int64} {wa be fi : Bool} (hw : w < 100000000) (hf : fi = decide (aS A 0 = 0)) (h : JC b z A μ) (la : LA pg be inn A) (kt : ∀ its pg2 be2 inn2 A2 μ2, JC b z A2 μ2 → LA pg2 be2 inn2 A2 → (its < -2000000000 → A2 = A) → LJ l G mL_law p e R s m args below meth c Q 907 (LT its bf wa b q0 k inn2 be2 steps pg2) [] μ2 (c1 + PC A2) (s1 + PS A2)) : LJ l G mL_law p e R s m args below meth c Q 371 (LMi fi kind bf wa w b q0 k inn be steps pg) [] μ (c1 + PC A + 10) (s1 + PS A + 200) := by
  obtain ⟨q2, ht⟩ := hG.2.1.2
  have b1 : w % 5 < 5 := Nat.mod_lt _ (by decide)
  have fin : LJ l G mL_law p e R s m args below meth c Q 382 ((15, .int (tx5.getD (w % 5) 0)) :: LMi fi kind bf wa w b q0 k inn be steps pg) [] μ (c1 + PC A + 10) (s1 + PS A + 200) := by
    have c5 : w % 5 = 0 ∨ w % 5 = 1 ∨ w % 5 = 2 ∨ w % 5 = 3 ∨ w % 5 = 4 := by omega
    rcases c5 with e | e | e | e | e <;> rw [e]
    · exact law_xd C hG hw hf h la kt
    · exact law_xb C hG hw hf h la kt
    · exact law_xq C hG hw hf h la kt
    · exact law_xi C hG hw hf h la kt
    · exact law_xh C hG hw hf h la kt
  unfold LMi at fin ⊢
  refine lj_ldcS C hG.2.1.1 rfl dL_law_371 ?_
  refine lj_iload C dL_law_373 (q := 5) rfl ?_
  refine lj_iconst (v := 5) C dL_law_375 (by decide) ?_
  refine lj_iremE (v := nI (w % 5)) C dL_law_376 (by decide) (nI_mod (b := 5) (by decide) (by omega) (by decide)) ?_
  refine lj_charAt (j := w % 5) C hG.1.1 rfl ⟨by decide, by decide⟩ ht (by decide) tx5_zc rfl b1 (Nat.le_of_ble_eq_true rfl) dL_law_377 ?_
  refine lj_istore C dL_law_380 (by decide) rfl ?_
  exact fin
end LAW6
