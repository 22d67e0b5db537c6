/-! the cases of the law, 22 to 31 -/
theorem dL_law_1420 : decode cL_law 1420 = .ok (.aload_n 1, 1) := by decide +kernel
theorem dL_law_1421 : decode cL_law 1421 = .ok (.aload_n 3, 1) := by decide +kernel
theorem dL_law_1422 : decode cL_law 1422 = .ok (.invokestatic 210, 3) := by decide +kernel
theorem dL_law_1425 : decode cL_law 1425 = .ok (.istore 6, 2) := by decide +kernel
theorem dL_law_1427 : decode cL_law 1427 = .ok (.aload_n 2, 1) := by decide +kernel
theorem dL_law_1428 : decode cL_law 1428 = .ok (.invokevirtual 213, 3) := by decide +kernel
theorem dL_law_1431 : decode cL_law 1431 = .ok (.istore 7, 2) := by decide +kernel
theorem dL_law_1433 : decode cL_law 1433 = .ok (.aload_n 2, 1) := by decide +kernel
theorem dL_law_1434 : decode cL_law 1434 = .ok (.invokevirtual 137, 3) := by decide +kernel
theorem dL_law_1437 : decode cL_law 1437 = .ok (.iload 6, 2) := by decide +kernel
theorem dL_law_1439 : decode cL_law 1439 = .ok (.if_icmp .eq 5, 3) := by decide +kernel
theorem dL_law_1444 : decode cL_law 1444 = .ok (.iload 6, 2) := by decide +kernel
theorem dL_law_1446 : decode cL_law 1446 = .ok (.ifCond .ne 15, 3) := by decide +kernel
theorem dL_law_1449 : decode cL_law 1449 = .ok (.aload_n 3, 1) := by decide +kernel
theorem dL_law_1450 : decode cL_law 1450 = .ok (.iconst 0, 1) := by decide +kernel
theorem dL_law_1451 : decode cL_law 1451 = .ok (.laload, 1) := by decide +kernel
theorem dL_law_1452 : decode cL_law 1452 = .ok (.iload 7, 2) := by decide +kernel
theorem dL_law_1454 : decode cL_law 1454 = .ok (.i2l, 1) := by decide +kernel
theorem dL_law_1455 : decode cL_law 1455 = .ok (.lcmp, 1) := by decide +kernel
theorem dL_law_1456 : decode cL_law 1456 = .ok (.ifCond .eq 5, 3) := by decide +kernel
theorem dL_law_1461 : decode cL_law 1461 = .ok (.goto 1039, 3) := by decide +kernel
/-! kept -/
set_option maxRecDepth 100000 in
theorem lc_22 {l : Launch} {G : Gt} {p : Program} {e : Env} {R : Room} {s : State} {m : MethodId} {args : Array Value} {below : List Frame} {meth : Method} {c : Code} {Q : State → Prop} (C : CW G mL_law p R s m meth c) (hG : Gok2 l G) {q0 n : Nat} {xs : Nat → Int32} (hX : va_X q0 n xs G.1 G.1.heap) (hq : q0 < G.1.heap.size) {b z i : Nat} {A : Sx} {μ : Mm} {c1 s1 : Nat} (hi : i + 6 ≤ n) (hn : n ≤ 3072) (h : JV b z A μ) (kk : ∀ A' μ', JV b z A' μ' → LJ l G mL_law p e R s m args below meth c Q 2500 (L0 b q0 i) [] μ' (c1 + PhC A') (s1 + PhS A')) : LJ l G mL_law p e R s m args below meth c Q 1420 (L0 b q0 i) [] μ (c1 + 4 + PhC A) (s1 + 220 + PhS A) := by
  refine lj_wf fun w => ?_
  obtain ⟨k, v, A', μ1, dc, ds, ec, es, kl, ef, p1, hc1, hs1, ai', pc, ps, hg⟩ := op_kept h w
  refine lj_aload_n C dL_law_1420 rfl (q := 4) rfl ?_
  refine lj_aload_n C dL_law_1421 rfl (q := 2) rfl ?_
  refine lj_callW (As := [.ref b, .ref (b + 84)]) (c2 := c1 + ec + PhC A') (s2 := s1 + es + PhS A') C hG.1 mw_kept csL_kept ⟨by decide, by decide⟩ rfl (wc_kept hG h.1.kb p1.2.2.2.1.1 p1.2.2.2.1.2.1 ef (fun E q => rOf_in kl q)) (Nat.le_of_ble_eq_true rfl) dL_law_1422 (by omega) (by omega) fun v9 μ2 wp => ?_
  obtain ⟨rfl, p2, hj⟩ := wp_out (by decide) kl p1 wp
  refine lj_istore C dL_law_1425 (by decide) rfl ?_
  refine lj_wf fun w2 => ?_
  obtain ⟨w9, μ3, eg, hw, e54, p3, ej, hc3, hs3⟩ := hg μ2 p2 w2 (p2.n86 w2)
  refine lj_aload_n C dL_law_1427 rfl (q := 4) rfl ?_
  refine lj_callV (As := []) (c2 := c1 + PhC A') (s2 := s1 + PhS A') C hG.1 mf_X11_kept cvM_kept p2.km ⟨by decide, by decide⟩ rfl rfl (Nat.le_of_ble_eq_true rfl) (s_X11_kept hG.1 _ _ _ _ eg) (Nat.le_of_ble_eq_true rfl) dL_law_1428 (by omega) (by omega) ?_
  refine lj_istore C dL_law_1431 (by decide) rfl ?_
  refine lj_aload_n C dL_law_1433 rfl (q := 5) rfl ?_
  refine lj_callV (As := []) (c2 := c1 + PhC A') (s2 := s1 + PhS A') C hG.1 mf_X11_thrown cvM_thrown p3.km ⟨by decide, by decide⟩ rfl rfl (Nat.le_of_ble_eq_true rfl) (s_X11_thrown hG.1 _ _ _ (m_thrown p3.km e54)) (Nat.le_of_ble_eq_true rfl) dL_law_1434 (Nat.le_refl _) (Nat.le_refl _) ?_
  refine lj_iload C dL_law_1437 (q := 1) rfl ?_
  refine lj_icmp_eq_t (tgt := 1444) C dL_law_1439 (by decide) rfl ?_
  refine lj_iload C dL_law_1444 (q := 1) rfl ?_
  by_cases hk : k = 0
  · refine lj_if_ne_f (tgt := 1461) C dL_law_1446 (by decide) (by rw [hk]; rfl) ?_
    refine lj_aload_n C dL_law_1449 rfl (q := 4) rfl ?_
    refine lj_iconst (v := 0) C dL_law_1450 (by decide) ?_
    refine lj_laload C hG.1 p3.2.2.2.1.1 (by decide) rfl (vin1 p3.2.2.2.1.2.1) dL_law_1451 ?_
    refine lj_iload C dL_law_1452 (q := 0) rfl ?_
    refine lj_i2l C dL_law_1454 ?_
    refine lj_lcmp C dL_law_1455 (by rw [z0c, ej, hj hk, hw hk]) ?_
    refine lj_if_eq_t (tgt := 1461) C dL_law_1456 (by decide) rfl ?_
    refine lj_goto (tgt := 2500) C dL_law_1461 (by decide) ?_
    exact lj_sub C [2, 3, 4, 5, 6, 7] rfl (kk A' μ3 ⟨p3, ai'⟩)
  · refine lj_if_ne_t (tgt := 1461) C dL_law_1446 (by decide) (nI_n0 (Nat.le_trans kl (by decide)) hk) ?_
    refine lj_goto (tgt := 2500) C dL_law_1461 (by decide) ?_
    exact lj_sub C [2, 3, 4, 5, 6, 7] rfl (kk A' μ3 ⟨p3, ai'⟩)
theorem dL_law_1464 : decode cL_law 1464 = .ok (.aload_n 1, 1) := by decide +kernel
theorem dL_law_1465 : decode cL_law 1465 = .ok (.aload_n 0, 1) := by decide +kernel
theorem dL_law_1466 : decode cL_law 1466 = .ok (.iload 5, 2) := by decide +kernel
theorem dL_law_1468 : decode cL_law 1468 = .ok (.iconst 1, 1) := by decide +kernel
theorem dL_law_1469 : decode cL_law 1469 = .ok (.iadd, 1) := by decide +kernel
theorem dL_law_1470 : decode cL_law 1470 = .ok (.iaload, 1) := by decide +kernel
theorem dL_law_1471 : decode cL_law 1471 = .ok (.aload_n 0, 1) := by decide +kernel
theorem dL_law_1472 : decode cL_law 1472 = .ok (.iload 5, 2) := by decide +kernel
theorem dL_law_1474 : decode cL_law 1474 = .ok (.iconst 2, 1) := by decide +kernel
theorem dL_law_1475 : decode cL_law 1475 = .ok (.iadd, 1) := by decide +kernel
theorem dL_law_1476 : decode cL_law 1476 = .ok (.iaload, 1) := by decide +kernel
theorem dL_law_1477 : decode cL_law 1477 = .ok (.aload_n 3, 1) := by decide +kernel
theorem dL_law_1478 : decode cL_law 1478 = .ok (.invokestatic 214, 3) := by decide +kernel
theorem dL_law_1481 : decode cL_law 1481 = .ok (.istore 6, 2) := by decide +kernel
theorem dL_law_1483 : decode cL_law 1483 = .ok (.aload_n 2, 1) := by decide +kernel
theorem dL_law_1484 : decode cL_law 1484 = .ok (.aload_n 0, 1) := by decide +kernel
theorem dL_law_1485 : decode cL_law 1485 = .ok (.iload 5, 2) := by decide +kernel
theorem dL_law_1487 : decode cL_law 1487 = .ok (.iconst 1, 1) := by decide +kernel
theorem dL_law_1488 : decode cL_law 1488 = .ok (.iadd, 1) := by decide +kernel
theorem dL_law_1489 : decode cL_law 1489 = .ok (.iaload, 1) := by decide +kernel
theorem dL_law_1490 : decode cL_law 1490 = .ok (.aload_n 0, 1) := by decide +kernel
theorem dL_law_1491 : decode cL_law 1491 = .ok (.iload 5, 2) := by decide +kernel
theorem dL_law_1493 : decode cL_law 1493 = .ok (.iconst 2, 1) := by decide +kernel
theorem dL_law_1494 : decode cL_law 1494 = .ok (.iadd, 1) := by decide +kernel
theorem dL_law_1495 : decode cL_law 1495 = .ok (.iaload, 1) := by decide +kernel
theorem dL_law_1496 : decode cL_law 1496 = .ok (.invokevirtual 216, 3) := by decide +kernel
theorem dL_law_1499 : decode cL_law 1499 = .ok (.istore 7, 2) := by decide +kernel
theorem dL_law_1501 : decode cL_law 1501 = .ok (.aload_n 2, 1) := by decide +kernel
theorem dL_law_1502 : decode cL_law 1502 = .ok (.invokevirtual 137, 3) := by decide +kernel
theorem dL_law_1505 : decode cL_law 1505 = .ok (.iload 6, 2) := by decide +kernel
theorem dL_law_1507 : decode cL_law 1507 = .ok (.if_icmp .eq 5, 3) := by decide +kernel
theorem dL_law_1512 : decode cL_law 1512 = .ok (.iload 6, 2) := by decide +kernel
theorem dL_law_1514 : decode cL_law 1514 = .ok (.ifCond .ne 15, 3) := by decide +kernel
theorem dL_law_1517 : decode cL_law 1517 = .ok (.aload_n 3, 1) := by decide +kernel
theorem dL_law_1518 : decode cL_law 1518 = .ok (.iconst 0, 1) := by decide +kernel
theorem dL_law_1519 : decode cL_law 1519 = .ok (.laload, 1) := by decide +kernel
theorem dL_law_1520 : decode cL_law 1520 = .ok (.iload 7, 2) := by decide +kernel
theorem dL_law_1522 : decode cL_law 1522 = .ok (.i2l, 1) := by decide +kernel
theorem dL_law_1523 : decode cL_law 1523 = .ok (.lcmp, 1) := by decide +kernel
theorem dL_law_1524 : decode cL_law 1524 = .ok (.ifCond .eq 5, 3) := by decide +kernel
theorem dL_law_1529 : decode cL_law 1529 = .ok (.goto 971, 3) := by decide +kernel
/-! life -/
set_option maxRecDepth 100000 in
theorem lc_23 {l : Launch} {G : Gt} {p : Program} {e : Env} {R : Room} {s : State} {m : MethodId} {args : Array Value} {below : List Frame} {meth : Method} {c : Code} {Q : State → Prop} (C : CW G mL_law p R s m meth c) (hG : Gok2 l G) {q0 n : Nat} {xs : Nat → Int32} (hX : va_X q0 n xs G.1 G.1.heap) (hq : q0 < G.1.heap.size) {b z i : Nat} {A : Sx} {μ : Mm} {c1 s1 : Nat} (hi : i + 6 ≤ n) (hn : n ≤ 3072) (h : JV b z A μ) (kk : ∀ A' μ', JV b z A' μ' → LJ l G mL_law p e R s m args below meth c Q 2500 (L0 b q0 i) [] μ' (c1 + PhC A') (s1 + PhS A')) : LJ l G mL_law p e R s m args below meth c Q 1464 (L0 b q0 i) [] μ (c1 + 4 + PhC A) (s1 + 220 + PhS A) := by
  refine lj_wf fun w => ?_
  obtain ⟨k, v, A', μ1, dc, ds, ec, es, kl, ef, p1, hc1, hs1, ai', pc, ps, hg⟩ := op_life (x1 := (xs (nI i + 1).toNatClampNeg)) (x2 := (xs (nI i + 2).toNatClampNeg)) h w
  refine lj_aload_n C dL_law_1464 rfl (q := 4) rfl ?_
  refine lj_aload_n C dL_law_1465 rfl (q := 5) rfl ?_
  refine lj_iload C dL_law_1466 (q := 0) rfl ?_
  refine lj_iconst (v := 1) C dL_law_1468 (by decide) ?_
  refine lj_iadd C dL_law_1469 ?_
  refine lj_sld C hX hq (sI_vin (j := 1) (by decide) (by decide) hi hn) dL_law_1470 ?_
  refine lj_aload_n C dL_law_1471 rfl (q := 5) rfl ?_
  refine lj_iload C dL_law_1472 (q := 0) rfl ?_
  refine lj_iconst (v := 2) C dL_law_1474 (by decide) ?_
  refine lj_iadd C dL_law_1475 ?_
  refine lj_sld C hX hq (sI_vin (j := 2) (by decide) (by decide) hi hn) dL_law_1476 ?_
  refine lj_aload_n C dL_law_1477 rfl (q := 2) rfl ?_
  refine lj_callW (As := [.ref b, .int (xs (nI i + 1).toNatClampNeg), .int (xs (nI i + 2).toNatClampNeg), .ref (b + 84)]) (c2 := c1 + ec + PhC A') (s2 := s1 + es + PhS A') C hG.1 mw_life csL_life ⟨by decide, by decide⟩ rfl (wc_life hG h.1.kb p1.2.2.2.1.1 p1.2.2.2.1.2.1 ef (fun E q => rOf_in kl q)) (Nat.le_of_ble_eq_true rfl) dL_law_1478 (by omega) (by omega) fun v9 μ2 wp => ?_
  obtain ⟨rfl, p2, hj⟩ := wp_out (by decide) kl p1 wp
  refine lj_istore C dL_law_1481 (by decide) rfl ?_
  refine lj_wf fun w2 => ?_
  obtain ⟨w9, μ3, eg, hw, e54, p3, ej, hc3, hs3⟩ := hg μ2 p2 w2 (p2.n86 w2)
  refine lj_aload_n C dL_law_1483 rfl (q := 4) rfl ?_
  refine lj_aload_n C dL_law_1484 rfl (q := 6) rfl ?_
  refine lj_iload C dL_law_1485 (q := 1) rfl ?_
  refine lj_iconst (v := 1) C dL_law_1487 (by decide) ?_
  refine lj_iadd C dL_law_1488 ?_
  refine lj_sld C hX hq (sI_vin (j := 1) (by decide) (by decide) hi hn) dL_law_1489 ?_
  refine lj_aload_n C dL_law_1490 rfl (q := 6) rfl ?_
  refine lj_iload C dL_law_1491 (q := 1) rfl ?_
  refine lj_iconst (v := 2) C dL_law_1493 (by decide) ?_
  refine lj_iadd C dL_law_1494 ?_
  refine lj_sld C hX hq (sI_vin (j := 2) (by decide) (by decide) hi hn) dL_law_1495 ?_
  refine lj_callV (As := [.int (xs (nI i + 1).toNatClampNeg), .int (xs (nI i + 2).toNatClampNeg)]) (c2 := c1 + PhC A') (s2 := s1 + PhS A') C hG.1 mf_X11_life cvM_life p2.km ⟨by decide, by decide⟩ rfl rfl (Nat.le_of_ble_eq_true rfl) (s_X11_life hG.1 _ _ _ _ _ _ eg) (Nat.le_of_ble_eq_true rfl) dL_law_1496 (by omega) (by omega) ?_
  refine lj_istore C dL_law_1499 (by decide) rfl ?_
  refine lj_aload_n C dL_law_1501 rfl (q := 5) rfl ?_
  refine lj_callV (As := []) (c2 := c1 + PhC A') (s2 := s1 + PhS A') C hG.1 mf_X11_thrown cvM_thrown p3.km ⟨by decide, by decide⟩ rfl rfl (Nat.le_of_ble_eq_true rfl) (s_X11_thrown hG.1 _ _ _ (m_thrown p3.km e54)) (Nat.le_of_ble_eq_true rfl) dL_law_1502 (Nat.le_refl _) (Nat.le_refl _) ?_
  refine lj_iload C dL_law_1505 (q := 1) rfl ?_
  refine lj_icmp_eq_t (tgt := 1512) C dL_law_1507 (by decide) rfl ?_
  refine lj_iload C dL_law_1512 (q := 1) rfl ?_
  by_cases hk : k = 0
  · refine lj_if_ne_f (tgt := 1529) C dL_law_1514 (by decide) (by rw [hk]; rfl) ?_
    refine lj_aload_n C dL_law_1517 rfl (q := 4) rfl ?_
    refine lj_iconst (v := 0) C dL_law_1518 (by decide) ?_
    refine lj_laload C hG.1 p3.2.2.2.1.1 (by decide) rfl (vin1 p3.2.2.2.1.2.1) dL_law_1519 ?_
    refine lj_iload C dL_law_1520 (q := 0) rfl ?_
    refine lj_i2l C dL_law_1522 ?_
    refine lj_lcmp C dL_law_1523 (by rw [z0c, ej, hj hk, hw hk]) ?_
    refine lj_if_eq_t (tgt := 1529) C dL_law_1524 (by decide) rfl ?_
    refine lj_goto (tgt := 2500) C dL_law_1529 (by decide) ?_
    exact lj_sub C [2, 3, 4, 5, 6, 7] rfl (kk A' μ3 ⟨p3, ai'⟩)
  · refine lj_if_ne_t (tgt := 1529) C dL_law_1514 (by decide) (nI_n0 (Nat.le_trans kl (by decide)) hk) ?_
    refine lj_goto (tgt := 2500) C dL_law_1529 (by decide) ?_
    exact lj_sub C [2, 3, 4, 5, 6, 7] rfl (kk A' μ3 ⟨p3, ai'⟩)
theorem dL_law_1532 : decode cL_law 1532 = .ok (.aload_n 1, 1) := by decide +kernel
theorem dL_law_1533 : decode cL_law 1533 = .ok (.aload_n 0, 1) := by decide +kernel
theorem dL_law_1534 : decode cL_law 1534 = .ok (.iload 5, 2) := by decide +kernel
theorem dL_law_1536 : decode cL_law 1536 = .ok (.iconst 1, 1) := by decide +kernel
theorem dL_law_1537 : decode cL_law 1537 = .ok (.iadd, 1) := by decide +kernel
theorem dL_law_1538 : decode cL_law 1538 = .ok (.iaload, 1) := by decide +kernel
theorem dL_law_1539 : decode cL_law 1539 = .ok (.aload_n 3, 1) := by decide +kernel
theorem dL_law_1540 : decode cL_law 1540 = .ok (.invokestatic 217, 3) := by decide +kernel
theorem dL_law_1543 : decode cL_law 1543 = .ok (.istore 6, 2) := by decide +kernel
theorem dL_law_1545 : decode cL_law 1545 = .ok (.aload_n 2, 1) := by decide +kernel
theorem dL_law_1546 : decode cL_law 1546 = .ok (.aload_n 0, 1) := by decide +kernel
theorem dL_law_1547 : decode cL_law 1547 = .ok (.iload 5, 2) := by decide +kernel
theorem dL_law_1549 : decode cL_law 1549 = .ok (.iconst 1, 1) := by decide +kernel
theorem dL_law_1550 : decode cL_law 1550 = .ok (.iadd, 1) := by decide +kernel
theorem dL_law_1551 : decode cL_law 1551 = .ok (.iaload, 1) := by decide +kernel
theorem dL_law_1552 : decode cL_law 1552 = .ok (.invokevirtual 219, 3) := by decide +kernel
theorem dL_law_1555 : decode cL_law 1555 = .ok (.istore 7, 2) := by decide +kernel
theorem dL_law_1557 : decode cL_law 1557 = .ok (.aload_n 2, 1) := by decide +kernel
theorem dL_law_1558 : decode cL_law 1558 = .ok (.invokevirtual 137, 3) := by decide +kernel
theorem dL_law_1561 : decode cL_law 1561 = .ok (.iload 6, 2) := by decide +kernel
theorem dL_law_1563 : decode cL_law 1563 = .ok (.if_icmp .eq 5, 3) := by decide +kernel
theorem dL_law_1568 : decode cL_law 1568 = .ok (.iload 6, 2) := by decide +kernel
theorem dL_law_1570 : decode cL_law 1570 = .ok (.ifCond .ne 15, 3) := by decide +kernel
theorem dL_law_1573 : decode cL_law 1573 = .ok (.aload_n 3, 1) := by decide +kernel
theorem dL_law_1574 : decode cL_law 1574 = .ok (.iconst 0, 1) := by decide +kernel
theorem dL_law_1575 : decode cL_law 1575 = .ok (.laload, 1) := by decide +kernel
theorem dL_law_1576 : decode cL_law 1576 = .ok (.iload 7, 2) := by decide +kernel
theorem dL_law_1578 : decode cL_law 1578 = .ok (.i2l, 1) := by decide +kernel
theorem dL_law_1579 : decode cL_law 1579 = .ok (.lcmp, 1) := by decide +kernel
theorem dL_law_1580 : decode cL_law 1580 = .ok (.ifCond .eq 5, 3) := by decide +kernel
theorem dL_law_1585 : decode cL_law 1585 = .ok (.goto 915, 3) := by decide +kernel
/-! inner -/
set_option maxRecDepth 100000 in
theorem lc_24 {l : Launch} {G : Gt} {p : Program} {e : Env} {R : Room} {s : State} {m : MethodId} {args : Array Value} {below : List Frame} {meth : Method} {c : Code} {Q : State → Prop} (C : CW G mL_law p R s m meth c) (hG : Gok2 l G) {q0 n : Nat} {xs : Nat → Int32} (hX : va_X q0 n xs G.1 G.1.heap) (hq : q0 < G.1.heap.size) {b z i : Nat} {A : Sx} {μ : Mm} {c1 s1 : Nat} (hi : i + 6 ≤ n) (hn : n ≤ 3072) (h : JV b z A μ) (kk : ∀ A' μ', JV b z A' μ' → LJ l G mL_law p e R s m args below meth c Q 2500 (L0 b q0 i) [] μ' (c1 + PhC A') (s1 + PhS A')) : LJ l G mL_law p e R s m args below meth c Q 1532 (L0 b q0 i) [] μ (c1 + 4 + PhC A) (s1 + 220 + PhS A) := by
  refine lj_wf fun w => ?_
  obtain ⟨k, v, A', μ1, dc, ds, ec, es, kl, ef, p1, hc1, hs1, ai', pc, ps, hg⟩ := op_inner (x1 := (xs (nI i + 1).toNatClampNeg)) h w
  refine lj_aload_n C dL_law_1532 rfl (q := 4) rfl ?_
  refine lj_aload_n C dL_law_1533 rfl (q := 5) rfl ?_
  refine lj_iload C dL_law_1534 (q := 0) rfl ?_
  refine lj_iconst (v := 1) C dL_law_1536 (by decide) ?_
  refine lj_iadd C dL_law_1537 ?_
  refine lj_sld C hX hq (sI_vin (j := 1) (by decide) (by decide) hi hn) dL_law_1538 ?_
  refine lj_aload_n C dL_law_1539 rfl (q := 2) rfl ?_
  refine lj_callW (As := [.ref b, .int (xs (nI i + 1).toNatClampNeg), .ref (b + 84)]) (c2 := c1 + ec + PhC A') (s2 := s1 + es + PhS A') C hG.1 mw_inner csL_inner ⟨by decide, by decide⟩ rfl (wc_inner hG h.1.kb p1.2.2.2.1.1 p1.2.2.2.1.2.1 ef (fun E q => rOf_in kl q)) (Nat.le_of_ble_eq_true rfl) dL_law_1540 (by omega) (by omega) fun v9 μ2 wp => ?_
  obtain ⟨rfl, p2, hj⟩ := wp_out (by decide) kl p1 wp
  refine lj_istore C dL_law_1543 (by decide) rfl ?_
  refine lj_wf fun w2 => ?_
  obtain ⟨w9, μ3, eg, hw, e54, p3, ej, hc3, hs3⟩ := hg μ2 p2 w2 (p2.n86 w2)
  refine lj_aload_n C dL_law_1545 rfl (q := 4) rfl ?_
  refine lj_aload_n C dL_law_1546 rfl (q := 6) rfl ?_
  refine lj_iload C dL_law_1547 (q := 1) rfl ?_
  refine lj_iconst (v := 1) C dL_law_1549 (by decide) ?_
  refine lj_iadd C dL_law_1550 ?_
  refine lj_sld C hX hq (sI_vin (j := 1) (by decide) (by decide) hi hn) dL_law_1551 ?_
  refine lj_callV (As := [.int (xs (nI i + 1).toNatClampNeg)]) (c2 := c1 + PhC A') (s2 := s1 + PhS A') C hG.1 mf_X11_inner cvM_inner p2.km ⟨by decide, by decide⟩ rfl rfl (Nat.le_of_ble_eq_true rfl) (s_X11_inner hG.1 _ _ _ _ _ eg) (Nat.le_of_ble_eq_true rfl) dL_law_1552 (by omega) (by omega) ?_
  refine lj_istore C dL_law_1555 (by decide) rfl ?_
  refine lj_aload_n C dL_law_1557 rfl (q := 5) rfl ?_
  refine lj_callV (As := []) (c2 := c1 + PhC A') (s2 := s1 + PhS A') C hG.1 mf_X11_thrown cvM_thrown p3.km ⟨by decide, by decide⟩ rfl rfl (Nat.le_of_ble_eq_true rfl) (s_X11_thrown hG.1 _ _ _ (m_thrown p3.km e54)) (Nat.le_of_ble_eq_true rfl) dL_law_1558 (Nat.le_refl _) (Nat.le_refl _) ?_
  refine lj_iload C dL_law_1561 (q := 1) rfl ?_
  refine lj_icmp_eq_t (tgt := 1568) C dL_law_1563 (by decide) rfl ?_
  refine lj_iload C dL_law_1568 (q := 1) rfl ?_
  by_cases hk : k = 0
  · refine lj_if_ne_f (tgt := 1585) C dL_law_1570 (by decide) (by rw [hk]; rfl) ?_
    refine lj_aload_n C dL_law_1573 rfl (q := 4) rfl ?_
    refine lj_iconst (v := 0) C dL_law_1574 (by decide) ?_
    refine lj_laload C hG.1 p3.2.2.2.1.1 (by decide) rfl (vin1 p3.2.2.2.1.2.1) dL_law_1575 ?_
    refine lj_iload C dL_law_1576 (q := 0) rfl ?_
    refine lj_i2l C dL_law_1578 ?_
    refine lj_lcmp C dL_law_1579 (by rw [z0c, ej, hj hk, hw hk]) ?_
    refine lj_if_eq_t (tgt := 1585) C dL_law_1580 (by decide) rfl ?_
    refine lj_goto (tgt := 2500) C dL_law_1585 (by decide) ?_
    exact lj_sub C [2, 3, 4, 5, 6, 7] rfl (kk A' μ3 ⟨p3, ai'⟩)
  · refine lj_if_ne_t (tgt := 1585) C dL_law_1570 (by decide) (nI_n0 (Nat.le_trans kl (by decide)) hk) ?_
    refine lj_goto (tgt := 2500) C dL_law_1585 (by decide) ?_
    exact lj_sub C [2, 3, 4, 5, 6, 7] rfl (kk A' μ3 ⟨p3, ai'⟩)
theorem dL_law_1588 : decode cL_law 1588 = .ok (.aload_n 1, 1) := by decide +kernel
theorem dL_law_1589 : decode cL_law 1589 = .ok (.aload_n 0, 1) := by decide +kernel
theorem dL_law_1590 : decode cL_law 1590 = .ok (.iload 5, 2) := by decide +kernel
theorem dL_law_1592 : decode cL_law 1592 = .ok (.iconst 1, 1) := by decide +kernel
theorem dL_law_1593 : decode cL_law 1593 = .ok (.iadd, 1) := by decide +kernel
theorem dL_law_1594 : decode cL_law 1594 = .ok (.iaload, 1) := by decide +kernel
theorem dL_law_1595 : decode cL_law 1595 = .ok (.aload_n 3, 1) := by decide +kernel
theorem dL_law_1596 : decode cL_law 1596 = .ok (.invokestatic 220, 3) := by decide +kernel
theorem dL_law_1599 : decode cL_law 1599 = .ok (.istore 6, 2) := by decide +kernel
theorem dL_law_1601 : decode cL_law 1601 = .ok (.aload_n 2, 1) := by decide +kernel
theorem dL_law_1602 : decode cL_law 1602 = .ok (.aload_n 0, 1) := by decide +kernel
theorem dL_law_1603 : decode cL_law 1603 = .ok (.iload 5, 2) := by decide +kernel
theorem dL_law_1605 : decode cL_law 1605 = .ok (.iconst 1, 1) := by decide +kernel
theorem dL_law_1606 : decode cL_law 1606 = .ok (.iadd, 1) := by decide +kernel
theorem dL_law_1607 : decode cL_law 1607 = .ok (.iaload, 1) := by decide +kernel
theorem dL_law_1608 : decode cL_law 1608 = .ok (.invokevirtual 222, 3) := by decide +kernel
theorem dL_law_1611 : decode cL_law 1611 = .ok (.istore 7, 2) := by decide +kernel
theorem dL_law_1613 : decode cL_law 1613 = .ok (.aload_n 2, 1) := by decide +kernel
theorem dL_law_1614 : decode cL_law 1614 = .ok (.invokevirtual 137, 3) := by decide +kernel
theorem dL_law_1617 : decode cL_law 1617 = .ok (.iload 6, 2) := by decide +kernel
theorem dL_law_1619 : decode cL_law 1619 = .ok (.if_icmp .eq 5, 3) := by decide +kernel
theorem dL_law_1624 : decode cL_law 1624 = .ok (.iload 6, 2) := by decide +kernel
theorem dL_law_1626 : decode cL_law 1626 = .ok (.ifCond .ne 15, 3) := by decide +kernel
theorem dL_law_1629 : decode cL_law 1629 = .ok (.aload_n 3, 1) := by decide +kernel
theorem dL_law_1630 : decode cL_law 1630 = .ok (.iconst 0, 1) := by decide +kernel
theorem dL_law_1631 : decode cL_law 1631 = .ok (.laload, 1) := by decide +kernel
theorem dL_law_1632 : decode cL_law 1632 = .ok (.iload 7, 2) := by decide +kernel
theorem dL_law_1634 : decode cL_law 1634 = .ok (.i2l, 1) := by decide +kernel
theorem dL_law_1635 : decode cL_law 1635 = .ok (.lcmp, 1) := by decide +kernel
theorem dL_law_1636 : decode cL_law 1636 = .ok (.ifCond .eq 5, 3) := by decide +kernel
theorem dL_law_1641 : decode cL_law 1641 = .ok (.goto 859, 3) := by decide +kernel
/-! innerAnew -/
set_option maxRecDepth 100000 in
theorem lc_25 {l : Launch} {G : Gt} {p : Program} {e : Env} {R : Room} {s : State} {m : MethodId} {args : Array Value} {below : List Frame} {meth : Method} {c : Code} {Q : State → Prop} (C : CW G mL_law p R s m meth c) (hG : Gok2 l G) {q0 n : Nat} {xs : Nat → Int32} (hX : va_X q0 n xs G.1 G.1.heap) (hq : q0 < G.1.heap.size) {b z i : Nat} {A : Sx} {μ : Mm} {c1 s1 : Nat} (hi : i + 6 ≤ n) (hn : n ≤ 3072) (h : JV b z A μ) (kk : ∀ A' μ', JV b z A' μ' → LJ l G mL_law p e R s m args below meth c Q 2500 (L0 b q0 i) [] μ' (c1 + PhC A') (s1 + PhS A')) : LJ l G mL_law p e R s m args below meth c Q 1588 (L0 b q0 i) [] μ (c1 + 4 + PhC A) (s1 + 220 + PhS A) := by
  refine lj_wf fun w => ?_
  obtain ⟨k, v, A', μ1, dc, ds, ec, es, kl, ef, p1, hc1, hs1, ai', pc, ps, hg⟩ := op_innerAnew (x1 := (xs (nI i + 1).toNatClampNeg)) h w
  refine lj_aload_n C dL_law_1588 rfl (q := 4) rfl ?_
  refine lj_aload_n C dL_law_1589 rfl (q := 5) rfl ?_
  refine lj_iload C dL_law_1590 (q := 0) rfl ?_
  refine lj_iconst (v := 1) C dL_law_1592 (by decide) ?_
  refine lj_iadd C dL_law_1593 ?_
  refine lj_sld C hX hq (sI_vin (j := 1) (by decide) (by decide) hi hn) dL_law_1594 ?_
  refine lj_aload_n C dL_law_1595 rfl (q := 2) rfl ?_
  refine lj_callW (As := [.ref b, .int (xs (nI i + 1).toNatClampNeg), .ref (b + 84)]) (c2 := c1 + ec + PhC A') (s2 := s1 + es + PhS A') C hG.1 mw_innerAnew csL_innerAnew ⟨by decide, by decide⟩ rfl (wc_innerAnew hG h.1.kb p1.2.2.2.1.1 p1.2.2.2.1.2.1 ef (fun E q => rOf_in kl q)) (Nat.le_of_ble_eq_true rfl) dL_law_1596 (by omega) (by omega) fun v9 μ2 wp => ?_
  obtain ⟨rfl, p2, hj⟩ := wp_out (by decide) kl p1 wp
  refine lj_istore C dL_law_1599 (by decide) rfl ?_
  refine lj_wf fun w2 => ?_
  obtain ⟨w9, μ3, eg, hw, e54, p3, ej, hc3, hs3⟩ := hg μ2 p2 w2 (p2.n86 w2)
  refine lj_aload_n C dL_law_1601 rfl (q := 4) rfl ?_
  refine lj_aload_n C dL_law_1602 rfl (q := 6) rfl ?_
  refine lj_iload C dL_law_1603 (q := 1) rfl ?_
  refine lj_iconst (v := 1) C dL_law_1605 (by decide) ?_
  refine lj_iadd C dL_law_1606 ?_
  refine lj_sld C hX hq (sI_vin (j := 1) (by decide) (by decide) hi hn) dL_law_1607 ?_
  refine lj_callV (As := [.int (xs (nI i + 1).toNatClampNeg)]) (c2 := c1 + PhC A') (s2 := s1 + PhS A') C hG.1 mf_X11_innerAnew cvM_innerAnew p2.km ⟨by decide, by decide⟩ rfl rfl (Nat.le_of_ble_eq_true rfl) (s_X11_innerAnew hG.1 _ _ _ _ _ eg) (Nat.le_of_ble_eq_true rfl) dL_law_1608 (by omega) (by omega) ?_
  refine lj_istore C dL_law_1611 (by decide) rfl ?_
  refine lj_aload_n C dL_law_1613 rfl (q := 5) rfl ?_
  refine lj_callV (As := []) (c2 := c1 + PhC A') (s2 := s1 + PhS A') C hG.1 mf_X11_thrown cvM_thrown p3.km ⟨by decide, by decide⟩ rfl rfl (Nat.le_of_ble_eq_true rfl) (s_X11_thrown hG.1 _ _ _ (m_thrown p3.km e54)) (Nat.le_of_ble_eq_true rfl) dL_law_1614 (Nat.le_refl _) (Nat.le_refl _) ?_
  refine lj_iload C dL_law_1617 (q := 1) rfl ?_
  refine lj_icmp_eq_t (tgt := 1624) C dL_law_1619 (by decide) rfl ?_
  refine lj_iload C dL_law_1624 (q := 1) rfl ?_
  by_cases hk : k = 0
  · refine lj_if_ne_f (tgt := 1641) C dL_law_1626 (by decide) (by rw [hk]; rfl) ?_
    refine lj_aload_n C dL_law_1629 rfl (q := 4) rfl ?_
    refine lj_iconst (v := 0) C dL_law_1630 (by decide) ?_
    refine lj_laload C hG.1 p3.2.2.2.1.1 (by decide) rfl (vin1 p3.2.2.2.1.2.1) dL_law_1631 ?_
    refine lj_iload C dL_law_1632 (q := 0) rfl ?_
    refine lj_i2l C dL_law_1634 ?_
    refine lj_lcmp C dL_law_1635 (by rw [z0c, ej, hj hk, hw hk]) ?_
    refine lj_if_eq_t (tgt := 1641) C dL_law_1636 (by decide) rfl ?_
    refine lj_goto (tgt := 2500) C dL_law_1641 (by decide) ?_
    exact lj_sub C [2, 3, 4, 5, 6, 7] rfl (kk A' μ3 ⟨p3, ai'⟩)
  · refine lj_if_ne_t (tgt := 1641) C dL_law_1626 (by decide) (nI_n0 (Nat.le_trans kl (by decide)) hk) ?_
    refine lj_goto (tgt := 2500) C dL_law_1641 (by decide) ?_
    exact lj_sub C [2, 3, 4, 5, 6, 7] rfl (kk A' μ3 ⟨p3, ai'⟩)
theorem dL_law_1644 : decode cL_law 1644 = .ok (.aload_n 1, 1) := by decide +kernel
theorem dL_law_1645 : decode cL_law 1645 = .ok (.aload_n 0, 1) := by decide +kernel
theorem dL_law_1646 : decode cL_law 1646 = .ok (.iload 5, 2) := by decide +kernel
theorem dL_law_1648 : decode cL_law 1648 = .ok (.iconst 1, 1) := by decide +kernel
theorem dL_law_1649 : decode cL_law 1649 = .ok (.iadd, 1) := by decide +kernel
theorem dL_law_1650 : decode cL_law 1650 = .ok (.iaload, 1) := by decide +kernel
theorem dL_law_1651 : decode cL_law 1651 = .ok (.aload_n 3, 1) := by decide +kernel
theorem dL_law_1652 : decode cL_law 1652 = .ok (.invokestatic 223, 3) := by decide +kernel
theorem dL_law_1655 : decode cL_law 1655 = .ok (.istore 6, 2) := by decide +kernel
theorem dL_law_1657 : decode cL_law 1657 = .ok (.aload_n 2, 1) := by decide +kernel
theorem dL_law_1658 : decode cL_law 1658 = .ok (.aload_n 0, 1) := by decide +kernel
theorem dL_law_1659 : decode cL_law 1659 = .ok (.iload 5, 2) := by decide +kernel
theorem dL_law_1661 : decode cL_law 1661 = .ok (.iconst 1, 1) := by decide +kernel
theorem dL_law_1662 : decode cL_law 1662 = .ok (.iadd, 1) := by decide +kernel
theorem dL_law_1663 : decode cL_law 1663 = .ok (.iaload, 1) := by decide +kernel
theorem dL_law_1664 : decode cL_law 1664 = .ok (.invokevirtual 225, 3) := by decide +kernel
theorem dL_law_1667 : decode cL_law 1667 = .ok (.istore 7, 2) := by decide +kernel
theorem dL_law_1669 : decode cL_law 1669 = .ok (.aload_n 2, 1) := by decide +kernel
theorem dL_law_1670 : decode cL_law 1670 = .ok (.invokevirtual 137, 3) := by decide +kernel
theorem dL_law_1673 : decode cL_law 1673 = .ok (.iload 6, 2) := by decide +kernel
theorem dL_law_1675 : decode cL_law 1675 = .ok (.if_icmp .eq 5, 3) := by decide +kernel
theorem dL_law_1680 : decode cL_law 1680 = .ok (.iload 6, 2) := by decide +kernel
theorem dL_law_1682 : decode cL_law 1682 = .ok (.ifCond .ne 15, 3) := by decide +kernel
theorem dL_law_1685 : decode cL_law 1685 = .ok (.aload_n 3, 1) := by decide +kernel
theorem dL_law_1686 : decode cL_law 1686 = .ok (.iconst 0, 1) := by decide +kernel
theorem dL_law_1687 : decode cL_law 1687 = .ok (.laload, 1) := by decide +kernel
theorem dL_law_1688 : decode cL_law 1688 = .ok (.iload 7, 2) := by decide +kernel
theorem dL_law_1690 : decode cL_law 1690 = .ok (.i2l, 1) := by decide +kernel
theorem dL_law_1691 : decode cL_law 1691 = .ok (.lcmp, 1) := by decide +kernel
theorem dL_law_1692 : decode cL_law 1692 = .ok (.ifCond .eq 5, 3) := by decide +kernel
theorem dL_law_1697 : decode cL_law 1697 = .ok (.goto 803, 3) := by decide +kernel
/-! stateOf -/
set_option maxRecDepth 100000 in
theorem lc_26 {l : Launch} {G : Gt} {p : Program} {e : Env} {R : Room} {s : State} {m : MethodId} {args : Array Value} {below : List Frame} {meth : Method} {c : Code} {Q : State → Prop} (C : CW G mL_law p R s m meth c) (hG : Gok2 l G) {q0 n : Nat} {xs : Nat → Int32} (hX : va_X q0 n xs G.1 G.1.heap) (hq : q0 < G.1.heap.size) {b z i : Nat} {A : Sx} {μ : Mm} {c1 s1 : Nat} (hi : i + 6 ≤ n) (hn : n ≤ 3072) (h : JV b z A μ) (kk : ∀ A' μ', JV b z A' μ' → LJ l G mL_law p e R s m args below meth c Q 2500 (L0 b q0 i) [] μ' (c1 + PhC A') (s1 + PhS A')) : LJ l G mL_law p e R s m args below meth c Q 1644 (L0 b q0 i) [] μ (c1 + 4 + PhC A) (s1 + 220 + PhS A) := by
  refine lj_wf fun w => ?_
  obtain ⟨k, v, A', μ1, dc, ds, ec, es, kl, ef, p1, hc1, hs1, ai', pc, ps, hg⟩ := op_stateOf (x1 := (xs (nI i + 1).toNatClampNeg)) h w
  refine lj_aload_n C dL_law_1644 rfl (q := 4) rfl ?_
  refine lj_aload_n C dL_law_1645 rfl (q := 5) rfl ?_
  refine lj_iload C dL_law_1646 (q := 0) rfl ?_
  refine lj_iconst (v := 1) C dL_law_1648 (by decide) ?_
  refine lj_iadd C dL_law_1649 ?_
  refine lj_sld C hX hq (sI_vin (j := 1) (by decide) (by decide) hi hn) dL_law_1650 ?_
  refine lj_aload_n C dL_law_1651 rfl (q := 2) rfl ?_
  refine lj_callW (As := [.ref b, .int (xs (nI i + 1).toNatClampNeg), .ref (b + 84)]) (c2 := c1 + ec + PhC A') (s2 := s1 + es + PhS A') C hG.1 mw_stateOf csL_stateOf ⟨by decide, by decide⟩ rfl (wc_stateOf hG h.1.kb p1.2.2.2.1.1 p1.2.2.2.1.2.1 ef (fun E q => rOf_in kl q)) (Nat.le_of_ble_eq_true rfl) dL_law_1652 (by omega) (by omega) fun v9 μ2 wp => ?_
  obtain ⟨rfl, p2, hj⟩ := wp_out (by decide) kl p1 wp
  refine lj_istore C dL_law_1655 (by decide) rfl ?_
  refine lj_wf fun w2 => ?_
  obtain ⟨w9, μ3, eg, hw, e54, p3, ej, hc3, hs3⟩ := hg μ2 p2 w2 (p2.n86 w2)
  refine lj_aload_n C dL_law_1657 rfl (q := 4) rfl ?_
  refine lj_aload_n C dL_law_1658 rfl (q := 6) rfl ?_
  refine lj_iload C dL_law_1659 (q := 1) rfl ?_
  refine lj_iconst (v := 1) C dL_law_1661 (by decide) ?_
  refine lj_iadd C dL_law_1662 ?_
  refine lj_sld C hX hq (sI_vin (j := 1) (by decide) (by decide) hi hn) dL_law_1663 ?_
  refine lj_callV (As := [.int (xs (nI i + 1).toNatClampNeg)]) (c2 := c1 + PhC A') (s2 := s1 + PhS A') C hG.1 mf_X11_stateOf cvM_stateOf p2.km ⟨by decide, by decide⟩ rfl rfl (Nat.le_of_ble_eq_true rfl) (s_X11_stateOf hG.1 _ _ _ _ _ eg) (Nat.le_of_ble_eq_true rfl) dL_law_1664 (by omega) (by omega) ?_
  refine lj_istore C dL_law_1667 (by decide) rfl ?_
  refine lj_aload_n C dL_law_1669 rfl (q := 5) rfl ?_
  refine lj_callV (As := []) (c2 := c1 + PhC A') (s2 := s1 + PhS A') C hG.1 mf_X11_thrown cvM_thrown p3.km ⟨by decide, by decide⟩ rfl rfl (Nat.le_of_ble_eq_true rfl) (s_X11_thrown hG.1 _ _ _ (m_thrown p3.km e54)) (Nat.le_of_ble_eq_true rfl) dL_law_1670 (Nat.le_refl _) (Nat.le_refl _) ?_
  refine lj_iload C dL_law_1673 (q := 1) rfl ?_
  refine lj_icmp_eq_t (tgt := 1680) C dL_law_1675 (by decide) rfl ?_
  refine lj_iload C dL_law_1680 (q := 1) rfl ?_
  by_cases hk : k = 0
  · refine lj_if_ne_f (tgt := 1697) C dL_law_1682 (by decide) (by rw [hk]; rfl) ?_
    refine lj_aload_n C dL_law_1685 rfl (q := 4) rfl ?_
    refine lj_iconst (v := 0) C dL_law_1686 (by decide) ?_
    refine lj_laload C hG.1 p3.2.2.2.1.1 (by decide) rfl (vin1 p3.2.2.2.1.2.1) dL_law_1687 ?_
    refine lj_iload C dL_law_1688 (q := 0) rfl ?_
    refine lj_i2l C dL_law_1690 ?_
    refine lj_lcmp C dL_law_1691 (by rw [z0c, ej, hj hk, hw hk]) ?_
    refine lj_if_eq_t (tgt := 1697) C dL_law_1692 (by decide) rfl ?_
    refine lj_goto (tgt := 2500) C dL_law_1697 (by decide) ?_
    exact lj_sub C [2, 3, 4, 5, 6, 7] rfl (kk A' μ3 ⟨p3, ai'⟩)
  · refine lj_if_ne_t (tgt := 1697) C dL_law_1682 (by decide) (nI_n0 (Nat.le_trans kl (by decide)) hk) ?_
    refine lj_goto (tgt := 2500) C dL_law_1697 (by decide) ?_
    exact lj_sub C [2, 3, 4, 5, 6, 7] rfl (kk A' μ3 ⟨p3, ai'⟩)
theorem dL_law_1700 : decode cL_law 1700 = .ok (.aload_n 1, 1) := by decide +kernel
theorem dL_law_1701 : decode cL_law 1701 = .ok (.aload_n 0, 1) := by decide +kernel
theorem dL_law_1702 : decode cL_law 1702 = .ok (.iload 5, 2) := by decide +kernel
theorem dL_law_1704 : decode cL_law 1704 = .ok (.iconst 1, 1) := by decide +kernel
theorem dL_law_1705 : decode cL_law 1705 = .ok (.iadd, 1) := by decide +kernel
theorem dL_law_1706 : decode cL_law 1706 = .ok (.iaload, 1) := by decide +kernel
theorem dL_law_1707 : decode cL_law 1707 = .ok (.aload_n 3, 1) := by decide +kernel
theorem dL_law_1708 : decode cL_law 1708 = .ok (.invokestatic 226, 3) := by decide +kernel
theorem dL_law_1711 : decode cL_law 1711 = .ok (.istore 6, 2) := by decide +kernel
theorem dL_law_1713 : decode cL_law 1713 = .ok (.aload_n 2, 1) := by decide +kernel
theorem dL_law_1714 : decode cL_law 1714 = .ok (.aload_n 0, 1) := by decide +kernel
theorem dL_law_1715 : decode cL_law 1715 = .ok (.iload 5, 2) := by decide +kernel
theorem dL_law_1717 : decode cL_law 1717 = .ok (.iconst 1, 1) := by decide +kernel
theorem dL_law_1718 : decode cL_law 1718 = .ok (.iadd, 1) := by decide +kernel
theorem dL_law_1719 : decode cL_law 1719 = .ok (.iaload, 1) := by decide +kernel
theorem dL_law_1720 : decode cL_law 1720 = .ok (.invokevirtual 228, 3) := by decide +kernel
theorem dL_law_1723 : decode cL_law 1723 = .ok (.istore 7, 2) := by decide +kernel
theorem dL_law_1725 : decode cL_law 1725 = .ok (.aload_n 2, 1) := by decide +kernel
theorem dL_law_1726 : decode cL_law 1726 = .ok (.invokevirtual 137, 3) := by decide +kernel
theorem dL_law_1729 : decode cL_law 1729 = .ok (.iload 6, 2) := by decide +kernel
theorem dL_law_1731 : decode cL_law 1731 = .ok (.if_icmp .eq 5, 3) := by decide +kernel
theorem dL_law_1736 : decode cL_law 1736 = .ok (.iload 6, 2) := by decide +kernel
theorem dL_law_1738 : decode cL_law 1738 = .ok (.ifCond .ne 22, 3) := by decide +kernel
theorem dL_law_1741 : decode cL_law 1741 = .ok (.aload_n 3, 1) := by decide +kernel
theorem dL_law_1742 : decode cL_law 1742 = .ok (.iconst 0, 1) := by decide +kernel
theorem dL_law_1743 : decode cL_law 1743 = .ok (.laload, 1) := by decide +kernel
theorem dL_law_1744 : decode cL_law 1744 = .ok (.iload 7, 2) := by decide +kernel
theorem dL_law_1746 : decode cL_law 1746 = .ok (.ifCond .eq 7, 3) := by decide +kernel
theorem dL_law_1749 : decode cL_law 1749 = .ok (.lconst 1, 1) := by decide +kernel
theorem dL_law_1750 : decode cL_law 1750 = .ok (.goto 4, 3) := by decide +kernel
theorem dL_law_1753 : decode cL_law 1753 = .ok (.lconst 0, 1) := by decide +kernel
theorem dL_law_1754 : decode cL_law 1754 = .ok (.lcmp, 1) := by decide +kernel
theorem dL_law_1755 : decode cL_law 1755 = .ok (.ifCond .eq 5, 3) := by decide +kernel
theorem dL_law_1760 : decode cL_law 1760 = .ok (.goto 740, 3) := by decide +kernel
/-! isReady -/
set_option maxRecDepth 100000 in
theorem lc_27 {l : Launch} {G : Gt} {p : Program} {e : Env} {R : Room} {s : State} {m : MethodId} {args : Array Value} {below : List Frame} {meth : Method} {c : Code} {Q : State → Prop} (C : CW G mL_law p R s m meth c) (hG : Gok2 l G) {q0 n : Nat} {xs : Nat → Int32} (hX : va_X q0 n xs G.1 G.1.heap) (hq : q0 < G.1.heap.size) {b z i : Nat} {A : Sx} {μ : Mm} {c1 s1 : Nat} (hi : i + 6 ≤ n) (hn : n ≤ 3072) (h : JV b z A μ) (kk : ∀ A' μ', JV b z A' μ' → LJ l G mL_law p e R s m args below meth c Q 2500 (L0 b q0 i) [] μ' (c1 + PhC A') (s1 + PhS A')) : LJ l G mL_law p e R s m args below meth c Q 1700 (L0 b q0 i) [] μ (c1 + 4 + PhC A) (s1 + 220 + PhS A) := by
  refine lj_wf fun w => ?_
  obtain ⟨k, v, A', μ1, dc, ds, ec, es, kl, ef, p1, hc1, hs1, ai', pc, ps, hg⟩ := op_isReady (x1 := (xs (nI i + 1).toNatClampNeg)) h w
  refine lj_aload_n C dL_law_1700 rfl (q := 4) rfl ?_
  refine lj_aload_n C dL_law_1701 rfl (q := 5) rfl ?_
  refine lj_iload C dL_law_1702 (q := 0) rfl ?_
  refine lj_iconst (v := 1) C dL_law_1704 (by decide) ?_
  refine lj_iadd C dL_law_1705 ?_
  refine lj_sld C hX hq (sI_vin (j := 1) (by decide) (by decide) hi hn) dL_law_1706 ?_
  refine lj_aload_n C dL_law_1707 rfl (q := 2) rfl ?_
  refine lj_callW (As := [.ref b, .int (xs (nI i + 1).toNatClampNeg), .ref (b + 84)]) (c2 := c1 + ec + PhC A') (s2 := s1 + es + PhS A') C hG.1 mw_isReady csL_isReady ⟨by decide, by decide⟩ rfl (wc_isReady hG h.1.kb p1.2.2.2.1.1 p1.2.2.2.1.2.1 ef (fun E q => rOf_in kl q)) (Nat.le_of_ble_eq_true rfl) dL_law_1708 (by omega) (by omega) fun v9 μ2 wp => ?_
  obtain ⟨rfl, p2, hj⟩ := wp_out (by decide) kl p1 wp
  refine lj_istore C dL_law_1711 (by decide) rfl ?_
  refine lj_wf fun w2 => ?_
  obtain ⟨w9, μ3, eg, hw, e54, p3, ej, hc3, hs3⟩ := hg μ2 p2 w2 (p2.n86 w2)
  refine lj_aload_n C dL_law_1713 rfl (q := 4) rfl ?_
  refine lj_aload_n C dL_law_1714 rfl (q := 6) rfl ?_
  refine lj_iload C dL_law_1715 (q := 1) rfl ?_
  refine lj_iconst (v := 1) C dL_law_1717 (by decide) ?_
  refine lj_iadd C dL_law_1718 ?_
  refine lj_sld C hX hq (sI_vin (j := 1) (by decide) (by decide) hi hn) dL_law_1719 ?_
  refine lj_callV (As := [.int (xs (nI i + 1).toNatClampNeg)]) (c2 := c1 + PhC A') (s2 := s1 + PhS A') C hG.1 mf_X11_isReady cvM_isReady p2.km ⟨by decide, by decide⟩ rfl rfl (Nat.le_of_ble_eq_true rfl) (s_X11_isReady hG.1 _ _ _ _ _ eg) (Nat.le_of_ble_eq_true rfl) dL_law_1720 (by omega) (by omega) ?_
  refine lj_istore C dL_law_1723 (by decide) rfl ?_
  refine lj_aload_n C dL_law_1725 rfl (q := 5) rfl ?_
  refine lj_callV (As := []) (c2 := c1 + PhC A') (s2 := s1 + PhS A') C hG.1 mf_X11_thrown cvM_thrown p3.km ⟨by decide, by decide⟩ rfl rfl (Nat.le_of_ble_eq_true rfl) (s_X11_thrown hG.1 _ _ _ (m_thrown p3.km e54)) (Nat.le_of_ble_eq_true rfl) dL_law_1726 (Nat.le_refl _) (Nat.le_refl _) ?_
  refine lj_iload C dL_law_1729 (q := 1) rfl ?_
  refine lj_icmp_eq_t (tgt := 1736) C dL_law_1731 (by decide) rfl ?_
  refine lj_iload C dL_law_1736 (q := 1) rfl ?_
  by_cases hk : k = 0
  · refine lj_if_ne_f (tgt := 1760) C dL_law_1738 (by decide) (by rw [hk]; rfl) ?_
    refine lj_aload_n C dL_law_1741 rfl (q := 4) rfl ?_
    refine lj_iconst (v := 0) C dL_law_1742 (by decide) ?_
    refine lj_laload C hG.1 p3.2.2.2.1.1 (by decide) rfl (vin1 p3.2.2.2.1.2.1) dL_law_1743 ?_
    refine lj_iload C dL_law_1744 (q := 0) rfl ?_
    by_cases h0 : w9 = 0
    · refine lj_if_eq_t (tgt := 1753) C dL_law_1746 (by decide) h0 ?_
      refine lj_lconst (v := 0) C dL_law_1753 rfl ?_
      refine lj_lcmp C dL_law_1754 (by rw [z0c, ej, hj hk, ← hw hk]; show (if w9 = 0 then (0 : Int64) else 1) = 0; rw [if_pos h0]) ?_
      refine lj_if_eq_t (tgt := 1760) C dL_law_1755 (by decide) rfl ?_
      refine lj_goto (tgt := 2500) C dL_law_1760 (by decide) ?_
      exact lj_sub C [2, 3, 4, 5, 6, 7] rfl (kk A' μ3 ⟨p3, ai'⟩)
    · refine lj_if_eq_f (tgt := 1753) C dL_law_1746 (by decide) h0 ?_
      refine lj_lconst (v := 1) C dL_law_1749 rfl ?_
      refine lj_goto (tgt := 1754) C dL_law_1750 (by decide) ?_
      refine lj_lcmp C dL_law_1754 (by rw [z0c, ej, hj hk, ← hw hk]; show (if w9 = 0 then (0 : Int64) else 1) = 1; rw [if_neg h0]) ?_
      refine lj_if_eq_t (tgt := 1760) C dL_law_1755 (by decide) rfl ?_
      refine lj_goto (tgt := 2500) C dL_law_1760 (by decide) ?_
      exact lj_sub C [2, 3, 4, 5, 6, 7] rfl (kk A' μ3 ⟨p3, ai'⟩)
  · refine lj_if_ne_t (tgt := 1760) C dL_law_1738 (by decide) (nI_n0 (Nat.le_trans kl (by decide)) hk) ?_
    refine lj_goto (tgt := 2500) C dL_law_1760 (by decide) ?_
    exact lj_sub C [2, 3, 4, 5, 6, 7] rfl (kk A' μ3 ⟨p3, ai'⟩)
theorem dL_law_1763 : decode cL_law 1763 = .ok (.aload_n 1, 1) := by decide +kernel
theorem dL_law_1764 : decode cL_law 1764 = .ok (.invokevirtual 229, 3) := by decide +kernel
theorem dL_law_1767 : decode cL_law 1767 = .ok (.aload_n 2, 1) := by decide +kernel
theorem dL_law_1768 : decode cL_law 1768 = .ok (.invokevirtual 232, 3) := by decide +kernel
theorem dL_law_1771 : decode cL_law 1771 = .ok (.if_icmp .eq 729, 3) := by decide +kernel
/-! free -/
set_option maxRecDepth 100000 in
theorem lc_28 {l : Launch} {G : Gt} {p : Program} {e : Env} {R : Room} {s : State} {m : MethodId} {args : Array Value} {below : List Frame} {meth : Method} {c : Code} {Q : State → Prop} (C : CW G mL_law p R s m meth c) (hG : Gok2 l G) {q0 n : Nat} {xs : Nat → Int32} (hX : va_X q0 n xs G.1 G.1.heap) (hq : q0 < G.1.heap.size) {b z i : Nat} {A : Sx} {μ : Mm} {c1 s1 : Nat} (hi : i + 6 ≤ n) (hn : n ≤ 3072) (h : JV b z A μ) (kk : ∀ A' μ', JV b z A' μ' → LJ l G mL_law p e R s m args below meth c Q 2500 (L0 b q0 i) [] μ' (c1 + PhC A') (s1 + PhS A')) : LJ l G mL_law p e R s m args below meth c Q 1763 (L0 b q0 i) [] μ (c1 + 4 + PhC A) (s1 + 220 + PhS A) := by
  refine lj_wf fun w => ?_
  obtain ⟨v, e1, e2⟩ := og_free h
  refine lj_aload_n C dL_law_1763 rfl (q := 4) rfl ?_
  refine lj_callV (As := []) (c2 := c1 + 4 + PhC A) (s2 := s1 + 220 + PhS A) C hG.1 mf_X10_free cvA_free h.1.kb ⟨by decide, by decide⟩ rfl rfl (Nat.le_of_ble_eq_true rfl) (s_X10_free hG.1 _ _ _ e1) (Nat.le_of_ble_eq_true rfl) dL_law_1764 (Nat.le_refl _) (Nat.le_refl _) ?_
  refine lj_aload_n C dL_law_1767 rfl (q := 3) rfl ?_
  refine lj_callV (As := []) (c2 := c1 + 4 + PhC A) (s2 := s1 + 220 + PhS A) C hG.1 mf_X11_free cvM_free h.1.km ⟨by decide, by decide⟩ rfl rfl (Nat.le_of_ble_eq_true rfl) (s_X11_free hG.1 _ _ _ _ e2) (Nat.le_of_ble_eq_true rfl) dL_law_1768 (Nat.le_refl _) (Nat.le_refl _) ?_
  refine lj_icmp_eq_t (tgt := 2500) C dL_law_1771 (by decide) rfl ?_
  exact lj_w (by omega) (by omega) (kk A _ (h.s54 w))
theorem dL_law_1776 : decode cL_law 1776 = .ok (.aload_n 1, 1) := by decide +kernel
theorem dL_law_1777 : decode cL_law 1777 = .ok (.aload_n 0, 1) := by decide +kernel
theorem dL_law_1778 : decode cL_law 1778 = .ok (.iload 5, 2) := by decide +kernel
theorem dL_law_1780 : decode cL_law 1780 = .ok (.iconst 1, 1) := by decide +kernel
theorem dL_law_1781 : decode cL_law 1781 = .ok (.iadd, 1) := by decide +kernel
theorem dL_law_1782 : decode cL_law 1782 = .ok (.iaload, 1) := by decide +kernel
theorem dL_law_1783 : decode cL_law 1783 = .ok (.aload_n 3, 1) := by decide +kernel
theorem dL_law_1784 : decode cL_law 1784 = .ok (.invokestatic 233, 3) := by decide +kernel
theorem dL_law_1787 : decode cL_law 1787 = .ok (.istore 6, 2) := by decide +kernel
theorem dL_law_1789 : decode cL_law 1789 = .ok (.aload_n 2, 1) := by decide +kernel
theorem dL_law_1790 : decode cL_law 1790 = .ok (.aload_n 0, 1) := by decide +kernel
theorem dL_law_1791 : decode cL_law 1791 = .ok (.iload 5, 2) := by decide +kernel
theorem dL_law_1793 : decode cL_law 1793 = .ok (.iconst 1, 1) := by decide +kernel
theorem dL_law_1794 : decode cL_law 1794 = .ok (.iadd, 1) := by decide +kernel
theorem dL_law_1795 : decode cL_law 1795 = .ok (.iaload, 1) := by decide +kernel
theorem dL_law_1796 : decode cL_law 1796 = .ok (.invokevirtual 235, 3) := by decide +kernel
theorem dL_law_1799 : decode cL_law 1799 = .ok (.istore 7, 2) := by decide +kernel
theorem dL_law_1801 : decode cL_law 1801 = .ok (.aload_n 2, 1) := by decide +kernel
theorem dL_law_1802 : decode cL_law 1802 = .ok (.invokevirtual 137, 3) := by decide +kernel
theorem dL_law_1805 : decode cL_law 1805 = .ok (.iload 6, 2) := by decide +kernel
theorem dL_law_1807 : decode cL_law 1807 = .ok (.if_icmp .eq 5, 3) := by decide +kernel
theorem dL_law_1812 : decode cL_law 1812 = .ok (.iload 6, 2) := by decide +kernel
theorem dL_law_1814 : decode cL_law 1814 = .ok (.ifCond .ne 15, 3) := by decide +kernel
theorem dL_law_1817 : decode cL_law 1817 = .ok (.aload_n 3, 1) := by decide +kernel
theorem dL_law_1818 : decode cL_law 1818 = .ok (.iconst 0, 1) := by decide +kernel
theorem dL_law_1819 : decode cL_law 1819 = .ok (.laload, 1) := by decide +kernel
theorem dL_law_1820 : decode cL_law 1820 = .ok (.iload 7, 2) := by decide +kernel
theorem dL_law_1822 : decode cL_law 1822 = .ok (.i2l, 1) := by decide +kernel
theorem dL_law_1823 : decode cL_law 1823 = .ok (.lcmp, 1) := by decide +kernel
theorem dL_law_1824 : decode cL_law 1824 = .ok (.ifCond .eq 5, 3) := by decide +kernel
theorem dL_law_1829 : decode cL_law 1829 = .ok (.goto 671, 3) := by decide +kernel
/-! freeAt -/
set_option maxRecDepth 100000 in
theorem lc_29 {l : Launch} {G : Gt} {p : Program} {e : Env} {R : Room} {s : State} {m : MethodId} {args : Array Value} {below : List Frame} {meth : Method} {c : Code} {Q : State → Prop} (C : CW G mL_law p R s m meth c) (hG : Gok2 l G) {q0 n : Nat} {xs : Nat → Int32} (hX : va_X q0 n xs G.1 G.1.heap) (hq : q0 < G.1.heap.size) {b z i : Nat} {A : Sx} {μ : Mm} {c1 s1 : Nat} (hi : i + 6 ≤ n) (hn : n ≤ 3072) (h : JV b z A μ) (kk : ∀ A' μ', JV b z A' μ' → LJ l G mL_law p e R s m args below meth c Q 2500 (L0 b q0 i) [] μ' (c1 + PhC A') (s1 + PhS A')) : LJ l G mL_law p e R s m args below meth c Q 1776 (L0 b q0 i) [] μ (c1 + 4 + PhC A) (s1 + 220 + PhS A) := by
  refine lj_wf fun w => ?_
  obtain ⟨k, v, A', μ1, dc, ds, ec, es, kl, ef, p1, hc1, hs1, ai', pc, ps, hg⟩ := op_freeAt (x1 := (xs (nI i + 1).toNatClampNeg)) h w
  refine lj_aload_n C dL_law_1776 rfl (q := 4) rfl ?_
  refine lj_aload_n C dL_law_1777 rfl (q := 5) rfl ?_
  refine lj_iload C dL_law_1778 (q := 0) rfl ?_
  refine lj_iconst (v := 1) C dL_law_1780 (by decide) ?_
  refine lj_iadd C dL_law_1781 ?_
  refine lj_sld C hX hq (sI_vin (j := 1) (by decide) (by decide) hi hn) dL_law_1782 ?_
  refine lj_aload_n C dL_law_1783 rfl (q := 2) rfl ?_
  refine lj_callW (As := [.ref b, .int (xs (nI i + 1).toNatClampNeg), .ref (b + 84)]) (c2 := c1 + ec + PhC A') (s2 := s1 + es + PhS A') C hG.1 mw_freeAt csL_freeAt ⟨by decide, by decide⟩ rfl (wc_freeAt hG h.1.kb p1.2.2.2.1.1 p1.2.2.2.1.2.1 ef (fun E q => rOf_in kl q)) (Nat.le_of_ble_eq_true rfl) dL_law_1784 (by omega) (by omega) fun v9 μ2 wp => ?_
  obtain ⟨rfl, p2, hj⟩ := wp_out (by decide) kl p1 wp
  refine lj_istore C dL_law_1787 (by decide) rfl ?_
  refine lj_wf fun w2 => ?_
  obtain ⟨w9, μ3, eg, hw, e54, p3, ej, hc3, hs3⟩ := hg μ2 p2 w2 (p2.n86 w2)
  refine lj_aload_n C dL_law_1789 rfl (q := 4) rfl ?_
  refine lj_aload_n C dL_law_1790 rfl (q := 6) rfl ?_
  refine lj_iload C dL_law_1791 (q := 1) rfl ?_
  refine lj_iconst (v := 1) C dL_law_1793 (by decide) ?_
  refine lj_iadd C dL_law_1794 ?_
  refine lj_sld C hX hq (sI_vin (j := 1) (by decide) (by decide) hi hn) dL_law_1795 ?_
  refine lj_callV (As := [.int (xs (nI i + 1).toNatClampNeg)]) (c2 := c1 + PhC A') (s2 := s1 + PhS A') C hG.1 mf_X11_freeAt cvM_freeAt p2.km ⟨by decide, by decide⟩ rfl rfl (Nat.le_of_ble_eq_true rfl) (s_X11_freeAt hG.1 _ _ _ _ _ eg) (Nat.le_of_ble_eq_true rfl) dL_law_1796 (by omega) (by omega) ?_
  refine lj_istore C dL_law_1799 (by decide) rfl ?_
  refine lj_aload_n C dL_law_1801 rfl (q := 5) rfl ?_
  refine lj_callV (As := []) (c2 := c1 + PhC A') (s2 := s1 + PhS A') C hG.1 mf_X11_thrown cvM_thrown p3.km ⟨by decide, by decide⟩ rfl rfl (Nat.le_of_ble_eq_true rfl) (s_X11_thrown hG.1 _ _ _ (m_thrown p3.km e54)) (Nat.le_of_ble_eq_true rfl) dL_law_1802 (Nat.le_refl _) (Nat.le_refl _) ?_
  refine lj_iload C dL_law_1805 (q := 1) rfl ?_
  refine lj_icmp_eq_t (tgt := 1812) C dL_law_1807 (by decide) rfl ?_
  refine lj_iload C dL_law_1812 (q := 1) rfl ?_
  by_cases hk : k = 0
  · refine lj_if_ne_f (tgt := 1829) C dL_law_1814 (by decide) (by rw [hk]; rfl) ?_
    refine lj_aload_n C dL_law_1817 rfl (q := 4) rfl ?_
    refine lj_iconst (v := 0) C dL_law_1818 (by decide) ?_
    refine lj_laload C hG.1 p3.2.2.2.1.1 (by decide) rfl (vin1 p3.2.2.2.1.2.1) dL_law_1819 ?_
    refine lj_iload C dL_law_1820 (q := 0) rfl ?_
    refine lj_i2l C dL_law_1822 ?_
    refine lj_lcmp C dL_law_1823 (by rw [z0c, ej, hj hk, hw hk]) ?_
    refine lj_if_eq_t (tgt := 1829) C dL_law_1824 (by decide) rfl ?_
    refine lj_goto (tgt := 2500) C dL_law_1829 (by decide) ?_
    exact lj_sub C [2, 3, 4, 5, 6, 7] rfl (kk A' μ3 ⟨p3, ai'⟩)
  · refine lj_if_ne_t (tgt := 1829) C dL_law_1814 (by decide) (nI_n0 (Nat.le_trans kl (by decide)) hk) ?_
    refine lj_goto (tgt := 2500) C dL_law_1829 (by decide) ?_
    exact lj_sub C [2, 3, 4, 5, 6, 7] rfl (kk A' μ3 ⟨p3, ai'⟩)
theorem dL_law_1832 : decode cL_law 1832 = .ok (.aload_n 1, 1) := by decide +kernel
theorem dL_law_1833 : decode cL_law 1833 = .ok (.invokevirtual 236, 3) := by decide +kernel
theorem dL_law_1836 : decode cL_law 1836 = .ok (.aload_n 2, 1) := by decide +kernel
theorem dL_law_1837 : decode cL_law 1837 = .ok (.invokevirtual 239, 3) := by decide +kernel
theorem dL_law_1840 : decode cL_law 1840 = .ok (.if_icmp .eq 660, 3) := by decide +kernel
/-! inBuffer -/
set_option maxRecDepth 100000 in
theorem lc_30 {l : Launch} {G : Gt} {p : Program} {e : Env} {R : Room} {s : State} {m : MethodId} {args : Array Value} {below : List Frame} {meth : Method} {c : Code} {Q : State → Prop} (C : CW G mL_law p R s m meth c) (hG : Gok2 l G) {q0 n : Nat} {xs : Nat → Int32} (hX : va_X q0 n xs G.1 G.1.heap) (hq : q0 < G.1.heap.size) {b z i : Nat} {A : Sx} {μ : Mm} {c1 s1 : Nat} (hi : i + 6 ≤ n) (hn : n ≤ 3072) (h : JV b z A μ) (kk : ∀ A' μ', JV b z A' μ' → LJ l G mL_law p e R s m args below meth c Q 2500 (L0 b q0 i) [] μ' (c1 + PhC A') (s1 + PhS A')) : LJ l G mL_law p e R s m args below meth c Q 1832 (L0 b q0 i) [] μ (c1 + 4 + PhC A) (s1 + 220 + PhS A) := by
  refine lj_wf fun w => ?_
  obtain ⟨v, e1, e2⟩ := og_inBuffer h
  refine lj_aload_n C dL_law_1832 rfl (q := 4) rfl ?_
  refine lj_callV (As := []) (c2 := c1 + 4 + PhC A) (s2 := s1 + 220 + PhS A) C hG.1 mf_X10_inBuffer cvA_inBuffer h.1.kb ⟨by decide, by decide⟩ rfl rfl (Nat.le_of_ble_eq_true rfl) (s_X10_inBuffer hG.1 _ _ _ e1) (Nat.le_of_ble_eq_true rfl) dL_law_1833 (Nat.le_refl _) (Nat.le_refl _) ?_
  refine lj_aload_n C dL_law_1836 rfl (q := 3) rfl ?_
  refine lj_callV (As := []) (c2 := c1 + 4 + PhC A) (s2 := s1 + 220 + PhS A) C hG.1 mf_X11_inBuffer cvM_inBuffer h.1.km ⟨by decide, by decide⟩ rfl rfl (Nat.le_of_ble_eq_true rfl) (s_X11_inBuffer hG.1 _ _ _ _ e2) (Nat.le_of_ble_eq_true rfl) dL_law_1837 (Nat.le_refl _) (Nat.le_refl _) ?_
  refine lj_icmp_eq_t (tgt := 2500) C dL_law_1840 (by decide) rfl ?_
  exact lj_w (by omega) (by omega) (kk A _ (h.s54 w))
theorem dL_law_1845 : decode cL_law 1845 = .ok (.aload_n 1, 1) := by decide +kernel
theorem dL_law_1846 : decode cL_law 1846 = .ok (.aload_n 0, 1) := by decide +kernel
theorem dL_law_1847 : decode cL_law 1847 = .ok (.iload 5, 2) := by decide +kernel
theorem dL_law_1849 : decode cL_law 1849 = .ok (.iconst 1, 1) := by decide +kernel
theorem dL_law_1850 : decode cL_law 1850 = .ok (.iadd, 1) := by decide +kernel
theorem dL_law_1851 : decode cL_law 1851 = .ok (.iaload, 1) := by decide +kernel
theorem dL_law_1852 : decode cL_law 1852 = .ok (.aload_n 3, 1) := by decide +kernel
theorem dL_law_1853 : decode cL_law 1853 = .ok (.invokestatic 240, 3) := by decide +kernel
theorem dL_law_1856 : decode cL_law 1856 = .ok (.istore 6, 2) := by decide +kernel
theorem dL_law_1858 : decode cL_law 1858 = .ok (.aload_n 2, 1) := by decide +kernel
theorem dL_law_1859 : decode cL_law 1859 = .ok (.aload_n 0, 1) := by decide +kernel
theorem dL_law_1860 : decode cL_law 1860 = .ok (.iload 5, 2) := by decide +kernel
theorem dL_law_1862 : decode cL_law 1862 = .ok (.iconst 1, 1) := by decide +kernel
theorem dL_law_1863 : decode cL_law 1863 = .ok (.iadd, 1) := by decide +kernel
theorem dL_law_1864 : decode cL_law 1864 = .ok (.iaload, 1) := by decide +kernel
theorem dL_law_1865 : decode cL_law 1865 = .ok (.invokevirtual 242, 3) := by decide +kernel
theorem dL_law_1868 : decode cL_law 1868 = .ok (.istore 7, 2) := by decide +kernel
theorem dL_law_1870 : decode cL_law 1870 = .ok (.aload_n 2, 1) := by decide +kernel
theorem dL_law_1871 : decode cL_law 1871 = .ok (.invokevirtual 137, 3) := by decide +kernel
theorem dL_law_1874 : decode cL_law 1874 = .ok (.iload 6, 2) := by decide +kernel
theorem dL_law_1876 : decode cL_law 1876 = .ok (.if_icmp .eq 5, 3) := by decide +kernel
theorem dL_law_1881 : decode cL_law 1881 = .ok (.iload 6, 2) := by decide +kernel
theorem dL_law_1883 : decode cL_law 1883 = .ok (.ifCond .ne 15, 3) := by decide +kernel
theorem dL_law_1886 : decode cL_law 1886 = .ok (.aload_n 3, 1) := by decide +kernel
theorem dL_law_1887 : decode cL_law 1887 = .ok (.iconst 0, 1) := by decide +kernel
theorem dL_law_1888 : decode cL_law 1888 = .ok (.laload, 1) := by decide +kernel
theorem dL_law_1889 : decode cL_law 1889 = .ok (.iload 7, 2) := by decide +kernel
theorem dL_law_1891 : decode cL_law 1891 = .ok (.i2l, 1) := by decide +kernel
theorem dL_law_1892 : decode cL_law 1892 = .ok (.lcmp, 1) := by decide +kernel
theorem dL_law_1893 : decode cL_law 1893 = .ok (.ifCond .eq 5, 3) := by decide +kernel
theorem dL_law_1898 : decode cL_law 1898 = .ok (.goto 602, 3) := by decide +kernel
/-! bufferAt -/
set_option maxRecDepth 100000 in
theorem lc_31 {l : Launch} {G : Gt} {p : Program} {e : Env} {R : Room} {s : State} {m : MethodId} {args : Array Value} {below : List Frame} {meth : Method} {c : Code} {Q : State → Prop} (C : CW G mL_law p R s m meth c) (hG : Gok2 l G) {q0 n : Nat} {xs : Nat → Int32} (hX : va_X q0 n xs G.1 G.1.heap) (hq : q0 < G.1.heap.size) {b z i : Nat} {A : Sx} {μ : Mm} {c1 s1 : Nat} (hi : i + 6 ≤ n) (hn : n ≤ 3072) (h : JV b z A μ) (kk : ∀ A' μ', JV b z A' μ' → LJ l G mL_law p e R s m args below meth c Q 2500 (L0 b q0 i) [] μ' (c1 + PhC A') (s1 + PhS A')) : LJ l G mL_law p e R s m args below meth c Q 1845 (L0 b q0 i) [] μ (c1 + 4 + PhC A) (s1 + 220 + PhS A) := by
  refine lj_wf fun w => ?_
  obtain ⟨k, v, A', μ1, dc, ds, ec, es, kl, ef, p1, hc1, hs1, ai', pc, ps, hg⟩ := op_bufferAt (x1 := (xs (nI i + 1).toNatClampNeg)) h w
  refine lj_aload_n C dL_law_1845 rfl (q := 4) rfl ?_
  refine lj_aload_n C dL_law_1846 rfl (q := 5) rfl ?_
  refine lj_iload C dL_law_1847 (q := 0) rfl ?_
  refine lj_iconst (v := 1) C dL_law_1849 (by decide) ?_
  refine lj_iadd C dL_law_1850 ?_
  refine lj_sld C hX hq (sI_vin (j := 1) (by decide) (by decide) hi hn) dL_law_1851 ?_
  refine lj_aload_n C dL_law_1852 rfl (q := 2) rfl ?_
  refine lj_callW (As := [.ref b, .int (xs (nI i + 1).toNatClampNeg), .ref (b + 84)]) (c2 := c1 + ec + PhC A') (s2 := s1 + es + PhS A') C hG.1 mw_bufferAt csL_bufferAt ⟨by decide, by decide⟩ rfl (wc_bufferAt hG h.1.kb p1.2.2.2.1.1 p1.2.2.2.1.2.1 ef (fun E q => rOf_in kl q)) (Nat.le_of_ble_eq_true rfl) dL_law_1853 (by omega) (by omega) fun v9 μ2 wp => ?_
  obtain ⟨rfl, p2, hj⟩ := wp_out (by decide) kl p1 wp
  refine lj_istore C dL_law_1856 (by decide) rfl ?_
  refine lj_wf fun w2 => ?_
  obtain ⟨w9, μ3, eg, hw, e54, p3, ej, hc3, hs3⟩ := hg μ2 p2 w2 (p2.n86 w2)
  refine lj_aload_n C dL_law_1858 rfl (q := 4) rfl ?_
  refine lj_aload_n C dL_law_1859 rfl (q := 6) rfl ?_
  refine lj_iload C dL_law_1860 (q := 1) rfl ?_
  refine lj_iconst (v := 1) C dL_law_1862 (by decide) ?_
  refine lj_iadd C dL_law_1863 ?_
  refine lj_sld C hX hq (sI_vin (j := 1) (by decide) (by decide) hi hn) dL_law_1864 ?_
  refine lj_callV (As := [.int (xs (nI i + 1).toNatClampNeg)]) (c2 := c1 + PhC A') (s2 := s1 + PhS A') C hG.1 mf_X11_bufferAt cvM_bufferAt p2.km ⟨by decide, by decide⟩ rfl rfl (Nat.le_of_ble_eq_true rfl) (s_X11_bufferAt hG.1 _ _ _ _ _ eg) (Nat.le_of_ble_eq_true rfl) dL_law_1865 (by omega) (by omega) ?_
  refine lj_istore C dL_law_1868 (by decide) rfl ?_
  refine lj_aload_n C dL_law_1870 rfl (q := 5) rfl ?_
  refine lj_callV (As := []) (c2 := c1 + PhC A') (s2 := s1 + PhS A') C hG.1 mf_X11_thrown cvM_thrown p3.km ⟨by decide, by decide⟩ rfl rfl (Nat.le_of_ble_eq_true rfl) (s_X11_thrown hG.1 _ _ _ (m_thrown p3.km e54)) (Nat.le_of_ble_eq_true rfl) dL_law_1871 (Nat.le_refl _) (Nat.le_refl _) ?_
  refine lj_iload C dL_law_1874 (q := 1) rfl ?_
  refine lj_icmp_eq_t (tgt := 1881) C dL_law_1876 (by decide) rfl ?_
  refine lj_iload C dL_law_1881 (q := 1) rfl ?_
  by_cases hk : k = 0
  · refine lj_if_ne_f (tgt := 1898) C dL_law_1883 (by decide) (by rw [hk]; rfl) ?_
    refine lj_aload_n C dL_law_1886 rfl (q := 4) rfl ?_
    refine lj_iconst (v := 0) C dL_law_1887 (by decide) ?_
    refine lj_laload C hG.1 p3.2.2.2.1.1 (by decide) rfl (vin1 p3.2.2.2.1.2.1) dL_law_1888 ?_
    refine lj_iload C dL_law_1889 (q := 0) rfl ?_
    refine lj_i2l C dL_law_1891 ?_
    refine lj_lcmp C dL_law_1892 (by rw [z0c, ej, hj hk, hw hk]) ?_
    refine lj_if_eq_t (tgt := 1898) C dL_law_1893 (by decide) rfl ?_
    refine lj_goto (tgt := 2500) C dL_law_1898 (by decide) ?_
    exact lj_sub C [2, 3, 4, 5, 6, 7] rfl (kk A' μ3 ⟨p3, ai'⟩)
  · refine lj_if_ne_t (tgt := 1898) C dL_law_1883 (by decide) (nI_n0 (Nat.le_trans kl (by decide)) hk) ?_
    refine lj_goto (tgt := 2500) C dL_law_1898 (by decide) ?_
    exact lj_sub C [2, 3, 4, 5, 6, 7] rfl (kk A' μ3 ⟨p3, ai'⟩)
