/-! the cases of the law, 6 to 13 -/
theorem dL_law_672 : decode cL_law 672 = .ok (.aload_n 1, 1) := by decide +kernel
theorem dL_law_673 : decode cL_law 673 = .ok (.aload_n 0, 1) := by decide +kernel
theorem dL_law_674 : decode cL_law 674 = .ok (.iload 5, 2) := by decide +kernel
theorem dL_law_676 : decode cL_law 676 = .ok (.iconst 1, 1) := by decide +kernel
theorem dL_law_677 : decode cL_law 677 = .ok (.iadd, 1) := by decide +kernel
theorem dL_law_678 : decode cL_law 678 = .ok (.iaload, 1) := by decide +kernel
theorem dL_law_679 : decode cL_law 679 = .ok (.aload_n 3, 1) := by decide +kernel
theorem dL_law_680 : decode cL_law 680 = .ok (.invokestatic 157, 3) := by decide +kernel
theorem dL_law_683 : decode cL_law 683 = .ok (.istore 6, 2) := by decide +kernel
theorem dL_law_685 : decode cL_law 685 = .ok (.aload_n 2, 1) := by decide +kernel
theorem dL_law_686 : decode cL_law 686 = .ok (.aload_n 0, 1) := by decide +kernel
theorem dL_law_687 : decode cL_law 687 = .ok (.iload 5, 2) := by decide +kernel
theorem dL_law_689 : decode cL_law 689 = .ok (.iconst 1, 1) := by decide +kernel
theorem dL_law_690 : decode cL_law 690 = .ok (.iadd, 1) := by decide +kernel
theorem dL_law_691 : decode cL_law 691 = .ok (.iaload, 1) := by decide +kernel
theorem dL_law_692 : decode cL_law 692 = .ok (.invokevirtual 159, 3) := by decide +kernel
theorem dL_law_695 : decode cL_law 695 = .ok (.istore 7, 2) := by decide +kernel
theorem dL_law_697 : decode cL_law 697 = .ok (.aload_n 2, 1) := by decide +kernel
theorem dL_law_698 : decode cL_law 698 = .ok (.invokevirtual 137, 3) := by decide +kernel
theorem dL_law_701 : decode cL_law 701 = .ok (.iload 6, 2) := by decide +kernel
theorem dL_law_703 : decode cL_law 703 = .ok (.if_icmp .eq 5, 3) := by decide +kernel
theorem dL_law_708 : decode cL_law 708 = .ok (.iload 6, 2) := by decide +kernel
theorem dL_law_710 : decode cL_law 710 = .ok (.ifCond .ne 15, 3) := by decide +kernel
theorem dL_law_713 : decode cL_law 713 = .ok (.aload_n 3, 1) := by decide +kernel
theorem dL_law_714 : decode cL_law 714 = .ok (.iconst 0, 1) := by decide +kernel
theorem dL_law_715 : decode cL_law 715 = .ok (.laload, 1) := by decide +kernel
theorem dL_law_716 : decode cL_law 716 = .ok (.iload 7, 2) := by decide +kernel
theorem dL_law_718 : decode cL_law 718 = .ok (.i2l, 1) := by decide +kernel
theorem dL_law_719 : decode cL_law 719 = .ok (.lcmp, 1) := by decide +kernel
theorem dL_law_720 : decode cL_law 720 = .ok (.ifCond .eq 5, 3) := by decide +kernel
theorem dL_law_725 : decode cL_law 725 = .ok (.goto 1775, 3) := by decide +kernel
/-! setInner -/
set_option maxRecDepth 100000 in
theorem lc_6 {l : Launch} {G : Gt} {p : Program} {e : Env} {R : Room} {s : State} {m : MethodId} {args : Array Value} {below : List Frame} {meth : Method} {c : Code} {Q : State → Prop} (C : CW G mL_law p R s m meth c) (hG : Gok2 l G) {q0 n : Nat} {xs : Nat → Int32} (hX : va_X q0 n xs G.1 G.1.heap) (hq : q0 < G.1.heap.size) {b z i : Nat} {A : Sx} {μ : Mm} {c1 s1 : Nat} (hi : i + 6 ≤ n) (hn : n ≤ 3072) (h : JV b z A μ) (kk : ∀ A' μ', JV b z A' μ' → LJ l G mL_law p e R s m args below meth c Q 2500 (L0 b q0 i) [] μ' (c1 + PhC A') (s1 + PhS A')) : LJ l G mL_law p e R s m args below meth c Q 672 (L0 b q0 i) [] μ (c1 + 4 + PhC A) (s1 + 220 + PhS A) := by
  refine lj_wf fun w => ?_
  obtain ⟨k, v, A', μ1, dc, ds, ec, es, kl, ef, p1, hc1, hs1, ai', pc, ps, hg⟩ := op_setInner (x1 := (xs (nI i + 1).toNatClampNeg)) h w
  refine lj_aload_n C dL_law_672 rfl (q := 4) rfl ?_
  refine lj_aload_n C dL_law_673 rfl (q := 5) rfl ?_
  refine lj_iload C dL_law_674 (q := 0) rfl ?_
  refine lj_iconst (v := 1) C dL_law_676 (by decide) ?_
  refine lj_iadd C dL_law_677 ?_
  refine lj_sld C hX hq (sI_vin (j := 1) (by decide) (by decide) hi hn) dL_law_678 ?_
  refine lj_aload_n C dL_law_679 rfl (q := 2) rfl ?_
  refine lj_callW (As := [.ref b, .int (xs (nI i + 1).toNatClampNeg), .ref (b + 84)]) (c2 := c1 + ec + PhC A') (s2 := s1 + es + PhS A') C hG.1 mw_setInner csL_setInner ⟨by decide, by decide⟩ rfl (wc_setInner hG h.1.kb p1.2.2.2.1.1 p1.2.2.2.1.2.1 ef (fun E q => rOf_in kl q)) (Nat.le_of_ble_eq_true rfl) dL_law_680 (by omega) (by omega) fun v9 μ2 wp => ?_
  obtain ⟨rfl, p2, hj⟩ := wp_out (by decide) kl p1 wp
  refine lj_istore C dL_law_683 (by decide) rfl ?_
  refine lj_wf fun w2 => ?_
  obtain ⟨w9, μ3, eg, hw, e54, p3, ej, hc3, hs3⟩ := hg μ2 p2 w2 (p2.n86 w2)
  refine lj_aload_n C dL_law_685 rfl (q := 4) rfl ?_
  refine lj_aload_n C dL_law_686 rfl (q := 6) rfl ?_
  refine lj_iload C dL_law_687 (q := 1) rfl ?_
  refine lj_iconst (v := 1) C dL_law_689 (by decide) ?_
  refine lj_iadd C dL_law_690 ?_
  refine lj_sld C hX hq (sI_vin (j := 1) (by decide) (by decide) hi hn) dL_law_691 ?_
  refine lj_callV (As := [.int (xs (nI i + 1).toNatClampNeg)]) (c2 := c1 + PhC A') (s2 := s1 + PhS A') C hG.1 mf_X11_setInner cvM_setInner p2.km ⟨by decide, by decide⟩ rfl rfl (Nat.le_of_ble_eq_true rfl) (s_X11_setInner hG.1 _ _ _ _ _ eg) (Nat.le_of_ble_eq_true rfl) dL_law_692 (by omega) (by omega) ?_
  refine lj_istore C dL_law_695 (by decide) rfl ?_
  refine lj_aload_n C dL_law_697 rfl (q := 5) rfl ?_
  refine lj_callV (As := []) (c2 := c1 + PhC A') (s2 := s1 + PhS A') C hG.1 mf_X11_thrown cvM_thrown p3.km ⟨by decide, by decide⟩ rfl rfl (Nat.le_of_ble_eq_true rfl) (s_X11_thrown hG.1 _ _ _ (m_thrown p3.km e54)) (Nat.le_of_ble_eq_true rfl) dL_law_698 (Nat.le_refl _) (Nat.le_refl _) ?_
  refine lj_iload C dL_law_701 (q := 1) rfl ?_
  refine lj_icmp_eq_t (tgt := 708) C dL_law_703 (by decide) rfl ?_
  refine lj_iload C dL_law_708 (q := 1) rfl ?_
  by_cases hk : k = 0
  · refine lj_if_ne_f (tgt := 725) C dL_law_710 (by decide) (by rw [hk]; rfl) ?_
    refine lj_aload_n C dL_law_713 rfl (q := 4) rfl ?_
    refine lj_iconst (v := 0) C dL_law_714 (by decide) ?_
    refine lj_laload C hG.1 p3.2.2.2.1.1 (by decide) rfl (vin1 p3.2.2.2.1.2.1) dL_law_715 ?_
    refine lj_iload C dL_law_716 (q := 0) rfl ?_
    refine lj_i2l C dL_law_718 ?_
    refine lj_lcmp C dL_law_719 (by rw [z0c, ej, hj hk, hw hk]) ?_
    refine lj_if_eq_t (tgt := 725) C dL_law_720 (by decide) rfl ?_
    refine lj_goto (tgt := 2500) C dL_law_725 (by decide) ?_
    exact lj_sub C [2, 3, 4, 5, 6, 7] rfl (kk A' μ3 ⟨p3, ai'⟩)
  · refine lj_if_ne_t (tgt := 725) C dL_law_710 (by decide) (nI_n0 (Nat.le_trans kl (by decide)) hk) ?_
    refine lj_goto (tgt := 2500) C dL_law_725 (by decide) ?_
    exact lj_sub C [2, 3, 4, 5, 6, 7] rfl (kk A' μ3 ⟨p3, ai'⟩)
theorem dL_law_728 : decode cL_law 728 = .ok (.aload_n 1, 1) := by decide +kernel
theorem dL_law_729 : decode cL_law 729 = .ok (.aload_n 0, 1) := by decide +kernel
theorem dL_law_730 : decode cL_law 730 = .ok (.iload 5, 2) := by decide +kernel
theorem dL_law_732 : decode cL_law 732 = .ok (.iconst 1, 1) := by decide +kernel
theorem dL_law_733 : decode cL_law 733 = .ok (.iadd, 1) := by decide +kernel
theorem dL_law_734 : decode cL_law 734 = .ok (.iaload, 1) := by decide +kernel
theorem dL_law_735 : decode cL_law 735 = .ok (.aload_n 0, 1) := by decide +kernel
theorem dL_law_736 : decode cL_law 736 = .ok (.iload 5, 2) := by decide +kernel
theorem dL_law_738 : decode cL_law 738 = .ok (.iconst 2, 1) := by decide +kernel
theorem dL_law_739 : decode cL_law 739 = .ok (.iadd, 1) := by decide +kernel
theorem dL_law_740 : decode cL_law 740 = .ok (.iaload, 1) := by decide +kernel
theorem dL_law_741 : decode cL_law 741 = .ok (.aload_n 3, 1) := by decide +kernel
theorem dL_law_742 : decode cL_law 742 = .ok (.invokestatic 160, 3) := by decide +kernel
theorem dL_law_745 : decode cL_law 745 = .ok (.istore 6, 2) := by decide +kernel
theorem dL_law_747 : decode cL_law 747 = .ok (.aload_n 2, 1) := by decide +kernel
theorem dL_law_748 : decode cL_law 748 = .ok (.aload_n 0, 1) := by decide +kernel
theorem dL_law_749 : decode cL_law 749 = .ok (.iload 5, 2) := by decide +kernel
theorem dL_law_751 : decode cL_law 751 = .ok (.iconst 1, 1) := by decide +kernel
theorem dL_law_752 : decode cL_law 752 = .ok (.iadd, 1) := by decide +kernel
theorem dL_law_753 : decode cL_law 753 = .ok (.iaload, 1) := by decide +kernel
theorem dL_law_754 : decode cL_law 754 = .ok (.aload_n 0, 1) := by decide +kernel
theorem dL_law_755 : decode cL_law 755 = .ok (.iload 5, 2) := by decide +kernel
theorem dL_law_757 : decode cL_law 757 = .ok (.iconst 2, 1) := by decide +kernel
theorem dL_law_758 : decode cL_law 758 = .ok (.iadd, 1) := by decide +kernel
theorem dL_law_759 : decode cL_law 759 = .ok (.iaload, 1) := by decide +kernel
theorem dL_law_760 : decode cL_law 760 = .ok (.invokevirtual 162, 3) := by decide +kernel
theorem dL_law_763 : decode cL_law 763 = .ok (.istore 7, 2) := by decide +kernel
theorem dL_law_765 : decode cL_law 765 = .ok (.aload_n 2, 1) := by decide +kernel
theorem dL_law_766 : decode cL_law 766 = .ok (.invokevirtual 137, 3) := by decide +kernel
theorem dL_law_769 : decode cL_law 769 = .ok (.iload 6, 2) := by decide +kernel
theorem dL_law_771 : decode cL_law 771 = .ok (.if_icmp .eq 5, 3) := by decide +kernel
theorem dL_law_776 : decode cL_law 776 = .ok (.iload 6, 2) := by decide +kernel
theorem dL_law_778 : decode cL_law 778 = .ok (.ifCond .ne 15, 3) := by decide +kernel
theorem dL_law_781 : decode cL_law 781 = .ok (.aload_n 3, 1) := by decide +kernel
theorem dL_law_782 : decode cL_law 782 = .ok (.iconst 0, 1) := by decide +kernel
theorem dL_law_783 : decode cL_law 783 = .ok (.laload, 1) := by decide +kernel
theorem dL_law_784 : decode cL_law 784 = .ok (.iload 7, 2) := by decide +kernel
theorem dL_law_786 : decode cL_law 786 = .ok (.i2l, 1) := by decide +kernel
theorem dL_law_787 : decode cL_law 787 = .ok (.lcmp, 1) := by decide +kernel
theorem dL_law_788 : decode cL_law 788 = .ok (.ifCond .eq 5, 3) := by decide +kernel
theorem dL_law_793 : decode cL_law 793 = .ok (.goto 1707, 3) := by decide +kernel
/-! setHandlers -/
set_option maxRecDepth 100000 in
theorem lc_7 {l : Launch} {G : Gt} {p : Program} {e : Env} {R : Room} {s : State} {m : MethodId} {args : Array Value} {below : List Frame} {meth : Method} {c : Code} {Q : State → Prop} (C : CW G mL_law p R s m meth c) (hG : Gok2 l G) {q0 n : Nat} {xs : Nat → Int32} (hX : va_X q0 n xs G.1 G.1.heap) (hq : q0 < G.1.heap.size) {b z i : Nat} {A : Sx} {μ : Mm} {c1 s1 : Nat} (hi : i + 6 ≤ n) (hn : n ≤ 3072) (h : JV b z A μ) (kk : ∀ A' μ', JV b z A' μ' → LJ l G mL_law p e R s m args below meth c Q 2500 (L0 b q0 i) [] μ' (c1 + PhC A') (s1 + PhS A')) : LJ l G mL_law p e R s m args below meth c Q 728 (L0 b q0 i) [] μ (c1 + 4 + PhC A) (s1 + 220 + PhS A) := by
  refine lj_wf fun w => ?_
  obtain ⟨k, v, A', μ1, dc, ds, ec, es, kl, ef, p1, hc1, hs1, ai', pc, ps, hg⟩ := op_setHandlers (x1 := (xs (nI i + 1).toNatClampNeg)) (x2 := (xs (nI i + 2).toNatClampNeg)) h w
  refine lj_aload_n C dL_law_728 rfl (q := 4) rfl ?_
  refine lj_aload_n C dL_law_729 rfl (q := 5) rfl ?_
  refine lj_iload C dL_law_730 (q := 0) rfl ?_
  refine lj_iconst (v := 1) C dL_law_732 (by decide) ?_
  refine lj_iadd C dL_law_733 ?_
  refine lj_sld C hX hq (sI_vin (j := 1) (by decide) (by decide) hi hn) dL_law_734 ?_
  refine lj_aload_n C dL_law_735 rfl (q := 5) rfl ?_
  refine lj_iload C dL_law_736 (q := 0) rfl ?_
  refine lj_iconst (v := 2) C dL_law_738 (by decide) ?_
  refine lj_iadd C dL_law_739 ?_
  refine lj_sld C hX hq (sI_vin (j := 2) (by decide) (by decide) hi hn) dL_law_740 ?_
  refine lj_aload_n C dL_law_741 rfl (q := 2) rfl ?_
  refine lj_callW (As := [.ref b, .int (xs (nI i + 1).toNatClampNeg), .int (xs (nI i + 2).toNatClampNeg), .ref (b + 84)]) (c2 := c1 + ec + PhC A') (s2 := s1 + es + PhS A') C hG.1 mw_setHandlers csL_setHandlers ⟨by decide, by decide⟩ rfl (wc_setHandlers hG h.1.kb p1.2.2.2.1.1 p1.2.2.2.1.2.1 ef (fun E q => rOf_in kl q)) (Nat.le_of_ble_eq_true rfl) dL_law_742 (by omega) (by omega) fun v9 μ2 wp => ?_
  obtain ⟨rfl, p2, hj⟩ := wp_out (by decide) kl p1 wp
  refine lj_istore C dL_law_745 (by decide) rfl ?_
  refine lj_wf fun w2 => ?_
  obtain ⟨w9, μ3, eg, hw, e54, p3, ej, hc3, hs3⟩ := hg μ2 p2 w2 (p2.n86 w2)
  refine lj_aload_n C dL_law_747 rfl (q := 4) rfl ?_
  refine lj_aload_n C dL_law_748 rfl (q := 6) rfl ?_
  refine lj_iload C dL_law_749 (q := 1) rfl ?_
  refine lj_iconst (v := 1) C dL_law_751 (by decide) ?_
  refine lj_iadd C dL_law_752 ?_
  refine lj_sld C hX hq (sI_vin (j := 1) (by decide) (by decide) hi hn) dL_law_753 ?_
  refine lj_aload_n C dL_law_754 rfl (q := 6) rfl ?_
  refine lj_iload C dL_law_755 (q := 1) rfl ?_
  refine lj_iconst (v := 2) C dL_law_757 (by decide) ?_
  refine lj_iadd C dL_law_758 ?_
  refine lj_sld C hX hq (sI_vin (j := 2) (by decide) (by decide) hi hn) dL_law_759 ?_
  refine lj_callV (As := [.int (xs (nI i + 1).toNatClampNeg), .int (xs (nI i + 2).toNatClampNeg)]) (c2 := c1 + PhC A') (s2 := s1 + PhS A') C hG.1 mf_X11_setHandlers cvM_setHandlers p2.km ⟨by decide, by decide⟩ rfl rfl (Nat.le_of_ble_eq_true rfl) (s_X11_setHandlers hG.1 _ _ _ _ _ _ eg) (Nat.le_of_ble_eq_true rfl) dL_law_760 (by omega) (by omega) ?_
  refine lj_istore C dL_law_763 (by decide) rfl ?_
  refine lj_aload_n C dL_law_765 rfl (q := 5) rfl ?_
  refine lj_callV (As := []) (c2 := c1 + PhC A') (s2 := s1 + PhS A') C hG.1 mf_X11_thrown cvM_thrown p3.km ⟨by decide, by decide⟩ rfl rfl (Nat.le_of_ble_eq_true rfl) (s_X11_thrown hG.1 _ _ _ (m_thrown p3.km e54)) (Nat.le_of_ble_eq_true rfl) dL_law_766 (Nat.le_refl _) (Nat.le_refl _) ?_
  refine lj_iload C dL_law_769 (q := 1) rfl ?_
  refine lj_icmp_eq_t (tgt := 776) C dL_law_771 (by decide) rfl ?_
  refine lj_iload C dL_law_776 (q := 1) rfl ?_
  by_cases hk : k = 0
  · refine lj_if_ne_f (tgt := 793) C dL_law_778 (by decide) (by rw [hk]; rfl) ?_
    refine lj_aload_n C dL_law_781 rfl (q := 4) rfl ?_
    refine lj_iconst (v := 0) C dL_law_782 (by decide) ?_
    refine lj_laload C hG.1 p3.2.2.2.1.1 (by decide) rfl (vin1 p3.2.2.2.1.2.1) dL_law_783 ?_
    refine lj_iload C dL_law_784 (q := 0) rfl ?_
    refine lj_i2l C dL_law_786 ?_
    refine lj_lcmp C dL_law_787 (by rw [z0c, ej, hj hk, hw hk]) ?_
    refine lj_if_eq_t (tgt := 793) C dL_law_788 (by decide) rfl ?_
    refine lj_goto (tgt := 2500) C dL_law_793 (by decide) ?_
    exact lj_sub C [2, 3, 4, 5, 6, 7] rfl (kk A' μ3 ⟨p3, ai'⟩)
  · refine lj_if_ne_t (tgt := 793) C dL_law_778 (by decide) (nI_n0 (Nat.le_trans kl (by decide)) hk) ?_
    refine lj_goto (tgt := 2500) C dL_law_793 (by decide) ?_
    exact lj_sub C [2, 3, 4, 5, 6, 7] rfl (kk A' μ3 ⟨p3, ai'⟩)
theorem dL_law_796 : decode cL_law 796 = .ok (.aload_n 1, 1) := by decide +kernel
theorem dL_law_797 : decode cL_law 797 = .ok (.aload_n 0, 1) := by decide +kernel
theorem dL_law_798 : decode cL_law 798 = .ok (.iload 5, 2) := by decide +kernel
theorem dL_law_800 : decode cL_law 800 = .ok (.iconst 1, 1) := by decide +kernel
theorem dL_law_801 : decode cL_law 801 = .ok (.iadd, 1) := by decide +kernel
theorem dL_law_802 : decode cL_law 802 = .ok (.iaload, 1) := by decide +kernel
theorem dL_law_803 : decode cL_law 803 = .ok (.aload_n 0, 1) := by decide +kernel
theorem dL_law_804 : decode cL_law 804 = .ok (.iload 5, 2) := by decide +kernel
theorem dL_law_806 : decode cL_law 806 = .ok (.iconst 2, 1) := by decide +kernel
theorem dL_law_807 : decode cL_law 807 = .ok (.iadd, 1) := by decide +kernel
theorem dL_law_808 : decode cL_law 808 = .ok (.iaload, 1) := by decide +kernel
theorem dL_law_809 : decode cL_law 809 = .ok (.aload_n 3, 1) := by decide +kernel
theorem dL_law_810 : decode cL_law 810 = .ok (.invokestatic 163, 3) := by decide +kernel
theorem dL_law_813 : decode cL_law 813 = .ok (.istore 6, 2) := by decide +kernel
theorem dL_law_815 : decode cL_law 815 = .ok (.aload_n 2, 1) := by decide +kernel
theorem dL_law_816 : decode cL_law 816 = .ok (.aload_n 0, 1) := by decide +kernel
theorem dL_law_817 : decode cL_law 817 = .ok (.iload 5, 2) := by decide +kernel
theorem dL_law_819 : decode cL_law 819 = .ok (.iconst 1, 1) := by decide +kernel
theorem dL_law_820 : decode cL_law 820 = .ok (.iadd, 1) := by decide +kernel
theorem dL_law_821 : decode cL_law 821 = .ok (.iaload, 1) := by decide +kernel
theorem dL_law_822 : decode cL_law 822 = .ok (.aload_n 0, 1) := by decide +kernel
theorem dL_law_823 : decode cL_law 823 = .ok (.iload 5, 2) := by decide +kernel
theorem dL_law_825 : decode cL_law 825 = .ok (.iconst 2, 1) := by decide +kernel
theorem dL_law_826 : decode cL_law 826 = .ok (.iadd, 1) := by decide +kernel
theorem dL_law_827 : decode cL_law 827 = .ok (.iaload, 1) := by decide +kernel
theorem dL_law_828 : decode cL_law 828 = .ok (.invokevirtual 165, 3) := by decide +kernel
theorem dL_law_831 : decode cL_law 831 = .ok (.istore 7, 2) := by decide +kernel
theorem dL_law_833 : decode cL_law 833 = .ok (.aload_n 2, 1) := by decide +kernel
theorem dL_law_834 : decode cL_law 834 = .ok (.invokevirtual 137, 3) := by decide +kernel
theorem dL_law_837 : decode cL_law 837 = .ok (.iload 6, 2) := by decide +kernel
theorem dL_law_839 : decode cL_law 839 = .ok (.if_icmp .eq 5, 3) := by decide +kernel
theorem dL_law_844 : decode cL_law 844 = .ok (.iload 6, 2) := by decide +kernel
theorem dL_law_846 : decode cL_law 846 = .ok (.ifCond .ne 15, 3) := by decide +kernel
theorem dL_law_849 : decode cL_law 849 = .ok (.aload_n 3, 1) := by decide +kernel
theorem dL_law_850 : decode cL_law 850 = .ok (.iconst 0, 1) := by decide +kernel
theorem dL_law_851 : decode cL_law 851 = .ok (.laload, 1) := by decide +kernel
theorem dL_law_852 : decode cL_law 852 = .ok (.iload 7, 2) := by decide +kernel
theorem dL_law_854 : decode cL_law 854 = .ok (.i2l, 1) := by decide +kernel
theorem dL_law_855 : decode cL_law 855 = .ok (.lcmp, 1) := by decide +kernel
theorem dL_law_856 : decode cL_law 856 = .ok (.ifCond .eq 5, 3) := by decide +kernel
theorem dL_law_861 : decode cL_law 861 = .ok (.goto 1639, 3) := by decide +kernel
/-! setTime -/
set_option maxRecDepth 100000 in
theorem lc_8 {l : Launch} {G : Gt} {p : Program} {e : Env} {R : Room} {s : State} {m : MethodId} {args : Array Value} {below : List Frame} {meth : Method} {c : Code} {Q : State → Prop} (C : CW G mL_law p R s m meth c) (hG : Gok2 l G) {q0 n : Nat} {xs : Nat → Int32} (hX : va_X q0 n xs G.1 G.1.heap) (hq : q0 < G.1.heap.size) {b z i : Nat} {A : Sx} {μ : Mm} {c1 s1 : Nat} (hi : i + 6 ≤ n) (hn : n ≤ 3072) (h : JV b z A μ) (kk : ∀ A' μ', JV b z A' μ' → LJ l G mL_law p e R s m args below meth c Q 2500 (L0 b q0 i) [] μ' (c1 + PhC A') (s1 + PhS A')) : LJ l G mL_law p e R s m args below meth c Q 796 (L0 b q0 i) [] μ (c1 + 4 + PhC A) (s1 + 220 + PhS A) := by
  refine lj_wf fun w => ?_
  obtain ⟨k, v, A', μ1, dc, ds, ec, es, kl, ef, p1, hc1, hs1, ai', pc, ps, hg⟩ := op_setTime (x1 := (xs (nI i + 1).toNatClampNeg)) (x2 := (xs (nI i + 2).toNatClampNeg)) h w
  refine lj_aload_n C dL_law_796 rfl (q := 4) rfl ?_
  refine lj_aload_n C dL_law_797 rfl (q := 5) rfl ?_
  refine lj_iload C dL_law_798 (q := 0) rfl ?_
  refine lj_iconst (v := 1) C dL_law_800 (by decide) ?_
  refine lj_iadd C dL_law_801 ?_
  refine lj_sld C hX hq (sI_vin (j := 1) (by decide) (by decide) hi hn) dL_law_802 ?_
  refine lj_aload_n C dL_law_803 rfl (q := 5) rfl ?_
  refine lj_iload C dL_law_804 (q := 0) rfl ?_
  refine lj_iconst (v := 2) C dL_law_806 (by decide) ?_
  refine lj_iadd C dL_law_807 ?_
  refine lj_sld C hX hq (sI_vin (j := 2) (by decide) (by decide) hi hn) dL_law_808 ?_
  refine lj_aload_n C dL_law_809 rfl (q := 2) rfl ?_
  refine lj_callW (As := [.ref b, .int (xs (nI i + 1).toNatClampNeg), .int (xs (nI i + 2).toNatClampNeg), .ref (b + 84)]) (c2 := c1 + ec + PhC A') (s2 := s1 + es + PhS A') C hG.1 mw_setTime csL_setTime ⟨by decide, by decide⟩ rfl (wc_setTime hG h.1.kb p1.2.2.2.1.1 p1.2.2.2.1.2.1 ef (fun E q => rOf_in kl q)) (Nat.le_of_ble_eq_true rfl) dL_law_810 (by omega) (by omega) fun v9 μ2 wp => ?_
  obtain ⟨rfl, p2, hj⟩ := wp_out (by decide) kl p1 wp
  refine lj_istore C dL_law_813 (by decide) rfl ?_
  refine lj_wf fun w2 => ?_
  obtain ⟨w9, μ3, eg, hw, e54, p3, ej, hc3, hs3⟩ := hg μ2 p2 w2 (p2.n86 w2)
  refine lj_aload_n C dL_law_815 rfl (q := 4) rfl ?_
  refine lj_aload_n C dL_law_816 rfl (q := 6) rfl ?_
  refine lj_iload C dL_law_817 (q := 1) rfl ?_
  refine lj_iconst (v := 1) C dL_law_819 (by decide) ?_
  refine lj_iadd C dL_law_820 ?_
  refine lj_sld C hX hq (sI_vin (j := 1) (by decide) (by decide) hi hn) dL_law_821 ?_
  refine lj_aload_n C dL_law_822 rfl (q := 6) rfl ?_
  refine lj_iload C dL_law_823 (q := 1) rfl ?_
  refine lj_iconst (v := 2) C dL_law_825 (by decide) ?_
  refine lj_iadd C dL_law_826 ?_
  refine lj_sld C hX hq (sI_vin (j := 2) (by decide) (by decide) hi hn) dL_law_827 ?_
  refine lj_callV (As := [.int (xs (nI i + 1).toNatClampNeg), .int (xs (nI i + 2).toNatClampNeg)]) (c2 := c1 + PhC A') (s2 := s1 + PhS A') C hG.1 mf_X11_setTime cvM_setTime p2.km ⟨by decide, by decide⟩ rfl rfl (Nat.le_of_ble_eq_true rfl) (s_X11_setTime hG.1 _ _ _ _ _ _ eg) (Nat.le_of_ble_eq_true rfl) dL_law_828 (by omega) (by omega) ?_
  refine lj_istore C dL_law_831 (by decide) rfl ?_
  refine lj_aload_n C dL_law_833 rfl (q := 5) rfl ?_
  refine lj_callV (As := []) (c2 := c1 + PhC A') (s2 := s1 + PhS A') C hG.1 mf_X11_thrown cvM_thrown p3.km ⟨by decide, by decide⟩ rfl rfl (Nat.le_of_ble_eq_true rfl) (s_X11_thrown hG.1 _ _ _ (m_thrown p3.km e54)) (Nat.le_of_ble_eq_true rfl) dL_law_834 (Nat.le_refl _) (Nat.le_refl _) ?_
  refine lj_iload C dL_law_837 (q := 1) rfl ?_
  refine lj_icmp_eq_t (tgt := 844) C dL_law_839 (by decide) rfl ?_
  refine lj_iload C dL_law_844 (q := 1) rfl ?_
  by_cases hk : k = 0
  · refine lj_if_ne_f (tgt := 861) C dL_law_846 (by decide) (by rw [hk]; rfl) ?_
    refine lj_aload_n C dL_law_849 rfl (q := 4) rfl ?_
    refine lj_iconst (v := 0) C dL_law_850 (by decide) ?_
    refine lj_laload C hG.1 p3.2.2.2.1.1 (by decide) rfl (vin1 p3.2.2.2.1.2.1) dL_law_851 ?_
    refine lj_iload C dL_law_852 (q := 0) rfl ?_
    refine lj_i2l C dL_law_854 ?_
    refine lj_lcmp C dL_law_855 (by rw [z0c, ej, hj hk, hw hk]) ?_
    refine lj_if_eq_t (tgt := 861) C dL_law_856 (by decide) rfl ?_
    refine lj_goto (tgt := 2500) C dL_law_861 (by decide) ?_
    exact lj_sub C [2, 3, 4, 5, 6, 7] rfl (kk A' μ3 ⟨p3, ai'⟩)
  · refine lj_if_ne_t (tgt := 861) C dL_law_846 (by decide) (nI_n0 (Nat.le_trans kl (by decide)) hk) ?_
    refine lj_goto (tgt := 2500) C dL_law_861 (by decide) ?_
    exact lj_sub C [2, 3, 4, 5, 6, 7] rfl (kk A' μ3 ⟨p3, ai'⟩)
theorem dL_law_864 : decode cL_law 864 = .ok (.aload_n 1, 1) := by decide +kernel
theorem dL_law_865 : decode cL_law 865 = .ok (.invokevirtual 166, 3) := by decide +kernel
theorem dL_law_868 : decode cL_law 868 = .ok (.aload_n 2, 1) := by decide +kernel
theorem dL_law_869 : decode cL_law 869 = .ok (.invokevirtual 170, 3) := by decide +kernel
theorem dL_law_872 : decode cL_law 872 = .ok (.if_icmp .eq 1628, 3) := by decide +kernel
/-! interrupt -/
set_option maxRecDepth 100000 in
theorem lc_9 {l : Launch} {G : Gt} {p : Program} {e : Env} {R : Room} {s : State} {m : MethodId} {args : Array Value} {below : List Frame} {meth : Method} {c : Code} {Q : State → Prop} (C : CW G mL_law p R s m meth c) (hG : Gok2 l G) {q0 n : Nat} {xs : Nat → Int32} (hX : va_X q0 n xs G.1 G.1.heap) (hq : q0 < G.1.heap.size) {b z i : Nat} {A : Sx} {μ : Mm} {c1 s1 : Nat} (hi : i + 6 ≤ n) (hn : n ≤ 3072) (h : JV b z A μ) (kk : ∀ A' μ', JV b z A' μ' → LJ l G mL_law p e R s m args below meth c Q 2500 (L0 b q0 i) [] μ' (c1 + PhC A') (s1 + PhS A')) : LJ l G mL_law p e R s m args below meth c Q 864 (L0 b q0 i) [] μ (c1 + 4 + PhC A) (s1 + 220 + PhS A) := by
  refine lj_wf fun w => ?_
  obtain ⟨v, A', μ1, μ3, e1, e2, j3, pc, ps, p1, n1, t1, n3, t3⟩ := og_interrupt h w
  refine lj_aload_n C dL_law_864 rfl (q := 4) rfl ?_
  refine lj_callV (As := []) (c2 := c1 + 4 + PhC A + (mN μ - mN μ1)) (s2 := s1 + 220 + PhS A + (mS μ - mS μ1)) C hG.1 mf_X10_interrupt cvA_interrupt h.1.kb ⟨by decide, by decide⟩ rfl rfl (Nat.le_of_ble_eq_true rfl) (s_X10_interrupt hG.1 _ _ _ _ e1) (Nat.le_of_ble_eq_true rfl) dL_law_865 (by omega) (by omega) ?_
  refine lj_aload_n C dL_law_868 rfl (q := 3) rfl ?_
  refine lj_callV (As := []) (c2 := c1 + 4 + PhC A) (s2 := s1 + 220 + PhS A) C hG.1 mf_X11_interrupt cvM_interrupt p1.km ⟨by decide, by decide⟩ rfl rfl (Nat.le_of_ble_eq_true rfl) (s_X11_interrupt hG.1 _ _ _ _ e2) (Nat.le_of_ble_eq_true rfl) dL_law_869 (by omega) (by omega) ?_
  refine lj_icmp_eq_t (tgt := 2500) C dL_law_872 (by decide) rfl ?_
  exact lj_w (by omega) (by omega) (kk A' μ3 j3)
theorem dL_law_877 : decode cL_law 877 = .ok (.aload_n 1, 1) := by decide +kernel
theorem dL_law_878 : decode cL_law 878 = .ok (.aload_n 0, 1) := by decide +kernel
theorem dL_law_879 : decode cL_law 879 = .ok (.iload 5, 2) := by decide +kernel
theorem dL_law_881 : decode cL_law 881 = .ok (.iconst 1, 1) := by decide +kernel
theorem dL_law_882 : decode cL_law 882 = .ok (.iadd, 1) := by decide +kernel
theorem dL_law_883 : decode cL_law 883 = .ok (.iaload, 1) := by decide +kernel
theorem dL_law_884 : decode cL_law 884 = .ok (.aload_n 3, 1) := by decide +kernel
theorem dL_law_885 : decode cL_law 885 = .ok (.invokestatic 171, 3) := by decide +kernel
theorem dL_law_888 : decode cL_law 888 = .ok (.istore 6, 2) := by decide +kernel
theorem dL_law_890 : decode cL_law 890 = .ok (.aload_n 2, 1) := by decide +kernel
theorem dL_law_891 : decode cL_law 891 = .ok (.aload_n 0, 1) := by decide +kernel
theorem dL_law_892 : decode cL_law 892 = .ok (.iload 5, 2) := by decide +kernel
theorem dL_law_894 : decode cL_law 894 = .ok (.iconst 1, 1) := by decide +kernel
theorem dL_law_895 : decode cL_law 895 = .ok (.iadd, 1) := by decide +kernel
theorem dL_law_896 : decode cL_law 896 = .ok (.iaload, 1) := by decide +kernel
theorem dL_law_897 : decode cL_law 897 = .ok (.invokevirtual 173, 3) := by decide +kernel
theorem dL_law_900 : decode cL_law 900 = .ok (.istore 7, 2) := by decide +kernel
theorem dL_law_902 : decode cL_law 902 = .ok (.aload_n 2, 1) := by decide +kernel
theorem dL_law_903 : decode cL_law 903 = .ok (.invokevirtual 137, 3) := by decide +kernel
theorem dL_law_906 : decode cL_law 906 = .ok (.iload 6, 2) := by decide +kernel
theorem dL_law_908 : decode cL_law 908 = .ok (.if_icmp .eq 5, 3) := by decide +kernel
theorem dL_law_913 : decode cL_law 913 = .ok (.iload 6, 2) := by decide +kernel
theorem dL_law_915 : decode cL_law 915 = .ok (.ifCond .ne 15, 3) := by decide +kernel
theorem dL_law_918 : decode cL_law 918 = .ok (.aload_n 3, 1) := by decide +kernel
theorem dL_law_919 : decode cL_law 919 = .ok (.iconst 0, 1) := by decide +kernel
theorem dL_law_920 : decode cL_law 920 = .ok (.laload, 1) := by decide +kernel
theorem dL_law_921 : decode cL_law 921 = .ok (.iload 7, 2) := by decide +kernel
theorem dL_law_923 : decode cL_law 923 = .ok (.i2l, 1) := by decide +kernel
theorem dL_law_924 : decode cL_law 924 = .ok (.lcmp, 1) := by decide +kernel
theorem dL_law_925 : decode cL_law 925 = .ok (.ifCond .eq 5, 3) := by decide +kernel
theorem dL_law_930 : decode cL_law 930 = .ok (.goto 1570, 3) := by decide +kernel
/-! run -/
set_option maxRecDepth 100000 in
theorem lc_10 {l : Launch} {G : Gt} {p : Program} {e : Env} {R : Room} {s : State} {m : MethodId} {args : Array Value} {below : List Frame} {meth : Method} {c : Code} {Q : State → Prop} (C : CW G mL_law p R s m meth c) (hG : Gok2 l G) {q0 n : Nat} {xs : Nat → Int32} (hX : va_X q0 n xs G.1 G.1.heap) (hq : q0 < G.1.heap.size) {b z i : Nat} {A : Sx} {μ : Mm} {c1 s1 : Nat} (hi : i + 6 ≤ n) (hn : n ≤ 3072) (h : JV b z A μ) (kk : ∀ A' μ', JV b z A' μ' → LJ l G mL_law p e R s m args below meth c Q 2500 (L0 b q0 i) [] μ' (c1 + PhC A') (s1 + PhS A')) : LJ l G mL_law p e R s m args below meth c Q 877 (L0 b q0 i) [] μ (c1 + 4 + PhC A) (s1 + 220 + PhS A) := by
  refine lj_wf fun w => ?_
  obtain ⟨k, v, A', μ1, dc, ds, ec, es, kl, ef, p1, hc1, hs1, ai', pc, ps, hg⟩ := op_run (x1 := (xs (nI i + 1).toNatClampNeg)) h w (h.1.n86 w)
  refine lj_aload_n C dL_law_877 rfl (q := 4) rfl ?_
  refine lj_aload_n C dL_law_878 rfl (q := 5) rfl ?_
  refine lj_iload C dL_law_879 (q := 0) rfl ?_
  refine lj_iconst (v := 1) C dL_law_881 (by decide) ?_
  refine lj_iadd C dL_law_882 ?_
  refine lj_sld C hX hq (sI_vin (j := 1) (by decide) (by decide) hi hn) dL_law_883 ?_
  refine lj_aload_n C dL_law_884 rfl (q := 2) rfl ?_
  refine lj_callW (As := [.ref b, .int (xs (nI i + 1).toNatClampNeg), .ref (b + 84)]) (c2 := c1 + ec + PhC A') (s2 := s1 + es + PhS A') C hG.1 mw_run csL_run ⟨by decide, by decide⟩ rfl (wc_run hG h.1.kb p1.2.2.2.1.1 p1.2.2.2.1.2.1 ef (fun E q => rOf_in kl q)) (Nat.le_of_ble_eq_true rfl) dL_law_885 (by omega) (by omega) fun v9 μ2 wp => ?_
  obtain ⟨rfl, p2, hj⟩ := wp_out (by decide) kl p1 wp
  refine lj_istore C dL_law_888 (by decide) rfl ?_
  refine lj_wf fun w2 => ?_
  obtain ⟨w9, μ3, eg, hw, e54, p3, ej, hc3, hs3⟩ := hg μ2 p2 w2 (p2.n86 w2)
  refine lj_aload_n C dL_law_890 rfl (q := 4) rfl ?_
  refine lj_aload_n C dL_law_891 rfl (q := 6) rfl ?_
  refine lj_iload C dL_law_892 (q := 1) rfl ?_
  refine lj_iconst (v := 1) C dL_law_894 (by decide) ?_
  refine lj_iadd C dL_law_895 ?_
  refine lj_sld C hX hq (sI_vin (j := 1) (by decide) (by decide) hi hn) dL_law_896 ?_
  refine lj_callV (As := [.int (xs (nI i + 1).toNatClampNeg)]) (c2 := c1 + PhC A') (s2 := s1 + PhS A') C hG.1 mf_X11_run cvM_run p2.km ⟨by decide, by decide⟩ rfl rfl (Nat.le_of_ble_eq_true rfl) (s_X11_run hG.1 _ _ _ _ _ eg) (Nat.le_of_ble_eq_true rfl) dL_law_897 (by omega) (by omega) ?_
  refine lj_istore C dL_law_900 (by decide) rfl ?_
  refine lj_aload_n C dL_law_902 rfl (q := 5) rfl ?_
  refine lj_callV (As := []) (c2 := c1 + PhC A') (s2 := s1 + PhS A') C hG.1 mf_X11_thrown cvM_thrown p3.km ⟨by decide, by decide⟩ rfl rfl (Nat.le_of_ble_eq_true rfl) (s_X11_thrown hG.1 _ _ _ (m_thrown p3.km e54)) (Nat.le_of_ble_eq_true rfl) dL_law_903 (Nat.le_refl _) (Nat.le_refl _) ?_
  refine lj_iload C dL_law_906 (q := 1) rfl ?_
  refine lj_icmp_eq_t (tgt := 913) C dL_law_908 (by decide) rfl ?_
  refine lj_iload C dL_law_913 (q := 1) rfl ?_
  by_cases hk : k = 0
  · refine lj_if_ne_f (tgt := 930) C dL_law_915 (by decide) (by rw [hk]; rfl) ?_
    refine lj_aload_n C dL_law_918 rfl (q := 4) rfl ?_
    refine lj_iconst (v := 0) C dL_law_919 (by decide) ?_
    refine lj_laload C hG.1 p3.2.2.2.1.1 (by decide) rfl (vin1 p3.2.2.2.1.2.1) dL_law_920 ?_
    refine lj_iload C dL_law_921 (q := 0) rfl ?_
    refine lj_i2l C dL_law_923 ?_
    refine lj_lcmp C dL_law_924 (by rw [z0c, ej, hj hk, hw hk]) ?_
    refine lj_if_eq_t (tgt := 930) C dL_law_925 (by decide) rfl ?_
    refine lj_goto (tgt := 2500) C dL_law_930 (by decide) ?_
    exact lj_sub C [2, 3, 4, 5, 6, 7] rfl (kk A' μ3 ⟨p3, ai'⟩)
  · refine lj_if_ne_t (tgt := 930) C dL_law_915 (by decide) (nI_n0 (Nat.le_trans kl (by decide)) hk) ?_
    refine lj_goto (tgt := 2500) C dL_law_930 (by decide) ?_
    exact lj_sub C [2, 3, 4, 5, 6, 7] rfl (kk A' μ3 ⟨p3, ai'⟩)
theorem dL_law_933 : decode cL_law 933 = .ok (.aload_n 1, 1) := by decide +kernel
theorem dL_law_934 : decode cL_law 934 = .ok (.invokevirtual 174, 3) := by decide +kernel
theorem dL_law_937 : decode cL_law 937 = .ok (.aload_n 2, 1) := by decide +kernel
theorem dL_law_938 : decode cL_law 938 = .ok (.invokevirtual 177, 3) := by decide +kernel
theorem dL_law_941 : decode cL_law 941 = .ok (.if_icmp .eq 1559, 3) := by decide +kernel
/-! cycle -/
set_option maxRecDepth 100000 in
theorem lc_11 {l : Launch} {G : Gt} {p : Program} {e : Env} {R : Room} {s : State} {m : MethodId} {args : Array Value} {below : List Frame} {meth : Method} {c : Code} {Q : State → Prop} (C : CW G mL_law p R s m meth c) (hG : Gok2 l G) {q0 n : Nat} {xs : Nat → Int32} (hX : va_X q0 n xs G.1 G.1.heap) (hq : q0 < G.1.heap.size) {b z i : Nat} {A : Sx} {μ : Mm} {c1 s1 : Nat} (hi : i + 6 ≤ n) (hn : n ≤ 3072) (h : JV b z A μ) (kk : ∀ A' μ', JV b z A' μ' → LJ l G mL_law p e R s m args below meth c Q 2500 (L0 b q0 i) [] μ' (c1 + PhC A') (s1 + PhS A')) : LJ l G mL_law p e R s m args below meth c Q 933 (L0 b q0 i) [] μ (c1 + 4 + PhC A) (s1 + 220 + PhS A) := by
  refine lj_wf fun w => ?_
  obtain ⟨v, e1, e2⟩ := og_cycle h
  refine lj_aload_n C dL_law_933 rfl (q := 4) rfl ?_
  refine lj_callV (As := []) (c2 := c1 + 4 + PhC A) (s2 := s1 + 220 + PhS A) C hG.1 mf_X10_cycle cvA_cycle h.1.kb ⟨by decide, by decide⟩ rfl rfl (Nat.le_of_ble_eq_true rfl) (s_X10_cycle hG.1 _ _ _ e1) (Nat.le_of_ble_eq_true rfl) dL_law_934 (Nat.le_refl _) (Nat.le_refl _) ?_
  refine lj_aload_n C dL_law_937 rfl (q := 3) rfl ?_
  refine lj_callV (As := []) (c2 := c1 + 4 + PhC A) (s2 := s1 + 220 + PhS A) C hG.1 mf_X11_cycle cvM_cycle h.1.km ⟨by decide, by decide⟩ rfl rfl (Nat.le_of_ble_eq_true rfl) (s_X11_cycle hG.1 _ _ _ _ e2) (Nat.le_of_ble_eq_true rfl) dL_law_938 (Nat.le_refl _) (Nat.le_refl _) ?_
  refine lj_icmp_eq_t (tgt := 2500) C dL_law_941 (by decide) rfl ?_
  exact lj_w (by omega) (by omega) (kk A _ (h.s54 w))
theorem dL_law_946 : decode cL_law 946 = .ok (.aload_n 1, 1) := by decide +kernel
theorem dL_law_947 : decode cL_law 947 = .ok (.invokevirtual 178, 3) := by decide +kernel
theorem dL_law_950 : decode cL_law 950 = .ok (.aload_n 2, 1) := by decide +kernel
theorem dL_law_951 : decode cL_law 951 = .ok (.invokevirtual 181, 3) := by decide +kernel
theorem dL_law_954 : decode cL_law 954 = .ok (.if_icmp .eq 1546, 3) := by decide +kernel
/-! hasStopped -/
set_option maxRecDepth 100000 in
theorem lc_12 {l : Launch} {G : Gt} {p : Program} {e : Env} {R : Room} {s : State} {m : MethodId} {args : Array Value} {below : List Frame} {meth : Method} {c : Code} {Q : State → Prop} (C : CW G mL_law p R s m meth c) (hG : Gok2 l G) {q0 n : Nat} {xs : Nat → Int32} (hX : va_X q0 n xs G.1 G.1.heap) (hq : q0 < G.1.heap.size) {b z i : Nat} {A : Sx} {μ : Mm} {c1 s1 : Nat} (hi : i + 6 ≤ n) (hn : n ≤ 3072) (h : JV b z A μ) (kk : ∀ A' μ', JV b z A' μ' → LJ l G mL_law p e R s m args below meth c Q 2500 (L0 b q0 i) [] μ' (c1 + PhC A') (s1 + PhS A')) : LJ l G mL_law p e R s m args below meth c Q 946 (L0 b q0 i) [] μ (c1 + 4 + PhC A) (s1 + 220 + PhS A) := by
  refine lj_wf fun w => ?_
  obtain ⟨v, e1, e2⟩ := og_hasStopped h
  refine lj_aload_n C dL_law_946 rfl (q := 4) rfl ?_
  refine lj_callV (As := []) (c2 := c1 + 4 + PhC A) (s2 := s1 + 220 + PhS A) C hG.1 mf_X10_hasStopped cvA_hasStopped h.1.kb ⟨by decide, by decide⟩ rfl rfl (Nat.le_of_ble_eq_true rfl) (s_X10_hasStopped hG.1 _ _ _ e1) (Nat.le_of_ble_eq_true rfl) dL_law_947 (Nat.le_refl _) (Nat.le_refl _) ?_
  refine lj_aload_n C dL_law_950 rfl (q := 3) rfl ?_
  refine lj_callV (As := []) (c2 := c1 + 4 + PhC A) (s2 := s1 + 220 + PhS A) C hG.1 mf_X11_hasStopped cvM_hasStopped h.1.km ⟨by decide, by decide⟩ rfl rfl (Nat.le_of_ble_eq_true rfl) (s_X11_hasStopped hG.1 _ _ _ _ e2) (Nat.le_of_ble_eq_true rfl) dL_law_951 (Nat.le_refl _) (Nat.le_refl _) ?_
  refine lj_icmp_eq_t (tgt := 2500) C dL_law_954 (by decide) rfl ?_
  exact lj_w (by omega) (by omega) (kk A _ (h.s54 w))
theorem dL_law_959 : decode cL_law 959 = .ok (.aload_n 1, 1) := by decide +kernel
theorem dL_law_960 : decode cL_law 960 = .ok (.invokevirtual 182, 3) := by decide +kernel
theorem dL_law_963 : decode cL_law 963 = .ok (.aload_n 2, 1) := by decide +kernel
theorem dL_law_964 : decode cL_law 964 = .ok (.invokevirtual 185, 3) := by decide +kernel
theorem dL_law_967 : decode cL_law 967 = .ok (.if_icmp .eq 1533, 3) := by decide +kernel
/-! ends -/
set_option maxRecDepth 100000 in
theorem lc_13 {l : Launch} {G : Gt} {p : Program} {e : Env} {R : Room} {s : State} {m : MethodId} {args : Array Value} {below : List Frame} {meth : Method} {c : Code} {Q : State → Prop} (C : CW G mL_law p R s m meth c) (hG : Gok2 l G) {q0 n : Nat} {xs : Nat → Int32} (hX : va_X q0 n xs G.1 G.1.heap) (hq : q0 < G.1.heap.size) {b z i : Nat} {A : Sx} {μ : Mm} {c1 s1 : Nat} (hi : i + 6 ≤ n) (hn : n ≤ 3072) (h : JV b z A μ) (kk : ∀ A' μ', JV b z A' μ' → LJ l G mL_law p e R s m args below meth c Q 2500 (L0 b q0 i) [] μ' (c1 + PhC A') (s1 + PhS A')) : LJ l G mL_law p e R s m args below meth c Q 959 (L0 b q0 i) [] μ (c1 + 4 + PhC A) (s1 + 220 + PhS A) := by
  refine lj_wf fun w => ?_
  obtain ⟨v, e1, e2⟩ := og_ends h
  refine lj_aload_n C dL_law_959 rfl (q := 4) rfl ?_
  refine lj_callV (As := []) (c2 := c1 + 4 + PhC A) (s2 := s1 + 220 + PhS A) C hG.1 mf_X10_ends cvA_ends h.1.kb ⟨by decide, by decide⟩ rfl rfl (Nat.le_of_ble_eq_true rfl) (s_X10_ends hG.1 _ _ _ e1) (Nat.le_of_ble_eq_true rfl) dL_law_960 (Nat.le_refl _) (Nat.le_refl _) ?_
  refine lj_aload_n C dL_law_963 rfl (q := 3) rfl ?_
  refine lj_callV (As := []) (c2 := c1 + 4 + PhC A) (s2 := s1 + 220 + PhS A) C hG.1 mf_X11_ends_ cvM_ends h.1.km ⟨by decide, by decide⟩ rfl rfl (Nat.le_of_ble_eq_true rfl) (s_X11_ends_ hG.1 _ _ _ _ e2) (Nat.le_of_ble_eq_true rfl) dL_law_964 (Nat.le_refl _) (Nat.le_refl _) ?_
  refine lj_icmp_eq_t (tgt := 2500) C dL_law_967 (by decide) rfl ?_
  exact lj_w (by omega) (by omega) (kk A _ (h.s54 w))
