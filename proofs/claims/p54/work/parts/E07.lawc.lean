/-! runs of the law; its turn, its loop -/
section LAW7
variable {l : Launch} {G : Gt} {p : Program} {e : Env} {R : Room} {s : State} {m : MethodId} {args : Array Value} {below : List Frame} {meth : Method} {c : Code} {Q : State → Prop} {b z q0 n : Nat} {xs : Nat → Int32} {A A' : Sx} {μ : Mm} {c1 s1 : Nat}
theorem dL_law_31 : decode cL_law 31 = .ok (.iload 6, 2) := by decide +kernel
theorem dL_law_33 : decode cL_law 33 = .ok (.iload_n 3, 1) := by decide +kernel
theorem dL_law_34 : decode cL_law 34 = .ok (.if_icmp .ge 904, 3) := by decide +kernel
theorem dL_law_37 : decode cL_law 37 = .ok (.aload_n 0, 1) := by decide +kernel
theorem dL_law_38 : decode cL_law 38 = .ok (.iconst 1, 1) := by decide +kernel
theorem dL_law_39 : decode cL_law 39 = .ok (.iload 6, 2) := by decide +kernel
theorem dL_law_41 : decode cL_law 41 = .ok (.iadd, 1) := by decide +kernel
theorem dL_law_42 : decode cL_law 42 = .ok (.invokestatic 212, 3) := by decide +kernel
theorem dL_law_45 : decode cL_law 45 = .ok (.ldc 219, 2) := by decide +kernel
theorem dL_law_47 : decode cL_law 47 = .ok (.invokestatic 216, 3) := by decide +kernel
theorem dL_law_50 : decode cL_law 50 = .ok (.istore 7, 2) := by decide +kernel
theorem dL_law_52 : decode cL_law 52 = .ok (.iload 7, 2) := by decide +kernel
theorem dL_law_54 : decode cL_law 54 = .ok (.bipush 16, 2) := by decide +kernel
theorem dL_law_56 : decode cL_law 56 = .ok (.idiv, 1) := by decide +kernel
theorem dL_law_57 : decode cL_law 57 = .ok (.istore 8, 2) := by decide +kernel
theorem dL_law_59 : decode cL_law 59 = .ok (.iload 6, 2) := by decide +kernel
theorem dL_law_61 : decode cL_law 61 = .ok (.iconst 2, 1) := by decide +kernel
theorem dL_law_62 : decode cL_law 62 = .ok (.irem, 1) := by decide +kernel
theorem dL_law_63 : decode cL_law 63 = .ok (.ifCond .ne 7, 3) := by decide +kernel
theorem dL_law_66 : decode cL_law 66 = .ok (.iconst 1, 1) := by decide +kernel
theorem dL_law_67 : decode cL_law 67 = .ok (.goto 4, 3) := by decide +kernel
theorem dL_law_70 : decode cL_law 70 = .ok (.iconst 0, 1) := by decide +kernel
theorem dL_law_71 : decode cL_law 71 = .ok (.istore 9, 2) := by decide +kernel
theorem dL_law_73 : decode cL_law 73 = .ok (.iload 9, 2) := by decide +kernel
theorem dL_law_75 : decode cL_law 75 = .ok (.ifCond .eq 10, 3) := by decide +kernel
theorem dL_law_78 : decode cL_law 78 = .ok (.aload_n 1, 1) := by decide +kernel
theorem dL_law_79 : decode cL_law 79 = .ok (.invokestatic 220, 3) := by decide +kernel
theorem dL_law_82 : decode cL_law 82 = .ok (.goto 4, 3) := by decide +kernel
theorem dL_law_85 : decode cL_law 85 = .ok (.lconst 0, 1) := by decide +kernel
theorem dL_law_86 : decode cL_law 86 = .ok (.lstore 10, 2) := by decide +kernel
theorem dL_law_88 : decode cL_law 88 = .ok (.iconst 0, 1) := by decide +kernel
theorem dL_law_89 : decode cL_law 89 = .ok (.istore 12, 2) := by decide +kernel
theorem dL_law_91 : decode cL_law 91 = .ok (.iload 6, 2) := by decide +kernel
theorem dL_law_93 : decode cL_law 93 = .ok (.bipush 12, 2) := by decide +kernel
theorem dL_law_95 : decode cL_law 95 = .ok (.if_icmp .ge 11, 3) := by decide +kernel
theorem dL_law_98 : decode cL_law 98 = .ok (.iload 7, 2) := by decide +kernel
theorem dL_law_100 : decode cL_law 100 = .ok (.bipush 11, 2) := by decide +kernel
theorem dL_law_102 : decode cL_law 102 = .ok (.irem, 1) := by decide +kernel
theorem dL_law_103 : decode cL_law 103 = .ok (.goto 8, 3) := by decide +kernel
theorem dL_law_106 : decode cL_law 106 = .ok (.iload 7, 2) := by decide +kernel
theorem dL_law_108 : decode cL_law 108 = .ok (.bipush 16, 2) := by decide +kernel
theorem dL_law_110 : decode cL_law 110 = .ok (.irem, 1) := by decide +kernel
theorem dL_law_111 : decode cL_law 111 = .ok (.istore 13, 2) := by decide +kernel
theorem dL_law_113 : decode cL_law 113 = .ok (.aload_n 1, 1) := by decide +kernel
theorem dL_law_114 : decode cL_law 114 = .ok (.invokevirtual 140, 3) := by decide +kernel
theorem dL_law_117 : decode cL_law 117 = .ok (.ifCond .ne 7, 3) := by decide +kernel
theorem dL_law_120 : decode cL_law 120 = .ok (.iconst 1, 1) := by decide +kernel
theorem dL_law_121 : decode cL_law 121 = .ok (.goto 4, 3) := by decide +kernel
theorem dL_law_124 : decode cL_law 124 = .ok (.iconst 0, 1) := by decide +kernel
theorem dL_law_125 : decode cL_law 125 = .ok (.istore 14, 2) := by decide +kernel
theorem dL_law_127 : decode cL_law 127 = .ok (.iload 13, 2) := by decide +kernel
theorem dL_law_129 : decode cL_law 129 = .ok (.bipush 8, 2) := by decide +kernel
theorem dL_law_131 : decode cL_law 131 = .ok (.if_icmp .ge 77, 3) := by decide +kernel
theorem dL_law_208 : decode cL_law 208 = .ok (.iload 13, 2) := by decide +kernel
theorem dL_law_210 : decode cL_law 210 = .ok (.bipush 9, 2) := by decide +kernel
theorem dL_law_212 : decode cL_law 212 = .ok (.if_icmp .ge 73, 3) := by decide +kernel
theorem dL_law_285 : decode cL_law 285 = .ok (.iload 13, 2) := by decide +kernel
theorem dL_law_287 : decode cL_law 287 = .ok (.bipush 10, 2) := by decide +kernel
theorem dL_law_289 : decode cL_law 289 = .ok (.if_icmp .ge 75, 3) := by decide +kernel
theorem dL_law_364 : decode cL_law 364 = .ok (.iload 13, 2) := by decide +kernel
theorem dL_law_366 : decode cL_law 366 = .ok (.bipush 11, 2) := by decide +kernel
theorem dL_law_368 : decode cL_law 368 = .ok (.if_icmp .ge 211, 3) := by decide +kernel
theorem dL_law_579 : decode cL_law 579 = .ok (.iload 13, 2) := by decide +kernel
theorem dL_law_581 : decode cL_law 581 = .ok (.bipush 12, 2) := by decide +kernel
theorem dL_law_583 : decode cL_law 583 = .ok (.if_icmp .ge 23, 3) := by decide +kernel
theorem dL_law_606 : decode cL_law 606 = .ok (.iload 13, 2) := by decide +kernel
theorem dL_law_608 : decode cL_law 608 = .ok (.bipush 13, 2) := by decide +kernel
theorem dL_law_610 : decode cL_law 610 = .ok (.if_icmp .ge 41, 3) := by decide +kernel
theorem dL_law_651 : decode cL_law 651 = .ok (.aload_n 1, 1) := by decide +kernel
theorem dL_law_652 : decode cL_law 652 = .ok (.invokevirtual 140, 3) := by decide +kernel
theorem dL_law_655 : decode cL_law 655 = .ok (.istore 15, 2) := by decide +kernel
theorem dL_law_657 : decode cL_law 657 = .ok (.aload_n 1, 1) := by decide +kernel
theorem dL_law_658 : decode cL_law 658 = .ok (.invokevirtual 145, 3) := by decide +kernel
theorem dL_law_661 : decode cL_law 661 = .ok (.istore 16, 2) := by decide +kernel
theorem dL_law_663 : decode cL_law 663 = .ok (.aload_n 1, 1) := by decide +kernel
theorem dL_law_664 : decode cL_law 664 = .ok (.invokevirtual 246, 3) := by decide +kernel
theorem dL_law_667 : decode cL_law 667 = .ok (.istore 17, 2) := by decide +kernel
theorem dL_law_669 : decode cL_law 669 = .ok (.iconst 1, 1) := by decide +kernel
theorem dL_law_670 : decode cL_law 670 = .ok (.iload 8, 2) := by decide +kernel
theorem dL_law_672 : decode cL_law 672 = .ok (.bipush 12, 2) := by decide +kernel
theorem dL_law_674 : decode cL_law 674 = .ok (.irem, 1) := by decide +kernel
theorem dL_law_675 : decode cL_law 675 = .ok (.iadd, 1) := by decide +kernel
theorem dL_law_676 : decode cL_law 676 = .ok (.istore 18, 2) := by decide +kernel
theorem dL_law_678 : decode cL_law 678 = .ok (.aload_n 1, 1) := by decide +kernel
theorem dL_law_679 : decode cL_law 679 = .ok (.bipush 99, 2) := by decide +kernel
theorem dL_law_681 : decode cL_law 681 = .ok (.iload 18, 2) := by decide +kernel
theorem dL_law_683 : decode cL_law 683 = .ok (.iconst 0, 1) := by decide +kernel
theorem dL_law_684 : decode cL_law 684 = .ok (.invokestatic 231, 3) := by decide +kernel
theorem dL_law_687 : decode cL_law 687 = .ok (.istore 12, 2) := by decide +kernel
theorem dL_law_689 : decode cL_law 689 = .ok (.iload 12, 2) := by decide +kernel
theorem dL_law_691 : decode cL_law 691 = .ok (.ldc 18, 2) := by decide +kernel
theorem dL_law_693 : decode cL_law 693 = .ok (.if_icmp .ne 7, 3) := by decide +kernel
theorem dL_law_696 : decode cL_law 696 = .ok (.iconst 1, 1) := by decide +kernel
theorem dL_law_697 : decode cL_law 697 = .ok (.goto 4, 3) := by decide +kernel
theorem dL_law_700 : decode cL_law 700 = .ok (.iconst 0, 1) := by decide +kernel
theorem dL_law_701 : decode cL_law 701 = .ok (.iload 17, 2) := by decide +kernel
theorem dL_law_703 : decode cL_law 703 = .ok (.ifCond .eq 18, 3) := by decide +kernel
theorem dL_law_706 : decode cL_law 706 = .ok (.iload 15, 2) := by decide +kernel
theorem dL_law_708 : decode cL_law 708 = .ok (.iload 18, 2) := by decide +kernel
theorem dL_law_710 : decode cL_law 710 = .ok (.iadd, 1) := by decide +kernel
theorem dL_law_711 : decode cL_law 711 = .ok (.sipush 500, 3) := by decide +kernel
theorem dL_law_714 : decode cL_law 714 = .ok (.if_icmp .gt 7, 3) := by decide +kernel
theorem dL_law_717 : decode cL_law 717 = .ok (.iconst 1, 1) := by decide +kernel
theorem dL_law_718 : decode cL_law 718 = .ok (.goto 4, 3) := by decide +kernel
theorem dL_law_721 : decode cL_law 721 = .ok (.iconst 0, 1) := by decide +kernel
theorem dL_law_722 : decode cL_law 722 = .ok (.if_icmp .ne 32, 3) := by decide +kernel
theorem dL_law_725 : decode cL_law 725 = .ok (.iload 12, 2) := by decide +kernel
theorem dL_law_727 : decode cL_law 727 = .ok (.ifCond .lt 29, 3) := by decide +kernel
theorem dL_law_730 : decode cL_law 730 = .ok (.aload_n 1, 1) := by decide +kernel
theorem dL_law_731 : decode cL_law 731 = .ok (.invokevirtual 145, 3) := by decide +kernel
theorem dL_law_734 : decode cL_law 734 = .ok (.iload 16, 2) := by decide +kernel
theorem dL_law_736 : decode cL_law 736 = .ok (.iload 12, 2) := by decide +kernel
theorem dL_law_738 : decode cL_law 738 = .ok (.iadd, 1) := by decide +kernel
theorem dL_law_739 : decode cL_law 739 = .ok (.if_icmp .ne 15, 3) := by decide +kernel
theorem dL_law_742 : decode cL_law 742 = .ok (.aload_n 1, 1) := by decide +kernel
theorem dL_law_743 : decode cL_law 743 = .ok (.invokevirtual 140, 3) := by decide +kernel
theorem dL_law_746 : decode cL_law 746 = .ok (.iload 15, 2) := by decide +kernel
theorem dL_law_748 : decode cL_law 748 = .ok (.iload 18, 2) := by decide +kernel
theorem dL_law_750 : decode cL_law 750 = .ok (.iadd, 1) := by decide +kernel
theorem dL_law_751 : decode cL_law 751 = .ok (.if_icmp .le 5, 3) := by decide +kernel
theorem dL_law_756 : decode cL_law 756 = .ok (.iload 12, 2) := by decide +kernel
theorem dL_law_758 : decode cL_law 758 = .ok (.ifCond .ge 12, 3) := by decide +kernel
theorem dL_law_761 : decode cL_law 761 = .ok (.iload 4, 2) := by decide +kernel
theorem dL_law_763 : decode cL_law 763 = .ok (.ifCond .eq 7, 3) := by decide +kernel
theorem dL_law_766 : decode cL_law 766 = .ok (.iconst 1, 1) := by decide +kernel
theorem dL_law_767 : decode cL_law 767 = .ok (.goto 4, 3) := by decide +kernel
theorem dL_law_770 : decode cL_law 770 = .ok (.iconst 0, 1) := by decide +kernel
theorem dL_law_771 : decode cL_law 771 = .ok (.istore 4, 2) := by decide +kernel
theorem dL_law_773 : decode cL_law 773 = .ok (.iload 16, 2) := by decide +kernel
theorem dL_law_775 : decode cL_law 775 = .ok (.istore 19, 2) := by decide +kernel
theorem dL_law_777 : decode cL_law 777 = .ok (.iload 19, 2) := by decide +kernel
theorem dL_law_779 : decode cL_law 779 = .ok (.aload_n 1, 1) := by decide +kernel
theorem dL_law_780 : decode cL_law 780 = .ok (.invokevirtual 145, 3) := by decide +kernel
theorem dL_law_783 : decode cL_law 783 = .ok (.if_icmp .ge 49, 3) := by decide +kernel
theorem dL_law_786 : decode cL_law 786 = .ok (.aload_n 1, 1) := by decide +kernel
theorem dL_law_787 : decode cL_law 787 = .ok (.bipush 107, 2) := by decide +kernel
theorem dL_law_789 : decode cL_law 789 = .ok (.iload 19, 2) := by decide +kernel
theorem dL_law_791 : decode cL_law 791 = .ok (.invokestatic 249, 3) := by decide +kernel
theorem dL_law_794 : decode cL_law 794 = .ok (.aload_n 1, 1) := by decide +kernel
theorem dL_law_795 : decode cL_law 795 = .ok (.bipush 108, 2) := by decide +kernel
theorem dL_law_797 : decode cL_law 797 = .ok (.iload 19, 2) := by decide +kernel
theorem dL_law_799 : decode cL_law 799 = .ok (.invokestatic 249, 3) := by decide +kernel
theorem dL_law_802 : decode cL_law 802 = .ok (.if_icmp .ne 22, 3) := by decide +kernel
theorem dL_law_805 : decode cL_law 805 = .ok (.aload_n 1, 1) := by decide +kernel
theorem dL_law_806 : decode cL_law 806 = .ok (.bipush 112, 2) := by decide +kernel
theorem dL_law_808 : decode cL_law 808 = .ok (.iload 19, 2) := by decide +kernel
theorem dL_law_810 : decode cL_law 810 = .ok (.invokestatic 249, 3) := by decide +kernel
theorem dL_law_813 : decode cL_law 813 = .ok (.aload_n 1, 1) := by decide +kernel
theorem dL_law_814 : decode cL_law 814 = .ok (.bipush 113, 2) := by decide +kernel
theorem dL_law_816 : decode cL_law 816 = .ok (.iload 19, 2) := by decide +kernel
theorem dL_law_818 : decode cL_law 818 = .ok (.invokestatic 249, 3) := by decide +kernel
theorem dL_law_821 : decode cL_law 821 = .ok (.if_icmp .eq 5, 3) := by decide +kernel
theorem dL_law_826 : decode cL_law 826 = .ok (.iinc 19 1, 3) := by decide +kernel
theorem dL_law_829 : decode cL_law 829 = .ok (.goto (-52), 3) := by decide +kernel
theorem dL_law_832 : decode cL_law 832 = .ok (.iconst 0, 1) := by decide +kernel
theorem dL_law_833 : decode cL_law 833 = .ok (.istore 19, 2) := by decide +kernel
theorem dL_law_835 : decode cL_law 835 = .ok (.iload 19, 2) := by decide +kernel
theorem dL_law_837 : decode cL_law 837 = .ok (.bipush 8, 2) := by decide +kernel
theorem dL_law_839 : decode cL_law 839 = .ok (.if_icmp .ge 49, 3) := by decide +kernel
theorem dL_law_842 : decode cL_law 842 = .ok (.aload_n 1, 1) := by decide +kernel
theorem dL_law_843 : decode cL_law 843 = .ok (.bipush 114, 2) := by decide +kernel
theorem dL_law_845 : decode cL_law 845 = .ok (.iload 19, 2) := by decide +kernel
theorem dL_law_847 : decode cL_law 847 = .ok (.invokestatic 191, 3) := by decide +kernel
theorem dL_law_850 : decode cL_law 850 = .ok (.aload_n 1, 1) := by decide +kernel
theorem dL_law_851 : decode cL_law 851 = .ok (.bipush 113, 2) := by decide +kernel
theorem dL_law_853 : decode cL_law 853 = .ok (.iload 19, 2) := by decide +kernel
theorem dL_law_855 : decode cL_law 855 = .ok (.invokestatic 191, 3) := by decide +kernel
theorem dL_law_858 : decode cL_law 858 = .ok (.if_icmp .ne 22, 3) := by decide +kernel
theorem dL_law_861 : decode cL_law 861 = .ok (.aload_n 1, 1) := by decide +kernel
theorem dL_law_862 : decode cL_law 862 = .ok (.bipush 105, 2) := by decide +kernel
theorem dL_law_864 : decode cL_law 864 = .ok (.iload 19, 2) := by decide +kernel
theorem dL_law_866 : decode cL_law 866 = .ok (.invokestatic 191, 3) := by decide +kernel
theorem dL_law_869 : decode cL_law 869 = .ok (.aload_n 1, 1) := by decide +kernel
theorem dL_law_870 : decode cL_law 870 = .ok (.bipush 106, 2) := by decide +kernel
theorem dL_law_872 : decode cL_law 872 = .ok (.iload 19, 2) := by decide +kernel
theorem dL_law_874 : decode cL_law 874 = .ok (.invokestatic 191, 3) := by decide +kernel
theorem dL_law_877 : decode cL_law 877 = .ok (.if_icmp .eq 5, 3) := by decide +kernel
theorem dL_law_882 : decode cL_law 882 = .ok (.iinc 19 1, 3) := by decide +kernel
theorem dL_law_885 : decode cL_law 885 = .ok (.goto (-50), 3) := by decide +kernel
theorem dL_law_888 : decode cL_law 888 = .ok (.aload_n 1, 1) := by decide +kernel
theorem dL_law_889 : decode cL_law 889 = .ok (.invokevirtual 251, 3) := by decide +kernel
theorem dL_law_892 : decode cL_law 892 = .ok (.ifCond .eq 10, 3) := by decide +kernel
theorem dL_law_895 : decode cL_law 895 = .ok (.aload_n 1, 1) := by decide +kernel
theorem dL_law_896 : decode cL_law 896 = .ok (.invokevirtual 254, 3) := by decide +kernel
theorem dL_law_899 : decode cL_law 899 = .ok (.ifCond .ne 5, 3) := by decide +kernel
theorem dL_law_904 : decode cL_law 904 = .ok (.iconst 1, 1) := by decide +kernel
theorem dL_law_905 : decode cL_law 905 = .ok (.istore 4, 2) := by decide +kernel
def LE (j : Nat) (its : Int32) (bf : Int64) (wa : Bool) (b q0 k inn : Nat) (be : Bool) (steps pg : Nat) : List (Nat × Value) := (19, .int (nI j)) :: LT its bf wa b q0 k inn be steps pg
theorem ends_loop (C : CW G mL_law p R s m meth c) (hG : Gok3 l G) {its : Int32} {bf : Int64} {wa be : Bool} {k inn steps pg : Nat} (kf : ∀ μ2, JC b z A μ2 → LJ l G mL_law p e R s m args below meth c Q 832 (LT its bf wa b q0 k inn be steps pg) [] μ2 c1 s1) : ∀ (r j : Nat) (μ : Mm), j + r = aS A 14 → JC b z A μ → LJ l G mL_law p e R s m args below meth c Q 777 (LE j its bf wa b q0 k inn be steps pg) [] μ (c1 + 4 * r) (s1 + 24 * r)
  | 0, j, μ, hj, h => by
    have n14 := h.2.2.n14
    unfold LE LT
    refine lj_iload C dL_law_777 (q := 0) rfl ?_
    refine lj_aload_n C dL_law_779 rfl (q := 9) rfl ?_
    refine lg_ends C hG.1 rfl ⟨by decide, by decide⟩ h (Nat.le_of_ble_eq_true rfl) dL_law_780 ?_
    refine lj_icmp_ge_t (tgt := 832) C dL_law_783 (by decide) (nI_le (by omega) (by omega)) ?_
    refine lj_sub C [1, 2, 3, 4, 5, 6, 7, 8, 9, 10] rfl ?_
    exact kf μ h
  | r + 1, j, μ, hj, h => by
    have n14 := h.2.2.n14
    have ih := fun μ2 h2 => ends_loop C hG kf r (j + 1) μ2 (by omega) h2
    have e1 : c1 + 4 * (r + 1) = (c1 + 4 * r) + 4 := by omega
    have e2 : s1 + 24 * (r + 1) = (s1 + 24 * r) + 24 := by omega
    rw [e1, e2]
    unfold LE LT at ih ⊢
    refine lj_iload C dL_law_777 (q := 0) rfl ?_
    refine lj_aload_n C dL_law_779 rfl (q := 9) rfl ?_
    refine lg_ends C hG.1 rfl ⟨by decide, by decide⟩ h (Nat.le_of_ble_eq_true rfl) dL_law_780 ?_
    refine lj_icmp_ge_f (tgt := 832) C dL_law_783 (by decide) (nI_ge (by omega) (by omega)) ?_
    refine lj_aload_n C dL_law_786 rfl (q := 9) rfl ?_
    refine lj_bipush (v := 107) C dL_law_787 (by decide) ?_
    refine lj_iload C dL_law_789 (q := 0) rfl ?_
    refine la_k (c2 := c1 + 4 * r + 3) (s2 := s1 + 24 * r + 18) C hG.1 rfl ⟨by decide, by decide⟩ h (Nat.le_of_ble_eq_true rfl) dL_law_791 (by omega) (by omega) fun mh1 h1 => ?_
    refine lj_aload_n C dL_law_794 rfl (q := 9) rfl ?_
    refine lj_bipush (v := 108) C dL_law_795 (by decide) ?_
    refine lj_iload C dL_law_797 (q := 0) rfl ?_
    refine la_l (c2 := c1 + 4 * r + 2) (s2 := s1 + 24 * r + 12) C hG.1 rfl ⟨by decide, by decide⟩ h1 (Nat.le_of_ble_eq_true rfl) dL_law_799 (by omega) (by omega) fun mh2 h2 => ?_
    refine lj_icmp_ne_f (tgt := 824) C dL_law_802 (by decide) rfl ?_
    refine lj_aload_n C dL_law_805 rfl (q := 9) rfl ?_
    refine lj_bipush (v := 112) C dL_law_806 (by decide) ?_
    refine lj_iload C dL_law_808 (q := 0) rfl ?_
    refine la_p (c2 := c1 + 4 * r + 1) (s2 := s1 + 24 * r + 6) C hG.1 rfl ⟨by decide, by decide⟩ h2 (Nat.le_of_ble_eq_true rfl) dL_law_810 (by omega) (by omega) fun mh3 h3 => ?_
    refine lj_aload_n C dL_law_813 rfl (q := 9) rfl ?_
    refine lj_bipush (v := 113) C dL_law_814 (by decide) ?_
    refine lj_iload C dL_law_816 (q := 0) rfl ?_
    refine la_q (c2 := c1 + 4 * r + 0) (s2 := s1 + 24 * r + 0) C hG.1 rfl ⟨by decide, by decide⟩ h3 (Nat.le_of_ble_eq_true rfl) dL_law_818 (by omega) (by omega) fun mh4 h4 => ?_
    refine lj_icmp_eq_t (tgt := 826) C dL_law_821 (by decide) rfl ?_
    refine lj_iinc (v := nI (j + 1)) C dL_law_826 (q := 0) rfl (nI_addL (b := 1) (by decide)) (by decide) rfl ?_
    refine lj_goto (tgt := 777) C dL_law_829 (by decide) ?_
    exact ih _ h4
theorem regs_loop (C : CW G mL_law p R s m meth c) (hG : Gok3 l G) {its : Int32} {bf : Int64} {wa be : Bool} {k inn steps pg : Nat} (kf : ∀ μ2, JC b z A μ2 → LJ l G mL_law p e R s m args below meth c Q 888 (LT its bf wa b q0 k inn be steps pg) [] μ2 c1 s1) : ∀ (r j : Nat) (μ : Mm), j + r = 8 → JC b z A μ → LJ l G mL_law p e R s m args below meth c Q 835 (LE j its bf wa b q0 k inn be steps pg) [] μ (c1 + 4 * r) (s1 + 24 * r)
  | 0, j, μ, hj, h => by
    obtain rfl : j = 8 := by omega
    unfold LE LT
    refine lj_iload C dL_law_835 (q := 0) rfl ?_
    refine lj_bipush (v := 8) C dL_law_837 (by decide) ?_
    refine lj_icmp_ge_t (tgt := 888) C dL_law_839 (by decide) (by decide) ?_
    refine lj_sub C [1, 2, 3, 4, 5, 6, 7, 8, 9, 10] rfl ?_
    exact kf μ h
  | r + 1, j, μ, hj, h => by
    have ih := fun μ2 h2 => regs_loop C hG kf r (j + 1) μ2 (by omega) h2
    have e1 : c1 + 4 * (r + 1) = (c1 + 4 * r) + 4 := by omega
    have e2 : s1 + 24 * (r + 1) = (s1 + 24 * r) + 24 := by omega
    rw [e1, e2]
    have cl : (nI j).toNatClampNeg = j := clN (by omega)
    have ev : gv (k01 (rok (nI j))) (aV A 1 (aN A 1 (Int32.toNatClampNeg (nI j)))) exIAE = gv (k01 (rok (nI j))) ((plA A (aS A 14)).1 (Int32.toNatClampNeg (nI j))) exIAE := by rw [cl, h.2.2.pl.1 j (by omega)]
    unfold LE LT at ih ⊢
    refine lj_iload C dL_law_835 (q := 0) rfl ?_
    refine lj_bipush (v := 8) C dL_law_837 (by decide) ?_
    refine lj_icmp_ge_f (tgt := 888) C dL_law_839 (by decide) (nI_ge (a := j) (b := 8) (by omega) (by decide)) ?_
    refine lj_aload_n C dL_law_842 rfl (q := 9) rfl ?_
    refine lj_bipush (v := 114) C dL_law_843 (by decide) ?_
    refine lj_iload C dL_law_845 (q := 0) rfl ?_
    refine lo_r (c2 := c1 + 4 * r + 3) (s2 := s1 + 24 * r + 18) C hG.1 rfl ⟨by decide, by decide⟩ h (Nat.le_of_ble_eq_true rfl) dL_law_847 (by omega) (by omega) fun mh1 h1 => ?_
    refine lj_aload_n C dL_law_850 rfl (q := 9) rfl ?_
    refine lj_bipush (v := 113) C dL_law_851 (by decide) ?_
    refine lj_iload C dL_law_853 (q := 0) rfl ?_
    refine lo_q (c2 := c1 + 4 * r + 2) (s2 := s1 + 24 * r + 12) C hG.1 rfl ⟨by decide, by decide⟩ h1 (Nat.le_of_ble_eq_true rfl) dL_law_855 (by omega) (by omega) fun mh2 h2 => ?_
    refine lj_icmp_ne_f (tgt := 880) C dL_law_858 (by decide) ev ?_
    refine lj_aload_n C dL_law_861 rfl (q := 9) rfl ?_
    refine lj_bipush (v := 105) C dL_law_862 (by decide) ?_
    refine lj_iload C dL_law_864 (q := 0) rfl ?_
    refine lo_i (c2 := c1 + 4 * r + 1) (s2 := s1 + 24 * r + 6) C hG.1 rfl ⟨by decide, by decide⟩ h2 (Nat.le_of_ble_eq_true rfl) dL_law_866 (by omega) (by omega) fun mh3 h3 => ?_
    refine lj_aload_n C dL_law_869 rfl (q := 9) rfl ?_
    refine lj_bipush (v := 106) C dL_law_870 (by decide) ?_
    refine lj_iload C dL_law_872 (q := 0) rfl ?_
    refine lo_j (c2 := c1 + 4 * r + 0) (s2 := s1 + 24 * r + 0) C hG.1 rfl ⟨by decide, by decide⟩ h3 (Nat.le_of_ble_eq_true rfl) dL_law_874 (by omega) (by omega) fun mh4 h4 => ?_
    refine lj_icmp_eq_t (tgt := 882) C dL_law_877 (by decide) rfl ?_
    refine lj_iinc (v := nI (j + 1)) C dL_law_882 (q := 0) rfl (nI_addL (b := 1) (by decide)) (by decide) rfl ?_
    refine lj_goto (tgt := 835) C dL_law_885 (by decide) ?_
    exact ih _ h4
theorem run_end (C : CW G mL_law p R s m meth c) (hG : Gok3 l G) {its : Int32} {bf : Int64} {wa be : Bool} {k inn steps pg : Nat} {e0 : Nat} (he : e0 ≤ aS A 14) (h : JC b z A μ) (kf : ∀ μ2, JC b z A μ2 → LJ l G mL_law p e R s m args below meth c Q 907 (LT its bf wa b q0 k inn true steps pg) [] μ2 c1 s1) : LJ l G mL_law p e R s m args below meth c Q 773 ((16, .int (nI e0)) :: LT its bf wa b q0 k inn be steps pg) [] μ (c1 + 32 + 4 * (aS A 14 - e0)) (s1 + 192 + 24 * (aS A 14 - e0)) := by
  have k2 : ∀ μ2, JC b z A μ2 → LJ l G mL_law p e R s m args below meth c Q 888 (LT its bf wa b q0 k inn be steps pg) [] μ2 c1 s1 := fun μ2 h2 => by
    unfold LT at kf ⊢
    refine lj_aload_n C dL_law_888 rfl (q := 8) rfl ?_
    refine lg_isSame C hG.1 rfl ⟨by decide, by decide⟩ h2 (Nat.le_of_ble_eq_true rfl) dL_law_889 ?_
    refine lj_if_eq_f (tgt := 902) C dL_law_892 (by decide) (by decide) ?_
    refine lj_aload_n C dL_law_895 rfl (q := 8) rfl ?_
    refine lg_isWhole C hG.1 rfl ⟨by decide, by decide⟩ h2 (Nat.le_of_ble_eq_true rfl) dL_law_896 ?_
    refine lj_if_ne_t (tgt := 904) C dL_law_899 (by decide) (by decide) ?_
    refine lj_iconst (v := 1) C dL_law_904 (by decide) ?_
    refine lj_istore C dL_law_905 (by decide) rfl ?_
    refine lj_sub C [1, 2, 3, 4, 5, 0, 6, 7, 8, 9] rfl ?_
    exact kf μ2 h2
  have k3 : ∀ μ2, JC b z A μ2 → LJ l G mL_law p e R s m args below meth c Q 832 (LT its bf wa b q0 k inn be steps pg) [] μ2 (c1 + 32) (s1 + 192) := fun μ2 h2 => by
    have lp := regs_loop C hG k2 8 0 μ2 rfl h2
    unfold LE LT at lp
    unfold LT
    refine lj_iconst (v := 0) C dL_law_832 (by decide) ?_
    refine lj_istore C dL_law_833 (by decide) rfl ?_
    refine lj_sub C [0, 1, 2, 3, 4, 5, 6, 7, 8, 9, 10] rfl ?_
    exact lp
  have lp := ends_loop C hG k3 (aS A 14 - e0) e0 μ (by omega) h
  unfold LE LT at lp
  unfold LT
  refine lj_iload C dL_law_773 (q := 0) rfl ?_
  refine lj_istore C dL_law_775 (by decide) rfl ?_
  refine lj_sub C [0, 2, 3, 4, 5, 6, 7, 8, 9, 10, 11] rfl ?_
  exact lp
theorem okR_of {x : Int32} {n9 : Nat} (hx : x = nI n9) (h1 : 1 ≤ n9) (h2 : n9 ≤ 12) (h0 : aS A 0 ≤ 500) : okR A x = decide (aS A 0 + n9 ≤ 500) := by
  subst hx
  have c : ∀ n, n ≤ 12 → 1 ≤ n → (!decide (nI n < 1) && decide (nI n ≤ 60)) = true := by decide
  unfold okR
  rw [c n9 h2 h1, nI_add, Bool.true_and]
  have e : (nI (aS A 0 + n9) ≤ 500) ↔ aS A 0 + n9 ≤ 500 := nI_leI (a := aS A 0 + n9) (b := 500) (by omega) (by decide)
  simp only [e]
theorem law_c13 (C : CW G mL_law p R s m meth c) (hG : Gok3 l G) {kind w k inn steps pg : Nat} {bf : Int64} {wa be fi : Bool} (hw : w < 100000000) (hf : fi = decide (aS A 0 = 0)) (h : JC b z A μ) (la : LA pg be inn A) (kt : ∀ its pg2 be2 inn2 A2 μ2, JC b z A2 μ2 → LA pg2 be2 inn2 A2 → (its < -2000000000 → A2 = A) → LJ l G mL_law p e R s m args below meth c Q 907 (LT its bf wa b q0 k inn2 be2 steps pg2) [] μ2 (c1 + PC A2) (s1 + PS A2)) : LJ l G mL_law p e R s m args below meth c Q 651 (LMi fi kind bf wa w b q0 k inn be steps pg) [] μ (c1 + PC A + 44) (s1 + PS A + 880) := by
  obtain ⟨l15, l8, l2, lr⟩ := la
  have b1 : w % 12 < 12 := Nat.mod_lt _ (by decide)
  obtain ⟨x, hx⟩ : ∃ x, x = 1 + w % 12 := ⟨_, rfl⟩
  have x1 : 1 ≤ x := by omega
  have x2 : x ≤ 12 := by omega
  have n14 := h.2.2.n14
  have n0 := h.2.2.2.2
  have s1le := h.2.2.s1
  have hR := okR_of (A := A) (x := nI x) rfl x1 x2 n0
  have cl : (nI x).toNatClampNeg = x := clN (by omega)
  refine lj_w (c2 := c1 + 40 + 4 + PC A) (s2 := s1 + 600 + 220 + PS A) (by omega) (by omega) ?_
  unfold LMi
  refine lj_aload_n C dL_law_651 rfl (q := 11) rfl ?_
  refine lg_cycle C hG.1 rfl ⟨by decide, by decide⟩ h (Nat.le_of_ble_eq_true rfl) dL_law_652 ?_
  refine lj_istore C dL_law_655 (by decide) rfl ?_
  refine lj_aload_n C dL_law_657 rfl (q := 12) rfl ?_
  refine lg_ends C hG.1 rfl ⟨by decide, by decide⟩ h (Nat.le_of_ble_eq_true rfl) dL_law_658 ?_
  refine lj_istore C dL_law_661 (by decide) rfl ?_
  refine lj_aload_n C dL_law_663 rfl (q := 13) rfl ?_
  refine lg_hasStopped C hG.1 rfl ⟨by decide, by decide⟩ h (Nat.le_of_ble_eq_true rfl) dL_law_664 ?_
  refine lj_istore C dL_law_667 (by decide) rfl ?_
  refine lj_iconst (v := 1) C dL_law_669 (by decide) ?_
  refine lj_iload C dL_law_670 (q := 8) rfl ?_
  refine lj_bipush (v := 12) C dL_law_672 (by decide) ?_
  refine lj_iremE (v := nI (w % 12)) C dL_law_674 (by decide) (nI_mod (b := 12) (by decide) (by omega) (by decide)) ?_
  refine lj_iaddE (v := nI x) C dL_law_675 (by rw [hx]; exact nI_addR (b := 1) (by decide)) ?_
  refine lj_istore C dL_law_676 (by decide) rfl ?_
  refine lj_aload_n C dL_law_678 rfl (q := 15) rfl ?_
  refine lj_bipush (v := 99) C dL_law_679 (by decide) ?_
  refine lj_iload C dL_law_681 (q := 0) rfl ?_
  refine lj_iconst (v := 0) C dL_law_683 (by decide) ?_
  refine ls_c (c2 := c1 + 40) (s2 := s1 + 600) C hG.1 rfl ⟨by decide, by decide⟩ h (Nat.le_of_ble_eq_true rfl) dL_law_684 fun A2 μ2 rn h2 => ?_
  obtain ⟨r0, r15, r8, r14, r0a, r0b, r01⟩ := rn
  have n142 := h2.2.2.n14
  rw [cl] at r0b
  have fin : ∀ (its : Int32) (be2 : Bool), (its < -2000000000 → A2 = A) → RV A2 → LJ l G mL_law p e R s m args below meth c Q 773 ((16, .int (nI (aS A 14))) :: LT its bf wa b q0 k inn be2 steps pg) [] μ2 (c1 + 40 + PC A2 + 4 * (aS A2 14 - aS A 14)) (s1 + 600 + PS A2 + 24 * (aS A2 14 - aS A 14)) := fun its be2 hi hv => lj_w (by omega) (by omega) (run_end (c1 := c1 + PC A2) (s1 := s1 + PS A2) C hG r14 h2 fun μ3 h3 => kt its pg true inn A2 μ3 h3 ⟨r15.trans l15, r8.trans l8, fun q => absurd q (by decide), hv⟩ hi)
  have mid : ∀ (its : Int32), (its < -2000000000 → A2 = A) → RV A2 → LJ l G mL_law p e R s m args below meth c Q 756 ((16, .int (nI (aS A 14))) :: LT its bf wa b q0 k inn be steps pg) [] μ2 (c1 + 40 + PC A2 + 4 * (aS A2 14 - aS A 14)) (s1 + 600 + PS A2 + 24 * (aS A2 14 - aS A 14)) := fun its hi hv => by
    have f1 := fin its true hi hv
    have f0 := fin its false hi hv
    unfold LT at f1 f0 ⊢
    refine lj_iload C dL_law_756 (q := 1) rfl ?_
    by_cases q : 0 ≤ its
    · refine lj_if_ge_t (tgt := 770) C dL_law_758 (by decide) q ?_
      refine lj_iconst (v := 0) C dL_law_770 (by decide) ?_
      refine lj_istore C dL_law_771 (by decide) rfl ?_
      refine lj_sub C [1, 2, 3, 4, 5, 6, 0, 7, 8, 9, 10] rfl ?_
      exact f0
    · cases be with
      | false =>
        refine lj_if_ge_f (tgt := 770) C dL_law_758 (by decide) q ?_
        refine lj_iload C dL_law_761 (q := 6) rfl ?_
        refine lj_if_eq_t (tgt := 770) C dL_law_763 (by decide) rfl ?_
        refine lj_iconst (v := 0) C dL_law_770 (by decide) ?_
        refine lj_istore C dL_law_771 (by decide) rfl ?_
        refine lj_sub C [1, 2, 3, 4, 5, 6, 0, 7, 8, 9, 10] rfl ?_
        exact f0
      | true =>
        refine lj_if_ge_f (tgt := 770) C dL_law_758 (by decide) q ?_
        refine lj_iload C dL_law_761 (q := 6) rfl ?_
        refine lj_if_eq_f (tgt := 770) C dL_law_763 (by decide) (by decide) ?_
        refine lj_iconst (v := 1) C dL_law_766 (by decide) ?_
        refine lj_goto (tgt := 771) C dL_law_767 (by decide) ?_
        refine lj_istore C dL_law_771 (by decide) rfl ?_
        refine lj_sub C [1, 2, 3, 4, 5, 6, 0, 7, 8, 9, 10] rfl ?_
        exact f1
  by_cases hk : kRun A (nI x) = 0
  · obtain ⟨a1, n9, -, -, -, q3, q4⟩ := kRun_0 hk n0
    rw [cl] at q3
    subst q3
    rw [hk, exv_oc0, nI_sub (b := aS A 14) rfl r14]
    have its0 : (0 : Int32) ≤ nI (aS A2 14 - aS A 14) := nI_pos' (by omega)
    have mm := mid _ (fun q => absurd q (m2_lt its0)) (fun q => by have := r01 hk; omega)
    unfold LT at mm
    refine lj_istore C dL_law_687 (by decide) rfl ?_
    refine lj_iload C dL_law_689 (q := 0) rfl ?_
    refine lj_ldc C hG.1.1 lc_L_18 dL_law_691 ?_
    refine lj_icmp_ne_t (tgt := 700) C dL_law_693 (by decide) (m3_ne its0) ?_
    refine lj_iconst (v := 0) C dL_law_700 (by decide) ?_
    refine lj_iload C dL_law_701 (q := 2) rfl ?_
    refine lj_if_eq_t (tgt := 721) C dL_law_703 (by decide) (by rw [a1]; rfl) ?_
    refine lj_iconst (v := 0) C dL_law_721 (by decide) ?_
    refine lj_icmp_ne_f (tgt := 754) C dL_law_722 (by decide) rfl ?_
    refine lj_iload C dL_law_725 (q := 0) rfl ?_
    refine lj_if_lt_f (tgt := 756) C dL_law_727 (by decide) (Int32.not_lt.mpr its0) ?_
    refine lj_aload_n C dL_law_730 rfl (q := 15) rfl ?_
    refine lg_ends C hG.1 rfl ⟨by decide, by decide⟩ h2 (Nat.le_of_ble_eq_true rfl) dL_law_731 ?_
    refine lj_iload C dL_law_734 (q := 3) rfl ?_
    refine lj_iload C dL_law_736 (q := 0) rfl ?_
    refine lj_iaddE (v := nI (aS A2 14)) C dL_law_738 (by rw [nI_add]; congr 1; omega) ?_
    refine lj_icmp_ne_f (tgt := 754) C dL_law_739 (by decide) rfl ?_
    refine lj_aload_n C dL_law_742 rfl (q := 15) rfl ?_
    refine lg_cycle C hG.1 rfl ⟨by decide, by decide⟩ h2 (Nat.le_of_ble_eq_true rfl) dL_law_743 ?_
    refine lj_iload C dL_law_746 (q := 4) rfl ?_
    refine lj_iload C dL_law_748 (q := 1) rfl ?_
    refine lj_iaddE (v := nI (aS A 0 + x)) C dL_law_750 (nI_add _ _) ?_
    refine lj_icmp_le_t (tgt := 756) C dL_law_751 (by decide) (nI_le r0b (by omega)) ?_
    refine lj_sub C [3, 0, 7, 8, 10, 11, 12, 13, 14, 15, 16] rfl ?_
    exact mm
  · have eB : A2 = A := by rw [r0, if_neg hk]
    have hv : RV A2 := by rw [eB]; exact lr
    have k12 : kRun A (nI x) = 1 ∨ kRun A (nI x) = 2 := by have := kRun_le (A := A) (nI x); omega
    rcases k12 with k1 | k2
    · have nR : ¬ aS A 0 + x ≤ 500 := fun q => by
        unfold kRun at k1
        rw [hR, decide_eq_true q, if_neg (by decide)] at k1
        split at k1 <;> cases k1
      rw [k1, exv_oc1]
      have mm := mid (-2000000002) (fun _ => eB) hv
      unfold LT at mm
      refine lj_istore C dL_law_687 (by decide) rfl ?_
      refine lj_iload C dL_law_689 (q := 0) rfl ?_
      refine lj_ldc C hG.1.1 lc_L_18 dL_law_691 ?_
      refine lj_icmp_ne_t (tgt := 700) C dL_law_693 (by decide) (by decide) ?_
      refine lj_iconst (v := 0) C dL_law_700 (by decide) ?_
      refine lj_iload C dL_law_701 (q := 2) rfl ?_
      have f21 : LJ l G mL_law p e R s m args below meth c Q 721 [(12, .int ((-2000000002))), (18, .int (nI x)), (17, .int (nI (aS A 1))), (16, .int (nI (aS A 14))), (15, .int (nI (aS A 0))), (14, .int (bI fi)), (13, .int (nI kind)), (10, .long bf), (9, .int (bI wa)), (8, .int (nI w)), (6, .int (nI k)), (5, .int (nI inn)), (4, .int (bI be)), (3, .int (nI steps)), (2, .int (nI pg)), (1, .ref b), (0, .ref q0)] [.int 0] μ2 (c1 + 40 + PC A2 + 4 * (aS A2 14 - aS A 14)) (s1 + 600 + PS A2 + 24 * (aS A2 14 - aS A 14)) := by
        refine lj_iconst (v := 0) C dL_law_721 (by decide) ?_
        refine lj_icmp_ne_f (tgt := 754) C dL_law_722 (by decide) rfl ?_
        refine lj_iload C dL_law_725 (q := 0) rfl ?_
        refine lj_if_lt_t (tgt := 756) C dL_law_727 (by decide) (by decide) ?_
        refine lj_sub C [3, 0, 7, 8, 10, 11, 12, 13, 14, 15, 16] rfl ?_
        exact mm
      by_cases h1 : aS A 1 = 0
      · refine lj_if_eq_t (tgt := 721) C dL_law_703 (by decide) (by rw [h1]; rfl) ?_
        exact f21
      · refine lj_if_eq_f (tgt := 721) C dL_law_703 (by decide) (nI_ne0 (by omega) (by omega)) ?_
        refine lj_iload C dL_law_706 (q := 4) rfl ?_
        refine lj_iload C dL_law_708 (q := 1) rfl ?_
        refine lj_iaddE (v := nI (aS A 0 + x)) C dL_law_710 (nI_add _ _) ?_
        refine lj_sipush (v := 500) C dL_law_711 (by decide) ?_
        refine lj_icmp_gt_t (tgt := 721) C dL_law_714 (by decide) (nI_lt (a := 500) (b := aS A 0 + x) (by omega) (by omega)) ?_
        exact f21
    · have hs : aS A 1 ≠ 0 ∧ aS A 0 + x ≤ 500 := by
        unfold kRun at k2
        by_cases q : aS A 0 + x ≤ 500
        · rw [hR, decide_eq_true q, if_neg (by decide)] at k2
          refine ⟨fun t => ?_, q⟩
          rw [if_pos t] at k2
          cases k2
        · rw [hR, decide_eq_false q, if_pos rfl] at k2
          cases k2
      rw [k2, exv_oc2]
      have mm := mid (-2000000003) (fun _ => eB) hv
      unfold LT at mm
      refine lj_istore C dL_law_687 (by decide) rfl ?_
      refine lj_iload C dL_law_689 (q := 0) rfl ?_
      refine lj_ldc C hG.1.1 lc_L_18 dL_law_691 ?_
      refine lj_icmp_ne_f (tgt := 700) C dL_law_693 (by decide) rfl ?_
      refine lj_iconst (v := 1) C dL_law_696 (by decide) ?_
      refine lj_goto (tgt := 701) C dL_law_697 (by decide) ?_
      refine lj_iload C dL_law_701 (q := 2) rfl ?_
      refine lj_if_eq_f (tgt := 721) C dL_law_703 (by decide) (nI_ne0 (by omega) (by omega)) ?_
      refine lj_iload C dL_law_706 (q := 4) rfl ?_
      refine lj_iload C dL_law_708 (q := 1) rfl ?_
      refine lj_iaddE (v := nI (aS A 0 + x)) C dL_law_710 (nI_add _ _) ?_
      refine lj_sipush (v := 500) C dL_law_711 (by decide) ?_
      refine lj_icmp_gt_f (tgt := 721) C dL_law_714 (by decide) (Int32.not_lt.mpr (nI_le (a := aS A 0 + x) (b := 500) hs.2 (by decide))) ?_
      refine lj_iconst (v := 1) C dL_law_717 (by decide) ?_
      refine lj_goto (tgt := 722) C dL_law_718 (by decide) ?_
      refine lj_icmp_ne_f (tgt := 754) C dL_law_722 (by decide) rfl ?_
      refine lj_iload C dL_law_725 (q := 0) rfl ?_
      refine lj_if_lt_t (tgt := 756) C dL_law_727 (by decide) (by decide) ?_
      refine lj_sub C [3, 0, 7, 8, 10, 11, 12, 13, 14, 15, 16] rfl ?_
      exact mm
theorem law_mid (C : CW G mL_law p R s m meth c) (hG : Gok3 l G) {kind w k inn steps pg : Nat} {bf : Int64} {wa be fi : Bool} (hkd : kind < 16) (hw : w < 100000000) (hf : fi = decide (aS A 0 = 0)) (h : JC b z A μ) (la : LA pg be inn A) (kt : ∀ its pg2 be2 inn2 A2 μ2, JC b z A2 μ2 → LA pg2 be2 inn2 A2 → (its < -2000000000 → A2 = A) → LJ l G mL_law p e R s m args below meth c Q 907 (LT its bf wa b q0 k inn2 be2 steps pg2) [] μ2 (c1 + PC A2) (s1 + PS A2)) : LJ l G mL_law p e R s m args below meth c Q 127 (LMi fi kind bf wa w b q0 k inn be steps pg) [] μ (c1 + PC A + 44) (s1 + PS A + 880) := by
  have k0 := law_c0 C hG hw hf h la kt (kind := kind)
  have k1 := law_c8 C hG hw hf h la kt (kind := kind)
  have k2 := law_c9 C hG hw hf h la kt (kind := kind)
  have k3 := law_c10 C hG hw hf h la kt (kind := kind)
  have k4 := law_c11 C hG hw hf h la kt (kind := kind)
  have k5 := law_c12 C hG hw hf h la kt (kind := kind)
  have k9 := law_c13 C hG hw hf h la kt (kind := kind)
  unfold LMi at k0 k1 k2 k3 k4 k5 k9 ⊢
  refine lj_iload C dL_law_127 (q := 1) rfl ?_
  refine lj_bipush (v := 8) C dL_law_129 (by decide) ?_
  by_cases q0 : kind < 8
  · refine lj_icmp_ge_f (tgt := 208) C dL_law_131 (by decide) (nI_ge (a := kind) (b := 8) q0 (by decide)) ?_
    exact lj_w (by omega) (by omega) k0
  refine lj_icmp_ge_t (tgt := 208) C dL_law_131 (by decide) (nI_le (a := 8) (b := kind) (by omega) (by omega)) ?_
  refine lj_iload C dL_law_208 (q := 1) rfl ?_
  refine lj_bipush (v := 9) C dL_law_210 (by decide) ?_
  by_cases q1 : kind < 9
  · refine lj_icmp_ge_f (tgt := 285) C dL_law_212 (by decide) (nI_ge (a := kind) (b := 9) q1 (by decide)) ?_
    exact lj_w (by omega) (by omega) k1
  refine lj_icmp_ge_t (tgt := 285) C dL_law_212 (by decide) (nI_le (a := 9) (b := kind) (by omega) (by omega)) ?_
  refine lj_iload C dL_law_285 (q := 1) rfl ?_
  refine lj_bipush (v := 10) C dL_law_287 (by decide) ?_
  by_cases q2 : kind < 10
  · refine lj_icmp_ge_f (tgt := 364) C dL_law_289 (by decide) (nI_ge (a := kind) (b := 10) q2 (by decide)) ?_
    exact lj_w (by omega) (by omega) k2
  refine lj_icmp_ge_t (tgt := 364) C dL_law_289 (by decide) (nI_le (a := 10) (b := kind) (by omega) (by omega)) ?_
  refine lj_iload C dL_law_364 (q := 1) rfl ?_
  refine lj_bipush (v := 11) C dL_law_366 (by decide) ?_
  by_cases q3 : kind < 11
  · refine lj_icmp_ge_f (tgt := 579) C dL_law_368 (by decide) (nI_ge (a := kind) (b := 11) q3 (by decide)) ?_
    exact lj_w (by omega) (by omega) k3
  refine lj_icmp_ge_t (tgt := 579) C dL_law_368 (by decide) (nI_le (a := 11) (b := kind) (by omega) (by omega)) ?_
  refine lj_iload C dL_law_579 (q := 1) rfl ?_
  refine lj_bipush (v := 12) C dL_law_581 (by decide) ?_
  by_cases q4 : kind < 12
  · refine lj_icmp_ge_f (tgt := 606) C dL_law_583 (by decide) (nI_ge (a := kind) (b := 12) q4 (by decide)) ?_
    exact lj_w (by omega) (by omega) k4
  refine lj_icmp_ge_t (tgt := 606) C dL_law_583 (by decide) (nI_le (a := 12) (b := kind) (by omega) (by omega)) ?_
  refine lj_iload C dL_law_606 (q := 1) rfl ?_
  refine lj_bipush (v := 13) C dL_law_608 (by decide) ?_
  by_cases q5 : kind < 13
  · refine lj_icmp_ge_f (tgt := 651) C dL_law_610 (by decide) (nI_ge (a := kind) (b := 13) q5 (by decide)) ?_
    exact lj_w (by omega) (by omega) k5
  refine lj_icmp_ge_t (tgt := 651) C dL_law_610 (by decide) (nI_le (a := 13) (b := kind) (by omega) (by omega)) ?_
  exact k9
theorem law_turn (C : CW G mL_law p R s m meth c) (hG : Gok3 l G) (hX : va_X q0 n xs G.1 G.1.heap) (hq : q0 < G.1.heap.size) (hn : n ≤ 260) {k inn steps pg : Nat} {be : Bool} (hk : k < steps) (hs : steps < 59) (h : JC b z A μ) (la : LA pg be inn A) (kk : ∀ pg2 be2 inn2 A2 μ2, JC b z A2 μ2 → LA pg2 be2 inn2 A2 → LJ l G mL_law p e R s m args below meth c Q 31 (L0 b q0 (k + 1) inn2 be2 steps pg2) [] μ2 (c1 + PC A2) (s1 + PS A2)) : LJ l G mL_law p e R s m args below meth c Q 37 (L0 b q0 k inn be steps pg) [] μ (c1 + PC A + 240) (s1 + PS A + 4800) := by
  have mid : ∀ (kind w : Nat) (bf : Int64) (wa : Bool) (μ2 : Mm), kind < 16 → w < 100000000 → JC b z A μ2 → (wa = true → bf = sumV A) → LJ l G mL_law p e R s m args below meth c Q 127 (LMi (decide (aS A 0 = 0)) kind bf wa w b q0 k inn be steps pg) [] μ2 (c1 + PC A + 142) (s1 + PS A + 2840) := fun kind w bf wa μ2 hkd hw h2 hb => by
    refine lj_w (c2 := (c1 + 98) + PC A + 44) (s2 := (s1 + 1960) + PS A + 880) (by omega) (by omega) (law_mid C hG hkd hw rfl h2 la fun its pg2 be2 inn2 A2 μ3 h3 la2 hi => ?_)
    exact lj_w (by omega) (by omega) (law_tail (A := A) C hG h3 hb hi fun μ4 h4 => kk pg2 be2 inn2 A2 μ4 h4 la2)
  unfold L0
  unfold LMi at mid
  refine lj_aload_n C dL_law_37 rfl (q := 6) rfl ?_
  refine lj_iconst (v := 1) C dL_law_38 (by decide) ?_
  refine lj_iload C dL_law_39 (q := 0) rfl ?_
  refine lj_iaddE (v := nI (1 + k)) C dL_law_41 (nI_addR (b := 1) (by decide)) ?_
  refine lj_at C hG.1 rfl ⟨by decide, by decide⟩ hX hq hn (by omega) (Nat.le_of_ble_eq_true rfl) dL_law_42 ?_
  refine lj_ldc C hG.1.1 lc_L_219 dL_law_45 ?_
  refine lj_some C hG.1 rfl ⟨by decide, by decide⟩ (n := 100000000) (by decide) (by decide) (by decide) (Nat.le_of_ble_eq_true rfl) dL_law_47 fun v hv => ?_
  have b16 : v / 16 ≤ v := Nat.div_le_self _ _
  refine lj_istore C dL_law_50 (by decide) rfl ?_
  refine lj_iload C dL_law_52 (q := 0) rfl ?_
  refine lj_bipush (v := 16) C dL_law_54 (by decide) ?_
  refine lj_idivE (v := nI (v / 16)) C dL_law_56 (by decide) (nI_div (b := 16) (by decide) (by omega) (by decide)) ?_
  refine lj_istore C dL_law_57 (by decide) rfl ?_
  refine lj_iload C dL_law_59 (q := 2) rfl ?_
  refine lj_iconst (v := 2) C dL_law_61 (by decide) ?_
  refine lj_iremE (v := nI (k % 2)) C dL_law_62 (by decide) (nI_mod (b := 2) (by decide) (by omega) (by decide)) ?_
  have low : ∀ (bf : Int64) (wa : Bool) (μ2 : Mm), JC b z A μ2 → (wa = true → bf = sumV A) → LJ l G mL_law p e R s m args below meth c Q 88 [(10, .long bf), (9, .int (bI wa)), (8, .int (nI (v / 16))), (7, .int (nI v)), (6, .int (nI k)), (5, .int (nI inn)), (4, .int (bI be)), (3, .int (nI steps)), (2, .int (nI pg)), (1, .ref b), (0, .ref q0)] [] μ2 (c1 + PC A + 142) (s1 + PS A + 2840) := fun bf wa μ2 h2 hb => by
    refine lj_iconst (v := 0) C dL_law_88 (by decide) ?_
    refine lj_istore C dL_law_89 (by decide) rfl ?_
    refine lj_iload C dL_law_91 (q := 5) rfl ?_
    refine lj_bipush (v := 12) C dL_law_93 (by decide) ?_
    have last : ∀ kind : Nat, kind < 16 → LJ l G mL_law p e R s m args below meth c Q 111 [(12, .int 0), (10, .long bf), (9, .int (bI wa)), (8, .int (nI (v / 16))), (7, .int (nI v)), (6, .int (nI k)), (5, .int (nI inn)), (4, .int (bI be)), (3, .int (nI steps)), (2, .int (nI pg)), (1, .ref b), (0, .ref q0)] [.int (nI kind)] μ2 (c1 + PC A + 142) (s1 + PS A + 2840) := fun kind hkd => by
      have md := mid kind (v / 16) bf wa μ2 hkd (by omega) h2 hb
      refine lj_istore C dL_law_111 (by decide) rfl ?_
      refine lj_aload_n C dL_law_113 rfl (q := 11) rfl ?_
      refine lg_cycle C hG.1 rfl ⟨by decide, by decide⟩ h2 (Nat.le_of_ble_eq_true rfl) dL_law_114 ?_
      by_cases h0 : aS A 0 = 0
      · rw [h0]
        rw [decide_eq_true h0] at md
        refine lj_if_ne_f (tgt := 124) C dL_law_117 (by decide) rfl ?_
        refine lj_iconst (v := 1) C dL_law_120 (by decide) ?_
        refine lj_goto (tgt := 125) C dL_law_121 (by decide) ?_
        refine lj_istore C dL_law_125 (by decide) rfl ?_
        refine lj_sub C [0, 1, 2, 3, 4, 5, 7, 8, 9, 10, 11, 12, 13] rfl ?_
        exact md
      · rw [decide_eq_false h0] at md
        refine lj_if_ne_t (tgt := 124) C dL_law_117 (by decide) (nI_ne0 (by omega) (by have := h2.2.2.2.2; omega)) ?_
        refine lj_iconst (v := 0) C dL_law_124 (by decide) ?_
        refine lj_istore C dL_law_125 (by decide) rfl ?_
        refine lj_sub C [0, 1, 2, 3, 4, 5, 7, 8, 9, 10, 11, 12, 13] rfl ?_
        exact md
    by_cases h12 : k < 12
    · refine lj_icmp_ge_f (tgt := 106) C dL_law_95 (by decide) (nI_ge (a := k) (b := 12) h12 (by decide)) ?_
      refine lj_iload C dL_law_98 (q := 4) rfl ?_
      refine lj_bipush (v := 11) C dL_law_100 (by decide) ?_
      refine lj_iremE (v := nI (v % 11)) C dL_law_102 (by decide) (nI_mod (b := 11) (by decide) (by omega) (by decide)) ?_
      refine lj_goto (tgt := 111) C dL_law_103 (by decide) ?_
      exact last _ (by have : v % 11 < 11 := Nat.mod_lt _ (by decide); omega)
    · refine lj_icmp_ge_t (tgt := 106) C dL_law_95 (by decide) (nI_le (a := 12) (b := k) (by omega) (by omega)) ?_
      refine lj_iload C dL_law_106 (q := 4) rfl ?_
      refine lj_bipush (v := 16) C dL_law_108 (by decide) ?_
      refine lj_iremE (v := nI (v % 16)) C dL_law_110 (by decide) (nI_mod (b := 16) (by decide) (by omega) (by decide)) ?_
      exact last _ (Nat.mod_lt _ (by decide))
  by_cases he : k % 2 = 0
  · rw [he]
    refine lj_if_ne_f (tgt := 70) C dL_law_63 (by decide) rfl ?_
    refine lj_iconst (v := 1) C dL_law_66 (by decide) ?_
    refine lj_goto (tgt := 71) C dL_law_67 (by decide) ?_
    refine lj_istore C dL_law_71 (by decide) rfl ?_
    refine lj_iload C dL_law_73 (q := 0) rfl ?_
    refine lj_if_eq_f (tgt := 85) C dL_law_75 (by decide) (by decide) ?_
    refine lj_aload_n C dL_law_78 rfl (q := 8) rfl ?_
    refine lj_sum (c2 := c1 + PC A + 142) (s2 := s1 + PS A + 2840) C hG.1 rfl ⟨by decide, by decide⟩ h (Nat.le_of_ble_eq_true rfl) dL_law_79 (by omega) (by omega) fun μ2 h2 => ?_
    refine lj_goto (tgt := 86) C dL_law_82 (by decide) ?_
    refine lj_lstore C dL_law_86 (by decide) rfl ?_
    refine lj_sub C [0, 1, 2, 3, 4, 5, 6, 7, 8, 9, 10] rfl ?_
    exact low (sumV A) true μ2 h2 fun _ => rfl
  · have n9 : ¬ nI (k % 2) = 0 := nI_ne0 (by omega) (by omega)
    refine lj_if_ne_t (tgt := 70) C dL_law_63 (by decide) n9 ?_
    refine lj_iconst (v := 0) C dL_law_70 (by decide) ?_
    refine lj_istore C dL_law_71 (by decide) rfl ?_
    refine lj_iload C dL_law_73 (q := 0) rfl ?_
    refine lj_if_eq_t (tgt := 85) C dL_law_75 (by decide) rfl ?_
    refine lj_lconst (v := 0) C dL_law_85 (by decide) ?_
    refine lj_lstore C dL_law_86 (by decide) rfl ?_
    refine lj_sub C [0, 1, 2, 3, 4, 5, 6, 7, 8, 9, 10] rfl ?_
    exact lj_w (by omega) (by omega) (low 0 false μ h fun q => absurd q (by decide))
theorem law_loop (C : CW G mL_law p R s m meth c) (hG : Gok3 l G) (hX : va_X q0 n xs G.1 G.1.heap) (hq : q0 < G.1.heap.size) (hn : n ≤ 260) {steps : Nat} (hs : steps < 59) (kf : ∀ pg be inn A μ, JC b z A μ → LA pg be inn A → LJ l G mL_law p e R s m args below meth c Q 938 (L0 b q0 steps inn be steps pg) [] μ (c1 + PC A) (s1 + PS A)) : ∀ (r k pg inn : Nat) (be : Bool) (A : Sx) (μ : Mm), k + r = steps → JC b z A μ → LA pg be inn A → LJ l G mL_law p e R s m args below meth c Q 31 (L0 b q0 k inn be steps pg) [] μ (c1 + 240 * r + PC A) (s1 + 4800 * r + PS A)
  | 0, k, pg, inn, be, A, μ, hk, h, la => by
    obtain rfl : k = steps := by omega
    have fin := kf pg be inn A μ h la
    unfold L0 at fin ⊢
    refine lj_iload C dL_law_31 (q := 0) rfl ?_
    refine lj_iload_n C dL_law_33 rfl (q := 3) rfl ?_
    refine lj_icmp_ge_t (tgt := 938) C dL_law_34 (by decide) (nI_le (Nat.le_refl k) (by omega)) ?_
    exact lj_w (by omega) (by omega) fin
  | r + 1, k, pg, inn, be, A, μ, hk, h, la => by
    have trn := law_turn (c1 := c1 + 240 * r) (s1 := s1 + 4800 * r) C hG hX hq hn (k := k) (steps := steps) (by omega) hs h la fun pg2 be2 inn2 A2 μ2 h2 la2 => law_loop C hG hX hq hn hs kf r (k + 1) pg2 inn2 be2 A2 μ2 (by omega) h2 la2
    unfold L0 at trn ⊢
    refine lj_iload C dL_law_31 (q := 0) rfl ?_
    refine lj_iload_n C dL_law_33 rfl (q := 3) rfl ?_
    refine lj_icmp_ge_f (tgt := 938) C dL_law_34 (by decide) (nI_ge (a := k) (b := steps) (by omega) (by omega)) ?_
    exact lj_w (by omega) (by omega) trn
end LAW7
