theorem dX4_guessLeap_0 : decode cX4_guessLeap 0 = .ok (.aload_n 0, 1) := by decide +kernel
theorem dX4_guessLeap_1 : decode cX4_guessLeap 1 = .ok (.getfield 22, 3) := by decide +kernel
theorem dX4_guessLeap_4 : decode cX4_guessLeap 4 = .ok (.iload_n 1, 1) := by decide +kernel
theorem dX4_guessLeap_5 : decode cX4_guessLeap 5 = .ok (.bipush 8, 2) := by decide +kernel
theorem dX4_guessLeap_7 : decode cX4_guessLeap 7 = .ok (.invokestatic 73, 3) := by decide +kernel
theorem dX4_guessLeap_10 : decode cX4_guessLeap 10 = .ok (.iaload, 1) := by decide +kernel
theorem dX4_guessLeap_11 : decode cX4_guessLeap 11 = .ok (.istore_n 2, 1) := by decide +kernel
theorem dX4_guessLeap_12 : decode cX4_guessLeap 12 = .ok (.iload_n 2, 1) := by decide +kernel
theorem dX4_guessLeap_13 : decode cX4_guessLeap 13 = .ok (.iconst (-1), 1) := by decide +kernel
theorem dX4_guessLeap_14 : decode cX4_guessLeap 14 = .ok (.if_icmp .ne 9, 3) := by decide +kernel
theorem dX4_guessLeap_17 : decode cX4_guessLeap 17 = .ok (.iload_n 1, 1) := by decide +kernel
theorem dX4_guessLeap_18 : decode cX4_guessLeap 18 = .ok (.iconst 1, 1) := by decide +kernel
theorem dX4_guessLeap_19 : decode cX4_guessLeap 19 = .ok (.iadd, 1) := by decide +kernel
theorem dX4_guessLeap_20 : decode cX4_guessLeap 20 = .ok (.goto 4, 3) := by decide +kernel
theorem dX4_guessLeap_23 : decode cX4_guessLeap 23 = .ok (.iload_n 2, 1) := by decide +kernel
theorem dX4_guessLeap_24 : decode cX4_guessLeap 24 = .ok (.ireturn, 1) := by decide +kernel
theorem dX4_guess_0 : decode cX4_guess 0 = .ok (.aload_n 1, 1) := by decide +kernel
theorem dX4_guess_1 : decode cX4_guess 1 = .ok (.getfield 69, 3) := by decide +kernel
theorem dX4_guess_4 : decode cX4_guess 4 = .ok (.iconst 1, 1) := by decide +kernel
theorem dX4_guess_5 : decode cX4_guess 5 = .ok (.iadd, 1) := by decide +kernel
theorem dX4_guess_6 : decode cX4_guess 6 = .ok (.istore_n 2, 1) := by decide +kernel
theorem dX4_guess_7 : decode cX4_guess 7 = .ok (.aload_n 1, 1) := by decide +kernel
theorem dX4_guess_8 : decode cX4_guess 8 = .ok (.getfield 70, 3) := by decide +kernel
theorem dX4_guess_11 : decode cX4_guess 11 = .ok (.tableswitch 105 12 17 #[37, 37, 64, 69, 79, 96], 37) := by decide +kernel
theorem dX4_guess_48 : decode cX4_guess 48 = .ok (.aload_n 0, 1) := by decide +kernel
theorem dX4_guess_49 : decode cX4_guess 49 = .ok (.getfield 18, 3) := by decide +kernel
theorem dX4_guess_52 : decode cX4_guess 52 = .ok (.aload_n 1, 1) := by decide +kernel
theorem dX4_guess_53 : decode cX4_guess 53 = .ok (.getfield 69, 3) := by decide +kernel
theorem dX4_guess_56 : decode cX4_guess 56 = .ok (.bipush 16, 2) := by decide +kernel
theorem dX4_guess_58 : decode cX4_guess 58 = .ok (.invokestatic 73, 3) := by decide +kernel
theorem dX4_guess_61 : decode cX4_guess 61 = .ok (.iaload, 1) := by decide +kernel
theorem dX4_guess_62 : decode cX4_guess 62 = .ok (.iconst 2, 1) := by decide +kernel
theorem dX4_guess_63 : decode cX4_guess 63 = .ok (.if_icmp .lt 10, 3) := by decide +kernel
theorem dX4_guess_66 : decode cX4_guess 66 = .ok (.aload_n 1, 1) := by decide +kernel
theorem dX4_guess_67 : decode cX4_guess 67 = .ok (.getfield 79, 3) := by decide +kernel
theorem dX4_guess_70 : decode cX4_guess 70 = .ok (.goto 4, 3) := by decide +kernel
theorem dX4_guess_73 : decode cX4_guess 73 = .ok (.iload_n 2, 1) := by decide +kernel
theorem dX4_guess_74 : decode cX4_guess 74 = .ok (.ireturn, 1) := by decide +kernel
theorem dX4_guess_75 : decode cX4_guess 75 = .ok (.aload_n 1, 1) := by decide +kernel
theorem dX4_guess_76 : decode cX4_guess 76 = .ok (.getfield 79, 3) := by decide +kernel
theorem dX4_guess_79 : decode cX4_guess 79 = .ok (.ireturn, 1) := by decide +kernel
theorem dX4_guess_80 : decode cX4_guess 80 = .ok (.aload_n 0, 1) := by decide +kernel
theorem dX4_guess_81 : decode cX4_guess 81 = .ok (.iload_n 2, 1) := by decide +kernel
theorem dX4_guess_82 : decode cX4_guess 82 = .ok (.invokevirtual 82, 3) := by decide +kernel
theorem dX4_guess_85 : decode cX4_guess 85 = .ok (.aload_n 1, 1) := by decide +kernel
theorem dX4_guess_86 : decode cX4_guess 86 = .ok (.getfield 79, 3) := by decide +kernel
theorem dX4_guess_89 : decode cX4_guess 89 = .ok (.ireturn, 1) := by decide +kernel
theorem dX4_guess_90 : decode cX4_guess 90 = .ok (.aload_n 0, 1) := by decide +kernel
theorem dX4_guess_91 : decode cX4_guess 91 = .ok (.getfield 25, 3) := by decide +kernel
theorem dX4_guess_94 : decode cX4_guess 94 = .ok (.arraylength, 1) := by decide +kernel
theorem dX4_guess_95 : decode cX4_guess 95 = .ok (.ifCond .ne 7, 3) := by decide +kernel
theorem dX4_guess_98 : decode cX4_guess 98 = .ok (.iload_n 2, 1) := by decide +kernel
theorem dX4_guess_99 : decode cX4_guess 99 = .ok (.goto 7, 3) := by decide +kernel
theorem dX4_guess_102 : decode cX4_guess 102 = .ok (.aload_n 0, 1) := by decide +kernel
theorem dX4_guess_103 : decode cX4_guess 103 = .ok (.invokevirtual 86, 3) := by decide +kernel
theorem dX4_guess_106 : decode cX4_guess 106 = .ok (.ireturn, 1) := by decide +kernel
theorem dX4_guess_107 : decode cX4_guess 107 = .ok (.aload_n 0, 1) := by decide +kernel
theorem dX4_guess_108 : decode cX4_guess 108 = .ok (.aload_n 1, 1) := by decide +kernel
theorem dX4_guess_109 : decode cX4_guess 109 = .ok (.getfield 69, 3) := by decide +kernel
theorem dX4_guess_112 : decode cX4_guess 112 = .ok (.invokevirtual 89, 3) := by decide +kernel
theorem dX4_guess_115 : decode cX4_guess 115 = .ok (.ireturn, 1) := by decide +kernel
theorem dX4_guess_116 : decode cX4_guess 116 = .ok (.iload_n 2, 1) := by decide +kernel
theorem dX4_guess_117 : decode cX4_guess 117 = .ok (.ireturn, 1) := by decide +kernel
theorem dX6_endsFetching_0 : decode cX6_endsFetching 0 = .ok (.aload_n 0, 1) := by decide +kernel
theorem dX6_endsFetching_1 : decode cX6_endsFetching 1 = .ok (.getfield 15, 3) := by decide +kernel
theorem dX6_endsFetching_4 : decode cX6_endsFetching 4 = .ok (.bipush 18, 2) := by decide +kernel
theorem dX6_endsFetching_6 : decode cX6_endsFetching 6 = .ok (.if_icmp .eq 12, 3) := by decide +kernel
theorem dX6_endsFetching_9 : decode cX6_endsFetching 9 = .ok (.aload_n 0, 1) := by decide +kernel
theorem dX6_endsFetching_10 : decode cX6_endsFetching 10 = .ok (.getfield 15, 3) := by decide +kernel
theorem dX6_endsFetching_13 : decode cX6_endsFetching 13 = .ok (.bipush 21, 2) := by decide +kernel
theorem dX6_endsFetching_15 : decode cX6_endsFetching 15 = .ok (.if_icmp .ne 7, 3) := by decide +kernel
theorem dX6_endsFetching_18 : decode cX6_endsFetching 18 = .ok (.iconst 1, 1) := by decide +kernel
theorem dX6_endsFetching_19 : decode cX6_endsFetching 19 = .ok (.goto 4, 3) := by decide +kernel
theorem dX6_endsFetching_22 : decode cX6_endsFetching 22 = .ok (.iconst 0, 1) := by decide +kernel
theorem dX6_endsFetching_23 : decode cX6_endsFetching 23 = .ok (.ireturn, 1) := by decide +kernel
theorem dX3_init_0 : decode cX3_init 0 = .ok (.aload_n 0, 1) := by decide +kernel
theorem dX3_init_1 : decode cX3_init 1 = .ok (.invokespecial 3, 3) := by decide +kernel
theorem dX3_init_4 : decode cX3_init 4 = .ok (.aload_n 0, 1) := by decide +kernel
theorem dX3_init_5 : decode cX3_init 5 = .ok (.invokestatic 9, 3) := by decide +kernel
theorem dX3_init_8 : decode cX3_init 8 = .ok (.putfield 13, 3) := by decide +kernel
theorem dX3_init_11 : decode cX3_init 11 = .ok (.aload_n 0, 1) := by decide +kernel
theorem dX3_init_12 : decode cX3_init 12 = .ok (.bipush 113, 2) := by decide +kernel
theorem dX3_init_14 : decode cX3_init 14 = .ok (.putfield 19, 3) := by decide +kernel
theorem dX3_init_17 : decode cX3_init 17 = .ok (.aload_n 0, 1) := by decide +kernel
theorem dX3_init_18 : decode cX3_init 18 = .ok (.iconst (-1), 1) := by decide +kernel
theorem dX3_init_19 : decode cX3_init 19 = .ok (.putfield 23, 3) := by decide +kernel
theorem dX3_init_22 : decode cX3_init 22 = .ok (.aload_n 0, 1) := by decide +kernel
theorem dX3_init_23 : decode cX3_init 23 = .ok (.iconst (-1), 1) := by decide +kernel
theorem dX3_init_24 : decode cX3_init 24 = .ok (.putfield 27, 3) := by decide +kernel
theorem dX3_init_27 : decode cX3_init 27 = .ok (.aload_n 0, 1) := by decide +kernel
theorem dX3_init_28 : decode cX3_init 28 = .ok (.iconst (-1), 1) := by decide +kernel
theorem dX3_init_29 : decode cX3_init 29 = .ok (.putfield 30, 3) := by decide +kernel
theorem dX3_init_32 : decode cX3_init 32 = .ok (.aload_n 0, 1) := by decide +kernel
theorem dX3_init_33 : decode cX3_init 33 = .ok (.iconst (-1), 1) := by decide +kernel
theorem dX3_init_34 : decode cX3_init 34 = .ok (.putfield 33, 3) := by decide +kernel
theorem dX3_init_37 : decode cX3_init 37 = .ok (.aload_n 0, 1) := by decide +kernel
theorem dX3_init_38 : decode cX3_init 38 = .ok (.iconst (-1), 1) := by decide +kernel
theorem dX3_init_39 : decode cX3_init 39 = .ok (.putfield 36, 3) := by decide +kernel
theorem dX3_init_42 : decode cX3_init 42 = .ok (.aload_n 0, 1) := by decide +kernel
theorem dX3_init_43 : decode cX3_init 43 = .ok (.iconst (-1), 1) := by decide +kernel
theorem dX3_init_44 : decode cX3_init 44 = .ok (.putfield 39, 3) := by decide +kernel
theorem dX3_init_47 : decode cX3_init 47 = .ok (.aload_n 0, 1) := by decide +kernel
theorem dX3_init_48 : decode cX3_init 48 = .ok (.iconst 0, 1) := by decide +kernel
theorem dX3_init_49 : decode cX3_init 49 = .ok (.putfield 42, 3) := by decide +kernel
theorem dX3_init_52 : decode cX3_init 52 = .ok (.aload_n 0, 1) := by decide +kernel
theorem dX3_init_53 : decode cX3_init 53 = .ok (.iconst 0, 1) := by decide +kernel
theorem dX3_init_54 : decode cX3_init 54 = .ok (.putfield 45, 3) := by decide +kernel
theorem dX3_init_57 : decode cX3_init 57 = .ok (.aload_n 0, 1) := by decide +kernel
theorem dX3_init_58 : decode cX3_init 58 = .ok (.iconst 0, 1) := by decide +kernel
theorem dX3_init_59 : decode cX3_init 59 = .ok (.putfield 48, 3) := by decide +kernel
theorem dX3_init_62 : decode cX3_init 62 = .ok (.aload_n 0, 1) := by decide +kernel
theorem dX3_init_63 : decode cX3_init 63 = .ok (.iconst (-1), 1) := by decide +kernel
theorem dX3_init_64 : decode cX3_init 64 = .ok (.putfield 52, 3) := by decide +kernel
theorem dX3_init_67 : decode cX3_init 67 = .ok (.aload_n 0, 1) := by decide +kernel
theorem dX3_init_68 : decode cX3_init 68 = .ok (.aload_n 1, 1) := by decide +kernel
theorem dX3_init_69 : decode cX3_init 69 = .ok (.putfield 55, 3) := by decide +kernel
theorem dX3_init_72 : decode cX3_init 72 = .ok (.aload_n 0, 1) := by decide +kernel
theorem dX3_init_73 : decode cX3_init 73 = .ok (.iload_n 2, 1) := by decide +kernel
theorem dX3_init_74 : decode cX3_init 74 = .ok (.putfield 59, 3) := by decide +kernel
theorem dX3_init_77 : decode cX3_init 77 = .ok (.aload_n 0, 1) := by decide +kernel
theorem dX3_init_78 : decode cX3_init 78 = .ok (.iload_n 3, 1) := by decide +kernel
theorem dX3_init_79 : decode cX3_init 79 = .ok (.putfield 62, 3) := by decide +kernel
theorem dX3_init_82 : decode cX3_init 82 = .ok (.aload_n 0, 1) := by decide +kernel
theorem dX3_init_83 : decode cX3_init 83 = .ok (.aload 4, 2) := by decide +kernel
theorem dX3_init_85 : decode cX3_init 85 = .ok (.putfield 65, 3) := by decide +kernel
theorem dX3_init_88 : decode cX3_init 88 = .ok (.aload_n 0, 1) := by decide +kernel
theorem dX3_init_89 : decode cX3_init 89 = .ok (.aload_n 1, 1) := by decide +kernel
theorem dX3_init_90 : decode cX3_init 90 = .ok (.iconst 0, 1) := by decide +kernel
theorem dX3_init_91 : decode cX3_init 91 = .ok (.iconst 0, 1) := by decide +kernel
theorem dX3_init_92 : decode cX3_init 92 = .ok (.invokevirtual 68, 3) := by decide +kernel
theorem dX3_init_95 : decode cX3_init 95 = .ok (.putfield 74, 3) := by decide +kernel
theorem dX3_init_98 : decode cX3_init 98 = .ok (.return_, 1) := by decide +kernel
theorem dX4_fetch_0 : decode cX4_fetch 0 = .ok (.iconst 0, 1) := by decide +kernel
theorem dX4_fetch_1 : decode cX4_fetch 1 = .ok (.istore 4, 2) := by decide +kernel
theorem dX4_fetch_3 : decode cX4_fetch 3 = .ok (.iload 4, 2) := by decide +kernel
theorem dX4_fetch_5 : decode cX4_fetch 5 = .ok (.iload_n 2, 1) := by decide +kernel
theorem dX4_fetch_6 : decode cX4_fetch 6 = .ok (.if_icmp .ge 146, 3) := by decide +kernel
theorem dX4_fetch_9 : decode cX4_fetch 9 = .ok (.aload_n 0, 1) := by decide +kernel
theorem dX4_fetch_10 : decode cX4_fetch 10 = .ok (.getfield 32, 3) := by decide +kernel
theorem dX4_fetch_13 : decode cX4_fetch 13 = .ok (.ifCond .ne 34, 3) := by decide +kernel
theorem dX4_fetch_16 : decode cX4_fetch 16 = .ok (.aload_n 0, 1) := by decide +kernel
theorem dX4_fetch_17 : decode cX4_fetch 17 = .ok (.getfield 12, 3) := by decide +kernel
theorem dX4_fetch_20 : decode cX4_fetch 20 = .ok (.invokevirtual 39, 3) := by decide +kernel
theorem dX4_fetch_23 : decode cX4_fetch 23 = .ok (.iconst 2, 1) := by decide +kernel
theorem dX4_fetch_24 : decode cX4_fetch 24 = .ok (.iload_n 2, 1) := by decide +kernel
theorem dX4_fetch_25 : decode cX4_fetch 25 = .ok (.imul, 1) := by decide +kernel
theorem dX4_fetch_26 : decode cX4_fetch 26 = .ok (.if_icmp .ge 21, 3) := by decide +kernel
theorem dX4_fetch_29 : decode cX4_fetch 29 = .ok (.aload_n 0, 1) := by decide +kernel
theorem dX4_fetch_30 : decode cX4_fetch 30 = .ok (.getfield 28, 3) := by decide +kernel
theorem dX4_fetch_33 : decode cX4_fetch 33 = .ok (.ifCond .lt 14, 3) := by decide +kernel
theorem dX4_fetch_36 : decode cX4_fetch 36 = .ok (.aload_n 0, 1) := by decide +kernel
theorem dX4_fetch_37 : decode cX4_fetch 37 = .ok (.getfield 28, 3) := by decide +kernel
theorem dX4_fetch_40 : decode cX4_fetch 40 = .ok (.aload_n 1, 1) := by decide +kernel
theorem dX4_fetch_41 : decode cX4_fetch 41 = .ok (.invokevirtual 39, 3) := by decide +kernel
theorem dX4_fetch_44 : decode cX4_fetch 44 = .ok (.if_icmp .lt 4, 3) := by decide +kernel
theorem dX4_fetch_47 : decode cX4_fetch 47 = .ok (.return_, 1) := by decide +kernel
theorem dX4_fetch_48 : decode cX4_fetch 48 = .ok (.aload_n 1, 1) := by decide +kernel
theorem dX4_fetch_49 : decode cX4_fetch 49 = .ok (.aload_n 0, 1) := by decide +kernel
theorem dX4_fetch_50 : decode cX4_fetch 50 = .ok (.getfield 28, 3) := by decide +kernel
theorem dX4_fetch_53 : decode cX4_fetch 53 = .ok (.invokevirtual 43, 3) := by decide +kernel
theorem dX4_fetch_56 : decode cX4_fetch 56 = .ok (.checkcast 47, 3) := by decide +kernel
theorem dX4_fetch_59 : decode cX4_fetch 59 = .ok (.astore 5, 2) := by decide +kernel
theorem dX4_fetch_61 : decode cX4_fetch 61 = .ok (.aload_n 0, 1) := by decide +kernel
theorem dX4_fetch_62 : decode cX4_fetch 62 = .ok (.aload_n 0, 1) := by decide +kernel
theorem dX4_fetch_63 : decode cX4_fetch 63 = .ok (.aload 5, 2) := by decide +kernel
theorem dX4_fetch_65 : decode cX4_fetch 65 = .ok (.invokevirtual 49, 3) := by decide +kernel
theorem dX4_fetch_68 : decode cX4_fetch 68 = .ok (.putfield 28, 3) := by decide +kernel
theorem dX4_fetch_71 : decode cX4_fetch 71 = .ok (.aload_n 0, 1) := by decide +kernel
theorem dX4_fetch_72 : decode cX4_fetch 72 = .ok (.aload 5, 2) := by decide +kernel
theorem dX4_fetch_74 : decode cX4_fetch 74 = .ok (.invokevirtual 53, 3) := by decide +kernel
theorem dX4_fetch_77 : decode cX4_fetch 77 = .ok (.putfield 32, 3) := by decide +kernel
theorem dX4_fetch_80 : decode cX4_fetch 80 = .ok (.new 57, 3) := by decide +kernel
theorem dX4_fetch_83 : decode cX4_fetch 83 = .ok (.dup, 1) := by decide +kernel
theorem dX4_fetch_84 : decode cX4_fetch 84 = .ok (.aload 5, 2) := by decide +kernel
theorem dX4_fetch_86 : decode cX4_fetch 86 = .ok (.aload_n 0, 1) := by decide +kernel
theorem dX4_fetch_87 : decode cX4_fetch 87 = .ok (.getfield 36, 3) := by decide +kernel
theorem dX4_fetch_90 : decode cX4_fetch 90 = .ok (.aload_n 0, 1) := by decide +kernel
theorem dX4_fetch_91 : decode cX4_fetch 91 = .ok (.getfield 28, 3) := by decide +kernel
theorem dX4_fetch_94 : decode cX4_fetch 94 = .ok (.aload_n 0, 1) := by decide +kernel
theorem dX4_fetch_95 : decode cX4_fetch 95 = .ok (.getfield 25, 3) := by decide +kernel
theorem dX4_fetch_98 : decode cX4_fetch 98 = .ok (.invokespecial 59, 3) := by decide +kernel
theorem dX4_fetch_101 : decode cX4_fetch 101 = .ok (.astore 6, 2) := by decide +kernel
theorem dX4_fetch_103 : decode cX4_fetch 103 = .ok (.aload 6, 2) := by decide +kernel
theorem dX4_fetch_105 : decode cX4_fetch 105 = .ok (.getfield 62, 3) := by decide +kernel
theorem dX4_fetch_108 : decode cX4_fetch 108 = .ok (.iconst 0, 1) := by decide +kernel
theorem dX4_fetch_109 : decode cX4_fetch 109 = .ok (.iload_n 3, 1) := by decide +kernel
theorem dX4_fetch_110 : decode cX4_fetch 110 = .ok (.iastore, 1) := by decide +kernel
theorem dX4_fetch_111 : decode cX4_fetch 111 = .ok (.aload_n 0, 1) := by decide +kernel
theorem dX4_fetch_112 : decode cX4_fetch 112 = .ok (.dup, 1) := by decide +kernel
theorem dX4_fetch_113 : decode cX4_fetch 113 = .ok (.getfield 36, 3) := by decide +kernel
theorem dX4_fetch_116 : decode cX4_fetch 116 = .ok (.iconst 1, 1) := by decide +kernel
theorem dX4_fetch_117 : decode cX4_fetch 117 = .ok (.iadd, 1) := by decide +kernel
theorem dX4_fetch_118 : decode cX4_fetch 118 = .ok (.putfield 36, 3) := by decide +kernel
theorem dX4_fetch_121 : decode cX4_fetch 121 = .ok (.aload_n 0, 1) := by decide +kernel
theorem dX4_fetch_122 : decode cX4_fetch 122 = .ok (.getfield 12, 3) := by decide +kernel
theorem dX4_fetch_125 : decode cX4_fetch 125 = .ok (.aload 6, 2) := by decide +kernel
theorem dX4_fetch_127 : decode cX4_fetch 127 = .ok (.invokevirtual 65, 3) := by decide +kernel
theorem dX4_fetch_130 : decode cX4_fetch 130 = .ok (.pop, 1) := by decide +kernel
theorem dX4_fetch_131 : decode cX4_fetch 131 = .ok (.aload_n 0, 1) := by decide +kernel
theorem dX4_fetch_132 : decode cX4_fetch 132 = .ok (.getfield 28, 3) := by decide +kernel
theorem dX4_fetch_135 : decode cX4_fetch 135 = .ok (.aload 5, 2) := by decide +kernel
theorem dX4_fetch_137 : decode cX4_fetch 137 = .ok (.getfield 69, 3) := by decide +kernel
theorem dX4_fetch_140 : decode cX4_fetch 140 = .ok (.iconst 1, 1) := by decide +kernel
theorem dX4_fetch_141 : decode cX4_fetch 141 = .ok (.iadd, 1) := by decide +kernel
theorem dX4_fetch_142 : decode cX4_fetch 142 = .ok (.if_icmp .eq 4, 3) := by decide +kernel
theorem dX4_fetch_145 : decode cX4_fetch 145 = .ok (.return_, 1) := by decide +kernel
theorem dX4_fetch_146 : decode cX4_fetch 146 = .ok (.iinc 4 1, 3) := by decide +kernel
theorem dX4_fetch_149 : decode cX4_fetch 149 = .ok (.goto (-146), 3) := by decide +kernel
theorem dX4_fetch_152 : decode cX4_fetch 152 = .ok (.return_, 1) := by decide +kernel
theorem dX0_doCycle_0 : decode cX0_doCycle 0 = .ok (.aload_n 0, 1) := by decide +kernel
theorem dX0_doCycle_1 : decode cX0_doCycle 1 = .ok (.dup, 1) := by decide +kernel
theorem dX0_doCycle_2 : decode cX0_doCycle 2 = .ok (.getfield 77, 3) := by decide +kernel
theorem dX0_doCycle_5 : decode cX0_doCycle 5 = .ok (.iconst 1, 1) := by decide +kernel
theorem dX0_doCycle_6 : decode cX0_doCycle 6 = .ok (.iadd, 1) := by decide +kernel
theorem dX0_doCycle_7 : decode cX0_doCycle 7 = .ok (.putfield 77, 3) := by decide +kernel
theorem dX0_doCycle_10 : decode cX0_doCycle 10 = .ok (.aload_n 0, 1) := by decide +kernel
theorem dX0_doCycle_11 : decode cX0_doCycle 11 = .ok (.invokevirtual 97, 3) := by decide +kernel
theorem dX0_doCycle_14 : decode cX0_doCycle 14 = .ok (.aload_n 0, 1) := by decide +kernel
theorem dX0_doCycle_15 : decode cX0_doCycle 15 = .ok (.invokevirtual 100, 3) := by decide +kernel
theorem dX0_doCycle_18 : decode cX0_doCycle 18 = .ok (.aload_n 0, 1) := by decide +kernel
theorem dX0_doCycle_19 : decode cX0_doCycle 19 = .ok (.invokevirtual 103, 3) := by decide +kernel
theorem dX0_doCycle_22 : decode cX0_doCycle 22 = .ok (.aload_n 0, 1) := by decide +kernel
theorem dX0_doCycle_23 : decode cX0_doCycle 23 = .ok (.invokevirtual 106, 3) := by decide +kernel
theorem dX0_doCycle_26 : decode cX0_doCycle 26 = .ok (.aload_n 0, 1) := by decide +kernel
theorem dX0_doCycle_27 : decode cX0_doCycle 27 = .ok (.invokevirtual 109, 3) := by decide +kernel
theorem dX0_doCycle_30 : decode cX0_doCycle 30 = .ok (.aload_n 0, 1) := by decide +kernel
theorem dX0_doCycle_31 : decode cX0_doCycle 31 = .ok (.getfield 56, 3) := by decide +kernel
theorem dX0_doCycle_34 : decode cX0_doCycle 34 = .ok (.aload_n 0, 1) := by decide +kernel
theorem dX0_doCycle_35 : decode cX0_doCycle 35 = .ok (.getfield 12, 3) := by decide +kernel
theorem dX0_doCycle_38 : decode cX0_doCycle 38 = .ok (.aload_n 0, 1) := by decide +kernel
theorem dX0_doCycle_39 : decode cX0_doCycle 39 = .ok (.getfield 21, 3) := by decide +kernel
theorem dX0_doCycle_42 : decode cX0_doCycle 42 = .ok (.getfield 112, 3) := by decide +kernel
theorem dX0_doCycle_45 : decode cX0_doCycle 45 = .ok (.aload_n 0, 1) := by decide +kernel
theorem dX0_doCycle_46 : decode cX0_doCycle 46 = .ok (.getfield 77, 3) := by decide +kernel
theorem dX0_doCycle_49 : decode cX0_doCycle 49 = .ok (.invokevirtual 115, 3) := by decide +kernel
theorem dX0_doCycle_52 : decode cX0_doCycle 52 = .ok (.return_, 1) := by decide +kernel
theorem dX10_run_0 : decode cX10_run 0 = .ok (.iload_n 1, 1) := by decide +kernel
theorem dX10_run_1 : decode cX10_run 1 = .ok (.iconst 1, 1) := by decide +kernel
theorem dX10_run_2 : decode cX10_run 2 = .ok (.if_icmp .lt 24, 3) := by decide +kernel
theorem dX10_run_5 : decode cX10_run 5 = .ok (.iload_n 1, 1) := by decide +kernel
theorem dX10_run_6 : decode cX10_run 6 = .ok (.bipush 60, 2) := by decide +kernel
theorem dX10_run_8 : decode cX10_run 8 = .ok (.if_icmp .gt 18, 3) := by decide +kernel
theorem dX10_run_11 : decode cX10_run 11 = .ok (.aload_n 0, 1) := by decide +kernel
theorem dX10_run_12 : decode cX10_run 12 = .ok (.getfield 10, 3) := by decide +kernel
theorem dX10_run_15 : decode cX10_run 15 = .ok (.getfield 36, 3) := by decide +kernel
theorem dX10_run_18 : decode cX10_run 18 = .ok (.iload_n 1, 1) := by decide +kernel
theorem dX10_run_19 : decode cX10_run 19 = .ok (.iadd, 1) := by decide +kernel
theorem dX10_run_20 : decode cX10_run 20 = .ok (.sipush 500, 3) := by decide +kernel
theorem dX10_run_23 : decode cX10_run 23 = .ok (.if_icmp .le 11, 3) := by decide +kernel
theorem dX10_run_26 : decode cX10_run 26 = .ok (.new 23, 3) := by decide +kernel
theorem dX10_run_29 : decode cX10_run 29 = .ok (.dup, 1) := by decide +kernel
theorem dX10_run_30 : decode cX10_run 30 = .ok (.invokespecial 25, 3) := by decide +kernel
theorem dX10_run_33 : decode cX10_run 33 = .ok (.athrow, 1) := by decide +kernel
theorem dX10_run_34 : decode cX10_run 34 = .ok (.aload_n 0, 1) := by decide +kernel
theorem dX10_run_35 : decode cX10_run 35 = .ok (.getfield 10, 3) := by decide +kernel
theorem dX10_run_38 : decode cX10_run 38 = .ok (.getfield 122, 3) := by decide +kernel
theorem dX10_run_41 : decode cX10_run 41 = .ok (.ifCond .eq 11, 3) := by decide +kernel
theorem dX10_run_44 : decode cX10_run 44 = .ok (.new 40, 3) := by decide +kernel
theorem dX10_run_47 : decode cX10_run 47 = .ok (.dup, 1) := by decide +kernel
theorem dX10_run_48 : decode cX10_run 48 = .ok (.invokespecial 42, 3) := by decide +kernel
theorem dX10_run_51 : decode cX10_run 51 = .ok (.athrow, 1) := by decide +kernel
theorem dX10_run_52 : decode cX10_run 52 = .ok (.aload_n 0, 1) := by decide +kernel
theorem dX10_run_53 : decode cX10_run 53 = .ok (.getfield 10, 3) := by decide +kernel
theorem dX10_run_56 : decode cX10_run 56 = .ok (.getfield 125, 3) := by decide +kernel
theorem dX10_run_59 : decode cX10_run 59 = .ok (.invokevirtual 30, 3) := by decide +kernel
theorem dX10_run_62 : decode cX10_run 62 = .ok (.istore_n 2, 1) := by decide +kernel
theorem dX10_run_63 : decode cX10_run 63 = .ok (.iconst 0, 1) := by decide +kernel
theorem dX10_run_64 : decode cX10_run 64 = .ok (.istore_n 3, 1) := by decide +kernel
theorem dX10_run_65 : decode cX10_run 65 = .ok (.iload_n 3, 1) := by decide +kernel
theorem dX10_run_66 : decode cX10_run 66 = .ok (.iload_n 1, 1) := by decide +kernel
theorem dX10_run_67 : decode cX10_run 67 = .ok (.if_icmp .ge 26, 3) := by decide +kernel
theorem dX10_run_70 : decode cX10_run 70 = .ok (.aload_n 0, 1) := by decide +kernel
theorem dX10_run_71 : decode cX10_run 71 = .ok (.getfield 10, 3) := by decide +kernel
theorem dX10_run_74 : decode cX10_run 74 = .ok (.getfield 122, 3) := by decide +kernel
theorem dX10_run_77 : decode cX10_run 77 = .ok (.ifCond .ne 16, 3) := by decide +kernel
theorem dX10_run_80 : decode cX10_run 80 = .ok (.aload_n 0, 1) := by decide +kernel
theorem dX10_run_81 : decode cX10_run 81 = .ok (.getfield 10, 3) := by decide +kernel
theorem dX10_run_84 : decode cX10_run 84 = .ok (.invokevirtual 128, 3) := by decide +kernel
theorem dX10_run_87 : decode cX10_run 87 = .ok (.iinc 3 1, 3) := by decide +kernel
theorem dX10_run_90 : decode cX10_run 90 = .ok (.goto (-25), 3) := by decide +kernel
theorem dX10_run_93 : decode cX10_run 93 = .ok (.aload_n 0, 1) := by decide +kernel
theorem dX10_run_94 : decode cX10_run 94 = .ok (.getfield 10, 3) := by decide +kernel
theorem dX10_run_97 : decode cX10_run 97 = .ok (.getfield 125, 3) := by decide +kernel
theorem dX10_run_100 : decode cX10_run 100 = .ok (.invokevirtual 30, 3) := by decide +kernel
theorem dX10_run_103 : decode cX10_run 103 = .ok (.iload_n 2, 1) := by decide +kernel
theorem dX10_run_104 : decode cX10_run 104 = .ok (.isub, 1) := by decide +kernel
theorem dX10_run_105 : decode cX10_run 105 = .ok (.ireturn, 1) := by decide +kernel
theorem dX10_cycle_0 : decode cX10_cycle 0 = .ok (.aload_n 0, 1) := by decide +kernel
theorem dX10_cycle_1 : decode cX10_cycle 1 = .ok (.getfield 10, 3) := by decide +kernel
theorem dX10_cycle_4 : decode cX10_cycle 4 = .ok (.getfield 36, 3) := by decide +kernel
theorem dX10_cycle_7 : decode cX10_cycle 7 = .ok (.ireturn, 1) := by decide +kernel
theorem dX10_hasStopped_0 : decode cX10_hasStopped 0 = .ok (.aload_n 0, 1) := by decide +kernel
theorem dX10_hasStopped_1 : decode cX10_hasStopped 1 = .ok (.getfield 10, 3) := by decide +kernel
theorem dX10_hasStopped_4 : decode cX10_hasStopped 4 = .ok (.getfield 122, 3) := by decide +kernel
theorem dX10_hasStopped_7 : decode cX10_hasStopped 7 = .ok (.ireturn, 1) := by decide +kernel
theorem dX10_ends_0 : decode cX10_ends 0 = .ok (.aload_n 0, 1) := by decide +kernel
theorem dX10_ends_1 : decode cX10_ends 1 = .ok (.getfield 10, 3) := by decide +kernel
theorem dX10_ends_4 : decode cX10_ends 4 = .ok (.getfield 125, 3) := by decide +kernel
theorem dX10_ends_7 : decode cX10_ends 7 = .ok (.invokevirtual 30, 3) := by decide +kernel
theorem dX10_ends_10 : decode cX10_ends 10 = .ok (.ireturn, 1) := by decide +kernel
theorem dX10_isEnd_0 : decode cX10_isEnd 0 = .ok (.iload_n 1, 1) := by decide +kernel
theorem dX10_isEnd_1 : decode cX10_isEnd 1 = .ok (.ifCond .lt 21, 3) := by decide +kernel
theorem dX10_isEnd_4 : decode cX10_isEnd 4 = .ok (.iload_n 1, 1) := by decide +kernel
theorem dX10_isEnd_5 : decode cX10_isEnd 5 = .ok (.aload_n 0, 1) := by decide +kernel
theorem dX10_isEnd_6 : decode cX10_isEnd 6 = .ok (.getfield 10, 3) := by decide +kernel
theorem dX10_isEnd_9 : decode cX10_isEnd 9 = .ok (.getfield 125, 3) := by decide +kernel
theorem dX10_isEnd_12 : decode cX10_isEnd 12 = .ok (.invokevirtual 30, 3) := by decide +kernel
theorem dX10_isEnd_15 : decode cX10_isEnd 15 = .ok (.if_icmp .ge 7, 3) := by decide +kernel
theorem dX10_isEnd_18 : decode cX10_isEnd 18 = .ok (.iconst 1, 1) := by decide +kernel
theorem dX10_isEnd_19 : decode cX10_isEnd 19 = .ok (.goto 4, 3) := by decide +kernel
theorem dX10_isEnd_22 : decode cX10_isEnd 22 = .ok (.iconst 0, 1) := by decide +kernel
theorem dX10_isEnd_23 : decode cX10_isEnd 23 = .ok (.ireturn, 1) := by decide +kernel
theorem dX10_kindAt_0 : decode cX10_kindAt 0 = .ok (.aload_n 0, 1) := by decide +kernel
theorem dX10_kindAt_1 : decode cX10_kindAt 1 = .ok (.iload_n 1, 1) := by decide +kernel
theorem dX10_kindAt_2 : decode cX10_kindAt 2 = .ok (.invokevirtual 131, 3) := by decide +kernel
theorem dX10_kindAt_5 : decode cX10_kindAt 5 = .ok (.ifCond .ne 11, 3) := by decide +kernel
theorem dX10_kindAt_8 : decode cX10_kindAt 8 = .ok (.new 134, 3) := by decide +kernel
theorem dX10_kindAt_11 : decode cX10_kindAt 11 = .ok (.dup, 1) := by decide +kernel
theorem dX10_kindAt_12 : decode cX10_kindAt 12 = .ok (.invokespecial 136, 3) := by decide +kernel
theorem dX10_kindAt_15 : decode cX10_kindAt 15 = .ok (.athrow, 1) := by decide +kernel
theorem dX10_kindAt_16 : decode cX10_kindAt 16 = .ok (.aload_n 0, 1) := by decide +kernel
theorem dX10_kindAt_17 : decode cX10_kindAt 17 = .ok (.getfield 10, 3) := by decide +kernel
theorem dX10_kindAt_20 : decode cX10_kindAt 20 = .ok (.getfield 125, 3) := by decide +kernel
theorem dX10_kindAt_23 : decode cX10_kindAt 23 = .ok (.iload_n 1, 1) := by decide +kernel
theorem dX10_kindAt_24 : decode cX10_kindAt 24 = .ok (.invokevirtual 137, 3) := by decide +kernel
theorem dX10_kindAt_27 : decode cX10_kindAt 27 = .ok (.checkcast 141, 3) := by decide +kernel
theorem dX10_kindAt_30 : decode cX10_kindAt 30 = .ok (.getfield 143, 3) := by decide +kernel
theorem dX10_kindAt_33 : decode cX10_kindAt 33 = .ok (.ireturn, 1) := by decide +kernel
theorem dX10_placeAt_0 : decode cX10_placeAt 0 = .ok (.aload_n 0, 1) := by decide +kernel
theorem dX10_placeAt_1 : decode cX10_placeAt 1 = .ok (.iload_n 1, 1) := by decide +kernel
theorem dX10_placeAt_2 : decode cX10_placeAt 2 = .ok (.invokevirtual 131, 3) := by decide +kernel
theorem dX10_placeAt_5 : decode cX10_placeAt 5 = .ok (.ifCond .ne 11, 3) := by decide +kernel
theorem dX10_placeAt_8 : decode cX10_placeAt 8 = .ok (.new 134, 3) := by decide +kernel
theorem dX10_placeAt_11 : decode cX10_placeAt 11 = .ok (.dup, 1) := by decide +kernel
theorem dX10_placeAt_12 : decode cX10_placeAt 12 = .ok (.invokespecial 136, 3) := by decide +kernel
theorem dX10_placeAt_15 : decode cX10_placeAt 15 = .ok (.athrow, 1) := by decide +kernel
theorem dX10_placeAt_16 : decode cX10_placeAt 16 = .ok (.aload_n 0, 1) := by decide +kernel
theorem dX10_placeAt_17 : decode cX10_placeAt 17 = .ok (.getfield 10, 3) := by decide +kernel
theorem dX10_placeAt_20 : decode cX10_placeAt 20 = .ok (.getfield 125, 3) := by decide +kernel
theorem dX10_placeAt_23 : decode cX10_placeAt 23 = .ok (.iload_n 1, 1) := by decide +kernel
theorem dX10_placeAt_24 : decode cX10_placeAt 24 = .ok (.invokevirtual 137, 3) := by decide +kernel
theorem dX10_placeAt_27 : decode cX10_placeAt 27 = .ok (.checkcast 141, 3) := by decide +kernel
theorem dX10_placeAt_30 : decode cX10_placeAt 30 = .ok (.getfield 146, 3) := by decide +kernel
theorem dX10_placeAt_33 : decode cX10_placeAt 33 = .ok (.ireturn, 1) := by decide +kernel
theorem dX10_kindByPlain_0 : decode cX10_kindByPlain 0 = .ok (.aload_n 0, 1) := by decide +kernel
theorem dX10_kindByPlain_1 : decode cX10_kindByPlain 1 = .ok (.iload_n 1, 1) := by decide +kernel
theorem dX10_kindByPlain_2 : decode cX10_kindByPlain 2 = .ok (.invokevirtual 131, 3) := by decide +kernel
theorem dX10_kindByPlain_5 : decode cX10_kindByPlain 5 = .ok (.ifCond .ne 11, 3) := by decide +kernel
theorem dX10_kindByPlain_8 : decode cX10_kindByPlain 8 = .ok (.new 134, 3) := by decide +kernel
theorem dX10_kindByPlain_11 : decode cX10_kindByPlain 11 = .ok (.dup, 1) := by decide +kernel
theorem dX10_kindByPlain_12 : decode cX10_kindByPlain 12 = .ok (.invokespecial 136, 3) := by decide +kernel
theorem dX10_kindByPlain_15 : decode cX10_kindByPlain 15 = .ok (.athrow, 1) := by decide +kernel
theorem dX10_kindByPlain_16 : decode cX10_kindByPlain 16 = .ok (.aload_n 0, 1) := by decide +kernel
theorem dX10_kindByPlain_17 : decode cX10_kindByPlain 17 = .ok (.getfield 10, 3) := by decide +kernel
theorem dX10_kindByPlain_20 : decode cX10_kindByPlain 20 = .ok (.getfield 125, 3) := by decide +kernel
theorem dX10_kindByPlain_23 : decode cX10_kindByPlain 23 = .ok (.iload_n 1, 1) := by decide +kernel
theorem dX10_kindByPlain_24 : decode cX10_kindByPlain 24 = .ok (.invokevirtual 137, 3) := by decide +kernel
theorem dX10_kindByPlain_27 : decode cX10_kindByPlain 27 = .ok (.checkcast 141, 3) := by decide +kernel
theorem dX10_kindByPlain_30 : decode cX10_kindByPlain 30 = .ok (.getfield 149, 3) := by decide +kernel
theorem dX10_kindByPlain_33 : decode cX10_kindByPlain 33 = .ok (.ireturn, 1) := by decide +kernel
theorem dX10_placeByPlain_0 : decode cX10_placeByPlain 0 = .ok (.aload_n 0, 1) := by decide +kernel
theorem dX10_placeByPlain_1 : decode cX10_placeByPlain 1 = .ok (.iload_n 1, 1) := by decide +kernel
theorem dX10_placeByPlain_2 : decode cX10_placeByPlain 2 = .ok (.invokevirtual 131, 3) := by decide +kernel
theorem dX10_placeByPlain_5 : decode cX10_placeByPlain 5 = .ok (.ifCond .ne 11, 3) := by decide +kernel
theorem dX10_placeByPlain_8 : decode cX10_placeByPlain 8 = .ok (.new 134, 3) := by decide +kernel
theorem dX10_placeByPlain_11 : decode cX10_placeByPlain 11 = .ok (.dup, 1) := by decide +kernel
theorem dX10_placeByPlain_12 : decode cX10_placeByPlain 12 = .ok (.invokespecial 136, 3) := by decide +kernel
theorem dX10_placeByPlain_15 : decode cX10_placeByPlain 15 = .ok (.athrow, 1) := by decide +kernel
theorem dX10_placeByPlain_16 : decode cX10_placeByPlain 16 = .ok (.aload_n 0, 1) := by decide +kernel
theorem dX10_placeByPlain_17 : decode cX10_placeByPlain 17 = .ok (.getfield 10, 3) := by decide +kernel
theorem dX10_placeByPlain_20 : decode cX10_placeByPlain 20 = .ok (.getfield 125, 3) := by decide +kernel
theorem dX10_placeByPlain_23 : decode cX10_placeByPlain 23 = .ok (.iload_n 1, 1) := by decide +kernel
theorem dX10_placeByPlain_24 : decode cX10_placeByPlain 24 = .ok (.invokevirtual 137, 3) := by decide +kernel
theorem dX10_placeByPlain_27 : decode cX10_placeByPlain 27 = .ok (.checkcast 141, 3) := by decide +kernel
theorem dX10_placeByPlain_30 : decode cX10_placeByPlain 30 = .ok (.getfield 152, 3) := by decide +kernel
theorem dX10_placeByPlain_33 : decode cX10_placeByPlain 33 = .ok (.ireturn, 1) := by decide +kernel
theorem dX10_register_0 : decode cX10_register 0 = .ok (.iload_n 1, 1) := by decide +kernel
theorem dX10_register_1 : decode cX10_register 1 = .ok (.invokestatic 16, 3) := by decide +kernel
theorem dX10_register_4 : decode cX10_register 4 = .ok (.ifCond .ne 11, 3) := by decide +kernel
theorem dX10_register_7 : decode cX10_register 7 = .ok (.new 23, 3) := by decide +kernel
theorem dX10_register_10 : decode cX10_register 10 = .ok (.dup, 1) := by decide +kernel
theorem dX10_register_11 : decode cX10_register 11 = .ok (.invokespecial 25, 3) := by decide +kernel
theorem dX10_register_14 : decode cX10_register 14 = .ok (.athrow, 1) := by decide +kernel
theorem dX10_register_15 : decode cX10_register 15 = .ok (.aload_n 0, 1) := by decide +kernel
theorem dX10_register_16 : decode cX10_register 16 = .ok (.getfield 10, 3) := by decide +kernel
theorem dX10_register_19 : decode cX10_register 19 = .ok (.getfield 62, 3) := by decide +kernel
theorem dX10_register_22 : decode cX10_register 22 = .ok (.aload_n 0, 1) := by decide +kernel
theorem dX10_register_23 : decode cX10_register 23 = .ok (.getfield 10, 3) := by decide +kernel
theorem dX10_register_26 : decode cX10_register 26 = .ok (.getfield 62, 3) := by decide +kernel
theorem dX10_register_29 : decode cX10_register 29 = .ok (.getfield 155, 3) := by decide +kernel
theorem dX10_register_32 : decode cX10_register 32 = .ok (.iload_n 1, 1) := by decide +kernel
theorem dX10_register_33 : decode cX10_register 33 = .ok (.iaload, 1) := by decide +kernel
theorem dX10_register_34 : decode cX10_register 34 = .ok (.invokevirtual 158, 3) := by decide +kernel
theorem dX10_register_37 : decode cX10_register 37 = .ok (.ireturn, 1) := by decide +kernel
theorem dX10_registerByPlain_0 : decode cX10_registerByPlain 0 = .ok (.iload_n 1, 1) := by decide +kernel
theorem dX10_registerByPlain_1 : decode cX10_registerByPlain 1 = .ok (.invokestatic 16, 3) := by decide +kernel
theorem dX10_registerByPlain_4 : decode cX10_registerByPlain 4 = .ok (.ifCond .ne 11, 3) := by decide +kernel
theorem dX10_registerByPlain_7 : decode cX10_registerByPlain 7 = .ok (.new 23, 3) := by decide +kernel
theorem dX10_registerByPlain_10 : decode cX10_registerByPlain 10 = .ok (.dup, 1) := by decide +kernel
theorem dX10_registerByPlain_11 : decode cX10_registerByPlain 11 = .ok (.invokespecial 25, 3) := by decide +kernel
theorem dX10_registerByPlain_14 : decode cX10_registerByPlain 14 = .ok (.athrow, 1) := by decide +kernel
theorem dX10_registerByPlain_15 : decode cX10_registerByPlain 15 = .ok (.aload_n 0, 1) := by decide +kernel
theorem dX10_registerByPlain_16 : decode cX10_registerByPlain 16 = .ok (.getfield 10, 3) := by decide +kernel
theorem dX10_registerByPlain_19 : decode cX10_registerByPlain 19 = .ok (.getfield 52, 3) := by decide +kernel
theorem dX10_registerByPlain_22 : decode cX10_registerByPlain 22 = .ok (.getfield 56, 3) := by decide +kernel
theorem dX10_registerByPlain_25 : decode cX10_registerByPlain 25 = .ok (.iload_n 1, 1) := by decide +kernel
theorem dX10_registerByPlain_26 : decode cX10_registerByPlain 26 = .ok (.iaload, 1) := by decide +kernel
theorem dX10_registerByPlain_27 : decode cX10_registerByPlain 27 = .ok (.ireturn, 1) := by decide +kernel
theorem dX10_word_0 : decode cX10_word 0 = .ok (.iload_n 1, 1) := by decide +kernel
theorem dX10_word_1 : decode cX10_word 1 = .ok (.invokestatic 71, 3) := by decide +kernel
theorem dX10_word_4 : decode cX10_word 4 = .ok (.ifCond .ne 11, 3) := by decide +kernel
theorem dX10_word_7 : decode cX10_word 7 = .ok (.new 23, 3) := by decide +kernel
theorem dX10_word_10 : decode cX10_word 10 = .ok (.dup, 1) := by decide +kernel
theorem dX10_word_11 : decode cX10_word 11 = .ok (.invokespecial 25, 3) := by decide +kernel
theorem dX10_word_14 : decode cX10_word 14 = .ok (.athrow, 1) := by decide +kernel
theorem dX10_word_15 : decode cX10_word 15 = .ok (.aload_n 0, 1) := by decide +kernel
theorem dX10_word_16 : decode cX10_word 16 = .ok (.getfield 10, 3) := by decide +kernel
theorem dX10_word_19 : decode cX10_word 19 = .ok (.getfield 74, 3) := by decide +kernel
theorem dX10_word_22 : decode cX10_word 22 = .ok (.iload_n 1, 1) := by decide +kernel
theorem dX10_word_23 : decode cX10_word 23 = .ok (.iaload, 1) := by decide +kernel
theorem dX10_word_24 : decode cX10_word 24 = .ok (.ireturn, 1) := by decide +kernel
theorem dX10_wordByPlain_0 : decode cX10_wordByPlain 0 = .ok (.iload_n 1, 1) := by decide +kernel
theorem dX10_wordByPlain_1 : decode cX10_wordByPlain 1 = .ok (.invokestatic 71, 3) := by decide +kernel
theorem dX10_wordByPlain_4 : decode cX10_wordByPlain 4 = .ok (.ifCond .ne 11, 3) := by decide +kernel
theorem dX10_wordByPlain_7 : decode cX10_wordByPlain 7 = .ok (.new 23, 3) := by decide +kernel
theorem dX10_wordByPlain_10 : decode cX10_wordByPlain 10 = .ok (.dup, 1) := by decide +kernel
theorem dX10_wordByPlain_11 : decode cX10_wordByPlain 11 = .ok (.invokespecial 25, 3) := by decide +kernel
theorem dX10_wordByPlain_14 : decode cX10_wordByPlain 14 = .ok (.athrow, 1) := by decide +kernel
theorem dX10_wordByPlain_15 : decode cX10_wordByPlain 15 = .ok (.aload_n 0, 1) := by decide +kernel
theorem dX10_wordByPlain_16 : decode cX10_wordByPlain 16 = .ok (.getfield 10, 3) := by decide +kernel
theorem dX10_wordByPlain_19 : decode cX10_wordByPlain 19 = .ok (.getfield 52, 3) := by decide +kernel
theorem dX10_wordByPlain_22 : decode cX10_wordByPlain 22 = .ok (.getfield 77, 3) := by decide +kernel
theorem dX10_wordByPlain_25 : decode cX10_wordByPlain 25 = .ok (.iload_n 1, 1) := by decide +kernel
theorem dX10_wordByPlain_26 : decode cX10_wordByPlain 26 = .ok (.iaload, 1) := by decide +kernel
theorem dX10_wordByPlain_27 : decode cX10_wordByPlain 27 = .ok (.ireturn, 1) := by decide +kernel
theorem dX10_kept_0 : decode cX10_kept 0 = .ok (.aload_n 0, 1) := by decide +kernel
theorem dX10_kept_1 : decode cX10_kept 1 = .ok (.getfield 10, 3) := by decide +kernel
theorem dX10_kept_4 : decode cX10_kept 4 = .ok (.getfield 162, 3) := by decide +kernel
theorem dX10_kept_7 : decode cX10_kept 7 = .ok (.ifCond .ne 11, 3) := by decide +kernel
theorem dX10_kept_10 : decode cX10_kept 10 = .ok (.new 165, 3) := by decide +kernel
theorem dX10_kept_13 : decode cX10_kept 13 = .ok (.dup, 1) := by decide +kernel
theorem dX10_kept_14 : decode cX10_kept 14 = .ok (.invokespecial 167, 3) := by decide +kernel
theorem dX10_kept_17 : decode cX10_kept 17 = .ok (.athrow, 1) := by decide +kernel
theorem dX10_kept_18 : decode cX10_kept 18 = .ok (.aload_n 0, 1) := by decide +kernel
theorem dX10_kept_19 : decode cX10_kept 19 = .ok (.getfield 10, 3) := by decide +kernel
theorem dX10_kept_22 : decode cX10_kept 22 = .ok (.getfield 168, 3) := by decide +kernel
theorem dX10_kept_25 : decode cX10_kept 25 = .ok (.ireturn, 1) := by decide +kernel
theorem dX10_life_0 : decode cX10_life 0 = .ok (.aload_n 0, 1) := by decide +kernel
theorem dX10_life_1 : decode cX10_life 1 = .ok (.iload_n 1, 1) := by decide +kernel
theorem dX10_life_2 : decode cX10_life 2 = .ok (.invokevirtual 131, 3) := by decide +kernel
theorem dX10_life_5 : decode cX10_life 5 = .ok (.ifCond .ne 11, 3) := by decide +kernel
theorem dX10_life_8 : decode cX10_life 8 = .ok (.new 134, 3) := by decide +kernel
theorem dX10_life_11 : decode cX10_life 11 = .ok (.dup, 1) := by decide +kernel
theorem dX10_life_12 : decode cX10_life 12 = .ok (.invokespecial 136, 3) := by decide +kernel
theorem dX10_life_15 : decode cX10_life 15 = .ok (.athrow, 1) := by decide +kernel
theorem dX10_life_16 : decode cX10_life 16 = .ok (.iload_n 2, 1) := by decide +kernel
theorem dX10_life_17 : decode cX10_life 17 = .ok (.ifCond .lt 8, 3) := by decide +kernel
theorem dX10_life_20 : decode cX10_life 20 = .ok (.iload_n 2, 1) := by decide +kernel
theorem dX10_life_21 : decode cX10_life 21 = .ok (.iconst 5, 1) := by decide +kernel
theorem dX10_life_22 : decode cX10_life 22 = .ok (.if_icmp .lt 11, 3) := by decide +kernel
theorem dX10_life_25 : decode cX10_life 25 = .ok (.new 23, 3) := by decide +kernel
theorem dX10_life_28 : decode cX10_life 28 = .ok (.dup, 1) := by decide +kernel
theorem dX10_life_29 : decode cX10_life 29 = .ok (.invokespecial 25, 3) := by decide +kernel
theorem dX10_life_32 : decode cX10_life 32 = .ok (.athrow, 1) := by decide +kernel
theorem dX10_life_33 : decode cX10_life 33 = .ok (.aload_n 0, 1) := by decide +kernel
theorem dX10_life_34 : decode cX10_life 34 = .ok (.getfield 10, 3) := by decide +kernel
theorem dX10_life_37 : decode cX10_life 37 = .ok (.getfield 125, 3) := by decide +kernel
theorem dX10_life_40 : decode cX10_life 40 = .ok (.iload_n 1, 1) := by decide +kernel
theorem dX10_life_41 : decode cX10_life 41 = .ok (.invokevirtual 137, 3) := by decide +kernel
theorem dX10_life_44 : decode cX10_life 44 = .ok (.checkcast 141, 3) := by decide +kernel
theorem dX10_life_47 : decode cX10_life 47 = .ok (.getfield 171, 3) := by decide +kernel
theorem dX10_life_50 : decode cX10_life 50 = .ok (.iload_n 2, 1) := by decide +kernel
theorem dX10_life_51 : decode cX10_life 51 = .ok (.iaload, 1) := by decide +kernel
theorem dX10_life_52 : decode cX10_life 52 = .ok (.istore_n 3, 1) := by decide +kernel
theorem dX10_life_53 : decode cX10_life 53 = .ok (.iload_n 3, 1) := by decide +kernel
theorem dX10_life_54 : decode cX10_life 54 = .ok (.iconst (-1), 1) := by decide +kernel
theorem dX10_life_55 : decode cX10_life 55 = .ok (.if_icmp .ne 11, 3) := by decide +kernel
theorem dX10_life_58 : decode cX10_life 58 = .ok (.new 165, 3) := by decide +kernel
theorem dX10_life_61 : decode cX10_life 61 = .ok (.dup, 1) := by decide +kernel
theorem dX10_life_62 : decode cX10_life 62 = .ok (.invokespecial 167, 3) := by decide +kernel
theorem dX10_life_65 : decode cX10_life 65 = .ok (.athrow, 1) := by decide +kernel
theorem dX10_life_66 : decode cX10_life 66 = .ok (.iload_n 3, 1) := by decide +kernel
theorem dX10_life_67 : decode cX10_life 67 = .ok (.ireturn, 1) := by decide +kernel
theorem dX10_inner_0 : decode cX10_inner 0 = .ok (.iload_n 1, 1) := by decide +kernel
theorem dX10_inner_1 : decode cX10_inner 1 = .ok (.invokestatic 16, 3) := by decide +kernel
theorem dX10_inner_4 : decode cX10_inner 4 = .ok (.ifCond .ne 11, 3) := by decide +kernel
theorem dX10_inner_7 : decode cX10_inner 7 = .ok (.new 23, 3) := by decide +kernel
theorem dX10_inner_10 : decode cX10_inner 10 = .ok (.dup, 1) := by decide +kernel
theorem dX10_inner_11 : decode cX10_inner 11 = .ok (.invokespecial 25, 3) := by decide +kernel
theorem dX10_inner_14 : decode cX10_inner 14 = .ok (.athrow, 1) := by decide +kernel
theorem dX10_inner_15 : decode cX10_inner 15 = .ok (.aload_n 0, 1) := by decide +kernel
theorem dX10_inner_16 : decode cX10_inner 16 = .ok (.getfield 10, 3) := by decide +kernel
theorem dX10_inner_19 : decode cX10_inner 19 = .ok (.getfield 62, 3) := by decide +kernel
theorem dX10_inner_22 : decode cX10_inner 22 = .ok (.getfield 174, 3) := by decide +kernel
theorem dX10_inner_25 : decode cX10_inner 25 = .ok (.iload_n 1, 1) := by decide +kernel
theorem dX10_inner_26 : decode cX10_inner 26 = .ok (.iaload, 1) := by decide +kernel
theorem dX10_inner_27 : decode cX10_inner 27 = .ok (.ireturn, 1) := by decide +kernel
theorem dX0_findInner_0 : decode cX0_findInner 0 = .ok (.aload_n 0, 1) := by decide +kernel
theorem dX0_findInner_1 : decode cX0_findInner 1 = .ok (.getfield 42, 3) := by decide +kernel
theorem dX0_findInner_4 : decode cX0_findInner 4 = .ok (.getfield 427, 3) := by decide +kernel
theorem dX0_findInner_7 : decode cX0_findInner 7 = .ok (.iload_n 1, 1) := by decide +kernel
theorem dX0_findInner_8 : decode cX0_findInner 8 = .ok (.iaload, 1) := by decide +kernel
theorem dX0_findInner_9 : decode cX0_findInner 9 = .ok (.istore_n 2, 1) := by decide +kernel
theorem dX0_findInner_10 : decode cX0_findInner 10 = .ok (.iconst 0, 1) := by decide +kernel
theorem dX0_findInner_11 : decode cX0_findInner 11 = .ok (.istore_n 3, 1) := by decide +kernel
theorem dX0_findInner_12 : decode cX0_findInner 12 = .ok (.iload_n 3, 1) := by decide +kernel
theorem dX0_findInner_13 : decode cX0_findInner 13 = .ok (.aload_n 0, 1) := by decide +kernel
theorem dX0_findInner_14 : decode cX0_findInner 14 = .ok (.getfield 60, 3) := by decide +kernel
theorem dX0_findInner_17 : decode cX0_findInner 17 = .ok (.invokevirtual 123, 3) := by decide +kernel
theorem dX0_findInner_20 : decode cX0_findInner 20 = .ok (.if_icmp .ge 51, 3) := by decide +kernel
theorem dX0_findInner_23 : decode cX0_findInner 23 = .ok (.aload_n 0, 1) := by decide +kernel
theorem dX0_findInner_24 : decode cX0_findInner 24 = .ok (.getfield 60, 3) := by decide +kernel
theorem dX0_findInner_27 : decode cX0_findInner 27 = .ok (.iload_n 3, 1) := by decide +kernel
theorem dX0_findInner_28 : decode cX0_findInner 28 = .ok (.invokevirtual 127, 3) := by decide +kernel
theorem dX0_findInner_31 : decode cX0_findInner 31 = .ok (.checkcast 131, 3) := by decide +kernel
theorem dX0_findInner_34 : decode cX0_findInner 34 = .ok (.astore 4, 2) := by decide +kernel
theorem dX0_findInner_36 : decode cX0_findInner 36 = .ok (.aload 4, 2) := by decide +kernel
theorem dX0_findInner_38 : decode cX0_findInner 38 = .ok (.getfield 161, 3) := by decide +kernel
theorem dX0_findInner_41 : decode cX0_findInner 41 = .ok (.invokevirtual 179, 3) := by decide +kernel
theorem dX0_findInner_44 : decode cX0_findInner 44 = .ok (.ifCond .eq 21, 3) := by decide +kernel
theorem dX0_findInner_47 : decode cX0_findInner 47 = .ok (.aload 4, 2) := by decide +kernel
theorem dX0_findInner_49 : decode cX0_findInner 49 = .ok (.getfield 161, 3) := by decide +kernel
theorem dX0_findInner_52 : decode cX0_findInner 52 = .ok (.getfield 430, 3) := by decide +kernel
theorem dX0_findInner_55 : decode cX0_findInner 55 = .ok (.iload_n 1, 1) := by decide +kernel
theorem dX0_findInner_56 : decode cX0_findInner 56 = .ok (.if_icmp .ne 9, 3) := by decide +kernel
theorem dX0_findInner_59 : decode cX0_findInner 59 = .ok (.aload 4, 2) := by decide +kernel
theorem dX0_findInner_61 : decode cX0_findInner 61 = .ok (.getfield 230, 3) := by decide +kernel
theorem dX0_findInner_64 : decode cX0_findInner 64 = .ok (.istore_n 2, 1) := by decide +kernel
theorem dX0_findInner_65 : decode cX0_findInner 65 = .ok (.iinc 3 1, 3) := by decide +kernel
theorem dX0_findInner_68 : decode cX0_findInner 68 = .ok (.goto (-56), 3) := by decide +kernel
theorem dX0_findInner_71 : decode cX0_findInner 71 = .ok (.iload_n 2, 1) := by decide +kernel
theorem dX0_findInner_72 : decode cX0_findInner 72 = .ok (.ireturn, 1) := by decide +kernel
def mX4_guessLeap : MD := (cX4_guessLeap, RX4, yX4_guessLeap, 3, (some .int), 1, 22)
theorem mf_X4_guessLeap : MF mX4_guessLeap 1 := MF.of 1132 50 (by decide +kernel) (by decide +kernel) (by decide +kernel) (by decide +kernel) (by decide +kernel) rfl
def mX4_guess : MD := (cX4_guess, RX4, yX4_guess, 3, (some .int), 2, 44)
theorem mf_X4_guess : MF mX4_guess 1 := MF.of 1120 50 (by decide +kernel) (by decide +kernel) (by decide +kernel) (by decide +kernel) (by decide +kernel) rfl
def mX6_endsFetching : MD := (cX6_endsFetching, RX6, yX6_endsFetching, 1, (some .boolean), 0, 0)
theorem mf_X6_endsFetching : MF mX6_endsFetching 0 := MF.of 1136 62 (by decide +kernel) (by decide +kernel) (by decide +kernel) (by decide +kernel) (by decide +kernel) rfl
def mX3_init : MD := (cX3_init, RX3, yX3_init, 5, none, 2, 44)
theorem mf_X3_init : MF mX3_init 4 := MF.of 1141 67 (by decide +kernel) (by decide +kernel) (by decide +kernel) (by decide +kernel) (by decide +kernel) rfl
def mX4_fetch : MD := (cX4_fetch, RX4, yX4_fetch, 7, none, 7, 191)
theorem mf_X4_fetch : MF mX4_fetch 3 := MF.of 1113 50 (by decide +kernel) (by decide +kernel) (by decide +kernel) (by decide +kernel) (by decide +kernel) rfl
def mX0_doCycle : MD := (cX0_doCycle, RX0, yX0_doCycle, 1, none, 10, 259)
theorem mf_X0_doCycle : MF mX0_doCycle 0 := MF.of 745 40 (by decide +kernel) (by decide +kernel) (by decide +kernel) (by decide +kernel) (by decide +kernel) rfl
def mX10_run : MD := (cX10_run, RX10, yX10_run, 4, (some .int), 11, 279)
theorem mf_X10_run : MF mX10_run 1 := MF.of 741 39 (by decide +kernel) (by decide +kernel) (by decide +kernel) (by decide +kernel) (by decide +kernel) rfl
def mX10_cycle : MD := (cX10_cycle, RX10, yX10_cycle, 1, (some .int), 0, 0)
theorem mf_X10_cycle : MF mX10_cycle 0 := MF.of 412 39 (by decide +kernel) (by decide +kernel) (by decide +kernel) (by decide +kernel) (by decide +kernel) rfl
def mX10_hasStopped : MD := (cX10_hasStopped, RX10, yX10_hasStopped, 1, (some .boolean), 0, 0)
theorem mf_X10_hasStopped : MF mX10_hasStopped 0 := MF.of 416 39 (by decide +kernel) (by decide +kernel) (by decide +kernel) (by decide +kernel) (by decide +kernel) rfl
def mX10_ends : MD := (cX10_ends, RX10, yX10_ends, 1, (some .int), 1, 20)
theorem mf_X10_ends : MF mX10_ends 0 := MF.of 420 39 (by decide +kernel) (by decide +kernel) (by decide +kernel) (by decide +kernel) (by decide +kernel) rfl
def mX10_isEnd : MD := (cX10_isEnd, RX10, yX10_isEnd, 2, (some .boolean), 1, 20)
theorem mf_X10_isEnd : MF mX10_isEnd 1 := MF.of 1234 39 (by decide +kernel) (by decide +kernel) (by decide +kernel) (by decide +kernel) (by decide +kernel) rfl
def mX10_kindAt : MD := (cX10_kindAt, RX10, yX10_kindAt, 2, (some .int), 6, 90)
theorem mf_X10_kindAt : MF mX10_kindAt 1 := MF.of 1230 39 (by decide +kernel) (by decide +kernel) (by decide +kernel) (by decide +kernel) (by decide +kernel) rfl
def mX10_placeAt : MD := (cX10_placeAt, RX10, yX10_placeAt, 2, (some .int), 6, 90)
theorem mf_X10_placeAt : MF mX10_placeAt 1 := MF.of 1255 39 (by decide +kernel) (by decide +kernel) (by decide +kernel) (by decide +kernel) (by decide +kernel) rfl
def mX10_kindByPlain : MD := (cX10_kindByPlain, RX10, yX10_kindByPlain, 2, (some .int), 6, 90)
theorem mf_X10_kindByPlain : MF mX10_kindByPlain 1 := MF.of 1259 39 (by decide +kernel) (by decide +kernel) (by decide +kernel) (by decide +kernel) (by decide +kernel) rfl
def mX10_placeByPlain : MD := (cX10_placeByPlain, RX10, yX10_placeByPlain, 2, (some .int), 6, 90)
theorem mf_X10_placeByPlain : MF mX10_placeByPlain 1 := MF.of 1263 39 (by decide +kernel) (by decide +kernel) (by decide +kernel) (by decide +kernel) (by decide +kernel) rfl
def mX10_register : MD := (cX10_register, RX10, yX10_register, 2, (some .int), 6, 90)
theorem mf_X10_register : MF mX10_register 1 := MF.of 1326 39 (by decide +kernel) (by decide +kernel) (by decide +kernel) (by decide +kernel) (by decide +kernel) rfl
def mX10_registerByPlain : MD := (cX10_registerByPlain, RX10, yX10_registerByPlain, 2, (some .int), 6, 90)
theorem mf_X10_registerByPlain : MF mX10_registerByPlain 1 := MF.of 1331 39 (by decide +kernel) (by decide +kernel) (by decide +kernel) (by decide +kernel) (by decide +kernel) rfl
def mX10_word : MD := (cX10_word, RX10, yX10_word, 2, (some .int), 6, 90)
theorem mf_X10_word : MF mX10_word 1 := MF.of 1335 39 (by decide +kernel) (by decide +kernel) (by decide +kernel) (by decide +kernel) (by decide +kernel) rfl
def mX10_wordByPlain : MD := (cX10_wordByPlain, RX10, yX10_wordByPlain, 2, (some .int), 6, 90)
theorem mf_X10_wordByPlain : MF mX10_wordByPlain 1 := MF.of 1339 39 (by decide +kernel) (by decide +kernel) (by decide +kernel) (by decide +kernel) (by decide +kernel) rfl
def mX10_kept : MD := (cX10_kept, RX10, yX10_kept, 1, (some .int), 6, 90)
theorem mf_X10_kept : MF mX10_kept 0 := MF.of 1372 39 (by decide +kernel) (by decide +kernel) (by decide +kernel) (by decide +kernel) (by decide +kernel) rfl
def mX10_life : MD := (cX10_life, RX10, yX10_life, 4, (some .int), 6, 90)
theorem mf_X10_life : MF mX10_life 2 := MF.of 1303 39 (by decide +kernel) (by decide +kernel) (by decide +kernel) (by decide +kernel) (by decide +kernel) rfl
def mX10_inner : MD := (cX10_inner, RX10, yX10_inner, 2, (some .int), 6, 90)
theorem mf_X10_inner : MF mX10_inner 1 := MF.of 1343 39 (by decide +kernel) (by decide +kernel) (by decide +kernel) (by decide +kernel) (by decide +kernel) rfl
def mX0_findInner : MD := (cX0_findInner, RX0, yX0_findInner, 5, (some .int), 3, 64)
theorem mf_X0_findInner : MF mX0_findInner 1 := MF.of 1351 40 (by decide +kernel) (by decide +kernel) (by decide +kernel) (by decide +kernel) (by decide +kernel) rfl
theorem ci_X4_59 : CIs RX4 59 mX3_init := CIs.of 1139 1140 (by decide +kernel) (by decide +kernel) rfl rfl
theorem cs_X3_9 : CNs RX3 9 mX10_newLife "Reorderium" := CNs.of 1143 841 (by decide +kernel) (by decide +kernel)
theorem cv_X0_100 : CVs RX0 100 mX0_doEndings 1 := CVs.of 761 763 6 (by decide +kernel) (by decide +kernel) (by decide +kernel) _ rfl rfl
theorem cv_X0_103 : CVs RX0 103 mX0_doRetiring 1 := CVs.of 832 834 13 (by decide +kernel) (by decide +kernel) (by decide +kernel) _ rfl rfl
theorem cv_X0_106 : CVs RX0 106 mX0_doBeginnings 1 := CVs.of 1004 1006 21 (by decide +kernel) (by decide +kernel) (by decide +kernel) _ rfl rfl
theorem cv_X0_109 : CVs RX0 109 mX0_doRenaming 1 := CVs.of 1075 1077 28 (by decide +kernel) (by decide +kernel) (by decide +kernel) _ rfl rfl
theorem cv_X0_115 : CVs RX0 115 mX4_fetch 5 := CVs.of 1110 1111 1112 (by decide +kernel) (by decide +kernel) (by decide +kernel) _ rfl rfl
theorem cv_X0_97 : CVs RX0 97 mX0_doAnswers 1 := CVs.of 746 748 5 (by decide +kernel) (by decide +kernel) (by decide +kernel) _ rfl rfl
theorem cv_X10_128 : CVs RX10 128 mX0_doCycle 1 := CVs.of 742 743 744 (by decide +kernel) (by decide +kernel) (by decide +kernel) _ rfl rfl
theorem cv_X10_131 : CVs RX10 131 mX10_isEnd 11 := CVs.of 1231 1233 36 (by decide +kernel) (by decide +kernel) (by decide +kernel) _ rfl rfl
theorem cv_X10_137 : CVs RX10 137 mJx4a65c_get_915e3 0 := CVs.of 1250 447 448 (by decide +kernel) (by decide +kernel) (by decide +kernel) _ rfl rfl
theorem cv_X10_158 : CVs RX10 158 mX5_valueOf 6 := CVs.of 1327 466 467 (by decide +kernel) (by decide +kernel) (by decide +kernel) _ rfl rfl
theorem cv_X4_39 : CVs RX4 39 mJx4a65c_size_8abf5 0 := CVs.of 1114 422 423 (by decide +kernel) (by decide +kernel) (by decide +kernel) _ rfl rfl
theorem cv_X4_43 : CVs RX4 43 mJx4a65c_get_915e3 0 := CVs.of 1115 447 448 (by decide +kernel) (by decide +kernel) (by decide +kernel) _ rfl rfl
theorem cv_X4_49 : CVs RX4 49 mX4_guess 5 := CVs.of 1117 1119 32 (by decide +kernel) (by decide +kernel) (by decide +kernel) _ rfl rfl
theorem cv_X4_53 : CVs RX4 53 mX6_endsFetching 7 := CVs.of 1133 1134 1135 (by decide +kernel) (by decide +kernel) (by decide +kernel) _ rfl rfl
theorem cv_X4_65 : CVs RX4 65 mJx4a65c_add_9ea2d 0 := CVs.of 1222 632 633 (by decide +kernel) (by decide +kernel) (by decide +kernel) _ rfl rfl
theorem cv_X4_82 : CVs RX4 82 mX4_push 5 := CVs.of 1121 1123 33 (by decide +kernel) (by decide +kernel) (by decide +kernel) _ rfl rfl
theorem cv_X4_86 : CVs RX4 86 mX4_pop 5 := CVs.of 1125 1127 34 (by decide +kernel) (by decide +kernel) (by decide +kernel) _ rfl rfl
theorem cv_X4_89 : CVs RX4 89 mX4_guessLeap 5 := CVs.of 1129 1131 35 (by decide +kernel) (by decide +kernel) (by decide +kernel) _ rfl rfl
theorem fl_X0_427 : FL RX0 427 6 1 3 := FL.of _ rfl (by decide) 240 (by decide +kernel) (by decide)
theorem fl_X0_430 : FL RX0 430 7 2 0 := FL.of _ rfl (by decide) 607 (by decide +kernel) (by decide)
theorem fl_X10_122 : FL RX10 122 1 13 1 := FL.of _ rfl (by decide) 356 (by decide +kernel) (by decide)
theorem fl_X10_125 : FL RX10 125 1 8 3 := FL.of _ rfl (by decide) 347 (by decide +kernel) (by decide)
theorem fl_X10_143 : FL RX10 143 3 0 0 := FL.of _ rfl (by decide) 897 (by decide +kernel) (by decide)
theorem fl_X10_146 : FL RX10 146 3 1 0 := FL.of _ rfl (by decide) 900 (by decide +kernel) (by decide)
theorem fl_X10_149 : FL RX10 149 3 2 0 := FL.of _ rfl (by decide) 903 (by decide +kernel) (by decide)
theorem fl_X10_152 : FL RX10 152 3 3 0 := FL.of _ rfl (by decide) 906 (by decide +kernel) (by decide)
theorem fl_X10_155 : FL RX10 155 6 1 3 := FL.of _ rfl (by decide) 239 (by decide +kernel) (by decide)
theorem fl_X10_162 : FL RX10 162 1 15 1 := FL.of _ rfl (by decide) 360 (by decide +kernel) (by decide)
theorem fl_X10_168 : FL RX10 168 1 16 0 := FL.of _ rfl (by decide) 362 (by decide +kernel) (by decide)
theorem fl_X10_171 : FL RX10 171 3 4 3 := FL.of _ rfl (by decide) 909 (by decide +kernel) (by decide)
theorem fl_X10_174 : FL RX10 174 6 0 3 := FL.of _ rfl (by decide) 237 (by decide +kernel) (by decide)
theorem fl_X3_23 : FL RX3 23 4 6 0 := FL.of _ rfl (by decide) 1161 (by decide +kernel) (by decide)
theorem fl_X3_27 : FL RX3 27 4 7 0 := FL.of _ rfl (by decide) 1164 (by decide +kernel) (by decide)
theorem fl_X3_30 : FL RX3 30 4 8 0 := FL.of _ rfl (by decide) 1167 (by decide +kernel) (by decide)
theorem fl_X3_33 : FL RX3 33 4 9 0 := FL.of _ rfl (by decide) 1170 (by decide +kernel) (by decide)
theorem fl_X3_52 : FL RX3 52 4 16 0 := FL.of _ rfl (by decide) 1185 (by decide +kernel) (by decide)
theorem fl_X3_59 : FL RX3 59 4 1 0 := FL.of _ rfl (by decide) 1149 (by decide +kernel) (by decide)
theorem fl_X3_62 : FL RX3 62 4 2 0 := FL.of _ rfl (by decide) 1151 (by decide +kernel) (by decide)
theorem fl_X3_65 : FL RX3 65 4 3 3 := FL.of _ rfl (by decide) 1153 (by decide +kernel) (by decide)
theorem fl_X4_62 : FL RX4 62 4 4 3 := FL.of _ rfl (by decide) 1156 (by decide +kernel) (by decide)
theorem fl_X4_79 : FL RX4 79 7 5 0 := FL.of _ rfl (by decide) 617 (by decide +kernel) (by decide)
theorem fn_4_0 : FO 4 0 RX3 := fun q h => by cases h; exact ⟨rfl, rfl⟩
theorem fn_4_1 : FO 4 1 RX3 := fun q h => by cases h; exact ⟨rfl, rfl⟩
theorem fn_4_2 : FO 4 2 RX3 := fun q h => by cases h; exact ⟨rfl, rfl⟩
theorem fn_4_3 : FO 4 3 RX3 := fun q h => by cases h; exact ⟨rfl, rfl⟩
theorem fn_4_4 : FO 4 4 RX3 := fun q h => by cases h; exact ⟨rfl, rfl⟩
theorem iv_bipush_60 : (Int8.ofInt (60)).toInt32 = 60 := by decide
theorem iv_sipush_500 : (Int16.ofInt (500)).toInt32 = 500 := by decide
theorem kt_X10_141 : KTs RX10 141 3 := KTs.of _ rfl 1251 (by decide +kernel)
theorem kt_X4_47 : KTs RX4 47 7 := KTs.of _ rfl 1116 (by decide +kernel)
theorem nw_X4_57 : NWs RX4 57 4 17 := NWs.of _ rfl rfl 1137 1138 67 (by decide +kernel) (by decide +kernel) (by decide +kernel)
theorem oi_X3_3 : Cond.methodLink RX3 3 Lib.objectInit ∈ lw_tbl := List.mem_of_getElem? (i := 1142) (by decide +kernel)
def f_X4_guessLeap (a0 : Nat) (x1 : Int32) (μ : Mm) : Option Int32 :=
  ck (mK μ a0 = 105) <|
  bd (mR μ a0 2) fun p2 =>
  bd (f_J9_floorMod_7cf53 x1 8) fun y4 =>
  ck (isA 1 (mK μ p2)) <|
  ck (inb y4 (mL μ p2)) <|
  if ¬ (mI μ p2 (Int32.toNatClampNeg y4)) = ((-1)) then
    some (mI μ p2 (Int32.toNatClampNeg y4))
  else
    some (x1 + 1)
set_option maxRecDepth 100000 in
theorem s_X4_guessLeap {l : Launch} {G : Gt} (hG : Gok l G) (a0 : Nat) (x1 : Int32) (μ : Mm) (r : Int32) (h : f_X4_guessLeap a0 x1 μ = some r) : ZX l G mX4_guessLeap 0 [(0, .ref a0), (1, .int x1)] [] μ (.inl (some (.int r))) μ := by
  unfold f_X4_guessLeap at h
  refine zx_aload_n dX4_guessLeap_0 rfl (q := 0) rfl ?_
  obtain ⟨h1, h⟩ := ck_e h
  obtain ⟨p2, h3, h⟩ := bd_e h
  refine zx_getR hG fl_X4_22 h1 h3 dX4_guessLeap_1 ?_
  refine zx_iload_n dX4_guessLeap_4 rfl (q := 1) rfl ?_
  refine zx_bipush (v := 8) dX4_guessLeap_5 iv_bipush_8 ?_
  obtain ⟨y4, z5, h⟩ := bd_e h
  refine zx_callS (As := [.int x1, .int 8]) hG mf_J9_floorMod_7cf53 cs_X4_73 ⟨by decide, by decide⟩ rfl rfl (Nat.le_of_ble_eq_true rfl) (s_J9_floorMod_7cf53 hG _ _ _ _ z5) (Nat.le_of_ble_eq_true rfl) dX4_guessLeap_7 ?_
  obtain ⟨h6, h⟩ := ck_e h
  obtain ⟨h7, h⟩ := ck_e h
  refine zx_iald hG rfl (h6).1 (h6).2 (inb_e h7) dX4_guessLeap_10 ?_
  refine zx_istore_n (L' := [(2, .int (mI μ p2 (Int32.toNatClampNeg y4))), (0, .ref a0), (1, .int x1)]) dX4_guessLeap_11 rfl (by decide) rfl ?_
  refine zx_iload_n dX4_guessLeap_12 rfl (q := 0) rfl ?_
  refine zx_iconst (v := (-1)) dX4_guessLeap_13 iv_iconst_m1 ?_
  by_cases c8 : ¬ (mI μ p2 (Int32.toNatClampNeg y4)) = ((-1))
  · have h := it_t c8 h
    refine zx_icmp_ne_t (tgt := 23) dX4_guessLeap_14 (by decide) c8 ?_
    refine zx_iload_n dX4_guessLeap_23 rfl (q := 0) rfl ?_
    cases h
    exact zx_iret dX4_guessLeap_24 rfl
  · have h := it_f c8 h
    refine zx_icmp_ne_f (tgt := 23) dX4_guessLeap_14 (by decide) (Classical.not_not.mp c8) ?_
    refine zx_iload_n dX4_guessLeap_17 rfl (q := 2) rfl ?_
    refine zx_iconst (v := 1) dX4_guessLeap_18 iv_iconst_1 ?_
    refine zx_iadd dX4_guessLeap_19 ?_
    refine zx_goto (tgt := 24) dX4_guessLeap_20 (by decide) ?_
    cases h
    exact zx_iret dX4_guessLeap_24 rfl
def f_X4_guess (a0 : Nat) (a1 : Nat) (μ : Mm) : Option (Int32 × Mm) :=
  ck (mK μ a1 = 107) <|
  if (Int32.toInt (mI μ a1 1)) < 12 ∨ 17 < (Int32.toInt (mI μ a1 1)) then
    some ((mI μ a1 0) + 1, μ)
  else if (mI μ a1 1) = 12 then
      ck (mK μ a0 = 105) <|
      bd (mR μ a0 1) fun p5 =>
      bd (f_J9_floorMod_7cf53 (mI μ a1 0) 16) fun y7 =>
      ck (isA 1 (mK μ p5)) <|
      ck (inb y7 (mL μ p5)) <|
      if (mI μ p5 (Int32.toNatClampNeg y7)) < 2 then
        some ((mI μ a1 0) + 1, μ)
      else
        some (mI μ a1 5, μ)
  else if (mI μ a1 1) = 13 then
      ck (mK μ a0 = 105) <|
      bd (mR μ a0 1) fun p14 =>
      bd (f_J9_floorMod_7cf53 (mI μ a1 0) 16) fun y16 =>
      ck (isA 1 (mK μ p14)) <|
      ck (inb y16 (mL μ p14)) <|
      if (mI μ p14 (Int32.toNatClampNeg y16)) < 2 then
        some ((mI μ a1 0) + 1, μ)
      else
        some (mI μ a1 5, μ)
  else if (mI μ a1 1) = 14 then
      some (mI μ a1 5, μ)
  else if (mI μ a1 1) = 15 then
      ck (mK μ a0 = 105) <|
      cl (f_X4_push a0 ((mI μ a1 0) + 1) μ) fun _ μ26 =>
      ck (mK μ26 a1 = 107) <|
      some (mI μ26 a1 5, μ26)
  else if (mI μ a1 1) = 16 then
      ck (mK μ a0 = 105) <|
      bd (mR μ a0 3) fun p30 =>
      ck (isA1256 (mK μ p30)) <|
      if ¬ (nI (mL μ p30)) = 0 then
        cl (f_X4_pop a0 μ) fun y34 μ36 =>
        some (y34, μ36)
      else
        some ((mI μ a1 0) + 1, μ)
  else if (mI μ a1 1) = 17 then
      ck (mK μ a0 = 105) <|
      bd (f_X4_guessLeap a0 (mI μ a1 0) μ) fun y39 =>
      some (y39, μ)
  else
    none
set_option maxRecDepth 100000 in
theorem s_X4_guess {l : Launch} {G : Gt} (hG : Gok l G) (a0 : Nat) (a1 : Nat) (μ : Mm) (r : Int32) (μ' : Mm) (h : f_X4_guess a0 a1 μ = some (r, μ')) : ZX l G mX4_guess 0 [(0, .ref a0), (1, .ref a1)] [] μ (.inl (some (.int r))) μ' := by
  unfold f_X4_guess at h
  refine zx_aload_n dX4_guess_0 rfl (q := 1) rfl ?_
  obtain ⟨h1, h⟩ := ck_e h
  refine zx_getI hG fl_X4_69 h1 dX4_guess_1 ?_
  refine zx_iconst (v := 1) dX4_guess_4 iv_iconst_1 ?_
  refine zx_iadd dX4_guess_5 ?_
  refine zx_istore_n (L' := [(2, .int ((mI μ a1 0) + 1)), (0, .ref a0), (1, .ref a1)]) dX4_guess_6 rfl (by decide) rfl ?_
  refine zx_aload_n dX4_guess_7 rfl (q := 2) rfl ?_
  refine zx_getI hG fl_X4_70 h1 dX4_guess_8 ?_
  by_cases c2 : (Int32.toInt (mI μ a1 1)) < 12 ∨ 17 < (Int32.toInt (mI μ a1 1))
  · have h := it_t c2 h
    refine zx_tsOut dX4_guess_11 c2 (tgt := 116) (by decide) ?_
    refine zx_iload_n dX4_guess_116 rfl (q := 0) rfl ?_
    cases h
    exact zx_iret dX4_guess_117 rfl
  · have h := it_f c2 h
    by_cases c3 : (mI μ a1 1) = 12
    · have h := it_t c3 h
      refine zx_tsIn dX4_guess_11 (by rw [c3]; decide) (by rw [c3]; decide) (off := 37) (tgt := 48) (by rw [c3]; decide) (by decide) ?_
      refine zx_aload_n dX4_guess_48 rfl (q := 1) rfl ?_
      obtain ⟨h4, h⟩ := ck_e h
      obtain ⟨p5, h6, h⟩ := bd_e h
      refine zx_getR hG fl_X4_18 h4 h6 dX4_guess_49 ?_
      refine zx_aload_n dX4_guess_52 rfl (q := 2) rfl ?_
      refine zx_getI hG fl_X4_69 h1 dX4_guess_53 ?_
      refine zx_bipush (v := 16) dX4_guess_56 iv_bipush_16 ?_
      obtain ⟨y7, z8, h⟩ := bd_e h
      refine zx_callS (As := [.int (mI μ a1 0), .int 16]) hG mf_J9_floorMod_7cf53 cs_X4_73 ⟨by decide, by decide⟩ rfl rfl (Nat.le_of_ble_eq_true rfl) (s_J9_floorMod_7cf53 hG _ _ _ _ z8) (Nat.le_of_ble_eq_true rfl) dX4_guess_58 ?_
      obtain ⟨h9, h⟩ := ck_e h
      obtain ⟨h10, h⟩ := ck_e h
      refine zx_iald hG rfl (h9).1 (h9).2 (inb_e h10) dX4_guess_61 ?_
      refine zx_iconst (v := 2) dX4_guess_62 iv_iconst_2 ?_
      by_cases c11 : (mI μ p5 (Int32.toNatClampNeg y7)) < 2
      · have h := it_t c11 h
        refine zx_icmp_lt_t (tgt := 73) dX4_guess_63 (by decide) c11 ?_
        refine zx_iload_n dX4_guess_73 rfl (q := 0) rfl ?_
        cases h
        exact zx_iret dX4_guess_74 rfl
      · have h := it_f c11 h
        refine zx_icmp_lt_f (tgt := 73) dX4_guess_63 (by decide) c11 ?_
        refine zx_aload_n dX4_guess_66 rfl (q := 2) rfl ?_
        refine zx_getI hG fl_X4_79 h1 dX4_guess_67 ?_
        refine zx_goto (tgt := 74) dX4_guess_70 (by decide) ?_
        cases h
        exact zx_iret dX4_guess_74 rfl
    have h := it_f c3 h
    by_cases c12 : (mI μ a1 1) = 13
    · have h := it_t c12 h
      refine zx_tsIn dX4_guess_11 (by rw [c12]; decide) (by rw [c12]; decide) (off := 37) (tgt := 48) (by rw [c12]; decide) (by decide) ?_
      refine zx_aload_n dX4_guess_48 rfl (q := 1) rfl ?_
      obtain ⟨h13, h⟩ := ck_e h
      obtain ⟨p14, h15, h⟩ := bd_e h
      refine zx_getR hG fl_X4_18 h13 h15 dX4_guess_49 ?_
      refine zx_aload_n dX4_guess_52 rfl (q := 2) rfl ?_
      refine zx_getI hG fl_X4_69 h1 dX4_guess_53 ?_
      refine zx_bipush (v := 16) dX4_guess_56 iv_bipush_16 ?_
      obtain ⟨y16, z17, h⟩ := bd_e h
      refine zx_callS (As := [.int (mI μ a1 0), .int 16]) hG mf_J9_floorMod_7cf53 cs_X4_73 ⟨by decide, by decide⟩ rfl rfl (Nat.le_of_ble_eq_true rfl) (s_J9_floorMod_7cf53 hG _ _ _ _ z17) (Nat.le_of_ble_eq_true rfl) dX4_guess_58 ?_
      obtain ⟨h18, h⟩ := ck_e h
      obtain ⟨h19, h⟩ := ck_e h
      refine zx_iald hG rfl (h18).1 (h18).2 (inb_e h19) dX4_guess_61 ?_
      refine zx_iconst (v := 2) dX4_guess_62 iv_iconst_2 ?_
      by_cases c20 : (mI μ p14 (Int32.toNatClampNeg y16)) < 2
      · have h := it_t c20 h
        refine zx_icmp_lt_t (tgt := 73) dX4_guess_63 (by decide) c20 ?_
        refine zx_iload_n dX4_guess_73 rfl (q := 0) rfl ?_
        cases h
        exact zx_iret dX4_guess_74 rfl
      · have h := it_f c20 h
        refine zx_icmp_lt_f (tgt := 73) dX4_guess_63 (by decide) c20 ?_
        refine zx_aload_n dX4_guess_66 rfl (q := 2) rfl ?_
        refine zx_getI hG fl_X4_79 h1 dX4_guess_67 ?_
        refine zx_goto (tgt := 74) dX4_guess_70 (by decide) ?_
        cases h
        exact zx_iret dX4_guess_74 rfl
    have h := it_f c12 h
    by_cases c21 : (mI μ a1 1) = 14
    · have h := it_t c21 h
      refine zx_tsIn dX4_guess_11 (by rw [c21]; decide) (by rw [c21]; decide) (off := 64) (tgt := 75) (by rw [c21]; decide) (by decide) ?_
      refine zx_aload_n dX4_guess_75 rfl (q := 2) rfl ?_
      refine zx_getI hG fl_X4_79 h1 dX4_guess_76 ?_
      cases h
      exact zx_iret dX4_guess_79 rfl
    have h := it_f c21 h
    by_cases c22 : (mI μ a1 1) = 15
    · have h := it_t c22 h
      refine zx_tsIn dX4_guess_11 (by rw [c22]; decide) (by rw [c22]; decide) (off := 69) (tgt := 80) (by rw [c22]; decide) (by decide) ?_
      refine zx_aload_n dX4_guess_80 rfl (q := 1) rfl ?_
      refine zx_iload_n dX4_guess_81 rfl (q := 0) rfl ?_
      obtain ⟨h23, h⟩ := ck_e h
      obtain ⟨uu24, μ26, z25, h⟩ := cl_e h
      refine zx_callV (As := [.int ((mI μ a1 0) + 1)]) hG mf_X4_push cv_X4_82 h23 ⟨by decide, by decide⟩ rfl rfl (Nat.le_of_ble_eq_true rfl) (s_X4_push hG _ _ _ _ _ z25) (Nat.le_of_ble_eq_true rfl) dX4_guess_82 ?_
      refine zx_aload_n dX4_guess_85 rfl (q := 2) rfl ?_
      obtain ⟨h27, h⟩ := ck_e h
      refine zx_getI hG fl_X4_79 h27 dX4_guess_86 ?_
      cases h
      exact zx_iret dX4_guess_89 rfl
    have h := it_f c22 h
    by_cases c28 : (mI μ a1 1) = 16
    · have h := it_t c28 h
      refine zx_tsIn dX4_guess_11 (by rw [c28]; decide) (by rw [c28]; decide) (off := 79) (tgt := 90) (by rw [c28]; decide) (by decide) ?_
      refine zx_aload_n dX4_guess_90 rfl (q := 1) rfl ?_
      obtain ⟨h29, h⟩ := ck_e h
      obtain ⟨p30, h31, h⟩ := bd_e h
      refine zx_getR hG fl_X4_25 h29 h31 dX4_guess_91 ?_
      obtain ⟨h32, h⟩ := ck_e h
      refine zx_alen hG rfl (h32).1 (h32).2 dX4_guess_94 ?_
      by_cases c33 : ¬ (nI (mL μ p30)) = 0
      · have h := it_t c33 h
        refine zx_if_ne_t (tgt := 102) dX4_guess_95 (by decide) c33 ?_
        refine zx_aload_n dX4_guess_102 rfl (q := 1) rfl ?_
        obtain ⟨y34, μ36, z35, h⟩ := cl_e h
        refine zx_callV (As := []) hG mf_X4_pop cv_X4_86 h29 ⟨by decide, by decide⟩ rfl rfl (Nat.le_of_ble_eq_true rfl) (s_X4_pop hG _ _ _ _ z35) (Nat.le_of_ble_eq_true rfl) dX4_guess_103 ?_
        cases h
        exact zx_iret dX4_guess_106 rfl
      · have h := it_f c33 h
        refine zx_if_ne_f (tgt := 102) dX4_guess_95 (by decide) (Classical.not_not.mp c33) ?_
        refine zx_iload_n dX4_guess_98 rfl (q := 0) rfl ?_
        refine zx_goto (tgt := 106) dX4_guess_99 (by decide) ?_
        cases h
        exact zx_iret dX4_guess_106 rfl
    have h := it_f c28 h
    by_cases c37 : (mI μ a1 1) = 17
    · have h := it_t c37 h
      refine zx_tsIn dX4_guess_11 (by rw [c37]; decide) (by rw [c37]; decide) (off := 96) (tgt := 107) (by rw [c37]; decide) (by decide) ?_
      refine zx_aload_n dX4_guess_107 rfl (q := 1) rfl ?_
      refine zx_aload_n dX4_guess_108 rfl (q := 2) rfl ?_
      refine zx_getI hG fl_X4_69 h1 dX4_guess_109 ?_
      obtain ⟨h38, h⟩ := ck_e h
      obtain ⟨y39, z40, h⟩ := bd_e h
      refine zx_callV (As := [.int (mI μ a1 0)]) hG mf_X4_guessLeap cv_X4_89 h38 ⟨by decide, by decide⟩ rfl rfl (Nat.le_of_ble_eq_true rfl) (s_X4_guessLeap hG _ _ _ _ z40) (Nat.le_of_ble_eq_true rfl) dX4_guess_112 ?_
      cases h
      exact zx_iret dX4_guess_115 rfl
    have h := it_f c37 h
    cases h
def f_X6_endsFetching_b18 (μ : Mm) : Option Int32 :=
  some 1
def f_X6_endsFetching (a0 : Nat) (μ : Mm) : Option Int32 :=
  ck (mK μ a0 = 107) <|
  if (mI μ a0 1) = 18 then
    f_X6_endsFetching_b18 μ
  else
    if ¬ (mI μ a0 1) = 21 then
      some 0
    else
      f_X6_endsFetching_b18 μ
set_option maxRecDepth 100000 in
theorem s_X6_endsFetching_b18 {l : Launch} {G : Gt} (hG : Gok l G) (μ : Mm) (r : Int32) (h : f_X6_endsFetching_b18 μ = some r) : ZX l G mX6_endsFetching 18 [] [] μ (.inl (some (.int r))) μ := by
  unfold f_X6_endsFetching_b18 at h
  refine zx_iconst (v := 1) dX6_endsFetching_18 iv_iconst_1 ?_
  refine zx_goto (tgt := 23) dX6_endsFetching_19 (by decide) ?_
  cases h
  exact zx_zretZ dX6_endsFetching_23 rfl zb_1
set_option maxRecDepth 100000 in
theorem s_X6_endsFetching {l : Launch} {G : Gt} (hG : Gok l G) (a0 : Nat) (μ : Mm) (r : Int32) (h : f_X6_endsFetching a0 μ = some r) : ZX l G mX6_endsFetching 0 [(0, .ref a0)] [] μ (.inl (some (.int r))) μ := by
  unfold f_X6_endsFetching at h
  refine zx_aload_n dX6_endsFetching_0 rfl (q := 0) rfl ?_
  obtain ⟨h1, h⟩ := ck_e h
  refine zx_getI hG fl_X6_15 h1 dX6_endsFetching_1 ?_
  refine zx_bipush (v := 18) dX6_endsFetching_4 iv_bipush_18 ?_
  by_cases c2 : (mI μ a0 1) = 18
  · have h := it_t c2 h
    refine zx_icmp_eq_t (tgt := 18) dX6_endsFetching_6 (by decide) c2 ?_
    refine zx_sub (L' := []) [] rfl ?_
    exact s_X6_endsFetching_b18 hG _ _ h
  · have h := it_f c2 h
    refine zx_icmp_eq_f (tgt := 18) dX6_endsFetching_6 (by decide) c2 ?_
    refine zx_aload_n dX6_endsFetching_9 rfl (q := 0) rfl ?_
    refine zx_getI hG fl_X6_15 h1 dX6_endsFetching_10 ?_
    refine zx_bipush (v := 21) dX6_endsFetching_13 iv_bipush_21 ?_
    by_cases c3 : ¬ (mI μ a0 1) = 21
    · have h := it_t c3 h
      refine zx_icmp_ne_t (tgt := 22) dX6_endsFetching_15 (by decide) c3 ?_
      refine zx_iconst (v := 0) dX6_endsFetching_22 iv_iconst_0 ?_
      cases h
      exact zx_zretZ dX6_endsFetching_23 rfl zb_0
    · have h := it_f c3 h
      refine zx_icmp_ne_f (tgt := 22) dX6_endsFetching_15 (by decide) (Classical.not_not.mp c3) ?_
      refine zx_sub (L' := []) [] rfl ?_
      exact s_X6_endsFetching_b18 hG _ _ h
def f_X3_init (a0 : Nat) (a1 : Nat) (x2 : Int32) (x3 : Int32) (a4 : Nat) (μ : Mm) : Option (Unit × Mm) :=
  cl (f_X10_newLife μ) fun p1 μ3 =>
  ck (mK μ3 a0 = 104) <|
  zl (sR μ3 a0 4 (some p1)) fun μ5 =>
  zl (sI μ5 a0 5 113) fun μ8 =>
  zl (sI μ8 a0 6 ((-1))) fun μ11 =>
  zl (sI μ11 a0 7 ((-1))) fun μ14 =>
  zl (sI μ14 a0 8 ((-1))) fun μ17 =>
  zl (sI μ17 a0 9 ((-1))) fun μ20 =>
  zl (sI μ20 a0 10 ((-1))) fun μ23 =>
  zl (sI μ23 a0 11 ((-1))) fun μ26 =>
  zl (sI μ26 a0 12 0) fun μ29 =>
  zl (sI μ29 a0 13 0) fun μ32 =>
  zl (sI μ32 a0 15 0) fun μ35 =>
  zl (sI μ35 a0 16 ((-1))) fun μ38 =>
  zl (sR μ38 a0 0 (some a1)) fun μ41 =>
  zl (sI μ41 a0 1 x2) fun μ44 =>
  zl (sI μ44 a0 2 x3) fun μ47 =>
  zl (sR μ47 a0 3 (some a4)) fun μ50 =>
  ck (mK μ50 a1 = 107) <|
  bd (f_X6_goesBy a1 0 0 μ50) fun y54 =>
  zl (sI μ50 a0 14 y54) fun μ56 =>
  some ((), μ56)
set_option maxRecDepth 100000 in
theorem s_X3_init {l : Launch} {G : Gt} (hG : Gok l G) (a0 : Nat) (a1 : Nat) (x2 : Int32) (x3 : Int32) (a4 : Nat) (μ : Mm) (r : Unit) (μ' : Mm) (h : f_X3_init a0 a1 x2 x3 a4 μ = some (r, μ')) : ZX l G mX3_init 0 [(0, .ref a0), (1, .ref a1), (2, .int x2), (3, .int x3), (4, .ref a4)] [] μ (.inl none) μ' := by
  unfold f_X3_init at h
  refine zx_aload_n dX3_init_0 rfl (q := 0) rfl ?_
  refine zx_objInit hG oi_X3_3 w_oi2 w_oi3 (by decide) (by decide) (Nat.le_of_ble_eq_true rfl) dX3_init_1 ?_
  refine zx_aload_n dX3_init_4 rfl (q := 0) rfl ?_
  obtain ⟨p1, μ3, z2, h⟩ := cl_e h
  refine zx_callSN (As := []) hG mf_X10_newLife cs_X3_9 ⟨by decide, by decide⟩ rfl rfl (Nat.le_of_ble_eq_true rfl) (s_X10_newLife hG _ _ _ z2) (Nat.le_of_ble_eq_true rfl) dX3_init_5 ?_
  obtain ⟨h4, h⟩ := ck_e h
  refine zx_putRF hG fl_X3_13 fn_4_4 rfl h4 dX3_init_8 ?_
  obtain ⟨μ5, e7, h⟩ := zlm_e h
  refine zx_mem e7 ?_
  have e6 : mK μ5 = mK μ3 := (congrArg mK e7).trans rfl
  refine zx_aload_n dX3_init_11 rfl (q := 0) rfl ?_
  refine zx_bipush (v := 113) dX3_init_12 iv_bipush_113 ?_
  refine zx_putC hG fl_X3_19 fn_4_5 (kp_o (e6) h4) (by decide) dX3_init_14 ?_
  obtain ⟨μ8, e10, h⟩ := zlm_e h
  refine zx_mem e10 ?_
  have e9 : mK μ8 = mK μ5 := (congrArg mK e10).trans rfl
  refine zx_aload_n dX3_init_17 rfl (q := 0) rfl ?_
  refine zx_iconst (v := (-1)) dX3_init_18 iv_iconst_m1 ?_
  refine zx_putI hG fl_X3_23 fn_4_6 (kp_o (Eq.trans e9 e6) h4) dX3_init_19 ?_
  obtain ⟨μ11, e13, h⟩ := zlm_e h
  refine zx_mem e13 ?_
  have e12 : mK μ11 = mK μ8 := (congrArg mK e13).trans rfl
  refine zx_aload_n dX3_init_22 rfl (q := 0) rfl ?_
  refine zx_iconst (v := (-1)) dX3_init_23 iv_iconst_m1 ?_
  refine zx_putI hG fl_X3_27 fn_4_7 (kp_o (Eq.trans (Eq.trans e12 e9) e6) h4) dX3_init_24 ?_
  obtain ⟨μ14, e16, h⟩ := zlm_e h
  refine zx_mem e16 ?_
  have e15 : mK μ14 = mK μ11 := (congrArg mK e16).trans rfl
  refine zx_aload_n dX3_init_27 rfl (q := 0) rfl ?_
  refine zx_iconst (v := (-1)) dX3_init_28 iv_iconst_m1 ?_
  refine zx_putI hG fl_X3_30 fn_4_8 (kp_o (Eq.trans (Eq.trans (Eq.trans e15 e12) e9) e6) h4) dX3_init_29 ?_
  obtain ⟨μ17, e19, h⟩ := zlm_e h
  refine zx_mem e19 ?_
  have e18 : mK μ17 = mK μ14 := (congrArg mK e19).trans rfl
  refine zx_aload_n dX3_init_32 rfl (q := 0) rfl ?_
  refine zx_iconst (v := (-1)) dX3_init_33 iv_iconst_m1 ?_
  refine zx_putI hG fl_X3_33 fn_4_9 (kp_o (Eq.trans (Eq.trans (Eq.trans (Eq.trans e18 e15) e12) e9) e6) h4) dX3_init_34 ?_
  obtain ⟨μ20, e22, h⟩ := zlm_e h
  refine zx_mem e22 ?_
  have e21 : mK μ20 = mK μ17 := (congrArg mK e22).trans rfl
  refine zx_aload_n dX3_init_37 rfl (q := 0) rfl ?_
  refine zx_iconst (v := (-1)) dX3_init_38 iv_iconst_m1 ?_
  refine zx_putI hG fl_X3_36 fn_4_10 (kp_o (Eq.trans (Eq.trans (Eq.trans (Eq.trans (Eq.trans e21 e18) e15) e12) e9) e6) h4) dX3_init_39 ?_
  obtain ⟨μ23, e25, h⟩ := zlm_e h
  refine zx_mem e25 ?_
  have e24 : mK μ23 = mK μ20 := (congrArg mK e25).trans rfl
  refine zx_aload_n dX3_init_42 rfl (q := 0) rfl ?_
  refine zx_iconst (v := (-1)) dX3_init_43 iv_iconst_m1 ?_
  refine zx_putI hG fl_X3_39 fn_4_11 (kp_o (Eq.trans (Eq.trans (Eq.trans (Eq.trans (Eq.trans (Eq.trans e24 e21) e18) e15) e12) e9) e6) h4) dX3_init_44 ?_
  obtain ⟨μ26, e28, h⟩ := zlm_e h
  refine zx_mem e28 ?_
  have e27 : mK μ26 = mK μ23 := (congrArg mK e28).trans rfl
  refine zx_aload_n dX3_init_47 rfl (q := 0) rfl ?_
  refine zx_iconst (v := 0) dX3_init_48 iv_iconst_0 ?_
  refine zx_putI hG fl_X3_42 fn_4_12 (kp_o (Eq.trans (Eq.trans (Eq.trans (Eq.trans (Eq.trans (Eq.trans (Eq.trans e27 e24) e21) e18) e15) e12) e9) e6) h4) dX3_init_49 ?_
  obtain ⟨μ29, e31, h⟩ := zlm_e h
  refine zx_mem e31 ?_
  have e30 : mK μ29 = mK μ26 := (congrArg mK e31).trans rfl
  refine zx_aload_n dX3_init_52 rfl (q := 0) rfl ?_
  refine zx_iconst (v := 0) dX3_init_53 iv_iconst_0 ?_
  refine zx_putI hG fl_X3_45 fn_4_13 (kp_o (Eq.trans (Eq.trans (Eq.trans (Eq.trans (Eq.trans (Eq.trans (Eq.trans (Eq.trans e30 e27) e24) e21) e18) e15) e12) e9) e6) h4) dX3_init_54 ?_
  obtain ⟨μ32, e34, h⟩ := zlm_e h
  refine zx_mem e34 ?_
  have e33 : mK μ32 = mK μ29 := (congrArg mK e34).trans rfl
  refine zx_aload_n dX3_init_57 rfl (q := 0) rfl ?_
  refine zx_iconst (v := 0) dX3_init_58 iv_iconst_0 ?_
  refine zx_putZ hG fl_X3_48 fn_4_15 (kp_o (Eq.trans (Eq.trans (Eq.trans (Eq.trans (Eq.trans (Eq.trans (Eq.trans (Eq.trans (Eq.trans e33 e30) e27) e24) e21) e18) e15) e12) e9) e6) h4) zb_0 dX3_init_59 ?_
  obtain ⟨μ35, e37, h⟩ := zlm_e h
  refine zx_mem e37 ?_
  have e36 : mK μ35 = mK μ32 := (congrArg mK e37).trans rfl
  refine zx_aload_n dX3_init_62 rfl (q := 0) rfl ?_
  refine zx_iconst (v := (-1)) dX3_init_63 iv_iconst_m1 ?_
  refine zx_putI hG fl_X3_52 fn_4_16 (kp_o (Eq.trans (Eq.trans (Eq.trans (Eq.trans (Eq.trans (Eq.trans (Eq.trans (Eq.trans (Eq.trans (Eq.trans e36 e33) e30) e27) e24) e21) e18) e15) e12) e9) e6) h4) dX3_init_64 ?_
  obtain ⟨μ38, e40, h⟩ := zlm_e h
  refine zx_mem e40 ?_
  have e39 : mK μ38 = mK μ35 := (congrArg mK e40).trans rfl
  refine zx_aload_n dX3_init_67 rfl (q := 0) rfl ?_
  refine zx_aload_n dX3_init_68 rfl (q := 1) rfl ?_
  refine zx_putRF hG fl_X3_55 fn_4_0 rfl (kp_o (Eq.trans (Eq.trans (Eq.trans (Eq.trans (Eq.trans (Eq.trans (Eq.trans (Eq.trans (Eq.trans (Eq.trans (Eq.trans e39 e36) e33) e30) e27) e24) e21) e18) e15) e12) e9) e6) h4) dX3_init_69 ?_
  obtain ⟨μ41, e43, h⟩ := zlm_e h
  refine zx_mem e43 ?_
  have e42 : mK μ41 = mK μ38 := (congrArg mK e43).trans rfl
  refine zx_aload_n dX3_init_72 rfl (q := 0) rfl ?_
  refine zx_iload_n dX3_init_73 rfl (q := 2) rfl ?_
  refine zx_putIF hG fl_X3_59 fn_4_1 rfl (kp_o (Eq.trans (Eq.trans (Eq.trans (Eq.trans (Eq.trans (Eq.trans (Eq.trans (Eq.trans (Eq.trans (Eq.trans (Eq.trans (Eq.trans e42 e39) e36) e33) e30) e27) e24) e21) e18) e15) e12) e9) e6) h4) dX3_init_74 ?_
  obtain ⟨μ44, e46, h⟩ := zlm_e h
  refine zx_mem e46 ?_
  have e45 : mK μ44 = mK μ41 := (congrArg mK e46).trans rfl
  refine zx_aload_n dX3_init_77 rfl (q := 0) rfl ?_
  refine zx_iload_n dX3_init_78 rfl (q := 3) rfl ?_
  refine zx_putIF hG fl_X3_62 fn_4_2 rfl (kp_o (Eq.trans (Eq.trans (Eq.trans (Eq.trans (Eq.trans (Eq.trans (Eq.trans (Eq.trans (Eq.trans (Eq.trans (Eq.trans (Eq.trans (Eq.trans e45 e42) e39) e36) e33) e30) e27) e24) e21) e18) e15) e12) e9) e6) h4) dX3_init_79 ?_
  obtain ⟨μ47, e49, h⟩ := zlm_e h
  refine zx_mem e49 ?_
  have e48 : mK μ47 = mK μ44 := (congrArg mK e49).trans rfl
  refine zx_aload_n dX3_init_82 rfl (q := 0) rfl ?_
  refine zx_aload dX3_init_83 (q := 4) rfl ?_
  refine zx_putRF hG fl_X3_65 fn_4_3 rfl (kp_o (Eq.trans (Eq.trans (Eq.trans (Eq.trans (Eq.trans (Eq.trans (Eq.trans (Eq.trans (Eq.trans (Eq.trans (Eq.trans (Eq.trans (Eq.trans (Eq.trans e48 e45) e42) e39) e36) e33) e30) e27) e24) e21) e18) e15) e12) e9) e6) h4) dX3_init_85 ?_
  obtain ⟨μ50, e52, h⟩ := zlm_e h
  refine zx_mem e52 ?_
  have e51 : mK μ50 = mK μ47 := (congrArg mK e52).trans rfl
  refine zx_aload_n dX3_init_88 rfl (q := 0) rfl ?_
  refine zx_aload_n dX3_init_89 rfl (q := 1) rfl ?_
  refine zx_iconst (v := 0) dX3_init_90 iv_iconst_0 ?_
  refine zx_iconst (v := 0) dX3_init_91 iv_iconst_0 ?_
  obtain ⟨h53, h⟩ := ck_e h
  obtain ⟨y54, z55, h⟩ := bd_e h
  refine zx_callV (As := [.int 0, .int 0]) hG mf_X6_goesBy cv_X3_68 h53 ⟨by decide, by decide⟩ rfl rfl (Nat.le_of_ble_eq_true rfl) (s_X6_goesBy hG _ _ _ _ _ z55) (Nat.le_of_ble_eq_true rfl) dX3_init_92 ?_
  refine zx_putI hG fl_X3_74 fn_4_14 (kp_o (Eq.trans (Eq.trans (Eq.trans (Eq.trans (Eq.trans (Eq.trans (Eq.trans (Eq.trans (Eq.trans (Eq.trans (Eq.trans (Eq.trans (Eq.trans (Eq.trans (Eq.trans e51 e48) e45) e42) e39) e36) e33) e30) e27) e24) e21) e18) e15) e12) e9) e6) h4) dX3_init_95 ?_
  obtain ⟨μ56, e58, h⟩ := zlm_e h
  refine zx_mem e58 ?_
  have e57 : mK μ56 = mK μ50 := (congrArg mK e58).trans rfl
  cases h
  exact zx_vret dX3_init_98 rfl
def f_X4_fetch_b3 : Nat → Nat → Nat → Int32 → Int32 → Int32 → Mm → Option (Unit × Mm)
  | 0, _, _, _, _, _, _ => none
  | n + 1, a0, a1, x2, x3, x4, μ =>
  if x2 ≤ x4 then
    some ((), μ)
  else
    ck (mK μ a0 = 105) <|
    if ¬ (zb (mI μ a0 5)) = 0 then
      some ((), μ)
    else
      bd (mR μ a0 0) fun p4 =>
      ck (mK μ p4 = 100) <|
      bd (f_Jx4a65c_size_8abf5 p4 μ) fun y7 =>
      if (2 * x2) ≤ y7 then
        some ((), μ)
      else
        if (mI μ a0 4) < 0 then
          some ((), μ)
        else
          ck (mK μ a1 = 100) <|
          bd (f_Jx4a65c_size_8abf5 a1 μ) fun y12 =>
          if (mI μ a0 4) < y12 then
            bd (f_Jx4a65c_get_915e3 a1 (mI μ a0 4) μ) fun p15 =>
            ck (mK μ p15 = 107) <|
            cl (f_X4_guess a0 p15 μ) fun y18 μ20 =>
            ck (mK μ20 a0 = 105) <|
            zl (sI μ20 a0 4 y18) fun μ22 =>
            ck (mK μ22 p15 = 107) <|
            bd (f_X6_endsFetching p15 μ22) fun y26 =>
            ck (zb y26 = y26) <|
            zl (sI μ22 a0 5 y26) fun μ29 =>
            zl (mN μ29) fun p32 =>
            zl (nw μ29 104 0 17) fun μ33 =>
            ck (mK μ33 a0 = 105) <|
            bd (mR μ33 a0 3) fun p38 =>
            cl (f_X3_init p32 p15 (mI μ33 a0 6) (mI μ33 a0 4) p38 μ33) fun _ μ42 =>
            ck (mK μ42 p32 = 104) <|
            bd (mR μ42 p32 4) fun p44 =>
            ck (isA 1 (mK μ42 p44)) <|
            ck (inb 0 (mL μ42 p44)) <|
            zl (sI μ42 p44 (Int32.toNatClampNeg 0) x3) fun μ48 =>
            ck (mK μ48 a0 = 105) <|
            zl (sI μ48 a0 6 ((mI μ48 a0 6) + 1)) fun μ52 =>
            bd (mR μ52 a0 0) fun p55 =>
            ck (mK μ52 p55 = 100) <|
            cl (f_Jx4a65c_add_9ea2d p55 p32 μ52) fun y58 μ60 =>
            ck (mK μ60 a0 = 105) <|
            ck (mK μ60 p15 = 107) <|
            if (mI μ60 a0 4) = ((mI μ60 p15 0) + 1) then
              f_X4_fetch_b3 n a0 a1 x2 x3 (x4 + 1) μ60
            else
              some ((), μ60)
          else
            some ((), μ)
def f_X4_fetch (a0 : Nat) (a1 : Nat) (x2 : Int32) (x3 : Int32) (μ : Mm) : Option (Unit × Mm) :=
  f_X4_fetch_b3 5000 a0 a1 x2 x3 0 μ
set_option maxRecDepth 100000 in
theorem s_X4_fetch_b3 {l : Launch} {G : Gt} (hG : Gok l G) : ∀ (n : Nat) (a0 : Nat) (a1 : Nat) (x2 : Int32) (x3 : Int32) (x4 : Int32) (μ : Mm) (r : Unit) (μ' : Mm), f_X4_fetch_b3 n a0 a1 x2 x3 x4 μ = some (r, μ') → ZX l G mX4_fetch 3 [(0, .ref a0), (1, .ref a1), (2, .int x2), (3, .int x3), (4, .int x4)] [] μ (.inl none) μ' := by
  intro n
  induction n with
  | zero =>
    intro a0 a1 x2 x3 x4 μ r μ' h
    cases h
  | succ n ih =>
    intro a0 a1 x2 x3 x4 μ r μ' h
    unfold f_X4_fetch_b3 at h
    refine zx_iload dX4_fetch_3 (q := 4) rfl ?_
    refine zx_iload_n dX4_fetch_5 rfl (q := 2) rfl ?_
    by_cases c1 : x2 ≤ x4
    · have h := it_t c1 h
      refine zx_icmp_ge_t (tgt := 152) dX4_fetch_6 (by decide) c1 ?_
      cases h
      exact zx_vret dX4_fetch_152 rfl
    · have h := it_f c1 h
      refine zx_icmp_ge_f (tgt := 152) dX4_fetch_6 (by decide) c1 ?_
      refine zx_aload_n dX4_fetch_9 rfl (q := 0) rfl ?_
      obtain ⟨h2, h⟩ := ck_e h
      refine zx_getZ hG fl_X4_32 h2 dX4_fetch_10 ?_
      by_cases c3 : ¬ (zb (mI μ a0 5)) = 0
      · have h := it_t c3 h
        refine zx_if_ne_t (tgt := 47) dX4_fetch_13 (by decide) c3 ?_
        cases h
        exact zx_vret dX4_fetch_47 rfl
      · have h := it_f c3 h
        refine zx_if_ne_f (tgt := 47) dX4_fetch_13 (by decide) (Classical.not_not.mp c3) ?_
        refine zx_aload_n dX4_fetch_16 rfl (q := 0) rfl ?_
        obtain ⟨p4, h5, h⟩ := bd_e h
        refine zx_getR hG fl_X4_12 h2 h5 dX4_fetch_17 ?_
        obtain ⟨h6, h⟩ := ck_e h
        obtain ⟨y7, z8, h⟩ := bd_e h
        refine zx_callV (As := []) hG mf_Jx4a65c_size_8abf5 cv_X4_39 h6 ⟨by decide, by decide⟩ rfl rfl (Nat.le_of_ble_eq_true rfl) (s_Jx4a65c_size_8abf5 hG _ _ _ z8) (Nat.le_of_ble_eq_true rfl) dX4_fetch_20 ?_
        refine zx_iconst (v := 2) dX4_fetch_23 iv_iconst_2 ?_
        refine zx_iload_n dX4_fetch_24 rfl (q := 2) rfl ?_
        refine zx_imul dX4_fetch_25 ?_
        by_cases c9 : (2 * x2) ≤ y7
        · have h := it_t c9 h
          refine zx_icmp_ge_t (tgt := 47) dX4_fetch_26 (by decide) c9 ?_
          cases h
          exact zx_vret dX4_fetch_47 rfl
        · have h := it_f c9 h
          refine zx_icmp_ge_f (tgt := 47) dX4_fetch_26 (by decide) c9 ?_
          refine zx_aload_n dX4_fetch_29 rfl (q := 0) rfl ?_
          refine zx_getI hG fl_X4_28 h2 dX4_fetch_30 ?_
          by_cases c10 : (mI μ a0 4) < 0
          · have h := it_t c10 h
            refine zx_if_lt_t (tgt := 47) dX4_fetch_33 (by decide) c10 ?_
            cases h
            exact zx_vret dX4_fetch_47 rfl
          · have h := it_f c10 h
            refine zx_if_lt_f (tgt := 47) dX4_fetch_33 (by decide) c10 ?_
            refine zx_aload_n dX4_fetch_36 rfl (q := 0) rfl ?_
            refine zx_getI hG fl_X4_28 h2 dX4_fetch_37 ?_
            refine zx_aload_n dX4_fetch_40 rfl (q := 1) rfl ?_
            obtain ⟨h11, h⟩ := ck_e h
            obtain ⟨y12, z13, h⟩ := bd_e h
            refine zx_callV (As := []) hG mf_Jx4a65c_size_8abf5 cv_X4_39 h11 ⟨by decide, by decide⟩ rfl rfl (Nat.le_of_ble_eq_true rfl) (s_Jx4a65c_size_8abf5 hG _ _ _ z13) (Nat.le_of_ble_eq_true rfl) dX4_fetch_41 ?_
            by_cases c14 : (mI μ a0 4) < y12
            · have h := it_t c14 h
              refine zx_icmp_lt_t (tgt := 48) dX4_fetch_44 (by decide) c14 ?_
              refine zx_aload_n dX4_fetch_48 rfl (q := 1) rfl ?_
              refine zx_aload_n dX4_fetch_49 rfl (q := 0) rfl ?_
              refine zx_getI hG fl_X4_28 h2 dX4_fetch_50 ?_
              obtain ⟨p15, z16, h⟩ := bd_e h
              refine zx_callV (As := [.int (mI μ a0 4)]) hG mf_Jx4a65c_get_915e3 cv_X4_43 h11 ⟨by decide, by decide⟩ rfl rfl (Nat.le_of_ble_eq_true rfl) (s_Jx4a65c_get_915e3 hG _ _ _ _ z16) (Nat.le_of_ble_eq_true rfl) dX4_fetch_53 ?_
              obtain ⟨h17, h⟩ := ck_e h
              refine zx_castO hG kt_X4_47 h17 dX4_fetch_56 ?_
              refine zx_astore (L' := [(5, .ref p15), (0, .ref a0), (1, .ref a1), (2, .int x2), (3, .int x3), (4, .int x4)]) dX4_fetch_59 (by decide) rfl ?_
              refine zx_aload_n dX4_fetch_61 rfl (q := 1) rfl ?_
              refine zx_aload_n dX4_fetch_62 rfl (q := 1) rfl ?_
              refine zx_aload dX4_fetch_63 (q := 0) rfl ?_
              obtain ⟨y18, μ20, z19, h⟩ := cl_e h
              refine zx_callV (As := [.ref p15]) hG mf_X4_guess cv_X4_49 h2 ⟨by decide, by decide⟩ rfl rfl (Nat.le_of_ble_eq_true rfl) (s_X4_guess hG _ _ _ _ _ z19) (Nat.le_of_ble_eq_true rfl) dX4_fetch_65 ?_
              obtain ⟨h21, h⟩ := ck_e h
              refine zx_putI hG fl_X4_28 fn_5_4 h21 dX4_fetch_68 ?_
              obtain ⟨μ22, e24, h⟩ := zlm_e h
              refine zx_mem e24 ?_
              have e23 : mK μ22 = mK μ20 := (congrArg mK e24).trans rfl
              refine zx_aload_n dX4_fetch_71 rfl (q := 1) rfl ?_
              refine zx_aload dX4_fetch_72 (q := 0) rfl ?_
              obtain ⟨h25, h⟩ := ck_e h
              obtain ⟨y26, z27, h⟩ := bd_e h
              refine zx_callV (As := []) hG mf_X6_endsFetching cv_X4_53 h25 ⟨by decide, by decide⟩ rfl rfl (Nat.le_of_ble_eq_true rfl) (s_X6_endsFetching hG _ _ _ z27) (Nat.le_of_ble_eq_true rfl) dX4_fetch_74 ?_
              obtain ⟨h28, h⟩ := ck_e h
              refine zx_putZ hG fl_X4_32 fn_5_5 (kp_o (e23) h21) h28 dX4_fetch_77 ?_
              obtain ⟨μ29, e31, h⟩ := zlm_e h
              refine zx_mem e31 ?_
              have e30 : mK μ29 = mK μ22 := (congrArg mK e31).trans rfl
              refine zx_new hG nw_X4_57 dX4_fetch_80 ?_
              obtain ⟨p32, e35, h⟩ := zlm_e h
              obtain ⟨μ33, e36, h⟩ := zlm_e h
              refine zx_mem e36 (zx_stk e35 ?_)
              have h34 : mK μ33 p32 = 104 := nw_Kp e36 e35
              refine zx_dup dX4_fetch_83 rfl ?_
              refine zx_aload dX4_fetch_84 (q := 0) rfl ?_
              refine zx_aload_n dX4_fetch_86 rfl (q := 1) rfl ?_
              obtain ⟨h37, h⟩ := ck_e h
              refine zx_getI hG fl_X4_36 h37 dX4_fetch_87 ?_
              refine zx_aload_n dX4_fetch_90 rfl (q := 1) rfl ?_
              refine zx_getI hG fl_X4_28 h37 dX4_fetch_91 ?_
              refine zx_aload_n dX4_fetch_94 rfl (q := 1) rfl ?_
              obtain ⟨p38, h39, h⟩ := bd_e h
              refine zx_getR hG fl_X4_25 h37 h39 dX4_fetch_95 ?_
              obtain ⟨uu40, μ42, z41, h⟩ := cl_e h
              refine zx_callI (As := [.ref p15, .int (mI μ33 a0 6), .int (mI μ33 a0 4), .ref p38]) hG mf_X3_init ci_X4_59 ⟨by decide, by decide⟩ rfl rfl (Nat.le_of_ble_eq_true rfl) (s_X3_init hG _ _ _ _ _ _ _ _ z41) (Nat.le_of_ble_eq_true rfl) dX4_fetch_98 ?_
              refine zx_astore (L' := [(6, .ref p32), (5, .ref p15), (0, .ref a0), (1, .ref a1), (2, .int x2), (3, .int x3), (4, .int x4)]) dX4_fetch_101 (by decide) rfl ?_
              refine zx_aload dX4_fetch_103 (q := 0) rfl ?_
              obtain ⟨h43, h⟩ := ck_e h
              obtain ⟨p44, h45, h⟩ := bd_e h
              refine zx_getR hG fl_X4_62 h43 h45 dX4_fetch_105 ?_
              refine zx_iconst (v := 0) dX4_fetch_108 iv_iconst_0 ?_
              refine zx_iload_n dX4_fetch_109 rfl (q := 5) rfl ?_
              obtain ⟨h46, h⟩ := ck_e h
              obtain ⟨h47, h⟩ := ck_e h
              refine zx_iast hG rfl (h46).1 (h46).2 (inb_e h47) dX4_fetch_110 ?_
              obtain ⟨μ48, e50, h⟩ := zlm_e h
              refine zx_mem e50 ?_
              have e49 : mK μ48 = mK μ42 := (congrArg mK e50).trans rfl
              refine zx_aload_n dX4_fetch_111 rfl (q := 2) rfl ?_
              refine zx_dup dX4_fetch_112 rfl ?_
              obtain ⟨h51, h⟩ := ck_e h
              refine zx_getI hG fl_X4_36 h51 dX4_fetch_113 ?_
              refine zx_iconst (v := 1) dX4_fetch_116 iv_iconst_1 ?_
              refine zx_iadd dX4_fetch_117 ?_
              refine zx_putI hG fl_X4_36 fn_5_6 h51 dX4_fetch_118 ?_
              obtain ⟨μ52, e54, h⟩ := zlm_e h
              refine zx_mem e54 ?_
              have e53 : mK μ52 = mK μ48 := (congrArg mK e54).trans rfl
              refine zx_aload_n dX4_fetch_121 rfl (q := 2) rfl ?_
              obtain ⟨p55, h56, h⟩ := bd_e h
              refine zx_getR hG fl_X4_12 (kp_o (e53) h51) h56 dX4_fetch_122 ?_
              refine zx_aload dX4_fetch_125 (q := 0) rfl ?_
              obtain ⟨h57, h⟩ := ck_e h
              obtain ⟨y58, μ60, z59, h⟩ := cl_e h
              refine zx_callV (As := [.ref p32]) hG mf_Jx4a65c_add_9ea2d cv_X4_65 h57 ⟨by decide, by decide⟩ rfl rfl (Nat.le_of_ble_eq_true rfl) (s_Jx4a65c_add_9ea2d hG _ _ _ _ _ z59) (Nat.le_of_ble_eq_true rfl) dX4_fetch_127 ?_
              refine zx_pop dX4_fetch_130 rfl ?_
              refine zx_aload_n dX4_fetch_131 rfl (q := 2) rfl ?_
              obtain ⟨h61, h⟩ := ck_e h
              refine zx_getI hG fl_X4_28 h61 dX4_fetch_132 ?_
              refine zx_aload dX4_fetch_135 (q := 1) rfl ?_
              obtain ⟨h62, h⟩ := ck_e h
              refine zx_getI hG fl_X4_69 h62 dX4_fetch_137 ?_
              refine zx_iconst (v := 1) dX4_fetch_140 iv_iconst_1 ?_
              refine zx_iadd dX4_fetch_141 ?_
              by_cases c63 : (mI μ60 a0 4) = ((mI μ60 p15 0) + 1)
              · have h := it_t c63 h
                refine zx_icmp_eq_t (tgt := 146) dX4_fetch_142 (by decide) c63 ?_
                refine zx_iinc (q := 6) (v := x4 + 1) (L' := [(4, .int (x4 + 1)), (6, .ref p32), (5, .ref p15), (0, .ref a0), (1, .ref a1), (2, .int x2), (3, .int x3)]) dX4_fetch_146 rfl rfl (by decide) rfl ?_
                refine zx_goto (tgt := 3) dX4_fetch_149 (by decide) ?_
                refine zx_sub (L' := [(0, .ref a0), (1, .ref a1), (2, .int x2), (3, .int x3), (4, .int (x4 + 1))]) [3, 4, 5, 6, 0] rfl ?_
                exact ih _ _ _ _ _ _ _ _ h
              · have h := it_f c63 h
                refine zx_icmp_eq_f (tgt := 146) dX4_fetch_142 (by decide) c63 ?_
                cases h
                exact zx_vret dX4_fetch_145 rfl
            · have h := it_f c14 h
              refine zx_icmp_lt_f (tgt := 48) dX4_fetch_44 (by decide) c14 ?_
              cases h
              exact zx_vret dX4_fetch_47 rfl
set_option maxRecDepth 100000 in
theorem s_X4_fetch {l : Launch} {G : Gt} (hG : Gok l G) (a0 : Nat) (a1 : Nat) (x2 : Int32) (x3 : Int32) (μ : Mm) (r : Unit) (μ' : Mm) (h : f_X4_fetch a0 a1 x2 x3 μ = some (r, μ')) : ZX l G mX4_fetch 0 [(0, .ref a0), (1, .ref a1), (2, .int x2), (3, .int x3)] [] μ (.inl none) μ' := by
  unfold f_X4_fetch at h
  refine zx_iconst (v := 0) dX4_fetch_0 iv_iconst_0 ?_
  refine zx_istore (L' := [(4, .int 0), (0, .ref a0), (1, .ref a1), (2, .int x2), (3, .int x3)]) dX4_fetch_1 (by decide) rfl ?_
  refine zx_sub (L' := [(0, .ref a0), (1, .ref a1), (2, .int x2), (3, .int x3), (4, .int 0)]) [1, 2, 3, 4, 0] rfl ?_
  exact s_X4_fetch_b3 hG 5000 _ _ _ _ _ _ _ _ h
def f_X0_doCycle (a0 : Nat) (μ : Mm) : Option (Unit × Mm) :=
  ck (mK μ a0 = 101) <|
  zl (sI μ a0 12 ((mI μ a0 12) + 1)) fun μ2 =>
  cl (f_X0_doAnswers a0 μ2) fun _ μ7 =>
  ck (mK μ7 a0 = 101) <|
  cl (f_X0_doEndings a0 μ7) fun _ μ11 =>
  ck (mK μ11 a0 = 101) <|
  cl (f_X0_doRetiring a0 μ11) fun _ μ15 =>
  ck (mK μ15 a0 = 101) <|
  cl (f_X0_doBeginnings a0 μ15) fun _ μ19 =>
  ck (mK μ19 a0 = 101) <|
  cl (f_X0_doRenaming a0 μ19) fun _ μ23 =>
  ck (mK μ23 a0 = 101) <|
  bd (mR μ23 a0 6) fun p25 =>
  bd (mR μ23 a0 0) fun p27 =>
  bd (mR μ23 a0 1) fun p29 =>
  ck (mK μ23 p29 = 110) <|
  ck (mK μ23 p25 = 105) <|
  cl (f_X4_fetch p25 p27 (mI μ23 p29 0) (mI μ23 a0 12) μ23) fun _ μ35 =>
  some ((), μ35)
set_option maxRecDepth 100000 in
theorem s_X0_doCycle {l : Launch} {G : Gt} (hG : Gok l G) (a0 : Nat) (μ : Mm) (r : Unit) (μ' : Mm) (h : f_X0_doCycle a0 μ = some (r, μ')) : ZX l G mX0_doCycle 0 [(0, .ref a0)] [] μ (.inl none) μ' := by
  unfold f_X0_doCycle at h
  refine zx_aload_n dX0_doCycle_0 rfl (q := 0) rfl ?_
  refine zx_dup dX0_doCycle_1 rfl ?_
  obtain ⟨h1, h⟩ := ck_e h
  refine zx_getI hG fl_X0_77 h1 dX0_doCycle_2 ?_
  refine zx_iconst (v := 1) dX0_doCycle_5 iv_iconst_1 ?_
  refine zx_iadd dX0_doCycle_6 ?_
  refine zx_putI hG fl_X0_77 fn_1_12 h1 dX0_doCycle_7 ?_
  obtain ⟨μ2, e4, h⟩ := zlm_e h
  refine zx_mem e4 ?_
  have e3 : mK μ2 = mK μ := (congrArg mK e4).trans rfl
  refine zx_aload_n dX0_doCycle_10 rfl (q := 0) rfl ?_
  obtain ⟨uu5, μ7, z6, h⟩ := cl_e h
  refine zx_callV (As := []) hG mf_X0_doAnswers cv_X0_97 (kp_o (e3) h1) ⟨by decide, by decide⟩ rfl rfl (Nat.le_of_ble_eq_true rfl) (s_X0_doAnswers hG _ _ _ _ z6) (Nat.le_of_ble_eq_true rfl) dX0_doCycle_11 ?_
  refine zx_aload_n dX0_doCycle_14 rfl (q := 0) rfl ?_
  obtain ⟨h8, h⟩ := ck_e h
  obtain ⟨uu9, μ11, z10, h⟩ := cl_e h
  refine zx_callV (As := []) hG mf_X0_doEndings cv_X0_100 h8 ⟨by decide, by decide⟩ rfl rfl (Nat.le_of_ble_eq_true rfl) (s_X0_doEndings hG _ _ _ _ z10) (Nat.le_of_ble_eq_true rfl) dX0_doCycle_15 ?_
  refine zx_aload_n dX0_doCycle_18 rfl (q := 0) rfl ?_
  obtain ⟨h12, h⟩ := ck_e h
  obtain ⟨uu13, μ15, z14, h⟩ := cl_e h
  refine zx_callV (As := []) hG mf_X0_doRetiring cv_X0_103 h12 ⟨by decide, by decide⟩ rfl rfl (Nat.le_of_ble_eq_true rfl) (s_X0_doRetiring hG _ _ _ _ z14) (Nat.le_of_ble_eq_true rfl) dX0_doCycle_19 ?_
  refine zx_aload_n dX0_doCycle_22 rfl (q := 0) rfl ?_
  obtain ⟨h16, h⟩ := ck_e h
  obtain ⟨uu17, μ19, z18, h⟩ := cl_e h
  refine zx_callV (As := []) hG mf_X0_doBeginnings cv_X0_106 h16 ⟨by decide, by decide⟩ rfl rfl (Nat.le_of_ble_eq_true rfl) (s_X0_doBeginnings hG _ _ _ _ z18) (Nat.le_of_ble_eq_true rfl) dX0_doCycle_23 ?_
  refine zx_aload_n dX0_doCycle_26 rfl (q := 0) rfl ?_
  obtain ⟨h20, h⟩ := ck_e h
  obtain ⟨uu21, μ23, z22, h⟩ := cl_e h
  refine zx_callV (As := []) hG mf_X0_doRenaming cv_X0_109 h20 ⟨by decide, by decide⟩ rfl rfl (Nat.le_of_ble_eq_true rfl) (s_X0_doRenaming hG _ _ _ _ z22) (Nat.le_of_ble_eq_true rfl) dX0_doCycle_27 ?_
  refine zx_aload_n dX0_doCycle_30 rfl (q := 0) rfl ?_
  obtain ⟨h24, h⟩ := ck_e h
  obtain ⟨p25, h26, h⟩ := bd_e h
  refine zx_getR hG fl_X0_56 h24 h26 dX0_doCycle_31 ?_
  refine zx_aload_n dX0_doCycle_34 rfl (q := 0) rfl ?_
  obtain ⟨p27, h28, h⟩ := bd_e h
  refine zx_getR hG fl_X0_12 h24 h28 dX0_doCycle_35 ?_
  refine zx_aload_n dX0_doCycle_38 rfl (q := 0) rfl ?_
  obtain ⟨p29, h30, h⟩ := bd_e h
  refine zx_getR hG fl_X0_21 h24 h30 dX0_doCycle_39 ?_
  obtain ⟨h31, h⟩ := ck_e h
  refine zx_getI hG fl_X0_112 h31 dX0_doCycle_42 ?_
  refine zx_aload_n dX0_doCycle_45 rfl (q := 0) rfl ?_
  refine zx_getI hG fl_X0_77 h24 dX0_doCycle_46 ?_
  obtain ⟨h32, h⟩ := ck_e h
  obtain ⟨uu33, μ35, z34, h⟩ := cl_e h
  refine zx_callV (As := [.ref p27, .int (mI μ23 p29 0), .int (mI μ23 a0 12)]) hG mf_X4_fetch cv_X0_115 h32 ⟨by decide, by decide⟩ rfl rfl (Nat.le_of_ble_eq_true rfl) (s_X4_fetch hG _ _ _ _ _ _ _ z34) (Nat.le_of_ble_eq_true rfl) dX0_doCycle_49 ?_
  cases h
  exact zx_vret dX0_doCycle_52 rfl
def f_X10_run_b26 (μ : Mm) : Option ((Int32 ⊕ String) × Mm) :=
  some (.inr "java/lang/IllegalArgumentException", bump μ 6)
def f_X10_run_b93 (a0 : Nat) (x2 : Int32) (μ : Mm) : Option ((Int32 ⊕ String) × Mm) :=
  ck (mK μ a0 = 111) <|
  bd (mR μ a0 0) fun p33 =>
  ck (mK μ p33 = 101) <|
  bd (mR μ p33 8) fun p36 =>
  ck (mK μ p36 = 100) <|
  bd (f_Jx4a65c_size_8abf5 p36 μ) fun y39 =>
  some (.inl (y39 - x2), μ)
def f_X10_run_b65 : Nat → Nat → Int32 → Int32 → Int32 → Mm → Option ((Int32 ⊕ String) × Mm)
  | 0, _, _, _, _, _ => none
  | n + 1, a0, x1, x2, x3, μ =>
  if x1 ≤ x3 then
    f_X10_run_b93 a0 x2 μ
  else
    ck (mK μ a0 = 111) <|
    bd (mR μ a0 0) fun p22 =>
    ck (mK μ p22 = 101) <|
    if ¬ (zb (mI μ p22 13)) = 0 then
      f_X10_run_b93 a0 x2 μ
    else
      bd (mR μ a0 0) fun p26 =>
      ck (mK μ p26 = 101) <|
      cl (f_X0_doCycle p26 μ) fun _ μ31 =>
      f_X10_run_b65 n a0 x1 x2 (x3 + 1) μ31
def f_X10_run (a0 : Nat) (x1 : Int32) (μ : Mm) : Option ((Int32 ⊕ String) × Mm) :=
  if x1 < 1 then
    f_X10_run_b26 μ
  else
    if 60 < x1 then
      f_X10_run_b26 μ
    else
      ck (mK μ a0 = 111) <|
      bd (mR μ a0 0) fun p4 =>
      ck (mK μ p4 = 101) <|
      if ((mI μ p4 12) + x1) ≤ 500 then
        bd (mR μ a0 0) fun p8 =>
        ck (mK μ p8 = 101) <|
        if (zb (mI μ p8 13)) = 0 then
          bd (mR μ a0 0) fun p12 =>
          ck (mK μ p12 = 101) <|
          bd (mR μ p12 8) fun p15 =>
          ck (mK μ p15 = 100) <|
          bd (f_Jx4a65c_size_8abf5 p15 μ) fun y18 =>
          f_X10_run_b65 5000 a0 x1 y18 0 μ
        else
          some (.inr "java/lang/IllegalStateException", bump μ 6)
      else
        f_X10_run_b26 μ
set_option maxRecDepth 100000 in
theorem s_X10_run_b26 {l : Launch} {G : Gt} (hG : Gok l G) (μ : Mm) (r : (Int32 ⊕ String)) (μ' : Mm) (h : f_X10_run_b26 μ = some (r, μ')) : ZX l G mX10_run 26 [] [] μ (rsI r) μ' := by
  unfold f_X10_run_b26 at h
  cases h
  exact zx_throw hG xt_X10_23_25 (by decide) (by decide) (Nat.le_of_ble_eq_true rfl) dX10_run_26 dX10_run_29 dX10_run_30 dX10_run_33
set_option maxRecDepth 100000 in
theorem s_X10_run_b93 {l : Launch} {G : Gt} (hG : Gok l G) (a0 : Nat) (x2 : Int32) (μ : Mm) (r : (Int32 ⊕ String)) (μ' : Mm) (h : f_X10_run_b93 a0 x2 μ = some (r, μ')) : ZX l G mX10_run 93 [(0, .ref a0), (2, .int x2)] [] μ (rsI r) μ' := by
  unfold f_X10_run_b93 at h
  refine zx_aload_n dX10_run_93 rfl (q := 0) rfl ?_
  obtain ⟨h32, h⟩ := ck_e h
  obtain ⟨p33, h34, h⟩ := bd_e h
  refine zx_getR hG fl_X10_10 h32 h34 dX10_run_94 ?_
  obtain ⟨h35, h⟩ := ck_e h
  obtain ⟨p36, h37, h⟩ := bd_e h
  refine zx_getR hG fl_X10_125 h35 h37 dX10_run_97 ?_
  obtain ⟨h38, h⟩ := ck_e h
  obtain ⟨y39, z40, h⟩ := bd_e h
  refine zx_callV (As := []) hG mf_Jx4a65c_size_8abf5 cv_X10_30 h38 ⟨by decide, by decide⟩ rfl rfl (Nat.le_of_ble_eq_true rfl) (s_Jx4a65c_size_8abf5 hG _ _ _ z40) (Nat.le_of_ble_eq_true rfl) dX10_run_100 ?_
  refine zx_iload_n dX10_run_103 rfl (q := 1) rfl ?_
  refine zx_isub dX10_run_104 ?_
  cases h
  exact zx_iret dX10_run_105 rfl
set_option maxRecDepth 100000 in
theorem s_X10_run_b65 {l : Launch} {G : Gt} (hG : Gok l G) : ∀ (n : Nat) (a0 : Nat) (x1 : Int32) (x2 : Int32) (x3 : Int32) (μ : Mm) (r : (Int32 ⊕ String)) (μ' : Mm), f_X10_run_b65 n a0 x1 x2 x3 μ = some (r, μ') → ZX l G mX10_run 65 [(0, .ref a0), (1, .int x1), (2, .int x2), (3, .int x3)] [] μ (rsI r) μ' := by
  intro n
  induction n with
  | zero =>
    intro a0 x1 x2 x3 μ r μ' h
    cases h
  | succ n ih =>
    intro a0 x1 x2 x3 μ r μ' h
    unfold f_X10_run_b65 at h
    refine zx_iload_n dX10_run_65 rfl (q := 3) rfl ?_
    refine zx_iload_n dX10_run_66 rfl (q := 1) rfl ?_
    by_cases c20 : x1 ≤ x3
    · have h := it_t c20 h
      refine zx_icmp_ge_t (tgt := 93) dX10_run_67 (by decide) c20 ?_
      refine zx_sub (L' := [(0, .ref a0), (2, .int x2)]) [0, 2] rfl ?_
      exact s_X10_run_b93 hG _ _ _ _ _ h
    · have h := it_f c20 h
      refine zx_icmp_ge_f (tgt := 93) dX10_run_67 (by decide) c20 ?_
      refine zx_aload_n dX10_run_70 rfl (q := 0) rfl ?_
      obtain ⟨h21, h⟩ := ck_e h
      obtain ⟨p22, h23, h⟩ := bd_e h
      refine zx_getR hG fl_X10_10 h21 h23 dX10_run_71 ?_
      obtain ⟨h24, h⟩ := ck_e h
      refine zx_getZ hG fl_X10_122 h24 dX10_run_74 ?_
      by_cases c25 : ¬ (zb (mI μ p22 13)) = 0
      · have h := it_t c25 h
        refine zx_if_ne_t (tgt := 93) dX10_run_77 (by decide) c25 ?_
        refine zx_sub (L' := [(0, .ref a0), (2, .int x2)]) [0, 2] rfl ?_
        exact s_X10_run_b93 hG _ _ _ _ _ h
      · have h := it_f c25 h
        refine zx_if_ne_f (tgt := 93) dX10_run_77 (by decide) (Classical.not_not.mp c25) ?_
        refine zx_aload_n dX10_run_80 rfl (q := 0) rfl ?_
        obtain ⟨p26, h27, h⟩ := bd_e h
        refine zx_getR hG fl_X10_10 h21 h27 dX10_run_81 ?_
        obtain ⟨h28, h⟩ := ck_e h
        obtain ⟨uu29, μ31, z30, h⟩ := cl_e h
        refine zx_callV (As := []) hG mf_X0_doCycle cv_X10_128 h28 ⟨by decide, by decide⟩ rfl rfl (Nat.le_of_ble_eq_true rfl) (s_X0_doCycle hG _ _ _ _ z30) (Nat.le_of_ble_eq_true rfl) dX10_run_84 ?_
        refine zx_iinc (q := 3) (v := x3 + 1) (L' := [(3, .int (x3 + 1)), (0, .ref a0), (1, .int x1), (2, .int x2)]) dX10_run_87 rfl rfl (by decide) rfl ?_
        refine zx_goto (tgt := 65) dX10_run_90 (by decide) ?_
        refine zx_sub (L' := [(0, .ref a0), (1, .int x1), (2, .int x2), (3, .int (x3 + 1))]) [1, 2, 3, 0] rfl ?_
        exact ih _ _ _ _ _ _ _ h
set_option maxRecDepth 100000 in
theorem s_X10_run {l : Launch} {G : Gt} (hG : Gok l G) (a0 : Nat) (x1 : Int32) (μ : Mm) (r : (Int32 ⊕ String)) (μ' : Mm) (h : f_X10_run a0 x1 μ = some (r, μ')) : ZX l G mX10_run 0 [(0, .ref a0), (1, .int x1)] [] μ (rsI r) μ' := by
  unfold f_X10_run at h
  refine zx_iload_n dX10_run_0 rfl (q := 1) rfl ?_
  refine zx_iconst (v := 1) dX10_run_1 iv_iconst_1 ?_
  by_cases c1 : x1 < 1
  · have h := it_t c1 h
    refine zx_icmp_lt_t (tgt := 26) dX10_run_2 (by decide) c1 ?_
    refine zx_sub (L' := []) [] rfl ?_
    exact s_X10_run_b26 hG _ _ _ h
  · have h := it_f c1 h
    refine zx_icmp_lt_f (tgt := 26) dX10_run_2 (by decide) c1 ?_
    refine zx_iload_n dX10_run_5 rfl (q := 1) rfl ?_
    refine zx_bipush (v := 60) dX10_run_6 iv_bipush_60 ?_
    by_cases c2 : 60 < x1
    · have h := it_t c2 h
      refine zx_icmp_gt_t (tgt := 26) dX10_run_8 (by decide) c2 ?_
      refine zx_sub (L' := []) [] rfl ?_
      exact s_X10_run_b26 hG _ _ _ h
    · have h := it_f c2 h
      refine zx_icmp_gt_f (tgt := 26) dX10_run_8 (by decide) c2 ?_
      refine zx_aload_n dX10_run_11 rfl (q := 0) rfl ?_
      obtain ⟨h3, h⟩ := ck_e h
      obtain ⟨p4, h5, h⟩ := bd_e h
      refine zx_getR hG fl_X10_10 h3 h5 dX10_run_12 ?_
      obtain ⟨h6, h⟩ := ck_e h
      refine zx_getI hG fl_X10_36 h6 dX10_run_15 ?_
      refine zx_iload_n dX10_run_18 rfl (q := 1) rfl ?_
      refine zx_iadd dX10_run_19 ?_
      refine zx_sipush (v := 500) dX10_run_20 iv_sipush_500 ?_
      by_cases c7 : ((mI μ p4 12) + x1) ≤ 500
      · have h := it_t c7 h
        refine zx_icmp_le_t (tgt := 34) dX10_run_23 (by decide) c7 ?_
        refine zx_aload_n dX10_run_34 rfl (q := 0) rfl ?_
        obtain ⟨p8, h9, h⟩ := bd_e h
        refine zx_getR hG fl_X10_10 h3 h9 dX10_run_35 ?_
        obtain ⟨h10, h⟩ := ck_e h
        refine zx_getZ hG fl_X10_122 h10 dX10_run_38 ?_
        by_cases c11 : (zb (mI μ p8 13)) = 0
        · have h := it_t c11 h
          refine zx_if_eq_t (tgt := 52) dX10_run_41 (by decide) c11 ?_
          refine zx_aload_n dX10_run_52 rfl (q := 0) rfl ?_
          obtain ⟨p12, h13, h⟩ := bd_e h
          refine zx_getR hG fl_X10_10 h3 h13 dX10_run_53 ?_
          obtain ⟨h14, h⟩ := ck_e h
          obtain ⟨p15, h16, h⟩ := bd_e h
          refine zx_getR hG fl_X10_125 h14 h16 dX10_run_56 ?_
          obtain ⟨h17, h⟩ := ck_e h
          obtain ⟨y18, z19, h⟩ := bd_e h
          refine zx_callV (As := []) hG mf_Jx4a65c_size_8abf5 cv_X10_30 h17 ⟨by decide, by decide⟩ rfl rfl (Nat.le_of_ble_eq_true rfl) (s_Jx4a65c_size_8abf5 hG _ _ _ z19) (Nat.le_of_ble_eq_true rfl) dX10_run_59 ?_
          refine zx_istore_n (L' := [(2, .int y18), (0, .ref a0), (1, .int x1)]) dX10_run_62 rfl (by decide) rfl ?_
          refine zx_iconst (v := 0) dX10_run_63 iv_iconst_0 ?_
          refine zx_istore_n (L' := [(3, .int 0), (2, .int y18), (0, .ref a0), (1, .int x1)]) dX10_run_64 rfl (by decide) rfl ?_
          refine zx_sub (L' := [(0, .ref a0), (1, .int x1), (2, .int y18), (3, .int 0)]) [2, 3, 1, 0] rfl ?_
          exact s_X10_run_b65 hG 5000 _ _ _ _ _ _ _ h
        · have h := it_f c11 h
          refine zx_if_eq_f (tgt := 52) dX10_run_41 (by decide) c11 ?_
          cases h
          exact zx_throw hG xt_X10_40_42 (by decide) (by decide) (Nat.le_of_ble_eq_true rfl) dX10_run_44 dX10_run_47 dX10_run_48 dX10_run_51
      · have h := it_f c7 h
        refine zx_icmp_le_f (tgt := 34) dX10_run_23 (by decide) c7 ?_
        refine zx_sub (L' := []) [] rfl ?_
        exact s_X10_run_b26 hG _ _ _ h
def f_X10_cycle (a0 : Nat) (μ : Mm) : Option Int32 :=
  ck (mK μ a0 = 111) <|
  bd (mR μ a0 0) fun p2 =>
  ck (mK μ p2 = 101) <|
  some (mI μ p2 12)
set_option maxRecDepth 100000 in
theorem s_X10_cycle {l : Launch} {G : Gt} (hG : Gok l G) (a0 : Nat) (μ : Mm) (r : Int32) (h : f_X10_cycle a0 μ = some r) : ZX l G mX10_cycle 0 [(0, .ref a0)] [] μ (.inl (some (.int r))) μ := by
  unfold f_X10_cycle at h
  refine zx_aload_n dX10_cycle_0 rfl (q := 0) rfl ?_
  obtain ⟨h1, h⟩ := ck_e h
  obtain ⟨p2, h3, h⟩ := bd_e h
  refine zx_getR hG fl_X10_10 h1 h3 dX10_cycle_1 ?_
  obtain ⟨h4, h⟩ := ck_e h
  refine zx_getI hG fl_X10_36 h4 dX10_cycle_4 ?_
  cases h
  exact zx_iret dX10_cycle_7 rfl
def f_X10_hasStopped (a0 : Nat) (μ : Mm) : Option Int32 :=
  ck (mK μ a0 = 111) <|
  bd (mR μ a0 0) fun p2 =>
  ck (mK μ p2 = 101) <|
  ck (zb (zb (mI μ p2 13)) = (zb (mI μ p2 13))) <|
  some (zb (mI μ p2 13))
set_option maxRecDepth 100000 in
theorem s_X10_hasStopped {l : Launch} {G : Gt} (hG : Gok l G) (a0 : Nat) (μ : Mm) (r : Int32) (h : f_X10_hasStopped a0 μ = some r) : ZX l G mX10_hasStopped 0 [(0, .ref a0)] [] μ (.inl (some (.int r))) μ := by
  unfold f_X10_hasStopped at h
  refine zx_aload_n dX10_hasStopped_0 rfl (q := 0) rfl ?_
  obtain ⟨h1, h⟩ := ck_e h
  obtain ⟨p2, h3, h⟩ := bd_e h
  refine zx_getR hG fl_X10_10 h1 h3 dX10_hasStopped_1 ?_
  obtain ⟨h4, h⟩ := ck_e h
  refine zx_getZ hG fl_X10_122 h4 dX10_hasStopped_4 ?_
  obtain ⟨h5, h⟩ := ck_e h
  cases h
  exact zx_zretZ dX10_hasStopped_7 rfl h5
def f_X10_ends (a0 : Nat) (μ : Mm) : Option Int32 :=
  ck (mK μ a0 = 111) <|
  bd (mR μ a0 0) fun p2 =>
  ck (mK μ p2 = 101) <|
  bd (mR μ p2 8) fun p5 =>
  ck (mK μ p5 = 100) <|
  bd (f_Jx4a65c_size_8abf5 p5 μ) fun y8 =>
  some y8
set_option maxRecDepth 100000 in
theorem s_X10_ends {l : Launch} {G : Gt} (hG : Gok l G) (a0 : Nat) (μ : Mm) (r : Int32) (h : f_X10_ends a0 μ = some r) : ZX l G mX10_ends 0 [(0, .ref a0)] [] μ (.inl (some (.int r))) μ := by
  unfold f_X10_ends at h
  refine zx_aload_n dX10_ends_0 rfl (q := 0) rfl ?_
  obtain ⟨h1, h⟩ := ck_e h
  obtain ⟨p2, h3, h⟩ := bd_e h
  refine zx_getR hG fl_X10_10 h1 h3 dX10_ends_1 ?_
  obtain ⟨h4, h⟩ := ck_e h
  obtain ⟨p5, h6, h⟩ := bd_e h
  refine zx_getR hG fl_X10_125 h4 h6 dX10_ends_4 ?_
  obtain ⟨h7, h⟩ := ck_e h
  obtain ⟨y8, z9, h⟩ := bd_e h
  refine zx_callV (As := []) hG mf_Jx4a65c_size_8abf5 cv_X10_30 h7 ⟨by decide, by decide⟩ rfl rfl (Nat.le_of_ble_eq_true rfl) (s_Jx4a65c_size_8abf5 hG _ _ _ z9) (Nat.le_of_ble_eq_true rfl) dX10_ends_7 ?_
  cases h
  exact zx_iret dX10_ends_10 rfl
def f_X10_isEnd (a0 : Nat) (x1 : Int32) (μ : Mm) : Option Int32 :=
  if x1 < 0 then
    some 0
  else
    ck (mK μ a0 = 111) <|
    bd (mR μ a0 0) fun p3 =>
    ck (mK μ p3 = 101) <|
    bd (mR μ p3 8) fun p6 =>
    ck (mK μ p6 = 100) <|
    bd (f_Jx4a65c_size_8abf5 p6 μ) fun y9 =>
    if y9 ≤ x1 then
      some 0
    else
      some 1
set_option maxRecDepth 100000 in
theorem s_X10_isEnd {l : Launch} {G : Gt} (hG : Gok l G) (a0 : Nat) (x1 : Int32) (μ : Mm) (r : Int32) (h : f_X10_isEnd a0 x1 μ = some r) : ZX l G mX10_isEnd 0 [(0, .ref a0), (1, .int x1)] [] μ (.inl (some (.int r))) μ := by
  unfold f_X10_isEnd at h
  refine zx_iload_n dX10_isEnd_0 rfl (q := 1) rfl ?_
  by_cases c1 : x1 < 0
  · have h := it_t c1 h
    refine zx_if_lt_t (tgt := 22) dX10_isEnd_1 (by decide) c1 ?_
    refine zx_iconst (v := 0) dX10_isEnd_22 iv_iconst_0 ?_
    cases h
    exact zx_zretZ dX10_isEnd_23 rfl zb_0
  · have h := it_f c1 h
    refine zx_if_lt_f (tgt := 22) dX10_isEnd_1 (by decide) c1 ?_
    refine zx_iload_n dX10_isEnd_4 rfl (q := 1) rfl ?_
    refine zx_aload_n dX10_isEnd_5 rfl (q := 0) rfl ?_
    obtain ⟨h2, h⟩ := ck_e h
    obtain ⟨p3, h4, h⟩ := bd_e h
    refine zx_getR hG fl_X10_10 h2 h4 dX10_isEnd_6 ?_
    obtain ⟨h5, h⟩ := ck_e h
    obtain ⟨p6, h7, h⟩ := bd_e h
    refine zx_getR hG fl_X10_125 h5 h7 dX10_isEnd_9 ?_
    obtain ⟨h8, h⟩ := ck_e h
    obtain ⟨y9, z10, h⟩ := bd_e h
    refine zx_callV (As := []) hG mf_Jx4a65c_size_8abf5 cv_X10_30 h8 ⟨by decide, by decide⟩ rfl rfl (Nat.le_of_ble_eq_true rfl) (s_Jx4a65c_size_8abf5 hG _ _ _ z10) (Nat.le_of_ble_eq_true rfl) dX10_isEnd_12 ?_
    by_cases c11 : y9 ≤ x1
    · have h := it_t c11 h
      refine zx_icmp_ge_t (tgt := 22) dX10_isEnd_15 (by decide) c11 ?_
      refine zx_iconst (v := 0) dX10_isEnd_22 iv_iconst_0 ?_
      cases h
      exact zx_zretZ dX10_isEnd_23 rfl zb_0
    · have h := it_f c11 h
      refine zx_icmp_ge_f (tgt := 22) dX10_isEnd_15 (by decide) c11 ?_
      refine zx_iconst (v := 1) dX10_isEnd_18 iv_iconst_1 ?_
      refine zx_goto (tgt := 23) dX10_isEnd_19 (by decide) ?_
      cases h
      exact zx_zretZ dX10_isEnd_23 rfl zb_1
def f_X10_kindAt (a0 : Nat) (x1 : Int32) (μ : Mm) : Option ((Int32 ⊕ String) × Mm) :=
  ck (mK μ a0 = 111) <|
  bd (f_X10_isEnd a0 x1 μ) fun y2 =>
  if ¬ y2 = 0 then
    bd (mR μ a0 0) fun p5 =>
    ck (mK μ p5 = 101) <|
    bd (mR μ p5 8) fun p8 =>
    ck (mK μ p8 = 100) <|
    bd (f_Jx4a65c_get_915e3 p8 x1 μ) fun p11 =>
    ck (mK μ p11 = 103) <|
    some (.inl (mI μ p11 0), μ)
  else
    some (.inr "java/lang/IndexOutOfBoundsException", bump μ 6)
set_option maxRecDepth 100000 in
theorem s_X10_kindAt {l : Launch} {G : Gt} (hG : Gok l G) (a0 : Nat) (x1 : Int32) (μ : Mm) (r : (Int32 ⊕ String)) (μ' : Mm) (h : f_X10_kindAt a0 x1 μ = some (r, μ')) : ZX l G mX10_kindAt 0 [(0, .ref a0), (1, .int x1)] [] μ (rsI r) μ' := by
  unfold f_X10_kindAt at h
  refine zx_aload_n dX10_kindAt_0 rfl (q := 0) rfl ?_
  refine zx_iload_n dX10_kindAt_1 rfl (q := 1) rfl ?_
  obtain ⟨h1, h⟩ := ck_e h
  obtain ⟨y2, z3, h⟩ := bd_e h
  refine zx_callV (As := [.int x1]) hG mf_X10_isEnd cv_X10_131 h1 ⟨by decide, by decide⟩ rfl rfl (Nat.le_of_ble_eq_true rfl) (s_X10_isEnd hG _ _ _ _ z3) (Nat.le_of_ble_eq_true rfl) dX10_kindAt_2 ?_
  by_cases c4 : ¬ y2 = 0
  · have h := it_t c4 h
    refine zx_if_ne_t (tgt := 16) dX10_kindAt_5 (by decide) c4 ?_
    refine zx_aload_n dX10_kindAt_16 rfl (q := 0) rfl ?_
    obtain ⟨p5, h6, h⟩ := bd_e h
    refine zx_getR hG fl_X10_10 h1 h6 dX10_kindAt_17 ?_
    obtain ⟨h7, h⟩ := ck_e h
    obtain ⟨p8, h9, h⟩ := bd_e h
    refine zx_getR hG fl_X10_125 h7 h9 dX10_kindAt_20 ?_
    refine zx_iload_n dX10_kindAt_23 rfl (q := 1) rfl ?_
    obtain ⟨h10, h⟩ := ck_e h
    obtain ⟨p11, z12, h⟩ := bd_e h
    refine zx_callV (As := [.int x1]) hG mf_Jx4a65c_get_915e3 cv_X10_137 h10 ⟨by decide, by decide⟩ rfl rfl (Nat.le_of_ble_eq_true rfl) (s_Jx4a65c_get_915e3 hG _ _ _ _ z12) (Nat.le_of_ble_eq_true rfl) dX10_kindAt_24 ?_
    obtain ⟨h13, h⟩ := ck_e h
    refine zx_castO hG kt_X10_141 h13 dX10_kindAt_27 ?_
    refine zx_getI hG fl_X10_143 h13 dX10_kindAt_30 ?_
    cases h
    exact zx_iret dX10_kindAt_33 rfl
  · have h := it_f c4 h
    refine zx_if_ne_f (tgt := 16) dX10_kindAt_5 (by decide) (Classical.not_not.mp c4) ?_
    cases h
    exact zx_throw hG xt_X10_134_136 (by decide) (by decide) (Nat.le_of_ble_eq_true rfl) dX10_kindAt_8 dX10_kindAt_11 dX10_kindAt_12 dX10_kindAt_15
def f_X10_placeAt (a0 : Nat) (x1 : Int32) (μ : Mm) : Option ((Int32 ⊕ String) × Mm) :=
  ck (mK μ a0 = 111) <|
  bd (f_X10_isEnd a0 x1 μ) fun y2 =>
  if ¬ y2 = 0 then
    bd (mR μ a0 0) fun p5 =>
    ck (mK μ p5 = 101) <|
    bd (mR μ p5 8) fun p8 =>
    ck (mK μ p8 = 100) <|
    bd (f_Jx4a65c_get_915e3 p8 x1 μ) fun p11 =>
    ck (mK μ p11 = 103) <|
    some (.inl (mI μ p11 1), μ)
  else
    some (.inr "java/lang/IndexOutOfBoundsException", bump μ 6)
set_option maxRecDepth 100000 in
theorem s_X10_placeAt {l : Launch} {G : Gt} (hG : Gok l G) (a0 : Nat) (x1 : Int32) (μ : Mm) (r : (Int32 ⊕ String)) (μ' : Mm) (h : f_X10_placeAt a0 x1 μ = some (r, μ')) : ZX l G mX10_placeAt 0 [(0, .ref a0), (1, .int x1)] [] μ (rsI r) μ' := by
  unfold f_X10_placeAt at h
  refine zx_aload_n dX10_placeAt_0 rfl (q := 0) rfl ?_
  refine zx_iload_n dX10_placeAt_1 rfl (q := 1) rfl ?_
  obtain ⟨h1, h⟩ := ck_e h
  obtain ⟨y2, z3, h⟩ := bd_e h
  refine zx_callV (As := [.int x1]) hG mf_X10_isEnd cv_X10_131 h1 ⟨by decide, by decide⟩ rfl rfl (Nat.le_of_ble_eq_true rfl) (s_X10_isEnd hG _ _ _ _ z3) (Nat.le_of_ble_eq_true rfl) dX10_placeAt_2 ?_
  by_cases c4 : ¬ y2 = 0
  · have h := it_t c4 h
    refine zx_if_ne_t (tgt := 16) dX10_placeAt_5 (by decide) c4 ?_
    refine zx_aload_n dX10_placeAt_16 rfl (q := 0) rfl ?_
    obtain ⟨p5, h6, h⟩ := bd_e h
    refine zx_getR hG fl_X10_10 h1 h6 dX10_placeAt_17 ?_
    obtain ⟨h7, h⟩ := ck_e h
    obtain ⟨p8, h9, h⟩ := bd_e h
    refine zx_getR hG fl_X10_125 h7 h9 dX10_placeAt_20 ?_
    refine zx_iload_n dX10_placeAt_23 rfl (q := 1) rfl ?_
    obtain ⟨h10, h⟩ := ck_e h
    obtain ⟨p11, z12, h⟩ := bd_e h
    refine zx_callV (As := [.int x1]) hG mf_Jx4a65c_get_915e3 cv_X10_137 h10 ⟨by decide, by decide⟩ rfl rfl (Nat.le_of_ble_eq_true rfl) (s_Jx4a65c_get_915e3 hG _ _ _ _ z12) (Nat.le_of_ble_eq_true rfl) dX10_placeAt_24 ?_
    obtain ⟨h13, h⟩ := ck_e h
    refine zx_castO hG kt_X10_141 h13 dX10_placeAt_27 ?_
    refine zx_getI hG fl_X10_146 h13 dX10_placeAt_30 ?_
    cases h
    exact zx_iret dX10_placeAt_33 rfl
  · have h := it_f c4 h
    refine zx_if_ne_f (tgt := 16) dX10_placeAt_5 (by decide) (Classical.not_not.mp c4) ?_
    cases h
    exact zx_throw hG xt_X10_134_136 (by decide) (by decide) (Nat.le_of_ble_eq_true rfl) dX10_placeAt_8 dX10_placeAt_11 dX10_placeAt_12 dX10_placeAt_15
def f_X10_kindByPlain (a0 : Nat) (x1 : Int32) (μ : Mm) : Option ((Int32 ⊕ String) × Mm) :=
  ck (mK μ a0 = 111) <|
  bd (f_X10_isEnd a0 x1 μ) fun y2 =>
  if ¬ y2 = 0 then
    bd (mR μ a0 0) fun p5 =>
    ck (mK μ p5 = 101) <|
    bd (mR μ p5 8) fun p8 =>
    ck (mK μ p8 = 100) <|
    bd (f_Jx4a65c_get_915e3 p8 x1 μ) fun p11 =>
    ck (mK μ p11 = 103) <|
    some (.inl (mI μ p11 2), μ)
  else
    some (.inr "java/lang/IndexOutOfBoundsException", bump μ 6)
set_option maxRecDepth 100000 in
theorem s_X10_kindByPlain {l : Launch} {G : Gt} (hG : Gok l G) (a0 : Nat) (x1 : Int32) (μ : Mm) (r : (Int32 ⊕ String)) (μ' : Mm) (h : f_X10_kindByPlain a0 x1 μ = some (r, μ')) : ZX l G mX10_kindByPlain 0 [(0, .ref a0), (1, .int x1)] [] μ (rsI r) μ' := by
  unfold f_X10_kindByPlain at h
  refine zx_aload_n dX10_kindByPlain_0 rfl (q := 0) rfl ?_
  refine zx_iload_n dX10_kindByPlain_1 rfl (q := 1) rfl ?_
  obtain ⟨h1, h⟩ := ck_e h
  obtain ⟨y2, z3, h⟩ := bd_e h
  refine zx_callV (As := [.int x1]) hG mf_X10_isEnd cv_X10_131 h1 ⟨by decide, by decide⟩ rfl rfl (Nat.le_of_ble_eq_true rfl) (s_X10_isEnd hG _ _ _ _ z3) (Nat.le_of_ble_eq_true rfl) dX10_kindByPlain_2 ?_
  by_cases c4 : ¬ y2 = 0
  · have h := it_t c4 h
    refine zx_if_ne_t (tgt := 16) dX10_kindByPlain_5 (by decide) c4 ?_
    refine zx_aload_n dX10_kindByPlain_16 rfl (q := 0) rfl ?_
    obtain ⟨p5, h6, h⟩ := bd_e h
    refine zx_getR hG fl_X10_10 h1 h6 dX10_kindByPlain_17 ?_
    obtain ⟨h7, h⟩ := ck_e h
    obtain ⟨p8, h9, h⟩ := bd_e h
    refine zx_getR hG fl_X10_125 h7 h9 dX10_kindByPlain_20 ?_
    refine zx_iload_n dX10_kindByPlain_23 rfl (q := 1) rfl ?_
    obtain ⟨h10, h⟩ := ck_e h
    obtain ⟨p11, z12, h⟩ := bd_e h
    refine zx_callV (As := [.int x1]) hG mf_Jx4a65c_get_915e3 cv_X10_137 h10 ⟨by decide, by decide⟩ rfl rfl (Nat.le_of_ble_eq_true rfl) (s_Jx4a65c_get_915e3 hG _ _ _ _ z12) (Nat.le_of_ble_eq_true rfl) dX10_kindByPlain_24 ?_
    obtain ⟨h13, h⟩ := ck_e h
    refine zx_castO hG kt_X10_141 h13 dX10_kindByPlain_27 ?_
    refine zx_getI hG fl_X10_149 h13 dX10_kindByPlain_30 ?_
    cases h
    exact zx_iret dX10_kindByPlain_33 rfl
  · have h := it_f c4 h
    refine zx_if_ne_f (tgt := 16) dX10_kindByPlain_5 (by decide) (Classical.not_not.mp c4) ?_
    cases h
    exact zx_throw hG xt_X10_134_136 (by decide) (by decide) (Nat.le_of_ble_eq_true rfl) dX10_kindByPlain_8 dX10_kindByPlain_11 dX10_kindByPlain_12 dX10_kindByPlain_15
def f_X10_placeByPlain (a0 : Nat) (x1 : Int32) (μ : Mm) : Option ((Int32 ⊕ String) × Mm) :=
  ck (mK μ a0 = 111) <|
  bd (f_X10_isEnd a0 x1 μ) fun y2 =>
  if ¬ y2 = 0 then
    bd (mR μ a0 0) fun p5 =>
    ck (mK μ p5 = 101) <|
    bd (mR μ p5 8) fun p8 =>
    ck (mK μ p8 = 100) <|
    bd (f_Jx4a65c_get_915e3 p8 x1 μ) fun p11 =>
    ck (mK μ p11 = 103) <|
    some (.inl (mI μ p11 3), μ)
  else
    some (.inr "java/lang/IndexOutOfBoundsException", bump μ 6)
set_option maxRecDepth 100000 in
theorem s_X10_placeByPlain {l : Launch} {G : Gt} (hG : Gok l G) (a0 : Nat) (x1 : Int32) (μ : Mm) (r : (Int32 ⊕ String)) (μ' : Mm) (h : f_X10_placeByPlain a0 x1 μ = some (r, μ')) : ZX l G mX10_placeByPlain 0 [(0, .ref a0), (1, .int x1)] [] μ (rsI r) μ' := by
  unfold f_X10_placeByPlain at h
  refine zx_aload_n dX10_placeByPlain_0 rfl (q := 0) rfl ?_
  refine zx_iload_n dX10_placeByPlain_1 rfl (q := 1) rfl ?_
  obtain ⟨h1, h⟩ := ck_e h
  obtain ⟨y2, z3, h⟩ := bd_e h
  refine zx_callV (As := [.int x1]) hG mf_X10_isEnd cv_X10_131 h1 ⟨by decide, by decide⟩ rfl rfl (Nat.le_of_ble_eq_true rfl) (s_X10_isEnd hG _ _ _ _ z3) (Nat.le_of_ble_eq_true rfl) dX10_placeByPlain_2 ?_
  by_cases c4 : ¬ y2 = 0
  · have h := it_t c4 h
    refine zx_if_ne_t (tgt := 16) dX10_placeByPlain_5 (by decide) c4 ?_
    refine zx_aload_n dX10_placeByPlain_16 rfl (q := 0) rfl ?_
    obtain ⟨p5, h6, h⟩ := bd_e h
    refine zx_getR hG fl_X10_10 h1 h6 dX10_placeByPlain_17 ?_
    obtain ⟨h7, h⟩ := ck_e h
    obtain ⟨p8, h9, h⟩ := bd_e h
    refine zx_getR hG fl_X10_125 h7 h9 dX10_placeByPlain_20 ?_
    refine zx_iload_n dX10_placeByPlain_23 rfl (q := 1) rfl ?_
    obtain ⟨h10, h⟩ := ck_e h
    obtain ⟨p11, z12, h⟩ := bd_e h
    refine zx_callV (As := [.int x1]) hG mf_Jx4a65c_get_915e3 cv_X10_137 h10 ⟨by decide, by decide⟩ rfl rfl (Nat.le_of_ble_eq_true rfl) (s_Jx4a65c_get_915e3 hG _ _ _ _ z12) (Nat.le_of_ble_eq_true rfl) dX10_placeByPlain_24 ?_
    obtain ⟨h13, h⟩ := ck_e h
    refine zx_castO hG kt_X10_141 h13 dX10_placeByPlain_27 ?_
    refine zx_getI hG fl_X10_152 h13 dX10_placeByPlain_30 ?_
    cases h
    exact zx_iret dX10_placeByPlain_33 rfl
  · have h := it_f c4 h
    refine zx_if_ne_f (tgt := 16) dX10_placeByPlain_5 (by decide) (Classical.not_not.mp c4) ?_
    cases h
    exact zx_throw hG xt_X10_134_136 (by decide) (by decide) (Nat.le_of_ble_eq_true rfl) dX10_placeByPlain_8 dX10_placeByPlain_11 dX10_placeByPlain_12 dX10_placeByPlain_15
def f_X10_register (a0 : Nat) (x1 : Int32) (μ : Mm) : Option ((Int32 ⊕ String) × Mm) :=
  bd (f_X10_isRegister x1) fun y1 =>
  if ¬ y1 = 0 then
    ck (mK μ a0 = 111) <|
    bd (mR μ a0 0) fun p5 =>
    ck (mK μ p5 = 101) <|
    bd (mR μ p5 4) fun p8 =>
    bd (mR μ a0 0) fun p10 =>
    ck (mK μ p10 = 101) <|
    bd (mR μ p10 4) fun p13 =>
    ck (mK μ p13 = 106) <|
    bd (mR μ p13 1) fun p16 =>
    ck (isA 1 (mK μ p16)) <|
    ck (inb x1 (mL μ p16)) <|
    ck (mK μ p8 = 106) <|
    bd (f_X5_valueOf p8 (mI μ p16 (Int32.toNatClampNeg x1)) μ) fun y21 =>
    some (.inl y21, μ)
  else
    some (.inr "java/lang/IllegalArgumentException", bump μ 6)
set_option maxRecDepth 100000 in
theorem s_X10_register {l : Launch} {G : Gt} (hG : Gok l G) (a0 : Nat) (x1 : Int32) (μ : Mm) (r : (Int32 ⊕ String)) (μ' : Mm) (h : f_X10_register a0 x1 μ = some (r, μ')) : ZX l G mX10_register 0 [(0, .ref a0), (1, .int x1)] [] μ (rsI r) μ' := by
  unfold f_X10_register at h
  refine zx_iload_n dX10_register_0 rfl (q := 1) rfl ?_
  obtain ⟨y1, z2, h⟩ := bd_e h
  refine zx_callS (As := [.int x1]) hG mf_X10_isRegister cs_X10_16 ⟨by decide, by decide⟩ rfl rfl (Nat.le_of_ble_eq_true rfl) (s_X10_isRegister hG _ _ _ z2) (Nat.le_of_ble_eq_true rfl) dX10_register_1 ?_
  by_cases c3 : ¬ y1 = 0
  · have h := it_t c3 h
    refine zx_if_ne_t (tgt := 15) dX10_register_4 (by decide) c3 ?_
    refine zx_aload_n dX10_register_15 rfl (q := 0) rfl ?_
    obtain ⟨h4, h⟩ := ck_e h
    obtain ⟨p5, h6, h⟩ := bd_e h
    refine zx_getR hG fl_X10_10 h4 h6 dX10_register_16 ?_
    obtain ⟨h7, h⟩ := ck_e h
    obtain ⟨p8, h9, h⟩ := bd_e h
    refine zx_getR hG fl_X10_62 h7 h9 dX10_register_19 ?_
    refine zx_aload_n dX10_register_22 rfl (q := 0) rfl ?_
    obtain ⟨p10, h11, h⟩ := bd_e h
    refine zx_getR hG fl_X10_10 h4 h11 dX10_register_23 ?_
    obtain ⟨h12, h⟩ := ck_e h
    obtain ⟨p13, h14, h⟩ := bd_e h
    refine zx_getR hG fl_X10_62 h12 h14 dX10_register_26 ?_
    obtain ⟨h15, h⟩ := ck_e h
    obtain ⟨p16, h17, h⟩ := bd_e h
    refine zx_getR hG fl_X10_155 h15 h17 dX10_register_29 ?_
    refine zx_iload_n dX10_register_32 rfl (q := 1) rfl ?_
    obtain ⟨h18, h⟩ := ck_e h
    obtain ⟨h19, h⟩ := ck_e h
    refine zx_iald hG rfl (h18).1 (h18).2 (inb_e h19) dX10_register_33 ?_
    obtain ⟨h20, h⟩ := ck_e h
    obtain ⟨y21, z22, h⟩ := bd_e h
    refine zx_callV (As := [.int (mI μ p16 (Int32.toNatClampNeg x1))]) hG mf_X5_valueOf cv_X10_158 h20 ⟨by decide, by decide⟩ rfl rfl (Nat.le_of_ble_eq_true rfl) (s_X5_valueOf hG _ _ _ _ z22) (Nat.le_of_ble_eq_true rfl) dX10_register_34 ?_
    cases h
    exact zx_iret dX10_register_37 rfl
  · have h := it_f c3 h
    refine zx_if_ne_f (tgt := 15) dX10_register_4 (by decide) (Classical.not_not.mp c3) ?_
    cases h
    exact zx_throw hG xt_X10_23_25 (by decide) (by decide) (Nat.le_of_ble_eq_true rfl) dX10_register_7 dX10_register_10 dX10_register_11 dX10_register_14
def f_X10_registerByPlain (a0 : Nat) (x1 : Int32) (μ : Mm) : Option ((Int32 ⊕ String) × Mm) :=
  bd (f_X10_isRegister x1) fun y1 =>
  if ¬ y1 = 0 then
    ck (mK μ a0 = 111) <|
    bd (mR μ a0 0) fun p5 =>
    ck (mK μ p5 = 101) <|
    bd (mR μ p5 3) fun p8 =>
    ck (mK μ p8 = 109) <|
    bd (mR μ p8 0) fun p11 =>
    ck (isA 1 (mK μ p11)) <|
    ck (inb x1 (mL μ p11)) <|
    some (.inl (mI μ p11 (Int32.toNatClampNeg x1)), μ)
  else
    some (.inr "java/lang/IllegalArgumentException", bump μ 6)
set_option maxRecDepth 100000 in
theorem s_X10_registerByPlain {l : Launch} {G : Gt} (hG : Gok l G) (a0 : Nat) (x1 : Int32) (μ : Mm) (r : (Int32 ⊕ String)) (μ' : Mm) (h : f_X10_registerByPlain a0 x1 μ = some (r, μ')) : ZX l G mX10_registerByPlain 0 [(0, .ref a0), (1, .int x1)] [] μ (rsI r) μ' := by
  unfold f_X10_registerByPlain at h
  refine zx_iload_n dX10_registerByPlain_0 rfl (q := 1) rfl ?_
  obtain ⟨y1, z2, h⟩ := bd_e h
  refine zx_callS (As := [.int x1]) hG mf_X10_isRegister cs_X10_16 ⟨by decide, by decide⟩ rfl rfl (Nat.le_of_ble_eq_true rfl) (s_X10_isRegister hG _ _ _ z2) (Nat.le_of_ble_eq_true rfl) dX10_registerByPlain_1 ?_
  by_cases c3 : ¬ y1 = 0
  · have h := it_t c3 h
    refine zx_if_ne_t (tgt := 15) dX10_registerByPlain_4 (by decide) c3 ?_
    refine zx_aload_n dX10_registerByPlain_15 rfl (q := 0) rfl ?_
    obtain ⟨h4, h⟩ := ck_e h
    obtain ⟨p5, h6, h⟩ := bd_e h
    refine zx_getR hG fl_X10_10 h4 h6 dX10_registerByPlain_16 ?_
    obtain ⟨h7, h⟩ := ck_e h
    obtain ⟨p8, h9, h⟩ := bd_e h
    refine zx_getR hG fl_X10_52 h7 h9 dX10_registerByPlain_19 ?_
    obtain ⟨h10, h⟩ := ck_e h
    obtain ⟨p11, h12, h⟩ := bd_e h
    refine zx_getR hG fl_X10_56 h10 h12 dX10_registerByPlain_22 ?_
    refine zx_iload_n dX10_registerByPlain_25 rfl (q := 1) rfl ?_
    obtain ⟨h13, h⟩ := ck_e h
    obtain ⟨h14, h⟩ := ck_e h
    refine zx_iald hG rfl (h13).1 (h13).2 (inb_e h14) dX10_registerByPlain_26 ?_
    cases h
    exact zx_iret dX10_registerByPlain_27 rfl
  · have h := it_f c3 h
    refine zx_if_ne_f (tgt := 15) dX10_registerByPlain_4 (by decide) (Classical.not_not.mp c3) ?_
    cases h
    exact zx_throw hG xt_X10_23_25 (by decide) (by decide) (Nat.le_of_ble_eq_true rfl) dX10_registerByPlain_7 dX10_registerByPlain_10 dX10_registerByPlain_11 dX10_registerByPlain_14
def f_X10_word (a0 : Nat) (x1 : Int32) (μ : Mm) : Option ((Int32 ⊕ String) × Mm) :=
  bd (f_X10_isAddress x1) fun y1 =>
  if ¬ y1 = 0 then
    ck (mK μ a0 = 111) <|
    bd (mR μ a0 0) fun p5 =>
    ck (mK μ p5 = 101) <|
    bd (mR μ p5 9) fun p8 =>
    ck (isA 1 (mK μ p8)) <|
    ck (inb x1 (mL μ p8)) <|
    some (.inl (mI μ p8 (Int32.toNatClampNeg x1)), μ)
  else
    some (.inr "java/lang/IllegalArgumentException", bump μ 6)
set_option maxRecDepth 100000 in
theorem s_X10_word {l : Launch} {G : Gt} (hG : Gok l G) (a0 : Nat) (x1 : Int32) (μ : Mm) (r : (Int32 ⊕ String)) (μ' : Mm) (h : f_X10_word a0 x1 μ = some (r, μ')) : ZX l G mX10_word 0 [(0, .ref a0), (1, .int x1)] [] μ (rsI r) μ' := by
  unfold f_X10_word at h
  refine zx_iload_n dX10_word_0 rfl (q := 1) rfl ?_
  obtain ⟨y1, z2, h⟩ := bd_e h
  refine zx_callS (As := [.int x1]) hG mf_X10_isAddress cs_X10_71 ⟨by decide, by decide⟩ rfl rfl (Nat.le_of_ble_eq_true rfl) (s_X10_isAddress hG _ _ _ z2) (Nat.le_of_ble_eq_true rfl) dX10_word_1 ?_
  by_cases c3 : ¬ y1 = 0
  · have h := it_t c3 h
    refine zx_if_ne_t (tgt := 15) dX10_word_4 (by decide) c3 ?_
    refine zx_aload_n dX10_word_15 rfl (q := 0) rfl ?_
    obtain ⟨h4, h⟩ := ck_e h
    obtain ⟨p5, h6, h⟩ := bd_e h
    refine zx_getR hG fl_X10_10 h4 h6 dX10_word_16 ?_
    obtain ⟨h7, h⟩ := ck_e h
    obtain ⟨p8, h9, h⟩ := bd_e h
    refine zx_getR hG fl_X10_74 h7 h9 dX10_word_19 ?_
    refine zx_iload_n dX10_word_22 rfl (q := 1) rfl ?_
    obtain ⟨h10, h⟩ := ck_e h
    obtain ⟨h11, h⟩ := ck_e h
    refine zx_iald hG rfl (h10).1 (h10).2 (inb_e h11) dX10_word_23 ?_
    cases h
    exact zx_iret dX10_word_24 rfl
  · have h := it_f c3 h
    refine zx_if_ne_f (tgt := 15) dX10_word_4 (by decide) (Classical.not_not.mp c3) ?_
    cases h
    exact zx_throw hG xt_X10_23_25 (by decide) (by decide) (Nat.le_of_ble_eq_true rfl) dX10_word_7 dX10_word_10 dX10_word_11 dX10_word_14
def f_X10_wordByPlain (a0 : Nat) (x1 : Int32) (μ : Mm) : Option ((Int32 ⊕ String) × Mm) :=
  bd (f_X10_isAddress x1) fun y1 =>
  if ¬ y1 = 0 then
    ck (mK μ a0 = 111) <|
    bd (mR μ a0 0) fun p5 =>
    ck (mK μ p5 = 101) <|
    bd (mR μ p5 3) fun p8 =>
    ck (mK μ p8 = 109) <|
    bd (mR μ p8 1) fun p11 =>
    ck (isA 1 (mK μ p11)) <|
    ck (inb x1 (mL μ p11)) <|
    some (.inl (mI μ p11 (Int32.toNatClampNeg x1)), μ)
  else
    some (.inr "java/lang/IllegalArgumentException", bump μ 6)
set_option maxRecDepth 100000 in
theorem s_X10_wordByPlain {l : Launch} {G : Gt} (hG : Gok l G) (a0 : Nat) (x1 : Int32) (μ : Mm) (r : (Int32 ⊕ String)) (μ' : Mm) (h : f_X10_wordByPlain a0 x1 μ = some (r, μ')) : ZX l G mX10_wordByPlain 0 [(0, .ref a0), (1, .int x1)] [] μ (rsI r) μ' := by
  unfold f_X10_wordByPlain at h
  refine zx_iload_n dX10_wordByPlain_0 rfl (q := 1) rfl ?_
  obtain ⟨y1, z2, h⟩ := bd_e h
  refine zx_callS (As := [.int x1]) hG mf_X10_isAddress cs_X10_71 ⟨by decide, by decide⟩ rfl rfl (Nat.le_of_ble_eq_true rfl) (s_X10_isAddress hG _ _ _ z2) (Nat.le_of_ble_eq_true rfl) dX10_wordByPlain_1 ?_
  by_cases c3 : ¬ y1 = 0
  · have h := it_t c3 h
    refine zx_if_ne_t (tgt := 15) dX10_wordByPlain_4 (by decide) c3 ?_
    refine zx_aload_n dX10_wordByPlain_15 rfl (q := 0) rfl ?_
    obtain ⟨h4, h⟩ := ck_e h
    obtain ⟨p5, h6, h⟩ := bd_e h
    refine zx_getR hG fl_X10_10 h4 h6 dX10_wordByPlain_16 ?_
    obtain ⟨h7, h⟩ := ck_e h
    obtain ⟨p8, h9, h⟩ := bd_e h
    refine zx_getR hG fl_X10_52 h7 h9 dX10_wordByPlain_19 ?_
    obtain ⟨h10, h⟩ := ck_e h
    obtain ⟨p11, h12, h⟩ := bd_e h
    refine zx_getR hG fl_X10_77 h10 h12 dX10_wordByPlain_22 ?_
    refine zx_iload_n dX10_wordByPlain_25 rfl (q := 1) rfl ?_
    obtain ⟨h13, h⟩ := ck_e h
    obtain ⟨h14, h⟩ := ck_e h
    refine zx_iald hG rfl (h13).1 (h13).2 (inb_e h14) dX10_wordByPlain_26 ?_
    cases h
    exact zx_iret dX10_wordByPlain_27 rfl
  · have h := it_f c3 h
    refine zx_if_ne_f (tgt := 15) dX10_wordByPlain_4 (by decide) (Classical.not_not.mp c3) ?_
    cases h
    exact zx_throw hG xt_X10_23_25 (by decide) (by decide) (Nat.le_of_ble_eq_true rfl) dX10_wordByPlain_7 dX10_wordByPlain_10 dX10_wordByPlain_11 dX10_wordByPlain_14
def f_X10_kept (a0 : Nat) (μ : Mm) : Option ((Int32 ⊕ String) × Mm) :=
  ck (mK μ a0 = 111) <|
  bd (mR μ a0 0) fun p2 =>
  ck (mK μ p2 = 101) <|
  if ¬ (zb (mI μ p2 15)) = 0 then
    bd (mR μ a0 0) fun p6 =>
    ck (mK μ p6 = 101) <|
    some (.inl (mI μ p6 16), μ)
  else
    some (.inr "java/util/NoSuchElementException", bump μ 6)
set_option maxRecDepth 100000 in
theorem s_X10_kept {l : Launch} {G : Gt} (hG : Gok l G) (a0 : Nat) (μ : Mm) (r : (Int32 ⊕ String)) (μ' : Mm) (h : f_X10_kept a0 μ = some (r, μ')) : ZX l G mX10_kept 0 [(0, .ref a0)] [] μ (rsI r) μ' := by
  unfold f_X10_kept at h
  refine zx_aload_n dX10_kept_0 rfl (q := 0) rfl ?_
  obtain ⟨h1, h⟩ := ck_e h
  obtain ⟨p2, h3, h⟩ := bd_e h
  refine zx_getR hG fl_X10_10 h1 h3 dX10_kept_1 ?_
  obtain ⟨h4, h⟩ := ck_e h
  refine zx_getZ hG fl_X10_162 h4 dX10_kept_4 ?_
  by_cases c5 : ¬ (zb (mI μ p2 15)) = 0
  · have h := it_t c5 h
    refine zx_if_ne_t (tgt := 18) dX10_kept_7 (by decide) c5 ?_
    refine zx_aload_n dX10_kept_18 rfl (q := 0) rfl ?_
    obtain ⟨p6, h7, h⟩ := bd_e h
    refine zx_getR hG fl_X10_10 h1 h7 dX10_kept_19 ?_
    obtain ⟨h8, h⟩ := ck_e h
    refine zx_getI hG fl_X10_168 h8 dX10_kept_22 ?_
    cases h
    exact zx_iret dX10_kept_25 rfl
  · have h := it_f c5 h
    refine zx_if_ne_f (tgt := 18) dX10_kept_7 (by decide) (Classical.not_not.mp c5) ?_
    cases h
    exact zx_throw hG xt_X10_165_167 (by decide) (by decide) (Nat.le_of_ble_eq_true rfl) dX10_kept_10 dX10_kept_13 dX10_kept_14 dX10_kept_17
def f_X10_life_b25 (μ : Mm) : Option ((Int32 ⊕ String) × Mm) :=
  some (.inr "java/lang/IllegalArgumentException", bump μ 6)
def f_X10_life (a0 : Nat) (x1 : Int32) (x2 : Int32) (μ : Mm) : Option ((Int32 ⊕ String) × Mm) :=
  ck (mK μ a0 = 111) <|
  bd (f_X10_isEnd a0 x1 μ) fun y2 =>
  if ¬ y2 = 0 then
    if x2 < 0 then
      f_X10_life_b25 μ
    else
      if x2 < 5 then
        bd (mR μ a0 0) fun p7 =>
        ck (mK μ p7 = 101) <|
        bd (mR μ p7 8) fun p10 =>
        ck (mK μ p10 = 100) <|
        bd (f_Jx4a65c_get_915e3 p10 x1 μ) fun p13 =>
        ck (mK μ p13 = 103) <|
        bd (mR μ p13 4) fun p16 =>
        ck (isA 1 (mK μ p16)) <|
        ck (inb x2 (mL μ p16)) <|
        if ¬ (mI μ p16 (Int32.toNatClampNeg x2)) = ((-1)) then
          some (.inl (mI μ p16 (Int32.toNatClampNeg x2)), μ)
        else
          some (.inr "java/util/NoSuchElementException", bump μ 6)
      else
        f_X10_life_b25 μ
  else
    some (.inr "java/lang/IndexOutOfBoundsException", bump μ 6)
set_option maxRecDepth 100000 in
theorem s_X10_life_b25 {l : Launch} {G : Gt} (hG : Gok l G) (μ : Mm) (r : (Int32 ⊕ String)) (μ' : Mm) (h : f_X10_life_b25 μ = some (r, μ')) : ZX l G mX10_life 25 [] [] μ (rsI r) μ' := by
  unfold f_X10_life_b25 at h
  cases h
  exact zx_throw hG xt_X10_23_25 (by decide) (by decide) (Nat.le_of_ble_eq_true rfl) dX10_life_25 dX10_life_28 dX10_life_29 dX10_life_32
set_option maxRecDepth 100000 in
theorem s_X10_life {l : Launch} {G : Gt} (hG : Gok l G) (a0 : Nat) (x1 : Int32) (x2 : Int32) (μ : Mm) (r : (Int32 ⊕ String)) (μ' : Mm) (h : f_X10_life a0 x1 x2 μ = some (r, μ')) : ZX l G mX10_life 0 [(0, .ref a0), (1, .int x1), (2, .int x2)] [] μ (rsI r) μ' := by
  unfold f_X10_life at h
  refine zx_aload_n dX10_life_0 rfl (q := 0) rfl ?_
  refine zx_iload_n dX10_life_1 rfl (q := 1) rfl ?_
  obtain ⟨h1, h⟩ := ck_e h
  obtain ⟨y2, z3, h⟩ := bd_e h
  refine zx_callV (As := [.int x1]) hG mf_X10_isEnd cv_X10_131 h1 ⟨by decide, by decide⟩ rfl rfl (Nat.le_of_ble_eq_true rfl) (s_X10_isEnd hG _ _ _ _ z3) (Nat.le_of_ble_eq_true rfl) dX10_life_2 ?_
  by_cases c4 : ¬ y2 = 0
  · have h := it_t c4 h
    refine zx_if_ne_t (tgt := 16) dX10_life_5 (by decide) c4 ?_
    refine zx_iload_n dX10_life_16 rfl (q := 2) rfl ?_
    by_cases c5 : x2 < 0
    · have h := it_t c5 h
      refine zx_if_lt_t (tgt := 25) dX10_life_17 (by decide) c5 ?_
      refine zx_sub (L' := []) [] rfl ?_
      exact s_X10_life_b25 hG _ _ _ h
    · have h := it_f c5 h
      refine zx_if_lt_f (tgt := 25) dX10_life_17 (by decide) c5 ?_
      refine zx_iload_n dX10_life_20 rfl (q := 2) rfl ?_
      refine zx_iconst (v := 5) dX10_life_21 iv_iconst_5 ?_
      by_cases c6 : x2 < 5
      · have h := it_t c6 h
        refine zx_icmp_lt_t (tgt := 33) dX10_life_22 (by decide) c6 ?_
        refine zx_aload_n dX10_life_33 rfl (q := 0) rfl ?_
        obtain ⟨p7, h8, h⟩ := bd_e h
        refine zx_getR hG fl_X10_10 h1 h8 dX10_life_34 ?_
        obtain ⟨h9, h⟩ := ck_e h
        obtain ⟨p10, h11, h⟩ := bd_e h
        refine zx_getR hG fl_X10_125 h9 h11 dX10_life_37 ?_
        refine zx_iload_n dX10_life_40 rfl (q := 1) rfl ?_
        obtain ⟨h12, h⟩ := ck_e h
        obtain ⟨p13, z14, h⟩ := bd_e h
        refine zx_callV (As := [.int x1]) hG mf_Jx4a65c_get_915e3 cv_X10_137 h12 ⟨by decide, by decide⟩ rfl rfl (Nat.le_of_ble_eq_true rfl) (s_Jx4a65c_get_915e3 hG _ _ _ _ z14) (Nat.le_of_ble_eq_true rfl) dX10_life_41 ?_
        obtain ⟨h15, h⟩ := ck_e h
        refine zx_castO hG kt_X10_141 h15 dX10_life_44 ?_
        obtain ⟨p16, h17, h⟩ := bd_e h
        refine zx_getR hG fl_X10_171 h15 h17 dX10_life_47 ?_
        refine zx_iload_n dX10_life_50 rfl (q := 2) rfl ?_
        obtain ⟨h18, h⟩ := ck_e h
        obtain ⟨h19, h⟩ := ck_e h
        refine zx_iald hG rfl (h18).1 (h18).2 (inb_e h19) dX10_life_51 ?_
        refine zx_istore_n (L' := [(3, .int (mI μ p16 (Int32.toNatClampNeg x2))), (0, .ref a0), (1, .int x1), (2, .int x2)]) dX10_life_52 rfl (by decide) rfl ?_
        refine zx_iload_n dX10_life_53 rfl (q := 0) rfl ?_
        refine zx_iconst (v := (-1)) dX10_life_54 iv_iconst_m1 ?_
        by_cases c20 : ¬ (mI μ p16 (Int32.toNatClampNeg x2)) = ((-1))
        · have h := it_t c20 h
          refine zx_icmp_ne_t (tgt := 66) dX10_life_55 (by decide) c20 ?_
          refine zx_iload_n dX10_life_66 rfl (q := 0) rfl ?_
          cases h
          exact zx_iret dX10_life_67 rfl
        · have h := it_f c20 h
          refine zx_icmp_ne_f (tgt := 66) dX10_life_55 (by decide) (Classical.not_not.mp c20) ?_
          cases h
          exact zx_throw hG xt_X10_165_167 (by decide) (by decide) (Nat.le_of_ble_eq_true rfl) dX10_life_58 dX10_life_61 dX10_life_62 dX10_life_65
      · have h := it_f c6 h
        refine zx_icmp_lt_f (tgt := 33) dX10_life_22 (by decide) c6 ?_
        refine zx_sub (L' := []) [] rfl ?_
        exact s_X10_life_b25 hG _ _ _ h
  · have h := it_f c4 h
    refine zx_if_ne_f (tgt := 16) dX10_life_5 (by decide) (Classical.not_not.mp c4) ?_
    cases h
    exact zx_throw hG xt_X10_134_136 (by decide) (by decide) (Nat.le_of_ble_eq_true rfl) dX10_life_8 dX10_life_11 dX10_life_12 dX10_life_15
def f_X10_inner (a0 : Nat) (x1 : Int32) (μ : Mm) : Option ((Int32 ⊕ String) × Mm) :=
  bd (f_X10_isRegister x1) fun y1 =>
  if ¬ y1 = 0 then
    ck (mK μ a0 = 111) <|
    bd (mR μ a0 0) fun p5 =>
    ck (mK μ p5 = 101) <|
    bd (mR μ p5 4) fun p8 =>
    ck (mK μ p8 = 106) <|
    bd (mR μ p8 0) fun p11 =>
    ck (isA 1 (mK μ p11)) <|
    ck (inb x1 (mL μ p11)) <|
    some (.inl (mI μ p11 (Int32.toNatClampNeg x1)), μ)
  else
    some (.inr "java/lang/IllegalArgumentException", bump μ 6)
set_option maxRecDepth 100000 in
theorem s_X10_inner {l : Launch} {G : Gt} (hG : Gok l G) (a0 : Nat) (x1 : Int32) (μ : Mm) (r : (Int32 ⊕ String)) (μ' : Mm) (h : f_X10_inner a0 x1 μ = some (r, μ')) : ZX l G mX10_inner 0 [(0, .ref a0), (1, .int x1)] [] μ (rsI r) μ' := by
  unfold f_X10_inner at h
  refine zx_iload_n dX10_inner_0 rfl (q := 1) rfl ?_
  obtain ⟨y1, z2, h⟩ := bd_e h
  refine zx_callS (As := [.int x1]) hG mf_X10_isRegister cs_X10_16 ⟨by decide, by decide⟩ rfl rfl (Nat.le_of_ble_eq_true rfl) (s_X10_isRegister hG _ _ _ z2) (Nat.le_of_ble_eq_true rfl) dX10_inner_1 ?_
  by_cases c3 : ¬ y1 = 0
  · have h := it_t c3 h
    refine zx_if_ne_t (tgt := 15) dX10_inner_4 (by decide) c3 ?_
    refine zx_aload_n dX10_inner_15 rfl (q := 0) rfl ?_
    obtain ⟨h4, h⟩ := ck_e h
    obtain ⟨p5, h6, h⟩ := bd_e h
    refine zx_getR hG fl_X10_10 h4 h6 dX10_inner_16 ?_
    obtain ⟨h7, h⟩ := ck_e h
    obtain ⟨p8, h9, h⟩ := bd_e h
    refine zx_getR hG fl_X10_62 h7 h9 dX10_inner_19 ?_
    obtain ⟨h10, h⟩ := ck_e h
    obtain ⟨p11, h12, h⟩ := bd_e h
    refine zx_getR hG fl_X10_174 h10 h12 dX10_inner_22 ?_
    refine zx_iload_n dX10_inner_25 rfl (q := 1) rfl ?_
    obtain ⟨h13, h⟩ := ck_e h
    obtain ⟨h14, h⟩ := ck_e h
    refine zx_iald hG rfl (h13).1 (h13).2 (inb_e h14) dX10_inner_26 ?_
    cases h
    exact zx_iret dX10_inner_27 rfl
  · have h := it_f c3 h
    refine zx_if_ne_f (tgt := 15) dX10_inner_4 (by decide) (Classical.not_not.mp c3) ?_
    cases h
    exact zx_throw hG xt_X10_23_25 (by decide) (by decide) (Nat.le_of_ble_eq_true rfl) dX10_inner_7 dX10_inner_10 dX10_inner_11 dX10_inner_14
def f_X0_findInner_b65 (k12 : Nat → Int32 → Int32 → Int32 → Mm → Option Int32) (a0 : Nat) (x1 : Int32) (x2 : Int32) (x3 : Int32) (μ : Mm) : Option Int32 :=
  k12 a0 x1 x2 (x3 + 1) μ
def f_X0_findInner_b12 : Nat → Nat → Int32 → Int32 → Int32 → Mm → Option Int32
  | 0, _, _, _, _, _ => none
  | n + 1, a0, x1, x2, x3, μ =>
  ck (mK μ a0 = 101) <|
  bd (mR μ a0 7) fun p10 =>
  ck (mK μ p10 = 100) <|
  bd (f_Jx4a65c_size_8abf5 p10 μ) fun y13 =>
  if y13 ≤ x3 then
    some x2
  else
    bd (mR μ a0 7) fun p16 =>
    ck (mK μ p16 = 100) <|
    bd (f_Jx4a65c_get_915e3 p16 x3 μ) fun p19 =>
    ck (mK μ p19 = 104) <|
    bd (mR μ p19 0) fun p22 =>
    ck (mK μ p22 = 107) <|
    bd (f_X6_hasResult p22 μ) fun y25 =>
    if y25 = 0 then
      f_X0_findInner_b65 (f_X0_findInner_b12 n) a0 x1 x2 x3 μ
    else
      bd (mR μ p19 0) fun p28 =>
      ck (mK μ p28 = 107) <|
      if ¬ (mI μ p28 2) = x1 then
        f_X0_findInner_b65 (f_X0_findInner_b12 n) a0 x1 x2 x3 μ
      else
        f_X0_findInner_b65 (f_X0_findInner_b12 n) a0 x1 (mI μ p19 8) x3 μ
def f_X0_findInner (a0 : Nat) (x1 : Int32) (μ : Mm) : Option Int32 :=
  ck (mK μ a0 = 101) <|
  bd (mR μ a0 4) fun p2 =>
  ck (mK μ p2 = 106) <|
  bd (mR μ p2 1) fun p5 =>
  ck (isA 1 (mK μ p5)) <|
  ck (inb x1 (mL μ p5)) <|
  f_X0_findInner_b12 5000 a0 x1 (mI μ p5 (Int32.toNatClampNeg x1)) 0 μ
set_option maxRecDepth 100000 in
theorem s_X0_findInner_b65 {l : Launch} {G : Gt} (hG : Gok l G) {k12 : Nat → Int32 → Int32 → Int32 → Mm → Option Int32} (hk12 : ∀ (a0 : Nat) (x1 : Int32) (x2 : Int32) (x3 : Int32) (μ : Mm) (r : Int32), k12 a0 x1 x2 x3 μ = some r → ZX l G mX0_findInner 12 [(0, .ref a0), (1, .int x1), (2, .int x2), (3, .int x3)] [] μ (.inl (some (.int r))) μ) (a0 : Nat) (x1 : Int32) (x2 : Int32) (x3 : Int32) (μ : Mm) (r : Int32) (h : f_X0_findInner_b65 k12 a0 x1 x2 x3 μ = some r) : ZX l G mX0_findInner 65 [(0, .ref a0), (1, .int x1), (2, .int x2), (3, .int x3)] [] μ (.inl (some (.int r))) μ := by
  unfold f_X0_findInner_b65 at h
  refine zx_iinc (q := 3) (v := x3 + 1) (L' := [(3, .int (x3 + 1)), (0, .ref a0), (1, .int x1), (2, .int x2)]) dX0_findInner_65 rfl rfl (by decide) rfl ?_
  refine zx_goto (tgt := 12) dX0_findInner_68 (by decide) ?_
  refine zx_sub (L' := [(0, .ref a0), (1, .int x1), (2, .int x2), (3, .int (x3 + 1))]) [1, 2, 3, 0] rfl ?_
  exact hk12 _ _ _ _ _ _ h
set_option maxRecDepth 100000 in
theorem s_X0_findInner_b12 {l : Launch} {G : Gt} (hG : Gok l G) : ∀ (n : Nat) (a0 : Nat) (x1 : Int32) (x2 : Int32) (x3 : Int32) (μ : Mm) (r : Int32), f_X0_findInner_b12 n a0 x1 x2 x3 μ = some r → ZX l G mX0_findInner 12 [(0, .ref a0), (1, .int x1), (2, .int x2), (3, .int x3)] [] μ (.inl (some (.int r))) μ := by
  intro n
  induction n with
  | zero =>
    intro a0 x1 x2 x3 μ r h
    cases h
  | succ n ih =>
    intro a0 x1 x2 x3 μ r h
    unfold f_X0_findInner_b12 at h
    refine zx_iload_n dX0_findInner_12 rfl (q := 3) rfl ?_
    refine zx_aload_n dX0_findInner_13 rfl (q := 0) rfl ?_
    obtain ⟨h9, h⟩ := ck_e h
    obtain ⟨p10, h11, h⟩ := bd_e h
    refine zx_getR hG fl_X0_60 h9 h11 dX0_findInner_14 ?_
    obtain ⟨h12, h⟩ := ck_e h
    obtain ⟨y13, z14, h⟩ := bd_e h
    refine zx_callV (As := []) hG mf_Jx4a65c_size_8abf5 cv_X0_123 h12 ⟨by decide, by decide⟩ rfl rfl (Nat.le_of_ble_eq_true rfl) (s_Jx4a65c_size_8abf5 hG _ _ _ z14) (Nat.le_of_ble_eq_true rfl) dX0_findInner_17 ?_
    by_cases c15 : y13 ≤ x3
    · have h := it_t c15 h
      refine zx_icmp_ge_t (tgt := 71) dX0_findInner_20 (by decide) c15 ?_
      refine zx_iload_n dX0_findInner_71 rfl (q := 2) rfl ?_
      cases h
      exact zx_iret dX0_findInner_72 rfl
    · have h := it_f c15 h
      refine zx_icmp_ge_f (tgt := 71) dX0_findInner_20 (by decide) c15 ?_
      refine zx_aload_n dX0_findInner_23 rfl (q := 0) rfl ?_
      obtain ⟨p16, h17, h⟩ := bd_e h
      refine zx_getR hG fl_X0_60 h9 h17 dX0_findInner_24 ?_
      refine zx_iload_n dX0_findInner_27 rfl (q := 3) rfl ?_
      obtain ⟨h18, h⟩ := ck_e h
      obtain ⟨p19, z20, h⟩ := bd_e h
      refine zx_callV (As := [.int x3]) hG mf_Jx4a65c_get_915e3 cv_X0_127 h18 ⟨by decide, by decide⟩ rfl rfl (Nat.le_of_ble_eq_true rfl) (s_Jx4a65c_get_915e3 hG _ _ _ _ z20) (Nat.le_of_ble_eq_true rfl) dX0_findInner_28 ?_
      obtain ⟨h21, h⟩ := ck_e h
      refine zx_castO hG kt_X0_131 h21 dX0_findInner_31 ?_
      refine zx_astore (L' := [(4, .ref p19), (0, .ref a0), (1, .int x1), (2, .int x2), (3, .int x3)]) dX0_findInner_34 (by decide) rfl ?_
      refine zx_aload dX0_findInner_36 (q := 0) rfl ?_
      obtain ⟨p22, h23, h⟩ := bd_e h
      refine zx_getR hG fl_X0_161 h21 h23 dX0_findInner_38 ?_
      obtain ⟨h24, h⟩ := ck_e h
      obtain ⟨y25, z26, h⟩ := bd_e h
      refine zx_callV (As := []) hG mf_X6_hasResult cv_X0_179 h24 ⟨by decide, by decide⟩ rfl rfl (Nat.le_of_ble_eq_true rfl) (s_X6_hasResult hG _ _ _ z26) (Nat.le_of_ble_eq_true rfl) dX0_findInner_41 ?_
      by_cases c27 : y25 = 0
      · have h := it_t c27 h
        refine zx_if_eq_t (tgt := 65) dX0_findInner_44 (by decide) c27 ?_
        refine zx_sub (L' := [(0, .ref a0), (1, .int x1), (2, .int x2), (3, .int x3)]) [1, 2, 3, 4] rfl ?_
        exact s_X0_findInner_b65 hG ih _ _ _ _ _ _ h
      · have h := it_f c27 h
        refine zx_if_eq_f (tgt := 65) dX0_findInner_44 (by decide) c27 ?_
        refine zx_aload dX0_findInner_47 (q := 0) rfl ?_
        obtain ⟨p28, h29, h⟩ := bd_e h
        refine zx_getR hG fl_X0_161 h21 h29 dX0_findInner_49 ?_
        obtain ⟨h30, h⟩ := ck_e h
        refine zx_getI hG fl_X0_430 h30 dX0_findInner_52 ?_
        refine zx_iload_n dX0_findInner_55 rfl (q := 2) rfl ?_
        by_cases c31 : ¬ (mI μ p28 2) = x1
        · have h := it_t c31 h
          refine zx_icmp_ne_t (tgt := 65) dX0_findInner_56 (by decide) c31 ?_
          refine zx_sub (L' := [(0, .ref a0), (1, .int x1), (2, .int x2), (3, .int x3)]) [1, 2, 3, 4] rfl ?_
          exact s_X0_findInner_b65 hG ih _ _ _ _ _ _ h
        · have h := it_f c31 h
          refine zx_icmp_ne_f (tgt := 65) dX0_findInner_56 (by decide) (Classical.not_not.mp c31) ?_
          refine zx_aload dX0_findInner_59 (q := 0) rfl ?_
          refine zx_getI hG fl_X0_230 h21 dX0_findInner_61 ?_
          refine zx_istore_n (L' := [(2, .int (mI μ p19 8)), (4, .ref p19), (0, .ref a0), (1, .int x1), (3, .int x3)]) dX0_findInner_64 rfl (by decide) rfl ?_
          refine zx_sub (L' := [(0, .ref a0), (1, .int x1), (2, .int (mI μ p19 8)), (3, .int x3)]) [2, 3, 0, 4] rfl ?_
          exact s_X0_findInner_b65 hG ih _ _ _ _ _ _ h
set_option maxRecDepth 100000 in
theorem s_X0_findInner {l : Launch} {G : Gt} (hG : Gok l G) (a0 : Nat) (x1 : Int32) (μ : Mm) (r : Int32) (h : f_X0_findInner a0 x1 μ = some r) : ZX l G mX0_findInner 0 [(0, .ref a0), (1, .int x1)] [] μ (.inl (some (.int r))) μ := by
  unfold f_X0_findInner at h
  refine zx_aload_n dX0_findInner_0 rfl (q := 0) rfl ?_
  obtain ⟨h1, h⟩ := ck_e h
  obtain ⟨p2, h3, h⟩ := bd_e h
  refine zx_getR hG fl_X0_42 h1 h3 dX0_findInner_1 ?_
  obtain ⟨h4, h⟩ := ck_e h
  obtain ⟨p5, h6, h⟩ := bd_e h
  refine zx_getR hG fl_X0_427 h4 h6 dX0_findInner_4 ?_
  refine zx_iload_n dX0_findInner_7 rfl (q := 1) rfl ?_
  obtain ⟨h7, h⟩ := ck_e h
  obtain ⟨h8, h⟩ := ck_e h
  refine zx_iald hG rfl (h7).1 (h7).2 (inb_e h8) dX0_findInner_8 ?_
  refine zx_istore_n (L' := [(2, .int (mI μ p5 (Int32.toNatClampNeg x1))), (0, .ref a0), (1, .int x1)]) dX0_findInner_9 rfl (by decide) rfl ?_
  refine zx_iconst (v := 0) dX0_findInner_10 iv_iconst_0 ?_
  refine zx_istore_n (L' := [(3, .int 0), (2, .int (mI μ p5 (Int32.toNatClampNeg x1))), (0, .ref a0), (1, .int x1)]) dX0_findInner_11 rfl (by decide) rfl ?_
  refine zx_sub (L' := [(0, .ref a0), (1, .int x1), (2, .int (mI μ p5 (Int32.toNatClampNeg x1))), (3, .int 0)]) [2, 3, 1, 0] rfl ?_
  exact s_X0_findInner_b12 hG 5000 _ _ _ _ _ _ h
