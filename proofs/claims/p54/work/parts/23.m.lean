theorem dX8_goToTraps_0 : decode cX8_goToTraps 0 = .ok (.aload_n 0, 1) := by decide +kernel
theorem dX8_goToTraps_1 : decode cX8_goToTraps 1 = .ok (.getfield 22, 3) := by decide +kernel
theorem dX8_goToTraps_4 : decode cX8_goToTraps 4 = .ok (.ifCond .ne 28, 3) := by decide +kernel
theorem dX8_goToTraps_7 : decode cX8_goToTraps 7 = .ok (.iload_n 1, 1) := by decide +kernel
theorem dX8_goToTraps_8 : decode cX8_goToTraps 8 = .ok (.iconst (-1), 1) := by decide +kernel
theorem dX8_goToTraps_9 : decode cX8_goToTraps 9 = .ok (.if_icmp .eq 23, 3) := by decide +kernel
theorem dX8_goToTraps_12 : decode cX8_goToTraps 12 = .ok (.aload_n 0, 1) := by decide +kernel
theorem dX8_goToTraps_13 : decode cX8_goToTraps 13 = .ok (.aload_n 0, 1) := by decide +kernel
theorem dX8_goToTraps_14 : decode cX8_goToTraps 14 = .ok (.getfield 18, 3) := by decide +kernel
theorem dX8_goToTraps_17 : decode cX8_goToTraps 17 = .ok (.iconst 1, 1) := by decide +kernel
theorem dX8_goToTraps_18 : decode cX8_goToTraps 18 = .ok (.iadd, 1) := by decide +kernel
theorem dX8_goToTraps_19 : decode cX8_goToTraps 19 = .ok (.putfield 26, 3) := by decide +kernel
theorem dX8_goToTraps_22 : decode cX8_goToTraps 22 = .ok (.aload_n 0, 1) := by decide +kernel
theorem dX8_goToTraps_23 : decode cX8_goToTraps 23 = .ok (.iconst 1, 1) := by decide +kernel
theorem dX8_goToTraps_24 : decode cX8_goToTraps 24 = .ok (.putfield 22, 3) := by decide +kernel
theorem dX8_goToTraps_27 : decode cX8_goToTraps 27 = .ok (.aload_n 0, 1) := by decide +kernel
theorem dX8_goToTraps_28 : decode cX8_goToTraps 28 = .ok (.iload_n 1, 1) := by decide +kernel
theorem dX8_goToTraps_29 : decode cX8_goToTraps 29 = .ok (.putfield 18, 3) := by decide +kernel
theorem dX8_goToTraps_32 : decode cX8_goToTraps 32 = .ok (.return_, 1) := by decide +kernel
theorem dX6_isSo_0 : decode cX6_isSo 0 = .ok (.aload_n 0, 1) := by decide +kernel
theorem dX6_isSo_1 : decode cX6_isSo 1 = .ok (.getfield 15, 3) := by decide +kernel
theorem dX6_isSo_4 : decode cX6_isSo 4 = .ok (.bipush 12, 2) := by decide +kernel
theorem dX6_isSo_6 : decode cX6_isSo 6 = .ok (.if_icmp .ne 16, 3) := by decide +kernel
theorem dX6_isSo_9 : decode cX6_isSo 9 = .ok (.iload_n 1, 1) := by decide +kernel
theorem dX6_isSo_10 : decode cX6_isSo 10 = .ok (.iload_n 2, 1) := by decide +kernel
theorem dX6_isSo_11 : decode cX6_isSo 11 = .ok (.if_icmp .ne 7, 3) := by decide +kernel
theorem dX6_isSo_14 : decode cX6_isSo 14 = .ok (.iconst 1, 1) := by decide +kernel
theorem dX6_isSo_15 : decode cX6_isSo 15 = .ok (.goto 17, 3) := by decide +kernel
theorem dX6_isSo_18 : decode cX6_isSo 18 = .ok (.iconst 0, 1) := by decide +kernel
theorem dX6_isSo_19 : decode cX6_isSo 19 = .ok (.goto 13, 3) := by decide +kernel
theorem dX6_isSo_22 : decode cX6_isSo 22 = .ok (.iload_n 1, 1) := by decide +kernel
theorem dX6_isSo_23 : decode cX6_isSo 23 = .ok (.iload_n 2, 1) := by decide +kernel
theorem dX6_isSo_24 : decode cX6_isSo 24 = .ok (.if_icmp .ge 7, 3) := by decide +kernel
theorem dX6_isSo_27 : decode cX6_isSo 27 = .ok (.iconst 1, 1) := by decide +kernel
theorem dX6_isSo_28 : decode cX6_isSo 28 = .ok (.goto 4, 3) := by decide +kernel
theorem dX6_isSo_31 : decode cX6_isSo 31 = .ok (.iconst 0, 1) := by decide +kernel
theorem dX6_isSo_32 : decode cX6_isSo 32 = .ok (.ireturn, 1) := by decide +kernel
theorem dX6_goesBy_0 : decode cX6_goesBy 0 = .ok (.aload_n 0, 1) := by decide +kernel
theorem dX6_goesBy_1 : decode cX6_goesBy 1 = .ok (.invokevirtual 34, 3) := by decide +kernel
theorem dX6_goesBy_4 : decode cX6_goesBy 4 = .ok (.ifCond .eq 26, 3) := by decide +kernel
theorem dX6_goesBy_7 : decode cX6_goesBy 7 = .ok (.aload_n 0, 1) := by decide +kernel
theorem dX6_goesBy_8 : decode cX6_goesBy 8 = .ok (.iload_n 1, 1) := by decide +kernel
theorem dX6_goesBy_9 : decode cX6_goesBy 9 = .ok (.iload_n 2, 1) := by decide +kernel
theorem dX6_goesBy_10 : decode cX6_goesBy 10 = .ok (.invokevirtual 44, 3) := by decide +kernel
theorem dX6_goesBy_13 : decode cX6_goesBy 13 = .ok (.ifCond .eq 10, 3) := by decide +kernel
theorem dX6_goesBy_16 : decode cX6_goesBy 16 = .ok (.aload_n 0, 1) := by decide +kernel
theorem dX6_goesBy_17 : decode cX6_goesBy 17 = .ok (.getfield 27, 3) := by decide +kernel
theorem dX6_goesBy_20 : decode cX6_goesBy 20 = .ok (.goto 9, 3) := by decide +kernel
theorem dX6_goesBy_23 : decode cX6_goesBy 23 = .ok (.aload_n 0, 1) := by decide +kernel
theorem dX6_goesBy_24 : decode cX6_goesBy 24 = .ok (.getfield 9, 3) := by decide +kernel
theorem dX6_goesBy_27 : decode cX6_goesBy 27 = .ok (.iconst 1, 1) := by decide +kernel
theorem dX6_goesBy_28 : decode cX6_goesBy 28 = .ok (.iadd, 1) := by decide +kernel
theorem dX6_goesBy_29 : decode cX6_goesBy 29 = .ok (.ireturn, 1) := by decide +kernel
theorem dX6_goesBy_30 : decode cX6_goesBy 30 = .ok (.aload_n 0, 1) := by decide +kernel
theorem dX6_goesBy_31 : decode cX6_goesBy 31 = .ok (.invokevirtual 30, 3) := by decide +kernel
theorem dX6_goesBy_34 : decode cX6_goesBy 34 = .ok (.ifCond .eq 5, 3) := by decide +kernel
theorem dX6_goesBy_37 : decode cX6_goesBy 37 = .ok (.iload_n 1, 1) := by decide +kernel
theorem dX6_goesBy_38 : decode cX6_goesBy 38 = .ok (.ireturn, 1) := by decide +kernel
theorem dX6_goesBy_39 : decode cX6_goesBy 39 = .ok (.aload_n 0, 1) := by decide +kernel
theorem dX6_goesBy_40 : decode cX6_goesBy 40 = .ok (.getfield 15, 3) := by decide +kernel
theorem dX6_goesBy_43 : decode cX6_goesBy 43 = .ok (.bipush 14, 2) := by decide +kernel
theorem dX6_goesBy_45 : decode cX6_goesBy 45 = .ok (.if_icmp .eq 12, 3) := by decide +kernel
theorem dX6_goesBy_48 : decode cX6_goesBy 48 = .ok (.aload_n 0, 1) := by decide +kernel
theorem dX6_goesBy_49 : decode cX6_goesBy 49 = .ok (.getfield 15, 3) := by decide +kernel
theorem dX6_goesBy_52 : decode cX6_goesBy 52 = .ok (.bipush 15, 2) := by decide +kernel
theorem dX6_goesBy_54 : decode cX6_goesBy 54 = .ok (.if_icmp .ne 10, 3) := by decide +kernel
theorem dX6_goesBy_57 : decode cX6_goesBy 57 = .ok (.aload_n 0, 1) := by decide +kernel
theorem dX6_goesBy_58 : decode cX6_goesBy 58 = .ok (.getfield 27, 3) := by decide +kernel
theorem dX6_goesBy_61 : decode cX6_goesBy 61 = .ok (.goto 9, 3) := by decide +kernel
theorem dX6_goesBy_64 : decode cX6_goesBy 64 = .ok (.aload_n 0, 1) := by decide +kernel
theorem dX6_goesBy_65 : decode cX6_goesBy 65 = .ok (.getfield 9, 3) := by decide +kernel
theorem dX6_goesBy_68 : decode cX6_goesBy 68 = .ok (.iconst 1, 1) := by decide +kernel
theorem dX6_goesBy_69 : decode cX6_goesBy 69 = .ok (.iadd, 1) := by decide +kernel
theorem dX6_goesBy_70 : decode cX6_goesBy 70 = .ok (.ireturn, 1) := by decide +kernel
theorem dX6_changedWord_0 : decode cX6_changedWord 0 = .ok (.aload_n 0, 1) := by decide +kernel
theorem dX6_changedWord_1 : decode cX6_changedWord 1 = .ok (.getfield 15, 3) := by decide +kernel
theorem dX6_changedWord_4 : decode cX6_changedWord 4 = .ok (.bipush 10, 2) := by decide +kernel
theorem dX6_changedWord_6 : decode cX6_changedWord 6 = .ok (.if_icmp .ne 7, 3) := by decide +kernel
theorem dX6_changedWord_9 : decode cX6_changedWord 9 = .ok (.iload_n 2, 1) := by decide +kernel
theorem dX6_changedWord_10 : decode cX6_changedWord 10 = .ok (.goto 12, 3) := by decide +kernel
theorem dX6_changedWord_13 : decode cX6_changedWord 13 = .ok (.iload_n 1, 1) := by decide +kernel
theorem dX6_changedWord_14 : decode cX6_changedWord 14 = .ok (.ldc 48, 2) := by decide +kernel
theorem dX6_changedWord_16 : decode cX6_changedWord 16 = .ok (.iand, 1) := by decide +kernel
theorem dX6_changedWord_17 : decode cX6_changedWord 17 = .ok (.iload_n 2, 1) := by decide +kernel
theorem dX6_changedWord_18 : decode cX6_changedWord 18 = .ok (.ldc 49, 2) := by decide +kernel
theorem dX6_changedWord_20 : decode cX6_changedWord 20 = .ok (.iand, 1) := by decide +kernel
theorem dX6_changedWord_21 : decode cX6_changedWord 21 = .ok (.ior, 1) := by decide +kernel
theorem dX6_changedWord_22 : decode cX6_changedWord 22 = .ok (.ireturn, 1) := by decide +kernel
theorem dX6_resultBy_0 : decode cX6_resultBy 0 = .ok (.aload_n 0, 1) := by decide +kernel
theorem dX6_resultBy_1 : decode cX6_resultBy 1 = .ok (.getfield 15, 3) := by decide +kernel
theorem dX6_resultBy_4 : decode cX6_resultBy 4 = .ok (.tableswitch 131 1 15 #[76, 81, 85, 89, 93, 105, 109, 113, 131, 131, 131, 131, 131, 131, 124], 76) := by decide +kernel
theorem dX6_resultBy_80 : decode cX6_resultBy 80 = .ok (.aload_n 0, 1) := by decide +kernel
theorem dX6_resultBy_81 : decode cX6_resultBy 81 = .ok (.getfield 27, 3) := by decide +kernel
theorem dX6_resultBy_84 : decode cX6_resultBy 84 = .ok (.ireturn, 1) := by decide +kernel
theorem dX6_resultBy_85 : decode cX6_resultBy 85 = .ok (.iload_n 1, 1) := by decide +kernel
theorem dX6_resultBy_86 : decode cX6_resultBy 86 = .ok (.iload_n 2, 1) := by decide +kernel
theorem dX6_resultBy_87 : decode cX6_resultBy 87 = .ok (.iadd, 1) := by decide +kernel
theorem dX6_resultBy_88 : decode cX6_resultBy 88 = .ok (.ireturn, 1) := by decide +kernel
theorem dX6_resultBy_89 : decode cX6_resultBy 89 = .ok (.iload_n 1, 1) := by decide +kernel
theorem dX6_resultBy_90 : decode cX6_resultBy 90 = .ok (.iload_n 2, 1) := by decide +kernel
theorem dX6_resultBy_91 : decode cX6_resultBy 91 = .ok (.isub, 1) := by decide +kernel
theorem dX6_resultBy_92 : decode cX6_resultBy 92 = .ok (.ireturn, 1) := by decide +kernel
theorem dX6_resultBy_93 : decode cX6_resultBy 93 = .ok (.iload_n 1, 1) := by decide +kernel
theorem dX6_resultBy_94 : decode cX6_resultBy 94 = .ok (.iload_n 2, 1) := by decide +kernel
theorem dX6_resultBy_95 : decode cX6_resultBy 95 = .ok (.imul, 1) := by decide +kernel
theorem dX6_resultBy_96 : decode cX6_resultBy 96 = .ok (.ireturn, 1) := by decide +kernel
theorem dX6_resultBy_97 : decode cX6_resultBy 97 = .ok (.iload_n 2, 1) := by decide +kernel
theorem dX6_resultBy_98 : decode cX6_resultBy 98 = .ok (.ifCond .ne 7, 3) := by decide +kernel
theorem dX6_resultBy_101 : decode cX6_resultBy 101 = .ok (.iconst 0, 1) := by decide +kernel
theorem dX6_resultBy_102 : decode cX6_resultBy 102 = .ok (.goto 6, 3) := by decide +kernel
theorem dX6_resultBy_105 : decode cX6_resultBy 105 = .ok (.iload_n 1, 1) := by decide +kernel
theorem dX6_resultBy_106 : decode cX6_resultBy 106 = .ok (.iload_n 2, 1) := by decide +kernel
theorem dX6_resultBy_107 : decode cX6_resultBy 107 = .ok (.idiv, 1) := by decide +kernel
theorem dX6_resultBy_108 : decode cX6_resultBy 108 = .ok (.ireturn, 1) := by decide +kernel
theorem dX6_resultBy_109 : decode cX6_resultBy 109 = .ok (.iload_n 1, 1) := by decide +kernel
theorem dX6_resultBy_110 : decode cX6_resultBy 110 = .ok (.iload_n 2, 1) := by decide +kernel
theorem dX6_resultBy_111 : decode cX6_resultBy 111 = .ok (.iand, 1) := by decide +kernel
theorem dX6_resultBy_112 : decode cX6_resultBy 112 = .ok (.ireturn, 1) := by decide +kernel
theorem dX6_resultBy_113 : decode cX6_resultBy 113 = .ok (.iload_n 1, 1) := by decide +kernel
theorem dX6_resultBy_114 : decode cX6_resultBy 114 = .ok (.iload_n 2, 1) := by decide +kernel
theorem dX6_resultBy_115 : decode cX6_resultBy 115 = .ok (.ixor, 1) := by decide +kernel
theorem dX6_resultBy_116 : decode cX6_resultBy 116 = .ok (.ireturn, 1) := by decide +kernel
theorem dX6_resultBy_117 : decode cX6_resultBy 117 = .ok (.iload_n 1, 1) := by decide +kernel
theorem dX6_resultBy_118 : decode cX6_resultBy 118 = .ok (.iload_n 2, 1) := by decide +kernel
theorem dX6_resultBy_119 : decode cX6_resultBy 119 = .ok (.if_icmp .ge 7, 3) := by decide +kernel
theorem dX6_resultBy_122 : decode cX6_resultBy 122 = .ok (.iconst 1, 1) := by decide +kernel
theorem dX6_resultBy_123 : decode cX6_resultBy 123 = .ok (.goto 4, 3) := by decide +kernel
theorem dX6_resultBy_126 : decode cX6_resultBy 126 = .ok (.iconst 0, 1) := by decide +kernel
theorem dX6_resultBy_127 : decode cX6_resultBy 127 = .ok (.ireturn, 1) := by decide +kernel
theorem dX6_resultBy_128 : decode cX6_resultBy 128 = .ok (.aload_n 0, 1) := by decide +kernel
theorem dX6_resultBy_129 : decode cX6_resultBy 129 = .ok (.getfield 9, 3) := by decide +kernel
theorem dX6_resultBy_132 : decode cX6_resultBy 132 = .ok (.iconst 1, 1) := by decide +kernel
theorem dX6_resultBy_133 : decode cX6_resultBy 133 = .ok (.iadd, 1) := by decide +kernel
theorem dX6_resultBy_134 : decode cX6_resultBy 134 = .ok (.ireturn, 1) := by decide +kernel
theorem dX6_resultBy_135 : decode cX6_resultBy 135 = .ok (.iconst 0, 1) := by decide +kernel
theorem dX6_resultBy_136 : decode cX6_resultBy 136 = .ok (.ireturn, 1) := by decide +kernel
theorem dX8_doOne_0 : decode cX8_doOne 0 = .ok (.aload_n 0, 1) := by decide +kernel
theorem dX8_doOne_1 : decode cX8_doOne 1 = .ok (.getfield 18, 3) := by decide +kernel
theorem dX8_doOne_4 : decode cX8_doOne 4 = .ok (.ifCond .lt 14, 3) := by decide +kernel
theorem dX8_doOne_7 : decode cX8_doOne 7 = .ok (.aload_n 0, 1) := by decide +kernel
theorem dX8_doOne_8 : decode cX8_doOne 8 = .ok (.getfield 18, 3) := by decide +kernel
theorem dX8_doOne_11 : decode cX8_doOne 11 = .ok (.aload_n 1, 1) := by decide +kernel
theorem dX8_doOne_12 : decode cX8_doOne 12 = .ok (.invokevirtual 29, 3) := by decide +kernel
theorem dX8_doOne_15 : decode cX8_doOne 15 = .ok (.if_icmp .lt 5, 3) := by decide +kernel
theorem dX8_doOne_18 : decode cX8_doOne 18 = .ok (.iconst (-1), 1) := by decide +kernel
theorem dX8_doOne_19 : decode cX8_doOne 19 = .ok (.ireturn, 1) := by decide +kernel
theorem dX8_doOne_20 : decode cX8_doOne 20 = .ok (.aload_n 1, 1) := by decide +kernel
theorem dX8_doOne_21 : decode cX8_doOne 21 = .ok (.aload_n 0, 1) := by decide +kernel
theorem dX8_doOne_22 : decode cX8_doOne 22 = .ok (.getfield 18, 3) := by decide +kernel
theorem dX8_doOne_25 : decode cX8_doOne 25 = .ok (.invokevirtual 35, 3) := by decide +kernel
theorem dX8_doOne_28 : decode cX8_doOne 28 = .ok (.checkcast 39, 3) := by decide +kernel
theorem dX8_doOne_31 : decode cX8_doOne 31 = .ok (.astore_n 3, 1) := by decide +kernel
theorem dX8_doOne_32 : decode cX8_doOne 32 = .ok (.aload_n 0, 1) := by decide +kernel
theorem dX8_doOne_33 : decode cX8_doOne 33 = .ok (.getfield 9, 3) := by decide +kernel
theorem dX8_doOne_36 : decode cX8_doOne 36 = .ok (.aload_n 3, 1) := by decide +kernel
theorem dX8_doOne_37 : decode cX8_doOne 37 = .ok (.getfield 41, 3) := by decide +kernel
theorem dX8_doOne_40 : decode cX8_doOne 40 = .ok (.iaload, 1) := by decide +kernel
theorem dX8_doOne_41 : decode cX8_doOne 41 = .ok (.istore 4, 2) := by decide +kernel
theorem dX8_doOne_43 : decode cX8_doOne 43 = .ok (.aload_n 0, 1) := by decide +kernel
theorem dX8_doOne_44 : decode cX8_doOne 44 = .ok (.getfield 9, 3) := by decide +kernel
theorem dX8_doOne_47 : decode cX8_doOne 47 = .ok (.aload_n 3, 1) := by decide +kernel
theorem dX8_doOne_48 : decode cX8_doOne 48 = .ok (.getfield 44, 3) := by decide +kernel
theorem dX8_doOne_51 : decode cX8_doOne 51 = .ok (.iaload, 1) := by decide +kernel
theorem dX8_doOne_52 : decode cX8_doOne 52 = .ok (.istore 5, 2) := by decide +kernel
theorem dX8_doOne_54 : decode cX8_doOne 54 = .ok (.aload_n 3, 1) := by decide +kernel
theorem dX8_doOne_55 : decode cX8_doOne 55 = .ok (.iload 4, 2) := by decide +kernel
theorem dX8_doOne_57 : decode cX8_doOne 57 = .ok (.iload 5, 2) := by decide +kernel
theorem dX8_doOne_59 : decode cX8_doOne 59 = .ok (.invokevirtual 47, 3) := by decide +kernel
theorem dX8_doOne_62 : decode cX8_doOne 62 = .ok (.istore 6, 2) := by decide +kernel
theorem dX8_doOne_64 : decode cX8_doOne 64 = .ok (.aload_n 3, 1) := by decide +kernel
theorem dX8_doOne_65 : decode cX8_doOne 65 = .ok (.getfield 51, 3) := by decide +kernel
theorem dX8_doOne_68 : decode cX8_doOne 68 = .ok (.bipush 21, 2) := by decide +kernel
theorem dX8_doOne_70 : decode cX8_doOne 70 = .ok (.if_icmp .ne 13, 3) := by decide +kernel
theorem dX8_doOne_73 : decode cX8_doOne 73 = .ok (.aload_n 0, 1) := by decide +kernel
theorem dX8_doOne_74 : decode cX8_doOne 74 = .ok (.getfield 22, 3) := by decide +kernel
theorem dX8_doOne_77 : decode cX8_doOne 77 = .ok (.ifCond .ne 6, 3) := by decide +kernel
theorem dX8_doOne_80 : decode cX8_doOne 80 = .ok (.iconst 5, 1) := by decide +kernel
theorem dX8_doOne_81 : decode cX8_doOne 81 = .ok (.istore 6, 2) := by decide +kernel
theorem dX8_doOne_83 : decode cX8_doOne 83 = .ok (.iload 6, 2) := by decide +kernel
theorem dX8_doOne_85 : decode cX8_doOne 85 = .ok (.ifCond .eq 11, 3) := by decide +kernel
theorem dX8_doOne_88 : decode cX8_doOne 88 = .ok (.aload_n 0, 1) := by decide +kernel
theorem dX8_doOne_89 : decode cX8_doOne 89 = .ok (.iload_n 2, 1) := by decide +kernel
theorem dX8_doOne_90 : decode cX8_doOne 90 = .ok (.invokevirtual 54, 3) := by decide +kernel
theorem dX8_doOne_93 : decode cX8_doOne 93 = .ok (.iload 6, 2) := by decide +kernel
theorem dX8_doOne_95 : decode cX8_doOne 95 = .ok (.ireturn, 1) := by decide +kernel
theorem dX8_doOne_96 : decode cX8_doOne 96 = .ok (.aload_n 3, 1) := by decide +kernel
theorem dX8_doOne_97 : decode cX8_doOne 97 = .ok (.iload 4, 2) := by decide +kernel
theorem dX8_doOne_99 : decode cX8_doOne 99 = .ok (.iload 5, 2) := by decide +kernel
theorem dX8_doOne_101 : decode cX8_doOne 101 = .ok (.invokevirtual 58, 3) := by decide +kernel
theorem dX8_doOne_104 : decode cX8_doOne 104 = .ok (.istore 7, 2) := by decide +kernel
theorem dX8_doOne_106 : decode cX8_doOne 106 = .ok (.iload 4, 2) := by decide +kernel
theorem dX8_doOne_108 : decode cX8_doOne 108 = .ok (.aload_n 3, 1) := by decide +kernel
theorem dX8_doOne_109 : decode cX8_doOne 109 = .ok (.getfield 61, 3) := by decide +kernel
theorem dX8_doOne_112 : decode cX8_doOne 112 = .ok (.iadd, 1) := by decide +kernel
theorem dX8_doOne_113 : decode cX8_doOne 113 = .ok (.istore 8, 2) := by decide +kernel
theorem dX8_doOne_115 : decode cX8_doOne 115 = .ok (.aload_n 3, 1) := by decide +kernel
theorem dX8_doOne_116 : decode cX8_doOne 116 = .ok (.getfield 51, 3) := by decide +kernel
theorem dX8_doOne_119 : decode cX8_doOne 119 = .ok (.bipush 9, 2) := by decide +kernel
theorem dX8_doOne_121 : decode cX8_doOne 121 = .ok (.if_icmp .ne 30, 3) := by decide +kernel
theorem dX8_doOne_124 : decode cX8_doOne 124 = .ok (.iload 8, 2) := by decide +kernel
theorem dX8_doOne_126 : decode cX8_doOne 126 = .ok (.invokestatic 64, 3) := by decide +kernel
theorem dX8_doOne_129 : decode cX8_doOne 129 = .ok (.ifCond .eq 22, 3) := by decide +kernel
theorem dX8_doOne_132 : decode cX8_doOne 132 = .ok (.aload_n 0, 1) := by decide +kernel
theorem dX8_doOne_133 : decode cX8_doOne 133 = .ok (.getfield 9, 3) := by decide +kernel
theorem dX8_doOne_136 : decode cX8_doOne 136 = .ok (.aload_n 3, 1) := by decide +kernel
theorem dX8_doOne_137 : decode cX8_doOne 137 = .ok (.getfield 68, 3) := by decide +kernel
theorem dX8_doOne_140 : decode cX8_doOne 140 = .ok (.aload_n 0, 1) := by decide +kernel
theorem dX8_doOne_141 : decode cX8_doOne 141 = .ok (.getfield 15, 3) := by decide +kernel
theorem dX8_doOne_144 : decode cX8_doOne 144 = .ok (.iload 8, 2) := by decide +kernel
theorem dX8_doOne_146 : decode cX8_doOne 146 = .ok (.iaload, 1) := by decide +kernel
theorem dX8_doOne_147 : decode cX8_doOne 147 = .ok (.iastore, 1) := by decide +kernel
theorem dX8_doOne_148 : decode cX8_doOne 148 = .ok (.goto 88, 3) := by decide +kernel
theorem dX8_doOne_151 : decode cX8_doOne 151 = .ok (.aload_n 3, 1) := by decide +kernel
theorem dX8_doOne_152 : decode cX8_doOne 152 = .ok (.invokevirtual 71, 3) := by decide +kernel
theorem dX8_doOne_155 : decode cX8_doOne 155 = .ok (.ifCond .eq 34, 3) := by decide +kernel
theorem dX8_doOne_158 : decode cX8_doOne 158 = .ok (.iload 8, 2) := by decide +kernel
theorem dX8_doOne_160 : decode cX8_doOne 160 = .ok (.invokestatic 64, 3) := by decide +kernel
theorem dX8_doOne_163 : decode cX8_doOne 163 = .ok (.ifCond .eq 26, 3) := by decide +kernel
theorem dX8_doOne_166 : decode cX8_doOne 166 = .ok (.aload_n 0, 1) := by decide +kernel
theorem dX8_doOne_167 : decode cX8_doOne 167 = .ok (.getfield 15, 3) := by decide +kernel
theorem dX8_doOne_170 : decode cX8_doOne 170 = .ok (.iload 8, 2) := by decide +kernel
theorem dX8_doOne_172 : decode cX8_doOne 172 = .ok (.aload_n 3, 1) := by decide +kernel
theorem dX8_doOne_173 : decode cX8_doOne 173 = .ok (.aload_n 0, 1) := by decide +kernel
theorem dX8_doOne_174 : decode cX8_doOne 174 = .ok (.getfield 15, 3) := by decide +kernel
theorem dX8_doOne_177 : decode cX8_doOne 177 = .ok (.iload 8, 2) := by decide +kernel
theorem dX8_doOne_179 : decode cX8_doOne 179 = .ok (.iaload, 1) := by decide +kernel
theorem dX8_doOne_180 : decode cX8_doOne 180 = .ok (.iload 5, 2) := by decide +kernel
theorem dX8_doOne_182 : decode cX8_doOne 182 = .ok (.invokevirtual 75, 3) := by decide +kernel
theorem dX8_doOne_185 : decode cX8_doOne 185 = .ok (.iastore, 1) := by decide +kernel
theorem dX8_doOne_186 : decode cX8_doOne 186 = .ok (.goto 50, 3) := by decide +kernel
theorem dX8_doOne_189 : decode cX8_doOne 189 = .ok (.aload_n 3, 1) := by decide +kernel
theorem dX8_doOne_190 : decode cX8_doOne 190 = .ok (.getfield 51, 3) := by decide +kernel
theorem dX8_doOne_193 : decode cX8_doOne 193 = .ok (.bipush 21, 2) := by decide +kernel
theorem dX8_doOne_195 : decode cX8_doOne 195 = .ok (.if_icmp .ne 17, 3) := by decide +kernel
theorem dX8_doOne_198 : decode cX8_doOne 198 = .ok (.aload_n 0, 1) := by decide +kernel
theorem dX8_doOne_199 : decode cX8_doOne 199 = .ok (.getfield 26, 3) := by decide +kernel
theorem dX8_doOne_202 : decode cX8_doOne 202 = .ok (.istore 7, 2) := by decide +kernel
theorem dX8_doOne_204 : decode cX8_doOne 204 = .ok (.aload_n 0, 1) := by decide +kernel
theorem dX8_doOne_205 : decode cX8_doOne 205 = .ok (.iconst 0, 1) := by decide +kernel
theorem dX8_doOne_206 : decode cX8_doOne 206 = .ok (.putfield 22, 3) := by decide +kernel
theorem dX8_doOne_209 : decode cX8_doOne 209 = .ok (.goto 27, 3) := by decide +kernel
theorem dX8_doOne_212 : decode cX8_doOne 212 = .ok (.aload_n 3, 1) := by decide +kernel
theorem dX8_doOne_213 : decode cX8_doOne 213 = .ok (.invokevirtual 78, 3) := by decide +kernel
theorem dX8_doOne_216 : decode cX8_doOne 216 = .ok (.ifCond .eq 20, 3) := by decide +kernel
theorem dX8_doOne_219 : decode cX8_doOne 219 = .ok (.aload_n 0, 1) := by decide +kernel
theorem dX8_doOne_220 : decode cX8_doOne 220 = .ok (.getfield 9, 3) := by decide +kernel
theorem dX8_doOne_223 : decode cX8_doOne 223 = .ok (.aload_n 3, 1) := by decide +kernel
theorem dX8_doOne_224 : decode cX8_doOne 224 = .ok (.getfield 68, 3) := by decide +kernel
theorem dX8_doOne_227 : decode cX8_doOne 227 = .ok (.aload_n 3, 1) := by decide +kernel
theorem dX8_doOne_228 : decode cX8_doOne 228 = .ok (.iload 4, 2) := by decide +kernel
theorem dX8_doOne_230 : decode cX8_doOne 230 = .ok (.iload 5, 2) := by decide +kernel
theorem dX8_doOne_232 : decode cX8_doOne 232 = .ok (.invokevirtual 81, 3) := by decide +kernel
theorem dX8_doOne_235 : decode cX8_doOne 235 = .ok (.iastore, 1) := by decide +kernel
theorem dX8_doOne_236 : decode cX8_doOne 236 = .ok (.aload_n 0, 1) := by decide +kernel
theorem dX8_doOne_237 : decode cX8_doOne 237 = .ok (.iload 7, 2) := by decide +kernel
theorem dX8_doOne_239 : decode cX8_doOne 239 = .ok (.putfield 18, 3) := by decide +kernel
theorem dX8_doOne_242 : decode cX8_doOne 242 = .ok (.iconst 0, 1) := by decide +kernel
theorem dX8_doOne_243 : decode cX8_doOne 243 = .ok (.ireturn, 1) := by decide +kernel
theorem dX2_init_0 : decode cX2_init 0 = .ok (.aload_n 0, 1) := by decide +kernel
theorem dX2_init_1 : decode cX2_init 1 = .ok (.invokespecial 1, 3) := by decide +kernel
theorem dX2_init_4 : decode cX2_init 4 = .ok (.aload_n 0, 1) := by decide +kernel
theorem dX2_init_5 : decode cX2_init 5 = .ok (.iload_n 1, 1) := by decide +kernel
theorem dX2_init_6 : decode cX2_init 6 = .ok (.putfield 7, 3) := by decide +kernel
theorem dX2_init_9 : decode cX2_init 9 = .ok (.aload_n 0, 1) := by decide +kernel
theorem dX2_init_10 : decode cX2_init 10 = .ok (.iload_n 2, 1) := by decide +kernel
theorem dX2_init_11 : decode cX2_init 11 = .ok (.putfield 13, 3) := by decide +kernel
theorem dX2_init_14 : decode cX2_init 14 = .ok (.aload_n 0, 1) := by decide +kernel
theorem dX2_init_15 : decode cX2_init 15 = .ok (.iload_n 3, 1) := by decide +kernel
theorem dX2_init_16 : decode cX2_init 16 = .ok (.putfield 16, 3) := by decide +kernel
theorem dX2_init_19 : decode cX2_init 19 = .ok (.aload_n 0, 1) := by decide +kernel
theorem dX2_init_20 : decode cX2_init 20 = .ok (.iload 4, 2) := by decide +kernel
theorem dX2_init_22 : decode cX2_init 22 = .ok (.putfield 19, 3) := by decide +kernel
theorem dX2_init_25 : decode cX2_init 25 = .ok (.aload_n 0, 1) := by decide +kernel
theorem dX2_init_26 : decode cX2_init 26 = .ok (.aload 5, 2) := by decide +kernel
theorem dX2_init_28 : decode cX2_init 28 = .ok (.putfield 22, 3) := by decide +kernel
theorem dX2_init_31 : decode cX2_init 31 = .ok (.return_, 1) := by decide +kernel
theorem dX0_addEnd_0 : decode cX0_addEnd 0 = .ok (.aload_n 0, 1) := by decide +kernel
theorem dX0_addEnd_1 : decode cX0_addEnd 1 = .ok (.getfield 35, 3) := by decide +kernel
theorem dX0_addEnd_4 : decode cX0_addEnd 4 = .ok (.getfield 315, 3) := by decide +kernel
theorem dX0_addEnd_7 : decode cX0_addEnd 7 = .ok (.istore 4, 2) := by decide +kernel
theorem dX0_addEnd_9 : decode cX0_addEnd 9 = .ok (.bipush 9, 2) := by decide +kernel
theorem dX0_addEnd_11 : decode cX0_addEnd 11 = .ok (.istore 5, 2) := by decide +kernel
theorem dX0_addEnd_13 : decode cX0_addEnd 13 = .ok (.iload_n 1, 1) := by decide +kernel
theorem dX0_addEnd_14 : decode cX0_addEnd 14 = .ok (.bipush 9, 2) := by decide +kernel
theorem dX0_addEnd_16 : decode cX0_addEnd 16 = .ok (.if_icmp .ne 20, 3) := by decide +kernel
theorem dX0_addEnd_19 : decode cX0_addEnd 19 = .ok (.aload_n 0, 1) := by decide +kernel
theorem dX0_addEnd_20 : decode cX0_addEnd 20 = .ok (.getfield 35, 3) := by decide +kernel
theorem dX0_addEnd_23 : decode cX0_addEnd 23 = .ok (.aload_n 0, 1) := by decide +kernel
theorem dX0_addEnd_24 : decode cX0_addEnd 24 = .ok (.getfield 21, 3) := by decide +kernel
theorem dX0_addEnd_27 : decode cX0_addEnd 27 = .ok (.getfield 252, 3) := by decide +kernel
theorem dX0_addEnd_30 : decode cX0_addEnd 30 = .ok (.invokevirtual 316, 3) := by decide +kernel
theorem dX0_addEnd_33 : decode cX0_addEnd 33 = .ok (.goto 23, 3) := by decide +kernel
theorem dX0_addEnd_36 : decode cX0_addEnd 36 = .ok (.aload_n 0, 1) := by decide +kernel
theorem dX0_addEnd_37 : decode cX0_addEnd 37 = .ok (.getfield 35, 3) := by decide +kernel
theorem dX0_addEnd_40 : decode cX0_addEnd 40 = .ok (.aload_n 0, 1) := by decide +kernel
theorem dX0_addEnd_41 : decode cX0_addEnd 41 = .ok (.getfield 12, 3) := by decide +kernel
theorem dX0_addEnd_44 : decode cX0_addEnd 44 = .ok (.aload_n 0, 1) := by decide +kernel
theorem dX0_addEnd_45 : decode cX0_addEnd 45 = .ok (.getfield 21, 3) := by decide +kernel
theorem dX0_addEnd_48 : decode cX0_addEnd 48 = .ok (.getfield 295, 3) := by decide +kernel
theorem dX0_addEnd_51 : decode cX0_addEnd 51 = .ok (.invokevirtual 319, 3) := by decide +kernel
theorem dX0_addEnd_54 : decode cX0_addEnd 54 = .ok (.istore 5, 2) := by decide +kernel
theorem dX0_addEnd_56 : decode cX0_addEnd 56 = .ok (.aload_n 0, 1) := by decide +kernel
theorem dX0_addEnd_57 : decode cX0_addEnd 57 = .ok (.getfield 63, 3) := by decide +kernel
theorem dX0_addEnd_60 : decode cX0_addEnd 60 = .ok (.new 323, 3) := by decide +kernel
theorem dX0_addEnd_63 : decode cX0_addEnd 63 = .ok (.dup, 1) := by decide +kernel
theorem dX0_addEnd_64 : decode cX0_addEnd 64 = .ok (.iload_n 1, 1) := by decide +kernel
theorem dX0_addEnd_65 : decode cX0_addEnd 65 = .ok (.iload_n 2, 1) := by decide +kernel
theorem dX0_addEnd_66 : decode cX0_addEnd 66 = .ok (.iload 5, 2) := by decide +kernel
theorem dX0_addEnd_68 : decode cX0_addEnd 68 = .ok (.iload 4, 2) := by decide +kernel
theorem dX0_addEnd_70 : decode cX0_addEnd 70 = .ok (.aload_n 3, 1) := by decide +kernel
theorem dX0_addEnd_71 : decode cX0_addEnd 71 = .ok (.invokespecial 325, 3) := by decide +kernel
theorem dX0_addEnd_74 : decode cX0_addEnd 74 = .ok (.invokevirtual 328, 3) := by decide +kernel
theorem dX0_addEnd_77 : decode cX0_addEnd 77 = .ok (.pop, 1) := by decide +kernel
theorem dX0_addEnd_78 : decode cX0_addEnd 78 = .ok (.return_, 1) := by decide +kernel
theorem dX10_indexOfReason_0 : decode cX10_indexOfReason 0 = .ok (.iconst 0, 1) := by decide +kernel
theorem dX10_indexOfReason_1 : decode cX10_indexOfReason 1 = .ok (.istore_n 1, 1) := by decide +kernel
theorem dX10_indexOfReason_2 : decode cX10_indexOfReason 2 = .ok (.iload_n 1, 1) := by decide +kernel
theorem dX10_indexOfReason_3 : decode cX10_indexOfReason 3 = .ok (.ldc_w 286, 3) := by decide +kernel
theorem dX10_indexOfReason_6 : decode cX10_indexOfReason 6 = .ok (.invokevirtual 288, 3) := by decide +kernel
theorem dX10_indexOfReason_9 : decode cX10_indexOfReason 9 = .ok (.if_icmp .ge 22, 3) := by decide +kernel
theorem dX10_indexOfReason_12 : decode cX10_indexOfReason 12 = .ok (.ldc_w 286, 3) := by decide +kernel
theorem dX10_indexOfReason_15 : decode cX10_indexOfReason 15 = .ok (.iload_n 1, 1) := by decide +kernel
theorem dX10_indexOfReason_16 : decode cX10_indexOfReason 16 = .ok (.invokevirtual 293, 3) := by decide +kernel
theorem dX10_indexOfReason_19 : decode cX10_indexOfReason 19 = .ok (.iload_n 0, 1) := by decide +kernel
theorem dX10_indexOfReason_20 : decode cX10_indexOfReason 20 = .ok (.if_icmp .ne 5, 3) := by decide +kernel
theorem dX10_indexOfReason_23 : decode cX10_indexOfReason 23 = .ok (.iload_n 1, 1) := by decide +kernel
theorem dX10_indexOfReason_24 : decode cX10_indexOfReason 24 = .ok (.ireturn, 1) := by decide +kernel
theorem dX10_indexOfReason_25 : decode cX10_indexOfReason 25 = .ok (.iinc 1 1, 3) := by decide +kernel
theorem dX10_indexOfReason_28 : decode cX10_indexOfReason 28 = .ok (.goto (-26), 3) := by decide +kernel
theorem dX10_indexOfReason_31 : decode cX10_indexOfReason 31 = .ok (.iconst (-1), 1) := by decide +kernel
theorem dX10_indexOfReason_32 : decode cX10_indexOfReason 32 = .ok (.ireturn, 1) := by decide +kernel
theorem dX1_lose_0 : decode cX1_lose 0 = .ok (.iload_n 1, 1) := by decide +kernel
theorem dX1_lose_1 : decode cX1_lose 1 = .ok (.invokestatic 42, 3) := by decide +kernel
theorem dX1_lose_4 : decode cX1_lose 4 = .ok (.istore_n 2, 1) := by decide +kernel
theorem dX1_lose_5 : decode cX1_lose 5 = .ok (.iload_n 2, 1) := by decide +kernel
theorem dX1_lose_6 : decode cX1_lose 6 = .ok (.iconst (-1), 1) := by decide +kernel
theorem dX1_lose_7 : decode cX1_lose 7 = .ok (.if_icmp .eq 13, 3) := by decide +kernel
theorem dX1_lose_10 : decode cX1_lose 10 = .ok (.aload_n 0, 1) := by decide +kernel
theorem dX1_lose_11 : decode cX1_lose 11 = .ok (.getfield 17, 3) := by decide +kernel
theorem dX1_lose_14 : decode cX1_lose 14 = .ok (.iload_n 2, 1) := by decide +kernel
theorem dX1_lose_15 : decode cX1_lose 15 = .ok (.dup2, 1) := by decide +kernel
theorem dX1_lose_16 : decode cX1_lose 16 = .ok (.iaload, 1) := by decide +kernel
theorem dX1_lose_17 : decode cX1_lose 17 = .ok (.iconst 1, 1) := by decide +kernel
theorem dX1_lose_18 : decode cX1_lose 18 = .ok (.iadd, 1) := by decide +kernel
theorem dX1_lose_19 : decode cX1_lose 19 = .ok (.iastore, 1) := by decide +kernel
theorem dX1_lose_20 : decode cX1_lose 20 = .ok (.return_, 1) := by decide +kernel
theorem dX0_takeInterrupt_0 : decode cX0_takeInterrupt 0 = .ok (.aload_n 0, 1) := by decide +kernel
theorem dX0_takeInterrupt_1 : decode cX0_takeInterrupt 1 = .ok (.bipush 9, 2) := by decide +kernel
theorem dX0_takeInterrupt_3 : decode cX0_takeInterrupt 3 = .ok (.aload_n 0, 1) := by decide +kernel
theorem dX0_takeInterrupt_4 : decode cX0_takeInterrupt 4 = .ok (.getfield 94, 3) := by decide +kernel
theorem dX0_takeInterrupt_7 : decode cX0_takeInterrupt 7 = .ok (.invokestatic 291, 3) := by decide +kernel
theorem dX0_takeInterrupt_10 : decode cX0_takeInterrupt 10 = .ok (.invokevirtual 264, 3) := by decide +kernel
theorem dX0_takeInterrupt_13 : decode cX0_takeInterrupt 13 = .ok (.aload_n 0, 1) := by decide +kernel
theorem dX0_takeInterrupt_14 : decode cX0_takeInterrupt 14 = .ok (.iconst 0, 1) := by decide +kernel
theorem dX0_takeInterrupt_15 : decode cX0_takeInterrupt 15 = .ok (.putfield 85, 3) := by decide +kernel
theorem dX0_takeInterrupt_18 : decode cX0_takeInterrupt 18 = .ok (.aload_n 0, 1) := by decide +kernel
theorem dX0_takeInterrupt_19 : decode cX0_takeInterrupt 19 = .ok (.iconst 1, 1) := by decide +kernel
theorem dX0_takeInterrupt_20 : decode cX0_takeInterrupt 20 = .ok (.putfield 88, 3) := by decide +kernel
theorem dX0_takeInterrupt_23 : decode cX0_takeInterrupt 23 = .ok (.aload_n 0, 1) := by decide +kernel
theorem dX0_takeInterrupt_24 : decode cX0_takeInterrupt 24 = .ok (.aload_n 0, 1) := by decide +kernel
theorem dX0_takeInterrupt_25 : decode cX0_takeInterrupt 25 = .ok (.getfield 94, 3) := by decide +kernel
theorem dX0_takeInterrupt_28 : decode cX0_takeInterrupt 28 = .ok (.putfield 91, 3) := by decide +kernel
theorem dX0_takeInterrupt_31 : decode cX0_takeInterrupt 31 = .ok (.aload_n 0, 1) := by decide +kernel
theorem dX0_takeInterrupt_32 : decode cX0_takeInterrupt 32 = .ok (.aload_n 0, 1) := by decide +kernel
theorem dX0_takeInterrupt_33 : decode cX0_takeInterrupt 33 = .ok (.getfield 21, 3) := by decide +kernel
theorem dX0_takeInterrupt_36 : decode cX0_takeInterrupt 36 = .ok (.getfield 252, 3) := by decide +kernel
theorem dX0_takeInterrupt_39 : decode cX0_takeInterrupt 39 = .ok (.putfield 94, 3) := by decide +kernel
theorem dX0_takeInterrupt_42 : decode cX0_takeInterrupt 42 = .ok (.aload_n 0, 1) := by decide +kernel
theorem dX0_takeInterrupt_43 : decode cX0_takeInterrupt 43 = .ok (.iconst 0, 1) := by decide +kernel
theorem dX0_takeInterrupt_44 : decode cX0_takeInterrupt 44 = .ok (.invokevirtual 204, 3) := by decide +kernel
theorem dX0_takeInterrupt_47 : decode cX0_takeInterrupt 47 = .ok (.aload_n 0, 1) := by decide +kernel
theorem dX0_takeInterrupt_48 : decode cX0_takeInterrupt 48 = .ok (.getfield 56, 3) := by decide +kernel
theorem dX0_takeInterrupt_51 : decode cX0_takeInterrupt 51 = .ok (.aload_n 0, 1) := by decide +kernel
theorem dX0_takeInterrupt_52 : decode cX0_takeInterrupt 52 = .ok (.getfield 94, 3) := by decide +kernel
theorem dX0_takeInterrupt_55 : decode cX0_takeInterrupt 55 = .ok (.iconst 0, 1) := by decide +kernel
theorem dX0_takeInterrupt_56 : decode cX0_takeInterrupt 56 = .ok (.newarray .int, 2) := by decide +kernel
theorem dX0_takeInterrupt_58 : decode cX0_takeInterrupt 58 = .ok (.invokevirtual 210, 3) := by decide +kernel
theorem dX0_takeInterrupt_61 : decode cX0_takeInterrupt 61 = .ok (.aload_n 0, 1) := by decide +kernel
theorem dX0_takeInterrupt_62 : decode cX0_takeInterrupt 62 = .ok (.getfield 28, 3) := by decide +kernel
theorem dX0_takeInterrupt_65 : decode cX0_takeInterrupt 65 = .ok (.bipush 105, 2) := by decide +kernel
theorem dX0_takeInterrupt_67 : decode cX0_takeInterrupt 67 = .ok (.invokevirtual 271, 3) := by decide +kernel
theorem dX0_takeInterrupt_70 : decode cX0_takeInterrupt 70 = .ok (.return_, 1) := by decide +kernel
theorem dJx4a65c_isEmpty_aae02_0 : decode cJx4a65c_isEmpty_aae02 0 = .ok (.aload_n 0, 1) := by decide +kernel
theorem dJx4a65c_isEmpty_aae02_1 : decode cJx4a65c_isEmpty_aae02 1 = .ok (.getfield 48, 3) := by decide +kernel
theorem dJx4a65c_isEmpty_aae02_4 : decode cJx4a65c_isEmpty_aae02 4 = .ok (.ifCond .ne 7, 3) := by decide +kernel
theorem dJx4a65c_isEmpty_aae02_7 : decode cJx4a65c_isEmpty_aae02 7 = .ok (.iconst 1, 1) := by decide +kernel
theorem dJx4a65c_isEmpty_aae02_8 : decode cJx4a65c_isEmpty_aae02 8 = .ok (.goto 4, 3) := by decide +kernel
theorem dJx4a65c_isEmpty_aae02_11 : decode cJx4a65c_isEmpty_aae02 11 = .ok (.iconst 0, 1) := by decide +kernel
theorem dJx4a65c_isEmpty_aae02_12 : decode cJx4a65c_isEmpty_aae02 12 = .ok (.ireturn, 1) := by decide +kernel
theorem dX5_hasValue_0 : decode cX5_hasValue 0 = .ok (.iload_n 1, 1) := by decide +kernel
theorem dX5_hasValue_1 : decode cX5_hasValue 1 = .ok (.ifCond .lt 22, 3) := by decide +kernel
theorem dX5_hasValue_4 : decode cX5_hasValue 4 = .ok (.iload_n 1, 1) := by decide +kernel
theorem dX5_hasValue_5 : decode cX5_hasValue 5 = .ok (.bipush 24, 2) := by decide +kernel
theorem dX5_hasValue_7 : decode cX5_hasValue 7 = .ok (.if_icmp .ge 16, 3) := by decide +kernel
theorem dX5_hasValue_10 : decode cX5_hasValue 10 = .ok (.aload_n 0, 1) := by decide +kernel
theorem dX5_hasValue_11 : decode cX5_hasValue 11 = .ok (.getfield 21, 3) := by decide +kernel
theorem dX5_hasValue_14 : decode cX5_hasValue 14 = .ok (.iload_n 1, 1) := by decide +kernel
theorem dX5_hasValue_15 : decode cX5_hasValue 15 = .ok (.baload, 1) := by decide +kernel
theorem dX5_hasValue_16 : decode cX5_hasValue 16 = .ok (.ifCond .eq 7, 3) := by decide +kernel
theorem dX5_hasValue_19 : decode cX5_hasValue 19 = .ok (.iconst 1, 1) := by decide +kernel
theorem dX5_hasValue_20 : decode cX5_hasValue 20 = .ok (.goto 4, 3) := by decide +kernel
theorem dX5_hasValue_23 : decode cX5_hasValue 23 = .ok (.iconst 0, 1) := by decide +kernel
theorem dX5_hasValue_24 : decode cX5_hasValue 24 = .ok (.ireturn, 1) := by decide +kernel
theorem dX0_canLeave_0 : decode cX0_canLeave 0 = .ok (.aload_n 0, 1) := by decide +kernel
theorem dX0_canLeave_1 : decode cX0_canLeave 1 = .ok (.getfield 81, 3) := by decide +kernel
theorem dX0_canLeave_4 : decode cX0_canLeave 4 = .ok (.ifCond .ne 13, 3) := by decide +kernel
theorem dX0_canLeave_7 : decode cX0_canLeave 7 = .ok (.aload_n 0, 1) := by decide +kernel
theorem dX0_canLeave_8 : decode cX0_canLeave 8 = .ok (.getfield 60, 3) := by decide +kernel
theorem dX0_canLeave_11 : decode cX0_canLeave 11 = .ok (.invokevirtual 282, 3) := by decide +kernel
theorem dX0_canLeave_14 : decode cX0_canLeave 14 = .ok (.ifCond .eq 5, 3) := by decide +kernel
theorem dX0_canLeave_17 : decode cX0_canLeave 17 = .ok (.iconst 0, 1) := by decide +kernel
theorem dX0_canLeave_18 : decode cX0_canLeave 18 = .ok (.ireturn, 1) := by decide +kernel
theorem dX0_canLeave_19 : decode cX0_canLeave 19 = .ok (.aload_n 0, 1) := by decide +kernel
theorem dX0_canLeave_20 : decode cX0_canLeave 20 = .ok (.getfield 60, 3) := by decide +kernel
theorem dX0_canLeave_23 : decode cX0_canLeave 23 = .ok (.iconst 0, 1) := by decide +kernel
theorem dX0_canLeave_24 : decode cX0_canLeave 24 = .ok (.invokevirtual 127, 3) := by decide +kernel
theorem dX0_canLeave_27 : decode cX0_canLeave 27 = .ok (.checkcast 131, 3) := by decide +kernel
theorem dX0_canLeave_30 : decode cX0_canLeave 30 = .ok (.astore_n 1, 1) := by decide +kernel
theorem dX0_canLeave_31 : decode cX0_canLeave 31 = .ok (.aload_n 1, 1) := by decide +kernel
theorem dX0_canLeave_32 : decode cX0_canLeave 32 = .ok (.getfield 133, 3) := by decide +kernel
theorem dX0_canLeave_35 : decode cX0_canLeave 35 = .ok (.bipush 101, 2) := by decide +kernel
theorem dX0_canLeave_37 : decode cX0_canLeave 37 = .ok (.if_icmp .eq 5, 3) := by decide +kernel
theorem dX0_canLeave_40 : decode cX0_canLeave 40 = .ok (.iconst 0, 1) := by decide +kernel
theorem dX0_canLeave_41 : decode cX0_canLeave 41 = .ok (.ireturn, 1) := by decide +kernel
theorem dX0_canLeave_42 : decode cX0_canLeave 42 = .ok (.aload_n 1, 1) := by decide +kernel
theorem dX0_canLeave_43 : decode cX0_canLeave 43 = .ok (.getfield 161, 3) := by decide +kernel
theorem dX0_canLeave_46 : decode cX0_canLeave 46 = .ok (.invokevirtual 214, 3) := by decide +kernel
theorem dX0_canLeave_49 : decode cX0_canLeave 49 = .ok (.ifCond .eq 24, 3) := by decide +kernel
theorem dX0_canLeave_52 : decode cX0_canLeave 52 = .ok (.aload_n 1, 1) := by decide +kernel
theorem dX0_canLeave_53 : decode cX0_canLeave 53 = .ok (.getfield 192, 3) := by decide +kernel
theorem dX0_canLeave_56 : decode cX0_canLeave 56 = .ok (.ifCond .ne 17, 3) := by decide +kernel
theorem dX0_canLeave_59 : decode cX0_canLeave 59 = .ok (.aload_n 0, 1) := by decide +kernel
theorem dX0_canLeave_60 : decode cX0_canLeave 60 = .ok (.getfield 42, 3) := by decide +kernel
theorem dX0_canLeave_63 : decode cX0_canLeave 63 = .ok (.aload_n 1, 1) := by decide +kernel
theorem dX0_canLeave_64 : decode cX0_canLeave 64 = .ok (.getfield 285, 3) := by decide +kernel
theorem dX0_canLeave_67 : decode cX0_canLeave 67 = .ok (.invokevirtual 288, 3) := by decide +kernel
theorem dX0_canLeave_70 : decode cX0_canLeave 70 = .ok (.ifCond .eq 7, 3) := by decide +kernel
theorem dX0_canLeave_73 : decode cX0_canLeave 73 = .ok (.iconst 1, 1) := by decide +kernel
theorem dX0_canLeave_74 : decode cX0_canLeave 74 = .ok (.goto 4, 3) := by decide +kernel
theorem dX0_canLeave_77 : decode cX0_canLeave 77 = .ok (.iconst 0, 1) := by decide +kernel
theorem dX0_canLeave_78 : decode cX0_canLeave 78 = .ok (.ireturn, 1) := by decide +kernel
theorem dX0_takeTrap_0 : decode cX0_takeTrap 0 = .ok (.aload_n 0, 1) := by decide +kernel
theorem dX0_takeTrap_1 : decode cX0_takeTrap 1 = .ok (.iconst 0, 1) := by decide +kernel
theorem dX0_takeTrap_2 : decode cX0_takeTrap 2 = .ok (.invokevirtual 204, 3) := by decide +kernel
theorem dX0_takeTrap_5 : decode cX0_takeTrap 5 = .ok (.aload_n 0, 1) := by decide +kernel
theorem dX0_takeTrap_6 : decode cX0_takeTrap 6 = .ok (.getfield 88, 3) := by decide +kernel
theorem dX0_takeTrap_9 : decode cX0_takeTrap 9 = .ok (.ifCond .ne 14, 3) := by decide +kernel
theorem dX0_takeTrap_12 : decode cX0_takeTrap 12 = .ok (.aload_n 0, 1) := by decide +kernel
theorem dX0_takeTrap_13 : decode cX0_takeTrap 13 = .ok (.getfield 21, 3) := by decide +kernel
theorem dX0_takeTrap_16 : decode cX0_takeTrap 16 = .ok (.getfield 295, 3) := by decide +kernel
theorem dX0_takeTrap_19 : decode cX0_takeTrap 19 = .ok (.iconst (-1), 1) := by decide +kernel
theorem dX0_takeTrap_20 : decode cX0_takeTrap 20 = .ok (.if_icmp .ne 11, 3) := by decide +kernel
theorem dX0_takeTrap_23 : decode cX0_takeTrap 23 = .ok (.aload_n 0, 1) := by decide +kernel
theorem dX0_takeTrap_24 : decode cX0_takeTrap 24 = .ok (.iconst 1, 1) := by decide +kernel
theorem dX0_takeTrap_25 : decode cX0_takeTrap 25 = .ok (.putfield 81, 3) := by decide +kernel
theorem dX0_takeTrap_28 : decode cX0_takeTrap 28 = .ok (.goto 32, 3) := by decide +kernel
theorem dX0_takeTrap_31 : decode cX0_takeTrap 31 = .ok (.aload_n 0, 1) := by decide +kernel
theorem dX0_takeTrap_32 : decode cX0_takeTrap 32 = .ok (.aload_n 1, 1) := by decide +kernel
theorem dX0_takeTrap_33 : decode cX0_takeTrap 33 = .ok (.getfield 161, 3) := by decide +kernel
theorem dX0_takeTrap_36 : decode cX0_takeTrap 36 = .ok (.getfield 223, 3) := by decide +kernel
theorem dX0_takeTrap_39 : decode cX0_takeTrap 39 = .ok (.iconst 1, 1) := by decide +kernel
theorem dX0_takeTrap_40 : decode cX0_takeTrap 40 = .ok (.iadd, 1) := by decide +kernel
theorem dX0_takeTrap_41 : decode cX0_takeTrap 41 = .ok (.putfield 91, 3) := by decide +kernel
theorem dX0_takeTrap_44 : decode cX0_takeTrap 44 = .ok (.aload_n 0, 1) := by decide +kernel
theorem dX0_takeTrap_45 : decode cX0_takeTrap 45 = .ok (.iconst 1, 1) := by decide +kernel
theorem dX0_takeTrap_46 : decode cX0_takeTrap 46 = .ok (.putfield 88, 3) := by decide +kernel
theorem dX0_takeTrap_49 : decode cX0_takeTrap 49 = .ok (.aload_n 0, 1) := by decide +kernel
theorem dX0_takeTrap_50 : decode cX0_takeTrap 50 = .ok (.aload_n 0, 1) := by decide +kernel
theorem dX0_takeTrap_51 : decode cX0_takeTrap 51 = .ok (.getfield 21, 3) := by decide +kernel
theorem dX0_takeTrap_54 : decode cX0_takeTrap 54 = .ok (.getfield 295, 3) := by decide +kernel
theorem dX0_takeTrap_57 : decode cX0_takeTrap 57 = .ok (.putfield 94, 3) := by decide +kernel
theorem dX0_takeTrap_60 : decode cX0_takeTrap 60 = .ok (.aload_n 0, 1) := by decide +kernel
theorem dX0_takeTrap_61 : decode cX0_takeTrap 61 = .ok (.getfield 56, 3) := by decide +kernel
theorem dX0_takeTrap_64 : decode cX0_takeTrap 64 = .ok (.aload_n 0, 1) := by decide +kernel
theorem dX0_takeTrap_65 : decode cX0_takeTrap 65 = .ok (.getfield 94, 3) := by decide +kernel
theorem dX0_takeTrap_68 : decode cX0_takeTrap 68 = .ok (.iconst 0, 1) := by decide +kernel
theorem dX0_takeTrap_69 : decode cX0_takeTrap 69 = .ok (.newarray .int, 2) := by decide +kernel
theorem dX0_takeTrap_71 : decode cX0_takeTrap 71 = .ok (.invokevirtual 210, 3) := by decide +kernel
theorem dX0_takeTrap_74 : decode cX0_takeTrap 74 = .ok (.aload_n 0, 1) := by decide +kernel
theorem dX0_takeTrap_75 : decode cX0_takeTrap 75 = .ok (.getfield 56, 3) := by decide +kernel
theorem dX0_takeTrap_78 : decode cX0_takeTrap 78 = .ok (.aload_n 0, 1) := by decide +kernel
theorem dX0_takeTrap_79 : decode cX0_takeTrap 79 = .ok (.getfield 81, 3) := by decide +kernel
theorem dX0_takeTrap_82 : decode cX0_takeTrap 82 = .ok (.putfield 298, 3) := by decide +kernel
theorem dX0_takeTrap_85 : decode cX0_takeTrap 85 = .ok (.return_, 1) := by decide +kernel
theorem dX5_settle_0 : decode cX5_settle 0 = .ok (.aload_n 1, 1) := by decide +kernel
theorem dX5_settle_1 : decode cX5_settle 1 = .ok (.getfield 76, 3) := by decide +kernel
theorem dX5_settle_4 : decode cX5_settle 4 = .ok (.iconst (-1), 1) := by decide +kernel
theorem dX5_settle_5 : decode cX5_settle 5 = .ok (.if_icmp .eq 27, 3) := by decide +kernel
theorem dX5_settle_8 : decode cX5_settle 8 = .ok (.aload_n 0, 1) := by decide +kernel
theorem dX5_settle_9 : decode cX5_settle 9 = .ok (.getfield 15, 3) := by decide +kernel
theorem dX5_settle_12 : decode cX5_settle 12 = .ok (.aload_n 1, 1) := by decide +kernel
theorem dX5_settle_13 : decode cX5_settle 13 = .ok (.getfield 42, 3) := by decide +kernel
theorem dX5_settle_16 : decode cX5_settle 16 = .ok (.getfield 70, 3) := by decide +kernel
theorem dX5_settle_19 : decode cX5_settle 19 = .ok (.aload_n 1, 1) := by decide +kernel
theorem dX5_settle_20 : decode cX5_settle 20 = .ok (.getfield 76, 3) := by decide +kernel
theorem dX5_settle_23 : decode cX5_settle 23 = .ok (.iastore, 1) := by decide +kernel
theorem dX5_settle_24 : decode cX5_settle 24 = .ok (.aload_n 0, 1) := by decide +kernel
theorem dX5_settle_25 : decode cX5_settle 25 = .ok (.aload_n 1, 1) := by decide +kernel
theorem dX5_settle_26 : decode cX5_settle 26 = .ok (.getfield 73, 3) := by decide +kernel
theorem dX5_settle_29 : decode cX5_settle 29 = .ok (.invokevirtual 39, 3) := by decide +kernel
theorem dX5_settle_32 : decode cX5_settle 32 = .ok (.return_, 1) := by decide +kernel
theorem dX4_learn_0 : decode cX4_learn 0 = .ok (.aload_n 1, 1) := by decide +kernel
theorem dX4_learn_1 : decode cX4_learn 1 = .ok (.getfield 93, 3) := by decide +kernel
theorem dX4_learn_4 : decode cX4_learn 4 = .ok (.invokevirtual 97, 3) := by decide +kernel
theorem dX4_learn_7 : decode cX4_learn 7 = .ok (.ifCond .eq 59, 3) := by decide +kernel
theorem dX4_learn_10 : decode cX4_learn 10 = .ok (.aload_n 1, 1) := by decide +kernel
theorem dX4_learn_11 : decode cX4_learn 11 = .ok (.getfield 93, 3) := by decide +kernel
theorem dX4_learn_14 : decode cX4_learn 14 = .ok (.getfield 69, 3) := by decide +kernel
theorem dX4_learn_17 : decode cX4_learn 17 = .ok (.bipush 16, 2) := by decide +kernel
theorem dX4_learn_19 : decode cX4_learn 19 = .ok (.invokestatic 73, 3) := by decide +kernel
theorem dX4_learn_22 : decode cX4_learn 22 = .ok (.istore_n 2, 1) := by decide +kernel
theorem dX4_learn_23 : decode cX4_learn 23 = .ok (.aload_n 0, 1) := by decide +kernel
theorem dX4_learn_24 : decode cX4_learn 24 = .ok (.getfield 18, 3) := by decide +kernel
theorem dX4_learn_27 : decode cX4_learn 27 = .ok (.iload_n 2, 1) := by decide +kernel
theorem dX4_learn_28 : decode cX4_learn 28 = .ok (.aload_n 1, 1) := by decide +kernel
theorem dX4_learn_29 : decode cX4_learn 29 = .ok (.getfield 100, 3) := by decide +kernel
theorem dX4_learn_32 : decode cX4_learn 32 = .ok (.ifCond .eq 18, 3) := by decide +kernel
theorem dX4_learn_35 : decode cX4_learn 35 = .ok (.iconst 3, 1) := by decide +kernel
theorem dX4_learn_36 : decode cX4_learn 36 = .ok (.aload_n 0, 1) := by decide +kernel
theorem dX4_learn_37 : decode cX4_learn 37 = .ok (.getfield 18, 3) := by decide +kernel
theorem dX4_learn_40 : decode cX4_learn 40 = .ok (.iload_n 2, 1) := by decide +kernel
theorem dX4_learn_41 : decode cX4_learn 41 = .ok (.iaload, 1) := by decide +kernel
theorem dX4_learn_42 : decode cX4_learn 42 = .ok (.iconst 1, 1) := by decide +kernel
theorem dX4_learn_43 : decode cX4_learn 43 = .ok (.iadd, 1) := by decide +kernel
theorem dX4_learn_44 : decode cX4_learn 44 = .ok (.invokestatic 103, 3) := by decide +kernel
theorem dX4_learn_47 : decode cX4_learn 47 = .ok (.goto 15, 3) := by decide +kernel
theorem dX4_learn_50 : decode cX4_learn 50 = .ok (.iconst 0, 1) := by decide +kernel
theorem dX4_learn_51 : decode cX4_learn 51 = .ok (.aload_n 0, 1) := by decide +kernel
theorem dX4_learn_52 : decode cX4_learn 52 = .ok (.getfield 18, 3) := by decide +kernel
theorem dX4_learn_55 : decode cX4_learn 55 = .ok (.iload_n 2, 1) := by decide +kernel
theorem dX4_learn_56 : decode cX4_learn 56 = .ok (.iaload, 1) := by decide +kernel
theorem dX4_learn_57 : decode cX4_learn 57 = .ok (.iconst 1, 1) := by decide +kernel
theorem dX4_learn_58 : decode cX4_learn 58 = .ok (.isub, 1) := by decide +kernel
theorem dX4_learn_59 : decode cX4_learn 59 = .ok (.invokestatic 106, 3) := by decide +kernel
theorem dX4_learn_62 : decode cX4_learn 62 = .ok (.iastore, 1) := by decide +kernel
theorem dX4_learn_63 : decode cX4_learn 63 = .ok (.goto 36, 3) := by decide +kernel
theorem dX4_learn_66 : decode cX4_learn 66 = .ok (.aload_n 1, 1) := by decide +kernel
theorem dX4_learn_67 : decode cX4_learn 67 = .ok (.getfield 93, 3) := by decide +kernel
theorem dX4_learn_70 : decode cX4_learn 70 = .ok (.getfield 70, 3) := by decide +kernel
theorem dX4_learn_73 : decode cX4_learn 73 = .ok (.bipush 17, 2) := by decide +kernel
theorem dX4_learn_75 : decode cX4_learn 75 = .ok (.if_icmp .ne 24, 3) := by decide +kernel
theorem dX4_learn_78 : decode cX4_learn 78 = .ok (.aload_n 0, 1) := by decide +kernel
theorem dX4_learn_79 : decode cX4_learn 79 = .ok (.getfield 22, 3) := by decide +kernel
theorem dX4_learn_82 : decode cX4_learn 82 = .ok (.aload_n 1, 1) := by decide +kernel
theorem dX4_learn_83 : decode cX4_learn 83 = .ok (.getfield 93, 3) := by decide +kernel
theorem dX4_learn_86 : decode cX4_learn 86 = .ok (.getfield 69, 3) := by decide +kernel
theorem dX4_learn_89 : decode cX4_learn 89 = .ok (.bipush 8, 2) := by decide +kernel
theorem dX4_learn_91 : decode cX4_learn 91 = .ok (.invokestatic 73, 3) := by decide +kernel
theorem dX4_learn_94 : decode cX4_learn 94 = .ok (.aload_n 1, 1) := by decide +kernel
theorem dX4_learn_95 : decode cX4_learn 95 = .ok (.getfield 109, 3) := by decide +kernel
theorem dX4_learn_98 : decode cX4_learn 98 = .ok (.iastore, 1) := by decide +kernel
theorem dX4_learn_99 : decode cX4_learn 99 = .ok (.return_, 1) := by decide +kernel
def mX8_goToTraps : MD := (cX8_goToTraps, RX8, yX8_goToTraps, 2, none, 0, 0)
theorem mf_X8_goToTraps : MF mX8_goToTraps 1 := MF.of 867 47 (by decide +kernel) (by decide +kernel) (by decide +kernel) (by decide +kernel) (by decide +kernel) rfl
def mX6_isSo : MD := (cX6_isSo, RX6, yX6_isSo, 3, (some .boolean), 0, 0)
theorem mf_X6_isSo : MF mX6_isSo 2 := MF.of 876 62 (by decide +kernel) (by decide +kernel) (by decide +kernel) (by decide +kernel) (by decide +kernel) rfl
def mX6_goesBy : MD := (cX6_goesBy, RX6, yX6_goesBy, 3, (some .int), 1, 22)
theorem mf_X6_goesBy : MF mX6_goesBy 2 := MF.of 871 62 (by decide +kernel) (by decide +kernel) (by decide +kernel) (by decide +kernel) (by decide +kernel) rfl
def mX6_changedWord : MD := (cX6_changedWord, RX6, yX6_changedWord, 3, (some .int), 0, 0)
theorem mf_X6_changedWord : MF mX6_changedWord 2 := MF.of 883 62 (by decide +kernel) (by decide +kernel) (by decide +kernel) (by decide +kernel) (by decide +kernel) rfl
def mX6_resultBy : MD := (cX6_resultBy, RX6, yX6_resultBy, 3, (some .int), 0, 0)
theorem mf_X6_resultBy : MF mX6_resultBy 2 := MF.of 890 62 (by decide +kernel) (by decide +kernel) (by decide +kernel) (by decide +kernel) (by decide +kernel) rfl
def mX8_doOne : MD := (cX8_doOne, RX8, yX8_doOne, 9, (some .int), 3, 64)
theorem mf_X8_doOne : MF mX8_doOne 2 := MF.of 854 47 (by decide +kernel) (by decide +kernel) (by decide +kernel) (by decide +kernel) (by decide +kernel) rfl
def mX2_init : MD := (cX2_init, RX2, yX2_init, 6, none, 1, 20)
theorem mf_X2_init : MF mX2_init 5 := MF.of 894 66 (by decide +kernel) (by decide +kernel) (by decide +kernel) (by decide +kernel) (by decide +kernel) rfl
def mX0_addEnd : MD := (cX0_addEnd, RX0, yX0_addEnd, 6, none, 7, 191)
theorem mf_X0_addEnd : MF mX0_addEnd 3 := MF.of 846 40 (by decide +kernel) (by decide +kernel) (by decide +kernel) (by decide +kernel) (by decide +kernel) rfl
def mX10_indexOfReason : MD := (cX10_indexOfReason, RX10, yX10_indexOfReason, 2, (some .int), 4, 120)
theorem mf_X10_indexOfReason : MF mX10_indexOfReason 1 := MF.of 928 39 (by decide +kernel) (by decide +kernel) (by decide +kernel) (by decide +kernel) (by decide +kernel) rfl
def mX1_lose : MD := (cX1_lose, RX1, yX1_lose, 3, none, 5, 141)
theorem mf_X1_lose : MF mX1_lose 1 := MF.of 925 45 (by decide +kernel) (by decide +kernel) (by decide +kernel) (by decide +kernel) (by decide +kernel) rfl
def mX0_takeInterrupt : MD := (cX0_takeInterrupt, RX0, yX0_takeInterrupt, 1, none, 8, 216)
theorem mf_X0_takeInterrupt : MF mX0_takeInterrupt 0 := MF.of 839 40 (by decide +kernel) (by decide +kernel) (by decide +kernel) (by decide +kernel) (by decide +kernel) rfl
def mJx4a65c_isEmpty_aae02 : MD := (cJx4a65c_isEmpty_aae02, RJx4a65c, yJx4a65c_isEmpty_aae02, 1, (some .boolean), 0, 0)
theorem mf_Jx4a65c_isEmpty_aae02 : MF mJx4a65c_isEmpty_aae02 0 := MF.of 974 43 (by decide +kernel) (by decide +kernel) (by decide +kernel) (by decide +kernel) (by decide +kernel) rfl
def mX5_hasValue : MD := (cX5_hasValue, RX5, yX5_hasValue, 2, (some .boolean), 0, 0)
theorem mf_X5_hasValue : MF mX5_hasValue 1 := MF.of 978 48 (by decide +kernel) (by decide +kernel) (by decide +kernel) (by decide +kernel) (by decide +kernel) rfl
def mX0_canLeave : MD := (cX0_canLeave, RX0, yX0_canLeave, 2, (some .boolean), 3, 64)
theorem mf_X0_canLeave : MF mX0_canLeave 0 := MF.of 970 40 (by decide +kernel) (by decide +kernel) (by decide +kernel) (by decide +kernel) (by decide +kernel) rfl
def mX0_takeTrap : MD := (cX0_takeTrap, RX0, yX0_takeTrap, 2, none, 4, 128)
theorem mf_X0_takeTrap : MF mX0_takeTrap 1 := MF.of 982 40 (by decide +kernel) (by decide +kernel) (by decide +kernel) (by decide +kernel) (by decide +kernel) rfl
def mX5_settle : MD := (cX5_settle, RX5, yX5_settle, 2, none, 1, 21)
theorem mf_X5_settle : MF mX5_settle 1 := MF.of 990 48 (by decide +kernel) (by decide +kernel) (by decide +kernel) (by decide +kernel) (by decide +kernel) rfl
def mX4_learn : MD := (cX4_learn, RX4, yX4_learn, 3, none, 1, 22)
theorem mf_X4_learn : MF mX4_learn 1 := MF.of 994 50 (by decide +kernel) (by decide +kernel) (by decide +kernel) (by decide +kernel) (by decide +kernel) rfl
theorem ci_X0_325 : CIs RX0 325 mX2_init := CIs.of 892 893 (by decide +kernel) (by decide +kernel) rfl rfl
theorem cs_X0_291 : CNs RX0 291 mX10_newLife "Reorderium" := CNs.of 840 841 (by decide +kernel) (by decide +kernel)
theorem cs_X1_42 : CNs RX1 42 mX10_indexOfReason "Reorderium" := CNs.of 926 927 (by decide +kernel) (by decide +kernel)
theorem cs_X4_103 : CSs RX4 103 mJ9_min_7cf53 := CSs.of 997 687 (by decide +kernel) (by decide +kernel)
theorem cs_X4_106 : CSs RX4 106 mJ9_max_7cf53 := CSs.of 998 651 (by decide +kernel) (by decide +kernel)
theorem cs_X4_73 : CSs RX4 73 mJ9_floorMod_7cf53 := CSs.of 996 755 (by decide +kernel) (by decide +kernel)
theorem cs_X8_64 : CNs RX8 64 mX10_isAddress "Reorderium" := CNs.of 878 708 (by decide +kernel) (by decide +kernel)
theorem cv_X0_264 : CVs RX0 264 mX0_addEnd 1 := CVs.of 843 845 15 (by decide +kernel) (by decide +kernel) (by decide +kernel) _ rfl rfl
theorem cv_X0_271 : CVs RX0 271 mX1_lose 2 := CVs.of 922 923 924 (by decide +kernel) (by decide +kernel) (by decide +kernel) _ rfl rfl
theorem cv_X0_282 : CVs RX0 282 mJx4a65c_isEmpty_aae02 0 := CVs.of 971 972 973 (by decide +kernel) (by decide +kernel) (by decide +kernel) _ rfl rfl
theorem cv_X0_288 : CVs RX0 288 mX5_hasValue 6 := CVs.of 975 976 977 (by decide +kernel) (by decide +kernel) (by decide +kernel) _ rfl rfl
theorem cv_X0_316 : CVs RX0 316 mX8_goToInterrupts 9 := CVs.of 847 848 849 (by decide +kernel) (by decide +kernel) (by decide +kernel) _ rfl rfl
theorem cv_X0_319 : CVs RX0 319 mX8_doOne 9 := CVs.of 851 852 853 (by decide +kernel) (by decide +kernel) (by decide +kernel) _ rfl rfl
theorem cv_X0_328 : CVs RX0 328 mJx4a65c_add_9ea2d 0 := CVs.of 921 632 633 (by decide +kernel) (by decide +kernel) (by decide +kernel) _ rfl rfl
theorem cv_X4_97 : CVs RX4 97 mX6_isQuestion 7 := CVs.of 995 783 784 (by decide +kernel) (by decide +kernel) (by decide +kernel) _ rfl rfl
theorem cv_X6_30 : CVs RX6 30 mX6_isLeap 7 := CVs.of 877 787 788 (by decide +kernel) (by decide +kernel) (by decide +kernel) _ rfl rfl
theorem cv_X6_34 : CVs RX6 34 mX6_isQuestion 7 := CVs.of 872 783 784 (by decide +kernel) (by decide +kernel) (by decide +kernel) _ rfl rfl
theorem cv_X6_44 : CVs RX6 44 mX6_isSo 7 := CVs.of 873 874 875 (by decide +kernel) (by decide +kernel) (by decide +kernel) _ rfl rfl
theorem cv_X8_29 : CVs RX8 29 mJx4a65c_size_8abf5 0 := CVs.of 855 422 423 (by decide +kernel) (by decide +kernel) (by decide +kernel) _ rfl rfl
theorem cv_X8_35 : CVs RX8 35 mJx4a65c_get_915e3 0 := CVs.of 856 447 448 (by decide +kernel) (by decide +kernel) (by decide +kernel) _ rfl rfl
theorem cv_X8_47 : CVs RX8 47 mX6_trapBy 7 := CVs.of 858 859 860 (by decide +kernel) (by decide +kernel) (by decide +kernel) _ rfl rfl
theorem cv_X8_54 : CVs RX8 54 mX8_goToTraps 9 := CVs.of 864 866 16 (by decide +kernel) (by decide +kernel) (by decide +kernel) _ rfl rfl
theorem cv_X8_58 : CVs RX8 58 mX6_goesBy 7 := CVs.of 868 869 870 (by decide +kernel) (by decide +kernel) (by decide +kernel) _ rfl rfl
theorem cv_X8_71 : CVs RX8 71 mX6_isStore 7 := CVs.of 879 820 821 (by decide +kernel) (by decide +kernel) (by decide +kernel) _ rfl rfl
theorem cv_X8_75 : CVs RX8 75 mX6_changedWord 7 := CVs.of 880 881 882 (by decide +kernel) (by decide +kernel) (by decide +kernel) _ rfl rfl
theorem cv_X8_78 : CVs RX8 78 mX6_hasResult 7 := CVs.of 886 771 772 (by decide +kernel) (by decide +kernel) (by decide +kernel) _ rfl rfl
theorem cv_X8_81 : CVs RX8 81 mX6_resultBy 7 := CVs.of 887 888 889 (by decide +kernel) (by decide +kernel) (by decide +kernel) _ rfl rfl
theorem fl_X0_252 : FL RX0 252 10 4 0 := FL.of _ rfl (by decide) 129 (by decide +kernel) (by decide)
theorem fl_X0_285 : FL RX0 285 4 7 0 := FL.of _ rfl (by decide) 1166 (by decide +kernel) (by decide)
theorem fl_X0_295 : FL RX0 295 10 3 0 := FL.of _ rfl (by decide) 126 (by decide +kernel) (by decide)
theorem fl_X0_298 : FL RX0 298 5 5 1 := FL.of _ rfl (by decide) 312 (by decide +kernel) (by decide)
theorem fl_X0_315 : FL RX0 315 9 2 0 := FL.of _ rfl (by decide) 207 (by decide +kernel) (by decide)
theorem fl_X2_13 : FL RX2 13 3 1 0 := FL.of _ rfl (by decide) 899 (by decide +kernel) (by decide)
theorem fl_X2_16 : FL RX2 16 3 2 0 := FL.of _ rfl (by decide) 902 (by decide +kernel) (by decide)
theorem fl_X2_19 : FL RX2 19 3 3 0 := FL.of _ rfl (by decide) 905 (by decide +kernel) (by decide)
theorem fl_X2_22 : FL RX2 22 3 4 3 := FL.of _ rfl (by decide) 908 (by decide +kernel) (by decide)
theorem fl_X2_7 : FL RX2 7 3 0 0 := FL.of _ rfl (by decide) 896 (by decide +kernel) (by decide)
theorem fl_X4_100 : FL RX4 100 4 15 1 := FL.of _ rfl (by decide) 1184 (by decide +kernel) (by decide)
theorem fl_X4_109 : FL RX4 109 4 14 0 := FL.of _ rfl (by decide) 1182 (by decide +kernel) (by decide)
theorem fl_X4_69 : FL RX4 69 7 0 0 := FL.of _ rfl (by decide) 597 (by decide +kernel) (by decide)
theorem fl_X4_70 : FL RX4 70 7 1 0 := FL.of _ rfl (by decide) 602 (by decide +kernel) (by decide)
theorem fl_X4_93 : FL RX4 93 4 0 3 := FL.of _ rfl (by decide) 1146 (by decide +kernel) (by decide)
theorem fl_X8_41 : FL RX8 41 7 3 0 := FL.of _ rfl (by decide) 609 (by decide +kernel) (by decide)
theorem fl_X8_44 : FL RX8 44 7 4 0 := FL.of _ rfl (by decide) 612 (by decide +kernel) (by decide)
theorem fl_X8_51 : FL RX8 51 7 1 0 := FL.of _ rfl (by decide) 601 (by decide +kernel) (by decide)
theorem fl_X8_61 : FL RX8 61 7 5 0 := FL.of _ rfl (by decide) 615 (by decide +kernel) (by decide)
theorem fl_X8_68 : FL RX8 68 7 2 0 := FL.of _ rfl (by decide) 605 (by decide +kernel) (by decide)
theorem fn_3_0 : FO 3 0 RX2 := fun q h => by cases h; exact ⟨rfl, rfl⟩
theorem fn_3_1 : FO 3 1 RX2 := fun q h => by cases h; exact ⟨rfl, rfl⟩
theorem fn_3_2 : FO 3 2 RX2 := fun q h => by cases h; exact ⟨rfl, rfl⟩
theorem fn_3_3 : FO 3 3 RX2 := fun q h => by cases h; exact ⟨rfl, rfl⟩
theorem fn_3_4 : FO 3 4 RX2 := fun q h => by cases h; exact ⟨rfl, rfl⟩
theorem iv_bipush_105 : (Int8.ofInt (105)).toInt32 = 105 := by decide
theorem iv_bipush_14 : (Int8.ofInt (14)).toInt32 = 14 := by decide
theorem kt_X8_39 : KTs RX8 39 7 := KTs.of _ rfl 857 (by decide +kernel)
theorem lc_X6_48 : Cond.constant RX6 48 (-65536) ∈ lw_tbl := List.mem_of_getElem? (i := 884) (by decide +kernel)
theorem lc_X6_49 : Cond.constant RX6 49 65535 ∈ lw_tbl := List.mem_of_getElem? (i := 885) (by decide +kernel)
theorem nw_X0_323 : NWs RX0 323 3 5 := NWs.of _ rfl rfl 460 891 66 (by decide +kernel) (by decide +kernel) (by decide +kernel)
theorem oi_X2_1 : Cond.methodLink RX2 1 Lib.objectInit ∈ lw_tbl := List.mem_of_getElem? (i := 895) (by decide +kernel)
def f_X8_goToTraps (a0 : Nat) (x1 : Int32) (μ : Mm) : Option (Unit × Mm) :=
  ck (mK μ a0 = 109) <|
  if ¬ (zb (mI μ a0 3)) = 0 then
    some ((), μ)
  else
    if x1 = ((-1)) then
      some ((), μ)
    else
      zl (sI μ a0 4 ((mI μ a0 2) + 1)) fun μ4 =>
      zl (sI μ4 a0 3 1) fun μ7 =>
      zl (sI μ7 a0 2 x1) fun μ10 =>
      some ((), μ10)
set_option maxRecDepth 100000 in
theorem s_X8_goToTraps {l : Launch} {G : Gt} (hG : Gok l G) (a0 : Nat) (x1 : Int32) (μ : Mm) (r : Unit) (μ' : Mm) (h : f_X8_goToTraps a0 x1 μ = some (r, μ')) : ZX l G mX8_goToTraps 0 [(0, .ref a0), (1, .int x1)] [] μ (.inl none) μ' := by
  unfold f_X8_goToTraps at h
  refine zx_aload_n dX8_goToTraps_0 rfl (q := 0) rfl ?_
  obtain ⟨h1, h⟩ := ck_e h
  refine zx_getZ hG fl_X8_22 h1 dX8_goToTraps_1 ?_
  by_cases c2 : ¬ (zb (mI μ a0 3)) = 0
  · have h := it_t c2 h
    refine zx_if_ne_t (tgt := 32) dX8_goToTraps_4 (by decide) c2 ?_
    cases h
    exact zx_vret dX8_goToTraps_32 rfl
  · have h := it_f c2 h
    refine zx_if_ne_f (tgt := 32) dX8_goToTraps_4 (by decide) (Classical.not_not.mp c2) ?_
    refine zx_iload_n dX8_goToTraps_7 rfl (q := 1) rfl ?_
    refine zx_iconst (v := (-1)) dX8_goToTraps_8 iv_iconst_m1 ?_
    by_cases c3 : x1 = ((-1))
    · have h := it_t c3 h
      refine zx_icmp_eq_t (tgt := 32) dX8_goToTraps_9 (by decide) c3 ?_
      cases h
      exact zx_vret dX8_goToTraps_32 rfl
    · have h := it_f c3 h
      refine zx_icmp_eq_f (tgt := 32) dX8_goToTraps_9 (by decide) c3 ?_
      refine zx_aload_n dX8_goToTraps_12 rfl (q := 0) rfl ?_
      refine zx_aload_n dX8_goToTraps_13 rfl (q := 0) rfl ?_
      refine zx_getI hG fl_X8_18 h1 dX8_goToTraps_14 ?_
      refine zx_iconst (v := 1) dX8_goToTraps_17 iv_iconst_1 ?_
      refine zx_iadd dX8_goToTraps_18 ?_
      refine zx_putI hG fl_X8_26 fn_9_4 h1 dX8_goToTraps_19 ?_
      obtain ⟨μ4, e6, h⟩ := zlm_e h
      refine zx_mem e6 ?_
      have e5 : mK μ4 = mK μ := (congrArg mK e6).trans rfl
      refine zx_aload_n dX8_goToTraps_22 rfl (q := 0) rfl ?_
      refine zx_iconst (v := 1) dX8_goToTraps_23 iv_iconst_1 ?_
      refine zx_putZ hG fl_X8_22 fn_9_3 (kp_o (e5) h1) zb_1 dX8_goToTraps_24 ?_
      obtain ⟨μ7, e9, h⟩ := zlm_e h
      refine zx_mem e9 ?_
      have e8 : mK μ7 = mK μ4 := (congrArg mK e9).trans rfl
      refine zx_aload_n dX8_goToTraps_27 rfl (q := 0) rfl ?_
      refine zx_iload_n dX8_goToTraps_28 rfl (q := 1) rfl ?_
      refine zx_putI hG fl_X8_18 fn_9_2 (kp_o (Eq.trans e8 e5) h1) dX8_goToTraps_29 ?_
      obtain ⟨μ10, e12, h⟩ := zlm_e h
      refine zx_mem e12 ?_
      have e11 : mK μ10 = mK μ7 := (congrArg mK e12).trans rfl
      cases h
      exact zx_vret dX8_goToTraps_32 rfl
def f_X6_isSo (a0 : Nat) (x1 : Int32) (x2 : Int32) (μ : Mm) : Option Int32 :=
  ck (mK μ a0 = 107) <|
  if ¬ (mI μ a0 1) = 12 then
    if x2 ≤ x1 then
      some 0
    else
      some 1
  else
    if ¬ x1 = x2 then
      some 0
    else
      some 1
set_option maxRecDepth 100000 in
theorem s_X6_isSo {l : Launch} {G : Gt} (hG : Gok l G) (a0 : Nat) (x1 : Int32) (x2 : Int32) (μ : Mm) (r : Int32) (h : f_X6_isSo a0 x1 x2 μ = some r) : ZX l G mX6_isSo 0 [(0, .ref a0), (1, .int x1), (2, .int x2)] [] μ (.inl (some (.int r))) μ := by
  unfold f_X6_isSo at h
  refine zx_aload_n dX6_isSo_0 rfl (q := 0) rfl ?_
  obtain ⟨h1, h⟩ := ck_e h
  refine zx_getI hG fl_X6_15 h1 dX6_isSo_1 ?_
  refine zx_bipush (v := 12) dX6_isSo_4 iv_bipush_12 ?_
  by_cases c2 : ¬ (mI μ a0 1) = 12
  · have h := it_t c2 h
    refine zx_icmp_ne_t (tgt := 22) dX6_isSo_6 (by decide) c2 ?_
    refine zx_iload_n dX6_isSo_22 rfl (q := 1) rfl ?_
    refine zx_iload_n dX6_isSo_23 rfl (q := 2) rfl ?_
    by_cases c3 : x2 ≤ x1
    · have h := it_t c3 h
      refine zx_icmp_ge_t (tgt := 31) dX6_isSo_24 (by decide) c3 ?_
      refine zx_iconst (v := 0) dX6_isSo_31 iv_iconst_0 ?_
      cases h
      exact zx_zretZ dX6_isSo_32 rfl zb_0
    · have h := it_f c3 h
      refine zx_icmp_ge_f (tgt := 31) dX6_isSo_24 (by decide) c3 ?_
      refine zx_iconst (v := 1) dX6_isSo_27 iv_iconst_1 ?_
      refine zx_goto (tgt := 32) dX6_isSo_28 (by decide) ?_
      cases h
      exact zx_zretZ dX6_isSo_32 rfl zb_1
  · have h := it_f c2 h
    refine zx_icmp_ne_f (tgt := 22) dX6_isSo_6 (by decide) (Classical.not_not.mp c2) ?_
    refine zx_iload_n dX6_isSo_9 rfl (q := 1) rfl ?_
    refine zx_iload_n dX6_isSo_10 rfl (q := 2) rfl ?_
    by_cases c4 : ¬ x1 = x2
    · have h := it_t c4 h
      refine zx_icmp_ne_t (tgt := 18) dX6_isSo_11 (by decide) c4 ?_
      refine zx_iconst (v := 0) dX6_isSo_18 iv_iconst_0 ?_
      refine zx_goto (tgt := 32) dX6_isSo_19 (by decide) ?_
      cases h
      exact zx_zretZ dX6_isSo_32 rfl zb_0
    · have h := it_f c4 h
      refine zx_icmp_ne_f (tgt := 18) dX6_isSo_11 (by decide) (Classical.not_not.mp c4) ?_
      refine zx_iconst (v := 1) dX6_isSo_14 iv_iconst_1 ?_
      refine zx_goto (tgt := 32) dX6_isSo_15 (by decide) ?_
      cases h
      exact zx_zretZ dX6_isSo_32 rfl zb_1
def f_X6_goesBy_b57 (a0 : Nat) (μ : Mm) : Option Int32 :=
  ck (mK μ a0 = 107) <|
  some (mI μ a0 5)
def f_X6_goesBy (a0 : Nat) (x1 : Int32) (x2 : Int32) (μ : Mm) : Option Int32 :=
  ck (mK μ a0 = 107) <|
  bd (f_X6_isQuestion a0 μ) fun y2 =>
  if y2 = 0 then
    bd (f_X6_isLeap a0 μ) fun y5 =>
    if y5 = 0 then
      if (mI μ a0 1) = 14 then
        f_X6_goesBy_b57 a0 μ
      else
        if ¬ (mI μ a0 1) = 15 then
          some ((mI μ a0 0) + 1)
        else
          f_X6_goesBy_b57 a0 μ
    else
      some x1
  else
    bd (f_X6_isSo a0 x1 x2 μ) fun y10 =>
    if y10 = 0 then
      some ((mI μ a0 0) + 1)
    else
      some (mI μ a0 5)
set_option maxRecDepth 100000 in
theorem s_X6_goesBy_b57 {l : Launch} {G : Gt} (hG : Gok l G) (a0 : Nat) (μ : Mm) (r : Int32) (h : f_X6_goesBy_b57 a0 μ = some r) : ZX l G mX6_goesBy 57 [(0, .ref a0)] [] μ (.inl (some (.int r))) μ := by
  unfold f_X6_goesBy_b57 at h
  refine zx_aload_n dX6_goesBy_57 rfl (q := 0) rfl ?_
  obtain ⟨h13, h⟩ := ck_e h
  refine zx_getI hG fl_X6_27 h13 dX6_goesBy_58 ?_
  refine zx_goto (tgt := 70) dX6_goesBy_61 (by decide) ?_
  cases h
  exact zx_iret dX6_goesBy_70 rfl
set_option maxRecDepth 100000 in
theorem s_X6_goesBy {l : Launch} {G : Gt} (hG : Gok l G) (a0 : Nat) (x1 : Int32) (x2 : Int32) (μ : Mm) (r : Int32) (h : f_X6_goesBy a0 x1 x2 μ = some r) : ZX l G mX6_goesBy 0 [(0, .ref a0), (1, .int x1), (2, .int x2)] [] μ (.inl (some (.int r))) μ := by
  unfold f_X6_goesBy at h
  refine zx_aload_n dX6_goesBy_0 rfl (q := 0) rfl ?_
  obtain ⟨h1, h⟩ := ck_e h
  obtain ⟨y2, z3, h⟩ := bd_e h
  refine zx_callV (As := []) hG mf_X6_isQuestion cv_X6_34 h1 ⟨by decide, by decide⟩ rfl rfl (Nat.le_of_ble_eq_true rfl) (s_X6_isQuestion hG _ _ _ z3) (Nat.le_of_ble_eq_true rfl) dX6_goesBy_1 ?_
  by_cases c4 : y2 = 0
  · have h := it_t c4 h
    refine zx_if_eq_t (tgt := 30) dX6_goesBy_4 (by decide) c4 ?_
    refine zx_aload_n dX6_goesBy_30 rfl (q := 0) rfl ?_
    obtain ⟨y5, z6, h⟩ := bd_e h
    refine zx_callV (As := []) hG mf_X6_isLeap cv_X6_30 h1 ⟨by decide, by decide⟩ rfl rfl (Nat.le_of_ble_eq_true rfl) (s_X6_isLeap hG _ _ _ z6) (Nat.le_of_ble_eq_true rfl) dX6_goesBy_31 ?_
    by_cases c7 : y5 = 0
    · have h := it_t c7 h
      refine zx_if_eq_t (tgt := 39) dX6_goesBy_34 (by decide) c7 ?_
      refine zx_aload_n dX6_goesBy_39 rfl (q := 0) rfl ?_
      refine zx_getI hG fl_X6_15 h1 dX6_goesBy_40 ?_
      refine zx_bipush (v := 14) dX6_goesBy_43 iv_bipush_14 ?_
      by_cases c8 : (mI μ a0 1) = 14
      · have h := it_t c8 h
        refine zx_icmp_eq_t (tgt := 57) dX6_goesBy_45 (by decide) c8 ?_
        refine zx_sub (L' := [(0, .ref a0)]) [0] rfl ?_
        exact s_X6_goesBy_b57 hG _ _ _ h
      · have h := it_f c8 h
        refine zx_icmp_eq_f (tgt := 57) dX6_goesBy_45 (by decide) c8 ?_
        refine zx_aload_n dX6_goesBy_48 rfl (q := 0) rfl ?_
        refine zx_getI hG fl_X6_15 h1 dX6_goesBy_49 ?_
        refine zx_bipush (v := 15) dX6_goesBy_52 iv_bipush_15 ?_
        by_cases c9 : ¬ (mI μ a0 1) = 15
        · have h := it_t c9 h
          refine zx_icmp_ne_t (tgt := 64) dX6_goesBy_54 (by decide) c9 ?_
          refine zx_aload_n dX6_goesBy_64 rfl (q := 0) rfl ?_
          refine zx_getI hG fl_X6_9 h1 dX6_goesBy_65 ?_
          refine zx_iconst (v := 1) dX6_goesBy_68 iv_iconst_1 ?_
          refine zx_iadd dX6_goesBy_69 ?_
          cases h
          exact zx_iret dX6_goesBy_70 rfl
        · have h := it_f c9 h
          refine zx_icmp_ne_f (tgt := 64) dX6_goesBy_54 (by decide) (Classical.not_not.mp c9) ?_
          refine zx_sub (L' := [(0, .ref a0)]) [0] rfl ?_
          exact s_X6_goesBy_b57 hG _ _ _ h
    · have h := it_f c7 h
      refine zx_if_eq_f (tgt := 39) dX6_goesBy_34 (by decide) c7 ?_
      refine zx_iload_n dX6_goesBy_37 rfl (q := 1) rfl ?_
      cases h
      exact zx_iret dX6_goesBy_38 rfl
  · have h := it_f c4 h
    refine zx_if_eq_f (tgt := 30) dX6_goesBy_4 (by decide) c4 ?_
    refine zx_aload_n dX6_goesBy_7 rfl (q := 0) rfl ?_
    refine zx_iload_n dX6_goesBy_8 rfl (q := 1) rfl ?_
    refine zx_iload_n dX6_goesBy_9 rfl (q := 2) rfl ?_
    obtain ⟨y10, z11, h⟩ := bd_e h
    refine zx_callV (As := [.int x1, .int x2]) hG mf_X6_isSo cv_X6_44 h1 ⟨by decide, by decide⟩ rfl rfl (Nat.le_of_ble_eq_true rfl) (s_X6_isSo hG _ _ _ _ _ z11) (Nat.le_of_ble_eq_true rfl) dX6_goesBy_10 ?_
    by_cases c12 : y10 = 0
    · have h := it_t c12 h
      refine zx_if_eq_t (tgt := 23) dX6_goesBy_13 (by decide) c12 ?_
      refine zx_aload_n dX6_goesBy_23 rfl (q := 0) rfl ?_
      refine zx_getI hG fl_X6_9 h1 dX6_goesBy_24 ?_
      refine zx_iconst (v := 1) dX6_goesBy_27 iv_iconst_1 ?_
      refine zx_iadd dX6_goesBy_28 ?_
      cases h
      exact zx_iret dX6_goesBy_29 rfl
    · have h := it_f c12 h
      refine zx_if_eq_f (tgt := 23) dX6_goesBy_13 (by decide) c12 ?_
      refine zx_aload_n dX6_goesBy_16 rfl (q := 0) rfl ?_
      refine zx_getI hG fl_X6_27 h1 dX6_goesBy_17 ?_
      refine zx_goto (tgt := 29) dX6_goesBy_20 (by decide) ?_
      cases h
      exact zx_iret dX6_goesBy_29 rfl
def f_X6_changedWord (a0 : Nat) (x1 : Int32) (x2 : Int32) (μ : Mm) : Option Int32 :=
  ck (mK μ a0 = 107) <|
  if ¬ (mI μ a0 1) = 10 then
    some ((x1 &&& ((-65536))) ||| (x2 &&& 65535))
  else
    some x2
set_option maxRecDepth 100000 in
theorem s_X6_changedWord {l : Launch} {G : Gt} (hG : Gok l G) (a0 : Nat) (x1 : Int32) (x2 : Int32) (μ : Mm) (r : Int32) (h : f_X6_changedWord a0 x1 x2 μ = some r) : ZX l G mX6_changedWord 0 [(0, .ref a0), (1, .int x1), (2, .int x2)] [] μ (.inl (some (.int r))) μ := by
  unfold f_X6_changedWord at h
  refine zx_aload_n dX6_changedWord_0 rfl (q := 0) rfl ?_
  obtain ⟨h1, h⟩ := ck_e h
  refine zx_getI hG fl_X6_15 h1 dX6_changedWord_1 ?_
  refine zx_bipush (v := 10) dX6_changedWord_4 iv_bipush_10 ?_
  by_cases c2 : ¬ (mI μ a0 1) = 10
  · have h := it_t c2 h
    refine zx_icmp_ne_t (tgt := 13) dX6_changedWord_6 (by decide) c2 ?_
    refine zx_iload_n dX6_changedWord_13 rfl (q := 1) rfl ?_
    refine zx_ldc hG lc_X6_48 dX6_changedWord_14 ?_
    refine zx_iand dX6_changedWord_16 ?_
    refine zx_iload_n dX6_changedWord_17 rfl (q := 2) rfl ?_
    refine zx_ldc hG lc_X6_49 dX6_changedWord_18 ?_
    refine zx_iand dX6_changedWord_20 ?_
    refine zx_ior dX6_changedWord_21 ?_
    cases h
    exact zx_iret dX6_changedWord_22 rfl
  · have h := it_f c2 h
    refine zx_icmp_ne_f (tgt := 13) dX6_changedWord_6 (by decide) (Classical.not_not.mp c2) ?_
    refine zx_iload_n dX6_changedWord_9 rfl (q := 2) rfl ?_
    refine zx_goto (tgt := 22) dX6_changedWord_10 (by decide) ?_
    cases h
    exact zx_iret dX6_changedWord_22 rfl
def f_X6_resultBy (a0 : Nat) (x1 : Int32) (x2 : Int32) (μ : Mm) : Option Int32 :=
  ck (mK μ a0 = 107) <|
  if (Int32.toInt (mI μ a0 1)) < 1 ∨ 15 < (Int32.toInt (mI μ a0 1)) then
    some 0
  else if (mI μ a0 1) = 1 then
      some (mI μ a0 5)
  else if (mI μ a0 1) = 2 then
      some (x1 + x2)
  else if (mI μ a0 1) = 3 then
      some (x1 - x2)
  else if (mI μ a0 1) = 4 then
      some (x1 * x2)
  else if (mI μ a0 1) = 5 then
      if ¬ x2 = 0 then
        ck (¬ (x2 : Int32) = 0) <|
        some (x1 / x2)
      else
        some 0
  else if (mI μ a0 1) = 6 then
      some (x1 &&& x2)
  else if (mI μ a0 1) = 7 then
      some (x1 ^^^ x2)
  else if (mI μ a0 1) = 8 then
      if x2 ≤ x1 then
        some 0
      else
        some 1
  else if (mI μ a0 1) = 9 then
      some 0
  else if (mI μ a0 1) = 10 then
      some 0
  else if (mI μ a0 1) = 11 then
      some 0
  else if (mI μ a0 1) = 12 then
      some 0
  else if (mI μ a0 1) = 13 then
      some 0
  else if (mI μ a0 1) = 14 then
      some 0
  else if (mI μ a0 1) = 15 then
      some ((mI μ a0 0) + 1)
  else
    none
set_option maxRecDepth 100000 in
theorem s_X6_resultBy {l : Launch} {G : Gt} (hG : Gok l G) (a0 : Nat) (x1 : Int32) (x2 : Int32) (μ : Mm) (r : Int32) (h : f_X6_resultBy a0 x1 x2 μ = some r) : ZX l G mX6_resultBy 0 [(0, .ref a0), (1, .int x1), (2, .int x2)] [] μ (.inl (some (.int r))) μ := by
  unfold f_X6_resultBy at h
  refine zx_aload_n dX6_resultBy_0 rfl (q := 0) rfl ?_
  obtain ⟨h1, h⟩ := ck_e h
  refine zx_getI hG fl_X6_15 h1 dX6_resultBy_1 ?_
  by_cases c2 : (Int32.toInt (mI μ a0 1)) < 1 ∨ 15 < (Int32.toInt (mI μ a0 1))
  · have h := it_t c2 h
    refine zx_tsOut dX6_resultBy_4 c2 (tgt := 135) (by decide) ?_
    refine zx_iconst (v := 0) dX6_resultBy_135 iv_iconst_0 ?_
    cases h
    exact zx_iret dX6_resultBy_136 rfl
  · have h := it_f c2 h
    by_cases c3 : (mI μ a0 1) = 1
    · have h := it_t c3 h
      refine zx_tsIn dX6_resultBy_4 (by rw [c3]; decide) (by rw [c3]; decide) (off := 76) (tgt := 80) (by rw [c3]; decide) (by decide) ?_
      refine zx_aload_n dX6_resultBy_80 rfl (q := 0) rfl ?_
      refine zx_getI hG fl_X6_27 h1 dX6_resultBy_81 ?_
      cases h
      exact zx_iret dX6_resultBy_84 rfl
    have h := it_f c3 h
    by_cases c4 : (mI μ a0 1) = 2
    · have h := it_t c4 h
      refine zx_tsIn dX6_resultBy_4 (by rw [c4]; decide) (by rw [c4]; decide) (off := 81) (tgt := 85) (by rw [c4]; decide) (by decide) ?_
      refine zx_iload_n dX6_resultBy_85 rfl (q := 1) rfl ?_
      refine zx_iload_n dX6_resultBy_86 rfl (q := 2) rfl ?_
      refine zx_iadd dX6_resultBy_87 ?_
      cases h
      exact zx_iret dX6_resultBy_88 rfl
    have h := it_f c4 h
    by_cases c5 : (mI μ a0 1) = 3
    · have h := it_t c5 h
      refine zx_tsIn dX6_resultBy_4 (by rw [c5]; decide) (by rw [c5]; decide) (off := 85) (tgt := 89) (by rw [c5]; decide) (by decide) ?_
      refine zx_iload_n dX6_resultBy_89 rfl (q := 1) rfl ?_
      refine zx_iload_n dX6_resultBy_90 rfl (q := 2) rfl ?_
      refine zx_isub dX6_resultBy_91 ?_
      cases h
      exact zx_iret dX6_resultBy_92 rfl
    have h := it_f c5 h
    by_cases c6 : (mI μ a0 1) = 4
    · have h := it_t c6 h
      refine zx_tsIn dX6_resultBy_4 (by rw [c6]; decide) (by rw [c6]; decide) (off := 89) (tgt := 93) (by rw [c6]; decide) (by decide) ?_
      refine zx_iload_n dX6_resultBy_93 rfl (q := 1) rfl ?_
      refine zx_iload_n dX6_resultBy_94 rfl (q := 2) rfl ?_
      refine zx_imul dX6_resultBy_95 ?_
      cases h
      exact zx_iret dX6_resultBy_96 rfl
    have h := it_f c6 h
    by_cases c7 : (mI μ a0 1) = 5
    · have h := it_t c7 h
      refine zx_tsIn dX6_resultBy_4 (by rw [c7]; decide) (by rw [c7]; decide) (off := 93) (tgt := 97) (by rw [c7]; decide) (by decide) ?_
      refine zx_iload_n dX6_resultBy_97 rfl (q := 2) rfl ?_
      by_cases c8 : ¬ x2 = 0
      · have h := it_t c8 h
        refine zx_if_ne_t (tgt := 105) dX6_resultBy_98 (by decide) c8 ?_
        refine zx_iload_n dX6_resultBy_105 rfl (q := 1) rfl ?_
        refine zx_iload_n dX6_resultBy_106 rfl (q := 2) rfl ?_
        obtain ⟨h9, h⟩ := ck_e h
        refine zx_idiv dX6_resultBy_107 h9 ?_
        cases h
        exact zx_iret dX6_resultBy_108 rfl
      · have h := it_f c8 h
        refine zx_if_ne_f (tgt := 105) dX6_resultBy_98 (by decide) (Classical.not_not.mp c8) ?_
        refine zx_iconst (v := 0) dX6_resultBy_101 iv_iconst_0 ?_
        refine zx_goto (tgt := 108) dX6_resultBy_102 (by decide) ?_
        cases h
        exact zx_iret dX6_resultBy_108 rfl
    have h := it_f c7 h
    by_cases c10 : (mI μ a0 1) = 6
    · have h := it_t c10 h
      refine zx_tsIn dX6_resultBy_4 (by rw [c10]; decide) (by rw [c10]; decide) (off := 105) (tgt := 109) (by rw [c10]; decide) (by decide) ?_
      refine zx_iload_n dX6_resultBy_109 rfl (q := 1) rfl ?_
      refine zx_iload_n dX6_resultBy_110 rfl (q := 2) rfl ?_
      refine zx_iand dX6_resultBy_111 ?_
      cases h
      exact zx_iret dX6_resultBy_112 rfl
    have h := it_f c10 h
    by_cases c11 : (mI μ a0 1) = 7
    · have h := it_t c11 h
      refine zx_tsIn dX6_resultBy_4 (by rw [c11]; decide) (by rw [c11]; decide) (off := 109) (tgt := 113) (by rw [c11]; decide) (by decide) ?_
      refine zx_iload_n dX6_resultBy_113 rfl (q := 1) rfl ?_
      refine zx_iload_n dX6_resultBy_114 rfl (q := 2) rfl ?_
      refine zx_ixor dX6_resultBy_115 ?_
      cases h
      exact zx_iret dX6_resultBy_116 rfl
    have h := it_f c11 h
    by_cases c12 : (mI μ a0 1) = 8
    · have h := it_t c12 h
      refine zx_tsIn dX6_resultBy_4 (by rw [c12]; decide) (by rw [c12]; decide) (off := 113) (tgt := 117) (by rw [c12]; decide) (by decide) ?_
      refine zx_iload_n dX6_resultBy_117 rfl (q := 1) rfl ?_
      refine zx_iload_n dX6_resultBy_118 rfl (q := 2) rfl ?_
      by_cases c13 : x2 ≤ x1
      · have h := it_t c13 h
        refine zx_icmp_ge_t (tgt := 126) dX6_resultBy_119 (by decide) c13 ?_
        refine zx_iconst (v := 0) dX6_resultBy_126 iv_iconst_0 ?_
        cases h
        exact zx_iret dX6_resultBy_127 rfl
      · have h := it_f c13 h
        refine zx_icmp_ge_f (tgt := 126) dX6_resultBy_119 (by decide) c13 ?_
        refine zx_iconst (v := 1) dX6_resultBy_122 iv_iconst_1 ?_
        refine zx_goto (tgt := 127) dX6_resultBy_123 (by decide) ?_
        cases h
        exact zx_iret dX6_resultBy_127 rfl
    have h := it_f c12 h
    by_cases c14 : (mI μ a0 1) = 9
    · have h := it_t c14 h
      refine zx_tsIn dX6_resultBy_4 (by rw [c14]; decide) (by rw [c14]; decide) (off := 131) (tgt := 135) (by rw [c14]; decide) (by decide) ?_
      refine zx_iconst (v := 0) dX6_resultBy_135 iv_iconst_0 ?_
      cases h
      exact zx_iret dX6_resultBy_136 rfl
    have h := it_f c14 h
    by_cases c15 : (mI μ a0 1) = 10
    · have h := it_t c15 h
      refine zx_tsIn dX6_resultBy_4 (by rw [c15]; decide) (by rw [c15]; decide) (off := 131) (tgt := 135) (by rw [c15]; decide) (by decide) ?_
      refine zx_iconst (v := 0) dX6_resultBy_135 iv_iconst_0 ?_
      cases h
      exact zx_iret dX6_resultBy_136 rfl
    have h := it_f c15 h
    by_cases c16 : (mI μ a0 1) = 11
    · have h := it_t c16 h
      refine zx_tsIn dX6_resultBy_4 (by rw [c16]; decide) (by rw [c16]; decide) (off := 131) (tgt := 135) (by rw [c16]; decide) (by decide) ?_
      refine zx_iconst (v := 0) dX6_resultBy_135 iv_iconst_0 ?_
      cases h
      exact zx_iret dX6_resultBy_136 rfl
    have h := it_f c16 h
    by_cases c17 : (mI μ a0 1) = 12
    · have h := it_t c17 h
      refine zx_tsIn dX6_resultBy_4 (by rw [c17]; decide) (by rw [c17]; decide) (off := 131) (tgt := 135) (by rw [c17]; decide) (by decide) ?_
      refine zx_iconst (v := 0) dX6_resultBy_135 iv_iconst_0 ?_
      cases h
      exact zx_iret dX6_resultBy_136 rfl
    have h := it_f c17 h
    by_cases c18 : (mI μ a0 1) = 13
    · have h := it_t c18 h
      refine zx_tsIn dX6_resultBy_4 (by rw [c18]; decide) (by rw [c18]; decide) (off := 131) (tgt := 135) (by rw [c18]; decide) (by decide) ?_
      refine zx_iconst (v := 0) dX6_resultBy_135 iv_iconst_0 ?_
      cases h
      exact zx_iret dX6_resultBy_136 rfl
    have h := it_f c18 h
    by_cases c19 : (mI μ a0 1) = 14
    · have h := it_t c19 h
      refine zx_tsIn dX6_resultBy_4 (by rw [c19]; decide) (by rw [c19]; decide) (off := 131) (tgt := 135) (by rw [c19]; decide) (by decide) ?_
      refine zx_iconst (v := 0) dX6_resultBy_135 iv_iconst_0 ?_
      cases h
      exact zx_iret dX6_resultBy_136 rfl
    have h := it_f c19 h
    by_cases c20 : (mI μ a0 1) = 15
    · have h := it_t c20 h
      refine zx_tsIn dX6_resultBy_4 (by rw [c20]; decide) (by rw [c20]; decide) (off := 124) (tgt := 128) (by rw [c20]; decide) (by decide) ?_
      refine zx_aload_n dX6_resultBy_128 rfl (q := 0) rfl ?_
      refine zx_getI hG fl_X6_9 h1 dX6_resultBy_129 ?_
      refine zx_iconst (v := 1) dX6_resultBy_132 iv_iconst_1 ?_
      refine zx_iadd dX6_resultBy_133 ?_
      cases h
      exact zx_iret dX6_resultBy_134 rfl
    have h := it_f c20 h
    cases h
def f_X8_doOne_b236 (a0 : Nat) (x7 : Int32) (μ : Mm) : Option (Int32 × Mm) :=
  ck (mK μ a0 = 109) <|
  zl (sI μ a0 2 x7) fun μ47 =>
  some (0, μ47)
def f_X8_doOne_b189 (a0 : Nat) (a3 : Nat) (x4 : Int32) (x5 : Int32) (x7 : Int32) (μ : Mm) : Option (Int32 × Mm) :=
  ck (mK μ a3 = 107) <|
  if ¬ (mI μ a3 1) = 21 then
    bd (f_X6_hasResult a3 μ) fun y73 =>
    if y73 = 0 then
      f_X8_doOne_b236 a0 x7 μ
    else
      ck (mK μ a0 = 109) <|
      bd (mR μ a0 0) fun p77 =>
      bd (f_X6_resultBy a3 x4 x5 μ) fun y79 =>
      ck (isA 1 (mK μ p77)) <|
      ck (inb (mI μ a3 2) (mL μ p77)) <|
      zl (sI μ p77 (Int32.toNatClampNeg (mI μ a3 2)) y79) fun μ83 =>
      f_X8_doOne_b236 a0 x7 μ83
  else
    ck (mK μ a0 = 109) <|
    zl (sI μ a0 3 0) fun μ87 =>
    f_X8_doOne_b236 a0 (mI μ a0 4) μ87
def f_X8_doOne_b151 (a0 : Nat) (a3 : Nat) (x4 : Int32) (x5 : Int32) (x7 : Int32) (x8 : Int32) (μ : Mm) : Option (Int32 × Mm) :=
  ck (mK μ a3 = 107) <|
  bd (f_X6_isStore a3 μ) fun y51 =>
  if y51 = 0 then
    f_X8_doOne_b189 a0 a3 x4 x5 x7 μ
  else
    bd (f_X10_isAddress x8) fun y54 =>
    if y54 = 0 then
      f_X8_doOne_b189 a0 a3 x4 x5 x7 μ
    else
      ck (mK μ a0 = 109) <|
      bd (mR μ a0 1) fun p58 =>
      bd (mR μ a0 1) fun p60 =>
      ck (isA 1 (mK μ p60)) <|
      ck (inb x8 (mL μ p60)) <|
      bd (f_X6_changedWord a3 (mI μ p60 (Int32.toNatClampNeg x8)) x5 μ) fun y64 =>
      ck (isA 1 (mK μ p58)) <|
      ck (inb x8 (mL μ p58)) <|
      zl (sI μ p58 (Int32.toNatClampNeg x8) y64) fun μ68 =>
      f_X8_doOne_b236 a0 x7 μ68
def f_X8_doOne_b83 (a0 : Nat) (x2 : Int32) (a3 : Nat) (x4 : Int32) (x5 : Int32) (x6 : Int32) (μ : Mm) : Option (Int32 × Mm) :=
  if x6 = 0 then
    ck (mK μ a3 = 107) <|
    bd (f_X6_goesBy a3 x4 x5 μ) fun y24 =>
    if ¬ (mI μ a3 1) = 9 then
      f_X8_doOne_b151 a0 a3 x4 x5 y24 (x4 + (mI μ a3 5)) μ
    else
      bd (f_X10_isAddress (x4 + (mI μ a3 5))) fun y27 =>
      if y27 = 0 then
        f_X8_doOne_b151 a0 a3 x4 x5 y24 (x4 + (mI μ a3 5)) μ
      else
        ck (mK μ a0 = 109) <|
        bd (mR μ a0 0) fun p31 =>
        bd (mR μ a0 1) fun p33 =>
        ck (isA 1 (mK μ p33)) <|
        ck (inb (x4 + (mI μ a3 5)) (mL μ p33)) <|
        ck (isA 1 (mK μ p31)) <|
        ck (inb (mI μ a3 2) (mL μ p31)) <|
        zl (sI μ p31 (Int32.toNatClampNeg (mI μ a3 2)) (mI μ p33 (Int32.toNatClampNeg (x4 + (mI μ a3 5))))) fun μ39 =>
        f_X8_doOne_b236 a0 y24 μ39
  else
    ck (mK μ a0 = 109) <|
    cl (f_X8_goToTraps a0 x2 μ) fun _ μ45 =>
    some (x6, μ45)
def f_X8_doOne (a0 : Nat) (a1 : Nat) (x2 : Int32) (μ : Mm) : Option (Int32 × Mm) :=
  ck (mK μ a0 = 109) <|
  if (mI μ a0 2) < 0 then
    some ((-1), μ)
  else
    ck (mK μ a1 = 100) <|
    bd (f_Jx4a65c_size_8abf5 a1 μ) fun y4 =>
    if (mI μ a0 2) < y4 then
      bd (f_Jx4a65c_get_915e3 a1 (mI μ a0 2) μ) fun p7 =>
      ck (mK μ p7 = 107) <|
      bd (mR μ a0 0) fun p10 =>
      ck (isA 1 (mK μ p10)) <|
      ck (inb (mI μ p7 3) (mL μ p10)) <|
      bd (mR μ a0 0) fun p14 =>
      ck (isA 1 (mK μ p14)) <|
      ck (inb (mI μ p7 4) (mL μ p14)) <|
      bd (f_X6_trapBy p7 (mI μ p10 (Int32.toNatClampNeg (mI μ p7 3))) (mI μ p14 (Int32.toNatClampNeg (mI μ p7 4))) μ) fun y18 =>
      if ¬ (mI μ p7 1) = 21 then
        f_X8_doOne_b83 a0 x2 p7 (mI μ p10 (Int32.toNatClampNeg (mI μ p7 3))) (mI μ p14 (Int32.toNatClampNeg (mI μ p7 4))) y18 μ
      else
        if ¬ (zb (mI μ a0 3)) = 0 then
          f_X8_doOne_b83 a0 x2 p7 (mI μ p10 (Int32.toNatClampNeg (mI μ p7 3))) (mI μ p14 (Int32.toNatClampNeg (mI μ p7 4))) y18 μ
        else
          f_X8_doOne_b83 a0 x2 p7 (mI μ p10 (Int32.toNatClampNeg (mI μ p7 3))) (mI μ p14 (Int32.toNatClampNeg (mI μ p7 4))) 5 μ
    else
      some ((-1), μ)
set_option maxRecDepth 100000 in
theorem s_X8_doOne_b236 {l : Launch} {G : Gt} (hG : Gok l G) (a0 : Nat) (x7 : Int32) (μ : Mm) (r : Int32) (μ' : Mm) (h : f_X8_doOne_b236 a0 x7 μ = some (r, μ')) : ZX l G mX8_doOne 236 [(0, .ref a0), (7, .int x7)] [] μ (.inl (some (.int r))) μ' := by
  unfold f_X8_doOne_b236 at h
  refine zx_aload_n dX8_doOne_236 rfl (q := 0) rfl ?_
  refine zx_iload dX8_doOne_237 (q := 1) rfl ?_
  obtain ⟨h46, h⟩ := ck_e h
  refine zx_putI hG fl_X8_18 fn_9_2 h46 dX8_doOne_239 ?_
  obtain ⟨μ47, e49, h⟩ := zlm_e h
  refine zx_mem e49 ?_
  have e48 : mK μ47 = mK μ := (congrArg mK e49).trans rfl
  refine zx_iconst (v := 0) dX8_doOne_242 iv_iconst_0 ?_
  cases h
  exact zx_iret dX8_doOne_243 rfl
set_option maxRecDepth 100000 in
theorem s_X8_doOne_b189 {l : Launch} {G : Gt} (hG : Gok l G) (a0 : Nat) (a3 : Nat) (x4 : Int32) (x5 : Int32) (x7 : Int32) (μ : Mm) (r : Int32) (μ' : Mm) (h : f_X8_doOne_b189 a0 a3 x4 x5 x7 μ = some (r, μ')) : ZX l G mX8_doOne 189 [(0, .ref a0), (3, .ref a3), (4, .int x4), (5, .int x5), (7, .int x7)] [] μ (.inl (some (.int r))) μ' := by
  unfold f_X8_doOne_b189 at h
  refine zx_aload_n dX8_doOne_189 rfl (q := 1) rfl ?_
  obtain ⟨h71, h⟩ := ck_e h
  refine zx_getI hG fl_X8_51 h71 dX8_doOne_190 ?_
  refine zx_bipush (v := 21) dX8_doOne_193 iv_bipush_21 ?_
  by_cases c72 : ¬ (mI μ a3 1) = 21
  · have h := it_t c72 h
    refine zx_icmp_ne_t (tgt := 212) dX8_doOne_195 (by decide) c72 ?_
    refine zx_aload_n dX8_doOne_212 rfl (q := 1) rfl ?_
    obtain ⟨y73, z74, h⟩ := bd_e h
    refine zx_callV (As := []) hG mf_X6_hasResult cv_X8_78 h71 ⟨by decide, by decide⟩ rfl rfl (Nat.le_of_ble_eq_true rfl) (s_X6_hasResult hG _ _ _ z74) (Nat.le_of_ble_eq_true rfl) dX8_doOne_213 ?_
    by_cases c75 : y73 = 0
    · have h := it_t c75 h
      refine zx_if_eq_t (tgt := 236) dX8_doOne_216 (by decide) c75 ?_
      refine zx_sub (L' := [(0, .ref a0), (7, .int x7)]) [0, 4] rfl ?_
      exact s_X8_doOne_b236 hG _ _ _ _ _ h
    · have h := it_f c75 h
      refine zx_if_eq_f (tgt := 236) dX8_doOne_216 (by decide) c75 ?_
      refine zx_aload_n dX8_doOne_219 rfl (q := 0) rfl ?_
      obtain ⟨h76, h⟩ := ck_e h
      obtain ⟨p77, h78, h⟩ := bd_e h
      refine zx_getR hG fl_X8_9 h76 h78 dX8_doOne_220 ?_
      refine zx_aload_n dX8_doOne_223 rfl (q := 1) rfl ?_
      refine zx_getI hG fl_X8_68 h71 dX8_doOne_224 ?_
      refine zx_aload_n dX8_doOne_227 rfl (q := 1) rfl ?_
      refine zx_iload dX8_doOne_228 (q := 2) rfl ?_
      refine zx_iload dX8_doOne_230 (q := 3) rfl ?_
      obtain ⟨y79, z80, h⟩ := bd_e h
      refine zx_callV (As := [.int x4, .int x5]) hG mf_X6_resultBy cv_X8_81 h71 ⟨by decide, by decide⟩ rfl rfl (Nat.le_of_ble_eq_true rfl) (s_X6_resultBy hG _ _ _ _ _ z80) (Nat.le_of_ble_eq_true rfl) dX8_doOne_232 ?_
      obtain ⟨h81, h⟩ := ck_e h
      obtain ⟨h82, h⟩ := ck_e h
      refine zx_iast hG rfl (h81).1 (h81).2 (inb_e h82) dX8_doOne_235 ?_
      obtain ⟨μ83, e85, h⟩ := zlm_e h
      refine zx_mem e85 ?_
      have e84 : mK μ83 = mK μ := (congrArg mK e85).trans rfl
      refine zx_sub (L' := [(0, .ref a0), (7, .int x7)]) [0, 4] rfl ?_
      exact s_X8_doOne_b236 hG _ _ _ _ _ h
  · have h := it_f c72 h
    refine zx_icmp_ne_f (tgt := 212) dX8_doOne_195 (by decide) (Classical.not_not.mp c72) ?_
    refine zx_aload_n dX8_doOne_198 rfl (q := 0) rfl ?_
    obtain ⟨h86, h⟩ := ck_e h
    refine zx_getI hG fl_X8_26 h86 dX8_doOne_199 ?_
    refine zx_istore (L' := [(7, .int (mI μ a0 4)), (0, .ref a0), (3, .ref a3), (4, .int x4), (5, .int x5)]) dX8_doOne_202 (by decide) rfl ?_
    refine zx_aload_n dX8_doOne_204 rfl (q := 1) rfl ?_
    refine zx_iconst (v := 0) dX8_doOne_205 iv_iconst_0 ?_
    refine zx_putZ hG fl_X8_22 fn_9_3 h86 zb_0 dX8_doOne_206 ?_
    obtain ⟨μ87, e89, h⟩ := zlm_e h
    refine zx_mem e89 ?_
    have e88 : mK μ87 = mK μ := (congrArg mK e89).trans rfl
    refine zx_goto (tgt := 236) dX8_doOne_209 (by decide) ?_
    refine zx_sub (L' := [(0, .ref a0), (7, .int (mI μ a0 4))]) [1, 0] rfl ?_
    exact s_X8_doOne_b236 hG _ _ _ _ _ h
set_option maxRecDepth 100000 in
theorem s_X8_doOne_b151 {l : Launch} {G : Gt} (hG : Gok l G) (a0 : Nat) (a3 : Nat) (x4 : Int32) (x5 : Int32) (x7 : Int32) (x8 : Int32) (μ : Mm) (r : Int32) (μ' : Mm) (h : f_X8_doOne_b151 a0 a3 x4 x5 x7 x8 μ = some (r, μ')) : ZX l G mX8_doOne 151 [(0, .ref a0), (3, .ref a3), (4, .int x4), (5, .int x5), (7, .int x7), (8, .int x8)] [] μ (.inl (some (.int r))) μ' := by
  unfold f_X8_doOne_b151 at h
  refine zx_aload_n dX8_doOne_151 rfl (q := 1) rfl ?_
  obtain ⟨h50, h⟩ := ck_e h
  obtain ⟨y51, z52, h⟩ := bd_e h
  refine zx_callV (As := []) hG mf_X6_isStore cv_X8_71 h50 ⟨by decide, by decide⟩ rfl rfl (Nat.le_of_ble_eq_true rfl) (s_X6_isStore hG _ _ _ z52) (Nat.le_of_ble_eq_true rfl) dX8_doOne_152 ?_
  by_cases c53 : y51 = 0
  · have h := it_t c53 h
    refine zx_if_eq_t (tgt := 189) dX8_doOne_155 (by decide) c53 ?_
    refine zx_sub (L' := [(0, .ref a0), (3, .ref a3), (4, .int x4), (5, .int x5), (7, .int x7)]) [0, 1, 2, 3, 4] rfl ?_
    exact s_X8_doOne_b189 hG _ _ _ _ _ _ _ _ h
  · have h := it_f c53 h
    refine zx_if_eq_f (tgt := 189) dX8_doOne_155 (by decide) c53 ?_
    refine zx_iload dX8_doOne_158 (q := 5) rfl ?_
    obtain ⟨y54, z55, h⟩ := bd_e h
    refine zx_callSN (As := [.int x8]) hG mf_X10_isAddress cs_X8_64 ⟨by decide, by decide⟩ rfl rfl (Nat.le_of_ble_eq_true rfl) (s_X10_isAddress hG _ _ _ z55) (Nat.le_of_ble_eq_true rfl) dX8_doOne_160 ?_
    by_cases c56 : y54 = 0
    · have h := it_t c56 h
      refine zx_if_eq_t (tgt := 189) dX8_doOne_163 (by decide) c56 ?_
      refine zx_sub (L' := [(0, .ref a0), (3, .ref a3), (4, .int x4), (5, .int x5), (7, .int x7)]) [0, 1, 2, 3, 4] rfl ?_
      exact s_X8_doOne_b189 hG _ _ _ _ _ _ _ _ h
    · have h := it_f c56 h
      refine zx_if_eq_f (tgt := 189) dX8_doOne_163 (by decide) c56 ?_
      refine zx_aload_n dX8_doOne_166 rfl (q := 0) rfl ?_
      obtain ⟨h57, h⟩ := ck_e h
      obtain ⟨p58, h59, h⟩ := bd_e h
      refine zx_getR hG fl_X8_15 h57 h59 dX8_doOne_167 ?_
      refine zx_iload dX8_doOne_170 (q := 5) rfl ?_
      refine zx_aload_n dX8_doOne_172 rfl (q := 1) rfl ?_
      refine zx_aload_n dX8_doOne_173 rfl (q := 0) rfl ?_
      obtain ⟨p60, h61, h⟩ := bd_e h
      refine zx_getR hG fl_X8_15 h57 h61 dX8_doOne_174 ?_
      refine zx_iload dX8_doOne_177 (q := 5) rfl ?_
      obtain ⟨h62, h⟩ := ck_e h
      obtain ⟨h63, h⟩ := ck_e h
      refine zx_iald hG rfl (h62).1 (h62).2 (inb_e h63) dX8_doOne_179 ?_
      refine zx_iload dX8_doOne_180 (q := 3) rfl ?_
      obtain ⟨y64, z65, h⟩ := bd_e h
      refine zx_callV (As := [.int (mI μ p60 (Int32.toNatClampNeg x8)), .int x5]) hG mf_X6_changedWord cv_X8_75 h50 ⟨by decide, by decide⟩ rfl rfl (Nat.le_of_ble_eq_true rfl) (s_X6_changedWord hG _ _ _ _ _ z65) (Nat.le_of_ble_eq_true rfl) dX8_doOne_182 ?_
      obtain ⟨h66, h⟩ := ck_e h
      obtain ⟨h67, h⟩ := ck_e h
      refine zx_iast hG rfl (h66).1 (h66).2 (inb_e h67) dX8_doOne_185 ?_
      obtain ⟨μ68, e70, h⟩ := zlm_e h
      refine zx_mem e70 ?_
      have e69 : mK μ68 = mK μ := (congrArg mK e70).trans rfl
      refine zx_goto (tgt := 236) dX8_doOne_186 (by decide) ?_
      refine zx_sub (L' := [(0, .ref a0), (7, .int x7)]) [0, 4] rfl ?_
      exact s_X8_doOne_b236 hG _ _ _ _ _ h
set_option maxRecDepth 100000 in
theorem s_X8_doOne_b83 {l : Launch} {G : Gt} (hG : Gok l G) (a0 : Nat) (x2 : Int32) (a3 : Nat) (x4 : Int32) (x5 : Int32) (x6 : Int32) (μ : Mm) (r : Int32) (μ' : Mm) (h : f_X8_doOne_b83 a0 x2 a3 x4 x5 x6 μ = some (r, μ')) : ZX l G mX8_doOne 83 [(0, .ref a0), (2, .int x2), (3, .ref a3), (4, .int x4), (5, .int x5), (6, .int x6)] [] μ (.inl (some (.int r))) μ' := by
  unfold f_X8_doOne_b83 at h
  refine zx_iload dX8_doOne_83 (q := 5) rfl ?_
  by_cases c22 : x6 = 0
  · have h := it_t c22 h
    refine zx_if_eq_t (tgt := 96) dX8_doOne_85 (by decide) c22 ?_
    refine zx_aload_n dX8_doOne_96 rfl (q := 2) rfl ?_
    refine zx_iload dX8_doOne_97 (q := 3) rfl ?_
    refine zx_iload dX8_doOne_99 (q := 4) rfl ?_
    obtain ⟨h23, h⟩ := ck_e h
    obtain ⟨y24, z25, h⟩ := bd_e h
    refine zx_callV (As := [.int x4, .int x5]) hG mf_X6_goesBy cv_X8_58 h23 ⟨by decide, by decide⟩ rfl rfl (Nat.le_of_ble_eq_true rfl) (s_X6_goesBy hG _ _ _ _ _ z25) (Nat.le_of_ble_eq_true rfl) dX8_doOne_101 ?_
    refine zx_istore (L' := [(7, .int y24), (0, .ref a0), (2, .int x2), (3, .ref a3), (4, .int x4), (5, .int x5), (6, .int x6)]) dX8_doOne_104 (by decide) rfl ?_
    refine zx_iload dX8_doOne_106 (q := 4) rfl ?_
    refine zx_aload_n dX8_doOne_108 rfl (q := 3) rfl ?_
    refine zx_getI hG fl_X8_61 h23 dX8_doOne_109 ?_
    refine zx_iadd dX8_doOne_112 ?_
    refine zx_istore (L' := [(8, .int (x4 + (mI μ a3 5))), (7, .int y24), (0, .ref a0), (2, .int x2), (3, .ref a3), (4, .int x4), (5, .int x5), (6, .int x6)]) dX8_doOne_113 (by decide) rfl ?_
    refine zx_aload_n dX8_doOne_115 rfl (q := 4) rfl ?_
    refine zx_getI hG fl_X8_51 h23 dX8_doOne_116 ?_
    refine zx_bipush (v := 9) dX8_doOne_119 iv_bipush_9 ?_
    by_cases c26 : ¬ (mI μ a3 1) = 9
    · have h := it_t c26 h
      refine zx_icmp_ne_t (tgt := 151) dX8_doOne_121 (by decide) c26 ?_
      refine zx_sub (L' := [(0, .ref a0), (3, .ref a3), (4, .int x4), (5, .int x5), (7, .int y24), (8, .int (x4 + (mI μ a3 5)))]) [2, 4, 5, 6, 1, 0] rfl ?_
      exact s_X8_doOne_b151 hG _ _ _ _ _ _ _ _ _ h
    · have h := it_f c26 h
      refine zx_icmp_ne_f (tgt := 151) dX8_doOne_121 (by decide) (Classical.not_not.mp c26) ?_
      refine zx_iload dX8_doOne_124 (q := 0) rfl ?_
      obtain ⟨y27, z28, h⟩ := bd_e h
      refine zx_callSN (As := [.int (x4 + (mI μ a3 5))]) hG mf_X10_isAddress cs_X8_64 ⟨by decide, by decide⟩ rfl rfl (Nat.le_of_ble_eq_true rfl) (s_X10_isAddress hG _ _ _ z28) (Nat.le_of_ble_eq_true rfl) dX8_doOne_126 ?_
      by_cases c29 : y27 = 0
      · have h := it_t c29 h
        refine zx_if_eq_t (tgt := 151) dX8_doOne_129 (by decide) c29 ?_
        refine zx_sub (L' := [(0, .ref a0), (3, .ref a3), (4, .int x4), (5, .int x5), (7, .int y24), (8, .int (x4 + (mI μ a3 5)))]) [2, 4, 5, 6, 1, 0] rfl ?_
        exact s_X8_doOne_b151 hG _ _ _ _ _ _ _ _ _ h
      · have h := it_f c29 h
        refine zx_if_eq_f (tgt := 151) dX8_doOne_129 (by decide) c29 ?_
        refine zx_aload_n dX8_doOne_132 rfl (q := 2) rfl ?_
        obtain ⟨h30, h⟩ := ck_e h
        obtain ⟨p31, h32, h⟩ := bd_e h
        refine zx_getR hG fl_X8_9 h30 h32 dX8_doOne_133 ?_
        refine zx_aload_n dX8_doOne_136 rfl (q := 4) rfl ?_
        refine zx_getI hG fl_X8_68 h23 dX8_doOne_137 ?_
        refine zx_aload_n dX8_doOne_140 rfl (q := 2) rfl ?_
        obtain ⟨p33, h34, h⟩ := bd_e h
        refine zx_getR hG fl_X8_15 h30 h34 dX8_doOne_141 ?_
        refine zx_iload dX8_doOne_144 (q := 0) rfl ?_
        obtain ⟨h35, h⟩ := ck_e h
        obtain ⟨h36, h⟩ := ck_e h
        refine zx_iald hG rfl (h35).1 (h35).2 (inb_e h36) dX8_doOne_146 ?_
        obtain ⟨h37, h⟩ := ck_e h
        obtain ⟨h38, h⟩ := ck_e h
        refine zx_iast hG rfl (h37).1 (h37).2 (inb_e h38) dX8_doOne_147 ?_
        obtain ⟨μ39, e41, h⟩ := zlm_e h
        refine zx_mem e41 ?_
        have e40 : mK μ39 = mK μ := (congrArg mK e41).trans rfl
        refine zx_goto (tgt := 236) dX8_doOne_148 (by decide) ?_
        refine zx_sub (L' := [(0, .ref a0), (7, .int y24)]) [2, 1] rfl ?_
        exact s_X8_doOne_b236 hG _ _ _ _ _ h
  · have h := it_f c22 h
    refine zx_if_eq_f (tgt := 96) dX8_doOne_85 (by decide) c22 ?_
    refine zx_aload_n dX8_doOne_88 rfl (q := 0) rfl ?_
    refine zx_iload_n dX8_doOne_89 rfl (q := 1) rfl ?_
    obtain ⟨h42, h⟩ := ck_e h
    obtain ⟨uu43, μ45, z44, h⟩ := cl_e h
    refine zx_callV (As := [.int x2]) hG mf_X8_goToTraps cv_X8_54 h42 ⟨by decide, by decide⟩ rfl rfl (Nat.le_of_ble_eq_true rfl) (s_X8_goToTraps hG _ _ _ _ _ z44) (Nat.le_of_ble_eq_true rfl) dX8_doOne_90 ?_
    refine zx_iload dX8_doOne_93 (q := 5) rfl ?_
    cases h
    exact zx_iret dX8_doOne_95 rfl
set_option maxRecDepth 100000 in
theorem s_X8_doOne {l : Launch} {G : Gt} (hG : Gok l G) (a0 : Nat) (a1 : Nat) (x2 : Int32) (μ : Mm) (r : Int32) (μ' : Mm) (h : f_X8_doOne a0 a1 x2 μ = some (r, μ')) : ZX l G mX8_doOne 0 [(0, .ref a0), (1, .ref a1), (2, .int x2)] [] μ (.inl (some (.int r))) μ' := by
  unfold f_X8_doOne at h
  refine zx_aload_n dX8_doOne_0 rfl (q := 0) rfl ?_
  obtain ⟨h1, h⟩ := ck_e h
  refine zx_getI hG fl_X8_18 h1 dX8_doOne_1 ?_
  by_cases c2 : (mI μ a0 2) < 0
  · have h := it_t c2 h
    refine zx_if_lt_t (tgt := 18) dX8_doOne_4 (by decide) c2 ?_
    refine zx_iconst (v := (-1)) dX8_doOne_18 iv_iconst_m1 ?_
    cases h
    exact zx_iret dX8_doOne_19 rfl
  · have h := it_f c2 h
    refine zx_if_lt_f (tgt := 18) dX8_doOne_4 (by decide) c2 ?_
    refine zx_aload_n dX8_doOne_7 rfl (q := 0) rfl ?_
    refine zx_getI hG fl_X8_18 h1 dX8_doOne_8 ?_
    refine zx_aload_n dX8_doOne_11 rfl (q := 1) rfl ?_
    obtain ⟨h3, h⟩ := ck_e h
    obtain ⟨y4, z5, h⟩ := bd_e h
    refine zx_callV (As := []) hG mf_Jx4a65c_size_8abf5 cv_X8_29 h3 ⟨by decide, by decide⟩ rfl rfl (Nat.le_of_ble_eq_true rfl) (s_Jx4a65c_size_8abf5 hG _ _ _ z5) (Nat.le_of_ble_eq_true rfl) dX8_doOne_12 ?_
    by_cases c6 : (mI μ a0 2) < y4
    · have h := it_t c6 h
      refine zx_icmp_lt_t (tgt := 20) dX8_doOne_15 (by decide) c6 ?_
      refine zx_aload_n dX8_doOne_20 rfl (q := 1) rfl ?_
      refine zx_aload_n dX8_doOne_21 rfl (q := 0) rfl ?_
      refine zx_getI hG fl_X8_18 h1 dX8_doOne_22 ?_
      obtain ⟨p7, z8, h⟩ := bd_e h
      refine zx_callV (As := [.int (mI μ a0 2)]) hG mf_Jx4a65c_get_915e3 cv_X8_35 h3 ⟨by decide, by decide⟩ rfl rfl (Nat.le_of_ble_eq_true rfl) (s_Jx4a65c_get_915e3 hG _ _ _ _ z8) (Nat.le_of_ble_eq_true rfl) dX8_doOne_25 ?_
      obtain ⟨h9, h⟩ := ck_e h
      refine zx_castO hG kt_X8_39 h9 dX8_doOne_28 ?_
      refine zx_astore_n (L' := [(3, .ref p7), (0, .ref a0), (1, .ref a1), (2, .int x2)]) dX8_doOne_31 rfl (by decide) rfl ?_
      refine zx_aload_n dX8_doOne_32 rfl (q := 1) rfl ?_
      obtain ⟨p10, h11, h⟩ := bd_e h
      refine zx_getR hG fl_X8_9 h1 h11 dX8_doOne_33 ?_
      refine zx_aload_n dX8_doOne_36 rfl (q := 0) rfl ?_
      refine zx_getI hG fl_X8_41 h9 dX8_doOne_37 ?_
      obtain ⟨h12, h⟩ := ck_e h
      obtain ⟨h13, h⟩ := ck_e h
      refine zx_iald hG rfl (h12).1 (h12).2 (inb_e h13) dX8_doOne_40 ?_
      refine zx_istore (L' := [(4, .int (mI μ p10 (Int32.toNatClampNeg (mI μ p7 3)))), (3, .ref p7), (0, .ref a0), (1, .ref a1), (2, .int x2)]) dX8_doOne_41 (by decide) rfl ?_
      refine zx_aload_n dX8_doOne_43 rfl (q := 2) rfl ?_
      obtain ⟨p14, h15, h⟩ := bd_e h
      refine zx_getR hG fl_X8_9 h1 h15 dX8_doOne_44 ?_
      refine zx_aload_n dX8_doOne_47 rfl (q := 1) rfl ?_
      refine zx_getI hG fl_X8_44 h9 dX8_doOne_48 ?_
      obtain ⟨h16, h⟩ := ck_e h
      obtain ⟨h17, h⟩ := ck_e h
      refine zx_iald hG rfl (h16).1 (h16).2 (inb_e h17) dX8_doOne_51 ?_
      refine zx_istore (L' := [(5, .int (mI μ p14 (Int32.toNatClampNeg (mI μ p7 4)))), (4, .int (mI μ p10 (Int32.toNatClampNeg (mI μ p7 3)))), (3, .ref p7), (0, .ref a0), (1, .ref a1), (2, .int x2)]) dX8_doOne_52 (by decide) rfl ?_
      refine zx_aload_n dX8_doOne_54 rfl (q := 2) rfl ?_
      refine zx_iload dX8_doOne_55 (q := 1) rfl ?_
      refine zx_iload dX8_doOne_57 (q := 0) rfl ?_
      obtain ⟨y18, z19, h⟩ := bd_e h
      refine zx_callV (As := [.int (mI μ p10 (Int32.toNatClampNeg (mI μ p7 3))), .int (mI μ p14 (Int32.toNatClampNeg (mI μ p7 4)))]) hG mf_X6_trapBy cv_X8_47 h9 ⟨by decide, by decide⟩ rfl rfl (Nat.le_of_ble_eq_true rfl) (s_X6_trapBy hG _ _ _ _ _ z19) (Nat.le_of_ble_eq_true rfl) dX8_doOne_59 ?_
      refine zx_istore (L' := [(6, .int y18), (5, .int (mI μ p14 (Int32.toNatClampNeg (mI μ p7 4)))), (4, .int (mI μ p10 (Int32.toNatClampNeg (mI μ p7 3)))), (3, .ref p7), (0, .ref a0), (1, .ref a1), (2, .int x2)]) dX8_doOne_62 (by decide) rfl ?_
      refine zx_aload_n dX8_doOne_64 rfl (q := 3) rfl ?_
      refine zx_getI hG fl_X8_51 h9 dX8_doOne_65 ?_
      refine zx_bipush (v := 21) dX8_doOne_68 iv_bipush_21 ?_
      by_cases c20 : ¬ (mI μ p7 1) = 21
      · have h := it_t c20 h
        refine zx_icmp_ne_t (tgt := 83) dX8_doOne_70 (by decide) c20 ?_
        refine zx_sub (L' := [(0, .ref a0), (2, .int x2), (3, .ref p7), (4, .int (mI μ p10 (Int32.toNatClampNeg (mI μ p7 3)))), (5, .int (mI μ p14 (Int32.toNatClampNeg (mI μ p7 4)))), (6, .int y18)]) [4, 6, 3, 2, 1, 0] rfl ?_
        exact s_X8_doOne_b83 hG _ _ _ _ _ _ _ _ _ h
      · have h := it_f c20 h
        refine zx_icmp_ne_f (tgt := 83) dX8_doOne_70 (by decide) (Classical.not_not.mp c20) ?_
        refine zx_aload_n dX8_doOne_73 rfl (q := 4) rfl ?_
        refine zx_getZ hG fl_X8_22 h1 dX8_doOne_74 ?_
        by_cases c21 : ¬ (zb (mI μ a0 3)) = 0
        · have h := it_t c21 h
          refine zx_if_ne_t (tgt := 83) dX8_doOne_77 (by decide) c21 ?_
          refine zx_sub (L' := [(0, .ref a0), (2, .int x2), (3, .ref p7), (4, .int (mI μ p10 (Int32.toNatClampNeg (mI μ p7 3)))), (5, .int (mI μ p14 (Int32.toNatClampNeg (mI μ p7 4)))), (6, .int y18)]) [4, 6, 3, 2, 1, 0] rfl ?_
          exact s_X8_doOne_b83 hG _ _ _ _ _ _ _ _ _ h
        · have h := it_f c21 h
          refine zx_if_ne_f (tgt := 83) dX8_doOne_77 (by decide) (Classical.not_not.mp c21) ?_
          refine zx_iconst (v := 5) dX8_doOne_80 iv_iconst_5 ?_
          refine zx_istore (L' := [(6, .int 5), (5, .int (mI μ p14 (Int32.toNatClampNeg (mI μ p7 4)))), (4, .int (mI μ p10 (Int32.toNatClampNeg (mI μ p7 3)))), (3, .ref p7), (0, .ref a0), (1, .ref a1), (2, .int x2)]) dX8_doOne_81 (by decide) rfl ?_
          refine zx_sub (L' := [(0, .ref a0), (2, .int x2), (3, .ref p7), (4, .int (mI μ p10 (Int32.toNatClampNeg (mI μ p7 3)))), (5, .int (mI μ p14 (Int32.toNatClampNeg (mI μ p7 4)))), (6, .int 5)]) [4, 6, 3, 2, 1, 0] rfl ?_
          exact s_X8_doOne_b83 hG _ _ _ _ _ _ _ _ _ h
    · have h := it_f c6 h
      refine zx_icmp_lt_f (tgt := 20) dX8_doOne_15 (by decide) c6 ?_
      refine zx_iconst (v := (-1)) dX8_doOne_18 iv_iconst_m1 ?_
      cases h
      exact zx_iret dX8_doOne_19 rfl
def f_X2_init (a0 : Nat) (x1 : Int32) (x2 : Int32) (x3 : Int32) (x4 : Int32) (a5 : Nat) (μ : Mm) : Option (Unit × Mm) :=
  ck (mK μ a0 = 103) <|
  zl (sI μ a0 0 x1) fun μ2 =>
  zl (sI μ2 a0 1 x2) fun μ5 =>
  zl (sI μ5 a0 2 x3) fun μ8 =>
  zl (sI μ8 a0 3 x4) fun μ11 =>
  zl (sR μ11 a0 4 (some a5)) fun μ14 =>
  some ((), μ14)
set_option maxRecDepth 100000 in
theorem s_X2_init {l : Launch} {G : Gt} (hG : Gok l G) (a0 : Nat) (x1 : Int32) (x2 : Int32) (x3 : Int32) (x4 : Int32) (a5 : Nat) (μ : Mm) (r : Unit) (μ' : Mm) (h : f_X2_init a0 x1 x2 x3 x4 a5 μ = some (r, μ')) : ZX l G mX2_init 0 [(0, .ref a0), (1, .int x1), (2, .int x2), (3, .int x3), (4, .int x4), (5, .ref a5)] [] μ (.inl none) μ' := by
  unfold f_X2_init at h
  refine zx_aload_n dX2_init_0 rfl (q := 0) rfl ?_
  refine zx_objInit hG oi_X2_1 w_oi2 w_oi3 (by decide) (by decide) (Nat.le_of_ble_eq_true rfl) dX2_init_1 ?_
  refine zx_aload_n dX2_init_4 rfl (q := 0) rfl ?_
  refine zx_iload_n dX2_init_5 rfl (q := 1) rfl ?_
  obtain ⟨h1, h⟩ := ck_e h
  refine zx_putIF hG fl_X2_7 fn_3_0 rfl h1 dX2_init_6 ?_
  obtain ⟨μ2, e4, h⟩ := zlm_e h
  refine zx_mem e4 ?_
  have e3 : mK μ2 = mK μ := (congrArg mK e4).trans rfl
  refine zx_aload_n dX2_init_9 rfl (q := 0) rfl ?_
  refine zx_iload_n dX2_init_10 rfl (q := 2) rfl ?_
  refine zx_putIF hG fl_X2_13 fn_3_1 rfl (kp_o (e3) h1) dX2_init_11 ?_
  obtain ⟨μ5, e7, h⟩ := zlm_e h
  refine zx_mem e7 ?_
  have e6 : mK μ5 = mK μ2 := (congrArg mK e7).trans rfl
  refine zx_aload_n dX2_init_14 rfl (q := 0) rfl ?_
  refine zx_iload_n dX2_init_15 rfl (q := 3) rfl ?_
  refine zx_putIF hG fl_X2_16 fn_3_2 rfl (kp_o (Eq.trans e6 e3) h1) dX2_init_16 ?_
  obtain ⟨μ8, e10, h⟩ := zlm_e h
  refine zx_mem e10 ?_
  have e9 : mK μ8 = mK μ5 := (congrArg mK e10).trans rfl
  refine zx_aload_n dX2_init_19 rfl (q := 0) rfl ?_
  refine zx_iload dX2_init_20 (q := 4) rfl ?_
  refine zx_putIF hG fl_X2_19 fn_3_3 rfl (kp_o (Eq.trans (Eq.trans e9 e6) e3) h1) dX2_init_22 ?_
  obtain ⟨μ11, e13, h⟩ := zlm_e h
  refine zx_mem e13 ?_
  have e12 : mK μ11 = mK μ8 := (congrArg mK e13).trans rfl
  refine zx_aload_n dX2_init_25 rfl (q := 0) rfl ?_
  refine zx_aload dX2_init_26 (q := 5) rfl ?_
  refine zx_putRF hG fl_X2_22 fn_3_4 rfl (kp_o (Eq.trans (Eq.trans (Eq.trans e12 e9) e6) e3) h1) dX2_init_28 ?_
  obtain ⟨μ14, e16, h⟩ := zlm_e h
  refine zx_mem e16 ?_
  have e15 : mK μ14 = mK μ11 := (congrArg mK e16).trans rfl
  cases h
  exact zx_vret dX2_init_31 rfl
def f_X0_addEnd_b56 (a0 : Nat) (x1 : Int32) (x2 : Int32) (a3 : Nat) (x4 : Int32) (x5 : Int32) (μ : Mm) : Option (Unit × Mm) :=
  ck (mK μ a0 = 101) <|
  bd (mR μ a0 8) fun p27 =>
  zl (mN μ) fun p29 =>
  zl (nw μ 103 0 5) fun μ30 =>
  cl (f_X2_init p29 x1 x2 x5 x4 a3 μ30) fun _ μ36 =>
  ck (mK μ36 p27 = 100) <|
  cl (f_Jx4a65c_add_9ea2d p27 p29 μ36) fun y38 μ40 =>
  some ((), μ40)
def f_X0_addEnd (a0 : Nat) (x1 : Int32) (x2 : Int32) (a3 : Nat) (μ : Mm) : Option (Unit × Mm) :=
  ck (mK μ a0 = 101) <|
  bd (mR μ a0 3) fun p2 =>
  ck (mK μ p2 = 109) <|
  if ¬ x1 = 9 then
    bd (mR μ a0 3) fun p6 =>
    bd (mR μ a0 0) fun p8 =>
    bd (mR μ a0 1) fun p10 =>
    ck (mK μ p10 = 110) <|
    ck (mK μ p6 = 109) <|
    cl (f_X8_doOne p6 p8 (mI μ p10 3) μ) fun y14 μ16 =>
    f_X0_addEnd_b56 a0 x1 x2 a3 (mI μ p2 2) y14 μ16
  else
    bd (mR μ a0 3) fun p17 =>
    bd (mR μ a0 1) fun p19 =>
    ck (mK μ p19 = 110) <|
    ck (mK μ p17 = 109) <|
    cl (f_X8_goToInterrupts p17 (mI μ p19 4) μ) fun _ μ25 =>
    f_X0_addEnd_b56 a0 x1 x2 a3 (mI μ p2 2) 9 μ25
set_option maxRecDepth 100000 in
theorem s_X0_addEnd_b56 {l : Launch} {G : Gt} (hG : Gok l G) (a0 : Nat) (x1 : Int32) (x2 : Int32) (a3 : Nat) (x4 : Int32) (x5 : Int32) (μ : Mm) (r : Unit) (μ' : Mm) (h : f_X0_addEnd_b56 a0 x1 x2 a3 x4 x5 μ = some (r, μ')) : ZX l G mX0_addEnd 56 [(0, .ref a0), (1, .int x1), (2, .int x2), (3, .ref a3), (4, .int x4), (5, .int x5)] [] μ (.inl none) μ' := by
  unfold f_X0_addEnd_b56 at h
  refine zx_aload_n dX0_addEnd_56 rfl (q := 0) rfl ?_
  obtain ⟨h26, h⟩ := ck_e h
  obtain ⟨p27, h28, h⟩ := bd_e h
  refine zx_getR hG fl_X0_63 h26 h28 dX0_addEnd_57 ?_
  refine zx_new hG nw_X0_323 dX0_addEnd_60 ?_
  obtain ⟨p29, e32, h⟩ := zlm_e h
  obtain ⟨μ30, e33, h⟩ := zlm_e h
  refine zx_mem e33 (zx_stk e32 ?_)
  have h31 : mK μ30 p29 = 103 := nw_Kp e33 e32
  refine zx_dup dX0_addEnd_63 rfl ?_
  refine zx_iload_n dX0_addEnd_64 rfl (q := 1) rfl ?_
  refine zx_iload_n dX0_addEnd_65 rfl (q := 2) rfl ?_
  refine zx_iload dX0_addEnd_66 (q := 5) rfl ?_
  refine zx_iload dX0_addEnd_68 (q := 4) rfl ?_
  refine zx_aload_n dX0_addEnd_70 rfl (q := 3) rfl ?_
  obtain ⟨uu34, μ36, z35, h⟩ := cl_e h
  refine zx_callI (As := [.int x1, .int x2, .int x5, .int x4, .ref a3]) hG mf_X2_init ci_X0_325 ⟨by decide, by decide⟩ rfl rfl (Nat.le_of_ble_eq_true rfl) (s_X2_init hG _ _ _ _ _ _ _ _ _ z35) (Nat.le_of_ble_eq_true rfl) dX0_addEnd_71 ?_
  obtain ⟨h37, h⟩ := ck_e h
  obtain ⟨y38, μ40, z39, h⟩ := cl_e h
  refine zx_callV (As := [.ref p29]) hG mf_Jx4a65c_add_9ea2d cv_X0_328 h37 ⟨by decide, by decide⟩ rfl rfl (Nat.le_of_ble_eq_true rfl) (s_Jx4a65c_add_9ea2d hG _ _ _ _ _ z39) (Nat.le_of_ble_eq_true rfl) dX0_addEnd_74 ?_
  refine zx_pop dX0_addEnd_77 rfl ?_
  cases h
  exact zx_vret dX0_addEnd_78 rfl
set_option maxRecDepth 100000 in
theorem s_X0_addEnd {l : Launch} {G : Gt} (hG : Gok l G) (a0 : Nat) (x1 : Int32) (x2 : Int32) (a3 : Nat) (μ : Mm) (r : Unit) (μ' : Mm) (h : f_X0_addEnd a0 x1 x2 a3 μ = some (r, μ')) : ZX l G mX0_addEnd 0 [(0, .ref a0), (1, .int x1), (2, .int x2), (3, .ref a3)] [] μ (.inl none) μ' := by
  unfold f_X0_addEnd at h
  refine zx_aload_n dX0_addEnd_0 rfl (q := 0) rfl ?_
  obtain ⟨h1, h⟩ := ck_e h
  obtain ⟨p2, h3, h⟩ := bd_e h
  refine zx_getR hG fl_X0_35 h1 h3 dX0_addEnd_1 ?_
  obtain ⟨h4, h⟩ := ck_e h
  refine zx_getI hG fl_X0_315 h4 dX0_addEnd_4 ?_
  refine zx_istore (L' := [(4, .int (mI μ p2 2)), (0, .ref a0), (1, .int x1), (2, .int x2), (3, .ref a3)]) dX0_addEnd_7 (by decide) rfl ?_
  refine zx_bipush (v := 9) dX0_addEnd_9 iv_bipush_9 ?_
  refine zx_istore (L' := [(5, .int 9), (4, .int (mI μ p2 2)), (0, .ref a0), (1, .int x1), (2, .int x2), (3, .ref a3)]) dX0_addEnd_11 (by decide) rfl ?_
  refine zx_iload_n dX0_addEnd_13 rfl (q := 3) rfl ?_
  refine zx_bipush (v := 9) dX0_addEnd_14 iv_bipush_9 ?_
  by_cases c5 : ¬ x1 = 9
  · have h := it_t c5 h
    refine zx_icmp_ne_t (tgt := 36) dX0_addEnd_16 (by decide) c5 ?_
    refine zx_aload_n dX0_addEnd_36 rfl (q := 2) rfl ?_
    obtain ⟨p6, h7, h⟩ := bd_e h
    refine zx_getR hG fl_X0_35 h1 h7 dX0_addEnd_37 ?_
    refine zx_aload_n dX0_addEnd_40 rfl (q := 2) rfl ?_
    obtain ⟨p8, h9, h⟩ := bd_e h
    refine zx_getR hG fl_X0_12 h1 h9 dX0_addEnd_41 ?_
    refine zx_aload_n dX0_addEnd_44 rfl (q := 2) rfl ?_
    obtain ⟨p10, h11, h⟩ := bd_e h
    refine zx_getR hG fl_X0_21 h1 h11 dX0_addEnd_45 ?_
    obtain ⟨h12, h⟩ := ck_e h
    refine zx_getI hG fl_X0_295 h12 dX0_addEnd_48 ?_
    obtain ⟨h13, h⟩ := ck_e h
    obtain ⟨y14, μ16, z15, h⟩ := cl_e h
    refine zx_callV (As := [.ref p8, .int (mI μ p10 3)]) hG mf_X8_doOne cv_X0_319 h13 ⟨by decide, by decide⟩ rfl rfl (Nat.le_of_ble_eq_true rfl) (s_X8_doOne hG _ _ _ _ _ _ z15) (Nat.le_of_ble_eq_true rfl) dX0_addEnd_51 ?_
    refine zx_istore (L' := [(5, .int y14), (4, .int (mI μ p2 2)), (0, .ref a0), (1, .int x1), (2, .int x2), (3, .ref a3)]) dX0_addEnd_54 (by decide) rfl ?_
    refine zx_sub (L' := [(0, .ref a0), (1, .int x1), (2, .int x2), (3, .ref a3), (4, .int (mI μ p2 2)), (5, .int y14)]) [2, 3, 4, 5, 1, 0] rfl ?_
    exact s_X0_addEnd_b56 hG _ _ _ _ _ _ _ _ _ h
  · have h := it_f c5 h
    refine zx_icmp_ne_f (tgt := 36) dX0_addEnd_16 (by decide) (Classical.not_not.mp c5) ?_
    refine zx_aload_n dX0_addEnd_19 rfl (q := 2) rfl ?_
    obtain ⟨p17, h18, h⟩ := bd_e h
    refine zx_getR hG fl_X0_35 h1 h18 dX0_addEnd_20 ?_
    refine zx_aload_n dX0_addEnd_23 rfl (q := 2) rfl ?_
    obtain ⟨p19, h20, h⟩ := bd_e h
    refine zx_getR hG fl_X0_21 h1 h20 dX0_addEnd_24 ?_
    obtain ⟨h21, h⟩ := ck_e h
    refine zx_getI hG fl_X0_252 h21 dX0_addEnd_27 ?_
    obtain ⟨h22, h⟩ := ck_e h
    obtain ⟨uu23, μ25, z24, h⟩ := cl_e h
    refine zx_callV (As := [.int (mI μ p19 4)]) hG mf_X8_goToInterrupts cv_X0_316 h22 ⟨by decide, by decide⟩ rfl rfl (Nat.le_of_ble_eq_true rfl) (s_X8_goToInterrupts hG _ _ _ _ _ z24) (Nat.le_of_ble_eq_true rfl) dX0_addEnd_30 ?_
    refine zx_goto (tgt := 56) dX0_addEnd_33 (by decide) ?_
    refine zx_sub (L' := [(0, .ref a0), (1, .int x1), (2, .int x2), (3, .ref a3), (4, .int (mI μ p2 2)), (5, .int 9)]) [2, 3, 4, 5, 1, 0] rfl ?_
    exact s_X0_addEnd_b56 hG _ _ _ _ _ _ _ _ _ h
def f_X10_indexOfReason_b2 : Nat → Int32 → Int32 → Mm → Option Int32
  | 0, _, _, _ => none
  | n + 1, x0, x1, μ =>
  bd (mR μ 0 1) fun qq1 =>
  if 8 ≤ x1 then
    some ((-1))
  else
    bd (mR μ 0 1) fun qq4 =>
    ck (inb x1 8) <|
    if ¬ (zstr x1) = x0 then
      f_X10_indexOfReason_b2 n x0 (x1 + 1) μ
    else
      some x1
def f_X10_indexOfReason (x0 : Int32) (μ : Mm) : Option Int32 :=
  f_X10_indexOfReason_b2 5000 x0 0 μ
set_option maxRecDepth 100000 in
theorem s_X10_indexOfReason_b2 {l : Launch} {G : Gt} (hG : Gok l G) : ∀ (n : Nat) (x0 : Int32) (x1 : Int32) (μ : Mm) (r : Int32), f_X10_indexOfReason_b2 n x0 x1 μ = some r → ZX l G mX10_indexOfReason 2 [(0, .int x0), (1, .int x1)] [] μ (.inl (some (.int r))) μ := by
  intro n
  induction n with
  | zero =>
    intro x0 x1 μ r h
    cases h
  | succ n ih =>
    intro x0 x1 μ r h
    unfold f_X10_indexOfReason_b2 at h
    refine zx_iload_n dX10_indexOfReason_2 rfl (q := 1) rfl ?_
    obtain ⟨qq1, h2, h⟩ := bd_e h
    refine zx_ldcS1 hG h2 dX10_indexOfReason_3 ?_
    refine zx_strlenX10 hG (by assumption) (by decide) (by decide) dX10_indexOfReason_6 ?_
    by_cases c3 : 8 ≤ x1
    · have h := it_t c3 h
      refine zx_icmp_ge_t (tgt := 31) dX10_indexOfReason_9 (by decide) c3 ?_
      refine zx_iconst (v := (-1)) dX10_indexOfReason_31 iv_iconst_m1 ?_
      cases h
      exact zx_iret dX10_indexOfReason_32 rfl
    · have h := it_f c3 h
      refine zx_icmp_ge_f (tgt := 31) dX10_indexOfReason_9 (by decide) c3 ?_
      obtain ⟨qq4, h5, h⟩ := bd_e h
      refine zx_ldcS1 hG h5 dX10_indexOfReason_12 ?_
      refine zx_iload_n dX10_indexOfReason_15 rfl (q := 1) rfl ?_
      obtain ⟨h6, h⟩ := ck_e h
      refine zx_charAtX10 hG (by assumption) (inb_e h6) (by decide) (by decide) dX10_indexOfReason_16 ?_
      refine zx_iload_n dX10_indexOfReason_19 rfl (q := 0) rfl ?_
      by_cases c7 : ¬ (zstr x1) = x0
      · have h := it_t c7 h
        refine zx_icmp_ne_t (tgt := 25) dX10_indexOfReason_20 (by decide) c7 ?_
        refine zx_iinc (q := 1) (v := x1 + 1) (L' := [(1, .int (x1 + 1)), (0, .int x0)]) dX10_indexOfReason_25 rfl rfl (by decide) rfl ?_
        refine zx_goto (tgt := 2) dX10_indexOfReason_28 (by decide) ?_
        refine zx_sub (L' := [(0, .int x0), (1, .int (x1 + 1))]) [1, 0] rfl ?_
        exact ih _ _ _ _ h
      · have h := it_f c7 h
        refine zx_icmp_ne_f (tgt := 25) dX10_indexOfReason_20 (by decide) (Classical.not_not.mp c7) ?_
        refine zx_iload_n dX10_indexOfReason_23 rfl (q := 1) rfl ?_
        cases h
        exact zx_iret dX10_indexOfReason_24 rfl
set_option maxRecDepth 100000 in
theorem s_X10_indexOfReason {l : Launch} {G : Gt} (hG : Gok l G) (x0 : Int32) (μ : Mm) (r : Int32) (h : f_X10_indexOfReason x0 μ = some r) : ZX l G mX10_indexOfReason 0 [(0, .int x0)] [] μ (.inl (some (.int r))) μ := by
  unfold f_X10_indexOfReason at h
  refine zx_iconst (v := 0) dX10_indexOfReason_0 iv_iconst_0 ?_
  refine zx_istore_n (L' := [(1, .int 0), (0, .int x0)]) dX10_indexOfReason_1 rfl (by decide) rfl ?_
  refine zx_sub (L' := [(0, .int x0), (1, .int 0)]) [1, 0] rfl ?_
  exact s_X10_indexOfReason_b2 hG 5000 _ _ _ _ h
def f_X1_lose (a0 : Nat) (x1 : Int32) (μ : Mm) : Option (Unit × Mm) :=
  bd (f_X10_indexOfReason x1 μ) fun y1 =>
  if y1 = ((-1)) then
    some ((), μ)
  else
    ck (mK μ a0 = 102) <|
    bd (mR μ a0 0) fun p5 =>
    ck (isA 1 (mK μ p5)) <|
    ck (inb y1 (mL μ p5)) <|
    ck (inb y1 (mL μ p5)) <|
    zl (sI μ p5 (Int32.toNatClampNeg y1) ((mI μ p5 (Int32.toNatClampNeg y1)) + 1)) fun μ10 =>
    some ((), μ10)
set_option maxRecDepth 100000 in
theorem s_X1_lose {l : Launch} {G : Gt} (hG : Gok l G) (a0 : Nat) (x1 : Int32) (μ : Mm) (r : Unit) (μ' : Mm) (h : f_X1_lose a0 x1 μ = some (r, μ')) : ZX l G mX1_lose 0 [(0, .ref a0), (1, .int x1)] [] μ (.inl none) μ' := by
  unfold f_X1_lose at h
  refine zx_iload_n dX1_lose_0 rfl (q := 1) rfl ?_
  obtain ⟨y1, z2, h⟩ := bd_e h
  refine zx_callSN (As := [.int x1]) hG mf_X10_indexOfReason cs_X1_42 ⟨by decide, by decide⟩ rfl rfl (Nat.le_of_ble_eq_true rfl) (s_X10_indexOfReason hG _ _ _ z2) (Nat.le_of_ble_eq_true rfl) dX1_lose_1 ?_
  refine zx_istore_n (L' := [(2, .int y1), (0, .ref a0), (1, .int x1)]) dX1_lose_4 rfl (by decide) rfl ?_
  refine zx_iload_n dX1_lose_5 rfl (q := 0) rfl ?_
  refine zx_iconst (v := (-1)) dX1_lose_6 iv_iconst_m1 ?_
  by_cases c3 : y1 = ((-1))
  · have h := it_t c3 h
    refine zx_icmp_eq_t (tgt := 20) dX1_lose_7 (by decide) c3 ?_
    cases h
    exact zx_vret dX1_lose_20 rfl
  · have h := it_f c3 h
    refine zx_icmp_eq_f (tgt := 20) dX1_lose_7 (by decide) c3 ?_
    refine zx_aload_n dX1_lose_10 rfl (q := 1) rfl ?_
    obtain ⟨h4, h⟩ := ck_e h
    obtain ⟨p5, h6, h⟩ := bd_e h
    refine zx_getR hG fl_X1_17 h4 h6 dX1_lose_11 ?_
    refine zx_iload_n dX1_lose_14 rfl (q := 0) rfl ?_
    refine zx_dup2 dX1_lose_15 rfl rfl ?_
    obtain ⟨h7, h⟩ := ck_e h
    obtain ⟨h8, h⟩ := ck_e h
    refine zx_iald hG rfl (h7).1 (h7).2 (inb_e h8) dX1_lose_16 ?_
    refine zx_iconst (v := 1) dX1_lose_17 iv_iconst_1 ?_
    refine zx_iadd dX1_lose_18 ?_
    obtain ⟨h9, h⟩ := ck_e h
    refine zx_iast hG rfl (h7).1 (h7).2 (inb_e h9) dX1_lose_19 ?_
    obtain ⟨μ10, e12, h⟩ := zlm_e h
    refine zx_mem e12 ?_
    have e11 : mK μ10 = mK μ := (congrArg mK e12).trans rfl
    cases h
    exact zx_vret dX1_lose_20 rfl
def f_X0_takeInterrupt (a0 : Nat) (μ : Mm) : Option (Unit × Mm) :=
  ck (mK μ a0 = 101) <|
  cl (f_X10_newLife μ) fun p2 μ4 =>
  ck (mK μ4 a0 = 101) <|
  cl (f_X0_addEnd a0 9 (mI μ a0 17) p2 μ4) fun _ μ8 =>
  ck (mK μ8 a0 = 101) <|
  zl (sI μ8 a0 14 0) fun μ10 =>
  zl (sI μ10 a0 15 1) fun μ13 =>
  zl (sI μ13 a0 16 (mI μ13 a0 17)) fun μ16 =>
  bd (mR μ16 a0 1) fun p19 =>
  ck (mK μ16 p19 = 110) <|
  zl (sI μ16 a0 17 (mI μ16 p19 4)) fun μ22 =>
  cl (f_X0_throwAwayFrom a0 0 μ22) fun _ μ27 =>
  ck (mK μ27 a0 = 101) <|
  bd (mR μ27 a0 6) fun p29 =>
  ck (smn 0) <|
  zl (mN μ27) fun p32 =>
  zl (nw μ27 41 (Int32.toNatClampNeg 0) (Int32.toNatClampNeg 0)) fun μ33 =>
  ck (mK μ33 p29 = 105) <|
  cl (f_X4_goOn p29 (mI μ27 a0 17) p32 μ33) fun _ μ41 =>
  ck (mK μ41 a0 = 101) <|
  bd (mR μ41 a0 2) fun p43 =>
  ck (mK μ41 p43 = 102) <|
  cl (f_X1_lose p43 105 μ41) fun _ μ48 =>
  some ((), μ48)
set_option maxRecDepth 100000 in
theorem s_X0_takeInterrupt {l : Launch} {G : Gt} (hG : Gok l G) (a0 : Nat) (μ : Mm) (r : Unit) (μ' : Mm) (h : f_X0_takeInterrupt a0 μ = some (r, μ')) : ZX l G mX0_takeInterrupt 0 [(0, .ref a0)] [] μ (.inl none) μ' := by
  unfold f_X0_takeInterrupt at h
  refine zx_aload_n dX0_takeInterrupt_0 rfl (q := 0) rfl ?_
  refine zx_bipush (v := 9) dX0_takeInterrupt_1 iv_bipush_9 ?_
  refine zx_aload_n dX0_takeInterrupt_3 rfl (q := 0) rfl ?_
  obtain ⟨h1, h⟩ := ck_e h
  refine zx_getI hG fl_X0_94 h1 dX0_takeInterrupt_4 ?_
  obtain ⟨p2, μ4, z3, h⟩ := cl_e h
  refine zx_callSN (As := []) hG mf_X10_newLife cs_X0_291 ⟨by decide, by decide⟩ rfl rfl (Nat.le_of_ble_eq_true rfl) (s_X10_newLife hG _ _ _ z3) (Nat.le_of_ble_eq_true rfl) dX0_takeInterrupt_7 ?_
  obtain ⟨h5, h⟩ := ck_e h
  obtain ⟨uu6, μ8, z7, h⟩ := cl_e h
  refine zx_callV (As := [.int 9, .int (mI μ a0 17), .ref p2]) hG mf_X0_addEnd cv_X0_264 h5 ⟨by decide, by decide⟩ rfl rfl (Nat.le_of_ble_eq_true rfl) (s_X0_addEnd hG _ _ _ _ _ _ _ z7) (Nat.le_of_ble_eq_true rfl) dX0_takeInterrupt_10 ?_
  refine zx_aload_n dX0_takeInterrupt_13 rfl (q := 0) rfl ?_
  refine zx_iconst (v := 0) dX0_takeInterrupt_14 iv_iconst_0 ?_
  obtain ⟨h9, h⟩ := ck_e h
  refine zx_putZ hG fl_X0_85 fn_1_14 h9 zb_0 dX0_takeInterrupt_15 ?_
  obtain ⟨μ10, e12, h⟩ := zlm_e h
  refine zx_mem e12 ?_
  have e11 : mK μ10 = mK μ8 := (congrArg mK e12).trans rfl
  refine zx_aload_n dX0_takeInterrupt_18 rfl (q := 0) rfl ?_
  refine zx_iconst (v := 1) dX0_takeInterrupt_19 iv_iconst_1 ?_
  refine zx_putZ hG fl_X0_88 fn_1_15 (kp_o (e11) h9) zb_1 dX0_takeInterrupt_20 ?_
  obtain ⟨μ13, e15, h⟩ := zlm_e h
  refine zx_mem e15 ?_
  have e14 : mK μ13 = mK μ10 := (congrArg mK e15).trans rfl
  refine zx_aload_n dX0_takeInterrupt_23 rfl (q := 0) rfl ?_
  refine zx_aload_n dX0_takeInterrupt_24 rfl (q := 0) rfl ?_
  refine zx_getI hG fl_X0_94 (kp_o (Eq.trans e14 e11) h9) dX0_takeInterrupt_25 ?_
  refine zx_putI hG fl_X0_91 fn_1_16 (kp_o (Eq.trans e14 e11) h9) dX0_takeInterrupt_28 ?_
  obtain ⟨μ16, e18, h⟩ := zlm_e h
  refine zx_mem e18 ?_
  have e17 : mK μ16 = mK μ13 := (congrArg mK e18).trans rfl
  refine zx_aload_n dX0_takeInterrupt_31 rfl (q := 0) rfl ?_
  refine zx_aload_n dX0_takeInterrupt_32 rfl (q := 0) rfl ?_
  obtain ⟨p19, h20, h⟩ := bd_e h
  refine zx_getR hG fl_X0_21 (kp_o (Eq.trans (Eq.trans e17 e14) e11) h9) h20 dX0_takeInterrupt_33 ?_
  obtain ⟨h21, h⟩ := ck_e h
  refine zx_getI hG fl_X0_252 h21 dX0_takeInterrupt_36 ?_
  refine zx_putI hG fl_X0_94 fn_1_17 (kp_o (Eq.trans (Eq.trans e17 e14) e11) h9) dX0_takeInterrupt_39 ?_
  obtain ⟨μ22, e24, h⟩ := zlm_e h
  refine zx_mem e24 ?_
  have e23 : mK μ22 = mK μ16 := (congrArg mK e24).trans rfl
  refine zx_aload_n dX0_takeInterrupt_42 rfl (q := 0) rfl ?_
  refine zx_iconst (v := 0) dX0_takeInterrupt_43 iv_iconst_0 ?_
  obtain ⟨uu25, μ27, z26, h⟩ := cl_e h
  refine zx_callV (As := [.int 0]) hG mf_X0_throwAwayFrom cv_X0_204 (kp_o (Eq.trans (Eq.trans (Eq.trans e23 e17) e14) e11) h9) ⟨by decide, by decide⟩ rfl rfl (Nat.le_of_ble_eq_true rfl) (s_X0_throwAwayFrom hG _ _ _ _ _ z26) (Nat.le_of_ble_eq_true rfl) dX0_takeInterrupt_44 ?_
  refine zx_aload_n dX0_takeInterrupt_47 rfl (q := 0) rfl ?_
  obtain ⟨h28, h⟩ := ck_e h
  obtain ⟨p29, h30, h⟩ := bd_e h
  refine zx_getR hG fl_X0_56 h28 h30 dX0_takeInterrupt_48 ?_
  refine zx_aload_n dX0_takeInterrupt_51 rfl (q := 0) rfl ?_
  refine zx_getI hG fl_X0_94 h28 dX0_takeInterrupt_52 ?_
  refine zx_iconst (v := 0) dX0_takeInterrupt_55 iv_iconst_0 ?_
  obtain ⟨h31, h⟩ := ck_e h
  refine zx_newa 41 (at9 := .int) hG w_ac_int (by decide) (by decide) (smn_e h31) (h31).2 dX0_takeInterrupt_56 ?_
  obtain ⟨p32, e35, h⟩ := zlm_e h
  obtain ⟨μ33, e36, h⟩ := zlm_e h
  refine zx_mem e36 (zx_stk e35 ?_)
  have h34 : mK μ33 p32 = 41 := nw_Kp e36 e35
  have h37 : isA 1 (mK μ33 p32) := by rw [h34]; decide
  obtain ⟨h38, h⟩ := ck_e h
  obtain ⟨uu39, μ41, z40, h⟩ := cl_e h
  refine zx_callV (As := [.int (mI μ27 a0 17), .ref p32]) hG mf_X4_goOn cv_X0_210 h38 ⟨by decide, by decide⟩ rfl rfl (Nat.le_of_ble_eq_true rfl) (s_X4_goOn hG _ _ _ _ _ _ z40) (Nat.le_of_ble_eq_true rfl) dX0_takeInterrupt_58 ?_
  refine zx_aload_n dX0_takeInterrupt_61 rfl (q := 0) rfl ?_
  obtain ⟨h42, h⟩ := ck_e h
  obtain ⟨p43, h44, h⟩ := bd_e h
  refine zx_getR hG fl_X0_28 h42 h44 dX0_takeInterrupt_62 ?_
  refine zx_bipush (v := 105) dX0_takeInterrupt_65 iv_bipush_105 ?_
  obtain ⟨h45, h⟩ := ck_e h
  obtain ⟨uu46, μ48, z47, h⟩ := cl_e h
  refine zx_callV (As := [.int 105]) hG mf_X1_lose cv_X0_271 h45 ⟨by decide, by decide⟩ rfl rfl (Nat.le_of_ble_eq_true rfl) (s_X1_lose hG _ _ _ _ _ z47) (Nat.le_of_ble_eq_true rfl) dX0_takeInterrupt_67 ?_
  cases h
  exact zx_vret dX0_takeInterrupt_70 rfl
def f_Jx4a65c_isEmpty_aae02 (a0 : Nat) (μ : Mm) : Option Int32 :=
  ck (mK μ a0 = 100) <|
  if ¬ (mI μ a0 2) = 0 then
    some 0
  else
    some 1
set_option maxRecDepth 100000 in
theorem s_Jx4a65c_isEmpty_aae02 {l : Launch} {G : Gt} (hG : Gok l G) (a0 : Nat) (μ : Mm) (r : Int32) (h : f_Jx4a65c_isEmpty_aae02 a0 μ = some r) : ZX l G mJx4a65c_isEmpty_aae02 0 [(0, .ref a0)] [] μ (.inl (some (.int r))) μ := by
  unfold f_Jx4a65c_isEmpty_aae02 at h
  refine zx_aload_n dJx4a65c_isEmpty_aae02_0 rfl (q := 0) rfl ?_
  obtain ⟨h1, h⟩ := ck_e h
  refine zx_getI hG fl_Jx4a65c_48 h1 dJx4a65c_isEmpty_aae02_1 ?_
  by_cases c2 : ¬ (mI μ a0 2) = 0
  · have h := it_t c2 h
    refine zx_if_ne_t (tgt := 11) dJx4a65c_isEmpty_aae02_4 (by decide) c2 ?_
    refine zx_iconst (v := 0) dJx4a65c_isEmpty_aae02_11 iv_iconst_0 ?_
    cases h
    exact zx_zretZ dJx4a65c_isEmpty_aae02_12 rfl zb_0
  · have h := it_f c2 h
    refine zx_if_ne_f (tgt := 11) dJx4a65c_isEmpty_aae02_4 (by decide) (Classical.not_not.mp c2) ?_
    refine zx_iconst (v := 1) dJx4a65c_isEmpty_aae02_7 iv_iconst_1 ?_
    refine zx_goto (tgt := 12) dJx4a65c_isEmpty_aae02_8 (by decide) ?_
    cases h
    exact zx_zretZ dJx4a65c_isEmpty_aae02_12 rfl zb_1
def f_X5_hasValue (a0 : Nat) (x1 : Int32) (μ : Mm) : Option Int32 :=
  if x1 < 0 then
    some 0
  else
    if 24 ≤ x1 then
      some 0
    else
      ck (mK μ a0 = 106) <|
      bd (mR μ a0 3) fun p4 =>
      ck (isA 2 (mK μ p4)) <|
      ck (inb x1 (mL μ p4)) <|
      if (zb (mI μ p4 (Int32.toNatClampNeg x1))) = 0 then
        some 0
      else
        some 1
set_option maxRecDepth 100000 in
theorem s_X5_hasValue {l : Launch} {G : Gt} (hG : Gok l G) (a0 : Nat) (x1 : Int32) (μ : Mm) (r : Int32) (h : f_X5_hasValue a0 x1 μ = some r) : ZX l G mX5_hasValue 0 [(0, .ref a0), (1, .int x1)] [] μ (.inl (some (.int r))) μ := by
  unfold f_X5_hasValue at h
  refine zx_iload_n dX5_hasValue_0 rfl (q := 1) rfl ?_
  by_cases c1 : x1 < 0
  · have h := it_t c1 h
    refine zx_if_lt_t (tgt := 23) dX5_hasValue_1 (by decide) c1 ?_
    refine zx_iconst (v := 0) dX5_hasValue_23 iv_iconst_0 ?_
    cases h
    exact zx_zretZ dX5_hasValue_24 rfl zb_0
  · have h := it_f c1 h
    refine zx_if_lt_f (tgt := 23) dX5_hasValue_1 (by decide) c1 ?_
    refine zx_iload_n dX5_hasValue_4 rfl (q := 1) rfl ?_
    refine zx_bipush (v := 24) dX5_hasValue_5 iv_bipush_24 ?_
    by_cases c2 : 24 ≤ x1
    · have h := it_t c2 h
      refine zx_icmp_ge_t (tgt := 23) dX5_hasValue_7 (by decide) c2 ?_
      refine zx_iconst (v := 0) dX5_hasValue_23 iv_iconst_0 ?_
      cases h
      exact zx_zretZ dX5_hasValue_24 rfl zb_0
    · have h := it_f c2 h
      refine zx_icmp_ge_f (tgt := 23) dX5_hasValue_7 (by decide) c2 ?_
      refine zx_aload_n dX5_hasValue_10 rfl (q := 0) rfl ?_
      obtain ⟨h3, h⟩ := ck_e h
      obtain ⟨p4, h5, h⟩ := bd_e h
      refine zx_getR hG fl_X5_21 h3 h5 dX5_hasValue_11 ?_
      refine zx_iload_n dX5_hasValue_14 rfl (q := 1) rfl ?_
      obtain ⟨h6, h⟩ := ck_e h
      obtain ⟨h7, h⟩ := ck_e h
      refine zx_zald hG rfl (h6).1 (h6).2 (inb_e h7) dX5_hasValue_15 ?_
      by_cases c8 : (zb (mI μ p4 (Int32.toNatClampNeg x1))) = 0
      · have h := it_t c8 h
        refine zx_if_eq_t (tgt := 23) dX5_hasValue_16 (by decide) c8 ?_
        refine zx_iconst (v := 0) dX5_hasValue_23 iv_iconst_0 ?_
        cases h
        exact zx_zretZ dX5_hasValue_24 rfl zb_0
      · have h := it_f c8 h
        refine zx_if_eq_f (tgt := 23) dX5_hasValue_16 (by decide) c8 ?_
        refine zx_iconst (v := 1) dX5_hasValue_19 iv_iconst_1 ?_
        refine zx_goto (tgt := 24) dX5_hasValue_20 (by decide) ?_
        cases h
        exact zx_zretZ dX5_hasValue_24 rfl zb_1
def f_X0_canLeave_b73 (μ : Mm) : Option Int32 :=
  some 1
def f_X0_canLeave (a0 : Nat) (μ : Mm) : Option Int32 :=
  ck (mK μ a0 = 101) <|
  if ¬ (zb (mI μ a0 13)) = 0 then
    some 0
  else
    bd (mR μ a0 7) fun p3 =>
    ck (mK μ p3 = 100) <|
    bd (f_Jx4a65c_isEmpty_aae02 p3 μ) fun y6 =>
    if y6 = 0 then
      bd (mR μ a0 7) fun p9 =>
      ck (mK μ p9 = 100) <|
      bd (f_Jx4a65c_get_915e3 p9 0 μ) fun p12 =>
      ck (mK μ p12 = 104) <|
      if (zc (mI μ p12 5)) = 101 then
        bd (mR μ p12 0) fun p16 =>
        ck (mK μ p16 = 107) <|
        bd (f_X6_isStore p16 μ) fun y19 =>
        if y19 = 0 then
          f_X0_canLeave_b73 μ
        else
          if ¬ (mI μ p12 12) = 0 then
            f_X0_canLeave_b73 μ
          else
            bd (mR μ a0 4) fun p23 =>
            ck (mK μ p23 = 106) <|
            bd (f_X5_hasValue p23 (mI μ p12 7) μ) fun y26 =>
            if y26 = 0 then
              some 0
            else
              f_X0_canLeave_b73 μ
      else
        some 0
    else
      some 0
set_option maxRecDepth 100000 in
theorem s_X0_canLeave_b73 {l : Launch} {G : Gt} (hG : Gok l G) (μ : Mm) (r : Int32) (h : f_X0_canLeave_b73 μ = some r) : ZX l G mX0_canLeave 73 [] [] μ (.inl (some (.int r))) μ := by
  unfold f_X0_canLeave_b73 at h
  refine zx_iconst (v := 1) dX0_canLeave_73 iv_iconst_1 ?_
  refine zx_goto (tgt := 78) dX0_canLeave_74 (by decide) ?_
  cases h
  exact zx_zretZ dX0_canLeave_78 rfl zb_1
set_option maxRecDepth 100000 in
theorem s_X0_canLeave {l : Launch} {G : Gt} (hG : Gok l G) (a0 : Nat) (μ : Mm) (r : Int32) (h : f_X0_canLeave a0 μ = some r) : ZX l G mX0_canLeave 0 [(0, .ref a0)] [] μ (.inl (some (.int r))) μ := by
  unfold f_X0_canLeave at h
  refine zx_aload_n dX0_canLeave_0 rfl (q := 0) rfl ?_
  obtain ⟨h1, h⟩ := ck_e h
  refine zx_getZ hG fl_X0_81 h1 dX0_canLeave_1 ?_
  by_cases c2 : ¬ (zb (mI μ a0 13)) = 0
  · have h := it_t c2 h
    refine zx_if_ne_t (tgt := 17) dX0_canLeave_4 (by decide) c2 ?_
    refine zx_iconst (v := 0) dX0_canLeave_17 iv_iconst_0 ?_
    cases h
    exact zx_zretZ dX0_canLeave_18 rfl zb_0
  · have h := it_f c2 h
    refine zx_if_ne_f (tgt := 17) dX0_canLeave_4 (by decide) (Classical.not_not.mp c2) ?_
    refine zx_aload_n dX0_canLeave_7 rfl (q := 0) rfl ?_
    obtain ⟨p3, h4, h⟩ := bd_e h
    refine zx_getR hG fl_X0_60 h1 h4 dX0_canLeave_8 ?_
    obtain ⟨h5, h⟩ := ck_e h
    obtain ⟨y6, z7, h⟩ := bd_e h
    refine zx_callV (As := []) hG mf_Jx4a65c_isEmpty_aae02 cv_X0_282 h5 ⟨by decide, by decide⟩ rfl rfl (Nat.le_of_ble_eq_true rfl) (s_Jx4a65c_isEmpty_aae02 hG _ _ _ z7) (Nat.le_of_ble_eq_true rfl) dX0_canLeave_11 ?_
    by_cases c8 : y6 = 0
    · have h := it_t c8 h
      refine zx_if_eq_t (tgt := 19) dX0_canLeave_14 (by decide) c8 ?_
      refine zx_aload_n dX0_canLeave_19 rfl (q := 0) rfl ?_
      obtain ⟨p9, h10, h⟩ := bd_e h
      refine zx_getR hG fl_X0_60 h1 h10 dX0_canLeave_20 ?_
      refine zx_iconst (v := 0) dX0_canLeave_23 iv_iconst_0 ?_
      obtain ⟨h11, h⟩ := ck_e h
      obtain ⟨p12, z13, h⟩ := bd_e h
      refine zx_callV (As := [.int 0]) hG mf_Jx4a65c_get_915e3 cv_X0_127 h11 ⟨by decide, by decide⟩ rfl rfl (Nat.le_of_ble_eq_true rfl) (s_Jx4a65c_get_915e3 hG _ _ _ _ z13) (Nat.le_of_ble_eq_true rfl) dX0_canLeave_24 ?_
      obtain ⟨h14, h⟩ := ck_e h
      refine zx_castO hG kt_X0_131 h14 dX0_canLeave_27 ?_
      refine zx_astore_n (L' := [(1, .ref p12), (0, .ref a0)]) dX0_canLeave_30 rfl (by decide) rfl ?_
      refine zx_aload_n dX0_canLeave_31 rfl (q := 0) rfl ?_
      refine zx_getC hG fl_X0_133 h14 dX0_canLeave_32 ?_
      refine zx_bipush (v := 101) dX0_canLeave_35 iv_bipush_101 ?_
      by_cases c15 : (zc (mI μ p12 5)) = 101
      · have h := it_t c15 h
        refine zx_icmp_eq_t (tgt := 42) dX0_canLeave_37 (by decide) c15 ?_
        refine zx_aload_n dX0_canLeave_42 rfl (q := 0) rfl ?_
        obtain ⟨p16, h17, h⟩ := bd_e h
        refine zx_getR hG fl_X0_161 h14 h17 dX0_canLeave_43 ?_
        obtain ⟨h18, h⟩ := ck_e h
        obtain ⟨y19, z20, h⟩ := bd_e h
        refine zx_callV (As := []) hG mf_X6_isStore cv_X0_214 h18 ⟨by decide, by decide⟩ rfl rfl (Nat.le_of_ble_eq_true rfl) (s_X6_isStore hG _ _ _ z20) (Nat.le_of_ble_eq_true rfl) dX0_canLeave_46 ?_
        by_cases c21 : y19 = 0
        · have h := it_t c21 h
          refine zx_if_eq_t (tgt := 73) dX0_canLeave_49 (by decide) c21 ?_
          refine zx_sub (L' := []) [] rfl ?_
          exact s_X0_canLeave_b73 hG _ _ h
        · have h := it_f c21 h
          refine zx_if_eq_f (tgt := 73) dX0_canLeave_49 (by decide) c21 ?_
          refine zx_aload_n dX0_canLeave_52 rfl (q := 0) rfl ?_
          refine zx_getI hG fl_X0_192 h14 dX0_canLeave_53 ?_
          by_cases c22 : ¬ (mI μ p12 12) = 0
          · have h := it_t c22 h
            refine zx_if_ne_t (tgt := 73) dX0_canLeave_56 (by decide) c22 ?_
            refine zx_sub (L' := []) [] rfl ?_
            exact s_X0_canLeave_b73 hG _ _ h
          · have h := it_f c22 h
            refine zx_if_ne_f (tgt := 73) dX0_canLeave_56 (by decide) (Classical.not_not.mp c22) ?_
            refine zx_aload_n dX0_canLeave_59 rfl (q := 1) rfl ?_
            obtain ⟨p23, h24, h⟩ := bd_e h
            refine zx_getR hG fl_X0_42 h1 h24 dX0_canLeave_60 ?_
            refine zx_aload_n dX0_canLeave_63 rfl (q := 0) rfl ?_
            refine zx_getI hG fl_X0_285 h14 dX0_canLeave_64 ?_
            obtain ⟨h25, h⟩ := ck_e h
            obtain ⟨y26, z27, h⟩ := bd_e h
            refine zx_callV (As := [.int (mI μ p12 7)]) hG mf_X5_hasValue cv_X0_288 h25 ⟨by decide, by decide⟩ rfl rfl (Nat.le_of_ble_eq_true rfl) (s_X5_hasValue hG _ _ _ _ z27) (Nat.le_of_ble_eq_true rfl) dX0_canLeave_67 ?_
            by_cases c28 : y26 = 0
            · have h := it_t c28 h
              refine zx_if_eq_t (tgt := 77) dX0_canLeave_70 (by decide) c28 ?_
              refine zx_iconst (v := 0) dX0_canLeave_77 iv_iconst_0 ?_
              cases h
              exact zx_zretZ dX0_canLeave_78 rfl zb_0
            · have h := it_f c28 h
              refine zx_if_eq_f (tgt := 77) dX0_canLeave_70 (by decide) c28 ?_
              refine zx_sub (L' := []) [] rfl ?_
              exact s_X0_canLeave_b73 hG _ _ h
      · have h := it_f c15 h
        refine zx_icmp_eq_f (tgt := 42) dX0_canLeave_37 (by decide) c15 ?_
        refine zx_iconst (v := 0) dX0_canLeave_40 iv_iconst_0 ?_
        cases h
        exact zx_zretZ dX0_canLeave_41 rfl zb_0
    · have h := it_f c8 h
      refine zx_if_eq_f (tgt := 19) dX0_canLeave_14 (by decide) c8 ?_
      refine zx_iconst (v := 0) dX0_canLeave_17 iv_iconst_0 ?_
      cases h
      exact zx_zretZ dX0_canLeave_18 rfl zb_0
def f_X0_takeTrap_b60 (a0 : Nat) (μ : Mm) : Option (Unit × Mm) :=
  ck (mK μ a0 = 101) <|
  bd (mR μ a0 6) fun p28 =>
  ck (smn 0) <|
  zl (mN μ) fun p31 =>
  zl (nw μ 41 (Int32.toNatClampNeg 0) (Int32.toNatClampNeg 0)) fun μ32 =>
  ck (mK μ32 p28 = 105) <|
  cl (f_X4_goOn p28 (mI μ a0 17) p31 μ32) fun _ μ40 =>
  ck (mK μ40 a0 = 101) <|
  bd (mR μ40 a0 6) fun p42 =>
  ck (mK μ40 p42 = 105) <|
  ck (zb (zb (mI μ40 a0 13)) = (zb (mI μ40 a0 13))) <|
  zl (sI μ40 p42 5 (zb (mI μ40 a0 13))) fun μ46 =>
  some ((), μ46)
def f_X0_takeTrap_b23 (a0 : Nat) (μ : Mm) : Option (Unit × Mm) :=
  ck (mK μ a0 = 101) <|
  zl (sI μ a0 13 1) fun μ50 =>
  f_X0_takeTrap_b60 a0 μ50
def f_X0_takeTrap (a0 : Nat) (a1 : Nat) (μ : Mm) : Option (Unit × Mm) :=
  ck (mK μ a0 = 101) <|
  cl (f_X0_throwAwayFrom a0 0 μ) fun _ μ4 =>
  ck (mK μ4 a0 = 101) <|
  if ¬ (zb (mI μ4 a0 15)) = 0 then
    f_X0_takeTrap_b23 a0 μ4
  else
    bd (mR μ4 a0 1) fun p7 =>
    ck (mK μ4 p7 = 110) <|
    if ¬ (mI μ4 p7 3) = ((-1)) then
      ck (mK μ4 a1 = 104) <|
      bd (mR μ4 a1 0) fun p12 =>
      ck (mK μ4 p12 = 107) <|
      zl (sI μ4 a0 16 ((mI μ4 p12 0) + 1)) fun μ15 =>
      zl (sI μ15 a0 15 1) fun μ18 =>
      bd (mR μ18 a0 1) fun p21 =>
      ck (mK μ18 p21 = 110) <|
      zl (sI μ18 a0 17 (mI μ18 p21 3)) fun μ24 =>
      f_X0_takeTrap_b60 a0 μ24
    else
      f_X0_takeTrap_b23 a0 μ4
set_option maxRecDepth 100000 in
theorem s_X0_takeTrap_b60 {l : Launch} {G : Gt} (hG : Gok l G) (a0 : Nat) (μ : Mm) (r : Unit) (μ' : Mm) (h : f_X0_takeTrap_b60 a0 μ = some (r, μ')) : ZX l G mX0_takeTrap 60 [(0, .ref a0)] [] μ (.inl none) μ' := by
  unfold f_X0_takeTrap_b60 at h
  refine zx_aload_n dX0_takeTrap_60 rfl (q := 0) rfl ?_
  obtain ⟨h27, h⟩ := ck_e h
  obtain ⟨p28, h29, h⟩ := bd_e h
  refine zx_getR hG fl_X0_56 h27 h29 dX0_takeTrap_61 ?_
  refine zx_aload_n dX0_takeTrap_64 rfl (q := 0) rfl ?_
  refine zx_getI hG fl_X0_94 h27 dX0_takeTrap_65 ?_
  refine zx_iconst (v := 0) dX0_takeTrap_68 iv_iconst_0 ?_
  obtain ⟨h30, h⟩ := ck_e h
  refine zx_newa 41 (at9 := .int) hG w_ac_int (by decide) (by decide) (smn_e h30) (h30).2 dX0_takeTrap_69 ?_
  obtain ⟨p31, e34, h⟩ := zlm_e h
  obtain ⟨μ32, e35, h⟩ := zlm_e h
  refine zx_mem e35 (zx_stk e34 ?_)
  have h33 : mK μ32 p31 = 41 := nw_Kp e35 e34
  have h36 : isA 1 (mK μ32 p31) := by rw [h33]; decide
  obtain ⟨h37, h⟩ := ck_e h
  obtain ⟨uu38, μ40, z39, h⟩ := cl_e h
  refine zx_callV (As := [.int (mI μ a0 17), .ref p31]) hG mf_X4_goOn cv_X0_210 h37 ⟨by decide, by decide⟩ rfl rfl (Nat.le_of_ble_eq_true rfl) (s_X4_goOn hG _ _ _ _ _ _ z39) (Nat.le_of_ble_eq_true rfl) dX0_takeTrap_71 ?_
  refine zx_aload_n dX0_takeTrap_74 rfl (q := 0) rfl ?_
  obtain ⟨h41, h⟩ := ck_e h
  obtain ⟨p42, h43, h⟩ := bd_e h
  refine zx_getR hG fl_X0_56 h41 h43 dX0_takeTrap_75 ?_
  refine zx_aload_n dX0_takeTrap_78 rfl (q := 0) rfl ?_
  refine zx_getZ hG fl_X0_81 h41 dX0_takeTrap_79 ?_
  obtain ⟨h44, h⟩ := ck_e h
  obtain ⟨h45, h⟩ := ck_e h
  refine zx_putZ hG fl_X0_298 fn_5_5 h44 h45 dX0_takeTrap_82 ?_
  obtain ⟨μ46, e48, h⟩ := zlm_e h
  refine zx_mem e48 ?_
  have e47 : mK μ46 = mK μ40 := (congrArg mK e48).trans rfl
  cases h
  exact zx_vret dX0_takeTrap_85 rfl
set_option maxRecDepth 100000 in
theorem s_X0_takeTrap_b23 {l : Launch} {G : Gt} (hG : Gok l G) (a0 : Nat) (μ : Mm) (r : Unit) (μ' : Mm) (h : f_X0_takeTrap_b23 a0 μ = some (r, μ')) : ZX l G mX0_takeTrap 23 [(0, .ref a0)] [] μ (.inl none) μ' := by
  unfold f_X0_takeTrap_b23 at h
  refine zx_aload_n dX0_takeTrap_23 rfl (q := 0) rfl ?_
  refine zx_iconst (v := 1) dX0_takeTrap_24 iv_iconst_1 ?_
  obtain ⟨h49, h⟩ := ck_e h
  refine zx_putZ hG fl_X0_81 fn_1_13 h49 zb_1 dX0_takeTrap_25 ?_
  obtain ⟨μ50, e52, h⟩ := zlm_e h
  refine zx_mem e52 ?_
  have e51 : mK μ50 = mK μ := (congrArg mK e52).trans rfl
  refine zx_goto (tgt := 60) dX0_takeTrap_28 (by decide) ?_
  exact s_X0_takeTrap_b60 hG _ _ _ _ h
set_option maxRecDepth 100000 in
theorem s_X0_takeTrap {l : Launch} {G : Gt} (hG : Gok l G) (a0 : Nat) (a1 : Nat) (μ : Mm) (r : Unit) (μ' : Mm) (h : f_X0_takeTrap a0 a1 μ = some (r, μ')) : ZX l G mX0_takeTrap 0 [(0, .ref a0), (1, .ref a1)] [] μ (.inl none) μ' := by
  unfold f_X0_takeTrap at h
  refine zx_aload_n dX0_takeTrap_0 rfl (q := 0) rfl ?_
  refine zx_iconst (v := 0) dX0_takeTrap_1 iv_iconst_0 ?_
  obtain ⟨h1, h⟩ := ck_e h
  obtain ⟨uu2, μ4, z3, h⟩ := cl_e h
  refine zx_callV (As := [.int 0]) hG mf_X0_throwAwayFrom cv_X0_204 h1 ⟨by decide, by decide⟩ rfl rfl (Nat.le_of_ble_eq_true rfl) (s_X0_throwAwayFrom hG _ _ _ _ _ z3) (Nat.le_of_ble_eq_true rfl) dX0_takeTrap_2 ?_
  refine zx_aload_n dX0_takeTrap_5 rfl (q := 0) rfl ?_
  obtain ⟨h5, h⟩ := ck_e h
  refine zx_getZ hG fl_X0_88 h5 dX0_takeTrap_6 ?_
  by_cases c6 : ¬ (zb (mI μ4 a0 15)) = 0
  · have h := it_t c6 h
    refine zx_if_ne_t (tgt := 23) dX0_takeTrap_9 (by decide) c6 ?_
    refine zx_sub (L' := [(0, .ref a0)]) [0] rfl ?_
    exact s_X0_takeTrap_b23 hG _ _ _ _ h
  · have h := it_f c6 h
    refine zx_if_ne_f (tgt := 23) dX0_takeTrap_9 (by decide) (Classical.not_not.mp c6) ?_
    refine zx_aload_n dX0_takeTrap_12 rfl (q := 0) rfl ?_
    obtain ⟨p7, h8, h⟩ := bd_e h
    refine zx_getR hG fl_X0_21 h5 h8 dX0_takeTrap_13 ?_
    obtain ⟨h9, h⟩ := ck_e h
    refine zx_getI hG fl_X0_295 h9 dX0_takeTrap_16 ?_
    refine zx_iconst (v := (-1)) dX0_takeTrap_19 iv_iconst_m1 ?_
    by_cases c10 : ¬ (mI μ4 p7 3) = ((-1))
    · have h := it_t c10 h
      refine zx_icmp_ne_t (tgt := 31) dX0_takeTrap_20 (by decide) c10 ?_
      refine zx_aload_n dX0_takeTrap_31 rfl (q := 0) rfl ?_
      refine zx_aload_n dX0_takeTrap_32 rfl (q := 1) rfl ?_
      obtain ⟨h11, h⟩ := ck_e h
      obtain ⟨p12, h13, h⟩ := bd_e h
      refine zx_getR hG fl_X0_161 h11 h13 dX0_takeTrap_33 ?_
      obtain ⟨h14, h⟩ := ck_e h
      refine zx_getI hG fl_X0_223 h14 dX0_takeTrap_36 ?_
      refine zx_iconst (v := 1) dX0_takeTrap_39 iv_iconst_1 ?_
      refine zx_iadd dX0_takeTrap_40 ?_
      refine zx_putI hG fl_X0_91 fn_1_16 h5 dX0_takeTrap_41 ?_
      obtain ⟨μ15, e17, h⟩ := zlm_e h
      refine zx_mem e17 ?_
      have e16 : mK μ15 = mK μ4 := (congrArg mK e17).trans rfl
      refine zx_aload_n dX0_takeTrap_44 rfl (q := 0) rfl ?_
      refine zx_iconst (v := 1) dX0_takeTrap_45 iv_iconst_1 ?_
      refine zx_putZ hG fl_X0_88 fn_1_15 (kp_o (e16) h5) zb_1 dX0_takeTrap_46 ?_
      obtain ⟨μ18, e20, h⟩ := zlm_e h
      refine zx_mem e20 ?_
      have e19 : mK μ18 = mK μ15 := (congrArg mK e20).trans rfl
      refine zx_aload_n dX0_takeTrap_49 rfl (q := 0) rfl ?_
      refine zx_aload_n dX0_takeTrap_50 rfl (q := 0) rfl ?_
      obtain ⟨p21, h22, h⟩ := bd_e h
      refine zx_getR hG fl_X0_21 (kp_o (Eq.trans e19 e16) h5) h22 dX0_takeTrap_51 ?_
      obtain ⟨h23, h⟩ := ck_e h
      refine zx_getI hG fl_X0_295 h23 dX0_takeTrap_54 ?_
      refine zx_putI hG fl_X0_94 fn_1_17 (kp_o (Eq.trans e19 e16) h5) dX0_takeTrap_57 ?_
      obtain ⟨μ24, e26, h⟩ := zlm_e h
      refine zx_mem e26 ?_
      have e25 : mK μ24 = mK μ18 := (congrArg mK e26).trans rfl
      refine zx_sub (L' := [(0, .ref a0)]) [0] rfl ?_
      exact s_X0_takeTrap_b60 hG _ _ _ _ h
    · have h := it_f c10 h
      refine zx_icmp_ne_f (tgt := 31) dX0_takeTrap_20 (by decide) (Classical.not_not.mp c10) ?_
      refine zx_sub (L' := [(0, .ref a0)]) [0] rfl ?_
      exact s_X0_takeTrap_b23 hG _ _ _ _ h
def f_X5_settle (a0 : Nat) (a1 : Nat) (μ : Mm) : Option (Unit × Mm) :=
  ck (mK μ a1 = 104) <|
  if (mI μ a1 8) = ((-1)) then
    some ((), μ)
  else
    ck (mK μ a0 = 106) <|
    bd (mR μ a0 1) fun p4 =>
    bd (mR μ a1 0) fun p6 =>
    ck (mK μ p6 = 107) <|
    ck (isA 1 (mK μ p4)) <|
    ck (inb (mI μ p6 2) (mL μ p4)) <|
    zl (sI μ p4 (Int32.toNatClampNeg (mI μ p6 2)) (mI μ a1 8)) fun μ11 =>
    cl (f_X5_putBehind a0 (mI μ11 a1 9) μ11) fun _ μ16 =>
    some ((), μ16)
set_option maxRecDepth 100000 in
theorem s_X5_settle {l : Launch} {G : Gt} (hG : Gok l G) (a0 : Nat) (a1 : Nat) (μ : Mm) (r : Unit) (μ' : Mm) (h : f_X5_settle a0 a1 μ = some (r, μ')) : ZX l G mX5_settle 0 [(0, .ref a0), (1, .ref a1)] [] μ (.inl none) μ' := by
  unfold f_X5_settle at h
  refine zx_aload_n dX5_settle_0 rfl (q := 1) rfl ?_
  obtain ⟨h1, h⟩ := ck_e h
  refine zx_getI hG fl_X5_76 h1 dX5_settle_1 ?_
  refine zx_iconst (v := (-1)) dX5_settle_4 iv_iconst_m1 ?_
  by_cases c2 : (mI μ a1 8) = ((-1))
  · have h := it_t c2 h
    refine zx_icmp_eq_t (tgt := 32) dX5_settle_5 (by decide) c2 ?_
    cases h
    exact zx_vret dX5_settle_32 rfl
  · have h := it_f c2 h
    refine zx_icmp_eq_f (tgt := 32) dX5_settle_5 (by decide) c2 ?_
    refine zx_aload_n dX5_settle_8 rfl (q := 0) rfl ?_
    obtain ⟨h3, h⟩ := ck_e h
    obtain ⟨p4, h5, h⟩ := bd_e h
    refine zx_getR hG fl_X5_15 h3 h5 dX5_settle_9 ?_
    refine zx_aload_n dX5_settle_12 rfl (q := 1) rfl ?_
    obtain ⟨p6, h7, h⟩ := bd_e h
    refine zx_getR hG fl_X5_42 h1 h7 dX5_settle_13 ?_
    obtain ⟨h8, h⟩ := ck_e h
    refine zx_getI hG fl_X5_70 h8 dX5_settle_16 ?_
    refine zx_aload_n dX5_settle_19 rfl (q := 1) rfl ?_
    refine zx_getI hG fl_X5_76 h1 dX5_settle_20 ?_
    obtain ⟨h9, h⟩ := ck_e h
    obtain ⟨h10, h⟩ := ck_e h
    refine zx_iast hG rfl (h9).1 (h9).2 (inb_e h10) dX5_settle_23 ?_
    obtain ⟨μ11, e13, h⟩ := zlm_e h
    refine zx_mem e13 ?_
    have e12 : mK μ11 = mK μ := (congrArg mK e13).trans rfl
    refine zx_aload_n dX5_settle_24 rfl (q := 0) rfl ?_
    refine zx_aload_n dX5_settle_25 rfl (q := 1) rfl ?_
    refine zx_getI hG fl_X5_73 (kp_o (e12) h1) dX5_settle_26 ?_
    obtain ⟨uu14, μ16, z15, h⟩ := cl_e h
    refine zx_callV (As := [.int (mI μ11 a1 9)]) hG mf_X5_putBehind cv_X5_39 (kp_o (e12) h3) ⟨by decide, by decide⟩ rfl rfl (Nat.le_of_ble_eq_true rfl) (s_X5_putBehind hG _ _ _ _ _ z15) (Nat.le_of_ble_eq_true rfl) dX5_settle_29 ?_
    cases h
    exact zx_vret dX5_settle_32 rfl
def f_X4_learn_b62 (s0 : Int32) (s1 : Int32) (s2 : Nat) (μ : Mm) : Option (Unit × Mm) :=
  ck (isA 1 (mK μ s2)) <|
  ck (inb s1 (mL μ s2)) <|
  zl (sI μ s2 (Int32.toNatClampNeg s1) s0) fun μ48 =>
  some ((), μ48)
def f_X4_learn (a0 : Nat) (a1 : Nat) (μ : Mm) : Option (Unit × Mm) :=
  ck (mK μ a1 = 104) <|
  bd (mR μ a1 0) fun p2 =>
  ck (mK μ p2 = 107) <|
  bd (f_X6_isQuestion p2 μ) fun y5 =>
  if y5 = 0 then
    bd (mR μ a1 0) fun p8 =>
    ck (mK μ p8 = 107) <|
    if ¬ (mI μ p8 1) = 17 then
      some ((), μ)
    else
      ck (mK μ a0 = 105) <|
      bd (mR μ a0 2) fun p13 =>
      bd (mR μ a1 0) fun p15 =>
      ck (mK μ p15 = 107) <|
      bd (f_J9_floorMod_7cf53 (mI μ p15 0) 8) fun y18 =>
      ck (isA 1 (mK μ p13)) <|
      ck (inb y18 (mL μ p13)) <|
      zl (sI μ p13 (Int32.toNatClampNeg y18) (mI μ a1 14)) fun μ22 =>
      some ((), μ22)
  else
    bd (mR μ a1 0) fun p25 =>
    ck (mK μ p25 = 107) <|
    bd (f_J9_floorMod_7cf53 (mI μ p25 0) 16) fun y28 =>
    ck (mK μ a0 = 105) <|
    bd (mR μ a0 1) fun p31 =>
    if (zb (mI μ a1 15)) = 0 then
      bd (mR μ a0 1) fun p34 =>
      ck (isA 1 (mK μ p34)) <|
      ck (inb y28 (mL μ p34)) <|
      bd (f_J9_max_7cf53 0 ((mI μ p34 (Int32.toNatClampNeg y28)) - 1)) fun y38 =>
      f_X4_learn_b62 y38 y28 p31 μ
    else
      bd (mR μ a0 1) fun p40 =>
      ck (isA 1 (mK μ p40)) <|
      ck (inb y28 (mL μ p40)) <|
      bd (f_J9_min_7cf53 3 ((mI μ p40 (Int32.toNatClampNeg y28)) + 1)) fun y44 =>
      f_X4_learn_b62 y44 y28 p31 μ
set_option maxRecDepth 100000 in
theorem s_X4_learn_b62 {l : Launch} {G : Gt} (hG : Gok l G) (s0 : Int32) (s1 : Int32) (s2 : Nat) (μ : Mm) (r : Unit) (μ' : Mm) (h : f_X4_learn_b62 s0 s1 s2 μ = some (r, μ')) : ZX l G mX4_learn 62 [] [.int s0, .int s1, .ref s2] μ (.inl none) μ' := by
  unfold f_X4_learn_b62 at h
  obtain ⟨h46, h⟩ := ck_e h
  obtain ⟨h47, h⟩ := ck_e h
  refine zx_iast hG rfl (h46).1 (h46).2 (inb_e h47) dX4_learn_62 ?_
  obtain ⟨μ48, e50, h⟩ := zlm_e h
  refine zx_mem e50 ?_
  have e49 : mK μ48 = mK μ := (congrArg mK e50).trans rfl
  refine zx_goto (tgt := 99) dX4_learn_63 (by decide) ?_
  cases h
  exact zx_vret dX4_learn_99 rfl
set_option maxRecDepth 100000 in
theorem s_X4_learn {l : Launch} {G : Gt} (hG : Gok l G) (a0 : Nat) (a1 : Nat) (μ : Mm) (r : Unit) (μ' : Mm) (h : f_X4_learn a0 a1 μ = some (r, μ')) : ZX l G mX4_learn 0 [(0, .ref a0), (1, .ref a1)] [] μ (.inl none) μ' := by
  unfold f_X4_learn at h
  refine zx_aload_n dX4_learn_0 rfl (q := 1) rfl ?_
  obtain ⟨h1, h⟩ := ck_e h
  obtain ⟨p2, h3, h⟩ := bd_e h
  refine zx_getR hG fl_X4_93 h1 h3 dX4_learn_1 ?_
  obtain ⟨h4, h⟩ := ck_e h
  obtain ⟨y5, z6, h⟩ := bd_e h
  refine zx_callV (As := []) hG mf_X6_isQuestion cv_X4_97 h4 ⟨by decide, by decide⟩ rfl rfl (Nat.le_of_ble_eq_true rfl) (s_X6_isQuestion hG _ _ _ z6) (Nat.le_of_ble_eq_true rfl) dX4_learn_4 ?_
  by_cases c7 : y5 = 0
  · have h := it_t c7 h
    refine zx_if_eq_t (tgt := 66) dX4_learn_7 (by decide) c7 ?_
    refine zx_aload_n dX4_learn_66 rfl (q := 1) rfl ?_
    obtain ⟨p8, h9, h⟩ := bd_e h
    refine zx_getR hG fl_X4_93 h1 h9 dX4_learn_67 ?_
    obtain ⟨h10, h⟩ := ck_e h
    refine zx_getI hG fl_X4_70 h10 dX4_learn_70 ?_
    refine zx_bipush (v := 17) dX4_learn_73 iv_bipush_17 ?_
    by_cases c11 : ¬ (mI μ p8 1) = 17
    · have h := it_t c11 h
      refine zx_icmp_ne_t (tgt := 99) dX4_learn_75 (by decide) c11 ?_
      cases h
      exact zx_vret dX4_learn_99 rfl
    · have h := it_f c11 h
      refine zx_icmp_ne_f (tgt := 99) dX4_learn_75 (by decide) (Classical.not_not.mp c11) ?_
      refine zx_aload_n dX4_learn_78 rfl (q := 0) rfl ?_
      obtain ⟨h12, h⟩ := ck_e h
      obtain ⟨p13, h14, h⟩ := bd_e h
      refine zx_getR hG fl_X4_22 h12 h14 dX4_learn_79 ?_
      refine zx_aload_n dX4_learn_82 rfl (q := 1) rfl ?_
      obtain ⟨p15, h16, h⟩ := bd_e h
      refine zx_getR hG fl_X4_93 h1 h16 dX4_learn_83 ?_
      obtain ⟨h17, h⟩ := ck_e h
      refine zx_getI hG fl_X4_69 h17 dX4_learn_86 ?_
      refine zx_bipush (v := 8) dX4_learn_89 iv_bipush_8 ?_
      obtain ⟨y18, z19, h⟩ := bd_e h
      refine zx_callS (As := [.int (mI μ p15 0), .int 8]) hG mf_J9_floorMod_7cf53 cs_X4_73 ⟨by decide, by decide⟩ rfl rfl (Nat.le_of_ble_eq_true rfl) (s_J9_floorMod_7cf53 hG _ _ _ _ z19) (Nat.le_of_ble_eq_true rfl) dX4_learn_91 ?_
      refine zx_aload_n dX4_learn_94 rfl (q := 1) rfl ?_
      refine zx_getI hG fl_X4_109 h1 dX4_learn_95 ?_
      obtain ⟨h20, h⟩ := ck_e h
      obtain ⟨h21, h⟩ := ck_e h
      refine zx_iast hG rfl (h20).1 (h20).2 (inb_e h21) dX4_learn_98 ?_
      obtain ⟨μ22, e24, h⟩ := zlm_e h
      refine zx_mem e24 ?_
      have e23 : mK μ22 = mK μ := (congrArg mK e24).trans rfl
      cases h
      exact zx_vret dX4_learn_99 rfl
  · have h := it_f c7 h
    refine zx_if_eq_f (tgt := 66) dX4_learn_7 (by decide) c7 ?_
    refine zx_aload_n dX4_learn_10 rfl (q := 1) rfl ?_
    obtain ⟨p25, h26, h⟩ := bd_e h
    refine zx_getR hG fl_X4_93 h1 h26 dX4_learn_11 ?_
    obtain ⟨h27, h⟩ := ck_e h
    refine zx_getI hG fl_X4_69 h27 dX4_learn_14 ?_
    refine zx_bipush (v := 16) dX4_learn_17 iv_bipush_16 ?_
    obtain ⟨y28, z29, h⟩ := bd_e h
    refine zx_callS (As := [.int (mI μ p25 0), .int 16]) hG mf_J9_floorMod_7cf53 cs_X4_73 ⟨by decide, by decide⟩ rfl rfl (Nat.le_of_ble_eq_true rfl) (s_J9_floorMod_7cf53 hG _ _ _ _ z29) (Nat.le_of_ble_eq_true rfl) dX4_learn_19 ?_
    refine zx_istore_n (L' := [(2, .int y28), (0, .ref a0), (1, .ref a1)]) dX4_learn_22 rfl (by decide) rfl ?_
    refine zx_aload_n dX4_learn_23 rfl (q := 1) rfl ?_
    obtain ⟨h30, h⟩ := ck_e h
    obtain ⟨p31, h32, h⟩ := bd_e h
    refine zx_getR hG fl_X4_18 h30 h32 dX4_learn_24 ?_
    refine zx_iload_n dX4_learn_27 rfl (q := 0) rfl ?_
    refine zx_aload_n dX4_learn_28 rfl (q := 2) rfl ?_
    refine zx_getZ hG fl_X4_100 h1 dX4_learn_29 ?_
    by_cases c33 : (zb (mI μ a1 15)) = 0
    · have h := it_t c33 h
      refine zx_if_eq_t (tgt := 50) dX4_learn_32 (by decide) c33 ?_
      refine zx_iconst (v := 0) dX4_learn_50 iv_iconst_0 ?_
      refine zx_aload_n dX4_learn_51 rfl (q := 1) rfl ?_
      obtain ⟨p34, h35, h⟩ := bd_e h
      refine zx_getR hG fl_X4_18 h30 h35 dX4_learn_52 ?_
      refine zx_iload_n dX4_learn_55 rfl (q := 0) rfl ?_
      obtain ⟨h36, h⟩ := ck_e h
      obtain ⟨h37, h⟩ := ck_e h
      refine zx_iald hG rfl (h36).1 (h36).2 (inb_e h37) dX4_learn_56 ?_
      refine zx_iconst (v := 1) dX4_learn_57 iv_iconst_1 ?_
      refine zx_isub dX4_learn_58 ?_
      obtain ⟨y38, z39, h⟩ := bd_e h
      refine zx_callS (As := [.int 0, .int ((mI μ p34 (Int32.toNatClampNeg y28)) - 1)]) hG mf_J9_max_7cf53 cs_X4_106 ⟨by decide, by decide⟩ rfl rfl (Nat.le_of_ble_eq_true rfl) (s_J9_max_7cf53 hG _ _ _ _ z39) (Nat.le_of_ble_eq_true rfl) dX4_learn_59 ?_
      refine zx_sub (L' := []) [] rfl ?_
      exact s_X4_learn_b62 hG _ _ _ _ _ _ h
    · have h := it_f c33 h
      refine zx_if_eq_f (tgt := 50) dX4_learn_32 (by decide) c33 ?_
      refine zx_iconst (v := 3) dX4_learn_35 iv_iconst_3 ?_
      refine zx_aload_n dX4_learn_36 rfl (q := 1) rfl ?_
      obtain ⟨p40, h41, h⟩ := bd_e h
      refine zx_getR hG fl_X4_18 h30 h41 dX4_learn_37 ?_
      refine zx_iload_n dX4_learn_40 rfl (q := 0) rfl ?_
      obtain ⟨h42, h⟩ := ck_e h
      obtain ⟨h43, h⟩ := ck_e h
      refine zx_iald hG rfl (h42).1 (h42).2 (inb_e h43) dX4_learn_41 ?_
      refine zx_iconst (v := 1) dX4_learn_42 iv_iconst_1 ?_
      refine zx_iadd dX4_learn_43 ?_
      obtain ⟨y44, z45, h⟩ := bd_e h
      refine zx_callS (As := [.int 3, .int ((mI μ p40 (Int32.toNatClampNeg y28)) + 1)]) hG mf_J9_min_7cf53 cs_X4_103 ⟨by decide, by decide⟩ rfl rfl (Nat.le_of_ble_eq_true rfl) (s_J9_min_7cf53 hG _ _ _ _ z45) (Nat.le_of_ble_eq_true rfl) dX4_learn_44 ?_
      refine zx_goto (tgt := 62) dX4_learn_47 (by decide) ?_
      refine zx_sub (L' := []) [] rfl ?_
      exact s_X4_learn_b62 hG _ _ _ _ _ _ h
