theorem dX0_init_0 : decode cX0_init 0 = .ok (.aload_n 0, 1) := by decide +kernel
theorem dX0_init_1 : decode cX0_init 1 = .ok (.invokespecial 3, 3) := by decide +kernel
theorem dX0_init_4 : decode cX0_init 4 = .ok (.aload_n 0, 1) := by decide +kernel
theorem dX0_init_5 : decode cX0_init 5 = .ok (.new 9, 3) := by decide +kernel
theorem dX0_init_8 : decode cX0_init 8 = .ok (.dup, 1) := by decide +kernel
theorem dX0_init_9 : decode cX0_init 9 = .ok (.invokespecial 11, 3) := by decide +kernel
theorem dX0_init_12 : decode cX0_init 12 = .ok (.putfield 12, 3) := by decide +kernel
theorem dX0_init_15 : decode cX0_init 15 = .ok (.aload_n 0, 1) := by decide +kernel
theorem dX0_init_16 : decode cX0_init 16 = .ok (.new 18, 3) := by decide +kernel
theorem dX0_init_19 : decode cX0_init 19 = .ok (.dup, 1) := by decide +kernel
theorem dX0_init_20 : decode cX0_init 20 = .ok (.invokespecial 20, 3) := by decide +kernel
theorem dX0_init_23 : decode cX0_init 23 = .ok (.putfield 21, 3) := by decide +kernel
theorem dX0_init_26 : decode cX0_init 26 = .ok (.aload_n 0, 1) := by decide +kernel
theorem dX0_init_27 : decode cX0_init 27 = .ok (.new 25, 3) := by decide +kernel
theorem dX0_init_30 : decode cX0_init 30 = .ok (.dup, 1) := by decide +kernel
theorem dX0_init_31 : decode cX0_init 31 = .ok (.invokespecial 27, 3) := by decide +kernel
theorem dX0_init_34 : decode cX0_init 34 = .ok (.putfield 28, 3) := by decide +kernel
theorem dX0_init_37 : decode cX0_init 37 = .ok (.aload_n 0, 1) := by decide +kernel
theorem dX0_init_38 : decode cX0_init 38 = .ok (.new 32, 3) := by decide +kernel
theorem dX0_init_41 : decode cX0_init 41 = .ok (.dup, 1) := by decide +kernel
theorem dX0_init_42 : decode cX0_init 42 = .ok (.invokespecial 34, 3) := by decide +kernel
theorem dX0_init_45 : decode cX0_init 45 = .ok (.putfield 35, 3) := by decide +kernel
theorem dX0_init_48 : decode cX0_init 48 = .ok (.aload_n 0, 1) := by decide +kernel
theorem dX0_init_49 : decode cX0_init 49 = .ok (.new 39, 3) := by decide +kernel
theorem dX0_init_52 : decode cX0_init 52 = .ok (.dup, 1) := by decide +kernel
theorem dX0_init_53 : decode cX0_init 53 = .ok (.invokespecial 41, 3) := by decide +kernel
theorem dX0_init_56 : decode cX0_init 56 = .ok (.putfield 42, 3) := by decide +kernel
theorem dX0_init_59 : decode cX0_init 59 = .ok (.aload_n 0, 1) := by decide +kernel
theorem dX0_init_60 : decode cX0_init 60 = .ok (.new 46, 3) := by decide +kernel
theorem dX0_init_63 : decode cX0_init 63 = .ok (.dup, 1) := by decide +kernel
theorem dX0_init_64 : decode cX0_init 64 = .ok (.invokespecial 48, 3) := by decide +kernel
theorem dX0_init_67 : decode cX0_init 67 = .ok (.putfield 49, 3) := by decide +kernel
theorem dX0_init_70 : decode cX0_init 70 = .ok (.aload_n 0, 1) := by decide +kernel
theorem dX0_init_71 : decode cX0_init 71 = .ok (.new 53, 3) := by decide +kernel
theorem dX0_init_74 : decode cX0_init 74 = .ok (.dup, 1) := by decide +kernel
theorem dX0_init_75 : decode cX0_init 75 = .ok (.invokespecial 55, 3) := by decide +kernel
theorem dX0_init_78 : decode cX0_init 78 = .ok (.putfield 56, 3) := by decide +kernel
theorem dX0_init_81 : decode cX0_init 81 = .ok (.aload_n 0, 1) := by decide +kernel
theorem dX0_init_82 : decode cX0_init 82 = .ok (.new 9, 3) := by decide +kernel
theorem dX0_init_85 : decode cX0_init 85 = .ok (.dup, 1) := by decide +kernel
theorem dX0_init_86 : decode cX0_init 86 = .ok (.invokespecial 11, 3) := by decide +kernel
theorem dX0_init_89 : decode cX0_init 89 = .ok (.putfield 60, 3) := by decide +kernel
theorem dX0_init_92 : decode cX0_init 92 = .ok (.aload_n 0, 1) := by decide +kernel
theorem dX0_init_93 : decode cX0_init 93 = .ok (.new 9, 3) := by decide +kernel
theorem dX0_init_96 : decode cX0_init 96 = .ok (.dup, 1) := by decide +kernel
theorem dX0_init_97 : decode cX0_init 97 = .ok (.invokespecial 11, 3) := by decide +kernel
theorem dX0_init_100 : decode cX0_init 100 = .ok (.putfield 63, 3) := by decide +kernel
theorem dX0_init_103 : decode cX0_init 103 = .ok (.aload_n 0, 1) := by decide +kernel
theorem dX0_init_104 : decode cX0_init 104 = .ok (.bipush 64, 2) := by decide +kernel
theorem dX0_init_106 : decode cX0_init 106 = .ok (.newarray .int, 2) := by decide +kernel
theorem dX0_init_108 : decode cX0_init 108 = .ok (.putfield 66, 3) := by decide +kernel
theorem dX0_init_111 : decode cX0_init 111 = .ok (.aload_n 0, 1) := by decide +kernel
theorem dX0_init_112 : decode cX0_init 112 = .ok (.bipush 16, 2) := by decide +kernel
theorem dX0_init_114 : decode cX0_init 114 = .ok (.newarray .boolean, 2) := by decide +kernel
theorem dX0_init_116 : decode cX0_init 116 = .ok (.putfield 70, 3) := by decide +kernel
theorem dX0_init_119 : decode cX0_init 119 = .ok (.aload_n 0, 1) := by decide +kernel
theorem dX0_init_120 : decode cX0_init 120 = .ok (.iconst 4, 1) := by decide +kernel
theorem dX0_init_121 : decode cX0_init 121 = .ok (.newarray .int, 2) := by decide +kernel
theorem dX0_init_123 : decode cX0_init 123 = .ok (.putfield 74, 3) := by decide +kernel
theorem dX0_init_126 : decode cX0_init 126 = .ok (.aload_n 0, 1) := by decide +kernel
theorem dX0_init_127 : decode cX0_init 127 = .ok (.iconst 0, 1) := by decide +kernel
theorem dX0_init_128 : decode cX0_init 128 = .ok (.putfield 77, 3) := by decide +kernel
theorem dX0_init_131 : decode cX0_init 131 = .ok (.aload_n 0, 1) := by decide +kernel
theorem dX0_init_132 : decode cX0_init 132 = .ok (.iconst 0, 1) := by decide +kernel
theorem dX0_init_133 : decode cX0_init 133 = .ok (.putfield 81, 3) := by decide +kernel
theorem dX0_init_136 : decode cX0_init 136 = .ok (.aload_n 0, 1) := by decide +kernel
theorem dX0_init_137 : decode cX0_init 137 = .ok (.iconst 0, 1) := by decide +kernel
theorem dX0_init_138 : decode cX0_init 138 = .ok (.putfield 85, 3) := by decide +kernel
theorem dX0_init_141 : decode cX0_init 141 = .ok (.aload_n 0, 1) := by decide +kernel
theorem dX0_init_142 : decode cX0_init 142 = .ok (.iconst 0, 1) := by decide +kernel
theorem dX0_init_143 : decode cX0_init 143 = .ok (.putfield 88, 3) := by decide +kernel
theorem dX0_init_146 : decode cX0_init 146 = .ok (.aload_n 0, 1) := by decide +kernel
theorem dX0_init_147 : decode cX0_init 147 = .ok (.iconst 0, 1) := by decide +kernel
theorem dX0_init_148 : decode cX0_init 148 = .ok (.putfield 91, 3) := by decide +kernel
theorem dX0_init_151 : decode cX0_init 151 = .ok (.aload_n 0, 1) := by decide +kernel
theorem dX0_init_152 : decode cX0_init 152 = .ok (.iconst 0, 1) := by decide +kernel
theorem dX0_init_153 : decode cX0_init 153 = .ok (.putfield 94, 3) := by decide +kernel
theorem dX0_init_156 : decode cX0_init 156 = .ok (.return_, 1) := by decide +kernel
theorem dX0_doCycle_0 : decode cX0_doCycle 0 = .ok (.aload_n 0, 1) := by decide +kernel
theorem dX0_doCycle_1 : decode cX0_doCycle 1 = .ok (.dup, 1) := by decide +kernel
theorem dX0_doCycle_2 : decode cX0_doCycle 2 = .ok (.getfield 77, 3) := by decide +kernel
theorem dX0_doCycle_5 : decode cX0_doCycle 5 = .ok (.iconst 1, 1) := by decide +kernel
theorem dX0_doCycle_6 : decode cX0_doCycle 6 = .ok (.iadd, 1) := by decide +kernel
theorem dX0_doCycle_7 : decode cX0_doCycle 7 = .ok (.putfield 77, 3) := by decide +kernel
theorem dX0_doCycle_10 : decode cX0_doCycle 10 = .ok (.aload_n 0, 1) := by decide +kernel
theorem dX0_doCycle_11 : decode cX0_doCycle 11 = .ok (.invokevirtual 97, 3) := by decide +kernel
theorem dX0_doCycle_14 : decode cX0_doCycle 14 = .ok (.aload_n 0, 1) := by decide +kernel
theorem dX0_doCycle_15 : decode cX0_doCycle 15 = .ok (.invokevirtual 100, 3) := by decide +kernel
theorem dX0_doCycle_18 : decode cX0_doCycle 18 = .ok (.aload_n 0, 1) := by decide +kernel
theorem dX0_doCycle_19 : decode cX0_doCycle 19 = .ok (.invokevirtual 103, 3) := by decide +kernel
theorem dX0_doCycle_22 : decode cX0_doCycle 22 = .ok (.aload_n 0, 1) := by decide +kernel
theorem dX0_doCycle_23 : decode cX0_doCycle 23 = .ok (.invokevirtual 106, 3) := by decide +kernel
theorem dX0_doCycle_26 : decode cX0_doCycle 26 = .ok (.aload_n 0, 1) := by decide +kernel
theorem dX0_doCycle_27 : decode cX0_doCycle 27 = .ok (.invokevirtual 109, 3) := by decide +kernel
theorem dX0_doCycle_30 : decode cX0_doCycle 30 = .ok (.aload_n 0, 1) := by decide +kernel
theorem dX0_doCycle_31 : decode cX0_doCycle 31 = .ok (.getfield 56, 3) := by decide +kernel
theorem dX0_doCycle_34 : decode cX0_doCycle 34 = .ok (.aload_n 0, 1) := by decide +kernel
theorem dX0_doCycle_35 : decode cX0_doCycle 35 = .ok (.getfield 12, 3) := by decide +kernel
theorem dX0_doCycle_38 : decode cX0_doCycle 38 = .ok (.aload_n 0, 1) := by decide +kernel
theorem dX0_doCycle_39 : decode cX0_doCycle 39 = .ok (.getfield 21, 3) := by decide +kernel
theorem dX0_doCycle_42 : decode cX0_doCycle 42 = .ok (.getfield 112, 3) := by decide +kernel
theorem dX0_doCycle_45 : decode cX0_doCycle 45 = .ok (.aload_n 0, 1) := by decide +kernel
theorem dX0_doCycle_46 : decode cX0_doCycle 46 = .ok (.getfield 77, 3) := by decide +kernel
theorem dX0_doCycle_49 : decode cX0_doCycle 49 = .ok (.invokevirtual 115, 3) := by decide +kernel
theorem dX0_doCycle_52 : decode cX0_doCycle 52 = .ok (.return_, 1) := by decide +kernel
theorem dX0_doAnswers_0 : decode cX0_doAnswers 0 = .ok (.aload_n 0, 1) := by decide +kernel
theorem dX0_doAnswers_1 : decode cX0_doAnswers 1 = .ok (.getfield 49, 3) := by decide +kernel
theorem dX0_doAnswers_4 : decode cX0_doAnswers 4 = .ok (.aload_n 0, 1) := by decide +kernel
theorem dX0_doAnswers_5 : decode cX0_doAnswers 5 = .ok (.getfield 77, 3) := by decide +kernel
theorem dX0_doAnswers_8 : decode cX0_doAnswers 8 = .ok (.invokevirtual 119, 3) := by decide +kernel
theorem dX0_doAnswers_11 : decode cX0_doAnswers 11 = .ok (.iconst 0, 1) := by decide +kernel
theorem dX0_doAnswers_12 : decode cX0_doAnswers 12 = .ok (.istore_n 1, 1) := by decide +kernel
theorem dX0_doAnswers_13 : decode cX0_doAnswers 13 = .ok (.iload_n 1, 1) := by decide +kernel
theorem dX0_doAnswers_14 : decode cX0_doAnswers 14 = .ok (.aload_n 0, 1) := by decide +kernel
theorem dX0_doAnswers_15 : decode cX0_doAnswers 15 = .ok (.getfield 60, 3) := by decide +kernel
theorem dX0_doAnswers_18 : decode cX0_doAnswers 18 = .ok (.invokevirtual 123, 3) := by decide +kernel
theorem dX0_doAnswers_21 : decode cX0_doAnswers 21 = .ok (.if_icmp .ge 54, 3) := by decide +kernel
theorem dX0_doAnswers_24 : decode cX0_doAnswers 24 = .ok (.aload_n 0, 1) := by decide +kernel
theorem dX0_doAnswers_25 : decode cX0_doAnswers 25 = .ok (.getfield 60, 3) := by decide +kernel
theorem dX0_doAnswers_28 : decode cX0_doAnswers 28 = .ok (.iload_n 1, 1) := by decide +kernel
theorem dX0_doAnswers_29 : decode cX0_doAnswers 29 = .ok (.invokevirtual 127, 3) := by decide +kernel
theorem dX0_doAnswers_32 : decode cX0_doAnswers 32 = .ok (.checkcast 131, 3) := by decide +kernel
theorem dX0_doAnswers_35 : decode cX0_doAnswers 35 = .ok (.astore_n 2, 1) := by decide +kernel
theorem dX0_doAnswers_36 : decode cX0_doAnswers 36 = .ok (.aload_n 2, 1) := by decide +kernel
theorem dX0_doAnswers_37 : decode cX0_doAnswers 37 = .ok (.getfield 133, 3) := by decide +kernel
theorem dX0_doAnswers_40 : decode cX0_doAnswers 40 = .ok (.bipush 109, 2) := by decide +kernel
theorem dX0_doAnswers_42 : decode cX0_doAnswers 42 = .ok (.if_icmp .ne 27, 3) := by decide +kernel
theorem dX0_doAnswers_45 : decode cX0_doAnswers 45 = .ok (.aload_n 0, 1) := by decide +kernel
theorem dX0_doAnswers_46 : decode cX0_doAnswers 46 = .ok (.getfield 49, 3) := by decide +kernel
theorem dX0_doAnswers_49 : decode cX0_doAnswers 49 = .ok (.aload_n 2, 1) := by decide +kernel
theorem dX0_doAnswers_50 : decode cX0_doAnswers 50 = .ok (.getfield 137, 3) := by decide +kernel
theorem dX0_doAnswers_53 : decode cX0_doAnswers 53 = .ok (.iconst 4, 1) := by decide +kernel
theorem dX0_doAnswers_54 : decode cX0_doAnswers 54 = .ok (.idiv, 1) := by decide +kernel
theorem dX0_doAnswers_55 : decode cX0_doAnswers 55 = .ok (.invokevirtual 140, 3) := by decide +kernel
theorem dX0_doAnswers_58 : decode cX0_doAnswers 58 = .ok (.ifCond .ne 11, 3) := by decide +kernel
theorem dX0_doAnswers_61 : decode cX0_doAnswers 61 = .ok (.aload_n 2, 1) := by decide +kernel
theorem dX0_doAnswers_62 : decode cX0_doAnswers 62 = .ok (.aload_n 0, 1) := by decide +kernel
theorem dX0_doAnswers_63 : decode cX0_doAnswers 63 = .ok (.getfield 77, 3) := by decide +kernel
theorem dX0_doAnswers_66 : decode cX0_doAnswers 66 = .ok (.putfield 144, 3) := by decide +kernel
theorem dX0_doAnswers_69 : decode cX0_doAnswers 69 = .ok (.iinc 1 1, 3) := by decide +kernel
theorem dX0_doAnswers_72 : decode cX0_doAnswers 72 = .ok (.goto (-59), 3) := by decide +kernel
theorem dX0_doAnswers_75 : decode cX0_doAnswers 75 = .ok (.return_, 1) := by decide +kernel
theorem dX0_doEndings_0 : decode cX0_doEndings 0 = .ok (.iconst 0, 1) := by decide +kernel
theorem dX0_doEndings_1 : decode cX0_doEndings 1 = .ok (.istore_n 1, 1) := by decide +kernel
theorem dX0_doEndings_2 : decode cX0_doEndings 2 = .ok (.iload_n 1, 1) := by decide +kernel
theorem dX0_doEndings_3 : decode cX0_doEndings 3 = .ok (.aload_n 0, 1) := by decide +kernel
theorem dX0_doEndings_4 : decode cX0_doEndings 4 = .ok (.getfield 60, 3) := by decide +kernel
theorem dX0_doEndings_7 : decode cX0_doEndings 7 = .ok (.invokevirtual 123, 3) := by decide +kernel
theorem dX0_doEndings_10 : decode cX0_doEndings 10 = .ok (.if_icmp .ge 77, 3) := by decide +kernel
theorem dX0_doEndings_13 : decode cX0_doEndings 13 = .ok (.aload_n 0, 1) := by decide +kernel
theorem dX0_doEndings_14 : decode cX0_doEndings 14 = .ok (.getfield 60, 3) := by decide +kernel
theorem dX0_doEndings_17 : decode cX0_doEndings 17 = .ok (.iload_n 1, 1) := by decide +kernel
theorem dX0_doEndings_18 : decode cX0_doEndings 18 = .ok (.invokevirtual 127, 3) := by decide +kernel
theorem dX0_doEndings_21 : decode cX0_doEndings 21 = .ok (.checkcast 131, 3) := by decide +kernel
theorem dX0_doEndings_24 : decode cX0_doEndings 24 = .ok (.astore_n 2, 1) := by decide +kernel
theorem dX0_doEndings_25 : decode cX0_doEndings 25 = .ok (.aload_n 2, 1) := by decide +kernel
theorem dX0_doEndings_26 : decode cX0_doEndings 26 = .ok (.getfield 133, 3) := by decide +kernel
theorem dX0_doEndings_29 : decode cX0_doEndings 29 = .ok (.bipush 120, 2) := by decide +kernel
theorem dX0_doEndings_31 : decode cX0_doEndings 31 = .ok (.if_icmp .eq 12, 3) := by decide +kernel
theorem dX0_doEndings_34 : decode cX0_doEndings 34 = .ok (.aload_n 2, 1) := by decide +kernel
theorem dX0_doEndings_35 : decode cX0_doEndings 35 = .ok (.getfield 133, 3) := by decide +kernel
theorem dX0_doEndings_38 : decode cX0_doEndings 38 = .ok (.bipush 109, 2) := by decide +kernel
theorem dX0_doEndings_40 : decode cX0_doEndings 40 = .ok (.if_icmp .ne 7, 3) := by decide +kernel
theorem dX0_doEndings_43 : decode cX0_doEndings 43 = .ok (.iconst 1, 1) := by decide +kernel
theorem dX0_doEndings_44 : decode cX0_doEndings 44 = .ok (.goto 4, 3) := by decide +kernel
theorem dX0_doEndings_47 : decode cX0_doEndings 47 = .ok (.iconst 0, 1) := by decide +kernel
theorem dX0_doEndings_48 : decode cX0_doEndings 48 = .ok (.istore_n 3, 1) := by decide +kernel
theorem dX0_doEndings_49 : decode cX0_doEndings 49 = .ok (.iload_n 3, 1) := by decide +kernel
theorem dX0_doEndings_50 : decode cX0_doEndings 50 = .ok (.ifCond .eq 31, 3) := by decide +kernel
theorem dX0_doEndings_53 : decode cX0_doEndings 53 = .ok (.aload_n 2, 1) := by decide +kernel
theorem dX0_doEndings_54 : decode cX0_doEndings 54 = .ok (.getfield 144, 3) := by decide +kernel
theorem dX0_doEndings_57 : decode cX0_doEndings 57 = .ok (.aload_n 0, 1) := by decide +kernel
theorem dX0_doEndings_58 : decode cX0_doEndings 58 = .ok (.getfield 77, 3) := by decide +kernel
theorem dX0_doEndings_61 : decode cX0_doEndings 61 = .ok (.if_icmp .ne 20, 3) := by decide +kernel
theorem dX0_doEndings_64 : decode cX0_doEndings 64 = .ok (.aload_n 0, 1) := by decide +kernel
theorem dX0_doEndings_65 : decode cX0_doEndings 65 = .ok (.aload_n 2, 1) := by decide +kernel
theorem dX0_doEndings_66 : decode cX0_doEndings 66 = .ok (.invokevirtual 147, 3) := by decide +kernel
theorem dX0_doEndings_69 : decode cX0_doEndings 69 = .ok (.aload_n 0, 1) := by decide +kernel
theorem dX0_doEndings_70 : decode cX0_doEndings 70 = .ok (.aload_n 2, 1) := by decide +kernel
theorem dX0_doEndings_71 : decode cX0_doEndings 71 = .ok (.iload_n 1, 1) := by decide +kernel
theorem dX0_doEndings_72 : decode cX0_doEndings 72 = .ok (.invokevirtual 151, 3) := by decide +kernel
theorem dX0_doEndings_75 : decode cX0_doEndings 75 = .ok (.aload_n 0, 1) := by decide +kernel
theorem dX0_doEndings_76 : decode cX0_doEndings 76 = .ok (.aload_n 2, 1) := by decide +kernel
theorem dX0_doEndings_77 : decode cX0_doEndings 77 = .ok (.iload_n 1, 1) := by decide +kernel
theorem dX0_doEndings_78 : decode cX0_doEndings 78 = .ok (.invokevirtual 155, 3) := by decide +kernel
theorem dX0_doEndings_81 : decode cX0_doEndings 81 = .ok (.iinc 1 1, 3) := by decide +kernel
theorem dX0_doEndings_84 : decode cX0_doEndings 84 = .ok (.goto (-82), 3) := by decide +kernel
theorem dX0_doEndings_87 : decode cX0_doEndings 87 = .ok (.aload_n 0, 1) := by decide +kernel
theorem dX0_doEndings_88 : decode cX0_doEndings 88 = .ok (.invokevirtual 158, 3) := by decide +kernel
theorem dX0_doEndings_91 : decode cX0_doEndings 91 = .ok (.return_, 1) := by decide +kernel
theorem dX0_endDelay_0 : decode cX0_endDelay 0 = .ok (.aload_n 1, 1) := by decide +kernel
theorem dX0_endDelay_1 : decode cX0_endDelay 1 = .ok (.getfield 161, 3) := by decide +kernel
theorem dX0_endDelay_4 : decode cX0_endDelay 4 = .ok (.getfield 165, 3) := by decide +kernel
theorem dX0_endDelay_7 : decode cX0_endDelay 7 = .ok (.bipush 9, 2) := by decide +kernel
theorem dX0_endDelay_9 : decode cX0_endDelay 9 = .ok (.if_icmp .ne 34, 3) := by decide +kernel
theorem dX0_endDelay_12 : decode cX0_endDelay 12 = .ok (.aload_n 1, 1) := by decide +kernel
theorem dX0_endDelay_13 : decode cX0_endDelay 13 = .ok (.getfield 170, 3) := by decide +kernel
theorem dX0_endDelay_16 : decode cX0_endDelay 16 = .ok (.iconst (-1), 1) := by decide +kernel
theorem dX0_endDelay_17 : decode cX0_endDelay 17 = .ok (.if_icmp .ne 26, 3) := by decide +kernel
theorem dX0_endDelay_20 : decode cX0_endDelay 20 = .ok (.aload_n 1, 1) := by decide +kernel
theorem dX0_endDelay_21 : decode cX0_endDelay 21 = .ok (.getfield 137, 3) := by decide +kernel
theorem dX0_endDelay_24 : decode cX0_endDelay 24 = .ok (.invokestatic 173, 3) := by decide +kernel
theorem dX0_endDelay_27 : decode cX0_endDelay 27 = .ok (.ifCond .eq 16, 3) := by decide +kernel
theorem dX0_endDelay_30 : decode cX0_endDelay 30 = .ok (.aload_n 1, 1) := by decide +kernel
theorem dX0_endDelay_31 : decode cX0_endDelay 31 = .ok (.aload_n 0, 1) := by decide +kernel
theorem dX0_endDelay_32 : decode cX0_endDelay 32 = .ok (.getfield 66, 3) := by decide +kernel
theorem dX0_endDelay_35 : decode cX0_endDelay 35 = .ok (.aload_n 1, 1) := by decide +kernel
theorem dX0_endDelay_36 : decode cX0_endDelay 36 = .ok (.getfield 137, 3) := by decide +kernel
theorem dX0_endDelay_39 : decode cX0_endDelay 39 = .ok (.iaload, 1) := by decide +kernel
theorem dX0_endDelay_40 : decode cX0_endDelay 40 = .ok (.putfield 176, 3) := by decide +kernel
theorem dX0_endDelay_43 : decode cX0_endDelay 43 = .ok (.aload_n 1, 1) := by decide +kernel
theorem dX0_endDelay_44 : decode cX0_endDelay 44 = .ok (.getfield 161, 3) := by decide +kernel
theorem dX0_endDelay_47 : decode cX0_endDelay 47 = .ok (.invokevirtual 179, 3) := by decide +kernel
theorem dX0_endDelay_50 : decode cX0_endDelay 50 = .ok (.ifCond .eq 12, 3) := by decide +kernel
theorem dX0_endDelay_53 : decode cX0_endDelay 53 = .ok (.aload_n 1, 1) := by decide +kernel
theorem dX0_endDelay_54 : decode cX0_endDelay 54 = .ok (.bipush 98, 2) := by decide +kernel
theorem dX0_endDelay_56 : decode cX0_endDelay 56 = .ok (.putfield 133, 3) := by decide +kernel
theorem dX0_endDelay_59 : decode cX0_endDelay 59 = .ok (.goto 11, 3) := by decide +kernel
theorem dX0_endDelay_62 : decode cX0_endDelay 62 = .ok (.aload_n 1, 1) := by decide +kernel
theorem dX0_endDelay_63 : decode cX0_endDelay 63 = .ok (.aload_n 0, 1) := by decide +kernel
theorem dX0_endDelay_64 : decode cX0_endDelay 64 = .ok (.getfield 77, 3) := by decide +kernel
theorem dX0_endDelay_67 : decode cX0_endDelay 67 = .ok (.invokevirtual 183, 3) := by decide +kernel
theorem dX0_endDelay_70 : decode cX0_endDelay 70 = .ok (.return_, 1) := by decide +kernel
theorem dX0_checkGuess_0 : decode cX0_checkGuess 0 = .ok (.aload_n 1, 1) := by decide +kernel
theorem dX0_checkGuess_1 : decode cX0_checkGuess 1 = .ok (.getfield 161, 3) := by decide +kernel
theorem dX0_checkGuess_4 : decode cX0_checkGuess 4 = .ok (.invokevirtual 186, 3) := by decide +kernel
theorem dX0_checkGuess_7 : decode cX0_checkGuess 7 = .ok (.ifCond .ne 13, 3) := by decide +kernel
theorem dX0_checkGuess_10 : decode cX0_checkGuess 10 = .ok (.aload_n 1, 1) := by decide +kernel
theorem dX0_checkGuess_11 : decode cX0_checkGuess 11 = .ok (.getfield 161, 3) := by decide +kernel
theorem dX0_checkGuess_14 : decode cX0_checkGuess 14 = .ok (.invokevirtual 189, 3) := by decide +kernel
theorem dX0_checkGuess_17 : decode cX0_checkGuess 17 = .ok (.ifCond .eq 7, 3) := by decide +kernel
theorem dX0_checkGuess_20 : decode cX0_checkGuess 20 = .ok (.iconst 1, 1) := by decide +kernel
theorem dX0_checkGuess_21 : decode cX0_checkGuess 21 = .ok (.goto 4, 3) := by decide +kernel
theorem dX0_checkGuess_24 : decode cX0_checkGuess 24 = .ok (.iconst 0, 1) := by decide +kernel
theorem dX0_checkGuess_25 : decode cX0_checkGuess 25 = .ok (.istore_n 3, 1) := by decide +kernel
theorem dX0_checkGuess_26 : decode cX0_checkGuess 26 = .ok (.iload_n 3, 1) := by decide +kernel
theorem dX0_checkGuess_27 : decode cX0_checkGuess 27 = .ok (.ifCond .eq 56, 3) := by decide +kernel
theorem dX0_checkGuess_30 : decode cX0_checkGuess 30 = .ok (.aload_n 1, 1) := by decide +kernel
theorem dX0_checkGuess_31 : decode cX0_checkGuess 31 = .ok (.getfield 192, 3) := by decide +kernel
theorem dX0_checkGuess_34 : decode cX0_checkGuess 34 = .ok (.ifCond .ne 49, 3) := by decide +kernel
theorem dX0_checkGuess_37 : decode cX0_checkGuess 37 = .ok (.aload_n 1, 1) := by decide +kernel
theorem dX0_checkGuess_38 : decode cX0_checkGuess 38 = .ok (.getfield 195, 3) := by decide +kernel
theorem dX0_checkGuess_41 : decode cX0_checkGuess 41 = .ok (.aload_n 1, 1) := by decide +kernel
theorem dX0_checkGuess_42 : decode cX0_checkGuess 42 = .ok (.getfield 198, 3) := by decide +kernel
theorem dX0_checkGuess_45 : decode cX0_checkGuess 45 = .ok (.if_icmp .eq 38, 3) := by decide +kernel
theorem dX0_checkGuess_48 : decode cX0_checkGuess 48 = .ok (.aload_n 0, 1) := by decide +kernel
theorem dX0_checkGuess_49 : decode cX0_checkGuess 49 = .ok (.getfield 28, 3) := by decide +kernel
theorem dX0_checkGuess_52 : decode cX0_checkGuess 52 = .ok (.dup, 1) := by decide +kernel
theorem dX0_checkGuess_53 : decode cX0_checkGuess 53 = .ok (.getfield 201, 3) := by decide +kernel
theorem dX0_checkGuess_56 : decode cX0_checkGuess 56 = .ok (.iconst 1, 1) := by decide +kernel
theorem dX0_checkGuess_57 : decode cX0_checkGuess 57 = .ok (.iadd, 1) := by decide +kernel
theorem dX0_checkGuess_58 : decode cX0_checkGuess 58 = .ok (.putfield 201, 3) := by decide +kernel
theorem dX0_checkGuess_61 : decode cX0_checkGuess 61 = .ok (.aload_n 0, 1) := by decide +kernel
theorem dX0_checkGuess_62 : decode cX0_checkGuess 62 = .ok (.iload_n 2, 1) := by decide +kernel
theorem dX0_checkGuess_63 : decode cX0_checkGuess 63 = .ok (.iconst 1, 1) := by decide +kernel
theorem dX0_checkGuess_64 : decode cX0_checkGuess 64 = .ok (.iadd, 1) := by decide +kernel
theorem dX0_checkGuess_65 : decode cX0_checkGuess 65 = .ok (.invokevirtual 204, 3) := by decide +kernel
theorem dX0_checkGuess_68 : decode cX0_checkGuess 68 = .ok (.aload_n 0, 1) := by decide +kernel
theorem dX0_checkGuess_69 : decode cX0_checkGuess 69 = .ok (.getfield 56, 3) := by decide +kernel
theorem dX0_checkGuess_72 : decode cX0_checkGuess 72 = .ok (.aload_n 1, 1) := by decide +kernel
theorem dX0_checkGuess_73 : decode cX0_checkGuess 73 = .ok (.getfield 195, 3) := by decide +kernel
theorem dX0_checkGuess_76 : decode cX0_checkGuess 76 = .ok (.aload_n 1, 1) := by decide +kernel
theorem dX0_checkGuess_77 : decode cX0_checkGuess 77 = .ok (.getfield 207, 3) := by decide +kernel
theorem dX0_checkGuess_80 : decode cX0_checkGuess 80 = .ok (.invokevirtual 210, 3) := by decide +kernel
theorem dX0_checkGuess_83 : decode cX0_checkGuess 83 = .ok (.return_, 1) := by decide +kernel
theorem dX0_checkLoads_0 : decode cX0_checkLoads 0 = .ok (.aload_n 1, 1) := by decide +kernel
theorem dX0_checkLoads_1 : decode cX0_checkLoads 1 = .ok (.getfield 161, 3) := by decide +kernel
theorem dX0_checkLoads_4 : decode cX0_checkLoads 4 = .ok (.invokevirtual 214, 3) := by decide +kernel
theorem dX0_checkLoads_7 : decode cX0_checkLoads 7 = .ok (.ifCond .eq 10, 3) := by decide +kernel
theorem dX0_checkLoads_10 : decode cX0_checkLoads 10 = .ok (.aload_n 1, 1) := by decide +kernel
theorem dX0_checkLoads_11 : decode cX0_checkLoads 11 = .ok (.getfield 192, 3) := by decide +kernel
theorem dX0_checkLoads_14 : decode cX0_checkLoads 14 = .ok (.ifCond .eq 4, 3) := by decide +kernel
theorem dX0_checkLoads_17 : decode cX0_checkLoads 17 = .ok (.return_, 1) := by decide +kernel
theorem dX0_checkLoads_18 : decode cX0_checkLoads 18 = .ok (.iload_n 2, 1) := by decide +kernel
theorem dX0_checkLoads_19 : decode cX0_checkLoads 19 = .ok (.iconst 1, 1) := by decide +kernel
theorem dX0_checkLoads_20 : decode cX0_checkLoads 20 = .ok (.iadd, 1) := by decide +kernel
theorem dX0_checkLoads_21 : decode cX0_checkLoads 21 = .ok (.istore_n 3, 1) := by decide +kernel
theorem dX0_checkLoads_22 : decode cX0_checkLoads 22 = .ok (.iload_n 3, 1) := by decide +kernel
theorem dX0_checkLoads_23 : decode cX0_checkLoads 23 = .ok (.aload_n 0, 1) := by decide +kernel
theorem dX0_checkLoads_24 : decode cX0_checkLoads 24 = .ok (.getfield 60, 3) := by decide +kernel
theorem dX0_checkLoads_27 : decode cX0_checkLoads 27 = .ok (.invokevirtual 123, 3) := by decide +kernel
theorem dX0_checkLoads_30 : decode cX0_checkLoads 30 = .ok (.if_icmp .ge 127, 3) := by decide +kernel
theorem dX0_checkLoads_33 : decode cX0_checkLoads 33 = .ok (.aload_n 0, 1) := by decide +kernel
theorem dX0_checkLoads_34 : decode cX0_checkLoads 34 = .ok (.getfield 60, 3) := by decide +kernel
theorem dX0_checkLoads_37 : decode cX0_checkLoads 37 = .ok (.iload_n 3, 1) := by decide +kernel
theorem dX0_checkLoads_38 : decode cX0_checkLoads 38 = .ok (.invokevirtual 127, 3) := by decide +kernel
theorem dX0_checkLoads_41 : decode cX0_checkLoads 41 = .ok (.checkcast 131, 3) := by decide +kernel
theorem dX0_checkLoads_44 : decode cX0_checkLoads 44 = .ok (.astore 4, 2) := by decide +kernel
theorem dX0_checkLoads_46 : decode cX0_checkLoads 46 = .ok (.aload 4, 2) := by decide +kernel
theorem dX0_checkLoads_48 : decode cX0_checkLoads 48 = .ok (.getfield 161, 3) := by decide +kernel
theorem dX0_checkLoads_51 : decode cX0_checkLoads 51 = .ok (.getfield 165, 3) := by decide +kernel
theorem dX0_checkLoads_54 : decode cX0_checkLoads 54 = .ok (.bipush 9, 2) := by decide +kernel
theorem dX0_checkLoads_56 : decode cX0_checkLoads 56 = .ok (.if_icmp .ne 95, 3) := by decide +kernel
theorem dX0_checkLoads_59 : decode cX0_checkLoads 59 = .ok (.aload 4, 2) := by decide +kernel
theorem dX0_checkLoads_61 : decode cX0_checkLoads 61 = .ok (.getfield 133, 3) := by decide +kernel
theorem dX0_checkLoads_64 : decode cX0_checkLoads 64 = .ok (.bipush 113, 2) := by decide +kernel
theorem dX0_checkLoads_66 : decode cX0_checkLoads 66 = .ok (.if_icmp .eq 85, 3) := by decide +kernel
theorem dX0_checkLoads_69 : decode cX0_checkLoads 69 = .ok (.aload 4, 2) := by decide +kernel
theorem dX0_checkLoads_71 : decode cX0_checkLoads 71 = .ok (.getfield 137, 3) := by decide +kernel
theorem dX0_checkLoads_74 : decode cX0_checkLoads 74 = .ok (.aload_n 1, 1) := by decide +kernel
theorem dX0_checkLoads_75 : decode cX0_checkLoads 75 = .ok (.getfield 137, 3) := by decide +kernel
theorem dX0_checkLoads_78 : decode cX0_checkLoads 78 = .ok (.if_icmp .ne 73, 3) := by decide +kernel
theorem dX0_checkLoads_81 : decode cX0_checkLoads 81 = .ok (.aload 4, 2) := by decide +kernel
theorem dX0_checkLoads_83 : decode cX0_checkLoads 83 = .ok (.getfield 170, 3) := by decide +kernel
theorem dX0_checkLoads_86 : decode cX0_checkLoads 86 = .ok (.aload_n 1, 1) := by decide +kernel
theorem dX0_checkLoads_87 : decode cX0_checkLoads 87 = .ok (.getfield 217, 3) := by decide +kernel
theorem dX0_checkLoads_90 : decode cX0_checkLoads 90 = .ok (.if_icmp .ge 61, 3) := by decide +kernel
theorem dX0_checkLoads_93 : decode cX0_checkLoads 93 = .ok (.aload_n 0, 1) := by decide +kernel
theorem dX0_checkLoads_94 : decode cX0_checkLoads 94 = .ok (.getfield 28, 3) := by decide +kernel
theorem dX0_checkLoads_97 : decode cX0_checkLoads 97 = .ok (.dup, 1) := by decide +kernel
theorem dX0_checkLoads_98 : decode cX0_checkLoads 98 = .ok (.getfield 220, 3) := by decide +kernel
theorem dX0_checkLoads_101 : decode cX0_checkLoads 101 = .ok (.iconst 1, 1) := by decide +kernel
theorem dX0_checkLoads_102 : decode cX0_checkLoads 102 = .ok (.iadd, 1) := by decide +kernel
theorem dX0_checkLoads_103 : decode cX0_checkLoads 103 = .ok (.putfield 220, 3) := by decide +kernel
theorem dX0_checkLoads_106 : decode cX0_checkLoads 106 = .ok (.aload_n 0, 1) := by decide +kernel
theorem dX0_checkLoads_107 : decode cX0_checkLoads 107 = .ok (.getfield 70, 3) := by decide +kernel
theorem dX0_checkLoads_110 : decode cX0_checkLoads 110 = .ok (.aload 4, 2) := by decide +kernel
theorem dX0_checkLoads_112 : decode cX0_checkLoads 112 = .ok (.getfield 161, 3) := by decide +kernel
theorem dX0_checkLoads_115 : decode cX0_checkLoads 115 = .ok (.getfield 223, 3) := by decide +kernel
theorem dX0_checkLoads_118 : decode cX0_checkLoads 118 = .ok (.bipush 16, 2) := by decide +kernel
theorem dX0_checkLoads_120 : decode cX0_checkLoads 120 = .ok (.invokestatic 224, 3) := by decide +kernel
theorem dX0_checkLoads_123 : decode cX0_checkLoads 123 = .ok (.iconst 1, 1) := by decide +kernel
theorem dX0_checkLoads_124 : decode cX0_checkLoads 124 = .ok (.bastore, 1) := by decide +kernel
theorem dX0_checkLoads_125 : decode cX0_checkLoads 125 = .ok (.aload_n 0, 1) := by decide +kernel
theorem dX0_checkLoads_126 : decode cX0_checkLoads 126 = .ok (.iload_n 3, 1) := by decide +kernel
theorem dX0_checkLoads_127 : decode cX0_checkLoads 127 = .ok (.invokevirtual 204, 3) := by decide +kernel
theorem dX0_checkLoads_130 : decode cX0_checkLoads 130 = .ok (.aload_n 0, 1) := by decide +kernel
theorem dX0_checkLoads_131 : decode cX0_checkLoads 131 = .ok (.getfield 56, 3) := by decide +kernel
theorem dX0_checkLoads_134 : decode cX0_checkLoads 134 = .ok (.aload 4, 2) := by decide +kernel
theorem dX0_checkLoads_136 : decode cX0_checkLoads 136 = .ok (.getfield 161, 3) := by decide +kernel
theorem dX0_checkLoads_139 : decode cX0_checkLoads 139 = .ok (.getfield 223, 3) := by decide +kernel
theorem dX0_checkLoads_142 : decode cX0_checkLoads 142 = .ok (.aload 4, 2) := by decide +kernel
theorem dX0_checkLoads_144 : decode cX0_checkLoads 144 = .ok (.getfield 207, 3) := by decide +kernel
theorem dX0_checkLoads_147 : decode cX0_checkLoads 147 = .ok (.invokevirtual 210, 3) := by decide +kernel
theorem dX0_checkLoads_150 : decode cX0_checkLoads 150 = .ok (.return_, 1) := by decide +kernel
theorem dX0_checkLoads_151 : decode cX0_checkLoads 151 = .ok (.iinc 3 1, 3) := by decide +kernel
theorem dX0_checkLoads_154 : decode cX0_checkLoads 154 = .ok (.goto (-132), 3) := by decide +kernel
theorem dX0_checkLoads_157 : decode cX0_checkLoads 157 = .ok (.return_, 1) := by decide +kernel
theorem dX0_writeResults_0 : decode cX0_writeResults 0 = .ok (.iconst 0, 1) := by decide +kernel
theorem dX0_writeResults_1 : decode cX0_writeResults 1 = .ok (.istore_n 1, 1) := by decide +kernel
theorem dX0_writeResults_2 : decode cX0_writeResults 2 = .ok (.iconst 0, 1) := by decide +kernel
theorem dX0_writeResults_3 : decode cX0_writeResults 3 = .ok (.istore_n 2, 1) := by decide +kernel
theorem dX0_writeResults_4 : decode cX0_writeResults 4 = .ok (.iload_n 2, 1) := by decide +kernel
theorem dX0_writeResults_5 : decode cX0_writeResults 5 = .ok (.aload_n 0, 1) := by decide +kernel
theorem dX0_writeResults_6 : decode cX0_writeResults 6 = .ok (.getfield 60, 3) := by decide +kernel
theorem dX0_writeResults_9 : decode cX0_writeResults 9 = .ok (.invokevirtual 123, 3) := by decide +kernel
theorem dX0_writeResults_12 : decode cX0_writeResults 12 = .ok (.if_icmp .ge 61, 3) := by decide +kernel
theorem dX0_writeResults_15 : decode cX0_writeResults 15 = .ok (.iload_n 1, 1) := by decide +kernel
theorem dX0_writeResults_16 : decode cX0_writeResults 16 = .ok (.iconst 2, 1) := by decide +kernel
theorem dX0_writeResults_17 : decode cX0_writeResults 17 = .ok (.if_icmp .ge 56, 3) := by decide +kernel
theorem dX0_writeResults_20 : decode cX0_writeResults 20 = .ok (.aload_n 0, 1) := by decide +kernel
theorem dX0_writeResults_21 : decode cX0_writeResults 21 = .ok (.getfield 60, 3) := by decide +kernel
theorem dX0_writeResults_24 : decode cX0_writeResults 24 = .ok (.iload_n 2, 1) := by decide +kernel
theorem dX0_writeResults_25 : decode cX0_writeResults 25 = .ok (.invokevirtual 127, 3) := by decide +kernel
theorem dX0_writeResults_28 : decode cX0_writeResults 28 = .ok (.checkcast 131, 3) := by decide +kernel
theorem dX0_writeResults_31 : decode cX0_writeResults 31 = .ok (.astore_n 3, 1) := by decide +kernel
theorem dX0_writeResults_32 : decode cX0_writeResults 32 = .ok (.aload_n 3, 1) := by decide +kernel
theorem dX0_writeResults_33 : decode cX0_writeResults 33 = .ok (.getfield 133, 3) := by decide +kernel
theorem dX0_writeResults_36 : decode cX0_writeResults 36 = .ok (.bipush 98, 2) := by decide +kernel
theorem dX0_writeResults_38 : decode cX0_writeResults 38 = .ok (.if_icmp .ne 29, 3) := by decide +kernel
theorem dX0_writeResults_41 : decode cX0_writeResults 41 = .ok (.aload_n 0, 1) := by decide +kernel
theorem dX0_writeResults_42 : decode cX0_writeResults 42 = .ok (.getfield 42, 3) := by decide +kernel
theorem dX0_writeResults_45 : decode cX0_writeResults 45 = .ok (.aload_n 3, 1) := by decide +kernel
theorem dX0_writeResults_46 : decode cX0_writeResults 46 = .ok (.getfield 230, 3) := by decide +kernel
theorem dX0_writeResults_49 : decode cX0_writeResults 49 = .ok (.aload_n 3, 1) := by decide +kernel
theorem dX0_writeResults_50 : decode cX0_writeResults 50 = .ok (.getfield 176, 3) := by decide +kernel
theorem dX0_writeResults_53 : decode cX0_writeResults 53 = .ok (.invokevirtual 233, 3) := by decide +kernel
theorem dX0_writeResults_56 : decode cX0_writeResults 56 = .ok (.aload_n 3, 1) := by decide +kernel
theorem dX0_writeResults_57 : decode cX0_writeResults 57 = .ok (.aload_n 0, 1) := by decide +kernel
theorem dX0_writeResults_58 : decode cX0_writeResults 58 = .ok (.getfield 77, 3) := by decide +kernel
theorem dX0_writeResults_61 : decode cX0_writeResults 61 = .ok (.invokevirtual 183, 3) := by decide +kernel
theorem dX0_writeResults_64 : decode cX0_writeResults 64 = .ok (.iinc 1 1, 3) := by decide +kernel
theorem dX0_writeResults_67 : decode cX0_writeResults 67 = .ok (.iinc 2 1, 3) := by decide +kernel
theorem dX0_writeResults_70 : decode cX0_writeResults 70 = .ok (.goto (-66), 3) := by decide +kernel
theorem dX0_writeResults_73 : decode cX0_writeResults 73 = .ok (.return_, 1) := by decide +kernel
theorem dX0_throwAwayFrom_0 : decode cX0_throwAwayFrom 0 = .ok (.aload_n 0, 1) := by decide +kernel
theorem dX0_throwAwayFrom_1 : decode cX0_throwAwayFrom 1 = .ok (.getfield 56, 3) := by decide +kernel
theorem dX0_throwAwayFrom_4 : decode cX0_throwAwayFrom 4 = .ok (.getfield 237, 3) := by decide +kernel
theorem dX0_throwAwayFrom_7 : decode cX0_throwAwayFrom 7 = .ok (.invokevirtual 240, 3) := by decide +kernel
theorem dX0_throwAwayFrom_10 : decode cX0_throwAwayFrom 10 = .ok (.aload_n 0, 1) := by decide +kernel
theorem dX0_throwAwayFrom_11 : decode cX0_throwAwayFrom 11 = .ok (.getfield 60, 3) := by decide +kernel
theorem dX0_throwAwayFrom_14 : decode cX0_throwAwayFrom 14 = .ok (.invokevirtual 123, 3) := by decide +kernel
theorem dX0_throwAwayFrom_17 : decode cX0_throwAwayFrom 17 = .ok (.iconst 1, 1) := by decide +kernel
theorem dX0_throwAwayFrom_18 : decode cX0_throwAwayFrom 18 = .ok (.isub, 1) := by decide +kernel
theorem dX0_throwAwayFrom_19 : decode cX0_throwAwayFrom 19 = .ok (.istore_n 2, 1) := by decide +kernel
theorem dX0_throwAwayFrom_20 : decode cX0_throwAwayFrom 20 = .ok (.iload_n 2, 1) := by decide +kernel
theorem dX0_throwAwayFrom_21 : decode cX0_throwAwayFrom 21 = .ok (.iload_n 1, 1) := by decide +kernel
theorem dX0_throwAwayFrom_22 : decode cX0_throwAwayFrom 22 = .ok (.if_icmp .lt 53, 3) := by decide +kernel
theorem dX0_throwAwayFrom_25 : decode cX0_throwAwayFrom 25 = .ok (.iload_n 2, 1) := by decide +kernel
theorem dX0_throwAwayFrom_26 : decode cX0_throwAwayFrom 26 = .ok (.ifCond .lt 49, 3) := by decide +kernel
theorem dX0_throwAwayFrom_29 : decode cX0_throwAwayFrom 29 = .ok (.aload_n 0, 1) := by decide +kernel
theorem dX0_throwAwayFrom_30 : decode cX0_throwAwayFrom 30 = .ok (.getfield 42, 3) := by decide +kernel
theorem dX0_throwAwayFrom_33 : decode cX0_throwAwayFrom 33 = .ok (.aload_n 0, 1) := by decide +kernel
theorem dX0_throwAwayFrom_34 : decode cX0_throwAwayFrom 34 = .ok (.getfield 60, 3) := by decide +kernel
theorem dX0_throwAwayFrom_37 : decode cX0_throwAwayFrom 37 = .ok (.iload_n 2, 1) := by decide +kernel
theorem dX0_throwAwayFrom_38 : decode cX0_throwAwayFrom 38 = .ok (.invokevirtual 127, 3) := by decide +kernel
theorem dX0_throwAwayFrom_41 : decode cX0_throwAwayFrom 41 = .ok (.checkcast 131, 3) := by decide +kernel
theorem dX0_throwAwayFrom_44 : decode cX0_throwAwayFrom 44 = .ok (.invokevirtual 243, 3) := by decide +kernel
theorem dX0_throwAwayFrom_47 : decode cX0_throwAwayFrom 47 = .ok (.aload_n 0, 1) := by decide +kernel
theorem dX0_throwAwayFrom_48 : decode cX0_throwAwayFrom 48 = .ok (.getfield 60, 3) := by decide +kernel
theorem dX0_throwAwayFrom_51 : decode cX0_throwAwayFrom 51 = .ok (.iload_n 2, 1) := by decide +kernel
theorem dX0_throwAwayFrom_52 : decode cX0_throwAwayFrom 52 = .ok (.invokevirtual 246, 3) := by decide +kernel
theorem dX0_throwAwayFrom_55 : decode cX0_throwAwayFrom 55 = .ok (.pop, 1) := by decide +kernel
theorem dX0_throwAwayFrom_56 : decode cX0_throwAwayFrom 56 = .ok (.aload_n 0, 1) := by decide +kernel
theorem dX0_throwAwayFrom_57 : decode cX0_throwAwayFrom 57 = .ok (.getfield 28, 3) := by decide +kernel
theorem dX0_throwAwayFrom_60 : decode cX0_throwAwayFrom 60 = .ok (.dup, 1) := by decide +kernel
theorem dX0_throwAwayFrom_61 : decode cX0_throwAwayFrom 61 = .ok (.getfield 249, 3) := by decide +kernel
theorem dX0_throwAwayFrom_64 : decode cX0_throwAwayFrom 64 = .ok (.iconst 1, 1) := by decide +kernel
theorem dX0_throwAwayFrom_65 : decode cX0_throwAwayFrom 65 = .ok (.iadd, 1) := by decide +kernel
theorem dX0_throwAwayFrom_66 : decode cX0_throwAwayFrom 66 = .ok (.putfield 249, 3) := by decide +kernel
theorem dX0_throwAwayFrom_69 : decode cX0_throwAwayFrom 69 = .ok (.iinc 2 (-1), 3) := by decide +kernel
theorem dX0_throwAwayFrom_72 : decode cX0_throwAwayFrom 72 = .ok (.goto (-52), 3) := by decide +kernel
theorem dX0_throwAwayFrom_75 : decode cX0_throwAwayFrom 75 = .ok (.return_, 1) := by decide +kernel
theorem dX0_doRetiring_0 : decode cX0_doRetiring 0 = .ok (.aload_n 0, 1) := by decide +kernel
theorem dX0_doRetiring_1 : decode cX0_doRetiring 1 = .ok (.getfield 85, 3) := by decide +kernel
theorem dX0_doRetiring_4 : decode cX0_doRetiring 4 = .ok (.ifCond .eq 26, 3) := by decide +kernel
theorem dX0_doRetiring_7 : decode cX0_doRetiring 7 = .ok (.aload_n 0, 1) := by decide +kernel
theorem dX0_doRetiring_8 : decode cX0_doRetiring 8 = .ok (.getfield 88, 3) := by decide +kernel
theorem dX0_doRetiring_11 : decode cX0_doRetiring 11 = .ok (.ifCond .ne 19, 3) := by decide +kernel
theorem dX0_doRetiring_14 : decode cX0_doRetiring 14 = .ok (.aload_n 0, 1) := by decide +kernel
theorem dX0_doRetiring_15 : decode cX0_doRetiring 15 = .ok (.getfield 21, 3) := by decide +kernel
theorem dX0_doRetiring_18 : decode cX0_doRetiring 18 = .ok (.getfield 252, 3) := by decide +kernel
theorem dX0_doRetiring_21 : decode cX0_doRetiring 21 = .ok (.iconst (-1), 1) := by decide +kernel
theorem dX0_doRetiring_22 : decode cX0_doRetiring 22 = .ok (.if_icmp .eq 8, 3) := by decide +kernel
theorem dX0_doRetiring_25 : decode cX0_doRetiring 25 = .ok (.aload_n 0, 1) := by decide +kernel
theorem dX0_doRetiring_26 : decode cX0_doRetiring 26 = .ok (.invokevirtual 255, 3) := by decide +kernel
theorem dX0_doRetiring_29 : decode cX0_doRetiring 29 = .ok (.return_, 1) := by decide +kernel
theorem dX0_doRetiring_30 : decode cX0_doRetiring 30 = .ok (.iconst 0, 1) := by decide +kernel
theorem dX0_doRetiring_31 : decode cX0_doRetiring 31 = .ok (.istore_n 1, 1) := by decide +kernel
theorem dX0_doRetiring_32 : decode cX0_doRetiring 32 = .ok (.iconst 0, 1) := by decide +kernel
theorem dX0_doRetiring_33 : decode cX0_doRetiring 33 = .ok (.istore_n 2, 1) := by decide +kernel
theorem dX0_doRetiring_34 : decode cX0_doRetiring 34 = .ok (.iload_n 2, 1) := by decide +kernel
theorem dX0_doRetiring_35 : decode cX0_doRetiring 35 = .ok (.aload_n 0, 1) := by decide +kernel
theorem dX0_doRetiring_36 : decode cX0_doRetiring 36 = .ok (.getfield 21, 3) := by decide +kernel
theorem dX0_doRetiring_39 : decode cX0_doRetiring 39 = .ok (.getfield 112, 3) := by decide +kernel
theorem dX0_doRetiring_42 : decode cX0_doRetiring 42 = .ok (.if_icmp .ge 100, 3) := by decide +kernel
theorem dX0_doRetiring_45 : decode cX0_doRetiring 45 = .ok (.aload_n 0, 1) := by decide +kernel
theorem dX0_doRetiring_46 : decode cX0_doRetiring 46 = .ok (.invokevirtual 258, 3) := by decide +kernel
theorem dX0_doRetiring_49 : decode cX0_doRetiring 49 = .ok (.ifCond .eq 93, 3) := by decide +kernel
theorem dX0_doRetiring_52 : decode cX0_doRetiring 52 = .ok (.aload_n 0, 1) := by decide +kernel
theorem dX0_doRetiring_53 : decode cX0_doRetiring 53 = .ok (.getfield 60, 3) := by decide +kernel
theorem dX0_doRetiring_56 : decode cX0_doRetiring 56 = .ok (.iconst 0, 1) := by decide +kernel
theorem dX0_doRetiring_57 : decode cX0_doRetiring 57 = .ok (.invokevirtual 127, 3) := by decide +kernel
theorem dX0_doRetiring_60 : decode cX0_doRetiring 60 = .ok (.checkcast 131, 3) := by decide +kernel
theorem dX0_doRetiring_63 : decode cX0_doRetiring 63 = .ok (.astore_n 3, 1) := by decide +kernel
theorem dX0_doRetiring_64 : decode cX0_doRetiring 64 = .ok (.aload_n 3, 1) := by decide +kernel
theorem dX0_doRetiring_65 : decode cX0_doRetiring 65 = .ok (.getfield 261, 3) := by decide +kernel
theorem dX0_doRetiring_68 : decode cX0_doRetiring 68 = .ok (.iconst 4, 1) := by decide +kernel
theorem dX0_doRetiring_69 : decode cX0_doRetiring 69 = .ok (.aload_n 0, 1) := by decide +kernel
theorem dX0_doRetiring_70 : decode cX0_doRetiring 70 = .ok (.getfield 77, 3) := by decide +kernel
theorem dX0_doRetiring_73 : decode cX0_doRetiring 73 = .ok (.iastore, 1) := by decide +kernel
theorem dX0_doRetiring_74 : decode cX0_doRetiring 74 = .ok (.aload_n 0, 1) := by decide +kernel
theorem dX0_doRetiring_75 : decode cX0_doRetiring 75 = .ok (.aload_n 3, 1) := by decide +kernel
theorem dX0_doRetiring_76 : decode cX0_doRetiring 76 = .ok (.getfield 192, 3) := by decide +kernel
theorem dX0_doRetiring_79 : decode cX0_doRetiring 79 = .ok (.aload_n 3, 1) := by decide +kernel
theorem dX0_doRetiring_80 : decode cX0_doRetiring 80 = .ok (.getfield 161, 3) := by decide +kernel
theorem dX0_doRetiring_83 : decode cX0_doRetiring 83 = .ok (.getfield 223, 3) := by decide +kernel
theorem dX0_doRetiring_86 : decode cX0_doRetiring 86 = .ok (.aload_n 3, 1) := by decide +kernel
theorem dX0_doRetiring_87 : decode cX0_doRetiring 87 = .ok (.getfield 261, 3) := by decide +kernel
theorem dX0_doRetiring_90 : decode cX0_doRetiring 90 = .ok (.invokevirtual 264, 3) := by decide +kernel
theorem dX0_doRetiring_93 : decode cX0_doRetiring 93 = .ok (.aload_n 3, 1) := by decide +kernel
theorem dX0_doRetiring_94 : decode cX0_doRetiring 94 = .ok (.getfield 192, 3) := by decide +kernel
theorem dX0_doRetiring_97 : decode cX0_doRetiring 97 = .ok (.ifCond .eq 22, 3) := by decide +kernel
theorem dX0_doRetiring_100 : decode cX0_doRetiring 100 = .ok (.aload_n 0, 1) := by decide +kernel
theorem dX0_doRetiring_101 : decode cX0_doRetiring 101 = .ok (.aload_n 3, 1) := by decide +kernel
theorem dX0_doRetiring_102 : decode cX0_doRetiring 102 = .ok (.invokevirtual 268, 3) := by decide +kernel
theorem dX0_doRetiring_105 : decode cX0_doRetiring 105 = .ok (.iload_n 1, 1) := by decide +kernel
theorem dX0_doRetiring_106 : decode cX0_doRetiring 106 = .ok (.ifCond .ne 12, 3) := by decide +kernel
theorem dX0_doRetiring_109 : decode cX0_doRetiring 109 = .ok (.aload_n 0, 1) := by decide +kernel
theorem dX0_doRetiring_110 : decode cX0_doRetiring 110 = .ok (.getfield 28, 3) := by decide +kernel
theorem dX0_doRetiring_113 : decode cX0_doRetiring 113 = .ok (.bipush 116, 2) := by decide +kernel
theorem dX0_doRetiring_115 : decode cX0_doRetiring 115 = .ok (.invokevirtual 271, 3) := by decide +kernel
theorem dX0_doRetiring_118 : decode cX0_doRetiring 118 = .ok (.return_, 1) := by decide +kernel
theorem dX0_doRetiring_119 : decode cX0_doRetiring 119 = .ok (.aload_n 0, 1) := by decide +kernel
theorem dX0_doRetiring_120 : decode cX0_doRetiring 120 = .ok (.getfield 60, 3) := by decide +kernel
theorem dX0_doRetiring_123 : decode cX0_doRetiring 123 = .ok (.iconst 0, 1) := by decide +kernel
theorem dX0_doRetiring_124 : decode cX0_doRetiring 124 = .ok (.invokevirtual 246, 3) := by decide +kernel
theorem dX0_doRetiring_127 : decode cX0_doRetiring 127 = .ok (.pop, 1) := by decide +kernel
theorem dX0_doRetiring_128 : decode cX0_doRetiring 128 = .ok (.aload_n 0, 1) := by decide +kernel
theorem dX0_doRetiring_129 : decode cX0_doRetiring 129 = .ok (.aload_n 3, 1) := by decide +kernel
theorem dX0_doRetiring_130 : decode cX0_doRetiring 130 = .ok (.invokevirtual 275, 3) := by decide +kernel
theorem dX0_doRetiring_133 : decode cX0_doRetiring 133 = .ok (.iinc 1 1, 3) := by decide +kernel
theorem dX0_doRetiring_136 : decode cX0_doRetiring 136 = .ok (.iinc 2 1, 3) := by decide +kernel
theorem dX0_doRetiring_139 : decode cX0_doRetiring 139 = .ok (.goto (-105), 3) := by decide +kernel
theorem dX0_doRetiring_142 : decode cX0_doRetiring 142 = .ok (.iload_n 1, 1) := by decide +kernel
theorem dX0_doRetiring_143 : decode cX0_doRetiring 143 = .ok (.ifCond .ne 14, 3) := by decide +kernel
theorem dX0_doRetiring_146 : decode cX0_doRetiring 146 = .ok (.aload_n 0, 1) := by decide +kernel
theorem dX0_doRetiring_147 : decode cX0_doRetiring 147 = .ok (.getfield 28, 3) := by decide +kernel
theorem dX0_doRetiring_150 : decode cX0_doRetiring 150 = .ok (.aload_n 0, 1) := by decide +kernel
theorem dX0_doRetiring_151 : decode cX0_doRetiring 151 = .ok (.invokevirtual 278, 3) := by decide +kernel
theorem dX0_doRetiring_154 : decode cX0_doRetiring 154 = .ok (.invokevirtual 271, 3) := by decide +kernel
theorem dX0_doRetiring_157 : decode cX0_doRetiring 157 = .ok (.return_, 1) := by decide +kernel
theorem dX0_canLeave_0 : decode cX0_canLeave 0 = .ok (.aload_n 0, 1) := by decide +kernel
theorem dX0_canLeave_1 : decode cX0_canLeave 1 = .ok (.getfield 81, 3) := by decide +kernel
theorem dX0_canLeave_4 : decode cX0_canLeave 4 = .ok (.ifCond .ne 13, 3) := by decide +kernel
theorem dX0_canLeave_7 : decode cX0_canLeave 7 = .ok (.aload_n 0, 1) := by decide +kernel
theorem dX0_canLeave_8 : decode cX0_canLeave 8 = .ok (.getfield 60, 3) := by decide +kernel
theorem dX0_canLeave_11 : decode cX0_canLeave 11 = .ok (.invokevirtual 282, 3) := by decide +kernel
theorem dX0_canLeave_14 : decode cX0_canLeave 14 = .ok (.ifCond .eq 5, 3) := by decide +kernel
theorem dX0_canLeave_17 : decode cX0_canLeave 17 = .ok (.iconst 0, 1) := by decide +kernel
theorem dX0_canLeave_18 : decode cX0_canLeave 18 = .ok (.ireturn, 1) := by decide +kernel
theorem dX0_canLeave_19 : decode cX0_canLeave 19 = .ok (.aload_n 0, 1) := by decide +kernel
theorem dX0_canLeave_20 : decode cX0_canLeave 20 = .ok (.getfield 60, 3) := by decide +kernel
theorem dX0_canLeave_23 : decode cX0_canLeave 23 = .ok (.iconst 0, 1) := by decide +kernel
theorem dX0_canLeave_24 : decode cX0_canLeave 24 = .ok (.invokevirtual 127, 3) := by decide +kernel
theorem dX0_canLeave_27 : decode cX0_canLeave 27 = .ok (.checkcast 131, 3) := by decide +kernel
theorem dX0_canLeave_30 : decode cX0_canLeave 30 = .ok (.astore_n 1, 1) := by decide +kernel
theorem dX0_canLeave_31 : decode cX0_canLeave 31 = .ok (.aload_n 1, 1) := by decide +kernel
theorem dX0_canLeave_32 : decode cX0_canLeave 32 = .ok (.getfield 133, 3) := by decide +kernel
theorem dX0_canLeave_35 : decode cX0_canLeave 35 = .ok (.bipush 101, 2) := by decide +kernel
theorem dX0_canLeave_37 : decode cX0_canLeave 37 = .ok (.if_icmp .eq 5, 3) := by decide +kernel
theorem dX0_canLeave_40 : decode cX0_canLeave 40 = .ok (.iconst 0, 1) := by decide +kernel
theorem dX0_canLeave_41 : decode cX0_canLeave 41 = .ok (.ireturn, 1) := by decide +kernel
theorem dX0_canLeave_42 : decode cX0_canLeave 42 = .ok (.aload_n 1, 1) := by decide +kernel
theorem dX0_canLeave_43 : decode cX0_canLeave 43 = .ok (.getfield 161, 3) := by decide +kernel
theorem dX0_canLeave_46 : decode cX0_canLeave 46 = .ok (.invokevirtual 214, 3) := by decide +kernel
theorem dX0_canLeave_49 : decode cX0_canLeave 49 = .ok (.ifCond .eq 24, 3) := by decide +kernel
theorem dX0_canLeave_52 : decode cX0_canLeave 52 = .ok (.aload_n 1, 1) := by decide +kernel
theorem dX0_canLeave_53 : decode cX0_canLeave 53 = .ok (.getfield 192, 3) := by decide +kernel
theorem dX0_canLeave_56 : decode cX0_canLeave 56 = .ok (.ifCond .ne 17, 3) := by decide +kernel
theorem dX0_canLeave_59 : decode cX0_canLeave 59 = .ok (.aload_n 0, 1) := by decide +kernel
theorem dX0_canLeave_60 : decode cX0_canLeave 60 = .ok (.getfield 42, 3) := by decide +kernel
theorem dX0_canLeave_63 : decode cX0_canLeave 63 = .ok (.aload_n 1, 1) := by decide +kernel
theorem dX0_canLeave_64 : decode cX0_canLeave 64 = .ok (.getfield 285, 3) := by decide +kernel
theorem dX0_canLeave_67 : decode cX0_canLeave 67 = .ok (.invokevirtual 288, 3) := by decide +kernel
theorem dX0_canLeave_70 : decode cX0_canLeave 70 = .ok (.ifCond .eq 7, 3) := by decide +kernel
theorem dX0_canLeave_73 : decode cX0_canLeave 73 = .ok (.iconst 1, 1) := by decide +kernel
theorem dX0_canLeave_74 : decode cX0_canLeave 74 = .ok (.goto 4, 3) := by decide +kernel
theorem dX0_canLeave_77 : decode cX0_canLeave 77 = .ok (.iconst 0, 1) := by decide +kernel
theorem dX0_canLeave_78 : decode cX0_canLeave 78 = .ok (.ireturn, 1) := by decide +kernel
theorem dX0_reasonOfWaiting_0 : decode cX0_reasonOfWaiting 0 = .ok (.aload_n 0, 1) := by decide +kernel
theorem dX0_reasonOfWaiting_1 : decode cX0_reasonOfWaiting 1 = .ok (.getfield 60, 3) := by decide +kernel
theorem dX0_reasonOfWaiting_4 : decode cX0_reasonOfWaiting 4 = .ok (.invokevirtual 282, 3) := by decide +kernel
theorem dX0_reasonOfWaiting_7 : decode cX0_reasonOfWaiting 7 = .ok (.ifCond .eq 6, 3) := by decide +kernel
theorem dX0_reasonOfWaiting_10 : decode cX0_reasonOfWaiting 10 = .ok (.bipush 102, 2) := by decide +kernel
theorem dX0_reasonOfWaiting_12 : decode cX0_reasonOfWaiting 12 = .ok (.ireturn, 1) := by decide +kernel
theorem dX0_reasonOfWaiting_13 : decode cX0_reasonOfWaiting 13 = .ok (.aload_n 0, 1) := by decide +kernel
theorem dX0_reasonOfWaiting_14 : decode cX0_reasonOfWaiting 14 = .ok (.getfield 60, 3) := by decide +kernel
theorem dX0_reasonOfWaiting_17 : decode cX0_reasonOfWaiting 17 = .ok (.iconst 0, 1) := by decide +kernel
theorem dX0_reasonOfWaiting_18 : decode cX0_reasonOfWaiting 18 = .ok (.invokevirtual 127, 3) := by decide +kernel
theorem dX0_reasonOfWaiting_21 : decode cX0_reasonOfWaiting 21 = .ok (.checkcast 131, 3) := by decide +kernel
theorem dX0_reasonOfWaiting_24 : decode cX0_reasonOfWaiting 24 = .ok (.getfield 133, 3) := by decide +kernel
theorem dX0_reasonOfWaiting_27 : decode cX0_reasonOfWaiting 27 = .ok (.istore_n 1, 1) := by decide +kernel
theorem dX0_reasonOfWaiting_28 : decode cX0_reasonOfWaiting 28 = .ok (.iload_n 1, 1) := by decide +kernel
theorem dX0_reasonOfWaiting_29 : decode cX0_reasonOfWaiting 29 = .ok (.bipush 101, 2) := by decide +kernel
theorem dX0_reasonOfWaiting_31 : decode cX0_reasonOfWaiting 31 = .ok (.if_icmp .ne 8, 3) := by decide +kernel
theorem dX0_reasonOfWaiting_34 : decode cX0_reasonOfWaiting 34 = .ok (.bipush 100, 2) := by decide +kernel
theorem dX0_reasonOfWaiting_36 : decode cX0_reasonOfWaiting 36 = .ok (.goto 4, 3) := by decide +kernel
theorem dX0_reasonOfWaiting_39 : decode cX0_reasonOfWaiting 39 = .ok (.iload_n 1, 1) := by decide +kernel
theorem dX0_reasonOfWaiting_40 : decode cX0_reasonOfWaiting 40 = .ok (.ireturn, 1) := by decide +kernel
theorem dX0_takeInterrupt_0 : decode cX0_takeInterrupt 0 = .ok (.aload_n 0, 1) := by decide +kernel
theorem dX0_takeInterrupt_1 : decode cX0_takeInterrupt 1 = .ok (.bipush 9, 2) := by decide +kernel
theorem dX0_takeInterrupt_3 : decode cX0_takeInterrupt 3 = .ok (.aload_n 0, 1) := by decide +kernel
theorem dX0_takeInterrupt_4 : decode cX0_takeInterrupt 4 = .ok (.getfield 94, 3) := by decide +kernel
theorem dX0_takeInterrupt_7 : decode cX0_takeInterrupt 7 = .ok (.invokestatic 291, 3) := by decide +kernel
theorem dX0_takeInterrupt_10 : decode cX0_takeInterrupt 10 = .ok (.invokevirtual 264, 3) := by decide +kernel
theorem dX0_takeInterrupt_13 : decode cX0_takeInterrupt 13 = .ok (.aload_n 0, 1) := by decide +kernel
theorem dX0_takeInterrupt_14 : decode cX0_takeInterrupt 14 = .ok (.iconst 0, 1) := by decide +kernel
theorem dX0_takeInterrupt_15 : decode cX0_takeInterrupt 15 = .ok (.putfield 85, 3) := by decide +kernel
theorem dX0_takeInterrupt_18 : decode cX0_takeInterrupt 18 = .ok (.aload_n 0, 1) := by decide +kernel
theorem dX0_takeInterrupt_19 : decode cX0_takeInterrupt 19 = .ok (.iconst 1, 1) := by decide +kernel
theorem dX0_takeInterrupt_20 : decode cX0_takeInterrupt 20 = .ok (.putfield 88, 3) := by decide +kernel
theorem dX0_takeInterrupt_23 : decode cX0_takeInterrupt 23 = .ok (.aload_n 0, 1) := by decide +kernel
theorem dX0_takeInterrupt_24 : decode cX0_takeInterrupt 24 = .ok (.aload_n 0, 1) := by decide +kernel
theorem dX0_takeInterrupt_25 : decode cX0_takeInterrupt 25 = .ok (.getfield 94, 3) := by decide +kernel
theorem dX0_takeInterrupt_28 : decode cX0_takeInterrupt 28 = .ok (.putfield 91, 3) := by decide +kernel
theorem dX0_takeInterrupt_31 : decode cX0_takeInterrupt 31 = .ok (.aload_n 0, 1) := by decide +kernel
theorem dX0_takeInterrupt_32 : decode cX0_takeInterrupt 32 = .ok (.aload_n 0, 1) := by decide +kernel
theorem dX0_takeInterrupt_33 : decode cX0_takeInterrupt 33 = .ok (.getfield 21, 3) := by decide +kernel
theorem dX0_takeInterrupt_36 : decode cX0_takeInterrupt 36 = .ok (.getfield 252, 3) := by decide +kernel
theorem dX0_takeInterrupt_39 : decode cX0_takeInterrupt 39 = .ok (.putfield 94, 3) := by decide +kernel
theorem dX0_takeInterrupt_42 : decode cX0_takeInterrupt 42 = .ok (.aload_n 0, 1) := by decide +kernel
theorem dX0_takeInterrupt_43 : decode cX0_takeInterrupt 43 = .ok (.iconst 0, 1) := by decide +kernel
theorem dX0_takeInterrupt_44 : decode cX0_takeInterrupt 44 = .ok (.invokevirtual 204, 3) := by decide +kernel
theorem dX0_takeInterrupt_47 : decode cX0_takeInterrupt 47 = .ok (.aload_n 0, 1) := by decide +kernel
theorem dX0_takeInterrupt_48 : decode cX0_takeInterrupt 48 = .ok (.getfield 56, 3) := by decide +kernel
theorem dX0_takeInterrupt_51 : decode cX0_takeInterrupt 51 = .ok (.aload_n 0, 1) := by decide +kernel
theorem dX0_takeInterrupt_52 : decode cX0_takeInterrupt 52 = .ok (.getfield 94, 3) := by decide +kernel
theorem dX0_takeInterrupt_55 : decode cX0_takeInterrupt 55 = .ok (.iconst 0, 1) := by decide +kernel
theorem dX0_takeInterrupt_56 : decode cX0_takeInterrupt 56 = .ok (.newarray .int, 2) := by decide +kernel
theorem dX0_takeInterrupt_58 : decode cX0_takeInterrupt 58 = .ok (.invokevirtual 210, 3) := by decide +kernel
theorem dX0_takeInterrupt_61 : decode cX0_takeInterrupt 61 = .ok (.aload_n 0, 1) := by decide +kernel
theorem dX0_takeInterrupt_62 : decode cX0_takeInterrupt 62 = .ok (.getfield 28, 3) := by decide +kernel
theorem dX0_takeInterrupt_65 : decode cX0_takeInterrupt 65 = .ok (.bipush 105, 2) := by decide +kernel
theorem dX0_takeInterrupt_67 : decode cX0_takeInterrupt 67 = .ok (.invokevirtual 271, 3) := by decide +kernel
theorem dX0_takeInterrupt_70 : decode cX0_takeInterrupt 70 = .ok (.return_, 1) := by decide +kernel
theorem dX0_takeTrap_0 : decode cX0_takeTrap 0 = .ok (.aload_n 0, 1) := by decide +kernel
theorem dX0_takeTrap_1 : decode cX0_takeTrap 1 = .ok (.iconst 0, 1) := by decide +kernel
theorem dX0_takeTrap_2 : decode cX0_takeTrap 2 = .ok (.invokevirtual 204, 3) := by decide +kernel
theorem dX0_takeTrap_5 : decode cX0_takeTrap 5 = .ok (.aload_n 0, 1) := by decide +kernel
theorem dX0_takeTrap_6 : decode cX0_takeTrap 6 = .ok (.getfield 88, 3) := by decide +kernel
theorem dX0_takeTrap_9 : decode cX0_takeTrap 9 = .ok (.ifCond .ne 14, 3) := by decide +kernel
theorem dX0_takeTrap_12 : decode cX0_takeTrap 12 = .ok (.aload_n 0, 1) := by decide +kernel
theorem dX0_takeTrap_13 : decode cX0_takeTrap 13 = .ok (.getfield 21, 3) := by decide +kernel
theorem dX0_takeTrap_16 : decode cX0_takeTrap 16 = .ok (.getfield 295, 3) := by decide +kernel
theorem dX0_takeTrap_19 : decode cX0_takeTrap 19 = .ok (.iconst (-1), 1) := by decide +kernel
theorem dX0_takeTrap_20 : decode cX0_takeTrap 20 = .ok (.if_icmp .ne 11, 3) := by decide +kernel
theorem dX0_takeTrap_23 : decode cX0_takeTrap 23 = .ok (.aload_n 0, 1) := by decide +kernel
theorem dX0_takeTrap_24 : decode cX0_takeTrap 24 = .ok (.iconst 1, 1) := by decide +kernel
theorem dX0_takeTrap_25 : decode cX0_takeTrap 25 = .ok (.putfield 81, 3) := by decide +kernel
theorem dX0_takeTrap_28 : decode cX0_takeTrap 28 = .ok (.goto 32, 3) := by decide +kernel
theorem dX0_takeTrap_31 : decode cX0_takeTrap 31 = .ok (.aload_n 0, 1) := by decide +kernel
theorem dX0_takeTrap_32 : decode cX0_takeTrap 32 = .ok (.aload_n 1, 1) := by decide +kernel
theorem dX0_takeTrap_33 : decode cX0_takeTrap 33 = .ok (.getfield 161, 3) := by decide +kernel
theorem dX0_takeTrap_36 : decode cX0_takeTrap 36 = .ok (.getfield 223, 3) := by decide +kernel
theorem dX0_takeTrap_39 : decode cX0_takeTrap 39 = .ok (.iconst 1, 1) := by decide +kernel
theorem dX0_takeTrap_40 : decode cX0_takeTrap 40 = .ok (.iadd, 1) := by decide +kernel
theorem dX0_takeTrap_41 : decode cX0_takeTrap 41 = .ok (.putfield 91, 3) := by decide +kernel
theorem dX0_takeTrap_44 : decode cX0_takeTrap 44 = .ok (.aload_n 0, 1) := by decide +kernel
theorem dX0_takeTrap_45 : decode cX0_takeTrap 45 = .ok (.iconst 1, 1) := by decide +kernel
theorem dX0_takeTrap_46 : decode cX0_takeTrap 46 = .ok (.putfield 88, 3) := by decide +kernel
theorem dX0_takeTrap_49 : decode cX0_takeTrap 49 = .ok (.aload_n 0, 1) := by decide +kernel
theorem dX0_takeTrap_50 : decode cX0_takeTrap 50 = .ok (.aload_n 0, 1) := by decide +kernel
theorem dX0_takeTrap_51 : decode cX0_takeTrap 51 = .ok (.getfield 21, 3) := by decide +kernel
theorem dX0_takeTrap_54 : decode cX0_takeTrap 54 = .ok (.getfield 295, 3) := by decide +kernel
theorem dX0_takeTrap_57 : decode cX0_takeTrap 57 = .ok (.putfield 94, 3) := by decide +kernel
theorem dX0_takeTrap_60 : decode cX0_takeTrap 60 = .ok (.aload_n 0, 1) := by decide +kernel
theorem dX0_takeTrap_61 : decode cX0_takeTrap 61 = .ok (.getfield 56, 3) := by decide +kernel
theorem dX0_takeTrap_64 : decode cX0_takeTrap 64 = .ok (.aload_n 0, 1) := by decide +kernel
theorem dX0_takeTrap_65 : decode cX0_takeTrap 65 = .ok (.getfield 94, 3) := by decide +kernel
theorem dX0_takeTrap_68 : decode cX0_takeTrap 68 = .ok (.iconst 0, 1) := by decide +kernel
theorem dX0_takeTrap_69 : decode cX0_takeTrap 69 = .ok (.newarray .int, 2) := by decide +kernel
theorem dX0_takeTrap_71 : decode cX0_takeTrap 71 = .ok (.invokevirtual 210, 3) := by decide +kernel
theorem dX0_takeTrap_74 : decode cX0_takeTrap 74 = .ok (.aload_n 0, 1) := by decide +kernel
theorem dX0_takeTrap_75 : decode cX0_takeTrap 75 = .ok (.getfield 56, 3) := by decide +kernel
theorem dX0_takeTrap_78 : decode cX0_takeTrap 78 = .ok (.aload_n 0, 1) := by decide +kernel
theorem dX0_takeTrap_79 : decode cX0_takeTrap 79 = .ok (.getfield 81, 3) := by decide +kernel
theorem dX0_takeTrap_82 : decode cX0_takeTrap 82 = .ok (.putfield 298, 3) := by decide +kernel
theorem dX0_takeTrap_85 : decode cX0_takeTrap 85 = .ok (.return_, 1) := by decide +kernel
theorem dX0_retireOldest_0 : decode cX0_retireOldest 0 = .ok (.aload_n 1, 1) := by decide +kernel
theorem dX0_retireOldest_1 : decode cX0_retireOldest 1 = .ok (.getfield 161, 3) := by decide +kernel
theorem dX0_retireOldest_4 : decode cX0_retireOldest 4 = .ok (.astore_n 2, 1) := by decide +kernel
theorem dX0_retireOldest_5 : decode cX0_retireOldest 5 = .ok (.aload_n 0, 1) := by decide +kernel
theorem dX0_retireOldest_6 : decode cX0_retireOldest 6 = .ok (.aload_n 1, 1) := by decide +kernel
theorem dX0_retireOldest_7 : decode cX0_retireOldest 7 = .ok (.getfield 195, 3) := by decide +kernel
theorem dX0_retireOldest_10 : decode cX0_retireOldest 10 = .ok (.putfield 94, 3) := by decide +kernel
theorem dX0_retireOldest_13 : decode cX0_retireOldest 13 = .ok (.aload_n 0, 1) := by decide +kernel
theorem dX0_retireOldest_14 : decode cX0_retireOldest 14 = .ok (.getfield 42, 3) := by decide +kernel
theorem dX0_retireOldest_17 : decode cX0_retireOldest 17 = .ok (.aload_n 1, 1) := by decide +kernel
theorem dX0_retireOldest_18 : decode cX0_retireOldest 18 = .ok (.invokevirtual 301, 3) := by decide +kernel
theorem dX0_retireOldest_21 : decode cX0_retireOldest 21 = .ok (.aload_n 0, 1) := by decide +kernel
theorem dX0_retireOldest_22 : decode cX0_retireOldest 22 = .ok (.getfield 56, 3) := by decide +kernel
theorem dX0_retireOldest_25 : decode cX0_retireOldest 25 = .ok (.aload_n 1, 1) := by decide +kernel
theorem dX0_retireOldest_26 : decode cX0_retireOldest 26 = .ok (.invokevirtual 304, 3) := by decide +kernel
theorem dX0_retireOldest_29 : decode cX0_retireOldest 29 = .ok (.aload_n 2, 1) := by decide +kernel
theorem dX0_retireOldest_30 : decode cX0_retireOldest 30 = .ok (.invokevirtual 214, 3) := by decide +kernel
theorem dX0_retireOldest_33 : decode cX0_retireOldest 33 = .ok (.ifCond .eq 49, 3) := by decide +kernel
theorem dX0_retireOldest_36 : decode cX0_retireOldest 36 = .ok (.aload_n 1, 1) := by decide +kernel
theorem dX0_retireOldest_37 : decode cX0_retireOldest 37 = .ok (.getfield 137, 3) := by decide +kernel
theorem dX0_retireOldest_40 : decode cX0_retireOldest 40 = .ok (.invokestatic 173, 3) := by decide +kernel
theorem dX0_retireOldest_43 : decode cX0_retireOldest 43 = .ok (.ifCond .eq 39, 3) := by decide +kernel
theorem dX0_retireOldest_46 : decode cX0_retireOldest 46 = .ok (.aload_n 0, 1) := by decide +kernel
theorem dX0_retireOldest_47 : decode cX0_retireOldest 47 = .ok (.getfield 66, 3) := by decide +kernel
theorem dX0_retireOldest_50 : decode cX0_retireOldest 50 = .ok (.aload_n 1, 1) := by decide +kernel
theorem dX0_retireOldest_51 : decode cX0_retireOldest 51 = .ok (.getfield 137, 3) := by decide +kernel
theorem dX0_retireOldest_54 : decode cX0_retireOldest 54 = .ok (.aload_n 2, 1) := by decide +kernel
theorem dX0_retireOldest_55 : decode cX0_retireOldest 55 = .ok (.aload_n 0, 1) := by decide +kernel
theorem dX0_retireOldest_56 : decode cX0_retireOldest 56 = .ok (.getfield 66, 3) := by decide +kernel
theorem dX0_retireOldest_59 : decode cX0_retireOldest 59 = .ok (.aload_n 1, 1) := by decide +kernel
theorem dX0_retireOldest_60 : decode cX0_retireOldest 60 = .ok (.getfield 137, 3) := by decide +kernel
theorem dX0_retireOldest_63 : decode cX0_retireOldest 63 = .ok (.iaload, 1) := by decide +kernel
theorem dX0_retireOldest_64 : decode cX0_retireOldest 64 = .ok (.aload_n 0, 1) := by decide +kernel
theorem dX0_retireOldest_65 : decode cX0_retireOldest 65 = .ok (.getfield 42, 3) := by decide +kernel
theorem dX0_retireOldest_68 : decode cX0_retireOldest 68 = .ok (.aload_n 1, 1) := by decide +kernel
theorem dX0_retireOldest_69 : decode cX0_retireOldest 69 = .ok (.getfield 285, 3) := by decide +kernel
theorem dX0_retireOldest_72 : decode cX0_retireOldest 72 = .ok (.invokevirtual 307, 3) := by decide +kernel
theorem dX0_retireOldest_75 : decode cX0_retireOldest 75 = .ok (.invokevirtual 311, 3) := by decide +kernel
theorem dX0_retireOldest_78 : decode cX0_retireOldest 78 = .ok (.iastore, 1) := by decide +kernel
theorem dX0_retireOldest_79 : decode cX0_retireOldest 79 = .ok (.goto 60, 3) := by decide +kernel
theorem dX0_retireOldest_82 : decode cX0_retireOldest 82 = .ok (.aload_n 2, 1) := by decide +kernel
theorem dX0_retireOldest_83 : decode cX0_retireOldest 83 = .ok (.getfield 165, 3) := by decide +kernel
theorem dX0_retireOldest_86 : decode cX0_retireOldest 86 = .ok (.bipush 18, 2) := by decide +kernel
theorem dX0_retireOldest_88 : decode cX0_retireOldest 88 = .ok (.if_icmp .ne 11, 3) := by decide +kernel
theorem dX0_retireOldest_91 : decode cX0_retireOldest 91 = .ok (.aload_n 0, 1) := by decide +kernel
theorem dX0_retireOldest_92 : decode cX0_retireOldest 92 = .ok (.iconst 1, 1) := by decide +kernel
theorem dX0_retireOldest_93 : decode cX0_retireOldest 93 = .ok (.putfield 81, 3) := by decide +kernel
theorem dX0_retireOldest_96 : decode cX0_retireOldest 96 = .ok (.goto 43, 3) := by decide +kernel
theorem dX0_retireOldest_99 : decode cX0_retireOldest 99 = .ok (.aload_n 2, 1) := by decide +kernel
theorem dX0_retireOldest_100 : decode cX0_retireOldest 100 = .ok (.getfield 165, 3) := by decide +kernel
theorem dX0_retireOldest_103 : decode cX0_retireOldest 103 = .ok (.bipush 21, 2) := by decide +kernel
theorem dX0_retireOldest_105 : decode cX0_retireOldest 105 = .ok (.if_icmp .ne 34, 3) := by decide +kernel
theorem dX0_retireOldest_108 : decode cX0_retireOldest 108 = .ok (.aload_n 0, 1) := by decide +kernel
theorem dX0_retireOldest_109 : decode cX0_retireOldest 109 = .ok (.iconst 0, 1) := by decide +kernel
theorem dX0_retireOldest_110 : decode cX0_retireOldest 110 = .ok (.putfield 88, 3) := by decide +kernel
theorem dX0_retireOldest_113 : decode cX0_retireOldest 113 = .ok (.aload_n 0, 1) := by decide +kernel
theorem dX0_retireOldest_114 : decode cX0_retireOldest 114 = .ok (.aload_n 0, 1) := by decide +kernel
theorem dX0_retireOldest_115 : decode cX0_retireOldest 115 = .ok (.getfield 91, 3) := by decide +kernel
theorem dX0_retireOldest_118 : decode cX0_retireOldest 118 = .ok (.putfield 94, 3) := by decide +kernel
theorem dX0_retireOldest_121 : decode cX0_retireOldest 121 = .ok (.aload_n 0, 1) := by decide +kernel
theorem dX0_retireOldest_122 : decode cX0_retireOldest 122 = .ok (.getfield 56, 3) := by decide +kernel
theorem dX0_retireOldest_125 : decode cX0_retireOldest 125 = .ok (.aload_n 0, 1) := by decide +kernel
theorem dX0_retireOldest_126 : decode cX0_retireOldest 126 = .ok (.getfield 94, 3) := by decide +kernel
theorem dX0_retireOldest_129 : decode cX0_retireOldest 129 = .ok (.aload_n 0, 1) := by decide +kernel
theorem dX0_retireOldest_130 : decode cX0_retireOldest 130 = .ok (.getfield 56, 3) := by decide +kernel
theorem dX0_retireOldest_133 : decode cX0_retireOldest 133 = .ok (.getfield 314, 3) := by decide +kernel
theorem dX0_retireOldest_136 : decode cX0_retireOldest 136 = .ok (.invokevirtual 210, 3) := by decide +kernel
theorem dX0_retireOldest_139 : decode cX0_retireOldest 139 = .ok (.return_, 1) := by decide +kernel
theorem dX0_addEnd_0 : decode cX0_addEnd 0 = .ok (.aload_n 0, 1) := by decide +kernel
theorem dX0_addEnd_1 : decode cX0_addEnd 1 = .ok (.getfield 35, 3) := by decide +kernel
theorem dX0_addEnd_4 : decode cX0_addEnd 4 = .ok (.getfield 315, 3) := by decide +kernel
theorem dX0_addEnd_7 : decode cX0_addEnd 7 = .ok (.istore 4, 2) := by decide +kernel
theorem dX0_addEnd_9 : decode cX0_addEnd 9 = .ok (.bipush 9, 2) := by decide +kernel
theorem dX0_addEnd_11 : decode cX0_addEnd 11 = .ok (.istore 5, 2) := by decide +kernel
theorem dX0_addEnd_13 : decode cX0_addEnd 13 = .ok (.iload_n 1, 1) := by decide +kernel
theorem dX0_addEnd_14 : decode cX0_addEnd 14 = .ok (.bipush 9, 2) := by decide +kernel
theorem dX0_addEnd_16 : decode cX0_addEnd 16 = .ok (.if_icmp .ne 20, 3) := by decide +kernel
theorem dX0_addEnd_19 : decode cX0_addEnd 19 = .ok (.aload_n 0, 1) := by decide +kernel
theorem dX0_addEnd_20 : decode cX0_addEnd 20 = .ok (.getfield 35, 3) := by decide +kernel
theorem dX0_addEnd_23 : decode cX0_addEnd 23 = .ok (.aload_n 0, 1) := by decide +kernel
theorem dX0_addEnd_24 : decode cX0_addEnd 24 = .ok (.getfield 21, 3) := by decide +kernel
theorem dX0_addEnd_27 : decode cX0_addEnd 27 = .ok (.getfield 252, 3) := by decide +kernel
theorem dX0_addEnd_30 : decode cX0_addEnd 30 = .ok (.invokevirtual 316, 3) := by decide +kernel
theorem dX0_addEnd_33 : decode cX0_addEnd 33 = .ok (.goto 23, 3) := by decide +kernel
theorem dX0_addEnd_36 : decode cX0_addEnd 36 = .ok (.aload_n 0, 1) := by decide +kernel
theorem dX0_addEnd_37 : decode cX0_addEnd 37 = .ok (.getfield 35, 3) := by decide +kernel
theorem dX0_addEnd_40 : decode cX0_addEnd 40 = .ok (.aload_n 0, 1) := by decide +kernel
theorem dX0_addEnd_41 : decode cX0_addEnd 41 = .ok (.getfield 12, 3) := by decide +kernel
theorem dX0_addEnd_44 : decode cX0_addEnd 44 = .ok (.aload_n 0, 1) := by decide +kernel
theorem dX0_addEnd_45 : decode cX0_addEnd 45 = .ok (.getfield 21, 3) := by decide +kernel
theorem dX0_addEnd_48 : decode cX0_addEnd 48 = .ok (.getfield 295, 3) := by decide +kernel
theorem dX0_addEnd_51 : decode cX0_addEnd 51 = .ok (.invokevirtual 319, 3) := by decide +kernel
theorem dX0_addEnd_54 : decode cX0_addEnd 54 = .ok (.istore 5, 2) := by decide +kernel
theorem dX0_addEnd_56 : decode cX0_addEnd 56 = .ok (.aload_n 0, 1) := by decide +kernel
theorem dX0_addEnd_57 : decode cX0_addEnd 57 = .ok (.getfield 63, 3) := by decide +kernel
theorem dX0_addEnd_60 : decode cX0_addEnd 60 = .ok (.new 323, 3) := by decide +kernel
theorem dX0_addEnd_63 : decode cX0_addEnd 63 = .ok (.dup, 1) := by decide +kernel
theorem dX0_addEnd_64 : decode cX0_addEnd 64 = .ok (.iload_n 1, 1) := by decide +kernel
theorem dX0_addEnd_65 : decode cX0_addEnd 65 = .ok (.iload_n 2, 1) := by decide +kernel
theorem dX0_addEnd_66 : decode cX0_addEnd 66 = .ok (.iload 5, 2) := by decide +kernel
theorem dX0_addEnd_68 : decode cX0_addEnd 68 = .ok (.iload 4, 2) := by decide +kernel
theorem dX0_addEnd_70 : decode cX0_addEnd 70 = .ok (.aload_n 3, 1) := by decide +kernel
theorem dX0_addEnd_71 : decode cX0_addEnd 71 = .ok (.invokespecial 325, 3) := by decide +kernel
theorem dX0_addEnd_74 : decode cX0_addEnd 74 = .ok (.invokevirtual 328, 3) := by decide +kernel
theorem dX0_addEnd_77 : decode cX0_addEnd 77 = .ok (.pop, 1) := by decide +kernel
theorem dX0_addEnd_78 : decode cX0_addEnd 78 = .ok (.return_, 1) := by decide +kernel
theorem dX0_doBeginnings_0 : decode cX0_doBeginnings 0 = .ok (.aload_n 0, 1) := by decide +kernel
theorem dX0_doBeginnings_1 : decode cX0_doBeginnings 1 = .ok (.getfield 74, 3) := by decide +kernel
theorem dX0_doBeginnings_4 : decode cX0_doBeginnings 4 = .ok (.iconst 0, 1) := by decide +kernel
theorem dX0_doBeginnings_5 : decode cX0_doBeginnings 5 = .ok (.iconst 2, 1) := by decide +kernel
theorem dX0_doBeginnings_6 : decode cX0_doBeginnings 6 = .ok (.iastore, 1) := by decide +kernel
theorem dX0_doBeginnings_7 : decode cX0_doBeginnings 7 = .ok (.aload_n 0, 1) := by decide +kernel
theorem dX0_doBeginnings_8 : decode cX0_doBeginnings 8 = .ok (.getfield 74, 3) := by decide +kernel
theorem dX0_doBeginnings_11 : decode cX0_doBeginnings 11 = .ok (.iconst 1, 1) := by decide +kernel
theorem dX0_doBeginnings_12 : decode cX0_doBeginnings 12 = .ok (.iconst 1, 1) := by decide +kernel
theorem dX0_doBeginnings_13 : decode cX0_doBeginnings 13 = .ok (.iastore, 1) := by decide +kernel
theorem dX0_doBeginnings_14 : decode cX0_doBeginnings 14 = .ok (.aload_n 0, 1) := by decide +kernel
theorem dX0_doBeginnings_15 : decode cX0_doBeginnings 15 = .ok (.getfield 74, 3) := by decide +kernel
theorem dX0_doBeginnings_18 : decode cX0_doBeginnings 18 = .ok (.iconst 2, 1) := by decide +kernel
theorem dX0_doBeginnings_19 : decode cX0_doBeginnings 19 = .ok (.aload_n 0, 1) := by decide +kernel
theorem dX0_doBeginnings_20 : decode cX0_doBeginnings 20 = .ok (.invokevirtual 332, 3) := by decide +kernel
theorem dX0_doBeginnings_23 : decode cX0_doBeginnings 23 = .ok (.ifCond .eq 7, 3) := by decide +kernel
theorem dX0_doBeginnings_26 : decode cX0_doBeginnings 26 = .ok (.iconst 0, 1) := by decide +kernel
theorem dX0_doBeginnings_27 : decode cX0_doBeginnings 27 = .ok (.goto 4, 3) := by decide +kernel
theorem dX0_doBeginnings_30 : decode cX0_doBeginnings 30 = .ok (.iconst 1, 1) := by decide +kernel
theorem dX0_doBeginnings_31 : decode cX0_doBeginnings 31 = .ok (.iastore, 1) := by decide +kernel
theorem dX0_doBeginnings_32 : decode cX0_doBeginnings 32 = .ok (.aload_n 0, 1) := by decide +kernel
theorem dX0_doBeginnings_33 : decode cX0_doBeginnings 33 = .ok (.getfield 74, 3) := by decide +kernel
theorem dX0_doBeginnings_36 : decode cX0_doBeginnings 36 = .ok (.iconst 3, 1) := by decide +kernel
theorem dX0_doBeginnings_37 : decode cX0_doBeginnings 37 = .ok (.iconst 1, 1) := by decide +kernel
theorem dX0_doBeginnings_38 : decode cX0_doBeginnings 38 = .ok (.iastore, 1) := by decide +kernel
theorem dX0_doBeginnings_39 : decode cX0_doBeginnings 39 = .ok (.iconst 0, 1) := by decide +kernel
theorem dX0_doBeginnings_40 : decode cX0_doBeginnings 40 = .ok (.istore_n 1, 1) := by decide +kernel
theorem dX0_doBeginnings_41 : decode cX0_doBeginnings 41 = .ok (.iload_n 1, 1) := by decide +kernel
theorem dX0_doBeginnings_42 : decode cX0_doBeginnings 42 = .ok (.aload_n 0, 1) := by decide +kernel
theorem dX0_doBeginnings_43 : decode cX0_doBeginnings 43 = .ok (.getfield 60, 3) := by decide +kernel
theorem dX0_doBeginnings_46 : decode cX0_doBeginnings 46 = .ok (.invokevirtual 123, 3) := by decide +kernel
theorem dX0_doBeginnings_49 : decode cX0_doBeginnings 49 = .ok (.if_icmp .ge 83, 3) := by decide +kernel
theorem dX0_doBeginnings_52 : decode cX0_doBeginnings 52 = .ok (.aload_n 0, 1) := by decide +kernel
theorem dX0_doBeginnings_53 : decode cX0_doBeginnings 53 = .ok (.getfield 60, 3) := by decide +kernel
theorem dX0_doBeginnings_56 : decode cX0_doBeginnings 56 = .ok (.iload_n 1, 1) := by decide +kernel
theorem dX0_doBeginnings_57 : decode cX0_doBeginnings 57 = .ok (.invokevirtual 127, 3) := by decide +kernel
theorem dX0_doBeginnings_60 : decode cX0_doBeginnings 60 = .ok (.checkcast 131, 3) := by decide +kernel
theorem dX0_doBeginnings_63 : decode cX0_doBeginnings 63 = .ok (.astore_n 2, 1) := by decide +kernel
theorem dX0_doBeginnings_64 : decode cX0_doBeginnings 64 = .ok (.aload_n 2, 1) := by decide +kernel
theorem dX0_doBeginnings_65 : decode cX0_doBeginnings 65 = .ok (.getfield 161, 3) := by decide +kernel
theorem dX0_doBeginnings_68 : decode cX0_doBeginnings 68 = .ok (.invokevirtual 335, 3) := by decide +kernel
theorem dX0_doBeginnings_71 : decode cX0_doBeginnings 71 = .ok (.istore_n 3, 1) := by decide +kernel
theorem dX0_doBeginnings_72 : decode cX0_doBeginnings 72 = .ok (.aload_n 2, 1) := by decide +kernel
theorem dX0_doBeginnings_73 : decode cX0_doBeginnings 73 = .ok (.getfield 133, 3) := by decide +kernel
theorem dX0_doBeginnings_76 : decode cX0_doBeginnings 76 = .ok (.bipush 113, 2) := by decide +kernel
theorem dX0_doBeginnings_78 : decode cX0_doBeginnings 78 = .ok (.if_icmp .ne 48, 3) := by decide +kernel
theorem dX0_doBeginnings_81 : decode cX0_doBeginnings 81 = .ok (.iload_n 3, 1) := by decide +kernel
theorem dX0_doBeginnings_82 : decode cX0_doBeginnings 82 = .ok (.ifCond .lt 44, 3) := by decide +kernel
theorem dX0_doBeginnings_85 : decode cX0_doBeginnings 85 = .ok (.iload_n 3, 1) := by decide +kernel
theorem dX0_doBeginnings_86 : decode cX0_doBeginnings 86 = .ok (.iconst 4, 1) := by decide +kernel
theorem dX0_doBeginnings_87 : decode cX0_doBeginnings 87 = .ok (.if_icmp .ge 39, 3) := by decide +kernel
theorem dX0_doBeginnings_90 : decode cX0_doBeginnings 90 = .ok (.aload_n 0, 1) := by decide +kernel
theorem dX0_doBeginnings_91 : decode cX0_doBeginnings 91 = .ok (.getfield 74, 3) := by decide +kernel
theorem dX0_doBeginnings_94 : decode cX0_doBeginnings 94 = .ok (.iload_n 3, 1) := by decide +kernel
theorem dX0_doBeginnings_95 : decode cX0_doBeginnings 95 = .ok (.iaload, 1) := by decide +kernel
theorem dX0_doBeginnings_96 : decode cX0_doBeginnings 96 = .ok (.ifCond .le 30, 3) := by decide +kernel
theorem dX0_doBeginnings_99 : decode cX0_doBeginnings 99 = .ok (.aload_n 0, 1) := by decide +kernel
theorem dX0_doBeginnings_100 : decode cX0_doBeginnings 100 = .ok (.aload_n 2, 1) := by decide +kernel
theorem dX0_doBeginnings_101 : decode cX0_doBeginnings 101 = .ok (.invokevirtual 338, 3) := by decide +kernel
theorem dX0_doBeginnings_104 : decode cX0_doBeginnings 104 = .ok (.ifCond .eq 22, 3) := by decide +kernel
theorem dX0_doBeginnings_107 : decode cX0_doBeginnings 107 = .ok (.aload_n 0, 1) := by decide +kernel
theorem dX0_doBeginnings_108 : decode cX0_doBeginnings 108 = .ok (.aload_n 2, 1) := by decide +kernel
theorem dX0_doBeginnings_109 : decode cX0_doBeginnings 109 = .ok (.iload_n 1, 1) := by decide +kernel
theorem dX0_doBeginnings_110 : decode cX0_doBeginnings 110 = .ok (.invokevirtual 342, 3) := by decide +kernel
theorem dX0_doBeginnings_113 : decode cX0_doBeginnings 113 = .ok (.ifCond .eq 13, 3) := by decide +kernel
theorem dX0_doBeginnings_116 : decode cX0_doBeginnings 116 = .ok (.aload_n 0, 1) := by decide +kernel
theorem dX0_doBeginnings_117 : decode cX0_doBeginnings 117 = .ok (.getfield 74, 3) := by decide +kernel
theorem dX0_doBeginnings_120 : decode cX0_doBeginnings 120 = .ok (.iload_n 3, 1) := by decide +kernel
theorem dX0_doBeginnings_121 : decode cX0_doBeginnings 121 = .ok (.dup2, 1) := by decide +kernel
theorem dX0_doBeginnings_122 : decode cX0_doBeginnings 122 = .ok (.iaload, 1) := by decide +kernel
theorem dX0_doBeginnings_123 : decode cX0_doBeginnings 123 = .ok (.iconst 1, 1) := by decide +kernel
theorem dX0_doBeginnings_124 : decode cX0_doBeginnings 124 = .ok (.isub, 1) := by decide +kernel
theorem dX0_doBeginnings_125 : decode cX0_doBeginnings 125 = .ok (.iastore, 1) := by decide +kernel
theorem dX0_doBeginnings_126 : decode cX0_doBeginnings 126 = .ok (.iinc 1 1, 3) := by decide +kernel
theorem dX0_doBeginnings_129 : decode cX0_doBeginnings 129 = .ok (.goto (-88), 3) := by decide +kernel
theorem dX0_doBeginnings_132 : decode cX0_doBeginnings 132 = .ok (.return_, 1) := by decide +kernel
theorem dX0_isDividing_0 : decode cX0_isDividing 0 = .ok (.iconst 0, 1) := by decide +kernel
theorem dX0_isDividing_1 : decode cX0_isDividing 1 = .ok (.istore_n 1, 1) := by decide +kernel
theorem dX0_isDividing_2 : decode cX0_isDividing 2 = .ok (.iload_n 1, 1) := by decide +kernel
theorem dX0_isDividing_3 : decode cX0_isDividing 3 = .ok (.aload_n 0, 1) := by decide +kernel
theorem dX0_isDividing_4 : decode cX0_isDividing 4 = .ok (.getfield 60, 3) := by decide +kernel
theorem dX0_isDividing_7 : decode cX0_isDividing 7 = .ok (.invokevirtual 123, 3) := by decide +kernel
theorem dX0_isDividing_10 : decode cX0_isDividing 10 = .ok (.if_icmp .ge 43, 3) := by decide +kernel
theorem dX0_isDividing_13 : decode cX0_isDividing 13 = .ok (.aload_n 0, 1) := by decide +kernel
theorem dX0_isDividing_14 : decode cX0_isDividing 14 = .ok (.getfield 60, 3) := by decide +kernel
theorem dX0_isDividing_17 : decode cX0_isDividing 17 = .ok (.iload_n 1, 1) := by decide +kernel
theorem dX0_isDividing_18 : decode cX0_isDividing 18 = .ok (.invokevirtual 127, 3) := by decide +kernel
theorem dX0_isDividing_21 : decode cX0_isDividing 21 = .ok (.checkcast 131, 3) := by decide +kernel
theorem dX0_isDividing_24 : decode cX0_isDividing 24 = .ok (.astore_n 2, 1) := by decide +kernel
theorem dX0_isDividing_25 : decode cX0_isDividing 25 = .ok (.aload_n 2, 1) := by decide +kernel
theorem dX0_isDividing_26 : decode cX0_isDividing 26 = .ok (.getfield 161, 3) := by decide +kernel
theorem dX0_isDividing_29 : decode cX0_isDividing 29 = .ok (.getfield 165, 3) := by decide +kernel
theorem dX0_isDividing_32 : decode cX0_isDividing 32 = .ok (.iconst 5, 1) := by decide +kernel
theorem dX0_isDividing_33 : decode cX0_isDividing 33 = .ok (.if_icmp .ne 14, 3) := by decide +kernel
theorem dX0_isDividing_36 : decode cX0_isDividing 36 = .ok (.aload_n 2, 1) := by decide +kernel
theorem dX0_isDividing_37 : decode cX0_isDividing 37 = .ok (.getfield 133, 3) := by decide +kernel
theorem dX0_isDividing_40 : decode cX0_isDividing 40 = .ok (.bipush 120, 2) := by decide +kernel
theorem dX0_isDividing_42 : decode cX0_isDividing 42 = .ok (.if_icmp .ne 5, 3) := by decide +kernel
theorem dX0_isDividing_45 : decode cX0_isDividing 45 = .ok (.iconst 1, 1) := by decide +kernel
theorem dX0_isDividing_46 : decode cX0_isDividing 46 = .ok (.ireturn, 1) := by decide +kernel
theorem dX0_isDividing_47 : decode cX0_isDividing 47 = .ok (.iinc 1 1, 3) := by decide +kernel
theorem dX0_isDividing_50 : decode cX0_isDividing 50 = .ok (.goto (-48), 3) := by decide +kernel
theorem dX0_isDividing_53 : decode cX0_isDividing 53 = .ok (.iconst 0, 1) := by decide +kernel
theorem dX0_isDividing_54 : decode cX0_isDividing 54 = .ok (.ireturn, 1) := by decide +kernel
theorem dX0_hasOperands_0 : decode cX0_hasOperands 0 = .ok (.aload_n 1, 1) := by decide +kernel
theorem dX0_hasOperands_1 : decode cX0_hasOperands 1 = .ok (.getfield 161, 3) := by decide +kernel
theorem dX0_hasOperands_4 : decode cX0_hasOperands 4 = .ok (.invokevirtual 346, 3) := by decide +kernel
theorem dX0_hasOperands_7 : decode cX0_hasOperands 7 = .ok (.ifCond .eq 17, 3) := by decide +kernel
theorem dX0_hasOperands_10 : decode cX0_hasOperands 10 = .ok (.aload_n 0, 1) := by decide +kernel
theorem dX0_hasOperands_11 : decode cX0_hasOperands 11 = .ok (.getfield 42, 3) := by decide +kernel
theorem dX0_hasOperands_14 : decode cX0_hasOperands 14 = .ok (.aload_n 1, 1) := by decide +kernel
theorem dX0_hasOperands_15 : decode cX0_hasOperands 15 = .ok (.getfield 349, 3) := by decide +kernel
theorem dX0_hasOperands_18 : decode cX0_hasOperands 18 = .ok (.invokevirtual 288, 3) := by decide +kernel
theorem dX0_hasOperands_21 : decode cX0_hasOperands 21 = .ok (.ifCond .eq 7, 3) := by decide +kernel
theorem dX0_hasOperands_24 : decode cX0_hasOperands 24 = .ok (.iconst 1, 1) := by decide +kernel
theorem dX0_hasOperands_25 : decode cX0_hasOperands 25 = .ok (.goto 4, 3) := by decide +kernel
theorem dX0_hasOperands_28 : decode cX0_hasOperands 28 = .ok (.iconst 0, 1) := by decide +kernel
theorem dX0_hasOperands_29 : decode cX0_hasOperands 29 = .ok (.istore_n 2, 1) := by decide +kernel
theorem dX0_hasOperands_30 : decode cX0_hasOperands 30 = .ok (.aload_n 1, 1) := by decide +kernel
theorem dX0_hasOperands_31 : decode cX0_hasOperands 31 = .ok (.getfield 161, 3) := by decide +kernel
theorem dX0_hasOperands_34 : decode cX0_hasOperands 34 = .ok (.invokevirtual 352, 3) := by decide +kernel
theorem dX0_hasOperands_37 : decode cX0_hasOperands 37 = .ok (.ifCond .eq 17, 3) := by decide +kernel
theorem dX0_hasOperands_40 : decode cX0_hasOperands 40 = .ok (.aload_n 0, 1) := by decide +kernel
theorem dX0_hasOperands_41 : decode cX0_hasOperands 41 = .ok (.getfield 42, 3) := by decide +kernel
theorem dX0_hasOperands_44 : decode cX0_hasOperands 44 = .ok (.aload_n 1, 1) := by decide +kernel
theorem dX0_hasOperands_45 : decode cX0_hasOperands 45 = .ok (.getfield 285, 3) := by decide +kernel
theorem dX0_hasOperands_48 : decode cX0_hasOperands 48 = .ok (.invokevirtual 288, 3) := by decide +kernel
theorem dX0_hasOperands_51 : decode cX0_hasOperands 51 = .ok (.ifCond .eq 7, 3) := by decide +kernel
theorem dX0_hasOperands_54 : decode cX0_hasOperands 54 = .ok (.iconst 1, 1) := by decide +kernel
theorem dX0_hasOperands_55 : decode cX0_hasOperands 55 = .ok (.goto 4, 3) := by decide +kernel
theorem dX0_hasOperands_58 : decode cX0_hasOperands 58 = .ok (.iconst 0, 1) := by decide +kernel
theorem dX0_hasOperands_59 : decode cX0_hasOperands 59 = .ok (.istore_n 3, 1) := by decide +kernel
theorem dX0_hasOperands_60 : decode cX0_hasOperands 60 = .ok (.iload_n 2, 1) := by decide +kernel
theorem dX0_hasOperands_61 : decode cX0_hasOperands 61 = .ok (.ifCond .eq 11, 3) := by decide +kernel
theorem dX0_hasOperands_64 : decode cX0_hasOperands 64 = .ok (.iload_n 3, 1) := by decide +kernel
theorem dX0_hasOperands_65 : decode cX0_hasOperands 65 = .ok (.ifCond .eq 7, 3) := by decide +kernel
theorem dX0_hasOperands_68 : decode cX0_hasOperands 68 = .ok (.iconst 1, 1) := by decide +kernel
theorem dX0_hasOperands_69 : decode cX0_hasOperands 69 = .ok (.goto 4, 3) := by decide +kernel
theorem dX0_hasOperands_72 : decode cX0_hasOperands 72 = .ok (.iconst 0, 1) := by decide +kernel
theorem dX0_hasOperands_73 : decode cX0_hasOperands 73 = .ok (.ireturn, 1) := by decide +kernel
theorem dX0_canBegin_0 : decode cX0_canBegin 0 = .ok (.aload_n 1, 1) := by decide +kernel
theorem dX0_canBegin_1 : decode cX0_canBegin 1 = .ok (.aload_n 0, 1) := by decide +kernel
theorem dX0_canBegin_2 : decode cX0_canBegin 2 = .ok (.getfield 42, 3) := by decide +kernel
theorem dX0_canBegin_5 : decode cX0_canBegin 5 = .ok (.aload_n 1, 1) := by decide +kernel
theorem dX0_canBegin_6 : decode cX0_canBegin 6 = .ok (.getfield 349, 3) := by decide +kernel
theorem dX0_canBegin_9 : decode cX0_canBegin 9 = .ok (.invokevirtual 307, 3) := by decide +kernel
theorem dX0_canBegin_12 : decode cX0_canBegin 12 = .ok (.aload_n 0, 1) := by decide +kernel
theorem dX0_canBegin_13 : decode cX0_canBegin 13 = .ok (.getfield 42, 3) := by decide +kernel
theorem dX0_canBegin_16 : decode cX0_canBegin 16 = .ok (.aload_n 1, 1) := by decide +kernel
theorem dX0_canBegin_17 : decode cX0_canBegin 17 = .ok (.getfield 285, 3) := by decide +kernel
theorem dX0_canBegin_20 : decode cX0_canBegin 20 = .ok (.invokevirtual 307, 3) := by decide +kernel
theorem dX0_canBegin_23 : decode cX0_canBegin 23 = .ok (.invokevirtual 355, 3) := by decide +kernel
theorem dX0_canBegin_26 : decode cX0_canBegin 26 = .ok (.aload_n 1, 1) := by decide +kernel
theorem dX0_canBegin_27 : decode cX0_canBegin 27 = .ok (.getfield 161, 3) := by decide +kernel
theorem dX0_canBegin_30 : decode cX0_canBegin 30 = .ok (.getfield 165, 3) := by decide +kernel
theorem dX0_canBegin_33 : decode cX0_canBegin 33 = .ok (.bipush 9, 2) := by decide +kernel
theorem dX0_canBegin_35 : decode cX0_canBegin 35 = .ok (.if_icmp .ne 17, 3) := by decide +kernel
theorem dX0_canBegin_38 : decode cX0_canBegin 38 = .ok (.aload_n 1, 1) := by decide +kernel
theorem dX0_canBegin_39 : decode cX0_canBegin 39 = .ok (.getfield 192, 3) := by decide +kernel
theorem dX0_canBegin_42 : decode cX0_canBegin 42 = .ok (.ifCond .ne 10, 3) := by decide +kernel
theorem dX0_canBegin_45 : decode cX0_canBegin 45 = .ok (.aload_n 0, 1) := by decide +kernel
theorem dX0_canBegin_46 : decode cX0_canBegin 46 = .ok (.aload_n 1, 1) := by decide +kernel
theorem dX0_canBegin_47 : decode cX0_canBegin 47 = .ok (.iload_n 2, 1) := by decide +kernel
theorem dX0_canBegin_48 : decode cX0_canBegin 48 = .ok (.invokevirtual 358, 3) := by decide +kernel
theorem dX0_canBegin_51 : decode cX0_canBegin 51 = .ok (.ireturn, 1) := by decide +kernel
theorem dX0_canBegin_52 : decode cX0_canBegin 52 = .ok (.aload_n 1, 1) := by decide +kernel
theorem dX0_canBegin_53 : decode cX0_canBegin 53 = .ok (.aload_n 1, 1) := by decide +kernel
theorem dX0_canBegin_54 : decode cX0_canBegin 54 = .ok (.getfield 161, 3) := by decide +kernel
theorem dX0_canBegin_57 : decode cX0_canBegin 57 = .ok (.invokevirtual 361, 3) := by decide +kernel
theorem dX0_canBegin_60 : decode cX0_canBegin 60 = .ok (.aload_n 0, 1) := by decide +kernel
theorem dX0_canBegin_61 : decode cX0_canBegin 61 = .ok (.getfield 77, 3) := by decide +kernel
theorem dX0_canBegin_64 : decode cX0_canBegin 64 = .ok (.invokevirtual 364, 3) := by decide +kernel
theorem dX0_canBegin_67 : decode cX0_canBegin 67 = .ok (.iconst 1, 1) := by decide +kernel
theorem dX0_canBegin_68 : decode cX0_canBegin 68 = .ok (.ireturn, 1) := by decide +kernel
theorem dX0_canBeginLoad_0 : decode cX0_canBeginLoad 0 = .ok (.aload_n 0, 1) := by decide +kernel
theorem dX0_canBeginLoad_1 : decode cX0_canBeginLoad 1 = .ok (.getfield 70, 3) := by decide +kernel
theorem dX0_canBeginLoad_4 : decode cX0_canBeginLoad 4 = .ok (.aload_n 1, 1) := by decide +kernel
theorem dX0_canBeginLoad_5 : decode cX0_canBeginLoad 5 = .ok (.getfield 161, 3) := by decide +kernel
theorem dX0_canBeginLoad_8 : decode cX0_canBeginLoad 8 = .ok (.getfield 223, 3) := by decide +kernel
theorem dX0_canBeginLoad_11 : decode cX0_canBeginLoad 11 = .ok (.bipush 16, 2) := by decide +kernel
theorem dX0_canBeginLoad_13 : decode cX0_canBeginLoad 13 = .ok (.invokestatic 224, 3) := by decide +kernel
theorem dX0_canBeginLoad_16 : decode cX0_canBeginLoad 16 = .ok (.baload, 1) := by decide +kernel
theorem dX0_canBeginLoad_17 : decode cX0_canBeginLoad 17 = .ok (.ifCond .eq 13, 3) := by decide +kernel
theorem dX0_canBeginLoad_20 : decode cX0_canBeginLoad 20 = .ok (.aload_n 0, 1) := by decide +kernel
theorem dX0_canBeginLoad_21 : decode cX0_canBeginLoad 21 = .ok (.iload_n 2, 1) := by decide +kernel
theorem dX0_canBeginLoad_22 : decode cX0_canBeginLoad 22 = .ok (.invokevirtual 367, 3) := by decide +kernel
theorem dX0_canBeginLoad_25 : decode cX0_canBeginLoad 25 = .ok (.ifCond .eq 5, 3) := by decide +kernel
theorem dX0_canBeginLoad_28 : decode cX0_canBeginLoad 28 = .ok (.iconst 0, 1) := by decide +kernel
theorem dX0_canBeginLoad_29 : decode cX0_canBeginLoad 29 = .ok (.ireturn, 1) := by decide +kernel
theorem dX0_canBeginLoad_30 : decode cX0_canBeginLoad 30 = .ok (.iload_n 2, 1) := by decide +kernel
theorem dX0_canBeginLoad_31 : decode cX0_canBeginLoad 31 = .ok (.iconst 1, 1) := by decide +kernel
theorem dX0_canBeginLoad_32 : decode cX0_canBeginLoad 32 = .ok (.isub, 1) := by decide +kernel
theorem dX0_canBeginLoad_33 : decode cX0_canBeginLoad 33 = .ok (.istore_n 3, 1) := by decide +kernel
theorem dX0_canBeginLoad_34 : decode cX0_canBeginLoad 34 = .ok (.iload_n 3, 1) := by decide +kernel
theorem dX0_canBeginLoad_35 : decode cX0_canBeginLoad 35 = .ok (.ifCond .lt 69, 3) := by decide +kernel
theorem dX0_canBeginLoad_38 : decode cX0_canBeginLoad 38 = .ok (.iload_n 3, 1) := by decide +kernel
theorem dX0_canBeginLoad_39 : decode cX0_canBeginLoad 39 = .ok (.aload_n 0, 1) := by decide +kernel
theorem dX0_canBeginLoad_40 : decode cX0_canBeginLoad 40 = .ok (.getfield 60, 3) := by decide +kernel
theorem dX0_canBeginLoad_43 : decode cX0_canBeginLoad 43 = .ok (.invokevirtual 123, 3) := by decide +kernel
theorem dX0_canBeginLoad_46 : decode cX0_canBeginLoad 46 = .ok (.if_icmp .ge 58, 3) := by decide +kernel
theorem dX0_canBeginLoad_49 : decode cX0_canBeginLoad 49 = .ok (.aload_n 0, 1) := by decide +kernel
theorem dX0_canBeginLoad_50 : decode cX0_canBeginLoad 50 = .ok (.getfield 60, 3) := by decide +kernel
theorem dX0_canBeginLoad_53 : decode cX0_canBeginLoad 53 = .ok (.iload_n 3, 1) := by decide +kernel
theorem dX0_canBeginLoad_54 : decode cX0_canBeginLoad 54 = .ok (.invokevirtual 127, 3) := by decide +kernel
theorem dX0_canBeginLoad_57 : decode cX0_canBeginLoad 57 = .ok (.checkcast 131, 3) := by decide +kernel
theorem dX0_canBeginLoad_60 : decode cX0_canBeginLoad 60 = .ok (.astore 4, 2) := by decide +kernel
theorem dX0_canBeginLoad_62 : decode cX0_canBeginLoad 62 = .ok (.aload 4, 2) := by decide +kernel
theorem dX0_canBeginLoad_64 : decode cX0_canBeginLoad 64 = .ok (.invokevirtual 370, 3) := by decide +kernel
theorem dX0_canBeginLoad_67 : decode cX0_canBeginLoad 67 = .ok (.ifCond .eq 31, 3) := by decide +kernel
theorem dX0_canBeginLoad_70 : decode cX0_canBeginLoad 70 = .ok (.aload 4, 2) := by decide +kernel
theorem dX0_canBeginLoad_72 : decode cX0_canBeginLoad 72 = .ok (.getfield 192, 3) := by decide +kernel
theorem dX0_canBeginLoad_75 : decode cX0_canBeginLoad 75 = .ok (.ifCond .ne 23, 3) := by decide +kernel
theorem dX0_canBeginLoad_78 : decode cX0_canBeginLoad 78 = .ok (.aload 4, 2) := by decide +kernel
theorem dX0_canBeginLoad_80 : decode cX0_canBeginLoad 80 = .ok (.getfield 137, 3) := by decide +kernel
theorem dX0_canBeginLoad_83 : decode cX0_canBeginLoad 83 = .ok (.aload_n 1, 1) := by decide +kernel
theorem dX0_canBeginLoad_84 : decode cX0_canBeginLoad 84 = .ok (.getfield 137, 3) := by decide +kernel
theorem dX0_canBeginLoad_87 : decode cX0_canBeginLoad 87 = .ok (.if_icmp .ne 11, 3) := by decide +kernel
theorem dX0_canBeginLoad_90 : decode cX0_canBeginLoad 90 = .ok (.aload_n 0, 1) := by decide +kernel
theorem dX0_canBeginLoad_91 : decode cX0_canBeginLoad 91 = .ok (.aload_n 1, 1) := by decide +kernel
theorem dX0_canBeginLoad_92 : decode cX0_canBeginLoad 92 = .ok (.aload 4, 2) := by decide +kernel
theorem dX0_canBeginLoad_94 : decode cX0_canBeginLoad 94 = .ok (.invokevirtual 373, 3) := by decide +kernel
theorem dX0_canBeginLoad_97 : decode cX0_canBeginLoad 97 = .ok (.ireturn, 1) := by decide +kernel
theorem dX0_canBeginLoad_98 : decode cX0_canBeginLoad 98 = .ok (.iinc 3 (-1), 3) := by decide +kernel
theorem dX0_canBeginLoad_101 : decode cX0_canBeginLoad 101 = .ok (.goto (-67), 3) := by decide +kernel
theorem dX0_canBeginLoad_104 : decode cX0_canBeginLoad 104 = .ok (.aload_n 1, 1) := by decide +kernel
theorem dX0_canBeginLoad_105 : decode cX0_canBeginLoad 105 = .ok (.getfield 137, 3) := by decide +kernel
theorem dX0_canBeginLoad_108 : decode cX0_canBeginLoad 108 = .ok (.iconst 4, 1) := by decide +kernel
theorem dX0_canBeginLoad_109 : decode cX0_canBeginLoad 109 = .ok (.idiv, 1) := by decide +kernel
theorem dX0_canBeginLoad_110 : decode cX0_canBeginLoad 110 = .ok (.istore_n 3, 1) := by decide +kernel
theorem dX0_canBeginLoad_111 : decode cX0_canBeginLoad 111 = .ok (.aload_n 0, 1) := by decide +kernel
theorem dX0_canBeginLoad_112 : decode cX0_canBeginLoad 112 = .ok (.getfield 49, 3) := by decide +kernel
theorem dX0_canBeginLoad_115 : decode cX0_canBeginLoad 115 = .ok (.iload_n 3, 1) := by decide +kernel
theorem dX0_canBeginLoad_116 : decode cX0_canBeginLoad 116 = .ok (.invokevirtual 377, 3) := by decide +kernel
theorem dX0_canBeginLoad_119 : decode cX0_canBeginLoad 119 = .ok (.ifCond .eq 27, 3) := by decide +kernel
theorem dX0_canBeginLoad_122 : decode cX0_canBeginLoad 122 = .ok (.aload_n 0, 1) := by decide +kernel
theorem dX0_canBeginLoad_123 : decode cX0_canBeginLoad 123 = .ok (.getfield 28, 3) := by decide +kernel
theorem dX0_canBeginLoad_126 : decode cX0_canBeginLoad 126 = .ok (.dup, 1) := by decide +kernel
theorem dX0_canBeginLoad_127 : decode cX0_canBeginLoad 127 = .ok (.getfield 380, 3) := by decide +kernel
theorem dX0_canBeginLoad_130 : decode cX0_canBeginLoad 130 = .ok (.iconst 1, 1) := by decide +kernel
theorem dX0_canBeginLoad_131 : decode cX0_canBeginLoad 131 = .ok (.iadd, 1) := by decide +kernel
theorem dX0_canBeginLoad_132 : decode cX0_canBeginLoad 132 = .ok (.putfield 380, 3) := by decide +kernel
theorem dX0_canBeginLoad_135 : decode cX0_canBeginLoad 135 = .ok (.aload_n 1, 1) := by decide +kernel
theorem dX0_canBeginLoad_136 : decode cX0_canBeginLoad 136 = .ok (.iconst 2, 1) := by decide +kernel
theorem dX0_canBeginLoad_137 : decode cX0_canBeginLoad 137 = .ok (.aload_n 0, 1) := by decide +kernel
theorem dX0_canBeginLoad_138 : decode cX0_canBeginLoad 138 = .ok (.getfield 77, 3) := by decide +kernel
theorem dX0_canBeginLoad_141 : decode cX0_canBeginLoad 141 = .ok (.invokevirtual 364, 3) := by decide +kernel
theorem dX0_canBeginLoad_144 : decode cX0_canBeginLoad 144 = .ok (.iconst 1, 1) := by decide +kernel
theorem dX0_canBeginLoad_145 : decode cX0_canBeginLoad 145 = .ok (.ireturn, 1) := by decide +kernel
theorem dX0_canBeginLoad_146 : decode cX0_canBeginLoad 146 = .ok (.aload_n 0, 1) := by decide +kernel
theorem dX0_canBeginLoad_147 : decode cX0_canBeginLoad 147 = .ok (.getfield 49, 3) := by decide +kernel
theorem dX0_canBeginLoad_150 : decode cX0_canBeginLoad 150 = .ok (.iload_n 3, 1) := by decide +kernel
theorem dX0_canBeginLoad_151 : decode cX0_canBeginLoad 151 = .ok (.invokevirtual 140, 3) := by decide +kernel
theorem dX0_canBeginLoad_154 : decode cX0_canBeginLoad 154 = .ok (.ifCond .ne 33, 3) := by decide +kernel
theorem dX0_canBeginLoad_157 : decode cX0_canBeginLoad 157 = .ok (.aload_n 0, 1) := by decide +kernel
theorem dX0_canBeginLoad_158 : decode cX0_canBeginLoad 158 = .ok (.getfield 49, 3) := by decide +kernel
theorem dX0_canBeginLoad_161 : decode cX0_canBeginLoad 161 = .ok (.iload_n 3, 1) := by decide +kernel
theorem dX0_canBeginLoad_162 : decode cX0_canBeginLoad 162 = .ok (.aload_n 0, 1) := by decide +kernel
theorem dX0_canBeginLoad_163 : decode cX0_canBeginLoad 163 = .ok (.getfield 77, 3) := by decide +kernel
theorem dX0_canBeginLoad_166 : decode cX0_canBeginLoad 166 = .ok (.invokevirtual 383, 3) := by decide +kernel
theorem dX0_canBeginLoad_169 : decode cX0_canBeginLoad 169 = .ok (.ifCond .ne 5, 3) := by decide +kernel
theorem dX0_canBeginLoad_172 : decode cX0_canBeginLoad 172 = .ok (.iconst 0, 1) := by decide +kernel
theorem dX0_canBeginLoad_173 : decode cX0_canBeginLoad 173 = .ok (.ireturn, 1) := by decide +kernel
theorem dX0_canBeginLoad_174 : decode cX0_canBeginLoad 174 = .ok (.aload_n 0, 1) := by decide +kernel
theorem dX0_canBeginLoad_175 : decode cX0_canBeginLoad 175 = .ok (.getfield 28, 3) := by decide +kernel
theorem dX0_canBeginLoad_178 : decode cX0_canBeginLoad 178 = .ok (.dup, 1) := by decide +kernel
theorem dX0_canBeginLoad_179 : decode cX0_canBeginLoad 179 = .ok (.getfield 387, 3) := by decide +kernel
theorem dX0_canBeginLoad_182 : decode cX0_canBeginLoad 182 = .ok (.iconst 1, 1) := by decide +kernel
theorem dX0_canBeginLoad_183 : decode cX0_canBeginLoad 183 = .ok (.iadd, 1) := by decide +kernel
theorem dX0_canBeginLoad_184 : decode cX0_canBeginLoad 184 = .ok (.putfield 387, 3) := by decide +kernel
theorem dX0_canBeginLoad_187 : decode cX0_canBeginLoad 187 = .ok (.aload_n 1, 1) := by decide +kernel
theorem dX0_canBeginLoad_188 : decode cX0_canBeginLoad 188 = .ok (.iconst 0, 1) := by decide +kernel
theorem dX0_canBeginLoad_189 : decode cX0_canBeginLoad 189 = .ok (.aload_n 0, 1) := by decide +kernel
theorem dX0_canBeginLoad_190 : decode cX0_canBeginLoad 190 = .ok (.getfield 77, 3) := by decide +kernel
theorem dX0_canBeginLoad_193 : decode cX0_canBeginLoad 193 = .ok (.invokevirtual 364, 3) := by decide +kernel
theorem dX0_canBeginLoad_196 : decode cX0_canBeginLoad 196 = .ok (.aload_n 1, 1) := by decide +kernel
theorem dX0_canBeginLoad_197 : decode cX0_canBeginLoad 197 = .ok (.bipush 109, 2) := by decide +kernel
theorem dX0_canBeginLoad_199 : decode cX0_canBeginLoad 199 = .ok (.putfield 133, 3) := by decide +kernel
theorem dX0_canBeginLoad_202 : decode cX0_canBeginLoad 202 = .ok (.iconst 1, 1) := by decide +kernel
theorem dX0_canBeginLoad_203 : decode cX0_canBeginLoad 203 = .ok (.ireturn, 1) := by decide +kernel
theorem dX0_isStoreOpenBefore_0 : decode cX0_isStoreOpenBefore 0 = .ok (.iconst 0, 1) := by decide +kernel
theorem dX0_isStoreOpenBefore_1 : decode cX0_isStoreOpenBefore 1 = .ok (.istore_n 2, 1) := by decide +kernel
theorem dX0_isStoreOpenBefore_2 : decode cX0_isStoreOpenBefore 2 = .ok (.iload_n 2, 1) := by decide +kernel
theorem dX0_isStoreOpenBefore_3 : decode cX0_isStoreOpenBefore 3 = .ok (.iload_n 1, 1) := by decide +kernel
theorem dX0_isStoreOpenBefore_4 : decode cX0_isStoreOpenBefore 4 = .ok (.if_icmp .ge 53, 3) := by decide +kernel
theorem dX0_isStoreOpenBefore_7 : decode cX0_isStoreOpenBefore 7 = .ok (.iload_n 2, 1) := by decide +kernel
theorem dX0_isStoreOpenBefore_8 : decode cX0_isStoreOpenBefore 8 = .ok (.aload_n 0, 1) := by decide +kernel
theorem dX0_isStoreOpenBefore_9 : decode cX0_isStoreOpenBefore 9 = .ok (.getfield 60, 3) := by decide +kernel
theorem dX0_isStoreOpenBefore_12 : decode cX0_isStoreOpenBefore 12 = .ok (.invokevirtual 123, 3) := by decide +kernel
theorem dX0_isStoreOpenBefore_15 : decode cX0_isStoreOpenBefore 15 = .ok (.if_icmp .ge 42, 3) := by decide +kernel
theorem dX0_isStoreOpenBefore_18 : decode cX0_isStoreOpenBefore 18 = .ok (.aload_n 0, 1) := by decide +kernel
theorem dX0_isStoreOpenBefore_19 : decode cX0_isStoreOpenBefore 19 = .ok (.getfield 60, 3) := by decide +kernel
theorem dX0_isStoreOpenBefore_22 : decode cX0_isStoreOpenBefore 22 = .ok (.iload_n 2, 1) := by decide +kernel
theorem dX0_isStoreOpenBefore_23 : decode cX0_isStoreOpenBefore 23 = .ok (.invokevirtual 127, 3) := by decide +kernel
theorem dX0_isStoreOpenBefore_26 : decode cX0_isStoreOpenBefore 26 = .ok (.checkcast 131, 3) := by decide +kernel
theorem dX0_isStoreOpenBefore_29 : decode cX0_isStoreOpenBefore 29 = .ok (.astore_n 3, 1) := by decide +kernel
theorem dX0_isStoreOpenBefore_30 : decode cX0_isStoreOpenBefore 30 = .ok (.aload_n 3, 1) := by decide +kernel
theorem dX0_isStoreOpenBefore_31 : decode cX0_isStoreOpenBefore 31 = .ok (.getfield 161, 3) := by decide +kernel
theorem dX0_isStoreOpenBefore_34 : decode cX0_isStoreOpenBefore 34 = .ok (.invokevirtual 214, 3) := by decide +kernel
theorem dX0_isStoreOpenBefore_37 : decode cX0_isStoreOpenBefore 37 = .ok (.ifCond .eq 14, 3) := by decide +kernel
theorem dX0_isStoreOpenBefore_40 : decode cX0_isStoreOpenBefore 40 = .ok (.aload_n 3, 1) := by decide +kernel
theorem dX0_isStoreOpenBefore_41 : decode cX0_isStoreOpenBefore 41 = .ok (.getfield 133, 3) := by decide +kernel
theorem dX0_isStoreOpenBefore_44 : decode cX0_isStoreOpenBefore 44 = .ok (.bipush 101, 2) := by decide +kernel
theorem dX0_isStoreOpenBefore_46 : decode cX0_isStoreOpenBefore 46 = .ok (.if_icmp .eq 5, 3) := by decide +kernel
theorem dX0_isStoreOpenBefore_49 : decode cX0_isStoreOpenBefore 49 = .ok (.iconst 1, 1) := by decide +kernel
theorem dX0_isStoreOpenBefore_50 : decode cX0_isStoreOpenBefore 50 = .ok (.ireturn, 1) := by decide +kernel
theorem dX0_isStoreOpenBefore_51 : decode cX0_isStoreOpenBefore 51 = .ok (.iinc 2 1, 3) := by decide +kernel
theorem dX0_isStoreOpenBefore_54 : decode cX0_isStoreOpenBefore 54 = .ok (.goto (-52), 3) := by decide +kernel
theorem dX0_isStoreOpenBefore_57 : decode cX0_isStoreOpenBefore 57 = .ok (.iconst 0, 1) := by decide +kernel
theorem dX0_isStoreOpenBefore_58 : decode cX0_isStoreOpenBefore 58 = .ok (.ireturn, 1) := by decide +kernel
theorem dX0_canTake_0 : decode cX0_canTake 0 = .ok (.aload_n 2, 1) := by decide +kernel
theorem dX0_canTake_1 : decode cX0_canTake 1 = .ok (.getfield 161, 3) := by decide +kernel
theorem dX0_canTake_4 : decode cX0_canTake 4 = .ok (.getfield 165, 3) := by decide +kernel
theorem dX0_canTake_7 : decode cX0_canTake 7 = .ok (.bipush 11, 2) := by decide +kernel
theorem dX0_canTake_9 : decode cX0_canTake 9 = .ok (.if_icmp .eq 17, 3) := by decide +kernel
theorem dX0_canTake_12 : decode cX0_canTake 12 = .ok (.aload_n 0, 1) := by decide +kernel
theorem dX0_canTake_13 : decode cX0_canTake 13 = .ok (.getfield 42, 3) := by decide +kernel
theorem dX0_canTake_16 : decode cX0_canTake 16 = .ok (.aload_n 2, 1) := by decide +kernel
theorem dX0_canTake_17 : decode cX0_canTake 17 = .ok (.getfield 285, 3) := by decide +kernel
theorem dX0_canTake_20 : decode cX0_canTake 20 = .ok (.invokevirtual 288, 3) := by decide +kernel
theorem dX0_canTake_23 : decode cX0_canTake 23 = .ok (.ifCond .ne 5, 3) := by decide +kernel
theorem dX0_canTake_26 : decode cX0_canTake 26 = .ok (.iconst 0, 1) := by decide +kernel
theorem dX0_canTake_27 : decode cX0_canTake 27 = .ok (.ireturn, 1) := by decide +kernel
theorem dX0_canTake_28 : decode cX0_canTake 28 = .ok (.aload_n 1, 1) := by decide +kernel
theorem dX0_canTake_29 : decode cX0_canTake 29 = .ok (.aload_n 0, 1) := by decide +kernel
theorem dX0_canTake_30 : decode cX0_canTake 30 = .ok (.getfield 42, 3) := by decide +kernel
theorem dX0_canTake_33 : decode cX0_canTake 33 = .ok (.aload_n 2, 1) := by decide +kernel
theorem dX0_canTake_34 : decode cX0_canTake 34 = .ok (.getfield 285, 3) := by decide +kernel
theorem dX0_canTake_37 : decode cX0_canTake 37 = .ok (.invokevirtual 307, 3) := by decide +kernel
theorem dX0_canTake_40 : decode cX0_canTake 40 = .ok (.putfield 176, 3) := by decide +kernel
theorem dX0_canTake_43 : decode cX0_canTake 43 = .ok (.aload_n 1, 1) := by decide +kernel
theorem dX0_canTake_44 : decode cX0_canTake 44 = .ok (.aload_n 2, 1) := by decide +kernel
theorem dX0_canTake_45 : decode cX0_canTake 45 = .ok (.getfield 217, 3) := by decide +kernel
theorem dX0_canTake_48 : decode cX0_canTake 48 = .ok (.putfield 170, 3) := by decide +kernel
theorem dX0_canTake_51 : decode cX0_canTake 51 = .ok (.aload_n 1, 1) := by decide +kernel
theorem dX0_canTake_52 : decode cX0_canTake 52 = .ok (.iconst 1, 1) := by decide +kernel
theorem dX0_canTake_53 : decode cX0_canTake 53 = .ok (.aload_n 0, 1) := by decide +kernel
theorem dX0_canTake_54 : decode cX0_canTake 54 = .ok (.getfield 77, 3) := by decide +kernel
theorem dX0_canTake_57 : decode cX0_canTake 57 = .ok (.invokevirtual 364, 3) := by decide +kernel
theorem dX0_canTake_60 : decode cX0_canTake 60 = .ok (.aload_n 0, 1) := by decide +kernel
theorem dX0_canTake_61 : decode cX0_canTake 61 = .ok (.getfield 28, 3) := by decide +kernel
theorem dX0_canTake_64 : decode cX0_canTake 64 = .ok (.dup, 1) := by decide +kernel
theorem dX0_canTake_65 : decode cX0_canTake 65 = .ok (.getfield 390, 3) := by decide +kernel
theorem dX0_canTake_68 : decode cX0_canTake 68 = .ok (.iconst 1, 1) := by decide +kernel
theorem dX0_canTake_69 : decode cX0_canTake 69 = .ok (.iadd, 1) := by decide +kernel
theorem dX0_canTake_70 : decode cX0_canTake 70 = .ok (.putfield 390, 3) := by decide +kernel
theorem dX0_canTake_73 : decode cX0_canTake 73 = .ok (.iconst 1, 1) := by decide +kernel
theorem dX0_canTake_74 : decode cX0_canTake 74 = .ok (.ireturn, 1) := by decide +kernel
theorem dX0_doRenaming_0 : decode cX0_doRenaming 0 = .ok (.iconst 0, 1) := by decide +kernel
theorem dX0_doRenaming_1 : decode cX0_doRenaming 1 = .ok (.istore_n 1, 1) := by decide +kernel
theorem dX0_doRenaming_2 : decode cX0_doRenaming 2 = .ok (.iload_n 1, 1) := by decide +kernel
theorem dX0_doRenaming_3 : decode cX0_doRenaming 3 = .ok (.aload_n 0, 1) := by decide +kernel
theorem dX0_doRenaming_4 : decode cX0_doRenaming 4 = .ok (.getfield 21, 3) := by decide +kernel
theorem dX0_doRenaming_7 : decode cX0_doRenaming 7 = .ok (.getfield 112, 3) := by decide +kernel
theorem dX0_doRenaming_10 : decode cX0_doRenaming 10 = .ok (.if_icmp .ge 79, 3) := by decide +kernel
theorem dX0_doRenaming_13 : decode cX0_doRenaming 13 = .ok (.aload_n 0, 1) := by decide +kernel
theorem dX0_doRenaming_14 : decode cX0_doRenaming 14 = .ok (.getfield 56, 3) := by decide +kernel
theorem dX0_doRenaming_17 : decode cX0_doRenaming 17 = .ok (.getfield 237, 3) := by decide +kernel
theorem dX0_doRenaming_20 : decode cX0_doRenaming 20 = .ok (.invokevirtual 282, 3) := by decide +kernel
theorem dX0_doRenaming_23 : decode cX0_doRenaming 23 = .ok (.ifCond .ne 27, 3) := by decide +kernel
theorem dX0_doRenaming_26 : decode cX0_doRenaming 26 = .ok (.aload_n 0, 1) := by decide +kernel
theorem dX0_doRenaming_27 : decode cX0_doRenaming 27 = .ok (.aload_n 0, 1) := by decide +kernel
theorem dX0_doRenaming_28 : decode cX0_doRenaming 28 = .ok (.getfield 56, 3) := by decide +kernel
theorem dX0_doRenaming_31 : decode cX0_doRenaming 31 = .ok (.getfield 237, 3) := by decide +kernel
theorem dX0_doRenaming_34 : decode cX0_doRenaming 34 = .ok (.iconst 0, 1) := by decide +kernel
theorem dX0_doRenaming_35 : decode cX0_doRenaming 35 = .ok (.invokevirtual 127, 3) := by decide +kernel
theorem dX0_doRenaming_38 : decode cX0_doRenaming 38 = .ok (.checkcast 131, 3) := by decide +kernel
theorem dX0_doRenaming_41 : decode cX0_doRenaming 41 = .ok (.getfield 161, 3) := by decide +kernel
theorem dX0_doRenaming_44 : decode cX0_doRenaming 44 = .ok (.invokevirtual 393, 3) := by decide +kernel
theorem dX0_doRenaming_47 : decode cX0_doRenaming 47 = .ok (.ifCond .ne 4, 3) := by decide +kernel
theorem dX0_doRenaming_50 : decode cX0_doRenaming 50 = .ok (.return_, 1) := by decide +kernel
theorem dX0_doRenaming_51 : decode cX0_doRenaming 51 = .ok (.aload_n 0, 1) := by decide +kernel
theorem dX0_doRenaming_52 : decode cX0_doRenaming 52 = .ok (.getfield 56, 3) := by decide +kernel
theorem dX0_doRenaming_55 : decode cX0_doRenaming 55 = .ok (.getfield 237, 3) := by decide +kernel
theorem dX0_doRenaming_58 : decode cX0_doRenaming 58 = .ok (.iconst 0, 1) := by decide +kernel
theorem dX0_doRenaming_59 : decode cX0_doRenaming 59 = .ok (.invokevirtual 127, 3) := by decide +kernel
theorem dX0_doRenaming_62 : decode cX0_doRenaming 62 = .ok (.checkcast 131, 3) := by decide +kernel
theorem dX0_doRenaming_65 : decode cX0_doRenaming 65 = .ok (.astore_n 2, 1) := by decide +kernel
theorem dX0_doRenaming_66 : decode cX0_doRenaming 66 = .ok (.aload_n 0, 1) := by decide +kernel
theorem dX0_doRenaming_67 : decode cX0_doRenaming 67 = .ok (.getfield 56, 3) := by decide +kernel
theorem dX0_doRenaming_70 : decode cX0_doRenaming 70 = .ok (.getfield 237, 3) := by decide +kernel
theorem dX0_doRenaming_73 : decode cX0_doRenaming 73 = .ok (.iconst 0, 1) := by decide +kernel
theorem dX0_doRenaming_74 : decode cX0_doRenaming 74 = .ok (.invokevirtual 246, 3) := by decide +kernel
theorem dX0_doRenaming_77 : decode cX0_doRenaming 77 = .ok (.pop, 1) := by decide +kernel
theorem dX0_doRenaming_78 : decode cX0_doRenaming 78 = .ok (.aload_n 0, 1) := by decide +kernel
theorem dX0_doRenaming_79 : decode cX0_doRenaming 79 = .ok (.aload_n 2, 1) := by decide +kernel
theorem dX0_doRenaming_80 : decode cX0_doRenaming 80 = .ok (.invokevirtual 397, 3) := by decide +kernel
theorem dX0_doRenaming_83 : decode cX0_doRenaming 83 = .ok (.iinc 1 1, 3) := by decide +kernel
theorem dX0_doRenaming_86 : decode cX0_doRenaming 86 = .ok (.goto (-84), 3) := by decide +kernel
theorem dX0_doRenaming_89 : decode cX0_doRenaming 89 = .ok (.return_, 1) := by decide +kernel
theorem dX0_canRename_0 : decode cX0_canRename 0 = .ok (.aload_n 0, 1) := by decide +kernel
theorem dX0_canRename_1 : decode cX0_canRename 1 = .ok (.getfield 60, 3) := by decide +kernel
theorem dX0_canRename_4 : decode cX0_canRename 4 = .ok (.invokevirtual 123, 3) := by decide +kernel
theorem dX0_canRename_7 : decode cX0_canRename 7 = .ok (.aload_n 0, 1) := by decide +kernel
theorem dX0_canRename_8 : decode cX0_canRename 8 = .ok (.getfield 21, 3) := by decide +kernel
theorem dX0_canRename_11 : decode cX0_canRename 11 = .ok (.getfield 400, 3) := by decide +kernel
theorem dX0_canRename_14 : decode cX0_canRename 14 = .ok (.if_icmp .lt 5, 3) := by decide +kernel
theorem dX0_canRename_17 : decode cX0_canRename 17 = .ok (.iconst 0, 1) := by decide +kernel
theorem dX0_canRename_18 : decode cX0_canRename 18 = .ok (.ireturn, 1) := by decide +kernel
theorem dX0_canRename_19 : decode cX0_canRename 19 = .ok (.aload_n 1, 1) := by decide +kernel
theorem dX0_canRename_20 : decode cX0_canRename 20 = .ok (.invokevirtual 179, 3) := by decide +kernel
theorem dX0_canRename_23 : decode cX0_canRename 23 = .ok (.ifCond .eq 15, 3) := by decide +kernel
theorem dX0_canRename_26 : decode cX0_canRename 26 = .ok (.aload_n 0, 1) := by decide +kernel
theorem dX0_canRename_27 : decode cX0_canRename 27 = .ok (.getfield 42, 3) := by decide +kernel
theorem dX0_canRename_30 : decode cX0_canRename 30 = .ok (.getfield 403, 3) := by decide +kernel
theorem dX0_canRename_33 : decode cX0_canRename 33 = .ok (.ifCond .ne 5, 3) := by decide +kernel
theorem dX0_canRename_36 : decode cX0_canRename 36 = .ok (.iconst 0, 1) := by decide +kernel
theorem dX0_canRename_37 : decode cX0_canRename 37 = .ok (.ireturn, 1) := by decide +kernel
theorem dX0_canRename_38 : decode cX0_canRename 38 = .ok (.aload_n 1, 1) := by decide +kernel
theorem dX0_canRename_39 : decode cX0_canRename 39 = .ok (.invokevirtual 406, 3) := by decide +kernel
theorem dX0_canRename_42 : decode cX0_canRename 42 = .ok (.ifCond .eq 19, 3) := by decide +kernel
theorem dX0_canRename_45 : decode cX0_canRename 45 = .ok (.aload_n 0, 1) := by decide +kernel
theorem dX0_canRename_46 : decode cX0_canRename 46 = .ok (.invokevirtual 409, 3) := by decide +kernel
theorem dX0_canRename_49 : decode cX0_canRename 49 = .ok (.aload_n 0, 1) := by decide +kernel
theorem dX0_canRename_50 : decode cX0_canRename 50 = .ok (.getfield 21, 3) := by decide +kernel
theorem dX0_canRename_53 : decode cX0_canRename 53 = .ok (.getfield 412, 3) := by decide +kernel
theorem dX0_canRename_56 : decode cX0_canRename 56 = .ok (.if_icmp .lt 5, 3) := by decide +kernel
theorem dX0_canRename_59 : decode cX0_canRename 59 = .ok (.iconst 0, 1) := by decide +kernel
theorem dX0_canRename_60 : decode cX0_canRename 60 = .ok (.ireturn, 1) := by decide +kernel
theorem dX0_canRename_61 : decode cX0_canRename 61 = .ok (.aload_n 0, 1) := by decide +kernel
theorem dX0_canRename_62 : decode cX0_canRename 62 = .ok (.getfield 60, 3) := by decide +kernel
theorem dX0_canRename_65 : decode cX0_canRename 65 = .ok (.invokevirtual 282, 3) := by decide +kernel
theorem dX0_canRename_68 : decode cX0_canRename 68 = .ok (.ifCond .ne 30, 3) := by decide +kernel
theorem dX0_canRename_71 : decode cX0_canRename 71 = .ok (.aload_n 1, 1) := by decide +kernel
theorem dX0_canRename_72 : decode cX0_canRename 72 = .ok (.invokevirtual 415, 3) := by decide +kernel
theorem dX0_canRename_75 : decode cX0_canRename 75 = .ok (.ifCond .ne 27, 3) := by decide +kernel
theorem dX0_canRename_78 : decode cX0_canRename 78 = .ok (.aload_n 0, 1) := by decide +kernel
theorem dX0_canRename_79 : decode cX0_canRename 79 = .ok (.getfield 60, 3) := by decide +kernel
theorem dX0_canRename_82 : decode cX0_canRename 82 = .ok (.iconst 0, 1) := by decide +kernel
theorem dX0_canRename_83 : decode cX0_canRename 83 = .ok (.invokevirtual 127, 3) := by decide +kernel
theorem dX0_canRename_86 : decode cX0_canRename 86 = .ok (.checkcast 131, 3) := by decide +kernel
theorem dX0_canRename_89 : decode cX0_canRename 89 = .ok (.getfield 161, 3) := by decide +kernel
theorem dX0_canRename_92 : decode cX0_canRename 92 = .ok (.invokevirtual 415, 3) := by decide +kernel
theorem dX0_canRename_95 : decode cX0_canRename 95 = .ok (.ifCond .ne 7, 3) := by decide +kernel
theorem dX0_canRename_98 : decode cX0_canRename 98 = .ok (.iconst 1, 1) := by decide +kernel
theorem dX0_canRename_99 : decode cX0_canRename 99 = .ok (.goto 4, 3) := by decide +kernel
theorem dX0_canRename_102 : decode cX0_canRename 102 = .ok (.iconst 0, 1) := by decide +kernel
theorem dX0_canRename_103 : decode cX0_canRename 103 = .ok (.ireturn, 1) := by decide +kernel
theorem dX0_renameFirst_0 : decode cX0_renameFirst 0 = .ok (.aload_n 1, 1) := by decide +kernel
theorem dX0_renameFirst_1 : decode cX0_renameFirst 1 = .ok (.getfield 161, 3) := by decide +kernel
theorem dX0_renameFirst_4 : decode cX0_renameFirst 4 = .ok (.astore_n 2, 1) := by decide +kernel
theorem dX0_renameFirst_5 : decode cX0_renameFirst 5 = .ok (.aload_n 0, 1) := by decide +kernel
theorem dX0_renameFirst_6 : decode cX0_renameFirst 6 = .ok (.getfield 42, 3) := by decide +kernel
theorem dX0_renameFirst_9 : decode cX0_renameFirst 9 = .ok (.aload_n 1, 1) := by decide +kernel
theorem dX0_renameFirst_10 : decode cX0_renameFirst 10 = .ok (.invokevirtual 418, 3) := by decide +kernel
theorem dX0_renameFirst_13 : decode cX0_renameFirst 13 = .ok (.aload_n 1, 1) := by decide +kernel
theorem dX0_renameFirst_14 : decode cX0_renameFirst 14 = .ok (.getfield 261, 3) := by decide +kernel
theorem dX0_renameFirst_17 : decode cX0_renameFirst 17 = .ok (.iconst 1, 1) := by decide +kernel
theorem dX0_renameFirst_18 : decode cX0_renameFirst 18 = .ok (.aload_n 0, 1) := by decide +kernel
theorem dX0_renameFirst_19 : decode cX0_renameFirst 19 = .ok (.getfield 77, 3) := by decide +kernel
theorem dX0_renameFirst_22 : decode cX0_renameFirst 22 = .ok (.iastore, 1) := by decide +kernel
theorem dX0_renameFirst_23 : decode cX0_renameFirst 23 = .ok (.aload_n 2, 1) := by decide +kernel
theorem dX0_renameFirst_24 : decode cX0_renameFirst 24 = .ok (.invokevirtual 406, 3) := by decide +kernel
theorem dX0_renameFirst_27 : decode cX0_renameFirst 27 = .ok (.ifCond .ne 41, 3) := by decide +kernel
theorem dX0_renameFirst_30 : decode cX0_renameFirst 30 = .ok (.aload_n 1, 1) := by decide +kernel
theorem dX0_renameFirst_31 : decode cX0_renameFirst 31 = .ok (.aload_n 2, 1) := by decide +kernel
theorem dX0_renameFirst_32 : decode cX0_renameFirst 32 = .ok (.getfield 165, 3) := by decide +kernel
theorem dX0_renameFirst_35 : decode cX0_renameFirst 35 = .ok (.bipush 21, 2) := by decide +kernel
theorem dX0_renameFirst_37 : decode cX0_renameFirst 37 = .ok (.if_icmp .ne 14, 3) := by decide +kernel
theorem dX0_renameFirst_40 : decode cX0_renameFirst 40 = .ok (.aload_n 0, 1) := by decide +kernel
theorem dX0_renameFirst_41 : decode cX0_renameFirst 41 = .ok (.getfield 88, 3) := by decide +kernel
theorem dX0_renameFirst_44 : decode cX0_renameFirst 44 = .ok (.ifCond .ne 7, 3) := by decide +kernel
theorem dX0_renameFirst_47 : decode cX0_renameFirst 47 = .ok (.iconst 5, 1) := by decide +kernel
theorem dX0_renameFirst_48 : decode cX0_renameFirst 48 = .ok (.goto 9, 3) := by decide +kernel
theorem dX0_renameFirst_51 : decode cX0_renameFirst 51 = .ok (.aload_n 2, 1) := by decide +kernel
theorem dX0_renameFirst_52 : decode cX0_renameFirst 52 = .ok (.iconst 0, 1) := by decide +kernel
theorem dX0_renameFirst_53 : decode cX0_renameFirst 53 = .ok (.iconst 0, 1) := by decide +kernel
theorem dX0_renameFirst_54 : decode cX0_renameFirst 54 = .ok (.invokevirtual 421, 3) := by decide +kernel
theorem dX0_renameFirst_57 : decode cX0_renameFirst 57 = .ok (.putfield 192, 3) := by decide +kernel
theorem dX0_renameFirst_60 : decode cX0_renameFirst 60 = .ok (.aload_n 1, 1) := by decide +kernel
theorem dX0_renameFirst_61 : decode cX0_renameFirst 61 = .ok (.aload_n 0, 1) := by decide +kernel
theorem dX0_renameFirst_62 : decode cX0_renameFirst 62 = .ok (.getfield 77, 3) := by decide +kernel
theorem dX0_renameFirst_65 : decode cX0_renameFirst 65 = .ok (.invokevirtual 183, 3) := by decide +kernel
theorem dX0_renameFirst_68 : decode cX0_renameFirst 68 = .ok (.aload_n 2, 1) := by decide +kernel
theorem dX0_renameFirst_69 : decode cX0_renameFirst 69 = .ok (.getfield 165, 3) := by decide +kernel
theorem dX0_renameFirst_72 : decode cX0_renameFirst 72 = .ok (.bipush 15, 2) := by decide +kernel
theorem dX0_renameFirst_74 : decode cX0_renameFirst 74 = .ok (.if_icmp .ne 20, 3) := by decide +kernel
theorem dX0_renameFirst_77 : decode cX0_renameFirst 77 = .ok (.aload_n 0, 1) := by decide +kernel
theorem dX0_renameFirst_78 : decode cX0_renameFirst 78 = .ok (.getfield 42, 3) := by decide +kernel
theorem dX0_renameFirst_81 : decode cX0_renameFirst 81 = .ok (.aload_n 1, 1) := by decide +kernel
theorem dX0_renameFirst_82 : decode cX0_renameFirst 82 = .ok (.getfield 230, 3) := by decide +kernel
theorem dX0_renameFirst_85 : decode cX0_renameFirst 85 = .ok (.aload_n 2, 1) := by decide +kernel
theorem dX0_renameFirst_86 : decode cX0_renameFirst 86 = .ok (.iconst 0, 1) := by decide +kernel
theorem dX0_renameFirst_87 : decode cX0_renameFirst 87 = .ok (.iconst 0, 1) := by decide +kernel
theorem dX0_renameFirst_88 : decode cX0_renameFirst 88 = .ok (.invokevirtual 424, 3) := by decide +kernel
theorem dX0_renameFirst_91 : decode cX0_renameFirst 91 = .ok (.invokevirtual 233, 3) := by decide +kernel
theorem dX0_renameFirst_94 : decode cX0_renameFirst 94 = .ok (.aload_n 0, 1) := by decide +kernel
theorem dX0_renameFirst_95 : decode cX0_renameFirst 95 = .ok (.getfield 60, 3) := by decide +kernel
theorem dX0_renameFirst_98 : decode cX0_renameFirst 98 = .ok (.aload_n 1, 1) := by decide +kernel
theorem dX0_renameFirst_99 : decode cX0_renameFirst 99 = .ok (.invokevirtual 328, 3) := by decide +kernel
theorem dX0_renameFirst_102 : decode cX0_renameFirst 102 = .ok (.pop, 1) := by decide +kernel
theorem dX0_renameFirst_103 : decode cX0_renameFirst 103 = .ok (.return_, 1) := by decide +kernel
theorem dX0_countQueue_0 : decode cX0_countQueue 0 = .ok (.iconst 0, 1) := by decide +kernel
theorem dX0_countQueue_1 : decode cX0_countQueue 1 = .ok (.istore_n 1, 1) := by decide +kernel
theorem dX0_countQueue_2 : decode cX0_countQueue 2 = .ok (.iconst 0, 1) := by decide +kernel
theorem dX0_countQueue_3 : decode cX0_countQueue 3 = .ok (.istore_n 2, 1) := by decide +kernel
theorem dX0_countQueue_4 : decode cX0_countQueue 4 = .ok (.iload_n 2, 1) := by decide +kernel
theorem dX0_countQueue_5 : decode cX0_countQueue 5 = .ok (.aload_n 0, 1) := by decide +kernel
theorem dX0_countQueue_6 : decode cX0_countQueue 6 = .ok (.getfield 60, 3) := by decide +kernel
theorem dX0_countQueue_9 : decode cX0_countQueue 9 = .ok (.invokevirtual 123, 3) := by decide +kernel
theorem dX0_countQueue_12 : decode cX0_countQueue 12 = .ok (.if_icmp .ge 31, 3) := by decide +kernel
theorem dX0_countQueue_15 : decode cX0_countQueue 15 = .ok (.aload_n 0, 1) := by decide +kernel
theorem dX0_countQueue_16 : decode cX0_countQueue 16 = .ok (.getfield 60, 3) := by decide +kernel
theorem dX0_countQueue_19 : decode cX0_countQueue 19 = .ok (.iload_n 2, 1) := by decide +kernel
theorem dX0_countQueue_20 : decode cX0_countQueue 20 = .ok (.invokevirtual 127, 3) := by decide +kernel
theorem dX0_countQueue_23 : decode cX0_countQueue 23 = .ok (.checkcast 131, 3) := by decide +kernel
theorem dX0_countQueue_26 : decode cX0_countQueue 26 = .ok (.getfield 133, 3) := by decide +kernel
theorem dX0_countQueue_29 : decode cX0_countQueue 29 = .ok (.bipush 113, 2) := by decide +kernel
theorem dX0_countQueue_31 : decode cX0_countQueue 31 = .ok (.if_icmp .ne 6, 3) := by decide +kernel
theorem dX0_countQueue_34 : decode cX0_countQueue 34 = .ok (.iinc 1 1, 3) := by decide +kernel
theorem dX0_countQueue_37 : decode cX0_countQueue 37 = .ok (.iinc 2 1, 3) := by decide +kernel
theorem dX0_countQueue_40 : decode cX0_countQueue 40 = .ok (.goto (-36), 3) := by decide +kernel
theorem dX0_countQueue_43 : decode cX0_countQueue 43 = .ok (.iload_n 1, 1) := by decide +kernel
theorem dX0_countQueue_44 : decode cX0_countQueue 44 = .ok (.ireturn, 1) := by decide +kernel
theorem dX0_findInner_0 : decode cX0_findInner 0 = .ok (.aload_n 0, 1) := by decide +kernel
theorem dX0_findInner_1 : decode cX0_findInner 1 = .ok (.getfield 42, 3) := by decide +kernel
theorem dX0_findInner_4 : decode cX0_findInner 4 = .ok (.getfield 427, 3) := by decide +kernel
theorem dX0_findInner_7 : decode cX0_findInner 7 = .ok (.iload_n 1, 1) := by decide +kernel
theorem dX0_findInner_8 : decode cX0_findInner 8 = .ok (.iaload, 1) := by decide +kernel
theorem dX0_findInner_9 : decode cX0_findInner 9 = .ok (.istore_n 2, 1) := by decide +kernel
theorem dX0_findInner_10 : decode cX0_findInner 10 = .ok (.iconst 0, 1) := by decide +kernel
theorem dX0_findInner_11 : decode cX0_findInner 11 = .ok (.istore_n 3, 1) := by decide +kernel
theorem dX0_findInner_12 : decode cX0_findInner 12 = .ok (.iload_n 3, 1) := by decide +kernel
theorem dX0_findInner_13 : decode cX0_findInner 13 = .ok (.aload_n 0, 1) := by decide +kernel
theorem dX0_findInner_14 : decode cX0_findInner 14 = .ok (.getfield 60, 3) := by decide +kernel
theorem dX0_findInner_17 : decode cX0_findInner 17 = .ok (.invokevirtual 123, 3) := by decide +kernel
theorem dX0_findInner_20 : decode cX0_findInner 20 = .ok (.if_icmp .ge 51, 3) := by decide +kernel
theorem dX0_findInner_23 : decode cX0_findInner 23 = .ok (.aload_n 0, 1) := by decide +kernel
theorem dX0_findInner_24 : decode cX0_findInner 24 = .ok (.getfield 60, 3) := by decide +kernel
theorem dX0_findInner_27 : decode cX0_findInner 27 = .ok (.iload_n 3, 1) := by decide +kernel
theorem dX0_findInner_28 : decode cX0_findInner 28 = .ok (.invokevirtual 127, 3) := by decide +kernel
theorem dX0_findInner_31 : decode cX0_findInner 31 = .ok (.checkcast 131, 3) := by decide +kernel
theorem dX0_findInner_34 : decode cX0_findInner 34 = .ok (.astore 4, 2) := by decide +kernel
theorem dX0_findInner_36 : decode cX0_findInner 36 = .ok (.aload 4, 2) := by decide +kernel
theorem dX0_findInner_38 : decode cX0_findInner 38 = .ok (.getfield 161, 3) := by decide +kernel
theorem dX0_findInner_41 : decode cX0_findInner 41 = .ok (.invokevirtual 179, 3) := by decide +kernel
theorem dX0_findInner_44 : decode cX0_findInner 44 = .ok (.ifCond .eq 21, 3) := by decide +kernel
theorem dX0_findInner_47 : decode cX0_findInner 47 = .ok (.aload 4, 2) := by decide +kernel
theorem dX0_findInner_49 : decode cX0_findInner 49 = .ok (.getfield 161, 3) := by decide +kernel
theorem dX0_findInner_52 : decode cX0_findInner 52 = .ok (.getfield 430, 3) := by decide +kernel
theorem dX0_findInner_55 : decode cX0_findInner 55 = .ok (.iload_n 1, 1) := by decide +kernel
theorem dX0_findInner_56 : decode cX0_findInner 56 = .ok (.if_icmp .ne 9, 3) := by decide +kernel
theorem dX0_findInner_59 : decode cX0_findInner 59 = .ok (.aload 4, 2) := by decide +kernel
theorem dX0_findInner_61 : decode cX0_findInner 61 = .ok (.getfield 230, 3) := by decide +kernel
theorem dX0_findInner_64 : decode cX0_findInner 64 = .ok (.istore_n 2, 1) := by decide +kernel
theorem dX0_findInner_65 : decode cX0_findInner 65 = .ok (.iinc 3 1, 3) := by decide +kernel
theorem dX0_findInner_68 : decode cX0_findInner 68 = .ok (.goto (-56), 3) := by decide +kernel
theorem dX0_findInner_71 : decode cX0_findInner 71 = .ok (.iload_n 2, 1) := by decide +kernel
theorem dX0_findInner_72 : decode cX0_findInner 72 = .ok (.ireturn, 1) := by decide +kernel
theorem dX0_isUsed_0 : decode cX0_isUsed 0 = .ok (.iconst 0, 1) := by decide +kernel
theorem dX0_isUsed_1 : decode cX0_isUsed 1 = .ok (.istore_n 2, 1) := by decide +kernel
theorem dX0_isUsed_2 : decode cX0_isUsed 2 = .ok (.iload_n 2, 1) := by decide +kernel
theorem dX0_isUsed_3 : decode cX0_isUsed 3 = .ok (.aload_n 0, 1) := by decide +kernel
theorem dX0_isUsed_4 : decode cX0_isUsed 4 = .ok (.getfield 60, 3) := by decide +kernel
theorem dX0_isUsed_7 : decode cX0_isUsed 7 = .ok (.invokevirtual 123, 3) := by decide +kernel
theorem dX0_isUsed_10 : decode cX0_isUsed 10 = .ok (.if_icmp .ge 29, 3) := by decide +kernel
theorem dX0_isUsed_13 : decode cX0_isUsed 13 = .ok (.aload_n 0, 1) := by decide +kernel
theorem dX0_isUsed_14 : decode cX0_isUsed 14 = .ok (.getfield 60, 3) := by decide +kernel
theorem dX0_isUsed_17 : decode cX0_isUsed 17 = .ok (.iload_n 2, 1) := by decide +kernel
theorem dX0_isUsed_18 : decode cX0_isUsed 18 = .ok (.invokevirtual 127, 3) := by decide +kernel
theorem dX0_isUsed_21 : decode cX0_isUsed 21 = .ok (.checkcast 131, 3) := by decide +kernel
theorem dX0_isUsed_24 : decode cX0_isUsed 24 = .ok (.getfield 230, 3) := by decide +kernel
theorem dX0_isUsed_27 : decode cX0_isUsed 27 = .ok (.iload_n 1, 1) := by decide +kernel
theorem dX0_isUsed_28 : decode cX0_isUsed 28 = .ok (.if_icmp .ne 5, 3) := by decide +kernel
theorem dX0_isUsed_31 : decode cX0_isUsed 31 = .ok (.iconst 1, 1) := by decide +kernel
theorem dX0_isUsed_32 : decode cX0_isUsed 32 = .ok (.ireturn, 1) := by decide +kernel
theorem dX0_isUsed_33 : decode cX0_isUsed 33 = .ok (.iinc 2 1, 3) := by decide +kernel
theorem dX0_isUsed_36 : decode cX0_isUsed 36 = .ok (.goto (-34), 3) := by decide +kernel
theorem dX0_isUsed_39 : decode cX0_isUsed 39 = .ok (.aload_n 0, 1) := by decide +kernel
theorem dX0_isUsed_40 : decode cX0_isUsed 40 = .ok (.getfield 42, 3) := by decide +kernel
theorem dX0_isUsed_43 : decode cX0_isUsed 43 = .ok (.iload_n 1, 1) := by decide +kernel
theorem dX0_isUsed_44 : decode cX0_isUsed 44 = .ok (.invokevirtual 433, 3) := by decide +kernel
theorem dX0_isUsed_47 : decode cX0_isUsed 47 = .ok (.ifCond .ne 14, 3) := by decide +kernel
theorem dX0_isUsed_50 : decode cX0_isUsed 50 = .ok (.aload_n 0, 1) := by decide +kernel
theorem dX0_isUsed_51 : decode cX0_isUsed 51 = .ok (.getfield 42, 3) := by decide +kernel
theorem dX0_isUsed_54 : decode cX0_isUsed 54 = .ok (.iload_n 1, 1) := by decide +kernel
theorem dX0_isUsed_55 : decode cX0_isUsed 55 = .ok (.invokevirtual 436, 3) := by decide +kernel
theorem dX0_isUsed_58 : decode cX0_isUsed 58 = .ok (.ifCond .eq 7, 3) := by decide +kernel
theorem dX0_isUsed_61 : decode cX0_isUsed 61 = .ok (.iconst 1, 1) := by decide +kernel
theorem dX0_isUsed_62 : decode cX0_isUsed 62 = .ok (.goto 4, 3) := by decide +kernel
theorem dX0_isUsed_65 : decode cX0_isUsed 65 = .ok (.iconst 0, 1) := by decide +kernel
theorem dX0_isUsed_66 : decode cX0_isUsed 66 = .ok (.ireturn, 1) := by decide +kernel
theorem dX0_hasSameEnds_0 : decode cX0_hasSameEnds 0 = .ok (.iconst 0, 1) := by decide +kernel
theorem dX0_hasSameEnds_1 : decode cX0_hasSameEnds 1 = .ok (.istore_n 1, 1) := by decide +kernel
theorem dX0_hasSameEnds_2 : decode cX0_hasSameEnds 2 = .ok (.iload_n 1, 1) := by decide +kernel
theorem dX0_hasSameEnds_3 : decode cX0_hasSameEnds 3 = .ok (.aload_n 0, 1) := by decide +kernel
theorem dX0_hasSameEnds_4 : decode cX0_hasSameEnds 4 = .ok (.getfield 63, 3) := by decide +kernel
theorem dX0_hasSameEnds_7 : decode cX0_hasSameEnds 7 = .ok (.invokevirtual 123, 3) := by decide +kernel
theorem dX0_hasSameEnds_10 : decode cX0_hasSameEnds 10 = .ok (.if_icmp .ge 45, 3) := by decide +kernel
theorem dX0_hasSameEnds_13 : decode cX0_hasSameEnds 13 = .ok (.aload_n 0, 1) := by decide +kernel
theorem dX0_hasSameEnds_14 : decode cX0_hasSameEnds 14 = .ok (.getfield 63, 3) := by decide +kernel
theorem dX0_hasSameEnds_17 : decode cX0_hasSameEnds 17 = .ok (.iload_n 1, 1) := by decide +kernel
theorem dX0_hasSameEnds_18 : decode cX0_hasSameEnds 18 = .ok (.invokevirtual 127, 3) := by decide +kernel
theorem dX0_hasSameEnds_21 : decode cX0_hasSameEnds 21 = .ok (.checkcast 323, 3) := by decide +kernel
theorem dX0_hasSameEnds_24 : decode cX0_hasSameEnds 24 = .ok (.astore_n 2, 1) := by decide +kernel
theorem dX0_hasSameEnds_25 : decode cX0_hasSameEnds 25 = .ok (.aload_n 2, 1) := by decide +kernel
theorem dX0_hasSameEnds_26 : decode cX0_hasSameEnds 26 = .ok (.getfield 439, 3) := by decide +kernel
theorem dX0_hasSameEnds_29 : decode cX0_hasSameEnds 29 = .ok (.aload_n 2, 1) := by decide +kernel
theorem dX0_hasSameEnds_30 : decode cX0_hasSameEnds 30 = .ok (.getfield 442, 3) := by decide +kernel
theorem dX0_hasSameEnds_33 : decode cX0_hasSameEnds 33 = .ok (.if_icmp .ne 14, 3) := by decide +kernel
theorem dX0_hasSameEnds_36 : decode cX0_hasSameEnds 36 = .ok (.aload_n 2, 1) := by decide +kernel
theorem dX0_hasSameEnds_37 : decode cX0_hasSameEnds 37 = .ok (.getfield 445, 3) := by decide +kernel
theorem dX0_hasSameEnds_40 : decode cX0_hasSameEnds 40 = .ok (.aload_n 2, 1) := by decide +kernel
theorem dX0_hasSameEnds_41 : decode cX0_hasSameEnds 41 = .ok (.getfield 446, 3) := by decide +kernel
theorem dX0_hasSameEnds_44 : decode cX0_hasSameEnds 44 = .ok (.if_icmp .eq 5, 3) := by decide +kernel
theorem dX0_hasSameEnds_47 : decode cX0_hasSameEnds 47 = .ok (.iconst 0, 1) := by decide +kernel
theorem dX0_hasSameEnds_48 : decode cX0_hasSameEnds 48 = .ok (.ireturn, 1) := by decide +kernel
theorem dX0_hasSameEnds_49 : decode cX0_hasSameEnds 49 = .ok (.iinc 1 1, 3) := by decide +kernel
theorem dX0_hasSameEnds_52 : decode cX0_hasSameEnds 52 = .ok (.goto (-50), 3) := by decide +kernel
theorem dX0_hasSameEnds_55 : decode cX0_hasSameEnds 55 = .ok (.iconst 1, 1) := by decide +kernel
theorem dX0_hasSameEnds_56 : decode cX0_hasSameEnds 56 = .ok (.ireturn, 1) := by decide +kernel
theorem dX0_hasSameState_0 : decode cX0_hasSameState 0 = .ok (.iconst 0, 1) := by decide +kernel
theorem dX0_hasSameState_1 : decode cX0_hasSameState 1 = .ok (.istore_n 1, 1) := by decide +kernel
theorem dX0_hasSameState_2 : decode cX0_hasSameState 2 = .ok (.iload_n 1, 1) := by decide +kernel
theorem dX0_hasSameState_3 : decode cX0_hasSameState 3 = .ok (.bipush 8, 2) := by decide +kernel
theorem dX0_hasSameState_5 : decode cX0_hasSameState 5 = .ok (.if_icmp .ge 39, 3) := by decide +kernel
theorem dX0_hasSameState_8 : decode cX0_hasSameState 8 = .ok (.aload_n 0, 1) := by decide +kernel
theorem dX0_hasSameState_9 : decode cX0_hasSameState 9 = .ok (.getfield 42, 3) := by decide +kernel
theorem dX0_hasSameState_12 : decode cX0_hasSameState 12 = .ok (.aload_n 0, 1) := by decide +kernel
theorem dX0_hasSameState_13 : decode cX0_hasSameState 13 = .ok (.getfield 42, 3) := by decide +kernel
theorem dX0_hasSameState_16 : decode cX0_hasSameState 16 = .ok (.getfield 427, 3) := by decide +kernel
theorem dX0_hasSameState_19 : decode cX0_hasSameState 19 = .ok (.iload_n 1, 1) := by decide +kernel
theorem dX0_hasSameState_20 : decode cX0_hasSameState 20 = .ok (.iaload, 1) := by decide +kernel
theorem dX0_hasSameState_21 : decode cX0_hasSameState 21 = .ok (.invokevirtual 307, 3) := by decide +kernel
theorem dX0_hasSameState_24 : decode cX0_hasSameState 24 = .ok (.aload_n 0, 1) := by decide +kernel
theorem dX0_hasSameState_25 : decode cX0_hasSameState 25 = .ok (.getfield 35, 3) := by decide +kernel
theorem dX0_hasSameState_28 : decode cX0_hasSameState 28 = .ok (.getfield 449, 3) := by decide +kernel
theorem dX0_hasSameState_31 : decode cX0_hasSameState 31 = .ok (.iload_n 1, 1) := by decide +kernel
theorem dX0_hasSameState_32 : decode cX0_hasSameState 32 = .ok (.iaload, 1) := by decide +kernel
theorem dX0_hasSameState_33 : decode cX0_hasSameState 33 = .ok (.if_icmp .eq 5, 3) := by decide +kernel
theorem dX0_hasSameState_36 : decode cX0_hasSameState 36 = .ok (.iconst 0, 1) := by decide +kernel
theorem dX0_hasSameState_37 : decode cX0_hasSameState 37 = .ok (.ireturn, 1) := by decide +kernel
theorem dX0_hasSameState_38 : decode cX0_hasSameState 38 = .ok (.iinc 1 1, 3) := by decide +kernel
theorem dX0_hasSameState_41 : decode cX0_hasSameState 41 = .ok (.goto (-39), 3) := by decide +kernel
theorem dX0_hasSameState_44 : decode cX0_hasSameState 44 = .ok (.iconst 0, 1) := by decide +kernel
theorem dX0_hasSameState_45 : decode cX0_hasSameState 45 = .ok (.istore_n 1, 1) := by decide +kernel
theorem dX0_hasSameState_46 : decode cX0_hasSameState 46 = .ok (.iload_n 1, 1) := by decide +kernel
theorem dX0_hasSameState_47 : decode cX0_hasSameState 47 = .ok (.bipush 64, 2) := by decide +kernel
theorem dX0_hasSameState_49 : decode cX0_hasSameState 49 = .ok (.if_icmp .ge 29, 3) := by decide +kernel
theorem dX0_hasSameState_52 : decode cX0_hasSameState 52 = .ok (.aload_n 0, 1) := by decide +kernel
theorem dX0_hasSameState_53 : decode cX0_hasSameState 53 = .ok (.getfield 66, 3) := by decide +kernel
theorem dX0_hasSameState_56 : decode cX0_hasSameState 56 = .ok (.iload_n 1, 1) := by decide +kernel
theorem dX0_hasSameState_57 : decode cX0_hasSameState 57 = .ok (.iaload, 1) := by decide +kernel
theorem dX0_hasSameState_58 : decode cX0_hasSameState 58 = .ok (.aload_n 0, 1) := by decide +kernel
theorem dX0_hasSameState_59 : decode cX0_hasSameState 59 = .ok (.getfield 35, 3) := by decide +kernel
theorem dX0_hasSameState_62 : decode cX0_hasSameState 62 = .ok (.getfield 452, 3) := by decide +kernel
theorem dX0_hasSameState_65 : decode cX0_hasSameState 65 = .ok (.iload_n 1, 1) := by decide +kernel
theorem dX0_hasSameState_66 : decode cX0_hasSameState 66 = .ok (.iaload, 1) := by decide +kernel
theorem dX0_hasSameState_67 : decode cX0_hasSameState 67 = .ok (.if_icmp .eq 5, 3) := by decide +kernel
theorem dX0_hasSameState_70 : decode cX0_hasSameState 70 = .ok (.iconst 0, 1) := by decide +kernel
theorem dX0_hasSameState_71 : decode cX0_hasSameState 71 = .ok (.ireturn, 1) := by decide +kernel
theorem dX0_hasSameState_72 : decode cX0_hasSameState 72 = .ok (.iinc 1 1, 3) := by decide +kernel
theorem dX0_hasSameState_75 : decode cX0_hasSameState 75 = .ok (.goto (-29), 3) := by decide +kernel
theorem dX0_hasSameState_78 : decode cX0_hasSameState 78 = .ok (.aload_n 0, 1) := by decide +kernel
theorem dX0_hasSameState_79 : decode cX0_hasSameState 79 = .ok (.getfield 88, 3) := by decide +kernel
theorem dX0_hasSameState_82 : decode cX0_hasSameState 82 = .ok (.ifCond .eq 17, 3) := by decide +kernel
theorem dX0_hasSameState_85 : decode cX0_hasSameState 85 = .ok (.aload_n 0, 1) := by decide +kernel
theorem dX0_hasSameState_86 : decode cX0_hasSameState 86 = .ok (.getfield 91, 3) := by decide +kernel
theorem dX0_hasSameState_89 : decode cX0_hasSameState 89 = .ok (.aload_n 0, 1) := by decide +kernel
theorem dX0_hasSameState_90 : decode cX0_hasSameState 90 = .ok (.getfield 35, 3) := by decide +kernel
theorem dX0_hasSameState_93 : decode cX0_hasSameState 93 = .ok (.getfield 453, 3) := by decide +kernel
theorem dX0_hasSameState_96 : decode cX0_hasSameState 96 = .ok (.if_icmp .ne 7, 3) := by decide +kernel
theorem dX0_hasSameState_99 : decode cX0_hasSameState 99 = .ok (.iconst 1, 1) := by decide +kernel
theorem dX0_hasSameState_100 : decode cX0_hasSameState 100 = .ok (.goto 4, 3) := by decide +kernel
theorem dX0_hasSameState_103 : decode cX0_hasSameState 103 = .ok (.iconst 0, 1) := by decide +kernel
theorem dX0_hasSameState_104 : decode cX0_hasSameState 104 = .ok (.ireturn, 1) := by decide +kernel
theorem dX1_init_0 : decode cX1_init 0 = .ok (.aload_n 0, 1) := by decide +kernel
theorem dX1_init_1 : decode cX1_init 1 = .ok (.invokespecial 3, 3) := by decide +kernel
theorem dX1_init_4 : decode cX1_init 4 = .ok (.aload_n 0, 1) := by decide +kernel
theorem dX1_init_5 : decode cX1_init 5 = .ok (.ldc 9, 2) := by decide +kernel
theorem dX1_init_7 : decode cX1_init 7 = .ok (.invokevirtual 11, 3) := by decide +kernel
theorem dX1_init_10 : decode cX1_init 10 = .ok (.newarray .int, 2) := by decide +kernel
theorem dX1_init_12 : decode cX1_init 12 = .ok (.putfield 17, 3) := by decide +kernel
theorem dX1_init_15 : decode cX1_init 15 = .ok (.aload_n 0, 1) := by decide +kernel
theorem dX1_init_16 : decode cX1_init 16 = .ok (.iconst 0, 1) := by decide +kernel
theorem dX1_init_17 : decode cX1_init 17 = .ok (.putfield 23, 3) := by decide +kernel
theorem dX1_init_20 : decode cX1_init 20 = .ok (.aload_n 0, 1) := by decide +kernel
theorem dX1_init_21 : decode cX1_init 21 = .ok (.iconst 0, 1) := by decide +kernel
theorem dX1_init_22 : decode cX1_init 22 = .ok (.putfield 27, 3) := by decide +kernel
theorem dX1_init_25 : decode cX1_init 25 = .ok (.aload_n 0, 1) := by decide +kernel
theorem dX1_init_26 : decode cX1_init 26 = .ok (.iconst 0, 1) := by decide +kernel
theorem dX1_init_27 : decode cX1_init 27 = .ok (.putfield 30, 3) := by decide +kernel
theorem dX1_init_30 : decode cX1_init 30 = .ok (.aload_n 0, 1) := by decide +kernel
theorem dX1_init_31 : decode cX1_init 31 = .ok (.iconst 0, 1) := by decide +kernel
theorem dX1_init_32 : decode cX1_init 32 = .ok (.putfield 33, 3) := by decide +kernel
theorem dX1_init_35 : decode cX1_init 35 = .ok (.aload_n 0, 1) := by decide +kernel
theorem dX1_init_36 : decode cX1_init 36 = .ok (.iconst 0, 1) := by decide +kernel
theorem dX1_init_37 : decode cX1_init 37 = .ok (.putfield 36, 3) := by decide +kernel
theorem dX1_init_40 : decode cX1_init 40 = .ok (.aload_n 0, 1) := by decide +kernel
theorem dX1_init_41 : decode cX1_init 41 = .ok (.iconst 0, 1) := by decide +kernel
theorem dX1_init_42 : decode cX1_init 42 = .ok (.putfield 39, 3) := by decide +kernel
theorem dX1_init_45 : decode cX1_init 45 = .ok (.return_, 1) := by decide +kernel
theorem dX1_lose_0 : decode cX1_lose 0 = .ok (.iload_n 1, 1) := by decide +kernel
theorem dX1_lose_1 : decode cX1_lose 1 = .ok (.invokestatic 42, 3) := by decide +kernel
theorem dX1_lose_4 : decode cX1_lose 4 = .ok (.istore_n 2, 1) := by decide +kernel
theorem dX1_lose_5 : decode cX1_lose 5 = .ok (.iload_n 2, 1) := by decide +kernel
theorem dX1_lose_6 : decode cX1_lose 6 = .ok (.iconst (-1), 1) := by decide +kernel
theorem dX1_lose_7 : decode cX1_lose 7 = .ok (.if_icmp .eq 13, 3) := by decide +kernel
theorem dX1_lose_10 : decode cX1_lose 10 = .ok (.aload_n 0, 1) := by decide +kernel
theorem dX1_lose_11 : decode cX1_lose 11 = .ok (.getfield 17, 3) := by decide +kernel
theorem dX1_lose_14 : decode cX1_lose 14 = .ok (.iload_n 2, 1) := by decide +kernel
theorem dX1_lose_15 : decode cX1_lose 15 = .ok (.dup2, 1) := by decide +kernel
theorem dX1_lose_16 : decode cX1_lose 16 = .ok (.iaload, 1) := by decide +kernel
theorem dX1_lose_17 : decode cX1_lose 17 = .ok (.iconst 1, 1) := by decide +kernel
theorem dX1_lose_18 : decode cX1_lose 18 = .ok (.iadd, 1) := by decide +kernel
theorem dX1_lose_19 : decode cX1_lose 19 = .ok (.iastore, 1) := by decide +kernel
theorem dX1_lose_20 : decode cX1_lose 20 = .ok (.return_, 1) := by decide +kernel
theorem dX2_init_0 : decode cX2_init 0 = .ok (.aload_n 0, 1) := by decide +kernel
theorem dX2_init_1 : decode cX2_init 1 = .ok (.invokespecial 1, 3) := by decide +kernel
theorem dX2_init_4 : decode cX2_init 4 = .ok (.aload_n 0, 1) := by decide +kernel
theorem dX2_init_5 : decode cX2_init 5 = .ok (.iload_n 1, 1) := by decide +kernel
theorem dX2_init_6 : decode cX2_init 6 = .ok (.putfield 7, 3) := by decide +kernel
theorem dX2_init_9 : decode cX2_init 9 = .ok (.aload_n 0, 1) := by decide +kernel
theorem dX2_init_10 : decode cX2_init 10 = .ok (.iload_n 2, 1) := by decide +kernel
theorem dX2_init_11 : decode cX2_init 11 = .ok (.putfield 13, 3) := by decide +kernel
theorem dX2_init_14 : decode cX2_init 14 = .ok (.aload_n 0, 1) := by decide +kernel
theorem dX2_init_15 : decode cX2_init 15 = .ok (.iload_n 3, 1) := by decide +kernel
theorem dX2_init_16 : decode cX2_init 16 = .ok (.putfield 16, 3) := by decide +kernel
theorem dX2_init_19 : decode cX2_init 19 = .ok (.aload_n 0, 1) := by decide +kernel
theorem dX2_init_20 : decode cX2_init 20 = .ok (.iload 4, 2) := by decide +kernel
theorem dX2_init_22 : decode cX2_init 22 = .ok (.putfield 19, 3) := by decide +kernel
theorem dX2_init_25 : decode cX2_init 25 = .ok (.aload_n 0, 1) := by decide +kernel
theorem dX2_init_26 : decode cX2_init 26 = .ok (.aload 5, 2) := by decide +kernel
theorem dX2_init_28 : decode cX2_init 28 = .ok (.putfield 22, 3) := by decide +kernel
theorem dX2_init_31 : decode cX2_init 31 = .ok (.return_, 1) := by decide +kernel
theorem dX3_init_0 : decode cX3_init 0 = .ok (.aload_n 0, 1) := by decide +kernel
theorem dX3_init_1 : decode cX3_init 1 = .ok (.invokespecial 3, 3) := by decide +kernel
theorem dX3_init_4 : decode cX3_init 4 = .ok (.aload_n 0, 1) := by decide +kernel
theorem dX3_init_5 : decode cX3_init 5 = .ok (.invokestatic 9, 3) := by decide +kernel
theorem dX3_init_8 : decode cX3_init 8 = .ok (.putfield 13, 3) := by decide +kernel
theorem dX3_init_11 : decode cX3_init 11 = .ok (.aload_n 0, 1) := by decide +kernel
theorem dX3_init_12 : decode cX3_init 12 = .ok (.bipush 113, 2) := by decide +kernel
theorem dX3_init_14 : decode cX3_init 14 = .ok (.putfield 19, 3) := by decide +kernel
theorem dX3_init_17 : decode cX3_init 17 = .ok (.aload_n 0, 1) := by decide +kernel
theorem dX3_init_18 : decode cX3_init 18 = .ok (.iconst (-1), 1) := by decide +kernel
theorem dX3_init_19 : decode cX3_init 19 = .ok (.putfield 23, 3) := by decide +kernel
theorem dX3_init_22 : decode cX3_init 22 = .ok (.aload_n 0, 1) := by decide +kernel
theorem dX3_init_23 : decode cX3_init 23 = .ok (.iconst (-1), 1) := by decide +kernel
theorem dX3_init_24 : decode cX3_init 24 = .ok (.putfield 27, 3) := by decide +kernel
theorem dX3_init_27 : decode cX3_init 27 = .ok (.aload_n 0, 1) := by decide +kernel
theorem dX3_init_28 : decode cX3_init 28 = .ok (.iconst (-1), 1) := by decide +kernel
theorem dX3_init_29 : decode cX3_init 29 = .ok (.putfield 30, 3) := by decide +kernel
theorem dX3_init_32 : decode cX3_init 32 = .ok (.aload_n 0, 1) := by decide +kernel
theorem dX3_init_33 : decode cX3_init 33 = .ok (.iconst (-1), 1) := by decide +kernel
theorem dX3_init_34 : decode cX3_init 34 = .ok (.putfield 33, 3) := by decide +kernel
theorem dX3_init_37 : decode cX3_init 37 = .ok (.aload_n 0, 1) := by decide +kernel
theorem dX3_init_38 : decode cX3_init 38 = .ok (.iconst (-1), 1) := by decide +kernel
theorem dX3_init_39 : decode cX3_init 39 = .ok (.putfield 36, 3) := by decide +kernel
theorem dX3_init_42 : decode cX3_init 42 = .ok (.aload_n 0, 1) := by decide +kernel
theorem dX3_init_43 : decode cX3_init 43 = .ok (.iconst (-1), 1) := by decide +kernel
theorem dX3_init_44 : decode cX3_init 44 = .ok (.putfield 39, 3) := by decide +kernel
theorem dX3_init_47 : decode cX3_init 47 = .ok (.aload_n 0, 1) := by decide +kernel
theorem dX3_init_48 : decode cX3_init 48 = .ok (.iconst 0, 1) := by decide +kernel
theorem dX3_init_49 : decode cX3_init 49 = .ok (.putfield 42, 3) := by decide +kernel
theorem dX3_init_52 : decode cX3_init 52 = .ok (.aload_n 0, 1) := by decide +kernel
theorem dX3_init_53 : decode cX3_init 53 = .ok (.iconst 0, 1) := by decide +kernel
theorem dX3_init_54 : decode cX3_init 54 = .ok (.putfield 45, 3) := by decide +kernel
theorem dX3_init_57 : decode cX3_init 57 = .ok (.aload_n 0, 1) := by decide +kernel
theorem dX3_init_58 : decode cX3_init 58 = .ok (.iconst 0, 1) := by decide +kernel
theorem dX3_init_59 : decode cX3_init 59 = .ok (.putfield 48, 3) := by decide +kernel
theorem dX3_init_62 : decode cX3_init 62 = .ok (.aload_n 0, 1) := by decide +kernel
theorem dX3_init_63 : decode cX3_init 63 = .ok (.iconst (-1), 1) := by decide +kernel
theorem dX3_init_64 : decode cX3_init 64 = .ok (.putfield 52, 3) := by decide +kernel
theorem dX3_init_67 : decode cX3_init 67 = .ok (.aload_n 0, 1) := by decide +kernel
theorem dX3_init_68 : decode cX3_init 68 = .ok (.aload_n 1, 1) := by decide +kernel
theorem dX3_init_69 : decode cX3_init 69 = .ok (.putfield 55, 3) := by decide +kernel
