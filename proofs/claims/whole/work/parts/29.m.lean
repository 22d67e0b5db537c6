theorem dX11_setTime_0 : decode cX11_setTime 0 = .ok (.aload_n 0, 1) := by decide +kernel
theorem dX11_setTime_1 : decode cX11_setTime 1 = .ok (.iload_n 1, 1) := by decide +kernel
theorem dX11_setTime_2 : decode cX11_setTime 2 = .ok (.iconst 0, 1) := by decide +kernel
theorem dX11_setTime_3 : decode cX11_setTime 3 = .ok (.bipush 15, 2) := by decide +kernel
theorem dX11_setTime_5 : decode cX11_setTime 5 = .ok (.invokestatic 129, 3) := by decide +kernel
theorem dX11_setTime_8 : decode cX11_setTime 8 = .ok (.ifCond .eq 17, 3) := by decide +kernel
theorem dX11_setTime_11 : decode cX11_setTime 11 = .ok (.iload_n 2, 1) := by decide +kernel
theorem dX11_setTime_12 : decode cX11_setTime 12 = .ok (.iconst 1, 1) := by decide +kernel
theorem dX11_setTime_13 : decode cX11_setTime 13 = .ok (.bipush 30, 2) := by decide +kernel
theorem dX11_setTime_15 : decode cX11_setTime 15 = .ok (.invokestatic 129, 3) := by decide +kernel
theorem dX11_setTime_18 : decode cX11_setTime 18 = .ok (.ifCond .eq 7, 3) := by decide +kernel
theorem dX11_setTime_21 : decode cX11_setTime 21 = .ok (.iconst 0, 1) := by decide +kernel
theorem dX11_setTime_22 : decode cX11_setTime 22 = .ok (.goto 4, 3) := by decide +kernel
theorem dX11_setTime_25 : decode cX11_setTime 25 = .ok (.iconst 1, 1) := by decide +kernel
theorem dX11_setTime_26 : decode cX11_setTime 26 = .ok (.putfield 123, 3) := by decide +kernel
theorem dX11_setTime_29 : decode cX11_setTime 29 = .ok (.aload_n 0, 1) := by decide +kernel
theorem dX11_setTime_30 : decode cX11_setTime 30 = .ok (.getfield 123, 3) := by decide +kernel
theorem dX11_setTime_33 : decode cX11_setTime 33 = .ok (.ifCond .le 5, 3) := by decide +kernel
theorem dX11_setTime_36 : decode cX11_setTime 36 = .ok (.iconst 0, 1) := by decide +kernel
theorem dX11_setTime_37 : decode cX11_setTime 37 = .ok (.ireturn, 1) := by decide +kernel
theorem dX11_setTime_38 : decode cX11_setTime 38 = .ok (.aload_n 0, 1) := by decide +kernel
theorem dX11_setTime_39 : decode cX11_setTime 39 = .ok (.getfield 50, 3) := by decide +kernel
theorem dX11_setTime_42 : decode cX11_setTime 42 = .ok (.iload_n 1, 1) := by decide +kernel
theorem dX11_setTime_43 : decode cX11_setTime 43 = .ok (.iaload, 1) := by decide +kernel
theorem dX11_setTime_44 : decode cX11_setTime 44 = .ok (.istore_n 3, 1) := by decide +kernel
theorem dX11_setTime_45 : decode cX11_setTime 45 = .ok (.aload_n 0, 1) := by decide +kernel
theorem dX11_setTime_46 : decode cX11_setTime 46 = .ok (.getfield 50, 3) := by decide +kernel
theorem dX11_setTime_49 : decode cX11_setTime 49 = .ok (.iload_n 1, 1) := by decide +kernel
theorem dX11_setTime_50 : decode cX11_setTime 50 = .ok (.iload_n 2, 1) := by decide +kernel
theorem dX11_setTime_51 : decode cX11_setTime 51 = .ok (.iastore, 1) := by decide +kernel
theorem dX11_setTime_52 : decode cX11_setTime 52 = .ok (.iload_n 3, 1) := by decide +kernel
theorem dX11_setTime_53 : decode cX11_setTime 53 = .ok (.ireturn, 1) := by decide +kernel
theorem dX11_interrupt_0 : decode cX11_interrupt 0 = .ok (.aload_n 0, 1) := by decide +kernel
theorem dX11_interrupt_1 : decode cX11_interrupt 1 = .ok (.iconst 0, 1) := by decide +kernel
theorem dX11_interrupt_2 : decode cX11_interrupt 2 = .ok (.putfield 123, 3) := by decide +kernel
theorem dX11_interrupt_5 : decode cX11_interrupt 5 = .ok (.aload_n 0, 1) := by decide +kernel
theorem dX11_interrupt_6 : decode cX11_interrupt 6 = .ok (.getfield 143, 3) := by decide +kernel
theorem dX11_interrupt_9 : decode cX11_interrupt 9 = .ok (.istore_n 1, 1) := by decide +kernel
theorem dX11_interrupt_10 : decode cX11_interrupt 10 = .ok (.aload_n 0, 1) := by decide +kernel
theorem dX11_interrupt_11 : decode cX11_interrupt 11 = .ok (.iconst 1, 1) := by decide +kernel
theorem dX11_interrupt_12 : decode cX11_interrupt 12 = .ok (.putfield 143, 3) := by decide +kernel
theorem dX11_interrupt_15 : decode cX11_interrupt 15 = .ok (.iload_n 1, 1) := by decide +kernel
theorem dX11_interrupt_16 : decode cX11_interrupt 16 = .ok (.ireturn, 1) := by decide +kernel
theorem dX11_answers_0 : decode cX11_answers 0 = .ok (.iconst 0, 1) := by decide +kernel
theorem dX11_answers_1 : decode cX11_answers 1 = .ok (.istore_n 1, 1) := by decide +kernel
theorem dX11_answers_2 : decode cX11_answers 2 = .ok (.iload_n 1, 1) := by decide +kernel
theorem dX11_answers_3 : decode cX11_answers 3 = .ok (.aload_n 0, 1) := by decide +kernel
theorem dX11_answers_4 : decode cX11_answers 4 = .ok (.getfield 222, 3) := by decide +kernel
theorem dX11_answers_7 : decode cX11_answers 7 = .ok (.if_icmp .ge 164, 3) := by decide +kernel
theorem dX11_answers_10 : decode cX11_answers 10 = .ok (.aload_n 0, 1) := by decide +kernel
theorem dX11_answers_11 : decode cX11_answers 11 = .ok (.getfield 98, 3) := by decide +kernel
theorem dX11_answers_14 : decode cX11_answers 14 = .ok (.iload_n 1, 1) := by decide +kernel
theorem dX11_answers_15 : decode cX11_answers 15 = .ok (.iaload, 1) := by decide +kernel
theorem dX11_answers_16 : decode cX11_answers 16 = .ok (.aload_n 0, 1) := by decide +kernel
theorem dX11_answers_17 : decode cX11_answers 17 = .ok (.getfield 133, 3) := by decide +kernel
theorem dX11_answers_20 : decode cX11_answers 20 = .ok (.if_icmp .ne 145, 3) := by decide +kernel
theorem dX11_answers_23 : decode cX11_answers 23 = .ok (.aload_n 0, 1) := by decide +kernel
theorem dX11_answers_24 : decode cX11_answers 24 = .ok (.getfield 95, 3) := by decide +kernel
theorem dX11_answers_27 : decode cX11_answers 27 = .ok (.iload_n 1, 1) := by decide +kernel
theorem dX11_answers_28 : decode cX11_answers 28 = .ok (.iaload, 1) := by decide +kernel
theorem dX11_answers_29 : decode cX11_answers 29 = .ok (.istore_n 2, 1) := by decide +kernel
theorem dX11_answers_30 : decode cX11_answers 30 = .ok (.aload_n 0, 1) := by decide +kernel
theorem dX11_answers_31 : decode cX11_answers 31 = .ok (.getfield 92, 3) := by decide +kernel
theorem dX11_answers_34 : decode cX11_answers 34 = .ok (.iload_n 2, 1) := by decide +kernel
theorem dX11_answers_35 : decode cX11_answers 35 = .ok (.iconst 4, 1) := by decide +kernel
theorem dX11_answers_36 : decode cX11_answers 36 = .ok (.irem, 1) := by decide +kernel
theorem dX11_answers_37 : decode cX11_answers 37 = .ok (.iload_n 2, 1) := by decide +kernel
theorem dX11_answers_38 : decode cX11_answers 38 = .ok (.iastore, 1) := by decide +kernel
theorem dX11_answers_39 : decode cX11_answers 39 = .ok (.aload_n 0, 1) := by decide +kernel
theorem dX11_answers_40 : decode cX11_answers 40 = .ok (.dup, 1) := by decide +kernel
theorem dX11_answers_41 : decode cX11_answers 41 = .ok (.getfield 222, 3) := by decide +kernel
theorem dX11_answers_44 : decode cX11_answers 44 = .ok (.iconst 1, 1) := by decide +kernel
theorem dX11_answers_45 : decode cX11_answers 45 = .ok (.isub, 1) := by decide +kernel
theorem dX11_answers_46 : decode cX11_answers 46 = .ok (.putfield 222, 3) := by decide +kernel
theorem dX11_answers_49 : decode cX11_answers 49 = .ok (.iload_n 1, 1) := by decide +kernel
theorem dX11_answers_50 : decode cX11_answers 50 = .ok (.istore_n 3, 1) := by decide +kernel
theorem dX11_answers_51 : decode cX11_answers 51 = .ok (.iload_n 3, 1) := by decide +kernel
theorem dX11_answers_52 : decode cX11_answers 52 = .ok (.aload_n 0, 1) := by decide +kernel
theorem dX11_answers_53 : decode cX11_answers 53 = .ok (.getfield 222, 3) := by decide +kernel
theorem dX11_answers_56 : decode cX11_answers 56 = .ok (.if_icmp .ge 37, 3) := by decide +kernel
theorem dX11_answers_59 : decode cX11_answers 59 = .ok (.aload_n 0, 1) := by decide +kernel
theorem dX11_answers_60 : decode cX11_answers 60 = .ok (.getfield 95, 3) := by decide +kernel
theorem dX11_answers_63 : decode cX11_answers 63 = .ok (.iload_n 3, 1) := by decide +kernel
theorem dX11_answers_64 : decode cX11_answers 64 = .ok (.aload_n 0, 1) := by decide +kernel
theorem dX11_answers_65 : decode cX11_answers 65 = .ok (.getfield 95, 3) := by decide +kernel
theorem dX11_answers_68 : decode cX11_answers 68 = .ok (.iload_n 3, 1) := by decide +kernel
theorem dX11_answers_69 : decode cX11_answers 69 = .ok (.iconst 1, 1) := by decide +kernel
theorem dX11_answers_70 : decode cX11_answers 70 = .ok (.iadd, 1) := by decide +kernel
theorem dX11_answers_71 : decode cX11_answers 71 = .ok (.iaload, 1) := by decide +kernel
theorem dX11_answers_72 : decode cX11_answers 72 = .ok (.iastore, 1) := by decide +kernel
theorem dX11_answers_73 : decode cX11_answers 73 = .ok (.aload_n 0, 1) := by decide +kernel
theorem dX11_answers_74 : decode cX11_answers 74 = .ok (.getfield 98, 3) := by decide +kernel
theorem dX11_answers_77 : decode cX11_answers 77 = .ok (.iload_n 3, 1) := by decide +kernel
theorem dX11_answers_78 : decode cX11_answers 78 = .ok (.aload_n 0, 1) := by decide +kernel
theorem dX11_answers_79 : decode cX11_answers 79 = .ok (.getfield 98, 3) := by decide +kernel
theorem dX11_answers_82 : decode cX11_answers 82 = .ok (.iload_n 3, 1) := by decide +kernel
theorem dX11_answers_83 : decode cX11_answers 83 = .ok (.iconst 1, 1) := by decide +kernel
theorem dX11_answers_84 : decode cX11_answers 84 = .ok (.iadd, 1) := by decide +kernel
theorem dX11_answers_85 : decode cX11_answers 85 = .ok (.iaload, 1) := by decide +kernel
theorem dX11_answers_86 : decode cX11_answers 86 = .ok (.iastore, 1) := by decide +kernel
theorem dX11_answers_87 : decode cX11_answers 87 = .ok (.iinc 3 1, 3) := by decide +kernel
theorem dX11_answers_90 : decode cX11_answers 90 = .ok (.goto (-39), 3) := by decide +kernel
theorem dX11_answers_93 : decode cX11_answers 93 = .ok (.iinc 1 (-1), 3) := by decide +kernel
theorem dX11_answers_96 : decode cX11_answers 96 = .ok (.iconst 0, 1) := by decide +kernel
theorem dX11_answers_97 : decode cX11_answers 97 = .ok (.istore_n 3, 1) := by decide +kernel
theorem dX11_answers_98 : decode cX11_answers 98 = .ok (.iload_n 3, 1) := by decide +kernel
theorem dX11_answers_99 : decode cX11_answers 99 = .ok (.aload_n 0, 1) := by decide +kernel
theorem dX11_answers_100 : decode cX11_answers 100 = .ok (.getfield 198, 3) := by decide +kernel
theorem dX11_answers_103 : decode cX11_answers 103 = .ok (.if_icmp .ge 62, 3) := by decide +kernel
theorem dX11_answers_106 : decode cX11_answers 106 = .ok (.aload_n 0, 1) := by decide +kernel
theorem dX11_answers_107 : decode cX11_answers 107 = .ok (.getfield 74, 3) := by decide +kernel
theorem dX11_answers_110 : decode cX11_answers 110 = .ok (.iload_n 3, 1) := by decide +kernel
theorem dX11_answers_111 : decode cX11_answers 111 = .ok (.aaload, 1) := by decide +kernel
theorem dX11_answers_112 : decode cX11_answers 112 = .ok (.bipush 11, 2) := by decide +kernel
theorem dX11_answers_114 : decode cX11_answers 114 = .ok (.iaload, 1) := by decide +kernel
theorem dX11_answers_115 : decode cX11_answers 115 = .ok (.bipush 109, 2) := by decide +kernel
theorem dX11_answers_117 : decode cX11_answers 117 = .ok (.if_icmp .ne 42, 3) := by decide +kernel
theorem dX11_answers_120 : decode cX11_answers 120 = .ok (.aload_n 0, 1) := by decide +kernel
theorem dX11_answers_121 : decode cX11_answers 121 = .ok (.getfield 74, 3) := by decide +kernel
theorem dX11_answers_124 : decode cX11_answers 124 = .ok (.iload_n 3, 1) := by decide +kernel
theorem dX11_answers_125 : decode cX11_answers 125 = .ok (.aaload, 1) := by decide +kernel
theorem dX11_answers_126 : decode cX11_answers 126 = .ok (.bipush 14, 2) := by decide +kernel
theorem dX11_answers_128 : decode cX11_answers 128 = .ok (.iaload, 1) := by decide +kernel
theorem dX11_answers_129 : decode cX11_answers 129 = .ok (.iconst 4, 1) := by decide +kernel
theorem dX11_answers_130 : decode cX11_answers 130 = .ok (.idiv, 1) := by decide +kernel
theorem dX11_answers_131 : decode cX11_answers 131 = .ok (.iload_n 2, 1) := by decide +kernel
theorem dX11_answers_132 : decode cX11_answers 132 = .ok (.if_icmp .ne 27, 3) := by decide +kernel
theorem dX11_answers_135 : decode cX11_answers 135 = .ok (.aload_n 0, 1) := by decide +kernel
theorem dX11_answers_136 : decode cX11_answers 136 = .ok (.getfield 74, 3) := by decide +kernel
theorem dX11_answers_139 : decode cX11_answers 139 = .ok (.iload_n 3, 1) := by decide +kernel
theorem dX11_answers_140 : decode cX11_answers 140 = .ok (.aaload, 1) := by decide +kernel
theorem dX11_answers_141 : decode cX11_answers 141 = .ok (.bipush 11, 2) := by decide +kernel
theorem dX11_answers_143 : decode cX11_answers 143 = .ok (.bipush 120, 2) := by decide +kernel
theorem dX11_answers_145 : decode cX11_answers 145 = .ok (.iastore, 1) := by decide +kernel
theorem dX11_answers_146 : decode cX11_answers 146 = .ok (.aload_n 0, 1) := by decide +kernel
theorem dX11_answers_147 : decode cX11_answers 147 = .ok (.getfield 74, 3) := by decide +kernel
theorem dX11_answers_150 : decode cX11_answers 150 = .ok (.iload_n 3, 1) := by decide +kernel
theorem dX11_answers_151 : decode cX11_answers 151 = .ok (.aaload, 1) := by decide +kernel
theorem dX11_answers_152 : decode cX11_answers 152 = .ok (.bipush 12, 2) := by decide +kernel
theorem dX11_answers_154 : decode cX11_answers 154 = .ok (.aload_n 0, 1) := by decide +kernel
theorem dX11_answers_155 : decode cX11_answers 155 = .ok (.getfield 133, 3) := by decide +kernel
theorem dX11_answers_158 : decode cX11_answers 158 = .ok (.iastore, 1) := by decide +kernel
theorem dX11_answers_159 : decode cX11_answers 159 = .ok (.iinc 3 1, 3) := by decide +kernel
theorem dX11_answers_162 : decode cX11_answers 162 = .ok (.goto (-64), 3) := by decide +kernel
theorem dX11_answers_165 : decode cX11_answers 165 = .ok (.iinc 1 1, 3) := by decide +kernel
theorem dX11_answers_168 : decode cX11_answers 168 = .ok (.goto (-166), 3) := by decide +kernel
theorem dX11_answers_171 : decode cX11_answers 171 = .ok (.return_, 1) := by decide +kernel
theorem dX11_codeOf_0 : decode cX11_codeOf 0 = .ok (.aload_n 0, 1) := by decide +kernel
theorem dX11_codeOf_1 : decode cX11_codeOf 1 = .ok (.getfield 9, 3) := by decide +kernel
theorem dX11_codeOf_4 : decode cX11_codeOf 4 = .ok (.aload_n 1, 1) := by decide +kernel
theorem dX11_codeOf_5 : decode cX11_codeOf 5 = .ok (.iconst 0, 1) := by decide +kernel
theorem dX11_codeOf_6 : decode cX11_codeOf 6 = .ok (.iaload, 1) := by decide +kernel
theorem dX11_codeOf_7 : decode cX11_codeOf 7 = .ok (.iaload, 1) := by decide +kernel
theorem dX11_codeOf_8 : decode cX11_codeOf 8 = .ok (.ireturn, 1) := by decide +kernel
theorem dX11_hasD_0 : decode cX11_hasD 0 = .ok (.iload_n 0, 1) := by decide +kernel
theorem dX11_hasD_1 : decode cX11_hasD 1 = .ok (.iconst 1, 1) := by decide +kernel
theorem dX11_hasD_2 : decode cX11_hasD 2 = .ok (.bipush 9, 2) := by decide +kernel
theorem dX11_hasD_4 : decode cX11_hasD 4 = .ok (.invokestatic 129, 3) := by decide +kernel
theorem dX11_hasD_7 : decode cX11_hasD 7 = .ok (.ifCond .ne 9, 3) := by decide +kernel
theorem dX11_hasD_10 : decode cX11_hasD 10 = .ok (.iload_n 0, 1) := by decide +kernel
theorem dX11_hasD_11 : decode cX11_hasD 11 = .ok (.bipush 15, 2) := by decide +kernel
theorem dX11_hasD_13 : decode cX11_hasD 13 = .ok (.if_icmp .ne 7, 3) := by decide +kernel
theorem dX11_hasD_16 : decode cX11_hasD 16 = .ok (.iconst 1, 1) := by decide +kernel
theorem dX11_hasD_17 : decode cX11_hasD 17 = .ok (.goto 4, 3) := by decide +kernel
theorem dX11_hasD_20 : decode cX11_hasD 20 = .ok (.iconst 0, 1) := by decide +kernel
theorem dX11_hasD_21 : decode cX11_hasD 21 = .ok (.ireturn, 1) := by decide +kernel
theorem dX11_result_0 : decode cX11_result 0 = .ok (.aload_n 0, 1) := by decide +kernel
theorem dX11_result_1 : decode cX11_result 1 = .ok (.getfield 62, 3) := by decide +kernel
theorem dX11_result_4 : decode cX11_result 4 = .ok (.aload_n 1, 1) := by decide +kernel
theorem dX11_result_5 : decode cX11_result 5 = .ok (.bipush 7, 2) := by decide +kernel
theorem dX11_result_7 : decode cX11_result 7 = .ok (.iaload, 1) := by decide +kernel
theorem dX11_result_8 : decode cX11_result 8 = .ok (.iaload, 1) := by decide +kernel
theorem dX11_result_9 : decode cX11_result 9 = .ok (.istore_n 2, 1) := by decide +kernel
theorem dX11_result_10 : decode cX11_result 10 = .ok (.aload_n 0, 1) := by decide +kernel
theorem dX11_result_11 : decode cX11_result 11 = .ok (.getfield 62, 3) := by decide +kernel
theorem dX11_result_14 : decode cX11_result 14 = .ok (.aload_n 1, 1) := by decide +kernel
theorem dX11_result_15 : decode cX11_result 15 = .ok (.bipush 8, 2) := by decide +kernel
theorem dX11_result_17 : decode cX11_result 17 = .ok (.iaload, 1) := by decide +kernel
theorem dX11_result_18 : decode cX11_result 18 = .ok (.iaload, 1) := by decide +kernel
theorem dX11_result_19 : decode cX11_result 19 = .ok (.istore_n 3, 1) := by decide +kernel
theorem dX11_result_20 : decode cX11_result 20 = .ok (.aload_n 0, 1) := by decide +kernel
theorem dX11_result_21 : decode cX11_result 21 = .ok (.aload_n 1, 1) := by decide +kernel
theorem dX11_result_22 : decode cX11_result 22 = .ok (.invokevirtual 201, 3) := by decide +kernel
theorem dX11_result_25 : decode cX11_result 25 = .ok (.tableswitch 99 1 8 #[47, 56, 60, 64, 68, 80, 84, 88], 47) := by decide +kernel
theorem dX11_result_72 : decode cX11_result 72 = .ok (.aload_n 0, 1) := by decide +kernel
theorem dX11_result_73 : decode cX11_result 73 = .ok (.getfield 22, 3) := by decide +kernel
theorem dX11_result_76 : decode cX11_result 76 = .ok (.aload_n 1, 1) := by decide +kernel
theorem dX11_result_77 : decode cX11_result 77 = .ok (.iconst 0, 1) := by decide +kernel
theorem dX11_result_78 : decode cX11_result 78 = .ok (.iaload, 1) := by decide +kernel
theorem dX11_result_79 : decode cX11_result 79 = .ok (.iaload, 1) := by decide +kernel
theorem dX11_result_80 : decode cX11_result 80 = .ok (.ireturn, 1) := by decide +kernel
theorem dX11_result_81 : decode cX11_result 81 = .ok (.iload_n 2, 1) := by decide +kernel
theorem dX11_result_82 : decode cX11_result 82 = .ok (.iload_n 3, 1) := by decide +kernel
theorem dX11_result_83 : decode cX11_result 83 = .ok (.iadd, 1) := by decide +kernel
theorem dX11_result_84 : decode cX11_result 84 = .ok (.ireturn, 1) := by decide +kernel
theorem dX11_result_85 : decode cX11_result 85 = .ok (.iload_n 2, 1) := by decide +kernel
theorem dX11_result_86 : decode cX11_result 86 = .ok (.iload_n 3, 1) := by decide +kernel
theorem dX11_result_87 : decode cX11_result 87 = .ok (.isub, 1) := by decide +kernel
theorem dX11_result_88 : decode cX11_result 88 = .ok (.ireturn, 1) := by decide +kernel
theorem dX11_result_89 : decode cX11_result 89 = .ok (.iload_n 2, 1) := by decide +kernel
theorem dX11_result_90 : decode cX11_result 90 = .ok (.iload_n 3, 1) := by decide +kernel
theorem dX11_result_91 : decode cX11_result 91 = .ok (.imul, 1) := by decide +kernel
theorem dX11_result_92 : decode cX11_result 92 = .ok (.ireturn, 1) := by decide +kernel
theorem dX11_result_93 : decode cX11_result 93 = .ok (.iload_n 3, 1) := by decide +kernel
theorem dX11_result_94 : decode cX11_result 94 = .ok (.ifCond .ne 7, 3) := by decide +kernel
theorem dX11_result_97 : decode cX11_result 97 = .ok (.iconst 0, 1) := by decide +kernel
theorem dX11_result_98 : decode cX11_result 98 = .ok (.goto 6, 3) := by decide +kernel
theorem dX11_result_101 : decode cX11_result 101 = .ok (.iload_n 2, 1) := by decide +kernel
theorem dX11_result_102 : decode cX11_result 102 = .ok (.iload_n 3, 1) := by decide +kernel
theorem dX11_result_103 : decode cX11_result 103 = .ok (.idiv, 1) := by decide +kernel
theorem dX11_result_104 : decode cX11_result 104 = .ok (.ireturn, 1) := by decide +kernel
theorem dX11_result_105 : decode cX11_result 105 = .ok (.iload_n 2, 1) := by decide +kernel
theorem dX11_result_106 : decode cX11_result 106 = .ok (.iload_n 3, 1) := by decide +kernel
theorem dX11_result_107 : decode cX11_result 107 = .ok (.iand, 1) := by decide +kernel
theorem dX11_result_108 : decode cX11_result 108 = .ok (.ireturn, 1) := by decide +kernel
theorem dX11_result_109 : decode cX11_result 109 = .ok (.iload_n 2, 1) := by decide +kernel
theorem dX11_result_110 : decode cX11_result 110 = .ok (.iload_n 3, 1) := by decide +kernel
theorem dX11_result_111 : decode cX11_result 111 = .ok (.ixor, 1) := by decide +kernel
theorem dX11_result_112 : decode cX11_result 112 = .ok (.ireturn, 1) := by decide +kernel
theorem dX11_result_113 : decode cX11_result 113 = .ok (.iload_n 2, 1) := by decide +kernel
theorem dX11_result_114 : decode cX11_result 114 = .ok (.iload_n 3, 1) := by decide +kernel
theorem dX11_result_115 : decode cX11_result 115 = .ok (.if_icmp .ge 7, 3) := by decide +kernel
theorem dX11_result_118 : decode cX11_result 118 = .ok (.iconst 1, 1) := by decide +kernel
theorem dX11_result_119 : decode cX11_result 119 = .ok (.goto 4, 3) := by decide +kernel
theorem dX11_result_122 : decode cX11_result 122 = .ok (.iconst 0, 1) := by decide +kernel
theorem dX11_result_123 : decode cX11_result 123 = .ok (.ireturn, 1) := by decide +kernel
theorem dX11_result_124 : decode cX11_result 124 = .ok (.aload_n 1, 1) := by decide +kernel
theorem dX11_result_125 : decode cX11_result 125 = .ok (.bipush 13, 2) := by decide +kernel
theorem dX11_result_127 : decode cX11_result 127 = .ok (.iaload, 1) := by decide +kernel
theorem dX11_result_128 : decode cX11_result 128 = .ok (.ifCond .le 7, 3) := by decide +kernel
theorem dX11_result_131 : decode cX11_result 131 = .ok (.iconst 0, 1) := by decide +kernel
theorem dX11_result_132 : decode cX11_result 132 = .ok (.goto 27, 3) := by decide +kernel
theorem dX11_result_135 : decode cX11_result 135 = .ok (.aload_n 1, 1) := by decide +kernel
theorem dX11_result_136 : decode cX11_result 136 = .ok (.bipush 16, 2) := by decide +kernel
theorem dX11_result_138 : decode cX11_result 138 = .ok (.iaload, 1) := by decide +kernel
theorem dX11_result_139 : decode cX11_result 139 = .ok (.iconst (-1), 1) := by decide +kernel
theorem dX11_result_140 : decode cX11_result 140 = .ok (.if_icmp .eq 10, 3) := by decide +kernel
theorem dX11_result_143 : decode cX11_result 143 = .ok (.aload_n 1, 1) := by decide +kernel
theorem dX11_result_144 : decode cX11_result 144 = .ok (.bipush 15, 2) := by decide +kernel
theorem dX11_result_146 : decode cX11_result 146 = .ok (.iaload, 1) := by decide +kernel
theorem dX11_result_147 : decode cX11_result 147 = .ok (.goto 12, 3) := by decide +kernel
theorem dX11_result_150 : decode cX11_result 150 = .ok (.aload_n 0, 1) := by decide +kernel
theorem dX11_result_151 : decode cX11_result 151 = .ok (.getfield 53, 3) := by decide +kernel
theorem dX11_result_154 : decode cX11_result 154 = .ok (.aload_n 1, 1) := by decide +kernel
theorem dX11_result_155 : decode cX11_result 155 = .ok (.bipush 14, 2) := by decide +kernel
theorem dX11_result_157 : decode cX11_result 157 = .ok (.iaload, 1) := by decide +kernel
theorem dX11_result_158 : decode cX11_result 158 = .ok (.iaload, 1) := by decide +kernel
theorem dX11_result_159 : decode cX11_result 159 = .ok (.ireturn, 1) := by decide +kernel
theorem dX11_isStore_0 : decode cX11_isStore 0 = .ok (.iload_n 0, 1) := by decide +kernel
theorem dX11_isStore_1 : decode cX11_isStore 1 = .ok (.bipush 10, 2) := by decide +kernel
theorem dX11_isStore_3 : decode cX11_isStore 3 = .ok (.if_icmp .eq 9, 3) := by decide +kernel
theorem dX11_isStore_6 : decode cX11_isStore 6 = .ok (.iload_n 0, 1) := by decide +kernel
theorem dX11_isStore_7 : decode cX11_isStore 7 = .ok (.bipush 11, 2) := by decide +kernel
theorem dX11_isStore_9 : decode cX11_isStore 9 = .ok (.if_icmp .ne 7, 3) := by decide +kernel
theorem dX11_isStore_12 : decode cX11_isStore 12 = .ok (.iconst 1, 1) := by decide +kernel
theorem dX11_isStore_13 : decode cX11_isStore 13 = .ok (.goto 4, 3) := by decide +kernel
theorem dX11_isStore_16 : decode cX11_isStore 16 = .ok (.iconst 0, 1) := by decide +kernel
theorem dX11_isStore_17 : decode cX11_isStore 17 = .ok (.ireturn, 1) := by decide +kernel
theorem dX11_isAddress_0 : decode cX11_isAddress 0 = .ok (.iload_n 0, 1) := by decide +kernel
theorem dX11_isAddress_1 : decode cX11_isAddress 1 = .ok (.iconst 0, 1) := by decide +kernel
theorem dX11_isAddress_2 : decode cX11_isAddress 2 = .ok (.bipush 63, 2) := by decide +kernel
theorem dX11_isAddress_4 : decode cX11_isAddress 4 = .ok (.invokestatic 129, 3) := by decide +kernel
theorem dX11_isAddress_7 : decode cX11_isAddress 7 = .ok (.ireturn, 1) := by decide +kernel
theorem dX11_wrongLoad_0 : decode cX11_wrongLoad 0 = .ok (.aload_n 0, 1) := by decide +kernel
theorem dX11_wrongLoad_1 : decode cX11_wrongLoad 1 = .ok (.getfield 74, 3) := by decide +kernel
theorem dX11_wrongLoad_4 : decode cX11_wrongLoad 4 = .ok (.iload_n 1, 1) := by decide +kernel
theorem dX11_wrongLoad_5 : decode cX11_wrongLoad 5 = .ok (.aaload, 1) := by decide +kernel
theorem dX11_wrongLoad_6 : decode cX11_wrongLoad 6 = .ok (.astore_n 2, 1) := by decide +kernel
theorem dX11_wrongLoad_7 : decode cX11_wrongLoad 7 = .ok (.iload_n 1, 1) := by decide +kernel
theorem dX11_wrongLoad_8 : decode cX11_wrongLoad 8 = .ok (.iconst 1, 1) := by decide +kernel
theorem dX11_wrongLoad_9 : decode cX11_wrongLoad 9 = .ok (.iadd, 1) := by decide +kernel
theorem dX11_wrongLoad_10 : decode cX11_wrongLoad 10 = .ok (.istore_n 3, 1) := by decide +kernel
theorem dX11_wrongLoad_11 : decode cX11_wrongLoad 11 = .ok (.iload_n 3, 1) := by decide +kernel
theorem dX11_wrongLoad_12 : decode cX11_wrongLoad 12 = .ok (.aload_n 0, 1) := by decide +kernel
theorem dX11_wrongLoad_13 : decode cX11_wrongLoad 13 = .ok (.getfield 198, 3) := by decide +kernel
theorem dX11_wrongLoad_16 : decode cX11_wrongLoad 16 = .ok (.if_icmp .ge 91, 3) := by decide +kernel
theorem dX11_wrongLoad_19 : decode cX11_wrongLoad 19 = .ok (.aload_n 2, 1) := by decide +kernel
theorem dX11_wrongLoad_20 : decode cX11_wrongLoad 20 = .ok (.bipush 13, 2) := by decide +kernel
theorem dX11_wrongLoad_22 : decode cX11_wrongLoad 22 = .ok (.iaload, 1) := by decide +kernel
theorem dX11_wrongLoad_23 : decode cX11_wrongLoad 23 = .ok (.ifCond .ne 84, 3) := by decide +kernel
theorem dX11_wrongLoad_26 : decode cX11_wrongLoad 26 = .ok (.aload_n 0, 1) := by decide +kernel
theorem dX11_wrongLoad_27 : decode cX11_wrongLoad 27 = .ok (.getfield 74, 3) := by decide +kernel
theorem dX11_wrongLoad_30 : decode cX11_wrongLoad 30 = .ok (.iload_n 3, 1) := by decide +kernel
theorem dX11_wrongLoad_31 : decode cX11_wrongLoad 31 = .ok (.aaload, 1) := by decide +kernel
theorem dX11_wrongLoad_32 : decode cX11_wrongLoad 32 = .ok (.astore 4, 2) := by decide +kernel
theorem dX11_wrongLoad_34 : decode cX11_wrongLoad 34 = .ok (.aload_n 0, 1) := by decide +kernel
theorem dX11_wrongLoad_35 : decode cX11_wrongLoad 35 = .ok (.aload 4, 2) := by decide +kernel
theorem dX11_wrongLoad_37 : decode cX11_wrongLoad 37 = .ok (.invokevirtual 201, 3) := by decide +kernel
theorem dX11_wrongLoad_40 : decode cX11_wrongLoad 40 = .ok (.bipush 9, 2) := by decide +kernel
theorem dX11_wrongLoad_42 : decode cX11_wrongLoad 42 = .ok (.if_icmp .ne 37, 3) := by decide +kernel
theorem dX11_wrongLoad_45 : decode cX11_wrongLoad 45 = .ok (.aload 4, 2) := by decide +kernel
theorem dX11_wrongLoad_47 : decode cX11_wrongLoad 47 = .ok (.bipush 11, 2) := by decide +kernel
theorem dX11_wrongLoad_49 : decode cX11_wrongLoad 49 = .ok (.iaload, 1) := by decide +kernel
theorem dX11_wrongLoad_50 : decode cX11_wrongLoad 50 = .ok (.bipush 113, 2) := by decide +kernel
theorem dX11_wrongLoad_52 : decode cX11_wrongLoad 52 = .ok (.if_icmp .eq 27, 3) := by decide +kernel
theorem dX11_wrongLoad_55 : decode cX11_wrongLoad 55 = .ok (.aload 4, 2) := by decide +kernel
theorem dX11_wrongLoad_57 : decode cX11_wrongLoad 57 = .ok (.bipush 13, 2) := by decide +kernel
theorem dX11_wrongLoad_59 : decode cX11_wrongLoad 59 = .ok (.iaload, 1) := by decide +kernel
theorem dX11_wrongLoad_60 : decode cX11_wrongLoad 60 = .ok (.ifCond .ne 19, 3) := by decide +kernel
theorem dX11_wrongLoad_63 : decode cX11_wrongLoad 63 = .ok (.aload 4, 2) := by decide +kernel
theorem dX11_wrongLoad_65 : decode cX11_wrongLoad 65 = .ok (.bipush 14, 2) := by decide +kernel
theorem dX11_wrongLoad_67 : decode cX11_wrongLoad 67 = .ok (.iaload, 1) := by decide +kernel
theorem dX11_wrongLoad_68 : decode cX11_wrongLoad 68 = .ok (.aload_n 2, 1) := by decide +kernel
theorem dX11_wrongLoad_69 : decode cX11_wrongLoad 69 = .ok (.bipush 14, 2) := by decide +kernel
theorem dX11_wrongLoad_71 : decode cX11_wrongLoad 71 = .ok (.iaload, 1) := by decide +kernel
theorem dX11_wrongLoad_72 : decode cX11_wrongLoad 72 = .ok (.if_icmp .ne 7, 3) := by decide +kernel
theorem dX11_wrongLoad_75 : decode cX11_wrongLoad 75 = .ok (.iconst 1, 1) := by decide +kernel
theorem dX11_wrongLoad_76 : decode cX11_wrongLoad 76 = .ok (.goto 4, 3) := by decide +kernel
theorem dX11_wrongLoad_79 : decode cX11_wrongLoad 79 = .ok (.iconst 0, 1) := by decide +kernel
theorem dX11_wrongLoad_80 : decode cX11_wrongLoad 80 = .ok (.istore 5, 2) := by decide +kernel
theorem dX11_wrongLoad_82 : decode cX11_wrongLoad 82 = .ok (.iload 5, 2) := by decide +kernel
theorem dX11_wrongLoad_84 : decode cX11_wrongLoad 84 = .ok (.ifCond .eq 17, 3) := by decide +kernel
theorem dX11_wrongLoad_87 : decode cX11_wrongLoad 87 = .ok (.aload 4, 2) := by decide +kernel
theorem dX11_wrongLoad_89 : decode cX11_wrongLoad 89 = .ok (.bipush 16, 2) := by decide +kernel
theorem dX11_wrongLoad_91 : decode cX11_wrongLoad 91 = .ok (.iaload, 1) := by decide +kernel
theorem dX11_wrongLoad_92 : decode cX11_wrongLoad 92 = .ok (.aload_n 2, 1) := by decide +kernel
theorem dX11_wrongLoad_93 : decode cX11_wrongLoad 93 = .ok (.bipush 17, 2) := by decide +kernel
theorem dX11_wrongLoad_95 : decode cX11_wrongLoad 95 = .ok (.iaload, 1) := by decide +kernel
theorem dX11_wrongLoad_96 : decode cX11_wrongLoad 96 = .ok (.if_icmp .gt 5, 3) := by decide +kernel
theorem dX11_wrongLoad_99 : decode cX11_wrongLoad 99 = .ok (.iload_n 3, 1) := by decide +kernel
theorem dX11_wrongLoad_100 : decode cX11_wrongLoad 100 = .ok (.ireturn, 1) := by decide +kernel
theorem dX11_wrongLoad_101 : decode cX11_wrongLoad 101 = .ok (.iinc 3 1, 3) := by decide +kernel
theorem dX11_wrongLoad_104 : decode cX11_wrongLoad 104 = .ok (.goto (-93), 3) := by decide +kernel
theorem dX11_wrongLoad_107 : decode cX11_wrongLoad 107 = .ok (.iconst (-1), 1) := by decide +kernel
theorem dX11_wrongLoad_108 : decode cX11_wrongLoad 108 = .ok (.ireturn, 1) := by decide +kernel
theorem dX11_stackAs_0 : decode cX11_stackAs 0 = .ok (.iconst 0, 1) := by decide +kernel
theorem dX11_stackAs_1 : decode cX11_stackAs 1 = .ok (.istore_n 3, 1) := by decide +kernel
theorem dX11_stackAs_2 : decode cX11_stackAs 2 = .ok (.iload_n 3, 1) := by decide +kernel
theorem dX11_stackAs_3 : decode cX11_stackAs 3 = .ok (.iconst 4, 1) := by decide +kernel
theorem dX11_stackAs_4 : decode cX11_stackAs 4 = .ok (.if_icmp .gt 20, 3) := by decide +kernel
theorem dX11_stackAs_7 : decode cX11_stackAs 7 = .ok (.aload_n 0, 1) := by decide +kernel
theorem dX11_stackAs_8 : decode cX11_stackAs 8 = .ok (.getfield 80, 3) := by decide +kernel
theorem dX11_stackAs_11 : decode cX11_stackAs 11 = .ok (.iload_n 3, 1) := by decide +kernel
theorem dX11_stackAs_12 : decode cX11_stackAs 12 = .ok (.aload_n 1, 1) := by decide +kernel
theorem dX11_stackAs_13 : decode cX11_stackAs 13 = .ok (.iload_n 2, 1) := by decide +kernel
theorem dX11_stackAs_14 : decode cX11_stackAs 14 = .ok (.iload_n 3, 1) := by decide +kernel
theorem dX11_stackAs_15 : decode cX11_stackAs 15 = .ok (.iadd, 1) := by decide +kernel
theorem dX11_stackAs_16 : decode cX11_stackAs 16 = .ok (.iaload, 1) := by decide +kernel
theorem dX11_stackAs_17 : decode cX11_stackAs 17 = .ok (.iastore, 1) := by decide +kernel
theorem dX11_stackAs_18 : decode cX11_stackAs 18 = .ok (.iinc 3 1, 3) := by decide +kernel
theorem dX11_stackAs_21 : decode cX11_stackAs 21 = .ok (.goto (-19), 3) := by decide +kernel
theorem dX11_stackAs_24 : decode cX11_stackAs 24 = .ok (.return_, 1) := by decide +kernel
theorem dX11_goesOn_0 : decode cX11_goesOn 0 = .ok (.aload_n 0, 1) := by decide +kernel
theorem dX11_goesOn_1 : decode cX11_goesOn 1 = .ok (.iload_n 1, 1) := by decide +kernel
theorem dX11_goesOn_2 : decode cX11_goesOn 2 = .ok (.putfield 180, 3) := by decide +kernel
theorem dX11_goesOn_5 : decode cX11_goesOn 5 = .ok (.aload_n 0, 1) := by decide +kernel
theorem dX11_goesOn_6 : decode cX11_goesOn 6 = .ok (.iconst 0, 1) := by decide +kernel
theorem dX11_goesOn_7 : decode cX11_goesOn 7 = .ok (.putfield 174, 3) := by decide +kernel
theorem dX11_goesOn_10 : decode cX11_goesOn 10 = .ok (.aload_n 0, 1) := by decide +kernel
theorem dX11_goesOn_11 : decode cX11_goesOn 11 = .ok (.iconst 0, 1) := by decide +kernel
theorem dX11_goesOn_12 : decode cX11_goesOn 12 = .ok (.putfield 177, 3) := by decide +kernel
theorem dX11_goesOn_15 : decode cX11_goesOn 15 = .ok (.return_, 1) := by decide +kernel
theorem dX11_throwsFrom_0 : decode cX11_throwsFrom 0 = .ok (.aload_n 0, 1) := by decide +kernel
theorem dX11_throwsFrom_1 : decode cX11_throwsFrom 1 = .ok (.getfield 198, 3) := by decide +kernel
theorem dX11_throwsFrom_4 : decode cX11_throwsFrom 4 = .ok (.iconst 1, 1) := by decide +kernel
theorem dX11_throwsFrom_5 : decode cX11_throwsFrom 5 = .ok (.isub, 1) := by decide +kernel
theorem dX11_throwsFrom_6 : decode cX11_throwsFrom 6 = .ok (.istore_n 2, 1) := by decide +kernel
theorem dX11_throwsFrom_7 : decode cX11_throwsFrom 7 = .ok (.iload_n 2, 1) := by decide +kernel
theorem dX11_throwsFrom_8 : decode cX11_throwsFrom 8 = .ok (.iload_n 1, 1) := by decide +kernel
theorem dX11_throwsFrom_9 : decode cX11_throwsFrom 9 = .ok (.if_icmp .lt 77, 3) := by decide +kernel
theorem dX11_throwsFrom_12 : decode cX11_throwsFrom 12 = .ok (.aload_n 0, 1) := by decide +kernel
theorem dX11_throwsFrom_13 : decode cX11_throwsFrom 13 = .ok (.getfield 74, 3) := by decide +kernel
theorem dX11_throwsFrom_16 : decode cX11_throwsFrom 16 = .ok (.iload_n 2, 1) := by decide +kernel
theorem dX11_throwsFrom_17 : decode cX11_throwsFrom 17 = .ok (.aaload, 1) := by decide +kernel
theorem dX11_throwsFrom_18 : decode cX11_throwsFrom 18 = .ok (.astore_n 3, 1) := by decide +kernel
theorem dX11_throwsFrom_19 : decode cX11_throwsFrom 19 = .ok (.aload_n 0, 1) := by decide +kernel
theorem dX11_throwsFrom_20 : decode cX11_throwsFrom 20 = .ok (.aload_n 3, 1) := by decide +kernel
theorem dX11_throwsFrom_21 : decode cX11_throwsFrom 21 = .ok (.invokevirtual 201, 3) := by decide +kernel
theorem dX11_throwsFrom_24 : decode cX11_throwsFrom 24 = .ok (.invokestatic 209, 3) := by decide +kernel
theorem dX11_throwsFrom_27 : decode cX11_throwsFrom 27 = .ok (.ifCond .eq 43, 3) := by decide +kernel
theorem dX11_throwsFrom_30 : decode cX11_throwsFrom 30 = .ok (.aload_n 0, 1) := by decide +kernel
theorem dX11_throwsFrom_31 : decode cX11_throwsFrom 31 = .ok (.getfield 56, 3) := by decide +kernel
theorem dX11_throwsFrom_34 : decode cX11_throwsFrom 34 = .ok (.aload_n 0, 1) := by decide +kernel
theorem dX11_throwsFrom_35 : decode cX11_throwsFrom 35 = .ok (.getfield 13, 3) := by decide +kernel
theorem dX11_throwsFrom_38 : decode cX11_throwsFrom 38 = .ok (.aload_n 3, 1) := by decide +kernel
theorem dX11_throwsFrom_39 : decode cX11_throwsFrom 39 = .ok (.iconst 0, 1) := by decide +kernel
theorem dX11_throwsFrom_40 : decode cX11_throwsFrom 40 = .ok (.iaload, 1) := by decide +kernel
theorem dX11_throwsFrom_41 : decode cX11_throwsFrom 41 = .ok (.iaload, 1) := by decide +kernel
theorem dX11_throwsFrom_42 : decode cX11_throwsFrom 42 = .ok (.aload_n 3, 1) := by decide +kernel
theorem dX11_throwsFrom_43 : decode cX11_throwsFrom 43 = .ok (.bipush 10, 2) := by decide +kernel
theorem dX11_throwsFrom_45 : decode cX11_throwsFrom 45 = .ok (.iaload, 1) := by decide +kernel
theorem dX11_throwsFrom_46 : decode cX11_throwsFrom 46 = .ok (.iastore, 1) := by decide +kernel
theorem dX11_throwsFrom_47 : decode cX11_throwsFrom 47 = .ok (.aload_n 0, 1) := by decide +kernel
theorem dX11_throwsFrom_48 : decode cX11_throwsFrom 48 = .ok (.getfield 69, 3) := by decide +kernel
theorem dX11_throwsFrom_51 : decode cX11_throwsFrom 51 = .ok (.aload_n 0, 1) := by decide +kernel
theorem dX11_throwsFrom_52 : decode cX11_throwsFrom 52 = .ok (.getfield 126, 3) := by decide +kernel
theorem dX11_throwsFrom_55 : decode cX11_throwsFrom 55 = .ok (.aload_n 3, 1) := by decide +kernel
theorem dX11_throwsFrom_56 : decode cX11_throwsFrom 56 = .ok (.bipush 9, 2) := by decide +kernel
theorem dX11_throwsFrom_58 : decode cX11_throwsFrom 58 = .ok (.iaload, 1) := by decide +kernel
theorem dX11_throwsFrom_59 : decode cX11_throwsFrom 59 = .ok (.iastore, 1) := by decide +kernel
theorem dX11_throwsFrom_60 : decode cX11_throwsFrom 60 = .ok (.aload_n 0, 1) := by decide +kernel
theorem dX11_throwsFrom_61 : decode cX11_throwsFrom 61 = .ok (.dup, 1) := by decide +kernel
theorem dX11_throwsFrom_62 : decode cX11_throwsFrom 62 = .ok (.getfield 126, 3) := by decide +kernel
theorem dX11_throwsFrom_65 : decode cX11_throwsFrom 65 = .ok (.iconst 1, 1) := by decide +kernel
theorem dX11_throwsFrom_66 : decode cX11_throwsFrom 66 = .ok (.iadd, 1) := by decide +kernel
theorem dX11_throwsFrom_67 : decode cX11_throwsFrom 67 = .ok (.putfield 126, 3) := by decide +kernel
theorem dX11_throwsFrom_70 : decode cX11_throwsFrom 70 = .ok (.aload_n 0, 1) := by decide +kernel
theorem dX11_throwsFrom_71 : decode cX11_throwsFrom 71 = .ok (.dup, 1) := by decide +kernel
theorem dX11_throwsFrom_72 : decode cX11_throwsFrom 72 = .ok (.getfield 253, 3) := by decide +kernel
theorem dX11_throwsFrom_75 : decode cX11_throwsFrom 75 = .ok (.iconst 1, 1) := by decide +kernel
theorem dX11_throwsFrom_76 : decode cX11_throwsFrom 76 = .ok (.iadd, 1) := by decide +kernel
theorem dX11_throwsFrom_77 : decode cX11_throwsFrom 77 = .ok (.putfield 253, 3) := by decide +kernel
theorem dX11_throwsFrom_80 : decode cX11_throwsFrom 80 = .ok (.iinc 2 (-1), 3) := by decide +kernel
theorem dX11_throwsFrom_83 : decode cX11_throwsFrom 83 = .ok (.goto (-76), 3) := by decide +kernel
theorem dX11_throwsFrom_86 : decode cX11_throwsFrom 86 = .ok (.aload_n 0, 1) := by decide +kernel
theorem dX11_throwsFrom_87 : decode cX11_throwsFrom 87 = .ok (.aload_n 0, 1) := by decide +kernel
theorem dX11_throwsFrom_88 : decode cX11_throwsFrom 88 = .ok (.getfield 198, 3) := by decide +kernel
theorem dX11_throwsFrom_91 : decode cX11_throwsFrom 91 = .ok (.iload_n 1, 1) := by decide +kernel
theorem dX11_throwsFrom_92 : decode cX11_throwsFrom 92 = .ok (.invokestatic 256, 3) := by decide +kernel
theorem dX11_throwsFrom_95 : decode cX11_throwsFrom 95 = .ok (.putfield 198, 3) := by decide +kernel
theorem dX11_throwsFrom_98 : decode cX11_throwsFrom 98 = .ok (.return_, 1) := by decide +kernel
theorem dX11_finds_0 : decode cX11_finds 0 = .ok (.aload_n 0, 1) := by decide +kernel
theorem dX11_finds_1 : decode cX11_finds 1 = .ok (.getfield 62, 3) := by decide +kernel
theorem dX11_finds_4 : decode cX11_finds 4 = .ok (.aload_n 1, 1) := by decide +kernel
theorem dX11_finds_5 : decode cX11_finds 5 = .ok (.bipush 7, 2) := by decide +kernel
theorem dX11_finds_7 : decode cX11_finds 7 = .ok (.iaload, 1) := by decide +kernel
theorem dX11_finds_8 : decode cX11_finds 8 = .ok (.iaload, 1) := by decide +kernel
theorem dX11_finds_9 : decode cX11_finds 9 = .ok (.istore_n 3, 1) := by decide +kernel
theorem dX11_finds_10 : decode cX11_finds 10 = .ok (.aload_n 0, 1) := by decide +kernel
theorem dX11_finds_11 : decode cX11_finds 11 = .ok (.getfield 62, 3) := by decide +kernel
theorem dX11_finds_14 : decode cX11_finds 14 = .ok (.aload_n 1, 1) := by decide +kernel
theorem dX11_finds_15 : decode cX11_finds 15 = .ok (.bipush 8, 2) := by decide +kernel
theorem dX11_finds_17 : decode cX11_finds 17 = .ok (.iaload, 1) := by decide +kernel
theorem dX11_finds_18 : decode cX11_finds 18 = .ok (.iaload, 1) := by decide +kernel
theorem dX11_finds_19 : decode cX11_finds 19 = .ok (.istore 4, 2) := by decide +kernel
theorem dX11_finds_21 : decode cX11_finds 21 = .ok (.iload_n 2, 1) := by decide +kernel
theorem dX11_finds_22 : decode cX11_finds 22 = .ok (.bipush 12, 2) := by decide +kernel
theorem dX11_finds_24 : decode cX11_finds 24 = .ok (.if_icmp .ne 17, 3) := by decide +kernel
theorem dX11_finds_27 : decode cX11_finds 27 = .ok (.iload_n 3, 1) := by decide +kernel
theorem dX11_finds_28 : decode cX11_finds 28 = .ok (.iload 4, 2) := by decide +kernel
theorem dX11_finds_30 : decode cX11_finds 30 = .ok (.if_icmp .ne 7, 3) := by decide +kernel
theorem dX11_finds_33 : decode cX11_finds 33 = .ok (.iconst 1, 1) := by decide +kernel
theorem dX11_finds_34 : decode cX11_finds 34 = .ok (.goto 24, 3) := by decide +kernel
theorem dX11_finds_37 : decode cX11_finds 37 = .ok (.iconst 0, 1) := by decide +kernel
theorem dX11_finds_38 : decode cX11_finds 38 = .ok (.goto 20, 3) := by decide +kernel
theorem dX11_finds_41 : decode cX11_finds 41 = .ok (.iload_n 2, 1) := by decide +kernel
theorem dX11_finds_42 : decode cX11_finds 42 = .ok (.bipush 13, 2) := by decide +kernel
theorem dX11_finds_44 : decode cX11_finds 44 = .ok (.if_icmp .ne 13, 3) := by decide +kernel
theorem dX11_finds_47 : decode cX11_finds 47 = .ok (.iload_n 3, 1) := by decide +kernel
theorem dX11_finds_48 : decode cX11_finds 48 = .ok (.iload 4, 2) := by decide +kernel
theorem dX11_finds_50 : decode cX11_finds 50 = .ok (.if_icmp .ge 7, 3) := by decide +kernel
theorem dX11_finds_53 : decode cX11_finds 53 = .ok (.iconst 1, 1) := by decide +kernel
theorem dX11_finds_54 : decode cX11_finds 54 = .ok (.goto 4, 3) := by decide +kernel
theorem dX11_finds_57 : decode cX11_finds 57 = .ok (.iconst 0, 1) := by decide +kernel
theorem dX11_finds_58 : decode cX11_finds 58 = .ok (.istore 5, 2) := by decide +kernel
theorem dX11_finds_60 : decode cX11_finds 60 = .ok (.aload_n 1, 1) := by decide +kernel
theorem dX11_finds_61 : decode cX11_finds 61 = .ok (.bipush 6, 2) := by decide +kernel
theorem dX11_finds_63 : decode cX11_finds 63 = .ok (.iload 5, 2) := by decide +kernel
theorem dX11_finds_65 : decode cX11_finds 65 = .ok (.ifCond .eq 14, 3) := by decide +kernel
theorem dX11_finds_68 : decode cX11_finds 68 = .ok (.aload_n 0, 1) := by decide +kernel
theorem dX11_finds_69 : decode cX11_finds 69 = .ok (.getfield 22, 3) := by decide +kernel
theorem dX11_finds_72 : decode cX11_finds 72 = .ok (.aload_n 1, 1) := by decide +kernel
theorem dX11_finds_73 : decode cX11_finds 73 = .ok (.iconst 0, 1) := by decide +kernel
theorem dX11_finds_74 : decode cX11_finds 74 = .ok (.iaload, 1) := by decide +kernel
theorem dX11_finds_75 : decode cX11_finds 75 = .ok (.iaload, 1) := by decide +kernel
theorem dX11_finds_76 : decode cX11_finds 76 = .ok (.goto 8, 3) := by decide +kernel
theorem dX11_finds_79 : decode cX11_finds 79 = .ok (.aload_n 1, 1) := by decide +kernel
theorem dX11_finds_80 : decode cX11_finds 80 = .ok (.iconst 0, 1) := by decide +kernel
theorem dX11_finds_81 : decode cX11_finds 81 = .ok (.iaload, 1) := by decide +kernel
theorem dX11_finds_82 : decode cX11_finds 82 = .ok (.iconst 1, 1) := by decide +kernel
theorem dX11_finds_83 : decode cX11_finds 83 = .ok (.iadd, 1) := by decide +kernel
theorem dX11_finds_84 : decode cX11_finds 84 = .ok (.iastore, 1) := by decide +kernel
theorem dX11_finds_85 : decode cX11_finds 85 = .ok (.iload_n 2, 1) := by decide +kernel
theorem dX11_finds_86 : decode cX11_finds 86 = .ok (.bipush 16, 2) := by decide +kernel
theorem dX11_finds_88 : decode cX11_finds 88 = .ok (.if_icmp .eq 9, 3) := by decide +kernel
theorem dX11_finds_91 : decode cX11_finds 91 = .ok (.iload_n 2, 1) := by decide +kernel
theorem dX11_finds_92 : decode cX11_finds 92 = .ok (.bipush 17, 2) := by decide +kernel
theorem dX11_finds_94 : decode cX11_finds 94 = .ok (.if_icmp .ne 27, 3) := by decide +kernel
theorem dX11_finds_97 : decode cX11_finds 97 = .ok (.aload_n 1, 1) := by decide +kernel
theorem dX11_finds_98 : decode cX11_finds 98 = .ok (.bipush 6, 2) := by decide +kernel
theorem dX11_finds_100 : decode cX11_finds 100 = .ok (.iload_n 3, 1) := by decide +kernel
theorem dX11_finds_101 : decode cX11_finds 101 = .ok (.iastore, 1) := by decide +kernel
theorem dX11_finds_102 : decode cX11_finds 102 = .ok (.aload_n 1, 1) := by decide +kernel
theorem dX11_finds_103 : decode cX11_finds 103 = .ok (.bipush 13, 2) := by decide +kernel
theorem dX11_finds_105 : decode cX11_finds 105 = .ok (.iload_n 3, 1) := by decide +kernel
theorem dX11_finds_106 : decode cX11_finds 106 = .ok (.iconst 0, 1) := by decide +kernel
theorem dX11_finds_107 : decode cX11_finds 107 = .ok (.bipush 63, 2) := by decide +kernel
theorem dX11_finds_109 : decode cX11_finds 109 = .ok (.invokestatic 129, 3) := by decide +kernel
theorem dX11_finds_112 : decode cX11_finds 112 = .ok (.ifCond .eq 7, 3) := by decide +kernel
theorem dX11_finds_115 : decode cX11_finds 115 = .ok (.iconst 0, 1) := by decide +kernel
theorem dX11_finds_116 : decode cX11_finds 116 = .ok (.goto 4, 3) := by decide +kernel
theorem dX11_finds_119 : decode cX11_finds 119 = .ok (.iconst 3, 1) := by decide +kernel
theorem dX11_finds_120 : decode cX11_finds 120 = .ok (.iastore, 1) := by decide +kernel
theorem dX11_finds_121 : decode cX11_finds 121 = .ok (.return_, 1) := by decide +kernel
def mX11_setTime : MD := (cX11_setTime, RX11, yX11_setTime, 4, (some .int), 1, 22)
theorem mf_X11_setTime : MF mX11_setTime 2 := MF.of 1777 90 (by decide +kernel) (by decide +kernel) (by decide +kernel) (by decide +kernel) (by decide +kernel) rfl
def mX11_interrupt : MD := (cX11_interrupt, RX11, yX11_interrupt, 2, (some .boolean), 0, 0)
theorem mf_X11_interrupt : MF mX11_interrupt 0 := MF.of 1781 90 (by decide +kernel) (by decide +kernel) (by decide +kernel) (by decide +kernel) (by decide +kernel) rfl
def mX11_answers : MD := (cX11_answers, RX11, yX11_answers, 4, none, 0, 0)
theorem mf_X11_answers : MF mX11_answers 0 := MF.of 1793 90 (by decide +kernel) (by decide +kernel) (by decide +kernel) (by decide +kernel) (by decide +kernel) rfl
def mX11_codeOf : MD := (cX11_codeOf, RX11, yX11_codeOf, 2, (some .int), 0, 0)
theorem mf_X11_codeOf : MF mX11_codeOf 1 := MF.of 1805 90 (by decide +kernel) (by decide +kernel) (by decide +kernel) (by decide +kernel) (by decide +kernel) rfl
def mX11_hasD : MD := (cX11_hasD, RX11, yX11_hasD, 1, (some .boolean), 1, 22)
theorem mf_X11_hasD : MF mX11_hasD 1 := MF.of 1808 90 (by decide +kernel) (by decide +kernel) (by decide +kernel) (by decide +kernel) (by decide +kernel) rfl
def mX11_result : MD := (cX11_result, RX11, yX11_result, 4, (some .int), 1, 21)
theorem mf_X11_result : MF mX11_result 1 := MF.of 1812 90 (by decide +kernel) (by decide +kernel) (by decide +kernel) (by decide +kernel) (by decide +kernel) rfl
def mX11_isStore : MD := (cX11_isStore, RX11, yX11_isStore, 1, (some .boolean), 0, 0)
theorem mf_X11_isStore : MF mX11_isStore 1 := MF.of 1815 90 (by decide +kernel) (by decide +kernel) (by decide +kernel) (by decide +kernel) (by decide +kernel) rfl
def mX11_isAddress : MD := (cX11_isAddress, RX11, yX11_isAddress, 1, (some .boolean), 1, 22)
theorem mf_X11_isAddress : MF mX11_isAddress 1 := MF.of 1818 90 (by decide +kernel) (by decide +kernel) (by decide +kernel) (by decide +kernel) (by decide +kernel) rfl
def mX11_wrongLoad : MD := (cX11_wrongLoad, RX11, yX11_wrongLoad, 6, (some .int), 1, 21)
theorem mf_X11_wrongLoad : MF mX11_wrongLoad 1 := MF.of 1822 90 (by decide +kernel) (by decide +kernel) (by decide +kernel) (by decide +kernel) (by decide +kernel) rfl
def mX11_stackAs : MD := (cX11_stackAs, RX11, yX11_stackAs, 4, none, 0, 0)
theorem mf_X11_stackAs : MF mX11_stackAs 2 := MF.of 1826 90 (by decide +kernel) (by decide +kernel) (by decide +kernel) (by decide +kernel) (by decide +kernel) rfl
def mX11_goesOn : MD := (cX11_goesOn, RX11, yX11_goesOn, 2, none, 0, 0)
theorem mf_X11_goesOn : MF mX11_goesOn 1 := MF.of 1830 90 (by decide +kernel) (by decide +kernel) (by decide +kernel) (by decide +kernel) (by decide +kernel) rfl
def mX11_throwsFrom : MD := (cX11_throwsFrom, RX11, yX11_throwsFrom, 4, none, 2, 42)
theorem mf_X11_throwsFrom : MF mX11_throwsFrom 1 := MF.of 1834 90 (by decide +kernel) (by decide +kernel) (by decide +kernel) (by decide +kernel) (by decide +kernel) rfl
def mX11_finds : MD := (cX11_finds, RX11, yX11_finds, 6, none, 1, 22)
theorem mf_X11_finds : MF mX11_finds 2 := MF.of 1839 90 (by decide +kernel) (by decide +kernel) (by decide +kernel) (by decide +kernel) (by decide +kernel) rfl
theorem cs_X11_209 : CSs RX11 209 mX11_hasD := CSs.of 1806 1807 (by decide +kernel) (by decide +kernel)
theorem cs_X11_256 : CSs RX11 256 mJ9_min_7cf53 := CSs.of 1835 760 (by decide +kernel) (by decide +kernel)
theorem cv_X11_201 : CVs RX11 201 mX11_codeOf 12 := CVs.of 1802 1804 44 (by decide +kernel) (by decide +kernel) (by decide +kernel) _ rfl rfl
theorem fl_X11_143 : FL RX11 143 12 38 1 := FL.of _ rfl (by decide) 1585 (by decide +kernel) (by decide)
theorem fl_X11_174 : FL RX11 174 12 27 1 := FL.of _ rfl (by decide) 1574 (by decide +kernel) (by decide)
theorem fl_X11_177 : FL RX11 177 12 25 0 := FL.of _ rfl (by decide) 1572 (by decide +kernel) (by decide)
theorem fl_X11_180 : FL RX11 180 12 26 0 := FL.of _ rfl (by decide) 1573 (by decide +kernel) (by decide)
theorem fl_X11_198 : FL RX11 198 12 23 0 := FL.of _ rfl (by decide) 1570 (by decide +kernel) (by decide)
theorem fl_X11_222 : FL RX11 222 12 35 0 := FL.of _ rfl (by decide) 1582 (by decide +kernel) (by decide)
theorem fl_X11_253 : FL RX11 253 12 50 0 := FL.of _ rfl (by decide) 1597 (by decide +kernel) (by decide)
theorem fn_12_23 : FN 12 23 false := fun q h => by cases h; rfl
theorem fn_12_25 : FN 12 25 false := fun q h => by cases h; rfl
theorem fn_12_26 : FN 12 26 false := fun q h => by cases h; rfl
theorem fn_12_27 : FN 12 27 false := fun q h => by cases h; rfl
theorem fn_12_35 : FN 12 35 false := fun q h => by cases h; rfl
theorem fn_12_38 : FN 12 38 false := fun q h => by cases h; rfl
theorem fn_12_50 : FN 12 50 false := fun q h => by cases h; rfl
def f_X11_setTime_b26 (a0 : Nat) (x1 : Int32) (x2 : Int32) (s0 : Int32) (s1 : Nat) (μ : Mm) : Option (Int32 × Mm) :=
  ck (mK μ s1 = 112) <|
  zl (sI μ s1 54 s0) fun μ8 =>
  ck (mK μ8 a0 = 112) <|
  if (mI μ8 a0 54) ≤ 0 then
    bd (mR μ8 a0 14) fun p13 =>
    ck (isA 1 (mK μ8 p13)) <|
    ck (inb x1 (mL μ8 p13)) <|
    bd (mR μ8 a0 14) fun p17 =>
    ck (isA 1 (mK μ8 p17)) <|
    ck (inb x1 (mL μ8 p17)) <|
    zl (sI μ8 p17 (Int32.toNatClampNeg x1) x2) fun μ21 =>
    some (mI μ8 p13 (Int32.toNatClampNeg x1), μ21)
  else
    some (0, μ8)
def f_X11_setTime_b25 (a0 : Nat) (x1 : Int32) (x2 : Int32) (s0 : Nat) (μ : Mm) : Option (Int32 × Mm) :=
  f_X11_setTime_b26 a0 x1 x2 1 s0 μ
def f_X11_setTime (a0 : Nat) (x1 : Int32) (x2 : Int32) (μ : Mm) : Option (Int32 × Mm) :=
  bd (f_X11_in x1 0 15) fun y1 =>
  if y1 = 0 then
    f_X11_setTime_b25 a0 x1 x2 a0 μ
  else
    bd (f_X11_in x2 1 30) fun y4 =>
    if y4 = 0 then
      f_X11_setTime_b25 a0 x1 x2 a0 μ
    else
      f_X11_setTime_b26 a0 x1 x2 0 a0 μ
set_option maxRecDepth 100000 in
theorem s_X11_setTime_b26 {l : Launch} {G : Gt} (hG : Gok l G) (a0 : Nat) (x1 : Int32) (x2 : Int32) (s0 : Int32) (s1 : Nat) (μ : Mm) (r : Int32) (μ' : Mm) (h : f_X11_setTime_b26 a0 x1 x2 s0 s1 μ = some (r, μ')) : ZX l G mX11_setTime 26 [(0, .ref a0), (1, .int x1), (2, .int x2)] [.int s0, .ref s1] μ (.inl (some (.int r))) μ' := by
  unfold f_X11_setTime_b26 at h
  obtain ⟨h7, h⟩ := ck_e h
  refine zx_putI hG fl_X11_123 fn_12_54 h7 dX11_setTime_26 ?_
  obtain ⟨μ8, e10, h⟩ := zlm_e h
  refine zx_mem e10 ?_
  have e9 : mK μ8 = mK μ := (congrArg mK e10).trans rfl
  refine zx_aload_n dX11_setTime_29 rfl (q := 0) rfl ?_
  obtain ⟨h11, h⟩ := ck_e h
  refine zx_getI hG fl_X11_123 h11 dX11_setTime_30 ?_
  by_cases c12 : (mI μ8 a0 54) ≤ 0
  · have h := it_t c12 h
    refine zx_if_le_t (tgt := 38) dX11_setTime_33 (by decide) c12 ?_
    refine zx_aload_n dX11_setTime_38 rfl (q := 0) rfl ?_
    obtain ⟨p13, h14, h⟩ := bd_e h
    refine zx_getR hG fl_X11_50 h11 h14 dX11_setTime_39 ?_
    refine zx_iload_n dX11_setTime_42 rfl (q := 1) rfl ?_
    obtain ⟨h15, h⟩ := ck_e h
    obtain ⟨h16, h⟩ := ck_e h
    refine zx_iald hG rfl (h15).1 (h15).2 (inb_e h16) dX11_setTime_43 ?_
    refine zx_istore_n (L' := [(3, .int (mI μ8 p13 (Int32.toNatClampNeg x1))), (0, .ref a0), (1, .int x1), (2, .int x2)]) dX11_setTime_44 rfl (by decide) rfl ?_
    refine zx_aload_n dX11_setTime_45 rfl (q := 1) rfl ?_
    obtain ⟨p17, h18, h⟩ := bd_e h
    refine zx_getR hG fl_X11_50 h11 h18 dX11_setTime_46 ?_
    refine zx_iload_n dX11_setTime_49 rfl (q := 2) rfl ?_
    refine zx_iload_n dX11_setTime_50 rfl (q := 3) rfl ?_
    obtain ⟨h19, h⟩ := ck_e h
    obtain ⟨h20, h⟩ := ck_e h
    refine zx_iast hG rfl (h19).1 (h19).2 (inb_e h20) dX11_setTime_51 ?_
    obtain ⟨μ21, e23, h⟩ := zlm_e h
    refine zx_mem e23 ?_
    have e22 : mK μ21 = mK μ8 := (congrArg mK e23).trans rfl
    refine zx_iload_n dX11_setTime_52 rfl (q := 0) rfl ?_
    cases h
    exact zx_iret dX11_setTime_53 rfl
  · have h := it_f c12 h
    refine zx_if_le_f (tgt := 38) dX11_setTime_33 (by decide) c12 ?_
    refine zx_iconst (v := 0) dX11_setTime_36 iv_iconst_0 ?_
    cases h
    exact zx_iret dX11_setTime_37 rfl
set_option maxRecDepth 100000 in
theorem s_X11_setTime_b25 {l : Launch} {G : Gt} (hG : Gok l G) (a0 : Nat) (x1 : Int32) (x2 : Int32) (s0 : Nat) (μ : Mm) (r : Int32) (μ' : Mm) (h : f_X11_setTime_b25 a0 x1 x2 s0 μ = some (r, μ')) : ZX l G mX11_setTime 25 [(0, .ref a0), (1, .int x1), (2, .int x2)] [.ref s0] μ (.inl (some (.int r))) μ' := by
  unfold f_X11_setTime_b25 at h
  refine zx_iconst (v := 1) dX11_setTime_25 iv_iconst_1 ?_
  exact s_X11_setTime_b26 hG _ _ _ _ _ _ _ _ h
set_option maxRecDepth 100000 in
theorem s_X11_setTime {l : Launch} {G : Gt} (hG : Gok l G) (a0 : Nat) (x1 : Int32) (x2 : Int32) (μ : Mm) (r : Int32) (μ' : Mm) (h : f_X11_setTime a0 x1 x2 μ = some (r, μ')) : ZX l G mX11_setTime 0 [(0, .ref a0), (1, .int x1), (2, .int x2)] [] μ (.inl (some (.int r))) μ' := by
  unfold f_X11_setTime at h
  refine zx_aload_n dX11_setTime_0 rfl (q := 0) rfl ?_
  refine zx_iload_n dX11_setTime_1 rfl (q := 1) rfl ?_
  refine zx_iconst (v := 0) dX11_setTime_2 iv_iconst_0 ?_
  refine zx_bipush (v := 15) dX11_setTime_3 iv_bipush_15 ?_
  obtain ⟨y1, z2, h⟩ := bd_e h
  refine zx_callS (As := [.int x1, .int 0, .int 15]) hG mf_X11_in cs_X11_129 ⟨by decide, by decide⟩ rfl rfl (Nat.le_of_ble_eq_true rfl) (s_X11_in hG _ _ _ _ _ z2) (Nat.le_of_ble_eq_true rfl) dX11_setTime_5 ?_
  by_cases c3 : y1 = 0
  · have h := it_t c3 h
    refine zx_if_eq_t (tgt := 25) dX11_setTime_8 (by decide) c3 ?_
    exact s_X11_setTime_b25 hG _ _ _ _ _ _ _ h
  · have h := it_f c3 h
    refine zx_if_eq_f (tgt := 25) dX11_setTime_8 (by decide) c3 ?_
    refine zx_iload_n dX11_setTime_11 rfl (q := 2) rfl ?_
    refine zx_iconst (v := 1) dX11_setTime_12 iv_iconst_1 ?_
    refine zx_bipush (v := 30) dX11_setTime_13 iv_bipush_30 ?_
    obtain ⟨y4, z5, h⟩ := bd_e h
    refine zx_callS (As := [.int x2, .int 1, .int 30]) hG mf_X11_in cs_X11_129 ⟨by decide, by decide⟩ rfl rfl (Nat.le_of_ble_eq_true rfl) (s_X11_in hG _ _ _ _ _ z5) (Nat.le_of_ble_eq_true rfl) dX11_setTime_15 ?_
    by_cases c6 : y4 = 0
    · have h := it_t c6 h
      refine zx_if_eq_t (tgt := 25) dX11_setTime_18 (by decide) c6 ?_
      exact s_X11_setTime_b25 hG _ _ _ _ _ _ _ h
    · have h := it_f c6 h
      refine zx_if_eq_f (tgt := 25) dX11_setTime_18 (by decide) c6 ?_
      refine zx_iconst (v := 0) dX11_setTime_21 iv_iconst_0 ?_
      refine zx_goto (tgt := 26) dX11_setTime_22 (by decide) ?_
      exact s_X11_setTime_b26 hG _ _ _ _ _ _ _ _ h
def f_X11_interrupt (a0 : Nat) (μ : Mm) : Option (Int32 × Mm) :=
  ck (mK μ a0 = 112) <|
  zl (sI μ a0 54 0) fun μ2 =>
  zl (sI μ2 a0 38 1) fun μ5 =>
  ck (zb (zb (mI μ2 a0 38)) = (zb (mI μ2 a0 38))) <|
  some (zb (mI μ2 a0 38), μ5)
set_option maxRecDepth 100000 in
theorem s_X11_interrupt {l : Launch} {G : Gt} (hG : Gok l G) (a0 : Nat) (μ : Mm) (r : Int32) (μ' : Mm) (h : f_X11_interrupt a0 μ = some (r, μ')) : ZX l G mX11_interrupt 0 [(0, .ref a0)] [] μ (.inl (some (.int r))) μ' := by
  unfold f_X11_interrupt at h
  refine zx_aload_n dX11_interrupt_0 rfl (q := 0) rfl ?_
  refine zx_iconst (v := 0) dX11_interrupt_1 iv_iconst_0 ?_
  obtain ⟨h1, h⟩ := ck_e h
  refine zx_putI hG fl_X11_123 fn_12_54 h1 dX11_interrupt_2 ?_
  obtain ⟨μ2, e4, h⟩ := zlm_e h
  refine zx_mem e4 ?_
  have e3 : mK μ2 = mK μ := (congrArg mK e4).trans rfl
  refine zx_aload_n dX11_interrupt_5 rfl (q := 0) rfl ?_
  refine zx_getZ hG fl_X11_143 (kp_o (e3) h1) dX11_interrupt_6 ?_
  refine zx_istore_n (L' := [(1, .int (zb (mI μ2 a0 38))), (0, .ref a0)]) dX11_interrupt_9 rfl (by decide) rfl ?_
  refine zx_aload_n dX11_interrupt_10 rfl (q := 1) rfl ?_
  refine zx_iconst (v := 1) dX11_interrupt_11 iv_iconst_1 ?_
  refine zx_putZ hG fl_X11_143 fn_12_38 (kp_o (e3) h1) zb_1 dX11_interrupt_12 ?_
  obtain ⟨μ5, e7, h⟩ := zlm_e h
  refine zx_mem e7 ?_
  have e6 : mK μ5 = mK μ2 := (congrArg mK e7).trans rfl
  refine zx_iload_n dX11_interrupt_15 rfl (q := 0) rfl ?_
  obtain ⟨h8, h⟩ := ck_e h
  cases h
  exact zx_zretZ dX11_interrupt_16 rfl h8
def f_X11_answers_b159 (k2 : Nat → Int32 → Mm → Option (Unit × Mm)) (k98 : Nat → Int32 → Int32 → Int32 → Mm → Option (Unit × Mm)) (a0 : Nat) (x1 : Int32) (x2 : Int32) (x3 : Int32) (μ : Mm) : Option (Unit × Mm) :=
  k98 a0 x1 x2 (x3 + 1) μ
def f_X11_answers_b165 (k2 : Nat → Int32 → Mm → Option (Unit × Mm)) (a0 : Nat) (x1 : Int32) (μ : Mm) : Option (Unit × Mm) :=
  k2 a0 (x1 + 1) μ
def f_X11_answers_b98 (k2 : Nat → Int32 → Mm → Option (Unit × Mm)) : Nat → Nat → Int32 → Int32 → Int32 → Mm → Option (Unit × Mm)
  | 0, _, _, _, _, _ => none
  | n + 1, a0, x1, x2, x3, μ =>
  ck (mK μ a0 = 112) <|
  if (mI μ a0 23) ≤ x3 then
    f_X11_answers_b165 k2 a0 x1 μ
  else
    bd (mR μ a0 22) fun p49 =>
    ck (isA56 (mK μ p49)) <|
    ck (inb x3 (mL μ p49)) <|
    bd (mR μ p49 (Int32.toNatClampNeg x3)) fun p53 =>
    ck (isA 1 (mK μ p53)) <|
    ck (inb 11 (mL μ p53)) <|
    if ¬ (mI μ p53 (Int32.toNatClampNeg 11)) = 109 then
      f_X11_answers_b159 k2 (f_X11_answers_b98 k2 n) a0 x1 x2 x3 μ
    else
      bd (mR μ a0 22) fun p58 =>
      ck (isA56 (mK μ p58)) <|
      ck (inb x3 (mL μ p58)) <|
      bd (mR μ p58 (Int32.toNatClampNeg x3)) fun p62 =>
      ck (isA 1 (mK μ p62)) <|
      ck (inb 14 (mL μ p62)) <|
      ck (¬ (4 : Int32) = 0) <|
      if ¬ ((mI μ p62 (Int32.toNatClampNeg 14)) / 4) = x2 then
        f_X11_answers_b159 k2 (f_X11_answers_b98 k2 n) a0 x1 x2 x3 μ
      else
        bd (mR μ a0 22) fun p68 =>
        ck (isA56 (mK μ p68)) <|
        ck (inb x3 (mL μ p68)) <|
        bd (mR μ p68 (Int32.toNatClampNeg x3)) fun p72 =>
        ck (isA 1 (mK μ p72)) <|
        ck (inb 11 (mL μ p72)) <|
        zl (sI μ p72 (Int32.toNatClampNeg 11) 120) fun μ76 =>
        bd (mR μ76 a0 22) fun p79 =>
        ck (isA56 (mK μ76 p79)) <|
        ck (inb x3 (mL μ76 p79)) <|
        bd (mR μ76 p79 (Int32.toNatClampNeg x3)) fun p83 =>
        ck (isA 1 (mK μ76 p83)) <|
        ck (inb 12 (mL μ76 p83)) <|
        zl (sI μ76 p83 (Int32.toNatClampNeg 12) (mI μ76 a0 36)) fun μ87 =>
        f_X11_answers_b159 k2 (f_X11_answers_b98 k2 n) a0 x1 x2 x3 μ87
def f_X11_answers_b93 (k2 : Nat → Int32 → Mm → Option (Unit × Mm)) (a0 : Nat) (x1 : Int32) (x2 : Int32) (μ : Mm) : Option (Unit × Mm) :=
  f_X11_answers_b98 k2 5000 a0 (x1 + (-1)) x2 0 μ
def f_X11_answers_b51 (k2 : Nat → Int32 → Mm → Option (Unit × Mm)) : Nat → Nat → Int32 → Int32 → Int32 → Mm → Option (Unit × Mm)
  | 0, _, _, _, _, _ => none
  | n + 1, a0, x1, x2, x3, μ =>
  ck (mK μ a0 = 112) <|
  if (mI μ a0 35) ≤ x3 then
    f_X11_answers_b93 k2 a0 x1 x2 μ
  else
    bd (mR μ a0 33) fun p25 =>
    bd (mR μ a0 33) fun p27 =>
    ck (isA 1 (mK μ p27)) <|
    ck (inb (x3 + 1) (mL μ p27)) <|
    ck (isA 1 (mK μ p25)) <|
    ck (inb x3 (mL μ p25)) <|
    zl (sI μ p25 (Int32.toNatClampNeg x3) (mI μ p27 (Int32.toNatClampNeg (x3 + 1)))) fun μ33 =>
    bd (mR μ33 a0 34) fun p36 =>
    bd (mR μ33 a0 34) fun p38 =>
    ck (isA 1 (mK μ33 p38)) <|
    ck (inb (x3 + 1) (mL μ33 p38)) <|
    ck (isA 1 (mK μ33 p36)) <|
    ck (inb x3 (mL μ33 p36)) <|
    zl (sI μ33 p36 (Int32.toNatClampNeg x3) (mI μ33 p38 (Int32.toNatClampNeg (x3 + 1)))) fun μ44 =>
    f_X11_answers_b51 k2 n a0 x1 x2 (x3 + 1) μ44
def f_X11_answers_b2 : Nat → Nat → Int32 → Mm → Option (Unit × Mm)
  | 0, _, _, _ => none
  | n + 1, a0, x1, μ =>
  ck (mK μ a0 = 112) <|
  if (mI μ a0 35) ≤ x1 then
    some ((), μ)
  else
    bd (mR μ a0 34) fun p3 =>
    ck (isA 1 (mK μ p3)) <|
    ck (inb x1 (mL μ p3)) <|
    if ¬ (mI μ p3 (Int32.toNatClampNeg x1)) = (mI μ a0 36) then
      f_X11_answers_b165 (f_X11_answers_b2 n) a0 x1 μ
    else
      bd (mR μ a0 33) fun p8 =>
      ck (isA 1 (mK μ p8)) <|
      ck (inb x1 (mL μ p8)) <|
      bd (mR μ a0 32) fun p12 =>
      ck (¬ (4 : Int32) = 0) <|
      ck (isA 1 (mK μ p12)) <|
      ck (inb ((mI μ p8 (Int32.toNatClampNeg x1)) - (mI μ p8 (Int32.toNatClampNeg x1)) / 4 * 4) (mL μ p12)) <|
      zl (sI μ p12 (Int32.toNatClampNeg ((mI μ p8 (Int32.toNatClampNeg x1)) - (mI μ p8 (Int32.toNatClampNeg x1)) / 4 * 4)) (mI μ p8 (Int32.toNatClampNeg x1))) fun μ17 =>
      zl (sI μ17 a0 35 ((mI μ17 a0 35) - 1)) fun μ20 =>
      f_X11_answers_b51 (f_X11_answers_b2 n) 5000 a0 x1 (mI μ p8 (Int32.toNatClampNeg x1)) x1 μ20
def f_X11_answers (a0 : Nat) (μ : Mm) : Option (Unit × Mm) :=
  f_X11_answers_b2 5000 a0 0 μ
set_option maxRecDepth 100000 in
theorem s_X11_answers_b159 {l : Launch} {G : Gt} (hG : Gok l G) {k2 : Nat → Int32 → Mm → Option (Unit × Mm)} {k98 : Nat → Int32 → Int32 → Int32 → Mm → Option (Unit × Mm)} (hk2 : ∀ (a0 : Nat) (x1 : Int32) (μ : Mm) (r : Unit) (μ' : Mm), k2 a0 x1 μ = some (r, μ') → ZX l G mX11_answers 2 [(0, .ref a0), (1, .int x1)] [] μ (.inl none) μ') (hk98 : ∀ (a0 : Nat) (x1 : Int32) (x2 : Int32) (x3 : Int32) (μ : Mm) (r : Unit) (μ' : Mm), k98 a0 x1 x2 x3 μ = some (r, μ') → ZX l G mX11_answers 98 [(0, .ref a0), (1, .int x1), (2, .int x2), (3, .int x3)] [] μ (.inl none) μ') (a0 : Nat) (x1 : Int32) (x2 : Int32) (x3 : Int32) (μ : Mm) (r : Unit) (μ' : Mm) (h : f_X11_answers_b159 k2 k98 a0 x1 x2 x3 μ = some (r, μ')) : ZX l G mX11_answers 159 [(0, .ref a0), (1, .int x1), (2, .int x2), (3, .int x3)] [] μ (.inl none) μ' := by
  unfold f_X11_answers_b159 at h
  refine zx_iinc (q := 3) (v := x3 + 1) (L' := [(3, .int (x3 + 1)), (0, .ref a0), (1, .int x1), (2, .int x2)]) dX11_answers_159 rfl rfl (by decide) rfl ?_
  refine zx_goto (tgt := 98) dX11_answers_162 (by decide) ?_
  refine zx_sub (L' := [(0, .ref a0), (1, .int x1), (2, .int x2), (3, .int (x3 + 1))]) [1, 2, 3, 0] rfl ?_
  exact hk98 _ _ _ _ _ _ _ h
set_option maxRecDepth 100000 in
theorem s_X11_answers_b165 {l : Launch} {G : Gt} (hG : Gok l G) {k2 : Nat → Int32 → Mm → Option (Unit × Mm)} (hk2 : ∀ (a0 : Nat) (x1 : Int32) (μ : Mm) (r : Unit) (μ' : Mm), k2 a0 x1 μ = some (r, μ') → ZX l G mX11_answers 2 [(0, .ref a0), (1, .int x1)] [] μ (.inl none) μ') (a0 : Nat) (x1 : Int32) (μ : Mm) (r : Unit) (μ' : Mm) (h : f_X11_answers_b165 k2 a0 x1 μ = some (r, μ')) : ZX l G mX11_answers 165 [(0, .ref a0), (1, .int x1)] [] μ (.inl none) μ' := by
  unfold f_X11_answers_b165 at h
  refine zx_iinc (q := 1) (v := x1 + 1) (L' := [(1, .int (x1 + 1)), (0, .ref a0)]) dX11_answers_165 rfl rfl (by decide) rfl ?_
  refine zx_goto (tgt := 2) dX11_answers_168 (by decide) ?_
  refine zx_sub (L' := [(0, .ref a0), (1, .int (x1 + 1))]) [1, 0] rfl ?_
  exact hk2 _ _ _ _ _ h
set_option maxRecDepth 100000 in
theorem s_X11_answers_b98 {l : Launch} {G : Gt} (hG : Gok l G) {k2 : Nat → Int32 → Mm → Option (Unit × Mm)} (hk2 : ∀ (a0 : Nat) (x1 : Int32) (μ : Mm) (r : Unit) (μ' : Mm), k2 a0 x1 μ = some (r, μ') → ZX l G mX11_answers 2 [(0, .ref a0), (1, .int x1)] [] μ (.inl none) μ') : ∀ (n : Nat) (a0 : Nat) (x1 : Int32) (x2 : Int32) (x3 : Int32) (μ : Mm) (r : Unit) (μ' : Mm), f_X11_answers_b98 k2 n a0 x1 x2 x3 μ = some (r, μ') → ZX l G mX11_answers 98 [(0, .ref a0), (1, .int x1), (2, .int x2), (3, .int x3)] [] μ (.inl none) μ' := by
  intro n
  induction n with
  | zero =>
    intro a0 x1 x2 x3 μ r μ' h
    cases h
  | succ n ih =>
    intro a0 x1 x2 x3 μ r μ' h
    unfold f_X11_answers_b98 at h
    refine zx_iload_n dX11_answers_98 rfl (q := 3) rfl ?_
    refine zx_aload_n dX11_answers_99 rfl (q := 0) rfl ?_
    obtain ⟨h47, h⟩ := ck_e h
    refine zx_getI hG fl_X11_198 h47 dX11_answers_100 ?_
    by_cases c48 : (mI μ a0 23) ≤ x3
    · have h := it_t c48 h
      refine zx_icmp_ge_t (tgt := 165) dX11_answers_103 (by decide) c48 ?_
      refine zx_sub (L' := [(0, .ref a0), (1, .int x1)]) [0, 1] rfl ?_
      exact s_X11_answers_b165 hG hk2 _ _ _ _ _ h
    · have h := it_f c48 h
      refine zx_icmp_ge_f (tgt := 165) dX11_answers_103 (by decide) c48 ?_
      refine zx_aload_n dX11_answers_106 rfl (q := 0) rfl ?_
      obtain ⟨p49, h50, h⟩ := bd_e h
      refine zx_getR hG fl_X11_74 h47 h50 dX11_answers_107 ?_
      refine zx_iload_n dX11_answers_110 rfl (q := 3) rfl ?_
      obtain ⟨h51, h⟩ := ck_e h
      obtain ⟨h52, h⟩ := ck_e h
      obtain ⟨p53, h54, h⟩ := bd_e h
      refine zx_aald hG rfl (h51).1 (h51).2 (inb_e h52) h54 dX11_answers_111 ?_
      refine zx_bipush (v := 11) dX11_answers_112 iv_bipush_11 ?_
      obtain ⟨h55, h⟩ := ck_e h
      obtain ⟨h56, h⟩ := ck_e h
      refine zx_iald hG rfl (h55).1 (h55).2 (inb_e h56) dX11_answers_114 ?_
      refine zx_bipush (v := 109) dX11_answers_115 iv_bipush_109 ?_
      by_cases c57 : ¬ (mI μ p53 (Int32.toNatClampNeg 11)) = 109
      · have h := it_t c57 h
        refine zx_icmp_ne_t (tgt := 159) dX11_answers_117 (by decide) c57 ?_
        exact s_X11_answers_b159 hG hk2 ih _ _ _ _ _ _ _ h
      · have h := it_f c57 h
        refine zx_icmp_ne_f (tgt := 159) dX11_answers_117 (by decide) (Classical.not_not.mp c57) ?_
        refine zx_aload_n dX11_answers_120 rfl (q := 0) rfl ?_
        obtain ⟨p58, h59, h⟩ := bd_e h
        refine zx_getR hG fl_X11_74 h47 h59 dX11_answers_121 ?_
        refine zx_iload_n dX11_answers_124 rfl (q := 3) rfl ?_
        obtain ⟨h60, h⟩ := ck_e h
        obtain ⟨h61, h⟩ := ck_e h
        obtain ⟨p62, h63, h⟩ := bd_e h
        refine zx_aald hG rfl (h60).1 (h60).2 (inb_e h61) h63 dX11_answers_125 ?_
        refine zx_bipush (v := 14) dX11_answers_126 iv_bipush_14 ?_
        obtain ⟨h64, h⟩ := ck_e h
        obtain ⟨h65, h⟩ := ck_e h
        refine zx_iald hG rfl (h64).1 (h64).2 (inb_e h65) dX11_answers_128 ?_
        refine zx_iconst (v := 4) dX11_answers_129 iv_iconst_4 ?_
        obtain ⟨h66, h⟩ := ck_e h
        refine zx_idiv dX11_answers_130 h66 ?_
        refine zx_iload_n dX11_answers_131 rfl (q := 2) rfl ?_
        by_cases c67 : ¬ ((mI μ p62 (Int32.toNatClampNeg 14)) / 4) = x2
        · have h := it_t c67 h
          refine zx_icmp_ne_t (tgt := 159) dX11_answers_132 (by decide) c67 ?_
          exact s_X11_answers_b159 hG hk2 ih _ _ _ _ _ _ _ h
        · have h := it_f c67 h
          refine zx_icmp_ne_f (tgt := 159) dX11_answers_132 (by decide) (Classical.not_not.mp c67) ?_
          refine zx_aload_n dX11_answers_135 rfl (q := 0) rfl ?_
          obtain ⟨p68, h69, h⟩ := bd_e h
          refine zx_getR hG fl_X11_74 h47 h69 dX11_answers_136 ?_
          refine zx_iload_n dX11_answers_139 rfl (q := 3) rfl ?_
          obtain ⟨h70, h⟩ := ck_e h
          obtain ⟨h71, h⟩ := ck_e h
          obtain ⟨p72, h73, h⟩ := bd_e h
          refine zx_aald hG rfl (h70).1 (h70).2 (inb_e h71) h73 dX11_answers_140 ?_
          refine zx_bipush (v := 11) dX11_answers_141 iv_bipush_11 ?_
          refine zx_bipush (v := 120) dX11_answers_143 iv_bipush_120 ?_
          obtain ⟨h74, h⟩ := ck_e h
          obtain ⟨h75, h⟩ := ck_e h
          refine zx_iast hG rfl (h74).1 (h74).2 (inb_e h75) dX11_answers_145 ?_
          obtain ⟨μ76, e78, h⟩ := zlm_e h
          refine zx_mem e78 ?_
          have e77 : mK μ76 = mK μ := (congrArg mK e78).trans rfl
          refine zx_aload_n dX11_answers_146 rfl (q := 0) rfl ?_
          obtain ⟨p79, h80, h⟩ := bd_e h
          refine zx_getR hG fl_X11_74 (kp_o (e77) h47) h80 dX11_answers_147 ?_
          refine zx_iload_n dX11_answers_150 rfl (q := 3) rfl ?_
          obtain ⟨h81, h⟩ := ck_e h
          obtain ⟨h82, h⟩ := ck_e h
          obtain ⟨p83, h84, h⟩ := bd_e h
          refine zx_aald hG rfl (h81).1 (h81).2 (inb_e h82) h84 dX11_answers_151 ?_
          refine zx_bipush (v := 12) dX11_answers_152 iv_bipush_12 ?_
          refine zx_aload_n dX11_answers_154 rfl (q := 0) rfl ?_
          refine zx_getI hG fl_X11_133 (kp_o (e77) h47) dX11_answers_155 ?_
          obtain ⟨h85, h⟩ := ck_e h
          obtain ⟨h86, h⟩ := ck_e h
          refine zx_iast hG rfl (h85).1 (h85).2 (inb_e h86) dX11_answers_158 ?_
          obtain ⟨μ87, e89, h⟩ := zlm_e h
          refine zx_mem e89 ?_
          have e88 : mK μ87 = mK μ76 := (congrArg mK e89).trans rfl
          exact s_X11_answers_b159 hG hk2 ih _ _ _ _ _ _ _ h
set_option maxRecDepth 100000 in
theorem s_X11_answers_b93 {l : Launch} {G : Gt} (hG : Gok l G) {k2 : Nat → Int32 → Mm → Option (Unit × Mm)} (hk2 : ∀ (a0 : Nat) (x1 : Int32) (μ : Mm) (r : Unit) (μ' : Mm), k2 a0 x1 μ = some (r, μ') → ZX l G mX11_answers 2 [(0, .ref a0), (1, .int x1)] [] μ (.inl none) μ') (a0 : Nat) (x1 : Int32) (x2 : Int32) (μ : Mm) (r : Unit) (μ' : Mm) (h : f_X11_answers_b93 k2 a0 x1 x2 μ = some (r, μ')) : ZX l G mX11_answers 93 [(0, .ref a0), (1, .int x1), (2, .int x2)] [] μ (.inl none) μ' := by
  unfold f_X11_answers_b93 at h
  refine zx_iinc (q := 1) (v := x1 + (-1)) (L' := [(1, .int (x1 + (-1))), (0, .ref a0), (2, .int x2)]) dX11_answers_93 rfl rfl (by decide) rfl ?_
  refine zx_iconst (v := 0) dX11_answers_96 iv_iconst_0 ?_
  refine zx_istore_n (L' := [(3, .int 0), (1, .int (x1 + (-1))), (0, .ref a0), (2, .int x2)]) dX11_answers_97 rfl (by decide) rfl ?_
  refine zx_sub (L' := [(0, .ref a0), (1, .int (x1 + (-1))), (2, .int x2), (3, .int 0)]) [2, 1, 3, 0] rfl ?_
  exact s_X11_answers_b98 hG hk2 5000 _ _ _ _ _ _ _ h
set_option maxRecDepth 100000 in
theorem s_X11_answers_b51 {l : Launch} {G : Gt} (hG : Gok l G) {k2 : Nat → Int32 → Mm → Option (Unit × Mm)} (hk2 : ∀ (a0 : Nat) (x1 : Int32) (μ : Mm) (r : Unit) (μ' : Mm), k2 a0 x1 μ = some (r, μ') → ZX l G mX11_answers 2 [(0, .ref a0), (1, .int x1)] [] μ (.inl none) μ') : ∀ (n : Nat) (a0 : Nat) (x1 : Int32) (x2 : Int32) (x3 : Int32) (μ : Mm) (r : Unit) (μ' : Mm), f_X11_answers_b51 k2 n a0 x1 x2 x3 μ = some (r, μ') → ZX l G mX11_answers 51 [(0, .ref a0), (1, .int x1), (2, .int x2), (3, .int x3)] [] μ (.inl none) μ' := by
  intro n
  induction n with
  | zero =>
    intro a0 x1 x2 x3 μ r μ' h
    cases h
  | succ n ih =>
    intro a0 x1 x2 x3 μ r μ' h
    unfold f_X11_answers_b51 at h
    refine zx_iload_n dX11_answers_51 rfl (q := 3) rfl ?_
    refine zx_aload_n dX11_answers_52 rfl (q := 0) rfl ?_
    obtain ⟨h23, h⟩ := ck_e h
    refine zx_getI hG fl_X11_222 h23 dX11_answers_53 ?_
    by_cases c24 : (mI μ a0 35) ≤ x3
    · have h := it_t c24 h
      refine zx_icmp_ge_t (tgt := 93) dX11_answers_56 (by decide) c24 ?_
      refine zx_sub (L' := [(0, .ref a0), (1, .int x1), (2, .int x2)]) [0, 1, 2] rfl ?_
      exact s_X11_answers_b93 hG hk2 _ _ _ _ _ _ h
    · have h := it_f c24 h
      refine zx_icmp_ge_f (tgt := 93) dX11_answers_56 (by decide) c24 ?_
      refine zx_aload_n dX11_answers_59 rfl (q := 0) rfl ?_
      obtain ⟨p25, h26, h⟩ := bd_e h
      refine zx_getR hG fl_X11_95 h23 h26 dX11_answers_60 ?_
      refine zx_iload_n dX11_answers_63 rfl (q := 3) rfl ?_
      refine zx_aload_n dX11_answers_64 rfl (q := 0) rfl ?_
      obtain ⟨p27, h28, h⟩ := bd_e h
      refine zx_getR hG fl_X11_95 h23 h28 dX11_answers_65 ?_
      refine zx_iload_n dX11_answers_68 rfl (q := 3) rfl ?_
      refine zx_iconst (v := 1) dX11_answers_69 iv_iconst_1 ?_
      refine zx_iadd dX11_answers_70 ?_
      obtain ⟨h29, h⟩ := ck_e h
      obtain ⟨h30, h⟩ := ck_e h
      refine zx_iald hG rfl (h29).1 (h29).2 (inb_e h30) dX11_answers_71 ?_
      obtain ⟨h31, h⟩ := ck_e h
      obtain ⟨h32, h⟩ := ck_e h
      refine zx_iast hG rfl (h31).1 (h31).2 (inb_e h32) dX11_answers_72 ?_
      obtain ⟨μ33, e35, h⟩ := zlm_e h
      refine zx_mem e35 ?_
      have e34 : mK μ33 = mK μ := (congrArg mK e35).trans rfl
      refine zx_aload_n dX11_answers_73 rfl (q := 0) rfl ?_
      obtain ⟨p36, h37, h⟩ := bd_e h
      refine zx_getR hG fl_X11_98 (kp_o (e34) h23) h37 dX11_answers_74 ?_
      refine zx_iload_n dX11_answers_77 rfl (q := 3) rfl ?_
      refine zx_aload_n dX11_answers_78 rfl (q := 0) rfl ?_
      obtain ⟨p38, h39, h⟩ := bd_e h
      refine zx_getR hG fl_X11_98 (kp_o (e34) h23) h39 dX11_answers_79 ?_
      refine zx_iload_n dX11_answers_82 rfl (q := 3) rfl ?_
      refine zx_iconst (v := 1) dX11_answers_83 iv_iconst_1 ?_
      refine zx_iadd dX11_answers_84 ?_
      obtain ⟨h40, h⟩ := ck_e h
      obtain ⟨h41, h⟩ := ck_e h
      refine zx_iald hG rfl (h40).1 (h40).2 (inb_e h41) dX11_answers_85 ?_
      obtain ⟨h42, h⟩ := ck_e h
      obtain ⟨h43, h⟩ := ck_e h
      refine zx_iast hG rfl (h42).1 (h42).2 (inb_e h43) dX11_answers_86 ?_
      obtain ⟨μ44, e46, h⟩ := zlm_e h
      refine zx_mem e46 ?_
      have e45 : mK μ44 = mK μ33 := (congrArg mK e46).trans rfl
      refine zx_iinc (q := 3) (v := x3 + 1) (L' := [(3, .int (x3 + 1)), (0, .ref a0), (1, .int x1), (2, .int x2)]) dX11_answers_87 rfl rfl (by decide) rfl ?_
      refine zx_goto (tgt := 51) dX11_answers_90 (by decide) ?_
      refine zx_sub (L' := [(0, .ref a0), (1, .int x1), (2, .int x2), (3, .int (x3 + 1))]) [1, 2, 3, 0] rfl ?_
      exact ih _ _ _ _ _ _ _ h
set_option maxRecDepth 100000 in
theorem s_X11_answers_b2 {l : Launch} {G : Gt} (hG : Gok l G) : ∀ (n : Nat) (a0 : Nat) (x1 : Int32) (μ : Mm) (r : Unit) (μ' : Mm), f_X11_answers_b2 n a0 x1 μ = some (r, μ') → ZX l G mX11_answers 2 [(0, .ref a0), (1, .int x1)] [] μ (.inl none) μ' := by
  intro n
  induction n with
  | zero =>
    intro a0 x1 μ r μ' h
    cases h
  | succ n ih =>
    intro a0 x1 μ r μ' h
    unfold f_X11_answers_b2 at h
    refine zx_iload_n dX11_answers_2 rfl (q := 1) rfl ?_
    refine zx_aload_n dX11_answers_3 rfl (q := 0) rfl ?_
    obtain ⟨h1, h⟩ := ck_e h
    refine zx_getI hG fl_X11_222 h1 dX11_answers_4 ?_
    by_cases c2 : (mI μ a0 35) ≤ x1
    · have h := it_t c2 h
      refine zx_icmp_ge_t (tgt := 171) dX11_answers_7 (by decide) c2 ?_
      cases h
      exact zx_vret dX11_answers_171 rfl
    · have h := it_f c2 h
      refine zx_icmp_ge_f (tgt := 171) dX11_answers_7 (by decide) c2 ?_
      refine zx_aload_n dX11_answers_10 rfl (q := 0) rfl ?_
      obtain ⟨p3, h4, h⟩ := bd_e h
      refine zx_getR hG fl_X11_98 h1 h4 dX11_answers_11 ?_
      refine zx_iload_n dX11_answers_14 rfl (q := 1) rfl ?_
      obtain ⟨h5, h⟩ := ck_e h
      obtain ⟨h6, h⟩ := ck_e h
      refine zx_iald hG rfl (h5).1 (h5).2 (inb_e h6) dX11_answers_15 ?_
      refine zx_aload_n dX11_answers_16 rfl (q := 0) rfl ?_
      refine zx_getI hG fl_X11_133 h1 dX11_answers_17 ?_
      by_cases c7 : ¬ (mI μ p3 (Int32.toNatClampNeg x1)) = (mI μ a0 36)
      · have h := it_t c7 h
        refine zx_icmp_ne_t (tgt := 165) dX11_answers_20 (by decide) c7 ?_
        exact s_X11_answers_b165 hG ih _ _ _ _ _ h
      · have h := it_f c7 h
        refine zx_icmp_ne_f (tgt := 165) dX11_answers_20 (by decide) (Classical.not_not.mp c7) ?_
        refine zx_aload_n dX11_answers_23 rfl (q := 0) rfl ?_
        obtain ⟨p8, h9, h⟩ := bd_e h
        refine zx_getR hG fl_X11_95 h1 h9 dX11_answers_24 ?_
        refine zx_iload_n dX11_answers_27 rfl (q := 1) rfl ?_
        obtain ⟨h10, h⟩ := ck_e h
        obtain ⟨h11, h⟩ := ck_e h
        refine zx_iald hG rfl (h10).1 (h10).2 (inb_e h11) dX11_answers_28 ?_
        refine zx_istore_n (L' := [(2, .int (mI μ p8 (Int32.toNatClampNeg x1))), (0, .ref a0), (1, .int x1)]) dX11_answers_29 rfl (by decide) rfl ?_
        refine zx_aload_n dX11_answers_30 rfl (q := 1) rfl ?_
        obtain ⟨p12, h13, h⟩ := bd_e h
        refine zx_getR hG fl_X11_92 h1 h13 dX11_answers_31 ?_
        refine zx_iload_n dX11_answers_34 rfl (q := 0) rfl ?_
        refine zx_iconst (v := 4) dX11_answers_35 iv_iconst_4 ?_
        obtain ⟨h14, h⟩ := ck_e h
        refine zx_irem dX11_answers_36 h14 ?_
        refine zx_iload_n dX11_answers_37 rfl (q := 0) rfl ?_
        obtain ⟨h15, h⟩ := ck_e h
        obtain ⟨h16, h⟩ := ck_e h
        refine zx_iast hG rfl (h15).1 (h15).2 (inb_e h16) dX11_answers_38 ?_
        obtain ⟨μ17, e19, h⟩ := zlm_e h
        refine zx_mem e19 ?_
        have e18 : mK μ17 = mK μ := (congrArg mK e19).trans rfl
        refine zx_aload_n dX11_answers_39 rfl (q := 1) rfl ?_
        refine zx_dup dX11_answers_40 rfl ?_
        refine zx_getI hG fl_X11_222 (kp_o (e18) h1) dX11_answers_41 ?_
        refine zx_iconst (v := 1) dX11_answers_44 iv_iconst_1 ?_
        refine zx_isub dX11_answers_45 ?_
        refine zx_putI hG fl_X11_222 fn_12_35 (kp_o (e18) h1) dX11_answers_46 ?_
        obtain ⟨μ20, e22, h⟩ := zlm_e h
        refine zx_mem e22 ?_
        have e21 : mK μ20 = mK μ17 := (congrArg mK e22).trans rfl
        refine zx_iload_n dX11_answers_49 rfl (q := 2) rfl ?_
        refine zx_istore_n (L' := [(3, .int x1), (2, .int (mI μ p8 (Int32.toNatClampNeg x1))), (0, .ref a0), (1, .int x1)]) dX11_answers_50 rfl (by decide) rfl ?_
        refine zx_sub (L' := [(0, .ref a0), (1, .int x1), (2, .int (mI μ p8 (Int32.toNatClampNeg x1))), (3, .int x1)]) [2, 3, 1, 0] rfl ?_
        exact s_X11_answers_b51 hG ih 5000 _ _ _ _ _ _ _ h
set_option maxRecDepth 100000 in
theorem s_X11_answers {l : Launch} {G : Gt} (hG : Gok l G) (a0 : Nat) (μ : Mm) (r : Unit) (μ' : Mm) (h : f_X11_answers a0 μ = some (r, μ')) : ZX l G mX11_answers 0 [(0, .ref a0)] [] μ (.inl none) μ' := by
  unfold f_X11_answers at h
  refine zx_iconst (v := 0) dX11_answers_0 iv_iconst_0 ?_
  refine zx_istore_n (L' := [(1, .int 0), (0, .ref a0)]) dX11_answers_1 rfl (by decide) rfl ?_
  refine zx_sub (L' := [(0, .ref a0), (1, .int 0)]) [1, 0] rfl ?_
  exact s_X11_answers_b2 hG 5000 _ _ _ _ _ h
def f_X11_codeOf (a0 : Nat) (a1 : Nat) (μ : Mm) : Option Int32 :=
  ck (mK μ a0 = 112) <|
  bd (mR μ a0 0) fun p2 =>
  ck (isA 1 (mK μ a1)) <|
  ck (inb 0 (mL μ a1)) <|
  ck (isA 1 (mK μ p2)) <|
  ck (inb (mI μ a1 (Int32.toNatClampNeg 0)) (mL μ p2)) <|
  some (mI μ p2 (Int32.toNatClampNeg (mI μ a1 (Int32.toNatClampNeg 0))))
set_option maxRecDepth 100000 in
theorem s_X11_codeOf {l : Launch} {G : Gt} (hG : Gok l G) (a0 : Nat) (a1 : Nat) (μ : Mm) (r : Int32) (h : f_X11_codeOf a0 a1 μ = some r) : ZX l G mX11_codeOf 0 [(0, .ref a0), (1, .ref a1)] [] μ (.inl (some (.int r))) μ := by
  unfold f_X11_codeOf at h
  refine zx_aload_n dX11_codeOf_0 rfl (q := 0) rfl ?_
  obtain ⟨h1, h⟩ := ck_e h
  obtain ⟨p2, h3, h⟩ := bd_e h
  refine zx_getR hG fl_X11_9 h1 h3 dX11_codeOf_1 ?_
  refine zx_aload_n dX11_codeOf_4 rfl (q := 1) rfl ?_
  refine zx_iconst (v := 0) dX11_codeOf_5 iv_iconst_0 ?_
  obtain ⟨h4, h⟩ := ck_e h
  obtain ⟨h5, h⟩ := ck_e h
  refine zx_iald hG rfl (h4).1 (h4).2 (inb_e h5) dX11_codeOf_6 ?_
  obtain ⟨h6, h⟩ := ck_e h
  obtain ⟨h7, h⟩ := ck_e h
  refine zx_iald hG rfl (h6).1 (h6).2 (inb_e h7) dX11_codeOf_7 ?_
  cases h
  exact zx_iret dX11_codeOf_8 rfl
def f_X11_hasD_b16 : Option Int32 :=
  some 1
def f_X11_hasD (x0 : Int32) : Option Int32 :=
  bd (f_X11_in x0 1 9) fun y1 =>
  if ¬ y1 = 0 then
    f_X11_hasD_b16 
  else
    if ¬ x0 = 15 then
      some 0
    else
      f_X11_hasD_b16 
set_option maxRecDepth 100000 in
theorem s_X11_hasD_b16 {l : Launch} {G : Gt} (hG : Gok l G) (μ : Mm) (r : Int32) (h : f_X11_hasD_b16 = some r) : ZX l G mX11_hasD 16 [] [] μ (.inl (some (.int r))) μ := by
  unfold f_X11_hasD_b16 at h
  refine zx_iconst (v := 1) dX11_hasD_16 iv_iconst_1 ?_
  refine zx_goto (tgt := 21) dX11_hasD_17 (by decide) ?_
  cases h
  exact zx_zretZ dX11_hasD_21 rfl zb_1
set_option maxRecDepth 100000 in
theorem s_X11_hasD {l : Launch} {G : Gt} (hG : Gok l G) (x0 : Int32) (μ : Mm) (r : Int32) (h : f_X11_hasD x0 = some r) : ZX l G mX11_hasD 0 [(0, .int x0)] [] μ (.inl (some (.int r))) μ := by
  unfold f_X11_hasD at h
  refine zx_iload_n dX11_hasD_0 rfl (q := 0) rfl ?_
  refine zx_iconst (v := 1) dX11_hasD_1 iv_iconst_1 ?_
  refine zx_bipush (v := 9) dX11_hasD_2 iv_bipush_9 ?_
  obtain ⟨y1, z2, h⟩ := bd_e h
  refine zx_callS (As := [.int x0, .int 1, .int 9]) hG mf_X11_in cs_X11_129 ⟨by decide, by decide⟩ rfl rfl (Nat.le_of_ble_eq_true rfl) (s_X11_in hG _ _ _ _ _ z2) (Nat.le_of_ble_eq_true rfl) dX11_hasD_4 ?_
  by_cases c3 : ¬ y1 = 0
  · have h := it_t c3 h
    refine zx_if_ne_t (tgt := 16) dX11_hasD_7 (by decide) c3 ?_
    refine zx_sub (L' := []) [] rfl ?_
    exact s_X11_hasD_b16 hG _ _ h
  · have h := it_f c3 h
    refine zx_if_ne_f (tgt := 16) dX11_hasD_7 (by decide) (Classical.not_not.mp c3) ?_
    refine zx_iload_n dX11_hasD_10 rfl (q := 0) rfl ?_
    refine zx_bipush (v := 15) dX11_hasD_11 iv_bipush_15 ?_
    by_cases c4 : ¬ x0 = 15
    · have h := it_t c4 h
      refine zx_icmp_ne_t (tgt := 20) dX11_hasD_13 (by decide) c4 ?_
      refine zx_iconst (v := 0) dX11_hasD_20 iv_iconst_0 ?_
      cases h
      exact zx_zretZ dX11_hasD_21 rfl zb_0
    · have h := it_f c4 h
      refine zx_icmp_ne_f (tgt := 20) dX11_hasD_13 (by decide) (Classical.not_not.mp c4) ?_
      refine zx_sub (L' := []) [] rfl ?_
      exact s_X11_hasD_b16 hG _ _ h
def f_X11_result (a0 : Nat) (a1 : Nat) (μ : Mm) : Option Int32 :=
  ck (mK μ a0 = 112) <|
  bd (mR μ a0 18) fun p2 =>
  ck (isA 1 (mK μ a1)) <|
  ck (inb 7 (mL μ a1)) <|
  ck (isA 1 (mK μ p2)) <|
  ck (inb (mI μ a1 (Int32.toNatClampNeg 7)) (mL μ p2)) <|
  bd (mR μ a0 18) fun p8 =>
  ck (inb 8 (mL μ a1)) <|
  ck (isA 1 (mK μ p8)) <|
  ck (inb (mI μ a1 (Int32.toNatClampNeg 8)) (mL μ p8)) <|
  bd (f_X11_codeOf a0 a1 μ) fun y13 =>
  if (Int32.toInt y13) < 1 ∨ 8 < (Int32.toInt y13) then
    ck (inb 13 (mL μ a1)) <|
    if (mI μ a1 (Int32.toNatClampNeg 13)) ≤ 0 then
      ck (inb 16 (mL μ a1)) <|
      if (mI μ a1 (Int32.toNatClampNeg 16)) = ((-1)) then
        bd (mR μ a0 15) fun p20 =>
        ck (inb 14 (mL μ a1)) <|
        ck (isA 1 (mK μ p20)) <|
        ck (inb (mI μ a1 (Int32.toNatClampNeg 14)) (mL μ p20)) <|
        some (mI μ p20 (Int32.toNatClampNeg (mI μ a1 (Int32.toNatClampNeg 14))))
      else
        ck (inb 15 (mL μ a1)) <|
        some (mI μ a1 (Int32.toNatClampNeg 15))
    else
      some 0
  else if y13 = 1 then
      bd (mR μ a0 4) fun p27 =>
      ck (inb 0 (mL μ a1)) <|
      ck (isA 1 (mK μ p27)) <|
      ck (inb (mI μ a1 (Int32.toNatClampNeg 0)) (mL μ p27)) <|
      some (mI μ p27 (Int32.toNatClampNeg (mI μ a1 (Int32.toNatClampNeg 0))))
  else if y13 = 2 then
      some ((mI μ p2 (Int32.toNatClampNeg (mI μ a1 (Int32.toNatClampNeg 7)))) + (mI μ p8 (Int32.toNatClampNeg (mI μ a1 (Int32.toNatClampNeg 8)))))
  else if y13 = 3 then
      some ((mI μ p2 (Int32.toNatClampNeg (mI μ a1 (Int32.toNatClampNeg 7)))) - (mI μ p8 (Int32.toNatClampNeg (mI μ a1 (Int32.toNatClampNeg 8)))))
  else if y13 = 4 then
      some ((mI μ p2 (Int32.toNatClampNeg (mI μ a1 (Int32.toNatClampNeg 7)))) * (mI μ p8 (Int32.toNatClampNeg (mI μ a1 (Int32.toNatClampNeg 8)))))
  else if y13 = 5 then
      if ¬ (mI μ p8 (Int32.toNatClampNeg (mI μ a1 (Int32.toNatClampNeg 8)))) = 0 then
        ck (¬ ((mI μ p8 (Int32.toNatClampNeg (mI μ a1 (Int32.toNatClampNeg 8)))) : Int32) = 0) <|
        some ((mI μ p2 (Int32.toNatClampNeg (mI μ a1 (Int32.toNatClampNeg 7)))) / (mI μ p8 (Int32.toNatClampNeg (mI μ a1 (Int32.toNatClampNeg 8)))))
      else
        some 0
  else if y13 = 6 then
      some ((mI μ p2 (Int32.toNatClampNeg (mI μ a1 (Int32.toNatClampNeg 7)))) &&& (mI μ p8 (Int32.toNatClampNeg (mI μ a1 (Int32.toNatClampNeg 8)))))
  else if y13 = 7 then
      some ((mI μ p2 (Int32.toNatClampNeg (mI μ a1 (Int32.toNatClampNeg 7)))) ^^^ (mI μ p8 (Int32.toNatClampNeg (mI μ a1 (Int32.toNatClampNeg 8)))))
  else if y13 = 8 then
      if (mI μ p8 (Int32.toNatClampNeg (mI μ a1 (Int32.toNatClampNeg 8)))) ≤ (mI μ p2 (Int32.toNatClampNeg (mI μ a1 (Int32.toNatClampNeg 7)))) then
        some 0
      else
        some 1
  else
    none
set_option maxRecDepth 100000 in
theorem s_X11_result {l : Launch} {G : Gt} (hG : Gok l G) (a0 : Nat) (a1 : Nat) (μ : Mm) (r : Int32) (h : f_X11_result a0 a1 μ = some r) : ZX l G mX11_result 0 [(0, .ref a0), (1, .ref a1)] [] μ (.inl (some (.int r))) μ := by
  unfold f_X11_result at h
  refine zx_aload_n dX11_result_0 rfl (q := 0) rfl ?_
  obtain ⟨h1, h⟩ := ck_e h
  obtain ⟨p2, h3, h⟩ := bd_e h
  refine zx_getR hG fl_X11_62 h1 h3 dX11_result_1 ?_
  refine zx_aload_n dX11_result_4 rfl (q := 1) rfl ?_
  refine zx_bipush (v := 7) dX11_result_5 iv_bipush_7 ?_
  obtain ⟨h4, h⟩ := ck_e h
  obtain ⟨h5, h⟩ := ck_e h
  refine zx_iald hG rfl (h4).1 (h4).2 (inb_e h5) dX11_result_7 ?_
  obtain ⟨h6, h⟩ := ck_e h
  obtain ⟨h7, h⟩ := ck_e h
  refine zx_iald hG rfl (h6).1 (h6).2 (inb_e h7) dX11_result_8 ?_
  refine zx_istore_n (L' := [(2, .int (mI μ p2 (Int32.toNatClampNeg (mI μ a1 (Int32.toNatClampNeg 7))))), (0, .ref a0), (1, .ref a1)]) dX11_result_9 rfl (by decide) rfl ?_
  refine zx_aload_n dX11_result_10 rfl (q := 1) rfl ?_
  obtain ⟨p8, h9, h⟩ := bd_e h
  refine zx_getR hG fl_X11_62 h1 h9 dX11_result_11 ?_
  refine zx_aload_n dX11_result_14 rfl (q := 2) rfl ?_
  refine zx_bipush (v := 8) dX11_result_15 iv_bipush_8 ?_
  obtain ⟨h10, h⟩ := ck_e h
  refine zx_iald hG rfl (h4).1 (h4).2 (inb_e h10) dX11_result_17 ?_
  obtain ⟨h11, h⟩ := ck_e h
  obtain ⟨h12, h⟩ := ck_e h
  refine zx_iald hG rfl (h11).1 (h11).2 (inb_e h12) dX11_result_18 ?_
  refine zx_istore_n (L' := [(3, .int (mI μ p8 (Int32.toNatClampNeg (mI μ a1 (Int32.toNatClampNeg 8))))), (2, .int (mI μ p2 (Int32.toNatClampNeg (mI μ a1 (Int32.toNatClampNeg 7))))), (0, .ref a0), (1, .ref a1)]) dX11_result_19 rfl (by decide) rfl ?_
  refine zx_aload_n dX11_result_20 rfl (q := 2) rfl ?_
  refine zx_aload_n dX11_result_21 rfl (q := 3) rfl ?_
  obtain ⟨y13, z14, h⟩ := bd_e h
  refine zx_callV (As := [.ref a1]) hG mf_X11_codeOf cv_X11_201 h1 ⟨by decide, by decide⟩ rfl rfl (Nat.le_of_ble_eq_true rfl) (s_X11_codeOf hG _ _ _ _ z14) (Nat.le_of_ble_eq_true rfl) dX11_result_22 ?_
  by_cases c15 : (Int32.toInt y13) < 1 ∨ 8 < (Int32.toInt y13)
  · have h := it_t c15 h
    refine zx_tsOut dX11_result_25 c15 (tgt := 124) (by decide) ?_
    refine zx_aload_n dX11_result_124 rfl (q := 3) rfl ?_
    refine zx_bipush (v := 13) dX11_result_125 iv_bipush_13 ?_
    obtain ⟨h16, h⟩ := ck_e h
    refine zx_iald hG rfl (h4).1 (h4).2 (inb_e h16) dX11_result_127 ?_
    by_cases c17 : (mI μ a1 (Int32.toNatClampNeg 13)) ≤ 0
    · have h := it_t c17 h
      refine zx_if_le_t (tgt := 135) dX11_result_128 (by decide) c17 ?_
      refine zx_aload_n dX11_result_135 rfl (q := 3) rfl ?_
      refine zx_bipush (v := 16) dX11_result_136 iv_bipush_16 ?_
      obtain ⟨h18, h⟩ := ck_e h
      refine zx_iald hG rfl (h4).1 (h4).2 (inb_e h18) dX11_result_138 ?_
      refine zx_iconst (v := (-1)) dX11_result_139 iv_iconst_m1 ?_
      by_cases c19 : (mI μ a1 (Int32.toNatClampNeg 16)) = ((-1))
      · have h := it_t c19 h
        refine zx_icmp_eq_t (tgt := 150) dX11_result_140 (by decide) c19 ?_
        refine zx_aload_n dX11_result_150 rfl (q := 2) rfl ?_
        obtain ⟨p20, h21, h⟩ := bd_e h
        refine zx_getR hG fl_X11_53 h1 h21 dX11_result_151 ?_
        refine zx_aload_n dX11_result_154 rfl (q := 3) rfl ?_
        refine zx_bipush (v := 14) dX11_result_155 iv_bipush_14 ?_
        obtain ⟨h22, h⟩ := ck_e h
        refine zx_iald hG rfl (h4).1 (h4).2 (inb_e h22) dX11_result_157 ?_
        obtain ⟨h23, h⟩ := ck_e h
        obtain ⟨h24, h⟩ := ck_e h
        refine zx_iald hG rfl (h23).1 (h23).2 (inb_e h24) dX11_result_158 ?_
        cases h
        exact zx_iret dX11_result_159 rfl
      · have h := it_f c19 h
        refine zx_icmp_eq_f (tgt := 150) dX11_result_140 (by decide) c19 ?_
        refine zx_aload_n dX11_result_143 rfl (q := 3) rfl ?_
        refine zx_bipush (v := 15) dX11_result_144 iv_bipush_15 ?_
        obtain ⟨h25, h⟩ := ck_e h
        refine zx_iald hG rfl (h4).1 (h4).2 (inb_e h25) dX11_result_146 ?_
        refine zx_goto (tgt := 159) dX11_result_147 (by decide) ?_
        cases h
        exact zx_iret dX11_result_159 rfl
    · have h := it_f c17 h
      refine zx_if_le_f (tgt := 135) dX11_result_128 (by decide) c17 ?_
      refine zx_iconst (v := 0) dX11_result_131 iv_iconst_0 ?_
      refine zx_goto (tgt := 159) dX11_result_132 (by decide) ?_
      cases h
      exact zx_iret dX11_result_159 rfl
  · have h := it_f c15 h
    by_cases c26 : y13 = 1
    · have h := it_t c26 h
      refine zx_tsIn dX11_result_25 (by rw [c26]; decide) (by rw [c26]; decide) (off := 47) (tgt := 72) (by rw [c26]; decide) (by decide) ?_
      refine zx_aload_n dX11_result_72 rfl (q := 2) rfl ?_
      obtain ⟨p27, h28, h⟩ := bd_e h
      refine zx_getR hG fl_X11_22 h1 h28 dX11_result_73 ?_
      refine zx_aload_n dX11_result_76 rfl (q := 3) rfl ?_
      refine zx_iconst (v := 0) dX11_result_77 iv_iconst_0 ?_
      obtain ⟨h29, h⟩ := ck_e h
      refine zx_iald hG rfl (h4).1 (h4).2 (inb_e h29) dX11_result_78 ?_
      obtain ⟨h30, h⟩ := ck_e h
      obtain ⟨h31, h⟩ := ck_e h
      refine zx_iald hG rfl (h30).1 (h30).2 (inb_e h31) dX11_result_79 ?_
      cases h
      exact zx_iret dX11_result_80 rfl
    have h := it_f c26 h
    by_cases c32 : y13 = 2
    · have h := it_t c32 h
      refine zx_tsIn dX11_result_25 (by rw [c32]; decide) (by rw [c32]; decide) (off := 56) (tgt := 81) (by rw [c32]; decide) (by decide) ?_
      refine zx_iload_n dX11_result_81 rfl (q := 1) rfl ?_
      refine zx_iload_n dX11_result_82 rfl (q := 0) rfl ?_
      refine zx_iadd dX11_result_83 ?_
      cases h
      exact zx_iret dX11_result_84 rfl
    have h := it_f c32 h
    by_cases c33 : y13 = 3
    · have h := it_t c33 h
      refine zx_tsIn dX11_result_25 (by rw [c33]; decide) (by rw [c33]; decide) (off := 60) (tgt := 85) (by rw [c33]; decide) (by decide) ?_
      refine zx_iload_n dX11_result_85 rfl (q := 1) rfl ?_
      refine zx_iload_n dX11_result_86 rfl (q := 0) rfl ?_
      refine zx_isub dX11_result_87 ?_
      cases h
      exact zx_iret dX11_result_88 rfl
    have h := it_f c33 h
    by_cases c34 : y13 = 4
    · have h := it_t c34 h
      refine zx_tsIn dX11_result_25 (by rw [c34]; decide) (by rw [c34]; decide) (off := 64) (tgt := 89) (by rw [c34]; decide) (by decide) ?_
      refine zx_iload_n dX11_result_89 rfl (q := 1) rfl ?_
      refine zx_iload_n dX11_result_90 rfl (q := 0) rfl ?_
      refine zx_imul dX11_result_91 ?_
      cases h
      exact zx_iret dX11_result_92 rfl
    have h := it_f c34 h
    by_cases c35 : y13 = 5
    · have h := it_t c35 h
      refine zx_tsIn dX11_result_25 (by rw [c35]; decide) (by rw [c35]; decide) (off := 68) (tgt := 93) (by rw [c35]; decide) (by decide) ?_
      refine zx_iload_n dX11_result_93 rfl (q := 0) rfl ?_
      by_cases c36 : ¬ (mI μ p8 (Int32.toNatClampNeg (mI μ a1 (Int32.toNatClampNeg 8)))) = 0
      · have h := it_t c36 h
        refine zx_if_ne_t (tgt := 101) dX11_result_94 (by decide) c36 ?_
        refine zx_iload_n dX11_result_101 rfl (q := 1) rfl ?_
        refine zx_iload_n dX11_result_102 rfl (q := 0) rfl ?_
        obtain ⟨h37, h⟩ := ck_e h
        refine zx_idiv dX11_result_103 h37 ?_
        cases h
        exact zx_iret dX11_result_104 rfl
      · have h := it_f c36 h
        refine zx_if_ne_f (tgt := 101) dX11_result_94 (by decide) (Classical.not_not.mp c36) ?_
        refine zx_iconst (v := 0) dX11_result_97 iv_iconst_0 ?_
        refine zx_goto (tgt := 104) dX11_result_98 (by decide) ?_
        cases h
        exact zx_iret dX11_result_104 rfl
    have h := it_f c35 h
    by_cases c38 : y13 = 6
    · have h := it_t c38 h
      refine zx_tsIn dX11_result_25 (by rw [c38]; decide) (by rw [c38]; decide) (off := 80) (tgt := 105) (by rw [c38]; decide) (by decide) ?_
      refine zx_iload_n dX11_result_105 rfl (q := 1) rfl ?_
      refine zx_iload_n dX11_result_106 rfl (q := 0) rfl ?_
      refine zx_iand dX11_result_107 ?_
      cases h
      exact zx_iret dX11_result_108 rfl
    have h := it_f c38 h
    by_cases c39 : y13 = 7
    · have h := it_t c39 h
      refine zx_tsIn dX11_result_25 (by rw [c39]; decide) (by rw [c39]; decide) (off := 84) (tgt := 109) (by rw [c39]; decide) (by decide) ?_
      refine zx_iload_n dX11_result_109 rfl (q := 1) rfl ?_
      refine zx_iload_n dX11_result_110 rfl (q := 0) rfl ?_
      refine zx_ixor dX11_result_111 ?_
      cases h
      exact zx_iret dX11_result_112 rfl
    have h := it_f c39 h
    by_cases c40 : y13 = 8
    · have h := it_t c40 h
      refine zx_tsIn dX11_result_25 (by rw [c40]; decide) (by rw [c40]; decide) (off := 88) (tgt := 113) (by rw [c40]; decide) (by decide) ?_
      refine zx_iload_n dX11_result_113 rfl (q := 1) rfl ?_
      refine zx_iload_n dX11_result_114 rfl (q := 0) rfl ?_
      by_cases c41 : (mI μ p8 (Int32.toNatClampNeg (mI μ a1 (Int32.toNatClampNeg 8)))) ≤ (mI μ p2 (Int32.toNatClampNeg (mI μ a1 (Int32.toNatClampNeg 7))))
      · have h := it_t c41 h
        refine zx_icmp_ge_t (tgt := 122) dX11_result_115 (by decide) c41 ?_
        refine zx_iconst (v := 0) dX11_result_122 iv_iconst_0 ?_
        cases h
        exact zx_iret dX11_result_123 rfl
      · have h := it_f c41 h
        refine zx_icmp_ge_f (tgt := 122) dX11_result_115 (by decide) c41 ?_
        refine zx_iconst (v := 1) dX11_result_118 iv_iconst_1 ?_
        refine zx_goto (tgt := 123) dX11_result_119 (by decide) ?_
        cases h
        exact zx_iret dX11_result_123 rfl
    have h := it_f c40 h
    cases h
def f_X11_isStore_b12 : Option Int32 :=
  some 1
def f_X11_isStore (x0 : Int32) : Option Int32 :=
  if x0 = 10 then
    f_X11_isStore_b12 
  else
    if ¬ x0 = 11 then
      some 0
    else
      f_X11_isStore_b12 
set_option maxRecDepth 100000 in
theorem s_X11_isStore_b12 {l : Launch} {G : Gt} (hG : Gok l G) (μ : Mm) (r : Int32) (h : f_X11_isStore_b12 = some r) : ZX l G mX11_isStore 12 [] [] μ (.inl (some (.int r))) μ := by
  unfold f_X11_isStore_b12 at h
  refine zx_iconst (v := 1) dX11_isStore_12 iv_iconst_1 ?_
  refine zx_goto (tgt := 17) dX11_isStore_13 (by decide) ?_
  cases h
  exact zx_zretZ dX11_isStore_17 rfl zb_1
set_option maxRecDepth 100000 in
theorem s_X11_isStore {l : Launch} {G : Gt} (hG : Gok l G) (x0 : Int32) (μ : Mm) (r : Int32) (h : f_X11_isStore x0 = some r) : ZX l G mX11_isStore 0 [(0, .int x0)] [] μ (.inl (some (.int r))) μ := by
  unfold f_X11_isStore at h
  refine zx_iload_n dX11_isStore_0 rfl (q := 0) rfl ?_
  refine zx_bipush (v := 10) dX11_isStore_1 iv_bipush_10 ?_
  by_cases c1 : x0 = 10
  · have h := it_t c1 h
    refine zx_icmp_eq_t (tgt := 12) dX11_isStore_3 (by decide) c1 ?_
    refine zx_sub (L' := []) [] rfl ?_
    exact s_X11_isStore_b12 hG _ _ h
  · have h := it_f c1 h
    refine zx_icmp_eq_f (tgt := 12) dX11_isStore_3 (by decide) c1 ?_
    refine zx_iload_n dX11_isStore_6 rfl (q := 0) rfl ?_
    refine zx_bipush (v := 11) dX11_isStore_7 iv_bipush_11 ?_
    by_cases c2 : ¬ x0 = 11
    · have h := it_t c2 h
      refine zx_icmp_ne_t (tgt := 16) dX11_isStore_9 (by decide) c2 ?_
      refine zx_iconst (v := 0) dX11_isStore_16 iv_iconst_0 ?_
      cases h
      exact zx_zretZ dX11_isStore_17 rfl zb_0
    · have h := it_f c2 h
      refine zx_icmp_ne_f (tgt := 16) dX11_isStore_9 (by decide) (Classical.not_not.mp c2) ?_
      refine zx_sub (L' := []) [] rfl ?_
      exact s_X11_isStore_b12 hG _ _ h
def f_X11_isAddress (x0 : Int32) : Option Int32 :=
  bd (f_X11_in x0 0 63) fun y1 =>
  ck (zb y1 = y1) <|
  some y1
set_option maxRecDepth 100000 in
theorem s_X11_isAddress {l : Launch} {G : Gt} (hG : Gok l G) (x0 : Int32) (μ : Mm) (r : Int32) (h : f_X11_isAddress x0 = some r) : ZX l G mX11_isAddress 0 [(0, .int x0)] [] μ (.inl (some (.int r))) μ := by
  unfold f_X11_isAddress at h
  refine zx_iload_n dX11_isAddress_0 rfl (q := 0) rfl ?_
  refine zx_iconst (v := 0) dX11_isAddress_1 iv_iconst_0 ?_
  refine zx_bipush (v := 63) dX11_isAddress_2 iv_bipush_63 ?_
  obtain ⟨y1, z2, h⟩ := bd_e h
  refine zx_callS (As := [.int x0, .int 0, .int 63]) hG mf_X11_in cs_X11_129 ⟨by decide, by decide⟩ rfl rfl (Nat.le_of_ble_eq_true rfl) (s_X11_in hG _ _ _ _ _ z2) (Nat.le_of_ble_eq_true rfl) dX11_isAddress_4 ?_
  obtain ⟨h3, h⟩ := ck_e h
  cases h
  exact zx_zretZ dX11_isAddress_7 rfl h3
def f_X11_wrongLoad_b101 (k11 : Nat → Nat → Int32 → Mm → Option Int32) (a0 : Nat) (a2 : Nat) (x3 : Int32) (μ : Mm) : Option Int32 :=
  k11 a0 a2 (x3 + 1) μ
def f_X11_wrongLoad_b80 (k11 : Nat → Nat → Int32 → Mm → Option Int32) (a0 : Nat) (a2 : Nat) (x3 : Int32) (a4 : Nat) (s0 : Int32) (μ : Mm) : Option Int32 :=
  if s0 = 0 then
    f_X11_wrongLoad_b101 k11 a0 a2 x3 μ
  else
    ck (isA 1 (mK μ a4)) <|
    ck (inb 16 (mL μ a4)) <|
    ck (isA 1 (mK μ a2)) <|
    ck (inb 17 (mL μ a2)) <|
    if (mI μ a2 (Int32.toNatClampNeg 17)) < (mI μ a4 (Int32.toNatClampNeg 16)) then
      f_X11_wrongLoad_b101 k11 a0 a2 x3 μ
    else
      some x3
def f_X11_wrongLoad_b79 (k11 : Nat → Nat → Int32 → Mm → Option Int32) (a0 : Nat) (a2 : Nat) (x3 : Int32) (a4 : Nat) (μ : Mm) : Option Int32 :=
  f_X11_wrongLoad_b80 k11 a0 a2 x3 a4 0 μ
def f_X11_wrongLoad_b11 : Nat → Nat → Nat → Int32 → Mm → Option Int32
  | 0, _, _, _, _ => none
  | n + 1, a0, a2, x3, μ =>
  ck (mK μ a0 = 112) <|
  if (mI μ a0 23) ≤ x3 then
    some ((-1))
  else
    ck (isA 1 (mK μ a2)) <|
    ck (inb 13 (mL μ a2)) <|
    if ¬ (mI μ a2 (Int32.toNatClampNeg 13)) = 0 then
      some ((-1))
    else
      bd (mR μ a0 22) fun p13 =>
      ck (isA56 (mK μ p13)) <|
      ck (inb x3 (mL μ p13)) <|
      bd (mR μ p13 (Int32.toNatClampNeg x3)) fun p17 =>
      bd (f_X11_codeOf a0 p17 μ) fun y19 =>
      if ¬ y19 = 9 then
        f_X11_wrongLoad_b79 (f_X11_wrongLoad_b11 n) a0 a2 x3 p17 μ
      else
        ck (isA 1 (mK μ p17)) <|
        ck (inb 11 (mL μ p17)) <|
        if (mI μ p17 (Int32.toNatClampNeg 11)) = 113 then
          f_X11_wrongLoad_b79 (f_X11_wrongLoad_b11 n) a0 a2 x3 p17 μ
        else
          ck (inb 13 (mL μ p17)) <|
          if ¬ (mI μ p17 (Int32.toNatClampNeg 13)) = 0 then
            f_X11_wrongLoad_b79 (f_X11_wrongLoad_b11 n) a0 a2 x3 p17 μ
          else
            ck (inb 14 (mL μ p17)) <|
            ck (inb 14 (mL μ a2)) <|
            if ¬ (mI μ p17 (Int32.toNatClampNeg 14)) = (mI μ a2 (Int32.toNatClampNeg 14)) then
              f_X11_wrongLoad_b79 (f_X11_wrongLoad_b11 n) a0 a2 x3 p17 μ
            else
              f_X11_wrongLoad_b80 (f_X11_wrongLoad_b11 n) a0 a2 x3 p17 1 μ
def f_X11_wrongLoad (a0 : Nat) (x1 : Int32) (μ : Mm) : Option Int32 :=
  ck (mK μ a0 = 112) <|
  bd (mR μ a0 22) fun p2 =>
  ck (isA56 (mK μ p2)) <|
  ck (inb x1 (mL μ p2)) <|
  bd (mR μ p2 (Int32.toNatClampNeg x1)) fun p6 =>
  f_X11_wrongLoad_b11 5000 a0 p6 (x1 + 1) μ
set_option maxRecDepth 100000 in
theorem s_X11_wrongLoad_b101 {l : Launch} {G : Gt} (hG : Gok l G) {k11 : Nat → Nat → Int32 → Mm → Option Int32} (hk11 : ∀ (a0 : Nat) (a2 : Nat) (x3 : Int32) (μ : Mm) (r : Int32), k11 a0 a2 x3 μ = some r → ZX l G mX11_wrongLoad 11 [(0, .ref a0), (2, .ref a2), (3, .int x3)] [] μ (.inl (some (.int r))) μ) (a0 : Nat) (a2 : Nat) (x3 : Int32) (μ : Mm) (r : Int32) (h : f_X11_wrongLoad_b101 k11 a0 a2 x3 μ = some r) : ZX l G mX11_wrongLoad 101 [(0, .ref a0), (2, .ref a2), (3, .int x3)] [] μ (.inl (some (.int r))) μ := by
  unfold f_X11_wrongLoad_b101 at h
  refine zx_iinc (q := 2) (v := x3 + 1) (L' := [(3, .int (x3 + 1)), (0, .ref a0), (2, .ref a2)]) dX11_wrongLoad_101 rfl rfl (by decide) rfl ?_
  refine zx_goto (tgt := 11) dX11_wrongLoad_104 (by decide) ?_
  refine zx_sub (L' := [(0, .ref a0), (2, .ref a2), (3, .int (x3 + 1))]) [1, 2, 0] rfl ?_
  exact hk11 _ _ _ _ _ h
set_option maxRecDepth 100000 in
theorem s_X11_wrongLoad_b80 {l : Launch} {G : Gt} (hG : Gok l G) {k11 : Nat → Nat → Int32 → Mm → Option Int32} (hk11 : ∀ (a0 : Nat) (a2 : Nat) (x3 : Int32) (μ : Mm) (r : Int32), k11 a0 a2 x3 μ = some r → ZX l G mX11_wrongLoad 11 [(0, .ref a0), (2, .ref a2), (3, .int x3)] [] μ (.inl (some (.int r))) μ) (a0 : Nat) (a2 : Nat) (x3 : Int32) (a4 : Nat) (s0 : Int32) (μ : Mm) (r : Int32) (h : f_X11_wrongLoad_b80 k11 a0 a2 x3 a4 s0 μ = some r) : ZX l G mX11_wrongLoad 80 [(0, .ref a0), (2, .ref a2), (3, .int x3), (4, .ref a4)] [.int s0] μ (.inl (some (.int r))) μ := by
  unfold f_X11_wrongLoad_b80 at h
  refine zx_istore (L' := [(5, .int s0), (0, .ref a0), (2, .ref a2), (3, .int x3), (4, .ref a4)]) dX11_wrongLoad_80 (by decide) rfl ?_
  refine zx_iload dX11_wrongLoad_82 (q := 0) rfl ?_
  by_cases c30 : s0 = 0
  · have h := it_t c30 h
    refine zx_if_eq_t (tgt := 101) dX11_wrongLoad_84 (by decide) c30 ?_
    refine zx_sub (L' := [(0, .ref a0), (2, .ref a2), (3, .int x3)]) [1, 2, 3] rfl ?_
    exact s_X11_wrongLoad_b101 hG hk11 _ _ _ _ _ h
  · have h := it_f c30 h
    refine zx_if_eq_f (tgt := 101) dX11_wrongLoad_84 (by decide) c30 ?_
    refine zx_aload dX11_wrongLoad_87 (q := 4) rfl ?_
    refine zx_bipush (v := 16) dX11_wrongLoad_89 iv_bipush_16 ?_
    obtain ⟨h31, h⟩ := ck_e h
    obtain ⟨h32, h⟩ := ck_e h
    refine zx_iald hG rfl (h31).1 (h31).2 (inb_e h32) dX11_wrongLoad_91 ?_
    refine zx_aload_n dX11_wrongLoad_92 rfl (q := 2) rfl ?_
    refine zx_bipush (v := 17) dX11_wrongLoad_93 iv_bipush_17 ?_
    obtain ⟨h33, h⟩ := ck_e h
    obtain ⟨h34, h⟩ := ck_e h
    refine zx_iald hG rfl (h33).1 (h33).2 (inb_e h34) dX11_wrongLoad_95 ?_
    by_cases c35 : (mI μ a2 (Int32.toNatClampNeg 17)) < (mI μ a4 (Int32.toNatClampNeg 16))
    · have h := it_t c35 h
      refine zx_icmp_gt_t (tgt := 101) dX11_wrongLoad_96 (by decide) c35 ?_
      refine zx_sub (L' := [(0, .ref a0), (2, .ref a2), (3, .int x3)]) [1, 2, 3] rfl ?_
      exact s_X11_wrongLoad_b101 hG hk11 _ _ _ _ _ h
    · have h := it_f c35 h
      refine zx_icmp_gt_f (tgt := 101) dX11_wrongLoad_96 (by decide) c35 ?_
      refine zx_iload_n dX11_wrongLoad_99 rfl (q := 3) rfl ?_
      cases h
      exact zx_iret dX11_wrongLoad_100 rfl
set_option maxRecDepth 100000 in
theorem s_X11_wrongLoad_b79 {l : Launch} {G : Gt} (hG : Gok l G) {k11 : Nat → Nat → Int32 → Mm → Option Int32} (hk11 : ∀ (a0 : Nat) (a2 : Nat) (x3 : Int32) (μ : Mm) (r : Int32), k11 a0 a2 x3 μ = some r → ZX l G mX11_wrongLoad 11 [(0, .ref a0), (2, .ref a2), (3, .int x3)] [] μ (.inl (some (.int r))) μ) (a0 : Nat) (a2 : Nat) (x3 : Int32) (a4 : Nat) (μ : Mm) (r : Int32) (h : f_X11_wrongLoad_b79 k11 a0 a2 x3 a4 μ = some r) : ZX l G mX11_wrongLoad 79 [(0, .ref a0), (2, .ref a2), (3, .int x3), (4, .ref a4)] [] μ (.inl (some (.int r))) μ := by
  unfold f_X11_wrongLoad_b79 at h
  refine zx_iconst (v := 0) dX11_wrongLoad_79 iv_iconst_0 ?_
  exact s_X11_wrongLoad_b80 hG hk11 _ _ _ _ _ _ _ h
set_option maxRecDepth 100000 in
theorem s_X11_wrongLoad_b11 {l : Launch} {G : Gt} (hG : Gok l G) : ∀ (n : Nat) (a0 : Nat) (a2 : Nat) (x3 : Int32) (μ : Mm) (r : Int32), f_X11_wrongLoad_b11 n a0 a2 x3 μ = some r → ZX l G mX11_wrongLoad 11 [(0, .ref a0), (2, .ref a2), (3, .int x3)] [] μ (.inl (some (.int r))) μ := by
  intro n
  induction n with
  | zero =>
    intro a0 a2 x3 μ r h
    cases h
  | succ n ih =>
    intro a0 a2 x3 μ r h
    unfold f_X11_wrongLoad_b11 at h
    refine zx_iload_n dX11_wrongLoad_11 rfl (q := 2) rfl ?_
    refine zx_aload_n dX11_wrongLoad_12 rfl (q := 0) rfl ?_
    obtain ⟨h8, h⟩ := ck_e h
    refine zx_getI hG fl_X11_198 h8 dX11_wrongLoad_13 ?_
    by_cases c9 : (mI μ a0 23) ≤ x3
    · have h := it_t c9 h
      refine zx_icmp_ge_t (tgt := 107) dX11_wrongLoad_16 (by decide) c9 ?_
      refine zx_iconst (v := (-1)) dX11_wrongLoad_107 iv_iconst_m1 ?_
      cases h
      exact zx_iret dX11_wrongLoad_108 rfl
    · have h := it_f c9 h
      refine zx_icmp_ge_f (tgt := 107) dX11_wrongLoad_16 (by decide) c9 ?_
      refine zx_aload_n dX11_wrongLoad_19 rfl (q := 1) rfl ?_
      refine zx_bipush (v := 13) dX11_wrongLoad_20 iv_bipush_13 ?_
      obtain ⟨h10, h⟩ := ck_e h
      obtain ⟨h11, h⟩ := ck_e h
      refine zx_iald hG rfl (h10).1 (h10).2 (inb_e h11) dX11_wrongLoad_22 ?_
      by_cases c12 : ¬ (mI μ a2 (Int32.toNatClampNeg 13)) = 0
      · have h := it_t c12 h
        refine zx_if_ne_t (tgt := 107) dX11_wrongLoad_23 (by decide) c12 ?_
        refine zx_iconst (v := (-1)) dX11_wrongLoad_107 iv_iconst_m1 ?_
        cases h
        exact zx_iret dX11_wrongLoad_108 rfl
      · have h := it_f c12 h
        refine zx_if_ne_f (tgt := 107) dX11_wrongLoad_23 (by decide) (Classical.not_not.mp c12) ?_
        refine zx_aload_n dX11_wrongLoad_26 rfl (q := 0) rfl ?_
        obtain ⟨p13, h14, h⟩ := bd_e h
        refine zx_getR hG fl_X11_74 h8 h14 dX11_wrongLoad_27 ?_
        refine zx_iload_n dX11_wrongLoad_30 rfl (q := 2) rfl ?_
        obtain ⟨h15, h⟩ := ck_e h
        obtain ⟨h16, h⟩ := ck_e h
        obtain ⟨p17, h18, h⟩ := bd_e h
        refine zx_aald hG rfl (h15).1 (h15).2 (inb_e h16) h18 dX11_wrongLoad_31 ?_
        refine zx_astore (L' := [(4, .ref p17), (0, .ref a0), (2, .ref a2), (3, .int x3)]) dX11_wrongLoad_32 (by decide) rfl ?_
        refine zx_aload_n dX11_wrongLoad_34 rfl (q := 1) rfl ?_
        refine zx_aload dX11_wrongLoad_35 (q := 0) rfl ?_
        obtain ⟨y19, z20, h⟩ := bd_e h
        refine zx_callV (As := [.ref p17]) hG mf_X11_codeOf cv_X11_201 h8 ⟨by decide, by decide⟩ rfl rfl (Nat.le_of_ble_eq_true rfl) (s_X11_codeOf hG _ _ _ _ z20) (Nat.le_of_ble_eq_true rfl) dX11_wrongLoad_37 ?_
        refine zx_bipush (v := 9) dX11_wrongLoad_40 iv_bipush_9 ?_
        by_cases c21 : ¬ y19 = 9
        · have h := it_t c21 h
          refine zx_icmp_ne_t (tgt := 79) dX11_wrongLoad_42 (by decide) c21 ?_
          refine zx_sub (L' := [(0, .ref a0), (2, .ref a2), (3, .int x3), (4, .ref p17)]) [1, 2, 3, 0] rfl ?_
          exact s_X11_wrongLoad_b79 hG ih _ _ _ _ _ _ h
        · have h := it_f c21 h
          refine zx_icmp_ne_f (tgt := 79) dX11_wrongLoad_42 (by decide) (Classical.not_not.mp c21) ?_
          refine zx_aload dX11_wrongLoad_45 (q := 0) rfl ?_
          refine zx_bipush (v := 11) dX11_wrongLoad_47 iv_bipush_11 ?_
          obtain ⟨h22, h⟩ := ck_e h
          obtain ⟨h23, h⟩ := ck_e h
          refine zx_iald hG rfl (h22).1 (h22).2 (inb_e h23) dX11_wrongLoad_49 ?_
          refine zx_bipush (v := 113) dX11_wrongLoad_50 iv_bipush_113 ?_
          by_cases c24 : (mI μ p17 (Int32.toNatClampNeg 11)) = 113
          · have h := it_t c24 h
            refine zx_icmp_eq_t (tgt := 79) dX11_wrongLoad_52 (by decide) c24 ?_
            refine zx_sub (L' := [(0, .ref a0), (2, .ref a2), (3, .int x3), (4, .ref p17)]) [1, 2, 3, 0] rfl ?_
            exact s_X11_wrongLoad_b79 hG ih _ _ _ _ _ _ h
          · have h := it_f c24 h
            refine zx_icmp_eq_f (tgt := 79) dX11_wrongLoad_52 (by decide) c24 ?_
            refine zx_aload dX11_wrongLoad_55 (q := 0) rfl ?_
            refine zx_bipush (v := 13) dX11_wrongLoad_57 iv_bipush_13 ?_
            obtain ⟨h25, h⟩ := ck_e h
            refine zx_iald hG rfl (h22).1 (h22).2 (inb_e h25) dX11_wrongLoad_59 ?_
            by_cases c26 : ¬ (mI μ p17 (Int32.toNatClampNeg 13)) = 0
            · have h := it_t c26 h
              refine zx_if_ne_t (tgt := 79) dX11_wrongLoad_60 (by decide) c26 ?_
              refine zx_sub (L' := [(0, .ref a0), (2, .ref a2), (3, .int x3), (4, .ref p17)]) [1, 2, 3, 0] rfl ?_
              exact s_X11_wrongLoad_b79 hG ih _ _ _ _ _ _ h
            · have h := it_f c26 h
              refine zx_if_ne_f (tgt := 79) dX11_wrongLoad_60 (by decide) (Classical.not_not.mp c26) ?_
              refine zx_aload dX11_wrongLoad_63 (q := 0) rfl ?_
              refine zx_bipush (v := 14) dX11_wrongLoad_65 iv_bipush_14 ?_
              obtain ⟨h27, h⟩ := ck_e h
              refine zx_iald hG rfl (h22).1 (h22).2 (inb_e h27) dX11_wrongLoad_67 ?_
              refine zx_aload_n dX11_wrongLoad_68 rfl (q := 2) rfl ?_
              refine zx_bipush (v := 14) dX11_wrongLoad_69 iv_bipush_14 ?_
              obtain ⟨h28, h⟩ := ck_e h
              refine zx_iald hG rfl (h10).1 (h10).2 (inb_e h28) dX11_wrongLoad_71 ?_
              by_cases c29 : ¬ (mI μ p17 (Int32.toNatClampNeg 14)) = (mI μ a2 (Int32.toNatClampNeg 14))
              · have h := it_t c29 h
                refine zx_icmp_ne_t (tgt := 79) dX11_wrongLoad_72 (by decide) c29 ?_
                refine zx_sub (L' := [(0, .ref a0), (2, .ref a2), (3, .int x3), (4, .ref p17)]) [1, 2, 3, 0] rfl ?_
                exact s_X11_wrongLoad_b79 hG ih _ _ _ _ _ _ h
              · have h := it_f c29 h
                refine zx_icmp_ne_f (tgt := 79) dX11_wrongLoad_72 (by decide) (Classical.not_not.mp c29) ?_
                refine zx_iconst (v := 1) dX11_wrongLoad_75 iv_iconst_1 ?_
                refine zx_goto (tgt := 80) dX11_wrongLoad_76 (by decide) ?_
                refine zx_sub (L' := [(0, .ref a0), (2, .ref a2), (3, .int x3), (4, .ref p17)]) [1, 2, 3, 0] rfl ?_
                exact s_X11_wrongLoad_b80 hG ih _ _ _ _ _ _ _ h
set_option maxRecDepth 100000 in
theorem s_X11_wrongLoad {l : Launch} {G : Gt} (hG : Gok l G) (a0 : Nat) (x1 : Int32) (μ : Mm) (r : Int32) (h : f_X11_wrongLoad a0 x1 μ = some r) : ZX l G mX11_wrongLoad 0 [(0, .ref a0), (1, .int x1)] [] μ (.inl (some (.int r))) μ := by
  unfold f_X11_wrongLoad at h
  refine zx_aload_n dX11_wrongLoad_0 rfl (q := 0) rfl ?_
  obtain ⟨h1, h⟩ := ck_e h
  obtain ⟨p2, h3, h⟩ := bd_e h
  refine zx_getR hG fl_X11_74 h1 h3 dX11_wrongLoad_1 ?_
  refine zx_iload_n dX11_wrongLoad_4 rfl (q := 1) rfl ?_
  obtain ⟨h4, h⟩ := ck_e h
  obtain ⟨h5, h⟩ := ck_e h
  obtain ⟨p6, h7, h⟩ := bd_e h
  refine zx_aald hG rfl (h4).1 (h4).2 (inb_e h5) h7 dX11_wrongLoad_5 ?_
  refine zx_astore_n (L' := [(2, .ref p6), (0, .ref a0), (1, .int x1)]) dX11_wrongLoad_6 rfl (by decide) rfl ?_
  refine zx_iload_n dX11_wrongLoad_7 rfl (q := 2) rfl ?_
  refine zx_iconst (v := 1) dX11_wrongLoad_8 iv_iconst_1 ?_
  refine zx_iadd dX11_wrongLoad_9 ?_
  refine zx_istore_n (L' := [(3, .int (x1 + 1)), (2, .ref p6), (0, .ref a0), (1, .int x1)]) dX11_wrongLoad_10 rfl (by decide) rfl ?_
  refine zx_sub (L' := [(0, .ref a0), (2, .ref p6), (3, .int (x1 + 1))]) [2, 1, 0] rfl ?_
  exact s_X11_wrongLoad_b11 hG 5000 _ _ _ _ _ h
def f_X11_stackAs_b2 : Nat → Nat → Nat → Int32 → Int32 → Mm → Option (Unit × Mm)
  | 0, _, _, _, _, _ => none
  | n + 1, a0, a1, x2, x3, μ =>
  if 4 < x3 then
    some ((), μ)
  else
    ck (mK μ a0 = 112) <|
    bd (mR μ a0 28) fun p3 =>
    ck (isA 1 (mK μ a1)) <|
    ck (inb (x2 + x3) (mL μ a1)) <|
    ck (isA 1 (mK μ p3)) <|
    ck (inb x3 (mL μ p3)) <|
    zl (sI μ p3 (Int32.toNatClampNeg x3) (mI μ a1 (Int32.toNatClampNeg (x2 + x3)))) fun μ9 =>
    f_X11_stackAs_b2 n a0 a1 x2 (x3 + 1) μ9
def f_X11_stackAs (a0 : Nat) (a1 : Nat) (x2 : Int32) (μ : Mm) : Option (Unit × Mm) :=
  f_X11_stackAs_b2 5000 a0 a1 x2 0 μ
set_option maxRecDepth 100000 in
theorem s_X11_stackAs_b2 {l : Launch} {G : Gt} (hG : Gok l G) : ∀ (n : Nat) (a0 : Nat) (a1 : Nat) (x2 : Int32) (x3 : Int32) (μ : Mm) (r : Unit) (μ' : Mm), f_X11_stackAs_b2 n a0 a1 x2 x3 μ = some (r, μ') → ZX l G mX11_stackAs 2 [(0, .ref a0), (1, .ref a1), (2, .int x2), (3, .int x3)] [] μ (.inl none) μ' := by
  intro n
  induction n with
  | zero =>
    intro a0 a1 x2 x3 μ r μ' h
    cases h
  | succ n ih =>
    intro a0 a1 x2 x3 μ r μ' h
    unfold f_X11_stackAs_b2 at h
    refine zx_iload_n dX11_stackAs_2 rfl (q := 3) rfl ?_
    refine zx_iconst (v := 4) dX11_stackAs_3 iv_iconst_4 ?_
    by_cases c1 : 4 < x3
    · have h := it_t c1 h
      refine zx_icmp_gt_t (tgt := 24) dX11_stackAs_4 (by decide) c1 ?_
      cases h
      exact zx_vret dX11_stackAs_24 rfl
    · have h := it_f c1 h
      refine zx_icmp_gt_f (tgt := 24) dX11_stackAs_4 (by decide) c1 ?_
      refine zx_aload_n dX11_stackAs_7 rfl (q := 0) rfl ?_
      obtain ⟨h2, h⟩ := ck_e h
      obtain ⟨p3, h4, h⟩ := bd_e h
      refine zx_getR hG fl_X11_80 h2 h4 dX11_stackAs_8 ?_
      refine zx_iload_n dX11_stackAs_11 rfl (q := 3) rfl ?_
      refine zx_aload_n dX11_stackAs_12 rfl (q := 1) rfl ?_
      refine zx_iload_n dX11_stackAs_13 rfl (q := 2) rfl ?_
      refine zx_iload_n dX11_stackAs_14 rfl (q := 3) rfl ?_
      refine zx_iadd dX11_stackAs_15 ?_
      obtain ⟨h5, h⟩ := ck_e h
      obtain ⟨h6, h⟩ := ck_e h
      refine zx_iald hG rfl (h5).1 (h5).2 (inb_e h6) dX11_stackAs_16 ?_
      obtain ⟨h7, h⟩ := ck_e h
      obtain ⟨h8, h⟩ := ck_e h
      refine zx_iast hG rfl (h7).1 (h7).2 (inb_e h8) dX11_stackAs_17 ?_
      obtain ⟨μ9, e11, h⟩ := zlm_e h
      refine zx_mem e11 ?_
      have e10 : mK μ9 = mK μ := (congrArg mK e11).trans rfl
      refine zx_iinc (q := 3) (v := x3 + 1) (L' := [(3, .int (x3 + 1)), (0, .ref a0), (1, .ref a1), (2, .int x2)]) dX11_stackAs_18 rfl rfl (by decide) rfl ?_
      refine zx_goto (tgt := 2) dX11_stackAs_21 (by decide) ?_
      refine zx_sub (L' := [(0, .ref a0), (1, .ref a1), (2, .int x2), (3, .int (x3 + 1))]) [1, 2, 3, 0] rfl ?_
      exact ih _ _ _ _ _ _ _ h
set_option maxRecDepth 100000 in
theorem s_X11_stackAs {l : Launch} {G : Gt} (hG : Gok l G) (a0 : Nat) (a1 : Nat) (x2 : Int32) (μ : Mm) (r : Unit) (μ' : Mm) (h : f_X11_stackAs a0 a1 x2 μ = some (r, μ')) : ZX l G mX11_stackAs 0 [(0, .ref a0), (1, .ref a1), (2, .int x2)] [] μ (.inl none) μ' := by
  unfold f_X11_stackAs at h
  refine zx_iconst (v := 0) dX11_stackAs_0 iv_iconst_0 ?_
  refine zx_istore_n (L' := [(3, .int 0), (0, .ref a0), (1, .ref a1), (2, .int x2)]) dX11_stackAs_1 rfl (by decide) rfl ?_
  refine zx_sub (L' := [(0, .ref a0), (1, .ref a1), (2, .int x2), (3, .int 0)]) [1, 2, 3, 0] rfl ?_
  exact s_X11_stackAs_b2 hG 5000 _ _ _ _ _ _ _ h
def f_X11_goesOn (a0 : Nat) (x1 : Int32) (μ : Mm) : Option (Unit × Mm) :=
  ck (mK μ a0 = 112) <|
  zl (sI μ a0 26 x1) fun μ2 =>
  zl (sI μ2 a0 27 0) fun μ5 =>
  zl (sI μ5 a0 25 0) fun μ8 =>
  some ((), μ8)
set_option maxRecDepth 100000 in
theorem s_X11_goesOn {l : Launch} {G : Gt} (hG : Gok l G) (a0 : Nat) (x1 : Int32) (μ : Mm) (r : Unit) (μ' : Mm) (h : f_X11_goesOn a0 x1 μ = some (r, μ')) : ZX l G mX11_goesOn 0 [(0, .ref a0), (1, .int x1)] [] μ (.inl none) μ' := by
  unfold f_X11_goesOn at h
  refine zx_aload_n dX11_goesOn_0 rfl (q := 0) rfl ?_
  refine zx_iload_n dX11_goesOn_1 rfl (q := 1) rfl ?_
  obtain ⟨h1, h⟩ := ck_e h
  refine zx_putI hG fl_X11_180 fn_12_26 h1 dX11_goesOn_2 ?_
  obtain ⟨μ2, e4, h⟩ := zlm_e h
  refine zx_mem e4 ?_
  have e3 : mK μ2 = mK μ := (congrArg mK e4).trans rfl
  refine zx_aload_n dX11_goesOn_5 rfl (q := 0) rfl ?_
  refine zx_iconst (v := 0) dX11_goesOn_6 iv_iconst_0 ?_
  refine zx_putZ hG fl_X11_174 fn_12_27 (kp_o (e3) h1) zb_0 dX11_goesOn_7 ?_
  obtain ⟨μ5, e7, h⟩ := zlm_e h
  refine zx_mem e7 ?_
  have e6 : mK μ5 = mK μ2 := (congrArg mK e7).trans rfl
  refine zx_aload_n dX11_goesOn_10 rfl (q := 0) rfl ?_
  refine zx_iconst (v := 0) dX11_goesOn_11 iv_iconst_0 ?_
  refine zx_putI hG fl_X11_177 fn_12_25 (kp_o (Eq.trans e6 e3) h1) dX11_goesOn_12 ?_
  obtain ⟨μ8, e10, h⟩ := zlm_e h
  refine zx_mem e10 ?_
  have e9 : mK μ8 = mK μ5 := (congrArg mK e10).trans rfl
  cases h
  exact zx_vret dX11_goesOn_15 rfl
def f_X11_throwsFrom_b70 (k7 : Nat → Int32 → Int32 → Mm → Option (Unit × Mm)) (a0 : Nat) (x1 : Int32) (x2 : Int32) (μ : Mm) : Option (Unit × Mm) :=
  ck (mK μ a0 = 112) <|
  zl (sI μ a0 50 ((mI μ a0 50) + 1)) fun μ47 =>
  k7 a0 x1 (x2 + (-1)) μ47
def f_X11_throwsFrom_b86 (a0 : Nat) (x1 : Int32) (μ : Mm) : Option (Unit × Mm) :=
  ck (mK μ a0 = 112) <|
  bd (f_J9_min_7cf53 (mI μ a0 23) x1) fun y41 =>
  zl (sI μ a0 23 y41) fun μ43 =>
  some ((), μ43)
def f_X11_throwsFrom_b7 : Nat → Nat → Int32 → Int32 → Mm → Option (Unit × Mm)
  | 0, _, _, _, _ => none
  | n + 1, a0, x1, x2, μ =>
  if x2 < x1 then
    f_X11_throwsFrom_b86 a0 x1 μ
  else
    ck (mK μ a0 = 112) <|
    bd (mR μ a0 22) fun p4 =>
    ck (isA56 (mK μ p4)) <|
    ck (inb x2 (mL μ p4)) <|
    bd (mR μ p4 (Int32.toNatClampNeg x2)) fun p8 =>
    bd (f_X11_codeOf a0 p8 μ) fun y10 =>
    bd (f_X11_hasD y10) fun y12 =>
    if y12 = 0 then
      f_X11_throwsFrom_b70 (f_X11_throwsFrom_b7 n) a0 x1 x2 μ
    else
      bd (mR μ a0 16) fun p15 =>
      bd (mR μ a0 1) fun p17 =>
      ck (isA 1 (mK μ p8)) <|
      ck (inb 0 (mL μ p8)) <|
      ck (isA 1 (mK μ p17)) <|
      ck (inb (mI μ p8 (Int32.toNatClampNeg 0)) (mL μ p17)) <|
      ck (inb 10 (mL μ p8)) <|
      ck (isA 1 (mK μ p15)) <|
      ck (inb (mI μ p17 (Int32.toNatClampNeg (mI μ p8 (Int32.toNatClampNeg 0)))) (mL μ p15)) <|
      zl (sI μ p15 (Int32.toNatClampNeg (mI μ p17 (Int32.toNatClampNeg (mI μ p8 (Int32.toNatClampNeg 0))))) (mI μ p8 (Int32.toNatClampNeg 10))) fun μ26 =>
      bd (mR μ26 a0 20) fun p29 =>
      ck (inb 9 (mL μ26 p8)) <|
      ck (isA 1 (mK μ26 p29)) <|
      ck (inb (mI μ26 a0 21) (mL μ26 p29)) <|
      zl (sI μ26 p29 (Int32.toNatClampNeg (mI μ26 a0 21)) (mI μ26 p8 (Int32.toNatClampNeg 9))) fun μ34 =>
      zl (sI μ34 a0 21 ((mI μ34 a0 21) + 1)) fun μ37 =>
      f_X11_throwsFrom_b70 (f_X11_throwsFrom_b7 n) a0 x1 x2 μ37
def f_X11_throwsFrom (a0 : Nat) (x1 : Int32) (μ : Mm) : Option (Unit × Mm) :=
  ck (mK μ a0 = 112) <|
  f_X11_throwsFrom_b7 5000 a0 x1 ((mI μ a0 23) - 1) μ
set_option maxRecDepth 100000 in
theorem s_X11_throwsFrom_b70 {l : Launch} {G : Gt} (hG : Gok l G) {k7 : Nat → Int32 → Int32 → Mm → Option (Unit × Mm)} (hk7 : ∀ (a0 : Nat) (x1 : Int32) (x2 : Int32) (μ : Mm) (r : Unit) (μ' : Mm), k7 a0 x1 x2 μ = some (r, μ') → ZX l G mX11_throwsFrom 7 [(0, .ref a0), (1, .int x1), (2, .int x2)] [] μ (.inl none) μ') (a0 : Nat) (x1 : Int32) (x2 : Int32) (μ : Mm) (r : Unit) (μ' : Mm) (h : f_X11_throwsFrom_b70 k7 a0 x1 x2 μ = some (r, μ')) : ZX l G mX11_throwsFrom 70 [(0, .ref a0), (1, .int x1), (2, .int x2)] [] μ (.inl none) μ' := by
  unfold f_X11_throwsFrom_b70 at h
  refine zx_aload_n dX11_throwsFrom_70 rfl (q := 0) rfl ?_
  refine zx_dup dX11_throwsFrom_71 rfl ?_
  obtain ⟨h46, h⟩ := ck_e h
  refine zx_getI hG fl_X11_253 h46 dX11_throwsFrom_72 ?_
  refine zx_iconst (v := 1) dX11_throwsFrom_75 iv_iconst_1 ?_
  refine zx_iadd dX11_throwsFrom_76 ?_
  refine zx_putI hG fl_X11_253 fn_12_50 h46 dX11_throwsFrom_77 ?_
  obtain ⟨μ47, e49, h⟩ := zlm_e h
  refine zx_mem e49 ?_
  have e48 : mK μ47 = mK μ := (congrArg mK e49).trans rfl
  refine zx_iinc (q := 2) (v := x2 + (-1)) (L' := [(2, .int (x2 + (-1))), (0, .ref a0), (1, .int x1)]) dX11_throwsFrom_80 rfl rfl (by decide) rfl ?_
  refine zx_goto (tgt := 7) dX11_throwsFrom_83 (by decide) ?_
  refine zx_sub (L' := [(0, .ref a0), (1, .int x1), (2, .int (x2 + (-1)))]) [1, 2, 0] rfl ?_
  exact hk7 _ _ _ _ _ _ h
set_option maxRecDepth 100000 in
theorem s_X11_throwsFrom_b86 {l : Launch} {G : Gt} (hG : Gok l G) (a0 : Nat) (x1 : Int32) (μ : Mm) (r : Unit) (μ' : Mm) (h : f_X11_throwsFrom_b86 a0 x1 μ = some (r, μ')) : ZX l G mX11_throwsFrom 86 [(0, .ref a0), (1, .int x1)] [] μ (.inl none) μ' := by
  unfold f_X11_throwsFrom_b86 at h
  refine zx_aload_n dX11_throwsFrom_86 rfl (q := 0) rfl ?_
  refine zx_aload_n dX11_throwsFrom_87 rfl (q := 0) rfl ?_
  obtain ⟨h40, h⟩ := ck_e h
  refine zx_getI hG fl_X11_198 h40 dX11_throwsFrom_88 ?_
  refine zx_iload_n dX11_throwsFrom_91 rfl (q := 1) rfl ?_
  obtain ⟨y41, z42, h⟩ := bd_e h
  refine zx_callS (As := [.int (mI μ a0 23), .int x1]) hG mf_J9_min_7cf53 cs_X11_256 ⟨by decide, by decide⟩ rfl rfl (Nat.le_of_ble_eq_true rfl) (s_J9_min_7cf53 hG _ _ _ _ z42) (Nat.le_of_ble_eq_true rfl) dX11_throwsFrom_92 ?_
  refine zx_putI hG fl_X11_198 fn_12_23 h40 dX11_throwsFrom_95 ?_
  obtain ⟨μ43, e45, h⟩ := zlm_e h
  refine zx_mem e45 ?_
  have e44 : mK μ43 = mK μ := (congrArg mK e45).trans rfl
  cases h
  exact zx_vret dX11_throwsFrom_98 rfl
set_option maxRecDepth 100000 in
theorem s_X11_throwsFrom_b7 {l : Launch} {G : Gt} (hG : Gok l G) : ∀ (n : Nat) (a0 : Nat) (x1 : Int32) (x2 : Int32) (μ : Mm) (r : Unit) (μ' : Mm), f_X11_throwsFrom_b7 n a0 x1 x2 μ = some (r, μ') → ZX l G mX11_throwsFrom 7 [(0, .ref a0), (1, .int x1), (2, .int x2)] [] μ (.inl none) μ' := by
  intro n
  induction n with
  | zero =>
    intro a0 x1 x2 μ r μ' h
    cases h
  | succ n ih =>
    intro a0 x1 x2 μ r μ' h
    unfold f_X11_throwsFrom_b7 at h
    refine zx_iload_n dX11_throwsFrom_7 rfl (q := 2) rfl ?_
    refine zx_iload_n dX11_throwsFrom_8 rfl (q := 1) rfl ?_
    by_cases c2 : x2 < x1
    · have h := it_t c2 h
      refine zx_icmp_lt_t (tgt := 86) dX11_throwsFrom_9 (by decide) c2 ?_
      refine zx_sub (L' := [(0, .ref a0), (1, .int x1)]) [0, 1] rfl ?_
      exact s_X11_throwsFrom_b86 hG _ _ _ _ _ h
    · have h := it_f c2 h
      refine zx_icmp_lt_f (tgt := 86) dX11_throwsFrom_9 (by decide) c2 ?_
      refine zx_aload_n dX11_throwsFrom_12 rfl (q := 0) rfl ?_
      obtain ⟨h3, h⟩ := ck_e h
      obtain ⟨p4, h5, h⟩ := bd_e h
      refine zx_getR hG fl_X11_74 h3 h5 dX11_throwsFrom_13 ?_
      refine zx_iload_n dX11_throwsFrom_16 rfl (q := 2) rfl ?_
      obtain ⟨h6, h⟩ := ck_e h
      obtain ⟨h7, h⟩ := ck_e h
      obtain ⟨p8, h9, h⟩ := bd_e h
      refine zx_aald hG rfl (h6).1 (h6).2 (inb_e h7) h9 dX11_throwsFrom_17 ?_
      refine zx_astore_n (L' := [(3, .ref p8), (0, .ref a0), (1, .int x1), (2, .int x2)]) dX11_throwsFrom_18 rfl (by decide) rfl ?_
      refine zx_aload_n dX11_throwsFrom_19 rfl (q := 1) rfl ?_
      refine zx_aload_n dX11_throwsFrom_20 rfl (q := 0) rfl ?_
      obtain ⟨y10, z11, h⟩ := bd_e h
      refine zx_callV (As := [.ref p8]) hG mf_X11_codeOf cv_X11_201 h3 ⟨by decide, by decide⟩ rfl rfl (Nat.le_of_ble_eq_true rfl) (s_X11_codeOf hG _ _ _ _ z11) (Nat.le_of_ble_eq_true rfl) dX11_throwsFrom_21 ?_
      obtain ⟨y12, z13, h⟩ := bd_e h
      refine zx_callS (As := [.int y10]) hG mf_X11_hasD cs_X11_209 ⟨by decide, by decide⟩ rfl rfl (Nat.le_of_ble_eq_true rfl) (s_X11_hasD hG _ _ _ z13) (Nat.le_of_ble_eq_true rfl) dX11_throwsFrom_24 ?_
      by_cases c14 : y12 = 0
      · have h := it_t c14 h
        refine zx_if_eq_t (tgt := 70) dX11_throwsFrom_27 (by decide) c14 ?_
        refine zx_sub (L' := [(0, .ref a0), (1, .int x1), (2, .int x2)]) [1, 2, 3] rfl ?_
        exact s_X11_throwsFrom_b70 hG ih _ _ _ _ _ _ h
      · have h := it_f c14 h
        refine zx_if_eq_f (tgt := 70) dX11_throwsFrom_27 (by decide) c14 ?_
        refine zx_aload_n dX11_throwsFrom_30 rfl (q := 1) rfl ?_
        obtain ⟨p15, h16, h⟩ := bd_e h
        refine zx_getR hG fl_X11_56 h3 h16 dX11_throwsFrom_31 ?_
        refine zx_aload_n dX11_throwsFrom_34 rfl (q := 1) rfl ?_
        obtain ⟨p17, h18, h⟩ := bd_e h
        refine zx_getR hG fl_X11_13 h3 h18 dX11_throwsFrom_35 ?_
        refine zx_aload_n dX11_throwsFrom_38 rfl (q := 0) rfl ?_
        refine zx_iconst (v := 0) dX11_throwsFrom_39 iv_iconst_0 ?_
        obtain ⟨h19, h⟩ := ck_e h
        obtain ⟨h20, h⟩ := ck_e h
        refine zx_iald hG rfl (h19).1 (h19).2 (inb_e h20) dX11_throwsFrom_40 ?_
        obtain ⟨h21, h⟩ := ck_e h
        obtain ⟨h22, h⟩ := ck_e h
        refine zx_iald hG rfl (h21).1 (h21).2 (inb_e h22) dX11_throwsFrom_41 ?_
        refine zx_aload_n dX11_throwsFrom_42 rfl (q := 0) rfl ?_
        refine zx_bipush (v := 10) dX11_throwsFrom_43 iv_bipush_10 ?_
        obtain ⟨h23, h⟩ := ck_e h
        refine zx_iald hG rfl (h19).1 (h19).2 (inb_e h23) dX11_throwsFrom_45 ?_
        obtain ⟨h24, h⟩ := ck_e h
        obtain ⟨h25, h⟩ := ck_e h
        refine zx_iast hG rfl (h24).1 (h24).2 (inb_e h25) dX11_throwsFrom_46 ?_
        obtain ⟨μ26, e28, h⟩ := zlm_e h
        refine zx_mem e28 ?_
        have e27 : mK μ26 = mK μ := (congrArg mK e28).trans rfl
        refine zx_aload_n dX11_throwsFrom_47 rfl (q := 1) rfl ?_
        obtain ⟨p29, h30, h⟩ := bd_e h
        refine zx_getR hG fl_X11_69 (kp_o (e27) h3) h30 dX11_throwsFrom_48 ?_
        refine zx_aload_n dX11_throwsFrom_51 rfl (q := 1) rfl ?_
        refine zx_getI hG fl_X11_126 (kp_o (e27) h3) dX11_throwsFrom_52 ?_
        refine zx_aload_n dX11_throwsFrom_55 rfl (q := 0) rfl ?_
        refine zx_bipush (v := 9) dX11_throwsFrom_56 iv_bipush_9 ?_
        obtain ⟨h31, h⟩ := ck_e h
        refine zx_iald hG rfl ((kp_a (e27) h19)).1 ((kp_a (e27) h19)).2 (inb_e h31) dX11_throwsFrom_58 ?_
        obtain ⟨h32, h⟩ := ck_e h
        obtain ⟨h33, h⟩ := ck_e h
        refine zx_iast hG rfl (h32).1 (h32).2 (inb_e h33) dX11_throwsFrom_59 ?_
        obtain ⟨μ34, e36, h⟩ := zlm_e h
        refine zx_mem e36 ?_
        have e35 : mK μ34 = mK μ26 := (congrArg mK e36).trans rfl
        refine zx_aload_n dX11_throwsFrom_60 rfl (q := 1) rfl ?_
        refine zx_dup dX11_throwsFrom_61 rfl ?_
        refine zx_getI hG fl_X11_126 (kp_o (Eq.trans e35 e27) h3) dX11_throwsFrom_62 ?_
        refine zx_iconst (v := 1) dX11_throwsFrom_65 iv_iconst_1 ?_
        refine zx_iadd dX11_throwsFrom_66 ?_
        refine zx_putI hG fl_X11_126 fn_12_21 (kp_o (Eq.trans e35 e27) h3) dX11_throwsFrom_67 ?_
        obtain ⟨μ37, e39, h⟩ := zlm_e h
        refine zx_mem e39 ?_
        have e38 : mK μ37 = mK μ34 := (congrArg mK e39).trans rfl
        refine zx_sub (L' := [(0, .ref a0), (1, .int x1), (2, .int x2)]) [1, 2, 3] rfl ?_
        exact s_X11_throwsFrom_b70 hG ih _ _ _ _ _ _ h
set_option maxRecDepth 100000 in
theorem s_X11_throwsFrom {l : Launch} {G : Gt} (hG : Gok l G) (a0 : Nat) (x1 : Int32) (μ : Mm) (r : Unit) (μ' : Mm) (h : f_X11_throwsFrom a0 x1 μ = some (r, μ')) : ZX l G mX11_throwsFrom 0 [(0, .ref a0), (1, .int x1)] [] μ (.inl none) μ' := by
  unfold f_X11_throwsFrom at h
  refine zx_aload_n dX11_throwsFrom_0 rfl (q := 0) rfl ?_
  obtain ⟨h1, h⟩ := ck_e h
  refine zx_getI hG fl_X11_198 h1 dX11_throwsFrom_1 ?_
  refine zx_iconst (v := 1) dX11_throwsFrom_4 iv_iconst_1 ?_
  refine zx_isub dX11_throwsFrom_5 ?_
  refine zx_istore_n (L' := [(2, .int ((mI μ a0 23) - 1)), (0, .ref a0), (1, .int x1)]) dX11_throwsFrom_6 rfl (by decide) rfl ?_
  refine zx_sub (L' := [(0, .ref a0), (1, .int x1), (2, .int ((mI μ a0 23) - 1))]) [1, 2, 0] rfl ?_
  exact s_X11_throwsFrom_b7 hG 5000 _ _ _ _ _ _ h
def f_X11_finds_b97 (a1 : Nat) (x3 : Int32) (μ : Mm) : Option (Unit × Mm) :=
  ck (isA 1 (mK μ a1)) <|
  ck (inb 6 (mL μ a1)) <|
  zl (sI μ a1 (Int32.toNatClampNeg 6) x3) fun μ36 =>
  bd (f_X11_in x3 0 63) fun y39 =>
  if y39 = 0 then
    ck (inb 13 (mL μ36 a1)) <|
    zl (sI μ36 a1 (Int32.toNatClampNeg 13) 3) fun μ43 =>
    some ((), μ43)
  else
    ck (inb 13 (mL μ36 a1)) <|
    zl (sI μ36 a1 (Int32.toNatClampNeg 13) 0) fun μ47 =>
    some ((), μ47)
def f_X11_finds_b84 (a1 : Nat) (x2 : Int32) (x3 : Int32) (s0 : Int32) (s1 : Int32) (s2 : Nat) (μ : Mm) : Option (Unit × Mm) :=
  ck (isA 1 (mK μ s2)) <|
  ck (inb s1 (mL μ s2)) <|
  zl (sI μ s2 (Int32.toNatClampNeg s1) s0) fun μ29 =>
  if x2 = 16 then
    f_X11_finds_b97 a1 x3 μ29
  else
    if ¬ x2 = 17 then
      some ((), μ29)
    else
      f_X11_finds_b97 a1 x3 μ29
def f_X11_finds_b58 (a0 : Nat) (a1 : Nat) (x2 : Int32) (x3 : Int32) (s0 : Int32) (μ : Mm) : Option (Unit × Mm) :=
  if s0 = 0 then
    ck (isA 1 (mK μ a1)) <|
    ck (inb 0 (mL μ a1)) <|
    f_X11_finds_b84 a1 x2 x3 ((mI μ a1 (Int32.toNatClampNeg 0)) + 1) 6 a1 μ
  else
    ck (mK μ a0 = 112) <|
    bd (mR μ a0 4) fun p21 =>
    ck (isA 1 (mK μ a1)) <|
    ck (inb 0 (mL μ a1)) <|
    ck (isA 1 (mK μ p21)) <|
    ck (inb (mI μ a1 (Int32.toNatClampNeg 0)) (mL μ p21)) <|
    f_X11_finds_b84 a1 x2 x3 (mI μ p21 (Int32.toNatClampNeg (mI μ a1 (Int32.toNatClampNeg 0)))) 6 a1 μ
def f_X11_finds_b57 (a0 : Nat) (a1 : Nat) (x2 : Int32) (x3 : Int32) (μ : Mm) : Option (Unit × Mm) :=
  f_X11_finds_b58 a0 a1 x2 x3 0 μ
def f_X11_finds (a0 : Nat) (a1 : Nat) (x2 : Int32) (μ : Mm) : Option (Unit × Mm) :=
  ck (mK μ a0 = 112) <|
  bd (mR μ a0 18) fun p2 =>
  ck (isA 1 (mK μ a1)) <|
  ck (inb 7 (mL μ a1)) <|
  ck (isA 1 (mK μ p2)) <|
  ck (inb (mI μ a1 (Int32.toNatClampNeg 7)) (mL μ p2)) <|
  bd (mR μ a0 18) fun p8 =>
  ck (inb 8 (mL μ a1)) <|
  ck (isA 1 (mK μ p8)) <|
  ck (inb (mI μ a1 (Int32.toNatClampNeg 8)) (mL μ p8)) <|
  if ¬ x2 = 12 then
    if ¬ x2 = 13 then
      f_X11_finds_b57 a0 a1 x2 (mI μ p2 (Int32.toNatClampNeg (mI μ a1 (Int32.toNatClampNeg 7)))) μ
    else
      if (mI μ p8 (Int32.toNatClampNeg (mI μ a1 (Int32.toNatClampNeg 8)))) ≤ (mI μ p2 (Int32.toNatClampNeg (mI μ a1 (Int32.toNatClampNeg 7)))) then
        f_X11_finds_b57 a0 a1 x2 (mI μ p2 (Int32.toNatClampNeg (mI μ a1 (Int32.toNatClampNeg 7)))) μ
      else
        f_X11_finds_b58 a0 a1 x2 (mI μ p2 (Int32.toNatClampNeg (mI μ a1 (Int32.toNatClampNeg 7)))) 1 μ
  else
    if ¬ (mI μ p2 (Int32.toNatClampNeg (mI μ a1 (Int32.toNatClampNeg 7)))) = (mI μ p8 (Int32.toNatClampNeg (mI μ a1 (Int32.toNatClampNeg 8)))) then
      f_X11_finds_b58 a0 a1 x2 (mI μ p2 (Int32.toNatClampNeg (mI μ a1 (Int32.toNatClampNeg 7)))) 0 μ
    else
      f_X11_finds_b58 a0 a1 x2 (mI μ p2 (Int32.toNatClampNeg (mI μ a1 (Int32.toNatClampNeg 7)))) 1 μ
set_option maxRecDepth 100000 in
theorem s_X11_finds_b97 {l : Launch} {G : Gt} (hG : Gok l G) (a1 : Nat) (x3 : Int32) (μ : Mm) (r : Unit) (μ' : Mm) (h : f_X11_finds_b97 a1 x3 μ = some (r, μ')) : ZX l G mX11_finds 97 [(1, .ref a1), (3, .int x3)] [] μ (.inl none) μ' := by
  unfold f_X11_finds_b97 at h
  refine zx_aload_n dX11_finds_97 rfl (q := 0) rfl ?_
  refine zx_bipush (v := 6) dX11_finds_98 iv_bipush_6 ?_
  refine zx_iload_n dX11_finds_100 rfl (q := 1) rfl ?_
  obtain ⟨h34, h⟩ := ck_e h
  obtain ⟨h35, h⟩ := ck_e h
  refine zx_iast hG rfl (h34).1 (h34).2 (inb_e h35) dX11_finds_101 ?_
  obtain ⟨μ36, e38, h⟩ := zlm_e h
  refine zx_mem e38 ?_
  have e37 : mK μ36 = mK μ := (congrArg mK e38).trans rfl
  refine zx_aload_n dX11_finds_102 rfl (q := 0) rfl ?_
  refine zx_bipush (v := 13) dX11_finds_103 iv_bipush_13 ?_
  refine zx_iload_n dX11_finds_105 rfl (q := 1) rfl ?_
  refine zx_iconst (v := 0) dX11_finds_106 iv_iconst_0 ?_
  refine zx_bipush (v := 63) dX11_finds_107 iv_bipush_63 ?_
  obtain ⟨y39, z40, h⟩ := bd_e h
  refine zx_callS (As := [.int x3, .int 0, .int 63]) hG mf_X11_in cs_X11_129 ⟨by decide, by decide⟩ rfl rfl (Nat.le_of_ble_eq_true rfl) (s_X11_in hG _ _ _ _ _ z40) (Nat.le_of_ble_eq_true rfl) dX11_finds_109 ?_
  by_cases c41 : y39 = 0
  · have h := it_t c41 h
    refine zx_if_eq_t (tgt := 119) dX11_finds_112 (by decide) c41 ?_
    refine zx_iconst (v := 3) dX11_finds_119 iv_iconst_3 ?_
    obtain ⟨h42, h⟩ := ck_e h
    refine zx_iast hG rfl ((kp_a (e37) h34)).1 ((kp_a (e37) h34)).2 (inb_e h42) dX11_finds_120 ?_
    obtain ⟨μ43, e45, h⟩ := zlm_e h
    refine zx_mem e45 ?_
    have e44 : mK μ43 = mK μ36 := (congrArg mK e45).trans rfl
    cases h
    exact zx_vret dX11_finds_121 rfl
  · have h := it_f c41 h
    refine zx_if_eq_f (tgt := 119) dX11_finds_112 (by decide) c41 ?_
    refine zx_iconst (v := 0) dX11_finds_115 iv_iconst_0 ?_
    refine zx_goto (tgt := 120) dX11_finds_116 (by decide) ?_
    obtain ⟨h46, h⟩ := ck_e h
    refine zx_iast hG rfl ((kp_a (e37) h34)).1 ((kp_a (e37) h34)).2 (inb_e h46) dX11_finds_120 ?_
    obtain ⟨μ47, e49, h⟩ := zlm_e h
    refine zx_mem e49 ?_
    have e48 : mK μ47 = mK μ36 := (congrArg mK e49).trans rfl
    cases h
    exact zx_vret dX11_finds_121 rfl
set_option maxRecDepth 100000 in
theorem s_X11_finds_b84 {l : Launch} {G : Gt} (hG : Gok l G) (a1 : Nat) (x2 : Int32) (x3 : Int32) (s0 : Int32) (s1 : Int32) (s2 : Nat) (μ : Mm) (r : Unit) (μ' : Mm) (h : f_X11_finds_b84 a1 x2 x3 s0 s1 s2 μ = some (r, μ')) : ZX l G mX11_finds 84 [(1, .ref a1), (2, .int x2), (3, .int x3)] [.int s0, .int s1, .ref s2] μ (.inl none) μ' := by
  unfold f_X11_finds_b84 at h
  obtain ⟨h27, h⟩ := ck_e h
  obtain ⟨h28, h⟩ := ck_e h
  refine zx_iast hG rfl (h27).1 (h27).2 (inb_e h28) dX11_finds_84 ?_
  obtain ⟨μ29, e31, h⟩ := zlm_e h
  refine zx_mem e31 ?_
  have e30 : mK μ29 = mK μ := (congrArg mK e31).trans rfl
  refine zx_iload_n dX11_finds_85 rfl (q := 1) rfl ?_
  refine zx_bipush (v := 16) dX11_finds_86 iv_bipush_16 ?_
  by_cases c32 : x2 = 16
  · have h := it_t c32 h
    refine zx_icmp_eq_t (tgt := 97) dX11_finds_88 (by decide) c32 ?_
    refine zx_sub (L' := [(1, .ref a1), (3, .int x3)]) [0, 2] rfl ?_
    exact s_X11_finds_b97 hG _ _ _ _ _ h
  · have h := it_f c32 h
    refine zx_icmp_eq_f (tgt := 97) dX11_finds_88 (by decide) c32 ?_
    refine zx_iload_n dX11_finds_91 rfl (q := 1) rfl ?_
    refine zx_bipush (v := 17) dX11_finds_92 iv_bipush_17 ?_
    by_cases c33 : ¬ x2 = 17
    · have h := it_t c33 h
      refine zx_icmp_ne_t (tgt := 121) dX11_finds_94 (by decide) c33 ?_
      cases h
      exact zx_vret dX11_finds_121 rfl
    · have h := it_f c33 h
      refine zx_icmp_ne_f (tgt := 121) dX11_finds_94 (by decide) (Classical.not_not.mp c33) ?_
      refine zx_sub (L' := [(1, .ref a1), (3, .int x3)]) [0, 2] rfl ?_
      exact s_X11_finds_b97 hG _ _ _ _ _ h
set_option maxRecDepth 100000 in
theorem s_X11_finds_b58 {l : Launch} {G : Gt} (hG : Gok l G) (a0 : Nat) (a1 : Nat) (x2 : Int32) (x3 : Int32) (s0 : Int32) (μ : Mm) (r : Unit) (μ' : Mm) (h : f_X11_finds_b58 a0 a1 x2 x3 s0 μ = some (r, μ')) : ZX l G mX11_finds 58 [(0, .ref a0), (1, .ref a1), (2, .int x2), (3, .int x3)] [.int s0] μ (.inl none) μ' := by
  unfold f_X11_finds_b58 at h
  refine zx_istore (L' := [(5, .int s0), (0, .ref a0), (1, .ref a1), (2, .int x2), (3, .int x3)]) dX11_finds_58 (by decide) rfl ?_
  refine zx_aload_n dX11_finds_60 rfl (q := 2) rfl ?_
  refine zx_bipush (v := 6) dX11_finds_61 iv_bipush_6 ?_
  refine zx_iload dX11_finds_63 (q := 0) rfl ?_
  by_cases c17 : s0 = 0
  · have h := it_t c17 h
    refine zx_if_eq_t (tgt := 79) dX11_finds_65 (by decide) c17 ?_
    refine zx_aload_n dX11_finds_79 rfl (q := 2) rfl ?_
    refine zx_iconst (v := 0) dX11_finds_80 iv_iconst_0 ?_
    obtain ⟨h18, h⟩ := ck_e h
    obtain ⟨h19, h⟩ := ck_e h
    refine zx_iald hG rfl (h18).1 (h18).2 (inb_e h19) dX11_finds_81 ?_
    refine zx_iconst (v := 1) dX11_finds_82 iv_iconst_1 ?_
    refine zx_iadd dX11_finds_83 ?_
    refine zx_sub (L' := [(1, .ref a1), (2, .int x2), (3, .int x3)]) [2, 3, 4] rfl ?_
    exact s_X11_finds_b84 hG _ _ _ _ _ _ _ _ _ h
  · have h := it_f c17 h
    refine zx_if_eq_f (tgt := 79) dX11_finds_65 (by decide) c17 ?_
    refine zx_aload_n dX11_finds_68 rfl (q := 1) rfl ?_
    obtain ⟨h20, h⟩ := ck_e h
    obtain ⟨p21, h22, h⟩ := bd_e h
    refine zx_getR hG fl_X11_22 h20 h22 dX11_finds_69 ?_
    refine zx_aload_n dX11_finds_72 rfl (q := 2) rfl ?_
    refine zx_iconst (v := 0) dX11_finds_73 iv_iconst_0 ?_
    obtain ⟨h23, h⟩ := ck_e h
    obtain ⟨h24, h⟩ := ck_e h
    refine zx_iald hG rfl (h23).1 (h23).2 (inb_e h24) dX11_finds_74 ?_
    obtain ⟨h25, h⟩ := ck_e h
    obtain ⟨h26, h⟩ := ck_e h
    refine zx_iald hG rfl (h25).1 (h25).2 (inb_e h26) dX11_finds_75 ?_
    refine zx_goto (tgt := 84) dX11_finds_76 (by decide) ?_
    refine zx_sub (L' := [(1, .ref a1), (2, .int x2), (3, .int x3)]) [2, 3, 4] rfl ?_
    exact s_X11_finds_b84 hG _ _ _ _ _ _ _ _ _ h
set_option maxRecDepth 100000 in
theorem s_X11_finds_b57 {l : Launch} {G : Gt} (hG : Gok l G) (a0 : Nat) (a1 : Nat) (x2 : Int32) (x3 : Int32) (μ : Mm) (r : Unit) (μ' : Mm) (h : f_X11_finds_b57 a0 a1 x2 x3 μ = some (r, μ')) : ZX l G mX11_finds 57 [(0, .ref a0), (1, .ref a1), (2, .int x2), (3, .int x3)] [] μ (.inl none) μ' := by
  unfold f_X11_finds_b57 at h
  refine zx_iconst (v := 0) dX11_finds_57 iv_iconst_0 ?_
  exact s_X11_finds_b58 hG _ _ _ _ _ _ _ _ h
set_option maxRecDepth 100000 in
theorem s_X11_finds {l : Launch} {G : Gt} (hG : Gok l G) (a0 : Nat) (a1 : Nat) (x2 : Int32) (μ : Mm) (r : Unit) (μ' : Mm) (h : f_X11_finds a0 a1 x2 μ = some (r, μ')) : ZX l G mX11_finds 0 [(0, .ref a0), (1, .ref a1), (2, .int x2)] [] μ (.inl none) μ' := by
  unfold f_X11_finds at h
  refine zx_aload_n dX11_finds_0 rfl (q := 0) rfl ?_
  obtain ⟨h1, h⟩ := ck_e h
  obtain ⟨p2, h3, h⟩ := bd_e h
  refine zx_getR hG fl_X11_62 h1 h3 dX11_finds_1 ?_
  refine zx_aload_n dX11_finds_4 rfl (q := 1) rfl ?_
  refine zx_bipush (v := 7) dX11_finds_5 iv_bipush_7 ?_
  obtain ⟨h4, h⟩ := ck_e h
  obtain ⟨h5, h⟩ := ck_e h
  refine zx_iald hG rfl (h4).1 (h4).2 (inb_e h5) dX11_finds_7 ?_
  obtain ⟨h6, h⟩ := ck_e h
  obtain ⟨h7, h⟩ := ck_e h
  refine zx_iald hG rfl (h6).1 (h6).2 (inb_e h7) dX11_finds_8 ?_
  refine zx_istore_n (L' := [(3, .int (mI μ p2 (Int32.toNatClampNeg (mI μ a1 (Int32.toNatClampNeg 7))))), (0, .ref a0), (1, .ref a1), (2, .int x2)]) dX11_finds_9 rfl (by decide) rfl ?_
  refine zx_aload_n dX11_finds_10 rfl (q := 1) rfl ?_
  obtain ⟨p8, h9, h⟩ := bd_e h
  refine zx_getR hG fl_X11_62 h1 h9 dX11_finds_11 ?_
  refine zx_aload_n dX11_finds_14 rfl (q := 2) rfl ?_
  refine zx_bipush (v := 8) dX11_finds_15 iv_bipush_8 ?_
  obtain ⟨h10, h⟩ := ck_e h
  refine zx_iald hG rfl (h4).1 (h4).2 (inb_e h10) dX11_finds_17 ?_
  obtain ⟨h11, h⟩ := ck_e h
  obtain ⟨h12, h⟩ := ck_e h
  refine zx_iald hG rfl (h11).1 (h11).2 (inb_e h12) dX11_finds_18 ?_
  refine zx_istore (L' := [(4, .int (mI μ p8 (Int32.toNatClampNeg (mI μ a1 (Int32.toNatClampNeg 8))))), (3, .int (mI μ p2 (Int32.toNatClampNeg (mI μ a1 (Int32.toNatClampNeg 7))))), (0, .ref a0), (1, .ref a1), (2, .int x2)]) dX11_finds_19 (by decide) rfl ?_
  refine zx_iload_n dX11_finds_21 rfl (q := 4) rfl ?_
  refine zx_bipush (v := 12) dX11_finds_22 iv_bipush_12 ?_
  by_cases c13 : ¬ x2 = 12
  · have h := it_t c13 h
    refine zx_icmp_ne_t (tgt := 41) dX11_finds_24 (by decide) c13 ?_
    refine zx_iload_n dX11_finds_41 rfl (q := 4) rfl ?_
    refine zx_bipush (v := 13) dX11_finds_42 iv_bipush_13 ?_
    by_cases c14 : ¬ x2 = 13
    · have h := it_t c14 h
      refine zx_icmp_ne_t (tgt := 57) dX11_finds_44 (by decide) c14 ?_
      refine zx_sub (L' := [(0, .ref a0), (1, .ref a1), (2, .int x2), (3, .int (mI μ p2 (Int32.toNatClampNeg (mI μ a1 (Int32.toNatClampNeg 7)))))]) [2, 3, 4, 1] rfl ?_
      exact s_X11_finds_b57 hG _ _ _ _ _ _ _ h
    · have h := it_f c14 h
      refine zx_icmp_ne_f (tgt := 57) dX11_finds_44 (by decide) (Classical.not_not.mp c14) ?_
      refine zx_iload_n dX11_finds_47 rfl (q := 1) rfl ?_
      refine zx_iload dX11_finds_48 (q := 0) rfl ?_
      by_cases c15 : (mI μ p8 (Int32.toNatClampNeg (mI μ a1 (Int32.toNatClampNeg 8)))) ≤ (mI μ p2 (Int32.toNatClampNeg (mI μ a1 (Int32.toNatClampNeg 7))))
      · have h := it_t c15 h
        refine zx_icmp_ge_t (tgt := 57) dX11_finds_50 (by decide) c15 ?_
        refine zx_sub (L' := [(0, .ref a0), (1, .ref a1), (2, .int x2), (3, .int (mI μ p2 (Int32.toNatClampNeg (mI μ a1 (Int32.toNatClampNeg 7)))))]) [2, 3, 4, 1] rfl ?_
        exact s_X11_finds_b57 hG _ _ _ _ _ _ _ h
      · have h := it_f c15 h
        refine zx_icmp_ge_f (tgt := 57) dX11_finds_50 (by decide) c15 ?_
        refine zx_iconst (v := 1) dX11_finds_53 iv_iconst_1 ?_
        refine zx_goto (tgt := 58) dX11_finds_54 (by decide) ?_
        refine zx_sub (L' := [(0, .ref a0), (1, .ref a1), (2, .int x2), (3, .int (mI μ p2 (Int32.toNatClampNeg (mI μ a1 (Int32.toNatClampNeg 7)))))]) [2, 3, 4, 1] rfl ?_
        exact s_X11_finds_b58 hG _ _ _ _ _ _ _ _ h
  · have h := it_f c13 h
    refine zx_icmp_ne_f (tgt := 41) dX11_finds_24 (by decide) (Classical.not_not.mp c13) ?_
    refine zx_iload_n dX11_finds_27 rfl (q := 1) rfl ?_
    refine zx_iload dX11_finds_28 (q := 0) rfl ?_
    by_cases c16 : ¬ (mI μ p2 (Int32.toNatClampNeg (mI μ a1 (Int32.toNatClampNeg 7)))) = (mI μ p8 (Int32.toNatClampNeg (mI μ a1 (Int32.toNatClampNeg 8))))
    · have h := it_t c16 h
      refine zx_icmp_ne_t (tgt := 37) dX11_finds_30 (by decide) c16 ?_
      refine zx_iconst (v := 0) dX11_finds_37 iv_iconst_0 ?_
      refine zx_goto (tgt := 58) dX11_finds_38 (by decide) ?_
      refine zx_sub (L' := [(0, .ref a0), (1, .ref a1), (2, .int x2), (3, .int (mI μ p2 (Int32.toNatClampNeg (mI μ a1 (Int32.toNatClampNeg 7)))))]) [2, 3, 4, 1] rfl ?_
      exact s_X11_finds_b58 hG _ _ _ _ _ _ _ _ h
    · have h := it_f c16 h
      refine zx_icmp_ne_f (tgt := 37) dX11_finds_30 (by decide) (Classical.not_not.mp c16) ?_
      refine zx_iconst (v := 1) dX11_finds_33 iv_iconst_1 ?_
      refine zx_goto (tgt := 58) dX11_finds_34 (by decide) ?_
      refine zx_sub (L' := [(0, .ref a0), (1, .ref a1), (2, .int x2), (3, .int (mI μ p2 (Int32.toNatClampNeg (mI μ a1 (Int32.toNatClampNeg 7)))))]) [2, 3, 4, 1] rfl ?_
      exact s_X11_finds_b58 hG _ _ _ _ _ _ _ _ h
