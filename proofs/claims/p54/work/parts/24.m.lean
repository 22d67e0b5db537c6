theorem dX5_valueOf_0 : decode cX5_valueOf 0 = .ok (.iload_n 1, 1) := by decide +kernel
theorem dX5_valueOf_1 : decode cX5_valueOf 1 = .ok (.ifCond .lt 18, 3) := by decide +kernel
theorem dX5_valueOf_4 : decode cX5_valueOf 4 = .ok (.iload_n 1, 1) := by decide +kernel
theorem dX5_valueOf_5 : decode cX5_valueOf 5 = .ok (.bipush 24, 2) := by decide +kernel
theorem dX5_valueOf_7 : decode cX5_valueOf 7 = .ok (.if_icmp .ge 12, 3) := by decide +kernel
theorem dX5_valueOf_10 : decode cX5_valueOf 10 = .ok (.aload_n 0, 1) := by decide +kernel
theorem dX5_valueOf_11 : decode cX5_valueOf 11 = .ok (.getfield 18, 3) := by decide +kernel
theorem dX5_valueOf_14 : decode cX5_valueOf 14 = .ok (.iload_n 1, 1) := by decide +kernel
theorem dX5_valueOf_15 : decode cX5_valueOf 15 = .ok (.iaload, 1) := by decide +kernel
theorem dX5_valueOf_16 : decode cX5_valueOf 16 = .ok (.goto 4, 3) := by decide +kernel
theorem dX5_valueOf_19 : decode cX5_valueOf 19 = .ok (.iconst 0, 1) := by decide +kernel
theorem dX5_valueOf_20 : decode cX5_valueOf 20 = .ok (.ireturn, 1) := by decide +kernel
theorem dX0_retireOldest_0 : decode cX0_retireOldest 0 = .ok (.aload_n 1, 1) := by decide +kernel
theorem dX0_retireOldest_1 : decode cX0_retireOldest 1 = .ok (.getfield 161, 3) := by decide +kernel
theorem dX0_retireOldest_4 : decode cX0_retireOldest 4 = .ok (.astore_n 2, 1) := by decide +kernel
theorem dX0_retireOldest_5 : decode cX0_retireOldest 5 = .ok (.aload_n 0, 1) := by decide +kernel
theorem dX0_retireOldest_6 : decode cX0_retireOldest 6 = .ok (.aload_n 1, 1) := by decide +kernel
theorem dX0_retireOldest_7 : decode cX0_retireOldest 7 = .ok (.getfield 195, 3) := by decide +kernel
theorem dX0_retireOldest_10 : decode cX0_retireOldest 10 = .ok (.putfield 94, 3) := by decide +kernel
theorem dX0_retireOldest_13 : decode cX0_retireOldest 13 = .ok (.aload_n 0, 1) := by decide +kernel
theorem dX0_retireOldest_14 : decode cX0_retireOldest 14 = .ok (.getfield 42, 3) := by decide +kernel
theorem dX0_retireOldest_17 : decode cX0_retireOldest 17 = .ok (.aload_n 1, 1) := by decide +kernel
theorem dX0_retireOldest_18 : decode cX0_retireOldest 18 = .ok (.invokevirtual 301, 3) := by decide +kernel
theorem dX0_retireOldest_21 : decode cX0_retireOldest 21 = .ok (.aload_n 0, 1) := by decide +kernel
theorem dX0_retireOldest_22 : decode cX0_retireOldest 22 = .ok (.getfield 56, 3) := by decide +kernel
theorem dX0_retireOldest_25 : decode cX0_retireOldest 25 = .ok (.aload_n 1, 1) := by decide +kernel
theorem dX0_retireOldest_26 : decode cX0_retireOldest 26 = .ok (.invokevirtual 304, 3) := by decide +kernel
theorem dX0_retireOldest_29 : decode cX0_retireOldest 29 = .ok (.aload_n 2, 1) := by decide +kernel
theorem dX0_retireOldest_30 : decode cX0_retireOldest 30 = .ok (.invokevirtual 214, 3) := by decide +kernel
theorem dX0_retireOldest_33 : decode cX0_retireOldest 33 = .ok (.ifCond .eq 49, 3) := by decide +kernel
theorem dX0_retireOldest_36 : decode cX0_retireOldest 36 = .ok (.aload_n 1, 1) := by decide +kernel
theorem dX0_retireOldest_37 : decode cX0_retireOldest 37 = .ok (.getfield 137, 3) := by decide +kernel
theorem dX0_retireOldest_40 : decode cX0_retireOldest 40 = .ok (.invokestatic 173, 3) := by decide +kernel
theorem dX0_retireOldest_43 : decode cX0_retireOldest 43 = .ok (.ifCond .eq 39, 3) := by decide +kernel
theorem dX0_retireOldest_46 : decode cX0_retireOldest 46 = .ok (.aload_n 0, 1) := by decide +kernel
theorem dX0_retireOldest_47 : decode cX0_retireOldest 47 = .ok (.getfield 66, 3) := by decide +kernel
theorem dX0_retireOldest_50 : decode cX0_retireOldest 50 = .ok (.aload_n 1, 1) := by decide +kernel
theorem dX0_retireOldest_51 : decode cX0_retireOldest 51 = .ok (.getfield 137, 3) := by decide +kernel
theorem dX0_retireOldest_54 : decode cX0_retireOldest 54 = .ok (.aload_n 2, 1) := by decide +kernel
theorem dX0_retireOldest_55 : decode cX0_retireOldest 55 = .ok (.aload_n 0, 1) := by decide +kernel
theorem dX0_retireOldest_56 : decode cX0_retireOldest 56 = .ok (.getfield 66, 3) := by decide +kernel
theorem dX0_retireOldest_59 : decode cX0_retireOldest 59 = .ok (.aload_n 1, 1) := by decide +kernel
theorem dX0_retireOldest_60 : decode cX0_retireOldest 60 = .ok (.getfield 137, 3) := by decide +kernel
theorem dX0_retireOldest_63 : decode cX0_retireOldest 63 = .ok (.iaload, 1) := by decide +kernel
theorem dX0_retireOldest_64 : decode cX0_retireOldest 64 = .ok (.aload_n 0, 1) := by decide +kernel
theorem dX0_retireOldest_65 : decode cX0_retireOldest 65 = .ok (.getfield 42, 3) := by decide +kernel
theorem dX0_retireOldest_68 : decode cX0_retireOldest 68 = .ok (.aload_n 1, 1) := by decide +kernel
theorem dX0_retireOldest_69 : decode cX0_retireOldest 69 = .ok (.getfield 285, 3) := by decide +kernel
theorem dX0_retireOldest_72 : decode cX0_retireOldest 72 = .ok (.invokevirtual 307, 3) := by decide +kernel
theorem dX0_retireOldest_75 : decode cX0_retireOldest 75 = .ok (.invokevirtual 311, 3) := by decide +kernel
theorem dX0_retireOldest_78 : decode cX0_retireOldest 78 = .ok (.iastore, 1) := by decide +kernel
theorem dX0_retireOldest_79 : decode cX0_retireOldest 79 = .ok (.goto 60, 3) := by decide +kernel
theorem dX0_retireOldest_82 : decode cX0_retireOldest 82 = .ok (.aload_n 2, 1) := by decide +kernel
theorem dX0_retireOldest_83 : decode cX0_retireOldest 83 = .ok (.getfield 165, 3) := by decide +kernel
theorem dX0_retireOldest_86 : decode cX0_retireOldest 86 = .ok (.bipush 18, 2) := by decide +kernel
theorem dX0_retireOldest_88 : decode cX0_retireOldest 88 = .ok (.if_icmp .ne 11, 3) := by decide +kernel
theorem dX0_retireOldest_91 : decode cX0_retireOldest 91 = .ok (.aload_n 0, 1) := by decide +kernel
theorem dX0_retireOldest_92 : decode cX0_retireOldest 92 = .ok (.iconst 1, 1) := by decide +kernel
theorem dX0_retireOldest_93 : decode cX0_retireOldest 93 = .ok (.putfield 81, 3) := by decide +kernel
theorem dX0_retireOldest_96 : decode cX0_retireOldest 96 = .ok (.goto 43, 3) := by decide +kernel
theorem dX0_retireOldest_99 : decode cX0_retireOldest 99 = .ok (.aload_n 2, 1) := by decide +kernel
theorem dX0_retireOldest_100 : decode cX0_retireOldest 100 = .ok (.getfield 165, 3) := by decide +kernel
theorem dX0_retireOldest_103 : decode cX0_retireOldest 103 = .ok (.bipush 21, 2) := by decide +kernel
theorem dX0_retireOldest_105 : decode cX0_retireOldest 105 = .ok (.if_icmp .ne 34, 3) := by decide +kernel
theorem dX0_retireOldest_108 : decode cX0_retireOldest 108 = .ok (.aload_n 0, 1) := by decide +kernel
theorem dX0_retireOldest_109 : decode cX0_retireOldest 109 = .ok (.iconst 0, 1) := by decide +kernel
theorem dX0_retireOldest_110 : decode cX0_retireOldest 110 = .ok (.putfield 88, 3) := by decide +kernel
theorem dX0_retireOldest_113 : decode cX0_retireOldest 113 = .ok (.aload_n 0, 1) := by decide +kernel
theorem dX0_retireOldest_114 : decode cX0_retireOldest 114 = .ok (.aload_n 0, 1) := by decide +kernel
theorem dX0_retireOldest_115 : decode cX0_retireOldest 115 = .ok (.getfield 91, 3) := by decide +kernel
theorem dX0_retireOldest_118 : decode cX0_retireOldest 118 = .ok (.putfield 94, 3) := by decide +kernel
theorem dX0_retireOldest_121 : decode cX0_retireOldest 121 = .ok (.aload_n 0, 1) := by decide +kernel
theorem dX0_retireOldest_122 : decode cX0_retireOldest 122 = .ok (.getfield 56, 3) := by decide +kernel
theorem dX0_retireOldest_125 : decode cX0_retireOldest 125 = .ok (.aload_n 0, 1) := by decide +kernel
theorem dX0_retireOldest_126 : decode cX0_retireOldest 126 = .ok (.getfield 94, 3) := by decide +kernel
theorem dX0_retireOldest_129 : decode cX0_retireOldest 129 = .ok (.aload_n 0, 1) := by decide +kernel
theorem dX0_retireOldest_130 : decode cX0_retireOldest 130 = .ok (.getfield 56, 3) := by decide +kernel
theorem dX0_retireOldest_133 : decode cX0_retireOldest 133 = .ok (.getfield 314, 3) := by decide +kernel
theorem dX0_retireOldest_136 : decode cX0_retireOldest 136 = .ok (.invokevirtual 210, 3) := by decide +kernel
theorem dX0_retireOldest_139 : decode cX0_retireOldest 139 = .ok (.return_, 1) := by decide +kernel
theorem dX0_reasonOfWaiting_0 : decode cX0_reasonOfWaiting 0 = .ok (.aload_n 0, 1) := by decide +kernel
theorem dX0_reasonOfWaiting_1 : decode cX0_reasonOfWaiting 1 = .ok (.getfield 60, 3) := by decide +kernel
theorem dX0_reasonOfWaiting_4 : decode cX0_reasonOfWaiting 4 = .ok (.invokevirtual 282, 3) := by decide +kernel
theorem dX0_reasonOfWaiting_7 : decode cX0_reasonOfWaiting 7 = .ok (.ifCond .eq 6, 3) := by decide +kernel
theorem dX0_reasonOfWaiting_10 : decode cX0_reasonOfWaiting 10 = .ok (.bipush 102, 2) := by decide +kernel
theorem dX0_reasonOfWaiting_12 : decode cX0_reasonOfWaiting 12 = .ok (.ireturn, 1) := by decide +kernel
theorem dX0_reasonOfWaiting_13 : decode cX0_reasonOfWaiting 13 = .ok (.aload_n 0, 1) := by decide +kernel
theorem dX0_reasonOfWaiting_14 : decode cX0_reasonOfWaiting 14 = .ok (.getfield 60, 3) := by decide +kernel
theorem dX0_reasonOfWaiting_17 : decode cX0_reasonOfWaiting 17 = .ok (.iconst 0, 1) := by decide +kernel
theorem dX0_reasonOfWaiting_18 : decode cX0_reasonOfWaiting 18 = .ok (.invokevirtual 127, 3) := by decide +kernel
theorem dX0_reasonOfWaiting_21 : decode cX0_reasonOfWaiting 21 = .ok (.checkcast 131, 3) := by decide +kernel
theorem dX0_reasonOfWaiting_24 : decode cX0_reasonOfWaiting 24 = .ok (.getfield 133, 3) := by decide +kernel
theorem dX0_reasonOfWaiting_27 : decode cX0_reasonOfWaiting 27 = .ok (.istore_n 1, 1) := by decide +kernel
theorem dX0_reasonOfWaiting_28 : decode cX0_reasonOfWaiting 28 = .ok (.iload_n 1, 1) := by decide +kernel
theorem dX0_reasonOfWaiting_29 : decode cX0_reasonOfWaiting 29 = .ok (.bipush 101, 2) := by decide +kernel
theorem dX0_reasonOfWaiting_31 : decode cX0_reasonOfWaiting 31 = .ok (.if_icmp .ne 8, 3) := by decide +kernel
theorem dX0_reasonOfWaiting_34 : decode cX0_reasonOfWaiting 34 = .ok (.bipush 100, 2) := by decide +kernel
theorem dX0_reasonOfWaiting_36 : decode cX0_reasonOfWaiting 36 = .ok (.goto 4, 3) := by decide +kernel
theorem dX0_reasonOfWaiting_39 : decode cX0_reasonOfWaiting 39 = .ok (.iload_n 1, 1) := by decide +kernel
theorem dX0_reasonOfWaiting_40 : decode cX0_reasonOfWaiting 40 = .ok (.ireturn, 1) := by decide +kernel
theorem dX0_doRetiring_0 : decode cX0_doRetiring 0 = .ok (.aload_n 0, 1) := by decide +kernel
theorem dX0_doRetiring_1 : decode cX0_doRetiring 1 = .ok (.getfield 85, 3) := by decide +kernel
theorem dX0_doRetiring_4 : decode cX0_doRetiring 4 = .ok (.ifCond .eq 26, 3) := by decide +kernel
theorem dX0_doRetiring_7 : decode cX0_doRetiring 7 = .ok (.aload_n 0, 1) := by decide +kernel
theorem dX0_doRetiring_8 : decode cX0_doRetiring 8 = .ok (.getfield 88, 3) := by decide +kernel
theorem dX0_doRetiring_11 : decode cX0_doRetiring 11 = .ok (.ifCond .ne 19, 3) := by decide +kernel
theorem dX0_doRetiring_14 : decode cX0_doRetiring 14 = .ok (.aload_n 0, 1) := by decide +kernel
theorem dX0_doRetiring_15 : decode cX0_doRetiring 15 = .ok (.getfield 21, 3) := by decide +kernel
theorem dX0_doRetiring_18 : decode cX0_doRetiring 18 = .ok (.getfield 252, 3) := by decide +kernel
theorem dX0_doRetiring_21 : decode cX0_doRetiring 21 = .ok (.iconst (-1), 1) := by decide +kernel
theorem dX0_doRetiring_22 : decode cX0_doRetiring 22 = .ok (.if_icmp .eq 8, 3) := by decide +kernel
theorem dX0_doRetiring_25 : decode cX0_doRetiring 25 = .ok (.aload_n 0, 1) := by decide +kernel
theorem dX0_doRetiring_26 : decode cX0_doRetiring 26 = .ok (.invokevirtual 255, 3) := by decide +kernel
theorem dX0_doRetiring_29 : decode cX0_doRetiring 29 = .ok (.return_, 1) := by decide +kernel
theorem dX0_doRetiring_30 : decode cX0_doRetiring 30 = .ok (.iconst 0, 1) := by decide +kernel
theorem dX0_doRetiring_31 : decode cX0_doRetiring 31 = .ok (.istore_n 1, 1) := by decide +kernel
theorem dX0_doRetiring_32 : decode cX0_doRetiring 32 = .ok (.iconst 0, 1) := by decide +kernel
theorem dX0_doRetiring_33 : decode cX0_doRetiring 33 = .ok (.istore_n 2, 1) := by decide +kernel
theorem dX0_doRetiring_34 : decode cX0_doRetiring 34 = .ok (.iload_n 2, 1) := by decide +kernel
theorem dX0_doRetiring_35 : decode cX0_doRetiring 35 = .ok (.aload_n 0, 1) := by decide +kernel
theorem dX0_doRetiring_36 : decode cX0_doRetiring 36 = .ok (.getfield 21, 3) := by decide +kernel
theorem dX0_doRetiring_39 : decode cX0_doRetiring 39 = .ok (.getfield 112, 3) := by decide +kernel
theorem dX0_doRetiring_42 : decode cX0_doRetiring 42 = .ok (.if_icmp .ge 100, 3) := by decide +kernel
theorem dX0_doRetiring_45 : decode cX0_doRetiring 45 = .ok (.aload_n 0, 1) := by decide +kernel
theorem dX0_doRetiring_46 : decode cX0_doRetiring 46 = .ok (.invokevirtual 258, 3) := by decide +kernel
theorem dX0_doRetiring_49 : decode cX0_doRetiring 49 = .ok (.ifCond .eq 93, 3) := by decide +kernel
theorem dX0_doRetiring_52 : decode cX0_doRetiring 52 = .ok (.aload_n 0, 1) := by decide +kernel
theorem dX0_doRetiring_53 : decode cX0_doRetiring 53 = .ok (.getfield 60, 3) := by decide +kernel
theorem dX0_doRetiring_56 : decode cX0_doRetiring 56 = .ok (.iconst 0, 1) := by decide +kernel
theorem dX0_doRetiring_57 : decode cX0_doRetiring 57 = .ok (.invokevirtual 127, 3) := by decide +kernel
theorem dX0_doRetiring_60 : decode cX0_doRetiring 60 = .ok (.checkcast 131, 3) := by decide +kernel
theorem dX0_doRetiring_63 : decode cX0_doRetiring 63 = .ok (.astore_n 3, 1) := by decide +kernel
theorem dX0_doRetiring_64 : decode cX0_doRetiring 64 = .ok (.aload_n 3, 1) := by decide +kernel
theorem dX0_doRetiring_65 : decode cX0_doRetiring 65 = .ok (.getfield 261, 3) := by decide +kernel
theorem dX0_doRetiring_68 : decode cX0_doRetiring 68 = .ok (.iconst 4, 1) := by decide +kernel
theorem dX0_doRetiring_69 : decode cX0_doRetiring 69 = .ok (.aload_n 0, 1) := by decide +kernel
theorem dX0_doRetiring_70 : decode cX0_doRetiring 70 = .ok (.getfield 77, 3) := by decide +kernel
theorem dX0_doRetiring_73 : decode cX0_doRetiring 73 = .ok (.iastore, 1) := by decide +kernel
theorem dX0_doRetiring_74 : decode cX0_doRetiring 74 = .ok (.aload_n 0, 1) := by decide +kernel
theorem dX0_doRetiring_75 : decode cX0_doRetiring 75 = .ok (.aload_n 3, 1) := by decide +kernel
theorem dX0_doRetiring_76 : decode cX0_doRetiring 76 = .ok (.getfield 192, 3) := by decide +kernel
theorem dX0_doRetiring_79 : decode cX0_doRetiring 79 = .ok (.aload_n 3, 1) := by decide +kernel
theorem dX0_doRetiring_80 : decode cX0_doRetiring 80 = .ok (.getfield 161, 3) := by decide +kernel
theorem dX0_doRetiring_83 : decode cX0_doRetiring 83 = .ok (.getfield 223, 3) := by decide +kernel
theorem dX0_doRetiring_86 : decode cX0_doRetiring 86 = .ok (.aload_n 3, 1) := by decide +kernel
theorem dX0_doRetiring_87 : decode cX0_doRetiring 87 = .ok (.getfield 261, 3) := by decide +kernel
theorem dX0_doRetiring_90 : decode cX0_doRetiring 90 = .ok (.invokevirtual 264, 3) := by decide +kernel
theorem dX0_doRetiring_93 : decode cX0_doRetiring 93 = .ok (.aload_n 3, 1) := by decide +kernel
theorem dX0_doRetiring_94 : decode cX0_doRetiring 94 = .ok (.getfield 192, 3) := by decide +kernel
theorem dX0_doRetiring_97 : decode cX0_doRetiring 97 = .ok (.ifCond .eq 22, 3) := by decide +kernel
theorem dX0_doRetiring_100 : decode cX0_doRetiring 100 = .ok (.aload_n 0, 1) := by decide +kernel
theorem dX0_doRetiring_101 : decode cX0_doRetiring 101 = .ok (.aload_n 3, 1) := by decide +kernel
theorem dX0_doRetiring_102 : decode cX0_doRetiring 102 = .ok (.invokevirtual 268, 3) := by decide +kernel
theorem dX0_doRetiring_105 : decode cX0_doRetiring 105 = .ok (.iload_n 1, 1) := by decide +kernel
theorem dX0_doRetiring_106 : decode cX0_doRetiring 106 = .ok (.ifCond .ne 12, 3) := by decide +kernel
theorem dX0_doRetiring_109 : decode cX0_doRetiring 109 = .ok (.aload_n 0, 1) := by decide +kernel
theorem dX0_doRetiring_110 : decode cX0_doRetiring 110 = .ok (.getfield 28, 3) := by decide +kernel
theorem dX0_doRetiring_113 : decode cX0_doRetiring 113 = .ok (.bipush 116, 2) := by decide +kernel
theorem dX0_doRetiring_115 : decode cX0_doRetiring 115 = .ok (.invokevirtual 271, 3) := by decide +kernel
theorem dX0_doRetiring_118 : decode cX0_doRetiring 118 = .ok (.return_, 1) := by decide +kernel
theorem dX0_doRetiring_119 : decode cX0_doRetiring 119 = .ok (.aload_n 0, 1) := by decide +kernel
theorem dX0_doRetiring_120 : decode cX0_doRetiring 120 = .ok (.getfield 60, 3) := by decide +kernel
theorem dX0_doRetiring_123 : decode cX0_doRetiring 123 = .ok (.iconst 0, 1) := by decide +kernel
theorem dX0_doRetiring_124 : decode cX0_doRetiring 124 = .ok (.invokevirtual 246, 3) := by decide +kernel
theorem dX0_doRetiring_127 : decode cX0_doRetiring 127 = .ok (.pop, 1) := by decide +kernel
theorem dX0_doRetiring_128 : decode cX0_doRetiring 128 = .ok (.aload_n 0, 1) := by decide +kernel
theorem dX0_doRetiring_129 : decode cX0_doRetiring 129 = .ok (.aload_n 3, 1) := by decide +kernel
theorem dX0_doRetiring_130 : decode cX0_doRetiring 130 = .ok (.invokevirtual 275, 3) := by decide +kernel
theorem dX0_doRetiring_133 : decode cX0_doRetiring 133 = .ok (.iinc 1 1, 3) := by decide +kernel
theorem dX0_doRetiring_136 : decode cX0_doRetiring 136 = .ok (.iinc 2 1, 3) := by decide +kernel
theorem dX0_doRetiring_139 : decode cX0_doRetiring 139 = .ok (.goto (-105), 3) := by decide +kernel
theorem dX0_doRetiring_142 : decode cX0_doRetiring 142 = .ok (.iload_n 1, 1) := by decide +kernel
theorem dX0_doRetiring_143 : decode cX0_doRetiring 143 = .ok (.ifCond .ne 14, 3) := by decide +kernel
theorem dX0_doRetiring_146 : decode cX0_doRetiring 146 = .ok (.aload_n 0, 1) := by decide +kernel
theorem dX0_doRetiring_147 : decode cX0_doRetiring 147 = .ok (.getfield 28, 3) := by decide +kernel
theorem dX0_doRetiring_150 : decode cX0_doRetiring 150 = .ok (.aload_n 0, 1) := by decide +kernel
theorem dX0_doRetiring_151 : decode cX0_doRetiring 151 = .ok (.invokevirtual 278, 3) := by decide +kernel
theorem dX0_doRetiring_154 : decode cX0_doRetiring 154 = .ok (.invokevirtual 271, 3) := by decide +kernel
theorem dX0_doRetiring_157 : decode cX0_doRetiring 157 = .ok (.return_, 1) := by decide +kernel
theorem dX0_isDividing_0 : decode cX0_isDividing 0 = .ok (.iconst 0, 1) := by decide +kernel
theorem dX0_isDividing_1 : decode cX0_isDividing 1 = .ok (.istore_n 1, 1) := by decide +kernel
theorem dX0_isDividing_2 : decode cX0_isDividing 2 = .ok (.iload_n 1, 1) := by decide +kernel
theorem dX0_isDividing_3 : decode cX0_isDividing 3 = .ok (.aload_n 0, 1) := by decide +kernel
theorem dX0_isDividing_4 : decode cX0_isDividing 4 = .ok (.getfield 60, 3) := by decide +kernel
theorem dX0_isDividing_7 : decode cX0_isDividing 7 = .ok (.invokevirtual 123, 3) := by decide +kernel
theorem dX0_isDividing_10 : decode cX0_isDividing 10 = .ok (.if_icmp .ge 43, 3) := by decide +kernel
theorem dX0_isDividing_13 : decode cX0_isDividing 13 = .ok (.aload_n 0, 1) := by decide +kernel
theorem dX0_isDividing_14 : decode cX0_isDividing 14 = .ok (.getfield 60, 3) := by decide +kernel
theorem dX0_isDividing_17 : decode cX0_isDividing 17 = .ok (.iload_n 1, 1) := by decide +kernel
theorem dX0_isDividing_18 : decode cX0_isDividing 18 = .ok (.invokevirtual 127, 3) := by decide +kernel
theorem dX0_isDividing_21 : decode cX0_isDividing 21 = .ok (.checkcast 131, 3) := by decide +kernel
theorem dX0_isDividing_24 : decode cX0_isDividing 24 = .ok (.astore_n 2, 1) := by decide +kernel
theorem dX0_isDividing_25 : decode cX0_isDividing 25 = .ok (.aload_n 2, 1) := by decide +kernel
theorem dX0_isDividing_26 : decode cX0_isDividing 26 = .ok (.getfield 161, 3) := by decide +kernel
theorem dX0_isDividing_29 : decode cX0_isDividing 29 = .ok (.getfield 165, 3) := by decide +kernel
theorem dX0_isDividing_32 : decode cX0_isDividing 32 = .ok (.iconst 5, 1) := by decide +kernel
theorem dX0_isDividing_33 : decode cX0_isDividing 33 = .ok (.if_icmp .ne 14, 3) := by decide +kernel
theorem dX0_isDividing_36 : decode cX0_isDividing 36 = .ok (.aload_n 2, 1) := by decide +kernel
theorem dX0_isDividing_37 : decode cX0_isDividing 37 = .ok (.getfield 133, 3) := by decide +kernel
theorem dX0_isDividing_40 : decode cX0_isDividing 40 = .ok (.bipush 120, 2) := by decide +kernel
theorem dX0_isDividing_42 : decode cX0_isDividing 42 = .ok (.if_icmp .ne 5, 3) := by decide +kernel
theorem dX0_isDividing_45 : decode cX0_isDividing 45 = .ok (.iconst 1, 1) := by decide +kernel
theorem dX0_isDividing_46 : decode cX0_isDividing 46 = .ok (.ireturn, 1) := by decide +kernel
theorem dX0_isDividing_47 : decode cX0_isDividing 47 = .ok (.iinc 1 1, 3) := by decide +kernel
theorem dX0_isDividing_50 : decode cX0_isDividing 50 = .ok (.goto (-48), 3) := by decide +kernel
theorem dX0_isDividing_53 : decode cX0_isDividing 53 = .ok (.iconst 0, 1) := by decide +kernel
theorem dX0_isDividing_54 : decode cX0_isDividing 54 = .ok (.ireturn, 1) := by decide +kernel
theorem dX6_unit_0 : decode cX6_unit 0 = .ok (.aload_n 0, 1) := by decide +kernel
theorem dX6_unit_1 : decode cX6_unit 1 = .ok (.getfield 15, 3) := by decide +kernel
theorem dX6_unit_4 : decode cX6_unit 4 = .ok (.tableswitch 54 4 11 #[48, 50, 54, 54, 54, 52, 52, 52], 48) := by decide +kernel
theorem dX6_unit_52 : decode cX6_unit 52 = .ok (.iconst 1, 1) := by decide +kernel
theorem dX6_unit_53 : decode cX6_unit 53 = .ok (.ireturn, 1) := by decide +kernel
theorem dX6_unit_54 : decode cX6_unit 54 = .ok (.iconst 2, 1) := by decide +kernel
theorem dX6_unit_55 : decode cX6_unit 55 = .ok (.ireturn, 1) := by decide +kernel
theorem dX6_unit_56 : decode cX6_unit 56 = .ok (.iconst 3, 1) := by decide +kernel
theorem dX6_unit_57 : decode cX6_unit 57 = .ok (.ireturn, 1) := by decide +kernel
theorem dX6_unit_58 : decode cX6_unit 58 = .ok (.iconst 0, 1) := by decide +kernel
theorem dX6_unit_59 : decode cX6_unit 59 = .ok (.ireturn, 1) := by decide +kernel
theorem dX6_needsA_0 : decode cX6_needsA 0 = .ok (.aload_n 0, 1) := by decide +kernel
theorem dX6_needsA_1 : decode cX6_needsA 1 = .ok (.getfield 15, 3) := by decide +kernel
theorem dX6_needsA_4 : decode cX6_needsA 4 = .ok (.iconst 1, 1) := by decide +kernel
theorem dX6_needsA_5 : decode cX6_needsA 5 = .ok (.if_icmp .eq 7, 3) := by decide +kernel
theorem dX6_needsA_8 : decode cX6_needsA 8 = .ok (.iconst 1, 1) := by decide +kernel
theorem dX6_needsA_9 : decode cX6_needsA 9 = .ok (.goto 4, 3) := by decide +kernel
theorem dX6_needsA_12 : decode cX6_needsA 12 = .ok (.iconst 0, 1) := by decide +kernel
theorem dX6_needsA_13 : decode cX6_needsA 13 = .ok (.ireturn, 1) := by decide +kernel
theorem dX6_needsB_0 : decode cX6_needsB 0 = .ok (.aload_n 0, 1) := by decide +kernel
theorem dX6_needsB_1 : decode cX6_needsB 1 = .ok (.getfield 15, 3) := by decide +kernel
theorem dX6_needsB_4 : decode cX6_needsB 4 = .ok (.iconst 2, 1) := by decide +kernel
theorem dX6_needsB_5 : decode cX6_needsB 5 = .ok (.if_icmp .lt 12, 3) := by decide +kernel
theorem dX6_needsB_8 : decode cX6_needsB 8 = .ok (.aload_n 0, 1) := by decide +kernel
theorem dX6_needsB_9 : decode cX6_needsB 9 = .ok (.getfield 15, 3) := by decide +kernel
theorem dX6_needsB_12 : decode cX6_needsB 12 = .ok (.bipush 8, 2) := by decide +kernel
theorem dX6_needsB_14 : decode cX6_needsB 14 = .ok (.if_icmp .le 10, 3) := by decide +kernel
theorem dX6_needsB_17 : decode cX6_needsB 17 = .ok (.aload_n 0, 1) := by decide +kernel
theorem dX6_needsB_18 : decode cX6_needsB 18 = .ok (.invokevirtual 34, 3) := by decide +kernel
theorem dX6_needsB_21 : decode cX6_needsB 21 = .ok (.ifCond .eq 7, 3) := by decide +kernel
theorem dX6_needsB_24 : decode cX6_needsB 24 = .ok (.iconst 1, 1) := by decide +kernel
theorem dX6_needsB_25 : decode cX6_needsB 25 = .ok (.goto 4, 3) := by decide +kernel
theorem dX6_needsB_28 : decode cX6_needsB 28 = .ok (.iconst 0, 1) := by decide +kernel
theorem dX6_needsB_29 : decode cX6_needsB 29 = .ok (.ireturn, 1) := by decide +kernel
theorem dX0_hasOperands_0 : decode cX0_hasOperands 0 = .ok (.aload_n 1, 1) := by decide +kernel
theorem dX0_hasOperands_1 : decode cX0_hasOperands 1 = .ok (.getfield 161, 3) := by decide +kernel
theorem dX0_hasOperands_4 : decode cX0_hasOperands 4 = .ok (.invokevirtual 346, 3) := by decide +kernel
theorem dX0_hasOperands_7 : decode cX0_hasOperands 7 = .ok (.ifCond .eq 17, 3) := by decide +kernel
theorem dX0_hasOperands_10 : decode cX0_hasOperands 10 = .ok (.aload_n 0, 1) := by decide +kernel
theorem dX0_hasOperands_11 : decode cX0_hasOperands 11 = .ok (.getfield 42, 3) := by decide +kernel
theorem dX0_hasOperands_14 : decode cX0_hasOperands 14 = .ok (.aload_n 1, 1) := by decide +kernel
theorem dX0_hasOperands_15 : decode cX0_hasOperands 15 = .ok (.getfield 349, 3) := by decide +kernel
theorem dX0_hasOperands_18 : decode cX0_hasOperands 18 = .ok (.invokevirtual 288, 3) := by decide +kernel
theorem dX0_hasOperands_21 : decode cX0_hasOperands 21 = .ok (.ifCond .eq 7, 3) := by decide +kernel
theorem dX0_hasOperands_24 : decode cX0_hasOperands 24 = .ok (.iconst 1, 1) := by decide +kernel
theorem dX0_hasOperands_25 : decode cX0_hasOperands 25 = .ok (.goto 4, 3) := by decide +kernel
theorem dX0_hasOperands_28 : decode cX0_hasOperands 28 = .ok (.iconst 0, 1) := by decide +kernel
theorem dX0_hasOperands_29 : decode cX0_hasOperands 29 = .ok (.istore_n 2, 1) := by decide +kernel
theorem dX0_hasOperands_30 : decode cX0_hasOperands 30 = .ok (.aload_n 1, 1) := by decide +kernel
theorem dX0_hasOperands_31 : decode cX0_hasOperands 31 = .ok (.getfield 161, 3) := by decide +kernel
theorem dX0_hasOperands_34 : decode cX0_hasOperands 34 = .ok (.invokevirtual 352, 3) := by decide +kernel
theorem dX0_hasOperands_37 : decode cX0_hasOperands 37 = .ok (.ifCond .eq 17, 3) := by decide +kernel
theorem dX0_hasOperands_40 : decode cX0_hasOperands 40 = .ok (.aload_n 0, 1) := by decide +kernel
theorem dX0_hasOperands_41 : decode cX0_hasOperands 41 = .ok (.getfield 42, 3) := by decide +kernel
theorem dX0_hasOperands_44 : decode cX0_hasOperands 44 = .ok (.aload_n 1, 1) := by decide +kernel
theorem dX0_hasOperands_45 : decode cX0_hasOperands 45 = .ok (.getfield 285, 3) := by decide +kernel
theorem dX0_hasOperands_48 : decode cX0_hasOperands 48 = .ok (.invokevirtual 288, 3) := by decide +kernel
theorem dX0_hasOperands_51 : decode cX0_hasOperands 51 = .ok (.ifCond .eq 7, 3) := by decide +kernel
theorem dX0_hasOperands_54 : decode cX0_hasOperands 54 = .ok (.iconst 1, 1) := by decide +kernel
theorem dX0_hasOperands_55 : decode cX0_hasOperands 55 = .ok (.goto 4, 3) := by decide +kernel
theorem dX0_hasOperands_58 : decode cX0_hasOperands 58 = .ok (.iconst 0, 1) := by decide +kernel
theorem dX0_hasOperands_59 : decode cX0_hasOperands 59 = .ok (.istore_n 3, 1) := by decide +kernel
theorem dX0_hasOperands_60 : decode cX0_hasOperands 60 = .ok (.iload_n 2, 1) := by decide +kernel
theorem dX0_hasOperands_61 : decode cX0_hasOperands 61 = .ok (.ifCond .eq 11, 3) := by decide +kernel
theorem dX0_hasOperands_64 : decode cX0_hasOperands 64 = .ok (.iload_n 3, 1) := by decide +kernel
theorem dX0_hasOperands_65 : decode cX0_hasOperands 65 = .ok (.ifCond .eq 7, 3) := by decide +kernel
theorem dX0_hasOperands_68 : decode cX0_hasOperands 68 = .ok (.iconst 1, 1) := by decide +kernel
theorem dX0_hasOperands_69 : decode cX0_hasOperands 69 = .ok (.goto 4, 3) := by decide +kernel
theorem dX0_hasOperands_72 : decode cX0_hasOperands 72 = .ok (.iconst 0, 1) := by decide +kernel
theorem dX0_hasOperands_73 : decode cX0_hasOperands 73 = .ok (.ireturn, 1) := by decide +kernel
theorem dX3_compute_0 : decode cX3_compute 0 = .ok (.aload_n 0, 1) := by decide +kernel
theorem dX3_compute_1 : decode cX3_compute 1 = .ok (.aload_n 0, 1) := by decide +kernel
theorem dX3_compute_2 : decode cX3_compute 2 = .ok (.getfield 55, 3) := by decide +kernel
theorem dX3_compute_5 : decode cX3_compute 5 = .ok (.iload_n 1, 1) := by decide +kernel
theorem dX3_compute_6 : decode cX3_compute 6 = .ok (.iload_n 2, 1) := by decide +kernel
theorem dX3_compute_7 : decode cX3_compute 7 = .ok (.invokevirtual 81, 3) := by decide +kernel
theorem dX3_compute_10 : decode cX3_compute 10 = .ok (.putfield 42, 3) := by decide +kernel
theorem dX3_compute_13 : decode cX3_compute 13 = .ok (.aload_n 0, 1) := by decide +kernel
theorem dX3_compute_14 : decode cX3_compute 14 = .ok (.aload_n 0, 1) := by decide +kernel
theorem dX3_compute_15 : decode cX3_compute 15 = .ok (.getfield 42, 3) := by decide +kernel
theorem dX3_compute_18 : decode cX3_compute 18 = .ok (.ifCond .ne 15, 3) := by decide +kernel
theorem dX3_compute_21 : decode cX3_compute 21 = .ok (.aload_n 0, 1) := by decide +kernel
theorem dX3_compute_22 : decode cX3_compute 22 = .ok (.getfield 55, 3) := by decide +kernel
theorem dX3_compute_25 : decode cX3_compute 25 = .ok (.iload_n 1, 1) := by decide +kernel
theorem dX3_compute_26 : decode cX3_compute 26 = .ok (.iload_n 2, 1) := by decide +kernel
theorem dX3_compute_27 : decode cX3_compute 27 = .ok (.invokevirtual 84, 3) := by decide +kernel
theorem dX3_compute_30 : decode cX3_compute 30 = .ok (.goto 4, 3) := by decide +kernel
theorem dX3_compute_33 : decode cX3_compute 33 = .ok (.iconst 0, 1) := by decide +kernel
theorem dX3_compute_34 : decode cX3_compute 34 = .ok (.putfield 45, 3) := by decide +kernel
theorem dX3_compute_37 : decode cX3_compute 37 = .ok (.aload_n 0, 1) := by decide +kernel
theorem dX3_compute_38 : decode cX3_compute 38 = .ok (.aload_n 0, 1) := by decide +kernel
theorem dX3_compute_39 : decode cX3_compute 39 = .ok (.getfield 55, 3) := by decide +kernel
theorem dX3_compute_42 : decode cX3_compute 42 = .ok (.iload_n 1, 1) := by decide +kernel
theorem dX3_compute_43 : decode cX3_compute 43 = .ok (.iload_n 2, 1) := by decide +kernel
theorem dX3_compute_44 : decode cX3_compute 44 = .ok (.invokevirtual 68, 3) := by decide +kernel
theorem dX3_compute_47 : decode cX3_compute 47 = .ok (.putfield 74, 3) := by decide +kernel
theorem dX3_compute_50 : decode cX3_compute 50 = .ok (.aload_n 0, 1) := by decide +kernel
theorem dX3_compute_51 : decode cX3_compute 51 = .ok (.aload_n 0, 1) := by decide +kernel
theorem dX3_compute_52 : decode cX3_compute 52 = .ok (.getfield 55, 3) := by decide +kernel
theorem dX3_compute_55 : decode cX3_compute 55 = .ok (.invokevirtual 87, 3) := by decide +kernel
theorem dX3_compute_58 : decode cX3_compute 58 = .ok (.ifCond .eq 19, 3) := by decide +kernel
theorem dX3_compute_61 : decode cX3_compute 61 = .ok (.aload_n 0, 1) := by decide +kernel
theorem dX3_compute_62 : decode cX3_compute 62 = .ok (.getfield 55, 3) := by decide +kernel
theorem dX3_compute_65 : decode cX3_compute 65 = .ok (.iload_n 1, 1) := by decide +kernel
theorem dX3_compute_66 : decode cX3_compute 66 = .ok (.iload_n 2, 1) := by decide +kernel
theorem dX3_compute_67 : decode cX3_compute 67 = .ok (.invokevirtual 90, 3) := by decide +kernel
theorem dX3_compute_70 : decode cX3_compute 70 = .ok (.ifCond .eq 7, 3) := by decide +kernel
theorem dX3_compute_73 : decode cX3_compute 73 = .ok (.iconst 1, 1) := by decide +kernel
theorem dX3_compute_74 : decode cX3_compute 74 = .ok (.goto 4, 3) := by decide +kernel
theorem dX3_compute_77 : decode cX3_compute 77 = .ok (.iconst 0, 1) := by decide +kernel
theorem dX3_compute_78 : decode cX3_compute 78 = .ok (.putfield 48, 3) := by decide +kernel
theorem dX3_compute_81 : decode cX3_compute 81 = .ok (.aload_n 0, 1) := by decide +kernel
theorem dX3_compute_82 : decode cX3_compute 82 = .ok (.aload_n 0, 1) := by decide +kernel
theorem dX3_compute_83 : decode cX3_compute 83 = .ok (.getfield 55, 3) := by decide +kernel
theorem dX3_compute_86 : decode cX3_compute 86 = .ok (.invokevirtual 93, 3) := by decide +kernel
theorem dX3_compute_89 : decode cX3_compute 89 = .ok (.iconst 3, 1) := by decide +kernel
theorem dX3_compute_90 : decode cX3_compute 90 = .ok (.if_icmp .ne 22, 3) := by decide +kernel
theorem dX3_compute_93 : decode cX3_compute 93 = .ok (.aload_n 0, 1) := by decide +kernel
theorem dX3_compute_94 : decode cX3_compute 94 = .ok (.getfield 42, 3) := by decide +kernel
theorem dX3_compute_97 : decode cX3_compute 97 = .ok (.ifCond .ne 15, 3) := by decide +kernel
theorem dX3_compute_100 : decode cX3_compute 100 = .ok (.iload_n 1, 1) := by decide +kernel
theorem dX3_compute_101 : decode cX3_compute 101 = .ok (.aload_n 0, 1) := by decide +kernel
theorem dX3_compute_102 : decode cX3_compute 102 = .ok (.getfield 55, 3) := by decide +kernel
theorem dX3_compute_105 : decode cX3_compute 105 = .ok (.getfield 97, 3) := by decide +kernel
theorem dX3_compute_108 : decode cX3_compute 108 = .ok (.iadd, 1) := by decide +kernel
theorem dX3_compute_109 : decode cX3_compute 109 = .ok (.goto 4, 3) := by decide +kernel
theorem dX3_compute_112 : decode cX3_compute 112 = .ok (.iconst (-1), 1) := by decide +kernel
theorem dX3_compute_113 : decode cX3_compute 113 = .ok (.putfield 39, 3) := by decide +kernel
theorem dX3_compute_116 : decode cX3_compute 116 = .ok (.return_, 1) := by decide +kernel
theorem dX0_isStoreOpenBefore_0 : decode cX0_isStoreOpenBefore 0 = .ok (.iconst 0, 1) := by decide +kernel
theorem dX0_isStoreOpenBefore_1 : decode cX0_isStoreOpenBefore 1 = .ok (.istore_n 2, 1) := by decide +kernel
theorem dX0_isStoreOpenBefore_2 : decode cX0_isStoreOpenBefore 2 = .ok (.iload_n 2, 1) := by decide +kernel
theorem dX0_isStoreOpenBefore_3 : decode cX0_isStoreOpenBefore 3 = .ok (.iload_n 1, 1) := by decide +kernel
theorem dX0_isStoreOpenBefore_4 : decode cX0_isStoreOpenBefore 4 = .ok (.if_icmp .ge 53, 3) := by decide +kernel
theorem dX0_isStoreOpenBefore_7 : decode cX0_isStoreOpenBefore 7 = .ok (.iload_n 2, 1) := by decide +kernel
theorem dX0_isStoreOpenBefore_8 : decode cX0_isStoreOpenBefore 8 = .ok (.aload_n 0, 1) := by decide +kernel
theorem dX0_isStoreOpenBefore_9 : decode cX0_isStoreOpenBefore 9 = .ok (.getfield 60, 3) := by decide +kernel
theorem dX0_isStoreOpenBefore_12 : decode cX0_isStoreOpenBefore 12 = .ok (.invokevirtual 123, 3) := by decide +kernel
theorem dX0_isStoreOpenBefore_15 : decode cX0_isStoreOpenBefore 15 = .ok (.if_icmp .ge 42, 3) := by decide +kernel
theorem dX0_isStoreOpenBefore_18 : decode cX0_isStoreOpenBefore 18 = .ok (.aload_n 0, 1) := by decide +kernel
theorem dX0_isStoreOpenBefore_19 : decode cX0_isStoreOpenBefore 19 = .ok (.getfield 60, 3) := by decide +kernel
theorem dX0_isStoreOpenBefore_22 : decode cX0_isStoreOpenBefore 22 = .ok (.iload_n 2, 1) := by decide +kernel
theorem dX0_isStoreOpenBefore_23 : decode cX0_isStoreOpenBefore 23 = .ok (.invokevirtual 127, 3) := by decide +kernel
theorem dX0_isStoreOpenBefore_26 : decode cX0_isStoreOpenBefore 26 = .ok (.checkcast 131, 3) := by decide +kernel
theorem dX0_isStoreOpenBefore_29 : decode cX0_isStoreOpenBefore 29 = .ok (.astore_n 3, 1) := by decide +kernel
theorem dX0_isStoreOpenBefore_30 : decode cX0_isStoreOpenBefore 30 = .ok (.aload_n 3, 1) := by decide +kernel
theorem dX0_isStoreOpenBefore_31 : decode cX0_isStoreOpenBefore 31 = .ok (.getfield 161, 3) := by decide +kernel
theorem dX0_isStoreOpenBefore_34 : decode cX0_isStoreOpenBefore 34 = .ok (.invokevirtual 214, 3) := by decide +kernel
theorem dX0_isStoreOpenBefore_37 : decode cX0_isStoreOpenBefore 37 = .ok (.ifCond .eq 14, 3) := by decide +kernel
theorem dX0_isStoreOpenBefore_40 : decode cX0_isStoreOpenBefore 40 = .ok (.aload_n 3, 1) := by decide +kernel
theorem dX0_isStoreOpenBefore_41 : decode cX0_isStoreOpenBefore 41 = .ok (.getfield 133, 3) := by decide +kernel
theorem dX0_isStoreOpenBefore_44 : decode cX0_isStoreOpenBefore 44 = .ok (.bipush 101, 2) := by decide +kernel
theorem dX0_isStoreOpenBefore_46 : decode cX0_isStoreOpenBefore 46 = .ok (.if_icmp .eq 5, 3) := by decide +kernel
theorem dX0_isStoreOpenBefore_49 : decode cX0_isStoreOpenBefore 49 = .ok (.iconst 1, 1) := by decide +kernel
theorem dX0_isStoreOpenBefore_50 : decode cX0_isStoreOpenBefore 50 = .ok (.ireturn, 1) := by decide +kernel
theorem dX0_isStoreOpenBefore_51 : decode cX0_isStoreOpenBefore 51 = .ok (.iinc 2 1, 3) := by decide +kernel
theorem dX0_isStoreOpenBefore_54 : decode cX0_isStoreOpenBefore 54 = .ok (.goto (-52), 3) := by decide +kernel
theorem dX0_isStoreOpenBefore_57 : decode cX0_isStoreOpenBefore 57 = .ok (.iconst 0, 1) := by decide +kernel
theorem dX0_isStoreOpenBefore_58 : decode cX0_isStoreOpenBefore 58 = .ok (.ireturn, 1) := by decide +kernel
theorem dX3_isEndedStore_0 : decode cX3_isEndedStore 0 = .ok (.aload_n 0, 1) := by decide +kernel
theorem dX3_isEndedStore_1 : decode cX3_isEndedStore 1 = .ok (.getfield 55, 3) := by decide +kernel
theorem dX3_isEndedStore_4 : decode cX3_isEndedStore 4 = .ok (.invokevirtual 77, 3) := by decide +kernel
theorem dX3_isEndedStore_7 : decode cX3_isEndedStore 7 = .ok (.ifCond .eq 16, 3) := by decide +kernel
theorem dX3_isEndedStore_10 : decode cX3_isEndedStore 10 = .ok (.aload_n 0, 1) := by decide +kernel
theorem dX3_isEndedStore_11 : decode cX3_isEndedStore 11 = .ok (.getfield 19, 3) := by decide +kernel
theorem dX3_isEndedStore_14 : decode cX3_isEndedStore 14 = .ok (.bipush 101, 2) := by decide +kernel
theorem dX3_isEndedStore_16 : decode cX3_isEndedStore 16 = .ok (.if_icmp .ne 7, 3) := by decide +kernel
theorem dX3_isEndedStore_19 : decode cX3_isEndedStore 19 = .ok (.iconst 1, 1) := by decide +kernel
theorem dX3_isEndedStore_20 : decode cX3_isEndedStore 20 = .ok (.goto 4, 3) := by decide +kernel
theorem dX3_isEndedStore_23 : decode cX3_isEndedStore 23 = .ok (.iconst 0, 1) := by decide +kernel
theorem dX3_isEndedStore_24 : decode cX3_isEndedStore 24 = .ok (.ireturn, 1) := by decide +kernel
theorem dX3_beginWith_0 : decode cX3_beginWith 0 = .ok (.aload_n 0, 1) := by decide +kernel
theorem dX3_beginWith_1 : decode cX3_beginWith 1 = .ok (.bipush 120, 2) := by decide +kernel
theorem dX3_beginWith_3 : decode cX3_beginWith 3 = .ok (.putfield 19, 3) := by decide +kernel
theorem dX3_beginWith_6 : decode cX3_beginWith 6 = .ok (.aload_n 0, 1) := by decide +kernel
theorem dX3_beginWith_7 : decode cX3_beginWith 7 = .ok (.iload_n 2, 1) := by decide +kernel
theorem dX3_beginWith_8 : decode cX3_beginWith 8 = .ok (.iload_n 1, 1) := by decide +kernel
theorem dX3_beginWith_9 : decode cX3_beginWith 9 = .ok (.iadd, 1) := by decide +kernel
theorem dX3_beginWith_10 : decode cX3_beginWith 10 = .ok (.putfield 36, 3) := by decide +kernel
theorem dX3_beginWith_13 : decode cX3_beginWith 13 = .ok (.aload_n 0, 1) := by decide +kernel
theorem dX3_beginWith_14 : decode cX3_beginWith 14 = .ok (.getfield 13, 3) := by decide +kernel
theorem dX3_beginWith_17 : decode cX3_beginWith 17 = .ok (.iconst 2, 1) := by decide +kernel
theorem dX3_beginWith_18 : decode cX3_beginWith 18 = .ok (.iload_n 2, 1) := by decide +kernel
theorem dX3_beginWith_19 : decode cX3_beginWith 19 = .ok (.iastore, 1) := by decide +kernel
theorem dX3_beginWith_20 : decode cX3_beginWith 20 = .ok (.return_, 1) := by decide +kernel
theorem dX0_canTake_0 : decode cX0_canTake 0 = .ok (.aload_n 2, 1) := by decide +kernel
theorem dX0_canTake_1 : decode cX0_canTake 1 = .ok (.getfield 161, 3) := by decide +kernel
theorem dX0_canTake_4 : decode cX0_canTake 4 = .ok (.getfield 165, 3) := by decide +kernel
theorem dX0_canTake_7 : decode cX0_canTake 7 = .ok (.bipush 11, 2) := by decide +kernel
theorem dX0_canTake_9 : decode cX0_canTake 9 = .ok (.if_icmp .eq 17, 3) := by decide +kernel
theorem dX0_canTake_12 : decode cX0_canTake 12 = .ok (.aload_n 0, 1) := by decide +kernel
theorem dX0_canTake_13 : decode cX0_canTake 13 = .ok (.getfield 42, 3) := by decide +kernel
theorem dX0_canTake_16 : decode cX0_canTake 16 = .ok (.aload_n 2, 1) := by decide +kernel
theorem dX0_canTake_17 : decode cX0_canTake 17 = .ok (.getfield 285, 3) := by decide +kernel
theorem dX0_canTake_20 : decode cX0_canTake 20 = .ok (.invokevirtual 288, 3) := by decide +kernel
theorem dX0_canTake_23 : decode cX0_canTake 23 = .ok (.ifCond .ne 5, 3) := by decide +kernel
theorem dX0_canTake_26 : decode cX0_canTake 26 = .ok (.iconst 0, 1) := by decide +kernel
theorem dX0_canTake_27 : decode cX0_canTake 27 = .ok (.ireturn, 1) := by decide +kernel
theorem dX0_canTake_28 : decode cX0_canTake 28 = .ok (.aload_n 1, 1) := by decide +kernel
theorem dX0_canTake_29 : decode cX0_canTake 29 = .ok (.aload_n 0, 1) := by decide +kernel
theorem dX0_canTake_30 : decode cX0_canTake 30 = .ok (.getfield 42, 3) := by decide +kernel
theorem dX0_canTake_33 : decode cX0_canTake 33 = .ok (.aload_n 2, 1) := by decide +kernel
theorem dX0_canTake_34 : decode cX0_canTake 34 = .ok (.getfield 285, 3) := by decide +kernel
theorem dX0_canTake_37 : decode cX0_canTake 37 = .ok (.invokevirtual 307, 3) := by decide +kernel
theorem dX0_canTake_40 : decode cX0_canTake 40 = .ok (.putfield 176, 3) := by decide +kernel
theorem dX0_canTake_43 : decode cX0_canTake 43 = .ok (.aload_n 1, 1) := by decide +kernel
theorem dX0_canTake_44 : decode cX0_canTake 44 = .ok (.aload_n 2, 1) := by decide +kernel
theorem dX0_canTake_45 : decode cX0_canTake 45 = .ok (.getfield 217, 3) := by decide +kernel
theorem dX0_canTake_48 : decode cX0_canTake 48 = .ok (.putfield 170, 3) := by decide +kernel
theorem dX0_canTake_51 : decode cX0_canTake 51 = .ok (.aload_n 1, 1) := by decide +kernel
theorem dX0_canTake_52 : decode cX0_canTake 52 = .ok (.iconst 1, 1) := by decide +kernel
theorem dX0_canTake_53 : decode cX0_canTake 53 = .ok (.aload_n 0, 1) := by decide +kernel
theorem dX0_canTake_54 : decode cX0_canTake 54 = .ok (.getfield 77, 3) := by decide +kernel
theorem dX0_canTake_57 : decode cX0_canTake 57 = .ok (.invokevirtual 364, 3) := by decide +kernel
theorem dX0_canTake_60 : decode cX0_canTake 60 = .ok (.aload_n 0, 1) := by decide +kernel
theorem dX0_canTake_61 : decode cX0_canTake 61 = .ok (.getfield 28, 3) := by decide +kernel
theorem dX0_canTake_64 : decode cX0_canTake 64 = .ok (.dup, 1) := by decide +kernel
theorem dX0_canTake_65 : decode cX0_canTake 65 = .ok (.getfield 390, 3) := by decide +kernel
theorem dX0_canTake_68 : decode cX0_canTake 68 = .ok (.iconst 1, 1) := by decide +kernel
theorem dX0_canTake_69 : decode cX0_canTake 69 = .ok (.iadd, 1) := by decide +kernel
theorem dX0_canTake_70 : decode cX0_canTake 70 = .ok (.putfield 390, 3) := by decide +kernel
theorem dX0_canTake_73 : decode cX0_canTake 73 = .ok (.iconst 1, 1) := by decide +kernel
theorem dX0_canTake_74 : decode cX0_canTake 74 = .ok (.ireturn, 1) := by decide +kernel
theorem dX7_isThere_0 : decode cX7_isThere 0 = .ok (.aload_n 0, 1) := by decide +kernel
theorem dX7_isThere_1 : decode cX7_isThere 1 = .ok (.getfield 9, 3) := by decide +kernel
theorem dX7_isThere_4 : decode cX7_isThere 4 = .ok (.iload_n 1, 1) := by decide +kernel
theorem dX7_isThere_5 : decode cX7_isThere 5 = .ok (.iconst 4, 1) := by decide +kernel
theorem dX7_isThere_6 : decode cX7_isThere 6 = .ok (.invokestatic 28, 3) := by decide +kernel
theorem dX7_isThere_9 : decode cX7_isThere 9 = .ok (.iaload, 1) := by decide +kernel
theorem dX7_isThere_10 : decode cX7_isThere 10 = .ok (.iload_n 1, 1) := by decide +kernel
theorem dX7_isThere_11 : decode cX7_isThere 11 = .ok (.if_icmp .ne 7, 3) := by decide +kernel
theorem dX7_isThere_14 : decode cX7_isThere 14 = .ok (.iconst 1, 1) := by decide +kernel
theorem dX7_isThere_15 : decode cX7_isThere 15 = .ok (.goto 4, 3) := by decide +kernel
theorem dX7_isThere_18 : decode cX7_isThere 18 = .ok (.iconst 0, 1) := by decide +kernel
theorem dX7_isThere_19 : decode cX7_isThere 19 = .ok (.ireturn, 1) := by decide +kernel
theorem dX7_askFor_0 : decode cX7_askFor 0 = .ok (.aload_n 0, 1) := by decide +kernel
theorem dX7_askFor_1 : decode cX7_askFor 1 = .ok (.getfield 24, 3) := by decide +kernel
theorem dX7_askFor_4 : decode cX7_askFor 4 = .ok (.iconst 2, 1) := by decide +kernel
theorem dX7_askFor_5 : decode cX7_askFor 5 = .ok (.if_icmp .ge 13, 3) := by decide +kernel
theorem dX7_askFor_8 : decode cX7_askFor 8 = .ok (.iload_n 1, 1) := by decide +kernel
theorem dX7_askFor_9 : decode cX7_askFor 9 = .ok (.ifCond .lt 9, 3) := by decide +kernel
theorem dX7_askFor_12 : decode cX7_askFor 12 = .ok (.iload_n 1, 1) := by decide +kernel
theorem dX7_askFor_13 : decode cX7_askFor 13 = .ok (.bipush 16, 2) := by decide +kernel
theorem dX7_askFor_15 : decode cX7_askFor 15 = .ok (.if_icmp .lt 5, 3) := by decide +kernel
theorem dX7_askFor_18 : decode cX7_askFor 18 = .ok (.iconst 0, 1) := by decide +kernel
theorem dX7_askFor_19 : decode cX7_askFor 19 = .ok (.ireturn, 1) := by decide +kernel
theorem dX7_askFor_20 : decode cX7_askFor 20 = .ok (.aload_n 0, 1) := by decide +kernel
theorem dX7_askFor_21 : decode cX7_askFor 21 = .ok (.getfield 18, 3) := by decide +kernel
theorem dX7_askFor_24 : decode cX7_askFor 24 = .ok (.aload_n 0, 1) := by decide +kernel
theorem dX7_askFor_25 : decode cX7_askFor 25 = .ok (.getfield 24, 3) := by decide +kernel
theorem dX7_askFor_28 : decode cX7_askFor 28 = .ok (.iload_n 1, 1) := by decide +kernel
theorem dX7_askFor_29 : decode cX7_askFor 29 = .ok (.iastore, 1) := by decide +kernel
theorem dX7_askFor_30 : decode cX7_askFor 30 = .ok (.aload_n 0, 1) := by decide +kernel
theorem dX7_askFor_31 : decode cX7_askFor 31 = .ok (.getfield 21, 3) := by decide +kernel
theorem dX7_askFor_34 : decode cX7_askFor 34 = .ok (.aload_n 0, 1) := by decide +kernel
theorem dX7_askFor_35 : decode cX7_askFor 35 = .ok (.getfield 24, 3) := by decide +kernel
theorem dX7_askFor_38 : decode cX7_askFor 38 = .ok (.iload_n 2, 1) := by decide +kernel
theorem dX7_askFor_39 : decode cX7_askFor 39 = .ok (.aload_n 0, 1) := by decide +kernel
theorem dX7_askFor_40 : decode cX7_askFor 40 = .ok (.getfield 15, 3) := by decide +kernel
theorem dX7_askFor_43 : decode cX7_askFor 43 = .ok (.iload_n 1, 1) := by decide +kernel
theorem dX7_askFor_44 : decode cX7_askFor 44 = .ok (.iaload, 1) := by decide +kernel
theorem dX7_askFor_45 : decode cX7_askFor 45 = .ok (.iadd, 1) := by decide +kernel
theorem dX7_askFor_46 : decode cX7_askFor 46 = .ok (.iastore, 1) := by decide +kernel
theorem dX7_askFor_47 : decode cX7_askFor 47 = .ok (.aload_n 0, 1) := by decide +kernel
theorem dX7_askFor_48 : decode cX7_askFor 48 = .ok (.dup, 1) := by decide +kernel
theorem dX7_askFor_49 : decode cX7_askFor 49 = .ok (.getfield 24, 3) := by decide +kernel
theorem dX7_askFor_52 : decode cX7_askFor 52 = .ok (.iconst 1, 1) := by decide +kernel
theorem dX7_askFor_53 : decode cX7_askFor 53 = .ok (.iadd, 1) := by decide +kernel
theorem dX7_askFor_54 : decode cX7_askFor 54 = .ok (.putfield 24, 3) := by decide +kernel
theorem dX7_askFor_57 : decode cX7_askFor 57 = .ok (.iconst 1, 1) := by decide +kernel
theorem dX7_askFor_58 : decode cX7_askFor 58 = .ok (.ireturn, 1) := by decide +kernel
theorem dX0_canBeginLoad_0 : decode cX0_canBeginLoad 0 = .ok (.aload_n 0, 1) := by decide +kernel
theorem dX0_canBeginLoad_1 : decode cX0_canBeginLoad 1 = .ok (.getfield 70, 3) := by decide +kernel
theorem dX0_canBeginLoad_4 : decode cX0_canBeginLoad 4 = .ok (.aload_n 1, 1) := by decide +kernel
theorem dX0_canBeginLoad_5 : decode cX0_canBeginLoad 5 = .ok (.getfield 161, 3) := by decide +kernel
theorem dX0_canBeginLoad_8 : decode cX0_canBeginLoad 8 = .ok (.getfield 223, 3) := by decide +kernel
theorem dX0_canBeginLoad_11 : decode cX0_canBeginLoad 11 = .ok (.bipush 16, 2) := by decide +kernel
theorem dX0_canBeginLoad_13 : decode cX0_canBeginLoad 13 = .ok (.invokestatic 224, 3) := by decide +kernel
theorem dX0_canBeginLoad_16 : decode cX0_canBeginLoad 16 = .ok (.baload, 1) := by decide +kernel
theorem dX0_canBeginLoad_17 : decode cX0_canBeginLoad 17 = .ok (.ifCond .eq 13, 3) := by decide +kernel
theorem dX0_canBeginLoad_20 : decode cX0_canBeginLoad 20 = .ok (.aload_n 0, 1) := by decide +kernel
theorem dX0_canBeginLoad_21 : decode cX0_canBeginLoad 21 = .ok (.iload_n 2, 1) := by decide +kernel
theorem dX0_canBeginLoad_22 : decode cX0_canBeginLoad 22 = .ok (.invokevirtual 367, 3) := by decide +kernel
theorem dX0_canBeginLoad_25 : decode cX0_canBeginLoad 25 = .ok (.ifCond .eq 5, 3) := by decide +kernel
theorem dX0_canBeginLoad_28 : decode cX0_canBeginLoad 28 = .ok (.iconst 0, 1) := by decide +kernel
theorem dX0_canBeginLoad_29 : decode cX0_canBeginLoad 29 = .ok (.ireturn, 1) := by decide +kernel
theorem dX0_canBeginLoad_30 : decode cX0_canBeginLoad 30 = .ok (.iload_n 2, 1) := by decide +kernel
theorem dX0_canBeginLoad_31 : decode cX0_canBeginLoad 31 = .ok (.iconst 1, 1) := by decide +kernel
theorem dX0_canBeginLoad_32 : decode cX0_canBeginLoad 32 = .ok (.isub, 1) := by decide +kernel
theorem dX0_canBeginLoad_33 : decode cX0_canBeginLoad 33 = .ok (.istore_n 3, 1) := by decide +kernel
theorem dX0_canBeginLoad_34 : decode cX0_canBeginLoad 34 = .ok (.iload_n 3, 1) := by decide +kernel
theorem dX0_canBeginLoad_35 : decode cX0_canBeginLoad 35 = .ok (.ifCond .lt 69, 3) := by decide +kernel
theorem dX0_canBeginLoad_38 : decode cX0_canBeginLoad 38 = .ok (.iload_n 3, 1) := by decide +kernel
theorem dX0_canBeginLoad_39 : decode cX0_canBeginLoad 39 = .ok (.aload_n 0, 1) := by decide +kernel
theorem dX0_canBeginLoad_40 : decode cX0_canBeginLoad 40 = .ok (.getfield 60, 3) := by decide +kernel
theorem dX0_canBeginLoad_43 : decode cX0_canBeginLoad 43 = .ok (.invokevirtual 123, 3) := by decide +kernel
theorem dX0_canBeginLoad_46 : decode cX0_canBeginLoad 46 = .ok (.if_icmp .ge 58, 3) := by decide +kernel
theorem dX0_canBeginLoad_49 : decode cX0_canBeginLoad 49 = .ok (.aload_n 0, 1) := by decide +kernel
theorem dX0_canBeginLoad_50 : decode cX0_canBeginLoad 50 = .ok (.getfield 60, 3) := by decide +kernel
theorem dX0_canBeginLoad_53 : decode cX0_canBeginLoad 53 = .ok (.iload_n 3, 1) := by decide +kernel
theorem dX0_canBeginLoad_54 : decode cX0_canBeginLoad 54 = .ok (.invokevirtual 127, 3) := by decide +kernel
theorem dX0_canBeginLoad_57 : decode cX0_canBeginLoad 57 = .ok (.checkcast 131, 3) := by decide +kernel
theorem dX0_canBeginLoad_60 : decode cX0_canBeginLoad 60 = .ok (.astore 4, 2) := by decide +kernel
theorem dX0_canBeginLoad_62 : decode cX0_canBeginLoad 62 = .ok (.aload 4, 2) := by decide +kernel
theorem dX0_canBeginLoad_64 : decode cX0_canBeginLoad 64 = .ok (.invokevirtual 370, 3) := by decide +kernel
theorem dX0_canBeginLoad_67 : decode cX0_canBeginLoad 67 = .ok (.ifCond .eq 31, 3) := by decide +kernel
theorem dX0_canBeginLoad_70 : decode cX0_canBeginLoad 70 = .ok (.aload 4, 2) := by decide +kernel
theorem dX0_canBeginLoad_72 : decode cX0_canBeginLoad 72 = .ok (.getfield 192, 3) := by decide +kernel
theorem dX0_canBeginLoad_75 : decode cX0_canBeginLoad 75 = .ok (.ifCond .ne 23, 3) := by decide +kernel
theorem dX0_canBeginLoad_78 : decode cX0_canBeginLoad 78 = .ok (.aload 4, 2) := by decide +kernel
theorem dX0_canBeginLoad_80 : decode cX0_canBeginLoad 80 = .ok (.getfield 137, 3) := by decide +kernel
theorem dX0_canBeginLoad_83 : decode cX0_canBeginLoad 83 = .ok (.aload_n 1, 1) := by decide +kernel
theorem dX0_canBeginLoad_84 : decode cX0_canBeginLoad 84 = .ok (.getfield 137, 3) := by decide +kernel
theorem dX0_canBeginLoad_87 : decode cX0_canBeginLoad 87 = .ok (.if_icmp .ne 11, 3) := by decide +kernel
theorem dX0_canBeginLoad_90 : decode cX0_canBeginLoad 90 = .ok (.aload_n 0, 1) := by decide +kernel
theorem dX0_canBeginLoad_91 : decode cX0_canBeginLoad 91 = .ok (.aload_n 1, 1) := by decide +kernel
theorem dX0_canBeginLoad_92 : decode cX0_canBeginLoad 92 = .ok (.aload 4, 2) := by decide +kernel
theorem dX0_canBeginLoad_94 : decode cX0_canBeginLoad 94 = .ok (.invokevirtual 373, 3) := by decide +kernel
theorem dX0_canBeginLoad_97 : decode cX0_canBeginLoad 97 = .ok (.ireturn, 1) := by decide +kernel
theorem dX0_canBeginLoad_98 : decode cX0_canBeginLoad 98 = .ok (.iinc 3 (-1), 3) := by decide +kernel
theorem dX0_canBeginLoad_101 : decode cX0_canBeginLoad 101 = .ok (.goto (-67), 3) := by decide +kernel
theorem dX0_canBeginLoad_104 : decode cX0_canBeginLoad 104 = .ok (.aload_n 1, 1) := by decide +kernel
theorem dX0_canBeginLoad_105 : decode cX0_canBeginLoad 105 = .ok (.getfield 137, 3) := by decide +kernel
theorem dX0_canBeginLoad_108 : decode cX0_canBeginLoad 108 = .ok (.iconst 4, 1) := by decide +kernel
theorem dX0_canBeginLoad_109 : decode cX0_canBeginLoad 109 = .ok (.idiv, 1) := by decide +kernel
theorem dX0_canBeginLoad_110 : decode cX0_canBeginLoad 110 = .ok (.istore_n 3, 1) := by decide +kernel
theorem dX0_canBeginLoad_111 : decode cX0_canBeginLoad 111 = .ok (.aload_n 0, 1) := by decide +kernel
theorem dX0_canBeginLoad_112 : decode cX0_canBeginLoad 112 = .ok (.getfield 49, 3) := by decide +kernel
theorem dX0_canBeginLoad_115 : decode cX0_canBeginLoad 115 = .ok (.iload_n 3, 1) := by decide +kernel
theorem dX0_canBeginLoad_116 : decode cX0_canBeginLoad 116 = .ok (.invokevirtual 377, 3) := by decide +kernel
theorem dX0_canBeginLoad_119 : decode cX0_canBeginLoad 119 = .ok (.ifCond .eq 27, 3) := by decide +kernel
theorem dX0_canBeginLoad_122 : decode cX0_canBeginLoad 122 = .ok (.aload_n 0, 1) := by decide +kernel
theorem dX0_canBeginLoad_123 : decode cX0_canBeginLoad 123 = .ok (.getfield 28, 3) := by decide +kernel
theorem dX0_canBeginLoad_126 : decode cX0_canBeginLoad 126 = .ok (.dup, 1) := by decide +kernel
theorem dX0_canBeginLoad_127 : decode cX0_canBeginLoad 127 = .ok (.getfield 380, 3) := by decide +kernel
theorem dX0_canBeginLoad_130 : decode cX0_canBeginLoad 130 = .ok (.iconst 1, 1) := by decide +kernel
theorem dX0_canBeginLoad_131 : decode cX0_canBeginLoad 131 = .ok (.iadd, 1) := by decide +kernel
theorem dX0_canBeginLoad_132 : decode cX0_canBeginLoad 132 = .ok (.putfield 380, 3) := by decide +kernel
theorem dX0_canBeginLoad_135 : decode cX0_canBeginLoad 135 = .ok (.aload_n 1, 1) := by decide +kernel
theorem dX0_canBeginLoad_136 : decode cX0_canBeginLoad 136 = .ok (.iconst 2, 1) := by decide +kernel
theorem dX0_canBeginLoad_137 : decode cX0_canBeginLoad 137 = .ok (.aload_n 0, 1) := by decide +kernel
theorem dX0_canBeginLoad_138 : decode cX0_canBeginLoad 138 = .ok (.getfield 77, 3) := by decide +kernel
theorem dX0_canBeginLoad_141 : decode cX0_canBeginLoad 141 = .ok (.invokevirtual 364, 3) := by decide +kernel
theorem dX0_canBeginLoad_144 : decode cX0_canBeginLoad 144 = .ok (.iconst 1, 1) := by decide +kernel
theorem dX0_canBeginLoad_145 : decode cX0_canBeginLoad 145 = .ok (.ireturn, 1) := by decide +kernel
theorem dX0_canBeginLoad_146 : decode cX0_canBeginLoad 146 = .ok (.aload_n 0, 1) := by decide +kernel
theorem dX0_canBeginLoad_147 : decode cX0_canBeginLoad 147 = .ok (.getfield 49, 3) := by decide +kernel
theorem dX0_canBeginLoad_150 : decode cX0_canBeginLoad 150 = .ok (.iload_n 3, 1) := by decide +kernel
theorem dX0_canBeginLoad_151 : decode cX0_canBeginLoad 151 = .ok (.invokevirtual 140, 3) := by decide +kernel
theorem dX0_canBeginLoad_154 : decode cX0_canBeginLoad 154 = .ok (.ifCond .ne 33, 3) := by decide +kernel
theorem dX0_canBeginLoad_157 : decode cX0_canBeginLoad 157 = .ok (.aload_n 0, 1) := by decide +kernel
theorem dX0_canBeginLoad_158 : decode cX0_canBeginLoad 158 = .ok (.getfield 49, 3) := by decide +kernel
theorem dX0_canBeginLoad_161 : decode cX0_canBeginLoad 161 = .ok (.iload_n 3, 1) := by decide +kernel
theorem dX0_canBeginLoad_162 : decode cX0_canBeginLoad 162 = .ok (.aload_n 0, 1) := by decide +kernel
theorem dX0_canBeginLoad_163 : decode cX0_canBeginLoad 163 = .ok (.getfield 77, 3) := by decide +kernel
theorem dX0_canBeginLoad_166 : decode cX0_canBeginLoad 166 = .ok (.invokevirtual 383, 3) := by decide +kernel
theorem dX0_canBeginLoad_169 : decode cX0_canBeginLoad 169 = .ok (.ifCond .ne 5, 3) := by decide +kernel
theorem dX0_canBeginLoad_172 : decode cX0_canBeginLoad 172 = .ok (.iconst 0, 1) := by decide +kernel
theorem dX0_canBeginLoad_173 : decode cX0_canBeginLoad 173 = .ok (.ireturn, 1) := by decide +kernel
theorem dX0_canBeginLoad_174 : decode cX0_canBeginLoad 174 = .ok (.aload_n 0, 1) := by decide +kernel
theorem dX0_canBeginLoad_175 : decode cX0_canBeginLoad 175 = .ok (.getfield 28, 3) := by decide +kernel
theorem dX0_canBeginLoad_178 : decode cX0_canBeginLoad 178 = .ok (.dup, 1) := by decide +kernel
theorem dX0_canBeginLoad_179 : decode cX0_canBeginLoad 179 = .ok (.getfield 387, 3) := by decide +kernel
theorem dX0_canBeginLoad_182 : decode cX0_canBeginLoad 182 = .ok (.iconst 1, 1) := by decide +kernel
theorem dX0_canBeginLoad_183 : decode cX0_canBeginLoad 183 = .ok (.iadd, 1) := by decide +kernel
theorem dX0_canBeginLoad_184 : decode cX0_canBeginLoad 184 = .ok (.putfield 387, 3) := by decide +kernel
theorem dX0_canBeginLoad_187 : decode cX0_canBeginLoad 187 = .ok (.aload_n 1, 1) := by decide +kernel
theorem dX0_canBeginLoad_188 : decode cX0_canBeginLoad 188 = .ok (.iconst 0, 1) := by decide +kernel
theorem dX0_canBeginLoad_189 : decode cX0_canBeginLoad 189 = .ok (.aload_n 0, 1) := by decide +kernel
theorem dX0_canBeginLoad_190 : decode cX0_canBeginLoad 190 = .ok (.getfield 77, 3) := by decide +kernel
theorem dX0_canBeginLoad_193 : decode cX0_canBeginLoad 193 = .ok (.invokevirtual 364, 3) := by decide +kernel
theorem dX0_canBeginLoad_196 : decode cX0_canBeginLoad 196 = .ok (.aload_n 1, 1) := by decide +kernel
theorem dX0_canBeginLoad_197 : decode cX0_canBeginLoad 197 = .ok (.bipush 109, 2) := by decide +kernel
theorem dX0_canBeginLoad_199 : decode cX0_canBeginLoad 199 = .ok (.putfield 133, 3) := by decide +kernel
theorem dX0_canBeginLoad_202 : decode cX0_canBeginLoad 202 = .ok (.iconst 1, 1) := by decide +kernel
theorem dX0_canBeginLoad_203 : decode cX0_canBeginLoad 203 = .ok (.ireturn, 1) := by decide +kernel
def mX5_valueOf : MD := (cX5_valueOf, RX5, yX5_valueOf, 2, (some .int), 0, 0)
theorem mf_X5_valueOf : MF mX5_valueOf 1 := MF.of 468 48 (by decide +kernel) (by decide +kernel) (by decide +kernel) (by decide +kernel) (by decide +kernel) rfl
def mX0_retireOldest : MD := (cX0_retireOldest, RX0, yX0_retireOldest, 3, none, 2, 44)
theorem mf_X0_retireOldest : MF mX0_retireOldest 1 := MF.of 986 40 (by decide +kernel) (by decide +kernel) (by decide +kernel) (by decide +kernel) (by decide +kernel) rfl
def mX0_reasonOfWaiting : MD := (cX0_reasonOfWaiting, RX0, yX0_reasonOfWaiting, 2, (some .char), 3, 64)
theorem mf_X0_reasonOfWaiting : MF mX0_reasonOfWaiting 0 := MF.of 1003 40 (by decide +kernel) (by decide +kernel) (by decide +kernel) (by decide +kernel) (by decide +kernel) rfl
def mX0_doRetiring : MD := (cX0_doRetiring, RX0, yX0_doRetiring, 4, none, 9, 236)
theorem mf_X0_doRetiring : MF mX0_doRetiring 0 := MF.of 835 40 (by decide +kernel) (by decide +kernel) (by decide +kernel) (by decide +kernel) (by decide +kernel) rfl
def mX0_isDividing : MD := (cX0_isDividing, RX0, yX0_isDividing, 3, (some .boolean), 3, 64)
theorem mf_X0_isDividing : MF mX0_isDividing 0 := MF.of 1011 40 (by decide +kernel) (by decide +kernel) (by decide +kernel) (by decide +kernel) (by decide +kernel) rfl
def mX6_unit : MD := (cX6_unit, RX6, yX6_unit, 1, (some .int), 0, 0)
theorem mf_X6_unit : MF mX6_unit 0 := MF.of 1015 62 (by decide +kernel) (by decide +kernel) (by decide +kernel) (by decide +kernel) (by decide +kernel) rfl
def mX6_needsA : MD := (cX6_needsA, RX6, yX6_needsA, 1, (some .boolean), 0, 0)
theorem mf_X6_needsA : MF mX6_needsA 0 := MF.of 1023 62 (by decide +kernel) (by decide +kernel) (by decide +kernel) (by decide +kernel) (by decide +kernel) rfl
def mX6_needsB : MD := (cX6_needsB, RX6, yX6_needsB, 1, (some .boolean), 1, 20)
theorem mf_X6_needsB : MF mX6_needsB 0 := MF.of 1027 62 (by decide +kernel) (by decide +kernel) (by decide +kernel) (by decide +kernel) (by decide +kernel) rfl
def mX0_hasOperands : MD := (cX0_hasOperands, RX0, yX0_hasOperands, 4, (some .boolean), 2, 40)
theorem mf_X0_hasOperands : MF mX0_hasOperands 1 := MF.of 1019 40 (by decide +kernel) (by decide +kernel) (by decide +kernel) (by decide +kernel) (by decide +kernel) rfl
def mX3_compute : MD := (cX3_compute, RX3, yX3_compute, 3, none, 2, 44)
theorem mf_X3_compute : MF mX3_compute 2 := MF.of 1035 67 (by decide +kernel) (by decide +kernel) (by decide +kernel) (by decide +kernel) (by decide +kernel) rfl
def mX0_isStoreOpenBefore : MD := (cX0_isStoreOpenBefore, RX0, yX0_isStoreOpenBefore, 4, (some .boolean), 3, 64)
theorem mf_X0_isStoreOpenBefore : MF mX0_isStoreOpenBefore 1 := MF.of 1049 40 (by decide +kernel) (by decide +kernel) (by decide +kernel) (by decide +kernel) (by decide +kernel) rfl
def mX3_isEndedStore : MD := (cX3_isEndedStore, RX3, yX3_isEndedStore, 1, (some .boolean), 1, 20)
theorem mf_X3_isEndedStore : MF mX3_isEndedStore 0 := MF.of 1053 67 (by decide +kernel) (by decide +kernel) (by decide +kernel) (by decide +kernel) (by decide +kernel) rfl
def mX3_beginWith : MD := (cX3_beginWith, RX3, yX3_beginWith, 3, none, 0, 0)
theorem mf_X3_beginWith : MF mX3_beginWith 2 := MF.of 1062 67 (by decide +kernel) (by decide +kernel) (by decide +kernel) (by decide +kernel) (by decide +kernel) rfl
def mX0_canTake : MD := (cX0_canTake, RX0, yX0_canTake, 3, (some .boolean), 1, 22)
theorem mf_X0_canTake : MF mX0_canTake 2 := MF.of 1058 40 (by decide +kernel) (by decide +kernel) (by decide +kernel) (by decide +kernel) (by decide +kernel) rfl
def mX7_isThere : MD := (cX7_isThere, RX7, yX7_isThere, 2, (some .boolean), 1, 22)
theorem mf_X7_isThere : MF mX7_isThere 1 := MF.of 1066 49 (by decide +kernel) (by decide +kernel) (by decide +kernel) (by decide +kernel) (by decide +kernel) rfl
def mX7_askFor : MD := (cX7_askFor, RX7, yX7_askFor, 3, (some .boolean), 0, 0)
theorem mf_X7_askFor : MF mX7_askFor 2 := MF.of 1070 49 (by decide +kernel) (by decide +kernel) (by decide +kernel) (by decide +kernel) (by decide +kernel) rfl
def mX0_canBeginLoad : MD := (cX0_canBeginLoad, RX0, yX0_canBeginLoad, 5, (some .boolean), 4, 87)
theorem mf_X0_canBeginLoad : MF mX0_canBeginLoad 2 := MF.of 1045 40 (by decide +kernel) (by decide +kernel) (by decide +kernel) (by decide +kernel) (by decide +kernel) rfl
theorem cv_X0_255 : CVs RX0 255 mX0_takeInterrupt 1 := CVs.of 836 838 14 (by decide +kernel) (by decide +kernel) (by decide +kernel) _ rfl rfl
theorem cv_X0_258 : CVs RX0 258 mX0_canLeave 1 := CVs.of 967 969 17 (by decide +kernel) (by decide +kernel) (by decide +kernel) _ rfl rfl
theorem cv_X0_268 : CVs RX0 268 mX0_takeTrap 1 := CVs.of 979 981 18 (by decide +kernel) (by decide +kernel) (by decide +kernel) _ rfl rfl
theorem cv_X0_275 : CVs RX0 275 mX0_retireOldest 1 := CVs.of 983 985 19 (by decide +kernel) (by decide +kernel) (by decide +kernel) _ rfl rfl
theorem cv_X0_278 : CVs RX0 278 mX0_reasonOfWaiting 1 := CVs.of 1000 1002 20 (by decide +kernel) (by decide +kernel) (by decide +kernel) _ rfl rfl
theorem cv_X0_301 : CVs RX0 301 mX5_settle 6 := CVs.of 987 988 989 (by decide +kernel) (by decide +kernel) (by decide +kernel) _ rfl rfl
theorem cv_X0_304 : CVs RX0 304 mX4_learn 5 := CVs.of 991 992 993 (by decide +kernel) (by decide +kernel) (by decide +kernel) _ rfl rfl
theorem cv_X0_307 : CVs RX0 307 mX5_valueOf 6 := CVs.of 465 466 467 (by decide +kernel) (by decide +kernel) (by decide +kernel) _ rfl rfl
theorem cv_X0_311 : CVs RX0 311 mX6_changedWord 7 := CVs.of 999 881 882 (by decide +kernel) (by decide +kernel) (by decide +kernel) _ rfl rfl
theorem cv_X0_346 : CVs RX0 346 mX6_needsA 7 := CVs.of 1020 1021 1022 (by decide +kernel) (by decide +kernel) (by decide +kernel) _ rfl rfl
theorem cv_X0_352 : CVs RX0 352 mX6_needsB 7 := CVs.of 1024 1025 1026 (by decide +kernel) (by decide +kernel) (by decide +kernel) _ rfl rfl
theorem cv_X0_364 : CVs RX0 364 mX3_beginWith 4 := CVs.of 1059 1060 1061 (by decide +kernel) (by decide +kernel) (by decide +kernel) _ rfl rfl
theorem cv_X0_367 : CVs RX0 367 mX0_isStoreOpenBefore 1 := CVs.of 1046 1048 26 (by decide +kernel) (by decide +kernel) (by decide +kernel) _ rfl rfl
theorem cv_X0_370 : CVs RX0 370 mX3_isEndedStore 4 := CVs.of 1050 1051 1052 (by decide +kernel) (by decide +kernel) (by decide +kernel) _ rfl rfl
theorem cv_X0_373 : CVs RX0 373 mX0_canTake 1 := CVs.of 1055 1057 27 (by decide +kernel) (by decide +kernel) (by decide +kernel) _ rfl rfl
theorem cv_X0_377 : CVs RX0 377 mX7_isThere 8 := CVs.of 1063 1064 1065 (by decide +kernel) (by decide +kernel) (by decide +kernel) _ rfl rfl
theorem cv_X0_383 : CVs RX0 383 mX7_askFor 8 := CVs.of 1067 1068 1069 (by decide +kernel) (by decide +kernel) (by decide +kernel) _ rfl rfl
theorem cv_X3_68 : CVs RX3 68 mX6_goesBy 7 := CVs.of 1038 869 870 (by decide +kernel) (by decide +kernel) (by decide +kernel) _ rfl rfl
theorem cv_X3_77 : CVs RX3 77 mX6_isStore 7 := CVs.of 1054 820 821 (by decide +kernel) (by decide +kernel) (by decide +kernel) _ rfl rfl
theorem cv_X3_81 : CVs RX3 81 mX6_trapBy 7 := CVs.of 1036 859 860 (by decide +kernel) (by decide +kernel) (by decide +kernel) _ rfl rfl
theorem cv_X3_84 : CVs RX3 84 mX6_resultBy 7 := CVs.of 1037 888 889 (by decide +kernel) (by decide +kernel) (by decide +kernel) _ rfl rfl
theorem cv_X3_87 : CVs RX3 87 mX6_isQuestion 7 := CVs.of 1039 783 784 (by decide +kernel) (by decide +kernel) (by decide +kernel) _ rfl rfl
theorem cv_X3_90 : CVs RX3 90 mX6_isSo 7 := CVs.of 1040 874 875 (by decide +kernel) (by decide +kernel) (by decide +kernel) _ rfl rfl
theorem cv_X3_93 : CVs RX3 93 mX6_unit 7 := CVs.of 1041 1013 1014 (by decide +kernel) (by decide +kernel) (by decide +kernel) _ rfl rfl
theorem fl_X0_112 : FL RX0 112 10 0 0 := FL.of _ rfl (by decide) 116 (by decide +kernel) (by decide)
theorem fl_X0_261 : FL RX0 261 4 4 3 := FL.of _ rfl (by decide) 1157 (by decide +kernel) (by decide)
theorem fl_X0_314 : FL RX0 314 5 3 3 := FL.of _ rfl (by decide) 307 (by decide +kernel) (by decide)
theorem fl_X0_349 : FL RX0 349 4 6 0 := FL.of _ rfl (by decide) 1163 (by decide +kernel) (by decide)
theorem fl_X0_380 : FL RX0 380 2 5 0 := FL.of _ rfl (by decide) 172 (by decide +kernel) (by decide)
theorem fl_X0_387 : FL RX0 387 2 6 0 := FL.of _ rfl (by decide) 175 (by decide +kernel) (by decide)
theorem fl_X0_390 : FL RX0 390 2 4 0 := FL.of _ rfl (by decide) 169 (by decide +kernel) (by decide)
theorem fl_X3_36 : FL RX3 36 4 10 0 := FL.of _ rfl (by decide) 1172 (by decide +kernel) (by decide)
theorem fl_X3_39 : FL RX3 39 4 11 0 := FL.of _ rfl (by decide) 1174 (by decide +kernel) (by decide)
theorem fl_X3_42 : FL RX3 42 4 12 0 := FL.of _ rfl (by decide) 1176 (by decide +kernel) (by decide)
theorem fl_X3_45 : FL RX3 45 4 13 0 := FL.of _ rfl (by decide) 1178 (by decide +kernel) (by decide)
theorem fl_X3_48 : FL RX3 48 4 15 1 := FL.of _ rfl (by decide) 1183 (by decide +kernel) (by decide)
theorem fl_X3_55 : FL RX3 55 4 0 3 := FL.of _ rfl (by decide) 1144 (by decide +kernel) (by decide)
theorem fl_X3_74 : FL RX3 74 4 14 0 := FL.of _ rfl (by decide) 1180 (by decide +kernel) (by decide)
theorem fl_X3_97 : FL RX3 97 7 5 0 := FL.of _ rfl (by decide) 616 (by decide +kernel) (by decide)
theorem fn_4_11 : FN 4 11 false := fun q h => by cases h; rfl
theorem fn_4_12 : FN 4 12 false := fun q h => by cases h; rfl
theorem fn_4_14 : FN 4 14 false := fun q h => by cases h; rfl
theorem fn_4_15 : FN 4 15 false := fun q h => by cases h; rfl
theorem fn_4_16 : FN 4 16 false := fun q h => by cases h; rfl
theorem iv_bipush_100 : (Int8.ofInt (100)).toInt32 = 100 := by decide
theorem iv_bipush_102 : (Int8.ofInt (102)).toInt32 = 102 := by decide
theorem iv_bipush_116 : (Int8.ofInt (116)).toInt32 = 116 := by decide
theorem iv_bipush_18 : (Int8.ofInt (18)).toInt32 = 18 := by decide
def f_X5_valueOf (a0 : Nat) (x1 : Int32) (μ : Mm) : Option Int32 :=
  if x1 < 0 then
    some 0
  else
    if 24 ≤ x1 then
      some 0
    else
      ck (mK μ a0 = 106) <|
      bd (mR μ a0 2) fun p4 =>
      ck (isA 1 (mK μ p4)) <|
      ck (inb x1 (mL μ p4)) <|
      some (mI μ p4 (Int32.toNatClampNeg x1))
set_option maxRecDepth 100000 in
theorem s_X5_valueOf {l : Launch} {G : Gt} (hG : Gok l G) (a0 : Nat) (x1 : Int32) (μ : Mm) (r : Int32) (h : f_X5_valueOf a0 x1 μ = some r) : ZX l G mX5_valueOf 0 [(0, .ref a0), (1, .int x1)] [] μ (.inl (some (.int r))) μ := by
  unfold f_X5_valueOf at h
  refine zx_iload_n dX5_valueOf_0 rfl (q := 1) rfl ?_
  by_cases c1 : x1 < 0
  · have h := it_t c1 h
    refine zx_if_lt_t (tgt := 19) dX5_valueOf_1 (by decide) c1 ?_
    refine zx_iconst (v := 0) dX5_valueOf_19 iv_iconst_0 ?_
    cases h
    exact zx_iret dX5_valueOf_20 rfl
  · have h := it_f c1 h
    refine zx_if_lt_f (tgt := 19) dX5_valueOf_1 (by decide) c1 ?_
    refine zx_iload_n dX5_valueOf_4 rfl (q := 1) rfl ?_
    refine zx_bipush (v := 24) dX5_valueOf_5 iv_bipush_24 ?_
    by_cases c2 : 24 ≤ x1
    · have h := it_t c2 h
      refine zx_icmp_ge_t (tgt := 19) dX5_valueOf_7 (by decide) c2 ?_
      refine zx_iconst (v := 0) dX5_valueOf_19 iv_iconst_0 ?_
      cases h
      exact zx_iret dX5_valueOf_20 rfl
    · have h := it_f c2 h
      refine zx_icmp_ge_f (tgt := 19) dX5_valueOf_7 (by decide) c2 ?_
      refine zx_aload_n dX5_valueOf_10 rfl (q := 0) rfl ?_
      obtain ⟨h3, h⟩ := ck_e h
      obtain ⟨p4, h5, h⟩ := bd_e h
      refine zx_getR hG fl_X5_18 h3 h5 dX5_valueOf_11 ?_
      refine zx_iload_n dX5_valueOf_14 rfl (q := 1) rfl ?_
      obtain ⟨h6, h⟩ := ck_e h
      obtain ⟨h7, h⟩ := ck_e h
      refine zx_iald hG rfl (h6).1 (h6).2 (inb_e h7) dX5_valueOf_15 ?_
      refine zx_goto (tgt := 20) dX5_valueOf_16 (by decide) ?_
      cases h
      exact zx_iret dX5_valueOf_20 rfl
def f_X0_retireOldest_b82 (a0 : Nat) (a2 : Nat) (μ : Mm) : Option (Unit × Mm) :=
  ck (mK μ a2 = 107) <|
  if ¬ (mI μ a2 1) = 18 then
    if ¬ (mI μ a2 1) = 21 then
      some ((), μ)
    else
      ck (mK μ a0 = 101) <|
      zl (sI μ a0 15 0) fun μ52 =>
      zl (sI μ52 a0 17 (mI μ52 a0 16)) fun μ55 =>
      bd (mR μ55 a0 6) fun p58 =>
      bd (mR μ55 a0 6) fun p60 =>
      ck (mK μ55 p60 = 105) <|
      bd (mR μ55 p60 3) fun p63 =>
      ck (mK μ55 p58 = 105) <|
      cl (f_X4_goOn p58 (mI μ55 a0 17) p63 μ55) fun _ μ68 =>
      some ((), μ68)
  else
    ck (mK μ a0 = 101) <|
    zl (sI μ a0 13 1) fun μ70 =>
    some ((), μ70)
def f_X0_retireOldest (a0 : Nat) (a1 : Nat) (μ : Mm) : Option (Unit × Mm) :=
  ck (mK μ a1 = 104) <|
  bd (mR μ a1 0) fun p2 =>
  ck (mK μ a0 = 101) <|
  zl (sI μ a0 17 (mI μ a1 14)) fun μ5 =>
  bd (mR μ5 a0 4) fun p8 =>
  ck (mK μ5 p8 = 106) <|
  cl (f_X5_settle p8 a1 μ5) fun _ μ13 =>
  ck (mK μ13 a0 = 101) <|
  bd (mR μ13 a0 6) fun p15 =>
  ck (mK μ13 p15 = 105) <|
  cl (f_X4_learn p15 a1 μ13) fun _ μ20 =>
  ck (mK μ20 p2 = 107) <|
  bd (f_X6_isStore p2 μ20) fun y22 =>
  if y22 = 0 then
    f_X0_retireOldest_b82 a0 p2 μ20
  else
    ck (mK μ20 a1 = 104) <|
    bd (f_X10_isAddress (mI μ20 a1 11)) fun y26 =>
    if y26 = 0 then
      f_X0_retireOldest_b82 a0 p2 μ20
    else
      ck (mK μ20 a0 = 101) <|
      bd (mR μ20 a0 9) fun p30 =>
      bd (mR μ20 a0 9) fun p32 =>
      ck (isA 1 (mK μ20 p32)) <|
      ck (inb (mI μ20 a1 11) (mL μ20 p32)) <|
      bd (mR μ20 a0 4) fun p36 =>
      ck (mK μ20 p36 = 106) <|
      bd (f_X5_valueOf p36 (mI μ20 a1 7) μ20) fun y39 =>
      bd (f_X6_changedWord p2 (mI μ20 p32 (Int32.toNatClampNeg (mI μ20 a1 11))) y39 μ20) fun y41 =>
      ck (isA 1 (mK μ20 p30)) <|
      ck (inb (mI μ20 a1 11) (mL μ20 p30)) <|
      zl (sI μ20 p30 (Int32.toNatClampNeg (mI μ20 a1 11)) y41) fun μ45 =>
      some ((), μ45)
set_option maxRecDepth 100000 in
theorem s_X0_retireOldest_b82 {l : Launch} {G : Gt} (hG : Gok l G) (a0 : Nat) (a2 : Nat) (μ : Mm) (r : Unit) (μ' : Mm) (h : f_X0_retireOldest_b82 a0 a2 μ = some (r, μ')) : ZX l G mX0_retireOldest 82 [(0, .ref a0), (2, .ref a2)] [] μ (.inl none) μ' := by
  unfold f_X0_retireOldest_b82 at h
  refine zx_aload_n dX0_retireOldest_82 rfl (q := 1) rfl ?_
  obtain ⟨h48, h⟩ := ck_e h
  refine zx_getI hG fl_X0_165 h48 dX0_retireOldest_83 ?_
  refine zx_bipush (v := 18) dX0_retireOldest_86 iv_bipush_18 ?_
  by_cases c49 : ¬ (mI μ a2 1) = 18
  · have h := it_t c49 h
    refine zx_icmp_ne_t (tgt := 99) dX0_retireOldest_88 (by decide) c49 ?_
    refine zx_aload_n dX0_retireOldest_99 rfl (q := 1) rfl ?_
    refine zx_getI hG fl_X0_165 h48 dX0_retireOldest_100 ?_
    refine zx_bipush (v := 21) dX0_retireOldest_103 iv_bipush_21 ?_
    by_cases c50 : ¬ (mI μ a2 1) = 21
    · have h := it_t c50 h
      refine zx_icmp_ne_t (tgt := 139) dX0_retireOldest_105 (by decide) c50 ?_
      cases h
      exact zx_vret dX0_retireOldest_139 rfl
    · have h := it_f c50 h
      refine zx_icmp_ne_f (tgt := 139) dX0_retireOldest_105 (by decide) (Classical.not_not.mp c50) ?_
      refine zx_aload_n dX0_retireOldest_108 rfl (q := 0) rfl ?_
      refine zx_iconst (v := 0) dX0_retireOldest_109 iv_iconst_0 ?_
      obtain ⟨h51, h⟩ := ck_e h
      refine zx_putZ hG fl_X0_88 fn_1_15 h51 zb_0 dX0_retireOldest_110 ?_
      obtain ⟨μ52, e54, h⟩ := zlm_e h
      refine zx_mem e54 ?_
      have e53 : mK μ52 = mK μ := (congrArg mK e54).trans rfl
      refine zx_aload_n dX0_retireOldest_113 rfl (q := 0) rfl ?_
      refine zx_aload_n dX0_retireOldest_114 rfl (q := 0) rfl ?_
      refine zx_getI hG fl_X0_91 (kp_o (e53) h51) dX0_retireOldest_115 ?_
      refine zx_putI hG fl_X0_94 fn_1_17 (kp_o (e53) h51) dX0_retireOldest_118 ?_
      obtain ⟨μ55, e57, h⟩ := zlm_e h
      refine zx_mem e57 ?_
      have e56 : mK μ55 = mK μ52 := (congrArg mK e57).trans rfl
      refine zx_aload_n dX0_retireOldest_121 rfl (q := 0) rfl ?_
      obtain ⟨p58, h59, h⟩ := bd_e h
      refine zx_getR hG fl_X0_56 (kp_o (Eq.trans e56 e53) h51) h59 dX0_retireOldest_122 ?_
      refine zx_aload_n dX0_retireOldest_125 rfl (q := 0) rfl ?_
      refine zx_getI hG fl_X0_94 (kp_o (Eq.trans e56 e53) h51) dX0_retireOldest_126 ?_
      refine zx_aload_n dX0_retireOldest_129 rfl (q := 0) rfl ?_
      obtain ⟨p60, h61, h⟩ := bd_e h
      refine zx_getR hG fl_X0_56 (kp_o (Eq.trans e56 e53) h51) h61 dX0_retireOldest_130 ?_
      obtain ⟨h62, h⟩ := ck_e h
      obtain ⟨p63, h64, h⟩ := bd_e h
      refine zx_getR hG fl_X0_314 h62 h64 dX0_retireOldest_133 ?_
      obtain ⟨h65, h⟩ := ck_e h
      obtain ⟨uu66, μ68, z67, h⟩ := cl_e h
      refine zx_callV (As := [.int (mI μ55 a0 17), .ref p63]) hG mf_X4_goOn cv_X0_210 h65 ⟨by decide, by decide⟩ rfl rfl (Nat.le_of_ble_eq_true rfl) (s_X4_goOn hG _ _ _ _ _ _ z67) (Nat.le_of_ble_eq_true rfl) dX0_retireOldest_136 ?_
      cases h
      exact zx_vret dX0_retireOldest_139 rfl
  · have h := it_f c49 h
    refine zx_icmp_ne_f (tgt := 99) dX0_retireOldest_88 (by decide) (Classical.not_not.mp c49) ?_
    refine zx_aload_n dX0_retireOldest_91 rfl (q := 0) rfl ?_
    refine zx_iconst (v := 1) dX0_retireOldest_92 iv_iconst_1 ?_
    obtain ⟨h69, h⟩ := ck_e h
    refine zx_putZ hG fl_X0_81 fn_1_13 h69 zb_1 dX0_retireOldest_93 ?_
    obtain ⟨μ70, e72, h⟩ := zlm_e h
    refine zx_mem e72 ?_
    have e71 : mK μ70 = mK μ := (congrArg mK e72).trans rfl
    refine zx_goto (tgt := 139) dX0_retireOldest_96 (by decide) ?_
    cases h
    exact zx_vret dX0_retireOldest_139 rfl
set_option maxRecDepth 100000 in
theorem s_X0_retireOldest {l : Launch} {G : Gt} (hG : Gok l G) (a0 : Nat) (a1 : Nat) (μ : Mm) (r : Unit) (μ' : Mm) (h : f_X0_retireOldest a0 a1 μ = some (r, μ')) : ZX l G mX0_retireOldest 0 [(0, .ref a0), (1, .ref a1)] [] μ (.inl none) μ' := by
  unfold f_X0_retireOldest at h
  refine zx_aload_n dX0_retireOldest_0 rfl (q := 1) rfl ?_
  obtain ⟨h1, h⟩ := ck_e h
  obtain ⟨p2, h3, h⟩ := bd_e h
  refine zx_getR hG fl_X0_161 h1 h3 dX0_retireOldest_1 ?_
  refine zx_astore_n (L' := [(2, .ref p2), (0, .ref a0), (1, .ref a1)]) dX0_retireOldest_4 rfl (by decide) rfl ?_
  refine zx_aload_n dX0_retireOldest_5 rfl (q := 1) rfl ?_
  refine zx_aload_n dX0_retireOldest_6 rfl (q := 2) rfl ?_
  refine zx_getI hG fl_X0_195 h1 dX0_retireOldest_7 ?_
  obtain ⟨h4, h⟩ := ck_e h
  refine zx_putI hG fl_X0_94 fn_1_17 h4 dX0_retireOldest_10 ?_
  obtain ⟨μ5, e7, h⟩ := zlm_e h
  refine zx_mem e7 ?_
  have e6 : mK μ5 = mK μ := (congrArg mK e7).trans rfl
  refine zx_aload_n dX0_retireOldest_13 rfl (q := 1) rfl ?_
  obtain ⟨p8, h9, h⟩ := bd_e h
  refine zx_getR hG fl_X0_42 (kp_o (e6) h4) h9 dX0_retireOldest_14 ?_
  refine zx_aload_n dX0_retireOldest_17 rfl (q := 2) rfl ?_
  obtain ⟨h10, h⟩ := ck_e h
  obtain ⟨uu11, μ13, z12, h⟩ := cl_e h
  refine zx_callV (As := [.ref a1]) hG mf_X5_settle cv_X0_301 h10 ⟨by decide, by decide⟩ rfl rfl (Nat.le_of_ble_eq_true rfl) (s_X5_settle hG _ _ _ _ _ z12) (Nat.le_of_ble_eq_true rfl) dX0_retireOldest_18 ?_
  refine zx_aload_n dX0_retireOldest_21 rfl (q := 1) rfl ?_
  obtain ⟨h14, h⟩ := ck_e h
  obtain ⟨p15, h16, h⟩ := bd_e h
  refine zx_getR hG fl_X0_56 h14 h16 dX0_retireOldest_22 ?_
  refine zx_aload_n dX0_retireOldest_25 rfl (q := 2) rfl ?_
  obtain ⟨h17, h⟩ := ck_e h
  obtain ⟨uu18, μ20, z19, h⟩ := cl_e h
  refine zx_callV (As := [.ref a1]) hG mf_X4_learn cv_X0_304 h17 ⟨by decide, by decide⟩ rfl rfl (Nat.le_of_ble_eq_true rfl) (s_X4_learn hG _ _ _ _ _ z19) (Nat.le_of_ble_eq_true rfl) dX0_retireOldest_26 ?_
  refine zx_aload_n dX0_retireOldest_29 rfl (q := 0) rfl ?_
  obtain ⟨h21, h⟩ := ck_e h
  obtain ⟨y22, z23, h⟩ := bd_e h
  refine zx_callV (As := []) hG mf_X6_isStore cv_X0_214 h21 ⟨by decide, by decide⟩ rfl rfl (Nat.le_of_ble_eq_true rfl) (s_X6_isStore hG _ _ _ z23) (Nat.le_of_ble_eq_true rfl) dX0_retireOldest_30 ?_
  by_cases c24 : y22 = 0
  · have h := it_t c24 h
    refine zx_if_eq_t (tgt := 82) dX0_retireOldest_33 (by decide) c24 ?_
    refine zx_sub (L' := [(0, .ref a0), (2, .ref p2)]) [1, 0] rfl ?_
    exact s_X0_retireOldest_b82 hG _ _ _ _ _ h
  · have h := it_f c24 h
    refine zx_if_eq_f (tgt := 82) dX0_retireOldest_33 (by decide) c24 ?_
    refine zx_aload_n dX0_retireOldest_36 rfl (q := 2) rfl ?_
    obtain ⟨h25, h⟩ := ck_e h
    refine zx_getI hG fl_X0_137 h25 dX0_retireOldest_37 ?_
    obtain ⟨y26, z27, h⟩ := bd_e h
    refine zx_callSN (As := [.int (mI μ20 a1 11)]) hG mf_X10_isAddress cs_X0_173 ⟨by decide, by decide⟩ rfl rfl (Nat.le_of_ble_eq_true rfl) (s_X10_isAddress hG _ _ _ z27) (Nat.le_of_ble_eq_true rfl) dX0_retireOldest_40 ?_
    by_cases c28 : y26 = 0
    · have h := it_t c28 h
      refine zx_if_eq_t (tgt := 82) dX0_retireOldest_43 (by decide) c28 ?_
      refine zx_sub (L' := [(0, .ref a0), (2, .ref p2)]) [1, 0] rfl ?_
      exact s_X0_retireOldest_b82 hG _ _ _ _ _ h
    · have h := it_f c28 h
      refine zx_if_eq_f (tgt := 82) dX0_retireOldest_43 (by decide) c28 ?_
      refine zx_aload_n dX0_retireOldest_46 rfl (q := 1) rfl ?_
      obtain ⟨h29, h⟩ := ck_e h
      obtain ⟨p30, h31, h⟩ := bd_e h
      refine zx_getR hG fl_X0_66 h29 h31 dX0_retireOldest_47 ?_
      refine zx_aload_n dX0_retireOldest_50 rfl (q := 2) rfl ?_
      refine zx_getI hG fl_X0_137 h25 dX0_retireOldest_51 ?_
      refine zx_aload_n dX0_retireOldest_54 rfl (q := 0) rfl ?_
      refine zx_aload_n dX0_retireOldest_55 rfl (q := 1) rfl ?_
      obtain ⟨p32, h33, h⟩ := bd_e h
      refine zx_getR hG fl_X0_66 h29 h33 dX0_retireOldest_56 ?_
      refine zx_aload_n dX0_retireOldest_59 rfl (q := 2) rfl ?_
      refine zx_getI hG fl_X0_137 h25 dX0_retireOldest_60 ?_
      obtain ⟨h34, h⟩ := ck_e h
      obtain ⟨h35, h⟩ := ck_e h
      refine zx_iald hG rfl (h34).1 (h34).2 (inb_e h35) dX0_retireOldest_63 ?_
      refine zx_aload_n dX0_retireOldest_64 rfl (q := 1) rfl ?_
      obtain ⟨p36, h37, h⟩ := bd_e h
      refine zx_getR hG fl_X0_42 h29 h37 dX0_retireOldest_65 ?_
      refine zx_aload_n dX0_retireOldest_68 rfl (q := 2) rfl ?_
      refine zx_getI hG fl_X0_285 h25 dX0_retireOldest_69 ?_
      obtain ⟨h38, h⟩ := ck_e h
      obtain ⟨y39, z40, h⟩ := bd_e h
      refine zx_callV (As := [.int (mI μ20 a1 7)]) hG mf_X5_valueOf cv_X0_307 h38 ⟨by decide, by decide⟩ rfl rfl (Nat.le_of_ble_eq_true rfl) (s_X5_valueOf hG _ _ _ _ z40) (Nat.le_of_ble_eq_true rfl) dX0_retireOldest_72 ?_
      obtain ⟨y41, z42, h⟩ := bd_e h
      refine zx_callV (As := [.int (mI μ20 p32 (Int32.toNatClampNeg (mI μ20 a1 11))), .int y39]) hG mf_X6_changedWord cv_X0_311 h21 ⟨by decide, by decide⟩ rfl rfl (Nat.le_of_ble_eq_true rfl) (s_X6_changedWord hG _ _ _ _ _ z42) (Nat.le_of_ble_eq_true rfl) dX0_retireOldest_75 ?_
      obtain ⟨h43, h⟩ := ck_e h
      obtain ⟨h44, h⟩ := ck_e h
      refine zx_iast hG rfl (h43).1 (h43).2 (inb_e h44) dX0_retireOldest_78 ?_
      obtain ⟨μ45, e47, h⟩ := zlm_e h
      refine zx_mem e47 ?_
      have e46 : mK μ45 = mK μ20 := (congrArg mK e47).trans rfl
      refine zx_goto (tgt := 139) dX0_retireOldest_79 (by decide) ?_
      cases h
      exact zx_vret dX0_retireOldest_139 rfl
def f_X0_reasonOfWaiting (a0 : Nat) (μ : Mm) : Option Int32 :=
  ck (mK μ a0 = 101) <|
  bd (mR μ a0 7) fun p2 =>
  ck (mK μ p2 = 100) <|
  bd (f_Jx4a65c_isEmpty_aae02 p2 μ) fun y5 =>
  if y5 = 0 then
    bd (mR μ a0 7) fun p8 =>
    ck (mK μ p8 = 100) <|
    bd (f_Jx4a65c_get_915e3 p8 0 μ) fun p11 =>
    ck (mK μ p11 = 104) <|
    if ¬ (zc (mI μ p11 5)) = 101 then
      ck (zc (zc (mI μ p11 5)) = (zc (mI μ p11 5))) <|
      some (zc (mI μ p11 5))
    else
      some 100
  else
    some 102
set_option maxRecDepth 100000 in
theorem s_X0_reasonOfWaiting {l : Launch} {G : Gt} (hG : Gok l G) (a0 : Nat) (μ : Mm) (r : Int32) (h : f_X0_reasonOfWaiting a0 μ = some r) : ZX l G mX0_reasonOfWaiting 0 [(0, .ref a0)] [] μ (.inl (some (.int r))) μ := by
  unfold f_X0_reasonOfWaiting at h
  refine zx_aload_n dX0_reasonOfWaiting_0 rfl (q := 0) rfl ?_
  obtain ⟨h1, h⟩ := ck_e h
  obtain ⟨p2, h3, h⟩ := bd_e h
  refine zx_getR hG fl_X0_60 h1 h3 dX0_reasonOfWaiting_1 ?_
  obtain ⟨h4, h⟩ := ck_e h
  obtain ⟨y5, z6, h⟩ := bd_e h
  refine zx_callV (As := []) hG mf_Jx4a65c_isEmpty_aae02 cv_X0_282 h4 ⟨by decide, by decide⟩ rfl rfl (Nat.le_of_ble_eq_true rfl) (s_Jx4a65c_isEmpty_aae02 hG _ _ _ z6) (Nat.le_of_ble_eq_true rfl) dX0_reasonOfWaiting_4 ?_
  by_cases c7 : y5 = 0
  · have h := it_t c7 h
    refine zx_if_eq_t (tgt := 13) dX0_reasonOfWaiting_7 (by decide) c7 ?_
    refine zx_aload_n dX0_reasonOfWaiting_13 rfl (q := 0) rfl ?_
    obtain ⟨p8, h9, h⟩ := bd_e h
    refine zx_getR hG fl_X0_60 h1 h9 dX0_reasonOfWaiting_14 ?_
    refine zx_iconst (v := 0) dX0_reasonOfWaiting_17 iv_iconst_0 ?_
    obtain ⟨h10, h⟩ := ck_e h
    obtain ⟨p11, z12, h⟩ := bd_e h
    refine zx_callV (As := [.int 0]) hG mf_Jx4a65c_get_915e3 cv_X0_127 h10 ⟨by decide, by decide⟩ rfl rfl (Nat.le_of_ble_eq_true rfl) (s_Jx4a65c_get_915e3 hG _ _ _ _ z12) (Nat.le_of_ble_eq_true rfl) dX0_reasonOfWaiting_18 ?_
    obtain ⟨h13, h⟩ := ck_e h
    refine zx_castO hG kt_X0_131 h13 dX0_reasonOfWaiting_21 ?_
    refine zx_getC hG fl_X0_133 h13 dX0_reasonOfWaiting_24 ?_
    refine zx_istore_n (L' := [(1, .int (zc (mI μ p11 5))), (0, .ref a0)]) dX0_reasonOfWaiting_27 rfl (by decide) rfl ?_
    refine zx_iload_n dX0_reasonOfWaiting_28 rfl (q := 0) rfl ?_
    refine zx_bipush (v := 101) dX0_reasonOfWaiting_29 iv_bipush_101 ?_
    by_cases c14 : ¬ (zc (mI μ p11 5)) = 101
    · have h := it_t c14 h
      refine zx_icmp_ne_t (tgt := 39) dX0_reasonOfWaiting_31 (by decide) c14 ?_
      refine zx_iload_n dX0_reasonOfWaiting_39 rfl (q := 0) rfl ?_
      obtain ⟨h15, h⟩ := ck_e h
      cases h
      exact zx_zretC dX0_reasonOfWaiting_40 rfl h15
    · have h := it_f c14 h
      refine zx_icmp_ne_f (tgt := 39) dX0_reasonOfWaiting_31 (by decide) (Classical.not_not.mp c14) ?_
      refine zx_bipush (v := 100) dX0_reasonOfWaiting_34 iv_bipush_100 ?_
      refine zx_goto (tgt := 40) dX0_reasonOfWaiting_36 (by decide) ?_
      cases h
      exact zx_zretC dX0_reasonOfWaiting_40 rfl (show zc 100 = 100 by decide)
  · have h := it_f c7 h
    refine zx_if_eq_f (tgt := 13) dX0_reasonOfWaiting_7 (by decide) c7 ?_
    refine zx_bipush (v := 102) dX0_reasonOfWaiting_10 iv_bipush_102 ?_
    cases h
    exact zx_zretC dX0_reasonOfWaiting_12 rfl (show zc 102 = 102 by decide)
def f_X0_doRetiring_b100 (a0 : Nat) (x1 : Int32) (a3 : Nat) (μ : Mm) : Option (Unit × Mm) :=
  ck (mK μ a0 = 101) <|
  cl (f_X0_takeTrap a0 a3 μ) fun _ μ66 =>
  if ¬ x1 = 0 then
    some ((), μ66)
  else
    ck (mK μ66 a0 = 101) <|
    bd (mR μ66 a0 2) fun p69 =>
    ck (mK μ66 p69 = 102) <|
    cl (f_X1_lose p69 116 μ66) fun _ μ74 =>
    some ((), μ74)
def f_X0_doRetiring_b142 (a0 : Nat) (x1 : Int32) (μ : Mm) : Option (Unit × Mm) :=
  if ¬ x1 = 0 then
    some ((), μ)
  else
    ck (mK μ a0 = 101) <|
    bd (mR μ a0 2) fun p55 =>
    bd (f_X0_reasonOfWaiting a0 μ) fun y57 =>
    ck (mK μ p55 = 102) <|
    cl (f_X1_lose p55 y57 μ) fun _ μ62 =>
    some ((), μ62)
def f_X0_doRetiring_b34 : Nat → Nat → Int32 → Int32 → Mm → Option (Unit × Mm)
  | 0, _, _, _, _ => none
  | n + 1, a0, x1, x2, μ =>
  ck (mK μ a0 = 101) <|
  bd (mR μ a0 1) fun p12 =>
  ck (mK μ p12 = 110) <|
  if (mI μ p12 0) ≤ x2 then
    f_X0_doRetiring_b142 a0 x1 μ
  else
    bd (f_X0_canLeave a0 μ) fun y16 =>
    if y16 = 0 then
      f_X0_doRetiring_b142 a0 x1 μ
    else
      bd (mR μ a0 7) fun p19 =>
      ck (mK μ p19 = 100) <|
      bd (f_Jx4a65c_get_915e3 p19 0 μ) fun p22 =>
      ck (mK μ p22 = 104) <|
      bd (mR μ p22 4) fun p25 =>
      ck (isA 1 (mK μ p25)) <|
      ck (inb 4 (mL μ p25)) <|
      zl (sI μ p25 (Int32.toNatClampNeg 4) (mI μ a0 12)) fun μ29 =>
      bd (mR μ29 p22 0) fun p32 =>
      ck (mK μ29 p32 = 107) <|
      bd (mR μ29 p22 4) fun p35 =>
      cl (f_X0_addEnd a0 (mI μ29 p22 12) (mI μ29 p32 0) p35 μ29) fun _ μ39 =>
      ck (mK μ39 p22 = 104) <|
      if (mI μ39 p22 12) = 0 then
        ck (mK μ39 a0 = 101) <|
        bd (mR μ39 a0 7) fun p43 =>
        ck (mK μ39 p43 = 100) <|
        cl (f_Jx4a65c_remove_915e3 p43 0 μ39) fun p46 μ48 =>
        ck (mK μ48 a0 = 101) <|
        cl (f_X0_retireOldest a0 p22 μ48) fun _ μ52 =>
        f_X0_doRetiring_b34 n a0 (x1 + 1) (x2 + 1) μ52
      else
        f_X0_doRetiring_b100 a0 x1 p22 μ39
def f_X0_doRetiring_b30 (a0 : Nat) (μ : Mm) : Option (Unit × Mm) :=
  f_X0_doRetiring_b34 5000 a0 0 0 μ
def f_X0_doRetiring (a0 : Nat) (μ : Mm) : Option (Unit × Mm) :=
  ck (mK μ a0 = 101) <|
  if (zb (mI μ a0 14)) = 0 then
    f_X0_doRetiring_b30 a0 μ
  else
    if ¬ (zb (mI μ a0 15)) = 0 then
      f_X0_doRetiring_b30 a0 μ
    else
      bd (mR μ a0 1) fun p4 =>
      ck (mK μ p4 = 110) <|
      if (mI μ p4 4) = ((-1)) then
        f_X0_doRetiring_b30 a0 μ
      else
        cl (f_X0_takeInterrupt a0 μ) fun _ μ10 =>
        some ((), μ10)
set_option maxRecDepth 100000 in
theorem s_X0_doRetiring_b100 {l : Launch} {G : Gt} (hG : Gok l G) (a0 : Nat) (x1 : Int32) (a3 : Nat) (μ : Mm) (r : Unit) (μ' : Mm) (h : f_X0_doRetiring_b100 a0 x1 a3 μ = some (r, μ')) : ZX l G mX0_doRetiring 100 [(0, .ref a0), (1, .int x1), (3, .ref a3)] [] μ (.inl none) μ' := by
  unfold f_X0_doRetiring_b100 at h
  refine zx_aload_n dX0_doRetiring_100 rfl (q := 0) rfl ?_
  refine zx_aload_n dX0_doRetiring_101 rfl (q := 2) rfl ?_
  obtain ⟨h63, h⟩ := ck_e h
  obtain ⟨uu64, μ66, z65, h⟩ := cl_e h
  refine zx_callV (As := [.ref a3]) hG mf_X0_takeTrap cv_X0_268 h63 ⟨by decide, by decide⟩ rfl rfl (Nat.le_of_ble_eq_true rfl) (s_X0_takeTrap hG _ _ _ _ _ z65) (Nat.le_of_ble_eq_true rfl) dX0_doRetiring_102 ?_
  refine zx_iload_n dX0_doRetiring_105 rfl (q := 1) rfl ?_
  by_cases c67 : ¬ x1 = 0
  · have h := it_t c67 h
    refine zx_if_ne_t (tgt := 118) dX0_doRetiring_106 (by decide) c67 ?_
    cases h
    exact zx_vret dX0_doRetiring_118 rfl
  · have h := it_f c67 h
    refine zx_if_ne_f (tgt := 118) dX0_doRetiring_106 (by decide) (Classical.not_not.mp c67) ?_
    refine zx_aload_n dX0_doRetiring_109 rfl (q := 0) rfl ?_
    obtain ⟨h68, h⟩ := ck_e h
    obtain ⟨p69, h70, h⟩ := bd_e h
    refine zx_getR hG fl_X0_28 h68 h70 dX0_doRetiring_110 ?_
    refine zx_bipush (v := 116) dX0_doRetiring_113 iv_bipush_116 ?_
    obtain ⟨h71, h⟩ := ck_e h
    obtain ⟨uu72, μ74, z73, h⟩ := cl_e h
    refine zx_callV (As := [.int 116]) hG mf_X1_lose cv_X0_271 h71 ⟨by decide, by decide⟩ rfl rfl (Nat.le_of_ble_eq_true rfl) (s_X1_lose hG _ _ _ _ _ z73) (Nat.le_of_ble_eq_true rfl) dX0_doRetiring_115 ?_
    cases h
    exact zx_vret dX0_doRetiring_118 rfl
set_option maxRecDepth 100000 in
theorem s_X0_doRetiring_b142 {l : Launch} {G : Gt} (hG : Gok l G) (a0 : Nat) (x1 : Int32) (μ : Mm) (r : Unit) (μ' : Mm) (h : f_X0_doRetiring_b142 a0 x1 μ = some (r, μ')) : ZX l G mX0_doRetiring 142 [(0, .ref a0), (1, .int x1)] [] μ (.inl none) μ' := by
  unfold f_X0_doRetiring_b142 at h
  refine zx_iload_n dX0_doRetiring_142 rfl (q := 1) rfl ?_
  by_cases c53 : ¬ x1 = 0
  · have h := it_t c53 h
    refine zx_if_ne_t (tgt := 157) dX0_doRetiring_143 (by decide) c53 ?_
    cases h
    exact zx_vret dX0_doRetiring_157 rfl
  · have h := it_f c53 h
    refine zx_if_ne_f (tgt := 157) dX0_doRetiring_143 (by decide) (Classical.not_not.mp c53) ?_
    refine zx_aload_n dX0_doRetiring_146 rfl (q := 0) rfl ?_
    obtain ⟨h54, h⟩ := ck_e h
    obtain ⟨p55, h56, h⟩ := bd_e h
    refine zx_getR hG fl_X0_28 h54 h56 dX0_doRetiring_147 ?_
    refine zx_aload_n dX0_doRetiring_150 rfl (q := 0) rfl ?_
    obtain ⟨y57, z58, h⟩ := bd_e h
    refine zx_callV (As := []) hG mf_X0_reasonOfWaiting cv_X0_278 h54 ⟨by decide, by decide⟩ rfl rfl (Nat.le_of_ble_eq_true rfl) (s_X0_reasonOfWaiting hG _ _ _ z58) (Nat.le_of_ble_eq_true rfl) dX0_doRetiring_151 ?_
    obtain ⟨h59, h⟩ := ck_e h
    obtain ⟨uu60, μ62, z61, h⟩ := cl_e h
    refine zx_callV (As := [.int y57]) hG mf_X1_lose cv_X0_271 h59 ⟨by decide, by decide⟩ rfl rfl (Nat.le_of_ble_eq_true rfl) (s_X1_lose hG _ _ _ _ _ z61) (Nat.le_of_ble_eq_true rfl) dX0_doRetiring_154 ?_
    cases h
    exact zx_vret dX0_doRetiring_157 rfl
set_option maxRecDepth 100000 in
theorem s_X0_doRetiring_b34 {l : Launch} {G : Gt} (hG : Gok l G) : ∀ (n : Nat) (a0 : Nat) (x1 : Int32) (x2 : Int32) (μ : Mm) (r : Unit) (μ' : Mm), f_X0_doRetiring_b34 n a0 x1 x2 μ = some (r, μ') → ZX l G mX0_doRetiring 34 [(0, .ref a0), (1, .int x1), (2, .int x2)] [] μ (.inl none) μ' := by
  intro n
  induction n with
  | zero =>
    intro a0 x1 x2 μ r μ' h
    cases h
  | succ n ih =>
    intro a0 x1 x2 μ r μ' h
    unfold f_X0_doRetiring_b34 at h
    refine zx_iload_n dX0_doRetiring_34 rfl (q := 2) rfl ?_
    refine zx_aload_n dX0_doRetiring_35 rfl (q := 0) rfl ?_
    obtain ⟨h11, h⟩ := ck_e h
    obtain ⟨p12, h13, h⟩ := bd_e h
    refine zx_getR hG fl_X0_21 h11 h13 dX0_doRetiring_36 ?_
    obtain ⟨h14, h⟩ := ck_e h
    refine zx_getI hG fl_X0_112 h14 dX0_doRetiring_39 ?_
    by_cases c15 : (mI μ p12 0) ≤ x2
    · have h := it_t c15 h
      refine zx_icmp_ge_t (tgt := 142) dX0_doRetiring_42 (by decide) c15 ?_
      refine zx_sub (L' := [(0, .ref a0), (1, .int x1)]) [0, 1] rfl ?_
      exact s_X0_doRetiring_b142 hG _ _ _ _ _ h
    · have h := it_f c15 h
      refine zx_icmp_ge_f (tgt := 142) dX0_doRetiring_42 (by decide) c15 ?_
      refine zx_aload_n dX0_doRetiring_45 rfl (q := 0) rfl ?_
      obtain ⟨y16, z17, h⟩ := bd_e h
      refine zx_callV (As := []) hG mf_X0_canLeave cv_X0_258 h11 ⟨by decide, by decide⟩ rfl rfl (Nat.le_of_ble_eq_true rfl) (s_X0_canLeave hG _ _ _ z17) (Nat.le_of_ble_eq_true rfl) dX0_doRetiring_46 ?_
      by_cases c18 : y16 = 0
      · have h := it_t c18 h
        refine zx_if_eq_t (tgt := 142) dX0_doRetiring_49 (by decide) c18 ?_
        refine zx_sub (L' := [(0, .ref a0), (1, .int x1)]) [0, 1] rfl ?_
        exact s_X0_doRetiring_b142 hG _ _ _ _ _ h
      · have h := it_f c18 h
        refine zx_if_eq_f (tgt := 142) dX0_doRetiring_49 (by decide) c18 ?_
        refine zx_aload_n dX0_doRetiring_52 rfl (q := 0) rfl ?_
        obtain ⟨p19, h20, h⟩ := bd_e h
        refine zx_getR hG fl_X0_60 h11 h20 dX0_doRetiring_53 ?_
        refine zx_iconst (v := 0) dX0_doRetiring_56 iv_iconst_0 ?_
        obtain ⟨h21, h⟩ := ck_e h
        obtain ⟨p22, z23, h⟩ := bd_e h
        refine zx_callV (As := [.int 0]) hG mf_Jx4a65c_get_915e3 cv_X0_127 h21 ⟨by decide, by decide⟩ rfl rfl (Nat.le_of_ble_eq_true rfl) (s_Jx4a65c_get_915e3 hG _ _ _ _ z23) (Nat.le_of_ble_eq_true rfl) dX0_doRetiring_57 ?_
        obtain ⟨h24, h⟩ := ck_e h
        refine zx_castO hG kt_X0_131 h24 dX0_doRetiring_60 ?_
        refine zx_astore_n (L' := [(3, .ref p22), (0, .ref a0), (1, .int x1), (2, .int x2)]) dX0_doRetiring_63 rfl (by decide) rfl ?_
        refine zx_aload_n dX0_doRetiring_64 rfl (q := 0) rfl ?_
        obtain ⟨p25, h26, h⟩ := bd_e h
        refine zx_getR hG fl_X0_261 h24 h26 dX0_doRetiring_65 ?_
        refine zx_iconst (v := 4) dX0_doRetiring_68 iv_iconst_4 ?_
        refine zx_aload_n dX0_doRetiring_69 rfl (q := 1) rfl ?_
        refine zx_getI hG fl_X0_77 h11 dX0_doRetiring_70 ?_
        obtain ⟨h27, h⟩ := ck_e h
        obtain ⟨h28, h⟩ := ck_e h
        refine zx_iast hG rfl (h27).1 (h27).2 (inb_e h28) dX0_doRetiring_73 ?_
        obtain ⟨μ29, e31, h⟩ := zlm_e h
        refine zx_mem e31 ?_
        have e30 : mK μ29 = mK μ := (congrArg mK e31).trans rfl
        refine zx_aload_n dX0_doRetiring_74 rfl (q := 1) rfl ?_
        refine zx_aload_n dX0_doRetiring_75 rfl (q := 0) rfl ?_
        refine zx_getI hG fl_X0_192 (kp_o (e30) h24) dX0_doRetiring_76 ?_
        refine zx_aload_n dX0_doRetiring_79 rfl (q := 0) rfl ?_
        obtain ⟨p32, h33, h⟩ := bd_e h
        refine zx_getR hG fl_X0_161 (kp_o (e30) h24) h33 dX0_doRetiring_80 ?_
        obtain ⟨h34, h⟩ := ck_e h
        refine zx_getI hG fl_X0_223 h34 dX0_doRetiring_83 ?_
        refine zx_aload_n dX0_doRetiring_86 rfl (q := 0) rfl ?_
        obtain ⟨p35, h36, h⟩ := bd_e h
        refine zx_getR hG fl_X0_261 (kp_o (e30) h24) h36 dX0_doRetiring_87 ?_
        obtain ⟨uu37, μ39, z38, h⟩ := cl_e h
        refine zx_callV (As := [.int (mI μ29 p22 12), .int (mI μ29 p32 0), .ref p35]) hG mf_X0_addEnd cv_X0_264 (kp_o (e30) h11) ⟨by decide, by decide⟩ rfl rfl (Nat.le_of_ble_eq_true rfl) (s_X0_addEnd hG _ _ _ _ _ _ _ z38) (Nat.le_of_ble_eq_true rfl) dX0_doRetiring_90 ?_
        refine zx_aload_n dX0_doRetiring_93 rfl (q := 0) rfl ?_
        obtain ⟨h40, h⟩ := ck_e h
        refine zx_getI hG fl_X0_192 h40 dX0_doRetiring_94 ?_
        by_cases c41 : (mI μ39 p22 12) = 0
        · have h := it_t c41 h
          refine zx_if_eq_t (tgt := 119) dX0_doRetiring_97 (by decide) c41 ?_
          refine zx_aload_n dX0_doRetiring_119 rfl (q := 1) rfl ?_
          obtain ⟨h42, h⟩ := ck_e h
          obtain ⟨p43, h44, h⟩ := bd_e h
          refine zx_getR hG fl_X0_60 h42 h44 dX0_doRetiring_120 ?_
          refine zx_iconst (v := 0) dX0_doRetiring_123 iv_iconst_0 ?_
          obtain ⟨h45, h⟩ := ck_e h
          obtain ⟨p46, μ48, z47, h⟩ := cl_e h
          refine zx_callV (As := [.int 0]) hG mf_Jx4a65c_remove_915e3 cv_X0_246 h45 ⟨by decide, by decide⟩ rfl rfl (Nat.le_of_ble_eq_true rfl) (s_Jx4a65c_remove_915e3 hG _ _ _ _ _ z47) (Nat.le_of_ble_eq_true rfl) dX0_doRetiring_124 ?_
          refine zx_pop dX0_doRetiring_127 rfl ?_
          refine zx_aload_n dX0_doRetiring_128 rfl (q := 1) rfl ?_
          refine zx_aload_n dX0_doRetiring_129 rfl (q := 0) rfl ?_
          obtain ⟨h49, h⟩ := ck_e h
          obtain ⟨uu50, μ52, z51, h⟩ := cl_e h
          refine zx_callV (As := [.ref p22]) hG mf_X0_retireOldest cv_X0_275 h49 ⟨by decide, by decide⟩ rfl rfl (Nat.le_of_ble_eq_true rfl) (s_X0_retireOldest hG _ _ _ _ _ z51) (Nat.le_of_ble_eq_true rfl) dX0_doRetiring_130 ?_
          refine zx_iinc (q := 2) (v := x1 + 1) (L' := [(1, .int (x1 + 1)), (3, .ref p22), (0, .ref a0), (2, .int x2)]) dX0_doRetiring_133 rfl rfl (by decide) rfl ?_
          refine zx_iinc (q := 3) (v := x2 + 1) (L' := [(2, .int (x2 + 1)), (1, .int (x1 + 1)), (3, .ref p22), (0, .ref a0)]) dX0_doRetiring_136 rfl rfl (by decide) rfl ?_
          refine zx_goto (tgt := 34) dX0_doRetiring_139 (by decide) ?_
          refine zx_sub (L' := [(0, .ref a0), (1, .int (x1 + 1)), (2, .int (x2 + 1))]) [3, 1, 0] rfl ?_
          exact ih _ _ _ _ _ _ h
        · have h := it_f c41 h
          refine zx_if_eq_f (tgt := 119) dX0_doRetiring_97 (by decide) c41 ?_
          refine zx_sub (L' := [(0, .ref a0), (1, .int x1), (3, .ref p22)]) [1, 2, 0] rfl ?_
          exact s_X0_doRetiring_b100 hG _ _ _ _ _ _ h
set_option maxRecDepth 100000 in
theorem s_X0_doRetiring_b30 {l : Launch} {G : Gt} (hG : Gok l G) (a0 : Nat) (μ : Mm) (r : Unit) (μ' : Mm) (h : f_X0_doRetiring_b30 a0 μ = some (r, μ')) : ZX l G mX0_doRetiring 30 [(0, .ref a0)] [] μ (.inl none) μ' := by
  unfold f_X0_doRetiring_b30 at h
  refine zx_iconst (v := 0) dX0_doRetiring_30 iv_iconst_0 ?_
  refine zx_istore_n (L' := [(1, .int 0), (0, .ref a0)]) dX0_doRetiring_31 rfl (by decide) rfl ?_
  refine zx_iconst (v := 0) dX0_doRetiring_32 iv_iconst_0 ?_
  refine zx_istore_n (L' := [(2, .int 0), (1, .int 0), (0, .ref a0)]) dX0_doRetiring_33 rfl (by decide) rfl ?_
  refine zx_sub (L' := [(0, .ref a0), (1, .int 0), (2, .int 0)]) [2, 1, 0] rfl ?_
  exact s_X0_doRetiring_b34 hG 5000 _ _ _ _ _ _ h
set_option maxRecDepth 100000 in
theorem s_X0_doRetiring {l : Launch} {G : Gt} (hG : Gok l G) (a0 : Nat) (μ : Mm) (r : Unit) (μ' : Mm) (h : f_X0_doRetiring a0 μ = some (r, μ')) : ZX l G mX0_doRetiring 0 [(0, .ref a0)] [] μ (.inl none) μ' := by
  unfold f_X0_doRetiring at h
  refine zx_aload_n dX0_doRetiring_0 rfl (q := 0) rfl ?_
  obtain ⟨h1, h⟩ := ck_e h
  refine zx_getZ hG fl_X0_85 h1 dX0_doRetiring_1 ?_
  by_cases c2 : (zb (mI μ a0 14)) = 0
  · have h := it_t c2 h
    refine zx_if_eq_t (tgt := 30) dX0_doRetiring_4 (by decide) c2 ?_
    exact s_X0_doRetiring_b30 hG _ _ _ _ h
  · have h := it_f c2 h
    refine zx_if_eq_f (tgt := 30) dX0_doRetiring_4 (by decide) c2 ?_
    refine zx_aload_n dX0_doRetiring_7 rfl (q := 0) rfl ?_
    refine zx_getZ hG fl_X0_88 h1 dX0_doRetiring_8 ?_
    by_cases c3 : ¬ (zb (mI μ a0 15)) = 0
    · have h := it_t c3 h
      refine zx_if_ne_t (tgt := 30) dX0_doRetiring_11 (by decide) c3 ?_
      exact s_X0_doRetiring_b30 hG _ _ _ _ h
    · have h := it_f c3 h
      refine zx_if_ne_f (tgt := 30) dX0_doRetiring_11 (by decide) (Classical.not_not.mp c3) ?_
      refine zx_aload_n dX0_doRetiring_14 rfl (q := 0) rfl ?_
      obtain ⟨p4, h5, h⟩ := bd_e h
      refine zx_getR hG fl_X0_21 h1 h5 dX0_doRetiring_15 ?_
      obtain ⟨h6, h⟩ := ck_e h
      refine zx_getI hG fl_X0_252 h6 dX0_doRetiring_18 ?_
      refine zx_iconst (v := (-1)) dX0_doRetiring_21 iv_iconst_m1 ?_
      by_cases c7 : (mI μ p4 4) = ((-1))
      · have h := it_t c7 h
        refine zx_icmp_eq_t (tgt := 30) dX0_doRetiring_22 (by decide) c7 ?_
        exact s_X0_doRetiring_b30 hG _ _ _ _ h
      · have h := it_f c7 h
        refine zx_icmp_eq_f (tgt := 30) dX0_doRetiring_22 (by decide) c7 ?_
        refine zx_aload_n dX0_doRetiring_25 rfl (q := 0) rfl ?_
        obtain ⟨uu8, μ10, z9, h⟩ := cl_e h
        refine zx_callV (As := []) hG mf_X0_takeInterrupt cv_X0_255 h1 ⟨by decide, by decide⟩ rfl rfl (Nat.le_of_ble_eq_true rfl) (s_X0_takeInterrupt hG _ _ _ _ z9) (Nat.le_of_ble_eq_true rfl) dX0_doRetiring_26 ?_
        cases h
        exact zx_vret dX0_doRetiring_29 rfl
def f_X0_isDividing_b47 (k2 : Nat → Int32 → Mm → Option Int32) (a0 : Nat) (x1 : Int32) (μ : Mm) : Option Int32 :=
  k2 a0 (x1 + 1) μ
def f_X0_isDividing_b2 : Nat → Nat → Int32 → Mm → Option Int32
  | 0, _, _, _ => none
  | n + 1, a0, x1, μ =>
  ck (mK μ a0 = 101) <|
  bd (mR μ a0 7) fun p2 =>
  ck (mK μ p2 = 100) <|
  bd (f_Jx4a65c_size_8abf5 p2 μ) fun y5 =>
  if y5 ≤ x1 then
    some 0
  else
    bd (mR μ a0 7) fun p8 =>
    ck (mK μ p8 = 100) <|
    bd (f_Jx4a65c_get_915e3 p8 x1 μ) fun p11 =>
    ck (mK μ p11 = 104) <|
    bd (mR μ p11 0) fun p14 =>
    ck (mK μ p14 = 107) <|
    if ¬ (mI μ p14 1) = 5 then
      f_X0_isDividing_b47 (f_X0_isDividing_b2 n) a0 x1 μ
    else
      if ¬ (zc (mI μ p11 5)) = 120 then
        f_X0_isDividing_b47 (f_X0_isDividing_b2 n) a0 x1 μ
      else
        some 1
def f_X0_isDividing (a0 : Nat) (μ : Mm) : Option Int32 :=
  f_X0_isDividing_b2 5000 a0 0 μ
set_option maxRecDepth 100000 in
theorem s_X0_isDividing_b47 {l : Launch} {G : Gt} (hG : Gok l G) {k2 : Nat → Int32 → Mm → Option Int32} (hk2 : ∀ (a0 : Nat) (x1 : Int32) (μ : Mm) (r : Int32), k2 a0 x1 μ = some r → ZX l G mX0_isDividing 2 [(0, .ref a0), (1, .int x1)] [] μ (.inl (some (.int r))) μ) (a0 : Nat) (x1 : Int32) (μ : Mm) (r : Int32) (h : f_X0_isDividing_b47 k2 a0 x1 μ = some r) : ZX l G mX0_isDividing 47 [(0, .ref a0), (1, .int x1)] [] μ (.inl (some (.int r))) μ := by
  unfold f_X0_isDividing_b47 at h
  refine zx_iinc (q := 1) (v := x1 + 1) (L' := [(1, .int (x1 + 1)), (0, .ref a0)]) dX0_isDividing_47 rfl rfl (by decide) rfl ?_
  refine zx_goto (tgt := 2) dX0_isDividing_50 (by decide) ?_
  refine zx_sub (L' := [(0, .ref a0), (1, .int (x1 + 1))]) [1, 0] rfl ?_
  exact hk2 _ _ _ _ h
set_option maxRecDepth 100000 in
theorem s_X0_isDividing_b2 {l : Launch} {G : Gt} (hG : Gok l G) : ∀ (n : Nat) (a0 : Nat) (x1 : Int32) (μ : Mm) (r : Int32), f_X0_isDividing_b2 n a0 x1 μ = some r → ZX l G mX0_isDividing 2 [(0, .ref a0), (1, .int x1)] [] μ (.inl (some (.int r))) μ := by
  intro n
  induction n with
  | zero =>
    intro a0 x1 μ r h
    cases h
  | succ n ih =>
    intro a0 x1 μ r h
    unfold f_X0_isDividing_b2 at h
    refine zx_iload_n dX0_isDividing_2 rfl (q := 1) rfl ?_
    refine zx_aload_n dX0_isDividing_3 rfl (q := 0) rfl ?_
    obtain ⟨h1, h⟩ := ck_e h
    obtain ⟨p2, h3, h⟩ := bd_e h
    refine zx_getR hG fl_X0_60 h1 h3 dX0_isDividing_4 ?_
    obtain ⟨h4, h⟩ := ck_e h
    obtain ⟨y5, z6, h⟩ := bd_e h
    refine zx_callV (As := []) hG mf_Jx4a65c_size_8abf5 cv_X0_123 h4 ⟨by decide, by decide⟩ rfl rfl (Nat.le_of_ble_eq_true rfl) (s_Jx4a65c_size_8abf5 hG _ _ _ z6) (Nat.le_of_ble_eq_true rfl) dX0_isDividing_7 ?_
    by_cases c7 : y5 ≤ x1
    · have h := it_t c7 h
      refine zx_icmp_ge_t (tgt := 53) dX0_isDividing_10 (by decide) c7 ?_
      refine zx_iconst (v := 0) dX0_isDividing_53 iv_iconst_0 ?_
      cases h
      exact zx_zretZ dX0_isDividing_54 rfl zb_0
    · have h := it_f c7 h
      refine zx_icmp_ge_f (tgt := 53) dX0_isDividing_10 (by decide) c7 ?_
      refine zx_aload_n dX0_isDividing_13 rfl (q := 0) rfl ?_
      obtain ⟨p8, h9, h⟩ := bd_e h
      refine zx_getR hG fl_X0_60 h1 h9 dX0_isDividing_14 ?_
      refine zx_iload_n dX0_isDividing_17 rfl (q := 1) rfl ?_
      obtain ⟨h10, h⟩ := ck_e h
      obtain ⟨p11, z12, h⟩ := bd_e h
      refine zx_callV (As := [.int x1]) hG mf_Jx4a65c_get_915e3 cv_X0_127 h10 ⟨by decide, by decide⟩ rfl rfl (Nat.le_of_ble_eq_true rfl) (s_Jx4a65c_get_915e3 hG _ _ _ _ z12) (Nat.le_of_ble_eq_true rfl) dX0_isDividing_18 ?_
      obtain ⟨h13, h⟩ := ck_e h
      refine zx_castO hG kt_X0_131 h13 dX0_isDividing_21 ?_
      refine zx_astore_n (L' := [(2, .ref p11), (0, .ref a0), (1, .int x1)]) dX0_isDividing_24 rfl (by decide) rfl ?_
      refine zx_aload_n dX0_isDividing_25 rfl (q := 0) rfl ?_
      obtain ⟨p14, h15, h⟩ := bd_e h
      refine zx_getR hG fl_X0_161 h13 h15 dX0_isDividing_26 ?_
      obtain ⟨h16, h⟩ := ck_e h
      refine zx_getI hG fl_X0_165 h16 dX0_isDividing_29 ?_
      refine zx_iconst (v := 5) dX0_isDividing_32 iv_iconst_5 ?_
      by_cases c17 : ¬ (mI μ p14 1) = 5
      · have h := it_t c17 h
        refine zx_icmp_ne_t (tgt := 47) dX0_isDividing_33 (by decide) c17 ?_
        refine zx_sub (L' := [(0, .ref a0), (1, .int x1)]) [1, 2] rfl ?_
        exact s_X0_isDividing_b47 hG ih _ _ _ _ h
      · have h := it_f c17 h
        refine zx_icmp_ne_f (tgt := 47) dX0_isDividing_33 (by decide) (Classical.not_not.mp c17) ?_
        refine zx_aload_n dX0_isDividing_36 rfl (q := 0) rfl ?_
        refine zx_getC hG fl_X0_133 h13 dX0_isDividing_37 ?_
        refine zx_bipush (v := 120) dX0_isDividing_40 iv_bipush_120 ?_
        by_cases c18 : ¬ (zc (mI μ p11 5)) = 120
        · have h := it_t c18 h
          refine zx_icmp_ne_t (tgt := 47) dX0_isDividing_42 (by decide) c18 ?_
          refine zx_sub (L' := [(0, .ref a0), (1, .int x1)]) [1, 2] rfl ?_
          exact s_X0_isDividing_b47 hG ih _ _ _ _ h
        · have h := it_f c18 h
          refine zx_icmp_ne_f (tgt := 47) dX0_isDividing_42 (by decide) (Classical.not_not.mp c18) ?_
          refine zx_iconst (v := 1) dX0_isDividing_45 iv_iconst_1 ?_
          cases h
          exact zx_zretZ dX0_isDividing_46 rfl zb_1
set_option maxRecDepth 100000 in
theorem s_X0_isDividing {l : Launch} {G : Gt} (hG : Gok l G) (a0 : Nat) (μ : Mm) (r : Int32) (h : f_X0_isDividing a0 μ = some r) : ZX l G mX0_isDividing 0 [(0, .ref a0)] [] μ (.inl (some (.int r))) μ := by
  unfold f_X0_isDividing at h
  refine zx_iconst (v := 0) dX0_isDividing_0 iv_iconst_0 ?_
  refine zx_istore_n (L' := [(1, .int 0), (0, .ref a0)]) dX0_isDividing_1 rfl (by decide) rfl ?_
  refine zx_sub (L' := [(0, .ref a0), (1, .int 0)]) [1, 0] rfl ?_
  exact s_X0_isDividing_b2 hG 5000 _ _ _ _ h
def f_X6_unit (a0 : Nat) (μ : Mm) : Option Int32 :=
  ck (mK μ a0 = 107) <|
  if (Int32.toInt (mI μ a0 1)) < 4 ∨ 11 < (Int32.toInt (mI μ a0 1)) then
    some 0
  else if (mI μ a0 1) = 4 then
      some 1
  else if (mI μ a0 1) = 5 then
      some 2
  else if (mI μ a0 1) = 6 then
      some 0
  else if (mI μ a0 1) = 7 then
      some 0
  else if (mI μ a0 1) = 8 then
      some 0
  else if (mI μ a0 1) = 9 then
      some 3
  else if (mI μ a0 1) = 10 then
      some 3
  else if (mI μ a0 1) = 11 then
      some 3
  else
    none
set_option maxRecDepth 100000 in
theorem s_X6_unit {l : Launch} {G : Gt} (hG : Gok l G) (a0 : Nat) (μ : Mm) (r : Int32) (h : f_X6_unit a0 μ = some r) : ZX l G mX6_unit 0 [(0, .ref a0)] [] μ (.inl (some (.int r))) μ := by
  unfold f_X6_unit at h
  refine zx_aload_n dX6_unit_0 rfl (q := 0) rfl ?_
  obtain ⟨h1, h⟩ := ck_e h
  refine zx_getI hG fl_X6_15 h1 dX6_unit_1 ?_
  by_cases c2 : (Int32.toInt (mI μ a0 1)) < 4 ∨ 11 < (Int32.toInt (mI μ a0 1))
  · have h := it_t c2 h
    refine zx_tsOut dX6_unit_4 c2 (tgt := 58) (by decide) ?_
    refine zx_iconst (v := 0) dX6_unit_58 iv_iconst_0 ?_
    cases h
    exact zx_iret dX6_unit_59 rfl
  · have h := it_f c2 h
    by_cases c3 : (mI μ a0 1) = 4
    · have h := it_t c3 h
      refine zx_tsIn dX6_unit_4 (by rw [c3]; decide) (by rw [c3]; decide) (off := 48) (tgt := 52) (by rw [c3]; decide) (by decide) ?_
      refine zx_iconst (v := 1) dX6_unit_52 iv_iconst_1 ?_
      cases h
      exact zx_iret dX6_unit_53 rfl
    have h := it_f c3 h
    by_cases c4 : (mI μ a0 1) = 5
    · have h := it_t c4 h
      refine zx_tsIn dX6_unit_4 (by rw [c4]; decide) (by rw [c4]; decide) (off := 50) (tgt := 54) (by rw [c4]; decide) (by decide) ?_
      refine zx_iconst (v := 2) dX6_unit_54 iv_iconst_2 ?_
      cases h
      exact zx_iret dX6_unit_55 rfl
    have h := it_f c4 h
    by_cases c5 : (mI μ a0 1) = 6
    · have h := it_t c5 h
      refine zx_tsIn dX6_unit_4 (by rw [c5]; decide) (by rw [c5]; decide) (off := 54) (tgt := 58) (by rw [c5]; decide) (by decide) ?_
      refine zx_iconst (v := 0) dX6_unit_58 iv_iconst_0 ?_
      cases h
      exact zx_iret dX6_unit_59 rfl
    have h := it_f c5 h
    by_cases c6 : (mI μ a0 1) = 7
    · have h := it_t c6 h
      refine zx_tsIn dX6_unit_4 (by rw [c6]; decide) (by rw [c6]; decide) (off := 54) (tgt := 58) (by rw [c6]; decide) (by decide) ?_
      refine zx_iconst (v := 0) dX6_unit_58 iv_iconst_0 ?_
      cases h
      exact zx_iret dX6_unit_59 rfl
    have h := it_f c6 h
    by_cases c7 : (mI μ a0 1) = 8
    · have h := it_t c7 h
      refine zx_tsIn dX6_unit_4 (by rw [c7]; decide) (by rw [c7]; decide) (off := 54) (tgt := 58) (by rw [c7]; decide) (by decide) ?_
      refine zx_iconst (v := 0) dX6_unit_58 iv_iconst_0 ?_
      cases h
      exact zx_iret dX6_unit_59 rfl
    have h := it_f c7 h
    by_cases c8 : (mI μ a0 1) = 9
    · have h := it_t c8 h
      refine zx_tsIn dX6_unit_4 (by rw [c8]; decide) (by rw [c8]; decide) (off := 52) (tgt := 56) (by rw [c8]; decide) (by decide) ?_
      refine zx_iconst (v := 3) dX6_unit_56 iv_iconst_3 ?_
      cases h
      exact zx_iret dX6_unit_57 rfl
    have h := it_f c8 h
    by_cases c9 : (mI μ a0 1) = 10
    · have h := it_t c9 h
      refine zx_tsIn dX6_unit_4 (by rw [c9]; decide) (by rw [c9]; decide) (off := 52) (tgt := 56) (by rw [c9]; decide) (by decide) ?_
      refine zx_iconst (v := 3) dX6_unit_56 iv_iconst_3 ?_
      cases h
      exact zx_iret dX6_unit_57 rfl
    have h := it_f c9 h
    by_cases c10 : (mI μ a0 1) = 11
    · have h := it_t c10 h
      refine zx_tsIn dX6_unit_4 (by rw [c10]; decide) (by rw [c10]; decide) (off := 52) (tgt := 56) (by rw [c10]; decide) (by decide) ?_
      refine zx_iconst (v := 3) dX6_unit_56 iv_iconst_3 ?_
      cases h
      exact zx_iret dX6_unit_57 rfl
    have h := it_f c10 h
    cases h
def f_X6_needsA (a0 : Nat) (μ : Mm) : Option Int32 :=
  ck (mK μ a0 = 107) <|
  if (mI μ a0 1) = 1 then
    some 0
  else
    some 1
set_option maxRecDepth 100000 in
theorem s_X6_needsA {l : Launch} {G : Gt} (hG : Gok l G) (a0 : Nat) (μ : Mm) (r : Int32) (h : f_X6_needsA a0 μ = some r) : ZX l G mX6_needsA 0 [(0, .ref a0)] [] μ (.inl (some (.int r))) μ := by
  unfold f_X6_needsA at h
  refine zx_aload_n dX6_needsA_0 rfl (q := 0) rfl ?_
  obtain ⟨h1, h⟩ := ck_e h
  refine zx_getI hG fl_X6_15 h1 dX6_needsA_1 ?_
  refine zx_iconst (v := 1) dX6_needsA_4 iv_iconst_1 ?_
  by_cases c2 : (mI μ a0 1) = 1
  · have h := it_t c2 h
    refine zx_icmp_eq_t (tgt := 12) dX6_needsA_5 (by decide) c2 ?_
    refine zx_iconst (v := 0) dX6_needsA_12 iv_iconst_0 ?_
    cases h
    exact zx_zretZ dX6_needsA_13 rfl zb_0
  · have h := it_f c2 h
    refine zx_icmp_eq_f (tgt := 12) dX6_needsA_5 (by decide) c2 ?_
    refine zx_iconst (v := 1) dX6_needsA_8 iv_iconst_1 ?_
    refine zx_goto (tgt := 13) dX6_needsA_9 (by decide) ?_
    cases h
    exact zx_zretZ dX6_needsA_13 rfl zb_1
def f_X6_needsB_b24 (μ : Mm) : Option Int32 :=
  some 1
def f_X6_needsB_b17 (a0 : Nat) (μ : Mm) : Option Int32 :=
  ck (mK μ a0 = 107) <|
  bd (f_X6_isQuestion a0 μ) fun y5 =>
  if y5 = 0 then
    some 0
  else
    f_X6_needsB_b24 μ
def f_X6_needsB (a0 : Nat) (μ : Mm) : Option Int32 :=
  ck (mK μ a0 = 107) <|
  if (mI μ a0 1) < 2 then
    f_X6_needsB_b17 a0 μ
  else
    if (mI μ a0 1) ≤ 8 then
      f_X6_needsB_b24 μ
    else
      f_X6_needsB_b17 a0 μ
set_option maxRecDepth 100000 in
theorem s_X6_needsB_b24 {l : Launch} {G : Gt} (hG : Gok l G) (μ : Mm) (r : Int32) (h : f_X6_needsB_b24 μ = some r) : ZX l G mX6_needsB 24 [] [] μ (.inl (some (.int r))) μ := by
  unfold f_X6_needsB_b24 at h
  refine zx_iconst (v := 1) dX6_needsB_24 iv_iconst_1 ?_
  refine zx_goto (tgt := 29) dX6_needsB_25 (by decide) ?_
  cases h
  exact zx_zretZ dX6_needsB_29 rfl zb_1
set_option maxRecDepth 100000 in
theorem s_X6_needsB_b17 {l : Launch} {G : Gt} (hG : Gok l G) (a0 : Nat) (μ : Mm) (r : Int32) (h : f_X6_needsB_b17 a0 μ = some r) : ZX l G mX6_needsB 17 [(0, .ref a0)] [] μ (.inl (some (.int r))) μ := by
  unfold f_X6_needsB_b17 at h
  refine zx_aload_n dX6_needsB_17 rfl (q := 0) rfl ?_
  obtain ⟨h4, h⟩ := ck_e h
  obtain ⟨y5, z6, h⟩ := bd_e h
  refine zx_callV (As := []) hG mf_X6_isQuestion cv_X6_34 h4 ⟨by decide, by decide⟩ rfl rfl (Nat.le_of_ble_eq_true rfl) (s_X6_isQuestion hG _ _ _ z6) (Nat.le_of_ble_eq_true rfl) dX6_needsB_18 ?_
  by_cases c7 : y5 = 0
  · have h := it_t c7 h
    refine zx_if_eq_t (tgt := 28) dX6_needsB_21 (by decide) c7 ?_
    refine zx_iconst (v := 0) dX6_needsB_28 iv_iconst_0 ?_
    cases h
    exact zx_zretZ dX6_needsB_29 rfl zb_0
  · have h := it_f c7 h
    refine zx_if_eq_f (tgt := 28) dX6_needsB_21 (by decide) c7 ?_
    refine zx_sub (L' := []) [] rfl ?_
    exact s_X6_needsB_b24 hG _ _ h
set_option maxRecDepth 100000 in
theorem s_X6_needsB {l : Launch} {G : Gt} (hG : Gok l G) (a0 : Nat) (μ : Mm) (r : Int32) (h : f_X6_needsB a0 μ = some r) : ZX l G mX6_needsB 0 [(0, .ref a0)] [] μ (.inl (some (.int r))) μ := by
  unfold f_X6_needsB at h
  refine zx_aload_n dX6_needsB_0 rfl (q := 0) rfl ?_
  obtain ⟨h1, h⟩ := ck_e h
  refine zx_getI hG fl_X6_15 h1 dX6_needsB_1 ?_
  refine zx_iconst (v := 2) dX6_needsB_4 iv_iconst_2 ?_
  by_cases c2 : (mI μ a0 1) < 2
  · have h := it_t c2 h
    refine zx_icmp_lt_t (tgt := 17) dX6_needsB_5 (by decide) c2 ?_
    exact s_X6_needsB_b17 hG _ _ _ h
  · have h := it_f c2 h
    refine zx_icmp_lt_f (tgt := 17) dX6_needsB_5 (by decide) c2 ?_
    refine zx_aload_n dX6_needsB_8 rfl (q := 0) rfl ?_
    refine zx_getI hG fl_X6_15 h1 dX6_needsB_9 ?_
    refine zx_bipush (v := 8) dX6_needsB_12 iv_bipush_8 ?_
    by_cases c3 : (mI μ a0 1) ≤ 8
    · have h := it_t c3 h
      refine zx_icmp_le_t (tgt := 24) dX6_needsB_14 (by decide) c3 ?_
      refine zx_sub (L' := []) [] rfl ?_
      exact s_X6_needsB_b24 hG _ _ h
    · have h := it_f c3 h
      refine zx_icmp_le_f (tgt := 24) dX6_needsB_14 (by decide) c3 ?_
      exact s_X6_needsB_b17 hG _ _ _ h
def f_X0_hasOperands_b59 (x2 : Int32) (s0 : Int32) (μ : Mm) : Option Int32 :=
  if x2 = 0 then
    some 0
  else
    if s0 = 0 then
      some 0
    else
      some 1
def f_X0_hasOperands_b54 (x2 : Int32) (μ : Mm) : Option Int32 :=
  f_X0_hasOperands_b59 x2 1 μ
def f_X0_hasOperands_b29 (a0 : Nat) (a1 : Nat) (s0 : Int32) (μ : Mm) : Option Int32 :=
  ck (mK μ a1 = 104) <|
  bd (mR μ a1 0) fun p16 =>
  ck (mK μ p16 = 107) <|
  bd (f_X6_needsB p16 μ) fun y19 =>
  if y19 = 0 then
    f_X0_hasOperands_b54 s0 μ
  else
    ck (mK μ a0 = 101) <|
    bd (mR μ a0 4) fun p23 =>
    ck (mK μ p23 = 106) <|
    bd (f_X5_hasValue p23 (mI μ a1 7) μ) fun y26 =>
    if y26 = 0 then
      f_X0_hasOperands_b59 s0 0 μ
    else
      f_X0_hasOperands_b54 s0 μ
def f_X0_hasOperands_b24 (a0 : Nat) (a1 : Nat) (μ : Mm) : Option Int32 :=
  f_X0_hasOperands_b29 a0 a1 1 μ
def f_X0_hasOperands (a0 : Nat) (a1 : Nat) (μ : Mm) : Option Int32 :=
  ck (mK μ a1 = 104) <|
  bd (mR μ a1 0) fun p2 =>
  ck (mK μ p2 = 107) <|
  bd (f_X6_needsA p2 μ) fun y5 =>
  if y5 = 0 then
    f_X0_hasOperands_b24 a0 a1 μ
  else
    ck (mK μ a0 = 101) <|
    bd (mR μ a0 4) fun p9 =>
    ck (mK μ p9 = 106) <|
    bd (f_X5_hasValue p9 (mI μ a1 6) μ) fun y12 =>
    if y12 = 0 then
      f_X0_hasOperands_b29 a0 a1 0 μ
    else
      f_X0_hasOperands_b24 a0 a1 μ
set_option maxRecDepth 100000 in
theorem s_X0_hasOperands_b59 {l : Launch} {G : Gt} (hG : Gok l G) (x2 : Int32) (s0 : Int32) (μ : Mm) (r : Int32) (h : f_X0_hasOperands_b59 x2 s0 μ = some r) : ZX l G mX0_hasOperands 59 [(2, .int x2)] [.int s0] μ (.inl (some (.int r))) μ := by
  unfold f_X0_hasOperands_b59 at h
  refine zx_istore_n (L' := [(3, .int s0), (2, .int x2)]) dX0_hasOperands_59 rfl (by decide) rfl ?_
  refine zx_iload_n dX0_hasOperands_60 rfl (q := 1) rfl ?_
  by_cases c29 : x2 = 0
  · have h := it_t c29 h
    refine zx_if_eq_t (tgt := 72) dX0_hasOperands_61 (by decide) c29 ?_
    refine zx_iconst (v := 0) dX0_hasOperands_72 iv_iconst_0 ?_
    cases h
    exact zx_zretZ dX0_hasOperands_73 rfl zb_0
  · have h := it_f c29 h
    refine zx_if_eq_f (tgt := 72) dX0_hasOperands_61 (by decide) c29 ?_
    refine zx_iload_n dX0_hasOperands_64 rfl (q := 0) rfl ?_
    by_cases c30 : s0 = 0
    · have h := it_t c30 h
      refine zx_if_eq_t (tgt := 72) dX0_hasOperands_65 (by decide) c30 ?_
      refine zx_iconst (v := 0) dX0_hasOperands_72 iv_iconst_0 ?_
      cases h
      exact zx_zretZ dX0_hasOperands_73 rfl zb_0
    · have h := it_f c30 h
      refine zx_if_eq_f (tgt := 72) dX0_hasOperands_65 (by decide) c30 ?_
      refine zx_iconst (v := 1) dX0_hasOperands_68 iv_iconst_1 ?_
      refine zx_goto (tgt := 73) dX0_hasOperands_69 (by decide) ?_
      cases h
      exact zx_zretZ dX0_hasOperands_73 rfl zb_1
set_option maxRecDepth 100000 in
theorem s_X0_hasOperands_b54 {l : Launch} {G : Gt} (hG : Gok l G) (x2 : Int32) (μ : Mm) (r : Int32) (h : f_X0_hasOperands_b54 x2 μ = some r) : ZX l G mX0_hasOperands 54 [(2, .int x2)] [] μ (.inl (some (.int r))) μ := by
  unfold f_X0_hasOperands_b54 at h
  refine zx_iconst (v := 1) dX0_hasOperands_54 iv_iconst_1 ?_
  refine zx_goto (tgt := 59) dX0_hasOperands_55 (by decide) ?_
  exact s_X0_hasOperands_b59 hG _ _ _ _ h
set_option maxRecDepth 100000 in
theorem s_X0_hasOperands_b29 {l : Launch} {G : Gt} (hG : Gok l G) (a0 : Nat) (a1 : Nat) (s0 : Int32) (μ : Mm) (r : Int32) (h : f_X0_hasOperands_b29 a0 a1 s0 μ = some r) : ZX l G mX0_hasOperands 29 [(0, .ref a0), (1, .ref a1)] [.int s0] μ (.inl (some (.int r))) μ := by
  unfold f_X0_hasOperands_b29 at h
  refine zx_istore_n (L' := [(2, .int s0), (0, .ref a0), (1, .ref a1)]) dX0_hasOperands_29 rfl (by decide) rfl ?_
  refine zx_aload_n dX0_hasOperands_30 rfl (q := 2) rfl ?_
  obtain ⟨h15, h⟩ := ck_e h
  obtain ⟨p16, h17, h⟩ := bd_e h
  refine zx_getR hG fl_X0_161 h15 h17 dX0_hasOperands_31 ?_
  obtain ⟨h18, h⟩ := ck_e h
  obtain ⟨y19, z20, h⟩ := bd_e h
  refine zx_callV (As := []) hG mf_X6_needsB cv_X0_352 h18 ⟨by decide, by decide⟩ rfl rfl (Nat.le_of_ble_eq_true rfl) (s_X6_needsB hG _ _ _ z20) (Nat.le_of_ble_eq_true rfl) dX0_hasOperands_34 ?_
  by_cases c21 : y19 = 0
  · have h := it_t c21 h
    refine zx_if_eq_t (tgt := 54) dX0_hasOperands_37 (by decide) c21 ?_
    refine zx_sub (L' := [(2, .int s0)]) [0] rfl ?_
    exact s_X0_hasOperands_b54 hG _ _ _ h
  · have h := it_f c21 h
    refine zx_if_eq_f (tgt := 54) dX0_hasOperands_37 (by decide) c21 ?_
    refine zx_aload_n dX0_hasOperands_40 rfl (q := 1) rfl ?_
    obtain ⟨h22, h⟩ := ck_e h
    obtain ⟨p23, h24, h⟩ := bd_e h
    refine zx_getR hG fl_X0_42 h22 h24 dX0_hasOperands_41 ?_
    refine zx_aload_n dX0_hasOperands_44 rfl (q := 2) rfl ?_
    refine zx_getI hG fl_X0_285 h15 dX0_hasOperands_45 ?_
    obtain ⟨h25, h⟩ := ck_e h
    obtain ⟨y26, z27, h⟩ := bd_e h
    refine zx_callV (As := [.int (mI μ a1 7)]) hG mf_X5_hasValue cv_X0_288 h25 ⟨by decide, by decide⟩ rfl rfl (Nat.le_of_ble_eq_true rfl) (s_X5_hasValue hG _ _ _ _ z27) (Nat.le_of_ble_eq_true rfl) dX0_hasOperands_48 ?_
    by_cases c28 : y26 = 0
    · have h := it_t c28 h
      refine zx_if_eq_t (tgt := 58) dX0_hasOperands_51 (by decide) c28 ?_
      refine zx_iconst (v := 0) dX0_hasOperands_58 iv_iconst_0 ?_
      refine zx_sub (L' := [(2, .int s0)]) [0] rfl ?_
      exact s_X0_hasOperands_b59 hG _ _ _ _ h
    · have h := it_f c28 h
      refine zx_if_eq_f (tgt := 58) dX0_hasOperands_51 (by decide) c28 ?_
      refine zx_sub (L' := [(2, .int s0)]) [0] rfl ?_
      exact s_X0_hasOperands_b54 hG _ _ _ h
set_option maxRecDepth 100000 in
theorem s_X0_hasOperands_b24 {l : Launch} {G : Gt} (hG : Gok l G) (a0 : Nat) (a1 : Nat) (μ : Mm) (r : Int32) (h : f_X0_hasOperands_b24 a0 a1 μ = some r) : ZX l G mX0_hasOperands 24 [(0, .ref a0), (1, .ref a1)] [] μ (.inl (some (.int r))) μ := by
  unfold f_X0_hasOperands_b24 at h
  refine zx_iconst (v := 1) dX0_hasOperands_24 iv_iconst_1 ?_
  refine zx_goto (tgt := 29) dX0_hasOperands_25 (by decide) ?_
  exact s_X0_hasOperands_b29 hG _ _ _ _ _ h
set_option maxRecDepth 100000 in
theorem s_X0_hasOperands {l : Launch} {G : Gt} (hG : Gok l G) (a0 : Nat) (a1 : Nat) (μ : Mm) (r : Int32) (h : f_X0_hasOperands a0 a1 μ = some r) : ZX l G mX0_hasOperands 0 [(0, .ref a0), (1, .ref a1)] [] μ (.inl (some (.int r))) μ := by
  unfold f_X0_hasOperands at h
  refine zx_aload_n dX0_hasOperands_0 rfl (q := 1) rfl ?_
  obtain ⟨h1, h⟩ := ck_e h
  obtain ⟨p2, h3, h⟩ := bd_e h
  refine zx_getR hG fl_X0_161 h1 h3 dX0_hasOperands_1 ?_
  obtain ⟨h4, h⟩ := ck_e h
  obtain ⟨y5, z6, h⟩ := bd_e h
  refine zx_callV (As := []) hG mf_X6_needsA cv_X0_346 h4 ⟨by decide, by decide⟩ rfl rfl (Nat.le_of_ble_eq_true rfl) (s_X6_needsA hG _ _ _ z6) (Nat.le_of_ble_eq_true rfl) dX0_hasOperands_4 ?_
  by_cases c7 : y5 = 0
  · have h := it_t c7 h
    refine zx_if_eq_t (tgt := 24) dX0_hasOperands_7 (by decide) c7 ?_
    exact s_X0_hasOperands_b24 hG _ _ _ _ h
  · have h := it_f c7 h
    refine zx_if_eq_f (tgt := 24) dX0_hasOperands_7 (by decide) c7 ?_
    refine zx_aload_n dX0_hasOperands_10 rfl (q := 0) rfl ?_
    obtain ⟨h8, h⟩ := ck_e h
    obtain ⟨p9, h10, h⟩ := bd_e h
    refine zx_getR hG fl_X0_42 h8 h10 dX0_hasOperands_11 ?_
    refine zx_aload_n dX0_hasOperands_14 rfl (q := 1) rfl ?_
    refine zx_getI hG fl_X0_349 h1 dX0_hasOperands_15 ?_
    obtain ⟨h11, h⟩ := ck_e h
    obtain ⟨y12, z13, h⟩ := bd_e h
    refine zx_callV (As := [.int (mI μ a1 6)]) hG mf_X5_hasValue cv_X0_288 h11 ⟨by decide, by decide⟩ rfl rfl (Nat.le_of_ble_eq_true rfl) (s_X5_hasValue hG _ _ _ _ z13) (Nat.le_of_ble_eq_true rfl) dX0_hasOperands_18 ?_
    by_cases c14 : y12 = 0
    · have h := it_t c14 h
      refine zx_if_eq_t (tgt := 28) dX0_hasOperands_21 (by decide) c14 ?_
      refine zx_iconst (v := 0) dX0_hasOperands_28 iv_iconst_0 ?_
      exact s_X0_hasOperands_b29 hG _ _ _ _ _ h
    · have h := it_f c14 h
      refine zx_if_eq_f (tgt := 28) dX0_hasOperands_21 (by decide) c14 ?_
      exact s_X0_hasOperands_b24 hG _ _ _ _ h
def f_X3_compute_b113 (s0 : Int32) (s1 : Nat) (μ : Mm) : Option (Unit × Mm) :=
  ck (mK μ s1 = 104) <|
  zl (sI μ s1 11 s0) fun μ58 =>
  some ((), μ58)
def f_X3_compute_b112 (s0 : Nat) (μ : Mm) : Option (Unit × Mm) :=
  f_X3_compute_b113 ((-1)) s0 μ
def f_X3_compute_b78 (a0 : Nat) (x1 : Int32) (s0 : Int32) (s1 : Nat) (μ : Mm) : Option (Unit × Mm) :=
  ck (mK μ s1 = 104) <|
  ck (zb s0 = s0) <|
  zl (sI μ s1 15 s0) fun μ43 =>
  ck (mK μ43 a0 = 104) <|
  bd (mR μ43 a0 0) fun p47 =>
  ck (mK μ43 p47 = 107) <|
  bd (f_X6_unit p47 μ43) fun y50 =>
  if ¬ y50 = 3 then
    f_X3_compute_b112 a0 μ43
  else
    if ¬ (mI μ43 a0 12) = 0 then
      f_X3_compute_b112 a0 μ43
    else
      bd (mR μ43 a0 0) fun p54 =>
      ck (mK μ43 p54 = 107) <|
      f_X3_compute_b113 (x1 + (mI μ43 p54 5)) a0 μ43
def f_X3_compute_b77 (a0 : Nat) (x1 : Int32) (s0 : Nat) (μ : Mm) : Option (Unit × Mm) :=
  f_X3_compute_b78 a0 x1 0 s0 μ
def f_X3_compute_b34 (a0 : Nat) (x1 : Int32) (x2 : Int32) (s0 : Int32) (s1 : Nat) (μ : Mm) : Option (Unit × Mm) :=
  ck (mK μ s1 = 104) <|
  zl (sI μ s1 13 s0) fun μ17 =>
  ck (mK μ17 a0 = 104) <|
  bd (mR μ17 a0 0) fun p21 =>
  ck (mK μ17 p21 = 107) <|
  bd (f_X6_goesBy p21 x1 x2 μ17) fun y24 =>
  zl (sI μ17 a0 14 y24) fun μ26 =>
  bd (mR μ26 a0 0) fun p29 =>
  ck (mK μ26 p29 = 107) <|
  bd (f_X6_isQuestion p29 μ26) fun y32 =>
  if y32 = 0 then
    f_X3_compute_b77 a0 x1 a0 μ26
  else
    bd (mR μ26 a0 0) fun p35 =>
    ck (mK μ26 p35 = 107) <|
    bd (f_X6_isSo p35 x1 x2 μ26) fun y38 =>
    if y38 = 0 then
      f_X3_compute_b77 a0 x1 a0 μ26
    else
      f_X3_compute_b78 a0 x1 1 a0 μ26
def f_X3_compute (a0 : Nat) (x1 : Int32) (x2 : Int32) (μ : Mm) : Option (Unit × Mm) :=
  ck (mK μ a0 = 104) <|
  bd (mR μ a0 0) fun p2 =>
  ck (mK μ p2 = 107) <|
  bd (f_X6_trapBy p2 x1 x2 μ) fun y5 =>
  zl (sI μ a0 12 y5) fun μ7 =>
  if ¬ (mI μ7 a0 12) = 0 then
    f_X3_compute_b34 a0 x1 x2 0 a0 μ7
  else
    bd (mR μ7 a0 0) fun p11 =>
    ck (mK μ7 p11 = 107) <|
    bd (f_X6_resultBy p11 x1 x2 μ7) fun y14 =>
    f_X3_compute_b34 a0 x1 x2 y14 a0 μ7
set_option maxRecDepth 100000 in
theorem s_X3_compute_b113 {l : Launch} {G : Gt} (hG : Gok l G) (s0 : Int32) (s1 : Nat) (μ : Mm) (r : Unit) (μ' : Mm) (h : f_X3_compute_b113 s0 s1 μ = some (r, μ')) : ZX l G mX3_compute 113 [] [.int s0, .ref s1] μ (.inl none) μ' := by
  unfold f_X3_compute_b113 at h
  obtain ⟨h57, h⟩ := ck_e h
  refine zx_putI hG fl_X3_39 fn_4_11 h57 dX3_compute_113 ?_
  obtain ⟨μ58, e60, h⟩ := zlm_e h
  refine zx_mem e60 ?_
  have e59 : mK μ58 = mK μ := (congrArg mK e60).trans rfl
  cases h
  exact zx_vret dX3_compute_116 rfl
set_option maxRecDepth 100000 in
theorem s_X3_compute_b112 {l : Launch} {G : Gt} (hG : Gok l G) (s0 : Nat) (μ : Mm) (r : Unit) (μ' : Mm) (h : f_X3_compute_b112 s0 μ = some (r, μ')) : ZX l G mX3_compute 112 [] [.ref s0] μ (.inl none) μ' := by
  unfold f_X3_compute_b112 at h
  refine zx_iconst (v := (-1)) dX3_compute_112 iv_iconst_m1 ?_
  exact s_X3_compute_b113 hG _ _ _ _ _ h
set_option maxRecDepth 100000 in
theorem s_X3_compute_b78 {l : Launch} {G : Gt} (hG : Gok l G) (a0 : Nat) (x1 : Int32) (s0 : Int32) (s1 : Nat) (μ : Mm) (r : Unit) (μ' : Mm) (h : f_X3_compute_b78 a0 x1 s0 s1 μ = some (r, μ')) : ZX l G mX3_compute 78 [(0, .ref a0), (1, .int x1)] [.int s0, .ref s1] μ (.inl none) μ' := by
  unfold f_X3_compute_b78 at h
  obtain ⟨h41, h⟩ := ck_e h
  obtain ⟨h42, h⟩ := ck_e h
  refine zx_putZ hG fl_X3_48 fn_4_15 h41 h42 dX3_compute_78 ?_
  obtain ⟨μ43, e45, h⟩ := zlm_e h
  refine zx_mem e45 ?_
  have e44 : mK μ43 = mK μ := (congrArg mK e45).trans rfl
  refine zx_aload_n dX3_compute_81 rfl (q := 0) rfl ?_
  refine zx_aload_n dX3_compute_82 rfl (q := 0) rfl ?_
  obtain ⟨h46, h⟩ := ck_e h
  obtain ⟨p47, h48, h⟩ := bd_e h
  refine zx_getR hG fl_X3_55 h46 h48 dX3_compute_83 ?_
  obtain ⟨h49, h⟩ := ck_e h
  obtain ⟨y50, z51, h⟩ := bd_e h
  refine zx_callV (As := []) hG mf_X6_unit cv_X3_93 h49 ⟨by decide, by decide⟩ rfl rfl (Nat.le_of_ble_eq_true rfl) (s_X6_unit hG _ _ _ z51) (Nat.le_of_ble_eq_true rfl) dX3_compute_86 ?_
  refine zx_iconst (v := 3) dX3_compute_89 iv_iconst_3 ?_
  by_cases c52 : ¬ y50 = 3
  · have h := it_t c52 h
    refine zx_icmp_ne_t (tgt := 112) dX3_compute_90 (by decide) c52 ?_
    refine zx_sub (L' := []) [] rfl ?_
    exact s_X3_compute_b112 hG _ _ _ _ h
  · have h := it_f c52 h
    refine zx_icmp_ne_f (tgt := 112) dX3_compute_90 (by decide) (Classical.not_not.mp c52) ?_
    refine zx_aload_n dX3_compute_93 rfl (q := 0) rfl ?_
    refine zx_getI hG fl_X3_42 h46 dX3_compute_94 ?_
    by_cases c53 : ¬ (mI μ43 a0 12) = 0
    · have h := it_t c53 h
      refine zx_if_ne_t (tgt := 112) dX3_compute_97 (by decide) c53 ?_
      refine zx_sub (L' := []) [] rfl ?_
      exact s_X3_compute_b112 hG _ _ _ _ h
    · have h := it_f c53 h
      refine zx_if_ne_f (tgt := 112) dX3_compute_97 (by decide) (Classical.not_not.mp c53) ?_
      refine zx_iload_n dX3_compute_100 rfl (q := 1) rfl ?_
      refine zx_aload_n dX3_compute_101 rfl (q := 0) rfl ?_
      obtain ⟨p54, h55, h⟩ := bd_e h
      refine zx_getR hG fl_X3_55 h46 h55 dX3_compute_102 ?_
      obtain ⟨h56, h⟩ := ck_e h
      refine zx_getI hG fl_X3_97 h56 dX3_compute_105 ?_
      refine zx_iadd dX3_compute_108 ?_
      refine zx_goto (tgt := 113) dX3_compute_109 (by decide) ?_
      refine zx_sub (L' := []) [] rfl ?_
      exact s_X3_compute_b113 hG _ _ _ _ _ h
set_option maxRecDepth 100000 in
theorem s_X3_compute_b77 {l : Launch} {G : Gt} (hG : Gok l G) (a0 : Nat) (x1 : Int32) (s0 : Nat) (μ : Mm) (r : Unit) (μ' : Mm) (h : f_X3_compute_b77 a0 x1 s0 μ = some (r, μ')) : ZX l G mX3_compute 77 [(0, .ref a0), (1, .int x1)] [.ref s0] μ (.inl none) μ' := by
  unfold f_X3_compute_b77 at h
  refine zx_iconst (v := 0) dX3_compute_77 iv_iconst_0 ?_
  exact s_X3_compute_b78 hG _ _ _ _ _ _ _ h
set_option maxRecDepth 100000 in
theorem s_X3_compute_b34 {l : Launch} {G : Gt} (hG : Gok l G) (a0 : Nat) (x1 : Int32) (x2 : Int32) (s0 : Int32) (s1 : Nat) (μ : Mm) (r : Unit) (μ' : Mm) (h : f_X3_compute_b34 a0 x1 x2 s0 s1 μ = some (r, μ')) : ZX l G mX3_compute 34 [(0, .ref a0), (1, .int x1), (2, .int x2)] [.int s0, .ref s1] μ (.inl none) μ' := by
  unfold f_X3_compute_b34 at h
  obtain ⟨h16, h⟩ := ck_e h
  refine zx_putI hG fl_X3_45 fn_4_13 h16 dX3_compute_34 ?_
  obtain ⟨μ17, e19, h⟩ := zlm_e h
  refine zx_mem e19 ?_
  have e18 : mK μ17 = mK μ := (congrArg mK e19).trans rfl
  refine zx_aload_n dX3_compute_37 rfl (q := 0) rfl ?_
  refine zx_aload_n dX3_compute_38 rfl (q := 0) rfl ?_
  obtain ⟨h20, h⟩ := ck_e h
  obtain ⟨p21, h22, h⟩ := bd_e h
  refine zx_getR hG fl_X3_55 h20 h22 dX3_compute_39 ?_
  refine zx_iload_n dX3_compute_42 rfl (q := 1) rfl ?_
  refine zx_iload_n dX3_compute_43 rfl (q := 2) rfl ?_
  obtain ⟨h23, h⟩ := ck_e h
  obtain ⟨y24, z25, h⟩ := bd_e h
  refine zx_callV (As := [.int x1, .int x2]) hG mf_X6_goesBy cv_X3_68 h23 ⟨by decide, by decide⟩ rfl rfl (Nat.le_of_ble_eq_true rfl) (s_X6_goesBy hG _ _ _ _ _ z25) (Nat.le_of_ble_eq_true rfl) dX3_compute_44 ?_
  refine zx_putI hG fl_X3_74 fn_4_14 h20 dX3_compute_47 ?_
  obtain ⟨μ26, e28, h⟩ := zlm_e h
  refine zx_mem e28 ?_
  have e27 : mK μ26 = mK μ17 := (congrArg mK e28).trans rfl
  refine zx_aload_n dX3_compute_50 rfl (q := 0) rfl ?_
  refine zx_aload_n dX3_compute_51 rfl (q := 0) rfl ?_
  obtain ⟨p29, h30, h⟩ := bd_e h
  refine zx_getR hG fl_X3_55 (kp_o (e27) h20) h30 dX3_compute_52 ?_
  obtain ⟨h31, h⟩ := ck_e h
  obtain ⟨y32, z33, h⟩ := bd_e h
  refine zx_callV (As := []) hG mf_X6_isQuestion cv_X3_87 h31 ⟨by decide, by decide⟩ rfl rfl (Nat.le_of_ble_eq_true rfl) (s_X6_isQuestion hG _ _ _ z33) (Nat.le_of_ble_eq_true rfl) dX3_compute_55 ?_
  by_cases c34 : y32 = 0
  · have h := it_t c34 h
    refine zx_if_eq_t (tgt := 77) dX3_compute_58 (by decide) c34 ?_
    refine zx_sub (L' := [(0, .ref a0), (1, .int x1)]) [0, 1] rfl ?_
    exact s_X3_compute_b77 hG _ _ _ _ _ _ h
  · have h := it_f c34 h
    refine zx_if_eq_f (tgt := 77) dX3_compute_58 (by decide) c34 ?_
    refine zx_aload_n dX3_compute_61 rfl (q := 0) rfl ?_
    obtain ⟨p35, h36, h⟩ := bd_e h
    refine zx_getR hG fl_X3_55 (kp_o (e27) h20) h36 dX3_compute_62 ?_
    refine zx_iload_n dX3_compute_65 rfl (q := 1) rfl ?_
    refine zx_iload_n dX3_compute_66 rfl (q := 2) rfl ?_
    obtain ⟨h37, h⟩ := ck_e h
    obtain ⟨y38, z39, h⟩ := bd_e h
    refine zx_callV (As := [.int x1, .int x2]) hG mf_X6_isSo cv_X3_90 h37 ⟨by decide, by decide⟩ rfl rfl (Nat.le_of_ble_eq_true rfl) (s_X6_isSo hG _ _ _ _ _ z39) (Nat.le_of_ble_eq_true rfl) dX3_compute_67 ?_
    by_cases c40 : y38 = 0
    · have h := it_t c40 h
      refine zx_if_eq_t (tgt := 77) dX3_compute_70 (by decide) c40 ?_
      refine zx_sub (L' := [(0, .ref a0), (1, .int x1)]) [0, 1] rfl ?_
      exact s_X3_compute_b77 hG _ _ _ _ _ _ h
    · have h := it_f c40 h
      refine zx_if_eq_f (tgt := 77) dX3_compute_70 (by decide) c40 ?_
      refine zx_iconst (v := 1) dX3_compute_73 iv_iconst_1 ?_
      refine zx_goto (tgt := 78) dX3_compute_74 (by decide) ?_
      refine zx_sub (L' := [(0, .ref a0), (1, .int x1)]) [0, 1] rfl ?_
      exact s_X3_compute_b78 hG _ _ _ _ _ _ _ h
set_option maxRecDepth 100000 in
theorem s_X3_compute {l : Launch} {G : Gt} (hG : Gok l G) (a0 : Nat) (x1 : Int32) (x2 : Int32) (μ : Mm) (r : Unit) (μ' : Mm) (h : f_X3_compute a0 x1 x2 μ = some (r, μ')) : ZX l G mX3_compute 0 [(0, .ref a0), (1, .int x1), (2, .int x2)] [] μ (.inl none) μ' := by
  unfold f_X3_compute at h
  refine zx_aload_n dX3_compute_0 rfl (q := 0) rfl ?_
  refine zx_aload_n dX3_compute_1 rfl (q := 0) rfl ?_
  obtain ⟨h1, h⟩ := ck_e h
  obtain ⟨p2, h3, h⟩ := bd_e h
  refine zx_getR hG fl_X3_55 h1 h3 dX3_compute_2 ?_
  refine zx_iload_n dX3_compute_5 rfl (q := 1) rfl ?_
  refine zx_iload_n dX3_compute_6 rfl (q := 2) rfl ?_
  obtain ⟨h4, h⟩ := ck_e h
  obtain ⟨y5, z6, h⟩ := bd_e h
  refine zx_callV (As := [.int x1, .int x2]) hG mf_X6_trapBy cv_X3_81 h4 ⟨by decide, by decide⟩ rfl rfl (Nat.le_of_ble_eq_true rfl) (s_X6_trapBy hG _ _ _ _ _ z6) (Nat.le_of_ble_eq_true rfl) dX3_compute_7 ?_
  refine zx_putI hG fl_X3_42 fn_4_12 h1 dX3_compute_10 ?_
  obtain ⟨μ7, e9, h⟩ := zlm_e h
  refine zx_mem e9 ?_
  have e8 : mK μ7 = mK μ := (congrArg mK e9).trans rfl
  refine zx_aload_n dX3_compute_13 rfl (q := 0) rfl ?_
  refine zx_aload_n dX3_compute_14 rfl (q := 0) rfl ?_
  refine zx_getI hG fl_X3_42 (kp_o (e8) h1) dX3_compute_15 ?_
  by_cases c10 : ¬ (mI μ7 a0 12) = 0
  · have h := it_t c10 h
    refine zx_if_ne_t (tgt := 33) dX3_compute_18 (by decide) c10 ?_
    refine zx_iconst (v := 0) dX3_compute_33 iv_iconst_0 ?_
    exact s_X3_compute_b34 hG _ _ _ _ _ _ _ _ h
  · have h := it_f c10 h
    refine zx_if_ne_f (tgt := 33) dX3_compute_18 (by decide) (Classical.not_not.mp c10) ?_
    refine zx_aload_n dX3_compute_21 rfl (q := 0) rfl ?_
    obtain ⟨p11, h12, h⟩ := bd_e h
    refine zx_getR hG fl_X3_55 (kp_o (e8) h1) h12 dX3_compute_22 ?_
    refine zx_iload_n dX3_compute_25 rfl (q := 1) rfl ?_
    refine zx_iload_n dX3_compute_26 rfl (q := 2) rfl ?_
    obtain ⟨h13, h⟩ := ck_e h
    obtain ⟨y14, z15, h⟩ := bd_e h
    refine zx_callV (As := [.int x1, .int x2]) hG mf_X6_resultBy cv_X3_84 h13 ⟨by decide, by decide⟩ rfl rfl (Nat.le_of_ble_eq_true rfl) (s_X6_resultBy hG _ _ _ _ _ z15) (Nat.le_of_ble_eq_true rfl) dX3_compute_27 ?_
    refine zx_goto (tgt := 34) dX3_compute_30 (by decide) ?_
    exact s_X3_compute_b34 hG _ _ _ _ _ _ _ _ h
def f_X0_isStoreOpenBefore_b51 (k2 : Nat → Int32 → Int32 → Mm → Option Int32) (a0 : Nat) (x1 : Int32) (x2 : Int32) (μ : Mm) : Option Int32 :=
  k2 a0 x1 (x2 + 1) μ
def f_X0_isStoreOpenBefore_b2 : Nat → Nat → Int32 → Int32 → Mm → Option Int32
  | 0, _, _, _, _ => none
  | n + 1, a0, x1, x2, μ =>
  if x1 ≤ x2 then
    some 0
  else
    ck (mK μ a0 = 101) <|
    bd (mR μ a0 7) fun p3 =>
    ck (mK μ p3 = 100) <|
    bd (f_Jx4a65c_size_8abf5 p3 μ) fun y6 =>
    if y6 ≤ x2 then
      some 0
    else
      bd (mR μ a0 7) fun p9 =>
      ck (mK μ p9 = 100) <|
      bd (f_Jx4a65c_get_915e3 p9 x2 μ) fun p12 =>
      ck (mK μ p12 = 104) <|
      bd (mR μ p12 0) fun p15 =>
      ck (mK μ p15 = 107) <|
      bd (f_X6_isStore p15 μ) fun y18 =>
      if y18 = 0 then
        f_X0_isStoreOpenBefore_b51 (f_X0_isStoreOpenBefore_b2 n) a0 x1 x2 μ
      else
        if (zc (mI μ p12 5)) = 101 then
          f_X0_isStoreOpenBefore_b51 (f_X0_isStoreOpenBefore_b2 n) a0 x1 x2 μ
        else
          some 1
def f_X0_isStoreOpenBefore (a0 : Nat) (x1 : Int32) (μ : Mm) : Option Int32 :=
  f_X0_isStoreOpenBefore_b2 5000 a0 x1 0 μ
set_option maxRecDepth 100000 in
theorem s_X0_isStoreOpenBefore_b51 {l : Launch} {G : Gt} (hG : Gok l G) {k2 : Nat → Int32 → Int32 → Mm → Option Int32} (hk2 : ∀ (a0 : Nat) (x1 : Int32) (x2 : Int32) (μ : Mm) (r : Int32), k2 a0 x1 x2 μ = some r → ZX l G mX0_isStoreOpenBefore 2 [(0, .ref a0), (1, .int x1), (2, .int x2)] [] μ (.inl (some (.int r))) μ) (a0 : Nat) (x1 : Int32) (x2 : Int32) (μ : Mm) (r : Int32) (h : f_X0_isStoreOpenBefore_b51 k2 a0 x1 x2 μ = some r) : ZX l G mX0_isStoreOpenBefore 51 [(0, .ref a0), (1, .int x1), (2, .int x2)] [] μ (.inl (some (.int r))) μ := by
  unfold f_X0_isStoreOpenBefore_b51 at h
  refine zx_iinc (q := 2) (v := x2 + 1) (L' := [(2, .int (x2 + 1)), (0, .ref a0), (1, .int x1)]) dX0_isStoreOpenBefore_51 rfl rfl (by decide) rfl ?_
  refine zx_goto (tgt := 2) dX0_isStoreOpenBefore_54 (by decide) ?_
  refine zx_sub (L' := [(0, .ref a0), (1, .int x1), (2, .int (x2 + 1))]) [1, 2, 0] rfl ?_
  exact hk2 _ _ _ _ _ h
set_option maxRecDepth 100000 in
theorem s_X0_isStoreOpenBefore_b2 {l : Launch} {G : Gt} (hG : Gok l G) : ∀ (n : Nat) (a0 : Nat) (x1 : Int32) (x2 : Int32) (μ : Mm) (r : Int32), f_X0_isStoreOpenBefore_b2 n a0 x1 x2 μ = some r → ZX l G mX0_isStoreOpenBefore 2 [(0, .ref a0), (1, .int x1), (2, .int x2)] [] μ (.inl (some (.int r))) μ := by
  intro n
  induction n with
  | zero =>
    intro a0 x1 x2 μ r h
    cases h
  | succ n ih =>
    intro a0 x1 x2 μ r h
    unfold f_X0_isStoreOpenBefore_b2 at h
    refine zx_iload_n dX0_isStoreOpenBefore_2 rfl (q := 2) rfl ?_
    refine zx_iload_n dX0_isStoreOpenBefore_3 rfl (q := 1) rfl ?_
    by_cases c1 : x1 ≤ x2
    · have h := it_t c1 h
      refine zx_icmp_ge_t (tgt := 57) dX0_isStoreOpenBefore_4 (by decide) c1 ?_
      refine zx_iconst (v := 0) dX0_isStoreOpenBefore_57 iv_iconst_0 ?_
      cases h
      exact zx_zretZ dX0_isStoreOpenBefore_58 rfl zb_0
    · have h := it_f c1 h
      refine zx_icmp_ge_f (tgt := 57) dX0_isStoreOpenBefore_4 (by decide) c1 ?_
      refine zx_iload_n dX0_isStoreOpenBefore_7 rfl (q := 2) rfl ?_
      refine zx_aload_n dX0_isStoreOpenBefore_8 rfl (q := 0) rfl ?_
      obtain ⟨h2, h⟩ := ck_e h
      obtain ⟨p3, h4, h⟩ := bd_e h
      refine zx_getR hG fl_X0_60 h2 h4 dX0_isStoreOpenBefore_9 ?_
      obtain ⟨h5, h⟩ := ck_e h
      obtain ⟨y6, z7, h⟩ := bd_e h
      refine zx_callV (As := []) hG mf_Jx4a65c_size_8abf5 cv_X0_123 h5 ⟨by decide, by decide⟩ rfl rfl (Nat.le_of_ble_eq_true rfl) (s_Jx4a65c_size_8abf5 hG _ _ _ z7) (Nat.le_of_ble_eq_true rfl) dX0_isStoreOpenBefore_12 ?_
      by_cases c8 : y6 ≤ x2
      · have h := it_t c8 h
        refine zx_icmp_ge_t (tgt := 57) dX0_isStoreOpenBefore_15 (by decide) c8 ?_
        refine zx_iconst (v := 0) dX0_isStoreOpenBefore_57 iv_iconst_0 ?_
        cases h
        exact zx_zretZ dX0_isStoreOpenBefore_58 rfl zb_0
      · have h := it_f c8 h
        refine zx_icmp_ge_f (tgt := 57) dX0_isStoreOpenBefore_15 (by decide) c8 ?_
        refine zx_aload_n dX0_isStoreOpenBefore_18 rfl (q := 0) rfl ?_
        obtain ⟨p9, h10, h⟩ := bd_e h
        refine zx_getR hG fl_X0_60 h2 h10 dX0_isStoreOpenBefore_19 ?_
        refine zx_iload_n dX0_isStoreOpenBefore_22 rfl (q := 2) rfl ?_
        obtain ⟨h11, h⟩ := ck_e h
        obtain ⟨p12, z13, h⟩ := bd_e h
        refine zx_callV (As := [.int x2]) hG mf_Jx4a65c_get_915e3 cv_X0_127 h11 ⟨by decide, by decide⟩ rfl rfl (Nat.le_of_ble_eq_true rfl) (s_Jx4a65c_get_915e3 hG _ _ _ _ z13) (Nat.le_of_ble_eq_true rfl) dX0_isStoreOpenBefore_23 ?_
        obtain ⟨h14, h⟩ := ck_e h
        refine zx_castO hG kt_X0_131 h14 dX0_isStoreOpenBefore_26 ?_
        refine zx_astore_n (L' := [(3, .ref p12), (0, .ref a0), (1, .int x1), (2, .int x2)]) dX0_isStoreOpenBefore_29 rfl (by decide) rfl ?_
        refine zx_aload_n dX0_isStoreOpenBefore_30 rfl (q := 0) rfl ?_
        obtain ⟨p15, h16, h⟩ := bd_e h
        refine zx_getR hG fl_X0_161 h14 h16 dX0_isStoreOpenBefore_31 ?_
        obtain ⟨h17, h⟩ := ck_e h
        obtain ⟨y18, z19, h⟩ := bd_e h
        refine zx_callV (As := []) hG mf_X6_isStore cv_X0_214 h17 ⟨by decide, by decide⟩ rfl rfl (Nat.le_of_ble_eq_true rfl) (s_X6_isStore hG _ _ _ z19) (Nat.le_of_ble_eq_true rfl) dX0_isStoreOpenBefore_34 ?_
        by_cases c20 : y18 = 0
        · have h := it_t c20 h
          refine zx_if_eq_t (tgt := 51) dX0_isStoreOpenBefore_37 (by decide) c20 ?_
          refine zx_sub (L' := [(0, .ref a0), (1, .int x1), (2, .int x2)]) [1, 2, 3] rfl ?_
          exact s_X0_isStoreOpenBefore_b51 hG ih _ _ _ _ _ h
        · have h := it_f c20 h
          refine zx_if_eq_f (tgt := 51) dX0_isStoreOpenBefore_37 (by decide) c20 ?_
          refine zx_aload_n dX0_isStoreOpenBefore_40 rfl (q := 0) rfl ?_
          refine zx_getC hG fl_X0_133 h14 dX0_isStoreOpenBefore_41 ?_
          refine zx_bipush (v := 101) dX0_isStoreOpenBefore_44 iv_bipush_101 ?_
          by_cases c21 : (zc (mI μ p12 5)) = 101
          · have h := it_t c21 h
            refine zx_icmp_eq_t (tgt := 51) dX0_isStoreOpenBefore_46 (by decide) c21 ?_
            refine zx_sub (L' := [(0, .ref a0), (1, .int x1), (2, .int x2)]) [1, 2, 3] rfl ?_
            exact s_X0_isStoreOpenBefore_b51 hG ih _ _ _ _ _ h
          · have h := it_f c21 h
            refine zx_icmp_eq_f (tgt := 51) dX0_isStoreOpenBefore_46 (by decide) c21 ?_
            refine zx_iconst (v := 1) dX0_isStoreOpenBefore_49 iv_iconst_1 ?_
            cases h
            exact zx_zretZ dX0_isStoreOpenBefore_50 rfl zb_1
set_option maxRecDepth 100000 in
theorem s_X0_isStoreOpenBefore {l : Launch} {G : Gt} (hG : Gok l G) (a0 : Nat) (x1 : Int32) (μ : Mm) (r : Int32) (h : f_X0_isStoreOpenBefore a0 x1 μ = some r) : ZX l G mX0_isStoreOpenBefore 0 [(0, .ref a0), (1, .int x1)] [] μ (.inl (some (.int r))) μ := by
  unfold f_X0_isStoreOpenBefore at h
  refine zx_iconst (v := 0) dX0_isStoreOpenBefore_0 iv_iconst_0 ?_
  refine zx_istore_n (L' := [(2, .int 0), (0, .ref a0), (1, .int x1)]) dX0_isStoreOpenBefore_1 rfl (by decide) rfl ?_
  refine zx_sub (L' := [(0, .ref a0), (1, .int x1), (2, .int 0)]) [1, 2, 0] rfl ?_
  exact s_X0_isStoreOpenBefore_b2 hG 5000 _ _ _ _ _ h
def f_X3_isEndedStore (a0 : Nat) (μ : Mm) : Option Int32 :=
  ck (mK μ a0 = 104) <|
  bd (mR μ a0 0) fun p2 =>
  ck (mK μ p2 = 107) <|
  bd (f_X6_isStore p2 μ) fun y5 =>
  if y5 = 0 then
    some 0
  else
    if ¬ (zc (mI μ a0 5)) = 101 then
      some 0
    else
      some 1
set_option maxRecDepth 100000 in
theorem s_X3_isEndedStore {l : Launch} {G : Gt} (hG : Gok l G) (a0 : Nat) (μ : Mm) (r : Int32) (h : f_X3_isEndedStore a0 μ = some r) : ZX l G mX3_isEndedStore 0 [(0, .ref a0)] [] μ (.inl (some (.int r))) μ := by
  unfold f_X3_isEndedStore at h
  refine zx_aload_n dX3_isEndedStore_0 rfl (q := 0) rfl ?_
  obtain ⟨h1, h⟩ := ck_e h
  obtain ⟨p2, h3, h⟩ := bd_e h
  refine zx_getR hG fl_X3_55 h1 h3 dX3_isEndedStore_1 ?_
  obtain ⟨h4, h⟩ := ck_e h
  obtain ⟨y5, z6, h⟩ := bd_e h
  refine zx_callV (As := []) hG mf_X6_isStore cv_X3_77 h4 ⟨by decide, by decide⟩ rfl rfl (Nat.le_of_ble_eq_true rfl) (s_X6_isStore hG _ _ _ z6) (Nat.le_of_ble_eq_true rfl) dX3_isEndedStore_4 ?_
  by_cases c7 : y5 = 0
  · have h := it_t c7 h
    refine zx_if_eq_t (tgt := 23) dX3_isEndedStore_7 (by decide) c7 ?_
    refine zx_iconst (v := 0) dX3_isEndedStore_23 iv_iconst_0 ?_
    cases h
    exact zx_zretZ dX3_isEndedStore_24 rfl zb_0
  · have h := it_f c7 h
    refine zx_if_eq_f (tgt := 23) dX3_isEndedStore_7 (by decide) c7 ?_
    refine zx_aload_n dX3_isEndedStore_10 rfl (q := 0) rfl ?_
    refine zx_getC hG fl_X3_19 h1 dX3_isEndedStore_11 ?_
    refine zx_bipush (v := 101) dX3_isEndedStore_14 iv_bipush_101 ?_
    by_cases c8 : ¬ (zc (mI μ a0 5)) = 101
    · have h := it_t c8 h
      refine zx_icmp_ne_t (tgt := 23) dX3_isEndedStore_16 (by decide) c8 ?_
      refine zx_iconst (v := 0) dX3_isEndedStore_23 iv_iconst_0 ?_
      cases h
      exact zx_zretZ dX3_isEndedStore_24 rfl zb_0
    · have h := it_f c8 h
      refine zx_icmp_ne_f (tgt := 23) dX3_isEndedStore_16 (by decide) (Classical.not_not.mp c8) ?_
      refine zx_iconst (v := 1) dX3_isEndedStore_19 iv_iconst_1 ?_
      refine zx_goto (tgt := 24) dX3_isEndedStore_20 (by decide) ?_
      cases h
      exact zx_zretZ dX3_isEndedStore_24 rfl zb_1
def f_X3_beginWith (a0 : Nat) (x1 : Int32) (x2 : Int32) (μ : Mm) : Option (Unit × Mm) :=
  ck (mK μ a0 = 104) <|
  zl (sI μ a0 5 120) fun μ2 =>
  zl (sI μ2 a0 10 (x2 + x1)) fun μ5 =>
  bd (mR μ5 a0 4) fun p8 =>
  ck (isA 1 (mK μ5 p8)) <|
  ck (inb 2 (mL μ5 p8)) <|
  zl (sI μ5 p8 (Int32.toNatClampNeg 2) x2) fun μ12 =>
  some ((), μ12)
set_option maxRecDepth 100000 in
theorem s_X3_beginWith {l : Launch} {G : Gt} (hG : Gok l G) (a0 : Nat) (x1 : Int32) (x2 : Int32) (μ : Mm) (r : Unit) (μ' : Mm) (h : f_X3_beginWith a0 x1 x2 μ = some (r, μ')) : ZX l G mX3_beginWith 0 [(0, .ref a0), (1, .int x1), (2, .int x2)] [] μ (.inl none) μ' := by
  unfold f_X3_beginWith at h
  refine zx_aload_n dX3_beginWith_0 rfl (q := 0) rfl ?_
  refine zx_bipush (v := 120) dX3_beginWith_1 iv_bipush_120 ?_
  obtain ⟨h1, h⟩ := ck_e h
  refine zx_putC hG fl_X3_19 fn_4_5 h1 (by decide) dX3_beginWith_3 ?_
  obtain ⟨μ2, e4, h⟩ := zlm_e h
  refine zx_mem e4 ?_
  have e3 : mK μ2 = mK μ := (congrArg mK e4).trans rfl
  refine zx_aload_n dX3_beginWith_6 rfl (q := 0) rfl ?_
  refine zx_iload_n dX3_beginWith_7 rfl (q := 2) rfl ?_
  refine zx_iload_n dX3_beginWith_8 rfl (q := 1) rfl ?_
  refine zx_iadd dX3_beginWith_9 ?_
  refine zx_putI hG fl_X3_36 fn_4_10 (kp_o (e3) h1) dX3_beginWith_10 ?_
  obtain ⟨μ5, e7, h⟩ := zlm_e h
  refine zx_mem e7 ?_
  have e6 : mK μ5 = mK μ2 := (congrArg mK e7).trans rfl
  refine zx_aload_n dX3_beginWith_13 rfl (q := 0) rfl ?_
  obtain ⟨p8, h9, h⟩ := bd_e h
  refine zx_getR hG fl_X3_13 (kp_o (Eq.trans e6 e3) h1) h9 dX3_beginWith_14 ?_
  refine zx_iconst (v := 2) dX3_beginWith_17 iv_iconst_2 ?_
  refine zx_iload_n dX3_beginWith_18 rfl (q := 2) rfl ?_
  obtain ⟨h10, h⟩ := ck_e h
  obtain ⟨h11, h⟩ := ck_e h
  refine zx_iast hG rfl (h10).1 (h10).2 (inb_e h11) dX3_beginWith_19 ?_
  obtain ⟨μ12, e14, h⟩ := zlm_e h
  refine zx_mem e14 ?_
  have e13 : mK μ12 = mK μ5 := (congrArg mK e14).trans rfl
  cases h
  exact zx_vret dX3_beginWith_20 rfl
def f_X0_canTake (a0 : Nat) (a1 : Nat) (a2 : Nat) (μ : Mm) : Option (Int32 × Mm) :=
  ck (mK μ a2 = 104) <|
  bd (mR μ a2 0) fun p2 =>
  ck (mK μ p2 = 107) <|
  if (mI μ p2 1) = 11 then
    some (0, μ)
  else
    ck (mK μ a0 = 101) <|
    bd (mR μ a0 4) fun p7 =>
    ck (mK μ p7 = 106) <|
    bd (f_X5_hasValue p7 (mI μ a2 7) μ) fun y10 =>
    if ¬ y10 = 0 then
      bd (mR μ a0 4) fun p13 =>
      ck (mK μ p13 = 106) <|
      bd (f_X5_valueOf p13 (mI μ a2 7) μ) fun y16 =>
      ck (mK μ a1 = 104) <|
      zl (sI μ a1 13 y16) fun μ19 =>
      zl (sI μ19 a1 16 (mI μ19 a2 1)) fun μ22 =>
      cl (f_X3_beginWith a1 1 (mI μ22 a0 12) μ22) fun _ μ27 =>
      ck (mK μ27 a0 = 101) <|
      bd (mR μ27 a0 2) fun p29 =>
      ck (mK μ27 p29 = 102) <|
      zl (sI μ27 p29 4 ((mI μ27 p29 4) + 1)) fun μ32 =>
      some (1, μ32)
    else
      some (0, μ)
set_option maxRecDepth 100000 in
theorem s_X0_canTake {l : Launch} {G : Gt} (hG : Gok l G) (a0 : Nat) (a1 : Nat) (a2 : Nat) (μ : Mm) (r : Int32) (μ' : Mm) (h : f_X0_canTake a0 a1 a2 μ = some (r, μ')) : ZX l G mX0_canTake 0 [(0, .ref a0), (1, .ref a1), (2, .ref a2)] [] μ (.inl (some (.int r))) μ' := by
  unfold f_X0_canTake at h
  refine zx_aload_n dX0_canTake_0 rfl (q := 2) rfl ?_
  obtain ⟨h1, h⟩ := ck_e h
  obtain ⟨p2, h3, h⟩ := bd_e h
  refine zx_getR hG fl_X0_161 h1 h3 dX0_canTake_1 ?_
  obtain ⟨h4, h⟩ := ck_e h
  refine zx_getI hG fl_X0_165 h4 dX0_canTake_4 ?_
  refine zx_bipush (v := 11) dX0_canTake_7 iv_bipush_11 ?_
  by_cases c5 : (mI μ p2 1) = 11
  · have h := it_t c5 h
    refine zx_icmp_eq_t (tgt := 26) dX0_canTake_9 (by decide) c5 ?_
    refine zx_iconst (v := 0) dX0_canTake_26 iv_iconst_0 ?_
    cases h
    exact zx_zretZ dX0_canTake_27 rfl zb_0
  · have h := it_f c5 h
    refine zx_icmp_eq_f (tgt := 26) dX0_canTake_9 (by decide) c5 ?_
    refine zx_aload_n dX0_canTake_12 rfl (q := 0) rfl ?_
    obtain ⟨h6, h⟩ := ck_e h
    obtain ⟨p7, h8, h⟩ := bd_e h
    refine zx_getR hG fl_X0_42 h6 h8 dX0_canTake_13 ?_
    refine zx_aload_n dX0_canTake_16 rfl (q := 2) rfl ?_
    refine zx_getI hG fl_X0_285 h1 dX0_canTake_17 ?_
    obtain ⟨h9, h⟩ := ck_e h
    obtain ⟨y10, z11, h⟩ := bd_e h
    refine zx_callV (As := [.int (mI μ a2 7)]) hG mf_X5_hasValue cv_X0_288 h9 ⟨by decide, by decide⟩ rfl rfl (Nat.le_of_ble_eq_true rfl) (s_X5_hasValue hG _ _ _ _ z11) (Nat.le_of_ble_eq_true rfl) dX0_canTake_20 ?_
    by_cases c12 : ¬ y10 = 0
    · have h := it_t c12 h
      refine zx_if_ne_t (tgt := 28) dX0_canTake_23 (by decide) c12 ?_
      refine zx_aload_n dX0_canTake_28 rfl (q := 1) rfl ?_
      refine zx_aload_n dX0_canTake_29 rfl (q := 0) rfl ?_
      obtain ⟨p13, h14, h⟩ := bd_e h
      refine zx_getR hG fl_X0_42 h6 h14 dX0_canTake_30 ?_
      refine zx_aload_n dX0_canTake_33 rfl (q := 2) rfl ?_
      refine zx_getI hG fl_X0_285 h1 dX0_canTake_34 ?_
      obtain ⟨h15, h⟩ := ck_e h
      obtain ⟨y16, z17, h⟩ := bd_e h
      refine zx_callV (As := [.int (mI μ a2 7)]) hG mf_X5_valueOf cv_X0_307 h15 ⟨by decide, by decide⟩ rfl rfl (Nat.le_of_ble_eq_true rfl) (s_X5_valueOf hG _ _ _ _ z17) (Nat.le_of_ble_eq_true rfl) dX0_canTake_37 ?_
      obtain ⟨h18, h⟩ := ck_e h
      refine zx_putI hG fl_X0_176 fn_4_13 h18 dX0_canTake_40 ?_
      obtain ⟨μ19, e21, h⟩ := zlm_e h
      refine zx_mem e21 ?_
      have e20 : mK μ19 = mK μ := (congrArg mK e21).trans rfl
      refine zx_aload_n dX0_canTake_43 rfl (q := 1) rfl ?_
      refine zx_aload_n dX0_canTake_44 rfl (q := 2) rfl ?_
      refine zx_getI hG fl_X0_217 (kp_o (e20) h1) dX0_canTake_45 ?_
      refine zx_putI hG fl_X0_170 fn_4_16 (kp_o (e20) h18) dX0_canTake_48 ?_
      obtain ⟨μ22, e24, h⟩ := zlm_e h
      refine zx_mem e24 ?_
      have e23 : mK μ22 = mK μ19 := (congrArg mK e24).trans rfl
      refine zx_aload_n dX0_canTake_51 rfl (q := 1) rfl ?_
      refine zx_iconst (v := 1) dX0_canTake_52 iv_iconst_1 ?_
      refine zx_aload_n dX0_canTake_53 rfl (q := 0) rfl ?_
      refine zx_getI hG fl_X0_77 (kp_o (Eq.trans e23 e20) h6) dX0_canTake_54 ?_
      obtain ⟨uu25, μ27, z26, h⟩ := cl_e h
      refine zx_callV (As := [.int 1, .int (mI μ22 a0 12)]) hG mf_X3_beginWith cv_X0_364 (kp_o (Eq.trans e23 e20) h18) ⟨by decide, by decide⟩ rfl rfl (Nat.le_of_ble_eq_true rfl) (s_X3_beginWith hG _ _ _ _ _ _ z26) (Nat.le_of_ble_eq_true rfl) dX0_canTake_57 ?_
      refine zx_aload_n dX0_canTake_60 rfl (q := 0) rfl ?_
      obtain ⟨h28, h⟩ := ck_e h
      obtain ⟨p29, h30, h⟩ := bd_e h
      refine zx_getR hG fl_X0_28 h28 h30 dX0_canTake_61 ?_
      refine zx_dup dX0_canTake_64 rfl ?_
      obtain ⟨h31, h⟩ := ck_e h
      refine zx_getI hG fl_X0_390 h31 dX0_canTake_65 ?_
      refine zx_iconst (v := 1) dX0_canTake_68 iv_iconst_1 ?_
      refine zx_iadd dX0_canTake_69 ?_
      refine zx_putI hG fl_X0_390 fn_2_4 h31 dX0_canTake_70 ?_
      obtain ⟨μ32, e34, h⟩ := zlm_e h
      refine zx_mem e34 ?_
      have e33 : mK μ32 = mK μ27 := (congrArg mK e34).trans rfl
      refine zx_iconst (v := 1) dX0_canTake_73 iv_iconst_1 ?_
      cases h
      exact zx_zretZ dX0_canTake_74 rfl zb_1
    · have h := it_f c12 h
      refine zx_if_ne_f (tgt := 28) dX0_canTake_23 (by decide) (Classical.not_not.mp c12) ?_
      refine zx_iconst (v := 0) dX0_canTake_26 iv_iconst_0 ?_
      cases h
      exact zx_zretZ dX0_canTake_27 rfl zb_0
def f_X7_isThere (a0 : Nat) (x1 : Int32) (μ : Mm) : Option Int32 :=
  ck (mK μ a0 = 108) <|
  bd (mR μ a0 0) fun p2 =>
  bd (f_J9_floorMod_7cf53 x1 4) fun y4 =>
  ck (isA 1 (mK μ p2)) <|
  ck (inb y4 (mL μ p2)) <|
  if ¬ (mI μ p2 (Int32.toNatClampNeg y4)) = x1 then
    some 0
  else
    some 1
set_option maxRecDepth 100000 in
theorem s_X7_isThere {l : Launch} {G : Gt} (hG : Gok l G) (a0 : Nat) (x1 : Int32) (μ : Mm) (r : Int32) (h : f_X7_isThere a0 x1 μ = some r) : ZX l G mX7_isThere 0 [(0, .ref a0), (1, .int x1)] [] μ (.inl (some (.int r))) μ := by
  unfold f_X7_isThere at h
  refine zx_aload_n dX7_isThere_0 rfl (q := 0) rfl ?_
  obtain ⟨h1, h⟩ := ck_e h
  obtain ⟨p2, h3, h⟩ := bd_e h
  refine zx_getR hG fl_X7_9 h1 h3 dX7_isThere_1 ?_
  refine zx_iload_n dX7_isThere_4 rfl (q := 1) rfl ?_
  refine zx_iconst (v := 4) dX7_isThere_5 iv_iconst_4 ?_
  obtain ⟨y4, z5, h⟩ := bd_e h
  refine zx_callS (As := [.int x1, .int 4]) hG mf_J9_floorMod_7cf53 cs_X7_28 ⟨by decide, by decide⟩ rfl rfl (Nat.le_of_ble_eq_true rfl) (s_J9_floorMod_7cf53 hG _ _ _ _ z5) (Nat.le_of_ble_eq_true rfl) dX7_isThere_6 ?_
  obtain ⟨h6, h⟩ := ck_e h
  obtain ⟨h7, h⟩ := ck_e h
  refine zx_iald hG rfl (h6).1 (h6).2 (inb_e h7) dX7_isThere_9 ?_
  refine zx_iload_n dX7_isThere_10 rfl (q := 1) rfl ?_
  by_cases c8 : ¬ (mI μ p2 (Int32.toNatClampNeg y4)) = x1
  · have h := it_t c8 h
    refine zx_icmp_ne_t (tgt := 18) dX7_isThere_11 (by decide) c8 ?_
    refine zx_iconst (v := 0) dX7_isThere_18 iv_iconst_0 ?_
    cases h
    exact zx_zretZ dX7_isThere_19 rfl zb_0
  · have h := it_f c8 h
    refine zx_icmp_ne_f (tgt := 18) dX7_isThere_11 (by decide) (Classical.not_not.mp c8) ?_
    refine zx_iconst (v := 1) dX7_isThere_14 iv_iconst_1 ?_
    refine zx_goto (tgt := 19) dX7_isThere_15 (by decide) ?_
    cases h
    exact zx_zretZ dX7_isThere_19 rfl zb_1
def f_X7_askFor (a0 : Nat) (x1 : Int32) (x2 : Int32) (μ : Mm) : Option (Int32 × Mm) :=
  ck (mK μ a0 = 108) <|
  if 2 ≤ (mI μ a0 4) then
    some (0, μ)
  else
    if x1 < 0 then
      some (0, μ)
    else
      if x1 < 16 then
        bd (mR μ a0 2) fun p5 =>
        ck (isA 1 (mK μ p5)) <|
        ck (inb (mI μ a0 4) (mL μ p5)) <|
        zl (sI μ p5 (Int32.toNatClampNeg (mI μ a0 4)) x1) fun μ9 =>
        bd (mR μ9 a0 3) fun p12 =>
        bd (mR μ9 a0 1) fun p14 =>
        ck (isA 1 (mK μ9 p14)) <|
        ck (inb x1 (mL μ9 p14)) <|
        ck (isA 1 (mK μ9 p12)) <|
        ck (inb (mI μ9 a0 4) (mL μ9 p12)) <|
        zl (sI μ9 p12 (Int32.toNatClampNeg (mI μ9 a0 4)) (x2 + (mI μ9 p14 (Int32.toNatClampNeg x1)))) fun μ20 =>
        zl (sI μ20 a0 4 ((mI μ20 a0 4) + 1)) fun μ23 =>
        some (1, μ23)
      else
        some (0, μ)
set_option maxRecDepth 100000 in
theorem s_X7_askFor {l : Launch} {G : Gt} (hG : Gok l G) (a0 : Nat) (x1 : Int32) (x2 : Int32) (μ : Mm) (r : Int32) (μ' : Mm) (h : f_X7_askFor a0 x1 x2 μ = some (r, μ')) : ZX l G mX7_askFor 0 [(0, .ref a0), (1, .int x1), (2, .int x2)] [] μ (.inl (some (.int r))) μ' := by
  unfold f_X7_askFor at h
  refine zx_aload_n dX7_askFor_0 rfl (q := 0) rfl ?_
  obtain ⟨h1, h⟩ := ck_e h
  refine zx_getI hG fl_X7_24 h1 dX7_askFor_1 ?_
  refine zx_iconst (v := 2) dX7_askFor_4 iv_iconst_2 ?_
  by_cases c2 : 2 ≤ (mI μ a0 4)
  · have h := it_t c2 h
    refine zx_icmp_ge_t (tgt := 18) dX7_askFor_5 (by decide) c2 ?_
    refine zx_iconst (v := 0) dX7_askFor_18 iv_iconst_0 ?_
    cases h
    exact zx_zretZ dX7_askFor_19 rfl zb_0
  · have h := it_f c2 h
    refine zx_icmp_ge_f (tgt := 18) dX7_askFor_5 (by decide) c2 ?_
    refine zx_iload_n dX7_askFor_8 rfl (q := 1) rfl ?_
    by_cases c3 : x1 < 0
    · have h := it_t c3 h
      refine zx_if_lt_t (tgt := 18) dX7_askFor_9 (by decide) c3 ?_
      refine zx_iconst (v := 0) dX7_askFor_18 iv_iconst_0 ?_
      cases h
      exact zx_zretZ dX7_askFor_19 rfl zb_0
    · have h := it_f c3 h
      refine zx_if_lt_f (tgt := 18) dX7_askFor_9 (by decide) c3 ?_
      refine zx_iload_n dX7_askFor_12 rfl (q := 1) rfl ?_
      refine zx_bipush (v := 16) dX7_askFor_13 iv_bipush_16 ?_
      by_cases c4 : x1 < 16
      · have h := it_t c4 h
        refine zx_icmp_lt_t (tgt := 20) dX7_askFor_15 (by decide) c4 ?_
        refine zx_aload_n dX7_askFor_20 rfl (q := 0) rfl ?_
        obtain ⟨p5, h6, h⟩ := bd_e h
        refine zx_getR hG fl_X7_18 h1 h6 dX7_askFor_21 ?_
        refine zx_aload_n dX7_askFor_24 rfl (q := 0) rfl ?_
        refine zx_getI hG fl_X7_24 h1 dX7_askFor_25 ?_
        refine zx_iload_n dX7_askFor_28 rfl (q := 1) rfl ?_
        obtain ⟨h7, h⟩ := ck_e h
        obtain ⟨h8, h⟩ := ck_e h
        refine zx_iast hG rfl (h7).1 (h7).2 (inb_e h8) dX7_askFor_29 ?_
        obtain ⟨μ9, e11, h⟩ := zlm_e h
        refine zx_mem e11 ?_
        have e10 : mK μ9 = mK μ := (congrArg mK e11).trans rfl
        refine zx_aload_n dX7_askFor_30 rfl (q := 0) rfl ?_
        obtain ⟨p12, h13, h⟩ := bd_e h
        refine zx_getR hG fl_X7_21 (kp_o (e10) h1) h13 dX7_askFor_31 ?_
        refine zx_aload_n dX7_askFor_34 rfl (q := 0) rfl ?_
        refine zx_getI hG fl_X7_24 (kp_o (e10) h1) dX7_askFor_35 ?_
        refine zx_iload_n dX7_askFor_38 rfl (q := 2) rfl ?_
        refine zx_aload_n dX7_askFor_39 rfl (q := 0) rfl ?_
        obtain ⟨p14, h15, h⟩ := bd_e h
        refine zx_getR hG fl_X7_15 (kp_o (e10) h1) h15 dX7_askFor_40 ?_
        refine zx_iload_n dX7_askFor_43 rfl (q := 1) rfl ?_
        obtain ⟨h16, h⟩ := ck_e h
        obtain ⟨h17, h⟩ := ck_e h
        refine zx_iald hG rfl (h16).1 (h16).2 (inb_e h17) dX7_askFor_44 ?_
        refine zx_iadd dX7_askFor_45 ?_
        obtain ⟨h18, h⟩ := ck_e h
        obtain ⟨h19, h⟩ := ck_e h
        refine zx_iast hG rfl (h18).1 (h18).2 (inb_e h19) dX7_askFor_46 ?_
        obtain ⟨μ20, e22, h⟩ := zlm_e h
        refine zx_mem e22 ?_
        have e21 : mK μ20 = mK μ9 := (congrArg mK e22).trans rfl
        refine zx_aload_n dX7_askFor_47 rfl (q := 0) rfl ?_
        refine zx_dup dX7_askFor_48 rfl ?_
        refine zx_getI hG fl_X7_24 (kp_o (Eq.trans e21 e10) h1) dX7_askFor_49 ?_
        refine zx_iconst (v := 1) dX7_askFor_52 iv_iconst_1 ?_
        refine zx_iadd dX7_askFor_53 ?_
        refine zx_putI hG fl_X7_24 fn_8_4 (kp_o (Eq.trans e21 e10) h1) dX7_askFor_54 ?_
        obtain ⟨μ23, e25, h⟩ := zlm_e h
        refine zx_mem e25 ?_
        have e24 : mK μ23 = mK μ20 := (congrArg mK e25).trans rfl
        refine zx_iconst (v := 1) dX7_askFor_57 iv_iconst_1 ?_
        cases h
        exact zx_zretZ dX7_askFor_58 rfl zb_1
      · have h := it_f c4 h
        refine zx_icmp_lt_f (tgt := 20) dX7_askFor_15 (by decide) c4 ?_
        refine zx_iconst (v := 0) dX7_askFor_18 iv_iconst_0 ?_
        cases h
        exact zx_zretZ dX7_askFor_19 rfl zb_0
def f_X0_canBeginLoad_b90 (a0 : Nat) (a1 : Nat) (a4 : Nat) (μ : Mm) : Option (Int32 × Mm) :=
  ck (mK μ a0 = 101) <|
  cl (f_X0_canTake a0 a1 a4 μ) fun y84 μ86 =>
  ck (zb y84 = y84) <|
  some (y84, μ86)
def f_X0_canBeginLoad_b98 (k34 : Nat → Nat → Int32 → Mm → Option (Int32 × Mm)) (a0 : Nat) (a1 : Nat) (x3 : Int32) (μ : Mm) : Option (Int32 × Mm) :=
  k34 a0 a1 (x3 + (-1)) μ
def f_X0_canBeginLoad_b187 (a0 : Nat) (a1 : Nat) (μ : Mm) : Option (Int32 × Mm) :=
  ck (mK μ a0 = 101) <|
  ck (mK μ a1 = 104) <|
  cl (f_X3_beginWith a1 0 (mI μ a0 12) μ) fun _ μ78 =>
  ck (mK μ78 a1 = 104) <|
  zl (sI μ78 a1 5 109) fun μ80 =>
  some (1, μ80)
def f_X0_canBeginLoad_b104 (a0 : Nat) (a1 : Nat) (μ : Mm) : Option (Int32 × Mm) :=
  ck (mK μ a1 = 104) <|
  ck (¬ (4 : Int32) = 0) <|
  ck (mK μ a0 = 101) <|
  bd (mR μ a0 5) fun p39 =>
  ck (mK μ p39 = 108) <|
  bd (f_X7_isThere p39 ((mI μ a1 11) / 4) μ) fun y42 =>
  if y42 = 0 then
    bd (mR μ a0 5) fun p45 =>
    ck (mK μ p45 = 108) <|
    bd (f_X7_isWaitedFor p45 ((mI μ a1 11) / 4) μ) fun y48 =>
    if ¬ y48 = 0 then
      f_X0_canBeginLoad_b187 a0 a1 μ
    else
      bd (mR μ a0 5) fun p51 =>
      ck (mK μ p51 = 108) <|
      cl (f_X7_askFor p51 ((mI μ a1 11) / 4) (mI μ a0 12) μ) fun y54 μ56 =>
      if ¬ y54 = 0 then
        ck (mK μ56 a0 = 101) <|
        bd (mR μ56 a0 2) fun p59 =>
        ck (mK μ56 p59 = 102) <|
        zl (sI μ56 p59 6 ((mI μ56 p59 6) + 1)) fun μ62 =>
        f_X0_canBeginLoad_b187 a0 a1 μ62
      else
        some (0, μ56)
  else
    bd (mR μ a0 2) fun p65 =>
    ck (mK μ p65 = 102) <|
    zl (sI μ p65 5 ((mI μ p65 5) + 1)) fun μ68 =>
    cl (f_X3_beginWith a1 2 (mI μ68 a0 12) μ68) fun _ μ73 =>
    some (1, μ73)
def f_X0_canBeginLoad_b34 : Nat → Nat → Nat → Int32 → Mm → Option (Int32 × Mm)
  | 0, _, _, _, _ => none
  | n + 1, a0, a1, x3, μ =>
  if x3 < 0 then
    f_X0_canBeginLoad_b104 a0 a1 μ
  else
    ck (mK μ a0 = 101) <|
    bd (mR μ a0 7) fun p18 =>
    ck (mK μ p18 = 100) <|
    bd (f_Jx4a65c_size_8abf5 p18 μ) fun y21 =>
    if y21 ≤ x3 then
      f_X0_canBeginLoad_b104 a0 a1 μ
    else
      bd (mR μ a0 7) fun p24 =>
      ck (mK μ p24 = 100) <|
      bd (f_Jx4a65c_get_915e3 p24 x3 μ) fun p27 =>
      ck (mK μ p27 = 104) <|
      bd (f_X3_isEndedStore p27 μ) fun y30 =>
      if y30 = 0 then
        f_X0_canBeginLoad_b98 (f_X0_canBeginLoad_b34 n) a0 a1 x3 μ
      else
        if ¬ (mI μ p27 12) = 0 then
          f_X0_canBeginLoad_b98 (f_X0_canBeginLoad_b34 n) a0 a1 x3 μ
        else
          ck (mK μ a1 = 104) <|
          if ¬ (mI μ p27 11) = (mI μ a1 11) then
            f_X0_canBeginLoad_b98 (f_X0_canBeginLoad_b34 n) a0 a1 x3 μ
          else
            f_X0_canBeginLoad_b90 a0 a1 p27 μ
def f_X0_canBeginLoad_b30 (a0 : Nat) (a1 : Nat) (x2 : Int32) (μ : Mm) : Option (Int32 × Mm) :=
  f_X0_canBeginLoad_b34 5000 a0 a1 (x2 - 1) μ
def f_X0_canBeginLoad (a0 : Nat) (a1 : Nat) (x2 : Int32) (μ : Mm) : Option (Int32 × Mm) :=
  ck (mK μ a0 = 101) <|
  bd (mR μ a0 10) fun p2 =>
  ck (mK μ a1 = 104) <|
  bd (mR μ a1 0) fun p5 =>
  ck (mK μ p5 = 107) <|
  bd (f_J9_floorMod_7cf53 (mI μ p5 0) 16) fun y8 =>
  ck (isA 2 (mK μ p2)) <|
  ck (inb y8 (mL μ p2)) <|
  if (zb (mI μ p2 (Int32.toNatClampNeg y8))) = 0 then
    f_X0_canBeginLoad_b30 a0 a1 x2 μ
  else
    bd (f_X0_isStoreOpenBefore a0 x2 μ) fun y13 =>
    if y13 = 0 then
      f_X0_canBeginLoad_b30 a0 a1 x2 μ
    else
      some (0, μ)
set_option maxRecDepth 100000 in
theorem s_X0_canBeginLoad_b90 {l : Launch} {G : Gt} (hG : Gok l G) (a0 : Nat) (a1 : Nat) (a4 : Nat) (μ : Mm) (r : Int32) (μ' : Mm) (h : f_X0_canBeginLoad_b90 a0 a1 a4 μ = some (r, μ')) : ZX l G mX0_canBeginLoad 90 [(0, .ref a0), (1, .ref a1), (4, .ref a4)] [] μ (.inl (some (.int r))) μ' := by
  unfold f_X0_canBeginLoad_b90 at h
  refine zx_aload_n dX0_canBeginLoad_90 rfl (q := 0) rfl ?_
  refine zx_aload_n dX0_canBeginLoad_91 rfl (q := 1) rfl ?_
  refine zx_aload dX0_canBeginLoad_92 (q := 2) rfl ?_
  obtain ⟨h83, h⟩ := ck_e h
  obtain ⟨y84, μ86, z85, h⟩ := cl_e h
  refine zx_callV (As := [.ref a1, .ref a4]) hG mf_X0_canTake cv_X0_373 h83 ⟨by decide, by decide⟩ rfl rfl (Nat.le_of_ble_eq_true rfl) (s_X0_canTake hG _ _ _ _ _ _ z85) (Nat.le_of_ble_eq_true rfl) dX0_canBeginLoad_94 ?_
  obtain ⟨h87, h⟩ := ck_e h
  cases h
  exact zx_zretZ dX0_canBeginLoad_97 rfl h87
set_option maxRecDepth 100000 in
theorem s_X0_canBeginLoad_b98 {l : Launch} {G : Gt} (hG : Gok l G) {k34 : Nat → Nat → Int32 → Mm → Option (Int32 × Mm)} (hk34 : ∀ (a0 : Nat) (a1 : Nat) (x3 : Int32) (μ : Mm) (r : Int32) (μ' : Mm), k34 a0 a1 x3 μ = some (r, μ') → ZX l G mX0_canBeginLoad 34 [(0, .ref a0), (1, .ref a1), (3, .int x3)] [] μ (.inl (some (.int r))) μ') (a0 : Nat) (a1 : Nat) (x3 : Int32) (μ : Mm) (r : Int32) (μ' : Mm) (h : f_X0_canBeginLoad_b98 k34 a0 a1 x3 μ = some (r, μ')) : ZX l G mX0_canBeginLoad 98 [(0, .ref a0), (1, .ref a1), (3, .int x3)] [] μ (.inl (some (.int r))) μ' := by
  unfold f_X0_canBeginLoad_b98 at h
  refine zx_iinc (q := 2) (v := x3 + (-1)) (L' := [(3, .int (x3 + (-1))), (0, .ref a0), (1, .ref a1)]) dX0_canBeginLoad_98 rfl rfl (by decide) rfl ?_
  refine zx_goto (tgt := 34) dX0_canBeginLoad_101 (by decide) ?_
  refine zx_sub (L' := [(0, .ref a0), (1, .ref a1), (3, .int (x3 + (-1)))]) [1, 2, 0] rfl ?_
  exact hk34 _ _ _ _ _ _ h
set_option maxRecDepth 100000 in
theorem s_X0_canBeginLoad_b187 {l : Launch} {G : Gt} (hG : Gok l G) (a0 : Nat) (a1 : Nat) (μ : Mm) (r : Int32) (μ' : Mm) (h : f_X0_canBeginLoad_b187 a0 a1 μ = some (r, μ')) : ZX l G mX0_canBeginLoad 187 [(0, .ref a0), (1, .ref a1)] [] μ (.inl (some (.int r))) μ' := by
  unfold f_X0_canBeginLoad_b187 at h
  refine zx_aload_n dX0_canBeginLoad_187 rfl (q := 1) rfl ?_
  refine zx_iconst (v := 0) dX0_canBeginLoad_188 iv_iconst_0 ?_
  refine zx_aload_n dX0_canBeginLoad_189 rfl (q := 0) rfl ?_
  obtain ⟨h74, h⟩ := ck_e h
  refine zx_getI hG fl_X0_77 h74 dX0_canBeginLoad_190 ?_
  obtain ⟨h75, h⟩ := ck_e h
  obtain ⟨uu76, μ78, z77, h⟩ := cl_e h
  refine zx_callV (As := [.int 0, .int (mI μ a0 12)]) hG mf_X3_beginWith cv_X0_364 h75 ⟨by decide, by decide⟩ rfl rfl (Nat.le_of_ble_eq_true rfl) (s_X3_beginWith hG _ _ _ _ _ _ z77) (Nat.le_of_ble_eq_true rfl) dX0_canBeginLoad_193 ?_
  refine zx_aload_n dX0_canBeginLoad_196 rfl (q := 1) rfl ?_
  refine zx_bipush (v := 109) dX0_canBeginLoad_197 iv_bipush_109 ?_
  obtain ⟨h79, h⟩ := ck_e h
  refine zx_putC hG fl_X0_133 fn_4_5 h79 (by decide) dX0_canBeginLoad_199 ?_
  obtain ⟨μ80, e82, h⟩ := zlm_e h
  refine zx_mem e82 ?_
  have e81 : mK μ80 = mK μ78 := (congrArg mK e82).trans rfl
  refine zx_iconst (v := 1) dX0_canBeginLoad_202 iv_iconst_1 ?_
  cases h
  exact zx_zretZ dX0_canBeginLoad_203 rfl zb_1
set_option maxRecDepth 100000 in
theorem s_X0_canBeginLoad_b104 {l : Launch} {G : Gt} (hG : Gok l G) (a0 : Nat) (a1 : Nat) (μ : Mm) (r : Int32) (μ' : Mm) (h : f_X0_canBeginLoad_b104 a0 a1 μ = some (r, μ')) : ZX l G mX0_canBeginLoad 104 [(0, .ref a0), (1, .ref a1)] [] μ (.inl (some (.int r))) μ' := by
  unfold f_X0_canBeginLoad_b104 at h
  refine zx_aload_n dX0_canBeginLoad_104 rfl (q := 1) rfl ?_
  obtain ⟨h36, h⟩ := ck_e h
  refine zx_getI hG fl_X0_137 h36 dX0_canBeginLoad_105 ?_
  refine zx_iconst (v := 4) dX0_canBeginLoad_108 iv_iconst_4 ?_
  obtain ⟨h37, h⟩ := ck_e h
  refine zx_idiv dX0_canBeginLoad_109 h37 ?_
  refine zx_istore_n (L' := [(3, .int ((mI μ a1 11) / 4)), (0, .ref a0), (1, .ref a1)]) dX0_canBeginLoad_110 rfl (by decide) rfl ?_
  refine zx_aload_n dX0_canBeginLoad_111 rfl (q := 1) rfl ?_
  obtain ⟨h38, h⟩ := ck_e h
  obtain ⟨p39, h40, h⟩ := bd_e h
  refine zx_getR hG fl_X0_49 h38 h40 dX0_canBeginLoad_112 ?_
  refine zx_iload_n dX0_canBeginLoad_115 rfl (q := 0) rfl ?_
  obtain ⟨h41, h⟩ := ck_e h
  obtain ⟨y42, z43, h⟩ := bd_e h
  refine zx_callV (As := [.int ((mI μ a1 11) / 4)]) hG mf_X7_isThere cv_X0_377 h41 ⟨by decide, by decide⟩ rfl rfl (Nat.le_of_ble_eq_true rfl) (s_X7_isThere hG _ _ _ _ z43) (Nat.le_of_ble_eq_true rfl) dX0_canBeginLoad_116 ?_
  by_cases c44 : y42 = 0
  · have h := it_t c44 h
    refine zx_if_eq_t (tgt := 146) dX0_canBeginLoad_119 (by decide) c44 ?_
    refine zx_aload_n dX0_canBeginLoad_146 rfl (q := 1) rfl ?_
    obtain ⟨p45, h46, h⟩ := bd_e h
    refine zx_getR hG fl_X0_49 h38 h46 dX0_canBeginLoad_147 ?_
    refine zx_iload_n dX0_canBeginLoad_150 rfl (q := 0) rfl ?_
    obtain ⟨h47, h⟩ := ck_e h
    obtain ⟨y48, z49, h⟩ := bd_e h
    refine zx_callV (As := [.int ((mI μ a1 11) / 4)]) hG mf_X7_isWaitedFor cv_X0_140 h47 ⟨by decide, by decide⟩ rfl rfl (Nat.le_of_ble_eq_true rfl) (s_X7_isWaitedFor hG _ _ _ _ z49) (Nat.le_of_ble_eq_true rfl) dX0_canBeginLoad_151 ?_
    by_cases c50 : ¬ y48 = 0
    · have h := it_t c50 h
      refine zx_if_ne_t (tgt := 187) dX0_canBeginLoad_154 (by decide) c50 ?_
      refine zx_sub (L' := [(0, .ref a0), (1, .ref a1)]) [1, 2] rfl ?_
      exact s_X0_canBeginLoad_b187 hG _ _ _ _ _ h
    · have h := it_f c50 h
      refine zx_if_ne_f (tgt := 187) dX0_canBeginLoad_154 (by decide) (Classical.not_not.mp c50) ?_
      refine zx_aload_n dX0_canBeginLoad_157 rfl (q := 1) rfl ?_
      obtain ⟨p51, h52, h⟩ := bd_e h
      refine zx_getR hG fl_X0_49 h38 h52 dX0_canBeginLoad_158 ?_
      refine zx_iload_n dX0_canBeginLoad_161 rfl (q := 0) rfl ?_
      refine zx_aload_n dX0_canBeginLoad_162 rfl (q := 1) rfl ?_
      refine zx_getI hG fl_X0_77 h38 dX0_canBeginLoad_163 ?_
      obtain ⟨h53, h⟩ := ck_e h
      obtain ⟨y54, μ56, z55, h⟩ := cl_e h
      refine zx_callV (As := [.int ((mI μ a1 11) / 4), .int (mI μ a0 12)]) hG mf_X7_askFor cv_X0_383 h53 ⟨by decide, by decide⟩ rfl rfl (Nat.le_of_ble_eq_true rfl) (s_X7_askFor hG _ _ _ _ _ _ z55) (Nat.le_of_ble_eq_true rfl) dX0_canBeginLoad_166 ?_
      by_cases c57 : ¬ y54 = 0
      · have h := it_t c57 h
        refine zx_if_ne_t (tgt := 174) dX0_canBeginLoad_169 (by decide) c57 ?_
        refine zx_aload_n dX0_canBeginLoad_174 rfl (q := 1) rfl ?_
        obtain ⟨h58, h⟩ := ck_e h
        obtain ⟨p59, h60, h⟩ := bd_e h
        refine zx_getR hG fl_X0_28 h58 h60 dX0_canBeginLoad_175 ?_
        refine zx_dup dX0_canBeginLoad_178 rfl ?_
        obtain ⟨h61, h⟩ := ck_e h
        refine zx_getI hG fl_X0_387 h61 dX0_canBeginLoad_179 ?_
        refine zx_iconst (v := 1) dX0_canBeginLoad_182 iv_iconst_1 ?_
        refine zx_iadd dX0_canBeginLoad_183 ?_
        refine zx_putI hG fl_X0_387 fn_2_6 h61 dX0_canBeginLoad_184 ?_
        obtain ⟨μ62, e64, h⟩ := zlm_e h
        refine zx_mem e64 ?_
        have e63 : mK μ62 = mK μ56 := (congrArg mK e64).trans rfl
        refine zx_sub (L' := [(0, .ref a0), (1, .ref a1)]) [1, 2] rfl ?_
        exact s_X0_canBeginLoad_b187 hG _ _ _ _ _ h
      · have h := it_f c57 h
        refine zx_if_ne_f (tgt := 174) dX0_canBeginLoad_169 (by decide) (Classical.not_not.mp c57) ?_
        refine zx_iconst (v := 0) dX0_canBeginLoad_172 iv_iconst_0 ?_
        cases h
        exact zx_zretZ dX0_canBeginLoad_173 rfl zb_0
  · have h := it_f c44 h
    refine zx_if_eq_f (tgt := 146) dX0_canBeginLoad_119 (by decide) c44 ?_
    refine zx_aload_n dX0_canBeginLoad_122 rfl (q := 1) rfl ?_
    obtain ⟨p65, h66, h⟩ := bd_e h
    refine zx_getR hG fl_X0_28 h38 h66 dX0_canBeginLoad_123 ?_
    refine zx_dup dX0_canBeginLoad_126 rfl ?_
    obtain ⟨h67, h⟩ := ck_e h
    refine zx_getI hG fl_X0_380 h67 dX0_canBeginLoad_127 ?_
    refine zx_iconst (v := 1) dX0_canBeginLoad_130 iv_iconst_1 ?_
    refine zx_iadd dX0_canBeginLoad_131 ?_
    refine zx_putI hG fl_X0_380 fn_2_5 h67 dX0_canBeginLoad_132 ?_
    obtain ⟨μ68, e70, h⟩ := zlm_e h
    refine zx_mem e70 ?_
    have e69 : mK μ68 = mK μ := (congrArg mK e70).trans rfl
    refine zx_aload_n dX0_canBeginLoad_135 rfl (q := 2) rfl ?_
    refine zx_iconst (v := 2) dX0_canBeginLoad_136 iv_iconst_2 ?_
    refine zx_aload_n dX0_canBeginLoad_137 rfl (q := 1) rfl ?_
    refine zx_getI hG fl_X0_77 (kp_o (e69) h38) dX0_canBeginLoad_138 ?_
    obtain ⟨uu71, μ73, z72, h⟩ := cl_e h
    refine zx_callV (As := [.int 2, .int (mI μ68 a0 12)]) hG mf_X3_beginWith cv_X0_364 (kp_o (e69) h36) ⟨by decide, by decide⟩ rfl rfl (Nat.le_of_ble_eq_true rfl) (s_X3_beginWith hG _ _ _ _ _ _ z72) (Nat.le_of_ble_eq_true rfl) dX0_canBeginLoad_141 ?_
    refine zx_iconst (v := 1) dX0_canBeginLoad_144 iv_iconst_1 ?_
    cases h
    exact zx_zretZ dX0_canBeginLoad_145 rfl zb_1
set_option maxRecDepth 100000 in
theorem s_X0_canBeginLoad_b34 {l : Launch} {G : Gt} (hG : Gok l G) : ∀ (n : Nat) (a0 : Nat) (a1 : Nat) (x3 : Int32) (μ : Mm) (r : Int32) (μ' : Mm), f_X0_canBeginLoad_b34 n a0 a1 x3 μ = some (r, μ') → ZX l G mX0_canBeginLoad 34 [(0, .ref a0), (1, .ref a1), (3, .int x3)] [] μ (.inl (some (.int r))) μ' := by
  intro n
  induction n with
  | zero =>
    intro a0 a1 x3 μ r μ' h
    cases h
  | succ n ih =>
    intro a0 a1 x3 μ r μ' h
    unfold f_X0_canBeginLoad_b34 at h
    refine zx_iload_n dX0_canBeginLoad_34 rfl (q := 2) rfl ?_
    by_cases c16 : x3 < 0
    · have h := it_t c16 h
      refine zx_if_lt_t (tgt := 104) dX0_canBeginLoad_35 (by decide) c16 ?_
      refine zx_sub (L' := [(0, .ref a0), (1, .ref a1)]) [0, 1] rfl ?_
      exact s_X0_canBeginLoad_b104 hG _ _ _ _ _ h
    · have h := it_f c16 h
      refine zx_if_lt_f (tgt := 104) dX0_canBeginLoad_35 (by decide) c16 ?_
      refine zx_iload_n dX0_canBeginLoad_38 rfl (q := 2) rfl ?_
      refine zx_aload_n dX0_canBeginLoad_39 rfl (q := 0) rfl ?_
      obtain ⟨h17, h⟩ := ck_e h
      obtain ⟨p18, h19, h⟩ := bd_e h
      refine zx_getR hG fl_X0_60 h17 h19 dX0_canBeginLoad_40 ?_
      obtain ⟨h20, h⟩ := ck_e h
      obtain ⟨y21, z22, h⟩ := bd_e h
      refine zx_callV (As := []) hG mf_Jx4a65c_size_8abf5 cv_X0_123 h20 ⟨by decide, by decide⟩ rfl rfl (Nat.le_of_ble_eq_true rfl) (s_Jx4a65c_size_8abf5 hG _ _ _ z22) (Nat.le_of_ble_eq_true rfl) dX0_canBeginLoad_43 ?_
      by_cases c23 : y21 ≤ x3
      · have h := it_t c23 h
        refine zx_icmp_ge_t (tgt := 104) dX0_canBeginLoad_46 (by decide) c23 ?_
        refine zx_sub (L' := [(0, .ref a0), (1, .ref a1)]) [0, 1] rfl ?_
        exact s_X0_canBeginLoad_b104 hG _ _ _ _ _ h
      · have h := it_f c23 h
        refine zx_icmp_ge_f (tgt := 104) dX0_canBeginLoad_46 (by decide) c23 ?_
        refine zx_aload_n dX0_canBeginLoad_49 rfl (q := 0) rfl ?_
        obtain ⟨p24, h25, h⟩ := bd_e h
        refine zx_getR hG fl_X0_60 h17 h25 dX0_canBeginLoad_50 ?_
        refine zx_iload_n dX0_canBeginLoad_53 rfl (q := 2) rfl ?_
        obtain ⟨h26, h⟩ := ck_e h
        obtain ⟨p27, z28, h⟩ := bd_e h
        refine zx_callV (As := [.int x3]) hG mf_Jx4a65c_get_915e3 cv_X0_127 h26 ⟨by decide, by decide⟩ rfl rfl (Nat.le_of_ble_eq_true rfl) (s_Jx4a65c_get_915e3 hG _ _ _ _ z28) (Nat.le_of_ble_eq_true rfl) dX0_canBeginLoad_54 ?_
        obtain ⟨h29, h⟩ := ck_e h
        refine zx_castO hG kt_X0_131 h29 dX0_canBeginLoad_57 ?_
        refine zx_astore (L' := [(4, .ref p27), (0, .ref a0), (1, .ref a1), (3, .int x3)]) dX0_canBeginLoad_60 (by decide) rfl ?_
        refine zx_aload dX0_canBeginLoad_62 (q := 0) rfl ?_
        obtain ⟨y30, z31, h⟩ := bd_e h
        refine zx_callV (As := []) hG mf_X3_isEndedStore cv_X0_370 h29 ⟨by decide, by decide⟩ rfl rfl (Nat.le_of_ble_eq_true rfl) (s_X3_isEndedStore hG _ _ _ z31) (Nat.le_of_ble_eq_true rfl) dX0_canBeginLoad_64 ?_
        by_cases c32 : y30 = 0
        · have h := it_t c32 h
          refine zx_if_eq_t (tgt := 98) dX0_canBeginLoad_67 (by decide) c32 ?_
          refine zx_sub (L' := [(0, .ref a0), (1, .ref a1), (3, .int x3)]) [1, 2, 3] rfl ?_
          exact s_X0_canBeginLoad_b98 hG ih _ _ _ _ _ _ h
        · have h := it_f c32 h
          refine zx_if_eq_f (tgt := 98) dX0_canBeginLoad_67 (by decide) c32 ?_
          refine zx_aload dX0_canBeginLoad_70 (q := 0) rfl ?_
          refine zx_getI hG fl_X0_192 h29 dX0_canBeginLoad_72 ?_
          by_cases c33 : ¬ (mI μ p27 12) = 0
          · have h := it_t c33 h
            refine zx_if_ne_t (tgt := 98) dX0_canBeginLoad_75 (by decide) c33 ?_
            refine zx_sub (L' := [(0, .ref a0), (1, .ref a1), (3, .int x3)]) [1, 2, 3] rfl ?_
            exact s_X0_canBeginLoad_b98 hG ih _ _ _ _ _ _ h
          · have h := it_f c33 h
            refine zx_if_ne_f (tgt := 98) dX0_canBeginLoad_75 (by decide) (Classical.not_not.mp c33) ?_
            refine zx_aload dX0_canBeginLoad_78 (q := 0) rfl ?_
            refine zx_getI hG fl_X0_137 h29 dX0_canBeginLoad_80 ?_
            refine zx_aload_n dX0_canBeginLoad_83 rfl (q := 2) rfl ?_
            obtain ⟨h34, h⟩ := ck_e h
            refine zx_getI hG fl_X0_137 h34 dX0_canBeginLoad_84 ?_
            by_cases c35 : ¬ (mI μ p27 11) = (mI μ a1 11)
            · have h := it_t c35 h
              refine zx_icmp_ne_t (tgt := 98) dX0_canBeginLoad_87 (by decide) c35 ?_
              refine zx_sub (L' := [(0, .ref a0), (1, .ref a1), (3, .int x3)]) [1, 2, 3] rfl ?_
              exact s_X0_canBeginLoad_b98 hG ih _ _ _ _ _ _ h
            · have h := it_f c35 h
              refine zx_icmp_ne_f (tgt := 98) dX0_canBeginLoad_87 (by decide) (Classical.not_not.mp c35) ?_
              refine zx_sub (L' := [(0, .ref a0), (1, .ref a1), (4, .ref p27)]) [1, 2, 0] rfl ?_
              exact s_X0_canBeginLoad_b90 hG _ _ _ _ _ _ h
set_option maxRecDepth 100000 in
theorem s_X0_canBeginLoad_b30 {l : Launch} {G : Gt} (hG : Gok l G) (a0 : Nat) (a1 : Nat) (x2 : Int32) (μ : Mm) (r : Int32) (μ' : Mm) (h : f_X0_canBeginLoad_b30 a0 a1 x2 μ = some (r, μ')) : ZX l G mX0_canBeginLoad 30 [(0, .ref a0), (1, .ref a1), (2, .int x2)] [] μ (.inl (some (.int r))) μ' := by
  unfold f_X0_canBeginLoad_b30 at h
  refine zx_iload_n dX0_canBeginLoad_30 rfl (q := 2) rfl ?_
  refine zx_iconst (v := 1) dX0_canBeginLoad_31 iv_iconst_1 ?_
  refine zx_isub dX0_canBeginLoad_32 ?_
  refine zx_istore_n (L' := [(3, .int (x2 - 1)), (0, .ref a0), (1, .ref a1), (2, .int x2)]) dX0_canBeginLoad_33 rfl (by decide) rfl ?_
  refine zx_sub (L' := [(0, .ref a0), (1, .ref a1), (3, .int (x2 - 1))]) [1, 2, 0] rfl ?_
  exact s_X0_canBeginLoad_b34 hG 5000 _ _ _ _ _ _ h
set_option maxRecDepth 100000 in
theorem s_X0_canBeginLoad {l : Launch} {G : Gt} (hG : Gok l G) (a0 : Nat) (a1 : Nat) (x2 : Int32) (μ : Mm) (r : Int32) (μ' : Mm) (h : f_X0_canBeginLoad a0 a1 x2 μ = some (r, μ')) : ZX l G mX0_canBeginLoad 0 [(0, .ref a0), (1, .ref a1), (2, .int x2)] [] μ (.inl (some (.int r))) μ' := by
  unfold f_X0_canBeginLoad at h
  refine zx_aload_n dX0_canBeginLoad_0 rfl (q := 0) rfl ?_
  obtain ⟨h1, h⟩ := ck_e h
  obtain ⟨p2, h3, h⟩ := bd_e h
  refine zx_getR hG fl_X0_70 h1 h3 dX0_canBeginLoad_1 ?_
  refine zx_aload_n dX0_canBeginLoad_4 rfl (q := 1) rfl ?_
  obtain ⟨h4, h⟩ := ck_e h
  obtain ⟨p5, h6, h⟩ := bd_e h
  refine zx_getR hG fl_X0_161 h4 h6 dX0_canBeginLoad_5 ?_
  obtain ⟨h7, h⟩ := ck_e h
  refine zx_getI hG fl_X0_223 h7 dX0_canBeginLoad_8 ?_
  refine zx_bipush (v := 16) dX0_canBeginLoad_11 iv_bipush_16 ?_
  obtain ⟨y8, z9, h⟩ := bd_e h
  refine zx_callS (As := [.int (mI μ p5 0), .int 16]) hG mf_J9_floorMod_7cf53 cs_X0_224 ⟨by decide, by decide⟩ rfl rfl (Nat.le_of_ble_eq_true rfl) (s_J9_floorMod_7cf53 hG _ _ _ _ z9) (Nat.le_of_ble_eq_true rfl) dX0_canBeginLoad_13 ?_
  obtain ⟨h10, h⟩ := ck_e h
  obtain ⟨h11, h⟩ := ck_e h
  refine zx_zald hG rfl (h10).1 (h10).2 (inb_e h11) dX0_canBeginLoad_16 ?_
  by_cases c12 : (zb (mI μ p2 (Int32.toNatClampNeg y8))) = 0
  · have h := it_t c12 h
    refine zx_if_eq_t (tgt := 30) dX0_canBeginLoad_17 (by decide) c12 ?_
    exact s_X0_canBeginLoad_b30 hG _ _ _ _ _ _ h
  · have h := it_f c12 h
    refine zx_if_eq_f (tgt := 30) dX0_canBeginLoad_17 (by decide) c12 ?_
    refine zx_aload_n dX0_canBeginLoad_20 rfl (q := 0) rfl ?_
    refine zx_iload_n dX0_canBeginLoad_21 rfl (q := 2) rfl ?_
    obtain ⟨y13, z14, h⟩ := bd_e h
    refine zx_callV (As := [.int x2]) hG mf_X0_isStoreOpenBefore cv_X0_367 h1 ⟨by decide, by decide⟩ rfl rfl (Nat.le_of_ble_eq_true rfl) (s_X0_isStoreOpenBefore hG _ _ _ _ z14) (Nat.le_of_ble_eq_true rfl) dX0_canBeginLoad_22 ?_
    by_cases c15 : y13 = 0
    · have h := it_t c15 h
      refine zx_if_eq_t (tgt := 30) dX0_canBeginLoad_25 (by decide) c15 ?_
      exact s_X0_canBeginLoad_b30 hG _ _ _ _ _ _ h
    · have h := it_f c15 h
      refine zx_if_eq_f (tgt := 30) dX0_canBeginLoad_25 (by decide) c15 ?_
      refine zx_iconst (v := 0) dX0_canBeginLoad_28 iv_iconst_0 ?_
      cases h
      exact zx_zretZ dX0_canBeginLoad_29 rfl zb_0
