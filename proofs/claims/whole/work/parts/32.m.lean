theorem dX11_isAlone_0 : decode cX11_isAlone 0 = .ok (.iload_n 0, 1) := by decide +kernel
theorem dX11_isAlone_1 : decode cX11_isAlone 1 = .ok (.bipush 19, 2) := by decide +kernel
theorem dX11_isAlone_3 : decode cX11_isAlone 3 = .ok (.if_icmp .eq 9, 3) := by decide +kernel
theorem dX11_isAlone_6 : decode cX11_isAlone 6 = .ok (.iload_n 0, 1) := by decide +kernel
theorem dX11_isAlone_7 : decode cX11_isAlone 7 = .ok (.bipush 21, 2) := by decide +kernel
theorem dX11_isAlone_9 : decode cX11_isAlone 9 = .ok (.if_icmp .ne 7, 3) := by decide +kernel
theorem dX11_isAlone_12 : decode cX11_isAlone 12 = .ok (.iconst 1, 1) := by decide +kernel
theorem dX11_isAlone_13 : decode cX11_isAlone 13 = .ok (.goto 4, 3) := by decide +kernel
theorem dX11_isAlone_16 : decode cX11_isAlone 16 = .ok (.iconst 0, 1) := by decide +kernel
theorem dX11_isAlone_17 : decode cX11_isAlone 17 = .ok (.ireturn, 1) := by decide +kernel
theorem dX11_inQueueNow_0 : decode cX11_inQueueNow 0 = .ok (.iconst 0, 1) := by decide +kernel
theorem dX11_inQueueNow_1 : decode cX11_inQueueNow 1 = .ok (.istore_n 1, 1) := by decide +kernel
theorem dX11_inQueueNow_2 : decode cX11_inQueueNow 2 = .ok (.iconst 0, 1) := by decide +kernel
theorem dX11_inQueueNow_3 : decode cX11_inQueueNow 3 = .ok (.istore_n 2, 1) := by decide +kernel
theorem dX11_inQueueNow_4 : decode cX11_inQueueNow 4 = .ok (.iload_n 2, 1) := by decide +kernel
theorem dX11_inQueueNow_5 : decode cX11_inQueueNow 5 = .ok (.aload_n 0, 1) := by decide +kernel
theorem dX11_inQueueNow_6 : decode cX11_inQueueNow 6 = .ok (.getfield 198, 3) := by decide +kernel
theorem dX11_inQueueNow_9 : decode cX11_inQueueNow 9 = .ok (.if_icmp .ge 31, 3) := by decide +kernel
theorem dX11_inQueueNow_12 : decode cX11_inQueueNow 12 = .ok (.iload_n 1, 1) := by decide +kernel
theorem dX11_inQueueNow_13 : decode cX11_inQueueNow 13 = .ok (.aload_n 0, 1) := by decide +kernel
theorem dX11_inQueueNow_14 : decode cX11_inQueueNow 14 = .ok (.getfield 74, 3) := by decide +kernel
theorem dX11_inQueueNow_17 : decode cX11_inQueueNow 17 = .ok (.iload_n 2, 1) := by decide +kernel
theorem dX11_inQueueNow_18 : decode cX11_inQueueNow 18 = .ok (.aaload, 1) := by decide +kernel
theorem dX11_inQueueNow_19 : decode cX11_inQueueNow 19 = .ok (.bipush 11, 2) := by decide +kernel
theorem dX11_inQueueNow_21 : decode cX11_inQueueNow 21 = .ok (.iaload, 1) := by decide +kernel
theorem dX11_inQueueNow_22 : decode cX11_inQueueNow 22 = .ok (.bipush 113, 2) := by decide +kernel
theorem dX11_inQueueNow_24 : decode cX11_inQueueNow 24 = .ok (.if_icmp .ne 7, 3) := by decide +kernel
theorem dX11_inQueueNow_27 : decode cX11_inQueueNow 27 = .ok (.iconst 1, 1) := by decide +kernel
theorem dX11_inQueueNow_28 : decode cX11_inQueueNow 28 = .ok (.goto 4, 3) := by decide +kernel
theorem dX11_inQueueNow_31 : decode cX11_inQueueNow 31 = .ok (.iconst 0, 1) := by decide +kernel
theorem dX11_inQueueNow_32 : decode cX11_inQueueNow 32 = .ok (.iadd, 1) := by decide +kernel
theorem dX11_inQueueNow_33 : decode cX11_inQueueNow 33 = .ok (.istore_n 1, 1) := by decide +kernel
theorem dX11_inQueueNow_34 : decode cX11_inQueueNow 34 = .ok (.iinc 2 1, 3) := by decide +kernel
theorem dX11_inQueueNow_37 : decode cX11_inQueueNow 37 = .ok (.goto (-33), 3) := by decide +kernel
theorem dX11_inQueueNow_40 : decode cX11_inQueueNow 40 = .ok (.iload_n 1, 1) := by decide +kernel
theorem dX11_inQueueNow_41 : decode cX11_inQueueNow 41 = .ok (.ireturn, 1) := by decide +kernel
theorem dX11_canRename_0 : decode cX11_canRename 0 = .ok (.iconst 0, 1) := by decide +kernel
theorem dX11_canRename_1 : decode cX11_canRename 1 = .ok (.istore_n 2, 1) := by decide +kernel
theorem dX11_canRename_2 : decode cX11_canRename 2 = .ok (.iconst 0, 1) := by decide +kernel
theorem dX11_canRename_3 : decode cX11_canRename 3 = .ok (.istore_n 3, 1) := by decide +kernel
theorem dX11_canRename_4 : decode cX11_canRename 4 = .ok (.iload_n 3, 1) := by decide +kernel
theorem dX11_canRename_5 : decode cX11_canRename 5 = .ok (.aload_n 0, 1) := by decide +kernel
theorem dX11_canRename_6 : decode cX11_canRename 6 = .ok (.getfield 198, 3) := by decide +kernel
theorem dX11_canRename_9 : decode cX11_canRename 9 = .ok (.if_icmp .ge 35, 3) := by decide +kernel
theorem dX11_canRename_12 : decode cX11_canRename 12 = .ok (.iload_n 2, 1) := by decide +kernel
theorem dX11_canRename_13 : decode cX11_canRename 13 = .ok (.ifCond .ne 19, 3) := by decide +kernel
theorem dX11_canRename_16 : decode cX11_canRename 16 = .ok (.aload_n 0, 1) := by decide +kernel
theorem dX11_canRename_17 : decode cX11_canRename 17 = .ok (.aload_n 0, 1) := by decide +kernel
theorem dX11_canRename_18 : decode cX11_canRename 18 = .ok (.getfield 74, 3) := by decide +kernel
theorem dX11_canRename_21 : decode cX11_canRename 21 = .ok (.iload_n 3, 1) := by decide +kernel
theorem dX11_canRename_22 : decode cX11_canRename 22 = .ok (.aaload, 1) := by decide +kernel
theorem dX11_canRename_23 : decode cX11_canRename 23 = .ok (.invokevirtual 201, 3) := by decide +kernel
theorem dX11_canRename_26 : decode cX11_canRename 26 = .ok (.invokestatic 205, 3) := by decide +kernel
theorem dX11_canRename_29 : decode cX11_canRename 29 = .ok (.ifCond .eq 7, 3) := by decide +kernel
theorem dX11_canRename_32 : decode cX11_canRename 32 = .ok (.iconst 1, 1) := by decide +kernel
theorem dX11_canRename_33 : decode cX11_canRename 33 = .ok (.goto 4, 3) := by decide +kernel
theorem dX11_canRename_36 : decode cX11_canRename 36 = .ok (.iconst 0, 1) := by decide +kernel
theorem dX11_canRename_37 : decode cX11_canRename 37 = .ok (.istore_n 2, 1) := by decide +kernel
theorem dX11_canRename_38 : decode cX11_canRename 38 = .ok (.iinc 3 1, 3) := by decide +kernel
theorem dX11_canRename_41 : decode cX11_canRename 41 = .ok (.goto (-37), 3) := by decide +kernel
theorem dX11_canRename_44 : decode cX11_canRename 44 = .ok (.aload_n 0, 1) := by decide +kernel
theorem dX11_canRename_45 : decode cX11_canRename 45 = .ok (.getfield 198, 3) := by decide +kernel
theorem dX11_canRename_48 : decode cX11_canRename 48 = .ok (.aload_n 0, 1) := by decide +kernel
theorem dX11_canRename_49 : decode cX11_canRename 49 = .ok (.getfield 29, 3) := by decide +kernel
theorem dX11_canRename_52 : decode cX11_canRename 52 = .ok (.if_icmp .eq 35, 3) := by decide +kernel
theorem dX11_canRename_55 : decode cX11_canRename 55 = .ok (.iload_n 1, 1) := by decide +kernel
theorem dX11_canRename_56 : decode cX11_canRename 56 = .ok (.invokestatic 209, 3) := by decide +kernel
theorem dX11_canRename_59 : decode cX11_canRename 59 = .ok (.ifCond .eq 10, 3) := by decide +kernel
theorem dX11_canRename_62 : decode cX11_canRename 62 = .ok (.aload_n 0, 1) := by decide +kernel
theorem dX11_canRename_63 : decode cX11_canRename 63 = .ok (.getfield 126, 3) := by decide +kernel
theorem dX11_canRename_66 : decode cX11_canRename 66 = .ok (.ifCond .eq 21, 3) := by decide +kernel
theorem dX11_canRename_69 : decode cX11_canRename 69 = .ok (.iload_n 1, 1) := by decide +kernel
theorem dX11_canRename_70 : decode cX11_canRename 70 = .ok (.invokestatic 212, 3) := by decide +kernel
theorem dX11_canRename_73 : decode cX11_canRename 73 = .ok (.ifCond .eq 18, 3) := by decide +kernel
theorem dX11_canRename_76 : decode cX11_canRename 76 = .ok (.aload_n 0, 1) := by decide +kernel
theorem dX11_canRename_77 : decode cX11_canRename 77 = .ok (.invokevirtual 215, 3) := by decide +kernel
theorem dX11_canRename_80 : decode cX11_canRename 80 = .ok (.aload_n 0, 1) := by decide +kernel
theorem dX11_canRename_81 : decode cX11_canRename 81 = .ok (.getfield 32, 3) := by decide +kernel
theorem dX11_canRename_84 : decode cX11_canRename 84 = .ok (.if_icmp .ne 7, 3) := by decide +kernel
theorem dX11_canRename_87 : decode cX11_canRename 87 = .ok (.iconst 1, 1) := by decide +kernel
theorem dX11_canRename_88 : decode cX11_canRename 88 = .ok (.goto 4, 3) := by decide +kernel
theorem dX11_canRename_91 : decode cX11_canRename 91 = .ok (.iconst 0, 1) := by decide +kernel
theorem dX11_canRename_92 : decode cX11_canRename 92 = .ok (.istore_n 3, 1) := by decide +kernel
theorem dX11_canRename_93 : decode cX11_canRename 93 = .ok (.iload_n 3, 1) := by decide +kernel
theorem dX11_canRename_94 : decode cX11_canRename 94 = .ok (.ifCond .ne 25, 3) := by decide +kernel
theorem dX11_canRename_97 : decode cX11_canRename 97 = .ok (.iload_n 2, 1) := by decide +kernel
theorem dX11_canRename_98 : decode cX11_canRename 98 = .ok (.ifCond .ne 21, 3) := by decide +kernel
theorem dX11_canRename_101 : decode cX11_canRename 101 = .ok (.iload_n 1, 1) := by decide +kernel
theorem dX11_canRename_102 : decode cX11_canRename 102 = .ok (.invokestatic 205, 3) := by decide +kernel
theorem dX11_canRename_105 : decode cX11_canRename 105 = .ok (.ifCond .eq 10, 3) := by decide +kernel
theorem dX11_canRename_108 : decode cX11_canRename 108 = .ok (.aload_n 0, 1) := by decide +kernel
theorem dX11_canRename_109 : decode cX11_canRename 109 = .ok (.getfield 198, 3) := by decide +kernel
theorem dX11_canRename_112 : decode cX11_canRename 112 = .ok (.ifCond .ne 7, 3) := by decide +kernel
theorem dX11_canRename_115 : decode cX11_canRename 115 = .ok (.iconst 1, 1) := by decide +kernel
theorem dX11_canRename_116 : decode cX11_canRename 116 = .ok (.goto 4, 3) := by decide +kernel
theorem dX11_canRename_119 : decode cX11_canRename 119 = .ok (.iconst 0, 1) := by decide +kernel
theorem dX11_canRename_120 : decode cX11_canRename 120 = .ok (.ireturn, 1) := by decide +kernel
theorem dX11_renames_0 : decode cX11_renames 0 = .ok (.iconst 0, 1) := by decide +kernel
theorem dX11_renames_1 : decode cX11_renames 1 = .ok (.istore_n 1, 1) := by decide +kernel
theorem dX11_renames_2 : decode cX11_renames 2 = .ok (.iload_n 1, 1) := by decide +kernel
theorem dX11_renames_3 : decode cX11_renames 3 = .ok (.aload_n 0, 1) := by decide +kernel
theorem dX11_renames_4 : decode cX11_renames 4 = .ok (.getfield 25, 3) := by decide +kernel
theorem dX11_renames_7 : decode cX11_renames 7 = .ok (.if_icmp .ge 418, 3) := by decide +kernel
theorem dX11_renames_10 : decode cX11_renames 10 = .ok (.aload_n 0, 1) := by decide +kernel
theorem dX11_renames_11 : decode cX11_renames 11 = .ok (.getfield 177, 3) := by decide +kernel
theorem dX11_renames_14 : decode cX11_renames 14 = .ok (.ifCond .le 411, 3) := by decide +kernel
theorem dX11_renames_17 : decode cX11_renames 17 = .ok (.aload_n 0, 1) := by decide +kernel
theorem dX11_renames_18 : decode cX11_renames 18 = .ok (.aload_n 0, 1) := by decide +kernel
theorem dX11_renames_19 : decode cX11_renames 19 = .ok (.getfield 9, 3) := by decide +kernel
theorem dX11_renames_22 : decode cX11_renames 22 = .ok (.aload_n 0, 1) := by decide +kernel
theorem dX11_renames_23 : decode cX11_renames 23 = .ok (.getfield 77, 3) := by decide +kernel
theorem dX11_renames_26 : decode cX11_renames 26 = .ok (.iconst 0, 1) := by decide +kernel
theorem dX11_renames_27 : decode cX11_renames 27 = .ok (.aaload, 1) := by decide +kernel
theorem dX11_renames_28 : decode cX11_renames 28 = .ok (.iconst 0, 1) := by decide +kernel
theorem dX11_renames_29 : decode cX11_renames 29 = .ok (.iaload, 1) := by decide +kernel
theorem dX11_renames_30 : decode cX11_renames 30 = .ok (.iaload, 1) := by decide +kernel
theorem dX11_renames_31 : decode cX11_renames 31 = .ok (.invokevirtual 219, 3) := by decide +kernel
theorem dX11_renames_34 : decode cX11_renames 34 = .ok (.ifCond .eq 391, 3) := by decide +kernel
theorem dX11_renames_37 : decode cX11_renames 37 = .ok (.aload_n 0, 1) := by decide +kernel
theorem dX11_renames_38 : decode cX11_renames 38 = .ok (.getfield 74, 3) := by decide +kernel
theorem dX11_renames_41 : decode cX11_renames 41 = .ok (.aload_n 0, 1) := by decide +kernel
theorem dX11_renames_42 : decode cX11_renames 42 = .ok (.getfield 198, 3) := by decide +kernel
theorem dX11_renames_45 : decode cX11_renames 45 = .ok (.aaload, 1) := by decide +kernel
theorem dX11_renames_46 : decode cX11_renames 46 = .ok (.astore_n 2, 1) := by decide +kernel
theorem dX11_renames_47 : decode cX11_renames 47 = .ok (.aload_n 0, 1) := by decide +kernel
theorem dX11_renames_48 : decode cX11_renames 48 = .ok (.dup, 1) := by decide +kernel
theorem dX11_renames_49 : decode cX11_renames 49 = .ok (.getfield 198, 3) := by decide +kernel
theorem dX11_renames_52 : decode cX11_renames 52 = .ok (.iconst 1, 1) := by decide +kernel
theorem dX11_renames_53 : decode cX11_renames 53 = .ok (.iadd, 1) := by decide +kernel
theorem dX11_renames_54 : decode cX11_renames 54 = .ok (.putfield 198, 3) := by decide +kernel
theorem dX11_renames_57 : decode cX11_renames 57 = .ok (.iconst 0, 1) := by decide +kernel
theorem dX11_renames_58 : decode cX11_renames 58 = .ok (.istore_n 3, 1) := by decide +kernel
theorem dX11_renames_59 : decode cX11_renames 59 = .ok (.iload_n 3, 1) := by decide +kernel
theorem dX11_renames_60 : decode cX11_renames 60 = .ok (.bipush 28, 2) := by decide +kernel
theorem dX11_renames_62 : decode cX11_renames 62 = .ok (.if_icmp .ge 20, 3) := by decide +kernel
theorem dX11_renames_65 : decode cX11_renames 65 = .ok (.aload_n 2, 1) := by decide +kernel
theorem dX11_renames_66 : decode cX11_renames 66 = .ok (.iload_n 3, 1) := by decide +kernel
theorem dX11_renames_67 : decode cX11_renames 67 = .ok (.aload_n 0, 1) := by decide +kernel
theorem dX11_renames_68 : decode cX11_renames 68 = .ok (.getfield 77, 3) := by decide +kernel
theorem dX11_renames_71 : decode cX11_renames 71 = .ok (.iconst 0, 1) := by decide +kernel
theorem dX11_renames_72 : decode cX11_renames 72 = .ok (.aaload, 1) := by decide +kernel
theorem dX11_renames_73 : decode cX11_renames 73 = .ok (.iload_n 3, 1) := by decide +kernel
theorem dX11_renames_74 : decode cX11_renames 74 = .ok (.iaload, 1) := by decide +kernel
theorem dX11_renames_75 : decode cX11_renames 75 = .ok (.iastore, 1) := by decide +kernel
theorem dX11_renames_76 : decode cX11_renames 76 = .ok (.iinc 3 1, 3) := by decide +kernel
theorem dX11_renames_79 : decode cX11_renames 79 = .ok (.goto (-20), 3) := by decide +kernel
theorem dX11_renames_82 : decode cX11_renames 82 = .ok (.aload_n 0, 1) := by decide +kernel
theorem dX11_renames_83 : decode cX11_renames 83 = .ok (.dup, 1) := by decide +kernel
theorem dX11_renames_84 : decode cX11_renames 84 = .ok (.getfield 177, 3) := by decide +kernel
theorem dX11_renames_87 : decode cX11_renames 87 = .ok (.iconst 1, 1) := by decide +kernel
theorem dX11_renames_88 : decode cX11_renames 88 = .ok (.isub, 1) := by decide +kernel
theorem dX11_renames_89 : decode cX11_renames 89 = .ok (.putfield 177, 3) := by decide +kernel
theorem dX11_renames_92 : decode cX11_renames 92 = .ok (.iconst 0, 1) := by decide +kernel
theorem dX11_renames_93 : decode cX11_renames 93 = .ok (.istore_n 3, 1) := by decide +kernel
theorem dX11_renames_94 : decode cX11_renames 94 = .ok (.iload_n 3, 1) := by decide +kernel
theorem dX11_renames_95 : decode cX11_renames 95 = .ok (.aload_n 0, 1) := by decide +kernel
theorem dX11_renames_96 : decode cX11_renames 96 = .ok (.getfield 177, 3) := by decide +kernel
theorem dX11_renames_99 : decode cX11_renames 99 = .ok (.if_icmp .ge 45, 3) := by decide +kernel
theorem dX11_renames_102 : decode cX11_renames 102 = .ok (.iconst 0, 1) := by decide +kernel
theorem dX11_renames_103 : decode cX11_renames 103 = .ok (.istore 4, 2) := by decide +kernel
theorem dX11_renames_105 : decode cX11_renames 105 = .ok (.iload 4, 2) := by decide +kernel
theorem dX11_renames_107 : decode cX11_renames 107 = .ok (.bipush 28, 2) := by decide +kernel
theorem dX11_renames_109 : decode cX11_renames 109 = .ok (.if_icmp .ge 29, 3) := by decide +kernel
theorem dX11_renames_112 : decode cX11_renames 112 = .ok (.aload_n 0, 1) := by decide +kernel
theorem dX11_renames_113 : decode cX11_renames 113 = .ok (.getfield 77, 3) := by decide +kernel
theorem dX11_renames_116 : decode cX11_renames 116 = .ok (.iload_n 3, 1) := by decide +kernel
theorem dX11_renames_117 : decode cX11_renames 117 = .ok (.aaload, 1) := by decide +kernel
theorem dX11_renames_118 : decode cX11_renames 118 = .ok (.iload 4, 2) := by decide +kernel
theorem dX11_renames_120 : decode cX11_renames 120 = .ok (.aload_n 0, 1) := by decide +kernel
theorem dX11_renames_121 : decode cX11_renames 121 = .ok (.getfield 77, 3) := by decide +kernel
theorem dX11_renames_124 : decode cX11_renames 124 = .ok (.iload_n 3, 1) := by decide +kernel
theorem dX11_renames_125 : decode cX11_renames 125 = .ok (.iconst 1, 1) := by decide +kernel
theorem dX11_renames_126 : decode cX11_renames 126 = .ok (.iadd, 1) := by decide +kernel
theorem dX11_renames_127 : decode cX11_renames 127 = .ok (.aaload, 1) := by decide +kernel
theorem dX11_renames_128 : decode cX11_renames 128 = .ok (.iload 4, 2) := by decide +kernel
theorem dX11_renames_130 : decode cX11_renames 130 = .ok (.iaload, 1) := by decide +kernel
theorem dX11_renames_131 : decode cX11_renames 131 = .ok (.iastore, 1) := by decide +kernel
theorem dX11_renames_132 : decode cX11_renames 132 = .ok (.iinc 4 1, 3) := by decide +kernel
theorem dX11_renames_135 : decode cX11_renames 135 = .ok (.goto (-30), 3) := by decide +kernel
theorem dX11_renames_138 : decode cX11_renames 138 = .ok (.iinc 3 1, 3) := by decide +kernel
theorem dX11_renames_141 : decode cX11_renames 141 = .ok (.goto (-47), 3) := by decide +kernel
theorem dX11_renames_144 : decode cX11_renames 144 = .ok (.aload_n 2, 1) := by decide +kernel
theorem dX11_renames_145 : decode cX11_renames 145 = .ok (.iconst 0, 1) := by decide +kernel
theorem dX11_renames_146 : decode cX11_renames 146 = .ok (.iaload, 1) := by decide +kernel
theorem dX11_renames_147 : decode cX11_renames 147 = .ok (.istore_n 3, 1) := by decide +kernel
theorem dX11_renames_148 : decode cX11_renames 148 = .ok (.aload_n 0, 1) := by decide +kernel
theorem dX11_renames_149 : decode cX11_renames 149 = .ok (.getfield 9, 3) := by decide +kernel
theorem dX11_renames_152 : decode cX11_renames 152 = .ok (.iload_n 3, 1) := by decide +kernel
theorem dX11_renames_153 : decode cX11_renames 153 = .ok (.iaload, 1) := by decide +kernel
theorem dX11_renames_154 : decode cX11_renames 154 = .ok (.istore 4, 2) := by decide +kernel
theorem dX11_renames_156 : decode cX11_renames 156 = .ok (.aload_n 2, 1) := by decide +kernel
theorem dX11_renames_157 : decode cX11_renames 157 = .ok (.iconst 2, 1) := by decide +kernel
theorem dX11_renames_158 : decode cX11_renames 158 = .ok (.aload_n 0, 1) := by decide +kernel
theorem dX11_renames_159 : decode cX11_renames 159 = .ok (.getfield 133, 3) := by decide +kernel
theorem dX11_renames_162 : decode cX11_renames 162 = .ok (.iastore, 1) := by decide +kernel
theorem dX11_renames_163 : decode cX11_renames 163 = .ok (.aload_n 2, 1) := by decide +kernel
theorem dX11_renames_164 : decode cX11_renames 164 = .ok (.bipush 7, 2) := by decide +kernel
theorem dX11_renames_166 : decode cX11_renames 166 = .ok (.aload_n 0, 1) := by decide +kernel
theorem dX11_renames_167 : decode cX11_renames 167 = .ok (.getfield 56, 3) := by decide +kernel
theorem dX11_renames_170 : decode cX11_renames 170 = .ok (.aload_n 0, 1) := by decide +kernel
theorem dX11_renames_171 : decode cX11_renames 171 = .ok (.getfield 16, 3) := by decide +kernel
theorem dX11_renames_174 : decode cX11_renames 174 = .ok (.iload_n 3, 1) := by decide +kernel
theorem dX11_renames_175 : decode cX11_renames 175 = .ok (.iaload, 1) := by decide +kernel
theorem dX11_renames_176 : decode cX11_renames 176 = .ok (.iaload, 1) := by decide +kernel
theorem dX11_renames_177 : decode cX11_renames 177 = .ok (.iastore, 1) := by decide +kernel
theorem dX11_renames_178 : decode cX11_renames 178 = .ok (.aload_n 2, 1) := by decide +kernel
theorem dX11_renames_179 : decode cX11_renames 179 = .ok (.bipush 8, 2) := by decide +kernel
theorem dX11_renames_181 : decode cX11_renames 181 = .ok (.aload_n 0, 1) := by decide +kernel
theorem dX11_renames_182 : decode cX11_renames 182 = .ok (.getfield 56, 3) := by decide +kernel
theorem dX11_renames_185 : decode cX11_renames 185 = .ok (.aload_n 0, 1) := by decide +kernel
theorem dX11_renames_186 : decode cX11_renames 186 = .ok (.getfield 19, 3) := by decide +kernel
theorem dX11_renames_189 : decode cX11_renames 189 = .ok (.iload_n 3, 1) := by decide +kernel
theorem dX11_renames_190 : decode cX11_renames 190 = .ok (.iaload, 1) := by decide +kernel
theorem dX11_renames_191 : decode cX11_renames 191 = .ok (.iaload, 1) := by decide +kernel
theorem dX11_renames_192 : decode cX11_renames 192 = .ok (.iastore, 1) := by decide +kernel
theorem dX11_renames_193 : decode cX11_renames 193 = .ok (.aload_n 2, 1) := by decide +kernel
theorem dX11_renames_194 : decode cX11_renames 194 = .ok (.bipush 16, 2) := by decide +kernel
theorem dX11_renames_196 : decode cX11_renames 196 = .ok (.iconst (-1), 1) := by decide +kernel
theorem dX11_renames_197 : decode cX11_renames 197 = .ok (.iastore, 1) := by decide +kernel
theorem dX11_renames_198 : decode cX11_renames 198 = .ok (.aload_n 2, 1) := by decide +kernel
theorem dX11_renames_199 : decode cX11_renames 199 = .ok (.bipush 14, 2) := by decide +kernel
theorem dX11_renames_201 : decode cX11_renames 201 = .ok (.iconst (-1), 1) := by decide +kernel
theorem dX11_renames_202 : decode cX11_renames 202 = .ok (.iastore, 1) := by decide +kernel
theorem dX11_renames_203 : decode cX11_renames 203 = .ok (.aload_n 2, 1) := by decide +kernel
theorem dX11_renames_204 : decode cX11_renames 204 = .ok (.bipush 6, 2) := by decide +kernel
theorem dX11_renames_206 : decode cX11_renames 206 = .ok (.iload 4, 2) := by decide +kernel
theorem dX11_renames_208 : decode cX11_renames 208 = .ok (.bipush 14, 2) := by decide +kernel
theorem dX11_renames_210 : decode cX11_renames 210 = .ok (.if_icmp .eq 10, 3) := by decide +kernel
theorem dX11_renames_213 : decode cX11_renames 213 = .ok (.iload 4, 2) := by decide +kernel
theorem dX11_renames_215 : decode cX11_renames 215 = .ok (.bipush 15, 2) := by decide +kernel
theorem dX11_renames_217 : decode cX11_renames 217 = .ok (.if_icmp .ne 12, 3) := by decide +kernel
theorem dX11_renames_220 : decode cX11_renames 220 = .ok (.aload_n 0, 1) := by decide +kernel
theorem dX11_renames_221 : decode cX11_renames 221 = .ok (.getfield 22, 3) := by decide +kernel
theorem dX11_renames_224 : decode cX11_renames 224 = .ok (.iload_n 3, 1) := by decide +kernel
theorem dX11_renames_225 : decode cX11_renames 225 = .ok (.iaload, 1) := by decide +kernel
theorem dX11_renames_226 : decode cX11_renames 226 = .ok (.goto 6, 3) := by decide +kernel
theorem dX11_renames_229 : decode cX11_renames 229 = .ok (.iload_n 3, 1) := by decide +kernel
theorem dX11_renames_230 : decode cX11_renames 230 = .ok (.iconst 1, 1) := by decide +kernel
theorem dX11_renames_231 : decode cX11_renames 231 = .ok (.iadd, 1) := by decide +kernel
theorem dX11_renames_232 : decode cX11_renames 232 = .ok (.iastore, 1) := by decide +kernel
theorem dX11_renames_233 : decode cX11_renames 233 = .ok (.aload_n 2, 1) := by decide +kernel
theorem dX11_renames_234 : decode cX11_renames 234 = .ok (.bipush 13, 2) := by decide +kernel
theorem dX11_renames_236 : decode cX11_renames 236 = .ok (.iload 4, 2) := by decide +kernel
theorem dX11_renames_238 : decode cX11_renames 238 = .ok (.bipush 20, 2) := by decide +kernel
theorem dX11_renames_240 : decode cX11_renames 240 = .ok (.if_icmp .ne 7, 3) := by decide +kernel
theorem dX11_renames_243 : decode cX11_renames 243 = .ok (.iconst 4, 1) := by decide +kernel
theorem dX11_renames_244 : decode cX11_renames 244 = .ok (.goto 4, 3) := by decide +kernel
theorem dX11_renames_247 : decode cX11_renames 247 = .ok (.iconst 0, 1) := by decide +kernel
theorem dX11_renames_248 : decode cX11_renames 248 = .ok (.iastore, 1) := by decide +kernel
theorem dX11_renames_249 : decode cX11_renames 249 = .ok (.iload 4, 2) := by decide +kernel
theorem dX11_renames_251 : decode cX11_renames 251 = .ok (.invokestatic 209, 3) := by decide +kernel
theorem dX11_renames_254 : decode cX11_renames 254 = .ok (.ifCond .eq 139, 3) := by decide +kernel
theorem dX11_renames_257 : decode cX11_renames 257 = .ok (.aload_n 2, 1) := by decide +kernel
theorem dX11_renames_258 : decode cX11_renames 258 = .ok (.bipush 9, 2) := by decide +kernel
theorem dX11_renames_260 : decode cX11_renames 260 = .ok (.aload_n 0, 1) := by decide +kernel
theorem dX11_renames_261 : decode cX11_renames 261 = .ok (.getfield 69, 3) := by decide +kernel
theorem dX11_renames_264 : decode cX11_renames 264 = .ok (.iconst 0, 1) := by decide +kernel
theorem dX11_renames_265 : decode cX11_renames 265 = .ok (.iaload, 1) := by decide +kernel
theorem dX11_renames_266 : decode cX11_renames 266 = .ok (.iastore, 1) := by decide +kernel
theorem dX11_renames_267 : decode cX11_renames 267 = .ok (.aload_n 0, 1) := by decide +kernel
theorem dX11_renames_268 : decode cX11_renames 268 = .ok (.dup, 1) := by decide +kernel
theorem dX11_renames_269 : decode cX11_renames 269 = .ok (.getfield 126, 3) := by decide +kernel
theorem dX11_renames_272 : decode cX11_renames 272 = .ok (.iconst 1, 1) := by decide +kernel
theorem dX11_renames_273 : decode cX11_renames 273 = .ok (.isub, 1) := by decide +kernel
theorem dX11_renames_274 : decode cX11_renames 274 = .ok (.putfield 126, 3) := by decide +kernel
theorem dX11_renames_277 : decode cX11_renames 277 = .ok (.iconst 0, 1) := by decide +kernel
theorem dX11_renames_278 : decode cX11_renames 278 = .ok (.istore 5, 2) := by decide +kernel
theorem dX11_renames_280 : decode cX11_renames 280 = .ok (.iload 5, 2) := by decide +kernel
theorem dX11_renames_282 : decode cX11_renames 282 = .ok (.aload_n 0, 1) := by decide +kernel
theorem dX11_renames_283 : decode cX11_renames 283 = .ok (.getfield 126, 3) := by decide +kernel
theorem dX11_renames_286 : decode cX11_renames 286 = .ok (.if_icmp .ge 25, 3) := by decide +kernel
theorem dX11_renames_289 : decode cX11_renames 289 = .ok (.aload_n 0, 1) := by decide +kernel
theorem dX11_renames_290 : decode cX11_renames 290 = .ok (.getfield 69, 3) := by decide +kernel
theorem dX11_renames_293 : decode cX11_renames 293 = .ok (.iload 5, 2) := by decide +kernel
theorem dX11_renames_295 : decode cX11_renames 295 = .ok (.aload_n 0, 1) := by decide +kernel
theorem dX11_renames_296 : decode cX11_renames 296 = .ok (.getfield 69, 3) := by decide +kernel
theorem dX11_renames_299 : decode cX11_renames 299 = .ok (.iload 5, 2) := by decide +kernel
theorem dX11_renames_301 : decode cX11_renames 301 = .ok (.iconst 1, 1) := by decide +kernel
theorem dX11_renames_302 : decode cX11_renames 302 = .ok (.iadd, 1) := by decide +kernel
theorem dX11_renames_303 : decode cX11_renames 303 = .ok (.iaload, 1) := by decide +kernel
theorem dX11_renames_304 : decode cX11_renames 304 = .ok (.iastore, 1) := by decide +kernel
theorem dX11_renames_305 : decode cX11_renames 305 = .ok (.iinc 5 1, 3) := by decide +kernel
theorem dX11_renames_308 : decode cX11_renames 308 = .ok (.goto (-28), 3) := by decide +kernel
theorem dX11_renames_311 : decode cX11_renames 311 = .ok (.aload_n 2, 1) := by decide +kernel
theorem dX11_renames_312 : decode cX11_renames 312 = .ok (.bipush 10, 2) := by decide +kernel
theorem dX11_renames_314 : decode cX11_renames 314 = .ok (.aload_n 0, 1) := by decide +kernel
theorem dX11_renames_315 : decode cX11_renames 315 = .ok (.getfield 56, 3) := by decide +kernel
theorem dX11_renames_318 : decode cX11_renames 318 = .ok (.aload_n 0, 1) := by decide +kernel
theorem dX11_renames_319 : decode cX11_renames 319 = .ok (.getfield 13, 3) := by decide +kernel
theorem dX11_renames_322 : decode cX11_renames 322 = .ok (.iload_n 3, 1) := by decide +kernel
theorem dX11_renames_323 : decode cX11_renames 323 = .ok (.iaload, 1) := by decide +kernel
theorem dX11_renames_324 : decode cX11_renames 324 = .ok (.iaload, 1) := by decide +kernel
theorem dX11_renames_325 : decode cX11_renames 325 = .ok (.iastore, 1) := by decide +kernel
theorem dX11_renames_326 : decode cX11_renames 326 = .ok (.aload_n 0, 1) := by decide +kernel
theorem dX11_renames_327 : decode cX11_renames 327 = .ok (.getfield 56, 3) := by decide +kernel
theorem dX11_renames_330 : decode cX11_renames 330 = .ok (.aload_n 0, 1) := by decide +kernel
theorem dX11_renames_331 : decode cX11_renames 331 = .ok (.getfield 13, 3) := by decide +kernel
theorem dX11_renames_334 : decode cX11_renames 334 = .ok (.iload_n 3, 1) := by decide +kernel
theorem dX11_renames_335 : decode cX11_renames 335 = .ok (.iaload, 1) := by decide +kernel
theorem dX11_renames_336 : decode cX11_renames 336 = .ok (.aload_n 2, 1) := by decide +kernel
theorem dX11_renames_337 : decode cX11_renames 337 = .ok (.bipush 9, 2) := by decide +kernel
theorem dX11_renames_339 : decode cX11_renames 339 = .ok (.iaload, 1) := by decide +kernel
theorem dX11_renames_340 : decode cX11_renames 340 = .ok (.iastore, 1) := by decide +kernel
theorem dX11_renames_341 : decode cX11_renames 341 = .ok (.aload_n 0, 1) := by decide +kernel
theorem dX11_renames_342 : decode cX11_renames 342 = .ok (.getfield 65, 3) := by decide +kernel
theorem dX11_renames_345 : decode cX11_renames 345 = .ok (.aload_n 2, 1) := by decide +kernel
theorem dX11_renames_346 : decode cX11_renames 346 = .ok (.bipush 9, 2) := by decide +kernel
theorem dX11_renames_348 : decode cX11_renames 348 = .ok (.iaload, 1) := by decide +kernel
theorem dX11_renames_349 : decode cX11_renames 349 = .ok (.iload 4, 2) := by decide +kernel
theorem dX11_renames_351 : decode cX11_renames 351 = .ok (.bipush 15, 2) := by decide +kernel
theorem dX11_renames_353 : decode cX11_renames 353 = .ok (.if_icmp .ne 7, 3) := by decide +kernel
theorem dX11_renames_356 : decode cX11_renames 356 = .ok (.iconst 1, 1) := by decide +kernel
theorem dX11_renames_357 : decode cX11_renames 357 = .ok (.goto 4, 3) := by decide +kernel
theorem dX11_renames_360 : decode cX11_renames 360 = .ok (.iconst 0, 1) := by decide +kernel
theorem dX11_renames_361 : decode cX11_renames 361 = .ok (.bastore, 1) := by decide +kernel
theorem dX11_renames_362 : decode cX11_renames 362 = .ok (.aload_n 0, 1) := by decide +kernel
theorem dX11_renames_363 : decode cX11_renames 363 = .ok (.getfield 62, 3) := by decide +kernel
theorem dX11_renames_366 : decode cX11_renames 366 = .ok (.aload_n 2, 1) := by decide +kernel
theorem dX11_renames_367 : decode cX11_renames 367 = .ok (.bipush 9, 2) := by decide +kernel
theorem dX11_renames_369 : decode cX11_renames 369 = .ok (.iaload, 1) := by decide +kernel
theorem dX11_renames_370 : decode cX11_renames 370 = .ok (.iload 4, 2) := by decide +kernel
theorem dX11_renames_372 : decode cX11_renames 372 = .ok (.bipush 15, 2) := by decide +kernel
theorem dX11_renames_374 : decode cX11_renames 374 = .ok (.if_icmp .ne 9, 3) := by decide +kernel
theorem dX11_renames_377 : decode cX11_renames 377 = .ok (.iload_n 3, 1) := by decide +kernel
theorem dX11_renames_378 : decode cX11_renames 378 = .ok (.iconst 1, 1) := by decide +kernel
theorem dX11_renames_379 : decode cX11_renames 379 = .ok (.iadd, 1) := by decide +kernel
theorem dX11_renames_380 : decode cX11_renames 380 = .ok (.goto 12, 3) := by decide +kernel
theorem dX11_renames_383 : decode cX11_renames 383 = .ok (.aload_n 0, 1) := by decide +kernel
theorem dX11_renames_384 : decode cX11_renames 384 = .ok (.getfield 62, 3) := by decide +kernel
theorem dX11_renames_387 : decode cX11_renames 387 = .ok (.aload_n 2, 1) := by decide +kernel
theorem dX11_renames_388 : decode cX11_renames 388 = .ok (.bipush 9, 2) := by decide +kernel
theorem dX11_renames_390 : decode cX11_renames 390 = .ok (.iaload, 1) := by decide +kernel
theorem dX11_renames_391 : decode cX11_renames 391 = .ok (.iaload, 1) := by decide +kernel
theorem dX11_renames_392 : decode cX11_renames 392 = .ok (.iastore, 1) := by decide +kernel
theorem dX11_renames_393 : decode cX11_renames 393 = .ok (.aload_n 2, 1) := by decide +kernel
theorem dX11_renames_394 : decode cX11_renames 394 = .ok (.bipush 11, 2) := by decide +kernel
theorem dX11_renames_396 : decode cX11_renames 396 = .ok (.iload 4, 2) := by decide +kernel
theorem dX11_renames_398 : decode cX11_renames 398 = .ok (.invokestatic 212, 3) := by decide +kernel
theorem dX11_renames_401 : decode cX11_renames 401 = .ok (.ifCond .eq 8, 3) := by decide +kernel
theorem dX11_renames_404 : decode cX11_renames 404 = .ok (.bipush 113, 2) := by decide +kernel
theorem dX11_renames_406 : decode cX11_renames 406 = .ok (.goto 5, 3) := by decide +kernel
theorem dX11_renames_409 : decode cX11_renames 409 = .ok (.bipush 101, 2) := by decide +kernel
theorem dX11_renames_411 : decode cX11_renames 411 = .ok (.iastore, 1) := by decide +kernel
theorem dX11_renames_412 : decode cX11_renames 412 = .ok (.aload_n 2, 1) := by decide +kernel
theorem dX11_renames_413 : decode cX11_renames 413 = .ok (.iconst 4, 1) := by decide +kernel
theorem dX11_renames_414 : decode cX11_renames 414 = .ok (.aload_n 0, 1) := by decide +kernel
theorem dX11_renames_415 : decode cX11_renames 415 = .ok (.getfield 133, 3) := by decide +kernel
theorem dX11_renames_418 : decode cX11_renames 418 = .ok (.iastore, 1) := by decide +kernel
theorem dX11_renames_419 : decode cX11_renames 419 = .ok (.iinc 1 1, 3) := by decide +kernel
theorem dX11_renames_422 : decode cX11_renames 422 = .ok (.goto (-420), 3) := by decide +kernel
theorem dX11_renames_425 : decode cX11_renames 425 = .ok (.return_, 1) := by decide +kernel
theorem dX11_keepsStack_0 : decode cX11_keepsStack 0 = .ok (.iconst 0, 1) := by decide +kernel
theorem dX11_keepsStack_1 : decode cX11_keepsStack 1 = .ok (.istore_n 3, 1) := by decide +kernel
theorem dX11_keepsStack_2 : decode cX11_keepsStack 2 = .ok (.iload_n 3, 1) := by decide +kernel
theorem dX11_keepsStack_3 : decode cX11_keepsStack 3 = .ok (.iconst 4, 1) := by decide +kernel
theorem dX11_keepsStack_4 : decode cX11_keepsStack 4 = .ok (.if_icmp .gt 20, 3) := by decide +kernel
theorem dX11_keepsStack_7 : decode cX11_keepsStack 7 = .ok (.aload_n 1, 1) := by decide +kernel
theorem dX11_keepsStack_8 : decode cX11_keepsStack 8 = .ok (.iload_n 2, 1) := by decide +kernel
theorem dX11_keepsStack_9 : decode cX11_keepsStack 9 = .ok (.iload_n 3, 1) := by decide +kernel
theorem dX11_keepsStack_10 : decode cX11_keepsStack 10 = .ok (.iadd, 1) := by decide +kernel
theorem dX11_keepsStack_11 : decode cX11_keepsStack 11 = .ok (.aload_n 0, 1) := by decide +kernel
theorem dX11_keepsStack_12 : decode cX11_keepsStack 12 = .ok (.getfield 80, 3) := by decide +kernel
theorem dX11_keepsStack_15 : decode cX11_keepsStack 15 = .ok (.iload_n 3, 1) := by decide +kernel
theorem dX11_keepsStack_16 : decode cX11_keepsStack 16 = .ok (.iaload, 1) := by decide +kernel
theorem dX11_keepsStack_17 : decode cX11_keepsStack 17 = .ok (.iastore, 1) := by decide +kernel
theorem dX11_keepsStack_18 : decode cX11_keepsStack 18 = .ok (.iinc 3 1, 3) := by decide +kernel
theorem dX11_keepsStack_21 : decode cX11_keepsStack 21 = .ok (.goto (-19), 3) := by decide +kernel
theorem dX11_keepsStack_24 : decode cX11_keepsStack 24 = .ok (.return_, 1) := by decide +kernel
theorem dX11_guess_0 : decode cX11_guess 0 = .ok (.aload_n 0, 1) := by decide +kernel
theorem dX11_guess_1 : decode cX11_guess 1 = .ok (.getfield 9, 3) := by decide +kernel
theorem dX11_guess_4 : decode cX11_guess 4 = .ok (.iload_n 1, 1) := by decide +kernel
theorem dX11_guess_5 : decode cX11_guess 5 = .ok (.iaload, 1) := by decide +kernel
theorem dX11_guess_6 : decode cX11_guess 6 = .ok (.istore_n 2, 1) := by decide +kernel
theorem dX11_guess_7 : decode cX11_guess 7 = .ok (.iload_n 2, 1) := by decide +kernel
theorem dX11_guess_8 : decode cX11_guess 8 = .ok (.bipush 12, 2) := by decide +kernel
theorem dX11_guess_10 : decode cX11_guess 10 = .ok (.if_icmp .eq 9, 3) := by decide +kernel
theorem dX11_guess_13 : decode cX11_guess 13 = .ok (.iload_n 2, 1) := by decide +kernel
theorem dX11_guess_14 : decode cX11_guess 14 = .ok (.bipush 13, 2) := by decide +kernel
theorem dX11_guess_16 : decode cX11_guess 16 = .ok (.if_icmp .ne 29, 3) := by decide +kernel
theorem dX11_guess_19 : decode cX11_guess 19 = .ok (.aload_n 0, 1) := by decide +kernel
theorem dX11_guess_20 : decode cX11_guess 20 = .ok (.getfield 83, 3) := by decide +kernel
theorem dX11_guess_23 : decode cX11_guess 23 = .ok (.iload_n 1, 1) := by decide +kernel
theorem dX11_guess_24 : decode cX11_guess 24 = .ok (.bipush 16, 2) := by decide +kernel
theorem dX11_guess_26 : decode cX11_guess 26 = .ok (.irem, 1) := by decide +kernel
theorem dX11_guess_27 : decode cX11_guess 27 = .ok (.iaload, 1) := by decide +kernel
theorem dX11_guess_28 : decode cX11_guess 28 = .ok (.iconst 2, 1) := by decide +kernel
theorem dX11_guess_29 : decode cX11_guess 29 = .ok (.if_icmp .lt 12, 3) := by decide +kernel
theorem dX11_guess_32 : decode cX11_guess 32 = .ok (.aload_n 0, 1) := by decide +kernel
theorem dX11_guess_33 : decode cX11_guess 33 = .ok (.getfield 22, 3) := by decide +kernel
theorem dX11_guess_36 : decode cX11_guess 36 = .ok (.iload_n 1, 1) := by decide +kernel
theorem dX11_guess_37 : decode cX11_guess 37 = .ok (.iaload, 1) := by decide +kernel
theorem dX11_guess_38 : decode cX11_guess 38 = .ok (.goto 6, 3) := by decide +kernel
theorem dX11_guess_41 : decode cX11_guess 41 = .ok (.iload_n 1, 1) := by decide +kernel
theorem dX11_guess_42 : decode cX11_guess 42 = .ok (.iconst 1, 1) := by decide +kernel
theorem dX11_guess_43 : decode cX11_guess 43 = .ok (.iadd, 1) := by decide +kernel
theorem dX11_guess_44 : decode cX11_guess 44 = .ok (.ireturn, 1) := by decide +kernel
theorem dX11_guess_45 : decode cX11_guess 45 = .ok (.iload_n 2, 1) := by decide +kernel
theorem dX11_guess_46 : decode cX11_guess 46 = .ok (.bipush 14, 2) := by decide +kernel
theorem dX11_guess_48 : decode cX11_guess 48 = .ok (.if_icmp .eq 9, 3) := by decide +kernel
theorem dX11_guess_51 : decode cX11_guess 51 = .ok (.iload_n 2, 1) := by decide +kernel
theorem dX11_guess_52 : decode cX11_guess 52 = .ok (.bipush 15, 2) := by decide +kernel
theorem dX11_guess_54 : decode cX11_guess 54 = .ok (.if_icmp .ne 10, 3) := by decide +kernel
theorem dX11_guess_57 : decode cX11_guess 57 = .ok (.aload_n 0, 1) := by decide +kernel
theorem dX11_guess_58 : decode cX11_guess 58 = .ok (.getfield 22, 3) := by decide +kernel
theorem dX11_guess_61 : decode cX11_guess 61 = .ok (.iload_n 1, 1) := by decide +kernel
theorem dX11_guess_62 : decode cX11_guess 62 = .ok (.iaload, 1) := by decide +kernel
theorem dX11_guess_63 : decode cX11_guess 63 = .ok (.ireturn, 1) := by decide +kernel
theorem dX11_guess_64 : decode cX11_guess 64 = .ok (.iload_n 2, 1) := by decide +kernel
theorem dX11_guess_65 : decode cX11_guess 65 = .ok (.bipush 16, 2) := by decide +kernel
theorem dX11_guess_67 : decode cX11_guess 67 = .ok (.if_icmp .ne 36, 3) := by decide +kernel
theorem dX11_guess_70 : decode cX11_guess 70 = .ok (.aload_n 0, 1) := by decide +kernel
theorem dX11_guess_71 : decode cX11_guess 71 = .ok (.getfield 80, 3) := by decide +kernel
theorem dX11_guess_74 : decode cX11_guess 74 = .ok (.iconst 0, 1) := by decide +kernel
theorem dX11_guess_75 : decode cX11_guess 75 = .ok (.iaload, 1) := by decide +kernel
theorem dX11_guess_76 : decode cX11_guess 76 = .ok (.ifCond .le 27, 3) := by decide +kernel
theorem dX11_guess_79 : decode cX11_guess 79 = .ok (.aload_n 0, 1) := by decide +kernel
theorem dX11_guess_80 : decode cX11_guess 80 = .ok (.getfield 80, 3) := by decide +kernel
theorem dX11_guess_83 : decode cX11_guess 83 = .ok (.iconst 0, 1) := by decide +kernel
theorem dX11_guess_84 : decode cX11_guess 84 = .ok (.dup2, 1) := by decide +kernel
theorem dX11_guess_85 : decode cX11_guess 85 = .ok (.iaload, 1) := by decide +kernel
theorem dX11_guess_86 : decode cX11_guess 86 = .ok (.iconst 1, 1) := by decide +kernel
theorem dX11_guess_87 : decode cX11_guess 87 = .ok (.isub, 1) := by decide +kernel
theorem dX11_guess_88 : decode cX11_guess 88 = .ok (.iastore, 1) := by decide +kernel
theorem dX11_guess_89 : decode cX11_guess 89 = .ok (.aload_n 0, 1) := by decide +kernel
theorem dX11_guess_90 : decode cX11_guess 90 = .ok (.getfield 80, 3) := by decide +kernel
theorem dX11_guess_93 : decode cX11_guess 93 = .ok (.aload_n 0, 1) := by decide +kernel
theorem dX11_guess_94 : decode cX11_guess 94 = .ok (.getfield 80, 3) := by decide +kernel
theorem dX11_guess_97 : decode cX11_guess 97 = .ok (.iconst 0, 1) := by decide +kernel
theorem dX11_guess_98 : decode cX11_guess 98 = .ok (.iaload, 1) := by decide +kernel
theorem dX11_guess_99 : decode cX11_guess 99 = .ok (.iconst 1, 1) := by decide +kernel
theorem dX11_guess_100 : decode cX11_guess 100 = .ok (.iadd, 1) := by decide +kernel
theorem dX11_guess_101 : decode cX11_guess 101 = .ok (.iaload, 1) := by decide +kernel
theorem dX11_guess_102 : decode cX11_guess 102 = .ok (.ireturn, 1) := by decide +kernel
theorem dX11_guess_103 : decode cX11_guess 103 = .ok (.iload_n 2, 1) := by decide +kernel
theorem dX11_guess_104 : decode cX11_guess 104 = .ok (.bipush 17, 2) := by decide +kernel
theorem dX11_guess_106 : decode cX11_guess 106 = .ok (.if_icmp .ne 28, 3) := by decide +kernel
theorem dX11_guess_109 : decode cX11_guess 109 = .ok (.aload_n 0, 1) := by decide +kernel
theorem dX11_guess_110 : decode cX11_guess 110 = .ok (.getfield 86, 3) := by decide +kernel
theorem dX11_guess_113 : decode cX11_guess 113 = .ok (.iload_n 1, 1) := by decide +kernel
theorem dX11_guess_114 : decode cX11_guess 114 = .ok (.bipush 8, 2) := by decide +kernel
theorem dX11_guess_116 : decode cX11_guess 116 = .ok (.irem, 1) := by decide +kernel
theorem dX11_guess_117 : decode cX11_guess 117 = .ok (.iaload, 1) := by decide +kernel
theorem dX11_guess_118 : decode cX11_guess 118 = .ok (.iconst (-1), 1) := by decide +kernel
theorem dX11_guess_119 : decode cX11_guess 119 = .ok (.if_icmp .eq 15, 3) := by decide +kernel
theorem dX11_guess_122 : decode cX11_guess 122 = .ok (.aload_n 0, 1) := by decide +kernel
theorem dX11_guess_123 : decode cX11_guess 123 = .ok (.getfield 86, 3) := by decide +kernel
theorem dX11_guess_126 : decode cX11_guess 126 = .ok (.iload_n 1, 1) := by decide +kernel
theorem dX11_guess_127 : decode cX11_guess 127 = .ok (.bipush 8, 2) := by decide +kernel
theorem dX11_guess_129 : decode cX11_guess 129 = .ok (.irem, 1) := by decide +kernel
theorem dX11_guess_130 : decode cX11_guess 130 = .ok (.iaload, 1) := by decide +kernel
theorem dX11_guess_131 : decode cX11_guess 131 = .ok (.goto 6, 3) := by decide +kernel
theorem dX11_guess_134 : decode cX11_guess 134 = .ok (.iload_n 1, 1) := by decide +kernel
theorem dX11_guess_135 : decode cX11_guess 135 = .ok (.iconst 1, 1) := by decide +kernel
theorem dX11_guess_136 : decode cX11_guess 136 = .ok (.iadd, 1) := by decide +kernel
theorem dX11_guess_137 : decode cX11_guess 137 = .ok (.ireturn, 1) := by decide +kernel
def mX11_isAlone : MD := (cX11_isAlone, RX11, yX11_isAlone, 1, (some .boolean), 0, 0)
theorem mf_X11_isAlone : MF mX11_isAlone 1 := MF.of 1907 90 (by decide +kernel) (by decide +kernel) (by decide +kernel) (by decide +kernel) (by decide +kernel) rfl
def mX11_inQueueNow : MD := (cX11_inQueueNow, RX11, yX11_inQueueNow, 3, (some .int), 0, 0)
theorem mf_X11_inQueueNow : MF mX11_inQueueNow 0 := MF.of 1911 90 (by decide +kernel) (by decide +kernel) (by decide +kernel) (by decide +kernel) (by decide +kernel) rfl
def mX11_canRename : MD := (cX11_canRename, RX11, yX11_canRename, 4, (some .boolean), 2, 42)
theorem mf_X11_canRename : MF mX11_canRename 1 := MF.of 1904 90 (by decide +kernel) (by decide +kernel) (by decide +kernel) (by decide +kernel) (by decide +kernel) rfl
def mX11_renames : MD := (cX11_renames, RX11, yX11_renames, 6, none, 3, 65)
theorem mf_X11_renames : MF mX11_renames 0 := MF.of 1900 90 (by decide +kernel) (by decide +kernel) (by decide +kernel) (by decide +kernel) (by decide +kernel) rfl
def mX11_keepsStack : MD := (cX11_keepsStack, RX11, yX11_keepsStack, 4, none, 0, 0)
theorem mf_X11_keepsStack : MF mX11_keepsStack 2 := MF.of 1919 90 (by decide +kernel) (by decide +kernel) (by decide +kernel) (by decide +kernel) (by decide +kernel) rfl
def mX11_guess : MD := (cX11_guess, RX11, yX11_guess, 3, (some .int), 0, 0)
theorem mf_X11_guess : MF mX11_guess 1 := MF.of 1923 90 (by decide +kernel) (by decide +kernel) (by decide +kernel) (by decide +kernel) (by decide +kernel) rfl
theorem cs_X11_205 : CSs RX11 205 mX11_isAlone := CSs.of 1905 1906 (by decide +kernel) (by decide +kernel)
theorem cv_X11_215 : CVs RX11 215 mX11_inQueueNow 12 := CVs.of 1908 1910 65 (by decide +kernel) (by decide +kernel) (by decide +kernel) _ rfl rfl
theorem cv_X11_219 : CVs RX11 219 mX11_canRename 12 := CVs.of 1901 1903 64 (by decide +kernel) (by decide +kernel) (by decide +kernel) _ rfl rfl
theorem iv_bipush_20 : (Int8.ofInt (20)).toInt32 = 20 := by decide
def f_X11_isAlone_b12 : Option Int32 :=
  some 1
def f_X11_isAlone (x0 : Int32) : Option Int32 :=
  if x0 = 19 then
    f_X11_isAlone_b12 
  else
    if ¬ x0 = 21 then
      some 0
    else
      f_X11_isAlone_b12 
set_option maxRecDepth 100000 in
theorem s_X11_isAlone_b12 {l : Launch} {G : Gt} (hG : Gok l G) (μ : Mm) (r : Int32) (h : f_X11_isAlone_b12 = some r) : ZX l G mX11_isAlone 12 [] [] μ (.inl (some (.int r))) μ := by
  unfold f_X11_isAlone_b12 at h
  refine zx_iconst (v := 1) dX11_isAlone_12 iv_iconst_1 ?_
  refine zx_goto (tgt := 17) dX11_isAlone_13 (by decide) ?_
  cases h
  exact zx_zretZ dX11_isAlone_17 rfl zb_1
set_option maxRecDepth 100000 in
theorem s_X11_isAlone {l : Launch} {G : Gt} (hG : Gok l G) (x0 : Int32) (μ : Mm) (r : Int32) (h : f_X11_isAlone x0 = some r) : ZX l G mX11_isAlone 0 [(0, .int x0)] [] μ (.inl (some (.int r))) μ := by
  unfold f_X11_isAlone at h
  refine zx_iload_n dX11_isAlone_0 rfl (q := 0) rfl ?_
  refine zx_bipush (v := 19) dX11_isAlone_1 iv_bipush_19 ?_
  by_cases c1 : x0 = 19
  · have h := it_t c1 h
    refine zx_icmp_eq_t (tgt := 12) dX11_isAlone_3 (by decide) c1 ?_
    refine zx_sub (L' := []) [] rfl ?_
    exact s_X11_isAlone_b12 hG _ _ h
  · have h := it_f c1 h
    refine zx_icmp_eq_f (tgt := 12) dX11_isAlone_3 (by decide) c1 ?_
    refine zx_iload_n dX11_isAlone_6 rfl (q := 0) rfl ?_
    refine zx_bipush (v := 21) dX11_isAlone_7 iv_bipush_21 ?_
    by_cases c2 : ¬ x0 = 21
    · have h := it_t c2 h
      refine zx_icmp_ne_t (tgt := 16) dX11_isAlone_9 (by decide) c2 ?_
      refine zx_iconst (v := 0) dX11_isAlone_16 iv_iconst_0 ?_
      cases h
      exact zx_zretZ dX11_isAlone_17 rfl zb_0
    · have h := it_f c2 h
      refine zx_icmp_ne_f (tgt := 16) dX11_isAlone_9 (by decide) (Classical.not_not.mp c2) ?_
      refine zx_sub (L' := []) [] rfl ?_
      exact s_X11_isAlone_b12 hG _ _ h
def f_X11_inQueueNow_b32 (k4 : Nat → Int32 → Int32 → Mm → Option Int32) (a0 : Nat) (x2 : Int32) (s0 : Int32) (s1 : Int32) (μ : Mm) : Option Int32 :=
  k4 a0 (s1 + s0) (x2 + 1) μ
def f_X11_inQueueNow_b4 : Nat → Nat → Int32 → Int32 → Mm → Option Int32
  | 0, _, _, _, _ => none
  | n + 1, a0, x1, x2, μ =>
  ck (mK μ a0 = 112) <|
  if (mI μ a0 23) ≤ x2 then
    some x1
  else
    bd (mR μ a0 22) fun p3 =>
    ck (isA56 (mK μ p3)) <|
    ck (inb x2 (mL μ p3)) <|
    bd (mR μ p3 (Int32.toNatClampNeg x2)) fun p7 =>
    ck (isA 1 (mK μ p7)) <|
    ck (inb 11 (mL μ p7)) <|
    if ¬ (mI μ p7 (Int32.toNatClampNeg 11)) = 113 then
      f_X11_inQueueNow_b32 (f_X11_inQueueNow_b4 n) a0 x2 0 x1 μ
    else
      f_X11_inQueueNow_b32 (f_X11_inQueueNow_b4 n) a0 x2 1 x1 μ
def f_X11_inQueueNow (a0 : Nat) (μ : Mm) : Option Int32 :=
  f_X11_inQueueNow_b4 5000 a0 0 0 μ
set_option maxRecDepth 100000 in
theorem s_X11_inQueueNow_b32 {l : Launch} {G : Gt} (hG : Gok l G) {k4 : Nat → Int32 → Int32 → Mm → Option Int32} (hk4 : ∀ (a0 : Nat) (x1 : Int32) (x2 : Int32) (μ : Mm) (r : Int32), k4 a0 x1 x2 μ = some r → ZX l G mX11_inQueueNow 4 [(0, .ref a0), (1, .int x1), (2, .int x2)] [] μ (.inl (some (.int r))) μ) (a0 : Nat) (x2 : Int32) (s0 : Int32) (s1 : Int32) (μ : Mm) (r : Int32) (h : f_X11_inQueueNow_b32 k4 a0 x2 s0 s1 μ = some r) : ZX l G mX11_inQueueNow 32 [(0, .ref a0), (2, .int x2)] [.int s0, .int s1] μ (.inl (some (.int r))) μ := by
  unfold f_X11_inQueueNow_b32 at h
  refine zx_iadd dX11_inQueueNow_32 ?_
  refine zx_istore_n (L' := [(1, .int (s1 + s0)), (0, .ref a0), (2, .int x2)]) dX11_inQueueNow_33 rfl (by decide) rfl ?_
  refine zx_iinc (q := 2) (v := x2 + 1) (L' := [(2, .int (x2 + 1)), (1, .int (s1 + s0)), (0, .ref a0)]) dX11_inQueueNow_34 rfl rfl (by decide) rfl ?_
  refine zx_goto (tgt := 4) dX11_inQueueNow_37 (by decide) ?_
  refine zx_sub (L' := [(0, .ref a0), (1, .int (s1 + s0)), (2, .int (x2 + 1))]) [2, 1, 0] rfl ?_
  exact hk4 _ _ _ _ _ h
set_option maxRecDepth 100000 in
theorem s_X11_inQueueNow_b4 {l : Launch} {G : Gt} (hG : Gok l G) : ∀ (n : Nat) (a0 : Nat) (x1 : Int32) (x2 : Int32) (μ : Mm) (r : Int32), f_X11_inQueueNow_b4 n a0 x1 x2 μ = some r → ZX l G mX11_inQueueNow 4 [(0, .ref a0), (1, .int x1), (2, .int x2)] [] μ (.inl (some (.int r))) μ := by
  intro n
  induction n with
  | zero =>
    intro a0 x1 x2 μ r h
    cases h
  | succ n ih =>
    intro a0 x1 x2 μ r h
    unfold f_X11_inQueueNow_b4 at h
    refine zx_iload_n dX11_inQueueNow_4 rfl (q := 2) rfl ?_
    refine zx_aload_n dX11_inQueueNow_5 rfl (q := 0) rfl ?_
    obtain ⟨h1, h⟩ := ck_e h
    refine zx_getI hG fl_X11_198 h1 dX11_inQueueNow_6 ?_
    by_cases c2 : (mI μ a0 23) ≤ x2
    · have h := it_t c2 h
      refine zx_icmp_ge_t (tgt := 40) dX11_inQueueNow_9 (by decide) c2 ?_
      refine zx_iload_n dX11_inQueueNow_40 rfl (q := 1) rfl ?_
      cases h
      exact zx_iret dX11_inQueueNow_41 rfl
    · have h := it_f c2 h
      refine zx_icmp_ge_f (tgt := 40) dX11_inQueueNow_9 (by decide) c2 ?_
      refine zx_iload_n dX11_inQueueNow_12 rfl (q := 1) rfl ?_
      refine zx_aload_n dX11_inQueueNow_13 rfl (q := 0) rfl ?_
      obtain ⟨p3, h4, h⟩ := bd_e h
      refine zx_getR hG fl_X11_74 h1 h4 dX11_inQueueNow_14 ?_
      refine zx_iload_n dX11_inQueueNow_17 rfl (q := 2) rfl ?_
      obtain ⟨h5, h⟩ := ck_e h
      obtain ⟨h6, h⟩ := ck_e h
      obtain ⟨p7, h8, h⟩ := bd_e h
      refine zx_aald hG rfl (h5).1 (h5).2 (inb_e h6) h8 dX11_inQueueNow_18 ?_
      refine zx_bipush (v := 11) dX11_inQueueNow_19 iv_bipush_11 ?_
      obtain ⟨h9, h⟩ := ck_e h
      obtain ⟨h10, h⟩ := ck_e h
      refine zx_iald hG rfl (h9).1 (h9).2 (inb_e h10) dX11_inQueueNow_21 ?_
      refine zx_bipush (v := 113) dX11_inQueueNow_22 iv_bipush_113 ?_
      by_cases c11 : ¬ (mI μ p7 (Int32.toNatClampNeg 11)) = 113
      · have h := it_t c11 h
        refine zx_icmp_ne_t (tgt := 31) dX11_inQueueNow_24 (by decide) c11 ?_
        refine zx_iconst (v := 0) dX11_inQueueNow_31 iv_iconst_0 ?_
        refine zx_sub (L' := [(0, .ref a0), (2, .int x2)]) [0, 2] rfl ?_
        exact s_X11_inQueueNow_b32 hG ih _ _ _ _ _ _ h
      · have h := it_f c11 h
        refine zx_icmp_ne_f (tgt := 31) dX11_inQueueNow_24 (by decide) (Classical.not_not.mp c11) ?_
        refine zx_iconst (v := 1) dX11_inQueueNow_27 iv_iconst_1 ?_
        refine zx_goto (tgt := 32) dX11_inQueueNow_28 (by decide) ?_
        refine zx_sub (L' := [(0, .ref a0), (2, .int x2)]) [0, 2] rfl ?_
        exact s_X11_inQueueNow_b32 hG ih _ _ _ _ _ _ h
set_option maxRecDepth 100000 in
theorem s_X11_inQueueNow {l : Launch} {G : Gt} (hG : Gok l G) (a0 : Nat) (μ : Mm) (r : Int32) (h : f_X11_inQueueNow a0 μ = some r) : ZX l G mX11_inQueueNow 0 [(0, .ref a0)] [] μ (.inl (some (.int r))) μ := by
  unfold f_X11_inQueueNow at h
  refine zx_iconst (v := 0) dX11_inQueueNow_0 iv_iconst_0 ?_
  refine zx_istore_n (L' := [(1, .int 0), (0, .ref a0)]) dX11_inQueueNow_1 rfl (by decide) rfl ?_
  refine zx_iconst (v := 0) dX11_inQueueNow_2 iv_iconst_0 ?_
  refine zx_istore_n (L' := [(2, .int 0), (1, .int 0), (0, .ref a0)]) dX11_inQueueNow_3 rfl (by decide) rfl ?_
  refine zx_sub (L' := [(0, .ref a0), (1, .int 0), (2, .int 0)]) [2, 1, 0] rfl ?_
  exact s_X11_inQueueNow_b4 hG 5000 _ _ _ _ _ h
def f_X11_canRename_b37 (k4 : Nat → Int32 → Int32 → Int32 → Mm → Option Int32) (a0 : Nat) (x1 : Int32) (x3 : Int32) (s0 : Int32) (μ : Mm) : Option Int32 :=
  k4 a0 x1 s0 (x3 + 1) μ
def f_X11_canRename_b32 (k4 : Nat → Int32 → Int32 → Int32 → Mm → Option Int32) (a0 : Nat) (x1 : Int32) (x3 : Int32) (μ : Mm) : Option Int32 :=
  f_X11_canRename_b37 k4 a0 x1 x3 1 μ
def f_X11_canRename_b115 (μ : Mm) : Option Int32 :=
  some 1
def f_X11_canRename_b92 (a0 : Nat) (x1 : Int32) (x2 : Int32) (s0 : Int32) (μ : Mm) : Option Int32 :=
  if ¬ s0 = 0 then
    some 0
  else
    if ¬ x2 = 0 then
      some 0
    else
      bd (f_X11_isAlone x1) fun y23 =>
      if y23 = 0 then
        f_X11_canRename_b115 μ
      else
        ck (mK μ a0 = 112) <|
        if ¬ (mI μ a0 23) = 0 then
          some 0
        else
          f_X11_canRename_b115 μ
def f_X11_canRename_b87 (a0 : Nat) (x1 : Int32) (x2 : Int32) (μ : Mm) : Option Int32 :=
  f_X11_canRename_b92 a0 x1 x2 1 μ
def f_X11_canRename_b91 (a0 : Nat) (x1 : Int32) (x2 : Int32) (μ : Mm) : Option Int32 :=
  f_X11_canRename_b92 a0 x1 x2 0 μ
def f_X11_canRename_b69 (a0 : Nat) (x1 : Int32) (x2 : Int32) (μ : Mm) : Option Int32 :=
  bd (f_X11_isQueued x1) fun y28 =>
  if y28 = 0 then
    f_X11_canRename_b91 a0 x1 x2 μ
  else
    ck (mK μ a0 = 112) <|
    bd (f_X11_inQueueNow a0 μ) fun y32 =>
    if ¬ y32 = (mI μ a0 8) then
      f_X11_canRename_b91 a0 x1 x2 μ
    else
      f_X11_canRename_b87 a0 x1 x2 μ
def f_X11_canRename_b44 (a0 : Nat) (x1 : Int32) (x2 : Int32) (μ : Mm) : Option Int32 :=
  ck (mK μ a0 = 112) <|
  if (mI μ a0 23) = (mI μ a0 7) then
    f_X11_canRename_b87 a0 x1 x2 μ
  else
    bd (f_X11_hasD x1) fun y17 =>
    if y17 = 0 then
      f_X11_canRename_b69 a0 x1 x2 μ
    else
      if (mI μ a0 21) = 0 then
        f_X11_canRename_b87 a0 x1 x2 μ
      else
        f_X11_canRename_b69 a0 x1 x2 μ
def f_X11_canRename_b4 : Nat → Nat → Int32 → Int32 → Int32 → Mm → Option Int32
  | 0, _, _, _, _, _ => none
  | n + 1, a0, x1, x2, x3, μ =>
  ck (mK μ a0 = 112) <|
  if (mI μ a0 23) ≤ x3 then
    f_X11_canRename_b44 a0 x1 x2 μ
  else
    if ¬ x2 = 0 then
      f_X11_canRename_b32 (f_X11_canRename_b4 n) a0 x1 x3 μ
    else
      bd (mR μ a0 22) fun p4 =>
      ck (isA56 (mK μ p4)) <|
      ck (inb x3 (mL μ p4)) <|
      bd (mR μ p4 (Int32.toNatClampNeg x3)) fun p8 =>
      bd (f_X11_codeOf a0 p8 μ) fun y10 =>
      bd (f_X11_isAlone y10) fun y12 =>
      if y12 = 0 then
        f_X11_canRename_b37 (f_X11_canRename_b4 n) a0 x1 x3 0 μ
      else
        f_X11_canRename_b32 (f_X11_canRename_b4 n) a0 x1 x3 μ
def f_X11_canRename (a0 : Nat) (x1 : Int32) (μ : Mm) : Option Int32 :=
  f_X11_canRename_b4 5000 a0 x1 0 0 μ
set_option maxRecDepth 100000 in
theorem s_X11_canRename_b37 {l : Launch} {G : Gt} (hG : Gok l G) {k4 : Nat → Int32 → Int32 → Int32 → Mm → Option Int32} (hk4 : ∀ (a0 : Nat) (x1 : Int32) (x2 : Int32) (x3 : Int32) (μ : Mm) (r : Int32), k4 a0 x1 x2 x3 μ = some r → ZX l G mX11_canRename 4 [(0, .ref a0), (1, .int x1), (2, .int x2), (3, .int x3)] [] μ (.inl (some (.int r))) μ) (a0 : Nat) (x1 : Int32) (x3 : Int32) (s0 : Int32) (μ : Mm) (r : Int32) (h : f_X11_canRename_b37 k4 a0 x1 x3 s0 μ = some r) : ZX l G mX11_canRename 37 [(0, .ref a0), (1, .int x1), (3, .int x3)] [.int s0] μ (.inl (some (.int r))) μ := by
  unfold f_X11_canRename_b37 at h
  refine zx_istore_n (L' := [(2, .int s0), (0, .ref a0), (1, .int x1), (3, .int x3)]) dX11_canRename_37 rfl (by decide) rfl ?_
  refine zx_iinc (q := 3) (v := x3 + 1) (L' := [(3, .int (x3 + 1)), (2, .int s0), (0, .ref a0), (1, .int x1)]) dX11_canRename_38 rfl rfl (by decide) rfl ?_
  refine zx_goto (tgt := 4) dX11_canRename_41 (by decide) ?_
  refine zx_sub (L' := [(0, .ref a0), (1, .int x1), (2, .int s0), (3, .int (x3 + 1))]) [2, 3, 1, 0] rfl ?_
  exact hk4 _ _ _ _ _ _ h
set_option maxRecDepth 100000 in
theorem s_X11_canRename_b32 {l : Launch} {G : Gt} (hG : Gok l G) {k4 : Nat → Int32 → Int32 → Int32 → Mm → Option Int32} (hk4 : ∀ (a0 : Nat) (x1 : Int32) (x2 : Int32) (x3 : Int32) (μ : Mm) (r : Int32), k4 a0 x1 x2 x3 μ = some r → ZX l G mX11_canRename 4 [(0, .ref a0), (1, .int x1), (2, .int x2), (3, .int x3)] [] μ (.inl (some (.int r))) μ) (a0 : Nat) (x1 : Int32) (x3 : Int32) (μ : Mm) (r : Int32) (h : f_X11_canRename_b32 k4 a0 x1 x3 μ = some r) : ZX l G mX11_canRename 32 [(0, .ref a0), (1, .int x1), (3, .int x3)] [] μ (.inl (some (.int r))) μ := by
  unfold f_X11_canRename_b32 at h
  refine zx_iconst (v := 1) dX11_canRename_32 iv_iconst_1 ?_
  refine zx_goto (tgt := 37) dX11_canRename_33 (by decide) ?_
  exact s_X11_canRename_b37 hG hk4 _ _ _ _ _ _ h
set_option maxRecDepth 100000 in
theorem s_X11_canRename_b115 {l : Launch} {G : Gt} (hG : Gok l G) (μ : Mm) (r : Int32) (h : f_X11_canRename_b115 μ = some r) : ZX l G mX11_canRename 115 [] [] μ (.inl (some (.int r))) μ := by
  unfold f_X11_canRename_b115 at h
  refine zx_iconst (v := 1) dX11_canRename_115 iv_iconst_1 ?_
  refine zx_goto (tgt := 120) dX11_canRename_116 (by decide) ?_
  cases h
  exact zx_zretZ dX11_canRename_120 rfl zb_1
set_option maxRecDepth 100000 in
theorem s_X11_canRename_b92 {l : Launch} {G : Gt} (hG : Gok l G) (a0 : Nat) (x1 : Int32) (x2 : Int32) (s0 : Int32) (μ : Mm) (r : Int32) (h : f_X11_canRename_b92 a0 x1 x2 s0 μ = some r) : ZX l G mX11_canRename 92 [(0, .ref a0), (1, .int x1), (2, .int x2)] [.int s0] μ (.inl (some (.int r))) μ := by
  unfold f_X11_canRename_b92 at h
  refine zx_istore_n (L' := [(3, .int s0), (0, .ref a0), (1, .int x1), (2, .int x2)]) dX11_canRename_92 rfl (by decide) rfl ?_
  refine zx_iload_n dX11_canRename_93 rfl (q := 0) rfl ?_
  by_cases c21 : ¬ s0 = 0
  · have h := it_t c21 h
    refine zx_if_ne_t (tgt := 119) dX11_canRename_94 (by decide) c21 ?_
    refine zx_iconst (v := 0) dX11_canRename_119 iv_iconst_0 ?_
    cases h
    exact zx_zretZ dX11_canRename_120 rfl zb_0
  · have h := it_f c21 h
    refine zx_if_ne_f (tgt := 119) dX11_canRename_94 (by decide) (Classical.not_not.mp c21) ?_
    refine zx_iload_n dX11_canRename_97 rfl (q := 3) rfl ?_
    by_cases c22 : ¬ x2 = 0
    · have h := it_t c22 h
      refine zx_if_ne_t (tgt := 119) dX11_canRename_98 (by decide) c22 ?_
      refine zx_iconst (v := 0) dX11_canRename_119 iv_iconst_0 ?_
      cases h
      exact zx_zretZ dX11_canRename_120 rfl zb_0
    · have h := it_f c22 h
      refine zx_if_ne_f (tgt := 119) dX11_canRename_98 (by decide) (Classical.not_not.mp c22) ?_
      refine zx_iload_n dX11_canRename_101 rfl (q := 2) rfl ?_
      obtain ⟨y23, z24, h⟩ := bd_e h
      refine zx_callS (As := [.int x1]) hG mf_X11_isAlone cs_X11_205 ⟨by decide, by decide⟩ rfl rfl (Nat.le_of_ble_eq_true rfl) (s_X11_isAlone hG _ _ _ z24) (Nat.le_of_ble_eq_true rfl) dX11_canRename_102 ?_
      by_cases c25 : y23 = 0
      · have h := it_t c25 h
        refine zx_if_eq_t (tgt := 115) dX11_canRename_105 (by decide) c25 ?_
        refine zx_sub (L' := []) [] rfl ?_
        exact s_X11_canRename_b115 hG _ _ h
      · have h := it_f c25 h
        refine zx_if_eq_f (tgt := 115) dX11_canRename_105 (by decide) c25 ?_
        refine zx_aload_n dX11_canRename_108 rfl (q := 1) rfl ?_
        obtain ⟨h26, h⟩ := ck_e h
        refine zx_getI hG fl_X11_198 h26 dX11_canRename_109 ?_
        by_cases c27 : ¬ (mI μ a0 23) = 0
        · have h := it_t c27 h
          refine zx_if_ne_t (tgt := 119) dX11_canRename_112 (by decide) c27 ?_
          refine zx_iconst (v := 0) dX11_canRename_119 iv_iconst_0 ?_
          cases h
          exact zx_zretZ dX11_canRename_120 rfl zb_0
        · have h := it_f c27 h
          refine zx_if_ne_f (tgt := 119) dX11_canRename_112 (by decide) (Classical.not_not.mp c27) ?_
          refine zx_sub (L' := []) [] rfl ?_
          exact s_X11_canRename_b115 hG _ _ h
set_option maxRecDepth 100000 in
theorem s_X11_canRename_b87 {l : Launch} {G : Gt} (hG : Gok l G) (a0 : Nat) (x1 : Int32) (x2 : Int32) (μ : Mm) (r : Int32) (h : f_X11_canRename_b87 a0 x1 x2 μ = some r) : ZX l G mX11_canRename 87 [(0, .ref a0), (1, .int x1), (2, .int x2)] [] μ (.inl (some (.int r))) μ := by
  unfold f_X11_canRename_b87 at h
  refine zx_iconst (v := 1) dX11_canRename_87 iv_iconst_1 ?_
  refine zx_goto (tgt := 92) dX11_canRename_88 (by decide) ?_
  exact s_X11_canRename_b92 hG _ _ _ _ _ _ h
set_option maxRecDepth 100000 in
theorem s_X11_canRename_b91 {l : Launch} {G : Gt} (hG : Gok l G) (a0 : Nat) (x1 : Int32) (x2 : Int32) (μ : Mm) (r : Int32) (h : f_X11_canRename_b91 a0 x1 x2 μ = some r) : ZX l G mX11_canRename 91 [(0, .ref a0), (1, .int x1), (2, .int x2)] [] μ (.inl (some (.int r))) μ := by
  unfold f_X11_canRename_b91 at h
  refine zx_iconst (v := 0) dX11_canRename_91 iv_iconst_0 ?_
  exact s_X11_canRename_b92 hG _ _ _ _ _ _ h
set_option maxRecDepth 100000 in
theorem s_X11_canRename_b69 {l : Launch} {G : Gt} (hG : Gok l G) (a0 : Nat) (x1 : Int32) (x2 : Int32) (μ : Mm) (r : Int32) (h : f_X11_canRename_b69 a0 x1 x2 μ = some r) : ZX l G mX11_canRename 69 [(0, .ref a0), (1, .int x1), (2, .int x2)] [] μ (.inl (some (.int r))) μ := by
  unfold f_X11_canRename_b69 at h
  refine zx_iload_n dX11_canRename_69 rfl (q := 1) rfl ?_
  obtain ⟨y28, z29, h⟩ := bd_e h
  refine zx_callS (As := [.int x1]) hG mf_X11_isQueued cs_X11_212 ⟨by decide, by decide⟩ rfl rfl (Nat.le_of_ble_eq_true rfl) (s_X11_isQueued hG _ _ _ z29) (Nat.le_of_ble_eq_true rfl) dX11_canRename_70 ?_
  by_cases c30 : y28 = 0
  · have h := it_t c30 h
    refine zx_if_eq_t (tgt := 91) dX11_canRename_73 (by decide) c30 ?_
    exact s_X11_canRename_b91 hG _ _ _ _ _ h
  · have h := it_f c30 h
    refine zx_if_eq_f (tgt := 91) dX11_canRename_73 (by decide) c30 ?_
    refine zx_aload_n dX11_canRename_76 rfl (q := 0) rfl ?_
    obtain ⟨h31, h⟩ := ck_e h
    obtain ⟨y32, z33, h⟩ := bd_e h
    refine zx_callV (As := []) hG mf_X11_inQueueNow cv_X11_215 h31 ⟨by decide, by decide⟩ rfl rfl (Nat.le_of_ble_eq_true rfl) (s_X11_inQueueNow hG _ _ _ z33) (Nat.le_of_ble_eq_true rfl) dX11_canRename_77 ?_
    refine zx_aload_n dX11_canRename_80 rfl (q := 0) rfl ?_
    refine zx_getI hG fl_X11_32 h31 dX11_canRename_81 ?_
    by_cases c34 : ¬ y32 = (mI μ a0 8)
    · have h := it_t c34 h
      refine zx_icmp_ne_t (tgt := 91) dX11_canRename_84 (by decide) c34 ?_
      exact s_X11_canRename_b91 hG _ _ _ _ _ h
    · have h := it_f c34 h
      refine zx_icmp_ne_f (tgt := 91) dX11_canRename_84 (by decide) (Classical.not_not.mp c34) ?_
      exact s_X11_canRename_b87 hG _ _ _ _ _ h
set_option maxRecDepth 100000 in
theorem s_X11_canRename_b44 {l : Launch} {G : Gt} (hG : Gok l G) (a0 : Nat) (x1 : Int32) (x2 : Int32) (μ : Mm) (r : Int32) (h : f_X11_canRename_b44 a0 x1 x2 μ = some r) : ZX l G mX11_canRename 44 [(0, .ref a0), (1, .int x1), (2, .int x2)] [] μ (.inl (some (.int r))) μ := by
  unfold f_X11_canRename_b44 at h
  refine zx_aload_n dX11_canRename_44 rfl (q := 0) rfl ?_
  obtain ⟨h15, h⟩ := ck_e h
  refine zx_getI hG fl_X11_198 h15 dX11_canRename_45 ?_
  refine zx_aload_n dX11_canRename_48 rfl (q := 0) rfl ?_
  refine zx_getI hG fl_X11_29 h15 dX11_canRename_49 ?_
  by_cases c16 : (mI μ a0 23) = (mI μ a0 7)
  · have h := it_t c16 h
    refine zx_icmp_eq_t (tgt := 87) dX11_canRename_52 (by decide) c16 ?_
    exact s_X11_canRename_b87 hG _ _ _ _ _ h
  · have h := it_f c16 h
    refine zx_icmp_eq_f (tgt := 87) dX11_canRename_52 (by decide) c16 ?_
    refine zx_iload_n dX11_canRename_55 rfl (q := 1) rfl ?_
    obtain ⟨y17, z18, h⟩ := bd_e h
    refine zx_callS (As := [.int x1]) hG mf_X11_hasD cs_X11_209 ⟨by decide, by decide⟩ rfl rfl (Nat.le_of_ble_eq_true rfl) (s_X11_hasD hG _ _ _ z18) (Nat.le_of_ble_eq_true rfl) dX11_canRename_56 ?_
    by_cases c19 : y17 = 0
    · have h := it_t c19 h
      refine zx_if_eq_t (tgt := 69) dX11_canRename_59 (by decide) c19 ?_
      exact s_X11_canRename_b69 hG _ _ _ _ _ h
    · have h := it_f c19 h
      refine zx_if_eq_f (tgt := 69) dX11_canRename_59 (by decide) c19 ?_
      refine zx_aload_n dX11_canRename_62 rfl (q := 0) rfl ?_
      refine zx_getI hG fl_X11_126 h15 dX11_canRename_63 ?_
      by_cases c20 : (mI μ a0 21) = 0
      · have h := it_t c20 h
        refine zx_if_eq_t (tgt := 87) dX11_canRename_66 (by decide) c20 ?_
        exact s_X11_canRename_b87 hG _ _ _ _ _ h
      · have h := it_f c20 h
        refine zx_if_eq_f (tgt := 87) dX11_canRename_66 (by decide) c20 ?_
        exact s_X11_canRename_b69 hG _ _ _ _ _ h
set_option maxRecDepth 100000 in
theorem s_X11_canRename_b4 {l : Launch} {G : Gt} (hG : Gok l G) : ∀ (n : Nat) (a0 : Nat) (x1 : Int32) (x2 : Int32) (x3 : Int32) (μ : Mm) (r : Int32), f_X11_canRename_b4 n a0 x1 x2 x3 μ = some r → ZX l G mX11_canRename 4 [(0, .ref a0), (1, .int x1), (2, .int x2), (3, .int x3)] [] μ (.inl (some (.int r))) μ := by
  intro n
  induction n with
  | zero =>
    intro a0 x1 x2 x3 μ r h
    cases h
  | succ n ih =>
    intro a0 x1 x2 x3 μ r h
    unfold f_X11_canRename_b4 at h
    refine zx_iload_n dX11_canRename_4 rfl (q := 3) rfl ?_
    refine zx_aload_n dX11_canRename_5 rfl (q := 0) rfl ?_
    obtain ⟨h1, h⟩ := ck_e h
    refine zx_getI hG fl_X11_198 h1 dX11_canRename_6 ?_
    by_cases c2 : (mI μ a0 23) ≤ x3
    · have h := it_t c2 h
      refine zx_icmp_ge_t (tgt := 44) dX11_canRename_9 (by decide) c2 ?_
      refine zx_sub (L' := [(0, .ref a0), (1, .int x1), (2, .int x2)]) [0, 1, 2] rfl ?_
      exact s_X11_canRename_b44 hG _ _ _ _ _ h
    · have h := it_f c2 h
      refine zx_icmp_ge_f (tgt := 44) dX11_canRename_9 (by decide) c2 ?_
      refine zx_iload_n dX11_canRename_12 rfl (q := 2) rfl ?_
      by_cases c3 : ¬ x2 = 0
      · have h := it_t c3 h
        refine zx_if_ne_t (tgt := 32) dX11_canRename_13 (by decide) c3 ?_
        refine zx_sub (L' := [(0, .ref a0), (1, .int x1), (3, .int x3)]) [0, 1, 3] rfl ?_
        exact s_X11_canRename_b32 hG ih _ _ _ _ _ h
      · have h := it_f c3 h
        refine zx_if_ne_f (tgt := 32) dX11_canRename_13 (by decide) (Classical.not_not.mp c3) ?_
        refine zx_aload_n dX11_canRename_16 rfl (q := 0) rfl ?_
        refine zx_aload_n dX11_canRename_17 rfl (q := 0) rfl ?_
        obtain ⟨p4, h5, h⟩ := bd_e h
        refine zx_getR hG fl_X11_74 h1 h5 dX11_canRename_18 ?_
        refine zx_iload_n dX11_canRename_21 rfl (q := 3) rfl ?_
        obtain ⟨h6, h⟩ := ck_e h
        obtain ⟨h7, h⟩ := ck_e h
        obtain ⟨p8, h9, h⟩ := bd_e h
        refine zx_aald hG rfl (h6).1 (h6).2 (inb_e h7) h9 dX11_canRename_22 ?_
        obtain ⟨y10, z11, h⟩ := bd_e h
        refine zx_callV (As := [.ref p8]) hG mf_X11_codeOf cv_X11_201 h1 ⟨by decide, by decide⟩ rfl rfl (Nat.le_of_ble_eq_true rfl) (s_X11_codeOf hG _ _ _ _ z11) (Nat.le_of_ble_eq_true rfl) dX11_canRename_23 ?_
        obtain ⟨y12, z13, h⟩ := bd_e h
        refine zx_callS (As := [.int y10]) hG mf_X11_isAlone cs_X11_205 ⟨by decide, by decide⟩ rfl rfl (Nat.le_of_ble_eq_true rfl) (s_X11_isAlone hG _ _ _ z13) (Nat.le_of_ble_eq_true rfl) dX11_canRename_26 ?_
        by_cases c14 : y12 = 0
        · have h := it_t c14 h
          refine zx_if_eq_t (tgt := 36) dX11_canRename_29 (by decide) c14 ?_
          refine zx_iconst (v := 0) dX11_canRename_36 iv_iconst_0 ?_
          refine zx_sub (L' := [(0, .ref a0), (1, .int x1), (3, .int x3)]) [0, 1, 3] rfl ?_
          exact s_X11_canRename_b37 hG ih _ _ _ _ _ _ h
        · have h := it_f c14 h
          refine zx_if_eq_f (tgt := 36) dX11_canRename_29 (by decide) c14 ?_
          refine zx_sub (L' := [(0, .ref a0), (1, .int x1), (3, .int x3)]) [0, 1, 3] rfl ?_
          exact s_X11_canRename_b32 hG ih _ _ _ _ _ h
set_option maxRecDepth 100000 in
theorem s_X11_canRename {l : Launch} {G : Gt} (hG : Gok l G) (a0 : Nat) (x1 : Int32) (μ : Mm) (r : Int32) (h : f_X11_canRename a0 x1 μ = some r) : ZX l G mX11_canRename 0 [(0, .ref a0), (1, .int x1)] [] μ (.inl (some (.int r))) μ := by
  unfold f_X11_canRename at h
  refine zx_iconst (v := 0) dX11_canRename_0 iv_iconst_0 ?_
  refine zx_istore_n (L' := [(2, .int 0), (0, .ref a0), (1, .int x1)]) dX11_canRename_1 rfl (by decide) rfl ?_
  refine zx_iconst (v := 0) dX11_canRename_2 iv_iconst_0 ?_
  refine zx_istore_n (L' := [(3, .int 0), (2, .int 0), (0, .ref a0), (1, .int x1)]) dX11_canRename_3 rfl (by decide) rfl ?_
  refine zx_sub (L' := [(0, .ref a0), (1, .int x1), (2, .int 0), (3, .int 0)]) [2, 3, 1, 0] rfl ?_
  exact s_X11_canRename_b4 hG 5000 _ _ _ _ _ _ h
def f_X11_renames_b138 (k2 : Nat → Int32 → Mm → Option (Unit × Mm)) (k94 : Nat → Int32 → Nat → Int32 → Mm → Option (Unit × Mm)) (a0 : Nat) (x1 : Int32) (a2 : Nat) (x3 : Int32) (μ : Mm) : Option (Unit × Mm) :=
  k94 a0 x1 a2 (x3 + 1) μ
def f_X11_renames_b105 (k2 : Nat → Int32 → Mm → Option (Unit × Mm)) (k94 : Nat → Int32 → Nat → Int32 → Mm → Option (Unit × Mm)) : Nat → Nat → Int32 → Nat → Int32 → Int32 → Mm → Option (Unit × Mm)
  | 0, _, _, _, _, _, _ => none
  | n + 1, a0, x1, a2, x3, x4, μ =>
  if 28 ≤ x4 then
    f_X11_renames_b138 k2 k94 a0 x1 a2 x3 μ
  else
    ck (mK μ a0 = 112) <|
    bd (mR μ a0 24) fun p206 =>
    ck (isA56 (mK μ p206)) <|
    ck (inb x3 (mL μ p206)) <|
    bd (mR μ p206 (Int32.toNatClampNeg x3)) fun p210 =>
    bd (mR μ a0 24) fun p212 =>
    ck (isA56 (mK μ p212)) <|
    ck (inb (x3 + 1) (mL μ p212)) <|
    bd (mR μ p212 (Int32.toNatClampNeg (x3 + 1))) fun p216 =>
    ck (isA 1 (mK μ p216)) <|
    ck (inb x4 (mL μ p216)) <|
    ck (isA 1 (mK μ p210)) <|
    ck (inb x4 (mL μ p210)) <|
    zl (sI μ p210 (Int32.toNatClampNeg x4) (mI μ p216 (Int32.toNatClampNeg x4))) fun μ222 =>
    f_X11_renames_b105 k2 k94 n a0 x1 a2 x3 (x4 + 1) μ222
def f_X11_renames_b411 (k2 : Nat → Int32 → Mm → Option (Unit × Mm)) (a0 : Nat) (x1 : Int32) (a2 : Nat) (s0 : Int32) (s1 : Int32) (s2 : Nat) (μ : Mm) : Option (Unit × Mm) :=
  ck (isA 1 (mK μ s2)) <|
  ck (inb s1 (mL μ s2)) <|
  zl (sI μ s2 (Int32.toNatClampNeg s1) s0) fun μ126 =>
  ck (mK μ126 a0 = 112) <|
  ck (isA 1 (mK μ126 a2)) <|
  ck (inb 4 (mL μ126 a2)) <|
  zl (sI μ126 a2 (Int32.toNatClampNeg 4) (mI μ126 a0 36)) fun μ132 =>
  k2 a0 (x1 + 1) μ132
def f_X11_renames_b393 (k2 : Nat → Int32 → Mm → Option (Unit × Mm)) (a0 : Nat) (x1 : Int32) (a2 : Nat) (x4 : Int32) (μ : Mm) : Option (Unit × Mm) :=
  bd (f_X11_isQueued x4) fun y121 =>
  if y121 = 0 then
    f_X11_renames_b411 k2 a0 x1 a2 101 11 a2 μ
  else
    f_X11_renames_b411 k2 a0 x1 a2 113 11 a2 μ
def f_X11_renames_b392 (k2 : Nat → Int32 → Mm → Option (Unit × Mm)) (a0 : Nat) (x1 : Int32) (a2 : Nat) (x4 : Int32) (s0 : Int32) (s1 : Int32) (s2 : Nat) (μ : Mm) : Option (Unit × Mm) :=
  ck (isA 1 (mK μ s2)) <|
  ck (inb s1 (mL μ s2)) <|
  zl (sI μ s2 (Int32.toNatClampNeg s1) s0) fun μ196 =>
  f_X11_renames_b393 k2 a0 x1 a2 x4 μ196
def f_X11_renames_b361 (k2 : Nat → Int32 → Mm → Option (Unit × Mm)) (a0 : Nat) (x1 : Int32) (a2 : Nat) (x3 : Int32) (x4 : Int32) (s0 : Int32) (s1 : Int32) (s2 : Nat) (μ : Mm) : Option (Unit × Mm) :=
  ck (isA 2 (mK μ s2)) <|
  ck (inb s1 (mL μ s2)) <|
  zl (sI μ s2 (Int32.toNatClampNeg s1) s0) fun μ180 =>
  ck (mK μ180 a0 = 112) <|
  bd (mR μ180 a0 18) fun p184 =>
  ck (isA 1 (mK μ180 a2)) <|
  ck (inb 9 (mL μ180 a2)) <|
  if ¬ x4 = 15 then
    bd (mR μ180 a0 18) fun p189 =>
    ck (inb 9 (mL μ180 a2)) <|
    ck (isA 1 (mK μ180 p189)) <|
    ck (inb (mI μ180 a2 (Int32.toNatClampNeg 9)) (mL μ180 p189)) <|
    f_X11_renames_b392 k2 a0 x1 a2 x4 (mI μ180 p189 (Int32.toNatClampNeg (mI μ180 a2 (Int32.toNatClampNeg 9)))) (mI μ180 a2 (Int32.toNatClampNeg 9)) p184 μ180
  else
    f_X11_renames_b392 k2 a0 x1 a2 x4 (x3 + 1) (mI μ180 a2 (Int32.toNatClampNeg 9)) p184 μ180
def f_X11_renames_b311 (k2 : Nat → Int32 → Mm → Option (Unit × Mm)) (a0 : Nat) (x1 : Int32) (a2 : Nat) (x3 : Int32) (x4 : Int32) (μ : Mm) : Option (Unit × Mm) :=
  ck (mK μ a0 = 112) <|
  bd (mR μ a0 16) fun p149 =>
  bd (mR μ a0 1) fun p151 =>
  ck (isA 1 (mK μ p151)) <|
  ck (inb x3 (mL μ p151)) <|
  ck (isA 1 (mK μ p149)) <|
  ck (inb (mI μ p151 (Int32.toNatClampNeg x3)) (mL μ p149)) <|
  ck (isA 1 (mK μ a2)) <|
  ck (inb 10 (mL μ a2)) <|
  zl (sI μ a2 (Int32.toNatClampNeg 10) (mI μ p149 (Int32.toNatClampNeg (mI μ p151 (Int32.toNatClampNeg x3))))) fun μ159 =>
  bd (mR μ159 a0 16) fun p162 =>
  bd (mR μ159 a0 1) fun p164 =>
  ck (isA 1 (mK μ159 p164)) <|
  ck (inb x3 (mL μ159 p164)) <|
  ck (inb 9 (mL μ159 a2)) <|
  ck (isA 1 (mK μ159 p162)) <|
  ck (inb (mI μ159 p164 (Int32.toNatClampNeg x3)) (mL μ159 p162)) <|
  zl (sI μ159 p162 (Int32.toNatClampNeg (mI μ159 p164 (Int32.toNatClampNeg x3))) (mI μ159 a2 (Int32.toNatClampNeg 9))) fun μ171 =>
  bd (mR μ171 a0 19) fun p174 =>
  ck (inb 9 (mL μ171 a2)) <|
  if ¬ x4 = 15 then
    f_X11_renames_b361 k2 a0 x1 a2 x3 x4 0 (mI μ171 a2 (Int32.toNatClampNeg 9)) p174 μ171
  else
    f_X11_renames_b361 k2 a0 x1 a2 x3 x4 1 (mI μ171 a2 (Int32.toNatClampNeg 9)) p174 μ171
def f_X11_renames_b280 (k2 : Nat → Int32 → Mm → Option (Unit × Mm)) : Nat → Nat → Int32 → Nat → Int32 → Int32 → Int32 → Mm → Option (Unit × Mm)
  | 0, _, _, _, _, _, _, _ => none
  | n + 1, a0, x1, a2, x3, x4, x5, μ =>
  ck (mK μ a0 = 112) <|
  if (mI μ a0 21) ≤ x5 then
    f_X11_renames_b311 k2 a0 x1 a2 x3 x4 μ
  else
    bd (mR μ a0 20) fun p137 =>
    bd (mR μ a0 20) fun p139 =>
    ck (isA 1 (mK μ p139)) <|
    ck (inb (x5 + 1) (mL μ p139)) <|
    ck (isA 1 (mK μ p137)) <|
    ck (inb x5 (mL μ p137)) <|
    zl (sI μ p137 (Int32.toNatClampNeg x5) (mI μ p139 (Int32.toNatClampNeg (x5 + 1)))) fun μ145 =>
    f_X11_renames_b280 k2 n a0 x1 a2 x3 x4 (x5 + 1) μ145
def f_X11_renames_b248 (k2 : Nat → Int32 → Mm → Option (Unit × Mm)) (a0 : Nat) (x1 : Int32) (a2 : Nat) (x3 : Int32) (x4 : Int32) (s0 : Int32) (s1 : Int32) (s2 : Nat) (μ : Mm) : Option (Unit × Mm) :=
  ck (isA 1 (mK μ s2)) <|
  ck (inb s1 (mL μ s2)) <|
  zl (sI μ s2 (Int32.toNatClampNeg s1) s0) fun μ102 =>
  bd (f_X11_hasD x4) fun y105 =>
  if y105 = 0 then
    f_X11_renames_b393 k2 a0 x1 a2 x4 μ102
  else
    ck (mK μ102 a0 = 112) <|
    bd (mR μ102 a0 20) fun p109 =>
    ck (isA 1 (mK μ102 p109)) <|
    ck (inb 0 (mL μ102 p109)) <|
    ck (isA 1 (mK μ102 a2)) <|
    ck (inb 9 (mL μ102 a2)) <|
    zl (sI μ102 a2 (Int32.toNatClampNeg 9) (mI μ102 p109 (Int32.toNatClampNeg 0))) fun μ115 =>
    zl (sI μ115 a0 21 ((mI μ115 a0 21) - 1)) fun μ118 =>
    f_X11_renames_b280 k2 5000 a0 x1 a2 x3 x4 0 μ118
def f_X11_renames_b232 (k2 : Nat → Int32 → Mm → Option (Unit × Mm)) (a0 : Nat) (x1 : Int32) (a2 : Nat) (x3 : Int32) (x4 : Int32) (s0 : Int32) (s1 : Int32) (s2 : Nat) (μ : Mm) : Option (Unit × Mm) :=
  ck (isA 1 (mK μ s2)) <|
  ck (inb s1 (mL μ s2)) <|
  zl (sI μ s2 (Int32.toNatClampNeg s1) s0) fun μ96 =>
  if ¬ x4 = 20 then
    f_X11_renames_b248 k2 a0 x1 a2 x3 x4 0 13 a2 μ96
  else
    f_X11_renames_b248 k2 a0 x1 a2 x3 x4 4 13 a2 μ96
def f_X11_renames_b220 (k2 : Nat → Int32 → Mm → Option (Unit × Mm)) (a0 : Nat) (x1 : Int32) (a2 : Nat) (x3 : Int32) (x4 : Int32) (s0 : Int32) (s1 : Nat) (μ : Mm) : Option (Unit × Mm) :=
  ck (mK μ a0 = 112) <|
  bd (mR μ a0 4) fun p200 =>
  ck (isA 1 (mK μ p200)) <|
  ck (inb x3 (mL μ p200)) <|
  f_X11_renames_b232 k2 a0 x1 a2 x3 x4 (mI μ p200 (Int32.toNatClampNeg x3)) s0 s1 μ
def f_X11_renames_b144 (k2 : Nat → Int32 → Mm → Option (Unit × Mm)) (a0 : Nat) (x1 : Int32) (a2 : Nat) (μ : Mm) : Option (Unit × Mm) :=
  ck (isA 1 (mK μ a2)) <|
  ck (inb 0 (mL μ a2)) <|
  ck (mK μ a0 = 112) <|
  bd (mR μ a0 0) fun p52 =>
  ck (isA 1 (mK μ p52)) <|
  ck (inb (mI μ a2 (Int32.toNatClampNeg 0)) (mL μ p52)) <|
  ck (inb 2 (mL μ a2)) <|
  zl (sI μ a2 (Int32.toNatClampNeg 2) (mI μ a0 36)) fun μ57 =>
  bd (mR μ57 a0 16) fun p60 =>
  bd (mR μ57 a0 2) fun p62 =>
  ck (isA 1 (mK μ57 p62)) <|
  ck (inb (mI μ a2 (Int32.toNatClampNeg 0)) (mL μ57 p62)) <|
  ck (isA 1 (mK μ57 p60)) <|
  ck (inb (mI μ57 p62 (Int32.toNatClampNeg (mI μ a2 (Int32.toNatClampNeg 0)))) (mL μ57 p60)) <|
  ck (inb 7 (mL μ57 a2)) <|
  zl (sI μ57 a2 (Int32.toNatClampNeg 7) (mI μ57 p60 (Int32.toNatClampNeg (mI μ57 p62 (Int32.toNatClampNeg (mI μ a2 (Int32.toNatClampNeg 0))))))) fun μ69 =>
  bd (mR μ69 a0 16) fun p72 =>
  bd (mR μ69 a0 3) fun p74 =>
  ck (isA 1 (mK μ69 p74)) <|
  ck (inb (mI μ a2 (Int32.toNatClampNeg 0)) (mL μ69 p74)) <|
  ck (isA 1 (mK μ69 p72)) <|
  ck (inb (mI μ69 p74 (Int32.toNatClampNeg (mI μ a2 (Int32.toNatClampNeg 0)))) (mL μ69 p72)) <|
  ck (inb 8 (mL μ69 a2)) <|
  zl (sI μ69 a2 (Int32.toNatClampNeg 8) (mI μ69 p72 (Int32.toNatClampNeg (mI μ69 p74 (Int32.toNatClampNeg (mI μ a2 (Int32.toNatClampNeg 0))))))) fun μ81 =>
  ck (inb 16 (mL μ81 a2)) <|
  zl (sI μ81 a2 (Int32.toNatClampNeg 16) ((-1))) fun μ85 =>
  ck (inb 14 (mL μ85 a2)) <|
  zl (sI μ85 a2 (Int32.toNatClampNeg 14) ((-1))) fun μ89 =>
  if (mI μ p52 (Int32.toNatClampNeg (mI μ a2 (Int32.toNatClampNeg 0)))) = 14 then
    f_X11_renames_b220 k2 a0 x1 a2 (mI μ a2 (Int32.toNatClampNeg 0)) (mI μ p52 (Int32.toNatClampNeg (mI μ a2 (Int32.toNatClampNeg 0)))) 6 a2 μ89
  else
    if ¬ (mI μ p52 (Int32.toNatClampNeg (mI μ a2 (Int32.toNatClampNeg 0)))) = 15 then
      f_X11_renames_b232 k2 a0 x1 a2 (mI μ a2 (Int32.toNatClampNeg 0)) (mI μ p52 (Int32.toNatClampNeg (mI μ a2 (Int32.toNatClampNeg 0)))) ((mI μ a2 (Int32.toNatClampNeg 0)) + 1) 6 a2 μ89
    else
      f_X11_renames_b220 k2 a0 x1 a2 (mI μ a2 (Int32.toNatClampNeg 0)) (mI μ p52 (Int32.toNatClampNeg (mI μ a2 (Int32.toNatClampNeg 0)))) 6 a2 μ89
def f_X11_renames_b94 (k2 : Nat → Int32 → Mm → Option (Unit × Mm)) : Nat → Nat → Int32 → Nat → Int32 → Mm → Option (Unit × Mm)
  | 0, _, _, _, _, _ => none
  | n + 1, a0, x1, a2, x3, μ =>
  ck (mK μ a0 = 112) <|
  if (mI μ a0 25) ≤ x3 then
    f_X11_renames_b144 k2 a0 x1 a2 μ
  else
    f_X11_renames_b105 k2 (f_X11_renames_b94 k2 n) 5000 a0 x1 a2 x3 0 μ
def f_X11_renames_b82 (k2 : Nat → Int32 → Mm → Option (Unit × Mm)) (a0 : Nat) (x1 : Int32) (a2 : Nat) (μ : Mm) : Option (Unit × Mm) :=
  ck (mK μ a0 = 112) <|
  zl (sI μ a0 25 ((mI μ a0 25) - 1)) fun μ44 =>
  f_X11_renames_b94 k2 5000 a0 x1 a2 0 μ44
def f_X11_renames_b59 (k2 : Nat → Int32 → Mm → Option (Unit × Mm)) : Nat → Nat → Int32 → Nat → Int32 → Mm → Option (Unit × Mm)
  | 0, _, _, _, _, _ => none
  | n + 1, a0, x1, a2, x3, μ =>
  if 28 ≤ x3 then
    f_X11_renames_b82 k2 a0 x1 a2 μ
  else
    ck (mK μ a0 = 112) <|
    bd (mR μ a0 24) fun p30 =>
    ck (isA56 (mK μ p30)) <|
    ck (inb 0 (mL μ p30)) <|
    bd (mR μ p30 (Int32.toNatClampNeg 0)) fun p34 =>
    ck (isA 1 (mK μ p34)) <|
    ck (inb x3 (mL μ p34)) <|
    ck (isA 1 (mK μ a2)) <|
    ck (inb x3 (mL μ a2)) <|
    zl (sI μ a2 (Int32.toNatClampNeg x3) (mI μ p34 (Int32.toNatClampNeg x3))) fun μ40 =>
    f_X11_renames_b59 k2 n a0 x1 a2 (x3 + 1) μ40
def f_X11_renames_b2 : Nat → Nat → Int32 → Mm → Option (Unit × Mm)
  | 0, _, _, _ => none
  | n + 1, a0, x1, μ =>
  ck (mK μ a0 = 112) <|
  if (mI μ a0 6) ≤ x1 then
    some ((), μ)
  else
    if (mI μ a0 25) ≤ 0 then
      some ((), μ)
    else
      bd (mR μ a0 0) fun p4 =>
      bd (mR μ a0 24) fun p6 =>
      ck (isA56 (mK μ p6)) <|
      ck (inb 0 (mL μ p6)) <|
      bd (mR μ p6 (Int32.toNatClampNeg 0)) fun p10 =>
      ck (isA 1 (mK μ p10)) <|
      ck (inb 0 (mL μ p10)) <|
      ck (isA 1 (mK μ p4)) <|
      ck (inb (mI μ p10 (Int32.toNatClampNeg 0)) (mL μ p4)) <|
      bd (f_X11_canRename a0 (mI μ p4 (Int32.toNatClampNeg (mI μ p10 (Int32.toNatClampNeg 0)))) μ) fun y16 =>
      if y16 = 0 then
        some ((), μ)
      else
        bd (mR μ a0 22) fun p19 =>
        ck (isA56 (mK μ p19)) <|
        ck (inb (mI μ a0 23) (mL μ p19)) <|
        bd (mR μ p19 (Int32.toNatClampNeg (mI μ a0 23))) fun p23 =>
        zl (sI μ a0 23 ((mI μ a0 23) + 1)) fun μ25 =>
        f_X11_renames_b59 (f_X11_renames_b2 n) 5000 a0 x1 p23 0 μ25
def f_X11_renames (a0 : Nat) (μ : Mm) : Option (Unit × Mm) :=
  f_X11_renames_b2 5000 a0 0 μ
set_option maxRecDepth 100000 in
theorem s_X11_renames_b138 {l : Launch} {G : Gt} (hG : Gok l G) {k2 : Nat → Int32 → Mm → Option (Unit × Mm)} {k94 : Nat → Int32 → Nat → Int32 → Mm → Option (Unit × Mm)} (hk2 : ∀ (a0 : Nat) (x1 : Int32) (μ : Mm) (r : Unit) (μ' : Mm), k2 a0 x1 μ = some (r, μ') → ZX l G mX11_renames 2 [(0, .ref a0), (1, .int x1)] [] μ (.inl none) μ') (hk94 : ∀ (a0 : Nat) (x1 : Int32) (a2 : Nat) (x3 : Int32) (μ : Mm) (r : Unit) (μ' : Mm), k94 a0 x1 a2 x3 μ = some (r, μ') → ZX l G mX11_renames 94 [(0, .ref a0), (1, .int x1), (2, .ref a2), (3, .int x3)] [] μ (.inl none) μ') (a0 : Nat) (x1 : Int32) (a2 : Nat) (x3 : Int32) (μ : Mm) (r : Unit) (μ' : Mm) (h : f_X11_renames_b138 k2 k94 a0 x1 a2 x3 μ = some (r, μ')) : ZX l G mX11_renames 138 [(0, .ref a0), (1, .int x1), (2, .ref a2), (3, .int x3)] [] μ (.inl none) μ' := by
  unfold f_X11_renames_b138 at h
  refine zx_iinc (q := 3) (v := x3 + 1) (L' := [(3, .int (x3 + 1)), (0, .ref a0), (1, .int x1), (2, .ref a2)]) dX11_renames_138 rfl rfl (by decide) rfl ?_
  refine zx_goto (tgt := 94) dX11_renames_141 (by decide) ?_
  refine zx_sub (L' := [(0, .ref a0), (1, .int x1), (2, .ref a2), (3, .int (x3 + 1))]) [1, 2, 3, 0] rfl ?_
  exact hk94 _ _ _ _ _ _ _ h
set_option maxRecDepth 100000 in
theorem s_X11_renames_b105 {l : Launch} {G : Gt} (hG : Gok l G) {k2 : Nat → Int32 → Mm → Option (Unit × Mm)} {k94 : Nat → Int32 → Nat → Int32 → Mm → Option (Unit × Mm)} (hk2 : ∀ (a0 : Nat) (x1 : Int32) (μ : Mm) (r : Unit) (μ' : Mm), k2 a0 x1 μ = some (r, μ') → ZX l G mX11_renames 2 [(0, .ref a0), (1, .int x1)] [] μ (.inl none) μ') (hk94 : ∀ (a0 : Nat) (x1 : Int32) (a2 : Nat) (x3 : Int32) (μ : Mm) (r : Unit) (μ' : Mm), k94 a0 x1 a2 x3 μ = some (r, μ') → ZX l G mX11_renames 94 [(0, .ref a0), (1, .int x1), (2, .ref a2), (3, .int x3)] [] μ (.inl none) μ') : ∀ (n : Nat) (a0 : Nat) (x1 : Int32) (a2 : Nat) (x3 : Int32) (x4 : Int32) (μ : Mm) (r : Unit) (μ' : Mm), f_X11_renames_b105 k2 k94 n a0 x1 a2 x3 x4 μ = some (r, μ') → ZX l G mX11_renames 105 [(0, .ref a0), (1, .int x1), (2, .ref a2), (3, .int x3), (4, .int x4)] [] μ (.inl none) μ' := by
  intro n
  induction n with
  | zero =>
    intro a0 x1 a2 x3 x4 μ r μ' h
    cases h
  | succ n ih =>
    intro a0 x1 a2 x3 x4 μ r μ' h
    unfold f_X11_renames_b105 at h
    refine zx_iload dX11_renames_105 (q := 4) rfl ?_
    refine zx_bipush (v := 28) dX11_renames_107 iv_bipush_28 ?_
    by_cases c204 : 28 ≤ x4
    · have h := it_t c204 h
      refine zx_icmp_ge_t (tgt := 138) dX11_renames_109 (by decide) c204 ?_
      refine zx_sub (L' := [(0, .ref a0), (1, .int x1), (2, .ref a2), (3, .int x3)]) [0, 1, 2, 3] rfl ?_
      exact s_X11_renames_b138 hG hk2 hk94 _ _ _ _ _ _ _ h
    · have h := it_f c204 h
      refine zx_icmp_ge_f (tgt := 138) dX11_renames_109 (by decide) c204 ?_
      refine zx_aload_n dX11_renames_112 rfl (q := 0) rfl ?_
      obtain ⟨h205, h⟩ := ck_e h
      obtain ⟨p206, h207, h⟩ := bd_e h
      refine zx_getR hG fl_X11_77 h205 h207 dX11_renames_113 ?_
      refine zx_iload_n dX11_renames_116 rfl (q := 3) rfl ?_
      obtain ⟨h208, h⟩ := ck_e h
      obtain ⟨h209, h⟩ := ck_e h
      obtain ⟨p210, h211, h⟩ := bd_e h
      refine zx_aald hG rfl (h208).1 (h208).2 (inb_e h209) h211 dX11_renames_117 ?_
      refine zx_iload dX11_renames_118 (q := 4) rfl ?_
      refine zx_aload_n dX11_renames_120 rfl (q := 0) rfl ?_
      obtain ⟨p212, h213, h⟩ := bd_e h
      refine zx_getR hG fl_X11_77 h205 h213 dX11_renames_121 ?_
      refine zx_iload_n dX11_renames_124 rfl (q := 3) rfl ?_
      refine zx_iconst (v := 1) dX11_renames_125 iv_iconst_1 ?_
      refine zx_iadd dX11_renames_126 ?_
      obtain ⟨h214, h⟩ := ck_e h
      obtain ⟨h215, h⟩ := ck_e h
      obtain ⟨p216, h217, h⟩ := bd_e h
      refine zx_aald hG rfl (h214).1 (h214).2 (inb_e h215) h217 dX11_renames_127 ?_
      refine zx_iload dX11_renames_128 (q := 4) rfl ?_
      obtain ⟨h218, h⟩ := ck_e h
      obtain ⟨h219, h⟩ := ck_e h
      refine zx_iald hG rfl (h218).1 (h218).2 (inb_e h219) dX11_renames_130 ?_
      obtain ⟨h220, h⟩ := ck_e h
      obtain ⟨h221, h⟩ := ck_e h
      refine zx_iast hG rfl (h220).1 (h220).2 (inb_e h221) dX11_renames_131 ?_
      obtain ⟨μ222, e224, h⟩ := zlm_e h
      refine zx_mem e224 ?_
      have e223 : mK μ222 = mK μ := (congrArg mK e224).trans rfl
      refine zx_iinc (q := 4) (v := x4 + 1) (L' := [(4, .int (x4 + 1)), (0, .ref a0), (1, .int x1), (2, .ref a2), (3, .int x3)]) dX11_renames_132 rfl rfl (by decide) rfl ?_
      refine zx_goto (tgt := 105) dX11_renames_135 (by decide) ?_
      refine zx_sub (L' := [(0, .ref a0), (1, .int x1), (2, .ref a2), (3, .int x3), (4, .int (x4 + 1))]) [1, 2, 3, 4, 0] rfl ?_
      exact ih _ _ _ _ _ _ _ _ h
set_option maxRecDepth 100000 in
theorem s_X11_renames_b411 {l : Launch} {G : Gt} (hG : Gok l G) {k2 : Nat → Int32 → Mm → Option (Unit × Mm)} (hk2 : ∀ (a0 : Nat) (x1 : Int32) (μ : Mm) (r : Unit) (μ' : Mm), k2 a0 x1 μ = some (r, μ') → ZX l G mX11_renames 2 [(0, .ref a0), (1, .int x1)] [] μ (.inl none) μ') (a0 : Nat) (x1 : Int32) (a2 : Nat) (s0 : Int32) (s1 : Int32) (s2 : Nat) (μ : Mm) (r : Unit) (μ' : Mm) (h : f_X11_renames_b411 k2 a0 x1 a2 s0 s1 s2 μ = some (r, μ')) : ZX l G mX11_renames 411 [(0, .ref a0), (1, .int x1), (2, .ref a2)] [.int s0, .int s1, .ref s2] μ (.inl none) μ' := by
  unfold f_X11_renames_b411 at h
  obtain ⟨h124, h⟩ := ck_e h
  obtain ⟨h125, h⟩ := ck_e h
  refine zx_iast hG rfl (h124).1 (h124).2 (inb_e h125) dX11_renames_411 ?_
  obtain ⟨μ126, e128, h⟩ := zlm_e h
  refine zx_mem e128 ?_
  have e127 : mK μ126 = mK μ := (congrArg mK e128).trans rfl
  refine zx_aload_n dX11_renames_412 rfl (q := 2) rfl ?_
  refine zx_iconst (v := 4) dX11_renames_413 iv_iconst_4 ?_
  refine zx_aload_n dX11_renames_414 rfl (q := 0) rfl ?_
  obtain ⟨h129, h⟩ := ck_e h
  refine zx_getI hG fl_X11_133 h129 dX11_renames_415 ?_
  obtain ⟨h130, h⟩ := ck_e h
  obtain ⟨h131, h⟩ := ck_e h
  refine zx_iast hG rfl (h130).1 (h130).2 (inb_e h131) dX11_renames_418 ?_
  obtain ⟨μ132, e134, h⟩ := zlm_e h
  refine zx_mem e134 ?_
  have e133 : mK μ132 = mK μ126 := (congrArg mK e134).trans rfl
  refine zx_iinc (q := 1) (v := x1 + 1) (L' := [(1, .int (x1 + 1)), (0, .ref a0), (2, .ref a2)]) dX11_renames_419 rfl rfl (by decide) rfl ?_
  refine zx_goto (tgt := 2) dX11_renames_422 (by decide) ?_
  refine zx_sub (L' := [(0, .ref a0), (1, .int (x1 + 1))]) [1, 0] rfl ?_
  exact hk2 _ _ _ _ _ h
set_option maxRecDepth 100000 in
theorem s_X11_renames_b393 {l : Launch} {G : Gt} (hG : Gok l G) {k2 : Nat → Int32 → Mm → Option (Unit × Mm)} (hk2 : ∀ (a0 : Nat) (x1 : Int32) (μ : Mm) (r : Unit) (μ' : Mm), k2 a0 x1 μ = some (r, μ') → ZX l G mX11_renames 2 [(0, .ref a0), (1, .int x1)] [] μ (.inl none) μ') (a0 : Nat) (x1 : Int32) (a2 : Nat) (x4 : Int32) (μ : Mm) (r : Unit) (μ' : Mm) (h : f_X11_renames_b393 k2 a0 x1 a2 x4 μ = some (r, μ')) : ZX l G mX11_renames 393 [(0, .ref a0), (1, .int x1), (2, .ref a2), (4, .int x4)] [] μ (.inl none) μ' := by
  unfold f_X11_renames_b393 at h
  refine zx_aload_n dX11_renames_393 rfl (q := 2) rfl ?_
  refine zx_bipush (v := 11) dX11_renames_394 iv_bipush_11 ?_
  refine zx_iload dX11_renames_396 (q := 3) rfl ?_
  obtain ⟨y121, z122, h⟩ := bd_e h
  refine zx_callS (As := [.int x4]) hG mf_X11_isQueued cs_X11_212 ⟨by decide, by decide⟩ rfl rfl (Nat.le_of_ble_eq_true rfl) (s_X11_isQueued hG _ _ _ z122) (Nat.le_of_ble_eq_true rfl) dX11_renames_398 ?_
  by_cases c123 : y121 = 0
  · have h := it_t c123 h
    refine zx_if_eq_t (tgt := 409) dX11_renames_401 (by decide) c123 ?_
    refine zx_bipush (v := 101) dX11_renames_409 iv_bipush_101 ?_
    refine zx_sub (L' := [(0, .ref a0), (1, .int x1), (2, .ref a2)]) [0, 1, 2] rfl ?_
    exact s_X11_renames_b411 hG hk2 _ _ _ _ _ _ _ _ _ h
  · have h := it_f c123 h
    refine zx_if_eq_f (tgt := 409) dX11_renames_401 (by decide) c123 ?_
    refine zx_bipush (v := 113) dX11_renames_404 iv_bipush_113 ?_
    refine zx_goto (tgt := 411) dX11_renames_406 (by decide) ?_
    refine zx_sub (L' := [(0, .ref a0), (1, .int x1), (2, .ref a2)]) [0, 1, 2] rfl ?_
    exact s_X11_renames_b411 hG hk2 _ _ _ _ _ _ _ _ _ h
set_option maxRecDepth 100000 in
theorem s_X11_renames_b392 {l : Launch} {G : Gt} (hG : Gok l G) {k2 : Nat → Int32 → Mm → Option (Unit × Mm)} (hk2 : ∀ (a0 : Nat) (x1 : Int32) (μ : Mm) (r : Unit) (μ' : Mm), k2 a0 x1 μ = some (r, μ') → ZX l G mX11_renames 2 [(0, .ref a0), (1, .int x1)] [] μ (.inl none) μ') (a0 : Nat) (x1 : Int32) (a2 : Nat) (x4 : Int32) (s0 : Int32) (s1 : Int32) (s2 : Nat) (μ : Mm) (r : Unit) (μ' : Mm) (h : f_X11_renames_b392 k2 a0 x1 a2 x4 s0 s1 s2 μ = some (r, μ')) : ZX l G mX11_renames 392 [(0, .ref a0), (1, .int x1), (2, .ref a2), (4, .int x4)] [.int s0, .int s1, .ref s2] μ (.inl none) μ' := by
  unfold f_X11_renames_b392 at h
  obtain ⟨h194, h⟩ := ck_e h
  obtain ⟨h195, h⟩ := ck_e h
  refine zx_iast hG rfl (h194).1 (h194).2 (inb_e h195) dX11_renames_392 ?_
  obtain ⟨μ196, e198, h⟩ := zlm_e h
  refine zx_mem e198 ?_
  have e197 : mK μ196 = mK μ := (congrArg mK e198).trans rfl
  exact s_X11_renames_b393 hG hk2 _ _ _ _ _ _ _ h
set_option maxRecDepth 100000 in
theorem s_X11_renames_b361 {l : Launch} {G : Gt} (hG : Gok l G) {k2 : Nat → Int32 → Mm → Option (Unit × Mm)} (hk2 : ∀ (a0 : Nat) (x1 : Int32) (μ : Mm) (r : Unit) (μ' : Mm), k2 a0 x1 μ = some (r, μ') → ZX l G mX11_renames 2 [(0, .ref a0), (1, .int x1)] [] μ (.inl none) μ') (a0 : Nat) (x1 : Int32) (a2 : Nat) (x3 : Int32) (x4 : Int32) (s0 : Int32) (s1 : Int32) (s2 : Nat) (μ : Mm) (r : Unit) (μ' : Mm) (h : f_X11_renames_b361 k2 a0 x1 a2 x3 x4 s0 s1 s2 μ = some (r, μ')) : ZX l G mX11_renames 361 [(0, .ref a0), (1, .int x1), (2, .ref a2), (3, .int x3), (4, .int x4)] [.int s0, .int s1, .ref s2] μ (.inl none) μ' := by
  unfold f_X11_renames_b361 at h
  obtain ⟨h178, h⟩ := ck_e h
  obtain ⟨h179, h⟩ := ck_e h
  refine zx_zast hG rfl (h178).1 (h178).2 (inb_e h179) dX11_renames_361 ?_
  obtain ⟨μ180, e182, h⟩ := zlm_e h
  refine zx_mem e182 ?_
  have e181 : mK μ180 = mK μ := (congrArg mK e182).trans rfl
  refine zx_aload_n dX11_renames_362 rfl (q := 0) rfl ?_
  obtain ⟨h183, h⟩ := ck_e h
  obtain ⟨p184, h185, h⟩ := bd_e h
  refine zx_getR hG fl_X11_62 h183 h185 dX11_renames_363 ?_
  refine zx_aload_n dX11_renames_366 rfl (q := 2) rfl ?_
  refine zx_bipush (v := 9) dX11_renames_367 iv_bipush_9 ?_
  obtain ⟨h186, h⟩ := ck_e h
  obtain ⟨h187, h⟩ := ck_e h
  refine zx_iald hG rfl (h186).1 (h186).2 (inb_e h187) dX11_renames_369 ?_
  refine zx_iload dX11_renames_370 (q := 4) rfl ?_
  refine zx_bipush (v := 15) dX11_renames_372 iv_bipush_15 ?_
  by_cases c188 : ¬ x4 = 15
  · have h := it_t c188 h
    refine zx_icmp_ne_t (tgt := 383) dX11_renames_374 (by decide) c188 ?_
    refine zx_aload_n dX11_renames_383 rfl (q := 0) rfl ?_
    obtain ⟨p189, h190, h⟩ := bd_e h
    refine zx_getR hG fl_X11_62 h183 h190 dX11_renames_384 ?_
    refine zx_aload_n dX11_renames_387 rfl (q := 2) rfl ?_
    refine zx_bipush (v := 9) dX11_renames_388 iv_bipush_9 ?_
    obtain ⟨h191, h⟩ := ck_e h
    refine zx_iald hG rfl (h186).1 (h186).2 (inb_e h191) dX11_renames_390 ?_
    obtain ⟨h192, h⟩ := ck_e h
    obtain ⟨h193, h⟩ := ck_e h
    refine zx_iald hG rfl (h192).1 (h192).2 (inb_e h193) dX11_renames_391 ?_
    refine zx_sub (L' := [(0, .ref a0), (1, .int x1), (2, .ref a2), (4, .int x4)]) [0, 1, 2, 4] rfl ?_
    exact s_X11_renames_b392 hG hk2 _ _ _ _ _ _ _ _ _ _ h
  · have h := it_f c188 h
    refine zx_icmp_ne_f (tgt := 383) dX11_renames_374 (by decide) (Classical.not_not.mp c188) ?_
    refine zx_iload_n dX11_renames_377 rfl (q := 3) rfl ?_
    refine zx_iconst (v := 1) dX11_renames_378 iv_iconst_1 ?_
    refine zx_iadd dX11_renames_379 ?_
    refine zx_goto (tgt := 392) dX11_renames_380 (by decide) ?_
    refine zx_sub (L' := [(0, .ref a0), (1, .int x1), (2, .ref a2), (4, .int x4)]) [0, 1, 2, 4] rfl ?_
    exact s_X11_renames_b392 hG hk2 _ _ _ _ _ _ _ _ _ _ h
set_option maxRecDepth 100000 in
theorem s_X11_renames_b311 {l : Launch} {G : Gt} (hG : Gok l G) {k2 : Nat → Int32 → Mm → Option (Unit × Mm)} (hk2 : ∀ (a0 : Nat) (x1 : Int32) (μ : Mm) (r : Unit) (μ' : Mm), k2 a0 x1 μ = some (r, μ') → ZX l G mX11_renames 2 [(0, .ref a0), (1, .int x1)] [] μ (.inl none) μ') (a0 : Nat) (x1 : Int32) (a2 : Nat) (x3 : Int32) (x4 : Int32) (μ : Mm) (r : Unit) (μ' : Mm) (h : f_X11_renames_b311 k2 a0 x1 a2 x3 x4 μ = some (r, μ')) : ZX l G mX11_renames 311 [(0, .ref a0), (1, .int x1), (2, .ref a2), (3, .int x3), (4, .int x4)] [] μ (.inl none) μ' := by
  unfold f_X11_renames_b311 at h
  refine zx_aload_n dX11_renames_311 rfl (q := 2) rfl ?_
  refine zx_bipush (v := 10) dX11_renames_312 iv_bipush_10 ?_
  refine zx_aload_n dX11_renames_314 rfl (q := 0) rfl ?_
  obtain ⟨h148, h⟩ := ck_e h
  obtain ⟨p149, h150, h⟩ := bd_e h
  refine zx_getR hG fl_X11_56 h148 h150 dX11_renames_315 ?_
  refine zx_aload_n dX11_renames_318 rfl (q := 0) rfl ?_
  obtain ⟨p151, h152, h⟩ := bd_e h
  refine zx_getR hG fl_X11_13 h148 h152 dX11_renames_319 ?_
  refine zx_iload_n dX11_renames_322 rfl (q := 3) rfl ?_
  obtain ⟨h153, h⟩ := ck_e h
  obtain ⟨h154, h⟩ := ck_e h
  refine zx_iald hG rfl (h153).1 (h153).2 (inb_e h154) dX11_renames_323 ?_
  obtain ⟨h155, h⟩ := ck_e h
  obtain ⟨h156, h⟩ := ck_e h
  refine zx_iald hG rfl (h155).1 (h155).2 (inb_e h156) dX11_renames_324 ?_
  obtain ⟨h157, h⟩ := ck_e h
  obtain ⟨h158, h⟩ := ck_e h
  refine zx_iast hG rfl (h157).1 (h157).2 (inb_e h158) dX11_renames_325 ?_
  obtain ⟨μ159, e161, h⟩ := zlm_e h
  refine zx_mem e161 ?_
  have e160 : mK μ159 = mK μ := (congrArg mK e161).trans rfl
  refine zx_aload_n dX11_renames_326 rfl (q := 0) rfl ?_
  obtain ⟨p162, h163, h⟩ := bd_e h
  refine zx_getR hG fl_X11_56 (kp_o (e160) h148) h163 dX11_renames_327 ?_
  refine zx_aload_n dX11_renames_330 rfl (q := 0) rfl ?_
  obtain ⟨p164, h165, h⟩ := bd_e h
  refine zx_getR hG fl_X11_13 (kp_o (e160) h148) h165 dX11_renames_331 ?_
  refine zx_iload_n dX11_renames_334 rfl (q := 3) rfl ?_
  obtain ⟨h166, h⟩ := ck_e h
  obtain ⟨h167, h⟩ := ck_e h
  refine zx_iald hG rfl (h166).1 (h166).2 (inb_e h167) dX11_renames_335 ?_
  refine zx_aload_n dX11_renames_336 rfl (q := 2) rfl ?_
  refine zx_bipush (v := 9) dX11_renames_337 iv_bipush_9 ?_
  obtain ⟨h168, h⟩ := ck_e h
  refine zx_iald hG rfl ((kp_a (e160) h157)).1 ((kp_a (e160) h157)).2 (inb_e h168) dX11_renames_339 ?_
  obtain ⟨h169, h⟩ := ck_e h
  obtain ⟨h170, h⟩ := ck_e h
  refine zx_iast hG rfl (h169).1 (h169).2 (inb_e h170) dX11_renames_340 ?_
  obtain ⟨μ171, e173, h⟩ := zlm_e h
  refine zx_mem e173 ?_
  have e172 : mK μ171 = mK μ159 := (congrArg mK e173).trans rfl
  refine zx_aload_n dX11_renames_341 rfl (q := 0) rfl ?_
  obtain ⟨p174, h175, h⟩ := bd_e h
  refine zx_getR hG fl_X11_65 (kp_o (Eq.trans e172 e160) h148) h175 dX11_renames_342 ?_
  refine zx_aload_n dX11_renames_345 rfl (q := 2) rfl ?_
  refine zx_bipush (v := 9) dX11_renames_346 iv_bipush_9 ?_
  obtain ⟨h176, h⟩ := ck_e h
  refine zx_iald hG rfl ((kp_a (Eq.trans e172 e160) h157)).1 ((kp_a (Eq.trans e172 e160) h157)).2 (inb_e h176) dX11_renames_348 ?_
  refine zx_iload dX11_renames_349 (q := 4) rfl ?_
  refine zx_bipush (v := 15) dX11_renames_351 iv_bipush_15 ?_
  by_cases c177 : ¬ x4 = 15
  · have h := it_t c177 h
    refine zx_icmp_ne_t (tgt := 360) dX11_renames_353 (by decide) c177 ?_
    refine zx_iconst (v := 0) dX11_renames_360 iv_iconst_0 ?_
    exact s_X11_renames_b361 hG hk2 _ _ _ _ _ _ _ _ _ _ _ h
  · have h := it_f c177 h
    refine zx_icmp_ne_f (tgt := 360) dX11_renames_353 (by decide) (Classical.not_not.mp c177) ?_
    refine zx_iconst (v := 1) dX11_renames_356 iv_iconst_1 ?_
    refine zx_goto (tgt := 361) dX11_renames_357 (by decide) ?_
    exact s_X11_renames_b361 hG hk2 _ _ _ _ _ _ _ _ _ _ _ h
set_option maxRecDepth 100000 in
theorem s_X11_renames_b280 {l : Launch} {G : Gt} (hG : Gok l G) {k2 : Nat → Int32 → Mm → Option (Unit × Mm)} (hk2 : ∀ (a0 : Nat) (x1 : Int32) (μ : Mm) (r : Unit) (μ' : Mm), k2 a0 x1 μ = some (r, μ') → ZX l G mX11_renames 2 [(0, .ref a0), (1, .int x1)] [] μ (.inl none) μ') : ∀ (n : Nat) (a0 : Nat) (x1 : Int32) (a2 : Nat) (x3 : Int32) (x4 : Int32) (x5 : Int32) (μ : Mm) (r : Unit) (μ' : Mm), f_X11_renames_b280 k2 n a0 x1 a2 x3 x4 x5 μ = some (r, μ') → ZX l G mX11_renames 280 [(0, .ref a0), (1, .int x1), (2, .ref a2), (3, .int x3), (4, .int x4), (5, .int x5)] [] μ (.inl none) μ' := by
  intro n
  induction n with
  | zero =>
    intro a0 x1 a2 x3 x4 x5 μ r μ' h
    cases h
  | succ n ih =>
    intro a0 x1 a2 x3 x4 x5 μ r μ' h
    unfold f_X11_renames_b280 at h
    refine zx_iload dX11_renames_280 (q := 5) rfl ?_
    refine zx_aload_n dX11_renames_282 rfl (q := 0) rfl ?_
    obtain ⟨h135, h⟩ := ck_e h
    refine zx_getI hG fl_X11_126 h135 dX11_renames_283 ?_
    by_cases c136 : (mI μ a0 21) ≤ x5
    · have h := it_t c136 h
      refine zx_icmp_ge_t (tgt := 311) dX11_renames_286 (by decide) c136 ?_
      refine zx_sub (L' := [(0, .ref a0), (1, .int x1), (2, .ref a2), (3, .int x3), (4, .int x4)]) [0, 1, 2, 3, 4] rfl ?_
      exact s_X11_renames_b311 hG hk2 _ _ _ _ _ _ _ _ h
    · have h := it_f c136 h
      refine zx_icmp_ge_f (tgt := 311) dX11_renames_286 (by decide) c136 ?_
      refine zx_aload_n dX11_renames_289 rfl (q := 0) rfl ?_
      obtain ⟨p137, h138, h⟩ := bd_e h
      refine zx_getR hG fl_X11_69 h135 h138 dX11_renames_290 ?_
      refine zx_iload dX11_renames_293 (q := 5) rfl ?_
      refine zx_aload_n dX11_renames_295 rfl (q := 0) rfl ?_
      obtain ⟨p139, h140, h⟩ := bd_e h
      refine zx_getR hG fl_X11_69 h135 h140 dX11_renames_296 ?_
      refine zx_iload dX11_renames_299 (q := 5) rfl ?_
      refine zx_iconst (v := 1) dX11_renames_301 iv_iconst_1 ?_
      refine zx_iadd dX11_renames_302 ?_
      obtain ⟨h141, h⟩ := ck_e h
      obtain ⟨h142, h⟩ := ck_e h
      refine zx_iald hG rfl (h141).1 (h141).2 (inb_e h142) dX11_renames_303 ?_
      obtain ⟨h143, h⟩ := ck_e h
      obtain ⟨h144, h⟩ := ck_e h
      refine zx_iast hG rfl (h143).1 (h143).2 (inb_e h144) dX11_renames_304 ?_
      obtain ⟨μ145, e147, h⟩ := zlm_e h
      refine zx_mem e147 ?_
      have e146 : mK μ145 = mK μ := (congrArg mK e147).trans rfl
      refine zx_iinc (q := 5) (v := x5 + 1) (L' := [(5, .int (x5 + 1)), (0, .ref a0), (1, .int x1), (2, .ref a2), (3, .int x3), (4, .int x4)]) dX11_renames_305 rfl rfl (by decide) rfl ?_
      refine zx_goto (tgt := 280) dX11_renames_308 (by decide) ?_
      refine zx_sub (L' := [(0, .ref a0), (1, .int x1), (2, .ref a2), (3, .int x3), (4, .int x4), (5, .int (x5 + 1))]) [1, 2, 3, 4, 5, 0] rfl ?_
      exact ih _ _ _ _ _ _ _ _ _ h
set_option maxRecDepth 100000 in
theorem s_X11_renames_b248 {l : Launch} {G : Gt} (hG : Gok l G) {k2 : Nat → Int32 → Mm → Option (Unit × Mm)} (hk2 : ∀ (a0 : Nat) (x1 : Int32) (μ : Mm) (r : Unit) (μ' : Mm), k2 a0 x1 μ = some (r, μ') → ZX l G mX11_renames 2 [(0, .ref a0), (1, .int x1)] [] μ (.inl none) μ') (a0 : Nat) (x1 : Int32) (a2 : Nat) (x3 : Int32) (x4 : Int32) (s0 : Int32) (s1 : Int32) (s2 : Nat) (μ : Mm) (r : Unit) (μ' : Mm) (h : f_X11_renames_b248 k2 a0 x1 a2 x3 x4 s0 s1 s2 μ = some (r, μ')) : ZX l G mX11_renames 248 [(0, .ref a0), (1, .int x1), (2, .ref a2), (3, .int x3), (4, .int x4)] [.int s0, .int s1, .ref s2] μ (.inl none) μ' := by
  unfold f_X11_renames_b248 at h
  obtain ⟨h100, h⟩ := ck_e h
  obtain ⟨h101, h⟩ := ck_e h
  refine zx_iast hG rfl (h100).1 (h100).2 (inb_e h101) dX11_renames_248 ?_
  obtain ⟨μ102, e104, h⟩ := zlm_e h
  refine zx_mem e104 ?_
  have e103 : mK μ102 = mK μ := (congrArg mK e104).trans rfl
  refine zx_iload dX11_renames_249 (q := 4) rfl ?_
  obtain ⟨y105, z106, h⟩ := bd_e h
  refine zx_callS (As := [.int x4]) hG mf_X11_hasD cs_X11_209 ⟨by decide, by decide⟩ rfl rfl (Nat.le_of_ble_eq_true rfl) (s_X11_hasD hG _ _ _ z106) (Nat.le_of_ble_eq_true rfl) dX11_renames_251 ?_
  by_cases c107 : y105 = 0
  · have h := it_t c107 h
    refine zx_if_eq_t (tgt := 393) dX11_renames_254 (by decide) c107 ?_
    refine zx_sub (L' := [(0, .ref a0), (1, .int x1), (2, .ref a2), (4, .int x4)]) [0, 1, 2, 4] rfl ?_
    exact s_X11_renames_b393 hG hk2 _ _ _ _ _ _ _ h
  · have h := it_f c107 h
    refine zx_if_eq_f (tgt := 393) dX11_renames_254 (by decide) c107 ?_
    refine zx_aload_n dX11_renames_257 rfl (q := 2) rfl ?_
    refine zx_bipush (v := 9) dX11_renames_258 iv_bipush_9 ?_
    refine zx_aload_n dX11_renames_260 rfl (q := 0) rfl ?_
    obtain ⟨h108, h⟩ := ck_e h
    obtain ⟨p109, h110, h⟩ := bd_e h
    refine zx_getR hG fl_X11_69 h108 h110 dX11_renames_261 ?_
    refine zx_iconst (v := 0) dX11_renames_264 iv_iconst_0 ?_
    obtain ⟨h111, h⟩ := ck_e h
    obtain ⟨h112, h⟩ := ck_e h
    refine zx_iald hG rfl (h111).1 (h111).2 (inb_e h112) dX11_renames_265 ?_
    obtain ⟨h113, h⟩ := ck_e h
    obtain ⟨h114, h⟩ := ck_e h
    refine zx_iast hG rfl (h113).1 (h113).2 (inb_e h114) dX11_renames_266 ?_
    obtain ⟨μ115, e117, h⟩ := zlm_e h
    refine zx_mem e117 ?_
    have e116 : mK μ115 = mK μ102 := (congrArg mK e117).trans rfl
    refine zx_aload_n dX11_renames_267 rfl (q := 0) rfl ?_
    refine zx_dup dX11_renames_268 rfl ?_
    refine zx_getI hG fl_X11_126 (kp_o (e116) h108) dX11_renames_269 ?_
    refine zx_iconst (v := 1) dX11_renames_272 iv_iconst_1 ?_
    refine zx_isub dX11_renames_273 ?_
    refine zx_putI hG fl_X11_126 fn_12_21 (kp_o (e116) h108) dX11_renames_274 ?_
    obtain ⟨μ118, e120, h⟩ := zlm_e h
    refine zx_mem e120 ?_
    have e119 : mK μ118 = mK μ115 := (congrArg mK e120).trans rfl
    refine zx_iconst (v := 0) dX11_renames_277 iv_iconst_0 ?_
    refine zx_istore (L' := [(5, .int 0), (0, .ref a0), (1, .int x1), (2, .ref a2), (3, .int x3), (4, .int x4)]) dX11_renames_278 (by decide) rfl ?_
    refine zx_sub (L' := [(0, .ref a0), (1, .int x1), (2, .ref a2), (3, .int x3), (4, .int x4), (5, .int 0)]) [1, 2, 3, 4, 5, 0] rfl ?_
    exact s_X11_renames_b280 hG hk2 5000 _ _ _ _ _ _ _ _ _ h
set_option maxRecDepth 100000 in
theorem s_X11_renames_b232 {l : Launch} {G : Gt} (hG : Gok l G) {k2 : Nat → Int32 → Mm → Option (Unit × Mm)} (hk2 : ∀ (a0 : Nat) (x1 : Int32) (μ : Mm) (r : Unit) (μ' : Mm), k2 a0 x1 μ = some (r, μ') → ZX l G mX11_renames 2 [(0, .ref a0), (1, .int x1)] [] μ (.inl none) μ') (a0 : Nat) (x1 : Int32) (a2 : Nat) (x3 : Int32) (x4 : Int32) (s0 : Int32) (s1 : Int32) (s2 : Nat) (μ : Mm) (r : Unit) (μ' : Mm) (h : f_X11_renames_b232 k2 a0 x1 a2 x3 x4 s0 s1 s2 μ = some (r, μ')) : ZX l G mX11_renames 232 [(0, .ref a0), (1, .int x1), (2, .ref a2), (3, .int x3), (4, .int x4)] [.int s0, .int s1, .ref s2] μ (.inl none) μ' := by
  unfold f_X11_renames_b232 at h
  obtain ⟨h94, h⟩ := ck_e h
  obtain ⟨h95, h⟩ := ck_e h
  refine zx_iast hG rfl (h94).1 (h94).2 (inb_e h95) dX11_renames_232 ?_
  obtain ⟨μ96, e98, h⟩ := zlm_e h
  refine zx_mem e98 ?_
  have e97 : mK μ96 = mK μ := (congrArg mK e98).trans rfl
  refine zx_aload_n dX11_renames_233 rfl (q := 2) rfl ?_
  refine zx_bipush (v := 13) dX11_renames_234 iv_bipush_13 ?_
  refine zx_iload dX11_renames_236 (q := 4) rfl ?_
  refine zx_bipush (v := 20) dX11_renames_238 iv_bipush_20 ?_
  by_cases c99 : ¬ x4 = 20
  · have h := it_t c99 h
    refine zx_icmp_ne_t (tgt := 247) dX11_renames_240 (by decide) c99 ?_
    refine zx_iconst (v := 0) dX11_renames_247 iv_iconst_0 ?_
    exact s_X11_renames_b248 hG hk2 _ _ _ _ _ _ _ _ _ _ _ h
  · have h := it_f c99 h
    refine zx_icmp_ne_f (tgt := 247) dX11_renames_240 (by decide) (Classical.not_not.mp c99) ?_
    refine zx_iconst (v := 4) dX11_renames_243 iv_iconst_4 ?_
    refine zx_goto (tgt := 248) dX11_renames_244 (by decide) ?_
    exact s_X11_renames_b248 hG hk2 _ _ _ _ _ _ _ _ _ _ _ h
set_option maxRecDepth 100000 in
theorem s_X11_renames_b220 {l : Launch} {G : Gt} (hG : Gok l G) {k2 : Nat → Int32 → Mm → Option (Unit × Mm)} (hk2 : ∀ (a0 : Nat) (x1 : Int32) (μ : Mm) (r : Unit) (μ' : Mm), k2 a0 x1 μ = some (r, μ') → ZX l G mX11_renames 2 [(0, .ref a0), (1, .int x1)] [] μ (.inl none) μ') (a0 : Nat) (x1 : Int32) (a2 : Nat) (x3 : Int32) (x4 : Int32) (s0 : Int32) (s1 : Nat) (μ : Mm) (r : Unit) (μ' : Mm) (h : f_X11_renames_b220 k2 a0 x1 a2 x3 x4 s0 s1 μ = some (r, μ')) : ZX l G mX11_renames 220 [(0, .ref a0), (1, .int x1), (2, .ref a2), (3, .int x3), (4, .int x4)] [.int s0, .ref s1] μ (.inl none) μ' := by
  unfold f_X11_renames_b220 at h
  refine zx_aload_n dX11_renames_220 rfl (q := 0) rfl ?_
  obtain ⟨h199, h⟩ := ck_e h
  obtain ⟨p200, h201, h⟩ := bd_e h
  refine zx_getR hG fl_X11_22 h199 h201 dX11_renames_221 ?_
  refine zx_iload_n dX11_renames_224 rfl (q := 3) rfl ?_
  obtain ⟨h202, h⟩ := ck_e h
  obtain ⟨h203, h⟩ := ck_e h
  refine zx_iald hG rfl (h202).1 (h202).2 (inb_e h203) dX11_renames_225 ?_
  refine zx_goto (tgt := 232) dX11_renames_226 (by decide) ?_
  exact s_X11_renames_b232 hG hk2 _ _ _ _ _ _ _ _ _ _ _ h
set_option maxRecDepth 100000 in
theorem s_X11_renames_b144 {l : Launch} {G : Gt} (hG : Gok l G) {k2 : Nat → Int32 → Mm → Option (Unit × Mm)} (hk2 : ∀ (a0 : Nat) (x1 : Int32) (μ : Mm) (r : Unit) (μ' : Mm), k2 a0 x1 μ = some (r, μ') → ZX l G mX11_renames 2 [(0, .ref a0), (1, .int x1)] [] μ (.inl none) μ') (a0 : Nat) (x1 : Int32) (a2 : Nat) (μ : Mm) (r : Unit) (μ' : Mm) (h : f_X11_renames_b144 k2 a0 x1 a2 μ = some (r, μ')) : ZX l G mX11_renames 144 [(0, .ref a0), (1, .int x1), (2, .ref a2)] [] μ (.inl none) μ' := by
  unfold f_X11_renames_b144 at h
  refine zx_aload_n dX11_renames_144 rfl (q := 2) rfl ?_
  refine zx_iconst (v := 0) dX11_renames_145 iv_iconst_0 ?_
  obtain ⟨h49, h⟩ := ck_e h
  obtain ⟨h50, h⟩ := ck_e h
  refine zx_iald hG rfl (h49).1 (h49).2 (inb_e h50) dX11_renames_146 ?_
  refine zx_istore_n (L' := [(3, .int (mI μ a2 (Int32.toNatClampNeg 0))), (0, .ref a0), (1, .int x1), (2, .ref a2)]) dX11_renames_147 rfl (by decide) rfl ?_
  refine zx_aload_n dX11_renames_148 rfl (q := 1) rfl ?_
  obtain ⟨h51, h⟩ := ck_e h
  obtain ⟨p52, h53, h⟩ := bd_e h
  refine zx_getR hG fl_X11_9 h51 h53 dX11_renames_149 ?_
  refine zx_iload_n dX11_renames_152 rfl (q := 0) rfl ?_
  obtain ⟨h54, h⟩ := ck_e h
  obtain ⟨h55, h⟩ := ck_e h
  refine zx_iald hG rfl (h54).1 (h54).2 (inb_e h55) dX11_renames_153 ?_
  refine zx_istore (L' := [(4, .int (mI μ p52 (Int32.toNatClampNeg (mI μ a2 (Int32.toNatClampNeg 0))))), (3, .int (mI μ a2 (Int32.toNatClampNeg 0))), (0, .ref a0), (1, .int x1), (2, .ref a2)]) dX11_renames_154 (by decide) rfl ?_
  refine zx_aload_n dX11_renames_156 rfl (q := 4) rfl ?_
  refine zx_iconst (v := 2) dX11_renames_157 iv_iconst_2 ?_
  refine zx_aload_n dX11_renames_158 rfl (q := 2) rfl ?_
  refine zx_getI hG fl_X11_133 h51 dX11_renames_159 ?_
  obtain ⟨h56, h⟩ := ck_e h
  refine zx_iast hG rfl (h49).1 (h49).2 (inb_e h56) dX11_renames_162 ?_
  obtain ⟨μ57, e59, h⟩ := zlm_e h
  refine zx_mem e59 ?_
  have e58 : mK μ57 = mK μ := (congrArg mK e59).trans rfl
  refine zx_aload_n dX11_renames_163 rfl (q := 4) rfl ?_
  refine zx_bipush (v := 7) dX11_renames_164 iv_bipush_7 ?_
  refine zx_aload_n dX11_renames_166 rfl (q := 2) rfl ?_
  obtain ⟨p60, h61, h⟩ := bd_e h
  refine zx_getR hG fl_X11_56 (kp_o (e58) h51) h61 dX11_renames_167 ?_
  refine zx_aload_n dX11_renames_170 rfl (q := 2) rfl ?_
  obtain ⟨p62, h63, h⟩ := bd_e h
  refine zx_getR hG fl_X11_16 (kp_o (e58) h51) h63 dX11_renames_171 ?_
  refine zx_iload_n dX11_renames_174 rfl (q := 1) rfl ?_
  obtain ⟨h64, h⟩ := ck_e h
  obtain ⟨h65, h⟩ := ck_e h
  refine zx_iald hG rfl (h64).1 (h64).2 (inb_e h65) dX11_renames_175 ?_
  obtain ⟨h66, h⟩ := ck_e h
  obtain ⟨h67, h⟩ := ck_e h
  refine zx_iald hG rfl (h66).1 (h66).2 (inb_e h67) dX11_renames_176 ?_
  obtain ⟨h68, h⟩ := ck_e h
  refine zx_iast hG rfl ((kp_a (e58) h49)).1 ((kp_a (e58) h49)).2 (inb_e h68) dX11_renames_177 ?_
  obtain ⟨μ69, e71, h⟩ := zlm_e h
  refine zx_mem e71 ?_
  have e70 : mK μ69 = mK μ57 := (congrArg mK e71).trans rfl
  refine zx_aload_n dX11_renames_178 rfl (q := 4) rfl ?_
  refine zx_bipush (v := 8) dX11_renames_179 iv_bipush_8 ?_
  refine zx_aload_n dX11_renames_181 rfl (q := 2) rfl ?_
  obtain ⟨p72, h73, h⟩ := bd_e h
  refine zx_getR hG fl_X11_56 (kp_o (Eq.trans e70 e58) h51) h73 dX11_renames_182 ?_
  refine zx_aload_n dX11_renames_185 rfl (q := 2) rfl ?_
  obtain ⟨p74, h75, h⟩ := bd_e h
  refine zx_getR hG fl_X11_19 (kp_o (Eq.trans e70 e58) h51) h75 dX11_renames_186 ?_
  refine zx_iload_n dX11_renames_189 rfl (q := 1) rfl ?_
  obtain ⟨h76, h⟩ := ck_e h
  obtain ⟨h77, h⟩ := ck_e h
  refine zx_iald hG rfl (h76).1 (h76).2 (inb_e h77) dX11_renames_190 ?_
  obtain ⟨h78, h⟩ := ck_e h
  obtain ⟨h79, h⟩ := ck_e h
  refine zx_iald hG rfl (h78).1 (h78).2 (inb_e h79) dX11_renames_191 ?_
  obtain ⟨h80, h⟩ := ck_e h
  refine zx_iast hG rfl ((kp_a (Eq.trans e70 e58) h49)).1 ((kp_a (Eq.trans e70 e58) h49)).2 (inb_e h80) dX11_renames_192 ?_
  obtain ⟨μ81, e83, h⟩ := zlm_e h
  refine zx_mem e83 ?_
  have e82 : mK μ81 = mK μ69 := (congrArg mK e83).trans rfl
  refine zx_aload_n dX11_renames_193 rfl (q := 4) rfl ?_
  refine zx_bipush (v := 16) dX11_renames_194 iv_bipush_16 ?_
  refine zx_iconst (v := (-1)) dX11_renames_196 iv_iconst_m1 ?_
  obtain ⟨h84, h⟩ := ck_e h
  refine zx_iast hG rfl ((kp_a (Eq.trans (Eq.trans e82 e70) e58) h49)).1 ((kp_a (Eq.trans (Eq.trans e82 e70) e58) h49)).2 (inb_e h84) dX11_renames_197 ?_
  obtain ⟨μ85, e87, h⟩ := zlm_e h
  refine zx_mem e87 ?_
  have e86 : mK μ85 = mK μ81 := (congrArg mK e87).trans rfl
  refine zx_aload_n dX11_renames_198 rfl (q := 4) rfl ?_
  refine zx_bipush (v := 14) dX11_renames_199 iv_bipush_14 ?_
  refine zx_iconst (v := (-1)) dX11_renames_201 iv_iconst_m1 ?_
  obtain ⟨h88, h⟩ := ck_e h
  refine zx_iast hG rfl ((kp_a (Eq.trans (Eq.trans (Eq.trans e86 e82) e70) e58) h49)).1 ((kp_a (Eq.trans (Eq.trans (Eq.trans e86 e82) e70) e58) h49)).2 (inb_e h88) dX11_renames_202 ?_
  obtain ⟨μ89, e91, h⟩ := zlm_e h
  refine zx_mem e91 ?_
  have e90 : mK μ89 = mK μ85 := (congrArg mK e91).trans rfl
  refine zx_aload_n dX11_renames_203 rfl (q := 4) rfl ?_
  refine zx_bipush (v := 6) dX11_renames_204 iv_bipush_6 ?_
  refine zx_iload dX11_renames_206 (q := 0) rfl ?_
  refine zx_bipush (v := 14) dX11_renames_208 iv_bipush_14 ?_
  by_cases c92 : (mI μ p52 (Int32.toNatClampNeg (mI μ a2 (Int32.toNatClampNeg 0)))) = 14
  · have h := it_t c92 h
    refine zx_icmp_eq_t (tgt := 220) dX11_renames_210 (by decide) c92 ?_
    refine zx_sub (L' := [(0, .ref a0), (1, .int x1), (2, .ref a2), (3, .int (mI μ a2 (Int32.toNatClampNeg 0))), (4, .int (mI μ p52 (Int32.toNatClampNeg (mI μ a2 (Int32.toNatClampNeg 0)))))]) [2, 3, 4, 1, 0] rfl ?_
    exact s_X11_renames_b220 hG hk2 _ _ _ _ _ _ _ _ _ _ h
  · have h := it_f c92 h
    refine zx_icmp_eq_f (tgt := 220) dX11_renames_210 (by decide) c92 ?_
    refine zx_iload dX11_renames_213 (q := 0) rfl ?_
    refine zx_bipush (v := 15) dX11_renames_215 iv_bipush_15 ?_
    by_cases c93 : ¬ (mI μ p52 (Int32.toNatClampNeg (mI μ a2 (Int32.toNatClampNeg 0)))) = 15
    · have h := it_t c93 h
      refine zx_icmp_ne_t (tgt := 229) dX11_renames_217 (by decide) c93 ?_
      refine zx_iload_n dX11_renames_229 rfl (q := 1) rfl ?_
      refine zx_iconst (v := 1) dX11_renames_230 iv_iconst_1 ?_
      refine zx_iadd dX11_renames_231 ?_
      refine zx_sub (L' := [(0, .ref a0), (1, .int x1), (2, .ref a2), (3, .int (mI μ a2 (Int32.toNatClampNeg 0))), (4, .int (mI μ p52 (Int32.toNatClampNeg (mI μ a2 (Int32.toNatClampNeg 0)))))]) [2, 3, 4, 1, 0] rfl ?_
      exact s_X11_renames_b232 hG hk2 _ _ _ _ _ _ _ _ _ _ _ h
    · have h := it_f c93 h
      refine zx_icmp_ne_f (tgt := 229) dX11_renames_217 (by decide) (Classical.not_not.mp c93) ?_
      refine zx_sub (L' := [(0, .ref a0), (1, .int x1), (2, .ref a2), (3, .int (mI μ a2 (Int32.toNatClampNeg 0))), (4, .int (mI μ p52 (Int32.toNatClampNeg (mI μ a2 (Int32.toNatClampNeg 0)))))]) [2, 3, 4, 1, 0] rfl ?_
      exact s_X11_renames_b220 hG hk2 _ _ _ _ _ _ _ _ _ _ h
set_option maxRecDepth 100000 in
theorem s_X11_renames_b94 {l : Launch} {G : Gt} (hG : Gok l G) {k2 : Nat → Int32 → Mm → Option (Unit × Mm)} (hk2 : ∀ (a0 : Nat) (x1 : Int32) (μ : Mm) (r : Unit) (μ' : Mm), k2 a0 x1 μ = some (r, μ') → ZX l G mX11_renames 2 [(0, .ref a0), (1, .int x1)] [] μ (.inl none) μ') : ∀ (n : Nat) (a0 : Nat) (x1 : Int32) (a2 : Nat) (x3 : Int32) (μ : Mm) (r : Unit) (μ' : Mm), f_X11_renames_b94 k2 n a0 x1 a2 x3 μ = some (r, μ') → ZX l G mX11_renames 94 [(0, .ref a0), (1, .int x1), (2, .ref a2), (3, .int x3)] [] μ (.inl none) μ' := by
  intro n
  induction n with
  | zero =>
    intro a0 x1 a2 x3 μ r μ' h
    cases h
  | succ n ih =>
    intro a0 x1 a2 x3 μ r μ' h
    unfold f_X11_renames_b94 at h
    refine zx_iload_n dX11_renames_94 rfl (q := 3) rfl ?_
    refine zx_aload_n dX11_renames_95 rfl (q := 0) rfl ?_
    obtain ⟨h47, h⟩ := ck_e h
    refine zx_getI hG fl_X11_177 h47 dX11_renames_96 ?_
    by_cases c48 : (mI μ a0 25) ≤ x3
    · have h := it_t c48 h
      refine zx_icmp_ge_t (tgt := 144) dX11_renames_99 (by decide) c48 ?_
      refine zx_sub (L' := [(0, .ref a0), (1, .int x1), (2, .ref a2)]) [0, 1, 2] rfl ?_
      exact s_X11_renames_b144 hG hk2 _ _ _ _ _ _ h
    · have h := it_f c48 h
      refine zx_icmp_ge_f (tgt := 144) dX11_renames_99 (by decide) c48 ?_
      refine zx_iconst (v := 0) dX11_renames_102 iv_iconst_0 ?_
      refine zx_istore (L' := [(4, .int 0), (0, .ref a0), (1, .int x1), (2, .ref a2), (3, .int x3)]) dX11_renames_103 (by decide) rfl ?_
      refine zx_sub (L' := [(0, .ref a0), (1, .int x1), (2, .ref a2), (3, .int x3), (4, .int 0)]) [1, 2, 3, 4, 0] rfl ?_
      exact s_X11_renames_b105 hG hk2 ih 5000 _ _ _ _ _ _ _ _ h
set_option maxRecDepth 100000 in
theorem s_X11_renames_b82 {l : Launch} {G : Gt} (hG : Gok l G) {k2 : Nat → Int32 → Mm → Option (Unit × Mm)} (hk2 : ∀ (a0 : Nat) (x1 : Int32) (μ : Mm) (r : Unit) (μ' : Mm), k2 a0 x1 μ = some (r, μ') → ZX l G mX11_renames 2 [(0, .ref a0), (1, .int x1)] [] μ (.inl none) μ') (a0 : Nat) (x1 : Int32) (a2 : Nat) (μ : Mm) (r : Unit) (μ' : Mm) (h : f_X11_renames_b82 k2 a0 x1 a2 μ = some (r, μ')) : ZX l G mX11_renames 82 [(0, .ref a0), (1, .int x1), (2, .ref a2)] [] μ (.inl none) μ' := by
  unfold f_X11_renames_b82 at h
  refine zx_aload_n dX11_renames_82 rfl (q := 0) rfl ?_
  refine zx_dup dX11_renames_83 rfl ?_
  obtain ⟨h43, h⟩ := ck_e h
  refine zx_getI hG fl_X11_177 h43 dX11_renames_84 ?_
  refine zx_iconst (v := 1) dX11_renames_87 iv_iconst_1 ?_
  refine zx_isub dX11_renames_88 ?_
  refine zx_putI hG fl_X11_177 fn_12_25 h43 dX11_renames_89 ?_
  obtain ⟨μ44, e46, h⟩ := zlm_e h
  refine zx_mem e46 ?_
  have e45 : mK μ44 = mK μ := (congrArg mK e46).trans rfl
  refine zx_iconst (v := 0) dX11_renames_92 iv_iconst_0 ?_
  refine zx_istore_n (L' := [(3, .int 0), (0, .ref a0), (1, .int x1), (2, .ref a2)]) dX11_renames_93 rfl (by decide) rfl ?_
  refine zx_sub (L' := [(0, .ref a0), (1, .int x1), (2, .ref a2), (3, .int 0)]) [1, 2, 3, 0] rfl ?_
  exact s_X11_renames_b94 hG hk2 5000 _ _ _ _ _ _ _ h
set_option maxRecDepth 100000 in
theorem s_X11_renames_b59 {l : Launch} {G : Gt} (hG : Gok l G) {k2 : Nat → Int32 → Mm → Option (Unit × Mm)} (hk2 : ∀ (a0 : Nat) (x1 : Int32) (μ : Mm) (r : Unit) (μ' : Mm), k2 a0 x1 μ = some (r, μ') → ZX l G mX11_renames 2 [(0, .ref a0), (1, .int x1)] [] μ (.inl none) μ') : ∀ (n : Nat) (a0 : Nat) (x1 : Int32) (a2 : Nat) (x3 : Int32) (μ : Mm) (r : Unit) (μ' : Mm), f_X11_renames_b59 k2 n a0 x1 a2 x3 μ = some (r, μ') → ZX l G mX11_renames 59 [(0, .ref a0), (1, .int x1), (2, .ref a2), (3, .int x3)] [] μ (.inl none) μ' := by
  intro n
  induction n with
  | zero =>
    intro a0 x1 a2 x3 μ r μ' h
    cases h
  | succ n ih =>
    intro a0 x1 a2 x3 μ r μ' h
    unfold f_X11_renames_b59 at h
    refine zx_iload_n dX11_renames_59 rfl (q := 3) rfl ?_
    refine zx_bipush (v := 28) dX11_renames_60 iv_bipush_28 ?_
    by_cases c28 : 28 ≤ x3
    · have h := it_t c28 h
      refine zx_icmp_ge_t (tgt := 82) dX11_renames_62 (by decide) c28 ?_
      refine zx_sub (L' := [(0, .ref a0), (1, .int x1), (2, .ref a2)]) [0, 1, 2] rfl ?_
      exact s_X11_renames_b82 hG hk2 _ _ _ _ _ _ h
    · have h := it_f c28 h
      refine zx_icmp_ge_f (tgt := 82) dX11_renames_62 (by decide) c28 ?_
      refine zx_aload_n dX11_renames_65 rfl (q := 2) rfl ?_
      refine zx_iload_n dX11_renames_66 rfl (q := 3) rfl ?_
      refine zx_aload_n dX11_renames_67 rfl (q := 0) rfl ?_
      obtain ⟨h29, h⟩ := ck_e h
      obtain ⟨p30, h31, h⟩ := bd_e h
      refine zx_getR hG fl_X11_77 h29 h31 dX11_renames_68 ?_
      refine zx_iconst (v := 0) dX11_renames_71 iv_iconst_0 ?_
      obtain ⟨h32, h⟩ := ck_e h
      obtain ⟨h33, h⟩ := ck_e h
      obtain ⟨p34, h35, h⟩ := bd_e h
      refine zx_aald hG rfl (h32).1 (h32).2 (inb_e h33) h35 dX11_renames_72 ?_
      refine zx_iload_n dX11_renames_73 rfl (q := 3) rfl ?_
      obtain ⟨h36, h⟩ := ck_e h
      obtain ⟨h37, h⟩ := ck_e h
      refine zx_iald hG rfl (h36).1 (h36).2 (inb_e h37) dX11_renames_74 ?_
      obtain ⟨h38, h⟩ := ck_e h
      obtain ⟨h39, h⟩ := ck_e h
      refine zx_iast hG rfl (h38).1 (h38).2 (inb_e h39) dX11_renames_75 ?_
      obtain ⟨μ40, e42, h⟩ := zlm_e h
      refine zx_mem e42 ?_
      have e41 : mK μ40 = mK μ := (congrArg mK e42).trans rfl
      refine zx_iinc (q := 3) (v := x3 + 1) (L' := [(3, .int (x3 + 1)), (0, .ref a0), (1, .int x1), (2, .ref a2)]) dX11_renames_76 rfl rfl (by decide) rfl ?_
      refine zx_goto (tgt := 59) dX11_renames_79 (by decide) ?_
      refine zx_sub (L' := [(0, .ref a0), (1, .int x1), (2, .ref a2), (3, .int (x3 + 1))]) [1, 2, 3, 0] rfl ?_
      exact ih _ _ _ _ _ _ _ h
set_option maxRecDepth 100000 in
theorem s_X11_renames_b2 {l : Launch} {G : Gt} (hG : Gok l G) : ∀ (n : Nat) (a0 : Nat) (x1 : Int32) (μ : Mm) (r : Unit) (μ' : Mm), f_X11_renames_b2 n a0 x1 μ = some (r, μ') → ZX l G mX11_renames 2 [(0, .ref a0), (1, .int x1)] [] μ (.inl none) μ' := by
  intro n
  induction n with
  | zero =>
    intro a0 x1 μ r μ' h
    cases h
  | succ n ih =>
    intro a0 x1 μ r μ' h
    unfold f_X11_renames_b2 at h
    refine zx_iload_n dX11_renames_2 rfl (q := 1) rfl ?_
    refine zx_aload_n dX11_renames_3 rfl (q := 0) rfl ?_
    obtain ⟨h1, h⟩ := ck_e h
    refine zx_getI hG fl_X11_25 h1 dX11_renames_4 ?_
    by_cases c2 : (mI μ a0 6) ≤ x1
    · have h := it_t c2 h
      refine zx_icmp_ge_t (tgt := 425) dX11_renames_7 (by decide) c2 ?_
      cases h
      exact zx_vret dX11_renames_425 rfl
    · have h := it_f c2 h
      refine zx_icmp_ge_f (tgt := 425) dX11_renames_7 (by decide) c2 ?_
      refine zx_aload_n dX11_renames_10 rfl (q := 0) rfl ?_
      refine zx_getI hG fl_X11_177 h1 dX11_renames_11 ?_
      by_cases c3 : (mI μ a0 25) ≤ 0
      · have h := it_t c3 h
        refine zx_if_le_t (tgt := 425) dX11_renames_14 (by decide) c3 ?_
        cases h
        exact zx_vret dX11_renames_425 rfl
      · have h := it_f c3 h
        refine zx_if_le_f (tgt := 425) dX11_renames_14 (by decide) c3 ?_
        refine zx_aload_n dX11_renames_17 rfl (q := 0) rfl ?_
        refine zx_aload_n dX11_renames_18 rfl (q := 0) rfl ?_
        obtain ⟨p4, h5, h⟩ := bd_e h
        refine zx_getR hG fl_X11_9 h1 h5 dX11_renames_19 ?_
        refine zx_aload_n dX11_renames_22 rfl (q := 0) rfl ?_
        obtain ⟨p6, h7, h⟩ := bd_e h
        refine zx_getR hG fl_X11_77 h1 h7 dX11_renames_23 ?_
        refine zx_iconst (v := 0) dX11_renames_26 iv_iconst_0 ?_
        obtain ⟨h8, h⟩ := ck_e h
        obtain ⟨h9, h⟩ := ck_e h
        obtain ⟨p10, h11, h⟩ := bd_e h
        refine zx_aald hG rfl (h8).1 (h8).2 (inb_e h9) h11 dX11_renames_27 ?_
        refine zx_iconst (v := 0) dX11_renames_28 iv_iconst_0 ?_
        obtain ⟨h12, h⟩ := ck_e h
        obtain ⟨h13, h⟩ := ck_e h
        refine zx_iald hG rfl (h12).1 (h12).2 (inb_e h13) dX11_renames_29 ?_
        obtain ⟨h14, h⟩ := ck_e h
        obtain ⟨h15, h⟩ := ck_e h
        refine zx_iald hG rfl (h14).1 (h14).2 (inb_e h15) dX11_renames_30 ?_
        obtain ⟨y16, z17, h⟩ := bd_e h
        refine zx_callV (As := [.int (mI μ p4 (Int32.toNatClampNeg (mI μ p10 (Int32.toNatClampNeg 0))))]) hG mf_X11_canRename cv_X11_219 h1 ⟨by decide, by decide⟩ rfl rfl (Nat.le_of_ble_eq_true rfl) (s_X11_canRename hG _ _ _ _ z17) (Nat.le_of_ble_eq_true rfl) dX11_renames_31 ?_
        by_cases c18 : y16 = 0
        · have h := it_t c18 h
          refine zx_if_eq_t (tgt := 425) dX11_renames_34 (by decide) c18 ?_
          cases h
          exact zx_vret dX11_renames_425 rfl
        · have h := it_f c18 h
          refine zx_if_eq_f (tgt := 425) dX11_renames_34 (by decide) c18 ?_
          refine zx_aload_n dX11_renames_37 rfl (q := 0) rfl ?_
          obtain ⟨p19, h20, h⟩ := bd_e h
          refine zx_getR hG fl_X11_74 h1 h20 dX11_renames_38 ?_
          refine zx_aload_n dX11_renames_41 rfl (q := 0) rfl ?_
          refine zx_getI hG fl_X11_198 h1 dX11_renames_42 ?_
          obtain ⟨h21, h⟩ := ck_e h
          obtain ⟨h22, h⟩ := ck_e h
          obtain ⟨p23, h24, h⟩ := bd_e h
          refine zx_aald hG rfl (h21).1 (h21).2 (inb_e h22) h24 dX11_renames_45 ?_
          refine zx_astore_n (L' := [(2, .ref p23), (0, .ref a0), (1, .int x1)]) dX11_renames_46 rfl (by decide) rfl ?_
          refine zx_aload_n dX11_renames_47 rfl (q := 1) rfl ?_
          refine zx_dup dX11_renames_48 rfl ?_
          refine zx_getI hG fl_X11_198 h1 dX11_renames_49 ?_
          refine zx_iconst (v := 1) dX11_renames_52 iv_iconst_1 ?_
          refine zx_iadd dX11_renames_53 ?_
          refine zx_putI hG fl_X11_198 fn_12_23 h1 dX11_renames_54 ?_
          obtain ⟨μ25, e27, h⟩ := zlm_e h
          refine zx_mem e27 ?_
          have e26 : mK μ25 = mK μ := (congrArg mK e27).trans rfl
          refine zx_iconst (v := 0) dX11_renames_57 iv_iconst_0 ?_
          refine zx_istore_n (L' := [(3, .int 0), (2, .ref p23), (0, .ref a0), (1, .int x1)]) dX11_renames_58 rfl (by decide) rfl ?_
          refine zx_sub (L' := [(0, .ref a0), (1, .int x1), (2, .ref p23), (3, .int 0)]) [2, 3, 1, 0] rfl ?_
          exact s_X11_renames_b59 hG ih 5000 _ _ _ _ _ _ _ h
set_option maxRecDepth 100000 in
theorem s_X11_renames {l : Launch} {G : Gt} (hG : Gok l G) (a0 : Nat) (μ : Mm) (r : Unit) (μ' : Mm) (h : f_X11_renames a0 μ = some (r, μ')) : ZX l G mX11_renames 0 [(0, .ref a0)] [] μ (.inl none) μ' := by
  unfold f_X11_renames at h
  refine zx_iconst (v := 0) dX11_renames_0 iv_iconst_0 ?_
  refine zx_istore_n (L' := [(1, .int 0), (0, .ref a0)]) dX11_renames_1 rfl (by decide) rfl ?_
  refine zx_sub (L' := [(0, .ref a0), (1, .int 0)]) [1, 0] rfl ?_
  exact s_X11_renames_b2 hG 5000 _ _ _ _ _ h
def f_X11_keepsStack_b2 : Nat → Nat → Nat → Int32 → Int32 → Mm → Option (Unit × Mm)
  | 0, _, _, _, _, _ => none
  | n + 1, a0, a1, x2, x3, μ =>
  if 4 < x3 then
    some ((), μ)
  else
    ck (mK μ a0 = 112) <|
    bd (mR μ a0 28) fun p3 =>
    ck (isA 1 (mK μ p3)) <|
    ck (inb x3 (mL μ p3)) <|
    ck (isA 1 (mK μ a1)) <|
    ck (inb (x2 + x3) (mL μ a1)) <|
    zl (sI μ a1 (Int32.toNatClampNeg (x2 + x3)) (mI μ p3 (Int32.toNatClampNeg x3))) fun μ9 =>
    f_X11_keepsStack_b2 n a0 a1 x2 (x3 + 1) μ9
def f_X11_keepsStack (a0 : Nat) (a1 : Nat) (x2 : Int32) (μ : Mm) : Option (Unit × Mm) :=
  f_X11_keepsStack_b2 5000 a0 a1 x2 0 μ
set_option maxRecDepth 100000 in
theorem s_X11_keepsStack_b2 {l : Launch} {G : Gt} (hG : Gok l G) : ∀ (n : Nat) (a0 : Nat) (a1 : Nat) (x2 : Int32) (x3 : Int32) (μ : Mm) (r : Unit) (μ' : Mm), f_X11_keepsStack_b2 n a0 a1 x2 x3 μ = some (r, μ') → ZX l G mX11_keepsStack 2 [(0, .ref a0), (1, .ref a1), (2, .int x2), (3, .int x3)] [] μ (.inl none) μ' := by
  intro n
  induction n with
  | zero =>
    intro a0 a1 x2 x3 μ r μ' h
    cases h
  | succ n ih =>
    intro a0 a1 x2 x3 μ r μ' h
    unfold f_X11_keepsStack_b2 at h
    refine zx_iload_n dX11_keepsStack_2 rfl (q := 3) rfl ?_
    refine zx_iconst (v := 4) dX11_keepsStack_3 iv_iconst_4 ?_
    by_cases c1 : 4 < x3
    · have h := it_t c1 h
      refine zx_icmp_gt_t (tgt := 24) dX11_keepsStack_4 (by decide) c1 ?_
      cases h
      exact zx_vret dX11_keepsStack_24 rfl
    · have h := it_f c1 h
      refine zx_icmp_gt_f (tgt := 24) dX11_keepsStack_4 (by decide) c1 ?_
      refine zx_aload_n dX11_keepsStack_7 rfl (q := 1) rfl ?_
      refine zx_iload_n dX11_keepsStack_8 rfl (q := 2) rfl ?_
      refine zx_iload_n dX11_keepsStack_9 rfl (q := 3) rfl ?_
      refine zx_iadd dX11_keepsStack_10 ?_
      refine zx_aload_n dX11_keepsStack_11 rfl (q := 0) rfl ?_
      obtain ⟨h2, h⟩ := ck_e h
      obtain ⟨p3, h4, h⟩ := bd_e h
      refine zx_getR hG fl_X11_80 h2 h4 dX11_keepsStack_12 ?_
      refine zx_iload_n dX11_keepsStack_15 rfl (q := 3) rfl ?_
      obtain ⟨h5, h⟩ := ck_e h
      obtain ⟨h6, h⟩ := ck_e h
      refine zx_iald hG rfl (h5).1 (h5).2 (inb_e h6) dX11_keepsStack_16 ?_
      obtain ⟨h7, h⟩ := ck_e h
      obtain ⟨h8, h⟩ := ck_e h
      refine zx_iast hG rfl (h7).1 (h7).2 (inb_e h8) dX11_keepsStack_17 ?_
      obtain ⟨μ9, e11, h⟩ := zlm_e h
      refine zx_mem e11 ?_
      have e10 : mK μ9 = mK μ := (congrArg mK e11).trans rfl
      refine zx_iinc (q := 3) (v := x3 + 1) (L' := [(3, .int (x3 + 1)), (0, .ref a0), (1, .ref a1), (2, .int x2)]) dX11_keepsStack_18 rfl rfl (by decide) rfl ?_
      refine zx_goto (tgt := 2) dX11_keepsStack_21 (by decide) ?_
      refine zx_sub (L' := [(0, .ref a0), (1, .ref a1), (2, .int x2), (3, .int (x3 + 1))]) [1, 2, 3, 0] rfl ?_
      exact ih _ _ _ _ _ _ _ h
set_option maxRecDepth 100000 in
theorem s_X11_keepsStack {l : Launch} {G : Gt} (hG : Gok l G) (a0 : Nat) (a1 : Nat) (x2 : Int32) (μ : Mm) (r : Unit) (μ' : Mm) (h : f_X11_keepsStack a0 a1 x2 μ = some (r, μ')) : ZX l G mX11_keepsStack 0 [(0, .ref a0), (1, .ref a1), (2, .int x2)] [] μ (.inl none) μ' := by
  unfold f_X11_keepsStack at h
  refine zx_iconst (v := 0) dX11_keepsStack_0 iv_iconst_0 ?_
  refine zx_istore_n (L' := [(3, .int 0), (0, .ref a0), (1, .ref a1), (2, .int x2)]) dX11_keepsStack_1 rfl (by decide) rfl ?_
  refine zx_sub (L' := [(0, .ref a0), (1, .ref a1), (2, .int x2), (3, .int 0)]) [1, 2, 3, 0] rfl ?_
  exact s_X11_keepsStack_b2 hG 5000 _ _ _ _ _ _ _ h
def f_X11_guess_b19 (a0 : Nat) (x1 : Int32) (μ : Mm) : Option (Int32 × Mm) :=
  ck (mK μ a0 = 112) <|
  bd (mR μ a0 29) fun p51 =>
  ck (¬ (16 : Int32) = 0) <|
  ck (isA 1 (mK μ p51)) <|
  ck (inb (x1 - x1 / 16 * 16) (mL μ p51)) <|
  if (mI μ p51 (Int32.toNatClampNeg (x1 - x1 / 16 * 16))) < 2 then
    some (x1 + 1, μ)
  else
    bd (mR μ a0 4) fun p57 =>
    ck (isA 1 (mK μ p57)) <|
    ck (inb x1 (mL μ p57)) <|
    some (mI μ p57 (Int32.toNatClampNeg x1), μ)
def f_X11_guess_b57 (a0 : Nat) (x1 : Int32) (μ : Mm) : Option (Int32 × Mm) :=
  ck (mK μ a0 = 112) <|
  bd (mR μ a0 4) fun p46 =>
  ck (isA 1 (mK μ p46)) <|
  ck (inb x1 (mL μ p46)) <|
  some (mI μ p46 (Int32.toNatClampNeg x1), μ)
def f_X11_guess_b134 (x1 : Int32) (μ : Mm) : Option (Int32 × Mm) :=
  some (x1 + 1, μ)
def f_X11_guess_b103 (a0 : Nat) (x1 : Int32) (x2 : Int32) (μ : Mm) : Option (Int32 × Mm) :=
  if ¬ x2 = 17 then
    f_X11_guess_b134 x1 μ
  else
    ck (mK μ a0 = 112) <|
    bd (mR μ a0 30) fun p34 =>
    ck (¬ (8 : Int32) = 0) <|
    ck (isA 1 (mK μ p34)) <|
    ck (inb (x1 - x1 / 8 * 8) (mL μ p34)) <|
    if (mI μ p34 (Int32.toNatClampNeg (x1 - x1 / 8 * 8))) = ((-1)) then
      f_X11_guess_b134 x1 μ
    else
      bd (mR μ a0 30) fun p40 =>
      ck (¬ (8 : Int32) = 0) <|
      ck (isA 1 (mK μ p40)) <|
      ck (inb (x1 - x1 / 8 * 8) (mL μ p40)) <|
      some (mI μ p40 (Int32.toNatClampNeg (x1 - x1 / 8 * 8)), μ)
def f_X11_guess (a0 : Nat) (x1 : Int32) (μ : Mm) : Option (Int32 × Mm) :=
  ck (mK μ a0 = 112) <|
  bd (mR μ a0 0) fun p2 =>
  ck (isA 1 (mK μ p2)) <|
  ck (inb x1 (mL μ p2)) <|
  if (mI μ p2 (Int32.toNatClampNeg x1)) = 12 then
    f_X11_guess_b19 a0 x1 μ
  else
    if ¬ (mI μ p2 (Int32.toNatClampNeg x1)) = 13 then
      if (mI μ p2 (Int32.toNatClampNeg x1)) = 14 then
        f_X11_guess_b57 a0 x1 μ
      else
        if ¬ (mI μ p2 (Int32.toNatClampNeg x1)) = 15 then
          if ¬ (mI μ p2 (Int32.toNatClampNeg x1)) = 16 then
            f_X11_guess_b103 a0 x1 (mI μ p2 (Int32.toNatClampNeg x1)) μ
          else
            bd (mR μ a0 28) fun p11 =>
            ck (isA 1 (mK μ p11)) <|
            ck (inb 0 (mL μ p11)) <|
            if (mI μ p11 (Int32.toNatClampNeg 0)) ≤ 0 then
              f_X11_guess_b103 a0 x1 (mI μ p2 (Int32.toNatClampNeg x1)) μ
            else
              bd (mR μ a0 28) fun p16 =>
              ck (isA 1 (mK μ p16)) <|
              ck (inb 0 (mL μ p16)) <|
              ck (inb 0 (mL μ p16)) <|
              zl (sI μ p16 (Int32.toNatClampNeg 0) ((mI μ p16 (Int32.toNatClampNeg 0)) - 1)) fun μ21 =>
              bd (mR μ21 a0 28) fun p24 =>
              bd (mR μ21 a0 28) fun p26 =>
              ck (isA 1 (mK μ21 p26)) <|
              ck (inb 0 (mL μ21 p26)) <|
              ck (isA 1 (mK μ21 p24)) <|
              ck (inb ((mI μ21 p26 (Int32.toNatClampNeg 0)) + 1) (mL μ21 p24)) <|
              some (mI μ21 p24 (Int32.toNatClampNeg ((mI μ21 p26 (Int32.toNatClampNeg 0)) + 1)), μ21)
        else
          f_X11_guess_b57 a0 x1 μ
    else
      f_X11_guess_b19 a0 x1 μ
set_option maxRecDepth 100000 in
theorem s_X11_guess_b19 {l : Launch} {G : Gt} (hG : Gok l G) (a0 : Nat) (x1 : Int32) (μ : Mm) (r : Int32) (μ' : Mm) (h : f_X11_guess_b19 a0 x1 μ = some (r, μ')) : ZX l G mX11_guess 19 [(0, .ref a0), (1, .int x1)] [] μ (.inl (some (.int r))) μ' := by
  unfold f_X11_guess_b19 at h
  refine zx_aload_n dX11_guess_19 rfl (q := 0) rfl ?_
  obtain ⟨h50, h⟩ := ck_e h
  obtain ⟨p51, h52, h⟩ := bd_e h
  refine zx_getR hG fl_X11_83 h50 h52 dX11_guess_20 ?_
  refine zx_iload_n dX11_guess_23 rfl (q := 1) rfl ?_
  refine zx_bipush (v := 16) dX11_guess_24 iv_bipush_16 ?_
  obtain ⟨h53, h⟩ := ck_e h
  refine zx_irem dX11_guess_26 h53 ?_
  obtain ⟨h54, h⟩ := ck_e h
  obtain ⟨h55, h⟩ := ck_e h
  refine zx_iald hG rfl (h54).1 (h54).2 (inb_e h55) dX11_guess_27 ?_
  refine zx_iconst (v := 2) dX11_guess_28 iv_iconst_2 ?_
  by_cases c56 : (mI μ p51 (Int32.toNatClampNeg (x1 - x1 / 16 * 16))) < 2
  · have h := it_t c56 h
    refine zx_icmp_lt_t (tgt := 41) dX11_guess_29 (by decide) c56 ?_
    refine zx_iload_n dX11_guess_41 rfl (q := 1) rfl ?_
    refine zx_iconst (v := 1) dX11_guess_42 iv_iconst_1 ?_
    refine zx_iadd dX11_guess_43 ?_
    cases h
    exact zx_iret dX11_guess_44 rfl
  · have h := it_f c56 h
    refine zx_icmp_lt_f (tgt := 41) dX11_guess_29 (by decide) c56 ?_
    refine zx_aload_n dX11_guess_32 rfl (q := 0) rfl ?_
    obtain ⟨p57, h58, h⟩ := bd_e h
    refine zx_getR hG fl_X11_22 h50 h58 dX11_guess_33 ?_
    refine zx_iload_n dX11_guess_36 rfl (q := 1) rfl ?_
    obtain ⟨h59, h⟩ := ck_e h
    obtain ⟨h60, h⟩ := ck_e h
    refine zx_iald hG rfl (h59).1 (h59).2 (inb_e h60) dX11_guess_37 ?_
    refine zx_goto (tgt := 44) dX11_guess_38 (by decide) ?_
    cases h
    exact zx_iret dX11_guess_44 rfl
set_option maxRecDepth 100000 in
theorem s_X11_guess_b57 {l : Launch} {G : Gt} (hG : Gok l G) (a0 : Nat) (x1 : Int32) (μ : Mm) (r : Int32) (μ' : Mm) (h : f_X11_guess_b57 a0 x1 μ = some (r, μ')) : ZX l G mX11_guess 57 [(0, .ref a0), (1, .int x1)] [] μ (.inl (some (.int r))) μ' := by
  unfold f_X11_guess_b57 at h
  refine zx_aload_n dX11_guess_57 rfl (q := 0) rfl ?_
  obtain ⟨h45, h⟩ := ck_e h
  obtain ⟨p46, h47, h⟩ := bd_e h
  refine zx_getR hG fl_X11_22 h45 h47 dX11_guess_58 ?_
  refine zx_iload_n dX11_guess_61 rfl (q := 1) rfl ?_
  obtain ⟨h48, h⟩ := ck_e h
  obtain ⟨h49, h⟩ := ck_e h
  refine zx_iald hG rfl (h48).1 (h48).2 (inb_e h49) dX11_guess_62 ?_
  cases h
  exact zx_iret dX11_guess_63 rfl
set_option maxRecDepth 100000 in
theorem s_X11_guess_b134 {l : Launch} {G : Gt} (hG : Gok l G) (x1 : Int32) (μ : Mm) (r : Int32) (μ' : Mm) (h : f_X11_guess_b134 x1 μ = some (r, μ')) : ZX l G mX11_guess 134 [(1, .int x1)] [] μ (.inl (some (.int r))) μ' := by
  unfold f_X11_guess_b134 at h
  refine zx_iload_n dX11_guess_134 rfl (q := 0) rfl ?_
  refine zx_iconst (v := 1) dX11_guess_135 iv_iconst_1 ?_
  refine zx_iadd dX11_guess_136 ?_
  cases h
  exact zx_iret dX11_guess_137 rfl
set_option maxRecDepth 100000 in
theorem s_X11_guess_b103 {l : Launch} {G : Gt} (hG : Gok l G) (a0 : Nat) (x1 : Int32) (x2 : Int32) (μ : Mm) (r : Int32) (μ' : Mm) (h : f_X11_guess_b103 a0 x1 x2 μ = some (r, μ')) : ZX l G mX11_guess 103 [(0, .ref a0), (1, .int x1), (2, .int x2)] [] μ (.inl (some (.int r))) μ' := by
  unfold f_X11_guess_b103 at h
  refine zx_iload_n dX11_guess_103 rfl (q := 2) rfl ?_
  refine zx_bipush (v := 17) dX11_guess_104 iv_bipush_17 ?_
  by_cases c32 : ¬ x2 = 17
  · have h := it_t c32 h
    refine zx_icmp_ne_t (tgt := 134) dX11_guess_106 (by decide) c32 ?_
    refine zx_sub (L' := [(1, .int x1)]) [1] rfl ?_
    exact s_X11_guess_b134 hG _ _ _ _ h
  · have h := it_f c32 h
    refine zx_icmp_ne_f (tgt := 134) dX11_guess_106 (by decide) (Classical.not_not.mp c32) ?_
    refine zx_aload_n dX11_guess_109 rfl (q := 0) rfl ?_
    obtain ⟨h33, h⟩ := ck_e h
    obtain ⟨p34, h35, h⟩ := bd_e h
    refine zx_getR hG fl_X11_86 h33 h35 dX11_guess_110 ?_
    refine zx_iload_n dX11_guess_113 rfl (q := 1) rfl ?_
    refine zx_bipush (v := 8) dX11_guess_114 iv_bipush_8 ?_
    obtain ⟨h36, h⟩ := ck_e h
    refine zx_irem dX11_guess_116 h36 ?_
    obtain ⟨h37, h⟩ := ck_e h
    obtain ⟨h38, h⟩ := ck_e h
    refine zx_iald hG rfl (h37).1 (h37).2 (inb_e h38) dX11_guess_117 ?_
    refine zx_iconst (v := (-1)) dX11_guess_118 iv_iconst_m1 ?_
    by_cases c39 : (mI μ p34 (Int32.toNatClampNeg (x1 - x1 / 8 * 8))) = ((-1))
    · have h := it_t c39 h
      refine zx_icmp_eq_t (tgt := 134) dX11_guess_119 (by decide) c39 ?_
      refine zx_sub (L' := [(1, .int x1)]) [1] rfl ?_
      exact s_X11_guess_b134 hG _ _ _ _ h
    · have h := it_f c39 h
      refine zx_icmp_eq_f (tgt := 134) dX11_guess_119 (by decide) c39 ?_
      refine zx_aload_n dX11_guess_122 rfl (q := 0) rfl ?_
      obtain ⟨p40, h41, h⟩ := bd_e h
      refine zx_getR hG fl_X11_86 h33 h41 dX11_guess_123 ?_
      refine zx_iload_n dX11_guess_126 rfl (q := 1) rfl ?_
      refine zx_bipush (v := 8) dX11_guess_127 iv_bipush_8 ?_
      obtain ⟨h42, h⟩ := ck_e h
      refine zx_irem dX11_guess_129 h42 ?_
      obtain ⟨h43, h⟩ := ck_e h
      obtain ⟨h44, h⟩ := ck_e h
      refine zx_iald hG rfl (h43).1 (h43).2 (inb_e h44) dX11_guess_130 ?_
      refine zx_goto (tgt := 137) dX11_guess_131 (by decide) ?_
      cases h
      exact zx_iret dX11_guess_137 rfl
set_option maxRecDepth 100000 in
theorem s_X11_guess {l : Launch} {G : Gt} (hG : Gok l G) (a0 : Nat) (x1 : Int32) (μ : Mm) (r : Int32) (μ' : Mm) (h : f_X11_guess a0 x1 μ = some (r, μ')) : ZX l G mX11_guess 0 [(0, .ref a0), (1, .int x1)] [] μ (.inl (some (.int r))) μ' := by
  unfold f_X11_guess at h
  refine zx_aload_n dX11_guess_0 rfl (q := 0) rfl ?_
  obtain ⟨h1, h⟩ := ck_e h
  obtain ⟨p2, h3, h⟩ := bd_e h
  refine zx_getR hG fl_X11_9 h1 h3 dX11_guess_1 ?_
  refine zx_iload_n dX11_guess_4 rfl (q := 1) rfl ?_
  obtain ⟨h4, h⟩ := ck_e h
  obtain ⟨h5, h⟩ := ck_e h
  refine zx_iald hG rfl (h4).1 (h4).2 (inb_e h5) dX11_guess_5 ?_
  refine zx_istore_n (L' := [(2, .int (mI μ p2 (Int32.toNatClampNeg x1))), (0, .ref a0), (1, .int x1)]) dX11_guess_6 rfl (by decide) rfl ?_
  refine zx_iload_n dX11_guess_7 rfl (q := 0) rfl ?_
  refine zx_bipush (v := 12) dX11_guess_8 iv_bipush_12 ?_
  by_cases c6 : (mI μ p2 (Int32.toNatClampNeg x1)) = 12
  · have h := it_t c6 h
    refine zx_icmp_eq_t (tgt := 19) dX11_guess_10 (by decide) c6 ?_
    refine zx_sub (L' := [(0, .ref a0), (1, .int x1)]) [1, 2] rfl ?_
    exact s_X11_guess_b19 hG _ _ _ _ _ h
  · have h := it_f c6 h
    refine zx_icmp_eq_f (tgt := 19) dX11_guess_10 (by decide) c6 ?_
    refine zx_iload_n dX11_guess_13 rfl (q := 0) rfl ?_
    refine zx_bipush (v := 13) dX11_guess_14 iv_bipush_13 ?_
    by_cases c7 : ¬ (mI μ p2 (Int32.toNatClampNeg x1)) = 13
    · have h := it_t c7 h
      refine zx_icmp_ne_t (tgt := 45) dX11_guess_16 (by decide) c7 ?_
      refine zx_iload_n dX11_guess_45 rfl (q := 0) rfl ?_
      refine zx_bipush (v := 14) dX11_guess_46 iv_bipush_14 ?_
      by_cases c8 : (mI μ p2 (Int32.toNatClampNeg x1)) = 14
      · have h := it_t c8 h
        refine zx_icmp_eq_t (tgt := 57) dX11_guess_48 (by decide) c8 ?_
        refine zx_sub (L' := [(0, .ref a0), (1, .int x1)]) [1, 2] rfl ?_
        exact s_X11_guess_b57 hG _ _ _ _ _ h
      · have h := it_f c8 h
        refine zx_icmp_eq_f (tgt := 57) dX11_guess_48 (by decide) c8 ?_
        refine zx_iload_n dX11_guess_51 rfl (q := 0) rfl ?_
        refine zx_bipush (v := 15) dX11_guess_52 iv_bipush_15 ?_
        by_cases c9 : ¬ (mI μ p2 (Int32.toNatClampNeg x1)) = 15
        · have h := it_t c9 h
          refine zx_icmp_ne_t (tgt := 64) dX11_guess_54 (by decide) c9 ?_
          refine zx_iload_n dX11_guess_64 rfl (q := 0) rfl ?_
          refine zx_bipush (v := 16) dX11_guess_65 iv_bipush_16 ?_
          by_cases c10 : ¬ (mI μ p2 (Int32.toNatClampNeg x1)) = 16
          · have h := it_t c10 h
            refine zx_icmp_ne_t (tgt := 103) dX11_guess_67 (by decide) c10 ?_
            refine zx_sub (L' := [(0, .ref a0), (1, .int x1), (2, .int (mI μ p2 (Int32.toNatClampNeg x1)))]) [1, 2, 0] rfl ?_
            exact s_X11_guess_b103 hG _ _ _ _ _ _ h
          · have h := it_f c10 h
            refine zx_icmp_ne_f (tgt := 103) dX11_guess_67 (by decide) (Classical.not_not.mp c10) ?_
            refine zx_aload_n dX11_guess_70 rfl (q := 1) rfl ?_
            obtain ⟨p11, h12, h⟩ := bd_e h
            refine zx_getR hG fl_X11_80 h1 h12 dX11_guess_71 ?_
            refine zx_iconst (v := 0) dX11_guess_74 iv_iconst_0 ?_
            obtain ⟨h13, h⟩ := ck_e h
            obtain ⟨h14, h⟩ := ck_e h
            refine zx_iald hG rfl (h13).1 (h13).2 (inb_e h14) dX11_guess_75 ?_
            by_cases c15 : (mI μ p11 (Int32.toNatClampNeg 0)) ≤ 0
            · have h := it_t c15 h
              refine zx_if_le_t (tgt := 103) dX11_guess_76 (by decide) c15 ?_
              refine zx_sub (L' := [(0, .ref a0), (1, .int x1), (2, .int (mI μ p2 (Int32.toNatClampNeg x1)))]) [1, 2, 0] rfl ?_
              exact s_X11_guess_b103 hG _ _ _ _ _ _ h
            · have h := it_f c15 h
              refine zx_if_le_f (tgt := 103) dX11_guess_76 (by decide) c15 ?_
              refine zx_aload_n dX11_guess_79 rfl (q := 1) rfl ?_
              obtain ⟨p16, h17, h⟩ := bd_e h
              refine zx_getR hG fl_X11_80 h1 h17 dX11_guess_80 ?_
              refine zx_iconst (v := 0) dX11_guess_83 iv_iconst_0 ?_
              refine zx_dup2 dX11_guess_84 rfl rfl ?_
              obtain ⟨h18, h⟩ := ck_e h
              obtain ⟨h19, h⟩ := ck_e h
              refine zx_iald hG rfl (h18).1 (h18).2 (inb_e h19) dX11_guess_85 ?_
              refine zx_iconst (v := 1) dX11_guess_86 iv_iconst_1 ?_
              refine zx_isub dX11_guess_87 ?_
              obtain ⟨h20, h⟩ := ck_e h
              refine zx_iast hG rfl (h18).1 (h18).2 (inb_e h20) dX11_guess_88 ?_
              obtain ⟨μ21, e23, h⟩ := zlm_e h
              refine zx_mem e23 ?_
              have e22 : mK μ21 = mK μ := (congrArg mK e23).trans rfl
              refine zx_aload_n dX11_guess_89 rfl (q := 1) rfl ?_
              obtain ⟨p24, h25, h⟩ := bd_e h
              refine zx_getR hG fl_X11_80 (kp_o (e22) h1) h25 dX11_guess_90 ?_
              refine zx_aload_n dX11_guess_93 rfl (q := 1) rfl ?_
              obtain ⟨p26, h27, h⟩ := bd_e h
              refine zx_getR hG fl_X11_80 (kp_o (e22) h1) h27 dX11_guess_94 ?_
              refine zx_iconst (v := 0) dX11_guess_97 iv_iconst_0 ?_
              obtain ⟨h28, h⟩ := ck_e h
              obtain ⟨h29, h⟩ := ck_e h
              refine zx_iald hG rfl (h28).1 (h28).2 (inb_e h29) dX11_guess_98 ?_
              refine zx_iconst (v := 1) dX11_guess_99 iv_iconst_1 ?_
              refine zx_iadd dX11_guess_100 ?_
              obtain ⟨h30, h⟩ := ck_e h
              obtain ⟨h31, h⟩ := ck_e h
              refine zx_iald hG rfl (h30).1 (h30).2 (inb_e h31) dX11_guess_101 ?_
              cases h
              exact zx_iret dX11_guess_102 rfl
        · have h := it_f c9 h
          refine zx_icmp_ne_f (tgt := 64) dX11_guess_54 (by decide) (Classical.not_not.mp c9) ?_
          refine zx_sub (L' := [(0, .ref a0), (1, .int x1)]) [1, 2] rfl ?_
          exact s_X11_guess_b57 hG _ _ _ _ _ h
    · have h := it_f c7 h
      refine zx_icmp_ne_f (tgt := 45) dX11_guess_16 (by decide) (Classical.not_not.mp c7) ?_
      refine zx_sub (L' := [(0, .ref a0), (1, .int x1)]) [1, 2] rfl ?_
      exact s_X11_guess_b19 hG _ _ _ _ _ h
