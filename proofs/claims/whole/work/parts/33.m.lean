theorem dX11_pushes_0 : decode cX11_pushes 0 = .ok (.aload_n 0, 1) := by decide +kernel
theorem dX11_pushes_1 : decode cX11_pushes 1 = .ok (.getfield 80, 3) := by decide +kernel
theorem dX11_pushes_4 : decode cX11_pushes 4 = .ok (.iconst 0, 1) := by decide +kernel
theorem dX11_pushes_5 : decode cX11_pushes 5 = .ok (.iaload, 1) := by decide +kernel
theorem dX11_pushes_6 : decode cX11_pushes 6 = .ok (.iconst 4, 1) := by decide +kernel
theorem dX11_pushes_7 : decode cX11_pushes 7 = .ok (.if_icmp .ne 40, 3) := by decide +kernel
theorem dX11_pushes_10 : decode cX11_pushes 10 = .ok (.iconst 1, 1) := by decide +kernel
theorem dX11_pushes_11 : decode cX11_pushes 11 = .ok (.istore_n 2, 1) := by decide +kernel
theorem dX11_pushes_12 : decode cX11_pushes 12 = .ok (.iload_n 2, 1) := by decide +kernel
theorem dX11_pushes_13 : decode cX11_pushes 13 = .ok (.iconst 4, 1) := by decide +kernel
theorem dX11_pushes_14 : decode cX11_pushes 14 = .ok (.if_icmp .ge 23, 3) := by decide +kernel
theorem dX11_pushes_17 : decode cX11_pushes 17 = .ok (.aload_n 0, 1) := by decide +kernel
theorem dX11_pushes_18 : decode cX11_pushes 18 = .ok (.getfield 80, 3) := by decide +kernel
theorem dX11_pushes_21 : decode cX11_pushes 21 = .ok (.iload_n 2, 1) := by decide +kernel
theorem dX11_pushes_22 : decode cX11_pushes 22 = .ok (.aload_n 0, 1) := by decide +kernel
theorem dX11_pushes_23 : decode cX11_pushes 23 = .ok (.getfield 80, 3) := by decide +kernel
theorem dX11_pushes_26 : decode cX11_pushes 26 = .ok (.iload_n 2, 1) := by decide +kernel
theorem dX11_pushes_27 : decode cX11_pushes 27 = .ok (.iconst 1, 1) := by decide +kernel
theorem dX11_pushes_28 : decode cX11_pushes 28 = .ok (.iadd, 1) := by decide +kernel
theorem dX11_pushes_29 : decode cX11_pushes 29 = .ok (.iaload, 1) := by decide +kernel
theorem dX11_pushes_30 : decode cX11_pushes 30 = .ok (.iastore, 1) := by decide +kernel
theorem dX11_pushes_31 : decode cX11_pushes 31 = .ok (.iinc 2 1, 3) := by decide +kernel
theorem dX11_pushes_34 : decode cX11_pushes 34 = .ok (.goto (-22), 3) := by decide +kernel
theorem dX11_pushes_37 : decode cX11_pushes 37 = .ok (.aload_n 0, 1) := by decide +kernel
theorem dX11_pushes_38 : decode cX11_pushes 38 = .ok (.getfield 80, 3) := by decide +kernel
theorem dX11_pushes_41 : decode cX11_pushes 41 = .ok (.iconst 0, 1) := by decide +kernel
theorem dX11_pushes_42 : decode cX11_pushes 42 = .ok (.dup2, 1) := by decide +kernel
theorem dX11_pushes_43 : decode cX11_pushes 43 = .ok (.iaload, 1) := by decide +kernel
theorem dX11_pushes_44 : decode cX11_pushes 44 = .ok (.iconst 1, 1) := by decide +kernel
theorem dX11_pushes_45 : decode cX11_pushes 45 = .ok (.isub, 1) := by decide +kernel
theorem dX11_pushes_46 : decode cX11_pushes 46 = .ok (.iastore, 1) := by decide +kernel
theorem dX11_pushes_47 : decode cX11_pushes 47 = .ok (.aload_n 0, 1) := by decide +kernel
theorem dX11_pushes_48 : decode cX11_pushes 48 = .ok (.getfield 80, 3) := by decide +kernel
theorem dX11_pushes_51 : decode cX11_pushes 51 = .ok (.iconst 0, 1) := by decide +kernel
theorem dX11_pushes_52 : decode cX11_pushes 52 = .ok (.dup2, 1) := by decide +kernel
theorem dX11_pushes_53 : decode cX11_pushes 53 = .ok (.iaload, 1) := by decide +kernel
theorem dX11_pushes_54 : decode cX11_pushes 54 = .ok (.iconst 1, 1) := by decide +kernel
theorem dX11_pushes_55 : decode cX11_pushes 55 = .ok (.iadd, 1) := by decide +kernel
theorem dX11_pushes_56 : decode cX11_pushes 56 = .ok (.iastore, 1) := by decide +kernel
theorem dX11_pushes_57 : decode cX11_pushes 57 = .ok (.aload_n 0, 1) := by decide +kernel
theorem dX11_pushes_58 : decode cX11_pushes 58 = .ok (.getfield 80, 3) := by decide +kernel
theorem dX11_pushes_61 : decode cX11_pushes 61 = .ok (.aload_n 0, 1) := by decide +kernel
theorem dX11_pushes_62 : decode cX11_pushes 62 = .ok (.getfield 80, 3) := by decide +kernel
theorem dX11_pushes_65 : decode cX11_pushes 65 = .ok (.iconst 0, 1) := by decide +kernel
theorem dX11_pushes_66 : decode cX11_pushes 66 = .ok (.iaload, 1) := by decide +kernel
theorem dX11_pushes_67 : decode cX11_pushes 67 = .ok (.iload_n 1, 1) := by decide +kernel
theorem dX11_pushes_68 : decode cX11_pushes 68 = .ok (.iastore, 1) := by decide +kernel
theorem dX11_pushes_69 : decode cX11_pushes 69 = .ok (.return_, 1) := by decide +kernel
theorem dX11_fetches_0 : decode cX11_fetches 0 = .ok (.iconst 1, 1) := by decide +kernel
theorem dX11_fetches_1 : decode cX11_fetches 1 = .ok (.istore_n 1, 1) := by decide +kernel
theorem dX11_fetches_2 : decode cX11_fetches 2 = .ok (.iconst 0, 1) := by decide +kernel
theorem dX11_fetches_3 : decode cX11_fetches 3 = .ok (.istore_n 2, 1) := by decide +kernel
theorem dX11_fetches_4 : decode cX11_fetches 4 = .ok (.iload_n 2, 1) := by decide +kernel
theorem dX11_fetches_5 : decode cX11_fetches 5 = .ok (.aload_n 0, 1) := by decide +kernel
theorem dX11_fetches_6 : decode cX11_fetches 6 = .ok (.getfield 25, 3) := by decide +kernel
theorem dX11_fetches_9 : decode cX11_fetches 9 = .ok (.if_icmp .ge 221, 3) := by decide +kernel
theorem dX11_fetches_12 : decode cX11_fetches 12 = .ok (.iload_n 1, 1) := by decide +kernel
theorem dX11_fetches_13 : decode cX11_fetches 13 = .ok (.ifCond .eq 217, 3) := by decide +kernel
theorem dX11_fetches_16 : decode cX11_fetches 16 = .ok (.aload_n 0, 1) := by decide +kernel
theorem dX11_fetches_17 : decode cX11_fetches 17 = .ok (.getfield 174, 3) := by decide +kernel
theorem dX11_fetches_20 : decode cX11_fetches 20 = .ok (.ifCond .ne 210, 3) := by decide +kernel
theorem dX11_fetches_23 : decode cX11_fetches 23 = .ok (.aload_n 0, 1) := by decide +kernel
theorem dX11_fetches_24 : decode cX11_fetches 24 = .ok (.getfield 177, 3) := by decide +kernel
theorem dX11_fetches_27 : decode cX11_fetches 27 = .ok (.iconst 2, 1) := by decide +kernel
theorem dX11_fetches_28 : decode cX11_fetches 28 = .ok (.aload_n 0, 1) := by decide +kernel
theorem dX11_fetches_29 : decode cX11_fetches 29 = .ok (.getfield 25, 3) := by decide +kernel
theorem dX11_fetches_32 : decode cX11_fetches 32 = .ok (.imul, 1) := by decide +kernel
theorem dX11_fetches_33 : decode cX11_fetches 33 = .ok (.if_icmp .ge 197, 3) := by decide +kernel
theorem dX11_fetches_36 : decode cX11_fetches 36 = .ok (.aload_n 0, 1) := by decide +kernel
theorem dX11_fetches_37 : decode cX11_fetches 37 = .ok (.getfield 180, 3) := by decide +kernel
theorem dX11_fetches_40 : decode cX11_fetches 40 = .ok (.aload_n 0, 1) := by decide +kernel
theorem dX11_fetches_41 : decode cX11_fetches 41 = .ok (.getfield 136, 3) := by decide +kernel
theorem dX11_fetches_44 : decode cX11_fetches 44 = .ok (.if_icmp .ge 186, 3) := by decide +kernel
theorem dX11_fetches_47 : decode cX11_fetches 47 = .ok (.aload_n 0, 1) := by decide +kernel
theorem dX11_fetches_48 : decode cX11_fetches 48 = .ok (.getfield 77, 3) := by decide +kernel
theorem dX11_fetches_51 : decode cX11_fetches 51 = .ok (.aload_n 0, 1) := by decide +kernel
theorem dX11_fetches_52 : decode cX11_fetches 52 = .ok (.getfield 177, 3) := by decide +kernel
theorem dX11_fetches_55 : decode cX11_fetches 55 = .ok (.aaload, 1) := by decide +kernel
theorem dX11_fetches_56 : decode cX11_fetches 56 = .ok (.astore_n 3, 1) := by decide +kernel
theorem dX11_fetches_57 : decode cX11_fetches 57 = .ok (.aload_n 0, 1) := by decide +kernel
theorem dX11_fetches_58 : decode cX11_fetches 58 = .ok (.dup, 1) := by decide +kernel
theorem dX11_fetches_59 : decode cX11_fetches 59 = .ok (.getfield 177, 3) := by decide +kernel
theorem dX11_fetches_62 : decode cX11_fetches 62 = .ok (.iconst 1, 1) := by decide +kernel
theorem dX11_fetches_63 : decode cX11_fetches 63 = .ok (.iadd, 1) := by decide +kernel
theorem dX11_fetches_64 : decode cX11_fetches 64 = .ok (.putfield 177, 3) := by decide +kernel
theorem dX11_fetches_67 : decode cX11_fetches 67 = .ok (.iconst 0, 1) := by decide +kernel
theorem dX11_fetches_68 : decode cX11_fetches 68 = .ok (.istore 4, 2) := by decide +kernel
theorem dX11_fetches_70 : decode cX11_fetches 70 = .ok (.iload 4, 2) := by decide +kernel
theorem dX11_fetches_72 : decode cX11_fetches 72 = .ok (.bipush 28, 2) := by decide +kernel
theorem dX11_fetches_74 : decode cX11_fetches 74 = .ok (.if_icmp .ge 14, 3) := by decide +kernel
theorem dX11_fetches_77 : decode cX11_fetches 77 = .ok (.aload_n 3, 1) := by decide +kernel
theorem dX11_fetches_78 : decode cX11_fetches 78 = .ok (.iload 4, 2) := by decide +kernel
theorem dX11_fetches_80 : decode cX11_fetches 80 = .ok (.iconst 0, 1) := by decide +kernel
theorem dX11_fetches_81 : decode cX11_fetches 81 = .ok (.iastore, 1) := by decide +kernel
theorem dX11_fetches_82 : decode cX11_fetches 82 = .ok (.iinc 4 1, 3) := by decide +kernel
theorem dX11_fetches_85 : decode cX11_fetches 85 = .ok (.goto (-15), 3) := by decide +kernel
theorem dX11_fetches_88 : decode cX11_fetches 88 = .ok (.aload_n 0, 1) := by decide +kernel
theorem dX11_fetches_89 : decode cX11_fetches 89 = .ok (.getfield 180, 3) := by decide +kernel
theorem dX11_fetches_92 : decode cX11_fetches 92 = .ok (.istore 4, 2) := by decide +kernel
theorem dX11_fetches_94 : decode cX11_fetches 94 = .ok (.aload_n 3, 1) := by decide +kernel
theorem dX11_fetches_95 : decode cX11_fetches 95 = .ok (.iconst 0, 1) := by decide +kernel
theorem dX11_fetches_96 : decode cX11_fetches 96 = .ok (.iload 4, 2) := by decide +kernel
theorem dX11_fetches_98 : decode cX11_fetches 98 = .ok (.iastore, 1) := by decide +kernel
theorem dX11_fetches_99 : decode cX11_fetches 99 = .ok (.aload_n 3, 1) := by decide +kernel
theorem dX11_fetches_100 : decode cX11_fetches 100 = .ok (.iconst 1, 1) := by decide +kernel
theorem dX11_fetches_101 : decode cX11_fetches 101 = .ok (.aload_n 0, 1) := by decide +kernel
theorem dX11_fetches_102 : decode cX11_fetches 102 = .ok (.getfield 133, 3) := by decide +kernel
theorem dX11_fetches_105 : decode cX11_fetches 105 = .ok (.iastore, 1) := by decide +kernel
theorem dX11_fetches_106 : decode cX11_fetches 106 = .ok (.aload_n 3, 1) := by decide +kernel
theorem dX11_fetches_107 : decode cX11_fetches 107 = .ok (.bipush 17, 2) := by decide +kernel
theorem dX11_fetches_109 : decode cX11_fetches 109 = .ok (.aload_n 0, 1) := by decide +kernel
theorem dX11_fetches_110 : decode cX11_fetches 110 = .ok (.getfield 183, 3) := by decide +kernel
theorem dX11_fetches_113 : decode cX11_fetches 113 = .ok (.iastore, 1) := by decide +kernel
theorem dX11_fetches_114 : decode cX11_fetches 114 = .ok (.aload_n 0, 1) := by decide +kernel
theorem dX11_fetches_115 : decode cX11_fetches 115 = .ok (.dup, 1) := by decide +kernel
theorem dX11_fetches_116 : decode cX11_fetches 116 = .ok (.getfield 183, 3) := by decide +kernel
theorem dX11_fetches_119 : decode cX11_fetches 119 = .ok (.iconst 1, 1) := by decide +kernel
theorem dX11_fetches_120 : decode cX11_fetches 120 = .ok (.iadd, 1) := by decide +kernel
theorem dX11_fetches_121 : decode cX11_fetches 121 = .ok (.putfield 183, 3) := by decide +kernel
theorem dX11_fetches_124 : decode cX11_fetches 124 = .ok (.aload_n 0, 1) := by decide +kernel
theorem dX11_fetches_125 : decode cX11_fetches 125 = .ok (.aload_n 3, 1) := by decide +kernel
theorem dX11_fetches_126 : decode cX11_fetches 126 = .ok (.bipush 18, 2) := by decide +kernel
theorem dX11_fetches_128 : decode cX11_fetches 128 = .ok (.invokevirtual 186, 3) := by decide +kernel
theorem dX11_fetches_131 : decode cX11_fetches 131 = .ok (.aload_n 3, 1) := by decide +kernel
theorem dX11_fetches_132 : decode cX11_fetches 132 = .ok (.iconst 5, 1) := by decide +kernel
theorem dX11_fetches_133 : decode cX11_fetches 133 = .ok (.aload_n 0, 1) := by decide +kernel
theorem dX11_fetches_134 : decode cX11_fetches 134 = .ok (.iload 4, 2) := by decide +kernel
theorem dX11_fetches_136 : decode cX11_fetches 136 = .ok (.invokevirtual 190, 3) := by decide +kernel
theorem dX11_fetches_139 : decode cX11_fetches 139 = .ok (.iastore, 1) := by decide +kernel
theorem dX11_fetches_140 : decode cX11_fetches 140 = .ok (.aload_n 0, 1) := by decide +kernel
theorem dX11_fetches_141 : decode cX11_fetches 141 = .ok (.getfield 9, 3) := by decide +kernel
theorem dX11_fetches_144 : decode cX11_fetches 144 = .ok (.iload 4, 2) := by decide +kernel
theorem dX11_fetches_146 : decode cX11_fetches 146 = .ok (.iaload, 1) := by decide +kernel
theorem dX11_fetches_147 : decode cX11_fetches 147 = .ok (.bipush 15, 2) := by decide +kernel
theorem dX11_fetches_149 : decode cX11_fetches 149 = .ok (.if_icmp .ne 11, 3) := by decide +kernel
theorem dX11_fetches_152 : decode cX11_fetches 152 = .ok (.aload_n 0, 1) := by decide +kernel
theorem dX11_fetches_153 : decode cX11_fetches 153 = .ok (.iload 4, 2) := by decide +kernel
theorem dX11_fetches_155 : decode cX11_fetches 155 = .ok (.iconst 1, 1) := by decide +kernel
theorem dX11_fetches_156 : decode cX11_fetches 156 = .ok (.iadd, 1) := by decide +kernel
theorem dX11_fetches_157 : decode cX11_fetches 157 = .ok (.invokevirtual 194, 3) := by decide +kernel
theorem dX11_fetches_160 : decode cX11_fetches 160 = .ok (.aload_n 0, 1) := by decide +kernel
theorem dX11_fetches_161 : decode cX11_fetches 161 = .ok (.aload_n 3, 1) := by decide +kernel
theorem dX11_fetches_162 : decode cX11_fetches 162 = .ok (.bipush 23, 2) := by decide +kernel
theorem dX11_fetches_164 : decode cX11_fetches 164 = .ok (.invokevirtual 186, 3) := by decide +kernel
theorem dX11_fetches_167 : decode cX11_fetches 167 = .ok (.aload_n 0, 1) := by decide +kernel
theorem dX11_fetches_168 : decode cX11_fetches 168 = .ok (.aload_n 3, 1) := by decide +kernel
theorem dX11_fetches_169 : decode cX11_fetches 169 = .ok (.iconst 5, 1) := by decide +kernel
theorem dX11_fetches_170 : decode cX11_fetches 170 = .ok (.iaload, 1) := by decide +kernel
theorem dX11_fetches_171 : decode cX11_fetches 171 = .ok (.putfield 180, 3) := by decide +kernel
theorem dX11_fetches_174 : decode cX11_fetches 174 = .ok (.aload_n 0, 1) := by decide +kernel
theorem dX11_fetches_175 : decode cX11_fetches 175 = .ok (.aload_n 0, 1) := by decide +kernel
theorem dX11_fetches_176 : decode cX11_fetches 176 = .ok (.getfield 9, 3) := by decide +kernel
theorem dX11_fetches_179 : decode cX11_fetches 179 = .ok (.iload 4, 2) := by decide +kernel
theorem dX11_fetches_181 : decode cX11_fetches 181 = .ok (.iaload, 1) := by decide +kernel
theorem dX11_fetches_182 : decode cX11_fetches 182 = .ok (.bipush 18, 2) := by decide +kernel
theorem dX11_fetches_184 : decode cX11_fetches 184 = .ok (.if_icmp .eq 15, 3) := by decide +kernel
theorem dX11_fetches_187 : decode cX11_fetches 187 = .ok (.aload_n 0, 1) := by decide +kernel
theorem dX11_fetches_188 : decode cX11_fetches 188 = .ok (.getfield 9, 3) := by decide +kernel
theorem dX11_fetches_191 : decode cX11_fetches 191 = .ok (.iload 4, 2) := by decide +kernel
theorem dX11_fetches_193 : decode cX11_fetches 193 = .ok (.iaload, 1) := by decide +kernel
theorem dX11_fetches_194 : decode cX11_fetches 194 = .ok (.bipush 21, 2) := by decide +kernel
theorem dX11_fetches_196 : decode cX11_fetches 196 = .ok (.if_icmp .ne 7, 3) := by decide +kernel
theorem dX11_fetches_199 : decode cX11_fetches 199 = .ok (.iconst 1, 1) := by decide +kernel
theorem dX11_fetches_200 : decode cX11_fetches 200 = .ok (.goto 4, 3) := by decide +kernel
theorem dX11_fetches_203 : decode cX11_fetches 203 = .ok (.iconst 0, 1) := by decide +kernel
theorem dX11_fetches_204 : decode cX11_fetches 204 = .ok (.putfield 174, 3) := by decide +kernel
theorem dX11_fetches_207 : decode cX11_fetches 207 = .ok (.aload_n 0, 1) := by decide +kernel
theorem dX11_fetches_208 : decode cX11_fetches 208 = .ok (.getfield 180, 3) := by decide +kernel
theorem dX11_fetches_211 : decode cX11_fetches 211 = .ok (.iload 4, 2) := by decide +kernel
theorem dX11_fetches_213 : decode cX11_fetches 213 = .ok (.iconst 1, 1) := by decide +kernel
theorem dX11_fetches_214 : decode cX11_fetches 214 = .ok (.iadd, 1) := by decide +kernel
theorem dX11_fetches_215 : decode cX11_fetches 215 = .ok (.if_icmp .ne 7, 3) := by decide +kernel
theorem dX11_fetches_218 : decode cX11_fetches 218 = .ok (.iconst 1, 1) := by decide +kernel
theorem dX11_fetches_219 : decode cX11_fetches 219 = .ok (.goto 4, 3) := by decide +kernel
theorem dX11_fetches_222 : decode cX11_fetches 222 = .ok (.iconst 0, 1) := by decide +kernel
theorem dX11_fetches_223 : decode cX11_fetches 223 = .ok (.istore_n 1, 1) := by decide +kernel
theorem dX11_fetches_224 : decode cX11_fetches 224 = .ok (.iinc 2 1, 3) := by decide +kernel
theorem dX11_fetches_227 : decode cX11_fetches 227 = .ok (.goto (-223), 3) := by decide +kernel
theorem dX11_fetches_230 : decode cX11_fetches 230 = .ok (.return_, 1) := by decide +kernel
theorem dX11_cycles_0 : decode cX11_cycles 0 = .ok (.aload_n 0, 1) := by decide +kernel
theorem dX11_cycles_1 : decode cX11_cycles 1 = .ok (.dup, 1) := by decide +kernel
theorem dX11_cycles_2 : decode cX11_cycles 2 = .ok (.getfield 133, 3) := by decide +kernel
theorem dX11_cycles_5 : decode cX11_cycles 5 = .ok (.iconst 1, 1) := by decide +kernel
theorem dX11_cycles_6 : decode cX11_cycles 6 = .ok (.iadd, 1) := by decide +kernel
theorem dX11_cycles_7 : decode cX11_cycles 7 = .ok (.putfield 133, 3) := by decide +kernel
theorem dX11_cycles_10 : decode cX11_cycles 10 = .ok (.aload_n 0, 1) := by decide +kernel
theorem dX11_cycles_11 : decode cX11_cycles 11 = .ok (.invokevirtual 156, 3) := by decide +kernel
theorem dX11_cycles_14 : decode cX11_cycles 14 = .ok (.aload_n 0, 1) := by decide +kernel
theorem dX11_cycles_15 : decode cX11_cycles 15 = .ok (.invokevirtual 159, 3) := by decide +kernel
theorem dX11_cycles_18 : decode cX11_cycles 18 = .ok (.aload_n 0, 1) := by decide +kernel
theorem dX11_cycles_19 : decode cX11_cycles 19 = .ok (.invokevirtual 162, 3) := by decide +kernel
theorem dX11_cycles_22 : decode cX11_cycles 22 = .ok (.aload_n 0, 1) := by decide +kernel
theorem dX11_cycles_23 : decode cX11_cycles 23 = .ok (.invokevirtual 165, 3) := by decide +kernel
theorem dX11_cycles_26 : decode cX11_cycles 26 = .ok (.aload_n 0, 1) := by decide +kernel
theorem dX11_cycles_27 : decode cX11_cycles 27 = .ok (.invokevirtual 168, 3) := by decide +kernel
theorem dX11_cycles_30 : decode cX11_cycles 30 = .ok (.aload_n 0, 1) := by decide +kernel
theorem dX11_cycles_31 : decode cX11_cycles 31 = .ok (.invokevirtual 171, 3) := by decide +kernel
theorem dX11_cycles_34 : decode cX11_cycles 34 = .ok (.return_, 1) := by decide +kernel
theorem dX11_run_0 : decode cX11_run 0 = .ok (.aload_n 0, 1) := by decide +kernel
theorem dX11_run_1 : decode cX11_run 1 = .ok (.iload_n 1, 1) := by decide +kernel
theorem dX11_run_2 : decode cX11_run 2 = .ok (.iconst 1, 1) := by decide +kernel
theorem dX11_run_3 : decode cX11_run 3 = .ok (.bipush 60, 2) := by decide +kernel
theorem dX11_run_5 : decode cX11_run 5 = .ok (.invokestatic 129, 3) := by decide +kernel
theorem dX11_run_8 : decode cX11_run 8 = .ok (.ifCond .eq 15, 3) := by decide +kernel
theorem dX11_run_11 : decode cX11_run 11 = .ok (.aload_n 0, 1) := by decide +kernel
theorem dX11_run_12 : decode cX11_run 12 = .ok (.getfield 133, 3) := by decide +kernel
theorem dX11_run_15 : decode cX11_run 15 = .ok (.iload_n 1, 1) := by decide +kernel
theorem dX11_run_16 : decode cX11_run 16 = .ok (.iadd, 1) := by decide +kernel
theorem dX11_run_17 : decode cX11_run 17 = .ok (.sipush 500, 3) := by decide +kernel
theorem dX11_run_20 : decode cX11_run 20 = .ok (.if_icmp .le 7, 3) := by decide +kernel
theorem dX11_run_23 : decode cX11_run 23 = .ok (.iconst 1, 1) := by decide +kernel
theorem dX11_run_24 : decode cX11_run 24 = .ok (.goto 15, 3) := by decide +kernel
theorem dX11_run_27 : decode cX11_run 27 = .ok (.aload_n 0, 1) := by decide +kernel
theorem dX11_run_28 : decode cX11_run 28 = .ok (.getfield 147, 3) := by decide +kernel
theorem dX11_run_31 : decode cX11_run 31 = .ok (.ifCond .eq 7, 3) := by decide +kernel
theorem dX11_run_34 : decode cX11_run 34 = .ok (.iconst 2, 1) := by decide +kernel
theorem dX11_run_35 : decode cX11_run 35 = .ok (.goto 4, 3) := by decide +kernel
theorem dX11_run_38 : decode cX11_run 38 = .ok (.iconst 0, 1) := by decide +kernel
theorem dX11_run_39 : decode cX11_run 39 = .ok (.putfield 123, 3) := by decide +kernel
theorem dX11_run_42 : decode cX11_run 42 = .ok (.aload_n 0, 1) := by decide +kernel
theorem dX11_run_43 : decode cX11_run 43 = .ok (.getfield 150, 3) := by decide +kernel
theorem dX11_run_46 : decode cX11_run 46 = .ok (.istore_n 2, 1) := by decide +kernel
theorem dX11_run_47 : decode cX11_run 47 = .ok (.iconst 0, 1) := by decide +kernel
theorem dX11_run_48 : decode cX11_run 48 = .ok (.istore_n 3, 1) := by decide +kernel
theorem dX11_run_49 : decode cX11_run 49 = .ok (.iload_n 3, 1) := by decide +kernel
theorem dX11_run_50 : decode cX11_run 50 = .ok (.iload_n 1, 1) := by decide +kernel
theorem dX11_run_51 : decode cX11_run 51 = .ok (.if_icmp .ge 27, 3) := by decide +kernel
theorem dX11_run_54 : decode cX11_run 54 = .ok (.aload_n 0, 1) := by decide +kernel
theorem dX11_run_55 : decode cX11_run 55 = .ok (.getfield 123, 3) := by decide +kernel
theorem dX11_run_58 : decode cX11_run 58 = .ok (.ifCond .ne 20, 3) := by decide +kernel
theorem dX11_run_61 : decode cX11_run 61 = .ok (.aload_n 0, 1) := by decide +kernel
theorem dX11_run_62 : decode cX11_run 62 = .ok (.getfield 147, 3) := by decide +kernel
theorem dX11_run_65 : decode cX11_run 65 = .ok (.ifCond .ne 13, 3) := by decide +kernel
theorem dX11_run_68 : decode cX11_run 68 = .ok (.aload_n 0, 1) := by decide +kernel
theorem dX11_run_69 : decode cX11_run 69 = .ok (.invokevirtual 153, 3) := by decide +kernel
theorem dX11_run_72 : decode cX11_run 72 = .ok (.iinc 3 1, 3) := by decide +kernel
theorem dX11_run_75 : decode cX11_run 75 = .ok (.goto (-26), 3) := by decide +kernel
theorem dX11_run_78 : decode cX11_run 78 = .ok (.aload_n 0, 1) := by decide +kernel
theorem dX11_run_79 : decode cX11_run 79 = .ok (.getfield 150, 3) := by decide +kernel
theorem dX11_run_82 : decode cX11_run 82 = .ok (.iload_n 2, 1) := by decide +kernel
theorem dX11_run_83 : decode cX11_run 83 = .ok (.isub, 1) := by decide +kernel
theorem dX11_run_84 : decode cX11_run 84 = .ok (.ireturn, 1) := by decide +kernel
theorem dX11_cycle_0 : decode cX11_cycle 0 = .ok (.aload_n 0, 1) := by decide +kernel
theorem dX11_cycle_1 : decode cX11_cycle 1 = .ok (.iconst 0, 1) := by decide +kernel
theorem dX11_cycle_2 : decode cX11_cycle 2 = .ok (.putfield 123, 3) := by decide +kernel
theorem dX11_cycle_5 : decode cX11_cycle 5 = .ok (.aload_n 0, 1) := by decide +kernel
theorem dX11_cycle_6 : decode cX11_cycle 6 = .ok (.getfield 133, 3) := by decide +kernel
theorem dX11_cycle_9 : decode cX11_cycle 9 = .ok (.ireturn, 1) := by decide +kernel
theorem dX11_hasStopped_0 : decode cX11_hasStopped 0 = .ok (.aload_n 0, 1) := by decide +kernel
theorem dX11_hasStopped_1 : decode cX11_hasStopped 1 = .ok (.iconst 0, 1) := by decide +kernel
theorem dX11_hasStopped_2 : decode cX11_hasStopped 2 = .ok (.putfield 123, 3) := by decide +kernel
theorem dX11_hasStopped_5 : decode cX11_hasStopped 5 = .ok (.aload_n 0, 1) := by decide +kernel
theorem dX11_hasStopped_6 : decode cX11_hasStopped 6 = .ok (.getfield 147, 3) := by decide +kernel
theorem dX11_hasStopped_9 : decode cX11_hasStopped 9 = .ok (.ireturn, 1) := by decide +kernel
theorem dX11_ends__0 : decode cX11_ends_ 0 = .ok (.aload_n 0, 1) := by decide +kernel
theorem dX11_ends__1 : decode cX11_ends_ 1 = .ok (.iconst 0, 1) := by decide +kernel
theorem dX11_ends__2 : decode cX11_ends_ 2 = .ok (.putfield 123, 3) := by decide +kernel
theorem dX11_ends__5 : decode cX11_ends_ 5 = .ok (.aload_n 0, 1) := by decide +kernel
theorem dX11_ends__6 : decode cX11_ends_ 6 = .ok (.getfield 150, 3) := by decide +kernel
theorem dX11_ends__9 : decode cX11_ends_ 9 = .ok (.ireturn, 1) := by decide +kernel
theorem dX11_noEnd_0 : decode cX11_noEnd 0 = .ok (.aload_n 0, 1) := by decide +kernel
theorem dX11_noEnd_1 : decode cX11_noEnd 1 = .ok (.iload_n 1, 1) := by decide +kernel
theorem dX11_noEnd_2 : decode cX11_noEnd 2 = .ok (.iconst 0, 1) := by decide +kernel
theorem dX11_noEnd_3 : decode cX11_noEnd 3 = .ok (.aload_n 0, 1) := by decide +kernel
theorem dX11_noEnd_4 : decode cX11_noEnd 4 = .ok (.getfield 150, 3) := by decide +kernel
theorem dX11_noEnd_7 : decode cX11_noEnd 7 = .ok (.iconst 1, 1) := by decide +kernel
theorem dX11_noEnd_8 : decode cX11_noEnd 8 = .ok (.isub, 1) := by decide +kernel
theorem dX11_noEnd_9 : decode cX11_noEnd 9 = .ok (.invokestatic 129, 3) := by decide +kernel
theorem dX11_noEnd_12 : decode cX11_noEnd 12 = .ok (.ifCond .eq 7, 3) := by decide +kernel
theorem dX11_noEnd_15 : decode cX11_noEnd 15 = .ok (.iconst 0, 1) := by decide +kernel
theorem dX11_noEnd_16 : decode cX11_noEnd 16 = .ok (.goto 4, 3) := by decide +kernel
theorem dX11_noEnd_19 : decode cX11_noEnd 19 = .ok (.iconst 1, 1) := by decide +kernel
theorem dX11_noEnd_20 : decode cX11_noEnd 20 = .ok (.putfield 123, 3) := by decide +kernel
theorem dX11_noEnd_23 : decode cX11_noEnd 23 = .ok (.aload_n 0, 1) := by decide +kernel
theorem dX11_noEnd_24 : decode cX11_noEnd 24 = .ok (.getfield 123, 3) := by decide +kernel
theorem dX11_noEnd_27 : decode cX11_noEnd 27 = .ok (.ifCond .le 7, 3) := by decide +kernel
theorem dX11_noEnd_30 : decode cX11_noEnd 30 = .ok (.iconst 1, 1) := by decide +kernel
theorem dX11_noEnd_31 : decode cX11_noEnd 31 = .ok (.goto 4, 3) := by decide +kernel
theorem dX11_noEnd_34 : decode cX11_noEnd 34 = .ok (.iconst 0, 1) := by decide +kernel
theorem dX11_noEnd_35 : decode cX11_noEnd 35 = .ok (.ireturn, 1) := by decide +kernel
theorem dX11_kindAt_0 : decode cX11_kindAt 0 = .ok (.aload_n 0, 1) := by decide +kernel
theorem dX11_kindAt_1 : decode cX11_kindAt 1 = .ok (.iload_n 1, 1) := by decide +kernel
theorem dX11_kindAt_2 : decode cX11_kindAt 2 = .ok (.invokevirtual 328, 3) := by decide +kernel
theorem dX11_kindAt_5 : decode cX11_kindAt 5 = .ok (.ifCond .eq 7, 3) := by decide +kernel
theorem dX11_kindAt_8 : decode cX11_kindAt 8 = .ok (.iconst 0, 1) := by decide +kernel
theorem dX11_kindAt_9 : decode cX11_kindAt 9 = .ok (.goto 9, 3) := by decide +kernel
theorem dX11_kindAt_12 : decode cX11_kindAt 12 = .ok (.aload_n 0, 1) := by decide +kernel
theorem dX11_kindAt_13 : decode cX11_kindAt 13 = .ok (.getfield 101, 3) := by decide +kernel
theorem dX11_kindAt_16 : decode cX11_kindAt 16 = .ok (.iload_n 1, 1) := by decide +kernel
theorem dX11_kindAt_17 : decode cX11_kindAt 17 = .ok (.iaload, 1) := by decide +kernel
theorem dX11_kindAt_18 : decode cX11_kindAt 18 = .ok (.ireturn, 1) := by decide +kernel
theorem dX11_placeAt_0 : decode cX11_placeAt 0 = .ok (.aload_n 0, 1) := by decide +kernel
theorem dX11_placeAt_1 : decode cX11_placeAt 1 = .ok (.iload_n 1, 1) := by decide +kernel
theorem dX11_placeAt_2 : decode cX11_placeAt 2 = .ok (.invokevirtual 328, 3) := by decide +kernel
theorem dX11_placeAt_5 : decode cX11_placeAt 5 = .ok (.ifCond .eq 7, 3) := by decide +kernel
theorem dX11_placeAt_8 : decode cX11_placeAt 8 = .ok (.iconst 0, 1) := by decide +kernel
theorem dX11_placeAt_9 : decode cX11_placeAt 9 = .ok (.goto 9, 3) := by decide +kernel
theorem dX11_placeAt_12 : decode cX11_placeAt 12 = .ok (.aload_n 0, 1) := by decide +kernel
theorem dX11_placeAt_13 : decode cX11_placeAt 13 = .ok (.getfield 104, 3) := by decide +kernel
theorem dX11_placeAt_16 : decode cX11_placeAt 16 = .ok (.iload_n 1, 1) := by decide +kernel
theorem dX11_placeAt_17 : decode cX11_placeAt 17 = .ok (.iaload, 1) := by decide +kernel
theorem dX11_placeAt_18 : decode cX11_placeAt 18 = .ok (.ireturn, 1) := by decide +kernel
theorem dX11_address_0 : decode cX11_address 0 = .ok (.aload_n 0, 1) := by decide +kernel
theorem dX11_address_1 : decode cX11_address 1 = .ok (.getfield 114, 3) := by decide +kernel
theorem dX11_address_4 : decode cX11_address 4 = .ok (.aload_n 0, 1) := by decide +kernel
theorem dX11_address_5 : decode cX11_address 5 = .ok (.getfield 16, 3) := by decide +kernel
theorem dX11_address_8 : decode cX11_address 8 = .ok (.iload_n 1, 1) := by decide +kernel
theorem dX11_address_9 : decode cX11_address 9 = .ok (.iaload, 1) := by decide +kernel
theorem dX11_address_10 : decode cX11_address 10 = .ok (.iaload, 1) := by decide +kernel
theorem dX11_address_11 : decode cX11_address 11 = .ok (.aload_n 0, 1) := by decide +kernel
theorem dX11_address_12 : decode cX11_address 12 = .ok (.getfield 22, 3) := by decide +kernel
theorem dX11_address_15 : decode cX11_address 15 = .ok (.iload_n 1, 1) := by decide +kernel
theorem dX11_address_16 : decode cX11_address 16 = .ok (.iaload, 1) := by decide +kernel
theorem dX11_address_17 : decode cX11_address 17 = .ok (.iadd, 1) := by decide +kernel
theorem dX11_address_18 : decode cX11_address 18 = .ok (.ireturn, 1) := by decide +kernel
theorem dX11_plainTrap_0 : decode cX11_plainTrap 0 = .ok (.aload_n 0, 1) := by decide +kernel
theorem dX11_plainTrap_1 : decode cX11_plainTrap 1 = .ok (.getfield 9, 3) := by decide +kernel
theorem dX11_plainTrap_4 : decode cX11_plainTrap 4 = .ok (.iload_n 1, 1) := by decide +kernel
theorem dX11_plainTrap_5 : decode cX11_plainTrap 5 = .ok (.iaload, 1) := by decide +kernel
theorem dX11_plainTrap_6 : decode cX11_plainTrap 6 = .ok (.istore_n 2, 1) := by decide +kernel
theorem dX11_plainTrap_7 : decode cX11_plainTrap 7 = .ok (.aload_n 0, 1) := by decide +kernel
theorem dX11_plainTrap_8 : decode cX11_plainTrap 8 = .ok (.getfield 114, 3) := by decide +kernel
theorem dX11_plainTrap_11 : decode cX11_plainTrap 11 = .ok (.aload_n 0, 1) := by decide +kernel
theorem dX11_plainTrap_12 : decode cX11_plainTrap 12 = .ok (.getfield 16, 3) := by decide +kernel
theorem dX11_plainTrap_15 : decode cX11_plainTrap 15 = .ok (.iload_n 1, 1) := by decide +kernel
theorem dX11_plainTrap_16 : decode cX11_plainTrap 16 = .ok (.iaload, 1) := by decide +kernel
theorem dX11_plainTrap_17 : decode cX11_plainTrap 17 = .ok (.iaload, 1) := by decide +kernel
theorem dX11_plainTrap_18 : decode cX11_plainTrap 18 = .ok (.istore_n 3, 1) := by decide +kernel
theorem dX11_plainTrap_19 : decode cX11_plainTrap 19 = .ok (.iload_n 2, 1) := by decide +kernel
theorem dX11_plainTrap_20 : decode cX11_plainTrap 20 = .ok (.bipush 9, 2) := by decide +kernel
theorem dX11_plainTrap_22 : decode cX11_plainTrap 22 = .ok (.bipush 11, 2) := by decide +kernel
theorem dX11_plainTrap_24 : decode cX11_plainTrap 24 = .ok (.invokestatic 129, 3) := by decide +kernel
theorem dX11_plainTrap_27 : decode cX11_plainTrap 27 = .ok (.ifCond .eq 18, 3) := by decide +kernel
theorem dX11_plainTrap_30 : decode cX11_plainTrap 30 = .ok (.aload_n 0, 1) := by decide +kernel
theorem dX11_plainTrap_31 : decode cX11_plainTrap 31 = .ok (.iload_n 1, 1) := by decide +kernel
theorem dX11_plainTrap_32 : decode cX11_plainTrap 32 = .ok (.invokevirtual 331, 3) := by decide +kernel
theorem dX11_plainTrap_35 : decode cX11_plainTrap 35 = .ok (.invokestatic 225, 3) := by decide +kernel
theorem dX11_plainTrap_38 : decode cX11_plainTrap 38 = .ok (.ifCond .ne 7, 3) := by decide +kernel
theorem dX11_plainTrap_41 : decode cX11_plainTrap 41 = .ok (.iconst 1, 1) := by decide +kernel
theorem dX11_plainTrap_42 : decode cX11_plainTrap 42 = .ok (.goto 4, 3) := by decide +kernel
theorem dX11_plainTrap_45 : decode cX11_plainTrap 45 = .ok (.iconst 0, 1) := by decide +kernel
theorem dX11_plainTrap_46 : decode cX11_plainTrap 46 = .ok (.istore 4, 2) := by decide +kernel
theorem dX11_plainTrap_48 : decode cX11_plainTrap 48 = .ok (.iload_n 2, 1) := by decide +kernel
theorem dX11_plainTrap_49 : decode cX11_plainTrap 49 = .ok (.bipush 16, 2) := by decide +kernel
theorem dX11_plainTrap_51 : decode cX11_plainTrap 51 = .ok (.if_icmp .eq 9, 3) := by decide +kernel
theorem dX11_plainTrap_54 : decode cX11_plainTrap 54 = .ok (.iload_n 2, 1) := by decide +kernel
theorem dX11_plainTrap_55 : decode cX11_plainTrap 55 = .ok (.bipush 17, 2) := by decide +kernel
theorem dX11_plainTrap_57 : decode cX11_plainTrap 57 = .ok (.if_icmp .ne 17, 3) := by decide +kernel
theorem dX11_plainTrap_60 : decode cX11_plainTrap 60 = .ok (.iload_n 3, 1) := by decide +kernel
theorem dX11_plainTrap_61 : decode cX11_plainTrap 61 = .ok (.iconst 0, 1) := by decide +kernel
theorem dX11_plainTrap_62 : decode cX11_plainTrap 62 = .ok (.bipush 63, 2) := by decide +kernel
theorem dX11_plainTrap_64 : decode cX11_plainTrap 64 = .ok (.invokestatic 129, 3) := by decide +kernel
theorem dX11_plainTrap_67 : decode cX11_plainTrap 67 = .ok (.ifCond .ne 7, 3) := by decide +kernel
theorem dX11_plainTrap_70 : decode cX11_plainTrap 70 = .ok (.iconst 1, 1) := by decide +kernel
theorem dX11_plainTrap_71 : decode cX11_plainTrap 71 = .ok (.goto 4, 3) := by decide +kernel
theorem dX11_plainTrap_74 : decode cX11_plainTrap 74 = .ok (.iconst 0, 1) := by decide +kernel
theorem dX11_plainTrap_75 : decode cX11_plainTrap 75 = .ok (.istore 5, 2) := by decide +kernel
theorem dX11_plainTrap_77 : decode cX11_plainTrap 77 = .ok (.iload_n 2, 1) := by decide +kernel
theorem dX11_plainTrap_78 : decode cX11_plainTrap 78 = .ok (.iconst 5, 1) := by decide +kernel
theorem dX11_plainTrap_79 : decode cX11_plainTrap 79 = .ok (.if_icmp .ne 21, 3) := by decide +kernel
theorem dX11_plainTrap_82 : decode cX11_plainTrap 82 = .ok (.aload_n 0, 1) := by decide +kernel
theorem dX11_plainTrap_83 : decode cX11_plainTrap 83 = .ok (.getfield 114, 3) := by decide +kernel
theorem dX11_plainTrap_86 : decode cX11_plainTrap 86 = .ok (.aload_n 0, 1) := by decide +kernel
theorem dX11_plainTrap_87 : decode cX11_plainTrap 87 = .ok (.getfield 19, 3) := by decide +kernel
theorem dX11_plainTrap_90 : decode cX11_plainTrap 90 = .ok (.iload_n 1, 1) := by decide +kernel
theorem dX11_plainTrap_91 : decode cX11_plainTrap 91 = .ok (.iaload, 1) := by decide +kernel
theorem dX11_plainTrap_92 : decode cX11_plainTrap 92 = .ok (.iaload, 1) := by decide +kernel
theorem dX11_plainTrap_93 : decode cX11_plainTrap 93 = .ok (.ifCond .ne 7, 3) := by decide +kernel
theorem dX11_plainTrap_96 : decode cX11_plainTrap 96 = .ok (.iconst 1, 1) := by decide +kernel
theorem dX11_plainTrap_97 : decode cX11_plainTrap 97 = .ok (.goto 49, 3) := by decide +kernel
theorem dX11_plainTrap_100 : decode cX11_plainTrap 100 = .ok (.iload 4, 2) := by decide +kernel
theorem dX11_plainTrap_102 : decode cX11_plainTrap 102 = .ok (.ifCond .eq 7, 3) := by decide +kernel
theorem dX11_plainTrap_105 : decode cX11_plainTrap 105 = .ok (.iconst 2, 1) := by decide +kernel
theorem dX11_plainTrap_106 : decode cX11_plainTrap 106 = .ok (.goto 40, 3) := by decide +kernel
theorem dX11_plainTrap_109 : decode cX11_plainTrap 109 = .ok (.iload 5, 2) := by decide +kernel
theorem dX11_plainTrap_111 : decode cX11_plainTrap 111 = .ok (.ifCond .eq 7, 3) := by decide +kernel
theorem dX11_plainTrap_114 : decode cX11_plainTrap 114 = .ok (.iconst 3, 1) := by decide +kernel
theorem dX11_plainTrap_115 : decode cX11_plainTrap 115 = .ok (.goto 31, 3) := by decide +kernel
theorem dX11_plainTrap_118 : decode cX11_plainTrap 118 = .ok (.iload_n 2, 1) := by decide +kernel
theorem dX11_plainTrap_119 : decode cX11_plainTrap 119 = .ok (.bipush 20, 2) := by decide +kernel
theorem dX11_plainTrap_121 : decode cX11_plainTrap 121 = .ok (.if_icmp .ne 7, 3) := by decide +kernel
theorem dX11_plainTrap_124 : decode cX11_plainTrap 124 = .ok (.iconst 4, 1) := by decide +kernel
theorem dX11_plainTrap_125 : decode cX11_plainTrap 125 = .ok (.goto 21, 3) := by decide +kernel
theorem dX11_plainTrap_128 : decode cX11_plainTrap 128 = .ok (.iload_n 2, 1) := by decide +kernel
theorem dX11_plainTrap_129 : decode cX11_plainTrap 129 = .ok (.bipush 21, 2) := by decide +kernel
theorem dX11_plainTrap_131 : decode cX11_plainTrap 131 = .ok (.if_icmp .ne 14, 3) := by decide +kernel
theorem dX11_plainTrap_134 : decode cX11_plainTrap 134 = .ok (.aload_n 0, 1) := by decide +kernel
theorem dX11_plainTrap_135 : decode cX11_plainTrap 135 = .ok (.getfield 334, 3) := by decide +kernel
theorem dX11_plainTrap_138 : decode cX11_plainTrap 138 = .ok (.ifCond .ne 7, 3) := by decide +kernel
theorem dX11_plainTrap_141 : decode cX11_plainTrap 141 = .ok (.iconst 5, 1) := by decide +kernel
theorem dX11_plainTrap_142 : decode cX11_plainTrap 142 = .ok (.goto 4, 3) := by decide +kernel
theorem dX11_plainTrap_145 : decode cX11_plainTrap 145 = .ok (.iconst 0, 1) := by decide +kernel
theorem dX11_plainTrap_146 : decode cX11_plainTrap 146 = .ok (.ireturn, 1) := by decide +kernel
theorem dX11_plainDoes_0 : decode cX11_plainDoes 0 = .ok (.aload_n 0, 1) := by decide +kernel
theorem dX11_plainDoes_1 : decode cX11_plainDoes 1 = .ok (.getfield 9, 3) := by decide +kernel
theorem dX11_plainDoes_4 : decode cX11_plainDoes 4 = .ok (.iload_n 1, 1) := by decide +kernel
theorem dX11_plainDoes_5 : decode cX11_plainDoes 5 = .ok (.iaload, 1) := by decide +kernel
theorem dX11_plainDoes_6 : decode cX11_plainDoes 6 = .ok (.istore_n 2, 1) := by decide +kernel
theorem dX11_plainDoes_7 : decode cX11_plainDoes 7 = .ok (.aload_n 0, 1) := by decide +kernel
theorem dX11_plainDoes_8 : decode cX11_plainDoes 8 = .ok (.getfield 114, 3) := by decide +kernel
theorem dX11_plainDoes_11 : decode cX11_plainDoes 11 = .ok (.aload_n 0, 1) := by decide +kernel
theorem dX11_plainDoes_12 : decode cX11_plainDoes 12 = .ok (.getfield 16, 3) := by decide +kernel
theorem dX11_plainDoes_15 : decode cX11_plainDoes 15 = .ok (.iload_n 1, 1) := by decide +kernel
theorem dX11_plainDoes_16 : decode cX11_plainDoes 16 = .ok (.iaload, 1) := by decide +kernel
theorem dX11_plainDoes_17 : decode cX11_plainDoes 17 = .ok (.iaload, 1) := by decide +kernel
theorem dX11_plainDoes_18 : decode cX11_plainDoes 18 = .ok (.istore_n 3, 1) := by decide +kernel
theorem dX11_plainDoes_19 : decode cX11_plainDoes 19 = .ok (.aload_n 0, 1) := by decide +kernel
theorem dX11_plainDoes_20 : decode cX11_plainDoes 20 = .ok (.getfield 114, 3) := by decide +kernel
theorem dX11_plainDoes_23 : decode cX11_plainDoes 23 = .ok (.aload_n 0, 1) := by decide +kernel
theorem dX11_plainDoes_24 : decode cX11_plainDoes 24 = .ok (.getfield 19, 3) := by decide +kernel
theorem dX11_plainDoes_27 : decode cX11_plainDoes 27 = .ok (.iload_n 1, 1) := by decide +kernel
theorem dX11_plainDoes_28 : decode cX11_plainDoes 28 = .ok (.iaload, 1) := by decide +kernel
theorem dX11_plainDoes_29 : decode cX11_plainDoes 29 = .ok (.iaload, 1) := by decide +kernel
theorem dX11_plainDoes_30 : decode cX11_plainDoes 30 = .ok (.istore 4, 2) := by decide +kernel
theorem dX11_plainDoes_32 : decode cX11_plainDoes 32 = .ok (.aload_n 0, 1) := by decide +kernel
theorem dX11_plainDoes_33 : decode cX11_plainDoes 33 = .ok (.getfield 13, 3) := by decide +kernel
theorem dX11_plainDoes_36 : decode cX11_plainDoes 36 = .ok (.iload_n 1, 1) := by decide +kernel
theorem dX11_plainDoes_37 : decode cX11_plainDoes 37 = .ok (.iaload, 1) := by decide +kernel
theorem dX11_plainDoes_38 : decode cX11_plainDoes 38 = .ok (.istore 5, 2) := by decide +kernel
theorem dX11_plainDoes_40 : decode cX11_plainDoes 40 = .ok (.aload_n 0, 1) := by decide +kernel
theorem dX11_plainDoes_41 : decode cX11_plainDoes 41 = .ok (.getfield 22, 3) := by decide +kernel
theorem dX11_plainDoes_44 : decode cX11_plainDoes 44 = .ok (.iload_n 1, 1) := by decide +kernel
theorem dX11_plainDoes_45 : decode cX11_plainDoes 45 = .ok (.iaload, 1) := by decide +kernel
theorem dX11_plainDoes_46 : decode cX11_plainDoes 46 = .ok (.istore 6, 2) := by decide +kernel
theorem dX11_plainDoes_48 : decode cX11_plainDoes 48 = .ok (.aload_n 0, 1) := by decide +kernel
theorem dX11_plainDoes_49 : decode cX11_plainDoes 49 = .ok (.iload_n 1, 1) := by decide +kernel
theorem dX11_plainDoes_50 : decode cX11_plainDoes 50 = .ok (.iconst 1, 1) := by decide +kernel
theorem dX11_plainDoes_51 : decode cX11_plainDoes 51 = .ok (.iadd, 1) := by decide +kernel
theorem dX11_plainDoes_52 : decode cX11_plainDoes 52 = .ok (.putfield 337, 3) := by decide +kernel
theorem dX11_plainDoes_55 : decode cX11_plainDoes 55 = .ok (.iload_n 2, 1) := by decide +kernel
theorem dX11_plainDoes_56 : decode cX11_plainDoes 56 = .ok (.tableswitch 387 1 21 #[100, 112, 126, 140, 154, 168, 182, 196, 217, 236, 250, 282, 304, 326, 335, 355, 355, 363, 387, 387, 371], 100) := by decide +kernel
theorem dX11_plainDoes_156 : decode cX11_plainDoes 156 = .ok (.aload_n 0, 1) := by decide +kernel
theorem dX11_plainDoes_157 : decode cX11_plainDoes 157 = .ok (.getfield 114, 3) := by decide +kernel
theorem dX11_plainDoes_160 : decode cX11_plainDoes 160 = .ok (.iload 5, 2) := by decide +kernel
theorem dX11_plainDoes_162 : decode cX11_plainDoes 162 = .ok (.iload 6, 2) := by decide +kernel
theorem dX11_plainDoes_164 : decode cX11_plainDoes 164 = .ok (.iastore, 1) := by decide +kernel
theorem dX11_plainDoes_165 : decode cX11_plainDoes 165 = .ok (.goto 278, 3) := by decide +kernel
theorem dX11_plainDoes_168 : decode cX11_plainDoes 168 = .ok (.aload_n 0, 1) := by decide +kernel
theorem dX11_plainDoes_169 : decode cX11_plainDoes 169 = .ok (.getfield 114, 3) := by decide +kernel
theorem dX11_plainDoes_172 : decode cX11_plainDoes 172 = .ok (.iload 5, 2) := by decide +kernel
theorem dX11_plainDoes_174 : decode cX11_plainDoes 174 = .ok (.iload_n 3, 1) := by decide +kernel
theorem dX11_plainDoes_175 : decode cX11_plainDoes 175 = .ok (.iload 4, 2) := by decide +kernel
theorem dX11_plainDoes_177 : decode cX11_plainDoes 177 = .ok (.iadd, 1) := by decide +kernel
theorem dX11_plainDoes_178 : decode cX11_plainDoes 178 = .ok (.iastore, 1) := by decide +kernel
theorem dX11_plainDoes_179 : decode cX11_plainDoes 179 = .ok (.goto 264, 3) := by decide +kernel
theorem dX11_plainDoes_182 : decode cX11_plainDoes 182 = .ok (.aload_n 0, 1) := by decide +kernel
theorem dX11_plainDoes_183 : decode cX11_plainDoes 183 = .ok (.getfield 114, 3) := by decide +kernel
theorem dX11_plainDoes_186 : decode cX11_plainDoes 186 = .ok (.iload 5, 2) := by decide +kernel
theorem dX11_plainDoes_188 : decode cX11_plainDoes 188 = .ok (.iload_n 3, 1) := by decide +kernel
theorem dX11_plainDoes_189 : decode cX11_plainDoes 189 = .ok (.iload 4, 2) := by decide +kernel
theorem dX11_plainDoes_191 : decode cX11_plainDoes 191 = .ok (.isub, 1) := by decide +kernel
theorem dX11_plainDoes_192 : decode cX11_plainDoes 192 = .ok (.iastore, 1) := by decide +kernel
theorem dX11_plainDoes_193 : decode cX11_plainDoes 193 = .ok (.goto 250, 3) := by decide +kernel
theorem dX11_plainDoes_196 : decode cX11_plainDoes 196 = .ok (.aload_n 0, 1) := by decide +kernel
theorem dX11_plainDoes_197 : decode cX11_plainDoes 197 = .ok (.getfield 114, 3) := by decide +kernel
theorem dX11_plainDoes_200 : decode cX11_plainDoes 200 = .ok (.iload 5, 2) := by decide +kernel
theorem dX11_plainDoes_202 : decode cX11_plainDoes 202 = .ok (.iload_n 3, 1) := by decide +kernel
theorem dX11_plainDoes_203 : decode cX11_plainDoes 203 = .ok (.iload 4, 2) := by decide +kernel
theorem dX11_plainDoes_205 : decode cX11_plainDoes 205 = .ok (.imul, 1) := by decide +kernel
theorem dX11_plainDoes_206 : decode cX11_plainDoes 206 = .ok (.iastore, 1) := by decide +kernel
theorem dX11_plainDoes_207 : decode cX11_plainDoes 207 = .ok (.goto 236, 3) := by decide +kernel
theorem dX11_plainDoes_210 : decode cX11_plainDoes 210 = .ok (.aload_n 0, 1) := by decide +kernel
theorem dX11_plainDoes_211 : decode cX11_plainDoes 211 = .ok (.getfield 114, 3) := by decide +kernel
theorem dX11_plainDoes_214 : decode cX11_plainDoes 214 = .ok (.iload 5, 2) := by decide +kernel
theorem dX11_plainDoes_216 : decode cX11_plainDoes 216 = .ok (.iload_n 3, 1) := by decide +kernel
theorem dX11_plainDoes_217 : decode cX11_plainDoes 217 = .ok (.iload 4, 2) := by decide +kernel
theorem dX11_plainDoes_219 : decode cX11_plainDoes 219 = .ok (.idiv, 1) := by decide +kernel
theorem dX11_plainDoes_220 : decode cX11_plainDoes 220 = .ok (.iastore, 1) := by decide +kernel
theorem dX11_plainDoes_221 : decode cX11_plainDoes 221 = .ok (.goto 222, 3) := by decide +kernel
theorem dX11_plainDoes_224 : decode cX11_plainDoes 224 = .ok (.aload_n 0, 1) := by decide +kernel
theorem dX11_plainDoes_225 : decode cX11_plainDoes 225 = .ok (.getfield 114, 3) := by decide +kernel
theorem dX11_plainDoes_228 : decode cX11_plainDoes 228 = .ok (.iload 5, 2) := by decide +kernel
theorem dX11_plainDoes_230 : decode cX11_plainDoes 230 = .ok (.iload_n 3, 1) := by decide +kernel
theorem dX11_plainDoes_231 : decode cX11_plainDoes 231 = .ok (.iload 4, 2) := by decide +kernel
theorem dX11_plainDoes_233 : decode cX11_plainDoes 233 = .ok (.iand, 1) := by decide +kernel
theorem dX11_plainDoes_234 : decode cX11_plainDoes 234 = .ok (.iastore, 1) := by decide +kernel
theorem dX11_plainDoes_235 : decode cX11_plainDoes 235 = .ok (.goto 208, 3) := by decide +kernel
theorem dX11_plainDoes_238 : decode cX11_plainDoes 238 = .ok (.aload_n 0, 1) := by decide +kernel
theorem dX11_plainDoes_239 : decode cX11_plainDoes 239 = .ok (.getfield 114, 3) := by decide +kernel
theorem dX11_plainDoes_242 : decode cX11_plainDoes 242 = .ok (.iload 5, 2) := by decide +kernel
theorem dX11_plainDoes_244 : decode cX11_plainDoes 244 = .ok (.iload_n 3, 1) := by decide +kernel
theorem dX11_plainDoes_245 : decode cX11_plainDoes 245 = .ok (.iload 4, 2) := by decide +kernel
theorem dX11_plainDoes_247 : decode cX11_plainDoes 247 = .ok (.ixor, 1) := by decide +kernel
theorem dX11_plainDoes_248 : decode cX11_plainDoes 248 = .ok (.iastore, 1) := by decide +kernel
theorem dX11_plainDoes_249 : decode cX11_plainDoes 249 = .ok (.goto 194, 3) := by decide +kernel
theorem dX11_plainDoes_252 : decode cX11_plainDoes 252 = .ok (.aload_n 0, 1) := by decide +kernel
theorem dX11_plainDoes_253 : decode cX11_plainDoes 253 = .ok (.getfield 114, 3) := by decide +kernel
theorem dX11_plainDoes_256 : decode cX11_plainDoes 256 = .ok (.iload 5, 2) := by decide +kernel
theorem dX11_plainDoes_258 : decode cX11_plainDoes 258 = .ok (.iload_n 3, 1) := by decide +kernel
theorem dX11_plainDoes_259 : decode cX11_plainDoes 259 = .ok (.iload 4, 2) := by decide +kernel
theorem dX11_plainDoes_261 : decode cX11_plainDoes 261 = .ok (.if_icmp .ge 7, 3) := by decide +kernel
theorem dX11_plainDoes_264 : decode cX11_plainDoes 264 = .ok (.iconst 1, 1) := by decide +kernel
theorem dX11_plainDoes_265 : decode cX11_plainDoes 265 = .ok (.goto 4, 3) := by decide +kernel
theorem dX11_plainDoes_268 : decode cX11_plainDoes 268 = .ok (.iconst 0, 1) := by decide +kernel
theorem dX11_plainDoes_269 : decode cX11_plainDoes 269 = .ok (.iastore, 1) := by decide +kernel
theorem dX11_plainDoes_270 : decode cX11_plainDoes 270 = .ok (.goto 173, 3) := by decide +kernel
theorem dX11_plainDoes_273 : decode cX11_plainDoes 273 = .ok (.aload_n 0, 1) := by decide +kernel
theorem dX11_plainDoes_274 : decode cX11_plainDoes 274 = .ok (.getfield 114, 3) := by decide +kernel
theorem dX11_plainDoes_277 : decode cX11_plainDoes 277 = .ok (.iload 5, 2) := by decide +kernel
theorem dX11_plainDoes_279 : decode cX11_plainDoes 279 = .ok (.aload_n 0, 1) := by decide +kernel
theorem dX11_plainDoes_280 : decode cX11_plainDoes 280 = .ok (.getfield 117, 3) := by decide +kernel
theorem dX11_plainDoes_283 : decode cX11_plainDoes 283 = .ok (.iload_n 3, 1) := by decide +kernel
theorem dX11_plainDoes_284 : decode cX11_plainDoes 284 = .ok (.iload 6, 2) := by decide +kernel
theorem dX11_plainDoes_286 : decode cX11_plainDoes 286 = .ok (.iadd, 1) := by decide +kernel
theorem dX11_plainDoes_287 : decode cX11_plainDoes 287 = .ok (.iaload, 1) := by decide +kernel
theorem dX11_plainDoes_288 : decode cX11_plainDoes 288 = .ok (.iastore, 1) := by decide +kernel
theorem dX11_plainDoes_289 : decode cX11_plainDoes 289 = .ok (.goto 154, 3) := by decide +kernel
theorem dX11_plainDoes_292 : decode cX11_plainDoes 292 = .ok (.aload_n 0, 1) := by decide +kernel
theorem dX11_plainDoes_293 : decode cX11_plainDoes 293 = .ok (.getfield 117, 3) := by decide +kernel
theorem dX11_plainDoes_296 : decode cX11_plainDoes 296 = .ok (.iload_n 3, 1) := by decide +kernel
theorem dX11_plainDoes_297 : decode cX11_plainDoes 297 = .ok (.iload 6, 2) := by decide +kernel
theorem dX11_plainDoes_299 : decode cX11_plainDoes 299 = .ok (.iadd, 1) := by decide +kernel
theorem dX11_plainDoes_300 : decode cX11_plainDoes 300 = .ok (.iload 4, 2) := by decide +kernel
theorem dX11_plainDoes_302 : decode cX11_plainDoes 302 = .ok (.iastore, 1) := by decide +kernel
theorem dX11_plainDoes_303 : decode cX11_plainDoes 303 = .ok (.goto 140, 3) := by decide +kernel
theorem dX11_plainDoes_306 : decode cX11_plainDoes 306 = .ok (.aload_n 0, 1) := by decide +kernel
theorem dX11_plainDoes_307 : decode cX11_plainDoes 307 = .ok (.getfield 117, 3) := by decide +kernel
theorem dX11_plainDoes_310 : decode cX11_plainDoes 310 = .ok (.iload_n 3, 1) := by decide +kernel
theorem dX11_plainDoes_311 : decode cX11_plainDoes 311 = .ok (.iload 6, 2) := by decide +kernel
theorem dX11_plainDoes_313 : decode cX11_plainDoes 313 = .ok (.iadd, 1) := by decide +kernel
theorem dX11_plainDoes_314 : decode cX11_plainDoes 314 = .ok (.aload_n 0, 1) := by decide +kernel
theorem dX11_plainDoes_315 : decode cX11_plainDoes 315 = .ok (.getfield 117, 3) := by decide +kernel
theorem dX11_plainDoes_318 : decode cX11_plainDoes 318 = .ok (.iload_n 3, 1) := by decide +kernel
theorem dX11_plainDoes_319 : decode cX11_plainDoes 319 = .ok (.iload 6, 2) := by decide +kernel
theorem dX11_plainDoes_321 : decode cX11_plainDoes 321 = .ok (.iadd, 1) := by decide +kernel
theorem dX11_plainDoes_322 : decode cX11_plainDoes 322 = .ok (.iaload, 1) := by decide +kernel
theorem dX11_plainDoes_323 : decode cX11_plainDoes 323 = .ok (.ldc_w 305, 3) := by decide +kernel
theorem dX11_plainDoes_326 : decode cX11_plainDoes 326 = .ok (.iand, 1) := by decide +kernel
theorem dX11_plainDoes_327 : decode cX11_plainDoes 327 = .ok (.iload 4, 2) := by decide +kernel
theorem dX11_plainDoes_329 : decode cX11_plainDoes 329 = .ok (.ldc_w 306, 3) := by decide +kernel
theorem dX11_plainDoes_332 : decode cX11_plainDoes 332 = .ok (.iand, 1) := by decide +kernel
theorem dX11_plainDoes_333 : decode cX11_plainDoes 333 = .ok (.ior, 1) := by decide +kernel
theorem dX11_plainDoes_334 : decode cX11_plainDoes 334 = .ok (.iastore, 1) := by decide +kernel
theorem dX11_plainDoes_335 : decode cX11_plainDoes 335 = .ok (.goto 108, 3) := by decide +kernel
theorem dX11_plainDoes_338 : decode cX11_plainDoes 338 = .ok (.aload_n 0, 1) := by decide +kernel
theorem dX11_plainDoes_339 : decode cX11_plainDoes 339 = .ok (.iload_n 3, 1) := by decide +kernel
theorem dX11_plainDoes_340 : decode cX11_plainDoes 340 = .ok (.iload 4, 2) := by decide +kernel
theorem dX11_plainDoes_342 : decode cX11_plainDoes 342 = .ok (.if_icmp .ne 8, 3) := by decide +kernel
theorem dX11_plainDoes_345 : decode cX11_plainDoes 345 = .ok (.iload 6, 2) := by decide +kernel
theorem dX11_plainDoes_347 : decode cX11_plainDoes 347 = .ok (.goto 7, 3) := by decide +kernel
theorem dX11_plainDoes_350 : decode cX11_plainDoes 350 = .ok (.aload_n 0, 1) := by decide +kernel
theorem dX11_plainDoes_351 : decode cX11_plainDoes 351 = .ok (.getfield 337, 3) := by decide +kernel
theorem dX11_plainDoes_354 : decode cX11_plainDoes 354 = .ok (.putfield 337, 3) := by decide +kernel
theorem dX11_plainDoes_357 : decode cX11_plainDoes 357 = .ok (.goto 86, 3) := by decide +kernel
theorem dX11_plainDoes_360 : decode cX11_plainDoes 360 = .ok (.aload_n 0, 1) := by decide +kernel
theorem dX11_plainDoes_361 : decode cX11_plainDoes 361 = .ok (.iload_n 3, 1) := by decide +kernel
theorem dX11_plainDoes_362 : decode cX11_plainDoes 362 = .ok (.iload 4, 2) := by decide +kernel
theorem dX11_plainDoes_364 : decode cX11_plainDoes 364 = .ok (.if_icmp .ge 8, 3) := by decide +kernel
theorem dX11_plainDoes_367 : decode cX11_plainDoes 367 = .ok (.iload 6, 2) := by decide +kernel
theorem dX11_plainDoes_369 : decode cX11_plainDoes 369 = .ok (.goto 7, 3) := by decide +kernel
theorem dX11_plainDoes_372 : decode cX11_plainDoes 372 = .ok (.aload_n 0, 1) := by decide +kernel
theorem dX11_plainDoes_373 : decode cX11_plainDoes 373 = .ok (.getfield 337, 3) := by decide +kernel
theorem dX11_plainDoes_376 : decode cX11_plainDoes 376 = .ok (.putfield 337, 3) := by decide +kernel
theorem dX11_plainDoes_379 : decode cX11_plainDoes 379 = .ok (.goto 64, 3) := by decide +kernel
theorem dX11_plainDoes_382 : decode cX11_plainDoes 382 = .ok (.aload_n 0, 1) := by decide +kernel
theorem dX11_plainDoes_383 : decode cX11_plainDoes 383 = .ok (.iload 6, 2) := by decide +kernel
theorem dX11_plainDoes_385 : decode cX11_plainDoes 385 = .ok (.putfield 337, 3) := by decide +kernel
theorem dX11_plainDoes_388 : decode cX11_plainDoes 388 = .ok (.goto 55, 3) := by decide +kernel
theorem dX11_plainDoes_391 : decode cX11_plainDoes 391 = .ok (.aload_n 0, 1) := by decide +kernel
theorem dX11_plainDoes_392 : decode cX11_plainDoes 392 = .ok (.getfield 114, 3) := by decide +kernel
theorem dX11_plainDoes_395 : decode cX11_plainDoes 395 = .ok (.iload 5, 2) := by decide +kernel
theorem dX11_plainDoes_397 : decode cX11_plainDoes 397 = .ok (.aload_n 0, 1) := by decide +kernel
theorem dX11_plainDoes_398 : decode cX11_plainDoes 398 = .ok (.getfield 337, 3) := by decide +kernel
theorem dX11_plainDoes_401 : decode cX11_plainDoes 401 = .ok (.iastore, 1) := by decide +kernel
theorem dX11_plainDoes_402 : decode cX11_plainDoes 402 = .ok (.aload_n 0, 1) := by decide +kernel
theorem dX11_plainDoes_403 : decode cX11_plainDoes 403 = .ok (.iload 6, 2) := by decide +kernel
theorem dX11_plainDoes_405 : decode cX11_plainDoes 405 = .ok (.putfield 337, 3) := by decide +kernel
theorem dX11_plainDoes_408 : decode cX11_plainDoes 408 = .ok (.goto 35, 3) := by decide +kernel
theorem dX11_plainDoes_411 : decode cX11_plainDoes 411 = .ok (.aload_n 0, 1) := by decide +kernel
theorem dX11_plainDoes_412 : decode cX11_plainDoes 412 = .ok (.iload_n 3, 1) := by decide +kernel
theorem dX11_plainDoes_413 : decode cX11_plainDoes 413 = .ok (.putfield 337, 3) := by decide +kernel
theorem dX11_plainDoes_416 : decode cX11_plainDoes 416 = .ok (.goto 27, 3) := by decide +kernel
theorem dX11_plainDoes_419 : decode cX11_plainDoes 419 = .ok (.aload_n 0, 1) := by decide +kernel
theorem dX11_plainDoes_420 : decode cX11_plainDoes 420 = .ok (.iconst 1, 1) := by decide +kernel
theorem dX11_plainDoes_421 : decode cX11_plainDoes 421 = .ok (.putfield 340, 3) := by decide +kernel
theorem dX11_plainDoes_424 : decode cX11_plainDoes 424 = .ok (.goto 19, 3) := by decide +kernel
theorem dX11_plainDoes_427 : decode cX11_plainDoes 427 = .ok (.aload_n 0, 1) := by decide +kernel
theorem dX11_plainDoes_428 : decode cX11_plainDoes 428 = .ok (.iconst 0, 1) := by decide +kernel
theorem dX11_plainDoes_429 : decode cX11_plainDoes 429 = .ok (.putfield 334, 3) := by decide +kernel
theorem dX11_plainDoes_432 : decode cX11_plainDoes 432 = .ok (.aload_n 0, 1) := by decide +kernel
theorem dX11_plainDoes_433 : decode cX11_plainDoes 433 = .ok (.aload_n 0, 1) := by decide +kernel
theorem dX11_plainDoes_434 : decode cX11_plainDoes 434 = .ok (.getfield 343, 3) := by decide +kernel
theorem dX11_plainDoes_437 : decode cX11_plainDoes 437 = .ok (.putfield 337, 3) := by decide +kernel
theorem dX11_plainDoes_440 : decode cX11_plainDoes 440 = .ok (.goto 3, 3) := by decide +kernel
theorem dX11_plainDoes_443 : decode cX11_plainDoes 443 = .ok (.return_, 1) := by decide +kernel
def mX11_pushes : MD := (cX11_pushes, RX11, yX11_pushes, 3, none, 0, 0)
theorem mf_X11_pushes : MF mX11_pushes 1 := MF.of 1927 90 (by decide +kernel) (by decide +kernel) (by decide +kernel) (by decide +kernel) (by decide +kernel) rfl
def mX11_fetches : MD := (cX11_fetches, RX11, yX11_fetches, 5, none, 1, 23)
theorem mf_X11_fetches : MF mX11_fetches 0 := MF.of 1915 90 (by decide +kernel) (by decide +kernel) (by decide +kernel) (by decide +kernel) (by decide +kernel) rfl
def mX11_cycles : MD := (cX11_cycles, RX11, yX11_cycles, 1, none, 6, 135)
theorem mf_X11_cycles : MF mX11_cycles 0 := MF.of 1789 90 (by decide +kernel) (by decide +kernel) (by decide +kernel) (by decide +kernel) (by decide +kernel) rfl
def mX11_run : MD := (cX11_run, RX11, yX11_run, 4, (some .int), 7, 155)
theorem mf_X11_run : MF mX11_run 1 := MF.of 1785 90 (by decide +kernel) (by decide +kernel) (by decide +kernel) (by decide +kernel) (by decide +kernel) rfl
def mX11_cycle : MD := (cX11_cycle, RX11, yX11_cycle, 1, (some .int), 0, 0)
theorem mf_X11_cycle : MF mX11_cycle 0 := MF.of 1931 90 (by decide +kernel) (by decide +kernel) (by decide +kernel) (by decide +kernel) (by decide +kernel) rfl
def mX11_hasStopped : MD := (cX11_hasStopped, RX11, yX11_hasStopped, 1, (some .boolean), 0, 0)
theorem mf_X11_hasStopped : MF mX11_hasStopped 0 := MF.of 1935 90 (by decide +kernel) (by decide +kernel) (by decide +kernel) (by decide +kernel) (by decide +kernel) rfl
def mX11_ends_ : MD := (cX11_ends_, RX11, yX11_ends_, 1, (some .int), 0, 0)
theorem mf_X11_ends_ : MF mX11_ends_ 0 := MF.of 1939 90 (by decide +kernel) (by decide +kernel) (by decide +kernel) (by decide +kernel) (by decide +kernel) rfl
def mX11_noEnd : MD := (cX11_noEnd, RX11, yX11_noEnd, 2, (some .boolean), 1, 22)
theorem mf_X11_noEnd : MF mX11_noEnd 1 := MF.of 1947 90 (by decide +kernel) (by decide +kernel) (by decide +kernel) (by decide +kernel) (by decide +kernel) rfl
def mX11_kindAt : MD := (cX11_kindAt, RX11, yX11_kindAt, 2, (some .int), 2, 43)
theorem mf_X11_kindAt : MF mX11_kindAt 1 := MF.of 1943 90 (by decide +kernel) (by decide +kernel) (by decide +kernel) (by decide +kernel) (by decide +kernel) rfl
def mX11_placeAt : MD := (cX11_placeAt, RX11, yX11_placeAt, 2, (some .int), 2, 43)
theorem mf_X11_placeAt : MF mX11_placeAt 1 := MF.of 1951 90 (by decide +kernel) (by decide +kernel) (by decide +kernel) (by decide +kernel) (by decide +kernel) rfl
def mX11_address : MD := (cX11_address, RX11, yX11_address, 2, (some .int), 0, 0)
theorem mf_X11_address : MF mX11_address 1 := MF.of 1967 90 (by decide +kernel) (by decide +kernel) (by decide +kernel) (by decide +kernel) (by decide +kernel) rfl
def mX11_plainTrap : MD := (cX11_plainTrap, RX11, yX11_plainTrap, 6, (some .int), 2, 42)
theorem mf_X11_plainTrap : MF mX11_plainTrap 1 := MF.of 1963 90 (by decide +kernel) (by decide +kernel) (by decide +kernel) (by decide +kernel) (by decide +kernel) rfl
def mX11_plainDoes : MD := (cX11_plainDoes, RX11, yX11_plainDoes, 7, none, 0, 0)
theorem mf_X11_plainDoes : MF mX11_plainDoes 1 := MF.of 1971 90 (by decide +kernel) (by decide +kernel) (by decide +kernel) (by decide +kernel) (by decide +kernel) rfl
theorem cv_X11_153 : CVs RX11 153 mX11_cycles 12 := CVs.of 1786 1788 40 (by decide +kernel) (by decide +kernel) (by decide +kernel) _ rfl rfl
theorem cv_X11_156 : CVs RX11 156 mX11_answers 12 := CVs.of 1790 1792 41 (by decide +kernel) (by decide +kernel) (by decide +kernel) _ rfl rfl
theorem cv_X11_159 : CVs RX11 159 mX11_endings 12 := CVs.of 1794 1796 42 (by decide +kernel) (by decide +kernel) (by decide +kernel) _ rfl rfl
theorem cv_X11_162 : CVs RX11 162 mX11_retires 12 := CVs.of 1840 1842 51 (by decide +kernel) (by decide +kernel) (by decide +kernel) _ rfl rfl
theorem cv_X11_165 : CVs RX11 165 mX11_begins 12 := CVs.of 1877 1879 58 (by decide +kernel) (by decide +kernel) (by decide +kernel) _ rfl rfl
theorem cv_X11_168 : CVs RX11 168 mX11_renames 12 := CVs.of 1897 1899 63 (by decide +kernel) (by decide +kernel) (by decide +kernel) _ rfl rfl
theorem cv_X11_171 : CVs RX11 171 mX11_fetches 12 := CVs.of 1912 1914 66 (by decide +kernel) (by decide +kernel) (by decide +kernel) _ rfl rfl
theorem cv_X11_186 : CVs RX11 186 mX11_keepsStack 12 := CVs.of 1916 1918 67 (by decide +kernel) (by decide +kernel) (by decide +kernel) _ rfl rfl
theorem cv_X11_190 : CVs RX11 190 mX11_guess 12 := CVs.of 1920 1922 68 (by decide +kernel) (by decide +kernel) (by decide +kernel) _ rfl rfl
theorem cv_X11_194 : CVs RX11 194 mX11_pushes 12 := CVs.of 1924 1926 69 (by decide +kernel) (by decide +kernel) (by decide +kernel) _ rfl rfl
theorem cv_X11_328 : CVs RX11 328 mX11_noEnd 12 := CVs.of 1944 1946 70 (by decide +kernel) (by decide +kernel) (by decide +kernel) _ rfl rfl
theorem cv_X11_331 : CVs RX11 331 mX11_address 12 := CVs.of 1964 1966 73 (by decide +kernel) (by decide +kernel) (by decide +kernel) _ rfl rfl
theorem fl_X11_183 : FL RX11 183 12 42 0 := FL.of _ rfl (by decide) 1589 (by decide +kernel) (by decide)
theorem fl_X11_334 : FL RX11 334 12 59 1 := FL.of _ rfl (by decide) 1606 (by decide +kernel) (by decide)
theorem fl_X11_337 : FL RX11 337 12 57 0 := FL.of _ rfl (by decide) 1604 (by decide +kernel) (by decide)
theorem fl_X11_340 : FL RX11 340 12 60 1 := FL.of _ rfl (by decide) 1607 (by decide +kernel) (by decide)
theorem fl_X11_343 : FL RX11 343 12 58 0 := FL.of _ rfl (by decide) 1605 (by decide +kernel) (by decide)
theorem fn_12_36 : FN 12 36 false := fun q h => by cases h; rfl
theorem fn_12_42 : FN 12 42 false := fun q h => by cases h; rfl
theorem fn_12_57 : FN 12 57 false := fun q h => by cases h; rfl
theorem fn_12_59 : FN 12 59 false := fun q h => by cases h; rfl
theorem fn_12_60 : FN 12 60 false := fun q h => by cases h; rfl
def f_X11_pushes_b47 (a0 : Nat) (x1 : Int32) (μ : Mm) : Option (Unit × Mm) :=
  ck (mK μ a0 = 112) <|
  bd (mR μ a0 28) fun p8 =>
  ck (isA 1 (mK μ p8)) <|
  ck (inb 0 (mL μ p8)) <|
  ck (inb 0 (mL μ p8)) <|
  zl (sI μ p8 (Int32.toNatClampNeg 0) ((mI μ p8 (Int32.toNatClampNeg 0)) + 1)) fun μ13 =>
  bd (mR μ13 a0 28) fun p16 =>
  bd (mR μ13 a0 28) fun p18 =>
  ck (isA 1 (mK μ13 p18)) <|
  ck (inb 0 (mL μ13 p18)) <|
  ck (isA 1 (mK μ13 p16)) <|
  ck (inb (mI μ13 p18 (Int32.toNatClampNeg 0)) (mL μ13 p16)) <|
  zl (sI μ13 p16 (Int32.toNatClampNeg (mI μ13 p18 (Int32.toNatClampNeg 0))) x1) fun μ24 =>
  some ((), μ24)
def f_X11_pushes_b37 (a0 : Nat) (x1 : Int32) (μ : Mm) : Option (Unit × Mm) :=
  ck (mK μ a0 = 112) <|
  bd (mR μ a0 28) fun p41 =>
  ck (isA 1 (mK μ p41)) <|
  ck (inb 0 (mL μ p41)) <|
  ck (inb 0 (mL μ p41)) <|
  zl (sI μ p41 (Int32.toNatClampNeg 0) ((mI μ p41 (Int32.toNatClampNeg 0)) - 1)) fun μ46 =>
  f_X11_pushes_b47 a0 x1 μ46
def f_X11_pushes_b12 : Nat → Nat → Int32 → Int32 → Mm → Option (Unit × Mm)
  | 0, _, _, _, _ => none
  | n + 1, a0, x1, x2, μ =>
  if 4 ≤ x2 then
    f_X11_pushes_b37 a0 x1 μ
  else
    ck (mK μ a0 = 112) <|
    bd (mR μ a0 28) fun p29 =>
    bd (mR μ a0 28) fun p31 =>
    ck (isA 1 (mK μ p31)) <|
    ck (inb (x2 + 1) (mL μ p31)) <|
    ck (isA 1 (mK μ p29)) <|
    ck (inb x2 (mL μ p29)) <|
    zl (sI μ p29 (Int32.toNatClampNeg x2) (mI μ p31 (Int32.toNatClampNeg (x2 + 1)))) fun μ37 =>
    f_X11_pushes_b12 n a0 x1 (x2 + 1) μ37
def f_X11_pushes (a0 : Nat) (x1 : Int32) (μ : Mm) : Option (Unit × Mm) :=
  ck (mK μ a0 = 112) <|
  bd (mR μ a0 28) fun p2 =>
  ck (isA 1 (mK μ p2)) <|
  ck (inb 0 (mL μ p2)) <|
  if ¬ (mI μ p2 (Int32.toNatClampNeg 0)) = 4 then
    f_X11_pushes_b47 a0 x1 μ
  else
    f_X11_pushes_b12 5000 a0 x1 1 μ
set_option maxRecDepth 100000 in
theorem s_X11_pushes_b47 {l : Launch} {G : Gt} (hG : Gok l G) (a0 : Nat) (x1 : Int32) (μ : Mm) (r : Unit) (μ' : Mm) (h : f_X11_pushes_b47 a0 x1 μ = some (r, μ')) : ZX l G mX11_pushes 47 [(0, .ref a0), (1, .int x1)] [] μ (.inl none) μ' := by
  unfold f_X11_pushes_b47 at h
  refine zx_aload_n dX11_pushes_47 rfl (q := 0) rfl ?_
  obtain ⟨h7, h⟩ := ck_e h
  obtain ⟨p8, h9, h⟩ := bd_e h
  refine zx_getR hG fl_X11_80 h7 h9 dX11_pushes_48 ?_
  refine zx_iconst (v := 0) dX11_pushes_51 iv_iconst_0 ?_
  refine zx_dup2 dX11_pushes_52 rfl rfl ?_
  obtain ⟨h10, h⟩ := ck_e h
  obtain ⟨h11, h⟩ := ck_e h
  refine zx_iald hG rfl (h10).1 (h10).2 (inb_e h11) dX11_pushes_53 ?_
  refine zx_iconst (v := 1) dX11_pushes_54 iv_iconst_1 ?_
  refine zx_iadd dX11_pushes_55 ?_
  obtain ⟨h12, h⟩ := ck_e h
  refine zx_iast hG rfl (h10).1 (h10).2 (inb_e h12) dX11_pushes_56 ?_
  obtain ⟨μ13, e15, h⟩ := zlm_e h
  refine zx_mem e15 ?_
  have e14 : mK μ13 = mK μ := (congrArg mK e15).trans rfl
  refine zx_aload_n dX11_pushes_57 rfl (q := 0) rfl ?_
  obtain ⟨p16, h17, h⟩ := bd_e h
  refine zx_getR hG fl_X11_80 (kp_o (e14) h7) h17 dX11_pushes_58 ?_
  refine zx_aload_n dX11_pushes_61 rfl (q := 0) rfl ?_
  obtain ⟨p18, h19, h⟩ := bd_e h
  refine zx_getR hG fl_X11_80 (kp_o (e14) h7) h19 dX11_pushes_62 ?_
  refine zx_iconst (v := 0) dX11_pushes_65 iv_iconst_0 ?_
  obtain ⟨h20, h⟩ := ck_e h
  obtain ⟨h21, h⟩ := ck_e h
  refine zx_iald hG rfl (h20).1 (h20).2 (inb_e h21) dX11_pushes_66 ?_
  refine zx_iload_n dX11_pushes_67 rfl (q := 1) rfl ?_
  obtain ⟨h22, h⟩ := ck_e h
  obtain ⟨h23, h⟩ := ck_e h
  refine zx_iast hG rfl (h22).1 (h22).2 (inb_e h23) dX11_pushes_68 ?_
  obtain ⟨μ24, e26, h⟩ := zlm_e h
  refine zx_mem e26 ?_
  have e25 : mK μ24 = mK μ13 := (congrArg mK e26).trans rfl
  cases h
  exact zx_vret dX11_pushes_69 rfl
set_option maxRecDepth 100000 in
theorem s_X11_pushes_b37 {l : Launch} {G : Gt} (hG : Gok l G) (a0 : Nat) (x1 : Int32) (μ : Mm) (r : Unit) (μ' : Mm) (h : f_X11_pushes_b37 a0 x1 μ = some (r, μ')) : ZX l G mX11_pushes 37 [(0, .ref a0), (1, .int x1)] [] μ (.inl none) μ' := by
  unfold f_X11_pushes_b37 at h
  refine zx_aload_n dX11_pushes_37 rfl (q := 0) rfl ?_
  obtain ⟨h40, h⟩ := ck_e h
  obtain ⟨p41, h42, h⟩ := bd_e h
  refine zx_getR hG fl_X11_80 h40 h42 dX11_pushes_38 ?_
  refine zx_iconst (v := 0) dX11_pushes_41 iv_iconst_0 ?_
  refine zx_dup2 dX11_pushes_42 rfl rfl ?_
  obtain ⟨h43, h⟩ := ck_e h
  obtain ⟨h44, h⟩ := ck_e h
  refine zx_iald hG rfl (h43).1 (h43).2 (inb_e h44) dX11_pushes_43 ?_
  refine zx_iconst (v := 1) dX11_pushes_44 iv_iconst_1 ?_
  refine zx_isub dX11_pushes_45 ?_
  obtain ⟨h45, h⟩ := ck_e h
  refine zx_iast hG rfl (h43).1 (h43).2 (inb_e h45) dX11_pushes_46 ?_
  obtain ⟨μ46, e48, h⟩ := zlm_e h
  refine zx_mem e48 ?_
  have e47 : mK μ46 = mK μ := (congrArg mK e48).trans rfl
  exact s_X11_pushes_b47 hG _ _ _ _ _ h
set_option maxRecDepth 100000 in
theorem s_X11_pushes_b12 {l : Launch} {G : Gt} (hG : Gok l G) : ∀ (n : Nat) (a0 : Nat) (x1 : Int32) (x2 : Int32) (μ : Mm) (r : Unit) (μ' : Mm), f_X11_pushes_b12 n a0 x1 x2 μ = some (r, μ') → ZX l G mX11_pushes 12 [(0, .ref a0), (1, .int x1), (2, .int x2)] [] μ (.inl none) μ' := by
  intro n
  induction n with
  | zero =>
    intro a0 x1 x2 μ r μ' h
    cases h
  | succ n ih =>
    intro a0 x1 x2 μ r μ' h
    unfold f_X11_pushes_b12 at h
    refine zx_iload_n dX11_pushes_12 rfl (q := 2) rfl ?_
    refine zx_iconst (v := 4) dX11_pushes_13 iv_iconst_4 ?_
    by_cases c27 : 4 ≤ x2
    · have h := it_t c27 h
      refine zx_icmp_ge_t (tgt := 37) dX11_pushes_14 (by decide) c27 ?_
      refine zx_sub (L' := [(0, .ref a0), (1, .int x1)]) [0, 1] rfl ?_
      exact s_X11_pushes_b37 hG _ _ _ _ _ h
    · have h := it_f c27 h
      refine zx_icmp_ge_f (tgt := 37) dX11_pushes_14 (by decide) c27 ?_
      refine zx_aload_n dX11_pushes_17 rfl (q := 0) rfl ?_
      obtain ⟨h28, h⟩ := ck_e h
      obtain ⟨p29, h30, h⟩ := bd_e h
      refine zx_getR hG fl_X11_80 h28 h30 dX11_pushes_18 ?_
      refine zx_iload_n dX11_pushes_21 rfl (q := 2) rfl ?_
      refine zx_aload_n dX11_pushes_22 rfl (q := 0) rfl ?_
      obtain ⟨p31, h32, h⟩ := bd_e h
      refine zx_getR hG fl_X11_80 h28 h32 dX11_pushes_23 ?_
      refine zx_iload_n dX11_pushes_26 rfl (q := 2) rfl ?_
      refine zx_iconst (v := 1) dX11_pushes_27 iv_iconst_1 ?_
      refine zx_iadd dX11_pushes_28 ?_
      obtain ⟨h33, h⟩ := ck_e h
      obtain ⟨h34, h⟩ := ck_e h
      refine zx_iald hG rfl (h33).1 (h33).2 (inb_e h34) dX11_pushes_29 ?_
      obtain ⟨h35, h⟩ := ck_e h
      obtain ⟨h36, h⟩ := ck_e h
      refine zx_iast hG rfl (h35).1 (h35).2 (inb_e h36) dX11_pushes_30 ?_
      obtain ⟨μ37, e39, h⟩ := zlm_e h
      refine zx_mem e39 ?_
      have e38 : mK μ37 = mK μ := (congrArg mK e39).trans rfl
      refine zx_iinc (q := 2) (v := x2 + 1) (L' := [(2, .int (x2 + 1)), (0, .ref a0), (1, .int x1)]) dX11_pushes_31 rfl rfl (by decide) rfl ?_
      refine zx_goto (tgt := 12) dX11_pushes_34 (by decide) ?_
      refine zx_sub (L' := [(0, .ref a0), (1, .int x1), (2, .int (x2 + 1))]) [1, 2, 0] rfl ?_
      exact ih _ _ _ _ _ _ h
set_option maxRecDepth 100000 in
theorem s_X11_pushes {l : Launch} {G : Gt} (hG : Gok l G) (a0 : Nat) (x1 : Int32) (μ : Mm) (r : Unit) (μ' : Mm) (h : f_X11_pushes a0 x1 μ = some (r, μ')) : ZX l G mX11_pushes 0 [(0, .ref a0), (1, .int x1)] [] μ (.inl none) μ' := by
  unfold f_X11_pushes at h
  refine zx_aload_n dX11_pushes_0 rfl (q := 0) rfl ?_
  obtain ⟨h1, h⟩ := ck_e h
  obtain ⟨p2, h3, h⟩ := bd_e h
  refine zx_getR hG fl_X11_80 h1 h3 dX11_pushes_1 ?_
  refine zx_iconst (v := 0) dX11_pushes_4 iv_iconst_0 ?_
  obtain ⟨h4, h⟩ := ck_e h
  obtain ⟨h5, h⟩ := ck_e h
  refine zx_iald hG rfl (h4).1 (h4).2 (inb_e h5) dX11_pushes_5 ?_
  refine zx_iconst (v := 4) dX11_pushes_6 iv_iconst_4 ?_
  by_cases c6 : ¬ (mI μ p2 (Int32.toNatClampNeg 0)) = 4
  · have h := it_t c6 h
    refine zx_icmp_ne_t (tgt := 47) dX11_pushes_7 (by decide) c6 ?_
    exact s_X11_pushes_b47 hG _ _ _ _ _ h
  · have h := it_f c6 h
    refine zx_icmp_ne_f (tgt := 47) dX11_pushes_7 (by decide) (Classical.not_not.mp c6) ?_
    refine zx_iconst (v := 1) dX11_pushes_10 iv_iconst_1 ?_
    refine zx_istore_n (L' := [(2, .int 1), (0, .ref a0), (1, .int x1)]) dX11_pushes_11 rfl (by decide) rfl ?_
    refine zx_sub (L' := [(0, .ref a0), (1, .int x1), (2, .int 1)]) [1, 2, 0] rfl ?_
    exact s_X11_pushes_b12 hG 5000 _ _ _ _ _ _ h
def f_X11_fetches_b223 (k4 : Nat → Int32 → Int32 → Mm → Option (Unit × Mm)) (a0 : Nat) (x2 : Int32) (s0 : Int32) (μ : Mm) : Option (Unit × Mm) :=
  k4 a0 s0 (x2 + 1) μ
def f_X11_fetches_b204 (k4 : Nat → Int32 → Int32 → Mm → Option (Unit × Mm)) (a0 : Nat) (x2 : Int32) (x4 : Int32) (s0 : Int32) (s1 : Nat) (μ : Mm) : Option (Unit × Mm) :=
  ck (mK μ s1 = 112) <|
  ck (zb s0 = s0) <|
  zl (sI μ s1 27 s0) fun μ82 =>
  ck (mK μ82 a0 = 112) <|
  if ¬ (mI μ82 a0 26) = (x4 + 1) then
    f_X11_fetches_b223 k4 a0 x2 0 μ82
  else
    f_X11_fetches_b223 k4 a0 x2 1 μ82
def f_X11_fetches_b199 (k4 : Nat → Int32 → Int32 → Mm → Option (Unit × Mm)) (a0 : Nat) (x2 : Int32) (x4 : Int32) (s0 : Nat) (μ : Mm) : Option (Unit × Mm) :=
  f_X11_fetches_b204 k4 a0 x2 x4 1 s0 μ
def f_X11_fetches_b160 (k4 : Nat → Int32 → Int32 → Mm → Option (Unit × Mm)) (a0 : Nat) (x2 : Int32) (a3 : Nat) (x4 : Int32) (μ : Mm) : Option (Unit × Mm) :=
  ck (mK μ a0 = 112) <|
  cl (f_X11_keepsStack a0 a3 23 μ) fun _ μ63 =>
  ck (isA 1 (mK μ63 a3)) <|
  ck (inb 5 (mL μ63 a3)) <|
  ck (mK μ63 a0 = 112) <|
  zl (sI μ63 a0 26 (mI μ63 a3 (Int32.toNatClampNeg 5))) fun μ67 =>
  bd (mR μ67 a0 0) fun p70 =>
  ck (isA 1 (mK μ67 p70)) <|
  ck (inb x4 (mL μ67 p70)) <|
  if (mI μ67 p70 (Int32.toNatClampNeg x4)) = 18 then
    f_X11_fetches_b199 k4 a0 x2 x4 a0 μ67
  else
    bd (mR μ67 a0 0) fun p75 =>
    ck (isA 1 (mK μ67 p75)) <|
    ck (inb x4 (mL μ67 p75)) <|
    if ¬ (mI μ67 p75 (Int32.toNatClampNeg x4)) = 21 then
      f_X11_fetches_b204 k4 a0 x2 x4 0 a0 μ67
    else
      f_X11_fetches_b199 k4 a0 x2 x4 a0 μ67
def f_X11_fetches_b88 (k4 : Nat → Int32 → Int32 → Mm → Option (Unit × Mm)) (a0 : Nat) (x2 : Int32) (a3 : Nat) (μ : Mm) : Option (Unit × Mm) :=
  ck (mK μ a0 = 112) <|
  ck (isA 1 (mK μ a3)) <|
  ck (inb 0 (mL μ a3)) <|
  zl (sI μ a3 (Int32.toNatClampNeg 0) (mI μ a0 26)) fun μ25 =>
  ck (inb 1 (mL μ25 a3)) <|
  zl (sI μ25 a3 (Int32.toNatClampNeg 1) (mI μ25 a0 36)) fun μ29 =>
  ck (inb 17 (mL μ29 a3)) <|
  zl (sI μ29 a3 (Int32.toNatClampNeg 17) (mI μ29 a0 42)) fun μ33 =>
  zl (sI μ33 a0 42 ((mI μ33 a0 42) + 1)) fun μ36 =>
  cl (f_X11_keepsStack a0 a3 18 μ36) fun _ μ41 =>
  ck (mK μ41 a0 = 112) <|
  cl (f_X11_guess a0 (mI μ a0 26) μ41) fun y43 μ45 =>
  ck (isA 1 (mK μ45 a3)) <|
  ck (inb 5 (mL μ45 a3)) <|
  zl (sI μ45 a3 (Int32.toNatClampNeg 5) y43) fun μ48 =>
  ck (mK μ48 a0 = 112) <|
  bd (mR μ48 a0 0) fun p52 =>
  ck (isA 1 (mK μ48 p52)) <|
  ck (inb (mI μ a0 26) (mL μ48 p52)) <|
  if ¬ (mI μ48 p52 (Int32.toNatClampNeg (mI μ a0 26))) = 15 then
    f_X11_fetches_b160 k4 a0 x2 a3 (mI μ a0 26) μ48
  else
    cl (f_X11_pushes a0 ((mI μ a0 26) + 1) μ48) fun _ μ59 =>
    f_X11_fetches_b160 k4 a0 x2 a3 (mI μ a0 26) μ59
def f_X11_fetches_b70 (k4 : Nat → Int32 → Int32 → Mm → Option (Unit × Mm)) : Nat → Nat → Int32 → Nat → Int32 → Mm → Option (Unit × Mm)
  | 0, _, _, _, _, _ => none
  | n + 1, a0, x2, a3, x4, μ =>
  if 28 ≤ x4 then
    f_X11_fetches_b88 k4 a0 x2 a3 μ
  else
    ck (isA 1 (mK μ a3)) <|
    ck (inb x4 (mL μ a3)) <|
    zl (sI μ a3 (Int32.toNatClampNeg x4) 0) fun μ19 =>
    f_X11_fetches_b70 k4 n a0 x2 a3 (x4 + 1) μ19
def f_X11_fetches_b4 : Nat → Nat → Int32 → Int32 → Mm → Option (Unit × Mm)
  | 0, _, _, _, _ => none
  | n + 1, a0, x1, x2, μ =>
  ck (mK μ a0 = 112) <|
  if (mI μ a0 6) ≤ x2 then
    some ((), μ)
  else
    if x1 = 0 then
      some ((), μ)
    else
      if ¬ (zb (mI μ a0 27)) = 0 then
        some ((), μ)
      else
        if (2 * (mI μ a0 6)) ≤ (mI μ a0 25) then
          some ((), μ)
        else
          if (mI μ a0 5) ≤ (mI μ a0 26) then
            some ((), μ)
          else
            bd (mR μ a0 24) fun p7 =>
            ck (isA56 (mK μ p7)) <|
            ck (inb (mI μ a0 25) (mL μ p7)) <|
            bd (mR μ p7 (Int32.toNatClampNeg (mI μ a0 25))) fun p11 =>
            zl (sI μ a0 25 ((mI μ a0 25) + 1)) fun μ13 =>
            f_X11_fetches_b70 (f_X11_fetches_b4 n) 5000 a0 x2 p11 0 μ13
def f_X11_fetches (a0 : Nat) (μ : Mm) : Option (Unit × Mm) :=
  f_X11_fetches_b4 5000 a0 1 0 μ
set_option maxRecDepth 100000 in
theorem s_X11_fetches_b223 {l : Launch} {G : Gt} (hG : Gok l G) {k4 : Nat → Int32 → Int32 → Mm → Option (Unit × Mm)} (hk4 : ∀ (a0 : Nat) (x1 : Int32) (x2 : Int32) (μ : Mm) (r : Unit) (μ' : Mm), k4 a0 x1 x2 μ = some (r, μ') → ZX l G mX11_fetches 4 [(0, .ref a0), (1, .int x1), (2, .int x2)] [] μ (.inl none) μ') (a0 : Nat) (x2 : Int32) (s0 : Int32) (μ : Mm) (r : Unit) (μ' : Mm) (h : f_X11_fetches_b223 k4 a0 x2 s0 μ = some (r, μ')) : ZX l G mX11_fetches 223 [(0, .ref a0), (2, .int x2)] [.int s0] μ (.inl none) μ' := by
  unfold f_X11_fetches_b223 at h
  refine zx_istore_n (L' := [(1, .int s0), (0, .ref a0), (2, .int x2)]) dX11_fetches_223 rfl (by decide) rfl ?_
  refine zx_iinc (q := 2) (v := x2 + 1) (L' := [(2, .int (x2 + 1)), (1, .int s0), (0, .ref a0)]) dX11_fetches_224 rfl rfl (by decide) rfl ?_
  refine zx_goto (tgt := 4) dX11_fetches_227 (by decide) ?_
  refine zx_sub (L' := [(0, .ref a0), (1, .int s0), (2, .int (x2 + 1))]) [2, 1, 0] rfl ?_
  exact hk4 _ _ _ _ _ _ h
set_option maxRecDepth 100000 in
theorem s_X11_fetches_b204 {l : Launch} {G : Gt} (hG : Gok l G) {k4 : Nat → Int32 → Int32 → Mm → Option (Unit × Mm)} (hk4 : ∀ (a0 : Nat) (x1 : Int32) (x2 : Int32) (μ : Mm) (r : Unit) (μ' : Mm), k4 a0 x1 x2 μ = some (r, μ') → ZX l G mX11_fetches 4 [(0, .ref a0), (1, .int x1), (2, .int x2)] [] μ (.inl none) μ') (a0 : Nat) (x2 : Int32) (x4 : Int32) (s0 : Int32) (s1 : Nat) (μ : Mm) (r : Unit) (μ' : Mm) (h : f_X11_fetches_b204 k4 a0 x2 x4 s0 s1 μ = some (r, μ')) : ZX l G mX11_fetches 204 [(0, .ref a0), (2, .int x2), (4, .int x4)] [.int s0, .ref s1] μ (.inl none) μ' := by
  unfold f_X11_fetches_b204 at h
  obtain ⟨h80, h⟩ := ck_e h
  obtain ⟨h81, h⟩ := ck_e h
  refine zx_putZ hG fl_X11_174 fn_12_27 h80 h81 dX11_fetches_204 ?_
  obtain ⟨μ82, e84, h⟩ := zlm_e h
  refine zx_mem e84 ?_
  have e83 : mK μ82 = mK μ := (congrArg mK e84).trans rfl
  refine zx_aload_n dX11_fetches_207 rfl (q := 0) rfl ?_
  obtain ⟨h85, h⟩ := ck_e h
  refine zx_getI hG fl_X11_180 h85 dX11_fetches_208 ?_
  refine zx_iload dX11_fetches_211 (q := 2) rfl ?_
  refine zx_iconst (v := 1) dX11_fetches_213 iv_iconst_1 ?_
  refine zx_iadd dX11_fetches_214 ?_
  by_cases c86 : ¬ (mI μ82 a0 26) = (x4 + 1)
  · have h := it_t c86 h
    refine zx_icmp_ne_t (tgt := 222) dX11_fetches_215 (by decide) c86 ?_
    refine zx_iconst (v := 0) dX11_fetches_222 iv_iconst_0 ?_
    refine zx_sub (L' := [(0, .ref a0), (2, .int x2)]) [0, 1] rfl ?_
    exact s_X11_fetches_b223 hG hk4 _ _ _ _ _ _ h
  · have h := it_f c86 h
    refine zx_icmp_ne_f (tgt := 222) dX11_fetches_215 (by decide) (Classical.not_not.mp c86) ?_
    refine zx_iconst (v := 1) dX11_fetches_218 iv_iconst_1 ?_
    refine zx_goto (tgt := 223) dX11_fetches_219 (by decide) ?_
    refine zx_sub (L' := [(0, .ref a0), (2, .int x2)]) [0, 1] rfl ?_
    exact s_X11_fetches_b223 hG hk4 _ _ _ _ _ _ h
set_option maxRecDepth 100000 in
theorem s_X11_fetches_b199 {l : Launch} {G : Gt} (hG : Gok l G) {k4 : Nat → Int32 → Int32 → Mm → Option (Unit × Mm)} (hk4 : ∀ (a0 : Nat) (x1 : Int32) (x2 : Int32) (μ : Mm) (r : Unit) (μ' : Mm), k4 a0 x1 x2 μ = some (r, μ') → ZX l G mX11_fetches 4 [(0, .ref a0), (1, .int x1), (2, .int x2)] [] μ (.inl none) μ') (a0 : Nat) (x2 : Int32) (x4 : Int32) (s0 : Nat) (μ : Mm) (r : Unit) (μ' : Mm) (h : f_X11_fetches_b199 k4 a0 x2 x4 s0 μ = some (r, μ')) : ZX l G mX11_fetches 199 [(0, .ref a0), (2, .int x2), (4, .int x4)] [.ref s0] μ (.inl none) μ' := by
  unfold f_X11_fetches_b199 at h
  refine zx_iconst (v := 1) dX11_fetches_199 iv_iconst_1 ?_
  refine zx_goto (tgt := 204) dX11_fetches_200 (by decide) ?_
  exact s_X11_fetches_b204 hG hk4 _ _ _ _ _ _ _ _ h
set_option maxRecDepth 100000 in
theorem s_X11_fetches_b160 {l : Launch} {G : Gt} (hG : Gok l G) {k4 : Nat → Int32 → Int32 → Mm → Option (Unit × Mm)} (hk4 : ∀ (a0 : Nat) (x1 : Int32) (x2 : Int32) (μ : Mm) (r : Unit) (μ' : Mm), k4 a0 x1 x2 μ = some (r, μ') → ZX l G mX11_fetches 4 [(0, .ref a0), (1, .int x1), (2, .int x2)] [] μ (.inl none) μ') (a0 : Nat) (x2 : Int32) (a3 : Nat) (x4 : Int32) (μ : Mm) (r : Unit) (μ' : Mm) (h : f_X11_fetches_b160 k4 a0 x2 a3 x4 μ = some (r, μ')) : ZX l G mX11_fetches 160 [(0, .ref a0), (2, .int x2), (3, .ref a3), (4, .int x4)] [] μ (.inl none) μ' := by
  unfold f_X11_fetches_b160 at h
  refine zx_aload_n dX11_fetches_160 rfl (q := 0) rfl ?_
  refine zx_aload_n dX11_fetches_161 rfl (q := 2) rfl ?_
  refine zx_bipush (v := 23) dX11_fetches_162 iv_bipush_23 ?_
  obtain ⟨h60, h⟩ := ck_e h
  obtain ⟨uu61, μ63, z62, h⟩ := cl_e h
  refine zx_callV (As := [.ref a3, .int 23]) hG mf_X11_keepsStack cv_X11_186 h60 ⟨by decide, by decide⟩ rfl rfl (Nat.le_of_ble_eq_true rfl) (s_X11_keepsStack hG _ _ _ _ _ _ z62) (Nat.le_of_ble_eq_true rfl) dX11_fetches_164 ?_
  refine zx_aload_n dX11_fetches_167 rfl (q := 0) rfl ?_
  refine zx_aload_n dX11_fetches_168 rfl (q := 2) rfl ?_
  refine zx_iconst (v := 5) dX11_fetches_169 iv_iconst_5 ?_
  obtain ⟨h64, h⟩ := ck_e h
  obtain ⟨h65, h⟩ := ck_e h
  refine zx_iald hG rfl (h64).1 (h64).2 (inb_e h65) dX11_fetches_170 ?_
  obtain ⟨h66, h⟩ := ck_e h
  refine zx_putI hG fl_X11_180 fn_12_26 h66 dX11_fetches_171 ?_
  obtain ⟨μ67, e69, h⟩ := zlm_e h
  refine zx_mem e69 ?_
  have e68 : mK μ67 = mK μ63 := (congrArg mK e69).trans rfl
  refine zx_aload_n dX11_fetches_174 rfl (q := 0) rfl ?_
  refine zx_aload_n dX11_fetches_175 rfl (q := 0) rfl ?_
  obtain ⟨p70, h71, h⟩ := bd_e h
  refine zx_getR hG fl_X11_9 (kp_o (e68) h66) h71 dX11_fetches_176 ?_
  refine zx_iload dX11_fetches_179 (q := 3) rfl ?_
  obtain ⟨h72, h⟩ := ck_e h
  obtain ⟨h73, h⟩ := ck_e h
  refine zx_iald hG rfl (h72).1 (h72).2 (inb_e h73) dX11_fetches_181 ?_
  refine zx_bipush (v := 18) dX11_fetches_182 iv_bipush_18 ?_
  by_cases c74 : (mI μ67 p70 (Int32.toNatClampNeg x4)) = 18
  · have h := it_t c74 h
    refine zx_icmp_eq_t (tgt := 199) dX11_fetches_184 (by decide) c74 ?_
    refine zx_sub (L' := [(0, .ref a0), (2, .int x2), (4, .int x4)]) [0, 1, 3] rfl ?_
    exact s_X11_fetches_b199 hG hk4 _ _ _ _ _ _ _ h
  · have h := it_f c74 h
    refine zx_icmp_eq_f (tgt := 199) dX11_fetches_184 (by decide) c74 ?_
    refine zx_aload_n dX11_fetches_187 rfl (q := 0) rfl ?_
    obtain ⟨p75, h76, h⟩ := bd_e h
    refine zx_getR hG fl_X11_9 (kp_o (e68) h66) h76 dX11_fetches_188 ?_
    refine zx_iload dX11_fetches_191 (q := 3) rfl ?_
    obtain ⟨h77, h⟩ := ck_e h
    obtain ⟨h78, h⟩ := ck_e h
    refine zx_iald hG rfl (h77).1 (h77).2 (inb_e h78) dX11_fetches_193 ?_
    refine zx_bipush (v := 21) dX11_fetches_194 iv_bipush_21 ?_
    by_cases c79 : ¬ (mI μ67 p75 (Int32.toNatClampNeg x4)) = 21
    · have h := it_t c79 h
      refine zx_icmp_ne_t (tgt := 203) dX11_fetches_196 (by decide) c79 ?_
      refine zx_iconst (v := 0) dX11_fetches_203 iv_iconst_0 ?_
      refine zx_sub (L' := [(0, .ref a0), (2, .int x2), (4, .int x4)]) [0, 1, 3] rfl ?_
      exact s_X11_fetches_b204 hG hk4 _ _ _ _ _ _ _ _ h
    · have h := it_f c79 h
      refine zx_icmp_ne_f (tgt := 203) dX11_fetches_196 (by decide) (Classical.not_not.mp c79) ?_
      refine zx_sub (L' := [(0, .ref a0), (2, .int x2), (4, .int x4)]) [0, 1, 3] rfl ?_
      exact s_X11_fetches_b199 hG hk4 _ _ _ _ _ _ _ h
set_option maxRecDepth 100000 in
theorem s_X11_fetches_b88 {l : Launch} {G : Gt} (hG : Gok l G) {k4 : Nat → Int32 → Int32 → Mm → Option (Unit × Mm)} (hk4 : ∀ (a0 : Nat) (x1 : Int32) (x2 : Int32) (μ : Mm) (r : Unit) (μ' : Mm), k4 a0 x1 x2 μ = some (r, μ') → ZX l G mX11_fetches 4 [(0, .ref a0), (1, .int x1), (2, .int x2)] [] μ (.inl none) μ') (a0 : Nat) (x2 : Int32) (a3 : Nat) (μ : Mm) (r : Unit) (μ' : Mm) (h : f_X11_fetches_b88 k4 a0 x2 a3 μ = some (r, μ')) : ZX l G mX11_fetches 88 [(0, .ref a0), (2, .int x2), (3, .ref a3)] [] μ (.inl none) μ' := by
  unfold f_X11_fetches_b88 at h
  refine zx_aload_n dX11_fetches_88 rfl (q := 0) rfl ?_
  obtain ⟨h22, h⟩ := ck_e h
  refine zx_getI hG fl_X11_180 h22 dX11_fetches_89 ?_
  refine zx_istore (L' := [(4, .int (mI μ a0 26)), (0, .ref a0), (2, .int x2), (3, .ref a3)]) dX11_fetches_92 (by decide) rfl ?_
  refine zx_aload_n dX11_fetches_94 rfl (q := 3) rfl ?_
  refine zx_iconst (v := 0) dX11_fetches_95 iv_iconst_0 ?_
  refine zx_iload dX11_fetches_96 (q := 0) rfl ?_
  obtain ⟨h23, h⟩ := ck_e h
  obtain ⟨h24, h⟩ := ck_e h
  refine zx_iast hG rfl (h23).1 (h23).2 (inb_e h24) dX11_fetches_98 ?_
  obtain ⟨μ25, e27, h⟩ := zlm_e h
  refine zx_mem e27 ?_
  have e26 : mK μ25 = mK μ := (congrArg mK e27).trans rfl
  refine zx_aload_n dX11_fetches_99 rfl (q := 3) rfl ?_
  refine zx_iconst (v := 1) dX11_fetches_100 iv_iconst_1 ?_
  refine zx_aload_n dX11_fetches_101 rfl (q := 1) rfl ?_
  refine zx_getI hG fl_X11_133 (kp_o (e26) h22) dX11_fetches_102 ?_
  obtain ⟨h28, h⟩ := ck_e h
  refine zx_iast hG rfl ((kp_a (e26) h23)).1 ((kp_a (e26) h23)).2 (inb_e h28) dX11_fetches_105 ?_
  obtain ⟨μ29, e31, h⟩ := zlm_e h
  refine zx_mem e31 ?_
  have e30 : mK μ29 = mK μ25 := (congrArg mK e31).trans rfl
  refine zx_aload_n dX11_fetches_106 rfl (q := 3) rfl ?_
  refine zx_bipush (v := 17) dX11_fetches_107 iv_bipush_17 ?_
  refine zx_aload_n dX11_fetches_109 rfl (q := 1) rfl ?_
  refine zx_getI hG fl_X11_183 (kp_o (Eq.trans e30 e26) h22) dX11_fetches_110 ?_
  obtain ⟨h32, h⟩ := ck_e h
  refine zx_iast hG rfl ((kp_a (Eq.trans e30 e26) h23)).1 ((kp_a (Eq.trans e30 e26) h23)).2 (inb_e h32) dX11_fetches_113 ?_
  obtain ⟨μ33, e35, h⟩ := zlm_e h
  refine zx_mem e35 ?_
  have e34 : mK μ33 = mK μ29 := (congrArg mK e35).trans rfl
  refine zx_aload_n dX11_fetches_114 rfl (q := 1) rfl ?_
  refine zx_dup dX11_fetches_115 rfl ?_
  refine zx_getI hG fl_X11_183 (kp_o (Eq.trans (Eq.trans e34 e30) e26) h22) dX11_fetches_116 ?_
  refine zx_iconst (v := 1) dX11_fetches_119 iv_iconst_1 ?_
  refine zx_iadd dX11_fetches_120 ?_
  refine zx_putI hG fl_X11_183 fn_12_42 (kp_o (Eq.trans (Eq.trans e34 e30) e26) h22) dX11_fetches_121 ?_
  obtain ⟨μ36, e38, h⟩ := zlm_e h
  refine zx_mem e38 ?_
  have e37 : mK μ36 = mK μ33 := (congrArg mK e38).trans rfl
  refine zx_aload_n dX11_fetches_124 rfl (q := 1) rfl ?_
  refine zx_aload_n dX11_fetches_125 rfl (q := 3) rfl ?_
  refine zx_bipush (v := 18) dX11_fetches_126 iv_bipush_18 ?_
  obtain ⟨uu39, μ41, z40, h⟩ := cl_e h
  refine zx_callV (As := [.ref a3, .int 18]) hG mf_X11_keepsStack cv_X11_186 (kp_o (Eq.trans (Eq.trans (Eq.trans e37 e34) e30) e26) h22) ⟨by decide, by decide⟩ rfl rfl (Nat.le_of_ble_eq_true rfl) (s_X11_keepsStack hG _ _ _ _ _ _ z40) (Nat.le_of_ble_eq_true rfl) dX11_fetches_128 ?_
  refine zx_aload_n dX11_fetches_131 rfl (q := 3) rfl ?_
  refine zx_iconst (v := 5) dX11_fetches_132 iv_iconst_5 ?_
  refine zx_aload_n dX11_fetches_133 rfl (q := 1) rfl ?_
  refine zx_iload dX11_fetches_134 (q := 0) rfl ?_
  obtain ⟨h42, h⟩ := ck_e h
  obtain ⟨y43, μ45, z44, h⟩ := cl_e h
  refine zx_callV (As := [.int (mI μ a0 26)]) hG mf_X11_guess cv_X11_190 h42 ⟨by decide, by decide⟩ rfl rfl (Nat.le_of_ble_eq_true rfl) (s_X11_guess hG _ _ _ _ _ z44) (Nat.le_of_ble_eq_true rfl) dX11_fetches_136 ?_
  obtain ⟨h46, h⟩ := ck_e h
  obtain ⟨h47, h⟩ := ck_e h
  refine zx_iast hG rfl (h46).1 (h46).2 (inb_e h47) dX11_fetches_139 ?_
  obtain ⟨μ48, e50, h⟩ := zlm_e h
  refine zx_mem e50 ?_
  have e49 : mK μ48 = mK μ45 := (congrArg mK e50).trans rfl
  refine zx_aload_n dX11_fetches_140 rfl (q := 1) rfl ?_
  obtain ⟨h51, h⟩ := ck_e h
  obtain ⟨p52, h53, h⟩ := bd_e h
  refine zx_getR hG fl_X11_9 h51 h53 dX11_fetches_141 ?_
  refine zx_iload dX11_fetches_144 (q := 0) rfl ?_
  obtain ⟨h54, h⟩ := ck_e h
  obtain ⟨h55, h⟩ := ck_e h
  refine zx_iald hG rfl (h54).1 (h54).2 (inb_e h55) dX11_fetches_146 ?_
  refine zx_bipush (v := 15) dX11_fetches_147 iv_bipush_15 ?_
  by_cases c56 : ¬ (mI μ48 p52 (Int32.toNatClampNeg (mI μ a0 26))) = 15
  · have h := it_t c56 h
    refine zx_icmp_ne_t (tgt := 160) dX11_fetches_149 (by decide) c56 ?_
    refine zx_sub (L' := [(0, .ref a0), (2, .int x2), (3, .ref a3), (4, .int (mI μ a0 26))]) [1, 2, 3, 0] rfl ?_
    exact s_X11_fetches_b160 hG hk4 _ _ _ _ _ _ _ h
  · have h := it_f c56 h
    refine zx_icmp_ne_f (tgt := 160) dX11_fetches_149 (by decide) (Classical.not_not.mp c56) ?_
    refine zx_aload_n dX11_fetches_152 rfl (q := 1) rfl ?_
    refine zx_iload dX11_fetches_153 (q := 0) rfl ?_
    refine zx_iconst (v := 1) dX11_fetches_155 iv_iconst_1 ?_
    refine zx_iadd dX11_fetches_156 ?_
    obtain ⟨uu57, μ59, z58, h⟩ := cl_e h
    refine zx_callV (As := [.int ((mI μ a0 26) + 1)]) hG mf_X11_pushes cv_X11_194 h51 ⟨by decide, by decide⟩ rfl rfl (Nat.le_of_ble_eq_true rfl) (s_X11_pushes hG _ _ _ _ _ z58) (Nat.le_of_ble_eq_true rfl) dX11_fetches_157 ?_
    refine zx_sub (L' := [(0, .ref a0), (2, .int x2), (3, .ref a3), (4, .int (mI μ a0 26))]) [1, 2, 3, 0] rfl ?_
    exact s_X11_fetches_b160 hG hk4 _ _ _ _ _ _ _ h
set_option maxRecDepth 100000 in
theorem s_X11_fetches_b70 {l : Launch} {G : Gt} (hG : Gok l G) {k4 : Nat → Int32 → Int32 → Mm → Option (Unit × Mm)} (hk4 : ∀ (a0 : Nat) (x1 : Int32) (x2 : Int32) (μ : Mm) (r : Unit) (μ' : Mm), k4 a0 x1 x2 μ = some (r, μ') → ZX l G mX11_fetches 4 [(0, .ref a0), (1, .int x1), (2, .int x2)] [] μ (.inl none) μ') : ∀ (n : Nat) (a0 : Nat) (x2 : Int32) (a3 : Nat) (x4 : Int32) (μ : Mm) (r : Unit) (μ' : Mm), f_X11_fetches_b70 k4 n a0 x2 a3 x4 μ = some (r, μ') → ZX l G mX11_fetches 70 [(0, .ref a0), (2, .int x2), (3, .ref a3), (4, .int x4)] [] μ (.inl none) μ' := by
  intro n
  induction n with
  | zero =>
    intro a0 x2 a3 x4 μ r μ' h
    cases h
  | succ n ih =>
    intro a0 x2 a3 x4 μ r μ' h
    unfold f_X11_fetches_b70 at h
    refine zx_iload dX11_fetches_70 (q := 3) rfl ?_
    refine zx_bipush (v := 28) dX11_fetches_72 iv_bipush_28 ?_
    by_cases c16 : 28 ≤ x4
    · have h := it_t c16 h
      refine zx_icmp_ge_t (tgt := 88) dX11_fetches_74 (by decide) c16 ?_
      refine zx_sub (L' := [(0, .ref a0), (2, .int x2), (3, .ref a3)]) [0, 1, 2] rfl ?_
      exact s_X11_fetches_b88 hG hk4 _ _ _ _ _ _ h
    · have h := it_f c16 h
      refine zx_icmp_ge_f (tgt := 88) dX11_fetches_74 (by decide) c16 ?_
      refine zx_aload_n dX11_fetches_77 rfl (q := 2) rfl ?_
      refine zx_iload dX11_fetches_78 (q := 3) rfl ?_
      refine zx_iconst (v := 0) dX11_fetches_80 iv_iconst_0 ?_
      obtain ⟨h17, h⟩ := ck_e h
      obtain ⟨h18, h⟩ := ck_e h
      refine zx_iast hG rfl (h17).1 (h17).2 (inb_e h18) dX11_fetches_81 ?_
      obtain ⟨μ19, e21, h⟩ := zlm_e h
      refine zx_mem e21 ?_
      have e20 : mK μ19 = mK μ := (congrArg mK e21).trans rfl
      refine zx_iinc (q := 3) (v := x4 + 1) (L' := [(4, .int (x4 + 1)), (0, .ref a0), (2, .int x2), (3, .ref a3)]) dX11_fetches_82 rfl rfl (by decide) rfl ?_
      refine zx_goto (tgt := 70) dX11_fetches_85 (by decide) ?_
      refine zx_sub (L' := [(0, .ref a0), (2, .int x2), (3, .ref a3), (4, .int (x4 + 1))]) [1, 2, 3, 0] rfl ?_
      exact ih _ _ _ _ _ _ _ h
set_option maxRecDepth 100000 in
theorem s_X11_fetches_b4 {l : Launch} {G : Gt} (hG : Gok l G) : ∀ (n : Nat) (a0 : Nat) (x1 : Int32) (x2 : Int32) (μ : Mm) (r : Unit) (μ' : Mm), f_X11_fetches_b4 n a0 x1 x2 μ = some (r, μ') → ZX l G mX11_fetches 4 [(0, .ref a0), (1, .int x1), (2, .int x2)] [] μ (.inl none) μ' := by
  intro n
  induction n with
  | zero =>
    intro a0 x1 x2 μ r μ' h
    cases h
  | succ n ih =>
    intro a0 x1 x2 μ r μ' h
    unfold f_X11_fetches_b4 at h
    refine zx_iload_n dX11_fetches_4 rfl (q := 2) rfl ?_
    refine zx_aload_n dX11_fetches_5 rfl (q := 0) rfl ?_
    obtain ⟨h1, h⟩ := ck_e h
    refine zx_getI hG fl_X11_25 h1 dX11_fetches_6 ?_
    by_cases c2 : (mI μ a0 6) ≤ x2
    · have h := it_t c2 h
      refine zx_icmp_ge_t (tgt := 230) dX11_fetches_9 (by decide) c2 ?_
      cases h
      exact zx_vret dX11_fetches_230 rfl
    · have h := it_f c2 h
      refine zx_icmp_ge_f (tgt := 230) dX11_fetches_9 (by decide) c2 ?_
      refine zx_iload_n dX11_fetches_12 rfl (q := 1) rfl ?_
      by_cases c3 : x1 = 0
      · have h := it_t c3 h
        refine zx_if_eq_t (tgt := 230) dX11_fetches_13 (by decide) c3 ?_
        cases h
        exact zx_vret dX11_fetches_230 rfl
      · have h := it_f c3 h
        refine zx_if_eq_f (tgt := 230) dX11_fetches_13 (by decide) c3 ?_
        refine zx_aload_n dX11_fetches_16 rfl (q := 0) rfl ?_
        refine zx_getZ hG fl_X11_174 h1 dX11_fetches_17 ?_
        by_cases c4 : ¬ (zb (mI μ a0 27)) = 0
        · have h := it_t c4 h
          refine zx_if_ne_t (tgt := 230) dX11_fetches_20 (by decide) c4 ?_
          cases h
          exact zx_vret dX11_fetches_230 rfl
        · have h := it_f c4 h
          refine zx_if_ne_f (tgt := 230) dX11_fetches_20 (by decide) (Classical.not_not.mp c4) ?_
          refine zx_aload_n dX11_fetches_23 rfl (q := 0) rfl ?_
          refine zx_getI hG fl_X11_177 h1 dX11_fetches_24 ?_
          refine zx_iconst (v := 2) dX11_fetches_27 iv_iconst_2 ?_
          refine zx_aload_n dX11_fetches_28 rfl (q := 0) rfl ?_
          refine zx_getI hG fl_X11_25 h1 dX11_fetches_29 ?_
          refine zx_imul dX11_fetches_32 ?_
          by_cases c5 : (2 * (mI μ a0 6)) ≤ (mI μ a0 25)
          · have h := it_t c5 h
            refine zx_icmp_ge_t (tgt := 230) dX11_fetches_33 (by decide) c5 ?_
            cases h
            exact zx_vret dX11_fetches_230 rfl
          · have h := it_f c5 h
            refine zx_icmp_ge_f (tgt := 230) dX11_fetches_33 (by decide) c5 ?_
            refine zx_aload_n dX11_fetches_36 rfl (q := 0) rfl ?_
            refine zx_getI hG fl_X11_180 h1 dX11_fetches_37 ?_
            refine zx_aload_n dX11_fetches_40 rfl (q := 0) rfl ?_
            refine zx_getI hG fl_X11_136 h1 dX11_fetches_41 ?_
            by_cases c6 : (mI μ a0 5) ≤ (mI μ a0 26)
            · have h := it_t c6 h
              refine zx_icmp_ge_t (tgt := 230) dX11_fetches_44 (by decide) c6 ?_
              cases h
              exact zx_vret dX11_fetches_230 rfl
            · have h := it_f c6 h
              refine zx_icmp_ge_f (tgt := 230) dX11_fetches_44 (by decide) c6 ?_
              refine zx_aload_n dX11_fetches_47 rfl (q := 0) rfl ?_
              obtain ⟨p7, h8, h⟩ := bd_e h
              refine zx_getR hG fl_X11_77 h1 h8 dX11_fetches_48 ?_
              refine zx_aload_n dX11_fetches_51 rfl (q := 0) rfl ?_
              refine zx_getI hG fl_X11_177 h1 dX11_fetches_52 ?_
              obtain ⟨h9, h⟩ := ck_e h
              obtain ⟨h10, h⟩ := ck_e h
              obtain ⟨p11, h12, h⟩ := bd_e h
              refine zx_aald hG rfl (h9).1 (h9).2 (inb_e h10) h12 dX11_fetches_55 ?_
              refine zx_astore_n (L' := [(3, .ref p11), (0, .ref a0), (1, .int x1), (2, .int x2)]) dX11_fetches_56 rfl (by decide) rfl ?_
              refine zx_aload_n dX11_fetches_57 rfl (q := 1) rfl ?_
              refine zx_dup dX11_fetches_58 rfl ?_
              refine zx_getI hG fl_X11_177 h1 dX11_fetches_59 ?_
              refine zx_iconst (v := 1) dX11_fetches_62 iv_iconst_1 ?_
              refine zx_iadd dX11_fetches_63 ?_
              refine zx_putI hG fl_X11_177 fn_12_25 h1 dX11_fetches_64 ?_
              obtain ⟨μ13, e15, h⟩ := zlm_e h
              refine zx_mem e15 ?_
              have e14 : mK μ13 = mK μ := (congrArg mK e15).trans rfl
              refine zx_iconst (v := 0) dX11_fetches_67 iv_iconst_0 ?_
              refine zx_istore (L' := [(4, .int 0), (3, .ref p11), (0, .ref a0), (1, .int x1), (2, .int x2)]) dX11_fetches_68 (by decide) rfl ?_
              refine zx_sub (L' := [(0, .ref a0), (2, .int x2), (3, .ref p11), (4, .int 0)]) [2, 4, 1, 0] rfl ?_
              exact s_X11_fetches_b70 hG ih 5000 _ _ _ _ _ _ _ h
set_option maxRecDepth 100000 in
theorem s_X11_fetches {l : Launch} {G : Gt} (hG : Gok l G) (a0 : Nat) (μ : Mm) (r : Unit) (μ' : Mm) (h : f_X11_fetches a0 μ = some (r, μ')) : ZX l G mX11_fetches 0 [(0, .ref a0)] [] μ (.inl none) μ' := by
  unfold f_X11_fetches at h
  refine zx_iconst (v := 1) dX11_fetches_0 iv_iconst_1 ?_
  refine zx_istore_n (L' := [(1, .int 1), (0, .ref a0)]) dX11_fetches_1 rfl (by decide) rfl ?_
  refine zx_iconst (v := 0) dX11_fetches_2 iv_iconst_0 ?_
  refine zx_istore_n (L' := [(2, .int 0), (1, .int 1), (0, .ref a0)]) dX11_fetches_3 rfl (by decide) rfl ?_
  refine zx_sub (L' := [(0, .ref a0), (1, .int 1), (2, .int 0)]) [2, 1, 0] rfl ?_
  exact s_X11_fetches_b4 hG 5000 _ _ _ _ _ _ h
def f_X11_cycles (a0 : Nat) (μ : Mm) : Option (Unit × Mm) :=
  ck (mK μ a0 = 112) <|
  zl (sI μ a0 36 ((mI μ a0 36) + 1)) fun μ2 =>
  cl (f_X11_answers a0 μ2) fun _ μ7 =>
  ck (mK μ7 a0 = 112) <|
  cl (f_X11_endings a0 μ7) fun _ μ11 =>
  ck (mK μ11 a0 = 112) <|
  cl (f_X11_retires a0 μ11) fun _ μ15 =>
  ck (mK μ15 a0 = 112) <|
  cl (f_X11_begins a0 μ15) fun _ μ19 =>
  ck (mK μ19 a0 = 112) <|
  cl (f_X11_renames a0 μ19) fun _ μ23 =>
  ck (mK μ23 a0 = 112) <|
  cl (f_X11_fetches a0 μ23) fun _ μ27 =>
  some ((), μ27)
set_option maxRecDepth 100000 in
theorem s_X11_cycles {l : Launch} {G : Gt} (hG : Gok l G) (a0 : Nat) (μ : Mm) (r : Unit) (μ' : Mm) (h : f_X11_cycles a0 μ = some (r, μ')) : ZX l G mX11_cycles 0 [(0, .ref a0)] [] μ (.inl none) μ' := by
  unfold f_X11_cycles at h
  refine zx_aload_n dX11_cycles_0 rfl (q := 0) rfl ?_
  refine zx_dup dX11_cycles_1 rfl ?_
  obtain ⟨h1, h⟩ := ck_e h
  refine zx_getI hG fl_X11_133 h1 dX11_cycles_2 ?_
  refine zx_iconst (v := 1) dX11_cycles_5 iv_iconst_1 ?_
  refine zx_iadd dX11_cycles_6 ?_
  refine zx_putI hG fl_X11_133 fn_12_36 h1 dX11_cycles_7 ?_
  obtain ⟨μ2, e4, h⟩ := zlm_e h
  refine zx_mem e4 ?_
  have e3 : mK μ2 = mK μ := (congrArg mK e4).trans rfl
  refine zx_aload_n dX11_cycles_10 rfl (q := 0) rfl ?_
  obtain ⟨uu5, μ7, z6, h⟩ := cl_e h
  refine zx_callV (As := []) hG mf_X11_answers cv_X11_156 (kp_o (e3) h1) ⟨by decide, by decide⟩ rfl rfl (Nat.le_of_ble_eq_true rfl) (s_X11_answers hG _ _ _ _ z6) (Nat.le_of_ble_eq_true rfl) dX11_cycles_11 ?_
  refine zx_aload_n dX11_cycles_14 rfl (q := 0) rfl ?_
  obtain ⟨h8, h⟩ := ck_e h
  obtain ⟨uu9, μ11, z10, h⟩ := cl_e h
  refine zx_callV (As := []) hG mf_X11_endings cv_X11_159 h8 ⟨by decide, by decide⟩ rfl rfl (Nat.le_of_ble_eq_true rfl) (s_X11_endings hG _ _ _ _ z10) (Nat.le_of_ble_eq_true rfl) dX11_cycles_15 ?_
  refine zx_aload_n dX11_cycles_18 rfl (q := 0) rfl ?_
  obtain ⟨h12, h⟩ := ck_e h
  obtain ⟨uu13, μ15, z14, h⟩ := cl_e h
  refine zx_callV (As := []) hG mf_X11_retires cv_X11_162 h12 ⟨by decide, by decide⟩ rfl rfl (Nat.le_of_ble_eq_true rfl) (s_X11_retires hG _ _ _ _ z14) (Nat.le_of_ble_eq_true rfl) dX11_cycles_19 ?_
  refine zx_aload_n dX11_cycles_22 rfl (q := 0) rfl ?_
  obtain ⟨h16, h⟩ := ck_e h
  obtain ⟨uu17, μ19, z18, h⟩ := cl_e h
  refine zx_callV (As := []) hG mf_X11_begins cv_X11_165 h16 ⟨by decide, by decide⟩ rfl rfl (Nat.le_of_ble_eq_true rfl) (s_X11_begins hG _ _ _ _ z18) (Nat.le_of_ble_eq_true rfl) dX11_cycles_23 ?_
  refine zx_aload_n dX11_cycles_26 rfl (q := 0) rfl ?_
  obtain ⟨h20, h⟩ := ck_e h
  obtain ⟨uu21, μ23, z22, h⟩ := cl_e h
  refine zx_callV (As := []) hG mf_X11_renames cv_X11_168 h20 ⟨by decide, by decide⟩ rfl rfl (Nat.le_of_ble_eq_true rfl) (s_X11_renames hG _ _ _ _ z22) (Nat.le_of_ble_eq_true rfl) dX11_cycles_27 ?_
  refine zx_aload_n dX11_cycles_30 rfl (q := 0) rfl ?_
  obtain ⟨h24, h⟩ := ck_e h
  obtain ⟨uu25, μ27, z26, h⟩ := cl_e h
  refine zx_callV (As := []) hG mf_X11_fetches cv_X11_171 h24 ⟨by decide, by decide⟩ rfl rfl (Nat.le_of_ble_eq_true rfl) (s_X11_fetches hG _ _ _ _ z26) (Nat.le_of_ble_eq_true rfl) dX11_cycles_31 ?_
  cases h
  exact zx_vret dX11_cycles_34 rfl
def f_X11_run_b78 (a0 : Nat) (x2 : Int32) (μ : Mm) : Option (Int32 × Mm) :=
  ck (mK μ a0 = 112) <|
  some ((mI μ a0 46) - x2, μ)
def f_X11_run_b49 : Nat → Nat → Int32 → Int32 → Int32 → Mm → Option (Int32 × Mm)
  | 0, _, _, _, _, _ => none
  | n + 1, a0, x1, x2, x3, μ =>
  if x1 ≤ x3 then
    f_X11_run_b78 a0 x2 μ
  else
    ck (mK μ a0 = 112) <|
    if ¬ (mI μ a0 54) = 0 then
      f_X11_run_b78 a0 x2 μ
    else
      if ¬ (zb (mI μ a0 37)) = 0 then
        f_X11_run_b78 a0 x2 μ
      else
        cl (f_X11_cycles a0 μ) fun _ μ18 =>
        f_X11_run_b49 n a0 x1 x2 (x3 + 1) μ18
def f_X11_run_b39 (a0 : Nat) (x1 : Int32) (s0 : Int32) (s1 : Nat) (μ : Mm) : Option (Int32 × Mm) :=
  ck (mK μ s1 = 112) <|
  zl (sI μ s1 54 s0) fun μ8 =>
  ck (mK μ8 a0 = 112) <|
  f_X11_run_b49 5000 a0 x1 (mI μ8 a0 46) 0 μ8
def f_X11_run_b23 (a0 : Nat) (x1 : Int32) (s0 : Nat) (μ : Mm) : Option (Int32 × Mm) :=
  f_X11_run_b39 a0 x1 1 s0 μ
def f_X11_run (a0 : Nat) (x1 : Int32) (μ : Mm) : Option (Int32 × Mm) :=
  bd (f_X11_in x1 1 60) fun y1 =>
  if y1 = 0 then
    f_X11_run_b23 a0 x1 a0 μ
  else
    ck (mK μ a0 = 112) <|
    if ((mI μ a0 36) + x1) ≤ 500 then
      if (zb (mI μ a0 37)) = 0 then
        f_X11_run_b39 a0 x1 0 a0 μ
      else
        f_X11_run_b39 a0 x1 2 a0 μ
    else
      f_X11_run_b23 a0 x1 a0 μ
set_option maxRecDepth 100000 in
theorem s_X11_run_b78 {l : Launch} {G : Gt} (hG : Gok l G) (a0 : Nat) (x2 : Int32) (μ : Mm) (r : Int32) (μ' : Mm) (h : f_X11_run_b78 a0 x2 μ = some (r, μ')) : ZX l G mX11_run 78 [(0, .ref a0), (2, .int x2)] [] μ (.inl (some (.int r))) μ' := by
  unfold f_X11_run_b78 at h
  refine zx_aload_n dX11_run_78 rfl (q := 0) rfl ?_
  obtain ⟨h19, h⟩ := ck_e h
  refine zx_getI hG fl_X11_150 h19 dX11_run_79 ?_
  refine zx_iload_n dX11_run_82 rfl (q := 1) rfl ?_
  refine zx_isub dX11_run_83 ?_
  cases h
  exact zx_iret dX11_run_84 rfl
set_option maxRecDepth 100000 in
theorem s_X11_run_b49 {l : Launch} {G : Gt} (hG : Gok l G) : ∀ (n : Nat) (a0 : Nat) (x1 : Int32) (x2 : Int32) (x3 : Int32) (μ : Mm) (r : Int32) (μ' : Mm), f_X11_run_b49 n a0 x1 x2 x3 μ = some (r, μ') → ZX l G mX11_run 49 [(0, .ref a0), (1, .int x1), (2, .int x2), (3, .int x3)] [] μ (.inl (some (.int r))) μ' := by
  intro n
  induction n with
  | zero =>
    intro a0 x1 x2 x3 μ r μ' h
    cases h
  | succ n ih =>
    intro a0 x1 x2 x3 μ r μ' h
    unfold f_X11_run_b49 at h
    refine zx_iload_n dX11_run_49 rfl (q := 3) rfl ?_
    refine zx_iload_n dX11_run_50 rfl (q := 1) rfl ?_
    by_cases c12 : x1 ≤ x3
    · have h := it_t c12 h
      refine zx_icmp_ge_t (tgt := 78) dX11_run_51 (by decide) c12 ?_
      refine zx_sub (L' := [(0, .ref a0), (2, .int x2)]) [0, 2] rfl ?_
      exact s_X11_run_b78 hG _ _ _ _ _ h
    · have h := it_f c12 h
      refine zx_icmp_ge_f (tgt := 78) dX11_run_51 (by decide) c12 ?_
      refine zx_aload_n dX11_run_54 rfl (q := 0) rfl ?_
      obtain ⟨h13, h⟩ := ck_e h
      refine zx_getI hG fl_X11_123 h13 dX11_run_55 ?_
      by_cases c14 : ¬ (mI μ a0 54) = 0
      · have h := it_t c14 h
        refine zx_if_ne_t (tgt := 78) dX11_run_58 (by decide) c14 ?_
        refine zx_sub (L' := [(0, .ref a0), (2, .int x2)]) [0, 2] rfl ?_
        exact s_X11_run_b78 hG _ _ _ _ _ h
      · have h := it_f c14 h
        refine zx_if_ne_f (tgt := 78) dX11_run_58 (by decide) (Classical.not_not.mp c14) ?_
        refine zx_aload_n dX11_run_61 rfl (q := 0) rfl ?_
        refine zx_getZ hG fl_X11_147 h13 dX11_run_62 ?_
        by_cases c15 : ¬ (zb (mI μ a0 37)) = 0
        · have h := it_t c15 h
          refine zx_if_ne_t (tgt := 78) dX11_run_65 (by decide) c15 ?_
          refine zx_sub (L' := [(0, .ref a0), (2, .int x2)]) [0, 2] rfl ?_
          exact s_X11_run_b78 hG _ _ _ _ _ h
        · have h := it_f c15 h
          refine zx_if_ne_f (tgt := 78) dX11_run_65 (by decide) (Classical.not_not.mp c15) ?_
          refine zx_aload_n dX11_run_68 rfl (q := 0) rfl ?_
          obtain ⟨uu16, μ18, z17, h⟩ := cl_e h
          refine zx_callV (As := []) hG mf_X11_cycles cv_X11_153 h13 ⟨by decide, by decide⟩ rfl rfl (Nat.le_of_ble_eq_true rfl) (s_X11_cycles hG _ _ _ _ z17) (Nat.le_of_ble_eq_true rfl) dX11_run_69 ?_
          refine zx_iinc (q := 3) (v := x3 + 1) (L' := [(3, .int (x3 + 1)), (0, .ref a0), (1, .int x1), (2, .int x2)]) dX11_run_72 rfl rfl (by decide) rfl ?_
          refine zx_goto (tgt := 49) dX11_run_75 (by decide) ?_
          refine zx_sub (L' := [(0, .ref a0), (1, .int x1), (2, .int x2), (3, .int (x3 + 1))]) [1, 2, 3, 0] rfl ?_
          exact ih _ _ _ _ _ _ _ h
set_option maxRecDepth 100000 in
theorem s_X11_run_b39 {l : Launch} {G : Gt} (hG : Gok l G) (a0 : Nat) (x1 : Int32) (s0 : Int32) (s1 : Nat) (μ : Mm) (r : Int32) (μ' : Mm) (h : f_X11_run_b39 a0 x1 s0 s1 μ = some (r, μ')) : ZX l G mX11_run 39 [(0, .ref a0), (1, .int x1)] [.int s0, .ref s1] μ (.inl (some (.int r))) μ' := by
  unfold f_X11_run_b39 at h
  obtain ⟨h7, h⟩ := ck_e h
  refine zx_putI hG fl_X11_123 fn_12_54 h7 dX11_run_39 ?_
  obtain ⟨μ8, e10, h⟩ := zlm_e h
  refine zx_mem e10 ?_
  have e9 : mK μ8 = mK μ := (congrArg mK e10).trans rfl
  refine zx_aload_n dX11_run_42 rfl (q := 0) rfl ?_
  obtain ⟨h11, h⟩ := ck_e h
  refine zx_getI hG fl_X11_150 h11 dX11_run_43 ?_
  refine zx_istore_n (L' := [(2, .int (mI μ8 a0 46)), (0, .ref a0), (1, .int x1)]) dX11_run_46 rfl (by decide) rfl ?_
  refine zx_iconst (v := 0) dX11_run_47 iv_iconst_0 ?_
  refine zx_istore_n (L' := [(3, .int 0), (2, .int (mI μ8 a0 46)), (0, .ref a0), (1, .int x1)]) dX11_run_48 rfl (by decide) rfl ?_
  refine zx_sub (L' := [(0, .ref a0), (1, .int x1), (2, .int (mI μ8 a0 46)), (3, .int 0)]) [2, 3, 1, 0] rfl ?_
  exact s_X11_run_b49 hG 5000 _ _ _ _ _ _ _ h
set_option maxRecDepth 100000 in
theorem s_X11_run_b23 {l : Launch} {G : Gt} (hG : Gok l G) (a0 : Nat) (x1 : Int32) (s0 : Nat) (μ : Mm) (r : Int32) (μ' : Mm) (h : f_X11_run_b23 a0 x1 s0 μ = some (r, μ')) : ZX l G mX11_run 23 [(0, .ref a0), (1, .int x1)] [.ref s0] μ (.inl (some (.int r))) μ' := by
  unfold f_X11_run_b23 at h
  refine zx_iconst (v := 1) dX11_run_23 iv_iconst_1 ?_
  refine zx_goto (tgt := 39) dX11_run_24 (by decide) ?_
  exact s_X11_run_b39 hG _ _ _ _ _ _ _ h
set_option maxRecDepth 100000 in
theorem s_X11_run {l : Launch} {G : Gt} (hG : Gok l G) (a0 : Nat) (x1 : Int32) (μ : Mm) (r : Int32) (μ' : Mm) (h : f_X11_run a0 x1 μ = some (r, μ')) : ZX l G mX11_run 0 [(0, .ref a0), (1, .int x1)] [] μ (.inl (some (.int r))) μ' := by
  unfold f_X11_run at h
  refine zx_aload_n dX11_run_0 rfl (q := 0) rfl ?_
  refine zx_iload_n dX11_run_1 rfl (q := 1) rfl ?_
  refine zx_iconst (v := 1) dX11_run_2 iv_iconst_1 ?_
  refine zx_bipush (v := 60) dX11_run_3 iv_bipush_60 ?_
  obtain ⟨y1, z2, h⟩ := bd_e h
  refine zx_callS (As := [.int x1, .int 1, .int 60]) hG mf_X11_in cs_X11_129 ⟨by decide, by decide⟩ rfl rfl (Nat.le_of_ble_eq_true rfl) (s_X11_in hG _ _ _ _ _ z2) (Nat.le_of_ble_eq_true rfl) dX11_run_5 ?_
  by_cases c3 : y1 = 0
  · have h := it_t c3 h
    refine zx_if_eq_t (tgt := 23) dX11_run_8 (by decide) c3 ?_
    exact s_X11_run_b23 hG _ _ _ _ _ _ h
  · have h := it_f c3 h
    refine zx_if_eq_f (tgt := 23) dX11_run_8 (by decide) c3 ?_
    refine zx_aload_n dX11_run_11 rfl (q := 0) rfl ?_
    obtain ⟨h4, h⟩ := ck_e h
    refine zx_getI hG fl_X11_133 h4 dX11_run_12 ?_
    refine zx_iload_n dX11_run_15 rfl (q := 1) rfl ?_
    refine zx_iadd dX11_run_16 ?_
    refine zx_sipush (v := 500) dX11_run_17 iv_sipush_500 ?_
    by_cases c5 : ((mI μ a0 36) + x1) ≤ 500
    · have h := it_t c5 h
      refine zx_icmp_le_t (tgt := 27) dX11_run_20 (by decide) c5 ?_
      refine zx_aload_n dX11_run_27 rfl (q := 0) rfl ?_
      refine zx_getZ hG fl_X11_147 h4 dX11_run_28 ?_
      by_cases c6 : (zb (mI μ a0 37)) = 0
      · have h := it_t c6 h
        refine zx_if_eq_t (tgt := 38) dX11_run_31 (by decide) c6 ?_
        refine zx_iconst (v := 0) dX11_run_38 iv_iconst_0 ?_
        exact s_X11_run_b39 hG _ _ _ _ _ _ _ h
      · have h := it_f c6 h
        refine zx_if_eq_f (tgt := 38) dX11_run_31 (by decide) c6 ?_
        refine zx_iconst (v := 2) dX11_run_34 iv_iconst_2 ?_
        refine zx_goto (tgt := 39) dX11_run_35 (by decide) ?_
        exact s_X11_run_b39 hG _ _ _ _ _ _ _ h
    · have h := it_f c5 h
      refine zx_icmp_le_f (tgt := 27) dX11_run_20 (by decide) c5 ?_
      exact s_X11_run_b23 hG _ _ _ _ _ _ h
def f_X11_cycle (a0 : Nat) (μ : Mm) : Option (Int32 × Mm) :=
  ck (mK μ a0 = 112) <|
  zl (sI μ a0 54 0) fun μ2 =>
  some (mI μ2 a0 36, μ2)
set_option maxRecDepth 100000 in
theorem s_X11_cycle {l : Launch} {G : Gt} (hG : Gok l G) (a0 : Nat) (μ : Mm) (r : Int32) (μ' : Mm) (h : f_X11_cycle a0 μ = some (r, μ')) : ZX l G mX11_cycle 0 [(0, .ref a0)] [] μ (.inl (some (.int r))) μ' := by
  unfold f_X11_cycle at h
  refine zx_aload_n dX11_cycle_0 rfl (q := 0) rfl ?_
  refine zx_iconst (v := 0) dX11_cycle_1 iv_iconst_0 ?_
  obtain ⟨h1, h⟩ := ck_e h
  refine zx_putI hG fl_X11_123 fn_12_54 h1 dX11_cycle_2 ?_
  obtain ⟨μ2, e4, h⟩ := zlm_e h
  refine zx_mem e4 ?_
  have e3 : mK μ2 = mK μ := (congrArg mK e4).trans rfl
  refine zx_aload_n dX11_cycle_5 rfl (q := 0) rfl ?_
  refine zx_getI hG fl_X11_133 (kp_o (e3) h1) dX11_cycle_6 ?_
  cases h
  exact zx_iret dX11_cycle_9 rfl
def f_X11_hasStopped (a0 : Nat) (μ : Mm) : Option (Int32 × Mm) :=
  ck (mK μ a0 = 112) <|
  zl (sI μ a0 54 0) fun μ2 =>
  ck (zb (zb (mI μ2 a0 37)) = (zb (mI μ2 a0 37))) <|
  some (zb (mI μ2 a0 37), μ2)
set_option maxRecDepth 100000 in
theorem s_X11_hasStopped {l : Launch} {G : Gt} (hG : Gok l G) (a0 : Nat) (μ : Mm) (r : Int32) (μ' : Mm) (h : f_X11_hasStopped a0 μ = some (r, μ')) : ZX l G mX11_hasStopped 0 [(0, .ref a0)] [] μ (.inl (some (.int r))) μ' := by
  unfold f_X11_hasStopped at h
  refine zx_aload_n dX11_hasStopped_0 rfl (q := 0) rfl ?_
  refine zx_iconst (v := 0) dX11_hasStopped_1 iv_iconst_0 ?_
  obtain ⟨h1, h⟩ := ck_e h
  refine zx_putI hG fl_X11_123 fn_12_54 h1 dX11_hasStopped_2 ?_
  obtain ⟨μ2, e4, h⟩ := zlm_e h
  refine zx_mem e4 ?_
  have e3 : mK μ2 = mK μ := (congrArg mK e4).trans rfl
  refine zx_aload_n dX11_hasStopped_5 rfl (q := 0) rfl ?_
  refine zx_getZ hG fl_X11_147 (kp_o (e3) h1) dX11_hasStopped_6 ?_
  obtain ⟨h5, h⟩ := ck_e h
  cases h
  exact zx_zretZ dX11_hasStopped_9 rfl h5
def f_X11_ends_ (a0 : Nat) (μ : Mm) : Option (Int32 × Mm) :=
  ck (mK μ a0 = 112) <|
  zl (sI μ a0 54 0) fun μ2 =>
  some (mI μ2 a0 46, μ2)
set_option maxRecDepth 100000 in
theorem s_X11_ends_ {l : Launch} {G : Gt} (hG : Gok l G) (a0 : Nat) (μ : Mm) (r : Int32) (μ' : Mm) (h : f_X11_ends_ a0 μ = some (r, μ')) : ZX l G mX11_ends_ 0 [(0, .ref a0)] [] μ (.inl (some (.int r))) μ' := by
  unfold f_X11_ends_ at h
  refine zx_aload_n dX11_ends__0 rfl (q := 0) rfl ?_
  refine zx_iconst (v := 0) dX11_ends__1 iv_iconst_0 ?_
  obtain ⟨h1, h⟩ := ck_e h
  refine zx_putI hG fl_X11_123 fn_12_54 h1 dX11_ends__2 ?_
  obtain ⟨μ2, e4, h⟩ := zlm_e h
  refine zx_mem e4 ?_
  have e3 : mK μ2 = mK μ := (congrArg mK e4).trans rfl
  refine zx_aload_n dX11_ends__5 rfl (q := 0) rfl ?_
  refine zx_getI hG fl_X11_150 (kp_o (e3) h1) dX11_ends__6 ?_
  cases h
  exact zx_iret dX11_ends__9 rfl
def f_X11_noEnd_b20 (a0 : Nat) (s0 : Int32) (s1 : Nat) (μ : Mm) : Option (Int32 × Mm) :=
  ck (mK μ s1 = 112) <|
  zl (sI μ s1 54 s0) fun μ6 =>
  ck (mK μ6 a0 = 112) <|
  if (mI μ6 a0 54) ≤ 0 then
    some (0, μ6)
  else
    some (1, μ6)
def f_X11_noEnd (a0 : Nat) (x1 : Int32) (μ : Mm) : Option (Int32 × Mm) :=
  ck (mK μ a0 = 112) <|
  bd (f_X11_in x1 0 ((mI μ a0 46) - 1)) fun y2 =>
  if y2 = 0 then
    f_X11_noEnd_b20 a0 1 a0 μ
  else
    f_X11_noEnd_b20 a0 0 a0 μ
set_option maxRecDepth 100000 in
theorem s_X11_noEnd_b20 {l : Launch} {G : Gt} (hG : Gok l G) (a0 : Nat) (s0 : Int32) (s1 : Nat) (μ : Mm) (r : Int32) (μ' : Mm) (h : f_X11_noEnd_b20 a0 s0 s1 μ = some (r, μ')) : ZX l G mX11_noEnd 20 [(0, .ref a0)] [.int s0, .ref s1] μ (.inl (some (.int r))) μ' := by
  unfold f_X11_noEnd_b20 at h
  obtain ⟨h5, h⟩ := ck_e h
  refine zx_putI hG fl_X11_123 fn_12_54 h5 dX11_noEnd_20 ?_
  obtain ⟨μ6, e8, h⟩ := zlm_e h
  refine zx_mem e8 ?_
  have e7 : mK μ6 = mK μ := (congrArg mK e8).trans rfl
  refine zx_aload_n dX11_noEnd_23 rfl (q := 0) rfl ?_
  obtain ⟨h9, h⟩ := ck_e h
  refine zx_getI hG fl_X11_123 h9 dX11_noEnd_24 ?_
  by_cases c10 : (mI μ6 a0 54) ≤ 0
  · have h := it_t c10 h
    refine zx_if_le_t (tgt := 34) dX11_noEnd_27 (by decide) c10 ?_
    refine zx_iconst (v := 0) dX11_noEnd_34 iv_iconst_0 ?_
    cases h
    exact zx_zretZ dX11_noEnd_35 rfl zb_0
  · have h := it_f c10 h
    refine zx_if_le_f (tgt := 34) dX11_noEnd_27 (by decide) c10 ?_
    refine zx_iconst (v := 1) dX11_noEnd_30 iv_iconst_1 ?_
    refine zx_goto (tgt := 35) dX11_noEnd_31 (by decide) ?_
    cases h
    exact zx_zretZ dX11_noEnd_35 rfl zb_1
set_option maxRecDepth 100000 in
theorem s_X11_noEnd {l : Launch} {G : Gt} (hG : Gok l G) (a0 : Nat) (x1 : Int32) (μ : Mm) (r : Int32) (μ' : Mm) (h : f_X11_noEnd a0 x1 μ = some (r, μ')) : ZX l G mX11_noEnd 0 [(0, .ref a0), (1, .int x1)] [] μ (.inl (some (.int r))) μ' := by
  unfold f_X11_noEnd at h
  refine zx_aload_n dX11_noEnd_0 rfl (q := 0) rfl ?_
  refine zx_iload_n dX11_noEnd_1 rfl (q := 1) rfl ?_
  refine zx_iconst (v := 0) dX11_noEnd_2 iv_iconst_0 ?_
  refine zx_aload_n dX11_noEnd_3 rfl (q := 0) rfl ?_
  obtain ⟨h1, h⟩ := ck_e h
  refine zx_getI hG fl_X11_150 h1 dX11_noEnd_4 ?_
  refine zx_iconst (v := 1) dX11_noEnd_7 iv_iconst_1 ?_
  refine zx_isub dX11_noEnd_8 ?_
  obtain ⟨y2, z3, h⟩ := bd_e h
  refine zx_callS (As := [.int x1, .int 0, .int ((mI μ a0 46) - 1)]) hG mf_X11_in cs_X11_129 ⟨by decide, by decide⟩ rfl rfl (Nat.le_of_ble_eq_true rfl) (s_X11_in hG _ _ _ _ _ z3) (Nat.le_of_ble_eq_true rfl) dX11_noEnd_9 ?_
  by_cases c4 : y2 = 0
  · have h := it_t c4 h
    refine zx_if_eq_t (tgt := 19) dX11_noEnd_12 (by decide) c4 ?_
    refine zx_iconst (v := 1) dX11_noEnd_19 iv_iconst_1 ?_
    refine zx_sub (L' := [(0, .ref a0)]) [0] rfl ?_
    exact s_X11_noEnd_b20 hG _ _ _ _ _ _ h
  · have h := it_f c4 h
    refine zx_if_eq_f (tgt := 19) dX11_noEnd_12 (by decide) c4 ?_
    refine zx_iconst (v := 0) dX11_noEnd_15 iv_iconst_0 ?_
    refine zx_goto (tgt := 20) dX11_noEnd_16 (by decide) ?_
    refine zx_sub (L' := [(0, .ref a0)]) [0] rfl ?_
    exact s_X11_noEnd_b20 hG _ _ _ _ _ _ h
def f_X11_kindAt (a0 : Nat) (x1 : Int32) (μ : Mm) : Option (Int32 × Mm) :=
  ck (mK μ a0 = 112) <|
  cl (f_X11_noEnd a0 x1 μ) fun y2 μ4 =>
  if y2 = 0 then
    ck (mK μ4 a0 = 112) <|
    bd (mR μ4 a0 43) fun p7 =>
    ck (isA 1 (mK μ4 p7)) <|
    ck (inb x1 (mL μ4 p7)) <|
    some (mI μ4 p7 (Int32.toNatClampNeg x1), μ4)
  else
    some (0, μ4)
set_option maxRecDepth 100000 in
theorem s_X11_kindAt {l : Launch} {G : Gt} (hG : Gok l G) (a0 : Nat) (x1 : Int32) (μ : Mm) (r : Int32) (μ' : Mm) (h : f_X11_kindAt a0 x1 μ = some (r, μ')) : ZX l G mX11_kindAt 0 [(0, .ref a0), (1, .int x1)] [] μ (.inl (some (.int r))) μ' := by
  unfold f_X11_kindAt at h
  refine zx_aload_n dX11_kindAt_0 rfl (q := 0) rfl ?_
  refine zx_iload_n dX11_kindAt_1 rfl (q := 1) rfl ?_
  obtain ⟨h1, h⟩ := ck_e h
  obtain ⟨y2, μ4, z3, h⟩ := cl_e h
  refine zx_callV (As := [.int x1]) hG mf_X11_noEnd cv_X11_328 h1 ⟨by decide, by decide⟩ rfl rfl (Nat.le_of_ble_eq_true rfl) (s_X11_noEnd hG _ _ _ _ _ z3) (Nat.le_of_ble_eq_true rfl) dX11_kindAt_2 ?_
  by_cases c5 : y2 = 0
  · have h := it_t c5 h
    refine zx_if_eq_t (tgt := 12) dX11_kindAt_5 (by decide) c5 ?_
    refine zx_aload_n dX11_kindAt_12 rfl (q := 0) rfl ?_
    obtain ⟨h6, h⟩ := ck_e h
    obtain ⟨p7, h8, h⟩ := bd_e h
    refine zx_getR hG fl_X11_101 h6 h8 dX11_kindAt_13 ?_
    refine zx_iload_n dX11_kindAt_16 rfl (q := 1) rfl ?_
    obtain ⟨h9, h⟩ := ck_e h
    obtain ⟨h10, h⟩ := ck_e h
    refine zx_iald hG rfl (h9).1 (h9).2 (inb_e h10) dX11_kindAt_17 ?_
    cases h
    exact zx_iret dX11_kindAt_18 rfl
  · have h := it_f c5 h
    refine zx_if_eq_f (tgt := 12) dX11_kindAt_5 (by decide) c5 ?_
    refine zx_iconst (v := 0) dX11_kindAt_8 iv_iconst_0 ?_
    refine zx_goto (tgt := 18) dX11_kindAt_9 (by decide) ?_
    cases h
    exact zx_iret dX11_kindAt_18 rfl
def f_X11_placeAt (a0 : Nat) (x1 : Int32) (μ : Mm) : Option (Int32 × Mm) :=
  ck (mK μ a0 = 112) <|
  cl (f_X11_noEnd a0 x1 μ) fun y2 μ4 =>
  if y2 = 0 then
    ck (mK μ4 a0 = 112) <|
    bd (mR μ4 a0 44) fun p7 =>
    ck (isA 1 (mK μ4 p7)) <|
    ck (inb x1 (mL μ4 p7)) <|
    some (mI μ4 p7 (Int32.toNatClampNeg x1), μ4)
  else
    some (0, μ4)
set_option maxRecDepth 100000 in
theorem s_X11_placeAt {l : Launch} {G : Gt} (hG : Gok l G) (a0 : Nat) (x1 : Int32) (μ : Mm) (r : Int32) (μ' : Mm) (h : f_X11_placeAt a0 x1 μ = some (r, μ')) : ZX l G mX11_placeAt 0 [(0, .ref a0), (1, .int x1)] [] μ (.inl (some (.int r))) μ' := by
  unfold f_X11_placeAt at h
  refine zx_aload_n dX11_placeAt_0 rfl (q := 0) rfl ?_
  refine zx_iload_n dX11_placeAt_1 rfl (q := 1) rfl ?_
  obtain ⟨h1, h⟩ := ck_e h
  obtain ⟨y2, μ4, z3, h⟩ := cl_e h
  refine zx_callV (As := [.int x1]) hG mf_X11_noEnd cv_X11_328 h1 ⟨by decide, by decide⟩ rfl rfl (Nat.le_of_ble_eq_true rfl) (s_X11_noEnd hG _ _ _ _ _ z3) (Nat.le_of_ble_eq_true rfl) dX11_placeAt_2 ?_
  by_cases c5 : y2 = 0
  · have h := it_t c5 h
    refine zx_if_eq_t (tgt := 12) dX11_placeAt_5 (by decide) c5 ?_
    refine zx_aload_n dX11_placeAt_12 rfl (q := 0) rfl ?_
    obtain ⟨h6, h⟩ := ck_e h
    obtain ⟨p7, h8, h⟩ := bd_e h
    refine zx_getR hG fl_X11_104 h6 h8 dX11_placeAt_13 ?_
    refine zx_iload_n dX11_placeAt_16 rfl (q := 1) rfl ?_
    obtain ⟨h9, h⟩ := ck_e h
    obtain ⟨h10, h⟩ := ck_e h
    refine zx_iald hG rfl (h9).1 (h9).2 (inb_e h10) dX11_placeAt_17 ?_
    cases h
    exact zx_iret dX11_placeAt_18 rfl
  · have h := it_f c5 h
    refine zx_if_eq_f (tgt := 12) dX11_placeAt_5 (by decide) c5 ?_
    refine zx_iconst (v := 0) dX11_placeAt_8 iv_iconst_0 ?_
    refine zx_goto (tgt := 18) dX11_placeAt_9 (by decide) ?_
    cases h
    exact zx_iret dX11_placeAt_18 rfl
def f_X11_address (a0 : Nat) (x1 : Int32) (μ : Mm) : Option Int32 :=
  ck (mK μ a0 = 112) <|
  bd (mR μ a0 55) fun p2 =>
  bd (mR μ a0 2) fun p4 =>
  ck (isA 1 (mK μ p4)) <|
  ck (inb x1 (mL μ p4)) <|
  ck (isA 1 (mK μ p2)) <|
  ck (inb (mI μ p4 (Int32.toNatClampNeg x1)) (mL μ p2)) <|
  bd (mR μ a0 4) fun p10 =>
  ck (isA 1 (mK μ p10)) <|
  ck (inb x1 (mL μ p10)) <|
  some ((mI μ p2 (Int32.toNatClampNeg (mI μ p4 (Int32.toNatClampNeg x1)))) + (mI μ p10 (Int32.toNatClampNeg x1)))
set_option maxRecDepth 100000 in
theorem s_X11_address {l : Launch} {G : Gt} (hG : Gok l G) (a0 : Nat) (x1 : Int32) (μ : Mm) (r : Int32) (h : f_X11_address a0 x1 μ = some r) : ZX l G mX11_address 0 [(0, .ref a0), (1, .int x1)] [] μ (.inl (some (.int r))) μ := by
  unfold f_X11_address at h
  refine zx_aload_n dX11_address_0 rfl (q := 0) rfl ?_
  obtain ⟨h1, h⟩ := ck_e h
  obtain ⟨p2, h3, h⟩ := bd_e h
  refine zx_getR hG fl_X11_114 h1 h3 dX11_address_1 ?_
  refine zx_aload_n dX11_address_4 rfl (q := 0) rfl ?_
  obtain ⟨p4, h5, h⟩ := bd_e h
  refine zx_getR hG fl_X11_16 h1 h5 dX11_address_5 ?_
  refine zx_iload_n dX11_address_8 rfl (q := 1) rfl ?_
  obtain ⟨h6, h⟩ := ck_e h
  obtain ⟨h7, h⟩ := ck_e h
  refine zx_iald hG rfl (h6).1 (h6).2 (inb_e h7) dX11_address_9 ?_
  obtain ⟨h8, h⟩ := ck_e h
  obtain ⟨h9, h⟩ := ck_e h
  refine zx_iald hG rfl (h8).1 (h8).2 (inb_e h9) dX11_address_10 ?_
  refine zx_aload_n dX11_address_11 rfl (q := 0) rfl ?_
  obtain ⟨p10, h11, h⟩ := bd_e h
  refine zx_getR hG fl_X11_22 h1 h11 dX11_address_12 ?_
  refine zx_iload_n dX11_address_15 rfl (q := 1) rfl ?_
  obtain ⟨h12, h⟩ := ck_e h
  obtain ⟨h13, h⟩ := ck_e h
  refine zx_iald hG rfl (h12).1 (h12).2 (inb_e h13) dX11_address_16 ?_
  refine zx_iadd dX11_address_17 ?_
  cases h
  exact zx_iret dX11_address_18 rfl
def f_X11_plainTrap_b100 (a0 : Nat) (x2 : Int32) (x4 : Int32) (x5 : Int32) (μ : Mm) : Option Int32 :=
  if x4 = 0 then
    if x5 = 0 then
      if ¬ x2 = 20 then
        if ¬ x2 = 21 then
          some 0
        else
          ck (mK μ a0 = 112) <|
          if ¬ (zb (mI μ a0 59)) = 0 then
            some 0
          else
            some 5
      else
        some 4
    else
      some 3
  else
    some 2
def f_X11_plainTrap_b75 (a0 : Nat) (x1 : Int32) (x2 : Int32) (x4 : Int32) (s0 : Int32) (μ : Mm) : Option Int32 :=
  if ¬ x2 = 5 then
    f_X11_plainTrap_b100 a0 x2 x4 s0 μ
  else
    ck (mK μ a0 = 112) <|
    bd (mR μ a0 55) fun p26 =>
    bd (mR μ a0 3) fun p28 =>
    ck (isA 1 (mK μ p28)) <|
    ck (inb x1 (mL μ p28)) <|
    ck (isA 1 (mK μ p26)) <|
    ck (inb (mI μ p28 (Int32.toNatClampNeg x1)) (mL μ p26)) <|
    if ¬ (mI μ p26 (Int32.toNatClampNeg (mI μ p28 (Int32.toNatClampNeg x1)))) = 0 then
      f_X11_plainTrap_b100 a0 x2 x4 s0 μ
    else
      some 1
def f_X11_plainTrap_b74 (a0 : Nat) (x1 : Int32) (x2 : Int32) (x4 : Int32) (μ : Mm) : Option Int32 :=
  f_X11_plainTrap_b75 a0 x1 x2 x4 0 μ
def f_X11_plainTrap_b60 (a0 : Nat) (x1 : Int32) (x2 : Int32) (x3 : Int32) (x4 : Int32) (μ : Mm) : Option Int32 :=
  bd (f_X11_in x3 0 63) fun y41 =>
  if ¬ y41 = 0 then
    f_X11_plainTrap_b74 a0 x1 x2 x4 μ
  else
    f_X11_plainTrap_b75 a0 x1 x2 x4 1 μ
def f_X11_plainTrap_b46 (a0 : Nat) (x1 : Int32) (x2 : Int32) (x3 : Int32) (s0 : Int32) (μ : Mm) : Option Int32 :=
  if x2 = 16 then
    f_X11_plainTrap_b60 a0 x1 x2 x3 s0 μ
  else
    if ¬ x2 = 17 then
      f_X11_plainTrap_b74 a0 x1 x2 s0 μ
    else
      f_X11_plainTrap_b60 a0 x1 x2 x3 s0 μ
def f_X11_plainTrap_b45 (a0 : Nat) (x1 : Int32) (x2 : Int32) (x3 : Int32) (μ : Mm) : Option Int32 :=
  f_X11_plainTrap_b46 a0 x1 x2 x3 0 μ
def f_X11_plainTrap (a0 : Nat) (x1 : Int32) (μ : Mm) : Option Int32 :=
  ck (mK μ a0 = 112) <|
  bd (mR μ a0 0) fun p2 =>
  ck (isA 1 (mK μ p2)) <|
  ck (inb x1 (mL μ p2)) <|
  bd (mR μ a0 55) fun p6 =>
  bd (mR μ a0 2) fun p8 =>
  ck (isA 1 (mK μ p8)) <|
  ck (inb x1 (mL μ p8)) <|
  ck (isA 1 (mK μ p6)) <|
  ck (inb (mI μ p8 (Int32.toNatClampNeg x1)) (mL μ p6)) <|
  bd (f_X11_in (mI μ p2 (Int32.toNatClampNeg x1)) 9 11) fun y14 =>
  if y14 = 0 then
    f_X11_plainTrap_b45 a0 x1 (mI μ p2 (Int32.toNatClampNeg x1)) (mI μ p6 (Int32.toNatClampNeg (mI μ p8 (Int32.toNatClampNeg x1)))) μ
  else
    bd (f_X11_address a0 x1 μ) fun y17 =>
    bd (f_X11_isAddress y17) fun y19 =>
    if ¬ y19 = 0 then
      f_X11_plainTrap_b45 a0 x1 (mI μ p2 (Int32.toNatClampNeg x1)) (mI μ p6 (Int32.toNatClampNeg (mI μ p8 (Int32.toNatClampNeg x1)))) μ
    else
      f_X11_plainTrap_b46 a0 x1 (mI μ p2 (Int32.toNatClampNeg x1)) (mI μ p6 (Int32.toNatClampNeg (mI μ p8 (Int32.toNatClampNeg x1)))) 1 μ
set_option maxRecDepth 100000 in
theorem s_X11_plainTrap_b100 {l : Launch} {G : Gt} (hG : Gok l G) (a0 : Nat) (x2 : Int32) (x4 : Int32) (x5 : Int32) (μ : Mm) (r : Int32) (h : f_X11_plainTrap_b100 a0 x2 x4 x5 μ = some r) : ZX l G mX11_plainTrap 100 [(0, .ref a0), (2, .int x2), (4, .int x4), (5, .int x5)] [] μ (.inl (some (.int r))) μ := by
  unfold f_X11_plainTrap_b100 at h
  refine zx_iload dX11_plainTrap_100 (q := 2) rfl ?_
  by_cases c35 : x4 = 0
  · have h := it_t c35 h
    refine zx_if_eq_t (tgt := 109) dX11_plainTrap_102 (by decide) c35 ?_
    refine zx_iload dX11_plainTrap_109 (q := 3) rfl ?_
    by_cases c36 : x5 = 0
    · have h := it_t c36 h
      refine zx_if_eq_t (tgt := 118) dX11_plainTrap_111 (by decide) c36 ?_
      refine zx_iload_n dX11_plainTrap_118 rfl (q := 1) rfl ?_
      refine zx_bipush (v := 20) dX11_plainTrap_119 iv_bipush_20 ?_
      by_cases c37 : ¬ x2 = 20
      · have h := it_t c37 h
        refine zx_icmp_ne_t (tgt := 128) dX11_plainTrap_121 (by decide) c37 ?_
        refine zx_iload_n dX11_plainTrap_128 rfl (q := 1) rfl ?_
        refine zx_bipush (v := 21) dX11_plainTrap_129 iv_bipush_21 ?_
        by_cases c38 : ¬ x2 = 21
        · have h := it_t c38 h
          refine zx_icmp_ne_t (tgt := 145) dX11_plainTrap_131 (by decide) c38 ?_
          refine zx_iconst (v := 0) dX11_plainTrap_145 iv_iconst_0 ?_
          cases h
          exact zx_iret dX11_plainTrap_146 rfl
        · have h := it_f c38 h
          refine zx_icmp_ne_f (tgt := 145) dX11_plainTrap_131 (by decide) (Classical.not_not.mp c38) ?_
          refine zx_aload_n dX11_plainTrap_134 rfl (q := 0) rfl ?_
          obtain ⟨h39, h⟩ := ck_e h
          refine zx_getZ hG fl_X11_334 h39 dX11_plainTrap_135 ?_
          by_cases c40 : ¬ (zb (mI μ a0 59)) = 0
          · have h := it_t c40 h
            refine zx_if_ne_t (tgt := 145) dX11_plainTrap_138 (by decide) c40 ?_
            refine zx_iconst (v := 0) dX11_plainTrap_145 iv_iconst_0 ?_
            cases h
            exact zx_iret dX11_plainTrap_146 rfl
          · have h := it_f c40 h
            refine zx_if_ne_f (tgt := 145) dX11_plainTrap_138 (by decide) (Classical.not_not.mp c40) ?_
            refine zx_iconst (v := 5) dX11_plainTrap_141 iv_iconst_5 ?_
            refine zx_goto (tgt := 146) dX11_plainTrap_142 (by decide) ?_
            cases h
            exact zx_iret dX11_plainTrap_146 rfl
      · have h := it_f c37 h
        refine zx_icmp_ne_f (tgt := 128) dX11_plainTrap_121 (by decide) (Classical.not_not.mp c37) ?_
        refine zx_iconst (v := 4) dX11_plainTrap_124 iv_iconst_4 ?_
        refine zx_goto (tgt := 146) dX11_plainTrap_125 (by decide) ?_
        cases h
        exact zx_iret dX11_plainTrap_146 rfl
    · have h := it_f c36 h
      refine zx_if_eq_f (tgt := 118) dX11_plainTrap_111 (by decide) c36 ?_
      refine zx_iconst (v := 3) dX11_plainTrap_114 iv_iconst_3 ?_
      refine zx_goto (tgt := 146) dX11_plainTrap_115 (by decide) ?_
      cases h
      exact zx_iret dX11_plainTrap_146 rfl
  · have h := it_f c35 h
    refine zx_if_eq_f (tgt := 109) dX11_plainTrap_102 (by decide) c35 ?_
    refine zx_iconst (v := 2) dX11_plainTrap_105 iv_iconst_2 ?_
    refine zx_goto (tgt := 146) dX11_plainTrap_106 (by decide) ?_
    cases h
    exact zx_iret dX11_plainTrap_146 rfl
set_option maxRecDepth 100000 in
theorem s_X11_plainTrap_b75 {l : Launch} {G : Gt} (hG : Gok l G) (a0 : Nat) (x1 : Int32) (x2 : Int32) (x4 : Int32) (s0 : Int32) (μ : Mm) (r : Int32) (h : f_X11_plainTrap_b75 a0 x1 x2 x4 s0 μ = some r) : ZX l G mX11_plainTrap 75 [(0, .ref a0), (1, .int x1), (2, .int x2), (4, .int x4)] [.int s0] μ (.inl (some (.int r))) μ := by
  unfold f_X11_plainTrap_b75 at h
  refine zx_istore (L' := [(5, .int s0), (0, .ref a0), (1, .int x1), (2, .int x2), (4, .int x4)]) dX11_plainTrap_75 (by decide) rfl ?_
  refine zx_iload_n dX11_plainTrap_77 rfl (q := 3) rfl ?_
  refine zx_iconst (v := 5) dX11_plainTrap_78 iv_iconst_5 ?_
  by_cases c24 : ¬ x2 = 5
  · have h := it_t c24 h
    refine zx_icmp_ne_t (tgt := 100) dX11_plainTrap_79 (by decide) c24 ?_
    refine zx_sub (L' := [(0, .ref a0), (2, .int x2), (4, .int x4), (5, .int s0)]) [1, 3, 4, 0] rfl ?_
    exact s_X11_plainTrap_b100 hG _ _ _ _ _ _ h
  · have h := it_f c24 h
    refine zx_icmp_ne_f (tgt := 100) dX11_plainTrap_79 (by decide) (Classical.not_not.mp c24) ?_
    refine zx_aload_n dX11_plainTrap_82 rfl (q := 1) rfl ?_
    obtain ⟨h25, h⟩ := ck_e h
    obtain ⟨p26, h27, h⟩ := bd_e h
    refine zx_getR hG fl_X11_114 h25 h27 dX11_plainTrap_83 ?_
    refine zx_aload_n dX11_plainTrap_86 rfl (q := 1) rfl ?_
    obtain ⟨p28, h29, h⟩ := bd_e h
    refine zx_getR hG fl_X11_19 h25 h29 dX11_plainTrap_87 ?_
    refine zx_iload_n dX11_plainTrap_90 rfl (q := 2) rfl ?_
    obtain ⟨h30, h⟩ := ck_e h
    obtain ⟨h31, h⟩ := ck_e h
    refine zx_iald hG rfl (h30).1 (h30).2 (inb_e h31) dX11_plainTrap_91 ?_
    obtain ⟨h32, h⟩ := ck_e h
    obtain ⟨h33, h⟩ := ck_e h
    refine zx_iald hG rfl (h32).1 (h32).2 (inb_e h33) dX11_plainTrap_92 ?_
    by_cases c34 : ¬ (mI μ p26 (Int32.toNatClampNeg (mI μ p28 (Int32.toNatClampNeg x1)))) = 0
    · have h := it_t c34 h
      refine zx_if_ne_t (tgt := 100) dX11_plainTrap_93 (by decide) c34 ?_
      refine zx_sub (L' := [(0, .ref a0), (2, .int x2), (4, .int x4), (5, .int s0)]) [1, 3, 4, 0] rfl ?_
      exact s_X11_plainTrap_b100 hG _ _ _ _ _ _ h
    · have h := it_f c34 h
      refine zx_if_ne_f (tgt := 100) dX11_plainTrap_93 (by decide) (Classical.not_not.mp c34) ?_
      refine zx_iconst (v := 1) dX11_plainTrap_96 iv_iconst_1 ?_
      refine zx_goto (tgt := 146) dX11_plainTrap_97 (by decide) ?_
      cases h
      exact zx_iret dX11_plainTrap_146 rfl
set_option maxRecDepth 100000 in
theorem s_X11_plainTrap_b74 {l : Launch} {G : Gt} (hG : Gok l G) (a0 : Nat) (x1 : Int32) (x2 : Int32) (x4 : Int32) (μ : Mm) (r : Int32) (h : f_X11_plainTrap_b74 a0 x1 x2 x4 μ = some r) : ZX l G mX11_plainTrap 74 [(0, .ref a0), (1, .int x1), (2, .int x2), (4, .int x4)] [] μ (.inl (some (.int r))) μ := by
  unfold f_X11_plainTrap_b74 at h
  refine zx_iconst (v := 0) dX11_plainTrap_74 iv_iconst_0 ?_
  exact s_X11_plainTrap_b75 hG _ _ _ _ _ _ _ h
set_option maxRecDepth 100000 in
theorem s_X11_plainTrap_b60 {l : Launch} {G : Gt} (hG : Gok l G) (a0 : Nat) (x1 : Int32) (x2 : Int32) (x3 : Int32) (x4 : Int32) (μ : Mm) (r : Int32) (h : f_X11_plainTrap_b60 a0 x1 x2 x3 x4 μ = some r) : ZX l G mX11_plainTrap 60 [(0, .ref a0), (1, .int x1), (2, .int x2), (3, .int x3), (4, .int x4)] [] μ (.inl (some (.int r))) μ := by
  unfold f_X11_plainTrap_b60 at h
  refine zx_iload_n dX11_plainTrap_60 rfl (q := 3) rfl ?_
  refine zx_iconst (v := 0) dX11_plainTrap_61 iv_iconst_0 ?_
  refine zx_bipush (v := 63) dX11_plainTrap_62 iv_bipush_63 ?_
  obtain ⟨y41, z42, h⟩ := bd_e h
  refine zx_callS (As := [.int x3, .int 0, .int 63]) hG mf_X11_in cs_X11_129 ⟨by decide, by decide⟩ rfl rfl (Nat.le_of_ble_eq_true rfl) (s_X11_in hG _ _ _ _ _ z42) (Nat.le_of_ble_eq_true rfl) dX11_plainTrap_64 ?_
  by_cases c43 : ¬ y41 = 0
  · have h := it_t c43 h
    refine zx_if_ne_t (tgt := 74) dX11_plainTrap_67 (by decide) c43 ?_
    refine zx_sub (L' := [(0, .ref a0), (1, .int x1), (2, .int x2), (4, .int x4)]) [0, 1, 2, 4] rfl ?_
    exact s_X11_plainTrap_b74 hG _ _ _ _ _ _ h
  · have h := it_f c43 h
    refine zx_if_ne_f (tgt := 74) dX11_plainTrap_67 (by decide) (Classical.not_not.mp c43) ?_
    refine zx_iconst (v := 1) dX11_plainTrap_70 iv_iconst_1 ?_
    refine zx_goto (tgt := 75) dX11_plainTrap_71 (by decide) ?_
    refine zx_sub (L' := [(0, .ref a0), (1, .int x1), (2, .int x2), (4, .int x4)]) [0, 1, 2, 4] rfl ?_
    exact s_X11_plainTrap_b75 hG _ _ _ _ _ _ _ h
set_option maxRecDepth 100000 in
theorem s_X11_plainTrap_b46 {l : Launch} {G : Gt} (hG : Gok l G) (a0 : Nat) (x1 : Int32) (x2 : Int32) (x3 : Int32) (s0 : Int32) (μ : Mm) (r : Int32) (h : f_X11_plainTrap_b46 a0 x1 x2 x3 s0 μ = some r) : ZX l G mX11_plainTrap 46 [(0, .ref a0), (1, .int x1), (2, .int x2), (3, .int x3)] [.int s0] μ (.inl (some (.int r))) μ := by
  unfold f_X11_plainTrap_b46 at h
  refine zx_istore (L' := [(4, .int s0), (0, .ref a0), (1, .int x1), (2, .int x2), (3, .int x3)]) dX11_plainTrap_46 (by decide) rfl ?_
  refine zx_iload_n dX11_plainTrap_48 rfl (q := 3) rfl ?_
  refine zx_bipush (v := 16) dX11_plainTrap_49 iv_bipush_16 ?_
  by_cases c22 : x2 = 16
  · have h := it_t c22 h
    refine zx_icmp_eq_t (tgt := 60) dX11_plainTrap_51 (by decide) c22 ?_
    refine zx_sub (L' := [(0, .ref a0), (1, .int x1), (2, .int x2), (3, .int x3), (4, .int s0)]) [1, 2, 3, 4, 0] rfl ?_
    exact s_X11_plainTrap_b60 hG _ _ _ _ _ _ _ h
  · have h := it_f c22 h
    refine zx_icmp_eq_f (tgt := 60) dX11_plainTrap_51 (by decide) c22 ?_
    refine zx_iload_n dX11_plainTrap_54 rfl (q := 3) rfl ?_
    refine zx_bipush (v := 17) dX11_plainTrap_55 iv_bipush_17 ?_
    by_cases c23 : ¬ x2 = 17
    · have h := it_t c23 h
      refine zx_icmp_ne_t (tgt := 74) dX11_plainTrap_57 (by decide) c23 ?_
      refine zx_sub (L' := [(0, .ref a0), (1, .int x1), (2, .int x2), (4, .int s0)]) [1, 2, 3, 0] rfl ?_
      exact s_X11_plainTrap_b74 hG _ _ _ _ _ _ h
    · have h := it_f c23 h
      refine zx_icmp_ne_f (tgt := 74) dX11_plainTrap_57 (by decide) (Classical.not_not.mp c23) ?_
      refine zx_sub (L' := [(0, .ref a0), (1, .int x1), (2, .int x2), (3, .int x3), (4, .int s0)]) [1, 2, 3, 4, 0] rfl ?_
      exact s_X11_plainTrap_b60 hG _ _ _ _ _ _ _ h
set_option maxRecDepth 100000 in
theorem s_X11_plainTrap_b45 {l : Launch} {G : Gt} (hG : Gok l G) (a0 : Nat) (x1 : Int32) (x2 : Int32) (x3 : Int32) (μ : Mm) (r : Int32) (h : f_X11_plainTrap_b45 a0 x1 x2 x3 μ = some r) : ZX l G mX11_plainTrap 45 [(0, .ref a0), (1, .int x1), (2, .int x2), (3, .int x3)] [] μ (.inl (some (.int r))) μ := by
  unfold f_X11_plainTrap_b45 at h
  refine zx_iconst (v := 0) dX11_plainTrap_45 iv_iconst_0 ?_
  exact s_X11_plainTrap_b46 hG _ _ _ _ _ _ _ h
set_option maxRecDepth 100000 in
theorem s_X11_plainTrap {l : Launch} {G : Gt} (hG : Gok l G) (a0 : Nat) (x1 : Int32) (μ : Mm) (r : Int32) (h : f_X11_plainTrap a0 x1 μ = some r) : ZX l G mX11_plainTrap 0 [(0, .ref a0), (1, .int x1)] [] μ (.inl (some (.int r))) μ := by
  unfold f_X11_plainTrap at h
  refine zx_aload_n dX11_plainTrap_0 rfl (q := 0) rfl ?_
  obtain ⟨h1, h⟩ := ck_e h
  obtain ⟨p2, h3, h⟩ := bd_e h
  refine zx_getR hG fl_X11_9 h1 h3 dX11_plainTrap_1 ?_
  refine zx_iload_n dX11_plainTrap_4 rfl (q := 1) rfl ?_
  obtain ⟨h4, h⟩ := ck_e h
  obtain ⟨h5, h⟩ := ck_e h
  refine zx_iald hG rfl (h4).1 (h4).2 (inb_e h5) dX11_plainTrap_5 ?_
  refine zx_istore_n (L' := [(2, .int (mI μ p2 (Int32.toNatClampNeg x1))), (0, .ref a0), (1, .int x1)]) dX11_plainTrap_6 rfl (by decide) rfl ?_
  refine zx_aload_n dX11_plainTrap_7 rfl (q := 1) rfl ?_
  obtain ⟨p6, h7, h⟩ := bd_e h
  refine zx_getR hG fl_X11_114 h1 h7 dX11_plainTrap_8 ?_
  refine zx_aload_n dX11_plainTrap_11 rfl (q := 1) rfl ?_
  obtain ⟨p8, h9, h⟩ := bd_e h
  refine zx_getR hG fl_X11_16 h1 h9 dX11_plainTrap_12 ?_
  refine zx_iload_n dX11_plainTrap_15 rfl (q := 2) rfl ?_
  obtain ⟨h10, h⟩ := ck_e h
  obtain ⟨h11, h⟩ := ck_e h
  refine zx_iald hG rfl (h10).1 (h10).2 (inb_e h11) dX11_plainTrap_16 ?_
  obtain ⟨h12, h⟩ := ck_e h
  obtain ⟨h13, h⟩ := ck_e h
  refine zx_iald hG rfl (h12).1 (h12).2 (inb_e h13) dX11_plainTrap_17 ?_
  refine zx_istore_n (L' := [(3, .int (mI μ p6 (Int32.toNatClampNeg (mI μ p8 (Int32.toNatClampNeg x1))))), (2, .int (mI μ p2 (Int32.toNatClampNeg x1))), (0, .ref a0), (1, .int x1)]) dX11_plainTrap_18 rfl (by decide) rfl ?_
  refine zx_iload_n dX11_plainTrap_19 rfl (q := 1) rfl ?_
  refine zx_bipush (v := 9) dX11_plainTrap_20 iv_bipush_9 ?_
  refine zx_bipush (v := 11) dX11_plainTrap_22 iv_bipush_11 ?_
  obtain ⟨y14, z15, h⟩ := bd_e h
  refine zx_callS (As := [.int (mI μ p2 (Int32.toNatClampNeg x1)), .int 9, .int 11]) hG mf_X11_in cs_X11_129 ⟨by decide, by decide⟩ rfl rfl (Nat.le_of_ble_eq_true rfl) (s_X11_in hG _ _ _ _ _ z15) (Nat.le_of_ble_eq_true rfl) dX11_plainTrap_24 ?_
  by_cases c16 : y14 = 0
  · have h := it_t c16 h
    refine zx_if_eq_t (tgt := 45) dX11_plainTrap_27 (by decide) c16 ?_
    refine zx_sub (L' := [(0, .ref a0), (1, .int x1), (2, .int (mI μ p2 (Int32.toNatClampNeg x1))), (3, .int (mI μ p6 (Int32.toNatClampNeg (mI μ p8 (Int32.toNatClampNeg x1)))))]) [2, 3, 1, 0] rfl ?_
    exact s_X11_plainTrap_b45 hG _ _ _ _ _ _ h
  · have h := it_f c16 h
    refine zx_if_eq_f (tgt := 45) dX11_plainTrap_27 (by decide) c16 ?_
    refine zx_aload_n dX11_plainTrap_30 rfl (q := 2) rfl ?_
    refine zx_iload_n dX11_plainTrap_31 rfl (q := 3) rfl ?_
    obtain ⟨y17, z18, h⟩ := bd_e h
    refine zx_callV (As := [.int x1]) hG mf_X11_address cv_X11_331 h1 ⟨by decide, by decide⟩ rfl rfl (Nat.le_of_ble_eq_true rfl) (s_X11_address hG _ _ _ _ z18) (Nat.le_of_ble_eq_true rfl) dX11_plainTrap_32 ?_
    obtain ⟨y19, z20, h⟩ := bd_e h
    refine zx_callS (As := [.int y17]) hG mf_X11_isAddress cs_X11_225 ⟨by decide, by decide⟩ rfl rfl (Nat.le_of_ble_eq_true rfl) (s_X11_isAddress hG _ _ _ z20) (Nat.le_of_ble_eq_true rfl) dX11_plainTrap_35 ?_
    by_cases c21 : ¬ y19 = 0
    · have h := it_t c21 h
      refine zx_if_ne_t (tgt := 45) dX11_plainTrap_38 (by decide) c21 ?_
      refine zx_sub (L' := [(0, .ref a0), (1, .int x1), (2, .int (mI μ p2 (Int32.toNatClampNeg x1))), (3, .int (mI μ p6 (Int32.toNatClampNeg (mI μ p8 (Int32.toNatClampNeg x1)))))]) [2, 3, 1, 0] rfl ?_
      exact s_X11_plainTrap_b45 hG _ _ _ _ _ _ h
    · have h := it_f c21 h
      refine zx_if_ne_f (tgt := 45) dX11_plainTrap_38 (by decide) (Classical.not_not.mp c21) ?_
      refine zx_iconst (v := 1) dX11_plainTrap_41 iv_iconst_1 ?_
      refine zx_goto (tgt := 46) dX11_plainTrap_42 (by decide) ?_
      refine zx_sub (L' := [(0, .ref a0), (1, .int x1), (2, .int (mI μ p2 (Int32.toNatClampNeg x1))), (3, .int (mI μ p6 (Int32.toNatClampNeg (mI μ p8 (Int32.toNatClampNeg x1)))))]) [2, 3, 1, 0] rfl ?_
      exact s_X11_plainTrap_b46 hG _ _ _ _ _ _ _ h
def f_X11_plainDoes_b269 (s0 : Int32) (s1 : Int32) (s2 : Nat) (μ : Mm) : Option (Unit × Mm) :=
  ck (isA 1 (mK μ s2)) <|
  ck (inb s1 (mL μ s2)) <|
  zl (sI μ s2 (Int32.toNatClampNeg s1) s0) fun μ177 =>
  some ((), μ177)
def f_X11_plainDoes_b354 (s0 : Int32) (s1 : Nat) (μ : Mm) : Option (Unit × Mm) :=
  ck (mK μ s1 = 112) <|
  zl (sI μ s1 57 s0) fun μ172 =>
  some ((), μ172)
def f_X11_plainDoes_b376 (s0 : Int32) (s1 : Nat) (μ : Mm) : Option (Unit × Mm) :=
  ck (mK μ s1 = 112) <|
  zl (sI μ s1 57 s0) fun μ168 =>
  some ((), μ168)
def f_X11_plainDoes (a0 : Nat) (x1 : Int32) (μ : Mm) : Option (Unit × Mm) :=
  ck (mK μ a0 = 112) <|
  bd (mR μ a0 0) fun p2 =>
  ck (isA 1 (mK μ p2)) <|
  ck (inb x1 (mL μ p2)) <|
  bd (mR μ a0 55) fun p6 =>
  bd (mR μ a0 2) fun p8 =>
  ck (isA 1 (mK μ p8)) <|
  ck (inb x1 (mL μ p8)) <|
  ck (isA 1 (mK μ p6)) <|
  ck (inb (mI μ p8 (Int32.toNatClampNeg x1)) (mL μ p6)) <|
  bd (mR μ a0 55) fun p14 =>
  bd (mR μ a0 3) fun p16 =>
  ck (isA 1 (mK μ p16)) <|
  ck (inb x1 (mL μ p16)) <|
  ck (isA 1 (mK μ p14)) <|
  ck (inb (mI μ p16 (Int32.toNatClampNeg x1)) (mL μ p14)) <|
  bd (mR μ a0 1) fun p22 =>
  ck (isA 1 (mK μ p22)) <|
  ck (inb x1 (mL μ p22)) <|
  bd (mR μ a0 4) fun p26 =>
  ck (isA 1 (mK μ p26)) <|
  ck (inb x1 (mL μ p26)) <|
  zl (sI μ a0 57 (x1 + 1)) fun μ30 =>
  if (Int32.toInt (mI μ p2 (Int32.toNatClampNeg x1))) < 1 ∨ 21 < (Int32.toInt (mI μ p2 (Int32.toNatClampNeg x1))) then
    some ((), μ30)
  else if (mI μ p2 (Int32.toNatClampNeg x1)) = 1 then
      bd (mR μ30 a0 55) fun p35 =>
      ck (isA 1 (mK μ30 p35)) <|
      ck (inb (mI μ p22 (Int32.toNatClampNeg x1)) (mL μ30 p35)) <|
      zl (sI μ30 p35 (Int32.toNatClampNeg (mI μ p22 (Int32.toNatClampNeg x1))) (mI μ p26 (Int32.toNatClampNeg x1))) fun μ39 =>
      some ((), μ39)
  else if (mI μ p2 (Int32.toNatClampNeg x1)) = 2 then
      bd (mR μ30 a0 55) fun p43 =>
      ck (isA 1 (mK μ30 p43)) <|
      ck (inb (mI μ p22 (Int32.toNatClampNeg x1)) (mL μ30 p43)) <|
      zl (sI μ30 p43 (Int32.toNatClampNeg (mI μ p22 (Int32.toNatClampNeg x1))) ((mI μ p6 (Int32.toNatClampNeg (mI μ p8 (Int32.toNatClampNeg x1)))) + (mI μ p14 (Int32.toNatClampNeg (mI μ p16 (Int32.toNatClampNeg x1)))))) fun μ47 =>
      some ((), μ47)
  else if (mI μ p2 (Int32.toNatClampNeg x1)) = 3 then
      bd (mR μ30 a0 55) fun p51 =>
      ck (isA 1 (mK μ30 p51)) <|
      ck (inb (mI μ p22 (Int32.toNatClampNeg x1)) (mL μ30 p51)) <|
      zl (sI μ30 p51 (Int32.toNatClampNeg (mI μ p22 (Int32.toNatClampNeg x1))) ((mI μ p6 (Int32.toNatClampNeg (mI μ p8 (Int32.toNatClampNeg x1)))) - (mI μ p14 (Int32.toNatClampNeg (mI μ p16 (Int32.toNatClampNeg x1)))))) fun μ55 =>
      some ((), μ55)
  else if (mI μ p2 (Int32.toNatClampNeg x1)) = 4 then
      bd (mR μ30 a0 55) fun p59 =>
      ck (isA 1 (mK μ30 p59)) <|
      ck (inb (mI μ p22 (Int32.toNatClampNeg x1)) (mL μ30 p59)) <|
      zl (sI μ30 p59 (Int32.toNatClampNeg (mI μ p22 (Int32.toNatClampNeg x1))) ((mI μ p6 (Int32.toNatClampNeg (mI μ p8 (Int32.toNatClampNeg x1)))) * (mI μ p14 (Int32.toNatClampNeg (mI μ p16 (Int32.toNatClampNeg x1)))))) fun μ63 =>
      some ((), μ63)
  else if (mI μ p2 (Int32.toNatClampNeg x1)) = 5 then
      bd (mR μ30 a0 55) fun p67 =>
      ck (¬ ((mI μ p14 (Int32.toNatClampNeg (mI μ p16 (Int32.toNatClampNeg x1)))) : Int32) = 0) <|
      ck (isA 1 (mK μ30 p67)) <|
      ck (inb (mI μ p22 (Int32.toNatClampNeg x1)) (mL μ30 p67)) <|
      zl (sI μ30 p67 (Int32.toNatClampNeg (mI μ p22 (Int32.toNatClampNeg x1))) ((mI μ p6 (Int32.toNatClampNeg (mI μ p8 (Int32.toNatClampNeg x1)))) / (mI μ p14 (Int32.toNatClampNeg (mI μ p16 (Int32.toNatClampNeg x1)))))) fun μ72 =>
      some ((), μ72)
  else if (mI μ p2 (Int32.toNatClampNeg x1)) = 6 then
      bd (mR μ30 a0 55) fun p76 =>
      ck (isA 1 (mK μ30 p76)) <|
      ck (inb (mI μ p22 (Int32.toNatClampNeg x1)) (mL μ30 p76)) <|
      zl (sI μ30 p76 (Int32.toNatClampNeg (mI μ p22 (Int32.toNatClampNeg x1))) ((mI μ p6 (Int32.toNatClampNeg (mI μ p8 (Int32.toNatClampNeg x1)))) &&& (mI μ p14 (Int32.toNatClampNeg (mI μ p16 (Int32.toNatClampNeg x1)))))) fun μ80 =>
      some ((), μ80)
  else if (mI μ p2 (Int32.toNatClampNeg x1)) = 7 then
      bd (mR μ30 a0 55) fun p84 =>
      ck (isA 1 (mK μ30 p84)) <|
      ck (inb (mI μ p22 (Int32.toNatClampNeg x1)) (mL μ30 p84)) <|
      zl (sI μ30 p84 (Int32.toNatClampNeg (mI μ p22 (Int32.toNatClampNeg x1))) ((mI μ p6 (Int32.toNatClampNeg (mI μ p8 (Int32.toNatClampNeg x1)))) ^^^ (mI μ p14 (Int32.toNatClampNeg (mI μ p16 (Int32.toNatClampNeg x1)))))) fun μ88 =>
      some ((), μ88)
  else if (mI μ p2 (Int32.toNatClampNeg x1)) = 8 then
      bd (mR μ30 a0 55) fun p92 =>
      if (mI μ p14 (Int32.toNatClampNeg (mI μ p16 (Int32.toNatClampNeg x1)))) ≤ (mI μ p6 (Int32.toNatClampNeg (mI μ p8 (Int32.toNatClampNeg x1)))) then
        f_X11_plainDoes_b269 0 (mI μ p22 (Int32.toNatClampNeg x1)) p92 μ30
      else
        f_X11_plainDoes_b269 1 (mI μ p22 (Int32.toNatClampNeg x1)) p92 μ30
  else if (mI μ p2 (Int32.toNatClampNeg x1)) = 9 then
      bd (mR μ30 a0 55) fun p96 =>
      bd (mR μ30 a0 56) fun p98 =>
      ck (isA 1 (mK μ30 p98)) <|
      ck (inb ((mI μ p6 (Int32.toNatClampNeg (mI μ p8 (Int32.toNatClampNeg x1)))) + (mI μ p26 (Int32.toNatClampNeg x1))) (mL μ30 p98)) <|
      ck (isA 1 (mK μ30 p96)) <|
      ck (inb (mI μ p22 (Int32.toNatClampNeg x1)) (mL μ30 p96)) <|
      zl (sI μ30 p96 (Int32.toNatClampNeg (mI μ p22 (Int32.toNatClampNeg x1))) (mI μ30 p98 (Int32.toNatClampNeg ((mI μ p6 (Int32.toNatClampNeg (mI μ p8 (Int32.toNatClampNeg x1)))) + (mI μ p26 (Int32.toNatClampNeg x1)))))) fun μ104 =>
      some ((), μ104)
  else if (mI μ p2 (Int32.toNatClampNeg x1)) = 10 then
      bd (mR μ30 a0 56) fun p108 =>
      ck (isA 1 (mK μ30 p108)) <|
      ck (inb ((mI μ p6 (Int32.toNatClampNeg (mI μ p8 (Int32.toNatClampNeg x1)))) + (mI μ p26 (Int32.toNatClampNeg x1))) (mL μ30 p108)) <|
      zl (sI μ30 p108 (Int32.toNatClampNeg ((mI μ p6 (Int32.toNatClampNeg (mI μ p8 (Int32.toNatClampNeg x1)))) + (mI μ p26 (Int32.toNatClampNeg x1)))) (mI μ p14 (Int32.toNatClampNeg (mI μ p16 (Int32.toNatClampNeg x1))))) fun μ112 =>
      some ((), μ112)
  else if (mI μ p2 (Int32.toNatClampNeg x1)) = 11 then
      bd (mR μ30 a0 56) fun p116 =>
      bd (mR μ30 a0 56) fun p118 =>
      ck (isA 1 (mK μ30 p118)) <|
      ck (inb ((mI μ p6 (Int32.toNatClampNeg (mI μ p8 (Int32.toNatClampNeg x1)))) + (mI μ p26 (Int32.toNatClampNeg x1))) (mL μ30 p118)) <|
      ck (isA 1 (mK μ30 p116)) <|
      ck (inb ((mI μ p6 (Int32.toNatClampNeg (mI μ p8 (Int32.toNatClampNeg x1)))) + (mI μ p26 (Int32.toNatClampNeg x1))) (mL μ30 p116)) <|
      zl (sI μ30 p116 (Int32.toNatClampNeg ((mI μ p6 (Int32.toNatClampNeg (mI μ p8 (Int32.toNatClampNeg x1)))) + (mI μ p26 (Int32.toNatClampNeg x1)))) (((mI μ30 p118 (Int32.toNatClampNeg ((mI μ p6 (Int32.toNatClampNeg (mI μ p8 (Int32.toNatClampNeg x1)))) + (mI μ p26 (Int32.toNatClampNeg x1))))) &&& ((-65536))) ||| ((mI μ p14 (Int32.toNatClampNeg (mI μ p16 (Int32.toNatClampNeg x1)))) &&& 65535))) fun μ124 =>
      some ((), μ124)
  else if (mI μ p2 (Int32.toNatClampNeg x1)) = 12 then
      if ¬ (mI μ p6 (Int32.toNatClampNeg (mI μ p8 (Int32.toNatClampNeg x1)))) = (mI μ p14 (Int32.toNatClampNeg (mI μ p16 (Int32.toNatClampNeg x1)))) then
        f_X11_plainDoes_b354 (mI μ30 a0 57) a0 μ30
      else
        f_X11_plainDoes_b354 (mI μ p26 (Int32.toNatClampNeg x1)) a0 μ30
  else if (mI μ p2 (Int32.toNatClampNeg x1)) = 13 then
      if (mI μ p14 (Int32.toNatClampNeg (mI μ p16 (Int32.toNatClampNeg x1)))) ≤ (mI μ p6 (Int32.toNatClampNeg (mI μ p8 (Int32.toNatClampNeg x1)))) then
        f_X11_plainDoes_b376 (mI μ30 a0 57) a0 μ30
      else
        f_X11_plainDoes_b376 (mI μ p26 (Int32.toNatClampNeg x1)) a0 μ30
  else if (mI μ p2 (Int32.toNatClampNeg x1)) = 14 then
      zl (sI μ30 a0 57 (mI μ p26 (Int32.toNatClampNeg x1))) fun μ132 =>
      some ((), μ132)
  else if (mI μ p2 (Int32.toNatClampNeg x1)) = 15 then
      bd (mR μ30 a0 55) fun p136 =>
      ck (isA 1 (mK μ30 p136)) <|
      ck (inb (mI μ p22 (Int32.toNatClampNeg x1)) (mL μ30 p136)) <|
      zl (sI μ30 p136 (Int32.toNatClampNeg (mI μ p22 (Int32.toNatClampNeg x1))) (mI μ30 a0 57)) fun μ140 =>
      zl (sI μ140 a0 57 (mI μ p26 (Int32.toNatClampNeg x1))) fun μ143 =>
      some ((), μ143)
  else if (mI μ p2 (Int32.toNatClampNeg x1)) = 16 then
      zl (sI μ30 a0 57 (mI μ p6 (Int32.toNatClampNeg (mI μ p8 (Int32.toNatClampNeg x1))))) fun μ147 =>
      some ((), μ147)
  else if (mI μ p2 (Int32.toNatClampNeg x1)) = 17 then
      zl (sI μ30 a0 57 (mI μ p6 (Int32.toNatClampNeg (mI μ p8 (Int32.toNatClampNeg x1))))) fun μ151 =>
      some ((), μ151)
  else if (mI μ p2 (Int32.toNatClampNeg x1)) = 18 then
      zl (sI μ30 a0 60 1) fun μ155 =>
      some ((), μ155)
  else if (mI μ p2 (Int32.toNatClampNeg x1)) = 19 then
      some ((), μ30)
  else if (mI μ p2 (Int32.toNatClampNeg x1)) = 20 then
      some ((), μ30)
  else if (mI μ p2 (Int32.toNatClampNeg x1)) = 21 then
      zl (sI μ30 a0 59 0) fun μ161 =>
      zl (sI μ161 a0 57 (mI μ161 a0 58)) fun μ164 =>
      some ((), μ164)
  else
    none
set_option maxRecDepth 100000 in
theorem s_X11_plainDoes_b269 {l : Launch} {G : Gt} (hG : Gok l G) (s0 : Int32) (s1 : Int32) (s2 : Nat) (μ : Mm) (r : Unit) (μ' : Mm) (h : f_X11_plainDoes_b269 s0 s1 s2 μ = some (r, μ')) : ZX l G mX11_plainDoes 269 [] [.int s0, .int s1, .ref s2] μ (.inl none) μ' := by
  unfold f_X11_plainDoes_b269 at h
  obtain ⟨h175, h⟩ := ck_e h
  obtain ⟨h176, h⟩ := ck_e h
  refine zx_iast hG rfl (h175).1 (h175).2 (inb_e h176) dX11_plainDoes_269 ?_
  obtain ⟨μ177, e179, h⟩ := zlm_e h
  refine zx_mem e179 ?_
  have e178 : mK μ177 = mK μ := (congrArg mK e179).trans rfl
  refine zx_goto (tgt := 443) dX11_plainDoes_270 (by decide) ?_
  cases h
  exact zx_vret dX11_plainDoes_443 rfl
set_option maxRecDepth 100000 in
theorem s_X11_plainDoes_b354 {l : Launch} {G : Gt} (hG : Gok l G) (s0 : Int32) (s1 : Nat) (μ : Mm) (r : Unit) (μ' : Mm) (h : f_X11_plainDoes_b354 s0 s1 μ = some (r, μ')) : ZX l G mX11_plainDoes 354 [] [.int s0, .ref s1] μ (.inl none) μ' := by
  unfold f_X11_plainDoes_b354 at h
  obtain ⟨h171, h⟩ := ck_e h
  refine zx_putI hG fl_X11_337 fn_12_57 h171 dX11_plainDoes_354 ?_
  obtain ⟨μ172, e174, h⟩ := zlm_e h
  refine zx_mem e174 ?_
  have e173 : mK μ172 = mK μ := (congrArg mK e174).trans rfl
  refine zx_goto (tgt := 443) dX11_plainDoes_357 (by decide) ?_
  cases h
  exact zx_vret dX11_plainDoes_443 rfl
set_option maxRecDepth 100000 in
theorem s_X11_plainDoes_b376 {l : Launch} {G : Gt} (hG : Gok l G) (s0 : Int32) (s1 : Nat) (μ : Mm) (r : Unit) (μ' : Mm) (h : f_X11_plainDoes_b376 s0 s1 μ = some (r, μ')) : ZX l G mX11_plainDoes 376 [] [.int s0, .ref s1] μ (.inl none) μ' := by
  unfold f_X11_plainDoes_b376 at h
  obtain ⟨h167, h⟩ := ck_e h
  refine zx_putI hG fl_X11_337 fn_12_57 h167 dX11_plainDoes_376 ?_
  obtain ⟨μ168, e170, h⟩ := zlm_e h
  refine zx_mem e170 ?_
  have e169 : mK μ168 = mK μ := (congrArg mK e170).trans rfl
  refine zx_goto (tgt := 443) dX11_plainDoes_379 (by decide) ?_
  cases h
  exact zx_vret dX11_plainDoes_443 rfl
set_option maxRecDepth 100000 in
theorem s_X11_plainDoes {l : Launch} {G : Gt} (hG : Gok l G) (a0 : Nat) (x1 : Int32) (μ : Mm) (r : Unit) (μ' : Mm) (h : f_X11_plainDoes a0 x1 μ = some (r, μ')) : ZX l G mX11_plainDoes 0 [(0, .ref a0), (1, .int x1)] [] μ (.inl none) μ' := by
  unfold f_X11_plainDoes at h
  refine zx_aload_n dX11_plainDoes_0 rfl (q := 0) rfl ?_
  obtain ⟨h1, h⟩ := ck_e h
  obtain ⟨p2, h3, h⟩ := bd_e h
  refine zx_getR hG fl_X11_9 h1 h3 dX11_plainDoes_1 ?_
  refine zx_iload_n dX11_plainDoes_4 rfl (q := 1) rfl ?_
  obtain ⟨h4, h⟩ := ck_e h
  obtain ⟨h5, h⟩ := ck_e h
  refine zx_iald hG rfl (h4).1 (h4).2 (inb_e h5) dX11_plainDoes_5 ?_
  refine zx_istore_n (L' := [(2, .int (mI μ p2 (Int32.toNatClampNeg x1))), (0, .ref a0), (1, .int x1)]) dX11_plainDoes_6 rfl (by decide) rfl ?_
  refine zx_aload_n dX11_plainDoes_7 rfl (q := 1) rfl ?_
  obtain ⟨p6, h7, h⟩ := bd_e h
  refine zx_getR hG fl_X11_114 h1 h7 dX11_plainDoes_8 ?_
  refine zx_aload_n dX11_plainDoes_11 rfl (q := 1) rfl ?_
  obtain ⟨p8, h9, h⟩ := bd_e h
  refine zx_getR hG fl_X11_16 h1 h9 dX11_plainDoes_12 ?_
  refine zx_iload_n dX11_plainDoes_15 rfl (q := 2) rfl ?_
  obtain ⟨h10, h⟩ := ck_e h
  obtain ⟨h11, h⟩ := ck_e h
  refine zx_iald hG rfl (h10).1 (h10).2 (inb_e h11) dX11_plainDoes_16 ?_
  obtain ⟨h12, h⟩ := ck_e h
  obtain ⟨h13, h⟩ := ck_e h
  refine zx_iald hG rfl (h12).1 (h12).2 (inb_e h13) dX11_plainDoes_17 ?_
  refine zx_istore_n (L' := [(3, .int (mI μ p6 (Int32.toNatClampNeg (mI μ p8 (Int32.toNatClampNeg x1))))), (2, .int (mI μ p2 (Int32.toNatClampNeg x1))), (0, .ref a0), (1, .int x1)]) dX11_plainDoes_18 rfl (by decide) rfl ?_
  refine zx_aload_n dX11_plainDoes_19 rfl (q := 2) rfl ?_
  obtain ⟨p14, h15, h⟩ := bd_e h
  refine zx_getR hG fl_X11_114 h1 h15 dX11_plainDoes_20 ?_
  refine zx_aload_n dX11_plainDoes_23 rfl (q := 2) rfl ?_
  obtain ⟨p16, h17, h⟩ := bd_e h
  refine zx_getR hG fl_X11_19 h1 h17 dX11_plainDoes_24 ?_
  refine zx_iload_n dX11_plainDoes_27 rfl (q := 3) rfl ?_
  obtain ⟨h18, h⟩ := ck_e h
  obtain ⟨h19, h⟩ := ck_e h
  refine zx_iald hG rfl (h18).1 (h18).2 (inb_e h19) dX11_plainDoes_28 ?_
  obtain ⟨h20, h⟩ := ck_e h
  obtain ⟨h21, h⟩ := ck_e h
  refine zx_iald hG rfl (h20).1 (h20).2 (inb_e h21) dX11_plainDoes_29 ?_
  refine zx_istore (L' := [(4, .int (mI μ p14 (Int32.toNatClampNeg (mI μ p16 (Int32.toNatClampNeg x1))))), (3, .int (mI μ p6 (Int32.toNatClampNeg (mI μ p8 (Int32.toNatClampNeg x1))))), (2, .int (mI μ p2 (Int32.toNatClampNeg x1))), (0, .ref a0), (1, .int x1)]) dX11_plainDoes_30 (by decide) rfl ?_
  refine zx_aload_n dX11_plainDoes_32 rfl (q := 3) rfl ?_
  obtain ⟨p22, h23, h⟩ := bd_e h
  refine zx_getR hG fl_X11_13 h1 h23 dX11_plainDoes_33 ?_
  refine zx_iload_n dX11_plainDoes_36 rfl (q := 4) rfl ?_
  obtain ⟨h24, h⟩ := ck_e h
  obtain ⟨h25, h⟩ := ck_e h
  refine zx_iald hG rfl (h24).1 (h24).2 (inb_e h25) dX11_plainDoes_37 ?_
  refine zx_istore (L' := [(5, .int (mI μ p22 (Int32.toNatClampNeg x1))), (4, .int (mI μ p14 (Int32.toNatClampNeg (mI μ p16 (Int32.toNatClampNeg x1))))), (3, .int (mI μ p6 (Int32.toNatClampNeg (mI μ p8 (Int32.toNatClampNeg x1))))), (2, .int (mI μ p2 (Int32.toNatClampNeg x1))), (0, .ref a0), (1, .int x1)]) dX11_plainDoes_38 (by decide) rfl ?_
  refine zx_aload_n dX11_plainDoes_40 rfl (q := 4) rfl ?_
  obtain ⟨p26, h27, h⟩ := bd_e h
  refine zx_getR hG fl_X11_22 h1 h27 dX11_plainDoes_41 ?_
  refine zx_iload_n dX11_plainDoes_44 rfl (q := 5) rfl ?_
  obtain ⟨h28, h⟩ := ck_e h
  obtain ⟨h29, h⟩ := ck_e h
  refine zx_iald hG rfl (h28).1 (h28).2 (inb_e h29) dX11_plainDoes_45 ?_
  refine zx_istore (L' := [(6, .int (mI μ p26 (Int32.toNatClampNeg x1))), (5, .int (mI μ p22 (Int32.toNatClampNeg x1))), (4, .int (mI μ p14 (Int32.toNatClampNeg (mI μ p16 (Int32.toNatClampNeg x1))))), (3, .int (mI μ p6 (Int32.toNatClampNeg (mI μ p8 (Int32.toNatClampNeg x1))))), (2, .int (mI μ p2 (Int32.toNatClampNeg x1))), (0, .ref a0), (1, .int x1)]) dX11_plainDoes_46 (by decide) rfl ?_
  refine zx_aload_n dX11_plainDoes_48 rfl (q := 5) rfl ?_
  refine zx_iload_n dX11_plainDoes_49 rfl (q := 6) rfl ?_
  refine zx_iconst (v := 1) dX11_plainDoes_50 iv_iconst_1 ?_
  refine zx_iadd dX11_plainDoes_51 ?_
  refine zx_putI hG fl_X11_337 fn_12_57 h1 dX11_plainDoes_52 ?_
  obtain ⟨μ30, e32, h⟩ := zlm_e h
  refine zx_mem e32 ?_
  have e31 : mK μ30 = mK μ := (congrArg mK e32).trans rfl
  refine zx_iload_n dX11_plainDoes_55 rfl (q := 4) rfl ?_
  by_cases c33 : (Int32.toInt (mI μ p2 (Int32.toNatClampNeg x1))) < 1 ∨ 21 < (Int32.toInt (mI μ p2 (Int32.toNatClampNeg x1)))
  · have h := it_t c33 h
    refine zx_tsOut dX11_plainDoes_56 c33 (tgt := 443) (by decide) ?_
    cases h
    exact zx_vret dX11_plainDoes_443 rfl
  · have h := it_f c33 h
    by_cases c34 : (mI μ p2 (Int32.toNatClampNeg x1)) = 1
    · have h := it_t c34 h
      refine zx_tsIn dX11_plainDoes_56 (by rw [c34]; decide) (by rw [c34]; decide) (off := 100) (tgt := 156) (by rw [c34]; decide) (by decide) ?_
      refine zx_aload_n dX11_plainDoes_156 rfl (q := 5) rfl ?_
      obtain ⟨p35, h36, h⟩ := bd_e h
      refine zx_getR hG fl_X11_114 (kp_o (e31) h1) h36 dX11_plainDoes_157 ?_
      refine zx_iload dX11_plainDoes_160 (q := 1) rfl ?_
      refine zx_iload dX11_plainDoes_162 (q := 0) rfl ?_
      obtain ⟨h37, h⟩ := ck_e h
      obtain ⟨h38, h⟩ := ck_e h
      refine zx_iast hG rfl (h37).1 (h37).2 (inb_e h38) dX11_plainDoes_164 ?_
      obtain ⟨μ39, e41, h⟩ := zlm_e h
      refine zx_mem e41 ?_
      have e40 : mK μ39 = mK μ30 := (congrArg mK e41).trans rfl
      refine zx_goto (tgt := 443) dX11_plainDoes_165 (by decide) ?_
      cases h
      exact zx_vret dX11_plainDoes_443 rfl
    have h := it_f c34 h
    by_cases c42 : (mI μ p2 (Int32.toNatClampNeg x1)) = 2
    · have h := it_t c42 h
      refine zx_tsIn dX11_plainDoes_56 (by rw [c42]; decide) (by rw [c42]; decide) (off := 112) (tgt := 168) (by rw [c42]; decide) (by decide) ?_
      refine zx_aload_n dX11_plainDoes_168 rfl (q := 5) rfl ?_
      obtain ⟨p43, h44, h⟩ := bd_e h
      refine zx_getR hG fl_X11_114 (kp_o (e31) h1) h44 dX11_plainDoes_169 ?_
      refine zx_iload dX11_plainDoes_172 (q := 1) rfl ?_
      refine zx_iload_n dX11_plainDoes_174 rfl (q := 3) rfl ?_
      refine zx_iload dX11_plainDoes_175 (q := 2) rfl ?_
      refine zx_iadd dX11_plainDoes_177 ?_
      obtain ⟨h45, h⟩ := ck_e h
      obtain ⟨h46, h⟩ := ck_e h
      refine zx_iast hG rfl (h45).1 (h45).2 (inb_e h46) dX11_plainDoes_178 ?_
      obtain ⟨μ47, e49, h⟩ := zlm_e h
      refine zx_mem e49 ?_
      have e48 : mK μ47 = mK μ30 := (congrArg mK e49).trans rfl
      refine zx_goto (tgt := 443) dX11_plainDoes_179 (by decide) ?_
      cases h
      exact zx_vret dX11_plainDoes_443 rfl
    have h := it_f c42 h
    by_cases c50 : (mI μ p2 (Int32.toNatClampNeg x1)) = 3
    · have h := it_t c50 h
      refine zx_tsIn dX11_plainDoes_56 (by rw [c50]; decide) (by rw [c50]; decide) (off := 126) (tgt := 182) (by rw [c50]; decide) (by decide) ?_
      refine zx_aload_n dX11_plainDoes_182 rfl (q := 5) rfl ?_
      obtain ⟨p51, h52, h⟩ := bd_e h
      refine zx_getR hG fl_X11_114 (kp_o (e31) h1) h52 dX11_plainDoes_183 ?_
      refine zx_iload dX11_plainDoes_186 (q := 1) rfl ?_
      refine zx_iload_n dX11_plainDoes_188 rfl (q := 3) rfl ?_
      refine zx_iload dX11_plainDoes_189 (q := 2) rfl ?_
      refine zx_isub dX11_plainDoes_191 ?_
      obtain ⟨h53, h⟩ := ck_e h
      obtain ⟨h54, h⟩ := ck_e h
      refine zx_iast hG rfl (h53).1 (h53).2 (inb_e h54) dX11_plainDoes_192 ?_
      obtain ⟨μ55, e57, h⟩ := zlm_e h
      refine zx_mem e57 ?_
      have e56 : mK μ55 = mK μ30 := (congrArg mK e57).trans rfl
      refine zx_goto (tgt := 443) dX11_plainDoes_193 (by decide) ?_
      cases h
      exact zx_vret dX11_plainDoes_443 rfl
    have h := it_f c50 h
    by_cases c58 : (mI μ p2 (Int32.toNatClampNeg x1)) = 4
    · have h := it_t c58 h
      refine zx_tsIn dX11_plainDoes_56 (by rw [c58]; decide) (by rw [c58]; decide) (off := 140) (tgt := 196) (by rw [c58]; decide) (by decide) ?_
      refine zx_aload_n dX11_plainDoes_196 rfl (q := 5) rfl ?_
      obtain ⟨p59, h60, h⟩ := bd_e h
      refine zx_getR hG fl_X11_114 (kp_o (e31) h1) h60 dX11_plainDoes_197 ?_
      refine zx_iload dX11_plainDoes_200 (q := 1) rfl ?_
      refine zx_iload_n dX11_plainDoes_202 rfl (q := 3) rfl ?_
      refine zx_iload dX11_plainDoes_203 (q := 2) rfl ?_
      refine zx_imul dX11_plainDoes_205 ?_
      obtain ⟨h61, h⟩ := ck_e h
      obtain ⟨h62, h⟩ := ck_e h
      refine zx_iast hG rfl (h61).1 (h61).2 (inb_e h62) dX11_plainDoes_206 ?_
      obtain ⟨μ63, e65, h⟩ := zlm_e h
      refine zx_mem e65 ?_
      have e64 : mK μ63 = mK μ30 := (congrArg mK e65).trans rfl
      refine zx_goto (tgt := 443) dX11_plainDoes_207 (by decide) ?_
      cases h
      exact zx_vret dX11_plainDoes_443 rfl
    have h := it_f c58 h
    by_cases c66 : (mI μ p2 (Int32.toNatClampNeg x1)) = 5
    · have h := it_t c66 h
      refine zx_tsIn dX11_plainDoes_56 (by rw [c66]; decide) (by rw [c66]; decide) (off := 154) (tgt := 210) (by rw [c66]; decide) (by decide) ?_
      refine zx_aload_n dX11_plainDoes_210 rfl (q := 5) rfl ?_
      obtain ⟨p67, h68, h⟩ := bd_e h
      refine zx_getR hG fl_X11_114 (kp_o (e31) h1) h68 dX11_plainDoes_211 ?_
      refine zx_iload dX11_plainDoes_214 (q := 1) rfl ?_
      refine zx_iload_n dX11_plainDoes_216 rfl (q := 3) rfl ?_
      refine zx_iload dX11_plainDoes_217 (q := 2) rfl ?_
      obtain ⟨h69, h⟩ := ck_e h
      refine zx_idiv dX11_plainDoes_219 h69 ?_
      obtain ⟨h70, h⟩ := ck_e h
      obtain ⟨h71, h⟩ := ck_e h
      refine zx_iast hG rfl (h70).1 (h70).2 (inb_e h71) dX11_plainDoes_220 ?_
      obtain ⟨μ72, e74, h⟩ := zlm_e h
      refine zx_mem e74 ?_
      have e73 : mK μ72 = mK μ30 := (congrArg mK e74).trans rfl
      refine zx_goto (tgt := 443) dX11_plainDoes_221 (by decide) ?_
      cases h
      exact zx_vret dX11_plainDoes_443 rfl
    have h := it_f c66 h
    by_cases c75 : (mI μ p2 (Int32.toNatClampNeg x1)) = 6
    · have h := it_t c75 h
      refine zx_tsIn dX11_plainDoes_56 (by rw [c75]; decide) (by rw [c75]; decide) (off := 168) (tgt := 224) (by rw [c75]; decide) (by decide) ?_
      refine zx_aload_n dX11_plainDoes_224 rfl (q := 5) rfl ?_
      obtain ⟨p76, h77, h⟩ := bd_e h
      refine zx_getR hG fl_X11_114 (kp_o (e31) h1) h77 dX11_plainDoes_225 ?_
      refine zx_iload dX11_plainDoes_228 (q := 1) rfl ?_
      refine zx_iload_n dX11_plainDoes_230 rfl (q := 3) rfl ?_
      refine zx_iload dX11_plainDoes_231 (q := 2) rfl ?_
      refine zx_iand dX11_plainDoes_233 ?_
      obtain ⟨h78, h⟩ := ck_e h
      obtain ⟨h79, h⟩ := ck_e h
      refine zx_iast hG rfl (h78).1 (h78).2 (inb_e h79) dX11_plainDoes_234 ?_
      obtain ⟨μ80, e82, h⟩ := zlm_e h
      refine zx_mem e82 ?_
      have e81 : mK μ80 = mK μ30 := (congrArg mK e82).trans rfl
      refine zx_goto (tgt := 443) dX11_plainDoes_235 (by decide) ?_
      cases h
      exact zx_vret dX11_plainDoes_443 rfl
    have h := it_f c75 h
    by_cases c83 : (mI μ p2 (Int32.toNatClampNeg x1)) = 7
    · have h := it_t c83 h
      refine zx_tsIn dX11_plainDoes_56 (by rw [c83]; decide) (by rw [c83]; decide) (off := 182) (tgt := 238) (by rw [c83]; decide) (by decide) ?_
      refine zx_aload_n dX11_plainDoes_238 rfl (q := 5) rfl ?_
      obtain ⟨p84, h85, h⟩ := bd_e h
      refine zx_getR hG fl_X11_114 (kp_o (e31) h1) h85 dX11_plainDoes_239 ?_
      refine zx_iload dX11_plainDoes_242 (q := 1) rfl ?_
      refine zx_iload_n dX11_plainDoes_244 rfl (q := 3) rfl ?_
      refine zx_iload dX11_plainDoes_245 (q := 2) rfl ?_
      refine zx_ixor dX11_plainDoes_247 ?_
      obtain ⟨h86, h⟩ := ck_e h
      obtain ⟨h87, h⟩ := ck_e h
      refine zx_iast hG rfl (h86).1 (h86).2 (inb_e h87) dX11_plainDoes_248 ?_
      obtain ⟨μ88, e90, h⟩ := zlm_e h
      refine zx_mem e90 ?_
      have e89 : mK μ88 = mK μ30 := (congrArg mK e90).trans rfl
      refine zx_goto (tgt := 443) dX11_plainDoes_249 (by decide) ?_
      cases h
      exact zx_vret dX11_plainDoes_443 rfl
    have h := it_f c83 h
    by_cases c91 : (mI μ p2 (Int32.toNatClampNeg x1)) = 8
    · have h := it_t c91 h
      refine zx_tsIn dX11_plainDoes_56 (by rw [c91]; decide) (by rw [c91]; decide) (off := 196) (tgt := 252) (by rw [c91]; decide) (by decide) ?_
      refine zx_aload_n dX11_plainDoes_252 rfl (q := 5) rfl ?_
      obtain ⟨p92, h93, h⟩ := bd_e h
      refine zx_getR hG fl_X11_114 (kp_o (e31) h1) h93 dX11_plainDoes_253 ?_
      refine zx_iload dX11_plainDoes_256 (q := 1) rfl ?_
      refine zx_iload_n dX11_plainDoes_258 rfl (q := 3) rfl ?_
      refine zx_iload dX11_plainDoes_259 (q := 2) rfl ?_
      by_cases c94 : (mI μ p14 (Int32.toNatClampNeg (mI μ p16 (Int32.toNatClampNeg x1)))) ≤ (mI μ p6 (Int32.toNatClampNeg (mI μ p8 (Int32.toNatClampNeg x1))))
      · have h := it_t c94 h
        refine zx_icmp_ge_t (tgt := 268) dX11_plainDoes_261 (by decide) c94 ?_
        refine zx_iconst (v := 0) dX11_plainDoes_268 iv_iconst_0 ?_
        refine zx_sub (L' := []) [] rfl ?_
        exact s_X11_plainDoes_b269 hG _ _ _ _ _ _ h
      · have h := it_f c94 h
        refine zx_icmp_ge_f (tgt := 268) dX11_plainDoes_261 (by decide) c94 ?_
        refine zx_iconst (v := 1) dX11_plainDoes_264 iv_iconst_1 ?_
        refine zx_goto (tgt := 269) dX11_plainDoes_265 (by decide) ?_
        refine zx_sub (L' := []) [] rfl ?_
        exact s_X11_plainDoes_b269 hG _ _ _ _ _ _ h
    have h := it_f c91 h
    by_cases c95 : (mI μ p2 (Int32.toNatClampNeg x1)) = 9
    · have h := it_t c95 h
      refine zx_tsIn dX11_plainDoes_56 (by rw [c95]; decide) (by rw [c95]; decide) (off := 217) (tgt := 273) (by rw [c95]; decide) (by decide) ?_
      refine zx_aload_n dX11_plainDoes_273 rfl (q := 5) rfl ?_
      obtain ⟨p96, h97, h⟩ := bd_e h
      refine zx_getR hG fl_X11_114 (kp_o (e31) h1) h97 dX11_plainDoes_274 ?_
      refine zx_iload dX11_plainDoes_277 (q := 1) rfl ?_
      refine zx_aload_n dX11_plainDoes_279 rfl (q := 5) rfl ?_
      obtain ⟨p98, h99, h⟩ := bd_e h
      refine zx_getR hG fl_X11_117 (kp_o (e31) h1) h99 dX11_plainDoes_280 ?_
      refine zx_iload_n dX11_plainDoes_283 rfl (q := 3) rfl ?_
      refine zx_iload dX11_plainDoes_284 (q := 0) rfl ?_
      refine zx_iadd dX11_plainDoes_286 ?_
      obtain ⟨h100, h⟩ := ck_e h
      obtain ⟨h101, h⟩ := ck_e h
      refine zx_iald hG rfl (h100).1 (h100).2 (inb_e h101) dX11_plainDoes_287 ?_
      obtain ⟨h102, h⟩ := ck_e h
      obtain ⟨h103, h⟩ := ck_e h
      refine zx_iast hG rfl (h102).1 (h102).2 (inb_e h103) dX11_plainDoes_288 ?_
      obtain ⟨μ104, e106, h⟩ := zlm_e h
      refine zx_mem e106 ?_
      have e105 : mK μ104 = mK μ30 := (congrArg mK e106).trans rfl
      refine zx_goto (tgt := 443) dX11_plainDoes_289 (by decide) ?_
      cases h
      exact zx_vret dX11_plainDoes_443 rfl
    have h := it_f c95 h
    by_cases c107 : (mI μ p2 (Int32.toNatClampNeg x1)) = 10
    · have h := it_t c107 h
      refine zx_tsIn dX11_plainDoes_56 (by rw [c107]; decide) (by rw [c107]; decide) (off := 236) (tgt := 292) (by rw [c107]; decide) (by decide) ?_
      refine zx_aload_n dX11_plainDoes_292 rfl (q := 5) rfl ?_
      obtain ⟨p108, h109, h⟩ := bd_e h
      refine zx_getR hG fl_X11_117 (kp_o (e31) h1) h109 dX11_plainDoes_293 ?_
      refine zx_iload_n dX11_plainDoes_296 rfl (q := 3) rfl ?_
      refine zx_iload dX11_plainDoes_297 (q := 0) rfl ?_
      refine zx_iadd dX11_plainDoes_299 ?_
      refine zx_iload dX11_plainDoes_300 (q := 2) rfl ?_
      obtain ⟨h110, h⟩ := ck_e h
      obtain ⟨h111, h⟩ := ck_e h
      refine zx_iast hG rfl (h110).1 (h110).2 (inb_e h111) dX11_plainDoes_302 ?_
      obtain ⟨μ112, e114, h⟩ := zlm_e h
      refine zx_mem e114 ?_
      have e113 : mK μ112 = mK μ30 := (congrArg mK e114).trans rfl
      refine zx_goto (tgt := 443) dX11_plainDoes_303 (by decide) ?_
      cases h
      exact zx_vret dX11_plainDoes_443 rfl
    have h := it_f c107 h
    by_cases c115 : (mI μ p2 (Int32.toNatClampNeg x1)) = 11
    · have h := it_t c115 h
      refine zx_tsIn dX11_plainDoes_56 (by rw [c115]; decide) (by rw [c115]; decide) (off := 250) (tgt := 306) (by rw [c115]; decide) (by decide) ?_
      refine zx_aload_n dX11_plainDoes_306 rfl (q := 5) rfl ?_
      obtain ⟨p116, h117, h⟩ := bd_e h
      refine zx_getR hG fl_X11_117 (kp_o (e31) h1) h117 dX11_plainDoes_307 ?_
      refine zx_iload_n dX11_plainDoes_310 rfl (q := 3) rfl ?_
      refine zx_iload dX11_plainDoes_311 (q := 0) rfl ?_
      refine zx_iadd dX11_plainDoes_313 ?_
      refine zx_aload_n dX11_plainDoes_314 rfl (q := 5) rfl ?_
      obtain ⟨p118, h119, h⟩ := bd_e h
      refine zx_getR hG fl_X11_117 (kp_o (e31) h1) h119 dX11_plainDoes_315 ?_
      refine zx_iload_n dX11_plainDoes_318 rfl (q := 3) rfl ?_
      refine zx_iload dX11_plainDoes_319 (q := 0) rfl ?_
      refine zx_iadd dX11_plainDoes_321 ?_
      obtain ⟨h120, h⟩ := ck_e h
      obtain ⟨h121, h⟩ := ck_e h
      refine zx_iald hG rfl (h120).1 (h120).2 (inb_e h121) dX11_plainDoes_322 ?_
      refine zx_ldcw hG lc_X11_305 dX11_plainDoes_323 ?_
      refine zx_iand dX11_plainDoes_326 ?_
      refine zx_iload dX11_plainDoes_327 (q := 2) rfl ?_
      refine zx_ldcw hG lc_X11_306 dX11_plainDoes_329 ?_
      refine zx_iand dX11_plainDoes_332 ?_
      refine zx_ior dX11_plainDoes_333 ?_
      obtain ⟨h122, h⟩ := ck_e h
      obtain ⟨h123, h⟩ := ck_e h
      refine zx_iast hG rfl (h122).1 (h122).2 (inb_e h123) dX11_plainDoes_334 ?_
      obtain ⟨μ124, e126, h⟩ := zlm_e h
      refine zx_mem e126 ?_
      have e125 : mK μ124 = mK μ30 := (congrArg mK e126).trans rfl
      refine zx_goto (tgt := 443) dX11_plainDoes_335 (by decide) ?_
      cases h
      exact zx_vret dX11_plainDoes_443 rfl
    have h := it_f c115 h
    by_cases c127 : (mI μ p2 (Int32.toNatClampNeg x1)) = 12
    · have h := it_t c127 h
      refine zx_tsIn dX11_plainDoes_56 (by rw [c127]; decide) (by rw [c127]; decide) (off := 282) (tgt := 338) (by rw [c127]; decide) (by decide) ?_
      refine zx_aload_n dX11_plainDoes_338 rfl (q := 5) rfl ?_
      refine zx_iload_n dX11_plainDoes_339 rfl (q := 3) rfl ?_
      refine zx_iload dX11_plainDoes_340 (q := 2) rfl ?_
      by_cases c128 : ¬ (mI μ p6 (Int32.toNatClampNeg (mI μ p8 (Int32.toNatClampNeg x1)))) = (mI μ p14 (Int32.toNatClampNeg (mI μ p16 (Int32.toNatClampNeg x1))))
      · have h := it_t c128 h
        refine zx_icmp_ne_t (tgt := 350) dX11_plainDoes_342 (by decide) c128 ?_
        refine zx_aload_n dX11_plainDoes_350 rfl (q := 5) rfl ?_
        refine zx_getI hG fl_X11_337 (kp_o (e31) h1) dX11_plainDoes_351 ?_
        refine zx_sub (L' := []) [] rfl ?_
        exact s_X11_plainDoes_b354 hG _ _ _ _ _ h
      · have h := it_f c128 h
        refine zx_icmp_ne_f (tgt := 350) dX11_plainDoes_342 (by decide) (Classical.not_not.mp c128) ?_
        refine zx_iload dX11_plainDoes_345 (q := 0) rfl ?_
        refine zx_goto (tgt := 354) dX11_plainDoes_347 (by decide) ?_
        refine zx_sub (L' := []) [] rfl ?_
        exact s_X11_plainDoes_b354 hG _ _ _ _ _ h
    have h := it_f c127 h
    by_cases c129 : (mI μ p2 (Int32.toNatClampNeg x1)) = 13
    · have h := it_t c129 h
      refine zx_tsIn dX11_plainDoes_56 (by rw [c129]; decide) (by rw [c129]; decide) (off := 304) (tgt := 360) (by rw [c129]; decide) (by decide) ?_
      refine zx_aload_n dX11_plainDoes_360 rfl (q := 5) rfl ?_
      refine zx_iload_n dX11_plainDoes_361 rfl (q := 3) rfl ?_
      refine zx_iload dX11_plainDoes_362 (q := 2) rfl ?_
      by_cases c130 : (mI μ p14 (Int32.toNatClampNeg (mI μ p16 (Int32.toNatClampNeg x1)))) ≤ (mI μ p6 (Int32.toNatClampNeg (mI μ p8 (Int32.toNatClampNeg x1))))
      · have h := it_t c130 h
        refine zx_icmp_ge_t (tgt := 372) dX11_plainDoes_364 (by decide) c130 ?_
        refine zx_aload_n dX11_plainDoes_372 rfl (q := 5) rfl ?_
        refine zx_getI hG fl_X11_337 (kp_o (e31) h1) dX11_plainDoes_373 ?_
        refine zx_sub (L' := []) [] rfl ?_
        exact s_X11_plainDoes_b376 hG _ _ _ _ _ h
      · have h := it_f c130 h
        refine zx_icmp_ge_f (tgt := 372) dX11_plainDoes_364 (by decide) c130 ?_
        refine zx_iload dX11_plainDoes_367 (q := 0) rfl ?_
        refine zx_goto (tgt := 376) dX11_plainDoes_369 (by decide) ?_
        refine zx_sub (L' := []) [] rfl ?_
        exact s_X11_plainDoes_b376 hG _ _ _ _ _ h
    have h := it_f c129 h
    by_cases c131 : (mI μ p2 (Int32.toNatClampNeg x1)) = 14
    · have h := it_t c131 h
      refine zx_tsIn dX11_plainDoes_56 (by rw [c131]; decide) (by rw [c131]; decide) (off := 326) (tgt := 382) (by rw [c131]; decide) (by decide) ?_
      refine zx_aload_n dX11_plainDoes_382 rfl (q := 5) rfl ?_
      refine zx_iload dX11_plainDoes_383 (q := 0) rfl ?_
      refine zx_putI hG fl_X11_337 fn_12_57 (kp_o (e31) h1) dX11_plainDoes_385 ?_
      obtain ⟨μ132, e134, h⟩ := zlm_e h
      refine zx_mem e134 ?_
      have e133 : mK μ132 = mK μ30 := (congrArg mK e134).trans rfl
      refine zx_goto (tgt := 443) dX11_plainDoes_388 (by decide) ?_
      cases h
      exact zx_vret dX11_plainDoes_443 rfl
    have h := it_f c131 h
    by_cases c135 : (mI μ p2 (Int32.toNatClampNeg x1)) = 15
    · have h := it_t c135 h
      refine zx_tsIn dX11_plainDoes_56 (by rw [c135]; decide) (by rw [c135]; decide) (off := 335) (tgt := 391) (by rw [c135]; decide) (by decide) ?_
      refine zx_aload_n dX11_plainDoes_391 rfl (q := 5) rfl ?_
      obtain ⟨p136, h137, h⟩ := bd_e h
      refine zx_getR hG fl_X11_114 (kp_o (e31) h1) h137 dX11_plainDoes_392 ?_
      refine zx_iload dX11_plainDoes_395 (q := 1) rfl ?_
      refine zx_aload_n dX11_plainDoes_397 rfl (q := 5) rfl ?_
      refine zx_getI hG fl_X11_337 (kp_o (e31) h1) dX11_plainDoes_398 ?_
      obtain ⟨h138, h⟩ := ck_e h
      obtain ⟨h139, h⟩ := ck_e h
      refine zx_iast hG rfl (h138).1 (h138).2 (inb_e h139) dX11_plainDoes_401 ?_
      obtain ⟨μ140, e142, h⟩ := zlm_e h
      refine zx_mem e142 ?_
      have e141 : mK μ140 = mK μ30 := (congrArg mK e142).trans rfl
      refine zx_aload_n dX11_plainDoes_402 rfl (q := 5) rfl ?_
      refine zx_iload dX11_plainDoes_403 (q := 0) rfl ?_
      refine zx_putI hG fl_X11_337 fn_12_57 (kp_o (Eq.trans e141 e31) h1) dX11_plainDoes_405 ?_
      obtain ⟨μ143, e145, h⟩ := zlm_e h
      refine zx_mem e145 ?_
      have e144 : mK μ143 = mK μ140 := (congrArg mK e145).trans rfl
      refine zx_goto (tgt := 443) dX11_plainDoes_408 (by decide) ?_
      cases h
      exact zx_vret dX11_plainDoes_443 rfl
    have h := it_f c135 h
    by_cases c146 : (mI μ p2 (Int32.toNatClampNeg x1)) = 16
    · have h := it_t c146 h
      refine zx_tsIn dX11_plainDoes_56 (by rw [c146]; decide) (by rw [c146]; decide) (off := 355) (tgt := 411) (by rw [c146]; decide) (by decide) ?_
      refine zx_aload_n dX11_plainDoes_411 rfl (q := 5) rfl ?_
      refine zx_iload_n dX11_plainDoes_412 rfl (q := 3) rfl ?_
      refine zx_putI hG fl_X11_337 fn_12_57 (kp_o (e31) h1) dX11_plainDoes_413 ?_
      obtain ⟨μ147, e149, h⟩ := zlm_e h
      refine zx_mem e149 ?_
      have e148 : mK μ147 = mK μ30 := (congrArg mK e149).trans rfl
      refine zx_goto (tgt := 443) dX11_plainDoes_416 (by decide) ?_
      cases h
      exact zx_vret dX11_plainDoes_443 rfl
    have h := it_f c146 h
    by_cases c150 : (mI μ p2 (Int32.toNatClampNeg x1)) = 17
    · have h := it_t c150 h
      refine zx_tsIn dX11_plainDoes_56 (by rw [c150]; decide) (by rw [c150]; decide) (off := 355) (tgt := 411) (by rw [c150]; decide) (by decide) ?_
      refine zx_aload_n dX11_plainDoes_411 rfl (q := 5) rfl ?_
      refine zx_iload_n dX11_plainDoes_412 rfl (q := 3) rfl ?_
      refine zx_putI hG fl_X11_337 fn_12_57 (kp_o (e31) h1) dX11_plainDoes_413 ?_
      obtain ⟨μ151, e153, h⟩ := zlm_e h
      refine zx_mem e153 ?_
      have e152 : mK μ151 = mK μ30 := (congrArg mK e153).trans rfl
      refine zx_goto (tgt := 443) dX11_plainDoes_416 (by decide) ?_
      cases h
      exact zx_vret dX11_plainDoes_443 rfl
    have h := it_f c150 h
    by_cases c154 : (mI μ p2 (Int32.toNatClampNeg x1)) = 18
    · have h := it_t c154 h
      refine zx_tsIn dX11_plainDoes_56 (by rw [c154]; decide) (by rw [c154]; decide) (off := 363) (tgt := 419) (by rw [c154]; decide) (by decide) ?_
      refine zx_aload_n dX11_plainDoes_419 rfl (q := 5) rfl ?_
      refine zx_iconst (v := 1) dX11_plainDoes_420 iv_iconst_1 ?_
      refine zx_putZ hG fl_X11_340 fn_12_60 (kp_o (e31) h1) zb_1 dX11_plainDoes_421 ?_
      obtain ⟨μ155, e157, h⟩ := zlm_e h
      refine zx_mem e157 ?_
      have e156 : mK μ155 = mK μ30 := (congrArg mK e157).trans rfl
      refine zx_goto (tgt := 443) dX11_plainDoes_424 (by decide) ?_
      cases h
      exact zx_vret dX11_plainDoes_443 rfl
    have h := it_f c154 h
    by_cases c158 : (mI μ p2 (Int32.toNatClampNeg x1)) = 19
    · have h := it_t c158 h
      refine zx_tsIn dX11_plainDoes_56 (by rw [c158]; decide) (by rw [c158]; decide) (off := 387) (tgt := 443) (by rw [c158]; decide) (by decide) ?_
      cases h
      exact zx_vret dX11_plainDoes_443 rfl
    have h := it_f c158 h
    by_cases c159 : (mI μ p2 (Int32.toNatClampNeg x1)) = 20
    · have h := it_t c159 h
      refine zx_tsIn dX11_plainDoes_56 (by rw [c159]; decide) (by rw [c159]; decide) (off := 387) (tgt := 443) (by rw [c159]; decide) (by decide) ?_
      cases h
      exact zx_vret dX11_plainDoes_443 rfl
    have h := it_f c159 h
    by_cases c160 : (mI μ p2 (Int32.toNatClampNeg x1)) = 21
    · have h := it_t c160 h
      refine zx_tsIn dX11_plainDoes_56 (by rw [c160]; decide) (by rw [c160]; decide) (off := 371) (tgt := 427) (by rw [c160]; decide) (by decide) ?_
      refine zx_aload_n dX11_plainDoes_427 rfl (q := 5) rfl ?_
      refine zx_iconst (v := 0) dX11_plainDoes_428 iv_iconst_0 ?_
      refine zx_putZ hG fl_X11_334 fn_12_59 (kp_o (e31) h1) zb_0 dX11_plainDoes_429 ?_
      obtain ⟨μ161, e163, h⟩ := zlm_e h
      refine zx_mem e163 ?_
      have e162 : mK μ161 = mK μ30 := (congrArg mK e163).trans rfl
      refine zx_aload_n dX11_plainDoes_432 rfl (q := 5) rfl ?_
      refine zx_aload_n dX11_plainDoes_433 rfl (q := 5) rfl ?_
      refine zx_getI hG fl_X11_343 (kp_o (Eq.trans e162 e31) h1) dX11_plainDoes_434 ?_
      refine zx_putI hG fl_X11_337 fn_12_57 (kp_o (Eq.trans e162 e31) h1) dX11_plainDoes_437 ?_
      obtain ⟨μ164, e166, h⟩ := zlm_e h
      refine zx_mem e166 ?_
      have e165 : mK μ164 = mK μ161 := (congrArg mK e166).trans rfl
      refine zx_goto (tgt := 443) dX11_plainDoes_440 (by decide) ?_
      cases h
      exact zx_vret dX11_plainDoes_443 rfl
    have h := it_f c160 h
    cases h
