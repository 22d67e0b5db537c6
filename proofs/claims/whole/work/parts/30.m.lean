theorem dX11_ends_0 : decode cX11_ends 0 = .ok (.aload_n 0, 1) := by decide +kernel
theorem dX11_ends_1 : decode cX11_ends 1 = .ok (.getfield 74, 3) := by decide +kernel
theorem dX11_ends_4 : decode cX11_ends 4 = .ok (.iload_n 1, 1) := by decide +kernel
theorem dX11_ends_5 : decode cX11_ends 5 = .ok (.aaload, 1) := by decide +kernel
theorem dX11_ends_6 : decode cX11_ends 6 = .ok (.astore_n 2, 1) := by decide +kernel
theorem dX11_ends_7 : decode cX11_ends 7 = .ok (.aload_n 0, 1) := by decide +kernel
theorem dX11_ends_8 : decode cX11_ends 8 = .ok (.aload_n 2, 1) := by decide +kernel
theorem dX11_ends_9 : decode cX11_ends 9 = .ok (.invokevirtual 201, 3) := by decide +kernel
theorem dX11_ends_12 : decode cX11_ends 12 = .ok (.istore_n 3, 1) := by decide +kernel
theorem dX11_ends_13 : decode cX11_ends 13 = .ok (.iload_n 3, 1) := by decide +kernel
theorem dX11_ends_14 : decode cX11_ends 14 = .ok (.invokestatic 209, 3) := by decide +kernel
theorem dX11_ends_17 : decode cX11_ends 17 = .ok (.ifCond .eq 48, 3) := by decide +kernel
theorem dX11_ends_20 : decode cX11_ends 20 = .ok (.aload_n 2, 1) := by decide +kernel
theorem dX11_ends_21 : decode cX11_ends 21 = .ok (.bipush 13, 2) := by decide +kernel
theorem dX11_ends_23 : decode cX11_ends 23 = .ok (.iload_n 3, 1) := by decide +kernel
theorem dX11_ends_24 : decode cX11_ends 24 = .ok (.iconst 5, 1) := by decide +kernel
theorem dX11_ends_25 : decode cX11_ends 25 = .ok (.if_icmp .ne 19, 3) := by decide +kernel
theorem dX11_ends_28 : decode cX11_ends 28 = .ok (.aload_n 0, 1) := by decide +kernel
theorem dX11_ends_29 : decode cX11_ends 29 = .ok (.getfield 62, 3) := by decide +kernel
theorem dX11_ends_32 : decode cX11_ends 32 = .ok (.aload_n 2, 1) := by decide +kernel
theorem dX11_ends_33 : decode cX11_ends 33 = .ok (.bipush 8, 2) := by decide +kernel
theorem dX11_ends_35 : decode cX11_ends 35 = .ok (.iaload, 1) := by decide +kernel
theorem dX11_ends_36 : decode cX11_ends 36 = .ok (.iaload, 1) := by decide +kernel
theorem dX11_ends_37 : decode cX11_ends 37 = .ok (.ifCond .ne 7, 3) := by decide +kernel
theorem dX11_ends_40 : decode cX11_ends 40 = .ok (.iconst 1, 1) := by decide +kernel
theorem dX11_ends_41 : decode cX11_ends 41 = .ok (.goto 7, 3) := by decide +kernel
theorem dX11_ends_44 : decode cX11_ends 44 = .ok (.aload_n 2, 1) := by decide +kernel
theorem dX11_ends_45 : decode cX11_ends 45 = .ok (.bipush 13, 2) := by decide +kernel
theorem dX11_ends_47 : decode cX11_ends 47 = .ok (.iaload, 1) := by decide +kernel
theorem dX11_ends_48 : decode cX11_ends 48 = .ok (.iastore, 1) := by decide +kernel
theorem dX11_ends_49 : decode cX11_ends 49 = .ok (.aload_n 2, 1) := by decide +kernel
theorem dX11_ends_50 : decode cX11_ends 50 = .ok (.bipush 15, 2) := by decide +kernel
theorem dX11_ends_52 : decode cX11_ends 52 = .ok (.aload_n 0, 1) := by decide +kernel
theorem dX11_ends_53 : decode cX11_ends 53 = .ok (.aload_n 2, 1) := by decide +kernel
theorem dX11_ends_54 : decode cX11_ends 54 = .ok (.invokevirtual 262, 3) := by decide +kernel
theorem dX11_ends_57 : decode cX11_ends 57 = .ok (.iastore, 1) := by decide +kernel
theorem dX11_ends_58 : decode cX11_ends 58 = .ok (.aload_n 2, 1) := by decide +kernel
theorem dX11_ends_59 : decode cX11_ends 59 = .ok (.bipush 11, 2) := by decide +kernel
theorem dX11_ends_61 : decode cX11_ends 61 = .ok (.bipush 98, 2) := by decide +kernel
theorem dX11_ends_63 : decode cX11_ends 63 = .ok (.iastore, 1) := by decide +kernel
theorem dX11_ends_64 : decode cX11_ends 64 = .ok (.return_, 1) := by decide +kernel
theorem dX11_ends_65 : decode cX11_ends 65 = .ok (.aload_n 2, 1) := by decide +kernel
theorem dX11_ends_66 : decode cX11_ends 66 = .ok (.bipush 11, 2) := by decide +kernel
theorem dX11_ends_68 : decode cX11_ends 68 = .ok (.bipush 101, 2) := by decide +kernel
theorem dX11_ends_70 : decode cX11_ends 70 = .ok (.iastore, 1) := by decide +kernel
theorem dX11_ends_71 : decode cX11_ends 71 = .ok (.aload_n 2, 1) := by decide +kernel
theorem dX11_ends_72 : decode cX11_ends 72 = .ok (.iconst 4, 1) := by decide +kernel
theorem dX11_ends_73 : decode cX11_ends 73 = .ok (.aload_n 0, 1) := by decide +kernel
theorem dX11_ends_74 : decode cX11_ends 74 = .ok (.getfield 133, 3) := by decide +kernel
theorem dX11_ends_77 : decode cX11_ends 77 = .ok (.iastore, 1) := by decide +kernel
theorem dX11_ends_78 : decode cX11_ends 78 = .ok (.iload_n 3, 1) := by decide +kernel
theorem dX11_ends_79 : decode cX11_ends 79 = .ok (.invokestatic 231, 3) := by decide +kernel
theorem dX11_ends_82 : decode cX11_ends 82 = .ok (.ifCond .eq 114, 3) := by decide +kernel
theorem dX11_ends_85 : decode cX11_ends 85 = .ok (.aload_n 0, 1) := by decide +kernel
theorem dX11_ends_86 : decode cX11_ends 86 = .ok (.getfield 62, 3) := by decide +kernel
theorem dX11_ends_89 : decode cX11_ends 89 = .ok (.aload_n 2, 1) := by decide +kernel
theorem dX11_ends_90 : decode cX11_ends 90 = .ok (.bipush 7, 2) := by decide +kernel
theorem dX11_ends_92 : decode cX11_ends 92 = .ok (.iaload, 1) := by decide +kernel
theorem dX11_ends_93 : decode cX11_ends 93 = .ok (.iaload, 1) := by decide +kernel
theorem dX11_ends_94 : decode cX11_ends 94 = .ok (.aload_n 0, 1) := by decide +kernel
theorem dX11_ends_95 : decode cX11_ends 95 = .ok (.getfield 22, 3) := by decide +kernel
theorem dX11_ends_98 : decode cX11_ends 98 = .ok (.aload_n 2, 1) := by decide +kernel
theorem dX11_ends_99 : decode cX11_ends 99 = .ok (.iconst 0, 1) := by decide +kernel
theorem dX11_ends_100 : decode cX11_ends 100 = .ok (.iaload, 1) := by decide +kernel
theorem dX11_ends_101 : decode cX11_ends 101 = .ok (.iaload, 1) := by decide +kernel
theorem dX11_ends_102 : decode cX11_ends 102 = .ok (.iadd, 1) := by decide +kernel
theorem dX11_ends_103 : decode cX11_ends 103 = .ok (.istore 4, 2) := by decide +kernel
theorem dX11_ends_105 : decode cX11_ends 105 = .ok (.aload_n 2, 1) := by decide +kernel
theorem dX11_ends_106 : decode cX11_ends 106 = .ok (.bipush 13, 2) := by decide +kernel
theorem dX11_ends_108 : decode cX11_ends 108 = .ok (.iload 4, 2) := by decide +kernel
theorem dX11_ends_110 : decode cX11_ends 110 = .ok (.invokestatic 225, 3) := by decide +kernel
theorem dX11_ends_113 : decode cX11_ends 113 = .ok (.ifCond .eq 7, 3) := by decide +kernel
theorem dX11_ends_116 : decode cX11_ends 116 = .ok (.iconst 0, 1) := by decide +kernel
theorem dX11_ends_117 : decode cX11_ends 117 = .ok (.goto 4, 3) := by decide +kernel
theorem dX11_ends_120 : decode cX11_ends 120 = .ok (.iconst 2, 1) := by decide +kernel
theorem dX11_ends_121 : decode cX11_ends 121 = .ok (.iastore, 1) := by decide +kernel
theorem dX11_ends_122 : decode cX11_ends 122 = .ok (.aload_n 2, 1) := by decide +kernel
theorem dX11_ends_123 : decode cX11_ends 123 = .ok (.bipush 14, 2) := by decide +kernel
theorem dX11_ends_125 : decode cX11_ends 125 = .ok (.iload 4, 2) := by decide +kernel
theorem dX11_ends_127 : decode cX11_ends 127 = .ok (.iastore, 1) := by decide +kernel
theorem dX11_ends_128 : decode cX11_ends 128 = .ok (.aload_n 0, 1) := by decide +kernel
theorem dX11_ends_129 : decode cX11_ends 129 = .ok (.iload_n 1, 1) := by decide +kernel
theorem dX11_ends_130 : decode cX11_ends 130 = .ok (.invokevirtual 265, 3) := by decide +kernel
theorem dX11_ends_133 : decode cX11_ends 133 = .ok (.istore 5, 2) := by decide +kernel
theorem dX11_ends_135 : decode cX11_ends 135 = .ok (.iload 5, 2) := by decide +kernel
theorem dX11_ends_137 : decode cX11_ends 137 = .ok (.iconst (-1), 1) := by decide +kernel
theorem dX11_ends_138 : decode cX11_ends 138 = .ok (.if_icmp .eq 57, 3) := by decide +kernel
theorem dX11_ends_141 : decode cX11_ends 141 = .ok (.aload_n 0, 1) := by decide +kernel
theorem dX11_ends_142 : decode cX11_ends 142 = .ok (.getfield 74, 3) := by decide +kernel
theorem dX11_ends_145 : decode cX11_ends 145 = .ok (.iload 5, 2) := by decide +kernel
theorem dX11_ends_147 : decode cX11_ends 147 = .ok (.aaload, 1) := by decide +kernel
theorem dX11_ends_148 : decode cX11_ends 148 = .ok (.astore 6, 2) := by decide +kernel
theorem dX11_ends_150 : decode cX11_ends 150 = .ok (.aload_n 0, 1) := by decide +kernel
theorem dX11_ends_151 : decode cX11_ends 151 = .ok (.dup, 1) := by decide +kernel
theorem dX11_ends_152 : decode cX11_ends 152 = .ok (.getfield 268, 3) := by decide +kernel
theorem dX11_ends_155 : decode cX11_ends 155 = .ok (.iconst 1, 1) := by decide +kernel
theorem dX11_ends_156 : decode cX11_ends 156 = .ok (.iadd, 1) := by decide +kernel
theorem dX11_ends_157 : decode cX11_ends 157 = .ok (.putfield 268, 3) := by decide +kernel
theorem dX11_ends_160 : decode cX11_ends 160 = .ok (.aload_n 0, 1) := by decide +kernel
theorem dX11_ends_161 : decode cX11_ends 161 = .ok (.getfield 89, 3) := by decide +kernel
theorem dX11_ends_164 : decode cX11_ends 164 = .ok (.aload 6, 2) := by decide +kernel
theorem dX11_ends_166 : decode cX11_ends 166 = .ok (.iconst 0, 1) := by decide +kernel
theorem dX11_ends_167 : decode cX11_ends 167 = .ok (.iaload, 1) := by decide +kernel
theorem dX11_ends_168 : decode cX11_ends 168 = .ok (.bipush 16, 2) := by decide +kernel
theorem dX11_ends_170 : decode cX11_ends 170 = .ok (.irem, 1) := by decide +kernel
theorem dX11_ends_171 : decode cX11_ends 171 = .ok (.iconst 1, 1) := by decide +kernel
theorem dX11_ends_172 : decode cX11_ends 172 = .ok (.bastore, 1) := by decide +kernel
theorem dX11_ends_173 : decode cX11_ends 173 = .ok (.aload_n 0, 1) := by decide +kernel
theorem dX11_ends_174 : decode cX11_ends 174 = .ok (.aload 6, 2) := by decide +kernel
theorem dX11_ends_176 : decode cX11_ends 176 = .ok (.bipush 18, 2) := by decide +kernel
theorem dX11_ends_178 : decode cX11_ends 178 = .ok (.invokevirtual 271, 3) := by decide +kernel
theorem dX11_ends_181 : decode cX11_ends 181 = .ok (.aload_n 0, 1) := by decide +kernel
theorem dX11_ends_182 : decode cX11_ends 182 = .ok (.aload 6, 2) := by decide +kernel
theorem dX11_ends_184 : decode cX11_ends 184 = .ok (.iconst 0, 1) := by decide +kernel
theorem dX11_ends_185 : decode cX11_ends 185 = .ok (.iaload, 1) := by decide +kernel
theorem dX11_ends_186 : decode cX11_ends 186 = .ok (.invokevirtual 274, 3) := by decide +kernel
theorem dX11_ends_189 : decode cX11_ends 189 = .ok (.aload_n 0, 1) := by decide +kernel
theorem dX11_ends_190 : decode cX11_ends 190 = .ok (.iload 5, 2) := by decide +kernel
theorem dX11_ends_192 : decode cX11_ends 192 = .ok (.invokevirtual 277, 3) := by decide +kernel
theorem dX11_ends_195 : decode cX11_ends 195 = .ok (.return_, 1) := by decide +kernel
theorem dX11_ends_196 : decode cX11_ends 196 = .ok (.aload_n 0, 1) := by decide +kernel
theorem dX11_ends_197 : decode cX11_ends 197 = .ok (.aload_n 2, 1) := by decide +kernel
theorem dX11_ends_198 : decode cX11_ends 198 = .ok (.iload_n 3, 1) := by decide +kernel
theorem dX11_ends_199 : decode cX11_ends 199 = .ok (.invokevirtual 280, 3) := by decide +kernel
theorem dX11_ends_202 : decode cX11_ends 202 = .ok (.aload_n 2, 1) := by decide +kernel
theorem dX11_ends_203 : decode cX11_ends 203 = .ok (.bipush 13, 2) := by decide +kernel
theorem dX11_ends_205 : decode cX11_ends 205 = .ok (.iaload, 1) := by decide +kernel
theorem dX11_ends_206 : decode cX11_ends 206 = .ok (.ifCond .ne 45, 3) := by decide +kernel
theorem dX11_ends_209 : decode cX11_ends 209 = .ok (.aload_n 2, 1) := by decide +kernel
theorem dX11_ends_210 : decode cX11_ends 210 = .ok (.bipush 6, 2) := by decide +kernel
theorem dX11_ends_212 : decode cX11_ends 212 = .ok (.iaload, 1) := by decide +kernel
theorem dX11_ends_213 : decode cX11_ends 213 = .ok (.aload_n 2, 1) := by decide +kernel
theorem dX11_ends_214 : decode cX11_ends 214 = .ok (.iconst 5, 1) := by decide +kernel
theorem dX11_ends_215 : decode cX11_ends 215 = .ok (.iaload, 1) := by decide +kernel
theorem dX11_ends_216 : decode cX11_ends 216 = .ok (.if_icmp .eq 35, 3) := by decide +kernel
theorem dX11_ends_219 : decode cX11_ends 219 = .ok (.aload_n 0, 1) := by decide +kernel
theorem dX11_ends_220 : decode cX11_ends 220 = .ok (.dup, 1) := by decide +kernel
theorem dX11_ends_221 : decode cX11_ends 221 = .ok (.getfield 283, 3) := by decide +kernel
theorem dX11_ends_224 : decode cX11_ends 224 = .ok (.iconst 1, 1) := by decide +kernel
theorem dX11_ends_225 : decode cX11_ends 225 = .ok (.iadd, 1) := by decide +kernel
theorem dX11_ends_226 : decode cX11_ends 226 = .ok (.putfield 283, 3) := by decide +kernel
theorem dX11_ends_229 : decode cX11_ends 229 = .ok (.aload_n 0, 1) := by decide +kernel
theorem dX11_ends_230 : decode cX11_ends 230 = .ok (.aload_n 2, 1) := by decide +kernel
theorem dX11_ends_231 : decode cX11_ends 231 = .ok (.bipush 23, 2) := by decide +kernel
theorem dX11_ends_233 : decode cX11_ends 233 = .ok (.invokevirtual 271, 3) := by decide +kernel
theorem dX11_ends_236 : decode cX11_ends 236 = .ok (.aload_n 0, 1) := by decide +kernel
theorem dX11_ends_237 : decode cX11_ends 237 = .ok (.aload_n 2, 1) := by decide +kernel
theorem dX11_ends_238 : decode cX11_ends 238 = .ok (.bipush 6, 2) := by decide +kernel
theorem dX11_ends_240 : decode cX11_ends 240 = .ok (.iaload, 1) := by decide +kernel
theorem dX11_ends_241 : decode cX11_ends 241 = .ok (.invokevirtual 274, 3) := by decide +kernel
theorem dX11_ends_244 : decode cX11_ends 244 = .ok (.aload_n 0, 1) := by decide +kernel
theorem dX11_ends_245 : decode cX11_ends 245 = .ok (.iload_n 1, 1) := by decide +kernel
theorem dX11_ends_246 : decode cX11_ends 246 = .ok (.iconst 1, 1) := by decide +kernel
theorem dX11_ends_247 : decode cX11_ends 247 = .ok (.iadd, 1) := by decide +kernel
theorem dX11_ends_248 : decode cX11_ends 248 = .ok (.invokevirtual 277, 3) := by decide +kernel
theorem dX11_ends_251 : decode cX11_ends 251 = .ok (.return_, 1) := by decide +kernel
theorem dX11_endings_0 : decode cX11_endings 0 = .ok (.iconst 0, 1) := by decide +kernel
theorem dX11_endings_1 : decode cX11_endings 1 = .ok (.istore_n 1, 1) := by decide +kernel
theorem dX11_endings_2 : decode cX11_endings 2 = .ok (.iload_n 1, 1) := by decide +kernel
theorem dX11_endings_3 : decode cX11_endings 3 = .ok (.aload_n 0, 1) := by decide +kernel
theorem dX11_endings_4 : decode cX11_endings 4 = .ok (.getfield 198, 3) := by decide +kernel
theorem dX11_endings_7 : decode cX11_endings 7 = .ok (.if_icmp .ge 44, 3) := by decide +kernel
theorem dX11_endings_10 : decode cX11_endings 10 = .ok (.aload_n 0, 1) := by decide +kernel
theorem dX11_endings_11 : decode cX11_endings 11 = .ok (.getfield 74, 3) := by decide +kernel
theorem dX11_endings_14 : decode cX11_endings 14 = .ok (.iload_n 1, 1) := by decide +kernel
theorem dX11_endings_15 : decode cX11_endings 15 = .ok (.aaload, 1) := by decide +kernel
theorem dX11_endings_16 : decode cX11_endings 16 = .ok (.bipush 11, 2) := by decide +kernel
theorem dX11_endings_18 : decode cX11_endings 18 = .ok (.iaload, 1) := by decide +kernel
theorem dX11_endings_19 : decode cX11_endings 19 = .ok (.bipush 120, 2) := by decide +kernel
theorem dX11_endings_21 : decode cX11_endings 21 = .ok (.if_icmp .ne 24, 3) := by decide +kernel
theorem dX11_endings_24 : decode cX11_endings 24 = .ok (.aload_n 0, 1) := by decide +kernel
theorem dX11_endings_25 : decode cX11_endings 25 = .ok (.getfield 74, 3) := by decide +kernel
theorem dX11_endings_28 : decode cX11_endings 28 = .ok (.iload_n 1, 1) := by decide +kernel
theorem dX11_endings_29 : decode cX11_endings 29 = .ok (.aaload, 1) := by decide +kernel
theorem dX11_endings_30 : decode cX11_endings 30 = .ok (.bipush 12, 2) := by decide +kernel
theorem dX11_endings_32 : decode cX11_endings 32 = .ok (.iaload, 1) := by decide +kernel
theorem dX11_endings_33 : decode cX11_endings 33 = .ok (.aload_n 0, 1) := by decide +kernel
theorem dX11_endings_34 : decode cX11_endings 34 = .ok (.getfield 133, 3) := by decide +kernel
theorem dX11_endings_37 : decode cX11_endings 37 = .ok (.if_icmp .ne 8, 3) := by decide +kernel
theorem dX11_endings_40 : decode cX11_endings 40 = .ok (.aload_n 0, 1) := by decide +kernel
theorem dX11_endings_41 : decode cX11_endings 41 = .ok (.iload_n 1, 1) := by decide +kernel
theorem dX11_endings_42 : decode cX11_endings 42 = .ok (.invokevirtual 286, 3) := by decide +kernel
theorem dX11_endings_45 : decode cX11_endings 45 = .ok (.iinc 1 1, 3) := by decide +kernel
theorem dX11_endings_48 : decode cX11_endings 48 = .ok (.goto (-46), 3) := by decide +kernel
theorem dX11_endings_51 : decode cX11_endings 51 = .ok (.iconst 0, 1) := by decide +kernel
theorem dX11_endings_52 : decode cX11_endings 52 = .ok (.istore_n 1, 1) := by decide +kernel
theorem dX11_endings_53 : decode cX11_endings 53 = .ok (.iconst 0, 1) := by decide +kernel
theorem dX11_endings_54 : decode cX11_endings 54 = .ok (.istore_n 2, 1) := by decide +kernel
theorem dX11_endings_55 : decode cX11_endings 55 = .ok (.iload_n 2, 1) := by decide +kernel
theorem dX11_endings_56 : decode cX11_endings 56 = .ok (.aload_n 0, 1) := by decide +kernel
theorem dX11_endings_57 : decode cX11_endings 57 = .ok (.getfield 198, 3) := by decide +kernel
theorem dX11_endings_60 : decode cX11_endings 60 = .ok (.if_icmp .ge 80, 3) := by decide +kernel
theorem dX11_endings_63 : decode cX11_endings 63 = .ok (.iload_n 1, 1) := by decide +kernel
theorem dX11_endings_64 : decode cX11_endings 64 = .ok (.iconst 2, 1) := by decide +kernel
theorem dX11_endings_65 : decode cX11_endings 65 = .ok (.if_icmp .ge 75, 3) := by decide +kernel
theorem dX11_endings_68 : decode cX11_endings 68 = .ok (.aload_n 0, 1) := by decide +kernel
theorem dX11_endings_69 : decode cX11_endings 69 = .ok (.getfield 74, 3) := by decide +kernel
theorem dX11_endings_72 : decode cX11_endings 72 = .ok (.iload_n 2, 1) := by decide +kernel
theorem dX11_endings_73 : decode cX11_endings 73 = .ok (.aaload, 1) := by decide +kernel
theorem dX11_endings_74 : decode cX11_endings 74 = .ok (.astore_n 3, 1) := by decide +kernel
theorem dX11_endings_75 : decode cX11_endings 75 = .ok (.aload_n 3, 1) := by decide +kernel
theorem dX11_endings_76 : decode cX11_endings 76 = .ok (.bipush 11, 2) := by decide +kernel
theorem dX11_endings_78 : decode cX11_endings 78 = .ok (.iaload, 1) := by decide +kernel
theorem dX11_endings_79 : decode cX11_endings 79 = .ok (.bipush 98, 2) := by decide +kernel
theorem dX11_endings_81 : decode cX11_endings 81 = .ok (.if_icmp .ne 53, 3) := by decide +kernel
theorem dX11_endings_84 : decode cX11_endings 84 = .ok (.iinc 1 1, 3) := by decide +kernel
theorem dX11_endings_87 : decode cX11_endings 87 = .ok (.aload_n 0, 1) := by decide +kernel
theorem dX11_endings_88 : decode cX11_endings 88 = .ok (.getfield 62, 3) := by decide +kernel
theorem dX11_endings_91 : decode cX11_endings 91 = .ok (.aload_n 3, 1) := by decide +kernel
theorem dX11_endings_92 : decode cX11_endings 92 = .ok (.bipush 9, 2) := by decide +kernel
theorem dX11_endings_94 : decode cX11_endings 94 = .ok (.iaload, 1) := by decide +kernel
theorem dX11_endings_95 : decode cX11_endings 95 = .ok (.aload_n 3, 1) := by decide +kernel
theorem dX11_endings_96 : decode cX11_endings 96 = .ok (.bipush 13, 2) := by decide +kernel
theorem dX11_endings_98 : decode cX11_endings 98 = .ok (.iaload, 1) := by decide +kernel
theorem dX11_endings_99 : decode cX11_endings 99 = .ok (.ifCond .le 7, 3) := by decide +kernel
theorem dX11_endings_102 : decode cX11_endings 102 = .ok (.iconst 0, 1) := by decide +kernel
theorem dX11_endings_103 : decode cX11_endings 103 = .ok (.goto 7, 3) := by decide +kernel
theorem dX11_endings_106 : decode cX11_endings 106 = .ok (.aload_n 3, 1) := by decide +kernel
theorem dX11_endings_107 : decode cX11_endings 107 = .ok (.bipush 15, 2) := by decide +kernel
theorem dX11_endings_109 : decode cX11_endings 109 = .ok (.iaload, 1) := by decide +kernel
theorem dX11_endings_110 : decode cX11_endings 110 = .ok (.iastore, 1) := by decide +kernel
theorem dX11_endings_111 : decode cX11_endings 111 = .ok (.aload_n 0, 1) := by decide +kernel
theorem dX11_endings_112 : decode cX11_endings 112 = .ok (.getfield 65, 3) := by decide +kernel
theorem dX11_endings_115 : decode cX11_endings 115 = .ok (.aload_n 3, 1) := by decide +kernel
theorem dX11_endings_116 : decode cX11_endings 116 = .ok (.bipush 9, 2) := by decide +kernel
theorem dX11_endings_118 : decode cX11_endings 118 = .ok (.iaload, 1) := by decide +kernel
theorem dX11_endings_119 : decode cX11_endings 119 = .ok (.iconst 1, 1) := by decide +kernel
theorem dX11_endings_120 : decode cX11_endings 120 = .ok (.bastore, 1) := by decide +kernel
theorem dX11_endings_121 : decode cX11_endings 121 = .ok (.aload_n 3, 1) := by decide +kernel
theorem dX11_endings_122 : decode cX11_endings 122 = .ok (.bipush 11, 2) := by decide +kernel
theorem dX11_endings_124 : decode cX11_endings 124 = .ok (.bipush 101, 2) := by decide +kernel
theorem dX11_endings_126 : decode cX11_endings 126 = .ok (.iastore, 1) := by decide +kernel
theorem dX11_endings_127 : decode cX11_endings 127 = .ok (.aload_n 3, 1) := by decide +kernel
theorem dX11_endings_128 : decode cX11_endings 128 = .ok (.iconst 4, 1) := by decide +kernel
theorem dX11_endings_129 : decode cX11_endings 129 = .ok (.aload_n 0, 1) := by decide +kernel
theorem dX11_endings_130 : decode cX11_endings 130 = .ok (.getfield 133, 3) := by decide +kernel
theorem dX11_endings_133 : decode cX11_endings 133 = .ok (.iastore, 1) := by decide +kernel
theorem dX11_endings_134 : decode cX11_endings 134 = .ok (.iinc 2 1, 3) := by decide +kernel
theorem dX11_endings_137 : decode cX11_endings 137 = .ok (.goto (-82), 3) := by decide +kernel
theorem dX11_endings_140 : decode cX11_endings 140 = .ok (.return_, 1) := by decide +kernel
theorem dX11_isQueued_0 : decode cX11_isQueued 0 = .ok (.iload_n 0, 1) := by decide +kernel
theorem dX11_isQueued_1 : decode cX11_isQueued 1 = .ok (.iconst 1, 1) := by decide +kernel
theorem dX11_isQueued_2 : decode cX11_isQueued 2 = .ok (.bipush 13, 2) := by decide +kernel
theorem dX11_isQueued_4 : decode cX11_isQueued 4 = .ok (.invokestatic 129, 3) := by decide +kernel
theorem dX11_isQueued_7 : decode cX11_isQueued 7 = .ok (.ifCond .ne 15, 3) := by decide +kernel
theorem dX11_isQueued_10 : decode cX11_isQueued 10 = .ok (.iload_n 0, 1) := by decide +kernel
theorem dX11_isQueued_11 : decode cX11_isQueued 11 = .ok (.bipush 16, 2) := by decide +kernel
theorem dX11_isQueued_13 : decode cX11_isQueued 13 = .ok (.if_icmp .eq 9, 3) := by decide +kernel
theorem dX11_isQueued_16 : decode cX11_isQueued 16 = .ok (.iload_n 0, 1) := by decide +kernel
theorem dX11_isQueued_17 : decode cX11_isQueued 17 = .ok (.bipush 17, 2) := by decide +kernel
theorem dX11_isQueued_19 : decode cX11_isQueued 19 = .ok (.if_icmp .ne 7, 3) := by decide +kernel
theorem dX11_isQueued_22 : decode cX11_isQueued 22 = .ok (.iconst 1, 1) := by decide +kernel
theorem dX11_isQueued_23 : decode cX11_isQueued 23 = .ok (.goto 4, 3) := by decide +kernel
theorem dX11_isQueued_26 : decode cX11_isQueued 26 = .ok (.iconst 0, 1) := by decide +kernel
theorem dX11_isQueued_27 : decode cX11_isQueued 27 = .ok (.ireturn, 1) := by decide +kernel
theorem dX11_tellsEnd_0 : decode cX11_tellsEnd 0 = .ok (.aload_n 0, 1) := by decide +kernel
theorem dX11_tellsEnd_1 : decode cX11_tellsEnd 1 = .ok (.getfield 101, 3) := by decide +kernel
theorem dX11_tellsEnd_4 : decode cX11_tellsEnd 4 = .ok (.aload_n 0, 1) := by decide +kernel
theorem dX11_tellsEnd_5 : decode cX11_tellsEnd 5 = .ok (.getfield 150, 3) := by decide +kernel
theorem dX11_tellsEnd_8 : decode cX11_tellsEnd 8 = .ok (.iload_n 1, 1) := by decide +kernel
theorem dX11_tellsEnd_9 : decode cX11_tellsEnd 9 = .ok (.iastore, 1) := by decide +kernel
theorem dX11_tellsEnd_10 : decode cX11_tellsEnd 10 = .ok (.aload_n 0, 1) := by decide +kernel
theorem dX11_tellsEnd_11 : decode cX11_tellsEnd 11 = .ok (.getfield 104, 3) := by decide +kernel
theorem dX11_tellsEnd_14 : decode cX11_tellsEnd 14 = .ok (.aload_n 0, 1) := by decide +kernel
theorem dX11_tellsEnd_15 : decode cX11_tellsEnd 15 = .ok (.getfield 150, 3) := by decide +kernel
theorem dX11_tellsEnd_18 : decode cX11_tellsEnd 18 = .ok (.iload_n 2, 1) := by decide +kernel
theorem dX11_tellsEnd_19 : decode cX11_tellsEnd 19 = .ok (.iastore, 1) := by decide +kernel
theorem dX11_tellsEnd_20 : decode cX11_tellsEnd 20 = .ok (.aload_n 3, 1) := by decide +kernel
theorem dX11_tellsEnd_21 : decode cX11_tellsEnd 21 = .ok (.ifnull 61, 3) := by decide +kernel
theorem dX11_tellsEnd_24 : decode cX11_tellsEnd 24 = .ok (.aload_n 0, 1) := by decide +kernel
theorem dX11_tellsEnd_25 : decode cX11_tellsEnd 25 = .ok (.getfield 108, 3) := by decide +kernel
theorem dX11_tellsEnd_28 : decode cX11_tellsEnd 28 = .ok (.aload_n 0, 1) := by decide +kernel
theorem dX11_tellsEnd_29 : decode cX11_tellsEnd 29 = .ok (.getfield 150, 3) := by decide +kernel
theorem dX11_tellsEnd_32 : decode cX11_tellsEnd 32 = .ok (.iconst 5, 1) := by decide +kernel
theorem dX11_tellsEnd_33 : decode cX11_tellsEnd 33 = .ok (.newarray .int, 2) := by decide +kernel
theorem dX11_tellsEnd_35 : decode cX11_tellsEnd 35 = .ok (.dup, 1) := by decide +kernel
theorem dX11_tellsEnd_36 : decode cX11_tellsEnd 36 = .ok (.iconst 0, 1) := by decide +kernel
theorem dX11_tellsEnd_37 : decode cX11_tellsEnd 37 = .ok (.aload_n 3, 1) := by decide +kernel
theorem dX11_tellsEnd_38 : decode cX11_tellsEnd 38 = .ok (.iconst 1, 1) := by decide +kernel
theorem dX11_tellsEnd_39 : decode cX11_tellsEnd 39 = .ok (.iaload, 1) := by decide +kernel
theorem dX11_tellsEnd_40 : decode cX11_tellsEnd 40 = .ok (.iastore, 1) := by decide +kernel
theorem dX11_tellsEnd_41 : decode cX11_tellsEnd 41 = .ok (.dup, 1) := by decide +kernel
theorem dX11_tellsEnd_42 : decode cX11_tellsEnd 42 = .ok (.iconst 1, 1) := by decide +kernel
theorem dX11_tellsEnd_43 : decode cX11_tellsEnd 43 = .ok (.aload_n 3, 1) := by decide +kernel
theorem dX11_tellsEnd_44 : decode cX11_tellsEnd 44 = .ok (.iconst 2, 1) := by decide +kernel
theorem dX11_tellsEnd_45 : decode cX11_tellsEnd 45 = .ok (.iaload, 1) := by decide +kernel
theorem dX11_tellsEnd_46 : decode cX11_tellsEnd 46 = .ok (.iastore, 1) := by decide +kernel
theorem dX11_tellsEnd_47 : decode cX11_tellsEnd 47 = .ok (.dup, 1) := by decide +kernel
theorem dX11_tellsEnd_48 : decode cX11_tellsEnd 48 = .ok (.iconst 2, 1) := by decide +kernel
theorem dX11_tellsEnd_49 : decode cX11_tellsEnd 49 = .ok (.aload_n 0, 1) := by decide +kernel
theorem dX11_tellsEnd_50 : decode cX11_tellsEnd 50 = .ok (.aload_n 3, 1) := by decide +kernel
theorem dX11_tellsEnd_51 : decode cX11_tellsEnd 51 = .ok (.invokevirtual 201, 3) := by decide +kernel
theorem dX11_tellsEnd_54 : decode cX11_tellsEnd 54 = .ok (.invokestatic 212, 3) := by decide +kernel
theorem dX11_tellsEnd_57 : decode cX11_tellsEnd 57 = .ok (.ifCond .eq 9, 3) := by decide +kernel
theorem dX11_tellsEnd_60 : decode cX11_tellsEnd 60 = .ok (.aload_n 3, 1) := by decide +kernel
theorem dX11_tellsEnd_61 : decode cX11_tellsEnd 61 = .ok (.iconst 3, 1) := by decide +kernel
theorem dX11_tellsEnd_62 : decode cX11_tellsEnd 62 = .ok (.iaload, 1) := by decide +kernel
theorem dX11_tellsEnd_63 : decode cX11_tellsEnd 63 = .ok (.goto 4, 3) := by decide +kernel
theorem dX11_tellsEnd_66 : decode cX11_tellsEnd 66 = .ok (.iconst (-1), 1) := by decide +kernel
theorem dX11_tellsEnd_67 : decode cX11_tellsEnd 67 = .ok (.iastore, 1) := by decide +kernel
theorem dX11_tellsEnd_68 : decode cX11_tellsEnd 68 = .ok (.dup, 1) := by decide +kernel
theorem dX11_tellsEnd_69 : decode cX11_tellsEnd 69 = .ok (.iconst 3, 1) := by decide +kernel
theorem dX11_tellsEnd_70 : decode cX11_tellsEnd 70 = .ok (.aload_n 3, 1) := by decide +kernel
theorem dX11_tellsEnd_71 : decode cX11_tellsEnd 71 = .ok (.iconst 4, 1) := by decide +kernel
theorem dX11_tellsEnd_72 : decode cX11_tellsEnd 72 = .ok (.iaload, 1) := by decide +kernel
theorem dX11_tellsEnd_73 : decode cX11_tellsEnd 73 = .ok (.iastore, 1) := by decide +kernel
theorem dX11_tellsEnd_74 : decode cX11_tellsEnd 74 = .ok (.dup, 1) := by decide +kernel
theorem dX11_tellsEnd_75 : decode cX11_tellsEnd 75 = .ok (.iconst 4, 1) := by decide +kernel
theorem dX11_tellsEnd_76 : decode cX11_tellsEnd 76 = .ok (.aload_n 0, 1) := by decide +kernel
theorem dX11_tellsEnd_77 : decode cX11_tellsEnd 77 = .ok (.getfield 133, 3) := by decide +kernel
theorem dX11_tellsEnd_80 : decode cX11_tellsEnd 80 = .ok (.iastore, 1) := by decide +kernel
theorem dX11_tellsEnd_81 : decode cX11_tellsEnd 81 = .ok (.aastore, 1) := by decide +kernel
theorem dX11_tellsEnd_82 : decode cX11_tellsEnd 82 = .ok (.aload_n 0, 1) := by decide +kernel
theorem dX11_tellsEnd_83 : decode cX11_tellsEnd 83 = .ok (.dup, 1) := by decide +kernel
theorem dX11_tellsEnd_84 : decode cX11_tellsEnd 84 = .ok (.getfield 150, 3) := by decide +kernel
theorem dX11_tellsEnd_87 : decode cX11_tellsEnd 87 = .ok (.iconst 1, 1) := by decide +kernel
theorem dX11_tellsEnd_88 : decode cX11_tellsEnd 88 = .ok (.iadd, 1) := by decide +kernel
theorem dX11_tellsEnd_89 : decode cX11_tellsEnd 89 = .ok (.putfield 150, 3) := by decide +kernel
theorem dX11_tellsEnd_92 : decode cX11_tellsEnd 92 = .ok (.return_, 1) := by decide +kernel
theorem dX11_handles_0 : decode cX11_handles 0 = .ok (.aload_n 0, 1) := by decide +kernel
theorem dX11_handles_1 : decode cX11_handles 1 = .ok (.iconst 0, 1) := by decide +kernel
theorem dX11_handles_2 : decode cX11_handles 2 = .ok (.invokevirtual 277, 3) := by decide +kernel
theorem dX11_handles_5 : decode cX11_handles 5 = .ok (.aload_n 0, 1) := by decide +kernel
theorem dX11_handles_6 : decode cX11_handles 6 = .ok (.getfield 80, 3) := by decide +kernel
theorem dX11_handles_9 : decode cX11_handles 9 = .ok (.iconst 0, 1) := by decide +kernel
theorem dX11_handles_10 : decode cX11_handles 10 = .ok (.iconst 0, 1) := by decide +kernel
theorem dX11_handles_11 : decode cX11_handles 11 = .ok (.iastore, 1) := by decide +kernel
theorem dX11_handles_12 : decode cX11_handles 12 = .ok (.aload_n 0, 1) := by decide +kernel
theorem dX11_handles_13 : decode cX11_handles 13 = .ok (.iload_n 1, 1) := by decide +kernel
theorem dX11_handles_14 : decode cX11_handles 14 = .ok (.putfield 288, 3) := by decide +kernel
theorem dX11_handles_17 : decode cX11_handles 17 = .ok (.aload_n 0, 1) := by decide +kernel
theorem dX11_handles_18 : decode cX11_handles 18 = .ok (.iconst 1, 1) := by decide +kernel
theorem dX11_handles_19 : decode cX11_handles 19 = .ok (.putfield 291, 3) := by decide +kernel
theorem dX11_handles_22 : decode cX11_handles 22 = .ok (.aload_n 0, 1) := by decide +kernel
theorem dX11_handles_23 : decode cX11_handles 23 = .ok (.iload_n 2, 1) := by decide +kernel
theorem dX11_handles_24 : decode cX11_handles 24 = .ok (.invokevirtual 274, 3) := by decide +kernel
theorem dX11_handles_27 : decode cX11_handles 27 = .ok (.aload_n 0, 1) := by decide +kernel
theorem dX11_handles_28 : decode cX11_handles 28 = .ok (.iload_n 2, 1) := by decide +kernel
theorem dX11_handles_29 : decode cX11_handles 29 = .ok (.putfield 294, 3) := by decide +kernel
theorem dX11_handles_32 : decode cX11_handles 32 = .ok (.return_, 1) := by decide +kernel
theorem dX11_reason_0 : decode cX11_reason 0 = .ok (.iload_n 0, 1) := by decide +kernel
theorem dX11_reason_1 : decode cX11_reason 1 = .ok (.tableswitch 125 98 120 #[119, 125, 122, 125, 111, 125, 125, 107, 125, 125, 125, 117, 125, 125, 125, 113, 125, 125, 109, 125, 125, 125, 115], 107) := by decide +kernel
theorem dX11_reason_108 : decode cX11_reason 108 = .ok (.iconst 0, 1) := by decide +kernel
theorem dX11_reason_109 : decode cX11_reason 109 = .ok (.ireturn, 1) := by decide +kernel
theorem dX11_reason_110 : decode cX11_reason 110 = .ok (.iconst 1, 1) := by decide +kernel
theorem dX11_reason_111 : decode cX11_reason 111 = .ok (.ireturn, 1) := by decide +kernel
theorem dX11_reason_112 : decode cX11_reason 112 = .ok (.iconst 2, 1) := by decide +kernel
theorem dX11_reason_113 : decode cX11_reason 113 = .ok (.ireturn, 1) := by decide +kernel
theorem dX11_reason_114 : decode cX11_reason 114 = .ok (.iconst 3, 1) := by decide +kernel
theorem dX11_reason_115 : decode cX11_reason 115 = .ok (.ireturn, 1) := by decide +kernel
theorem dX11_reason_116 : decode cX11_reason 116 = .ok (.iconst 4, 1) := by decide +kernel
theorem dX11_reason_117 : decode cX11_reason 117 = .ok (.ireturn, 1) := by decide +kernel
theorem dX11_reason_118 : decode cX11_reason 118 = .ok (.iconst 5, 1) := by decide +kernel
theorem dX11_reason_119 : decode cX11_reason 119 = .ok (.ireturn, 1) := by decide +kernel
theorem dX11_reason_120 : decode cX11_reason 120 = .ok (.bipush 6, 2) := by decide +kernel
theorem dX11_reason_122 : decode cX11_reason 122 = .ok (.ireturn, 1) := by decide +kernel
theorem dX11_reason_123 : decode cX11_reason 123 = .ok (.bipush 7, 2) := by decide +kernel
theorem dX11_reason_125 : decode cX11_reason 125 = .ok (.ireturn, 1) := by decide +kernel
theorem dX11_reason_126 : decode cX11_reason 126 = .ok (.iconst (-1), 1) := by decide +kernel
theorem dX11_reason_127 : decode cX11_reason 127 = .ok (.ireturn, 1) := by decide +kernel
theorem dX11_loses_0 : decode cX11_loses 0 = .ok (.iload_n 1, 1) := by decide +kernel
theorem dX11_loses_1 : decode cX11_loses 1 = .ok (.invokestatic 324, 3) := by decide +kernel
theorem dX11_loses_4 : decode cX11_loses 4 = .ok (.iconst (-1), 1) := by decide +kernel
theorem dX11_loses_5 : decode cX11_loses 5 = .ok (.if_icmp .eq 16, 3) := by decide +kernel
theorem dX11_loses_8 : decode cX11_loses 8 = .ok (.aload_n 0, 1) := by decide +kernel
theorem dX11_loses_9 : decode cX11_loses 9 = .ok (.getfield 111, 3) := by decide +kernel
theorem dX11_loses_12 : decode cX11_loses 12 = .ok (.iload_n 1, 1) := by decide +kernel
theorem dX11_loses_13 : decode cX11_loses 13 = .ok (.invokestatic 324, 3) := by decide +kernel
theorem dX11_loses_16 : decode cX11_loses 16 = .ok (.dup2, 1) := by decide +kernel
theorem dX11_loses_17 : decode cX11_loses 17 = .ok (.iaload, 1) := by decide +kernel
theorem dX11_loses_18 : decode cX11_loses 18 = .ok (.iconst 1, 1) := by decide +kernel
theorem dX11_loses_19 : decode cX11_loses 19 = .ok (.iadd, 1) := by decide +kernel
theorem dX11_loses_20 : decode cX11_loses 20 = .ok (.iastore, 1) := by decide +kernel
theorem dX11_loses_21 : decode cX11_loses 21 = .ok (.return_, 1) := by decide +kernel
theorem dX11_traps_0 : decode cX11_traps 0 = .ok (.aload_n 1, 1) := by decide +kernel
theorem dX11_traps_1 : decode cX11_traps 1 = .ok (.iconst 0, 1) := by decide +kernel
theorem dX11_traps_2 : decode cX11_traps 2 = .ok (.iaload, 1) := by decide +kernel
theorem dX11_traps_3 : decode cX11_traps 3 = .ok (.istore_n 3, 1) := by decide +kernel
theorem dX11_traps_4 : decode cX11_traps 4 = .ok (.aload_n 0, 1) := by decide +kernel
theorem dX11_traps_5 : decode cX11_traps 5 = .ok (.iload_n 2, 1) := by decide +kernel
theorem dX11_traps_6 : decode cX11_traps 6 = .ok (.iload_n 3, 1) := by decide +kernel
theorem dX11_traps_7 : decode cX11_traps 7 = .ok (.aload_n 1, 1) := by decide +kernel
theorem dX11_traps_8 : decode cX11_traps 8 = .ok (.invokevirtual 297, 3) := by decide +kernel
theorem dX11_traps_11 : decode cX11_traps 11 = .ok (.aload_n 0, 1) := by decide +kernel
theorem dX11_traps_12 : decode cX11_traps 12 = .ok (.getfield 291, 3) := by decide +kernel
theorem dX11_traps_15 : decode cX11_traps 15 = .ok (.ifCond .ne 11, 3) := by decide +kernel
theorem dX11_traps_18 : decode cX11_traps 18 = .ok (.aload_n 0, 1) := by decide +kernel
theorem dX11_traps_19 : decode cX11_traps 19 = .ok (.getfield 38, 3) := by decide +kernel
theorem dX11_traps_22 : decode cX11_traps 22 = .ok (.iconst (-1), 1) := by decide +kernel
theorem dX11_traps_23 : decode cX11_traps 23 = .ok (.if_icmp .ne 31, 3) := by decide +kernel
theorem dX11_traps_26 : decode cX11_traps 26 = .ok (.aload_n 0, 1) := by decide +kernel
theorem dX11_traps_27 : decode cX11_traps 27 = .ok (.iconst 0, 1) := by decide +kernel
theorem dX11_traps_28 : decode cX11_traps 28 = .ok (.invokevirtual 277, 3) := by decide +kernel
theorem dX11_traps_31 : decode cX11_traps 31 = .ok (.aload_n 0, 1) := by decide +kernel
theorem dX11_traps_32 : decode cX11_traps 32 = .ok (.getfield 80, 3) := by decide +kernel
theorem dX11_traps_35 : decode cX11_traps 35 = .ok (.iconst 0, 1) := by decide +kernel
theorem dX11_traps_36 : decode cX11_traps 36 = .ok (.iconst 0, 1) := by decide +kernel
theorem dX11_traps_37 : decode cX11_traps 37 = .ok (.iastore, 1) := by decide +kernel
theorem dX11_traps_38 : decode cX11_traps 38 = .ok (.aload_n 0, 1) := by decide +kernel
theorem dX11_traps_39 : decode cX11_traps 39 = .ok (.iconst 0, 1) := by decide +kernel
theorem dX11_traps_40 : decode cX11_traps 40 = .ok (.putfield 177, 3) := by decide +kernel
theorem dX11_traps_43 : decode cX11_traps 43 = .ok (.aload_n 0, 1) := by decide +kernel
theorem dX11_traps_44 : decode cX11_traps 44 = .ok (.iconst 1, 1) := by decide +kernel
theorem dX11_traps_45 : decode cX11_traps 45 = .ok (.putfield 174, 3) := by decide +kernel
theorem dX11_traps_48 : decode cX11_traps 48 = .ok (.aload_n 0, 1) := by decide +kernel
theorem dX11_traps_49 : decode cX11_traps 49 = .ok (.iconst 1, 1) := by decide +kernel
theorem dX11_traps_50 : decode cX11_traps 50 = .ok (.putfield 147, 3) := by decide +kernel
theorem dX11_traps_53 : decode cX11_traps 53 = .ok (.return_, 1) := by decide +kernel
theorem dX11_traps_54 : decode cX11_traps 54 = .ok (.aload_n 0, 1) := by decide +kernel
theorem dX11_traps_55 : decode cX11_traps 55 = .ok (.iload_n 3, 1) := by decide +kernel
theorem dX11_traps_56 : decode cX11_traps 56 = .ok (.iconst 1, 1) := by decide +kernel
theorem dX11_traps_57 : decode cX11_traps 57 = .ok (.iadd, 1) := by decide +kernel
theorem dX11_traps_58 : decode cX11_traps 58 = .ok (.aload_n 0, 1) := by decide +kernel
theorem dX11_traps_59 : decode cX11_traps 59 = .ok (.getfield 38, 3) := by decide +kernel
theorem dX11_traps_62 : decode cX11_traps 62 = .ok (.invokevirtual 301, 3) := by decide +kernel
theorem dX11_traps_65 : decode cX11_traps 65 = .ok (.return_, 1) := by decide +kernel
theorem dX11_leaves_0 : decode cX11_leaves 0 = .ok (.aload_n 0, 1) := by decide +kernel
theorem dX11_leaves_1 : decode cX11_leaves 1 = .ok (.dup, 1) := by decide +kernel
theorem dX11_leaves_2 : decode cX11_leaves 2 = .ok (.getfield 198, 3) := by decide +kernel
theorem dX11_leaves_5 : decode cX11_leaves 5 = .ok (.iconst 1, 1) := by decide +kernel
theorem dX11_leaves_6 : decode cX11_leaves 6 = .ok (.isub, 1) := by decide +kernel
theorem dX11_leaves_7 : decode cX11_leaves 7 = .ok (.putfield 198, 3) := by decide +kernel
theorem dX11_leaves_10 : decode cX11_leaves 10 = .ok (.aload_n 0, 1) := by decide +kernel
theorem dX11_leaves_11 : decode cX11_leaves 11 = .ok (.getfield 74, 3) := by decide +kernel
theorem dX11_leaves_14 : decode cX11_leaves 14 = .ok (.iconst 0, 1) := by decide +kernel
theorem dX11_leaves_15 : decode cX11_leaves 15 = .ok (.aaload, 1) := by decide +kernel
theorem dX11_leaves_16 : decode cX11_leaves 16 = .ok (.astore_n 1, 1) := by decide +kernel
theorem dX11_leaves_17 : decode cX11_leaves 17 = .ok (.iconst 0, 1) := by decide +kernel
theorem dX11_leaves_18 : decode cX11_leaves 18 = .ok (.istore_n 2, 1) := by decide +kernel
theorem dX11_leaves_19 : decode cX11_leaves 19 = .ok (.iload_n 2, 1) := by decide +kernel
theorem dX11_leaves_20 : decode cX11_leaves 20 = .ok (.aload_n 0, 1) := by decide +kernel
theorem dX11_leaves_21 : decode cX11_leaves 21 = .ok (.getfield 198, 3) := by decide +kernel
theorem dX11_leaves_24 : decode cX11_leaves 24 = .ok (.if_icmp .ge 23, 3) := by decide +kernel
theorem dX11_leaves_27 : decode cX11_leaves 27 = .ok (.aload_n 0, 1) := by decide +kernel
theorem dX11_leaves_28 : decode cX11_leaves 28 = .ok (.getfield 74, 3) := by decide +kernel
theorem dX11_leaves_31 : decode cX11_leaves 31 = .ok (.iload_n 2, 1) := by decide +kernel
theorem dX11_leaves_32 : decode cX11_leaves 32 = .ok (.aload_n 0, 1) := by decide +kernel
theorem dX11_leaves_33 : decode cX11_leaves 33 = .ok (.getfield 74, 3) := by decide +kernel
theorem dX11_leaves_36 : decode cX11_leaves 36 = .ok (.iload_n 2, 1) := by decide +kernel
theorem dX11_leaves_37 : decode cX11_leaves 37 = .ok (.iconst 1, 1) := by decide +kernel
theorem dX11_leaves_38 : decode cX11_leaves 38 = .ok (.iadd, 1) := by decide +kernel
theorem dX11_leaves_39 : decode cX11_leaves 39 = .ok (.aaload, 1) := by decide +kernel
theorem dX11_leaves_40 : decode cX11_leaves 40 = .ok (.aastore, 1) := by decide +kernel
theorem dX11_leaves_41 : decode cX11_leaves 41 = .ok (.iinc 2 1, 3) := by decide +kernel
theorem dX11_leaves_44 : decode cX11_leaves 44 = .ok (.goto (-25), 3) := by decide +kernel
theorem dX11_leaves_47 : decode cX11_leaves 47 = .ok (.aload_n 0, 1) := by decide +kernel
theorem dX11_leaves_48 : decode cX11_leaves 48 = .ok (.getfield 74, 3) := by decide +kernel
theorem dX11_leaves_51 : decode cX11_leaves 51 = .ok (.aload_n 0, 1) := by decide +kernel
theorem dX11_leaves_52 : decode cX11_leaves 52 = .ok (.getfield 198, 3) := by decide +kernel
theorem dX11_leaves_55 : decode cX11_leaves 55 = .ok (.aload_n 1, 1) := by decide +kernel
theorem dX11_leaves_56 : decode cX11_leaves 56 = .ok (.aastore, 1) := by decide +kernel
theorem dX11_leaves_57 : decode cX11_leaves 57 = .ok (.return_, 1) := by decide +kernel
theorem dX11_retire_0 : decode cX11_retire 0 = .ok (.aload_n 1, 1) := by decide +kernel
theorem dX11_retire_1 : decode cX11_retire 1 = .ok (.iconst 0, 1) := by decide +kernel
theorem dX11_retire_2 : decode cX11_retire 2 = .ok (.iaload, 1) := by decide +kernel
theorem dX11_retire_3 : decode cX11_retire 3 = .ok (.istore_n 2, 1) := by decide +kernel
theorem dX11_retire_4 : decode cX11_retire 4 = .ok (.aload_n 0, 1) := by decide +kernel
theorem dX11_retire_5 : decode cX11_retire 5 = .ok (.getfield 9, 3) := by decide +kernel
theorem dX11_retire_8 : decode cX11_retire 8 = .ok (.iload_n 2, 1) := by decide +kernel
theorem dX11_retire_9 : decode cX11_retire 9 = .ok (.iaload, 1) := by decide +kernel
theorem dX11_retire_10 : decode cX11_retire 10 = .ok (.istore_n 3, 1) := by decide +kernel
theorem dX11_retire_11 : decode cX11_retire 11 = .ok (.aload_n 0, 1) := by decide +kernel
theorem dX11_retire_12 : decode cX11_retire 12 = .ok (.iconst 0, 1) := by decide +kernel
theorem dX11_retire_13 : decode cX11_retire 13 = .ok (.iload_n 2, 1) := by decide +kernel
theorem dX11_retire_14 : decode cX11_retire 14 = .ok (.aload_n 1, 1) := by decide +kernel
theorem dX11_retire_15 : decode cX11_retire 15 = .ok (.invokevirtual 297, 3) := by decide +kernel
theorem dX11_retire_18 : decode cX11_retire 18 = .ok (.aload_n 0, 1) := by decide +kernel
theorem dX11_retire_19 : decode cX11_retire 19 = .ok (.aload_n 1, 1) := by decide +kernel
theorem dX11_retire_20 : decode cX11_retire 20 = .ok (.bipush 6, 2) := by decide +kernel
theorem dX11_retire_22 : decode cX11_retire 22 = .ok (.iaload, 1) := by decide +kernel
theorem dX11_retire_23 : decode cX11_retire 23 = .ok (.putfield 294, 3) := by decide +kernel
theorem dX11_retire_26 : decode cX11_retire 26 = .ok (.iload_n 3, 1) := by decide +kernel
theorem dX11_retire_27 : decode cX11_retire 27 = .ok (.bipush 10, 2) := by decide +kernel
theorem dX11_retire_29 : decode cX11_retire 29 = .ok (.if_icmp .ne 21, 3) := by decide +kernel
theorem dX11_retire_32 : decode cX11_retire 32 = .ok (.aload_n 0, 1) := by decide +kernel
theorem dX11_retire_33 : decode cX11_retire 33 = .ok (.getfield 53, 3) := by decide +kernel
theorem dX11_retire_36 : decode cX11_retire 36 = .ok (.aload_n 1, 1) := by decide +kernel
theorem dX11_retire_37 : decode cX11_retire 37 = .ok (.bipush 14, 2) := by decide +kernel
theorem dX11_retire_39 : decode cX11_retire 39 = .ok (.iaload, 1) := by decide +kernel
theorem dX11_retire_40 : decode cX11_retire 40 = .ok (.aload_n 0, 1) := by decide +kernel
theorem dX11_retire_41 : decode cX11_retire 41 = .ok (.getfield 62, 3) := by decide +kernel
theorem dX11_retire_44 : decode cX11_retire 44 = .ok (.aload_n 1, 1) := by decide +kernel
theorem dX11_retire_45 : decode cX11_retire 45 = .ok (.bipush 8, 2) := by decide +kernel
theorem dX11_retire_47 : decode cX11_retire 47 = .ok (.iaload, 1) := by decide +kernel
theorem dX11_retire_48 : decode cX11_retire 48 = .ok (.iaload, 1) := by decide +kernel
theorem dX11_retire_49 : decode cX11_retire 49 = .ok (.iastore, 1) := by decide +kernel
theorem dX11_retire_50 : decode cX11_retire 50 = .ok (.iload_n 3, 1) := by decide +kernel
theorem dX11_retire_51 : decode cX11_retire 51 = .ok (.bipush 11, 2) := by decide +kernel
theorem dX11_retire_53 : decode cX11_retire 53 = .ok (.if_icmp .ne 39, 3) := by decide +kernel
theorem dX11_retire_56 : decode cX11_retire 56 = .ok (.aload_n 0, 1) := by decide +kernel
theorem dX11_retire_57 : decode cX11_retire 57 = .ok (.getfield 53, 3) := by decide +kernel
theorem dX11_retire_60 : decode cX11_retire 60 = .ok (.aload_n 1, 1) := by decide +kernel
theorem dX11_retire_61 : decode cX11_retire 61 = .ok (.bipush 14, 2) := by decide +kernel
theorem dX11_retire_63 : decode cX11_retire 63 = .ok (.iaload, 1) := by decide +kernel
theorem dX11_retire_64 : decode cX11_retire 64 = .ok (.aload_n 0, 1) := by decide +kernel
theorem dX11_retire_65 : decode cX11_retire 65 = .ok (.getfield 53, 3) := by decide +kernel
theorem dX11_retire_68 : decode cX11_retire 68 = .ok (.aload_n 1, 1) := by decide +kernel
theorem dX11_retire_69 : decode cX11_retire 69 = .ok (.bipush 14, 2) := by decide +kernel
theorem dX11_retire_71 : decode cX11_retire 71 = .ok (.iaload, 1) := by decide +kernel
theorem dX11_retire_72 : decode cX11_retire 72 = .ok (.iaload, 1) := by decide +kernel
theorem dX11_retire_73 : decode cX11_retire 73 = .ok (.ldc_w 305, 3) := by decide +kernel
theorem dX11_retire_76 : decode cX11_retire 76 = .ok (.iand, 1) := by decide +kernel
theorem dX11_retire_77 : decode cX11_retire 77 = .ok (.aload_n 0, 1) := by decide +kernel
theorem dX11_retire_78 : decode cX11_retire 78 = .ok (.getfield 62, 3) := by decide +kernel
theorem dX11_retire_81 : decode cX11_retire 81 = .ok (.aload_n 1, 1) := by decide +kernel
theorem dX11_retire_82 : decode cX11_retire 82 = .ok (.bipush 8, 2) := by decide +kernel
theorem dX11_retire_84 : decode cX11_retire 84 = .ok (.iaload, 1) := by decide +kernel
theorem dX11_retire_85 : decode cX11_retire 85 = .ok (.iaload, 1) := by decide +kernel
theorem dX11_retire_86 : decode cX11_retire 86 = .ok (.ldc_w 306, 3) := by decide +kernel
theorem dX11_retire_89 : decode cX11_retire 89 = .ok (.iand, 1) := by decide +kernel
theorem dX11_retire_90 : decode cX11_retire 90 = .ok (.ior, 1) := by decide +kernel
theorem dX11_retire_91 : decode cX11_retire 91 = .ok (.iastore, 1) := by decide +kernel
theorem dX11_retire_92 : decode cX11_retire 92 = .ok (.iload_n 3, 1) := by decide +kernel
theorem dX11_retire_93 : decode cX11_retire 93 = .ok (.invokestatic 209, 3) := by decide +kernel
theorem dX11_retire_96 : decode cX11_retire 96 = .ok (.ifCond .eq 41, 3) := by decide +kernel
theorem dX11_retire_99 : decode cX11_retire 99 = .ok (.aload_n 0, 1) := by decide +kernel
theorem dX11_retire_100 : decode cX11_retire 100 = .ok (.getfield 59, 3) := by decide +kernel
theorem dX11_retire_103 : decode cX11_retire 103 = .ok (.aload_n 0, 1) := by decide +kernel
theorem dX11_retire_104 : decode cX11_retire 104 = .ok (.getfield 13, 3) := by decide +kernel
theorem dX11_retire_107 : decode cX11_retire 107 = .ok (.iload_n 2, 1) := by decide +kernel
theorem dX11_retire_108 : decode cX11_retire 108 = .ok (.iaload, 1) := by decide +kernel
theorem dX11_retire_109 : decode cX11_retire 109 = .ok (.aload_n 1, 1) := by decide +kernel
theorem dX11_retire_110 : decode cX11_retire 110 = .ok (.bipush 9, 2) := by decide +kernel
theorem dX11_retire_112 : decode cX11_retire 112 = .ok (.iaload, 1) := by decide +kernel
theorem dX11_retire_113 : decode cX11_retire 113 = .ok (.iastore, 1) := by decide +kernel
theorem dX11_retire_114 : decode cX11_retire 114 = .ok (.aload_n 0, 1) := by decide +kernel
theorem dX11_retire_115 : decode cX11_retire 115 = .ok (.getfield 69, 3) := by decide +kernel
theorem dX11_retire_118 : decode cX11_retire 118 = .ok (.aload_n 0, 1) := by decide +kernel
theorem dX11_retire_119 : decode cX11_retire 119 = .ok (.getfield 126, 3) := by decide +kernel
theorem dX11_retire_122 : decode cX11_retire 122 = .ok (.aload_n 1, 1) := by decide +kernel
theorem dX11_retire_123 : decode cX11_retire 123 = .ok (.bipush 10, 2) := by decide +kernel
theorem dX11_retire_125 : decode cX11_retire 125 = .ok (.iaload, 1) := by decide +kernel
theorem dX11_retire_126 : decode cX11_retire 126 = .ok (.iastore, 1) := by decide +kernel
theorem dX11_retire_127 : decode cX11_retire 127 = .ok (.aload_n 0, 1) := by decide +kernel
theorem dX11_retire_128 : decode cX11_retire 128 = .ok (.dup, 1) := by decide +kernel
theorem dX11_retire_129 : decode cX11_retire 129 = .ok (.getfield 126, 3) := by decide +kernel
theorem dX11_retire_132 : decode cX11_retire 132 = .ok (.iconst 1, 1) := by decide +kernel
theorem dX11_retire_133 : decode cX11_retire 133 = .ok (.iadd, 1) := by decide +kernel
theorem dX11_retire_134 : decode cX11_retire 134 = .ok (.putfield 126, 3) := by decide +kernel
theorem dX11_retire_137 : decode cX11_retire 137 = .ok (.iload_n 3, 1) := by decide +kernel
theorem dX11_retire_138 : decode cX11_retire 138 = .ok (.bipush 12, 2) := by decide +kernel
theorem dX11_retire_140 : decode cX11_retire 140 = .ok (.if_icmp .eq 9, 3) := by decide +kernel
theorem dX11_retire_143 : decode cX11_retire 143 = .ok (.iload_n 3, 1) := by decide +kernel
theorem dX11_retire_144 : decode cX11_retire 144 = .ok (.bipush 13, 2) := by decide +kernel
theorem dX11_retire_146 : decode cX11_retire 146 = .ok (.if_icmp .ne 104, 3) := by decide +kernel
theorem dX11_retire_149 : decode cX11_retire 149 = .ok (.aload_n 0, 1) := by decide +kernel
theorem dX11_retire_150 : decode cX11_retire 150 = .ok (.getfield 62, 3) := by decide +kernel
theorem dX11_retire_153 : decode cX11_retire 153 = .ok (.aload_n 1, 1) := by decide +kernel
theorem dX11_retire_154 : decode cX11_retire 154 = .ok (.bipush 7, 2) := by decide +kernel
theorem dX11_retire_156 : decode cX11_retire 156 = .ok (.iaload, 1) := by decide +kernel
theorem dX11_retire_157 : decode cX11_retire 157 = .ok (.iaload, 1) := by decide +kernel
theorem dX11_retire_158 : decode cX11_retire 158 = .ok (.istore 4, 2) := by decide +kernel
theorem dX11_retire_160 : decode cX11_retire 160 = .ok (.aload_n 0, 1) := by decide +kernel
theorem dX11_retire_161 : decode cX11_retire 161 = .ok (.getfield 62, 3) := by decide +kernel
theorem dX11_retire_164 : decode cX11_retire 164 = .ok (.aload_n 1, 1) := by decide +kernel
theorem dX11_retire_165 : decode cX11_retire 165 = .ok (.bipush 8, 2) := by decide +kernel
theorem dX11_retire_167 : decode cX11_retire 167 = .ok (.iaload, 1) := by decide +kernel
theorem dX11_retire_168 : decode cX11_retire 168 = .ok (.iaload, 1) := by decide +kernel
theorem dX11_retire_169 : decode cX11_retire 169 = .ok (.istore 5, 2) := by decide +kernel
theorem dX11_retire_171 : decode cX11_retire 171 = .ok (.iload_n 3, 1) := by decide +kernel
theorem dX11_retire_172 : decode cX11_retire 172 = .ok (.bipush 12, 2) := by decide +kernel
theorem dX11_retire_174 : decode cX11_retire 174 = .ok (.if_icmp .ne 18, 3) := by decide +kernel
theorem dX11_retire_177 : decode cX11_retire 177 = .ok (.iload 4, 2) := by decide +kernel
theorem dX11_retire_179 : decode cX11_retire 179 = .ok (.iload 5, 2) := by decide +kernel
theorem dX11_retire_181 : decode cX11_retire 181 = .ok (.if_icmp .ne 7, 3) := by decide +kernel
theorem dX11_retire_184 : decode cX11_retire 184 = .ok (.iconst 1, 1) := by decide +kernel
theorem dX11_retire_185 : decode cX11_retire 185 = .ok (.goto 19, 3) := by decide +kernel
theorem dX11_retire_188 : decode cX11_retire 188 = .ok (.iconst 0, 1) := by decide +kernel
theorem dX11_retire_189 : decode cX11_retire 189 = .ok (.goto 15, 3) := by decide +kernel
theorem dX11_retire_192 : decode cX11_retire 192 = .ok (.iload 4, 2) := by decide +kernel
theorem dX11_retire_194 : decode cX11_retire 194 = .ok (.iload 5, 2) := by decide +kernel
theorem dX11_retire_196 : decode cX11_retire 196 = .ok (.if_icmp .ge 7, 3) := by decide +kernel
theorem dX11_retire_199 : decode cX11_retire 199 = .ok (.iconst 1, 1) := by decide +kernel
theorem dX11_retire_200 : decode cX11_retire 200 = .ok (.goto 4, 3) := by decide +kernel
theorem dX11_retire_203 : decode cX11_retire 203 = .ok (.iconst 0, 1) := by decide +kernel
theorem dX11_retire_204 : decode cX11_retire 204 = .ok (.istore 6, 2) := by decide +kernel
theorem dX11_retire_206 : decode cX11_retire 206 = .ok (.aload_n 0, 1) := by decide +kernel
theorem dX11_retire_207 : decode cX11_retire 207 = .ok (.getfield 83, 3) := by decide +kernel
theorem dX11_retire_210 : decode cX11_retire 210 = .ok (.iload_n 2, 1) := by decide +kernel
theorem dX11_retire_211 : decode cX11_retire 211 = .ok (.bipush 16, 2) := by decide +kernel
theorem dX11_retire_213 : decode cX11_retire 213 = .ok (.irem, 1) := by decide +kernel
theorem dX11_retire_214 : decode cX11_retire 214 = .ok (.iaload, 1) := by decide +kernel
theorem dX11_retire_215 : decode cX11_retire 215 = .ok (.istore 7, 2) := by decide +kernel
theorem dX11_retire_217 : decode cX11_retire 217 = .ok (.aload_n 0, 1) := by decide +kernel
theorem dX11_retire_218 : decode cX11_retire 218 = .ok (.getfield 83, 3) := by decide +kernel
theorem dX11_retire_221 : decode cX11_retire 221 = .ok (.iload_n 2, 1) := by decide +kernel
theorem dX11_retire_222 : decode cX11_retire 222 = .ok (.bipush 16, 2) := by decide +kernel
theorem dX11_retire_224 : decode cX11_retire 224 = .ok (.irem, 1) := by decide +kernel
theorem dX11_retire_225 : decode cX11_retire 225 = .ok (.iload 6, 2) := by decide +kernel
theorem dX11_retire_227 : decode cX11_retire 227 = .ok (.ifCond .eq 14, 3) := by decide +kernel
theorem dX11_retire_230 : decode cX11_retire 230 = .ok (.iconst 3, 1) := by decide +kernel
theorem dX11_retire_231 : decode cX11_retire 231 = .ok (.iload 7, 2) := by decide +kernel
theorem dX11_retire_233 : decode cX11_retire 233 = .ok (.iconst 1, 1) := by decide +kernel
theorem dX11_retire_234 : decode cX11_retire 234 = .ok (.iadd, 1) := by decide +kernel
theorem dX11_retire_235 : decode cX11_retire 235 = .ok (.invokestatic 256, 3) := by decide +kernel
theorem dX11_retire_238 : decode cX11_retire 238 = .ok (.goto 11, 3) := by decide +kernel
theorem dX11_retire_241 : decode cX11_retire 241 = .ok (.iconst 0, 1) := by decide +kernel
theorem dX11_retire_242 : decode cX11_retire 242 = .ok (.iload 7, 2) := by decide +kernel
theorem dX11_retire_244 : decode cX11_retire 244 = .ok (.iconst 1, 1) := by decide +kernel
theorem dX11_retire_245 : decode cX11_retire 245 = .ok (.isub, 1) := by decide +kernel
theorem dX11_retire_246 : decode cX11_retire 246 = .ok (.invokestatic 307, 3) := by decide +kernel
theorem dX11_retire_249 : decode cX11_retire 249 = .ok (.iastore, 1) := by decide +kernel
theorem dX11_retire_250 : decode cX11_retire 250 = .ok (.iload_n 3, 1) := by decide +kernel
theorem dX11_retire_251 : decode cX11_retire 251 = .ok (.bipush 17, 2) := by decide +kernel
theorem dX11_retire_253 : decode cX11_retire 253 = .ok (.if_icmp .ne 16, 3) := by decide +kernel
theorem dX11_retire_256 : decode cX11_retire 256 = .ok (.aload_n 0, 1) := by decide +kernel
theorem dX11_retire_257 : decode cX11_retire 257 = .ok (.getfield 86, 3) := by decide +kernel
theorem dX11_retire_260 : decode cX11_retire 260 = .ok (.iload_n 2, 1) := by decide +kernel
theorem dX11_retire_261 : decode cX11_retire 261 = .ok (.bipush 8, 2) := by decide +kernel
theorem dX11_retire_263 : decode cX11_retire 263 = .ok (.irem, 1) := by decide +kernel
theorem dX11_retire_264 : decode cX11_retire 264 = .ok (.aload_n 1, 1) := by decide +kernel
theorem dX11_retire_265 : decode cX11_retire 265 = .ok (.bipush 6, 2) := by decide +kernel
theorem dX11_retire_267 : decode cX11_retire 267 = .ok (.iaload, 1) := by decide +kernel
theorem dX11_retire_268 : decode cX11_retire 268 = .ok (.iastore, 1) := by decide +kernel
theorem dX11_retire_269 : decode cX11_retire 269 = .ok (.iload_n 3, 1) := by decide +kernel
theorem dX11_retire_270 : decode cX11_retire 270 = .ok (.bipush 21, 2) := by decide +kernel
theorem dX11_retire_272 : decode cX11_retire 272 = .ok (.if_icmp .ne 24, 3) := by decide +kernel
theorem dX11_retire_275 : decode cX11_retire 275 = .ok (.aload_n 0, 1) := by decide +kernel
theorem dX11_retire_276 : decode cX11_retire 276 = .ok (.iconst 0, 1) := by decide +kernel
theorem dX11_retire_277 : decode cX11_retire 277 = .ok (.putfield 291, 3) := by decide +kernel
theorem dX11_retire_280 : decode cX11_retire 280 = .ok (.aload_n 0, 1) := by decide +kernel
theorem dX11_retire_281 : decode cX11_retire 281 = .ok (.aload_n 0, 1) := by decide +kernel
theorem dX11_retire_282 : decode cX11_retire 282 = .ok (.getfield 288, 3) := by decide +kernel
theorem dX11_retire_285 : decode cX11_retire 285 = .ok (.putfield 294, 3) := by decide +kernel
theorem dX11_retire_288 : decode cX11_retire 288 = .ok (.aload_n 0, 1) := by decide +kernel
theorem dX11_retire_289 : decode cX11_retire 289 = .ok (.aload_n 0, 1) := by decide +kernel
theorem dX11_retire_290 : decode cX11_retire 290 = .ok (.getfield 288, 3) := by decide +kernel
theorem dX11_retire_293 : decode cX11_retire 293 = .ok (.invokevirtual 274, 3) := by decide +kernel
theorem dX11_retire_296 : decode cX11_retire 296 = .ok (.aload_n 0, 1) := by decide +kernel
theorem dX11_retire_297 : decode cX11_retire 297 = .ok (.iload_n 3, 1) := by decide +kernel
theorem dX11_retire_298 : decode cX11_retire 298 = .ok (.bipush 18, 2) := by decide +kernel
theorem dX11_retire_300 : decode cX11_retire 300 = .ok (.if_icmp .ne 7, 3) := by decide +kernel
theorem dX11_retire_303 : decode cX11_retire 303 = .ok (.iconst 1, 1) := by decide +kernel
theorem dX11_retire_304 : decode cX11_retire 304 = .ok (.goto 4, 3) := by decide +kernel
theorem dX11_retire_307 : decode cX11_retire 307 = .ok (.iconst 0, 1) := by decide +kernel
theorem dX11_retire_308 : decode cX11_retire 308 = .ok (.putfield 147, 3) := by decide +kernel
theorem dX11_retire_311 : decode cX11_retire 311 = .ok (.return_, 1) := by decide +kernel
def mX11_ends : MD := (cX11_ends, RX11, yX11_ends, 7, none, 3, 65)
theorem mf_X11_ends : MF mX11_ends 1 := MF.of 1801 90 (by decide +kernel) (by decide +kernel) (by decide +kernel) (by decide +kernel) (by decide +kernel) rfl
def mX11_endings : MD := (cX11_endings, RX11, yX11_endings, 4, none, 4, 91)
theorem mf_X11_endings : MF mX11_endings 0 := MF.of 1797 90 (by decide +kernel) (by decide +kernel) (by decide +kernel) (by decide +kernel) (by decide +kernel) rfl
def mX11_isQueued : MD := (cX11_isQueued, RX11, yX11_isQueued, 1, (some .boolean), 1, 22)
theorem mf_X11_isQueued : MF mX11_isQueued 1 := MF.of 1850 90 (by decide +kernel) (by decide +kernel) (by decide +kernel) (by decide +kernel) (by decide +kernel) rfl
def mX11_tellsEnd : MD := (cX11_tellsEnd, RX11, yX11_tellsEnd, 4, none, 2, 42)
theorem mf_X11_tellsEnd : MF mX11_tellsEnd 3 := MF.of 1847 90 (by decide +kernel) (by decide +kernel) (by decide +kernel) (by decide +kernel) (by decide +kernel) rfl
def mX11_handles : MD := (cX11_handles, RX11, yX11_handles, 3, none, 3, 65)
theorem mf_X11_handles : MF mX11_handles 2 := MF.of 1854 90 (by decide +kernel) (by decide +kernel) (by decide +kernel) (by decide +kernel) (by decide +kernel) rfl
def mX11_reason : MD := (cX11_reason, RX11, yX11_reason, 1, (some .int), 0, 0)
theorem mf_X11_reason : MF mX11_reason 1 := MF.of 1861 90 (by decide +kernel) (by decide +kernel) (by decide +kernel) (by decide +kernel) (by decide +kernel) rfl
def mX11_loses : MD := (cX11_loses, RX11, yX11_loses, 2, none, 1, 20)
theorem mf_X11_loses : MF mX11_loses 1 := MF.of 1858 90 (by decide +kernel) (by decide +kernel) (by decide +kernel) (by decide +kernel) (by decide +kernel) rfl
def mX11_traps : MD := (cX11_traps, RX11, yX11_traps, 4, none, 4, 87)
theorem mf_X11_traps : MF mX11_traps 2 := MF.of 1865 90 (by decide +kernel) (by decide +kernel) (by decide +kernel) (by decide +kernel) (by decide +kernel) rfl
def mX11_leaves : MD := (cX11_leaves, RX11, yX11_leaves, 3, none, 0, 0)
theorem mf_X11_leaves : MF mX11_leaves 0 := MF.of 1869 90 (by decide +kernel) (by decide +kernel) (by decide +kernel) (by decide +kernel) (by decide +kernel) rfl
def mX11_retire : MD := (cX11_retire, RX11, yX11_retire, 8, none, 3, 65)
theorem mf_X11_retire : MF mX11_retire 1 := MF.of 1873 90 (by decide +kernel) (by decide +kernel) (by decide +kernel) (by decide +kernel) (by decide +kernel) rfl
theorem cs_X11_212 : CSs RX11 212 mX11_isQueued := CSs.of 1848 1849 (by decide +kernel) (by decide +kernel)
theorem cs_X11_225 : CSs RX11 225 mX11_isAddress := CSs.of 1816 1817 (by decide +kernel) (by decide +kernel)
theorem cs_X11_231 : CSs RX11 231 mX11_isStore := CSs.of 1813 1814 (by decide +kernel) (by decide +kernel)
theorem cs_X11_307 : CSs RX11 307 mJ9_max_7cf53 := CSs.of 1876 723 (by decide +kernel) (by decide +kernel)
theorem cs_X11_324 : CSs RX11 324 mX11_reason := CSs.of 1859 1860 (by decide +kernel) (by decide +kernel)
theorem cv_X11_262 : CVs RX11 262 mX11_result 12 := CVs.of 1809 1811 45 (by decide +kernel) (by decide +kernel) (by decide +kernel) _ rfl rfl
theorem cv_X11_265 : CVs RX11 265 mX11_wrongLoad 12 := CVs.of 1819 1821 46 (by decide +kernel) (by decide +kernel) (by decide +kernel) _ rfl rfl
theorem cv_X11_271 : CVs RX11 271 mX11_stackAs 12 := CVs.of 1823 1825 47 (by decide +kernel) (by decide +kernel) (by decide +kernel) _ rfl rfl
theorem cv_X11_274 : CVs RX11 274 mX11_goesOn 12 := CVs.of 1827 1829 48 (by decide +kernel) (by decide +kernel) (by decide +kernel) _ rfl rfl
theorem cv_X11_277 : CVs RX11 277 mX11_throwsFrom 12 := CVs.of 1831 1833 49 (by decide +kernel) (by decide +kernel) (by decide +kernel) _ rfl rfl
theorem cv_X11_280 : CVs RX11 280 mX11_finds 12 := CVs.of 1836 1838 50 (by decide +kernel) (by decide +kernel) (by decide +kernel) _ rfl rfl
theorem cv_X11_286 : CVs RX11 286 mX11_ends 12 := CVs.of 1798 1800 43 (by decide +kernel) (by decide +kernel) (by decide +kernel) _ rfl rfl
theorem cv_X11_297 : CVs RX11 297 mX11_tellsEnd 12 := CVs.of 1844 1846 52 (by decide +kernel) (by decide +kernel) (by decide +kernel) _ rfl rfl
theorem cv_X11_301 : CVs RX11 301 mX11_handles 12 := CVs.of 1851 1853 53 (by decide +kernel) (by decide +kernel) (by decide +kernel) _ rfl rfl
theorem fl_X11_147 : FL RX11 147 12 37 1 := FL.of _ rfl (by decide) 1584 (by decide +kernel) (by decide)
theorem fl_X11_150 : FL RX11 150 12 46 0 := FL.of _ rfl (by decide) 1593 (by decide +kernel) (by decide)
theorem fl_X11_268 : FL RX11 268 12 49 0 := FL.of _ rfl (by decide) 1596 (by decide +kernel) (by decide)
theorem fl_X11_283 : FL RX11 283 12 48 0 := FL.of _ rfl (by decide) 1595 (by decide +kernel) (by decide)
theorem fl_X11_288 : FL RX11 288 12 40 0 := FL.of _ rfl (by decide) 1587 (by decide +kernel) (by decide)
theorem fl_X11_291 : FL RX11 291 12 39 1 := FL.of _ rfl (by decide) 1586 (by decide +kernel) (by decide)
theorem fl_X11_294 : FL RX11 294 12 41 0 := FL.of _ rfl (by decide) 1588 (by decide +kernel) (by decide)
theorem fn_12_37 : FN 12 37 false := fun q h => by cases h; rfl
theorem fn_12_39 : FN 12 39 false := fun q h => by cases h; rfl
theorem fn_12_40 : FN 12 40 false := fun q h => by cases h; rfl
theorem fn_12_41 : FN 12 41 false := fun q h => by cases h; rfl
theorem fn_12_46 : FN 12 46 false := fun q h => by cases h; rfl
theorem fn_12_48 : FN 12 48 false := fun q h => by cases h; rfl
theorem fn_12_49 : FN 12 49 false := fun q h => by cases h; rfl
theorem iv_bipush_23 : (Int8.ofInt (23)).toInt32 = 23 := by decide
theorem lc_X11_305 : Cond.constant RX11 305 (-65536) ∈ lw_tbl := List.mem_of_getElem? (i := 1874) (by decide +kernel)
theorem lc_X11_306 : Cond.constant RX11 306 65535 ∈ lw_tbl := List.mem_of_getElem? (i := 1875) (by decide +kernel)
def f_X11_ends_b48 (a0 : Nat) (a2 : Nat) (s0 : Int32) (s1 : Int32) (s2 : Nat) (μ : Mm) : Option (Unit × Mm) :=
  ck (isA 1 (mK μ s2)) <|
  ck (inb s1 (mL μ s2)) <|
  zl (sI μ s2 (Int32.toNatClampNeg s1) s0) fun μ120 =>
  ck (mK μ120 a0 = 112) <|
  bd (f_X11_result a0 a2 μ120) fun y124 =>
  ck (isA 1 (mK μ120 a2)) <|
  ck (inb 15 (mL μ120 a2)) <|
  zl (sI μ120 a2 (Int32.toNatClampNeg 15) y124) fun μ128 =>
  ck (inb 11 (mL μ128 a2)) <|
  zl (sI μ128 a2 (Int32.toNatClampNeg 11) 98) fun μ132 =>
  some ((), μ132)
def f_X11_ends_b44 (a0 : Nat) (a2 : Nat) (s0 : Int32) (s1 : Nat) (μ : Mm) : Option (Unit × Mm) :=
  ck (isA 1 (mK μ a2)) <|
  ck (inb 13 (mL μ a2)) <|
  f_X11_ends_b48 a0 a2 (mI μ a2 (Int32.toNatClampNeg 13)) s0 s1 μ
def f_X11_ends_b121 (a0 : Nat) (x1 : Int32) (a2 : Nat) (x4 : Int32) (s0 : Int32) (s1 : Int32) (s2 : Nat) (μ : Mm) : Option (Unit × Mm) :=
  ck (isA 1 (mK μ s2)) <|
  ck (inb s1 (mL μ s2)) <|
  zl (sI μ s2 (Int32.toNatClampNeg s1) s0) fun μ74 =>
  ck (isA 1 (mK μ74 a2)) <|
  ck (inb 14 (mL μ74 a2)) <|
  zl (sI μ74 a2 (Int32.toNatClampNeg 14) x4) fun μ79 =>
  ck (mK μ79 a0 = 112) <|
  bd (f_X11_wrongLoad a0 x1 μ79) fun y83 =>
  if y83 = ((-1)) then
    some ((), μ79)
  else
    bd (mR μ79 a0 22) fun p86 =>
    ck (isA56 (mK μ79 p86)) <|
    ck (inb y83 (mL μ79 p86)) <|
    bd (mR μ79 p86 (Int32.toNatClampNeg y83)) fun p90 =>
    zl (sI μ79 a0 49 ((mI μ79 a0 49) + 1)) fun μ92 =>
    bd (mR μ92 a0 31) fun p95 =>
    ck (isA 1 (mK μ92 p90)) <|
    ck (inb 0 (mL μ92 p90)) <|
    ck (¬ (16 : Int32) = 0) <|
    ck (isA 2 (mK μ92 p95)) <|
    ck (inb ((mI μ92 p90 (Int32.toNatClampNeg 0)) - (mI μ92 p90 (Int32.toNatClampNeg 0)) / 16 * 16) (mL μ92 p95)) <|
    zl (sI μ92 p95 (Int32.toNatClampNeg ((mI μ92 p90 (Int32.toNatClampNeg 0)) - (mI μ92 p90 (Int32.toNatClampNeg 0)) / 16 * 16)) 1) fun μ102 =>
    cl (f_X11_stackAs a0 p90 18 μ102) fun _ μ107 =>
    ck (isA 1 (mK μ107 p90)) <|
    ck (inb 0 (mL μ107 p90)) <|
    ck (mK μ107 a0 = 112) <|
    cl (f_X11_goesOn a0 (mI μ107 p90 (Int32.toNatClampNeg 0)) μ107) fun _ μ113 =>
    ck (mK μ113 a0 = 112) <|
    cl (f_X11_throwsFrom a0 y83 μ113) fun _ μ117 =>
    some ((), μ117)
def f_X11_ends (a0 : Nat) (x1 : Int32) (μ : Mm) : Option (Unit × Mm) :=
  ck (mK μ a0 = 112) <|
  bd (mR μ a0 22) fun p2 =>
  ck (isA56 (mK μ p2)) <|
  ck (inb x1 (mL μ p2)) <|
  bd (mR μ p2 (Int32.toNatClampNeg x1)) fun p6 =>
  bd (f_X11_codeOf a0 p6 μ) fun y8 =>
  bd (f_X11_hasD y8) fun y10 =>
  if y10 = 0 then
    ck (isA 1 (mK μ p6)) <|
    ck (inb 11 (mL μ p6)) <|
    zl (sI μ p6 (Int32.toNatClampNeg 11) 101) fun μ15 =>
    ck (inb 4 (mL μ15 p6)) <|
    zl (sI μ15 p6 (Int32.toNatClampNeg 4) (mI μ15 a0 36)) fun μ19 =>
    bd (f_X11_isStore y8) fun y22 =>
    if y22 = 0 then
      cl (f_X11_finds a0 p6 y8 μ19) fun _ μ27 =>
      ck (isA 1 (mK μ27 p6)) <|
      ck (inb 13 (mL μ27 p6)) <|
      if ¬ (mI μ27 p6 (Int32.toNatClampNeg 13)) = 0 then
        some ((), μ27)
      else
        ck (inb 6 (mL μ27 p6)) <|
        ck (inb 5 (mL μ27 p6)) <|
        if (mI μ27 p6 (Int32.toNatClampNeg 6)) = (mI μ27 p6 (Int32.toNatClampNeg 5)) then
          some ((), μ27)
        else
          ck (mK μ27 a0 = 112) <|
          zl (sI μ27 a0 48 ((mI μ27 a0 48) + 1)) fun μ35 =>
          cl (f_X11_stackAs a0 p6 23 μ35) fun _ μ40 =>
          ck (isA 1 (mK μ40 p6)) <|
          ck (inb 6 (mL μ40 p6)) <|
          ck (mK μ40 a0 = 112) <|
          cl (f_X11_goesOn a0 (mI μ40 p6 (Int32.toNatClampNeg 6)) μ40) fun _ μ46 =>
          ck (mK μ46 a0 = 112) <|
          cl (f_X11_throwsFrom a0 (x1 + 1) μ46) fun _ μ50 =>
          some ((), μ50)
    else
      bd (mR μ19 a0 18) fun p51 =>
      ck (inb 7 (mL μ19 p6)) <|
      ck (isA 1 (mK μ19 p51)) <|
      ck (inb (mI μ19 p6 (Int32.toNatClampNeg 7)) (mL μ19 p51)) <|
      bd (mR μ19 a0 4) fun p56 =>
      ck (inb 0 (mL μ19 p6)) <|
      ck (isA 1 (mK μ19 p56)) <|
      ck (inb (mI μ19 p6 (Int32.toNatClampNeg 0)) (mL μ19 p56)) <|
      bd (f_X11_isAddress ((mI μ19 p51 (Int32.toNatClampNeg (mI μ19 p6 (Int32.toNatClampNeg 7)))) + (mI μ19 p56 (Int32.toNatClampNeg (mI μ19 p6 (Int32.toNatClampNeg 0)))))) fun y61 =>
      if y61 = 0 then
        f_X11_ends_b121 a0 x1 p6 ((mI μ19 p51 (Int32.toNatClampNeg (mI μ19 p6 (Int32.toNatClampNeg 7)))) + (mI μ19 p56 (Int32.toNatClampNeg (mI μ19 p6 (Int32.toNatClampNeg 0))))) 2 13 p6 μ19
      else
        f_X11_ends_b121 a0 x1 p6 ((mI μ19 p51 (Int32.toNatClampNeg (mI μ19 p6 (Int32.toNatClampNeg 7)))) + (mI μ19 p56 (Int32.toNatClampNeg (mI μ19 p6 (Int32.toNatClampNeg 0))))) 0 13 p6 μ19
  else
    if ¬ y8 = 5 then
      f_X11_ends_b44 a0 p6 13 p6 μ
    else
      bd (mR μ a0 18) fun p65 =>
      ck (isA 1 (mK μ p6)) <|
      ck (inb 8 (mL μ p6)) <|
      ck (isA 1 (mK μ p65)) <|
      ck (inb (mI μ p6 (Int32.toNatClampNeg 8)) (mL μ p65)) <|
      if ¬ (mI μ p65 (Int32.toNatClampNeg (mI μ p6 (Int32.toNatClampNeg 8)))) = 0 then
        f_X11_ends_b44 a0 p6 13 p6 μ
      else
        f_X11_ends_b48 a0 p6 1 13 p6 μ
set_option maxRecDepth 100000 in
theorem s_X11_ends_b48 {l : Launch} {G : Gt} (hG : Gok l G) (a0 : Nat) (a2 : Nat) (s0 : Int32) (s1 : Int32) (s2 : Nat) (μ : Mm) (r : Unit) (μ' : Mm) (h : f_X11_ends_b48 a0 a2 s0 s1 s2 μ = some (r, μ')) : ZX l G mX11_ends 48 [(0, .ref a0), (2, .ref a2)] [.int s0, .int s1, .ref s2] μ (.inl none) μ' := by
  unfold f_X11_ends_b48 at h
  obtain ⟨h118, h⟩ := ck_e h
  obtain ⟨h119, h⟩ := ck_e h
  refine zx_iast hG rfl (h118).1 (h118).2 (inb_e h119) dX11_ends_48 ?_
  obtain ⟨μ120, e122, h⟩ := zlm_e h
  refine zx_mem e122 ?_
  have e121 : mK μ120 = mK μ := (congrArg mK e122).trans rfl
  refine zx_aload_n dX11_ends_49 rfl (q := 1) rfl ?_
  refine zx_bipush (v := 15) dX11_ends_50 iv_bipush_15 ?_
  refine zx_aload_n dX11_ends_52 rfl (q := 0) rfl ?_
  refine zx_aload_n dX11_ends_53 rfl (q := 1) rfl ?_
  obtain ⟨h123, h⟩ := ck_e h
  obtain ⟨y124, z125, h⟩ := bd_e h
  refine zx_callV (As := [.ref a2]) hG mf_X11_result cv_X11_262 h123 ⟨by decide, by decide⟩ rfl rfl (Nat.le_of_ble_eq_true rfl) (s_X11_result hG _ _ _ _ z125) (Nat.le_of_ble_eq_true rfl) dX11_ends_54 ?_
  obtain ⟨h126, h⟩ := ck_e h
  obtain ⟨h127, h⟩ := ck_e h
  refine zx_iast hG rfl (h126).1 (h126).2 (inb_e h127) dX11_ends_57 ?_
  obtain ⟨μ128, e130, h⟩ := zlm_e h
  refine zx_mem e130 ?_
  have e129 : mK μ128 = mK μ120 := (congrArg mK e130).trans rfl
  refine zx_aload_n dX11_ends_58 rfl (q := 1) rfl ?_
  refine zx_bipush (v := 11) dX11_ends_59 iv_bipush_11 ?_
  refine zx_bipush (v := 98) dX11_ends_61 iv_bipush_98 ?_
  obtain ⟨h131, h⟩ := ck_e h
  refine zx_iast hG rfl ((kp_a (e129) h126)).1 ((kp_a (e129) h126)).2 (inb_e h131) dX11_ends_63 ?_
  obtain ⟨μ132, e134, h⟩ := zlm_e h
  refine zx_mem e134 ?_
  have e133 : mK μ132 = mK μ128 := (congrArg mK e134).trans rfl
  cases h
  exact zx_vret dX11_ends_64 rfl
set_option maxRecDepth 100000 in
theorem s_X11_ends_b44 {l : Launch} {G : Gt} (hG : Gok l G) (a0 : Nat) (a2 : Nat) (s0 : Int32) (s1 : Nat) (μ : Mm) (r : Unit) (μ' : Mm) (h : f_X11_ends_b44 a0 a2 s0 s1 μ = some (r, μ')) : ZX l G mX11_ends 44 [(0, .ref a0), (2, .ref a2)] [.int s0, .ref s1] μ (.inl none) μ' := by
  unfold f_X11_ends_b44 at h
  refine zx_aload_n dX11_ends_44 rfl (q := 1) rfl ?_
  refine zx_bipush (v := 13) dX11_ends_45 iv_bipush_13 ?_
  obtain ⟨h135, h⟩ := ck_e h
  obtain ⟨h136, h⟩ := ck_e h
  refine zx_iald hG rfl (h135).1 (h135).2 (inb_e h136) dX11_ends_47 ?_
  exact s_X11_ends_b48 hG _ _ _ _ _ _ _ _ h
set_option maxRecDepth 100000 in
theorem s_X11_ends_b121 {l : Launch} {G : Gt} (hG : Gok l G) (a0 : Nat) (x1 : Int32) (a2 : Nat) (x4 : Int32) (s0 : Int32) (s1 : Int32) (s2 : Nat) (μ : Mm) (r : Unit) (μ' : Mm) (h : f_X11_ends_b121 a0 x1 a2 x4 s0 s1 s2 μ = some (r, μ')) : ZX l G mX11_ends 121 [(0, .ref a0), (1, .int x1), (2, .ref a2), (4, .int x4)] [.int s0, .int s1, .ref s2] μ (.inl none) μ' := by
  unfold f_X11_ends_b121 at h
  obtain ⟨h72, h⟩ := ck_e h
  obtain ⟨h73, h⟩ := ck_e h
  refine zx_iast hG rfl (h72).1 (h72).2 (inb_e h73) dX11_ends_121 ?_
  obtain ⟨μ74, e76, h⟩ := zlm_e h
  refine zx_mem e76 ?_
  have e75 : mK μ74 = mK μ := (congrArg mK e76).trans rfl
  refine zx_aload_n dX11_ends_122 rfl (q := 2) rfl ?_
  refine zx_bipush (v := 14) dX11_ends_123 iv_bipush_14 ?_
  refine zx_iload dX11_ends_125 (q := 3) rfl ?_
  obtain ⟨h77, h⟩ := ck_e h
  obtain ⟨h78, h⟩ := ck_e h
  refine zx_iast hG rfl (h77).1 (h77).2 (inb_e h78) dX11_ends_127 ?_
  obtain ⟨μ79, e81, h⟩ := zlm_e h
  refine zx_mem e81 ?_
  have e80 : mK μ79 = mK μ74 := (congrArg mK e81).trans rfl
  refine zx_aload_n dX11_ends_128 rfl (q := 0) rfl ?_
  refine zx_iload_n dX11_ends_129 rfl (q := 1) rfl ?_
  obtain ⟨h82, h⟩ := ck_e h
  obtain ⟨y83, z84, h⟩ := bd_e h
  refine zx_callV (As := [.int x1]) hG mf_X11_wrongLoad cv_X11_265 h82 ⟨by decide, by decide⟩ rfl rfl (Nat.le_of_ble_eq_true rfl) (s_X11_wrongLoad hG _ _ _ _ z84) (Nat.le_of_ble_eq_true rfl) dX11_ends_130 ?_
  refine zx_istore (L' := [(5, .int y83), (0, .ref a0), (1, .int x1), (2, .ref a2), (4, .int x4)]) dX11_ends_133 (by decide) rfl ?_
  refine zx_iload dX11_ends_135 (q := 0) rfl ?_
  refine zx_iconst (v := (-1)) dX11_ends_137 iv_iconst_m1 ?_
  by_cases c85 : y83 = ((-1))
  · have h := it_t c85 h
    refine zx_icmp_eq_t (tgt := 195) dX11_ends_138 (by decide) c85 ?_
    cases h
    exact zx_vret dX11_ends_195 rfl
  · have h := it_f c85 h
    refine zx_icmp_eq_f (tgt := 195) dX11_ends_138 (by decide) c85 ?_
    refine zx_aload_n dX11_ends_141 rfl (q := 1) rfl ?_
    obtain ⟨p86, h87, h⟩ := bd_e h
    refine zx_getR hG fl_X11_74 h82 h87 dX11_ends_142 ?_
    refine zx_iload dX11_ends_145 (q := 0) rfl ?_
    obtain ⟨h88, h⟩ := ck_e h
    obtain ⟨h89, h⟩ := ck_e h
    obtain ⟨p90, h91, h⟩ := bd_e h
    refine zx_aald hG rfl (h88).1 (h88).2 (inb_e h89) h91 dX11_ends_147 ?_
    refine zx_astore (L' := [(6, .ref p90), (5, .int y83), (0, .ref a0), (1, .int x1), (2, .ref a2), (4, .int x4)]) dX11_ends_148 (by decide) rfl ?_
    refine zx_aload_n dX11_ends_150 rfl (q := 2) rfl ?_
    refine zx_dup dX11_ends_151 rfl ?_
    refine zx_getI hG fl_X11_268 h82 dX11_ends_152 ?_
    refine zx_iconst (v := 1) dX11_ends_155 iv_iconst_1 ?_
    refine zx_iadd dX11_ends_156 ?_
    refine zx_putI hG fl_X11_268 fn_12_49 h82 dX11_ends_157 ?_
    obtain ⟨μ92, e94, h⟩ := zlm_e h
    refine zx_mem e94 ?_
    have e93 : mK μ92 = mK μ79 := (congrArg mK e94).trans rfl
    refine zx_aload_n dX11_ends_160 rfl (q := 2) rfl ?_
    obtain ⟨p95, h96, h⟩ := bd_e h
    refine zx_getR hG fl_X11_89 (kp_o (e93) h82) h96 dX11_ends_161 ?_
    refine zx_aload dX11_ends_164 (q := 0) rfl ?_
    refine zx_iconst (v := 0) dX11_ends_166 iv_iconst_0 ?_
    obtain ⟨h97, h⟩ := ck_e h
    obtain ⟨h98, h⟩ := ck_e h
    refine zx_iald hG rfl (h97).1 (h97).2 (inb_e h98) dX11_ends_167 ?_
    refine zx_bipush (v := 16) dX11_ends_168 iv_bipush_16 ?_
    obtain ⟨h99, h⟩ := ck_e h
    refine zx_irem dX11_ends_170 h99 ?_
    refine zx_iconst (v := 1) dX11_ends_171 iv_iconst_1 ?_
    obtain ⟨h100, h⟩ := ck_e h
    obtain ⟨h101, h⟩ := ck_e h
    refine zx_zast hG rfl (h100).1 (h100).2 (inb_e h101) dX11_ends_172 ?_
    obtain ⟨μ102, e104, h⟩ := zlm_e h
    refine zx_mem e104 ?_
    have e103 : mK μ102 = mK μ92 := (congrArg mK e104).trans rfl
    refine zx_aload_n dX11_ends_173 rfl (q := 2) rfl ?_
    refine zx_aload dX11_ends_174 (q := 0) rfl ?_
    refine zx_bipush (v := 18) dX11_ends_176 iv_bipush_18 ?_
    obtain ⟨uu105, μ107, z106, h⟩ := cl_e h
    refine zx_callV (As := [.ref p90, .int 18]) hG mf_X11_stackAs cv_X11_271 (kp_o (Eq.trans e103 e93) h82) ⟨by decide, by decide⟩ rfl rfl (Nat.le_of_ble_eq_true rfl) (s_X11_stackAs hG _ _ _ _ _ _ z106) (Nat.le_of_ble_eq_true rfl) dX11_ends_178 ?_
    refine zx_aload_n dX11_ends_181 rfl (q := 2) rfl ?_
    refine zx_aload dX11_ends_182 (q := 0) rfl ?_
    refine zx_iconst (v := 0) dX11_ends_184 iv_iconst_0 ?_
    obtain ⟨h108, h⟩ := ck_e h
    obtain ⟨h109, h⟩ := ck_e h
    refine zx_iald hG rfl (h108).1 (h108).2 (inb_e h109) dX11_ends_185 ?_
    obtain ⟨h110, h⟩ := ck_e h
    obtain ⟨uu111, μ113, z112, h⟩ := cl_e h
    refine zx_callV (As := [.int (mI μ107 p90 (Int32.toNatClampNeg 0))]) hG mf_X11_goesOn cv_X11_274 h110 ⟨by decide, by decide⟩ rfl rfl (Nat.le_of_ble_eq_true rfl) (s_X11_goesOn hG _ _ _ _ _ z112) (Nat.le_of_ble_eq_true rfl) dX11_ends_186 ?_
    refine zx_aload_n dX11_ends_189 rfl (q := 2) rfl ?_
    refine zx_iload dX11_ends_190 (q := 1) rfl ?_
    obtain ⟨h114, h⟩ := ck_e h
    obtain ⟨uu115, μ117, z116, h⟩ := cl_e h
    refine zx_callV (As := [.int y83]) hG mf_X11_throwsFrom cv_X11_277 h114 ⟨by decide, by decide⟩ rfl rfl (Nat.le_of_ble_eq_true rfl) (s_X11_throwsFrom hG _ _ _ _ _ z116) (Nat.le_of_ble_eq_true rfl) dX11_ends_192 ?_
    cases h
    exact zx_vret dX11_ends_195 rfl
set_option maxRecDepth 100000 in
theorem s_X11_ends {l : Launch} {G : Gt} (hG : Gok l G) (a0 : Nat) (x1 : Int32) (μ : Mm) (r : Unit) (μ' : Mm) (h : f_X11_ends a0 x1 μ = some (r, μ')) : ZX l G mX11_ends 0 [(0, .ref a0), (1, .int x1)] [] μ (.inl none) μ' := by
  unfold f_X11_ends at h
  refine zx_aload_n dX11_ends_0 rfl (q := 0) rfl ?_
  obtain ⟨h1, h⟩ := ck_e h
  obtain ⟨p2, h3, h⟩ := bd_e h
  refine zx_getR hG fl_X11_74 h1 h3 dX11_ends_1 ?_
  refine zx_iload_n dX11_ends_4 rfl (q := 1) rfl ?_
  obtain ⟨h4, h⟩ := ck_e h
  obtain ⟨h5, h⟩ := ck_e h
  obtain ⟨p6, h7, h⟩ := bd_e h
  refine zx_aald hG rfl (h4).1 (h4).2 (inb_e h5) h7 dX11_ends_5 ?_
  refine zx_astore_n (L' := [(2, .ref p6), (0, .ref a0), (1, .int x1)]) dX11_ends_6 rfl (by decide) rfl ?_
  refine zx_aload_n dX11_ends_7 rfl (q := 1) rfl ?_
  refine zx_aload_n dX11_ends_8 rfl (q := 0) rfl ?_
  obtain ⟨y8, z9, h⟩ := bd_e h
  refine zx_callV (As := [.ref p6]) hG mf_X11_codeOf cv_X11_201 h1 ⟨by decide, by decide⟩ rfl rfl (Nat.le_of_ble_eq_true rfl) (s_X11_codeOf hG _ _ _ _ z9) (Nat.le_of_ble_eq_true rfl) dX11_ends_9 ?_
  refine zx_istore_n (L' := [(3, .int y8), (2, .ref p6), (0, .ref a0), (1, .int x1)]) dX11_ends_12 rfl (by decide) rfl ?_
  refine zx_iload_n dX11_ends_13 rfl (q := 0) rfl ?_
  obtain ⟨y10, z11, h⟩ := bd_e h
  refine zx_callS (As := [.int y8]) hG mf_X11_hasD cs_X11_209 ⟨by decide, by decide⟩ rfl rfl (Nat.le_of_ble_eq_true rfl) (s_X11_hasD hG _ _ _ z11) (Nat.le_of_ble_eq_true rfl) dX11_ends_14 ?_
  by_cases c12 : y10 = 0
  · have h := it_t c12 h
    refine zx_if_eq_t (tgt := 65) dX11_ends_17 (by decide) c12 ?_
    refine zx_aload_n dX11_ends_65 rfl (q := 1) rfl ?_
    refine zx_bipush (v := 11) dX11_ends_66 iv_bipush_11 ?_
    refine zx_bipush (v := 101) dX11_ends_68 iv_bipush_101 ?_
    obtain ⟨h13, h⟩ := ck_e h
    obtain ⟨h14, h⟩ := ck_e h
    refine zx_iast hG rfl (h13).1 (h13).2 (inb_e h14) dX11_ends_70 ?_
    obtain ⟨μ15, e17, h⟩ := zlm_e h
    refine zx_mem e17 ?_
    have e16 : mK μ15 = mK μ := (congrArg mK e17).trans rfl
    refine zx_aload_n dX11_ends_71 rfl (q := 1) rfl ?_
    refine zx_iconst (v := 4) dX11_ends_72 iv_iconst_4 ?_
    refine zx_aload_n dX11_ends_73 rfl (q := 2) rfl ?_
    refine zx_getI hG fl_X11_133 (kp_o (e16) h1) dX11_ends_74 ?_
    obtain ⟨h18, h⟩ := ck_e h
    refine zx_iast hG rfl ((kp_a (e16) h13)).1 ((kp_a (e16) h13)).2 (inb_e h18) dX11_ends_77 ?_
    obtain ⟨μ19, e21, h⟩ := zlm_e h
    refine zx_mem e21 ?_
    have e20 : mK μ19 = mK μ15 := (congrArg mK e21).trans rfl
    refine zx_iload_n dX11_ends_78 rfl (q := 0) rfl ?_
    obtain ⟨y22, z23, h⟩ := bd_e h
    refine zx_callS (As := [.int y8]) hG mf_X11_isStore cs_X11_231 ⟨by decide, by decide⟩ rfl rfl (Nat.le_of_ble_eq_true rfl) (s_X11_isStore hG _ _ _ z23) (Nat.le_of_ble_eq_true rfl) dX11_ends_79 ?_
    by_cases c24 : y22 = 0
    · have h := it_t c24 h
      refine zx_if_eq_t (tgt := 196) dX11_ends_82 (by decide) c24 ?_
      refine zx_aload_n dX11_ends_196 rfl (q := 2) rfl ?_
      refine zx_aload_n dX11_ends_197 rfl (q := 1) rfl ?_
      refine zx_iload_n dX11_ends_198 rfl (q := 0) rfl ?_
      obtain ⟨uu25, μ27, z26, h⟩ := cl_e h
      refine zx_callV (As := [.ref p6, .int y8]) hG mf_X11_finds cv_X11_280 (kp_o (Eq.trans e20 e16) h1) ⟨by decide, by decide⟩ rfl rfl (Nat.le_of_ble_eq_true rfl) (s_X11_finds hG _ _ _ _ _ _ z26) (Nat.le_of_ble_eq_true rfl) dX11_ends_199 ?_
      refine zx_aload_n dX11_ends_202 rfl (q := 1) rfl ?_
      refine zx_bipush (v := 13) dX11_ends_203 iv_bipush_13 ?_
      obtain ⟨h28, h⟩ := ck_e h
      obtain ⟨h29, h⟩ := ck_e h
      refine zx_iald hG rfl (h28).1 (h28).2 (inb_e h29) dX11_ends_205 ?_
      by_cases c30 : ¬ (mI μ27 p6 (Int32.toNatClampNeg 13)) = 0
      · have h := it_t c30 h
        refine zx_if_ne_t (tgt := 251) dX11_ends_206 (by decide) c30 ?_
        cases h
        exact zx_vret dX11_ends_251 rfl
      · have h := it_f c30 h
        refine zx_if_ne_f (tgt := 251) dX11_ends_206 (by decide) (Classical.not_not.mp c30) ?_
        refine zx_aload_n dX11_ends_209 rfl (q := 1) rfl ?_
        refine zx_bipush (v := 6) dX11_ends_210 iv_bipush_6 ?_
        obtain ⟨h31, h⟩ := ck_e h
        refine zx_iald hG rfl (h28).1 (h28).2 (inb_e h31) dX11_ends_212 ?_
        refine zx_aload_n dX11_ends_213 rfl (q := 1) rfl ?_
        refine zx_iconst (v := 5) dX11_ends_214 iv_iconst_5 ?_
        obtain ⟨h32, h⟩ := ck_e h
        refine zx_iald hG rfl (h28).1 (h28).2 (inb_e h32) dX11_ends_215 ?_
        by_cases c33 : (mI μ27 p6 (Int32.toNatClampNeg 6)) = (mI μ27 p6 (Int32.toNatClampNeg 5))
        · have h := it_t c33 h
          refine zx_icmp_eq_t (tgt := 251) dX11_ends_216 (by decide) c33 ?_
          cases h
          exact zx_vret dX11_ends_251 rfl
        · have h := it_f c33 h
          refine zx_icmp_eq_f (tgt := 251) dX11_ends_216 (by decide) c33 ?_
          refine zx_aload_n dX11_ends_219 rfl (q := 2) rfl ?_
          refine zx_dup dX11_ends_220 rfl ?_
          obtain ⟨h34, h⟩ := ck_e h
          refine zx_getI hG fl_X11_283 h34 dX11_ends_221 ?_
          refine zx_iconst (v := 1) dX11_ends_224 iv_iconst_1 ?_
          refine zx_iadd dX11_ends_225 ?_
          refine zx_putI hG fl_X11_283 fn_12_48 h34 dX11_ends_226 ?_
          obtain ⟨μ35, e37, h⟩ := zlm_e h
          refine zx_mem e37 ?_
          have e36 : mK μ35 = mK μ27 := (congrArg mK e37).trans rfl
          refine zx_aload_n dX11_ends_229 rfl (q := 2) rfl ?_
          refine zx_aload_n dX11_ends_230 rfl (q := 1) rfl ?_
          refine zx_bipush (v := 23) dX11_ends_231 iv_bipush_23 ?_
          obtain ⟨uu38, μ40, z39, h⟩ := cl_e h
          refine zx_callV (As := [.ref p6, .int 23]) hG mf_X11_stackAs cv_X11_271 (kp_o (e36) h34) ⟨by decide, by decide⟩ rfl rfl (Nat.le_of_ble_eq_true rfl) (s_X11_stackAs hG _ _ _ _ _ _ z39) (Nat.le_of_ble_eq_true rfl) dX11_ends_233 ?_
          refine zx_aload_n dX11_ends_236 rfl (q := 2) rfl ?_
          refine zx_aload_n dX11_ends_237 rfl (q := 1) rfl ?_
          refine zx_bipush (v := 6) dX11_ends_238 iv_bipush_6 ?_
          obtain ⟨h41, h⟩ := ck_e h
          obtain ⟨h42, h⟩ := ck_e h
          refine zx_iald hG rfl (h41).1 (h41).2 (inb_e h42) dX11_ends_240 ?_
          obtain ⟨h43, h⟩ := ck_e h
          obtain ⟨uu44, μ46, z45, h⟩ := cl_e h
          refine zx_callV (As := [.int (mI μ40 p6 (Int32.toNatClampNeg 6))]) hG mf_X11_goesOn cv_X11_274 h43 ⟨by decide, by decide⟩ rfl rfl (Nat.le_of_ble_eq_true rfl) (s_X11_goesOn hG _ _ _ _ _ z45) (Nat.le_of_ble_eq_true rfl) dX11_ends_241 ?_
          refine zx_aload_n dX11_ends_244 rfl (q := 2) rfl ?_
          refine zx_iload_n dX11_ends_245 rfl (q := 3) rfl ?_
          refine zx_iconst (v := 1) dX11_ends_246 iv_iconst_1 ?_
          refine zx_iadd dX11_ends_247 ?_
          obtain ⟨h47, h⟩ := ck_e h
          obtain ⟨uu48, μ50, z49, h⟩ := cl_e h
          refine zx_callV (As := [.int (x1 + 1)]) hG mf_X11_throwsFrom cv_X11_277 h47 ⟨by decide, by decide⟩ rfl rfl (Nat.le_of_ble_eq_true rfl) (s_X11_throwsFrom hG _ _ _ _ _ z49) (Nat.le_of_ble_eq_true rfl) dX11_ends_248 ?_
          cases h
          exact zx_vret dX11_ends_251 rfl
    · have h := it_f c24 h
      refine zx_if_eq_f (tgt := 196) dX11_ends_82 (by decide) c24 ?_
      refine zx_aload_n dX11_ends_85 rfl (q := 2) rfl ?_
      obtain ⟨p51, h52, h⟩ := bd_e h
      refine zx_getR hG fl_X11_62 (kp_o (Eq.trans e20 e16) h1) h52 dX11_ends_86 ?_
      refine zx_aload_n dX11_ends_89 rfl (q := 1) rfl ?_
      refine zx_bipush (v := 7) dX11_ends_90 iv_bipush_7 ?_
      obtain ⟨h53, h⟩ := ck_e h
      refine zx_iald hG rfl ((kp_a (Eq.trans e20 e16) h13)).1 ((kp_a (Eq.trans e20 e16) h13)).2 (inb_e h53) dX11_ends_92 ?_
      obtain ⟨h54, h⟩ := ck_e h
      obtain ⟨h55, h⟩ := ck_e h
      refine zx_iald hG rfl (h54).1 (h54).2 (inb_e h55) dX11_ends_93 ?_
      refine zx_aload_n dX11_ends_94 rfl (q := 2) rfl ?_
      obtain ⟨p56, h57, h⟩ := bd_e h
      refine zx_getR hG fl_X11_22 (kp_o (Eq.trans e20 e16) h1) h57 dX11_ends_95 ?_
      refine zx_aload_n dX11_ends_98 rfl (q := 1) rfl ?_
      refine zx_iconst (v := 0) dX11_ends_99 iv_iconst_0 ?_
      obtain ⟨h58, h⟩ := ck_e h
      refine zx_iald hG rfl ((kp_a (Eq.trans e20 e16) h13)).1 ((kp_a (Eq.trans e20 e16) h13)).2 (inb_e h58) dX11_ends_100 ?_
      obtain ⟨h59, h⟩ := ck_e h
      obtain ⟨h60, h⟩ := ck_e h
      refine zx_iald hG rfl (h59).1 (h59).2 (inb_e h60) dX11_ends_101 ?_
      refine zx_iadd dX11_ends_102 ?_
      refine zx_istore (L' := [(4, .int ((mI μ19 p51 (Int32.toNatClampNeg (mI μ19 p6 (Int32.toNatClampNeg 7)))) + (mI μ19 p56 (Int32.toNatClampNeg (mI μ19 p6 (Int32.toNatClampNeg 0)))))), (3, .int y8), (2, .ref p6), (0, .ref a0), (1, .int x1)]) dX11_ends_103 (by decide) rfl ?_
      refine zx_aload_n dX11_ends_105 rfl (q := 2) rfl ?_
      refine zx_bipush (v := 13) dX11_ends_106 iv_bipush_13 ?_
      refine zx_iload dX11_ends_108 (q := 0) rfl ?_
      obtain ⟨y61, z62, h⟩ := bd_e h
      refine zx_callS (As := [.int ((mI μ19 p51 (Int32.toNatClampNeg (mI μ19 p6 (Int32.toNatClampNeg 7)))) + (mI μ19 p56 (Int32.toNatClampNeg (mI μ19 p6 (Int32.toNatClampNeg 0)))))]) hG mf_X11_isAddress cs_X11_225 ⟨by decide, by decide⟩ rfl rfl (Nat.le_of_ble_eq_true rfl) (s_X11_isAddress hG _ _ _ z62) (Nat.le_of_ble_eq_true rfl) dX11_ends_110 ?_
      by_cases c63 : y61 = 0
      · have h := it_t c63 h
        refine zx_if_eq_t (tgt := 120) dX11_ends_113 (by decide) c63 ?_
        refine zx_iconst (v := 2) dX11_ends_120 iv_iconst_2 ?_
        refine zx_sub (L' := [(0, .ref a0), (1, .int x1), (2, .ref p6), (4, .int ((mI μ19 p51 (Int32.toNatClampNeg (mI μ19 p6 (Int32.toNatClampNeg 7)))) + (mI μ19 p56 (Int32.toNatClampNeg (mI μ19 p6 (Int32.toNatClampNeg 0))))))]) [3, 4, 2, 0] rfl ?_
        exact s_X11_ends_b121 hG _ _ _ _ _ _ _ _ _ _ h
      · have h := it_f c63 h
        refine zx_if_eq_f (tgt := 120) dX11_ends_113 (by decide) c63 ?_
        refine zx_iconst (v := 0) dX11_ends_116 iv_iconst_0 ?_
        refine zx_goto (tgt := 121) dX11_ends_117 (by decide) ?_
        refine zx_sub (L' := [(0, .ref a0), (1, .int x1), (2, .ref p6), (4, .int ((mI μ19 p51 (Int32.toNatClampNeg (mI μ19 p6 (Int32.toNatClampNeg 7)))) + (mI μ19 p56 (Int32.toNatClampNeg (mI μ19 p6 (Int32.toNatClampNeg 0))))))]) [3, 4, 2, 0] rfl ?_
        exact s_X11_ends_b121 hG _ _ _ _ _ _ _ _ _ _ h
  · have h := it_f c12 h
    refine zx_if_eq_f (tgt := 65) dX11_ends_17 (by decide) c12 ?_
    refine zx_aload_n dX11_ends_20 rfl (q := 1) rfl ?_
    refine zx_bipush (v := 13) dX11_ends_21 iv_bipush_13 ?_
    refine zx_iload_n dX11_ends_23 rfl (q := 0) rfl ?_
    refine zx_iconst (v := 5) dX11_ends_24 iv_iconst_5 ?_
    by_cases c64 : ¬ y8 = 5
    · have h := it_t c64 h
      refine zx_icmp_ne_t (tgt := 44) dX11_ends_25 (by decide) c64 ?_
      refine zx_sub (L' := [(0, .ref a0), (2, .ref p6)]) [2, 1] rfl ?_
      exact s_X11_ends_b44 hG _ _ _ _ _ _ _ h
    · have h := it_f c64 h
      refine zx_icmp_ne_f (tgt := 44) dX11_ends_25 (by decide) (Classical.not_not.mp c64) ?_
      refine zx_aload_n dX11_ends_28 rfl (q := 2) rfl ?_
      obtain ⟨p65, h66, h⟩ := bd_e h
      refine zx_getR hG fl_X11_62 h1 h66 dX11_ends_29 ?_
      refine zx_aload_n dX11_ends_32 rfl (q := 1) rfl ?_
      refine zx_bipush (v := 8) dX11_ends_33 iv_bipush_8 ?_
      obtain ⟨h67, h⟩ := ck_e h
      obtain ⟨h68, h⟩ := ck_e h
      refine zx_iald hG rfl (h67).1 (h67).2 (inb_e h68) dX11_ends_35 ?_
      obtain ⟨h69, h⟩ := ck_e h
      obtain ⟨h70, h⟩ := ck_e h
      refine zx_iald hG rfl (h69).1 (h69).2 (inb_e h70) dX11_ends_36 ?_
      by_cases c71 : ¬ (mI μ p65 (Int32.toNatClampNeg (mI μ p6 (Int32.toNatClampNeg 8)))) = 0
      · have h := it_t c71 h
        refine zx_if_ne_t (tgt := 44) dX11_ends_37 (by decide) c71 ?_
        refine zx_sub (L' := [(0, .ref a0), (2, .ref p6)]) [2, 1] rfl ?_
        exact s_X11_ends_b44 hG _ _ _ _ _ _ _ h
      · have h := it_f c71 h
        refine zx_if_ne_f (tgt := 44) dX11_ends_37 (by decide) (Classical.not_not.mp c71) ?_
        refine zx_iconst (v := 1) dX11_ends_40 iv_iconst_1 ?_
        refine zx_goto (tgt := 48) dX11_ends_41 (by decide) ?_
        refine zx_sub (L' := [(0, .ref a0), (2, .ref p6)]) [2, 1] rfl ?_
        exact s_X11_ends_b48 hG _ _ _ _ _ _ _ _ h
def f_X11_endings_b45 (k2 : Nat → Int32 → Mm → Option (Unit × Mm)) (a0 : Nat) (x1 : Int32) (μ : Mm) : Option (Unit × Mm) :=
  k2 a0 (x1 + 1) μ
def f_X11_endings_b134 (k55 : Nat → Int32 → Int32 → Mm → Option (Unit × Mm)) (a0 : Nat) (x1 : Int32) (x2 : Int32) (μ : Mm) : Option (Unit × Mm) :=
  k55 a0 x1 (x2 + 1) μ
def f_X11_endings_b110 (k55 : Nat → Int32 → Int32 → Mm → Option (Unit × Mm)) (a0 : Nat) (x1 : Int32) (x2 : Int32) (a3 : Nat) (s0 : Int32) (s1 : Int32) (s2 : Nat) (μ : Mm) : Option (Unit × Mm) :=
  ck (isA 1 (mK μ s2)) <|
  ck (inb s1 (mL μ s2)) <|
  zl (sI μ s2 (Int32.toNatClampNeg s1) s0) fun μ44 =>
  ck (mK μ44 a0 = 112) <|
  bd (mR μ44 a0 19) fun p48 =>
  ck (isA 1 (mK μ44 a3)) <|
  ck (inb 9 (mL μ44 a3)) <|
  ck (isA 2 (mK μ44 p48)) <|
  ck (inb (mI μ44 a3 (Int32.toNatClampNeg 9)) (mL μ44 p48)) <|
  zl (sI μ44 p48 (Int32.toNatClampNeg (mI μ44 a3 (Int32.toNatClampNeg 9))) 1) fun μ54 =>
  ck (inb 11 (mL μ54 a3)) <|
  zl (sI μ54 a3 (Int32.toNatClampNeg 11) 101) fun μ58 =>
  ck (inb 4 (mL μ58 a3)) <|
  zl (sI μ58 a3 (Int32.toNatClampNeg 4) (mI μ58 a0 36)) fun μ62 =>
  f_X11_endings_b134 k55 a0 x1 x2 μ62
def f_X11_endings_b55 : Nat → Nat → Int32 → Int32 → Mm → Option (Unit × Mm)
  | 0, _, _, _, _ => none
  | n + 1, a0, x1, x2, μ =>
  ck (mK μ a0 = 112) <|
  if (mI μ a0 23) ≤ x2 then
    some ((), μ)
  else
    if 2 ≤ x1 then
      some ((), μ)
    else
      bd (mR μ a0 22) fun p27 =>
      ck (isA56 (mK μ p27)) <|
      ck (inb x2 (mL μ p27)) <|
      bd (mR μ p27 (Int32.toNatClampNeg x2)) fun p31 =>
      ck (isA 1 (mK μ p31)) <|
      ck (inb 11 (mL μ p31)) <|
      if ¬ (mI μ p31 (Int32.toNatClampNeg 11)) = 98 then
        f_X11_endings_b134 (f_X11_endings_b55 n) a0 x1 x2 μ
      else
        bd (mR μ a0 18) fun p36 =>
        ck (inb 9 (mL μ p31)) <|
        ck (inb 13 (mL μ p31)) <|
        if (mI μ p31 (Int32.toNatClampNeg 13)) ≤ 0 then
          ck (inb 15 (mL μ p31)) <|
          f_X11_endings_b110 (f_X11_endings_b55 n) a0 (x1 + 1) x2 p31 (mI μ p31 (Int32.toNatClampNeg 15)) (mI μ p31 (Int32.toNatClampNeg 9)) p36 μ
        else
          f_X11_endings_b110 (f_X11_endings_b55 n) a0 (x1 + 1) x2 p31 0 (mI μ p31 (Int32.toNatClampNeg 9)) p36 μ
def f_X11_endings_b51 (a0 : Nat) (μ : Mm) : Option (Unit × Mm) :=
  f_X11_endings_b55 5000 a0 0 0 μ
def f_X11_endings_b2 : Nat → Nat → Int32 → Mm → Option (Unit × Mm)
  | 0, _, _, _ => none
  | n + 1, a0, x1, μ =>
  ck (mK μ a0 = 112) <|
  if (mI μ a0 23) ≤ x1 then
    f_X11_endings_b51 a0 μ
  else
    bd (mR μ a0 22) fun p3 =>
    ck (isA56 (mK μ p3)) <|
    ck (inb x1 (mL μ p3)) <|
    bd (mR μ p3 (Int32.toNatClampNeg x1)) fun p7 =>
    ck (isA 1 (mK μ p7)) <|
    ck (inb 11 (mL μ p7)) <|
    if ¬ (mI μ p7 (Int32.toNatClampNeg 11)) = 120 then
      f_X11_endings_b45 (f_X11_endings_b2 n) a0 x1 μ
    else
      bd (mR μ a0 22) fun p12 =>
      ck (isA56 (mK μ p12)) <|
      ck (inb x1 (mL μ p12)) <|
      bd (mR μ p12 (Int32.toNatClampNeg x1)) fun p16 =>
      ck (isA 1 (mK μ p16)) <|
      ck (inb 12 (mL μ p16)) <|
      if ¬ (mI μ p16 (Int32.toNatClampNeg 12)) = (mI μ a0 36) then
        f_X11_endings_b45 (f_X11_endings_b2 n) a0 x1 μ
      else
        cl (f_X11_ends a0 x1 μ) fun _ μ23 =>
        f_X11_endings_b45 (f_X11_endings_b2 n) a0 x1 μ23
def f_X11_endings (a0 : Nat) (μ : Mm) : Option (Unit × Mm) :=
  f_X11_endings_b2 5000 a0 0 μ
set_option maxRecDepth 100000 in
theorem s_X11_endings_b45 {l : Launch} {G : Gt} (hG : Gok l G) {k2 : Nat → Int32 → Mm → Option (Unit × Mm)} (hk2 : ∀ (a0 : Nat) (x1 : Int32) (μ : Mm) (r : Unit) (μ' : Mm), k2 a0 x1 μ = some (r, μ') → ZX l G mX11_endings 2 [(0, .ref a0), (1, .int x1)] [] μ (.inl none) μ') (a0 : Nat) (x1 : Int32) (μ : Mm) (r : Unit) (μ' : Mm) (h : f_X11_endings_b45 k2 a0 x1 μ = some (r, μ')) : ZX l G mX11_endings 45 [(0, .ref a0), (1, .int x1)] [] μ (.inl none) μ' := by
  unfold f_X11_endings_b45 at h
  refine zx_iinc (q := 1) (v := x1 + 1) (L' := [(1, .int (x1 + 1)), (0, .ref a0)]) dX11_endings_45 rfl rfl (by decide) rfl ?_
  refine zx_goto (tgt := 2) dX11_endings_48 (by decide) ?_
  refine zx_sub (L' := [(0, .ref a0), (1, .int (x1 + 1))]) [1, 0] rfl ?_
  exact hk2 _ _ _ _ _ h
set_option maxRecDepth 100000 in
theorem s_X11_endings_b134 {l : Launch} {G : Gt} (hG : Gok l G) {k55 : Nat → Int32 → Int32 → Mm → Option (Unit × Mm)} (hk55 : ∀ (a0 : Nat) (x1 : Int32) (x2 : Int32) (μ : Mm) (r : Unit) (μ' : Mm), k55 a0 x1 x2 μ = some (r, μ') → ZX l G mX11_endings 55 [(0, .ref a0), (1, .int x1), (2, .int x2)] [] μ (.inl none) μ') (a0 : Nat) (x1 : Int32) (x2 : Int32) (μ : Mm) (r : Unit) (μ' : Mm) (h : f_X11_endings_b134 k55 a0 x1 x2 μ = some (r, μ')) : ZX l G mX11_endings 134 [(0, .ref a0), (1, .int x1), (2, .int x2)] [] μ (.inl none) μ' := by
  unfold f_X11_endings_b134 at h
  refine zx_iinc (q := 2) (v := x2 + 1) (L' := [(2, .int (x2 + 1)), (0, .ref a0), (1, .int x1)]) dX11_endings_134 rfl rfl (by decide) rfl ?_
  refine zx_goto (tgt := 55) dX11_endings_137 (by decide) ?_
  refine zx_sub (L' := [(0, .ref a0), (1, .int x1), (2, .int (x2 + 1))]) [1, 2, 0] rfl ?_
  exact hk55 _ _ _ _ _ _ h
set_option maxRecDepth 100000 in
theorem s_X11_endings_b110 {l : Launch} {G : Gt} (hG : Gok l G) {k55 : Nat → Int32 → Int32 → Mm → Option (Unit × Mm)} (hk55 : ∀ (a0 : Nat) (x1 : Int32) (x2 : Int32) (μ : Mm) (r : Unit) (μ' : Mm), k55 a0 x1 x2 μ = some (r, μ') → ZX l G mX11_endings 55 [(0, .ref a0), (1, .int x1), (2, .int x2)] [] μ (.inl none) μ') (a0 : Nat) (x1 : Int32) (x2 : Int32) (a3 : Nat) (s0 : Int32) (s1 : Int32) (s2 : Nat) (μ : Mm) (r : Unit) (μ' : Mm) (h : f_X11_endings_b110 k55 a0 x1 x2 a3 s0 s1 s2 μ = some (r, μ')) : ZX l G mX11_endings 110 [(0, .ref a0), (1, .int x1), (2, .int x2), (3, .ref a3)] [.int s0, .int s1, .ref s2] μ (.inl none) μ' := by
  unfold f_X11_endings_b110 at h
  obtain ⟨h42, h⟩ := ck_e h
  obtain ⟨h43, h⟩ := ck_e h
  refine zx_iast hG rfl (h42).1 (h42).2 (inb_e h43) dX11_endings_110 ?_
  obtain ⟨μ44, e46, h⟩ := zlm_e h
  refine zx_mem e46 ?_
  have e45 : mK μ44 = mK μ := (congrArg mK e46).trans rfl
  refine zx_aload_n dX11_endings_111 rfl (q := 0) rfl ?_
  obtain ⟨h47, h⟩ := ck_e h
  obtain ⟨p48, h49, h⟩ := bd_e h
  refine zx_getR hG fl_X11_65 h47 h49 dX11_endings_112 ?_
  refine zx_aload_n dX11_endings_115 rfl (q := 3) rfl ?_
  refine zx_bipush (v := 9) dX11_endings_116 iv_bipush_9 ?_
  obtain ⟨h50, h⟩ := ck_e h
  obtain ⟨h51, h⟩ := ck_e h
  refine zx_iald hG rfl (h50).1 (h50).2 (inb_e h51) dX11_endings_118 ?_
  refine zx_iconst (v := 1) dX11_endings_119 iv_iconst_1 ?_
  obtain ⟨h52, h⟩ := ck_e h
  obtain ⟨h53, h⟩ := ck_e h
  refine zx_zast hG rfl (h52).1 (h52).2 (inb_e h53) dX11_endings_120 ?_
  obtain ⟨μ54, e56, h⟩ := zlm_e h
  refine zx_mem e56 ?_
  have e55 : mK μ54 = mK μ44 := (congrArg mK e56).trans rfl
  refine zx_aload_n dX11_endings_121 rfl (q := 3) rfl ?_
  refine zx_bipush (v := 11) dX11_endings_122 iv_bipush_11 ?_
  refine zx_bipush (v := 101) dX11_endings_124 iv_bipush_101 ?_
  obtain ⟨h57, h⟩ := ck_e h
  refine zx_iast hG rfl ((kp_a (e55) h50)).1 ((kp_a (e55) h50)).2 (inb_e h57) dX11_endings_126 ?_
  obtain ⟨μ58, e60, h⟩ := zlm_e h
  refine zx_mem e60 ?_
  have e59 : mK μ58 = mK μ54 := (congrArg mK e60).trans rfl
  refine zx_aload_n dX11_endings_127 rfl (q := 3) rfl ?_
  refine zx_iconst (v := 4) dX11_endings_128 iv_iconst_4 ?_
  refine zx_aload_n dX11_endings_129 rfl (q := 0) rfl ?_
  refine zx_getI hG fl_X11_133 (kp_o (Eq.trans e59 e55) h47) dX11_endings_130 ?_
  obtain ⟨h61, h⟩ := ck_e h
  refine zx_iast hG rfl ((kp_a (Eq.trans e59 e55) h50)).1 ((kp_a (Eq.trans e59 e55) h50)).2 (inb_e h61) dX11_endings_133 ?_
  obtain ⟨μ62, e64, h⟩ := zlm_e h
  refine zx_mem e64 ?_
  have e63 : mK μ62 = mK μ58 := (congrArg mK e64).trans rfl
  refine zx_sub (L' := [(0, .ref a0), (1, .int x1), (2, .int x2)]) [0, 1, 2] rfl ?_
  exact s_X11_endings_b134 hG hk55 _ _ _ _ _ _ h
set_option maxRecDepth 100000 in
theorem s_X11_endings_b55 {l : Launch} {G : Gt} (hG : Gok l G) : ∀ (n : Nat) (a0 : Nat) (x1 : Int32) (x2 : Int32) (μ : Mm) (r : Unit) (μ' : Mm), f_X11_endings_b55 n a0 x1 x2 μ = some (r, μ') → ZX l G mX11_endings 55 [(0, .ref a0), (1, .int x1), (2, .int x2)] [] μ (.inl none) μ' := by
  intro n
  induction n with
  | zero =>
    intro a0 x1 x2 μ r μ' h
    cases h
  | succ n ih =>
    intro a0 x1 x2 μ r μ' h
    unfold f_X11_endings_b55 at h
    refine zx_iload_n dX11_endings_55 rfl (q := 2) rfl ?_
    refine zx_aload_n dX11_endings_56 rfl (q := 0) rfl ?_
    obtain ⟨h24, h⟩ := ck_e h
    refine zx_getI hG fl_X11_198 h24 dX11_endings_57 ?_
    by_cases c25 : (mI μ a0 23) ≤ x2
    · have h := it_t c25 h
      refine zx_icmp_ge_t (tgt := 140) dX11_endings_60 (by decide) c25 ?_
      cases h
      exact zx_vret dX11_endings_140 rfl
    · have h := it_f c25 h
      refine zx_icmp_ge_f (tgt := 140) dX11_endings_60 (by decide) c25 ?_
      refine zx_iload_n dX11_endings_63 rfl (q := 1) rfl ?_
      refine zx_iconst (v := 2) dX11_endings_64 iv_iconst_2 ?_
      by_cases c26 : 2 ≤ x1
      · have h := it_t c26 h
        refine zx_icmp_ge_t (tgt := 140) dX11_endings_65 (by decide) c26 ?_
        cases h
        exact zx_vret dX11_endings_140 rfl
      · have h := it_f c26 h
        refine zx_icmp_ge_f (tgt := 140) dX11_endings_65 (by decide) c26 ?_
        refine zx_aload_n dX11_endings_68 rfl (q := 0) rfl ?_
        obtain ⟨p27, h28, h⟩ := bd_e h
        refine zx_getR hG fl_X11_74 h24 h28 dX11_endings_69 ?_
        refine zx_iload_n dX11_endings_72 rfl (q := 2) rfl ?_
        obtain ⟨h29, h⟩ := ck_e h
        obtain ⟨h30, h⟩ := ck_e h
        obtain ⟨p31, h32, h⟩ := bd_e h
        refine zx_aald hG rfl (h29).1 (h29).2 (inb_e h30) h32 dX11_endings_73 ?_
        refine zx_astore_n (L' := [(3, .ref p31), (0, .ref a0), (1, .int x1), (2, .int x2)]) dX11_endings_74 rfl (by decide) rfl ?_
        refine zx_aload_n dX11_endings_75 rfl (q := 0) rfl ?_
        refine zx_bipush (v := 11) dX11_endings_76 iv_bipush_11 ?_
        obtain ⟨h33, h⟩ := ck_e h
        obtain ⟨h34, h⟩ := ck_e h
        refine zx_iald hG rfl (h33).1 (h33).2 (inb_e h34) dX11_endings_78 ?_
        refine zx_bipush (v := 98) dX11_endings_79 iv_bipush_98 ?_
        by_cases c35 : ¬ (mI μ p31 (Int32.toNatClampNeg 11)) = 98
        · have h := it_t c35 h
          refine zx_icmp_ne_t (tgt := 134) dX11_endings_81 (by decide) c35 ?_
          refine zx_sub (L' := [(0, .ref a0), (1, .int x1), (2, .int x2)]) [1, 2, 3] rfl ?_
          exact s_X11_endings_b134 hG ih _ _ _ _ _ _ h
        · have h := it_f c35 h
          refine zx_icmp_ne_f (tgt := 134) dX11_endings_81 (by decide) (Classical.not_not.mp c35) ?_
          refine zx_iinc (q := 2) (v := x1 + 1) (L' := [(1, .int (x1 + 1)), (3, .ref p31), (0, .ref a0), (2, .int x2)]) dX11_endings_84 rfl rfl (by decide) rfl ?_
          refine zx_aload_n dX11_endings_87 rfl (q := 2) rfl ?_
          obtain ⟨p36, h37, h⟩ := bd_e h
          refine zx_getR hG fl_X11_62 h24 h37 dX11_endings_88 ?_
          refine zx_aload_n dX11_endings_91 rfl (q := 1) rfl ?_
          refine zx_bipush (v := 9) dX11_endings_92 iv_bipush_9 ?_
          obtain ⟨h38, h⟩ := ck_e h
          refine zx_iald hG rfl (h33).1 (h33).2 (inb_e h38) dX11_endings_94 ?_
          refine zx_aload_n dX11_endings_95 rfl (q := 1) rfl ?_
          refine zx_bipush (v := 13) dX11_endings_96 iv_bipush_13 ?_
          obtain ⟨h39, h⟩ := ck_e h
          refine zx_iald hG rfl (h33).1 (h33).2 (inb_e h39) dX11_endings_98 ?_
          by_cases c40 : (mI μ p31 (Int32.toNatClampNeg 13)) ≤ 0
          · have h := it_t c40 h
            refine zx_if_le_t (tgt := 106) dX11_endings_99 (by decide) c40 ?_
            refine zx_aload_n dX11_endings_106 rfl (q := 1) rfl ?_
            refine zx_bipush (v := 15) dX11_endings_107 iv_bipush_15 ?_
            obtain ⟨h41, h⟩ := ck_e h
            refine zx_iald hG rfl (h33).1 (h33).2 (inb_e h41) dX11_endings_109 ?_
            refine zx_sub (L' := [(0, .ref a0), (1, .int (x1 + 1)), (2, .int x2), (3, .ref p31)]) [2, 0, 3, 1] rfl ?_
            exact s_X11_endings_b110 hG ih _ _ _ _ _ _ _ _ _ _ h
          · have h := it_f c40 h
            refine zx_if_le_f (tgt := 106) dX11_endings_99 (by decide) c40 ?_
            refine zx_iconst (v := 0) dX11_endings_102 iv_iconst_0 ?_
            refine zx_goto (tgt := 110) dX11_endings_103 (by decide) ?_
            refine zx_sub (L' := [(0, .ref a0), (1, .int (x1 + 1)), (2, .int x2), (3, .ref p31)]) [2, 0, 3, 1] rfl ?_
            exact s_X11_endings_b110 hG ih _ _ _ _ _ _ _ _ _ _ h
set_option maxRecDepth 100000 in
theorem s_X11_endings_b51 {l : Launch} {G : Gt} (hG : Gok l G) (a0 : Nat) (μ : Mm) (r : Unit) (μ' : Mm) (h : f_X11_endings_b51 a0 μ = some (r, μ')) : ZX l G mX11_endings 51 [(0, .ref a0)] [] μ (.inl none) μ' := by
  unfold f_X11_endings_b51 at h
  refine zx_iconst (v := 0) dX11_endings_51 iv_iconst_0 ?_
  refine zx_istore_n (L' := [(1, .int 0), (0, .ref a0)]) dX11_endings_52 rfl (by decide) rfl ?_
  refine zx_iconst (v := 0) dX11_endings_53 iv_iconst_0 ?_
  refine zx_istore_n (L' := [(2, .int 0), (1, .int 0), (0, .ref a0)]) dX11_endings_54 rfl (by decide) rfl ?_
  refine zx_sub (L' := [(0, .ref a0), (1, .int 0), (2, .int 0)]) [2, 1, 0] rfl ?_
  exact s_X11_endings_b55 hG 5000 _ _ _ _ _ _ h
set_option maxRecDepth 100000 in
theorem s_X11_endings_b2 {l : Launch} {G : Gt} (hG : Gok l G) : ∀ (n : Nat) (a0 : Nat) (x1 : Int32) (μ : Mm) (r : Unit) (μ' : Mm), f_X11_endings_b2 n a0 x1 μ = some (r, μ') → ZX l G mX11_endings 2 [(0, .ref a0), (1, .int x1)] [] μ (.inl none) μ' := by
  intro n
  induction n with
  | zero =>
    intro a0 x1 μ r μ' h
    cases h
  | succ n ih =>
    intro a0 x1 μ r μ' h
    unfold f_X11_endings_b2 at h
    refine zx_iload_n dX11_endings_2 rfl (q := 1) rfl ?_
    refine zx_aload_n dX11_endings_3 rfl (q := 0) rfl ?_
    obtain ⟨h1, h⟩ := ck_e h
    refine zx_getI hG fl_X11_198 h1 dX11_endings_4 ?_
    by_cases c2 : (mI μ a0 23) ≤ x1
    · have h := it_t c2 h
      refine zx_icmp_ge_t (tgt := 51) dX11_endings_7 (by decide) c2 ?_
      refine zx_sub (L' := [(0, .ref a0)]) [0] rfl ?_
      exact s_X11_endings_b51 hG _ _ _ _ h
    · have h := it_f c2 h
      refine zx_icmp_ge_f (tgt := 51) dX11_endings_7 (by decide) c2 ?_
      refine zx_aload_n dX11_endings_10 rfl (q := 0) rfl ?_
      obtain ⟨p3, h4, h⟩ := bd_e h
      refine zx_getR hG fl_X11_74 h1 h4 dX11_endings_11 ?_
      refine zx_iload_n dX11_endings_14 rfl (q := 1) rfl ?_
      obtain ⟨h5, h⟩ := ck_e h
      obtain ⟨h6, h⟩ := ck_e h
      obtain ⟨p7, h8, h⟩ := bd_e h
      refine zx_aald hG rfl (h5).1 (h5).2 (inb_e h6) h8 dX11_endings_15 ?_
      refine zx_bipush (v := 11) dX11_endings_16 iv_bipush_11 ?_
      obtain ⟨h9, h⟩ := ck_e h
      obtain ⟨h10, h⟩ := ck_e h
      refine zx_iald hG rfl (h9).1 (h9).2 (inb_e h10) dX11_endings_18 ?_
      refine zx_bipush (v := 120) dX11_endings_19 iv_bipush_120 ?_
      by_cases c11 : ¬ (mI μ p7 (Int32.toNatClampNeg 11)) = 120
      · have h := it_t c11 h
        refine zx_icmp_ne_t (tgt := 45) dX11_endings_21 (by decide) c11 ?_
        exact s_X11_endings_b45 hG ih _ _ _ _ _ h
      · have h := it_f c11 h
        refine zx_icmp_ne_f (tgt := 45) dX11_endings_21 (by decide) (Classical.not_not.mp c11) ?_
        refine zx_aload_n dX11_endings_24 rfl (q := 0) rfl ?_
        obtain ⟨p12, h13, h⟩ := bd_e h
        refine zx_getR hG fl_X11_74 h1 h13 dX11_endings_25 ?_
        refine zx_iload_n dX11_endings_28 rfl (q := 1) rfl ?_
        obtain ⟨h14, h⟩ := ck_e h
        obtain ⟨h15, h⟩ := ck_e h
        obtain ⟨p16, h17, h⟩ := bd_e h
        refine zx_aald hG rfl (h14).1 (h14).2 (inb_e h15) h17 dX11_endings_29 ?_
        refine zx_bipush (v := 12) dX11_endings_30 iv_bipush_12 ?_
        obtain ⟨h18, h⟩ := ck_e h
        obtain ⟨h19, h⟩ := ck_e h
        refine zx_iald hG rfl (h18).1 (h18).2 (inb_e h19) dX11_endings_32 ?_
        refine zx_aload_n dX11_endings_33 rfl (q := 0) rfl ?_
        refine zx_getI hG fl_X11_133 h1 dX11_endings_34 ?_
        by_cases c20 : ¬ (mI μ p16 (Int32.toNatClampNeg 12)) = (mI μ a0 36)
        · have h := it_t c20 h
          refine zx_icmp_ne_t (tgt := 45) dX11_endings_37 (by decide) c20 ?_
          exact s_X11_endings_b45 hG ih _ _ _ _ _ h
        · have h := it_f c20 h
          refine zx_icmp_ne_f (tgt := 45) dX11_endings_37 (by decide) (Classical.not_not.mp c20) ?_
          refine zx_aload_n dX11_endings_40 rfl (q := 0) rfl ?_
          refine zx_iload_n dX11_endings_41 rfl (q := 1) rfl ?_
          obtain ⟨uu21, μ23, z22, h⟩ := cl_e h
          refine zx_callV (As := [.int x1]) hG mf_X11_ends cv_X11_286 h1 ⟨by decide, by decide⟩ rfl rfl (Nat.le_of_ble_eq_true rfl) (s_X11_ends hG _ _ _ _ _ z22) (Nat.le_of_ble_eq_true rfl) dX11_endings_42 ?_
          exact s_X11_endings_b45 hG ih _ _ _ _ _ h
set_option maxRecDepth 100000 in
theorem s_X11_endings {l : Launch} {G : Gt} (hG : Gok l G) (a0 : Nat) (μ : Mm) (r : Unit) (μ' : Mm) (h : f_X11_endings a0 μ = some (r, μ')) : ZX l G mX11_endings 0 [(0, .ref a0)] [] μ (.inl none) μ' := by
  unfold f_X11_endings at h
  refine zx_iconst (v := 0) dX11_endings_0 iv_iconst_0 ?_
  refine zx_istore_n (L' := [(1, .int 0), (0, .ref a0)]) dX11_endings_1 rfl (by decide) rfl ?_
  refine zx_sub (L' := [(0, .ref a0), (1, .int 0)]) [1, 0] rfl ?_
  exact s_X11_endings_b2 hG 5000 _ _ _ _ _ h
def f_X11_isQueued_b22 : Option Int32 :=
  some 1
def f_X11_isQueued (x0 : Int32) : Option Int32 :=
  bd (f_X11_in x0 1 13) fun y1 =>
  if ¬ y1 = 0 then
    f_X11_isQueued_b22 
  else
    if x0 = 16 then
      f_X11_isQueued_b22 
    else
      if ¬ x0 = 17 then
        some 0
      else
        f_X11_isQueued_b22 
set_option maxRecDepth 100000 in
theorem s_X11_isQueued_b22 {l : Launch} {G : Gt} (hG : Gok l G) (μ : Mm) (r : Int32) (h : f_X11_isQueued_b22 = some r) : ZX l G mX11_isQueued 22 [] [] μ (.inl (some (.int r))) μ := by
  unfold f_X11_isQueued_b22 at h
  refine zx_iconst (v := 1) dX11_isQueued_22 iv_iconst_1 ?_
  refine zx_goto (tgt := 27) dX11_isQueued_23 (by decide) ?_
  cases h
  exact zx_zretZ dX11_isQueued_27 rfl zb_1
set_option maxRecDepth 100000 in
theorem s_X11_isQueued {l : Launch} {G : Gt} (hG : Gok l G) (x0 : Int32) (μ : Mm) (r : Int32) (h : f_X11_isQueued x0 = some r) : ZX l G mX11_isQueued 0 [(0, .int x0)] [] μ (.inl (some (.int r))) μ := by
  unfold f_X11_isQueued at h
  refine zx_iload_n dX11_isQueued_0 rfl (q := 0) rfl ?_
  refine zx_iconst (v := 1) dX11_isQueued_1 iv_iconst_1 ?_
  refine zx_bipush (v := 13) dX11_isQueued_2 iv_bipush_13 ?_
  obtain ⟨y1, z2, h⟩ := bd_e h
  refine zx_callS (As := [.int x0, .int 1, .int 13]) hG mf_X11_in cs_X11_129 ⟨by decide, by decide⟩ rfl rfl (Nat.le_of_ble_eq_true rfl) (s_X11_in hG _ _ _ _ _ z2) (Nat.le_of_ble_eq_true rfl) dX11_isQueued_4 ?_
  by_cases c3 : ¬ y1 = 0
  · have h := it_t c3 h
    refine zx_if_ne_t (tgt := 22) dX11_isQueued_7 (by decide) c3 ?_
    refine zx_sub (L' := []) [] rfl ?_
    exact s_X11_isQueued_b22 hG _ _ h
  · have h := it_f c3 h
    refine zx_if_ne_f (tgt := 22) dX11_isQueued_7 (by decide) (Classical.not_not.mp c3) ?_
    refine zx_iload_n dX11_isQueued_10 rfl (q := 0) rfl ?_
    refine zx_bipush (v := 16) dX11_isQueued_11 iv_bipush_16 ?_
    by_cases c4 : x0 = 16
    · have h := it_t c4 h
      refine zx_icmp_eq_t (tgt := 22) dX11_isQueued_13 (by decide) c4 ?_
      refine zx_sub (L' := []) [] rfl ?_
      exact s_X11_isQueued_b22 hG _ _ h
    · have h := it_f c4 h
      refine zx_icmp_eq_f (tgt := 22) dX11_isQueued_13 (by decide) c4 ?_
      refine zx_iload_n dX11_isQueued_16 rfl (q := 0) rfl ?_
      refine zx_bipush (v := 17) dX11_isQueued_17 iv_bipush_17 ?_
      by_cases c5 : ¬ x0 = 17
      · have h := it_t c5 h
        refine zx_icmp_ne_t (tgt := 26) dX11_isQueued_19 (by decide) c5 ?_
        refine zx_iconst (v := 0) dX11_isQueued_26 iv_iconst_0 ?_
        cases h
        exact zx_zretZ dX11_isQueued_27 rfl zb_0
      · have h := it_f c5 h
        refine zx_icmp_ne_f (tgt := 26) dX11_isQueued_19 (by decide) (Classical.not_not.mp c5) ?_
        refine zx_sub (L' := []) [] rfl ?_
        exact s_X11_isQueued_b22 hG _ _ h
def f_X11_tellsEnd_b82 (a0 : Nat) (μ : Mm) : Option (Unit × Mm) :=
  ck (mK μ a0 = 112) <|
  zl (sI μ a0 46 ((mI μ a0 46) + 1)) fun μ66 =>
  some ((), μ66)
def f_X11_tellsEnd_b67 (a0 : Nat) (a3 : Nat) (s0 : Int32) (s1 : Int32) (s2 : Nat) (s3 : Nat) (s4 : Int32) (s5 : Nat) (μ : Mm) : Option (Unit × Mm) :=
  ck (isA 1 (mK μ s2)) <|
  ck (inb s1 (mL μ s2)) <|
  zl (sI μ s2 (Int32.toNatClampNeg s1) s0) fun μ45 =>
  ck (isA 1 (mK μ45 a3)) <|
  ck (inb 4 (mL μ45 a3)) <|
  ck (isA 1 (mK μ45 s3)) <|
  ck (inb 3 (mL μ45 s3)) <|
  zl (sI μ45 s3 (Int32.toNatClampNeg 3) (mI μ45 a3 (Int32.toNatClampNeg 4))) fun μ52 =>
  ck (mK μ52 a0 = 112) <|
  ck (inb 4 (mL μ52 s3)) <|
  zl (sI μ52 s3 (Int32.toNatClampNeg 4) (mI μ52 a0 36)) fun μ57 =>
  ck (isA 5 (mK μ57 s5)) <|
  ck (inb s4 (mL μ57 s5)) <|
  zl (sR μ57 s5 (Int32.toNatClampNeg s4) (some s3)) fun μ62 =>
  f_X11_tellsEnd_b82 a0 μ62
def f_X11_tellsEnd (a0 : Nat) (x1 : Int32) (x2 : Int32) (a3 : Nat) (μ : Mm) : Option (Unit × Mm) :=
  ck (mK μ a0 = 112) <|
  bd (mR μ a0 43) fun p2 =>
  ck (isA 1 (mK μ p2)) <|
  ck (inb (mI μ a0 46) (mL μ p2)) <|
  zl (sI μ p2 (Int32.toNatClampNeg (mI μ a0 46)) x1) fun μ6 =>
  bd (mR μ6 a0 44) fun p9 =>
  ck (isA 1 (mK μ6 p9)) <|
  ck (inb (mI μ6 a0 46) (mL μ6 p9)) <|
  zl (sI μ6 p9 (Int32.toNatClampNeg (mI μ6 a0 46)) x2) fun μ13 =>
  bd (mR μ13 a0 45) fun p16 =>
  ck (smn 5) <|
  zl (mN μ13) fun p19 =>
  zl (nw μ13 71 (Int32.toNatClampNeg 5) (Int32.toNatClampNeg 5)) fun μ20 =>
  ck (isA 1 (mK μ20 a3)) <|
  ck (inb 1 (mL μ20 a3)) <|
  ck (inb 0 (mL μ20 p19)) <|
  zl (sI μ20 p19 (Int32.toNatClampNeg 0) (mI μ20 a3 (Int32.toNatClampNeg 1))) fun μ28 =>
  ck (inb 2 (mL μ28 a3)) <|
  ck (inb 1 (mL μ28 p19)) <|
  zl (sI μ28 p19 (Int32.toNatClampNeg 1) (mI μ28 a3 (Int32.toNatClampNeg 2))) fun μ33 =>
  ck (mK μ33 a0 = 112) <|
  bd (f_X11_codeOf a0 a3 μ33) fun y37 =>
  bd (f_X11_isQueued y37) fun y39 =>
  if y39 = 0 then
    f_X11_tellsEnd_b67 a0 a3 ((-1)) 2 p19 p19 (mI μ13 a0 46) p16 μ33
  else
    ck (inb 3 (mL μ33 a3)) <|
    f_X11_tellsEnd_b67 a0 a3 (mI μ33 a3 (Int32.toNatClampNeg 3)) 2 p19 p19 (mI μ13 a0 46) p16 μ33
set_option maxRecDepth 100000 in
theorem s_X11_tellsEnd_b82 {l : Launch} {G : Gt} (hG : Gok l G) (a0 : Nat) (μ : Mm) (r : Unit) (μ' : Mm) (h : f_X11_tellsEnd_b82 a0 μ = some (r, μ')) : ZX l G mX11_tellsEnd 82 [(0, .ref a0)] [] μ (.inl none) μ' := by
  unfold f_X11_tellsEnd_b82 at h
  refine zx_aload_n dX11_tellsEnd_82 rfl (q := 0) rfl ?_
  refine zx_dup dX11_tellsEnd_83 rfl ?_
  obtain ⟨h65, h⟩ := ck_e h
  refine zx_getI hG fl_X11_150 h65 dX11_tellsEnd_84 ?_
  refine zx_iconst (v := 1) dX11_tellsEnd_87 iv_iconst_1 ?_
  refine zx_iadd dX11_tellsEnd_88 ?_
  refine zx_putI hG fl_X11_150 fn_12_46 h65 dX11_tellsEnd_89 ?_
  obtain ⟨μ66, e68, h⟩ := zlm_e h
  refine zx_mem e68 ?_
  have e67 : mK μ66 = mK μ := (congrArg mK e68).trans rfl
  cases h
  exact zx_vret dX11_tellsEnd_92 rfl
set_option maxRecDepth 100000 in
theorem s_X11_tellsEnd_b67 {l : Launch} {G : Gt} (hG : Gok l G) (a0 : Nat) (a3 : Nat) (s0 : Int32) (s1 : Int32) (s2 : Nat) (s3 : Nat) (s4 : Int32) (s5 : Nat) (μ : Mm) (r : Unit) (μ' : Mm) (h : f_X11_tellsEnd_b67 a0 a3 s0 s1 s2 s3 s4 s5 μ = some (r, μ')) : ZX l G mX11_tellsEnd 67 [(0, .ref a0), (3, .ref a3)] [.int s0, .int s1, .ref s2, .ref s3, .int s4, .ref s5] μ (.inl none) μ' := by
  unfold f_X11_tellsEnd_b67 at h
  obtain ⟨h43, h⟩ := ck_e h
  obtain ⟨h44, h⟩ := ck_e h
  refine zx_iast hG rfl (h43).1 (h43).2 (inb_e h44) dX11_tellsEnd_67 ?_
  obtain ⟨μ45, e47, h⟩ := zlm_e h
  refine zx_mem e47 ?_
  have e46 : mK μ45 = mK μ := (congrArg mK e47).trans rfl
  refine zx_dup dX11_tellsEnd_68 rfl ?_
  refine zx_iconst (v := 3) dX11_tellsEnd_69 iv_iconst_3 ?_
  refine zx_aload_n dX11_tellsEnd_70 rfl (q := 1) rfl ?_
  refine zx_iconst (v := 4) dX11_tellsEnd_71 iv_iconst_4 ?_
  obtain ⟨h48, h⟩ := ck_e h
  obtain ⟨h49, h⟩ := ck_e h
  refine zx_iald hG rfl (h48).1 (h48).2 (inb_e h49) dX11_tellsEnd_72 ?_
  obtain ⟨h50, h⟩ := ck_e h
  obtain ⟨h51, h⟩ := ck_e h
  refine zx_iast hG rfl (h50).1 (h50).2 (inb_e h51) dX11_tellsEnd_73 ?_
  obtain ⟨μ52, e54, h⟩ := zlm_e h
  refine zx_mem e54 ?_
  have e53 : mK μ52 = mK μ45 := (congrArg mK e54).trans rfl
  refine zx_dup dX11_tellsEnd_74 rfl ?_
  refine zx_iconst (v := 4) dX11_tellsEnd_75 iv_iconst_4 ?_
  refine zx_aload_n dX11_tellsEnd_76 rfl (q := 0) rfl ?_
  obtain ⟨h55, h⟩ := ck_e h
  refine zx_getI hG fl_X11_133 h55 dX11_tellsEnd_77 ?_
  obtain ⟨h56, h⟩ := ck_e h
  refine zx_iast hG rfl ((kp_a (e53) h50)).1 ((kp_a (e53) h50)).2 (inb_e h56) dX11_tellsEnd_80 ?_
  obtain ⟨μ57, e59, h⟩ := zlm_e h
  refine zx_mem e59 ?_
  have e58 : mK μ57 = mK μ52 := (congrArg mK e59).trans rfl
  obtain ⟨h60, h⟩ := ck_e h
  obtain ⟨h61, h⟩ := ck_e h
  refine zx_aastA hG rfl (h60).1 (h60).2 (inb_e h61) rfl ((kp_a (Eq.trans e58 e53) h50)).1 ((kp_a (Eq.trans e58 e53) h50)).2 dX11_tellsEnd_81 ?_
  obtain ⟨μ62, e64, h⟩ := zlm_e h
  refine zx_mem e64 ?_
  have e63 : mK μ62 = mK μ57 := (congrArg mK e64).trans rfl
  refine zx_sub (L' := [(0, .ref a0)]) [0] rfl ?_
  exact s_X11_tellsEnd_b82 hG _ _ _ _ h
set_option maxRecDepth 100000 in
theorem s_X11_tellsEnd {l : Launch} {G : Gt} (hG : Gok l G) (a0 : Nat) (x1 : Int32) (x2 : Int32) (a3 : Nat) (μ : Mm) (r : Unit) (μ' : Mm) (h : f_X11_tellsEnd a0 x1 x2 a3 μ = some (r, μ')) : ZX l G mX11_tellsEnd 0 [(0, .ref a0), (1, .int x1), (2, .int x2), (3, .ref a3)] [] μ (.inl none) μ' := by
  unfold f_X11_tellsEnd at h
  refine zx_aload_n dX11_tellsEnd_0 rfl (q := 0) rfl ?_
  obtain ⟨h1, h⟩ := ck_e h
  obtain ⟨p2, h3, h⟩ := bd_e h
  refine zx_getR hG fl_X11_101 h1 h3 dX11_tellsEnd_1 ?_
  refine zx_aload_n dX11_tellsEnd_4 rfl (q := 0) rfl ?_
  refine zx_getI hG fl_X11_150 h1 dX11_tellsEnd_5 ?_
  refine zx_iload_n dX11_tellsEnd_8 rfl (q := 1) rfl ?_
  obtain ⟨h4, h⟩ := ck_e h
  obtain ⟨h5, h⟩ := ck_e h
  refine zx_iast hG rfl (h4).1 (h4).2 (inb_e h5) dX11_tellsEnd_9 ?_
  obtain ⟨μ6, e8, h⟩ := zlm_e h
  refine zx_mem e8 ?_
  have e7 : mK μ6 = mK μ := (congrArg mK e8).trans rfl
  refine zx_aload_n dX11_tellsEnd_10 rfl (q := 0) rfl ?_
  obtain ⟨p9, h10, h⟩ := bd_e h
  refine zx_getR hG fl_X11_104 (kp_o (e7) h1) h10 dX11_tellsEnd_11 ?_
  refine zx_aload_n dX11_tellsEnd_14 rfl (q := 0) rfl ?_
  refine zx_getI hG fl_X11_150 (kp_o (e7) h1) dX11_tellsEnd_15 ?_
  refine zx_iload_n dX11_tellsEnd_18 rfl (q := 2) rfl ?_
  obtain ⟨h11, h⟩ := ck_e h
  obtain ⟨h12, h⟩ := ck_e h
  refine zx_iast hG rfl (h11).1 (h11).2 (inb_e h12) dX11_tellsEnd_19 ?_
  obtain ⟨μ13, e15, h⟩ := zlm_e h
  refine zx_mem e15 ?_
  have e14 : mK μ13 = mK μ6 := (congrArg mK e15).trans rfl
  refine zx_aload_n dX11_tellsEnd_20 rfl (q := 3) rfl ?_
  refine zx_ifnull_f dX11_tellsEnd_21 ?_
  refine zx_aload_n dX11_tellsEnd_24 rfl (q := 0) rfl ?_
  obtain ⟨p16, h17, h⟩ := bd_e h
  refine zx_getR hG fl_X11_108 (kp_o (Eq.trans e14 e7) h1) h17 dX11_tellsEnd_25 ?_
  refine zx_aload_n dX11_tellsEnd_28 rfl (q := 0) rfl ?_
  refine zx_getI hG fl_X11_150 (kp_o (Eq.trans e14 e7) h1) dX11_tellsEnd_29 ?_
  refine zx_iconst (v := 5) dX11_tellsEnd_32 iv_iconst_5 ?_
  obtain ⟨h18, h⟩ := ck_e h
  refine zx_newa 71 (at9 := .int) hG w_ac_int (by decide) (by decide) (smn_e h18) (h18).2 dX11_tellsEnd_33 ?_
  obtain ⟨p19, e22, h⟩ := zlm_e h
  obtain ⟨μ20, e23, h⟩ := zlm_e h
  refine zx_mem e23 (zx_stk e22 ?_)
  have h21 : mK μ20 p19 = 71 := nw_Kp e23 e22
  have h24 : isA 1 (mK μ20 p19) := by rw [h21]; decide
  refine zx_dup dX11_tellsEnd_35 rfl ?_
  refine zx_iconst (v := 0) dX11_tellsEnd_36 iv_iconst_0 ?_
  refine zx_aload_n dX11_tellsEnd_37 rfl (q := 3) rfl ?_
  refine zx_iconst (v := 1) dX11_tellsEnd_38 iv_iconst_1 ?_
  obtain ⟨h25, h⟩ := ck_e h
  obtain ⟨h26, h⟩ := ck_e h
  refine zx_iald hG rfl (h25).1 (h25).2 (inb_e h26) dX11_tellsEnd_39 ?_
  obtain ⟨h27, h⟩ := ck_e h
  refine zx_iast hG rfl (h24).1 (h24).2 (inb_e h27) dX11_tellsEnd_40 ?_
  obtain ⟨μ28, e30, h⟩ := zlm_e h
  refine zx_mem e30 ?_
  have e29 : mK μ28 = mK μ20 := (congrArg mK e30).trans rfl
  refine zx_dup dX11_tellsEnd_41 rfl ?_
  refine zx_iconst (v := 1) dX11_tellsEnd_42 iv_iconst_1 ?_
  refine zx_aload_n dX11_tellsEnd_43 rfl (q := 3) rfl ?_
  refine zx_iconst (v := 2) dX11_tellsEnd_44 iv_iconst_2 ?_
  obtain ⟨h31, h⟩ := ck_e h
  refine zx_iald hG rfl ((kp_a (e29) h25)).1 ((kp_a (e29) h25)).2 (inb_e h31) dX11_tellsEnd_45 ?_
  obtain ⟨h32, h⟩ := ck_e h
  refine zx_iast hG rfl ((kp_a (e29) h24)).1 ((kp_a (e29) h24)).2 (inb_e h32) dX11_tellsEnd_46 ?_
  obtain ⟨μ33, e35, h⟩ := zlm_e h
  refine zx_mem e35 ?_
  have e34 : mK μ33 = mK μ28 := (congrArg mK e35).trans rfl
  refine zx_dup dX11_tellsEnd_47 rfl ?_
  refine zx_iconst (v := 2) dX11_tellsEnd_48 iv_iconst_2 ?_
  refine zx_aload_n dX11_tellsEnd_49 rfl (q := 0) rfl ?_
  refine zx_aload_n dX11_tellsEnd_50 rfl (q := 3) rfl ?_
  obtain ⟨h36, h⟩ := ck_e h
  obtain ⟨y37, z38, h⟩ := bd_e h
  refine zx_callV (As := [.ref a3]) hG mf_X11_codeOf cv_X11_201 h36 ⟨by decide, by decide⟩ rfl rfl (Nat.le_of_ble_eq_true rfl) (s_X11_codeOf hG _ _ _ _ z38) (Nat.le_of_ble_eq_true rfl) dX11_tellsEnd_51 ?_
  obtain ⟨y39, z40, h⟩ := bd_e h
  refine zx_callS (As := [.int y37]) hG mf_X11_isQueued cs_X11_212 ⟨by decide, by decide⟩ rfl rfl (Nat.le_of_ble_eq_true rfl) (s_X11_isQueued hG _ _ _ z40) (Nat.le_of_ble_eq_true rfl) dX11_tellsEnd_54 ?_
  by_cases c41 : y39 = 0
  · have h := it_t c41 h
    refine zx_if_eq_t (tgt := 66) dX11_tellsEnd_57 (by decide) c41 ?_
    refine zx_iconst (v := (-1)) dX11_tellsEnd_66 iv_iconst_m1 ?_
    refine zx_sub (L' := [(0, .ref a0), (3, .ref a3)]) [0, 3] rfl ?_
    exact s_X11_tellsEnd_b67 hG _ _ _ _ _ _ _ _ _ _ _ h
  · have h := it_f c41 h
    refine zx_if_eq_f (tgt := 66) dX11_tellsEnd_57 (by decide) c41 ?_
    refine zx_aload_n dX11_tellsEnd_60 rfl (q := 3) rfl ?_
    refine zx_iconst (v := 3) dX11_tellsEnd_61 iv_iconst_3 ?_
    obtain ⟨h42, h⟩ := ck_e h
    refine zx_iald hG rfl ((kp_a (Eq.trans e34 e29) h25)).1 ((kp_a (Eq.trans e34 e29) h25)).2 (inb_e h42) dX11_tellsEnd_62 ?_
    refine zx_goto (tgt := 67) dX11_tellsEnd_63 (by decide) ?_
    refine zx_sub (L' := [(0, .ref a0), (3, .ref a3)]) [0, 3] rfl ?_
    exact s_X11_tellsEnd_b67 hG _ _ _ _ _ _ _ _ _ _ _ h
def f_X11_tellsEnd_n2_b82 (a0 : Nat) (μ : Mm) : Option (Unit × Mm) :=
  ck (mK μ a0 = 112) <|
  zl (sI μ a0 46 ((mI μ a0 46) + 1)) fun μ17 =>
  some ((), μ17)
def f_X11_tellsEnd_n2 (a0 : Nat) (x1 : Int32) (x2 : Int32) (μ : Mm) : Option (Unit × Mm) :=
  ck (mK μ a0 = 112) <|
  bd (mR μ a0 43) fun p2 =>
  ck (isA 1 (mK μ p2)) <|
  ck (inb (mI μ a0 46) (mL μ p2)) <|
  zl (sI μ p2 (Int32.toNatClampNeg (mI μ a0 46)) x1) fun μ6 =>
  bd (mR μ6 a0 44) fun p9 =>
  ck (isA 1 (mK μ6 p9)) <|
  ck (inb (mI μ6 a0 46) (mL μ6 p9)) <|
  zl (sI μ6 p9 (Int32.toNatClampNeg (mI μ6 a0 46)) x2) fun μ13 =>
  f_X11_tellsEnd_n2_b82 a0 μ13
set_option maxRecDepth 100000 in
theorem s_X11_tellsEnd_n2_b82 {l : Launch} {G : Gt} (hG : Gok l G) (a0 : Nat) (μ : Mm) (r : Unit) (μ' : Mm) (h : f_X11_tellsEnd_n2_b82 a0 μ = some (r, μ')) : ZX l G mX11_tellsEnd 82 [(0, .ref a0)] [] μ (.inl none) μ' := by
  unfold f_X11_tellsEnd_n2_b82 at h
  refine zx_aload_n dX11_tellsEnd_82 rfl (q := 0) rfl ?_
  refine zx_dup dX11_tellsEnd_83 rfl ?_
  obtain ⟨h16, h⟩ := ck_e h
  refine zx_getI hG fl_X11_150 h16 dX11_tellsEnd_84 ?_
  refine zx_iconst (v := 1) dX11_tellsEnd_87 iv_iconst_1 ?_
  refine zx_iadd dX11_tellsEnd_88 ?_
  refine zx_putI hG fl_X11_150 fn_12_46 h16 dX11_tellsEnd_89 ?_
  obtain ⟨μ17, e19, h⟩ := zlm_e h
  refine zx_mem e19 ?_
  have e18 : mK μ17 = mK μ := (congrArg mK e19).trans rfl
  cases h
  exact zx_vret dX11_tellsEnd_92 rfl
set_option maxRecDepth 100000 in
theorem s_X11_tellsEnd_n2 {l : Launch} {G : Gt} (hG : Gok l G) (a0 : Nat) (x1 : Int32) (x2 : Int32) (μ : Mm) (r : Unit) (μ' : Mm) (h : f_X11_tellsEnd_n2 a0 x1 x2 μ = some (r, μ')) : ZX l G mX11_tellsEnd 0 [(0, .ref a0), (1, .int x1), (2, .int x2), (3, .null)] [] μ (.inl none) μ' := by
  unfold f_X11_tellsEnd_n2 at h
  refine zx_aload_n dX11_tellsEnd_0 rfl (q := 0) rfl ?_
  obtain ⟨h1, h⟩ := ck_e h
  obtain ⟨p2, h3, h⟩ := bd_e h
  refine zx_getR hG fl_X11_101 h1 h3 dX11_tellsEnd_1 ?_
  refine zx_aload_n dX11_tellsEnd_4 rfl (q := 0) rfl ?_
  refine zx_getI hG fl_X11_150 h1 dX11_tellsEnd_5 ?_
  refine zx_iload_n dX11_tellsEnd_8 rfl (q := 1) rfl ?_
  obtain ⟨h4, h⟩ := ck_e h
  obtain ⟨h5, h⟩ := ck_e h
  refine zx_iast hG rfl (h4).1 (h4).2 (inb_e h5) dX11_tellsEnd_9 ?_
  obtain ⟨μ6, e8, h⟩ := zlm_e h
  refine zx_mem e8 ?_
  have e7 : mK μ6 = mK μ := (congrArg mK e8).trans rfl
  refine zx_aload_n dX11_tellsEnd_10 rfl (q := 0) rfl ?_
  obtain ⟨p9, h10, h⟩ := bd_e h
  refine zx_getR hG fl_X11_104 (kp_o (e7) h1) h10 dX11_tellsEnd_11 ?_
  refine zx_aload_n dX11_tellsEnd_14 rfl (q := 0) rfl ?_
  refine zx_getI hG fl_X11_150 (kp_o (e7) h1) dX11_tellsEnd_15 ?_
  refine zx_iload_n dX11_tellsEnd_18 rfl (q := 2) rfl ?_
  obtain ⟨h11, h⟩ := ck_e h
  obtain ⟨h12, h⟩ := ck_e h
  refine zx_iast hG rfl (h11).1 (h11).2 (inb_e h12) dX11_tellsEnd_19 ?_
  obtain ⟨μ13, e15, h⟩ := zlm_e h
  refine zx_mem e15 ?_
  have e14 : mK μ13 = mK μ6 := (congrArg mK e15).trans rfl
  refine zx_aload_nN dX11_tellsEnd_20 rfl (q := 3) rfl ?_
  refine zx_ifnull_t (tgt := 82) dX11_tellsEnd_21 (by decide) ?_
  refine zx_sub (L' := [(0, .ref a0)]) [0] rfl ?_
  exact s_X11_tellsEnd_n2_b82 hG _ _ _ _ h
def f_X11_handles (a0 : Nat) (x1 : Int32) (x2 : Int32) (μ : Mm) : Option (Unit × Mm) :=
  ck (mK μ a0 = 112) <|
  cl (f_X11_throwsFrom a0 0 μ) fun _ μ4 =>
  ck (mK μ4 a0 = 112) <|
  bd (mR μ4 a0 28) fun p6 =>
  ck (isA 1 (mK μ4 p6)) <|
  ck (inb 0 (mL μ4 p6)) <|
  zl (sI μ4 p6 (Int32.toNatClampNeg 0) 0) fun μ10 =>
  zl (sI μ10 a0 40 x1) fun μ13 =>
  zl (sI μ13 a0 39 1) fun μ16 =>
  cl (f_X11_goesOn a0 x2 μ16) fun _ μ21 =>
  ck (mK μ21 a0 = 112) <|
  zl (sI μ21 a0 41 x2) fun μ23 =>
  some ((), μ23)
set_option maxRecDepth 100000 in
theorem s_X11_handles {l : Launch} {G : Gt} (hG : Gok l G) (a0 : Nat) (x1 : Int32) (x2 : Int32) (μ : Mm) (r : Unit) (μ' : Mm) (h : f_X11_handles a0 x1 x2 μ = some (r, μ')) : ZX l G mX11_handles 0 [(0, .ref a0), (1, .int x1), (2, .int x2)] [] μ (.inl none) μ' := by
  unfold f_X11_handles at h
  refine zx_aload_n dX11_handles_0 rfl (q := 0) rfl ?_
  refine zx_iconst (v := 0) dX11_handles_1 iv_iconst_0 ?_
  obtain ⟨h1, h⟩ := ck_e h
  obtain ⟨uu2, μ4, z3, h⟩ := cl_e h
  refine zx_callV (As := [.int 0]) hG mf_X11_throwsFrom cv_X11_277 h1 ⟨by decide, by decide⟩ rfl rfl (Nat.le_of_ble_eq_true rfl) (s_X11_throwsFrom hG _ _ _ _ _ z3) (Nat.le_of_ble_eq_true rfl) dX11_handles_2 ?_
  refine zx_aload_n dX11_handles_5 rfl (q := 0) rfl ?_
  obtain ⟨h5, h⟩ := ck_e h
  obtain ⟨p6, h7, h⟩ := bd_e h
  refine zx_getR hG fl_X11_80 h5 h7 dX11_handles_6 ?_
  refine zx_iconst (v := 0) dX11_handles_9 iv_iconst_0 ?_
  refine zx_iconst (v := 0) dX11_handles_10 iv_iconst_0 ?_
  obtain ⟨h8, h⟩ := ck_e h
  obtain ⟨h9, h⟩ := ck_e h
  refine zx_iast hG rfl (h8).1 (h8).2 (inb_e h9) dX11_handles_11 ?_
  obtain ⟨μ10, e12, h⟩ := zlm_e h
  refine zx_mem e12 ?_
  have e11 : mK μ10 = mK μ4 := (congrArg mK e12).trans rfl
  refine zx_aload_n dX11_handles_12 rfl (q := 0) rfl ?_
  refine zx_iload_n dX11_handles_13 rfl (q := 1) rfl ?_
  refine zx_putI hG fl_X11_288 fn_12_40 (kp_o (e11) h5) dX11_handles_14 ?_
  obtain ⟨μ13, e15, h⟩ := zlm_e h
  refine zx_mem e15 ?_
  have e14 : mK μ13 = mK μ10 := (congrArg mK e15).trans rfl
  refine zx_aload_n dX11_handles_17 rfl (q := 0) rfl ?_
  refine zx_iconst (v := 1) dX11_handles_18 iv_iconst_1 ?_
  refine zx_putZ hG fl_X11_291 fn_12_39 (kp_o (Eq.trans e14 e11) h5) zb_1 dX11_handles_19 ?_
  obtain ⟨μ16, e18, h⟩ := zlm_e h
  refine zx_mem e18 ?_
  have e17 : mK μ16 = mK μ13 := (congrArg mK e18).trans rfl
  refine zx_aload_n dX11_handles_22 rfl (q := 0) rfl ?_
  refine zx_iload_n dX11_handles_23 rfl (q := 2) rfl ?_
  obtain ⟨uu19, μ21, z20, h⟩ := cl_e h
  refine zx_callV (As := [.int x2]) hG mf_X11_goesOn cv_X11_274 (kp_o (Eq.trans (Eq.trans e17 e14) e11) h5) ⟨by decide, by decide⟩ rfl rfl (Nat.le_of_ble_eq_true rfl) (s_X11_goesOn hG _ _ _ _ _ z20) (Nat.le_of_ble_eq_true rfl) dX11_handles_24 ?_
  refine zx_aload_n dX11_handles_27 rfl (q := 0) rfl ?_
  refine zx_iload_n dX11_handles_28 rfl (q := 2) rfl ?_
  obtain ⟨h22, h⟩ := ck_e h
  refine zx_putI hG fl_X11_294 fn_12_41 h22 dX11_handles_29 ?_
  obtain ⟨μ23, e25, h⟩ := zlm_e h
  refine zx_mem e25 ?_
  have e24 : mK μ23 = mK μ21 := (congrArg mK e25).trans rfl
  cases h
  exact zx_vret dX11_handles_32 rfl
def f_X11_reason (x0 : Int32) : Option Int32 :=
  if (Int32.toInt x0) < 98 ∨ 120 < (Int32.toInt x0) then
    some ((-1))
  else if x0 = 98 then
      some 6
  else if x0 = 99 then
      some ((-1))
  else if x0 = 100 then
      some 7
  else if x0 = 101 then
      some ((-1))
  else if x0 = 102 then
      some 2
  else if x0 = 103 then
      some ((-1))
  else if x0 = 104 then
      some ((-1))
  else if x0 = 105 then
      some 0
  else if x0 = 106 then
      some ((-1))
  else if x0 = 107 then
      some ((-1))
  else if x0 = 108 then
      some ((-1))
  else if x0 = 109 then
      some 5
  else if x0 = 110 then
      some ((-1))
  else if x0 = 111 then
      some ((-1))
  else if x0 = 112 then
      some ((-1))
  else if x0 = 113 then
      some 3
  else if x0 = 114 then
      some ((-1))
  else if x0 = 115 then
      some ((-1))
  else if x0 = 116 then
      some 1
  else if x0 = 117 then
      some ((-1))
  else if x0 = 118 then
      some ((-1))
  else if x0 = 119 then
      some ((-1))
  else if x0 = 120 then
      some 4
  else
    none
set_option maxRecDepth 100000 in
theorem s_X11_reason {l : Launch} {G : Gt} (hG : Gok l G) (x0 : Int32) (μ : Mm) (r : Int32) (h : f_X11_reason x0 = some r) : ZX l G mX11_reason 0 [(0, .int x0)] [] μ (.inl (some (.int r))) μ := by
  unfold f_X11_reason at h
  refine zx_iload_n dX11_reason_0 rfl (q := 0) rfl ?_
  by_cases c1 : (Int32.toInt x0) < 98 ∨ 120 < (Int32.toInt x0)
  · have h := it_t c1 h
    refine zx_tsOut dX11_reason_1 c1 (tgt := 126) (by decide) ?_
    refine zx_iconst (v := (-1)) dX11_reason_126 iv_iconst_m1 ?_
    cases h
    exact zx_iret dX11_reason_127 rfl
  · have h := it_f c1 h
    by_cases c2 : x0 = 98
    · have h := it_t c2 h
      refine zx_tsIn dX11_reason_1 (by rw [c2]; decide) (by rw [c2]; decide) (off := 119) (tgt := 120) (by rw [c2]; decide) (by decide) ?_
      refine zx_bipush (v := 6) dX11_reason_120 iv_bipush_6 ?_
      cases h
      exact zx_iret dX11_reason_122 rfl
    have h := it_f c2 h
    by_cases c3 : x0 = 99
    · have h := it_t c3 h
      refine zx_tsIn dX11_reason_1 (by rw [c3]; decide) (by rw [c3]; decide) (off := 125) (tgt := 126) (by rw [c3]; decide) (by decide) ?_
      refine zx_iconst (v := (-1)) dX11_reason_126 iv_iconst_m1 ?_
      cases h
      exact zx_iret dX11_reason_127 rfl
    have h := it_f c3 h
    by_cases c4 : x0 = 100
    · have h := it_t c4 h
      refine zx_tsIn dX11_reason_1 (by rw [c4]; decide) (by rw [c4]; decide) (off := 122) (tgt := 123) (by rw [c4]; decide) (by decide) ?_
      refine zx_bipush (v := 7) dX11_reason_123 iv_bipush_7 ?_
      cases h
      exact zx_iret dX11_reason_125 rfl
    have h := it_f c4 h
    by_cases c5 : x0 = 101
    · have h := it_t c5 h
      refine zx_tsIn dX11_reason_1 (by rw [c5]; decide) (by rw [c5]; decide) (off := 125) (tgt := 126) (by rw [c5]; decide) (by decide) ?_
      refine zx_iconst (v := (-1)) dX11_reason_126 iv_iconst_m1 ?_
      cases h
      exact zx_iret dX11_reason_127 rfl
    have h := it_f c5 h
    by_cases c6 : x0 = 102
    · have h := it_t c6 h
      refine zx_tsIn dX11_reason_1 (by rw [c6]; decide) (by rw [c6]; decide) (off := 111) (tgt := 112) (by rw [c6]; decide) (by decide) ?_
      refine zx_iconst (v := 2) dX11_reason_112 iv_iconst_2 ?_
      cases h
      exact zx_iret dX11_reason_113 rfl
    have h := it_f c6 h
    by_cases c7 : x0 = 103
    · have h := it_t c7 h
      refine zx_tsIn dX11_reason_1 (by rw [c7]; decide) (by rw [c7]; decide) (off := 125) (tgt := 126) (by rw [c7]; decide) (by decide) ?_
      refine zx_iconst (v := (-1)) dX11_reason_126 iv_iconst_m1 ?_
      cases h
      exact zx_iret dX11_reason_127 rfl
    have h := it_f c7 h
    by_cases c8 : x0 = 104
    · have h := it_t c8 h
      refine zx_tsIn dX11_reason_1 (by rw [c8]; decide) (by rw [c8]; decide) (off := 125) (tgt := 126) (by rw [c8]; decide) (by decide) ?_
      refine zx_iconst (v := (-1)) dX11_reason_126 iv_iconst_m1 ?_
      cases h
      exact zx_iret dX11_reason_127 rfl
    have h := it_f c8 h
    by_cases c9 : x0 = 105
    · have h := it_t c9 h
      refine zx_tsIn dX11_reason_1 (by rw [c9]; decide) (by rw [c9]; decide) (off := 107) (tgt := 108) (by rw [c9]; decide) (by decide) ?_
      refine zx_iconst (v := 0) dX11_reason_108 iv_iconst_0 ?_
      cases h
      exact zx_iret dX11_reason_109 rfl
    have h := it_f c9 h
    by_cases c10 : x0 = 106
    · have h := it_t c10 h
      refine zx_tsIn dX11_reason_1 (by rw [c10]; decide) (by rw [c10]; decide) (off := 125) (tgt := 126) (by rw [c10]; decide) (by decide) ?_
      refine zx_iconst (v := (-1)) dX11_reason_126 iv_iconst_m1 ?_
      cases h
      exact zx_iret dX11_reason_127 rfl
    have h := it_f c10 h
    by_cases c11 : x0 = 107
    · have h := it_t c11 h
      refine zx_tsIn dX11_reason_1 (by rw [c11]; decide) (by rw [c11]; decide) (off := 125) (tgt := 126) (by rw [c11]; decide) (by decide) ?_
      refine zx_iconst (v := (-1)) dX11_reason_126 iv_iconst_m1 ?_
      cases h
      exact zx_iret dX11_reason_127 rfl
    have h := it_f c11 h
    by_cases c12 : x0 = 108
    · have h := it_t c12 h
      refine zx_tsIn dX11_reason_1 (by rw [c12]; decide) (by rw [c12]; decide) (off := 125) (tgt := 126) (by rw [c12]; decide) (by decide) ?_
      refine zx_iconst (v := (-1)) dX11_reason_126 iv_iconst_m1 ?_
      cases h
      exact zx_iret dX11_reason_127 rfl
    have h := it_f c12 h
    by_cases c13 : x0 = 109
    · have h := it_t c13 h
      refine zx_tsIn dX11_reason_1 (by rw [c13]; decide) (by rw [c13]; decide) (off := 117) (tgt := 118) (by rw [c13]; decide) (by decide) ?_
      refine zx_iconst (v := 5) dX11_reason_118 iv_iconst_5 ?_
      cases h
      exact zx_iret dX11_reason_119 rfl
    have h := it_f c13 h
    by_cases c14 : x0 = 110
    · have h := it_t c14 h
      refine zx_tsIn dX11_reason_1 (by rw [c14]; decide) (by rw [c14]; decide) (off := 125) (tgt := 126) (by rw [c14]; decide) (by decide) ?_
      refine zx_iconst (v := (-1)) dX11_reason_126 iv_iconst_m1 ?_
      cases h
      exact zx_iret dX11_reason_127 rfl
    have h := it_f c14 h
    by_cases c15 : x0 = 111
    · have h := it_t c15 h
      refine zx_tsIn dX11_reason_1 (by rw [c15]; decide) (by rw [c15]; decide) (off := 125) (tgt := 126) (by rw [c15]; decide) (by decide) ?_
      refine zx_iconst (v := (-1)) dX11_reason_126 iv_iconst_m1 ?_
      cases h
      exact zx_iret dX11_reason_127 rfl
    have h := it_f c15 h
    by_cases c16 : x0 = 112
    · have h := it_t c16 h
      refine zx_tsIn dX11_reason_1 (by rw [c16]; decide) (by rw [c16]; decide) (off := 125) (tgt := 126) (by rw [c16]; decide) (by decide) ?_
      refine zx_iconst (v := (-1)) dX11_reason_126 iv_iconst_m1 ?_
      cases h
      exact zx_iret dX11_reason_127 rfl
    have h := it_f c16 h
    by_cases c17 : x0 = 113
    · have h := it_t c17 h
      refine zx_tsIn dX11_reason_1 (by rw [c17]; decide) (by rw [c17]; decide) (off := 113) (tgt := 114) (by rw [c17]; decide) (by decide) ?_
      refine zx_iconst (v := 3) dX11_reason_114 iv_iconst_3 ?_
      cases h
      exact zx_iret dX11_reason_115 rfl
    have h := it_f c17 h
    by_cases c18 : x0 = 114
    · have h := it_t c18 h
      refine zx_tsIn dX11_reason_1 (by rw [c18]; decide) (by rw [c18]; decide) (off := 125) (tgt := 126) (by rw [c18]; decide) (by decide) ?_
      refine zx_iconst (v := (-1)) dX11_reason_126 iv_iconst_m1 ?_
      cases h
      exact zx_iret dX11_reason_127 rfl
    have h := it_f c18 h
    by_cases c19 : x0 = 115
    · have h := it_t c19 h
      refine zx_tsIn dX11_reason_1 (by rw [c19]; decide) (by rw [c19]; decide) (off := 125) (tgt := 126) (by rw [c19]; decide) (by decide) ?_
      refine zx_iconst (v := (-1)) dX11_reason_126 iv_iconst_m1 ?_
      cases h
      exact zx_iret dX11_reason_127 rfl
    have h := it_f c19 h
    by_cases c20 : x0 = 116
    · have h := it_t c20 h
      refine zx_tsIn dX11_reason_1 (by rw [c20]; decide) (by rw [c20]; decide) (off := 109) (tgt := 110) (by rw [c20]; decide) (by decide) ?_
      refine zx_iconst (v := 1) dX11_reason_110 iv_iconst_1 ?_
      cases h
      exact zx_iret dX11_reason_111 rfl
    have h := it_f c20 h
    by_cases c21 : x0 = 117
    · have h := it_t c21 h
      refine zx_tsIn dX11_reason_1 (by rw [c21]; decide) (by rw [c21]; decide) (off := 125) (tgt := 126) (by rw [c21]; decide) (by decide) ?_
      refine zx_iconst (v := (-1)) dX11_reason_126 iv_iconst_m1 ?_
      cases h
      exact zx_iret dX11_reason_127 rfl
    have h := it_f c21 h
    by_cases c22 : x0 = 118
    · have h := it_t c22 h
      refine zx_tsIn dX11_reason_1 (by rw [c22]; decide) (by rw [c22]; decide) (off := 125) (tgt := 126) (by rw [c22]; decide) (by decide) ?_
      refine zx_iconst (v := (-1)) dX11_reason_126 iv_iconst_m1 ?_
      cases h
      exact zx_iret dX11_reason_127 rfl
    have h := it_f c22 h
    by_cases c23 : x0 = 119
    · have h := it_t c23 h
      refine zx_tsIn dX11_reason_1 (by rw [c23]; decide) (by rw [c23]; decide) (off := 125) (tgt := 126) (by rw [c23]; decide) (by decide) ?_
      refine zx_iconst (v := (-1)) dX11_reason_126 iv_iconst_m1 ?_
      cases h
      exact zx_iret dX11_reason_127 rfl
    have h := it_f c23 h
    by_cases c24 : x0 = 120
    · have h := it_t c24 h
      refine zx_tsIn dX11_reason_1 (by rw [c24]; decide) (by rw [c24]; decide) (off := 115) (tgt := 116) (by rw [c24]; decide) (by decide) ?_
      refine zx_iconst (v := 4) dX11_reason_116 iv_iconst_4 ?_
      cases h
      exact zx_iret dX11_reason_117 rfl
    have h := it_f c24 h
    cases h
def f_X11_loses (a0 : Nat) (x1 : Int32) (μ : Mm) : Option (Unit × Mm) :=
  bd (f_X11_reason x1) fun y1 =>
  if y1 = ((-1)) then
    some ((), μ)
  else
    ck (mK μ a0 = 112) <|
    bd (mR μ a0 47) fun p5 =>
    bd (f_X11_reason x1) fun y7 =>
    ck (isA 1 (mK μ p5)) <|
    ck (inb y7 (mL μ p5)) <|
    ck (inb y7 (mL μ p5)) <|
    zl (sI μ p5 (Int32.toNatClampNeg y7) ((mI μ p5 (Int32.toNatClampNeg y7)) + 1)) fun μ12 =>
    some ((), μ12)
set_option maxRecDepth 100000 in
theorem s_X11_loses {l : Launch} {G : Gt} (hG : Gok l G) (a0 : Nat) (x1 : Int32) (μ : Mm) (r : Unit) (μ' : Mm) (h : f_X11_loses a0 x1 μ = some (r, μ')) : ZX l G mX11_loses 0 [(0, .ref a0), (1, .int x1)] [] μ (.inl none) μ' := by
  unfold f_X11_loses at h
  refine zx_iload_n dX11_loses_0 rfl (q := 1) rfl ?_
  obtain ⟨y1, z2, h⟩ := bd_e h
  refine zx_callS (As := [.int x1]) hG mf_X11_reason cs_X11_324 ⟨by decide, by decide⟩ rfl rfl (Nat.le_of_ble_eq_true rfl) (s_X11_reason hG _ _ _ z2) (Nat.le_of_ble_eq_true rfl) dX11_loses_1 ?_
  refine zx_iconst (v := (-1)) dX11_loses_4 iv_iconst_m1 ?_
  by_cases c3 : y1 = ((-1))
  · have h := it_t c3 h
    refine zx_icmp_eq_t (tgt := 21) dX11_loses_5 (by decide) c3 ?_
    cases h
    exact zx_vret dX11_loses_21 rfl
  · have h := it_f c3 h
    refine zx_icmp_eq_f (tgt := 21) dX11_loses_5 (by decide) c3 ?_
    refine zx_aload_n dX11_loses_8 rfl (q := 0) rfl ?_
    obtain ⟨h4, h⟩ := ck_e h
    obtain ⟨p5, h6, h⟩ := bd_e h
    refine zx_getR hG fl_X11_111 h4 h6 dX11_loses_9 ?_
    refine zx_iload_n dX11_loses_12 rfl (q := 1) rfl ?_
    obtain ⟨y7, z8, h⟩ := bd_e h
    refine zx_callS (As := [.int x1]) hG mf_X11_reason cs_X11_324 ⟨by decide, by decide⟩ rfl rfl (Nat.le_of_ble_eq_true rfl) (s_X11_reason hG _ _ _ z8) (Nat.le_of_ble_eq_true rfl) dX11_loses_13 ?_
    refine zx_dup2 dX11_loses_16 rfl rfl ?_
    obtain ⟨h9, h⟩ := ck_e h
    obtain ⟨h10, h⟩ := ck_e h
    refine zx_iald hG rfl (h9).1 (h9).2 (inb_e h10) dX11_loses_17 ?_
    refine zx_iconst (v := 1) dX11_loses_18 iv_iconst_1 ?_
    refine zx_iadd dX11_loses_19 ?_
    obtain ⟨h11, h⟩ := ck_e h
    refine zx_iast hG rfl (h9).1 (h9).2 (inb_e h11) dX11_loses_20 ?_
    obtain ⟨μ12, e14, h⟩ := zlm_e h
    refine zx_mem e14 ?_
    have e13 : mK μ12 = mK μ := (congrArg mK e14).trans rfl
    cases h
    exact zx_vret dX11_loses_21 rfl
def f_X11_traps_b26 (a0 : Nat) (μ : Mm) : Option (Unit × Mm) :=
  ck (mK μ a0 = 112) <|
  cl (f_X11_throwsFrom a0 0 μ) fun _ μ16 =>
  ck (mK μ16 a0 = 112) <|
  bd (mR μ16 a0 28) fun p18 =>
  ck (isA 1 (mK μ16 p18)) <|
  ck (inb 0 (mL μ16 p18)) <|
  zl (sI μ16 p18 (Int32.toNatClampNeg 0) 0) fun μ22 =>
  zl (sI μ22 a0 25 0) fun μ25 =>
  zl (sI μ25 a0 27 1) fun μ28 =>
  zl (sI μ28 a0 37 1) fun μ31 =>
  some ((), μ31)
def f_X11_traps (a0 : Nat) (a1 : Nat) (x2 : Int32) (μ : Mm) : Option (Unit × Mm) :=
  ck (isA 1 (mK μ a1)) <|
  ck (inb 0 (mL μ a1)) <|
  ck (mK μ a0 = 112) <|
  cl (f_X11_tellsEnd a0 x2 (mI μ a1 (Int32.toNatClampNeg 0)) a1 μ) fun _ μ6 =>
  ck (mK μ6 a0 = 112) <|
  if ¬ (zb (mI μ6 a0 39)) = 0 then
    f_X11_traps_b26 a0 μ6
  else
    if ¬ (mI μ6 a0 10) = ((-1)) then
      cl (f_X11_handles a0 ((mI μ a1 (Int32.toNatClampNeg 0)) + 1) (mI μ6 a0 10) μ6) fun _ μ12 =>
      some ((), μ12)
    else
      f_X11_traps_b26 a0 μ6
set_option maxRecDepth 100000 in
theorem s_X11_traps_b26 {l : Launch} {G : Gt} (hG : Gok l G) (a0 : Nat) (μ : Mm) (r : Unit) (μ' : Mm) (h : f_X11_traps_b26 a0 μ = some (r, μ')) : ZX l G mX11_traps 26 [(0, .ref a0)] [] μ (.inl none) μ' := by
  unfold f_X11_traps_b26 at h
  refine zx_aload_n dX11_traps_26 rfl (q := 0) rfl ?_
  refine zx_iconst (v := 0) dX11_traps_27 iv_iconst_0 ?_
  obtain ⟨h13, h⟩ := ck_e h
  obtain ⟨uu14, μ16, z15, h⟩ := cl_e h
  refine zx_callV (As := [.int 0]) hG mf_X11_throwsFrom cv_X11_277 h13 ⟨by decide, by decide⟩ rfl rfl (Nat.le_of_ble_eq_true rfl) (s_X11_throwsFrom hG _ _ _ _ _ z15) (Nat.le_of_ble_eq_true rfl) dX11_traps_28 ?_
  refine zx_aload_n dX11_traps_31 rfl (q := 0) rfl ?_
  obtain ⟨h17, h⟩ := ck_e h
  obtain ⟨p18, h19, h⟩ := bd_e h
  refine zx_getR hG fl_X11_80 h17 h19 dX11_traps_32 ?_
  refine zx_iconst (v := 0) dX11_traps_35 iv_iconst_0 ?_
  refine zx_iconst (v := 0) dX11_traps_36 iv_iconst_0 ?_
  obtain ⟨h20, h⟩ := ck_e h
  obtain ⟨h21, h⟩ := ck_e h
  refine zx_iast hG rfl (h20).1 (h20).2 (inb_e h21) dX11_traps_37 ?_
  obtain ⟨μ22, e24, h⟩ := zlm_e h
  refine zx_mem e24 ?_
  have e23 : mK μ22 = mK μ16 := (congrArg mK e24).trans rfl
  refine zx_aload_n dX11_traps_38 rfl (q := 0) rfl ?_
  refine zx_iconst (v := 0) dX11_traps_39 iv_iconst_0 ?_
  refine zx_putI hG fl_X11_177 fn_12_25 (kp_o (e23) h17) dX11_traps_40 ?_
  obtain ⟨μ25, e27, h⟩ := zlm_e h
  refine zx_mem e27 ?_
  have e26 : mK μ25 = mK μ22 := (congrArg mK e27).trans rfl
  refine zx_aload_n dX11_traps_43 rfl (q := 0) rfl ?_
  refine zx_iconst (v := 1) dX11_traps_44 iv_iconst_1 ?_
  refine zx_putZ hG fl_X11_174 fn_12_27 (kp_o (Eq.trans e26 e23) h17) zb_1 dX11_traps_45 ?_
  obtain ⟨μ28, e30, h⟩ := zlm_e h
  refine zx_mem e30 ?_
  have e29 : mK μ28 = mK μ25 := (congrArg mK e30).trans rfl
  refine zx_aload_n dX11_traps_48 rfl (q := 0) rfl ?_
  refine zx_iconst (v := 1) dX11_traps_49 iv_iconst_1 ?_
  refine zx_putZ hG fl_X11_147 fn_12_37 (kp_o (Eq.trans (Eq.trans e29 e26) e23) h17) zb_1 dX11_traps_50 ?_
  obtain ⟨μ31, e33, h⟩ := zlm_e h
  refine zx_mem e33 ?_
  have e32 : mK μ31 = mK μ28 := (congrArg mK e33).trans rfl
  cases h
  exact zx_vret dX11_traps_53 rfl
set_option maxRecDepth 100000 in
theorem s_X11_traps {l : Launch} {G : Gt} (hG : Gok l G) (a0 : Nat) (a1 : Nat) (x2 : Int32) (μ : Mm) (r : Unit) (μ' : Mm) (h : f_X11_traps a0 a1 x2 μ = some (r, μ')) : ZX l G mX11_traps 0 [(0, .ref a0), (1, .ref a1), (2, .int x2)] [] μ (.inl none) μ' := by
  unfold f_X11_traps at h
  refine zx_aload_n dX11_traps_0 rfl (q := 1) rfl ?_
  refine zx_iconst (v := 0) dX11_traps_1 iv_iconst_0 ?_
  obtain ⟨h1, h⟩ := ck_e h
  obtain ⟨h2, h⟩ := ck_e h
  refine zx_iald hG rfl (h1).1 (h1).2 (inb_e h2) dX11_traps_2 ?_
  refine zx_istore_n (L' := [(3, .int (mI μ a1 (Int32.toNatClampNeg 0))), (0, .ref a0), (1, .ref a1), (2, .int x2)]) dX11_traps_3 rfl (by decide) rfl ?_
  refine zx_aload_n dX11_traps_4 rfl (q := 1) rfl ?_
  refine zx_iload_n dX11_traps_5 rfl (q := 3) rfl ?_
  refine zx_iload_n dX11_traps_6 rfl (q := 0) rfl ?_
  refine zx_aload_n dX11_traps_7 rfl (q := 2) rfl ?_
  obtain ⟨h3, h⟩ := ck_e h
  obtain ⟨uu4, μ6, z5, h⟩ := cl_e h
  refine zx_callV (As := [.int x2, .int (mI μ a1 (Int32.toNatClampNeg 0)), .ref a1]) hG mf_X11_tellsEnd cv_X11_297 h3 ⟨by decide, by decide⟩ rfl rfl (Nat.le_of_ble_eq_true rfl) (s_X11_tellsEnd hG _ _ _ _ _ _ _ z5) (Nat.le_of_ble_eq_true rfl) dX11_traps_8 ?_
  refine zx_aload_n dX11_traps_11 rfl (q := 1) rfl ?_
  obtain ⟨h7, h⟩ := ck_e h
  refine zx_getZ hG fl_X11_291 h7 dX11_traps_12 ?_
  by_cases c8 : ¬ (zb (mI μ6 a0 39)) = 0
  · have h := it_t c8 h
    refine zx_if_ne_t (tgt := 26) dX11_traps_15 (by decide) c8 ?_
    refine zx_sub (L' := [(0, .ref a0)]) [1] rfl ?_
    exact s_X11_traps_b26 hG _ _ _ _ h
  · have h := it_f c8 h
    refine zx_if_ne_f (tgt := 26) dX11_traps_15 (by decide) (Classical.not_not.mp c8) ?_
    refine zx_aload_n dX11_traps_18 rfl (q := 1) rfl ?_
    refine zx_getI hG fl_X11_38 h7 dX11_traps_19 ?_
    refine zx_iconst (v := (-1)) dX11_traps_22 iv_iconst_m1 ?_
    by_cases c9 : ¬ (mI μ6 a0 10) = ((-1))
    · have h := it_t c9 h
      refine zx_icmp_ne_t (tgt := 54) dX11_traps_23 (by decide) c9 ?_
      refine zx_aload_n dX11_traps_54 rfl (q := 1) rfl ?_
      refine zx_iload_n dX11_traps_55 rfl (q := 0) rfl ?_
      refine zx_iconst (v := 1) dX11_traps_56 iv_iconst_1 ?_
      refine zx_iadd dX11_traps_57 ?_
      refine zx_aload_n dX11_traps_58 rfl (q := 1) rfl ?_
      refine zx_getI hG fl_X11_38 h7 dX11_traps_59 ?_
      obtain ⟨uu10, μ12, z11, h⟩ := cl_e h
      refine zx_callV (As := [.int ((mI μ a1 (Int32.toNatClampNeg 0)) + 1), .int (mI μ6 a0 10)]) hG mf_X11_handles cv_X11_301 h7 ⟨by decide, by decide⟩ rfl rfl (Nat.le_of_ble_eq_true rfl) (s_X11_handles hG _ _ _ _ _ _ z11) (Nat.le_of_ble_eq_true rfl) dX11_traps_62 ?_
      cases h
      exact zx_vret dX11_traps_65 rfl
    · have h := it_f c9 h
      refine zx_icmp_ne_f (tgt := 54) dX11_traps_23 (by decide) (Classical.not_not.mp c9) ?_
      refine zx_sub (L' := [(0, .ref a0)]) [1] rfl ?_
      exact s_X11_traps_b26 hG _ _ _ _ h
def f_X11_leaves_b47 (a0 : Nat) (a1 : Nat) (μ : Mm) : Option (Unit × Mm) :=
  ck (mK μ a0 = 112) <|
  bd (mR μ a0 22) fun p28 =>
  ck (isA 5 (mK μ p28)) <|
  ck (isA 1 (mK μ a1)) <|
  ck (inb (mI μ a0 23) (mL μ p28)) <|
  zl (sR μ p28 (Int32.toNatClampNeg (mI μ a0 23)) (some a1)) fun μ33 =>
  some ((), μ33)
def f_X11_leaves_b19 : Nat → Nat → Nat → Int32 → Mm → Option (Unit × Mm)
  | 0, _, _, _, _ => none
  | n + 1, a0, a1, x2, μ =>
  ck (mK μ a0 = 112) <|
  if (mI μ a0 23) ≤ x2 then
    f_X11_leaves_b47 a0 a1 μ
  else
    bd (mR μ a0 22) fun p13 =>
    bd (mR μ a0 22) fun p15 =>
    ck (isA56 (mK μ p15)) <|
    ck (inb (x2 + 1) (mL μ p15)) <|
    bd (mR μ p15 (Int32.toNatClampNeg (x2 + 1))) fun p19 =>
    ck (isA 5 (mK μ p13)) <|
    ck (isA 1 (mK μ p19)) <|
    ck (inb x2 (mL μ p13)) <|
    zl (sR μ p13 (Int32.toNatClampNeg x2) (some p19)) fun μ24 =>
    f_X11_leaves_b19 n a0 a1 (x2 + 1) μ24
def f_X11_leaves (a0 : Nat) (μ : Mm) : Option (Unit × Mm) :=
  ck (mK μ a0 = 112) <|
  zl (sI μ a0 23 ((mI μ a0 23) - 1)) fun μ2 =>
  bd (mR μ2 a0 22) fun p5 =>
  ck (isA56 (mK μ2 p5)) <|
  ck (inb 0 (mL μ2 p5)) <|
  bd (mR μ2 p5 (Int32.toNatClampNeg 0)) fun p9 =>
  f_X11_leaves_b19 5000 a0 p9 0 μ2
set_option maxRecDepth 100000 in
theorem s_X11_leaves_b47 {l : Launch} {G : Gt} (hG : Gok l G) (a0 : Nat) (a1 : Nat) (μ : Mm) (r : Unit) (μ' : Mm) (h : f_X11_leaves_b47 a0 a1 μ = some (r, μ')) : ZX l G mX11_leaves 47 [(0, .ref a0), (1, .ref a1)] [] μ (.inl none) μ' := by
  unfold f_X11_leaves_b47 at h
  refine zx_aload_n dX11_leaves_47 rfl (q := 0) rfl ?_
  obtain ⟨h27, h⟩ := ck_e h
  obtain ⟨p28, h29, h⟩ := bd_e h
  refine zx_getR hG fl_X11_74 h27 h29 dX11_leaves_48 ?_
  refine zx_aload_n dX11_leaves_51 rfl (q := 0) rfl ?_
  refine zx_getI hG fl_X11_198 h27 dX11_leaves_52 ?_
  refine zx_aload_n dX11_leaves_55 rfl (q := 1) rfl ?_
  obtain ⟨h30, h⟩ := ck_e h
  obtain ⟨h31, h⟩ := ck_e h
  obtain ⟨h32, h⟩ := ck_e h
  refine zx_aastA hG rfl (h30).1 (h30).2 (inb_e h32) rfl (h31).1 (h31).2 dX11_leaves_56 ?_
  obtain ⟨μ33, e35, h⟩ := zlm_e h
  refine zx_mem e35 ?_
  have e34 : mK μ33 = mK μ := (congrArg mK e35).trans rfl
  cases h
  exact zx_vret dX11_leaves_57 rfl
set_option maxRecDepth 100000 in
theorem s_X11_leaves_b19 {l : Launch} {G : Gt} (hG : Gok l G) : ∀ (n : Nat) (a0 : Nat) (a1 : Nat) (x2 : Int32) (μ : Mm) (r : Unit) (μ' : Mm), f_X11_leaves_b19 n a0 a1 x2 μ = some (r, μ') → ZX l G mX11_leaves 19 [(0, .ref a0), (1, .ref a1), (2, .int x2)] [] μ (.inl none) μ' := by
  intro n
  induction n with
  | zero =>
    intro a0 a1 x2 μ r μ' h
    cases h
  | succ n ih =>
    intro a0 a1 x2 μ r μ' h
    unfold f_X11_leaves_b19 at h
    refine zx_iload_n dX11_leaves_19 rfl (q := 2) rfl ?_
    refine zx_aload_n dX11_leaves_20 rfl (q := 0) rfl ?_
    obtain ⟨h11, h⟩ := ck_e h
    refine zx_getI hG fl_X11_198 h11 dX11_leaves_21 ?_
    by_cases c12 : (mI μ a0 23) ≤ x2
    · have h := it_t c12 h
      refine zx_icmp_ge_t (tgt := 47) dX11_leaves_24 (by decide) c12 ?_
      refine zx_sub (L' := [(0, .ref a0), (1, .ref a1)]) [0, 1] rfl ?_
      exact s_X11_leaves_b47 hG _ _ _ _ _ h
    · have h := it_f c12 h
      refine zx_icmp_ge_f (tgt := 47) dX11_leaves_24 (by decide) c12 ?_
      refine zx_aload_n dX11_leaves_27 rfl (q := 0) rfl ?_
      obtain ⟨p13, h14, h⟩ := bd_e h
      refine zx_getR hG fl_X11_74 h11 h14 dX11_leaves_28 ?_
      refine zx_iload_n dX11_leaves_31 rfl (q := 2) rfl ?_
      refine zx_aload_n dX11_leaves_32 rfl (q := 0) rfl ?_
      obtain ⟨p15, h16, h⟩ := bd_e h
      refine zx_getR hG fl_X11_74 h11 h16 dX11_leaves_33 ?_
      refine zx_iload_n dX11_leaves_36 rfl (q := 2) rfl ?_
      refine zx_iconst (v := 1) dX11_leaves_37 iv_iconst_1 ?_
      refine zx_iadd dX11_leaves_38 ?_
      obtain ⟨h17, h⟩ := ck_e h
      obtain ⟨h18, h⟩ := ck_e h
      obtain ⟨p19, h20, h⟩ := bd_e h
      refine zx_aald hG rfl (h17).1 (h17).2 (inb_e h18) h20 dX11_leaves_39 ?_
      obtain ⟨h21, h⟩ := ck_e h
      obtain ⟨h22, h⟩ := ck_e h
      obtain ⟨h23, h⟩ := ck_e h
      refine zx_aastA hG rfl (h21).1 (h21).2 (inb_e h23) rfl (h22).1 (h22).2 dX11_leaves_40 ?_
      obtain ⟨μ24, e26, h⟩ := zlm_e h
      refine zx_mem e26 ?_
      have e25 : mK μ24 = mK μ := (congrArg mK e26).trans rfl
      refine zx_iinc (q := 2) (v := x2 + 1) (L' := [(2, .int (x2 + 1)), (0, .ref a0), (1, .ref a1)]) dX11_leaves_41 rfl rfl (by decide) rfl ?_
      refine zx_goto (tgt := 19) dX11_leaves_44 (by decide) ?_
      refine zx_sub (L' := [(0, .ref a0), (1, .ref a1), (2, .int (x2 + 1))]) [1, 2, 0] rfl ?_
      exact ih _ _ _ _ _ _ h
set_option maxRecDepth 100000 in
theorem s_X11_leaves {l : Launch} {G : Gt} (hG : Gok l G) (a0 : Nat) (μ : Mm) (r : Unit) (μ' : Mm) (h : f_X11_leaves a0 μ = some (r, μ')) : ZX l G mX11_leaves 0 [(0, .ref a0)] [] μ (.inl none) μ' := by
  unfold f_X11_leaves at h
  refine zx_aload_n dX11_leaves_0 rfl (q := 0) rfl ?_
  refine zx_dup dX11_leaves_1 rfl ?_
  obtain ⟨h1, h⟩ := ck_e h
  refine zx_getI hG fl_X11_198 h1 dX11_leaves_2 ?_
  refine zx_iconst (v := 1) dX11_leaves_5 iv_iconst_1 ?_
  refine zx_isub dX11_leaves_6 ?_
  refine zx_putI hG fl_X11_198 fn_12_23 h1 dX11_leaves_7 ?_
  obtain ⟨μ2, e4, h⟩ := zlm_e h
  refine zx_mem e4 ?_
  have e3 : mK μ2 = mK μ := (congrArg mK e4).trans rfl
  refine zx_aload_n dX11_leaves_10 rfl (q := 0) rfl ?_
  obtain ⟨p5, h6, h⟩ := bd_e h
  refine zx_getR hG fl_X11_74 (kp_o (e3) h1) h6 dX11_leaves_11 ?_
  refine zx_iconst (v := 0) dX11_leaves_14 iv_iconst_0 ?_
  obtain ⟨h7, h⟩ := ck_e h
  obtain ⟨h8, h⟩ := ck_e h
  obtain ⟨p9, h10, h⟩ := bd_e h
  refine zx_aald hG rfl (h7).1 (h7).2 (inb_e h8) h10 dX11_leaves_15 ?_
  refine zx_astore_n (L' := [(1, .ref p9), (0, .ref a0)]) dX11_leaves_16 rfl (by decide) rfl ?_
  refine zx_iconst (v := 0) dX11_leaves_17 iv_iconst_0 ?_
  refine zx_istore_n (L' := [(2, .int 0), (1, .ref p9), (0, .ref a0)]) dX11_leaves_18 rfl (by decide) rfl ?_
  refine zx_sub (L' := [(0, .ref a0), (1, .ref p9), (2, .int 0)]) [2, 1, 0] rfl ?_
  exact s_X11_leaves_b19 hG 5000 _ _ _ _ _ _ h
def f_X11_retire_b308 (s0 : Int32) (s1 : Nat) (μ : Mm) : Option (Unit × Mm) :=
  ck (mK μ s1 = 112) <|
  ck (zb s0 = s0) <|
  zl (sI μ s1 37 s0) fun μ108 =>
  some ((), μ108)
def f_X11_retire_b296 (a0 : Nat) (x3 : Int32) (μ : Mm) : Option (Unit × Mm) :=
  if ¬ x3 = 18 then
    f_X11_retire_b308 0 a0 μ
  else
    f_X11_retire_b308 1 a0 μ
def f_X11_retire_b269 (a0 : Nat) (x3 : Int32) (μ : Mm) : Option (Unit × Mm) :=
  if ¬ x3 = 21 then
    f_X11_retire_b296 a0 x3 μ
  else
    ck (mK μ a0 = 112) <|
    zl (sI μ a0 39 0) fun μ96 =>
    zl (sI μ96 a0 41 (mI μ96 a0 40)) fun μ99 =>
    cl (f_X11_goesOn a0 (mI μ99 a0 40) μ99) fun _ μ104 =>
    f_X11_retire_b296 a0 x3 μ104
def f_X11_retire_b250 (a0 : Nat) (a1 : Nat) (x2 : Int32) (x3 : Int32) (μ : Mm) : Option (Unit × Mm) :=
  if ¬ x3 = 17 then
    f_X11_retire_b269 a0 x3 μ
  else
    ck (mK μ a0 = 112) <|
    bd (mR μ a0 30) fun p84 =>
    ck (¬ (8 : Int32) = 0) <|
    ck (isA 1 (mK μ a1)) <|
    ck (inb 6 (mL μ a1)) <|
    ck (isA 1 (mK μ p84)) <|
    ck (inb (x2 - x2 / 8 * 8) (mL μ p84)) <|
    zl (sI μ p84 (Int32.toNatClampNeg (x2 - x2 / 8 * 8)) (mI μ a1 (Int32.toNatClampNeg 6))) fun μ91 =>
    f_X11_retire_b269 a0 x3 μ91
def f_X11_retire_b249 (a0 : Nat) (a1 : Nat) (x2 : Int32) (x3 : Int32) (s0 : Int32) (s1 : Int32) (s2 : Nat) (μ : Mm) : Option (Unit × Mm) :=
  ck (isA 1 (mK μ s2)) <|
  ck (inb s1 (mL μ s2)) <|
  zl (sI μ s2 (Int32.toNatClampNeg s1) s0) fun μ142 =>
  f_X11_retire_b250 a0 a1 x2 x3 μ142
def f_X11_retire_b204 (a0 : Nat) (a1 : Nat) (x2 : Int32) (x3 : Int32) (s0 : Int32) (μ : Mm) : Option (Unit × Mm) :=
  ck (mK μ a0 = 112) <|
  bd (mR μ a0 29) fun p127 =>
  ck (¬ (16 : Int32) = 0) <|
  ck (isA 1 (mK μ p127)) <|
  ck (inb (x2 - x2 / 16 * 16) (mL μ p127)) <|
  bd (mR μ a0 29) fun p132 =>
  ck (¬ (16 : Int32) = 0) <|
  if s0 = 0 then
    bd (f_J9_max_7cf53 0 ((mI μ p127 (Int32.toNatClampNeg (x2 - x2 / 16 * 16))) - 1)) fun y136 =>
    f_X11_retire_b249 a0 a1 x2 x3 y136 (x2 - x2 / 16 * 16) p132 μ
  else
    bd (f_J9_min_7cf53 3 ((mI μ p127 (Int32.toNatClampNeg (x2 - x2 / 16 * 16))) + 1)) fun y138 =>
    f_X11_retire_b249 a0 a1 x2 x3 y138 (x2 - x2 / 16 * 16) p132 μ
def f_X11_retire_b149 (a0 : Nat) (a1 : Nat) (x2 : Int32) (x3 : Int32) (μ : Mm) : Option (Unit × Mm) :=
  ck (mK μ a0 = 112) <|
  bd (mR μ a0 18) fun p112 =>
  ck (isA 1 (mK μ a1)) <|
  ck (inb 7 (mL μ a1)) <|
  ck (isA 1 (mK μ p112)) <|
  ck (inb (mI μ a1 (Int32.toNatClampNeg 7)) (mL μ p112)) <|
  bd (mR μ a0 18) fun p118 =>
  ck (inb 8 (mL μ a1)) <|
  ck (isA 1 (mK μ p118)) <|
  ck (inb (mI μ a1 (Int32.toNatClampNeg 8)) (mL μ p118)) <|
  if ¬ x3 = 12 then
    if (mI μ p118 (Int32.toNatClampNeg (mI μ a1 (Int32.toNatClampNeg 8)))) ≤ (mI μ p112 (Int32.toNatClampNeg (mI μ a1 (Int32.toNatClampNeg 7)))) then
      f_X11_retire_b204 a0 a1 x2 x3 0 μ
    else
      f_X11_retire_b204 a0 a1 x2 x3 1 μ
  else
    if ¬ (mI μ p112 (Int32.toNatClampNeg (mI μ a1 (Int32.toNatClampNeg 7)))) = (mI μ p118 (Int32.toNatClampNeg (mI μ a1 (Int32.toNatClampNeg 8)))) then
      f_X11_retire_b204 a0 a1 x2 x3 0 μ
    else
      f_X11_retire_b204 a0 a1 x2 x3 1 μ
def f_X11_retire_b137 (a0 : Nat) (a1 : Nat) (x2 : Int32) (x3 : Int32) (μ : Mm) : Option (Unit × Mm) :=
  if x3 = 12 then
    f_X11_retire_b149 a0 a1 x2 x3 μ
  else
    if ¬ x3 = 13 then
      f_X11_retire_b250 a0 a1 x2 x3 μ
    else
      f_X11_retire_b149 a0 a1 x2 x3 μ
def f_X11_retire_b92 (a0 : Nat) (a1 : Nat) (x2 : Int32) (x3 : Int32) (μ : Mm) : Option (Unit × Mm) :=
  bd (f_X11_hasD x3) fun y52 =>
  if y52 = 0 then
    f_X11_retire_b137 a0 a1 x2 x3 μ
  else
    ck (mK μ a0 = 112) <|
    bd (mR μ a0 17) fun p56 =>
    bd (mR μ a0 1) fun p58 =>
    ck (isA 1 (mK μ p58)) <|
    ck (inb x2 (mL μ p58)) <|
    ck (isA 1 (mK μ a1)) <|
    ck (inb 9 (mL μ a1)) <|
    ck (isA 1 (mK μ p56)) <|
    ck (inb (mI μ p58 (Int32.toNatClampNeg x2)) (mL μ p56)) <|
    zl (sI μ p56 (Int32.toNatClampNeg (mI μ p58 (Int32.toNatClampNeg x2))) (mI μ a1 (Int32.toNatClampNeg 9))) fun μ66 =>
    bd (mR μ66 a0 20) fun p69 =>
    ck (inb 10 (mL μ66 a1)) <|
    ck (isA 1 (mK μ66 p69)) <|
    ck (inb (mI μ66 a0 21) (mL μ66 p69)) <|
    zl (sI μ66 p69 (Int32.toNatClampNeg (mI μ66 a0 21)) (mI μ66 a1 (Int32.toNatClampNeg 10))) fun μ74 =>
    zl (sI μ74 a0 21 ((mI μ74 a0 21) + 1)) fun μ77 =>
    f_X11_retire_b137 a0 a1 x2 x3 μ77
def f_X11_retire_b50 (a0 : Nat) (a1 : Nat) (x2 : Int32) (x3 : Int32) (μ : Mm) : Option (Unit × Mm) :=
  if ¬ x3 = 11 then
    f_X11_retire_b92 a0 a1 x2 x3 μ
  else
    ck (mK μ a0 = 112) <|
    bd (mR μ a0 15) fun p33 =>
    ck (isA 1 (mK μ a1)) <|
    ck (inb 14 (mL μ a1)) <|
    bd (mR μ a0 15) fun p37 =>
    ck (inb 14 (mL μ a1)) <|
    ck (isA 1 (mK μ p37)) <|
    ck (inb (mI μ a1 (Int32.toNatClampNeg 14)) (mL μ p37)) <|
    bd (mR μ a0 18) fun p42 =>
    ck (inb 8 (mL μ a1)) <|
    ck (isA 1 (mK μ p42)) <|
    ck (inb (mI μ a1 (Int32.toNatClampNeg 8)) (mL μ p42)) <|
    ck (isA 1 (mK μ p33)) <|
    ck (inb (mI μ a1 (Int32.toNatClampNeg 14)) (mL μ p33)) <|
    zl (sI μ p33 (Int32.toNatClampNeg (mI μ a1 (Int32.toNatClampNeg 14))) (((mI μ p37 (Int32.toNatClampNeg (mI μ a1 (Int32.toNatClampNeg 14)))) &&& ((-65536))) ||| ((mI μ p42 (Int32.toNatClampNeg (mI μ a1 (Int32.toNatClampNeg 8)))) &&& 65535))) fun μ49 =>
    f_X11_retire_b92 a0 a1 x2 x3 μ49
def f_X11_retire (a0 : Nat) (a1 : Nat) (μ : Mm) : Option (Unit × Mm) :=
  ck (isA 1 (mK μ a1)) <|
  ck (inb 0 (mL μ a1)) <|
  ck (mK μ a0 = 112) <|
  bd (mR μ a0 0) fun p4 =>
  ck (isA 1 (mK μ p4)) <|
  ck (inb (mI μ a1 (Int32.toNatClampNeg 0)) (mL μ p4)) <|
  cl (f_X11_tellsEnd a0 0 (mI μ a1 (Int32.toNatClampNeg 0)) a1 μ) fun _ μ10 =>
  ck (isA 1 (mK μ10 a1)) <|
  ck (inb 6 (mL μ10 a1)) <|
  ck (mK μ10 a0 = 112) <|
  zl (sI μ10 a0 41 (mI μ10 a1 (Int32.toNatClampNeg 6))) fun μ14 =>
  if ¬ (mI μ p4 (Int32.toNatClampNeg (mI μ a1 (Int32.toNatClampNeg 0)))) = 10 then
    f_X11_retire_b50 a0 a1 (mI μ a1 (Int32.toNatClampNeg 0)) (mI μ p4 (Int32.toNatClampNeg (mI μ a1 (Int32.toNatClampNeg 0)))) μ14
  else
    bd (mR μ14 a0 15) fun p18 =>
    ck (inb 14 (mL μ14 a1)) <|
    bd (mR μ14 a0 18) fun p21 =>
    ck (inb 8 (mL μ14 a1)) <|
    ck (isA 1 (mK μ14 p21)) <|
    ck (inb (mI μ14 a1 (Int32.toNatClampNeg 8)) (mL μ14 p21)) <|
    ck (isA 1 (mK μ14 p18)) <|
    ck (inb (mI μ14 a1 (Int32.toNatClampNeg 14)) (mL μ14 p18)) <|
    zl (sI μ14 p18 (Int32.toNatClampNeg (mI μ14 a1 (Int32.toNatClampNeg 14))) (mI μ14 p21 (Int32.toNatClampNeg (mI μ14 a1 (Int32.toNatClampNeg 8))))) fun μ28 =>
    f_X11_retire_b50 a0 a1 (mI μ a1 (Int32.toNatClampNeg 0)) (mI μ p4 (Int32.toNatClampNeg (mI μ a1 (Int32.toNatClampNeg 0)))) μ28
set_option maxRecDepth 100000 in
theorem s_X11_retire_b308 {l : Launch} {G : Gt} (hG : Gok l G) (s0 : Int32) (s1 : Nat) (μ : Mm) (r : Unit) (μ' : Mm) (h : f_X11_retire_b308 s0 s1 μ = some (r, μ')) : ZX l G mX11_retire 308 [] [.int s0, .ref s1] μ (.inl none) μ' := by
  unfold f_X11_retire_b308 at h
  obtain ⟨h106, h⟩ := ck_e h
  obtain ⟨h107, h⟩ := ck_e h
  refine zx_putZ hG fl_X11_147 fn_12_37 h106 h107 dX11_retire_308 ?_
  obtain ⟨μ108, e110, h⟩ := zlm_e h
  refine zx_mem e110 ?_
  have e109 : mK μ108 = mK μ := (congrArg mK e110).trans rfl
  cases h
  exact zx_vret dX11_retire_311 rfl
set_option maxRecDepth 100000 in
theorem s_X11_retire_b296 {l : Launch} {G : Gt} (hG : Gok l G) (a0 : Nat) (x3 : Int32) (μ : Mm) (r : Unit) (μ' : Mm) (h : f_X11_retire_b296 a0 x3 μ = some (r, μ')) : ZX l G mX11_retire 296 [(0, .ref a0), (3, .int x3)] [] μ (.inl none) μ' := by
  unfold f_X11_retire_b296 at h
  refine zx_aload_n dX11_retire_296 rfl (q := 0) rfl ?_
  refine zx_iload_n dX11_retire_297 rfl (q := 1) rfl ?_
  refine zx_bipush (v := 18) dX11_retire_298 iv_bipush_18 ?_
  by_cases c105 : ¬ x3 = 18
  · have h := it_t c105 h
    refine zx_icmp_ne_t (tgt := 307) dX11_retire_300 (by decide) c105 ?_
    refine zx_iconst (v := 0) dX11_retire_307 iv_iconst_0 ?_
    refine zx_sub (L' := []) [] rfl ?_
    exact s_X11_retire_b308 hG _ _ _ _ _ h
  · have h := it_f c105 h
    refine zx_icmp_ne_f (tgt := 307) dX11_retire_300 (by decide) (Classical.not_not.mp c105) ?_
    refine zx_iconst (v := 1) dX11_retire_303 iv_iconst_1 ?_
    refine zx_goto (tgt := 308) dX11_retire_304 (by decide) ?_
    refine zx_sub (L' := []) [] rfl ?_
    exact s_X11_retire_b308 hG _ _ _ _ _ h
set_option maxRecDepth 100000 in
theorem s_X11_retire_b269 {l : Launch} {G : Gt} (hG : Gok l G) (a0 : Nat) (x3 : Int32) (μ : Mm) (r : Unit) (μ' : Mm) (h : f_X11_retire_b269 a0 x3 μ = some (r, μ')) : ZX l G mX11_retire 269 [(0, .ref a0), (3, .int x3)] [] μ (.inl none) μ' := by
  unfold f_X11_retire_b269 at h
  refine zx_iload_n dX11_retire_269 rfl (q := 1) rfl ?_
  refine zx_bipush (v := 21) dX11_retire_270 iv_bipush_21 ?_
  by_cases c94 : ¬ x3 = 21
  · have h := it_t c94 h
    refine zx_icmp_ne_t (tgt := 296) dX11_retire_272 (by decide) c94 ?_
    exact s_X11_retire_b296 hG _ _ _ _ _ h
  · have h := it_f c94 h
    refine zx_icmp_ne_f (tgt := 296) dX11_retire_272 (by decide) (Classical.not_not.mp c94) ?_
    refine zx_aload_n dX11_retire_275 rfl (q := 0) rfl ?_
    refine zx_iconst (v := 0) dX11_retire_276 iv_iconst_0 ?_
    obtain ⟨h95, h⟩ := ck_e h
    refine zx_putZ hG fl_X11_291 fn_12_39 h95 zb_0 dX11_retire_277 ?_
    obtain ⟨μ96, e98, h⟩ := zlm_e h
    refine zx_mem e98 ?_
    have e97 : mK μ96 = mK μ := (congrArg mK e98).trans rfl
    refine zx_aload_n dX11_retire_280 rfl (q := 0) rfl ?_
    refine zx_aload_n dX11_retire_281 rfl (q := 0) rfl ?_
    refine zx_getI hG fl_X11_288 (kp_o (e97) h95) dX11_retire_282 ?_
    refine zx_putI hG fl_X11_294 fn_12_41 (kp_o (e97) h95) dX11_retire_285 ?_
    obtain ⟨μ99, e101, h⟩ := zlm_e h
    refine zx_mem e101 ?_
    have e100 : mK μ99 = mK μ96 := (congrArg mK e101).trans rfl
    refine zx_aload_n dX11_retire_288 rfl (q := 0) rfl ?_
    refine zx_aload_n dX11_retire_289 rfl (q := 0) rfl ?_
    refine zx_getI hG fl_X11_288 (kp_o (Eq.trans e100 e97) h95) dX11_retire_290 ?_
    obtain ⟨uu102, μ104, z103, h⟩ := cl_e h
    refine zx_callV (As := [.int (mI μ99 a0 40)]) hG mf_X11_goesOn cv_X11_274 (kp_o (Eq.trans e100 e97) h95) ⟨by decide, by decide⟩ rfl rfl (Nat.le_of_ble_eq_true rfl) (s_X11_goesOn hG _ _ _ _ _ z103) (Nat.le_of_ble_eq_true rfl) dX11_retire_293 ?_
    exact s_X11_retire_b296 hG _ _ _ _ _ h
set_option maxRecDepth 100000 in
theorem s_X11_retire_b250 {l : Launch} {G : Gt} (hG : Gok l G) (a0 : Nat) (a1 : Nat) (x2 : Int32) (x3 : Int32) (μ : Mm) (r : Unit) (μ' : Mm) (h : f_X11_retire_b250 a0 a1 x2 x3 μ = some (r, μ')) : ZX l G mX11_retire 250 [(0, .ref a0), (1, .ref a1), (2, .int x2), (3, .int x3)] [] μ (.inl none) μ' := by
  unfold f_X11_retire_b250 at h
  refine zx_iload_n dX11_retire_250 rfl (q := 3) rfl ?_
  refine zx_bipush (v := 17) dX11_retire_251 iv_bipush_17 ?_
  by_cases c82 : ¬ x3 = 17
  · have h := it_t c82 h
    refine zx_icmp_ne_t (tgt := 269) dX11_retire_253 (by decide) c82 ?_
    refine zx_sub (L' := [(0, .ref a0), (3, .int x3)]) [0, 3] rfl ?_
    exact s_X11_retire_b269 hG _ _ _ _ _ h
  · have h := it_f c82 h
    refine zx_icmp_ne_f (tgt := 269) dX11_retire_253 (by decide) (Classical.not_not.mp c82) ?_
    refine zx_aload_n dX11_retire_256 rfl (q := 0) rfl ?_
    obtain ⟨h83, h⟩ := ck_e h
    obtain ⟨p84, h85, h⟩ := bd_e h
    refine zx_getR hG fl_X11_86 h83 h85 dX11_retire_257 ?_
    refine zx_iload_n dX11_retire_260 rfl (q := 2) rfl ?_
    refine zx_bipush (v := 8) dX11_retire_261 iv_bipush_8 ?_
    obtain ⟨h86, h⟩ := ck_e h
    refine zx_irem dX11_retire_263 h86 ?_
    refine zx_aload_n dX11_retire_264 rfl (q := 1) rfl ?_
    refine zx_bipush (v := 6) dX11_retire_265 iv_bipush_6 ?_
    obtain ⟨h87, h⟩ := ck_e h
    obtain ⟨h88, h⟩ := ck_e h
    refine zx_iald hG rfl (h87).1 (h87).2 (inb_e h88) dX11_retire_267 ?_
    obtain ⟨h89, h⟩ := ck_e h
    obtain ⟨h90, h⟩ := ck_e h
    refine zx_iast hG rfl (h89).1 (h89).2 (inb_e h90) dX11_retire_268 ?_
    obtain ⟨μ91, e93, h⟩ := zlm_e h
    refine zx_mem e93 ?_
    have e92 : mK μ91 = mK μ := (congrArg mK e93).trans rfl
    refine zx_sub (L' := [(0, .ref a0), (3, .int x3)]) [0, 3] rfl ?_
    exact s_X11_retire_b269 hG _ _ _ _ _ h
set_option maxRecDepth 100000 in
theorem s_X11_retire_b249 {l : Launch} {G : Gt} (hG : Gok l G) (a0 : Nat) (a1 : Nat) (x2 : Int32) (x3 : Int32) (s0 : Int32) (s1 : Int32) (s2 : Nat) (μ : Mm) (r : Unit) (μ' : Mm) (h : f_X11_retire_b249 a0 a1 x2 x3 s0 s1 s2 μ = some (r, μ')) : ZX l G mX11_retire 249 [(0, .ref a0), (1, .ref a1), (2, .int x2), (3, .int x3)] [.int s0, .int s1, .ref s2] μ (.inl none) μ' := by
  unfold f_X11_retire_b249 at h
  obtain ⟨h140, h⟩ := ck_e h
  obtain ⟨h141, h⟩ := ck_e h
  refine zx_iast hG rfl (h140).1 (h140).2 (inb_e h141) dX11_retire_249 ?_
  obtain ⟨μ142, e144, h⟩ := zlm_e h
  refine zx_mem e144 ?_
  have e143 : mK μ142 = mK μ := (congrArg mK e144).trans rfl
  exact s_X11_retire_b250 hG _ _ _ _ _ _ _ h
set_option maxRecDepth 100000 in
theorem s_X11_retire_b204 {l : Launch} {G : Gt} (hG : Gok l G) (a0 : Nat) (a1 : Nat) (x2 : Int32) (x3 : Int32) (s0 : Int32) (μ : Mm) (r : Unit) (μ' : Mm) (h : f_X11_retire_b204 a0 a1 x2 x3 s0 μ = some (r, μ')) : ZX l G mX11_retire 204 [(0, .ref a0), (1, .ref a1), (2, .int x2), (3, .int x3)] [.int s0] μ (.inl none) μ' := by
  unfold f_X11_retire_b204 at h
  refine zx_istore (L' := [(6, .int s0), (0, .ref a0), (1, .ref a1), (2, .int x2), (3, .int x3)]) dX11_retire_204 (by decide) rfl ?_
  refine zx_aload_n dX11_retire_206 rfl (q := 1) rfl ?_
  obtain ⟨h126, h⟩ := ck_e h
  obtain ⟨p127, h128, h⟩ := bd_e h
  refine zx_getR hG fl_X11_83 h126 h128 dX11_retire_207 ?_
  refine zx_iload_n dX11_retire_210 rfl (q := 3) rfl ?_
  refine zx_bipush (v := 16) dX11_retire_211 iv_bipush_16 ?_
  obtain ⟨h129, h⟩ := ck_e h
  refine zx_irem dX11_retire_213 h129 ?_
  obtain ⟨h130, h⟩ := ck_e h
  obtain ⟨h131, h⟩ := ck_e h
  refine zx_iald hG rfl (h130).1 (h130).2 (inb_e h131) dX11_retire_214 ?_
  refine zx_istore (L' := [(7, .int (mI μ p127 (Int32.toNatClampNeg (x2 - x2 / 16 * 16)))), (6, .int s0), (0, .ref a0), (1, .ref a1), (2, .int x2), (3, .int x3)]) dX11_retire_215 (by decide) rfl ?_
  refine zx_aload_n dX11_retire_217 rfl (q := 2) rfl ?_
  obtain ⟨p132, h133, h⟩ := bd_e h
  refine zx_getR hG fl_X11_83 h126 h133 dX11_retire_218 ?_
  refine zx_iload_n dX11_retire_221 rfl (q := 4) rfl ?_
  refine zx_bipush (v := 16) dX11_retire_222 iv_bipush_16 ?_
  obtain ⟨h134, h⟩ := ck_e h
  refine zx_irem dX11_retire_224 h134 ?_
  refine zx_iload dX11_retire_225 (q := 1) rfl ?_
  by_cases c135 : s0 = 0
  · have h := it_t c135 h
    refine zx_if_eq_t (tgt := 241) dX11_retire_227 (by decide) c135 ?_
    refine zx_iconst (v := 0) dX11_retire_241 iv_iconst_0 ?_
    refine zx_iload dX11_retire_242 (q := 0) rfl ?_
    refine zx_iconst (v := 1) dX11_retire_244 iv_iconst_1 ?_
    refine zx_isub dX11_retire_245 ?_
    obtain ⟨y136, z137, h⟩ := bd_e h
    refine zx_callS (As := [.int 0, .int ((mI μ p127 (Int32.toNatClampNeg (x2 - x2 / 16 * 16))) - 1)]) hG mf_J9_max_7cf53 cs_X11_307 ⟨by decide, by decide⟩ rfl rfl (Nat.le_of_ble_eq_true rfl) (s_J9_max_7cf53 hG _ _ _ _ z137) (Nat.le_of_ble_eq_true rfl) dX11_retire_246 ?_
    refine zx_sub (L' := [(0, .ref a0), (1, .ref a1), (2, .int x2), (3, .int x3)]) [2, 3, 4, 5] rfl ?_
    exact s_X11_retire_b249 hG _ _ _ _ _ _ _ _ _ _ h
  · have h := it_f c135 h
    refine zx_if_eq_f (tgt := 241) dX11_retire_227 (by decide) c135 ?_
    refine zx_iconst (v := 3) dX11_retire_230 iv_iconst_3 ?_
    refine zx_iload dX11_retire_231 (q := 0) rfl ?_
    refine zx_iconst (v := 1) dX11_retire_233 iv_iconst_1 ?_
    refine zx_iadd dX11_retire_234 ?_
    obtain ⟨y138, z139, h⟩ := bd_e h
    refine zx_callS (As := [.int 3, .int ((mI μ p127 (Int32.toNatClampNeg (x2 - x2 / 16 * 16))) + 1)]) hG mf_J9_min_7cf53 cs_X11_256 ⟨by decide, by decide⟩ rfl rfl (Nat.le_of_ble_eq_true rfl) (s_J9_min_7cf53 hG _ _ _ _ z139) (Nat.le_of_ble_eq_true rfl) dX11_retire_235 ?_
    refine zx_goto (tgt := 249) dX11_retire_238 (by decide) ?_
    refine zx_sub (L' := [(0, .ref a0), (1, .ref a1), (2, .int x2), (3, .int x3)]) [2, 3, 4, 5] rfl ?_
    exact s_X11_retire_b249 hG _ _ _ _ _ _ _ _ _ _ h
set_option maxRecDepth 100000 in
theorem s_X11_retire_b149 {l : Launch} {G : Gt} (hG : Gok l G) (a0 : Nat) (a1 : Nat) (x2 : Int32) (x3 : Int32) (μ : Mm) (r : Unit) (μ' : Mm) (h : f_X11_retire_b149 a0 a1 x2 x3 μ = some (r, μ')) : ZX l G mX11_retire 149 [(0, .ref a0), (1, .ref a1), (2, .int x2), (3, .int x3)] [] μ (.inl none) μ' := by
  unfold f_X11_retire_b149 at h
  refine zx_aload_n dX11_retire_149 rfl (q := 0) rfl ?_
  obtain ⟨h111, h⟩ := ck_e h
  obtain ⟨p112, h113, h⟩ := bd_e h
  refine zx_getR hG fl_X11_62 h111 h113 dX11_retire_150 ?_
  refine zx_aload_n dX11_retire_153 rfl (q := 1) rfl ?_
  refine zx_bipush (v := 7) dX11_retire_154 iv_bipush_7 ?_
  obtain ⟨h114, h⟩ := ck_e h
  obtain ⟨h115, h⟩ := ck_e h
  refine zx_iald hG rfl (h114).1 (h114).2 (inb_e h115) dX11_retire_156 ?_
  obtain ⟨h116, h⟩ := ck_e h
  obtain ⟨h117, h⟩ := ck_e h
  refine zx_iald hG rfl (h116).1 (h116).2 (inb_e h117) dX11_retire_157 ?_
  refine zx_istore (L' := [(4, .int (mI μ p112 (Int32.toNatClampNeg (mI μ a1 (Int32.toNatClampNeg 7))))), (0, .ref a0), (1, .ref a1), (2, .int x2), (3, .int x3)]) dX11_retire_158 (by decide) rfl ?_
  refine zx_aload_n dX11_retire_160 rfl (q := 1) rfl ?_
  obtain ⟨p118, h119, h⟩ := bd_e h
  refine zx_getR hG fl_X11_62 h111 h119 dX11_retire_161 ?_
  refine zx_aload_n dX11_retire_164 rfl (q := 2) rfl ?_
  refine zx_bipush (v := 8) dX11_retire_165 iv_bipush_8 ?_
  obtain ⟨h120, h⟩ := ck_e h
  refine zx_iald hG rfl (h114).1 (h114).2 (inb_e h120) dX11_retire_167 ?_
  obtain ⟨h121, h⟩ := ck_e h
  obtain ⟨h122, h⟩ := ck_e h
  refine zx_iald hG rfl (h121).1 (h121).2 (inb_e h122) dX11_retire_168 ?_
  refine zx_istore (L' := [(5, .int (mI μ p118 (Int32.toNatClampNeg (mI μ a1 (Int32.toNatClampNeg 8))))), (4, .int (mI μ p112 (Int32.toNatClampNeg (mI μ a1 (Int32.toNatClampNeg 7))))), (0, .ref a0), (1, .ref a1), (2, .int x2), (3, .int x3)]) dX11_retire_169 (by decide) rfl ?_
  refine zx_iload_n dX11_retire_171 rfl (q := 5) rfl ?_
  refine zx_bipush (v := 12) dX11_retire_172 iv_bipush_12 ?_
  by_cases c123 : ¬ x3 = 12
  · have h := it_t c123 h
    refine zx_icmp_ne_t (tgt := 192) dX11_retire_174 (by decide) c123 ?_
    refine zx_iload dX11_retire_192 (q := 1) rfl ?_
    refine zx_iload dX11_retire_194 (q := 0) rfl ?_
    by_cases c124 : (mI μ p118 (Int32.toNatClampNeg (mI μ a1 (Int32.toNatClampNeg 8)))) ≤ (mI μ p112 (Int32.toNatClampNeg (mI μ a1 (Int32.toNatClampNeg 7))))
    · have h := it_t c124 h
      refine zx_icmp_ge_t (tgt := 203) dX11_retire_196 (by decide) c124 ?_
      refine zx_iconst (v := 0) dX11_retire_203 iv_iconst_0 ?_
      refine zx_sub (L' := [(0, .ref a0), (1, .ref a1), (2, .int x2), (3, .int x3)]) [2, 3, 4, 5] rfl ?_
      exact s_X11_retire_b204 hG _ _ _ _ _ _ _ _ h
    · have h := it_f c124 h
      refine zx_icmp_ge_f (tgt := 203) dX11_retire_196 (by decide) c124 ?_
      refine zx_iconst (v := 1) dX11_retire_199 iv_iconst_1 ?_
      refine zx_goto (tgt := 204) dX11_retire_200 (by decide) ?_
      refine zx_sub (L' := [(0, .ref a0), (1, .ref a1), (2, .int x2), (3, .int x3)]) [2, 3, 4, 5] rfl ?_
      exact s_X11_retire_b204 hG _ _ _ _ _ _ _ _ h
  · have h := it_f c123 h
    refine zx_icmp_ne_f (tgt := 192) dX11_retire_174 (by decide) (Classical.not_not.mp c123) ?_
    refine zx_iload dX11_retire_177 (q := 1) rfl ?_
    refine zx_iload dX11_retire_179 (q := 0) rfl ?_
    by_cases c125 : ¬ (mI μ p112 (Int32.toNatClampNeg (mI μ a1 (Int32.toNatClampNeg 7)))) = (mI μ p118 (Int32.toNatClampNeg (mI μ a1 (Int32.toNatClampNeg 8))))
    · have h := it_t c125 h
      refine zx_icmp_ne_t (tgt := 188) dX11_retire_181 (by decide) c125 ?_
      refine zx_iconst (v := 0) dX11_retire_188 iv_iconst_0 ?_
      refine zx_goto (tgt := 204) dX11_retire_189 (by decide) ?_
      refine zx_sub (L' := [(0, .ref a0), (1, .ref a1), (2, .int x2), (3, .int x3)]) [2, 3, 4, 5] rfl ?_
      exact s_X11_retire_b204 hG _ _ _ _ _ _ _ _ h
    · have h := it_f c125 h
      refine zx_icmp_ne_f (tgt := 188) dX11_retire_181 (by decide) (Classical.not_not.mp c125) ?_
      refine zx_iconst (v := 1) dX11_retire_184 iv_iconst_1 ?_
      refine zx_goto (tgt := 204) dX11_retire_185 (by decide) ?_
      refine zx_sub (L' := [(0, .ref a0), (1, .ref a1), (2, .int x2), (3, .int x3)]) [2, 3, 4, 5] rfl ?_
      exact s_X11_retire_b204 hG _ _ _ _ _ _ _ _ h
set_option maxRecDepth 100000 in
theorem s_X11_retire_b137 {l : Launch} {G : Gt} (hG : Gok l G) (a0 : Nat) (a1 : Nat) (x2 : Int32) (x3 : Int32) (μ : Mm) (r : Unit) (μ' : Mm) (h : f_X11_retire_b137 a0 a1 x2 x3 μ = some (r, μ')) : ZX l G mX11_retire 137 [(0, .ref a0), (1, .ref a1), (2, .int x2), (3, .int x3)] [] μ (.inl none) μ' := by
  unfold f_X11_retire_b137 at h
  refine zx_iload_n dX11_retire_137 rfl (q := 3) rfl ?_
  refine zx_bipush (v := 12) dX11_retire_138 iv_bipush_12 ?_
  by_cases c80 : x3 = 12
  · have h := it_t c80 h
    refine zx_icmp_eq_t (tgt := 149) dX11_retire_140 (by decide) c80 ?_
    exact s_X11_retire_b149 hG _ _ _ _ _ _ _ h
  · have h := it_f c80 h
    refine zx_icmp_eq_f (tgt := 149) dX11_retire_140 (by decide) c80 ?_
    refine zx_iload_n dX11_retire_143 rfl (q := 3) rfl ?_
    refine zx_bipush (v := 13) dX11_retire_144 iv_bipush_13 ?_
    by_cases c81 : ¬ x3 = 13
    · have h := it_t c81 h
      refine zx_icmp_ne_t (tgt := 250) dX11_retire_146 (by decide) c81 ?_
      exact s_X11_retire_b250 hG _ _ _ _ _ _ _ h
    · have h := it_f c81 h
      refine zx_icmp_ne_f (tgt := 250) dX11_retire_146 (by decide) (Classical.not_not.mp c81) ?_
      exact s_X11_retire_b149 hG _ _ _ _ _ _ _ h
set_option maxRecDepth 100000 in
theorem s_X11_retire_b92 {l : Launch} {G : Gt} (hG : Gok l G) (a0 : Nat) (a1 : Nat) (x2 : Int32) (x3 : Int32) (μ : Mm) (r : Unit) (μ' : Mm) (h : f_X11_retire_b92 a0 a1 x2 x3 μ = some (r, μ')) : ZX l G mX11_retire 92 [(0, .ref a0), (1, .ref a1), (2, .int x2), (3, .int x3)] [] μ (.inl none) μ' := by
  unfold f_X11_retire_b92 at h
  refine zx_iload_n dX11_retire_92 rfl (q := 3) rfl ?_
  obtain ⟨y52, z53, h⟩ := bd_e h
  refine zx_callS (As := [.int x3]) hG mf_X11_hasD cs_X11_209 ⟨by decide, by decide⟩ rfl rfl (Nat.le_of_ble_eq_true rfl) (s_X11_hasD hG _ _ _ z53) (Nat.le_of_ble_eq_true rfl) dX11_retire_93 ?_
  by_cases c54 : y52 = 0
  · have h := it_t c54 h
    refine zx_if_eq_t (tgt := 137) dX11_retire_96 (by decide) c54 ?_
    exact s_X11_retire_b137 hG _ _ _ _ _ _ _ h
  · have h := it_f c54 h
    refine zx_if_eq_f (tgt := 137) dX11_retire_96 (by decide) c54 ?_
    refine zx_aload_n dX11_retire_99 rfl (q := 0) rfl ?_
    obtain ⟨h55, h⟩ := ck_e h
    obtain ⟨p56, h57, h⟩ := bd_e h
    refine zx_getR hG fl_X11_59 h55 h57 dX11_retire_100 ?_
    refine zx_aload_n dX11_retire_103 rfl (q := 0) rfl ?_
    obtain ⟨p58, h59, h⟩ := bd_e h
    refine zx_getR hG fl_X11_13 h55 h59 dX11_retire_104 ?_
    refine zx_iload_n dX11_retire_107 rfl (q := 2) rfl ?_
    obtain ⟨h60, h⟩ := ck_e h
    obtain ⟨h61, h⟩ := ck_e h
    refine zx_iald hG rfl (h60).1 (h60).2 (inb_e h61) dX11_retire_108 ?_
    refine zx_aload_n dX11_retire_109 rfl (q := 1) rfl ?_
    refine zx_bipush (v := 9) dX11_retire_110 iv_bipush_9 ?_
    obtain ⟨h62, h⟩ := ck_e h
    obtain ⟨h63, h⟩ := ck_e h
    refine zx_iald hG rfl (h62).1 (h62).2 (inb_e h63) dX11_retire_112 ?_
    obtain ⟨h64, h⟩ := ck_e h
    obtain ⟨h65, h⟩ := ck_e h
    refine zx_iast hG rfl (h64).1 (h64).2 (inb_e h65) dX11_retire_113 ?_
    obtain ⟨μ66, e68, h⟩ := zlm_e h
    refine zx_mem e68 ?_
    have e67 : mK μ66 = mK μ := (congrArg mK e68).trans rfl
    refine zx_aload_n dX11_retire_114 rfl (q := 0) rfl ?_
    obtain ⟨p69, h70, h⟩ := bd_e h
    refine zx_getR hG fl_X11_69 (kp_o (e67) h55) h70 dX11_retire_115 ?_
    refine zx_aload_n dX11_retire_118 rfl (q := 0) rfl ?_
    refine zx_getI hG fl_X11_126 (kp_o (e67) h55) dX11_retire_119 ?_
    refine zx_aload_n dX11_retire_122 rfl (q := 1) rfl ?_
    refine zx_bipush (v := 10) dX11_retire_123 iv_bipush_10 ?_
    obtain ⟨h71, h⟩ := ck_e h
    refine zx_iald hG rfl ((kp_a (e67) h62)).1 ((kp_a (e67) h62)).2 (inb_e h71) dX11_retire_125 ?_
    obtain ⟨h72, h⟩ := ck_e h
    obtain ⟨h73, h⟩ := ck_e h
    refine zx_iast hG rfl (h72).1 (h72).2 (inb_e h73) dX11_retire_126 ?_
    obtain ⟨μ74, e76, h⟩ := zlm_e h
    refine zx_mem e76 ?_
    have e75 : mK μ74 = mK μ66 := (congrArg mK e76).trans rfl
    refine zx_aload_n dX11_retire_127 rfl (q := 0) rfl ?_
    refine zx_dup dX11_retire_128 rfl ?_
    refine zx_getI hG fl_X11_126 (kp_o (Eq.trans e75 e67) h55) dX11_retire_129 ?_
    refine zx_iconst (v := 1) dX11_retire_132 iv_iconst_1 ?_
    refine zx_iadd dX11_retire_133 ?_
    refine zx_putI hG fl_X11_126 fn_12_21 (kp_o (Eq.trans e75 e67) h55) dX11_retire_134 ?_
    obtain ⟨μ77, e79, h⟩ := zlm_e h
    refine zx_mem e79 ?_
    have e78 : mK μ77 = mK μ74 := (congrArg mK e79).trans rfl
    exact s_X11_retire_b137 hG _ _ _ _ _ _ _ h
set_option maxRecDepth 100000 in
theorem s_X11_retire_b50 {l : Launch} {G : Gt} (hG : Gok l G) (a0 : Nat) (a1 : Nat) (x2 : Int32) (x3 : Int32) (μ : Mm) (r : Unit) (μ' : Mm) (h : f_X11_retire_b50 a0 a1 x2 x3 μ = some (r, μ')) : ZX l G mX11_retire 50 [(0, .ref a0), (1, .ref a1), (2, .int x2), (3, .int x3)] [] μ (.inl none) μ' := by
  unfold f_X11_retire_b50 at h
  refine zx_iload_n dX11_retire_50 rfl (q := 3) rfl ?_
  refine zx_bipush (v := 11) dX11_retire_51 iv_bipush_11 ?_
  by_cases c31 : ¬ x3 = 11
  · have h := it_t c31 h
    refine zx_icmp_ne_t (tgt := 92) dX11_retire_53 (by decide) c31 ?_
    exact s_X11_retire_b92 hG _ _ _ _ _ _ _ h
  · have h := it_f c31 h
    refine zx_icmp_ne_f (tgt := 92) dX11_retire_53 (by decide) (Classical.not_not.mp c31) ?_
    refine zx_aload_n dX11_retire_56 rfl (q := 0) rfl ?_
    obtain ⟨h32, h⟩ := ck_e h
    obtain ⟨p33, h34, h⟩ := bd_e h
    refine zx_getR hG fl_X11_53 h32 h34 dX11_retire_57 ?_
    refine zx_aload_n dX11_retire_60 rfl (q := 1) rfl ?_
    refine zx_bipush (v := 14) dX11_retire_61 iv_bipush_14 ?_
    obtain ⟨h35, h⟩ := ck_e h
    obtain ⟨h36, h⟩ := ck_e h
    refine zx_iald hG rfl (h35).1 (h35).2 (inb_e h36) dX11_retire_63 ?_
    refine zx_aload_n dX11_retire_64 rfl (q := 0) rfl ?_
    obtain ⟨p37, h38, h⟩ := bd_e h
    refine zx_getR hG fl_X11_53 h32 h38 dX11_retire_65 ?_
    refine zx_aload_n dX11_retire_68 rfl (q := 1) rfl ?_
    refine zx_bipush (v := 14) dX11_retire_69 iv_bipush_14 ?_
    obtain ⟨h39, h⟩ := ck_e h
    refine zx_iald hG rfl (h35).1 (h35).2 (inb_e h39) dX11_retire_71 ?_
    obtain ⟨h40, h⟩ := ck_e h
    obtain ⟨h41, h⟩ := ck_e h
    refine zx_iald hG rfl (h40).1 (h40).2 (inb_e h41) dX11_retire_72 ?_
    refine zx_ldcw hG lc_X11_305 dX11_retire_73 ?_
    refine zx_iand dX11_retire_76 ?_
    refine zx_aload_n dX11_retire_77 rfl (q := 0) rfl ?_
    obtain ⟨p42, h43, h⟩ := bd_e h
    refine zx_getR hG fl_X11_62 h32 h43 dX11_retire_78 ?_
    refine zx_aload_n dX11_retire_81 rfl (q := 1) rfl ?_
    refine zx_bipush (v := 8) dX11_retire_82 iv_bipush_8 ?_
    obtain ⟨h44, h⟩ := ck_e h
    refine zx_iald hG rfl (h35).1 (h35).2 (inb_e h44) dX11_retire_84 ?_
    obtain ⟨h45, h⟩ := ck_e h
    obtain ⟨h46, h⟩ := ck_e h
    refine zx_iald hG rfl (h45).1 (h45).2 (inb_e h46) dX11_retire_85 ?_
    refine zx_ldcw hG lc_X11_306 dX11_retire_86 ?_
    refine zx_iand dX11_retire_89 ?_
    refine zx_ior dX11_retire_90 ?_
    obtain ⟨h47, h⟩ := ck_e h
    obtain ⟨h48, h⟩ := ck_e h
    refine zx_iast hG rfl (h47).1 (h47).2 (inb_e h48) dX11_retire_91 ?_
    obtain ⟨μ49, e51, h⟩ := zlm_e h
    refine zx_mem e51 ?_
    have e50 : mK μ49 = mK μ := (congrArg mK e51).trans rfl
    exact s_X11_retire_b92 hG _ _ _ _ _ _ _ h
set_option maxRecDepth 100000 in
theorem s_X11_retire {l : Launch} {G : Gt} (hG : Gok l G) (a0 : Nat) (a1 : Nat) (μ : Mm) (r : Unit) (μ' : Mm) (h : f_X11_retire a0 a1 μ = some (r, μ')) : ZX l G mX11_retire 0 [(0, .ref a0), (1, .ref a1)] [] μ (.inl none) μ' := by
  unfold f_X11_retire at h
  refine zx_aload_n dX11_retire_0 rfl (q := 1) rfl ?_
  refine zx_iconst (v := 0) dX11_retire_1 iv_iconst_0 ?_
  obtain ⟨h1, h⟩ := ck_e h
  obtain ⟨h2, h⟩ := ck_e h
  refine zx_iald hG rfl (h1).1 (h1).2 (inb_e h2) dX11_retire_2 ?_
  refine zx_istore_n (L' := [(2, .int (mI μ a1 (Int32.toNatClampNeg 0))), (0, .ref a0), (1, .ref a1)]) dX11_retire_3 rfl (by decide) rfl ?_
  refine zx_aload_n dX11_retire_4 rfl (q := 1) rfl ?_
  obtain ⟨h3, h⟩ := ck_e h
  obtain ⟨p4, h5, h⟩ := bd_e h
  refine zx_getR hG fl_X11_9 h3 h5 dX11_retire_5 ?_
  refine zx_iload_n dX11_retire_8 rfl (q := 0) rfl ?_
  obtain ⟨h6, h⟩ := ck_e h
  obtain ⟨h7, h⟩ := ck_e h
  refine zx_iald hG rfl (h6).1 (h6).2 (inb_e h7) dX11_retire_9 ?_
  refine zx_istore_n (L' := [(3, .int (mI μ p4 (Int32.toNatClampNeg (mI μ a1 (Int32.toNatClampNeg 0))))), (2, .int (mI μ a1 (Int32.toNatClampNeg 0))), (0, .ref a0), (1, .ref a1)]) dX11_retire_10 rfl (by decide) rfl ?_
  refine zx_aload_n dX11_retire_11 rfl (q := 2) rfl ?_
  refine zx_iconst (v := 0) dX11_retire_12 iv_iconst_0 ?_
  refine zx_iload_n dX11_retire_13 rfl (q := 1) rfl ?_
  refine zx_aload_n dX11_retire_14 rfl (q := 3) rfl ?_
  obtain ⟨uu8, μ10, z9, h⟩ := cl_e h
  refine zx_callV (As := [.int 0, .int (mI μ a1 (Int32.toNatClampNeg 0)), .ref a1]) hG mf_X11_tellsEnd cv_X11_297 h3 ⟨by decide, by decide⟩ rfl rfl (Nat.le_of_ble_eq_true rfl) (s_X11_tellsEnd hG _ _ _ _ _ _ _ z9) (Nat.le_of_ble_eq_true rfl) dX11_retire_15 ?_
  refine zx_aload_n dX11_retire_18 rfl (q := 2) rfl ?_
  refine zx_aload_n dX11_retire_19 rfl (q := 3) rfl ?_
  refine zx_bipush (v := 6) dX11_retire_20 iv_bipush_6 ?_
  obtain ⟨h11, h⟩ := ck_e h
  obtain ⟨h12, h⟩ := ck_e h
  refine zx_iald hG rfl (h11).1 (h11).2 (inb_e h12) dX11_retire_22 ?_
  obtain ⟨h13, h⟩ := ck_e h
  refine zx_putI hG fl_X11_294 fn_12_41 h13 dX11_retire_23 ?_
  obtain ⟨μ14, e16, h⟩ := zlm_e h
  refine zx_mem e16 ?_
  have e15 : mK μ14 = mK μ10 := (congrArg mK e16).trans rfl
  refine zx_iload_n dX11_retire_26 rfl (q := 0) rfl ?_
  refine zx_bipush (v := 10) dX11_retire_27 iv_bipush_10 ?_
  by_cases c17 : ¬ (mI μ p4 (Int32.toNatClampNeg (mI μ a1 (Int32.toNatClampNeg 0)))) = 10
  · have h := it_t c17 h
    refine zx_icmp_ne_t (tgt := 50) dX11_retire_29 (by decide) c17 ?_
    refine zx_sub (L' := [(0, .ref a0), (1, .ref a1), (2, .int (mI μ a1 (Int32.toNatClampNeg 0))), (3, .int (mI μ p4 (Int32.toNatClampNeg (mI μ a1 (Int32.toNatClampNeg 0)))))]) [2, 3, 1, 0] rfl ?_
    exact s_X11_retire_b50 hG _ _ _ _ _ _ _ h
  · have h := it_f c17 h
    refine zx_icmp_ne_f (tgt := 50) dX11_retire_29 (by decide) (Classical.not_not.mp c17) ?_
    refine zx_aload_n dX11_retire_32 rfl (q := 2) rfl ?_
    obtain ⟨p18, h19, h⟩ := bd_e h
    refine zx_getR hG fl_X11_53 (kp_o (e15) h13) h19 dX11_retire_33 ?_
    refine zx_aload_n dX11_retire_36 rfl (q := 3) rfl ?_
    refine zx_bipush (v := 14) dX11_retire_37 iv_bipush_14 ?_
    obtain ⟨h20, h⟩ := ck_e h
    refine zx_iald hG rfl ((kp_a (e15) h11)).1 ((kp_a (e15) h11)).2 (inb_e h20) dX11_retire_39 ?_
    refine zx_aload_n dX11_retire_40 rfl (q := 2) rfl ?_
    obtain ⟨p21, h22, h⟩ := bd_e h
    refine zx_getR hG fl_X11_62 (kp_o (e15) h13) h22 dX11_retire_41 ?_
    refine zx_aload_n dX11_retire_44 rfl (q := 3) rfl ?_
    refine zx_bipush (v := 8) dX11_retire_45 iv_bipush_8 ?_
    obtain ⟨h23, h⟩ := ck_e h
    refine zx_iald hG rfl ((kp_a (e15) h11)).1 ((kp_a (e15) h11)).2 (inb_e h23) dX11_retire_47 ?_
    obtain ⟨h24, h⟩ := ck_e h
    obtain ⟨h25, h⟩ := ck_e h
    refine zx_iald hG rfl (h24).1 (h24).2 (inb_e h25) dX11_retire_48 ?_
    obtain ⟨h26, h⟩ := ck_e h
    obtain ⟨h27, h⟩ := ck_e h
    refine zx_iast hG rfl (h26).1 (h26).2 (inb_e h27) dX11_retire_49 ?_
    obtain ⟨μ28, e30, h⟩ := zlm_e h
    refine zx_mem e30 ?_
    have e29 : mK μ28 = mK μ14 := (congrArg mK e30).trans rfl
    refine zx_sub (L' := [(0, .ref a0), (1, .ref a1), (2, .int (mI μ a1 (Int32.toNatClampNeg 0))), (3, .int (mI μ p4 (Int32.toNatClampNeg (mI μ a1 (Int32.toNatClampNeg 0)))))]) [2, 3, 1, 0] rfl ?_
    exact s_X11_retire_b50 hG _ _ _ _ _ _ _ h
