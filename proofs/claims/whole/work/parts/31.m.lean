theorem dX11_retires_0 : decode cX11_retires 0 = .ok (.aload_n 0, 1) := by decide +kernel
theorem dX11_retires_1 : decode cX11_retires 1 = .ok (.getfield 143, 3) := by decide +kernel
theorem dX11_retires_4 : decode cX11_retires 4 = .ok (.ifCond .eq 53, 3) := by decide +kernel
theorem dX11_retires_7 : decode cX11_retires 7 = .ok (.aload_n 0, 1) := by decide +kernel
theorem dX11_retires_8 : decode cX11_retires 8 = .ok (.getfield 291, 3) := by decide +kernel
theorem dX11_retires_11 : decode cX11_retires 11 = .ok (.ifCond .ne 46, 3) := by decide +kernel
theorem dX11_retires_14 : decode cX11_retires 14 = .ok (.aload_n 0, 1) := by decide +kernel
theorem dX11_retires_15 : decode cX11_retires 15 = .ok (.getfield 41, 3) := by decide +kernel
theorem dX11_retires_18 : decode cX11_retires 18 = .ok (.iconst (-1), 1) := by decide +kernel
theorem dX11_retires_19 : decode cX11_retires 19 = .ok (.if_icmp .eq 38, 3) := by decide +kernel
theorem dX11_retires_22 : decode cX11_retires 22 = .ok (.aload_n 0, 1) := by decide +kernel
theorem dX11_retires_23 : decode cX11_retires 23 = .ok (.iconst 0, 1) := by decide +kernel
theorem dX11_retires_24 : decode cX11_retires 24 = .ok (.putfield 143, 3) := by decide +kernel
theorem dX11_retires_27 : decode cX11_retires 27 = .ok (.aload_n 0, 1) := by decide +kernel
theorem dX11_retires_28 : decode cX11_retires 28 = .ok (.bipush 9, 2) := by decide +kernel
theorem dX11_retires_30 : decode cX11_retires 30 = .ok (.aload_n 0, 1) := by decide +kernel
theorem dX11_retires_31 : decode cX11_retires 31 = .ok (.getfield 294, 3) := by decide +kernel
theorem dX11_retires_34 : decode cX11_retires 34 = .ok (.aconst_null, 1) := by decide +kernel
theorem dX11_retires_35 : decode cX11_retires 35 = .ok (.invokevirtual 297, 3) := by decide +kernel
theorem dX11_retires_38 : decode cX11_retires 38 = .ok (.aload_n 0, 1) := by decide +kernel
theorem dX11_retires_39 : decode cX11_retires 39 = .ok (.aload_n 0, 1) := by decide +kernel
theorem dX11_retires_40 : decode cX11_retires 40 = .ok (.getfield 294, 3) := by decide +kernel
theorem dX11_retires_43 : decode cX11_retires 43 = .ok (.aload_n 0, 1) := by decide +kernel
theorem dX11_retires_44 : decode cX11_retires 44 = .ok (.getfield 41, 3) := by decide +kernel
theorem dX11_retires_47 : decode cX11_retires 47 = .ok (.invokevirtual 301, 3) := by decide +kernel
theorem dX11_retires_50 : decode cX11_retires 50 = .ok (.aload_n 0, 1) := by decide +kernel
theorem dX11_retires_51 : decode cX11_retires 51 = .ok (.bipush 105, 2) := by decide +kernel
theorem dX11_retires_53 : decode cX11_retires 53 = .ok (.invokevirtual 310, 3) := by decide +kernel
theorem dX11_retires_56 : decode cX11_retires 56 = .ok (.return_, 1) := by decide +kernel
theorem dX11_retires_57 : decode cX11_retires 57 = .ok (.iconst 0, 1) := by decide +kernel
theorem dX11_retires_58 : decode cX11_retires 58 = .ok (.istore_n 1, 1) := by decide +kernel
theorem dX11_retires_59 : decode cX11_retires 59 = .ok (.iconst 0, 1) := by decide +kernel
theorem dX11_retires_60 : decode cX11_retires 60 = .ok (.istore_n 2, 1) := by decide +kernel
theorem dX11_retires_61 : decode cX11_retires 61 = .ok (.iload_n 1, 1) := by decide +kernel
theorem dX11_retires_62 : decode cX11_retires 62 = .ok (.aload_n 0, 1) := by decide +kernel
theorem dX11_retires_63 : decode cX11_retires 63 = .ok (.getfield 25, 3) := by decide +kernel
theorem dX11_retires_66 : decode cX11_retires 66 = .ok (.if_icmp .ge 141, 3) := by decide +kernel
theorem dX11_retires_69 : decode cX11_retires 69 = .ok (.iload_n 2, 1) := by decide +kernel
theorem dX11_retires_70 : decode cX11_retires 70 = .ok (.ifCond .ne 137, 3) := by decide +kernel
theorem dX11_retires_73 : decode cX11_retires 73 = .ok (.aload_n 0, 1) := by decide +kernel
theorem dX11_retires_74 : decode cX11_retires 74 = .ok (.getfield 147, 3) := by decide +kernel
theorem dX11_retires_77 : decode cX11_retires 77 = .ok (.ifCond .ne 130, 3) := by decide +kernel
theorem dX11_retires_80 : decode cX11_retires 80 = .ok (.aload_n 0, 1) := by decide +kernel
theorem dX11_retires_81 : decode cX11_retires 81 = .ok (.getfield 198, 3) := by decide +kernel
theorem dX11_retires_84 : decode cX11_retires 84 = .ok (.ifCond .le 123, 3) := by decide +kernel
theorem dX11_retires_87 : decode cX11_retires 87 = .ok (.aload_n 0, 1) := by decide +kernel
theorem dX11_retires_88 : decode cX11_retires 88 = .ok (.getfield 74, 3) := by decide +kernel
theorem dX11_retires_91 : decode cX11_retires 91 = .ok (.iconst 0, 1) := by decide +kernel
theorem dX11_retires_92 : decode cX11_retires 92 = .ok (.aaload, 1) := by decide +kernel
theorem dX11_retires_93 : decode cX11_retires 93 = .ok (.bipush 11, 2) := by decide +kernel
theorem dX11_retires_95 : decode cX11_retires 95 = .ok (.iaload, 1) := by decide +kernel
theorem dX11_retires_96 : decode cX11_retires 96 = .ok (.bipush 101, 2) := by decide +kernel
theorem dX11_retires_98 : decode cX11_retires 98 = .ok (.if_icmp .ne 109, 3) := by decide +kernel
theorem dX11_retires_101 : decode cX11_retires 101 = .ok (.aload_n 0, 1) := by decide +kernel
theorem dX11_retires_102 : decode cX11_retires 102 = .ok (.getfield 74, 3) := by decide +kernel
theorem dX11_retires_105 : decode cX11_retires 105 = .ok (.iconst 0, 1) := by decide +kernel
theorem dX11_retires_106 : decode cX11_retires 106 = .ok (.aaload, 1) := by decide +kernel
theorem dX11_retires_107 : decode cX11_retires 107 = .ok (.astore_n 3, 1) := by decide +kernel
theorem dX11_retires_108 : decode cX11_retires 108 = .ok (.aload_n 0, 1) := by decide +kernel
theorem dX11_retires_109 : decode cX11_retires 109 = .ok (.aload_n 3, 1) := by decide +kernel
theorem dX11_retires_110 : decode cX11_retires 110 = .ok (.invokevirtual 201, 3) := by decide +kernel
theorem dX11_retires_113 : decode cX11_retires 113 = .ok (.istore 4, 2) := by decide +kernel
theorem dX11_retires_115 : decode cX11_retires 115 = .ok (.iload 4, 2) := by decide +kernel
theorem dX11_retires_117 : decode cX11_retires 117 = .ok (.bipush 21, 2) := by decide +kernel
theorem dX11_retires_119 : decode cX11_retires 119 = .ok (.if_icmp .ne 14, 3) := by decide +kernel
theorem dX11_retires_122 : decode cX11_retires 122 = .ok (.aload_n 0, 1) := by decide +kernel
theorem dX11_retires_123 : decode cX11_retires 123 = .ok (.getfield 291, 3) := by decide +kernel
theorem dX11_retires_126 : decode cX11_retires 126 = .ok (.ifCond .ne 7, 3) := by decide +kernel
theorem dX11_retires_129 : decode cX11_retires 129 = .ok (.iconst 5, 1) := by decide +kernel
theorem dX11_retires_130 : decode cX11_retires 130 = .ok (.goto 7, 3) := by decide +kernel
theorem dX11_retires_133 : decode cX11_retires 133 = .ok (.aload_n 3, 1) := by decide +kernel
theorem dX11_retires_134 : decode cX11_retires 134 = .ok (.bipush 13, 2) := by decide +kernel
theorem dX11_retires_136 : decode cX11_retires 136 = .ok (.iaload, 1) := by decide +kernel
theorem dX11_retires_137 : decode cX11_retires 137 = .ok (.istore 5, 2) := by decide +kernel
theorem dX11_retires_139 : decode cX11_retires 139 = .ok (.iload 5, 2) := by decide +kernel
theorem dX11_retires_141 : decode cX11_retires 141 = .ok (.ifCond .le 15, 3) := by decide +kernel
theorem dX11_retires_144 : decode cX11_retires 144 = .ok (.aload_n 0, 1) := by decide +kernel
theorem dX11_retires_145 : decode cX11_retires 145 = .ok (.aload_n 3, 1) := by decide +kernel
theorem dX11_retires_146 : decode cX11_retires 146 = .ok (.iload 5, 2) := by decide +kernel
theorem dX11_retires_148 : decode cX11_retires 148 = .ok (.invokevirtual 314, 3) := by decide +kernel
theorem dX11_retires_151 : decode cX11_retires 151 = .ok (.iconst 1, 1) := by decide +kernel
theorem dX11_retires_152 : decode cX11_retires 152 = .ok (.istore_n 2, 1) := by decide +kernel
theorem dX11_retires_153 : decode cX11_retires 153 = .ok (.goto 51, 3) := by decide +kernel
theorem dX11_retires_156 : decode cX11_retires 156 = .ok (.iload 4, 2) := by decide +kernel
theorem dX11_retires_158 : decode cX11_retires 158 = .ok (.invokestatic 231, 3) := by decide +kernel
theorem dX11_retires_161 : decode cX11_retires 161 = .ok (.ifCond .eq 31, 3) := by decide +kernel
theorem dX11_retires_164 : decode cX11_retires 164 = .ok (.aload_n 0, 1) := by decide +kernel
theorem dX11_retires_165 : decode cX11_retires 165 = .ok (.getfield 65, 3) := by decide +kernel
theorem dX11_retires_168 : decode cX11_retires 168 = .ok (.aload_n 3, 1) := by decide +kernel
theorem dX11_retires_169 : decode cX11_retires 169 = .ok (.bipush 8, 2) := by decide +kernel
theorem dX11_retires_171 : decode cX11_retires 171 = .ok (.iaload, 1) := by decide +kernel
theorem dX11_retires_172 : decode cX11_retires 172 = .ok (.baload, 1) := by decide +kernel
theorem dX11_retires_173 : decode cX11_retires 173 = .ok (.ifCond .ne 19, 3) := by decide +kernel
theorem dX11_retires_176 : decode cX11_retires 176 = .ok (.aload_n 0, 1) := by decide +kernel
theorem dX11_retires_177 : decode cX11_retires 177 = .ok (.iload_n 1, 1) := by decide +kernel
theorem dX11_retires_178 : decode cX11_retires 178 = .ok (.ifCond .ne 8, 3) := by decide +kernel
theorem dX11_retires_181 : decode cX11_retires 181 = .ok (.bipush 100, 2) := by decide +kernel
theorem dX11_retires_183 : decode cX11_retires 183 = .ok (.goto 5, 3) := by decide +kernel
theorem dX11_retires_186 : decode cX11_retires 186 = .ok (.bipush 45, 2) := by decide +kernel
theorem dX11_retires_188 : decode cX11_retires 188 = .ok (.invokevirtual 310, 3) := by decide +kernel
theorem dX11_retires_191 : decode cX11_retires 191 = .ok (.return_, 1) := by decide +kernel
theorem dX11_retires_192 : decode cX11_retires 192 = .ok (.aload_n 0, 1) := by decide +kernel
theorem dX11_retires_193 : decode cX11_retires 193 = .ok (.invokevirtual 317, 3) := by decide +kernel
theorem dX11_retires_196 : decode cX11_retires 196 = .ok (.aload_n 0, 1) := by decide +kernel
theorem dX11_retires_197 : decode cX11_retires 197 = .ok (.aload_n 3, 1) := by decide +kernel
theorem dX11_retires_198 : decode cX11_retires 198 = .ok (.invokevirtual 320, 3) := by decide +kernel
theorem dX11_retires_201 : decode cX11_retires 201 = .ok (.iinc 1 1, 3) := by decide +kernel
theorem dX11_retires_204 : decode cX11_retires 204 = .ok (.goto (-143), 3) := by decide +kernel
theorem dX11_retires_207 : decode cX11_retires 207 = .ok (.iload_n 1, 1) := by decide +kernel
theorem dX11_retires_208 : decode cX11_retires 208 = .ok (.ifCond .ne 38, 3) := by decide +kernel
theorem dX11_retires_211 : decode cX11_retires 211 = .ok (.aload_n 0, 1) := by decide +kernel
theorem dX11_retires_212 : decode cX11_retires 212 = .ok (.iload_n 2, 1) := by decide +kernel
theorem dX11_retires_213 : decode cX11_retires 213 = .ok (.ifCond .eq 8, 3) := by decide +kernel
theorem dX11_retires_216 : decode cX11_retires 216 = .ok (.bipush 116, 2) := by decide +kernel
theorem dX11_retires_218 : decode cX11_retires 218 = .ok (.goto 25, 3) := by decide +kernel
theorem dX11_retires_221 : decode cX11_retires 221 = .ok (.aload_n 0, 1) := by decide +kernel
theorem dX11_retires_222 : decode cX11_retires 222 = .ok (.getfield 198, 3) := by decide +kernel
theorem dX11_retires_225 : decode cX11_retires 225 = .ok (.ifCond .ne 8, 3) := by decide +kernel
theorem dX11_retires_228 : decode cX11_retires 228 = .ok (.bipush 102, 2) := by decide +kernel
theorem dX11_retires_230 : decode cX11_retires 230 = .ok (.goto 13, 3) := by decide +kernel
theorem dX11_retires_233 : decode cX11_retires 233 = .ok (.aload_n 0, 1) := by decide +kernel
theorem dX11_retires_234 : decode cX11_retires 234 = .ok (.getfield 74, 3) := by decide +kernel
theorem dX11_retires_237 : decode cX11_retires 237 = .ok (.iconst 0, 1) := by decide +kernel
theorem dX11_retires_238 : decode cX11_retires 238 = .ok (.aaload, 1) := by decide +kernel
theorem dX11_retires_239 : decode cX11_retires 239 = .ok (.bipush 11, 2) := by decide +kernel
theorem dX11_retires_241 : decode cX11_retires 241 = .ok (.iaload, 1) := by decide +kernel
theorem dX11_retires_242 : decode cX11_retires 242 = .ok (.i2c, 1) := by decide +kernel
theorem dX11_retires_243 : decode cX11_retires 243 = .ok (.invokevirtual 310, 3) := by decide +kernel
theorem dX11_retires_246 : decode cX11_retires 246 = .ok (.return_, 1) := by decide +kernel
theorem dX11_hasOperands_0 : decode cX11_hasOperands 0 = .ok (.iload_n 2, 1) := by decide +kernel
theorem dX11_hasOperands_1 : decode cX11_hasOperands 1 = .ok (.iconst 1, 1) := by decide +kernel
theorem dX11_hasOperands_2 : decode cX11_hasOperands 2 = .ok (.if_icmp .eq 15, 3) := by decide +kernel
theorem dX11_hasOperands_5 : decode cX11_hasOperands 5 = .ok (.aload_n 0, 1) := by decide +kernel
theorem dX11_hasOperands_6 : decode cX11_hasOperands 6 = .ok (.getfield 65, 3) := by decide +kernel
theorem dX11_hasOperands_9 : decode cX11_hasOperands 9 = .ok (.aload_n 1, 1) := by decide +kernel
theorem dX11_hasOperands_10 : decode cX11_hasOperands 10 = .ok (.bipush 7, 2) := by decide +kernel
theorem dX11_hasOperands_12 : decode cX11_hasOperands 12 = .ok (.iaload, 1) := by decide +kernel
theorem dX11_hasOperands_13 : decode cX11_hasOperands 13 = .ok (.baload, 1) := by decide +kernel
theorem dX11_hasOperands_14 : decode cX11_hasOperands 14 = .ok (.ifCond .eq 7, 3) := by decide +kernel
theorem dX11_hasOperands_17 : decode cX11_hasOperands 17 = .ok (.iconst 1, 1) := by decide +kernel
theorem dX11_hasOperands_18 : decode cX11_hasOperands 18 = .ok (.goto 4, 3) := by decide +kernel
theorem dX11_hasOperands_21 : decode cX11_hasOperands 21 = .ok (.iconst 0, 1) := by decide +kernel
theorem dX11_hasOperands_22 : decode cX11_hasOperands 22 = .ok (.istore_n 3, 1) := by decide +kernel
theorem dX11_hasOperands_23 : decode cX11_hasOperands 23 = .ok (.iload_n 2, 1) := by decide +kernel
theorem dX11_hasOperands_24 : decode cX11_hasOperands 24 = .ok (.iconst 2, 1) := by decide +kernel
theorem dX11_hasOperands_25 : decode cX11_hasOperands 25 = .ok (.bipush 8, 2) := by decide +kernel
theorem dX11_hasOperands_27 : decode cX11_hasOperands 27 = .ok (.invokestatic 129, 3) := by decide +kernel
theorem dX11_hasOperands_30 : decode cX11_hasOperands 30 = .ok (.ifCond .ne 15, 3) := by decide +kernel
theorem dX11_hasOperands_33 : decode cX11_hasOperands 33 = .ok (.iload_n 2, 1) := by decide +kernel
theorem dX11_hasOperands_34 : decode cX11_hasOperands 34 = .ok (.bipush 12, 2) := by decide +kernel
theorem dX11_hasOperands_36 : decode cX11_hasOperands 36 = .ok (.if_icmp .eq 9, 3) := by decide +kernel
theorem dX11_hasOperands_39 : decode cX11_hasOperands 39 = .ok (.iload_n 2, 1) := by decide +kernel
theorem dX11_hasOperands_40 : decode cX11_hasOperands 40 = .ok (.bipush 13, 2) := by decide +kernel
theorem dX11_hasOperands_42 : decode cX11_hasOperands 42 = .ok (.if_icmp .ne 7, 3) := by decide +kernel
theorem dX11_hasOperands_45 : decode cX11_hasOperands 45 = .ok (.iconst 1, 1) := by decide +kernel
theorem dX11_hasOperands_46 : decode cX11_hasOperands 46 = .ok (.goto 4, 3) := by decide +kernel
theorem dX11_hasOperands_49 : decode cX11_hasOperands 49 = .ok (.iconst 0, 1) := by decide +kernel
theorem dX11_hasOperands_50 : decode cX11_hasOperands 50 = .ok (.istore 4, 2) := by decide +kernel
theorem dX11_hasOperands_52 : decode cX11_hasOperands 52 = .ok (.iload_n 3, 1) := by decide +kernel
theorem dX11_hasOperands_53 : decode cX11_hasOperands 53 = .ok (.ifCond .eq 24, 3) := by decide +kernel
theorem dX11_hasOperands_56 : decode cX11_hasOperands 56 = .ok (.iload 4, 2) := by decide +kernel
theorem dX11_hasOperands_58 : decode cX11_hasOperands 58 = .ok (.ifCond .eq 15, 3) := by decide +kernel
theorem dX11_hasOperands_61 : decode cX11_hasOperands 61 = .ok (.aload_n 0, 1) := by decide +kernel
theorem dX11_hasOperands_62 : decode cX11_hasOperands 62 = .ok (.getfield 65, 3) := by decide +kernel
theorem dX11_hasOperands_65 : decode cX11_hasOperands 65 = .ok (.aload_n 1, 1) := by decide +kernel
theorem dX11_hasOperands_66 : decode cX11_hasOperands 66 = .ok (.bipush 8, 2) := by decide +kernel
theorem dX11_hasOperands_68 : decode cX11_hasOperands 68 = .ok (.iaload, 1) := by decide +kernel
theorem dX11_hasOperands_69 : decode cX11_hasOperands 69 = .ok (.baload, 1) := by decide +kernel
theorem dX11_hasOperands_70 : decode cX11_hasOperands 70 = .ok (.ifCond .eq 7, 3) := by decide +kernel
theorem dX11_hasOperands_73 : decode cX11_hasOperands 73 = .ok (.iconst 1, 1) := by decide +kernel
theorem dX11_hasOperands_74 : decode cX11_hasOperands 74 = .ok (.goto 4, 3) := by decide +kernel
theorem dX11_hasOperands_77 : decode cX11_hasOperands 77 = .ok (.iconst 0, 1) := by decide +kernel
theorem dX11_hasOperands_78 : decode cX11_hasOperands 78 = .ok (.ireturn, 1) := by decide +kernel
theorem dX11_starts_0 : decode cX11_starts 0 = .ok (.aload_n 1, 1) := by decide +kernel
theorem dX11_starts_1 : decode cX11_starts 1 = .ok (.bipush 11, 2) := by decide +kernel
theorem dX11_starts_3 : decode cX11_starts 3 = .ok (.bipush 120, 2) := by decide +kernel
theorem dX11_starts_5 : decode cX11_starts 5 = .ok (.iastore, 1) := by decide +kernel
theorem dX11_starts_6 : decode cX11_starts 6 = .ok (.aload_n 1, 1) := by decide +kernel
theorem dX11_starts_7 : decode cX11_starts 7 = .ok (.iconst 3, 1) := by decide +kernel
theorem dX11_starts_8 : decode cX11_starts 8 = .ok (.aload_n 0, 1) := by decide +kernel
theorem dX11_starts_9 : decode cX11_starts 9 = .ok (.getfield 133, 3) := by decide +kernel
theorem dX11_starts_12 : decode cX11_starts 12 = .ok (.iastore, 1) := by decide +kernel
theorem dX11_starts_13 : decode cX11_starts 13 = .ok (.aload_n 1, 1) := by decide +kernel
theorem dX11_starts_14 : decode cX11_starts 14 = .ok (.bipush 12, 2) := by decide +kernel
theorem dX11_starts_16 : decode cX11_starts 16 = .ok (.aload_n 0, 1) := by decide +kernel
theorem dX11_starts_17 : decode cX11_starts 17 = .ok (.getfield 133, 3) := by decide +kernel
theorem dX11_starts_20 : decode cX11_starts 20 = .ok (.iload_n 2, 1) := by decide +kernel
theorem dX11_starts_21 : decode cX11_starts 21 = .ok (.iadd, 1) := by decide +kernel
theorem dX11_starts_22 : decode cX11_starts 22 = .ok (.iastore, 1) := by decide +kernel
theorem dX11_starts_23 : decode cX11_starts 23 = .ok (.return_, 1) := by decide +kernel
theorem dX11_isAskedFor_0 : decode cX11_isAskedFor 0 = .ok (.iconst 0, 1) := by decide +kernel
theorem dX11_isAskedFor_1 : decode cX11_isAskedFor 1 = .ok (.istore_n 2, 1) := by decide +kernel
theorem dX11_isAskedFor_2 : decode cX11_isAskedFor 2 = .ok (.iconst 0, 1) := by decide +kernel
theorem dX11_isAskedFor_3 : decode cX11_isAskedFor 3 = .ok (.istore_n 3, 1) := by decide +kernel
theorem dX11_isAskedFor_4 : decode cX11_isAskedFor 4 = .ok (.iload_n 3, 1) := by decide +kernel
theorem dX11_isAskedFor_5 : decode cX11_isAskedFor 5 = .ok (.aload_n 0, 1) := by decide +kernel
theorem dX11_isAskedFor_6 : decode cX11_isAskedFor 6 = .ok (.getfield 222, 3) := by decide +kernel
theorem dX11_isAskedFor_9 : decode cX11_isAskedFor 9 = .ok (.if_icmp .ge 29, 3) := by decide +kernel
theorem dX11_isAskedFor_12 : decode cX11_isAskedFor 12 = .ok (.iload_n 2, 1) := by decide +kernel
theorem dX11_isAskedFor_13 : decode cX11_isAskedFor 13 = .ok (.ifCond .ne 13, 3) := by decide +kernel
theorem dX11_isAskedFor_16 : decode cX11_isAskedFor 16 = .ok (.aload_n 0, 1) := by decide +kernel
theorem dX11_isAskedFor_17 : decode cX11_isAskedFor 17 = .ok (.getfield 95, 3) := by decide +kernel
theorem dX11_isAskedFor_20 : decode cX11_isAskedFor 20 = .ok (.iload_n 3, 1) := by decide +kernel
theorem dX11_isAskedFor_21 : decode cX11_isAskedFor 21 = .ok (.iaload, 1) := by decide +kernel
theorem dX11_isAskedFor_22 : decode cX11_isAskedFor 22 = .ok (.iload_n 1, 1) := by decide +kernel
theorem dX11_isAskedFor_23 : decode cX11_isAskedFor 23 = .ok (.if_icmp .ne 7, 3) := by decide +kernel
theorem dX11_isAskedFor_26 : decode cX11_isAskedFor 26 = .ok (.iconst 1, 1) := by decide +kernel
theorem dX11_isAskedFor_27 : decode cX11_isAskedFor 27 = .ok (.goto 4, 3) := by decide +kernel
theorem dX11_isAskedFor_30 : decode cX11_isAskedFor 30 = .ok (.iconst 0, 1) := by decide +kernel
theorem dX11_isAskedFor_31 : decode cX11_isAskedFor 31 = .ok (.istore_n 2, 1) := by decide +kernel
theorem dX11_isAskedFor_32 : decode cX11_isAskedFor 32 = .ok (.iinc 3 1, 3) := by decide +kernel
theorem dX11_isAskedFor_35 : decode cX11_isAskedFor 35 = .ok (.goto (-31), 3) := by decide +kernel
theorem dX11_isAskedFor_38 : decode cX11_isAskedFor 38 = .ok (.iload_n 2, 1) := by decide +kernel
theorem dX11_isAskedFor_39 : decode cX11_isAskedFor 39 = .ok (.ireturn, 1) := by decide +kernel
theorem dX11_loads_0 : decode cX11_loads 0 = .ok (.aload_n 0, 1) := by decide +kernel
theorem dX11_loads_1 : decode cX11_loads 1 = .ok (.getfield 74, 3) := by decide +kernel
theorem dX11_loads_4 : decode cX11_loads 4 = .ok (.iload_n 1, 1) := by decide +kernel
theorem dX11_loads_5 : decode cX11_loads 5 = .ok (.aaload, 1) := by decide +kernel
theorem dX11_loads_6 : decode cX11_loads 6 = .ok (.astore_n 2, 1) := by decide +kernel
theorem dX11_loads_7 : decode cX11_loads 7 = .ok (.aload_n 0, 1) := by decide +kernel
theorem dX11_loads_8 : decode cX11_loads 8 = .ok (.getfield 62, 3) := by decide +kernel
theorem dX11_loads_11 : decode cX11_loads 11 = .ok (.aload_n 2, 1) := by decide +kernel
theorem dX11_loads_12 : decode cX11_loads 12 = .ok (.bipush 7, 2) := by decide +kernel
theorem dX11_loads_14 : decode cX11_loads 14 = .ok (.iaload, 1) := by decide +kernel
theorem dX11_loads_15 : decode cX11_loads 15 = .ok (.iaload, 1) := by decide +kernel
theorem dX11_loads_16 : decode cX11_loads 16 = .ok (.aload_n 0, 1) := by decide +kernel
theorem dX11_loads_17 : decode cX11_loads 17 = .ok (.getfield 22, 3) := by decide +kernel
theorem dX11_loads_20 : decode cX11_loads 20 = .ok (.aload_n 2, 1) := by decide +kernel
theorem dX11_loads_21 : decode cX11_loads 21 = .ok (.iconst 0, 1) := by decide +kernel
theorem dX11_loads_22 : decode cX11_loads 22 = .ok (.iaload, 1) := by decide +kernel
theorem dX11_loads_23 : decode cX11_loads 23 = .ok (.iaload, 1) := by decide +kernel
theorem dX11_loads_24 : decode cX11_loads 24 = .ok (.iadd, 1) := by decide +kernel
theorem dX11_loads_25 : decode cX11_loads 25 = .ok (.istore_n 3, 1) := by decide +kernel
theorem dX11_loads_26 : decode cX11_loads 26 = .ok (.iload_n 3, 1) := by decide +kernel
theorem dX11_loads_27 : decode cX11_loads 27 = .ok (.invokestatic 225, 3) := by decide +kernel
theorem dX11_loads_30 : decode cX11_loads 30 = .ok (.ifCond .ne 16, 3) := by decide +kernel
theorem dX11_loads_33 : decode cX11_loads 33 = .ok (.aload_n 2, 1) := by decide +kernel
theorem dX11_loads_34 : decode cX11_loads 34 = .ok (.bipush 13, 2) := by decide +kernel
theorem dX11_loads_36 : decode cX11_loads 36 = .ok (.iconst 2, 1) := by decide +kernel
theorem dX11_loads_37 : decode cX11_loads 37 = .ok (.iastore, 1) := by decide +kernel
theorem dX11_loads_38 : decode cX11_loads 38 = .ok (.aload_n 0, 1) := by decide +kernel
theorem dX11_loads_39 : decode cX11_loads 39 = .ok (.aload_n 2, 1) := by decide +kernel
theorem dX11_loads_40 : decode cX11_loads 40 = .ok (.iconst 1, 1) := by decide +kernel
theorem dX11_loads_41 : decode cX11_loads 41 = .ok (.invokevirtual 228, 3) := by decide +kernel
theorem dX11_loads_44 : decode cX11_loads 44 = .ok (.iconst 1, 1) := by decide +kernel
theorem dX11_loads_45 : decode cX11_loads 45 = .ok (.ireturn, 1) := by decide +kernel
theorem dX11_loads_46 : decode cX11_loads 46 = .ok (.iconst (-1), 1) := by decide +kernel
theorem dX11_loads_47 : decode cX11_loads 47 = .ok (.istore 4, 2) := by decide +kernel
theorem dX11_loads_49 : decode cX11_loads 49 = .ok (.iconst 1, 1) := by decide +kernel
theorem dX11_loads_50 : decode cX11_loads 50 = .ok (.istore 5, 2) := by decide +kernel
theorem dX11_loads_52 : decode cX11_loads 52 = .ok (.iconst 0, 1) := by decide +kernel
theorem dX11_loads_53 : decode cX11_loads 53 = .ok (.istore 6, 2) := by decide +kernel
theorem dX11_loads_55 : decode cX11_loads 55 = .ok (.iload 6, 2) := by decide +kernel
theorem dX11_loads_57 : decode cX11_loads 57 = .ok (.iload_n 1, 1) := by decide +kernel
theorem dX11_loads_58 : decode cX11_loads 58 = .ok (.if_icmp .ge 88, 3) := by decide +kernel
theorem dX11_loads_61 : decode cX11_loads 61 = .ok (.aload_n 0, 1) := by decide +kernel
theorem dX11_loads_62 : decode cX11_loads 62 = .ok (.getfield 74, 3) := by decide +kernel
theorem dX11_loads_65 : decode cX11_loads 65 = .ok (.iload 6, 2) := by decide +kernel
theorem dX11_loads_67 : decode cX11_loads 67 = .ok (.aaload, 1) := by decide +kernel
theorem dX11_loads_68 : decode cX11_loads 68 = .ok (.astore 7, 2) := by decide +kernel
theorem dX11_loads_70 : decode cX11_loads 70 = .ok (.aload_n 0, 1) := by decide +kernel
theorem dX11_loads_71 : decode cX11_loads 71 = .ok (.aload 7, 2) := by decide +kernel
theorem dX11_loads_73 : decode cX11_loads 73 = .ok (.invokevirtual 201, 3) := by decide +kernel
theorem dX11_loads_76 : decode cX11_loads 76 = .ok (.invokestatic 231, 3) := by decide +kernel
theorem dX11_loads_79 : decode cX11_loads 79 = .ok (.ifCond .eq 61, 3) := by decide +kernel
theorem dX11_loads_82 : decode cX11_loads 82 = .ok (.iload 5, 2) := by decide +kernel
theorem dX11_loads_84 : decode cX11_loads 84 = .ok (.ifCond .eq 17, 3) := by decide +kernel
theorem dX11_loads_87 : decode cX11_loads 87 = .ok (.aload 7, 2) := by decide +kernel
theorem dX11_loads_89 : decode cX11_loads 89 = .ok (.bipush 11, 2) := by decide +kernel
theorem dX11_loads_91 : decode cX11_loads 91 = .ok (.iaload, 1) := by decide +kernel
theorem dX11_loads_92 : decode cX11_loads 92 = .ok (.bipush 101, 2) := by decide +kernel
theorem dX11_loads_94 : decode cX11_loads 94 = .ok (.if_icmp .ne 7, 3) := by decide +kernel
theorem dX11_loads_97 : decode cX11_loads 97 = .ok (.iconst 1, 1) := by decide +kernel
theorem dX11_loads_98 : decode cX11_loads 98 = .ok (.goto 4, 3) := by decide +kernel
theorem dX11_loads_101 : decode cX11_loads 101 = .ok (.iconst 0, 1) := by decide +kernel
theorem dX11_loads_102 : decode cX11_loads 102 = .ok (.istore 5, 2) := by decide +kernel
theorem dX11_loads_104 : decode cX11_loads 104 = .ok (.aload 7, 2) := by decide +kernel
theorem dX11_loads_106 : decode cX11_loads 106 = .ok (.bipush 11, 2) := by decide +kernel
theorem dX11_loads_108 : decode cX11_loads 108 = .ok (.iaload, 1) := by decide +kernel
theorem dX11_loads_109 : decode cX11_loads 109 = .ok (.bipush 101, 2) := by decide +kernel
theorem dX11_loads_111 : decode cX11_loads 111 = .ok (.if_icmp .ne 25, 3) := by decide +kernel
theorem dX11_loads_114 : decode cX11_loads 114 = .ok (.aload 7, 2) := by decide +kernel
theorem dX11_loads_116 : decode cX11_loads 116 = .ok (.bipush 13, 2) := by decide +kernel
theorem dX11_loads_118 : decode cX11_loads 118 = .ok (.iaload, 1) := by decide +kernel
theorem dX11_loads_119 : decode cX11_loads 119 = .ok (.ifCond .ne 17, 3) := by decide +kernel
theorem dX11_loads_122 : decode cX11_loads 122 = .ok (.aload 7, 2) := by decide +kernel
theorem dX11_loads_124 : decode cX11_loads 124 = .ok (.bipush 14, 2) := by decide +kernel
theorem dX11_loads_126 : decode cX11_loads 126 = .ok (.iaload, 1) := by decide +kernel
theorem dX11_loads_127 : decode cX11_loads 127 = .ok (.iload_n 3, 1) := by decide +kernel
theorem dX11_loads_128 : decode cX11_loads 128 = .ok (.if_icmp .ne 8, 3) := by decide +kernel
theorem dX11_loads_131 : decode cX11_loads 131 = .ok (.iload 6, 2) := by decide +kernel
theorem dX11_loads_133 : decode cX11_loads 133 = .ok (.goto 5, 3) := by decide +kernel
theorem dX11_loads_136 : decode cX11_loads 136 = .ok (.iload 4, 2) := by decide +kernel
theorem dX11_loads_138 : decode cX11_loads 138 = .ok (.istore 4, 2) := by decide +kernel
theorem dX11_loads_140 : decode cX11_loads 140 = .ok (.iinc 6 1, 3) := by decide +kernel
theorem dX11_loads_143 : decode cX11_loads 143 = .ok (.goto (-88), 3) := by decide +kernel
theorem dX11_loads_146 : decode cX11_loads 146 = .ok (.aload_n 0, 1) := by decide +kernel
theorem dX11_loads_147 : decode cX11_loads 147 = .ok (.getfield 89, 3) := by decide +kernel
theorem dX11_loads_150 : decode cX11_loads 150 = .ok (.aload_n 2, 1) := by decide +kernel
theorem dX11_loads_151 : decode cX11_loads 151 = .ok (.iconst 0, 1) := by decide +kernel
theorem dX11_loads_152 : decode cX11_loads 152 = .ok (.iaload, 1) := by decide +kernel
theorem dX11_loads_153 : decode cX11_loads 153 = .ok (.bipush 16, 2) := by decide +kernel
theorem dX11_loads_155 : decode cX11_loads 155 = .ok (.irem, 1) := by decide +kernel
theorem dX11_loads_156 : decode cX11_loads 156 = .ok (.baload, 1) := by decide +kernel
theorem dX11_loads_157 : decode cX11_loads 157 = .ok (.ifCond .eq 10, 3) := by decide +kernel
theorem dX11_loads_160 : decode cX11_loads 160 = .ok (.iload 5, 2) := by decide +kernel
theorem dX11_loads_162 : decode cX11_loads 162 = .ok (.ifCond .ne 5, 3) := by decide +kernel
theorem dX11_loads_165 : decode cX11_loads 165 = .ok (.iconst 0, 1) := by decide +kernel
theorem dX11_loads_166 : decode cX11_loads 166 = .ok (.ireturn, 1) := by decide +kernel
theorem dX11_loads_167 : decode cX11_loads 167 = .ok (.iload 4, 2) := by decide +kernel
theorem dX11_loads_169 : decode cX11_loads 169 = .ok (.iconst (-1), 1) := by decide +kernel
theorem dX11_loads_170 : decode cX11_loads 170 = .ok (.if_icmp .eq 84, 3) := by decide +kernel
theorem dX11_loads_173 : decode cX11_loads 173 = .ok (.aload_n 0, 1) := by decide +kernel
theorem dX11_loads_174 : decode cX11_loads 174 = .ok (.getfield 74, 3) := by decide +kernel
theorem dX11_loads_177 : decode cX11_loads 177 = .ok (.iload 4, 2) := by decide +kernel
theorem dX11_loads_179 : decode cX11_loads 179 = .ok (.aaload, 1) := by decide +kernel
theorem dX11_loads_180 : decode cX11_loads 180 = .ok (.astore 6, 2) := by decide +kernel
theorem dX11_loads_182 : decode cX11_loads 182 = .ok (.aload_n 0, 1) := by decide +kernel
theorem dX11_loads_183 : decode cX11_loads 183 = .ok (.aload 6, 2) := by decide +kernel
theorem dX11_loads_185 : decode cX11_loads 185 = .ok (.invokevirtual 201, 3) := by decide +kernel
theorem dX11_loads_188 : decode cX11_loads 188 = .ok (.bipush 11, 2) := by decide +kernel
theorem dX11_loads_190 : decode cX11_loads 190 = .ok (.if_icmp .eq 16, 3) := by decide +kernel
theorem dX11_loads_193 : decode cX11_loads 193 = .ok (.aload_n 0, 1) := by decide +kernel
theorem dX11_loads_194 : decode cX11_loads 194 = .ok (.getfield 65, 3) := by decide +kernel
theorem dX11_loads_197 : decode cX11_loads 197 = .ok (.aload 6, 2) := by decide +kernel
theorem dX11_loads_199 : decode cX11_loads 199 = .ok (.bipush 8, 2) := by decide +kernel
theorem dX11_loads_201 : decode cX11_loads 201 = .ok (.iaload, 1) := by decide +kernel
theorem dX11_loads_202 : decode cX11_loads 202 = .ok (.baload, 1) := by decide +kernel
theorem dX11_loads_203 : decode cX11_loads 203 = .ok (.ifCond .ne 5, 3) := by decide +kernel
theorem dX11_loads_206 : decode cX11_loads 206 = .ok (.iconst 0, 1) := by decide +kernel
theorem dX11_loads_207 : decode cX11_loads 207 = .ok (.ireturn, 1) := by decide +kernel
theorem dX11_loads_208 : decode cX11_loads 208 = .ok (.aload_n 2, 1) := by decide +kernel
theorem dX11_loads_209 : decode cX11_loads 209 = .ok (.bipush 14, 2) := by decide +kernel
theorem dX11_loads_211 : decode cX11_loads 211 = .ok (.iload_n 3, 1) := by decide +kernel
theorem dX11_loads_212 : decode cX11_loads 212 = .ok (.iastore, 1) := by decide +kernel
theorem dX11_loads_213 : decode cX11_loads 213 = .ok (.aload_n 2, 1) := by decide +kernel
theorem dX11_loads_214 : decode cX11_loads 214 = .ok (.bipush 16, 2) := by decide +kernel
theorem dX11_loads_216 : decode cX11_loads 216 = .ok (.aload 6, 2) := by decide +kernel
theorem dX11_loads_218 : decode cX11_loads 218 = .ok (.bipush 17, 2) := by decide +kernel
theorem dX11_loads_220 : decode cX11_loads 220 = .ok (.iaload, 1) := by decide +kernel
theorem dX11_loads_221 : decode cX11_loads 221 = .ok (.iastore, 1) := by decide +kernel
theorem dX11_loads_222 : decode cX11_loads 222 = .ok (.aload_n 2, 1) := by decide +kernel
theorem dX11_loads_223 : decode cX11_loads 223 = .ok (.bipush 15, 2) := by decide +kernel
theorem dX11_loads_225 : decode cX11_loads 225 = .ok (.aload_n 0, 1) := by decide +kernel
theorem dX11_loads_226 : decode cX11_loads 226 = .ok (.getfield 62, 3) := by decide +kernel
theorem dX11_loads_229 : decode cX11_loads 229 = .ok (.aload 6, 2) := by decide +kernel
theorem dX11_loads_231 : decode cX11_loads 231 = .ok (.bipush 8, 2) := by decide +kernel
theorem dX11_loads_233 : decode cX11_loads 233 = .ok (.iaload, 1) := by decide +kernel
theorem dX11_loads_234 : decode cX11_loads 234 = .ok (.iaload, 1) := by decide +kernel
theorem dX11_loads_235 : decode cX11_loads 235 = .ok (.iastore, 1) := by decide +kernel
theorem dX11_loads_236 : decode cX11_loads 236 = .ok (.aload_n 0, 1) := by decide +kernel
theorem dX11_loads_237 : decode cX11_loads 237 = .ok (.dup, 1) := by decide +kernel
theorem dX11_loads_238 : decode cX11_loads 238 = .ok (.getfield 234, 3) := by decide +kernel
theorem dX11_loads_241 : decode cX11_loads 241 = .ok (.iconst 1, 1) := by decide +kernel
theorem dX11_loads_242 : decode cX11_loads 242 = .ok (.iadd, 1) := by decide +kernel
theorem dX11_loads_243 : decode cX11_loads 243 = .ok (.putfield 234, 3) := by decide +kernel
theorem dX11_loads_246 : decode cX11_loads 246 = .ok (.aload_n 0, 1) := by decide +kernel
theorem dX11_loads_247 : decode cX11_loads 247 = .ok (.aload_n 2, 1) := by decide +kernel
theorem dX11_loads_248 : decode cX11_loads 248 = .ok (.iconst 1, 1) := by decide +kernel
theorem dX11_loads_249 : decode cX11_loads 249 = .ok (.invokevirtual 228, 3) := by decide +kernel
theorem dX11_loads_252 : decode cX11_loads 252 = .ok (.iconst 1, 1) := by decide +kernel
theorem dX11_loads_253 : decode cX11_loads 253 = .ok (.ireturn, 1) := by decide +kernel
theorem dX11_loads_254 : decode cX11_loads 254 = .ok (.iload_n 3, 1) := by decide +kernel
theorem dX11_loads_255 : decode cX11_loads 255 = .ok (.iconst 4, 1) := by decide +kernel
theorem dX11_loads_256 : decode cX11_loads 256 = .ok (.idiv, 1) := by decide +kernel
theorem dX11_loads_257 : decode cX11_loads 257 = .ok (.istore 6, 2) := by decide +kernel
theorem dX11_loads_259 : decode cX11_loads 259 = .ok (.aload_n 0, 1) := by decide +kernel
theorem dX11_loads_260 : decode cX11_loads 260 = .ok (.getfield 92, 3) := by decide +kernel
theorem dX11_loads_263 : decode cX11_loads 263 = .ok (.iload 6, 2) := by decide +kernel
theorem dX11_loads_265 : decode cX11_loads 265 = .ok (.iconst 4, 1) := by decide +kernel
theorem dX11_loads_266 : decode cX11_loads 266 = .ok (.irem, 1) := by decide +kernel
theorem dX11_loads_267 : decode cX11_loads 267 = .ok (.iaload, 1) := by decide +kernel
theorem dX11_loads_268 : decode cX11_loads 268 = .ok (.iload 6, 2) := by decide +kernel
theorem dX11_loads_270 : decode cX11_loads 270 = .ok (.if_icmp .ne 26, 3) := by decide +kernel
theorem dX11_loads_273 : decode cX11_loads 273 = .ok (.aload_n 0, 1) := by decide +kernel
theorem dX11_loads_274 : decode cX11_loads 274 = .ok (.dup, 1) := by decide +kernel
theorem dX11_loads_275 : decode cX11_loads 275 = .ok (.getfield 237, 3) := by decide +kernel
theorem dX11_loads_278 : decode cX11_loads 278 = .ok (.iconst 1, 1) := by decide +kernel
theorem dX11_loads_279 : decode cX11_loads 279 = .ok (.iadd, 1) := by decide +kernel
theorem dX11_loads_280 : decode cX11_loads 280 = .ok (.putfield 237, 3) := by decide +kernel
theorem dX11_loads_283 : decode cX11_loads 283 = .ok (.aload_n 2, 1) := by decide +kernel
theorem dX11_loads_284 : decode cX11_loads 284 = .ok (.bipush 14, 2) := by decide +kernel
theorem dX11_loads_286 : decode cX11_loads 286 = .ok (.iload_n 3, 1) := by decide +kernel
theorem dX11_loads_287 : decode cX11_loads 287 = .ok (.iastore, 1) := by decide +kernel
theorem dX11_loads_288 : decode cX11_loads 288 = .ok (.aload_n 0, 1) := by decide +kernel
theorem dX11_loads_289 : decode cX11_loads 289 = .ok (.aload_n 2, 1) := by decide +kernel
theorem dX11_loads_290 : decode cX11_loads 290 = .ok (.iconst 2, 1) := by decide +kernel
theorem dX11_loads_291 : decode cX11_loads 291 = .ok (.invokevirtual 228, 3) := by decide +kernel
theorem dX11_loads_294 : decode cX11_loads 294 = .ok (.iconst 1, 1) := by decide +kernel
theorem dX11_loads_295 : decode cX11_loads 295 = .ok (.ireturn, 1) := by decide +kernel
theorem dX11_loads_296 : decode cX11_loads 296 = .ok (.aload_n 0, 1) := by decide +kernel
theorem dX11_loads_297 : decode cX11_loads 297 = .ok (.iload 6, 2) := by decide +kernel
theorem dX11_loads_299 : decode cX11_loads 299 = .ok (.invokevirtual 240, 3) := by decide +kernel
theorem dX11_loads_302 : decode cX11_loads 302 = .ok (.ifCond .ne 13, 3) := by decide +kernel
theorem dX11_loads_305 : decode cX11_loads 305 = .ok (.aload_n 0, 1) := by decide +kernel
theorem dX11_loads_306 : decode cX11_loads 306 = .ok (.getfield 222, 3) := by decide +kernel
theorem dX11_loads_309 : decode cX11_loads 309 = .ok (.iconst 2, 1) := by decide +kernel
theorem dX11_loads_310 : decode cX11_loads 310 = .ok (.if_icmp .ne 5, 3) := by decide +kernel
theorem dX11_loads_313 : decode cX11_loads 313 = .ok (.iconst 0, 1) := by decide +kernel
theorem dX11_loads_314 : decode cX11_loads 314 = .ok (.ireturn, 1) := by decide +kernel
theorem dX11_loads_315 : decode cX11_loads 315 = .ok (.aload_n 0, 1) := by decide +kernel
theorem dX11_loads_316 : decode cX11_loads 316 = .ok (.iload 6, 2) := by decide +kernel
theorem dX11_loads_318 : decode cX11_loads 318 = .ok (.invokevirtual 240, 3) := by decide +kernel
theorem dX11_loads_321 : decode cX11_loads 321 = .ok (.ifCond .ne 55, 3) := by decide +kernel
theorem dX11_loads_324 : decode cX11_loads 324 = .ok (.aload_n 0, 1) := by decide +kernel
theorem dX11_loads_325 : decode cX11_loads 325 = .ok (.getfield 95, 3) := by decide +kernel
theorem dX11_loads_328 : decode cX11_loads 328 = .ok (.aload_n 0, 1) := by decide +kernel
theorem dX11_loads_329 : decode cX11_loads 329 = .ok (.getfield 222, 3) := by decide +kernel
theorem dX11_loads_332 : decode cX11_loads 332 = .ok (.iload 6, 2) := by decide +kernel
theorem dX11_loads_334 : decode cX11_loads 334 = .ok (.iastore, 1) := by decide +kernel
theorem dX11_loads_335 : decode cX11_loads 335 = .ok (.aload_n 0, 1) := by decide +kernel
theorem dX11_loads_336 : decode cX11_loads 336 = .ok (.getfield 98, 3) := by decide +kernel
theorem dX11_loads_339 : decode cX11_loads 339 = .ok (.aload_n 0, 1) := by decide +kernel
theorem dX11_loads_340 : decode cX11_loads 340 = .ok (.getfield 222, 3) := by decide +kernel
theorem dX11_loads_343 : decode cX11_loads 343 = .ok (.aload_n 0, 1) := by decide +kernel
theorem dX11_loads_344 : decode cX11_loads 344 = .ok (.getfield 133, 3) := by decide +kernel
theorem dX11_loads_347 : decode cX11_loads 347 = .ok (.aload_n 0, 1) := by decide +kernel
theorem dX11_loads_348 : decode cX11_loads 348 = .ok (.getfield 50, 3) := by decide +kernel
theorem dX11_loads_351 : decode cX11_loads 351 = .ok (.iload 6, 2) := by decide +kernel
theorem dX11_loads_353 : decode cX11_loads 353 = .ok (.iaload, 1) := by decide +kernel
theorem dX11_loads_354 : decode cX11_loads 354 = .ok (.iadd, 1) := by decide +kernel
theorem dX11_loads_355 : decode cX11_loads 355 = .ok (.iastore, 1) := by decide +kernel
theorem dX11_loads_356 : decode cX11_loads 356 = .ok (.aload_n 0, 1) := by decide +kernel
theorem dX11_loads_357 : decode cX11_loads 357 = .ok (.dup, 1) := by decide +kernel
theorem dX11_loads_358 : decode cX11_loads 358 = .ok (.getfield 222, 3) := by decide +kernel
theorem dX11_loads_361 : decode cX11_loads 361 = .ok (.iconst 1, 1) := by decide +kernel
theorem dX11_loads_362 : decode cX11_loads 362 = .ok (.iadd, 1) := by decide +kernel
theorem dX11_loads_363 : decode cX11_loads 363 = .ok (.putfield 222, 3) := by decide +kernel
theorem dX11_loads_366 : decode cX11_loads 366 = .ok (.aload_n 0, 1) := by decide +kernel
theorem dX11_loads_367 : decode cX11_loads 367 = .ok (.dup, 1) := by decide +kernel
theorem dX11_loads_368 : decode cX11_loads 368 = .ok (.getfield 243, 3) := by decide +kernel
theorem dX11_loads_371 : decode cX11_loads 371 = .ok (.iconst 1, 1) := by decide +kernel
theorem dX11_loads_372 : decode cX11_loads 372 = .ok (.iadd, 1) := by decide +kernel
theorem dX11_loads_373 : decode cX11_loads 373 = .ok (.putfield 243, 3) := by decide +kernel
theorem dX11_loads_376 : decode cX11_loads 376 = .ok (.aload_n 2, 1) := by decide +kernel
theorem dX11_loads_377 : decode cX11_loads 377 = .ok (.bipush 14, 2) := by decide +kernel
theorem dX11_loads_379 : decode cX11_loads 379 = .ok (.iload_n 3, 1) := by decide +kernel
theorem dX11_loads_380 : decode cX11_loads 380 = .ok (.iastore, 1) := by decide +kernel
theorem dX11_loads_381 : decode cX11_loads 381 = .ok (.aload_n 0, 1) := by decide +kernel
theorem dX11_loads_382 : decode cX11_loads 382 = .ok (.aload_n 2, 1) := by decide +kernel
theorem dX11_loads_383 : decode cX11_loads 383 = .ok (.iconst 0, 1) := by decide +kernel
theorem dX11_loads_384 : decode cX11_loads 384 = .ok (.invokevirtual 228, 3) := by decide +kernel
theorem dX11_loads_387 : decode cX11_loads 387 = .ok (.aload_n 2, 1) := by decide +kernel
theorem dX11_loads_388 : decode cX11_loads 388 = .ok (.bipush 11, 2) := by decide +kernel
theorem dX11_loads_390 : decode cX11_loads 390 = .ok (.bipush 109, 2) := by decide +kernel
theorem dX11_loads_392 : decode cX11_loads 392 = .ok (.iastore, 1) := by decide +kernel
theorem dX11_loads_393 : decode cX11_loads 393 = .ok (.iconst 1, 1) := by decide +kernel
theorem dX11_loads_394 : decode cX11_loads 394 = .ok (.ireturn, 1) := by decide +kernel
theorem dX11_begins_0 : decode cX11_begins 0 = .ok (.iconst 0, 1) := by decide +kernel
theorem dX11_begins_1 : decode cX11_begins 1 = .ok (.istore_n 1, 1) := by decide +kernel
theorem dX11_begins_2 : decode cX11_begins 2 = .ok (.iconst 0, 1) := by decide +kernel
theorem dX11_begins_3 : decode cX11_begins 3 = .ok (.istore_n 2, 1) := by decide +kernel
theorem dX11_begins_4 : decode cX11_begins 4 = .ok (.iconst 0, 1) := by decide +kernel
theorem dX11_begins_5 : decode cX11_begins 5 = .ok (.istore_n 3, 1) := by decide +kernel
theorem dX11_begins_6 : decode cX11_begins 6 = .ok (.iconst 0, 1) := by decide +kernel
theorem dX11_begins_7 : decode cX11_begins 7 = .ok (.istore 4, 2) := by decide +kernel
theorem dX11_begins_9 : decode cX11_begins 9 = .ok (.iload 4, 2) := by decide +kernel
theorem dX11_begins_11 : decode cX11_begins 11 = .ok (.aload_n 0, 1) := by decide +kernel
theorem dX11_begins_12 : decode cX11_begins 12 = .ok (.getfield 198, 3) := by decide +kernel
theorem dX11_begins_15 : decode cX11_begins 15 = .ok (.if_icmp .ge 233, 3) := by decide +kernel
theorem dX11_begins_18 : decode cX11_begins 18 = .ok (.aload_n 0, 1) := by decide +kernel
theorem dX11_begins_19 : decode cX11_begins 19 = .ok (.getfield 74, 3) := by decide +kernel
theorem dX11_begins_22 : decode cX11_begins 22 = .ok (.iload 4, 2) := by decide +kernel
theorem dX11_begins_24 : decode cX11_begins 24 = .ok (.aaload, 1) := by decide +kernel
theorem dX11_begins_25 : decode cX11_begins 25 = .ok (.astore 5, 2) := by decide +kernel
theorem dX11_begins_27 : decode cX11_begins 27 = .ok (.aload_n 0, 1) := by decide +kernel
theorem dX11_begins_28 : decode cX11_begins 28 = .ok (.aload 5, 2) := by decide +kernel
theorem dX11_begins_30 : decode cX11_begins 30 = .ok (.invokevirtual 201, 3) := by decide +kernel
theorem dX11_begins_33 : decode cX11_begins 33 = .ok (.istore 6, 2) := by decide +kernel
theorem dX11_begins_35 : decode cX11_begins 35 = .ok (.aload 5, 2) := by decide +kernel
theorem dX11_begins_37 : decode cX11_begins 37 = .ok (.bipush 11, 2) := by decide +kernel
theorem dX11_begins_39 : decode cX11_begins 39 = .ok (.iaload, 1) := by decide +kernel
theorem dX11_begins_40 : decode cX11_begins 40 = .ok (.bipush 113, 2) := by decide +kernel
theorem dX11_begins_42 : decode cX11_begins 42 = .ok (.if_icmp .ne 200, 3) := by decide +kernel
theorem dX11_begins_45 : decode cX11_begins 45 = .ok (.aload_n 0, 1) := by decide +kernel
theorem dX11_begins_46 : decode cX11_begins 46 = .ok (.aload 5, 2) := by decide +kernel
theorem dX11_begins_48 : decode cX11_begins 48 = .ok (.iload 6, 2) := by decide +kernel
theorem dX11_begins_50 : decode cX11_begins 50 = .ok (.invokevirtual 246, 3) := by decide +kernel
theorem dX11_begins_53 : decode cX11_begins 53 = .ok (.ifCond .ne 6, 3) := by decide +kernel
theorem dX11_begins_56 : decode cX11_begins 56 = .ok (.goto 186, 3) := by decide +kernel
theorem dX11_begins_59 : decode cX11_begins 59 = .ok (.iload 6, 2) := by decide +kernel
theorem dX11_begins_61 : decode cX11_begins 61 = .ok (.iconst 4, 1) := by decide +kernel
theorem dX11_begins_62 : decode cX11_begins 62 = .ok (.if_icmp .ne 20, 3) := by decide +kernel
theorem dX11_begins_65 : decode cX11_begins 65 = .ok (.iload_n 2, 1) := by decide +kernel
theorem dX11_begins_66 : decode cX11_begins 66 = .ok (.ifCond .ne 176, 3) := by decide +kernel
theorem dX11_begins_69 : decode cX11_begins 69 = .ok (.iinc 2 1, 3) := by decide +kernel
theorem dX11_begins_72 : decode cX11_begins 72 = .ok (.aload_n 0, 1) := by decide +kernel
theorem dX11_begins_73 : decode cX11_begins 73 = .ok (.aload 5, 2) := by decide +kernel
theorem dX11_begins_75 : decode cX11_begins 75 = .ok (.iconst 3, 1) := by decide +kernel
theorem dX11_begins_76 : decode cX11_begins 76 = .ok (.invokevirtual 228, 3) := by decide +kernel
theorem dX11_begins_79 : decode cX11_begins 79 = .ok (.goto 163, 3) := by decide +kernel
theorem dX11_begins_82 : decode cX11_begins 82 = .ok (.iload 6, 2) := by decide +kernel
theorem dX11_begins_84 : decode cX11_begins 84 = .ok (.iconst 5, 1) := by decide +kernel
theorem dX11_begins_85 : decode cX11_begins 85 = .ok (.if_icmp .ne 82, 3) := by decide +kernel
theorem dX11_begins_88 : decode cX11_begins 88 = .ok (.iconst 0, 1) := by decide +kernel
theorem dX11_begins_89 : decode cX11_begins 89 = .ok (.istore 7, 2) := by decide +kernel
theorem dX11_begins_91 : decode cX11_begins 91 = .ok (.iconst 0, 1) := by decide +kernel
theorem dX11_begins_92 : decode cX11_begins 92 = .ok (.istore 8, 2) := by decide +kernel
theorem dX11_begins_94 : decode cX11_begins 94 = .ok (.iload 8, 2) := by decide +kernel
theorem dX11_begins_96 : decode cX11_begins 96 = .ok (.aload_n 0, 1) := by decide +kernel
theorem dX11_begins_97 : decode cX11_begins 97 = .ok (.getfield 198, 3) := by decide +kernel
theorem dX11_begins_100 : decode cX11_begins 100 = .ok (.if_icmp .ge 51, 3) := by decide +kernel
theorem dX11_begins_103 : decode cX11_begins 103 = .ok (.iload 7, 2) := by decide +kernel
theorem dX11_begins_105 : decode cX11_begins 105 = .ok (.ifCond .ne 33, 3) := by decide +kernel
theorem dX11_begins_108 : decode cX11_begins 108 = .ok (.aload_n 0, 1) := by decide +kernel
theorem dX11_begins_109 : decode cX11_begins 109 = .ok (.aload_n 0, 1) := by decide +kernel
theorem dX11_begins_110 : decode cX11_begins 110 = .ok (.getfield 74, 3) := by decide +kernel
theorem dX11_begins_113 : decode cX11_begins 113 = .ok (.iload 8, 2) := by decide +kernel
theorem dX11_begins_115 : decode cX11_begins 115 = .ok (.aaload, 1) := by decide +kernel
theorem dX11_begins_116 : decode cX11_begins 116 = .ok (.invokevirtual 201, 3) := by decide +kernel
theorem dX11_begins_119 : decode cX11_begins 119 = .ok (.iconst 5, 1) := by decide +kernel
theorem dX11_begins_120 : decode cX11_begins 120 = .ok (.if_icmp .ne 22, 3) := by decide +kernel
theorem dX11_begins_123 : decode cX11_begins 123 = .ok (.aload_n 0, 1) := by decide +kernel
theorem dX11_begins_124 : decode cX11_begins 124 = .ok (.getfield 74, 3) := by decide +kernel
theorem dX11_begins_127 : decode cX11_begins 127 = .ok (.iload 8, 2) := by decide +kernel
theorem dX11_begins_129 : decode cX11_begins 129 = .ok (.aaload, 1) := by decide +kernel
theorem dX11_begins_130 : decode cX11_begins 130 = .ok (.bipush 11, 2) := by decide +kernel
theorem dX11_begins_132 : decode cX11_begins 132 = .ok (.iaload, 1) := by decide +kernel
theorem dX11_begins_133 : decode cX11_begins 133 = .ok (.bipush 120, 2) := by decide +kernel
theorem dX11_begins_135 : decode cX11_begins 135 = .ok (.if_icmp .ne 7, 3) := by decide +kernel
theorem dX11_begins_138 : decode cX11_begins 138 = .ok (.iconst 1, 1) := by decide +kernel
theorem dX11_begins_139 : decode cX11_begins 139 = .ok (.goto 4, 3) := by decide +kernel
theorem dX11_begins_142 : decode cX11_begins 142 = .ok (.iconst 0, 1) := by decide +kernel
theorem dX11_begins_143 : decode cX11_begins 143 = .ok (.istore 7, 2) := by decide +kernel
theorem dX11_begins_145 : decode cX11_begins 145 = .ok (.iinc 8 1, 3) := by decide +kernel
theorem dX11_begins_148 : decode cX11_begins 148 = .ok (.goto (-54), 3) := by decide +kernel
theorem dX11_begins_151 : decode cX11_begins 151 = .ok (.iload 7, 2) := by decide +kernel
theorem dX11_begins_153 : decode cX11_begins 153 = .ok (.ifCond .ne 11, 3) := by decide +kernel
theorem dX11_begins_156 : decode cX11_begins 156 = .ok (.aload_n 0, 1) := by decide +kernel
theorem dX11_begins_157 : decode cX11_begins 157 = .ok (.aload 5, 2) := by decide +kernel
theorem dX11_begins_159 : decode cX11_begins 159 = .ok (.bipush 6, 2) := by decide +kernel
theorem dX11_begins_161 : decode cX11_begins 161 = .ok (.invokevirtual 228, 3) := by decide +kernel
theorem dX11_begins_164 : decode cX11_begins 164 = .ok (.goto 78, 3) := by decide +kernel
theorem dX11_begins_167 : decode cX11_begins 167 = .ok (.iload 6, 2) := by decide +kernel
theorem dX11_begins_169 : decode cX11_begins 169 = .ok (.bipush 9, 2) := by decide +kernel
theorem dX11_begins_171 : decode cX11_begins 171 = .ok (.bipush 11, 2) := by decide +kernel
theorem dX11_begins_173 : decode cX11_begins 173 = .ok (.invokestatic 129, 3) := by decide +kernel
theorem dX11_begins_176 : decode cX11_begins 176 = .ok (.ifCond .eq 51, 3) := by decide +kernel
theorem dX11_begins_179 : decode cX11_begins 179 = .ok (.iload_n 3, 1) := by decide +kernel
theorem dX11_begins_180 : decode cX11_begins 180 = .ok (.ifCond .ne 30, 3) := by decide +kernel
theorem dX11_begins_183 : decode cX11_begins 183 = .ok (.iload 6, 2) := by decide +kernel
theorem dX11_begins_185 : decode cX11_begins 185 = .ok (.bipush 9, 2) := by decide +kernel
theorem dX11_begins_187 : decode cX11_begins 187 = .ok (.if_icmp .ne 23, 3) := by decide +kernel
theorem dX11_begins_190 : decode cX11_begins 190 = .ok (.iload_n 3, 1) := by decide +kernel
theorem dX11_begins_191 : decode cX11_begins 191 = .ok (.aload_n 0, 1) := by decide +kernel
theorem dX11_begins_192 : decode cX11_begins 192 = .ok (.iload 4, 2) := by decide +kernel
theorem dX11_begins_194 : decode cX11_begins 194 = .ok (.invokevirtual 250, 3) := by decide +kernel
theorem dX11_begins_197 : decode cX11_begins 197 = .ok (.ifCond .eq 7, 3) := by decide +kernel
theorem dX11_begins_200 : decode cX11_begins 200 = .ok (.iconst 1, 1) := by decide +kernel
theorem dX11_begins_201 : decode cX11_begins 201 = .ok (.goto 4, 3) := by decide +kernel
theorem dX11_begins_204 : decode cX11_begins 204 = .ok (.iconst 0, 1) := by decide +kernel
theorem dX11_begins_205 : decode cX11_begins 205 = .ok (.iadd, 1) := by decide +kernel
theorem dX11_begins_206 : decode cX11_begins 206 = .ok (.istore_n 3, 1) := by decide +kernel
theorem dX11_begins_207 : decode cX11_begins 207 = .ok (.goto 35, 3) := by decide +kernel
theorem dX11_begins_210 : decode cX11_begins 210 = .ok (.iload_n 3, 1) := by decide +kernel
theorem dX11_begins_211 : decode cX11_begins 211 = .ok (.ifCond .ne 31, 3) := by decide +kernel
theorem dX11_begins_214 : decode cX11_begins 214 = .ok (.iinc 3 1, 3) := by decide +kernel
theorem dX11_begins_217 : decode cX11_begins 217 = .ok (.aload_n 0, 1) := by decide +kernel
theorem dX11_begins_218 : decode cX11_begins 218 = .ok (.aload 5, 2) := by decide +kernel
theorem dX11_begins_220 : decode cX11_begins 220 = .ok (.iconst 1, 1) := by decide +kernel
theorem dX11_begins_221 : decode cX11_begins 221 = .ok (.invokevirtual 228, 3) := by decide +kernel
theorem dX11_begins_224 : decode cX11_begins 224 = .ok (.goto 18, 3) := by decide +kernel
theorem dX11_begins_227 : decode cX11_begins 227 = .ok (.iload_n 1, 1) := by decide +kernel
theorem dX11_begins_228 : decode cX11_begins 228 = .ok (.iconst 2, 1) := by decide +kernel
theorem dX11_begins_229 : decode cX11_begins 229 = .ok (.if_icmp .ge 13, 3) := by decide +kernel
theorem dX11_begins_232 : decode cX11_begins 232 = .ok (.iinc 1 1, 3) := by decide +kernel
theorem dX11_begins_235 : decode cX11_begins 235 = .ok (.aload_n 0, 1) := by decide +kernel
theorem dX11_begins_236 : decode cX11_begins 236 = .ok (.aload 5, 2) := by decide +kernel
theorem dX11_begins_238 : decode cX11_begins 238 = .ok (.iconst 1, 1) := by decide +kernel
theorem dX11_begins_239 : decode cX11_begins 239 = .ok (.invokevirtual 228, 3) := by decide +kernel
theorem dX11_begins_242 : decode cX11_begins 242 = .ok (.iinc 4 1, 3) := by decide +kernel
theorem dX11_begins_245 : decode cX11_begins 245 = .ok (.goto (-236), 3) := by decide +kernel
theorem dX11_begins_248 : decode cX11_begins 248 = .ok (.return_, 1) := by decide +kernel
def mX11_retires : MD := (cX11_retires, RX11, yX11_retires, 6, none, 5, 110)
theorem mf_X11_retires : MF mX11_retires 0 := MF.of 1843 90 (by decide +kernel) (by decide +kernel) (by decide +kernel) (by decide +kernel) (by decide +kernel) rfl
def mX11_hasOperands : MD := (cX11_hasOperands, RX11, yX11_hasOperands, 5, (some .boolean), 1, 22)
theorem mf_X11_hasOperands : MF mX11_hasOperands 2 := MF.of 1884 90 (by decide +kernel) (by decide +kernel) (by decide +kernel) (by decide +kernel) (by decide +kernel) rfl
def mX11_starts : MD := (cX11_starts, RX11, yX11_starts, 3, none, 0, 0)
theorem mf_X11_starts : MF mX11_starts 2 := MF.of 1888 90 (by decide +kernel) (by decide +kernel) (by decide +kernel) (by decide +kernel) (by decide +kernel) rfl
def mX11_isAskedFor : MD := (cX11_isAskedFor, RX11, yX11_isAskedFor, 4, (some .boolean), 0, 0)
theorem mf_X11_isAskedFor : MF mX11_isAskedFor 1 := MF.of 1896 90 (by decide +kernel) (by decide +kernel) (by decide +kernel) (by decide +kernel) (by decide +kernel) rfl
def mX11_loads : MD := (cX11_loads, RX11, yX11_loads, 8, (some .boolean), 2, 42)
theorem mf_X11_loads : MF mX11_loads 1 := MF.of 1892 90 (by decide +kernel) (by decide +kernel) (by decide +kernel) (by decide +kernel) (by decide +kernel) rfl
def mX11_begins : MD := (cX11_begins, RX11, yX11_begins, 9, none, 3, 69)
theorem mf_X11_begins : MF mX11_begins 0 := MF.of 1880 90 (by decide +kernel) (by decide +kernel) (by decide +kernel) (by decide +kernel) (by decide +kernel) rfl
theorem cv_X11_228 : CVs RX11 228 mX11_starts 12 := CVs.of 1885 1887 60 (by decide +kernel) (by decide +kernel) (by decide +kernel) _ rfl rfl
theorem cv_X11_240 : CVs RX11 240 mX11_isAskedFor 12 := CVs.of 1893 1895 62 (by decide +kernel) (by decide +kernel) (by decide +kernel) _ rfl rfl
theorem cv_X11_246 : CVs RX11 246 mX11_hasOperands 12 := CVs.of 1881 1883 59 (by decide +kernel) (by decide +kernel) (by decide +kernel) _ rfl rfl
theorem cv_X11_250 : CVs RX11 250 mX11_loads 12 := CVs.of 1889 1891 61 (by decide +kernel) (by decide +kernel) (by decide +kernel) _ rfl rfl
theorem cv_X11_310 : CVs RX11 310 mX11_loses 12 := CVs.of 1855 1857 54 (by decide +kernel) (by decide +kernel) (by decide +kernel) _ rfl rfl
theorem cv_X11_314 : CVs RX11 314 mX11_traps 12 := CVs.of 1862 1864 55 (by decide +kernel) (by decide +kernel) (by decide +kernel) _ rfl rfl
theorem cv_X11_317 : CVs RX11 317 mX11_leaves 12 := CVs.of 1866 1868 56 (by decide +kernel) (by decide +kernel) (by decide +kernel) _ rfl rfl
theorem cv_X11_320 : CVs RX11 320 mX11_retire 12 := CVs.of 1870 1872 57 (by decide +kernel) (by decide +kernel) (by decide +kernel) _ rfl rfl
theorem fl_X11_234 : FL RX11 234 12 51 0 := FL.of _ rfl (by decide) 1598 (by decide +kernel) (by decide)
theorem fl_X11_237 : FL RX11 237 12 52 0 := FL.of _ rfl (by decide) 1599 (by decide +kernel) (by decide)
theorem fl_X11_243 : FL RX11 243 12 53 0 := FL.of _ rfl (by decide) 1600 (by decide +kernel) (by decide)
theorem fn_12_51 : FN 12 51 false := fun q h => by cases h; rfl
theorem fn_12_52 : FN 12 52 false := fun q h => by cases h; rfl
theorem fn_12_53 : FN 12 53 false := fun q h => by cases h; rfl
theorem iv_bipush_45 : (Int8.ofInt (45)).toInt32 = 45 := by decide
def f_X11_retires_b188 (s0 : Int32) (s1 : Nat) (μ : Mm) : Option (Unit × Mm) :=
  ck (mK μ s1 = 112) <|
  cl (f_X11_loses s1 s0 μ) fun _ μ87 =>
  some ((), μ87)
def f_X11_retires_b176 (a0 : Nat) (x1 : Int32) (μ : Mm) : Option (Unit × Mm) :=
  if ¬ x1 = 0 then
    f_X11_retires_b188 45 a0 μ
  else
    f_X11_retires_b188 100 a0 μ
def f_X11_retires_b204 (k61 : Nat → Int32 → Int32 → Mm → Option (Unit × Mm)) (a0 : Nat) (x1 : Int32) (x2 : Int32) (μ : Mm) : Option (Unit × Mm) :=
  k61 a0 x1 x2 μ
def f_X11_retires_b192 (k61 : Nat → Int32 → Int32 → Mm → Option (Unit × Mm)) (a0 : Nat) (x1 : Int32) (x2 : Int32) (a3 : Nat) (μ : Mm) : Option (Unit × Mm) :=
  ck (mK μ a0 = 112) <|
  cl (f_X11_leaves a0 μ) fun _ μ78 =>
  ck (mK μ78 a0 = 112) <|
  cl (f_X11_retire a0 a3 μ78) fun _ μ82 =>
  f_X11_retires_b204 k61 a0 (x1 + 1) x2 μ82
def f_X11_retires_b137 (k61 : Nat → Int32 → Int32 → Mm → Option (Unit × Mm)) (a0 : Nat) (x1 : Int32) (x2 : Int32) (a3 : Nat) (x4 : Int32) (s0 : Int32) (μ : Mm) : Option (Unit × Mm) :=
  if s0 ≤ 0 then
    bd (f_X11_isStore x4) fun y60 =>
    if y60 = 0 then
      f_X11_retires_b192 k61 a0 x1 x2 a3 μ
    else
      ck (mK μ a0 = 112) <|
      bd (mR μ a0 19) fun p64 =>
      ck (isA 1 (mK μ a3)) <|
      ck (inb 8 (mL μ a3)) <|
      ck (isA 2 (mK μ p64)) <|
      ck (inb (mI μ a3 (Int32.toNatClampNeg 8)) (mL μ p64)) <|
      if ¬ (zb (mI μ p64 (Int32.toNatClampNeg (mI μ a3 (Int32.toNatClampNeg 8))))) = 0 then
        f_X11_retires_b192 k61 a0 x1 x2 a3 μ
      else
        f_X11_retires_b176 a0 x1 μ
  else
    ck (mK μ a0 = 112) <|
    cl (f_X11_traps a0 a3 s0 μ) fun _ μ74 =>
    f_X11_retires_b204 k61 a0 x1 1 μ74
def f_X11_retires_b133 (k61 : Nat → Int32 → Int32 → Mm → Option (Unit × Mm)) (a0 : Nat) (x1 : Int32) (x2 : Int32) (a3 : Nat) (x4 : Int32) (μ : Mm) : Option (Unit × Mm) :=
  ck (isA 1 (mK μ a3)) <|
  ck (inb 13 (mL μ a3)) <|
  f_X11_retires_b137 k61 a0 x1 x2 a3 x4 (mI μ a3 (Int32.toNatClampNeg 13)) μ
def f_X11_retires_b243 (s0 : Int32) (s1 : Nat) (μ : Mm) : Option (Unit × Mm) :=
  ck (mK μ s1 = 112) <|
  cl (f_X11_loses s1 s0 μ) fun _ μ58 =>
  some ((), μ58)
def f_X11_retires_b207 (a0 : Nat) (x1 : Int32) (x2 : Int32) (μ : Mm) : Option (Unit × Mm) :=
  if ¬ x1 = 0 then
    some ((), μ)
  else
    if x2 = 0 then
      ck (mK μ a0 = 112) <|
      if ¬ (mI μ a0 23) = 0 then
        bd (mR μ a0 22) fun p47 =>
        ck (isA56 (mK μ p47)) <|
        ck (inb 0 (mL μ p47)) <|
        bd (mR μ p47 (Int32.toNatClampNeg 0)) fun p51 =>
        ck (isA 1 (mK μ p51)) <|
        ck (inb 11 (mL μ p51)) <|
        f_X11_retires_b243 (zc (mI μ p51 (Int32.toNatClampNeg 11))) a0 μ
      else
        f_X11_retires_b243 102 a0 μ
    else
      f_X11_retires_b243 116 a0 μ
def f_X11_retires_b61 : Nat → Nat → Int32 → Int32 → Mm → Option (Unit × Mm)
  | 0, _, _, _, _ => none
  | n + 1, a0, x1, x2, μ =>
  ck (mK μ a0 = 112) <|
  if (mI μ a0 6) ≤ x1 then
    f_X11_retires_b207 a0 x1 x2 μ
  else
    if ¬ x2 = 0 then
      f_X11_retires_b207 a0 x1 x2 μ
    else
      if ¬ (zb (mI μ a0 37)) = 0 then
        f_X11_retires_b207 a0 x1 x2 μ
      else
        if (mI μ a0 23) ≤ 0 then
          f_X11_retires_b207 a0 x1 x2 μ
        else
          bd (mR μ a0 22) fun p24 =>
          ck (isA56 (mK μ p24)) <|
          ck (inb 0 (mL μ p24)) <|
          bd (mR μ p24 (Int32.toNatClampNeg 0)) fun p28 =>
          ck (isA 1 (mK μ p28)) <|
          ck (inb 11 (mL μ p28)) <|
          if ¬ (mI μ p28 (Int32.toNatClampNeg 11)) = 101 then
            f_X11_retires_b207 a0 x1 x2 μ
          else
            bd (mR μ a0 22) fun p33 =>
            ck (isA56 (mK μ p33)) <|
            ck (inb 0 (mL μ p33)) <|
            bd (mR μ p33 (Int32.toNatClampNeg 0)) fun p37 =>
            bd (f_X11_codeOf a0 p37 μ) fun y39 =>
            if ¬ y39 = 21 then
              f_X11_retires_b133 (f_X11_retires_b61 n) a0 x1 x2 p37 y39 μ
            else
              if ¬ (zb (mI μ a0 39)) = 0 then
                f_X11_retires_b133 (f_X11_retires_b61 n) a0 x1 x2 p37 y39 μ
              else
                f_X11_retires_b137 (f_X11_retires_b61 n) a0 x1 x2 p37 y39 5 μ
def f_X11_retires_b57 (a0 : Nat) (μ : Mm) : Option (Unit × Mm) :=
  f_X11_retires_b61 5000 a0 0 0 μ
def f_X11_retires (a0 : Nat) (μ : Mm) : Option (Unit × Mm) :=
  ck (mK μ a0 = 112) <|
  if (zb (mI μ a0 38)) = 0 then
    f_X11_retires_b57 a0 μ
  else
    if ¬ (zb (mI μ a0 39)) = 0 then
      f_X11_retires_b57 a0 μ
    else
      if (mI μ a0 11) = ((-1)) then
        f_X11_retires_b57 a0 μ
      else
        zl (sI μ a0 38 0) fun μ5 =>
        cl (f_X11_tellsEnd_n2 a0 9 (mI μ5 a0 41) μ5) fun _ μ10 =>
        ck (mK μ10 a0 = 112) <|
        cl (f_X11_handles a0 (mI μ10 a0 41) (mI μ10 a0 11) μ10) fun _ μ14 =>
        ck (mK μ14 a0 = 112) <|
        cl (f_X11_loses a0 105 μ14) fun _ μ18 =>
        some ((), μ18)
set_option maxRecDepth 100000 in
theorem s_X11_retires_b188 {l : Launch} {G : Gt} (hG : Gok l G) (s0 : Int32) (s1 : Nat) (μ : Mm) (r : Unit) (μ' : Mm) (h : f_X11_retires_b188 s0 s1 μ = some (r, μ')) : ZX l G mX11_retires 188 [] [.int s0, .ref s1] μ (.inl none) μ' := by
  unfold f_X11_retires_b188 at h
  obtain ⟨h84, h⟩ := ck_e h
  obtain ⟨uu85, μ87, z86, h⟩ := cl_e h
  refine zx_callV (As := [.int s0]) hG mf_X11_loses cv_X11_310 h84 ⟨by decide, by decide⟩ rfl rfl (Nat.le_of_ble_eq_true rfl) (s_X11_loses hG _ _ _ _ _ z86) (Nat.le_of_ble_eq_true rfl) dX11_retires_188 ?_
  cases h
  exact zx_vret dX11_retires_191 rfl
set_option maxRecDepth 100000 in
theorem s_X11_retires_b176 {l : Launch} {G : Gt} (hG : Gok l G) (a0 : Nat) (x1 : Int32) (μ : Mm) (r : Unit) (μ' : Mm) (h : f_X11_retires_b176 a0 x1 μ = some (r, μ')) : ZX l G mX11_retires 176 [(0, .ref a0), (1, .int x1)] [] μ (.inl none) μ' := by
  unfold f_X11_retires_b176 at h
  refine zx_aload_n dX11_retires_176 rfl (q := 0) rfl ?_
  refine zx_iload_n dX11_retires_177 rfl (q := 1) rfl ?_
  by_cases c83 : ¬ x1 = 0
  · have h := it_t c83 h
    refine zx_if_ne_t (tgt := 186) dX11_retires_178 (by decide) c83 ?_
    refine zx_bipush (v := 45) dX11_retires_186 iv_bipush_45 ?_
    refine zx_sub (L' := []) [] rfl ?_
    exact s_X11_retires_b188 hG _ _ _ _ _ h
  · have h := it_f c83 h
    refine zx_if_ne_f (tgt := 186) dX11_retires_178 (by decide) (Classical.not_not.mp c83) ?_
    refine zx_bipush (v := 100) dX11_retires_181 iv_bipush_100 ?_
    refine zx_goto (tgt := 188) dX11_retires_183 (by decide) ?_
    refine zx_sub (L' := []) [] rfl ?_
    exact s_X11_retires_b188 hG _ _ _ _ _ h
set_option maxRecDepth 100000 in
theorem s_X11_retires_b204 {l : Launch} {G : Gt} (hG : Gok l G) {k61 : Nat → Int32 → Int32 → Mm → Option (Unit × Mm)} (hk61 : ∀ (a0 : Nat) (x1 : Int32) (x2 : Int32) (μ : Mm) (r : Unit) (μ' : Mm), k61 a0 x1 x2 μ = some (r, μ') → ZX l G mX11_retires 61 [(0, .ref a0), (1, .int x1), (2, .int x2)] [] μ (.inl none) μ') (a0 : Nat) (x1 : Int32) (x2 : Int32) (μ : Mm) (r : Unit) (μ' : Mm) (h : f_X11_retires_b204 k61 a0 x1 x2 μ = some (r, μ')) : ZX l G mX11_retires 204 [(0, .ref a0), (1, .int x1), (2, .int x2)] [] μ (.inl none) μ' := by
  unfold f_X11_retires_b204 at h
  refine zx_goto (tgt := 61) dX11_retires_204 (by decide) ?_
  exact hk61 _ _ _ _ _ _ h
set_option maxRecDepth 100000 in
theorem s_X11_retires_b192 {l : Launch} {G : Gt} (hG : Gok l G) {k61 : Nat → Int32 → Int32 → Mm → Option (Unit × Mm)} (hk61 : ∀ (a0 : Nat) (x1 : Int32) (x2 : Int32) (μ : Mm) (r : Unit) (μ' : Mm), k61 a0 x1 x2 μ = some (r, μ') → ZX l G mX11_retires 61 [(0, .ref a0), (1, .int x1), (2, .int x2)] [] μ (.inl none) μ') (a0 : Nat) (x1 : Int32) (x2 : Int32) (a3 : Nat) (μ : Mm) (r : Unit) (μ' : Mm) (h : f_X11_retires_b192 k61 a0 x1 x2 a3 μ = some (r, μ')) : ZX l G mX11_retires 192 [(0, .ref a0), (1, .int x1), (2, .int x2), (3, .ref a3)] [] μ (.inl none) μ' := by
  unfold f_X11_retires_b192 at h
  refine zx_aload_n dX11_retires_192 rfl (q := 0) rfl ?_
  obtain ⟨h75, h⟩ := ck_e h
  obtain ⟨uu76, μ78, z77, h⟩ := cl_e h
  refine zx_callV (As := []) hG mf_X11_leaves cv_X11_317 h75 ⟨by decide, by decide⟩ rfl rfl (Nat.le_of_ble_eq_true rfl) (s_X11_leaves hG _ _ _ _ z77) (Nat.le_of_ble_eq_true rfl) dX11_retires_193 ?_
  refine zx_aload_n dX11_retires_196 rfl (q := 0) rfl ?_
  refine zx_aload_n dX11_retires_197 rfl (q := 3) rfl ?_
  obtain ⟨h79, h⟩ := ck_e h
  obtain ⟨uu80, μ82, z81, h⟩ := cl_e h
  refine zx_callV (As := [.ref a3]) hG mf_X11_retire cv_X11_320 h79 ⟨by decide, by decide⟩ rfl rfl (Nat.le_of_ble_eq_true rfl) (s_X11_retire hG _ _ _ _ _ z81) (Nat.le_of_ble_eq_true rfl) dX11_retires_198 ?_
  refine zx_iinc (q := 1) (v := x1 + 1) (L' := [(1, .int (x1 + 1)), (0, .ref a0), (2, .int x2), (3, .ref a3)]) dX11_retires_201 rfl rfl (by decide) rfl ?_
  refine zx_sub (L' := [(0, .ref a0), (1, .int (x1 + 1)), (2, .int x2)]) [1, 0, 2] rfl ?_
  exact s_X11_retires_b204 hG hk61 _ _ _ _ _ _ h
set_option maxRecDepth 100000 in
theorem s_X11_retires_b137 {l : Launch} {G : Gt} (hG : Gok l G) {k61 : Nat → Int32 → Int32 → Mm → Option (Unit × Mm)} (hk61 : ∀ (a0 : Nat) (x1 : Int32) (x2 : Int32) (μ : Mm) (r : Unit) (μ' : Mm), k61 a0 x1 x2 μ = some (r, μ') → ZX l G mX11_retires 61 [(0, .ref a0), (1, .int x1), (2, .int x2)] [] μ (.inl none) μ') (a0 : Nat) (x1 : Int32) (x2 : Int32) (a3 : Nat) (x4 : Int32) (s0 : Int32) (μ : Mm) (r : Unit) (μ' : Mm) (h : f_X11_retires_b137 k61 a0 x1 x2 a3 x4 s0 μ = some (r, μ')) : ZX l G mX11_retires 137 [(0, .ref a0), (1, .int x1), (2, .int x2), (3, .ref a3), (4, .int x4)] [.int s0] μ (.inl none) μ' := by
  unfold f_X11_retires_b137 at h
  refine zx_istore (L' := [(5, .int s0), (0, .ref a0), (1, .int x1), (2, .int x2), (3, .ref a3), (4, .int x4)]) dX11_retires_137 (by decide) rfl ?_
  refine zx_iload dX11_retires_139 (q := 0) rfl ?_
  by_cases c59 : s0 ≤ 0
  · have h := it_t c59 h
    refine zx_if_le_t (tgt := 156) dX11_retires_141 (by decide) c59 ?_
    refine zx_iload dX11_retires_156 (q := 5) rfl ?_
    obtain ⟨y60, z61, h⟩ := bd_e h
    refine zx_callS (As := [.int x4]) hG mf_X11_isStore cs_X11_231 ⟨by decide, by decide⟩ rfl rfl (Nat.le_of_ble_eq_true rfl) (s_X11_isStore hG _ _ _ z61) (Nat.le_of_ble_eq_true rfl) dX11_retires_158 ?_
    by_cases c62 : y60 = 0
    · have h := it_t c62 h
      refine zx_if_eq_t (tgt := 192) dX11_retires_161 (by decide) c62 ?_
      refine zx_sub (L' := [(0, .ref a0), (1, .int x1), (2, .int x2), (3, .ref a3)]) [1, 2, 3, 4] rfl ?_
      exact s_X11_retires_b192 hG hk61 _ _ _ _ _ _ _ h
    · have h := it_f c62 h
      refine zx_if_eq_f (tgt := 192) dX11_retires_161 (by decide) c62 ?_
      refine zx_aload_n dX11_retires_164 rfl (q := 1) rfl ?_
      obtain ⟨h63, h⟩ := ck_e h
      obtain ⟨p64, h65, h⟩ := bd_e h
      refine zx_getR hG fl_X11_65 h63 h65 dX11_retires_165 ?_
      refine zx_aload_n dX11_retires_168 rfl (q := 4) rfl ?_
      refine zx_bipush (v := 8) dX11_retires_169 iv_bipush_8 ?_
      obtain ⟨h66, h⟩ := ck_e h
      obtain ⟨h67, h⟩ := ck_e h
      refine zx_iald hG rfl (h66).1 (h66).2 (inb_e h67) dX11_retires_171 ?_
      obtain ⟨h68, h⟩ := ck_e h
      obtain ⟨h69, h⟩ := ck_e h
      refine zx_zald hG rfl (h68).1 (h68).2 (inb_e h69) dX11_retires_172 ?_
      by_cases c70 : ¬ (zb (mI μ p64 (Int32.toNatClampNeg (mI μ a3 (Int32.toNatClampNeg 8))))) = 0
      · have h := it_t c70 h
        refine zx_if_ne_t (tgt := 192) dX11_retires_173 (by decide) c70 ?_
        refine zx_sub (L' := [(0, .ref a0), (1, .int x1), (2, .int x2), (3, .ref a3)]) [1, 2, 3, 4] rfl ?_
        exact s_X11_retires_b192 hG hk61 _ _ _ _ _ _ _ h
      · have h := it_f c70 h
        refine zx_if_ne_f (tgt := 192) dX11_retires_173 (by decide) (Classical.not_not.mp c70) ?_
        refine zx_sub (L' := [(0, .ref a0), (1, .int x1)]) [1, 2] rfl ?_
        exact s_X11_retires_b176 hG _ _ _ _ _ h
  · have h := it_f c59 h
    refine zx_if_le_f (tgt := 156) dX11_retires_141 (by decide) c59 ?_
    refine zx_aload_n dX11_retires_144 rfl (q := 1) rfl ?_
    refine zx_aload_n dX11_retires_145 rfl (q := 4) rfl ?_
    refine zx_iload dX11_retires_146 (q := 0) rfl ?_
    obtain ⟨h71, h⟩ := ck_e h
    obtain ⟨uu72, μ74, z73, h⟩ := cl_e h
    refine zx_callV (As := [.ref a3, .int s0]) hG mf_X11_traps cv_X11_314 h71 ⟨by decide, by decide⟩ rfl rfl (Nat.le_of_ble_eq_true rfl) (s_X11_traps hG _ _ _ _ _ _ z73) (Nat.le_of_ble_eq_true rfl) dX11_retires_148 ?_
    refine zx_iconst (v := 1) dX11_retires_151 iv_iconst_1 ?_
    refine zx_istore_n (L' := [(2, .int 1), (5, .int s0), (0, .ref a0), (1, .int x1), (3, .ref a3), (4, .int x4)]) dX11_retires_152 rfl (by decide) rfl ?_
    refine zx_goto (tgt := 204) dX11_retires_153 (by decide) ?_
    refine zx_sub (L' := [(0, .ref a0), (1, .int x1), (2, .int 1)]) [2, 3, 0] rfl ?_
    exact s_X11_retires_b204 hG hk61 _ _ _ _ _ _ h
set_option maxRecDepth 100000 in
theorem s_X11_retires_b133 {l : Launch} {G : Gt} (hG : Gok l G) {k61 : Nat → Int32 → Int32 → Mm → Option (Unit × Mm)} (hk61 : ∀ (a0 : Nat) (x1 : Int32) (x2 : Int32) (μ : Mm) (r : Unit) (μ' : Mm), k61 a0 x1 x2 μ = some (r, μ') → ZX l G mX11_retires 61 [(0, .ref a0), (1, .int x1), (2, .int x2)] [] μ (.inl none) μ') (a0 : Nat) (x1 : Int32) (x2 : Int32) (a3 : Nat) (x4 : Int32) (μ : Mm) (r : Unit) (μ' : Mm) (h : f_X11_retires_b133 k61 a0 x1 x2 a3 x4 μ = some (r, μ')) : ZX l G mX11_retires 133 [(0, .ref a0), (1, .int x1), (2, .int x2), (3, .ref a3), (4, .int x4)] [] μ (.inl none) μ' := by
  unfold f_X11_retires_b133 at h
  refine zx_aload_n dX11_retires_133 rfl (q := 3) rfl ?_
  refine zx_bipush (v := 13) dX11_retires_134 iv_bipush_13 ?_
  obtain ⟨h88, h⟩ := ck_e h
  obtain ⟨h89, h⟩ := ck_e h
  refine zx_iald hG rfl (h88).1 (h88).2 (inb_e h89) dX11_retires_136 ?_
  exact s_X11_retires_b137 hG hk61 _ _ _ _ _ _ _ _ _ h
set_option maxRecDepth 100000 in
theorem s_X11_retires_b243 {l : Launch} {G : Gt} (hG : Gok l G) (s0 : Int32) (s1 : Nat) (μ : Mm) (r : Unit) (μ' : Mm) (h : f_X11_retires_b243 s0 s1 μ = some (r, μ')) : ZX l G mX11_retires 243 [] [.int s0, .ref s1] μ (.inl none) μ' := by
  unfold f_X11_retires_b243 at h
  obtain ⟨h55, h⟩ := ck_e h
  obtain ⟨uu56, μ58, z57, h⟩ := cl_e h
  refine zx_callV (As := [.int s0]) hG mf_X11_loses cv_X11_310 h55 ⟨by decide, by decide⟩ rfl rfl (Nat.le_of_ble_eq_true rfl) (s_X11_loses hG _ _ _ _ _ z57) (Nat.le_of_ble_eq_true rfl) dX11_retires_243 ?_
  cases h
  exact zx_vret dX11_retires_246 rfl
set_option maxRecDepth 100000 in
theorem s_X11_retires_b207 {l : Launch} {G : Gt} (hG : Gok l G) (a0 : Nat) (x1 : Int32) (x2 : Int32) (μ : Mm) (r : Unit) (μ' : Mm) (h : f_X11_retires_b207 a0 x1 x2 μ = some (r, μ')) : ZX l G mX11_retires 207 [(0, .ref a0), (1, .int x1), (2, .int x2)] [] μ (.inl none) μ' := by
  unfold f_X11_retires_b207 at h
  refine zx_iload_n dX11_retires_207 rfl (q := 1) rfl ?_
  by_cases c43 : ¬ x1 = 0
  · have h := it_t c43 h
    refine zx_if_ne_t (tgt := 246) dX11_retires_208 (by decide) c43 ?_
    cases h
    exact zx_vret dX11_retires_246 rfl
  · have h := it_f c43 h
    refine zx_if_ne_f (tgt := 246) dX11_retires_208 (by decide) (Classical.not_not.mp c43) ?_
    refine zx_aload_n dX11_retires_211 rfl (q := 0) rfl ?_
    refine zx_iload_n dX11_retires_212 rfl (q := 2) rfl ?_
    by_cases c44 : x2 = 0
    · have h := it_t c44 h
      refine zx_if_eq_t (tgt := 221) dX11_retires_213 (by decide) c44 ?_
      refine zx_aload_n dX11_retires_221 rfl (q := 0) rfl ?_
      obtain ⟨h45, h⟩ := ck_e h
      refine zx_getI hG fl_X11_198 h45 dX11_retires_222 ?_
      by_cases c46 : ¬ (mI μ a0 23) = 0
      · have h := it_t c46 h
        refine zx_if_ne_t (tgt := 233) dX11_retires_225 (by decide) c46 ?_
        refine zx_aload_n dX11_retires_233 rfl (q := 0) rfl ?_
        obtain ⟨p47, h48, h⟩ := bd_e h
        refine zx_getR hG fl_X11_74 h45 h48 dX11_retires_234 ?_
        refine zx_iconst (v := 0) dX11_retires_237 iv_iconst_0 ?_
        obtain ⟨h49, h⟩ := ck_e h
        obtain ⟨h50, h⟩ := ck_e h
        obtain ⟨p51, h52, h⟩ := bd_e h
        refine zx_aald hG rfl (h49).1 (h49).2 (inb_e h50) h52 dX11_retires_238 ?_
        refine zx_bipush (v := 11) dX11_retires_239 iv_bipush_11 ?_
        obtain ⟨h53, h⟩ := ck_e h
        obtain ⟨h54, h⟩ := ck_e h
        refine zx_iald hG rfl (h53).1 (h53).2 (inb_e h54) dX11_retires_241 ?_
        refine zx_i2c dX11_retires_242 ?_
        refine zx_sub (L' := []) [] rfl ?_
        exact s_X11_retires_b243 hG _ _ _ _ _ h
      · have h := it_f c46 h
        refine zx_if_ne_f (tgt := 233) dX11_retires_225 (by decide) (Classical.not_not.mp c46) ?_
        refine zx_bipush (v := 102) dX11_retires_228 iv_bipush_102 ?_
        refine zx_goto (tgt := 243) dX11_retires_230 (by decide) ?_
        refine zx_sub (L' := []) [] rfl ?_
        exact s_X11_retires_b243 hG _ _ _ _ _ h
    · have h := it_f c44 h
      refine zx_if_eq_f (tgt := 221) dX11_retires_213 (by decide) c44 ?_
      refine zx_bipush (v := 116) dX11_retires_216 iv_bipush_116 ?_
      refine zx_goto (tgt := 243) dX11_retires_218 (by decide) ?_
      refine zx_sub (L' := []) [] rfl ?_
      exact s_X11_retires_b243 hG _ _ _ _ _ h
set_option maxRecDepth 100000 in
theorem s_X11_retires_b61 {l : Launch} {G : Gt} (hG : Gok l G) : ∀ (n : Nat) (a0 : Nat) (x1 : Int32) (x2 : Int32) (μ : Mm) (r : Unit) (μ' : Mm), f_X11_retires_b61 n a0 x1 x2 μ = some (r, μ') → ZX l G mX11_retires 61 [(0, .ref a0), (1, .int x1), (2, .int x2)] [] μ (.inl none) μ' := by
  intro n
  induction n with
  | zero =>
    intro a0 x1 x2 μ r μ' h
    cases h
  | succ n ih =>
    intro a0 x1 x2 μ r μ' h
    unfold f_X11_retires_b61 at h
    refine zx_iload_n dX11_retires_61 rfl (q := 1) rfl ?_
    refine zx_aload_n dX11_retires_62 rfl (q := 0) rfl ?_
    obtain ⟨h19, h⟩ := ck_e h
    refine zx_getI hG fl_X11_25 h19 dX11_retires_63 ?_
    by_cases c20 : (mI μ a0 6) ≤ x1
    · have h := it_t c20 h
      refine zx_icmp_ge_t (tgt := 207) dX11_retires_66 (by decide) c20 ?_
      exact s_X11_retires_b207 hG _ _ _ _ _ _ h
    · have h := it_f c20 h
      refine zx_icmp_ge_f (tgt := 207) dX11_retires_66 (by decide) c20 ?_
      refine zx_iload_n dX11_retires_69 rfl (q := 2) rfl ?_
      by_cases c21 : ¬ x2 = 0
      · have h := it_t c21 h
        refine zx_if_ne_t (tgt := 207) dX11_retires_70 (by decide) c21 ?_
        exact s_X11_retires_b207 hG _ _ _ _ _ _ h
      · have h := it_f c21 h
        refine zx_if_ne_f (tgt := 207) dX11_retires_70 (by decide) (Classical.not_not.mp c21) ?_
        refine zx_aload_n dX11_retires_73 rfl (q := 0) rfl ?_
        refine zx_getZ hG fl_X11_147 h19 dX11_retires_74 ?_
        by_cases c22 : ¬ (zb (mI μ a0 37)) = 0
        · have h := it_t c22 h
          refine zx_if_ne_t (tgt := 207) dX11_retires_77 (by decide) c22 ?_
          exact s_X11_retires_b207 hG _ _ _ _ _ _ h
        · have h := it_f c22 h
          refine zx_if_ne_f (tgt := 207) dX11_retires_77 (by decide) (Classical.not_not.mp c22) ?_
          refine zx_aload_n dX11_retires_80 rfl (q := 0) rfl ?_
          refine zx_getI hG fl_X11_198 h19 dX11_retires_81 ?_
          by_cases c23 : (mI μ a0 23) ≤ 0
          · have h := it_t c23 h
            refine zx_if_le_t (tgt := 207) dX11_retires_84 (by decide) c23 ?_
            exact s_X11_retires_b207 hG _ _ _ _ _ _ h
          · have h := it_f c23 h
            refine zx_if_le_f (tgt := 207) dX11_retires_84 (by decide) c23 ?_
            refine zx_aload_n dX11_retires_87 rfl (q := 0) rfl ?_
            obtain ⟨p24, h25, h⟩ := bd_e h
            refine zx_getR hG fl_X11_74 h19 h25 dX11_retires_88 ?_
            refine zx_iconst (v := 0) dX11_retires_91 iv_iconst_0 ?_
            obtain ⟨h26, h⟩ := ck_e h
            obtain ⟨h27, h⟩ := ck_e h
            obtain ⟨p28, h29, h⟩ := bd_e h
            refine zx_aald hG rfl (h26).1 (h26).2 (inb_e h27) h29 dX11_retires_92 ?_
            refine zx_bipush (v := 11) dX11_retires_93 iv_bipush_11 ?_
            obtain ⟨h30, h⟩ := ck_e h
            obtain ⟨h31, h⟩ := ck_e h
            refine zx_iald hG rfl (h30).1 (h30).2 (inb_e h31) dX11_retires_95 ?_
            refine zx_bipush (v := 101) dX11_retires_96 iv_bipush_101 ?_
            by_cases c32 : ¬ (mI μ p28 (Int32.toNatClampNeg 11)) = 101
            · have h := it_t c32 h
              refine zx_icmp_ne_t (tgt := 207) dX11_retires_98 (by decide) c32 ?_
              exact s_X11_retires_b207 hG _ _ _ _ _ _ h
            · have h := it_f c32 h
              refine zx_icmp_ne_f (tgt := 207) dX11_retires_98 (by decide) (Classical.not_not.mp c32) ?_
              refine zx_aload_n dX11_retires_101 rfl (q := 0) rfl ?_
              obtain ⟨p33, h34, h⟩ := bd_e h
              refine zx_getR hG fl_X11_74 h19 h34 dX11_retires_102 ?_
              refine zx_iconst (v := 0) dX11_retires_105 iv_iconst_0 ?_
              obtain ⟨h35, h⟩ := ck_e h
              obtain ⟨h36, h⟩ := ck_e h
              obtain ⟨p37, h38, h⟩ := bd_e h
              refine zx_aald hG rfl (h35).1 (h35).2 (inb_e h36) h38 dX11_retires_106 ?_
              refine zx_astore_n (L' := [(3, .ref p37), (0, .ref a0), (1, .int x1), (2, .int x2)]) dX11_retires_107 rfl (by decide) rfl ?_
              refine zx_aload_n dX11_retires_108 rfl (q := 1) rfl ?_
              refine zx_aload_n dX11_retires_109 rfl (q := 0) rfl ?_
              obtain ⟨y39, z40, h⟩ := bd_e h
              refine zx_callV (As := [.ref p37]) hG mf_X11_codeOf cv_X11_201 h19 ⟨by decide, by decide⟩ rfl rfl (Nat.le_of_ble_eq_true rfl) (s_X11_codeOf hG _ _ _ _ z40) (Nat.le_of_ble_eq_true rfl) dX11_retires_110 ?_
              refine zx_istore (L' := [(4, .int y39), (3, .ref p37), (0, .ref a0), (1, .int x1), (2, .int x2)]) dX11_retires_113 (by decide) rfl ?_
              refine zx_iload dX11_retires_115 (q := 0) rfl ?_
              refine zx_bipush (v := 21) dX11_retires_117 iv_bipush_21 ?_
              by_cases c41 : ¬ y39 = 21
              · have h := it_t c41 h
                refine zx_icmp_ne_t (tgt := 133) dX11_retires_119 (by decide) c41 ?_
                refine zx_sub (L' := [(0, .ref a0), (1, .int x1), (2, .int x2), (3, .ref p37), (4, .int y39)]) [2, 3, 4, 1, 0] rfl ?_
                exact s_X11_retires_b133 hG ih _ _ _ _ _ _ _ _ h
              · have h := it_f c41 h
                refine zx_icmp_ne_f (tgt := 133) dX11_retires_119 (by decide) (Classical.not_not.mp c41) ?_
                refine zx_aload_n dX11_retires_122 rfl (q := 2) rfl ?_
                refine zx_getZ hG fl_X11_291 h19 dX11_retires_123 ?_
                by_cases c42 : ¬ (zb (mI μ a0 39)) = 0
                · have h := it_t c42 h
                  refine zx_if_ne_t (tgt := 133) dX11_retires_126 (by decide) c42 ?_
                  refine zx_sub (L' := [(0, .ref a0), (1, .int x1), (2, .int x2), (3, .ref p37), (4, .int y39)]) [2, 3, 4, 1, 0] rfl ?_
                  exact s_X11_retires_b133 hG ih _ _ _ _ _ _ _ _ h
                · have h := it_f c42 h
                  refine zx_if_ne_f (tgt := 133) dX11_retires_126 (by decide) (Classical.not_not.mp c42) ?_
                  refine zx_iconst (v := 5) dX11_retires_129 iv_iconst_5 ?_
                  refine zx_goto (tgt := 137) dX11_retires_130 (by decide) ?_
                  refine zx_sub (L' := [(0, .ref a0), (1, .int x1), (2, .int x2), (3, .ref p37), (4, .int y39)]) [2, 3, 4, 1, 0] rfl ?_
                  exact s_X11_retires_b137 hG ih _ _ _ _ _ _ _ _ _ h
set_option maxRecDepth 100000 in
theorem s_X11_retires_b57 {l : Launch} {G : Gt} (hG : Gok l G) (a0 : Nat) (μ : Mm) (r : Unit) (μ' : Mm) (h : f_X11_retires_b57 a0 μ = some (r, μ')) : ZX l G mX11_retires 57 [(0, .ref a0)] [] μ (.inl none) μ' := by
  unfold f_X11_retires_b57 at h
  refine zx_iconst (v := 0) dX11_retires_57 iv_iconst_0 ?_
  refine zx_istore_n (L' := [(1, .int 0), (0, .ref a0)]) dX11_retires_58 rfl (by decide) rfl ?_
  refine zx_iconst (v := 0) dX11_retires_59 iv_iconst_0 ?_
  refine zx_istore_n (L' := [(2, .int 0), (1, .int 0), (0, .ref a0)]) dX11_retires_60 rfl (by decide) rfl ?_
  refine zx_sub (L' := [(0, .ref a0), (1, .int 0), (2, .int 0)]) [2, 1, 0] rfl ?_
  exact s_X11_retires_b61 hG 5000 _ _ _ _ _ _ h
set_option maxRecDepth 100000 in
theorem s_X11_retires {l : Launch} {G : Gt} (hG : Gok l G) (a0 : Nat) (μ : Mm) (r : Unit) (μ' : Mm) (h : f_X11_retires a0 μ = some (r, μ')) : ZX l G mX11_retires 0 [(0, .ref a0)] [] μ (.inl none) μ' := by
  unfold f_X11_retires at h
  refine zx_aload_n dX11_retires_0 rfl (q := 0) rfl ?_
  obtain ⟨h1, h⟩ := ck_e h
  refine zx_getZ hG fl_X11_143 h1 dX11_retires_1 ?_
  by_cases c2 : (zb (mI μ a0 38)) = 0
  · have h := it_t c2 h
    refine zx_if_eq_t (tgt := 57) dX11_retires_4 (by decide) c2 ?_
    exact s_X11_retires_b57 hG _ _ _ _ h
  · have h := it_f c2 h
    refine zx_if_eq_f (tgt := 57) dX11_retires_4 (by decide) c2 ?_
    refine zx_aload_n dX11_retires_7 rfl (q := 0) rfl ?_
    refine zx_getZ hG fl_X11_291 h1 dX11_retires_8 ?_
    by_cases c3 : ¬ (zb (mI μ a0 39)) = 0
    · have h := it_t c3 h
      refine zx_if_ne_t (tgt := 57) dX11_retires_11 (by decide) c3 ?_
      exact s_X11_retires_b57 hG _ _ _ _ h
    · have h := it_f c3 h
      refine zx_if_ne_f (tgt := 57) dX11_retires_11 (by decide) (Classical.not_not.mp c3) ?_
      refine zx_aload_n dX11_retires_14 rfl (q := 0) rfl ?_
      refine zx_getI hG fl_X11_41 h1 dX11_retires_15 ?_
      refine zx_iconst (v := (-1)) dX11_retires_18 iv_iconst_m1 ?_
      by_cases c4 : (mI μ a0 11) = ((-1))
      · have h := it_t c4 h
        refine zx_icmp_eq_t (tgt := 57) dX11_retires_19 (by decide) c4 ?_
        exact s_X11_retires_b57 hG _ _ _ _ h
      · have h := it_f c4 h
        refine zx_icmp_eq_f (tgt := 57) dX11_retires_19 (by decide) c4 ?_
        refine zx_aload_n dX11_retires_22 rfl (q := 0) rfl ?_
        refine zx_iconst (v := 0) dX11_retires_23 iv_iconst_0 ?_
        refine zx_putZ hG fl_X11_143 fn_12_38 h1 zb_0 dX11_retires_24 ?_
        obtain ⟨μ5, e7, h⟩ := zlm_e h
        refine zx_mem e7 ?_
        have e6 : mK μ5 = mK μ := (congrArg mK e7).trans rfl
        refine zx_aload_n dX11_retires_27 rfl (q := 0) rfl ?_
        refine zx_bipush (v := 9) dX11_retires_28 iv_bipush_9 ?_
        refine zx_aload_n dX11_retires_30 rfl (q := 0) rfl ?_
        refine zx_getI hG fl_X11_294 (kp_o (e6) h1) dX11_retires_31 ?_
        refine zx_null dX11_retires_34 ?_
        obtain ⟨uu8, μ10, z9, h⟩ := cl_e h
        refine zx_callV (As := [.int 9, .int (mI μ5 a0 41), .null]) hG mf_X11_tellsEnd cv_X11_297 (kp_o (e6) h1) ⟨by decide, by decide⟩ rfl rfl (Nat.le_of_ble_eq_true rfl) (s_X11_tellsEnd_n2 hG _ _ _ _ _ _ z9) (Nat.le_of_ble_eq_true rfl) dX11_retires_35 ?_
        refine zx_aload_n dX11_retires_38 rfl (q := 0) rfl ?_
        refine zx_aload_n dX11_retires_39 rfl (q := 0) rfl ?_
        obtain ⟨h11, h⟩ := ck_e h
        refine zx_getI hG fl_X11_294 h11 dX11_retires_40 ?_
        refine zx_aload_n dX11_retires_43 rfl (q := 0) rfl ?_
        refine zx_getI hG fl_X11_41 h11 dX11_retires_44 ?_
        obtain ⟨uu12, μ14, z13, h⟩ := cl_e h
        refine zx_callV (As := [.int (mI μ10 a0 41), .int (mI μ10 a0 11)]) hG mf_X11_handles cv_X11_301 h11 ⟨by decide, by decide⟩ rfl rfl (Nat.le_of_ble_eq_true rfl) (s_X11_handles hG _ _ _ _ _ _ z13) (Nat.le_of_ble_eq_true rfl) dX11_retires_47 ?_
        refine zx_aload_n dX11_retires_50 rfl (q := 0) rfl ?_
        refine zx_bipush (v := 105) dX11_retires_51 iv_bipush_105 ?_
        obtain ⟨h15, h⟩ := ck_e h
        obtain ⟨uu16, μ18, z17, h⟩ := cl_e h
        refine zx_callV (As := [.int 105]) hG mf_X11_loses cv_X11_310 h15 ⟨by decide, by decide⟩ rfl rfl (Nat.le_of_ble_eq_true rfl) (s_X11_loses hG _ _ _ _ _ z17) (Nat.le_of_ble_eq_true rfl) dX11_retires_53 ?_
        cases h
        exact zx_vret dX11_retires_56 rfl
def f_X11_hasOperands_b73 (μ : Mm) : Option Int32 :=
  some 1
def f_X11_hasOperands_b50 (a0 : Nat) (a1 : Nat) (x3 : Int32) (s0 : Int32) (μ : Mm) : Option Int32 :=
  if x3 = 0 then
    some 0
  else
    if s0 = 0 then
      f_X11_hasOperands_b73 μ
    else
      ck (mK μ a0 = 112) <|
      bd (mR μ a0 19) fun p18 =>
      ck (isA 1 (mK μ a1)) <|
      ck (inb 8 (mL μ a1)) <|
      ck (isA 2 (mK μ p18)) <|
      ck (inb (mI μ a1 (Int32.toNatClampNeg 8)) (mL μ p18)) <|
      if (zb (mI μ p18 (Int32.toNatClampNeg (mI μ a1 (Int32.toNatClampNeg 8))))) = 0 then
        some 0
      else
        f_X11_hasOperands_b73 μ
def f_X11_hasOperands_b45 (a0 : Nat) (a1 : Nat) (x3 : Int32) (μ : Mm) : Option Int32 :=
  f_X11_hasOperands_b50 a0 a1 x3 1 μ
def f_X11_hasOperands_b22 (a0 : Nat) (a1 : Nat) (x2 : Int32) (s0 : Int32) (μ : Mm) : Option Int32 :=
  bd (f_X11_in x2 2 8) fun y10 =>
  if ¬ y10 = 0 then
    f_X11_hasOperands_b45 a0 a1 s0 μ
  else
    if x2 = 12 then
      f_X11_hasOperands_b45 a0 a1 s0 μ
    else
      if ¬ x2 = 13 then
        f_X11_hasOperands_b50 a0 a1 s0 0 μ
      else
        f_X11_hasOperands_b45 a0 a1 s0 μ
def f_X11_hasOperands_b17 (a0 : Nat) (a1 : Nat) (x2 : Int32) (μ : Mm) : Option Int32 :=
  f_X11_hasOperands_b22 a0 a1 x2 1 μ
def f_X11_hasOperands (a0 : Nat) (a1 : Nat) (x2 : Int32) (μ : Mm) : Option Int32 :=
  if x2 = 1 then
    f_X11_hasOperands_b17 a0 a1 x2 μ
  else
    ck (mK μ a0 = 112) <|
    bd (mR μ a0 19) fun p3 =>
    ck (isA 1 (mK μ a1)) <|
    ck (inb 7 (mL μ a1)) <|
    ck (isA 2 (mK μ p3)) <|
    ck (inb (mI μ a1 (Int32.toNatClampNeg 7)) (mL μ p3)) <|
    if (zb (mI μ p3 (Int32.toNatClampNeg (mI μ a1 (Int32.toNatClampNeg 7))))) = 0 then
      f_X11_hasOperands_b22 a0 a1 x2 0 μ
    else
      f_X11_hasOperands_b17 a0 a1 x2 μ
set_option maxRecDepth 100000 in
theorem s_X11_hasOperands_b73 {l : Launch} {G : Gt} (hG : Gok l G) (μ : Mm) (r : Int32) (h : f_X11_hasOperands_b73 μ = some r) : ZX l G mX11_hasOperands 73 [] [] μ (.inl (some (.int r))) μ := by
  unfold f_X11_hasOperands_b73 at h
  refine zx_iconst (v := 1) dX11_hasOperands_73 iv_iconst_1 ?_
  refine zx_goto (tgt := 78) dX11_hasOperands_74 (by decide) ?_
  cases h
  exact zx_zretZ dX11_hasOperands_78 rfl zb_1
set_option maxRecDepth 100000 in
theorem s_X11_hasOperands_b50 {l : Launch} {G : Gt} (hG : Gok l G) (a0 : Nat) (a1 : Nat) (x3 : Int32) (s0 : Int32) (μ : Mm) (r : Int32) (h : f_X11_hasOperands_b50 a0 a1 x3 s0 μ = some r) : ZX l G mX11_hasOperands 50 [(0, .ref a0), (1, .ref a1), (3, .int x3)] [.int s0] μ (.inl (some (.int r))) μ := by
  unfold f_X11_hasOperands_b50 at h
  refine zx_istore (L' := [(4, .int s0), (0, .ref a0), (1, .ref a1), (3, .int x3)]) dX11_hasOperands_50 (by decide) rfl ?_
  refine zx_iload_n dX11_hasOperands_52 rfl (q := 3) rfl ?_
  by_cases c15 : x3 = 0
  · have h := it_t c15 h
    refine zx_if_eq_t (tgt := 77) dX11_hasOperands_53 (by decide) c15 ?_
    refine zx_iconst (v := 0) dX11_hasOperands_77 iv_iconst_0 ?_
    cases h
    exact zx_zretZ dX11_hasOperands_78 rfl zb_0
  · have h := it_f c15 h
    refine zx_if_eq_f (tgt := 77) dX11_hasOperands_53 (by decide) c15 ?_
    refine zx_iload dX11_hasOperands_56 (q := 0) rfl ?_
    by_cases c16 : s0 = 0
    · have h := it_t c16 h
      refine zx_if_eq_t (tgt := 73) dX11_hasOperands_58 (by decide) c16 ?_
      refine zx_sub (L' := []) [] rfl ?_
      exact s_X11_hasOperands_b73 hG _ _ h
    · have h := it_f c16 h
      refine zx_if_eq_f (tgt := 73) dX11_hasOperands_58 (by decide) c16 ?_
      refine zx_aload_n dX11_hasOperands_61 rfl (q := 1) rfl ?_
      obtain ⟨h17, h⟩ := ck_e h
      obtain ⟨p18, h19, h⟩ := bd_e h
      refine zx_getR hG fl_X11_65 h17 h19 dX11_hasOperands_62 ?_
      refine zx_aload_n dX11_hasOperands_65 rfl (q := 2) rfl ?_
      refine zx_bipush (v := 8) dX11_hasOperands_66 iv_bipush_8 ?_
      obtain ⟨h20, h⟩ := ck_e h
      obtain ⟨h21, h⟩ := ck_e h
      refine zx_iald hG rfl (h20).1 (h20).2 (inb_e h21) dX11_hasOperands_68 ?_
      obtain ⟨h22, h⟩ := ck_e h
      obtain ⟨h23, h⟩ := ck_e h
      refine zx_zald hG rfl (h22).1 (h22).2 (inb_e h23) dX11_hasOperands_69 ?_
      by_cases c24 : (zb (mI μ p18 (Int32.toNatClampNeg (mI μ a1 (Int32.toNatClampNeg 8))))) = 0
      · have h := it_t c24 h
        refine zx_if_eq_t (tgt := 77) dX11_hasOperands_70 (by decide) c24 ?_
        refine zx_iconst (v := 0) dX11_hasOperands_77 iv_iconst_0 ?_
        cases h
        exact zx_zretZ dX11_hasOperands_78 rfl zb_0
      · have h := it_f c24 h
        refine zx_if_eq_f (tgt := 77) dX11_hasOperands_70 (by decide) c24 ?_
        refine zx_sub (L' := []) [] rfl ?_
        exact s_X11_hasOperands_b73 hG _ _ h
set_option maxRecDepth 100000 in
theorem s_X11_hasOperands_b45 {l : Launch} {G : Gt} (hG : Gok l G) (a0 : Nat) (a1 : Nat) (x3 : Int32) (μ : Mm) (r : Int32) (h : f_X11_hasOperands_b45 a0 a1 x3 μ = some r) : ZX l G mX11_hasOperands 45 [(0, .ref a0), (1, .ref a1), (3, .int x3)] [] μ (.inl (some (.int r))) μ := by
  unfold f_X11_hasOperands_b45 at h
  refine zx_iconst (v := 1) dX11_hasOperands_45 iv_iconst_1 ?_
  refine zx_goto (tgt := 50) dX11_hasOperands_46 (by decide) ?_
  exact s_X11_hasOperands_b50 hG _ _ _ _ _ _ h
set_option maxRecDepth 100000 in
theorem s_X11_hasOperands_b22 {l : Launch} {G : Gt} (hG : Gok l G) (a0 : Nat) (a1 : Nat) (x2 : Int32) (s0 : Int32) (μ : Mm) (r : Int32) (h : f_X11_hasOperands_b22 a0 a1 x2 s0 μ = some r) : ZX l G mX11_hasOperands 22 [(0, .ref a0), (1, .ref a1), (2, .int x2)] [.int s0] μ (.inl (some (.int r))) μ := by
  unfold f_X11_hasOperands_b22 at h
  refine zx_istore_n (L' := [(3, .int s0), (0, .ref a0), (1, .ref a1), (2, .int x2)]) dX11_hasOperands_22 rfl (by decide) rfl ?_
  refine zx_iload_n dX11_hasOperands_23 rfl (q := 3) rfl ?_
  refine zx_iconst (v := 2) dX11_hasOperands_24 iv_iconst_2 ?_
  refine zx_bipush (v := 8) dX11_hasOperands_25 iv_bipush_8 ?_
  obtain ⟨y10, z11, h⟩ := bd_e h
  refine zx_callS (As := [.int x2, .int 2, .int 8]) hG mf_X11_in cs_X11_129 ⟨by decide, by decide⟩ rfl rfl (Nat.le_of_ble_eq_true rfl) (s_X11_in hG _ _ _ _ _ z11) (Nat.le_of_ble_eq_true rfl) dX11_hasOperands_27 ?_
  by_cases c12 : ¬ y10 = 0
  · have h := it_t c12 h
    refine zx_if_ne_t (tgt := 45) dX11_hasOperands_30 (by decide) c12 ?_
    refine zx_sub (L' := [(0, .ref a0), (1, .ref a1), (3, .int s0)]) [1, 2, 0] rfl ?_
    exact s_X11_hasOperands_b45 hG _ _ _ _ _ h
  · have h := it_f c12 h
    refine zx_if_ne_f (tgt := 45) dX11_hasOperands_30 (by decide) (Classical.not_not.mp c12) ?_
    refine zx_iload_n dX11_hasOperands_33 rfl (q := 3) rfl ?_
    refine zx_bipush (v := 12) dX11_hasOperands_34 iv_bipush_12 ?_
    by_cases c13 : x2 = 12
    · have h := it_t c13 h
      refine zx_icmp_eq_t (tgt := 45) dX11_hasOperands_36 (by decide) c13 ?_
      refine zx_sub (L' := [(0, .ref a0), (1, .ref a1), (3, .int s0)]) [1, 2, 0] rfl ?_
      exact s_X11_hasOperands_b45 hG _ _ _ _ _ h
    · have h := it_f c13 h
      refine zx_icmp_eq_f (tgt := 45) dX11_hasOperands_36 (by decide) c13 ?_
      refine zx_iload_n dX11_hasOperands_39 rfl (q := 3) rfl ?_
      refine zx_bipush (v := 13) dX11_hasOperands_40 iv_bipush_13 ?_
      by_cases c14 : ¬ x2 = 13
      · have h := it_t c14 h
        refine zx_icmp_ne_t (tgt := 49) dX11_hasOperands_42 (by decide) c14 ?_
        refine zx_iconst (v := 0) dX11_hasOperands_49 iv_iconst_0 ?_
        refine zx_sub (L' := [(0, .ref a0), (1, .ref a1), (3, .int s0)]) [1, 2, 0] rfl ?_
        exact s_X11_hasOperands_b50 hG _ _ _ _ _ _ h
      · have h := it_f c14 h
        refine zx_icmp_ne_f (tgt := 49) dX11_hasOperands_42 (by decide) (Classical.not_not.mp c14) ?_
        refine zx_sub (L' := [(0, .ref a0), (1, .ref a1), (3, .int s0)]) [1, 2, 0] rfl ?_
        exact s_X11_hasOperands_b45 hG _ _ _ _ _ h
set_option maxRecDepth 100000 in
theorem s_X11_hasOperands_b17 {l : Launch} {G : Gt} (hG : Gok l G) (a0 : Nat) (a1 : Nat) (x2 : Int32) (μ : Mm) (r : Int32) (h : f_X11_hasOperands_b17 a0 a1 x2 μ = some r) : ZX l G mX11_hasOperands 17 [(0, .ref a0), (1, .ref a1), (2, .int x2)] [] μ (.inl (some (.int r))) μ := by
  unfold f_X11_hasOperands_b17 at h
  refine zx_iconst (v := 1) dX11_hasOperands_17 iv_iconst_1 ?_
  refine zx_goto (tgt := 22) dX11_hasOperands_18 (by decide) ?_
  exact s_X11_hasOperands_b22 hG _ _ _ _ _ _ h
set_option maxRecDepth 100000 in
theorem s_X11_hasOperands {l : Launch} {G : Gt} (hG : Gok l G) (a0 : Nat) (a1 : Nat) (x2 : Int32) (μ : Mm) (r : Int32) (h : f_X11_hasOperands a0 a1 x2 μ = some r) : ZX l G mX11_hasOperands 0 [(0, .ref a0), (1, .ref a1), (2, .int x2)] [] μ (.inl (some (.int r))) μ := by
  unfold f_X11_hasOperands at h
  refine zx_iload_n dX11_hasOperands_0 rfl (q := 2) rfl ?_
  refine zx_iconst (v := 1) dX11_hasOperands_1 iv_iconst_1 ?_
  by_cases c1 : x2 = 1
  · have h := it_t c1 h
    refine zx_icmp_eq_t (tgt := 17) dX11_hasOperands_2 (by decide) c1 ?_
    exact s_X11_hasOperands_b17 hG _ _ _ _ _ h
  · have h := it_f c1 h
    refine zx_icmp_eq_f (tgt := 17) dX11_hasOperands_2 (by decide) c1 ?_
    refine zx_aload_n dX11_hasOperands_5 rfl (q := 0) rfl ?_
    obtain ⟨h2, h⟩ := ck_e h
    obtain ⟨p3, h4, h⟩ := bd_e h
    refine zx_getR hG fl_X11_65 h2 h4 dX11_hasOperands_6 ?_
    refine zx_aload_n dX11_hasOperands_9 rfl (q := 1) rfl ?_
    refine zx_bipush (v := 7) dX11_hasOperands_10 iv_bipush_7 ?_
    obtain ⟨h5, h⟩ := ck_e h
    obtain ⟨h6, h⟩ := ck_e h
    refine zx_iald hG rfl (h5).1 (h5).2 (inb_e h6) dX11_hasOperands_12 ?_
    obtain ⟨h7, h⟩ := ck_e h
    obtain ⟨h8, h⟩ := ck_e h
    refine zx_zald hG rfl (h7).1 (h7).2 (inb_e h8) dX11_hasOperands_13 ?_
    by_cases c9 : (zb (mI μ p3 (Int32.toNatClampNeg (mI μ a1 (Int32.toNatClampNeg 7))))) = 0
    · have h := it_t c9 h
      refine zx_if_eq_t (tgt := 21) dX11_hasOperands_14 (by decide) c9 ?_
      refine zx_iconst (v := 0) dX11_hasOperands_21 iv_iconst_0 ?_
      exact s_X11_hasOperands_b22 hG _ _ _ _ _ _ h
    · have h := it_f c9 h
      refine zx_if_eq_f (tgt := 21) dX11_hasOperands_14 (by decide) c9 ?_
      exact s_X11_hasOperands_b17 hG _ _ _ _ _ h
def f_X11_starts (a0 : Nat) (a1 : Nat) (x2 : Int32) (μ : Mm) : Option (Unit × Mm) :=
  ck (isA 1 (mK μ a1)) <|
  ck (inb 11 (mL μ a1)) <|
  zl (sI μ a1 (Int32.toNatClampNeg 11) 120) fun μ3 =>
  ck (mK μ3 a0 = 112) <|
  ck (inb 3 (mL μ3 a1)) <|
  zl (sI μ3 a1 (Int32.toNatClampNeg 3) (mI μ3 a0 36)) fun μ8 =>
  ck (inb 12 (mL μ8 a1)) <|
  zl (sI μ8 a1 (Int32.toNatClampNeg 12) ((mI μ8 a0 36) + x2)) fun μ12 =>
  some ((), μ12)
set_option maxRecDepth 100000 in
theorem s_X11_starts {l : Launch} {G : Gt} (hG : Gok l G) (a0 : Nat) (a1 : Nat) (x2 : Int32) (μ : Mm) (r : Unit) (μ' : Mm) (h : f_X11_starts a0 a1 x2 μ = some (r, μ')) : ZX l G mX11_starts 0 [(0, .ref a0), (1, .ref a1), (2, .int x2)] [] μ (.inl none) μ' := by
  unfold f_X11_starts at h
  refine zx_aload_n dX11_starts_0 rfl (q := 1) rfl ?_
  refine zx_bipush (v := 11) dX11_starts_1 iv_bipush_11 ?_
  refine zx_bipush (v := 120) dX11_starts_3 iv_bipush_120 ?_
  obtain ⟨h1, h⟩ := ck_e h
  obtain ⟨h2, h⟩ := ck_e h
  refine zx_iast hG rfl (h1).1 (h1).2 (inb_e h2) dX11_starts_5 ?_
  obtain ⟨μ3, e5, h⟩ := zlm_e h
  refine zx_mem e5 ?_
  have e4 : mK μ3 = mK μ := (congrArg mK e5).trans rfl
  refine zx_aload_n dX11_starts_6 rfl (q := 1) rfl ?_
  refine zx_iconst (v := 3) dX11_starts_7 iv_iconst_3 ?_
  refine zx_aload_n dX11_starts_8 rfl (q := 0) rfl ?_
  obtain ⟨h6, h⟩ := ck_e h
  refine zx_getI hG fl_X11_133 h6 dX11_starts_9 ?_
  obtain ⟨h7, h⟩ := ck_e h
  refine zx_iast hG rfl ((kp_a (e4) h1)).1 ((kp_a (e4) h1)).2 (inb_e h7) dX11_starts_12 ?_
  obtain ⟨μ8, e10, h⟩ := zlm_e h
  refine zx_mem e10 ?_
  have e9 : mK μ8 = mK μ3 := (congrArg mK e10).trans rfl
  refine zx_aload_n dX11_starts_13 rfl (q := 1) rfl ?_
  refine zx_bipush (v := 12) dX11_starts_14 iv_bipush_12 ?_
  refine zx_aload_n dX11_starts_16 rfl (q := 0) rfl ?_
  refine zx_getI hG fl_X11_133 (kp_o (e9) h6) dX11_starts_17 ?_
  refine zx_iload_n dX11_starts_20 rfl (q := 2) rfl ?_
  refine zx_iadd dX11_starts_21 ?_
  obtain ⟨h11, h⟩ := ck_e h
  refine zx_iast hG rfl ((kp_a (Eq.trans e9 e4) h1)).1 ((kp_a (Eq.trans e9 e4) h1)).2 (inb_e h11) dX11_starts_22 ?_
  obtain ⟨μ12, e14, h⟩ := zlm_e h
  refine zx_mem e14 ?_
  have e13 : mK μ12 = mK μ8 := (congrArg mK e14).trans rfl
  cases h
  exact zx_vret dX11_starts_23 rfl
def f_X11_isAskedFor_b31 (k4 : Nat → Int32 → Int32 → Int32 → Mm → Option Int32) (a0 : Nat) (x1 : Int32) (x3 : Int32) (s0 : Int32) (μ : Mm) : Option Int32 :=
  k4 a0 x1 s0 (x3 + 1) μ
def f_X11_isAskedFor_b26 (k4 : Nat → Int32 → Int32 → Int32 → Mm → Option Int32) (a0 : Nat) (x1 : Int32) (x3 : Int32) (μ : Mm) : Option Int32 :=
  f_X11_isAskedFor_b31 k4 a0 x1 x3 1 μ
def f_X11_isAskedFor_b4 : Nat → Nat → Int32 → Int32 → Int32 → Mm → Option Int32
  | 0, _, _, _, _, _ => none
  | n + 1, a0, x1, x2, x3, μ =>
  ck (mK μ a0 = 112) <|
  if (mI μ a0 35) ≤ x3 then
    ck (zb x2 = x2) <|
    some x2
  else
    if ¬ x2 = 0 then
      f_X11_isAskedFor_b26 (f_X11_isAskedFor_b4 n) a0 x1 x3 μ
    else
      bd (mR μ a0 33) fun p5 =>
      ck (isA 1 (mK μ p5)) <|
      ck (inb x3 (mL μ p5)) <|
      if ¬ (mI μ p5 (Int32.toNatClampNeg x3)) = x1 then
        f_X11_isAskedFor_b31 (f_X11_isAskedFor_b4 n) a0 x1 x3 0 μ
      else
        f_X11_isAskedFor_b26 (f_X11_isAskedFor_b4 n) a0 x1 x3 μ
def f_X11_isAskedFor (a0 : Nat) (x1 : Int32) (μ : Mm) : Option Int32 :=
  f_X11_isAskedFor_b4 5000 a0 x1 0 0 μ
set_option maxRecDepth 100000 in
theorem s_X11_isAskedFor_b31 {l : Launch} {G : Gt} (hG : Gok l G) {k4 : Nat → Int32 → Int32 → Int32 → Mm → Option Int32} (hk4 : ∀ (a0 : Nat) (x1 : Int32) (x2 : Int32) (x3 : Int32) (μ : Mm) (r : Int32), k4 a0 x1 x2 x3 μ = some r → ZX l G mX11_isAskedFor 4 [(0, .ref a0), (1, .int x1), (2, .int x2), (3, .int x3)] [] μ (.inl (some (.int r))) μ) (a0 : Nat) (x1 : Int32) (x3 : Int32) (s0 : Int32) (μ : Mm) (r : Int32) (h : f_X11_isAskedFor_b31 k4 a0 x1 x3 s0 μ = some r) : ZX l G mX11_isAskedFor 31 [(0, .ref a0), (1, .int x1), (3, .int x3)] [.int s0] μ (.inl (some (.int r))) μ := by
  unfold f_X11_isAskedFor_b31 at h
  refine zx_istore_n (L' := [(2, .int s0), (0, .ref a0), (1, .int x1), (3, .int x3)]) dX11_isAskedFor_31 rfl (by decide) rfl ?_
  refine zx_iinc (q := 3) (v := x3 + 1) (L' := [(3, .int (x3 + 1)), (2, .int s0), (0, .ref a0), (1, .int x1)]) dX11_isAskedFor_32 rfl rfl (by decide) rfl ?_
  refine zx_goto (tgt := 4) dX11_isAskedFor_35 (by decide) ?_
  refine zx_sub (L' := [(0, .ref a0), (1, .int x1), (2, .int s0), (3, .int (x3 + 1))]) [2, 3, 1, 0] rfl ?_
  exact hk4 _ _ _ _ _ _ h
set_option maxRecDepth 100000 in
theorem s_X11_isAskedFor_b26 {l : Launch} {G : Gt} (hG : Gok l G) {k4 : Nat → Int32 → Int32 → Int32 → Mm → Option Int32} (hk4 : ∀ (a0 : Nat) (x1 : Int32) (x2 : Int32) (x3 : Int32) (μ : Mm) (r : Int32), k4 a0 x1 x2 x3 μ = some r → ZX l G mX11_isAskedFor 4 [(0, .ref a0), (1, .int x1), (2, .int x2), (3, .int x3)] [] μ (.inl (some (.int r))) μ) (a0 : Nat) (x1 : Int32) (x3 : Int32) (μ : Mm) (r : Int32) (h : f_X11_isAskedFor_b26 k4 a0 x1 x3 μ = some r) : ZX l G mX11_isAskedFor 26 [(0, .ref a0), (1, .int x1), (3, .int x3)] [] μ (.inl (some (.int r))) μ := by
  unfold f_X11_isAskedFor_b26 at h
  refine zx_iconst (v := 1) dX11_isAskedFor_26 iv_iconst_1 ?_
  refine zx_goto (tgt := 31) dX11_isAskedFor_27 (by decide) ?_
  exact s_X11_isAskedFor_b31 hG hk4 _ _ _ _ _ _ h
set_option maxRecDepth 100000 in
theorem s_X11_isAskedFor_b4 {l : Launch} {G : Gt} (hG : Gok l G) : ∀ (n : Nat) (a0 : Nat) (x1 : Int32) (x2 : Int32) (x3 : Int32) (μ : Mm) (r : Int32), f_X11_isAskedFor_b4 n a0 x1 x2 x3 μ = some r → ZX l G mX11_isAskedFor 4 [(0, .ref a0), (1, .int x1), (2, .int x2), (3, .int x3)] [] μ (.inl (some (.int r))) μ := by
  intro n
  induction n with
  | zero =>
    intro a0 x1 x2 x3 μ r h
    cases h
  | succ n ih =>
    intro a0 x1 x2 x3 μ r h
    unfold f_X11_isAskedFor_b4 at h
    refine zx_iload_n dX11_isAskedFor_4 rfl (q := 3) rfl ?_
    refine zx_aload_n dX11_isAskedFor_5 rfl (q := 0) rfl ?_
    obtain ⟨h1, h⟩ := ck_e h
    refine zx_getI hG fl_X11_222 h1 dX11_isAskedFor_6 ?_
    by_cases c2 : (mI μ a0 35) ≤ x3
    · have h := it_t c2 h
      refine zx_icmp_ge_t (tgt := 38) dX11_isAskedFor_9 (by decide) c2 ?_
      refine zx_iload_n dX11_isAskedFor_38 rfl (q := 2) rfl ?_
      obtain ⟨h3, h⟩ := ck_e h
      cases h
      exact zx_zretZ dX11_isAskedFor_39 rfl h3
    · have h := it_f c2 h
      refine zx_icmp_ge_f (tgt := 38) dX11_isAskedFor_9 (by decide) c2 ?_
      refine zx_iload_n dX11_isAskedFor_12 rfl (q := 2) rfl ?_
      by_cases c4 : ¬ x2 = 0
      · have h := it_t c4 h
        refine zx_if_ne_t (tgt := 26) dX11_isAskedFor_13 (by decide) c4 ?_
        refine zx_sub (L' := [(0, .ref a0), (1, .int x1), (3, .int x3)]) [0, 1, 3] rfl ?_
        exact s_X11_isAskedFor_b26 hG ih _ _ _ _ _ h
      · have h := it_f c4 h
        refine zx_if_ne_f (tgt := 26) dX11_isAskedFor_13 (by decide) (Classical.not_not.mp c4) ?_
        refine zx_aload_n dX11_isAskedFor_16 rfl (q := 0) rfl ?_
        obtain ⟨p5, h6, h⟩ := bd_e h
        refine zx_getR hG fl_X11_95 h1 h6 dX11_isAskedFor_17 ?_
        refine zx_iload_n dX11_isAskedFor_20 rfl (q := 3) rfl ?_
        obtain ⟨h7, h⟩ := ck_e h
        obtain ⟨h8, h⟩ := ck_e h
        refine zx_iald hG rfl (h7).1 (h7).2 (inb_e h8) dX11_isAskedFor_21 ?_
        refine zx_iload_n dX11_isAskedFor_22 rfl (q := 1) rfl ?_
        by_cases c9 : ¬ (mI μ p5 (Int32.toNatClampNeg x3)) = x1
        · have h := it_t c9 h
          refine zx_icmp_ne_t (tgt := 30) dX11_isAskedFor_23 (by decide) c9 ?_
          refine zx_iconst (v := 0) dX11_isAskedFor_30 iv_iconst_0 ?_
          refine zx_sub (L' := [(0, .ref a0), (1, .int x1), (3, .int x3)]) [0, 1, 3] rfl ?_
          exact s_X11_isAskedFor_b31 hG ih _ _ _ _ _ _ h
        · have h := it_f c9 h
          refine zx_icmp_ne_f (tgt := 30) dX11_isAskedFor_23 (by decide) (Classical.not_not.mp c9) ?_
          refine zx_sub (L' := [(0, .ref a0), (1, .int x1), (3, .int x3)]) [0, 1, 3] rfl ?_
          exact s_X11_isAskedFor_b26 hG ih _ _ _ _ _ h
set_option maxRecDepth 100000 in
theorem s_X11_isAskedFor {l : Launch} {G : Gt} (hG : Gok l G) (a0 : Nat) (x1 : Int32) (μ : Mm) (r : Int32) (h : f_X11_isAskedFor a0 x1 μ = some r) : ZX l G mX11_isAskedFor 0 [(0, .ref a0), (1, .int x1)] [] μ (.inl (some (.int r))) μ := by
  unfold f_X11_isAskedFor at h
  refine zx_iconst (v := 0) dX11_isAskedFor_0 iv_iconst_0 ?_
  refine zx_istore_n (L' := [(2, .int 0), (0, .ref a0), (1, .int x1)]) dX11_isAskedFor_1 rfl (by decide) rfl ?_
  refine zx_iconst (v := 0) dX11_isAskedFor_2 iv_iconst_0 ?_
  refine zx_istore_n (L' := [(3, .int 0), (2, .int 0), (0, .ref a0), (1, .int x1)]) dX11_isAskedFor_3 rfl (by decide) rfl ?_
  refine zx_sub (L' := [(0, .ref a0), (1, .int x1), (2, .int 0), (3, .int 0)]) [2, 3, 1, 0] rfl ?_
  exact s_X11_isAskedFor_b4 hG 5000 _ _ _ _ _ _ h
def f_X11_loads_b140 (k55 : Nat → Int32 → Nat → Int32 → Int32 → Int32 → Int32 → Mm → Option (Int32 × Mm)) (a0 : Nat) (x1 : Int32) (a2 : Nat) (x3 : Int32) (x4 : Int32) (x5 : Int32) (x6 : Int32) (μ : Mm) : Option (Int32 × Mm) :=
  k55 a0 x1 a2 x3 x4 x5 (x6 + 1) μ
def f_X11_loads_b138 (k55 : Nat → Int32 → Nat → Int32 → Int32 → Int32 → Int32 → Mm → Option (Int32 × Mm)) (a0 : Nat) (x1 : Int32) (a2 : Nat) (x3 : Int32) (x5 : Int32) (x6 : Int32) (s0 : Int32) (μ : Mm) : Option (Int32 × Mm) :=
  f_X11_loads_b140 k55 a0 x1 a2 x3 s0 x5 x6 μ
def f_X11_loads_b136 (k55 : Nat → Int32 → Nat → Int32 → Int32 → Int32 → Int32 → Mm → Option (Int32 × Mm)) (a0 : Nat) (x1 : Int32) (a2 : Nat) (x3 : Int32) (x4 : Int32) (x5 : Int32) (x6 : Int32) (μ : Mm) : Option (Int32 × Mm) :=
  f_X11_loads_b138 k55 a0 x1 a2 x3 x5 x6 x4 μ
def f_X11_loads_b102 (k55 : Nat → Int32 → Nat → Int32 → Int32 → Int32 → Int32 → Mm → Option (Int32 × Mm)) (a0 : Nat) (x1 : Int32) (a2 : Nat) (x3 : Int32) (x4 : Int32) (x6 : Int32) (a7 : Nat) (s0 : Int32) (μ : Mm) : Option (Int32 × Mm) :=
  ck (isA 1 (mK μ a7)) <|
  ck (inb 11 (mL μ a7)) <|
  if ¬ (mI μ a7 (Int32.toNatClampNeg 11)) = 101 then
    f_X11_loads_b136 k55 a0 x1 a2 x3 x4 s0 x6 μ
  else
    ck (inb 13 (mL μ a7)) <|
    if ¬ (mI μ a7 (Int32.toNatClampNeg 13)) = 0 then
      f_X11_loads_b136 k55 a0 x1 a2 x3 x4 s0 x6 μ
    else
      ck (inb 14 (mL μ a7)) <|
      if ¬ (mI μ a7 (Int32.toNatClampNeg 14)) = x3 then
        f_X11_loads_b136 k55 a0 x1 a2 x3 x4 s0 x6 μ
      else
        f_X11_loads_b138 k55 a0 x1 a2 x3 s0 x6 x6 μ
def f_X11_loads_b101 (k55 : Nat → Int32 → Nat → Int32 → Int32 → Int32 → Int32 → Mm → Option (Int32 × Mm)) (a0 : Nat) (x1 : Int32) (a2 : Nat) (x3 : Int32) (x4 : Int32) (x6 : Int32) (a7 : Nat) (μ : Mm) : Option (Int32 × Mm) :=
  f_X11_loads_b102 k55 a0 x1 a2 x3 x4 x6 a7 0 μ
def f_X11_loads_b376 (a0 : Nat) (a2 : Nat) (x3 : Int32) (μ : Mm) : Option (Int32 × Mm) :=
  ck (isA 1 (mK μ a2)) <|
  ck (inb 14 (mL μ a2)) <|
  zl (sI μ a2 (Int32.toNatClampNeg 14) x3) fun μ152 =>
  ck (mK μ152 a0 = 112) <|
  cl (f_X11_starts a0 a2 0 μ152) fun _ μ158 =>
  ck (isA 1 (mK μ158 a2)) <|
  ck (inb 11 (mL μ158 a2)) <|
  zl (sI μ158 a2 (Int32.toNatClampNeg 11) 109) fun μ161 =>
  some (1, μ161)
def f_X11_loads_b315 (a0 : Nat) (a2 : Nat) (x3 : Int32) (x6 : Int32) (μ : Mm) : Option (Int32 × Mm) :=
  ck (mK μ a0 = 112) <|
  bd (f_X11_isAskedFor a0 x6 μ) fun y123 =>
  if ¬ y123 = 0 then
    f_X11_loads_b376 a0 a2 x3 μ
  else
    bd (mR μ a0 33) fun p126 =>
    ck (isA 1 (mK μ p126)) <|
    ck (inb (mI μ a0 35) (mL μ p126)) <|
    zl (sI μ p126 (Int32.toNatClampNeg (mI μ a0 35)) x6) fun μ130 =>
    bd (mR μ130 a0 34) fun p133 =>
    bd (mR μ130 a0 14) fun p135 =>
    ck (isA 1 (mK μ130 p135)) <|
    ck (inb x6 (mL μ130 p135)) <|
    ck (isA 1 (mK μ130 p133)) <|
    ck (inb (mI μ130 a0 35) (mL μ130 p133)) <|
    zl (sI μ130 p133 (Int32.toNatClampNeg (mI μ130 a0 35)) ((mI μ130 a0 36) + (mI μ130 p135 (Int32.toNatClampNeg x6)))) fun μ141 =>
    zl (sI μ141 a0 35 ((mI μ141 a0 35) + 1)) fun μ144 =>
    zl (sI μ144 a0 53 ((mI μ144 a0 53) + 1)) fun μ147 =>
    f_X11_loads_b376 a0 a2 x3 μ147
def f_X11_loads_b167 (a0 : Nat) (a2 : Nat) (x3 : Int32) (x4 : Int32) (μ : Mm) : Option (Int32 × Mm) :=
  if x4 = ((-1)) then
    ck (¬ (4 : Int32) = 0) <|
    ck (mK μ a0 = 112) <|
    bd (mR μ a0 32) fun p59 =>
    ck (¬ (4 : Int32) = 0) <|
    ck (isA 1 (mK μ p59)) <|
    ck (inb ((x3 / 4) - (x3 / 4) / 4 * 4) (mL μ p59)) <|
    if ¬ (mI μ p59 (Int32.toNatClampNeg ((x3 / 4) - (x3 / 4) / 4 * 4))) = (x3 / 4) then
      bd (f_X11_isAskedFor a0 (x3 / 4) μ) fun y65 =>
      if ¬ y65 = 0 then
        f_X11_loads_b315 a0 a2 x3 (x3 / 4) μ
      else
        if ¬ (mI μ a0 35) = 2 then
          f_X11_loads_b315 a0 a2 x3 (x3 / 4) μ
        else
          some (0, μ)
    else
      zl (sI μ a0 52 ((mI μ a0 52) + 1)) fun μ69 =>
      ck (isA 1 (mK μ69 a2)) <|
      ck (inb 14 (mL μ69 a2)) <|
      zl (sI μ69 a2 (Int32.toNatClampNeg 14) x3) fun μ74 =>
      cl (f_X11_starts a0 a2 2 μ74) fun _ μ79 =>
      some (1, μ79)
  else
    ck (mK μ a0 = 112) <|
    bd (mR μ a0 22) fun p81 =>
    ck (isA56 (mK μ p81)) <|
    ck (inb x4 (mL μ p81)) <|
    bd (mR μ p81 (Int32.toNatClampNeg x4)) fun p85 =>
    bd (f_X11_codeOf a0 p85 μ) fun y87 =>
    if y87 = 11 then
      some (0, μ)
    else
      bd (mR μ a0 19) fun p90 =>
      ck (isA 1 (mK μ p85)) <|
      ck (inb 8 (mL μ p85)) <|
      ck (isA 2 (mK μ p90)) <|
      ck (inb (mI μ p85 (Int32.toNatClampNeg 8)) (mL μ p90)) <|
      if ¬ (zb (mI μ p90 (Int32.toNatClampNeg (mI μ p85 (Int32.toNatClampNeg 8))))) = 0 then
        ck (isA 1 (mK μ a2)) <|
        ck (inb 14 (mL μ a2)) <|
        zl (sI μ a2 (Int32.toNatClampNeg 14) x3) fun μ99 =>
        ck (inb 17 (mL μ99 p85)) <|
        ck (inb 16 (mL μ99 a2)) <|
        zl (sI μ99 a2 (Int32.toNatClampNeg 16) (mI μ99 p85 (Int32.toNatClampNeg 17))) fun μ104 =>
        bd (mR μ104 a0 18) fun p107 =>
        ck (inb 8 (mL μ104 p85)) <|
        ck (isA 1 (mK μ104 p107)) <|
        ck (inb (mI μ104 p85 (Int32.toNatClampNeg 8)) (mL μ104 p107)) <|
        ck (inb 15 (mL μ104 a2)) <|
        zl (sI μ104 a2 (Int32.toNatClampNeg 15) (mI μ104 p107 (Int32.toNatClampNeg (mI μ104 p85 (Int32.toNatClampNeg 8))))) fun μ113 =>
        zl (sI μ113 a0 51 ((mI μ113 a0 51) + 1)) fun μ116 =>
        cl (f_X11_starts a0 a2 1 μ116) fun _ μ121 =>
        some (1, μ121)
      else
        some (0, μ)
def f_X11_loads_b146 (a0 : Nat) (a2 : Nat) (x3 : Int32) (x4 : Int32) (x5 : Int32) (μ : Mm) : Option (Int32 × Mm) :=
  ck (mK μ a0 = 112) <|
  bd (mR μ a0 31) fun p47 =>
  ck (isA 1 (mK μ a2)) <|
  ck (inb 0 (mL μ a2)) <|
  ck (¬ (16 : Int32) = 0) <|
  ck (isA 2 (mK μ p47)) <|
  ck (inb ((mI μ a2 (Int32.toNatClampNeg 0)) - (mI μ a2 (Int32.toNatClampNeg 0)) / 16 * 16) (mL μ p47)) <|
  if (zb (mI μ p47 (Int32.toNatClampNeg ((mI μ a2 (Int32.toNatClampNeg 0)) - (mI μ a2 (Int32.toNatClampNeg 0)) / 16 * 16)))) = 0 then
    f_X11_loads_b167 a0 a2 x3 x4 μ
  else
    if ¬ x5 = 0 then
      f_X11_loads_b167 a0 a2 x3 x4 μ
    else
      some (0, μ)
def f_X11_loads_b55 : Nat → Nat → Int32 → Nat → Int32 → Int32 → Int32 → Int32 → Mm → Option (Int32 × Mm)
  | 0, _, _, _, _, _, _, _, _ => none
  | n + 1, a0, x1, a2, x3, x4, x5, x6, μ =>
  if x1 ≤ x6 then
    f_X11_loads_b146 a0 a2 x3 x4 x5 μ
  else
    ck (mK μ a0 = 112) <|
    bd (mR μ a0 22) fun p31 =>
    ck (isA56 (mK μ p31)) <|
    ck (inb x6 (mL μ p31)) <|
    bd (mR μ p31 (Int32.toNatClampNeg x6)) fun p35 =>
    bd (f_X11_codeOf a0 p35 μ) fun y37 =>
    bd (f_X11_isStore y37) fun y39 =>
    if y39 = 0 then
      f_X11_loads_b140 (f_X11_loads_b55 n) a0 x1 a2 x3 x4 x5 x6 μ
    else
      if x5 = 0 then
        f_X11_loads_b101 (f_X11_loads_b55 n) a0 x1 a2 x3 x4 x6 p35 μ
      else
        ck (isA 1 (mK μ p35)) <|
        ck (inb 11 (mL μ p35)) <|
        if ¬ (mI μ p35 (Int32.toNatClampNeg 11)) = 101 then
          f_X11_loads_b101 (f_X11_loads_b55 n) a0 x1 a2 x3 x4 x6 p35 μ
        else
          f_X11_loads_b102 (f_X11_loads_b55 n) a0 x1 a2 x3 x4 x6 p35 1 μ
def f_X11_loads (a0 : Nat) (x1 : Int32) (μ : Mm) : Option (Int32 × Mm) :=
  ck (mK μ a0 = 112) <|
  bd (mR μ a0 22) fun p2 =>
  ck (isA56 (mK μ p2)) <|
  ck (inb x1 (mL μ p2)) <|
  bd (mR μ p2 (Int32.toNatClampNeg x1)) fun p6 =>
  bd (mR μ a0 18) fun p8 =>
  ck (isA 1 (mK μ p6)) <|
  ck (inb 7 (mL μ p6)) <|
  ck (isA 1 (mK μ p8)) <|
  ck (inb (mI μ p6 (Int32.toNatClampNeg 7)) (mL μ p8)) <|
  bd (mR μ a0 4) fun p14 =>
  ck (inb 0 (mL μ p6)) <|
  ck (isA 1 (mK μ p14)) <|
  ck (inb (mI μ p6 (Int32.toNatClampNeg 0)) (mL μ p14)) <|
  bd (f_X11_isAddress ((mI μ p8 (Int32.toNatClampNeg (mI μ p6 (Int32.toNatClampNeg 7)))) + (mI μ p14 (Int32.toNatClampNeg (mI μ p6 (Int32.toNatClampNeg 0)))))) fun y19 =>
  if ¬ y19 = 0 then
    f_X11_loads_b55 5000 a0 x1 p6 ((mI μ p8 (Int32.toNatClampNeg (mI μ p6 (Int32.toNatClampNeg 7)))) + (mI μ p14 (Int32.toNatClampNeg (mI μ p6 (Int32.toNatClampNeg 0))))) ((-1)) 1 0 μ
  else
    ck (inb 13 (mL μ p6)) <|
    zl (sI μ p6 (Int32.toNatClampNeg 13) 2) fun μ23 =>
    cl (f_X11_starts a0 p6 1 μ23) fun _ μ28 =>
    some (1, μ28)
set_option maxRecDepth 100000 in
theorem s_X11_loads_b140 {l : Launch} {G : Gt} (hG : Gok l G) {k55 : Nat → Int32 → Nat → Int32 → Int32 → Int32 → Int32 → Mm → Option (Int32 × Mm)} (hk55 : ∀ (a0 : Nat) (x1 : Int32) (a2 : Nat) (x3 : Int32) (x4 : Int32) (x5 : Int32) (x6 : Int32) (μ : Mm) (r : Int32) (μ' : Mm), k55 a0 x1 a2 x3 x4 x5 x6 μ = some (r, μ') → ZX l G mX11_loads 55 [(0, .ref a0), (1, .int x1), (2, .ref a2), (3, .int x3), (4, .int x4), (5, .int x5), (6, .int x6)] [] μ (.inl (some (.int r))) μ') (a0 : Nat) (x1 : Int32) (a2 : Nat) (x3 : Int32) (x4 : Int32) (x5 : Int32) (x6 : Int32) (μ : Mm) (r : Int32) (μ' : Mm) (h : f_X11_loads_b140 k55 a0 x1 a2 x3 x4 x5 x6 μ = some (r, μ')) : ZX l G mX11_loads 140 [(0, .ref a0), (1, .int x1), (2, .ref a2), (3, .int x3), (4, .int x4), (5, .int x5), (6, .int x6)] [] μ (.inl (some (.int r))) μ' := by
  unfold f_X11_loads_b140 at h
  refine zx_iinc (q := 6) (v := x6 + 1) (L' := [(6, .int (x6 + 1)), (0, .ref a0), (1, .int x1), (2, .ref a2), (3, .int x3), (4, .int x4), (5, .int x5)]) dX11_loads_140 rfl rfl (by decide) rfl ?_
  refine zx_goto (tgt := 55) dX11_loads_143 (by decide) ?_
  refine zx_sub (L' := [(0, .ref a0), (1, .int x1), (2, .ref a2), (3, .int x3), (4, .int x4), (5, .int x5), (6, .int (x6 + 1))]) [1, 2, 3, 4, 5, 6, 0] rfl ?_
  exact hk55 _ _ _ _ _ _ _ _ _ _ h
set_option maxRecDepth 100000 in
theorem s_X11_loads_b138 {l : Launch} {G : Gt} (hG : Gok l G) {k55 : Nat → Int32 → Nat → Int32 → Int32 → Int32 → Int32 → Mm → Option (Int32 × Mm)} (hk55 : ∀ (a0 : Nat) (x1 : Int32) (a2 : Nat) (x3 : Int32) (x4 : Int32) (x5 : Int32) (x6 : Int32) (μ : Mm) (r : Int32) (μ' : Mm), k55 a0 x1 a2 x3 x4 x5 x6 μ = some (r, μ') → ZX l G mX11_loads 55 [(0, .ref a0), (1, .int x1), (2, .ref a2), (3, .int x3), (4, .int x4), (5, .int x5), (6, .int x6)] [] μ (.inl (some (.int r))) μ') (a0 : Nat) (x1 : Int32) (a2 : Nat) (x3 : Int32) (x5 : Int32) (x6 : Int32) (s0 : Int32) (μ : Mm) (r : Int32) (μ' : Mm) (h : f_X11_loads_b138 k55 a0 x1 a2 x3 x5 x6 s0 μ = some (r, μ')) : ZX l G mX11_loads 138 [(0, .ref a0), (1, .int x1), (2, .ref a2), (3, .int x3), (5, .int x5), (6, .int x6)] [.int s0] μ (.inl (some (.int r))) μ' := by
  unfold f_X11_loads_b138 at h
  refine zx_istore (L' := [(4, .int s0), (0, .ref a0), (1, .int x1), (2, .ref a2), (3, .int x3), (5, .int x5), (6, .int x6)]) dX11_loads_138 (by decide) rfl ?_
  refine zx_sub (L' := [(0, .ref a0), (1, .int x1), (2, .ref a2), (3, .int x3), (4, .int s0), (5, .int x5), (6, .int x6)]) [1, 2, 3, 4, 0, 5, 6] rfl ?_
  exact s_X11_loads_b140 hG hk55 _ _ _ _ _ _ _ _ _ _ h
set_option maxRecDepth 100000 in
theorem s_X11_loads_b136 {l : Launch} {G : Gt} (hG : Gok l G) {k55 : Nat → Int32 → Nat → Int32 → Int32 → Int32 → Int32 → Mm → Option (Int32 × Mm)} (hk55 : ∀ (a0 : Nat) (x1 : Int32) (a2 : Nat) (x3 : Int32) (x4 : Int32) (x5 : Int32) (x6 : Int32) (μ : Mm) (r : Int32) (μ' : Mm), k55 a0 x1 a2 x3 x4 x5 x6 μ = some (r, μ') → ZX l G mX11_loads 55 [(0, .ref a0), (1, .int x1), (2, .ref a2), (3, .int x3), (4, .int x4), (5, .int x5), (6, .int x6)] [] μ (.inl (some (.int r))) μ') (a0 : Nat) (x1 : Int32) (a2 : Nat) (x3 : Int32) (x4 : Int32) (x5 : Int32) (x6 : Int32) (μ : Mm) (r : Int32) (μ' : Mm) (h : f_X11_loads_b136 k55 a0 x1 a2 x3 x4 x5 x6 μ = some (r, μ')) : ZX l G mX11_loads 136 [(0, .ref a0), (1, .int x1), (2, .ref a2), (3, .int x3), (4, .int x4), (5, .int x5), (6, .int x6)] [] μ (.inl (some (.int r))) μ' := by
  unfold f_X11_loads_b136 at h
  refine zx_iload dX11_loads_136 (q := 4) rfl ?_
  refine zx_sub (L' := [(0, .ref a0), (1, .int x1), (2, .ref a2), (3, .int x3), (5, .int x5), (6, .int x6)]) [0, 1, 2, 3, 5, 6] rfl ?_
  exact s_X11_loads_b138 hG hk55 _ _ _ _ _ _ _ _ _ _ h
set_option maxRecDepth 100000 in
theorem s_X11_loads_b102 {l : Launch} {G : Gt} (hG : Gok l G) {k55 : Nat → Int32 → Nat → Int32 → Int32 → Int32 → Int32 → Mm → Option (Int32 × Mm)} (hk55 : ∀ (a0 : Nat) (x1 : Int32) (a2 : Nat) (x3 : Int32) (x4 : Int32) (x5 : Int32) (x6 : Int32) (μ : Mm) (r : Int32) (μ' : Mm), k55 a0 x1 a2 x3 x4 x5 x6 μ = some (r, μ') → ZX l G mX11_loads 55 [(0, .ref a0), (1, .int x1), (2, .ref a2), (3, .int x3), (4, .int x4), (5, .int x5), (6, .int x6)] [] μ (.inl (some (.int r))) μ') (a0 : Nat) (x1 : Int32) (a2 : Nat) (x3 : Int32) (x4 : Int32) (x6 : Int32) (a7 : Nat) (s0 : Int32) (μ : Mm) (r : Int32) (μ' : Mm) (h : f_X11_loads_b102 k55 a0 x1 a2 x3 x4 x6 a7 s0 μ = some (r, μ')) : ZX l G mX11_loads 102 [(0, .ref a0), (1, .int x1), (2, .ref a2), (3, .int x3), (4, .int x4), (6, .int x6), (7, .ref a7)] [.int s0] μ (.inl (some (.int r))) μ' := by
  unfold f_X11_loads_b102 at h
  refine zx_istore (L' := [(5, .int s0), (0, .ref a0), (1, .int x1), (2, .ref a2), (3, .int x3), (4, .int x4), (6, .int x6), (7, .ref a7)]) dX11_loads_102 (by decide) rfl ?_
  refine zx_aload dX11_loads_104 (q := 7) rfl ?_
  refine zx_bipush (v := 11) dX11_loads_106 iv_bipush_11 ?_
  obtain ⟨h164, h⟩ := ck_e h
  obtain ⟨h165, h⟩ := ck_e h
  refine zx_iald hG rfl (h164).1 (h164).2 (inb_e h165) dX11_loads_108 ?_
  refine zx_bipush (v := 101) dX11_loads_109 iv_bipush_101 ?_
  by_cases c166 : ¬ (mI μ a7 (Int32.toNatClampNeg 11)) = 101
  · have h := it_t c166 h
    refine zx_icmp_ne_t (tgt := 136) dX11_loads_111 (by decide) c166 ?_
    refine zx_sub (L' := [(0, .ref a0), (1, .int x1), (2, .ref a2), (3, .int x3), (4, .int x4), (5, .int s0), (6, .int x6)]) [1, 2, 3, 4, 5, 0, 6] rfl ?_
    exact s_X11_loads_b136 hG hk55 _ _ _ _ _ _ _ _ _ _ h
  · have h := it_f c166 h
    refine zx_icmp_ne_f (tgt := 136) dX11_loads_111 (by decide) (Classical.not_not.mp c166) ?_
    refine zx_aload dX11_loads_114 (q := 7) rfl ?_
    refine zx_bipush (v := 13) dX11_loads_116 iv_bipush_13 ?_
    obtain ⟨h167, h⟩ := ck_e h
    refine zx_iald hG rfl (h164).1 (h164).2 (inb_e h167) dX11_loads_118 ?_
    by_cases c168 : ¬ (mI μ a7 (Int32.toNatClampNeg 13)) = 0
    · have h := it_t c168 h
      refine zx_if_ne_t (tgt := 136) dX11_loads_119 (by decide) c168 ?_
      refine zx_sub (L' := [(0, .ref a0), (1, .int x1), (2, .ref a2), (3, .int x3), (4, .int x4), (5, .int s0), (6, .int x6)]) [1, 2, 3, 4, 5, 0, 6] rfl ?_
      exact s_X11_loads_b136 hG hk55 _ _ _ _ _ _ _ _ _ _ h
    · have h := it_f c168 h
      refine zx_if_ne_f (tgt := 136) dX11_loads_119 (by decide) (Classical.not_not.mp c168) ?_
      refine zx_aload dX11_loads_122 (q := 7) rfl ?_
      refine zx_bipush (v := 14) dX11_loads_124 iv_bipush_14 ?_
      obtain ⟨h169, h⟩ := ck_e h
      refine zx_iald hG rfl (h164).1 (h164).2 (inb_e h169) dX11_loads_126 ?_
      refine zx_iload_n dX11_loads_127 rfl (q := 4) rfl ?_
      by_cases c170 : ¬ (mI μ a7 (Int32.toNatClampNeg 14)) = x3
      · have h := it_t c170 h
        refine zx_icmp_ne_t (tgt := 136) dX11_loads_128 (by decide) c170 ?_
        refine zx_sub (L' := [(0, .ref a0), (1, .int x1), (2, .ref a2), (3, .int x3), (4, .int x4), (5, .int s0), (6, .int x6)]) [1, 2, 3, 4, 5, 0, 6] rfl ?_
        exact s_X11_loads_b136 hG hk55 _ _ _ _ _ _ _ _ _ _ h
      · have h := it_f c170 h
        refine zx_icmp_ne_f (tgt := 136) dX11_loads_128 (by decide) (Classical.not_not.mp c170) ?_
        refine zx_iload dX11_loads_131 (q := 6) rfl ?_
        refine zx_goto (tgt := 138) dX11_loads_133 (by decide) ?_
        refine zx_sub (L' := [(0, .ref a0), (1, .int x1), (2, .ref a2), (3, .int x3), (5, .int s0), (6, .int x6)]) [1, 2, 3, 4, 0, 6] rfl ?_
        exact s_X11_loads_b138 hG hk55 _ _ _ _ _ _ _ _ _ _ h
set_option maxRecDepth 100000 in
theorem s_X11_loads_b101 {l : Launch} {G : Gt} (hG : Gok l G) {k55 : Nat → Int32 → Nat → Int32 → Int32 → Int32 → Int32 → Mm → Option (Int32 × Mm)} (hk55 : ∀ (a0 : Nat) (x1 : Int32) (a2 : Nat) (x3 : Int32) (x4 : Int32) (x5 : Int32) (x6 : Int32) (μ : Mm) (r : Int32) (μ' : Mm), k55 a0 x1 a2 x3 x4 x5 x6 μ = some (r, μ') → ZX l G mX11_loads 55 [(0, .ref a0), (1, .int x1), (2, .ref a2), (3, .int x3), (4, .int x4), (5, .int x5), (6, .int x6)] [] μ (.inl (some (.int r))) μ') (a0 : Nat) (x1 : Int32) (a2 : Nat) (x3 : Int32) (x4 : Int32) (x6 : Int32) (a7 : Nat) (μ : Mm) (r : Int32) (μ' : Mm) (h : f_X11_loads_b101 k55 a0 x1 a2 x3 x4 x6 a7 μ = some (r, μ')) : ZX l G mX11_loads 101 [(0, .ref a0), (1, .int x1), (2, .ref a2), (3, .int x3), (4, .int x4), (6, .int x6), (7, .ref a7)] [] μ (.inl (some (.int r))) μ' := by
  unfold f_X11_loads_b101 at h
  refine zx_iconst (v := 0) dX11_loads_101 iv_iconst_0 ?_
  exact s_X11_loads_b102 hG hk55 _ _ _ _ _ _ _ _ _ _ _ h
set_option maxRecDepth 100000 in
theorem s_X11_loads_b376 {l : Launch} {G : Gt} (hG : Gok l G) (a0 : Nat) (a2 : Nat) (x3 : Int32) (μ : Mm) (r : Int32) (μ' : Mm) (h : f_X11_loads_b376 a0 a2 x3 μ = some (r, μ')) : ZX l G mX11_loads 376 [(0, .ref a0), (2, .ref a2), (3, .int x3)] [] μ (.inl (some (.int r))) μ' := by
  unfold f_X11_loads_b376 at h
  refine zx_aload_n dX11_loads_376 rfl (q := 1) rfl ?_
  refine zx_bipush (v := 14) dX11_loads_377 iv_bipush_14 ?_
  refine zx_iload_n dX11_loads_379 rfl (q := 2) rfl ?_
  obtain ⟨h150, h⟩ := ck_e h
  obtain ⟨h151, h⟩ := ck_e h
  refine zx_iast hG rfl (h150).1 (h150).2 (inb_e h151) dX11_loads_380 ?_
  obtain ⟨μ152, e154, h⟩ := zlm_e h
  refine zx_mem e154 ?_
  have e153 : mK μ152 = mK μ := (congrArg mK e154).trans rfl
  refine zx_aload_n dX11_loads_381 rfl (q := 0) rfl ?_
  refine zx_aload_n dX11_loads_382 rfl (q := 1) rfl ?_
  refine zx_iconst (v := 0) dX11_loads_383 iv_iconst_0 ?_
  obtain ⟨h155, h⟩ := ck_e h
  obtain ⟨uu156, μ158, z157, h⟩ := cl_e h
  refine zx_callV (As := [.ref a2, .int 0]) hG mf_X11_starts cv_X11_228 h155 ⟨by decide, by decide⟩ rfl rfl (Nat.le_of_ble_eq_true rfl) (s_X11_starts hG _ _ _ _ _ _ z157) (Nat.le_of_ble_eq_true rfl) dX11_loads_384 ?_
  refine zx_aload_n dX11_loads_387 rfl (q := 1) rfl ?_
  refine zx_bipush (v := 11) dX11_loads_388 iv_bipush_11 ?_
  refine zx_bipush (v := 109) dX11_loads_390 iv_bipush_109 ?_
  obtain ⟨h159, h⟩ := ck_e h
  obtain ⟨h160, h⟩ := ck_e h
  refine zx_iast hG rfl (h159).1 (h159).2 (inb_e h160) dX11_loads_392 ?_
  obtain ⟨μ161, e163, h⟩ := zlm_e h
  refine zx_mem e163 ?_
  have e162 : mK μ161 = mK μ158 := (congrArg mK e163).trans rfl
  refine zx_iconst (v := 1) dX11_loads_393 iv_iconst_1 ?_
  cases h
  exact zx_zretZ dX11_loads_394 rfl zb_1
set_option maxRecDepth 100000 in
theorem s_X11_loads_b315 {l : Launch} {G : Gt} (hG : Gok l G) (a0 : Nat) (a2 : Nat) (x3 : Int32) (x6 : Int32) (μ : Mm) (r : Int32) (μ' : Mm) (h : f_X11_loads_b315 a0 a2 x3 x6 μ = some (r, μ')) : ZX l G mX11_loads 315 [(0, .ref a0), (2, .ref a2), (3, .int x3), (6, .int x6)] [] μ (.inl (some (.int r))) μ' := by
  unfold f_X11_loads_b315 at h
  refine zx_aload_n dX11_loads_315 rfl (q := 0) rfl ?_
  refine zx_iload dX11_loads_316 (q := 3) rfl ?_
  obtain ⟨h122, h⟩ := ck_e h
  obtain ⟨y123, z124, h⟩ := bd_e h
  refine zx_callV (As := [.int x6]) hG mf_X11_isAskedFor cv_X11_240 h122 ⟨by decide, by decide⟩ rfl rfl (Nat.le_of_ble_eq_true rfl) (s_X11_isAskedFor hG _ _ _ _ z124) (Nat.le_of_ble_eq_true rfl) dX11_loads_318 ?_
  by_cases c125 : ¬ y123 = 0
  · have h := it_t c125 h
    refine zx_if_ne_t (tgt := 376) dX11_loads_321 (by decide) c125 ?_
    refine zx_sub (L' := [(0, .ref a0), (2, .ref a2), (3, .int x3)]) [0, 1, 2] rfl ?_
    exact s_X11_loads_b376 hG _ _ _ _ _ _ h
  · have h := it_f c125 h
    refine zx_if_ne_f (tgt := 376) dX11_loads_321 (by decide) (Classical.not_not.mp c125) ?_
    refine zx_aload_n dX11_loads_324 rfl (q := 0) rfl ?_
    obtain ⟨p126, h127, h⟩ := bd_e h
    refine zx_getR hG fl_X11_95 h122 h127 dX11_loads_325 ?_
    refine zx_aload_n dX11_loads_328 rfl (q := 0) rfl ?_
    refine zx_getI hG fl_X11_222 h122 dX11_loads_329 ?_
    refine zx_iload dX11_loads_332 (q := 3) rfl ?_
    obtain ⟨h128, h⟩ := ck_e h
    obtain ⟨h129, h⟩ := ck_e h
    refine zx_iast hG rfl (h128).1 (h128).2 (inb_e h129) dX11_loads_334 ?_
    obtain ⟨μ130, e132, h⟩ := zlm_e h
    refine zx_mem e132 ?_
    have e131 : mK μ130 = mK μ := (congrArg mK e132).trans rfl
    refine zx_aload_n dX11_loads_335 rfl (q := 0) rfl ?_
    obtain ⟨p133, h134, h⟩ := bd_e h
    refine zx_getR hG fl_X11_98 (kp_o (e131) h122) h134 dX11_loads_336 ?_
    refine zx_aload_n dX11_loads_339 rfl (q := 0) rfl ?_
    refine zx_getI hG fl_X11_222 (kp_o (e131) h122) dX11_loads_340 ?_
    refine zx_aload_n dX11_loads_343 rfl (q := 0) rfl ?_
    refine zx_getI hG fl_X11_133 (kp_o (e131) h122) dX11_loads_344 ?_
    refine zx_aload_n dX11_loads_347 rfl (q := 0) rfl ?_
    obtain ⟨p135, h136, h⟩ := bd_e h
    refine zx_getR hG fl_X11_50 (kp_o (e131) h122) h136 dX11_loads_348 ?_
    refine zx_iload dX11_loads_351 (q := 3) rfl ?_
    obtain ⟨h137, h⟩ := ck_e h
    obtain ⟨h138, h⟩ := ck_e h
    refine zx_iald hG rfl (h137).1 (h137).2 (inb_e h138) dX11_loads_353 ?_
    refine zx_iadd dX11_loads_354 ?_
    obtain ⟨h139, h⟩ := ck_e h
    obtain ⟨h140, h⟩ := ck_e h
    refine zx_iast hG rfl (h139).1 (h139).2 (inb_e h140) dX11_loads_355 ?_
    obtain ⟨μ141, e143, h⟩ := zlm_e h
    refine zx_mem e143 ?_
    have e142 : mK μ141 = mK μ130 := (congrArg mK e143).trans rfl
    refine zx_aload_n dX11_loads_356 rfl (q := 0) rfl ?_
    refine zx_dup dX11_loads_357 rfl ?_
    refine zx_getI hG fl_X11_222 (kp_o (Eq.trans e142 e131) h122) dX11_loads_358 ?_
    refine zx_iconst (v := 1) dX11_loads_361 iv_iconst_1 ?_
    refine zx_iadd dX11_loads_362 ?_
    refine zx_putI hG fl_X11_222 fn_12_35 (kp_o (Eq.trans e142 e131) h122) dX11_loads_363 ?_
    obtain ⟨μ144, e146, h⟩ := zlm_e h
    refine zx_mem e146 ?_
    have e145 : mK μ144 = mK μ141 := (congrArg mK e146).trans rfl
    refine zx_aload_n dX11_loads_366 rfl (q := 0) rfl ?_
    refine zx_dup dX11_loads_367 rfl ?_
    refine zx_getI hG fl_X11_243 (kp_o (Eq.trans (Eq.trans e145 e142) e131) h122) dX11_loads_368 ?_
    refine zx_iconst (v := 1) dX11_loads_371 iv_iconst_1 ?_
    refine zx_iadd dX11_loads_372 ?_
    refine zx_putI hG fl_X11_243 fn_12_53 (kp_o (Eq.trans (Eq.trans e145 e142) e131) h122) dX11_loads_373 ?_
    obtain ⟨μ147, e149, h⟩ := zlm_e h
    refine zx_mem e149 ?_
    have e148 : mK μ147 = mK μ144 := (congrArg mK e149).trans rfl
    refine zx_sub (L' := [(0, .ref a0), (2, .ref a2), (3, .int x3)]) [0, 1, 2] rfl ?_
    exact s_X11_loads_b376 hG _ _ _ _ _ _ h
set_option maxRecDepth 100000 in
theorem s_X11_loads_b167 {l : Launch} {G : Gt} (hG : Gok l G) (a0 : Nat) (a2 : Nat) (x3 : Int32) (x4 : Int32) (μ : Mm) (r : Int32) (μ' : Mm) (h : f_X11_loads_b167 a0 a2 x3 x4 μ = some (r, μ')) : ZX l G mX11_loads 167 [(0, .ref a0), (2, .ref a2), (3, .int x3), (4, .int x4)] [] μ (.inl (some (.int r))) μ' := by
  unfold f_X11_loads_b167 at h
  refine zx_iload dX11_loads_167 (q := 3) rfl ?_
  refine zx_iconst (v := (-1)) dX11_loads_169 iv_iconst_m1 ?_
  by_cases c56 : x4 = ((-1))
  · have h := it_t c56 h
    refine zx_icmp_eq_t (tgt := 254) dX11_loads_170 (by decide) c56 ?_
    refine zx_iload_n dX11_loads_254 rfl (q := 2) rfl ?_
    refine zx_iconst (v := 4) dX11_loads_255 iv_iconst_4 ?_
    obtain ⟨h57, h⟩ := ck_e h
    refine zx_idiv dX11_loads_256 h57 ?_
    refine zx_istore (L' := [(6, .int (x3 / 4)), (0, .ref a0), (2, .ref a2), (3, .int x3), (4, .int x4)]) dX11_loads_257 (by decide) rfl ?_
    refine zx_aload_n dX11_loads_259 rfl (q := 1) rfl ?_
    obtain ⟨h58, h⟩ := ck_e h
    obtain ⟨p59, h60, h⟩ := bd_e h
    refine zx_getR hG fl_X11_92 h58 h60 dX11_loads_260 ?_
    refine zx_iload dX11_loads_263 (q := 0) rfl ?_
    refine zx_iconst (v := 4) dX11_loads_265 iv_iconst_4 ?_
    obtain ⟨h61, h⟩ := ck_e h
    refine zx_irem dX11_loads_266 h61 ?_
    obtain ⟨h62, h⟩ := ck_e h
    obtain ⟨h63, h⟩ := ck_e h
    refine zx_iald hG rfl (h62).1 (h62).2 (inb_e h63) dX11_loads_267 ?_
    refine zx_iload dX11_loads_268 (q := 0) rfl ?_
    by_cases c64 : ¬ (mI μ p59 (Int32.toNatClampNeg ((x3 / 4) - (x3 / 4) / 4 * 4))) = (x3 / 4)
    · have h := it_t c64 h
      refine zx_icmp_ne_t (tgt := 296) dX11_loads_270 (by decide) c64 ?_
      refine zx_aload_n dX11_loads_296 rfl (q := 1) rfl ?_
      refine zx_iload dX11_loads_297 (q := 0) rfl ?_
      obtain ⟨y65, z66, h⟩ := bd_e h
      refine zx_callV (As := [.int (x3 / 4)]) hG mf_X11_isAskedFor cv_X11_240 h58 ⟨by decide, by decide⟩ rfl rfl (Nat.le_of_ble_eq_true rfl) (s_X11_isAskedFor hG _ _ _ _ z66) (Nat.le_of_ble_eq_true rfl) dX11_loads_299 ?_
      by_cases c67 : ¬ y65 = 0
      · have h := it_t c67 h
        refine zx_if_ne_t (tgt := 315) dX11_loads_302 (by decide) c67 ?_
        refine zx_sub (L' := [(0, .ref a0), (2, .ref a2), (3, .int x3), (6, .int (x3 / 4))]) [1, 2, 3, 0] rfl ?_
        exact s_X11_loads_b315 hG _ _ _ _ _ _ _ h
      · have h := it_f c67 h
        refine zx_if_ne_f (tgt := 315) dX11_loads_302 (by decide) (Classical.not_not.mp c67) ?_
        refine zx_aload_n dX11_loads_305 rfl (q := 1) rfl ?_
        refine zx_getI hG fl_X11_222 h58 dX11_loads_306 ?_
        refine zx_iconst (v := 2) dX11_loads_309 iv_iconst_2 ?_
        by_cases c68 : ¬ (mI μ a0 35) = 2
        · have h := it_t c68 h
          refine zx_icmp_ne_t (tgt := 315) dX11_loads_310 (by decide) c68 ?_
          refine zx_sub (L' := [(0, .ref a0), (2, .ref a2), (3, .int x3), (6, .int (x3 / 4))]) [1, 2, 3, 0] rfl ?_
          exact s_X11_loads_b315 hG _ _ _ _ _ _ _ h
        · have h := it_f c68 h
          refine zx_icmp_ne_f (tgt := 315) dX11_loads_310 (by decide) (Classical.not_not.mp c68) ?_
          refine zx_iconst (v := 0) dX11_loads_313 iv_iconst_0 ?_
          cases h
          exact zx_zretZ dX11_loads_314 rfl zb_0
    · have h := it_f c64 h
      refine zx_icmp_ne_f (tgt := 296) dX11_loads_270 (by decide) (Classical.not_not.mp c64) ?_
      refine zx_aload_n dX11_loads_273 rfl (q := 1) rfl ?_
      refine zx_dup dX11_loads_274 rfl ?_
      refine zx_getI hG fl_X11_237 h58 dX11_loads_275 ?_
      refine zx_iconst (v := 1) dX11_loads_278 iv_iconst_1 ?_
      refine zx_iadd dX11_loads_279 ?_
      refine zx_putI hG fl_X11_237 fn_12_52 h58 dX11_loads_280 ?_
      obtain ⟨μ69, e71, h⟩ := zlm_e h
      refine zx_mem e71 ?_
      have e70 : mK μ69 = mK μ := (congrArg mK e71).trans rfl
      refine zx_aload_n dX11_loads_283 rfl (q := 2) rfl ?_
      refine zx_bipush (v := 14) dX11_loads_284 iv_bipush_14 ?_
      refine zx_iload_n dX11_loads_286 rfl (q := 3) rfl ?_
      obtain ⟨h72, h⟩ := ck_e h
      obtain ⟨h73, h⟩ := ck_e h
      refine zx_iast hG rfl (h72).1 (h72).2 (inb_e h73) dX11_loads_287 ?_
      obtain ⟨μ74, e76, h⟩ := zlm_e h
      refine zx_mem e76 ?_
      have e75 : mK μ74 = mK μ69 := (congrArg mK e76).trans rfl
      refine zx_aload_n dX11_loads_288 rfl (q := 1) rfl ?_
      refine zx_aload_n dX11_loads_289 rfl (q := 2) rfl ?_
      refine zx_iconst (v := 2) dX11_loads_290 iv_iconst_2 ?_
      obtain ⟨uu77, μ79, z78, h⟩ := cl_e h
      refine zx_callV (As := [.ref a2, .int 2]) hG mf_X11_starts cv_X11_228 (kp_o (Eq.trans e75 e70) h58) ⟨by decide, by decide⟩ rfl rfl (Nat.le_of_ble_eq_true rfl) (s_X11_starts hG _ _ _ _ _ _ z78) (Nat.le_of_ble_eq_true rfl) dX11_loads_291 ?_
      refine zx_iconst (v := 1) dX11_loads_294 iv_iconst_1 ?_
      cases h
      exact zx_zretZ dX11_loads_295 rfl zb_1
  · have h := it_f c56 h
    refine zx_icmp_eq_f (tgt := 254) dX11_loads_170 (by decide) c56 ?_
    refine zx_aload_n dX11_loads_173 rfl (q := 0) rfl ?_
    obtain ⟨h80, h⟩ := ck_e h
    obtain ⟨p81, h82, h⟩ := bd_e h
    refine zx_getR hG fl_X11_74 h80 h82 dX11_loads_174 ?_
    refine zx_iload dX11_loads_177 (q := 3) rfl ?_
    obtain ⟨h83, h⟩ := ck_e h
    obtain ⟨h84, h⟩ := ck_e h
    obtain ⟨p85, h86, h⟩ := bd_e h
    refine zx_aald hG rfl (h83).1 (h83).2 (inb_e h84) h86 dX11_loads_179 ?_
    refine zx_astore (L' := [(6, .ref p85), (0, .ref a0), (2, .ref a2), (3, .int x3), (4, .int x4)]) dX11_loads_180 (by decide) rfl ?_
    refine zx_aload_n dX11_loads_182 rfl (q := 1) rfl ?_
    refine zx_aload dX11_loads_183 (q := 0) rfl ?_
    obtain ⟨y87, z88, h⟩ := bd_e h
    refine zx_callV (As := [.ref p85]) hG mf_X11_codeOf cv_X11_201 h80 ⟨by decide, by decide⟩ rfl rfl (Nat.le_of_ble_eq_true rfl) (s_X11_codeOf hG _ _ _ _ z88) (Nat.le_of_ble_eq_true rfl) dX11_loads_185 ?_
    refine zx_bipush (v := 11) dX11_loads_188 iv_bipush_11 ?_
    by_cases c89 : y87 = 11
    · have h := it_t c89 h
      refine zx_icmp_eq_t (tgt := 206) dX11_loads_190 (by decide) c89 ?_
      refine zx_iconst (v := 0) dX11_loads_206 iv_iconst_0 ?_
      cases h
      exact zx_zretZ dX11_loads_207 rfl zb_0
    · have h := it_f c89 h
      refine zx_icmp_eq_f (tgt := 206) dX11_loads_190 (by decide) c89 ?_
      refine zx_aload_n dX11_loads_193 rfl (q := 1) rfl ?_
      obtain ⟨p90, h91, h⟩ := bd_e h
      refine zx_getR hG fl_X11_65 h80 h91 dX11_loads_194 ?_
      refine zx_aload dX11_loads_197 (q := 0) rfl ?_
      refine zx_bipush (v := 8) dX11_loads_199 iv_bipush_8 ?_
      obtain ⟨h92, h⟩ := ck_e h
      obtain ⟨h93, h⟩ := ck_e h
      refine zx_iald hG rfl (h92).1 (h92).2 (inb_e h93) dX11_loads_201 ?_
      obtain ⟨h94, h⟩ := ck_e h
      obtain ⟨h95, h⟩ := ck_e h
      refine zx_zald hG rfl (h94).1 (h94).2 (inb_e h95) dX11_loads_202 ?_
      by_cases c96 : ¬ (zb (mI μ p90 (Int32.toNatClampNeg (mI μ p85 (Int32.toNatClampNeg 8))))) = 0
      · have h := it_t c96 h
        refine zx_if_ne_t (tgt := 208) dX11_loads_203 (by decide) c96 ?_
        refine zx_aload_n dX11_loads_208 rfl (q := 2) rfl ?_
        refine zx_bipush (v := 14) dX11_loads_209 iv_bipush_14 ?_
        refine zx_iload_n dX11_loads_211 rfl (q := 3) rfl ?_
        obtain ⟨h97, h⟩ := ck_e h
        obtain ⟨h98, h⟩ := ck_e h
        refine zx_iast hG rfl (h97).1 (h97).2 (inb_e h98) dX11_loads_212 ?_
        obtain ⟨μ99, e101, h⟩ := zlm_e h
        refine zx_mem e101 ?_
        have e100 : mK μ99 = mK μ := (congrArg mK e101).trans rfl
        refine zx_aload_n dX11_loads_213 rfl (q := 2) rfl ?_
        refine zx_bipush (v := 16) dX11_loads_214 iv_bipush_16 ?_
        refine zx_aload dX11_loads_216 (q := 0) rfl ?_
        refine zx_bipush (v := 17) dX11_loads_218 iv_bipush_17 ?_
        obtain ⟨h102, h⟩ := ck_e h
        refine zx_iald hG rfl ((kp_a (e100) h92)).1 ((kp_a (e100) h92)).2 (inb_e h102) dX11_loads_220 ?_
        obtain ⟨h103, h⟩ := ck_e h
        refine zx_iast hG rfl ((kp_a (e100) h97)).1 ((kp_a (e100) h97)).2 (inb_e h103) dX11_loads_221 ?_
        obtain ⟨μ104, e106, h⟩ := zlm_e h
        refine zx_mem e106 ?_
        have e105 : mK μ104 = mK μ99 := (congrArg mK e106).trans rfl
        refine zx_aload_n dX11_loads_222 rfl (q := 2) rfl ?_
        refine zx_bipush (v := 15) dX11_loads_223 iv_bipush_15 ?_
        refine zx_aload_n dX11_loads_225 rfl (q := 1) rfl ?_
        obtain ⟨p107, h108, h⟩ := bd_e h
        refine zx_getR hG fl_X11_62 (kp_o (Eq.trans e105 e100) h80) h108 dX11_loads_226 ?_
        refine zx_aload dX11_loads_229 (q := 0) rfl ?_
        refine zx_bipush (v := 8) dX11_loads_231 iv_bipush_8 ?_
        obtain ⟨h109, h⟩ := ck_e h
        refine zx_iald hG rfl ((kp_a (Eq.trans e105 e100) h92)).1 ((kp_a (Eq.trans e105 e100) h92)).2 (inb_e h109) dX11_loads_233 ?_
        obtain ⟨h110, h⟩ := ck_e h
        obtain ⟨h111, h⟩ := ck_e h
        refine zx_iald hG rfl (h110).1 (h110).2 (inb_e h111) dX11_loads_234 ?_
        obtain ⟨h112, h⟩ := ck_e h
        refine zx_iast hG rfl ((kp_a (Eq.trans e105 e100) h97)).1 ((kp_a (Eq.trans e105 e100) h97)).2 (inb_e h112) dX11_loads_235 ?_
        obtain ⟨μ113, e115, h⟩ := zlm_e h
        refine zx_mem e115 ?_
        have e114 : mK μ113 = mK μ104 := (congrArg mK e115).trans rfl
        refine zx_aload_n dX11_loads_236 rfl (q := 1) rfl ?_
        refine zx_dup dX11_loads_237 rfl ?_
        refine zx_getI hG fl_X11_234 (kp_o (Eq.trans (Eq.trans e114 e105) e100) h80) dX11_loads_238 ?_
        refine zx_iconst (v := 1) dX11_loads_241 iv_iconst_1 ?_
        refine zx_iadd dX11_loads_242 ?_
        refine zx_putI hG fl_X11_234 fn_12_51 (kp_o (Eq.trans (Eq.trans e114 e105) e100) h80) dX11_loads_243 ?_
        obtain ⟨μ116, e118, h⟩ := zlm_e h
        refine zx_mem e118 ?_
        have e117 : mK μ116 = mK μ113 := (congrArg mK e118).trans rfl
        refine zx_aload_n dX11_loads_246 rfl (q := 1) rfl ?_
        refine zx_aload_n dX11_loads_247 rfl (q := 2) rfl ?_
        refine zx_iconst (v := 1) dX11_loads_248 iv_iconst_1 ?_
        obtain ⟨uu119, μ121, z120, h⟩ := cl_e h
        refine zx_callV (As := [.ref a2, .int 1]) hG mf_X11_starts cv_X11_228 (kp_o (Eq.trans (Eq.trans (Eq.trans e117 e114) e105) e100) h80) ⟨by decide, by decide⟩ rfl rfl (Nat.le_of_ble_eq_true rfl) (s_X11_starts hG _ _ _ _ _ _ z120) (Nat.le_of_ble_eq_true rfl) dX11_loads_249 ?_
        refine zx_iconst (v := 1) dX11_loads_252 iv_iconst_1 ?_
        cases h
        exact zx_zretZ dX11_loads_253 rfl zb_1
      · have h := it_f c96 h
        refine zx_if_ne_f (tgt := 208) dX11_loads_203 (by decide) (Classical.not_not.mp c96) ?_
        refine zx_iconst (v := 0) dX11_loads_206 iv_iconst_0 ?_
        cases h
        exact zx_zretZ dX11_loads_207 rfl zb_0
set_option maxRecDepth 100000 in
theorem s_X11_loads_b146 {l : Launch} {G : Gt} (hG : Gok l G) (a0 : Nat) (a2 : Nat) (x3 : Int32) (x4 : Int32) (x5 : Int32) (μ : Mm) (r : Int32) (μ' : Mm) (h : f_X11_loads_b146 a0 a2 x3 x4 x5 μ = some (r, μ')) : ZX l G mX11_loads 146 [(0, .ref a0), (2, .ref a2), (3, .int x3), (4, .int x4), (5, .int x5)] [] μ (.inl (some (.int r))) μ' := by
  unfold f_X11_loads_b146 at h
  refine zx_aload_n dX11_loads_146 rfl (q := 0) rfl ?_
  obtain ⟨h46, h⟩ := ck_e h
  obtain ⟨p47, h48, h⟩ := bd_e h
  refine zx_getR hG fl_X11_89 h46 h48 dX11_loads_147 ?_
  refine zx_aload_n dX11_loads_150 rfl (q := 1) rfl ?_
  refine zx_iconst (v := 0) dX11_loads_151 iv_iconst_0 ?_
  obtain ⟨h49, h⟩ := ck_e h
  obtain ⟨h50, h⟩ := ck_e h
  refine zx_iald hG rfl (h49).1 (h49).2 (inb_e h50) dX11_loads_152 ?_
  refine zx_bipush (v := 16) dX11_loads_153 iv_bipush_16 ?_
  obtain ⟨h51, h⟩ := ck_e h
  refine zx_irem dX11_loads_155 h51 ?_
  obtain ⟨h52, h⟩ := ck_e h
  obtain ⟨h53, h⟩ := ck_e h
  refine zx_zald hG rfl (h52).1 (h52).2 (inb_e h53) dX11_loads_156 ?_
  by_cases c54 : (zb (mI μ p47 (Int32.toNatClampNeg ((mI μ a2 (Int32.toNatClampNeg 0)) - (mI μ a2 (Int32.toNatClampNeg 0)) / 16 * 16)))) = 0
  · have h := it_t c54 h
    refine zx_if_eq_t (tgt := 167) dX11_loads_157 (by decide) c54 ?_
    refine zx_sub (L' := [(0, .ref a0), (2, .ref a2), (3, .int x3), (4, .int x4)]) [0, 1, 2, 3] rfl ?_
    exact s_X11_loads_b167 hG _ _ _ _ _ _ _ h
  · have h := it_f c54 h
    refine zx_if_eq_f (tgt := 167) dX11_loads_157 (by decide) c54 ?_
    refine zx_iload dX11_loads_160 (q := 4) rfl ?_
    by_cases c55 : ¬ x5 = 0
    · have h := it_t c55 h
      refine zx_if_ne_t (tgt := 167) dX11_loads_162 (by decide) c55 ?_
      refine zx_sub (L' := [(0, .ref a0), (2, .ref a2), (3, .int x3), (4, .int x4)]) [0, 1, 2, 3] rfl ?_
      exact s_X11_loads_b167 hG _ _ _ _ _ _ _ h
    · have h := it_f c55 h
      refine zx_if_ne_f (tgt := 167) dX11_loads_162 (by decide) (Classical.not_not.mp c55) ?_
      refine zx_iconst (v := 0) dX11_loads_165 iv_iconst_0 ?_
      cases h
      exact zx_zretZ dX11_loads_166 rfl zb_0
set_option maxRecDepth 100000 in
theorem s_X11_loads_b55 {l : Launch} {G : Gt} (hG : Gok l G) : ∀ (n : Nat) (a0 : Nat) (x1 : Int32) (a2 : Nat) (x3 : Int32) (x4 : Int32) (x5 : Int32) (x6 : Int32) (μ : Mm) (r : Int32) (μ' : Mm), f_X11_loads_b55 n a0 x1 a2 x3 x4 x5 x6 μ = some (r, μ') → ZX l G mX11_loads 55 [(0, .ref a0), (1, .int x1), (2, .ref a2), (3, .int x3), (4, .int x4), (5, .int x5), (6, .int x6)] [] μ (.inl (some (.int r))) μ' := by
  intro n
  induction n with
  | zero =>
    intro a0 x1 a2 x3 x4 x5 x6 μ r μ' h
    cases h
  | succ n ih =>
    intro a0 x1 a2 x3 x4 x5 x6 μ r μ' h
    unfold f_X11_loads_b55 at h
    refine zx_iload dX11_loads_55 (q := 6) rfl ?_
    refine zx_iload_n dX11_loads_57 rfl (q := 1) rfl ?_
    by_cases c29 : x1 ≤ x6
    · have h := it_t c29 h
      refine zx_icmp_ge_t (tgt := 146) dX11_loads_58 (by decide) c29 ?_
      refine zx_sub (L' := [(0, .ref a0), (2, .ref a2), (3, .int x3), (4, .int x4), (5, .int x5)]) [0, 2, 3, 4, 5] rfl ?_
      exact s_X11_loads_b146 hG _ _ _ _ _ _ _ _ h
    · have h := it_f c29 h
      refine zx_icmp_ge_f (tgt := 146) dX11_loads_58 (by decide) c29 ?_
      refine zx_aload_n dX11_loads_61 rfl (q := 0) rfl ?_
      obtain ⟨h30, h⟩ := ck_e h
      obtain ⟨p31, h32, h⟩ := bd_e h
      refine zx_getR hG fl_X11_74 h30 h32 dX11_loads_62 ?_
      refine zx_iload dX11_loads_65 (q := 6) rfl ?_
      obtain ⟨h33, h⟩ := ck_e h
      obtain ⟨h34, h⟩ := ck_e h
      obtain ⟨p35, h36, h⟩ := bd_e h
      refine zx_aald hG rfl (h33).1 (h33).2 (inb_e h34) h36 dX11_loads_67 ?_
      refine zx_astore (L' := [(7, .ref p35), (0, .ref a0), (1, .int x1), (2, .ref a2), (3, .int x3), (4, .int x4), (5, .int x5), (6, .int x6)]) dX11_loads_68 (by decide) rfl ?_
      refine zx_aload_n dX11_loads_70 rfl (q := 1) rfl ?_
      refine zx_aload dX11_loads_71 (q := 0) rfl ?_
      obtain ⟨y37, z38, h⟩ := bd_e h
      refine zx_callV (As := [.ref p35]) hG mf_X11_codeOf cv_X11_201 h30 ⟨by decide, by decide⟩ rfl rfl (Nat.le_of_ble_eq_true rfl) (s_X11_codeOf hG _ _ _ _ z38) (Nat.le_of_ble_eq_true rfl) dX11_loads_73 ?_
      obtain ⟨y39, z40, h⟩ := bd_e h
      refine zx_callS (As := [.int y37]) hG mf_X11_isStore cs_X11_231 ⟨by decide, by decide⟩ rfl rfl (Nat.le_of_ble_eq_true rfl) (s_X11_isStore hG _ _ _ z40) (Nat.le_of_ble_eq_true rfl) dX11_loads_76 ?_
      by_cases c41 : y39 = 0
      · have h := it_t c41 h
        refine zx_if_eq_t (tgt := 140) dX11_loads_79 (by decide) c41 ?_
        refine zx_sub (L' := [(0, .ref a0), (1, .int x1), (2, .ref a2), (3, .int x3), (4, .int x4), (5, .int x5), (6, .int x6)]) [1, 2, 3, 4, 5, 6, 7] rfl ?_
        exact s_X11_loads_b140 hG ih _ _ _ _ _ _ _ _ _ _ h
      · have h := it_f c41 h
        refine zx_if_eq_f (tgt := 140) dX11_loads_79 (by decide) c41 ?_
        refine zx_iload dX11_loads_82 (q := 6) rfl ?_
        by_cases c42 : x5 = 0
        · have h := it_t c42 h
          refine zx_if_eq_t (tgt := 101) dX11_loads_84 (by decide) c42 ?_
          refine zx_sub (L' := [(0, .ref a0), (1, .int x1), (2, .ref a2), (3, .int x3), (4, .int x4), (6, .int x6), (7, .ref p35)]) [1, 2, 3, 4, 5, 7, 0] rfl ?_
          exact s_X11_loads_b101 hG ih _ _ _ _ _ _ _ _ _ _ h
        · have h := it_f c42 h
          refine zx_if_eq_f (tgt := 101) dX11_loads_84 (by decide) c42 ?_
          refine zx_aload dX11_loads_87 (q := 0) rfl ?_
          refine zx_bipush (v := 11) dX11_loads_89 iv_bipush_11 ?_
          obtain ⟨h43, h⟩ := ck_e h
          obtain ⟨h44, h⟩ := ck_e h
          refine zx_iald hG rfl (h43).1 (h43).2 (inb_e h44) dX11_loads_91 ?_
          refine zx_bipush (v := 101) dX11_loads_92 iv_bipush_101 ?_
          by_cases c45 : ¬ (mI μ p35 (Int32.toNatClampNeg 11)) = 101
          · have h := it_t c45 h
            refine zx_icmp_ne_t (tgt := 101) dX11_loads_94 (by decide) c45 ?_
            refine zx_sub (L' := [(0, .ref a0), (1, .int x1), (2, .ref a2), (3, .int x3), (4, .int x4), (6, .int x6), (7, .ref p35)]) [1, 2, 3, 4, 5, 7, 0] rfl ?_
            exact s_X11_loads_b101 hG ih _ _ _ _ _ _ _ _ _ _ h
          · have h := it_f c45 h
            refine zx_icmp_ne_f (tgt := 101) dX11_loads_94 (by decide) (Classical.not_not.mp c45) ?_
            refine zx_iconst (v := 1) dX11_loads_97 iv_iconst_1 ?_
            refine zx_goto (tgt := 102) dX11_loads_98 (by decide) ?_
            refine zx_sub (L' := [(0, .ref a0), (1, .int x1), (2, .ref a2), (3, .int x3), (4, .int x4), (6, .int x6), (7, .ref p35)]) [1, 2, 3, 4, 5, 7, 0] rfl ?_
            exact s_X11_loads_b102 hG ih _ _ _ _ _ _ _ _ _ _ _ h
set_option maxRecDepth 100000 in
theorem s_X11_loads {l : Launch} {G : Gt} (hG : Gok l G) (a0 : Nat) (x1 : Int32) (μ : Mm) (r : Int32) (μ' : Mm) (h : f_X11_loads a0 x1 μ = some (r, μ')) : ZX l G mX11_loads 0 [(0, .ref a0), (1, .int x1)] [] μ (.inl (some (.int r))) μ' := by
  unfold f_X11_loads at h
  refine zx_aload_n dX11_loads_0 rfl (q := 0) rfl ?_
  obtain ⟨h1, h⟩ := ck_e h
  obtain ⟨p2, h3, h⟩ := bd_e h
  refine zx_getR hG fl_X11_74 h1 h3 dX11_loads_1 ?_
  refine zx_iload_n dX11_loads_4 rfl (q := 1) rfl ?_
  obtain ⟨h4, h⟩ := ck_e h
  obtain ⟨h5, h⟩ := ck_e h
  obtain ⟨p6, h7, h⟩ := bd_e h
  refine zx_aald hG rfl (h4).1 (h4).2 (inb_e h5) h7 dX11_loads_5 ?_
  refine zx_astore_n (L' := [(2, .ref p6), (0, .ref a0), (1, .int x1)]) dX11_loads_6 rfl (by decide) rfl ?_
  refine zx_aload_n dX11_loads_7 rfl (q := 1) rfl ?_
  obtain ⟨p8, h9, h⟩ := bd_e h
  refine zx_getR hG fl_X11_62 h1 h9 dX11_loads_8 ?_
  refine zx_aload_n dX11_loads_11 rfl (q := 0) rfl ?_
  refine zx_bipush (v := 7) dX11_loads_12 iv_bipush_7 ?_
  obtain ⟨h10, h⟩ := ck_e h
  obtain ⟨h11, h⟩ := ck_e h
  refine zx_iald hG rfl (h10).1 (h10).2 (inb_e h11) dX11_loads_14 ?_
  obtain ⟨h12, h⟩ := ck_e h
  obtain ⟨h13, h⟩ := ck_e h
  refine zx_iald hG rfl (h12).1 (h12).2 (inb_e h13) dX11_loads_15 ?_
  refine zx_aload_n dX11_loads_16 rfl (q := 1) rfl ?_
  obtain ⟨p14, h15, h⟩ := bd_e h
  refine zx_getR hG fl_X11_22 h1 h15 dX11_loads_17 ?_
  refine zx_aload_n dX11_loads_20 rfl (q := 0) rfl ?_
  refine zx_iconst (v := 0) dX11_loads_21 iv_iconst_0 ?_
  obtain ⟨h16, h⟩ := ck_e h
  refine zx_iald hG rfl (h10).1 (h10).2 (inb_e h16) dX11_loads_22 ?_
  obtain ⟨h17, h⟩ := ck_e h
  obtain ⟨h18, h⟩ := ck_e h
  refine zx_iald hG rfl (h17).1 (h17).2 (inb_e h18) dX11_loads_23 ?_
  refine zx_iadd dX11_loads_24 ?_
  refine zx_istore_n (L' := [(3, .int ((mI μ p8 (Int32.toNatClampNeg (mI μ p6 (Int32.toNatClampNeg 7)))) + (mI μ p14 (Int32.toNatClampNeg (mI μ p6 (Int32.toNatClampNeg 0)))))), (2, .ref p6), (0, .ref a0), (1, .int x1)]) dX11_loads_25 rfl (by decide) rfl ?_
  refine zx_iload_n dX11_loads_26 rfl (q := 0) rfl ?_
  obtain ⟨y19, z20, h⟩ := bd_e h
  refine zx_callS (As := [.int ((mI μ p8 (Int32.toNatClampNeg (mI μ p6 (Int32.toNatClampNeg 7)))) + (mI μ p14 (Int32.toNatClampNeg (mI μ p6 (Int32.toNatClampNeg 0)))))]) hG mf_X11_isAddress cs_X11_225 ⟨by decide, by decide⟩ rfl rfl (Nat.le_of_ble_eq_true rfl) (s_X11_isAddress hG _ _ _ z20) (Nat.le_of_ble_eq_true rfl) dX11_loads_27 ?_
  by_cases c21 : ¬ y19 = 0
  · have h := it_t c21 h
    refine zx_if_ne_t (tgt := 46) dX11_loads_30 (by decide) c21 ?_
    refine zx_iconst (v := (-1)) dX11_loads_46 iv_iconst_m1 ?_
    refine zx_istore (L' := [(4, .int ((-1))), (3, .int ((mI μ p8 (Int32.toNatClampNeg (mI μ p6 (Int32.toNatClampNeg 7)))) + (mI μ p14 (Int32.toNatClampNeg (mI μ p6 (Int32.toNatClampNeg 0)))))), (2, .ref p6), (0, .ref a0), (1, .int x1)]) dX11_loads_47 (by decide) rfl ?_
    refine zx_iconst (v := 1) dX11_loads_49 iv_iconst_1 ?_
    refine zx_istore (L' := [(5, .int 1), (4, .int ((-1))), (3, .int ((mI μ p8 (Int32.toNatClampNeg (mI μ p6 (Int32.toNatClampNeg 7)))) + (mI μ p14 (Int32.toNatClampNeg (mI μ p6 (Int32.toNatClampNeg 0)))))), (2, .ref p6), (0, .ref a0), (1, .int x1)]) dX11_loads_50 (by decide) rfl ?_
    refine zx_iconst (v := 0) dX11_loads_52 iv_iconst_0 ?_
    refine zx_istore (L' := [(6, .int 0), (5, .int 1), (4, .int ((-1))), (3, .int ((mI μ p8 (Int32.toNatClampNeg (mI μ p6 (Int32.toNatClampNeg 7)))) + (mI μ p14 (Int32.toNatClampNeg (mI μ p6 (Int32.toNatClampNeg 0)))))), (2, .ref p6), (0, .ref a0), (1, .int x1)]) dX11_loads_53 (by decide) rfl ?_
    refine zx_sub (L' := [(0, .ref a0), (1, .int x1), (2, .ref p6), (3, .int ((mI μ p8 (Int32.toNatClampNeg (mI μ p6 (Int32.toNatClampNeg 7)))) + (mI μ p14 (Int32.toNatClampNeg (mI μ p6 (Int32.toNatClampNeg 0)))))), (4, .int ((-1))), (5, .int 1), (6, .int 0)]) [5, 6, 4, 3, 2, 1, 0] rfl ?_
    exact s_X11_loads_b55 hG 5000 _ _ _ _ _ _ _ _ _ _ h
  · have h := it_f c21 h
    refine zx_if_ne_f (tgt := 46) dX11_loads_30 (by decide) (Classical.not_not.mp c21) ?_
    refine zx_aload_n dX11_loads_33 rfl (q := 1) rfl ?_
    refine zx_bipush (v := 13) dX11_loads_34 iv_bipush_13 ?_
    refine zx_iconst (v := 2) dX11_loads_36 iv_iconst_2 ?_
    obtain ⟨h22, h⟩ := ck_e h
    refine zx_iast hG rfl (h10).1 (h10).2 (inb_e h22) dX11_loads_37 ?_
    obtain ⟨μ23, e25, h⟩ := zlm_e h
    refine zx_mem e25 ?_
    have e24 : mK μ23 = mK μ := (congrArg mK e25).trans rfl
    refine zx_aload_n dX11_loads_38 rfl (q := 2) rfl ?_
    refine zx_aload_n dX11_loads_39 rfl (q := 1) rfl ?_
    refine zx_iconst (v := 1) dX11_loads_40 iv_iconst_1 ?_
    obtain ⟨uu26, μ28, z27, h⟩ := cl_e h
    refine zx_callV (As := [.ref p6, .int 1]) hG mf_X11_starts cv_X11_228 (kp_o (e24) h1) ⟨by decide, by decide⟩ rfl rfl (Nat.le_of_ble_eq_true rfl) (s_X11_starts hG _ _ _ _ _ _ z27) (Nat.le_of_ble_eq_true rfl) dX11_loads_41 ?_
    refine zx_iconst (v := 1) dX11_loads_44 iv_iconst_1 ?_
    cases h
    exact zx_zretZ dX11_loads_45 rfl zb_1
def f_X11_begins_b143 (k9 : Nat → Int32 → Int32 → Int32 → Int32 → Mm → Option (Unit × Mm)) (k94 : Nat → Int32 → Int32 → Int32 → Int32 → Nat → Int32 → Int32 → Mm → Option (Unit × Mm)) (a0 : Nat) (x1 : Int32) (x2 : Int32) (x3 : Int32) (x4 : Int32) (a5 : Nat) (x8 : Int32) (s0 : Int32) (μ : Mm) : Option (Unit × Mm) :=
  k94 a0 x1 x2 x3 x4 a5 s0 (x8 + 1) μ
def f_X11_begins_b138 (k9 : Nat → Int32 → Int32 → Int32 → Int32 → Mm → Option (Unit × Mm)) (k94 : Nat → Int32 → Int32 → Int32 → Int32 → Nat → Int32 → Int32 → Mm → Option (Unit × Mm)) (a0 : Nat) (x1 : Int32) (x2 : Int32) (x3 : Int32) (x4 : Int32) (a5 : Nat) (x8 : Int32) (μ : Mm) : Option (Unit × Mm) :=
  f_X11_begins_b143 k9 k94 a0 x1 x2 x3 x4 a5 x8 1 μ
def f_X11_begins_b142 (k9 : Nat → Int32 → Int32 → Int32 → Int32 → Mm → Option (Unit × Mm)) (k94 : Nat → Int32 → Int32 → Int32 → Int32 → Nat → Int32 → Int32 → Mm → Option (Unit × Mm)) (a0 : Nat) (x1 : Int32) (x2 : Int32) (x3 : Int32) (x4 : Int32) (a5 : Nat) (x8 : Int32) (μ : Mm) : Option (Unit × Mm) :=
  f_X11_begins_b143 k9 k94 a0 x1 x2 x3 x4 a5 x8 0 μ
def f_X11_begins_b242 (k9 : Nat → Int32 → Int32 → Int32 → Int32 → Mm → Option (Unit × Mm)) (a0 : Nat) (x1 : Int32) (x2 : Int32) (x3 : Int32) (x4 : Int32) (μ : Mm) : Option (Unit × Mm) :=
  k9 a0 x1 x2 x3 (x4 + 1) μ
def f_X11_begins_b164 (k9 : Nat → Int32 → Int32 → Int32 → Int32 → Mm → Option (Unit × Mm)) (a0 : Nat) (x1 : Int32) (x2 : Int32) (x3 : Int32) (x4 : Int32) (μ : Mm) : Option (Unit × Mm) :=
  f_X11_begins_b242 k9 a0 x1 x2 x3 x4 μ
def f_X11_begins_b151 (k9 : Nat → Int32 → Int32 → Int32 → Int32 → Mm → Option (Unit × Mm)) (a0 : Nat) (x1 : Int32) (x2 : Int32) (x3 : Int32) (x4 : Int32) (a5 : Nat) (x7 : Int32) (μ : Mm) : Option (Unit × Mm) :=
  if ¬ x7 = 0 then
    f_X11_begins_b164 k9 a0 x1 x2 x3 x4 μ
  else
    ck (mK μ a0 = 112) <|
    cl (f_X11_starts a0 a5 6 μ) fun _ μ66 =>
    f_X11_begins_b164 k9 a0 x1 x2 x3 x4 μ66
def f_X11_begins_b94 (k9 : Nat → Int32 → Int32 → Int32 → Int32 → Mm → Option (Unit × Mm)) : Nat → Nat → Int32 → Int32 → Int32 → Int32 → Nat → Int32 → Int32 → Mm → Option (Unit × Mm)
  | 0, _, _, _, _, _, _, _, _, _ => none
  | n + 1, a0, x1, x2, x3, x4, a5, x7, x8, μ =>
  ck (mK μ a0 = 112) <|
  if (mI μ a0 23) ≤ x8 then
    f_X11_begins_b151 k9 a0 x1 x2 x3 x4 a5 x7 μ
  else
    if ¬ x7 = 0 then
      f_X11_begins_b138 k9 (f_X11_begins_b94 k9 n) a0 x1 x2 x3 x4 a5 x8 μ
    else
      bd (mR μ a0 22) fun p44 =>
      ck (isA56 (mK μ p44)) <|
      ck (inb x8 (mL μ p44)) <|
      bd (mR μ p44 (Int32.toNatClampNeg x8)) fun p48 =>
      bd (f_X11_codeOf a0 p48 μ) fun y50 =>
      if ¬ y50 = 5 then
        f_X11_begins_b142 k9 (f_X11_begins_b94 k9 n) a0 x1 x2 x3 x4 a5 x8 μ
      else
        bd (mR μ a0 22) fun p53 =>
        ck (isA56 (mK μ p53)) <|
        ck (inb x8 (mL μ p53)) <|
        bd (mR μ p53 (Int32.toNatClampNeg x8)) fun p57 =>
        ck (isA 1 (mK μ p57)) <|
        ck (inb 11 (mL μ p57)) <|
        if ¬ (mI μ p57 (Int32.toNatClampNeg 11)) = 120 then
          f_X11_begins_b142 k9 (f_X11_begins_b94 k9 n) a0 x1 x2 x3 x4 a5 x8 μ
        else
          f_X11_begins_b138 k9 (f_X11_begins_b94 k9 n) a0 x1 x2 x3 x4 a5 x8 μ
def f_X11_begins_b205 (k9 : Nat → Int32 → Int32 → Int32 → Int32 → Mm → Option (Unit × Mm)) (a0 : Nat) (x1 : Int32) (x2 : Int32) (x4 : Int32) (s0 : Int32) (s1 : Int32) (μ : Mm) : Option (Unit × Mm) :=
  f_X11_begins_b242 k9 a0 x1 x2 (s1 + s0) x4 μ
def f_X11_begins_b210 (k9 : Nat → Int32 → Int32 → Int32 → Int32 → Mm → Option (Unit × Mm)) (a0 : Nat) (x1 : Int32) (x2 : Int32) (x3 : Int32) (x4 : Int32) (a5 : Nat) (μ : Mm) : Option (Unit × Mm) :=
  if ¬ x3 = 0 then
    f_X11_begins_b242 k9 a0 x1 x2 x3 x4 μ
  else
    ck (mK μ a0 = 112) <|
    cl (f_X11_starts a0 a5 1 μ) fun _ μ40 =>
    f_X11_begins_b242 k9 a0 x1 x2 (x3 + 1) x4 μ40
def f_X11_begins_b9 : Nat → Nat → Int32 → Int32 → Int32 → Int32 → Mm → Option (Unit × Mm)
  | 0, _, _, _, _, _, _ => none
  | n + 1, a0, x1, x2, x3, x4, μ =>
  ck (mK μ a0 = 112) <|
  if (mI μ a0 23) ≤ x4 then
    some ((), μ)
  else
    bd (mR μ a0 22) fun p3 =>
    ck (isA56 (mK μ p3)) <|
    ck (inb x4 (mL μ p3)) <|
    bd (mR μ p3 (Int32.toNatClampNeg x4)) fun p7 =>
    bd (f_X11_codeOf a0 p7 μ) fun y9 =>
    ck (isA 1 (mK μ p7)) <|
    ck (inb 11 (mL μ p7)) <|
    if ¬ (mI μ p7 (Int32.toNatClampNeg 11)) = 113 then
      f_X11_begins_b242 (f_X11_begins_b9 n) a0 x1 x2 x3 x4 μ
    else
      bd (f_X11_hasOperands a0 p7 y9 μ) fun y14 =>
      if ¬ y14 = 0 then
        if ¬ y9 = 4 then
          if ¬ y9 = 5 then
            bd (f_X11_in y9 9 11) fun y19 =>
            if y19 = 0 then
              if 2 ≤ x1 then
                f_X11_begins_b242 (f_X11_begins_b9 n) a0 x1 x2 x3 x4 μ
              else
                cl (f_X11_starts a0 p7 1 μ) fun _ μ25 =>
                f_X11_begins_b242 (f_X11_begins_b9 n) a0 (x1 + 1) x2 x3 x4 μ25
            else
              if ¬ x3 = 0 then
                f_X11_begins_b210 (f_X11_begins_b9 n) a0 x1 x2 x3 x4 p7 μ
              else
                if ¬ y9 = 9 then
                  f_X11_begins_b210 (f_X11_begins_b9 n) a0 x1 x2 x3 x4 p7 μ
                else
                  cl (f_X11_loads a0 x4 μ) fun y28 μ30 =>
                  if y28 = 0 then
                    f_X11_begins_b205 (f_X11_begins_b9 n) a0 x1 x2 x4 0 x3 μ30
                  else
                    f_X11_begins_b205 (f_X11_begins_b9 n) a0 x1 x2 x4 1 x3 μ30
          else
            f_X11_begins_b94 (f_X11_begins_b9 n) 5000 a0 x1 x2 x3 x4 p7 0 0 μ
        else
          if ¬ x2 = 0 then
            f_X11_begins_b242 (f_X11_begins_b9 n) a0 x1 x2 x3 x4 μ
          else
            cl (f_X11_starts a0 p7 3 μ) fun _ μ35 =>
            f_X11_begins_b242 (f_X11_begins_b9 n) a0 x1 (x2 + 1) x3 x4 μ35
      else
        f_X11_begins_b242 (f_X11_begins_b9 n) a0 x1 x2 x3 x4 μ
def f_X11_begins (a0 : Nat) (μ : Mm) : Option (Unit × Mm) :=
  f_X11_begins_b9 5000 a0 0 0 0 0 μ
set_option maxRecDepth 100000 in
theorem s_X11_begins_b143 {l : Launch} {G : Gt} (hG : Gok l G) {k9 : Nat → Int32 → Int32 → Int32 → Int32 → Mm → Option (Unit × Mm)} {k94 : Nat → Int32 → Int32 → Int32 → Int32 → Nat → Int32 → Int32 → Mm → Option (Unit × Mm)} (hk9 : ∀ (a0 : Nat) (x1 : Int32) (x2 : Int32) (x3 : Int32) (x4 : Int32) (μ : Mm) (r : Unit) (μ' : Mm), k9 a0 x1 x2 x3 x4 μ = some (r, μ') → ZX l G mX11_begins 9 [(0, .ref a0), (1, .int x1), (2, .int x2), (3, .int x3), (4, .int x4)] [] μ (.inl none) μ') (hk94 : ∀ (a0 : Nat) (x1 : Int32) (x2 : Int32) (x3 : Int32) (x4 : Int32) (a5 : Nat) (x7 : Int32) (x8 : Int32) (μ : Mm) (r : Unit) (μ' : Mm), k94 a0 x1 x2 x3 x4 a5 x7 x8 μ = some (r, μ') → ZX l G mX11_begins 94 [(0, .ref a0), (1, .int x1), (2, .int x2), (3, .int x3), (4, .int x4), (5, .ref a5), (7, .int x7), (8, .int x8)] [] μ (.inl none) μ') (a0 : Nat) (x1 : Int32) (x2 : Int32) (x3 : Int32) (x4 : Int32) (a5 : Nat) (x8 : Int32) (s0 : Int32) (μ : Mm) (r : Unit) (μ' : Mm) (h : f_X11_begins_b143 k9 k94 a0 x1 x2 x3 x4 a5 x8 s0 μ = some (r, μ')) : ZX l G mX11_begins 143 [(0, .ref a0), (1, .int x1), (2, .int x2), (3, .int x3), (4, .int x4), (5, .ref a5), (8, .int x8)] [.int s0] μ (.inl none) μ' := by
  unfold f_X11_begins_b143 at h
  refine zx_istore (L' := [(7, .int s0), (0, .ref a0), (1, .int x1), (2, .int x2), (3, .int x3), (4, .int x4), (5, .ref a5), (8, .int x8)]) dX11_begins_143 (by decide) rfl ?_
  refine zx_iinc (q := 7) (v := x8 + 1) (L' := [(8, .int (x8 + 1)), (7, .int s0), (0, .ref a0), (1, .int x1), (2, .int x2), (3, .int x3), (4, .int x4), (5, .ref a5)]) dX11_begins_145 rfl rfl (by decide) rfl ?_
  refine zx_goto (tgt := 94) dX11_begins_148 (by decide) ?_
  refine zx_sub (L' := [(0, .ref a0), (1, .int x1), (2, .int x2), (3, .int x3), (4, .int x4), (5, .ref a5), (7, .int s0), (8, .int (x8 + 1))]) [2, 3, 4, 5, 6, 7, 1, 0] rfl ?_
  exact hk94 _ _ _ _ _ _ _ _ _ _ _ h
set_option maxRecDepth 100000 in
theorem s_X11_begins_b138 {l : Launch} {G : Gt} (hG : Gok l G) {k9 : Nat → Int32 → Int32 → Int32 → Int32 → Mm → Option (Unit × Mm)} {k94 : Nat → Int32 → Int32 → Int32 → Int32 → Nat → Int32 → Int32 → Mm → Option (Unit × Mm)} (hk9 : ∀ (a0 : Nat) (x1 : Int32) (x2 : Int32) (x3 : Int32) (x4 : Int32) (μ : Mm) (r : Unit) (μ' : Mm), k9 a0 x1 x2 x3 x4 μ = some (r, μ') → ZX l G mX11_begins 9 [(0, .ref a0), (1, .int x1), (2, .int x2), (3, .int x3), (4, .int x4)] [] μ (.inl none) μ') (hk94 : ∀ (a0 : Nat) (x1 : Int32) (x2 : Int32) (x3 : Int32) (x4 : Int32) (a5 : Nat) (x7 : Int32) (x8 : Int32) (μ : Mm) (r : Unit) (μ' : Mm), k94 a0 x1 x2 x3 x4 a5 x7 x8 μ = some (r, μ') → ZX l G mX11_begins 94 [(0, .ref a0), (1, .int x1), (2, .int x2), (3, .int x3), (4, .int x4), (5, .ref a5), (7, .int x7), (8, .int x8)] [] μ (.inl none) μ') (a0 : Nat) (x1 : Int32) (x2 : Int32) (x3 : Int32) (x4 : Int32) (a5 : Nat) (x8 : Int32) (μ : Mm) (r : Unit) (μ' : Mm) (h : f_X11_begins_b138 k9 k94 a0 x1 x2 x3 x4 a5 x8 μ = some (r, μ')) : ZX l G mX11_begins 138 [(0, .ref a0), (1, .int x1), (2, .int x2), (3, .int x3), (4, .int x4), (5, .ref a5), (8, .int x8)] [] μ (.inl none) μ' := by
  unfold f_X11_begins_b138 at h
  refine zx_iconst (v := 1) dX11_begins_138 iv_iconst_1 ?_
  refine zx_goto (tgt := 143) dX11_begins_139 (by decide) ?_
  exact s_X11_begins_b143 hG hk9 hk94 _ _ _ _ _ _ _ _ _ _ _ h
set_option maxRecDepth 100000 in
theorem s_X11_begins_b142 {l : Launch} {G : Gt} (hG : Gok l G) {k9 : Nat → Int32 → Int32 → Int32 → Int32 → Mm → Option (Unit × Mm)} {k94 : Nat → Int32 → Int32 → Int32 → Int32 → Nat → Int32 → Int32 → Mm → Option (Unit × Mm)} (hk9 : ∀ (a0 : Nat) (x1 : Int32) (x2 : Int32) (x3 : Int32) (x4 : Int32) (μ : Mm) (r : Unit) (μ' : Mm), k9 a0 x1 x2 x3 x4 μ = some (r, μ') → ZX l G mX11_begins 9 [(0, .ref a0), (1, .int x1), (2, .int x2), (3, .int x3), (4, .int x4)] [] μ (.inl none) μ') (hk94 : ∀ (a0 : Nat) (x1 : Int32) (x2 : Int32) (x3 : Int32) (x4 : Int32) (a5 : Nat) (x7 : Int32) (x8 : Int32) (μ : Mm) (r : Unit) (μ' : Mm), k94 a0 x1 x2 x3 x4 a5 x7 x8 μ = some (r, μ') → ZX l G mX11_begins 94 [(0, .ref a0), (1, .int x1), (2, .int x2), (3, .int x3), (4, .int x4), (5, .ref a5), (7, .int x7), (8, .int x8)] [] μ (.inl none) μ') (a0 : Nat) (x1 : Int32) (x2 : Int32) (x3 : Int32) (x4 : Int32) (a5 : Nat) (x8 : Int32) (μ : Mm) (r : Unit) (μ' : Mm) (h : f_X11_begins_b142 k9 k94 a0 x1 x2 x3 x4 a5 x8 μ = some (r, μ')) : ZX l G mX11_begins 142 [(0, .ref a0), (1, .int x1), (2, .int x2), (3, .int x3), (4, .int x4), (5, .ref a5), (8, .int x8)] [] μ (.inl none) μ' := by
  unfold f_X11_begins_b142 at h
  refine zx_iconst (v := 0) dX11_begins_142 iv_iconst_0 ?_
  exact s_X11_begins_b143 hG hk9 hk94 _ _ _ _ _ _ _ _ _ _ _ h
set_option maxRecDepth 100000 in
theorem s_X11_begins_b242 {l : Launch} {G : Gt} (hG : Gok l G) {k9 : Nat → Int32 → Int32 → Int32 → Int32 → Mm → Option (Unit × Mm)} (hk9 : ∀ (a0 : Nat) (x1 : Int32) (x2 : Int32) (x3 : Int32) (x4 : Int32) (μ : Mm) (r : Unit) (μ' : Mm), k9 a0 x1 x2 x3 x4 μ = some (r, μ') → ZX l G mX11_begins 9 [(0, .ref a0), (1, .int x1), (2, .int x2), (3, .int x3), (4, .int x4)] [] μ (.inl none) μ') (a0 : Nat) (x1 : Int32) (x2 : Int32) (x3 : Int32) (x4 : Int32) (μ : Mm) (r : Unit) (μ' : Mm) (h : f_X11_begins_b242 k9 a0 x1 x2 x3 x4 μ = some (r, μ')) : ZX l G mX11_begins 242 [(0, .ref a0), (1, .int x1), (2, .int x2), (3, .int x3), (4, .int x4)] [] μ (.inl none) μ' := by
  unfold f_X11_begins_b242 at h
  refine zx_iinc (q := 4) (v := x4 + 1) (L' := [(4, .int (x4 + 1)), (0, .ref a0), (1, .int x1), (2, .int x2), (3, .int x3)]) dX11_begins_242 rfl rfl (by decide) rfl ?_
  refine zx_goto (tgt := 9) dX11_begins_245 (by decide) ?_
  refine zx_sub (L' := [(0, .ref a0), (1, .int x1), (2, .int x2), (3, .int x3), (4, .int (x4 + 1))]) [1, 2, 3, 4, 0] rfl ?_
  exact hk9 _ _ _ _ _ _ _ _ h
set_option maxRecDepth 100000 in
theorem s_X11_begins_b164 {l : Launch} {G : Gt} (hG : Gok l G) {k9 : Nat → Int32 → Int32 → Int32 → Int32 → Mm → Option (Unit × Mm)} (hk9 : ∀ (a0 : Nat) (x1 : Int32) (x2 : Int32) (x3 : Int32) (x4 : Int32) (μ : Mm) (r : Unit) (μ' : Mm), k9 a0 x1 x2 x3 x4 μ = some (r, μ') → ZX l G mX11_begins 9 [(0, .ref a0), (1, .int x1), (2, .int x2), (3, .int x3), (4, .int x4)] [] μ (.inl none) μ') (a0 : Nat) (x1 : Int32) (x2 : Int32) (x3 : Int32) (x4 : Int32) (μ : Mm) (r : Unit) (μ' : Mm) (h : f_X11_begins_b164 k9 a0 x1 x2 x3 x4 μ = some (r, μ')) : ZX l G mX11_begins 164 [(0, .ref a0), (1, .int x1), (2, .int x2), (3, .int x3), (4, .int x4)] [] μ (.inl none) μ' := by
  unfold f_X11_begins_b164 at h
  refine zx_goto (tgt := 242) dX11_begins_164 (by decide) ?_
  exact s_X11_begins_b242 hG hk9 _ _ _ _ _ _ _ _ h
set_option maxRecDepth 100000 in
theorem s_X11_begins_b151 {l : Launch} {G : Gt} (hG : Gok l G) {k9 : Nat → Int32 → Int32 → Int32 → Int32 → Mm → Option (Unit × Mm)} (hk9 : ∀ (a0 : Nat) (x1 : Int32) (x2 : Int32) (x3 : Int32) (x4 : Int32) (μ : Mm) (r : Unit) (μ' : Mm), k9 a0 x1 x2 x3 x4 μ = some (r, μ') → ZX l G mX11_begins 9 [(0, .ref a0), (1, .int x1), (2, .int x2), (3, .int x3), (4, .int x4)] [] μ (.inl none) μ') (a0 : Nat) (x1 : Int32) (x2 : Int32) (x3 : Int32) (x4 : Int32) (a5 : Nat) (x7 : Int32) (μ : Mm) (r : Unit) (μ' : Mm) (h : f_X11_begins_b151 k9 a0 x1 x2 x3 x4 a5 x7 μ = some (r, μ')) : ZX l G mX11_begins 151 [(0, .ref a0), (1, .int x1), (2, .int x2), (3, .int x3), (4, .int x4), (5, .ref a5), (7, .int x7)] [] μ (.inl none) μ' := by
  unfold f_X11_begins_b151 at h
  refine zx_iload dX11_begins_151 (q := 6) rfl ?_
  by_cases c62 : ¬ x7 = 0
  · have h := it_t c62 h
    refine zx_if_ne_t (tgt := 164) dX11_begins_153 (by decide) c62 ?_
    refine zx_sub (L' := [(0, .ref a0), (1, .int x1), (2, .int x2), (3, .int x3), (4, .int x4)]) [0, 1, 2, 3, 4] rfl ?_
    exact s_X11_begins_b164 hG hk9 _ _ _ _ _ _ _ _ h
  · have h := it_f c62 h
    refine zx_if_ne_f (tgt := 164) dX11_begins_153 (by decide) (Classical.not_not.mp c62) ?_
    refine zx_aload_n dX11_begins_156 rfl (q := 0) rfl ?_
    refine zx_aload dX11_begins_157 (q := 5) rfl ?_
    refine zx_bipush (v := 6) dX11_begins_159 iv_bipush_6 ?_
    obtain ⟨h63, h⟩ := ck_e h
    obtain ⟨uu64, μ66, z65, h⟩ := cl_e h
    refine zx_callV (As := [.ref a5, .int 6]) hG mf_X11_starts cv_X11_228 h63 ⟨by decide, by decide⟩ rfl rfl (Nat.le_of_ble_eq_true rfl) (s_X11_starts hG _ _ _ _ _ _ z65) (Nat.le_of_ble_eq_true rfl) dX11_begins_161 ?_
    refine zx_sub (L' := [(0, .ref a0), (1, .int x1), (2, .int x2), (3, .int x3), (4, .int x4)]) [0, 1, 2, 3, 4] rfl ?_
    exact s_X11_begins_b164 hG hk9 _ _ _ _ _ _ _ _ h
set_option maxRecDepth 100000 in
theorem s_X11_begins_b94 {l : Launch} {G : Gt} (hG : Gok l G) {k9 : Nat → Int32 → Int32 → Int32 → Int32 → Mm → Option (Unit × Mm)} (hk9 : ∀ (a0 : Nat) (x1 : Int32) (x2 : Int32) (x3 : Int32) (x4 : Int32) (μ : Mm) (r : Unit) (μ' : Mm), k9 a0 x1 x2 x3 x4 μ = some (r, μ') → ZX l G mX11_begins 9 [(0, .ref a0), (1, .int x1), (2, .int x2), (3, .int x3), (4, .int x4)] [] μ (.inl none) μ') : ∀ (n : Nat) (a0 : Nat) (x1 : Int32) (x2 : Int32) (x3 : Int32) (x4 : Int32) (a5 : Nat) (x7 : Int32) (x8 : Int32) (μ : Mm) (r : Unit) (μ' : Mm), f_X11_begins_b94 k9 n a0 x1 x2 x3 x4 a5 x7 x8 μ = some (r, μ') → ZX l G mX11_begins 94 [(0, .ref a0), (1, .int x1), (2, .int x2), (3, .int x3), (4, .int x4), (5, .ref a5), (7, .int x7), (8, .int x8)] [] μ (.inl none) μ' := by
  intro n
  induction n with
  | zero =>
    intro a0 x1 x2 x3 x4 a5 x7 x8 μ r μ' h
    cases h
  | succ n ih =>
    intro a0 x1 x2 x3 x4 a5 x7 x8 μ r μ' h
    unfold f_X11_begins_b94 at h
    refine zx_iload dX11_begins_94 (q := 7) rfl ?_
    refine zx_aload_n dX11_begins_96 rfl (q := 0) rfl ?_
    obtain ⟨h41, h⟩ := ck_e h
    refine zx_getI hG fl_X11_198 h41 dX11_begins_97 ?_
    by_cases c42 : (mI μ a0 23) ≤ x8
    · have h := it_t c42 h
      refine zx_icmp_ge_t (tgt := 151) dX11_begins_100 (by decide) c42 ?_
      refine zx_sub (L' := [(0, .ref a0), (1, .int x1), (2, .int x2), (3, .int x3), (4, .int x4), (5, .ref a5), (7, .int x7)]) [0, 1, 2, 3, 4, 5, 6] rfl ?_
      exact s_X11_begins_b151 hG hk9 _ _ _ _ _ _ _ _ _ _ h
    · have h := it_f c42 h
      refine zx_icmp_ge_f (tgt := 151) dX11_begins_100 (by decide) c42 ?_
      refine zx_iload dX11_begins_103 (q := 6) rfl ?_
      by_cases c43 : ¬ x7 = 0
      · have h := it_t c43 h
        refine zx_if_ne_t (tgt := 138) dX11_begins_105 (by decide) c43 ?_
        refine zx_sub (L' := [(0, .ref a0), (1, .int x1), (2, .int x2), (3, .int x3), (4, .int x4), (5, .ref a5), (8, .int x8)]) [0, 1, 2, 3, 4, 5, 7] rfl ?_
        exact s_X11_begins_b138 hG hk9 ih _ _ _ _ _ _ _ _ _ _ h
      · have h := it_f c43 h
        refine zx_if_ne_f (tgt := 138) dX11_begins_105 (by decide) (Classical.not_not.mp c43) ?_
        refine zx_aload_n dX11_begins_108 rfl (q := 0) rfl ?_
        refine zx_aload_n dX11_begins_109 rfl (q := 0) rfl ?_
        obtain ⟨p44, h45, h⟩ := bd_e h
        refine zx_getR hG fl_X11_74 h41 h45 dX11_begins_110 ?_
        refine zx_iload dX11_begins_113 (q := 7) rfl ?_
        obtain ⟨h46, h⟩ := ck_e h
        obtain ⟨h47, h⟩ := ck_e h
        obtain ⟨p48, h49, h⟩ := bd_e h
        refine zx_aald hG rfl (h46).1 (h46).2 (inb_e h47) h49 dX11_begins_115 ?_
        obtain ⟨y50, z51, h⟩ := bd_e h
        refine zx_callV (As := [.ref p48]) hG mf_X11_codeOf cv_X11_201 h41 ⟨by decide, by decide⟩ rfl rfl (Nat.le_of_ble_eq_true rfl) (s_X11_codeOf hG _ _ _ _ z51) (Nat.le_of_ble_eq_true rfl) dX11_begins_116 ?_
        refine zx_iconst (v := 5) dX11_begins_119 iv_iconst_5 ?_
        by_cases c52 : ¬ y50 = 5
        · have h := it_t c52 h
          refine zx_icmp_ne_t (tgt := 142) dX11_begins_120 (by decide) c52 ?_
          refine zx_sub (L' := [(0, .ref a0), (1, .int x1), (2, .int x2), (3, .int x3), (4, .int x4), (5, .ref a5), (8, .int x8)]) [0, 1, 2, 3, 4, 5, 7] rfl ?_
          exact s_X11_begins_b142 hG hk9 ih _ _ _ _ _ _ _ _ _ _ h
        · have h := it_f c52 h
          refine zx_icmp_ne_f (tgt := 142) dX11_begins_120 (by decide) (Classical.not_not.mp c52) ?_
          refine zx_aload_n dX11_begins_123 rfl (q := 0) rfl ?_
          obtain ⟨p53, h54, h⟩ := bd_e h
          refine zx_getR hG fl_X11_74 h41 h54 dX11_begins_124 ?_
          refine zx_iload dX11_begins_127 (q := 7) rfl ?_
          obtain ⟨h55, h⟩ := ck_e h
          obtain ⟨h56, h⟩ := ck_e h
          obtain ⟨p57, h58, h⟩ := bd_e h
          refine zx_aald hG rfl (h55).1 (h55).2 (inb_e h56) h58 dX11_begins_129 ?_
          refine zx_bipush (v := 11) dX11_begins_130 iv_bipush_11 ?_
          obtain ⟨h59, h⟩ := ck_e h
          obtain ⟨h60, h⟩ := ck_e h
          refine zx_iald hG rfl (h59).1 (h59).2 (inb_e h60) dX11_begins_132 ?_
          refine zx_bipush (v := 120) dX11_begins_133 iv_bipush_120 ?_
          by_cases c61 : ¬ (mI μ p57 (Int32.toNatClampNeg 11)) = 120
          · have h := it_t c61 h
            refine zx_icmp_ne_t (tgt := 142) dX11_begins_135 (by decide) c61 ?_
            refine zx_sub (L' := [(0, .ref a0), (1, .int x1), (2, .int x2), (3, .int x3), (4, .int x4), (5, .ref a5), (8, .int x8)]) [0, 1, 2, 3, 4, 5, 7] rfl ?_
            exact s_X11_begins_b142 hG hk9 ih _ _ _ _ _ _ _ _ _ _ h
          · have h := it_f c61 h
            refine zx_icmp_ne_f (tgt := 142) dX11_begins_135 (by decide) (Classical.not_not.mp c61) ?_
            refine zx_sub (L' := [(0, .ref a0), (1, .int x1), (2, .int x2), (3, .int x3), (4, .int x4), (5, .ref a5), (8, .int x8)]) [0, 1, 2, 3, 4, 5, 7] rfl ?_
            exact s_X11_begins_b138 hG hk9 ih _ _ _ _ _ _ _ _ _ _ h
set_option maxRecDepth 100000 in
theorem s_X11_begins_b205 {l : Launch} {G : Gt} (hG : Gok l G) {k9 : Nat → Int32 → Int32 → Int32 → Int32 → Mm → Option (Unit × Mm)} (hk9 : ∀ (a0 : Nat) (x1 : Int32) (x2 : Int32) (x3 : Int32) (x4 : Int32) (μ : Mm) (r : Unit) (μ' : Mm), k9 a0 x1 x2 x3 x4 μ = some (r, μ') → ZX l G mX11_begins 9 [(0, .ref a0), (1, .int x1), (2, .int x2), (3, .int x3), (4, .int x4)] [] μ (.inl none) μ') (a0 : Nat) (x1 : Int32) (x2 : Int32) (x4 : Int32) (s0 : Int32) (s1 : Int32) (μ : Mm) (r : Unit) (μ' : Mm) (h : f_X11_begins_b205 k9 a0 x1 x2 x4 s0 s1 μ = some (r, μ')) : ZX l G mX11_begins 205 [(0, .ref a0), (1, .int x1), (2, .int x2), (4, .int x4)] [.int s0, .int s1] μ (.inl none) μ' := by
  unfold f_X11_begins_b205 at h
  refine zx_iadd dX11_begins_205 ?_
  refine zx_istore_n (L' := [(3, .int (s1 + s0)), (0, .ref a0), (1, .int x1), (2, .int x2), (4, .int x4)]) dX11_begins_206 rfl (by decide) rfl ?_
  refine zx_goto (tgt := 242) dX11_begins_207 (by decide) ?_
  refine zx_sub (L' := [(0, .ref a0), (1, .int x1), (2, .int x2), (3, .int (s1 + s0)), (4, .int x4)]) [1, 2, 3, 0, 4] rfl ?_
  exact s_X11_begins_b242 hG hk9 _ _ _ _ _ _ _ _ h
set_option maxRecDepth 100000 in
theorem s_X11_begins_b210 {l : Launch} {G : Gt} (hG : Gok l G) {k9 : Nat → Int32 → Int32 → Int32 → Int32 → Mm → Option (Unit × Mm)} (hk9 : ∀ (a0 : Nat) (x1 : Int32) (x2 : Int32) (x3 : Int32) (x4 : Int32) (μ : Mm) (r : Unit) (μ' : Mm), k9 a0 x1 x2 x3 x4 μ = some (r, μ') → ZX l G mX11_begins 9 [(0, .ref a0), (1, .int x1), (2, .int x2), (3, .int x3), (4, .int x4)] [] μ (.inl none) μ') (a0 : Nat) (x1 : Int32) (x2 : Int32) (x3 : Int32) (x4 : Int32) (a5 : Nat) (μ : Mm) (r : Unit) (μ' : Mm) (h : f_X11_begins_b210 k9 a0 x1 x2 x3 x4 a5 μ = some (r, μ')) : ZX l G mX11_begins 210 [(0, .ref a0), (1, .int x1), (2, .int x2), (3, .int x3), (4, .int x4), (5, .ref a5)] [] μ (.inl none) μ' := by
  unfold f_X11_begins_b210 at h
  refine zx_iload_n dX11_begins_210 rfl (q := 3) rfl ?_
  by_cases c36 : ¬ x3 = 0
  · have h := it_t c36 h
    refine zx_if_ne_t (tgt := 242) dX11_begins_211 (by decide) c36 ?_
    refine zx_sub (L' := [(0, .ref a0), (1, .int x1), (2, .int x2), (3, .int x3), (4, .int x4)]) [0, 1, 2, 3, 4] rfl ?_
    exact s_X11_begins_b242 hG hk9 _ _ _ _ _ _ _ _ h
  · have h := it_f c36 h
    refine zx_if_ne_f (tgt := 242) dX11_begins_211 (by decide) (Classical.not_not.mp c36) ?_
    refine zx_iinc (q := 3) (v := x3 + 1) (L' := [(3, .int (x3 + 1)), (0, .ref a0), (1, .int x1), (2, .int x2), (4, .int x4), (5, .ref a5)]) dX11_begins_214 rfl rfl (by decide) rfl ?_
    refine zx_aload_n dX11_begins_217 rfl (q := 1) rfl ?_
    refine zx_aload dX11_begins_218 (q := 5) rfl ?_
    refine zx_iconst (v := 1) dX11_begins_220 iv_iconst_1 ?_
    obtain ⟨h37, h⟩ := ck_e h
    obtain ⟨uu38, μ40, z39, h⟩ := cl_e h
    refine zx_callV (As := [.ref a5, .int 1]) hG mf_X11_starts cv_X11_228 h37 ⟨by decide, by decide⟩ rfl rfl (Nat.le_of_ble_eq_true rfl) (s_X11_starts hG _ _ _ _ _ _ z39) (Nat.le_of_ble_eq_true rfl) dX11_begins_221 ?_
    refine zx_goto (tgt := 242) dX11_begins_224 (by decide) ?_
    refine zx_sub (L' := [(0, .ref a0), (1, .int x1), (2, .int x2), (3, .int (x3 + 1)), (4, .int x4)]) [1, 2, 3, 0, 4] rfl ?_
    exact s_X11_begins_b242 hG hk9 _ _ _ _ _ _ _ _ h
set_option maxRecDepth 100000 in
theorem s_X11_begins_b9 {l : Launch} {G : Gt} (hG : Gok l G) : ∀ (n : Nat) (a0 : Nat) (x1 : Int32) (x2 : Int32) (x3 : Int32) (x4 : Int32) (μ : Mm) (r : Unit) (μ' : Mm), f_X11_begins_b9 n a0 x1 x2 x3 x4 μ = some (r, μ') → ZX l G mX11_begins 9 [(0, .ref a0), (1, .int x1), (2, .int x2), (3, .int x3), (4, .int x4)] [] μ (.inl none) μ' := by
  intro n
  induction n with
  | zero =>
    intro a0 x1 x2 x3 x4 μ r μ' h
    cases h
  | succ n ih =>
    intro a0 x1 x2 x3 x4 μ r μ' h
    unfold f_X11_begins_b9 at h
    refine zx_iload dX11_begins_9 (q := 4) rfl ?_
    refine zx_aload_n dX11_begins_11 rfl (q := 0) rfl ?_
    obtain ⟨h1, h⟩ := ck_e h
    refine zx_getI hG fl_X11_198 h1 dX11_begins_12 ?_
    by_cases c2 : (mI μ a0 23) ≤ x4
    · have h := it_t c2 h
      refine zx_icmp_ge_t (tgt := 248) dX11_begins_15 (by decide) c2 ?_
      cases h
      exact zx_vret dX11_begins_248 rfl
    · have h := it_f c2 h
      refine zx_icmp_ge_f (tgt := 248) dX11_begins_15 (by decide) c2 ?_
      refine zx_aload_n dX11_begins_18 rfl (q := 0) rfl ?_
      obtain ⟨p3, h4, h⟩ := bd_e h
      refine zx_getR hG fl_X11_74 h1 h4 dX11_begins_19 ?_
      refine zx_iload dX11_begins_22 (q := 4) rfl ?_
      obtain ⟨h5, h⟩ := ck_e h
      obtain ⟨h6, h⟩ := ck_e h
      obtain ⟨p7, h8, h⟩ := bd_e h
      refine zx_aald hG rfl (h5).1 (h5).2 (inb_e h6) h8 dX11_begins_24 ?_
      refine zx_astore (L' := [(5, .ref p7), (0, .ref a0), (1, .int x1), (2, .int x2), (3, .int x3), (4, .int x4)]) dX11_begins_25 (by decide) rfl ?_
      refine zx_aload_n dX11_begins_27 rfl (q := 1) rfl ?_
      refine zx_aload dX11_begins_28 (q := 0) rfl ?_
      obtain ⟨y9, z10, h⟩ := bd_e h
      refine zx_callV (As := [.ref p7]) hG mf_X11_codeOf cv_X11_201 h1 ⟨by decide, by decide⟩ rfl rfl (Nat.le_of_ble_eq_true rfl) (s_X11_codeOf hG _ _ _ _ z10) (Nat.le_of_ble_eq_true rfl) dX11_begins_30 ?_
      refine zx_istore (L' := [(6, .int y9), (5, .ref p7), (0, .ref a0), (1, .int x1), (2, .int x2), (3, .int x3), (4, .int x4)]) dX11_begins_33 (by decide) rfl ?_
      refine zx_aload dX11_begins_35 (q := 1) rfl ?_
      refine zx_bipush (v := 11) dX11_begins_37 iv_bipush_11 ?_
      obtain ⟨h11, h⟩ := ck_e h
      obtain ⟨h12, h⟩ := ck_e h
      refine zx_iald hG rfl (h11).1 (h11).2 (inb_e h12) dX11_begins_39 ?_
      refine zx_bipush (v := 113) dX11_begins_40 iv_bipush_113 ?_
      by_cases c13 : ¬ (mI μ p7 (Int32.toNatClampNeg 11)) = 113
      · have h := it_t c13 h
        refine zx_icmp_ne_t (tgt := 242) dX11_begins_42 (by decide) c13 ?_
        refine zx_sub (L' := [(0, .ref a0), (1, .int x1), (2, .int x2), (3, .int x3), (4, .int x4)]) [2, 3, 4, 5, 6] rfl ?_
        exact s_X11_begins_b242 hG ih _ _ _ _ _ _ _ _ h
      · have h := it_f c13 h
        refine zx_icmp_ne_f (tgt := 242) dX11_begins_42 (by decide) (Classical.not_not.mp c13) ?_
        refine zx_aload_n dX11_begins_45 rfl (q := 2) rfl ?_
        refine zx_aload dX11_begins_46 (q := 1) rfl ?_
        refine zx_iload dX11_begins_48 (q := 0) rfl ?_
        obtain ⟨y14, z15, h⟩ := bd_e h
        refine zx_callV (As := [.ref p7, .int y9]) hG mf_X11_hasOperands cv_X11_246 h1 ⟨by decide, by decide⟩ rfl rfl (Nat.le_of_ble_eq_true rfl) (s_X11_hasOperands hG _ _ _ _ _ z15) (Nat.le_of_ble_eq_true rfl) dX11_begins_50 ?_
        by_cases c16 : ¬ y14 = 0
        · have h := it_t c16 h
          refine zx_if_ne_t (tgt := 59) dX11_begins_53 (by decide) c16 ?_
          refine zx_iload dX11_begins_59 (q := 0) rfl ?_
          refine zx_iconst (v := 4) dX11_begins_61 iv_iconst_4 ?_
          by_cases c17 : ¬ y9 = 4
          · have h := it_t c17 h
            refine zx_icmp_ne_t (tgt := 82) dX11_begins_62 (by decide) c17 ?_
            refine zx_iload dX11_begins_82 (q := 0) rfl ?_
            refine zx_iconst (v := 5) dX11_begins_84 iv_iconst_5 ?_
            by_cases c18 : ¬ y9 = 5
            · have h := it_t c18 h
              refine zx_icmp_ne_t (tgt := 167) dX11_begins_85 (by decide) c18 ?_
              refine zx_iload dX11_begins_167 (q := 0) rfl ?_
              refine zx_bipush (v := 9) dX11_begins_169 iv_bipush_9 ?_
              refine zx_bipush (v := 11) dX11_begins_171 iv_bipush_11 ?_
              obtain ⟨y19, z20, h⟩ := bd_e h
              refine zx_callS (As := [.int y9, .int 9, .int 11]) hG mf_X11_in cs_X11_129 ⟨by decide, by decide⟩ rfl rfl (Nat.le_of_ble_eq_true rfl) (s_X11_in hG _ _ _ _ _ z20) (Nat.le_of_ble_eq_true rfl) dX11_begins_173 ?_
              by_cases c21 : y19 = 0
              · have h := it_t c21 h
                refine zx_if_eq_t (tgt := 227) dX11_begins_176 (by decide) c21 ?_
                refine zx_iload_n dX11_begins_227 rfl (q := 3) rfl ?_
                refine zx_iconst (v := 2) dX11_begins_228 iv_iconst_2 ?_
                by_cases c22 : 2 ≤ x1
                · have h := it_t c22 h
                  refine zx_icmp_ge_t (tgt := 242) dX11_begins_229 (by decide) c22 ?_
                  refine zx_sub (L' := [(0, .ref a0), (1, .int x1), (2, .int x2), (3, .int x3), (4, .int x4)]) [2, 3, 4, 5, 6] rfl ?_
                  exact s_X11_begins_b242 hG ih _ _ _ _ _ _ _ _ h
                · have h := it_f c22 h
                  refine zx_icmp_ge_f (tgt := 242) dX11_begins_229 (by decide) c22 ?_
                  refine zx_iinc (q := 3) (v := x1 + 1) (L' := [(1, .int (x1 + 1)), (6, .int y9), (5, .ref p7), (0, .ref a0), (2, .int x2), (3, .int x3), (4, .int x4)]) dX11_begins_232 rfl rfl (by decide) rfl ?_
                  refine zx_aload_n dX11_begins_235 rfl (q := 3) rfl ?_
                  refine zx_aload dX11_begins_236 (q := 2) rfl ?_
                  refine zx_iconst (v := 1) dX11_begins_238 iv_iconst_1 ?_
                  obtain ⟨uu23, μ25, z24, h⟩ := cl_e h
                  refine zx_callV (As := [.ref p7, .int 1]) hG mf_X11_starts cv_X11_228 h1 ⟨by decide, by decide⟩ rfl rfl (Nat.le_of_ble_eq_true rfl) (s_X11_starts hG _ _ _ _ _ _ z24) (Nat.le_of_ble_eq_true rfl) dX11_begins_239 ?_
                  refine zx_sub (L' := [(0, .ref a0), (1, .int (x1 + 1)), (2, .int x2), (3, .int x3), (4, .int x4)]) [3, 0, 4, 5, 6] rfl ?_
                  exact s_X11_begins_b242 hG ih _ _ _ _ _ _ _ _ h
              · have h := it_f c21 h
                refine zx_if_eq_f (tgt := 227) dX11_begins_176 (by decide) c21 ?_
                refine zx_iload_n dX11_begins_179 rfl (q := 5) rfl ?_
                by_cases c26 : ¬ x3 = 0
                · have h := it_t c26 h
                  refine zx_if_ne_t (tgt := 210) dX11_begins_180 (by decide) c26 ?_
                  refine zx_sub (L' := [(0, .ref a0), (1, .int x1), (2, .int x2), (3, .int x3), (4, .int x4), (5, .ref p7)]) [2, 3, 4, 5, 6, 1] rfl ?_
                  exact s_X11_begins_b210 hG ih _ _ _ _ _ _ _ _ _ h
                · have h := it_f c26 h
                  refine zx_if_ne_f (tgt := 210) dX11_begins_180 (by decide) (Classical.not_not.mp c26) ?_
                  refine zx_iload dX11_begins_183 (q := 0) rfl ?_
                  refine zx_bipush (v := 9) dX11_begins_185 iv_bipush_9 ?_
                  by_cases c27 : ¬ y9 = 9
                  · have h := it_t c27 h
                    refine zx_icmp_ne_t (tgt := 210) dX11_begins_187 (by decide) c27 ?_
                    refine zx_sub (L' := [(0, .ref a0), (1, .int x1), (2, .int x2), (3, .int x3), (4, .int x4), (5, .ref p7)]) [2, 3, 4, 5, 6, 1] rfl ?_
                    exact s_X11_begins_b210 hG ih _ _ _ _ _ _ _ _ _ h
                  · have h := it_f c27 h
                    refine zx_icmp_ne_f (tgt := 210) dX11_begins_187 (by decide) (Classical.not_not.mp c27) ?_
                    refine zx_iload_n dX11_begins_190 rfl (q := 5) rfl ?_
                    refine zx_aload_n dX11_begins_191 rfl (q := 2) rfl ?_
                    refine zx_iload dX11_begins_192 (q := 6) rfl ?_
                    obtain ⟨y28, μ30, z29, h⟩ := cl_e h
                    refine zx_callV (As := [.int x4]) hG mf_X11_loads cv_X11_250 h1 ⟨by decide, by decide⟩ rfl rfl (Nat.le_of_ble_eq_true rfl) (s_X11_loads hG _ _ _ _ _ z29) (Nat.le_of_ble_eq_true rfl) dX11_begins_194 ?_
                    by_cases c31 : y28 = 0
                    · have h := it_t c31 h
                      refine zx_if_eq_t (tgt := 204) dX11_begins_197 (by decide) c31 ?_
                      refine zx_iconst (v := 0) dX11_begins_204 iv_iconst_0 ?_
                      refine zx_sub (L' := [(0, .ref a0), (1, .int x1), (2, .int x2), (4, .int x4)]) [2, 3, 4, 6] rfl ?_
                      exact s_X11_begins_b205 hG ih _ _ _ _ _ _ _ _ _ h
                    · have h := it_f c31 h
                      refine zx_if_eq_f (tgt := 204) dX11_begins_197 (by decide) c31 ?_
                      refine zx_iconst (v := 1) dX11_begins_200 iv_iconst_1 ?_
                      refine zx_goto (tgt := 205) dX11_begins_201 (by decide) ?_
                      refine zx_sub (L' := [(0, .ref a0), (1, .int x1), (2, .int x2), (4, .int x4)]) [2, 3, 4, 6] rfl ?_
                      exact s_X11_begins_b205 hG ih _ _ _ _ _ _ _ _ _ h
            · have h := it_f c18 h
              refine zx_icmp_ne_f (tgt := 167) dX11_begins_85 (by decide) (Classical.not_not.mp c18) ?_
              refine zx_iconst (v := 0) dX11_begins_88 iv_iconst_0 ?_
              refine zx_istore (L' := [(7, .int 0), (6, .int y9), (5, .ref p7), (0, .ref a0), (1, .int x1), (2, .int x2), (3, .int x3), (4, .int x4)]) dX11_begins_89 (by decide) rfl ?_
              refine zx_iconst (v := 0) dX11_begins_91 iv_iconst_0 ?_
              refine zx_istore (L' := [(8, .int 0), (7, .int 0), (6, .int y9), (5, .ref p7), (0, .ref a0), (1, .int x1), (2, .int x2), (3, .int x3), (4, .int x4)]) dX11_begins_92 (by decide) rfl ?_
              refine zx_sub (L' := [(0, .ref a0), (1, .int x1), (2, .int x2), (3, .int x3), (4, .int x4), (5, .ref p7), (7, .int 0), (8, .int 0)]) [4, 5, 6, 7, 8, 3, 1, 0] rfl ?_
              exact s_X11_begins_b94 hG ih 5000 _ _ _ _ _ _ _ _ _ _ _ h
          · have h := it_f c17 h
            refine zx_icmp_ne_f (tgt := 82) dX11_begins_62 (by decide) (Classical.not_not.mp c17) ?_
            refine zx_iload_n dX11_begins_65 rfl (q := 4) rfl ?_
            by_cases c32 : ¬ x2 = 0
            · have h := it_t c32 h
              refine zx_if_ne_t (tgt := 242) dX11_begins_66 (by decide) c32 ?_
              refine zx_sub (L' := [(0, .ref a0), (1, .int x1), (2, .int x2), (3, .int x3), (4, .int x4)]) [2, 3, 4, 5, 6] rfl ?_
              exact s_X11_begins_b242 hG ih _ _ _ _ _ _ _ _ h
            · have h := it_f c32 h
              refine zx_if_ne_f (tgt := 242) dX11_begins_66 (by decide) (Classical.not_not.mp c32) ?_
              refine zx_iinc (q := 4) (v := x2 + 1) (L' := [(2, .int (x2 + 1)), (6, .int y9), (5, .ref p7), (0, .ref a0), (1, .int x1), (3, .int x3), (4, .int x4)]) dX11_begins_69 rfl rfl (by decide) rfl ?_
              refine zx_aload_n dX11_begins_72 rfl (q := 3) rfl ?_
              refine zx_aload dX11_begins_73 (q := 2) rfl ?_
              refine zx_iconst (v := 3) dX11_begins_75 iv_iconst_3 ?_
              obtain ⟨uu33, μ35, z34, h⟩ := cl_e h
              refine zx_callV (As := [.ref p7, .int 3]) hG mf_X11_starts cv_X11_228 h1 ⟨by decide, by decide⟩ rfl rfl (Nat.le_of_ble_eq_true rfl) (s_X11_starts hG _ _ _ _ _ _ z34) (Nat.le_of_ble_eq_true rfl) dX11_begins_76 ?_
              refine zx_goto (tgt := 242) dX11_begins_79 (by decide) ?_
              refine zx_sub (L' := [(0, .ref a0), (1, .int x1), (2, .int (x2 + 1)), (3, .int x3), (4, .int x4)]) [3, 4, 0, 5, 6] rfl ?_
              exact s_X11_begins_b242 hG ih _ _ _ _ _ _ _ _ h
        · have h := it_f c16 h
          refine zx_if_ne_f (tgt := 59) dX11_begins_53 (by decide) (Classical.not_not.mp c16) ?_
          refine zx_goto (tgt := 242) dX11_begins_56 (by decide) ?_
          refine zx_sub (L' := [(0, .ref a0), (1, .int x1), (2, .int x2), (3, .int x3), (4, .int x4)]) [2, 3, 4, 5, 6] rfl ?_
          exact s_X11_begins_b242 hG ih _ _ _ _ _ _ _ _ h
set_option maxRecDepth 100000 in
theorem s_X11_begins {l : Launch} {G : Gt} (hG : Gok l G) (a0 : Nat) (μ : Mm) (r : Unit) (μ' : Mm) (h : f_X11_begins a0 μ = some (r, μ')) : ZX l G mX11_begins 0 [(0, .ref a0)] [] μ (.inl none) μ' := by
  unfold f_X11_begins at h
  refine zx_iconst (v := 0) dX11_begins_0 iv_iconst_0 ?_
  refine zx_istore_n (L' := [(1, .int 0), (0, .ref a0)]) dX11_begins_1 rfl (by decide) rfl ?_
  refine zx_iconst (v := 0) dX11_begins_2 iv_iconst_0 ?_
  refine zx_istore_n (L' := [(2, .int 0), (1, .int 0), (0, .ref a0)]) dX11_begins_3 rfl (by decide) rfl ?_
  refine zx_iconst (v := 0) dX11_begins_4 iv_iconst_0 ?_
  refine zx_istore_n (L' := [(3, .int 0), (2, .int 0), (1, .int 0), (0, .ref a0)]) dX11_begins_5 rfl (by decide) rfl ?_
  refine zx_iconst (v := 0) dX11_begins_6 iv_iconst_0 ?_
  refine zx_istore (L' := [(4, .int 0), (3, .int 0), (2, .int 0), (1, .int 0), (0, .ref a0)]) dX11_begins_7 (by decide) rfl ?_
  refine zx_sub (L' := [(0, .ref a0), (1, .int 0), (2, .int 0), (3, .int 0), (4, .int 0)]) [4, 3, 2, 1, 0] rfl ?_
  exact s_X11_begins_b9 hG 5000 _ _ _ _ _ _ _ _ h
