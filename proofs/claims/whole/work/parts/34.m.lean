theorem dX11_plain_0 : decode cX11_plain 0 = .ok (.iconst 0, 1) := by decide +kernel
theorem dX11_plain_1 : decode cX11_plain 1 = .ok (.istore_n 2, 1) := by decide +kernel
theorem dX11_plain_2 : decode cX11_plain 2 = .ok (.iload_n 2, 1) := by decide +kernel
theorem dX11_plain_3 : decode cX11_plain 3 = .ok (.bipush 8, 2) := by decide +kernel
theorem dX11_plain_5 : decode cX11_plain 5 = .ok (.if_icmp .ge 21, 3) := by decide +kernel
theorem dX11_plain_8 : decode cX11_plain 8 = .ok (.aload_n 0, 1) := by decide +kernel
theorem dX11_plain_9 : decode cX11_plain 9 = .ok (.getfield 114, 3) := by decide +kernel
theorem dX11_plain_12 : decode cX11_plain 12 = .ok (.iload_n 2, 1) := by decide +kernel
theorem dX11_plain_13 : decode cX11_plain 13 = .ok (.aload_n 0, 1) := by decide +kernel
theorem dX11_plain_14 : decode cX11_plain 14 = .ok (.getfield 44, 3) := by decide +kernel
theorem dX11_plain_17 : decode cX11_plain 17 = .ok (.iload_n 2, 1) := by decide +kernel
theorem dX11_plain_18 : decode cX11_plain 18 = .ok (.iaload, 1) := by decide +kernel
theorem dX11_plain_19 : decode cX11_plain 19 = .ok (.iastore, 1) := by decide +kernel
theorem dX11_plain_20 : decode cX11_plain 20 = .ok (.iinc 2 1, 3) := by decide +kernel
theorem dX11_plain_23 : decode cX11_plain 23 = .ok (.goto (-21), 3) := by decide +kernel
theorem dX11_plain_26 : decode cX11_plain 26 = .ok (.iconst 0, 1) := by decide +kernel
theorem dX11_plain_27 : decode cX11_plain 27 = .ok (.istore_n 2, 1) := by decide +kernel
theorem dX11_plain_28 : decode cX11_plain 28 = .ok (.iload_n 2, 1) := by decide +kernel
theorem dX11_plain_29 : decode cX11_plain 29 = .ok (.bipush 64, 2) := by decide +kernel
theorem dX11_plain_31 : decode cX11_plain 31 = .ok (.if_icmp .ge 21, 3) := by decide +kernel
theorem dX11_plain_34 : decode cX11_plain 34 = .ok (.aload_n 0, 1) := by decide +kernel
theorem dX11_plain_35 : decode cX11_plain 35 = .ok (.getfield 117, 3) := by decide +kernel
theorem dX11_plain_38 : decode cX11_plain 38 = .ok (.iload_n 2, 1) := by decide +kernel
theorem dX11_plain_39 : decode cX11_plain 39 = .ok (.aload_n 0, 1) := by decide +kernel
theorem dX11_plain_40 : decode cX11_plain 40 = .ok (.getfield 47, 3) := by decide +kernel
theorem dX11_plain_43 : decode cX11_plain 43 = .ok (.iload_n 2, 1) := by decide +kernel
theorem dX11_plain_44 : decode cX11_plain 44 = .ok (.iaload, 1) := by decide +kernel
theorem dX11_plain_45 : decode cX11_plain 45 = .ok (.iastore, 1) := by decide +kernel
theorem dX11_plain_46 : decode cX11_plain 46 = .ok (.iinc 2 1, 3) := by decide +kernel
theorem dX11_plain_49 : decode cX11_plain 49 = .ok (.goto (-21), 3) := by decide +kernel
theorem dX11_plain_52 : decode cX11_plain 52 = .ok (.aload_n 0, 1) := by decide +kernel
theorem dX11_plain_53 : decode cX11_plain 53 = .ok (.iconst 0, 1) := by decide +kernel
theorem dX11_plain_54 : decode cX11_plain 54 = .ok (.putfield 337, 3) := by decide +kernel
theorem dX11_plain_57 : decode cX11_plain 57 = .ok (.aload_n 0, 1) := by decide +kernel
theorem dX11_plain_58 : decode cX11_plain 58 = .ok (.iconst 0, 1) := by decide +kernel
theorem dX11_plain_59 : decode cX11_plain 59 = .ok (.putfield 334, 3) := by decide +kernel
theorem dX11_plain_62 : decode cX11_plain 62 = .ok (.aload_n 0, 1) := by decide +kernel
theorem dX11_plain_63 : decode cX11_plain 63 = .ok (.iconst 0, 1) := by decide +kernel
theorem dX11_plain_64 : decode cX11_plain 64 = .ok (.putfield 340, 3) := by decide +kernel
theorem dX11_plain_67 : decode cX11_plain 67 = .ok (.iconst 2, 1) := by decide +kernel
theorem dX11_plain_68 : decode cX11_plain 68 = .ok (.newarray .int, 2) := by decide +kernel
theorem dX11_plain_70 : decode cX11_plain 70 = .ok (.astore_n 2, 1) := by decide +kernel
theorem dX11_plain_71 : decode cX11_plain 71 = .ok (.iconst 0, 1) := by decide +kernel
theorem dX11_plain_72 : decode cX11_plain 72 = .ok (.istore_n 3, 1) := by decide +kernel
theorem dX11_plain_73 : decode cX11_plain 73 = .ok (.iload_n 3, 1) := by decide +kernel
theorem dX11_plain_74 : decode cX11_plain 74 = .ok (.iload_n 1, 1) := by decide +kernel
theorem dX11_plain_75 : decode cX11_plain 75 = .ok (.if_icmp .ge 149, 3) := by decide +kernel
theorem dX11_plain_78 : decode cX11_plain 78 = .ok (.aload_n 0, 1) := by decide +kernel
theorem dX11_plain_79 : decode cX11_plain 79 = .ok (.getfield 337, 3) := by decide +kernel
theorem dX11_plain_82 : decode cX11_plain 82 = .ok (.istore 4, 2) := by decide +kernel
theorem dX11_plain_84 : decode cX11_plain 84 = .ok (.aload_n 2, 1) := by decide +kernel
theorem dX11_plain_85 : decode cX11_plain 85 = .ok (.iconst 1, 1) := by decide +kernel
theorem dX11_plain_86 : decode cX11_plain 86 = .ok (.iload 4, 2) := by decide +kernel
theorem dX11_plain_88 : decode cX11_plain 88 = .ok (.iastore, 1) := by decide +kernel
theorem dX11_plain_89 : decode cX11_plain 89 = .ok (.aload_n 0, 1) := by decide +kernel
theorem dX11_plain_90 : decode cX11_plain 90 = .ok (.getfield 101, 3) := by decide +kernel
theorem dX11_plain_93 : decode cX11_plain 93 = .ok (.iload_n 3, 1) := by decide +kernel
theorem dX11_plain_94 : decode cX11_plain 94 = .ok (.iaload, 1) := by decide +kernel
theorem dX11_plain_95 : decode cX11_plain 95 = .ok (.bipush 9, 2) := by decide +kernel
theorem dX11_plain_97 : decode cX11_plain 97 = .ok (.if_icmp .ne 30, 3) := by decide +kernel
theorem dX11_plain_100 : decode cX11_plain 100 = .ok (.aload_n 2, 1) := by decide +kernel
theorem dX11_plain_101 : decode cX11_plain 101 = .ok (.iconst 0, 1) := by decide +kernel
theorem dX11_plain_102 : decode cX11_plain 102 = .ok (.bipush 9, 2) := by decide +kernel
theorem dX11_plain_104 : decode cX11_plain 104 = .ok (.iastore, 1) := by decide +kernel
theorem dX11_plain_105 : decode cX11_plain 105 = .ok (.aload_n 0, 1) := by decide +kernel
theorem dX11_plain_106 : decode cX11_plain 106 = .ok (.iload 4, 2) := by decide +kernel
theorem dX11_plain_108 : decode cX11_plain 108 = .ok (.putfield 343, 3) := by decide +kernel
theorem dX11_plain_111 : decode cX11_plain 111 = .ok (.aload_n 0, 1) := by decide +kernel
theorem dX11_plain_112 : decode cX11_plain 112 = .ok (.iconst 1, 1) := by decide +kernel
theorem dX11_plain_113 : decode cX11_plain 113 = .ok (.putfield 334, 3) := by decide +kernel
theorem dX11_plain_116 : decode cX11_plain 116 = .ok (.aload_n 0, 1) := by decide +kernel
theorem dX11_plain_117 : decode cX11_plain 117 = .ok (.aload_n 0, 1) := by decide +kernel
theorem dX11_plain_118 : decode cX11_plain 118 = .ok (.getfield 41, 3) := by decide +kernel
theorem dX11_plain_121 : decode cX11_plain 121 = .ok (.putfield 337, 3) := by decide +kernel
theorem dX11_plain_124 : decode cX11_plain 124 = .ok (.goto 94, 3) := by decide +kernel
theorem dX11_plain_127 : decode cX11_plain 127 = .ok (.iload 4, 2) := by decide +kernel
theorem dX11_plain_129 : decode cX11_plain 129 = .ok (.aload_n 0, 1) := by decide +kernel
theorem dX11_plain_130 : decode cX11_plain 130 = .ok (.getfield 136, 3) := by decide +kernel
theorem dX11_plain_133 : decode cX11_plain 133 = .ok (.if_icmp .ge 10, 3) := by decide +kernel
theorem dX11_plain_136 : decode cX11_plain 136 = .ok (.aload_n 0, 1) := by decide +kernel
theorem dX11_plain_137 : decode cX11_plain 137 = .ok (.getfield 340, 3) := by decide +kernel
theorem dX11_plain_140 : decode cX11_plain 140 = .ok (.ifCond .eq 10, 3) := by decide +kernel
theorem dX11_plain_143 : decode cX11_plain 143 = .ok (.aload_n 2, 1) := by decide +kernel
theorem dX11_plain_144 : decode cX11_plain 144 = .ok (.iconst 0, 1) := by decide +kernel
theorem dX11_plain_145 : decode cX11_plain 145 = .ok (.iconst (-1), 1) := by decide +kernel
theorem dX11_plain_146 : decode cX11_plain 146 = .ok (.iastore, 1) := by decide +kernel
theorem dX11_plain_147 : decode cX11_plain 147 = .ok (.goto 71, 3) := by decide +kernel
theorem dX11_plain_150 : decode cX11_plain 150 = .ok (.aload_n 2, 1) := by decide +kernel
theorem dX11_plain_151 : decode cX11_plain 151 = .ok (.iconst 0, 1) := by decide +kernel
theorem dX11_plain_152 : decode cX11_plain 152 = .ok (.aload_n 0, 1) := by decide +kernel
theorem dX11_plain_153 : decode cX11_plain 153 = .ok (.iload 4, 2) := by decide +kernel
theorem dX11_plain_155 : decode cX11_plain 155 = .ok (.invokevirtual 346, 3) := by decide +kernel
theorem dX11_plain_158 : decode cX11_plain 158 = .ok (.iastore, 1) := by decide +kernel
theorem dX11_plain_159 : decode cX11_plain 159 = .ok (.aload_n 2, 1) := by decide +kernel
theorem dX11_plain_160 : decode cX11_plain 160 = .ok (.iconst 0, 1) := by decide +kernel
theorem dX11_plain_161 : decode cX11_plain 161 = .ok (.iaload, 1) := by decide +kernel
theorem dX11_plain_162 : decode cX11_plain 162 = .ok (.ifCond .ne 12, 3) := by decide +kernel
theorem dX11_plain_165 : decode cX11_plain 165 = .ok (.aload_n 0, 1) := by decide +kernel
theorem dX11_plain_166 : decode cX11_plain 166 = .ok (.iload 4, 2) := by decide +kernel
theorem dX11_plain_168 : decode cX11_plain 168 = .ok (.invokevirtual 349, 3) := by decide +kernel
theorem dX11_plain_171 : decode cX11_plain 171 = .ok (.goto 47, 3) := by decide +kernel
theorem dX11_plain_174 : decode cX11_plain 174 = .ok (.aload_n 0, 1) := by decide +kernel
theorem dX11_plain_175 : decode cX11_plain 175 = .ok (.getfield 334, 3) := by decide +kernel
theorem dX11_plain_178 : decode cX11_plain 178 = .ok (.ifCond .ne 11, 3) := by decide +kernel
theorem dX11_plain_181 : decode cX11_plain 181 = .ok (.aload_n 0, 1) := by decide +kernel
theorem dX11_plain_182 : decode cX11_plain 182 = .ok (.getfield 38, 3) := by decide +kernel
theorem dX11_plain_185 : decode cX11_plain 185 = .ok (.iconst (-1), 1) := by decide +kernel
theorem dX11_plain_186 : decode cX11_plain 186 = .ok (.if_icmp .ne 11, 3) := by decide +kernel
theorem dX11_plain_189 : decode cX11_plain 189 = .ok (.aload_n 0, 1) := by decide +kernel
theorem dX11_plain_190 : decode cX11_plain 190 = .ok (.iconst 1, 1) := by decide +kernel
theorem dX11_plain_191 : decode cX11_plain 191 = .ok (.putfield 340, 3) := by decide +kernel
theorem dX11_plain_194 : decode cX11_plain 194 = .ok (.goto 24, 3) := by decide +kernel
theorem dX11_plain_197 : decode cX11_plain 197 = .ok (.aload_n 0, 1) := by decide +kernel
theorem dX11_plain_198 : decode cX11_plain 198 = .ok (.iload 4, 2) := by decide +kernel
theorem dX11_plain_200 : decode cX11_plain 200 = .ok (.iconst 1, 1) := by decide +kernel
theorem dX11_plain_201 : decode cX11_plain 201 = .ok (.iadd, 1) := by decide +kernel
theorem dX11_plain_202 : decode cX11_plain 202 = .ok (.putfield 343, 3) := by decide +kernel
theorem dX11_plain_205 : decode cX11_plain 205 = .ok (.aload_n 0, 1) := by decide +kernel
theorem dX11_plain_206 : decode cX11_plain 206 = .ok (.iconst 1, 1) := by decide +kernel
theorem dX11_plain_207 : decode cX11_plain 207 = .ok (.putfield 334, 3) := by decide +kernel
theorem dX11_plain_210 : decode cX11_plain 210 = .ok (.aload_n 0, 1) := by decide +kernel
theorem dX11_plain_211 : decode cX11_plain 211 = .ok (.aload_n 0, 1) := by decide +kernel
theorem dX11_plain_212 : decode cX11_plain 212 = .ok (.getfield 38, 3) := by decide +kernel
theorem dX11_plain_215 : decode cX11_plain 215 = .ok (.putfield 337, 3) := by decide +kernel
theorem dX11_plain_218 : decode cX11_plain 218 = .ok (.iinc 3 1, 3) := by decide +kernel
theorem dX11_plain_221 : decode cX11_plain 221 = .ok (.goto (-148), 3) := by decide +kernel
theorem dX11_plain_224 : decode cX11_plain 224 = .ok (.aload_n 2, 1) := by decide +kernel
theorem dX11_plain_225 : decode cX11_plain 225 = .ok (.areturn, 1) := by decide +kernel
theorem dX11_kindByPlain_0 : decode cX11_kindByPlain 0 = .ok (.aload_n 0, 1) := by decide +kernel
theorem dX11_kindByPlain_1 : decode cX11_kindByPlain 1 = .ok (.iload_n 1, 1) := by decide +kernel
theorem dX11_kindByPlain_2 : decode cX11_kindByPlain 2 = .ok (.invokevirtual 328, 3) := by decide +kernel
theorem dX11_kindByPlain_5 : decode cX11_kindByPlain 5 = .ok (.ifCond .eq 7, 3) := by decide +kernel
theorem dX11_kindByPlain_8 : decode cX11_kindByPlain 8 = .ok (.iconst 0, 1) := by decide +kernel
theorem dX11_kindByPlain_9 : decode cX11_kindByPlain 9 = .ok (.goto 12, 3) := by decide +kernel
theorem dX11_kindByPlain_12 : decode cX11_kindByPlain 12 = .ok (.aload_n 0, 1) := by decide +kernel
theorem dX11_kindByPlain_13 : decode cX11_kindByPlain 13 = .ok (.iload_n 1, 1) := by decide +kernel
theorem dX11_kindByPlain_14 : decode cX11_kindByPlain 14 = .ok (.iconst 1, 1) := by decide +kernel
theorem dX11_kindByPlain_15 : decode cX11_kindByPlain 15 = .ok (.iadd, 1) := by decide +kernel
theorem dX11_kindByPlain_16 : decode cX11_kindByPlain 16 = .ok (.invokevirtual 352, 3) := by decide +kernel
theorem dX11_kindByPlain_19 : decode cX11_kindByPlain 19 = .ok (.iconst 0, 1) := by decide +kernel
theorem dX11_kindByPlain_20 : decode cX11_kindByPlain 20 = .ok (.iaload, 1) := by decide +kernel
theorem dX11_kindByPlain_21 : decode cX11_kindByPlain 21 = .ok (.ireturn, 1) := by decide +kernel
theorem dX11_placeByPlain_0 : decode cX11_placeByPlain 0 = .ok (.aload_n 0, 1) := by decide +kernel
theorem dX11_placeByPlain_1 : decode cX11_placeByPlain 1 = .ok (.iload_n 1, 1) := by decide +kernel
theorem dX11_placeByPlain_2 : decode cX11_placeByPlain 2 = .ok (.invokevirtual 328, 3) := by decide +kernel
theorem dX11_placeByPlain_5 : decode cX11_placeByPlain 5 = .ok (.ifCond .eq 7, 3) := by decide +kernel
theorem dX11_placeByPlain_8 : decode cX11_placeByPlain 8 = .ok (.iconst 0, 1) := by decide +kernel
theorem dX11_placeByPlain_9 : decode cX11_placeByPlain 9 = .ok (.goto 12, 3) := by decide +kernel
theorem dX11_placeByPlain_12 : decode cX11_placeByPlain 12 = .ok (.aload_n 0, 1) := by decide +kernel
theorem dX11_placeByPlain_13 : decode cX11_placeByPlain 13 = .ok (.iload_n 1, 1) := by decide +kernel
theorem dX11_placeByPlain_14 : decode cX11_placeByPlain 14 = .ok (.iconst 1, 1) := by decide +kernel
theorem dX11_placeByPlain_15 : decode cX11_placeByPlain 15 = .ok (.iadd, 1) := by decide +kernel
theorem dX11_placeByPlain_16 : decode cX11_placeByPlain 16 = .ok (.invokevirtual 352, 3) := by decide +kernel
theorem dX11_placeByPlain_19 : decode cX11_placeByPlain 19 = .ok (.iconst 1, 1) := by decide +kernel
theorem dX11_placeByPlain_20 : decode cX11_placeByPlain 20 = .ok (.iaload, 1) := by decide +kernel
theorem dX11_placeByPlain_21 : decode cX11_placeByPlain 21 = .ok (.ireturn, 1) := by decide +kernel
theorem dX11_register_0 : decode cX11_register 0 = .ok (.aload_n 0, 1) := by decide +kernel
theorem dX11_register_1 : decode cX11_register 1 = .ok (.iload_n 1, 1) := by decide +kernel
theorem dX11_register_2 : decode cX11_register 2 = .ok (.iconst 0, 1) := by decide +kernel
theorem dX11_register_3 : decode cX11_register 3 = .ok (.bipush 7, 2) := by decide +kernel
theorem dX11_register_5 : decode cX11_register 5 = .ok (.invokestatic 129, 3) := by decide +kernel
theorem dX11_register_8 : decode cX11_register 8 = .ok (.ifCond .eq 7, 3) := by decide +kernel
theorem dX11_register_11 : decode cX11_register 11 = .ok (.iconst 0, 1) := by decide +kernel
theorem dX11_register_12 : decode cX11_register 12 = .ok (.goto 4, 3) := by decide +kernel
theorem dX11_register_15 : decode cX11_register 15 = .ok (.iconst 1, 1) := by decide +kernel
theorem dX11_register_16 : decode cX11_register 16 = .ok (.putfield 123, 3) := by decide +kernel
theorem dX11_register_19 : decode cX11_register 19 = .ok (.aload_n 0, 1) := by decide +kernel
theorem dX11_register_20 : decode cX11_register 20 = .ok (.getfield 123, 3) := by decide +kernel
theorem dX11_register_23 : decode cX11_register 23 = .ok (.ifCond .le 7, 3) := by decide +kernel
theorem dX11_register_26 : decode cX11_register 26 = .ok (.iconst 0, 1) := by decide +kernel
theorem dX11_register_27 : decode cX11_register 27 = .ok (.goto 14, 3) := by decide +kernel
theorem dX11_register_30 : decode cX11_register 30 = .ok (.aload_n 0, 1) := by decide +kernel
theorem dX11_register_31 : decode cX11_register 31 = .ok (.getfield 62, 3) := by decide +kernel
theorem dX11_register_34 : decode cX11_register 34 = .ok (.aload_n 0, 1) := by decide +kernel
theorem dX11_register_35 : decode cX11_register 35 = .ok (.getfield 59, 3) := by decide +kernel
theorem dX11_register_38 : decode cX11_register 38 = .ok (.iload_n 1, 1) := by decide +kernel
theorem dX11_register_39 : decode cX11_register 39 = .ok (.iaload, 1) := by decide +kernel
theorem dX11_register_40 : decode cX11_register 40 = .ok (.iaload, 1) := by decide +kernel
theorem dX11_register_41 : decode cX11_register 41 = .ok (.ireturn, 1) := by decide +kernel
theorem dX11_registerByPlain_0 : decode cX11_registerByPlain 0 = .ok (.aload_n 0, 1) := by decide +kernel
theorem dX11_registerByPlain_1 : decode cX11_registerByPlain 1 = .ok (.iload_n 1, 1) := by decide +kernel
theorem dX11_registerByPlain_2 : decode cX11_registerByPlain 2 = .ok (.iconst 0, 1) := by decide +kernel
theorem dX11_registerByPlain_3 : decode cX11_registerByPlain 3 = .ok (.bipush 7, 2) := by decide +kernel
theorem dX11_registerByPlain_5 : decode cX11_registerByPlain 5 = .ok (.invokestatic 129, 3) := by decide +kernel
theorem dX11_registerByPlain_8 : decode cX11_registerByPlain 8 = .ok (.ifCond .eq 7, 3) := by decide +kernel
theorem dX11_registerByPlain_11 : decode cX11_registerByPlain 11 = .ok (.iconst 0, 1) := by decide +kernel
theorem dX11_registerByPlain_12 : decode cX11_registerByPlain 12 = .ok (.goto 4, 3) := by decide +kernel
theorem dX11_registerByPlain_15 : decode cX11_registerByPlain 15 = .ok (.iconst 1, 1) := by decide +kernel
theorem dX11_registerByPlain_16 : decode cX11_registerByPlain 16 = .ok (.putfield 123, 3) := by decide +kernel
theorem dX11_registerByPlain_19 : decode cX11_registerByPlain 19 = .ok (.aload_n 0, 1) := by decide +kernel
theorem dX11_registerByPlain_20 : decode cX11_registerByPlain 20 = .ok (.aload_n 0, 1) := by decide +kernel
theorem dX11_registerByPlain_21 : decode cX11_registerByPlain 21 = .ok (.getfield 150, 3) := by decide +kernel
theorem dX11_registerByPlain_24 : decode cX11_registerByPlain 24 = .ok (.invokevirtual 352, 3) := by decide +kernel
theorem dX11_registerByPlain_27 : decode cX11_registerByPlain 27 = .ok (.astore_n 2, 1) := by decide +kernel
theorem dX11_registerByPlain_28 : decode cX11_registerByPlain 28 = .ok (.aload_n 0, 1) := by decide +kernel
theorem dX11_registerByPlain_29 : decode cX11_registerByPlain 29 = .ok (.getfield 123, 3) := by decide +kernel
theorem dX11_registerByPlain_32 : decode cX11_registerByPlain 32 = .ok (.ifCond .gt 8, 3) := by decide +kernel
theorem dX11_registerByPlain_35 : decode cX11_registerByPlain 35 = .ok (.aload_n 2, 1) := by decide +kernel
theorem dX11_registerByPlain_36 : decode cX11_registerByPlain 36 = .ok (.arraylength, 1) := by decide +kernel
theorem dX11_registerByPlain_37 : decode cX11_registerByPlain 37 = .ok (.ifCond .ne 7, 3) := by decide +kernel
theorem dX11_registerByPlain_40 : decode cX11_registerByPlain 40 = .ok (.iconst 0, 1) := by decide +kernel
theorem dX11_registerByPlain_41 : decode cX11_registerByPlain 41 = .ok (.goto 9, 3) := by decide +kernel
theorem dX11_registerByPlain_44 : decode cX11_registerByPlain 44 = .ok (.aload_n 0, 1) := by decide +kernel
theorem dX11_registerByPlain_45 : decode cX11_registerByPlain 45 = .ok (.getfield 114, 3) := by decide +kernel
theorem dX11_registerByPlain_48 : decode cX11_registerByPlain 48 = .ok (.iload_n 1, 1) := by decide +kernel
theorem dX11_registerByPlain_49 : decode cX11_registerByPlain 49 = .ok (.iaload, 1) := by decide +kernel
theorem dX11_registerByPlain_50 : decode cX11_registerByPlain 50 = .ok (.ireturn, 1) := by decide +kernel
theorem dX11_word_0 : decode cX11_word 0 = .ok (.aload_n 0, 1) := by decide +kernel
theorem dX11_word_1 : decode cX11_word 1 = .ok (.iload_n 1, 1) := by decide +kernel
theorem dX11_word_2 : decode cX11_word 2 = .ok (.invokestatic 225, 3) := by decide +kernel
theorem dX11_word_5 : decode cX11_word 5 = .ok (.ifCond .eq 7, 3) := by decide +kernel
theorem dX11_word_8 : decode cX11_word 8 = .ok (.iconst 0, 1) := by decide +kernel
theorem dX11_word_9 : decode cX11_word 9 = .ok (.goto 4, 3) := by decide +kernel
theorem dX11_word_12 : decode cX11_word 12 = .ok (.iconst 1, 1) := by decide +kernel
theorem dX11_word_13 : decode cX11_word 13 = .ok (.putfield 123, 3) := by decide +kernel
theorem dX11_word_16 : decode cX11_word 16 = .ok (.aload_n 0, 1) := by decide +kernel
theorem dX11_word_17 : decode cX11_word 17 = .ok (.getfield 123, 3) := by decide +kernel
theorem dX11_word_20 : decode cX11_word 20 = .ok (.ifCond .le 7, 3) := by decide +kernel
theorem dX11_word_23 : decode cX11_word 23 = .ok (.iconst 0, 1) := by decide +kernel
theorem dX11_word_24 : decode cX11_word 24 = .ok (.goto 9, 3) := by decide +kernel
theorem dX11_word_27 : decode cX11_word 27 = .ok (.aload_n 0, 1) := by decide +kernel
theorem dX11_word_28 : decode cX11_word 28 = .ok (.getfield 53, 3) := by decide +kernel
theorem dX11_word_31 : decode cX11_word 31 = .ok (.iload_n 1, 1) := by decide +kernel
theorem dX11_word_32 : decode cX11_word 32 = .ok (.iaload, 1) := by decide +kernel
theorem dX11_word_33 : decode cX11_word 33 = .ok (.ireturn, 1) := by decide +kernel
theorem dX11_wordByPlain_0 : decode cX11_wordByPlain 0 = .ok (.aload_n 0, 1) := by decide +kernel
theorem dX11_wordByPlain_1 : decode cX11_wordByPlain 1 = .ok (.iload_n 1, 1) := by decide +kernel
theorem dX11_wordByPlain_2 : decode cX11_wordByPlain 2 = .ok (.invokestatic 225, 3) := by decide +kernel
theorem dX11_wordByPlain_5 : decode cX11_wordByPlain 5 = .ok (.ifCond .eq 7, 3) := by decide +kernel
theorem dX11_wordByPlain_8 : decode cX11_wordByPlain 8 = .ok (.iconst 0, 1) := by decide +kernel
theorem dX11_wordByPlain_9 : decode cX11_wordByPlain 9 = .ok (.goto 4, 3) := by decide +kernel
theorem dX11_wordByPlain_12 : decode cX11_wordByPlain 12 = .ok (.iconst 1, 1) := by decide +kernel
theorem dX11_wordByPlain_13 : decode cX11_wordByPlain 13 = .ok (.putfield 123, 3) := by decide +kernel
theorem dX11_wordByPlain_16 : decode cX11_wordByPlain 16 = .ok (.aload_n 0, 1) := by decide +kernel
theorem dX11_wordByPlain_17 : decode cX11_wordByPlain 17 = .ok (.aload_n 0, 1) := by decide +kernel
theorem dX11_wordByPlain_18 : decode cX11_wordByPlain 18 = .ok (.getfield 150, 3) := by decide +kernel
theorem dX11_wordByPlain_21 : decode cX11_wordByPlain 21 = .ok (.invokevirtual 352, 3) := by decide +kernel
theorem dX11_wordByPlain_24 : decode cX11_wordByPlain 24 = .ok (.astore_n 2, 1) := by decide +kernel
theorem dX11_wordByPlain_25 : decode cX11_wordByPlain 25 = .ok (.aload_n 0, 1) := by decide +kernel
theorem dX11_wordByPlain_26 : decode cX11_wordByPlain 26 = .ok (.getfield 123, 3) := by decide +kernel
theorem dX11_wordByPlain_29 : decode cX11_wordByPlain 29 = .ok (.ifCond .gt 8, 3) := by decide +kernel
theorem dX11_wordByPlain_32 : decode cX11_wordByPlain 32 = .ok (.aload_n 2, 1) := by decide +kernel
theorem dX11_wordByPlain_33 : decode cX11_wordByPlain 33 = .ok (.arraylength, 1) := by decide +kernel
theorem dX11_wordByPlain_34 : decode cX11_wordByPlain 34 = .ok (.ifCond .ne 7, 3) := by decide +kernel
theorem dX11_wordByPlain_37 : decode cX11_wordByPlain 37 = .ok (.iconst 0, 1) := by decide +kernel
theorem dX11_wordByPlain_38 : decode cX11_wordByPlain 38 = .ok (.goto 9, 3) := by decide +kernel
theorem dX11_wordByPlain_41 : decode cX11_wordByPlain 41 = .ok (.aload_n 0, 1) := by decide +kernel
theorem dX11_wordByPlain_42 : decode cX11_wordByPlain 42 = .ok (.getfield 117, 3) := by decide +kernel
theorem dX11_wordByPlain_45 : decode cX11_wordByPlain 45 = .ok (.iload_n 1, 1) := by decide +kernel
theorem dX11_wordByPlain_46 : decode cX11_wordByPlain 46 = .ok (.iaload, 1) := by decide +kernel
theorem dX11_wordByPlain_47 : decode cX11_wordByPlain 47 = .ok (.ireturn, 1) := by decide +kernel
theorem dX11_kept_0 : decode cX11_kept 0 = .ok (.aload_n 0, 1) := by decide +kernel
theorem dX11_kept_1 : decode cX11_kept 1 = .ok (.aload_n 0, 1) := by decide +kernel
theorem dX11_kept_2 : decode cX11_kept 2 = .ok (.getfield 291, 3) := by decide +kernel
theorem dX11_kept_5 : decode cX11_kept 5 = .ok (.ifCond .eq 7, 3) := by decide +kernel
theorem dX11_kept_8 : decode cX11_kept 8 = .ok (.iconst 0, 1) := by decide +kernel
theorem dX11_kept_9 : decode cX11_kept 9 = .ok (.goto 4, 3) := by decide +kernel
theorem dX11_kept_12 : decode cX11_kept 12 = .ok (.iconst 1, 1) := by decide +kernel
theorem dX11_kept_13 : decode cX11_kept 13 = .ok (.putfield 123, 3) := by decide +kernel
theorem dX11_kept_16 : decode cX11_kept 16 = .ok (.aload_n 0, 1) := by decide +kernel
theorem dX11_kept_17 : decode cX11_kept 17 = .ok (.getfield 123, 3) := by decide +kernel
theorem dX11_kept_20 : decode cX11_kept 20 = .ok (.ifCond .le 7, 3) := by decide +kernel
theorem dX11_kept_23 : decode cX11_kept 23 = .ok (.iconst 0, 1) := by decide +kernel
theorem dX11_kept_24 : decode cX11_kept 24 = .ok (.goto 7, 3) := by decide +kernel
theorem dX11_kept_27 : decode cX11_kept 27 = .ok (.aload_n 0, 1) := by decide +kernel
theorem dX11_kept_28 : decode cX11_kept 28 = .ok (.getfield 288, 3) := by decide +kernel
theorem dX11_kept_31 : decode cX11_kept 31 = .ok (.ireturn, 1) := by decide +kernel
theorem dX11_life_0 : decode cX11_life 0 = .ok (.aload_n 0, 1) := by decide +kernel
theorem dX11_life_1 : decode cX11_life 1 = .ok (.iload_n 1, 1) := by decide +kernel
theorem dX11_life_2 : decode cX11_life 2 = .ok (.invokevirtual 328, 3) := by decide +kernel
theorem dX11_life_5 : decode cX11_life 5 = .ok (.ifCond .eq 5, 3) := by decide +kernel
theorem dX11_life_8 : decode cX11_life 8 = .ok (.iconst 0, 1) := by decide +kernel
theorem dX11_life_9 : decode cX11_life 9 = .ok (.ireturn, 1) := by decide +kernel
theorem dX11_life_10 : decode cX11_life 10 = .ok (.iload_n 2, 1) := by decide +kernel
theorem dX11_life_11 : decode cX11_life 11 = .ok (.iconst 0, 1) := by decide +kernel
theorem dX11_life_12 : decode cX11_life 12 = .ok (.iconst 4, 1) := by decide +kernel
theorem dX11_life_13 : decode cX11_life 13 = .ok (.invokestatic 129, 3) := by decide +kernel
theorem dX11_life_16 : decode cX11_life 16 = .ok (.ifCond .ne 9, 3) := by decide +kernel
theorem dX11_life_19 : decode cX11_life 19 = .ok (.aload_n 0, 1) := by decide +kernel
theorem dX11_life_20 : decode cX11_life 20 = .ok (.iconst 2, 1) := by decide +kernel
theorem dX11_life_21 : decode cX11_life 21 = .ok (.invokevirtual 356, 3) := by decide +kernel
theorem dX11_life_24 : decode cX11_life 24 = .ok (.ireturn, 1) := by decide +kernel
theorem dX11_life_25 : decode cX11_life 25 = .ok (.aload_n 0, 1) := by decide +kernel
theorem dX11_life_26 : decode cX11_life 26 = .ok (.getfield 101, 3) := by decide +kernel
theorem dX11_life_29 : decode cX11_life 29 = .ok (.iload_n 1, 1) := by decide +kernel
theorem dX11_life_30 : decode cX11_life 30 = .ok (.iaload, 1) := by decide +kernel
theorem dX11_life_31 : decode cX11_life 31 = .ok (.bipush 9, 2) := by decide +kernel
theorem dX11_life_33 : decode cX11_life 33 = .ok (.if_icmp .eq 19, 3) := by decide +kernel
theorem dX11_life_36 : decode cX11_life 36 = .ok (.aload_n 0, 1) := by decide +kernel
theorem dX11_life_37 : decode cX11_life 37 = .ok (.getfield 108, 3) := by decide +kernel
theorem dX11_life_40 : decode cX11_life 40 = .ok (.iload_n 1, 1) := by decide +kernel
theorem dX11_life_41 : decode cX11_life 41 = .ok (.aaload, 1) := by decide +kernel
theorem dX11_life_42 : decode cX11_life 42 = .ok (.iload_n 2, 1) := by decide +kernel
theorem dX11_life_43 : decode cX11_life 43 = .ok (.iaload, 1) := by decide +kernel
theorem dX11_life_44 : decode cX11_life 44 = .ok (.iconst (-1), 1) := by decide +kernel
theorem dX11_life_45 : decode cX11_life 45 = .ok (.if_icmp .eq 7, 3) := by decide +kernel
theorem dX11_life_48 : decode cX11_life 48 = .ok (.iconst 1, 1) := by decide +kernel
theorem dX11_life_49 : decode cX11_life 49 = .ok (.goto 4, 3) := by decide +kernel
theorem dX11_life_52 : decode cX11_life 52 = .ok (.iconst 0, 1) := by decide +kernel
theorem dX11_life_53 : decode cX11_life 53 = .ok (.istore_n 3, 1) := by decide +kernel
theorem dX11_life_54 : decode cX11_life 54 = .ok (.aload_n 0, 1) := by decide +kernel
theorem dX11_life_55 : decode cX11_life 55 = .ok (.iload_n 3, 1) := by decide +kernel
theorem dX11_life_56 : decode cX11_life 56 = .ok (.ifCond .eq 7, 3) := by decide +kernel
theorem dX11_life_59 : decode cX11_life 59 = .ok (.iconst 0, 1) := by decide +kernel
theorem dX11_life_60 : decode cX11_life 60 = .ok (.goto 4, 3) := by decide +kernel
theorem dX11_life_63 : decode cX11_life 63 = .ok (.iconst 3, 1) := by decide +kernel
theorem dX11_life_64 : decode cX11_life 64 = .ok (.putfield 123, 3) := by decide +kernel
theorem dX11_life_67 : decode cX11_life 67 = .ok (.iload_n 3, 1) := by decide +kernel
theorem dX11_life_68 : decode cX11_life 68 = .ok (.ifCond .eq 14, 3) := by decide +kernel
theorem dX11_life_71 : decode cX11_life 71 = .ok (.aload_n 0, 1) := by decide +kernel
theorem dX11_life_72 : decode cX11_life 72 = .ok (.getfield 108, 3) := by decide +kernel
theorem dX11_life_75 : decode cX11_life 75 = .ok (.iload_n 1, 1) := by decide +kernel
theorem dX11_life_76 : decode cX11_life 76 = .ok (.aaload, 1) := by decide +kernel
theorem dX11_life_77 : decode cX11_life 77 = .ok (.iload_n 2, 1) := by decide +kernel
theorem dX11_life_78 : decode cX11_life 78 = .ok (.iaload, 1) := by decide +kernel
theorem dX11_life_79 : decode cX11_life 79 = .ok (.goto 4, 3) := by decide +kernel
theorem dX11_life_82 : decode cX11_life 82 = .ok (.iconst 0, 1) := by decide +kernel
theorem dX11_life_83 : decode cX11_life 83 = .ok (.ireturn, 1) := by decide +kernel
theorem dX11_inner_0 : decode cX11_inner 0 = .ok (.aload_n 0, 1) := by decide +kernel
theorem dX11_inner_1 : decode cX11_inner 1 = .ok (.iload_n 1, 1) := by decide +kernel
theorem dX11_inner_2 : decode cX11_inner 2 = .ok (.iconst 0, 1) := by decide +kernel
theorem dX11_inner_3 : decode cX11_inner 3 = .ok (.bipush 7, 2) := by decide +kernel
theorem dX11_inner_5 : decode cX11_inner 5 = .ok (.invokestatic 129, 3) := by decide +kernel
theorem dX11_inner_8 : decode cX11_inner 8 = .ok (.ifCond .eq 7, 3) := by decide +kernel
theorem dX11_inner_11 : decode cX11_inner 11 = .ok (.iconst 0, 1) := by decide +kernel
theorem dX11_inner_12 : decode cX11_inner 12 = .ok (.goto 4, 3) := by decide +kernel
theorem dX11_inner_15 : decode cX11_inner 15 = .ok (.iconst 1, 1) := by decide +kernel
theorem dX11_inner_16 : decode cX11_inner 16 = .ok (.putfield 123, 3) := by decide +kernel
theorem dX11_inner_19 : decode cX11_inner 19 = .ok (.aload_n 0, 1) := by decide +kernel
theorem dX11_inner_20 : decode cX11_inner 20 = .ok (.getfield 123, 3) := by decide +kernel
theorem dX11_inner_23 : decode cX11_inner 23 = .ok (.ifCond .le 7, 3) := by decide +kernel
theorem dX11_inner_26 : decode cX11_inner 26 = .ok (.iconst 0, 1) := by decide +kernel
theorem dX11_inner_27 : decode cX11_inner 27 = .ok (.goto 9, 3) := by decide +kernel
theorem dX11_inner_30 : decode cX11_inner 30 = .ok (.aload_n 0, 1) := by decide +kernel
theorem dX11_inner_31 : decode cX11_inner 31 = .ok (.getfield 56, 3) := by decide +kernel
theorem dX11_inner_34 : decode cX11_inner 34 = .ok (.iload_n 1, 1) := by decide +kernel
theorem dX11_inner_35 : decode cX11_inner 35 = .ok (.iaload, 1) := by decide +kernel
theorem dX11_inner_36 : decode cX11_inner 36 = .ok (.ireturn, 1) := by decide +kernel
theorem dX11_innerAnew_0 : decode cX11_innerAnew 0 = .ok (.aload_n 0, 1) := by decide +kernel
theorem dX11_innerAnew_1 : decode cX11_innerAnew 1 = .ok (.iload_n 1, 1) := by decide +kernel
theorem dX11_innerAnew_2 : decode cX11_innerAnew 2 = .ok (.invokevirtual 359, 3) := by decide +kernel
theorem dX11_innerAnew_5 : decode cX11_innerAnew 5 = .ok (.ireturn, 1) := by decide +kernel
theorem dX11_noInner_0 : decode cX11_noInner 0 = .ok (.aload_n 0, 1) := by decide +kernel
theorem dX11_noInner_1 : decode cX11_noInner 1 = .ok (.iload_n 1, 1) := by decide +kernel
theorem dX11_noInner_2 : decode cX11_noInner 2 = .ok (.iconst 0, 1) := by decide +kernel
theorem dX11_noInner_3 : decode cX11_noInner 3 = .ok (.aload_n 0, 1) := by decide +kernel
theorem dX11_noInner_4 : decode cX11_noInner 4 = .ok (.getfield 35, 3) := by decide +kernel
theorem dX11_noInner_7 : decode cX11_noInner 7 = .ok (.iconst 1, 1) := by decide +kernel
theorem dX11_noInner_8 : decode cX11_noInner 8 = .ok (.isub, 1) := by decide +kernel
theorem dX11_noInner_9 : decode cX11_noInner 9 = .ok (.invokestatic 129, 3) := by decide +kernel
theorem dX11_noInner_12 : decode cX11_noInner 12 = .ok (.ifCond .eq 7, 3) := by decide +kernel
theorem dX11_noInner_15 : decode cX11_noInner 15 = .ok (.iconst 0, 1) := by decide +kernel
theorem dX11_noInner_16 : decode cX11_noInner 16 = .ok (.goto 4, 3) := by decide +kernel
theorem dX11_noInner_19 : decode cX11_noInner 19 = .ok (.iconst 1, 1) := by decide +kernel
theorem dX11_noInner_20 : decode cX11_noInner 20 = .ok (.putfield 123, 3) := by decide +kernel
theorem dX11_noInner_23 : decode cX11_noInner 23 = .ok (.aload_n 0, 1) := by decide +kernel
theorem dX11_noInner_24 : decode cX11_noInner 24 = .ok (.getfield 123, 3) := by decide +kernel
theorem dX11_noInner_27 : decode cX11_noInner 27 = .ok (.ifCond .le 7, 3) := by decide +kernel
theorem dX11_noInner_30 : decode cX11_noInner 30 = .ok (.iconst 1, 1) := by decide +kernel
theorem dX11_noInner_31 : decode cX11_noInner 31 = .ok (.goto 4, 3) := by decide +kernel
theorem dX11_noInner_34 : decode cX11_noInner 34 = .ok (.iconst 0, 1) := by decide +kernel
theorem dX11_noInner_35 : decode cX11_noInner 35 = .ok (.ireturn, 1) := by decide +kernel
theorem dX11_stateOf_0 : decode cX11_stateOf 0 = .ok (.aload_n 0, 1) := by decide +kernel
theorem dX11_stateOf_1 : decode cX11_stateOf 1 = .ok (.iload_n 1, 1) := by decide +kernel
theorem dX11_stateOf_2 : decode cX11_stateOf 2 = .ok (.invokevirtual 362, 3) := by decide +kernel
theorem dX11_stateOf_5 : decode cX11_stateOf 5 = .ok (.ifCond .eq 6, 3) := by decide +kernel
theorem dX11_stateOf_8 : decode cX11_stateOf 8 = .ok (.bipush 32, 2) := by decide +kernel
theorem dX11_stateOf_10 : decode cX11_stateOf 10 = .ok (.ireturn, 1) := by decide +kernel
theorem dX11_stateOf_11 : decode cX11_stateOf 11 = .ok (.iconst 0, 1) := by decide +kernel
theorem dX11_stateOf_12 : decode cX11_stateOf 12 = .ok (.istore_n 2, 1) := by decide +kernel
theorem dX11_stateOf_13 : decode cX11_stateOf 13 = .ok (.iconst 0, 1) := by decide +kernel
theorem dX11_stateOf_14 : decode cX11_stateOf 14 = .ok (.istore_n 3, 1) := by decide +kernel
theorem dX11_stateOf_15 : decode cX11_stateOf 15 = .ok (.iconst 0, 1) := by decide +kernel
theorem dX11_stateOf_16 : decode cX11_stateOf 16 = .ok (.istore 4, 2) := by decide +kernel
theorem dX11_stateOf_18 : decode cX11_stateOf 18 = .ok (.iload 4, 2) := by decide +kernel
theorem dX11_stateOf_20 : decode cX11_stateOf 20 = .ok (.aload_n 0, 1) := by decide +kernel
theorem dX11_stateOf_21 : decode cX11_stateOf 21 = .ok (.getfield 126, 3) := by decide +kernel
theorem dX11_stateOf_24 : decode cX11_stateOf 24 = .ok (.if_icmp .ge 30, 3) := by decide +kernel
theorem dX11_stateOf_27 : decode cX11_stateOf 27 = .ok (.iload_n 2, 1) := by decide +kernel
theorem dX11_stateOf_28 : decode cX11_stateOf 28 = .ok (.ifCond .ne 14, 3) := by decide +kernel
theorem dX11_stateOf_31 : decode cX11_stateOf 31 = .ok (.aload_n 0, 1) := by decide +kernel
theorem dX11_stateOf_32 : decode cX11_stateOf 32 = .ok (.getfield 69, 3) := by decide +kernel
theorem dX11_stateOf_35 : decode cX11_stateOf 35 = .ok (.iload 4, 2) := by decide +kernel
theorem dX11_stateOf_37 : decode cX11_stateOf 37 = .ok (.iaload, 1) := by decide +kernel
theorem dX11_stateOf_38 : decode cX11_stateOf 38 = .ok (.iload_n 1, 1) := by decide +kernel
theorem dX11_stateOf_39 : decode cX11_stateOf 39 = .ok (.if_icmp .ne 7, 3) := by decide +kernel
theorem dX11_stateOf_42 : decode cX11_stateOf 42 = .ok (.iconst 1, 1) := by decide +kernel
theorem dX11_stateOf_43 : decode cX11_stateOf 43 = .ok (.goto 4, 3) := by decide +kernel
theorem dX11_stateOf_46 : decode cX11_stateOf 46 = .ok (.iconst 0, 1) := by decide +kernel
theorem dX11_stateOf_47 : decode cX11_stateOf 47 = .ok (.istore_n 2, 1) := by decide +kernel
theorem dX11_stateOf_48 : decode cX11_stateOf 48 = .ok (.iinc 4 1, 3) := by decide +kernel
theorem dX11_stateOf_51 : decode cX11_stateOf 51 = .ok (.goto (-33), 3) := by decide +kernel
theorem dX11_stateOf_54 : decode cX11_stateOf 54 = .ok (.iconst 0, 1) := by decide +kernel
theorem dX11_stateOf_55 : decode cX11_stateOf 55 = .ok (.istore 4, 2) := by decide +kernel
theorem dX11_stateOf_57 : decode cX11_stateOf 57 = .ok (.iload 4, 2) := by decide +kernel
theorem dX11_stateOf_59 : decode cX11_stateOf 59 = .ok (.bipush 8, 2) := by decide +kernel
theorem dX11_stateOf_61 : decode cX11_stateOf 61 = .ok (.if_icmp .ge 30, 3) := by decide +kernel
theorem dX11_stateOf_64 : decode cX11_stateOf 64 = .ok (.iload_n 3, 1) := by decide +kernel
theorem dX11_stateOf_65 : decode cX11_stateOf 65 = .ok (.ifCond .ne 14, 3) := by decide +kernel
theorem dX11_stateOf_68 : decode cX11_stateOf 68 = .ok (.aload_n 0, 1) := by decide +kernel
theorem dX11_stateOf_69 : decode cX11_stateOf 69 = .ok (.getfield 56, 3) := by decide +kernel
theorem dX11_stateOf_72 : decode cX11_stateOf 72 = .ok (.iload 4, 2) := by decide +kernel
theorem dX11_stateOf_74 : decode cX11_stateOf 74 = .ok (.iaload, 1) := by decide +kernel
theorem dX11_stateOf_75 : decode cX11_stateOf 75 = .ok (.iload_n 1, 1) := by decide +kernel
theorem dX11_stateOf_76 : decode cX11_stateOf 76 = .ok (.if_icmp .ne 7, 3) := by decide +kernel
theorem dX11_stateOf_79 : decode cX11_stateOf 79 = .ok (.iconst 1, 1) := by decide +kernel
theorem dX11_stateOf_80 : decode cX11_stateOf 80 = .ok (.goto 4, 3) := by decide +kernel
theorem dX11_stateOf_83 : decode cX11_stateOf 83 = .ok (.iconst 0, 1) := by decide +kernel
theorem dX11_stateOf_84 : decode cX11_stateOf 84 = .ok (.istore_n 3, 1) := by decide +kernel
theorem dX11_stateOf_85 : decode cX11_stateOf 85 = .ok (.iinc 4 1, 3) := by decide +kernel
theorem dX11_stateOf_88 : decode cX11_stateOf 88 = .ok (.goto (-31), 3) := by decide +kernel
theorem dX11_stateOf_91 : decode cX11_stateOf 91 = .ok (.iload_n 2, 1) := by decide +kernel
theorem dX11_stateOf_92 : decode cX11_stateOf 92 = .ok (.ifCond .eq 8, 3) := by decide +kernel
theorem dX11_stateOf_95 : decode cX11_stateOf 95 = .ok (.bipush 102, 2) := by decide +kernel
theorem dX11_stateOf_97 : decode cX11_stateOf 97 = .ok (.goto 14, 3) := by decide +kernel
theorem dX11_stateOf_100 : decode cX11_stateOf 100 = .ok (.iload_n 3, 1) := by decide +kernel
theorem dX11_stateOf_101 : decode cX11_stateOf 101 = .ok (.ifCond .eq 8, 3) := by decide +kernel
theorem dX11_stateOf_104 : decode cX11_stateOf 104 = .ok (.bipush 109, 2) := by decide +kernel
theorem dX11_stateOf_106 : decode cX11_stateOf 106 = .ok (.goto 5, 3) := by decide +kernel
theorem dX11_stateOf_109 : decode cX11_stateOf 109 = .ok (.bipush 119, 2) := by decide +kernel
theorem dX11_stateOf_111 : decode cX11_stateOf 111 = .ok (.ireturn, 1) := by decide +kernel
theorem dX11_isReady_0 : decode cX11_isReady 0 = .ok (.aload_n 0, 1) := by decide +kernel
theorem dX11_isReady_1 : decode cX11_isReady 1 = .ok (.iload_n 1, 1) := by decide +kernel
theorem dX11_isReady_2 : decode cX11_isReady 2 = .ok (.invokevirtual 362, 3) := by decide +kernel
theorem dX11_isReady_5 : decode cX11_isReady 5 = .ok (.ifCond .ne 16, 3) := by decide +kernel
theorem dX11_isReady_8 : decode cX11_isReady 8 = .ok (.aload_n 0, 1) := by decide +kernel
theorem dX11_isReady_9 : decode cX11_isReady 9 = .ok (.getfield 65, 3) := by decide +kernel
theorem dX11_isReady_12 : decode cX11_isReady 12 = .ok (.iload_n 1, 1) := by decide +kernel
theorem dX11_isReady_13 : decode cX11_isReady 13 = .ok (.baload, 1) := by decide +kernel
theorem dX11_isReady_14 : decode cX11_isReady 14 = .ok (.ifCond .eq 7, 3) := by decide +kernel
theorem dX11_isReady_17 : decode cX11_isReady 17 = .ok (.iconst 1, 1) := by decide +kernel
theorem dX11_isReady_18 : decode cX11_isReady 18 = .ok (.goto 4, 3) := by decide +kernel
theorem dX11_isReady_21 : decode cX11_isReady 21 = .ok (.iconst 0, 1) := by decide +kernel
theorem dX11_isReady_22 : decode cX11_isReady 22 = .ok (.ireturn, 1) := by decide +kernel
theorem dX11_free_0 : decode cX11_free 0 = .ok (.aload_n 0, 1) := by decide +kernel
theorem dX11_free_1 : decode cX11_free 1 = .ok (.iconst 0, 1) := by decide +kernel
theorem dX11_free_2 : decode cX11_free 2 = .ok (.putfield 123, 3) := by decide +kernel
theorem dX11_free_5 : decode cX11_free 5 = .ok (.aload_n 0, 1) := by decide +kernel
theorem dX11_free_6 : decode cX11_free 6 = .ok (.getfield 126, 3) := by decide +kernel
theorem dX11_free_9 : decode cX11_free 9 = .ok (.ireturn, 1) := by decide +kernel
theorem dX11_freeAt_0 : decode cX11_freeAt 0 = .ok (.aload_n 0, 1) := by decide +kernel
theorem dX11_freeAt_1 : decode cX11_freeAt 1 = .ok (.iload_n 1, 1) := by decide +kernel
theorem dX11_freeAt_2 : decode cX11_freeAt 2 = .ok (.iconst 0, 1) := by decide +kernel
theorem dX11_freeAt_3 : decode cX11_freeAt 3 = .ok (.aload_n 0, 1) := by decide +kernel
theorem dX11_freeAt_4 : decode cX11_freeAt 4 = .ok (.getfield 126, 3) := by decide +kernel
theorem dX11_freeAt_7 : decode cX11_freeAt 7 = .ok (.iconst 1, 1) := by decide +kernel
theorem dX11_freeAt_8 : decode cX11_freeAt 8 = .ok (.isub, 1) := by decide +kernel
theorem dX11_freeAt_9 : decode cX11_freeAt 9 = .ok (.invokestatic 129, 3) := by decide +kernel
theorem dX11_freeAt_12 : decode cX11_freeAt 12 = .ok (.ifCond .eq 7, 3) := by decide +kernel
theorem dX11_freeAt_15 : decode cX11_freeAt 15 = .ok (.iconst 0, 1) := by decide +kernel
theorem dX11_freeAt_16 : decode cX11_freeAt 16 = .ok (.goto 4, 3) := by decide +kernel
theorem dX11_freeAt_19 : decode cX11_freeAt 19 = .ok (.iconst 1, 1) := by decide +kernel
theorem dX11_freeAt_20 : decode cX11_freeAt 20 = .ok (.putfield 123, 3) := by decide +kernel
theorem dX11_freeAt_23 : decode cX11_freeAt 23 = .ok (.aload_n 0, 1) := by decide +kernel
theorem dX11_freeAt_24 : decode cX11_freeAt 24 = .ok (.getfield 123, 3) := by decide +kernel
theorem dX11_freeAt_27 : decode cX11_freeAt 27 = .ok (.ifCond .le 7, 3) := by decide +kernel
theorem dX11_freeAt_30 : decode cX11_freeAt 30 = .ok (.iconst 0, 1) := by decide +kernel
theorem dX11_freeAt_31 : decode cX11_freeAt 31 = .ok (.goto 9, 3) := by decide +kernel
theorem dX11_freeAt_34 : decode cX11_freeAt 34 = .ok (.aload_n 0, 1) := by decide +kernel
theorem dX11_freeAt_35 : decode cX11_freeAt 35 = .ok (.getfield 69, 3) := by decide +kernel
theorem dX11_freeAt_38 : decode cX11_freeAt 38 = .ok (.iload_n 1, 1) := by decide +kernel
theorem dX11_freeAt_39 : decode cX11_freeAt 39 = .ok (.iaload, 1) := by decide +kernel
theorem dX11_freeAt_40 : decode cX11_freeAt 40 = .ok (.ireturn, 1) := by decide +kernel
def mX11_plain : MD := (cX11_plain, RX11, yX11_plain, 5, (some (.array .int)), 3, 67)
theorem mf_X11_plain : MF mX11_plain 1 := MF.of 1959 90 (by decide +kernel) (by decide +kernel) (by decide +kernel) (by decide +kernel) (by decide +kernel) rfl
def mX11_kindByPlain : MD := (cX11_kindByPlain, RX11, yX11_kindByPlain, 2, (some .int), 4, 91)
theorem mf_X11_kindByPlain : MF mX11_kindByPlain 1 := MF.of 1955 90 (by decide +kernel) (by decide +kernel) (by decide +kernel) (by decide +kernel) (by decide +kernel) rfl
def mX11_placeByPlain : MD := (cX11_placeByPlain, RX11, yX11_placeByPlain, 2, (some .int), 4, 91)
theorem mf_X11_placeByPlain : MF mX11_placeByPlain 1 := MF.of 1975 90 (by decide +kernel) (by decide +kernel) (by decide +kernel) (by decide +kernel) (by decide +kernel) rfl
def mX11_register : MD := (cX11_register, RX11, yX11_register, 2, (some .int), 1, 22)
theorem mf_X11_register : MF mX11_register 1 := MF.of 1979 90 (by decide +kernel) (by decide +kernel) (by decide +kernel) (by decide +kernel) (by decide +kernel) rfl
def mX11_registerByPlain : MD := (cX11_registerByPlain, RX11, yX11_registerByPlain, 3, (some .int), 4, 91)
theorem mf_X11_registerByPlain : MF mX11_registerByPlain 1 := MF.of 1983 90 (by decide +kernel) (by decide +kernel) (by decide +kernel) (by decide +kernel) (by decide +kernel) rfl
def mX11_word : MD := (cX11_word, RX11, yX11_word, 2, (some .int), 2, 42)
theorem mf_X11_word : MF mX11_word 1 := MF.of 1987 90 (by decide +kernel) (by decide +kernel) (by decide +kernel) (by decide +kernel) (by decide +kernel) rfl
def mX11_wordByPlain : MD := (cX11_wordByPlain, RX11, yX11_wordByPlain, 3, (some .int), 4, 91)
theorem mf_X11_wordByPlain : MF mX11_wordByPlain 1 := MF.of 1991 90 (by decide +kernel) (by decide +kernel) (by decide +kernel) (by decide +kernel) (by decide +kernel) rfl
def mX11_kept : MD := (cX11_kept, RX11, yX11_kept, 1, (some .int), 0, 0)
theorem mf_X11_kept : MF mX11_kept 0 := MF.of 1995 90 (by decide +kernel) (by decide +kernel) (by decide +kernel) (by decide +kernel) (by decide +kernel) rfl
def mX11_life : MD := (cX11_life, RX11, yX11_life, 4, (some .int), 2, 43)
theorem mf_X11_life : MF mX11_life 2 := MF.of 1999 90 (by decide +kernel) (by decide +kernel) (by decide +kernel) (by decide +kernel) (by decide +kernel) rfl
def mX11_inner : MD := (cX11_inner, RX11, yX11_inner, 2, (some .int), 1, 22)
theorem mf_X11_inner : MF mX11_inner 1 := MF.of 2007 90 (by decide +kernel) (by decide +kernel) (by decide +kernel) (by decide +kernel) (by decide +kernel) rfl
def mX11_innerAnew : MD := (cX11_innerAnew, RX11, yX11_innerAnew, 2, (some .int), 2, 43)
theorem mf_X11_innerAnew : MF mX11_innerAnew 1 := MF.of 2011 90 (by decide +kernel) (by decide +kernel) (by decide +kernel) (by decide +kernel) (by decide +kernel) rfl
def mX11_noInner : MD := (cX11_noInner, RX11, yX11_noInner, 2, (some .boolean), 1, 22)
theorem mf_X11_noInner : MF mX11_noInner 1 := MF.of 2020 90 (by decide +kernel) (by decide +kernel) (by decide +kernel) (by decide +kernel) (by decide +kernel) rfl
def mX11_stateOf : MD := (cX11_stateOf, RX11, yX11_stateOf, 5, (some .char), 2, 43)
theorem mf_X11_stateOf : MF mX11_stateOf 1 := MF.of 2016 90 (by decide +kernel) (by decide +kernel) (by decide +kernel) (by decide +kernel) (by decide +kernel) rfl
def mX11_isReady : MD := (cX11_isReady, RX11, yX11_isReady, 2, (some .boolean), 2, 43)
theorem mf_X11_isReady : MF mX11_isReady 1 := MF.of 2024 90 (by decide +kernel) (by decide +kernel) (by decide +kernel) (by decide +kernel) (by decide +kernel) rfl
def mX11_free : MD := (cX11_free, RX11, yX11_free, 1, (some .int), 0, 0)
theorem mf_X11_free : MF mX11_free 0 := MF.of 2028 90 (by decide +kernel) (by decide +kernel) (by decide +kernel) (by decide +kernel) (by decide +kernel) rfl
def mX11_freeAt : MD := (cX11_freeAt, RX11, yX11_freeAt, 2, (some .int), 1, 22)
theorem mf_X11_freeAt : MF mX11_freeAt 1 := MF.of 2032 90 (by decide +kernel) (by decide +kernel) (by decide +kernel) (by decide +kernel) (by decide +kernel) rfl
theorem cv_X11_346 : CVs RX11 346 mX11_plainTrap 12 := CVs.of 1960 1962 72 (by decide +kernel) (by decide +kernel) (by decide +kernel) _ rfl rfl
theorem cv_X11_349 : CVs RX11 349 mX11_plainDoes 12 := CVs.of 1968 1970 74 (by decide +kernel) (by decide +kernel) (by decide +kernel) _ rfl rfl
theorem cv_X11_352 : CVs RX11 352 mX11_plain 12 := CVs.of 1956 1958 71 (by decide +kernel) (by decide +kernel) (by decide +kernel) _ rfl rfl
theorem cv_X11_356 : CVs RX11 356 mX11_raises 12 := CVs.of 2000 2002 75 (by decide +kernel) (by decide +kernel) (by decide +kernel) _ rfl rfl
theorem cv_X11_359 : CVs RX11 359 mX11_inner 12 := CVs.of 2012 2005 2006 (by decide +kernel) (by decide +kernel) (by decide +kernel) _ rfl rfl
theorem cv_X11_362 : CVs RX11 362 mX11_noInner 12 := CVs.of 2017 2019 76 (by decide +kernel) (by decide +kernel) (by decide +kernel) _ rfl rfl
theorem fn_12_58 : FN 12 58 false := fun q h => by cases h; rfl
theorem iv_bipush_32 : (Int8.ofInt (32)).toInt32 = 32 := by decide
def f_X11_plain_b218 (k73 : Nat → Int32 → Nat → Int32 → Mm → Option (Nat × Mm)) (a0 : Nat) (x1 : Int32) (a2 : Nat) (x3 : Int32) (μ : Mm) : Option (Nat × Mm) :=
  k73 a0 x1 a2 (x3 + 1) μ
def f_X11_plain_b143 (k73 : Nat → Int32 → Nat → Int32 → Mm → Option (Nat × Mm)) (a0 : Nat) (x1 : Int32) (a2 : Nat) (x3 : Int32) (μ : Mm) : Option (Nat × Mm) :=
  ck (isA 1 (mK μ a2)) <|
  ck (inb 0 (mL μ a2)) <|
  zl (sI μ a2 (Int32.toNatClampNeg 0) ((-1))) fun μ99 =>
  f_X11_plain_b218 k73 a0 x1 a2 x3 μ99
def f_X11_plain_b189 (k73 : Nat → Int32 → Nat → Int32 → Mm → Option (Nat × Mm)) (a0 : Nat) (x1 : Int32) (a2 : Nat) (x3 : Int32) (μ : Mm) : Option (Nat × Mm) :=
  ck (mK μ a0 = 112) <|
  zl (sI μ a0 60 1) fun μ94 =>
  f_X11_plain_b218 k73 a0 x1 a2 x3 μ94
def f_X11_plain_b73 : Nat → Nat → Int32 → Nat → Int32 → Mm → Option (Nat × Mm)
  | 0, _, _, _, _, _ => none
  | n + 1, a0, x1, a2, x3, μ =>
  if x1 ≤ x3 then
    some (a2, μ)
  else
    ck (mK μ a0 = 112) <|
    ck (isA 1 (mK μ a2)) <|
    ck (inb 1 (mL μ a2)) <|
    zl (sI μ a2 (Int32.toNatClampNeg 1) (mI μ a0 57)) fun μ48 =>
    bd (mR μ48 a0 43) fun p51 =>
    ck (isA 1 (mK μ48 p51)) <|
    ck (inb x3 (mL μ48 p51)) <|
    if ¬ (mI μ48 p51 (Int32.toNatClampNeg x3)) = 9 then
      if (mI μ48 a0 5) ≤ (mI μ a0 57) then
        f_X11_plain_b143 (f_X11_plain_b73 n) a0 x1 a2 x3 μ48
      else
        if (zb (mI μ48 a0 60)) = 0 then
          bd (f_X11_plainTrap a0 (mI μ a0 57) μ48) fun y58 =>
          ck (inb 0 (mL μ48 a2)) <|
          zl (sI μ48 a2 (Int32.toNatClampNeg 0) y58) fun μ61 =>
          ck (inb 0 (mL μ61 a2)) <|
          if ¬ (mI μ61 a2 (Int32.toNatClampNeg 0)) = 0 then
            if ¬ (zb (mI μ61 a0 59)) = 0 then
              f_X11_plain_b189 (f_X11_plain_b73 n) a0 x1 a2 x3 μ61
            else
              if ¬ (mI μ61 a0 10) = ((-1)) then
                zl (sI μ61 a0 58 ((mI μ a0 57) + 1)) fun μ68 =>
                zl (sI μ68 a0 59 1) fun μ71 =>
                zl (sI μ71 a0 57 (mI μ71 a0 10)) fun μ74 =>
                f_X11_plain_b218 (f_X11_plain_b73 n) a0 x1 a2 x3 μ74
              else
                f_X11_plain_b189 (f_X11_plain_b73 n) a0 x1 a2 x3 μ61
          else
            cl (f_X11_plainDoes a0 (mI μ a0 57) μ61) fun _ μ79 =>
            f_X11_plain_b218 (f_X11_plain_b73 n) a0 x1 a2 x3 μ79
        else
          f_X11_plain_b143 (f_X11_plain_b73 n) a0 x1 a2 x3 μ48
    else
      ck (inb 0 (mL μ48 a2)) <|
      zl (sI μ48 a2 (Int32.toNatClampNeg 0) 9) fun μ81 =>
      zl (sI μ81 a0 58 (mI μ a0 57)) fun μ84 =>
      zl (sI μ84 a0 59 1) fun μ87 =>
      zl (sI μ87 a0 57 (mI μ87 a0 11)) fun μ90 =>
      f_X11_plain_b218 (f_X11_plain_b73 n) a0 x1 a2 x3 μ90
def f_X11_plain_b52 (a0 : Nat) (x1 : Int32) (μ : Mm) : Option (Nat × Mm) :=
  ck (mK μ a0 = 112) <|
  zl (sI μ a0 57 0) fun μ28 =>
  zl (sI μ28 a0 59 0) fun μ31 =>
  zl (sI μ31 a0 60 0) fun μ34 =>
  ck (smn 2) <|
  zl (mN μ34) fun p38 =>
  zl (nw μ34 81 (Int32.toNatClampNeg 2) (Int32.toNatClampNeg 2)) fun μ39 =>
  f_X11_plain_b73 5000 a0 x1 p38 0 μ39
def f_X11_plain_b28 : Nat → Nat → Int32 → Int32 → Mm → Option (Nat × Mm)
  | 0, _, _, _, _ => none
  | n + 1, a0, x1, x2, μ =>
  if 64 ≤ x2 then
    f_X11_plain_b52 a0 x1 μ
  else
    ck (mK μ a0 = 112) <|
    bd (mR μ a0 56) fun p16 =>
    bd (mR μ a0 13) fun p18 =>
    ck (isA 1 (mK μ p18)) <|
    ck (inb x2 (mL μ p18)) <|
    ck (isA 1 (mK μ p16)) <|
    ck (inb x2 (mL μ p16)) <|
    zl (sI μ p16 (Int32.toNatClampNeg x2) (mI μ p18 (Int32.toNatClampNeg x2))) fun μ24 =>
    f_X11_plain_b28 n a0 x1 (x2 + 1) μ24
def f_X11_plain_b26 (a0 : Nat) (x1 : Int32) (μ : Mm) : Option (Nat × Mm) :=
  f_X11_plain_b28 5000 a0 x1 0 μ
def f_X11_plain_b2 : Nat → Nat → Int32 → Int32 → Mm → Option (Nat × Mm)
  | 0, _, _, _, _ => none
  | n + 1, a0, x1, x2, μ =>
  if 8 ≤ x2 then
    f_X11_plain_b26 a0 x1 μ
  else
    ck (mK μ a0 = 112) <|
    bd (mR μ a0 55) fun p3 =>
    bd (mR μ a0 12) fun p5 =>
    ck (isA 1 (mK μ p5)) <|
    ck (inb x2 (mL μ p5)) <|
    ck (isA 1 (mK μ p3)) <|
    ck (inb x2 (mL μ p3)) <|
    zl (sI μ p3 (Int32.toNatClampNeg x2) (mI μ p5 (Int32.toNatClampNeg x2))) fun μ11 =>
    f_X11_plain_b2 n a0 x1 (x2 + 1) μ11
def f_X11_plain (a0 : Nat) (x1 : Int32) (μ : Mm) : Option (Nat × Mm) :=
  f_X11_plain_b2 5000 a0 x1 0 μ
set_option maxRecDepth 100000 in
theorem s_X11_plain_b218 {l : Launch} {G : Gt} (hG : Gok l G) {k73 : Nat → Int32 → Nat → Int32 → Mm → Option (Nat × Mm)} (hk73 : ∀ (a0 : Nat) (x1 : Int32) (a2 : Nat) (x3 : Int32) (μ : Mm) (r : Nat) (μ' : Mm), k73 a0 x1 a2 x3 μ = some (r, μ') → ZX l G mX11_plain 73 [(0, .ref a0), (1, .int x1), (2, .ref a2), (3, .int x3)] [] μ (.inl (some (.ref r))) μ') (a0 : Nat) (x1 : Int32) (a2 : Nat) (x3 : Int32) (μ : Mm) (r : Nat) (μ' : Mm) (h : f_X11_plain_b218 k73 a0 x1 a2 x3 μ = some (r, μ')) : ZX l G mX11_plain 218 [(0, .ref a0), (1, .int x1), (2, .ref a2), (3, .int x3)] [] μ (.inl (some (.ref r))) μ' := by
  unfold f_X11_plain_b218 at h
  refine zx_iinc (q := 3) (v := x3 + 1) (L' := [(3, .int (x3 + 1)), (0, .ref a0), (1, .int x1), (2, .ref a2)]) dX11_plain_218 rfl rfl (by decide) rfl ?_
  refine zx_goto (tgt := 73) dX11_plain_221 (by decide) ?_
  refine zx_sub (L' := [(0, .ref a0), (1, .int x1), (2, .ref a2), (3, .int (x3 + 1))]) [1, 2, 3, 0] rfl ?_
  exact hk73 _ _ _ _ _ _ _ h
set_option maxRecDepth 100000 in
theorem s_X11_plain_b143 {l : Launch} {G : Gt} (hG : Gok l G) {k73 : Nat → Int32 → Nat → Int32 → Mm → Option (Nat × Mm)} (hk73 : ∀ (a0 : Nat) (x1 : Int32) (a2 : Nat) (x3 : Int32) (μ : Mm) (r : Nat) (μ' : Mm), k73 a0 x1 a2 x3 μ = some (r, μ') → ZX l G mX11_plain 73 [(0, .ref a0), (1, .int x1), (2, .ref a2), (3, .int x3)] [] μ (.inl (some (.ref r))) μ') (a0 : Nat) (x1 : Int32) (a2 : Nat) (x3 : Int32) (μ : Mm) (r : Nat) (μ' : Mm) (h : f_X11_plain_b143 k73 a0 x1 a2 x3 μ = some (r, μ')) : ZX l G mX11_plain 143 [(0, .ref a0), (1, .int x1), (2, .ref a2), (3, .int x3)] [] μ (.inl (some (.ref r))) μ' := by
  unfold f_X11_plain_b143 at h
  refine zx_aload_n dX11_plain_143 rfl (q := 2) rfl ?_
  refine zx_iconst (v := 0) dX11_plain_144 iv_iconst_0 ?_
  refine zx_iconst (v := (-1)) dX11_plain_145 iv_iconst_m1 ?_
  obtain ⟨h97, h⟩ := ck_e h
  obtain ⟨h98, h⟩ := ck_e h
  refine zx_iast hG rfl (h97).1 (h97).2 (inb_e h98) dX11_plain_146 ?_
  obtain ⟨μ99, e101, h⟩ := zlm_e h
  refine zx_mem e101 ?_
  have e100 : mK μ99 = mK μ := (congrArg mK e101).trans rfl
  refine zx_goto (tgt := 218) dX11_plain_147 (by decide) ?_
  exact s_X11_plain_b218 hG hk73 _ _ _ _ _ _ _ h
set_option maxRecDepth 100000 in
theorem s_X11_plain_b189 {l : Launch} {G : Gt} (hG : Gok l G) {k73 : Nat → Int32 → Nat → Int32 → Mm → Option (Nat × Mm)} (hk73 : ∀ (a0 : Nat) (x1 : Int32) (a2 : Nat) (x3 : Int32) (μ : Mm) (r : Nat) (μ' : Mm), k73 a0 x1 a2 x3 μ = some (r, μ') → ZX l G mX11_plain 73 [(0, .ref a0), (1, .int x1), (2, .ref a2), (3, .int x3)] [] μ (.inl (some (.ref r))) μ') (a0 : Nat) (x1 : Int32) (a2 : Nat) (x3 : Int32) (μ : Mm) (r : Nat) (μ' : Mm) (h : f_X11_plain_b189 k73 a0 x1 a2 x3 μ = some (r, μ')) : ZX l G mX11_plain 189 [(0, .ref a0), (1, .int x1), (2, .ref a2), (3, .int x3)] [] μ (.inl (some (.ref r))) μ' := by
  unfold f_X11_plain_b189 at h
  refine zx_aload_n dX11_plain_189 rfl (q := 0) rfl ?_
  refine zx_iconst (v := 1) dX11_plain_190 iv_iconst_1 ?_
  obtain ⟨h93, h⟩ := ck_e h
  refine zx_putZ hG fl_X11_340 fn_12_60 h93 zb_1 dX11_plain_191 ?_
  obtain ⟨μ94, e96, h⟩ := zlm_e h
  refine zx_mem e96 ?_
  have e95 : mK μ94 = mK μ := (congrArg mK e96).trans rfl
  refine zx_goto (tgt := 218) dX11_plain_194 (by decide) ?_
  exact s_X11_plain_b218 hG hk73 _ _ _ _ _ _ _ h
set_option maxRecDepth 100000 in
theorem s_X11_plain_b73 {l : Launch} {G : Gt} (hG : Gok l G) : ∀ (n : Nat) (a0 : Nat) (x1 : Int32) (a2 : Nat) (x3 : Int32) (μ : Mm) (r : Nat) (μ' : Mm), f_X11_plain_b73 n a0 x1 a2 x3 μ = some (r, μ') → ZX l G mX11_plain 73 [(0, .ref a0), (1, .int x1), (2, .ref a2), (3, .int x3)] [] μ (.inl (some (.ref r))) μ' := by
  intro n
  induction n with
  | zero =>
    intro a0 x1 a2 x3 μ r μ' h
    cases h
  | succ n ih =>
    intro a0 x1 a2 x3 μ r μ' h
    unfold f_X11_plain_b73 at h
    refine zx_iload_n dX11_plain_73 rfl (q := 3) rfl ?_
    refine zx_iload_n dX11_plain_74 rfl (q := 1) rfl ?_
    by_cases c44 : x1 ≤ x3
    · have h := it_t c44 h
      refine zx_icmp_ge_t (tgt := 224) dX11_plain_75 (by decide) c44 ?_
      refine zx_aload_n dX11_plain_224 rfl (q := 2) rfl ?_
      cases h
      exact zx_aret dX11_plain_225 rfl (Or.inr ⟨_, rfl⟩)
    · have h := it_f c44 h
      refine zx_icmp_ge_f (tgt := 224) dX11_plain_75 (by decide) c44 ?_
      refine zx_aload_n dX11_plain_78 rfl (q := 0) rfl ?_
      obtain ⟨h45, h⟩ := ck_e h
      refine zx_getI hG fl_X11_337 h45 dX11_plain_79 ?_
      refine zx_istore (L' := [(4, .int (mI μ a0 57)), (0, .ref a0), (1, .int x1), (2, .ref a2), (3, .int x3)]) dX11_plain_82 (by decide) rfl ?_
      refine zx_aload_n dX11_plain_84 rfl (q := 3) rfl ?_
      refine zx_iconst (v := 1) dX11_plain_85 iv_iconst_1 ?_
      refine zx_iload dX11_plain_86 (q := 0) rfl ?_
      obtain ⟨h46, h⟩ := ck_e h
      obtain ⟨h47, h⟩ := ck_e h
      refine zx_iast hG rfl (h46).1 (h46).2 (inb_e h47) dX11_plain_88 ?_
      obtain ⟨μ48, e50, h⟩ := zlm_e h
      refine zx_mem e50 ?_
      have e49 : mK μ48 = mK μ := (congrArg mK e50).trans rfl
      refine zx_aload_n dX11_plain_89 rfl (q := 1) rfl ?_
      obtain ⟨p51, h52, h⟩ := bd_e h
      refine zx_getR hG fl_X11_101 (kp_o (e49) h45) h52 dX11_plain_90 ?_
      refine zx_iload_n dX11_plain_93 rfl (q := 4) rfl ?_
      obtain ⟨h53, h⟩ := ck_e h
      obtain ⟨h54, h⟩ := ck_e h
      refine zx_iald hG rfl (h53).1 (h53).2 (inb_e h54) dX11_plain_94 ?_
      refine zx_bipush (v := 9) dX11_plain_95 iv_bipush_9 ?_
      by_cases c55 : ¬ (mI μ48 p51 (Int32.toNatClampNeg x3)) = 9
      · have h := it_t c55 h
        refine zx_icmp_ne_t (tgt := 127) dX11_plain_97 (by decide) c55 ?_
        refine zx_iload dX11_plain_127 (q := 0) rfl ?_
        refine zx_aload_n dX11_plain_129 rfl (q := 1) rfl ?_
        refine zx_getI hG fl_X11_136 (kp_o (e49) h45) dX11_plain_130 ?_
        by_cases c56 : (mI μ48 a0 5) ≤ (mI μ a0 57)
        · have h := it_t c56 h
          refine zx_icmp_ge_t (tgt := 143) dX11_plain_133 (by decide) c56 ?_
          refine zx_sub (L' := [(0, .ref a0), (1, .int x1), (2, .ref a2), (3, .int x3)]) [1, 2, 3, 4] rfl ?_
          exact s_X11_plain_b143 hG ih _ _ _ _ _ _ _ h
        · have h := it_f c56 h
          refine zx_icmp_ge_f (tgt := 143) dX11_plain_133 (by decide) c56 ?_
          refine zx_aload_n dX11_plain_136 rfl (q := 1) rfl ?_
          refine zx_getZ hG fl_X11_340 (kp_o (e49) h45) dX11_plain_137 ?_
          by_cases c57 : (zb (mI μ48 a0 60)) = 0
          · have h := it_t c57 h
            refine zx_if_eq_t (tgt := 150) dX11_plain_140 (by decide) c57 ?_
            refine zx_aload_n dX11_plain_150 rfl (q := 3) rfl ?_
            refine zx_iconst (v := 0) dX11_plain_151 iv_iconst_0 ?_
            refine zx_aload_n dX11_plain_152 rfl (q := 1) rfl ?_
            refine zx_iload dX11_plain_153 (q := 0) rfl ?_
            obtain ⟨y58, z59, h⟩ := bd_e h
            refine zx_callV (As := [.int (mI μ a0 57)]) hG mf_X11_plainTrap cv_X11_346 (kp_o (e49) h45) ⟨by decide, by decide⟩ rfl rfl (Nat.le_of_ble_eq_true rfl) (s_X11_plainTrap hG _ _ _ _ z59) (Nat.le_of_ble_eq_true rfl) dX11_plain_155 ?_
            obtain ⟨h60, h⟩ := ck_e h
            refine zx_iast hG rfl ((kp_a (e49) h46)).1 ((kp_a (e49) h46)).2 (inb_e h60) dX11_plain_158 ?_
            obtain ⟨μ61, e63, h⟩ := zlm_e h
            refine zx_mem e63 ?_
            have e62 : mK μ61 = mK μ48 := (congrArg mK e63).trans rfl
            refine zx_aload_n dX11_plain_159 rfl (q := 3) rfl ?_
            refine zx_iconst (v := 0) dX11_plain_160 iv_iconst_0 ?_
            obtain ⟨h64, h⟩ := ck_e h
            refine zx_iald hG rfl ((kp_a (Eq.trans e62 e49) h46)).1 ((kp_a (Eq.trans e62 e49) h46)).2 (inb_e h64) dX11_plain_161 ?_
            by_cases c65 : ¬ (mI μ61 a2 (Int32.toNatClampNeg 0)) = 0
            · have h := it_t c65 h
              refine zx_if_ne_t (tgt := 174) dX11_plain_162 (by decide) c65 ?_
              refine zx_aload_n dX11_plain_174 rfl (q := 1) rfl ?_
              refine zx_getZ hG fl_X11_334 (kp_o (Eq.trans e62 e49) h45) dX11_plain_175 ?_
              by_cases c66 : ¬ (zb (mI μ61 a0 59)) = 0
              · have h := it_t c66 h
                refine zx_if_ne_t (tgt := 189) dX11_plain_178 (by decide) c66 ?_
                refine zx_sub (L' := [(0, .ref a0), (1, .int x1), (2, .ref a2), (3, .int x3)]) [1, 2, 3, 4] rfl ?_
                exact s_X11_plain_b189 hG ih _ _ _ _ _ _ _ h
              · have h := it_f c66 h
                refine zx_if_ne_f (tgt := 189) dX11_plain_178 (by decide) (Classical.not_not.mp c66) ?_
                refine zx_aload_n dX11_plain_181 rfl (q := 1) rfl ?_
                refine zx_getI hG fl_X11_38 (kp_o (Eq.trans e62 e49) h45) dX11_plain_182 ?_
                refine zx_iconst (v := (-1)) dX11_plain_185 iv_iconst_m1 ?_
                by_cases c67 : ¬ (mI μ61 a0 10) = ((-1))
                · have h := it_t c67 h
                  refine zx_icmp_ne_t (tgt := 197) dX11_plain_186 (by decide) c67 ?_
                  refine zx_aload_n dX11_plain_197 rfl (q := 1) rfl ?_
                  refine zx_iload dX11_plain_198 (q := 0) rfl ?_
                  refine zx_iconst (v := 1) dX11_plain_200 iv_iconst_1 ?_
                  refine zx_iadd dX11_plain_201 ?_
                  refine zx_putI hG fl_X11_343 fn_12_58 (kp_o (Eq.trans e62 e49) h45) dX11_plain_202 ?_
                  obtain ⟨μ68, e70, h⟩ := zlm_e h
                  refine zx_mem e70 ?_
                  have e69 : mK μ68 = mK μ61 := (congrArg mK e70).trans rfl
                  refine zx_aload_n dX11_plain_205 rfl (q := 1) rfl ?_
                  refine zx_iconst (v := 1) dX11_plain_206 iv_iconst_1 ?_
                  refine zx_putZ hG fl_X11_334 fn_12_59 (kp_o (Eq.trans (Eq.trans e69 e62) e49) h45) zb_1 dX11_plain_207 ?_
                  obtain ⟨μ71, e73, h⟩ := zlm_e h
                  refine zx_mem e73 ?_
                  have e72 : mK μ71 = mK μ68 := (congrArg mK e73).trans rfl
                  refine zx_aload_n dX11_plain_210 rfl (q := 1) rfl ?_
                  refine zx_aload_n dX11_plain_211 rfl (q := 1) rfl ?_
                  refine zx_getI hG fl_X11_38 (kp_o (Eq.trans (Eq.trans (Eq.trans e72 e69) e62) e49) h45) dX11_plain_212 ?_
                  refine zx_putI hG fl_X11_337 fn_12_57 (kp_o (Eq.trans (Eq.trans (Eq.trans e72 e69) e62) e49) h45) dX11_plain_215 ?_
                  obtain ⟨μ74, e76, h⟩ := zlm_e h
                  refine zx_mem e76 ?_
                  have e75 : mK μ74 = mK μ71 := (congrArg mK e76).trans rfl
                  refine zx_sub (L' := [(0, .ref a0), (1, .int x1), (2, .ref a2), (3, .int x3)]) [1, 2, 3, 4] rfl ?_
                  exact s_X11_plain_b218 hG ih _ _ _ _ _ _ _ h
                · have h := it_f c67 h
                  refine zx_icmp_ne_f (tgt := 197) dX11_plain_186 (by decide) (Classical.not_not.mp c67) ?_
                  refine zx_sub (L' := [(0, .ref a0), (1, .int x1), (2, .ref a2), (3, .int x3)]) [1, 2, 3, 4] rfl ?_
                  exact s_X11_plain_b189 hG ih _ _ _ _ _ _ _ h
            · have h := it_f c65 h
              refine zx_if_ne_f (tgt := 174) dX11_plain_162 (by decide) (Classical.not_not.mp c65) ?_
              refine zx_aload_n dX11_plain_165 rfl (q := 1) rfl ?_
              refine zx_iload dX11_plain_166 (q := 0) rfl ?_
              obtain ⟨uu77, μ79, z78, h⟩ := cl_e h
              refine zx_callV (As := [.int (mI μ a0 57)]) hG mf_X11_plainDoes cv_X11_349 (kp_o (Eq.trans e62 e49) h45) ⟨by decide, by decide⟩ rfl rfl (Nat.le_of_ble_eq_true rfl) (s_X11_plainDoes hG _ _ _ _ _ z78) (Nat.le_of_ble_eq_true rfl) dX11_plain_168 ?_
              refine zx_goto (tgt := 218) dX11_plain_171 (by decide) ?_
              refine zx_sub (L' := [(0, .ref a0), (1, .int x1), (2, .ref a2), (3, .int x3)]) [1, 2, 3, 4] rfl ?_
              exact s_X11_plain_b218 hG ih _ _ _ _ _ _ _ h
          · have h := it_f c57 h
            refine zx_if_eq_f (tgt := 150) dX11_plain_140 (by decide) c57 ?_
            refine zx_sub (L' := [(0, .ref a0), (1, .int x1), (2, .ref a2), (3, .int x3)]) [1, 2, 3, 4] rfl ?_
            exact s_X11_plain_b143 hG ih _ _ _ _ _ _ _ h
      · have h := it_f c55 h
        refine zx_icmp_ne_f (tgt := 127) dX11_plain_97 (by decide) (Classical.not_not.mp c55) ?_
        refine zx_aload_n dX11_plain_100 rfl (q := 3) rfl ?_
        refine zx_iconst (v := 0) dX11_plain_101 iv_iconst_0 ?_
        refine zx_bipush (v := 9) dX11_plain_102 iv_bipush_9 ?_
        obtain ⟨h80, h⟩ := ck_e h
        refine zx_iast hG rfl ((kp_a (e49) h46)).1 ((kp_a (e49) h46)).2 (inb_e h80) dX11_plain_104 ?_
        obtain ⟨μ81, e83, h⟩ := zlm_e h
        refine zx_mem e83 ?_
        have e82 : mK μ81 = mK μ48 := (congrArg mK e83).trans rfl
        refine zx_aload_n dX11_plain_105 rfl (q := 1) rfl ?_
        refine zx_iload dX11_plain_106 (q := 0) rfl ?_
        refine zx_putI hG fl_X11_343 fn_12_58 (kp_o (Eq.trans e82 e49) h45) dX11_plain_108 ?_
        obtain ⟨μ84, e86, h⟩ := zlm_e h
        refine zx_mem e86 ?_
        have e85 : mK μ84 = mK μ81 := (congrArg mK e86).trans rfl
        refine zx_aload_n dX11_plain_111 rfl (q := 1) rfl ?_
        refine zx_iconst (v := 1) dX11_plain_112 iv_iconst_1 ?_
        refine zx_putZ hG fl_X11_334 fn_12_59 (kp_o (Eq.trans (Eq.trans e85 e82) e49) h45) zb_1 dX11_plain_113 ?_
        obtain ⟨μ87, e89, h⟩ := zlm_e h
        refine zx_mem e89 ?_
        have e88 : mK μ87 = mK μ84 := (congrArg mK e89).trans rfl
        refine zx_aload_n dX11_plain_116 rfl (q := 1) rfl ?_
        refine zx_aload_n dX11_plain_117 rfl (q := 1) rfl ?_
        refine zx_getI hG fl_X11_41 (kp_o (Eq.trans (Eq.trans (Eq.trans e88 e85) e82) e49) h45) dX11_plain_118 ?_
        refine zx_putI hG fl_X11_337 fn_12_57 (kp_o (Eq.trans (Eq.trans (Eq.trans e88 e85) e82) e49) h45) dX11_plain_121 ?_
        obtain ⟨μ90, e92, h⟩ := zlm_e h
        refine zx_mem e92 ?_
        have e91 : mK μ90 = mK μ87 := (congrArg mK e92).trans rfl
        refine zx_goto (tgt := 218) dX11_plain_124 (by decide) ?_
        refine zx_sub (L' := [(0, .ref a0), (1, .int x1), (2, .ref a2), (3, .int x3)]) [1, 2, 3, 4] rfl ?_
        exact s_X11_plain_b218 hG ih _ _ _ _ _ _ _ h
set_option maxRecDepth 100000 in
theorem s_X11_plain_b52 {l : Launch} {G : Gt} (hG : Gok l G) (a0 : Nat) (x1 : Int32) (μ : Mm) (r : Nat) (μ' : Mm) (h : f_X11_plain_b52 a0 x1 μ = some (r, μ')) : ZX l G mX11_plain 52 [(0, .ref a0), (1, .int x1)] [] μ (.inl (some (.ref r))) μ' := by
  unfold f_X11_plain_b52 at h
  refine zx_aload_n dX11_plain_52 rfl (q := 0) rfl ?_
  refine zx_iconst (v := 0) dX11_plain_53 iv_iconst_0 ?_
  obtain ⟨h27, h⟩ := ck_e h
  refine zx_putI hG fl_X11_337 fn_12_57 h27 dX11_plain_54 ?_
  obtain ⟨μ28, e30, h⟩ := zlm_e h
  refine zx_mem e30 ?_
  have e29 : mK μ28 = mK μ := (congrArg mK e30).trans rfl
  refine zx_aload_n dX11_plain_57 rfl (q := 0) rfl ?_
  refine zx_iconst (v := 0) dX11_plain_58 iv_iconst_0 ?_
  refine zx_putZ hG fl_X11_334 fn_12_59 (kp_o (e29) h27) zb_0 dX11_plain_59 ?_
  obtain ⟨μ31, e33, h⟩ := zlm_e h
  refine zx_mem e33 ?_
  have e32 : mK μ31 = mK μ28 := (congrArg mK e33).trans rfl
  refine zx_aload_n dX11_plain_62 rfl (q := 0) rfl ?_
  refine zx_iconst (v := 0) dX11_plain_63 iv_iconst_0 ?_
  refine zx_putZ hG fl_X11_340 fn_12_60 (kp_o (Eq.trans e32 e29) h27) zb_0 dX11_plain_64 ?_
  obtain ⟨μ34, e36, h⟩ := zlm_e h
  refine zx_mem e36 ?_
  have e35 : mK μ34 = mK μ31 := (congrArg mK e36).trans rfl
  refine zx_iconst (v := 2) dX11_plain_67 iv_iconst_2 ?_
  obtain ⟨h37, h⟩ := ck_e h
  refine zx_newa 81 (at9 := .int) hG w_ac_int (by decide) (by decide) (smn_e h37) (h37).2 dX11_plain_68 ?_
  obtain ⟨p38, e41, h⟩ := zlm_e h
  obtain ⟨μ39, e42, h⟩ := zlm_e h
  refine zx_mem e42 (zx_stk e41 ?_)
  have h40 : mK μ39 p38 = 81 := nw_Kp e42 e41
  have h43 : isA 1 (mK μ39 p38) := by rw [h40]; decide
  refine zx_astore_n (L' := [(2, .ref p38), (0, .ref a0), (1, .int x1)]) dX11_plain_70 rfl (by decide) rfl ?_
  refine zx_iconst (v := 0) dX11_plain_71 iv_iconst_0 ?_
  refine zx_istore_n (L' := [(3, .int 0), (2, .ref p38), (0, .ref a0), (1, .int x1)]) dX11_plain_72 rfl (by decide) rfl ?_
  refine zx_sub (L' := [(0, .ref a0), (1, .int x1), (2, .ref p38), (3, .int 0)]) [2, 3, 1, 0] rfl ?_
  exact s_X11_plain_b73 hG 5000 _ _ _ _ _ _ _ h
set_option maxRecDepth 100000 in
theorem s_X11_plain_b28 {l : Launch} {G : Gt} (hG : Gok l G) : ∀ (n : Nat) (a0 : Nat) (x1 : Int32) (x2 : Int32) (μ : Mm) (r : Nat) (μ' : Mm), f_X11_plain_b28 n a0 x1 x2 μ = some (r, μ') → ZX l G mX11_plain 28 [(0, .ref a0), (1, .int x1), (2, .int x2)] [] μ (.inl (some (.ref r))) μ' := by
  intro n
  induction n with
  | zero =>
    intro a0 x1 x2 μ r μ' h
    cases h
  | succ n ih =>
    intro a0 x1 x2 μ r μ' h
    unfold f_X11_plain_b28 at h
    refine zx_iload_n dX11_plain_28 rfl (q := 2) rfl ?_
    refine zx_bipush (v := 64) dX11_plain_29 iv_bipush_64 ?_
    by_cases c14 : 64 ≤ x2
    · have h := it_t c14 h
      refine zx_icmp_ge_t (tgt := 52) dX11_plain_31 (by decide) c14 ?_
      refine zx_sub (L' := [(0, .ref a0), (1, .int x1)]) [0, 1] rfl ?_
      exact s_X11_plain_b52 hG _ _ _ _ _ h
    · have h := it_f c14 h
      refine zx_icmp_ge_f (tgt := 52) dX11_plain_31 (by decide) c14 ?_
      refine zx_aload_n dX11_plain_34 rfl (q := 0) rfl ?_
      obtain ⟨h15, h⟩ := ck_e h
      obtain ⟨p16, h17, h⟩ := bd_e h
      refine zx_getR hG fl_X11_117 h15 h17 dX11_plain_35 ?_
      refine zx_iload_n dX11_plain_38 rfl (q := 2) rfl ?_
      refine zx_aload_n dX11_plain_39 rfl (q := 0) rfl ?_
      obtain ⟨p18, h19, h⟩ := bd_e h
      refine zx_getR hG fl_X11_47 h15 h19 dX11_plain_40 ?_
      refine zx_iload_n dX11_plain_43 rfl (q := 2) rfl ?_
      obtain ⟨h20, h⟩ := ck_e h
      obtain ⟨h21, h⟩ := ck_e h
      refine zx_iald hG rfl (h20).1 (h20).2 (inb_e h21) dX11_plain_44 ?_
      obtain ⟨h22, h⟩ := ck_e h
      obtain ⟨h23, h⟩ := ck_e h
      refine zx_iast hG rfl (h22).1 (h22).2 (inb_e h23) dX11_plain_45 ?_
      obtain ⟨μ24, e26, h⟩ := zlm_e h
      refine zx_mem e26 ?_
      have e25 : mK μ24 = mK μ := (congrArg mK e26).trans rfl
      refine zx_iinc (q := 2) (v := x2 + 1) (L' := [(2, .int (x2 + 1)), (0, .ref a0), (1, .int x1)]) dX11_plain_46 rfl rfl (by decide) rfl ?_
      refine zx_goto (tgt := 28) dX11_plain_49 (by decide) ?_
      refine zx_sub (L' := [(0, .ref a0), (1, .int x1), (2, .int (x2 + 1))]) [1, 2, 0] rfl ?_
      exact ih _ _ _ _ _ _ h
set_option maxRecDepth 100000 in
theorem s_X11_plain_b26 {l : Launch} {G : Gt} (hG : Gok l G) (a0 : Nat) (x1 : Int32) (μ : Mm) (r : Nat) (μ' : Mm) (h : f_X11_plain_b26 a0 x1 μ = some (r, μ')) : ZX l G mX11_plain 26 [(0, .ref a0), (1, .int x1)] [] μ (.inl (some (.ref r))) μ' := by
  unfold f_X11_plain_b26 at h
  refine zx_iconst (v := 0) dX11_plain_26 iv_iconst_0 ?_
  refine zx_istore_n (L' := [(2, .int 0), (0, .ref a0), (1, .int x1)]) dX11_plain_27 rfl (by decide) rfl ?_
  refine zx_sub (L' := [(0, .ref a0), (1, .int x1), (2, .int 0)]) [1, 2, 0] rfl ?_
  exact s_X11_plain_b28 hG 5000 _ _ _ _ _ _ h
set_option maxRecDepth 100000 in
theorem s_X11_plain_b2 {l : Launch} {G : Gt} (hG : Gok l G) : ∀ (n : Nat) (a0 : Nat) (x1 : Int32) (x2 : Int32) (μ : Mm) (r : Nat) (μ' : Mm), f_X11_plain_b2 n a0 x1 x2 μ = some (r, μ') → ZX l G mX11_plain 2 [(0, .ref a0), (1, .int x1), (2, .int x2)] [] μ (.inl (some (.ref r))) μ' := by
  intro n
  induction n with
  | zero =>
    intro a0 x1 x2 μ r μ' h
    cases h
  | succ n ih =>
    intro a0 x1 x2 μ r μ' h
    unfold f_X11_plain_b2 at h
    refine zx_iload_n dX11_plain_2 rfl (q := 2) rfl ?_
    refine zx_bipush (v := 8) dX11_plain_3 iv_bipush_8 ?_
    by_cases c1 : 8 ≤ x2
    · have h := it_t c1 h
      refine zx_icmp_ge_t (tgt := 26) dX11_plain_5 (by decide) c1 ?_
      refine zx_sub (L' := [(0, .ref a0), (1, .int x1)]) [0, 1] rfl ?_
      exact s_X11_plain_b26 hG _ _ _ _ _ h
    · have h := it_f c1 h
      refine zx_icmp_ge_f (tgt := 26) dX11_plain_5 (by decide) c1 ?_
      refine zx_aload_n dX11_plain_8 rfl (q := 0) rfl ?_
      obtain ⟨h2, h⟩ := ck_e h
      obtain ⟨p3, h4, h⟩ := bd_e h
      refine zx_getR hG fl_X11_114 h2 h4 dX11_plain_9 ?_
      refine zx_iload_n dX11_plain_12 rfl (q := 2) rfl ?_
      refine zx_aload_n dX11_plain_13 rfl (q := 0) rfl ?_
      obtain ⟨p5, h6, h⟩ := bd_e h
      refine zx_getR hG fl_X11_44 h2 h6 dX11_plain_14 ?_
      refine zx_iload_n dX11_plain_17 rfl (q := 2) rfl ?_
      obtain ⟨h7, h⟩ := ck_e h
      obtain ⟨h8, h⟩ := ck_e h
      refine zx_iald hG rfl (h7).1 (h7).2 (inb_e h8) dX11_plain_18 ?_
      obtain ⟨h9, h⟩ := ck_e h
      obtain ⟨h10, h⟩ := ck_e h
      refine zx_iast hG rfl (h9).1 (h9).2 (inb_e h10) dX11_plain_19 ?_
      obtain ⟨μ11, e13, h⟩ := zlm_e h
      refine zx_mem e13 ?_
      have e12 : mK μ11 = mK μ := (congrArg mK e13).trans rfl
      refine zx_iinc (q := 2) (v := x2 + 1) (L' := [(2, .int (x2 + 1)), (0, .ref a0), (1, .int x1)]) dX11_plain_20 rfl rfl (by decide) rfl ?_
      refine zx_goto (tgt := 2) dX11_plain_23 (by decide) ?_
      refine zx_sub (L' := [(0, .ref a0), (1, .int x1), (2, .int (x2 + 1))]) [1, 2, 0] rfl ?_
      exact ih _ _ _ _ _ _ h
set_option maxRecDepth 100000 in
theorem s_X11_plain {l : Launch} {G : Gt} (hG : Gok l G) (a0 : Nat) (x1 : Int32) (μ : Mm) (r : Nat) (μ' : Mm) (h : f_X11_plain a0 x1 μ = some (r, μ')) : ZX l G mX11_plain 0 [(0, .ref a0), (1, .int x1)] [] μ (.inl (some (.ref r))) μ' := by
  unfold f_X11_plain at h
  refine zx_iconst (v := 0) dX11_plain_0 iv_iconst_0 ?_
  refine zx_istore_n (L' := [(2, .int 0), (0, .ref a0), (1, .int x1)]) dX11_plain_1 rfl (by decide) rfl ?_
  refine zx_sub (L' := [(0, .ref a0), (1, .int x1), (2, .int 0)]) [1, 2, 0] rfl ?_
  exact s_X11_plain_b2 hG 5000 _ _ _ _ _ _ h
def f_X11_kindByPlain (a0 : Nat) (x1 : Int32) (μ : Mm) : Option (Int32 × Mm) :=
  ck (mK μ a0 = 112) <|
  cl (f_X11_noEnd a0 x1 μ) fun y2 μ4 =>
  if y2 = 0 then
    ck (mK μ4 a0 = 112) <|
    cl (f_X11_plain a0 (x1 + 1) μ4) fun p7 μ9 =>
    ck (isA 1 (mK μ9 p7)) <|
    ck (inb 0 (mL μ9 p7)) <|
    some (mI μ9 p7 (Int32.toNatClampNeg 0), μ9)
  else
    some (0, μ4)
set_option maxRecDepth 100000 in
theorem s_X11_kindByPlain {l : Launch} {G : Gt} (hG : Gok l G) (a0 : Nat) (x1 : Int32) (μ : Mm) (r : Int32) (μ' : Mm) (h : f_X11_kindByPlain a0 x1 μ = some (r, μ')) : ZX l G mX11_kindByPlain 0 [(0, .ref a0), (1, .int x1)] [] μ (.inl (some (.int r))) μ' := by
  unfold f_X11_kindByPlain at h
  refine zx_aload_n dX11_kindByPlain_0 rfl (q := 0) rfl ?_
  refine zx_iload_n dX11_kindByPlain_1 rfl (q := 1) rfl ?_
  obtain ⟨h1, h⟩ := ck_e h
  obtain ⟨y2, μ4, z3, h⟩ := cl_e h
  refine zx_callV (As := [.int x1]) hG mf_X11_noEnd cv_X11_328 h1 ⟨by decide, by decide⟩ rfl rfl (Nat.le_of_ble_eq_true rfl) (s_X11_noEnd hG _ _ _ _ _ z3) (Nat.le_of_ble_eq_true rfl) dX11_kindByPlain_2 ?_
  by_cases c5 : y2 = 0
  · have h := it_t c5 h
    refine zx_if_eq_t (tgt := 12) dX11_kindByPlain_5 (by decide) c5 ?_
    refine zx_aload_n dX11_kindByPlain_12 rfl (q := 0) rfl ?_
    refine zx_iload_n dX11_kindByPlain_13 rfl (q := 1) rfl ?_
    refine zx_iconst (v := 1) dX11_kindByPlain_14 iv_iconst_1 ?_
    refine zx_iadd dX11_kindByPlain_15 ?_
    obtain ⟨h6, h⟩ := ck_e h
    obtain ⟨p7, μ9, z8, h⟩ := cl_e h
    refine zx_callV (As := [.int (x1 + 1)]) hG mf_X11_plain cv_X11_352 h6 ⟨by decide, by decide⟩ rfl rfl (Nat.le_of_ble_eq_true rfl) (s_X11_plain hG _ _ _ _ _ z8) (Nat.le_of_ble_eq_true rfl) dX11_kindByPlain_16 ?_
    refine zx_iconst (v := 0) dX11_kindByPlain_19 iv_iconst_0 ?_
    obtain ⟨h10, h⟩ := ck_e h
    obtain ⟨h11, h⟩ := ck_e h
    refine zx_iald hG rfl (h10).1 (h10).2 (inb_e h11) dX11_kindByPlain_20 ?_
    cases h
    exact zx_iret dX11_kindByPlain_21 rfl
  · have h := it_f c5 h
    refine zx_if_eq_f (tgt := 12) dX11_kindByPlain_5 (by decide) c5 ?_
    refine zx_iconst (v := 0) dX11_kindByPlain_8 iv_iconst_0 ?_
    refine zx_goto (tgt := 21) dX11_kindByPlain_9 (by decide) ?_
    cases h
    exact zx_iret dX11_kindByPlain_21 rfl
def f_X11_placeByPlain (a0 : Nat) (x1 : Int32) (μ : Mm) : Option (Int32 × Mm) :=
  ck (mK μ a0 = 112) <|
  cl (f_X11_noEnd a0 x1 μ) fun y2 μ4 =>
  if y2 = 0 then
    ck (mK μ4 a0 = 112) <|
    cl (f_X11_plain a0 (x1 + 1) μ4) fun p7 μ9 =>
    ck (isA 1 (mK μ9 p7)) <|
    ck (inb 1 (mL μ9 p7)) <|
    some (mI μ9 p7 (Int32.toNatClampNeg 1), μ9)
  else
    some (0, μ4)
set_option maxRecDepth 100000 in
theorem s_X11_placeByPlain {l : Launch} {G : Gt} (hG : Gok l G) (a0 : Nat) (x1 : Int32) (μ : Mm) (r : Int32) (μ' : Mm) (h : f_X11_placeByPlain a0 x1 μ = some (r, μ')) : ZX l G mX11_placeByPlain 0 [(0, .ref a0), (1, .int x1)] [] μ (.inl (some (.int r))) μ' := by
  unfold f_X11_placeByPlain at h
  refine zx_aload_n dX11_placeByPlain_0 rfl (q := 0) rfl ?_
  refine zx_iload_n dX11_placeByPlain_1 rfl (q := 1) rfl ?_
  obtain ⟨h1, h⟩ := ck_e h
  obtain ⟨y2, μ4, z3, h⟩ := cl_e h
  refine zx_callV (As := [.int x1]) hG mf_X11_noEnd cv_X11_328 h1 ⟨by decide, by decide⟩ rfl rfl (Nat.le_of_ble_eq_true rfl) (s_X11_noEnd hG _ _ _ _ _ z3) (Nat.le_of_ble_eq_true rfl) dX11_placeByPlain_2 ?_
  by_cases c5 : y2 = 0
  · have h := it_t c5 h
    refine zx_if_eq_t (tgt := 12) dX11_placeByPlain_5 (by decide) c5 ?_
    refine zx_aload_n dX11_placeByPlain_12 rfl (q := 0) rfl ?_
    refine zx_iload_n dX11_placeByPlain_13 rfl (q := 1) rfl ?_
    refine zx_iconst (v := 1) dX11_placeByPlain_14 iv_iconst_1 ?_
    refine zx_iadd dX11_placeByPlain_15 ?_
    obtain ⟨h6, h⟩ := ck_e h
    obtain ⟨p7, μ9, z8, h⟩ := cl_e h
    refine zx_callV (As := [.int (x1 + 1)]) hG mf_X11_plain cv_X11_352 h6 ⟨by decide, by decide⟩ rfl rfl (Nat.le_of_ble_eq_true rfl) (s_X11_plain hG _ _ _ _ _ z8) (Nat.le_of_ble_eq_true rfl) dX11_placeByPlain_16 ?_
    refine zx_iconst (v := 1) dX11_placeByPlain_19 iv_iconst_1 ?_
    obtain ⟨h10, h⟩ := ck_e h
    obtain ⟨h11, h⟩ := ck_e h
    refine zx_iald hG rfl (h10).1 (h10).2 (inb_e h11) dX11_placeByPlain_20 ?_
    cases h
    exact zx_iret dX11_placeByPlain_21 rfl
  · have h := it_f c5 h
    refine zx_if_eq_f (tgt := 12) dX11_placeByPlain_5 (by decide) c5 ?_
    refine zx_iconst (v := 0) dX11_placeByPlain_8 iv_iconst_0 ?_
    refine zx_goto (tgt := 21) dX11_placeByPlain_9 (by decide) ?_
    cases h
    exact zx_iret dX11_placeByPlain_21 rfl
def f_X11_register_b16 (a0 : Nat) (x1 : Int32) (s0 : Int32) (s1 : Nat) (μ : Mm) : Option (Int32 × Mm) :=
  ck (mK μ s1 = 112) <|
  zl (sI μ s1 54 s0) fun μ5 =>
  ck (mK μ5 a0 = 112) <|
  if (mI μ5 a0 54) ≤ 0 then
    bd (mR μ5 a0 18) fun p10 =>
    bd (mR μ5 a0 17) fun p12 =>
    ck (isA 1 (mK μ5 p12)) <|
    ck (inb x1 (mL μ5 p12)) <|
    ck (isA 1 (mK μ5 p10)) <|
    ck (inb (mI μ5 p12 (Int32.toNatClampNeg x1)) (mL μ5 p10)) <|
    some (mI μ5 p10 (Int32.toNatClampNeg (mI μ5 p12 (Int32.toNatClampNeg x1))), μ5)
  else
    some (0, μ5)
def f_X11_register (a0 : Nat) (x1 : Int32) (μ : Mm) : Option (Int32 × Mm) :=
  bd (f_X11_in x1 0 7) fun y1 =>
  if y1 = 0 then
    f_X11_register_b16 a0 x1 1 a0 μ
  else
    f_X11_register_b16 a0 x1 0 a0 μ
set_option maxRecDepth 100000 in
theorem s_X11_register_b16 {l : Launch} {G : Gt} (hG : Gok l G) (a0 : Nat) (x1 : Int32) (s0 : Int32) (s1 : Nat) (μ : Mm) (r : Int32) (μ' : Mm) (h : f_X11_register_b16 a0 x1 s0 s1 μ = some (r, μ')) : ZX l G mX11_register 16 [(0, .ref a0), (1, .int x1)] [.int s0, .ref s1] μ (.inl (some (.int r))) μ' := by
  unfold f_X11_register_b16 at h
  obtain ⟨h4, h⟩ := ck_e h
  refine zx_putI hG fl_X11_123 fn_12_54 h4 dX11_register_16 ?_
  obtain ⟨μ5, e7, h⟩ := zlm_e h
  refine zx_mem e7 ?_
  have e6 : mK μ5 = mK μ := (congrArg mK e7).trans rfl
  refine zx_aload_n dX11_register_19 rfl (q := 0) rfl ?_
  obtain ⟨h8, h⟩ := ck_e h
  refine zx_getI hG fl_X11_123 h8 dX11_register_20 ?_
  by_cases c9 : (mI μ5 a0 54) ≤ 0
  · have h := it_t c9 h
    refine zx_if_le_t (tgt := 30) dX11_register_23 (by decide) c9 ?_
    refine zx_aload_n dX11_register_30 rfl (q := 0) rfl ?_
    obtain ⟨p10, h11, h⟩ := bd_e h
    refine zx_getR hG fl_X11_62 h8 h11 dX11_register_31 ?_
    refine zx_aload_n dX11_register_34 rfl (q := 0) rfl ?_
    obtain ⟨p12, h13, h⟩ := bd_e h
    refine zx_getR hG fl_X11_59 h8 h13 dX11_register_35 ?_
    refine zx_iload_n dX11_register_38 rfl (q := 1) rfl ?_
    obtain ⟨h14, h⟩ := ck_e h
    obtain ⟨h15, h⟩ := ck_e h
    refine zx_iald hG rfl (h14).1 (h14).2 (inb_e h15) dX11_register_39 ?_
    obtain ⟨h16, h⟩ := ck_e h
    obtain ⟨h17, h⟩ := ck_e h
    refine zx_iald hG rfl (h16).1 (h16).2 (inb_e h17) dX11_register_40 ?_
    cases h
    exact zx_iret dX11_register_41 rfl
  · have h := it_f c9 h
    refine zx_if_le_f (tgt := 30) dX11_register_23 (by decide) c9 ?_
    refine zx_iconst (v := 0) dX11_register_26 iv_iconst_0 ?_
    refine zx_goto (tgt := 41) dX11_register_27 (by decide) ?_
    cases h
    exact zx_iret dX11_register_41 rfl
set_option maxRecDepth 100000 in
theorem s_X11_register {l : Launch} {G : Gt} (hG : Gok l G) (a0 : Nat) (x1 : Int32) (μ : Mm) (r : Int32) (μ' : Mm) (h : f_X11_register a0 x1 μ = some (r, μ')) : ZX l G mX11_register 0 [(0, .ref a0), (1, .int x1)] [] μ (.inl (some (.int r))) μ' := by
  unfold f_X11_register at h
  refine zx_aload_n dX11_register_0 rfl (q := 0) rfl ?_
  refine zx_iload_n dX11_register_1 rfl (q := 1) rfl ?_
  refine zx_iconst (v := 0) dX11_register_2 iv_iconst_0 ?_
  refine zx_bipush (v := 7) dX11_register_3 iv_bipush_7 ?_
  obtain ⟨y1, z2, h⟩ := bd_e h
  refine zx_callS (As := [.int x1, .int 0, .int 7]) hG mf_X11_in cs_X11_129 ⟨by decide, by decide⟩ rfl rfl (Nat.le_of_ble_eq_true rfl) (s_X11_in hG _ _ _ _ _ z2) (Nat.le_of_ble_eq_true rfl) dX11_register_5 ?_
  by_cases c3 : y1 = 0
  · have h := it_t c3 h
    refine zx_if_eq_t (tgt := 15) dX11_register_8 (by decide) c3 ?_
    refine zx_iconst (v := 1) dX11_register_15 iv_iconst_1 ?_
    exact s_X11_register_b16 hG _ _ _ _ _ _ _ h
  · have h := it_f c3 h
    refine zx_if_eq_f (tgt := 15) dX11_register_8 (by decide) c3 ?_
    refine zx_iconst (v := 0) dX11_register_11 iv_iconst_0 ?_
    refine zx_goto (tgt := 16) dX11_register_12 (by decide) ?_
    exact s_X11_register_b16 hG _ _ _ _ _ _ _ h
def f_X11_registerByPlain_b40 (μ : Mm) : Option (Int32 × Mm) :=
  some (0, μ)
def f_X11_registerByPlain_b16 (a0 : Nat) (x1 : Int32) (s0 : Int32) (s1 : Nat) (μ : Mm) : Option (Int32 × Mm) :=
  ck (mK μ s1 = 112) <|
  zl (sI μ s1 54 s0) fun μ5 =>
  ck (mK μ5 a0 = 112) <|
  cl (f_X11_plain a0 (mI μ5 a0 46) μ5) fun p9 μ11 =>
  ck (mK μ11 a0 = 112) <|
  if 0 < (mI μ11 a0 54) then
    f_X11_registerByPlain_b40 μ11
  else
    ck (isA1256 (mK μ11 p9)) <|
    if ¬ (nI (mL μ11 p9)) = 0 then
      bd (mR μ11 a0 55) fun p16 =>
      ck (isA 1 (mK μ11 p16)) <|
      ck (inb x1 (mL μ11 p16)) <|
      some (mI μ11 p16 (Int32.toNatClampNeg x1), μ11)
    else
      f_X11_registerByPlain_b40 μ11
def f_X11_registerByPlain (a0 : Nat) (x1 : Int32) (μ : Mm) : Option (Int32 × Mm) :=
  bd (f_X11_in x1 0 7) fun y1 =>
  if y1 = 0 then
    f_X11_registerByPlain_b16 a0 x1 1 a0 μ
  else
    f_X11_registerByPlain_b16 a0 x1 0 a0 μ
set_option maxRecDepth 100000 in
theorem s_X11_registerByPlain_b40 {l : Launch} {G : Gt} (hG : Gok l G) (μ : Mm) (r : Int32) (μ' : Mm) (h : f_X11_registerByPlain_b40 μ = some (r, μ')) : ZX l G mX11_registerByPlain 40 [] [] μ (.inl (some (.int r))) μ' := by
  unfold f_X11_registerByPlain_b40 at h
  refine zx_iconst (v := 0) dX11_registerByPlain_40 iv_iconst_0 ?_
  refine zx_goto (tgt := 50) dX11_registerByPlain_41 (by decide) ?_
  cases h
  exact zx_iret dX11_registerByPlain_50 rfl
set_option maxRecDepth 100000 in
theorem s_X11_registerByPlain_b16 {l : Launch} {G : Gt} (hG : Gok l G) (a0 : Nat) (x1 : Int32) (s0 : Int32) (s1 : Nat) (μ : Mm) (r : Int32) (μ' : Mm) (h : f_X11_registerByPlain_b16 a0 x1 s0 s1 μ = some (r, μ')) : ZX l G mX11_registerByPlain 16 [(0, .ref a0), (1, .int x1)] [.int s0, .ref s1] μ (.inl (some (.int r))) μ' := by
  unfold f_X11_registerByPlain_b16 at h
  obtain ⟨h4, h⟩ := ck_e h
  refine zx_putI hG fl_X11_123 fn_12_54 h4 dX11_registerByPlain_16 ?_
  obtain ⟨μ5, e7, h⟩ := zlm_e h
  refine zx_mem e7 ?_
  have e6 : mK μ5 = mK μ := (congrArg mK e7).trans rfl
  refine zx_aload_n dX11_registerByPlain_19 rfl (q := 0) rfl ?_
  refine zx_aload_n dX11_registerByPlain_20 rfl (q := 0) rfl ?_
  obtain ⟨h8, h⟩ := ck_e h
  refine zx_getI hG fl_X11_150 h8 dX11_registerByPlain_21 ?_
  obtain ⟨p9, μ11, z10, h⟩ := cl_e h
  refine zx_callV (As := [.int (mI μ5 a0 46)]) hG mf_X11_plain cv_X11_352 h8 ⟨by decide, by decide⟩ rfl rfl (Nat.le_of_ble_eq_true rfl) (s_X11_plain hG _ _ _ _ _ z10) (Nat.le_of_ble_eq_true rfl) dX11_registerByPlain_24 ?_
  refine zx_astore_n (L' := [(2, .ref p9), (0, .ref a0), (1, .int x1)]) dX11_registerByPlain_27 rfl (by decide) rfl ?_
  refine zx_aload_n dX11_registerByPlain_28 rfl (q := 1) rfl ?_
  obtain ⟨h12, h⟩ := ck_e h
  refine zx_getI hG fl_X11_123 h12 dX11_registerByPlain_29 ?_
  by_cases c13 : 0 < (mI μ11 a0 54)
  · have h := it_t c13 h
    refine zx_if_gt_t (tgt := 40) dX11_registerByPlain_32 (by decide) c13 ?_
    refine zx_sub (L' := []) [] rfl ?_
    exact s_X11_registerByPlain_b40 hG _ _ _ h
  · have h := it_f c13 h
    refine zx_if_gt_f (tgt := 40) dX11_registerByPlain_32 (by decide) c13 ?_
    refine zx_aload_n dX11_registerByPlain_35 rfl (q := 0) rfl ?_
    obtain ⟨h14, h⟩ := ck_e h
    refine zx_alen hG rfl (h14).1 (h14).2 dX11_registerByPlain_36 ?_
    by_cases c15 : ¬ (nI (mL μ11 p9)) = 0
    · have h := it_t c15 h
      refine zx_if_ne_t (tgt := 44) dX11_registerByPlain_37 (by decide) c15 ?_
      refine zx_aload_n dX11_registerByPlain_44 rfl (q := 1) rfl ?_
      obtain ⟨p16, h17, h⟩ := bd_e h
      refine zx_getR hG fl_X11_114 h12 h17 dX11_registerByPlain_45 ?_
      refine zx_iload_n dX11_registerByPlain_48 rfl (q := 2) rfl ?_
      obtain ⟨h18, h⟩ := ck_e h
      obtain ⟨h19, h⟩ := ck_e h
      refine zx_iald hG rfl (h18).1 (h18).2 (inb_e h19) dX11_registerByPlain_49 ?_
      cases h
      exact zx_iret dX11_registerByPlain_50 rfl
    · have h := it_f c15 h
      refine zx_if_ne_f (tgt := 44) dX11_registerByPlain_37 (by decide) (Classical.not_not.mp c15) ?_
      refine zx_sub (L' := []) [] rfl ?_
      exact s_X11_registerByPlain_b40 hG _ _ _ h
set_option maxRecDepth 100000 in
theorem s_X11_registerByPlain {l : Launch} {G : Gt} (hG : Gok l G) (a0 : Nat) (x1 : Int32) (μ : Mm) (r : Int32) (μ' : Mm) (h : f_X11_registerByPlain a0 x1 μ = some (r, μ')) : ZX l G mX11_registerByPlain 0 [(0, .ref a0), (1, .int x1)] [] μ (.inl (some (.int r))) μ' := by
  unfold f_X11_registerByPlain at h
  refine zx_aload_n dX11_registerByPlain_0 rfl (q := 0) rfl ?_
  refine zx_iload_n dX11_registerByPlain_1 rfl (q := 1) rfl ?_
  refine zx_iconst (v := 0) dX11_registerByPlain_2 iv_iconst_0 ?_
  refine zx_bipush (v := 7) dX11_registerByPlain_3 iv_bipush_7 ?_
  obtain ⟨y1, z2, h⟩ := bd_e h
  refine zx_callS (As := [.int x1, .int 0, .int 7]) hG mf_X11_in cs_X11_129 ⟨by decide, by decide⟩ rfl rfl (Nat.le_of_ble_eq_true rfl) (s_X11_in hG _ _ _ _ _ z2) (Nat.le_of_ble_eq_true rfl) dX11_registerByPlain_5 ?_
  by_cases c3 : y1 = 0
  · have h := it_t c3 h
    refine zx_if_eq_t (tgt := 15) dX11_registerByPlain_8 (by decide) c3 ?_
    refine zx_iconst (v := 1) dX11_registerByPlain_15 iv_iconst_1 ?_
    exact s_X11_registerByPlain_b16 hG _ _ _ _ _ _ _ h
  · have h := it_f c3 h
    refine zx_if_eq_f (tgt := 15) dX11_registerByPlain_8 (by decide) c3 ?_
    refine zx_iconst (v := 0) dX11_registerByPlain_11 iv_iconst_0 ?_
    refine zx_goto (tgt := 16) dX11_registerByPlain_12 (by decide) ?_
    exact s_X11_registerByPlain_b16 hG _ _ _ _ _ _ _ h
def f_X11_word_b13 (a0 : Nat) (x1 : Int32) (s0 : Int32) (s1 : Nat) (μ : Mm) : Option (Int32 × Mm) :=
  ck (mK μ s1 = 112) <|
  zl (sI μ s1 54 s0) fun μ5 =>
  ck (mK μ5 a0 = 112) <|
  if (mI μ5 a0 54) ≤ 0 then
    bd (mR μ5 a0 15) fun p10 =>
    ck (isA 1 (mK μ5 p10)) <|
    ck (inb x1 (mL μ5 p10)) <|
    some (mI μ5 p10 (Int32.toNatClampNeg x1), μ5)
  else
    some (0, μ5)
def f_X11_word (a0 : Nat) (x1 : Int32) (μ : Mm) : Option (Int32 × Mm) :=
  bd (f_X11_isAddress x1) fun y1 =>
  if y1 = 0 then
    f_X11_word_b13 a0 x1 1 a0 μ
  else
    f_X11_word_b13 a0 x1 0 a0 μ
set_option maxRecDepth 100000 in
theorem s_X11_word_b13 {l : Launch} {G : Gt} (hG : Gok l G) (a0 : Nat) (x1 : Int32) (s0 : Int32) (s1 : Nat) (μ : Mm) (r : Int32) (μ' : Mm) (h : f_X11_word_b13 a0 x1 s0 s1 μ = some (r, μ')) : ZX l G mX11_word 13 [(0, .ref a0), (1, .int x1)] [.int s0, .ref s1] μ (.inl (some (.int r))) μ' := by
  unfold f_X11_word_b13 at h
  obtain ⟨h4, h⟩ := ck_e h
  refine zx_putI hG fl_X11_123 fn_12_54 h4 dX11_word_13 ?_
  obtain ⟨μ5, e7, h⟩ := zlm_e h
  refine zx_mem e7 ?_
  have e6 : mK μ5 = mK μ := (congrArg mK e7).trans rfl
  refine zx_aload_n dX11_word_16 rfl (q := 0) rfl ?_
  obtain ⟨h8, h⟩ := ck_e h
  refine zx_getI hG fl_X11_123 h8 dX11_word_17 ?_
  by_cases c9 : (mI μ5 a0 54) ≤ 0
  · have h := it_t c9 h
    refine zx_if_le_t (tgt := 27) dX11_word_20 (by decide) c9 ?_
    refine zx_aload_n dX11_word_27 rfl (q := 0) rfl ?_
    obtain ⟨p10, h11, h⟩ := bd_e h
    refine zx_getR hG fl_X11_53 h8 h11 dX11_word_28 ?_
    refine zx_iload_n dX11_word_31 rfl (q := 1) rfl ?_
    obtain ⟨h12, h⟩ := ck_e h
    obtain ⟨h13, h⟩ := ck_e h
    refine zx_iald hG rfl (h12).1 (h12).2 (inb_e h13) dX11_word_32 ?_
    cases h
    exact zx_iret dX11_word_33 rfl
  · have h := it_f c9 h
    refine zx_if_le_f (tgt := 27) dX11_word_20 (by decide) c9 ?_
    refine zx_iconst (v := 0) dX11_word_23 iv_iconst_0 ?_
    refine zx_goto (tgt := 33) dX11_word_24 (by decide) ?_
    cases h
    exact zx_iret dX11_word_33 rfl
set_option maxRecDepth 100000 in
theorem s_X11_word {l : Launch} {G : Gt} (hG : Gok l G) (a0 : Nat) (x1 : Int32) (μ : Mm) (r : Int32) (μ' : Mm) (h : f_X11_word a0 x1 μ = some (r, μ')) : ZX l G mX11_word 0 [(0, .ref a0), (1, .int x1)] [] μ (.inl (some (.int r))) μ' := by
  unfold f_X11_word at h
  refine zx_aload_n dX11_word_0 rfl (q := 0) rfl ?_
  refine zx_iload_n dX11_word_1 rfl (q := 1) rfl ?_
  obtain ⟨y1, z2, h⟩ := bd_e h
  refine zx_callS (As := [.int x1]) hG mf_X11_isAddress cs_X11_225 ⟨by decide, by decide⟩ rfl rfl (Nat.le_of_ble_eq_true rfl) (s_X11_isAddress hG _ _ _ z2) (Nat.le_of_ble_eq_true rfl) dX11_word_2 ?_
  by_cases c3 : y1 = 0
  · have h := it_t c3 h
    refine zx_if_eq_t (tgt := 12) dX11_word_5 (by decide) c3 ?_
    refine zx_iconst (v := 1) dX11_word_12 iv_iconst_1 ?_
    exact s_X11_word_b13 hG _ _ _ _ _ _ _ h
  · have h := it_f c3 h
    refine zx_if_eq_f (tgt := 12) dX11_word_5 (by decide) c3 ?_
    refine zx_iconst (v := 0) dX11_word_8 iv_iconst_0 ?_
    refine zx_goto (tgt := 13) dX11_word_9 (by decide) ?_
    exact s_X11_word_b13 hG _ _ _ _ _ _ _ h
def f_X11_wordByPlain_b37 (μ : Mm) : Option (Int32 × Mm) :=
  some (0, μ)
def f_X11_wordByPlain_b13 (a0 : Nat) (x1 : Int32) (s0 : Int32) (s1 : Nat) (μ : Mm) : Option (Int32 × Mm) :=
  ck (mK μ s1 = 112) <|
  zl (sI μ s1 54 s0) fun μ5 =>
  ck (mK μ5 a0 = 112) <|
  cl (f_X11_plain a0 (mI μ5 a0 46) μ5) fun p9 μ11 =>
  ck (mK μ11 a0 = 112) <|
  if 0 < (mI μ11 a0 54) then
    f_X11_wordByPlain_b37 μ11
  else
    ck (isA1256 (mK μ11 p9)) <|
    if ¬ (nI (mL μ11 p9)) = 0 then
      bd (mR μ11 a0 56) fun p16 =>
      ck (isA 1 (mK μ11 p16)) <|
      ck (inb x1 (mL μ11 p16)) <|
      some (mI μ11 p16 (Int32.toNatClampNeg x1), μ11)
    else
      f_X11_wordByPlain_b37 μ11
def f_X11_wordByPlain (a0 : Nat) (x1 : Int32) (μ : Mm) : Option (Int32 × Mm) :=
  bd (f_X11_isAddress x1) fun y1 =>
  if y1 = 0 then
    f_X11_wordByPlain_b13 a0 x1 1 a0 μ
  else
    f_X11_wordByPlain_b13 a0 x1 0 a0 μ
set_option maxRecDepth 100000 in
theorem s_X11_wordByPlain_b37 {l : Launch} {G : Gt} (hG : Gok l G) (μ : Mm) (r : Int32) (μ' : Mm) (h : f_X11_wordByPlain_b37 μ = some (r, μ')) : ZX l G mX11_wordByPlain 37 [] [] μ (.inl (some (.int r))) μ' := by
  unfold f_X11_wordByPlain_b37 at h
  refine zx_iconst (v := 0) dX11_wordByPlain_37 iv_iconst_0 ?_
  refine zx_goto (tgt := 47) dX11_wordByPlain_38 (by decide) ?_
  cases h
  exact zx_iret dX11_wordByPlain_47 rfl
set_option maxRecDepth 100000 in
theorem s_X11_wordByPlain_b13 {l : Launch} {G : Gt} (hG : Gok l G) (a0 : Nat) (x1 : Int32) (s0 : Int32) (s1 : Nat) (μ : Mm) (r : Int32) (μ' : Mm) (h : f_X11_wordByPlain_b13 a0 x1 s0 s1 μ = some (r, μ')) : ZX l G mX11_wordByPlain 13 [(0, .ref a0), (1, .int x1)] [.int s0, .ref s1] μ (.inl (some (.int r))) μ' := by
  unfold f_X11_wordByPlain_b13 at h
  obtain ⟨h4, h⟩ := ck_e h
  refine zx_putI hG fl_X11_123 fn_12_54 h4 dX11_wordByPlain_13 ?_
  obtain ⟨μ5, e7, h⟩ := zlm_e h
  refine zx_mem e7 ?_
  have e6 : mK μ5 = mK μ := (congrArg mK e7).trans rfl
  refine zx_aload_n dX11_wordByPlain_16 rfl (q := 0) rfl ?_
  refine zx_aload_n dX11_wordByPlain_17 rfl (q := 0) rfl ?_
  obtain ⟨h8, h⟩ := ck_e h
  refine zx_getI hG fl_X11_150 h8 dX11_wordByPlain_18 ?_
  obtain ⟨p9, μ11, z10, h⟩ := cl_e h
  refine zx_callV (As := [.int (mI μ5 a0 46)]) hG mf_X11_plain cv_X11_352 h8 ⟨by decide, by decide⟩ rfl rfl (Nat.le_of_ble_eq_true rfl) (s_X11_plain hG _ _ _ _ _ z10) (Nat.le_of_ble_eq_true rfl) dX11_wordByPlain_21 ?_
  refine zx_astore_n (L' := [(2, .ref p9), (0, .ref a0), (1, .int x1)]) dX11_wordByPlain_24 rfl (by decide) rfl ?_
  refine zx_aload_n dX11_wordByPlain_25 rfl (q := 1) rfl ?_
  obtain ⟨h12, h⟩ := ck_e h
  refine zx_getI hG fl_X11_123 h12 dX11_wordByPlain_26 ?_
  by_cases c13 : 0 < (mI μ11 a0 54)
  · have h := it_t c13 h
    refine zx_if_gt_t (tgt := 37) dX11_wordByPlain_29 (by decide) c13 ?_
    refine zx_sub (L' := []) [] rfl ?_
    exact s_X11_wordByPlain_b37 hG _ _ _ h
  · have h := it_f c13 h
    refine zx_if_gt_f (tgt := 37) dX11_wordByPlain_29 (by decide) c13 ?_
    refine zx_aload_n dX11_wordByPlain_32 rfl (q := 0) rfl ?_
    obtain ⟨h14, h⟩ := ck_e h
    refine zx_alen hG rfl (h14).1 (h14).2 dX11_wordByPlain_33 ?_
    by_cases c15 : ¬ (nI (mL μ11 p9)) = 0
    · have h := it_t c15 h
      refine zx_if_ne_t (tgt := 41) dX11_wordByPlain_34 (by decide) c15 ?_
      refine zx_aload_n dX11_wordByPlain_41 rfl (q := 1) rfl ?_
      obtain ⟨p16, h17, h⟩ := bd_e h
      refine zx_getR hG fl_X11_117 h12 h17 dX11_wordByPlain_42 ?_
      refine zx_iload_n dX11_wordByPlain_45 rfl (q := 2) rfl ?_
      obtain ⟨h18, h⟩ := ck_e h
      obtain ⟨h19, h⟩ := ck_e h
      refine zx_iald hG rfl (h18).1 (h18).2 (inb_e h19) dX11_wordByPlain_46 ?_
      cases h
      exact zx_iret dX11_wordByPlain_47 rfl
    · have h := it_f c15 h
      refine zx_if_ne_f (tgt := 41) dX11_wordByPlain_34 (by decide) (Classical.not_not.mp c15) ?_
      refine zx_sub (L' := []) [] rfl ?_
      exact s_X11_wordByPlain_b37 hG _ _ _ h
set_option maxRecDepth 100000 in
theorem s_X11_wordByPlain {l : Launch} {G : Gt} (hG : Gok l G) (a0 : Nat) (x1 : Int32) (μ : Mm) (r : Int32) (μ' : Mm) (h : f_X11_wordByPlain a0 x1 μ = some (r, μ')) : ZX l G mX11_wordByPlain 0 [(0, .ref a0), (1, .int x1)] [] μ (.inl (some (.int r))) μ' := by
  unfold f_X11_wordByPlain at h
  refine zx_aload_n dX11_wordByPlain_0 rfl (q := 0) rfl ?_
  refine zx_iload_n dX11_wordByPlain_1 rfl (q := 1) rfl ?_
  obtain ⟨y1, z2, h⟩ := bd_e h
  refine zx_callS (As := [.int x1]) hG mf_X11_isAddress cs_X11_225 ⟨by decide, by decide⟩ rfl rfl (Nat.le_of_ble_eq_true rfl) (s_X11_isAddress hG _ _ _ z2) (Nat.le_of_ble_eq_true rfl) dX11_wordByPlain_2 ?_
  by_cases c3 : y1 = 0
  · have h := it_t c3 h
    refine zx_if_eq_t (tgt := 12) dX11_wordByPlain_5 (by decide) c3 ?_
    refine zx_iconst (v := 1) dX11_wordByPlain_12 iv_iconst_1 ?_
    exact s_X11_wordByPlain_b13 hG _ _ _ _ _ _ _ h
  · have h := it_f c3 h
    refine zx_if_eq_f (tgt := 12) dX11_wordByPlain_5 (by decide) c3 ?_
    refine zx_iconst (v := 0) dX11_wordByPlain_8 iv_iconst_0 ?_
    refine zx_goto (tgt := 13) dX11_wordByPlain_9 (by decide) ?_
    exact s_X11_wordByPlain_b13 hG _ _ _ _ _ _ _ h
def f_X11_kept_b13 (a0 : Nat) (s0 : Int32) (s1 : Nat) (μ : Mm) : Option (Int32 × Mm) :=
  ck (mK μ s1 = 112) <|
  zl (sI μ s1 54 s0) fun μ4 =>
  ck (mK μ4 a0 = 112) <|
  if (mI μ4 a0 54) ≤ 0 then
    some (mI μ4 a0 40, μ4)
  else
    some (0, μ4)
def f_X11_kept (a0 : Nat) (μ : Mm) : Option (Int32 × Mm) :=
  ck (mK μ a0 = 112) <|
  if (zb (mI μ a0 39)) = 0 then
    f_X11_kept_b13 a0 1 a0 μ
  else
    f_X11_kept_b13 a0 0 a0 μ
set_option maxRecDepth 100000 in
theorem s_X11_kept_b13 {l : Launch} {G : Gt} (hG : Gok l G) (a0 : Nat) (s0 : Int32) (s1 : Nat) (μ : Mm) (r : Int32) (μ' : Mm) (h : f_X11_kept_b13 a0 s0 s1 μ = some (r, μ')) : ZX l G mX11_kept 13 [(0, .ref a0)] [.int s0, .ref s1] μ (.inl (some (.int r))) μ' := by
  unfold f_X11_kept_b13 at h
  obtain ⟨h3, h⟩ := ck_e h
  refine zx_putI hG fl_X11_123 fn_12_54 h3 dX11_kept_13 ?_
  obtain ⟨μ4, e6, h⟩ := zlm_e h
  refine zx_mem e6 ?_
  have e5 : mK μ4 = mK μ := (congrArg mK e6).trans rfl
  refine zx_aload_n dX11_kept_16 rfl (q := 0) rfl ?_
  obtain ⟨h7, h⟩ := ck_e h
  refine zx_getI hG fl_X11_123 h7 dX11_kept_17 ?_
  by_cases c8 : (mI μ4 a0 54) ≤ 0
  · have h := it_t c8 h
    refine zx_if_le_t (tgt := 27) dX11_kept_20 (by decide) c8 ?_
    refine zx_aload_n dX11_kept_27 rfl (q := 0) rfl ?_
    refine zx_getI hG fl_X11_288 h7 dX11_kept_28 ?_
    cases h
    exact zx_iret dX11_kept_31 rfl
  · have h := it_f c8 h
    refine zx_if_le_f (tgt := 27) dX11_kept_20 (by decide) c8 ?_
    refine zx_iconst (v := 0) dX11_kept_23 iv_iconst_0 ?_
    refine zx_goto (tgt := 31) dX11_kept_24 (by decide) ?_
    cases h
    exact zx_iret dX11_kept_31 rfl
set_option maxRecDepth 100000 in
theorem s_X11_kept {l : Launch} {G : Gt} (hG : Gok l G) (a0 : Nat) (μ : Mm) (r : Int32) (μ' : Mm) (h : f_X11_kept a0 μ = some (r, μ')) : ZX l G mX11_kept 0 [(0, .ref a0)] [] μ (.inl (some (.int r))) μ' := by
  unfold f_X11_kept at h
  refine zx_aload_n dX11_kept_0 rfl (q := 0) rfl ?_
  refine zx_aload_n dX11_kept_1 rfl (q := 0) rfl ?_
  obtain ⟨h1, h⟩ := ck_e h
  refine zx_getZ hG fl_X11_291 h1 dX11_kept_2 ?_
  by_cases c2 : (zb (mI μ a0 39)) = 0
  · have h := it_t c2 h
    refine zx_if_eq_t (tgt := 12) dX11_kept_5 (by decide) c2 ?_
    refine zx_iconst (v := 1) dX11_kept_12 iv_iconst_1 ?_
    exact s_X11_kept_b13 hG _ _ _ _ _ _ h
  · have h := it_f c2 h
    refine zx_if_eq_f (tgt := 12) dX11_kept_5 (by decide) c2 ?_
    refine zx_iconst (v := 0) dX11_kept_8 iv_iconst_0 ?_
    refine zx_goto (tgt := 13) dX11_kept_9 (by decide) ?_
    exact s_X11_kept_b13 hG _ _ _ _ _ _ h
def f_X11_life_b64 (a0 : Nat) (x1 : Int32) (x2 : Int32) (x3 : Int32) (s0 : Int32) (s1 : Nat) (μ : Mm) : Option (Int32 × Mm) :=
  ck (mK μ s1 = 112) <|
  zl (sI μ s1 54 s0) fun μ30 =>
  if x3 = 0 then
    some (0, μ30)
  else
    ck (mK μ30 a0 = 112) <|
    bd (mR μ30 a0 45) fun p35 =>
    ck (isA56 (mK μ30 p35)) <|
    ck (inb x1 (mL μ30 p35)) <|
    bd (mR μ30 p35 (Int32.toNatClampNeg x1)) fun p39 =>
    ck (isA 1 (mK μ30 p39)) <|
    ck (inb x2 (mL μ30 p39)) <|
    some (mI μ30 p39 (Int32.toNatClampNeg x2), μ30)
def f_X11_life_b53 (a0 : Nat) (x1 : Int32) (x2 : Int32) (s0 : Int32) (μ : Mm) : Option (Int32 × Mm) :=
  if s0 = 0 then
    f_X11_life_b64 a0 x1 x2 s0 3 a0 μ
  else
    f_X11_life_b64 a0 x1 x2 s0 0 a0 μ
def f_X11_life_b52 (a0 : Nat) (x1 : Int32) (x2 : Int32) (μ : Mm) : Option (Int32 × Mm) :=
  f_X11_life_b53 a0 x1 x2 0 μ
def f_X11_life (a0 : Nat) (x1 : Int32) (x2 : Int32) (μ : Mm) : Option (Int32 × Mm) :=
  ck (mK μ a0 = 112) <|
  cl (f_X11_noEnd a0 x1 μ) fun y2 μ4 =>
  if y2 = 0 then
    bd (f_X11_in x2 0 4) fun y6 =>
    if ¬ y6 = 0 then
      ck (mK μ4 a0 = 112) <|
      bd (mR μ4 a0 43) fun p10 =>
      ck (isA 1 (mK μ4 p10)) <|
      ck (inb x1 (mL μ4 p10)) <|
      if (mI μ4 p10 (Int32.toNatClampNeg x1)) = 9 then
        f_X11_life_b52 a0 x1 x2 μ4
      else
        bd (mR μ4 a0 45) fun p15 =>
        ck (isA56 (mK μ4 p15)) <|
        ck (inb x1 (mL μ4 p15)) <|
        bd (mR μ4 p15 (Int32.toNatClampNeg x1)) fun p19 =>
        ck (isA 1 (mK μ4 p19)) <|
        ck (inb x2 (mL μ4 p19)) <|
        if (mI μ4 p19 (Int32.toNatClampNeg x2)) = ((-1)) then
          f_X11_life_b52 a0 x1 x2 μ4
        else
          f_X11_life_b53 a0 x1 x2 1 μ4
    else
      ck (mK μ4 a0 = 112) <|
      cl (f_X11_raises a0 2 μ4) fun y25 μ27 =>
      some (y25, μ27)
  else
    some (0, μ4)
set_option maxRecDepth 100000 in
theorem s_X11_life_b64 {l : Launch} {G : Gt} (hG : Gok l G) (a0 : Nat) (x1 : Int32) (x2 : Int32) (x3 : Int32) (s0 : Int32) (s1 : Nat) (μ : Mm) (r : Int32) (μ' : Mm) (h : f_X11_life_b64 a0 x1 x2 x3 s0 s1 μ = some (r, μ')) : ZX l G mX11_life 64 [(0, .ref a0), (1, .int x1), (2, .int x2), (3, .int x3)] [.int s0, .ref s1] μ (.inl (some (.int r))) μ' := by
  unfold f_X11_life_b64 at h
  obtain ⟨h29, h⟩ := ck_e h
  refine zx_putI hG fl_X11_123 fn_12_54 h29 dX11_life_64 ?_
  obtain ⟨μ30, e32, h⟩ := zlm_e h
  refine zx_mem e32 ?_
  have e31 : mK μ30 = mK μ := (congrArg mK e32).trans rfl
  refine zx_iload_n dX11_life_67 rfl (q := 3) rfl ?_
  by_cases c33 : x3 = 0
  · have h := it_t c33 h
    refine zx_if_eq_t (tgt := 82) dX11_life_68 (by decide) c33 ?_
    refine zx_iconst (v := 0) dX11_life_82 iv_iconst_0 ?_
    cases h
    exact zx_iret dX11_life_83 rfl
  · have h := it_f c33 h
    refine zx_if_eq_f (tgt := 82) dX11_life_68 (by decide) c33 ?_
    refine zx_aload_n dX11_life_71 rfl (q := 0) rfl ?_
    obtain ⟨h34, h⟩ := ck_e h
    obtain ⟨p35, h36, h⟩ := bd_e h
    refine zx_getR hG fl_X11_108 h34 h36 dX11_life_72 ?_
    refine zx_iload_n dX11_life_75 rfl (q := 1) rfl ?_
    obtain ⟨h37, h⟩ := ck_e h
    obtain ⟨h38, h⟩ := ck_e h
    obtain ⟨p39, h40, h⟩ := bd_e h
    refine zx_aald hG rfl (h37).1 (h37).2 (inb_e h38) h40 dX11_life_76 ?_
    refine zx_iload_n dX11_life_77 rfl (q := 2) rfl ?_
    obtain ⟨h41, h⟩ := ck_e h
    obtain ⟨h42, h⟩ := ck_e h
    refine zx_iald hG rfl (h41).1 (h41).2 (inb_e h42) dX11_life_78 ?_
    refine zx_goto (tgt := 83) dX11_life_79 (by decide) ?_
    cases h
    exact zx_iret dX11_life_83 rfl
set_option maxRecDepth 100000 in
theorem s_X11_life_b53 {l : Launch} {G : Gt} (hG : Gok l G) (a0 : Nat) (x1 : Int32) (x2 : Int32) (s0 : Int32) (μ : Mm) (r : Int32) (μ' : Mm) (h : f_X11_life_b53 a0 x1 x2 s0 μ = some (r, μ')) : ZX l G mX11_life 53 [(0, .ref a0), (1, .int x1), (2, .int x2)] [.int s0] μ (.inl (some (.int r))) μ' := by
  unfold f_X11_life_b53 at h
  refine zx_istore_n (L' := [(3, .int s0), (0, .ref a0), (1, .int x1), (2, .int x2)]) dX11_life_53 rfl (by decide) rfl ?_
  refine zx_aload_n dX11_life_54 rfl (q := 1) rfl ?_
  refine zx_iload_n dX11_life_55 rfl (q := 0) rfl ?_
  by_cases c28 : s0 = 0
  · have h := it_t c28 h
    refine zx_if_eq_t (tgt := 63) dX11_life_56 (by decide) c28 ?_
    refine zx_iconst (v := 3) dX11_life_63 iv_iconst_3 ?_
    refine zx_sub (L' := [(0, .ref a0), (1, .int x1), (2, .int x2), (3, .int s0)]) [1, 2, 3, 0] rfl ?_
    exact s_X11_life_b64 hG _ _ _ _ _ _ _ _ _ h
  · have h := it_f c28 h
    refine zx_if_eq_f (tgt := 63) dX11_life_56 (by decide) c28 ?_
    refine zx_iconst (v := 0) dX11_life_59 iv_iconst_0 ?_
    refine zx_goto (tgt := 64) dX11_life_60 (by decide) ?_
    refine zx_sub (L' := [(0, .ref a0), (1, .int x1), (2, .int x2), (3, .int s0)]) [1, 2, 3, 0] rfl ?_
    exact s_X11_life_b64 hG _ _ _ _ _ _ _ _ _ h
set_option maxRecDepth 100000 in
theorem s_X11_life_b52 {l : Launch} {G : Gt} (hG : Gok l G) (a0 : Nat) (x1 : Int32) (x2 : Int32) (μ : Mm) (r : Int32) (μ' : Mm) (h : f_X11_life_b52 a0 x1 x2 μ = some (r, μ')) : ZX l G mX11_life 52 [(0, .ref a0), (1, .int x1), (2, .int x2)] [] μ (.inl (some (.int r))) μ' := by
  unfold f_X11_life_b52 at h
  refine zx_iconst (v := 0) dX11_life_52 iv_iconst_0 ?_
  exact s_X11_life_b53 hG _ _ _ _ _ _ _ h
set_option maxRecDepth 100000 in
theorem s_X11_life {l : Launch} {G : Gt} (hG : Gok l G) (a0 : Nat) (x1 : Int32) (x2 : Int32) (μ : Mm) (r : Int32) (μ' : Mm) (h : f_X11_life a0 x1 x2 μ = some (r, μ')) : ZX l G mX11_life 0 [(0, .ref a0), (1, .int x1), (2, .int x2)] [] μ (.inl (some (.int r))) μ' := by
  unfold f_X11_life at h
  refine zx_aload_n dX11_life_0 rfl (q := 0) rfl ?_
  refine zx_iload_n dX11_life_1 rfl (q := 1) rfl ?_
  obtain ⟨h1, h⟩ := ck_e h
  obtain ⟨y2, μ4, z3, h⟩ := cl_e h
  refine zx_callV (As := [.int x1]) hG mf_X11_noEnd cv_X11_328 h1 ⟨by decide, by decide⟩ rfl rfl (Nat.le_of_ble_eq_true rfl) (s_X11_noEnd hG _ _ _ _ _ z3) (Nat.le_of_ble_eq_true rfl) dX11_life_2 ?_
  by_cases c5 : y2 = 0
  · have h := it_t c5 h
    refine zx_if_eq_t (tgt := 10) dX11_life_5 (by decide) c5 ?_
    refine zx_iload_n dX11_life_10 rfl (q := 2) rfl ?_
    refine zx_iconst (v := 0) dX11_life_11 iv_iconst_0 ?_
    refine zx_iconst (v := 4) dX11_life_12 iv_iconst_4 ?_
    obtain ⟨y6, z7, h⟩ := bd_e h
    refine zx_callS (As := [.int x2, .int 0, .int 4]) hG mf_X11_in cs_X11_129 ⟨by decide, by decide⟩ rfl rfl (Nat.le_of_ble_eq_true rfl) (s_X11_in hG _ _ _ _ _ z7) (Nat.le_of_ble_eq_true rfl) dX11_life_13 ?_
    by_cases c8 : ¬ y6 = 0
    · have h := it_t c8 h
      refine zx_if_ne_t (tgt := 25) dX11_life_16 (by decide) c8 ?_
      refine zx_aload_n dX11_life_25 rfl (q := 0) rfl ?_
      obtain ⟨h9, h⟩ := ck_e h
      obtain ⟨p10, h11, h⟩ := bd_e h
      refine zx_getR hG fl_X11_101 h9 h11 dX11_life_26 ?_
      refine zx_iload_n dX11_life_29 rfl (q := 1) rfl ?_
      obtain ⟨h12, h⟩ := ck_e h
      obtain ⟨h13, h⟩ := ck_e h
      refine zx_iald hG rfl (h12).1 (h12).2 (inb_e h13) dX11_life_30 ?_
      refine zx_bipush (v := 9) dX11_life_31 iv_bipush_9 ?_
      by_cases c14 : (mI μ4 p10 (Int32.toNatClampNeg x1)) = 9
      · have h := it_t c14 h
        refine zx_icmp_eq_t (tgt := 52) dX11_life_33 (by decide) c14 ?_
        exact s_X11_life_b52 hG _ _ _ _ _ _ h
      · have h := it_f c14 h
        refine zx_icmp_eq_f (tgt := 52) dX11_life_33 (by decide) c14 ?_
        refine zx_aload_n dX11_life_36 rfl (q := 0) rfl ?_
        obtain ⟨p15, h16, h⟩ := bd_e h
        refine zx_getR hG fl_X11_108 h9 h16 dX11_life_37 ?_
        refine zx_iload_n dX11_life_40 rfl (q := 1) rfl ?_
        obtain ⟨h17, h⟩ := ck_e h
        obtain ⟨h18, h⟩ := ck_e h
        obtain ⟨p19, h20, h⟩ := bd_e h
        refine zx_aald hG rfl (h17).1 (h17).2 (inb_e h18) h20 dX11_life_41 ?_
        refine zx_iload_n dX11_life_42 rfl (q := 2) rfl ?_
        obtain ⟨h21, h⟩ := ck_e h
        obtain ⟨h22, h⟩ := ck_e h
        refine zx_iald hG rfl (h21).1 (h21).2 (inb_e h22) dX11_life_43 ?_
        refine zx_iconst (v := (-1)) dX11_life_44 iv_iconst_m1 ?_
        by_cases c23 : (mI μ4 p19 (Int32.toNatClampNeg x2)) = ((-1))
        · have h := it_t c23 h
          refine zx_icmp_eq_t (tgt := 52) dX11_life_45 (by decide) c23 ?_
          exact s_X11_life_b52 hG _ _ _ _ _ _ h
        · have h := it_f c23 h
          refine zx_icmp_eq_f (tgt := 52) dX11_life_45 (by decide) c23 ?_
          refine zx_iconst (v := 1) dX11_life_48 iv_iconst_1 ?_
          refine zx_goto (tgt := 53) dX11_life_49 (by decide) ?_
          exact s_X11_life_b53 hG _ _ _ _ _ _ _ h
    · have h := it_f c8 h
      refine zx_if_ne_f (tgt := 25) dX11_life_16 (by decide) (Classical.not_not.mp c8) ?_
      refine zx_aload_n dX11_life_19 rfl (q := 0) rfl ?_
      refine zx_iconst (v := 2) dX11_life_20 iv_iconst_2 ?_
      obtain ⟨h24, h⟩ := ck_e h
      obtain ⟨y25, μ27, z26, h⟩ := cl_e h
      refine zx_callV (As := [.int 2]) hG mf_X11_raises cv_X11_356 h24 ⟨by decide, by decide⟩ rfl rfl (Nat.le_of_ble_eq_true rfl) (s_X11_raises hG _ _ _ _ _ z26) (Nat.le_of_ble_eq_true rfl) dX11_life_21 ?_
      cases h
      exact zx_iret dX11_life_24 rfl
  · have h := it_f c5 h
    refine zx_if_eq_f (tgt := 10) dX11_life_5 (by decide) c5 ?_
    refine zx_iconst (v := 0) dX11_life_8 iv_iconst_0 ?_
    cases h
    exact zx_iret dX11_life_9 rfl
def f_X11_inner_b16 (a0 : Nat) (x1 : Int32) (s0 : Int32) (s1 : Nat) (μ : Mm) : Option (Int32 × Mm) :=
  ck (mK μ s1 = 112) <|
  zl (sI μ s1 54 s0) fun μ5 =>
  ck (mK μ5 a0 = 112) <|
  if (mI μ5 a0 54) ≤ 0 then
    bd (mR μ5 a0 16) fun p10 =>
    ck (isA 1 (mK μ5 p10)) <|
    ck (inb x1 (mL μ5 p10)) <|
    some (mI μ5 p10 (Int32.toNatClampNeg x1), μ5)
  else
    some (0, μ5)
def f_X11_inner (a0 : Nat) (x1 : Int32) (μ : Mm) : Option (Int32 × Mm) :=
  bd (f_X11_in x1 0 7) fun y1 =>
  if y1 = 0 then
    f_X11_inner_b16 a0 x1 1 a0 μ
  else
    f_X11_inner_b16 a0 x1 0 a0 μ
set_option maxRecDepth 100000 in
theorem s_X11_inner_b16 {l : Launch} {G : Gt} (hG : Gok l G) (a0 : Nat) (x1 : Int32) (s0 : Int32) (s1 : Nat) (μ : Mm) (r : Int32) (μ' : Mm) (h : f_X11_inner_b16 a0 x1 s0 s1 μ = some (r, μ')) : ZX l G mX11_inner 16 [(0, .ref a0), (1, .int x1)] [.int s0, .ref s1] μ (.inl (some (.int r))) μ' := by
  unfold f_X11_inner_b16 at h
  obtain ⟨h4, h⟩ := ck_e h
  refine zx_putI hG fl_X11_123 fn_12_54 h4 dX11_inner_16 ?_
  obtain ⟨μ5, e7, h⟩ := zlm_e h
  refine zx_mem e7 ?_
  have e6 : mK μ5 = mK μ := (congrArg mK e7).trans rfl
  refine zx_aload_n dX11_inner_19 rfl (q := 0) rfl ?_
  obtain ⟨h8, h⟩ := ck_e h
  refine zx_getI hG fl_X11_123 h8 dX11_inner_20 ?_
  by_cases c9 : (mI μ5 a0 54) ≤ 0
  · have h := it_t c9 h
    refine zx_if_le_t (tgt := 30) dX11_inner_23 (by decide) c9 ?_
    refine zx_aload_n dX11_inner_30 rfl (q := 0) rfl ?_
    obtain ⟨p10, h11, h⟩ := bd_e h
    refine zx_getR hG fl_X11_56 h8 h11 dX11_inner_31 ?_
    refine zx_iload_n dX11_inner_34 rfl (q := 1) rfl ?_
    obtain ⟨h12, h⟩ := ck_e h
    obtain ⟨h13, h⟩ := ck_e h
    refine zx_iald hG rfl (h12).1 (h12).2 (inb_e h13) dX11_inner_35 ?_
    cases h
    exact zx_iret dX11_inner_36 rfl
  · have h := it_f c9 h
    refine zx_if_le_f (tgt := 30) dX11_inner_23 (by decide) c9 ?_
    refine zx_iconst (v := 0) dX11_inner_26 iv_iconst_0 ?_
    refine zx_goto (tgt := 36) dX11_inner_27 (by decide) ?_
    cases h
    exact zx_iret dX11_inner_36 rfl
set_option maxRecDepth 100000 in
theorem s_X11_inner {l : Launch} {G : Gt} (hG : Gok l G) (a0 : Nat) (x1 : Int32) (μ : Mm) (r : Int32) (μ' : Mm) (h : f_X11_inner a0 x1 μ = some (r, μ')) : ZX l G mX11_inner 0 [(0, .ref a0), (1, .int x1)] [] μ (.inl (some (.int r))) μ' := by
  unfold f_X11_inner at h
  refine zx_aload_n dX11_inner_0 rfl (q := 0) rfl ?_
  refine zx_iload_n dX11_inner_1 rfl (q := 1) rfl ?_
  refine zx_iconst (v := 0) dX11_inner_2 iv_iconst_0 ?_
  refine zx_bipush (v := 7) dX11_inner_3 iv_bipush_7 ?_
  obtain ⟨y1, z2, h⟩ := bd_e h
  refine zx_callS (As := [.int x1, .int 0, .int 7]) hG mf_X11_in cs_X11_129 ⟨by decide, by decide⟩ rfl rfl (Nat.le_of_ble_eq_true rfl) (s_X11_in hG _ _ _ _ _ z2) (Nat.le_of_ble_eq_true rfl) dX11_inner_5 ?_
  by_cases c3 : y1 = 0
  · have h := it_t c3 h
    refine zx_if_eq_t (tgt := 15) dX11_inner_8 (by decide) c3 ?_
    refine zx_iconst (v := 1) dX11_inner_15 iv_iconst_1 ?_
    exact s_X11_inner_b16 hG _ _ _ _ _ _ _ h
  · have h := it_f c3 h
    refine zx_if_eq_f (tgt := 15) dX11_inner_8 (by decide) c3 ?_
    refine zx_iconst (v := 0) dX11_inner_11 iv_iconst_0 ?_
    refine zx_goto (tgt := 16) dX11_inner_12 (by decide) ?_
    exact s_X11_inner_b16 hG _ _ _ _ _ _ _ h
def f_X11_innerAnew (a0 : Nat) (x1 : Int32) (μ : Mm) : Option (Int32 × Mm) :=
  ck (mK μ a0 = 112) <|
  cl (f_X11_inner a0 x1 μ) fun y2 μ4 =>
  some (y2, μ4)
set_option maxRecDepth 100000 in
theorem s_X11_innerAnew {l : Launch} {G : Gt} (hG : Gok l G) (a0 : Nat) (x1 : Int32) (μ : Mm) (r : Int32) (μ' : Mm) (h : f_X11_innerAnew a0 x1 μ = some (r, μ')) : ZX l G mX11_innerAnew 0 [(0, .ref a0), (1, .int x1)] [] μ (.inl (some (.int r))) μ' := by
  unfold f_X11_innerAnew at h
  refine zx_aload_n dX11_innerAnew_0 rfl (q := 0) rfl ?_
  refine zx_iload_n dX11_innerAnew_1 rfl (q := 1) rfl ?_
  obtain ⟨h1, h⟩ := ck_e h
  obtain ⟨y2, μ4, z3, h⟩ := cl_e h
  refine zx_callV (As := [.int x1]) hG mf_X11_inner cv_X11_359 h1 ⟨by decide, by decide⟩ rfl rfl (Nat.le_of_ble_eq_true rfl) (s_X11_inner hG _ _ _ _ _ z3) (Nat.le_of_ble_eq_true rfl) dX11_innerAnew_2 ?_
  cases h
  exact zx_iret dX11_innerAnew_5 rfl
def f_X11_noInner_b20 (a0 : Nat) (s0 : Int32) (s1 : Nat) (μ : Mm) : Option (Int32 × Mm) :=
  ck (mK μ s1 = 112) <|
  zl (sI μ s1 54 s0) fun μ6 =>
  ck (mK μ6 a0 = 112) <|
  if (mI μ6 a0 54) ≤ 0 then
    some (0, μ6)
  else
    some (1, μ6)
def f_X11_noInner (a0 : Nat) (x1 : Int32) (μ : Mm) : Option (Int32 × Mm) :=
  ck (mK μ a0 = 112) <|
  bd (f_X11_in x1 0 ((mI μ a0 9) - 1)) fun y2 =>
  if y2 = 0 then
    f_X11_noInner_b20 a0 1 a0 μ
  else
    f_X11_noInner_b20 a0 0 a0 μ
set_option maxRecDepth 100000 in
theorem s_X11_noInner_b20 {l : Launch} {G : Gt} (hG : Gok l G) (a0 : Nat) (s0 : Int32) (s1 : Nat) (μ : Mm) (r : Int32) (μ' : Mm) (h : f_X11_noInner_b20 a0 s0 s1 μ = some (r, μ')) : ZX l G mX11_noInner 20 [(0, .ref a0)] [.int s0, .ref s1] μ (.inl (some (.int r))) μ' := by
  unfold f_X11_noInner_b20 at h
  obtain ⟨h5, h⟩ := ck_e h
  refine zx_putI hG fl_X11_123 fn_12_54 h5 dX11_noInner_20 ?_
  obtain ⟨μ6, e8, h⟩ := zlm_e h
  refine zx_mem e8 ?_
  have e7 : mK μ6 = mK μ := (congrArg mK e8).trans rfl
  refine zx_aload_n dX11_noInner_23 rfl (q := 0) rfl ?_
  obtain ⟨h9, h⟩ := ck_e h
  refine zx_getI hG fl_X11_123 h9 dX11_noInner_24 ?_
  by_cases c10 : (mI μ6 a0 54) ≤ 0
  · have h := it_t c10 h
    refine zx_if_le_t (tgt := 34) dX11_noInner_27 (by decide) c10 ?_
    refine zx_iconst (v := 0) dX11_noInner_34 iv_iconst_0 ?_
    cases h
    exact zx_zretZ dX11_noInner_35 rfl zb_0
  · have h := it_f c10 h
    refine zx_if_le_f (tgt := 34) dX11_noInner_27 (by decide) c10 ?_
    refine zx_iconst (v := 1) dX11_noInner_30 iv_iconst_1 ?_
    refine zx_goto (tgt := 35) dX11_noInner_31 (by decide) ?_
    cases h
    exact zx_zretZ dX11_noInner_35 rfl zb_1
set_option maxRecDepth 100000 in
theorem s_X11_noInner {l : Launch} {G : Gt} (hG : Gok l G) (a0 : Nat) (x1 : Int32) (μ : Mm) (r : Int32) (μ' : Mm) (h : f_X11_noInner a0 x1 μ = some (r, μ')) : ZX l G mX11_noInner 0 [(0, .ref a0), (1, .int x1)] [] μ (.inl (some (.int r))) μ' := by
  unfold f_X11_noInner at h
  refine zx_aload_n dX11_noInner_0 rfl (q := 0) rfl ?_
  refine zx_iload_n dX11_noInner_1 rfl (q := 1) rfl ?_
  refine zx_iconst (v := 0) dX11_noInner_2 iv_iconst_0 ?_
  refine zx_aload_n dX11_noInner_3 rfl (q := 0) rfl ?_
  obtain ⟨h1, h⟩ := ck_e h
  refine zx_getI hG fl_X11_35 h1 dX11_noInner_4 ?_
  refine zx_iconst (v := 1) dX11_noInner_7 iv_iconst_1 ?_
  refine zx_isub dX11_noInner_8 ?_
  obtain ⟨y2, z3, h⟩ := bd_e h
  refine zx_callS (As := [.int x1, .int 0, .int ((mI μ a0 9) - 1)]) hG mf_X11_in cs_X11_129 ⟨by decide, by decide⟩ rfl rfl (Nat.le_of_ble_eq_true rfl) (s_X11_in hG _ _ _ _ _ z3) (Nat.le_of_ble_eq_true rfl) dX11_noInner_9 ?_
  by_cases c4 : y2 = 0
  · have h := it_t c4 h
    refine zx_if_eq_t (tgt := 19) dX11_noInner_12 (by decide) c4 ?_
    refine zx_iconst (v := 1) dX11_noInner_19 iv_iconst_1 ?_
    refine zx_sub (L' := [(0, .ref a0)]) [0] rfl ?_
    exact s_X11_noInner_b20 hG _ _ _ _ _ _ h
  · have h := it_f c4 h
    refine zx_if_eq_f (tgt := 19) dX11_noInner_12 (by decide) c4 ?_
    refine zx_iconst (v := 0) dX11_noInner_15 iv_iconst_0 ?_
    refine zx_goto (tgt := 20) dX11_noInner_16 (by decide) ?_
    refine zx_sub (L' := [(0, .ref a0)]) [0] rfl ?_
    exact s_X11_noInner_b20 hG _ _ _ _ _ _ h
def f_X11_stateOf_b47 (k18 : Nat → Int32 → Int32 → Int32 → Int32 → Mm → Option (Int32 × Mm)) (a0 : Nat) (x1 : Int32) (x3 : Int32) (x4 : Int32) (s0 : Int32) (μ : Mm) : Option (Int32 × Mm) :=
  k18 a0 x1 s0 x3 (x4 + 1) μ
def f_X11_stateOf_b42 (k18 : Nat → Int32 → Int32 → Int32 → Int32 → Mm → Option (Int32 × Mm)) (a0 : Nat) (x1 : Int32) (x3 : Int32) (x4 : Int32) (μ : Mm) : Option (Int32 × Mm) :=
  f_X11_stateOf_b47 k18 a0 x1 x3 x4 1 μ
def f_X11_stateOf_b84 (k57 : Nat → Int32 → Int32 → Int32 → Int32 → Mm → Option (Int32 × Mm)) (a0 : Nat) (x1 : Int32) (x2 : Int32) (x4 : Int32) (s0 : Int32) (μ : Mm) : Option (Int32 × Mm) :=
  k57 a0 x1 x2 s0 (x4 + 1) μ
def f_X11_stateOf_b79 (k57 : Nat → Int32 → Int32 → Int32 → Int32 → Mm → Option (Int32 × Mm)) (a0 : Nat) (x1 : Int32) (x2 : Int32) (x4 : Int32) (μ : Mm) : Option (Int32 × Mm) :=
  f_X11_stateOf_b84 k57 a0 x1 x2 x4 1 μ
def f_X11_stateOf_b91 (x2 : Int32) (x3 : Int32) (μ : Mm) : Option (Int32 × Mm) :=
  if x2 = 0 then
    if x3 = 0 then
      some (119, μ)
    else
      some (109, μ)
  else
    some (102, μ)
def f_X11_stateOf_b57 : Nat → Nat → Int32 → Int32 → Int32 → Int32 → Mm → Option (Int32 × Mm)
  | 0, _, _, _, _, _, _ => none
  | n + 1, a0, x1, x2, x3, x4, μ =>
  if 8 ≤ x4 then
    f_X11_stateOf_b91 x2 x3 μ
  else
    if ¬ x3 = 0 then
      f_X11_stateOf_b79 (f_X11_stateOf_b57 n) a0 x1 x2 x4 μ
    else
      ck (mK μ a0 = 112) <|
      bd (mR μ a0 16) fun p17 =>
      ck (isA 1 (mK μ p17)) <|
      ck (inb x4 (mL μ p17)) <|
      if ¬ (mI μ p17 (Int32.toNatClampNeg x4)) = x1 then
        f_X11_stateOf_b84 (f_X11_stateOf_b57 n) a0 x1 x2 x4 0 μ
      else
        f_X11_stateOf_b79 (f_X11_stateOf_b57 n) a0 x1 x2 x4 μ
def f_X11_stateOf_b54 (a0 : Nat) (x1 : Int32) (x2 : Int32) (x3 : Int32) (μ : Mm) : Option (Int32 × Mm) :=
  f_X11_stateOf_b57 5000 a0 x1 x2 x3 0 μ
def f_X11_stateOf_b18 : Nat → Nat → Int32 → Int32 → Int32 → Int32 → Mm → Option (Int32 × Mm)
  | 0, _, _, _, _, _, _ => none
  | n + 1, a0, x1, x2, x3, x4, μ =>
  ck (mK μ a0 = 112) <|
  if (mI μ a0 21) ≤ x4 then
    f_X11_stateOf_b54 a0 x1 x2 x3 μ
  else
    if ¬ x2 = 0 then
      f_X11_stateOf_b42 (f_X11_stateOf_b18 n) a0 x1 x3 x4 μ
    else
      bd (mR μ a0 20) fun p9 =>
      ck (isA 1 (mK μ p9)) <|
      ck (inb x4 (mL μ p9)) <|
      if ¬ (mI μ p9 (Int32.toNatClampNeg x4)) = x1 then
        f_X11_stateOf_b47 (f_X11_stateOf_b18 n) a0 x1 x3 x4 0 μ
      else
        f_X11_stateOf_b42 (f_X11_stateOf_b18 n) a0 x1 x3 x4 μ
def f_X11_stateOf (a0 : Nat) (x1 : Int32) (μ : Mm) : Option (Int32 × Mm) :=
  ck (mK μ a0 = 112) <|
  cl (f_X11_noInner a0 x1 μ) fun y2 μ4 =>
  if y2 = 0 then
    f_X11_stateOf_b18 5000 a0 x1 0 0 0 μ4
  else
    some (32, μ4)
set_option maxRecDepth 100000 in
theorem s_X11_stateOf_b47 {l : Launch} {G : Gt} (hG : Gok l G) {k18 : Nat → Int32 → Int32 → Int32 → Int32 → Mm → Option (Int32 × Mm)} (hk18 : ∀ (a0 : Nat) (x1 : Int32) (x2 : Int32) (x3 : Int32) (x4 : Int32) (μ : Mm) (r : Int32) (μ' : Mm), k18 a0 x1 x2 x3 x4 μ = some (r, μ') → ZX l G mX11_stateOf 18 [(0, .ref a0), (1, .int x1), (2, .int x2), (3, .int x3), (4, .int x4)] [] μ (.inl (some (.int r))) μ') (a0 : Nat) (x1 : Int32) (x3 : Int32) (x4 : Int32) (s0 : Int32) (μ : Mm) (r : Int32) (μ' : Mm) (h : f_X11_stateOf_b47 k18 a0 x1 x3 x4 s0 μ = some (r, μ')) : ZX l G mX11_stateOf 47 [(0, .ref a0), (1, .int x1), (3, .int x3), (4, .int x4)] [.int s0] μ (.inl (some (.int r))) μ' := by
  unfold f_X11_stateOf_b47 at h
  refine zx_istore_n (L' := [(2, .int s0), (0, .ref a0), (1, .int x1), (3, .int x3), (4, .int x4)]) dX11_stateOf_47 rfl (by decide) rfl ?_
  refine zx_iinc (q := 4) (v := x4 + 1) (L' := [(4, .int (x4 + 1)), (2, .int s0), (0, .ref a0), (1, .int x1), (3, .int x3)]) dX11_stateOf_48 rfl rfl (by decide) rfl ?_
  refine zx_goto (tgt := 18) dX11_stateOf_51 (by decide) ?_
  refine zx_sub (L' := [(0, .ref a0), (1, .int x1), (2, .int s0), (3, .int x3), (4, .int (x4 + 1))]) [2, 3, 1, 4, 0] rfl ?_
  exact hk18 _ _ _ _ _ _ _ _ h
set_option maxRecDepth 100000 in
theorem s_X11_stateOf_b42 {l : Launch} {G : Gt} (hG : Gok l G) {k18 : Nat → Int32 → Int32 → Int32 → Int32 → Mm → Option (Int32 × Mm)} (hk18 : ∀ (a0 : Nat) (x1 : Int32) (x2 : Int32) (x3 : Int32) (x4 : Int32) (μ : Mm) (r : Int32) (μ' : Mm), k18 a0 x1 x2 x3 x4 μ = some (r, μ') → ZX l G mX11_stateOf 18 [(0, .ref a0), (1, .int x1), (2, .int x2), (3, .int x3), (4, .int x4)] [] μ (.inl (some (.int r))) μ') (a0 : Nat) (x1 : Int32) (x3 : Int32) (x4 : Int32) (μ : Mm) (r : Int32) (μ' : Mm) (h : f_X11_stateOf_b42 k18 a0 x1 x3 x4 μ = some (r, μ')) : ZX l G mX11_stateOf 42 [(0, .ref a0), (1, .int x1), (3, .int x3), (4, .int x4)] [] μ (.inl (some (.int r))) μ' := by
  unfold f_X11_stateOf_b42 at h
  refine zx_iconst (v := 1) dX11_stateOf_42 iv_iconst_1 ?_
  refine zx_goto (tgt := 47) dX11_stateOf_43 (by decide) ?_
  exact s_X11_stateOf_b47 hG hk18 _ _ _ _ _ _ _ _ h
set_option maxRecDepth 100000 in
theorem s_X11_stateOf_b84 {l : Launch} {G : Gt} (hG : Gok l G) {k57 : Nat → Int32 → Int32 → Int32 → Int32 → Mm → Option (Int32 × Mm)} (hk57 : ∀ (a0 : Nat) (x1 : Int32) (x2 : Int32) (x3 : Int32) (x4 : Int32) (μ : Mm) (r : Int32) (μ' : Mm), k57 a0 x1 x2 x3 x4 μ = some (r, μ') → ZX l G mX11_stateOf 57 [(0, .ref a0), (1, .int x1), (2, .int x2), (3, .int x3), (4, .int x4)] [] μ (.inl (some (.int r))) μ') (a0 : Nat) (x1 : Int32) (x2 : Int32) (x4 : Int32) (s0 : Int32) (μ : Mm) (r : Int32) (μ' : Mm) (h : f_X11_stateOf_b84 k57 a0 x1 x2 x4 s0 μ = some (r, μ')) : ZX l G mX11_stateOf 84 [(0, .ref a0), (1, .int x1), (2, .int x2), (4, .int x4)] [.int s0] μ (.inl (some (.int r))) μ' := by
  unfold f_X11_stateOf_b84 at h
  refine zx_istore_n (L' := [(3, .int s0), (0, .ref a0), (1, .int x1), (2, .int x2), (4, .int x4)]) dX11_stateOf_84 rfl (by decide) rfl ?_
  refine zx_iinc (q := 4) (v := x4 + 1) (L' := [(4, .int (x4 + 1)), (3, .int s0), (0, .ref a0), (1, .int x1), (2, .int x2)]) dX11_stateOf_85 rfl rfl (by decide) rfl ?_
  refine zx_goto (tgt := 57) dX11_stateOf_88 (by decide) ?_
  refine zx_sub (L' := [(0, .ref a0), (1, .int x1), (2, .int x2), (3, .int s0), (4, .int (x4 + 1))]) [2, 3, 4, 1, 0] rfl ?_
  exact hk57 _ _ _ _ _ _ _ _ h
set_option maxRecDepth 100000 in
theorem s_X11_stateOf_b79 {l : Launch} {G : Gt} (hG : Gok l G) {k57 : Nat → Int32 → Int32 → Int32 → Int32 → Mm → Option (Int32 × Mm)} (hk57 : ∀ (a0 : Nat) (x1 : Int32) (x2 : Int32) (x3 : Int32) (x4 : Int32) (μ : Mm) (r : Int32) (μ' : Mm), k57 a0 x1 x2 x3 x4 μ = some (r, μ') → ZX l G mX11_stateOf 57 [(0, .ref a0), (1, .int x1), (2, .int x2), (3, .int x3), (4, .int x4)] [] μ (.inl (some (.int r))) μ') (a0 : Nat) (x1 : Int32) (x2 : Int32) (x4 : Int32) (μ : Mm) (r : Int32) (μ' : Mm) (h : f_X11_stateOf_b79 k57 a0 x1 x2 x4 μ = some (r, μ')) : ZX l G mX11_stateOf 79 [(0, .ref a0), (1, .int x1), (2, .int x2), (4, .int x4)] [] μ (.inl (some (.int r))) μ' := by
  unfold f_X11_stateOf_b79 at h
  refine zx_iconst (v := 1) dX11_stateOf_79 iv_iconst_1 ?_
  refine zx_goto (tgt := 84) dX11_stateOf_80 (by decide) ?_
  exact s_X11_stateOf_b84 hG hk57 _ _ _ _ _ _ _ _ h
set_option maxRecDepth 100000 in
theorem s_X11_stateOf_b91 {l : Launch} {G : Gt} (hG : Gok l G) (x2 : Int32) (x3 : Int32) (μ : Mm) (r : Int32) (μ' : Mm) (h : f_X11_stateOf_b91 x2 x3 μ = some (r, μ')) : ZX l G mX11_stateOf 91 [(2, .int x2), (3, .int x3)] [] μ (.inl (some (.int r))) μ' := by
  unfold f_X11_stateOf_b91 at h
  refine zx_iload_n dX11_stateOf_91 rfl (q := 0) rfl ?_
  by_cases c22 : x2 = 0
  · have h := it_t c22 h
    refine zx_if_eq_t (tgt := 100) dX11_stateOf_92 (by decide) c22 ?_
    refine zx_iload_n dX11_stateOf_100 rfl (q := 1) rfl ?_
    by_cases c23 : x3 = 0
    · have h := it_t c23 h
      refine zx_if_eq_t (tgt := 109) dX11_stateOf_101 (by decide) c23 ?_
      refine zx_bipush (v := 119) dX11_stateOf_109 iv_bipush_119 ?_
      cases h
      exact zx_zretC dX11_stateOf_111 rfl (show zc 119 = 119 by decide)
    · have h := it_f c23 h
      refine zx_if_eq_f (tgt := 109) dX11_stateOf_101 (by decide) c23 ?_
      refine zx_bipush (v := 109) dX11_stateOf_104 iv_bipush_109 ?_
      refine zx_goto (tgt := 111) dX11_stateOf_106 (by decide) ?_
      cases h
      exact zx_zretC dX11_stateOf_111 rfl (show zc 109 = 109 by decide)
  · have h := it_f c22 h
    refine zx_if_eq_f (tgt := 100) dX11_stateOf_92 (by decide) c22 ?_
    refine zx_bipush (v := 102) dX11_stateOf_95 iv_bipush_102 ?_
    refine zx_goto (tgt := 111) dX11_stateOf_97 (by decide) ?_
    cases h
    exact zx_zretC dX11_stateOf_111 rfl (show zc 102 = 102 by decide)
set_option maxRecDepth 100000 in
theorem s_X11_stateOf_b57 {l : Launch} {G : Gt} (hG : Gok l G) : ∀ (n : Nat) (a0 : Nat) (x1 : Int32) (x2 : Int32) (x3 : Int32) (x4 : Int32) (μ : Mm) (r : Int32) (μ' : Mm), f_X11_stateOf_b57 n a0 x1 x2 x3 x4 μ = some (r, μ') → ZX l G mX11_stateOf 57 [(0, .ref a0), (1, .int x1), (2, .int x2), (3, .int x3), (4, .int x4)] [] μ (.inl (some (.int r))) μ' := by
  intro n
  induction n with
  | zero =>
    intro a0 x1 x2 x3 x4 μ r μ' h
    cases h
  | succ n ih =>
    intro a0 x1 x2 x3 x4 μ r μ' h
    unfold f_X11_stateOf_b57 at h
    refine zx_iload dX11_stateOf_57 (q := 4) rfl ?_
    refine zx_bipush (v := 8) dX11_stateOf_59 iv_bipush_8 ?_
    by_cases c14 : 8 ≤ x4
    · have h := it_t c14 h
      refine zx_icmp_ge_t (tgt := 91) dX11_stateOf_61 (by decide) c14 ?_
      refine zx_sub (L' := [(2, .int x2), (3, .int x3)]) [2, 3] rfl ?_
      exact s_X11_stateOf_b91 hG _ _ _ _ _ h
    · have h := it_f c14 h
      refine zx_icmp_ge_f (tgt := 91) dX11_stateOf_61 (by decide) c14 ?_
      refine zx_iload_n dX11_stateOf_64 rfl (q := 3) rfl ?_
      by_cases c15 : ¬ x3 = 0
      · have h := it_t c15 h
        refine zx_if_ne_t (tgt := 79) dX11_stateOf_65 (by decide) c15 ?_
        refine zx_sub (L' := [(0, .ref a0), (1, .int x1), (2, .int x2), (4, .int x4)]) [0, 1, 2, 4] rfl ?_
        exact s_X11_stateOf_b79 hG ih _ _ _ _ _ _ _ h
      · have h := it_f c15 h
        refine zx_if_ne_f (tgt := 79) dX11_stateOf_65 (by decide) (Classical.not_not.mp c15) ?_
        refine zx_aload_n dX11_stateOf_68 rfl (q := 0) rfl ?_
        obtain ⟨h16, h⟩ := ck_e h
        obtain ⟨p17, h18, h⟩ := bd_e h
        refine zx_getR hG fl_X11_56 h16 h18 dX11_stateOf_69 ?_
        refine zx_iload dX11_stateOf_72 (q := 4) rfl ?_
        obtain ⟨h19, h⟩ := ck_e h
        obtain ⟨h20, h⟩ := ck_e h
        refine zx_iald hG rfl (h19).1 (h19).2 (inb_e h20) dX11_stateOf_74 ?_
        refine zx_iload_n dX11_stateOf_75 rfl (q := 1) rfl ?_
        by_cases c21 : ¬ (mI μ p17 (Int32.toNatClampNeg x4)) = x1
        · have h := it_t c21 h
          refine zx_icmp_ne_t (tgt := 83) dX11_stateOf_76 (by decide) c21 ?_
          refine zx_iconst (v := 0) dX11_stateOf_83 iv_iconst_0 ?_
          refine zx_sub (L' := [(0, .ref a0), (1, .int x1), (2, .int x2), (4, .int x4)]) [0, 1, 2, 4] rfl ?_
          exact s_X11_stateOf_b84 hG ih _ _ _ _ _ _ _ _ h
        · have h := it_f c21 h
          refine zx_icmp_ne_f (tgt := 83) dX11_stateOf_76 (by decide) (Classical.not_not.mp c21) ?_
          refine zx_sub (L' := [(0, .ref a0), (1, .int x1), (2, .int x2), (4, .int x4)]) [0, 1, 2, 4] rfl ?_
          exact s_X11_stateOf_b79 hG ih _ _ _ _ _ _ _ h
set_option maxRecDepth 100000 in
theorem s_X11_stateOf_b54 {l : Launch} {G : Gt} (hG : Gok l G) (a0 : Nat) (x1 : Int32) (x2 : Int32) (x3 : Int32) (μ : Mm) (r : Int32) (μ' : Mm) (h : f_X11_stateOf_b54 a0 x1 x2 x3 μ = some (r, μ')) : ZX l G mX11_stateOf 54 [(0, .ref a0), (1, .int x1), (2, .int x2), (3, .int x3)] [] μ (.inl (some (.int r))) μ' := by
  unfold f_X11_stateOf_b54 at h
  refine zx_iconst (v := 0) dX11_stateOf_54 iv_iconst_0 ?_
  refine zx_istore (L' := [(4, .int 0), (0, .ref a0), (1, .int x1), (2, .int x2), (3, .int x3)]) dX11_stateOf_55 (by decide) rfl ?_
  refine zx_sub (L' := [(0, .ref a0), (1, .int x1), (2, .int x2), (3, .int x3), (4, .int 0)]) [1, 2, 3, 4, 0] rfl ?_
  exact s_X11_stateOf_b57 hG 5000 _ _ _ _ _ _ _ _ h
set_option maxRecDepth 100000 in
theorem s_X11_stateOf_b18 {l : Launch} {G : Gt} (hG : Gok l G) : ∀ (n : Nat) (a0 : Nat) (x1 : Int32) (x2 : Int32) (x3 : Int32) (x4 : Int32) (μ : Mm) (r : Int32) (μ' : Mm), f_X11_stateOf_b18 n a0 x1 x2 x3 x4 μ = some (r, μ') → ZX l G mX11_stateOf 18 [(0, .ref a0), (1, .int x1), (2, .int x2), (3, .int x3), (4, .int x4)] [] μ (.inl (some (.int r))) μ' := by
  intro n
  induction n with
  | zero =>
    intro a0 x1 x2 x3 x4 μ r μ' h
    cases h
  | succ n ih =>
    intro a0 x1 x2 x3 x4 μ r μ' h
    unfold f_X11_stateOf_b18 at h
    refine zx_iload dX11_stateOf_18 (q := 4) rfl ?_
    refine zx_aload_n dX11_stateOf_20 rfl (q := 0) rfl ?_
    obtain ⟨h6, h⟩ := ck_e h
    refine zx_getI hG fl_X11_126 h6 dX11_stateOf_21 ?_
    by_cases c7 : (mI μ a0 21) ≤ x4
    · have h := it_t c7 h
      refine zx_icmp_ge_t (tgt := 54) dX11_stateOf_24 (by decide) c7 ?_
      refine zx_sub (L' := [(0, .ref a0), (1, .int x1), (2, .int x2), (3, .int x3)]) [0, 1, 2, 3] rfl ?_
      exact s_X11_stateOf_b54 hG _ _ _ _ _ _ _ h
    · have h := it_f c7 h
      refine zx_icmp_ge_f (tgt := 54) dX11_stateOf_24 (by decide) c7 ?_
      refine zx_iload_n dX11_stateOf_27 rfl (q := 2) rfl ?_
      by_cases c8 : ¬ x2 = 0
      · have h := it_t c8 h
        refine zx_if_ne_t (tgt := 42) dX11_stateOf_28 (by decide) c8 ?_
        refine zx_sub (L' := [(0, .ref a0), (1, .int x1), (3, .int x3), (4, .int x4)]) [0, 1, 3, 4] rfl ?_
        exact s_X11_stateOf_b42 hG ih _ _ _ _ _ _ _ h
      · have h := it_f c8 h
        refine zx_if_ne_f (tgt := 42) dX11_stateOf_28 (by decide) (Classical.not_not.mp c8) ?_
        refine zx_aload_n dX11_stateOf_31 rfl (q := 0) rfl ?_
        obtain ⟨p9, h10, h⟩ := bd_e h
        refine zx_getR hG fl_X11_69 h6 h10 dX11_stateOf_32 ?_
        refine zx_iload dX11_stateOf_35 (q := 4) rfl ?_
        obtain ⟨h11, h⟩ := ck_e h
        obtain ⟨h12, h⟩ := ck_e h
        refine zx_iald hG rfl (h11).1 (h11).2 (inb_e h12) dX11_stateOf_37 ?_
        refine zx_iload_n dX11_stateOf_38 rfl (q := 1) rfl ?_
        by_cases c13 : ¬ (mI μ p9 (Int32.toNatClampNeg x4)) = x1
        · have h := it_t c13 h
          refine zx_icmp_ne_t (tgt := 46) dX11_stateOf_39 (by decide) c13 ?_
          refine zx_iconst (v := 0) dX11_stateOf_46 iv_iconst_0 ?_
          refine zx_sub (L' := [(0, .ref a0), (1, .int x1), (3, .int x3), (4, .int x4)]) [0, 1, 3, 4] rfl ?_
          exact s_X11_stateOf_b47 hG ih _ _ _ _ _ _ _ _ h
        · have h := it_f c13 h
          refine zx_icmp_ne_f (tgt := 46) dX11_stateOf_39 (by decide) (Classical.not_not.mp c13) ?_
          refine zx_sub (L' := [(0, .ref a0), (1, .int x1), (3, .int x3), (4, .int x4)]) [0, 1, 3, 4] rfl ?_
          exact s_X11_stateOf_b42 hG ih _ _ _ _ _ _ _ h
set_option maxRecDepth 100000 in
theorem s_X11_stateOf {l : Launch} {G : Gt} (hG : Gok l G) (a0 : Nat) (x1 : Int32) (μ : Mm) (r : Int32) (μ' : Mm) (h : f_X11_stateOf a0 x1 μ = some (r, μ')) : ZX l G mX11_stateOf 0 [(0, .ref a0), (1, .int x1)] [] μ (.inl (some (.int r))) μ' := by
  unfold f_X11_stateOf at h
  refine zx_aload_n dX11_stateOf_0 rfl (q := 0) rfl ?_
  refine zx_iload_n dX11_stateOf_1 rfl (q := 1) rfl ?_
  obtain ⟨h1, h⟩ := ck_e h
  obtain ⟨y2, μ4, z3, h⟩ := cl_e h
  refine zx_callV (As := [.int x1]) hG mf_X11_noInner cv_X11_362 h1 ⟨by decide, by decide⟩ rfl rfl (Nat.le_of_ble_eq_true rfl) (s_X11_noInner hG _ _ _ _ _ z3) (Nat.le_of_ble_eq_true rfl) dX11_stateOf_2 ?_
  by_cases c5 : y2 = 0
  · have h := it_t c5 h
    refine zx_if_eq_t (tgt := 11) dX11_stateOf_5 (by decide) c5 ?_
    refine zx_iconst (v := 0) dX11_stateOf_11 iv_iconst_0 ?_
    refine zx_istore_n (L' := [(2, .int 0), (0, .ref a0), (1, .int x1)]) dX11_stateOf_12 rfl (by decide) rfl ?_
    refine zx_iconst (v := 0) dX11_stateOf_13 iv_iconst_0 ?_
    refine zx_istore_n (L' := [(3, .int 0), (2, .int 0), (0, .ref a0), (1, .int x1)]) dX11_stateOf_14 rfl (by decide) rfl ?_
    refine zx_iconst (v := 0) dX11_stateOf_15 iv_iconst_0 ?_
    refine zx_istore (L' := [(4, .int 0), (3, .int 0), (2, .int 0), (0, .ref a0), (1, .int x1)]) dX11_stateOf_16 (by decide) rfl ?_
    refine zx_sub (L' := [(0, .ref a0), (1, .int x1), (2, .int 0), (3, .int 0), (4, .int 0)]) [3, 4, 2, 1, 0] rfl ?_
    exact s_X11_stateOf_b18 hG 5000 _ _ _ _ _ _ _ _ h
  · have h := it_f c5 h
    refine zx_if_eq_f (tgt := 11) dX11_stateOf_5 (by decide) c5 ?_
    refine zx_bipush (v := 32) dX11_stateOf_8 iv_bipush_32 ?_
    cases h
    exact zx_zretC dX11_stateOf_10 rfl (show zc 32 = 32 by decide)
def f_X11_isReady (a0 : Nat) (x1 : Int32) (μ : Mm) : Option (Int32 × Mm) :=
  ck (mK μ a0 = 112) <|
  cl (f_X11_noInner a0 x1 μ) fun y2 μ4 =>
  if ¬ y2 = 0 then
    some (0, μ4)
  else
    ck (mK μ4 a0 = 112) <|
    bd (mR μ4 a0 19) fun p7 =>
    ck (isA 2 (mK μ4 p7)) <|
    ck (inb x1 (mL μ4 p7)) <|
    if (zb (mI μ4 p7 (Int32.toNatClampNeg x1))) = 0 then
      some (0, μ4)
    else
      some (1, μ4)
set_option maxRecDepth 100000 in
theorem s_X11_isReady {l : Launch} {G : Gt} (hG : Gok l G) (a0 : Nat) (x1 : Int32) (μ : Mm) (r : Int32) (μ' : Mm) (h : f_X11_isReady a0 x1 μ = some (r, μ')) : ZX l G mX11_isReady 0 [(0, .ref a0), (1, .int x1)] [] μ (.inl (some (.int r))) μ' := by
  unfold f_X11_isReady at h
  refine zx_aload_n dX11_isReady_0 rfl (q := 0) rfl ?_
  refine zx_iload_n dX11_isReady_1 rfl (q := 1) rfl ?_
  obtain ⟨h1, h⟩ := ck_e h
  obtain ⟨y2, μ4, z3, h⟩ := cl_e h
  refine zx_callV (As := [.int x1]) hG mf_X11_noInner cv_X11_362 h1 ⟨by decide, by decide⟩ rfl rfl (Nat.le_of_ble_eq_true rfl) (s_X11_noInner hG _ _ _ _ _ z3) (Nat.le_of_ble_eq_true rfl) dX11_isReady_2 ?_
  by_cases c5 : ¬ y2 = 0
  · have h := it_t c5 h
    refine zx_if_ne_t (tgt := 21) dX11_isReady_5 (by decide) c5 ?_
    refine zx_iconst (v := 0) dX11_isReady_21 iv_iconst_0 ?_
    cases h
    exact zx_zretZ dX11_isReady_22 rfl zb_0
  · have h := it_f c5 h
    refine zx_if_ne_f (tgt := 21) dX11_isReady_5 (by decide) (Classical.not_not.mp c5) ?_
    refine zx_aload_n dX11_isReady_8 rfl (q := 0) rfl ?_
    obtain ⟨h6, h⟩ := ck_e h
    obtain ⟨p7, h8, h⟩ := bd_e h
    refine zx_getR hG fl_X11_65 h6 h8 dX11_isReady_9 ?_
    refine zx_iload_n dX11_isReady_12 rfl (q := 1) rfl ?_
    obtain ⟨h9, h⟩ := ck_e h
    obtain ⟨h10, h⟩ := ck_e h
    refine zx_zald hG rfl (h9).1 (h9).2 (inb_e h10) dX11_isReady_13 ?_
    by_cases c11 : (zb (mI μ4 p7 (Int32.toNatClampNeg x1))) = 0
    · have h := it_t c11 h
      refine zx_if_eq_t (tgt := 21) dX11_isReady_14 (by decide) c11 ?_
      refine zx_iconst (v := 0) dX11_isReady_21 iv_iconst_0 ?_
      cases h
      exact zx_zretZ dX11_isReady_22 rfl zb_0
    · have h := it_f c11 h
      refine zx_if_eq_f (tgt := 21) dX11_isReady_14 (by decide) c11 ?_
      refine zx_iconst (v := 1) dX11_isReady_17 iv_iconst_1 ?_
      refine zx_goto (tgt := 22) dX11_isReady_18 (by decide) ?_
      cases h
      exact zx_zretZ dX11_isReady_22 rfl zb_1
def f_X11_free (a0 : Nat) (μ : Mm) : Option (Int32 × Mm) :=
  ck (mK μ a0 = 112) <|
  zl (sI μ a0 54 0) fun μ2 =>
  some (mI μ2 a0 21, μ2)
set_option maxRecDepth 100000 in
theorem s_X11_free {l : Launch} {G : Gt} (hG : Gok l G) (a0 : Nat) (μ : Mm) (r : Int32) (μ' : Mm) (h : f_X11_free a0 μ = some (r, μ')) : ZX l G mX11_free 0 [(0, .ref a0)] [] μ (.inl (some (.int r))) μ' := by
  unfold f_X11_free at h
  refine zx_aload_n dX11_free_0 rfl (q := 0) rfl ?_
  refine zx_iconst (v := 0) dX11_free_1 iv_iconst_0 ?_
  obtain ⟨h1, h⟩ := ck_e h
  refine zx_putI hG fl_X11_123 fn_12_54 h1 dX11_free_2 ?_
  obtain ⟨μ2, e4, h⟩ := zlm_e h
  refine zx_mem e4 ?_
  have e3 : mK μ2 = mK μ := (congrArg mK e4).trans rfl
  refine zx_aload_n dX11_free_5 rfl (q := 0) rfl ?_
  refine zx_getI hG fl_X11_126 (kp_o (e3) h1) dX11_free_6 ?_
  cases h
  exact zx_iret dX11_free_9 rfl
def f_X11_freeAt_b20 (a0 : Nat) (x1 : Int32) (s0 : Int32) (s1 : Nat) (μ : Mm) : Option (Int32 × Mm) :=
  ck (mK μ s1 = 112) <|
  zl (sI μ s1 54 s0) fun μ6 =>
  ck (mK μ6 a0 = 112) <|
  if (mI μ6 a0 54) ≤ 0 then
    bd (mR μ6 a0 20) fun p11 =>
    ck (isA 1 (mK μ6 p11)) <|
    ck (inb x1 (mL μ6 p11)) <|
    some (mI μ6 p11 (Int32.toNatClampNeg x1), μ6)
  else
    some (0, μ6)
def f_X11_freeAt (a0 : Nat) (x1 : Int32) (μ : Mm) : Option (Int32 × Mm) :=
  ck (mK μ a0 = 112) <|
  bd (f_X11_in x1 0 ((mI μ a0 21) - 1)) fun y2 =>
  if y2 = 0 then
    f_X11_freeAt_b20 a0 x1 1 a0 μ
  else
    f_X11_freeAt_b20 a0 x1 0 a0 μ
set_option maxRecDepth 100000 in
theorem s_X11_freeAt_b20 {l : Launch} {G : Gt} (hG : Gok l G) (a0 : Nat) (x1 : Int32) (s0 : Int32) (s1 : Nat) (μ : Mm) (r : Int32) (μ' : Mm) (h : f_X11_freeAt_b20 a0 x1 s0 s1 μ = some (r, μ')) : ZX l G mX11_freeAt 20 [(0, .ref a0), (1, .int x1)] [.int s0, .ref s1] μ (.inl (some (.int r))) μ' := by
  unfold f_X11_freeAt_b20 at h
  obtain ⟨h5, h⟩ := ck_e h
  refine zx_putI hG fl_X11_123 fn_12_54 h5 dX11_freeAt_20 ?_
  obtain ⟨μ6, e8, h⟩ := zlm_e h
  refine zx_mem e8 ?_
  have e7 : mK μ6 = mK μ := (congrArg mK e8).trans rfl
  refine zx_aload_n dX11_freeAt_23 rfl (q := 0) rfl ?_
  obtain ⟨h9, h⟩ := ck_e h
  refine zx_getI hG fl_X11_123 h9 dX11_freeAt_24 ?_
  by_cases c10 : (mI μ6 a0 54) ≤ 0
  · have h := it_t c10 h
    refine zx_if_le_t (tgt := 34) dX11_freeAt_27 (by decide) c10 ?_
    refine zx_aload_n dX11_freeAt_34 rfl (q := 0) rfl ?_
    obtain ⟨p11, h12, h⟩ := bd_e h
    refine zx_getR hG fl_X11_69 h9 h12 dX11_freeAt_35 ?_
    refine zx_iload_n dX11_freeAt_38 rfl (q := 1) rfl ?_
    obtain ⟨h13, h⟩ := ck_e h
    obtain ⟨h14, h⟩ := ck_e h
    refine zx_iald hG rfl (h13).1 (h13).2 (inb_e h14) dX11_freeAt_39 ?_
    cases h
    exact zx_iret dX11_freeAt_40 rfl
  · have h := it_f c10 h
    refine zx_if_le_f (tgt := 34) dX11_freeAt_27 (by decide) c10 ?_
    refine zx_iconst (v := 0) dX11_freeAt_30 iv_iconst_0 ?_
    refine zx_goto (tgt := 40) dX11_freeAt_31 (by decide) ?_
    cases h
    exact zx_iret dX11_freeAt_40 rfl
set_option maxRecDepth 100000 in
theorem s_X11_freeAt {l : Launch} {G : Gt} (hG : Gok l G) (a0 : Nat) (x1 : Int32) (μ : Mm) (r : Int32) (μ' : Mm) (h : f_X11_freeAt a0 x1 μ = some (r, μ')) : ZX l G mX11_freeAt 0 [(0, .ref a0), (1, .int x1)] [] μ (.inl (some (.int r))) μ' := by
  unfold f_X11_freeAt at h
  refine zx_aload_n dX11_freeAt_0 rfl (q := 0) rfl ?_
  refine zx_iload_n dX11_freeAt_1 rfl (q := 1) rfl ?_
  refine zx_iconst (v := 0) dX11_freeAt_2 iv_iconst_0 ?_
  refine zx_aload_n dX11_freeAt_3 rfl (q := 0) rfl ?_
  obtain ⟨h1, h⟩ := ck_e h
  refine zx_getI hG fl_X11_126 h1 dX11_freeAt_4 ?_
  refine zx_iconst (v := 1) dX11_freeAt_7 iv_iconst_1 ?_
  refine zx_isub dX11_freeAt_8 ?_
  obtain ⟨y2, z3, h⟩ := bd_e h
  refine zx_callS (As := [.int x1, .int 0, .int ((mI μ a0 21) - 1)]) hG mf_X11_in cs_X11_129 ⟨by decide, by decide⟩ rfl rfl (Nat.le_of_ble_eq_true rfl) (s_X11_in hG _ _ _ _ _ z3) (Nat.le_of_ble_eq_true rfl) dX11_freeAt_9 ?_
  by_cases c4 : y2 = 0
  · have h := it_t c4 h
    refine zx_if_eq_t (tgt := 19) dX11_freeAt_12 (by decide) c4 ?_
    refine zx_iconst (v := 1) dX11_freeAt_19 iv_iconst_1 ?_
    exact s_X11_freeAt_b20 hG _ _ _ _ _ _ _ h
  · have h := it_f c4 h
    refine zx_if_eq_f (tgt := 19) dX11_freeAt_12 (by decide) c4 ?_
    refine zx_iconst (v := 0) dX11_freeAt_15 iv_iconst_0 ?_
    refine zx_goto (tgt := 20) dX11_freeAt_16 (by decide) ?_
    exact s_X11_freeAt_b20 hG _ _ _ _ _ _ _ h
