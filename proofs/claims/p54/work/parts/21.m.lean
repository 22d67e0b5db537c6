theorem dJx4a65c_add_9ea2d_0 : decode cJx4a65c_add_9ea2d 0 = .ok (.aload_n 0, 1) := by decide +kernel
theorem dJx4a65c_add_9ea2d_1 : decode cJx4a65c_add_9ea2d 1 = .ok (.dup, 1) := by decide +kernel
theorem dJx4a65c_add_9ea2d_2 : decode cJx4a65c_add_9ea2d 2 = .ok (.getfield 63, 3) := by decide +kernel
theorem dJx4a65c_add_9ea2d_5 : decode cJx4a65c_add_9ea2d 5 = .ok (.iconst 1, 1) := by decide +kernel
theorem dJx4a65c_add_9ea2d_6 : decode cJx4a65c_add_9ea2d 6 = .ok (.iadd, 1) := by decide +kernel
theorem dJx4a65c_add_9ea2d_7 : decode cJx4a65c_add_9ea2d 7 = .ok (.putfield 63, 3) := by decide +kernel
theorem dJx4a65c_add_9ea2d_10 : decode cJx4a65c_add_9ea2d 10 = .ok (.aload_n 0, 1) := by decide +kernel
theorem dJx4a65c_add_9ea2d_11 : decode cJx4a65c_add_9ea2d 11 = .ok (.aload_n 1, 1) := by decide +kernel
theorem dJx4a65c_add_9ea2d_12 : decode cJx4a65c_add_9ea2d 12 = .ok (.aload_n 0, 1) := by decide +kernel
theorem dJx4a65c_add_9ea2d_13 : decode cJx4a65c_add_9ea2d 13 = .ok (.getfield 9, 3) := by decide +kernel
theorem dJx4a65c_add_9ea2d_16 : decode cJx4a65c_add_9ea2d 16 = .ok (.aload_n 0, 1) := by decide +kernel
theorem dJx4a65c_add_9ea2d_17 : decode cJx4a65c_add_9ea2d 17 = .ok (.getfield 48, 3) := by decide +kernel
theorem dJx4a65c_add_9ea2d_20 : decode cJx4a65c_add_9ea2d 20 = .ok (.invokevirtual 131, 3) := by decide +kernel
theorem dJx4a65c_add_9ea2d_23 : decode cJx4a65c_add_9ea2d 23 = .ok (.iconst 1, 1) := by decide +kernel
theorem dJx4a65c_add_9ea2d_24 : decode cJx4a65c_add_9ea2d 24 = .ok (.ireturn, 1) := by decide +kernel
theorem dX10_add_0 : decode cX10_add 0 = .ok (.iload_n 1, 1) := by decide +kernel
theorem dX10_add_1 : decode cX10_add 1 = .ok (.bipush 12, 2) := by decide +kernel
theorem dX10_add_3 : decode cX10_add 3 = .ok (.if_icmp .lt 13, 3) := by decide +kernel
theorem dX10_add_6 : decode cX10_add 6 = .ok (.iload_n 1, 1) := by decide +kernel
theorem dX10_add_7 : decode cX10_add 7 = .ok (.bipush 15, 2) := by decide +kernel
theorem dX10_add_9 : decode cX10_add 9 = .ok (.if_icmp .gt 7, 3) := by decide +kernel
theorem dX10_add_12 : decode cX10_add 12 = .ok (.iconst 1, 1) := by decide +kernel
theorem dX10_add_13 : decode cX10_add 13 = .ok (.goto 4, 3) := by decide +kernel
theorem dX10_add_16 : decode cX10_add 16 = .ok (.iconst 0, 1) := by decide +kernel
theorem dX10_add_17 : decode cX10_add 17 = .ok (.istore 6, 2) := by decide +kernel
theorem dX10_add_19 : decode cX10_add 19 = .ok (.iload_n 1, 1) := by decide +kernel
theorem dX10_add_20 : decode cX10_add 20 = .ok (.ifCond .lt 44, 3) := by decide +kernel
theorem dX10_add_23 : decode cX10_add 23 = .ok (.iload_n 1, 1) := by decide +kernel
theorem dX10_add_24 : decode cX10_add 24 = .ok (.bipush 21, 2) := by decide +kernel
theorem dX10_add_26 : decode cX10_add 26 = .ok (.if_icmp .gt 38, 3) := by decide +kernel
theorem dX10_add_29 : decode cX10_add 29 = .ok (.iload_n 2, 1) := by decide +kernel
theorem dX10_add_30 : decode cX10_add 30 = .ok (.invokestatic 16, 3) := by decide +kernel
theorem dX10_add_33 : decode cX10_add 33 = .ok (.ifCond .eq 31, 3) := by decide +kernel
theorem dX10_add_36 : decode cX10_add 36 = .ok (.iload_n 3, 1) := by decide +kernel
theorem dX10_add_37 : decode cX10_add 37 = .ok (.invokestatic 16, 3) := by decide +kernel
theorem dX10_add_40 : decode cX10_add 40 = .ok (.ifCond .eq 24, 3) := by decide +kernel
theorem dX10_add_43 : decode cX10_add 43 = .ok (.iload 4, 2) := by decide +kernel
theorem dX10_add_45 : decode cX10_add 45 = .ok (.invokestatic 16, 3) := by decide +kernel
theorem dX10_add_48 : decode cX10_add 48 = .ok (.ifCond .eq 16, 3) := by decide +kernel
theorem dX10_add_51 : decode cX10_add 51 = .ok (.iload 6, 2) := by decide +kernel
theorem dX10_add_53 : decode cX10_add 53 = .ok (.ifCond .eq 19, 3) := by decide +kernel
theorem dX10_add_56 : decode cX10_add 56 = .ok (.iload 5, 2) := by decide +kernel
theorem dX10_add_58 : decode cX10_add 58 = .ok (.invokestatic 20, 3) := by decide +kernel
theorem dX10_add_61 : decode cX10_add 61 = .ok (.ifCond .ne 11, 3) := by decide +kernel
theorem dX10_add_64 : decode cX10_add 64 = .ok (.new 23, 3) := by decide +kernel
theorem dX10_add_67 : decode cX10_add 67 = .ok (.dup, 1) := by decide +kernel
theorem dX10_add_68 : decode cX10_add 68 = .ok (.invokespecial 25, 3) := by decide +kernel
theorem dX10_add_71 : decode cX10_add 71 = .ok (.athrow, 1) := by decide +kernel
theorem dX10_add_72 : decode cX10_add 72 = .ok (.aload_n 0, 1) := by decide +kernel
theorem dX10_add_73 : decode cX10_add 73 = .ok (.getfield 10, 3) := by decide +kernel
theorem dX10_add_76 : decode cX10_add 76 = .ok (.getfield 26, 3) := by decide +kernel
theorem dX10_add_79 : decode cX10_add 79 = .ok (.invokevirtual 30, 3) := by decide +kernel
theorem dX10_add_82 : decode cX10_add 82 = .ok (.istore 7, 2) := by decide +kernel
theorem dX10_add_84 : decode cX10_add 84 = .ok (.aload_n 0, 1) := by decide +kernel
theorem dX10_add_85 : decode cX10_add 85 = .ok (.getfield 10, 3) := by decide +kernel
theorem dX10_add_88 : decode cX10_add 88 = .ok (.getfield 36, 3) := by decide +kernel
theorem dX10_add_91 : decode cX10_add 91 = .ok (.ifCond .gt 10, 3) := by decide +kernel
theorem dX10_add_94 : decode cX10_add 94 = .ok (.iload 7, 2) := by decide +kernel
theorem dX10_add_96 : decode cX10_add 96 = .ok (.bipush 64, 2) := by decide +kernel
theorem dX10_add_98 : decode cX10_add 98 = .ok (.if_icmp .lt 11, 3) := by decide +kernel
theorem dX10_add_101 : decode cX10_add 101 = .ok (.new 40, 3) := by decide +kernel
theorem dX10_add_104 : decode cX10_add 104 = .ok (.dup, 1) := by decide +kernel
theorem dX10_add_105 : decode cX10_add 105 = .ok (.invokespecial 42, 3) := by decide +kernel
theorem dX10_add_108 : decode cX10_add 108 = .ok (.athrow, 1) := by decide +kernel
theorem dX10_add_109 : decode cX10_add 109 = .ok (.aload_n 0, 1) := by decide +kernel
theorem dX10_add_110 : decode cX10_add 110 = .ok (.getfield 10, 3) := by decide +kernel
theorem dX10_add_113 : decode cX10_add 113 = .ok (.getfield 26, 3) := by decide +kernel
theorem dX10_add_116 : decode cX10_add 116 = .ok (.new 43, 3) := by decide +kernel
theorem dX10_add_119 : decode cX10_add 119 = .ok (.dup, 1) := by decide +kernel
theorem dX10_add_120 : decode cX10_add 120 = .ok (.iload 7, 2) := by decide +kernel
theorem dX10_add_122 : decode cX10_add 122 = .ok (.iload_n 1, 1) := by decide +kernel
theorem dX10_add_123 : decode cX10_add 123 = .ok (.iload_n 2, 1) := by decide +kernel
theorem dX10_add_124 : decode cX10_add 124 = .ok (.iload_n 3, 1) := by decide +kernel
theorem dX10_add_125 : decode cX10_add 125 = .ok (.iload 4, 2) := by decide +kernel
theorem dX10_add_127 : decode cX10_add 127 = .ok (.iload 5, 2) := by decide +kernel
theorem dX10_add_129 : decode cX10_add 129 = .ok (.invokespecial 45, 3) := by decide +kernel
theorem dX10_add_132 : decode cX10_add 132 = .ok (.invokevirtual 48, 3) := by decide +kernel
theorem dX10_add_135 : decode cX10_add 135 = .ok (.pop, 1) := by decide +kernel
theorem dX10_add_136 : decode cX10_add 136 = .ok (.iload 7, 2) := by decide +kernel
theorem dX10_add_138 : decode cX10_add 138 = .ok (.ireturn, 1) := by decide +kernel
theorem dX10_setRegister_0 : decode cX10_setRegister 0 = .ok (.iload_n 1, 1) := by decide +kernel
theorem dX10_setRegister_1 : decode cX10_setRegister 1 = .ok (.invokestatic 16, 3) := by decide +kernel
theorem dX10_setRegister_4 : decode cX10_setRegister 4 = .ok (.ifCond .ne 11, 3) := by decide +kernel
theorem dX10_setRegister_7 : decode cX10_setRegister 7 = .ok (.new 23, 3) := by decide +kernel
theorem dX10_setRegister_10 : decode cX10_setRegister 10 = .ok (.dup, 1) := by decide +kernel
theorem dX10_setRegister_11 : decode cX10_setRegister 11 = .ok (.invokespecial 25, 3) := by decide +kernel
theorem dX10_setRegister_14 : decode cX10_setRegister 14 = .ok (.athrow, 1) := by decide +kernel
theorem dX10_setRegister_15 : decode cX10_setRegister 15 = .ok (.aload_n 0, 1) := by decide +kernel
theorem dX10_setRegister_16 : decode cX10_setRegister 16 = .ok (.getfield 10, 3) := by decide +kernel
theorem dX10_setRegister_19 : decode cX10_setRegister 19 = .ok (.getfield 36, 3) := by decide +kernel
theorem dX10_setRegister_22 : decode cX10_setRegister 22 = .ok (.ifCond .le 11, 3) := by decide +kernel
theorem dX10_setRegister_25 : decode cX10_setRegister 25 = .ok (.new 40, 3) := by decide +kernel
theorem dX10_setRegister_28 : decode cX10_setRegister 28 = .ok (.dup, 1) := by decide +kernel
theorem dX10_setRegister_29 : decode cX10_setRegister 29 = .ok (.invokespecial 42, 3) := by decide +kernel
theorem dX10_setRegister_32 : decode cX10_setRegister 32 = .ok (.athrow, 1) := by decide +kernel
theorem dX10_setRegister_33 : decode cX10_setRegister 33 = .ok (.aload_n 0, 1) := by decide +kernel
theorem dX10_setRegister_34 : decode cX10_setRegister 34 = .ok (.getfield 10, 3) := by decide +kernel
theorem dX10_setRegister_37 : decode cX10_setRegister 37 = .ok (.getfield 52, 3) := by decide +kernel
theorem dX10_setRegister_40 : decode cX10_setRegister 40 = .ok (.getfield 56, 3) := by decide +kernel
theorem dX10_setRegister_43 : decode cX10_setRegister 43 = .ok (.iload_n 1, 1) := by decide +kernel
theorem dX10_setRegister_44 : decode cX10_setRegister 44 = .ok (.iaload, 1) := by decide +kernel
theorem dX10_setRegister_45 : decode cX10_setRegister 45 = .ok (.istore_n 3, 1) := by decide +kernel
theorem dX10_setRegister_46 : decode cX10_setRegister 46 = .ok (.aload_n 0, 1) := by decide +kernel
theorem dX10_setRegister_47 : decode cX10_setRegister 47 = .ok (.getfield 10, 3) := by decide +kernel
theorem dX10_setRegister_50 : decode cX10_setRegister 50 = .ok (.getfield 52, 3) := by decide +kernel
theorem dX10_setRegister_53 : decode cX10_setRegister 53 = .ok (.getfield 56, 3) := by decide +kernel
theorem dX10_setRegister_56 : decode cX10_setRegister 56 = .ok (.iload_n 1, 1) := by decide +kernel
theorem dX10_setRegister_57 : decode cX10_setRegister 57 = .ok (.iload_n 2, 1) := by decide +kernel
theorem dX10_setRegister_58 : decode cX10_setRegister 58 = .ok (.iastore, 1) := by decide +kernel
theorem dX10_setRegister_59 : decode cX10_setRegister 59 = .ok (.aload_n 0, 1) := by decide +kernel
theorem dX10_setRegister_60 : decode cX10_setRegister 60 = .ok (.getfield 10, 3) := by decide +kernel
theorem dX10_setRegister_63 : decode cX10_setRegister 63 = .ok (.getfield 62, 3) := by decide +kernel
theorem dX10_setRegister_66 : decode cX10_setRegister 66 = .ok (.getfield 66, 3) := by decide +kernel
theorem dX10_setRegister_69 : decode cX10_setRegister 69 = .ok (.iload_n 1, 1) := by decide +kernel
theorem dX10_setRegister_70 : decode cX10_setRegister 70 = .ok (.iload_n 2, 1) := by decide +kernel
theorem dX10_setRegister_71 : decode cX10_setRegister 71 = .ok (.iastore, 1) := by decide +kernel
theorem dX10_setRegister_72 : decode cX10_setRegister 72 = .ok (.iload_n 3, 1) := by decide +kernel
theorem dX10_setRegister_73 : decode cX10_setRegister 73 = .ok (.ireturn, 1) := by decide +kernel
theorem dX10_isAddress_0 : decode cX10_isAddress 0 = .ok (.iload_n 0, 1) := by decide +kernel
theorem dX10_isAddress_1 : decode cX10_isAddress 1 = .ok (.ifCond .lt 13, 3) := by decide +kernel
theorem dX10_isAddress_4 : decode cX10_isAddress 4 = .ok (.iload_n 0, 1) := by decide +kernel
theorem dX10_isAddress_5 : decode cX10_isAddress 5 = .ok (.bipush 64, 2) := by decide +kernel
theorem dX10_isAddress_7 : decode cX10_isAddress 7 = .ok (.if_icmp .ge 7, 3) := by decide +kernel
theorem dX10_isAddress_10 : decode cX10_isAddress 10 = .ok (.iconst 1, 1) := by decide +kernel
theorem dX10_isAddress_11 : decode cX10_isAddress 11 = .ok (.goto 4, 3) := by decide +kernel
theorem dX10_isAddress_14 : decode cX10_isAddress 14 = .ok (.iconst 0, 1) := by decide +kernel
theorem dX10_isAddress_15 : decode cX10_isAddress 15 = .ok (.ireturn, 1) := by decide +kernel
theorem dX10_setWord_0 : decode cX10_setWord 0 = .ok (.iload_n 1, 1) := by decide +kernel
theorem dX10_setWord_1 : decode cX10_setWord 1 = .ok (.invokestatic 71, 3) := by decide +kernel
theorem dX10_setWord_4 : decode cX10_setWord 4 = .ok (.ifCond .ne 11, 3) := by decide +kernel
theorem dX10_setWord_7 : decode cX10_setWord 7 = .ok (.new 23, 3) := by decide +kernel
theorem dX10_setWord_10 : decode cX10_setWord 10 = .ok (.dup, 1) := by decide +kernel
theorem dX10_setWord_11 : decode cX10_setWord 11 = .ok (.invokespecial 25, 3) := by decide +kernel
theorem dX10_setWord_14 : decode cX10_setWord 14 = .ok (.athrow, 1) := by decide +kernel
theorem dX10_setWord_15 : decode cX10_setWord 15 = .ok (.aload_n 0, 1) := by decide +kernel
theorem dX10_setWord_16 : decode cX10_setWord 16 = .ok (.getfield 10, 3) := by decide +kernel
theorem dX10_setWord_19 : decode cX10_setWord 19 = .ok (.getfield 36, 3) := by decide +kernel
theorem dX10_setWord_22 : decode cX10_setWord 22 = .ok (.ifCond .le 11, 3) := by decide +kernel
theorem dX10_setWord_25 : decode cX10_setWord 25 = .ok (.new 40, 3) := by decide +kernel
theorem dX10_setWord_28 : decode cX10_setWord 28 = .ok (.dup, 1) := by decide +kernel
theorem dX10_setWord_29 : decode cX10_setWord 29 = .ok (.invokespecial 42, 3) := by decide +kernel
theorem dX10_setWord_32 : decode cX10_setWord 32 = .ok (.athrow, 1) := by decide +kernel
theorem dX10_setWord_33 : decode cX10_setWord 33 = .ok (.aload_n 0, 1) := by decide +kernel
theorem dX10_setWord_34 : decode cX10_setWord 34 = .ok (.getfield 10, 3) := by decide +kernel
theorem dX10_setWord_37 : decode cX10_setWord 37 = .ok (.getfield 74, 3) := by decide +kernel
theorem dX10_setWord_40 : decode cX10_setWord 40 = .ok (.iload_n 1, 1) := by decide +kernel
theorem dX10_setWord_41 : decode cX10_setWord 41 = .ok (.iaload, 1) := by decide +kernel
theorem dX10_setWord_42 : decode cX10_setWord 42 = .ok (.istore_n 3, 1) := by decide +kernel
theorem dX10_setWord_43 : decode cX10_setWord 43 = .ok (.aload_n 0, 1) := by decide +kernel
theorem dX10_setWord_44 : decode cX10_setWord 44 = .ok (.getfield 10, 3) := by decide +kernel
theorem dX10_setWord_47 : decode cX10_setWord 47 = .ok (.getfield 52, 3) := by decide +kernel
theorem dX10_setWord_50 : decode cX10_setWord 50 = .ok (.getfield 77, 3) := by decide +kernel
theorem dX10_setWord_53 : decode cX10_setWord 53 = .ok (.iload_n 1, 1) := by decide +kernel
theorem dX10_setWord_54 : decode cX10_setWord 54 = .ok (.iload_n 2, 1) := by decide +kernel
theorem dX10_setWord_55 : decode cX10_setWord 55 = .ok (.iastore, 1) := by decide +kernel
theorem dX10_setWord_56 : decode cX10_setWord 56 = .ok (.aload_n 0, 1) := by decide +kernel
theorem dX10_setWord_57 : decode cX10_setWord 57 = .ok (.getfield 10, 3) := by decide +kernel
theorem dX10_setWord_60 : decode cX10_setWord 60 = .ok (.getfield 74, 3) := by decide +kernel
theorem dX10_setWord_63 : decode cX10_setWord 63 = .ok (.iload_n 1, 1) := by decide +kernel
theorem dX10_setWord_64 : decode cX10_setWord 64 = .ok (.iload_n 2, 1) := by decide +kernel
theorem dX10_setWord_65 : decode cX10_setWord 65 = .ok (.iastore, 1) := by decide +kernel
theorem dX10_setWord_66 : decode cX10_setWord 66 = .ok (.iload_n 3, 1) := by decide +kernel
theorem dX10_setWord_67 : decode cX10_setWord 67 = .ok (.ireturn, 1) := by decide +kernel
theorem dX10_setWidth_0 : decode cX10_setWidth 0 = .ok (.iload_n 1, 1) := by decide +kernel
theorem dX10_setWidth_1 : decode cX10_setWidth 1 = .ok (.iconst 1, 1) := by decide +kernel
theorem dX10_setWidth_2 : decode cX10_setWidth 2 = .ok (.if_icmp .lt 8, 3) := by decide +kernel
theorem dX10_setWidth_5 : decode cX10_setWidth 5 = .ok (.iload_n 1, 1) := by decide +kernel
theorem dX10_setWidth_6 : decode cX10_setWidth 6 = .ok (.iconst 4, 1) := by decide +kernel
theorem dX10_setWidth_7 : decode cX10_setWidth 7 = .ok (.if_icmp .le 11, 3) := by decide +kernel
theorem dX10_setWidth_10 : decode cX10_setWidth 10 = .ok (.new 23, 3) := by decide +kernel
theorem dX10_setWidth_13 : decode cX10_setWidth 13 = .ok (.dup, 1) := by decide +kernel
theorem dX10_setWidth_14 : decode cX10_setWidth 14 = .ok (.invokespecial 25, 3) := by decide +kernel
theorem dX10_setWidth_17 : decode cX10_setWidth 17 = .ok (.athrow, 1) := by decide +kernel
theorem dX10_setWidth_18 : decode cX10_setWidth 18 = .ok (.aload_n 0, 1) := by decide +kernel
theorem dX10_setWidth_19 : decode cX10_setWidth 19 = .ok (.getfield 10, 3) := by decide +kernel
theorem dX10_setWidth_22 : decode cX10_setWidth 22 = .ok (.getfield 36, 3) := by decide +kernel
theorem dX10_setWidth_25 : decode cX10_setWidth 25 = .ok (.ifCond .le 11, 3) := by decide +kernel
theorem dX10_setWidth_28 : decode cX10_setWidth 28 = .ok (.new 40, 3) := by decide +kernel
theorem dX10_setWidth_31 : decode cX10_setWidth 31 = .ok (.dup, 1) := by decide +kernel
theorem dX10_setWidth_32 : decode cX10_setWidth 32 = .ok (.invokespecial 42, 3) := by decide +kernel
theorem dX10_setWidth_35 : decode cX10_setWidth 35 = .ok (.athrow, 1) := by decide +kernel
theorem dX10_setWidth_36 : decode cX10_setWidth 36 = .ok (.aload_n 0, 1) := by decide +kernel
theorem dX10_setWidth_37 : decode cX10_setWidth 37 = .ok (.getfield 10, 3) := by decide +kernel
theorem dX10_setWidth_40 : decode cX10_setWidth 40 = .ok (.getfield 78, 3) := by decide +kernel
theorem dX10_setWidth_43 : decode cX10_setWidth 43 = .ok (.getfield 82, 3) := by decide +kernel
theorem dX10_setWidth_46 : decode cX10_setWidth 46 = .ok (.istore_n 2, 1) := by decide +kernel
theorem dX10_setWidth_47 : decode cX10_setWidth 47 = .ok (.aload_n 0, 1) := by decide +kernel
theorem dX10_setWidth_48 : decode cX10_setWidth 48 = .ok (.getfield 10, 3) := by decide +kernel
theorem dX10_setWidth_51 : decode cX10_setWidth 51 = .ok (.getfield 78, 3) := by decide +kernel
theorem dX10_setWidth_54 : decode cX10_setWidth 54 = .ok (.iload_n 1, 1) := by decide +kernel
theorem dX10_setWidth_55 : decode cX10_setWidth 55 = .ok (.putfield 82, 3) := by decide +kernel
theorem dX10_setWidth_58 : decode cX10_setWidth 58 = .ok (.iload_n 2, 1) := by decide +kernel
theorem dX10_setWidth_59 : decode cX10_setWidth 59 = .ok (.ireturn, 1) := by decide +kernel
theorem dX10_setBuffer_0 : decode cX10_setBuffer 0 = .ok (.iload_n 1, 1) := by decide +kernel
theorem dX10_setBuffer_1 : decode cX10_setBuffer 1 = .ok (.iconst 4, 1) := by decide +kernel
theorem dX10_setBuffer_2 : decode cX10_setBuffer 2 = .ok (.if_icmp .lt 9, 3) := by decide +kernel
theorem dX10_setBuffer_5 : decode cX10_setBuffer 5 = .ok (.iload_n 1, 1) := by decide +kernel
theorem dX10_setBuffer_6 : decode cX10_setBuffer 6 = .ok (.bipush 16, 2) := by decide +kernel
theorem dX10_setBuffer_8 : decode cX10_setBuffer 8 = .ok (.if_icmp .le 11, 3) := by decide +kernel
theorem dX10_setBuffer_11 : decode cX10_setBuffer 11 = .ok (.new 23, 3) := by decide +kernel
theorem dX10_setBuffer_14 : decode cX10_setBuffer 14 = .ok (.dup, 1) := by decide +kernel
theorem dX10_setBuffer_15 : decode cX10_setBuffer 15 = .ok (.invokespecial 25, 3) := by decide +kernel
theorem dX10_setBuffer_18 : decode cX10_setBuffer 18 = .ok (.athrow, 1) := by decide +kernel
theorem dX10_setBuffer_19 : decode cX10_setBuffer 19 = .ok (.aload_n 0, 1) := by decide +kernel
theorem dX10_setBuffer_20 : decode cX10_setBuffer 20 = .ok (.getfield 10, 3) := by decide +kernel
theorem dX10_setBuffer_23 : decode cX10_setBuffer 23 = .ok (.getfield 36, 3) := by decide +kernel
theorem dX10_setBuffer_26 : decode cX10_setBuffer 26 = .ok (.ifCond .le 11, 3) := by decide +kernel
theorem dX10_setBuffer_29 : decode cX10_setBuffer 29 = .ok (.new 40, 3) := by decide +kernel
theorem dX10_setBuffer_32 : decode cX10_setBuffer 32 = .ok (.dup, 1) := by decide +kernel
theorem dX10_setBuffer_33 : decode cX10_setBuffer 33 = .ok (.invokespecial 42, 3) := by decide +kernel
theorem dX10_setBuffer_36 : decode cX10_setBuffer 36 = .ok (.athrow, 1) := by decide +kernel
theorem dX10_setBuffer_37 : decode cX10_setBuffer 37 = .ok (.aload_n 0, 1) := by decide +kernel
theorem dX10_setBuffer_38 : decode cX10_setBuffer 38 = .ok (.getfield 10, 3) := by decide +kernel
theorem dX10_setBuffer_41 : decode cX10_setBuffer 41 = .ok (.getfield 78, 3) := by decide +kernel
theorem dX10_setBuffer_44 : decode cX10_setBuffer 44 = .ok (.getfield 87, 3) := by decide +kernel
theorem dX10_setBuffer_47 : decode cX10_setBuffer 47 = .ok (.istore_n 2, 1) := by decide +kernel
theorem dX10_setBuffer_48 : decode cX10_setBuffer 48 = .ok (.aload_n 0, 1) := by decide +kernel
theorem dX10_setBuffer_49 : decode cX10_setBuffer 49 = .ok (.getfield 10, 3) := by decide +kernel
theorem dX10_setBuffer_52 : decode cX10_setBuffer 52 = .ok (.getfield 78, 3) := by decide +kernel
theorem dX10_setBuffer_55 : decode cX10_setBuffer 55 = .ok (.iload_n 1, 1) := by decide +kernel
theorem dX10_setBuffer_56 : decode cX10_setBuffer 56 = .ok (.putfield 87, 3) := by decide +kernel
theorem dX10_setBuffer_59 : decode cX10_setBuffer 59 = .ok (.iload_n 2, 1) := by decide +kernel
theorem dX10_setBuffer_60 : decode cX10_setBuffer 60 = .ok (.ireturn, 1) := by decide +kernel
theorem dX10_setQueue_0 : decode cX10_setQueue 0 = .ok (.iload_n 1, 1) := by decide +kernel
theorem dX10_setQueue_1 : decode cX10_setQueue 1 = .ok (.iconst 2, 1) := by decide +kernel
theorem dX10_setQueue_2 : decode cX10_setQueue 2 = .ok (.if_icmp .lt 9, 3) := by decide +kernel
theorem dX10_setQueue_5 : decode cX10_setQueue 5 = .ok (.iload_n 1, 1) := by decide +kernel
theorem dX10_setQueue_6 : decode cX10_setQueue 6 = .ok (.bipush 8, 2) := by decide +kernel
theorem dX10_setQueue_8 : decode cX10_setQueue 8 = .ok (.if_icmp .le 11, 3) := by decide +kernel
theorem dX10_setQueue_11 : decode cX10_setQueue 11 = .ok (.new 23, 3) := by decide +kernel
theorem dX10_setQueue_14 : decode cX10_setQueue 14 = .ok (.dup, 1) := by decide +kernel
theorem dX10_setQueue_15 : decode cX10_setQueue 15 = .ok (.invokespecial 25, 3) := by decide +kernel
theorem dX10_setQueue_18 : decode cX10_setQueue 18 = .ok (.athrow, 1) := by decide +kernel
theorem dX10_setQueue_19 : decode cX10_setQueue 19 = .ok (.aload_n 0, 1) := by decide +kernel
theorem dX10_setQueue_20 : decode cX10_setQueue 20 = .ok (.getfield 10, 3) := by decide +kernel
theorem dX10_setQueue_23 : decode cX10_setQueue 23 = .ok (.getfield 36, 3) := by decide +kernel
theorem dX10_setQueue_26 : decode cX10_setQueue 26 = .ok (.ifCond .le 11, 3) := by decide +kernel
theorem dX10_setQueue_29 : decode cX10_setQueue 29 = .ok (.new 40, 3) := by decide +kernel
theorem dX10_setQueue_32 : decode cX10_setQueue 32 = .ok (.dup, 1) := by decide +kernel
theorem dX10_setQueue_33 : decode cX10_setQueue 33 = .ok (.invokespecial 42, 3) := by decide +kernel
theorem dX10_setQueue_36 : decode cX10_setQueue 36 = .ok (.athrow, 1) := by decide +kernel
theorem dX10_setQueue_37 : decode cX10_setQueue 37 = .ok (.aload_n 0, 1) := by decide +kernel
theorem dX10_setQueue_38 : decode cX10_setQueue 38 = .ok (.getfield 10, 3) := by decide +kernel
theorem dX10_setQueue_41 : decode cX10_setQueue 41 = .ok (.getfield 78, 3) := by decide +kernel
theorem dX10_setQueue_44 : decode cX10_setQueue 44 = .ok (.getfield 90, 3) := by decide +kernel
theorem dX10_setQueue_47 : decode cX10_setQueue 47 = .ok (.istore_n 2, 1) := by decide +kernel
theorem dX10_setQueue_48 : decode cX10_setQueue 48 = .ok (.aload_n 0, 1) := by decide +kernel
theorem dX10_setQueue_49 : decode cX10_setQueue 49 = .ok (.getfield 10, 3) := by decide +kernel
theorem dX10_setQueue_52 : decode cX10_setQueue 52 = .ok (.getfield 78, 3) := by decide +kernel
theorem dX10_setQueue_55 : decode cX10_setQueue 55 = .ok (.iload_n 1, 1) := by decide +kernel
theorem dX10_setQueue_56 : decode cX10_setQueue 56 = .ok (.putfield 90, 3) := by decide +kernel
theorem dX10_setQueue_59 : decode cX10_setQueue 59 = .ok (.iload_n 2, 1) := by decide +kernel
theorem dX10_setQueue_60 : decode cX10_setQueue 60 = .ok (.ireturn, 1) := by decide +kernel
theorem dX10_setInner_0 : decode cX10_setInner 0 = .ok (.iload_n 1, 1) := by decide +kernel
theorem dX10_setInner_1 : decode cX10_setInner 1 = .ok (.bipush 10, 2) := by decide +kernel
theorem dX10_setInner_3 : decode cX10_setInner 3 = .ok (.if_icmp .lt 9, 3) := by decide +kernel
theorem dX10_setInner_6 : decode cX10_setInner 6 = .ok (.iload_n 1, 1) := by decide +kernel
theorem dX10_setInner_7 : decode cX10_setInner 7 = .ok (.bipush 24, 2) := by decide +kernel
theorem dX10_setInner_9 : decode cX10_setInner 9 = .ok (.if_icmp .le 11, 3) := by decide +kernel
theorem dX10_setInner_12 : decode cX10_setInner 12 = .ok (.new 23, 3) := by decide +kernel
theorem dX10_setInner_15 : decode cX10_setInner 15 = .ok (.dup, 1) := by decide +kernel
theorem dX10_setInner_16 : decode cX10_setInner 16 = .ok (.invokespecial 25, 3) := by decide +kernel
theorem dX10_setInner_19 : decode cX10_setInner 19 = .ok (.athrow, 1) := by decide +kernel
theorem dX10_setInner_20 : decode cX10_setInner 20 = .ok (.aload_n 0, 1) := by decide +kernel
theorem dX10_setInner_21 : decode cX10_setInner 21 = .ok (.getfield 10, 3) := by decide +kernel
theorem dX10_setInner_24 : decode cX10_setInner 24 = .ok (.getfield 36, 3) := by decide +kernel
theorem dX10_setInner_27 : decode cX10_setInner 27 = .ok (.ifCond .le 11, 3) := by decide +kernel
theorem dX10_setInner_30 : decode cX10_setInner 30 = .ok (.new 40, 3) := by decide +kernel
theorem dX10_setInner_33 : decode cX10_setInner 33 = .ok (.dup, 1) := by decide +kernel
theorem dX10_setInner_34 : decode cX10_setInner 34 = .ok (.invokespecial 42, 3) := by decide +kernel
theorem dX10_setInner_37 : decode cX10_setInner 37 = .ok (.athrow, 1) := by decide +kernel
theorem dX10_setInner_38 : decode cX10_setInner 38 = .ok (.aload_n 0, 1) := by decide +kernel
theorem dX10_setInner_39 : decode cX10_setInner 39 = .ok (.getfield 10, 3) := by decide +kernel
theorem dX10_setInner_42 : decode cX10_setInner 42 = .ok (.getfield 62, 3) := by decide +kernel
theorem dX10_setInner_45 : decode cX10_setInner 45 = .ok (.getfield 93, 3) := by decide +kernel
theorem dX10_setInner_48 : decode cX10_setInner 48 = .ok (.istore_n 2, 1) := by decide +kernel
theorem dX10_setInner_49 : decode cX10_setInner 49 = .ok (.aload_n 0, 1) := by decide +kernel
theorem dX10_setInner_50 : decode cX10_setInner 50 = .ok (.getfield 10, 3) := by decide +kernel
theorem dX10_setInner_53 : decode cX10_setInner 53 = .ok (.getfield 62, 3) := by decide +kernel
theorem dX10_setInner_56 : decode cX10_setInner 56 = .ok (.iload_n 1, 1) := by decide +kernel
theorem dX10_setInner_57 : decode cX10_setInner 57 = .ok (.invokevirtual 96, 3) := by decide +kernel
theorem dX10_setInner_60 : decode cX10_setInner 60 = .ok (.iload_n 2, 1) := by decide +kernel
theorem dX10_setInner_61 : decode cX10_setInner 61 = .ok (.ireturn, 1) := by decide +kernel
theorem dX10_isHandler_0 : decode cX10_isHandler 0 = .ok (.iload_n 0, 1) := by decide +kernel
theorem dX10_isHandler_1 : decode cX10_isHandler 1 = .ok (.iconst (-1), 1) := by decide +kernel
theorem dX10_isHandler_2 : decode cX10_isHandler 2 = .ok (.if_icmp .eq 10, 3) := by decide +kernel
theorem dX10_isHandler_5 : decode cX10_isHandler 5 = .ok (.iload_n 0, 1) := by decide +kernel
theorem dX10_isHandler_6 : decode cX10_isHandler 6 = .ok (.invokestatic 20, 3) := by decide +kernel
theorem dX10_isHandler_9 : decode cX10_isHandler 9 = .ok (.ifCond .eq 7, 3) := by decide +kernel
theorem dX10_isHandler_12 : decode cX10_isHandler 12 = .ok (.iconst 1, 1) := by decide +kernel
theorem dX10_isHandler_13 : decode cX10_isHandler 13 = .ok (.goto 4, 3) := by decide +kernel
theorem dX10_isHandler_16 : decode cX10_isHandler 16 = .ok (.iconst 0, 1) := by decide +kernel
theorem dX10_isHandler_17 : decode cX10_isHandler 17 = .ok (.ireturn, 1) := by decide +kernel
theorem dX10_setHandlers_0 : decode cX10_setHandlers 0 = .ok (.iload_n 1, 1) := by decide +kernel
theorem dX10_setHandlers_1 : decode cX10_setHandlers 1 = .ok (.invokestatic 100, 3) := by decide +kernel
theorem dX10_setHandlers_4 : decode cX10_setHandlers 4 = .ok (.ifCond .eq 10, 3) := by decide +kernel
theorem dX10_setHandlers_7 : decode cX10_setHandlers 7 = .ok (.iload_n 2, 1) := by decide +kernel
theorem dX10_setHandlers_8 : decode cX10_setHandlers 8 = .ok (.invokestatic 100, 3) := by decide +kernel
theorem dX10_setHandlers_11 : decode cX10_setHandlers 11 = .ok (.ifCond .ne 11, 3) := by decide +kernel
theorem dX10_setHandlers_14 : decode cX10_setHandlers 14 = .ok (.new 23, 3) := by decide +kernel
theorem dX10_setHandlers_17 : decode cX10_setHandlers 17 = .ok (.dup, 1) := by decide +kernel
theorem dX10_setHandlers_18 : decode cX10_setHandlers 18 = .ok (.invokespecial 25, 3) := by decide +kernel
theorem dX10_setHandlers_21 : decode cX10_setHandlers 21 = .ok (.athrow, 1) := by decide +kernel
theorem dX10_setHandlers_22 : decode cX10_setHandlers 22 = .ok (.aload_n 0, 1) := by decide +kernel
theorem dX10_setHandlers_23 : decode cX10_setHandlers 23 = .ok (.getfield 10, 3) := by decide +kernel
theorem dX10_setHandlers_26 : decode cX10_setHandlers 26 = .ok (.getfield 36, 3) := by decide +kernel
theorem dX10_setHandlers_29 : decode cX10_setHandlers 29 = .ok (.ifCond .le 11, 3) := by decide +kernel
theorem dX10_setHandlers_32 : decode cX10_setHandlers 32 = .ok (.new 40, 3) := by decide +kernel
theorem dX10_setHandlers_35 : decode cX10_setHandlers 35 = .ok (.dup, 1) := by decide +kernel
theorem dX10_setHandlers_36 : decode cX10_setHandlers 36 = .ok (.invokespecial 42, 3) := by decide +kernel
theorem dX10_setHandlers_39 : decode cX10_setHandlers 39 = .ok (.athrow, 1) := by decide +kernel
theorem dX10_setHandlers_40 : decode cX10_setHandlers 40 = .ok (.bipush 64, 2) := by decide +kernel
theorem dX10_setHandlers_42 : decode cX10_setHandlers 42 = .ok (.aload_n 0, 1) := by decide +kernel
theorem dX10_setHandlers_43 : decode cX10_setHandlers 43 = .ok (.getfield 10, 3) := by decide +kernel
theorem dX10_setHandlers_46 : decode cX10_setHandlers 46 = .ok (.getfield 78, 3) := by decide +kernel
theorem dX10_setHandlers_49 : decode cX10_setHandlers 49 = .ok (.getfield 103, 3) := by decide +kernel
theorem dX10_setHandlers_52 : decode cX10_setHandlers 52 = .ok (.imul, 1) := by decide +kernel
theorem dX10_setHandlers_53 : decode cX10_setHandlers 53 = .ok (.aload_n 0, 1) := by decide +kernel
theorem dX10_setHandlers_54 : decode cX10_setHandlers 54 = .ok (.getfield 10, 3) := by decide +kernel
theorem dX10_setHandlers_57 : decode cX10_setHandlers 57 = .ok (.getfield 78, 3) := by decide +kernel
theorem dX10_setHandlers_60 : decode cX10_setHandlers 60 = .ok (.getfield 106, 3) := by decide +kernel
theorem dX10_setHandlers_63 : decode cX10_setHandlers 63 = .ok (.iadd, 1) := by decide +kernel
theorem dX10_setHandlers_64 : decode cX10_setHandlers 64 = .ok (.istore_n 3, 1) := by decide +kernel
theorem dX10_setHandlers_65 : decode cX10_setHandlers 65 = .ok (.aload_n 0, 1) := by decide +kernel
theorem dX10_setHandlers_66 : decode cX10_setHandlers 66 = .ok (.getfield 10, 3) := by decide +kernel
theorem dX10_setHandlers_69 : decode cX10_setHandlers 69 = .ok (.getfield 78, 3) := by decide +kernel
theorem dX10_setHandlers_72 : decode cX10_setHandlers 72 = .ok (.iload_n 1, 1) := by decide +kernel
theorem dX10_setHandlers_73 : decode cX10_setHandlers 73 = .ok (.putfield 103, 3) := by decide +kernel
theorem dX10_setHandlers_76 : decode cX10_setHandlers 76 = .ok (.aload_n 0, 1) := by decide +kernel
theorem dX10_setHandlers_77 : decode cX10_setHandlers 77 = .ok (.getfield 10, 3) := by decide +kernel
theorem dX10_setHandlers_80 : decode cX10_setHandlers 80 = .ok (.getfield 78, 3) := by decide +kernel
theorem dX10_setHandlers_83 : decode cX10_setHandlers 83 = .ok (.iload_n 2, 1) := by decide +kernel
theorem dX10_setHandlers_84 : decode cX10_setHandlers 84 = .ok (.putfield 106, 3) := by decide +kernel
theorem dX10_setHandlers_87 : decode cX10_setHandlers 87 = .ok (.iload_n 3, 1) := by decide +kernel
theorem dX10_setHandlers_88 : decode cX10_setHandlers 88 = .ok (.ireturn, 1) := by decide +kernel
theorem dX10_setTime_0 : decode cX10_setTime 0 = .ok (.iload_n 1, 1) := by decide +kernel
theorem dX10_setTime_1 : decode cX10_setTime 1 = .ok (.ifCond .lt 20, 3) := by decide +kernel
theorem dX10_setTime_4 : decode cX10_setTime 4 = .ok (.iload_n 1, 1) := by decide +kernel
theorem dX10_setTime_5 : decode cX10_setTime 5 = .ok (.bipush 16, 2) := by decide +kernel
theorem dX10_setTime_7 : decode cX10_setTime 7 = .ok (.if_icmp .ge 14, 3) := by decide +kernel
theorem dX10_setTime_10 : decode cX10_setTime 10 = .ok (.iload_n 2, 1) := by decide +kernel
theorem dX10_setTime_11 : decode cX10_setTime 11 = .ok (.iconst 1, 1) := by decide +kernel
theorem dX10_setTime_12 : decode cX10_setTime 12 = .ok (.if_icmp .lt 9, 3) := by decide +kernel
theorem dX10_setTime_15 : decode cX10_setTime 15 = .ok (.iload_n 2, 1) := by decide +kernel
theorem dX10_setTime_16 : decode cX10_setTime 16 = .ok (.bipush 30, 2) := by decide +kernel
theorem dX10_setTime_18 : decode cX10_setTime 18 = .ok (.if_icmp .le 11, 3) := by decide +kernel
theorem dX10_setTime_21 : decode cX10_setTime 21 = .ok (.new 23, 3) := by decide +kernel
theorem dX10_setTime_24 : decode cX10_setTime 24 = .ok (.dup, 1) := by decide +kernel
theorem dX10_setTime_25 : decode cX10_setTime 25 = .ok (.invokespecial 25, 3) := by decide +kernel
theorem dX10_setTime_28 : decode cX10_setTime 28 = .ok (.athrow, 1) := by decide +kernel
theorem dX10_setTime_29 : decode cX10_setTime 29 = .ok (.aload_n 0, 1) := by decide +kernel
theorem dX10_setTime_30 : decode cX10_setTime 30 = .ok (.getfield 10, 3) := by decide +kernel
theorem dX10_setTime_33 : decode cX10_setTime 33 = .ok (.getfield 109, 3) := by decide +kernel
theorem dX10_setTime_36 : decode cX10_setTime 36 = .ok (.getfield 113, 3) := by decide +kernel
theorem dX10_setTime_39 : decode cX10_setTime 39 = .ok (.iload_n 1, 1) := by decide +kernel
theorem dX10_setTime_40 : decode cX10_setTime 40 = .ok (.iaload, 1) := by decide +kernel
theorem dX10_setTime_41 : decode cX10_setTime 41 = .ok (.istore_n 3, 1) := by decide +kernel
theorem dX10_setTime_42 : decode cX10_setTime 42 = .ok (.aload_n 0, 1) := by decide +kernel
theorem dX10_setTime_43 : decode cX10_setTime 43 = .ok (.getfield 10, 3) := by decide +kernel
theorem dX10_setTime_46 : decode cX10_setTime 46 = .ok (.getfield 109, 3) := by decide +kernel
theorem dX10_setTime_49 : decode cX10_setTime 49 = .ok (.getfield 113, 3) := by decide +kernel
theorem dX10_setTime_52 : decode cX10_setTime 52 = .ok (.iload_n 1, 1) := by decide +kernel
theorem dX10_setTime_53 : decode cX10_setTime 53 = .ok (.iload_n 2, 1) := by decide +kernel
theorem dX10_setTime_54 : decode cX10_setTime 54 = .ok (.iastore, 1) := by decide +kernel
theorem dX10_setTime_55 : decode cX10_setTime 55 = .ok (.iload_n 3, 1) := by decide +kernel
theorem dX10_setTime_56 : decode cX10_setTime 56 = .ok (.ireturn, 1) := by decide +kernel
theorem dX10_interrupt_0 : decode cX10_interrupt 0 = .ok (.aload_n 0, 1) := by decide +kernel
theorem dX10_interrupt_1 : decode cX10_interrupt 1 = .ok (.getfield 10, 3) := by decide +kernel
theorem dX10_interrupt_4 : decode cX10_interrupt 4 = .ok (.getfield 118, 3) := by decide +kernel
theorem dX10_interrupt_7 : decode cX10_interrupt 7 = .ok (.istore_n 1, 1) := by decide +kernel
theorem dX10_interrupt_8 : decode cX10_interrupt 8 = .ok (.aload_n 0, 1) := by decide +kernel
theorem dX10_interrupt_9 : decode cX10_interrupt 9 = .ok (.getfield 10, 3) := by decide +kernel
theorem dX10_interrupt_12 : decode cX10_interrupt 12 = .ok (.iconst 1, 1) := by decide +kernel
theorem dX10_interrupt_13 : decode cX10_interrupt 13 = .ok (.putfield 118, 3) := by decide +kernel
theorem dX10_interrupt_16 : decode cX10_interrupt 16 = .ok (.iload_n 1, 1) := by decide +kernel
theorem dX10_interrupt_17 : decode cX10_interrupt 17 = .ok (.ireturn, 1) := by decide +kernel
theorem dJ9_floorMod_7cf53_0 : decode cJ9_floorMod_7cf53 0 = .ok (.iload_n 0, 1) := by decide +kernel
theorem dJ9_floorMod_7cf53_1 : decode cJ9_floorMod_7cf53 1 = .ok (.iload_n 1, 1) := by decide +kernel
theorem dJ9_floorMod_7cf53_2 : decode cJ9_floorMod_7cf53 2 = .ok (.irem, 1) := by decide +kernel
theorem dJ9_floorMod_7cf53_3 : decode cJ9_floorMod_7cf53 3 = .ok (.istore_n 2, 1) := by decide +kernel
theorem dJ9_floorMod_7cf53_4 : decode cJ9_floorMod_7cf53 4 = .ok (.iload_n 0, 1) := by decide +kernel
theorem dJ9_floorMod_7cf53_5 : decode cJ9_floorMod_7cf53 5 = .ok (.iload_n 1, 1) := by decide +kernel
theorem dJ9_floorMod_7cf53_6 : decode cJ9_floorMod_7cf53 6 = .ok (.ixor, 1) := by decide +kernel
theorem dJ9_floorMod_7cf53_7 : decode cJ9_floorMod_7cf53 7 = .ok (.ifCond .ge 11, 3) := by decide +kernel
theorem dJ9_floorMod_7cf53_10 : decode cJ9_floorMod_7cf53 10 = .ok (.iload_n 2, 1) := by decide +kernel
theorem dJ9_floorMod_7cf53_11 : decode cJ9_floorMod_7cf53 11 = .ok (.ifCond .eq 7, 3) := by decide +kernel
theorem dJ9_floorMod_7cf53_14 : decode cJ9_floorMod_7cf53 14 = .ok (.iload_n 2, 1) := by decide +kernel
theorem dJ9_floorMod_7cf53_15 : decode cJ9_floorMod_7cf53 15 = .ok (.iload_n 1, 1) := by decide +kernel
theorem dJ9_floorMod_7cf53_16 : decode cJ9_floorMod_7cf53 16 = .ok (.iadd, 1) := by decide +kernel
theorem dJ9_floorMod_7cf53_17 : decode cJ9_floorMod_7cf53 17 = .ok (.ireturn, 1) := by decide +kernel
theorem dJ9_floorMod_7cf53_18 : decode cJ9_floorMod_7cf53 18 = .ok (.iload_n 2, 1) := by decide +kernel
theorem dJ9_floorMod_7cf53_19 : decode cJ9_floorMod_7cf53 19 = .ok (.ireturn, 1) := by decide +kernel
theorem dX7_comeIn_0 : decode cX7_comeIn 0 = .ok (.iconst 0, 1) := by decide +kernel
theorem dX7_comeIn_1 : decode cX7_comeIn 1 = .ok (.istore_n 2, 1) := by decide +kernel
theorem dX7_comeIn_2 : decode cX7_comeIn 2 = .ok (.iconst 0, 1) := by decide +kernel
theorem dX7_comeIn_3 : decode cX7_comeIn 3 = .ok (.istore_n 3, 1) := by decide +kernel
theorem dX7_comeIn_4 : decode cX7_comeIn 4 = .ok (.iload_n 3, 1) := by decide +kernel
theorem dX7_comeIn_5 : decode cX7_comeIn 5 = .ok (.aload_n 0, 1) := by decide +kernel
theorem dX7_comeIn_6 : decode cX7_comeIn 6 = .ok (.getfield 24, 3) := by decide +kernel
theorem dX7_comeIn_9 : decode cX7_comeIn 9 = .ok (.if_icmp .ge 70, 3) := by decide +kernel
theorem dX7_comeIn_12 : decode cX7_comeIn 12 = .ok (.aload_n 0, 1) := by decide +kernel
theorem dX7_comeIn_13 : decode cX7_comeIn 13 = .ok (.getfield 21, 3) := by decide +kernel
theorem dX7_comeIn_16 : decode cX7_comeIn 16 = .ok (.iload_n 3, 1) := by decide +kernel
theorem dX7_comeIn_17 : decode cX7_comeIn 17 = .ok (.iaload, 1) := by decide +kernel
theorem dX7_comeIn_18 : decode cX7_comeIn 18 = .ok (.iload_n 1, 1) := by decide +kernel
theorem dX7_comeIn_19 : decode cX7_comeIn 19 = .ok (.if_icmp .ne 27, 3) := by decide +kernel
theorem dX7_comeIn_22 : decode cX7_comeIn 22 = .ok (.aload_n 0, 1) := by decide +kernel
theorem dX7_comeIn_23 : decode cX7_comeIn 23 = .ok (.getfield 9, 3) := by decide +kernel
theorem dX7_comeIn_26 : decode cX7_comeIn 26 = .ok (.aload_n 0, 1) := by decide +kernel
theorem dX7_comeIn_27 : decode cX7_comeIn 27 = .ok (.getfield 18, 3) := by decide +kernel
theorem dX7_comeIn_30 : decode cX7_comeIn 30 = .ok (.iload_n 3, 1) := by decide +kernel
theorem dX7_comeIn_31 : decode cX7_comeIn 31 = .ok (.iaload, 1) := by decide +kernel
theorem dX7_comeIn_32 : decode cX7_comeIn 32 = .ok (.iconst 4, 1) := by decide +kernel
theorem dX7_comeIn_33 : decode cX7_comeIn 33 = .ok (.invokestatic 28, 3) := by decide +kernel
theorem dX7_comeIn_36 : decode cX7_comeIn 36 = .ok (.aload_n 0, 1) := by decide +kernel
theorem dX7_comeIn_37 : decode cX7_comeIn 37 = .ok (.getfield 18, 3) := by decide +kernel
theorem dX7_comeIn_40 : decode cX7_comeIn 40 = .ok (.iload_n 3, 1) := by decide +kernel
theorem dX7_comeIn_41 : decode cX7_comeIn 41 = .ok (.iaload, 1) := by decide +kernel
theorem dX7_comeIn_42 : decode cX7_comeIn 42 = .ok (.iastore, 1) := by decide +kernel
theorem dX7_comeIn_43 : decode cX7_comeIn 43 = .ok (.goto 30, 3) := by decide +kernel
theorem dX7_comeIn_46 : decode cX7_comeIn 46 = .ok (.aload_n 0, 1) := by decide +kernel
theorem dX7_comeIn_47 : decode cX7_comeIn 47 = .ok (.getfield 18, 3) := by decide +kernel
theorem dX7_comeIn_50 : decode cX7_comeIn 50 = .ok (.iload_n 2, 1) := by decide +kernel
theorem dX7_comeIn_51 : decode cX7_comeIn 51 = .ok (.aload_n 0, 1) := by decide +kernel
theorem dX7_comeIn_52 : decode cX7_comeIn 52 = .ok (.getfield 18, 3) := by decide +kernel
theorem dX7_comeIn_55 : decode cX7_comeIn 55 = .ok (.iload_n 3, 1) := by decide +kernel
theorem dX7_comeIn_56 : decode cX7_comeIn 56 = .ok (.iaload, 1) := by decide +kernel
theorem dX7_comeIn_57 : decode cX7_comeIn 57 = .ok (.iastore, 1) := by decide +kernel
theorem dX7_comeIn_58 : decode cX7_comeIn 58 = .ok (.aload_n 0, 1) := by decide +kernel
theorem dX7_comeIn_59 : decode cX7_comeIn 59 = .ok (.getfield 21, 3) := by decide +kernel
theorem dX7_comeIn_62 : decode cX7_comeIn 62 = .ok (.iload_n 2, 1) := by decide +kernel
theorem dX7_comeIn_63 : decode cX7_comeIn 63 = .ok (.aload_n 0, 1) := by decide +kernel
theorem dX7_comeIn_64 : decode cX7_comeIn 64 = .ok (.getfield 21, 3) := by decide +kernel
theorem dX7_comeIn_67 : decode cX7_comeIn 67 = .ok (.iload_n 3, 1) := by decide +kernel
theorem dX7_comeIn_68 : decode cX7_comeIn 68 = .ok (.iaload, 1) := by decide +kernel
theorem dX7_comeIn_69 : decode cX7_comeIn 69 = .ok (.iastore, 1) := by decide +kernel
theorem dX7_comeIn_70 : decode cX7_comeIn 70 = .ok (.iinc 2 1, 3) := by decide +kernel
theorem dX7_comeIn_73 : decode cX7_comeIn 73 = .ok (.iinc 3 1, 3) := by decide +kernel
theorem dX7_comeIn_76 : decode cX7_comeIn 76 = .ok (.goto (-72), 3) := by decide +kernel
theorem dX7_comeIn_79 : decode cX7_comeIn 79 = .ok (.aload_n 0, 1) := by decide +kernel
theorem dX7_comeIn_80 : decode cX7_comeIn 80 = .ok (.iload_n 2, 1) := by decide +kernel
theorem dX7_comeIn_81 : decode cX7_comeIn 81 = .ok (.putfield 24, 3) := by decide +kernel
theorem dX7_comeIn_84 : decode cX7_comeIn 84 = .ok (.return_, 1) := by decide +kernel
theorem dJ15_checkIndex_7cf53_0 : decode cJ15_checkIndex_7cf53 0 = .ok (.iload_n 0, 1) := by decide +kernel
theorem dJ15_checkIndex_7cf53_1 : decode cJ15_checkIndex_7cf53 1 = .ok (.iload_n 1, 1) := by decide +kernel
theorem dJ15_checkIndex_7cf53_2 : decode cJ15_checkIndex_7cf53 2 = .ok (.aconst_null, 1) := by decide +kernel
theorem dJ15_checkIndex_7cf53_3 : decode cJ15_checkIndex_7cf53 3 = .ok (.invokestatic 105, 3) := by decide +kernel
theorem dJ15_checkIndex_7cf53_6 : decode cJ15_checkIndex_7cf53 6 = .ok (.ireturn, 1) := by decide +kernel
theorem dJx4a65c_elementData_915e3_0 : decode cJx4a65c_elementData_915e3 0 = .ok (.aload_n 0, 1) := by decide +kernel
theorem dJx4a65c_elementData_915e3_1 : decode cJx4a65c_elementData_915e3 1 = .ok (.getfield 9, 3) := by decide +kernel
theorem dJx4a65c_elementData_915e3_4 : decode cJx4a65c_elementData_915e3 4 = .ok (.iload_n 1, 1) := by decide +kernel
theorem dJx4a65c_elementData_915e3_5 : decode cJx4a65c_elementData_915e3 5 = .ok (.aaload, 1) := by decide +kernel
theorem dJx4a65c_elementData_915e3_6 : decode cJx4a65c_elementData_915e3 6 = .ok (.areturn, 1) := by decide +kernel
theorem dJx4a65c_get_915e3_0 : decode cJx4a65c_get_915e3 0 = .ok (.iload_n 1, 1) := by decide +kernel
theorem dJx4a65c_get_915e3_1 : decode cJx4a65c_get_915e3 1 = .ok (.aload_n 0, 1) := by decide +kernel
theorem dJx4a65c_get_915e3_2 : decode cJx4a65c_get_915e3 2 = .ok (.getfield 48, 3) := by decide +kernel
theorem dJx4a65c_get_915e3_5 : decode cJx4a65c_get_915e3 5 = .ok (.invokestatic 118, 3) := by decide +kernel
theorem dJx4a65c_get_915e3_8 : decode cJx4a65c_get_915e3 8 = .ok (.pop, 1) := by decide +kernel
theorem dJx4a65c_get_915e3_9 : decode cJx4a65c_get_915e3 9 = .ok (.aload_n 0, 1) := by decide +kernel
theorem dJx4a65c_get_915e3_10 : decode cJx4a65c_get_915e3 10 = .ok (.iload_n 1, 1) := by decide +kernel
theorem dJx4a65c_get_915e3_11 : decode cJx4a65c_get_915e3 11 = .ok (.invokevirtual 123, 3) := by decide +kernel
theorem dJx4a65c_get_915e3_14 : decode cJx4a65c_get_915e3 14 = .ok (.areturn, 1) := by decide +kernel
theorem dX7_isWaitedFor_0 : decode cX7_isWaitedFor 0 = .ok (.iconst 0, 1) := by decide +kernel
theorem dX7_isWaitedFor_1 : decode cX7_isWaitedFor 1 = .ok (.istore_n 2, 1) := by decide +kernel
theorem dX7_isWaitedFor_2 : decode cX7_isWaitedFor 2 = .ok (.iload_n 2, 1) := by decide +kernel
theorem dX7_isWaitedFor_3 : decode cX7_isWaitedFor 3 = .ok (.aload_n 0, 1) := by decide +kernel
theorem dX7_isWaitedFor_4 : decode cX7_isWaitedFor 4 = .ok (.getfield 24, 3) := by decide +kernel
theorem dX7_isWaitedFor_7 : decode cX7_isWaitedFor 7 = .ok (.if_icmp .ge 21, 3) := by decide +kernel
theorem dX7_isWaitedFor_10 : decode cX7_isWaitedFor 10 = .ok (.aload_n 0, 1) := by decide +kernel
theorem dX7_isWaitedFor_11 : decode cX7_isWaitedFor 11 = .ok (.getfield 18, 3) := by decide +kernel
theorem dX7_isWaitedFor_14 : decode cX7_isWaitedFor 14 = .ok (.iload_n 2, 1) := by decide +kernel
theorem dX7_isWaitedFor_15 : decode cX7_isWaitedFor 15 = .ok (.iaload, 1) := by decide +kernel
theorem dX7_isWaitedFor_16 : decode cX7_isWaitedFor 16 = .ok (.iload_n 1, 1) := by decide +kernel
theorem dX7_isWaitedFor_17 : decode cX7_isWaitedFor 17 = .ok (.if_icmp .ne 5, 3) := by decide +kernel
theorem dX7_isWaitedFor_20 : decode cX7_isWaitedFor 20 = .ok (.iconst 1, 1) := by decide +kernel
theorem dX7_isWaitedFor_21 : decode cX7_isWaitedFor 21 = .ok (.ireturn, 1) := by decide +kernel
theorem dX7_isWaitedFor_22 : decode cX7_isWaitedFor 22 = .ok (.iinc 2 1, 3) := by decide +kernel
theorem dX7_isWaitedFor_25 : decode cX7_isWaitedFor 25 = .ok (.goto (-23), 3) := by decide +kernel
theorem dX7_isWaitedFor_28 : decode cX7_isWaitedFor 28 = .ok (.iconst 0, 1) := by decide +kernel
theorem dX7_isWaitedFor_29 : decode cX7_isWaitedFor 29 = .ok (.ireturn, 1) := by decide +kernel
theorem dX0_doAnswers_0 : decode cX0_doAnswers 0 = .ok (.aload_n 0, 1) := by decide +kernel
theorem dX0_doAnswers_1 : decode cX0_doAnswers 1 = .ok (.getfield 49, 3) := by decide +kernel
theorem dX0_doAnswers_4 : decode cX0_doAnswers 4 = .ok (.aload_n 0, 1) := by decide +kernel
theorem dX0_doAnswers_5 : decode cX0_doAnswers 5 = .ok (.getfield 77, 3) := by decide +kernel
theorem dX0_doAnswers_8 : decode cX0_doAnswers 8 = .ok (.invokevirtual 119, 3) := by decide +kernel
theorem dX0_doAnswers_11 : decode cX0_doAnswers 11 = .ok (.iconst 0, 1) := by decide +kernel
theorem dX0_doAnswers_12 : decode cX0_doAnswers 12 = .ok (.istore_n 1, 1) := by decide +kernel
theorem dX0_doAnswers_13 : decode cX0_doAnswers 13 = .ok (.iload_n 1, 1) := by decide +kernel
theorem dX0_doAnswers_14 : decode cX0_doAnswers 14 = .ok (.aload_n 0, 1) := by decide +kernel
theorem dX0_doAnswers_15 : decode cX0_doAnswers 15 = .ok (.getfield 60, 3) := by decide +kernel
theorem dX0_doAnswers_18 : decode cX0_doAnswers 18 = .ok (.invokevirtual 123, 3) := by decide +kernel
theorem dX0_doAnswers_21 : decode cX0_doAnswers 21 = .ok (.if_icmp .ge 54, 3) := by decide +kernel
theorem dX0_doAnswers_24 : decode cX0_doAnswers 24 = .ok (.aload_n 0, 1) := by decide +kernel
theorem dX0_doAnswers_25 : decode cX0_doAnswers 25 = .ok (.getfield 60, 3) := by decide +kernel
theorem dX0_doAnswers_28 : decode cX0_doAnswers 28 = .ok (.iload_n 1, 1) := by decide +kernel
theorem dX0_doAnswers_29 : decode cX0_doAnswers 29 = .ok (.invokevirtual 127, 3) := by decide +kernel
theorem dX0_doAnswers_32 : decode cX0_doAnswers 32 = .ok (.checkcast 131, 3) := by decide +kernel
theorem dX0_doAnswers_35 : decode cX0_doAnswers 35 = .ok (.astore_n 2, 1) := by decide +kernel
theorem dX0_doAnswers_36 : decode cX0_doAnswers 36 = .ok (.aload_n 2, 1) := by decide +kernel
theorem dX0_doAnswers_37 : decode cX0_doAnswers 37 = .ok (.getfield 133, 3) := by decide +kernel
theorem dX0_doAnswers_40 : decode cX0_doAnswers 40 = .ok (.bipush 109, 2) := by decide +kernel
theorem dX0_doAnswers_42 : decode cX0_doAnswers 42 = .ok (.if_icmp .ne 27, 3) := by decide +kernel
theorem dX0_doAnswers_45 : decode cX0_doAnswers 45 = .ok (.aload_n 0, 1) := by decide +kernel
theorem dX0_doAnswers_46 : decode cX0_doAnswers 46 = .ok (.getfield 49, 3) := by decide +kernel
theorem dX0_doAnswers_49 : decode cX0_doAnswers 49 = .ok (.aload_n 2, 1) := by decide +kernel
theorem dX0_doAnswers_50 : decode cX0_doAnswers 50 = .ok (.getfield 137, 3) := by decide +kernel
theorem dX0_doAnswers_53 : decode cX0_doAnswers 53 = .ok (.iconst 4, 1) := by decide +kernel
theorem dX0_doAnswers_54 : decode cX0_doAnswers 54 = .ok (.idiv, 1) := by decide +kernel
theorem dX0_doAnswers_55 : decode cX0_doAnswers 55 = .ok (.invokevirtual 140, 3) := by decide +kernel
theorem dX0_doAnswers_58 : decode cX0_doAnswers 58 = .ok (.ifCond .ne 11, 3) := by decide +kernel
theorem dX0_doAnswers_61 : decode cX0_doAnswers 61 = .ok (.aload_n 2, 1) := by decide +kernel
theorem dX0_doAnswers_62 : decode cX0_doAnswers 62 = .ok (.aload_n 0, 1) := by decide +kernel
theorem dX0_doAnswers_63 : decode cX0_doAnswers 63 = .ok (.getfield 77, 3) := by decide +kernel
theorem dX0_doAnswers_66 : decode cX0_doAnswers 66 = .ok (.putfield 144, 3) := by decide +kernel
theorem dX0_doAnswers_69 : decode cX0_doAnswers 69 = .ok (.iinc 1 1, 3) := by decide +kernel
theorem dX0_doAnswers_72 : decode cX0_doAnswers 72 = .ok (.goto (-59), 3) := by decide +kernel
theorem dX0_doAnswers_75 : decode cX0_doAnswers 75 = .ok (.return_, 1) := by decide +kernel
def mJx4a65c_add_9ea2d : MD := (cJx4a65c_add_9ea2d, RJx4a65c, yJx4a65c_add_9ea2d, 2, (some .boolean), 6, 170)
theorem mf_Jx4a65c_add_9ea2d : MF mJx4a65c_add_9ea2d 1 := MF.of 634 43 (by decide +kernel) (by decide +kernel) (by decide +kernel) (by decide +kernel) (by decide +kernel) rfl
def mX10_add : MD := (cX10_add, RX10, yX10_add, 8, (some .int), 7, 191)
theorem mf_X10_add : MF mX10_add 5 := MF.of 504 39 (by decide +kernel) (by decide +kernel) (by decide +kernel) (by decide +kernel) (by decide +kernel) rfl
def mX10_setRegister : MD := (cX10_setRegister, RX10, yX10_setRegister, 4, (some .int), 6, 90)
theorem mf_X10_setRegister : MF mX10_setRegister 2 := MF.of 702 39 (by decide +kernel) (by decide +kernel) (by decide +kernel) (by decide +kernel) (by decide +kernel) rfl
def mX10_isAddress : MD := (cX10_isAddress, RX10, yX10_isAddress, 1, (some .boolean), 0, 0)
theorem mf_X10_isAddress : MF mX10_isAddress 1 := MF.of 709 39 (by decide +kernel) (by decide +kernel) (by decide +kernel) (by decide +kernel) (by decide +kernel) rfl
def mX10_setWord : MD := (cX10_setWord, RX10, yX10_setWord, 4, (some .int), 6, 90)
theorem mf_X10_setWord : MF mX10_setWord 2 := MF.of 706 39 (by decide +kernel) (by decide +kernel) (by decide +kernel) (by decide +kernel) (by decide +kernel) rfl
def mX10_setWidth : MD := (cX10_setWidth, RX10, yX10_setWidth, 3, (some .int), 6, 90)
theorem mf_X10_setWidth : MF mX10_setWidth 1 := MF.of 713 39 (by decide +kernel) (by decide +kernel) (by decide +kernel) (by decide +kernel) (by decide +kernel) rfl
def mX10_setBuffer : MD := (cX10_setBuffer, RX10, yX10_setBuffer, 3, (some .int), 6, 90)
theorem mf_X10_setBuffer : MF mX10_setBuffer 1 := MF.of 717 39 (by decide +kernel) (by decide +kernel) (by decide +kernel) (by decide +kernel) (by decide +kernel) rfl
def mX10_setQueue : MD := (cX10_setQueue, RX10, yX10_setQueue, 3, (some .int), 6, 90)
theorem mf_X10_setQueue : MF mX10_setQueue 1 := MF.of 721 39 (by decide +kernel) (by decide +kernel) (by decide +kernel) (by decide +kernel) (by decide +kernel) rfl
def mX10_setInner : MD := (cX10_setInner, RX10, yX10_setInner, 3, (some .int), 6, 90)
theorem mf_X10_setInner : MF mX10_setInner 1 := MF.of 725 39 (by decide +kernel) (by decide +kernel) (by decide +kernel) (by decide +kernel) (by decide +kernel) rfl
def mX10_isHandler : MD := (cX10_isHandler, RX10, yX10_isHandler, 1, (some .boolean), 1, 20)
theorem mf_X10_isHandler : MF mX10_isHandler 1 := MF.of 733 39 (by decide +kernel) (by decide +kernel) (by decide +kernel) (by decide +kernel) (by decide +kernel) rfl
def mX10_setHandlers : MD := (cX10_setHandlers, RX10, yX10_setHandlers, 4, (some .int), 6, 90)
theorem mf_X10_setHandlers : MF mX10_setHandlers 2 := MF.of 730 39 (by decide +kernel) (by decide +kernel) (by decide +kernel) (by decide +kernel) (by decide +kernel) rfl
def mX10_setTime : MD := (cX10_setTime, RX10, yX10_setTime, 4, (some .int), 6, 90)
theorem mf_X10_setTime : MF mX10_setTime 2 := MF.of 737 39 (by decide +kernel) (by decide +kernel) (by decide +kernel) (by decide +kernel) (by decide +kernel) rfl
def mX10_interrupt : MD := (cX10_interrupt, RX10, yX10_interrupt, 2, (some .boolean), 0, 0)
theorem mf_X10_interrupt : MF mX10_interrupt 0 := MF.of 408 39 (by decide +kernel) (by decide +kernel) (by decide +kernel) (by decide +kernel) (by decide +kernel) rfl
def mJ9_floorMod_7cf53 : MD := (cJ9_floorMod_7cf53, RJ9, yJ9_floorMod_7cf53, 3, (some .int), 0, 0)
theorem mf_J9_floorMod_7cf53 : MF mJ9_floorMod_7cf53 2 := MF.of 756 60 (by decide +kernel) (by decide +kernel) (by decide +kernel) (by decide +kernel) (by decide +kernel) rfl
def mX7_comeIn : MD := (cX7_comeIn, RX7, yX7_comeIn, 4, none, 1, 22)
theorem mf_X7_comeIn : MF mX7_comeIn 1 := MF.of 753 49 (by decide +kernel) (by decide +kernel) (by decide +kernel) (by decide +kernel) (by decide +kernel) rfl
def mJ15_checkIndex_7cf53 : MD := (cJ15_checkIndex_7cf53, RJ15, yJ15_checkIndex_7cf53, 2, (some .int), 1, 22)
theorem mf_J15_checkIndex_7cf53 : MF mJ15_checkIndex_7cf53 2 := MF.of 452 51 (by decide +kernel) (by decide +kernel) (by decide +kernel) (by decide +kernel) (by decide +kernel) rfl
def mJx4a65c_elementData_915e3 : MD := (cJx4a65c_elementData_915e3, RJx4a65c, yJx4a65c_elementData_915e3, 2, (some (.object "java/lang/Object")), 0, 0)
theorem mf_Jx4a65c_elementData_915e3 : MF mJx4a65c_elementData_915e3 1 := MF.of 459 43 (by decide +kernel) (by decide +kernel) (by decide +kernel) (by decide +kernel) (by decide +kernel) rfl
def mJx4a65c_get_915e3 : MD := (cJx4a65c_get_915e3, RJx4a65c, yJx4a65c_get_915e3, 2, (some (.object "java/lang/Object")), 2, 43)
theorem mf_Jx4a65c_get_915e3 : MF mJx4a65c_get_915e3 1 := MF.of 449 43 (by decide +kernel) (by decide +kernel) (by decide +kernel) (by decide +kernel) (by decide +kernel) rfl
def mX7_isWaitedFor : MD := (cX7_isWaitedFor, RX7, yX7_isWaitedFor, 3, (some .boolean), 0, 0)
theorem mf_X7_isWaitedFor : MF mX7_isWaitedFor 1 := MF.of 760 49 (by decide +kernel) (by decide +kernel) (by decide +kernel) (by decide +kernel) (by decide +kernel) rfl
def mX0_doAnswers : MD := (cX0_doAnswers, RX0, yX0_doAnswers, 3, none, 3, 64)
theorem mf_X0_doAnswers : MF mX0_doAnswers 0 := MF.of 749 40 (by decide +kernel) (by decide +kernel) (by decide +kernel) (by decide +kernel) (by decide +kernel) rfl
theorem ci_X10_45 : CIs RX10 45 mX6_init := CIs.of 592 593 (by decide +kernel) (by decide +kernel) rfl rfl
theorem cs_J15_105 : CSs RJ15 105 mJ3_checkIndex_8e157 := CSs.of 453 454 (by decide +kernel) (by decide +kernel)
theorem cs_Jx4a65c_118 : CSs RJx4a65c 118 mJ15_checkIndex_7cf53 := CSs.of 450 451 (by decide +kernel) (by decide +kernel)
theorem cs_X10_100 : CSs RX10 100 mX10_isHandler := CSs.of 731 732 (by decide +kernel) (by decide +kernel)
theorem cs_X10_16 : CSs RX10 16 mX10_isRegister := CSs.of 505 506 (by decide +kernel) (by decide +kernel)
theorem cs_X10_20 : CSs RX10 20 mX10_isPlace := CSs.of 508 509 (by decide +kernel) (by decide +kernel)
theorem cs_X10_71 : CSs RX10 71 mX10_isAddress := CSs.of 707 708 (by decide +kernel) (by decide +kernel)
theorem cs_X7_28 : CSs RX7 28 mJ9_floorMod_7cf53 := CSs.of 754 755 (by decide +kernel) (by decide +kernel)
theorem cv_Jx4a65c_123 : CVs RJx4a65c 123 mJx4a65c_elementData_915e3 0 := CVs.of 456 457 458 (by decide +kernel) (by decide +kernel) (by decide +kernel) _ rfl rfl
theorem cv_Jx4a65c_131 : CVs RJx4a65c 131 mJx4a65c_add_72be8 0 := CVs.of 635 637 2 (by decide +kernel) (by decide +kernel) (by decide +kernel) _ rfl rfl
theorem cv_X0_119 : CVs RX0 119 mX7_comeIn 8 := CVs.of 750 751 752 (by decide +kernel) (by decide +kernel) (by decide +kernel) _ rfl rfl
theorem cv_X0_123 : CVs RX0 123 mJx4a65c_size_8abf5 0 := CVs.of 445 422 423 (by decide +kernel) (by decide +kernel) (by decide +kernel) _ rfl rfl
theorem cv_X0_127 : CVs RX0 127 mJx4a65c_get_915e3 0 := CVs.of 446 447 448 (by decide +kernel) (by decide +kernel) (by decide +kernel) _ rfl rfl
theorem cv_X0_140 : CVs RX0 140 mX7_isWaitedFor 8 := CVs.of 757 758 759 (by decide +kernel) (by decide +kernel) (by decide +kernel) _ rfl rfl
theorem cv_X10_30 : CVs RX10 30 mJx4a65c_size_8abf5 0 := CVs.of 421 422 423 (by decide +kernel) (by decide +kernel) (by decide +kernel) _ rfl rfl
theorem cv_X10_48 : CVs RX10 48 mJx4a65c_add_9ea2d 0 := CVs.of 631 632 633 (by decide +kernel) (by decide +kernel) (by decide +kernel) _ rfl rfl
theorem cv_X10_96 : CVs RX10 96 mX5_fillLine 6 := CVs.of 726 229 230 (by decide +kernel) (by decide +kernel) (by decide +kernel) _ rfl rfl
theorem fl_Jx4a65c_63 : FL RJx4a65c 63 0 0 0 := FL.ofS "java/util/ArrayList" _ rfl (by decide) 100 101 (by decide +kernel) (by decide +kernel) (by decide)
theorem fl_X0_133 : FL RX0 133 4 5 2 := FL.of _ rfl (by decide) 1159 (by decide +kernel) (by decide)
theorem fl_X0_137 : FL RX0 137 4 11 0 := FL.of _ rfl (by decide) 1175 (by decide +kernel) (by decide)
theorem fl_X0_144 : FL RX0 144 4 10 0 := FL.of _ rfl (by decide) 1173 (by decide +kernel) (by decide)
theorem fl_X10_103 : FL RX10 103 10 3 0 := FL.of _ rfl (by decide) 125 (by decide +kernel) (by decide)
theorem fl_X10_106 : FL RX10 106 10 4 0 := FL.of _ rfl (by decide) 128 (by decide +kernel) (by decide)
theorem fl_X10_109 : FL RX10 109 1 5 3 := FL.of _ rfl (by decide) 341 (by decide +kernel) (by decide)
theorem fl_X10_113 : FL RX10 113 8 1 3 := FL.of _ rfl (by decide) 276 (by decide +kernel) (by decide)
theorem fl_X10_118 : FL RX10 118 1 14 1 := FL.of _ rfl (by decide) 358 (by decide +kernel) (by decide)
theorem fl_X10_26 : FL RX10 26 1 0 3 := FL.of _ rfl (by decide) 331 (by decide +kernel) (by decide)
theorem fl_X10_36 : FL RX10 36 1 12 0 := FL.of _ rfl (by decide) 354 (by decide +kernel) (by decide)
theorem fl_X10_52 : FL RX10 52 1 3 3 := FL.of _ rfl (by decide) 337 (by decide +kernel) (by decide)
theorem fl_X10_56 : FL RX10 56 9 0 3 := FL.of _ rfl (by decide) 201 (by decide +kernel) (by decide)
theorem fl_X10_62 : FL RX10 62 1 4 3 := FL.of _ rfl (by decide) 339 (by decide +kernel) (by decide)
theorem fl_X10_66 : FL RX10 66 6 2 3 := FL.of _ rfl (by decide) 242 (by decide +kernel) (by decide)
theorem fl_X10_74 : FL RX10 74 1 9 3 := FL.of _ rfl (by decide) 349 (by decide +kernel) (by decide)
theorem fl_X10_77 : FL RX10 77 9 1 3 := FL.of _ rfl (by decide) 204 (by decide +kernel) (by decide)
theorem fl_X10_78 : FL RX10 78 1 1 3 := FL.of _ rfl (by decide) 333 (by decide +kernel) (by decide)
theorem fl_X10_82 : FL RX10 82 10 0 0 := FL.of _ rfl (by decide) 117 (by decide +kernel) (by decide)
theorem fl_X10_87 : FL RX10 87 10 1 0 := FL.of _ rfl (by decide) 119 (by decide +kernel) (by decide)
theorem fl_X10_90 : FL RX10 90 10 2 0 := FL.of _ rfl (by decide) 122 (by decide +kernel) (by decide)
theorem fl_X10_93 : FL RX10 93 6 6 0 := FL.of _ rfl (by decide) 250 (by decide +kernel) (by decide)
theorem fn_4_10 : FN 4 10 false := fun q h => by cases h; rfl
theorem iv_bipush_109 : (Int8.ofInt (109)).toInt32 = 109 := by decide
theorem iv_bipush_12 : (Int8.ofInt (12)).toInt32 = 12 := by decide
theorem iv_bipush_15 : (Int8.ofInt (15)).toInt32 = 15 := by decide
theorem iv_bipush_21 : (Int8.ofInt (21)).toInt32 = 21 := by decide
theorem iv_bipush_30 : (Int8.ofInt (30)).toInt32 = 30 := by decide
theorem kt_X0_131 : KTs RX0 131 4 := KTs.of _ rfl 481 (by decide +kernel)
theorem nw_X10_43 : NWs RX10 43 7 6 := NWs.of _ rfl rfl 590 591 62 (by decide +kernel) (by decide +kernel) (by decide +kernel)
def f_Jx4a65c_add_9ea2d (a0 : Nat) (a1 : Nat) (μ : Mm) : Option (Int32 × Mm) :=
  ck (mK μ a0 = 100) <|
  zl (sI μ a0 0 ((mI μ a0 0) + 1)) fun μ2 =>
  bd (mR μ2 a0 1) fun p5 =>
  cl (f_Jx4a65c_add_72be8 a0 a1 p5 (mI μ2 a0 2) μ2) fun _ μ9 =>
  some (1, μ9)
set_option maxRecDepth 100000 in
theorem s_Jx4a65c_add_9ea2d {l : Launch} {G : Gt} (hG : Gok l G) (a0 : Nat) (a1 : Nat) (μ : Mm) (r : Int32) (μ' : Mm) (h : f_Jx4a65c_add_9ea2d a0 a1 μ = some (r, μ')) : ZX l G mJx4a65c_add_9ea2d 0 [(0, .ref a0), (1, .ref a1)] [] μ (.inl (some (.int r))) μ' := by
  unfold f_Jx4a65c_add_9ea2d at h
  refine zx_aload_n dJx4a65c_add_9ea2d_0 rfl (q := 0) rfl ?_
  refine zx_dup dJx4a65c_add_9ea2d_1 rfl ?_
  obtain ⟨h1, h⟩ := ck_e h
  refine zx_getI hG fl_Jx4a65c_63 h1 dJx4a65c_add_9ea2d_2 ?_
  refine zx_iconst (v := 1) dJx4a65c_add_9ea2d_5 iv_iconst_1 ?_
  refine zx_iadd dJx4a65c_add_9ea2d_6 ?_
  refine zx_putI hG fl_Jx4a65c_63 fn_0_0 h1 dJx4a65c_add_9ea2d_7 ?_
  obtain ⟨μ2, e4, h⟩ := zlm_e h
  refine zx_mem e4 ?_
  have e3 : mK μ2 = mK μ := (congrArg mK e4).trans rfl
  refine zx_aload_n dJx4a65c_add_9ea2d_10 rfl (q := 0) rfl ?_
  refine zx_aload_n dJx4a65c_add_9ea2d_11 rfl (q := 1) rfl ?_
  refine zx_aload_n dJx4a65c_add_9ea2d_12 rfl (q := 0) rfl ?_
  obtain ⟨p5, h6, h⟩ := bd_e h
  refine zx_getR hG fl_Jx4a65c_9 (kp_o (e3) h1) h6 dJx4a65c_add_9ea2d_13 ?_
  refine zx_aload_n dJx4a65c_add_9ea2d_16 rfl (q := 0) rfl ?_
  refine zx_getI hG fl_Jx4a65c_48 (kp_o (e3) h1) dJx4a65c_add_9ea2d_17 ?_
  obtain ⟨uu7, μ9, z8, h⟩ := cl_e h
  refine zx_callV (As := [.ref a1, .ref p5, .int (mI μ2 a0 2)]) hG mf_Jx4a65c_add_72be8 cv_Jx4a65c_131 (kp_o (e3) h1) ⟨by decide, by decide⟩ rfl rfl (Nat.le_of_ble_eq_true rfl) (s_Jx4a65c_add_72be8 hG _ _ _ _ _ _ _ z8) (Nat.le_of_ble_eq_true rfl) dJx4a65c_add_9ea2d_20 ?_
  refine zx_iconst (v := 1) dJx4a65c_add_9ea2d_23 iv_iconst_1 ?_
  cases h
  exact zx_zretZ dJx4a65c_add_9ea2d_24 rfl zb_1
def f_X10_add_b64 (μ : Mm) : Option ((Int32 ⊕ String) × Mm) :=
  some (.inr "java/lang/IllegalArgumentException", bump μ 6)
def f_X10_add_b101 (μ : Mm) : Option ((Int32 ⊕ String) × Mm) :=
  some (.inr "java/lang/IllegalStateException", bump μ 6)
def f_X10_add_b72 (a0 : Nat) (x1 : Int32) (x2 : Int32) (x3 : Int32) (x4 : Int32) (x5 : Int32) (μ : Mm) : Option ((Int32 ⊕ String) × Mm) :=
  ck (mK μ a0 = 111) <|
  bd (mR μ a0 0) fun p19 =>
  ck (mK μ p19 = 101) <|
  bd (mR μ p19 0) fun p22 =>
  ck (mK μ p22 = 100) <|
  bd (f_Jx4a65c_size_8abf5 p22 μ) fun y25 =>
  bd (mR μ a0 0) fun p27 =>
  ck (mK μ p27 = 101) <|
  if 0 < (mI μ p27 12) then
    f_X10_add_b101 μ
  else
    if y25 < 64 then
      bd (mR μ a0 0) fun p32 =>
      ck (mK μ p32 = 101) <|
      bd (mR μ p32 0) fun p35 =>
      zl (mN μ) fun p37 =>
      zl (nw μ 107 0 6) fun μ38 =>
      cl (f_X6_init p37 y25 x1 x2 x3 x4 x5 μ38) fun _ μ44 =>
      ck (mK μ44 p35 = 100) <|
      cl (f_Jx4a65c_add_9ea2d p35 p37 μ44) fun y46 μ48 =>
      some (.inl y25, μ48)
    else
      f_X10_add_b101 μ
def f_X10_add_b17 (a0 : Nat) (x1 : Int32) (x2 : Int32) (x3 : Int32) (x4 : Int32) (x5 : Int32) (s0 : Int32) (μ : Mm) : Option ((Int32 ⊕ String) × Mm) :=
  if x1 < 0 then
    f_X10_add_b64 μ
  else
    if 21 < x1 then
      f_X10_add_b64 μ
    else
      bd (f_X10_isRegister x2) fun y5 =>
      if y5 = 0 then
        f_X10_add_b64 μ
      else
        bd (f_X10_isRegister x3) fun y8 =>
        if y8 = 0 then
          f_X10_add_b64 μ
        else
          bd (f_X10_isRegister x4) fun y11 =>
          if y11 = 0 then
            f_X10_add_b64 μ
          else
            if s0 = 0 then
              f_X10_add_b72 a0 x1 x2 x3 x4 x5 μ
            else
              bd (f_X10_isPlace x5) fun y15 =>
              if ¬ y15 = 0 then
                f_X10_add_b72 a0 x1 x2 x3 x4 x5 μ
              else
                f_X10_add_b64 μ
def f_X10_add_b16 (a0 : Nat) (x1 : Int32) (x2 : Int32) (x3 : Int32) (x4 : Int32) (x5 : Int32) (μ : Mm) : Option ((Int32 ⊕ String) × Mm) :=
  f_X10_add_b17 a0 x1 x2 x3 x4 x5 0 μ
def f_X10_add (a0 : Nat) (x1 : Int32) (x2 : Int32) (x3 : Int32) (x4 : Int32) (x5 : Int32) (μ : Mm) : Option ((Int32 ⊕ String) × Mm) :=
  if x1 < 12 then
    f_X10_add_b16 a0 x1 x2 x3 x4 x5 μ
  else
    if 15 < x1 then
      f_X10_add_b16 a0 x1 x2 x3 x4 x5 μ
    else
      f_X10_add_b17 a0 x1 x2 x3 x4 x5 1 μ
set_option maxRecDepth 100000 in
theorem s_X10_add_b64 {l : Launch} {G : Gt} (hG : Gok l G) (μ : Mm) (r : (Int32 ⊕ String)) (μ' : Mm) (h : f_X10_add_b64 μ = some (r, μ')) : ZX l G mX10_add 64 [] [] μ (rsI r) μ' := by
  unfold f_X10_add_b64 at h
  cases h
  exact zx_throw hG xt_X10_23_25 (by decide) (by decide) (Nat.le_of_ble_eq_true rfl) dX10_add_64 dX10_add_67 dX10_add_68 dX10_add_71
set_option maxRecDepth 100000 in
theorem s_X10_add_b101 {l : Launch} {G : Gt} (hG : Gok l G) (μ : Mm) (r : (Int32 ⊕ String)) (μ' : Mm) (h : f_X10_add_b101 μ = some (r, μ')) : ZX l G mX10_add 101 [] [] μ (rsI r) μ' := by
  unfold f_X10_add_b101 at h
  cases h
  exact zx_throw hG xt_X10_40_42 (by decide) (by decide) (Nat.le_of_ble_eq_true rfl) dX10_add_101 dX10_add_104 dX10_add_105 dX10_add_108
set_option maxRecDepth 100000 in
theorem s_X10_add_b72 {l : Launch} {G : Gt} (hG : Gok l G) (a0 : Nat) (x1 : Int32) (x2 : Int32) (x3 : Int32) (x4 : Int32) (x5 : Int32) (μ : Mm) (r : (Int32 ⊕ String)) (μ' : Mm) (h : f_X10_add_b72 a0 x1 x2 x3 x4 x5 μ = some (r, μ')) : ZX l G mX10_add 72 [(0, .ref a0), (1, .int x1), (2, .int x2), (3, .int x3), (4, .int x4), (5, .int x5)] [] μ (rsI r) μ' := by
  unfold f_X10_add_b72 at h
  refine zx_aload_n dX10_add_72 rfl (q := 0) rfl ?_
  obtain ⟨h18, h⟩ := ck_e h
  obtain ⟨p19, h20, h⟩ := bd_e h
  refine zx_getR hG fl_X10_10 h18 h20 dX10_add_73 ?_
  obtain ⟨h21, h⟩ := ck_e h
  obtain ⟨p22, h23, h⟩ := bd_e h
  refine zx_getR hG fl_X10_26 h21 h23 dX10_add_76 ?_
  obtain ⟨h24, h⟩ := ck_e h
  obtain ⟨y25, z26, h⟩ := bd_e h
  refine zx_callV (As := []) hG mf_Jx4a65c_size_8abf5 cv_X10_30 h24 ⟨by decide, by decide⟩ rfl rfl (Nat.le_of_ble_eq_true rfl) (s_Jx4a65c_size_8abf5 hG _ _ _ z26) (Nat.le_of_ble_eq_true rfl) dX10_add_79 ?_
  refine zx_istore (L' := [(7, .int y25), (0, .ref a0), (1, .int x1), (2, .int x2), (3, .int x3), (4, .int x4), (5, .int x5)]) dX10_add_82 (by decide) rfl ?_
  refine zx_aload_n dX10_add_84 rfl (q := 1) rfl ?_
  obtain ⟨p27, h28, h⟩ := bd_e h
  refine zx_getR hG fl_X10_10 h18 h28 dX10_add_85 ?_
  obtain ⟨h29, h⟩ := ck_e h
  refine zx_getI hG fl_X10_36 h29 dX10_add_88 ?_
  by_cases c30 : 0 < (mI μ p27 12)
  · have h := it_t c30 h
    refine zx_if_gt_t (tgt := 101) dX10_add_91 (by decide) c30 ?_
    refine zx_sub (L' := []) [] rfl ?_
    exact s_X10_add_b101 hG _ _ _ h
  · have h := it_f c30 h
    refine zx_if_gt_f (tgt := 101) dX10_add_91 (by decide) c30 ?_
    refine zx_iload dX10_add_94 (q := 0) rfl ?_
    refine zx_bipush (v := 64) dX10_add_96 iv_bipush_64 ?_
    by_cases c31 : y25 < 64
    · have h := it_t c31 h
      refine zx_icmp_lt_t (tgt := 109) dX10_add_98 (by decide) c31 ?_
      refine zx_aload_n dX10_add_109 rfl (q := 1) rfl ?_
      obtain ⟨p32, h33, h⟩ := bd_e h
      refine zx_getR hG fl_X10_10 h18 h33 dX10_add_110 ?_
      obtain ⟨h34, h⟩ := ck_e h
      obtain ⟨p35, h36, h⟩ := bd_e h
      refine zx_getR hG fl_X10_26 h34 h36 dX10_add_113 ?_
      refine zx_new hG nw_X10_43 dX10_add_116 ?_
      obtain ⟨p37, e40, h⟩ := zlm_e h
      obtain ⟨μ38, e41, h⟩ := zlm_e h
      refine zx_mem e41 (zx_stk e40 ?_)
      have h39 : mK μ38 p37 = 107 := nw_Kp e41 e40
      refine zx_dup dX10_add_119 rfl ?_
      refine zx_iload dX10_add_120 (q := 0) rfl ?_
      refine zx_iload_n dX10_add_122 rfl (q := 2) rfl ?_
      refine zx_iload_n dX10_add_123 rfl (q := 3) rfl ?_
      refine zx_iload_n dX10_add_124 rfl (q := 4) rfl ?_
      refine zx_iload dX10_add_125 (q := 5) rfl ?_
      refine zx_iload dX10_add_127 (q := 6) rfl ?_
      obtain ⟨uu42, μ44, z43, h⟩ := cl_e h
      refine zx_callI (As := [.int y25, .int x1, .int x2, .int x3, .int x4, .int x5]) hG mf_X6_init ci_X10_45 ⟨by decide, by decide⟩ rfl rfl (Nat.le_of_ble_eq_true rfl) (s_X6_init hG _ _ _ _ _ _ _ _ _ _ z43) (Nat.le_of_ble_eq_true rfl) dX10_add_129 ?_
      obtain ⟨h45, h⟩ := ck_e h
      obtain ⟨y46, μ48, z47, h⟩ := cl_e h
      refine zx_callV (As := [.ref p37]) hG mf_Jx4a65c_add_9ea2d cv_X10_48 h45 ⟨by decide, by decide⟩ rfl rfl (Nat.le_of_ble_eq_true rfl) (s_Jx4a65c_add_9ea2d hG _ _ _ _ _ z47) (Nat.le_of_ble_eq_true rfl) dX10_add_132 ?_
      refine zx_pop dX10_add_135 rfl ?_
      refine zx_iload dX10_add_136 (q := 0) rfl ?_
      cases h
      exact zx_iret dX10_add_138 rfl
    · have h := it_f c31 h
      refine zx_icmp_lt_f (tgt := 109) dX10_add_98 (by decide) c31 ?_
      refine zx_sub (L' := []) [] rfl ?_
      exact s_X10_add_b101 hG _ _ _ h
set_option maxRecDepth 100000 in
theorem s_X10_add_b17 {l : Launch} {G : Gt} (hG : Gok l G) (a0 : Nat) (x1 : Int32) (x2 : Int32) (x3 : Int32) (x4 : Int32) (x5 : Int32) (s0 : Int32) (μ : Mm) (r : (Int32 ⊕ String)) (μ' : Mm) (h : f_X10_add_b17 a0 x1 x2 x3 x4 x5 s0 μ = some (r, μ')) : ZX l G mX10_add 17 [(0, .ref a0), (1, .int x1), (2, .int x2), (3, .int x3), (4, .int x4), (5, .int x5)] [.int s0] μ (rsI r) μ' := by
  unfold f_X10_add_b17 at h
  refine zx_istore (L' := [(6, .int s0), (0, .ref a0), (1, .int x1), (2, .int x2), (3, .int x3), (4, .int x4), (5, .int x5)]) dX10_add_17 (by decide) rfl ?_
  refine zx_iload_n dX10_add_19 rfl (q := 2) rfl ?_
  by_cases c3 : x1 < 0
  · have h := it_t c3 h
    refine zx_if_lt_t (tgt := 64) dX10_add_20 (by decide) c3 ?_
    refine zx_sub (L' := []) [] rfl ?_
    exact s_X10_add_b64 hG _ _ _ h
  · have h := it_f c3 h
    refine zx_if_lt_f (tgt := 64) dX10_add_20 (by decide) c3 ?_
    refine zx_iload_n dX10_add_23 rfl (q := 2) rfl ?_
    refine zx_bipush (v := 21) dX10_add_24 iv_bipush_21 ?_
    by_cases c4 : 21 < x1
    · have h := it_t c4 h
      refine zx_icmp_gt_t (tgt := 64) dX10_add_26 (by decide) c4 ?_
      refine zx_sub (L' := []) [] rfl ?_
      exact s_X10_add_b64 hG _ _ _ h
    · have h := it_f c4 h
      refine zx_icmp_gt_f (tgt := 64) dX10_add_26 (by decide) c4 ?_
      refine zx_iload_n dX10_add_29 rfl (q := 3) rfl ?_
      obtain ⟨y5, z6, h⟩ := bd_e h
      refine zx_callS (As := [.int x2]) hG mf_X10_isRegister cs_X10_16 ⟨by decide, by decide⟩ rfl rfl (Nat.le_of_ble_eq_true rfl) (s_X10_isRegister hG _ _ _ z6) (Nat.le_of_ble_eq_true rfl) dX10_add_30 ?_
      by_cases c7 : y5 = 0
      · have h := it_t c7 h
        refine zx_if_eq_t (tgt := 64) dX10_add_33 (by decide) c7 ?_
        refine zx_sub (L' := []) [] rfl ?_
        exact s_X10_add_b64 hG _ _ _ h
      · have h := it_f c7 h
        refine zx_if_eq_f (tgt := 64) dX10_add_33 (by decide) c7 ?_
        refine zx_iload_n dX10_add_36 rfl (q := 4) rfl ?_
        obtain ⟨y8, z9, h⟩ := bd_e h
        refine zx_callS (As := [.int x3]) hG mf_X10_isRegister cs_X10_16 ⟨by decide, by decide⟩ rfl rfl (Nat.le_of_ble_eq_true rfl) (s_X10_isRegister hG _ _ _ z9) (Nat.le_of_ble_eq_true rfl) dX10_add_37 ?_
        by_cases c10 : y8 = 0
        · have h := it_t c10 h
          refine zx_if_eq_t (tgt := 64) dX10_add_40 (by decide) c10 ?_
          refine zx_sub (L' := []) [] rfl ?_
          exact s_X10_add_b64 hG _ _ _ h
        · have h := it_f c10 h
          refine zx_if_eq_f (tgt := 64) dX10_add_40 (by decide) c10 ?_
          refine zx_iload dX10_add_43 (q := 5) rfl ?_
          obtain ⟨y11, z12, h⟩ := bd_e h
          refine zx_callS (As := [.int x4]) hG mf_X10_isRegister cs_X10_16 ⟨by decide, by decide⟩ rfl rfl (Nat.le_of_ble_eq_true rfl) (s_X10_isRegister hG _ _ _ z12) (Nat.le_of_ble_eq_true rfl) dX10_add_45 ?_
          by_cases c13 : y11 = 0
          · have h := it_t c13 h
            refine zx_if_eq_t (tgt := 64) dX10_add_48 (by decide) c13 ?_
            refine zx_sub (L' := []) [] rfl ?_
            exact s_X10_add_b64 hG _ _ _ h
          · have h := it_f c13 h
            refine zx_if_eq_f (tgt := 64) dX10_add_48 (by decide) c13 ?_
            refine zx_iload dX10_add_51 (q := 0) rfl ?_
            by_cases c14 : s0 = 0
            · have h := it_t c14 h
              refine zx_if_eq_t (tgt := 72) dX10_add_53 (by decide) c14 ?_
              refine zx_sub (L' := [(0, .ref a0), (1, .int x1), (2, .int x2), (3, .int x3), (4, .int x4), (5, .int x5)]) [1, 2, 3, 4, 5, 6] rfl ?_
              exact s_X10_add_b72 hG _ _ _ _ _ _ _ _ _ h
            · have h := it_f c14 h
              refine zx_if_eq_f (tgt := 72) dX10_add_53 (by decide) c14 ?_
              refine zx_iload dX10_add_56 (q := 6) rfl ?_
              obtain ⟨y15, z16, h⟩ := bd_e h
              refine zx_callS (As := [.int x5]) hG mf_X10_isPlace cs_X10_20 ⟨by decide, by decide⟩ rfl rfl (Nat.le_of_ble_eq_true rfl) (s_X10_isPlace hG _ _ _ z16) (Nat.le_of_ble_eq_true rfl) dX10_add_58 ?_
              by_cases c17 : ¬ y15 = 0
              · have h := it_t c17 h
                refine zx_if_ne_t (tgt := 72) dX10_add_61 (by decide) c17 ?_
                refine zx_sub (L' := [(0, .ref a0), (1, .int x1), (2, .int x2), (3, .int x3), (4, .int x4), (5, .int x5)]) [1, 2, 3, 4, 5, 6] rfl ?_
                exact s_X10_add_b72 hG _ _ _ _ _ _ _ _ _ h
              · have h := it_f c17 h
                refine zx_if_ne_f (tgt := 72) dX10_add_61 (by decide) (Classical.not_not.mp c17) ?_
                refine zx_sub (L' := []) [] rfl ?_
                exact s_X10_add_b64 hG _ _ _ h
set_option maxRecDepth 100000 in
theorem s_X10_add_b16 {l : Launch} {G : Gt} (hG : Gok l G) (a0 : Nat) (x1 : Int32) (x2 : Int32) (x3 : Int32) (x4 : Int32) (x5 : Int32) (μ : Mm) (r : (Int32 ⊕ String)) (μ' : Mm) (h : f_X10_add_b16 a0 x1 x2 x3 x4 x5 μ = some (r, μ')) : ZX l G mX10_add 16 [(0, .ref a0), (1, .int x1), (2, .int x2), (3, .int x3), (4, .int x4), (5, .int x5)] [] μ (rsI r) μ' := by
  unfold f_X10_add_b16 at h
  refine zx_iconst (v := 0) dX10_add_16 iv_iconst_0 ?_
  exact s_X10_add_b17 hG _ _ _ _ _ _ _ _ _ _ h
set_option maxRecDepth 100000 in
theorem s_X10_add {l : Launch} {G : Gt} (hG : Gok l G) (a0 : Nat) (x1 : Int32) (x2 : Int32) (x3 : Int32) (x4 : Int32) (x5 : Int32) (μ : Mm) (r : (Int32 ⊕ String)) (μ' : Mm) (h : f_X10_add a0 x1 x2 x3 x4 x5 μ = some (r, μ')) : ZX l G mX10_add 0 [(0, .ref a0), (1, .int x1), (2, .int x2), (3, .int x3), (4, .int x4), (5, .int x5)] [] μ (rsI r) μ' := by
  unfold f_X10_add at h
  refine zx_iload_n dX10_add_0 rfl (q := 1) rfl ?_
  refine zx_bipush (v := 12) dX10_add_1 iv_bipush_12 ?_
  by_cases c1 : x1 < 12
  · have h := it_t c1 h
    refine zx_icmp_lt_t (tgt := 16) dX10_add_3 (by decide) c1 ?_
    exact s_X10_add_b16 hG _ _ _ _ _ _ _ _ _ h
  · have h := it_f c1 h
    refine zx_icmp_lt_f (tgt := 16) dX10_add_3 (by decide) c1 ?_
    refine zx_iload_n dX10_add_6 rfl (q := 1) rfl ?_
    refine zx_bipush (v := 15) dX10_add_7 iv_bipush_15 ?_
    by_cases c2 : 15 < x1
    · have h := it_t c2 h
      refine zx_icmp_gt_t (tgt := 16) dX10_add_9 (by decide) c2 ?_
      exact s_X10_add_b16 hG _ _ _ _ _ _ _ _ _ h
    · have h := it_f c2 h
      refine zx_icmp_gt_f (tgt := 16) dX10_add_9 (by decide) c2 ?_
      refine zx_iconst (v := 1) dX10_add_12 iv_iconst_1 ?_
      refine zx_goto (tgt := 17) dX10_add_13 (by decide) ?_
      exact s_X10_add_b17 hG _ _ _ _ _ _ _ _ _ _ h
def f_X10_setRegister (a0 : Nat) (x1 : Int32) (x2 : Int32) (μ : Mm) : Option ((Int32 ⊕ String) × Mm) :=
  bd (f_X10_isRegister x1) fun y1 =>
  if ¬ y1 = 0 then
    ck (mK μ a0 = 111) <|
    bd (mR μ a0 0) fun p5 =>
    ck (mK μ p5 = 101) <|
    if (mI μ p5 12) ≤ 0 then
      bd (mR μ a0 0) fun p9 =>
      ck (mK μ p9 = 101) <|
      bd (mR μ p9 3) fun p12 =>
      ck (mK μ p12 = 109) <|
      bd (mR μ p12 0) fun p15 =>
      ck (isA 1 (mK μ p15)) <|
      ck (inb x1 (mL μ p15)) <|
      bd (mR μ a0 0) fun p19 =>
      ck (mK μ p19 = 101) <|
      bd (mR μ p19 3) fun p22 =>
      ck (mK μ p22 = 109) <|
      bd (mR μ p22 0) fun p25 =>
      ck (isA 1 (mK μ p25)) <|
      ck (inb x1 (mL μ p25)) <|
      zl (sI μ p25 (Int32.toNatClampNeg x1) x2) fun μ29 =>
      bd (mR μ29 a0 0) fun p32 =>
      ck (mK μ29 p32 = 101) <|
      bd (mR μ29 p32 4) fun p35 =>
      ck (mK μ29 p35 = 106) <|
      bd (mR μ29 p35 2) fun p38 =>
      ck (isA 1 (mK μ29 p38)) <|
      ck (inb x1 (mL μ29 p38)) <|
      zl (sI μ29 p38 (Int32.toNatClampNeg x1) x2) fun μ42 =>
      some (.inl (mI μ p15 (Int32.toNatClampNeg x1)), μ42)
    else
      some (.inr "java/lang/IllegalStateException", bump μ 6)
  else
    some (.inr "java/lang/IllegalArgumentException", bump μ 6)
set_option maxRecDepth 100000 in
theorem s_X10_setRegister {l : Launch} {G : Gt} (hG : Gok l G) (a0 : Nat) (x1 : Int32) (x2 : Int32) (μ : Mm) (r : (Int32 ⊕ String)) (μ' : Mm) (h : f_X10_setRegister a0 x1 x2 μ = some (r, μ')) : ZX l G mX10_setRegister 0 [(0, .ref a0), (1, .int x1), (2, .int x2)] [] μ (rsI r) μ' := by
  unfold f_X10_setRegister at h
  refine zx_iload_n dX10_setRegister_0 rfl (q := 1) rfl ?_
  obtain ⟨y1, z2, h⟩ := bd_e h
  refine zx_callS (As := [.int x1]) hG mf_X10_isRegister cs_X10_16 ⟨by decide, by decide⟩ rfl rfl (Nat.le_of_ble_eq_true rfl) (s_X10_isRegister hG _ _ _ z2) (Nat.le_of_ble_eq_true rfl) dX10_setRegister_1 ?_
  by_cases c3 : ¬ y1 = 0
  · have h := it_t c3 h
    refine zx_if_ne_t (tgt := 15) dX10_setRegister_4 (by decide) c3 ?_
    refine zx_aload_n dX10_setRegister_15 rfl (q := 0) rfl ?_
    obtain ⟨h4, h⟩ := ck_e h
    obtain ⟨p5, h6, h⟩ := bd_e h
    refine zx_getR hG fl_X10_10 h4 h6 dX10_setRegister_16 ?_
    obtain ⟨h7, h⟩ := ck_e h
    refine zx_getI hG fl_X10_36 h7 dX10_setRegister_19 ?_
    by_cases c8 : (mI μ p5 12) ≤ 0
    · have h := it_t c8 h
      refine zx_if_le_t (tgt := 33) dX10_setRegister_22 (by decide) c8 ?_
      refine zx_aload_n dX10_setRegister_33 rfl (q := 0) rfl ?_
      obtain ⟨p9, h10, h⟩ := bd_e h
      refine zx_getR hG fl_X10_10 h4 h10 dX10_setRegister_34 ?_
      obtain ⟨h11, h⟩ := ck_e h
      obtain ⟨p12, h13, h⟩ := bd_e h
      refine zx_getR hG fl_X10_52 h11 h13 dX10_setRegister_37 ?_
      obtain ⟨h14, h⟩ := ck_e h
      obtain ⟨p15, h16, h⟩ := bd_e h
      refine zx_getR hG fl_X10_56 h14 h16 dX10_setRegister_40 ?_
      refine zx_iload_n dX10_setRegister_43 rfl (q := 1) rfl ?_
      obtain ⟨h17, h⟩ := ck_e h
      obtain ⟨h18, h⟩ := ck_e h
      refine zx_iald hG rfl (h17).1 (h17).2 (inb_e h18) dX10_setRegister_44 ?_
      refine zx_istore_n (L' := [(3, .int (mI μ p15 (Int32.toNatClampNeg x1))), (0, .ref a0), (1, .int x1), (2, .int x2)]) dX10_setRegister_45 rfl (by decide) rfl ?_
      refine zx_aload_n dX10_setRegister_46 rfl (q := 1) rfl ?_
      obtain ⟨p19, h20, h⟩ := bd_e h
      refine zx_getR hG fl_X10_10 h4 h20 dX10_setRegister_47 ?_
      obtain ⟨h21, h⟩ := ck_e h
      obtain ⟨p22, h23, h⟩ := bd_e h
      refine zx_getR hG fl_X10_52 h21 h23 dX10_setRegister_50 ?_
      obtain ⟨h24, h⟩ := ck_e h
      obtain ⟨p25, h26, h⟩ := bd_e h
      refine zx_getR hG fl_X10_56 h24 h26 dX10_setRegister_53 ?_
      refine zx_iload_n dX10_setRegister_56 rfl (q := 2) rfl ?_
      refine zx_iload_n dX10_setRegister_57 rfl (q := 3) rfl ?_
      obtain ⟨h27, h⟩ := ck_e h
      obtain ⟨h28, h⟩ := ck_e h
      refine zx_iast hG rfl (h27).1 (h27).2 (inb_e h28) dX10_setRegister_58 ?_
      obtain ⟨μ29, e31, h⟩ := zlm_e h
      refine zx_mem e31 ?_
      have e30 : mK μ29 = mK μ := (congrArg mK e31).trans rfl
      refine zx_aload_n dX10_setRegister_59 rfl (q := 1) rfl ?_
      obtain ⟨p32, h33, h⟩ := bd_e h
      refine zx_getR hG fl_X10_10 (kp_o (e30) h4) h33 dX10_setRegister_60 ?_
      obtain ⟨h34, h⟩ := ck_e h
      obtain ⟨p35, h36, h⟩ := bd_e h
      refine zx_getR hG fl_X10_62 h34 h36 dX10_setRegister_63 ?_
      obtain ⟨h37, h⟩ := ck_e h
      obtain ⟨p38, h39, h⟩ := bd_e h
      refine zx_getR hG fl_X10_66 h37 h39 dX10_setRegister_66 ?_
      refine zx_iload_n dX10_setRegister_69 rfl (q := 2) rfl ?_
      refine zx_iload_n dX10_setRegister_70 rfl (q := 3) rfl ?_
      obtain ⟨h40, h⟩ := ck_e h
      obtain ⟨h41, h⟩ := ck_e h
      refine zx_iast hG rfl (h40).1 (h40).2 (inb_e h41) dX10_setRegister_71 ?_
      obtain ⟨μ42, e44, h⟩ := zlm_e h
      refine zx_mem e44 ?_
      have e43 : mK μ42 = mK μ29 := (congrArg mK e44).trans rfl
      refine zx_iload_n dX10_setRegister_72 rfl (q := 0) rfl ?_
      cases h
      exact zx_iret dX10_setRegister_73 rfl
    · have h := it_f c8 h
      refine zx_if_le_f (tgt := 33) dX10_setRegister_22 (by decide) c8 ?_
      cases h
      exact zx_throw hG xt_X10_40_42 (by decide) (by decide) (Nat.le_of_ble_eq_true rfl) dX10_setRegister_25 dX10_setRegister_28 dX10_setRegister_29 dX10_setRegister_32
  · have h := it_f c3 h
    refine zx_if_ne_f (tgt := 15) dX10_setRegister_4 (by decide) (Classical.not_not.mp c3) ?_
    cases h
    exact zx_throw hG xt_X10_23_25 (by decide) (by decide) (Nat.le_of_ble_eq_true rfl) dX10_setRegister_7 dX10_setRegister_10 dX10_setRegister_11 dX10_setRegister_14
def f_X10_isAddress (x0 : Int32) : Option Int32 :=
  if x0 < 0 then
    some 0
  else
    if 64 ≤ x0 then
      some 0
    else
      some 1
set_option maxRecDepth 100000 in
theorem s_X10_isAddress {l : Launch} {G : Gt} (hG : Gok l G) (x0 : Int32) (μ : Mm) (r : Int32) (h : f_X10_isAddress x0 = some r) : ZX l G mX10_isAddress 0 [(0, .int x0)] [] μ (.inl (some (.int r))) μ := by
  unfold f_X10_isAddress at h
  refine zx_iload_n dX10_isAddress_0 rfl (q := 0) rfl ?_
  by_cases c1 : x0 < 0
  · have h := it_t c1 h
    refine zx_if_lt_t (tgt := 14) dX10_isAddress_1 (by decide) c1 ?_
    refine zx_iconst (v := 0) dX10_isAddress_14 iv_iconst_0 ?_
    cases h
    exact zx_zretZ dX10_isAddress_15 rfl zb_0
  · have h := it_f c1 h
    refine zx_if_lt_f (tgt := 14) dX10_isAddress_1 (by decide) c1 ?_
    refine zx_iload_n dX10_isAddress_4 rfl (q := 0) rfl ?_
    refine zx_bipush (v := 64) dX10_isAddress_5 iv_bipush_64 ?_
    by_cases c2 : 64 ≤ x0
    · have h := it_t c2 h
      refine zx_icmp_ge_t (tgt := 14) dX10_isAddress_7 (by decide) c2 ?_
      refine zx_iconst (v := 0) dX10_isAddress_14 iv_iconst_0 ?_
      cases h
      exact zx_zretZ dX10_isAddress_15 rfl zb_0
    · have h := it_f c2 h
      refine zx_icmp_ge_f (tgt := 14) dX10_isAddress_7 (by decide) c2 ?_
      refine zx_iconst (v := 1) dX10_isAddress_10 iv_iconst_1 ?_
      refine zx_goto (tgt := 15) dX10_isAddress_11 (by decide) ?_
      cases h
      exact zx_zretZ dX10_isAddress_15 rfl zb_1
def f_X10_setWord (a0 : Nat) (x1 : Int32) (x2 : Int32) (μ : Mm) : Option ((Int32 ⊕ String) × Mm) :=
  bd (f_X10_isAddress x1) fun y1 =>
  if ¬ y1 = 0 then
    ck (mK μ a0 = 111) <|
    bd (mR μ a0 0) fun p5 =>
    ck (mK μ p5 = 101) <|
    if (mI μ p5 12) ≤ 0 then
      bd (mR μ a0 0) fun p9 =>
      ck (mK μ p9 = 101) <|
      bd (mR μ p9 9) fun p12 =>
      ck (isA 1 (mK μ p12)) <|
      ck (inb x1 (mL μ p12)) <|
      bd (mR μ a0 0) fun p16 =>
      ck (mK μ p16 = 101) <|
      bd (mR μ p16 3) fun p19 =>
      ck (mK μ p19 = 109) <|
      bd (mR μ p19 1) fun p22 =>
      ck (isA 1 (mK μ p22)) <|
      ck (inb x1 (mL μ p22)) <|
      zl (sI μ p22 (Int32.toNatClampNeg x1) x2) fun μ26 =>
      bd (mR μ26 a0 0) fun p29 =>
      ck (mK μ26 p29 = 101) <|
      bd (mR μ26 p29 9) fun p32 =>
      ck (isA 1 (mK μ26 p32)) <|
      ck (inb x1 (mL μ26 p32)) <|
      zl (sI μ26 p32 (Int32.toNatClampNeg x1) x2) fun μ36 =>
      some (.inl (mI μ p12 (Int32.toNatClampNeg x1)), μ36)
    else
      some (.inr "java/lang/IllegalStateException", bump μ 6)
  else
    some (.inr "java/lang/IllegalArgumentException", bump μ 6)
set_option maxRecDepth 100000 in
theorem s_X10_setWord {l : Launch} {G : Gt} (hG : Gok l G) (a0 : Nat) (x1 : Int32) (x2 : Int32) (μ : Mm) (r : (Int32 ⊕ String)) (μ' : Mm) (h : f_X10_setWord a0 x1 x2 μ = some (r, μ')) : ZX l G mX10_setWord 0 [(0, .ref a0), (1, .int x1), (2, .int x2)] [] μ (rsI r) μ' := by
  unfold f_X10_setWord at h
  refine zx_iload_n dX10_setWord_0 rfl (q := 1) rfl ?_
  obtain ⟨y1, z2, h⟩ := bd_e h
  refine zx_callS (As := [.int x1]) hG mf_X10_isAddress cs_X10_71 ⟨by decide, by decide⟩ rfl rfl (Nat.le_of_ble_eq_true rfl) (s_X10_isAddress hG _ _ _ z2) (Nat.le_of_ble_eq_true rfl) dX10_setWord_1 ?_
  by_cases c3 : ¬ y1 = 0
  · have h := it_t c3 h
    refine zx_if_ne_t (tgt := 15) dX10_setWord_4 (by decide) c3 ?_
    refine zx_aload_n dX10_setWord_15 rfl (q := 0) rfl ?_
    obtain ⟨h4, h⟩ := ck_e h
    obtain ⟨p5, h6, h⟩ := bd_e h
    refine zx_getR hG fl_X10_10 h4 h6 dX10_setWord_16 ?_
    obtain ⟨h7, h⟩ := ck_e h
    refine zx_getI hG fl_X10_36 h7 dX10_setWord_19 ?_
    by_cases c8 : (mI μ p5 12) ≤ 0
    · have h := it_t c8 h
      refine zx_if_le_t (tgt := 33) dX10_setWord_22 (by decide) c8 ?_
      refine zx_aload_n dX10_setWord_33 rfl (q := 0) rfl ?_
      obtain ⟨p9, h10, h⟩ := bd_e h
      refine zx_getR hG fl_X10_10 h4 h10 dX10_setWord_34 ?_
      obtain ⟨h11, h⟩ := ck_e h
      obtain ⟨p12, h13, h⟩ := bd_e h
      refine zx_getR hG fl_X10_74 h11 h13 dX10_setWord_37 ?_
      refine zx_iload_n dX10_setWord_40 rfl (q := 1) rfl ?_
      obtain ⟨h14, h⟩ := ck_e h
      obtain ⟨h15, h⟩ := ck_e h
      refine zx_iald hG rfl (h14).1 (h14).2 (inb_e h15) dX10_setWord_41 ?_
      refine zx_istore_n (L' := [(3, .int (mI μ p12 (Int32.toNatClampNeg x1))), (0, .ref a0), (1, .int x1), (2, .int x2)]) dX10_setWord_42 rfl (by decide) rfl ?_
      refine zx_aload_n dX10_setWord_43 rfl (q := 1) rfl ?_
      obtain ⟨p16, h17, h⟩ := bd_e h
      refine zx_getR hG fl_X10_10 h4 h17 dX10_setWord_44 ?_
      obtain ⟨h18, h⟩ := ck_e h
      obtain ⟨p19, h20, h⟩ := bd_e h
      refine zx_getR hG fl_X10_52 h18 h20 dX10_setWord_47 ?_
      obtain ⟨h21, h⟩ := ck_e h
      obtain ⟨p22, h23, h⟩ := bd_e h
      refine zx_getR hG fl_X10_77 h21 h23 dX10_setWord_50 ?_
      refine zx_iload_n dX10_setWord_53 rfl (q := 2) rfl ?_
      refine zx_iload_n dX10_setWord_54 rfl (q := 3) rfl ?_
      obtain ⟨h24, h⟩ := ck_e h
      obtain ⟨h25, h⟩ := ck_e h
      refine zx_iast hG rfl (h24).1 (h24).2 (inb_e h25) dX10_setWord_55 ?_
      obtain ⟨μ26, e28, h⟩ := zlm_e h
      refine zx_mem e28 ?_
      have e27 : mK μ26 = mK μ := (congrArg mK e28).trans rfl
      refine zx_aload_n dX10_setWord_56 rfl (q := 1) rfl ?_
      obtain ⟨p29, h30, h⟩ := bd_e h
      refine zx_getR hG fl_X10_10 (kp_o (e27) h4) h30 dX10_setWord_57 ?_
      obtain ⟨h31, h⟩ := ck_e h
      obtain ⟨p32, h33, h⟩ := bd_e h
      refine zx_getR hG fl_X10_74 h31 h33 dX10_setWord_60 ?_
      refine zx_iload_n dX10_setWord_63 rfl (q := 2) rfl ?_
      refine zx_iload_n dX10_setWord_64 rfl (q := 3) rfl ?_
      obtain ⟨h34, h⟩ := ck_e h
      obtain ⟨h35, h⟩ := ck_e h
      refine zx_iast hG rfl (h34).1 (h34).2 (inb_e h35) dX10_setWord_65 ?_
      obtain ⟨μ36, e38, h⟩ := zlm_e h
      refine zx_mem e38 ?_
      have e37 : mK μ36 = mK μ26 := (congrArg mK e38).trans rfl
      refine zx_iload_n dX10_setWord_66 rfl (q := 0) rfl ?_
      cases h
      exact zx_iret dX10_setWord_67 rfl
    · have h := it_f c8 h
      refine zx_if_le_f (tgt := 33) dX10_setWord_22 (by decide) c8 ?_
      cases h
      exact zx_throw hG xt_X10_40_42 (by decide) (by decide) (Nat.le_of_ble_eq_true rfl) dX10_setWord_25 dX10_setWord_28 dX10_setWord_29 dX10_setWord_32
  · have h := it_f c3 h
    refine zx_if_ne_f (tgt := 15) dX10_setWord_4 (by decide) (Classical.not_not.mp c3) ?_
    cases h
    exact zx_throw hG xt_X10_23_25 (by decide) (by decide) (Nat.le_of_ble_eq_true rfl) dX10_setWord_7 dX10_setWord_10 dX10_setWord_11 dX10_setWord_14
def f_X10_setWidth_b10 (μ : Mm) : Option ((Int32 ⊕ String) × Mm) :=
  some (.inr "java/lang/IllegalArgumentException", bump μ 6)
def f_X10_setWidth (a0 : Nat) (x1 : Int32) (μ : Mm) : Option ((Int32 ⊕ String) × Mm) :=
  if x1 < 1 then
    f_X10_setWidth_b10 μ
  else
    if x1 ≤ 4 then
      ck (mK μ a0 = 111) <|
      bd (mR μ a0 0) fun p4 =>
      ck (mK μ p4 = 101) <|
      if (mI μ p4 12) ≤ 0 then
        bd (mR μ a0 0) fun p8 =>
        ck (mK μ p8 = 101) <|
        bd (mR μ p8 1) fun p11 =>
        ck (mK μ p11 = 110) <|
        bd (mR μ a0 0) fun p14 =>
        ck (mK μ p14 = 101) <|
        bd (mR μ p14 1) fun p17 =>
        ck (mK μ p17 = 110) <|
        zl (sI μ p17 0 x1) fun μ20 =>
        some (.inl (mI μ p11 0), μ20)
      else
        some (.inr "java/lang/IllegalStateException", bump μ 6)
    else
      f_X10_setWidth_b10 μ
set_option maxRecDepth 100000 in
theorem s_X10_setWidth_b10 {l : Launch} {G : Gt} (hG : Gok l G) (μ : Mm) (r : (Int32 ⊕ String)) (μ' : Mm) (h : f_X10_setWidth_b10 μ = some (r, μ')) : ZX l G mX10_setWidth 10 [] [] μ (rsI r) μ' := by
  unfold f_X10_setWidth_b10 at h
  cases h
  exact zx_throw hG xt_X10_23_25 (by decide) (by decide) (Nat.le_of_ble_eq_true rfl) dX10_setWidth_10 dX10_setWidth_13 dX10_setWidth_14 dX10_setWidth_17
set_option maxRecDepth 100000 in
theorem s_X10_setWidth {l : Launch} {G : Gt} (hG : Gok l G) (a0 : Nat) (x1 : Int32) (μ : Mm) (r : (Int32 ⊕ String)) (μ' : Mm) (h : f_X10_setWidth a0 x1 μ = some (r, μ')) : ZX l G mX10_setWidth 0 [(0, .ref a0), (1, .int x1)] [] μ (rsI r) μ' := by
  unfold f_X10_setWidth at h
  refine zx_iload_n dX10_setWidth_0 rfl (q := 1) rfl ?_
  refine zx_iconst (v := 1) dX10_setWidth_1 iv_iconst_1 ?_
  by_cases c1 : x1 < 1
  · have h := it_t c1 h
    refine zx_icmp_lt_t (tgt := 10) dX10_setWidth_2 (by decide) c1 ?_
    refine zx_sub (L' := []) [] rfl ?_
    exact s_X10_setWidth_b10 hG _ _ _ h
  · have h := it_f c1 h
    refine zx_icmp_lt_f (tgt := 10) dX10_setWidth_2 (by decide) c1 ?_
    refine zx_iload_n dX10_setWidth_5 rfl (q := 1) rfl ?_
    refine zx_iconst (v := 4) dX10_setWidth_6 iv_iconst_4 ?_
    by_cases c2 : x1 ≤ 4
    · have h := it_t c2 h
      refine zx_icmp_le_t (tgt := 18) dX10_setWidth_7 (by decide) c2 ?_
      refine zx_aload_n dX10_setWidth_18 rfl (q := 0) rfl ?_
      obtain ⟨h3, h⟩ := ck_e h
      obtain ⟨p4, h5, h⟩ := bd_e h
      refine zx_getR hG fl_X10_10 h3 h5 dX10_setWidth_19 ?_
      obtain ⟨h6, h⟩ := ck_e h
      refine zx_getI hG fl_X10_36 h6 dX10_setWidth_22 ?_
      by_cases c7 : (mI μ p4 12) ≤ 0
      · have h := it_t c7 h
        refine zx_if_le_t (tgt := 36) dX10_setWidth_25 (by decide) c7 ?_
        refine zx_aload_n dX10_setWidth_36 rfl (q := 0) rfl ?_
        obtain ⟨p8, h9, h⟩ := bd_e h
        refine zx_getR hG fl_X10_10 h3 h9 dX10_setWidth_37 ?_
        obtain ⟨h10, h⟩ := ck_e h
        obtain ⟨p11, h12, h⟩ := bd_e h
        refine zx_getR hG fl_X10_78 h10 h12 dX10_setWidth_40 ?_
        obtain ⟨h13, h⟩ := ck_e h
        refine zx_getI hG fl_X10_82 h13 dX10_setWidth_43 ?_
        refine zx_istore_n (L' := [(2, .int (mI μ p11 0)), (0, .ref a0), (1, .int x1)]) dX10_setWidth_46 rfl (by decide) rfl ?_
        refine zx_aload_n dX10_setWidth_47 rfl (q := 1) rfl ?_
        obtain ⟨p14, h15, h⟩ := bd_e h
        refine zx_getR hG fl_X10_10 h3 h15 dX10_setWidth_48 ?_
        obtain ⟨h16, h⟩ := ck_e h
        obtain ⟨p17, h18, h⟩ := bd_e h
        refine zx_getR hG fl_X10_78 h16 h18 dX10_setWidth_51 ?_
        refine zx_iload_n dX10_setWidth_54 rfl (q := 2) rfl ?_
        obtain ⟨h19, h⟩ := ck_e h
        refine zx_putI hG fl_X10_82 fn_10_0 h19 dX10_setWidth_55 ?_
        obtain ⟨μ20, e22, h⟩ := zlm_e h
        refine zx_mem e22 ?_
        have e21 : mK μ20 = mK μ := (congrArg mK e22).trans rfl
        refine zx_iload_n dX10_setWidth_58 rfl (q := 0) rfl ?_
        cases h
        exact zx_iret dX10_setWidth_59 rfl
      · have h := it_f c7 h
        refine zx_if_le_f (tgt := 36) dX10_setWidth_25 (by decide) c7 ?_
        cases h
        exact zx_throw hG xt_X10_40_42 (by decide) (by decide) (Nat.le_of_ble_eq_true rfl) dX10_setWidth_28 dX10_setWidth_31 dX10_setWidth_32 dX10_setWidth_35
    · have h := it_f c2 h
      refine zx_icmp_le_f (tgt := 18) dX10_setWidth_7 (by decide) c2 ?_
      refine zx_sub (L' := []) [] rfl ?_
      exact s_X10_setWidth_b10 hG _ _ _ h
def f_X10_setBuffer_b11 (μ : Mm) : Option ((Int32 ⊕ String) × Mm) :=
  some (.inr "java/lang/IllegalArgumentException", bump μ 6)
def f_X10_setBuffer (a0 : Nat) (x1 : Int32) (μ : Mm) : Option ((Int32 ⊕ String) × Mm) :=
  if x1 < 4 then
    f_X10_setBuffer_b11 μ
  else
    if x1 ≤ 16 then
      ck (mK μ a0 = 111) <|
      bd (mR μ a0 0) fun p4 =>
      ck (mK μ p4 = 101) <|
      if (mI μ p4 12) ≤ 0 then
        bd (mR μ a0 0) fun p8 =>
        ck (mK μ p8 = 101) <|
        bd (mR μ p8 1) fun p11 =>
        ck (mK μ p11 = 110) <|
        bd (mR μ a0 0) fun p14 =>
        ck (mK μ p14 = 101) <|
        bd (mR μ p14 1) fun p17 =>
        ck (mK μ p17 = 110) <|
        zl (sI μ p17 1 x1) fun μ20 =>
        some (.inl (mI μ p11 1), μ20)
      else
        some (.inr "java/lang/IllegalStateException", bump μ 6)
    else
      f_X10_setBuffer_b11 μ
set_option maxRecDepth 100000 in
theorem s_X10_setBuffer_b11 {l : Launch} {G : Gt} (hG : Gok l G) (μ : Mm) (r : (Int32 ⊕ String)) (μ' : Mm) (h : f_X10_setBuffer_b11 μ = some (r, μ')) : ZX l G mX10_setBuffer 11 [] [] μ (rsI r) μ' := by
  unfold f_X10_setBuffer_b11 at h
  cases h
  exact zx_throw hG xt_X10_23_25 (by decide) (by decide) (Nat.le_of_ble_eq_true rfl) dX10_setBuffer_11 dX10_setBuffer_14 dX10_setBuffer_15 dX10_setBuffer_18
set_option maxRecDepth 100000 in
theorem s_X10_setBuffer {l : Launch} {G : Gt} (hG : Gok l G) (a0 : Nat) (x1 : Int32) (μ : Mm) (r : (Int32 ⊕ String)) (μ' : Mm) (h : f_X10_setBuffer a0 x1 μ = some (r, μ')) : ZX l G mX10_setBuffer 0 [(0, .ref a0), (1, .int x1)] [] μ (rsI r) μ' := by
  unfold f_X10_setBuffer at h
  refine zx_iload_n dX10_setBuffer_0 rfl (q := 1) rfl ?_
  refine zx_iconst (v := 4) dX10_setBuffer_1 iv_iconst_4 ?_
  by_cases c1 : x1 < 4
  · have h := it_t c1 h
    refine zx_icmp_lt_t (tgt := 11) dX10_setBuffer_2 (by decide) c1 ?_
    refine zx_sub (L' := []) [] rfl ?_
    exact s_X10_setBuffer_b11 hG _ _ _ h
  · have h := it_f c1 h
    refine zx_icmp_lt_f (tgt := 11) dX10_setBuffer_2 (by decide) c1 ?_
    refine zx_iload_n dX10_setBuffer_5 rfl (q := 1) rfl ?_
    refine zx_bipush (v := 16) dX10_setBuffer_6 iv_bipush_16 ?_
    by_cases c2 : x1 ≤ 16
    · have h := it_t c2 h
      refine zx_icmp_le_t (tgt := 19) dX10_setBuffer_8 (by decide) c2 ?_
      refine zx_aload_n dX10_setBuffer_19 rfl (q := 0) rfl ?_
      obtain ⟨h3, h⟩ := ck_e h
      obtain ⟨p4, h5, h⟩ := bd_e h
      refine zx_getR hG fl_X10_10 h3 h5 dX10_setBuffer_20 ?_
      obtain ⟨h6, h⟩ := ck_e h
      refine zx_getI hG fl_X10_36 h6 dX10_setBuffer_23 ?_
      by_cases c7 : (mI μ p4 12) ≤ 0
      · have h := it_t c7 h
        refine zx_if_le_t (tgt := 37) dX10_setBuffer_26 (by decide) c7 ?_
        refine zx_aload_n dX10_setBuffer_37 rfl (q := 0) rfl ?_
        obtain ⟨p8, h9, h⟩ := bd_e h
        refine zx_getR hG fl_X10_10 h3 h9 dX10_setBuffer_38 ?_
        obtain ⟨h10, h⟩ := ck_e h
        obtain ⟨p11, h12, h⟩ := bd_e h
        refine zx_getR hG fl_X10_78 h10 h12 dX10_setBuffer_41 ?_
        obtain ⟨h13, h⟩ := ck_e h
        refine zx_getI hG fl_X10_87 h13 dX10_setBuffer_44 ?_
        refine zx_istore_n (L' := [(2, .int (mI μ p11 1)), (0, .ref a0), (1, .int x1)]) dX10_setBuffer_47 rfl (by decide) rfl ?_
        refine zx_aload_n dX10_setBuffer_48 rfl (q := 1) rfl ?_
        obtain ⟨p14, h15, h⟩ := bd_e h
        refine zx_getR hG fl_X10_10 h3 h15 dX10_setBuffer_49 ?_
        obtain ⟨h16, h⟩ := ck_e h
        obtain ⟨p17, h18, h⟩ := bd_e h
        refine zx_getR hG fl_X10_78 h16 h18 dX10_setBuffer_52 ?_
        refine zx_iload_n dX10_setBuffer_55 rfl (q := 2) rfl ?_
        obtain ⟨h19, h⟩ := ck_e h
        refine zx_putI hG fl_X10_87 fn_10_1 h19 dX10_setBuffer_56 ?_
        obtain ⟨μ20, e22, h⟩ := zlm_e h
        refine zx_mem e22 ?_
        have e21 : mK μ20 = mK μ := (congrArg mK e22).trans rfl
        refine zx_iload_n dX10_setBuffer_59 rfl (q := 0) rfl ?_
        cases h
        exact zx_iret dX10_setBuffer_60 rfl
      · have h := it_f c7 h
        refine zx_if_le_f (tgt := 37) dX10_setBuffer_26 (by decide) c7 ?_
        cases h
        exact zx_throw hG xt_X10_40_42 (by decide) (by decide) (Nat.le_of_ble_eq_true rfl) dX10_setBuffer_29 dX10_setBuffer_32 dX10_setBuffer_33 dX10_setBuffer_36
    · have h := it_f c2 h
      refine zx_icmp_le_f (tgt := 19) dX10_setBuffer_8 (by decide) c2 ?_
      refine zx_sub (L' := []) [] rfl ?_
      exact s_X10_setBuffer_b11 hG _ _ _ h
def f_X10_setQueue_b11 (μ : Mm) : Option ((Int32 ⊕ String) × Mm) :=
  some (.inr "java/lang/IllegalArgumentException", bump μ 6)
def f_X10_setQueue (a0 : Nat) (x1 : Int32) (μ : Mm) : Option ((Int32 ⊕ String) × Mm) :=
  if x1 < 2 then
    f_X10_setQueue_b11 μ
  else
    if x1 ≤ 8 then
      ck (mK μ a0 = 111) <|
      bd (mR μ a0 0) fun p4 =>
      ck (mK μ p4 = 101) <|
      if (mI μ p4 12) ≤ 0 then
        bd (mR μ a0 0) fun p8 =>
        ck (mK μ p8 = 101) <|
        bd (mR μ p8 1) fun p11 =>
        ck (mK μ p11 = 110) <|
        bd (mR μ a0 0) fun p14 =>
        ck (mK μ p14 = 101) <|
        bd (mR μ p14 1) fun p17 =>
        ck (mK μ p17 = 110) <|
        zl (sI μ p17 2 x1) fun μ20 =>
        some (.inl (mI μ p11 2), μ20)
      else
        some (.inr "java/lang/IllegalStateException", bump μ 6)
    else
      f_X10_setQueue_b11 μ
set_option maxRecDepth 100000 in
theorem s_X10_setQueue_b11 {l : Launch} {G : Gt} (hG : Gok l G) (μ : Mm) (r : (Int32 ⊕ String)) (μ' : Mm) (h : f_X10_setQueue_b11 μ = some (r, μ')) : ZX l G mX10_setQueue 11 [] [] μ (rsI r) μ' := by
  unfold f_X10_setQueue_b11 at h
  cases h
  exact zx_throw hG xt_X10_23_25 (by decide) (by decide) (Nat.le_of_ble_eq_true rfl) dX10_setQueue_11 dX10_setQueue_14 dX10_setQueue_15 dX10_setQueue_18
set_option maxRecDepth 100000 in
theorem s_X10_setQueue {l : Launch} {G : Gt} (hG : Gok l G) (a0 : Nat) (x1 : Int32) (μ : Mm) (r : (Int32 ⊕ String)) (μ' : Mm) (h : f_X10_setQueue a0 x1 μ = some (r, μ')) : ZX l G mX10_setQueue 0 [(0, .ref a0), (1, .int x1)] [] μ (rsI r) μ' := by
  unfold f_X10_setQueue at h
  refine zx_iload_n dX10_setQueue_0 rfl (q := 1) rfl ?_
  refine zx_iconst (v := 2) dX10_setQueue_1 iv_iconst_2 ?_
  by_cases c1 : x1 < 2
  · have h := it_t c1 h
    refine zx_icmp_lt_t (tgt := 11) dX10_setQueue_2 (by decide) c1 ?_
    refine zx_sub (L' := []) [] rfl ?_
    exact s_X10_setQueue_b11 hG _ _ _ h
  · have h := it_f c1 h
    refine zx_icmp_lt_f (tgt := 11) dX10_setQueue_2 (by decide) c1 ?_
    refine zx_iload_n dX10_setQueue_5 rfl (q := 1) rfl ?_
    refine zx_bipush (v := 8) dX10_setQueue_6 iv_bipush_8 ?_
    by_cases c2 : x1 ≤ 8
    · have h := it_t c2 h
      refine zx_icmp_le_t (tgt := 19) dX10_setQueue_8 (by decide) c2 ?_
      refine zx_aload_n dX10_setQueue_19 rfl (q := 0) rfl ?_
      obtain ⟨h3, h⟩ := ck_e h
      obtain ⟨p4, h5, h⟩ := bd_e h
      refine zx_getR hG fl_X10_10 h3 h5 dX10_setQueue_20 ?_
      obtain ⟨h6, h⟩ := ck_e h
      refine zx_getI hG fl_X10_36 h6 dX10_setQueue_23 ?_
      by_cases c7 : (mI μ p4 12) ≤ 0
      · have h := it_t c7 h
        refine zx_if_le_t (tgt := 37) dX10_setQueue_26 (by decide) c7 ?_
        refine zx_aload_n dX10_setQueue_37 rfl (q := 0) rfl ?_
        obtain ⟨p8, h9, h⟩ := bd_e h
        refine zx_getR hG fl_X10_10 h3 h9 dX10_setQueue_38 ?_
        obtain ⟨h10, h⟩ := ck_e h
        obtain ⟨p11, h12, h⟩ := bd_e h
        refine zx_getR hG fl_X10_78 h10 h12 dX10_setQueue_41 ?_
        obtain ⟨h13, h⟩ := ck_e h
        refine zx_getI hG fl_X10_90 h13 dX10_setQueue_44 ?_
        refine zx_istore_n (L' := [(2, .int (mI μ p11 2)), (0, .ref a0), (1, .int x1)]) dX10_setQueue_47 rfl (by decide) rfl ?_
        refine zx_aload_n dX10_setQueue_48 rfl (q := 1) rfl ?_
        obtain ⟨p14, h15, h⟩ := bd_e h
        refine zx_getR hG fl_X10_10 h3 h15 dX10_setQueue_49 ?_
        obtain ⟨h16, h⟩ := ck_e h
        obtain ⟨p17, h18, h⟩ := bd_e h
        refine zx_getR hG fl_X10_78 h16 h18 dX10_setQueue_52 ?_
        refine zx_iload_n dX10_setQueue_55 rfl (q := 2) rfl ?_
        obtain ⟨h19, h⟩ := ck_e h
        refine zx_putI hG fl_X10_90 fn_10_2 h19 dX10_setQueue_56 ?_
        obtain ⟨μ20, e22, h⟩ := zlm_e h
        refine zx_mem e22 ?_
        have e21 : mK μ20 = mK μ := (congrArg mK e22).trans rfl
        refine zx_iload_n dX10_setQueue_59 rfl (q := 0) rfl ?_
        cases h
        exact zx_iret dX10_setQueue_60 rfl
      · have h := it_f c7 h
        refine zx_if_le_f (tgt := 37) dX10_setQueue_26 (by decide) c7 ?_
        cases h
        exact zx_throw hG xt_X10_40_42 (by decide) (by decide) (Nat.le_of_ble_eq_true rfl) dX10_setQueue_29 dX10_setQueue_32 dX10_setQueue_33 dX10_setQueue_36
    · have h := it_f c2 h
      refine zx_icmp_le_f (tgt := 19) dX10_setQueue_8 (by decide) c2 ?_
      refine zx_sub (L' := []) [] rfl ?_
      exact s_X10_setQueue_b11 hG _ _ _ h
def f_X10_setInner_b12 (μ : Mm) : Option ((Int32 ⊕ String) × Mm) :=
  some (.inr "java/lang/IllegalArgumentException", bump μ 6)
def f_X10_setInner (a0 : Nat) (x1 : Int32) (μ : Mm) : Option ((Int32 ⊕ String) × Mm) :=
  if x1 < 10 then
    f_X10_setInner_b12 μ
  else
    if x1 ≤ 24 then
      ck (mK μ a0 = 111) <|
      bd (mR μ a0 0) fun p4 =>
      ck (mK μ p4 = 101) <|
      if (mI μ p4 12) ≤ 0 then
        bd (mR μ a0 0) fun p8 =>
        ck (mK μ p8 = 101) <|
        bd (mR μ p8 4) fun p11 =>
        ck (mK μ p11 = 106) <|
        bd (mR μ a0 0) fun p14 =>
        ck (mK μ p14 = 101) <|
        bd (mR μ p14 4) fun p17 =>
        ck (mK μ p17 = 106) <|
        cl (f_X5_fillLine p17 x1 μ) fun _ μ22 =>
        some (.inl (mI μ p11 6), μ22)
      else
        some (.inr "java/lang/IllegalStateException", bump μ 6)
    else
      f_X10_setInner_b12 μ
set_option maxRecDepth 100000 in
theorem s_X10_setInner_b12 {l : Launch} {G : Gt} (hG : Gok l G) (μ : Mm) (r : (Int32 ⊕ String)) (μ' : Mm) (h : f_X10_setInner_b12 μ = some (r, μ')) : ZX l G mX10_setInner 12 [] [] μ (rsI r) μ' := by
  unfold f_X10_setInner_b12 at h
  cases h
  exact zx_throw hG xt_X10_23_25 (by decide) (by decide) (Nat.le_of_ble_eq_true rfl) dX10_setInner_12 dX10_setInner_15 dX10_setInner_16 dX10_setInner_19
set_option maxRecDepth 100000 in
theorem s_X10_setInner {l : Launch} {G : Gt} (hG : Gok l G) (a0 : Nat) (x1 : Int32) (μ : Mm) (r : (Int32 ⊕ String)) (μ' : Mm) (h : f_X10_setInner a0 x1 μ = some (r, μ')) : ZX l G mX10_setInner 0 [(0, .ref a0), (1, .int x1)] [] μ (rsI r) μ' := by
  unfold f_X10_setInner at h
  refine zx_iload_n dX10_setInner_0 rfl (q := 1) rfl ?_
  refine zx_bipush (v := 10) dX10_setInner_1 iv_bipush_10 ?_
  by_cases c1 : x1 < 10
  · have h := it_t c1 h
    refine zx_icmp_lt_t (tgt := 12) dX10_setInner_3 (by decide) c1 ?_
    refine zx_sub (L' := []) [] rfl ?_
    exact s_X10_setInner_b12 hG _ _ _ h
  · have h := it_f c1 h
    refine zx_icmp_lt_f (tgt := 12) dX10_setInner_3 (by decide) c1 ?_
    refine zx_iload_n dX10_setInner_6 rfl (q := 1) rfl ?_
    refine zx_bipush (v := 24) dX10_setInner_7 iv_bipush_24 ?_
    by_cases c2 : x1 ≤ 24
    · have h := it_t c2 h
      refine zx_icmp_le_t (tgt := 20) dX10_setInner_9 (by decide) c2 ?_
      refine zx_aload_n dX10_setInner_20 rfl (q := 0) rfl ?_
      obtain ⟨h3, h⟩ := ck_e h
      obtain ⟨p4, h5, h⟩ := bd_e h
      refine zx_getR hG fl_X10_10 h3 h5 dX10_setInner_21 ?_
      obtain ⟨h6, h⟩ := ck_e h
      refine zx_getI hG fl_X10_36 h6 dX10_setInner_24 ?_
      by_cases c7 : (mI μ p4 12) ≤ 0
      · have h := it_t c7 h
        refine zx_if_le_t (tgt := 38) dX10_setInner_27 (by decide) c7 ?_
        refine zx_aload_n dX10_setInner_38 rfl (q := 0) rfl ?_
        obtain ⟨p8, h9, h⟩ := bd_e h
        refine zx_getR hG fl_X10_10 h3 h9 dX10_setInner_39 ?_
        obtain ⟨h10, h⟩ := ck_e h
        obtain ⟨p11, h12, h⟩ := bd_e h
        refine zx_getR hG fl_X10_62 h10 h12 dX10_setInner_42 ?_
        obtain ⟨h13, h⟩ := ck_e h
        refine zx_getI hG fl_X10_93 h13 dX10_setInner_45 ?_
        refine zx_istore_n (L' := [(2, .int (mI μ p11 6)), (0, .ref a0), (1, .int x1)]) dX10_setInner_48 rfl (by decide) rfl ?_
        refine zx_aload_n dX10_setInner_49 rfl (q := 1) rfl ?_
        obtain ⟨p14, h15, h⟩ := bd_e h
        refine zx_getR hG fl_X10_10 h3 h15 dX10_setInner_50 ?_
        obtain ⟨h16, h⟩ := ck_e h
        obtain ⟨p17, h18, h⟩ := bd_e h
        refine zx_getR hG fl_X10_62 h16 h18 dX10_setInner_53 ?_
        refine zx_iload_n dX10_setInner_56 rfl (q := 2) rfl ?_
        obtain ⟨h19, h⟩ := ck_e h
        obtain ⟨uu20, μ22, z21, h⟩ := cl_e h
        refine zx_callV (As := [.int x1]) hG mf_X5_fillLine cv_X10_96 h19 ⟨by decide, by decide⟩ rfl rfl (Nat.le_of_ble_eq_true rfl) (s_X5_fillLine hG _ _ _ _ _ z21) (Nat.le_of_ble_eq_true rfl) dX10_setInner_57 ?_
        refine zx_iload_n dX10_setInner_60 rfl (q := 0) rfl ?_
        cases h
        exact zx_iret dX10_setInner_61 rfl
      · have h := it_f c7 h
        refine zx_if_le_f (tgt := 38) dX10_setInner_27 (by decide) c7 ?_
        cases h
        exact zx_throw hG xt_X10_40_42 (by decide) (by decide) (Nat.le_of_ble_eq_true rfl) dX10_setInner_30 dX10_setInner_33 dX10_setInner_34 dX10_setInner_37
    · have h := it_f c2 h
      refine zx_icmp_le_f (tgt := 20) dX10_setInner_9 (by decide) c2 ?_
      refine zx_sub (L' := []) [] rfl ?_
      exact s_X10_setInner_b12 hG _ _ _ h
def f_X10_isHandler_b12 : Option Int32 :=
  some 1
def f_X10_isHandler (x0 : Int32) : Option Int32 :=
  if x0 = ((-1)) then
    f_X10_isHandler_b12 
  else
    bd (f_X10_isPlace x0) fun y2 =>
    if y2 = 0 then
      some 0
    else
      f_X10_isHandler_b12 
set_option maxRecDepth 100000 in
theorem s_X10_isHandler_b12 {l : Launch} {G : Gt} (hG : Gok l G) (μ : Mm) (r : Int32) (h : f_X10_isHandler_b12 = some r) : ZX l G mX10_isHandler 12 [] [] μ (.inl (some (.int r))) μ := by
  unfold f_X10_isHandler_b12 at h
  refine zx_iconst (v := 1) dX10_isHandler_12 iv_iconst_1 ?_
  refine zx_goto (tgt := 17) dX10_isHandler_13 (by decide) ?_
  cases h
  exact zx_zretZ dX10_isHandler_17 rfl zb_1
set_option maxRecDepth 100000 in
theorem s_X10_isHandler {l : Launch} {G : Gt} (hG : Gok l G) (x0 : Int32) (μ : Mm) (r : Int32) (h : f_X10_isHandler x0 = some r) : ZX l G mX10_isHandler 0 [(0, .int x0)] [] μ (.inl (some (.int r))) μ := by
  unfold f_X10_isHandler at h
  refine zx_iload_n dX10_isHandler_0 rfl (q := 0) rfl ?_
  refine zx_iconst (v := (-1)) dX10_isHandler_1 iv_iconst_m1 ?_
  by_cases c1 : x0 = ((-1))
  · have h := it_t c1 h
    refine zx_icmp_eq_t (tgt := 12) dX10_isHandler_2 (by decide) c1 ?_
    refine zx_sub (L' := []) [] rfl ?_
    exact s_X10_isHandler_b12 hG _ _ h
  · have h := it_f c1 h
    refine zx_icmp_eq_f (tgt := 12) dX10_isHandler_2 (by decide) c1 ?_
    refine zx_iload_n dX10_isHandler_5 rfl (q := 0) rfl ?_
    obtain ⟨y2, z3, h⟩ := bd_e h
    refine zx_callS (As := [.int x0]) hG mf_X10_isPlace cs_X10_20 ⟨by decide, by decide⟩ rfl rfl (Nat.le_of_ble_eq_true rfl) (s_X10_isPlace hG _ _ _ z3) (Nat.le_of_ble_eq_true rfl) dX10_isHandler_6 ?_
    by_cases c4 : y2 = 0
    · have h := it_t c4 h
      refine zx_if_eq_t (tgt := 16) dX10_isHandler_9 (by decide) c4 ?_
      refine zx_iconst (v := 0) dX10_isHandler_16 iv_iconst_0 ?_
      cases h
      exact zx_zretZ dX10_isHandler_17 rfl zb_0
    · have h := it_f c4 h
      refine zx_if_eq_f (tgt := 16) dX10_isHandler_9 (by decide) c4 ?_
      refine zx_sub (L' := []) [] rfl ?_
      exact s_X10_isHandler_b12 hG _ _ h
def f_X10_setHandlers_b14 (μ : Mm) : Option ((Int32 ⊕ String) × Mm) :=
  some (.inr "java/lang/IllegalArgumentException", bump μ 6)
def f_X10_setHandlers (a0 : Nat) (x1 : Int32) (x2 : Int32) (μ : Mm) : Option ((Int32 ⊕ String) × Mm) :=
  bd (f_X10_isHandler x1) fun y1 =>
  if y1 = 0 then
    f_X10_setHandlers_b14 μ
  else
    bd (f_X10_isHandler x2) fun y4 =>
    if ¬ y4 = 0 then
      ck (mK μ a0 = 111) <|
      bd (mR μ a0 0) fun p8 =>
      ck (mK μ p8 = 101) <|
      if (mI μ p8 12) ≤ 0 then
        bd (mR μ a0 0) fun p12 =>
        ck (mK μ p12 = 101) <|
        bd (mR μ p12 1) fun p15 =>
        ck (mK μ p15 = 110) <|
        bd (mR μ a0 0) fun p18 =>
        ck (mK μ p18 = 101) <|
        bd (mR μ p18 1) fun p21 =>
        ck (mK μ p21 = 110) <|
        bd (mR μ a0 0) fun p24 =>
        ck (mK μ p24 = 101) <|
        bd (mR μ p24 1) fun p27 =>
        ck (mK μ p27 = 110) <|
        zl (sI μ p27 3 x1) fun μ30 =>
        bd (mR μ30 a0 0) fun p33 =>
        ck (mK μ30 p33 = 101) <|
        bd (mR μ30 p33 1) fun p36 =>
        ck (mK μ30 p36 = 110) <|
        zl (sI μ30 p36 4 x2) fun μ39 =>
        some (.inl ((64 * (mI μ p15 3)) + (mI μ p21 4)), μ39)
      else
        some (.inr "java/lang/IllegalStateException", bump μ 6)
    else
      f_X10_setHandlers_b14 μ
set_option maxRecDepth 100000 in
theorem s_X10_setHandlers_b14 {l : Launch} {G : Gt} (hG : Gok l G) (μ : Mm) (r : (Int32 ⊕ String)) (μ' : Mm) (h : f_X10_setHandlers_b14 μ = some (r, μ')) : ZX l G mX10_setHandlers 14 [] [] μ (rsI r) μ' := by
  unfold f_X10_setHandlers_b14 at h
  cases h
  exact zx_throw hG xt_X10_23_25 (by decide) (by decide) (Nat.le_of_ble_eq_true rfl) dX10_setHandlers_14 dX10_setHandlers_17 dX10_setHandlers_18 dX10_setHandlers_21
set_option maxRecDepth 100000 in
theorem s_X10_setHandlers {l : Launch} {G : Gt} (hG : Gok l G) (a0 : Nat) (x1 : Int32) (x2 : Int32) (μ : Mm) (r : (Int32 ⊕ String)) (μ' : Mm) (h : f_X10_setHandlers a0 x1 x2 μ = some (r, μ')) : ZX l G mX10_setHandlers 0 [(0, .ref a0), (1, .int x1), (2, .int x2)] [] μ (rsI r) μ' := by
  unfold f_X10_setHandlers at h
  refine zx_iload_n dX10_setHandlers_0 rfl (q := 1) rfl ?_
  obtain ⟨y1, z2, h⟩ := bd_e h
  refine zx_callS (As := [.int x1]) hG mf_X10_isHandler cs_X10_100 ⟨by decide, by decide⟩ rfl rfl (Nat.le_of_ble_eq_true rfl) (s_X10_isHandler hG _ _ _ z2) (Nat.le_of_ble_eq_true rfl) dX10_setHandlers_1 ?_
  by_cases c3 : y1 = 0
  · have h := it_t c3 h
    refine zx_if_eq_t (tgt := 14) dX10_setHandlers_4 (by decide) c3 ?_
    refine zx_sub (L' := []) [] rfl ?_
    exact s_X10_setHandlers_b14 hG _ _ _ h
  · have h := it_f c3 h
    refine zx_if_eq_f (tgt := 14) dX10_setHandlers_4 (by decide) c3 ?_
    refine zx_iload_n dX10_setHandlers_7 rfl (q := 2) rfl ?_
    obtain ⟨y4, z5, h⟩ := bd_e h
    refine zx_callS (As := [.int x2]) hG mf_X10_isHandler cs_X10_100 ⟨by decide, by decide⟩ rfl rfl (Nat.le_of_ble_eq_true rfl) (s_X10_isHandler hG _ _ _ z5) (Nat.le_of_ble_eq_true rfl) dX10_setHandlers_8 ?_
    by_cases c6 : ¬ y4 = 0
    · have h := it_t c6 h
      refine zx_if_ne_t (tgt := 22) dX10_setHandlers_11 (by decide) c6 ?_
      refine zx_aload_n dX10_setHandlers_22 rfl (q := 0) rfl ?_
      obtain ⟨h7, h⟩ := ck_e h
      obtain ⟨p8, h9, h⟩ := bd_e h
      refine zx_getR hG fl_X10_10 h7 h9 dX10_setHandlers_23 ?_
      obtain ⟨h10, h⟩ := ck_e h
      refine zx_getI hG fl_X10_36 h10 dX10_setHandlers_26 ?_
      by_cases c11 : (mI μ p8 12) ≤ 0
      · have h := it_t c11 h
        refine zx_if_le_t (tgt := 40) dX10_setHandlers_29 (by decide) c11 ?_
        refine zx_bipush (v := 64) dX10_setHandlers_40 iv_bipush_64 ?_
        refine zx_aload_n dX10_setHandlers_42 rfl (q := 0) rfl ?_
        obtain ⟨p12, h13, h⟩ := bd_e h
        refine zx_getR hG fl_X10_10 h7 h13 dX10_setHandlers_43 ?_
        obtain ⟨h14, h⟩ := ck_e h
        obtain ⟨p15, h16, h⟩ := bd_e h
        refine zx_getR hG fl_X10_78 h14 h16 dX10_setHandlers_46 ?_
        obtain ⟨h17, h⟩ := ck_e h
        refine zx_getI hG fl_X10_103 h17 dX10_setHandlers_49 ?_
        refine zx_imul dX10_setHandlers_52 ?_
        refine zx_aload_n dX10_setHandlers_53 rfl (q := 0) rfl ?_
        obtain ⟨p18, h19, h⟩ := bd_e h
        refine zx_getR hG fl_X10_10 h7 h19 dX10_setHandlers_54 ?_
        obtain ⟨h20, h⟩ := ck_e h
        obtain ⟨p21, h22, h⟩ := bd_e h
        refine zx_getR hG fl_X10_78 h20 h22 dX10_setHandlers_57 ?_
        obtain ⟨h23, h⟩ := ck_e h
        refine zx_getI hG fl_X10_106 h23 dX10_setHandlers_60 ?_
        refine zx_iadd dX10_setHandlers_63 ?_
        refine zx_istore_n (L' := [(3, .int ((64 * (mI μ p15 3)) + (mI μ p21 4))), (0, .ref a0), (1, .int x1), (2, .int x2)]) dX10_setHandlers_64 rfl (by decide) rfl ?_
        refine zx_aload_n dX10_setHandlers_65 rfl (q := 1) rfl ?_
        obtain ⟨p24, h25, h⟩ := bd_e h
        refine zx_getR hG fl_X10_10 h7 h25 dX10_setHandlers_66 ?_
        obtain ⟨h26, h⟩ := ck_e h
        obtain ⟨p27, h28, h⟩ := bd_e h
        refine zx_getR hG fl_X10_78 h26 h28 dX10_setHandlers_69 ?_
        refine zx_iload_n dX10_setHandlers_72 rfl (q := 2) rfl ?_
        obtain ⟨h29, h⟩ := ck_e h
        refine zx_putI hG fl_X10_103 fn_10_3 h29 dX10_setHandlers_73 ?_
        obtain ⟨μ30, e32, h⟩ := zlm_e h
        refine zx_mem e32 ?_
        have e31 : mK μ30 = mK μ := (congrArg mK e32).trans rfl
        refine zx_aload_n dX10_setHandlers_76 rfl (q := 1) rfl ?_
        obtain ⟨p33, h34, h⟩ := bd_e h
        refine zx_getR hG fl_X10_10 (kp_o (e31) h7) h34 dX10_setHandlers_77 ?_
        obtain ⟨h35, h⟩ := ck_e h
        obtain ⟨p36, h37, h⟩ := bd_e h
        refine zx_getR hG fl_X10_78 h35 h37 dX10_setHandlers_80 ?_
        refine zx_iload_n dX10_setHandlers_83 rfl (q := 3) rfl ?_
        obtain ⟨h38, h⟩ := ck_e h
        refine zx_putI hG fl_X10_106 fn_10_4 h38 dX10_setHandlers_84 ?_
        obtain ⟨μ39, e41, h⟩ := zlm_e h
        refine zx_mem e41 ?_
        have e40 : mK μ39 = mK μ30 := (congrArg mK e41).trans rfl
        refine zx_iload_n dX10_setHandlers_87 rfl (q := 0) rfl ?_
        cases h
        exact zx_iret dX10_setHandlers_88 rfl
      · have h := it_f c11 h
        refine zx_if_le_f (tgt := 40) dX10_setHandlers_29 (by decide) c11 ?_
        cases h
        exact zx_throw hG xt_X10_40_42 (by decide) (by decide) (Nat.le_of_ble_eq_true rfl) dX10_setHandlers_32 dX10_setHandlers_35 dX10_setHandlers_36 dX10_setHandlers_39
    · have h := it_f c6 h
      refine zx_if_ne_f (tgt := 22) dX10_setHandlers_11 (by decide) (Classical.not_not.mp c6) ?_
      refine zx_sub (L' := []) [] rfl ?_
      exact s_X10_setHandlers_b14 hG _ _ _ h
def f_X10_setTime_b21 (μ : Mm) : Option ((Int32 ⊕ String) × Mm) :=
  some (.inr "java/lang/IllegalArgumentException", bump μ 6)
def f_X10_setTime (a0 : Nat) (x1 : Int32) (x2 : Int32) (μ : Mm) : Option ((Int32 ⊕ String) × Mm) :=
  if x1 < 0 then
    f_X10_setTime_b21 μ
  else
    if 16 ≤ x1 then
      f_X10_setTime_b21 μ
    else
      if x2 < 1 then
        f_X10_setTime_b21 μ
      else
        if x2 ≤ 30 then
          ck (mK μ a0 = 111) <|
          bd (mR μ a0 0) fun p6 =>
          ck (mK μ p6 = 101) <|
          bd (mR μ p6 5) fun p9 =>
          ck (mK μ p9 = 108) <|
          bd (mR μ p9 1) fun p12 =>
          ck (isA 1 (mK μ p12)) <|
          ck (inb x1 (mL μ p12)) <|
          bd (mR μ a0 0) fun p16 =>
          ck (mK μ p16 = 101) <|
          bd (mR μ p16 5) fun p19 =>
          ck (mK μ p19 = 108) <|
          bd (mR μ p19 1) fun p22 =>
          ck (isA 1 (mK μ p22)) <|
          ck (inb x1 (mL μ p22)) <|
          zl (sI μ p22 (Int32.toNatClampNeg x1) x2) fun μ26 =>
          some (.inl (mI μ p12 (Int32.toNatClampNeg x1)), μ26)
        else
          f_X10_setTime_b21 μ
set_option maxRecDepth 100000 in
theorem s_X10_setTime_b21 {l : Launch} {G : Gt} (hG : Gok l G) (μ : Mm) (r : (Int32 ⊕ String)) (μ' : Mm) (h : f_X10_setTime_b21 μ = some (r, μ')) : ZX l G mX10_setTime 21 [] [] μ (rsI r) μ' := by
  unfold f_X10_setTime_b21 at h
  cases h
  exact zx_throw hG xt_X10_23_25 (by decide) (by decide) (Nat.le_of_ble_eq_true rfl) dX10_setTime_21 dX10_setTime_24 dX10_setTime_25 dX10_setTime_28
set_option maxRecDepth 100000 in
theorem s_X10_setTime {l : Launch} {G : Gt} (hG : Gok l G) (a0 : Nat) (x1 : Int32) (x2 : Int32) (μ : Mm) (r : (Int32 ⊕ String)) (μ' : Mm) (h : f_X10_setTime a0 x1 x2 μ = some (r, μ')) : ZX l G mX10_setTime 0 [(0, .ref a0), (1, .int x1), (2, .int x2)] [] μ (rsI r) μ' := by
  unfold f_X10_setTime at h
  refine zx_iload_n dX10_setTime_0 rfl (q := 1) rfl ?_
  by_cases c1 : x1 < 0
  · have h := it_t c1 h
    refine zx_if_lt_t (tgt := 21) dX10_setTime_1 (by decide) c1 ?_
    refine zx_sub (L' := []) [] rfl ?_
    exact s_X10_setTime_b21 hG _ _ _ h
  · have h := it_f c1 h
    refine zx_if_lt_f (tgt := 21) dX10_setTime_1 (by decide) c1 ?_
    refine zx_iload_n dX10_setTime_4 rfl (q := 1) rfl ?_
    refine zx_bipush (v := 16) dX10_setTime_5 iv_bipush_16 ?_
    by_cases c2 : 16 ≤ x1
    · have h := it_t c2 h
      refine zx_icmp_ge_t (tgt := 21) dX10_setTime_7 (by decide) c2 ?_
      refine zx_sub (L' := []) [] rfl ?_
      exact s_X10_setTime_b21 hG _ _ _ h
    · have h := it_f c2 h
      refine zx_icmp_ge_f (tgt := 21) dX10_setTime_7 (by decide) c2 ?_
      refine zx_iload_n dX10_setTime_10 rfl (q := 2) rfl ?_
      refine zx_iconst (v := 1) dX10_setTime_11 iv_iconst_1 ?_
      by_cases c3 : x2 < 1
      · have h := it_t c3 h
        refine zx_icmp_lt_t (tgt := 21) dX10_setTime_12 (by decide) c3 ?_
        refine zx_sub (L' := []) [] rfl ?_
        exact s_X10_setTime_b21 hG _ _ _ h
      · have h := it_f c3 h
        refine zx_icmp_lt_f (tgt := 21) dX10_setTime_12 (by decide) c3 ?_
        refine zx_iload_n dX10_setTime_15 rfl (q := 2) rfl ?_
        refine zx_bipush (v := 30) dX10_setTime_16 iv_bipush_30 ?_
        by_cases c4 : x2 ≤ 30
        · have h := it_t c4 h
          refine zx_icmp_le_t (tgt := 29) dX10_setTime_18 (by decide) c4 ?_
          refine zx_aload_n dX10_setTime_29 rfl (q := 0) rfl ?_
          obtain ⟨h5, h⟩ := ck_e h
          obtain ⟨p6, h7, h⟩ := bd_e h
          refine zx_getR hG fl_X10_10 h5 h7 dX10_setTime_30 ?_
          obtain ⟨h8, h⟩ := ck_e h
          obtain ⟨p9, h10, h⟩ := bd_e h
          refine zx_getR hG fl_X10_109 h8 h10 dX10_setTime_33 ?_
          obtain ⟨h11, h⟩ := ck_e h
          obtain ⟨p12, h13, h⟩ := bd_e h
          refine zx_getR hG fl_X10_113 h11 h13 dX10_setTime_36 ?_
          refine zx_iload_n dX10_setTime_39 rfl (q := 1) rfl ?_
          obtain ⟨h14, h⟩ := ck_e h
          obtain ⟨h15, h⟩ := ck_e h
          refine zx_iald hG rfl (h14).1 (h14).2 (inb_e h15) dX10_setTime_40 ?_
          refine zx_istore_n (L' := [(3, .int (mI μ p12 (Int32.toNatClampNeg x1))), (0, .ref a0), (1, .int x1), (2, .int x2)]) dX10_setTime_41 rfl (by decide) rfl ?_
          refine zx_aload_n dX10_setTime_42 rfl (q := 1) rfl ?_
          obtain ⟨p16, h17, h⟩ := bd_e h
          refine zx_getR hG fl_X10_10 h5 h17 dX10_setTime_43 ?_
          obtain ⟨h18, h⟩ := ck_e h
          obtain ⟨p19, h20, h⟩ := bd_e h
          refine zx_getR hG fl_X10_109 h18 h20 dX10_setTime_46 ?_
          obtain ⟨h21, h⟩ := ck_e h
          obtain ⟨p22, h23, h⟩ := bd_e h
          refine zx_getR hG fl_X10_113 h21 h23 dX10_setTime_49 ?_
          refine zx_iload_n dX10_setTime_52 rfl (q := 2) rfl ?_
          refine zx_iload_n dX10_setTime_53 rfl (q := 3) rfl ?_
          obtain ⟨h24, h⟩ := ck_e h
          obtain ⟨h25, h⟩ := ck_e h
          refine zx_iast hG rfl (h24).1 (h24).2 (inb_e h25) dX10_setTime_54 ?_
          obtain ⟨μ26, e28, h⟩ := zlm_e h
          refine zx_mem e28 ?_
          have e27 : mK μ26 = mK μ := (congrArg mK e28).trans rfl
          refine zx_iload_n dX10_setTime_55 rfl (q := 0) rfl ?_
          cases h
          exact zx_iret dX10_setTime_56 rfl
        · have h := it_f c4 h
          refine zx_icmp_le_f (tgt := 29) dX10_setTime_18 (by decide) c4 ?_
          refine zx_sub (L' := []) [] rfl ?_
          exact s_X10_setTime_b21 hG _ _ _ h
def f_X10_interrupt (a0 : Nat) (μ : Mm) : Option (Int32 × Mm) :=
  ck (mK μ a0 = 111) <|
  bd (mR μ a0 0) fun p2 =>
  ck (mK μ p2 = 101) <|
  bd (mR μ a0 0) fun p5 =>
  ck (mK μ p5 = 101) <|
  zl (sI μ p5 14 1) fun μ8 =>
  ck (zb (zb (mI μ p2 14)) = (zb (mI μ p2 14))) <|
  some (zb (mI μ p2 14), μ8)
set_option maxRecDepth 100000 in
theorem s_X10_interrupt {l : Launch} {G : Gt} (hG : Gok l G) (a0 : Nat) (μ : Mm) (r : Int32) (μ' : Mm) (h : f_X10_interrupt a0 μ = some (r, μ')) : ZX l G mX10_interrupt 0 [(0, .ref a0)] [] μ (.inl (some (.int r))) μ' := by
  unfold f_X10_interrupt at h
  refine zx_aload_n dX10_interrupt_0 rfl (q := 0) rfl ?_
  obtain ⟨h1, h⟩ := ck_e h
  obtain ⟨p2, h3, h⟩ := bd_e h
  refine zx_getR hG fl_X10_10 h1 h3 dX10_interrupt_1 ?_
  obtain ⟨h4, h⟩ := ck_e h
  refine zx_getZ hG fl_X10_118 h4 dX10_interrupt_4 ?_
  refine zx_istore_n (L' := [(1, .int (zb (mI μ p2 14))), (0, .ref a0)]) dX10_interrupt_7 rfl (by decide) rfl ?_
  refine zx_aload_n dX10_interrupt_8 rfl (q := 1) rfl ?_
  obtain ⟨p5, h6, h⟩ := bd_e h
  refine zx_getR hG fl_X10_10 h1 h6 dX10_interrupt_9 ?_
  refine zx_iconst (v := 1) dX10_interrupt_12 iv_iconst_1 ?_
  obtain ⟨h7, h⟩ := ck_e h
  refine zx_putZ hG fl_X10_118 fn_1_14 h7 zb_1 dX10_interrupt_13 ?_
  obtain ⟨μ8, e10, h⟩ := zlm_e h
  refine zx_mem e10 ?_
  have e9 : mK μ8 = mK μ := (congrArg mK e10).trans rfl
  refine zx_iload_n dX10_interrupt_16 rfl (q := 0) rfl ?_
  obtain ⟨h11, h⟩ := ck_e h
  cases h
  exact zx_zretZ dX10_interrupt_17 rfl h11
def f_J9_floorMod_7cf53 (x0 : Int32) (x1 : Int32) : Option Int32 :=
  ck (¬ (x1 : Int32) = 0) <|
  if 0 ≤ (x0 ^^^ x1) then
    some (x0 - x0 / x1 * x1)
  else
    if (x0 - x0 / x1 * x1) = 0 then
      some (x0 - x0 / x1 * x1)
    else
      some ((x0 - x0 / x1 * x1) + x1)
set_option maxRecDepth 100000 in
theorem s_J9_floorMod_7cf53 {l : Launch} {G : Gt} (hG : Gok l G) (x0 : Int32) (x1 : Int32) (μ : Mm) (r : Int32) (h : f_J9_floorMod_7cf53 x0 x1 = some r) : ZX l G mJ9_floorMod_7cf53 0 [(0, .int x0), (1, .int x1)] [] μ (.inl (some (.int r))) μ := by
  unfold f_J9_floorMod_7cf53 at h
  refine zx_iload_n dJ9_floorMod_7cf53_0 rfl (q := 0) rfl ?_
  refine zx_iload_n dJ9_floorMod_7cf53_1 rfl (q := 1) rfl ?_
  obtain ⟨h1, h⟩ := ck_e h
  refine zx_irem dJ9_floorMod_7cf53_2 h1 ?_
  refine zx_istore_n (L' := [(2, .int (x0 - x0 / x1 * x1)), (0, .int x0), (1, .int x1)]) dJ9_floorMod_7cf53_3 rfl (by decide) rfl ?_
  refine zx_iload_n dJ9_floorMod_7cf53_4 rfl (q := 1) rfl ?_
  refine zx_iload_n dJ9_floorMod_7cf53_5 rfl (q := 2) rfl ?_
  refine zx_ixor dJ9_floorMod_7cf53_6 ?_
  by_cases c2 : 0 ≤ (x0 ^^^ x1)
  · have h := it_t c2 h
    refine zx_if_ge_t (tgt := 18) dJ9_floorMod_7cf53_7 (by decide) c2 ?_
    refine zx_iload_n dJ9_floorMod_7cf53_18 rfl (q := 0) rfl ?_
    cases h
    exact zx_iret dJ9_floorMod_7cf53_19 rfl
  · have h := it_f c2 h
    refine zx_if_ge_f (tgt := 18) dJ9_floorMod_7cf53_7 (by decide) c2 ?_
    refine zx_iload_n dJ9_floorMod_7cf53_10 rfl (q := 0) rfl ?_
    by_cases c3 : (x0 - x0 / x1 * x1) = 0
    · have h := it_t c3 h
      refine zx_if_eq_t (tgt := 18) dJ9_floorMod_7cf53_11 (by decide) c3 ?_
      refine zx_iload_n dJ9_floorMod_7cf53_18 rfl (q := 0) rfl ?_
      cases h
      exact zx_iret dJ9_floorMod_7cf53_19 rfl
    · have h := it_f c3 h
      refine zx_if_eq_f (tgt := 18) dJ9_floorMod_7cf53_11 (by decide) c3 ?_
      refine zx_iload_n dJ9_floorMod_7cf53_14 rfl (q := 0) rfl ?_
      refine zx_iload_n dJ9_floorMod_7cf53_15 rfl (q := 2) rfl ?_
      refine zx_iadd dJ9_floorMod_7cf53_16 ?_
      cases h
      exact zx_iret dJ9_floorMod_7cf53_17 rfl
def f_X7_comeIn_b73 (k4 : Nat → Int32 → Int32 → Int32 → Mm → Option (Unit × Mm)) (a0 : Nat) (x1 : Int32) (x2 : Int32) (x3 : Int32) (μ : Mm) : Option (Unit × Mm) :=
  k4 a0 x1 x2 (x3 + 1) μ
def f_X7_comeIn_b79 (a0 : Nat) (x2 : Int32) (μ : Mm) : Option (Unit × Mm) :=
  ck (mK μ a0 = 108) <|
  zl (sI μ a0 4 x2) fun μ48 =>
  some ((), μ48)
def f_X7_comeIn_b4 : Nat → Nat → Int32 → Int32 → Int32 → Mm → Option (Unit × Mm)
  | 0, _, _, _, _, _ => none
  | n + 1, a0, x1, x2, x3, μ =>
  ck (mK μ a0 = 108) <|
  if (mI μ a0 4) ≤ x3 then
    f_X7_comeIn_b79 a0 x2 μ
  else
    bd (mR μ a0 3) fun p3 =>
    ck (isA 1 (mK μ p3)) <|
    ck (inb x3 (mL μ p3)) <|
    if ¬ (mI μ p3 (Int32.toNatClampNeg x3)) = x1 then
      bd (mR μ a0 2) fun p8 =>
      bd (mR μ a0 2) fun p10 =>
      ck (isA 1 (mK μ p10)) <|
      ck (inb x3 (mL μ p10)) <|
      ck (isA 1 (mK μ p8)) <|
      ck (inb x2 (mL μ p8)) <|
      zl (sI μ p8 (Int32.toNatClampNeg x2) (mI μ p10 (Int32.toNatClampNeg x3))) fun μ16 =>
      bd (mR μ16 a0 3) fun p19 =>
      bd (mR μ16 a0 3) fun p21 =>
      ck (isA 1 (mK μ16 p21)) <|
      ck (inb x3 (mL μ16 p21)) <|
      ck (isA 1 (mK μ16 p19)) <|
      ck (inb x2 (mL μ16 p19)) <|
      zl (sI μ16 p19 (Int32.toNatClampNeg x2) (mI μ16 p21 (Int32.toNatClampNeg x3))) fun μ27 =>
      f_X7_comeIn_b73 (f_X7_comeIn_b4 n) a0 x1 (x2 + 1) x3 μ27
    else
      bd (mR μ a0 0) fun p30 =>
      bd (mR μ a0 2) fun p32 =>
      ck (isA 1 (mK μ p32)) <|
      ck (inb x3 (mL μ p32)) <|
      bd (f_J9_floorMod_7cf53 (mI μ p32 (Int32.toNatClampNeg x3)) 4) fun y36 =>
      bd (mR μ a0 2) fun p38 =>
      ck (isA 1 (mK μ p38)) <|
      ck (inb x3 (mL μ p38)) <|
      ck (isA 1 (mK μ p30)) <|
      ck (inb y36 (mL μ p30)) <|
      zl (sI μ p30 (Int32.toNatClampNeg y36) (mI μ p38 (Int32.toNatClampNeg x3))) fun μ44 =>
      f_X7_comeIn_b73 (f_X7_comeIn_b4 n) a0 x1 x2 x3 μ44
def f_X7_comeIn (a0 : Nat) (x1 : Int32) (μ : Mm) : Option (Unit × Mm) :=
  f_X7_comeIn_b4 5000 a0 x1 0 0 μ
set_option maxRecDepth 100000 in
theorem s_X7_comeIn_b73 {l : Launch} {G : Gt} (hG : Gok l G) {k4 : Nat → Int32 → Int32 → Int32 → Mm → Option (Unit × Mm)} (hk4 : ∀ (a0 : Nat) (x1 : Int32) (x2 : Int32) (x3 : Int32) (μ : Mm) (r : Unit) (μ' : Mm), k4 a0 x1 x2 x3 μ = some (r, μ') → ZX l G mX7_comeIn 4 [(0, .ref a0), (1, .int x1), (2, .int x2), (3, .int x3)] [] μ (.inl none) μ') (a0 : Nat) (x1 : Int32) (x2 : Int32) (x3 : Int32) (μ : Mm) (r : Unit) (μ' : Mm) (h : f_X7_comeIn_b73 k4 a0 x1 x2 x3 μ = some (r, μ')) : ZX l G mX7_comeIn 73 [(0, .ref a0), (1, .int x1), (2, .int x2), (3, .int x3)] [] μ (.inl none) μ' := by
  unfold f_X7_comeIn_b73 at h
  refine zx_iinc (q := 3) (v := x3 + 1) (L' := [(3, .int (x3 + 1)), (0, .ref a0), (1, .int x1), (2, .int x2)]) dX7_comeIn_73 rfl rfl (by decide) rfl ?_
  refine zx_goto (tgt := 4) dX7_comeIn_76 (by decide) ?_
  refine zx_sub (L' := [(0, .ref a0), (1, .int x1), (2, .int x2), (3, .int (x3 + 1))]) [1, 2, 3, 0] rfl ?_
  exact hk4 _ _ _ _ _ _ _ h
set_option maxRecDepth 100000 in
theorem s_X7_comeIn_b79 {l : Launch} {G : Gt} (hG : Gok l G) (a0 : Nat) (x2 : Int32) (μ : Mm) (r : Unit) (μ' : Mm) (h : f_X7_comeIn_b79 a0 x2 μ = some (r, μ')) : ZX l G mX7_comeIn 79 [(0, .ref a0), (2, .int x2)] [] μ (.inl none) μ' := by
  unfold f_X7_comeIn_b79 at h
  refine zx_aload_n dX7_comeIn_79 rfl (q := 0) rfl ?_
  refine zx_iload_n dX7_comeIn_80 rfl (q := 1) rfl ?_
  obtain ⟨h47, h⟩ := ck_e h
  refine zx_putI hG fl_X7_24 fn_8_4 h47 dX7_comeIn_81 ?_
  obtain ⟨μ48, e50, h⟩ := zlm_e h
  refine zx_mem e50 ?_
  have e49 : mK μ48 = mK μ := (congrArg mK e50).trans rfl
  cases h
  exact zx_vret dX7_comeIn_84 rfl
set_option maxRecDepth 100000 in
theorem s_X7_comeIn_b4 {l : Launch} {G : Gt} (hG : Gok l G) : ∀ (n : Nat) (a0 : Nat) (x1 : Int32) (x2 : Int32) (x3 : Int32) (μ : Mm) (r : Unit) (μ' : Mm), f_X7_comeIn_b4 n a0 x1 x2 x3 μ = some (r, μ') → ZX l G mX7_comeIn 4 [(0, .ref a0), (1, .int x1), (2, .int x2), (3, .int x3)] [] μ (.inl none) μ' := by
  intro n
  induction n with
  | zero =>
    intro a0 x1 x2 x3 μ r μ' h
    cases h
  | succ n ih =>
    intro a0 x1 x2 x3 μ r μ' h
    unfold f_X7_comeIn_b4 at h
    refine zx_iload_n dX7_comeIn_4 rfl (q := 3) rfl ?_
    refine zx_aload_n dX7_comeIn_5 rfl (q := 0) rfl ?_
    obtain ⟨h1, h⟩ := ck_e h
    refine zx_getI hG fl_X7_24 h1 dX7_comeIn_6 ?_
    by_cases c2 : (mI μ a0 4) ≤ x3
    · have h := it_t c2 h
      refine zx_icmp_ge_t (tgt := 79) dX7_comeIn_9 (by decide) c2 ?_
      refine zx_sub (L' := [(0, .ref a0), (2, .int x2)]) [0, 2] rfl ?_
      exact s_X7_comeIn_b79 hG _ _ _ _ _ h
    · have h := it_f c2 h
      refine zx_icmp_ge_f (tgt := 79) dX7_comeIn_9 (by decide) c2 ?_
      refine zx_aload_n dX7_comeIn_12 rfl (q := 0) rfl ?_
      obtain ⟨p3, h4, h⟩ := bd_e h
      refine zx_getR hG fl_X7_21 h1 h4 dX7_comeIn_13 ?_
      refine zx_iload_n dX7_comeIn_16 rfl (q := 3) rfl ?_
      obtain ⟨h5, h⟩ := ck_e h
      obtain ⟨h6, h⟩ := ck_e h
      refine zx_iald hG rfl (h5).1 (h5).2 (inb_e h6) dX7_comeIn_17 ?_
      refine zx_iload_n dX7_comeIn_18 rfl (q := 1) rfl ?_
      by_cases c7 : ¬ (mI μ p3 (Int32.toNatClampNeg x3)) = x1
      · have h := it_t c7 h
        refine zx_icmp_ne_t (tgt := 46) dX7_comeIn_19 (by decide) c7 ?_
        refine zx_aload_n dX7_comeIn_46 rfl (q := 0) rfl ?_
        obtain ⟨p8, h9, h⟩ := bd_e h
        refine zx_getR hG fl_X7_18 h1 h9 dX7_comeIn_47 ?_
        refine zx_iload_n dX7_comeIn_50 rfl (q := 2) rfl ?_
        refine zx_aload_n dX7_comeIn_51 rfl (q := 0) rfl ?_
        obtain ⟨p10, h11, h⟩ := bd_e h
        refine zx_getR hG fl_X7_18 h1 h11 dX7_comeIn_52 ?_
        refine zx_iload_n dX7_comeIn_55 rfl (q := 3) rfl ?_
        obtain ⟨h12, h⟩ := ck_e h
        obtain ⟨h13, h⟩ := ck_e h
        refine zx_iald hG rfl (h12).1 (h12).2 (inb_e h13) dX7_comeIn_56 ?_
        obtain ⟨h14, h⟩ := ck_e h
        obtain ⟨h15, h⟩ := ck_e h
        refine zx_iast hG rfl (h14).1 (h14).2 (inb_e h15) dX7_comeIn_57 ?_
        obtain ⟨μ16, e18, h⟩ := zlm_e h
        refine zx_mem e18 ?_
        have e17 : mK μ16 = mK μ := (congrArg mK e18).trans rfl
        refine zx_aload_n dX7_comeIn_58 rfl (q := 0) rfl ?_
        obtain ⟨p19, h20, h⟩ := bd_e h
        refine zx_getR hG fl_X7_21 (kp_o (e17) h1) h20 dX7_comeIn_59 ?_
        refine zx_iload_n dX7_comeIn_62 rfl (q := 2) rfl ?_
        refine zx_aload_n dX7_comeIn_63 rfl (q := 0) rfl ?_
        obtain ⟨p21, h22, h⟩ := bd_e h
        refine zx_getR hG fl_X7_21 (kp_o (e17) h1) h22 dX7_comeIn_64 ?_
        refine zx_iload_n dX7_comeIn_67 rfl (q := 3) rfl ?_
        obtain ⟨h23, h⟩ := ck_e h
        obtain ⟨h24, h⟩ := ck_e h
        refine zx_iald hG rfl (h23).1 (h23).2 (inb_e h24) dX7_comeIn_68 ?_
        obtain ⟨h25, h⟩ := ck_e h
        obtain ⟨h26, h⟩ := ck_e h
        refine zx_iast hG rfl (h25).1 (h25).2 (inb_e h26) dX7_comeIn_69 ?_
        obtain ⟨μ27, e29, h⟩ := zlm_e h
        refine zx_mem e29 ?_
        have e28 : mK μ27 = mK μ16 := (congrArg mK e29).trans rfl
        refine zx_iinc (q := 2) (v := x2 + 1) (L' := [(2, .int (x2 + 1)), (0, .ref a0), (1, .int x1), (3, .int x3)]) dX7_comeIn_70 rfl rfl (by decide) rfl ?_
        refine zx_sub (L' := [(0, .ref a0), (1, .int x1), (2, .int (x2 + 1)), (3, .int x3)]) [1, 2, 0, 3] rfl ?_
        exact s_X7_comeIn_b73 hG ih _ _ _ _ _ _ _ h
      · have h := it_f c7 h
        refine zx_icmp_ne_f (tgt := 46) dX7_comeIn_19 (by decide) (Classical.not_not.mp c7) ?_
        refine zx_aload_n dX7_comeIn_22 rfl (q := 0) rfl ?_
        obtain ⟨p30, h31, h⟩ := bd_e h
        refine zx_getR hG fl_X7_9 h1 h31 dX7_comeIn_23 ?_
        refine zx_aload_n dX7_comeIn_26 rfl (q := 0) rfl ?_
        obtain ⟨p32, h33, h⟩ := bd_e h
        refine zx_getR hG fl_X7_18 h1 h33 dX7_comeIn_27 ?_
        refine zx_iload_n dX7_comeIn_30 rfl (q := 3) rfl ?_
        obtain ⟨h34, h⟩ := ck_e h
        obtain ⟨h35, h⟩ := ck_e h
        refine zx_iald hG rfl (h34).1 (h34).2 (inb_e h35) dX7_comeIn_31 ?_
        refine zx_iconst (v := 4) dX7_comeIn_32 iv_iconst_4 ?_
        obtain ⟨y36, z37, h⟩ := bd_e h
        refine zx_callS (As := [.int (mI μ p32 (Int32.toNatClampNeg x3)), .int 4]) hG mf_J9_floorMod_7cf53 cs_X7_28 ⟨by decide, by decide⟩ rfl rfl (Nat.le_of_ble_eq_true rfl) (s_J9_floorMod_7cf53 hG _ _ _ _ z37) (Nat.le_of_ble_eq_true rfl) dX7_comeIn_33 ?_
        refine zx_aload_n dX7_comeIn_36 rfl (q := 0) rfl ?_
        obtain ⟨p38, h39, h⟩ := bd_e h
        refine zx_getR hG fl_X7_18 h1 h39 dX7_comeIn_37 ?_
        refine zx_iload_n dX7_comeIn_40 rfl (q := 3) rfl ?_
        obtain ⟨h40, h⟩ := ck_e h
        obtain ⟨h41, h⟩ := ck_e h
        refine zx_iald hG rfl (h40).1 (h40).2 (inb_e h41) dX7_comeIn_41 ?_
        obtain ⟨h42, h⟩ := ck_e h
        obtain ⟨h43, h⟩ := ck_e h
        refine zx_iast hG rfl (h42).1 (h42).2 (inb_e h43) dX7_comeIn_42 ?_
        obtain ⟨μ44, e46, h⟩ := zlm_e h
        refine zx_mem e46 ?_
        have e45 : mK μ44 = mK μ := (congrArg mK e46).trans rfl
        refine zx_goto (tgt := 73) dX7_comeIn_43 (by decide) ?_
        exact s_X7_comeIn_b73 hG ih _ _ _ _ _ _ _ h
set_option maxRecDepth 100000 in
theorem s_X7_comeIn {l : Launch} {G : Gt} (hG : Gok l G) (a0 : Nat) (x1 : Int32) (μ : Mm) (r : Unit) (μ' : Mm) (h : f_X7_comeIn a0 x1 μ = some (r, μ')) : ZX l G mX7_comeIn 0 [(0, .ref a0), (1, .int x1)] [] μ (.inl none) μ' := by
  unfold f_X7_comeIn at h
  refine zx_iconst (v := 0) dX7_comeIn_0 iv_iconst_0 ?_
  refine zx_istore_n (L' := [(2, .int 0), (0, .ref a0), (1, .int x1)]) dX7_comeIn_1 rfl (by decide) rfl ?_
  refine zx_iconst (v := 0) dX7_comeIn_2 iv_iconst_0 ?_
  refine zx_istore_n (L' := [(3, .int 0), (2, .int 0), (0, .ref a0), (1, .int x1)]) dX7_comeIn_3 rfl (by decide) rfl ?_
  refine zx_sub (L' := [(0, .ref a0), (1, .int x1), (2, .int 0), (3, .int 0)]) [2, 3, 1, 0] rfl ?_
  exact s_X7_comeIn_b4 hG 5000 _ _ _ _ _ _ _ h
def f_J15_checkIndex_7cf53 (x0 : Int32) (x1 : Int32) : Option Int32 :=
  bd (f_J3_checkIndex_8e157_n2 x0 x1) fun y1 =>
  some y1
set_option maxRecDepth 100000 in
theorem s_J15_checkIndex_7cf53 {l : Launch} {G : Gt} (hG : Gok l G) (x0 : Int32) (x1 : Int32) (μ : Mm) (r : Int32) (h : f_J15_checkIndex_7cf53 x0 x1 = some r) : ZX l G mJ15_checkIndex_7cf53 0 [(0, .int x0), (1, .int x1)] [] μ (.inl (some (.int r))) μ := by
  unfold f_J15_checkIndex_7cf53 at h
  refine zx_iload_n dJ15_checkIndex_7cf53_0 rfl (q := 0) rfl ?_
  refine zx_iload_n dJ15_checkIndex_7cf53_1 rfl (q := 1) rfl ?_
  refine zx_null dJ15_checkIndex_7cf53_2 ?_
  obtain ⟨y1, z2, h⟩ := bd_e h
  refine zx_callS (As := [.int x0, .int x1, .null]) hG mf_J3_checkIndex_8e157 cs_J15_105 ⟨by decide, by decide⟩ rfl rfl (Nat.le_of_ble_eq_true rfl) (s_J3_checkIndex_8e157_n2 hG _ _ _ _ z2) (Nat.le_of_ble_eq_true rfl) dJ15_checkIndex_7cf53_3 ?_
  cases h
  exact zx_iret dJ15_checkIndex_7cf53_6 rfl
def f_Jx4a65c_elementData_915e3 (a0 : Nat) (x1 : Int32) (μ : Mm) : Option Nat :=
  ck (mK μ a0 = 100) <|
  bd (mR μ a0 1) fun p2 =>
  ck (isA56 (mK μ p2)) <|
  ck (inb x1 (mL μ p2)) <|
  bd (mR μ p2 (Int32.toNatClampNeg x1)) fun p6 =>
  some p6
set_option maxRecDepth 100000 in
theorem s_Jx4a65c_elementData_915e3 {l : Launch} {G : Gt} (hG : Gok l G) (a0 : Nat) (x1 : Int32) (μ : Mm) (r : Nat) (h : f_Jx4a65c_elementData_915e3 a0 x1 μ = some r) : ZX l G mJx4a65c_elementData_915e3 0 [(0, .ref a0), (1, .int x1)] [] μ (.inl (some (.ref r))) μ := by
  unfold f_Jx4a65c_elementData_915e3 at h
  refine zx_aload_n dJx4a65c_elementData_915e3_0 rfl (q := 0) rfl ?_
  obtain ⟨h1, h⟩ := ck_e h
  obtain ⟨p2, h3, h⟩ := bd_e h
  refine zx_getR hG fl_Jx4a65c_9 h1 h3 dJx4a65c_elementData_915e3_1 ?_
  refine zx_iload_n dJx4a65c_elementData_915e3_4 rfl (q := 1) rfl ?_
  obtain ⟨h4, h⟩ := ck_e h
  obtain ⟨h5, h⟩ := ck_e h
  obtain ⟨p6, h7, h⟩ := bd_e h
  refine zx_aald hG rfl (h4).1 (h4).2 (inb_e h5) h7 dJx4a65c_elementData_915e3_5 ?_
  cases h
  exact zx_aret dJx4a65c_elementData_915e3_6 rfl (Or.inl ⟨_, rfl⟩)
def f_Jx4a65c_get_915e3 (a0 : Nat) (x1 : Int32) (μ : Mm) : Option Nat :=
  ck (mK μ a0 = 100) <|
  bd (f_J15_checkIndex_7cf53 x1 (mI μ a0 2)) fun y2 =>
  bd (f_Jx4a65c_elementData_915e3 a0 x1 μ) fun p4 =>
  some p4
set_option maxRecDepth 100000 in
theorem s_Jx4a65c_get_915e3 {l : Launch} {G : Gt} (hG : Gok l G) (a0 : Nat) (x1 : Int32) (μ : Mm) (r : Nat) (h : f_Jx4a65c_get_915e3 a0 x1 μ = some r) : ZX l G mJx4a65c_get_915e3 0 [(0, .ref a0), (1, .int x1)] [] μ (.inl (some (.ref r))) μ := by
  unfold f_Jx4a65c_get_915e3 at h
  refine zx_iload_n dJx4a65c_get_915e3_0 rfl (q := 1) rfl ?_
  refine zx_aload_n dJx4a65c_get_915e3_1 rfl (q := 0) rfl ?_
  obtain ⟨h1, h⟩ := ck_e h
  refine zx_getI hG fl_Jx4a65c_48 h1 dJx4a65c_get_915e3_2 ?_
  obtain ⟨y2, z3, h⟩ := bd_e h
  refine zx_callS (As := [.int x1, .int (mI μ a0 2)]) hG mf_J15_checkIndex_7cf53 cs_Jx4a65c_118 ⟨by decide, by decide⟩ rfl rfl (Nat.le_of_ble_eq_true rfl) (s_J15_checkIndex_7cf53 hG _ _ _ _ z3) (Nat.le_of_ble_eq_true rfl) dJx4a65c_get_915e3_5 ?_
  refine zx_pop dJx4a65c_get_915e3_8 rfl ?_
  refine zx_aload_n dJx4a65c_get_915e3_9 rfl (q := 0) rfl ?_
  refine zx_iload_n dJx4a65c_get_915e3_10 rfl (q := 1) rfl ?_
  obtain ⟨p4, z5, h⟩ := bd_e h
  refine zx_callV (As := [.int x1]) hG mf_Jx4a65c_elementData_915e3 cv_Jx4a65c_123 h1 ⟨by decide, by decide⟩ rfl rfl (Nat.le_of_ble_eq_true rfl) (s_Jx4a65c_elementData_915e3 hG _ _ _ _ z5) (Nat.le_of_ble_eq_true rfl) dJx4a65c_get_915e3_11 ?_
  cases h
  exact zx_aret dJx4a65c_get_915e3_14 rfl (Or.inl ⟨_, rfl⟩)
def f_X7_isWaitedFor_b2 : Nat → Nat → Int32 → Int32 → Mm → Option Int32
  | 0, _, _, _, _ => none
  | n + 1, a0, x1, x2, μ =>
  ck (mK μ a0 = 108) <|
  if (mI μ a0 4) ≤ x2 then
    some 0
  else
    bd (mR μ a0 2) fun p3 =>
    ck (isA 1 (mK μ p3)) <|
    ck (inb x2 (mL μ p3)) <|
    if ¬ (mI μ p3 (Int32.toNatClampNeg x2)) = x1 then
      f_X7_isWaitedFor_b2 n a0 x1 (x2 + 1) μ
    else
      some 1
def f_X7_isWaitedFor (a0 : Nat) (x1 : Int32) (μ : Mm) : Option Int32 :=
  f_X7_isWaitedFor_b2 5000 a0 x1 0 μ
set_option maxRecDepth 100000 in
theorem s_X7_isWaitedFor_b2 {l : Launch} {G : Gt} (hG : Gok l G) : ∀ (n : Nat) (a0 : Nat) (x1 : Int32) (x2 : Int32) (μ : Mm) (r : Int32), f_X7_isWaitedFor_b2 n a0 x1 x2 μ = some r → ZX l G mX7_isWaitedFor 2 [(0, .ref a0), (1, .int x1), (2, .int x2)] [] μ (.inl (some (.int r))) μ := by
  intro n
  induction n with
  | zero =>
    intro a0 x1 x2 μ r h
    cases h
  | succ n ih =>
    intro a0 x1 x2 μ r h
    unfold f_X7_isWaitedFor_b2 at h
    refine zx_iload_n dX7_isWaitedFor_2 rfl (q := 2) rfl ?_
    refine zx_aload_n dX7_isWaitedFor_3 rfl (q := 0) rfl ?_
    obtain ⟨h1, h⟩ := ck_e h
    refine zx_getI hG fl_X7_24 h1 dX7_isWaitedFor_4 ?_
    by_cases c2 : (mI μ a0 4) ≤ x2
    · have h := it_t c2 h
      refine zx_icmp_ge_t (tgt := 28) dX7_isWaitedFor_7 (by decide) c2 ?_
      refine zx_iconst (v := 0) dX7_isWaitedFor_28 iv_iconst_0 ?_
      cases h
      exact zx_zretZ dX7_isWaitedFor_29 rfl zb_0
    · have h := it_f c2 h
      refine zx_icmp_ge_f (tgt := 28) dX7_isWaitedFor_7 (by decide) c2 ?_
      refine zx_aload_n dX7_isWaitedFor_10 rfl (q := 0) rfl ?_
      obtain ⟨p3, h4, h⟩ := bd_e h
      refine zx_getR hG fl_X7_18 h1 h4 dX7_isWaitedFor_11 ?_
      refine zx_iload_n dX7_isWaitedFor_14 rfl (q := 2) rfl ?_
      obtain ⟨h5, h⟩ := ck_e h
      obtain ⟨h6, h⟩ := ck_e h
      refine zx_iald hG rfl (h5).1 (h5).2 (inb_e h6) dX7_isWaitedFor_15 ?_
      refine zx_iload_n dX7_isWaitedFor_16 rfl (q := 1) rfl ?_
      by_cases c7 : ¬ (mI μ p3 (Int32.toNatClampNeg x2)) = x1
      · have h := it_t c7 h
        refine zx_icmp_ne_t (tgt := 22) dX7_isWaitedFor_17 (by decide) c7 ?_
        refine zx_iinc (q := 2) (v := x2 + 1) (L' := [(2, .int (x2 + 1)), (0, .ref a0), (1, .int x1)]) dX7_isWaitedFor_22 rfl rfl (by decide) rfl ?_
        refine zx_goto (tgt := 2) dX7_isWaitedFor_25 (by decide) ?_
        refine zx_sub (L' := [(0, .ref a0), (1, .int x1), (2, .int (x2 + 1))]) [1, 2, 0] rfl ?_
        exact ih _ _ _ _ _ h
      · have h := it_f c7 h
        refine zx_icmp_ne_f (tgt := 22) dX7_isWaitedFor_17 (by decide) (Classical.not_not.mp c7) ?_
        refine zx_iconst (v := 1) dX7_isWaitedFor_20 iv_iconst_1 ?_
        cases h
        exact zx_zretZ dX7_isWaitedFor_21 rfl zb_1
set_option maxRecDepth 100000 in
theorem s_X7_isWaitedFor {l : Launch} {G : Gt} (hG : Gok l G) (a0 : Nat) (x1 : Int32) (μ : Mm) (r : Int32) (h : f_X7_isWaitedFor a0 x1 μ = some r) : ZX l G mX7_isWaitedFor 0 [(0, .ref a0), (1, .int x1)] [] μ (.inl (some (.int r))) μ := by
  unfold f_X7_isWaitedFor at h
  refine zx_iconst (v := 0) dX7_isWaitedFor_0 iv_iconst_0 ?_
  refine zx_istore_n (L' := [(2, .int 0), (0, .ref a0), (1, .int x1)]) dX7_isWaitedFor_1 rfl (by decide) rfl ?_
  refine zx_sub (L' := [(0, .ref a0), (1, .int x1), (2, .int 0)]) [1, 2, 0] rfl ?_
  exact s_X7_isWaitedFor_b2 hG 5000 _ _ _ _ _ h
def f_X0_doAnswers_b69 (k13 : Nat → Int32 → Mm → Option (Unit × Mm)) (a0 : Nat) (x1 : Int32) (μ : Mm) : Option (Unit × Mm) :=
  k13 a0 (x1 + 1) μ
def f_X0_doAnswers_b13 : Nat → Nat → Int32 → Mm → Option (Unit × Mm)
  | 0, _, _, _ => none
  | n + 1, a0, x1, μ =>
  ck (mK μ a0 = 101) <|
  bd (mR μ a0 7) fun p9 =>
  ck (mK μ p9 = 100) <|
  bd (f_Jx4a65c_size_8abf5 p9 μ) fun y12 =>
  if y12 ≤ x1 then
    some ((), μ)
  else
    bd (mR μ a0 7) fun p15 =>
    ck (mK μ p15 = 100) <|
    bd (f_Jx4a65c_get_915e3 p15 x1 μ) fun p18 =>
    ck (mK μ p18 = 104) <|
    if ¬ (zc (mI μ p18 5)) = 109 then
      f_X0_doAnswers_b69 (f_X0_doAnswers_b13 n) a0 x1 μ
    else
      bd (mR μ a0 5) fun p22 =>
      ck (¬ (4 : Int32) = 0) <|
      ck (mK μ p22 = 108) <|
      bd (f_X7_isWaitedFor p22 ((mI μ p18 11) / 4) μ) fun y26 =>
      if ¬ y26 = 0 then
        f_X0_doAnswers_b69 (f_X0_doAnswers_b13 n) a0 x1 μ
      else
        zl (sI μ p18 10 (mI μ a0 12)) fun μ29 =>
        f_X0_doAnswers_b69 (f_X0_doAnswers_b13 n) a0 x1 μ29
def f_X0_doAnswers (a0 : Nat) (μ : Mm) : Option (Unit × Mm) :=
  ck (mK μ a0 = 101) <|
  bd (mR μ a0 5) fun p2 =>
  ck (mK μ p2 = 108) <|
  cl (f_X7_comeIn p2 (mI μ a0 12) μ) fun _ μ7 =>
  f_X0_doAnswers_b13 5000 a0 0 μ7
set_option maxRecDepth 100000 in
theorem s_X0_doAnswers_b69 {l : Launch} {G : Gt} (hG : Gok l G) {k13 : Nat → Int32 → Mm → Option (Unit × Mm)} (hk13 : ∀ (a0 : Nat) (x1 : Int32) (μ : Mm) (r : Unit) (μ' : Mm), k13 a0 x1 μ = some (r, μ') → ZX l G mX0_doAnswers 13 [(0, .ref a0), (1, .int x1)] [] μ (.inl none) μ') (a0 : Nat) (x1 : Int32) (μ : Mm) (r : Unit) (μ' : Mm) (h : f_X0_doAnswers_b69 k13 a0 x1 μ = some (r, μ')) : ZX l G mX0_doAnswers 69 [(0, .ref a0), (1, .int x1)] [] μ (.inl none) μ' := by
  unfold f_X0_doAnswers_b69 at h
  refine zx_iinc (q := 1) (v := x1 + 1) (L' := [(1, .int (x1 + 1)), (0, .ref a0)]) dX0_doAnswers_69 rfl rfl (by decide) rfl ?_
  refine zx_goto (tgt := 13) dX0_doAnswers_72 (by decide) ?_
  refine zx_sub (L' := [(0, .ref a0), (1, .int (x1 + 1))]) [1, 0] rfl ?_
  exact hk13 _ _ _ _ _ h
set_option maxRecDepth 100000 in
theorem s_X0_doAnswers_b13 {l : Launch} {G : Gt} (hG : Gok l G) : ∀ (n : Nat) (a0 : Nat) (x1 : Int32) (μ : Mm) (r : Unit) (μ' : Mm), f_X0_doAnswers_b13 n a0 x1 μ = some (r, μ') → ZX l G mX0_doAnswers 13 [(0, .ref a0), (1, .int x1)] [] μ (.inl none) μ' := by
  intro n
  induction n with
  | zero =>
    intro a0 x1 μ r μ' h
    cases h
  | succ n ih =>
    intro a0 x1 μ r μ' h
    unfold f_X0_doAnswers_b13 at h
    refine zx_iload_n dX0_doAnswers_13 rfl (q := 1) rfl ?_
    refine zx_aload_n dX0_doAnswers_14 rfl (q := 0) rfl ?_
    obtain ⟨h8, h⟩ := ck_e h
    obtain ⟨p9, h10, h⟩ := bd_e h
    refine zx_getR hG fl_X0_60 h8 h10 dX0_doAnswers_15 ?_
    obtain ⟨h11, h⟩ := ck_e h
    obtain ⟨y12, z13, h⟩ := bd_e h
    refine zx_callV (As := []) hG mf_Jx4a65c_size_8abf5 cv_X0_123 h11 ⟨by decide, by decide⟩ rfl rfl (Nat.le_of_ble_eq_true rfl) (s_Jx4a65c_size_8abf5 hG _ _ _ z13) (Nat.le_of_ble_eq_true rfl) dX0_doAnswers_18 ?_
    by_cases c14 : y12 ≤ x1
    · have h := it_t c14 h
      refine zx_icmp_ge_t (tgt := 75) dX0_doAnswers_21 (by decide) c14 ?_
      cases h
      exact zx_vret dX0_doAnswers_75 rfl
    · have h := it_f c14 h
      refine zx_icmp_ge_f (tgt := 75) dX0_doAnswers_21 (by decide) c14 ?_
      refine zx_aload_n dX0_doAnswers_24 rfl (q := 0) rfl ?_
      obtain ⟨p15, h16, h⟩ := bd_e h
      refine zx_getR hG fl_X0_60 h8 h16 dX0_doAnswers_25 ?_
      refine zx_iload_n dX0_doAnswers_28 rfl (q := 1) rfl ?_
      obtain ⟨h17, h⟩ := ck_e h
      obtain ⟨p18, z19, h⟩ := bd_e h
      refine zx_callV (As := [.int x1]) hG mf_Jx4a65c_get_915e3 cv_X0_127 h17 ⟨by decide, by decide⟩ rfl rfl (Nat.le_of_ble_eq_true rfl) (s_Jx4a65c_get_915e3 hG _ _ _ _ z19) (Nat.le_of_ble_eq_true rfl) dX0_doAnswers_29 ?_
      obtain ⟨h20, h⟩ := ck_e h
      refine zx_castO hG kt_X0_131 h20 dX0_doAnswers_32 ?_
      refine zx_astore_n (L' := [(2, .ref p18), (0, .ref a0), (1, .int x1)]) dX0_doAnswers_35 rfl (by decide) rfl ?_
      refine zx_aload_n dX0_doAnswers_36 rfl (q := 0) rfl ?_
      refine zx_getC hG fl_X0_133 h20 dX0_doAnswers_37 ?_
      refine zx_bipush (v := 109) dX0_doAnswers_40 iv_bipush_109 ?_
      by_cases c21 : ¬ (zc (mI μ p18 5)) = 109
      · have h := it_t c21 h
        refine zx_icmp_ne_t (tgt := 69) dX0_doAnswers_42 (by decide) c21 ?_
        refine zx_sub (L' := [(0, .ref a0), (1, .int x1)]) [1, 2] rfl ?_
        exact s_X0_doAnswers_b69 hG ih _ _ _ _ _ h
      · have h := it_f c21 h
        refine zx_icmp_ne_f (tgt := 69) dX0_doAnswers_42 (by decide) (Classical.not_not.mp c21) ?_
        refine zx_aload_n dX0_doAnswers_45 rfl (q := 1) rfl ?_
        obtain ⟨p22, h23, h⟩ := bd_e h
        refine zx_getR hG fl_X0_49 h8 h23 dX0_doAnswers_46 ?_
        refine zx_aload_n dX0_doAnswers_49 rfl (q := 0) rfl ?_
        refine zx_getI hG fl_X0_137 h20 dX0_doAnswers_50 ?_
        refine zx_iconst (v := 4) dX0_doAnswers_53 iv_iconst_4 ?_
        obtain ⟨h24, h⟩ := ck_e h
        refine zx_idiv dX0_doAnswers_54 h24 ?_
        obtain ⟨h25, h⟩ := ck_e h
        obtain ⟨y26, z27, h⟩ := bd_e h
        refine zx_callV (As := [.int ((mI μ p18 11) / 4)]) hG mf_X7_isWaitedFor cv_X0_140 h25 ⟨by decide, by decide⟩ rfl rfl (Nat.le_of_ble_eq_true rfl) (s_X7_isWaitedFor hG _ _ _ _ z27) (Nat.le_of_ble_eq_true rfl) dX0_doAnswers_55 ?_
        by_cases c28 : ¬ y26 = 0
        · have h := it_t c28 h
          refine zx_if_ne_t (tgt := 69) dX0_doAnswers_58 (by decide) c28 ?_
          refine zx_sub (L' := [(0, .ref a0), (1, .int x1)]) [1, 2] rfl ?_
          exact s_X0_doAnswers_b69 hG ih _ _ _ _ _ h
        · have h := it_f c28 h
          refine zx_if_ne_f (tgt := 69) dX0_doAnswers_58 (by decide) (Classical.not_not.mp c28) ?_
          refine zx_aload_n dX0_doAnswers_61 rfl (q := 0) rfl ?_
          refine zx_aload_n dX0_doAnswers_62 rfl (q := 1) rfl ?_
          refine zx_getI hG fl_X0_77 h8 dX0_doAnswers_63 ?_
          refine zx_putI hG fl_X0_144 fn_4_10 h20 dX0_doAnswers_66 ?_
          obtain ⟨μ29, e31, h⟩ := zlm_e h
          refine zx_mem e31 ?_
          have e30 : mK μ29 = mK μ := (congrArg mK e31).trans rfl
          refine zx_sub (L' := [(0, .ref a0), (1, .int x1)]) [1, 2] rfl ?_
          exact s_X0_doAnswers_b69 hG ih _ _ _ _ _ h
set_option maxRecDepth 100000 in
theorem s_X0_doAnswers {l : Launch} {G : Gt} (hG : Gok l G) (a0 : Nat) (μ : Mm) (r : Unit) (μ' : Mm) (h : f_X0_doAnswers a0 μ = some (r, μ')) : ZX l G mX0_doAnswers 0 [(0, .ref a0)] [] μ (.inl none) μ' := by
  unfold f_X0_doAnswers at h
  refine zx_aload_n dX0_doAnswers_0 rfl (q := 0) rfl ?_
  obtain ⟨h1, h⟩ := ck_e h
  obtain ⟨p2, h3, h⟩ := bd_e h
  refine zx_getR hG fl_X0_49 h1 h3 dX0_doAnswers_1 ?_
  refine zx_aload_n dX0_doAnswers_4 rfl (q := 0) rfl ?_
  refine zx_getI hG fl_X0_77 h1 dX0_doAnswers_5 ?_
  obtain ⟨h4, h⟩ := ck_e h
  obtain ⟨uu5, μ7, z6, h⟩ := cl_e h
  refine zx_callV (As := [.int (mI μ a0 12)]) hG mf_X7_comeIn cv_X0_119 h4 ⟨by decide, by decide⟩ rfl rfl (Nat.le_of_ble_eq_true rfl) (s_X7_comeIn hG _ _ _ _ _ z6) (Nat.le_of_ble_eq_true rfl) dX0_doAnswers_8 ?_
  refine zx_iconst (v := 0) dX0_doAnswers_11 iv_iconst_0 ?_
  refine zx_istore_n (L' := [(1, .int 0), (0, .ref a0)]) dX0_doAnswers_12 rfl (by decide) rfl ?_
  refine zx_sub (L' := [(0, .ref a0), (1, .int 0)]) [1, 0] rfl ?_
  exact s_X0_doAnswers_b13 hG 5000 _ _ _ _ _ h
