theorem dJxa1e45_init_da8c8_0 : decode cJxa1e45_init_da8c8 0 = .ok (.aload_n 0, 1) := by decide +kernel
theorem dJxa1e45_init_da8c8_1 : decode cJxa1e45_init_da8c8 1 = .ok (.invokespecial 1, 3) := by decide +kernel
theorem dJxa1e45_init_da8c8_4 : decode cJxa1e45_init_da8c8 4 = .ok (.return_, 1) := by decide +kernel
theorem dJxc12de_init_da8c8_0 : decode cJxc12de_init_da8c8 0 = .ok (.aload_n 0, 1) := by decide +kernel
theorem dJxc12de_init_da8c8_1 : decode cJxc12de_init_da8c8 1 = .ok (.invokespecial 1, 3) := by decide +kernel
theorem dJxc12de_init_da8c8_4 : decode cJxc12de_init_da8c8 4 = .ok (.aload_n 0, 1) := by decide +kernel
theorem dJxc12de_init_da8c8_5 : decode cJxc12de_init_da8c8 5 = .ok (.iconst 0, 1) := by decide +kernel
theorem dJxc12de_init_da8c8_6 : decode cJxc12de_init_da8c8 6 = .ok (.putfield 7, 3) := by decide +kernel
theorem dJxc12de_init_da8c8_9 : decode cJxc12de_init_da8c8 9 = .ok (.return_, 1) := by decide +kernel
theorem dJx4a65c_init_da8c8_0 : decode cJx4a65c_init_da8c8 0 = .ok (.aload_n 0, 1) := by decide +kernel
theorem dJx4a65c_init_da8c8_1 : decode cJx4a65c_init_da8c8 1 = .ok (.invokespecial 1, 3) := by decide +kernel
theorem dJx4a65c_init_da8c8_4 : decode cJx4a65c_init_da8c8 4 = .ok (.aload_n 0, 1) := by decide +kernel
theorem dJx4a65c_init_da8c8_5 : decode cJx4a65c_init_da8c8 5 = .ok (.getstatic 39, 3) := by decide +kernel
theorem dJx4a65c_init_da8c8_8 : decode cJx4a65c_init_da8c8 8 = .ok (.putfield 9, 3) := by decide +kernel
theorem dJx4a65c_init_da8c8_11 : decode cJx4a65c_init_da8c8 11 = .ok (.return_, 1) := by decide +kernel
theorem dX9_init_0 : decode cX9_init 0 = .ok (.aload_n 0, 1) := by decide +kernel
theorem dX9_init_1 : decode cX9_init 1 = .ok (.invokespecial 3, 3) := by decide +kernel
theorem dX9_init_4 : decode cX9_init 4 = .ok (.aload_n 0, 1) := by decide +kernel
theorem dX9_init_5 : decode cX9_init 5 = .ok (.iconst 2, 1) := by decide +kernel
theorem dX9_init_6 : decode cX9_init 6 = .ok (.putfield 9, 3) := by decide +kernel
theorem dX9_init_9 : decode cX9_init 9 = .ok (.aload_n 0, 1) := by decide +kernel
theorem dX9_init_10 : decode cX9_init 10 = .ok (.bipush 8, 2) := by decide +kernel
theorem dX9_init_12 : decode cX9_init 12 = .ok (.putfield 15, 3) := by decide +kernel
theorem dX9_init_15 : decode cX9_init 15 = .ok (.aload_n 0, 1) := by decide +kernel
theorem dX9_init_16 : decode cX9_init 16 = .ok (.iconst 4, 1) := by decide +kernel
theorem dX9_init_17 : decode cX9_init 17 = .ok (.putfield 18, 3) := by decide +kernel
theorem dX9_init_20 : decode cX9_init 20 = .ok (.aload_n 0, 1) := by decide +kernel
theorem dX9_init_21 : decode cX9_init 21 = .ok (.iconst (-1), 1) := by decide +kernel
theorem dX9_init_22 : decode cX9_init 22 = .ok (.putfield 21, 3) := by decide +kernel
theorem dX9_init_25 : decode cX9_init 25 = .ok (.aload_n 0, 1) := by decide +kernel
theorem dX9_init_26 : decode cX9_init 26 = .ok (.iconst (-1), 1) := by decide +kernel
theorem dX9_init_27 : decode cX9_init 27 = .ok (.putfield 24, 3) := by decide +kernel
theorem dX9_init_30 : decode cX9_init 30 = .ok (.return_, 1) := by decide +kernel
theorem dX1_init_0 : decode cX1_init 0 = .ok (.aload_n 0, 1) := by decide +kernel
theorem dX1_init_1 : decode cX1_init 1 = .ok (.invokespecial 3, 3) := by decide +kernel
theorem dX1_init_4 : decode cX1_init 4 = .ok (.aload_n 0, 1) := by decide +kernel
theorem dX1_init_5 : decode cX1_init 5 = .ok (.ldc 9, 2) := by decide +kernel
theorem dX1_init_7 : decode cX1_init 7 = .ok (.invokevirtual 11, 3) := by decide +kernel
theorem dX1_init_10 : decode cX1_init 10 = .ok (.newarray .int, 2) := by decide +kernel
theorem dX1_init_12 : decode cX1_init 12 = .ok (.putfield 17, 3) := by decide +kernel
theorem dX1_init_15 : decode cX1_init 15 = .ok (.aload_n 0, 1) := by decide +kernel
theorem dX1_init_16 : decode cX1_init 16 = .ok (.iconst 0, 1) := by decide +kernel
theorem dX1_init_17 : decode cX1_init 17 = .ok (.putfield 23, 3) := by decide +kernel
theorem dX1_init_20 : decode cX1_init 20 = .ok (.aload_n 0, 1) := by decide +kernel
theorem dX1_init_21 : decode cX1_init 21 = .ok (.iconst 0, 1) := by decide +kernel
theorem dX1_init_22 : decode cX1_init 22 = .ok (.putfield 27, 3) := by decide +kernel
theorem dX1_init_25 : decode cX1_init 25 = .ok (.aload_n 0, 1) := by decide +kernel
theorem dX1_init_26 : decode cX1_init 26 = .ok (.iconst 0, 1) := by decide +kernel
theorem dX1_init_27 : decode cX1_init 27 = .ok (.putfield 30, 3) := by decide +kernel
theorem dX1_init_30 : decode cX1_init 30 = .ok (.aload_n 0, 1) := by decide +kernel
theorem dX1_init_31 : decode cX1_init 31 = .ok (.iconst 0, 1) := by decide +kernel
theorem dX1_init_32 : decode cX1_init 32 = .ok (.putfield 33, 3) := by decide +kernel
theorem dX1_init_35 : decode cX1_init 35 = .ok (.aload_n 0, 1) := by decide +kernel
theorem dX1_init_36 : decode cX1_init 36 = .ok (.iconst 0, 1) := by decide +kernel
theorem dX1_init_37 : decode cX1_init 37 = .ok (.putfield 36, 3) := by decide +kernel
theorem dX1_init_40 : decode cX1_init 40 = .ok (.aload_n 0, 1) := by decide +kernel
theorem dX1_init_41 : decode cX1_init 41 = .ok (.iconst 0, 1) := by decide +kernel
theorem dX1_init_42 : decode cX1_init 42 = .ok (.putfield 39, 3) := by decide +kernel
theorem dX1_init_45 : decode cX1_init 45 = .ok (.return_, 1) := by decide +kernel
theorem dX8_init_0 : decode cX8_init 0 = .ok (.aload_n 0, 1) := by decide +kernel
theorem dX8_init_1 : decode cX8_init 1 = .ok (.invokespecial 3, 3) := by decide +kernel
theorem dX8_init_4 : decode cX8_init 4 = .ok (.aload_n 0, 1) := by decide +kernel
theorem dX8_init_5 : decode cX8_init 5 = .ok (.bipush 8, 2) := by decide +kernel
theorem dX8_init_7 : decode cX8_init 7 = .ok (.newarray .int, 2) := by decide +kernel
theorem dX8_init_9 : decode cX8_init 9 = .ok (.putfield 9, 3) := by decide +kernel
theorem dX8_init_12 : decode cX8_init 12 = .ok (.aload_n 0, 1) := by decide +kernel
theorem dX8_init_13 : decode cX8_init 13 = .ok (.bipush 64, 2) := by decide +kernel
theorem dX8_init_15 : decode cX8_init 15 = .ok (.newarray .int, 2) := by decide +kernel
theorem dX8_init_17 : decode cX8_init 17 = .ok (.putfield 15, 3) := by decide +kernel
theorem dX8_init_20 : decode cX8_init 20 = .ok (.aload_n 0, 1) := by decide +kernel
theorem dX8_init_21 : decode cX8_init 21 = .ok (.iconst 0, 1) := by decide +kernel
theorem dX8_init_22 : decode cX8_init 22 = .ok (.putfield 18, 3) := by decide +kernel
theorem dX8_init_25 : decode cX8_init 25 = .ok (.aload_n 0, 1) := by decide +kernel
theorem dX8_init_26 : decode cX8_init 26 = .ok (.iconst 0, 1) := by decide +kernel
theorem dX8_init_27 : decode cX8_init 27 = .ok (.putfield 22, 3) := by decide +kernel
theorem dX8_init_30 : decode cX8_init 30 = .ok (.aload_n 0, 1) := by decide +kernel
theorem dX8_init_31 : decode cX8_init 31 = .ok (.iconst 0, 1) := by decide +kernel
theorem dX8_init_32 : decode cX8_init 32 = .ok (.putfield 26, 3) := by decide +kernel
theorem dX8_init_35 : decode cX8_init 35 = .ok (.return_, 1) := by decide +kernel
theorem dX5_putBehind_0 : decode cX5_putBehind 0 = .ok (.aload_n 0, 1) := by decide +kernel
theorem dX5_putBehind_1 : decode cX5_putBehind 1 = .ok (.getfield 28, 3) := by decide +kernel
theorem dX5_putBehind_4 : decode cX5_putBehind 4 = .ok (.bipush 24, 2) := by decide +kernel
theorem dX5_putBehind_6 : decode cX5_putBehind 6 = .ok (.if_icmp .ge 23, 3) := by decide +kernel
theorem dX5_putBehind_9 : decode cX5_putBehind 9 = .ok (.aload_n 0, 1) := by decide +kernel
theorem dX5_putBehind_10 : decode cX5_putBehind 10 = .ok (.getfield 25, 3) := by decide +kernel
theorem dX5_putBehind_13 : decode cX5_putBehind 13 = .ok (.aload_n 0, 1) := by decide +kernel
theorem dX5_putBehind_14 : decode cX5_putBehind 14 = .ok (.getfield 28, 3) := by decide +kernel
theorem dX5_putBehind_17 : decode cX5_putBehind 17 = .ok (.iload_n 1, 1) := by decide +kernel
theorem dX5_putBehind_18 : decode cX5_putBehind 18 = .ok (.iastore, 1) := by decide +kernel
theorem dX5_putBehind_19 : decode cX5_putBehind 19 = .ok (.aload_n 0, 1) := by decide +kernel
theorem dX5_putBehind_20 : decode cX5_putBehind 20 = .ok (.dup, 1) := by decide +kernel
theorem dX5_putBehind_21 : decode cX5_putBehind 21 = .ok (.getfield 28, 3) := by decide +kernel
theorem dX5_putBehind_24 : decode cX5_putBehind 24 = .ok (.iconst 1, 1) := by decide +kernel
theorem dX5_putBehind_25 : decode cX5_putBehind 25 = .ok (.iadd, 1) := by decide +kernel
theorem dX5_putBehind_26 : decode cX5_putBehind 26 = .ok (.putfield 28, 3) := by decide +kernel
theorem dX5_putBehind_29 : decode cX5_putBehind 29 = .ok (.return_, 1) := by decide +kernel
theorem dX5_fillLine_0 : decode cX5_fillLine 0 = .ok (.aload_n 0, 1) := by decide +kernel
theorem dX5_fillLine_1 : decode cX5_fillLine 1 = .ok (.iload_n 1, 1) := by decide +kernel
theorem dX5_fillLine_2 : decode cX5_fillLine 2 = .ok (.putfield 32, 3) := by decide +kernel
theorem dX5_fillLine_5 : decode cX5_fillLine 5 = .ok (.aload_n 0, 1) := by decide +kernel
theorem dX5_fillLine_6 : decode cX5_fillLine 6 = .ok (.iconst 0, 1) := by decide +kernel
theorem dX5_fillLine_7 : decode cX5_fillLine 7 = .ok (.putfield 28, 3) := by decide +kernel
theorem dX5_fillLine_10 : decode cX5_fillLine 10 = .ok (.bipush 8, 2) := by decide +kernel
theorem dX5_fillLine_12 : decode cX5_fillLine 12 = .ok (.istore_n 2, 1) := by decide +kernel
theorem dX5_fillLine_13 : decode cX5_fillLine 13 = .ok (.iload_n 2, 1) := by decide +kernel
theorem dX5_fillLine_14 : decode cX5_fillLine 14 = .ok (.aload_n 0, 1) := by decide +kernel
theorem dX5_fillLine_15 : decode cX5_fillLine 15 = .ok (.getfield 32, 3) := by decide +kernel
theorem dX5_fillLine_18 : decode cX5_fillLine 18 = .ok (.if_icmp .ge 14, 3) := by decide +kernel
theorem dX5_fillLine_21 : decode cX5_fillLine 21 = .ok (.aload_n 0, 1) := by decide +kernel
theorem dX5_fillLine_22 : decode cX5_fillLine 22 = .ok (.iload_n 2, 1) := by decide +kernel
theorem dX5_fillLine_23 : decode cX5_fillLine 23 = .ok (.invokevirtual 39, 3) := by decide +kernel
theorem dX5_fillLine_26 : decode cX5_fillLine 26 = .ok (.iinc 2 1, 3) := by decide +kernel
theorem dX5_fillLine_29 : decode cX5_fillLine 29 = .ok (.goto (-16), 3) := by decide +kernel
theorem dX5_fillLine_32 : decode cX5_fillLine 32 = .ok (.return_, 1) := by decide +kernel
theorem dX5_init_0 : decode cX5_init 0 = .ok (.aload_n 0, 1) := by decide +kernel
theorem dX5_init_1 : decode cX5_init 1 = .ok (.invokespecial 3, 3) := by decide +kernel
theorem dX5_init_4 : decode cX5_init 4 = .ok (.aload_n 0, 1) := by decide +kernel
theorem dX5_init_5 : decode cX5_init 5 = .ok (.bipush 8, 2) := by decide +kernel
theorem dX5_init_7 : decode cX5_init 7 = .ok (.newarray .int, 2) := by decide +kernel
theorem dX5_init_9 : decode cX5_init 9 = .ok (.putfield 9, 3) := by decide +kernel
theorem dX5_init_12 : decode cX5_init 12 = .ok (.aload_n 0, 1) := by decide +kernel
theorem dX5_init_13 : decode cX5_init 13 = .ok (.bipush 8, 2) := by decide +kernel
theorem dX5_init_15 : decode cX5_init 15 = .ok (.newarray .int, 2) := by decide +kernel
theorem dX5_init_17 : decode cX5_init 17 = .ok (.putfield 15, 3) := by decide +kernel
theorem dX5_init_20 : decode cX5_init 20 = .ok (.aload_n 0, 1) := by decide +kernel
theorem dX5_init_21 : decode cX5_init 21 = .ok (.bipush 24, 2) := by decide +kernel
theorem dX5_init_23 : decode cX5_init 23 = .ok (.newarray .int, 2) := by decide +kernel
theorem dX5_init_25 : decode cX5_init 25 = .ok (.putfield 18, 3) := by decide +kernel
theorem dX5_init_28 : decode cX5_init 28 = .ok (.aload_n 0, 1) := by decide +kernel
theorem dX5_init_29 : decode cX5_init 29 = .ok (.bipush 24, 2) := by decide +kernel
theorem dX5_init_31 : decode cX5_init 31 = .ok (.newarray .boolean, 2) := by decide +kernel
theorem dX5_init_33 : decode cX5_init 33 = .ok (.putfield 21, 3) := by decide +kernel
theorem dX5_init_36 : decode cX5_init 36 = .ok (.aload_n 0, 1) := by decide +kernel
theorem dX5_init_37 : decode cX5_init 37 = .ok (.bipush 24, 2) := by decide +kernel
theorem dX5_init_39 : decode cX5_init 39 = .ok (.newarray .int, 2) := by decide +kernel
theorem dX5_init_41 : decode cX5_init 41 = .ok (.putfield 25, 3) := by decide +kernel
theorem dX5_init_44 : decode cX5_init 44 = .ok (.aload_n 0, 1) := by decide +kernel
theorem dX5_init_45 : decode cX5_init 45 = .ok (.iconst 0, 1) := by decide +kernel
theorem dX5_init_46 : decode cX5_init 46 = .ok (.putfield 28, 3) := by decide +kernel
theorem dX5_init_49 : decode cX5_init 49 = .ok (.aload_n 0, 1) := by decide +kernel
theorem dX5_init_50 : decode cX5_init 50 = .ok (.iconst 0, 1) := by decide +kernel
theorem dX5_init_51 : decode cX5_init 51 = .ok (.putfield 32, 3) := by decide +kernel
theorem dX5_init_54 : decode cX5_init 54 = .ok (.iconst 0, 1) := by decide +kernel
theorem dX5_init_55 : decode cX5_init 55 = .ok (.istore_n 1, 1) := by decide +kernel
theorem dX5_init_56 : decode cX5_init 56 = .ok (.iload_n 1, 1) := by decide +kernel
theorem dX5_init_57 : decode cX5_init 57 = .ok (.bipush 8, 2) := by decide +kernel
theorem dX5_init_59 : decode cX5_init 59 = .ok (.if_icmp .ge 30, 3) := by decide +kernel
theorem dX5_init_62 : decode cX5_init 62 = .ok (.aload_n 0, 1) := by decide +kernel
theorem dX5_init_63 : decode cX5_init 63 = .ok (.getfield 9, 3) := by decide +kernel
theorem dX5_init_66 : decode cX5_init 66 = .ok (.iload_n 1, 1) := by decide +kernel
theorem dX5_init_67 : decode cX5_init 67 = .ok (.iload_n 1, 1) := by decide +kernel
theorem dX5_init_68 : decode cX5_init 68 = .ok (.iastore, 1) := by decide +kernel
theorem dX5_init_69 : decode cX5_init 69 = .ok (.aload_n 0, 1) := by decide +kernel
theorem dX5_init_70 : decode cX5_init 70 = .ok (.getfield 15, 3) := by decide +kernel
theorem dX5_init_73 : decode cX5_init 73 = .ok (.iload_n 1, 1) := by decide +kernel
theorem dX5_init_74 : decode cX5_init 74 = .ok (.iload_n 1, 1) := by decide +kernel
theorem dX5_init_75 : decode cX5_init 75 = .ok (.iastore, 1) := by decide +kernel
theorem dX5_init_76 : decode cX5_init 76 = .ok (.aload_n 0, 1) := by decide +kernel
theorem dX5_init_77 : decode cX5_init 77 = .ok (.getfield 21, 3) := by decide +kernel
theorem dX5_init_80 : decode cX5_init 80 = .ok (.iload_n 1, 1) := by decide +kernel
theorem dX5_init_81 : decode cX5_init 81 = .ok (.iconst 1, 1) := by decide +kernel
theorem dX5_init_82 : decode cX5_init 82 = .ok (.bastore, 1) := by decide +kernel
theorem dX5_init_83 : decode cX5_init 83 = .ok (.iinc 1 1, 3) := by decide +kernel
theorem dX5_init_86 : decode cX5_init 86 = .ok (.goto (-30), 3) := by decide +kernel
theorem dX5_init_89 : decode cX5_init 89 = .ok (.aload_n 0, 1) := by decide +kernel
theorem dX5_init_90 : decode cX5_init 90 = .ok (.bipush 16, 2) := by decide +kernel
theorem dX5_init_92 : decode cX5_init 92 = .ok (.invokevirtual 35, 3) := by decide +kernel
theorem dX5_init_95 : decode cX5_init 95 = .ok (.return_, 1) := by decide +kernel
theorem dX7_init_0 : decode cX7_init 0 = .ok (.aload_n 0, 1) := by decide +kernel
theorem dX7_init_1 : decode cX7_init 1 = .ok (.invokespecial 3, 3) := by decide +kernel
theorem dX7_init_4 : decode cX7_init 4 = .ok (.aload_n 0, 1) := by decide +kernel
theorem dX7_init_5 : decode cX7_init 5 = .ok (.iconst 4, 1) := by decide +kernel
theorem dX7_init_6 : decode cX7_init 6 = .ok (.newarray .int, 2) := by decide +kernel
theorem dX7_init_8 : decode cX7_init 8 = .ok (.putfield 9, 3) := by decide +kernel
theorem dX7_init_11 : decode cX7_init 11 = .ok (.aload_n 0, 1) := by decide +kernel
theorem dX7_init_12 : decode cX7_init 12 = .ok (.bipush 16, 2) := by decide +kernel
theorem dX7_init_14 : decode cX7_init 14 = .ok (.newarray .int, 2) := by decide +kernel
theorem dX7_init_16 : decode cX7_init 16 = .ok (.putfield 15, 3) := by decide +kernel
theorem dX7_init_19 : decode cX7_init 19 = .ok (.aload_n 0, 1) := by decide +kernel
theorem dX7_init_20 : decode cX7_init 20 = .ok (.iconst 2, 1) := by decide +kernel
theorem dX7_init_21 : decode cX7_init 21 = .ok (.newarray .int, 2) := by decide +kernel
theorem dX7_init_23 : decode cX7_init 23 = .ok (.putfield 18, 3) := by decide +kernel
theorem dX7_init_26 : decode cX7_init 26 = .ok (.aload_n 0, 1) := by decide +kernel
theorem dX7_init_27 : decode cX7_init 27 = .ok (.iconst 2, 1) := by decide +kernel
theorem dX7_init_28 : decode cX7_init 28 = .ok (.newarray .int, 2) := by decide +kernel
theorem dX7_init_30 : decode cX7_init 30 = .ok (.putfield 21, 3) := by decide +kernel
theorem dX7_init_33 : decode cX7_init 33 = .ok (.aload_n 0, 1) := by decide +kernel
theorem dX7_init_34 : decode cX7_init 34 = .ok (.iconst 0, 1) := by decide +kernel
theorem dX7_init_35 : decode cX7_init 35 = .ok (.putfield 24, 3) := by decide +kernel
theorem dX7_init_38 : decode cX7_init 38 = .ok (.iconst 0, 1) := by decide +kernel
theorem dX7_init_39 : decode cX7_init 39 = .ok (.istore_n 1, 1) := by decide +kernel
theorem dX7_init_40 : decode cX7_init 40 = .ok (.iload_n 1, 1) := by decide +kernel
theorem dX7_init_41 : decode cX7_init 41 = .ok (.iconst 4, 1) := by decide +kernel
theorem dX7_init_42 : decode cX7_init 42 = .ok (.if_icmp .ge 16, 3) := by decide +kernel
theorem dX7_init_45 : decode cX7_init 45 = .ok (.aload_n 0, 1) := by decide +kernel
theorem dX7_init_46 : decode cX7_init 46 = .ok (.getfield 9, 3) := by decide +kernel
theorem dX7_init_49 : decode cX7_init 49 = .ok (.iload_n 1, 1) := by decide +kernel
theorem dX7_init_50 : decode cX7_init 50 = .ok (.iconst (-1), 1) := by decide +kernel
theorem dX7_init_51 : decode cX7_init 51 = .ok (.iastore, 1) := by decide +kernel
theorem dX7_init_52 : decode cX7_init 52 = .ok (.iinc 1 1, 3) := by decide +kernel
theorem dX7_init_55 : decode cX7_init 55 = .ok (.goto (-15), 3) := by decide +kernel
theorem dX7_init_58 : decode cX7_init 58 = .ok (.iconst 0, 1) := by decide +kernel
theorem dX7_init_59 : decode cX7_init 59 = .ok (.istore_n 1, 1) := by decide +kernel
theorem dX7_init_60 : decode cX7_init 60 = .ok (.iload_n 1, 1) := by decide +kernel
theorem dX7_init_61 : decode cX7_init 61 = .ok (.bipush 16, 2) := by decide +kernel
theorem dX7_init_63 : decode cX7_init 63 = .ok (.if_icmp .ge 17, 3) := by decide +kernel
theorem dX7_init_66 : decode cX7_init 66 = .ok (.aload_n 0, 1) := by decide +kernel
theorem dX7_init_67 : decode cX7_init 67 = .ok (.getfield 15, 3) := by decide +kernel
theorem dX7_init_70 : decode cX7_init 70 = .ok (.iload_n 1, 1) := by decide +kernel
theorem dX7_init_71 : decode cX7_init 71 = .ok (.bipush 6, 2) := by decide +kernel
theorem dX7_init_73 : decode cX7_init 73 = .ok (.iastore, 1) := by decide +kernel
theorem dX7_init_74 : decode cX7_init 74 = .ok (.iinc 1 1, 3) := by decide +kernel
theorem dX7_init_77 : decode cX7_init 77 = .ok (.goto (-17), 3) := by decide +kernel
theorem dX7_init_80 : decode cX7_init 80 = .ok (.return_, 1) := by decide +kernel
theorem dX4_init_0 : decode cX4_init 0 = .ok (.aload_n 0, 1) := by decide +kernel
theorem dX4_init_1 : decode cX4_init 1 = .ok (.invokespecial 3, 3) := by decide +kernel
theorem dX4_init_4 : decode cX4_init 4 = .ok (.aload_n 0, 1) := by decide +kernel
theorem dX4_init_5 : decode cX4_init 5 = .ok (.new 9, 3) := by decide +kernel
theorem dX4_init_8 : decode cX4_init 8 = .ok (.dup, 1) := by decide +kernel
theorem dX4_init_9 : decode cX4_init 9 = .ok (.invokespecial 11, 3) := by decide +kernel
theorem dX4_init_12 : decode cX4_init 12 = .ok (.putfield 12, 3) := by decide +kernel
theorem dX4_init_15 : decode cX4_init 15 = .ok (.aload_n 0, 1) := by decide +kernel
theorem dX4_init_16 : decode cX4_init 16 = .ok (.bipush 16, 2) := by decide +kernel
theorem dX4_init_18 : decode cX4_init 18 = .ok (.newarray .int, 2) := by decide +kernel
theorem dX4_init_20 : decode cX4_init 20 = .ok (.putfield 18, 3) := by decide +kernel
theorem dX4_init_23 : decode cX4_init 23 = .ok (.aload_n 0, 1) := by decide +kernel
theorem dX4_init_24 : decode cX4_init 24 = .ok (.bipush 8, 2) := by decide +kernel
theorem dX4_init_26 : decode cX4_init 26 = .ok (.newarray .int, 2) := by decide +kernel
theorem dX4_init_28 : decode cX4_init 28 = .ok (.putfield 22, 3) := by decide +kernel
theorem dX4_init_31 : decode cX4_init 31 = .ok (.aload_n 0, 1) := by decide +kernel
theorem dX4_init_32 : decode cX4_init 32 = .ok (.iconst 0, 1) := by decide +kernel
theorem dX4_init_33 : decode cX4_init 33 = .ok (.newarray .int, 2) := by decide +kernel
theorem dX4_init_35 : decode cX4_init 35 = .ok (.putfield 25, 3) := by decide +kernel
theorem dX4_init_38 : decode cX4_init 38 = .ok (.aload_n 0, 1) := by decide +kernel
theorem dX4_init_39 : decode cX4_init 39 = .ok (.iconst 0, 1) := by decide +kernel
theorem dX4_init_40 : decode cX4_init 40 = .ok (.putfield 28, 3) := by decide +kernel
theorem dX4_init_43 : decode cX4_init 43 = .ok (.aload_n 0, 1) := by decide +kernel
theorem dX4_init_44 : decode cX4_init 44 = .ok (.iconst 0, 1) := by decide +kernel
theorem dX4_init_45 : decode cX4_init 45 = .ok (.putfield 32, 3) := by decide +kernel
theorem dX4_init_48 : decode cX4_init 48 = .ok (.aload_n 0, 1) := by decide +kernel
theorem dX4_init_49 : decode cX4_init 49 = .ok (.iconst 0, 1) := by decide +kernel
theorem dX4_init_50 : decode cX4_init 50 = .ok (.putfield 36, 3) := by decide +kernel
theorem dX4_init_53 : decode cX4_init 53 = .ok (.iconst 0, 1) := by decide +kernel
theorem dX4_init_54 : decode cX4_init 54 = .ok (.istore_n 1, 1) := by decide +kernel
theorem dX4_init_55 : decode cX4_init 55 = .ok (.iload_n 1, 1) := by decide +kernel
theorem dX4_init_56 : decode cX4_init 56 = .ok (.bipush 16, 2) := by decide +kernel
theorem dX4_init_58 : decode cX4_init 58 = .ok (.if_icmp .ge 16, 3) := by decide +kernel
theorem dX4_init_61 : decode cX4_init 61 = .ok (.aload_n 0, 1) := by decide +kernel
theorem dX4_init_62 : decode cX4_init 62 = .ok (.getfield 18, 3) := by decide +kernel
theorem dX4_init_65 : decode cX4_init 65 = .ok (.iload_n 1, 1) := by decide +kernel
theorem dX4_init_66 : decode cX4_init 66 = .ok (.iconst 1, 1) := by decide +kernel
theorem dX4_init_67 : decode cX4_init 67 = .ok (.iastore, 1) := by decide +kernel
theorem dX4_init_68 : decode cX4_init 68 = .ok (.iinc 1 1, 3) := by decide +kernel
theorem dX4_init_71 : decode cX4_init 71 = .ok (.goto (-16), 3) := by decide +kernel
theorem dX4_init_74 : decode cX4_init 74 = .ok (.iconst 0, 1) := by decide +kernel
theorem dX4_init_75 : decode cX4_init 75 = .ok (.istore_n 1, 1) := by decide +kernel
theorem dX4_init_76 : decode cX4_init 76 = .ok (.iload_n 1, 1) := by decide +kernel
theorem dX4_init_77 : decode cX4_init 77 = .ok (.bipush 8, 2) := by decide +kernel
theorem dX4_init_79 : decode cX4_init 79 = .ok (.if_icmp .ge 16, 3) := by decide +kernel
theorem dX4_init_82 : decode cX4_init 82 = .ok (.aload_n 0, 1) := by decide +kernel
theorem dX4_init_83 : decode cX4_init 83 = .ok (.getfield 22, 3) := by decide +kernel
theorem dX4_init_86 : decode cX4_init 86 = .ok (.iload_n 1, 1) := by decide +kernel
theorem dX4_init_87 : decode cX4_init 87 = .ok (.iconst (-1), 1) := by decide +kernel
theorem dX4_init_88 : decode cX4_init 88 = .ok (.iastore, 1) := by decide +kernel
theorem dX4_init_89 : decode cX4_init 89 = .ok (.iinc 1 1, 3) := by decide +kernel
theorem dX4_init_92 : decode cX4_init 92 = .ok (.goto (-16), 3) := by decide +kernel
theorem dX4_init_95 : decode cX4_init 95 = .ok (.return_, 1) := by decide +kernel
theorem dX0_init_0 : decode cX0_init 0 = .ok (.aload_n 0, 1) := by decide +kernel
theorem dX0_init_1 : decode cX0_init 1 = .ok (.invokespecial 3, 3) := by decide +kernel
theorem dX0_init_4 : decode cX0_init 4 = .ok (.aload_n 0, 1) := by decide +kernel
theorem dX0_init_5 : decode cX0_init 5 = .ok (.new 9, 3) := by decide +kernel
theorem dX0_init_8 : decode cX0_init 8 = .ok (.dup, 1) := by decide +kernel
theorem dX0_init_9 : decode cX0_init 9 = .ok (.invokespecial 11, 3) := by decide +kernel
theorem dX0_init_12 : decode cX0_init 12 = .ok (.putfield 12, 3) := by decide +kernel
theorem dX0_init_15 : decode cX0_init 15 = .ok (.aload_n 0, 1) := by decide +kernel
theorem dX0_init_16 : decode cX0_init 16 = .ok (.new 18, 3) := by decide +kernel
theorem dX0_init_19 : decode cX0_init 19 = .ok (.dup, 1) := by decide +kernel
theorem dX0_init_20 : decode cX0_init 20 = .ok (.invokespecial 20, 3) := by decide +kernel
theorem dX0_init_23 : decode cX0_init 23 = .ok (.putfield 21, 3) := by decide +kernel
theorem dX0_init_26 : decode cX0_init 26 = .ok (.aload_n 0, 1) := by decide +kernel
theorem dX0_init_27 : decode cX0_init 27 = .ok (.new 25, 3) := by decide +kernel
theorem dX0_init_30 : decode cX0_init 30 = .ok (.dup, 1) := by decide +kernel
theorem dX0_init_31 : decode cX0_init 31 = .ok (.invokespecial 27, 3) := by decide +kernel
theorem dX0_init_34 : decode cX0_init 34 = .ok (.putfield 28, 3) := by decide +kernel
theorem dX0_init_37 : decode cX0_init 37 = .ok (.aload_n 0, 1) := by decide +kernel
theorem dX0_init_38 : decode cX0_init 38 = .ok (.new 32, 3) := by decide +kernel
theorem dX0_init_41 : decode cX0_init 41 = .ok (.dup, 1) := by decide +kernel
theorem dX0_init_42 : decode cX0_init 42 = .ok (.invokespecial 34, 3) := by decide +kernel
theorem dX0_init_45 : decode cX0_init 45 = .ok (.putfield 35, 3) := by decide +kernel
theorem dX0_init_48 : decode cX0_init 48 = .ok (.aload_n 0, 1) := by decide +kernel
theorem dX0_init_49 : decode cX0_init 49 = .ok (.new 39, 3) := by decide +kernel
theorem dX0_init_52 : decode cX0_init 52 = .ok (.dup, 1) := by decide +kernel
theorem dX0_init_53 : decode cX0_init 53 = .ok (.invokespecial 41, 3) := by decide +kernel
theorem dX0_init_56 : decode cX0_init 56 = .ok (.putfield 42, 3) := by decide +kernel
theorem dX0_init_59 : decode cX0_init 59 = .ok (.aload_n 0, 1) := by decide +kernel
theorem dX0_init_60 : decode cX0_init 60 = .ok (.new 46, 3) := by decide +kernel
theorem dX0_init_63 : decode cX0_init 63 = .ok (.dup, 1) := by decide +kernel
theorem dX0_init_64 : decode cX0_init 64 = .ok (.invokespecial 48, 3) := by decide +kernel
theorem dX0_init_67 : decode cX0_init 67 = .ok (.putfield 49, 3) := by decide +kernel
theorem dX0_init_70 : decode cX0_init 70 = .ok (.aload_n 0, 1) := by decide +kernel
theorem dX0_init_71 : decode cX0_init 71 = .ok (.new 53, 3) := by decide +kernel
theorem dX0_init_74 : decode cX0_init 74 = .ok (.dup, 1) := by decide +kernel
theorem dX0_init_75 : decode cX0_init 75 = .ok (.invokespecial 55, 3) := by decide +kernel
theorem dX0_init_78 : decode cX0_init 78 = .ok (.putfield 56, 3) := by decide +kernel
theorem dX0_init_81 : decode cX0_init 81 = .ok (.aload_n 0, 1) := by decide +kernel
theorem dX0_init_82 : decode cX0_init 82 = .ok (.new 9, 3) := by decide +kernel
theorem dX0_init_85 : decode cX0_init 85 = .ok (.dup, 1) := by decide +kernel
theorem dX0_init_86 : decode cX0_init 86 = .ok (.invokespecial 11, 3) := by decide +kernel
theorem dX0_init_89 : decode cX0_init 89 = .ok (.putfield 60, 3) := by decide +kernel
theorem dX0_init_92 : decode cX0_init 92 = .ok (.aload_n 0, 1) := by decide +kernel
theorem dX0_init_93 : decode cX0_init 93 = .ok (.new 9, 3) := by decide +kernel
theorem dX0_init_96 : decode cX0_init 96 = .ok (.dup, 1) := by decide +kernel
theorem dX0_init_97 : decode cX0_init 97 = .ok (.invokespecial 11, 3) := by decide +kernel
theorem dX0_init_100 : decode cX0_init 100 = .ok (.putfield 63, 3) := by decide +kernel
theorem dX0_init_103 : decode cX0_init 103 = .ok (.aload_n 0, 1) := by decide +kernel
theorem dX0_init_104 : decode cX0_init 104 = .ok (.bipush 64, 2) := by decide +kernel
theorem dX0_init_106 : decode cX0_init 106 = .ok (.newarray .int, 2) := by decide +kernel
theorem dX0_init_108 : decode cX0_init 108 = .ok (.putfield 66, 3) := by decide +kernel
theorem dX0_init_111 : decode cX0_init 111 = .ok (.aload_n 0, 1) := by decide +kernel
theorem dX0_init_112 : decode cX0_init 112 = .ok (.bipush 16, 2) := by decide +kernel
theorem dX0_init_114 : decode cX0_init 114 = .ok (.newarray .boolean, 2) := by decide +kernel
theorem dX0_init_116 : decode cX0_init 116 = .ok (.putfield 70, 3) := by decide +kernel
theorem dX0_init_119 : decode cX0_init 119 = .ok (.aload_n 0, 1) := by decide +kernel
theorem dX0_init_120 : decode cX0_init 120 = .ok (.iconst 4, 1) := by decide +kernel
theorem dX0_init_121 : decode cX0_init 121 = .ok (.newarray .int, 2) := by decide +kernel
theorem dX0_init_123 : decode cX0_init 123 = .ok (.putfield 74, 3) := by decide +kernel
theorem dX0_init_126 : decode cX0_init 126 = .ok (.aload_n 0, 1) := by decide +kernel
theorem dX0_init_127 : decode cX0_init 127 = .ok (.iconst 0, 1) := by decide +kernel
theorem dX0_init_128 : decode cX0_init 128 = .ok (.putfield 77, 3) := by decide +kernel
theorem dX0_init_131 : decode cX0_init 131 = .ok (.aload_n 0, 1) := by decide +kernel
theorem dX0_init_132 : decode cX0_init 132 = .ok (.iconst 0, 1) := by decide +kernel
theorem dX0_init_133 : decode cX0_init 133 = .ok (.putfield 81, 3) := by decide +kernel
theorem dX0_init_136 : decode cX0_init 136 = .ok (.aload_n 0, 1) := by decide +kernel
theorem dX0_init_137 : decode cX0_init 137 = .ok (.iconst 0, 1) := by decide +kernel
theorem dX0_init_138 : decode cX0_init 138 = .ok (.putfield 85, 3) := by decide +kernel
theorem dX0_init_141 : decode cX0_init 141 = .ok (.aload_n 0, 1) := by decide +kernel
theorem dX0_init_142 : decode cX0_init 142 = .ok (.iconst 0, 1) := by decide +kernel
theorem dX0_init_143 : decode cX0_init 143 = .ok (.putfield 88, 3) := by decide +kernel
theorem dX0_init_146 : decode cX0_init 146 = .ok (.aload_n 0, 1) := by decide +kernel
theorem dX0_init_147 : decode cX0_init 147 = .ok (.iconst 0, 1) := by decide +kernel
theorem dX0_init_148 : decode cX0_init 148 = .ok (.putfield 91, 3) := by decide +kernel
theorem dX0_init_151 : decode cX0_init 151 = .ok (.aload_n 0, 1) := by decide +kernel
theorem dX0_init_152 : decode cX0_init 152 = .ok (.iconst 0, 1) := by decide +kernel
theorem dX0_init_153 : decode cX0_init 153 = .ok (.putfield 94, 3) := by decide +kernel
theorem dX0_init_156 : decode cX0_init 156 = .ok (.return_, 1) := by decide +kernel
theorem dX10_init_0 : decode cX10_init 0 = .ok (.aload_n 0, 1) := by decide +kernel
theorem dX10_init_1 : decode cX10_init 1 = .ok (.invokespecial 1, 3) := by decide +kernel
theorem dX10_init_4 : decode cX10_init 4 = .ok (.aload_n 0, 1) := by decide +kernel
theorem dX10_init_5 : decode cX10_init 5 = .ok (.new 7, 3) := by decide +kernel
theorem dX10_init_8 : decode cX10_init 8 = .ok (.dup, 1) := by decide +kernel
theorem dX10_init_9 : decode cX10_init 9 = .ok (.invokespecial 9, 3) := by decide +kernel
theorem dX10_init_12 : decode cX10_init 12 = .ok (.putfield 10, 3) := by decide +kernel
theorem dX10_init_15 : decode cX10_init 15 = .ok (.return_, 1) := by decide +kernel
theorem dX10_isRegister_0 : decode cX10_isRegister 0 = .ok (.iload_n 0, 1) := by decide +kernel
theorem dX10_isRegister_1 : decode cX10_isRegister 1 = .ok (.ifCond .lt 13, 3) := by decide +kernel
theorem dX10_isRegister_4 : decode cX10_isRegister 4 = .ok (.iload_n 0, 1) := by decide +kernel
theorem dX10_isRegister_5 : decode cX10_isRegister 5 = .ok (.bipush 8, 2) := by decide +kernel
theorem dX10_isRegister_7 : decode cX10_isRegister 7 = .ok (.if_icmp .ge 7, 3) := by decide +kernel
theorem dX10_isRegister_10 : decode cX10_isRegister 10 = .ok (.iconst 1, 1) := by decide +kernel
theorem dX10_isRegister_11 : decode cX10_isRegister 11 = .ok (.goto 4, 3) := by decide +kernel
theorem dX10_isRegister_14 : decode cX10_isRegister 14 = .ok (.iconst 0, 1) := by decide +kernel
theorem dX10_isRegister_15 : decode cX10_isRegister 15 = .ok (.ireturn, 1) := by decide +kernel
theorem dX10_isPlace_0 : decode cX10_isPlace 0 = .ok (.iload_n 0, 1) := by decide +kernel
theorem dX10_isPlace_1 : decode cX10_isPlace 1 = .ok (.ifCond .lt 13, 3) := by decide +kernel
theorem dX10_isPlace_4 : decode cX10_isPlace 4 = .ok (.iload_n 0, 1) := by decide +kernel
theorem dX10_isPlace_5 : decode cX10_isPlace 5 = .ok (.bipush 64, 2) := by decide +kernel
theorem dX10_isPlace_7 : decode cX10_isPlace 7 = .ok (.if_icmp .ge 7, 3) := by decide +kernel
theorem dX10_isPlace_10 : decode cX10_isPlace 10 = .ok (.iconst 1, 1) := by decide +kernel
theorem dX10_isPlace_11 : decode cX10_isPlace 11 = .ok (.goto 4, 3) := by decide +kernel
theorem dX10_isPlace_14 : decode cX10_isPlace 14 = .ok (.iconst 0, 1) := by decide +kernel
theorem dX10_isPlace_15 : decode cX10_isPlace 15 = .ok (.ireturn, 1) := by decide +kernel
theorem dJx4a65c_size_8abf5_0 : decode cJx4a65c_size_8abf5 0 = .ok (.aload_n 0, 1) := by decide +kernel
theorem dJx4a65c_size_8abf5_1 : decode cJx4a65c_size_8abf5 1 = .ok (.getfield 48, 3) := by decide +kernel
theorem dJx4a65c_size_8abf5_4 : decode cJx4a65c_size_8abf5 4 = .ok (.ireturn, 1) := by decide +kernel
theorem dX6_init_0 : decode cX6_init 0 = .ok (.aload_n 0, 1) := by decide +kernel
theorem dX6_init_1 : decode cX6_init 1 = .ok (.invokespecial 3, 3) := by decide +kernel
theorem dX6_init_4 : decode cX6_init 4 = .ok (.aload_n 0, 1) := by decide +kernel
theorem dX6_init_5 : decode cX6_init 5 = .ok (.iload_n 1, 1) := by decide +kernel
theorem dX6_init_6 : decode cX6_init 6 = .ok (.putfield 9, 3) := by decide +kernel
theorem dX6_init_9 : decode cX6_init 9 = .ok (.aload_n 0, 1) := by decide +kernel
theorem dX6_init_10 : decode cX6_init 10 = .ok (.iload_n 2, 1) := by decide +kernel
theorem dX6_init_11 : decode cX6_init 11 = .ok (.putfield 15, 3) := by decide +kernel
theorem dX6_init_14 : decode cX6_init 14 = .ok (.aload_n 0, 1) := by decide +kernel
theorem dX6_init_15 : decode cX6_init 15 = .ok (.iload_n 3, 1) := by decide +kernel
theorem dX6_init_16 : decode cX6_init 16 = .ok (.putfield 18, 3) := by decide +kernel
theorem dX6_init_19 : decode cX6_init 19 = .ok (.aload_n 0, 1) := by decide +kernel
theorem dX6_init_20 : decode cX6_init 20 = .ok (.iload 4, 2) := by decide +kernel
theorem dX6_init_22 : decode cX6_init 22 = .ok (.putfield 21, 3) := by decide +kernel
theorem dX6_init_25 : decode cX6_init 25 = .ok (.aload_n 0, 1) := by decide +kernel
theorem dX6_init_26 : decode cX6_init 26 = .ok (.iload 5, 2) := by decide +kernel
theorem dX6_init_28 : decode cX6_init 28 = .ok (.putfield 24, 3) := by decide +kernel
theorem dX6_init_31 : decode cX6_init 31 = .ok (.aload_n 0, 1) := by decide +kernel
theorem dX6_init_32 : decode cX6_init 32 = .ok (.iload 6, 2) := by decide +kernel
theorem dX6_init_34 : decode cX6_init 34 = .ok (.putfield 27, 3) := by decide +kernel
theorem dX6_init_37 : decode cX6_init 37 = .ok (.return_, 1) := by decide +kernel
theorem dJ9_max_7cf53_0 : decode cJ9_max_7cf53 0 = .ok (.iload_n 0, 1) := by decide +kernel
theorem dJ9_max_7cf53_1 : decode cJ9_max_7cf53 1 = .ok (.iload_n 1, 1) := by decide +kernel
theorem dJ9_max_7cf53_2 : decode cJ9_max_7cf53 2 = .ok (.if_icmp .lt 7, 3) := by decide +kernel
theorem dJ9_max_7cf53_5 : decode cJ9_max_7cf53 5 = .ok (.iload_n 0, 1) := by decide +kernel
theorem dJ9_max_7cf53_6 : decode cJ9_max_7cf53 6 = .ok (.goto 4, 3) := by decide +kernel
theorem dJ9_max_7cf53_9 : decode cJ9_max_7cf53 9 = .ok (.iload_n 1, 1) := by decide +kernel
theorem dJ9_max_7cf53_10 : decode cJ9_max_7cf53 10 = .ok (.ireturn, 1) := by decide +kernel
theorem dJ8_newLength_cabcc_0 : decode cJ8_newLength_cabcc 0 = .ok (.iload_n 0, 1) := by decide +kernel
theorem dJ8_newLength_cabcc_1 : decode cJ8_newLength_cabcc 1 = .ok (.iload_n 1, 1) := by decide +kernel
theorem dJ8_newLength_cabcc_2 : decode cJ8_newLength_cabcc 2 = .ok (.iload_n 2, 1) := by decide +kernel
theorem dJ8_newLength_cabcc_3 : decode cJ8_newLength_cabcc 3 = .ok (.invokestatic 194, 3) := by decide +kernel
theorem dJ8_newLength_cabcc_6 : decode cJ8_newLength_cabcc 6 = .ok (.iadd, 1) := by decide +kernel
theorem dJ8_newLength_cabcc_7 : decode cJ8_newLength_cabcc 7 = .ok (.istore_n 3, 1) := by decide +kernel
theorem dJ8_newLength_cabcc_8 : decode cJ8_newLength_cabcc 8 = .ok (.iconst 0, 1) := by decide +kernel
theorem dJ8_newLength_cabcc_9 : decode cJ8_newLength_cabcc 9 = .ok (.iload_n 3, 1) := by decide +kernel
theorem dJ8_newLength_cabcc_10 : decode cJ8_newLength_cabcc 10 = .ok (.if_icmp .ge 11, 3) := by decide +kernel
theorem dJ8_newLength_cabcc_13 : decode cJ8_newLength_cabcc 13 = .ok (.iload_n 3, 1) := by decide +kernel
theorem dJ8_newLength_cabcc_14 : decode cJ8_newLength_cabcc 14 = .ok (.ldc 200, 2) := by decide +kernel
theorem dJ8_newLength_cabcc_16 : decode cJ8_newLength_cabcc 16 = .ok (.if_icmp .gt 5, 3) := by decide +kernel
theorem dJ8_newLength_cabcc_19 : decode cJ8_newLength_cabcc 19 = .ok (.iload_n 3, 1) := by decide +kernel
theorem dJ8_newLength_cabcc_20 : decode cJ8_newLength_cabcc 20 = .ok (.ireturn, 1) := by decide +kernel
theorem dJ8_newLength_cabcc_21 : decode cJ8_newLength_cabcc 21 = .ok (.iload_n 0, 1) := by decide +kernel
theorem dJ8_newLength_cabcc_22 : decode cJ8_newLength_cabcc 22 = .ok (.iload_n 1, 1) := by decide +kernel
theorem dJ8_newLength_cabcc_23 : decode cJ8_newLength_cabcc 23 = .ok (.invokestatic 201, 3) := by decide +kernel
theorem dJ8_newLength_cabcc_26 : decode cJ8_newLength_cabcc 26 = .ok (.ireturn, 1) := by decide +kernel
theorem dJ9_min_7cf53_0 : decode cJ9_min_7cf53 0 = .ok (.iload_n 0, 1) := by decide +kernel
theorem dJ9_min_7cf53_1 : decode cJ9_min_7cf53 1 = .ok (.iload_n 1, 1) := by decide +kernel
theorem dJ9_min_7cf53_2 : decode cJ9_min_7cf53 2 = .ok (.if_icmp .gt 7, 3) := by decide +kernel
theorem dJ9_min_7cf53_5 : decode cJ9_min_7cf53 5 = .ok (.iload_n 0, 1) := by decide +kernel
theorem dJ9_min_7cf53_6 : decode cJ9_min_7cf53 6 = .ok (.goto 4, 3) := by decide +kernel
theorem dJ9_min_7cf53_9 : decode cJ9_min_7cf53 9 = .ok (.iload_n 1, 1) := by decide +kernel
theorem dJ9_min_7cf53_10 : decode cJ9_min_7cf53 10 = .ok (.ireturn, 1) := by decide +kernel
theorem dJ7_copyOf_6403c_0 : decode cJ7_copyOf_6403c 0 = .ok (.aload_n 2, 1) := by decide +kernel
theorem dJ7_copyOf_6403c_1 : decode cJ7_copyOf_6403c 1 = .ok (.ldc 110, 2) := by decide +kernel
theorem dJ7_copyOf_6403c_3 : decode cJ7_copyOf_6403c 3 = .ok (.if_acmp .ne 10, 3) := by decide +kernel
theorem dJ7_copyOf_6403c_6 : decode cJ7_copyOf_6403c 6 = .ok (.iload_n 1, 1) := by decide +kernel
theorem dJ7_copyOf_6403c_7 : decode cJ7_copyOf_6403c 7 = .ok (.anewarray 2, 3) := by decide +kernel
theorem dJ7_copyOf_6403c_10 : decode cJ7_copyOf_6403c 10 = .ok (.goto 14, 3) := by decide +kernel
theorem dJ7_copyOf_6403c_13 : decode cJ7_copyOf_6403c 13 = .ok (.aload_n 2, 1) := by decide +kernel
theorem dJ7_copyOf_6403c_14 : decode cJ7_copyOf_6403c 14 = .ok (.invokevirtual 90, 3) := by decide +kernel
theorem dJ7_copyOf_6403c_17 : decode cJ7_copyOf_6403c 17 = .ok (.iload_n 1, 1) := by decide +kernel
theorem dJ7_copyOf_6403c_18 : decode cJ7_copyOf_6403c 18 = .ok (.invokestatic 95, 3) := by decide +kernel
theorem dJ7_copyOf_6403c_21 : decode cJ7_copyOf_6403c 21 = .ok (.checkcast 110, 3) := by decide +kernel
theorem dJ7_copyOf_6403c_24 : decode cJ7_copyOf_6403c 24 = .ok (.astore_n 3, 1) := by decide +kernel
theorem dJ7_copyOf_6403c_25 : decode cJ7_copyOf_6403c 25 = .ok (.aload_n 0, 1) := by decide +kernel
theorem dJ7_copyOf_6403c_26 : decode cJ7_copyOf_6403c 26 = .ok (.iconst 0, 1) := by decide +kernel
theorem dJ7_copyOf_6403c_27 : decode cJ7_copyOf_6403c 27 = .ok (.aload_n 3, 1) := by decide +kernel
theorem dJ7_copyOf_6403c_28 : decode cJ7_copyOf_6403c 28 = .ok (.iconst 0, 1) := by decide +kernel
theorem dJ7_copyOf_6403c_29 : decode cJ7_copyOf_6403c 29 = .ok (.aload_n 0, 1) := by decide +kernel
theorem dJ7_copyOf_6403c_30 : decode cJ7_copyOf_6403c 30 = .ok (.arraylength, 1) := by decide +kernel
theorem dJ7_copyOf_6403c_31 : decode cJ7_copyOf_6403c 31 = .ok (.iload_n 1, 1) := by decide +kernel
theorem dJ7_copyOf_6403c_32 : decode cJ7_copyOf_6403c 32 = .ok (.invokestatic 304, 3) := by decide +kernel
theorem dJ7_copyOf_6403c_35 : decode cJ7_copyOf_6403c 35 = .ok (.invokestatic 150, 3) := by decide +kernel
theorem dJ7_copyOf_6403c_38 : decode cJ7_copyOf_6403c 38 = .ok (.aload_n 3, 1) := by decide +kernel
theorem dJ7_copyOf_6403c_39 : decode cJ7_copyOf_6403c 39 = .ok (.areturn, 1) := by decide +kernel
theorem dJ7_copyOf_1904c_0 : decode cJ7_copyOf_1904c 0 = .ok (.aload_n 0, 1) := by decide +kernel
theorem dJ7_copyOf_1904c_1 : decode cJ7_copyOf_1904c 1 = .ok (.iload_n 1, 1) := by decide +kernel
theorem dJ7_copyOf_1904c_2 : decode cJ7_copyOf_1904c 2 = .ok (.aload_n 0, 1) := by decide +kernel
theorem dJ7_copyOf_1904c_3 : decode cJ7_copyOf_1904c 3 = .ok (.invokevirtual 86, 3) := by decide +kernel
theorem dJ7_copyOf_1904c_6 : decode cJ7_copyOf_1904c 6 = .ok (.invokestatic 300, 3) := by decide +kernel
theorem dJ7_copyOf_1904c_9 : decode cJ7_copyOf_1904c 9 = .ok (.areturn, 1) := by decide +kernel
theorem dJx4a65c_grow_92f84_0 : decode cJx4a65c_grow_92f84 0 = .ok (.aload_n 0, 1) := by decide +kernel
theorem dJx4a65c_grow_92f84_1 : decode cJx4a65c_grow_92f84 1 = .ok (.getfield 9, 3) := by decide +kernel
theorem dJx4a65c_grow_92f84_4 : decode cJx4a65c_grow_92f84 4 = .ok (.arraylength, 1) := by decide +kernel
theorem dJx4a65c_grow_92f84_5 : decode cJx4a65c_grow_92f84 5 = .ok (.istore_n 2, 1) := by decide +kernel
theorem dJx4a65c_grow_92f84_6 : decode cJx4a65c_grow_92f84 6 = .ok (.iload_n 2, 1) := by decide +kernel
theorem dJx4a65c_grow_92f84_7 : decode cJx4a65c_grow_92f84 7 = .ok (.ifCond .gt 13, 3) := by decide +kernel
theorem dJx4a65c_grow_92f84_10 : decode cJx4a65c_grow_92f84 10 = .ok (.aload_n 0, 1) := by decide +kernel
theorem dJx4a65c_grow_92f84_11 : decode cJx4a65c_grow_92f84 11 = .ok (.getfield 9, 3) := by decide +kernel
theorem dJx4a65c_grow_92f84_14 : decode cJx4a65c_grow_92f84 14 = .ok (.getstatic 39, 3) := by decide +kernel
theorem dJx4a65c_grow_92f84_17 : decode cJx4a65c_grow_92f84 17 = .ok (.if_acmp .eq 28, 3) := by decide +kernel
theorem dJx4a65c_grow_92f84_20 : decode cJx4a65c_grow_92f84 20 = .ok (.iload_n 2, 1) := by decide +kernel
theorem dJx4a65c_grow_92f84_21 : decode cJx4a65c_grow_92f84 21 = .ok (.iload_n 1, 1) := by decide +kernel
theorem dJx4a65c_grow_92f84_22 : decode cJx4a65c_grow_92f84 22 = .ok (.iload_n 2, 1) := by decide +kernel
theorem dJx4a65c_grow_92f84_23 : decode cJx4a65c_grow_92f84 23 = .ok (.isub, 1) := by decide +kernel
theorem dJx4a65c_grow_92f84_24 : decode cJx4a65c_grow_92f84 24 = .ok (.iload_n 2, 1) := by decide +kernel
theorem dJx4a65c_grow_92f84_25 : decode cJx4a65c_grow_92f84 25 = .ok (.iconst 1, 1) := by decide +kernel
theorem dJx4a65c_grow_92f84_26 : decode cJx4a65c_grow_92f84 26 = .ok (.ishr, 1) := by decide +kernel
theorem dJx4a65c_grow_92f84_27 : decode cJx4a65c_grow_92f84 27 = .ok (.invokestatic 73, 3) := by decide +kernel
theorem dJx4a65c_grow_92f84_30 : decode cJx4a65c_grow_92f84 30 = .ok (.istore_n 3, 1) := by decide +kernel
theorem dJx4a65c_grow_92f84_31 : decode cJx4a65c_grow_92f84 31 = .ok (.aload_n 0, 1) := by decide +kernel
theorem dJx4a65c_grow_92f84_32 : decode cJx4a65c_grow_92f84 32 = .ok (.aload_n 0, 1) := by decide +kernel
theorem dJx4a65c_grow_92f84_33 : decode cJx4a65c_grow_92f84 33 = .ok (.getfield 9, 3) := by decide +kernel
theorem dJx4a65c_grow_92f84_36 : decode cJx4a65c_grow_92f84 36 = .ok (.iload_n 3, 1) := by decide +kernel
theorem dJx4a65c_grow_92f84_37 : decode cJx4a65c_grow_92f84 37 = .ok (.invokestatic 66, 3) := by decide +kernel
theorem dJx4a65c_grow_92f84_40 : decode cJx4a65c_grow_92f84 40 = .ok (.dup_x1, 1) := by decide +kernel
theorem dJx4a65c_grow_92f84_41 : decode cJx4a65c_grow_92f84 41 = .ok (.putfield 9, 3) := by decide +kernel
theorem dJx4a65c_grow_92f84_44 : decode cJx4a65c_grow_92f84 44 = .ok (.areturn, 1) := by decide +kernel
theorem dJx4a65c_grow_92f84_45 : decode cJx4a65c_grow_92f84 45 = .ok (.aload_n 0, 1) := by decide +kernel
theorem dJx4a65c_grow_92f84_46 : decode cJx4a65c_grow_92f84 46 = .ok (.bipush 10, 2) := by decide +kernel
theorem dJx4a65c_grow_92f84_48 : decode cJx4a65c_grow_92f84 48 = .ok (.iload_n 1, 1) := by decide +kernel
theorem dJx4a65c_grow_92f84_49 : decode cJx4a65c_grow_92f84 49 = .ok (.invokestatic 79, 3) := by decide +kernel
theorem dJx4a65c_grow_92f84_52 : decode cJx4a65c_grow_92f84 52 = .ok (.anewarray 7, 3) := by decide +kernel
theorem dJx4a65c_grow_92f84_55 : decode cJx4a65c_grow_92f84 55 = .ok (.dup_x1, 1) := by decide +kernel
theorem dJx4a65c_grow_92f84_56 : decode cJx4a65c_grow_92f84 56 = .ok (.putfield 9, 3) := by decide +kernel
theorem dJx4a65c_grow_92f84_59 : decode cJx4a65c_grow_92f84 59 = .ok (.areturn, 1) := by decide +kernel
theorem dJx4a65c_grow_d5877_0 : decode cJx4a65c_grow_d5877 0 = .ok (.aload_n 0, 1) := by decide +kernel
theorem dJx4a65c_grow_d5877_1 : decode cJx4a65c_grow_d5877 1 = .ok (.aload_n 0, 1) := by decide +kernel
theorem dJx4a65c_grow_d5877_2 : decode cJx4a65c_grow_d5877 2 = .ok (.getfield 48, 3) := by decide +kernel
theorem dJx4a65c_grow_d5877_5 : decode cJx4a65c_grow_d5877 5 = .ok (.iconst 1, 1) := by decide +kernel
theorem dJx4a65c_grow_d5877_6 : decode cJx4a65c_grow_d5877 6 = .ok (.iadd, 1) := by decide +kernel
theorem dJx4a65c_grow_d5877_7 : decode cJx4a65c_grow_d5877 7 = .ok (.invokevirtual 69, 3) := by decide +kernel
theorem dJx4a65c_grow_d5877_10 : decode cJx4a65c_grow_d5877 10 = .ok (.areturn, 1) := by decide +kernel
theorem dJx4a65c_add_72be8_0 : decode cJx4a65c_add_72be8 0 = .ok (.iload_n 3, 1) := by decide +kernel
theorem dJx4a65c_add_72be8_1 : decode cJx4a65c_add_72be8 1 = .ok (.aload_n 2, 1) := by decide +kernel
theorem dJx4a65c_add_72be8_2 : decode cJx4a65c_add_72be8 2 = .ok (.arraylength, 1) := by decide +kernel
theorem dJx4a65c_add_72be8_3 : decode cJx4a65c_add_72be8 3 = .ok (.if_icmp .ne 8, 3) := by decide +kernel
theorem dJx4a65c_add_72be8_6 : decode cJx4a65c_add_72be8 6 = .ok (.aload_n 0, 1) := by decide +kernel
theorem dJx4a65c_add_72be8_7 : decode cJx4a65c_add_72be8 7 = .ok (.invokevirtual 129, 3) := by decide +kernel
theorem dJx4a65c_add_72be8_10 : decode cJx4a65c_add_72be8 10 = .ok (.astore_n 2, 1) := by decide +kernel
theorem dJx4a65c_add_72be8_11 : decode cJx4a65c_add_72be8 11 = .ok (.aload_n 2, 1) := by decide +kernel
theorem dJx4a65c_add_72be8_12 : decode cJx4a65c_add_72be8 12 = .ok (.iload_n 3, 1) := by decide +kernel
theorem dJx4a65c_add_72be8_13 : decode cJx4a65c_add_72be8 13 = .ok (.aload_n 1, 1) := by decide +kernel
theorem dJx4a65c_add_72be8_14 : decode cJx4a65c_add_72be8 14 = .ok (.aastore, 1) := by decide +kernel
theorem dJx4a65c_add_72be8_15 : decode cJx4a65c_add_72be8 15 = .ok (.aload_n 0, 1) := by decide +kernel
theorem dJx4a65c_add_72be8_16 : decode cJx4a65c_add_72be8 16 = .ok (.iload_n 3, 1) := by decide +kernel
theorem dJx4a65c_add_72be8_17 : decode cJx4a65c_add_72be8 17 = .ok (.iconst 1, 1) := by decide +kernel
theorem dJx4a65c_add_72be8_18 : decode cJx4a65c_add_72be8 18 = .ok (.iadd, 1) := by decide +kernel
theorem dJx4a65c_add_72be8_19 : decode cJx4a65c_add_72be8 19 = .ok (.putfield 48, 3) := by decide +kernel
theorem dJx4a65c_add_72be8_22 : decode cJx4a65c_add_72be8 22 = .ok (.return_, 1) := by decide +kernel
def mJxa1e45_init_da8c8 : MD := (cJxa1e45_init_da8c8, RJxa1e45, yJxa1e45_init_da8c8, 1, none, 1, 20)
theorem mf_Jxa1e45_init_da8c8 : MF mJxa1e45_init_da8c8 0 := MF.of 93 41 (by decide +kernel) (by decide +kernel) (by decide +kernel) (by decide +kernel) (by decide +kernel) rfl
def mJxc12de_init_da8c8 : MD := (cJxc12de_init_da8c8, RJxc12de, yJxc12de_init_da8c8, 1, none, 2, 40)
theorem mf_Jxc12de_init_da8c8 : MF mJxc12de_init_da8c8 0 := MF.of 90 42 (by decide +kernel) (by decide +kernel) (by decide +kernel) (by decide +kernel) (by decide +kernel) rfl
def mJx4a65c_init_da8c8 : MD := (cJx4a65c_init_da8c8, RJx4a65c, yJx4a65c_init_da8c8, 1, none, 3, 60)
theorem mf_Jx4a65c_init_da8c8 : MF mJx4a65c_init_da8c8 0 := MF.of 87 43 (by decide +kernel) (by decide +kernel) (by decide +kernel) (by decide +kernel) (by decide +kernel) rfl
def mX9_init : MD := (cX9_init, RX9, yX9_init, 1, none, 1, 20)
theorem mf_X9_init : MF mX9_init 0 := MF.of 113 44 (by decide +kernel) (by decide +kernel) (by decide +kernel) (by decide +kernel) (by decide +kernel) rfl
def mX1_init : MD := (cX1_init, RX1, yX1_init, 1, none, 4, 120)
theorem mf_X1_init : MF mX1_init 0 := MF.of 145 45 (by decide +kernel) (by decide +kernel) (by decide +kernel) (by decide +kernel) (by decide +kernel) rfl
def mX8_init : MD := (cX8_init, RX8, yX8_init, 1, none, 1, 20)
theorem mf_X8_init : MF mX8_init 0 := MF.of 198 47 (by decide +kernel) (by decide +kernel) (by decide +kernel) (by decide +kernel) (by decide +kernel) rfl
def mX5_putBehind : MD := (cX5_putBehind, RX5, yX5_putBehind, 2, none, 0, 0)
theorem mf_X5_putBehind : MF mX5_putBehind 1 := MF.of 235 48 (by decide +kernel) (by decide +kernel) (by decide +kernel) (by decide +kernel) (by decide +kernel) rfl
def mX5_fillLine : MD := (cX5_fillLine, RX5, yX5_fillLine, 3, none, 1, 21)
theorem mf_X5_fillLine : MF mX5_fillLine 1 := MF.of 231 48 (by decide +kernel) (by decide +kernel) (by decide +kernel) (by decide +kernel) (by decide +kernel) rfl
def mX5_init : MD := (cX5_init, RX5, yX5_init, 2, none, 2, 43)
theorem mf_X5_init : MF mX5_init 0 := MF.of 226 48 (by decide +kernel) (by decide +kernel) (by decide +kernel) (by decide +kernel) (by decide +kernel) rfl
def mX7_init : MD := (cX7_init, RX7, yX7_init, 2, none, 1, 20)
theorem mf_X7_init : MF mX7_init 0 := MF.of 271 49 (by decide +kernel) (by decide +kernel) (by decide +kernel) (by decide +kernel) (by decide +kernel) rfl
def mX4_init : MD := (cX4_init, RX4, yX4_init, 2, none, 4, 80)
theorem mf_X4_init : MF mX4_init 0 := MF.of 296 50 (by decide +kernel) (by decide +kernel) (by decide +kernel) (by decide +kernel) (by decide +kernel) rfl
def mX0_init : MD := (cX0_init, RX0, yX0_init, 1, none, 5, 140)
theorem mf_X0_init : MF mX0_init 0 := MF.of 81 40 (by decide +kernel) (by decide +kernel) (by decide +kernel) (by decide +kernel) (by decide +kernel) rfl
def mX10_init : MD := (cX10_init, RX10, yX10_init, 1, none, 6, 160)
theorem mf_X10_init : MF mX10_init 0 := MF.of 73 39 (by decide +kernel) (by decide +kernel) (by decide +kernel) (by decide +kernel) (by decide +kernel) rfl
def mX10_isRegister : MD := (cX10_isRegister, RX10, yX10_isRegister, 1, (some .boolean), 0, 0)
theorem mf_X10_isRegister : MF mX10_isRegister 1 := MF.of 507 39 (by decide +kernel) (by decide +kernel) (by decide +kernel) (by decide +kernel) (by decide +kernel) rfl
def mX10_isPlace : MD := (cX10_isPlace, RX10, yX10_isPlace, 1, (some .boolean), 0, 0)
theorem mf_X10_isPlace : MF mX10_isPlace 1 := MF.of 510 39 (by decide +kernel) (by decide +kernel) (by decide +kernel) (by decide +kernel) (by decide +kernel) rfl
def mJx4a65c_size_8abf5 : MD := (cJx4a65c_size_8abf5, RJx4a65c, yJx4a65c_size_8abf5, 1, (some .int), 0, 0)
theorem mf_Jx4a65c_size_8abf5 : MF mJx4a65c_size_8abf5 0 := MF.of 424 43 (by decide +kernel) (by decide +kernel) (by decide +kernel) (by decide +kernel) (by decide +kernel) rfl
def mX6_init : MD := (cX6_init, RX6, yX6_init, 7, none, 1, 20)
theorem mf_X6_init : MF mX6_init 6 := MF.of 594 62 (by decide +kernel) (by decide +kernel) (by decide +kernel) (by decide +kernel) (by decide +kernel) rfl
def mJ9_max_7cf53 : MD := (cJ9_max_7cf53, RJ9, yJ9_max_7cf53, 2, (some .int), 0, 0)
theorem mf_J9_max_7cf53 : MF mJ9_max_7cf53 2 := MF.of 652 60 (by decide +kernel) (by decide +kernel) (by decide +kernel) (by decide +kernel) (by decide +kernel) rfl
def mJ8_newLength_cabcc : MD := (cJ8_newLength_cabcc, RJ8, yJ8_newLength_cabcc, 4, (some .int), 1, 21)
theorem mf_J8_newLength_cabcc : MF mJ8_newLength_cabcc 3 := MF.of 649 63 (by decide +kernel) (by decide +kernel) (by decide +kernel) (by decide +kernel) (by decide +kernel) rfl
def mJ9_min_7cf53 : MD := (cJ9_min_7cf53, RJ9, yJ9_min_7cf53, 2, (some .int), 0, 0)
theorem mf_J9_min_7cf53 : MF mJ9_min_7cf53 2 := MF.of 688 60 (by decide +kernel) (by decide +kernel) (by decide +kernel) (by decide +kernel) (by decide +kernel) rfl
def mJ7_copyOf_6403c : MD := (cJ7_copyOf_6403c, RJ7, yJ7_copyOf_6403c, 4, (some (.array (.object "java/lang/Object"))), 1, 60)
theorem mf_J7_copyOf_6403c : MF mJ7_copyOf_6403c 3 := MF.of 682 64 (by decide +kernel) (by decide +kernel) (by decide +kernel) (by decide +kernel) (by decide +kernel) rfl
def mJ7_copyOf_1904c : MD := (cJ7_copyOf_1904c, RJ7, yJ7_copyOf_1904c, 2, (some (.array (.object "java/lang/Object"))), 2, 83)
theorem mf_J7_copyOf_1904c : MF mJ7_copyOf_1904c 2 := MF.of 659 64 (by decide +kernel) (by decide +kernel) (by decide +kernel) (by decide +kernel) (by decide +kernel) rfl
def mJx4a65c_grow_92f84 : MD := (cJx4a65c_grow_92f84, RJx4a65c, yJx4a65c_grow_92f84, 4, (some (.array (.object "java/lang/Object"))), 3, 104)
theorem mf_Jx4a65c_grow_92f84 : MF mJx4a65c_grow_92f84 1 := MF.of 646 43 (by decide +kernel) (by decide +kernel) (by decide +kernel) (by decide +kernel) (by decide +kernel) rfl
def mJx4a65c_grow_d5877 : MD := (cJx4a65c_grow_d5877, RJx4a65c, yJx4a65c_grow_d5877, 1, (some (.array (.object "java/lang/Object"))), 4, 127)
theorem mf_Jx4a65c_grow_d5877 : MF mJx4a65c_grow_d5877 0 := MF.of 642 43 (by decide +kernel) (by decide +kernel) (by decide +kernel) (by decide +kernel) (by decide +kernel) rfl
def mJx4a65c_add_72be8 : MD := (cJx4a65c_add_72be8, RJx4a65c, yJx4a65c_add_72be8, 4, none, 5, 147)
theorem mf_Jx4a65c_add_72be8 : MF mJx4a65c_add_72be8 3 := MF.of 638 43 (by decide +kernel) (by decide +kernel) (by decide +kernel) (by decide +kernel) (by decide +kernel) rfl
theorem ac_J7_150 : Cond.methodLink RJ7 150 arraycopyName ∈ lw_tbl := List.mem_of_getElem? (i := 689) (by decide +kernel)
theorem ci_Jx4a65c_1 : CIs RJx4a65c 1 mJxc12de_init_da8c8 := CIs.of 88 89 (by decide +kernel) (by decide +kernel) rfl rfl
theorem ci_Jxc12de_1 : CIs RJxc12de 1 mJxa1e45_init_da8c8 := CIs.of 91 92 (by decide +kernel) (by decide +kernel) rfl rfl
theorem ci_X0_11 : CIs RX0 11 mJx4a65c_init_da8c8 := CIs.of 85 86 (by decide +kernel) (by decide +kernel) rfl rfl
theorem ci_X0_20 : CJs RX0 20 mX9_init "Reorderium" := CJs.of 111 112 (by decide +kernel) (by decide +kernel) rfl rfl
theorem ci_X0_27 : CJs RX0 27 mX1_init "Reorderium" := CJs.of 143 144 (by decide +kernel) (by decide +kernel) rfl rfl
theorem ci_X0_34 : CJs RX0 34 mX8_init "Reorderium" := CJs.of 196 197 (by decide +kernel) (by decide +kernel) rfl rfl
theorem ci_X0_41 : CIs RX0 41 mX5_init := CIs.of 224 225 (by decide +kernel) (by decide +kernel) rfl rfl
theorem ci_X0_48 : CIs RX0 48 mX7_init := CIs.of 269 270 (by decide +kernel) (by decide +kernel) rfl rfl
theorem ci_X0_55 : CIs RX0 55 mX4_init := CIs.of 294 295 (by decide +kernel) (by decide +kernel) rfl rfl
theorem ci_X10_9 : CJs RX10 9 mX0_init "Reorderium" := CJs.of 79 80 (by decide +kernel) (by decide +kernel) rfl rfl
theorem ci_X4_11 : CIs RX4 11 mJx4a65c_init_da8c8 := CIs.of 299 86 (by decide +kernel) (by decide +kernel) rfl rfl
theorem cs_J7_300 : CSs RJ7 300 mJ7_copyOf_6403c := CSs.of 680 681 (by decide +kernel) (by decide +kernel)
theorem cs_J7_304 : CSs RJ7 304 mJ9_min_7cf53 := CSs.of 686 687 (by decide +kernel) (by decide +kernel)
theorem cs_J8_194 : CSs RJ8 194 mJ9_max_7cf53 := CSs.of 650 651 (by decide +kernel) (by decide +kernel)
theorem cs_Jx4a65c_66 : CSs RJx4a65c 66 mJ7_copyOf_1904c := CSs.of 657 658 (by decide +kernel) (by decide +kernel)
theorem cs_Jx4a65c_73 : CSs RJx4a65c 73 mJ8_newLength_cabcc := CSs.of 647 648 (by decide +kernel) (by decide +kernel)
theorem cs_Jx4a65c_79 : CSs RJx4a65c 79 mJ9_max_7cf53 := CSs.of 692 651 (by decide +kernel) (by decide +kernel)
theorem cv_Jx4a65c_129 : CVs RJx4a65c 129 mJx4a65c_grow_d5877 0 := CVs.of 639 641 3 (by decide +kernel) (by decide +kernel) (by decide +kernel) _ rfl rfl
theorem cv_Jx4a65c_69 : CVs RJx4a65c 69 mJx4a65c_grow_92f84 0 := CVs.of 643 645 4 (by decide +kernel) (by decide +kernel) (by decide +kernel) _ rfl rfl
theorem cv_X5_35 : CVs RX5 35 mX5_fillLine 6 := CVs.of 228 229 230 (by decide +kernel) (by decide +kernel) (by decide +kernel) _ rfl rfl
theorem cv_X5_39 : CVs RX5 39 mX5_putBehind 6 := CVs.of 232 234 0 (by decide +kernel) (by decide +kernel) (by decide +kernel) _ rfl rfl
theorem fl_Jx4a65c_48 : FL RJx4a65c 48 0 2 0 := FL.of _ rfl (by decide) 98 (by decide +kernel) (by decide)
theorem fl_Jx4a65c_9 : FL RJx4a65c 9 0 1 3 := FL.of _ rfl (by decide) 97 (by decide +kernel) (by decide)
theorem fl_Jxc12de_7 : FL RJxc12de 7 0 0 0 := FL.of _ rfl (by decide) 99 (by decide +kernel) (by decide)
theorem fl_X0_12 : FL RX0 12 1 0 3 := FL.of _ rfl (by decide) 330 (by decide +kernel) (by decide)
theorem fl_X0_21 : FL RX0 21 1 1 3 := FL.of _ rfl (by decide) 332 (by decide +kernel) (by decide)
theorem fl_X0_28 : FL RX0 28 1 2 3 := FL.of _ rfl (by decide) 334 (by decide +kernel) (by decide)
theorem fl_X0_35 : FL RX0 35 1 3 3 := FL.of _ rfl (by decide) 336 (by decide +kernel) (by decide)
theorem fl_X0_42 : FL RX0 42 1 4 3 := FL.of _ rfl (by decide) 338 (by decide +kernel) (by decide)
theorem fl_X0_49 : FL RX0 49 1 5 3 := FL.of _ rfl (by decide) 340 (by decide +kernel) (by decide)
theorem fl_X0_56 : FL RX0 56 1 6 3 := FL.of _ rfl (by decide) 342 (by decide +kernel) (by decide)
theorem fl_X0_60 : FL RX0 60 1 7 3 := FL.of _ rfl (by decide) 344 (by decide +kernel) (by decide)
theorem fl_X0_63 : FL RX0 63 1 8 3 := FL.of _ rfl (by decide) 346 (by decide +kernel) (by decide)
theorem fl_X0_66 : FL RX0 66 1 9 3 := FL.of _ rfl (by decide) 348 (by decide +kernel) (by decide)
theorem fl_X0_70 : FL RX0 70 1 10 3 := FL.of _ rfl (by decide) 350 (by decide +kernel) (by decide)
theorem fl_X0_74 : FL RX0 74 1 11 3 := FL.of _ rfl (by decide) 352 (by decide +kernel) (by decide)
theorem fl_X0_77 : FL RX0 77 1 12 0 := FL.of _ rfl (by decide) 353 (by decide +kernel) (by decide)
theorem fl_X0_81 : FL RX0 81 1 13 1 := FL.of _ rfl (by decide) 355 (by decide +kernel) (by decide)
theorem fl_X0_85 : FL RX0 85 1 14 1 := FL.of _ rfl (by decide) 357 (by decide +kernel) (by decide)
theorem fl_X0_88 : FL RX0 88 1 15 1 := FL.of _ rfl (by decide) 359 (by decide +kernel) (by decide)
theorem fl_X0_91 : FL RX0 91 1 16 0 := FL.of _ rfl (by decide) 361 (by decide +kernel) (by decide)
theorem fl_X0_94 : FL RX0 94 1 17 0 := FL.of _ rfl (by decide) 363 (by decide +kernel) (by decide)
theorem fl_X10_10 : FL RX10 10 11 0 3 := FL.of _ rfl (by decide) 401 (by decide +kernel) (by decide)
theorem fl_X1_17 : FL RX1 17 2 0 3 := FL.of _ rfl (by decide) 158 (by decide +kernel) (by decide)
theorem fl_X1_23 : FL RX1 23 2 1 0 := FL.of _ rfl (by decide) 160 (by decide +kernel) (by decide)
theorem fl_X1_27 : FL RX1 27 2 2 0 := FL.of _ rfl (by decide) 163 (by decide +kernel) (by decide)
theorem fl_X1_30 : FL RX1 30 2 3 0 := FL.of _ rfl (by decide) 166 (by decide +kernel) (by decide)
theorem fl_X1_33 : FL RX1 33 2 4 0 := FL.of _ rfl (by decide) 168 (by decide +kernel) (by decide)
theorem fl_X1_36 : FL RX1 36 2 5 0 := FL.of _ rfl (by decide) 171 (by decide +kernel) (by decide)
theorem fl_X1_39 : FL RX1 39 2 6 0 := FL.of _ rfl (by decide) 174 (by decide +kernel) (by decide)
theorem fl_X4_12 : FL RX4 12 5 0 3 := FL.of _ rfl (by decide) 300 (by decide +kernel) (by decide)
theorem fl_X4_18 : FL RX4 18 5 1 3 := FL.of _ rfl (by decide) 303 (by decide +kernel) (by decide)
theorem fl_X4_22 : FL RX4 22 5 2 3 := FL.of _ rfl (by decide) 305 (by decide +kernel) (by decide)
theorem fl_X4_25 : FL RX4 25 5 3 3 := FL.of _ rfl (by decide) 306 (by decide +kernel) (by decide)
theorem fl_X4_28 : FL RX4 28 5 4 0 := FL.of _ rfl (by decide) 309 (by decide +kernel) (by decide)
theorem fl_X4_32 : FL RX4 32 5 5 1 := FL.of _ rfl (by decide) 311 (by decide +kernel) (by decide)
theorem fl_X4_36 : FL RX4 36 5 6 0 := FL.of _ rfl (by decide) 314 (by decide +kernel) (by decide)
theorem fl_X5_15 : FL RX5 15 6 1 3 := FL.of _ rfl (by decide) 238 (by decide +kernel) (by decide)
theorem fl_X5_18 : FL RX5 18 6 2 3 := FL.of _ rfl (by decide) 241 (by decide +kernel) (by decide)
theorem fl_X5_21 : FL RX5 21 6 3 3 := FL.of _ rfl (by decide) 243 (by decide +kernel) (by decide)
theorem fl_X5_25 : FL RX5 25 6 4 3 := FL.of _ rfl (by decide) 244 (by decide +kernel) (by decide)
theorem fl_X5_28 : FL RX5 28 6 5 0 := FL.of _ rfl (by decide) 246 (by decide +kernel) (by decide)
theorem fl_X5_32 : FL RX5 32 6 6 0 := FL.of _ rfl (by decide) 249 (by decide +kernel) (by decide)
theorem fl_X5_9 : FL RX5 9 6 0 3 := FL.of _ rfl (by decide) 236 (by decide +kernel) (by decide)
theorem fl_X6_15 : FL RX6 15 7 1 0 := FL.of _ rfl (by decide) 600 (by decide +kernel) (by decide)
theorem fl_X6_18 : FL RX6 18 7 2 0 := FL.of _ rfl (by decide) 604 (by decide +kernel) (by decide)
theorem fl_X6_21 : FL RX6 21 7 3 0 := FL.of _ rfl (by decide) 608 (by decide +kernel) (by decide)
theorem fl_X6_24 : FL RX6 24 7 4 0 := FL.of _ rfl (by decide) 611 (by decide +kernel) (by decide)
theorem fl_X6_27 : FL RX6 27 7 5 0 := FL.of _ rfl (by decide) 614 (by decide +kernel) (by decide)
theorem fl_X6_9 : FL RX6 9 7 0 0 := FL.of _ rfl (by decide) 596 (by decide +kernel) (by decide)
theorem fl_X7_15 : FL RX7 15 8 1 3 := FL.of _ rfl (by decide) 275 (by decide +kernel) (by decide)
theorem fl_X7_18 : FL RX7 18 8 2 3 := FL.of _ rfl (by decide) 277 (by decide +kernel) (by decide)
theorem fl_X7_21 : FL RX7 21 8 3 3 := FL.of _ rfl (by decide) 278 (by decide +kernel) (by decide)
theorem fl_X7_24 : FL RX7 24 8 4 0 := FL.of _ rfl (by decide) 279 (by decide +kernel) (by decide)
theorem fl_X7_9 : FL RX7 9 8 0 3 := FL.of _ rfl (by decide) 273 (by decide +kernel) (by decide)
theorem fl_X8_15 : FL RX8 15 9 1 3 := FL.of _ rfl (by decide) 203 (by decide +kernel) (by decide)
theorem fl_X8_18 : FL RX8 18 9 2 0 := FL.of _ rfl (by decide) 206 (by decide +kernel) (by decide)
theorem fl_X8_22 : FL RX8 22 9 3 1 := FL.of _ rfl (by decide) 208 (by decide +kernel) (by decide)
theorem fl_X8_26 : FL RX8 26 9 4 0 := FL.of _ rfl (by decide) 209 (by decide +kernel) (by decide)
theorem fl_X8_9 : FL RX8 9 9 0 3 := FL.of _ rfl (by decide) 200 (by decide +kernel) (by decide)
theorem fl_X9_15 : FL RX9 15 10 1 0 := FL.of _ rfl (by decide) 118 (by decide +kernel) (by decide)
theorem fl_X9_18 : FL RX9 18 10 2 0 := FL.of _ rfl (by decide) 121 (by decide +kernel) (by decide)
theorem fl_X9_21 : FL RX9 21 10 3 0 := FL.of _ rfl (by decide) 124 (by decide +kernel) (by decide)
theorem fl_X9_24 : FL RX9 24 10 4 0 := FL.of _ rfl (by decide) 127 (by decide +kernel) (by decide)
theorem fl_X9_9 : FL RX9 9 10 0 0 := FL.of _ rfl (by decide) 115 (by decide +kernel) (by decide)
theorem fn_0_0 : FN 0 0 false := fun q h => by cases h; rfl
theorem fn_0_1 : FN 0 1 false := fun q h => by cases h; rfl
theorem fn_0_2 : FN 0 2 false := fun q h => by cases h; rfl
theorem fn_10_0 : FN 10 0 false := fun q h => by cases h; rfl
theorem fn_10_1 : FN 10 1 false := fun q h => by cases h; rfl
theorem fn_10_2 : FN 10 2 false := fun q h => by cases h; rfl
theorem fn_10_3 : FN 10 3 false := fun q h => by cases h; rfl
theorem fn_10_4 : FN 10 4 false := fun q h => by cases h; rfl
theorem fn_11_0 : FO 11 0 RX10 := fun q h => by cases h; exact ⟨rfl, rfl⟩
theorem fn_1_0 : FO 1 0 RX0 := fun q h => by cases h; exact ⟨rfl, rfl⟩
theorem fn_1_1 : FO 1 1 RX0 := fun q h => by cases h; exact ⟨rfl, rfl⟩
theorem fn_1_10 : FO 1 10 RX0 := fun q h => by cases h; exact ⟨rfl, rfl⟩
theorem fn_1_11 : FO 1 11 RX0 := fun q h => by cases h; exact ⟨rfl, rfl⟩
theorem fn_1_12 : FN 1 12 false := fun q h => by cases h; rfl
theorem fn_1_13 : FN 1 13 false := fun q h => by cases h; rfl
theorem fn_1_14 : FN 1 14 false := fun q h => by cases h; rfl
theorem fn_1_15 : FN 1 15 false := fun q h => by cases h; rfl
theorem fn_1_16 : FN 1 16 false := fun q h => by cases h; rfl
theorem fn_1_17 : FN 1 17 false := fun q h => by cases h; rfl
theorem fn_1_2 : FO 1 2 RX0 := fun q h => by cases h; exact ⟨rfl, rfl⟩
theorem fn_1_3 : FO 1 3 RX0 := fun q h => by cases h; exact ⟨rfl, rfl⟩
theorem fn_1_4 : FO 1 4 RX0 := fun q h => by cases h; exact ⟨rfl, rfl⟩
theorem fn_1_5 : FO 1 5 RX0 := fun q h => by cases h; exact ⟨rfl, rfl⟩
theorem fn_1_6 : FO 1 6 RX0 := fun q h => by cases h; exact ⟨rfl, rfl⟩
theorem fn_1_7 : FO 1 7 RX0 := fun q h => by cases h; exact ⟨rfl, rfl⟩
theorem fn_1_8 : FO 1 8 RX0 := fun q h => by cases h; exact ⟨rfl, rfl⟩
theorem fn_1_9 : FO 1 9 RX0 := fun q h => by cases h; exact ⟨rfl, rfl⟩
theorem fn_2_0 : FO 2 0 RX1 := fun q h => by cases h; exact ⟨rfl, rfl⟩
theorem fn_2_1 : FN 2 1 false := fun q h => by cases h; rfl
theorem fn_2_2 : FN 2 2 false := fun q h => by cases h; rfl
theorem fn_2_3 : FN 2 3 false := fun q h => by cases h; rfl
theorem fn_2_4 : FN 2 4 false := fun q h => by cases h; rfl
theorem fn_2_5 : FN 2 5 false := fun q h => by cases h; rfl
theorem fn_2_6 : FN 2 6 false := fun q h => by cases h; rfl
theorem fn_5_0 : FO 5 0 RX4 := fun q h => by cases h; exact ⟨rfl, rfl⟩
theorem fn_5_1 : FO 5 1 RX4 := fun q h => by cases h; exact ⟨rfl, rfl⟩
theorem fn_5_2 : FO 5 2 RX4 := fun q h => by cases h; exact ⟨rfl, rfl⟩
theorem fn_5_3 : FN 5 3 false := fun q h => by cases h; rfl
theorem fn_5_4 : FN 5 4 false := fun q h => by cases h; rfl
theorem fn_5_5 : FN 5 5 false := fun q h => by cases h; rfl
theorem fn_5_6 : FN 5 6 false := fun q h => by cases h; rfl
theorem fn_6_0 : FO 6 0 RX5 := fun q h => by cases h; exact ⟨rfl, rfl⟩
theorem fn_6_1 : FO 6 1 RX5 := fun q h => by cases h; exact ⟨rfl, rfl⟩
theorem fn_6_2 : FO 6 2 RX5 := fun q h => by cases h; exact ⟨rfl, rfl⟩
theorem fn_6_3 : FO 6 3 RX5 := fun q h => by cases h; exact ⟨rfl, rfl⟩
theorem fn_6_4 : FO 6 4 RX5 := fun q h => by cases h; exact ⟨rfl, rfl⟩
theorem fn_6_5 : FN 6 5 false := fun q h => by cases h; rfl
theorem fn_6_6 : FN 6 6 false := fun q h => by cases h; rfl
theorem fn_7_0 : FO 7 0 RX6 := fun q h => by cases h; exact ⟨rfl, rfl⟩
theorem fn_7_1 : FO 7 1 RX6 := fun q h => by cases h; exact ⟨rfl, rfl⟩
theorem fn_7_2 : FO 7 2 RX6 := fun q h => by cases h; exact ⟨rfl, rfl⟩
theorem fn_7_3 : FO 7 3 RX6 := fun q h => by cases h; exact ⟨rfl, rfl⟩
theorem fn_7_4 : FO 7 4 RX6 := fun q h => by cases h; exact ⟨rfl, rfl⟩
theorem fn_7_5 : FO 7 5 RX6 := fun q h => by cases h; exact ⟨rfl, rfl⟩
theorem fn_8_0 : FO 8 0 RX7 := fun q h => by cases h; exact ⟨rfl, rfl⟩
theorem fn_8_1 : FO 8 1 RX7 := fun q h => by cases h; exact ⟨rfl, rfl⟩
theorem fn_8_2 : FO 8 2 RX7 := fun q h => by cases h; exact ⟨rfl, rfl⟩
theorem fn_8_3 : FO 8 3 RX7 := fun q h => by cases h; exact ⟨rfl, rfl⟩
theorem fn_8_4 : FN 8 4 false := fun q h => by cases h; rfl
theorem fn_9_0 : FO 9 0 RX8 := fun q h => by cases h; exact ⟨rfl, rfl⟩
theorem fn_9_1 : FO 9 1 RX8 := fun q h => by cases h; exact ⟨rfl, rfl⟩
theorem fn_9_2 : FN 9 2 false := fun q h => by cases h; rfl
theorem fn_9_3 : FN 9 3 false := fun q h => by cases h; rfl
theorem fn_9_4 : FN 9 4 false := fun q h => by cases h; rfl
theorem iv_bipush_10 : (Int8.ofInt (10)).toInt32 = 10 := by decide
theorem iv_bipush_16 : (Int8.ofInt (16)).toInt32 = 16 := by decide
theorem iv_bipush_24 : (Int8.ofInt (24)).toInt32 = 24 := by decide
theorem iv_bipush_6 : (Int8.ofInt (6)).toInt32 = 6 := by decide
theorem iv_bipush_64 : (Int8.ofInt (64)).toInt32 = 64 := by decide
theorem iv_bipush_8 : (Int8.ofInt (8)).toInt32 = 8 := by decide
theorem iv_iconst_0 : Int32.ofInt (0) = 0 := by decide
theorem iv_iconst_1 : Int32.ofInt (1) = 1 := by decide
theorem iv_iconst_2 : Int32.ofInt (2) = 2 := by decide
theorem iv_iconst_4 : Int32.ofInt (4) = 4 := by decide
theorem iv_iconst_m1 : Int32.ofInt (-1) = (-1) := by decide
theorem kl_J7_2 : Cond.classLink RJ7 2 "java/lang/Object" ∈ lw_tbl := List.mem_of_getElem? (i := 685) (by decide +kernel)
theorem kl_Jx4a65c_7 : Cond.classLink RJx4a65c 7 "java/lang/Object" ∈ lw_tbl := List.mem_of_getElem? (i := 693) (by decide +kernel)
theorem lc_J8_200 : Cond.constant RJ8 200 2147483639 ∈ lw_tbl := List.mem_of_getElem? (i := 653) (by decide +kernel)
theorem nw_X0_18 : NWs RX0 18 10 5 := NWs.of _ rfl rfl 109 110 44 (by decide +kernel) (by decide +kernel) (by decide +kernel)
theorem nw_X0_25 : NWs RX0 25 2 7 := NWs.of _ rfl rfl 141 142 45 (by decide +kernel) (by decide +kernel) (by decide +kernel)
theorem nw_X0_32 : NWs RX0 32 9 5 := NWs.of _ rfl rfl 194 195 47 (by decide +kernel) (by decide +kernel) (by decide +kernel)
theorem nw_X0_39 : NWs RX0 39 6 7 := NWs.of _ rfl rfl 222 223 48 (by decide +kernel) (by decide +kernel) (by decide +kernel)
theorem nw_X0_46 : NWs RX0 46 8 5 := NWs.of _ rfl rfl 267 268 49 (by decide +kernel) (by decide +kernel) (by decide +kernel)
theorem nw_X0_53 : NWs RX0 53 5 7 := NWs.of _ rfl rfl 292 293 50 (by decide +kernel) (by decide +kernel) (by decide +kernel)
theorem nw_X0_9 : NWs RX0 9 0 3 := NWs.of _ rfl rfl 83 84 43 (by decide +kernel) (by decide +kernel) (by decide +kernel)
theorem nw_X10_7 : NWs RX10 7 1 18 := NWs.of _ rfl rfl 77 78 40 (by decide +kernel) (by decide +kernel) (by decide +kernel)
theorem nw_X4_9 : NWs RX4 9 0 3 := NWs.of _ rfl rfl 298 84 43 (by decide +kernel) (by decide +kernel) (by decide +kernel)
theorem oi_Jxa1e45_1 : Cond.methodLink RJxa1e45 1 Lib.objectInit ∈ lw_tbl := List.mem_of_getElem? (i := 94) (by decide +kernel)
theorem oi_X0_3 : Cond.methodLink RX0 3 Lib.objectInit ∈ lw_tbl := List.mem_of_getElem? (i := 82) (by decide +kernel)
theorem oi_X10_1 : Cond.methodLink RX10 1 Lib.objectInit ∈ lw_tbl := List.mem_of_getElem? (i := 74) (by decide +kernel)
theorem oi_X1_3 : Cond.methodLink RX1 3 Lib.objectInit ∈ lw_tbl := List.mem_of_getElem? (i := 146) (by decide +kernel)
theorem oi_X4_3 : Cond.methodLink RX4 3 Lib.objectInit ∈ lw_tbl := List.mem_of_getElem? (i := 297) (by decide +kernel)
theorem oi_X5_3 : Cond.methodLink RX5 3 Lib.objectInit ∈ lw_tbl := List.mem_of_getElem? (i := 227) (by decide +kernel)
theorem oi_X6_3 : Cond.methodLink RX6 3 Lib.objectInit ∈ lw_tbl := List.mem_of_getElem? (i := 595) (by decide +kernel)
theorem oi_X7_3 : Cond.methodLink RX7 3 Lib.objectInit ∈ lw_tbl := List.mem_of_getElem? (i := 272) (by decide +kernel)
theorem oi_X8_3 : Cond.methodLink RX8 3 Lib.objectInit ∈ lw_tbl := List.mem_of_getElem? (i := 199) (by decide +kernel)
theorem oi_X9_3 : Cond.methodLink RX9 3 Lib.objectInit ∈ lw_tbl := List.mem_of_getElem? (i := 114) (by decide +kernel)
def f_Jxa1e45_init_da8c8 (a0 : Nat) (μ : Mm) : Option Unit :=
  some (())
set_option maxRecDepth 100000 in
theorem s_Jxa1e45_init_da8c8 {l : Launch} {G : Gt} (hG : Gok l G) (a0 : Nat) (μ : Mm) (r : Unit) (h : f_Jxa1e45_init_da8c8 a0 μ = some r) : ZX l G mJxa1e45_init_da8c8 0 [(0, .ref a0)] [] μ (.inl none) μ := by
  unfold f_Jxa1e45_init_da8c8 at h
  refine zx_aload_n dJxa1e45_init_da8c8_0 rfl (q := 0) rfl ?_
  refine zx_objInit hG oi_Jxa1e45_1 w_oi2 w_oi3 (by decide) (by decide) (Nat.le_of_ble_eq_true rfl) dJxa1e45_init_da8c8_1 ?_
  cases h
  exact zx_vret dJxa1e45_init_da8c8_4 rfl
def f_Jxc12de_init_da8c8 (a0 : Nat) (μ : Mm) : Option (Unit × Mm) :=
  bd (f_Jxa1e45_init_da8c8 a0 μ) fun uu1 =>
  ck (mK μ a0 = 100) <|
  zl (sI μ a0 0 0) fun μ4 =>
  some ((), μ4)
set_option maxRecDepth 100000 in
theorem s_Jxc12de_init_da8c8 {l : Launch} {G : Gt} (hG : Gok l G) (a0 : Nat) (μ : Mm) (r : Unit) (μ' : Mm) (h : f_Jxc12de_init_da8c8 a0 μ = some (r, μ')) : ZX l G mJxc12de_init_da8c8 0 [(0, .ref a0)] [] μ (.inl none) μ' := by
  unfold f_Jxc12de_init_da8c8 at h
  refine zx_aload_n dJxc12de_init_da8c8_0 rfl (q := 0) rfl ?_
  obtain ⟨uu1, z2, h⟩ := bd_e h
  refine zx_callI (As := []) hG mf_Jxa1e45_init_da8c8 ci_Jxc12de_1 ⟨by decide, by decide⟩ rfl rfl (Nat.le_of_ble_eq_true rfl) (s_Jxa1e45_init_da8c8 hG _ _ _ z2) (Nat.le_of_ble_eq_true rfl) dJxc12de_init_da8c8_1 ?_
  refine zx_aload_n dJxc12de_init_da8c8_4 rfl (q := 0) rfl ?_
  refine zx_iconst (v := 0) dJxc12de_init_da8c8_5 iv_iconst_0 ?_
  obtain ⟨h3, h⟩ := ck_e h
  refine zx_putI hG fl_Jxc12de_7 fn_0_0 h3 dJxc12de_init_da8c8_6 ?_
  obtain ⟨μ4, e6, h⟩ := zlm_e h
  refine zx_mem e6 ?_
  have e5 : mK μ4 = mK μ := (congrArg mK e6).trans rfl
  cases h
  exact zx_vret dJxc12de_init_da8c8_9 rfl
def f_Jx4a65c_init_da8c8 (a0 : Nat) (μ : Mm) : Option (Unit × Mm) :=
  cl (f_Jxc12de_init_da8c8 a0 μ) fun _ μ3 =>
  bd (mR μ3 0 0) fun p4 =>
  ck (mK μ3 a0 = 100) <|
  zl (sR μ3 a0 1 (some p4)) fun μ7 =>
  some ((), μ7)
set_option maxRecDepth 100000 in
theorem s_Jx4a65c_init_da8c8 {l : Launch} {G : Gt} (hG : Gok l G) (a0 : Nat) (μ : Mm) (r : Unit) (μ' : Mm) (h : f_Jx4a65c_init_da8c8 a0 μ = some (r, μ')) : ZX l G mJx4a65c_init_da8c8 0 [(0, .ref a0)] [] μ (.inl none) μ' := by
  unfold f_Jx4a65c_init_da8c8 at h
  refine zx_aload_n dJx4a65c_init_da8c8_0 rfl (q := 0) rfl ?_
  obtain ⟨uu1, μ3, z2, h⟩ := cl_e h
  refine zx_callI (As := []) hG mf_Jxc12de_init_da8c8 ci_Jx4a65c_1 ⟨by decide, by decide⟩ rfl rfl (Nat.le_of_ble_eq_true rfl) (s_Jxc12de_init_da8c8 hG _ _ _ _ z2) (Nat.le_of_ble_eq_true rfl) dJx4a65c_init_da8c8_1 ?_
  refine zx_aload_n dJx4a65c_init_da8c8_4 rfl (q := 0) rfl ?_
  obtain ⟨p4, h5, h⟩ := bd_e h
  refine zx_getsD hG h5 rfl dJx4a65c_init_da8c8_5 ?_
  obtain ⟨h6, h⟩ := ck_e h
  refine zx_putR hG fl_Jx4a65c_9 fn_0_1 h6 dJx4a65c_init_da8c8_8 ?_
  obtain ⟨μ7, e9, h⟩ := zlm_e h
  refine zx_mem e9 ?_
  have e8 : mK μ7 = mK μ3 := (congrArg mK e9).trans rfl
  cases h
  exact zx_vret dJx4a65c_init_da8c8_11 rfl
def f_X9_init (a0 : Nat) (μ : Mm) : Option (Unit × Mm) :=
  ck (mK μ a0 = 110) <|
  zl (sI μ a0 0 2) fun μ2 =>
  zl (sI μ2 a0 1 8) fun μ5 =>
  zl (sI μ5 a0 2 4) fun μ8 =>
  zl (sI μ8 a0 3 ((-1))) fun μ11 =>
  zl (sI μ11 a0 4 ((-1))) fun μ14 =>
  some ((), μ14)
set_option maxRecDepth 100000 in
theorem s_X9_init {l : Launch} {G : Gt} (hG : Gok l G) (a0 : Nat) (μ : Mm) (r : Unit) (μ' : Mm) (h : f_X9_init a0 μ = some (r, μ')) : ZX l G mX9_init 0 [(0, .ref a0)] [] μ (.inl none) μ' := by
  unfold f_X9_init at h
  refine zx_aload_n dX9_init_0 rfl (q := 0) rfl ?_
  refine zx_objInit hG oi_X9_3 w_oi2 w_oi3 (by decide) (by decide) (Nat.le_of_ble_eq_true rfl) dX9_init_1 ?_
  refine zx_aload_n dX9_init_4 rfl (q := 0) rfl ?_
  refine zx_iconst (v := 2) dX9_init_5 iv_iconst_2 ?_
  obtain ⟨h1, h⟩ := ck_e h
  refine zx_putI hG fl_X9_9 fn_10_0 h1 dX9_init_6 ?_
  obtain ⟨μ2, e4, h⟩ := zlm_e h
  refine zx_mem e4 ?_
  have e3 : mK μ2 = mK μ := (congrArg mK e4).trans rfl
  refine zx_aload_n dX9_init_9 rfl (q := 0) rfl ?_
  refine zx_bipush (v := 8) dX9_init_10 iv_bipush_8 ?_
  refine zx_putI hG fl_X9_15 fn_10_1 (kp_o (e3) h1) dX9_init_12 ?_
  obtain ⟨μ5, e7, h⟩ := zlm_e h
  refine zx_mem e7 ?_
  have e6 : mK μ5 = mK μ2 := (congrArg mK e7).trans rfl
  refine zx_aload_n dX9_init_15 rfl (q := 0) rfl ?_
  refine zx_iconst (v := 4) dX9_init_16 iv_iconst_4 ?_
  refine zx_putI hG fl_X9_18 fn_10_2 (kp_o (Eq.trans e6 e3) h1) dX9_init_17 ?_
  obtain ⟨μ8, e10, h⟩ := zlm_e h
  refine zx_mem e10 ?_
  have e9 : mK μ8 = mK μ5 := (congrArg mK e10).trans rfl
  refine zx_aload_n dX9_init_20 rfl (q := 0) rfl ?_
  refine zx_iconst (v := (-1)) dX9_init_21 iv_iconst_m1 ?_
  refine zx_putI hG fl_X9_21 fn_10_3 (kp_o (Eq.trans (Eq.trans e9 e6) e3) h1) dX9_init_22 ?_
  obtain ⟨μ11, e13, h⟩ := zlm_e h
  refine zx_mem e13 ?_
  have e12 : mK μ11 = mK μ8 := (congrArg mK e13).trans rfl
  refine zx_aload_n dX9_init_25 rfl (q := 0) rfl ?_
  refine zx_iconst (v := (-1)) dX9_init_26 iv_iconst_m1 ?_
  refine zx_putI hG fl_X9_24 fn_10_4 (kp_o (Eq.trans (Eq.trans (Eq.trans e12 e9) e6) e3) h1) dX9_init_27 ?_
  obtain ⟨μ14, e16, h⟩ := zlm_e h
  refine zx_mem e16 ?_
  have e15 : mK μ14 = mK μ11 := (congrArg mK e16).trans rfl
  cases h
  exact zx_vret dX9_init_30 rfl
def f_X1_init (a0 : Nat) (μ : Mm) : Option (Unit × Mm) :=
  bd (mR μ 0 2) fun qq1 =>
  ck (smn 8) <|
  zl (mN μ) fun p4 =>
  zl (nw μ 21 (Int32.toNatClampNeg 8) (Int32.toNatClampNeg 8)) fun μ5 =>
  ck (mK μ5 a0 = 102) <|
  zl (sR μ5 a0 0 (some p4)) fun μ11 =>
  zl (sI μ11 a0 1 0) fun μ14 =>
  zl (sI μ14 a0 2 0) fun μ17 =>
  zl (sI μ17 a0 3 0) fun μ20 =>
  zl (sI μ20 a0 4 0) fun μ23 =>
  zl (sI μ23 a0 5 0) fun μ26 =>
  zl (sI μ26 a0 6 0) fun μ29 =>
  some ((), μ29)
set_option maxRecDepth 100000 in
theorem s_X1_init {l : Launch} {G : Gt} (hG : Gok l G) (a0 : Nat) (μ : Mm) (r : Unit) (μ' : Mm) (h : f_X1_init a0 μ = some (r, μ')) : ZX l G mX1_init 0 [(0, .ref a0)] [] μ (.inl none) μ' := by
  unfold f_X1_init at h
  refine zx_aload_n dX1_init_0 rfl (q := 0) rfl ?_
  refine zx_objInit hG oi_X1_3 w_oi2 w_oi3 (by decide) (by decide) (Nat.le_of_ble_eq_true rfl) dX1_init_1 ?_
  refine zx_aload_n dX1_init_4 rfl (q := 0) rfl ?_
  obtain ⟨qq1, h2, h⟩ := bd_e h
  refine zx_ldcS2 hG h2 dX1_init_5 ?_
  refine zx_strlenX1 hG (by assumption) (by decide) (by decide) dX1_init_7 ?_
  obtain ⟨h3, h⟩ := ck_e h
  refine zx_newa 21 (at9 := .int) hG w_ac_int (by decide) (by decide) (smn_e h3) (h3).2 dX1_init_10 ?_
  obtain ⟨p4, e7, h⟩ := zlm_e h
  obtain ⟨μ5, e8, h⟩ := zlm_e h
  refine zx_mem e8 (zx_stk e7 ?_)
  have h6 : mK μ5 p4 = 21 := nw_Kp e8 e7
  have h9 : isA 1 (mK μ5 p4) := by rw [h6]; decide
  obtain ⟨h10, h⟩ := ck_e h
  refine zx_putRF hG fl_X1_17 fn_2_0 rfl h10 dX1_init_12 ?_
  obtain ⟨μ11, e13, h⟩ := zlm_e h
  refine zx_mem e13 ?_
  have e12 : mK μ11 = mK μ5 := (congrArg mK e13).trans rfl
  refine zx_aload_n dX1_init_15 rfl (q := 0) rfl ?_
  refine zx_iconst (v := 0) dX1_init_16 iv_iconst_0 ?_
  refine zx_putI hG fl_X1_23 fn_2_1 (kp_o (e12) h10) dX1_init_17 ?_
  obtain ⟨μ14, e16, h⟩ := zlm_e h
  refine zx_mem e16 ?_
  have e15 : mK μ14 = mK μ11 := (congrArg mK e16).trans rfl
  refine zx_aload_n dX1_init_20 rfl (q := 0) rfl ?_
  refine zx_iconst (v := 0) dX1_init_21 iv_iconst_0 ?_
  refine zx_putI hG fl_X1_27 fn_2_2 (kp_o (Eq.trans e15 e12) h10) dX1_init_22 ?_
  obtain ⟨μ17, e19, h⟩ := zlm_e h
  refine zx_mem e19 ?_
  have e18 : mK μ17 = mK μ14 := (congrArg mK e19).trans rfl
  refine zx_aload_n dX1_init_25 rfl (q := 0) rfl ?_
  refine zx_iconst (v := 0) dX1_init_26 iv_iconst_0 ?_
  refine zx_putI hG fl_X1_30 fn_2_3 (kp_o (Eq.trans (Eq.trans e18 e15) e12) h10) dX1_init_27 ?_
  obtain ⟨μ20, e22, h⟩ := zlm_e h
  refine zx_mem e22 ?_
  have e21 : mK μ20 = mK μ17 := (congrArg mK e22).trans rfl
  refine zx_aload_n dX1_init_30 rfl (q := 0) rfl ?_
  refine zx_iconst (v := 0) dX1_init_31 iv_iconst_0 ?_
  refine zx_putI hG fl_X1_33 fn_2_4 (kp_o (Eq.trans (Eq.trans (Eq.trans e21 e18) e15) e12) h10) dX1_init_32 ?_
  obtain ⟨μ23, e25, h⟩ := zlm_e h
  refine zx_mem e25 ?_
  have e24 : mK μ23 = mK μ20 := (congrArg mK e25).trans rfl
  refine zx_aload_n dX1_init_35 rfl (q := 0) rfl ?_
  refine zx_iconst (v := 0) dX1_init_36 iv_iconst_0 ?_
  refine zx_putI hG fl_X1_36 fn_2_5 (kp_o (Eq.trans (Eq.trans (Eq.trans (Eq.trans e24 e21) e18) e15) e12) h10) dX1_init_37 ?_
  obtain ⟨μ26, e28, h⟩ := zlm_e h
  refine zx_mem e28 ?_
  have e27 : mK μ26 = mK μ23 := (congrArg mK e28).trans rfl
  refine zx_aload_n dX1_init_40 rfl (q := 0) rfl ?_
  refine zx_iconst (v := 0) dX1_init_41 iv_iconst_0 ?_
  refine zx_putI hG fl_X1_39 fn_2_6 (kp_o (Eq.trans (Eq.trans (Eq.trans (Eq.trans (Eq.trans e27 e24) e21) e18) e15) e12) h10) dX1_init_42 ?_
  obtain ⟨μ29, e31, h⟩ := zlm_e h
  refine zx_mem e31 ?_
  have e30 : mK μ29 = mK μ26 := (congrArg mK e31).trans rfl
  cases h
  exact zx_vret dX1_init_45 rfl
def f_X8_init (a0 : Nat) (μ : Mm) : Option (Unit × Mm) :=
  ck (smn 8) <|
  zl (mN μ) fun p2 =>
  zl (nw μ 21 (Int32.toNatClampNeg 8) (Int32.toNatClampNeg 8)) fun μ3 =>
  ck (mK μ3 a0 = 109) <|
  zl (sR μ3 a0 0 (some p2)) fun μ9 =>
  ck (smn 64) <|
  zl (mN μ9) fun p13 =>
  zl (nw μ9 21 (Int32.toNatClampNeg 64) (Int32.toNatClampNeg 64)) fun μ14 =>
  ck (mK μ14 a0 = 109) <|
  zl (sR μ14 a0 1 (some p13)) fun μ20 =>
  zl (sI μ20 a0 2 0) fun μ23 =>
  zl (sI μ23 a0 3 0) fun μ26 =>
  zl (sI μ26 a0 4 0) fun μ29 =>
  some ((), μ29)
set_option maxRecDepth 100000 in
theorem s_X8_init {l : Launch} {G : Gt} (hG : Gok l G) (a0 : Nat) (μ : Mm) (r : Unit) (μ' : Mm) (h : f_X8_init a0 μ = some (r, μ')) : ZX l G mX8_init 0 [(0, .ref a0)] [] μ (.inl none) μ' := by
  unfold f_X8_init at h
  refine zx_aload_n dX8_init_0 rfl (q := 0) rfl ?_
  refine zx_objInit hG oi_X8_3 w_oi2 w_oi3 (by decide) (by decide) (Nat.le_of_ble_eq_true rfl) dX8_init_1 ?_
  refine zx_aload_n dX8_init_4 rfl (q := 0) rfl ?_
  refine zx_bipush (v := 8) dX8_init_5 iv_bipush_8 ?_
  obtain ⟨h1, h⟩ := ck_e h
  refine zx_newa 21 (at9 := .int) hG w_ac_int (by decide) (by decide) (smn_e h1) (h1).2 dX8_init_7 ?_
  obtain ⟨p2, e5, h⟩ := zlm_e h
  obtain ⟨μ3, e6, h⟩ := zlm_e h
  refine zx_mem e6 (zx_stk e5 ?_)
  have h4 : mK μ3 p2 = 21 := nw_Kp e6 e5
  have h7 : isA 1 (mK μ3 p2) := by rw [h4]; decide
  obtain ⟨h8, h⟩ := ck_e h
  refine zx_putRF hG fl_X8_9 fn_9_0 rfl h8 dX8_init_9 ?_
  obtain ⟨μ9, e11, h⟩ := zlm_e h
  refine zx_mem e11 ?_
  have e10 : mK μ9 = mK μ3 := (congrArg mK e11).trans rfl
  refine zx_aload_n dX8_init_12 rfl (q := 0) rfl ?_
  refine zx_bipush (v := 64) dX8_init_13 iv_bipush_64 ?_
  obtain ⟨h12, h⟩ := ck_e h
  refine zx_newa 21 (at9 := .int) hG w_ac_int (by decide) (by decide) (smn_e h12) (h12).2 dX8_init_15 ?_
  obtain ⟨p13, e16, h⟩ := zlm_e h
  obtain ⟨μ14, e17, h⟩ := zlm_e h
  refine zx_mem e17 (zx_stk e16 ?_)
  have h15 : mK μ14 p13 = 21 := nw_Kp e17 e16
  have h18 : isA 1 (mK μ14 p13) := by rw [h15]; decide
  obtain ⟨h19, h⟩ := ck_e h
  refine zx_putRF hG fl_X8_15 fn_9_1 rfl h19 dX8_init_17 ?_
  obtain ⟨μ20, e22, h⟩ := zlm_e h
  refine zx_mem e22 ?_
  have e21 : mK μ20 = mK μ14 := (congrArg mK e22).trans rfl
  refine zx_aload_n dX8_init_20 rfl (q := 0) rfl ?_
  refine zx_iconst (v := 0) dX8_init_21 iv_iconst_0 ?_
  refine zx_putI hG fl_X8_18 fn_9_2 (kp_o (e21) h19) dX8_init_22 ?_
  obtain ⟨μ23, e25, h⟩ := zlm_e h
  refine zx_mem e25 ?_
  have e24 : mK μ23 = mK μ20 := (congrArg mK e25).trans rfl
  refine zx_aload_n dX8_init_25 rfl (q := 0) rfl ?_
  refine zx_iconst (v := 0) dX8_init_26 iv_iconst_0 ?_
  refine zx_putZ hG fl_X8_22 fn_9_3 (kp_o (Eq.trans e24 e21) h19) zb_0 dX8_init_27 ?_
  obtain ⟨μ26, e28, h⟩ := zlm_e h
  refine zx_mem e28 ?_
  have e27 : mK μ26 = mK μ23 := (congrArg mK e28).trans rfl
  refine zx_aload_n dX8_init_30 rfl (q := 0) rfl ?_
  refine zx_iconst (v := 0) dX8_init_31 iv_iconst_0 ?_
  refine zx_putI hG fl_X8_26 fn_9_4 (kp_o (Eq.trans (Eq.trans e27 e24) e21) h19) dX8_init_32 ?_
  obtain ⟨μ29, e31, h⟩ := zlm_e h
  refine zx_mem e31 ?_
  have e30 : mK μ29 = mK μ26 := (congrArg mK e31).trans rfl
  cases h
  exact zx_vret dX8_init_35 rfl
def f_X5_putBehind (a0 : Nat) (x1 : Int32) (μ : Mm) : Option (Unit × Mm) :=
  ck (mK μ a0 = 106) <|
  if 24 ≤ (mI μ a0 5) then
    some ((), μ)
  else
    bd (mR μ a0 4) fun p3 =>
    ck (isA 1 (mK μ p3)) <|
    ck (inb (mI μ a0 5) (mL μ p3)) <|
    zl (sI μ p3 (Int32.toNatClampNeg (mI μ a0 5)) x1) fun μ7 =>
    zl (sI μ7 a0 5 ((mI μ7 a0 5) + 1)) fun μ10 =>
    some ((), μ10)
set_option maxRecDepth 100000 in
theorem s_X5_putBehind {l : Launch} {G : Gt} (hG : Gok l G) (a0 : Nat) (x1 : Int32) (μ : Mm) (r : Unit) (μ' : Mm) (h : f_X5_putBehind a0 x1 μ = some (r, μ')) : ZX l G mX5_putBehind 0 [(0, .ref a0), (1, .int x1)] [] μ (.inl none) μ' := by
  unfold f_X5_putBehind at h
  refine zx_aload_n dX5_putBehind_0 rfl (q := 0) rfl ?_
  obtain ⟨h1, h⟩ := ck_e h
  refine zx_getI hG fl_X5_28 h1 dX5_putBehind_1 ?_
  refine zx_bipush (v := 24) dX5_putBehind_4 iv_bipush_24 ?_
  by_cases c2 : 24 ≤ (mI μ a0 5)
  · have h := it_t c2 h
    refine zx_icmp_ge_t (tgt := 29) dX5_putBehind_6 (by decide) c2 ?_
    cases h
    exact zx_vret dX5_putBehind_29 rfl
  · have h := it_f c2 h
    refine zx_icmp_ge_f (tgt := 29) dX5_putBehind_6 (by decide) c2 ?_
    refine zx_aload_n dX5_putBehind_9 rfl (q := 0) rfl ?_
    obtain ⟨p3, h4, h⟩ := bd_e h
    refine zx_getR hG fl_X5_25 h1 h4 dX5_putBehind_10 ?_
    refine zx_aload_n dX5_putBehind_13 rfl (q := 0) rfl ?_
    refine zx_getI hG fl_X5_28 h1 dX5_putBehind_14 ?_
    refine zx_iload_n dX5_putBehind_17 rfl (q := 1) rfl ?_
    obtain ⟨h5, h⟩ := ck_e h
    obtain ⟨h6, h⟩ := ck_e h
    refine zx_iast hG rfl (h5).1 (h5).2 (inb_e h6) dX5_putBehind_18 ?_
    obtain ⟨μ7, e9, h⟩ := zlm_e h
    refine zx_mem e9 ?_
    have e8 : mK μ7 = mK μ := (congrArg mK e9).trans rfl
    refine zx_aload_n dX5_putBehind_19 rfl (q := 0) rfl ?_
    refine zx_dup dX5_putBehind_20 rfl ?_
    refine zx_getI hG fl_X5_28 (kp_o (e8) h1) dX5_putBehind_21 ?_
    refine zx_iconst (v := 1) dX5_putBehind_24 iv_iconst_1 ?_
    refine zx_iadd dX5_putBehind_25 ?_
    refine zx_putI hG fl_X5_28 fn_6_5 (kp_o (e8) h1) dX5_putBehind_26 ?_
    obtain ⟨μ10, e12, h⟩ := zlm_e h
    refine zx_mem e12 ?_
    have e11 : mK μ10 = mK μ7 := (congrArg mK e12).trans rfl
    cases h
    exact zx_vret dX5_putBehind_29 rfl
def f_X5_fillLine_b13 : Nat → Nat → Int32 → Mm → Option (Unit × Mm)
  | 0, _, _, _ => none
  | n + 1, a0, x2, μ =>
  ck (mK μ a0 = 106) <|
  if (mI μ a0 6) ≤ x2 then
    some ((), μ)
  else
    cl (f_X5_putBehind a0 x2 μ) fun _ μ12 =>
    f_X5_fillLine_b13 n a0 (x2 + 1) μ12
def f_X5_fillLine (a0 : Nat) (x1 : Int32) (μ : Mm) : Option (Unit × Mm) :=
  ck (mK μ a0 = 106) <|
  zl (sI μ a0 6 x1) fun μ2 =>
  zl (sI μ2 a0 5 0) fun μ5 =>
  f_X5_fillLine_b13 5000 a0 8 μ5
set_option maxRecDepth 100000 in
theorem s_X5_fillLine_b13 {l : Launch} {G : Gt} (hG : Gok l G) : ∀ (n : Nat) (a0 : Nat) (x2 : Int32) (μ : Mm) (r : Unit) (μ' : Mm), f_X5_fillLine_b13 n a0 x2 μ = some (r, μ') → ZX l G mX5_fillLine 13 [(0, .ref a0), (2, .int x2)] [] μ (.inl none) μ' := by
  intro n
  induction n with
  | zero =>
    intro a0 x2 μ r μ' h
    cases h
  | succ n ih =>
    intro a0 x2 μ r μ' h
    unfold f_X5_fillLine_b13 at h
    refine zx_iload_n dX5_fillLine_13 rfl (q := 1) rfl ?_
    refine zx_aload_n dX5_fillLine_14 rfl (q := 0) rfl ?_
    obtain ⟨h8, h⟩ := ck_e h
    refine zx_getI hG fl_X5_32 h8 dX5_fillLine_15 ?_
    by_cases c9 : (mI μ a0 6) ≤ x2
    · have h := it_t c9 h
      refine zx_icmp_ge_t (tgt := 32) dX5_fillLine_18 (by decide) c9 ?_
      cases h
      exact zx_vret dX5_fillLine_32 rfl
    · have h := it_f c9 h
      refine zx_icmp_ge_f (tgt := 32) dX5_fillLine_18 (by decide) c9 ?_
      refine zx_aload_n dX5_fillLine_21 rfl (q := 0) rfl ?_
      refine zx_iload_n dX5_fillLine_22 rfl (q := 1) rfl ?_
      obtain ⟨uu10, μ12, z11, h⟩ := cl_e h
      refine zx_callV (As := [.int x2]) hG mf_X5_putBehind cv_X5_39 h8 ⟨by decide, by decide⟩ rfl rfl (Nat.le_of_ble_eq_true rfl) (s_X5_putBehind hG _ _ _ _ _ z11) (Nat.le_of_ble_eq_true rfl) dX5_fillLine_23 ?_
      refine zx_iinc (q := 1) (v := x2 + 1) (L' := [(2, .int (x2 + 1)), (0, .ref a0)]) dX5_fillLine_26 rfl rfl (by decide) rfl ?_
      refine zx_goto (tgt := 13) dX5_fillLine_29 (by decide) ?_
      refine zx_sub (L' := [(0, .ref a0), (2, .int (x2 + 1))]) [1, 0] rfl ?_
      exact ih _ _ _ _ _ h
set_option maxRecDepth 100000 in
theorem s_X5_fillLine {l : Launch} {G : Gt} (hG : Gok l G) (a0 : Nat) (x1 : Int32) (μ : Mm) (r : Unit) (μ' : Mm) (h : f_X5_fillLine a0 x1 μ = some (r, μ')) : ZX l G mX5_fillLine 0 [(0, .ref a0), (1, .int x1)] [] μ (.inl none) μ' := by
  unfold f_X5_fillLine at h
  refine zx_aload_n dX5_fillLine_0 rfl (q := 0) rfl ?_
  refine zx_iload_n dX5_fillLine_1 rfl (q := 1) rfl ?_
  obtain ⟨h1, h⟩ := ck_e h
  refine zx_putI hG fl_X5_32 fn_6_6 h1 dX5_fillLine_2 ?_
  obtain ⟨μ2, e4, h⟩ := zlm_e h
  refine zx_mem e4 ?_
  have e3 : mK μ2 = mK μ := (congrArg mK e4).trans rfl
  refine zx_aload_n dX5_fillLine_5 rfl (q := 0) rfl ?_
  refine zx_iconst (v := 0) dX5_fillLine_6 iv_iconst_0 ?_
  refine zx_putI hG fl_X5_28 fn_6_5 (kp_o (e3) h1) dX5_fillLine_7 ?_
  obtain ⟨μ5, e7, h⟩ := zlm_e h
  refine zx_mem e7 ?_
  have e6 : mK μ5 = mK μ2 := (congrArg mK e7).trans rfl
  refine zx_bipush (v := 8) dX5_fillLine_10 iv_bipush_8 ?_
  refine zx_istore_n (L' := [(2, .int 8), (0, .ref a0), (1, .int x1)]) dX5_fillLine_12 rfl (by decide) rfl ?_
  refine zx_sub (L' := [(0, .ref a0), (2, .int 8)]) [1, 0] rfl ?_
  exact s_X5_fillLine_b13 hG 5000 _ _ _ _ _ h
def f_X5_init_b89 (a0 : Nat) (μ : Mm) : Option (Unit × Mm) :=
  ck (mK μ a0 = 106) <|
  cl (f_X5_fillLine a0 16 μ) fun _ μ88 =>
  some ((), μ88)
def f_X5_init_b56 : Nat → Nat → Int32 → Mm → Option (Unit × Mm)
  | 0, _, _, _ => none
  | n + 1, a0, x1, μ =>
  if 8 ≤ x1 then
    f_X5_init_b89 a0 μ
  else
    ck (mK μ a0 = 106) <|
    bd (mR μ a0 0) fun p64 =>
    ck (isA 1 (mK μ p64)) <|
    ck (inb x1 (mL μ p64)) <|
    zl (sI μ p64 (Int32.toNatClampNeg x1) x1) fun μ68 =>
    bd (mR μ68 a0 1) fun p71 =>
    ck (isA 1 (mK μ68 p71)) <|
    ck (inb x1 (mL μ68 p71)) <|
    zl (sI μ68 p71 (Int32.toNatClampNeg x1) x1) fun μ75 =>
    bd (mR μ75 a0 3) fun p78 =>
    ck (isA 2 (mK μ75 p78)) <|
    ck (inb x1 (mL μ75 p78)) <|
    zl (sI μ75 p78 (Int32.toNatClampNeg x1) 1) fun μ82 =>
    f_X5_init_b56 n a0 (x1 + 1) μ82
def f_X5_init (a0 : Nat) (μ : Mm) : Option (Unit × Mm) :=
  ck (smn 8) <|
  zl (mN μ) fun p2 =>
  zl (nw μ 21 (Int32.toNatClampNeg 8) (Int32.toNatClampNeg 8)) fun μ3 =>
  ck (mK μ3 a0 = 106) <|
  zl (sR μ3 a0 0 (some p2)) fun μ9 =>
  ck (smn 8) <|
  zl (mN μ9) fun p13 =>
  zl (nw μ9 21 (Int32.toNatClampNeg 8) (Int32.toNatClampNeg 8)) fun μ14 =>
  ck (mK μ14 a0 = 106) <|
  zl (sR μ14 a0 1 (some p13)) fun μ20 =>
  ck (smn 24) <|
  zl (mN μ20) fun p24 =>
  zl (nw μ20 21 (Int32.toNatClampNeg 24) (Int32.toNatClampNeg 24)) fun μ25 =>
  ck (mK μ25 a0 = 106) <|
  zl (sR μ25 a0 2 (some p24)) fun μ31 =>
  ck (smn 24) <|
  zl (mN μ31) fun p35 =>
  zl (nw μ31 22 (Int32.toNatClampNeg 24) (Int32.toNatClampNeg 24)) fun μ36 =>
  ck (mK μ36 a0 = 106) <|
  zl (sR μ36 a0 3 (some p35)) fun μ42 =>
  ck (smn 24) <|
  zl (mN μ42) fun p46 =>
  zl (nw μ42 21 (Int32.toNatClampNeg 24) (Int32.toNatClampNeg 24)) fun μ47 =>
  ck (mK μ47 a0 = 106) <|
  zl (sR μ47 a0 4 (some p46)) fun μ53 =>
  zl (sI μ53 a0 5 0) fun μ56 =>
  zl (sI μ56 a0 6 0) fun μ59 =>
  f_X5_init_b56 5000 a0 0 μ59
set_option maxRecDepth 100000 in
theorem s_X5_init_b89 {l : Launch} {G : Gt} (hG : Gok l G) (a0 : Nat) (μ : Mm) (r : Unit) (μ' : Mm) (h : f_X5_init_b89 a0 μ = some (r, μ')) : ZX l G mX5_init 89 [(0, .ref a0)] [] μ (.inl none) μ' := by
  unfold f_X5_init_b89 at h
  refine zx_aload_n dX5_init_89 rfl (q := 0) rfl ?_
  refine zx_bipush (v := 16) dX5_init_90 iv_bipush_16 ?_
  obtain ⟨h85, h⟩ := ck_e h
  obtain ⟨uu86, μ88, z87, h⟩ := cl_e h
  refine zx_callV (As := [.int 16]) hG mf_X5_fillLine cv_X5_35 h85 ⟨by decide, by decide⟩ rfl rfl (Nat.le_of_ble_eq_true rfl) (s_X5_fillLine hG _ _ _ _ _ z87) (Nat.le_of_ble_eq_true rfl) dX5_init_92 ?_
  cases h
  exact zx_vret dX5_init_95 rfl
set_option maxRecDepth 100000 in
theorem s_X5_init_b56 {l : Launch} {G : Gt} (hG : Gok l G) : ∀ (n : Nat) (a0 : Nat) (x1 : Int32) (μ : Mm) (r : Unit) (μ' : Mm), f_X5_init_b56 n a0 x1 μ = some (r, μ') → ZX l G mX5_init 56 [(0, .ref a0), (1, .int x1)] [] μ (.inl none) μ' := by
  intro n
  induction n with
  | zero =>
    intro a0 x1 μ r μ' h
    cases h
  | succ n ih =>
    intro a0 x1 μ r μ' h
    unfold f_X5_init_b56 at h
    refine zx_iload_n dX5_init_56 rfl (q := 1) rfl ?_
    refine zx_bipush (v := 8) dX5_init_57 iv_bipush_8 ?_
    by_cases c62 : 8 ≤ x1
    · have h := it_t c62 h
      refine zx_icmp_ge_t (tgt := 89) dX5_init_59 (by decide) c62 ?_
      refine zx_sub (L' := [(0, .ref a0)]) [0] rfl ?_
      exact s_X5_init_b89 hG _ _ _ _ h
    · have h := it_f c62 h
      refine zx_icmp_ge_f (tgt := 89) dX5_init_59 (by decide) c62 ?_
      refine zx_aload_n dX5_init_62 rfl (q := 0) rfl ?_
      obtain ⟨h63, h⟩ := ck_e h
      obtain ⟨p64, h65, h⟩ := bd_e h
      refine zx_getR hG fl_X5_9 h63 h65 dX5_init_63 ?_
      refine zx_iload_n dX5_init_66 rfl (q := 1) rfl ?_
      refine zx_iload_n dX5_init_67 rfl (q := 1) rfl ?_
      obtain ⟨h66, h⟩ := ck_e h
      obtain ⟨h67, h⟩ := ck_e h
      refine zx_iast hG rfl (h66).1 (h66).2 (inb_e h67) dX5_init_68 ?_
      obtain ⟨μ68, e70, h⟩ := zlm_e h
      refine zx_mem e70 ?_
      have e69 : mK μ68 = mK μ := (congrArg mK e70).trans rfl
      refine zx_aload_n dX5_init_69 rfl (q := 0) rfl ?_
      obtain ⟨p71, h72, h⟩ := bd_e h
      refine zx_getR hG fl_X5_15 (kp_o (e69) h63) h72 dX5_init_70 ?_
      refine zx_iload_n dX5_init_73 rfl (q := 1) rfl ?_
      refine zx_iload_n dX5_init_74 rfl (q := 1) rfl ?_
      obtain ⟨h73, h⟩ := ck_e h
      obtain ⟨h74, h⟩ := ck_e h
      refine zx_iast hG rfl (h73).1 (h73).2 (inb_e h74) dX5_init_75 ?_
      obtain ⟨μ75, e77, h⟩ := zlm_e h
      refine zx_mem e77 ?_
      have e76 : mK μ75 = mK μ68 := (congrArg mK e77).trans rfl
      refine zx_aload_n dX5_init_76 rfl (q := 0) rfl ?_
      obtain ⟨p78, h79, h⟩ := bd_e h
      refine zx_getR hG fl_X5_21 (kp_o (Eq.trans e76 e69) h63) h79 dX5_init_77 ?_
      refine zx_iload_n dX5_init_80 rfl (q := 1) rfl ?_
      refine zx_iconst (v := 1) dX5_init_81 iv_iconst_1 ?_
      obtain ⟨h80, h⟩ := ck_e h
      obtain ⟨h81, h⟩ := ck_e h
      refine zx_zast hG rfl (h80).1 (h80).2 (inb_e h81) dX5_init_82 ?_
      obtain ⟨μ82, e84, h⟩ := zlm_e h
      refine zx_mem e84 ?_
      have e83 : mK μ82 = mK μ75 := (congrArg mK e84).trans rfl
      refine zx_iinc (q := 1) (v := x1 + 1) (L' := [(1, .int (x1 + 1)), (0, .ref a0)]) dX5_init_83 rfl rfl (by decide) rfl ?_
      refine zx_goto (tgt := 56) dX5_init_86 (by decide) ?_
      refine zx_sub (L' := [(0, .ref a0), (1, .int (x1 + 1))]) [1, 0] rfl ?_
      exact ih _ _ _ _ _ h
set_option maxRecDepth 100000 in
theorem s_X5_init {l : Launch} {G : Gt} (hG : Gok l G) (a0 : Nat) (μ : Mm) (r : Unit) (μ' : Mm) (h : f_X5_init a0 μ = some (r, μ')) : ZX l G mX5_init 0 [(0, .ref a0)] [] μ (.inl none) μ' := by
  unfold f_X5_init at h
  refine zx_aload_n dX5_init_0 rfl (q := 0) rfl ?_
  refine zx_objInit hG oi_X5_3 w_oi2 w_oi3 (by decide) (by decide) (Nat.le_of_ble_eq_true rfl) dX5_init_1 ?_
  refine zx_aload_n dX5_init_4 rfl (q := 0) rfl ?_
  refine zx_bipush (v := 8) dX5_init_5 iv_bipush_8 ?_
  obtain ⟨h1, h⟩ := ck_e h
  refine zx_newa 21 (at9 := .int) hG w_ac_int (by decide) (by decide) (smn_e h1) (h1).2 dX5_init_7 ?_
  obtain ⟨p2, e5, h⟩ := zlm_e h
  obtain ⟨μ3, e6, h⟩ := zlm_e h
  refine zx_mem e6 (zx_stk e5 ?_)
  have h4 : mK μ3 p2 = 21 := nw_Kp e6 e5
  have h7 : isA 1 (mK μ3 p2) := by rw [h4]; decide
  obtain ⟨h8, h⟩ := ck_e h
  refine zx_putRF hG fl_X5_9 fn_6_0 rfl h8 dX5_init_9 ?_
  obtain ⟨μ9, e11, h⟩ := zlm_e h
  refine zx_mem e11 ?_
  have e10 : mK μ9 = mK μ3 := (congrArg mK e11).trans rfl
  refine zx_aload_n dX5_init_12 rfl (q := 0) rfl ?_
  refine zx_bipush (v := 8) dX5_init_13 iv_bipush_8 ?_
  obtain ⟨h12, h⟩ := ck_e h
  refine zx_newa 21 (at9 := .int) hG w_ac_int (by decide) (by decide) (smn_e h12) (h12).2 dX5_init_15 ?_
  obtain ⟨p13, e16, h⟩ := zlm_e h
  obtain ⟨μ14, e17, h⟩ := zlm_e h
  refine zx_mem e17 (zx_stk e16 ?_)
  have h15 : mK μ14 p13 = 21 := nw_Kp e17 e16
  have h18 : isA 1 (mK μ14 p13) := by rw [h15]; decide
  obtain ⟨h19, h⟩ := ck_e h
  refine zx_putRF hG fl_X5_15 fn_6_1 rfl h19 dX5_init_17 ?_
  obtain ⟨μ20, e22, h⟩ := zlm_e h
  refine zx_mem e22 ?_
  have e21 : mK μ20 = mK μ14 := (congrArg mK e22).trans rfl
  refine zx_aload_n dX5_init_20 rfl (q := 0) rfl ?_
  refine zx_bipush (v := 24) dX5_init_21 iv_bipush_24 ?_
  obtain ⟨h23, h⟩ := ck_e h
  refine zx_newa 21 (at9 := .int) hG w_ac_int (by decide) (by decide) (smn_e h23) (h23).2 dX5_init_23 ?_
  obtain ⟨p24, e27, h⟩ := zlm_e h
  obtain ⟨μ25, e28, h⟩ := zlm_e h
  refine zx_mem e28 (zx_stk e27 ?_)
  have h26 : mK μ25 p24 = 21 := nw_Kp e28 e27
  have h29 : isA 1 (mK μ25 p24) := by rw [h26]; decide
  obtain ⟨h30, h⟩ := ck_e h
  refine zx_putRF hG fl_X5_18 fn_6_2 rfl h30 dX5_init_25 ?_
  obtain ⟨μ31, e33, h⟩ := zlm_e h
  refine zx_mem e33 ?_
  have e32 : mK μ31 = mK μ25 := (congrArg mK e33).trans rfl
  refine zx_aload_n dX5_init_28 rfl (q := 0) rfl ?_
  refine zx_bipush (v := 24) dX5_init_29 iv_bipush_24 ?_
  obtain ⟨h34, h⟩ := ck_e h
  refine zx_newa 22 (at9 := .boolean) hG w_ac_boolean (by decide) (by decide) (smn_e h34) (h34).2 dX5_init_31 ?_
  obtain ⟨p35, e38, h⟩ := zlm_e h
  obtain ⟨μ36, e39, h⟩ := zlm_e h
  refine zx_mem e39 (zx_stk e38 ?_)
  have h37 : mK μ36 p35 = 22 := nw_Kp e39 e38
  have h40 : isA 2 (mK μ36 p35) := by rw [h37]; decide
  obtain ⟨h41, h⟩ := ck_e h
  refine zx_putRF hG fl_X5_21 fn_6_3 rfl h41 dX5_init_33 ?_
  obtain ⟨μ42, e44, h⟩ := zlm_e h
  refine zx_mem e44 ?_
  have e43 : mK μ42 = mK μ36 := (congrArg mK e44).trans rfl
  refine zx_aload_n dX5_init_36 rfl (q := 0) rfl ?_
  refine zx_bipush (v := 24) dX5_init_37 iv_bipush_24 ?_
  obtain ⟨h45, h⟩ := ck_e h
  refine zx_newa 21 (at9 := .int) hG w_ac_int (by decide) (by decide) (smn_e h45) (h45).2 dX5_init_39 ?_
  obtain ⟨p46, e49, h⟩ := zlm_e h
  obtain ⟨μ47, e50, h⟩ := zlm_e h
  refine zx_mem e50 (zx_stk e49 ?_)
  have h48 : mK μ47 p46 = 21 := nw_Kp e50 e49
  have h51 : isA 1 (mK μ47 p46) := by rw [h48]; decide
  obtain ⟨h52, h⟩ := ck_e h
  refine zx_putRF hG fl_X5_25 fn_6_4 rfl h52 dX5_init_41 ?_
  obtain ⟨μ53, e55, h⟩ := zlm_e h
  refine zx_mem e55 ?_
  have e54 : mK μ53 = mK μ47 := (congrArg mK e55).trans rfl
  refine zx_aload_n dX5_init_44 rfl (q := 0) rfl ?_
  refine zx_iconst (v := 0) dX5_init_45 iv_iconst_0 ?_
  refine zx_putI hG fl_X5_28 fn_6_5 (kp_o (e54) h52) dX5_init_46 ?_
  obtain ⟨μ56, e58, h⟩ := zlm_e h
  refine zx_mem e58 ?_
  have e57 : mK μ56 = mK μ53 := (congrArg mK e58).trans rfl
  refine zx_aload_n dX5_init_49 rfl (q := 0) rfl ?_
  refine zx_iconst (v := 0) dX5_init_50 iv_iconst_0 ?_
  refine zx_putI hG fl_X5_32 fn_6_6 (kp_o (Eq.trans e57 e54) h52) dX5_init_51 ?_
  obtain ⟨μ59, e61, h⟩ := zlm_e h
  refine zx_mem e61 ?_
  have e60 : mK μ59 = mK μ56 := (congrArg mK e61).trans rfl
  refine zx_iconst (v := 0) dX5_init_54 iv_iconst_0 ?_
  refine zx_istore_n (L' := [(1, .int 0), (0, .ref a0)]) dX5_init_55 rfl (by decide) rfl ?_
  refine zx_sub (L' := [(0, .ref a0), (1, .int 0)]) [1, 0] rfl ?_
  exact s_X5_init_b56 hG 5000 _ _ _ _ _ h
def f_X7_init_b60 : Nat → Nat → Int32 → Mm → Option (Unit × Mm)
  | 0, _, _, _ => none
  | n + 1, a0, x1, μ =>
  if 16 ≤ x1 then
    some ((), μ)
  else
    ck (mK μ a0 = 108) <|
    bd (mR μ a0 1) fun p59 =>
    ck (isA 1 (mK μ p59)) <|
    ck (inb x1 (mL μ p59)) <|
    zl (sI μ p59 (Int32.toNatClampNeg x1) 6) fun μ63 =>
    f_X7_init_b60 n a0 (x1 + 1) μ63
def f_X7_init_b58 (a0 : Nat) (μ : Mm) : Option (Unit × Mm) :=
  f_X7_init_b60 5000 a0 0 μ
def f_X7_init_b40 : Nat → Nat → Int32 → Mm → Option (Unit × Mm)
  | 0, _, _, _ => none
  | n + 1, a0, x1, μ =>
  if 4 ≤ x1 then
    f_X7_init_b58 a0 μ
  else
    ck (mK μ a0 = 108) <|
    bd (mR μ a0 0) fun p50 =>
    ck (isA 1 (mK μ p50)) <|
    ck (inb x1 (mL μ p50)) <|
    zl (sI μ p50 (Int32.toNatClampNeg x1) ((-1))) fun μ54 =>
    f_X7_init_b40 n a0 (x1 + 1) μ54
def f_X7_init (a0 : Nat) (μ : Mm) : Option (Unit × Mm) :=
  ck (smn 4) <|
  zl (mN μ) fun p2 =>
  zl (nw μ 21 (Int32.toNatClampNeg 4) (Int32.toNatClampNeg 4)) fun μ3 =>
  ck (mK μ3 a0 = 108) <|
  zl (sR μ3 a0 0 (some p2)) fun μ9 =>
  ck (smn 16) <|
  zl (mN μ9) fun p13 =>
  zl (nw μ9 21 (Int32.toNatClampNeg 16) (Int32.toNatClampNeg 16)) fun μ14 =>
  ck (mK μ14 a0 = 108) <|
  zl (sR μ14 a0 1 (some p13)) fun μ20 =>
  ck (smn 2) <|
  zl (mN μ20) fun p24 =>
  zl (nw μ20 21 (Int32.toNatClampNeg 2) (Int32.toNatClampNeg 2)) fun μ25 =>
  ck (mK μ25 a0 = 108) <|
  zl (sR μ25 a0 2 (some p24)) fun μ31 =>
  ck (smn 2) <|
  zl (mN μ31) fun p35 =>
  zl (nw μ31 21 (Int32.toNatClampNeg 2) (Int32.toNatClampNeg 2)) fun μ36 =>
  ck (mK μ36 a0 = 108) <|
  zl (sR μ36 a0 3 (some p35)) fun μ42 =>
  zl (sI μ42 a0 4 0) fun μ45 =>
  f_X7_init_b40 5000 a0 0 μ45
set_option maxRecDepth 100000 in
theorem s_X7_init_b60 {l : Launch} {G : Gt} (hG : Gok l G) : ∀ (n : Nat) (a0 : Nat) (x1 : Int32) (μ : Mm) (r : Unit) (μ' : Mm), f_X7_init_b60 n a0 x1 μ = some (r, μ') → ZX l G mX7_init 60 [(0, .ref a0), (1, .int x1)] [] μ (.inl none) μ' := by
  intro n
  induction n with
  | zero =>
    intro a0 x1 μ r μ' h
    cases h
  | succ n ih =>
    intro a0 x1 μ r μ' h
    unfold f_X7_init_b60 at h
    refine zx_iload_n dX7_init_60 rfl (q := 1) rfl ?_
    refine zx_bipush (v := 16) dX7_init_61 iv_bipush_16 ?_
    by_cases c57 : 16 ≤ x1
    · have h := it_t c57 h
      refine zx_icmp_ge_t (tgt := 80) dX7_init_63 (by decide) c57 ?_
      cases h
      exact zx_vret dX7_init_80 rfl
    · have h := it_f c57 h
      refine zx_icmp_ge_f (tgt := 80) dX7_init_63 (by decide) c57 ?_
      refine zx_aload_n dX7_init_66 rfl (q := 0) rfl ?_
      obtain ⟨h58, h⟩ := ck_e h
      obtain ⟨p59, h60, h⟩ := bd_e h
      refine zx_getR hG fl_X7_15 h58 h60 dX7_init_67 ?_
      refine zx_iload_n dX7_init_70 rfl (q := 1) rfl ?_
      refine zx_bipush (v := 6) dX7_init_71 iv_bipush_6 ?_
      obtain ⟨h61, h⟩ := ck_e h
      obtain ⟨h62, h⟩ := ck_e h
      refine zx_iast hG rfl (h61).1 (h61).2 (inb_e h62) dX7_init_73 ?_
      obtain ⟨μ63, e65, h⟩ := zlm_e h
      refine zx_mem e65 ?_
      have e64 : mK μ63 = mK μ := (congrArg mK e65).trans rfl
      refine zx_iinc (q := 1) (v := x1 + 1) (L' := [(1, .int (x1 + 1)), (0, .ref a0)]) dX7_init_74 rfl rfl (by decide) rfl ?_
      refine zx_goto (tgt := 60) dX7_init_77 (by decide) ?_
      refine zx_sub (L' := [(0, .ref a0), (1, .int (x1 + 1))]) [1, 0] rfl ?_
      exact ih _ _ _ _ _ h
set_option maxRecDepth 100000 in
theorem s_X7_init_b58 {l : Launch} {G : Gt} (hG : Gok l G) (a0 : Nat) (μ : Mm) (r : Unit) (μ' : Mm) (h : f_X7_init_b58 a0 μ = some (r, μ')) : ZX l G mX7_init 58 [(0, .ref a0)] [] μ (.inl none) μ' := by
  unfold f_X7_init_b58 at h
  refine zx_iconst (v := 0) dX7_init_58 iv_iconst_0 ?_
  refine zx_istore_n (L' := [(1, .int 0), (0, .ref a0)]) dX7_init_59 rfl (by decide) rfl ?_
  refine zx_sub (L' := [(0, .ref a0), (1, .int 0)]) [1, 0] rfl ?_
  exact s_X7_init_b60 hG 5000 _ _ _ _ _ h
set_option maxRecDepth 100000 in
theorem s_X7_init_b40 {l : Launch} {G : Gt} (hG : Gok l G) : ∀ (n : Nat) (a0 : Nat) (x1 : Int32) (μ : Mm) (r : Unit) (μ' : Mm), f_X7_init_b40 n a0 x1 μ = some (r, μ') → ZX l G mX7_init 40 [(0, .ref a0), (1, .int x1)] [] μ (.inl none) μ' := by
  intro n
  induction n with
  | zero =>
    intro a0 x1 μ r μ' h
    cases h
  | succ n ih =>
    intro a0 x1 μ r μ' h
    unfold f_X7_init_b40 at h
    refine zx_iload_n dX7_init_40 rfl (q := 1) rfl ?_
    refine zx_iconst (v := 4) dX7_init_41 iv_iconst_4 ?_
    by_cases c48 : 4 ≤ x1
    · have h := it_t c48 h
      refine zx_icmp_ge_t (tgt := 58) dX7_init_42 (by decide) c48 ?_
      refine zx_sub (L' := [(0, .ref a0)]) [0] rfl ?_
      exact s_X7_init_b58 hG _ _ _ _ h
    · have h := it_f c48 h
      refine zx_icmp_ge_f (tgt := 58) dX7_init_42 (by decide) c48 ?_
      refine zx_aload_n dX7_init_45 rfl (q := 0) rfl ?_
      obtain ⟨h49, h⟩ := ck_e h
      obtain ⟨p50, h51, h⟩ := bd_e h
      refine zx_getR hG fl_X7_9 h49 h51 dX7_init_46 ?_
      refine zx_iload_n dX7_init_49 rfl (q := 1) rfl ?_
      refine zx_iconst (v := (-1)) dX7_init_50 iv_iconst_m1 ?_
      obtain ⟨h52, h⟩ := ck_e h
      obtain ⟨h53, h⟩ := ck_e h
      refine zx_iast hG rfl (h52).1 (h52).2 (inb_e h53) dX7_init_51 ?_
      obtain ⟨μ54, e56, h⟩ := zlm_e h
      refine zx_mem e56 ?_
      have e55 : mK μ54 = mK μ := (congrArg mK e56).trans rfl
      refine zx_iinc (q := 1) (v := x1 + 1) (L' := [(1, .int (x1 + 1)), (0, .ref a0)]) dX7_init_52 rfl rfl (by decide) rfl ?_
      refine zx_goto (tgt := 40) dX7_init_55 (by decide) ?_
      refine zx_sub (L' := [(0, .ref a0), (1, .int (x1 + 1))]) [1, 0] rfl ?_
      exact ih _ _ _ _ _ h
set_option maxRecDepth 100000 in
theorem s_X7_init {l : Launch} {G : Gt} (hG : Gok l G) (a0 : Nat) (μ : Mm) (r : Unit) (μ' : Mm) (h : f_X7_init a0 μ = some (r, μ')) : ZX l G mX7_init 0 [(0, .ref a0)] [] μ (.inl none) μ' := by
  unfold f_X7_init at h
  refine zx_aload_n dX7_init_0 rfl (q := 0) rfl ?_
  refine zx_objInit hG oi_X7_3 w_oi2 w_oi3 (by decide) (by decide) (Nat.le_of_ble_eq_true rfl) dX7_init_1 ?_
  refine zx_aload_n dX7_init_4 rfl (q := 0) rfl ?_
  refine zx_iconst (v := 4) dX7_init_5 iv_iconst_4 ?_
  obtain ⟨h1, h⟩ := ck_e h
  refine zx_newa 21 (at9 := .int) hG w_ac_int (by decide) (by decide) (smn_e h1) (h1).2 dX7_init_6 ?_
  obtain ⟨p2, e5, h⟩ := zlm_e h
  obtain ⟨μ3, e6, h⟩ := zlm_e h
  refine zx_mem e6 (zx_stk e5 ?_)
  have h4 : mK μ3 p2 = 21 := nw_Kp e6 e5
  have h7 : isA 1 (mK μ3 p2) := by rw [h4]; decide
  obtain ⟨h8, h⟩ := ck_e h
  refine zx_putRF hG fl_X7_9 fn_8_0 rfl h8 dX7_init_8 ?_
  obtain ⟨μ9, e11, h⟩ := zlm_e h
  refine zx_mem e11 ?_
  have e10 : mK μ9 = mK μ3 := (congrArg mK e11).trans rfl
  refine zx_aload_n dX7_init_11 rfl (q := 0) rfl ?_
  refine zx_bipush (v := 16) dX7_init_12 iv_bipush_16 ?_
  obtain ⟨h12, h⟩ := ck_e h
  refine zx_newa 21 (at9 := .int) hG w_ac_int (by decide) (by decide) (smn_e h12) (h12).2 dX7_init_14 ?_
  obtain ⟨p13, e16, h⟩ := zlm_e h
  obtain ⟨μ14, e17, h⟩ := zlm_e h
  refine zx_mem e17 (zx_stk e16 ?_)
  have h15 : mK μ14 p13 = 21 := nw_Kp e17 e16
  have h18 : isA 1 (mK μ14 p13) := by rw [h15]; decide
  obtain ⟨h19, h⟩ := ck_e h
  refine zx_putRF hG fl_X7_15 fn_8_1 rfl h19 dX7_init_16 ?_
  obtain ⟨μ20, e22, h⟩ := zlm_e h
  refine zx_mem e22 ?_
  have e21 : mK μ20 = mK μ14 := (congrArg mK e22).trans rfl
  refine zx_aload_n dX7_init_19 rfl (q := 0) rfl ?_
  refine zx_iconst (v := 2) dX7_init_20 iv_iconst_2 ?_
  obtain ⟨h23, h⟩ := ck_e h
  refine zx_newa 21 (at9 := .int) hG w_ac_int (by decide) (by decide) (smn_e h23) (h23).2 dX7_init_21 ?_
  obtain ⟨p24, e27, h⟩ := zlm_e h
  obtain ⟨μ25, e28, h⟩ := zlm_e h
  refine zx_mem e28 (zx_stk e27 ?_)
  have h26 : mK μ25 p24 = 21 := nw_Kp e28 e27
  have h29 : isA 1 (mK μ25 p24) := by rw [h26]; decide
  obtain ⟨h30, h⟩ := ck_e h
  refine zx_putRF hG fl_X7_18 fn_8_2 rfl h30 dX7_init_23 ?_
  obtain ⟨μ31, e33, h⟩ := zlm_e h
  refine zx_mem e33 ?_
  have e32 : mK μ31 = mK μ25 := (congrArg mK e33).trans rfl
  refine zx_aload_n dX7_init_26 rfl (q := 0) rfl ?_
  refine zx_iconst (v := 2) dX7_init_27 iv_iconst_2 ?_
  obtain ⟨h34, h⟩ := ck_e h
  refine zx_newa 21 (at9 := .int) hG w_ac_int (by decide) (by decide) (smn_e h34) (h34).2 dX7_init_28 ?_
  obtain ⟨p35, e38, h⟩ := zlm_e h
  obtain ⟨μ36, e39, h⟩ := zlm_e h
  refine zx_mem e39 (zx_stk e38 ?_)
  have h37 : mK μ36 p35 = 21 := nw_Kp e39 e38
  have h40 : isA 1 (mK μ36 p35) := by rw [h37]; decide
  obtain ⟨h41, h⟩ := ck_e h
  refine zx_putRF hG fl_X7_21 fn_8_3 rfl h41 dX7_init_30 ?_
  obtain ⟨μ42, e44, h⟩ := zlm_e h
  refine zx_mem e44 ?_
  have e43 : mK μ42 = mK μ36 := (congrArg mK e44).trans rfl
  refine zx_aload_n dX7_init_33 rfl (q := 0) rfl ?_
  refine zx_iconst (v := 0) dX7_init_34 iv_iconst_0 ?_
  refine zx_putI hG fl_X7_24 fn_8_4 (kp_o (e43) h41) dX7_init_35 ?_
  obtain ⟨μ45, e47, h⟩ := zlm_e h
  refine zx_mem e47 ?_
  have e46 : mK μ45 = mK μ42 := (congrArg mK e47).trans rfl
  refine zx_iconst (v := 0) dX7_init_38 iv_iconst_0 ?_
  refine zx_istore_n (L' := [(1, .int 0), (0, .ref a0)]) dX7_init_39 rfl (by decide) rfl ?_
  refine zx_sub (L' := [(0, .ref a0), (1, .int 0)]) [1, 0] rfl ?_
  exact s_X7_init_b40 hG 5000 _ _ _ _ _ h
def f_X4_init_b76 : Nat → Nat → Int32 → Mm → Option (Unit × Mm)
  | 0, _, _, _ => none
  | n + 1, a0, x1, μ =>
  if 8 ≤ x1 then
    some ((), μ)
  else
    ck (mK μ a0 = 105) <|
    bd (mR μ a0 2) fun p66 =>
    ck (isA 1 (mK μ p66)) <|
    ck (inb x1 (mL μ p66)) <|
    zl (sI μ p66 (Int32.toNatClampNeg x1) ((-1))) fun μ70 =>
    f_X4_init_b76 n a0 (x1 + 1) μ70
def f_X4_init_b74 (a0 : Nat) (μ : Mm) : Option (Unit × Mm) :=
  f_X4_init_b76 5000 a0 0 μ
def f_X4_init_b55 : Nat → Nat → Int32 → Mm → Option (Unit × Mm)
  | 0, _, _, _ => none
  | n + 1, a0, x1, μ =>
  if 16 ≤ x1 then
    f_X4_init_b74 a0 μ
  else
    ck (mK μ a0 = 105) <|
    bd (mR μ a0 1) fun p57 =>
    ck (isA 1 (mK μ p57)) <|
    ck (inb x1 (mL μ p57)) <|
    zl (sI μ p57 (Int32.toNatClampNeg x1) 1) fun μ61 =>
    f_X4_init_b55 n a0 (x1 + 1) μ61
def f_X4_init (a0 : Nat) (μ : Mm) : Option (Unit × Mm) :=
  zl (mN μ) fun p1 =>
  zl (nw μ 100 0 3) fun μ2 =>
  cl (f_Jx4a65c_init_da8c8 p1 μ2) fun _ μ8 =>
  ck (mK μ8 a0 = 105) <|
  zl (sR μ8 a0 0 (some p1)) fun μ10 =>
  ck (smn 16) <|
  zl (mN μ10) fun p14 =>
  zl (nw μ10 21 (Int32.toNatClampNeg 16) (Int32.toNatClampNeg 16)) fun μ15 =>
  ck (mK μ15 a0 = 105) <|
  zl (sR μ15 a0 1 (some p14)) fun μ21 =>
  ck (smn 8) <|
  zl (mN μ21) fun p25 =>
  zl (nw μ21 21 (Int32.toNatClampNeg 8) (Int32.toNatClampNeg 8)) fun μ26 =>
  ck (mK μ26 a0 = 105) <|
  zl (sR μ26 a0 2 (some p25)) fun μ32 =>
  ck (smn 0) <|
  zl (mN μ32) fun p36 =>
  zl (nw μ32 41 (Int32.toNatClampNeg 0) (Int32.toNatClampNeg 0)) fun μ37 =>
  ck (mK μ37 a0 = 105) <|
  zl (sR μ37 a0 3 (some p36)) fun μ43 =>
  zl (sI μ43 a0 4 0) fun μ46 =>
  zl (sI μ46 a0 5 0) fun μ49 =>
  zl (sI μ49 a0 6 0) fun μ52 =>
  f_X4_init_b55 5000 a0 0 μ52
set_option maxRecDepth 100000 in
theorem s_X4_init_b76 {l : Launch} {G : Gt} (hG : Gok l G) : ∀ (n : Nat) (a0 : Nat) (x1 : Int32) (μ : Mm) (r : Unit) (μ' : Mm), f_X4_init_b76 n a0 x1 μ = some (r, μ') → ZX l G mX4_init 76 [(0, .ref a0), (1, .int x1)] [] μ (.inl none) μ' := by
  intro n
  induction n with
  | zero =>
    intro a0 x1 μ r μ' h
    cases h
  | succ n ih =>
    intro a0 x1 μ r μ' h
    unfold f_X4_init_b76 at h
    refine zx_iload_n dX4_init_76 rfl (q := 1) rfl ?_
    refine zx_bipush (v := 8) dX4_init_77 iv_bipush_8 ?_
    by_cases c64 : 8 ≤ x1
    · have h := it_t c64 h
      refine zx_icmp_ge_t (tgt := 95) dX4_init_79 (by decide) c64 ?_
      cases h
      exact zx_vret dX4_init_95 rfl
    · have h := it_f c64 h
      refine zx_icmp_ge_f (tgt := 95) dX4_init_79 (by decide) c64 ?_
      refine zx_aload_n dX4_init_82 rfl (q := 0) rfl ?_
      obtain ⟨h65, h⟩ := ck_e h
      obtain ⟨p66, h67, h⟩ := bd_e h
      refine zx_getR hG fl_X4_22 h65 h67 dX4_init_83 ?_
      refine zx_iload_n dX4_init_86 rfl (q := 1) rfl ?_
      refine zx_iconst (v := (-1)) dX4_init_87 iv_iconst_m1 ?_
      obtain ⟨h68, h⟩ := ck_e h
      obtain ⟨h69, h⟩ := ck_e h
      refine zx_iast hG rfl (h68).1 (h68).2 (inb_e h69) dX4_init_88 ?_
      obtain ⟨μ70, e72, h⟩ := zlm_e h
      refine zx_mem e72 ?_
      have e71 : mK μ70 = mK μ := (congrArg mK e72).trans rfl
      refine zx_iinc (q := 1) (v := x1 + 1) (L' := [(1, .int (x1 + 1)), (0, .ref a0)]) dX4_init_89 rfl rfl (by decide) rfl ?_
      refine zx_goto (tgt := 76) dX4_init_92 (by decide) ?_
      refine zx_sub (L' := [(0, .ref a0), (1, .int (x1 + 1))]) [1, 0] rfl ?_
      exact ih _ _ _ _ _ h
set_option maxRecDepth 100000 in
theorem s_X4_init_b74 {l : Launch} {G : Gt} (hG : Gok l G) (a0 : Nat) (μ : Mm) (r : Unit) (μ' : Mm) (h : f_X4_init_b74 a0 μ = some (r, μ')) : ZX l G mX4_init 74 [(0, .ref a0)] [] μ (.inl none) μ' := by
  unfold f_X4_init_b74 at h
  refine zx_iconst (v := 0) dX4_init_74 iv_iconst_0 ?_
  refine zx_istore_n (L' := [(1, .int 0), (0, .ref a0)]) dX4_init_75 rfl (by decide) rfl ?_
  refine zx_sub (L' := [(0, .ref a0), (1, .int 0)]) [1, 0] rfl ?_
  exact s_X4_init_b76 hG 5000 _ _ _ _ _ h
set_option maxRecDepth 100000 in
theorem s_X4_init_b55 {l : Launch} {G : Gt} (hG : Gok l G) : ∀ (n : Nat) (a0 : Nat) (x1 : Int32) (μ : Mm) (r : Unit) (μ' : Mm), f_X4_init_b55 n a0 x1 μ = some (r, μ') → ZX l G mX4_init 55 [(0, .ref a0), (1, .int x1)] [] μ (.inl none) μ' := by
  intro n
  induction n with
  | zero =>
    intro a0 x1 μ r μ' h
    cases h
  | succ n ih =>
    intro a0 x1 μ r μ' h
    unfold f_X4_init_b55 at h
    refine zx_iload_n dX4_init_55 rfl (q := 1) rfl ?_
    refine zx_bipush (v := 16) dX4_init_56 iv_bipush_16 ?_
    by_cases c55 : 16 ≤ x1
    · have h := it_t c55 h
      refine zx_icmp_ge_t (tgt := 74) dX4_init_58 (by decide) c55 ?_
      refine zx_sub (L' := [(0, .ref a0)]) [0] rfl ?_
      exact s_X4_init_b74 hG _ _ _ _ h
    · have h := it_f c55 h
      refine zx_icmp_ge_f (tgt := 74) dX4_init_58 (by decide) c55 ?_
      refine zx_aload_n dX4_init_61 rfl (q := 0) rfl ?_
      obtain ⟨h56, h⟩ := ck_e h
      obtain ⟨p57, h58, h⟩ := bd_e h
      refine zx_getR hG fl_X4_18 h56 h58 dX4_init_62 ?_
      refine zx_iload_n dX4_init_65 rfl (q := 1) rfl ?_
      refine zx_iconst (v := 1) dX4_init_66 iv_iconst_1 ?_
      obtain ⟨h59, h⟩ := ck_e h
      obtain ⟨h60, h⟩ := ck_e h
      refine zx_iast hG rfl (h59).1 (h59).2 (inb_e h60) dX4_init_67 ?_
      obtain ⟨μ61, e63, h⟩ := zlm_e h
      refine zx_mem e63 ?_
      have e62 : mK μ61 = mK μ := (congrArg mK e63).trans rfl
      refine zx_iinc (q := 1) (v := x1 + 1) (L' := [(1, .int (x1 + 1)), (0, .ref a0)]) dX4_init_68 rfl rfl (by decide) rfl ?_
      refine zx_goto (tgt := 55) dX4_init_71 (by decide) ?_
      refine zx_sub (L' := [(0, .ref a0), (1, .int (x1 + 1))]) [1, 0] rfl ?_
      exact ih _ _ _ _ _ h
set_option maxRecDepth 100000 in
theorem s_X4_init {l : Launch} {G : Gt} (hG : Gok l G) (a0 : Nat) (μ : Mm) (r : Unit) (μ' : Mm) (h : f_X4_init a0 μ = some (r, μ')) : ZX l G mX4_init 0 [(0, .ref a0)] [] μ (.inl none) μ' := by
  unfold f_X4_init at h
  refine zx_aload_n dX4_init_0 rfl (q := 0) rfl ?_
  refine zx_objInit hG oi_X4_3 w_oi2 w_oi3 (by decide) (by decide) (Nat.le_of_ble_eq_true rfl) dX4_init_1 ?_
  refine zx_aload_n dX4_init_4 rfl (q := 0) rfl ?_
  refine zx_new hG nw_X4_9 dX4_init_5 ?_
  obtain ⟨p1, e4, h⟩ := zlm_e h
  obtain ⟨μ2, e5, h⟩ := zlm_e h
  refine zx_mem e5 (zx_stk e4 ?_)
  have h3 : mK μ2 p1 = 100 := nw_Kp e5 e4
  refine zx_dup dX4_init_8 rfl ?_
  obtain ⟨uu6, μ8, z7, h⟩ := cl_e h
  refine zx_callI (As := []) hG mf_Jx4a65c_init_da8c8 ci_X4_11 ⟨by decide, by decide⟩ rfl rfl (Nat.le_of_ble_eq_true rfl) (s_Jx4a65c_init_da8c8 hG _ _ _ _ z7) (Nat.le_of_ble_eq_true rfl) dX4_init_9 ?_
  obtain ⟨h9, h⟩ := ck_e h
  refine zx_putRF hG fl_X4_12 fn_5_0 rfl h9 dX4_init_12 ?_
  obtain ⟨μ10, e12, h⟩ := zlm_e h
  refine zx_mem e12 ?_
  have e11 : mK μ10 = mK μ8 := (congrArg mK e12).trans rfl
  refine zx_aload_n dX4_init_15 rfl (q := 0) rfl ?_
  refine zx_bipush (v := 16) dX4_init_16 iv_bipush_16 ?_
  obtain ⟨h13, h⟩ := ck_e h
  refine zx_newa 21 (at9 := .int) hG w_ac_int (by decide) (by decide) (smn_e h13) (h13).2 dX4_init_18 ?_
  obtain ⟨p14, e17, h⟩ := zlm_e h
  obtain ⟨μ15, e18, h⟩ := zlm_e h
  refine zx_mem e18 (zx_stk e17 ?_)
  have h16 : mK μ15 p14 = 21 := nw_Kp e18 e17
  have h19 : isA 1 (mK μ15 p14) := by rw [h16]; decide
  obtain ⟨h20, h⟩ := ck_e h
  refine zx_putRF hG fl_X4_18 fn_5_1 rfl h20 dX4_init_20 ?_
  obtain ⟨μ21, e23, h⟩ := zlm_e h
  refine zx_mem e23 ?_
  have e22 : mK μ21 = mK μ15 := (congrArg mK e23).trans rfl
  refine zx_aload_n dX4_init_23 rfl (q := 0) rfl ?_
  refine zx_bipush (v := 8) dX4_init_24 iv_bipush_8 ?_
  obtain ⟨h24, h⟩ := ck_e h
  refine zx_newa 21 (at9 := .int) hG w_ac_int (by decide) (by decide) (smn_e h24) (h24).2 dX4_init_26 ?_
  obtain ⟨p25, e28, h⟩ := zlm_e h
  obtain ⟨μ26, e29, h⟩ := zlm_e h
  refine zx_mem e29 (zx_stk e28 ?_)
  have h27 : mK μ26 p25 = 21 := nw_Kp e29 e28
  have h30 : isA 1 (mK μ26 p25) := by rw [h27]; decide
  obtain ⟨h31, h⟩ := ck_e h
  refine zx_putRF hG fl_X4_22 fn_5_2 rfl h31 dX4_init_28 ?_
  obtain ⟨μ32, e34, h⟩ := zlm_e h
  refine zx_mem e34 ?_
  have e33 : mK μ32 = mK μ26 := (congrArg mK e34).trans rfl
  refine zx_aload_n dX4_init_31 rfl (q := 0) rfl ?_
  refine zx_iconst (v := 0) dX4_init_32 iv_iconst_0 ?_
  obtain ⟨h35, h⟩ := ck_e h
  refine zx_newa 41 (at9 := .int) hG w_ac_int (by decide) (by decide) (smn_e h35) (h35).2 dX4_init_33 ?_
  obtain ⟨p36, e39, h⟩ := zlm_e h
  obtain ⟨μ37, e40, h⟩ := zlm_e h
  refine zx_mem e40 (zx_stk e39 ?_)
  have h38 : mK μ37 p36 = 41 := nw_Kp e40 e39
  have h41 : isA 1 (mK μ37 p36) := by rw [h38]; decide
  obtain ⟨h42, h⟩ := ck_e h
  refine zx_putR hG fl_X4_25 fn_5_3 h42 dX4_init_35 ?_
  obtain ⟨μ43, e45, h⟩ := zlm_e h
  refine zx_mem e45 ?_
  have e44 : mK μ43 = mK μ37 := (congrArg mK e45).trans rfl
  refine zx_aload_n dX4_init_38 rfl (q := 0) rfl ?_
  refine zx_iconst (v := 0) dX4_init_39 iv_iconst_0 ?_
  refine zx_putI hG fl_X4_28 fn_5_4 (kp_o (e44) h42) dX4_init_40 ?_
  obtain ⟨μ46, e48, h⟩ := zlm_e h
  refine zx_mem e48 ?_
  have e47 : mK μ46 = mK μ43 := (congrArg mK e48).trans rfl
  refine zx_aload_n dX4_init_43 rfl (q := 0) rfl ?_
  refine zx_iconst (v := 0) dX4_init_44 iv_iconst_0 ?_
  refine zx_putZ hG fl_X4_32 fn_5_5 (kp_o (Eq.trans e47 e44) h42) zb_0 dX4_init_45 ?_
  obtain ⟨μ49, e51, h⟩ := zlm_e h
  refine zx_mem e51 ?_
  have e50 : mK μ49 = mK μ46 := (congrArg mK e51).trans rfl
  refine zx_aload_n dX4_init_48 rfl (q := 0) rfl ?_
  refine zx_iconst (v := 0) dX4_init_49 iv_iconst_0 ?_
  refine zx_putI hG fl_X4_36 fn_5_6 (kp_o (Eq.trans (Eq.trans e50 e47) e44) h42) dX4_init_50 ?_
  obtain ⟨μ52, e54, h⟩ := zlm_e h
  refine zx_mem e54 ?_
  have e53 : mK μ52 = mK μ49 := (congrArg mK e54).trans rfl
  refine zx_iconst (v := 0) dX4_init_53 iv_iconst_0 ?_
  refine zx_istore_n (L' := [(1, .int 0), (0, .ref a0)]) dX4_init_54 rfl (by decide) rfl ?_
  refine zx_sub (L' := [(0, .ref a0), (1, .int 0)]) [1, 0] rfl ?_
  exact s_X4_init_b55 hG 5000 _ _ _ _ _ h
def f_X0_init_b119 (a0 : Nat) (μ : Mm) : Option (Unit × Mm) :=
  ck (smn 4) <|
  zl (mN μ) fun p132 =>
  zl (nw μ 21 (Int32.toNatClampNeg 4) (Int32.toNatClampNeg 4)) fun μ133 =>
  ck (mK μ133 a0 = 101) <|
  zl (sR μ133 a0 11 (some p132)) fun μ139 =>
  zl (sI μ139 a0 12 0) fun μ142 =>
  zl (sI μ142 a0 13 0) fun μ145 =>
  zl (sI μ145 a0 14 0) fun μ148 =>
  zl (sI μ148 a0 15 0) fun μ151 =>
  zl (sI μ151 a0 16 0) fun μ154 =>
  zl (sI μ154 a0 17 0) fun μ157 =>
  some ((), μ157)
def f_X0_init (a0 : Nat) (μ : Mm) : Option (Unit × Mm) :=
  zl (mN μ) fun p1 =>
  zl (nw μ 100 0 3) fun μ2 =>
  cl (f_Jx4a65c_init_da8c8 p1 μ2) fun _ μ8 =>
  ck (mK μ8 a0 = 101) <|
  zl (sR μ8 a0 0 (some p1)) fun μ10 =>
  zl (mN μ10) fun p13 =>
  zl (nw μ10 110 0 5) fun μ14 =>
  cl (f_X9_init p13 μ14) fun _ μ20 =>
  ck (mK μ20 a0 = 101) <|
  zl (sR μ20 a0 1 (some p13)) fun μ22 =>
  zl (mN μ22) fun p25 =>
  zl (nw μ22 102 0 7) fun μ26 =>
  cl (f_X1_init p25 μ26) fun _ μ32 =>
  ck (mK μ32 a0 = 101) <|
  zl (sR μ32 a0 2 (some p25)) fun μ34 =>
  zl (mN μ34) fun p37 =>
  zl (nw μ34 109 0 5) fun μ38 =>
  cl (f_X8_init p37 μ38) fun _ μ44 =>
  ck (mK μ44 a0 = 101) <|
  zl (sR μ44 a0 3 (some p37)) fun μ46 =>
  zl (mN μ46) fun p49 =>
  zl (nw μ46 106 0 7) fun μ50 =>
  cl (f_X5_init p49 μ50) fun _ μ56 =>
  ck (mK μ56 a0 = 101) <|
  zl (sR μ56 a0 4 (some p49)) fun μ58 =>
  zl (mN μ58) fun p61 =>
  zl (nw μ58 108 0 5) fun μ62 =>
  cl (f_X7_init p61 μ62) fun _ μ68 =>
  ck (mK μ68 a0 = 101) <|
  zl (sR μ68 a0 5 (some p61)) fun μ70 =>
  zl (mN μ70) fun p73 =>
  zl (nw μ70 105 0 7) fun μ74 =>
  cl (f_X4_init p73 μ74) fun _ μ80 =>
  ck (mK μ80 a0 = 101) <|
  zl (sR μ80 a0 6 (some p73)) fun μ82 =>
  zl (mN μ82) fun p85 =>
  zl (nw μ82 100 0 3) fun μ86 =>
  cl (f_Jx4a65c_init_da8c8 p85 μ86) fun _ μ92 =>
  ck (mK μ92 a0 = 101) <|
  zl (sR μ92 a0 7 (some p85)) fun μ94 =>
  zl (mN μ94) fun p97 =>
  zl (nw μ94 100 0 3) fun μ98 =>
  cl (f_Jx4a65c_init_da8c8 p97 μ98) fun _ μ104 =>
  ck (mK μ104 a0 = 101) <|
  zl (sR μ104 a0 8 (some p97)) fun μ106 =>
  ck (smn 64) <|
  zl (mN μ106) fun p110 =>
  zl (nw μ106 21 (Int32.toNatClampNeg 64) (Int32.toNatClampNeg 64)) fun μ111 =>
  ck (mK μ111 a0 = 101) <|
  zl (sR μ111 a0 9 (some p110)) fun μ117 =>
  ck (smn 16) <|
  zl (mN μ117) fun p121 =>
  zl (nw μ117 22 (Int32.toNatClampNeg 16) (Int32.toNatClampNeg 16)) fun μ122 =>
  ck (mK μ122 a0 = 101) <|
  zl (sR μ122 a0 10 (some p121)) fun μ128 =>
  f_X0_init_b119 a0 μ128
set_option maxRecDepth 100000 in
theorem s_X0_init_b119 {l : Launch} {G : Gt} (hG : Gok l G) (a0 : Nat) (μ : Mm) (r : Unit) (μ' : Mm) (h : f_X0_init_b119 a0 μ = some (r, μ')) : ZX l G mX0_init 119 [(0, .ref a0)] [] μ (.inl none) μ' := by
  unfold f_X0_init_b119 at h
  refine zx_aload_n dX0_init_119 rfl (q := 0) rfl ?_
  refine zx_iconst (v := 4) dX0_init_120 iv_iconst_4 ?_
  obtain ⟨h131, h⟩ := ck_e h
  refine zx_newa 21 (at9 := .int) hG w_ac_int (by decide) (by decide) (smn_e h131) (h131).2 dX0_init_121 ?_
  obtain ⟨p132, e135, h⟩ := zlm_e h
  obtain ⟨μ133, e136, h⟩ := zlm_e h
  refine zx_mem e136 (zx_stk e135 ?_)
  have h134 : mK μ133 p132 = 21 := nw_Kp e136 e135
  have h137 : isA 1 (mK μ133 p132) := by rw [h134]; decide
  obtain ⟨h138, h⟩ := ck_e h
  refine zx_putRF hG fl_X0_74 fn_1_11 rfl h138 dX0_init_123 ?_
  obtain ⟨μ139, e141, h⟩ := zlm_e h
  refine zx_mem e141 ?_
  have e140 : mK μ139 = mK μ133 := (congrArg mK e141).trans rfl
  refine zx_aload_n dX0_init_126 rfl (q := 0) rfl ?_
  refine zx_iconst (v := 0) dX0_init_127 iv_iconst_0 ?_
  refine zx_putI hG fl_X0_77 fn_1_12 (kp_o (e140) h138) dX0_init_128 ?_
  obtain ⟨μ142, e144, h⟩ := zlm_e h
  refine zx_mem e144 ?_
  have e143 : mK μ142 = mK μ139 := (congrArg mK e144).trans rfl
  refine zx_aload_n dX0_init_131 rfl (q := 0) rfl ?_
  refine zx_iconst (v := 0) dX0_init_132 iv_iconst_0 ?_
  refine zx_putZ hG fl_X0_81 fn_1_13 (kp_o (Eq.trans e143 e140) h138) zb_0 dX0_init_133 ?_
  obtain ⟨μ145, e147, h⟩ := zlm_e h
  refine zx_mem e147 ?_
  have e146 : mK μ145 = mK μ142 := (congrArg mK e147).trans rfl
  refine zx_aload_n dX0_init_136 rfl (q := 0) rfl ?_
  refine zx_iconst (v := 0) dX0_init_137 iv_iconst_0 ?_
  refine zx_putZ hG fl_X0_85 fn_1_14 (kp_o (Eq.trans (Eq.trans e146 e143) e140) h138) zb_0 dX0_init_138 ?_
  obtain ⟨μ148, e150, h⟩ := zlm_e h
  refine zx_mem e150 ?_
  have e149 : mK μ148 = mK μ145 := (congrArg mK e150).trans rfl
  refine zx_aload_n dX0_init_141 rfl (q := 0) rfl ?_
  refine zx_iconst (v := 0) dX0_init_142 iv_iconst_0 ?_
  refine zx_putZ hG fl_X0_88 fn_1_15 (kp_o (Eq.trans (Eq.trans (Eq.trans e149 e146) e143) e140) h138) zb_0 dX0_init_143 ?_
  obtain ⟨μ151, e153, h⟩ := zlm_e h
  refine zx_mem e153 ?_
  have e152 : mK μ151 = mK μ148 := (congrArg mK e153).trans rfl
  refine zx_aload_n dX0_init_146 rfl (q := 0) rfl ?_
  refine zx_iconst (v := 0) dX0_init_147 iv_iconst_0 ?_
  refine zx_putI hG fl_X0_91 fn_1_16 (kp_o (Eq.trans (Eq.trans (Eq.trans (Eq.trans e152 e149) e146) e143) e140) h138) dX0_init_148 ?_
  obtain ⟨μ154, e156, h⟩ := zlm_e h
  refine zx_mem e156 ?_
  have e155 : mK μ154 = mK μ151 := (congrArg mK e156).trans rfl
  refine zx_aload_n dX0_init_151 rfl (q := 0) rfl ?_
  refine zx_iconst (v := 0) dX0_init_152 iv_iconst_0 ?_
  refine zx_putI hG fl_X0_94 fn_1_17 (kp_o (Eq.trans (Eq.trans (Eq.trans (Eq.trans (Eq.trans e155 e152) e149) e146) e143) e140) h138) dX0_init_153 ?_
  obtain ⟨μ157, e159, h⟩ := zlm_e h
  refine zx_mem e159 ?_
  have e158 : mK μ157 = mK μ154 := (congrArg mK e159).trans rfl
  cases h
  exact zx_vret dX0_init_156 rfl
set_option maxRecDepth 100000 in
theorem s_X0_init {l : Launch} {G : Gt} (hG : Gok l G) (a0 : Nat) (μ : Mm) (r : Unit) (μ' : Mm) (h : f_X0_init a0 μ = some (r, μ')) : ZX l G mX0_init 0 [(0, .ref a0)] [] μ (.inl none) μ' := by
  unfold f_X0_init at h
  refine zx_aload_n dX0_init_0 rfl (q := 0) rfl ?_
  refine zx_objInit hG oi_X0_3 w_oi2 w_oi3 (by decide) (by decide) (Nat.le_of_ble_eq_true rfl) dX0_init_1 ?_
  refine zx_aload_n dX0_init_4 rfl (q := 0) rfl ?_
  refine zx_new hG nw_X0_9 dX0_init_5 ?_
  obtain ⟨p1, e4, h⟩ := zlm_e h
  obtain ⟨μ2, e5, h⟩ := zlm_e h
  refine zx_mem e5 (zx_stk e4 ?_)
  have h3 : mK μ2 p1 = 100 := nw_Kp e5 e4
  refine zx_dup dX0_init_8 rfl ?_
  obtain ⟨uu6, μ8, z7, h⟩ := cl_e h
  refine zx_callI (As := []) hG mf_Jx4a65c_init_da8c8 ci_X0_11 ⟨by decide, by decide⟩ rfl rfl (Nat.le_of_ble_eq_true rfl) (s_Jx4a65c_init_da8c8 hG _ _ _ _ z7) (Nat.le_of_ble_eq_true rfl) dX0_init_9 ?_
  obtain ⟨h9, h⟩ := ck_e h
  refine zx_putRF hG fl_X0_12 fn_1_0 rfl h9 dX0_init_12 ?_
  obtain ⟨μ10, e12, h⟩ := zlm_e h
  refine zx_mem e12 ?_
  have e11 : mK μ10 = mK μ8 := (congrArg mK e12).trans rfl
  refine zx_aload_n dX0_init_15 rfl (q := 0) rfl ?_
  refine zx_new hG nw_X0_18 dX0_init_16 ?_
  obtain ⟨p13, e16, h⟩ := zlm_e h
  obtain ⟨μ14, e17, h⟩ := zlm_e h
  refine zx_mem e17 (zx_stk e16 ?_)
  have h15 : mK μ14 p13 = 110 := nw_Kp e17 e16
  refine zx_dup dX0_init_19 rfl ?_
  obtain ⟨uu18, μ20, z19, h⟩ := cl_e h
  refine zx_callIN (As := []) hG mf_X9_init ci_X0_20 ⟨by decide, by decide⟩ rfl rfl (Nat.le_of_ble_eq_true rfl) (s_X9_init hG _ _ _ _ z19) (Nat.le_of_ble_eq_true rfl) dX0_init_20 ?_
  obtain ⟨h21, h⟩ := ck_e h
  refine zx_putRF hG fl_X0_21 fn_1_1 rfl h21 dX0_init_23 ?_
  obtain ⟨μ22, e24, h⟩ := zlm_e h
  refine zx_mem e24 ?_
  have e23 : mK μ22 = mK μ20 := (congrArg mK e24).trans rfl
  refine zx_aload_n dX0_init_26 rfl (q := 0) rfl ?_
  refine zx_new hG nw_X0_25 dX0_init_27 ?_
  obtain ⟨p25, e28, h⟩ := zlm_e h
  obtain ⟨μ26, e29, h⟩ := zlm_e h
  refine zx_mem e29 (zx_stk e28 ?_)
  have h27 : mK μ26 p25 = 102 := nw_Kp e29 e28
  refine zx_dup dX0_init_30 rfl ?_
  obtain ⟨uu30, μ32, z31, h⟩ := cl_e h
  refine zx_callIN (As := []) hG mf_X1_init ci_X0_27 ⟨by decide, by decide⟩ rfl rfl (Nat.le_of_ble_eq_true rfl) (s_X1_init hG _ _ _ _ z31) (Nat.le_of_ble_eq_true rfl) dX0_init_31 ?_
  obtain ⟨h33, h⟩ := ck_e h
  refine zx_putRF hG fl_X0_28 fn_1_2 rfl h33 dX0_init_34 ?_
  obtain ⟨μ34, e36, h⟩ := zlm_e h
  refine zx_mem e36 ?_
  have e35 : mK μ34 = mK μ32 := (congrArg mK e36).trans rfl
  refine zx_aload_n dX0_init_37 rfl (q := 0) rfl ?_
  refine zx_new hG nw_X0_32 dX0_init_38 ?_
  obtain ⟨p37, e40, h⟩ := zlm_e h
  obtain ⟨μ38, e41, h⟩ := zlm_e h
  refine zx_mem e41 (zx_stk e40 ?_)
  have h39 : mK μ38 p37 = 109 := nw_Kp e41 e40
  refine zx_dup dX0_init_41 rfl ?_
  obtain ⟨uu42, μ44, z43, h⟩ := cl_e h
  refine zx_callIN (As := []) hG mf_X8_init ci_X0_34 ⟨by decide, by decide⟩ rfl rfl (Nat.le_of_ble_eq_true rfl) (s_X8_init hG _ _ _ _ z43) (Nat.le_of_ble_eq_true rfl) dX0_init_42 ?_
  obtain ⟨h45, h⟩ := ck_e h
  refine zx_putRF hG fl_X0_35 fn_1_3 rfl h45 dX0_init_45 ?_
  obtain ⟨μ46, e48, h⟩ := zlm_e h
  refine zx_mem e48 ?_
  have e47 : mK μ46 = mK μ44 := (congrArg mK e48).trans rfl
  refine zx_aload_n dX0_init_48 rfl (q := 0) rfl ?_
  refine zx_new hG nw_X0_39 dX0_init_49 ?_
  obtain ⟨p49, e52, h⟩ := zlm_e h
  obtain ⟨μ50, e53, h⟩ := zlm_e h
  refine zx_mem e53 (zx_stk e52 ?_)
  have h51 : mK μ50 p49 = 106 := nw_Kp e53 e52
  refine zx_dup dX0_init_52 rfl ?_
  obtain ⟨uu54, μ56, z55, h⟩ := cl_e h
  refine zx_callI (As := []) hG mf_X5_init ci_X0_41 ⟨by decide, by decide⟩ rfl rfl (Nat.le_of_ble_eq_true rfl) (s_X5_init hG _ _ _ _ z55) (Nat.le_of_ble_eq_true rfl) dX0_init_53 ?_
  obtain ⟨h57, h⟩ := ck_e h
  refine zx_putRF hG fl_X0_42 fn_1_4 rfl h57 dX0_init_56 ?_
  obtain ⟨μ58, e60, h⟩ := zlm_e h
  refine zx_mem e60 ?_
  have e59 : mK μ58 = mK μ56 := (congrArg mK e60).trans rfl
  refine zx_aload_n dX0_init_59 rfl (q := 0) rfl ?_
  refine zx_new hG nw_X0_46 dX0_init_60 ?_
  obtain ⟨p61, e64, h⟩ := zlm_e h
  obtain ⟨μ62, e65, h⟩ := zlm_e h
  refine zx_mem e65 (zx_stk e64 ?_)
  have h63 : mK μ62 p61 = 108 := nw_Kp e65 e64
  refine zx_dup dX0_init_63 rfl ?_
  obtain ⟨uu66, μ68, z67, h⟩ := cl_e h
  refine zx_callI (As := []) hG mf_X7_init ci_X0_48 ⟨by decide, by decide⟩ rfl rfl (Nat.le_of_ble_eq_true rfl) (s_X7_init hG _ _ _ _ z67) (Nat.le_of_ble_eq_true rfl) dX0_init_64 ?_
  obtain ⟨h69, h⟩ := ck_e h
  refine zx_putRF hG fl_X0_49 fn_1_5 rfl h69 dX0_init_67 ?_
  obtain ⟨μ70, e72, h⟩ := zlm_e h
  refine zx_mem e72 ?_
  have e71 : mK μ70 = mK μ68 := (congrArg mK e72).trans rfl
  refine zx_aload_n dX0_init_70 rfl (q := 0) rfl ?_
  refine zx_new hG nw_X0_53 dX0_init_71 ?_
  obtain ⟨p73, e76, h⟩ := zlm_e h
  obtain ⟨μ74, e77, h⟩ := zlm_e h
  refine zx_mem e77 (zx_stk e76 ?_)
  have h75 : mK μ74 p73 = 105 := nw_Kp e77 e76
  refine zx_dup dX0_init_74 rfl ?_
  obtain ⟨uu78, μ80, z79, h⟩ := cl_e h
  refine zx_callI (As := []) hG mf_X4_init ci_X0_55 ⟨by decide, by decide⟩ rfl rfl (Nat.le_of_ble_eq_true rfl) (s_X4_init hG _ _ _ _ z79) (Nat.le_of_ble_eq_true rfl) dX0_init_75 ?_
  obtain ⟨h81, h⟩ := ck_e h
  refine zx_putRF hG fl_X0_56 fn_1_6 rfl h81 dX0_init_78 ?_
  obtain ⟨μ82, e84, h⟩ := zlm_e h
  refine zx_mem e84 ?_
  have e83 : mK μ82 = mK μ80 := (congrArg mK e84).trans rfl
  refine zx_aload_n dX0_init_81 rfl (q := 0) rfl ?_
  refine zx_new hG nw_X0_9 dX0_init_82 ?_
  obtain ⟨p85, e88, h⟩ := zlm_e h
  obtain ⟨μ86, e89, h⟩ := zlm_e h
  refine zx_mem e89 (zx_stk e88 ?_)
  have h87 : mK μ86 p85 = 100 := nw_Kp e89 e88
  refine zx_dup dX0_init_85 rfl ?_
  obtain ⟨uu90, μ92, z91, h⟩ := cl_e h
  refine zx_callI (As := []) hG mf_Jx4a65c_init_da8c8 ci_X0_11 ⟨by decide, by decide⟩ rfl rfl (Nat.le_of_ble_eq_true rfl) (s_Jx4a65c_init_da8c8 hG _ _ _ _ z91) (Nat.le_of_ble_eq_true rfl) dX0_init_86 ?_
  obtain ⟨h93, h⟩ := ck_e h
  refine zx_putRF hG fl_X0_60 fn_1_7 rfl h93 dX0_init_89 ?_
  obtain ⟨μ94, e96, h⟩ := zlm_e h
  refine zx_mem e96 ?_
  have e95 : mK μ94 = mK μ92 := (congrArg mK e96).trans rfl
  refine zx_aload_n dX0_init_92 rfl (q := 0) rfl ?_
  refine zx_new hG nw_X0_9 dX0_init_93 ?_
  obtain ⟨p97, e100, h⟩ := zlm_e h
  obtain ⟨μ98, e101, h⟩ := zlm_e h
  refine zx_mem e101 (zx_stk e100 ?_)
  have h99 : mK μ98 p97 = 100 := nw_Kp e101 e100
  refine zx_dup dX0_init_96 rfl ?_
  obtain ⟨uu102, μ104, z103, h⟩ := cl_e h
  refine zx_callI (As := []) hG mf_Jx4a65c_init_da8c8 ci_X0_11 ⟨by decide, by decide⟩ rfl rfl (Nat.le_of_ble_eq_true rfl) (s_Jx4a65c_init_da8c8 hG _ _ _ _ z103) (Nat.le_of_ble_eq_true rfl) dX0_init_97 ?_
  obtain ⟨h105, h⟩ := ck_e h
  refine zx_putRF hG fl_X0_63 fn_1_8 rfl h105 dX0_init_100 ?_
  obtain ⟨μ106, e108, h⟩ := zlm_e h
  refine zx_mem e108 ?_
  have e107 : mK μ106 = mK μ104 := (congrArg mK e108).trans rfl
  refine zx_aload_n dX0_init_103 rfl (q := 0) rfl ?_
  refine zx_bipush (v := 64) dX0_init_104 iv_bipush_64 ?_
  obtain ⟨h109, h⟩ := ck_e h
  refine zx_newa 21 (at9 := .int) hG w_ac_int (by decide) (by decide) (smn_e h109) (h109).2 dX0_init_106 ?_
  obtain ⟨p110, e113, h⟩ := zlm_e h
  obtain ⟨μ111, e114, h⟩ := zlm_e h
  refine zx_mem e114 (zx_stk e113 ?_)
  have h112 : mK μ111 p110 = 21 := nw_Kp e114 e113
  have h115 : isA 1 (mK μ111 p110) := by rw [h112]; decide
  obtain ⟨h116, h⟩ := ck_e h
  refine zx_putRF hG fl_X0_66 fn_1_9 rfl h116 dX0_init_108 ?_
  obtain ⟨μ117, e119, h⟩ := zlm_e h
  refine zx_mem e119 ?_
  have e118 : mK μ117 = mK μ111 := (congrArg mK e119).trans rfl
  refine zx_aload_n dX0_init_111 rfl (q := 0) rfl ?_
  refine zx_bipush (v := 16) dX0_init_112 iv_bipush_16 ?_
  obtain ⟨h120, h⟩ := ck_e h
  refine zx_newa 22 (at9 := .boolean) hG w_ac_boolean (by decide) (by decide) (smn_e h120) (h120).2 dX0_init_114 ?_
  obtain ⟨p121, e124, h⟩ := zlm_e h
  obtain ⟨μ122, e125, h⟩ := zlm_e h
  refine zx_mem e125 (zx_stk e124 ?_)
  have h123 : mK μ122 p121 = 22 := nw_Kp e125 e124
  have h126 : isA 2 (mK μ122 p121) := by rw [h123]; decide
  obtain ⟨h127, h⟩ := ck_e h
  refine zx_putRF hG fl_X0_70 fn_1_10 rfl h127 dX0_init_116 ?_
  obtain ⟨μ128, e130, h⟩ := zlm_e h
  refine zx_mem e130 ?_
  have e129 : mK μ128 = mK μ122 := (congrArg mK e130).trans rfl
  exact s_X0_init_b119 hG _ _ _ _ h
def f_X10_init (a0 : Nat) (μ : Mm) : Option (Unit × Mm) :=
  zl (mN μ) fun p1 =>
  zl (nw μ 101 0 18) fun μ2 =>
  cl (f_X0_init p1 μ2) fun _ μ8 =>
  ck (mK μ8 a0 = 111) <|
  zl (sR μ8 a0 0 (some p1)) fun μ10 =>
  some ((), μ10)
set_option maxRecDepth 100000 in
theorem s_X10_init {l : Launch} {G : Gt} (hG : Gok l G) (a0 : Nat) (μ : Mm) (r : Unit) (μ' : Mm) (h : f_X10_init a0 μ = some (r, μ')) : ZX l G mX10_init 0 [(0, .ref a0)] [] μ (.inl none) μ' := by
  unfold f_X10_init at h
  refine zx_aload_n dX10_init_0 rfl (q := 0) rfl ?_
  refine zx_objInit hG oi_X10_1 w_oi2 w_oi3 (by decide) (by decide) (Nat.le_of_ble_eq_true rfl) dX10_init_1 ?_
  refine zx_aload_n dX10_init_4 rfl (q := 0) rfl ?_
  refine zx_new hG nw_X10_7 dX10_init_5 ?_
  obtain ⟨p1, e4, h⟩ := zlm_e h
  obtain ⟨μ2, e5, h⟩ := zlm_e h
  refine zx_mem e5 (zx_stk e4 ?_)
  have h3 : mK μ2 p1 = 101 := nw_Kp e5 e4
  refine zx_dup dX10_init_8 rfl ?_
  obtain ⟨uu6, μ8, z7, h⟩ := cl_e h
  refine zx_callIN (As := []) hG mf_X0_init ci_X10_9 ⟨by decide, by decide⟩ rfl rfl (Nat.le_of_ble_eq_true rfl) (s_X0_init hG _ _ _ _ z7) (Nat.le_of_ble_eq_true rfl) dX10_init_9 ?_
  obtain ⟨h9, h⟩ := ck_e h
  refine zx_putRF hG fl_X10_10 fn_11_0 rfl h9 dX10_init_12 ?_
  obtain ⟨μ10, e12, h⟩ := zlm_e h
  refine zx_mem e12 ?_
  have e11 : mK μ10 = mK μ8 := (congrArg mK e12).trans rfl
  cases h
  exact zx_vret dX10_init_15 rfl
def f_X10_isRegister (x0 : Int32) : Option Int32 :=
  if x0 < 0 then
    some 0
  else
    if 8 ≤ x0 then
      some 0
    else
      some 1
set_option maxRecDepth 100000 in
theorem s_X10_isRegister {l : Launch} {G : Gt} (hG : Gok l G) (x0 : Int32) (μ : Mm) (r : Int32) (h : f_X10_isRegister x0 = some r) : ZX l G mX10_isRegister 0 [(0, .int x0)] [] μ (.inl (some (.int r))) μ := by
  unfold f_X10_isRegister at h
  refine zx_iload_n dX10_isRegister_0 rfl (q := 0) rfl ?_
  by_cases c1 : x0 < 0
  · have h := it_t c1 h
    refine zx_if_lt_t (tgt := 14) dX10_isRegister_1 (by decide) c1 ?_
    refine zx_iconst (v := 0) dX10_isRegister_14 iv_iconst_0 ?_
    cases h
    exact zx_zretZ dX10_isRegister_15 rfl zb_0
  · have h := it_f c1 h
    refine zx_if_lt_f (tgt := 14) dX10_isRegister_1 (by decide) c1 ?_
    refine zx_iload_n dX10_isRegister_4 rfl (q := 0) rfl ?_
    refine zx_bipush (v := 8) dX10_isRegister_5 iv_bipush_8 ?_
    by_cases c2 : 8 ≤ x0
    · have h := it_t c2 h
      refine zx_icmp_ge_t (tgt := 14) dX10_isRegister_7 (by decide) c2 ?_
      refine zx_iconst (v := 0) dX10_isRegister_14 iv_iconst_0 ?_
      cases h
      exact zx_zretZ dX10_isRegister_15 rfl zb_0
    · have h := it_f c2 h
      refine zx_icmp_ge_f (tgt := 14) dX10_isRegister_7 (by decide) c2 ?_
      refine zx_iconst (v := 1) dX10_isRegister_10 iv_iconst_1 ?_
      refine zx_goto (tgt := 15) dX10_isRegister_11 (by decide) ?_
      cases h
      exact zx_zretZ dX10_isRegister_15 rfl zb_1
def f_X10_isPlace (x0 : Int32) : Option Int32 :=
  if x0 < 0 then
    some 0
  else
    if 64 ≤ x0 then
      some 0
    else
      some 1
set_option maxRecDepth 100000 in
theorem s_X10_isPlace {l : Launch} {G : Gt} (hG : Gok l G) (x0 : Int32) (μ : Mm) (r : Int32) (h : f_X10_isPlace x0 = some r) : ZX l G mX10_isPlace 0 [(0, .int x0)] [] μ (.inl (some (.int r))) μ := by
  unfold f_X10_isPlace at h
  refine zx_iload_n dX10_isPlace_0 rfl (q := 0) rfl ?_
  by_cases c1 : x0 < 0
  · have h := it_t c1 h
    refine zx_if_lt_t (tgt := 14) dX10_isPlace_1 (by decide) c1 ?_
    refine zx_iconst (v := 0) dX10_isPlace_14 iv_iconst_0 ?_
    cases h
    exact zx_zretZ dX10_isPlace_15 rfl zb_0
  · have h := it_f c1 h
    refine zx_if_lt_f (tgt := 14) dX10_isPlace_1 (by decide) c1 ?_
    refine zx_iload_n dX10_isPlace_4 rfl (q := 0) rfl ?_
    refine zx_bipush (v := 64) dX10_isPlace_5 iv_bipush_64 ?_
    by_cases c2 : 64 ≤ x0
    · have h := it_t c2 h
      refine zx_icmp_ge_t (tgt := 14) dX10_isPlace_7 (by decide) c2 ?_
      refine zx_iconst (v := 0) dX10_isPlace_14 iv_iconst_0 ?_
      cases h
      exact zx_zretZ dX10_isPlace_15 rfl zb_0
    · have h := it_f c2 h
      refine zx_icmp_ge_f (tgt := 14) dX10_isPlace_7 (by decide) c2 ?_
      refine zx_iconst (v := 1) dX10_isPlace_10 iv_iconst_1 ?_
      refine zx_goto (tgt := 15) dX10_isPlace_11 (by decide) ?_
      cases h
      exact zx_zretZ dX10_isPlace_15 rfl zb_1
def f_Jx4a65c_size_8abf5 (a0 : Nat) (μ : Mm) : Option Int32 :=
  ck (mK μ a0 = 100) <|
  some (mI μ a0 2)
set_option maxRecDepth 100000 in
theorem s_Jx4a65c_size_8abf5 {l : Launch} {G : Gt} (hG : Gok l G) (a0 : Nat) (μ : Mm) (r : Int32) (h : f_Jx4a65c_size_8abf5 a0 μ = some r) : ZX l G mJx4a65c_size_8abf5 0 [(0, .ref a0)] [] μ (.inl (some (.int r))) μ := by
  unfold f_Jx4a65c_size_8abf5 at h
  refine zx_aload_n dJx4a65c_size_8abf5_0 rfl (q := 0) rfl ?_
  obtain ⟨h1, h⟩ := ck_e h
  refine zx_getI hG fl_Jx4a65c_48 h1 dJx4a65c_size_8abf5_1 ?_
  cases h
  exact zx_iret dJx4a65c_size_8abf5_4 rfl
def f_X6_init (a0 : Nat) (x1 : Int32) (x2 : Int32) (x3 : Int32) (x4 : Int32) (x5 : Int32) (x6 : Int32) (μ : Mm) : Option (Unit × Mm) :=
  ck (mK μ a0 = 107) <|
  zl (sI μ a0 0 x1) fun μ2 =>
  zl (sI μ2 a0 1 x2) fun μ5 =>
  zl (sI μ5 a0 2 x3) fun μ8 =>
  zl (sI μ8 a0 3 x4) fun μ11 =>
  zl (sI μ11 a0 4 x5) fun μ14 =>
  zl (sI μ14 a0 5 x6) fun μ17 =>
  some ((), μ17)
set_option maxRecDepth 100000 in
theorem s_X6_init {l : Launch} {G : Gt} (hG : Gok l G) (a0 : Nat) (x1 : Int32) (x2 : Int32) (x3 : Int32) (x4 : Int32) (x5 : Int32) (x6 : Int32) (μ : Mm) (r : Unit) (μ' : Mm) (h : f_X6_init a0 x1 x2 x3 x4 x5 x6 μ = some (r, μ')) : ZX l G mX6_init 0 [(0, .ref a0), (1, .int x1), (2, .int x2), (3, .int x3), (4, .int x4), (5, .int x5), (6, .int x6)] [] μ (.inl none) μ' := by
  unfold f_X6_init at h
  refine zx_aload_n dX6_init_0 rfl (q := 0) rfl ?_
  refine zx_objInit hG oi_X6_3 w_oi2 w_oi3 (by decide) (by decide) (Nat.le_of_ble_eq_true rfl) dX6_init_1 ?_
  refine zx_aload_n dX6_init_4 rfl (q := 0) rfl ?_
  refine zx_iload_n dX6_init_5 rfl (q := 1) rfl ?_
  obtain ⟨h1, h⟩ := ck_e h
  refine zx_putIF hG fl_X6_9 fn_7_0 rfl h1 dX6_init_6 ?_
  obtain ⟨μ2, e4, h⟩ := zlm_e h
  refine zx_mem e4 ?_
  have e3 : mK μ2 = mK μ := (congrArg mK e4).trans rfl
  refine zx_aload_n dX6_init_9 rfl (q := 0) rfl ?_
  refine zx_iload_n dX6_init_10 rfl (q := 2) rfl ?_
  refine zx_putIF hG fl_X6_15 fn_7_1 rfl (kp_o (e3) h1) dX6_init_11 ?_
  obtain ⟨μ5, e7, h⟩ := zlm_e h
  refine zx_mem e7 ?_
  have e6 : mK μ5 = mK μ2 := (congrArg mK e7).trans rfl
  refine zx_aload_n dX6_init_14 rfl (q := 0) rfl ?_
  refine zx_iload_n dX6_init_15 rfl (q := 3) rfl ?_
  refine zx_putIF hG fl_X6_18 fn_7_2 rfl (kp_o (Eq.trans e6 e3) h1) dX6_init_16 ?_
  obtain ⟨μ8, e10, h⟩ := zlm_e h
  refine zx_mem e10 ?_
  have e9 : mK μ8 = mK μ5 := (congrArg mK e10).trans rfl
  refine zx_aload_n dX6_init_19 rfl (q := 0) rfl ?_
  refine zx_iload dX6_init_20 (q := 4) rfl ?_
  refine zx_putIF hG fl_X6_21 fn_7_3 rfl (kp_o (Eq.trans (Eq.trans e9 e6) e3) h1) dX6_init_22 ?_
  obtain ⟨μ11, e13, h⟩ := zlm_e h
  refine zx_mem e13 ?_
  have e12 : mK μ11 = mK μ8 := (congrArg mK e13).trans rfl
  refine zx_aload_n dX6_init_25 rfl (q := 0) rfl ?_
  refine zx_iload dX6_init_26 (q := 5) rfl ?_
  refine zx_putIF hG fl_X6_24 fn_7_4 rfl (kp_o (Eq.trans (Eq.trans (Eq.trans e12 e9) e6) e3) h1) dX6_init_28 ?_
  obtain ⟨μ14, e16, h⟩ := zlm_e h
  refine zx_mem e16 ?_
  have e15 : mK μ14 = mK μ11 := (congrArg mK e16).trans rfl
  refine zx_aload_n dX6_init_31 rfl (q := 0) rfl ?_
  refine zx_iload dX6_init_32 (q := 6) rfl ?_
  refine zx_putIF hG fl_X6_27 fn_7_5 rfl (kp_o (Eq.trans (Eq.trans (Eq.trans (Eq.trans e15 e12) e9) e6) e3) h1) dX6_init_34 ?_
  obtain ⟨μ17, e19, h⟩ := zlm_e h
  refine zx_mem e19 ?_
  have e18 : mK μ17 = mK μ14 := (congrArg mK e19).trans rfl
  cases h
  exact zx_vret dX6_init_37 rfl
def f_J9_max_7cf53 (x0 : Int32) (x1 : Int32) : Option Int32 :=
  if x0 < x1 then
    some x1
  else
    some x0
set_option maxRecDepth 100000 in
theorem s_J9_max_7cf53 {l : Launch} {G : Gt} (hG : Gok l G) (x0 : Int32) (x1 : Int32) (μ : Mm) (r : Int32) (h : f_J9_max_7cf53 x0 x1 = some r) : ZX l G mJ9_max_7cf53 0 [(0, .int x0), (1, .int x1)] [] μ (.inl (some (.int r))) μ := by
  unfold f_J9_max_7cf53 at h
  refine zx_iload_n dJ9_max_7cf53_0 rfl (q := 0) rfl ?_
  refine zx_iload_n dJ9_max_7cf53_1 rfl (q := 1) rfl ?_
  by_cases c1 : x0 < x1
  · have h := it_t c1 h
    refine zx_icmp_lt_t (tgt := 9) dJ9_max_7cf53_2 (by decide) c1 ?_
    refine zx_iload_n dJ9_max_7cf53_9 rfl (q := 1) rfl ?_
    cases h
    exact zx_iret dJ9_max_7cf53_10 rfl
  · have h := it_f c1 h
    refine zx_icmp_lt_f (tgt := 9) dJ9_max_7cf53_2 (by decide) c1 ?_
    refine zx_iload_n dJ9_max_7cf53_5 rfl (q := 0) rfl ?_
    refine zx_goto (tgt := 10) dJ9_max_7cf53_6 (by decide) ?_
    cases h
    exact zx_iret dJ9_max_7cf53_10 rfl
def f_J8_newLength_cabcc (x0 : Int32) (x1 : Int32) (x2 : Int32) : Option Int32 :=
  bd (f_J9_max_7cf53 x1 x2) fun y1 =>
  if (x0 + y1) ≤ 0 then
    none
  else
    if 2147483639 < (x0 + y1) then
      none
    else
      some (x0 + y1)
set_option maxRecDepth 100000 in
theorem s_J8_newLength_cabcc {l : Launch} {G : Gt} (hG : Gok l G) (x0 : Int32) (x1 : Int32) (x2 : Int32) (μ : Mm) (r : Int32) (h : f_J8_newLength_cabcc x0 x1 x2 = some r) : ZX l G mJ8_newLength_cabcc 0 [(0, .int x0), (1, .int x1), (2, .int x2)] [] μ (.inl (some (.int r))) μ := by
  unfold f_J8_newLength_cabcc at h
  refine zx_iload_n dJ8_newLength_cabcc_0 rfl (q := 0) rfl ?_
  refine zx_iload_n dJ8_newLength_cabcc_1 rfl (q := 1) rfl ?_
  refine zx_iload_n dJ8_newLength_cabcc_2 rfl (q := 2) rfl ?_
  obtain ⟨y1, z2, h⟩ := bd_e h
  refine zx_callS (As := [.int x1, .int x2]) hG mf_J9_max_7cf53 cs_J8_194 ⟨by decide, by decide⟩ rfl rfl (Nat.le_of_ble_eq_true rfl) (s_J9_max_7cf53 hG _ _ _ _ z2) (Nat.le_of_ble_eq_true rfl) dJ8_newLength_cabcc_3 ?_
  refine zx_iadd dJ8_newLength_cabcc_6 ?_
  refine zx_istore_n (L' := [(3, .int (x0 + y1)), (0, .int x0), (1, .int x1), (2, .int x2)]) dJ8_newLength_cabcc_7 rfl (by decide) rfl ?_
  refine zx_iconst (v := 0) dJ8_newLength_cabcc_8 iv_iconst_0 ?_
  refine zx_iload_n dJ8_newLength_cabcc_9 rfl (q := 0) rfl ?_
  by_cases c3 : (x0 + y1) ≤ 0
  · have h := it_t c3 h
    refine zx_icmp_ge_t (tgt := 21) dJ8_newLength_cabcc_10 (by decide) c3 ?_
    cases h
  · have h := it_f c3 h
    refine zx_icmp_ge_f (tgt := 21) dJ8_newLength_cabcc_10 (by decide) c3 ?_
    refine zx_iload_n dJ8_newLength_cabcc_13 rfl (q := 0) rfl ?_
    refine zx_ldc hG lc_J8_200 dJ8_newLength_cabcc_14 ?_
    by_cases c4 : 2147483639 < (x0 + y1)
    · have h := it_t c4 h
      refine zx_icmp_gt_t (tgt := 21) dJ8_newLength_cabcc_16 (by decide) c4 ?_
      cases h
    · have h := it_f c4 h
      refine zx_icmp_gt_f (tgt := 21) dJ8_newLength_cabcc_16 (by decide) c4 ?_
      refine zx_iload_n dJ8_newLength_cabcc_19 rfl (q := 0) rfl ?_
      cases h
      exact zx_iret dJ8_newLength_cabcc_20 rfl
def f_J9_min_7cf53 (x0 : Int32) (x1 : Int32) : Option Int32 :=
  if x1 < x0 then
    some x1
  else
    some x0
set_option maxRecDepth 100000 in
theorem s_J9_min_7cf53 {l : Launch} {G : Gt} (hG : Gok l G) (x0 : Int32) (x1 : Int32) (μ : Mm) (r : Int32) (h : f_J9_min_7cf53 x0 x1 = some r) : ZX l G mJ9_min_7cf53 0 [(0, .int x0), (1, .int x1)] [] μ (.inl (some (.int r))) μ := by
  unfold f_J9_min_7cf53 at h
  refine zx_iload_n dJ9_min_7cf53_0 rfl (q := 0) rfl ?_
  refine zx_iload_n dJ9_min_7cf53_1 rfl (q := 1) rfl ?_
  by_cases c1 : x1 < x0
  · have h := it_t c1 h
    refine zx_icmp_gt_t (tgt := 9) dJ9_min_7cf53_2 (by decide) c1 ?_
    refine zx_iload_n dJ9_min_7cf53_9 rfl (q := 1) rfl ?_
    cases h
    exact zx_iret dJ9_min_7cf53_10 rfl
  · have h := it_f c1 h
    refine zx_icmp_gt_f (tgt := 9) dJ9_min_7cf53_2 (by decide) c1 ?_
    refine zx_iload_n dJ9_min_7cf53_5 rfl (q := 0) rfl ?_
    refine zx_goto (tgt := 10) dJ9_min_7cf53_6 (by decide) ?_
    cases h
    exact zx_iret dJ9_min_7cf53_10 rfl
def f_J7_copyOf_6403c (a0 : Nat) (x1 : Int32) (a2 : Nat) (μ : Mm) : Option (Nat × Mm) :=
  bd (mR μ 0 3) fun q1 =>
  if ¬ a2 = q1 then
    none
  else
    ck (smn x1) <|
    zl (mN μ) fun p5 =>
    zl (nw μ 26 (Int32.toNatClampNeg x1) (Int32.toNatClampNeg x1)) fun μ6 =>
    ck (isA1256 (mK μ6 a0)) <|
    bd (f_J9_min_7cf53 (nI (mL μ6 a0)) x1) fun y12 =>
    ck (isA 6 (mK μ6 a0)) <|
    ck (cpok μ6 a0 0 p5 0 y12) <|
    zl (cpy μ6 a0 0 p5 0 y12) fun μ16 =>
    some (p5, μ16)
set_option maxRecDepth 100000 in
theorem s_J7_copyOf_6403c {l : Launch} {G : Gt} (hG : Gok l G) (a0 : Nat) (x1 : Int32) (a2 : Nat) (μ : Mm) (r : Nat) (μ' : Mm) (h : f_J7_copyOf_6403c a0 x1 a2 μ = some (r, μ')) : ZX l G mJ7_copyOf_6403c 0 [(0, .ref a0), (1, .int x1), (2, .ref a2)] [] μ (.inl (some (.ref r))) μ' := by
  unfold f_J7_copyOf_6403c at h
  refine zx_aload_n dJ7_copyOf_6403c_0 rfl (q := 2) rfl ?_
  obtain ⟨q1, h2, h⟩ := bd_e h
  refine zx_ldcM hG h2 dJ7_copyOf_6403c_1 ?_
  by_cases c3 : ¬ a2 = q1
  · have h := it_t c3 h
    refine zx_acmp_ne_t (tgt := 13) dJ7_copyOf_6403c_3 (by decide) c3 ?_
    cases h
  · have h := it_f c3 h
    refine zx_acmp_ne_f (tgt := 13) dJ7_copyOf_6403c_3 (by decide) (Classical.not_not.mp c3) ?_
    refine zx_iload_n dJ7_copyOf_6403c_6 rfl (q := 1) rfl ?_
    obtain ⟨h4, h⟩ := ck_e h
    refine zx_newO 26 hG kl_J7_2 w_ao_O (by decide) (by decide) (smn_e h4) (h4).2 dJ7_copyOf_6403c_7 ?_
    obtain ⟨p5, e8, h⟩ := zlm_e h
    obtain ⟨μ6, e9, h⟩ := zlm_e h
    refine zx_mem e9 (zx_stk e8 ?_)
    have h7 : mK μ6 p5 = 26 := nw_Kp e9 e8
    have h10 : isA 6 (mK μ6 p5) := by rw [h7]; decide
    refine zx_goto (tgt := 24) dJ7_copyOf_6403c_10 (by decide) ?_
    refine zx_astore_n (L' := [(3, .ref p5), (0, .ref a0), (1, .int x1), (2, .ref a2)]) dJ7_copyOf_6403c_24 rfl (by decide) rfl ?_
    refine zx_aload_n dJ7_copyOf_6403c_25 rfl (q := 1) rfl ?_
    refine zx_iconst (v := 0) dJ7_copyOf_6403c_26 iv_iconst_0 ?_
    refine zx_aload_n dJ7_copyOf_6403c_27 rfl (q := 0) rfl ?_
    refine zx_iconst (v := 0) dJ7_copyOf_6403c_28 iv_iconst_0 ?_
    refine zx_aload_n dJ7_copyOf_6403c_29 rfl (q := 1) rfl ?_
    obtain ⟨h11, h⟩ := ck_e h
    refine zx_alen hG rfl (h11).1 (h11).2 dJ7_copyOf_6403c_30 ?_
    refine zx_iload_n dJ7_copyOf_6403c_31 rfl (q := 2) rfl ?_
    obtain ⟨y12, z13, h⟩ := bd_e h
    refine zx_callS (As := [.int (nI (mL μ6 a0)), .int x1]) hG mf_J9_min_7cf53 cs_J7_304 ⟨by decide, by decide⟩ rfl rfl (Nat.le_of_ble_eq_true rfl) (s_J9_min_7cf53 hG _ _ _ _ z13) (Nat.le_of_ble_eq_true rfl) dJ7_copyOf_6403c_32 ?_
    obtain ⟨h14, h⟩ := ck_e h
    obtain ⟨h15, h⟩ := ck_e h
    refine zx_copy hG ac_J7_150 (h14).1 (h14).2 (h10).1 (h10).2 h15 (by decide) (by decide) (by decide) dJ7_copyOf_6403c_35 ?_
    obtain ⟨μ16, e18, h⟩ := zlm_e h
    refine zx_mem e18 ?_
    have e17 : mK μ16 = mK μ6 := (congrArg mK e18).trans rfl
    refine zx_aload_n dJ7_copyOf_6403c_38 rfl (q := 0) rfl ?_
    cases h
    exact zx_aret dJ7_copyOf_6403c_39 rfl (Or.inr ⟨_, rfl⟩)
def f_J7_copyOf_1904c (a0 : Nat) (x1 : Int32) (μ : Mm) : Option (Nat × Mm) :=
  ck (isA 6 (mK μ a0)) <|
  bd (mR μ 0 3) fun q1 =>
  cl (f_J7_copyOf_6403c a0 x1 q1 μ) fun p4 μ6 =>
  some (p4, μ6)
set_option maxRecDepth 100000 in
theorem s_J7_copyOf_1904c {l : Launch} {G : Gt} (hG : Gok l G) (a0 : Nat) (x1 : Int32) (μ : Mm) (r : Nat) (μ' : Mm) (h : f_J7_copyOf_1904c a0 x1 μ = some (r, μ')) : ZX l G mJ7_copyOf_1904c 0 [(0, .ref a0), (1, .int x1)] [] μ (.inl (some (.ref r))) μ' := by
  unfold f_J7_copyOf_1904c at h
  refine zx_aload_n dJ7_copyOf_1904c_0 rfl (q := 0) rfl ?_
  refine zx_iload_n dJ7_copyOf_1904c_1 rfl (q := 1) rfl ?_
  refine zx_aload_n dJ7_copyOf_1904c_2 rfl (q := 0) rfl ?_
  obtain ⟨h2, h⟩ := ck_e h
  obtain ⟨q1, h3, h⟩ := bd_e h
  refine zx_getClass hG h2 h3 (by decide) (by decide) (Nat.le_of_ble_eq_true rfl) dJ7_copyOf_1904c_3 ?_
  obtain ⟨p4, μ6, z5, h⟩ := cl_e h
  refine zx_callS (As := [.ref a0, .int x1, .ref q1]) hG mf_J7_copyOf_6403c cs_J7_300 ⟨by decide, by decide⟩ rfl rfl (Nat.le_of_ble_eq_true rfl) (s_J7_copyOf_6403c hG _ _ _ _ _ _ z5) (Nat.le_of_ble_eq_true rfl) dJ7_copyOf_1904c_6 ?_
  cases h
  exact zx_aret dJ7_copyOf_1904c_9 rfl (Or.inr ⟨_, rfl⟩)
def f_Jx4a65c_grow_92f84_b20 (a0 : Nat) (x1 : Int32) (x2 : Int32) (μ : Mm) : Option (Nat × Mm) :=
  bd (f_J8_newLength_cabcc x2 (x1 - x2) (x2 >>> (1 &&& 31))) fun y24 =>
  ck (mK μ a0 = 100) <|
  bd (mR μ a0 1) fun p27 =>
  cl (f_J7_copyOf_1904c p27 y24 μ) fun p29 μ31 =>
  ck (mK μ31 a0 = 100) <|
  zl (sR μ31 a0 1 (some p29)) fun μ33 =>
  some (p29, μ33)
def f_Jx4a65c_grow_92f84 (a0 : Nat) (x1 : Int32) (μ : Mm) : Option (Nat × Mm) :=
  ck (mK μ a0 = 100) <|
  bd (mR μ a0 1) fun p2 =>
  ck (isA1256 (mK μ p2)) <|
  if 0 < (nI (mL μ p2)) then
    f_Jx4a65c_grow_92f84_b20 a0 x1 (nI (mL μ p2)) μ
  else
    bd (mR μ a0 1) fun p6 =>
    bd (mR μ 0 0) fun p8 =>
    if p6 = p8 then
      bd (f_J9_max_7cf53 10 x1) fun y11 =>
      ck (smn y11) <|
      zl (mN μ) fun p14 =>
      zl (nw μ 26 (Int32.toNatClampNeg y11) (Int32.toNatClampNeg y11)) fun μ15 =>
      ck (mK μ15 a0 = 100) <|
      zl (sR μ15 a0 1 (some p14)) fun μ21 =>
      some (p14, μ21)
    else
      f_Jx4a65c_grow_92f84_b20 a0 x1 (nI (mL μ p2)) μ
set_option maxRecDepth 100000 in
theorem s_Jx4a65c_grow_92f84_b20 {l : Launch} {G : Gt} (hG : Gok l G) (a0 : Nat) (x1 : Int32) (x2 : Int32) (μ : Mm) (r : Nat) (μ' : Mm) (h : f_Jx4a65c_grow_92f84_b20 a0 x1 x2 μ = some (r, μ')) : ZX l G mJx4a65c_grow_92f84 20 [(0, .ref a0), (1, .int x1), (2, .int x2)] [] μ (.inl (some (.ref r))) μ' := by
  unfold f_Jx4a65c_grow_92f84_b20 at h
  refine zx_iload_n dJx4a65c_grow_92f84_20 rfl (q := 2) rfl ?_
  refine zx_iload_n dJx4a65c_grow_92f84_21 rfl (q := 1) rfl ?_
  refine zx_iload_n dJx4a65c_grow_92f84_22 rfl (q := 2) rfl ?_
  refine zx_isub dJx4a65c_grow_92f84_23 ?_
  refine zx_iload_n dJx4a65c_grow_92f84_24 rfl (q := 2) rfl ?_
  refine zx_iconst (v := 1) dJx4a65c_grow_92f84_25 iv_iconst_1 ?_
  refine zx_ishr dJx4a65c_grow_92f84_26 ?_
  obtain ⟨y24, z25, h⟩ := bd_e h
  refine zx_callS (As := [.int x2, .int (x1 - x2), .int (x2 >>> (1 &&& 31))]) hG mf_J8_newLength_cabcc cs_Jx4a65c_73 ⟨by decide, by decide⟩ rfl rfl (Nat.le_of_ble_eq_true rfl) (s_J8_newLength_cabcc hG _ _ _ _ _ z25) (Nat.le_of_ble_eq_true rfl) dJx4a65c_grow_92f84_27 ?_
  refine zx_istore_n (L' := [(3, .int y24), (0, .ref a0), (1, .int x1), (2, .int x2)]) dJx4a65c_grow_92f84_30 rfl (by decide) rfl ?_
  refine zx_aload_n dJx4a65c_grow_92f84_31 rfl (q := 1) rfl ?_
  refine zx_aload_n dJx4a65c_grow_92f84_32 rfl (q := 1) rfl ?_
  obtain ⟨h26, h⟩ := ck_e h
  obtain ⟨p27, h28, h⟩ := bd_e h
  refine zx_getR hG fl_Jx4a65c_9 h26 h28 dJx4a65c_grow_92f84_33 ?_
  refine zx_iload_n dJx4a65c_grow_92f84_36 rfl (q := 0) rfl ?_
  obtain ⟨p29, μ31, z30, h⟩ := cl_e h
  refine zx_callS (As := [.ref p27, .int y24]) hG mf_J7_copyOf_1904c cs_Jx4a65c_66 ⟨by decide, by decide⟩ rfl rfl (Nat.le_of_ble_eq_true rfl) (s_J7_copyOf_1904c hG _ _ _ _ _ z30) (Nat.le_of_ble_eq_true rfl) dJx4a65c_grow_92f84_37 ?_
  refine zx_dup_x1 dJx4a65c_grow_92f84_40 rfl rfl ?_
  obtain ⟨h32, h⟩ := ck_e h
  refine zx_putR hG fl_Jx4a65c_9 fn_0_1 h32 dJx4a65c_grow_92f84_41 ?_
  obtain ⟨μ33, e35, h⟩ := zlm_e h
  refine zx_mem e35 ?_
  have e34 : mK μ33 = mK μ31 := (congrArg mK e35).trans rfl
  cases h
  exact zx_aret dJx4a65c_grow_92f84_44 rfl (Or.inr ⟨_, rfl⟩)
set_option maxRecDepth 100000 in
theorem s_Jx4a65c_grow_92f84 {l : Launch} {G : Gt} (hG : Gok l G) (a0 : Nat) (x1 : Int32) (μ : Mm) (r : Nat) (μ' : Mm) (h : f_Jx4a65c_grow_92f84 a0 x1 μ = some (r, μ')) : ZX l G mJx4a65c_grow_92f84 0 [(0, .ref a0), (1, .int x1)] [] μ (.inl (some (.ref r))) μ' := by
  unfold f_Jx4a65c_grow_92f84 at h
  refine zx_aload_n dJx4a65c_grow_92f84_0 rfl (q := 0) rfl ?_
  obtain ⟨h1, h⟩ := ck_e h
  obtain ⟨p2, h3, h⟩ := bd_e h
  refine zx_getR hG fl_Jx4a65c_9 h1 h3 dJx4a65c_grow_92f84_1 ?_
  obtain ⟨h4, h⟩ := ck_e h
  refine zx_alen hG rfl (h4).1 (h4).2 dJx4a65c_grow_92f84_4 ?_
  refine zx_istore_n (L' := [(2, .int (nI (mL μ p2))), (0, .ref a0), (1, .int x1)]) dJx4a65c_grow_92f84_5 rfl (by decide) rfl ?_
  refine zx_iload_n dJx4a65c_grow_92f84_6 rfl (q := 0) rfl ?_
  by_cases c5 : 0 < (nI (mL μ p2))
  · have h := it_t c5 h
    refine zx_if_gt_t (tgt := 20) dJx4a65c_grow_92f84_7 (by decide) c5 ?_
    refine zx_sub (L' := [(0, .ref a0), (1, .int x1), (2, .int (nI (mL μ p2)))]) [1, 2, 0] rfl ?_
    exact s_Jx4a65c_grow_92f84_b20 hG _ _ _ _ _ _ h
  · have h := it_f c5 h
    refine zx_if_gt_f (tgt := 20) dJx4a65c_grow_92f84_7 (by decide) c5 ?_
    refine zx_aload_n dJx4a65c_grow_92f84_10 rfl (q := 1) rfl ?_
    obtain ⟨p6, h7, h⟩ := bd_e h
    refine zx_getR hG fl_Jx4a65c_9 h1 h7 dJx4a65c_grow_92f84_11 ?_
    obtain ⟨p8, h9, h⟩ := bd_e h
    refine zx_getsD hG h9 rfl dJx4a65c_grow_92f84_14 ?_
    by_cases c10 : p6 = p8
    · have h := it_t c10 h
      refine zx_acmp_eq_t (tgt := 45) dJx4a65c_grow_92f84_17 (by decide) c10 ?_
      refine zx_aload_n dJx4a65c_grow_92f84_45 rfl (q := 1) rfl ?_
      refine zx_bipush (v := 10) dJx4a65c_grow_92f84_46 iv_bipush_10 ?_
      refine zx_iload_n dJx4a65c_grow_92f84_48 rfl (q := 2) rfl ?_
      obtain ⟨y11, z12, h⟩ := bd_e h
      refine zx_callS (As := [.int 10, .int x1]) hG mf_J9_max_7cf53 cs_Jx4a65c_79 ⟨by decide, by decide⟩ rfl rfl (Nat.le_of_ble_eq_true rfl) (s_J9_max_7cf53 hG _ _ _ _ z12) (Nat.le_of_ble_eq_true rfl) dJx4a65c_grow_92f84_49 ?_
      obtain ⟨h13, h⟩ := ck_e h
      refine zx_newO 26 hG kl_Jx4a65c_7 w_ao_O (by decide) (by decide) (smn_e h13) (h13).2 dJx4a65c_grow_92f84_52 ?_
      obtain ⟨p14, e17, h⟩ := zlm_e h
      obtain ⟨μ15, e18, h⟩ := zlm_e h
      refine zx_mem e18 (zx_stk e17 ?_)
      have h16 : mK μ15 p14 = 26 := nw_Kp e18 e17
      have h19 : isA 6 (mK μ15 p14) := by rw [h16]; decide
      refine zx_dup_x1 dJx4a65c_grow_92f84_55 rfl rfl ?_
      obtain ⟨h20, h⟩ := ck_e h
      refine zx_putR hG fl_Jx4a65c_9 fn_0_1 h20 dJx4a65c_grow_92f84_56 ?_
      obtain ⟨μ21, e23, h⟩ := zlm_e h
      refine zx_mem e23 ?_
      have e22 : mK μ21 = mK μ15 := (congrArg mK e23).trans rfl
      cases h
      exact zx_aret dJx4a65c_grow_92f84_59 rfl (Or.inr ⟨_, rfl⟩)
    · have h := it_f c10 h
      refine zx_acmp_eq_f (tgt := 45) dJx4a65c_grow_92f84_17 (by decide) c10 ?_
      refine zx_sub (L' := [(0, .ref a0), (1, .int x1), (2, .int (nI (mL μ p2)))]) [1, 2, 0] rfl ?_
      exact s_Jx4a65c_grow_92f84_b20 hG _ _ _ _ _ _ h
def f_Jx4a65c_grow_d5877 (a0 : Nat) (μ : Mm) : Option (Nat × Mm) :=
  ck (mK μ a0 = 100) <|
  cl (f_Jx4a65c_grow_92f84 a0 ((mI μ a0 2) + 1) μ) fun p2 μ4 =>
  some (p2, μ4)
set_option maxRecDepth 100000 in
theorem s_Jx4a65c_grow_d5877 {l : Launch} {G : Gt} (hG : Gok l G) (a0 : Nat) (μ : Mm) (r : Nat) (μ' : Mm) (h : f_Jx4a65c_grow_d5877 a0 μ = some (r, μ')) : ZX l G mJx4a65c_grow_d5877 0 [(0, .ref a0)] [] μ (.inl (some (.ref r))) μ' := by
  unfold f_Jx4a65c_grow_d5877 at h
  refine zx_aload_n dJx4a65c_grow_d5877_0 rfl (q := 0) rfl ?_
  refine zx_aload_n dJx4a65c_grow_d5877_1 rfl (q := 0) rfl ?_
  obtain ⟨h1, h⟩ := ck_e h
  refine zx_getI hG fl_Jx4a65c_48 h1 dJx4a65c_grow_d5877_2 ?_
  refine zx_iconst (v := 1) dJx4a65c_grow_d5877_5 iv_iconst_1 ?_
  refine zx_iadd dJx4a65c_grow_d5877_6 ?_
  obtain ⟨p2, μ4, z3, h⟩ := cl_e h
  refine zx_callV (As := [.int ((mI μ a0 2) + 1)]) hG mf_Jx4a65c_grow_92f84 cv_Jx4a65c_69 h1 ⟨by decide, by decide⟩ rfl rfl (Nat.le_of_ble_eq_true rfl) (s_Jx4a65c_grow_92f84 hG _ _ _ _ _ z3) (Nat.le_of_ble_eq_true rfl) dJx4a65c_grow_d5877_7 ?_
  cases h
  exact zx_aret dJx4a65c_grow_d5877_10 rfl (Or.inr ⟨_, rfl⟩)
def f_Jx4a65c_add_72be8_b11 (a0 : Nat) (a1 : Nat) (a2 : Nat) (x3 : Int32) (μ : Mm) : Option (Unit × Mm) :=
  ck (isA 6 (mK μ a2)) <|
  ck (inb x3 (mL μ a2)) <|
  ck (isO (mK μ a1)) <|
  zl (sR μ a2 (Int32.toNatClampNeg x3) (some a1)) fun μ10 =>
  ck (mK μ10 a0 = 100) <|
  zl (sI μ10 a0 2 (x3 + 1)) fun μ14 =>
  some ((), μ14)
def f_Jx4a65c_add_72be8 (a0 : Nat) (a1 : Nat) (a2 : Nat) (x3 : Int32) (μ : Mm) : Option (Unit × Mm) :=
  ck (isA1256 (mK μ a2)) <|
  if ¬ x3 = (nI (mL μ a2)) then
    f_Jx4a65c_add_72be8_b11 a0 a1 a2 x3 μ
  else
    ck (mK μ a0 = 100) <|
    cl (f_Jx4a65c_grow_d5877 a0 μ) fun p4 μ6 =>
    f_Jx4a65c_add_72be8_b11 a0 a1 p4 x3 μ6
set_option maxRecDepth 100000 in
theorem s_Jx4a65c_add_72be8_b11 {l : Launch} {G : Gt} (hG : Gok l G) (a0 : Nat) (a1 : Nat) (a2 : Nat) (x3 : Int32) (μ : Mm) (r : Unit) (μ' : Mm) (h : f_Jx4a65c_add_72be8_b11 a0 a1 a2 x3 μ = some (r, μ')) : ZX l G mJx4a65c_add_72be8 11 [(0, .ref a0), (1, .ref a1), (2, .ref a2), (3, .int x3)] [] μ (.inl none) μ' := by
  unfold f_Jx4a65c_add_72be8_b11 at h
  refine zx_aload_n dJx4a65c_add_72be8_11 rfl (q := 2) rfl ?_
  refine zx_iload_n dJx4a65c_add_72be8_12 rfl (q := 3) rfl ?_
  refine zx_aload_n dJx4a65c_add_72be8_13 rfl (q := 1) rfl ?_
  obtain ⟨h7, h⟩ := ck_e h
  obtain ⟨h8, h⟩ := ck_e h
  obtain ⟨h9, h⟩ := ck_e h
  refine zx_aastO hG rfl (h7).1 (h7).2 (inb_e h8) (isO_e h9) (zCast _) dJx4a65c_add_72be8_14 ?_
  obtain ⟨μ10, e12, h⟩ := zlm_e h
  refine zx_mem e12 ?_
  have e11 : mK μ10 = mK μ := (congrArg mK e12).trans rfl
  refine zx_aload_n dJx4a65c_add_72be8_15 rfl (q := 0) rfl ?_
  refine zx_iload_n dJx4a65c_add_72be8_16 rfl (q := 3) rfl ?_
  refine zx_iconst (v := 1) dJx4a65c_add_72be8_17 iv_iconst_1 ?_
  refine zx_iadd dJx4a65c_add_72be8_18 ?_
  obtain ⟨h13, h⟩ := ck_e h
  refine zx_putI hG fl_Jx4a65c_48 fn_0_2 h13 dJx4a65c_add_72be8_19 ?_
  obtain ⟨μ14, e16, h⟩ := zlm_e h
  refine zx_mem e16 ?_
  have e15 : mK μ14 = mK μ10 := (congrArg mK e16).trans rfl
  cases h
  exact zx_vret dJx4a65c_add_72be8_22 rfl
set_option maxRecDepth 100000 in
theorem s_Jx4a65c_add_72be8 {l : Launch} {G : Gt} (hG : Gok l G) (a0 : Nat) (a1 : Nat) (a2 : Nat) (x3 : Int32) (μ : Mm) (r : Unit) (μ' : Mm) (h : f_Jx4a65c_add_72be8 a0 a1 a2 x3 μ = some (r, μ')) : ZX l G mJx4a65c_add_72be8 0 [(0, .ref a0), (1, .ref a1), (2, .ref a2), (3, .int x3)] [] μ (.inl none) μ' := by
  unfold f_Jx4a65c_add_72be8 at h
  refine zx_iload_n dJx4a65c_add_72be8_0 rfl (q := 3) rfl ?_
  refine zx_aload_n dJx4a65c_add_72be8_1 rfl (q := 2) rfl ?_
  obtain ⟨h1, h⟩ := ck_e h
  refine zx_alen hG rfl (h1).1 (h1).2 dJx4a65c_add_72be8_2 ?_
  by_cases c2 : ¬ x3 = (nI (mL μ a2))
  · have h := it_t c2 h
    refine zx_icmp_ne_t (tgt := 11) dJx4a65c_add_72be8_3 (by decide) c2 ?_
    exact s_Jx4a65c_add_72be8_b11 hG _ _ _ _ _ _ _ h
  · have h := it_f c2 h
    refine zx_icmp_ne_f (tgt := 11) dJx4a65c_add_72be8_3 (by decide) (Classical.not_not.mp c2) ?_
    refine zx_aload_n dJx4a65c_add_72be8_6 rfl (q := 0) rfl ?_
    obtain ⟨h3, h⟩ := ck_e h
    obtain ⟨p4, μ6, z5, h⟩ := cl_e h
    refine zx_callV (As := []) hG mf_Jx4a65c_grow_d5877 cv_Jx4a65c_129 h3 ⟨by decide, by decide⟩ rfl rfl (Nat.le_of_ble_eq_true rfl) (s_Jx4a65c_grow_d5877 hG _ _ _ _ z5) (Nat.le_of_ble_eq_true rfl) dJx4a65c_add_72be8_7 ?_
    refine zx_astore_n (L' := [(2, .ref p4), (0, .ref a0), (1, .ref a1), (3, .int x3)]) dJx4a65c_add_72be8_10 rfl (by decide) rfl ?_
    refine zx_sub (L' := [(0, .ref a0), (1, .ref a1), (2, .ref p4), (3, .int x3)]) [1, 2, 0, 3] rfl ?_
    exact s_Jx4a65c_add_72be8_b11 hG _ _ _ _ _ _ _ h
