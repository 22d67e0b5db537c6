theorem dX6_hasResult_0 : decode cX6_hasResult 0 = .ok (.aload_n 0, 1) := by decide +kernel
theorem dX6_hasResult_1 : decode cX6_hasResult 1 = .ok (.getfield 15, 3) := by decide +kernel
theorem dX6_hasResult_4 : decode cX6_hasResult 4 = .ok (.iconst 1, 1) := by decide +kernel
theorem dX6_hasResult_5 : decode cX6_hasResult 5 = .ok (.if_icmp .lt 12, 3) := by decide +kernel
theorem dX6_hasResult_8 : decode cX6_hasResult 8 = .ok (.aload_n 0, 1) := by decide +kernel
theorem dX6_hasResult_9 : decode cX6_hasResult 9 = .ok (.getfield 15, 3) := by decide +kernel
theorem dX6_hasResult_12 : decode cX6_hasResult 12 = .ok (.bipush 9, 2) := by decide +kernel
theorem dX6_hasResult_14 : decode cX6_hasResult 14 = .ok (.if_icmp .le 12, 3) := by decide +kernel
theorem dX6_hasResult_17 : decode cX6_hasResult 17 = .ok (.aload_n 0, 1) := by decide +kernel
theorem dX6_hasResult_18 : decode cX6_hasResult 18 = .ok (.getfield 15, 3) := by decide +kernel
theorem dX6_hasResult_21 : decode cX6_hasResult 21 = .ok (.bipush 15, 2) := by decide +kernel
theorem dX6_hasResult_23 : decode cX6_hasResult 23 = .ok (.if_icmp .ne 7, 3) := by decide +kernel
theorem dX6_hasResult_26 : decode cX6_hasResult 26 = .ok (.iconst 1, 1) := by decide +kernel
theorem dX6_hasResult_27 : decode cX6_hasResult 27 = .ok (.goto 4, 3) := by decide +kernel
theorem dX6_hasResult_30 : decode cX6_hasResult 30 = .ok (.iconst 0, 1) := by decide +kernel
theorem dX6_hasResult_31 : decode cX6_hasResult 31 = .ok (.ireturn, 1) := by decide +kernel
theorem dX3_endIn_0 : decode cX3_endIn 0 = .ok (.aload_n 0, 1) := by decide +kernel
theorem dX3_endIn_1 : decode cX3_endIn 1 = .ok (.bipush 101, 2) := by decide +kernel
theorem dX3_endIn_3 : decode cX3_endIn 3 = .ok (.putfield 19, 3) := by decide +kernel
theorem dX3_endIn_6 : decode cX3_endIn 6 = .ok (.aload_n 0, 1) := by decide +kernel
theorem dX3_endIn_7 : decode cX3_endIn 7 = .ok (.getfield 13, 3) := by decide +kernel
theorem dX3_endIn_10 : decode cX3_endIn 10 = .ok (.iconst 3, 1) := by decide +kernel
theorem dX3_endIn_11 : decode cX3_endIn 11 = .ok (.iload_n 1, 1) := by decide +kernel
theorem dX3_endIn_12 : decode cX3_endIn 12 = .ok (.iastore, 1) := by decide +kernel
theorem dX3_endIn_13 : decode cX3_endIn 13 = .ok (.return_, 1) := by decide +kernel
theorem dX0_endDelay_0 : decode cX0_endDelay 0 = .ok (.aload_n 1, 1) := by decide +kernel
theorem dX0_endDelay_1 : decode cX0_endDelay 1 = .ok (.getfield 161, 3) := by decide +kernel
theorem dX0_endDelay_4 : decode cX0_endDelay 4 = .ok (.getfield 165, 3) := by decide +kernel
theorem dX0_endDelay_7 : decode cX0_endDelay 7 = .ok (.bipush 9, 2) := by decide +kernel
theorem dX0_endDelay_9 : decode cX0_endDelay 9 = .ok (.if_icmp .ne 34, 3) := by decide +kernel
theorem dX0_endDelay_12 : decode cX0_endDelay 12 = .ok (.aload_n 1, 1) := by decide +kernel
theorem dX0_endDelay_13 : decode cX0_endDelay 13 = .ok (.getfield 170, 3) := by decide +kernel
theorem dX0_endDelay_16 : decode cX0_endDelay 16 = .ok (.iconst (-1), 1) := by decide +kernel
theorem dX0_endDelay_17 : decode cX0_endDelay 17 = .ok (.if_icmp .ne 26, 3) := by decide +kernel
theorem dX0_endDelay_20 : decode cX0_endDelay 20 = .ok (.aload_n 1, 1) := by decide +kernel
theorem dX0_endDelay_21 : decode cX0_endDelay 21 = .ok (.getfield 137, 3) := by decide +kernel
theorem dX0_endDelay_24 : decode cX0_endDelay 24 = .ok (.invokestatic 173, 3) := by decide +kernel
theorem dX0_endDelay_27 : decode cX0_endDelay 27 = .ok (.ifCond .eq 16, 3) := by decide +kernel
theorem dX0_endDelay_30 : decode cX0_endDelay 30 = .ok (.aload_n 1, 1) := by decide +kernel
theorem dX0_endDelay_31 : decode cX0_endDelay 31 = .ok (.aload_n 0, 1) := by decide +kernel
theorem dX0_endDelay_32 : decode cX0_endDelay 32 = .ok (.getfield 66, 3) := by decide +kernel
theorem dX0_endDelay_35 : decode cX0_endDelay 35 = .ok (.aload_n 1, 1) := by decide +kernel
theorem dX0_endDelay_36 : decode cX0_endDelay 36 = .ok (.getfield 137, 3) := by decide +kernel
theorem dX0_endDelay_39 : decode cX0_endDelay 39 = .ok (.iaload, 1) := by decide +kernel
theorem dX0_endDelay_40 : decode cX0_endDelay 40 = .ok (.putfield 176, 3) := by decide +kernel
theorem dX0_endDelay_43 : decode cX0_endDelay 43 = .ok (.aload_n 1, 1) := by decide +kernel
theorem dX0_endDelay_44 : decode cX0_endDelay 44 = .ok (.getfield 161, 3) := by decide +kernel
theorem dX0_endDelay_47 : decode cX0_endDelay 47 = .ok (.invokevirtual 179, 3) := by decide +kernel
theorem dX0_endDelay_50 : decode cX0_endDelay 50 = .ok (.ifCond .eq 12, 3) := by decide +kernel
theorem dX0_endDelay_53 : decode cX0_endDelay 53 = .ok (.aload_n 1, 1) := by decide +kernel
theorem dX0_endDelay_54 : decode cX0_endDelay 54 = .ok (.bipush 98, 2) := by decide +kernel
theorem dX0_endDelay_56 : decode cX0_endDelay 56 = .ok (.putfield 133, 3) := by decide +kernel
theorem dX0_endDelay_59 : decode cX0_endDelay 59 = .ok (.goto 11, 3) := by decide +kernel
theorem dX0_endDelay_62 : decode cX0_endDelay 62 = .ok (.aload_n 1, 1) := by decide +kernel
theorem dX0_endDelay_63 : decode cX0_endDelay 63 = .ok (.aload_n 0, 1) := by decide +kernel
theorem dX0_endDelay_64 : decode cX0_endDelay 64 = .ok (.getfield 77, 3) := by decide +kernel
theorem dX0_endDelay_67 : decode cX0_endDelay 67 = .ok (.invokevirtual 183, 3) := by decide +kernel
theorem dX0_endDelay_70 : decode cX0_endDelay 70 = .ok (.return_, 1) := by decide +kernel
theorem dX6_isQuestion_0 : decode cX6_isQuestion 0 = .ok (.aload_n 0, 1) := by decide +kernel
theorem dX6_isQuestion_1 : decode cX6_isQuestion 1 = .ok (.getfield 15, 3) := by decide +kernel
theorem dX6_isQuestion_4 : decode cX6_isQuestion 4 = .ok (.bipush 12, 2) := by decide +kernel
theorem dX6_isQuestion_6 : decode cX6_isQuestion 6 = .ok (.if_icmp .eq 12, 3) := by decide +kernel
theorem dX6_isQuestion_9 : decode cX6_isQuestion 9 = .ok (.aload_n 0, 1) := by decide +kernel
theorem dX6_isQuestion_10 : decode cX6_isQuestion 10 = .ok (.getfield 15, 3) := by decide +kernel
theorem dX6_isQuestion_13 : decode cX6_isQuestion 13 = .ok (.bipush 13, 2) := by decide +kernel
theorem dX6_isQuestion_15 : decode cX6_isQuestion 15 = .ok (.if_icmp .ne 7, 3) := by decide +kernel
theorem dX6_isQuestion_18 : decode cX6_isQuestion 18 = .ok (.iconst 1, 1) := by decide +kernel
theorem dX6_isQuestion_19 : decode cX6_isQuestion 19 = .ok (.goto 4, 3) := by decide +kernel
theorem dX6_isQuestion_22 : decode cX6_isQuestion 22 = .ok (.iconst 0, 1) := by decide +kernel
theorem dX6_isQuestion_23 : decode cX6_isQuestion 23 = .ok (.ireturn, 1) := by decide +kernel
theorem dX6_isLeap_0 : decode cX6_isLeap 0 = .ok (.aload_n 0, 1) := by decide +kernel
theorem dX6_isLeap_1 : decode cX6_isLeap 1 = .ok (.getfield 15, 3) := by decide +kernel
theorem dX6_isLeap_4 : decode cX6_isLeap 4 = .ok (.bipush 16, 2) := by decide +kernel
theorem dX6_isLeap_6 : decode cX6_isLeap 6 = .ok (.if_icmp .eq 12, 3) := by decide +kernel
theorem dX6_isLeap_9 : decode cX6_isLeap 9 = .ok (.aload_n 0, 1) := by decide +kernel
theorem dX6_isLeap_10 : decode cX6_isLeap 10 = .ok (.getfield 15, 3) := by decide +kernel
theorem dX6_isLeap_13 : decode cX6_isLeap 13 = .ok (.bipush 17, 2) := by decide +kernel
theorem dX6_isLeap_15 : decode cX6_isLeap 15 = .ok (.if_icmp .ne 7, 3) := by decide +kernel
theorem dX6_isLeap_18 : decode cX6_isLeap 18 = .ok (.iconst 1, 1) := by decide +kernel
theorem dX6_isLeap_19 : decode cX6_isLeap 19 = .ok (.goto 4, 3) := by decide +kernel
theorem dX6_isLeap_22 : decode cX6_isLeap 22 = .ok (.iconst 0, 1) := by decide +kernel
theorem dX6_isLeap_23 : decode cX6_isLeap 23 = .ok (.ireturn, 1) := by decide +kernel
theorem dJx4a65c_clear_da8c8_0 : decode cJx4a65c_clear_da8c8 0 = .ok (.aload_n 0, 1) := by decide +kernel
theorem dJx4a65c_clear_da8c8_1 : decode cJx4a65c_clear_da8c8 1 = .ok (.dup, 1) := by decide +kernel
theorem dJx4a65c_clear_da8c8_2 : decode cJx4a65c_clear_da8c8 2 = .ok (.getfield 63, 3) := by decide +kernel
theorem dJx4a65c_clear_da8c8_5 : decode cJx4a65c_clear_da8c8 5 = .ok (.iconst 1, 1) := by decide +kernel
theorem dJx4a65c_clear_da8c8_6 : decode cJx4a65c_clear_da8c8 6 = .ok (.iadd, 1) := by decide +kernel
theorem dJx4a65c_clear_da8c8_7 : decode cJx4a65c_clear_da8c8 7 = .ok (.putfield 63, 3) := by decide +kernel
theorem dJx4a65c_clear_da8c8_10 : decode cJx4a65c_clear_da8c8 10 = .ok (.aload_n 0, 1) := by decide +kernel
theorem dJx4a65c_clear_da8c8_11 : decode cJx4a65c_clear_da8c8 11 = .ok (.getfield 9, 3) := by decide +kernel
theorem dJx4a65c_clear_da8c8_14 : decode cJx4a65c_clear_da8c8 14 = .ok (.astore_n 1, 1) := by decide +kernel
theorem dJx4a65c_clear_da8c8_15 : decode cJx4a65c_clear_da8c8 15 = .ok (.aload_n 0, 1) := by decide +kernel
theorem dJx4a65c_clear_da8c8_16 : decode cJx4a65c_clear_da8c8 16 = .ok (.getfield 48, 3) := by decide +kernel
theorem dJx4a65c_clear_da8c8_19 : decode cJx4a65c_clear_da8c8 19 = .ok (.istore_n 2, 1) := by decide +kernel
theorem dJx4a65c_clear_da8c8_20 : decode cJx4a65c_clear_da8c8 20 = .ok (.aload_n 0, 1) := by decide +kernel
theorem dJx4a65c_clear_da8c8_21 : decode cJx4a65c_clear_da8c8 21 = .ok (.iconst 0, 1) := by decide +kernel
theorem dJx4a65c_clear_da8c8_22 : decode cJx4a65c_clear_da8c8 22 = .ok (.dup_x1, 1) := by decide +kernel
theorem dJx4a65c_clear_da8c8_23 : decode cJx4a65c_clear_da8c8 23 = .ok (.putfield 48, 3) := by decide +kernel
theorem dJx4a65c_clear_da8c8_26 : decode cJx4a65c_clear_da8c8 26 = .ok (.istore_n 3, 1) := by decide +kernel
theorem dJx4a65c_clear_da8c8_27 : decode cJx4a65c_clear_da8c8 27 = .ok (.iload_n 3, 1) := by decide +kernel
theorem dJx4a65c_clear_da8c8_28 : decode cJx4a65c_clear_da8c8 28 = .ok (.iload_n 2, 1) := by decide +kernel
theorem dJx4a65c_clear_da8c8_29 : decode cJx4a65c_clear_da8c8 29 = .ok (.if_icmp .ge 13, 3) := by decide +kernel
theorem dJx4a65c_clear_da8c8_32 : decode cJx4a65c_clear_da8c8 32 = .ok (.aload_n 1, 1) := by decide +kernel
theorem dJx4a65c_clear_da8c8_33 : decode cJx4a65c_clear_da8c8 33 = .ok (.iload_n 3, 1) := by decide +kernel
theorem dJx4a65c_clear_da8c8_34 : decode cJx4a65c_clear_da8c8 34 = .ok (.aconst_null, 1) := by decide +kernel
theorem dJx4a65c_clear_da8c8_35 : decode cJx4a65c_clear_da8c8 35 = .ok (.aastore, 1) := by decide +kernel
theorem dJx4a65c_clear_da8c8_36 : decode cJx4a65c_clear_da8c8 36 = .ok (.iinc 3 1, 3) := by decide +kernel
theorem dJx4a65c_clear_da8c8_39 : decode cJx4a65c_clear_da8c8 39 = .ok (.goto (-12), 3) := by decide +kernel
theorem dJx4a65c_clear_da8c8_42 : decode cJx4a65c_clear_da8c8 42 = .ok (.return_, 1) := by decide +kernel
theorem dX5_takeBack_0 : decode cX5_takeBack 0 = .ok (.aload_n 1, 1) := by decide +kernel
theorem dX5_takeBack_1 : decode cX5_takeBack 1 = .ok (.getfield 76, 3) := by decide +kernel
theorem dX5_takeBack_4 : decode cX5_takeBack 4 = .ok (.iconst (-1), 1) := by decide +kernel
theorem dX5_takeBack_5 : decode cX5_takeBack 5 = .ok (.if_icmp .eq 27, 3) := by decide +kernel
theorem dX5_takeBack_8 : decode cX5_takeBack 8 = .ok (.aload_n 0, 1) := by decide +kernel
theorem dX5_takeBack_9 : decode cX5_takeBack 9 = .ok (.getfield 9, 3) := by decide +kernel
theorem dX5_takeBack_12 : decode cX5_takeBack 12 = .ok (.aload_n 1, 1) := by decide +kernel
theorem dX5_takeBack_13 : decode cX5_takeBack 13 = .ok (.getfield 42, 3) := by decide +kernel
theorem dX5_takeBack_16 : decode cX5_takeBack 16 = .ok (.getfield 70, 3) := by decide +kernel
theorem dX5_takeBack_19 : decode cX5_takeBack 19 = .ok (.aload_n 1, 1) := by decide +kernel
theorem dX5_takeBack_20 : decode cX5_takeBack 20 = .ok (.getfield 73, 3) := by decide +kernel
theorem dX5_takeBack_23 : decode cX5_takeBack 23 = .ok (.iastore, 1) := by decide +kernel
theorem dX5_takeBack_24 : decode cX5_takeBack 24 = .ok (.aload_n 0, 1) := by decide +kernel
theorem dX5_takeBack_25 : decode cX5_takeBack 25 = .ok (.aload_n 1, 1) := by decide +kernel
theorem dX5_takeBack_26 : decode cX5_takeBack 26 = .ok (.getfield 76, 3) := by decide +kernel
theorem dX5_takeBack_29 : decode cX5_takeBack 29 = .ok (.invokevirtual 39, 3) := by decide +kernel
theorem dX5_takeBack_32 : decode cX5_takeBack 32 = .ok (.return_, 1) := by decide +kernel
theorem dJx4a65c_fastRemove_b59b0_0 : decode cJx4a65c_fastRemove_b59b0 0 = .ok (.aload_n 0, 1) := by decide +kernel
theorem dJx4a65c_fastRemove_b59b0_1 : decode cJx4a65c_fastRemove_b59b0 1 = .ok (.dup, 1) := by decide +kernel
theorem dJx4a65c_fastRemove_b59b0_2 : decode cJx4a65c_fastRemove_b59b0 2 = .ok (.getfield 63, 3) := by decide +kernel
theorem dJx4a65c_fastRemove_b59b0_5 : decode cJx4a65c_fastRemove_b59b0 5 = .ok (.iconst 1, 1) := by decide +kernel
theorem dJx4a65c_fastRemove_b59b0_6 : decode cJx4a65c_fastRemove_b59b0 6 = .ok (.iadd, 1) := by decide +kernel
theorem dJx4a65c_fastRemove_b59b0_7 : decode cJx4a65c_fastRemove_b59b0 7 = .ok (.putfield 63, 3) := by decide +kernel
theorem dJx4a65c_fastRemove_b59b0_10 : decode cJx4a65c_fastRemove_b59b0 10 = .ok (.aload_n 0, 1) := by decide +kernel
theorem dJx4a65c_fastRemove_b59b0_11 : decode cJx4a65c_fastRemove_b59b0 11 = .ok (.getfield 48, 3) := by decide +kernel
theorem dJx4a65c_fastRemove_b59b0_14 : decode cJx4a65c_fastRemove_b59b0 14 = .ok (.iconst 1, 1) := by decide +kernel
theorem dJx4a65c_fastRemove_b59b0_15 : decode cJx4a65c_fastRemove_b59b0 15 = .ok (.isub, 1) := by decide +kernel
theorem dJx4a65c_fastRemove_b59b0_16 : decode cJx4a65c_fastRemove_b59b0 16 = .ok (.dup, 1) := by decide +kernel
theorem dJx4a65c_fastRemove_b59b0_17 : decode cJx4a65c_fastRemove_b59b0 17 = .ok (.istore_n 3, 1) := by decide +kernel
theorem dJx4a65c_fastRemove_b59b0_18 : decode cJx4a65c_fastRemove_b59b0 18 = .ok (.iload_n 2, 1) := by decide +kernel
theorem dJx4a65c_fastRemove_b59b0_19 : decode cJx4a65c_fastRemove_b59b0 19 = .ok (.if_icmp .le 15, 3) := by decide +kernel
theorem dJx4a65c_fastRemove_b59b0_22 : decode cJx4a65c_fastRemove_b59b0 22 = .ok (.aload_n 1, 1) := by decide +kernel
theorem dJx4a65c_fastRemove_b59b0_23 : decode cJx4a65c_fastRemove_b59b0 23 = .ok (.iload_n 2, 1) := by decide +kernel
theorem dJx4a65c_fastRemove_b59b0_24 : decode cJx4a65c_fastRemove_b59b0 24 = .ok (.iconst 1, 1) := by decide +kernel
theorem dJx4a65c_fastRemove_b59b0_25 : decode cJx4a65c_fastRemove_b59b0 25 = .ok (.iadd, 1) := by decide +kernel
theorem dJx4a65c_fastRemove_b59b0_26 : decode cJx4a65c_fastRemove_b59b0 26 = .ok (.aload_n 1, 1) := by decide +kernel
theorem dJx4a65c_fastRemove_b59b0_27 : decode cJx4a65c_fastRemove_b59b0 27 = .ok (.iload_n 2, 1) := by decide +kernel
theorem dJx4a65c_fastRemove_b59b0_28 : decode cJx4a65c_fastRemove_b59b0 28 = .ok (.iload_n 3, 1) := by decide +kernel
theorem dJx4a65c_fastRemove_b59b0_29 : decode cJx4a65c_fastRemove_b59b0 29 = .ok (.iload_n 2, 1) := by decide +kernel
theorem dJx4a65c_fastRemove_b59b0_30 : decode cJx4a65c_fastRemove_b59b0 30 = .ok (.isub, 1) := by decide +kernel
theorem dJx4a65c_fastRemove_b59b0_31 : decode cJx4a65c_fastRemove_b59b0 31 = .ok (.invokestatic 112, 3) := by decide +kernel
theorem dJx4a65c_fastRemove_b59b0_34 : decode cJx4a65c_fastRemove_b59b0 34 = .ok (.aload_n 1, 1) := by decide +kernel
theorem dJx4a65c_fastRemove_b59b0_35 : decode cJx4a65c_fastRemove_b59b0 35 = .ok (.aload_n 0, 1) := by decide +kernel
theorem dJx4a65c_fastRemove_b59b0_36 : decode cJx4a65c_fastRemove_b59b0 36 = .ok (.iload_n 3, 1) := by decide +kernel
theorem dJx4a65c_fastRemove_b59b0_37 : decode cJx4a65c_fastRemove_b59b0 37 = .ok (.dup_x1, 1) := by decide +kernel
theorem dJx4a65c_fastRemove_b59b0_38 : decode cJx4a65c_fastRemove_b59b0 38 = .ok (.putfield 48, 3) := by decide +kernel
theorem dJx4a65c_fastRemove_b59b0_41 : decode cJx4a65c_fastRemove_b59b0 41 = .ok (.aconst_null, 1) := by decide +kernel
theorem dJx4a65c_fastRemove_b59b0_42 : decode cJx4a65c_fastRemove_b59b0 42 = .ok (.aastore, 1) := by decide +kernel
theorem dJx4a65c_fastRemove_b59b0_43 : decode cJx4a65c_fastRemove_b59b0 43 = .ok (.return_, 1) := by decide +kernel
theorem dJx4a65c_remove_915e3_0 : decode cJx4a65c_remove_915e3 0 = .ok (.iload_n 1, 1) := by decide +kernel
theorem dJx4a65c_remove_915e3_1 : decode cJx4a65c_remove_915e3 1 = .ok (.aload_n 0, 1) := by decide +kernel
theorem dJx4a65c_remove_915e3_2 : decode cJx4a65c_remove_915e3 2 = .ok (.getfield 48, 3) := by decide +kernel
theorem dJx4a65c_remove_915e3_5 : decode cJx4a65c_remove_915e3 5 = .ok (.invokestatic 118, 3) := by decide +kernel
theorem dJx4a65c_remove_915e3_8 : decode cJx4a65c_remove_915e3 8 = .ok (.pop, 1) := by decide +kernel
theorem dJx4a65c_remove_915e3_9 : decode cJx4a65c_remove_915e3 9 = .ok (.aload_n 0, 1) := by decide +kernel
theorem dJx4a65c_remove_915e3_10 : decode cJx4a65c_remove_915e3 10 = .ok (.getfield 9, 3) := by decide +kernel
theorem dJx4a65c_remove_915e3_13 : decode cJx4a65c_remove_915e3 13 = .ok (.astore_n 2, 1) := by decide +kernel
theorem dJx4a65c_remove_915e3_14 : decode cJx4a65c_remove_915e3 14 = .ok (.aload_n 2, 1) := by decide +kernel
theorem dJx4a65c_remove_915e3_15 : decode cJx4a65c_remove_915e3 15 = .ok (.iload_n 1, 1) := by decide +kernel
theorem dJx4a65c_remove_915e3_16 : decode cJx4a65c_remove_915e3 16 = .ok (.aaload, 1) := by decide +kernel
theorem dJx4a65c_remove_915e3_17 : decode cJx4a65c_remove_915e3 17 = .ok (.astore_n 3, 1) := by decide +kernel
theorem dJx4a65c_remove_915e3_18 : decode cJx4a65c_remove_915e3 18 = .ok (.aload_n 0, 1) := by decide +kernel
theorem dJx4a65c_remove_915e3_19 : decode cJx4a65c_remove_915e3 19 = .ok (.aload_n 2, 1) := by decide +kernel
theorem dJx4a65c_remove_915e3_20 : decode cJx4a65c_remove_915e3 20 = .ok (.iload_n 1, 1) := by decide +kernel
theorem dJx4a65c_remove_915e3_21 : decode cJx4a65c_remove_915e3 21 = .ok (.invokevirtual 144, 3) := by decide +kernel
theorem dJx4a65c_remove_915e3_24 : decode cJx4a65c_remove_915e3 24 = .ok (.aload_n 3, 1) := by decide +kernel
theorem dJx4a65c_remove_915e3_25 : decode cJx4a65c_remove_915e3 25 = .ok (.areturn, 1) := by decide +kernel
theorem dX0_throwAwayFrom_0 : decode cX0_throwAwayFrom 0 = .ok (.aload_n 0, 1) := by decide +kernel
theorem dX0_throwAwayFrom_1 : decode cX0_throwAwayFrom 1 = .ok (.getfield 56, 3) := by decide +kernel
theorem dX0_throwAwayFrom_4 : decode cX0_throwAwayFrom 4 = .ok (.getfield 237, 3) := by decide +kernel
theorem dX0_throwAwayFrom_7 : decode cX0_throwAwayFrom 7 = .ok (.invokevirtual 240, 3) := by decide +kernel
theorem dX0_throwAwayFrom_10 : decode cX0_throwAwayFrom 10 = .ok (.aload_n 0, 1) := by decide +kernel
theorem dX0_throwAwayFrom_11 : decode cX0_throwAwayFrom 11 = .ok (.getfield 60, 3) := by decide +kernel
theorem dX0_throwAwayFrom_14 : decode cX0_throwAwayFrom 14 = .ok (.invokevirtual 123, 3) := by decide +kernel
theorem dX0_throwAwayFrom_17 : decode cX0_throwAwayFrom 17 = .ok (.iconst 1, 1) := by decide +kernel
theorem dX0_throwAwayFrom_18 : decode cX0_throwAwayFrom 18 = .ok (.isub, 1) := by decide +kernel
theorem dX0_throwAwayFrom_19 : decode cX0_throwAwayFrom 19 = .ok (.istore_n 2, 1) := by decide +kernel
theorem dX0_throwAwayFrom_20 : decode cX0_throwAwayFrom 20 = .ok (.iload_n 2, 1) := by decide +kernel
theorem dX0_throwAwayFrom_21 : decode cX0_throwAwayFrom 21 = .ok (.iload_n 1, 1) := by decide +kernel
theorem dX0_throwAwayFrom_22 : decode cX0_throwAwayFrom 22 = .ok (.if_icmp .lt 53, 3) := by decide +kernel
theorem dX0_throwAwayFrom_25 : decode cX0_throwAwayFrom 25 = .ok (.iload_n 2, 1) := by decide +kernel
theorem dX0_throwAwayFrom_26 : decode cX0_throwAwayFrom 26 = .ok (.ifCond .lt 49, 3) := by decide +kernel
theorem dX0_throwAwayFrom_29 : decode cX0_throwAwayFrom 29 = .ok (.aload_n 0, 1) := by decide +kernel
theorem dX0_throwAwayFrom_30 : decode cX0_throwAwayFrom 30 = .ok (.getfield 42, 3) := by decide +kernel
theorem dX0_throwAwayFrom_33 : decode cX0_throwAwayFrom 33 = .ok (.aload_n 0, 1) := by decide +kernel
theorem dX0_throwAwayFrom_34 : decode cX0_throwAwayFrom 34 = .ok (.getfield 60, 3) := by decide +kernel
theorem dX0_throwAwayFrom_37 : decode cX0_throwAwayFrom 37 = .ok (.iload_n 2, 1) := by decide +kernel
theorem dX0_throwAwayFrom_38 : decode cX0_throwAwayFrom 38 = .ok (.invokevirtual 127, 3) := by decide +kernel
theorem dX0_throwAwayFrom_41 : decode cX0_throwAwayFrom 41 = .ok (.checkcast 131, 3) := by decide +kernel
theorem dX0_throwAwayFrom_44 : decode cX0_throwAwayFrom 44 = .ok (.invokevirtual 243, 3) := by decide +kernel
theorem dX0_throwAwayFrom_47 : decode cX0_throwAwayFrom 47 = .ok (.aload_n 0, 1) := by decide +kernel
theorem dX0_throwAwayFrom_48 : decode cX0_throwAwayFrom 48 = .ok (.getfield 60, 3) := by decide +kernel
theorem dX0_throwAwayFrom_51 : decode cX0_throwAwayFrom 51 = .ok (.iload_n 2, 1) := by decide +kernel
theorem dX0_throwAwayFrom_52 : decode cX0_throwAwayFrom 52 = .ok (.invokevirtual 246, 3) := by decide +kernel
theorem dX0_throwAwayFrom_55 : decode cX0_throwAwayFrom 55 = .ok (.pop, 1) := by decide +kernel
theorem dX0_throwAwayFrom_56 : decode cX0_throwAwayFrom 56 = .ok (.aload_n 0, 1) := by decide +kernel
theorem dX0_throwAwayFrom_57 : decode cX0_throwAwayFrom 57 = .ok (.getfield 28, 3) := by decide +kernel
theorem dX0_throwAwayFrom_60 : decode cX0_throwAwayFrom 60 = .ok (.dup, 1) := by decide +kernel
theorem dX0_throwAwayFrom_61 : decode cX0_throwAwayFrom 61 = .ok (.getfield 249, 3) := by decide +kernel
theorem dX0_throwAwayFrom_64 : decode cX0_throwAwayFrom 64 = .ok (.iconst 1, 1) := by decide +kernel
theorem dX0_throwAwayFrom_65 : decode cX0_throwAwayFrom 65 = .ok (.iadd, 1) := by decide +kernel
theorem dX0_throwAwayFrom_66 : decode cX0_throwAwayFrom 66 = .ok (.putfield 249, 3) := by decide +kernel
theorem dX0_throwAwayFrom_69 : decode cX0_throwAwayFrom 69 = .ok (.iinc 2 (-1), 3) := by decide +kernel
theorem dX0_throwAwayFrom_72 : decode cX0_throwAwayFrom 72 = .ok (.goto (-52), 3) := by decide +kernel
theorem dX0_throwAwayFrom_75 : decode cX0_throwAwayFrom 75 = .ok (.return_, 1) := by decide +kernel
theorem dX4_goOn_0 : decode cX4_goOn 0 = .ok (.aload_n 0, 1) := by decide +kernel
theorem dX4_goOn_1 : decode cX4_goOn 1 = .ok (.iload_n 1, 1) := by decide +kernel
theorem dX4_goOn_2 : decode cX4_goOn 2 = .ok (.putfield 28, 3) := by decide +kernel
theorem dX4_goOn_5 : decode cX4_goOn 5 = .ok (.aload_n 0, 1) := by decide +kernel
theorem dX4_goOn_6 : decode cX4_goOn 6 = .ok (.aload_n 2, 1) := by decide +kernel
theorem dX4_goOn_7 : decode cX4_goOn 7 = .ok (.putfield 25, 3) := by decide +kernel
theorem dX4_goOn_10 : decode cX4_goOn 10 = .ok (.aload_n 0, 1) := by decide +kernel
theorem dX4_goOn_11 : decode cX4_goOn 11 = .ok (.iconst 0, 1) := by decide +kernel
theorem dX4_goOn_12 : decode cX4_goOn 12 = .ok (.putfield 32, 3) := by decide +kernel
theorem dX4_goOn_15 : decode cX4_goOn 15 = .ok (.return_, 1) := by decide +kernel
theorem dX0_checkGuess_0 : decode cX0_checkGuess 0 = .ok (.aload_n 1, 1) := by decide +kernel
theorem dX0_checkGuess_1 : decode cX0_checkGuess 1 = .ok (.getfield 161, 3) := by decide +kernel
theorem dX0_checkGuess_4 : decode cX0_checkGuess 4 = .ok (.invokevirtual 186, 3) := by decide +kernel
theorem dX0_checkGuess_7 : decode cX0_checkGuess 7 = .ok (.ifCond .ne 13, 3) := by decide +kernel
theorem dX0_checkGuess_10 : decode cX0_checkGuess 10 = .ok (.aload_n 1, 1) := by decide +kernel
theorem dX0_checkGuess_11 : decode cX0_checkGuess 11 = .ok (.getfield 161, 3) := by decide +kernel
theorem dX0_checkGuess_14 : decode cX0_checkGuess 14 = .ok (.invokevirtual 189, 3) := by decide +kernel
theorem dX0_checkGuess_17 : decode cX0_checkGuess 17 = .ok (.ifCond .eq 7, 3) := by decide +kernel
theorem dX0_checkGuess_20 : decode cX0_checkGuess 20 = .ok (.iconst 1, 1) := by decide +kernel
theorem dX0_checkGuess_21 : decode cX0_checkGuess 21 = .ok (.goto 4, 3) := by decide +kernel
theorem dX0_checkGuess_24 : decode cX0_checkGuess 24 = .ok (.iconst 0, 1) := by decide +kernel
theorem dX0_checkGuess_25 : decode cX0_checkGuess 25 = .ok (.istore_n 3, 1) := by decide +kernel
theorem dX0_checkGuess_26 : decode cX0_checkGuess 26 = .ok (.iload_n 3, 1) := by decide +kernel
theorem dX0_checkGuess_27 : decode cX0_checkGuess 27 = .ok (.ifCond .eq 56, 3) := by decide +kernel
theorem dX0_checkGuess_30 : decode cX0_checkGuess 30 = .ok (.aload_n 1, 1) := by decide +kernel
theorem dX0_checkGuess_31 : decode cX0_checkGuess 31 = .ok (.getfield 192, 3) := by decide +kernel
theorem dX0_checkGuess_34 : decode cX0_checkGuess 34 = .ok (.ifCond .ne 49, 3) := by decide +kernel
theorem dX0_checkGuess_37 : decode cX0_checkGuess 37 = .ok (.aload_n 1, 1) := by decide +kernel
theorem dX0_checkGuess_38 : decode cX0_checkGuess 38 = .ok (.getfield 195, 3) := by decide +kernel
theorem dX0_checkGuess_41 : decode cX0_checkGuess 41 = .ok (.aload_n 1, 1) := by decide +kernel
theorem dX0_checkGuess_42 : decode cX0_checkGuess 42 = .ok (.getfield 198, 3) := by decide +kernel
theorem dX0_checkGuess_45 : decode cX0_checkGuess 45 = .ok (.if_icmp .eq 38, 3) := by decide +kernel
theorem dX0_checkGuess_48 : decode cX0_checkGuess 48 = .ok (.aload_n 0, 1) := by decide +kernel
theorem dX0_checkGuess_49 : decode cX0_checkGuess 49 = .ok (.getfield 28, 3) := by decide +kernel
theorem dX0_checkGuess_52 : decode cX0_checkGuess 52 = .ok (.dup, 1) := by decide +kernel
theorem dX0_checkGuess_53 : decode cX0_checkGuess 53 = .ok (.getfield 201, 3) := by decide +kernel
theorem dX0_checkGuess_56 : decode cX0_checkGuess 56 = .ok (.iconst 1, 1) := by decide +kernel
theorem dX0_checkGuess_57 : decode cX0_checkGuess 57 = .ok (.iadd, 1) := by decide +kernel
theorem dX0_checkGuess_58 : decode cX0_checkGuess 58 = .ok (.putfield 201, 3) := by decide +kernel
theorem dX0_checkGuess_61 : decode cX0_checkGuess 61 = .ok (.aload_n 0, 1) := by decide +kernel
theorem dX0_checkGuess_62 : decode cX0_checkGuess 62 = .ok (.iload_n 2, 1) := by decide +kernel
theorem dX0_checkGuess_63 : decode cX0_checkGuess 63 = .ok (.iconst 1, 1) := by decide +kernel
theorem dX0_checkGuess_64 : decode cX0_checkGuess 64 = .ok (.iadd, 1) := by decide +kernel
theorem dX0_checkGuess_65 : decode cX0_checkGuess 65 = .ok (.invokevirtual 204, 3) := by decide +kernel
theorem dX0_checkGuess_68 : decode cX0_checkGuess 68 = .ok (.aload_n 0, 1) := by decide +kernel
theorem dX0_checkGuess_69 : decode cX0_checkGuess 69 = .ok (.getfield 56, 3) := by decide +kernel
theorem dX0_checkGuess_72 : decode cX0_checkGuess 72 = .ok (.aload_n 1, 1) := by decide +kernel
theorem dX0_checkGuess_73 : decode cX0_checkGuess 73 = .ok (.getfield 195, 3) := by decide +kernel
theorem dX0_checkGuess_76 : decode cX0_checkGuess 76 = .ok (.aload_n 1, 1) := by decide +kernel
theorem dX0_checkGuess_77 : decode cX0_checkGuess 77 = .ok (.getfield 207, 3) := by decide +kernel
theorem dX0_checkGuess_80 : decode cX0_checkGuess 80 = .ok (.invokevirtual 210, 3) := by decide +kernel
theorem dX0_checkGuess_83 : decode cX0_checkGuess 83 = .ok (.return_, 1) := by decide +kernel
theorem dX6_isStore_0 : decode cX6_isStore 0 = .ok (.aload_n 0, 1) := by decide +kernel
theorem dX6_isStore_1 : decode cX6_isStore 1 = .ok (.getfield 15, 3) := by decide +kernel
theorem dX6_isStore_4 : decode cX6_isStore 4 = .ok (.bipush 10, 2) := by decide +kernel
theorem dX6_isStore_6 : decode cX6_isStore 6 = .ok (.if_icmp .eq 12, 3) := by decide +kernel
theorem dX6_isStore_9 : decode cX6_isStore 9 = .ok (.aload_n 0, 1) := by decide +kernel
theorem dX6_isStore_10 : decode cX6_isStore 10 = .ok (.getfield 15, 3) := by decide +kernel
theorem dX6_isStore_13 : decode cX6_isStore 13 = .ok (.bipush 11, 2) := by decide +kernel
theorem dX6_isStore_15 : decode cX6_isStore 15 = .ok (.if_icmp .ne 7, 3) := by decide +kernel
theorem dX6_isStore_18 : decode cX6_isStore 18 = .ok (.iconst 1, 1) := by decide +kernel
theorem dX6_isStore_19 : decode cX6_isStore 19 = .ok (.goto 4, 3) := by decide +kernel
theorem dX6_isStore_22 : decode cX6_isStore 22 = .ok (.iconst 0, 1) := by decide +kernel
theorem dX6_isStore_23 : decode cX6_isStore 23 = .ok (.ireturn, 1) := by decide +kernel
theorem dX0_checkLoads_0 : decode cX0_checkLoads 0 = .ok (.aload_n 1, 1) := by decide +kernel
theorem dX0_checkLoads_1 : decode cX0_checkLoads 1 = .ok (.getfield 161, 3) := by decide +kernel
theorem dX0_checkLoads_4 : decode cX0_checkLoads 4 = .ok (.invokevirtual 214, 3) := by decide +kernel
theorem dX0_checkLoads_7 : decode cX0_checkLoads 7 = .ok (.ifCond .eq 10, 3) := by decide +kernel
theorem dX0_checkLoads_10 : decode cX0_checkLoads 10 = .ok (.aload_n 1, 1) := by decide +kernel
theorem dX0_checkLoads_11 : decode cX0_checkLoads 11 = .ok (.getfield 192, 3) := by decide +kernel
theorem dX0_checkLoads_14 : decode cX0_checkLoads 14 = .ok (.ifCond .eq 4, 3) := by decide +kernel
theorem dX0_checkLoads_17 : decode cX0_checkLoads 17 = .ok (.return_, 1) := by decide +kernel
theorem dX0_checkLoads_18 : decode cX0_checkLoads 18 = .ok (.iload_n 2, 1) := by decide +kernel
theorem dX0_checkLoads_19 : decode cX0_checkLoads 19 = .ok (.iconst 1, 1) := by decide +kernel
theorem dX0_checkLoads_20 : decode cX0_checkLoads 20 = .ok (.iadd, 1) := by decide +kernel
theorem dX0_checkLoads_21 : decode cX0_checkLoads 21 = .ok (.istore_n 3, 1) := by decide +kernel
theorem dX0_checkLoads_22 : decode cX0_checkLoads 22 = .ok (.iload_n 3, 1) := by decide +kernel
theorem dX0_checkLoads_23 : decode cX0_checkLoads 23 = .ok (.aload_n 0, 1) := by decide +kernel
theorem dX0_checkLoads_24 : decode cX0_checkLoads 24 = .ok (.getfield 60, 3) := by decide +kernel
theorem dX0_checkLoads_27 : decode cX0_checkLoads 27 = .ok (.invokevirtual 123, 3) := by decide +kernel
theorem dX0_checkLoads_30 : decode cX0_checkLoads 30 = .ok (.if_icmp .ge 127, 3) := by decide +kernel
theorem dX0_checkLoads_33 : decode cX0_checkLoads 33 = .ok (.aload_n 0, 1) := by decide +kernel
theorem dX0_checkLoads_34 : decode cX0_checkLoads 34 = .ok (.getfield 60, 3) := by decide +kernel
theorem dX0_checkLoads_37 : decode cX0_checkLoads 37 = .ok (.iload_n 3, 1) := by decide +kernel
theorem dX0_checkLoads_38 : decode cX0_checkLoads 38 = .ok (.invokevirtual 127, 3) := by decide +kernel
theorem dX0_checkLoads_41 : decode cX0_checkLoads 41 = .ok (.checkcast 131, 3) := by decide +kernel
theorem dX0_checkLoads_44 : decode cX0_checkLoads 44 = .ok (.astore 4, 2) := by decide +kernel
theorem dX0_checkLoads_46 : decode cX0_checkLoads 46 = .ok (.aload 4, 2) := by decide +kernel
theorem dX0_checkLoads_48 : decode cX0_checkLoads 48 = .ok (.getfield 161, 3) := by decide +kernel
theorem dX0_checkLoads_51 : decode cX0_checkLoads 51 = .ok (.getfield 165, 3) := by decide +kernel
theorem dX0_checkLoads_54 : decode cX0_checkLoads 54 = .ok (.bipush 9, 2) := by decide +kernel
theorem dX0_checkLoads_56 : decode cX0_checkLoads 56 = .ok (.if_icmp .ne 95, 3) := by decide +kernel
theorem dX0_checkLoads_59 : decode cX0_checkLoads 59 = .ok (.aload 4, 2) := by decide +kernel
theorem dX0_checkLoads_61 : decode cX0_checkLoads 61 = .ok (.getfield 133, 3) := by decide +kernel
theorem dX0_checkLoads_64 : decode cX0_checkLoads 64 = .ok (.bipush 113, 2) := by decide +kernel
theorem dX0_checkLoads_66 : decode cX0_checkLoads 66 = .ok (.if_icmp .eq 85, 3) := by decide +kernel
theorem dX0_checkLoads_69 : decode cX0_checkLoads 69 = .ok (.aload 4, 2) := by decide +kernel
theorem dX0_checkLoads_71 : decode cX0_checkLoads 71 = .ok (.getfield 137, 3) := by decide +kernel
theorem dX0_checkLoads_74 : decode cX0_checkLoads 74 = .ok (.aload_n 1, 1) := by decide +kernel
theorem dX0_checkLoads_75 : decode cX0_checkLoads 75 = .ok (.getfield 137, 3) := by decide +kernel
theorem dX0_checkLoads_78 : decode cX0_checkLoads 78 = .ok (.if_icmp .ne 73, 3) := by decide +kernel
theorem dX0_checkLoads_81 : decode cX0_checkLoads 81 = .ok (.aload 4, 2) := by decide +kernel
theorem dX0_checkLoads_83 : decode cX0_checkLoads 83 = .ok (.getfield 170, 3) := by decide +kernel
theorem dX0_checkLoads_86 : decode cX0_checkLoads 86 = .ok (.aload_n 1, 1) := by decide +kernel
theorem dX0_checkLoads_87 : decode cX0_checkLoads 87 = .ok (.getfield 217, 3) := by decide +kernel
theorem dX0_checkLoads_90 : decode cX0_checkLoads 90 = .ok (.if_icmp .ge 61, 3) := by decide +kernel
theorem dX0_checkLoads_93 : decode cX0_checkLoads 93 = .ok (.aload_n 0, 1) := by decide +kernel
theorem dX0_checkLoads_94 : decode cX0_checkLoads 94 = .ok (.getfield 28, 3) := by decide +kernel
theorem dX0_checkLoads_97 : decode cX0_checkLoads 97 = .ok (.dup, 1) := by decide +kernel
theorem dX0_checkLoads_98 : decode cX0_checkLoads 98 = .ok (.getfield 220, 3) := by decide +kernel
theorem dX0_checkLoads_101 : decode cX0_checkLoads 101 = .ok (.iconst 1, 1) := by decide +kernel
theorem dX0_checkLoads_102 : decode cX0_checkLoads 102 = .ok (.iadd, 1) := by decide +kernel
theorem dX0_checkLoads_103 : decode cX0_checkLoads 103 = .ok (.putfield 220, 3) := by decide +kernel
theorem dX0_checkLoads_106 : decode cX0_checkLoads 106 = .ok (.aload_n 0, 1) := by decide +kernel
theorem dX0_checkLoads_107 : decode cX0_checkLoads 107 = .ok (.getfield 70, 3) := by decide +kernel
theorem dX0_checkLoads_110 : decode cX0_checkLoads 110 = .ok (.aload 4, 2) := by decide +kernel
theorem dX0_checkLoads_112 : decode cX0_checkLoads 112 = .ok (.getfield 161, 3) := by decide +kernel
theorem dX0_checkLoads_115 : decode cX0_checkLoads 115 = .ok (.getfield 223, 3) := by decide +kernel
theorem dX0_checkLoads_118 : decode cX0_checkLoads 118 = .ok (.bipush 16, 2) := by decide +kernel
theorem dX0_checkLoads_120 : decode cX0_checkLoads 120 = .ok (.invokestatic 224, 3) := by decide +kernel
theorem dX0_checkLoads_123 : decode cX0_checkLoads 123 = .ok (.iconst 1, 1) := by decide +kernel
theorem dX0_checkLoads_124 : decode cX0_checkLoads 124 = .ok (.bastore, 1) := by decide +kernel
theorem dX0_checkLoads_125 : decode cX0_checkLoads 125 = .ok (.aload_n 0, 1) := by decide +kernel
theorem dX0_checkLoads_126 : decode cX0_checkLoads 126 = .ok (.iload_n 3, 1) := by decide +kernel
theorem dX0_checkLoads_127 : decode cX0_checkLoads 127 = .ok (.invokevirtual 204, 3) := by decide +kernel
theorem dX0_checkLoads_130 : decode cX0_checkLoads 130 = .ok (.aload_n 0, 1) := by decide +kernel
theorem dX0_checkLoads_131 : decode cX0_checkLoads 131 = .ok (.getfield 56, 3) := by decide +kernel
theorem dX0_checkLoads_134 : decode cX0_checkLoads 134 = .ok (.aload 4, 2) := by decide +kernel
theorem dX0_checkLoads_136 : decode cX0_checkLoads 136 = .ok (.getfield 161, 3) := by decide +kernel
theorem dX0_checkLoads_139 : decode cX0_checkLoads 139 = .ok (.getfield 223, 3) := by decide +kernel
theorem dX0_checkLoads_142 : decode cX0_checkLoads 142 = .ok (.aload 4, 2) := by decide +kernel
theorem dX0_checkLoads_144 : decode cX0_checkLoads 144 = .ok (.getfield 207, 3) := by decide +kernel
theorem dX0_checkLoads_147 : decode cX0_checkLoads 147 = .ok (.invokevirtual 210, 3) := by decide +kernel
theorem dX0_checkLoads_150 : decode cX0_checkLoads 150 = .ok (.return_, 1) := by decide +kernel
theorem dX0_checkLoads_151 : decode cX0_checkLoads 151 = .ok (.iinc 3 1, 3) := by decide +kernel
theorem dX0_checkLoads_154 : decode cX0_checkLoads 154 = .ok (.goto (-132), 3) := by decide +kernel
theorem dX0_checkLoads_157 : decode cX0_checkLoads 157 = .ok (.return_, 1) := by decide +kernel
theorem dX5_write_0 : decode cX5_write 0 = .ok (.iload_n 1, 1) := by decide +kernel
theorem dX5_write_1 : decode cX5_write 1 = .ok (.ifCond .lt 23, 3) := by decide +kernel
theorem dX5_write_4 : decode cX5_write 4 = .ok (.iload_n 1, 1) := by decide +kernel
theorem dX5_write_5 : decode cX5_write 5 = .ok (.bipush 24, 2) := by decide +kernel
theorem dX5_write_7 : decode cX5_write 7 = .ok (.if_icmp .ge 17, 3) := by decide +kernel
theorem dX5_write_10 : decode cX5_write 10 = .ok (.aload_n 0, 1) := by decide +kernel
theorem dX5_write_11 : decode cX5_write 11 = .ok (.getfield 18, 3) := by decide +kernel
theorem dX5_write_14 : decode cX5_write 14 = .ok (.iload_n 1, 1) := by decide +kernel
theorem dX5_write_15 : decode cX5_write 15 = .ok (.iload_n 2, 1) := by decide +kernel
theorem dX5_write_16 : decode cX5_write 16 = .ok (.iastore, 1) := by decide +kernel
theorem dX5_write_17 : decode cX5_write 17 = .ok (.aload_n 0, 1) := by decide +kernel
theorem dX5_write_18 : decode cX5_write 18 = .ok (.getfield 21, 3) := by decide +kernel
theorem dX5_write_21 : decode cX5_write 21 = .ok (.iload_n 1, 1) := by decide +kernel
theorem dX5_write_22 : decode cX5_write 22 = .ok (.iconst 1, 1) := by decide +kernel
theorem dX5_write_23 : decode cX5_write 23 = .ok (.bastore, 1) := by decide +kernel
theorem dX5_write_24 : decode cX5_write 24 = .ok (.return_, 1) := by decide +kernel
theorem dX0_writeResults_0 : decode cX0_writeResults 0 = .ok (.iconst 0, 1) := by decide +kernel
theorem dX0_writeResults_1 : decode cX0_writeResults 1 = .ok (.istore_n 1, 1) := by decide +kernel
theorem dX0_writeResults_2 : decode cX0_writeResults 2 = .ok (.iconst 0, 1) := by decide +kernel
theorem dX0_writeResults_3 : decode cX0_writeResults 3 = .ok (.istore_n 2, 1) := by decide +kernel
theorem dX0_writeResults_4 : decode cX0_writeResults 4 = .ok (.iload_n 2, 1) := by decide +kernel
theorem dX0_writeResults_5 : decode cX0_writeResults 5 = .ok (.aload_n 0, 1) := by decide +kernel
theorem dX0_writeResults_6 : decode cX0_writeResults 6 = .ok (.getfield 60, 3) := by decide +kernel
theorem dX0_writeResults_9 : decode cX0_writeResults 9 = .ok (.invokevirtual 123, 3) := by decide +kernel
theorem dX0_writeResults_12 : decode cX0_writeResults 12 = .ok (.if_icmp .ge 61, 3) := by decide +kernel
theorem dX0_writeResults_15 : decode cX0_writeResults 15 = .ok (.iload_n 1, 1) := by decide +kernel
theorem dX0_writeResults_16 : decode cX0_writeResults 16 = .ok (.iconst 2, 1) := by decide +kernel
theorem dX0_writeResults_17 : decode cX0_writeResults 17 = .ok (.if_icmp .ge 56, 3) := by decide +kernel
theorem dX0_writeResults_20 : decode cX0_writeResults 20 = .ok (.aload_n 0, 1) := by decide +kernel
theorem dX0_writeResults_21 : decode cX0_writeResults 21 = .ok (.getfield 60, 3) := by decide +kernel
theorem dX0_writeResults_24 : decode cX0_writeResults 24 = .ok (.iload_n 2, 1) := by decide +kernel
theorem dX0_writeResults_25 : decode cX0_writeResults 25 = .ok (.invokevirtual 127, 3) := by decide +kernel
theorem dX0_writeResults_28 : decode cX0_writeResults 28 = .ok (.checkcast 131, 3) := by decide +kernel
theorem dX0_writeResults_31 : decode cX0_writeResults 31 = .ok (.astore_n 3, 1) := by decide +kernel
theorem dX0_writeResults_32 : decode cX0_writeResults 32 = .ok (.aload_n 3, 1) := by decide +kernel
theorem dX0_writeResults_33 : decode cX0_writeResults 33 = .ok (.getfield 133, 3) := by decide +kernel
theorem dX0_writeResults_36 : decode cX0_writeResults 36 = .ok (.bipush 98, 2) := by decide +kernel
theorem dX0_writeResults_38 : decode cX0_writeResults 38 = .ok (.if_icmp .ne 29, 3) := by decide +kernel
theorem dX0_writeResults_41 : decode cX0_writeResults 41 = .ok (.aload_n 0, 1) := by decide +kernel
theorem dX0_writeResults_42 : decode cX0_writeResults 42 = .ok (.getfield 42, 3) := by decide +kernel
theorem dX0_writeResults_45 : decode cX0_writeResults 45 = .ok (.aload_n 3, 1) := by decide +kernel
theorem dX0_writeResults_46 : decode cX0_writeResults 46 = .ok (.getfield 230, 3) := by decide +kernel
theorem dX0_writeResults_49 : decode cX0_writeResults 49 = .ok (.aload_n 3, 1) := by decide +kernel
theorem dX0_writeResults_50 : decode cX0_writeResults 50 = .ok (.getfield 176, 3) := by decide +kernel
theorem dX0_writeResults_53 : decode cX0_writeResults 53 = .ok (.invokevirtual 233, 3) := by decide +kernel
theorem dX0_writeResults_56 : decode cX0_writeResults 56 = .ok (.aload_n 3, 1) := by decide +kernel
theorem dX0_writeResults_57 : decode cX0_writeResults 57 = .ok (.aload_n 0, 1) := by decide +kernel
theorem dX0_writeResults_58 : decode cX0_writeResults 58 = .ok (.getfield 77, 3) := by decide +kernel
theorem dX0_writeResults_61 : decode cX0_writeResults 61 = .ok (.invokevirtual 183, 3) := by decide +kernel
theorem dX0_writeResults_64 : decode cX0_writeResults 64 = .ok (.iinc 1 1, 3) := by decide +kernel
theorem dX0_writeResults_67 : decode cX0_writeResults 67 = .ok (.iinc 2 1, 3) := by decide +kernel
theorem dX0_writeResults_70 : decode cX0_writeResults 70 = .ok (.goto (-66), 3) := by decide +kernel
theorem dX0_writeResults_73 : decode cX0_writeResults 73 = .ok (.return_, 1) := by decide +kernel
theorem dX0_doEndings_0 : decode cX0_doEndings 0 = .ok (.iconst 0, 1) := by decide +kernel
theorem dX0_doEndings_1 : decode cX0_doEndings 1 = .ok (.istore_n 1, 1) := by decide +kernel
theorem dX0_doEndings_2 : decode cX0_doEndings 2 = .ok (.iload_n 1, 1) := by decide +kernel
theorem dX0_doEndings_3 : decode cX0_doEndings 3 = .ok (.aload_n 0, 1) := by decide +kernel
theorem dX0_doEndings_4 : decode cX0_doEndings 4 = .ok (.getfield 60, 3) := by decide +kernel
theorem dX0_doEndings_7 : decode cX0_doEndings 7 = .ok (.invokevirtual 123, 3) := by decide +kernel
theorem dX0_doEndings_10 : decode cX0_doEndings 10 = .ok (.if_icmp .ge 77, 3) := by decide +kernel
theorem dX0_doEndings_13 : decode cX0_doEndings 13 = .ok (.aload_n 0, 1) := by decide +kernel
theorem dX0_doEndings_14 : decode cX0_doEndings 14 = .ok (.getfield 60, 3) := by decide +kernel
theorem dX0_doEndings_17 : decode cX0_doEndings 17 = .ok (.iload_n 1, 1) := by decide +kernel
theorem dX0_doEndings_18 : decode cX0_doEndings 18 = .ok (.invokevirtual 127, 3) := by decide +kernel
theorem dX0_doEndings_21 : decode cX0_doEndings 21 = .ok (.checkcast 131, 3) := by decide +kernel
theorem dX0_doEndings_24 : decode cX0_doEndings 24 = .ok (.astore_n 2, 1) := by decide +kernel
theorem dX0_doEndings_25 : decode cX0_doEndings 25 = .ok (.aload_n 2, 1) := by decide +kernel
theorem dX0_doEndings_26 : decode cX0_doEndings 26 = .ok (.getfield 133, 3) := by decide +kernel
theorem dX0_doEndings_29 : decode cX0_doEndings 29 = .ok (.bipush 120, 2) := by decide +kernel
theorem dX0_doEndings_31 : decode cX0_doEndings 31 = .ok (.if_icmp .eq 12, 3) := by decide +kernel
theorem dX0_doEndings_34 : decode cX0_doEndings 34 = .ok (.aload_n 2, 1) := by decide +kernel
theorem dX0_doEndings_35 : decode cX0_doEndings 35 = .ok (.getfield 133, 3) := by decide +kernel
theorem dX0_doEndings_38 : decode cX0_doEndings 38 = .ok (.bipush 109, 2) := by decide +kernel
theorem dX0_doEndings_40 : decode cX0_doEndings 40 = .ok (.if_icmp .ne 7, 3) := by decide +kernel
theorem dX0_doEndings_43 : decode cX0_doEndings 43 = .ok (.iconst 1, 1) := by decide +kernel
theorem dX0_doEndings_44 : decode cX0_doEndings 44 = .ok (.goto 4, 3) := by decide +kernel
theorem dX0_doEndings_47 : decode cX0_doEndings 47 = .ok (.iconst 0, 1) := by decide +kernel
theorem dX0_doEndings_48 : decode cX0_doEndings 48 = .ok (.istore_n 3, 1) := by decide +kernel
theorem dX0_doEndings_49 : decode cX0_doEndings 49 = .ok (.iload_n 3, 1) := by decide +kernel
theorem dX0_doEndings_50 : decode cX0_doEndings 50 = .ok (.ifCond .eq 31, 3) := by decide +kernel
theorem dX0_doEndings_53 : decode cX0_doEndings 53 = .ok (.aload_n 2, 1) := by decide +kernel
theorem dX0_doEndings_54 : decode cX0_doEndings 54 = .ok (.getfield 144, 3) := by decide +kernel
theorem dX0_doEndings_57 : decode cX0_doEndings 57 = .ok (.aload_n 0, 1) := by decide +kernel
theorem dX0_doEndings_58 : decode cX0_doEndings 58 = .ok (.getfield 77, 3) := by decide +kernel
theorem dX0_doEndings_61 : decode cX0_doEndings 61 = .ok (.if_icmp .ne 20, 3) := by decide +kernel
theorem dX0_doEndings_64 : decode cX0_doEndings 64 = .ok (.aload_n 0, 1) := by decide +kernel
theorem dX0_doEndings_65 : decode cX0_doEndings 65 = .ok (.aload_n 2, 1) := by decide +kernel
theorem dX0_doEndings_66 : decode cX0_doEndings 66 = .ok (.invokevirtual 147, 3) := by decide +kernel
theorem dX0_doEndings_69 : decode cX0_doEndings 69 = .ok (.aload_n 0, 1) := by decide +kernel
theorem dX0_doEndings_70 : decode cX0_doEndings 70 = .ok (.aload_n 2, 1) := by decide +kernel
theorem dX0_doEndings_71 : decode cX0_doEndings 71 = .ok (.iload_n 1, 1) := by decide +kernel
theorem dX0_doEndings_72 : decode cX0_doEndings 72 = .ok (.invokevirtual 151, 3) := by decide +kernel
theorem dX0_doEndings_75 : decode cX0_doEndings 75 = .ok (.aload_n 0, 1) := by decide +kernel
theorem dX0_doEndings_76 : decode cX0_doEndings 76 = .ok (.aload_n 2, 1) := by decide +kernel
theorem dX0_doEndings_77 : decode cX0_doEndings 77 = .ok (.iload_n 1, 1) := by decide +kernel
theorem dX0_doEndings_78 : decode cX0_doEndings 78 = .ok (.invokevirtual 155, 3) := by decide +kernel
theorem dX0_doEndings_81 : decode cX0_doEndings 81 = .ok (.iinc 1 1, 3) := by decide +kernel
theorem dX0_doEndings_84 : decode cX0_doEndings 84 = .ok (.goto (-82), 3) := by decide +kernel
theorem dX0_doEndings_87 : decode cX0_doEndings 87 = .ok (.aload_n 0, 1) := by decide +kernel
theorem dX0_doEndings_88 : decode cX0_doEndings 88 = .ok (.invokevirtual 158, 3) := by decide +kernel
theorem dX0_doEndings_91 : decode cX0_doEndings 91 = .ok (.return_, 1) := by decide +kernel
theorem dX10_newLife_0 : decode cX10_newLife 0 = .ok (.iconst 5, 1) := by decide +kernel
theorem dX10_newLife_1 : decode cX10_newLife 1 = .ok (.newarray .int, 2) := by decide +kernel
theorem dX10_newLife_3 : decode cX10_newLife 3 = .ok (.astore_n 0, 1) := by decide +kernel
theorem dX10_newLife_4 : decode cX10_newLife 4 = .ok (.iconst 0, 1) := by decide +kernel
theorem dX10_newLife_5 : decode cX10_newLife 5 = .ok (.istore_n 1, 1) := by decide +kernel
theorem dX10_newLife_6 : decode cX10_newLife 6 = .ok (.iload_n 1, 1) := by decide +kernel
theorem dX10_newLife_7 : decode cX10_newLife 7 = .ok (.iconst 5, 1) := by decide +kernel
theorem dX10_newLife_8 : decode cX10_newLife 8 = .ok (.if_icmp .ge 13, 3) := by decide +kernel
theorem dX10_newLife_11 : decode cX10_newLife 11 = .ok (.aload_n 0, 1) := by decide +kernel
theorem dX10_newLife_12 : decode cX10_newLife 12 = .ok (.iload_n 1, 1) := by decide +kernel
theorem dX10_newLife_13 : decode cX10_newLife 13 = .ok (.iconst (-1), 1) := by decide +kernel
theorem dX10_newLife_14 : decode cX10_newLife 14 = .ok (.iastore, 1) := by decide +kernel
theorem dX10_newLife_15 : decode cX10_newLife 15 = .ok (.iinc 1 1, 3) := by decide +kernel
theorem dX10_newLife_18 : decode cX10_newLife 18 = .ok (.goto (-12), 3) := by decide +kernel
theorem dX10_newLife_21 : decode cX10_newLife 21 = .ok (.aload_n 0, 1) := by decide +kernel
theorem dX10_newLife_22 : decode cX10_newLife 22 = .ok (.areturn, 1) := by decide +kernel
theorem dX8_goToInterrupts_0 : decode cX8_goToInterrupts 0 = .ok (.aload_n 0, 1) := by decide +kernel
theorem dX8_goToInterrupts_1 : decode cX8_goToInterrupts 1 = .ok (.aload_n 0, 1) := by decide +kernel
theorem dX8_goToInterrupts_2 : decode cX8_goToInterrupts 2 = .ok (.getfield 18, 3) := by decide +kernel
theorem dX8_goToInterrupts_5 : decode cX8_goToInterrupts 5 = .ok (.putfield 26, 3) := by decide +kernel
theorem dX8_goToInterrupts_8 : decode cX8_goToInterrupts 8 = .ok (.aload_n 0, 1) := by decide +kernel
theorem dX8_goToInterrupts_9 : decode cX8_goToInterrupts 9 = .ok (.iconst 1, 1) := by decide +kernel
theorem dX8_goToInterrupts_10 : decode cX8_goToInterrupts 10 = .ok (.putfield 22, 3) := by decide +kernel
theorem dX8_goToInterrupts_13 : decode cX8_goToInterrupts 13 = .ok (.aload_n 0, 1) := by decide +kernel
theorem dX8_goToInterrupts_14 : decode cX8_goToInterrupts 14 = .ok (.iload_n 1, 1) := by decide +kernel
theorem dX8_goToInterrupts_15 : decode cX8_goToInterrupts 15 = .ok (.putfield 18, 3) := by decide +kernel
theorem dX8_goToInterrupts_18 : decode cX8_goToInterrupts 18 = .ok (.return_, 1) := by decide +kernel
theorem dX6_trapBy_0 : decode cX6_trapBy 0 = .ok (.aload_n 0, 1) := by decide +kernel
theorem dX6_trapBy_1 : decode cX6_trapBy 1 = .ok (.getfield 15, 3) := by decide +kernel
theorem dX6_trapBy_4 : decode cX6_trapBy 4 = .ok (.tableswitch 123 5 20 #[80, 123, 123, 123, 90, 90, 90, 123, 123, 123, 123, 108, 108, 123, 123, 121], 80) := by decide +kernel
theorem dX6_trapBy_84 : decode cX6_trapBy 84 = .ok (.iload_n 2, 1) := by decide +kernel
theorem dX6_trapBy_85 : decode cX6_trapBy 85 = .ok (.ifCond .ne 7, 3) := by decide +kernel
theorem dX6_trapBy_88 : decode cX6_trapBy 88 = .ok (.iconst 1, 1) := by decide +kernel
theorem dX6_trapBy_89 : decode cX6_trapBy 89 = .ok (.goto 4, 3) := by decide +kernel
theorem dX6_trapBy_92 : decode cX6_trapBy 92 = .ok (.iconst 0, 1) := by decide +kernel
theorem dX6_trapBy_93 : decode cX6_trapBy 93 = .ok (.ireturn, 1) := by decide +kernel
theorem dX6_trapBy_94 : decode cX6_trapBy 94 = .ok (.iload_n 1, 1) := by decide +kernel
theorem dX6_trapBy_95 : decode cX6_trapBy 95 = .ok (.aload_n 0, 1) := by decide +kernel
theorem dX6_trapBy_96 : decode cX6_trapBy 96 = .ok (.getfield 27, 3) := by decide +kernel
theorem dX6_trapBy_99 : decode cX6_trapBy 99 = .ok (.iadd, 1) := by decide +kernel
theorem dX6_trapBy_100 : decode cX6_trapBy 100 = .ok (.invokestatic 37, 3) := by decide +kernel
theorem dX6_trapBy_103 : decode cX6_trapBy 103 = .ok (.ifCond .eq 7, 3) := by decide +kernel
theorem dX6_trapBy_106 : decode cX6_trapBy 106 = .ok (.iconst 0, 1) := by decide +kernel
theorem dX6_trapBy_107 : decode cX6_trapBy 107 = .ok (.goto 4, 3) := by decide +kernel
theorem dX6_trapBy_110 : decode cX6_trapBy 110 = .ok (.iconst 2, 1) := by decide +kernel
theorem dX6_trapBy_111 : decode cX6_trapBy 111 = .ok (.ireturn, 1) := by decide +kernel
theorem dX6_trapBy_112 : decode cX6_trapBy 112 = .ok (.iload_n 1, 1) := by decide +kernel
theorem dX6_trapBy_113 : decode cX6_trapBy 113 = .ok (.invokestatic 41, 3) := by decide +kernel
theorem dX6_trapBy_116 : decode cX6_trapBy 116 = .ok (.ifCond .eq 7, 3) := by decide +kernel
theorem dX6_trapBy_119 : decode cX6_trapBy 119 = .ok (.iconst 0, 1) := by decide +kernel
theorem dX6_trapBy_120 : decode cX6_trapBy 120 = .ok (.goto 4, 3) := by decide +kernel
theorem dX6_trapBy_123 : decode cX6_trapBy 123 = .ok (.iconst 3, 1) := by decide +kernel
theorem dX6_trapBy_124 : decode cX6_trapBy 124 = .ok (.ireturn, 1) := by decide +kernel
theorem dX6_trapBy_125 : decode cX6_trapBy 125 = .ok (.iconst 4, 1) := by decide +kernel
theorem dX6_trapBy_126 : decode cX6_trapBy 126 = .ok (.ireturn, 1) := by decide +kernel
theorem dX6_trapBy_127 : decode cX6_trapBy 127 = .ok (.iconst 0, 1) := by decide +kernel
theorem dX6_trapBy_128 : decode cX6_trapBy 128 = .ok (.ireturn, 1) := by decide +kernel
def mX6_hasResult : MD := (cX6_hasResult, RX6, yX6_hasResult, 1, (some .boolean), 0, 0)
theorem mf_X6_hasResult : MF mX6_hasResult 0 := MF.of 773 62 (by decide +kernel) (by decide +kernel) (by decide +kernel) (by decide +kernel) (by decide +kernel) rfl
def mX3_endIn : MD := (cX3_endIn, RX3, yX3_endIn, 2, none, 0, 0)
theorem mf_X3_endIn : MF mX3_endIn 1 := MF.of 777 67 (by decide +kernel) (by decide +kernel) (by decide +kernel) (by decide +kernel) (by decide +kernel) rfl
def mX0_endDelay : MD := (cX0_endDelay, RX0, yX0_endDelay, 2, none, 1, 21)
theorem mf_X0_endDelay : MF mX0_endDelay 1 := MF.of 768 40 (by decide +kernel) (by decide +kernel) (by decide +kernel) (by decide +kernel) (by decide +kernel) rfl
def mX6_isQuestion : MD := (cX6_isQuestion, RX6, yX6_isQuestion, 1, (some .boolean), 0, 0)
theorem mf_X6_isQuestion : MF mX6_isQuestion 0 := MF.of 785 62 (by decide +kernel) (by decide +kernel) (by decide +kernel) (by decide +kernel) (by decide +kernel) rfl
def mX6_isLeap : MD := (cX6_isLeap, RX6, yX6_isLeap, 1, (some .boolean), 0, 0)
theorem mf_X6_isLeap : MF mX6_isLeap 0 := MF.of 789 62 (by decide +kernel) (by decide +kernel) (by decide +kernel) (by decide +kernel) (by decide +kernel) rfl
def mJx4a65c_clear_da8c8 : MD := (cJx4a65c_clear_da8c8, RJx4a65c, yJx4a65c_clear_da8c8, 4, none, 0, 0)
theorem mf_Jx4a65c_clear_da8c8 : MF mJx4a65c_clear_da8c8 0 := MF.of 797 43 (by decide +kernel) (by decide +kernel) (by decide +kernel) (by decide +kernel) (by decide +kernel) rfl
def mX5_takeBack : MD := (cX5_takeBack, RX5, yX5_takeBack, 2, none, 1, 21)
theorem mf_X5_takeBack : MF mX5_takeBack 1 := MF.of 801 48 (by decide +kernel) (by decide +kernel) (by decide +kernel) (by decide +kernel) (by decide +kernel) rfl
def mJx4a65c_fastRemove_b59b0 : MD := (cJx4a65c_fastRemove_b59b0, RJx4a65c, yJx4a65c_fastRemove_b59b0, 4, none, 1, 60)
theorem mf_Jx4a65c_fastRemove_b59b0 : MF mJx4a65c_fastRemove_b59b0 2 := MF.of 809 43 (by decide +kernel) (by decide +kernel) (by decide +kernel) (by decide +kernel) (by decide +kernel) rfl
def mJx4a65c_remove_915e3 : MD := (cJx4a65c_remove_915e3, RJx4a65c, yJx4a65c_remove_915e3, 4, (some (.object "java/lang/Object")), 2, 83)
theorem mf_Jx4a65c_remove_915e3 : MF mJx4a65c_remove_915e3 1 := MF.of 805 43 (by decide +kernel) (by decide +kernel) (by decide +kernel) (by decide +kernel) (by decide +kernel) rfl
def mX0_throwAwayFrom : MD := (cX0_throwAwayFrom, RX0, yX0_throwAwayFrom, 3, none, 3, 106)
theorem mf_X0_throwAwayFrom : MF mX0_throwAwayFrom 1 := MF.of 793 40 (by decide +kernel) (by decide +kernel) (by decide +kernel) (by decide +kernel) (by decide +kernel) rfl
def mX4_goOn : MD := (cX4_goOn, RX4, yX4_goOn, 3, none, 0, 0)
theorem mf_X4_goOn : MF mX4_goOn 2 := MF.of 814 50 (by decide +kernel) (by decide +kernel) (by decide +kernel) (by decide +kernel) (by decide +kernel) rfl
def mX0_checkGuess : MD := (cX0_checkGuess, RX0, yX0_checkGuess, 4, none, 4, 128)
theorem mf_X0_checkGuess : MF mX0_checkGuess 2 := MF.of 781 40 (by decide +kernel) (by decide +kernel) (by decide +kernel) (by decide +kernel) (by decide +kernel) rfl
def mX6_isStore : MD := (cX6_isStore, RX6, yX6_isStore, 1, (some .boolean), 0, 0)
theorem mf_X6_isStore : MF mX6_isStore 0 := MF.of 822 62 (by decide +kernel) (by decide +kernel) (by decide +kernel) (by decide +kernel) (by decide +kernel) rfl
def mX0_checkLoads : MD := (cX0_checkLoads, RX0, yX0_checkLoads, 5, none, 4, 128)
theorem mf_X0_checkLoads : MF mX0_checkLoads 2 := MF.of 818 40 (by decide +kernel) (by decide +kernel) (by decide +kernel) (by decide +kernel) (by decide +kernel) rfl
def mX5_write : MD := (cX5_write, RX5, yX5_write, 3, none, 0, 0)
theorem mf_X5_write : MF mX5_write 2 := MF.of 831 48 (by decide +kernel) (by decide +kernel) (by decide +kernel) (by decide +kernel) (by decide +kernel) rfl
def mX0_writeResults : MD := (cX0_writeResults, RX0, yX0_writeResults, 4, none, 3, 64)
theorem mf_X0_writeResults : MF mX0_writeResults 0 := MF.of 827 40 (by decide +kernel) (by decide +kernel) (by decide +kernel) (by decide +kernel) (by decide +kernel) rfl
def mX0_doEndings : MD := (cX0_doEndings, RX0, yX0_doEndings, 4, none, 5, 152)
theorem mf_X0_doEndings : MF mX0_doEndings 0 := MF.of 764 40 (by decide +kernel) (by decide +kernel) (by decide +kernel) (by decide +kernel) (by decide +kernel) rfl
def mX10_newLife : MD := (cX10_newLife, RX10, yX10_newLife, 2, (some (.array .int)), 0, 0)
theorem mf_X10_newLife : MF mX10_newLife 0 := MF.of 842 39 (by decide +kernel) (by decide +kernel) (by decide +kernel) (by decide +kernel) (by decide +kernel) rfl
def mX8_goToInterrupts : MD := (cX8_goToInterrupts, RX8, yX8_goToInterrupts, 2, none, 0, 0)
theorem mf_X8_goToInterrupts : MF mX8_goToInterrupts 1 := MF.of 850 47 (by decide +kernel) (by decide +kernel) (by decide +kernel) (by decide +kernel) (by decide +kernel) rfl
def mX6_trapBy : MD := (cX6_trapBy, RX6, yX6_trapBy, 3, (some .int), 1, 20)
theorem mf_X6_trapBy : MF mX6_trapBy 2 := MF.of 861 62 (by decide +kernel) (by decide +kernel) (by decide +kernel) (by decide +kernel) (by decide +kernel) rfl
theorem ac_Jx4a65c_112 : Cond.methodLink RJx4a65c 112 arraycopyName ∈ lw_tbl := List.mem_of_getElem? (i := 810) (by decide +kernel)
theorem cs_X0_173 : CNs RX0 173 mX10_isAddress "Reorderium" := CNs.of 769 708 (by decide +kernel) (by decide +kernel)
theorem cs_X0_224 : CSs RX0 224 mJ9_floorMod_7cf53 := CSs.of 823 755 (by decide +kernel) (by decide +kernel)
theorem cs_X6_37 : CNs RX6 37 mX10_isAddress "Reorderium" := CNs.of 862 708 (by decide +kernel) (by decide +kernel)
theorem cs_X6_41 : CNs RX6 41 mX10_isPlace "Reorderium" := CNs.of 863 509 (by decide +kernel) (by decide +kernel)
theorem cv_Jx4a65c_144 : CVs RJx4a65c 144 mJx4a65c_fastRemove_b59b0 0 := CVs.of 806 808 10 (by decide +kernel) (by decide +kernel) (by decide +kernel) _ rfl rfl
theorem cv_X0_147 : CVs RX0 147 mX0_endDelay 1 := CVs.of 765 767 7 (by decide +kernel) (by decide +kernel) (by decide +kernel) _ rfl rfl
theorem cv_X0_151 : CVs RX0 151 mX0_checkGuess 1 := CVs.of 778 780 8 (by decide +kernel) (by decide +kernel) (by decide +kernel) _ rfl rfl
theorem cv_X0_155 : CVs RX0 155 mX0_checkLoads 1 := CVs.of 815 817 11 (by decide +kernel) (by decide +kernel) (by decide +kernel) _ rfl rfl
theorem cv_X0_158 : CVs RX0 158 mX0_writeResults 1 := CVs.of 824 826 12 (by decide +kernel) (by decide +kernel) (by decide +kernel) _ rfl rfl
theorem cv_X0_179 : CVs RX0 179 mX6_hasResult 7 := CVs.of 770 771 772 (by decide +kernel) (by decide +kernel) (by decide +kernel) _ rfl rfl
theorem cv_X0_183 : CVs RX0 183 mX3_endIn 4 := CVs.of 774 775 776 (by decide +kernel) (by decide +kernel) (by decide +kernel) _ rfl rfl
theorem cv_X0_186 : CVs RX0 186 mX6_isQuestion 7 := CVs.of 782 783 784 (by decide +kernel) (by decide +kernel) (by decide +kernel) _ rfl rfl
theorem cv_X0_189 : CVs RX0 189 mX6_isLeap 7 := CVs.of 786 787 788 (by decide +kernel) (by decide +kernel) (by decide +kernel) _ rfl rfl
theorem cv_X0_204 : CVs RX0 204 mX0_throwAwayFrom 1 := CVs.of 790 792 9 (by decide +kernel) (by decide +kernel) (by decide +kernel) _ rfl rfl
theorem cv_X0_210 : CVs RX0 210 mX4_goOn 5 := CVs.of 811 812 813 (by decide +kernel) (by decide +kernel) (by decide +kernel) _ rfl rfl
theorem cv_X0_214 : CVs RX0 214 mX6_isStore 7 := CVs.of 819 820 821 (by decide +kernel) (by decide +kernel) (by decide +kernel) _ rfl rfl
theorem cv_X0_233 : CVs RX0 233 mX5_write 6 := CVs.of 828 829 830 (by decide +kernel) (by decide +kernel) (by decide +kernel) _ rfl rfl
theorem cv_X0_240 : CVs RX0 240 mJx4a65c_clear_da8c8 0 := CVs.of 794 795 796 (by decide +kernel) (by decide +kernel) (by decide +kernel) _ rfl rfl
theorem cv_X0_243 : CVs RX0 243 mX5_takeBack 6 := CVs.of 798 799 800 (by decide +kernel) (by decide +kernel) (by decide +kernel) _ rfl rfl
theorem cv_X0_246 : CVs RX0 246 mJx4a65c_remove_915e3 0 := CVs.of 802 803 804 (by decide +kernel) (by decide +kernel) (by decide +kernel) _ rfl rfl
theorem fl_X0_161 : FL RX0 161 4 0 3 := FL.of _ rfl (by decide) 1145 (by decide +kernel) (by decide)
theorem fl_X0_165 : FL RX0 165 7 1 0 := FL.of _ rfl (by decide) 603 (by decide +kernel) (by decide)
theorem fl_X0_170 : FL RX0 170 4 16 0 := FL.of _ rfl (by decide) 1186 (by decide +kernel) (by decide)
theorem fl_X0_176 : FL RX0 176 4 13 0 := FL.of _ rfl (by decide) 1179 (by decide +kernel) (by decide)
theorem fl_X0_192 : FL RX0 192 4 12 0 := FL.of _ rfl (by decide) 1177 (by decide +kernel) (by decide)
theorem fl_X0_195 : FL RX0 195 4 14 0 := FL.of _ rfl (by decide) 1181 (by decide +kernel) (by decide)
theorem fl_X0_198 : FL RX0 198 4 2 0 := FL.of _ rfl (by decide) 1152 (by decide +kernel) (by decide)
theorem fl_X0_201 : FL RX0 201 2 1 0 := FL.of _ rfl (by decide) 161 (by decide +kernel) (by decide)
theorem fl_X0_207 : FL RX0 207 4 3 3 := FL.of _ rfl (by decide) 1154 (by decide +kernel) (by decide)
theorem fl_X0_217 : FL RX0 217 4 1 0 := FL.of _ rfl (by decide) 1150 (by decide +kernel) (by decide)
theorem fl_X0_220 : FL RX0 220 2 2 0 := FL.of _ rfl (by decide) 164 (by decide +kernel) (by decide)
theorem fl_X0_223 : FL RX0 223 7 0 0 := FL.of _ rfl (by decide) 598 (by decide +kernel) (by decide)
theorem fl_X0_230 : FL RX0 230 4 8 0 := FL.of _ rfl (by decide) 1168 (by decide +kernel) (by decide)
theorem fl_X0_237 : FL RX0 237 5 0 3 := FL.of _ rfl (by decide) 301 (by decide +kernel) (by decide)
theorem fl_X0_249 : FL RX0 249 2 3 0 := FL.of _ rfl (by decide) 167 (by decide +kernel) (by decide)
theorem fl_X3_13 : FL RX3 13 4 4 3 := FL.of _ rfl (by decide) 1155 (by decide +kernel) (by decide)
theorem fl_X3_19 : FL RX3 19 4 5 2 := FL.of _ rfl (by decide) 1158 (by decide +kernel) (by decide)
theorem fl_X5_42 : FL RX5 42 4 0 3 := FL.of _ rfl (by decide) 1147 (by decide +kernel) (by decide)
theorem fl_X5_70 : FL RX5 70 7 2 0 := FL.of _ rfl (by decide) 606 (by decide +kernel) (by decide)
theorem fl_X5_73 : FL RX5 73 4 9 0 := FL.of _ rfl (by decide) 1171 (by decide +kernel) (by decide)
theorem fl_X5_76 : FL RX5 76 4 8 0 := FL.of _ rfl (by decide) 1169 (by decide +kernel) (by decide)
theorem fn_4_13 : FN 4 13 false := fun q h => by cases h; rfl
theorem fn_4_5 : FN 4 5 false := fun q h => by cases h; rfl
theorem iv_bipush_101 : (Int8.ofInt (101)).toInt32 = 101 := by decide
theorem iv_bipush_11 : (Int8.ofInt (11)).toInt32 = 11 := by decide
theorem iv_bipush_113 : (Int8.ofInt (113)).toInt32 = 113 := by decide
theorem iv_bipush_120 : (Int8.ofInt (120)).toInt32 = 120 := by decide
theorem iv_bipush_13 : (Int8.ofInt (13)).toInt32 = 13 := by decide
theorem iv_bipush_17 : (Int8.ofInt (17)).toInt32 = 17 := by decide
theorem iv_bipush_9 : (Int8.ofInt (9)).toInt32 = 9 := by decide
theorem iv_bipush_98 : (Int8.ofInt (98)).toInt32 = 98 := by decide
theorem iv_iconst_3 : Int32.ofInt (3) = 3 := by decide
theorem iv_iconst_5 : Int32.ofInt (5) = 5 := by decide
def f_X6_hasResult_b26 (μ : Mm) : Option Int32 :=
  some 1
def f_X6_hasResult_b17 (a0 : Nat) (μ : Mm) : Option Int32 :=
  ck (mK μ a0 = 107) <|
  if ¬ (mI μ a0 1) = 15 then
    some 0
  else
    f_X6_hasResult_b26 μ
def f_X6_hasResult (a0 : Nat) (μ : Mm) : Option Int32 :=
  ck (mK μ a0 = 107) <|
  if (mI μ a0 1) < 1 then
    f_X6_hasResult_b17 a0 μ
  else
    if (mI μ a0 1) ≤ 9 then
      f_X6_hasResult_b26 μ
    else
      f_X6_hasResult_b17 a0 μ
set_option maxRecDepth 100000 in
theorem s_X6_hasResult_b26 {l : Launch} {G : Gt} (hG : Gok l G) (μ : Mm) (r : Int32) (h : f_X6_hasResult_b26 μ = some r) : ZX l G mX6_hasResult 26 [] [] μ (.inl (some (.int r))) μ := by
  unfold f_X6_hasResult_b26 at h
  refine zx_iconst (v := 1) dX6_hasResult_26 iv_iconst_1 ?_
  refine zx_goto (tgt := 31) dX6_hasResult_27 (by decide) ?_
  cases h
  exact zx_zretZ dX6_hasResult_31 rfl zb_1
set_option maxRecDepth 100000 in
theorem s_X6_hasResult_b17 {l : Launch} {G : Gt} (hG : Gok l G) (a0 : Nat) (μ : Mm) (r : Int32) (h : f_X6_hasResult_b17 a0 μ = some r) : ZX l G mX6_hasResult 17 [(0, .ref a0)] [] μ (.inl (some (.int r))) μ := by
  unfold f_X6_hasResult_b17 at h
  refine zx_aload_n dX6_hasResult_17 rfl (q := 0) rfl ?_
  obtain ⟨h4, h⟩ := ck_e h
  refine zx_getI hG fl_X6_15 h4 dX6_hasResult_18 ?_
  refine zx_bipush (v := 15) dX6_hasResult_21 iv_bipush_15 ?_
  by_cases c5 : ¬ (mI μ a0 1) = 15
  · have h := it_t c5 h
    refine zx_icmp_ne_t (tgt := 30) dX6_hasResult_23 (by decide) c5 ?_
    refine zx_iconst (v := 0) dX6_hasResult_30 iv_iconst_0 ?_
    cases h
    exact zx_zretZ dX6_hasResult_31 rfl zb_0
  · have h := it_f c5 h
    refine zx_icmp_ne_f (tgt := 30) dX6_hasResult_23 (by decide) (Classical.not_not.mp c5) ?_
    refine zx_sub (L' := []) [] rfl ?_
    exact s_X6_hasResult_b26 hG _ _ h
set_option maxRecDepth 100000 in
theorem s_X6_hasResult {l : Launch} {G : Gt} (hG : Gok l G) (a0 : Nat) (μ : Mm) (r : Int32) (h : f_X6_hasResult a0 μ = some r) : ZX l G mX6_hasResult 0 [(0, .ref a0)] [] μ (.inl (some (.int r))) μ := by
  unfold f_X6_hasResult at h
  refine zx_aload_n dX6_hasResult_0 rfl (q := 0) rfl ?_
  obtain ⟨h1, h⟩ := ck_e h
  refine zx_getI hG fl_X6_15 h1 dX6_hasResult_1 ?_
  refine zx_iconst (v := 1) dX6_hasResult_4 iv_iconst_1 ?_
  by_cases c2 : (mI μ a0 1) < 1
  · have h := it_t c2 h
    refine zx_icmp_lt_t (tgt := 17) dX6_hasResult_5 (by decide) c2 ?_
    exact s_X6_hasResult_b17 hG _ _ _ h
  · have h := it_f c2 h
    refine zx_icmp_lt_f (tgt := 17) dX6_hasResult_5 (by decide) c2 ?_
    refine zx_aload_n dX6_hasResult_8 rfl (q := 0) rfl ?_
    refine zx_getI hG fl_X6_15 h1 dX6_hasResult_9 ?_
    refine zx_bipush (v := 9) dX6_hasResult_12 iv_bipush_9 ?_
    by_cases c3 : (mI μ a0 1) ≤ 9
    · have h := it_t c3 h
      refine zx_icmp_le_t (tgt := 26) dX6_hasResult_14 (by decide) c3 ?_
      refine zx_sub (L' := []) [] rfl ?_
      exact s_X6_hasResult_b26 hG _ _ h
    · have h := it_f c3 h
      refine zx_icmp_le_f (tgt := 26) dX6_hasResult_14 (by decide) c3 ?_
      exact s_X6_hasResult_b17 hG _ _ _ h
def f_X3_endIn (a0 : Nat) (x1 : Int32) (μ : Mm) : Option (Unit × Mm) :=
  ck (mK μ a0 = 104) <|
  zl (sI μ a0 5 101) fun μ2 =>
  bd (mR μ2 a0 4) fun p5 =>
  ck (isA 1 (mK μ2 p5)) <|
  ck (inb 3 (mL μ2 p5)) <|
  zl (sI μ2 p5 (Int32.toNatClampNeg 3) x1) fun μ9 =>
  some ((), μ9)
set_option maxRecDepth 100000 in
theorem s_X3_endIn {l : Launch} {G : Gt} (hG : Gok l G) (a0 : Nat) (x1 : Int32) (μ : Mm) (r : Unit) (μ' : Mm) (h : f_X3_endIn a0 x1 μ = some (r, μ')) : ZX l G mX3_endIn 0 [(0, .ref a0), (1, .int x1)] [] μ (.inl none) μ' := by
  unfold f_X3_endIn at h
  refine zx_aload_n dX3_endIn_0 rfl (q := 0) rfl ?_
  refine zx_bipush (v := 101) dX3_endIn_1 iv_bipush_101 ?_
  obtain ⟨h1, h⟩ := ck_e h
  refine zx_putC hG fl_X3_19 fn_4_5 h1 (by decide) dX3_endIn_3 ?_
  obtain ⟨μ2, e4, h⟩ := zlm_e h
  refine zx_mem e4 ?_
  have e3 : mK μ2 = mK μ := (congrArg mK e4).trans rfl
  refine zx_aload_n dX3_endIn_6 rfl (q := 0) rfl ?_
  obtain ⟨p5, h6, h⟩ := bd_e h
  refine zx_getR hG fl_X3_13 (kp_o (e3) h1) h6 dX3_endIn_7 ?_
  refine zx_iconst (v := 3) dX3_endIn_10 iv_iconst_3 ?_
  refine zx_iload_n dX3_endIn_11 rfl (q := 1) rfl ?_
  obtain ⟨h7, h⟩ := ck_e h
  obtain ⟨h8, h⟩ := ck_e h
  refine zx_iast hG rfl (h7).1 (h7).2 (inb_e h8) dX3_endIn_12 ?_
  obtain ⟨μ9, e11, h⟩ := zlm_e h
  refine zx_mem e11 ?_
  have e10 : mK μ9 = mK μ2 := (congrArg mK e11).trans rfl
  cases h
  exact zx_vret dX3_endIn_13 rfl
def f_X0_endDelay_b43 (a0 : Nat) (a1 : Nat) (μ : Mm) : Option (Unit × Mm) :=
  ck (mK μ a1 = 104) <|
  bd (mR μ a1 0) fun p19 =>
  ck (mK μ p19 = 107) <|
  bd (f_X6_hasResult p19 μ) fun y22 =>
  if y22 = 0 then
    ck (mK μ a0 = 101) <|
    cl (f_X3_endIn a1 (mI μ a0 12) μ) fun _ μ28 =>
    some ((), μ28)
  else
    zl (sI μ a1 5 98) fun μ29 =>
    some ((), μ29)
def f_X0_endDelay (a0 : Nat) (a1 : Nat) (μ : Mm) : Option (Unit × Mm) :=
  ck (mK μ a1 = 104) <|
  bd (mR μ a1 0) fun p2 =>
  ck (mK μ p2 = 107) <|
  if ¬ (mI μ p2 1) = 9 then
    f_X0_endDelay_b43 a0 a1 μ
  else
    if ¬ (mI μ a1 16) = ((-1)) then
      f_X0_endDelay_b43 a0 a1 μ
    else
      bd (f_X10_isAddress (mI μ a1 11)) fun y7 =>
      if y7 = 0 then
        f_X0_endDelay_b43 a0 a1 μ
      else
        ck (mK μ a0 = 101) <|
        bd (mR μ a0 9) fun p11 =>
        ck (isA 1 (mK μ p11)) <|
        ck (inb (mI μ a1 11) (mL μ p11)) <|
        zl (sI μ a1 13 (mI μ p11 (Int32.toNatClampNeg (mI μ a1 11)))) fun μ15 =>
        f_X0_endDelay_b43 a0 a1 μ15
set_option maxRecDepth 100000 in
theorem s_X0_endDelay_b43 {l : Launch} {G : Gt} (hG : Gok l G) (a0 : Nat) (a1 : Nat) (μ : Mm) (r : Unit) (μ' : Mm) (h : f_X0_endDelay_b43 a0 a1 μ = some (r, μ')) : ZX l G mX0_endDelay 43 [(0, .ref a0), (1, .ref a1)] [] μ (.inl none) μ' := by
  unfold f_X0_endDelay_b43 at h
  refine zx_aload_n dX0_endDelay_43 rfl (q := 1) rfl ?_
  obtain ⟨h18, h⟩ := ck_e h
  obtain ⟨p19, h20, h⟩ := bd_e h
  refine zx_getR hG fl_X0_161 h18 h20 dX0_endDelay_44 ?_
  obtain ⟨h21, h⟩ := ck_e h
  obtain ⟨y22, z23, h⟩ := bd_e h
  refine zx_callV (As := []) hG mf_X6_hasResult cv_X0_179 h21 ⟨by decide, by decide⟩ rfl rfl (Nat.le_of_ble_eq_true rfl) (s_X6_hasResult hG _ _ _ z23) (Nat.le_of_ble_eq_true rfl) dX0_endDelay_47 ?_
  by_cases c24 : y22 = 0
  · have h := it_t c24 h
    refine zx_if_eq_t (tgt := 62) dX0_endDelay_50 (by decide) c24 ?_
    refine zx_aload_n dX0_endDelay_62 rfl (q := 1) rfl ?_
    refine zx_aload_n dX0_endDelay_63 rfl (q := 0) rfl ?_
    obtain ⟨h25, h⟩ := ck_e h
    refine zx_getI hG fl_X0_77 h25 dX0_endDelay_64 ?_
    obtain ⟨uu26, μ28, z27, h⟩ := cl_e h
    refine zx_callV (As := [.int (mI μ a0 12)]) hG mf_X3_endIn cv_X0_183 h18 ⟨by decide, by decide⟩ rfl rfl (Nat.le_of_ble_eq_true rfl) (s_X3_endIn hG _ _ _ _ _ z27) (Nat.le_of_ble_eq_true rfl) dX0_endDelay_67 ?_
    cases h
    exact zx_vret dX0_endDelay_70 rfl
  · have h := it_f c24 h
    refine zx_if_eq_f (tgt := 62) dX0_endDelay_50 (by decide) c24 ?_
    refine zx_aload_n dX0_endDelay_53 rfl (q := 1) rfl ?_
    refine zx_bipush (v := 98) dX0_endDelay_54 iv_bipush_98 ?_
    refine zx_putC hG fl_X0_133 fn_4_5 h18 (by decide) dX0_endDelay_56 ?_
    obtain ⟨μ29, e31, h⟩ := zlm_e h
    refine zx_mem e31 ?_
    have e30 : mK μ29 = mK μ := (congrArg mK e31).trans rfl
    refine zx_goto (tgt := 70) dX0_endDelay_59 (by decide) ?_
    cases h
    exact zx_vret dX0_endDelay_70 rfl
set_option maxRecDepth 100000 in
theorem s_X0_endDelay {l : Launch} {G : Gt} (hG : Gok l G) (a0 : Nat) (a1 : Nat) (μ : Mm) (r : Unit) (μ' : Mm) (h : f_X0_endDelay a0 a1 μ = some (r, μ')) : ZX l G mX0_endDelay 0 [(0, .ref a0), (1, .ref a1)] [] μ (.inl none) μ' := by
  unfold f_X0_endDelay at h
  refine zx_aload_n dX0_endDelay_0 rfl (q := 1) rfl ?_
  obtain ⟨h1, h⟩ := ck_e h
  obtain ⟨p2, h3, h⟩ := bd_e h
  refine zx_getR hG fl_X0_161 h1 h3 dX0_endDelay_1 ?_
  obtain ⟨h4, h⟩ := ck_e h
  refine zx_getI hG fl_X0_165 h4 dX0_endDelay_4 ?_
  refine zx_bipush (v := 9) dX0_endDelay_7 iv_bipush_9 ?_
  by_cases c5 : ¬ (mI μ p2 1) = 9
  · have h := it_t c5 h
    refine zx_icmp_ne_t (tgt := 43) dX0_endDelay_9 (by decide) c5 ?_
    exact s_X0_endDelay_b43 hG _ _ _ _ _ h
  · have h := it_f c5 h
    refine zx_icmp_ne_f (tgt := 43) dX0_endDelay_9 (by decide) (Classical.not_not.mp c5) ?_
    refine zx_aload_n dX0_endDelay_12 rfl (q := 1) rfl ?_
    refine zx_getI hG fl_X0_170 h1 dX0_endDelay_13 ?_
    refine zx_iconst (v := (-1)) dX0_endDelay_16 iv_iconst_m1 ?_
    by_cases c6 : ¬ (mI μ a1 16) = ((-1))
    · have h := it_t c6 h
      refine zx_icmp_ne_t (tgt := 43) dX0_endDelay_17 (by decide) c6 ?_
      exact s_X0_endDelay_b43 hG _ _ _ _ _ h
    · have h := it_f c6 h
      refine zx_icmp_ne_f (tgt := 43) dX0_endDelay_17 (by decide) (Classical.not_not.mp c6) ?_
      refine zx_aload_n dX0_endDelay_20 rfl (q := 1) rfl ?_
      refine zx_getI hG fl_X0_137 h1 dX0_endDelay_21 ?_
      obtain ⟨y7, z8, h⟩ := bd_e h
      refine zx_callSN (As := [.int (mI μ a1 11)]) hG mf_X10_isAddress cs_X0_173 ⟨by decide, by decide⟩ rfl rfl (Nat.le_of_ble_eq_true rfl) (s_X10_isAddress hG _ _ _ z8) (Nat.le_of_ble_eq_true rfl) dX0_endDelay_24 ?_
      by_cases c9 : y7 = 0
      · have h := it_t c9 h
        refine zx_if_eq_t (tgt := 43) dX0_endDelay_27 (by decide) c9 ?_
        exact s_X0_endDelay_b43 hG _ _ _ _ _ h
      · have h := it_f c9 h
        refine zx_if_eq_f (tgt := 43) dX0_endDelay_27 (by decide) c9 ?_
        refine zx_aload_n dX0_endDelay_30 rfl (q := 1) rfl ?_
        refine zx_aload_n dX0_endDelay_31 rfl (q := 0) rfl ?_
        obtain ⟨h10, h⟩ := ck_e h
        obtain ⟨p11, h12, h⟩ := bd_e h
        refine zx_getR hG fl_X0_66 h10 h12 dX0_endDelay_32 ?_
        refine zx_aload_n dX0_endDelay_35 rfl (q := 1) rfl ?_
        refine zx_getI hG fl_X0_137 h1 dX0_endDelay_36 ?_
        obtain ⟨h13, h⟩ := ck_e h
        obtain ⟨h14, h⟩ := ck_e h
        refine zx_iald hG rfl (h13).1 (h13).2 (inb_e h14) dX0_endDelay_39 ?_
        refine zx_putI hG fl_X0_176 fn_4_13 h1 dX0_endDelay_40 ?_
        obtain ⟨μ15, e17, h⟩ := zlm_e h
        refine zx_mem e17 ?_
        have e16 : mK μ15 = mK μ := (congrArg mK e17).trans rfl
        exact s_X0_endDelay_b43 hG _ _ _ _ _ h
def f_X6_isQuestion_b18 (μ : Mm) : Option Int32 :=
  some 1
def f_X6_isQuestion (a0 : Nat) (μ : Mm) : Option Int32 :=
  ck (mK μ a0 = 107) <|
  if (mI μ a0 1) = 12 then
    f_X6_isQuestion_b18 μ
  else
    if ¬ (mI μ a0 1) = 13 then
      some 0
    else
      f_X6_isQuestion_b18 μ
set_option maxRecDepth 100000 in
theorem s_X6_isQuestion_b18 {l : Launch} {G : Gt} (hG : Gok l G) (μ : Mm) (r : Int32) (h : f_X6_isQuestion_b18 μ = some r) : ZX l G mX6_isQuestion 18 [] [] μ (.inl (some (.int r))) μ := by
  unfold f_X6_isQuestion_b18 at h
  refine zx_iconst (v := 1) dX6_isQuestion_18 iv_iconst_1 ?_
  refine zx_goto (tgt := 23) dX6_isQuestion_19 (by decide) ?_
  cases h
  exact zx_zretZ dX6_isQuestion_23 rfl zb_1
set_option maxRecDepth 100000 in
theorem s_X6_isQuestion {l : Launch} {G : Gt} (hG : Gok l G) (a0 : Nat) (μ : Mm) (r : Int32) (h : f_X6_isQuestion a0 μ = some r) : ZX l G mX6_isQuestion 0 [(0, .ref a0)] [] μ (.inl (some (.int r))) μ := by
  unfold f_X6_isQuestion at h
  refine zx_aload_n dX6_isQuestion_0 rfl (q := 0) rfl ?_
  obtain ⟨h1, h⟩ := ck_e h
  refine zx_getI hG fl_X6_15 h1 dX6_isQuestion_1 ?_
  refine zx_bipush (v := 12) dX6_isQuestion_4 iv_bipush_12 ?_
  by_cases c2 : (mI μ a0 1) = 12
  · have h := it_t c2 h
    refine zx_icmp_eq_t (tgt := 18) dX6_isQuestion_6 (by decide) c2 ?_
    refine zx_sub (L' := []) [] rfl ?_
    exact s_X6_isQuestion_b18 hG _ _ h
  · have h := it_f c2 h
    refine zx_icmp_eq_f (tgt := 18) dX6_isQuestion_6 (by decide) c2 ?_
    refine zx_aload_n dX6_isQuestion_9 rfl (q := 0) rfl ?_
    refine zx_getI hG fl_X6_15 h1 dX6_isQuestion_10 ?_
    refine zx_bipush (v := 13) dX6_isQuestion_13 iv_bipush_13 ?_
    by_cases c3 : ¬ (mI μ a0 1) = 13
    · have h := it_t c3 h
      refine zx_icmp_ne_t (tgt := 22) dX6_isQuestion_15 (by decide) c3 ?_
      refine zx_iconst (v := 0) dX6_isQuestion_22 iv_iconst_0 ?_
      cases h
      exact zx_zretZ dX6_isQuestion_23 rfl zb_0
    · have h := it_f c3 h
      refine zx_icmp_ne_f (tgt := 22) dX6_isQuestion_15 (by decide) (Classical.not_not.mp c3) ?_
      refine zx_sub (L' := []) [] rfl ?_
      exact s_X6_isQuestion_b18 hG _ _ h
def f_X6_isLeap_b18 (μ : Mm) : Option Int32 :=
  some 1
def f_X6_isLeap (a0 : Nat) (μ : Mm) : Option Int32 :=
  ck (mK μ a0 = 107) <|
  if (mI μ a0 1) = 16 then
    f_X6_isLeap_b18 μ
  else
    if ¬ (mI μ a0 1) = 17 then
      some 0
    else
      f_X6_isLeap_b18 μ
set_option maxRecDepth 100000 in
theorem s_X6_isLeap_b18 {l : Launch} {G : Gt} (hG : Gok l G) (μ : Mm) (r : Int32) (h : f_X6_isLeap_b18 μ = some r) : ZX l G mX6_isLeap 18 [] [] μ (.inl (some (.int r))) μ := by
  unfold f_X6_isLeap_b18 at h
  refine zx_iconst (v := 1) dX6_isLeap_18 iv_iconst_1 ?_
  refine zx_goto (tgt := 23) dX6_isLeap_19 (by decide) ?_
  cases h
  exact zx_zretZ dX6_isLeap_23 rfl zb_1
set_option maxRecDepth 100000 in
theorem s_X6_isLeap {l : Launch} {G : Gt} (hG : Gok l G) (a0 : Nat) (μ : Mm) (r : Int32) (h : f_X6_isLeap a0 μ = some r) : ZX l G mX6_isLeap 0 [(0, .ref a0)] [] μ (.inl (some (.int r))) μ := by
  unfold f_X6_isLeap at h
  refine zx_aload_n dX6_isLeap_0 rfl (q := 0) rfl ?_
  obtain ⟨h1, h⟩ := ck_e h
  refine zx_getI hG fl_X6_15 h1 dX6_isLeap_1 ?_
  refine zx_bipush (v := 16) dX6_isLeap_4 iv_bipush_16 ?_
  by_cases c2 : (mI μ a0 1) = 16
  · have h := it_t c2 h
    refine zx_icmp_eq_t (tgt := 18) dX6_isLeap_6 (by decide) c2 ?_
    refine zx_sub (L' := []) [] rfl ?_
    exact s_X6_isLeap_b18 hG _ _ h
  · have h := it_f c2 h
    refine zx_icmp_eq_f (tgt := 18) dX6_isLeap_6 (by decide) c2 ?_
    refine zx_aload_n dX6_isLeap_9 rfl (q := 0) rfl ?_
    refine zx_getI hG fl_X6_15 h1 dX6_isLeap_10 ?_
    refine zx_bipush (v := 17) dX6_isLeap_13 iv_bipush_17 ?_
    by_cases c3 : ¬ (mI μ a0 1) = 17
    · have h := it_t c3 h
      refine zx_icmp_ne_t (tgt := 22) dX6_isLeap_15 (by decide) c3 ?_
      refine zx_iconst (v := 0) dX6_isLeap_22 iv_iconst_0 ?_
      cases h
      exact zx_zretZ dX6_isLeap_23 rfl zb_0
    · have h := it_f c3 h
      refine zx_icmp_ne_f (tgt := 22) dX6_isLeap_15 (by decide) (Classical.not_not.mp c3) ?_
      refine zx_sub (L' := []) [] rfl ?_
      exact s_X6_isLeap_b18 hG _ _ h
def f_Jx4a65c_clear_da8c8_b27 : Nat → Nat → Int32 → Int32 → Mm → Option (Unit × Mm)
  | 0, _, _, _, _ => none
  | n + 1, a1, x2, x3, μ =>
  if x2 ≤ x3 then
    some ((), μ)
  else
    ck (isA 6 (mK μ a1)) <|
    ck (inb x3 (mL μ a1)) <|
    zl (sR μ a1 (Int32.toNatClampNeg x3) none) fun μ13 =>
    f_Jx4a65c_clear_da8c8_b27 n a1 x2 (x3 + 1) μ13
def f_Jx4a65c_clear_da8c8 (a0 : Nat) (μ : Mm) : Option (Unit × Mm) :=
  ck (mK μ a0 = 100) <|
  zl (sI μ a0 0 ((mI μ a0 0) + 1)) fun μ2 =>
  bd (mR μ2 a0 1) fun p5 =>
  zl (sI μ2 a0 2 0) fun μ7 =>
  f_Jx4a65c_clear_da8c8_b27 5000 p5 (mI μ2 a0 2) 0 μ7
set_option maxRecDepth 100000 in
theorem s_Jx4a65c_clear_da8c8_b27 {l : Launch} {G : Gt} (hG : Gok l G) : ∀ (n : Nat) (a1 : Nat) (x2 : Int32) (x3 : Int32) (μ : Mm) (r : Unit) (μ' : Mm), f_Jx4a65c_clear_da8c8_b27 n a1 x2 x3 μ = some (r, μ') → ZX l G mJx4a65c_clear_da8c8 27 [(1, .ref a1), (2, .int x2), (3, .int x3)] [] μ (.inl none) μ' := by
  intro n
  induction n with
  | zero =>
    intro a1 x2 x3 μ r μ' h
    cases h
  | succ n ih =>
    intro a1 x2 x3 μ r μ' h
    unfold f_Jx4a65c_clear_da8c8_b27 at h
    refine zx_iload_n dJx4a65c_clear_da8c8_27 rfl (q := 2) rfl ?_
    refine zx_iload_n dJx4a65c_clear_da8c8_28 rfl (q := 1) rfl ?_
    by_cases c10 : x2 ≤ x3
    · have h := it_t c10 h
      refine zx_icmp_ge_t (tgt := 42) dJx4a65c_clear_da8c8_29 (by decide) c10 ?_
      cases h
      exact zx_vret dJx4a65c_clear_da8c8_42 rfl
    · have h := it_f c10 h
      refine zx_icmp_ge_f (tgt := 42) dJx4a65c_clear_da8c8_29 (by decide) c10 ?_
      refine zx_aload_n dJx4a65c_clear_da8c8_32 rfl (q := 0) rfl ?_
      refine zx_iload_n dJx4a65c_clear_da8c8_33 rfl (q := 2) rfl ?_
      refine zx_null dJx4a65c_clear_da8c8_34 ?_
      obtain ⟨h11, h⟩ := ck_e h
      obtain ⟨h12, h⟩ := ck_e h
      refine zx_aastN hG rfl (h11).1 (h11).2 (inb_e h12) dJx4a65c_clear_da8c8_35 ?_
      obtain ⟨μ13, e15, h⟩ := zlm_e h
      refine zx_mem e15 ?_
      have e14 : mK μ13 = mK μ := (congrArg mK e15).trans rfl
      refine zx_iinc (q := 2) (v := x3 + 1) (L' := [(3, .int (x3 + 1)), (1, .ref a1), (2, .int x2)]) dJx4a65c_clear_da8c8_36 rfl rfl (by decide) rfl ?_
      refine zx_goto (tgt := 27) dJx4a65c_clear_da8c8_39 (by decide) ?_
      refine zx_sub (L' := [(1, .ref a1), (2, .int x2), (3, .int (x3 + 1))]) [1, 2, 0] rfl ?_
      exact ih _ _ _ _ _ _ h
set_option maxRecDepth 100000 in
theorem s_Jx4a65c_clear_da8c8 {l : Launch} {G : Gt} (hG : Gok l G) (a0 : Nat) (μ : Mm) (r : Unit) (μ' : Mm) (h : f_Jx4a65c_clear_da8c8 a0 μ = some (r, μ')) : ZX l G mJx4a65c_clear_da8c8 0 [(0, .ref a0)] [] μ (.inl none) μ' := by
  unfold f_Jx4a65c_clear_da8c8 at h
  refine zx_aload_n dJx4a65c_clear_da8c8_0 rfl (q := 0) rfl ?_
  refine zx_dup dJx4a65c_clear_da8c8_1 rfl ?_
  obtain ⟨h1, h⟩ := ck_e h
  refine zx_getI hG fl_Jx4a65c_63 h1 dJx4a65c_clear_da8c8_2 ?_
  refine zx_iconst (v := 1) dJx4a65c_clear_da8c8_5 iv_iconst_1 ?_
  refine zx_iadd dJx4a65c_clear_da8c8_6 ?_
  refine zx_putI hG fl_Jx4a65c_63 fn_0_0 h1 dJx4a65c_clear_da8c8_7 ?_
  obtain ⟨μ2, e4, h⟩ := zlm_e h
  refine zx_mem e4 ?_
  have e3 : mK μ2 = mK μ := (congrArg mK e4).trans rfl
  refine zx_aload_n dJx4a65c_clear_da8c8_10 rfl (q := 0) rfl ?_
  obtain ⟨p5, h6, h⟩ := bd_e h
  refine zx_getR hG fl_Jx4a65c_9 (kp_o (e3) h1) h6 dJx4a65c_clear_da8c8_11 ?_
  refine zx_astore_n (L' := [(1, .ref p5), (0, .ref a0)]) dJx4a65c_clear_da8c8_14 rfl (by decide) rfl ?_
  refine zx_aload_n dJx4a65c_clear_da8c8_15 rfl (q := 1) rfl ?_
  refine zx_getI hG fl_Jx4a65c_48 (kp_o (e3) h1) dJx4a65c_clear_da8c8_16 ?_
  refine zx_istore_n (L' := [(2, .int (mI μ2 a0 2)), (1, .ref p5), (0, .ref a0)]) dJx4a65c_clear_da8c8_19 rfl (by decide) rfl ?_
  refine zx_aload_n dJx4a65c_clear_da8c8_20 rfl (q := 2) rfl ?_
  refine zx_iconst (v := 0) dJx4a65c_clear_da8c8_21 iv_iconst_0 ?_
  refine zx_dup_x1 dJx4a65c_clear_da8c8_22 rfl rfl ?_
  refine zx_putI hG fl_Jx4a65c_48 fn_0_2 (kp_o (e3) h1) dJx4a65c_clear_da8c8_23 ?_
  obtain ⟨μ7, e9, h⟩ := zlm_e h
  refine zx_mem e9 ?_
  have e8 : mK μ7 = mK μ2 := (congrArg mK e9).trans rfl
  refine zx_istore_n (L' := [(3, .int 0), (2, .int (mI μ2 a0 2)), (1, .ref p5), (0, .ref a0)]) dJx4a65c_clear_da8c8_26 rfl (by decide) rfl ?_
  refine zx_sub (L' := [(1, .ref p5), (2, .int (mI μ2 a0 2)), (3, .int 0)]) [2, 1, 0] rfl ?_
  exact s_Jx4a65c_clear_da8c8_b27 hG 5000 _ _ _ _ _ _ h
def f_X5_takeBack (a0 : Nat) (a1 : Nat) (μ : Mm) : Option (Unit × Mm) :=
  ck (mK μ a1 = 104) <|
  if (mI μ a1 8) = ((-1)) then
    some ((), μ)
  else
    ck (mK μ a0 = 106) <|
    bd (mR μ a0 0) fun p4 =>
    bd (mR μ a1 0) fun p6 =>
    ck (mK μ p6 = 107) <|
    ck (isA 1 (mK μ p4)) <|
    ck (inb (mI μ p6 2) (mL μ p4)) <|
    zl (sI μ p4 (Int32.toNatClampNeg (mI μ p6 2)) (mI μ a1 9)) fun μ11 =>
    cl (f_X5_putBehind a0 (mI μ11 a1 8) μ11) fun _ μ16 =>
    some ((), μ16)
set_option maxRecDepth 100000 in
theorem s_X5_takeBack {l : Launch} {G : Gt} (hG : Gok l G) (a0 : Nat) (a1 : Nat) (μ : Mm) (r : Unit) (μ' : Mm) (h : f_X5_takeBack a0 a1 μ = some (r, μ')) : ZX l G mX5_takeBack 0 [(0, .ref a0), (1, .ref a1)] [] μ (.inl none) μ' := by
  unfold f_X5_takeBack at h
  refine zx_aload_n dX5_takeBack_0 rfl (q := 1) rfl ?_
  obtain ⟨h1, h⟩ := ck_e h
  refine zx_getI hG fl_X5_76 h1 dX5_takeBack_1 ?_
  refine zx_iconst (v := (-1)) dX5_takeBack_4 iv_iconst_m1 ?_
  by_cases c2 : (mI μ a1 8) = ((-1))
  · have h := it_t c2 h
    refine zx_icmp_eq_t (tgt := 32) dX5_takeBack_5 (by decide) c2 ?_
    cases h
    exact zx_vret dX5_takeBack_32 rfl
  · have h := it_f c2 h
    refine zx_icmp_eq_f (tgt := 32) dX5_takeBack_5 (by decide) c2 ?_
    refine zx_aload_n dX5_takeBack_8 rfl (q := 0) rfl ?_
    obtain ⟨h3, h⟩ := ck_e h
    obtain ⟨p4, h5, h⟩ := bd_e h
    refine zx_getR hG fl_X5_9 h3 h5 dX5_takeBack_9 ?_
    refine zx_aload_n dX5_takeBack_12 rfl (q := 1) rfl ?_
    obtain ⟨p6, h7, h⟩ := bd_e h
    refine zx_getR hG fl_X5_42 h1 h7 dX5_takeBack_13 ?_
    obtain ⟨h8, h⟩ := ck_e h
    refine zx_getI hG fl_X5_70 h8 dX5_takeBack_16 ?_
    refine zx_aload_n dX5_takeBack_19 rfl (q := 1) rfl ?_
    refine zx_getI hG fl_X5_73 h1 dX5_takeBack_20 ?_
    obtain ⟨h9, h⟩ := ck_e h
    obtain ⟨h10, h⟩ := ck_e h
    refine zx_iast hG rfl (h9).1 (h9).2 (inb_e h10) dX5_takeBack_23 ?_
    obtain ⟨μ11, e13, h⟩ := zlm_e h
    refine zx_mem e13 ?_
    have e12 : mK μ11 = mK μ := (congrArg mK e13).trans rfl
    refine zx_aload_n dX5_takeBack_24 rfl (q := 0) rfl ?_
    refine zx_aload_n dX5_takeBack_25 rfl (q := 1) rfl ?_
    refine zx_getI hG fl_X5_76 (kp_o (e12) h1) dX5_takeBack_26 ?_
    obtain ⟨uu14, μ16, z15, h⟩ := cl_e h
    refine zx_callV (As := [.int (mI μ11 a1 8)]) hG mf_X5_putBehind cv_X5_39 (kp_o (e12) h3) ⟨by decide, by decide⟩ rfl rfl (Nat.le_of_ble_eq_true rfl) (s_X5_putBehind hG _ _ _ _ _ z15) (Nat.le_of_ble_eq_true rfl) dX5_takeBack_29 ?_
    cases h
    exact zx_vret dX5_takeBack_32 rfl
def f_Jx4a65c_fastRemove_b59b0_b34 (a0 : Nat) (a1 : Nat) (x3 : Int32) (μ : Mm) : Option (Unit × Mm) :=
  ck (mK μ a0 = 100) <|
  zl (sI μ a0 2 x3) fun μ12 =>
  ck (isA 6 (mK μ12 a1)) <|
  ck (inb x3 (mL μ12 a1)) <|
  zl (sR μ12 a1 (Int32.toNatClampNeg x3) none) fun μ17 =>
  some ((), μ17)
def f_Jx4a65c_fastRemove_b59b0 (a0 : Nat) (a1 : Nat) (x2 : Int32) (μ : Mm) : Option (Unit × Mm) :=
  ck (mK μ a0 = 100) <|
  zl (sI μ a0 0 ((mI μ a0 0) + 1)) fun μ2 =>
  if ((mI μ2 a0 2) - 1) ≤ x2 then
    f_Jx4a65c_fastRemove_b59b0_b34 a0 a1 ((mI μ2 a0 2) - 1) μ2
  else
    ck (isA 6 (mK μ2 a1)) <|
    ck (cpok μ2 a1 (x2 + 1) a1 x2 (((mI μ2 a0 2) - 1) - x2)) <|
    zl (cpy μ2 a1 (x2 + 1) a1 x2 (((mI μ2 a0 2) - 1) - x2)) fun μ8 =>
    f_Jx4a65c_fastRemove_b59b0_b34 a0 a1 ((mI μ2 a0 2) - 1) μ8
set_option maxRecDepth 100000 in
theorem s_Jx4a65c_fastRemove_b59b0_b34 {l : Launch} {G : Gt} (hG : Gok l G) (a0 : Nat) (a1 : Nat) (x3 : Int32) (μ : Mm) (r : Unit) (μ' : Mm) (h : f_Jx4a65c_fastRemove_b59b0_b34 a0 a1 x3 μ = some (r, μ')) : ZX l G mJx4a65c_fastRemove_b59b0 34 [(0, .ref a0), (1, .ref a1), (3, .int x3)] [] μ (.inl none) μ' := by
  unfold f_Jx4a65c_fastRemove_b59b0_b34 at h
  refine zx_aload_n dJx4a65c_fastRemove_b59b0_34 rfl (q := 1) rfl ?_
  refine zx_aload_n dJx4a65c_fastRemove_b59b0_35 rfl (q := 0) rfl ?_
  refine zx_iload_n dJx4a65c_fastRemove_b59b0_36 rfl (q := 2) rfl ?_
  refine zx_dup_x1 dJx4a65c_fastRemove_b59b0_37 rfl rfl ?_
  obtain ⟨h11, h⟩ := ck_e h
  refine zx_putI hG fl_Jx4a65c_48 fn_0_2 h11 dJx4a65c_fastRemove_b59b0_38 ?_
  obtain ⟨μ12, e14, h⟩ := zlm_e h
  refine zx_mem e14 ?_
  have e13 : mK μ12 = mK μ := (congrArg mK e14).trans rfl
  refine zx_null dJx4a65c_fastRemove_b59b0_41 ?_
  obtain ⟨h15, h⟩ := ck_e h
  obtain ⟨h16, h⟩ := ck_e h
  refine zx_aastN hG rfl (h15).1 (h15).2 (inb_e h16) dJx4a65c_fastRemove_b59b0_42 ?_
  obtain ⟨μ17, e19, h⟩ := zlm_e h
  refine zx_mem e19 ?_
  have e18 : mK μ17 = mK μ12 := (congrArg mK e19).trans rfl
  cases h
  exact zx_vret dJx4a65c_fastRemove_b59b0_43 rfl
set_option maxRecDepth 100000 in
theorem s_Jx4a65c_fastRemove_b59b0 {l : Launch} {G : Gt} (hG : Gok l G) (a0 : Nat) (a1 : Nat) (x2 : Int32) (μ : Mm) (r : Unit) (μ' : Mm) (h : f_Jx4a65c_fastRemove_b59b0 a0 a1 x2 μ = some (r, μ')) : ZX l G mJx4a65c_fastRemove_b59b0 0 [(0, .ref a0), (1, .ref a1), (2, .int x2)] [] μ (.inl none) μ' := by
  unfold f_Jx4a65c_fastRemove_b59b0 at h
  refine zx_aload_n dJx4a65c_fastRemove_b59b0_0 rfl (q := 0) rfl ?_
  refine zx_dup dJx4a65c_fastRemove_b59b0_1 rfl ?_
  obtain ⟨h1, h⟩ := ck_e h
  refine zx_getI hG fl_Jx4a65c_63 h1 dJx4a65c_fastRemove_b59b0_2 ?_
  refine zx_iconst (v := 1) dJx4a65c_fastRemove_b59b0_5 iv_iconst_1 ?_
  refine zx_iadd dJx4a65c_fastRemove_b59b0_6 ?_
  refine zx_putI hG fl_Jx4a65c_63 fn_0_0 h1 dJx4a65c_fastRemove_b59b0_7 ?_
  obtain ⟨μ2, e4, h⟩ := zlm_e h
  refine zx_mem e4 ?_
  have e3 : mK μ2 = mK μ := (congrArg mK e4).trans rfl
  refine zx_aload_n dJx4a65c_fastRemove_b59b0_10 rfl (q := 0) rfl ?_
  refine zx_getI hG fl_Jx4a65c_48 (kp_o (e3) h1) dJx4a65c_fastRemove_b59b0_11 ?_
  refine zx_iconst (v := 1) dJx4a65c_fastRemove_b59b0_14 iv_iconst_1 ?_
  refine zx_isub dJx4a65c_fastRemove_b59b0_15 ?_
  refine zx_dup dJx4a65c_fastRemove_b59b0_16 rfl ?_
  refine zx_istore_n (L' := [(3, .int ((mI μ2 a0 2) - 1)), (0, .ref a0), (1, .ref a1), (2, .int x2)]) dJx4a65c_fastRemove_b59b0_17 rfl (by decide) rfl ?_
  refine zx_iload_n dJx4a65c_fastRemove_b59b0_18 rfl (q := 3) rfl ?_
  by_cases c5 : ((mI μ2 a0 2) - 1) ≤ x2
  · have h := it_t c5 h
    refine zx_icmp_le_t (tgt := 34) dJx4a65c_fastRemove_b59b0_19 (by decide) c5 ?_
    refine zx_sub (L' := [(0, .ref a0), (1, .ref a1), (3, .int ((mI μ2 a0 2) - 1))]) [1, 2, 0] rfl ?_
    exact s_Jx4a65c_fastRemove_b59b0_b34 hG _ _ _ _ _ _ h
  · have h := it_f c5 h
    refine zx_icmp_le_f (tgt := 34) dJx4a65c_fastRemove_b59b0_19 (by decide) c5 ?_
    refine zx_aload_n dJx4a65c_fastRemove_b59b0_22 rfl (q := 2) rfl ?_
    refine zx_iload_n dJx4a65c_fastRemove_b59b0_23 rfl (q := 3) rfl ?_
    refine zx_iconst (v := 1) dJx4a65c_fastRemove_b59b0_24 iv_iconst_1 ?_
    refine zx_iadd dJx4a65c_fastRemove_b59b0_25 ?_
    refine zx_aload_n dJx4a65c_fastRemove_b59b0_26 rfl (q := 2) rfl ?_
    refine zx_iload_n dJx4a65c_fastRemove_b59b0_27 rfl (q := 3) rfl ?_
    refine zx_iload_n dJx4a65c_fastRemove_b59b0_28 rfl (q := 0) rfl ?_
    refine zx_iload_n dJx4a65c_fastRemove_b59b0_29 rfl (q := 3) rfl ?_
    refine zx_isub dJx4a65c_fastRemove_b59b0_30 ?_
    obtain ⟨h6, h⟩ := ck_e h
    obtain ⟨h7, h⟩ := ck_e h
    refine zx_copy hG ac_Jx4a65c_112 (h6).1 (h6).2 (h6).1 (h6).2 h7 (by decide) (by decide) (by decide) dJx4a65c_fastRemove_b59b0_31 ?_
    obtain ⟨μ8, e10, h⟩ := zlm_e h
    refine zx_mem e10 ?_
    have e9 : mK μ8 = mK μ2 := (congrArg mK e10).trans rfl
    refine zx_sub (L' := [(0, .ref a0), (1, .ref a1), (3, .int ((mI μ2 a0 2) - 1))]) [1, 2, 0] rfl ?_
    exact s_Jx4a65c_fastRemove_b59b0_b34 hG _ _ _ _ _ _ h
def f_Jx4a65c_remove_915e3 (a0 : Nat) (x1 : Int32) (μ : Mm) : Option (Nat × Mm) :=
  ck (mK μ a0 = 100) <|
  bd (f_J15_checkIndex_7cf53 x1 (mI μ a0 2)) fun y2 =>
  bd (mR μ a0 1) fun p4 =>
  ck (isA56 (mK μ p4)) <|
  ck (inb x1 (mL μ p4)) <|
  bd (mR μ p4 (Int32.toNatClampNeg x1)) fun p8 =>
  cl (f_Jx4a65c_fastRemove_b59b0 a0 p4 x1 μ) fun _ μ12 =>
  some (p8, μ12)
set_option maxRecDepth 100000 in
theorem s_Jx4a65c_remove_915e3 {l : Launch} {G : Gt} (hG : Gok l G) (a0 : Nat) (x1 : Int32) (μ : Mm) (r : Nat) (μ' : Mm) (h : f_Jx4a65c_remove_915e3 a0 x1 μ = some (r, μ')) : ZX l G mJx4a65c_remove_915e3 0 [(0, .ref a0), (1, .int x1)] [] μ (.inl (some (.ref r))) μ' := by
  unfold f_Jx4a65c_remove_915e3 at h
  refine zx_iload_n dJx4a65c_remove_915e3_0 rfl (q := 1) rfl ?_
  refine zx_aload_n dJx4a65c_remove_915e3_1 rfl (q := 0) rfl ?_
  obtain ⟨h1, h⟩ := ck_e h
  refine zx_getI hG fl_Jx4a65c_48 h1 dJx4a65c_remove_915e3_2 ?_
  obtain ⟨y2, z3, h⟩ := bd_e h
  refine zx_callS (As := [.int x1, .int (mI μ a0 2)]) hG mf_J15_checkIndex_7cf53 cs_Jx4a65c_118 ⟨by decide, by decide⟩ rfl rfl (Nat.le_of_ble_eq_true rfl) (s_J15_checkIndex_7cf53 hG _ _ _ _ z3) (Nat.le_of_ble_eq_true rfl) dJx4a65c_remove_915e3_5 ?_
  refine zx_pop dJx4a65c_remove_915e3_8 rfl ?_
  refine zx_aload_n dJx4a65c_remove_915e3_9 rfl (q := 0) rfl ?_
  obtain ⟨p4, h5, h⟩ := bd_e h
  refine zx_getR hG fl_Jx4a65c_9 h1 h5 dJx4a65c_remove_915e3_10 ?_
  refine zx_astore_n (L' := [(2, .ref p4), (0, .ref a0), (1, .int x1)]) dJx4a65c_remove_915e3_13 rfl (by decide) rfl ?_
  refine zx_aload_n dJx4a65c_remove_915e3_14 rfl (q := 0) rfl ?_
  refine zx_iload_n dJx4a65c_remove_915e3_15 rfl (q := 2) rfl ?_
  obtain ⟨h6, h⟩ := ck_e h
  obtain ⟨h7, h⟩ := ck_e h
  obtain ⟨p8, h9, h⟩ := bd_e h
  refine zx_aald hG rfl (h6).1 (h6).2 (inb_e h7) h9 dJx4a65c_remove_915e3_16 ?_
  refine zx_astore_n (L' := [(3, .ref p8), (2, .ref p4), (0, .ref a0), (1, .int x1)]) dJx4a65c_remove_915e3_17 rfl (by decide) rfl ?_
  refine zx_aload_n dJx4a65c_remove_915e3_18 rfl (q := 2) rfl ?_
  refine zx_aload_n dJx4a65c_remove_915e3_19 rfl (q := 1) rfl ?_
  refine zx_iload_n dJx4a65c_remove_915e3_20 rfl (q := 3) rfl ?_
  obtain ⟨uu10, μ12, z11, h⟩ := cl_e h
  refine zx_callV (As := [.ref p4, .int x1]) hG mf_Jx4a65c_fastRemove_b59b0 cv_Jx4a65c_144 h1 ⟨by decide, by decide⟩ rfl rfl (Nat.le_of_ble_eq_true rfl) (s_Jx4a65c_fastRemove_b59b0 hG _ _ _ _ _ _ z11) (Nat.le_of_ble_eq_true rfl) dJx4a65c_remove_915e3_21 ?_
  refine zx_aload_n dJx4a65c_remove_915e3_24 rfl (q := 0) rfl ?_
  cases h
  exact zx_aret dJx4a65c_remove_915e3_25 rfl (Or.inl ⟨_, rfl⟩)
def f_X0_throwAwayFrom_b20 : Nat → Nat → Int32 → Int32 → Mm → Option (Unit × Mm)
  | 0, _, _, _, _ => none
  | n + 1, a0, x1, x2, μ =>
  if x2 < x1 then
    some ((), μ)
  else
    if x2 < 0 then
      some ((), μ)
    else
      ck (mK μ a0 = 101) <|
      bd (mR μ a0 4) fun p20 =>
      bd (mR μ a0 7) fun p22 =>
      ck (mK μ p22 = 100) <|
      bd (f_Jx4a65c_get_915e3 p22 x2 μ) fun p25 =>
      ck (mK μ p25 = 104) <|
      ck (mK μ p20 = 106) <|
      cl (f_X5_takeBack p20 p25 μ) fun _ μ31 =>
      ck (mK μ31 a0 = 101) <|
      bd (mR μ31 a0 7) fun p33 =>
      ck (mK μ31 p33 = 100) <|
      cl (f_Jx4a65c_remove_915e3 p33 x2 μ31) fun p36 μ38 =>
      ck (mK μ38 a0 = 101) <|
      bd (mR μ38 a0 2) fun p40 =>
      ck (mK μ38 p40 = 102) <|
      zl (sI μ38 p40 3 ((mI μ38 p40 3) + 1)) fun μ43 =>
      f_X0_throwAwayFrom_b20 n a0 x1 (x2 + (-1)) μ43
def f_X0_throwAwayFrom (a0 : Nat) (x1 : Int32) (μ : Mm) : Option (Unit × Mm) :=
  ck (mK μ a0 = 101) <|
  bd (mR μ a0 6) fun p2 =>
  ck (mK μ p2 = 105) <|
  bd (mR μ p2 0) fun p5 =>
  ck (mK μ p5 = 100) <|
  cl (f_Jx4a65c_clear_da8c8 p5 μ) fun _ μ10 =>
  ck (mK μ10 a0 = 101) <|
  bd (mR μ10 a0 7) fun p12 =>
  ck (mK μ10 p12 = 100) <|
  bd (f_Jx4a65c_size_8abf5 p12 μ10) fun y15 =>
  f_X0_throwAwayFrom_b20 5000 a0 x1 (y15 - 1) μ10
set_option maxRecDepth 100000 in
theorem s_X0_throwAwayFrom_b20 {l : Launch} {G : Gt} (hG : Gok l G) : ∀ (n : Nat) (a0 : Nat) (x1 : Int32) (x2 : Int32) (μ : Mm) (r : Unit) (μ' : Mm), f_X0_throwAwayFrom_b20 n a0 x1 x2 μ = some (r, μ') → ZX l G mX0_throwAwayFrom 20 [(0, .ref a0), (1, .int x1), (2, .int x2)] [] μ (.inl none) μ' := by
  intro n
  induction n with
  | zero =>
    intro a0 x1 x2 μ r μ' h
    cases h
  | succ n ih =>
    intro a0 x1 x2 μ r μ' h
    unfold f_X0_throwAwayFrom_b20 at h
    refine zx_iload_n dX0_throwAwayFrom_20 rfl (q := 2) rfl ?_
    refine zx_iload_n dX0_throwAwayFrom_21 rfl (q := 1) rfl ?_
    by_cases c17 : x2 < x1
    · have h := it_t c17 h
      refine zx_icmp_lt_t (tgt := 75) dX0_throwAwayFrom_22 (by decide) c17 ?_
      cases h
      exact zx_vret dX0_throwAwayFrom_75 rfl
    · have h := it_f c17 h
      refine zx_icmp_lt_f (tgt := 75) dX0_throwAwayFrom_22 (by decide) c17 ?_
      refine zx_iload_n dX0_throwAwayFrom_25 rfl (q := 2) rfl ?_
      by_cases c18 : x2 < 0
      · have h := it_t c18 h
        refine zx_if_lt_t (tgt := 75) dX0_throwAwayFrom_26 (by decide) c18 ?_
        cases h
        exact zx_vret dX0_throwAwayFrom_75 rfl
      · have h := it_f c18 h
        refine zx_if_lt_f (tgt := 75) dX0_throwAwayFrom_26 (by decide) c18 ?_
        refine zx_aload_n dX0_throwAwayFrom_29 rfl (q := 0) rfl ?_
        obtain ⟨h19, h⟩ := ck_e h
        obtain ⟨p20, h21, h⟩ := bd_e h
        refine zx_getR hG fl_X0_42 h19 h21 dX0_throwAwayFrom_30 ?_
        refine zx_aload_n dX0_throwAwayFrom_33 rfl (q := 0) rfl ?_
        obtain ⟨p22, h23, h⟩ := bd_e h
        refine zx_getR hG fl_X0_60 h19 h23 dX0_throwAwayFrom_34 ?_
        refine zx_iload_n dX0_throwAwayFrom_37 rfl (q := 2) rfl ?_
        obtain ⟨h24, h⟩ := ck_e h
        obtain ⟨p25, z26, h⟩ := bd_e h
        refine zx_callV (As := [.int x2]) hG mf_Jx4a65c_get_915e3 cv_X0_127 h24 ⟨by decide, by decide⟩ rfl rfl (Nat.le_of_ble_eq_true rfl) (s_Jx4a65c_get_915e3 hG _ _ _ _ z26) (Nat.le_of_ble_eq_true rfl) dX0_throwAwayFrom_38 ?_
        obtain ⟨h27, h⟩ := ck_e h
        refine zx_castO hG kt_X0_131 h27 dX0_throwAwayFrom_41 ?_
        obtain ⟨h28, h⟩ := ck_e h
        obtain ⟨uu29, μ31, z30, h⟩ := cl_e h
        refine zx_callV (As := [.ref p25]) hG mf_X5_takeBack cv_X0_243 h28 ⟨by decide, by decide⟩ rfl rfl (Nat.le_of_ble_eq_true rfl) (s_X5_takeBack hG _ _ _ _ _ z30) (Nat.le_of_ble_eq_true rfl) dX0_throwAwayFrom_44 ?_
        refine zx_aload_n dX0_throwAwayFrom_47 rfl (q := 0) rfl ?_
        obtain ⟨h32, h⟩ := ck_e h
        obtain ⟨p33, h34, h⟩ := bd_e h
        refine zx_getR hG fl_X0_60 h32 h34 dX0_throwAwayFrom_48 ?_
        refine zx_iload_n dX0_throwAwayFrom_51 rfl (q := 2) rfl ?_
        obtain ⟨h35, h⟩ := ck_e h
        obtain ⟨p36, μ38, z37, h⟩ := cl_e h
        refine zx_callV (As := [.int x2]) hG mf_Jx4a65c_remove_915e3 cv_X0_246 h35 ⟨by decide, by decide⟩ rfl rfl (Nat.le_of_ble_eq_true rfl) (s_Jx4a65c_remove_915e3 hG _ _ _ _ _ z37) (Nat.le_of_ble_eq_true rfl) dX0_throwAwayFrom_52 ?_
        refine zx_pop dX0_throwAwayFrom_55 rfl ?_
        refine zx_aload_n dX0_throwAwayFrom_56 rfl (q := 0) rfl ?_
        obtain ⟨h39, h⟩ := ck_e h
        obtain ⟨p40, h41, h⟩ := bd_e h
        refine zx_getR hG fl_X0_28 h39 h41 dX0_throwAwayFrom_57 ?_
        refine zx_dup dX0_throwAwayFrom_60 rfl ?_
        obtain ⟨h42, h⟩ := ck_e h
        refine zx_getI hG fl_X0_249 h42 dX0_throwAwayFrom_61 ?_
        refine zx_iconst (v := 1) dX0_throwAwayFrom_64 iv_iconst_1 ?_
        refine zx_iadd dX0_throwAwayFrom_65 ?_
        refine zx_putI hG fl_X0_249 fn_2_3 h42 dX0_throwAwayFrom_66 ?_
        obtain ⟨μ43, e45, h⟩ := zlm_e h
        refine zx_mem e45 ?_
        have e44 : mK μ43 = mK μ38 := (congrArg mK e45).trans rfl
        refine zx_iinc (q := 2) (v := x2 + (-1)) (L' := [(2, .int (x2 + (-1))), (0, .ref a0), (1, .int x1)]) dX0_throwAwayFrom_69 rfl rfl (by decide) rfl ?_
        refine zx_goto (tgt := 20) dX0_throwAwayFrom_72 (by decide) ?_
        refine zx_sub (L' := [(0, .ref a0), (1, .int x1), (2, .int (x2 + (-1)))]) [1, 2, 0] rfl ?_
        exact ih _ _ _ _ _ _ h
set_option maxRecDepth 100000 in
theorem s_X0_throwAwayFrom {l : Launch} {G : Gt} (hG : Gok l G) (a0 : Nat) (x1 : Int32) (μ : Mm) (r : Unit) (μ' : Mm) (h : f_X0_throwAwayFrom a0 x1 μ = some (r, μ')) : ZX l G mX0_throwAwayFrom 0 [(0, .ref a0), (1, .int x1)] [] μ (.inl none) μ' := by
  unfold f_X0_throwAwayFrom at h
  refine zx_aload_n dX0_throwAwayFrom_0 rfl (q := 0) rfl ?_
  obtain ⟨h1, h⟩ := ck_e h
  obtain ⟨p2, h3, h⟩ := bd_e h
  refine zx_getR hG fl_X0_56 h1 h3 dX0_throwAwayFrom_1 ?_
  obtain ⟨h4, h⟩ := ck_e h
  obtain ⟨p5, h6, h⟩ := bd_e h
  refine zx_getR hG fl_X0_237 h4 h6 dX0_throwAwayFrom_4 ?_
  obtain ⟨h7, h⟩ := ck_e h
  obtain ⟨uu8, μ10, z9, h⟩ := cl_e h
  refine zx_callV (As := []) hG mf_Jx4a65c_clear_da8c8 cv_X0_240 h7 ⟨by decide, by decide⟩ rfl rfl (Nat.le_of_ble_eq_true rfl) (s_Jx4a65c_clear_da8c8 hG _ _ _ _ z9) (Nat.le_of_ble_eq_true rfl) dX0_throwAwayFrom_7 ?_
  refine zx_aload_n dX0_throwAwayFrom_10 rfl (q := 0) rfl ?_
  obtain ⟨h11, h⟩ := ck_e h
  obtain ⟨p12, h13, h⟩ := bd_e h
  refine zx_getR hG fl_X0_60 h11 h13 dX0_throwAwayFrom_11 ?_
  obtain ⟨h14, h⟩ := ck_e h
  obtain ⟨y15, z16, h⟩ := bd_e h
  refine zx_callV (As := []) hG mf_Jx4a65c_size_8abf5 cv_X0_123 h14 ⟨by decide, by decide⟩ rfl rfl (Nat.le_of_ble_eq_true rfl) (s_Jx4a65c_size_8abf5 hG _ _ _ z16) (Nat.le_of_ble_eq_true rfl) dX0_throwAwayFrom_14 ?_
  refine zx_iconst (v := 1) dX0_throwAwayFrom_17 iv_iconst_1 ?_
  refine zx_isub dX0_throwAwayFrom_18 ?_
  refine zx_istore_n (L' := [(2, .int (y15 - 1)), (0, .ref a0), (1, .int x1)]) dX0_throwAwayFrom_19 rfl (by decide) rfl ?_
  refine zx_sub (L' := [(0, .ref a0), (1, .int x1), (2, .int (y15 - 1))]) [1, 2, 0] rfl ?_
  exact s_X0_throwAwayFrom_b20 hG 5000 _ _ _ _ _ _ h
def f_X4_goOn (a0 : Nat) (x1 : Int32) (a2 : Nat) (μ : Mm) : Option (Unit × Mm) :=
  ck (mK μ a0 = 105) <|
  zl (sI μ a0 4 x1) fun μ2 =>
  zl (sR μ2 a0 3 (some a2)) fun μ5 =>
  zl (sI μ5 a0 5 0) fun μ8 =>
  some ((), μ8)
set_option maxRecDepth 100000 in
theorem s_X4_goOn {l : Launch} {G : Gt} (hG : Gok l G) (a0 : Nat) (x1 : Int32) (a2 : Nat) (μ : Mm) (r : Unit) (μ' : Mm) (h : f_X4_goOn a0 x1 a2 μ = some (r, μ')) : ZX l G mX4_goOn 0 [(0, .ref a0), (1, .int x1), (2, .ref a2)] [] μ (.inl none) μ' := by
  unfold f_X4_goOn at h
  refine zx_aload_n dX4_goOn_0 rfl (q := 0) rfl ?_
  refine zx_iload_n dX4_goOn_1 rfl (q := 1) rfl ?_
  obtain ⟨h1, h⟩ := ck_e h
  refine zx_putI hG fl_X4_28 fn_5_4 h1 dX4_goOn_2 ?_
  obtain ⟨μ2, e4, h⟩ := zlm_e h
  refine zx_mem e4 ?_
  have e3 : mK μ2 = mK μ := (congrArg mK e4).trans rfl
  refine zx_aload_n dX4_goOn_5 rfl (q := 0) rfl ?_
  refine zx_aload_n dX4_goOn_6 rfl (q := 2) rfl ?_
  refine zx_putR hG fl_X4_25 fn_5_3 (kp_o (e3) h1) dX4_goOn_7 ?_
  obtain ⟨μ5, e7, h⟩ := zlm_e h
  refine zx_mem e7 ?_
  have e6 : mK μ5 = mK μ2 := (congrArg mK e7).trans rfl
  refine zx_aload_n dX4_goOn_10 rfl (q := 0) rfl ?_
  refine zx_iconst (v := 0) dX4_goOn_11 iv_iconst_0 ?_
  refine zx_putZ hG fl_X4_32 fn_5_5 (kp_o (Eq.trans e6 e3) h1) zb_0 dX4_goOn_12 ?_
  obtain ⟨μ8, e10, h⟩ := zlm_e h
  refine zx_mem e10 ?_
  have e9 : mK μ8 = mK μ5 := (congrArg mK e10).trans rfl
  cases h
  exact zx_vret dX4_goOn_15 rfl
def f_X0_checkGuess_b25 (a0 : Nat) (a1 : Nat) (x2 : Int32) (s0 : Int32) (μ : Mm) : Option (Unit × Mm) :=
  if s0 = 0 then
    some ((), μ)
  else
    ck (mK μ a1 = 104) <|
    if ¬ (mI μ a1 12) = 0 then
      some ((), μ)
    else
      if (mI μ a1 14) = (mI μ a1 2) then
        some ((), μ)
      else
        ck (mK μ a0 = 101) <|
        bd (mR μ a0 2) fun p19 =>
        ck (mK μ p19 = 102) <|
        zl (sI μ p19 1 ((mI μ p19 1) + 1)) fun μ22 =>
        cl (f_X0_throwAwayFrom a0 (x2 + 1) μ22) fun _ μ27 =>
        ck (mK μ27 a0 = 101) <|
        bd (mR μ27 a0 6) fun p29 =>
        ck (mK μ27 a1 = 104) <|
        bd (mR μ27 a1 3) fun p32 =>
        ck (mK μ27 p29 = 105) <|
        cl (f_X4_goOn p29 (mI μ27 a1 14) p32 μ27) fun _ μ37 =>
        some ((), μ37)
def f_X0_checkGuess_b20 (a0 : Nat) (a1 : Nat) (x2 : Int32) (μ : Mm) : Option (Unit × Mm) :=
  f_X0_checkGuess_b25 a0 a1 x2 1 μ
def f_X0_checkGuess (a0 : Nat) (a1 : Nat) (x2 : Int32) (μ : Mm) : Option (Unit × Mm) :=
  ck (mK μ a1 = 104) <|
  bd (mR μ a1 0) fun p2 =>
  ck (mK μ p2 = 107) <|
  bd (f_X6_isQuestion p2 μ) fun y5 =>
  if ¬ y5 = 0 then
    f_X0_checkGuess_b20 a0 a1 x2 μ
  else
    bd (mR μ a1 0) fun p8 =>
    ck (mK μ p8 = 107) <|
    bd (f_X6_isLeap p8 μ) fun y11 =>
    if y11 = 0 then
      f_X0_checkGuess_b25 a0 a1 x2 0 μ
    else
      f_X0_checkGuess_b20 a0 a1 x2 μ
set_option maxRecDepth 100000 in
theorem s_X0_checkGuess_b25 {l : Launch} {G : Gt} (hG : Gok l G) (a0 : Nat) (a1 : Nat) (x2 : Int32) (s0 : Int32) (μ : Mm) (r : Unit) (μ' : Mm) (h : f_X0_checkGuess_b25 a0 a1 x2 s0 μ = some (r, μ')) : ZX l G mX0_checkGuess 25 [(0, .ref a0), (1, .ref a1), (2, .int x2)] [.int s0] μ (.inl none) μ' := by
  unfold f_X0_checkGuess_b25 at h
  refine zx_istore_n (L' := [(3, .int s0), (0, .ref a0), (1, .ref a1), (2, .int x2)]) dX0_checkGuess_25 rfl (by decide) rfl ?_
  refine zx_iload_n dX0_checkGuess_26 rfl (q := 0) rfl ?_
  by_cases c14 : s0 = 0
  · have h := it_t c14 h
    refine zx_if_eq_t (tgt := 83) dX0_checkGuess_27 (by decide) c14 ?_
    cases h
    exact zx_vret dX0_checkGuess_83 rfl
  · have h := it_f c14 h
    refine zx_if_eq_f (tgt := 83) dX0_checkGuess_27 (by decide) c14 ?_
    refine zx_aload_n dX0_checkGuess_30 rfl (q := 2) rfl ?_
    obtain ⟨h15, h⟩ := ck_e h
    refine zx_getI hG fl_X0_192 h15 dX0_checkGuess_31 ?_
    by_cases c16 : ¬ (mI μ a1 12) = 0
    · have h := it_t c16 h
      refine zx_if_ne_t (tgt := 83) dX0_checkGuess_34 (by decide) c16 ?_
      cases h
      exact zx_vret dX0_checkGuess_83 rfl
    · have h := it_f c16 h
      refine zx_if_ne_f (tgt := 83) dX0_checkGuess_34 (by decide) (Classical.not_not.mp c16) ?_
      refine zx_aload_n dX0_checkGuess_37 rfl (q := 2) rfl ?_
      refine zx_getI hG fl_X0_195 h15 dX0_checkGuess_38 ?_
      refine zx_aload_n dX0_checkGuess_41 rfl (q := 2) rfl ?_
      refine zx_getI hG fl_X0_198 h15 dX0_checkGuess_42 ?_
      by_cases c17 : (mI μ a1 14) = (mI μ a1 2)
      · have h := it_t c17 h
        refine zx_icmp_eq_t (tgt := 83) dX0_checkGuess_45 (by decide) c17 ?_
        cases h
        exact zx_vret dX0_checkGuess_83 rfl
      · have h := it_f c17 h
        refine zx_icmp_eq_f (tgt := 83) dX0_checkGuess_45 (by decide) c17 ?_
        refine zx_aload_n dX0_checkGuess_48 rfl (q := 1) rfl ?_
        obtain ⟨h18, h⟩ := ck_e h
        obtain ⟨p19, h20, h⟩ := bd_e h
        refine zx_getR hG fl_X0_28 h18 h20 dX0_checkGuess_49 ?_
        refine zx_dup dX0_checkGuess_52 rfl ?_
        obtain ⟨h21, h⟩ := ck_e h
        refine zx_getI hG fl_X0_201 h21 dX0_checkGuess_53 ?_
        refine zx_iconst (v := 1) dX0_checkGuess_56 iv_iconst_1 ?_
        refine zx_iadd dX0_checkGuess_57 ?_
        refine zx_putI hG fl_X0_201 fn_2_1 h21 dX0_checkGuess_58 ?_
        obtain ⟨μ22, e24, h⟩ := zlm_e h
        refine zx_mem e24 ?_
        have e23 : mK μ22 = mK μ := (congrArg mK e24).trans rfl
        refine zx_aload_n dX0_checkGuess_61 rfl (q := 1) rfl ?_
        refine zx_iload_n dX0_checkGuess_62 rfl (q := 3) rfl ?_
        refine zx_iconst (v := 1) dX0_checkGuess_63 iv_iconst_1 ?_
        refine zx_iadd dX0_checkGuess_64 ?_
        obtain ⟨uu25, μ27, z26, h⟩ := cl_e h
        refine zx_callV (As := [.int (x2 + 1)]) hG mf_X0_throwAwayFrom cv_X0_204 (kp_o (e23) h18) ⟨by decide, by decide⟩ rfl rfl (Nat.le_of_ble_eq_true rfl) (s_X0_throwAwayFrom hG _ _ _ _ _ z26) (Nat.le_of_ble_eq_true rfl) dX0_checkGuess_65 ?_
        refine zx_aload_n dX0_checkGuess_68 rfl (q := 1) rfl ?_
        obtain ⟨h28, h⟩ := ck_e h
        obtain ⟨p29, h30, h⟩ := bd_e h
        refine zx_getR hG fl_X0_56 h28 h30 dX0_checkGuess_69 ?_
        refine zx_aload_n dX0_checkGuess_72 rfl (q := 2) rfl ?_
        obtain ⟨h31, h⟩ := ck_e h
        refine zx_getI hG fl_X0_195 h31 dX0_checkGuess_73 ?_
        refine zx_aload_n dX0_checkGuess_76 rfl (q := 2) rfl ?_
        obtain ⟨p32, h33, h⟩ := bd_e h
        refine zx_getR hG fl_X0_207 h31 h33 dX0_checkGuess_77 ?_
        obtain ⟨h34, h⟩ := ck_e h
        obtain ⟨uu35, μ37, z36, h⟩ := cl_e h
        refine zx_callV (As := [.int (mI μ27 a1 14), .ref p32]) hG mf_X4_goOn cv_X0_210 h34 ⟨by decide, by decide⟩ rfl rfl (Nat.le_of_ble_eq_true rfl) (s_X4_goOn hG _ _ _ _ _ _ z36) (Nat.le_of_ble_eq_true rfl) dX0_checkGuess_80 ?_
        cases h
        exact zx_vret dX0_checkGuess_83 rfl
set_option maxRecDepth 100000 in
theorem s_X0_checkGuess_b20 {l : Launch} {G : Gt} (hG : Gok l G) (a0 : Nat) (a1 : Nat) (x2 : Int32) (μ : Mm) (r : Unit) (μ' : Mm) (h : f_X0_checkGuess_b20 a0 a1 x2 μ = some (r, μ')) : ZX l G mX0_checkGuess 20 [(0, .ref a0), (1, .ref a1), (2, .int x2)] [] μ (.inl none) μ' := by
  unfold f_X0_checkGuess_b20 at h
  refine zx_iconst (v := 1) dX0_checkGuess_20 iv_iconst_1 ?_
  refine zx_goto (tgt := 25) dX0_checkGuess_21 (by decide) ?_
  exact s_X0_checkGuess_b25 hG _ _ _ _ _ _ _ h
set_option maxRecDepth 100000 in
theorem s_X0_checkGuess {l : Launch} {G : Gt} (hG : Gok l G) (a0 : Nat) (a1 : Nat) (x2 : Int32) (μ : Mm) (r : Unit) (μ' : Mm) (h : f_X0_checkGuess a0 a1 x2 μ = some (r, μ')) : ZX l G mX0_checkGuess 0 [(0, .ref a0), (1, .ref a1), (2, .int x2)] [] μ (.inl none) μ' := by
  unfold f_X0_checkGuess at h
  refine zx_aload_n dX0_checkGuess_0 rfl (q := 1) rfl ?_
  obtain ⟨h1, h⟩ := ck_e h
  obtain ⟨p2, h3, h⟩ := bd_e h
  refine zx_getR hG fl_X0_161 h1 h3 dX0_checkGuess_1 ?_
  obtain ⟨h4, h⟩ := ck_e h
  obtain ⟨y5, z6, h⟩ := bd_e h
  refine zx_callV (As := []) hG mf_X6_isQuestion cv_X0_186 h4 ⟨by decide, by decide⟩ rfl rfl (Nat.le_of_ble_eq_true rfl) (s_X6_isQuestion hG _ _ _ z6) (Nat.le_of_ble_eq_true rfl) dX0_checkGuess_4 ?_
  by_cases c7 : ¬ y5 = 0
  · have h := it_t c7 h
    refine zx_if_ne_t (tgt := 20) dX0_checkGuess_7 (by decide) c7 ?_
    exact s_X0_checkGuess_b20 hG _ _ _ _ _ _ h
  · have h := it_f c7 h
    refine zx_if_ne_f (tgt := 20) dX0_checkGuess_7 (by decide) (Classical.not_not.mp c7) ?_
    refine zx_aload_n dX0_checkGuess_10 rfl (q := 1) rfl ?_
    obtain ⟨p8, h9, h⟩ := bd_e h
    refine zx_getR hG fl_X0_161 h1 h9 dX0_checkGuess_11 ?_
    obtain ⟨h10, h⟩ := ck_e h
    obtain ⟨y11, z12, h⟩ := bd_e h
    refine zx_callV (As := []) hG mf_X6_isLeap cv_X0_189 h10 ⟨by decide, by decide⟩ rfl rfl (Nat.le_of_ble_eq_true rfl) (s_X6_isLeap hG _ _ _ z12) (Nat.le_of_ble_eq_true rfl) dX0_checkGuess_14 ?_
    by_cases c13 : y11 = 0
    · have h := it_t c13 h
      refine zx_if_eq_t (tgt := 24) dX0_checkGuess_17 (by decide) c13 ?_
      refine zx_iconst (v := 0) dX0_checkGuess_24 iv_iconst_0 ?_
      exact s_X0_checkGuess_b25 hG _ _ _ _ _ _ _ h
    · have h := it_f c13 h
      refine zx_if_eq_f (tgt := 24) dX0_checkGuess_17 (by decide) c13 ?_
      exact s_X0_checkGuess_b20 hG _ _ _ _ _ _ h
def f_X6_isStore_b18 (μ : Mm) : Option Int32 :=
  some 1
def f_X6_isStore (a0 : Nat) (μ : Mm) : Option Int32 :=
  ck (mK μ a0 = 107) <|
  if (mI μ a0 1) = 10 then
    f_X6_isStore_b18 μ
  else
    if ¬ (mI μ a0 1) = 11 then
      some 0
    else
      f_X6_isStore_b18 μ
set_option maxRecDepth 100000 in
theorem s_X6_isStore_b18 {l : Launch} {G : Gt} (hG : Gok l G) (μ : Mm) (r : Int32) (h : f_X6_isStore_b18 μ = some r) : ZX l G mX6_isStore 18 [] [] μ (.inl (some (.int r))) μ := by
  unfold f_X6_isStore_b18 at h
  refine zx_iconst (v := 1) dX6_isStore_18 iv_iconst_1 ?_
  refine zx_goto (tgt := 23) dX6_isStore_19 (by decide) ?_
  cases h
  exact zx_zretZ dX6_isStore_23 rfl zb_1
set_option maxRecDepth 100000 in
theorem s_X6_isStore {l : Launch} {G : Gt} (hG : Gok l G) (a0 : Nat) (μ : Mm) (r : Int32) (h : f_X6_isStore a0 μ = some r) : ZX l G mX6_isStore 0 [(0, .ref a0)] [] μ (.inl (some (.int r))) μ := by
  unfold f_X6_isStore at h
  refine zx_aload_n dX6_isStore_0 rfl (q := 0) rfl ?_
  obtain ⟨h1, h⟩ := ck_e h
  refine zx_getI hG fl_X6_15 h1 dX6_isStore_1 ?_
  refine zx_bipush (v := 10) dX6_isStore_4 iv_bipush_10 ?_
  by_cases c2 : (mI μ a0 1) = 10
  · have h := it_t c2 h
    refine zx_icmp_eq_t (tgt := 18) dX6_isStore_6 (by decide) c2 ?_
    refine zx_sub (L' := []) [] rfl ?_
    exact s_X6_isStore_b18 hG _ _ h
  · have h := it_f c2 h
    refine zx_icmp_eq_f (tgt := 18) dX6_isStore_6 (by decide) c2 ?_
    refine zx_aload_n dX6_isStore_9 rfl (q := 0) rfl ?_
    refine zx_getI hG fl_X6_15 h1 dX6_isStore_10 ?_
    refine zx_bipush (v := 11) dX6_isStore_13 iv_bipush_11 ?_
    by_cases c3 : ¬ (mI μ a0 1) = 11
    · have h := it_t c3 h
      refine zx_icmp_ne_t (tgt := 22) dX6_isStore_15 (by decide) c3 ?_
      refine zx_iconst (v := 0) dX6_isStore_22 iv_iconst_0 ?_
      cases h
      exact zx_zretZ dX6_isStore_23 rfl zb_0
    · have h := it_f c3 h
      refine zx_icmp_ne_f (tgt := 22) dX6_isStore_15 (by decide) (Classical.not_not.mp c3) ?_
      refine zx_sub (L' := []) [] rfl ?_
      exact s_X6_isStore_b18 hG _ _ h
def f_X0_checkLoads_b93 (a0 : Nat) (x3 : Int32) (a4 : Nat) (μ : Mm) : Option (Unit × Mm) :=
  ck (mK μ a0 = 101) <|
  bd (mR μ a0 2) fun p31 =>
  ck (mK μ p31 = 102) <|
  zl (sI μ p31 2 ((mI μ p31 2) + 1)) fun μ34 =>
  bd (mR μ34 a0 10) fun p37 =>
  ck (mK μ34 a4 = 104) <|
  bd (mR μ34 a4 0) fun p40 =>
  ck (mK μ34 p40 = 107) <|
  bd (f_J9_floorMod_7cf53 (mI μ34 p40 0) 16) fun y43 =>
  ck (isA 2 (mK μ34 p37)) <|
  ck (inb y43 (mL μ34 p37)) <|
  zl (sI μ34 p37 (Int32.toNatClampNeg y43) 1) fun μ47 =>
  cl (f_X0_throwAwayFrom a0 x3 μ47) fun _ μ52 =>
  ck (mK μ52 a0 = 101) <|
  bd (mR μ52 a0 6) fun p54 =>
  ck (mK μ52 a4 = 104) <|
  bd (mR μ52 a4 0) fun p57 =>
  ck (mK μ52 p57 = 107) <|
  bd (mR μ52 a4 3) fun p60 =>
  ck (mK μ52 p54 = 105) <|
  cl (f_X4_goOn p54 (mI μ52 p57 0) p60 μ52) fun _ μ65 =>
  some ((), μ65)
def f_X0_checkLoads_b151 (k22 : Nat → Nat → Int32 → Mm → Option (Unit × Mm)) (a0 : Nat) (a1 : Nat) (x3 : Int32) (μ : Mm) : Option (Unit × Mm) :=
  k22 a0 a1 (x3 + 1) μ
def f_X0_checkLoads_b22 : Nat → Nat → Nat → Int32 → Mm → Option (Unit × Mm)
  | 0, _, _, _, _ => none
  | n + 1, a0, a1, x3, μ =>
  ck (mK μ a0 = 101) <|
  bd (mR μ a0 7) fun p10 =>
  ck (mK μ p10 = 100) <|
  bd (f_Jx4a65c_size_8abf5 p10 μ) fun y13 =>
  if y13 ≤ x3 then
    some ((), μ)
  else
    bd (mR μ a0 7) fun p16 =>
    ck (mK μ p16 = 100) <|
    bd (f_Jx4a65c_get_915e3 p16 x3 μ) fun p19 =>
    ck (mK μ p19 = 104) <|
    bd (mR μ p19 0) fun p22 =>
    ck (mK μ p22 = 107) <|
    if ¬ (mI μ p22 1) = 9 then
      f_X0_checkLoads_b151 (f_X0_checkLoads_b22 n) a0 a1 x3 μ
    else
      if (zc (mI μ p19 5)) = 113 then
        f_X0_checkLoads_b151 (f_X0_checkLoads_b22 n) a0 a1 x3 μ
      else
        ck (mK μ a1 = 104) <|
        if ¬ (mI μ p19 11) = (mI μ a1 11) then
          f_X0_checkLoads_b151 (f_X0_checkLoads_b22 n) a0 a1 x3 μ
        else
          if (mI μ a1 1) ≤ (mI μ p19 16) then
            f_X0_checkLoads_b151 (f_X0_checkLoads_b22 n) a0 a1 x3 μ
          else
            f_X0_checkLoads_b93 a0 x3 p19 μ
def f_X0_checkLoads (a0 : Nat) (a1 : Nat) (x2 : Int32) (μ : Mm) : Option (Unit × Mm) :=
  ck (mK μ a1 = 104) <|
  bd (mR μ a1 0) fun p2 =>
  ck (mK μ p2 = 107) <|
  bd (f_X6_isStore p2 μ) fun y5 =>
  if y5 = 0 then
    some ((), μ)
  else
    if (mI μ a1 12) = 0 then
      f_X0_checkLoads_b22 5000 a0 a1 (x2 + 1) μ
    else
      some ((), μ)
set_option maxRecDepth 100000 in
theorem s_X0_checkLoads_b93 {l : Launch} {G : Gt} (hG : Gok l G) (a0 : Nat) (x3 : Int32) (a4 : Nat) (μ : Mm) (r : Unit) (μ' : Mm) (h : f_X0_checkLoads_b93 a0 x3 a4 μ = some (r, μ')) : ZX l G mX0_checkLoads 93 [(0, .ref a0), (3, .int x3), (4, .ref a4)] [] μ (.inl none) μ' := by
  unfold f_X0_checkLoads_b93 at h
  refine zx_aload_n dX0_checkLoads_93 rfl (q := 0) rfl ?_
  obtain ⟨h30, h⟩ := ck_e h
  obtain ⟨p31, h32, h⟩ := bd_e h
  refine zx_getR hG fl_X0_28 h30 h32 dX0_checkLoads_94 ?_
  refine zx_dup dX0_checkLoads_97 rfl ?_
  obtain ⟨h33, h⟩ := ck_e h
  refine zx_getI hG fl_X0_220 h33 dX0_checkLoads_98 ?_
  refine zx_iconst (v := 1) dX0_checkLoads_101 iv_iconst_1 ?_
  refine zx_iadd dX0_checkLoads_102 ?_
  refine zx_putI hG fl_X0_220 fn_2_2 h33 dX0_checkLoads_103 ?_
  obtain ⟨μ34, e36, h⟩ := zlm_e h
  refine zx_mem e36 ?_
  have e35 : mK μ34 = mK μ := (congrArg mK e36).trans rfl
  refine zx_aload_n dX0_checkLoads_106 rfl (q := 0) rfl ?_
  obtain ⟨p37, h38, h⟩ := bd_e h
  refine zx_getR hG fl_X0_70 (kp_o (e35) h30) h38 dX0_checkLoads_107 ?_
  refine zx_aload dX0_checkLoads_110 (q := 2) rfl ?_
  obtain ⟨h39, h⟩ := ck_e h
  obtain ⟨p40, h41, h⟩ := bd_e h
  refine zx_getR hG fl_X0_161 h39 h41 dX0_checkLoads_112 ?_
  obtain ⟨h42, h⟩ := ck_e h
  refine zx_getI hG fl_X0_223 h42 dX0_checkLoads_115 ?_
  refine zx_bipush (v := 16) dX0_checkLoads_118 iv_bipush_16 ?_
  obtain ⟨y43, z44, h⟩ := bd_e h
  refine zx_callS (As := [.int (mI μ34 p40 0), .int 16]) hG mf_J9_floorMod_7cf53 cs_X0_224 ⟨by decide, by decide⟩ rfl rfl (Nat.le_of_ble_eq_true rfl) (s_J9_floorMod_7cf53 hG _ _ _ _ z44) (Nat.le_of_ble_eq_true rfl) dX0_checkLoads_120 ?_
  refine zx_iconst (v := 1) dX0_checkLoads_123 iv_iconst_1 ?_
  obtain ⟨h45, h⟩ := ck_e h
  obtain ⟨h46, h⟩ := ck_e h
  refine zx_zast hG rfl (h45).1 (h45).2 (inb_e h46) dX0_checkLoads_124 ?_
  obtain ⟨μ47, e49, h⟩ := zlm_e h
  refine zx_mem e49 ?_
  have e48 : mK μ47 = mK μ34 := (congrArg mK e49).trans rfl
  refine zx_aload_n dX0_checkLoads_125 rfl (q := 0) rfl ?_
  refine zx_iload_n dX0_checkLoads_126 rfl (q := 1) rfl ?_
  obtain ⟨uu50, μ52, z51, h⟩ := cl_e h
  refine zx_callV (As := [.int x3]) hG mf_X0_throwAwayFrom cv_X0_204 (kp_o (Eq.trans e48 e35) h30) ⟨by decide, by decide⟩ rfl rfl (Nat.le_of_ble_eq_true rfl) (s_X0_throwAwayFrom hG _ _ _ _ _ z51) (Nat.le_of_ble_eq_true rfl) dX0_checkLoads_127 ?_
  refine zx_aload_n dX0_checkLoads_130 rfl (q := 0) rfl ?_
  obtain ⟨h53, h⟩ := ck_e h
  obtain ⟨p54, h55, h⟩ := bd_e h
  refine zx_getR hG fl_X0_56 h53 h55 dX0_checkLoads_131 ?_
  refine zx_aload dX0_checkLoads_134 (q := 2) rfl ?_
  obtain ⟨h56, h⟩ := ck_e h
  obtain ⟨p57, h58, h⟩ := bd_e h
  refine zx_getR hG fl_X0_161 h56 h58 dX0_checkLoads_136 ?_
  obtain ⟨h59, h⟩ := ck_e h
  refine zx_getI hG fl_X0_223 h59 dX0_checkLoads_139 ?_
  refine zx_aload dX0_checkLoads_142 (q := 2) rfl ?_
  obtain ⟨p60, h61, h⟩ := bd_e h
  refine zx_getR hG fl_X0_207 h56 h61 dX0_checkLoads_144 ?_
  obtain ⟨h62, h⟩ := ck_e h
  obtain ⟨uu63, μ65, z64, h⟩ := cl_e h
  refine zx_callV (As := [.int (mI μ52 p57 0), .ref p60]) hG mf_X4_goOn cv_X0_210 h62 ⟨by decide, by decide⟩ rfl rfl (Nat.le_of_ble_eq_true rfl) (s_X4_goOn hG _ _ _ _ _ _ z64) (Nat.le_of_ble_eq_true rfl) dX0_checkLoads_147 ?_
  cases h
  exact zx_vret dX0_checkLoads_150 rfl
set_option maxRecDepth 100000 in
theorem s_X0_checkLoads_b151 {l : Launch} {G : Gt} (hG : Gok l G) {k22 : Nat → Nat → Int32 → Mm → Option (Unit × Mm)} (hk22 : ∀ (a0 : Nat) (a1 : Nat) (x3 : Int32) (μ : Mm) (r : Unit) (μ' : Mm), k22 a0 a1 x3 μ = some (r, μ') → ZX l G mX0_checkLoads 22 [(0, .ref a0), (1, .ref a1), (3, .int x3)] [] μ (.inl none) μ') (a0 : Nat) (a1 : Nat) (x3 : Int32) (μ : Mm) (r : Unit) (μ' : Mm) (h : f_X0_checkLoads_b151 k22 a0 a1 x3 μ = some (r, μ')) : ZX l G mX0_checkLoads 151 [(0, .ref a0), (1, .ref a1), (3, .int x3)] [] μ (.inl none) μ' := by
  unfold f_X0_checkLoads_b151 at h
  refine zx_iinc (q := 2) (v := x3 + 1) (L' := [(3, .int (x3 + 1)), (0, .ref a0), (1, .ref a1)]) dX0_checkLoads_151 rfl rfl (by decide) rfl ?_
  refine zx_goto (tgt := 22) dX0_checkLoads_154 (by decide) ?_
  refine zx_sub (L' := [(0, .ref a0), (1, .ref a1), (3, .int (x3 + 1))]) [1, 2, 0] rfl ?_
  exact hk22 _ _ _ _ _ _ h
set_option maxRecDepth 100000 in
theorem s_X0_checkLoads_b22 {l : Launch} {G : Gt} (hG : Gok l G) : ∀ (n : Nat) (a0 : Nat) (a1 : Nat) (x3 : Int32) (μ : Mm) (r : Unit) (μ' : Mm), f_X0_checkLoads_b22 n a0 a1 x3 μ = some (r, μ') → ZX l G mX0_checkLoads 22 [(0, .ref a0), (1, .ref a1), (3, .int x3)] [] μ (.inl none) μ' := by
  intro n
  induction n with
  | zero =>
    intro a0 a1 x3 μ r μ' h
    cases h
  | succ n ih =>
    intro a0 a1 x3 μ r μ' h
    unfold f_X0_checkLoads_b22 at h
    refine zx_iload_n dX0_checkLoads_22 rfl (q := 2) rfl ?_
    refine zx_aload_n dX0_checkLoads_23 rfl (q := 0) rfl ?_
    obtain ⟨h9, h⟩ := ck_e h
    obtain ⟨p10, h11, h⟩ := bd_e h
    refine zx_getR hG fl_X0_60 h9 h11 dX0_checkLoads_24 ?_
    obtain ⟨h12, h⟩ := ck_e h
    obtain ⟨y13, z14, h⟩ := bd_e h
    refine zx_callV (As := []) hG mf_Jx4a65c_size_8abf5 cv_X0_123 h12 ⟨by decide, by decide⟩ rfl rfl (Nat.le_of_ble_eq_true rfl) (s_Jx4a65c_size_8abf5 hG _ _ _ z14) (Nat.le_of_ble_eq_true rfl) dX0_checkLoads_27 ?_
    by_cases c15 : y13 ≤ x3
    · have h := it_t c15 h
      refine zx_icmp_ge_t (tgt := 157) dX0_checkLoads_30 (by decide) c15 ?_
      cases h
      exact zx_vret dX0_checkLoads_157 rfl
    · have h := it_f c15 h
      refine zx_icmp_ge_f (tgt := 157) dX0_checkLoads_30 (by decide) c15 ?_
      refine zx_aload_n dX0_checkLoads_33 rfl (q := 0) rfl ?_
      obtain ⟨p16, h17, h⟩ := bd_e h
      refine zx_getR hG fl_X0_60 h9 h17 dX0_checkLoads_34 ?_
      refine zx_iload_n dX0_checkLoads_37 rfl (q := 2) rfl ?_
      obtain ⟨h18, h⟩ := ck_e h
      obtain ⟨p19, z20, h⟩ := bd_e h
      refine zx_callV (As := [.int x3]) hG mf_Jx4a65c_get_915e3 cv_X0_127 h18 ⟨by decide, by decide⟩ rfl rfl (Nat.le_of_ble_eq_true rfl) (s_Jx4a65c_get_915e3 hG _ _ _ _ z20) (Nat.le_of_ble_eq_true rfl) dX0_checkLoads_38 ?_
      obtain ⟨h21, h⟩ := ck_e h
      refine zx_castO hG kt_X0_131 h21 dX0_checkLoads_41 ?_
      refine zx_astore (L' := [(4, .ref p19), (0, .ref a0), (1, .ref a1), (3, .int x3)]) dX0_checkLoads_44 (by decide) rfl ?_
      refine zx_aload dX0_checkLoads_46 (q := 0) rfl ?_
      obtain ⟨p22, h23, h⟩ := bd_e h
      refine zx_getR hG fl_X0_161 h21 h23 dX0_checkLoads_48 ?_
      obtain ⟨h24, h⟩ := ck_e h
      refine zx_getI hG fl_X0_165 h24 dX0_checkLoads_51 ?_
      refine zx_bipush (v := 9) dX0_checkLoads_54 iv_bipush_9 ?_
      by_cases c25 : ¬ (mI μ p22 1) = 9
      · have h := it_t c25 h
        refine zx_icmp_ne_t (tgt := 151) dX0_checkLoads_56 (by decide) c25 ?_
        refine zx_sub (L' := [(0, .ref a0), (1, .ref a1), (3, .int x3)]) [1, 2, 3] rfl ?_
        exact s_X0_checkLoads_b151 hG ih _ _ _ _ _ _ h
      · have h := it_f c25 h
        refine zx_icmp_ne_f (tgt := 151) dX0_checkLoads_56 (by decide) (Classical.not_not.mp c25) ?_
        refine zx_aload dX0_checkLoads_59 (q := 0) rfl ?_
        refine zx_getC hG fl_X0_133 h21 dX0_checkLoads_61 ?_
        refine zx_bipush (v := 113) dX0_checkLoads_64 iv_bipush_113 ?_
        by_cases c26 : (zc (mI μ p19 5)) = 113
        · have h := it_t c26 h
          refine zx_icmp_eq_t (tgt := 151) dX0_checkLoads_66 (by decide) c26 ?_
          refine zx_sub (L' := [(0, .ref a0), (1, .ref a1), (3, .int x3)]) [1, 2, 3] rfl ?_
          exact s_X0_checkLoads_b151 hG ih _ _ _ _ _ _ h
        · have h := it_f c26 h
          refine zx_icmp_eq_f (tgt := 151) dX0_checkLoads_66 (by decide) c26 ?_
          refine zx_aload dX0_checkLoads_69 (q := 0) rfl ?_
          refine zx_getI hG fl_X0_137 h21 dX0_checkLoads_71 ?_
          refine zx_aload_n dX0_checkLoads_74 rfl (q := 2) rfl ?_
          obtain ⟨h27, h⟩ := ck_e h
          refine zx_getI hG fl_X0_137 h27 dX0_checkLoads_75 ?_
          by_cases c28 : ¬ (mI μ p19 11) = (mI μ a1 11)
          · have h := it_t c28 h
            refine zx_icmp_ne_t (tgt := 151) dX0_checkLoads_78 (by decide) c28 ?_
            refine zx_sub (L' := [(0, .ref a0), (1, .ref a1), (3, .int x3)]) [1, 2, 3] rfl ?_
            exact s_X0_checkLoads_b151 hG ih _ _ _ _ _ _ h
          · have h := it_f c28 h
            refine zx_icmp_ne_f (tgt := 151) dX0_checkLoads_78 (by decide) (Classical.not_not.mp c28) ?_
            refine zx_aload dX0_checkLoads_81 (q := 0) rfl ?_
            refine zx_getI hG fl_X0_170 h21 dX0_checkLoads_83 ?_
            refine zx_aload_n dX0_checkLoads_86 rfl (q := 2) rfl ?_
            refine zx_getI hG fl_X0_217 h27 dX0_checkLoads_87 ?_
            by_cases c29 : (mI μ a1 1) ≤ (mI μ p19 16)
            · have h := it_t c29 h
              refine zx_icmp_ge_t (tgt := 151) dX0_checkLoads_90 (by decide) c29 ?_
              refine zx_sub (L' := [(0, .ref a0), (1, .ref a1), (3, .int x3)]) [1, 2, 3] rfl ?_
              exact s_X0_checkLoads_b151 hG ih _ _ _ _ _ _ h
            · have h := it_f c29 h
              refine zx_icmp_ge_f (tgt := 151) dX0_checkLoads_90 (by decide) c29 ?_
              refine zx_sub (L' := [(0, .ref a0), (3, .int x3), (4, .ref p19)]) [1, 3, 0] rfl ?_
              exact s_X0_checkLoads_b93 hG _ _ _ _ _ _ h
set_option maxRecDepth 100000 in
theorem s_X0_checkLoads {l : Launch} {G : Gt} (hG : Gok l G) (a0 : Nat) (a1 : Nat) (x2 : Int32) (μ : Mm) (r : Unit) (μ' : Mm) (h : f_X0_checkLoads a0 a1 x2 μ = some (r, μ')) : ZX l G mX0_checkLoads 0 [(0, .ref a0), (1, .ref a1), (2, .int x2)] [] μ (.inl none) μ' := by
  unfold f_X0_checkLoads at h
  refine zx_aload_n dX0_checkLoads_0 rfl (q := 1) rfl ?_
  obtain ⟨h1, h⟩ := ck_e h
  obtain ⟨p2, h3, h⟩ := bd_e h
  refine zx_getR hG fl_X0_161 h1 h3 dX0_checkLoads_1 ?_
  obtain ⟨h4, h⟩ := ck_e h
  obtain ⟨y5, z6, h⟩ := bd_e h
  refine zx_callV (As := []) hG mf_X6_isStore cv_X0_214 h4 ⟨by decide, by decide⟩ rfl rfl (Nat.le_of_ble_eq_true rfl) (s_X6_isStore hG _ _ _ z6) (Nat.le_of_ble_eq_true rfl) dX0_checkLoads_4 ?_
  by_cases c7 : y5 = 0
  · have h := it_t c7 h
    refine zx_if_eq_t (tgt := 17) dX0_checkLoads_7 (by decide) c7 ?_
    cases h
    exact zx_vret dX0_checkLoads_17 rfl
  · have h := it_f c7 h
    refine zx_if_eq_f (tgt := 17) dX0_checkLoads_7 (by decide) c7 ?_
    refine zx_aload_n dX0_checkLoads_10 rfl (q := 1) rfl ?_
    refine zx_getI hG fl_X0_192 h1 dX0_checkLoads_11 ?_
    by_cases c8 : (mI μ a1 12) = 0
    · have h := it_t c8 h
      refine zx_if_eq_t (tgt := 18) dX0_checkLoads_14 (by decide) c8 ?_
      refine zx_iload_n dX0_checkLoads_18 rfl (q := 2) rfl ?_
      refine zx_iconst (v := 1) dX0_checkLoads_19 iv_iconst_1 ?_
      refine zx_iadd dX0_checkLoads_20 ?_
      refine zx_istore_n (L' := [(3, .int (x2 + 1)), (0, .ref a0), (1, .ref a1), (2, .int x2)]) dX0_checkLoads_21 rfl (by decide) rfl ?_
      refine zx_sub (L' := [(0, .ref a0), (1, .ref a1), (3, .int (x2 + 1))]) [1, 2, 0] rfl ?_
      exact s_X0_checkLoads_b22 hG 5000 _ _ _ _ _ _ h
    · have h := it_f c8 h
      refine zx_if_eq_f (tgt := 18) dX0_checkLoads_14 (by decide) c8 ?_
      cases h
      exact zx_vret dX0_checkLoads_17 rfl
def f_X5_write (a0 : Nat) (x1 : Int32) (x2 : Int32) (μ : Mm) : Option (Unit × Mm) :=
  if x1 < 0 then
    some ((), μ)
  else
    if 24 ≤ x1 then
      some ((), μ)
    else
      ck (mK μ a0 = 106) <|
      bd (mR μ a0 2) fun p4 =>
      ck (isA 1 (mK μ p4)) <|
      ck (inb x1 (mL μ p4)) <|
      zl (sI μ p4 (Int32.toNatClampNeg x1) x2) fun μ8 =>
      bd (mR μ8 a0 3) fun p11 =>
      ck (isA 2 (mK μ8 p11)) <|
      ck (inb x1 (mL μ8 p11)) <|
      zl (sI μ8 p11 (Int32.toNatClampNeg x1) 1) fun μ15 =>
      some ((), μ15)
set_option maxRecDepth 100000 in
theorem s_X5_write {l : Launch} {G : Gt} (hG : Gok l G) (a0 : Nat) (x1 : Int32) (x2 : Int32) (μ : Mm) (r : Unit) (μ' : Mm) (h : f_X5_write a0 x1 x2 μ = some (r, μ')) : ZX l G mX5_write 0 [(0, .ref a0), (1, .int x1), (2, .int x2)] [] μ (.inl none) μ' := by
  unfold f_X5_write at h
  refine zx_iload_n dX5_write_0 rfl (q := 1) rfl ?_
  by_cases c1 : x1 < 0
  · have h := it_t c1 h
    refine zx_if_lt_t (tgt := 24) dX5_write_1 (by decide) c1 ?_
    cases h
    exact zx_vret dX5_write_24 rfl
  · have h := it_f c1 h
    refine zx_if_lt_f (tgt := 24) dX5_write_1 (by decide) c1 ?_
    refine zx_iload_n dX5_write_4 rfl (q := 1) rfl ?_
    refine zx_bipush (v := 24) dX5_write_5 iv_bipush_24 ?_
    by_cases c2 : 24 ≤ x1
    · have h := it_t c2 h
      refine zx_icmp_ge_t (tgt := 24) dX5_write_7 (by decide) c2 ?_
      cases h
      exact zx_vret dX5_write_24 rfl
    · have h := it_f c2 h
      refine zx_icmp_ge_f (tgt := 24) dX5_write_7 (by decide) c2 ?_
      refine zx_aload_n dX5_write_10 rfl (q := 0) rfl ?_
      obtain ⟨h3, h⟩ := ck_e h
      obtain ⟨p4, h5, h⟩ := bd_e h
      refine zx_getR hG fl_X5_18 h3 h5 dX5_write_11 ?_
      refine zx_iload_n dX5_write_14 rfl (q := 1) rfl ?_
      refine zx_iload_n dX5_write_15 rfl (q := 2) rfl ?_
      obtain ⟨h6, h⟩ := ck_e h
      obtain ⟨h7, h⟩ := ck_e h
      refine zx_iast hG rfl (h6).1 (h6).2 (inb_e h7) dX5_write_16 ?_
      obtain ⟨μ8, e10, h⟩ := zlm_e h
      refine zx_mem e10 ?_
      have e9 : mK μ8 = mK μ := (congrArg mK e10).trans rfl
      refine zx_aload_n dX5_write_17 rfl (q := 0) rfl ?_
      obtain ⟨p11, h12, h⟩ := bd_e h
      refine zx_getR hG fl_X5_21 (kp_o (e9) h3) h12 dX5_write_18 ?_
      refine zx_iload_n dX5_write_21 rfl (q := 1) rfl ?_
      refine zx_iconst (v := 1) dX5_write_22 iv_iconst_1 ?_
      obtain ⟨h13, h⟩ := ck_e h
      obtain ⟨h14, h⟩ := ck_e h
      refine zx_zast hG rfl (h13).1 (h13).2 (inb_e h14) dX5_write_23 ?_
      obtain ⟨μ15, e17, h⟩ := zlm_e h
      refine zx_mem e17 ?_
      have e16 : mK μ15 = mK μ8 := (congrArg mK e17).trans rfl
      cases h
      exact zx_vret dX5_write_24 rfl
def f_X0_writeResults_b67 (k4 : Nat → Int32 → Int32 → Mm → Option (Unit × Mm)) (a0 : Nat) (x1 : Int32) (x2 : Int32) (μ : Mm) : Option (Unit × Mm) :=
  k4 a0 x1 (x2 + 1) μ
def f_X0_writeResults_b4 : Nat → Nat → Int32 → Int32 → Mm → Option (Unit × Mm)
  | 0, _, _, _, _ => none
  | n + 1, a0, x1, x2, μ =>
  ck (mK μ a0 = 101) <|
  bd (mR μ a0 7) fun p2 =>
  ck (mK μ p2 = 100) <|
  bd (f_Jx4a65c_size_8abf5 p2 μ) fun y5 =>
  if y5 ≤ x2 then
    some ((), μ)
  else
    if 2 ≤ x1 then
      some ((), μ)
    else
      bd (mR μ a0 7) fun p9 =>
      ck (mK μ p9 = 100) <|
      bd (f_Jx4a65c_get_915e3 p9 x2 μ) fun p12 =>
      ck (mK μ p12 = 104) <|
      if ¬ (zc (mI μ p12 5)) = 98 then
        f_X0_writeResults_b67 (f_X0_writeResults_b4 n) a0 x1 x2 μ
      else
        bd (mR μ a0 4) fun p16 =>
        ck (mK μ p16 = 106) <|
        cl (f_X5_write p16 (mI μ p12 8) (mI μ p12 13) μ) fun _ μ21 =>
        ck (mK μ21 a0 = 101) <|
        ck (mK μ21 p12 = 104) <|
        cl (f_X3_endIn p12 (mI μ21 a0 12) μ21) fun _ μ26 =>
        f_X0_writeResults_b67 (f_X0_writeResults_b4 n) a0 (x1 + 1) x2 μ26
def f_X0_writeResults (a0 : Nat) (μ : Mm) : Option (Unit × Mm) :=
  f_X0_writeResults_b4 5000 a0 0 0 μ
set_option maxRecDepth 100000 in
theorem s_X0_writeResults_b67 {l : Launch} {G : Gt} (hG : Gok l G) {k4 : Nat → Int32 → Int32 → Mm → Option (Unit × Mm)} (hk4 : ∀ (a0 : Nat) (x1 : Int32) (x2 : Int32) (μ : Mm) (r : Unit) (μ' : Mm), k4 a0 x1 x2 μ = some (r, μ') → ZX l G mX0_writeResults 4 [(0, .ref a0), (1, .int x1), (2, .int x2)] [] μ (.inl none) μ') (a0 : Nat) (x1 : Int32) (x2 : Int32) (μ : Mm) (r : Unit) (μ' : Mm) (h : f_X0_writeResults_b67 k4 a0 x1 x2 μ = some (r, μ')) : ZX l G mX0_writeResults 67 [(0, .ref a0), (1, .int x1), (2, .int x2)] [] μ (.inl none) μ' := by
  unfold f_X0_writeResults_b67 at h
  refine zx_iinc (q := 2) (v := x2 + 1) (L' := [(2, .int (x2 + 1)), (0, .ref a0), (1, .int x1)]) dX0_writeResults_67 rfl rfl (by decide) rfl ?_
  refine zx_goto (tgt := 4) dX0_writeResults_70 (by decide) ?_
  refine zx_sub (L' := [(0, .ref a0), (1, .int x1), (2, .int (x2 + 1))]) [1, 2, 0] rfl ?_
  exact hk4 _ _ _ _ _ _ h
set_option maxRecDepth 100000 in
theorem s_X0_writeResults_b4 {l : Launch} {G : Gt} (hG : Gok l G) : ∀ (n : Nat) (a0 : Nat) (x1 : Int32) (x2 : Int32) (μ : Mm) (r : Unit) (μ' : Mm), f_X0_writeResults_b4 n a0 x1 x2 μ = some (r, μ') → ZX l G mX0_writeResults 4 [(0, .ref a0), (1, .int x1), (2, .int x2)] [] μ (.inl none) μ' := by
  intro n
  induction n with
  | zero =>
    intro a0 x1 x2 μ r μ' h
    cases h
  | succ n ih =>
    intro a0 x1 x2 μ r μ' h
    unfold f_X0_writeResults_b4 at h
    refine zx_iload_n dX0_writeResults_4 rfl (q := 2) rfl ?_
    refine zx_aload_n dX0_writeResults_5 rfl (q := 0) rfl ?_
    obtain ⟨h1, h⟩ := ck_e h
    obtain ⟨p2, h3, h⟩ := bd_e h
    refine zx_getR hG fl_X0_60 h1 h3 dX0_writeResults_6 ?_
    obtain ⟨h4, h⟩ := ck_e h
    obtain ⟨y5, z6, h⟩ := bd_e h
    refine zx_callV (As := []) hG mf_Jx4a65c_size_8abf5 cv_X0_123 h4 ⟨by decide, by decide⟩ rfl rfl (Nat.le_of_ble_eq_true rfl) (s_Jx4a65c_size_8abf5 hG _ _ _ z6) (Nat.le_of_ble_eq_true rfl) dX0_writeResults_9 ?_
    by_cases c7 : y5 ≤ x2
    · have h := it_t c7 h
      refine zx_icmp_ge_t (tgt := 73) dX0_writeResults_12 (by decide) c7 ?_
      cases h
      exact zx_vret dX0_writeResults_73 rfl
    · have h := it_f c7 h
      refine zx_icmp_ge_f (tgt := 73) dX0_writeResults_12 (by decide) c7 ?_
      refine zx_iload_n dX0_writeResults_15 rfl (q := 1) rfl ?_
      refine zx_iconst (v := 2) dX0_writeResults_16 iv_iconst_2 ?_
      by_cases c8 : 2 ≤ x1
      · have h := it_t c8 h
        refine zx_icmp_ge_t (tgt := 73) dX0_writeResults_17 (by decide) c8 ?_
        cases h
        exact zx_vret dX0_writeResults_73 rfl
      · have h := it_f c8 h
        refine zx_icmp_ge_f (tgt := 73) dX0_writeResults_17 (by decide) c8 ?_
        refine zx_aload_n dX0_writeResults_20 rfl (q := 0) rfl ?_
        obtain ⟨p9, h10, h⟩ := bd_e h
        refine zx_getR hG fl_X0_60 h1 h10 dX0_writeResults_21 ?_
        refine zx_iload_n dX0_writeResults_24 rfl (q := 2) rfl ?_
        obtain ⟨h11, h⟩ := ck_e h
        obtain ⟨p12, z13, h⟩ := bd_e h
        refine zx_callV (As := [.int x2]) hG mf_Jx4a65c_get_915e3 cv_X0_127 h11 ⟨by decide, by decide⟩ rfl rfl (Nat.le_of_ble_eq_true rfl) (s_Jx4a65c_get_915e3 hG _ _ _ _ z13) (Nat.le_of_ble_eq_true rfl) dX0_writeResults_25 ?_
        obtain ⟨h14, h⟩ := ck_e h
        refine zx_castO hG kt_X0_131 h14 dX0_writeResults_28 ?_
        refine zx_astore_n (L' := [(3, .ref p12), (0, .ref a0), (1, .int x1), (2, .int x2)]) dX0_writeResults_31 rfl (by decide) rfl ?_
        refine zx_aload_n dX0_writeResults_32 rfl (q := 0) rfl ?_
        refine zx_getC hG fl_X0_133 h14 dX0_writeResults_33 ?_
        refine zx_bipush (v := 98) dX0_writeResults_36 iv_bipush_98 ?_
        by_cases c15 : ¬ (zc (mI μ p12 5)) = 98
        · have h := it_t c15 h
          refine zx_icmp_ne_t (tgt := 67) dX0_writeResults_38 (by decide) c15 ?_
          refine zx_sub (L' := [(0, .ref a0), (1, .int x1), (2, .int x2)]) [1, 2, 3] rfl ?_
          exact s_X0_writeResults_b67 hG ih _ _ _ _ _ _ h
        · have h := it_f c15 h
          refine zx_icmp_ne_f (tgt := 67) dX0_writeResults_38 (by decide) (Classical.not_not.mp c15) ?_
          refine zx_aload_n dX0_writeResults_41 rfl (q := 1) rfl ?_
          obtain ⟨p16, h17, h⟩ := bd_e h
          refine zx_getR hG fl_X0_42 h1 h17 dX0_writeResults_42 ?_
          refine zx_aload_n dX0_writeResults_45 rfl (q := 0) rfl ?_
          refine zx_getI hG fl_X0_230 h14 dX0_writeResults_46 ?_
          refine zx_aload_n dX0_writeResults_49 rfl (q := 0) rfl ?_
          refine zx_getI hG fl_X0_176 h14 dX0_writeResults_50 ?_
          obtain ⟨h18, h⟩ := ck_e h
          obtain ⟨uu19, μ21, z20, h⟩ := cl_e h
          refine zx_callV (As := [.int (mI μ p12 8), .int (mI μ p12 13)]) hG mf_X5_write cv_X0_233 h18 ⟨by decide, by decide⟩ rfl rfl (Nat.le_of_ble_eq_true rfl) (s_X5_write hG _ _ _ _ _ _ z20) (Nat.le_of_ble_eq_true rfl) dX0_writeResults_53 ?_
          refine zx_aload_n dX0_writeResults_56 rfl (q := 0) rfl ?_
          refine zx_aload_n dX0_writeResults_57 rfl (q := 1) rfl ?_
          obtain ⟨h22, h⟩ := ck_e h
          refine zx_getI hG fl_X0_77 h22 dX0_writeResults_58 ?_
          obtain ⟨h23, h⟩ := ck_e h
          obtain ⟨uu24, μ26, z25, h⟩ := cl_e h
          refine zx_callV (As := [.int (mI μ21 a0 12)]) hG mf_X3_endIn cv_X0_183 h23 ⟨by decide, by decide⟩ rfl rfl (Nat.le_of_ble_eq_true rfl) (s_X3_endIn hG _ _ _ _ _ z25) (Nat.le_of_ble_eq_true rfl) dX0_writeResults_61 ?_
          refine zx_iinc (q := 2) (v := x1 + 1) (L' := [(1, .int (x1 + 1)), (3, .ref p12), (0, .ref a0), (2, .int x2)]) dX0_writeResults_64 rfl rfl (by decide) rfl ?_
          refine zx_sub (L' := [(0, .ref a0), (1, .int (x1 + 1)), (2, .int x2)]) [2, 0, 3] rfl ?_
          exact s_X0_writeResults_b67 hG ih _ _ _ _ _ _ h
set_option maxRecDepth 100000 in
theorem s_X0_writeResults {l : Launch} {G : Gt} (hG : Gok l G) (a0 : Nat) (μ : Mm) (r : Unit) (μ' : Mm) (h : f_X0_writeResults a0 μ = some (r, μ')) : ZX l G mX0_writeResults 0 [(0, .ref a0)] [] μ (.inl none) μ' := by
  unfold f_X0_writeResults at h
  refine zx_iconst (v := 0) dX0_writeResults_0 iv_iconst_0 ?_
  refine zx_istore_n (L' := [(1, .int 0), (0, .ref a0)]) dX0_writeResults_1 rfl (by decide) rfl ?_
  refine zx_iconst (v := 0) dX0_writeResults_2 iv_iconst_0 ?_
  refine zx_istore_n (L' := [(2, .int 0), (1, .int 0), (0, .ref a0)]) dX0_writeResults_3 rfl (by decide) rfl ?_
  refine zx_sub (L' := [(0, .ref a0), (1, .int 0), (2, .int 0)]) [2, 1, 0] rfl ?_
  exact s_X0_writeResults_b4 hG 5000 _ _ _ _ _ _ h
def f_X0_doEndings_b81 (k2 : Nat → Int32 → Mm → Option (Unit × Mm)) (a0 : Nat) (x1 : Int32) (μ : Mm) : Option (Unit × Mm) :=
  k2 a0 (x1 + 1) μ
def f_X0_doEndings_b48 (k2 : Nat → Int32 → Mm → Option (Unit × Mm)) (a0 : Nat) (x1 : Int32) (a2 : Nat) (s0 : Int32) (μ : Mm) : Option (Unit × Mm) :=
  if s0 = 0 then
    f_X0_doEndings_b81 k2 a0 x1 μ
  else
    ck (mK μ a2 = 104) <|
    ck (mK μ a0 = 101) <|
    if ¬ (mI μ a2 10) = (mI μ a0 12) then
      f_X0_doEndings_b81 k2 a0 x1 μ
    else
      cl (f_X0_endDelay a0 a2 μ) fun _ μ26 =>
      ck (mK μ26 a0 = 101) <|
      cl (f_X0_checkGuess a0 a2 x1 μ26) fun _ μ30 =>
      ck (mK μ30 a0 = 101) <|
      cl (f_X0_checkLoads a0 a2 x1 μ30) fun _ μ34 =>
      f_X0_doEndings_b81 k2 a0 x1 μ34
def f_X0_doEndings_b43 (k2 : Nat → Int32 → Mm → Option (Unit × Mm)) (a0 : Nat) (x1 : Int32) (a2 : Nat) (μ : Mm) : Option (Unit × Mm) :=
  f_X0_doEndings_b48 k2 a0 x1 a2 1 μ
def f_X0_doEndings_b87 (a0 : Nat) (μ : Mm) : Option (Unit × Mm) :=
  ck (mK μ a0 = 101) <|
  cl (f_X0_writeResults a0 μ) fun _ μ19 =>
  some ((), μ19)
def f_X0_doEndings_b2 : Nat → Nat → Int32 → Mm → Option (Unit × Mm)
  | 0, _, _, _ => none
  | n + 1, a0, x1, μ =>
  ck (mK μ a0 = 101) <|
  bd (mR μ a0 7) fun p2 =>
  ck (mK μ p2 = 100) <|
  bd (f_Jx4a65c_size_8abf5 p2 μ) fun y5 =>
  if y5 ≤ x1 then
    f_X0_doEndings_b87 a0 μ
  else
    bd (mR μ a0 7) fun p8 =>
    ck (mK μ p8 = 100) <|
    bd (f_Jx4a65c_get_915e3 p8 x1 μ) fun p11 =>
    ck (mK μ p11 = 104) <|
    if (zc (mI μ p11 5)) = 120 then
      f_X0_doEndings_b43 (f_X0_doEndings_b2 n) a0 x1 p11 μ
    else
      if ¬ (zc (mI μ p11 5)) = 109 then
        f_X0_doEndings_b48 (f_X0_doEndings_b2 n) a0 x1 p11 0 μ
      else
        f_X0_doEndings_b43 (f_X0_doEndings_b2 n) a0 x1 p11 μ
def f_X0_doEndings (a0 : Nat) (μ : Mm) : Option (Unit × Mm) :=
  f_X0_doEndings_b2 5000 a0 0 μ
set_option maxRecDepth 100000 in
theorem s_X0_doEndings_b81 {l : Launch} {G : Gt} (hG : Gok l G) {k2 : Nat → Int32 → Mm → Option (Unit × Mm)} (hk2 : ∀ (a0 : Nat) (x1 : Int32) (μ : Mm) (r : Unit) (μ' : Mm), k2 a0 x1 μ = some (r, μ') → ZX l G mX0_doEndings 2 [(0, .ref a0), (1, .int x1)] [] μ (.inl none) μ') (a0 : Nat) (x1 : Int32) (μ : Mm) (r : Unit) (μ' : Mm) (h : f_X0_doEndings_b81 k2 a0 x1 μ = some (r, μ')) : ZX l G mX0_doEndings 81 [(0, .ref a0), (1, .int x1)] [] μ (.inl none) μ' := by
  unfold f_X0_doEndings_b81 at h
  refine zx_iinc (q := 1) (v := x1 + 1) (L' := [(1, .int (x1 + 1)), (0, .ref a0)]) dX0_doEndings_81 rfl rfl (by decide) rfl ?_
  refine zx_goto (tgt := 2) dX0_doEndings_84 (by decide) ?_
  refine zx_sub (L' := [(0, .ref a0), (1, .int (x1 + 1))]) [1, 0] rfl ?_
  exact hk2 _ _ _ _ _ h
set_option maxRecDepth 100000 in
theorem s_X0_doEndings_b48 {l : Launch} {G : Gt} (hG : Gok l G) {k2 : Nat → Int32 → Mm → Option (Unit × Mm)} (hk2 : ∀ (a0 : Nat) (x1 : Int32) (μ : Mm) (r : Unit) (μ' : Mm), k2 a0 x1 μ = some (r, μ') → ZX l G mX0_doEndings 2 [(0, .ref a0), (1, .int x1)] [] μ (.inl none) μ') (a0 : Nat) (x1 : Int32) (a2 : Nat) (s0 : Int32) (μ : Mm) (r : Unit) (μ' : Mm) (h : f_X0_doEndings_b48 k2 a0 x1 a2 s0 μ = some (r, μ')) : ZX l G mX0_doEndings 48 [(0, .ref a0), (1, .int x1), (2, .ref a2)] [.int s0] μ (.inl none) μ' := by
  unfold f_X0_doEndings_b48 at h
  refine zx_istore_n (L' := [(3, .int s0), (0, .ref a0), (1, .int x1), (2, .ref a2)]) dX0_doEndings_48 rfl (by decide) rfl ?_
  refine zx_iload_n dX0_doEndings_49 rfl (q := 0) rfl ?_
  by_cases c20 : s0 = 0
  · have h := it_t c20 h
    refine zx_if_eq_t (tgt := 81) dX0_doEndings_50 (by decide) c20 ?_
    refine zx_sub (L' := [(0, .ref a0), (1, .int x1)]) [1, 2] rfl ?_
    exact s_X0_doEndings_b81 hG hk2 _ _ _ _ _ h
  · have h := it_f c20 h
    refine zx_if_eq_f (tgt := 81) dX0_doEndings_50 (by decide) c20 ?_
    refine zx_aload_n dX0_doEndings_53 rfl (q := 3) rfl ?_
    obtain ⟨h21, h⟩ := ck_e h
    refine zx_getI hG fl_X0_144 h21 dX0_doEndings_54 ?_
    refine zx_aload_n dX0_doEndings_57 rfl (q := 1) rfl ?_
    obtain ⟨h22, h⟩ := ck_e h
    refine zx_getI hG fl_X0_77 h22 dX0_doEndings_58 ?_
    by_cases c23 : ¬ (mI μ a2 10) = (mI μ a0 12)
    · have h := it_t c23 h
      refine zx_icmp_ne_t (tgt := 81) dX0_doEndings_61 (by decide) c23 ?_
      refine zx_sub (L' := [(0, .ref a0), (1, .int x1)]) [1, 2] rfl ?_
      exact s_X0_doEndings_b81 hG hk2 _ _ _ _ _ h
    · have h := it_f c23 h
      refine zx_icmp_ne_f (tgt := 81) dX0_doEndings_61 (by decide) (Classical.not_not.mp c23) ?_
      refine zx_aload_n dX0_doEndings_64 rfl (q := 1) rfl ?_
      refine zx_aload_n dX0_doEndings_65 rfl (q := 3) rfl ?_
      obtain ⟨uu24, μ26, z25, h⟩ := cl_e h
      refine zx_callV (As := [.ref a2]) hG mf_X0_endDelay cv_X0_147 h22 ⟨by decide, by decide⟩ rfl rfl (Nat.le_of_ble_eq_true rfl) (s_X0_endDelay hG _ _ _ _ _ z25) (Nat.le_of_ble_eq_true rfl) dX0_doEndings_66 ?_
      refine zx_aload_n dX0_doEndings_69 rfl (q := 1) rfl ?_
      refine zx_aload_n dX0_doEndings_70 rfl (q := 3) rfl ?_
      refine zx_iload_n dX0_doEndings_71 rfl (q := 2) rfl ?_
      obtain ⟨h27, h⟩ := ck_e h
      obtain ⟨uu28, μ30, z29, h⟩ := cl_e h
      refine zx_callV (As := [.ref a2, .int x1]) hG mf_X0_checkGuess cv_X0_151 h27 ⟨by decide, by decide⟩ rfl rfl (Nat.le_of_ble_eq_true rfl) (s_X0_checkGuess hG _ _ _ _ _ _ z29) (Nat.le_of_ble_eq_true rfl) dX0_doEndings_72 ?_
      refine zx_aload_n dX0_doEndings_75 rfl (q := 1) rfl ?_
      refine zx_aload_n dX0_doEndings_76 rfl (q := 3) rfl ?_
      refine zx_iload_n dX0_doEndings_77 rfl (q := 2) rfl ?_
      obtain ⟨h31, h⟩ := ck_e h
      obtain ⟨uu32, μ34, z33, h⟩ := cl_e h
      refine zx_callV (As := [.ref a2, .int x1]) hG mf_X0_checkLoads cv_X0_155 h31 ⟨by decide, by decide⟩ rfl rfl (Nat.le_of_ble_eq_true rfl) (s_X0_checkLoads hG _ _ _ _ _ _ z33) (Nat.le_of_ble_eq_true rfl) dX0_doEndings_78 ?_
      refine zx_sub (L' := [(0, .ref a0), (1, .int x1)]) [1, 2] rfl ?_
      exact s_X0_doEndings_b81 hG hk2 _ _ _ _ _ h
set_option maxRecDepth 100000 in
theorem s_X0_doEndings_b43 {l : Launch} {G : Gt} (hG : Gok l G) {k2 : Nat → Int32 → Mm → Option (Unit × Mm)} (hk2 : ∀ (a0 : Nat) (x1 : Int32) (μ : Mm) (r : Unit) (μ' : Mm), k2 a0 x1 μ = some (r, μ') → ZX l G mX0_doEndings 2 [(0, .ref a0), (1, .int x1)] [] μ (.inl none) μ') (a0 : Nat) (x1 : Int32) (a2 : Nat) (μ : Mm) (r : Unit) (μ' : Mm) (h : f_X0_doEndings_b43 k2 a0 x1 a2 μ = some (r, μ')) : ZX l G mX0_doEndings 43 [(0, .ref a0), (1, .int x1), (2, .ref a2)] [] μ (.inl none) μ' := by
  unfold f_X0_doEndings_b43 at h
  refine zx_iconst (v := 1) dX0_doEndings_43 iv_iconst_1 ?_
  refine zx_goto (tgt := 48) dX0_doEndings_44 (by decide) ?_
  exact s_X0_doEndings_b48 hG hk2 _ _ _ _ _ _ _ h
set_option maxRecDepth 100000 in
theorem s_X0_doEndings_b87 {l : Launch} {G : Gt} (hG : Gok l G) (a0 : Nat) (μ : Mm) (r : Unit) (μ' : Mm) (h : f_X0_doEndings_b87 a0 μ = some (r, μ')) : ZX l G mX0_doEndings 87 [(0, .ref a0)] [] μ (.inl none) μ' := by
  unfold f_X0_doEndings_b87 at h
  refine zx_aload_n dX0_doEndings_87 rfl (q := 0) rfl ?_
  obtain ⟨h16, h⟩ := ck_e h
  obtain ⟨uu17, μ19, z18, h⟩ := cl_e h
  refine zx_callV (As := []) hG mf_X0_writeResults cv_X0_158 h16 ⟨by decide, by decide⟩ rfl rfl (Nat.le_of_ble_eq_true rfl) (s_X0_writeResults hG _ _ _ _ z18) (Nat.le_of_ble_eq_true rfl) dX0_doEndings_88 ?_
  cases h
  exact zx_vret dX0_doEndings_91 rfl
set_option maxRecDepth 100000 in
theorem s_X0_doEndings_b2 {l : Launch} {G : Gt} (hG : Gok l G) : ∀ (n : Nat) (a0 : Nat) (x1 : Int32) (μ : Mm) (r : Unit) (μ' : Mm), f_X0_doEndings_b2 n a0 x1 μ = some (r, μ') → ZX l G mX0_doEndings 2 [(0, .ref a0), (1, .int x1)] [] μ (.inl none) μ' := by
  intro n
  induction n with
  | zero =>
    intro a0 x1 μ r μ' h
    cases h
  | succ n ih =>
    intro a0 x1 μ r μ' h
    unfold f_X0_doEndings_b2 at h
    refine zx_iload_n dX0_doEndings_2 rfl (q := 1) rfl ?_
    refine zx_aload_n dX0_doEndings_3 rfl (q := 0) rfl ?_
    obtain ⟨h1, h⟩ := ck_e h
    obtain ⟨p2, h3, h⟩ := bd_e h
    refine zx_getR hG fl_X0_60 h1 h3 dX0_doEndings_4 ?_
    obtain ⟨h4, h⟩ := ck_e h
    obtain ⟨y5, z6, h⟩ := bd_e h
    refine zx_callV (As := []) hG mf_Jx4a65c_size_8abf5 cv_X0_123 h4 ⟨by decide, by decide⟩ rfl rfl (Nat.le_of_ble_eq_true rfl) (s_Jx4a65c_size_8abf5 hG _ _ _ z6) (Nat.le_of_ble_eq_true rfl) dX0_doEndings_7 ?_
    by_cases c7 : y5 ≤ x1
    · have h := it_t c7 h
      refine zx_icmp_ge_t (tgt := 87) dX0_doEndings_10 (by decide) c7 ?_
      refine zx_sub (L' := [(0, .ref a0)]) [0] rfl ?_
      exact s_X0_doEndings_b87 hG _ _ _ _ h
    · have h := it_f c7 h
      refine zx_icmp_ge_f (tgt := 87) dX0_doEndings_10 (by decide) c7 ?_
      refine zx_aload_n dX0_doEndings_13 rfl (q := 0) rfl ?_
      obtain ⟨p8, h9, h⟩ := bd_e h
      refine zx_getR hG fl_X0_60 h1 h9 dX0_doEndings_14 ?_
      refine zx_iload_n dX0_doEndings_17 rfl (q := 1) rfl ?_
      obtain ⟨h10, h⟩ := ck_e h
      obtain ⟨p11, z12, h⟩ := bd_e h
      refine zx_callV (As := [.int x1]) hG mf_Jx4a65c_get_915e3 cv_X0_127 h10 ⟨by decide, by decide⟩ rfl rfl (Nat.le_of_ble_eq_true rfl) (s_Jx4a65c_get_915e3 hG _ _ _ _ z12) (Nat.le_of_ble_eq_true rfl) dX0_doEndings_18 ?_
      obtain ⟨h13, h⟩ := ck_e h
      refine zx_castO hG kt_X0_131 h13 dX0_doEndings_21 ?_
      refine zx_astore_n (L' := [(2, .ref p11), (0, .ref a0), (1, .int x1)]) dX0_doEndings_24 rfl (by decide) rfl ?_
      refine zx_aload_n dX0_doEndings_25 rfl (q := 0) rfl ?_
      refine zx_getC hG fl_X0_133 h13 dX0_doEndings_26 ?_
      refine zx_bipush (v := 120) dX0_doEndings_29 iv_bipush_120 ?_
      by_cases c14 : (zc (mI μ p11 5)) = 120
      · have h := it_t c14 h
        refine zx_icmp_eq_t (tgt := 43) dX0_doEndings_31 (by decide) c14 ?_
        refine zx_sub (L' := [(0, .ref a0), (1, .int x1), (2, .ref p11)]) [1, 2, 0] rfl ?_
        exact s_X0_doEndings_b43 hG ih _ _ _ _ _ _ h
      · have h := it_f c14 h
        refine zx_icmp_eq_f (tgt := 43) dX0_doEndings_31 (by decide) c14 ?_
        refine zx_aload_n dX0_doEndings_34 rfl (q := 0) rfl ?_
        refine zx_getC hG fl_X0_133 h13 dX0_doEndings_35 ?_
        refine zx_bipush (v := 109) dX0_doEndings_38 iv_bipush_109 ?_
        by_cases c15 : ¬ (zc (mI μ p11 5)) = 109
        · have h := it_t c15 h
          refine zx_icmp_ne_t (tgt := 47) dX0_doEndings_40 (by decide) c15 ?_
          refine zx_iconst (v := 0) dX0_doEndings_47 iv_iconst_0 ?_
          refine zx_sub (L' := [(0, .ref a0), (1, .int x1), (2, .ref p11)]) [1, 2, 0] rfl ?_
          exact s_X0_doEndings_b48 hG ih _ _ _ _ _ _ _ h
        · have h := it_f c15 h
          refine zx_icmp_ne_f (tgt := 47) dX0_doEndings_40 (by decide) (Classical.not_not.mp c15) ?_
          refine zx_sub (L' := [(0, .ref a0), (1, .int x1), (2, .ref p11)]) [1, 2, 0] rfl ?_
          exact s_X0_doEndings_b43 hG ih _ _ _ _ _ _ h
set_option maxRecDepth 100000 in
theorem s_X0_doEndings {l : Launch} {G : Gt} (hG : Gok l G) (a0 : Nat) (μ : Mm) (r : Unit) (μ' : Mm) (h : f_X0_doEndings a0 μ = some (r, μ')) : ZX l G mX0_doEndings 0 [(0, .ref a0)] [] μ (.inl none) μ' := by
  unfold f_X0_doEndings at h
  refine zx_iconst (v := 0) dX0_doEndings_0 iv_iconst_0 ?_
  refine zx_istore_n (L' := [(1, .int 0), (0, .ref a0)]) dX0_doEndings_1 rfl (by decide) rfl ?_
  refine zx_sub (L' := [(0, .ref a0), (1, .int 0)]) [1, 0] rfl ?_
  exact s_X0_doEndings_b2 hG 5000 _ _ _ _ _ h
def f_X10_newLife_b6 : Nat → Nat → Int32 → Mm → Option (Nat × Mm)
  | 0, _, _, _ => none
  | n + 1, a0, x1, μ =>
  if 5 ≤ x1 then
    some (a0, μ)
  else
    ck (isA 1 (mK μ a0)) <|
    ck (inb x1 (mL μ a0)) <|
    zl (sI μ a0 (Int32.toNatClampNeg x1) ((-1))) fun μ11 =>
    f_X10_newLife_b6 n a0 (x1 + 1) μ11
def f_X10_newLife (μ : Mm) : Option (Nat × Mm) :=
  ck (smn 5) <|
  zl (mN μ) fun p2 =>
  zl (nw μ 51 (Int32.toNatClampNeg 5) (Int32.toNatClampNeg 5)) fun μ3 =>
  f_X10_newLife_b6 5000 p2 0 μ3
set_option maxRecDepth 100000 in
theorem s_X10_newLife_b6 {l : Launch} {G : Gt} (hG : Gok l G) : ∀ (n : Nat) (a0 : Nat) (x1 : Int32) (μ : Mm) (r : Nat) (μ' : Mm), f_X10_newLife_b6 n a0 x1 μ = some (r, μ') → ZX l G mX10_newLife 6 [(0, .ref a0), (1, .int x1)] [] μ (.inl (some (.ref r))) μ' := by
  intro n
  induction n with
  | zero =>
    intro a0 x1 μ r μ' h
    cases h
  | succ n ih =>
    intro a0 x1 μ r μ' h
    unfold f_X10_newLife_b6 at h
    refine zx_iload_n dX10_newLife_6 rfl (q := 1) rfl ?_
    refine zx_iconst (v := 5) dX10_newLife_7 iv_iconst_5 ?_
    by_cases c8 : 5 ≤ x1
    · have h := it_t c8 h
      refine zx_icmp_ge_t (tgt := 21) dX10_newLife_8 (by decide) c8 ?_
      refine zx_aload_n dX10_newLife_21 rfl (q := 0) rfl ?_
      cases h
      exact zx_aret dX10_newLife_22 rfl (Or.inr ⟨_, rfl⟩)
    · have h := it_f c8 h
      refine zx_icmp_ge_f (tgt := 21) dX10_newLife_8 (by decide) c8 ?_
      refine zx_aload_n dX10_newLife_11 rfl (q := 0) rfl ?_
      refine zx_iload_n dX10_newLife_12 rfl (q := 1) rfl ?_
      refine zx_iconst (v := (-1)) dX10_newLife_13 iv_iconst_m1 ?_
      obtain ⟨h9, h⟩ := ck_e h
      obtain ⟨h10, h⟩ := ck_e h
      refine zx_iast hG rfl (h9).1 (h9).2 (inb_e h10) dX10_newLife_14 ?_
      obtain ⟨μ11, e13, h⟩ := zlm_e h
      refine zx_mem e13 ?_
      have e12 : mK μ11 = mK μ := (congrArg mK e13).trans rfl
      refine zx_iinc (q := 1) (v := x1 + 1) (L' := [(1, .int (x1 + 1)), (0, .ref a0)]) dX10_newLife_15 rfl rfl (by decide) rfl ?_
      refine zx_goto (tgt := 6) dX10_newLife_18 (by decide) ?_
      refine zx_sub (L' := [(0, .ref a0), (1, .int (x1 + 1))]) [1, 0] rfl ?_
      exact ih _ _ _ _ _ h
set_option maxRecDepth 100000 in
theorem s_X10_newLife {l : Launch} {G : Gt} (hG : Gok l G) (μ : Mm) (r : Nat) (μ' : Mm) (h : f_X10_newLife μ = some (r, μ')) : ZX l G mX10_newLife 0 [] [] μ (.inl (some (.ref r))) μ' := by
  unfold f_X10_newLife at h
  refine zx_iconst (v := 5) dX10_newLife_0 iv_iconst_5 ?_
  obtain ⟨h1, h⟩ := ck_e h
  refine zx_newa 51 (at9 := .int) hG w_ac_int (by decide) (by decide) (smn_e h1) (h1).2 dX10_newLife_1 ?_
  obtain ⟨p2, e5, h⟩ := zlm_e h
  obtain ⟨μ3, e6, h⟩ := zlm_e h
  refine zx_mem e6 (zx_stk e5 ?_)
  have h4 : mK μ3 p2 = 51 := nw_Kp e6 e5
  have h7 : isA 1 (mK μ3 p2) := by rw [h4]; decide
  refine zx_astore_n (L' := [(0, .ref p2)]) dX10_newLife_3 rfl (by decide) rfl ?_
  refine zx_iconst (v := 0) dX10_newLife_4 iv_iconst_0 ?_
  refine zx_istore_n (L' := [(1, .int 0), (0, .ref p2)]) dX10_newLife_5 rfl (by decide) rfl ?_
  refine zx_sub (L' := [(0, .ref p2), (1, .int 0)]) [1, 0] rfl ?_
  exact s_X10_newLife_b6 hG 5000 _ _ _ _ _ h
def f_X8_goToInterrupts (a0 : Nat) (x1 : Int32) (μ : Mm) : Option (Unit × Mm) :=
  ck (mK μ a0 = 109) <|
  zl (sI μ a0 4 (mI μ a0 2)) fun μ2 =>
  zl (sI μ2 a0 3 1) fun μ5 =>
  zl (sI μ5 a0 2 x1) fun μ8 =>
  some ((), μ8)
set_option maxRecDepth 100000 in
theorem s_X8_goToInterrupts {l : Launch} {G : Gt} (hG : Gok l G) (a0 : Nat) (x1 : Int32) (μ : Mm) (r : Unit) (μ' : Mm) (h : f_X8_goToInterrupts a0 x1 μ = some (r, μ')) : ZX l G mX8_goToInterrupts 0 [(0, .ref a0), (1, .int x1)] [] μ (.inl none) μ' := by
  unfold f_X8_goToInterrupts at h
  refine zx_aload_n dX8_goToInterrupts_0 rfl (q := 0) rfl ?_
  refine zx_aload_n dX8_goToInterrupts_1 rfl (q := 0) rfl ?_
  obtain ⟨h1, h⟩ := ck_e h
  refine zx_getI hG fl_X8_18 h1 dX8_goToInterrupts_2 ?_
  refine zx_putI hG fl_X8_26 fn_9_4 h1 dX8_goToInterrupts_5 ?_
  obtain ⟨μ2, e4, h⟩ := zlm_e h
  refine zx_mem e4 ?_
  have e3 : mK μ2 = mK μ := (congrArg mK e4).trans rfl
  refine zx_aload_n dX8_goToInterrupts_8 rfl (q := 0) rfl ?_
  refine zx_iconst (v := 1) dX8_goToInterrupts_9 iv_iconst_1 ?_
  refine zx_putZ hG fl_X8_22 fn_9_3 (kp_o (e3) h1) zb_1 dX8_goToInterrupts_10 ?_
  obtain ⟨μ5, e7, h⟩ := zlm_e h
  refine zx_mem e7 ?_
  have e6 : mK μ5 = mK μ2 := (congrArg mK e7).trans rfl
  refine zx_aload_n dX8_goToInterrupts_13 rfl (q := 0) rfl ?_
  refine zx_iload_n dX8_goToInterrupts_14 rfl (q := 1) rfl ?_
  refine zx_putI hG fl_X8_18 fn_9_2 (kp_o (Eq.trans e6 e3) h1) dX8_goToInterrupts_15 ?_
  obtain ⟨μ8, e10, h⟩ := zlm_e h
  refine zx_mem e10 ?_
  have e9 : mK μ8 = mK μ5 := (congrArg mK e10).trans rfl
  cases h
  exact zx_vret dX8_goToInterrupts_18 rfl
def f_X6_trapBy (a0 : Nat) (x1 : Int32) (x2 : Int32) (μ : Mm) : Option Int32 :=
  ck (mK μ a0 = 107) <|
  if (Int32.toInt (mI μ a0 1)) < 5 ∨ 20 < (Int32.toInt (mI μ a0 1)) then
    some 0
  else if (mI μ a0 1) = 5 then
      if ¬ x2 = 0 then
        some 0
      else
        some 1
  else if (mI μ a0 1) = 6 then
      some 0
  else if (mI μ a0 1) = 7 then
      some 0
  else if (mI μ a0 1) = 8 then
      some 0
  else if (mI μ a0 1) = 9 then
      bd (f_X10_isAddress (x1 + (mI μ a0 5))) fun y9 =>
      if y9 = 0 then
        some 2
      else
        some 0
  else if (mI μ a0 1) = 10 then
      bd (f_X10_isAddress (x1 + (mI μ a0 5))) fun y13 =>
      if y13 = 0 then
        some 2
      else
        some 0
  else if (mI μ a0 1) = 11 then
      bd (f_X10_isAddress (x1 + (mI μ a0 5))) fun y17 =>
      if y17 = 0 then
        some 2
      else
        some 0
  else if (mI μ a0 1) = 12 then
      some 0
  else if (mI μ a0 1) = 13 then
      some 0
  else if (mI μ a0 1) = 14 then
      some 0
  else if (mI μ a0 1) = 15 then
      some 0
  else if (mI μ a0 1) = 16 then
      bd (f_X10_isPlace x1) fun y25 =>
      if y25 = 0 then
        some 3
      else
        some 0
  else if (mI μ a0 1) = 17 then
      bd (f_X10_isPlace x1) fun y29 =>
      if y29 = 0 then
        some 3
      else
        some 0
  else if (mI μ a0 1) = 18 then
      some 0
  else if (mI μ a0 1) = 19 then
      some 0
  else if (mI μ a0 1) = 20 then
      some 4
  else
    none
set_option maxRecDepth 100000 in
theorem s_X6_trapBy {l : Launch} {G : Gt} (hG : Gok l G) (a0 : Nat) (x1 : Int32) (x2 : Int32) (μ : Mm) (r : Int32) (h : f_X6_trapBy a0 x1 x2 μ = some r) : ZX l G mX6_trapBy 0 [(0, .ref a0), (1, .int x1), (2, .int x2)] [] μ (.inl (some (.int r))) μ := by
  unfold f_X6_trapBy at h
  refine zx_aload_n dX6_trapBy_0 rfl (q := 0) rfl ?_
  obtain ⟨h1, h⟩ := ck_e h
  refine zx_getI hG fl_X6_15 h1 dX6_trapBy_1 ?_
  by_cases c2 : (Int32.toInt (mI μ a0 1)) < 5 ∨ 20 < (Int32.toInt (mI μ a0 1))
  · have h := it_t c2 h
    refine zx_tsOut dX6_trapBy_4 c2 (tgt := 127) (by decide) ?_
    refine zx_iconst (v := 0) dX6_trapBy_127 iv_iconst_0 ?_
    cases h
    exact zx_iret dX6_trapBy_128 rfl
  · have h := it_f c2 h
    by_cases c3 : (mI μ a0 1) = 5
    · have h := it_t c3 h
      refine zx_tsIn dX6_trapBy_4 (by rw [c3]; decide) (by rw [c3]; decide) (off := 80) (tgt := 84) (by rw [c3]; decide) (by decide) ?_
      refine zx_iload_n dX6_trapBy_84 rfl (q := 2) rfl ?_
      by_cases c4 : ¬ x2 = 0
      · have h := it_t c4 h
        refine zx_if_ne_t (tgt := 92) dX6_trapBy_85 (by decide) c4 ?_
        refine zx_iconst (v := 0) dX6_trapBy_92 iv_iconst_0 ?_
        cases h
        exact zx_iret dX6_trapBy_93 rfl
      · have h := it_f c4 h
        refine zx_if_ne_f (tgt := 92) dX6_trapBy_85 (by decide) (Classical.not_not.mp c4) ?_
        refine zx_iconst (v := 1) dX6_trapBy_88 iv_iconst_1 ?_
        refine zx_goto (tgt := 93) dX6_trapBy_89 (by decide) ?_
        cases h
        exact zx_iret dX6_trapBy_93 rfl
    have h := it_f c3 h
    by_cases c5 : (mI μ a0 1) = 6
    · have h := it_t c5 h
      refine zx_tsIn dX6_trapBy_4 (by rw [c5]; decide) (by rw [c5]; decide) (off := 123) (tgt := 127) (by rw [c5]; decide) (by decide) ?_
      refine zx_iconst (v := 0) dX6_trapBy_127 iv_iconst_0 ?_
      cases h
      exact zx_iret dX6_trapBy_128 rfl
    have h := it_f c5 h
    by_cases c6 : (mI μ a0 1) = 7
    · have h := it_t c6 h
      refine zx_tsIn dX6_trapBy_4 (by rw [c6]; decide) (by rw [c6]; decide) (off := 123) (tgt := 127) (by rw [c6]; decide) (by decide) ?_
      refine zx_iconst (v := 0) dX6_trapBy_127 iv_iconst_0 ?_
      cases h
      exact zx_iret dX6_trapBy_128 rfl
    have h := it_f c6 h
    by_cases c7 : (mI μ a0 1) = 8
    · have h := it_t c7 h
      refine zx_tsIn dX6_trapBy_4 (by rw [c7]; decide) (by rw [c7]; decide) (off := 123) (tgt := 127) (by rw [c7]; decide) (by decide) ?_
      refine zx_iconst (v := 0) dX6_trapBy_127 iv_iconst_0 ?_
      cases h
      exact zx_iret dX6_trapBy_128 rfl
    have h := it_f c7 h
    by_cases c8 : (mI μ a0 1) = 9
    · have h := it_t c8 h
      refine zx_tsIn dX6_trapBy_4 (by rw [c8]; decide) (by rw [c8]; decide) (off := 90) (tgt := 94) (by rw [c8]; decide) (by decide) ?_
      refine zx_iload_n dX6_trapBy_94 rfl (q := 1) rfl ?_
      refine zx_aload_n dX6_trapBy_95 rfl (q := 0) rfl ?_
      refine zx_getI hG fl_X6_27 h1 dX6_trapBy_96 ?_
      refine zx_iadd dX6_trapBy_99 ?_
      obtain ⟨y9, z10, h⟩ := bd_e h
      refine zx_callSN (As := [.int (x1 + (mI μ a0 5))]) hG mf_X10_isAddress cs_X6_37 ⟨by decide, by decide⟩ rfl rfl (Nat.le_of_ble_eq_true rfl) (s_X10_isAddress hG _ _ _ z10) (Nat.le_of_ble_eq_true rfl) dX6_trapBy_100 ?_
      by_cases c11 : y9 = 0
      · have h := it_t c11 h
        refine zx_if_eq_t (tgt := 110) dX6_trapBy_103 (by decide) c11 ?_
        refine zx_iconst (v := 2) dX6_trapBy_110 iv_iconst_2 ?_
        cases h
        exact zx_iret dX6_trapBy_111 rfl
      · have h := it_f c11 h
        refine zx_if_eq_f (tgt := 110) dX6_trapBy_103 (by decide) c11 ?_
        refine zx_iconst (v := 0) dX6_trapBy_106 iv_iconst_0 ?_
        refine zx_goto (tgt := 111) dX6_trapBy_107 (by decide) ?_
        cases h
        exact zx_iret dX6_trapBy_111 rfl
    have h := it_f c8 h
    by_cases c12 : (mI μ a0 1) = 10
    · have h := it_t c12 h
      refine zx_tsIn dX6_trapBy_4 (by rw [c12]; decide) (by rw [c12]; decide) (off := 90) (tgt := 94) (by rw [c12]; decide) (by decide) ?_
      refine zx_iload_n dX6_trapBy_94 rfl (q := 1) rfl ?_
      refine zx_aload_n dX6_trapBy_95 rfl (q := 0) rfl ?_
      refine zx_getI hG fl_X6_27 h1 dX6_trapBy_96 ?_
      refine zx_iadd dX6_trapBy_99 ?_
      obtain ⟨y13, z14, h⟩ := bd_e h
      refine zx_callSN (As := [.int (x1 + (mI μ a0 5))]) hG mf_X10_isAddress cs_X6_37 ⟨by decide, by decide⟩ rfl rfl (Nat.le_of_ble_eq_true rfl) (s_X10_isAddress hG _ _ _ z14) (Nat.le_of_ble_eq_true rfl) dX6_trapBy_100 ?_
      by_cases c15 : y13 = 0
      · have h := it_t c15 h
        refine zx_if_eq_t (tgt := 110) dX6_trapBy_103 (by decide) c15 ?_
        refine zx_iconst (v := 2) dX6_trapBy_110 iv_iconst_2 ?_
        cases h
        exact zx_iret dX6_trapBy_111 rfl
      · have h := it_f c15 h
        refine zx_if_eq_f (tgt := 110) dX6_trapBy_103 (by decide) c15 ?_
        refine zx_iconst (v := 0) dX6_trapBy_106 iv_iconst_0 ?_
        refine zx_goto (tgt := 111) dX6_trapBy_107 (by decide) ?_
        cases h
        exact zx_iret dX6_trapBy_111 rfl
    have h := it_f c12 h
    by_cases c16 : (mI μ a0 1) = 11
    · have h := it_t c16 h
      refine zx_tsIn dX6_trapBy_4 (by rw [c16]; decide) (by rw [c16]; decide) (off := 90) (tgt := 94) (by rw [c16]; decide) (by decide) ?_
      refine zx_iload_n dX6_trapBy_94 rfl (q := 1) rfl ?_
      refine zx_aload_n dX6_trapBy_95 rfl (q := 0) rfl ?_
      refine zx_getI hG fl_X6_27 h1 dX6_trapBy_96 ?_
      refine zx_iadd dX6_trapBy_99 ?_
      obtain ⟨y17, z18, h⟩ := bd_e h
      refine zx_callSN (As := [.int (x1 + (mI μ a0 5))]) hG mf_X10_isAddress cs_X6_37 ⟨by decide, by decide⟩ rfl rfl (Nat.le_of_ble_eq_true rfl) (s_X10_isAddress hG _ _ _ z18) (Nat.le_of_ble_eq_true rfl) dX6_trapBy_100 ?_
      by_cases c19 : y17 = 0
      · have h := it_t c19 h
        refine zx_if_eq_t (tgt := 110) dX6_trapBy_103 (by decide) c19 ?_
        refine zx_iconst (v := 2) dX6_trapBy_110 iv_iconst_2 ?_
        cases h
        exact zx_iret dX6_trapBy_111 rfl
      · have h := it_f c19 h
        refine zx_if_eq_f (tgt := 110) dX6_trapBy_103 (by decide) c19 ?_
        refine zx_iconst (v := 0) dX6_trapBy_106 iv_iconst_0 ?_
        refine zx_goto (tgt := 111) dX6_trapBy_107 (by decide) ?_
        cases h
        exact zx_iret dX6_trapBy_111 rfl
    have h := it_f c16 h
    by_cases c20 : (mI μ a0 1) = 12
    · have h := it_t c20 h
      refine zx_tsIn dX6_trapBy_4 (by rw [c20]; decide) (by rw [c20]; decide) (off := 123) (tgt := 127) (by rw [c20]; decide) (by decide) ?_
      refine zx_iconst (v := 0) dX6_trapBy_127 iv_iconst_0 ?_
      cases h
      exact zx_iret dX6_trapBy_128 rfl
    have h := it_f c20 h
    by_cases c21 : (mI μ a0 1) = 13
    · have h := it_t c21 h
      refine zx_tsIn dX6_trapBy_4 (by rw [c21]; decide) (by rw [c21]; decide) (off := 123) (tgt := 127) (by rw [c21]; decide) (by decide) ?_
      refine zx_iconst (v := 0) dX6_trapBy_127 iv_iconst_0 ?_
      cases h
      exact zx_iret dX6_trapBy_128 rfl
    have h := it_f c21 h
    by_cases c22 : (mI μ a0 1) = 14
    · have h := it_t c22 h
      refine zx_tsIn dX6_trapBy_4 (by rw [c22]; decide) (by rw [c22]; decide) (off := 123) (tgt := 127) (by rw [c22]; decide) (by decide) ?_
      refine zx_iconst (v := 0) dX6_trapBy_127 iv_iconst_0 ?_
      cases h
      exact zx_iret dX6_trapBy_128 rfl
    have h := it_f c22 h
    by_cases c23 : (mI μ a0 1) = 15
    · have h := it_t c23 h
      refine zx_tsIn dX6_trapBy_4 (by rw [c23]; decide) (by rw [c23]; decide) (off := 123) (tgt := 127) (by rw [c23]; decide) (by decide) ?_
      refine zx_iconst (v := 0) dX6_trapBy_127 iv_iconst_0 ?_
      cases h
      exact zx_iret dX6_trapBy_128 rfl
    have h := it_f c23 h
    by_cases c24 : (mI μ a0 1) = 16
    · have h := it_t c24 h
      refine zx_tsIn dX6_trapBy_4 (by rw [c24]; decide) (by rw [c24]; decide) (off := 108) (tgt := 112) (by rw [c24]; decide) (by decide) ?_
      refine zx_iload_n dX6_trapBy_112 rfl (q := 1) rfl ?_
      obtain ⟨y25, z26, h⟩ := bd_e h
      refine zx_callSN (As := [.int x1]) hG mf_X10_isPlace cs_X6_41 ⟨by decide, by decide⟩ rfl rfl (Nat.le_of_ble_eq_true rfl) (s_X10_isPlace hG _ _ _ z26) (Nat.le_of_ble_eq_true rfl) dX6_trapBy_113 ?_
      by_cases c27 : y25 = 0
      · have h := it_t c27 h
        refine zx_if_eq_t (tgt := 123) dX6_trapBy_116 (by decide) c27 ?_
        refine zx_iconst (v := 3) dX6_trapBy_123 iv_iconst_3 ?_
        cases h
        exact zx_iret dX6_trapBy_124 rfl
      · have h := it_f c27 h
        refine zx_if_eq_f (tgt := 123) dX6_trapBy_116 (by decide) c27 ?_
        refine zx_iconst (v := 0) dX6_trapBy_119 iv_iconst_0 ?_
        refine zx_goto (tgt := 124) dX6_trapBy_120 (by decide) ?_
        cases h
        exact zx_iret dX6_trapBy_124 rfl
    have h := it_f c24 h
    by_cases c28 : (mI μ a0 1) = 17
    · have h := it_t c28 h
      refine zx_tsIn dX6_trapBy_4 (by rw [c28]; decide) (by rw [c28]; decide) (off := 108) (tgt := 112) (by rw [c28]; decide) (by decide) ?_
      refine zx_iload_n dX6_trapBy_112 rfl (q := 1) rfl ?_
      obtain ⟨y29, z30, h⟩ := bd_e h
      refine zx_callSN (As := [.int x1]) hG mf_X10_isPlace cs_X6_41 ⟨by decide, by decide⟩ rfl rfl (Nat.le_of_ble_eq_true rfl) (s_X10_isPlace hG _ _ _ z30) (Nat.le_of_ble_eq_true rfl) dX6_trapBy_113 ?_
      by_cases c31 : y29 = 0
      · have h := it_t c31 h
        refine zx_if_eq_t (tgt := 123) dX6_trapBy_116 (by decide) c31 ?_
        refine zx_iconst (v := 3) dX6_trapBy_123 iv_iconst_3 ?_
        cases h
        exact zx_iret dX6_trapBy_124 rfl
      · have h := it_f c31 h
        refine zx_if_eq_f (tgt := 123) dX6_trapBy_116 (by decide) c31 ?_
        refine zx_iconst (v := 0) dX6_trapBy_119 iv_iconst_0 ?_
        refine zx_goto (tgt := 124) dX6_trapBy_120 (by decide) ?_
        cases h
        exact zx_iret dX6_trapBy_124 rfl
    have h := it_f c28 h
    by_cases c32 : (mI μ a0 1) = 18
    · have h := it_t c32 h
      refine zx_tsIn dX6_trapBy_4 (by rw [c32]; decide) (by rw [c32]; decide) (off := 123) (tgt := 127) (by rw [c32]; decide) (by decide) ?_
      refine zx_iconst (v := 0) dX6_trapBy_127 iv_iconst_0 ?_
      cases h
      exact zx_iret dX6_trapBy_128 rfl
    have h := it_f c32 h
    by_cases c33 : (mI μ a0 1) = 19
    · have h := it_t c33 h
      refine zx_tsIn dX6_trapBy_4 (by rw [c33]; decide) (by rw [c33]; decide) (off := 123) (tgt := 127) (by rw [c33]; decide) (by decide) ?_
      refine zx_iconst (v := 0) dX6_trapBy_127 iv_iconst_0 ?_
      cases h
      exact zx_iret dX6_trapBy_128 rfl
    have h := it_f c33 h
    by_cases c34 : (mI μ a0 1) = 20
    · have h := it_t c34 h
      refine zx_tsIn dX6_trapBy_4 (by rw [c34]; decide) (by rw [c34]; decide) (off := 121) (tgt := 125) (by rw [c34]; decide) (by decide) ?_
      refine zx_iconst (v := 4) dX6_trapBy_125 iv_iconst_4 ?_
      cases h
      exact zx_iret dX6_trapBy_126 rfl
    have h := it_f c34 h
    cases h
