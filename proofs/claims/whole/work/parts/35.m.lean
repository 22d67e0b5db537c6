theorem dX11_inBuffer_0 : decode cX11_inBuffer 0 = .ok (.aload_n 0, 1) := by decide +kernel
theorem dX11_inBuffer_1 : decode cX11_inBuffer 1 = .ok (.iconst 0, 1) := by decide +kernel
theorem dX11_inBuffer_2 : decode cX11_inBuffer 2 = .ok (.putfield 123, 3) := by decide +kernel
theorem dX11_inBuffer_5 : decode cX11_inBuffer 5 = .ok (.aload_n 0, 1) := by decide +kernel
theorem dX11_inBuffer_6 : decode cX11_inBuffer 6 = .ok (.getfield 198, 3) := by decide +kernel
theorem dX11_inBuffer_9 : decode cX11_inBuffer 9 = .ok (.ireturn, 1) := by decide +kernel
theorem dX11_bufferAt_0 : decode cX11_bufferAt 0 = .ok (.aload_n 0, 1) := by decide +kernel
theorem dX11_bufferAt_1 : decode cX11_bufferAt 1 = .ok (.iload_n 1, 1) := by decide +kernel
theorem dX11_bufferAt_2 : decode cX11_bufferAt 2 = .ok (.iconst 0, 1) := by decide +kernel
theorem dX11_bufferAt_3 : decode cX11_bufferAt 3 = .ok (.aload_n 0, 1) := by decide +kernel
theorem dX11_bufferAt_4 : decode cX11_bufferAt 4 = .ok (.getfield 198, 3) := by decide +kernel
theorem dX11_bufferAt_7 : decode cX11_bufferAt 7 = .ok (.iconst 1, 1) := by decide +kernel
theorem dX11_bufferAt_8 : decode cX11_bufferAt 8 = .ok (.isub, 1) := by decide +kernel
theorem dX11_bufferAt_9 : decode cX11_bufferAt 9 = .ok (.invokestatic 129, 3) := by decide +kernel
theorem dX11_bufferAt_12 : decode cX11_bufferAt 12 = .ok (.ifCond .eq 7, 3) := by decide +kernel
theorem dX11_bufferAt_15 : decode cX11_bufferAt 15 = .ok (.iconst 0, 1) := by decide +kernel
theorem dX11_bufferAt_16 : decode cX11_bufferAt 16 = .ok (.goto 4, 3) := by decide +kernel
theorem dX11_bufferAt_19 : decode cX11_bufferAt 19 = .ok (.iconst 1, 1) := by decide +kernel
theorem dX11_bufferAt_20 : decode cX11_bufferAt 20 = .ok (.putfield 123, 3) := by decide +kernel
theorem dX11_bufferAt_23 : decode cX11_bufferAt 23 = .ok (.aload_n 0, 1) := by decide +kernel
theorem dX11_bufferAt_24 : decode cX11_bufferAt 24 = .ok (.getfield 123, 3) := by decide +kernel
theorem dX11_bufferAt_27 : decode cX11_bufferAt 27 = .ok (.ifCond .le 7, 3) := by decide +kernel
theorem dX11_bufferAt_30 : decode cX11_bufferAt 30 = .ok (.iconst 0, 1) := by decide +kernel
theorem dX11_bufferAt_31 : decode cX11_bufferAt 31 = .ok (.goto 11, 3) := by decide +kernel
theorem dX11_bufferAt_34 : decode cX11_bufferAt 34 = .ok (.aload_n 0, 1) := by decide +kernel
theorem dX11_bufferAt_35 : decode cX11_bufferAt 35 = .ok (.getfield 74, 3) := by decide +kernel
theorem dX11_bufferAt_38 : decode cX11_bufferAt 38 = .ok (.iload_n 1, 1) := by decide +kernel
theorem dX11_bufferAt_39 : decode cX11_bufferAt 39 = .ok (.aaload, 1) := by decide +kernel
theorem dX11_bufferAt_40 : decode cX11_bufferAt 40 = .ok (.iconst 0, 1) := by decide +kernel
theorem dX11_bufferAt_41 : decode cX11_bufferAt 41 = .ok (.iaload, 1) := by decide +kernel
theorem dX11_bufferAt_42 : decode cX11_bufferAt 42 = .ok (.ireturn, 1) := by decide +kernel
theorem dX11_stageAt_0 : decode cX11_stageAt 0 = .ok (.aload_n 0, 1) := by decide +kernel
theorem dX11_stageAt_1 : decode cX11_stageAt 1 = .ok (.iload_n 1, 1) := by decide +kernel
theorem dX11_stageAt_2 : decode cX11_stageAt 2 = .ok (.iconst 0, 1) := by decide +kernel
theorem dX11_stageAt_3 : decode cX11_stageAt 3 = .ok (.aload_n 0, 1) := by decide +kernel
theorem dX11_stageAt_4 : decode cX11_stageAt 4 = .ok (.getfield 198, 3) := by decide +kernel
theorem dX11_stageAt_7 : decode cX11_stageAt 7 = .ok (.iconst 1, 1) := by decide +kernel
theorem dX11_stageAt_8 : decode cX11_stageAt 8 = .ok (.isub, 1) := by decide +kernel
theorem dX11_stageAt_9 : decode cX11_stageAt 9 = .ok (.invokestatic 129, 3) := by decide +kernel
theorem dX11_stageAt_12 : decode cX11_stageAt 12 = .ok (.ifCond .eq 7, 3) := by decide +kernel
theorem dX11_stageAt_15 : decode cX11_stageAt 15 = .ok (.iconst 0, 1) := by decide +kernel
theorem dX11_stageAt_16 : decode cX11_stageAt 16 = .ok (.goto 4, 3) := by decide +kernel
theorem dX11_stageAt_19 : decode cX11_stageAt 19 = .ok (.iconst 1, 1) := by decide +kernel
theorem dX11_stageAt_20 : decode cX11_stageAt 20 = .ok (.putfield 123, 3) := by decide +kernel
theorem dX11_stageAt_23 : decode cX11_stageAt 23 = .ok (.aload_n 0, 1) := by decide +kernel
theorem dX11_stageAt_24 : decode cX11_stageAt 24 = .ok (.getfield 123, 3) := by decide +kernel
theorem dX11_stageAt_27 : decode cX11_stageAt 27 = .ok (.ifCond .le 8, 3) := by decide +kernel
theorem dX11_stageAt_30 : decode cX11_stageAt 30 = .ok (.bipush 32, 2) := by decide +kernel
theorem dX11_stageAt_32 : decode cX11_stageAt 32 = .ok (.goto 13, 3) := by decide +kernel
theorem dX11_stageAt_35 : decode cX11_stageAt 35 = .ok (.aload_n 0, 1) := by decide +kernel
theorem dX11_stageAt_36 : decode cX11_stageAt 36 = .ok (.getfield 74, 3) := by decide +kernel
theorem dX11_stageAt_39 : decode cX11_stageAt 39 = .ok (.iload_n 1, 1) := by decide +kernel
theorem dX11_stageAt_40 : decode cX11_stageAt 40 = .ok (.aaload, 1) := by decide +kernel
theorem dX11_stageAt_41 : decode cX11_stageAt 41 = .ok (.bipush 11, 2) := by decide +kernel
theorem dX11_stageAt_43 : decode cX11_stageAt 43 = .ok (.iaload, 1) := by decide +kernel
theorem dX11_stageAt_44 : decode cX11_stageAt 44 = .ok (.i2c, 1) := by decide +kernel
theorem dX11_stageAt_45 : decode cX11_stageAt 45 = .ok (.ireturn, 1) := by decide +kernel
theorem dX11_inQueue_0 : decode cX11_inQueue 0 = .ok (.aload_n 0, 1) := by decide +kernel
theorem dX11_inQueue_1 : decode cX11_inQueue 1 = .ok (.iconst 0, 1) := by decide +kernel
theorem dX11_inQueue_2 : decode cX11_inQueue 2 = .ok (.putfield 123, 3) := by decide +kernel
theorem dX11_inQueue_5 : decode cX11_inQueue 5 = .ok (.aload_n 0, 1) := by decide +kernel
theorem dX11_inQueue_6 : decode cX11_inQueue 6 = .ok (.invokevirtual 215, 3) := by decide +kernel
theorem dX11_inQueue_9 : decode cX11_inQueue 9 = .ok (.ireturn, 1) := by decide +kernel
theorem dX11_fetched_0 : decode cX11_fetched 0 = .ok (.aload_n 0, 1) := by decide +kernel
theorem dX11_fetched_1 : decode cX11_fetched 1 = .ok (.iconst 0, 1) := by decide +kernel
theorem dX11_fetched_2 : decode cX11_fetched 2 = .ok (.putfield 123, 3) := by decide +kernel
theorem dX11_fetched_5 : decode cX11_fetched 5 = .ok (.aload_n 0, 1) := by decide +kernel
theorem dX11_fetched_6 : decode cX11_fetched 6 = .ok (.getfield 177, 3) := by decide +kernel
theorem dX11_fetched_9 : decode cX11_fetched 9 = .ok (.ireturn, 1) := by decide +kernel
theorem dX11_fetching_0 : decode cX11_fetching 0 = .ok (.aload_n 0, 1) := by decide +kernel
theorem dX11_fetching_1 : decode cX11_fetching 1 = .ok (.aload_n 0, 1) := by decide +kernel
theorem dX11_fetching_2 : decode cX11_fetching 2 = .ok (.getfield 174, 3) := by decide +kernel
theorem dX11_fetching_5 : decode cX11_fetching 5 = .ok (.ifCond .eq 7, 3) := by decide +kernel
theorem dX11_fetching_8 : decode cX11_fetching 8 = .ok (.iconst 1, 1) := by decide +kernel
theorem dX11_fetching_9 : decode cX11_fetching 9 = .ok (.goto 4, 3) := by decide +kernel
theorem dX11_fetching_12 : decode cX11_fetching 12 = .ok (.iconst 0, 1) := by decide +kernel
theorem dX11_fetching_13 : decode cX11_fetching 13 = .ok (.putfield 123, 3) := by decide +kernel
theorem dX11_fetching_16 : decode cX11_fetching 16 = .ok (.aload_n 0, 1) := by decide +kernel
theorem dX11_fetching_17 : decode cX11_fetching 17 = .ok (.getfield 123, 3) := by decide +kernel
theorem dX11_fetching_20 : decode cX11_fetching 20 = .ok (.ifCond .le 7, 3) := by decide +kernel
theorem dX11_fetching_23 : decode cX11_fetching 23 = .ok (.iconst 0, 1) := by decide +kernel
theorem dX11_fetching_24 : decode cX11_fetching 24 = .ok (.goto 7, 3) := by decide +kernel
theorem dX11_fetching_27 : decode cX11_fetching 27 = .ok (.aload_n 0, 1) := by decide +kernel
theorem dX11_fetching_28 : decode cX11_fetching 28 = .ok (.getfield 180, 3) := by decide +kernel
theorem dX11_fetching_31 : decode cX11_fetching 31 = .ok (.ireturn, 1) := by decide +kernel
theorem dX11_returns_0 : decode cX11_returns 0 = .ok (.aload_n 0, 1) := by decide +kernel
theorem dX11_returns_1 : decode cX11_returns 1 = .ok (.iconst 0, 1) := by decide +kernel
theorem dX11_returns_2 : decode cX11_returns 2 = .ok (.putfield 123, 3) := by decide +kernel
theorem dX11_returns_5 : decode cX11_returns 5 = .ok (.aload_n 0, 1) := by decide +kernel
theorem dX11_returns_6 : decode cX11_returns 6 = .ok (.getfield 80, 3) := by decide +kernel
theorem dX11_returns_9 : decode cX11_returns 9 = .ok (.iconst 0, 1) := by decide +kernel
theorem dX11_returns_10 : decode cX11_returns 10 = .ok (.iaload, 1) := by decide +kernel
theorem dX11_returns_11 : decode cX11_returns 11 = .ok (.ireturn, 1) := by decide +kernel
theorem dX11_returnAt_0 : decode cX11_returnAt 0 = .ok (.aload_n 0, 1) := by decide +kernel
theorem dX11_returnAt_1 : decode cX11_returnAt 1 = .ok (.iload_n 1, 1) := by decide +kernel
theorem dX11_returnAt_2 : decode cX11_returnAt 2 = .ok (.iconst 0, 1) := by decide +kernel
theorem dX11_returnAt_3 : decode cX11_returnAt 3 = .ok (.aload_n 0, 1) := by decide +kernel
theorem dX11_returnAt_4 : decode cX11_returnAt 4 = .ok (.getfield 80, 3) := by decide +kernel
theorem dX11_returnAt_7 : decode cX11_returnAt 7 = .ok (.iconst 0, 1) := by decide +kernel
theorem dX11_returnAt_8 : decode cX11_returnAt 8 = .ok (.iaload, 1) := by decide +kernel
theorem dX11_returnAt_9 : decode cX11_returnAt 9 = .ok (.iconst 1, 1) := by decide +kernel
theorem dX11_returnAt_10 : decode cX11_returnAt 10 = .ok (.isub, 1) := by decide +kernel
theorem dX11_returnAt_11 : decode cX11_returnAt 11 = .ok (.invokestatic 129, 3) := by decide +kernel
theorem dX11_returnAt_14 : decode cX11_returnAt 14 = .ok (.ifCond .eq 7, 3) := by decide +kernel
theorem dX11_returnAt_17 : decode cX11_returnAt 17 = .ok (.iconst 0, 1) := by decide +kernel
theorem dX11_returnAt_18 : decode cX11_returnAt 18 = .ok (.goto 4, 3) := by decide +kernel
theorem dX11_returnAt_21 : decode cX11_returnAt 21 = .ok (.iconst 1, 1) := by decide +kernel
theorem dX11_returnAt_22 : decode cX11_returnAt 22 = .ok (.putfield 123, 3) := by decide +kernel
theorem dX11_returnAt_25 : decode cX11_returnAt 25 = .ok (.aload_n 0, 1) := by decide +kernel
theorem dX11_returnAt_26 : decode cX11_returnAt 26 = .ok (.getfield 123, 3) := by decide +kernel
theorem dX11_returnAt_29 : decode cX11_returnAt 29 = .ok (.ifCond .le 7, 3) := by decide +kernel
theorem dX11_returnAt_32 : decode cX11_returnAt 32 = .ok (.iconst 0, 1) := by decide +kernel
theorem dX11_returnAt_33 : decode cX11_returnAt 33 = .ok (.goto 16, 3) := by decide +kernel
theorem dX11_returnAt_36 : decode cX11_returnAt 36 = .ok (.aload_n 0, 1) := by decide +kernel
theorem dX11_returnAt_37 : decode cX11_returnAt 37 = .ok (.getfield 80, 3) := by decide +kernel
theorem dX11_returnAt_40 : decode cX11_returnAt 40 = .ok (.aload_n 0, 1) := by decide +kernel
theorem dX11_returnAt_41 : decode cX11_returnAt 41 = .ok (.getfield 80, 3) := by decide +kernel
theorem dX11_returnAt_44 : decode cX11_returnAt 44 = .ok (.iconst 0, 1) := by decide +kernel
theorem dX11_returnAt_45 : decode cX11_returnAt 45 = .ok (.iaload, 1) := by decide +kernel
theorem dX11_returnAt_46 : decode cX11_returnAt 46 = .ok (.iload_n 1, 1) := by decide +kernel
theorem dX11_returnAt_47 : decode cX11_returnAt 47 = .ok (.isub, 1) := by decide +kernel
theorem dX11_returnAt_48 : decode cX11_returnAt 48 = .ok (.iaload, 1) := by decide +kernel
theorem dX11_returnAt_49 : decode cX11_returnAt 49 = .ok (.ireturn, 1) := by decide +kernel
theorem dX11_counter_0 : decode cX11_counter 0 = .ok (.aload_n 0, 1) := by decide +kernel
theorem dX11_counter_1 : decode cX11_counter 1 = .ok (.iload_n 1, 1) := by decide +kernel
theorem dX11_counter_2 : decode cX11_counter 2 = .ok (.iconst 0, 1) := by decide +kernel
theorem dX11_counter_3 : decode cX11_counter 3 = .ok (.bipush 15, 2) := by decide +kernel
theorem dX11_counter_5 : decode cX11_counter 5 = .ok (.invokestatic 129, 3) := by decide +kernel
theorem dX11_counter_8 : decode cX11_counter 8 = .ok (.ifCond .eq 7, 3) := by decide +kernel
theorem dX11_counter_11 : decode cX11_counter 11 = .ok (.iconst 0, 1) := by decide +kernel
theorem dX11_counter_12 : decode cX11_counter 12 = .ok (.goto 4, 3) := by decide +kernel
theorem dX11_counter_15 : decode cX11_counter 15 = .ok (.iconst 1, 1) := by decide +kernel
theorem dX11_counter_16 : decode cX11_counter 16 = .ok (.putfield 123, 3) := by decide +kernel
theorem dX11_counter_19 : decode cX11_counter 19 = .ok (.aload_n 0, 1) := by decide +kernel
theorem dX11_counter_20 : decode cX11_counter 20 = .ok (.getfield 123, 3) := by decide +kernel
theorem dX11_counter_23 : decode cX11_counter 23 = .ok (.ifCond .le 7, 3) := by decide +kernel
theorem dX11_counter_26 : decode cX11_counter 26 = .ok (.iconst 0, 1) := by decide +kernel
theorem dX11_counter_27 : decode cX11_counter 27 = .ok (.goto 9, 3) := by decide +kernel
theorem dX11_counter_30 : decode cX11_counter 30 = .ok (.aload_n 0, 1) := by decide +kernel
theorem dX11_counter_31 : decode cX11_counter 31 = .ok (.getfield 83, 3) := by decide +kernel
theorem dX11_counter_34 : decode cX11_counter 34 = .ok (.iload_n 1, 1) := by decide +kernel
theorem dX11_counter_35 : decode cX11_counter 35 = .ok (.iaload, 1) := by decide +kernel
theorem dX11_counter_36 : decode cX11_counter 36 = .ok (.ireturn, 1) := by decide +kernel
theorem dX11_isMarked_0 : decode cX11_isMarked 0 = .ok (.aload_n 0, 1) := by decide +kernel
theorem dX11_isMarked_1 : decode cX11_isMarked 1 = .ok (.iload_n 1, 1) := by decide +kernel
theorem dX11_isMarked_2 : decode cX11_isMarked 2 = .ok (.iconst 0, 1) := by decide +kernel
theorem dX11_isMarked_3 : decode cX11_isMarked 3 = .ok (.bipush 15, 2) := by decide +kernel
theorem dX11_isMarked_5 : decode cX11_isMarked 5 = .ok (.invokestatic 129, 3) := by decide +kernel
theorem dX11_isMarked_8 : decode cX11_isMarked 8 = .ok (.ifCond .eq 7, 3) := by decide +kernel
theorem dX11_isMarked_11 : decode cX11_isMarked 11 = .ok (.iconst 0, 1) := by decide +kernel
theorem dX11_isMarked_12 : decode cX11_isMarked 12 = .ok (.goto 4, 3) := by decide +kernel
theorem dX11_isMarked_15 : decode cX11_isMarked 15 = .ok (.iconst 1, 1) := by decide +kernel
theorem dX11_isMarked_16 : decode cX11_isMarked 16 = .ok (.putfield 123, 3) := by decide +kernel
theorem dX11_isMarked_19 : decode cX11_isMarked 19 = .ok (.aload_n 0, 1) := by decide +kernel
theorem dX11_isMarked_20 : decode cX11_isMarked 20 = .ok (.getfield 123, 3) := by decide +kernel
theorem dX11_isMarked_23 : decode cX11_isMarked 23 = .ok (.ifCond .ne 16, 3) := by decide +kernel
theorem dX11_isMarked_26 : decode cX11_isMarked 26 = .ok (.aload_n 0, 1) := by decide +kernel
theorem dX11_isMarked_27 : decode cX11_isMarked 27 = .ok (.getfield 89, 3) := by decide +kernel
theorem dX11_isMarked_30 : decode cX11_isMarked 30 = .ok (.iload_n 1, 1) := by decide +kernel
theorem dX11_isMarked_31 : decode cX11_isMarked 31 = .ok (.baload, 1) := by decide +kernel
theorem dX11_isMarked_32 : decode cX11_isMarked 32 = .ok (.ifCond .eq 7, 3) := by decide +kernel
theorem dX11_isMarked_35 : decode cX11_isMarked 35 = .ok (.iconst 1, 1) := by decide +kernel
theorem dX11_isMarked_36 : decode cX11_isMarked 36 = .ok (.goto 4, 3) := by decide +kernel
theorem dX11_isMarked_39 : decode cX11_isMarked 39 = .ok (.iconst 0, 1) := by decide +kernel
theorem dX11_isMarked_40 : decode cX11_isMarked 40 = .ok (.ireturn, 1) := by decide +kernel
theorem dX11_lineAt_0 : decode cX11_lineAt 0 = .ok (.aload_n 0, 1) := by decide +kernel
theorem dX11_lineAt_1 : decode cX11_lineAt 1 = .ok (.iload_n 1, 1) := by decide +kernel
theorem dX11_lineAt_2 : decode cX11_lineAt 2 = .ok (.iconst 0, 1) := by decide +kernel
theorem dX11_lineAt_3 : decode cX11_lineAt 3 = .ok (.iconst 3, 1) := by decide +kernel
theorem dX11_lineAt_4 : decode cX11_lineAt 4 = .ok (.invokestatic 129, 3) := by decide +kernel
theorem dX11_lineAt_7 : decode cX11_lineAt 7 = .ok (.ifCond .eq 7, 3) := by decide +kernel
theorem dX11_lineAt_10 : decode cX11_lineAt 10 = .ok (.iconst 0, 1) := by decide +kernel
theorem dX11_lineAt_11 : decode cX11_lineAt 11 = .ok (.goto 4, 3) := by decide +kernel
theorem dX11_lineAt_14 : decode cX11_lineAt 14 = .ok (.iconst 1, 1) := by decide +kernel
theorem dX11_lineAt_15 : decode cX11_lineAt 15 = .ok (.putfield 123, 3) := by decide +kernel
theorem dX11_lineAt_18 : decode cX11_lineAt 18 = .ok (.aload_n 0, 1) := by decide +kernel
theorem dX11_lineAt_19 : decode cX11_lineAt 19 = .ok (.getfield 123, 3) := by decide +kernel
theorem dX11_lineAt_22 : decode cX11_lineAt 22 = .ok (.ifCond .le 7, 3) := by decide +kernel
theorem dX11_lineAt_25 : decode cX11_lineAt 25 = .ok (.iconst 0, 1) := by decide +kernel
theorem dX11_lineAt_26 : decode cX11_lineAt 26 = .ok (.goto 9, 3) := by decide +kernel
theorem dX11_lineAt_29 : decode cX11_lineAt 29 = .ok (.aload_n 0, 1) := by decide +kernel
theorem dX11_lineAt_30 : decode cX11_lineAt 30 = .ok (.getfield 92, 3) := by decide +kernel
theorem dX11_lineAt_33 : decode cX11_lineAt 33 = .ok (.iload_n 1, 1) := by decide +kernel
theorem dX11_lineAt_34 : decode cX11_lineAt 34 = .ok (.iaload, 1) := by decide +kernel
theorem dX11_lineAt_35 : decode cX11_lineAt 35 = .ok (.ireturn, 1) := by decide +kernel
theorem dX11_asked_0 : decode cX11_asked 0 = .ok (.aload_n 0, 1) := by decide +kernel
theorem dX11_asked_1 : decode cX11_asked 1 = .ok (.iconst 0, 1) := by decide +kernel
theorem dX11_asked_2 : decode cX11_asked 2 = .ok (.putfield 123, 3) := by decide +kernel
theorem dX11_asked_5 : decode cX11_asked 5 = .ok (.aload_n 0, 1) := by decide +kernel
theorem dX11_asked_6 : decode cX11_asked 6 = .ok (.getfield 222, 3) := by decide +kernel
theorem dX11_asked_9 : decode cX11_asked 9 = .ok (.ireturn, 1) := by decide +kernel
theorem dX11_lost_0 : decode cX11_lost 0 = .ok (.aload_n 0, 1) := by decide +kernel
theorem dX11_lost_1 : decode cX11_lost 1 = .ok (.iload_n 1, 1) := by decide +kernel
theorem dX11_lost_2 : decode cX11_lost 2 = .ok (.invokestatic 324, 3) := by decide +kernel
theorem dX11_lost_5 : decode cX11_lost 5 = .ok (.iconst (-1), 1) := by decide +kernel
theorem dX11_lost_6 : decode cX11_lost 6 = .ok (.if_icmp .ne 7, 3) := by decide +kernel
theorem dX11_lost_9 : decode cX11_lost 9 = .ok (.iconst 1, 1) := by decide +kernel
theorem dX11_lost_10 : decode cX11_lost 10 = .ok (.goto 4, 3) := by decide +kernel
theorem dX11_lost_13 : decode cX11_lost 13 = .ok (.iconst 0, 1) := by decide +kernel
theorem dX11_lost_14 : decode cX11_lost 14 = .ok (.putfield 123, 3) := by decide +kernel
theorem dX11_lost_17 : decode cX11_lost 17 = .ok (.aload_n 0, 1) := by decide +kernel
theorem dX11_lost_18 : decode cX11_lost 18 = .ok (.getfield 123, 3) := by decide +kernel
theorem dX11_lost_21 : decode cX11_lost 21 = .ok (.ifCond .le 7, 3) := by decide +kernel
theorem dX11_lost_24 : decode cX11_lost 24 = .ok (.iconst 0, 1) := by decide +kernel
theorem dX11_lost_25 : decode cX11_lost 25 = .ok (.goto 12, 3) := by decide +kernel
theorem dX11_lost_28 : decode cX11_lost 28 = .ok (.aload_n 0, 1) := by decide +kernel
theorem dX11_lost_29 : decode cX11_lost 29 = .ok (.getfield 111, 3) := by decide +kernel
theorem dX11_lost_32 : decode cX11_lost 32 = .ok (.iload_n 1, 1) := by decide +kernel
theorem dX11_lost_33 : decode cX11_lost 33 = .ok (.invokestatic 324, 3) := by decide +kernel
theorem dX11_lost_36 : decode cX11_lost 36 = .ok (.iaload, 1) := by decide +kernel
theorem dX11_lost_37 : decode cX11_lost 37 = .ok (.ireturn, 1) := by decide +kernel
theorem dX11_wrong_0 : decode cX11_wrong 0 = .ok (.aload_n 0, 1) := by decide +kernel
theorem dX11_wrong_1 : decode cX11_wrong 1 = .ok (.iconst 0, 1) := by decide +kernel
theorem dX11_wrong_2 : decode cX11_wrong 2 = .ok (.putfield 123, 3) := by decide +kernel
theorem dX11_wrong_5 : decode cX11_wrong 5 = .ok (.aload_n 0, 1) := by decide +kernel
theorem dX11_wrong_6 : decode cX11_wrong 6 = .ok (.getfield 283, 3) := by decide +kernel
theorem dX11_wrong_9 : decode cX11_wrong 9 = .ok (.ireturn, 1) := by decide +kernel
theorem dX11_early_0 : decode cX11_early 0 = .ok (.aload_n 0, 1) := by decide +kernel
theorem dX11_early_1 : decode cX11_early 1 = .ok (.iconst 0, 1) := by decide +kernel
theorem dX11_early_2 : decode cX11_early 2 = .ok (.putfield 123, 3) := by decide +kernel
theorem dX11_early_5 : decode cX11_early 5 = .ok (.aload_n 0, 1) := by decide +kernel
theorem dX11_early_6 : decode cX11_early 6 = .ok (.getfield 268, 3) := by decide +kernel
theorem dX11_early_9 : decode cX11_early 9 = .ok (.ireturn, 1) := by decide +kernel
theorem dX11_thrownAway_0 : decode cX11_thrownAway 0 = .ok (.aload_n 0, 1) := by decide +kernel
theorem dX11_thrownAway_1 : decode cX11_thrownAway 1 = .ok (.iconst 0, 1) := by decide +kernel
theorem dX11_thrownAway_2 : decode cX11_thrownAway 2 = .ok (.putfield 123, 3) := by decide +kernel
theorem dX11_thrownAway_5 : decode cX11_thrownAway 5 = .ok (.aload_n 0, 1) := by decide +kernel
theorem dX11_thrownAway_6 : decode cX11_thrownAway 6 = .ok (.getfield 253, 3) := by decide +kernel
theorem dX11_thrownAway_9 : decode cX11_thrownAway 9 = .ok (.ireturn, 1) := by decide +kernel
theorem dX11_taken_0 : decode cX11_taken 0 = .ok (.aload_n 0, 1) := by decide +kernel
theorem dX11_taken_1 : decode cX11_taken 1 = .ok (.iconst 0, 1) := by decide +kernel
theorem dX11_taken_2 : decode cX11_taken 2 = .ok (.putfield 123, 3) := by decide +kernel
theorem dX11_taken_5 : decode cX11_taken 5 = .ok (.aload_n 0, 1) := by decide +kernel
theorem dX11_taken_6 : decode cX11_taken 6 = .ok (.getfield 234, 3) := by decide +kernel
theorem dX11_taken_9 : decode cX11_taken 9 = .ok (.ireturn, 1) := by decide +kernel
theorem dX11_hits_0 : decode cX11_hits 0 = .ok (.aload_n 0, 1) := by decide +kernel
theorem dX11_hits_1 : decode cX11_hits 1 = .ok (.iconst 0, 1) := by decide +kernel
theorem dX11_hits_2 : decode cX11_hits 2 = .ok (.putfield 123, 3) := by decide +kernel
theorem dX11_hits_5 : decode cX11_hits 5 = .ok (.aload_n 0, 1) := by decide +kernel
theorem dX11_hits_6 : decode cX11_hits 6 = .ok (.getfield 237, 3) := by decide +kernel
theorem dX11_hits_9 : decode cX11_hits 9 = .ok (.i2l, 1) := by decide +kernel
theorem dX11_hits_10 : decode cX11_hits 10 = .ok (.ldc2_w 365, 3) := by decide +kernel
theorem dX11_hits_13 : decode cX11_hits 13 = .ok (.aload_n 0, 1) := by decide +kernel
theorem dX11_hits_14 : decode cX11_hits 14 = .ok (.getfield 243, 3) := by decide +kernel
theorem dX11_hits_17 : decode cX11_hits 17 = .ok (.i2l, 1) := by decide +kernel
theorem dX11_hits_18 : decode cX11_hits 18 = .ok (.lmul, 1) := by decide +kernel
theorem dX11_hits_19 : decode cX11_hits 19 = .ok (.ladd, 1) := by decide +kernel
theorem dX11_hits_20 : decode cX11_hits 20 = .ok (.lreturn, 1) := by decide +kernel
theorem dX11_share_0 : decode cX11_share 0 = .ok (.aload_n 0, 1) := by decide +kernel
theorem dX11_share_1 : decode cX11_share 1 = .ok (.aload_n 0, 1) := by decide +kernel
theorem dX11_share_2 : decode cX11_share 2 = .ok (.getfield 133, 3) := by decide +kernel
theorem dX11_share_5 : decode cX11_share 5 = .ok (.ifCond .ne 7, 3) := by decide +kernel
theorem dX11_share_8 : decode cX11_share 8 = .ok (.iconst 1, 1) := by decide +kernel
theorem dX11_share_9 : decode cX11_share 9 = .ok (.goto 4, 3) := by decide +kernel
theorem dX11_share_12 : decode cX11_share 12 = .ok (.iconst 0, 1) := by decide +kernel
theorem dX11_share_13 : decode cX11_share 13 = .ok (.putfield 123, 3) := by decide +kernel
theorem dX11_share_16 : decode cX11_share 16 = .ok (.aload_n 0, 1) := by decide +kernel
theorem dX11_share_17 : decode cX11_share 17 = .ok (.getfield 123, 3) := by decide +kernel
theorem dX11_share_20 : decode cX11_share 20 = .ok (.ifCond .le 7, 3) := by decide +kernel
theorem dX11_share_23 : decode cX11_share 23 = .ok (.fconst 0, 1) := by decide +kernel
theorem dX11_share_24 : decode cX11_share 24 = .ok (.goto 14, 3) := by decide +kernel
theorem dX11_share_27 : decode cX11_share 27 = .ok (.aload_n 0, 1) := by decide +kernel
theorem dX11_share_28 : decode cX11_share 28 = .ok (.getfield 150, 3) := by decide +kernel
theorem dX11_share_31 : decode cX11_share 31 = .ok (.i2f, 1) := by decide +kernel
theorem dX11_share_32 : decode cX11_share 32 = .ok (.aload_n 0, 1) := by decide +kernel
theorem dX11_share_33 : decode cX11_share 33 = .ok (.getfield 133, 3) := by decide +kernel
theorem dX11_share_36 : decode cX11_share 36 = .ok (.i2f, 1) := by decide +kernel
theorem dX11_share_37 : decode cX11_share 37 = .ok (.fdiv, 1) := by decide +kernel
theorem dX11_share_38 : decode cX11_share 38 = .ok (.freturn, 1) := by decide +kernel
theorem dX11_isSame_0 : decode cX11_isSame 0 = .ok (.aload_n 0, 1) := by decide +kernel
theorem dX11_isSame_1 : decode cX11_isSame 1 = .ok (.iconst 0, 1) := by decide +kernel
theorem dX11_isSame_2 : decode cX11_isSame 2 = .ok (.putfield 123, 3) := by decide +kernel
theorem dX11_isSame_5 : decode cX11_isSame 5 = .ok (.iconst 1, 1) := by decide +kernel
theorem dX11_isSame_6 : decode cX11_isSame 6 = .ok (.ireturn, 1) := by decide +kernel
theorem dX11_isWhole_0 : decode cX11_isWhole 0 = .ok (.aload_n 0, 1) := by decide +kernel
theorem dX11_isWhole_1 : decode cX11_isWhole 1 = .ok (.iconst 0, 1) := by decide +kernel
theorem dX11_isWhole_2 : decode cX11_isWhole 2 = .ok (.putfield 123, 3) := by decide +kernel
theorem dX11_isWhole_5 : decode cX11_isWhole 5 = .ok (.iconst 1, 1) := by decide +kernel
theorem dX11_isWhole_6 : decode cX11_isWhole 6 = .ok (.ireturn, 1) := by decide +kernel
def mX11_inBuffer : MD := (cX11_inBuffer, RX11, yX11_inBuffer, 1, (some .int), 0, 0)
theorem mf_X11_inBuffer : MF mX11_inBuffer 0 := MF.of 2036 90 (by decide +kernel) (by decide +kernel) (by decide +kernel) (by decide +kernel) (by decide +kernel) rfl
def mX11_bufferAt : MD := (cX11_bufferAt, RX11, yX11_bufferAt, 2, (some .int), 1, 22)
theorem mf_X11_bufferAt : MF mX11_bufferAt 1 := MF.of 2040 90 (by decide +kernel) (by decide +kernel) (by decide +kernel) (by decide +kernel) (by decide +kernel) rfl
def mX11_stageAt : MD := (cX11_stageAt, RX11, yX11_stageAt, 2, (some .char), 1, 22)
theorem mf_X11_stageAt : MF mX11_stageAt 1 := MF.of 2044 90 (by decide +kernel) (by decide +kernel) (by decide +kernel) (by decide +kernel) (by decide +kernel) rfl
def mX11_inQueue : MD := (cX11_inQueue, RX11, yX11_inQueue, 1, (some .int), 1, 22)
theorem mf_X11_inQueue : MF mX11_inQueue 0 := MF.of 2048 90 (by decide +kernel) (by decide +kernel) (by decide +kernel) (by decide +kernel) (by decide +kernel) rfl
def mX11_fetched : MD := (cX11_fetched, RX11, yX11_fetched, 1, (some .int), 0, 0)
theorem mf_X11_fetched : MF mX11_fetched 0 := MF.of 2052 90 (by decide +kernel) (by decide +kernel) (by decide +kernel) (by decide +kernel) (by decide +kernel) rfl
def mX11_fetching : MD := (cX11_fetching, RX11, yX11_fetching, 1, (some .int), 0, 0)
theorem mf_X11_fetching : MF mX11_fetching 0 := MF.of 2056 90 (by decide +kernel) (by decide +kernel) (by decide +kernel) (by decide +kernel) (by decide +kernel) rfl
def mX11_returns : MD := (cX11_returns, RX11, yX11_returns, 1, (some .int), 0, 0)
theorem mf_X11_returns : MF mX11_returns 0 := MF.of 2060 90 (by decide +kernel) (by decide +kernel) (by decide +kernel) (by decide +kernel) (by decide +kernel) rfl
def mX11_returnAt : MD := (cX11_returnAt, RX11, yX11_returnAt, 2, (some .int), 1, 22)
theorem mf_X11_returnAt : MF mX11_returnAt 1 := MF.of 2064 90 (by decide +kernel) (by decide +kernel) (by decide +kernel) (by decide +kernel) (by decide +kernel) rfl
def mX11_counter : MD := (cX11_counter, RX11, yX11_counter, 2, (some .int), 1, 22)
theorem mf_X11_counter : MF mX11_counter 1 := MF.of 2068 90 (by decide +kernel) (by decide +kernel) (by decide +kernel) (by decide +kernel) (by decide +kernel) rfl
def mX11_isMarked : MD := (cX11_isMarked, RX11, yX11_isMarked, 2, (some .boolean), 1, 22)
theorem mf_X11_isMarked : MF mX11_isMarked 1 := MF.of 2072 90 (by decide +kernel) (by decide +kernel) (by decide +kernel) (by decide +kernel) (by decide +kernel) rfl
def mX11_lineAt : MD := (cX11_lineAt, RX11, yX11_lineAt, 2, (some .int), 1, 22)
theorem mf_X11_lineAt : MF mX11_lineAt 1 := MF.of 2076 90 (by decide +kernel) (by decide +kernel) (by decide +kernel) (by decide +kernel) (by decide +kernel) rfl
def mX11_asked : MD := (cX11_asked, RX11, yX11_asked, 1, (some .int), 0, 0)
theorem mf_X11_asked : MF mX11_asked 0 := MF.of 2080 90 (by decide +kernel) (by decide +kernel) (by decide +kernel) (by decide +kernel) (by decide +kernel) rfl
def mX11_lost : MD := (cX11_lost, RX11, yX11_lost, 2, (some .int), 1, 20)
theorem mf_X11_lost : MF mX11_lost 1 := MF.of 2084 90 (by decide +kernel) (by decide +kernel) (by decide +kernel) (by decide +kernel) (by decide +kernel) rfl
def mX11_wrong : MD := (cX11_wrong, RX11, yX11_wrong, 1, (some .int), 0, 0)
theorem mf_X11_wrong : MF mX11_wrong 0 := MF.of 2088 90 (by decide +kernel) (by decide +kernel) (by decide +kernel) (by decide +kernel) (by decide +kernel) rfl
def mX11_early : MD := (cX11_early, RX11, yX11_early, 1, (some .int), 0, 0)
theorem mf_X11_early : MF mX11_early 0 := MF.of 2092 90 (by decide +kernel) (by decide +kernel) (by decide +kernel) (by decide +kernel) (by decide +kernel) rfl
def mX11_thrownAway : MD := (cX11_thrownAway, RX11, yX11_thrownAway, 1, (some .int), 0, 0)
theorem mf_X11_thrownAway : MF mX11_thrownAway 0 := MF.of 2096 90 (by decide +kernel) (by decide +kernel) (by decide +kernel) (by decide +kernel) (by decide +kernel) rfl
def mX11_taken : MD := (cX11_taken, RX11, yX11_taken, 1, (some .int), 0, 0)
theorem mf_X11_taken : MF mX11_taken 0 := MF.of 2100 90 (by decide +kernel) (by decide +kernel) (by decide +kernel) (by decide +kernel) (by decide +kernel) rfl
def mX11_hits : MD := (cX11_hits, RX11, yX11_hits, 1, (some .long), 0, 0)
theorem mf_X11_hits : MF mX11_hits 0 := MF.of 2104 90 (by decide +kernel) (by decide +kernel) (by decide +kernel) (by decide +kernel) (by decide +kernel) rfl
def mX11_share : MD := (cX11_share, RX11, yX11_share, 1, (some .float), 0, 0)
theorem mf_X11_share : MF mX11_share 0 := MF.of 2109 90 (by decide +kernel) (by decide +kernel) (by decide +kernel) (by decide +kernel) (by decide +kernel) rfl
def mX11_isSame : MD := (cX11_isSame, RX11, yX11_isSame, 1, (some .boolean), 0, 0)
theorem mf_X11_isSame : MF mX11_isSame 0 := MF.of 2113 90 (by decide +kernel) (by decide +kernel) (by decide +kernel) (by decide +kernel) (by decide +kernel) rfl
def mX11_isWhole : MD := (cX11_isWhole, RX11, yX11_isWhole, 1, (some .boolean), 0, 0)
theorem mf_X11_isWhole : MF mX11_isWhole 0 := MF.of 2117 90 (by decide +kernel) (by decide +kernel) (by decide +kernel) (by decide +kernel) (by decide +kernel) rfl
theorem lc_X11_365 : Cond.constantLong RX11 365 1000 ∈ lw_tbl := List.mem_of_getElem? (i := 2105) (by decide +kernel)
def f_X11_inBuffer (a0 : Nat) (μ : Mm) : Option (Int32 × Mm) :=
  ck (mK μ a0 = 112) <|
  zl (sI μ a0 54 0) fun μ2 =>
  some (mI μ2 a0 23, μ2)
set_option maxRecDepth 100000 in
theorem s_X11_inBuffer {l : Launch} {G : Gt} (hG : Gok l G) (a0 : Nat) (μ : Mm) (r : Int32) (μ' : Mm) (h : f_X11_inBuffer a0 μ = some (r, μ')) : ZX l G mX11_inBuffer 0 [(0, .ref a0)] [] μ (.inl (some (.int r))) μ' := by
  unfold f_X11_inBuffer at h
  refine zx_aload_n dX11_inBuffer_0 rfl (q := 0) rfl ?_
  refine zx_iconst (v := 0) dX11_inBuffer_1 iv_iconst_0 ?_
  obtain ⟨h1, h⟩ := ck_e h
  refine zx_putI hG fl_X11_123 fn_12_54 h1 dX11_inBuffer_2 ?_
  obtain ⟨μ2, e4, h⟩ := zlm_e h
  refine zx_mem e4 ?_
  have e3 : mK μ2 = mK μ := (congrArg mK e4).trans rfl
  refine zx_aload_n dX11_inBuffer_5 rfl (q := 0) rfl ?_
  refine zx_getI hG fl_X11_198 (kp_o (e3) h1) dX11_inBuffer_6 ?_
  cases h
  exact zx_iret dX11_inBuffer_9 rfl
def f_X11_bufferAt_b20 (a0 : Nat) (x1 : Int32) (s0 : Int32) (s1 : Nat) (μ : Mm) : Option (Int32 × Mm) :=
  ck (mK μ s1 = 112) <|
  zl (sI μ s1 54 s0) fun μ6 =>
  ck (mK μ6 a0 = 112) <|
  if (mI μ6 a0 54) ≤ 0 then
    bd (mR μ6 a0 22) fun p11 =>
    ck (isA56 (mK μ6 p11)) <|
    ck (inb x1 (mL μ6 p11)) <|
    bd (mR μ6 p11 (Int32.toNatClampNeg x1)) fun p15 =>
    ck (isA 1 (mK μ6 p15)) <|
    ck (inb 0 (mL μ6 p15)) <|
    some (mI μ6 p15 (Int32.toNatClampNeg 0), μ6)
  else
    some (0, μ6)
def f_X11_bufferAt (a0 : Nat) (x1 : Int32) (μ : Mm) : Option (Int32 × Mm) :=
  ck (mK μ a0 = 112) <|
  bd (f_X11_in x1 0 ((mI μ a0 23) - 1)) fun y2 =>
  if y2 = 0 then
    f_X11_bufferAt_b20 a0 x1 1 a0 μ
  else
    f_X11_bufferAt_b20 a0 x1 0 a0 μ
set_option maxRecDepth 100000 in
theorem s_X11_bufferAt_b20 {l : Launch} {G : Gt} (hG : Gok l G) (a0 : Nat) (x1 : Int32) (s0 : Int32) (s1 : Nat) (μ : Mm) (r : Int32) (μ' : Mm) (h : f_X11_bufferAt_b20 a0 x1 s0 s1 μ = some (r, μ')) : ZX l G mX11_bufferAt 20 [(0, .ref a0), (1, .int x1)] [.int s0, .ref s1] μ (.inl (some (.int r))) μ' := by
  unfold f_X11_bufferAt_b20 at h
  obtain ⟨h5, h⟩ := ck_e h
  refine zx_putI hG fl_X11_123 fn_12_54 h5 dX11_bufferAt_20 ?_
  obtain ⟨μ6, e8, h⟩ := zlm_e h
  refine zx_mem e8 ?_
  have e7 : mK μ6 = mK μ := (congrArg mK e8).trans rfl
  refine zx_aload_n dX11_bufferAt_23 rfl (q := 0) rfl ?_
  obtain ⟨h9, h⟩ := ck_e h
  refine zx_getI hG fl_X11_123 h9 dX11_bufferAt_24 ?_
  by_cases c10 : (mI μ6 a0 54) ≤ 0
  · have h := it_t c10 h
    refine zx_if_le_t (tgt := 34) dX11_bufferAt_27 (by decide) c10 ?_
    refine zx_aload_n dX11_bufferAt_34 rfl (q := 0) rfl ?_
    obtain ⟨p11, h12, h⟩ := bd_e h
    refine zx_getR hG fl_X11_74 h9 h12 dX11_bufferAt_35 ?_
    refine zx_iload_n dX11_bufferAt_38 rfl (q := 1) rfl ?_
    obtain ⟨h13, h⟩ := ck_e h
    obtain ⟨h14, h⟩ := ck_e h
    obtain ⟨p15, h16, h⟩ := bd_e h
    refine zx_aald hG rfl (h13).1 (h13).2 (inb_e h14) h16 dX11_bufferAt_39 ?_
    refine zx_iconst (v := 0) dX11_bufferAt_40 iv_iconst_0 ?_
    obtain ⟨h17, h⟩ := ck_e h
    obtain ⟨h18, h⟩ := ck_e h
    refine zx_iald hG rfl (h17).1 (h17).2 (inb_e h18) dX11_bufferAt_41 ?_
    cases h
    exact zx_iret dX11_bufferAt_42 rfl
  · have h := it_f c10 h
    refine zx_if_le_f (tgt := 34) dX11_bufferAt_27 (by decide) c10 ?_
    refine zx_iconst (v := 0) dX11_bufferAt_30 iv_iconst_0 ?_
    refine zx_goto (tgt := 42) dX11_bufferAt_31 (by decide) ?_
    cases h
    exact zx_iret dX11_bufferAt_42 rfl
set_option maxRecDepth 100000 in
theorem s_X11_bufferAt {l : Launch} {G : Gt} (hG : Gok l G) (a0 : Nat) (x1 : Int32) (μ : Mm) (r : Int32) (μ' : Mm) (h : f_X11_bufferAt a0 x1 μ = some (r, μ')) : ZX l G mX11_bufferAt 0 [(0, .ref a0), (1, .int x1)] [] μ (.inl (some (.int r))) μ' := by
  unfold f_X11_bufferAt at h
  refine zx_aload_n dX11_bufferAt_0 rfl (q := 0) rfl ?_
  refine zx_iload_n dX11_bufferAt_1 rfl (q := 1) rfl ?_
  refine zx_iconst (v := 0) dX11_bufferAt_2 iv_iconst_0 ?_
  refine zx_aload_n dX11_bufferAt_3 rfl (q := 0) rfl ?_
  obtain ⟨h1, h⟩ := ck_e h
  refine zx_getI hG fl_X11_198 h1 dX11_bufferAt_4 ?_
  refine zx_iconst (v := 1) dX11_bufferAt_7 iv_iconst_1 ?_
  refine zx_isub dX11_bufferAt_8 ?_
  obtain ⟨y2, z3, h⟩ := bd_e h
  refine zx_callS (As := [.int x1, .int 0, .int ((mI μ a0 23) - 1)]) hG mf_X11_in cs_X11_129 ⟨by decide, by decide⟩ rfl rfl (Nat.le_of_ble_eq_true rfl) (s_X11_in hG _ _ _ _ _ z3) (Nat.le_of_ble_eq_true rfl) dX11_bufferAt_9 ?_
  by_cases c4 : y2 = 0
  · have h := it_t c4 h
    refine zx_if_eq_t (tgt := 19) dX11_bufferAt_12 (by decide) c4 ?_
    refine zx_iconst (v := 1) dX11_bufferAt_19 iv_iconst_1 ?_
    exact s_X11_bufferAt_b20 hG _ _ _ _ _ _ _ h
  · have h := it_f c4 h
    refine zx_if_eq_f (tgt := 19) dX11_bufferAt_12 (by decide) c4 ?_
    refine zx_iconst (v := 0) dX11_bufferAt_15 iv_iconst_0 ?_
    refine zx_goto (tgt := 20) dX11_bufferAt_16 (by decide) ?_
    exact s_X11_bufferAt_b20 hG _ _ _ _ _ _ _ h
def f_X11_stageAt_b20 (a0 : Nat) (x1 : Int32) (s0 : Int32) (s1 : Nat) (μ : Mm) : Option (Int32 × Mm) :=
  ck (mK μ s1 = 112) <|
  zl (sI μ s1 54 s0) fun μ6 =>
  ck (mK μ6 a0 = 112) <|
  if (mI μ6 a0 54) ≤ 0 then
    bd (mR μ6 a0 22) fun p11 =>
    ck (isA56 (mK μ6 p11)) <|
    ck (inb x1 (mL μ6 p11)) <|
    bd (mR μ6 p11 (Int32.toNatClampNeg x1)) fun p15 =>
    ck (isA 1 (mK μ6 p15)) <|
    ck (inb 11 (mL μ6 p15)) <|
    ck (zc (zc (mI μ6 p15 (Int32.toNatClampNeg 11))) = (zc (mI μ6 p15 (Int32.toNatClampNeg 11)))) <|
    some (zc (mI μ6 p15 (Int32.toNatClampNeg 11)), μ6)
  else
    some (32, μ6)
def f_X11_stageAt (a0 : Nat) (x1 : Int32) (μ : Mm) : Option (Int32 × Mm) :=
  ck (mK μ a0 = 112) <|
  bd (f_X11_in x1 0 ((mI μ a0 23) - 1)) fun y2 =>
  if y2 = 0 then
    f_X11_stageAt_b20 a0 x1 1 a0 μ
  else
    f_X11_stageAt_b20 a0 x1 0 a0 μ
set_option maxRecDepth 100000 in
theorem s_X11_stageAt_b20 {l : Launch} {G : Gt} (hG : Gok l G) (a0 : Nat) (x1 : Int32) (s0 : Int32) (s1 : Nat) (μ : Mm) (r : Int32) (μ' : Mm) (h : f_X11_stageAt_b20 a0 x1 s0 s1 μ = some (r, μ')) : ZX l G mX11_stageAt 20 [(0, .ref a0), (1, .int x1)] [.int s0, .ref s1] μ (.inl (some (.int r))) μ' := by
  unfold f_X11_stageAt_b20 at h
  obtain ⟨h5, h⟩ := ck_e h
  refine zx_putI hG fl_X11_123 fn_12_54 h5 dX11_stageAt_20 ?_
  obtain ⟨μ6, e8, h⟩ := zlm_e h
  refine zx_mem e8 ?_
  have e7 : mK μ6 = mK μ := (congrArg mK e8).trans rfl
  refine zx_aload_n dX11_stageAt_23 rfl (q := 0) rfl ?_
  obtain ⟨h9, h⟩ := ck_e h
  refine zx_getI hG fl_X11_123 h9 dX11_stageAt_24 ?_
  by_cases c10 : (mI μ6 a0 54) ≤ 0
  · have h := it_t c10 h
    refine zx_if_le_t (tgt := 35) dX11_stageAt_27 (by decide) c10 ?_
    refine zx_aload_n dX11_stageAt_35 rfl (q := 0) rfl ?_
    obtain ⟨p11, h12, h⟩ := bd_e h
    refine zx_getR hG fl_X11_74 h9 h12 dX11_stageAt_36 ?_
    refine zx_iload_n dX11_stageAt_39 rfl (q := 1) rfl ?_
    obtain ⟨h13, h⟩ := ck_e h
    obtain ⟨h14, h⟩ := ck_e h
    obtain ⟨p15, h16, h⟩ := bd_e h
    refine zx_aald hG rfl (h13).1 (h13).2 (inb_e h14) h16 dX11_stageAt_40 ?_
    refine zx_bipush (v := 11) dX11_stageAt_41 iv_bipush_11 ?_
    obtain ⟨h17, h⟩ := ck_e h
    obtain ⟨h18, h⟩ := ck_e h
    refine zx_iald hG rfl (h17).1 (h17).2 (inb_e h18) dX11_stageAt_43 ?_
    refine zx_i2c dX11_stageAt_44 ?_
    obtain ⟨h19, h⟩ := ck_e h
    cases h
    exact zx_zretC dX11_stageAt_45 rfl h19
  · have h := it_f c10 h
    refine zx_if_le_f (tgt := 35) dX11_stageAt_27 (by decide) c10 ?_
    refine zx_bipush (v := 32) dX11_stageAt_30 iv_bipush_32 ?_
    refine zx_goto (tgt := 45) dX11_stageAt_32 (by decide) ?_
    cases h
    exact zx_zretC dX11_stageAt_45 rfl (show zc 32 = 32 by decide)
set_option maxRecDepth 100000 in
theorem s_X11_stageAt {l : Launch} {G : Gt} (hG : Gok l G) (a0 : Nat) (x1 : Int32) (μ : Mm) (r : Int32) (μ' : Mm) (h : f_X11_stageAt a0 x1 μ = some (r, μ')) : ZX l G mX11_stageAt 0 [(0, .ref a0), (1, .int x1)] [] μ (.inl (some (.int r))) μ' := by
  unfold f_X11_stageAt at h
  refine zx_aload_n dX11_stageAt_0 rfl (q := 0) rfl ?_
  refine zx_iload_n dX11_stageAt_1 rfl (q := 1) rfl ?_
  refine zx_iconst (v := 0) dX11_stageAt_2 iv_iconst_0 ?_
  refine zx_aload_n dX11_stageAt_3 rfl (q := 0) rfl ?_
  obtain ⟨h1, h⟩ := ck_e h
  refine zx_getI hG fl_X11_198 h1 dX11_stageAt_4 ?_
  refine zx_iconst (v := 1) dX11_stageAt_7 iv_iconst_1 ?_
  refine zx_isub dX11_stageAt_8 ?_
  obtain ⟨y2, z3, h⟩ := bd_e h
  refine zx_callS (As := [.int x1, .int 0, .int ((mI μ a0 23) - 1)]) hG mf_X11_in cs_X11_129 ⟨by decide, by decide⟩ rfl rfl (Nat.le_of_ble_eq_true rfl) (s_X11_in hG _ _ _ _ _ z3) (Nat.le_of_ble_eq_true rfl) dX11_stageAt_9 ?_
  by_cases c4 : y2 = 0
  · have h := it_t c4 h
    refine zx_if_eq_t (tgt := 19) dX11_stageAt_12 (by decide) c4 ?_
    refine zx_iconst (v := 1) dX11_stageAt_19 iv_iconst_1 ?_
    exact s_X11_stageAt_b20 hG _ _ _ _ _ _ _ h
  · have h := it_f c4 h
    refine zx_if_eq_f (tgt := 19) dX11_stageAt_12 (by decide) c4 ?_
    refine zx_iconst (v := 0) dX11_stageAt_15 iv_iconst_0 ?_
    refine zx_goto (tgt := 20) dX11_stageAt_16 (by decide) ?_
    exact s_X11_stageAt_b20 hG _ _ _ _ _ _ _ h
def f_X11_inQueue (a0 : Nat) (μ : Mm) : Option (Int32 × Mm) :=
  ck (mK μ a0 = 112) <|
  zl (sI μ a0 54 0) fun μ2 =>
  bd (f_X11_inQueueNow a0 μ2) fun y5 =>
  some (y5, μ2)
set_option maxRecDepth 100000 in
theorem s_X11_inQueue {l : Launch} {G : Gt} (hG : Gok l G) (a0 : Nat) (μ : Mm) (r : Int32) (μ' : Mm) (h : f_X11_inQueue a0 μ = some (r, μ')) : ZX l G mX11_inQueue 0 [(0, .ref a0)] [] μ (.inl (some (.int r))) μ' := by
  unfold f_X11_inQueue at h
  refine zx_aload_n dX11_inQueue_0 rfl (q := 0) rfl ?_
  refine zx_iconst (v := 0) dX11_inQueue_1 iv_iconst_0 ?_
  obtain ⟨h1, h⟩ := ck_e h
  refine zx_putI hG fl_X11_123 fn_12_54 h1 dX11_inQueue_2 ?_
  obtain ⟨μ2, e4, h⟩ := zlm_e h
  refine zx_mem e4 ?_
  have e3 : mK μ2 = mK μ := (congrArg mK e4).trans rfl
  refine zx_aload_n dX11_inQueue_5 rfl (q := 0) rfl ?_
  obtain ⟨y5, z6, h⟩ := bd_e h
  refine zx_callV (As := []) hG mf_X11_inQueueNow cv_X11_215 (kp_o (e3) h1) ⟨by decide, by decide⟩ rfl rfl (Nat.le_of_ble_eq_true rfl) (s_X11_inQueueNow hG _ _ _ z6) (Nat.le_of_ble_eq_true rfl) dX11_inQueue_6 ?_
  cases h
  exact zx_iret dX11_inQueue_9 rfl
def f_X11_fetched (a0 : Nat) (μ : Mm) : Option (Int32 × Mm) :=
  ck (mK μ a0 = 112) <|
  zl (sI μ a0 54 0) fun μ2 =>
  some (mI μ2 a0 25, μ2)
set_option maxRecDepth 100000 in
theorem s_X11_fetched {l : Launch} {G : Gt} (hG : Gok l G) (a0 : Nat) (μ : Mm) (r : Int32) (μ' : Mm) (h : f_X11_fetched a0 μ = some (r, μ')) : ZX l G mX11_fetched 0 [(0, .ref a0)] [] μ (.inl (some (.int r))) μ' := by
  unfold f_X11_fetched at h
  refine zx_aload_n dX11_fetched_0 rfl (q := 0) rfl ?_
  refine zx_iconst (v := 0) dX11_fetched_1 iv_iconst_0 ?_
  obtain ⟨h1, h⟩ := ck_e h
  refine zx_putI hG fl_X11_123 fn_12_54 h1 dX11_fetched_2 ?_
  obtain ⟨μ2, e4, h⟩ := zlm_e h
  refine zx_mem e4 ?_
  have e3 : mK μ2 = mK μ := (congrArg mK e4).trans rfl
  refine zx_aload_n dX11_fetched_5 rfl (q := 0) rfl ?_
  refine zx_getI hG fl_X11_177 (kp_o (e3) h1) dX11_fetched_6 ?_
  cases h
  exact zx_iret dX11_fetched_9 rfl
def f_X11_fetching_b13 (a0 : Nat) (s0 : Int32) (s1 : Nat) (μ : Mm) : Option (Int32 × Mm) :=
  ck (mK μ s1 = 112) <|
  zl (sI μ s1 54 s0) fun μ4 =>
  ck (mK μ4 a0 = 112) <|
  if (mI μ4 a0 54) ≤ 0 then
    some (mI μ4 a0 26, μ4)
  else
    some (0, μ4)
def f_X11_fetching (a0 : Nat) (μ : Mm) : Option (Int32 × Mm) :=
  ck (mK μ a0 = 112) <|
  if (zb (mI μ a0 27)) = 0 then
    f_X11_fetching_b13 a0 0 a0 μ
  else
    f_X11_fetching_b13 a0 1 a0 μ
set_option maxRecDepth 100000 in
theorem s_X11_fetching_b13 {l : Launch} {G : Gt} (hG : Gok l G) (a0 : Nat) (s0 : Int32) (s1 : Nat) (μ : Mm) (r : Int32) (μ' : Mm) (h : f_X11_fetching_b13 a0 s0 s1 μ = some (r, μ')) : ZX l G mX11_fetching 13 [(0, .ref a0)] [.int s0, .ref s1] μ (.inl (some (.int r))) μ' := by
  unfold f_X11_fetching_b13 at h
  obtain ⟨h3, h⟩ := ck_e h
  refine zx_putI hG fl_X11_123 fn_12_54 h3 dX11_fetching_13 ?_
  obtain ⟨μ4, e6, h⟩ := zlm_e h
  refine zx_mem e6 ?_
  have e5 : mK μ4 = mK μ := (congrArg mK e6).trans rfl
  refine zx_aload_n dX11_fetching_16 rfl (q := 0) rfl ?_
  obtain ⟨h7, h⟩ := ck_e h
  refine zx_getI hG fl_X11_123 h7 dX11_fetching_17 ?_
  by_cases c8 : (mI μ4 a0 54) ≤ 0
  · have h := it_t c8 h
    refine zx_if_le_t (tgt := 27) dX11_fetching_20 (by decide) c8 ?_
    refine zx_aload_n dX11_fetching_27 rfl (q := 0) rfl ?_
    refine zx_getI hG fl_X11_180 h7 dX11_fetching_28 ?_
    cases h
    exact zx_iret dX11_fetching_31 rfl
  · have h := it_f c8 h
    refine zx_if_le_f (tgt := 27) dX11_fetching_20 (by decide) c8 ?_
    refine zx_iconst (v := 0) dX11_fetching_23 iv_iconst_0 ?_
    refine zx_goto (tgt := 31) dX11_fetching_24 (by decide) ?_
    cases h
    exact zx_iret dX11_fetching_31 rfl
set_option maxRecDepth 100000 in
theorem s_X11_fetching {l : Launch} {G : Gt} (hG : Gok l G) (a0 : Nat) (μ : Mm) (r : Int32) (μ' : Mm) (h : f_X11_fetching a0 μ = some (r, μ')) : ZX l G mX11_fetching 0 [(0, .ref a0)] [] μ (.inl (some (.int r))) μ' := by
  unfold f_X11_fetching at h
  refine zx_aload_n dX11_fetching_0 rfl (q := 0) rfl ?_
  refine zx_aload_n dX11_fetching_1 rfl (q := 0) rfl ?_
  obtain ⟨h1, h⟩ := ck_e h
  refine zx_getZ hG fl_X11_174 h1 dX11_fetching_2 ?_
  by_cases c2 : (zb (mI μ a0 27)) = 0
  · have h := it_t c2 h
    refine zx_if_eq_t (tgt := 12) dX11_fetching_5 (by decide) c2 ?_
    refine zx_iconst (v := 0) dX11_fetching_12 iv_iconst_0 ?_
    exact s_X11_fetching_b13 hG _ _ _ _ _ _ h
  · have h := it_f c2 h
    refine zx_if_eq_f (tgt := 12) dX11_fetching_5 (by decide) c2 ?_
    refine zx_iconst (v := 1) dX11_fetching_8 iv_iconst_1 ?_
    refine zx_goto (tgt := 13) dX11_fetching_9 (by decide) ?_
    exact s_X11_fetching_b13 hG _ _ _ _ _ _ h
def f_X11_returns (a0 : Nat) (μ : Mm) : Option (Int32 × Mm) :=
  ck (mK μ a0 = 112) <|
  zl (sI μ a0 54 0) fun μ2 =>
  bd (mR μ2 a0 28) fun p5 =>
  ck (isA 1 (mK μ2 p5)) <|
  ck (inb 0 (mL μ2 p5)) <|
  some (mI μ2 p5 (Int32.toNatClampNeg 0), μ2)
set_option maxRecDepth 100000 in
theorem s_X11_returns {l : Launch} {G : Gt} (hG : Gok l G) (a0 : Nat) (μ : Mm) (r : Int32) (μ' : Mm) (h : f_X11_returns a0 μ = some (r, μ')) : ZX l G mX11_returns 0 [(0, .ref a0)] [] μ (.inl (some (.int r))) μ' := by
  unfold f_X11_returns at h
  refine zx_aload_n dX11_returns_0 rfl (q := 0) rfl ?_
  refine zx_iconst (v := 0) dX11_returns_1 iv_iconst_0 ?_
  obtain ⟨h1, h⟩ := ck_e h
  refine zx_putI hG fl_X11_123 fn_12_54 h1 dX11_returns_2 ?_
  obtain ⟨μ2, e4, h⟩ := zlm_e h
  refine zx_mem e4 ?_
  have e3 : mK μ2 = mK μ := (congrArg mK e4).trans rfl
  refine zx_aload_n dX11_returns_5 rfl (q := 0) rfl ?_
  obtain ⟨p5, h6, h⟩ := bd_e h
  refine zx_getR hG fl_X11_80 (kp_o (e3) h1) h6 dX11_returns_6 ?_
  refine zx_iconst (v := 0) dX11_returns_9 iv_iconst_0 ?_
  obtain ⟨h7, h⟩ := ck_e h
  obtain ⟨h8, h⟩ := ck_e h
  refine zx_iald hG rfl (h7).1 (h7).2 (inb_e h8) dX11_returns_10 ?_
  cases h
  exact zx_iret dX11_returns_11 rfl
def f_X11_returnAt_b22 (a0 : Nat) (x1 : Int32) (s0 : Int32) (s1 : Nat) (μ : Mm) : Option (Int32 × Mm) :=
  ck (mK μ s1 = 112) <|
  zl (sI μ s1 54 s0) fun μ10 =>
  ck (mK μ10 a0 = 112) <|
  if (mI μ10 a0 54) ≤ 0 then
    bd (mR μ10 a0 28) fun p15 =>
    bd (mR μ10 a0 28) fun p17 =>
    ck (isA 1 (mK μ10 p17)) <|
    ck (inb 0 (mL μ10 p17)) <|
    ck (isA 1 (mK μ10 p15)) <|
    ck (inb ((mI μ10 p17 (Int32.toNatClampNeg 0)) - x1) (mL μ10 p15)) <|
    some (mI μ10 p15 (Int32.toNatClampNeg ((mI μ10 p17 (Int32.toNatClampNeg 0)) - x1)), μ10)
  else
    some (0, μ10)
def f_X11_returnAt (a0 : Nat) (x1 : Int32) (μ : Mm) : Option (Int32 × Mm) :=
  ck (mK μ a0 = 112) <|
  bd (mR μ a0 28) fun p2 =>
  ck (isA 1 (mK μ p2)) <|
  ck (inb 0 (mL μ p2)) <|
  bd (f_X11_in x1 0 ((mI μ p2 (Int32.toNatClampNeg 0)) - 1)) fun y6 =>
  if y6 = 0 then
    f_X11_returnAt_b22 a0 x1 1 a0 μ
  else
    f_X11_returnAt_b22 a0 x1 0 a0 μ
set_option maxRecDepth 100000 in
theorem s_X11_returnAt_b22 {l : Launch} {G : Gt} (hG : Gok l G) (a0 : Nat) (x1 : Int32) (s0 : Int32) (s1 : Nat) (μ : Mm) (r : Int32) (μ' : Mm) (h : f_X11_returnAt_b22 a0 x1 s0 s1 μ = some (r, μ')) : ZX l G mX11_returnAt 22 [(0, .ref a0), (1, .int x1)] [.int s0, .ref s1] μ (.inl (some (.int r))) μ' := by
  unfold f_X11_returnAt_b22 at h
  obtain ⟨h9, h⟩ := ck_e h
  refine zx_putI hG fl_X11_123 fn_12_54 h9 dX11_returnAt_22 ?_
  obtain ⟨μ10, e12, h⟩ := zlm_e h
  refine zx_mem e12 ?_
  have e11 : mK μ10 = mK μ := (congrArg mK e12).trans rfl
  refine zx_aload_n dX11_returnAt_25 rfl (q := 0) rfl ?_
  obtain ⟨h13, h⟩ := ck_e h
  refine zx_getI hG fl_X11_123 h13 dX11_returnAt_26 ?_
  by_cases c14 : (mI μ10 a0 54) ≤ 0
  · have h := it_t c14 h
    refine zx_if_le_t (tgt := 36) dX11_returnAt_29 (by decide) c14 ?_
    refine zx_aload_n dX11_returnAt_36 rfl (q := 0) rfl ?_
    obtain ⟨p15, h16, h⟩ := bd_e h
    refine zx_getR hG fl_X11_80 h13 h16 dX11_returnAt_37 ?_
    refine zx_aload_n dX11_returnAt_40 rfl (q := 0) rfl ?_
    obtain ⟨p17, h18, h⟩ := bd_e h
    refine zx_getR hG fl_X11_80 h13 h18 dX11_returnAt_41 ?_
    refine zx_iconst (v := 0) dX11_returnAt_44 iv_iconst_0 ?_
    obtain ⟨h19, h⟩ := ck_e h
    obtain ⟨h20, h⟩ := ck_e h
    refine zx_iald hG rfl (h19).1 (h19).2 (inb_e h20) dX11_returnAt_45 ?_
    refine zx_iload_n dX11_returnAt_46 rfl (q := 1) rfl ?_
    refine zx_isub dX11_returnAt_47 ?_
    obtain ⟨h21, h⟩ := ck_e h
    obtain ⟨h22, h⟩ := ck_e h
    refine zx_iald hG rfl (h21).1 (h21).2 (inb_e h22) dX11_returnAt_48 ?_
    cases h
    exact zx_iret dX11_returnAt_49 rfl
  · have h := it_f c14 h
    refine zx_if_le_f (tgt := 36) dX11_returnAt_29 (by decide) c14 ?_
    refine zx_iconst (v := 0) dX11_returnAt_32 iv_iconst_0 ?_
    refine zx_goto (tgt := 49) dX11_returnAt_33 (by decide) ?_
    cases h
    exact zx_iret dX11_returnAt_49 rfl
set_option maxRecDepth 100000 in
theorem s_X11_returnAt {l : Launch} {G : Gt} (hG : Gok l G) (a0 : Nat) (x1 : Int32) (μ : Mm) (r : Int32) (μ' : Mm) (h : f_X11_returnAt a0 x1 μ = some (r, μ')) : ZX l G mX11_returnAt 0 [(0, .ref a0), (1, .int x1)] [] μ (.inl (some (.int r))) μ' := by
  unfold f_X11_returnAt at h
  refine zx_aload_n dX11_returnAt_0 rfl (q := 0) rfl ?_
  refine zx_iload_n dX11_returnAt_1 rfl (q := 1) rfl ?_
  refine zx_iconst (v := 0) dX11_returnAt_2 iv_iconst_0 ?_
  refine zx_aload_n dX11_returnAt_3 rfl (q := 0) rfl ?_
  obtain ⟨h1, h⟩ := ck_e h
  obtain ⟨p2, h3, h⟩ := bd_e h
  refine zx_getR hG fl_X11_80 h1 h3 dX11_returnAt_4 ?_
  refine zx_iconst (v := 0) dX11_returnAt_7 iv_iconst_0 ?_
  obtain ⟨h4, h⟩ := ck_e h
  obtain ⟨h5, h⟩ := ck_e h
  refine zx_iald hG rfl (h4).1 (h4).2 (inb_e h5) dX11_returnAt_8 ?_
  refine zx_iconst (v := 1) dX11_returnAt_9 iv_iconst_1 ?_
  refine zx_isub dX11_returnAt_10 ?_
  obtain ⟨y6, z7, h⟩ := bd_e h
  refine zx_callS (As := [.int x1, .int 0, .int ((mI μ p2 (Int32.toNatClampNeg 0)) - 1)]) hG mf_X11_in cs_X11_129 ⟨by decide, by decide⟩ rfl rfl (Nat.le_of_ble_eq_true rfl) (s_X11_in hG _ _ _ _ _ z7) (Nat.le_of_ble_eq_true rfl) dX11_returnAt_11 ?_
  by_cases c8 : y6 = 0
  · have h := it_t c8 h
    refine zx_if_eq_t (tgt := 21) dX11_returnAt_14 (by decide) c8 ?_
    refine zx_iconst (v := 1) dX11_returnAt_21 iv_iconst_1 ?_
    exact s_X11_returnAt_b22 hG _ _ _ _ _ _ _ h
  · have h := it_f c8 h
    refine zx_if_eq_f (tgt := 21) dX11_returnAt_14 (by decide) c8 ?_
    refine zx_iconst (v := 0) dX11_returnAt_17 iv_iconst_0 ?_
    refine zx_goto (tgt := 22) dX11_returnAt_18 (by decide) ?_
    exact s_X11_returnAt_b22 hG _ _ _ _ _ _ _ h
def f_X11_counter_b16 (a0 : Nat) (x1 : Int32) (s0 : Int32) (s1 : Nat) (μ : Mm) : Option (Int32 × Mm) :=
  ck (mK μ s1 = 112) <|
  zl (sI μ s1 54 s0) fun μ5 =>
  ck (mK μ5 a0 = 112) <|
  if (mI μ5 a0 54) ≤ 0 then
    bd (mR μ5 a0 29) fun p10 =>
    ck (isA 1 (mK μ5 p10)) <|
    ck (inb x1 (mL μ5 p10)) <|
    some (mI μ5 p10 (Int32.toNatClampNeg x1), μ5)
  else
    some (0, μ5)
def f_X11_counter (a0 : Nat) (x1 : Int32) (μ : Mm) : Option (Int32 × Mm) :=
  bd (f_X11_in x1 0 15) fun y1 =>
  if y1 = 0 then
    f_X11_counter_b16 a0 x1 1 a0 μ
  else
    f_X11_counter_b16 a0 x1 0 a0 μ
set_option maxRecDepth 100000 in
theorem s_X11_counter_b16 {l : Launch} {G : Gt} (hG : Gok l G) (a0 : Nat) (x1 : Int32) (s0 : Int32) (s1 : Nat) (μ : Mm) (r : Int32) (μ' : Mm) (h : f_X11_counter_b16 a0 x1 s0 s1 μ = some (r, μ')) : ZX l G mX11_counter 16 [(0, .ref a0), (1, .int x1)] [.int s0, .ref s1] μ (.inl (some (.int r))) μ' := by
  unfold f_X11_counter_b16 at h
  obtain ⟨h4, h⟩ := ck_e h
  refine zx_putI hG fl_X11_123 fn_12_54 h4 dX11_counter_16 ?_
  obtain ⟨μ5, e7, h⟩ := zlm_e h
  refine zx_mem e7 ?_
  have e6 : mK μ5 = mK μ := (congrArg mK e7).trans rfl
  refine zx_aload_n dX11_counter_19 rfl (q := 0) rfl ?_
  obtain ⟨h8, h⟩ := ck_e h
  refine zx_getI hG fl_X11_123 h8 dX11_counter_20 ?_
  by_cases c9 : (mI μ5 a0 54) ≤ 0
  · have h := it_t c9 h
    refine zx_if_le_t (tgt := 30) dX11_counter_23 (by decide) c9 ?_
    refine zx_aload_n dX11_counter_30 rfl (q := 0) rfl ?_
    obtain ⟨p10, h11, h⟩ := bd_e h
    refine zx_getR hG fl_X11_83 h8 h11 dX11_counter_31 ?_
    refine zx_iload_n dX11_counter_34 rfl (q := 1) rfl ?_
    obtain ⟨h12, h⟩ := ck_e h
    obtain ⟨h13, h⟩ := ck_e h
    refine zx_iald hG rfl (h12).1 (h12).2 (inb_e h13) dX11_counter_35 ?_
    cases h
    exact zx_iret dX11_counter_36 rfl
  · have h := it_f c9 h
    refine zx_if_le_f (tgt := 30) dX11_counter_23 (by decide) c9 ?_
    refine zx_iconst (v := 0) dX11_counter_26 iv_iconst_0 ?_
    refine zx_goto (tgt := 36) dX11_counter_27 (by decide) ?_
    cases h
    exact zx_iret dX11_counter_36 rfl
set_option maxRecDepth 100000 in
theorem s_X11_counter {l : Launch} {G : Gt} (hG : Gok l G) (a0 : Nat) (x1 : Int32) (μ : Mm) (r : Int32) (μ' : Mm) (h : f_X11_counter a0 x1 μ = some (r, μ')) : ZX l G mX11_counter 0 [(0, .ref a0), (1, .int x1)] [] μ (.inl (some (.int r))) μ' := by
  unfold f_X11_counter at h
  refine zx_aload_n dX11_counter_0 rfl (q := 0) rfl ?_
  refine zx_iload_n dX11_counter_1 rfl (q := 1) rfl ?_
  refine zx_iconst (v := 0) dX11_counter_2 iv_iconst_0 ?_
  refine zx_bipush (v := 15) dX11_counter_3 iv_bipush_15 ?_
  obtain ⟨y1, z2, h⟩ := bd_e h
  refine zx_callS (As := [.int x1, .int 0, .int 15]) hG mf_X11_in cs_X11_129 ⟨by decide, by decide⟩ rfl rfl (Nat.le_of_ble_eq_true rfl) (s_X11_in hG _ _ _ _ _ z2) (Nat.le_of_ble_eq_true rfl) dX11_counter_5 ?_
  by_cases c3 : y1 = 0
  · have h := it_t c3 h
    refine zx_if_eq_t (tgt := 15) dX11_counter_8 (by decide) c3 ?_
    refine zx_iconst (v := 1) dX11_counter_15 iv_iconst_1 ?_
    exact s_X11_counter_b16 hG _ _ _ _ _ _ _ h
  · have h := it_f c3 h
    refine zx_if_eq_f (tgt := 15) dX11_counter_8 (by decide) c3 ?_
    refine zx_iconst (v := 0) dX11_counter_11 iv_iconst_0 ?_
    refine zx_goto (tgt := 16) dX11_counter_12 (by decide) ?_
    exact s_X11_counter_b16 hG _ _ _ _ _ _ _ h
def f_X11_isMarked_b16 (a0 : Nat) (x1 : Int32) (s0 : Int32) (s1 : Nat) (μ : Mm) : Option (Int32 × Mm) :=
  ck (mK μ s1 = 112) <|
  zl (sI μ s1 54 s0) fun μ5 =>
  ck (mK μ5 a0 = 112) <|
  if ¬ (mI μ5 a0 54) = 0 then
    some (0, μ5)
  else
    bd (mR μ5 a0 31) fun p10 =>
    ck (isA 2 (mK μ5 p10)) <|
    ck (inb x1 (mL μ5 p10)) <|
    if (zb (mI μ5 p10 (Int32.toNatClampNeg x1))) = 0 then
      some (0, μ5)
    else
      some (1, μ5)
def f_X11_isMarked (a0 : Nat) (x1 : Int32) (μ : Mm) : Option (Int32 × Mm) :=
  bd (f_X11_in x1 0 15) fun y1 =>
  if y1 = 0 then
    f_X11_isMarked_b16 a0 x1 1 a0 μ
  else
    f_X11_isMarked_b16 a0 x1 0 a0 μ
set_option maxRecDepth 100000 in
theorem s_X11_isMarked_b16 {l : Launch} {G : Gt} (hG : Gok l G) (a0 : Nat) (x1 : Int32) (s0 : Int32) (s1 : Nat) (μ : Mm) (r : Int32) (μ' : Mm) (h : f_X11_isMarked_b16 a0 x1 s0 s1 μ = some (r, μ')) : ZX l G mX11_isMarked 16 [(0, .ref a0), (1, .int x1)] [.int s0, .ref s1] μ (.inl (some (.int r))) μ' := by
  unfold f_X11_isMarked_b16 at h
  obtain ⟨h4, h⟩ := ck_e h
  refine zx_putI hG fl_X11_123 fn_12_54 h4 dX11_isMarked_16 ?_
  obtain ⟨μ5, e7, h⟩ := zlm_e h
  refine zx_mem e7 ?_
  have e6 : mK μ5 = mK μ := (congrArg mK e7).trans rfl
  refine zx_aload_n dX11_isMarked_19 rfl (q := 0) rfl ?_
  obtain ⟨h8, h⟩ := ck_e h
  refine zx_getI hG fl_X11_123 h8 dX11_isMarked_20 ?_
  by_cases c9 : ¬ (mI μ5 a0 54) = 0
  · have h := it_t c9 h
    refine zx_if_ne_t (tgt := 39) dX11_isMarked_23 (by decide) c9 ?_
    refine zx_iconst (v := 0) dX11_isMarked_39 iv_iconst_0 ?_
    cases h
    exact zx_zretZ dX11_isMarked_40 rfl zb_0
  · have h := it_f c9 h
    refine zx_if_ne_f (tgt := 39) dX11_isMarked_23 (by decide) (Classical.not_not.mp c9) ?_
    refine zx_aload_n dX11_isMarked_26 rfl (q := 0) rfl ?_
    obtain ⟨p10, h11, h⟩ := bd_e h
    refine zx_getR hG fl_X11_89 h8 h11 dX11_isMarked_27 ?_
    refine zx_iload_n dX11_isMarked_30 rfl (q := 1) rfl ?_
    obtain ⟨h12, h⟩ := ck_e h
    obtain ⟨h13, h⟩ := ck_e h
    refine zx_zald hG rfl (h12).1 (h12).2 (inb_e h13) dX11_isMarked_31 ?_
    by_cases c14 : (zb (mI μ5 p10 (Int32.toNatClampNeg x1))) = 0
    · have h := it_t c14 h
      refine zx_if_eq_t (tgt := 39) dX11_isMarked_32 (by decide) c14 ?_
      refine zx_iconst (v := 0) dX11_isMarked_39 iv_iconst_0 ?_
      cases h
      exact zx_zretZ dX11_isMarked_40 rfl zb_0
    · have h := it_f c14 h
      refine zx_if_eq_f (tgt := 39) dX11_isMarked_32 (by decide) c14 ?_
      refine zx_iconst (v := 1) dX11_isMarked_35 iv_iconst_1 ?_
      refine zx_goto (tgt := 40) dX11_isMarked_36 (by decide) ?_
      cases h
      exact zx_zretZ dX11_isMarked_40 rfl zb_1
set_option maxRecDepth 100000 in
theorem s_X11_isMarked {l : Launch} {G : Gt} (hG : Gok l G) (a0 : Nat) (x1 : Int32) (μ : Mm) (r : Int32) (μ' : Mm) (h : f_X11_isMarked a0 x1 μ = some (r, μ')) : ZX l G mX11_isMarked 0 [(0, .ref a0), (1, .int x1)] [] μ (.inl (some (.int r))) μ' := by
  unfold f_X11_isMarked at h
  refine zx_aload_n dX11_isMarked_0 rfl (q := 0) rfl ?_
  refine zx_iload_n dX11_isMarked_1 rfl (q := 1) rfl ?_
  refine zx_iconst (v := 0) dX11_isMarked_2 iv_iconst_0 ?_
  refine zx_bipush (v := 15) dX11_isMarked_3 iv_bipush_15 ?_
  obtain ⟨y1, z2, h⟩ := bd_e h
  refine zx_callS (As := [.int x1, .int 0, .int 15]) hG mf_X11_in cs_X11_129 ⟨by decide, by decide⟩ rfl rfl (Nat.le_of_ble_eq_true rfl) (s_X11_in hG _ _ _ _ _ z2) (Nat.le_of_ble_eq_true rfl) dX11_isMarked_5 ?_
  by_cases c3 : y1 = 0
  · have h := it_t c3 h
    refine zx_if_eq_t (tgt := 15) dX11_isMarked_8 (by decide) c3 ?_
    refine zx_iconst (v := 1) dX11_isMarked_15 iv_iconst_1 ?_
    exact s_X11_isMarked_b16 hG _ _ _ _ _ _ _ h
  · have h := it_f c3 h
    refine zx_if_eq_f (tgt := 15) dX11_isMarked_8 (by decide) c3 ?_
    refine zx_iconst (v := 0) dX11_isMarked_11 iv_iconst_0 ?_
    refine zx_goto (tgt := 16) dX11_isMarked_12 (by decide) ?_
    exact s_X11_isMarked_b16 hG _ _ _ _ _ _ _ h
def f_X11_lineAt_b15 (a0 : Nat) (x1 : Int32) (s0 : Int32) (s1 : Nat) (μ : Mm) : Option (Int32 × Mm) :=
  ck (mK μ s1 = 112) <|
  zl (sI μ s1 54 s0) fun μ5 =>
  ck (mK μ5 a0 = 112) <|
  if (mI μ5 a0 54) ≤ 0 then
    bd (mR μ5 a0 32) fun p10 =>
    ck (isA 1 (mK μ5 p10)) <|
    ck (inb x1 (mL μ5 p10)) <|
    some (mI μ5 p10 (Int32.toNatClampNeg x1), μ5)
  else
    some (0, μ5)
def f_X11_lineAt (a0 : Nat) (x1 : Int32) (μ : Mm) : Option (Int32 × Mm) :=
  bd (f_X11_in x1 0 3) fun y1 =>
  if y1 = 0 then
    f_X11_lineAt_b15 a0 x1 1 a0 μ
  else
    f_X11_lineAt_b15 a0 x1 0 a0 μ
set_option maxRecDepth 100000 in
theorem s_X11_lineAt_b15 {l : Launch} {G : Gt} (hG : Gok l G) (a0 : Nat) (x1 : Int32) (s0 : Int32) (s1 : Nat) (μ : Mm) (r : Int32) (μ' : Mm) (h : f_X11_lineAt_b15 a0 x1 s0 s1 μ = some (r, μ')) : ZX l G mX11_lineAt 15 [(0, .ref a0), (1, .int x1)] [.int s0, .ref s1] μ (.inl (some (.int r))) μ' := by
  unfold f_X11_lineAt_b15 at h
  obtain ⟨h4, h⟩ := ck_e h
  refine zx_putI hG fl_X11_123 fn_12_54 h4 dX11_lineAt_15 ?_
  obtain ⟨μ5, e7, h⟩ := zlm_e h
  refine zx_mem e7 ?_
  have e6 : mK μ5 = mK μ := (congrArg mK e7).trans rfl
  refine zx_aload_n dX11_lineAt_18 rfl (q := 0) rfl ?_
  obtain ⟨h8, h⟩ := ck_e h
  refine zx_getI hG fl_X11_123 h8 dX11_lineAt_19 ?_
  by_cases c9 : (mI μ5 a0 54) ≤ 0
  · have h := it_t c9 h
    refine zx_if_le_t (tgt := 29) dX11_lineAt_22 (by decide) c9 ?_
    refine zx_aload_n dX11_lineAt_29 rfl (q := 0) rfl ?_
    obtain ⟨p10, h11, h⟩ := bd_e h
    refine zx_getR hG fl_X11_92 h8 h11 dX11_lineAt_30 ?_
    refine zx_iload_n dX11_lineAt_33 rfl (q := 1) rfl ?_
    obtain ⟨h12, h⟩ := ck_e h
    obtain ⟨h13, h⟩ := ck_e h
    refine zx_iald hG rfl (h12).1 (h12).2 (inb_e h13) dX11_lineAt_34 ?_
    cases h
    exact zx_iret dX11_lineAt_35 rfl
  · have h := it_f c9 h
    refine zx_if_le_f (tgt := 29) dX11_lineAt_22 (by decide) c9 ?_
    refine zx_iconst (v := 0) dX11_lineAt_25 iv_iconst_0 ?_
    refine zx_goto (tgt := 35) dX11_lineAt_26 (by decide) ?_
    cases h
    exact zx_iret dX11_lineAt_35 rfl
set_option maxRecDepth 100000 in
theorem s_X11_lineAt {l : Launch} {G : Gt} (hG : Gok l G) (a0 : Nat) (x1 : Int32) (μ : Mm) (r : Int32) (μ' : Mm) (h : f_X11_lineAt a0 x1 μ = some (r, μ')) : ZX l G mX11_lineAt 0 [(0, .ref a0), (1, .int x1)] [] μ (.inl (some (.int r))) μ' := by
  unfold f_X11_lineAt at h
  refine zx_aload_n dX11_lineAt_0 rfl (q := 0) rfl ?_
  refine zx_iload_n dX11_lineAt_1 rfl (q := 1) rfl ?_
  refine zx_iconst (v := 0) dX11_lineAt_2 iv_iconst_0 ?_
  refine zx_iconst (v := 3) dX11_lineAt_3 iv_iconst_3 ?_
  obtain ⟨y1, z2, h⟩ := bd_e h
  refine zx_callS (As := [.int x1, .int 0, .int 3]) hG mf_X11_in cs_X11_129 ⟨by decide, by decide⟩ rfl rfl (Nat.le_of_ble_eq_true rfl) (s_X11_in hG _ _ _ _ _ z2) (Nat.le_of_ble_eq_true rfl) dX11_lineAt_4 ?_
  by_cases c3 : y1 = 0
  · have h := it_t c3 h
    refine zx_if_eq_t (tgt := 14) dX11_lineAt_7 (by decide) c3 ?_
    refine zx_iconst (v := 1) dX11_lineAt_14 iv_iconst_1 ?_
    exact s_X11_lineAt_b15 hG _ _ _ _ _ _ _ h
  · have h := it_f c3 h
    refine zx_if_eq_f (tgt := 14) dX11_lineAt_7 (by decide) c3 ?_
    refine zx_iconst (v := 0) dX11_lineAt_10 iv_iconst_0 ?_
    refine zx_goto (tgt := 15) dX11_lineAt_11 (by decide) ?_
    exact s_X11_lineAt_b15 hG _ _ _ _ _ _ _ h
def f_X11_asked (a0 : Nat) (μ : Mm) : Option (Int32 × Mm) :=
  ck (mK μ a0 = 112) <|
  zl (sI μ a0 54 0) fun μ2 =>
  some (mI μ2 a0 35, μ2)
set_option maxRecDepth 100000 in
theorem s_X11_asked {l : Launch} {G : Gt} (hG : Gok l G) (a0 : Nat) (μ : Mm) (r : Int32) (μ' : Mm) (h : f_X11_asked a0 μ = some (r, μ')) : ZX l G mX11_asked 0 [(0, .ref a0)] [] μ (.inl (some (.int r))) μ' := by
  unfold f_X11_asked at h
  refine zx_aload_n dX11_asked_0 rfl (q := 0) rfl ?_
  refine zx_iconst (v := 0) dX11_asked_1 iv_iconst_0 ?_
  obtain ⟨h1, h⟩ := ck_e h
  refine zx_putI hG fl_X11_123 fn_12_54 h1 dX11_asked_2 ?_
  obtain ⟨μ2, e4, h⟩ := zlm_e h
  refine zx_mem e4 ?_
  have e3 : mK μ2 = mK μ := (congrArg mK e4).trans rfl
  refine zx_aload_n dX11_asked_5 rfl (q := 0) rfl ?_
  refine zx_getI hG fl_X11_222 (kp_o (e3) h1) dX11_asked_6 ?_
  cases h
  exact zx_iret dX11_asked_9 rfl
def f_X11_lost_b14 (a0 : Nat) (x1 : Int32) (s0 : Int32) (s1 : Nat) (μ : Mm) : Option (Int32 × Mm) :=
  ck (mK μ s1 = 112) <|
  zl (sI μ s1 54 s0) fun μ5 =>
  ck (mK μ5 a0 = 112) <|
  if (mI μ5 a0 54) ≤ 0 then
    bd (mR μ5 a0 47) fun p10 =>
    bd (f_X11_reason x1) fun y12 =>
    ck (isA 1 (mK μ5 p10)) <|
    ck (inb y12 (mL μ5 p10)) <|
    some (mI μ5 p10 (Int32.toNatClampNeg y12), μ5)
  else
    some (0, μ5)
def f_X11_lost (a0 : Nat) (x1 : Int32) (μ : Mm) : Option (Int32 × Mm) :=
  bd (f_X11_reason x1) fun y1 =>
  if ¬ y1 = ((-1)) then
    f_X11_lost_b14 a0 x1 0 a0 μ
  else
    f_X11_lost_b14 a0 x1 1 a0 μ
set_option maxRecDepth 100000 in
theorem s_X11_lost_b14 {l : Launch} {G : Gt} (hG : Gok l G) (a0 : Nat) (x1 : Int32) (s0 : Int32) (s1 : Nat) (μ : Mm) (r : Int32) (μ' : Mm) (h : f_X11_lost_b14 a0 x1 s0 s1 μ = some (r, μ')) : ZX l G mX11_lost 14 [(0, .ref a0), (1, .int x1)] [.int s0, .ref s1] μ (.inl (some (.int r))) μ' := by
  unfold f_X11_lost_b14 at h
  obtain ⟨h4, h⟩ := ck_e h
  refine zx_putI hG fl_X11_123 fn_12_54 h4 dX11_lost_14 ?_
  obtain ⟨μ5, e7, h⟩ := zlm_e h
  refine zx_mem e7 ?_
  have e6 : mK μ5 = mK μ := (congrArg mK e7).trans rfl
  refine zx_aload_n dX11_lost_17 rfl (q := 0) rfl ?_
  obtain ⟨h8, h⟩ := ck_e h
  refine zx_getI hG fl_X11_123 h8 dX11_lost_18 ?_
  by_cases c9 : (mI μ5 a0 54) ≤ 0
  · have h := it_t c9 h
    refine zx_if_le_t (tgt := 28) dX11_lost_21 (by decide) c9 ?_
    refine zx_aload_n dX11_lost_28 rfl (q := 0) rfl ?_
    obtain ⟨p10, h11, h⟩ := bd_e h
    refine zx_getR hG fl_X11_111 h8 h11 dX11_lost_29 ?_
    refine zx_iload_n dX11_lost_32 rfl (q := 1) rfl ?_
    obtain ⟨y12, z13, h⟩ := bd_e h
    refine zx_callS (As := [.int x1]) hG mf_X11_reason cs_X11_324 ⟨by decide, by decide⟩ rfl rfl (Nat.le_of_ble_eq_true rfl) (s_X11_reason hG _ _ _ z13) (Nat.le_of_ble_eq_true rfl) dX11_lost_33 ?_
    obtain ⟨h14, h⟩ := ck_e h
    obtain ⟨h15, h⟩ := ck_e h
    refine zx_iald hG rfl (h14).1 (h14).2 (inb_e h15) dX11_lost_36 ?_
    cases h
    exact zx_iret dX11_lost_37 rfl
  · have h := it_f c9 h
    refine zx_if_le_f (tgt := 28) dX11_lost_21 (by decide) c9 ?_
    refine zx_iconst (v := 0) dX11_lost_24 iv_iconst_0 ?_
    refine zx_goto (tgt := 37) dX11_lost_25 (by decide) ?_
    cases h
    exact zx_iret dX11_lost_37 rfl
set_option maxRecDepth 100000 in
theorem s_X11_lost {l : Launch} {G : Gt} (hG : Gok l G) (a0 : Nat) (x1 : Int32) (μ : Mm) (r : Int32) (μ' : Mm) (h : f_X11_lost a0 x1 μ = some (r, μ')) : ZX l G mX11_lost 0 [(0, .ref a0), (1, .int x1)] [] μ (.inl (some (.int r))) μ' := by
  unfold f_X11_lost at h
  refine zx_aload_n dX11_lost_0 rfl (q := 0) rfl ?_
  refine zx_iload_n dX11_lost_1 rfl (q := 1) rfl ?_
  obtain ⟨y1, z2, h⟩ := bd_e h
  refine zx_callS (As := [.int x1]) hG mf_X11_reason cs_X11_324 ⟨by decide, by decide⟩ rfl rfl (Nat.le_of_ble_eq_true rfl) (s_X11_reason hG _ _ _ z2) (Nat.le_of_ble_eq_true rfl) dX11_lost_2 ?_
  refine zx_iconst (v := (-1)) dX11_lost_5 iv_iconst_m1 ?_
  by_cases c3 : ¬ y1 = ((-1))
  · have h := it_t c3 h
    refine zx_icmp_ne_t (tgt := 13) dX11_lost_6 (by decide) c3 ?_
    refine zx_iconst (v := 0) dX11_lost_13 iv_iconst_0 ?_
    exact s_X11_lost_b14 hG _ _ _ _ _ _ _ h
  · have h := it_f c3 h
    refine zx_icmp_ne_f (tgt := 13) dX11_lost_6 (by decide) (Classical.not_not.mp c3) ?_
    refine zx_iconst (v := 1) dX11_lost_9 iv_iconst_1 ?_
    refine zx_goto (tgt := 14) dX11_lost_10 (by decide) ?_
    exact s_X11_lost_b14 hG _ _ _ _ _ _ _ h
def f_X11_wrong (a0 : Nat) (μ : Mm) : Option (Int32 × Mm) :=
  ck (mK μ a0 = 112) <|
  zl (sI μ a0 54 0) fun μ2 =>
  some (mI μ2 a0 48, μ2)
set_option maxRecDepth 100000 in
theorem s_X11_wrong {l : Launch} {G : Gt} (hG : Gok l G) (a0 : Nat) (μ : Mm) (r : Int32) (μ' : Mm) (h : f_X11_wrong a0 μ = some (r, μ')) : ZX l G mX11_wrong 0 [(0, .ref a0)] [] μ (.inl (some (.int r))) μ' := by
  unfold f_X11_wrong at h
  refine zx_aload_n dX11_wrong_0 rfl (q := 0) rfl ?_
  refine zx_iconst (v := 0) dX11_wrong_1 iv_iconst_0 ?_
  obtain ⟨h1, h⟩ := ck_e h
  refine zx_putI hG fl_X11_123 fn_12_54 h1 dX11_wrong_2 ?_
  obtain ⟨μ2, e4, h⟩ := zlm_e h
  refine zx_mem e4 ?_
  have e3 : mK μ2 = mK μ := (congrArg mK e4).trans rfl
  refine zx_aload_n dX11_wrong_5 rfl (q := 0) rfl ?_
  refine zx_getI hG fl_X11_283 (kp_o (e3) h1) dX11_wrong_6 ?_
  cases h
  exact zx_iret dX11_wrong_9 rfl
def f_X11_early (a0 : Nat) (μ : Mm) : Option (Int32 × Mm) :=
  ck (mK μ a0 = 112) <|
  zl (sI μ a0 54 0) fun μ2 =>
  some (mI μ2 a0 49, μ2)
set_option maxRecDepth 100000 in
theorem s_X11_early {l : Launch} {G : Gt} (hG : Gok l G) (a0 : Nat) (μ : Mm) (r : Int32) (μ' : Mm) (h : f_X11_early a0 μ = some (r, μ')) : ZX l G mX11_early 0 [(0, .ref a0)] [] μ (.inl (some (.int r))) μ' := by
  unfold f_X11_early at h
  refine zx_aload_n dX11_early_0 rfl (q := 0) rfl ?_
  refine zx_iconst (v := 0) dX11_early_1 iv_iconst_0 ?_
  obtain ⟨h1, h⟩ := ck_e h
  refine zx_putI hG fl_X11_123 fn_12_54 h1 dX11_early_2 ?_
  obtain ⟨μ2, e4, h⟩ := zlm_e h
  refine zx_mem e4 ?_
  have e3 : mK μ2 = mK μ := (congrArg mK e4).trans rfl
  refine zx_aload_n dX11_early_5 rfl (q := 0) rfl ?_
  refine zx_getI hG fl_X11_268 (kp_o (e3) h1) dX11_early_6 ?_
  cases h
  exact zx_iret dX11_early_9 rfl
def f_X11_thrownAway (a0 : Nat) (μ : Mm) : Option (Int32 × Mm) :=
  ck (mK μ a0 = 112) <|
  zl (sI μ a0 54 0) fun μ2 =>
  some (mI μ2 a0 50, μ2)
set_option maxRecDepth 100000 in
theorem s_X11_thrownAway {l : Launch} {G : Gt} (hG : Gok l G) (a0 : Nat) (μ : Mm) (r : Int32) (μ' : Mm) (h : f_X11_thrownAway a0 μ = some (r, μ')) : ZX l G mX11_thrownAway 0 [(0, .ref a0)] [] μ (.inl (some (.int r))) μ' := by
  unfold f_X11_thrownAway at h
  refine zx_aload_n dX11_thrownAway_0 rfl (q := 0) rfl ?_
  refine zx_iconst (v := 0) dX11_thrownAway_1 iv_iconst_0 ?_
  obtain ⟨h1, h⟩ := ck_e h
  refine zx_putI hG fl_X11_123 fn_12_54 h1 dX11_thrownAway_2 ?_
  obtain ⟨μ2, e4, h⟩ := zlm_e h
  refine zx_mem e4 ?_
  have e3 : mK μ2 = mK μ := (congrArg mK e4).trans rfl
  refine zx_aload_n dX11_thrownAway_5 rfl (q := 0) rfl ?_
  refine zx_getI hG fl_X11_253 (kp_o (e3) h1) dX11_thrownAway_6 ?_
  cases h
  exact zx_iret dX11_thrownAway_9 rfl
def f_X11_taken (a0 : Nat) (μ : Mm) : Option (Int32 × Mm) :=
  ck (mK μ a0 = 112) <|
  zl (sI μ a0 54 0) fun μ2 =>
  some (mI μ2 a0 51, μ2)
set_option maxRecDepth 100000 in
theorem s_X11_taken {l : Launch} {G : Gt} (hG : Gok l G) (a0 : Nat) (μ : Mm) (r : Int32) (μ' : Mm) (h : f_X11_taken a0 μ = some (r, μ')) : ZX l G mX11_taken 0 [(0, .ref a0)] [] μ (.inl (some (.int r))) μ' := by
  unfold f_X11_taken at h
  refine zx_aload_n dX11_taken_0 rfl (q := 0) rfl ?_
  refine zx_iconst (v := 0) dX11_taken_1 iv_iconst_0 ?_
  obtain ⟨h1, h⟩ := ck_e h
  refine zx_putI hG fl_X11_123 fn_12_54 h1 dX11_taken_2 ?_
  obtain ⟨μ2, e4, h⟩ := zlm_e h
  refine zx_mem e4 ?_
  have e3 : mK μ2 = mK μ := (congrArg mK e4).trans rfl
  refine zx_aload_n dX11_taken_5 rfl (q := 0) rfl ?_
  refine zx_getI hG fl_X11_234 (kp_o (e3) h1) dX11_taken_6 ?_
  cases h
  exact zx_iret dX11_taken_9 rfl
def f_X11_hits (a0 : Nat) (μ : Mm) : Option (Int64 × Mm) :=
  ck (mK μ a0 = 112) <|
  zl (sI μ a0 54 0) fun μ2 =>
  some ((Int32.toInt64 (mI μ2 a0 52)) + (1000 * (Int32.toInt64 (mI μ2 a0 53))), μ2)
set_option maxRecDepth 100000 in
theorem s_X11_hits {l : Launch} {G : Gt} (hG : Gok l G) (a0 : Nat) (μ : Mm) (r : Int64) (μ' : Mm) (h : f_X11_hits a0 μ = some (r, μ')) : ZX l G mX11_hits 0 [(0, .ref a0)] [] μ (.inl (some (.long r))) μ' := by
  unfold f_X11_hits at h
  refine zx_aload_n dX11_hits_0 rfl (q := 0) rfl ?_
  refine zx_iconst (v := 0) dX11_hits_1 iv_iconst_0 ?_
  obtain ⟨h1, h⟩ := ck_e h
  refine zx_putI hG fl_X11_123 fn_12_54 h1 dX11_hits_2 ?_
  obtain ⟨μ2, e4, h⟩ := zlm_e h
  refine zx_mem e4 ?_
  have e3 : mK μ2 = mK μ := (congrArg mK e4).trans rfl
  refine zx_aload_n dX11_hits_5 rfl (q := 0) rfl ?_
  refine zx_getI hG fl_X11_237 (kp_o (e3) h1) dX11_hits_6 ?_
  refine zx_i2l dX11_hits_9 ?_
  refine zx_ldc2 hG lc_X11_365 dX11_hits_10 ?_
  refine zx_aload_n dX11_hits_13 rfl (q := 0) rfl ?_
  refine zx_getI hG fl_X11_243 (kp_o (e3) h1) dX11_hits_14 ?_
  refine zx_i2l dX11_hits_17 ?_
  refine zx_lmul dX11_hits_18 ?_
  refine zx_ladd dX11_hits_19 ?_
  cases h
  exact zx_lret dX11_hits_20 rfl
def f_X11_share_b13 (a0 : Nat) (s0 : Int32) (s1 : Nat) (μ : Mm) : Option (UInt32 × Mm) :=
  ck (mK μ s1 = 112) <|
  zl (sI μ s1 54 s0) fun μ4 =>
  ck (mK μ4 a0 = 112) <|
  if (mI μ4 a0 54) ≤ 0 then
    ck (nanF (FP.fdiv (FP.i2f (mI μ4 a0 46)) (FP.i2f (mI μ4 a0 36)))) <|
    some (FP.fdiv (FP.i2f (mI μ4 a0 46)) (FP.i2f (mI μ4 a0 36)), μ4)
  else
    some (FP.fconst0, μ4)
def f_X11_share (a0 : Nat) (μ : Mm) : Option (UInt32 × Mm) :=
  ck (mK μ a0 = 112) <|
  if ¬ (mI μ a0 36) = 0 then
    f_X11_share_b13 a0 0 a0 μ
  else
    f_X11_share_b13 a0 1 a0 μ
set_option maxRecDepth 100000 in
theorem s_X11_share_b13 {l : Launch} {G : Gt} (hG : Gok l G) (a0 : Nat) (s0 : Int32) (s1 : Nat) (μ : Mm) (r : UInt32) (μ' : Mm) (h : f_X11_share_b13 a0 s0 s1 μ = some (r, μ')) : ZX l G mX11_share 13 [(0, .ref a0)] [.int s0, .ref s1] μ (.inl (some (.float r))) μ' := by
  unfold f_X11_share_b13 at h
  obtain ⟨h3, h⟩ := ck_e h
  refine zx_putI hG fl_X11_123 fn_12_54 h3 dX11_share_13 ?_
  obtain ⟨μ4, e6, h⟩ := zlm_e h
  refine zx_mem e6 ?_
  have e5 : mK μ4 = mK μ := (congrArg mK e6).trans rfl
  refine zx_aload_n dX11_share_16 rfl (q := 0) rfl ?_
  obtain ⟨h7, h⟩ := ck_e h
  refine zx_getI hG fl_X11_123 h7 dX11_share_17 ?_
  by_cases c8 : (mI μ4 a0 54) ≤ 0
  · have h := it_t c8 h
    refine zx_if_le_t (tgt := 27) dX11_share_20 (by decide) c8 ?_
    refine zx_aload_n dX11_share_27 rfl (q := 0) rfl ?_
    refine zx_getI hG fl_X11_150 h7 dX11_share_28 ?_
    refine zx_i2f dX11_share_31 ?_
    refine zx_aload_n dX11_share_32 rfl (q := 0) rfl ?_
    refine zx_getI hG fl_X11_133 h7 dX11_share_33 ?_
    refine zx_i2f dX11_share_36 ?_
    obtain ⟨h9, h⟩ := ck_e h
    refine zx_fdiv dX11_share_37 (nanF_e h9) ?_
    cases h
    exact zx_fret dX11_share_38 rfl
  · have h := it_f c8 h
    refine zx_if_le_f (tgt := 27) dX11_share_20 (by decide) c8 ?_
    refine zx_fconst0 dX11_share_23 ?_
    refine zx_goto (tgt := 38) dX11_share_24 (by decide) ?_
    cases h
    exact zx_fret dX11_share_38 rfl
set_option maxRecDepth 100000 in
theorem s_X11_share {l : Launch} {G : Gt} (hG : Gok l G) (a0 : Nat) (μ : Mm) (r : UInt32) (μ' : Mm) (h : f_X11_share a0 μ = some (r, μ')) : ZX l G mX11_share 0 [(0, .ref a0)] [] μ (.inl (some (.float r))) μ' := by
  unfold f_X11_share at h
  refine zx_aload_n dX11_share_0 rfl (q := 0) rfl ?_
  refine zx_aload_n dX11_share_1 rfl (q := 0) rfl ?_
  obtain ⟨h1, h⟩ := ck_e h
  refine zx_getI hG fl_X11_133 h1 dX11_share_2 ?_
  by_cases c2 : ¬ (mI μ a0 36) = 0
  · have h := it_t c2 h
    refine zx_if_ne_t (tgt := 12) dX11_share_5 (by decide) c2 ?_
    refine zx_iconst (v := 0) dX11_share_12 iv_iconst_0 ?_
    exact s_X11_share_b13 hG _ _ _ _ _ _ h
  · have h := it_f c2 h
    refine zx_if_ne_f (tgt := 12) dX11_share_5 (by decide) (Classical.not_not.mp c2) ?_
    refine zx_iconst (v := 1) dX11_share_8 iv_iconst_1 ?_
    refine zx_goto (tgt := 13) dX11_share_9 (by decide) ?_
    exact s_X11_share_b13 hG _ _ _ _ _ _ h
def f_X11_isSame (a0 : Nat) (μ : Mm) : Option (Int32 × Mm) :=
  ck (mK μ a0 = 112) <|
  zl (sI μ a0 54 0) fun μ2 =>
  some (1, μ2)
set_option maxRecDepth 100000 in
theorem s_X11_isSame {l : Launch} {G : Gt} (hG : Gok l G) (a0 : Nat) (μ : Mm) (r : Int32) (μ' : Mm) (h : f_X11_isSame a0 μ = some (r, μ')) : ZX l G mX11_isSame 0 [(0, .ref a0)] [] μ (.inl (some (.int r))) μ' := by
  unfold f_X11_isSame at h
  refine zx_aload_n dX11_isSame_0 rfl (q := 0) rfl ?_
  refine zx_iconst (v := 0) dX11_isSame_1 iv_iconst_0 ?_
  obtain ⟨h1, h⟩ := ck_e h
  refine zx_putI hG fl_X11_123 fn_12_54 h1 dX11_isSame_2 ?_
  obtain ⟨μ2, e4, h⟩ := zlm_e h
  refine zx_mem e4 ?_
  have e3 : mK μ2 = mK μ := (congrArg mK e4).trans rfl
  refine zx_iconst (v := 1) dX11_isSame_5 iv_iconst_1 ?_
  cases h
  exact zx_zretZ dX11_isSame_6 rfl zb_1
def f_X11_isWhole (a0 : Nat) (μ : Mm) : Option (Int32 × Mm) :=
  ck (mK μ a0 = 112) <|
  zl (sI μ a0 54 0) fun μ2 =>
  some (1, μ2)
set_option maxRecDepth 100000 in
theorem s_X11_isWhole {l : Launch} {G : Gt} (hG : Gok l G) (a0 : Nat) (μ : Mm) (r : Int32) (μ' : Mm) (h : f_X11_isWhole a0 μ = some (r, μ')) : ZX l G mX11_isWhole 0 [(0, .ref a0)] [] μ (.inl (some (.int r))) μ' := by
  unfold f_X11_isWhole at h
  refine zx_aload_n dX11_isWhole_0 rfl (q := 0) rfl ?_
  refine zx_iconst (v := 0) dX11_isWhole_1 iv_iconst_0 ?_
  obtain ⟨h1, h⟩ := ck_e h
  refine zx_putI hG fl_X11_123 fn_12_54 h1 dX11_isWhole_2 ?_
  obtain ⟨μ2, e4, h⟩ := zlm_e h
  refine zx_mem e4 ?_
  have e3 : mK μ2 = mK μ := (congrArg mK e4).trans rfl
  refine zx_iconst (v := 1) dX11_isWhole_5 iv_iconst_1 ?_
  cases h
  exact zx_zretZ dX11_isWhole_6 rfl zb_1
