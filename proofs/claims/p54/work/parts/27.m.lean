theorem dX10_innerAnew_0 : decode cX10_innerAnew 0 = .ok (.iload_n 1, 1) := by decide +kernel
theorem dX10_innerAnew_1 : decode cX10_innerAnew 1 = .ok (.invokestatic 16, 3) := by decide +kernel
theorem dX10_innerAnew_4 : decode cX10_innerAnew 4 = .ok (.ifCond .ne 11, 3) := by decide +kernel
theorem dX10_innerAnew_7 : decode cX10_innerAnew 7 = .ok (.new 23, 3) := by decide +kernel
theorem dX10_innerAnew_10 : decode cX10_innerAnew 10 = .ok (.dup, 1) := by decide +kernel
theorem dX10_innerAnew_11 : decode cX10_innerAnew 11 = .ok (.invokespecial 25, 3) := by decide +kernel
theorem dX10_innerAnew_14 : decode cX10_innerAnew 14 = .ok (.athrow, 1) := by decide +kernel
theorem dX10_innerAnew_15 : decode cX10_innerAnew 15 = .ok (.aload_n 0, 1) := by decide +kernel
theorem dX10_innerAnew_16 : decode cX10_innerAnew 16 = .ok (.getfield 10, 3) := by decide +kernel
theorem dX10_innerAnew_19 : decode cX10_innerAnew 19 = .ok (.iload_n 1, 1) := by decide +kernel
theorem dX10_innerAnew_20 : decode cX10_innerAnew 20 = .ok (.invokevirtual 177, 3) := by decide +kernel
theorem dX10_innerAnew_23 : decode cX10_innerAnew 23 = .ok (.ireturn, 1) := by decide +kernel
theorem dX10_isInner_0 : decode cX10_isInner 0 = .ok (.iload_n 1, 1) := by decide +kernel
theorem dX10_isInner_1 : decode cX10_isInner 1 = .ok (.ifCond .lt 21, 3) := by decide +kernel
theorem dX10_isInner_4 : decode cX10_isInner 4 = .ok (.iload_n 1, 1) := by decide +kernel
theorem dX10_isInner_5 : decode cX10_isInner 5 = .ok (.aload_n 0, 1) := by decide +kernel
theorem dX10_isInner_6 : decode cX10_isInner 6 = .ok (.getfield 10, 3) := by decide +kernel
theorem dX10_isInner_9 : decode cX10_isInner 9 = .ok (.getfield 62, 3) := by decide +kernel
theorem dX10_isInner_12 : decode cX10_isInner 12 = .ok (.getfield 93, 3) := by decide +kernel
theorem dX10_isInner_15 : decode cX10_isInner 15 = .ok (.if_icmp .ge 7, 3) := by decide +kernel
theorem dX10_isInner_18 : decode cX10_isInner 18 = .ok (.iconst 1, 1) := by decide +kernel
theorem dX10_isInner_19 : decode cX10_isInner 19 = .ok (.goto 4, 3) := by decide +kernel
theorem dX10_isInner_22 : decode cX10_isInner 22 = .ok (.iconst 0, 1) := by decide +kernel
theorem dX10_isInner_23 : decode cX10_isInner 23 = .ok (.ireturn, 1) := by decide +kernel
theorem dX5_timesInLine_0 : decode cX5_timesInLine 0 = .ok (.iconst 0, 1) := by decide +kernel
theorem dX5_timesInLine_1 : decode cX5_timesInLine 1 = .ok (.istore_n 2, 1) := by decide +kernel
theorem dX5_timesInLine_2 : decode cX5_timesInLine 2 = .ok (.iconst 0, 1) := by decide +kernel
theorem dX5_timesInLine_3 : decode cX5_timesInLine 3 = .ok (.istore_n 3, 1) := by decide +kernel
theorem dX5_timesInLine_4 : decode cX5_timesInLine 4 = .ok (.iload_n 3, 1) := by decide +kernel
theorem dX5_timesInLine_5 : decode cX5_timesInLine 5 = .ok (.aload_n 0, 1) := by decide +kernel
theorem dX5_timesInLine_6 : decode cX5_timesInLine 6 = .ok (.getfield 28, 3) := by decide +kernel
theorem dX5_timesInLine_9 : decode cX5_timesInLine 9 = .ok (.if_icmp .ge 22, 3) := by decide +kernel
theorem dX5_timesInLine_12 : decode cX5_timesInLine 12 = .ok (.aload_n 0, 1) := by decide +kernel
theorem dX5_timesInLine_13 : decode cX5_timesInLine 13 = .ok (.getfield 25, 3) := by decide +kernel
theorem dX5_timesInLine_16 : decode cX5_timesInLine 16 = .ok (.iload_n 3, 1) := by decide +kernel
theorem dX5_timesInLine_17 : decode cX5_timesInLine 17 = .ok (.iaload, 1) := by decide +kernel
theorem dX5_timesInLine_18 : decode cX5_timesInLine 18 = .ok (.iload_n 1, 1) := by decide +kernel
theorem dX5_timesInLine_19 : decode cX5_timesInLine 19 = .ok (.if_icmp .ne 6, 3) := by decide +kernel
theorem dX5_timesInLine_22 : decode cX5_timesInLine 22 = .ok (.iinc 2 1, 3) := by decide +kernel
theorem dX5_timesInLine_25 : decode cX5_timesInLine 25 = .ok (.iinc 3 1, 3) := by decide +kernel
theorem dX5_timesInLine_28 : decode cX5_timesInLine 28 = .ok (.goto (-24), 3) := by decide +kernel
theorem dX5_timesInLine_31 : decode cX5_timesInLine 31 = .ok (.iload_n 2, 1) := by decide +kernel
theorem dX5_timesInLine_32 : decode cX5_timesInLine 32 = .ok (.ireturn, 1) := by decide +kernel
theorem dX5_isInMap_0 : decode cX5_isInMap 0 = .ok (.iconst 0, 1) := by decide +kernel
theorem dX5_isInMap_1 : decode cX5_isInMap 1 = .ok (.istore_n 2, 1) := by decide +kernel
theorem dX5_isInMap_2 : decode cX5_isInMap 2 = .ok (.iload_n 2, 1) := by decide +kernel
theorem dX5_isInMap_3 : decode cX5_isInMap 3 = .ok (.bipush 8, 2) := by decide +kernel
theorem dX5_isInMap_5 : decode cX5_isInMap 5 = .ok (.if_icmp .ge 21, 3) := by decide +kernel
theorem dX5_isInMap_8 : decode cX5_isInMap 8 = .ok (.aload_n 0, 1) := by decide +kernel
theorem dX5_isInMap_9 : decode cX5_isInMap 9 = .ok (.getfield 9, 3) := by decide +kernel
theorem dX5_isInMap_12 : decode cX5_isInMap 12 = .ok (.iload_n 2, 1) := by decide +kernel
theorem dX5_isInMap_13 : decode cX5_isInMap 13 = .ok (.iaload, 1) := by decide +kernel
theorem dX5_isInMap_14 : decode cX5_isInMap 14 = .ok (.iload_n 1, 1) := by decide +kernel
theorem dX5_isInMap_15 : decode cX5_isInMap 15 = .ok (.if_icmp .ne 5, 3) := by decide +kernel
theorem dX5_isInMap_18 : decode cX5_isInMap 18 = .ok (.iconst 1, 1) := by decide +kernel
theorem dX5_isInMap_19 : decode cX5_isInMap 19 = .ok (.ireturn, 1) := by decide +kernel
theorem dX5_isInMap_20 : decode cX5_isInMap 20 = .ok (.iinc 2 1, 3) := by decide +kernel
theorem dX5_isInMap_23 : decode cX5_isInMap 23 = .ok (.goto (-21), 3) := by decide +kernel
theorem dX5_isInMap_26 : decode cX5_isInMap 26 = .ok (.iconst 0, 1) := by decide +kernel
theorem dX5_isInMap_27 : decode cX5_isInMap 27 = .ok (.ireturn, 1) := by decide +kernel
theorem dX10_stateOf_0 : decode cX10_stateOf 0 = .ok (.aload_n 0, 1) := by decide +kernel
theorem dX10_stateOf_1 : decode cX10_stateOf 1 = .ok (.iload_n 1, 1) := by decide +kernel
theorem dX10_stateOf_2 : decode cX10_stateOf 2 = .ok (.invokevirtual 180, 3) := by decide +kernel
theorem dX10_stateOf_5 : decode cX10_stateOf 5 = .ok (.ifCond .ne 11, 3) := by decide +kernel
theorem dX10_stateOf_8 : decode cX10_stateOf 8 = .ok (.new 134, 3) := by decide +kernel
theorem dX10_stateOf_11 : decode cX10_stateOf 11 = .ok (.dup, 1) := by decide +kernel
theorem dX10_stateOf_12 : decode cX10_stateOf 12 = .ok (.invokespecial 136, 3) := by decide +kernel
theorem dX10_stateOf_15 : decode cX10_stateOf 15 = .ok (.athrow, 1) := by decide +kernel
theorem dX10_stateOf_16 : decode cX10_stateOf 16 = .ok (.aload_n 0, 1) := by decide +kernel
theorem dX10_stateOf_17 : decode cX10_stateOf 17 = .ok (.getfield 10, 3) := by decide +kernel
theorem dX10_stateOf_20 : decode cX10_stateOf 20 = .ok (.getfield 62, 3) := by decide +kernel
theorem dX10_stateOf_23 : decode cX10_stateOf 23 = .ok (.iload_n 1, 1) := by decide +kernel
theorem dX10_stateOf_24 : decode cX10_stateOf 24 = .ok (.invokevirtual 183, 3) := by decide +kernel
theorem dX10_stateOf_27 : decode cX10_stateOf 27 = .ok (.ifCond .le 6, 3) := by decide +kernel
theorem dX10_stateOf_30 : decode cX10_stateOf 30 = .ok (.bipush 102, 2) := by decide +kernel
theorem dX10_stateOf_32 : decode cX10_stateOf 32 = .ok (.ireturn, 1) := by decide +kernel
theorem dX10_stateOf_33 : decode cX10_stateOf 33 = .ok (.aload_n 0, 1) := by decide +kernel
theorem dX10_stateOf_34 : decode cX10_stateOf 34 = .ok (.getfield 10, 3) := by decide +kernel
theorem dX10_stateOf_37 : decode cX10_stateOf 37 = .ok (.getfield 62, 3) := by decide +kernel
theorem dX10_stateOf_40 : decode cX10_stateOf 40 = .ok (.iload_n 1, 1) := by decide +kernel
theorem dX10_stateOf_41 : decode cX10_stateOf 41 = .ok (.invokevirtual 186, 3) := by decide +kernel
theorem dX10_stateOf_44 : decode cX10_stateOf 44 = .ok (.ifCond .eq 8, 3) := by decide +kernel
theorem dX10_stateOf_47 : decode cX10_stateOf 47 = .ok (.bipush 109, 2) := by decide +kernel
theorem dX10_stateOf_49 : decode cX10_stateOf 49 = .ok (.goto 5, 3) := by decide +kernel
theorem dX10_stateOf_52 : decode cX10_stateOf 52 = .ok (.bipush 119, 2) := by decide +kernel
theorem dX10_stateOf_54 : decode cX10_stateOf 54 = .ok (.ireturn, 1) := by decide +kernel
theorem dX10_isReady_0 : decode cX10_isReady 0 = .ok (.aload_n 0, 1) := by decide +kernel
theorem dX10_isReady_1 : decode cX10_isReady 1 = .ok (.iload_n 1, 1) := by decide +kernel
theorem dX10_isReady_2 : decode cX10_isReady 2 = .ok (.invokevirtual 180, 3) := by decide +kernel
theorem dX10_isReady_5 : decode cX10_isReady 5 = .ok (.ifCond .ne 11, 3) := by decide +kernel
theorem dX10_isReady_8 : decode cX10_isReady 8 = .ok (.new 134, 3) := by decide +kernel
theorem dX10_isReady_11 : decode cX10_isReady 11 = .ok (.dup, 1) := by decide +kernel
theorem dX10_isReady_12 : decode cX10_isReady 12 = .ok (.invokespecial 136, 3) := by decide +kernel
theorem dX10_isReady_15 : decode cX10_isReady 15 = .ok (.athrow, 1) := by decide +kernel
theorem dX10_isReady_16 : decode cX10_isReady 16 = .ok (.aload_n 0, 1) := by decide +kernel
theorem dX10_isReady_17 : decode cX10_isReady 17 = .ok (.getfield 10, 3) := by decide +kernel
theorem dX10_isReady_20 : decode cX10_isReady 20 = .ok (.getfield 62, 3) := by decide +kernel
theorem dX10_isReady_23 : decode cX10_isReady 23 = .ok (.iload_n 1, 1) := by decide +kernel
theorem dX10_isReady_24 : decode cX10_isReady 24 = .ok (.invokevirtual 189, 3) := by decide +kernel
theorem dX10_isReady_27 : decode cX10_isReady 27 = .ok (.ireturn, 1) := by decide +kernel
theorem dX10_free_0 : decode cX10_free 0 = .ok (.aload_n 0, 1) := by decide +kernel
theorem dX10_free_1 : decode cX10_free 1 = .ok (.getfield 10, 3) := by decide +kernel
theorem dX10_free_4 : decode cX10_free 4 = .ok (.getfield 62, 3) := by decide +kernel
theorem dX10_free_7 : decode cX10_free 7 = .ok (.getfield 192, 3) := by decide +kernel
theorem dX10_free_10 : decode cX10_free 10 = .ok (.ireturn, 1) := by decide +kernel
theorem dX10_freeAt_0 : decode cX10_freeAt 0 = .ok (.iload_n 1, 1) := by decide +kernel
theorem dX10_freeAt_1 : decode cX10_freeAt 1 = .ok (.ifCond .lt 17, 3) := by decide +kernel
theorem dX10_freeAt_4 : decode cX10_freeAt 4 = .ok (.iload_n 1, 1) := by decide +kernel
theorem dX10_freeAt_5 : decode cX10_freeAt 5 = .ok (.aload_n 0, 1) := by decide +kernel
theorem dX10_freeAt_6 : decode cX10_freeAt 6 = .ok (.getfield 10, 3) := by decide +kernel
theorem dX10_freeAt_9 : decode cX10_freeAt 9 = .ok (.getfield 62, 3) := by decide +kernel
theorem dX10_freeAt_12 : decode cX10_freeAt 12 = .ok (.getfield 192, 3) := by decide +kernel
theorem dX10_freeAt_15 : decode cX10_freeAt 15 = .ok (.if_icmp .lt 11, 3) := by decide +kernel
theorem dX10_freeAt_18 : decode cX10_freeAt 18 = .ok (.new 134, 3) := by decide +kernel
theorem dX10_freeAt_21 : decode cX10_freeAt 21 = .ok (.dup, 1) := by decide +kernel
theorem dX10_freeAt_22 : decode cX10_freeAt 22 = .ok (.invokespecial 136, 3) := by decide +kernel
theorem dX10_freeAt_25 : decode cX10_freeAt 25 = .ok (.athrow, 1) := by decide +kernel
theorem dX10_freeAt_26 : decode cX10_freeAt 26 = .ok (.aload_n 0, 1) := by decide +kernel
theorem dX10_freeAt_27 : decode cX10_freeAt 27 = .ok (.getfield 10, 3) := by decide +kernel
theorem dX10_freeAt_30 : decode cX10_freeAt 30 = .ok (.getfield 62, 3) := by decide +kernel
theorem dX10_freeAt_33 : decode cX10_freeAt 33 = .ok (.getfield 195, 3) := by decide +kernel
theorem dX10_freeAt_36 : decode cX10_freeAt 36 = .ok (.iload_n 1, 1) := by decide +kernel
theorem dX10_freeAt_37 : decode cX10_freeAt 37 = .ok (.iaload, 1) := by decide +kernel
theorem dX10_freeAt_38 : decode cX10_freeAt 38 = .ok (.ireturn, 1) := by decide +kernel
theorem dX10_inBuffer_0 : decode cX10_inBuffer 0 = .ok (.aload_n 0, 1) := by decide +kernel
theorem dX10_inBuffer_1 : decode cX10_inBuffer 1 = .ok (.getfield 10, 3) := by decide +kernel
theorem dX10_inBuffer_4 : decode cX10_inBuffer 4 = .ok (.getfield 198, 3) := by decide +kernel
theorem dX10_inBuffer_7 : decode cX10_inBuffer 7 = .ok (.invokevirtual 30, 3) := by decide +kernel
theorem dX10_inBuffer_10 : decode cX10_inBuffer 10 = .ok (.ireturn, 1) := by decide +kernel
theorem dX10_bufferAt_0 : decode cX10_bufferAt 0 = .ok (.iload_n 1, 1) := by decide +kernel
theorem dX10_bufferAt_1 : decode cX10_bufferAt 1 = .ok (.ifCond .lt 17, 3) := by decide +kernel
theorem dX10_bufferAt_4 : decode cX10_bufferAt 4 = .ok (.iload_n 1, 1) := by decide +kernel
theorem dX10_bufferAt_5 : decode cX10_bufferAt 5 = .ok (.aload_n 0, 1) := by decide +kernel
theorem dX10_bufferAt_6 : decode cX10_bufferAt 6 = .ok (.getfield 10, 3) := by decide +kernel
theorem dX10_bufferAt_9 : decode cX10_bufferAt 9 = .ok (.getfield 198, 3) := by decide +kernel
theorem dX10_bufferAt_12 : decode cX10_bufferAt 12 = .ok (.invokevirtual 30, 3) := by decide +kernel
theorem dX10_bufferAt_15 : decode cX10_bufferAt 15 = .ok (.if_icmp .lt 11, 3) := by decide +kernel
theorem dX10_bufferAt_18 : decode cX10_bufferAt 18 = .ok (.new 134, 3) := by decide +kernel
theorem dX10_bufferAt_21 : decode cX10_bufferAt 21 = .ok (.dup, 1) := by decide +kernel
theorem dX10_bufferAt_22 : decode cX10_bufferAt 22 = .ok (.invokespecial 136, 3) := by decide +kernel
theorem dX10_bufferAt_25 : decode cX10_bufferAt 25 = .ok (.athrow, 1) := by decide +kernel
theorem dX10_bufferAt_26 : decode cX10_bufferAt 26 = .ok (.aload_n 0, 1) := by decide +kernel
theorem dX10_bufferAt_27 : decode cX10_bufferAt 27 = .ok (.getfield 10, 3) := by decide +kernel
theorem dX10_bufferAt_30 : decode cX10_bufferAt 30 = .ok (.getfield 198, 3) := by decide +kernel
theorem dX10_bufferAt_33 : decode cX10_bufferAt 33 = .ok (.iload_n 1, 1) := by decide +kernel
theorem dX10_bufferAt_34 : decode cX10_bufferAt 34 = .ok (.invokevirtual 137, 3) := by decide +kernel
theorem dX10_bufferAt_37 : decode cX10_bufferAt 37 = .ok (.checkcast 201, 3) := by decide +kernel
theorem dX10_bufferAt_40 : decode cX10_bufferAt 40 = .ok (.getfield 203, 3) := by decide +kernel
theorem dX10_bufferAt_43 : decode cX10_bufferAt 43 = .ok (.getfield 207, 3) := by decide +kernel
theorem dX10_bufferAt_46 : decode cX10_bufferAt 46 = .ok (.ireturn, 1) := by decide +kernel
theorem dX10_stageAt_0 : decode cX10_stageAt 0 = .ok (.iload_n 1, 1) := by decide +kernel
theorem dX10_stageAt_1 : decode cX10_stageAt 1 = .ok (.ifCond .lt 17, 3) := by decide +kernel
theorem dX10_stageAt_4 : decode cX10_stageAt 4 = .ok (.iload_n 1, 1) := by decide +kernel
theorem dX10_stageAt_5 : decode cX10_stageAt 5 = .ok (.aload_n 0, 1) := by decide +kernel
theorem dX10_stageAt_6 : decode cX10_stageAt 6 = .ok (.getfield 10, 3) := by decide +kernel
theorem dX10_stageAt_9 : decode cX10_stageAt 9 = .ok (.getfield 198, 3) := by decide +kernel
theorem dX10_stageAt_12 : decode cX10_stageAt 12 = .ok (.invokevirtual 30, 3) := by decide +kernel
theorem dX10_stageAt_15 : decode cX10_stageAt 15 = .ok (.if_icmp .lt 11, 3) := by decide +kernel
theorem dX10_stageAt_18 : decode cX10_stageAt 18 = .ok (.new 134, 3) := by decide +kernel
theorem dX10_stageAt_21 : decode cX10_stageAt 21 = .ok (.dup, 1) := by decide +kernel
theorem dX10_stageAt_22 : decode cX10_stageAt 22 = .ok (.invokespecial 136, 3) := by decide +kernel
theorem dX10_stageAt_25 : decode cX10_stageAt 25 = .ok (.athrow, 1) := by decide +kernel
theorem dX10_stageAt_26 : decode cX10_stageAt 26 = .ok (.aload_n 0, 1) := by decide +kernel
theorem dX10_stageAt_27 : decode cX10_stageAt 27 = .ok (.getfield 10, 3) := by decide +kernel
theorem dX10_stageAt_30 : decode cX10_stageAt 30 = .ok (.getfield 198, 3) := by decide +kernel
theorem dX10_stageAt_33 : decode cX10_stageAt 33 = .ok (.iload_n 1, 1) := by decide +kernel
theorem dX10_stageAt_34 : decode cX10_stageAt 34 = .ok (.invokevirtual 137, 3) := by decide +kernel
theorem dX10_stageAt_37 : decode cX10_stageAt 37 = .ok (.checkcast 201, 3) := by decide +kernel
theorem dX10_stageAt_40 : decode cX10_stageAt 40 = .ok (.getfield 208, 3) := by decide +kernel
theorem dX10_stageAt_43 : decode cX10_stageAt 43 = .ok (.ireturn, 1) := by decide +kernel
theorem dX10_inQueue_0 : decode cX10_inQueue 0 = .ok (.aload_n 0, 1) := by decide +kernel
theorem dX10_inQueue_1 : decode cX10_inQueue 1 = .ok (.getfield 10, 3) := by decide +kernel
theorem dX10_inQueue_4 : decode cX10_inQueue 4 = .ok (.invokevirtual 212, 3) := by decide +kernel
theorem dX10_inQueue_7 : decode cX10_inQueue 7 = .ok (.ireturn, 1) := by decide +kernel
theorem dX10_fetched_0 : decode cX10_fetched 0 = .ok (.aload_n 0, 1) := by decide +kernel
theorem dX10_fetched_1 : decode cX10_fetched 1 = .ok (.getfield 10, 3) := by decide +kernel
theorem dX10_fetched_4 : decode cX10_fetched 4 = .ok (.getfield 215, 3) := by decide +kernel
theorem dX10_fetched_7 : decode cX10_fetched 7 = .ok (.getfield 219, 3) := by decide +kernel
theorem dX10_fetched_10 : decode cX10_fetched 10 = .ok (.invokevirtual 30, 3) := by decide +kernel
theorem dX10_fetched_13 : decode cX10_fetched 13 = .ok (.ireturn, 1) := by decide +kernel
theorem dX10_fetching_0 : decode cX10_fetching 0 = .ok (.aload_n 0, 1) := by decide +kernel
theorem dX10_fetching_1 : decode cX10_fetching 1 = .ok (.getfield 10, 3) := by decide +kernel
theorem dX10_fetching_4 : decode cX10_fetching 4 = .ok (.getfield 215, 3) := by decide +kernel
theorem dX10_fetching_7 : decode cX10_fetching 7 = .ok (.getfield 223, 3) := by decide +kernel
theorem dX10_fetching_10 : decode cX10_fetching 10 = .ok (.ifCond .eq 11, 3) := by decide +kernel
theorem dX10_fetching_13 : decode cX10_fetching 13 = .ok (.new 165, 3) := by decide +kernel
theorem dX10_fetching_16 : decode cX10_fetching 16 = .ok (.dup, 1) := by decide +kernel
theorem dX10_fetching_17 : decode cX10_fetching 17 = .ok (.invokespecial 167, 3) := by decide +kernel
theorem dX10_fetching_20 : decode cX10_fetching 20 = .ok (.athrow, 1) := by decide +kernel
theorem dX10_fetching_21 : decode cX10_fetching 21 = .ok (.aload_n 0, 1) := by decide +kernel
theorem dX10_fetching_22 : decode cX10_fetching 22 = .ok (.getfield 10, 3) := by decide +kernel
theorem dX10_fetching_25 : decode cX10_fetching 25 = .ok (.getfield 215, 3) := by decide +kernel
theorem dX10_fetching_28 : decode cX10_fetching 28 = .ok (.getfield 226, 3) := by decide +kernel
theorem dX10_fetching_31 : decode cX10_fetching 31 = .ok (.ireturn, 1) := by decide +kernel
theorem dX10_returns_0 : decode cX10_returns 0 = .ok (.aload_n 0, 1) := by decide +kernel
theorem dX10_returns_1 : decode cX10_returns 1 = .ok (.getfield 10, 3) := by decide +kernel
theorem dX10_returns_4 : decode cX10_returns 4 = .ok (.getfield 215, 3) := by decide +kernel
theorem dX10_returns_7 : decode cX10_returns 7 = .ok (.getfield 227, 3) := by decide +kernel
theorem dX10_returns_10 : decode cX10_returns 10 = .ok (.arraylength, 1) := by decide +kernel
theorem dX10_returns_11 : decode cX10_returns 11 = .ok (.ireturn, 1) := by decide +kernel
theorem dX10_returnAt_0 : decode cX10_returnAt 0 = .ok (.aload_n 0, 1) := by decide +kernel
theorem dX10_returnAt_1 : decode cX10_returnAt 1 = .ok (.getfield 10, 3) := by decide +kernel
theorem dX10_returnAt_4 : decode cX10_returnAt 4 = .ok (.getfield 215, 3) := by decide +kernel
theorem dX10_returnAt_7 : decode cX10_returnAt 7 = .ok (.getfield 227, 3) := by decide +kernel
theorem dX10_returnAt_10 : decode cX10_returnAt 10 = .ok (.astore_n 2, 1) := by decide +kernel
theorem dX10_returnAt_11 : decode cX10_returnAt 11 = .ok (.iload_n 1, 1) := by decide +kernel
theorem dX10_returnAt_12 : decode cX10_returnAt 12 = .ok (.ifCond .lt 9, 3) := by decide +kernel
theorem dX10_returnAt_15 : decode cX10_returnAt 15 = .ok (.iload_n 1, 1) := by decide +kernel
theorem dX10_returnAt_16 : decode cX10_returnAt 16 = .ok (.aload_n 2, 1) := by decide +kernel
theorem dX10_returnAt_17 : decode cX10_returnAt 17 = .ok (.arraylength, 1) := by decide +kernel
theorem dX10_returnAt_18 : decode cX10_returnAt 18 = .ok (.if_icmp .lt 11, 3) := by decide +kernel
theorem dX10_returnAt_21 : decode cX10_returnAt 21 = .ok (.new 134, 3) := by decide +kernel
theorem dX10_returnAt_24 : decode cX10_returnAt 24 = .ok (.dup, 1) := by decide +kernel
theorem dX10_returnAt_25 : decode cX10_returnAt 25 = .ok (.invokespecial 136, 3) := by decide +kernel
theorem dX10_returnAt_28 : decode cX10_returnAt 28 = .ok (.athrow, 1) := by decide +kernel
theorem dX10_returnAt_29 : decode cX10_returnAt 29 = .ok (.aload_n 2, 1) := by decide +kernel
theorem dX10_returnAt_30 : decode cX10_returnAt 30 = .ok (.aload_n 2, 1) := by decide +kernel
theorem dX10_returnAt_31 : decode cX10_returnAt 31 = .ok (.arraylength, 1) := by decide +kernel
theorem dX10_returnAt_32 : decode cX10_returnAt 32 = .ok (.iconst 1, 1) := by decide +kernel
theorem dX10_returnAt_33 : decode cX10_returnAt 33 = .ok (.isub, 1) := by decide +kernel
theorem dX10_returnAt_34 : decode cX10_returnAt 34 = .ok (.iload_n 1, 1) := by decide +kernel
theorem dX10_returnAt_35 : decode cX10_returnAt 35 = .ok (.isub, 1) := by decide +kernel
theorem dX10_returnAt_36 : decode cX10_returnAt 36 = .ok (.iaload, 1) := by decide +kernel
theorem dX10_returnAt_37 : decode cX10_returnAt 37 = .ok (.ireturn, 1) := by decide +kernel
theorem dX10_counter_0 : decode cX10_counter 0 = .ok (.iload_n 1, 1) := by decide +kernel
theorem dX10_counter_1 : decode cX10_counter 1 = .ok (.ifCond .lt 9, 3) := by decide +kernel
theorem dX10_counter_4 : decode cX10_counter 4 = .ok (.iload_n 1, 1) := by decide +kernel
theorem dX10_counter_5 : decode cX10_counter 5 = .ok (.bipush 16, 2) := by decide +kernel
theorem dX10_counter_7 : decode cX10_counter 7 = .ok (.if_icmp .lt 11, 3) := by decide +kernel
theorem dX10_counter_10 : decode cX10_counter 10 = .ok (.new 23, 3) := by decide +kernel
theorem dX10_counter_13 : decode cX10_counter 13 = .ok (.dup, 1) := by decide +kernel
theorem dX10_counter_14 : decode cX10_counter 14 = .ok (.invokespecial 25, 3) := by decide +kernel
theorem dX10_counter_17 : decode cX10_counter 17 = .ok (.athrow, 1) := by decide +kernel
theorem dX10_counter_18 : decode cX10_counter 18 = .ok (.aload_n 0, 1) := by decide +kernel
theorem dX10_counter_19 : decode cX10_counter 19 = .ok (.getfield 10, 3) := by decide +kernel
theorem dX10_counter_22 : decode cX10_counter 22 = .ok (.getfield 215, 3) := by decide +kernel
theorem dX10_counter_25 : decode cX10_counter 25 = .ok (.getfield 230, 3) := by decide +kernel
theorem dX10_counter_28 : decode cX10_counter 28 = .ok (.iload_n 1, 1) := by decide +kernel
theorem dX10_counter_29 : decode cX10_counter 29 = .ok (.iaload, 1) := by decide +kernel
theorem dX10_counter_30 : decode cX10_counter 30 = .ok (.ireturn, 1) := by decide +kernel
theorem dX10_isMarked_0 : decode cX10_isMarked 0 = .ok (.iload_n 1, 1) := by decide +kernel
theorem dX10_isMarked_1 : decode cX10_isMarked 1 = .ok (.ifCond .lt 9, 3) := by decide +kernel
theorem dX10_isMarked_4 : decode cX10_isMarked 4 = .ok (.iload_n 1, 1) := by decide +kernel
theorem dX10_isMarked_5 : decode cX10_isMarked 5 = .ok (.bipush 16, 2) := by decide +kernel
theorem dX10_isMarked_7 : decode cX10_isMarked 7 = .ok (.if_icmp .lt 11, 3) := by decide +kernel
theorem dX10_isMarked_10 : decode cX10_isMarked 10 = .ok (.new 23, 3) := by decide +kernel
theorem dX10_isMarked_13 : decode cX10_isMarked 13 = .ok (.dup, 1) := by decide +kernel
theorem dX10_isMarked_14 : decode cX10_isMarked 14 = .ok (.invokespecial 25, 3) := by decide +kernel
theorem dX10_isMarked_17 : decode cX10_isMarked 17 = .ok (.athrow, 1) := by decide +kernel
theorem dX10_isMarked_18 : decode cX10_isMarked 18 = .ok (.aload_n 0, 1) := by decide +kernel
theorem dX10_isMarked_19 : decode cX10_isMarked 19 = .ok (.getfield 10, 3) := by decide +kernel
theorem dX10_isMarked_22 : decode cX10_isMarked 22 = .ok (.getfield 233, 3) := by decide +kernel
theorem dX10_isMarked_25 : decode cX10_isMarked 25 = .ok (.iload_n 1, 1) := by decide +kernel
theorem dX10_isMarked_26 : decode cX10_isMarked 26 = .ok (.baload, 1) := by decide +kernel
theorem dX10_isMarked_27 : decode cX10_isMarked 27 = .ok (.ireturn, 1) := by decide +kernel
theorem dX10_lineAt_0 : decode cX10_lineAt 0 = .ok (.iload_n 1, 1) := by decide +kernel
theorem dX10_lineAt_1 : decode cX10_lineAt 1 = .ok (.ifCond .lt 8, 3) := by decide +kernel
theorem dX10_lineAt_4 : decode cX10_lineAt 4 = .ok (.iload_n 1, 1) := by decide +kernel
theorem dX10_lineAt_5 : decode cX10_lineAt 5 = .ok (.iconst 4, 1) := by decide +kernel
theorem dX10_lineAt_6 : decode cX10_lineAt 6 = .ok (.if_icmp .lt 11, 3) := by decide +kernel
theorem dX10_lineAt_9 : decode cX10_lineAt 9 = .ok (.new 23, 3) := by decide +kernel
theorem dX10_lineAt_12 : decode cX10_lineAt 12 = .ok (.dup, 1) := by decide +kernel
theorem dX10_lineAt_13 : decode cX10_lineAt 13 = .ok (.invokespecial 25, 3) := by decide +kernel
theorem dX10_lineAt_16 : decode cX10_lineAt 16 = .ok (.athrow, 1) := by decide +kernel
theorem dX10_lineAt_17 : decode cX10_lineAt 17 = .ok (.aload_n 0, 1) := by decide +kernel
theorem dX10_lineAt_18 : decode cX10_lineAt 18 = .ok (.getfield 10, 3) := by decide +kernel
theorem dX10_lineAt_21 : decode cX10_lineAt 21 = .ok (.getfield 109, 3) := by decide +kernel
theorem dX10_lineAt_24 : decode cX10_lineAt 24 = .ok (.getfield 237, 3) := by decide +kernel
theorem dX10_lineAt_27 : decode cX10_lineAt 27 = .ok (.iload_n 1, 1) := by decide +kernel
theorem dX10_lineAt_28 : decode cX10_lineAt 28 = .ok (.iaload, 1) := by decide +kernel
theorem dX10_lineAt_29 : decode cX10_lineAt 29 = .ok (.ireturn, 1) := by decide +kernel
theorem dX10_asked_0 : decode cX10_asked 0 = .ok (.aload_n 0, 1) := by decide +kernel
theorem dX10_asked_1 : decode cX10_asked 1 = .ok (.getfield 10, 3) := by decide +kernel
theorem dX10_asked_4 : decode cX10_asked 4 = .ok (.getfield 109, 3) := by decide +kernel
theorem dX10_asked_7 : decode cX10_asked 7 = .ok (.getfield 240, 3) := by decide +kernel
theorem dX10_asked_10 : decode cX10_asked 10 = .ok (.ireturn, 1) := by decide +kernel
theorem dX10_lost_0 : decode cX10_lost 0 = .ok (.iload_n 1, 1) := by decide +kernel
theorem dX10_lost_1 : decode cX10_lost 1 = .ok (.invokestatic 243, 3) := by decide +kernel
theorem dX10_lost_4 : decode cX10_lost 4 = .ok (.istore_n 2, 1) := by decide +kernel
theorem dX10_lost_5 : decode cX10_lost 5 = .ok (.iload_n 2, 1) := by decide +kernel
theorem dX10_lost_6 : decode cX10_lost 6 = .ok (.iconst (-1), 1) := by decide +kernel
theorem dX10_lost_7 : decode cX10_lost 7 = .ok (.if_icmp .ne 11, 3) := by decide +kernel
theorem dX10_lost_10 : decode cX10_lost 10 = .ok (.new 23, 3) := by decide +kernel
theorem dX10_lost_13 : decode cX10_lost 13 = .ok (.dup, 1) := by decide +kernel
theorem dX10_lost_14 : decode cX10_lost 14 = .ok (.invokespecial 25, 3) := by decide +kernel
theorem dX10_lost_17 : decode cX10_lost 17 = .ok (.athrow, 1) := by decide +kernel
theorem dX10_lost_18 : decode cX10_lost 18 = .ok (.aload_n 0, 1) := by decide +kernel
theorem dX10_lost_19 : decode cX10_lost 19 = .ok (.getfield 10, 3) := by decide +kernel
theorem dX10_lost_22 : decode cX10_lost 22 = .ok (.getfield 247, 3) := by decide +kernel
theorem dX10_lost_25 : decode cX10_lost 25 = .ok (.getfield 251, 3) := by decide +kernel
theorem dX10_lost_28 : decode cX10_lost 28 = .ok (.iload_n 2, 1) := by decide +kernel
theorem dX10_lost_29 : decode cX10_lost 29 = .ok (.iaload, 1) := by decide +kernel
theorem dX10_lost_30 : decode cX10_lost 30 = .ok (.ireturn, 1) := by decide +kernel
theorem dX10_wrong_0 : decode cX10_wrong 0 = .ok (.aload_n 0, 1) := by decide +kernel
theorem dX10_wrong_1 : decode cX10_wrong 1 = .ok (.getfield 10, 3) := by decide +kernel
theorem dX10_wrong_4 : decode cX10_wrong 4 = .ok (.getfield 247, 3) := by decide +kernel
theorem dX10_wrong_7 : decode cX10_wrong 7 = .ok (.getfield 256, 3) := by decide +kernel
theorem dX10_wrong_10 : decode cX10_wrong 10 = .ok (.ireturn, 1) := by decide +kernel
theorem dX10_early_0 : decode cX10_early 0 = .ok (.aload_n 0, 1) := by decide +kernel
theorem dX10_early_1 : decode cX10_early 1 = .ok (.getfield 10, 3) := by decide +kernel
theorem dX10_early_4 : decode cX10_early 4 = .ok (.getfield 247, 3) := by decide +kernel
theorem dX10_early_7 : decode cX10_early 7 = .ok (.getfield 259, 3) := by decide +kernel
theorem dX10_early_10 : decode cX10_early 10 = .ok (.ireturn, 1) := by decide +kernel
theorem dX10_taken_0 : decode cX10_taken 0 = .ok (.aload_n 0, 1) := by decide +kernel
theorem dX10_taken_1 : decode cX10_taken 1 = .ok (.getfield 10, 3) := by decide +kernel
theorem dX10_taken_4 : decode cX10_taken 4 = .ok (.getfield 247, 3) := by decide +kernel
theorem dX10_taken_7 : decode cX10_taken 7 = .ok (.getfield 265, 3) := by decide +kernel
theorem dX10_taken_10 : decode cX10_taken 10 = .ok (.ireturn, 1) := by decide +kernel
theorem dX10_hits_0 : decode cX10_hits 0 = .ok (.aload_n 0, 1) := by decide +kernel
theorem dX10_hits_1 : decode cX10_hits 1 = .ok (.getfield 10, 3) := by decide +kernel
theorem dX10_hits_4 : decode cX10_hits 4 = .ok (.getfield 247, 3) := by decide +kernel
theorem dX10_hits_7 : decode cX10_hits 7 = .ok (.getfield 268, 3) := by decide +kernel
theorem dX10_hits_10 : decode cX10_hits 10 = .ok (.i2l, 1) := by decide +kernel
theorem dX10_hits_11 : decode cX10_hits 11 = .ok (.ldc2_w 271, 3) := by decide +kernel
theorem dX10_hits_14 : decode cX10_hits 14 = .ok (.aload_n 0, 1) := by decide +kernel
theorem dX10_hits_15 : decode cX10_hits 15 = .ok (.getfield 10, 3) := by decide +kernel
theorem dX10_hits_18 : decode cX10_hits 18 = .ok (.getfield 247, 3) := by decide +kernel
theorem dX10_hits_21 : decode cX10_hits 21 = .ok (.getfield 273, 3) := by decide +kernel
theorem dX10_hits_24 : decode cX10_hits 24 = .ok (.i2l, 1) := by decide +kernel
theorem dX10_hits_25 : decode cX10_hits 25 = .ok (.lmul, 1) := by decide +kernel
theorem dX10_hits_26 : decode cX10_hits 26 = .ok (.ladd, 1) := by decide +kernel
theorem dX10_hits_27 : decode cX10_hits 27 = .ok (.lreturn, 1) := by decide +kernel
theorem dX10_share_0 : decode cX10_share 0 = .ok (.aload_n 0, 1) := by decide +kernel
theorem dX10_share_1 : decode cX10_share 1 = .ok (.getfield 10, 3) := by decide +kernel
theorem dX10_share_4 : decode cX10_share 4 = .ok (.getfield 36, 3) := by decide +kernel
theorem dX10_share_7 : decode cX10_share 7 = .ok (.ifCond .ne 11, 3) := by decide +kernel
theorem dX10_share_10 : decode cX10_share 10 = .ok (.new 165, 3) := by decide +kernel
theorem dX10_share_13 : decode cX10_share 13 = .ok (.dup, 1) := by decide +kernel
theorem dX10_share_14 : decode cX10_share 14 = .ok (.invokespecial 167, 3) := by decide +kernel
theorem dX10_share_17 : decode cX10_share 17 = .ok (.athrow, 1) := by decide +kernel
theorem dX10_share_18 : decode cX10_share 18 = .ok (.aload_n 0, 1) := by decide +kernel
theorem dX10_share_19 : decode cX10_share 19 = .ok (.getfield 10, 3) := by decide +kernel
theorem dX10_share_22 : decode cX10_share 22 = .ok (.getfield 125, 3) := by decide +kernel
theorem dX10_share_25 : decode cX10_share 25 = .ok (.invokevirtual 30, 3) := by decide +kernel
theorem dX10_share_28 : decode cX10_share 28 = .ok (.i2f, 1) := by decide +kernel
theorem dX10_share_29 : decode cX10_share 29 = .ok (.aload_n 0, 1) := by decide +kernel
theorem dX10_share_30 : decode cX10_share 30 = .ok (.getfield 10, 3) := by decide +kernel
theorem dX10_share_33 : decode cX10_share 33 = .ok (.getfield 36, 3) := by decide +kernel
theorem dX10_share_36 : decode cX10_share 36 = .ok (.i2f, 1) := by decide +kernel
theorem dX10_share_37 : decode cX10_share 37 = .ok (.fdiv, 1) := by decide +kernel
theorem dX10_share_38 : decode cX10_share 38 = .ok (.freturn, 1) := by decide +kernel
theorem dX0_hasSameEnds_0 : decode cX0_hasSameEnds 0 = .ok (.iconst 0, 1) := by decide +kernel
theorem dX0_hasSameEnds_1 : decode cX0_hasSameEnds 1 = .ok (.istore_n 1, 1) := by decide +kernel
theorem dX0_hasSameEnds_2 : decode cX0_hasSameEnds 2 = .ok (.iload_n 1, 1) := by decide +kernel
theorem dX0_hasSameEnds_3 : decode cX0_hasSameEnds 3 = .ok (.aload_n 0, 1) := by decide +kernel
theorem dX0_hasSameEnds_4 : decode cX0_hasSameEnds 4 = .ok (.getfield 63, 3) := by decide +kernel
theorem dX0_hasSameEnds_7 : decode cX0_hasSameEnds 7 = .ok (.invokevirtual 123, 3) := by decide +kernel
theorem dX0_hasSameEnds_10 : decode cX0_hasSameEnds 10 = .ok (.if_icmp .ge 45, 3) := by decide +kernel
theorem dX0_hasSameEnds_13 : decode cX0_hasSameEnds 13 = .ok (.aload_n 0, 1) := by decide +kernel
theorem dX0_hasSameEnds_14 : decode cX0_hasSameEnds 14 = .ok (.getfield 63, 3) := by decide +kernel
theorem dX0_hasSameEnds_17 : decode cX0_hasSameEnds 17 = .ok (.iload_n 1, 1) := by decide +kernel
theorem dX0_hasSameEnds_18 : decode cX0_hasSameEnds 18 = .ok (.invokevirtual 127, 3) := by decide +kernel
theorem dX0_hasSameEnds_21 : decode cX0_hasSameEnds 21 = .ok (.checkcast 323, 3) := by decide +kernel
theorem dX0_hasSameEnds_24 : decode cX0_hasSameEnds 24 = .ok (.astore_n 2, 1) := by decide +kernel
theorem dX0_hasSameEnds_25 : decode cX0_hasSameEnds 25 = .ok (.aload_n 2, 1) := by decide +kernel
theorem dX0_hasSameEnds_26 : decode cX0_hasSameEnds 26 = .ok (.getfield 439, 3) := by decide +kernel
theorem dX0_hasSameEnds_29 : decode cX0_hasSameEnds 29 = .ok (.aload_n 2, 1) := by decide +kernel
theorem dX0_hasSameEnds_30 : decode cX0_hasSameEnds 30 = .ok (.getfield 442, 3) := by decide +kernel
theorem dX0_hasSameEnds_33 : decode cX0_hasSameEnds 33 = .ok (.if_icmp .ne 14, 3) := by decide +kernel
theorem dX0_hasSameEnds_36 : decode cX0_hasSameEnds 36 = .ok (.aload_n 2, 1) := by decide +kernel
theorem dX0_hasSameEnds_37 : decode cX0_hasSameEnds 37 = .ok (.getfield 445, 3) := by decide +kernel
theorem dX0_hasSameEnds_40 : decode cX0_hasSameEnds 40 = .ok (.aload_n 2, 1) := by decide +kernel
theorem dX0_hasSameEnds_41 : decode cX0_hasSameEnds 41 = .ok (.getfield 446, 3) := by decide +kernel
theorem dX0_hasSameEnds_44 : decode cX0_hasSameEnds 44 = .ok (.if_icmp .eq 5, 3) := by decide +kernel
theorem dX0_hasSameEnds_47 : decode cX0_hasSameEnds 47 = .ok (.iconst 0, 1) := by decide +kernel
theorem dX0_hasSameEnds_48 : decode cX0_hasSameEnds 48 = .ok (.ireturn, 1) := by decide +kernel
theorem dX0_hasSameEnds_49 : decode cX0_hasSameEnds 49 = .ok (.iinc 1 1, 3) := by decide +kernel
theorem dX0_hasSameEnds_52 : decode cX0_hasSameEnds 52 = .ok (.goto (-50), 3) := by decide +kernel
theorem dX0_hasSameEnds_55 : decode cX0_hasSameEnds 55 = .ok (.iconst 1, 1) := by decide +kernel
theorem dX0_hasSameEnds_56 : decode cX0_hasSameEnds 56 = .ok (.ireturn, 1) := by decide +kernel
theorem dX0_hasSameState_0 : decode cX0_hasSameState 0 = .ok (.iconst 0, 1) := by decide +kernel
theorem dX0_hasSameState_1 : decode cX0_hasSameState 1 = .ok (.istore_n 1, 1) := by decide +kernel
theorem dX0_hasSameState_2 : decode cX0_hasSameState 2 = .ok (.iload_n 1, 1) := by decide +kernel
theorem dX0_hasSameState_3 : decode cX0_hasSameState 3 = .ok (.bipush 8, 2) := by decide +kernel
theorem dX0_hasSameState_5 : decode cX0_hasSameState 5 = .ok (.if_icmp .ge 39, 3) := by decide +kernel
theorem dX0_hasSameState_8 : decode cX0_hasSameState 8 = .ok (.aload_n 0, 1) := by decide +kernel
theorem dX0_hasSameState_9 : decode cX0_hasSameState 9 = .ok (.getfield 42, 3) := by decide +kernel
theorem dX0_hasSameState_12 : decode cX0_hasSameState 12 = .ok (.aload_n 0, 1) := by decide +kernel
theorem dX0_hasSameState_13 : decode cX0_hasSameState 13 = .ok (.getfield 42, 3) := by decide +kernel
theorem dX0_hasSameState_16 : decode cX0_hasSameState 16 = .ok (.getfield 427, 3) := by decide +kernel
theorem dX0_hasSameState_19 : decode cX0_hasSameState 19 = .ok (.iload_n 1, 1) := by decide +kernel
theorem dX0_hasSameState_20 : decode cX0_hasSameState 20 = .ok (.iaload, 1) := by decide +kernel
theorem dX0_hasSameState_21 : decode cX0_hasSameState 21 = .ok (.invokevirtual 307, 3) := by decide +kernel
theorem dX0_hasSameState_24 : decode cX0_hasSameState 24 = .ok (.aload_n 0, 1) := by decide +kernel
theorem dX0_hasSameState_25 : decode cX0_hasSameState 25 = .ok (.getfield 35, 3) := by decide +kernel
theorem dX0_hasSameState_28 : decode cX0_hasSameState 28 = .ok (.getfield 449, 3) := by decide +kernel
theorem dX0_hasSameState_31 : decode cX0_hasSameState 31 = .ok (.iload_n 1, 1) := by decide +kernel
theorem dX0_hasSameState_32 : decode cX0_hasSameState 32 = .ok (.iaload, 1) := by decide +kernel
theorem dX0_hasSameState_33 : decode cX0_hasSameState 33 = .ok (.if_icmp .eq 5, 3) := by decide +kernel
theorem dX0_hasSameState_36 : decode cX0_hasSameState 36 = .ok (.iconst 0, 1) := by decide +kernel
theorem dX0_hasSameState_37 : decode cX0_hasSameState 37 = .ok (.ireturn, 1) := by decide +kernel
theorem dX0_hasSameState_38 : decode cX0_hasSameState 38 = .ok (.iinc 1 1, 3) := by decide +kernel
theorem dX0_hasSameState_41 : decode cX0_hasSameState 41 = .ok (.goto (-39), 3) := by decide +kernel
theorem dX0_hasSameState_44 : decode cX0_hasSameState 44 = .ok (.iconst 0, 1) := by decide +kernel
theorem dX0_hasSameState_45 : decode cX0_hasSameState 45 = .ok (.istore_n 1, 1) := by decide +kernel
theorem dX0_hasSameState_46 : decode cX0_hasSameState 46 = .ok (.iload_n 1, 1) := by decide +kernel
theorem dX0_hasSameState_47 : decode cX0_hasSameState 47 = .ok (.bipush 64, 2) := by decide +kernel
theorem dX0_hasSameState_49 : decode cX0_hasSameState 49 = .ok (.if_icmp .ge 29, 3) := by decide +kernel
theorem dX0_hasSameState_52 : decode cX0_hasSameState 52 = .ok (.aload_n 0, 1) := by decide +kernel
theorem dX0_hasSameState_53 : decode cX0_hasSameState 53 = .ok (.getfield 66, 3) := by decide +kernel
theorem dX0_hasSameState_56 : decode cX0_hasSameState 56 = .ok (.iload_n 1, 1) := by decide +kernel
theorem dX0_hasSameState_57 : decode cX0_hasSameState 57 = .ok (.iaload, 1) := by decide +kernel
theorem dX0_hasSameState_58 : decode cX0_hasSameState 58 = .ok (.aload_n 0, 1) := by decide +kernel
theorem dX0_hasSameState_59 : decode cX0_hasSameState 59 = .ok (.getfield 35, 3) := by decide +kernel
theorem dX0_hasSameState_62 : decode cX0_hasSameState 62 = .ok (.getfield 452, 3) := by decide +kernel
theorem dX0_hasSameState_65 : decode cX0_hasSameState 65 = .ok (.iload_n 1, 1) := by decide +kernel
theorem dX0_hasSameState_66 : decode cX0_hasSameState 66 = .ok (.iaload, 1) := by decide +kernel
theorem dX0_hasSameState_67 : decode cX0_hasSameState 67 = .ok (.if_icmp .eq 5, 3) := by decide +kernel
theorem dX0_hasSameState_70 : decode cX0_hasSameState 70 = .ok (.iconst 0, 1) := by decide +kernel
theorem dX0_hasSameState_71 : decode cX0_hasSameState 71 = .ok (.ireturn, 1) := by decide +kernel
theorem dX0_hasSameState_72 : decode cX0_hasSameState 72 = .ok (.iinc 1 1, 3) := by decide +kernel
theorem dX0_hasSameState_75 : decode cX0_hasSameState 75 = .ok (.goto (-29), 3) := by decide +kernel
theorem dX0_hasSameState_78 : decode cX0_hasSameState 78 = .ok (.aload_n 0, 1) := by decide +kernel
theorem dX0_hasSameState_79 : decode cX0_hasSameState 79 = .ok (.getfield 88, 3) := by decide +kernel
theorem dX0_hasSameState_82 : decode cX0_hasSameState 82 = .ok (.ifCond .eq 17, 3) := by decide +kernel
theorem dX0_hasSameState_85 : decode cX0_hasSameState 85 = .ok (.aload_n 0, 1) := by decide +kernel
theorem dX0_hasSameState_86 : decode cX0_hasSameState 86 = .ok (.getfield 91, 3) := by decide +kernel
theorem dX0_hasSameState_89 : decode cX0_hasSameState 89 = .ok (.aload_n 0, 1) := by decide +kernel
theorem dX0_hasSameState_90 : decode cX0_hasSameState 90 = .ok (.getfield 35, 3) := by decide +kernel
theorem dX0_hasSameState_93 : decode cX0_hasSameState 93 = .ok (.getfield 453, 3) := by decide +kernel
theorem dX0_hasSameState_96 : decode cX0_hasSameState 96 = .ok (.if_icmp .ne 7, 3) := by decide +kernel
theorem dX0_hasSameState_99 : decode cX0_hasSameState 99 = .ok (.iconst 1, 1) := by decide +kernel
theorem dX0_hasSameState_100 : decode cX0_hasSameState 100 = .ok (.goto 4, 3) := by decide +kernel
theorem dX0_hasSameState_103 : decode cX0_hasSameState 103 = .ok (.iconst 0, 1) := by decide +kernel
theorem dX0_hasSameState_104 : decode cX0_hasSameState 104 = .ok (.ireturn, 1) := by decide +kernel
theorem dX10_isSame_0 : decode cX10_isSame 0 = .ok (.aload_n 0, 1) := by decide +kernel
theorem dX10_isSame_1 : decode cX10_isSame 1 = .ok (.getfield 10, 3) := by decide +kernel
theorem dX10_isSame_4 : decode cX10_isSame 4 = .ok (.invokevirtual 276, 3) := by decide +kernel
theorem dX10_isSame_7 : decode cX10_isSame 7 = .ok (.ifCond .eq 17, 3) := by decide +kernel
theorem dX10_isSame_10 : decode cX10_isSame 10 = .ok (.aload_n 0, 1) := by decide +kernel
theorem dX10_isSame_11 : decode cX10_isSame 11 = .ok (.getfield 10, 3) := by decide +kernel
theorem dX10_isSame_14 : decode cX10_isSame 14 = .ok (.invokevirtual 280, 3) := by decide +kernel
theorem dX10_isSame_17 : decode cX10_isSame 17 = .ok (.ifCond .eq 7, 3) := by decide +kernel
theorem dX10_isSame_20 : decode cX10_isSame 20 = .ok (.iconst 1, 1) := by decide +kernel
theorem dX10_isSame_21 : decode cX10_isSame 21 = .ok (.goto 4, 3) := by decide +kernel
theorem dX10_isSame_24 : decode cX10_isSame 24 = .ok (.iconst 0, 1) := by decide +kernel
theorem dX10_isSame_25 : decode cX10_isSame 25 = .ok (.ireturn, 1) := by decide +kernel
theorem dX5_isInRetired_0 : decode cX5_isInRetired 0 = .ok (.iconst 0, 1) := by decide +kernel
theorem dX5_isInRetired_1 : decode cX5_isInRetired 1 = .ok (.istore_n 2, 1) := by decide +kernel
theorem dX5_isInRetired_2 : decode cX5_isInRetired 2 = .ok (.iload_n 2, 1) := by decide +kernel
theorem dX5_isInRetired_3 : decode cX5_isInRetired 3 = .ok (.bipush 8, 2) := by decide +kernel
theorem dX5_isInRetired_5 : decode cX5_isInRetired 5 = .ok (.if_icmp .ge 21, 3) := by decide +kernel
theorem dX5_isInRetired_8 : decode cX5_isInRetired 8 = .ok (.aload_n 0, 1) := by decide +kernel
theorem dX5_isInRetired_9 : decode cX5_isInRetired 9 = .ok (.getfield 15, 3) := by decide +kernel
theorem dX5_isInRetired_12 : decode cX5_isInRetired 12 = .ok (.iload_n 2, 1) := by decide +kernel
theorem dX5_isInRetired_13 : decode cX5_isInRetired 13 = .ok (.iaload, 1) := by decide +kernel
theorem dX5_isInRetired_14 : decode cX5_isInRetired 14 = .ok (.iload_n 1, 1) := by decide +kernel
theorem dX5_isInRetired_15 : decode cX5_isInRetired 15 = .ok (.if_icmp .ne 5, 3) := by decide +kernel
theorem dX5_isInRetired_18 : decode cX5_isInRetired 18 = .ok (.iconst 1, 1) := by decide +kernel
theorem dX5_isInRetired_19 : decode cX5_isInRetired 19 = .ok (.ireturn, 1) := by decide +kernel
theorem dX5_isInRetired_20 : decode cX5_isInRetired 20 = .ok (.iinc 2 1, 3) := by decide +kernel
theorem dX5_isInRetired_23 : decode cX5_isInRetired 23 = .ok (.goto (-21), 3) := by decide +kernel
theorem dX5_isInRetired_26 : decode cX5_isInRetired 26 = .ok (.iconst 0, 1) := by decide +kernel
theorem dX5_isInRetired_27 : decode cX5_isInRetired 27 = .ok (.ireturn, 1) := by decide +kernel
theorem dX0_isUsed_0 : decode cX0_isUsed 0 = .ok (.iconst 0, 1) := by decide +kernel
theorem dX0_isUsed_1 : decode cX0_isUsed 1 = .ok (.istore_n 2, 1) := by decide +kernel
theorem dX0_isUsed_2 : decode cX0_isUsed 2 = .ok (.iload_n 2, 1) := by decide +kernel
theorem dX0_isUsed_3 : decode cX0_isUsed 3 = .ok (.aload_n 0, 1) := by decide +kernel
theorem dX0_isUsed_4 : decode cX0_isUsed 4 = .ok (.getfield 60, 3) := by decide +kernel
theorem dX0_isUsed_7 : decode cX0_isUsed 7 = .ok (.invokevirtual 123, 3) := by decide +kernel
theorem dX0_isUsed_10 : decode cX0_isUsed 10 = .ok (.if_icmp .ge 29, 3) := by decide +kernel
theorem dX0_isUsed_13 : decode cX0_isUsed 13 = .ok (.aload_n 0, 1) := by decide +kernel
theorem dX0_isUsed_14 : decode cX0_isUsed 14 = .ok (.getfield 60, 3) := by decide +kernel
theorem dX0_isUsed_17 : decode cX0_isUsed 17 = .ok (.iload_n 2, 1) := by decide +kernel
theorem dX0_isUsed_18 : decode cX0_isUsed 18 = .ok (.invokevirtual 127, 3) := by decide +kernel
theorem dX0_isUsed_21 : decode cX0_isUsed 21 = .ok (.checkcast 131, 3) := by decide +kernel
theorem dX0_isUsed_24 : decode cX0_isUsed 24 = .ok (.getfield 230, 3) := by decide +kernel
theorem dX0_isUsed_27 : decode cX0_isUsed 27 = .ok (.iload_n 1, 1) := by decide +kernel
theorem dX0_isUsed_28 : decode cX0_isUsed 28 = .ok (.if_icmp .ne 5, 3) := by decide +kernel
theorem dX0_isUsed_31 : decode cX0_isUsed 31 = .ok (.iconst 1, 1) := by decide +kernel
theorem dX0_isUsed_32 : decode cX0_isUsed 32 = .ok (.ireturn, 1) := by decide +kernel
theorem dX0_isUsed_33 : decode cX0_isUsed 33 = .ok (.iinc 2 1, 3) := by decide +kernel
theorem dX0_isUsed_36 : decode cX0_isUsed 36 = .ok (.goto (-34), 3) := by decide +kernel
theorem dX0_isUsed_39 : decode cX0_isUsed 39 = .ok (.aload_n 0, 1) := by decide +kernel
theorem dX0_isUsed_40 : decode cX0_isUsed 40 = .ok (.getfield 42, 3) := by decide +kernel
theorem dX0_isUsed_43 : decode cX0_isUsed 43 = .ok (.iload_n 1, 1) := by decide +kernel
theorem dX0_isUsed_44 : decode cX0_isUsed 44 = .ok (.invokevirtual 433, 3) := by decide +kernel
theorem dX0_isUsed_47 : decode cX0_isUsed 47 = .ok (.ifCond .ne 14, 3) := by decide +kernel
theorem dX0_isUsed_50 : decode cX0_isUsed 50 = .ok (.aload_n 0, 1) := by decide +kernel
theorem dX0_isUsed_51 : decode cX0_isUsed 51 = .ok (.getfield 42, 3) := by decide +kernel
theorem dX0_isUsed_54 : decode cX0_isUsed 54 = .ok (.iload_n 1, 1) := by decide +kernel
theorem dX0_isUsed_55 : decode cX0_isUsed 55 = .ok (.invokevirtual 436, 3) := by decide +kernel
theorem dX0_isUsed_58 : decode cX0_isUsed 58 = .ok (.ifCond .eq 7, 3) := by decide +kernel
theorem dX0_isUsed_61 : decode cX0_isUsed 61 = .ok (.iconst 1, 1) := by decide +kernel
theorem dX0_isUsed_62 : decode cX0_isUsed 62 = .ok (.goto 4, 3) := by decide +kernel
theorem dX0_isUsed_65 : decode cX0_isUsed 65 = .ok (.iconst 0, 1) := by decide +kernel
theorem dX0_isUsed_66 : decode cX0_isUsed 66 = .ok (.ireturn, 1) := by decide +kernel
theorem dX10_isWhole_0 : decode cX10_isWhole 0 = .ok (.iconst 0, 1) := by decide +kernel
theorem dX10_isWhole_1 : decode cX10_isWhole 1 = .ok (.istore_n 1, 1) := by decide +kernel
theorem dX10_isWhole_2 : decode cX10_isWhole 2 = .ok (.iload_n 1, 1) := by decide +kernel
theorem dX10_isWhole_3 : decode cX10_isWhole 3 = .ok (.aload_n 0, 1) := by decide +kernel
theorem dX10_isWhole_4 : decode cX10_isWhole 4 = .ok (.getfield 10, 3) := by decide +kernel
theorem dX10_isWhole_7 : decode cX10_isWhole 7 = .ok (.getfield 62, 3) := by decide +kernel
theorem dX10_isWhole_10 : decode cX10_isWhole 10 = .ok (.getfield 93, 3) := by decide +kernel
theorem dX10_isWhole_13 : decode cX10_isWhole 13 = .ok (.if_icmp .ge 51, 3) := by decide +kernel
theorem dX10_isWhole_16 : decode cX10_isWhole 16 = .ok (.aload_n 0, 1) := by decide +kernel
theorem dX10_isWhole_17 : decode cX10_isWhole 17 = .ok (.getfield 10, 3) := by decide +kernel
theorem dX10_isWhole_20 : decode cX10_isWhole 20 = .ok (.getfield 62, 3) := by decide +kernel
theorem dX10_isWhole_23 : decode cX10_isWhole 23 = .ok (.iload_n 1, 1) := by decide +kernel
theorem dX10_isWhole_24 : decode cX10_isWhole 24 = .ok (.invokevirtual 183, 3) := by decide +kernel
theorem dX10_isWhole_27 : decode cX10_isWhole 27 = .ok (.istore_n 2, 1) := by decide +kernel
theorem dX10_isWhole_28 : decode cX10_isWhole 28 = .ok (.aload_n 0, 1) := by decide +kernel
theorem dX10_isWhole_29 : decode cX10_isWhole 29 = .ok (.getfield 10, 3) := by decide +kernel
theorem dX10_isWhole_32 : decode cX10_isWhole 32 = .ok (.iload_n 1, 1) := by decide +kernel
theorem dX10_isWhole_33 : decode cX10_isWhole 33 = .ok (.invokevirtual 283, 3) := by decide +kernel
theorem dX10_isWhole_36 : decode cX10_isWhole 36 = .ok (.istore_n 3, 1) := by decide +kernel
theorem dX10_isWhole_37 : decode cX10_isWhole 37 = .ok (.iload_n 2, 1) := by decide +kernel
theorem dX10_isWhole_38 : decode cX10_isWhole 38 = .ok (.iconst 1, 1) := by decide +kernel
theorem dX10_isWhole_39 : decode cX10_isWhole 39 = .ok (.if_icmp .gt 17, 3) := by decide +kernel
theorem dX10_isWhole_42 : decode cX10_isWhole 42 = .ok (.iload_n 3, 1) := by decide +kernel
theorem dX10_isWhole_43 : decode cX10_isWhole 43 = .ok (.iload_n 2, 1) := by decide +kernel
theorem dX10_isWhole_44 : decode cX10_isWhole 44 = .ok (.iconst 1, 1) := by decide +kernel
theorem dX10_isWhole_45 : decode cX10_isWhole 45 = .ok (.if_icmp .ne 7, 3) := by decide +kernel
theorem dX10_isWhole_48 : decode cX10_isWhole 48 = .ok (.iconst 1, 1) := by decide +kernel
theorem dX10_isWhole_49 : decode cX10_isWhole 49 = .ok (.goto 4, 3) := by decide +kernel
theorem dX10_isWhole_52 : decode cX10_isWhole 52 = .ok (.iconst 0, 1) := by decide +kernel
theorem dX10_isWhole_53 : decode cX10_isWhole 53 = .ok (.if_icmp .ne 5, 3) := by decide +kernel
theorem dX10_isWhole_56 : decode cX10_isWhole 56 = .ok (.iconst 0, 1) := by decide +kernel
theorem dX10_isWhole_57 : decode cX10_isWhole 57 = .ok (.ireturn, 1) := by decide +kernel
theorem dX10_isWhole_58 : decode cX10_isWhole 58 = .ok (.iinc 1 1, 3) := by decide +kernel
theorem dX10_isWhole_61 : decode cX10_isWhole 61 = .ok (.goto (-59), 3) := by decide +kernel
theorem dX10_isWhole_64 : decode cX10_isWhole 64 = .ok (.iconst 1, 1) := by decide +kernel
theorem dX10_isWhole_65 : decode cX10_isWhole 65 = .ok (.ireturn, 1) := by decide +kernel
def mX10_innerAnew : MD := (cX10_innerAnew, RX10, yX10_innerAnew, 2, (some .int), 6, 90)
theorem mf_X10_innerAnew : MF mX10_innerAnew 1 := MF.of 1347 39 (by decide +kernel) (by decide +kernel) (by decide +kernel) (by decide +kernel) (by decide +kernel) rfl
def mX10_isInner : MD := (cX10_isInner, RX10, yX10_isInner, 2, (some .boolean), 0, 0)
theorem mf_X10_isInner : MF mX10_isInner 1 := MF.of 1284 39 (by decide +kernel) (by decide +kernel) (by decide +kernel) (by decide +kernel) (by decide +kernel) rfl
def mX5_timesInLine : MD := (cX5_timesInLine, RX5, yX5_timesInLine, 4, (some .int), 0, 0)
theorem mf_X5_timesInLine : MF mX5_timesInLine 1 := MF.of 476 48 (by decide +kernel) (by decide +kernel) (by decide +kernel) (by decide +kernel) (by decide +kernel) rfl
def mX5_isInMap : MD := (cX5_isInMap, RX5, yX5_isInMap, 3, (some .boolean), 0, 0)
theorem mf_X5_isInMap : MF mX5_isInMap 1 := MF.of 485 48 (by decide +kernel) (by decide +kernel) (by decide +kernel) (by decide +kernel) (by decide +kernel) rfl
def mX10_stateOf : MD := (cX10_stateOf, RX10, yX10_stateOf, 2, (some .char), 6, 90)
theorem mf_X10_stateOf : MF mX10_stateOf 1 := MF.of 1280 39 (by decide +kernel) (by decide +kernel) (by decide +kernel) (by decide +kernel) (by decide +kernel) rfl
def mX10_isReady : MD := (cX10_isReady, RX10, yX10_isReady, 2, (some .boolean), 6, 90)
theorem mf_X10_isReady : MF mX10_isReady 1 := MF.of 1289 39 (by decide +kernel) (by decide +kernel) (by decide +kernel) (by decide +kernel) (by decide +kernel) rfl
def mX10_free : MD := (cX10_free, RX10, yX10_free, 1, (some .int), 0, 0)
theorem mf_X10_free : MF mX10_free 0 := MF.of 428 39 (by decide +kernel) (by decide +kernel) (by decide +kernel) (by decide +kernel) (by decide +kernel) rfl
def mX10_freeAt : MD := (cX10_freeAt, RX10, yX10_freeAt, 2, (some .int), 6, 90)
theorem mf_X10_freeAt : MF mX10_freeAt 1 := MF.of 1276 39 (by decide +kernel) (by decide +kernel) (by decide +kernel) (by decide +kernel) (by decide +kernel) rfl
def mX10_inBuffer : MD := (cX10_inBuffer, RX10, yX10_inBuffer, 1, (some .int), 1, 20)
theorem mf_X10_inBuffer : MF mX10_inBuffer 0 := MF.of 432 39 (by decide +kernel) (by decide +kernel) (by decide +kernel) (by decide +kernel) (by decide +kernel) rfl
def mX10_bufferAt : MD := (cX10_bufferAt, RX10, yX10_bufferAt, 2, (some .int), 6, 90)
theorem mf_X10_bufferAt : MF mX10_bufferAt 1 := MF.of 1267 39 (by decide +kernel) (by decide +kernel) (by decide +kernel) (by decide +kernel) (by decide +kernel) rfl
def mX10_stageAt : MD := (cX10_stageAt, RX10, yX10_stageAt, 2, (some .char), 6, 90)
theorem mf_X10_stageAt : MF mX10_stageAt 1 := MF.of 1272 39 (by decide +kernel) (by decide +kernel) (by decide +kernel) (by decide +kernel) (by decide +kernel) rfl
def mX10_inQueue : MD := (cX10_inQueue, RX10, yX10_inQueue, 1, (some .int), 4, 86)
theorem mf_X10_inQueue : MF mX10_inQueue 0 := MF.of 1399 39 (by decide +kernel) (by decide +kernel) (by decide +kernel) (by decide +kernel) (by decide +kernel) rfl
def mX10_fetched : MD := (cX10_fetched, RX10, yX10_fetched, 1, (some .int), 1, 20)
theorem mf_X10_fetched : MF mX10_fetched 0 := MF.of 1405 39 (by decide +kernel) (by decide +kernel) (by decide +kernel) (by decide +kernel) (by decide +kernel) rfl
def mX10_fetching : MD := (cX10_fetching, RX10, yX10_fetching, 1, (some .int), 6, 90)
theorem mf_X10_fetching : MF mX10_fetching 0 := MF.of 1376 39 (by decide +kernel) (by decide +kernel) (by decide +kernel) (by decide +kernel) (by decide +kernel) rfl
def mX10_returns : MD := (cX10_returns, RX10, yX10_returns, 1, (some .int), 0, 0)
theorem mf_X10_returns : MF mX10_returns 0 := MF.of 436 39 (by decide +kernel) (by decide +kernel) (by decide +kernel) (by decide +kernel) (by decide +kernel) rfl
def mX10_returnAt : MD := (cX10_returnAt, RX10, yX10_returnAt, 3, (some .int), 6, 90)
theorem mf_X10_returnAt : MF mX10_returnAt 1 := MF.of 1294 39 (by decide +kernel) (by decide +kernel) (by decide +kernel) (by decide +kernel) (by decide +kernel) rfl
def mX10_counter : MD := (cX10_counter, RX10, yX10_counter, 2, (some .int), 6, 90)
theorem mf_X10_counter : MF mX10_counter 1 := MF.of 1355 39 (by decide +kernel) (by decide +kernel) (by decide +kernel) (by decide +kernel) (by decide +kernel) rfl
def mX10_isMarked : MD := (cX10_isMarked, RX10, yX10_isMarked, 2, (some .boolean), 6, 90)
theorem mf_X10_isMarked : MF mX10_isMarked 1 := MF.of 1359 39 (by decide +kernel) (by decide +kernel) (by decide +kernel) (by decide +kernel) (by decide +kernel) rfl
def mX10_lineAt : MD := (cX10_lineAt, RX10, yX10_lineAt, 2, (some .int), 6, 90)
theorem mf_X10_lineAt : MF mX10_lineAt 1 := MF.of 1363 39 (by decide +kernel) (by decide +kernel) (by decide +kernel) (by decide +kernel) (by decide +kernel) rfl
def mX10_asked : MD := (cX10_asked, RX10, yX10_asked, 1, (some .int), 0, 0)
theorem mf_X10_asked : MF mX10_asked 0 := MF.of 1436 39 (by decide +kernel) (by decide +kernel) (by decide +kernel) (by decide +kernel) (by decide +kernel) rfl
def mX10_lost : MD := (cX10_lost, RX10, yX10_lost, 3, (some .int), 6, 141)
theorem mf_X10_lost : MF mX10_lost 1 := MF.of 1367 39 (by decide +kernel) (by decide +kernel) (by decide +kernel) (by decide +kernel) (by decide +kernel) rfl
def mX10_wrong : MD := (cX10_wrong, RX10, yX10_wrong, 1, (some .int), 0, 0)
theorem mf_X10_wrong : MF mX10_wrong 0 := MF.of 1411 39 (by decide +kernel) (by decide +kernel) (by decide +kernel) (by decide +kernel) (by decide +kernel) rfl
def mX10_early : MD := (cX10_early, RX10, yX10_early, 1, (some .int), 0, 0)
theorem mf_X10_early : MF mX10_early 0 := MF.of 1416 39 (by decide +kernel) (by decide +kernel) (by decide +kernel) (by decide +kernel) (by decide +kernel) rfl
def mX10_taken : MD := (cX10_taken, RX10, yX10_taken, 1, (some .int), 0, 0)
theorem mf_X10_taken : MF mX10_taken 0 := MF.of 1421 39 (by decide +kernel) (by decide +kernel) (by decide +kernel) (by decide +kernel) (by decide +kernel) rfl
def mX10_hits : MD := (cX10_hits, RX10, yX10_hits, 1, (some .long), 0, 0)
theorem mf_X10_hits : MF mX10_hits 0 := MF.of 1426 39 (by decide +kernel) (by decide +kernel) (by decide +kernel) (by decide +kernel) (by decide +kernel) rfl
def mX10_share : MD := (cX10_share, RX10, yX10_share, 1, (some .float), 6, 90)
theorem mf_X10_share : MF mX10_share 0 := MF.of 1383 39 (by decide +kernel) (by decide +kernel) (by decide +kernel) (by decide +kernel) (by decide +kernel) rfl
def mX0_hasSameEnds : MD := (cX0_hasSameEnds, RX0, yX0_hasSameEnds, 3, (some .boolean), 3, 64)
theorem mf_X0_hasSameEnds : MF mX0_hasSameEnds 0 := MF.of 444 40 (by decide +kernel) (by decide +kernel) (by decide +kernel) (by decide +kernel) (by decide +kernel) rfl
def mX0_hasSameState : MD := (cX0_hasSameState, RX0, yX0_hasSameState, 2, (some .boolean), 1, 21)
theorem mf_X0_hasSameState : MF mX0_hasSameState 0 := MF.of 464 40 (by decide +kernel) (by decide +kernel) (by decide +kernel) (by decide +kernel) (by decide +kernel) rfl
def mX10_isSame : MD := (cX10_isSame, RX10, yX10_isSame, 1, (some .boolean), 4, 86)
theorem mf_X10_isSame : MF mX10_isSame 0 := MF.of 440 39 (by decide +kernel) (by decide +kernel) (by decide +kernel) (by decide +kernel) (by decide +kernel) rfl
def mX5_isInRetired : MD := (cX5_isInRetired, RX5, yX5_isInRetired, 3, (some .boolean), 0, 0)
theorem mf_X5_isInRetired : MF mX5_isInRetired 1 := MF.of 489 48 (by decide +kernel) (by decide +kernel) (by decide +kernel) (by decide +kernel) (by decide +kernel) rfl
def mX0_isUsed : MD := (cX0_isUsed, RX0, yX0_isUsed, 3, (some .boolean), 3, 64)
theorem mf_X0_isUsed : MF mX0_isUsed 1 := MF.of 480 40 (by decide +kernel) (by decide +kernel) (by decide +kernel) (by decide +kernel) (by decide +kernel) rfl
def mX10_isWhole : MD := (cX10_isWhole, RX10, yX10_isWhole, 4, (some .boolean), 4, 86)
theorem mf_X10_isWhole : MF mX10_isWhole 0 := MF.of 472 39 (by decide +kernel) (by decide +kernel) (by decide +kernel) (by decide +kernel) (by decide +kernel) rfl
theorem cs_X10_243 : CSs RX10 243 mX10_indexOfReason := CSs.of 1368 927 (by decide +kernel) (by decide +kernel)
theorem cv_X0_433 : CVs RX0 433 mX5_isInMap 6 := CVs.of 482 483 484 (by decide +kernel) (by decide +kernel) (by decide +kernel) _ rfl rfl
theorem cv_X0_436 : CVs RX0 436 mX5_isInRetired 6 := CVs.of 486 487 488 (by decide +kernel) (by decide +kernel) (by decide +kernel) _ rfl rfl
theorem cv_X10_177 : CVs RX10 177 mX0_findInner 1 := CVs.of 1348 1349 1350 (by decide +kernel) (by decide +kernel) (by decide +kernel) _ rfl rfl
theorem cv_X10_180 : CVs RX10 180 mX10_isInner 11 := CVs.of 1281 1283 37 (by decide +kernel) (by decide +kernel) (by decide +kernel) _ rfl rfl
theorem cv_X10_183 : CVs RX10 183 mX5_timesInLine 6 := CVs.of 473 474 475 (by decide +kernel) (by decide +kernel) (by decide +kernel) _ rfl rfl
theorem cv_X10_186 : CVs RX10 186 mX5_isInMap 6 := CVs.of 1285 483 484 (by decide +kernel) (by decide +kernel) (by decide +kernel) _ rfl rfl
theorem cv_X10_189 : CVs RX10 189 mX5_hasValue 6 := CVs.of 1290 976 977 (by decide +kernel) (by decide +kernel) (by decide +kernel) _ rfl rfl
theorem cv_X10_212 : CVs RX10 212 mX0_countQueue 1 := CVs.of 1400 1088 1089 (by decide +kernel) (by decide +kernel) (by decide +kernel) _ rfl rfl
theorem cv_X10_276 : CVs RX10 276 mX0_hasSameEnds 1 := CVs.of 441 442 443 (by decide +kernel) (by decide +kernel) (by decide +kernel) _ rfl rfl
theorem cv_X10_280 : CVs RX10 280 mX0_hasSameState 1 := CVs.of 461 462 463 (by decide +kernel) (by decide +kernel) (by decide +kernel) _ rfl rfl
theorem cv_X10_283 : CVs RX10 283 mX0_isUsed 1 := CVs.of 477 478 479 (by decide +kernel) (by decide +kernel) (by decide +kernel) _ rfl rfl
theorem fl_X0_439 : FL RX0 439 3 0 0 := FL.of _ rfl (by decide) 898 (by decide +kernel) (by decide)
theorem fl_X0_442 : FL RX0 442 3 2 0 := FL.of _ rfl (by decide) 904 (by decide +kernel) (by decide)
theorem fl_X0_445 : FL RX0 445 3 1 0 := FL.of _ rfl (by decide) 901 (by decide +kernel) (by decide)
theorem fl_X0_446 : FL RX0 446 3 3 0 := FL.of _ rfl (by decide) 907 (by decide +kernel) (by decide)
theorem fl_X0_449 : FL RX0 449 9 0 3 := FL.of _ rfl (by decide) 202 (by decide +kernel) (by decide)
theorem fl_X0_452 : FL RX0 452 9 1 3 := FL.of _ rfl (by decide) 205 (by decide +kernel) (by decide)
theorem fl_X0_453 : FL RX0 453 9 4 0 := FL.of _ rfl (by decide) 210 (by decide +kernel) (by decide)
theorem fl_X10_192 : FL RX10 192 6 5 0 := FL.of _ rfl (by decide) 248 (by decide +kernel) (by decide)
theorem fl_X10_195 : FL RX10 195 6 4 3 := FL.of _ rfl (by decide) 245 (by decide +kernel) (by decide)
theorem fl_X10_198 : FL RX10 198 1 7 3 := FL.of _ rfl (by decide) 345 (by decide +kernel) (by decide)
theorem fl_X10_203 : FL RX10 203 4 0 3 := FL.of _ rfl (by decide) 1148 (by decide +kernel) (by decide)
theorem fl_X10_207 : FL RX10 207 7 0 0 := FL.of _ rfl (by decide) 599 (by decide +kernel) (by decide)
theorem fl_X10_208 : FL RX10 208 4 5 2 := FL.of _ rfl (by decide) 1160 (by decide +kernel) (by decide)
theorem fl_X10_215 : FL RX10 215 1 6 3 := FL.of _ rfl (by decide) 343 (by decide +kernel) (by decide)
theorem fl_X10_219 : FL RX10 219 5 0 3 := FL.of _ rfl (by decide) 302 (by decide +kernel) (by decide)
theorem fl_X10_223 : FL RX10 223 5 5 1 := FL.of _ rfl (by decide) 313 (by decide +kernel) (by decide)
theorem fl_X10_226 : FL RX10 226 5 4 0 := FL.of _ rfl (by decide) 310 (by decide +kernel) (by decide)
theorem fl_X10_227 : FL RX10 227 5 3 3 := FL.of _ rfl (by decide) 308 (by decide +kernel) (by decide)
theorem fl_X10_230 : FL RX10 230 5 1 3 := FL.of _ rfl (by decide) 304 (by decide +kernel) (by decide)
theorem fl_X10_233 : FL RX10 233 1 10 3 := FL.of _ rfl (by decide) 351 (by decide +kernel) (by decide)
theorem fl_X10_237 : FL RX10 237 8 0 3 := FL.of _ rfl (by decide) 274 (by decide +kernel) (by decide)
theorem fl_X10_240 : FL RX10 240 8 4 0 := FL.of _ rfl (by decide) 280 (by decide +kernel) (by decide)
theorem fl_X10_247 : FL RX10 247 1 2 3 := FL.of _ rfl (by decide) 335 (by decide +kernel) (by decide)
theorem fl_X10_251 : FL RX10 251 2 0 3 := FL.of _ rfl (by decide) 159 (by decide +kernel) (by decide)
theorem fl_X10_256 : FL RX10 256 2 1 0 := FL.of _ rfl (by decide) 162 (by decide +kernel) (by decide)
theorem fl_X10_259 : FL RX10 259 2 2 0 := FL.of _ rfl (by decide) 165 (by decide +kernel) (by decide)
theorem fl_X10_265 : FL RX10 265 2 4 0 := FL.of _ rfl (by decide) 170 (by decide +kernel) (by decide)
theorem fl_X10_268 : FL RX10 268 2 5 0 := FL.of _ rfl (by decide) 173 (by decide +kernel) (by decide)
theorem fl_X10_273 : FL RX10 273 2 6 0 := FL.of _ rfl (by decide) 176 (by decide +kernel) (by decide)
theorem iv_bipush_119 : (Int8.ofInt (119)).toInt32 = 119 := by decide
theorem kt_X0_323 : KTs RX0 323 3 := KTs.of _ rfl 460 (by decide +kernel)
theorem kt_X10_201 : KTs RX10 201 4 := KTs.of _ rfl 1268 (by decide +kernel)
theorem lc_X10_271 : Cond.constantLong RX10 271 1000 ∈ lw_tbl := List.mem_of_getElem? (i := 1427) (by decide +kernel)
def f_X10_innerAnew (a0 : Nat) (x1 : Int32) (μ : Mm) : Option ((Int32 ⊕ String) × Mm) :=
  bd (f_X10_isRegister x1) fun y1 =>
  if ¬ y1 = 0 then
    ck (mK μ a0 = 111) <|
    bd (mR μ a0 0) fun p5 =>
    ck (mK μ p5 = 101) <|
    bd (f_X0_findInner p5 x1 μ) fun y8 =>
    some (.inl y8, μ)
  else
    some (.inr "java/lang/IllegalArgumentException", bump μ 6)
set_option maxRecDepth 100000 in
theorem s_X10_innerAnew {l : Launch} {G : Gt} (hG : Gok l G) (a0 : Nat) (x1 : Int32) (μ : Mm) (r : (Int32 ⊕ String)) (μ' : Mm) (h : f_X10_innerAnew a0 x1 μ = some (r, μ')) : ZX l G mX10_innerAnew 0 [(0, .ref a0), (1, .int x1)] [] μ (rsI r) μ' := by
  unfold f_X10_innerAnew at h
  refine zx_iload_n dX10_innerAnew_0 rfl (q := 1) rfl ?_
  obtain ⟨y1, z2, h⟩ := bd_e h
  refine zx_callS (As := [.int x1]) hG mf_X10_isRegister cs_X10_16 ⟨by decide, by decide⟩ rfl rfl (Nat.le_of_ble_eq_true rfl) (s_X10_isRegister hG _ _ _ z2) (Nat.le_of_ble_eq_true rfl) dX10_innerAnew_1 ?_
  by_cases c3 : ¬ y1 = 0
  · have h := it_t c3 h
    refine zx_if_ne_t (tgt := 15) dX10_innerAnew_4 (by decide) c3 ?_
    refine zx_aload_n dX10_innerAnew_15 rfl (q := 0) rfl ?_
    obtain ⟨h4, h⟩ := ck_e h
    obtain ⟨p5, h6, h⟩ := bd_e h
    refine zx_getR hG fl_X10_10 h4 h6 dX10_innerAnew_16 ?_
    refine zx_iload_n dX10_innerAnew_19 rfl (q := 1) rfl ?_
    obtain ⟨h7, h⟩ := ck_e h
    obtain ⟨y8, z9, h⟩ := bd_e h
    refine zx_callV (As := [.int x1]) hG mf_X0_findInner cv_X10_177 h7 ⟨by decide, by decide⟩ rfl rfl (Nat.le_of_ble_eq_true rfl) (s_X0_findInner hG _ _ _ _ z9) (Nat.le_of_ble_eq_true rfl) dX10_innerAnew_20 ?_
    cases h
    exact zx_iret dX10_innerAnew_23 rfl
  · have h := it_f c3 h
    refine zx_if_ne_f (tgt := 15) dX10_innerAnew_4 (by decide) (Classical.not_not.mp c3) ?_
    cases h
    exact zx_throw hG xt_X10_23_25 (by decide) (by decide) (Nat.le_of_ble_eq_true rfl) dX10_innerAnew_7 dX10_innerAnew_10 dX10_innerAnew_11 dX10_innerAnew_14
def f_X10_isInner (a0 : Nat) (x1 : Int32) (μ : Mm) : Option Int32 :=
  if x1 < 0 then
    some 0
  else
    ck (mK μ a0 = 111) <|
    bd (mR μ a0 0) fun p3 =>
    ck (mK μ p3 = 101) <|
    bd (mR μ p3 4) fun p6 =>
    ck (mK μ p6 = 106) <|
    if (mI μ p6 6) ≤ x1 then
      some 0
    else
      some 1
set_option maxRecDepth 100000 in
theorem s_X10_isInner {l : Launch} {G : Gt} (hG : Gok l G) (a0 : Nat) (x1 : Int32) (μ : Mm) (r : Int32) (h : f_X10_isInner a0 x1 μ = some r) : ZX l G mX10_isInner 0 [(0, .ref a0), (1, .int x1)] [] μ (.inl (some (.int r))) μ := by
  unfold f_X10_isInner at h
  refine zx_iload_n dX10_isInner_0 rfl (q := 1) rfl ?_
  by_cases c1 : x1 < 0
  · have h := it_t c1 h
    refine zx_if_lt_t (tgt := 22) dX10_isInner_1 (by decide) c1 ?_
    refine zx_iconst (v := 0) dX10_isInner_22 iv_iconst_0 ?_
    cases h
    exact zx_zretZ dX10_isInner_23 rfl zb_0
  · have h := it_f c1 h
    refine zx_if_lt_f (tgt := 22) dX10_isInner_1 (by decide) c1 ?_
    refine zx_iload_n dX10_isInner_4 rfl (q := 1) rfl ?_
    refine zx_aload_n dX10_isInner_5 rfl (q := 0) rfl ?_
    obtain ⟨h2, h⟩ := ck_e h
    obtain ⟨p3, h4, h⟩ := bd_e h
    refine zx_getR hG fl_X10_10 h2 h4 dX10_isInner_6 ?_
    obtain ⟨h5, h⟩ := ck_e h
    obtain ⟨p6, h7, h⟩ := bd_e h
    refine zx_getR hG fl_X10_62 h5 h7 dX10_isInner_9 ?_
    obtain ⟨h8, h⟩ := ck_e h
    refine zx_getI hG fl_X10_93 h8 dX10_isInner_12 ?_
    by_cases c9 : (mI μ p6 6) ≤ x1
    · have h := it_t c9 h
      refine zx_icmp_ge_t (tgt := 22) dX10_isInner_15 (by decide) c9 ?_
      refine zx_iconst (v := 0) dX10_isInner_22 iv_iconst_0 ?_
      cases h
      exact zx_zretZ dX10_isInner_23 rfl zb_0
    · have h := it_f c9 h
      refine zx_icmp_ge_f (tgt := 22) dX10_isInner_15 (by decide) c9 ?_
      refine zx_iconst (v := 1) dX10_isInner_18 iv_iconst_1 ?_
      refine zx_goto (tgt := 23) dX10_isInner_19 (by decide) ?_
      cases h
      exact zx_zretZ dX10_isInner_23 rfl zb_1
def f_X5_timesInLine_b25 (k4 : Nat → Int32 → Int32 → Int32 → Mm → Option Int32) (a0 : Nat) (x1 : Int32) (x2 : Int32) (x3 : Int32) (μ : Mm) : Option Int32 :=
  k4 a0 x1 x2 (x3 + 1) μ
def f_X5_timesInLine_b4 : Nat → Nat → Int32 → Int32 → Int32 → Mm → Option Int32
  | 0, _, _, _, _, _ => none
  | n + 1, a0, x1, x2, x3, μ =>
  ck (mK μ a0 = 106) <|
  if (mI μ a0 5) ≤ x3 then
    some x2
  else
    bd (mR μ a0 4) fun p3 =>
    ck (isA 1 (mK μ p3)) <|
    ck (inb x3 (mL μ p3)) <|
    if ¬ (mI μ p3 (Int32.toNatClampNeg x3)) = x1 then
      f_X5_timesInLine_b25 (f_X5_timesInLine_b4 n) a0 x1 x2 x3 μ
    else
      f_X5_timesInLine_b25 (f_X5_timesInLine_b4 n) a0 x1 (x2 + 1) x3 μ
def f_X5_timesInLine (a0 : Nat) (x1 : Int32) (μ : Mm) : Option Int32 :=
  f_X5_timesInLine_b4 5000 a0 x1 0 0 μ
set_option maxRecDepth 100000 in
theorem s_X5_timesInLine_b25 {l : Launch} {G : Gt} (hG : Gok l G) {k4 : Nat → Int32 → Int32 → Int32 → Mm → Option Int32} (hk4 : ∀ (a0 : Nat) (x1 : Int32) (x2 : Int32) (x3 : Int32) (μ : Mm) (r : Int32), k4 a0 x1 x2 x3 μ = some r → ZX l G mX5_timesInLine 4 [(0, .ref a0), (1, .int x1), (2, .int x2), (3, .int x3)] [] μ (.inl (some (.int r))) μ) (a0 : Nat) (x1 : Int32) (x2 : Int32) (x3 : Int32) (μ : Mm) (r : Int32) (h : f_X5_timesInLine_b25 k4 a0 x1 x2 x3 μ = some r) : ZX l G mX5_timesInLine 25 [(0, .ref a0), (1, .int x1), (2, .int x2), (3, .int x3)] [] μ (.inl (some (.int r))) μ := by
  unfold f_X5_timesInLine_b25 at h
  refine zx_iinc (q := 3) (v := x3 + 1) (L' := [(3, .int (x3 + 1)), (0, .ref a0), (1, .int x1), (2, .int x2)]) dX5_timesInLine_25 rfl rfl (by decide) rfl ?_
  refine zx_goto (tgt := 4) dX5_timesInLine_28 (by decide) ?_
  refine zx_sub (L' := [(0, .ref a0), (1, .int x1), (2, .int x2), (3, .int (x3 + 1))]) [1, 2, 3, 0] rfl ?_
  exact hk4 _ _ _ _ _ _ h
set_option maxRecDepth 100000 in
theorem s_X5_timesInLine_b4 {l : Launch} {G : Gt} (hG : Gok l G) : ∀ (n : Nat) (a0 : Nat) (x1 : Int32) (x2 : Int32) (x3 : Int32) (μ : Mm) (r : Int32), f_X5_timesInLine_b4 n a0 x1 x2 x3 μ = some r → ZX l G mX5_timesInLine 4 [(0, .ref a0), (1, .int x1), (2, .int x2), (3, .int x3)] [] μ (.inl (some (.int r))) μ := by
  intro n
  induction n with
  | zero =>
    intro a0 x1 x2 x3 μ r h
    cases h
  | succ n ih =>
    intro a0 x1 x2 x3 μ r h
    unfold f_X5_timesInLine_b4 at h
    refine zx_iload_n dX5_timesInLine_4 rfl (q := 3) rfl ?_
    refine zx_aload_n dX5_timesInLine_5 rfl (q := 0) rfl ?_
    obtain ⟨h1, h⟩ := ck_e h
    refine zx_getI hG fl_X5_28 h1 dX5_timesInLine_6 ?_
    by_cases c2 : (mI μ a0 5) ≤ x3
    · have h := it_t c2 h
      refine zx_icmp_ge_t (tgt := 31) dX5_timesInLine_9 (by decide) c2 ?_
      refine zx_iload_n dX5_timesInLine_31 rfl (q := 2) rfl ?_
      cases h
      exact zx_iret dX5_timesInLine_32 rfl
    · have h := it_f c2 h
      refine zx_icmp_ge_f (tgt := 31) dX5_timesInLine_9 (by decide) c2 ?_
      refine zx_aload_n dX5_timesInLine_12 rfl (q := 0) rfl ?_
      obtain ⟨p3, h4, h⟩ := bd_e h
      refine zx_getR hG fl_X5_25 h1 h4 dX5_timesInLine_13 ?_
      refine zx_iload_n dX5_timesInLine_16 rfl (q := 3) rfl ?_
      obtain ⟨h5, h⟩ := ck_e h
      obtain ⟨h6, h⟩ := ck_e h
      refine zx_iald hG rfl (h5).1 (h5).2 (inb_e h6) dX5_timesInLine_17 ?_
      refine zx_iload_n dX5_timesInLine_18 rfl (q := 1) rfl ?_
      by_cases c7 : ¬ (mI μ p3 (Int32.toNatClampNeg x3)) = x1
      · have h := it_t c7 h
        refine zx_icmp_ne_t (tgt := 25) dX5_timesInLine_19 (by decide) c7 ?_
        exact s_X5_timesInLine_b25 hG ih _ _ _ _ _ _ h
      · have h := it_f c7 h
        refine zx_icmp_ne_f (tgt := 25) dX5_timesInLine_19 (by decide) (Classical.not_not.mp c7) ?_
        refine zx_iinc (q := 2) (v := x2 + 1) (L' := [(2, .int (x2 + 1)), (0, .ref a0), (1, .int x1), (3, .int x3)]) dX5_timesInLine_22 rfl rfl (by decide) rfl ?_
        refine zx_sub (L' := [(0, .ref a0), (1, .int x1), (2, .int (x2 + 1)), (3, .int x3)]) [1, 2, 0, 3] rfl ?_
        exact s_X5_timesInLine_b25 hG ih _ _ _ _ _ _ h
set_option maxRecDepth 100000 in
theorem s_X5_timesInLine {l : Launch} {G : Gt} (hG : Gok l G) (a0 : Nat) (x1 : Int32) (μ : Mm) (r : Int32) (h : f_X5_timesInLine a0 x1 μ = some r) : ZX l G mX5_timesInLine 0 [(0, .ref a0), (1, .int x1)] [] μ (.inl (some (.int r))) μ := by
  unfold f_X5_timesInLine at h
  refine zx_iconst (v := 0) dX5_timesInLine_0 iv_iconst_0 ?_
  refine zx_istore_n (L' := [(2, .int 0), (0, .ref a0), (1, .int x1)]) dX5_timesInLine_1 rfl (by decide) rfl ?_
  refine zx_iconst (v := 0) dX5_timesInLine_2 iv_iconst_0 ?_
  refine zx_istore_n (L' := [(3, .int 0), (2, .int 0), (0, .ref a0), (1, .int x1)]) dX5_timesInLine_3 rfl (by decide) rfl ?_
  refine zx_sub (L' := [(0, .ref a0), (1, .int x1), (2, .int 0), (3, .int 0)]) [2, 3, 1, 0] rfl ?_
  exact s_X5_timesInLine_b4 hG 5000 _ _ _ _ _ _ h
def f_X5_isInMap_b2 : Nat → Nat → Int32 → Int32 → Mm → Option Int32
  | 0, _, _, _, _ => none
  | n + 1, a0, x1, x2, μ =>
  if 8 ≤ x2 then
    some 0
  else
    ck (mK μ a0 = 106) <|
    bd (mR μ a0 0) fun p3 =>
    ck (isA 1 (mK μ p3)) <|
    ck (inb x2 (mL μ p3)) <|
    if ¬ (mI μ p3 (Int32.toNatClampNeg x2)) = x1 then
      f_X5_isInMap_b2 n a0 x1 (x2 + 1) μ
    else
      some 1
def f_X5_isInMap (a0 : Nat) (x1 : Int32) (μ : Mm) : Option Int32 :=
  f_X5_isInMap_b2 5000 a0 x1 0 μ
set_option maxRecDepth 100000 in
theorem s_X5_isInMap_b2 {l : Launch} {G : Gt} (hG : Gok l G) : ∀ (n : Nat) (a0 : Nat) (x1 : Int32) (x2 : Int32) (μ : Mm) (r : Int32), f_X5_isInMap_b2 n a0 x1 x2 μ = some r → ZX l G mX5_isInMap 2 [(0, .ref a0), (1, .int x1), (2, .int x2)] [] μ (.inl (some (.int r))) μ := by
  intro n
  induction n with
  | zero =>
    intro a0 x1 x2 μ r h
    cases h
  | succ n ih =>
    intro a0 x1 x2 μ r h
    unfold f_X5_isInMap_b2 at h
    refine zx_iload_n dX5_isInMap_2 rfl (q := 2) rfl ?_
    refine zx_bipush (v := 8) dX5_isInMap_3 iv_bipush_8 ?_
    by_cases c1 : 8 ≤ x2
    · have h := it_t c1 h
      refine zx_icmp_ge_t (tgt := 26) dX5_isInMap_5 (by decide) c1 ?_
      refine zx_iconst (v := 0) dX5_isInMap_26 iv_iconst_0 ?_
      cases h
      exact zx_zretZ dX5_isInMap_27 rfl zb_0
    · have h := it_f c1 h
      refine zx_icmp_ge_f (tgt := 26) dX5_isInMap_5 (by decide) c1 ?_
      refine zx_aload_n dX5_isInMap_8 rfl (q := 0) rfl ?_
      obtain ⟨h2, h⟩ := ck_e h
      obtain ⟨p3, h4, h⟩ := bd_e h
      refine zx_getR hG fl_X5_9 h2 h4 dX5_isInMap_9 ?_
      refine zx_iload_n dX5_isInMap_12 rfl (q := 2) rfl ?_
      obtain ⟨h5, h⟩ := ck_e h
      obtain ⟨h6, h⟩ := ck_e h
      refine zx_iald hG rfl (h5).1 (h5).2 (inb_e h6) dX5_isInMap_13 ?_
      refine zx_iload_n dX5_isInMap_14 rfl (q := 1) rfl ?_
      by_cases c7 : ¬ (mI μ p3 (Int32.toNatClampNeg x2)) = x1
      · have h := it_t c7 h
        refine zx_icmp_ne_t (tgt := 20) dX5_isInMap_15 (by decide) c7 ?_
        refine zx_iinc (q := 2) (v := x2 + 1) (L' := [(2, .int (x2 + 1)), (0, .ref a0), (1, .int x1)]) dX5_isInMap_20 rfl rfl (by decide) rfl ?_
        refine zx_goto (tgt := 2) dX5_isInMap_23 (by decide) ?_
        refine zx_sub (L' := [(0, .ref a0), (1, .int x1), (2, .int (x2 + 1))]) [1, 2, 0] rfl ?_
        exact ih _ _ _ _ _ h
      · have h := it_f c7 h
        refine zx_icmp_ne_f (tgt := 20) dX5_isInMap_15 (by decide) (Classical.not_not.mp c7) ?_
        refine zx_iconst (v := 1) dX5_isInMap_18 iv_iconst_1 ?_
        cases h
        exact zx_zretZ dX5_isInMap_19 rfl zb_1
set_option maxRecDepth 100000 in
theorem s_X5_isInMap {l : Launch} {G : Gt} (hG : Gok l G) (a0 : Nat) (x1 : Int32) (μ : Mm) (r : Int32) (h : f_X5_isInMap a0 x1 μ = some r) : ZX l G mX5_isInMap 0 [(0, .ref a0), (1, .int x1)] [] μ (.inl (some (.int r))) μ := by
  unfold f_X5_isInMap at h
  refine zx_iconst (v := 0) dX5_isInMap_0 iv_iconst_0 ?_
  refine zx_istore_n (L' := [(2, .int 0), (0, .ref a0), (1, .int x1)]) dX5_isInMap_1 rfl (by decide) rfl ?_
  refine zx_sub (L' := [(0, .ref a0), (1, .int x1), (2, .int 0)]) [1, 2, 0] rfl ?_
  exact s_X5_isInMap_b2 hG 5000 _ _ _ _ _ h
def f_X10_stateOf (a0 : Nat) (x1 : Int32) (μ : Mm) : Option ((Int32 ⊕ String) × Mm) :=
  ck (mK μ a0 = 111) <|
  bd (f_X10_isInner a0 x1 μ) fun y2 =>
  if ¬ y2 = 0 then
    bd (mR μ a0 0) fun p5 =>
    ck (mK μ p5 = 101) <|
    bd (mR μ p5 4) fun p8 =>
    ck (mK μ p8 = 106) <|
    bd (f_X5_timesInLine p8 x1 μ) fun y11 =>
    if y11 ≤ 0 then
      bd (mR μ a0 0) fun p14 =>
      ck (mK μ p14 = 101) <|
      bd (mR μ p14 4) fun p17 =>
      ck (mK μ p17 = 106) <|
      bd (f_X5_isInMap p17 x1 μ) fun y20 =>
      if y20 = 0 then
        some (.inl 119, μ)
      else
        some (.inl 109, μ)
    else
      some (.inl 102, μ)
  else
    some (.inr "java/lang/IndexOutOfBoundsException", bump μ 6)
set_option maxRecDepth 100000 in
theorem s_X10_stateOf {l : Launch} {G : Gt} (hG : Gok l G) (a0 : Nat) (x1 : Int32) (μ : Mm) (r : (Int32 ⊕ String)) (μ' : Mm) (h : f_X10_stateOf a0 x1 μ = some (r, μ')) : ZX l G mX10_stateOf 0 [(0, .ref a0), (1, .int x1)] [] μ (rsI r) μ' := by
  unfold f_X10_stateOf at h
  refine zx_aload_n dX10_stateOf_0 rfl (q := 0) rfl ?_
  refine zx_iload_n dX10_stateOf_1 rfl (q := 1) rfl ?_
  obtain ⟨h1, h⟩ := ck_e h
  obtain ⟨y2, z3, h⟩ := bd_e h
  refine zx_callV (As := [.int x1]) hG mf_X10_isInner cv_X10_180 h1 ⟨by decide, by decide⟩ rfl rfl (Nat.le_of_ble_eq_true rfl) (s_X10_isInner hG _ _ _ _ z3) (Nat.le_of_ble_eq_true rfl) dX10_stateOf_2 ?_
  by_cases c4 : ¬ y2 = 0
  · have h := it_t c4 h
    refine zx_if_ne_t (tgt := 16) dX10_stateOf_5 (by decide) c4 ?_
    refine zx_aload_n dX10_stateOf_16 rfl (q := 0) rfl ?_
    obtain ⟨p5, h6, h⟩ := bd_e h
    refine zx_getR hG fl_X10_10 h1 h6 dX10_stateOf_17 ?_
    obtain ⟨h7, h⟩ := ck_e h
    obtain ⟨p8, h9, h⟩ := bd_e h
    refine zx_getR hG fl_X10_62 h7 h9 dX10_stateOf_20 ?_
    refine zx_iload_n dX10_stateOf_23 rfl (q := 1) rfl ?_
    obtain ⟨h10, h⟩ := ck_e h
    obtain ⟨y11, z12, h⟩ := bd_e h
    refine zx_callV (As := [.int x1]) hG mf_X5_timesInLine cv_X10_183 h10 ⟨by decide, by decide⟩ rfl rfl (Nat.le_of_ble_eq_true rfl) (s_X5_timesInLine hG _ _ _ _ z12) (Nat.le_of_ble_eq_true rfl) dX10_stateOf_24 ?_
    by_cases c13 : y11 ≤ 0
    · have h := it_t c13 h
      refine zx_if_le_t (tgt := 33) dX10_stateOf_27 (by decide) c13 ?_
      refine zx_aload_n dX10_stateOf_33 rfl (q := 0) rfl ?_
      obtain ⟨p14, h15, h⟩ := bd_e h
      refine zx_getR hG fl_X10_10 h1 h15 dX10_stateOf_34 ?_
      obtain ⟨h16, h⟩ := ck_e h
      obtain ⟨p17, h18, h⟩ := bd_e h
      refine zx_getR hG fl_X10_62 h16 h18 dX10_stateOf_37 ?_
      refine zx_iload_n dX10_stateOf_40 rfl (q := 1) rfl ?_
      obtain ⟨h19, h⟩ := ck_e h
      obtain ⟨y20, z21, h⟩ := bd_e h
      refine zx_callV (As := [.int x1]) hG mf_X5_isInMap cv_X10_186 h19 ⟨by decide, by decide⟩ rfl rfl (Nat.le_of_ble_eq_true rfl) (s_X5_isInMap hG _ _ _ _ z21) (Nat.le_of_ble_eq_true rfl) dX10_stateOf_41 ?_
      by_cases c22 : y20 = 0
      · have h := it_t c22 h
        refine zx_if_eq_t (tgt := 52) dX10_stateOf_44 (by decide) c22 ?_
        refine zx_bipush (v := 119) dX10_stateOf_52 iv_bipush_119 ?_
        cases h
        exact zx_zretC dX10_stateOf_54 rfl (show zc 119 = 119 by decide)
      · have h := it_f c22 h
        refine zx_if_eq_f (tgt := 52) dX10_stateOf_44 (by decide) c22 ?_
        refine zx_bipush (v := 109) dX10_stateOf_47 iv_bipush_109 ?_
        refine zx_goto (tgt := 54) dX10_stateOf_49 (by decide) ?_
        cases h
        exact zx_zretC dX10_stateOf_54 rfl (show zc 109 = 109 by decide)
    · have h := it_f c13 h
      refine zx_if_le_f (tgt := 33) dX10_stateOf_27 (by decide) c13 ?_
      refine zx_bipush (v := 102) dX10_stateOf_30 iv_bipush_102 ?_
      cases h
      exact zx_zretC dX10_stateOf_32 rfl (show zc 102 = 102 by decide)
  · have h := it_f c4 h
    refine zx_if_ne_f (tgt := 16) dX10_stateOf_5 (by decide) (Classical.not_not.mp c4) ?_
    cases h
    exact zx_throw hG xt_X10_134_136 (by decide) (by decide) (Nat.le_of_ble_eq_true rfl) dX10_stateOf_8 dX10_stateOf_11 dX10_stateOf_12 dX10_stateOf_15
def f_X10_isReady (a0 : Nat) (x1 : Int32) (μ : Mm) : Option ((Int32 ⊕ String) × Mm) :=
  ck (mK μ a0 = 111) <|
  bd (f_X10_isInner a0 x1 μ) fun y2 =>
  if ¬ y2 = 0 then
    bd (mR μ a0 0) fun p5 =>
    ck (mK μ p5 = 101) <|
    bd (mR μ p5 4) fun p8 =>
    ck (mK μ p8 = 106) <|
    bd (f_X5_hasValue p8 x1 μ) fun y11 =>
    ck (zb y11 = y11) <|
    some (.inl y11, μ)
  else
    some (.inr "java/lang/IndexOutOfBoundsException", bump μ 6)
set_option maxRecDepth 100000 in
theorem s_X10_isReady {l : Launch} {G : Gt} (hG : Gok l G) (a0 : Nat) (x1 : Int32) (μ : Mm) (r : (Int32 ⊕ String)) (μ' : Mm) (h : f_X10_isReady a0 x1 μ = some (r, μ')) : ZX l G mX10_isReady 0 [(0, .ref a0), (1, .int x1)] [] μ (rsI r) μ' := by
  unfold f_X10_isReady at h
  refine zx_aload_n dX10_isReady_0 rfl (q := 0) rfl ?_
  refine zx_iload_n dX10_isReady_1 rfl (q := 1) rfl ?_
  obtain ⟨h1, h⟩ := ck_e h
  obtain ⟨y2, z3, h⟩ := bd_e h
  refine zx_callV (As := [.int x1]) hG mf_X10_isInner cv_X10_180 h1 ⟨by decide, by decide⟩ rfl rfl (Nat.le_of_ble_eq_true rfl) (s_X10_isInner hG _ _ _ _ z3) (Nat.le_of_ble_eq_true rfl) dX10_isReady_2 ?_
  by_cases c4 : ¬ y2 = 0
  · have h := it_t c4 h
    refine zx_if_ne_t (tgt := 16) dX10_isReady_5 (by decide) c4 ?_
    refine zx_aload_n dX10_isReady_16 rfl (q := 0) rfl ?_
    obtain ⟨p5, h6, h⟩ := bd_e h
    refine zx_getR hG fl_X10_10 h1 h6 dX10_isReady_17 ?_
    obtain ⟨h7, h⟩ := ck_e h
    obtain ⟨p8, h9, h⟩ := bd_e h
    refine zx_getR hG fl_X10_62 h7 h9 dX10_isReady_20 ?_
    refine zx_iload_n dX10_isReady_23 rfl (q := 1) rfl ?_
    obtain ⟨h10, h⟩ := ck_e h
    obtain ⟨y11, z12, h⟩ := bd_e h
    refine zx_callV (As := [.int x1]) hG mf_X5_hasValue cv_X10_189 h10 ⟨by decide, by decide⟩ rfl rfl (Nat.le_of_ble_eq_true rfl) (s_X5_hasValue hG _ _ _ _ z12) (Nat.le_of_ble_eq_true rfl) dX10_isReady_24 ?_
    obtain ⟨h13, h⟩ := ck_e h
    cases h
    exact zx_zretZ dX10_isReady_27 rfl h13
  · have h := it_f c4 h
    refine zx_if_ne_f (tgt := 16) dX10_isReady_5 (by decide) (Classical.not_not.mp c4) ?_
    cases h
    exact zx_throw hG xt_X10_134_136 (by decide) (by decide) (Nat.le_of_ble_eq_true rfl) dX10_isReady_8 dX10_isReady_11 dX10_isReady_12 dX10_isReady_15
def f_X10_free (a0 : Nat) (μ : Mm) : Option Int32 :=
  ck (mK μ a0 = 111) <|
  bd (mR μ a0 0) fun p2 =>
  ck (mK μ p2 = 101) <|
  bd (mR μ p2 4) fun p5 =>
  ck (mK μ p5 = 106) <|
  some (mI μ p5 5)
set_option maxRecDepth 100000 in
theorem s_X10_free {l : Launch} {G : Gt} (hG : Gok l G) (a0 : Nat) (μ : Mm) (r : Int32) (h : f_X10_free a0 μ = some r) : ZX l G mX10_free 0 [(0, .ref a0)] [] μ (.inl (some (.int r))) μ := by
  unfold f_X10_free at h
  refine zx_aload_n dX10_free_0 rfl (q := 0) rfl ?_
  obtain ⟨h1, h⟩ := ck_e h
  obtain ⟨p2, h3, h⟩ := bd_e h
  refine zx_getR hG fl_X10_10 h1 h3 dX10_free_1 ?_
  obtain ⟨h4, h⟩ := ck_e h
  obtain ⟨p5, h6, h⟩ := bd_e h
  refine zx_getR hG fl_X10_62 h4 h6 dX10_free_4 ?_
  obtain ⟨h7, h⟩ := ck_e h
  refine zx_getI hG fl_X10_192 h7 dX10_free_7 ?_
  cases h
  exact zx_iret dX10_free_10 rfl
def f_X10_freeAt_b18 (μ : Mm) : Option ((Int32 ⊕ String) × Mm) :=
  some (.inr "java/lang/IndexOutOfBoundsException", bump μ 6)
def f_X10_freeAt (a0 : Nat) (x1 : Int32) (μ : Mm) : Option ((Int32 ⊕ String) × Mm) :=
  if x1 < 0 then
    f_X10_freeAt_b18 μ
  else
    ck (mK μ a0 = 111) <|
    bd (mR μ a0 0) fun p3 =>
    ck (mK μ p3 = 101) <|
    bd (mR μ p3 4) fun p6 =>
    ck (mK μ p6 = 106) <|
    if x1 < (mI μ p6 5) then
      bd (mR μ a0 0) fun p10 =>
      ck (mK μ p10 = 101) <|
      bd (mR μ p10 4) fun p13 =>
      ck (mK μ p13 = 106) <|
      bd (mR μ p13 4) fun p16 =>
      ck (isA 1 (mK μ p16)) <|
      ck (inb x1 (mL μ p16)) <|
      some (.inl (mI μ p16 (Int32.toNatClampNeg x1)), μ)
    else
      f_X10_freeAt_b18 μ
set_option maxRecDepth 100000 in
theorem s_X10_freeAt_b18 {l : Launch} {G : Gt} (hG : Gok l G) (μ : Mm) (r : (Int32 ⊕ String)) (μ' : Mm) (h : f_X10_freeAt_b18 μ = some (r, μ')) : ZX l G mX10_freeAt 18 [] [] μ (rsI r) μ' := by
  unfold f_X10_freeAt_b18 at h
  cases h
  exact zx_throw hG xt_X10_134_136 (by decide) (by decide) (Nat.le_of_ble_eq_true rfl) dX10_freeAt_18 dX10_freeAt_21 dX10_freeAt_22 dX10_freeAt_25
set_option maxRecDepth 100000 in
theorem s_X10_freeAt {l : Launch} {G : Gt} (hG : Gok l G) (a0 : Nat) (x1 : Int32) (μ : Mm) (r : (Int32 ⊕ String)) (μ' : Mm) (h : f_X10_freeAt a0 x1 μ = some (r, μ')) : ZX l G mX10_freeAt 0 [(0, .ref a0), (1, .int x1)] [] μ (rsI r) μ' := by
  unfold f_X10_freeAt at h
  refine zx_iload_n dX10_freeAt_0 rfl (q := 1) rfl ?_
  by_cases c1 : x1 < 0
  · have h := it_t c1 h
    refine zx_if_lt_t (tgt := 18) dX10_freeAt_1 (by decide) c1 ?_
    refine zx_sub (L' := []) [] rfl ?_
    exact s_X10_freeAt_b18 hG _ _ _ h
  · have h := it_f c1 h
    refine zx_if_lt_f (tgt := 18) dX10_freeAt_1 (by decide) c1 ?_
    refine zx_iload_n dX10_freeAt_4 rfl (q := 1) rfl ?_
    refine zx_aload_n dX10_freeAt_5 rfl (q := 0) rfl ?_
    obtain ⟨h2, h⟩ := ck_e h
    obtain ⟨p3, h4, h⟩ := bd_e h
    refine zx_getR hG fl_X10_10 h2 h4 dX10_freeAt_6 ?_
    obtain ⟨h5, h⟩ := ck_e h
    obtain ⟨p6, h7, h⟩ := bd_e h
    refine zx_getR hG fl_X10_62 h5 h7 dX10_freeAt_9 ?_
    obtain ⟨h8, h⟩ := ck_e h
    refine zx_getI hG fl_X10_192 h8 dX10_freeAt_12 ?_
    by_cases c9 : x1 < (mI μ p6 5)
    · have h := it_t c9 h
      refine zx_icmp_lt_t (tgt := 26) dX10_freeAt_15 (by decide) c9 ?_
      refine zx_aload_n dX10_freeAt_26 rfl (q := 0) rfl ?_
      obtain ⟨p10, h11, h⟩ := bd_e h
      refine zx_getR hG fl_X10_10 h2 h11 dX10_freeAt_27 ?_
      obtain ⟨h12, h⟩ := ck_e h
      obtain ⟨p13, h14, h⟩ := bd_e h
      refine zx_getR hG fl_X10_62 h12 h14 dX10_freeAt_30 ?_
      obtain ⟨h15, h⟩ := ck_e h
      obtain ⟨p16, h17, h⟩ := bd_e h
      refine zx_getR hG fl_X10_195 h15 h17 dX10_freeAt_33 ?_
      refine zx_iload_n dX10_freeAt_36 rfl (q := 1) rfl ?_
      obtain ⟨h18, h⟩ := ck_e h
      obtain ⟨h19, h⟩ := ck_e h
      refine zx_iald hG rfl (h18).1 (h18).2 (inb_e h19) dX10_freeAt_37 ?_
      cases h
      exact zx_iret dX10_freeAt_38 rfl
    · have h := it_f c9 h
      refine zx_icmp_lt_f (tgt := 26) dX10_freeAt_15 (by decide) c9 ?_
      refine zx_sub (L' := []) [] rfl ?_
      exact s_X10_freeAt_b18 hG _ _ _ h
def f_X10_inBuffer (a0 : Nat) (μ : Mm) : Option Int32 :=
  ck (mK μ a0 = 111) <|
  bd (mR μ a0 0) fun p2 =>
  ck (mK μ p2 = 101) <|
  bd (mR μ p2 7) fun p5 =>
  ck (mK μ p5 = 100) <|
  bd (f_Jx4a65c_size_8abf5 p5 μ) fun y8 =>
  some y8
set_option maxRecDepth 100000 in
theorem s_X10_inBuffer {l : Launch} {G : Gt} (hG : Gok l G) (a0 : Nat) (μ : Mm) (r : Int32) (h : f_X10_inBuffer a0 μ = some r) : ZX l G mX10_inBuffer 0 [(0, .ref a0)] [] μ (.inl (some (.int r))) μ := by
  unfold f_X10_inBuffer at h
  refine zx_aload_n dX10_inBuffer_0 rfl (q := 0) rfl ?_
  obtain ⟨h1, h⟩ := ck_e h
  obtain ⟨p2, h3, h⟩ := bd_e h
  refine zx_getR hG fl_X10_10 h1 h3 dX10_inBuffer_1 ?_
  obtain ⟨h4, h⟩ := ck_e h
  obtain ⟨p5, h6, h⟩ := bd_e h
  refine zx_getR hG fl_X10_198 h4 h6 dX10_inBuffer_4 ?_
  obtain ⟨h7, h⟩ := ck_e h
  obtain ⟨y8, z9, h⟩ := bd_e h
  refine zx_callV (As := []) hG mf_Jx4a65c_size_8abf5 cv_X10_30 h7 ⟨by decide, by decide⟩ rfl rfl (Nat.le_of_ble_eq_true rfl) (s_Jx4a65c_size_8abf5 hG _ _ _ z9) (Nat.le_of_ble_eq_true rfl) dX10_inBuffer_7 ?_
  cases h
  exact zx_iret dX10_inBuffer_10 rfl
def f_X10_bufferAt_b18 (μ : Mm) : Option ((Int32 ⊕ String) × Mm) :=
  some (.inr "java/lang/IndexOutOfBoundsException", bump μ 6)
def f_X10_bufferAt (a0 : Nat) (x1 : Int32) (μ : Mm) : Option ((Int32 ⊕ String) × Mm) :=
  if x1 < 0 then
    f_X10_bufferAt_b18 μ
  else
    ck (mK μ a0 = 111) <|
    bd (mR μ a0 0) fun p3 =>
    ck (mK μ p3 = 101) <|
    bd (mR μ p3 7) fun p6 =>
    ck (mK μ p6 = 100) <|
    bd (f_Jx4a65c_size_8abf5 p6 μ) fun y9 =>
    if x1 < y9 then
      bd (mR μ a0 0) fun p12 =>
      ck (mK μ p12 = 101) <|
      bd (mR μ p12 7) fun p15 =>
      ck (mK μ p15 = 100) <|
      bd (f_Jx4a65c_get_915e3 p15 x1 μ) fun p18 =>
      ck (mK μ p18 = 104) <|
      bd (mR μ p18 0) fun p21 =>
      ck (mK μ p21 = 107) <|
      some (.inl (mI μ p21 0), μ)
    else
      f_X10_bufferAt_b18 μ
set_option maxRecDepth 100000 in
theorem s_X10_bufferAt_b18 {l : Launch} {G : Gt} (hG : Gok l G) (μ : Mm) (r : (Int32 ⊕ String)) (μ' : Mm) (h : f_X10_bufferAt_b18 μ = some (r, μ')) : ZX l G mX10_bufferAt 18 [] [] μ (rsI r) μ' := by
  unfold f_X10_bufferAt_b18 at h
  cases h
  exact zx_throw hG xt_X10_134_136 (by decide) (by decide) (Nat.le_of_ble_eq_true rfl) dX10_bufferAt_18 dX10_bufferAt_21 dX10_bufferAt_22 dX10_bufferAt_25
set_option maxRecDepth 100000 in
theorem s_X10_bufferAt {l : Launch} {G : Gt} (hG : Gok l G) (a0 : Nat) (x1 : Int32) (μ : Mm) (r : (Int32 ⊕ String)) (μ' : Mm) (h : f_X10_bufferAt a0 x1 μ = some (r, μ')) : ZX l G mX10_bufferAt 0 [(0, .ref a0), (1, .int x1)] [] μ (rsI r) μ' := by
  unfold f_X10_bufferAt at h
  refine zx_iload_n dX10_bufferAt_0 rfl (q := 1) rfl ?_
  by_cases c1 : x1 < 0
  · have h := it_t c1 h
    refine zx_if_lt_t (tgt := 18) dX10_bufferAt_1 (by decide) c1 ?_
    refine zx_sub (L' := []) [] rfl ?_
    exact s_X10_bufferAt_b18 hG _ _ _ h
  · have h := it_f c1 h
    refine zx_if_lt_f (tgt := 18) dX10_bufferAt_1 (by decide) c1 ?_
    refine zx_iload_n dX10_bufferAt_4 rfl (q := 1) rfl ?_
    refine zx_aload_n dX10_bufferAt_5 rfl (q := 0) rfl ?_
    obtain ⟨h2, h⟩ := ck_e h
    obtain ⟨p3, h4, h⟩ := bd_e h
    refine zx_getR hG fl_X10_10 h2 h4 dX10_bufferAt_6 ?_
    obtain ⟨h5, h⟩ := ck_e h
    obtain ⟨p6, h7, h⟩ := bd_e h
    refine zx_getR hG fl_X10_198 h5 h7 dX10_bufferAt_9 ?_
    obtain ⟨h8, h⟩ := ck_e h
    obtain ⟨y9, z10, h⟩ := bd_e h
    refine zx_callV (As := []) hG mf_Jx4a65c_size_8abf5 cv_X10_30 h8 ⟨by decide, by decide⟩ rfl rfl (Nat.le_of_ble_eq_true rfl) (s_Jx4a65c_size_8abf5 hG _ _ _ z10) (Nat.le_of_ble_eq_true rfl) dX10_bufferAt_12 ?_
    by_cases c11 : x1 < y9
    · have h := it_t c11 h
      refine zx_icmp_lt_t (tgt := 26) dX10_bufferAt_15 (by decide) c11 ?_
      refine zx_aload_n dX10_bufferAt_26 rfl (q := 0) rfl ?_
      obtain ⟨p12, h13, h⟩ := bd_e h
      refine zx_getR hG fl_X10_10 h2 h13 dX10_bufferAt_27 ?_
      obtain ⟨h14, h⟩ := ck_e h
      obtain ⟨p15, h16, h⟩ := bd_e h
      refine zx_getR hG fl_X10_198 h14 h16 dX10_bufferAt_30 ?_
      refine zx_iload_n dX10_bufferAt_33 rfl (q := 1) rfl ?_
      obtain ⟨h17, h⟩ := ck_e h
      obtain ⟨p18, z19, h⟩ := bd_e h
      refine zx_callV (As := [.int x1]) hG mf_Jx4a65c_get_915e3 cv_X10_137 h17 ⟨by decide, by decide⟩ rfl rfl (Nat.le_of_ble_eq_true rfl) (s_Jx4a65c_get_915e3 hG _ _ _ _ z19) (Nat.le_of_ble_eq_true rfl) dX10_bufferAt_34 ?_
      obtain ⟨h20, h⟩ := ck_e h
      refine zx_castO hG kt_X10_201 h20 dX10_bufferAt_37 ?_
      obtain ⟨p21, h22, h⟩ := bd_e h
      refine zx_getR hG fl_X10_203 h20 h22 dX10_bufferAt_40 ?_
      obtain ⟨h23, h⟩ := ck_e h
      refine zx_getI hG fl_X10_207 h23 dX10_bufferAt_43 ?_
      cases h
      exact zx_iret dX10_bufferAt_46 rfl
    · have h := it_f c11 h
      refine zx_icmp_lt_f (tgt := 26) dX10_bufferAt_15 (by decide) c11 ?_
      refine zx_sub (L' := []) [] rfl ?_
      exact s_X10_bufferAt_b18 hG _ _ _ h
def f_X10_stageAt_b18 (μ : Mm) : Option ((Int32 ⊕ String) × Mm) :=
  some (.inr "java/lang/IndexOutOfBoundsException", bump μ 6)
def f_X10_stageAt (a0 : Nat) (x1 : Int32) (μ : Mm) : Option ((Int32 ⊕ String) × Mm) :=
  if x1 < 0 then
    f_X10_stageAt_b18 μ
  else
    ck (mK μ a0 = 111) <|
    bd (mR μ a0 0) fun p3 =>
    ck (mK μ p3 = 101) <|
    bd (mR μ p3 7) fun p6 =>
    ck (mK μ p6 = 100) <|
    bd (f_Jx4a65c_size_8abf5 p6 μ) fun y9 =>
    if x1 < y9 then
      bd (mR μ a0 0) fun p12 =>
      ck (mK μ p12 = 101) <|
      bd (mR μ p12 7) fun p15 =>
      ck (mK μ p15 = 100) <|
      bd (f_Jx4a65c_get_915e3 p15 x1 μ) fun p18 =>
      ck (mK μ p18 = 104) <|
      ck (zc (zc (mI μ p18 5)) = (zc (mI μ p18 5))) <|
      some (.inl (zc (mI μ p18 5)), μ)
    else
      f_X10_stageAt_b18 μ
set_option maxRecDepth 100000 in
theorem s_X10_stageAt_b18 {l : Launch} {G : Gt} (hG : Gok l G) (μ : Mm) (r : (Int32 ⊕ String)) (μ' : Mm) (h : f_X10_stageAt_b18 μ = some (r, μ')) : ZX l G mX10_stageAt 18 [] [] μ (rsI r) μ' := by
  unfold f_X10_stageAt_b18 at h
  cases h
  exact zx_throw hG xt_X10_134_136 (by decide) (by decide) (Nat.le_of_ble_eq_true rfl) dX10_stageAt_18 dX10_stageAt_21 dX10_stageAt_22 dX10_stageAt_25
set_option maxRecDepth 100000 in
theorem s_X10_stageAt {l : Launch} {G : Gt} (hG : Gok l G) (a0 : Nat) (x1 : Int32) (μ : Mm) (r : (Int32 ⊕ String)) (μ' : Mm) (h : f_X10_stageAt a0 x1 μ = some (r, μ')) : ZX l G mX10_stageAt 0 [(0, .ref a0), (1, .int x1)] [] μ (rsI r) μ' := by
  unfold f_X10_stageAt at h
  refine zx_iload_n dX10_stageAt_0 rfl (q := 1) rfl ?_
  by_cases c1 : x1 < 0
  · have h := it_t c1 h
    refine zx_if_lt_t (tgt := 18) dX10_stageAt_1 (by decide) c1 ?_
    refine zx_sub (L' := []) [] rfl ?_
    exact s_X10_stageAt_b18 hG _ _ _ h
  · have h := it_f c1 h
    refine zx_if_lt_f (tgt := 18) dX10_stageAt_1 (by decide) c1 ?_
    refine zx_iload_n dX10_stageAt_4 rfl (q := 1) rfl ?_
    refine zx_aload_n dX10_stageAt_5 rfl (q := 0) rfl ?_
    obtain ⟨h2, h⟩ := ck_e h
    obtain ⟨p3, h4, h⟩ := bd_e h
    refine zx_getR hG fl_X10_10 h2 h4 dX10_stageAt_6 ?_
    obtain ⟨h5, h⟩ := ck_e h
    obtain ⟨p6, h7, h⟩ := bd_e h
    refine zx_getR hG fl_X10_198 h5 h7 dX10_stageAt_9 ?_
    obtain ⟨h8, h⟩ := ck_e h
    obtain ⟨y9, z10, h⟩ := bd_e h
    refine zx_callV (As := []) hG mf_Jx4a65c_size_8abf5 cv_X10_30 h8 ⟨by decide, by decide⟩ rfl rfl (Nat.le_of_ble_eq_true rfl) (s_Jx4a65c_size_8abf5 hG _ _ _ z10) (Nat.le_of_ble_eq_true rfl) dX10_stageAt_12 ?_
    by_cases c11 : x1 < y9
    · have h := it_t c11 h
      refine zx_icmp_lt_t (tgt := 26) dX10_stageAt_15 (by decide) c11 ?_
      refine zx_aload_n dX10_stageAt_26 rfl (q := 0) rfl ?_
      obtain ⟨p12, h13, h⟩ := bd_e h
      refine zx_getR hG fl_X10_10 h2 h13 dX10_stageAt_27 ?_
      obtain ⟨h14, h⟩ := ck_e h
      obtain ⟨p15, h16, h⟩ := bd_e h
      refine zx_getR hG fl_X10_198 h14 h16 dX10_stageAt_30 ?_
      refine zx_iload_n dX10_stageAt_33 rfl (q := 1) rfl ?_
      obtain ⟨h17, h⟩ := ck_e h
      obtain ⟨p18, z19, h⟩ := bd_e h
      refine zx_callV (As := [.int x1]) hG mf_Jx4a65c_get_915e3 cv_X10_137 h17 ⟨by decide, by decide⟩ rfl rfl (Nat.le_of_ble_eq_true rfl) (s_Jx4a65c_get_915e3 hG _ _ _ _ z19) (Nat.le_of_ble_eq_true rfl) dX10_stageAt_34 ?_
      obtain ⟨h20, h⟩ := ck_e h
      refine zx_castO hG kt_X10_201 h20 dX10_stageAt_37 ?_
      refine zx_getC hG fl_X10_208 h20 dX10_stageAt_40 ?_
      obtain ⟨h21, h⟩ := ck_e h
      cases h
      exact zx_zretC dX10_stageAt_43 rfl h21
    · have h := it_f c11 h
      refine zx_icmp_lt_f (tgt := 26) dX10_stageAt_15 (by decide) c11 ?_
      refine zx_sub (L' := []) [] rfl ?_
      exact s_X10_stageAt_b18 hG _ _ _ h
def f_X10_inQueue (a0 : Nat) (μ : Mm) : Option Int32 :=
  ck (mK μ a0 = 111) <|
  bd (mR μ a0 0) fun p2 =>
  ck (mK μ p2 = 101) <|
  bd (f_X0_countQueue p2 μ) fun y5 =>
  some y5
set_option maxRecDepth 100000 in
theorem s_X10_inQueue {l : Launch} {G : Gt} (hG : Gok l G) (a0 : Nat) (μ : Mm) (r : Int32) (h : f_X10_inQueue a0 μ = some r) : ZX l G mX10_inQueue 0 [(0, .ref a0)] [] μ (.inl (some (.int r))) μ := by
  unfold f_X10_inQueue at h
  refine zx_aload_n dX10_inQueue_0 rfl (q := 0) rfl ?_
  obtain ⟨h1, h⟩ := ck_e h
  obtain ⟨p2, h3, h⟩ := bd_e h
  refine zx_getR hG fl_X10_10 h1 h3 dX10_inQueue_1 ?_
  obtain ⟨h4, h⟩ := ck_e h
  obtain ⟨y5, z6, h⟩ := bd_e h
  refine zx_callV (As := []) hG mf_X0_countQueue cv_X10_212 h4 ⟨by decide, by decide⟩ rfl rfl (Nat.le_of_ble_eq_true rfl) (s_X0_countQueue hG _ _ _ z6) (Nat.le_of_ble_eq_true rfl) dX10_inQueue_4 ?_
  cases h
  exact zx_iret dX10_inQueue_7 rfl
def f_X10_fetched (a0 : Nat) (μ : Mm) : Option Int32 :=
  ck (mK μ a0 = 111) <|
  bd (mR μ a0 0) fun p2 =>
  ck (mK μ p2 = 101) <|
  bd (mR μ p2 6) fun p5 =>
  ck (mK μ p5 = 105) <|
  bd (mR μ p5 0) fun p8 =>
  ck (mK μ p8 = 100) <|
  bd (f_Jx4a65c_size_8abf5 p8 μ) fun y11 =>
  some y11
set_option maxRecDepth 100000 in
theorem s_X10_fetched {l : Launch} {G : Gt} (hG : Gok l G) (a0 : Nat) (μ : Mm) (r : Int32) (h : f_X10_fetched a0 μ = some r) : ZX l G mX10_fetched 0 [(0, .ref a0)] [] μ (.inl (some (.int r))) μ := by
  unfold f_X10_fetched at h
  refine zx_aload_n dX10_fetched_0 rfl (q := 0) rfl ?_
  obtain ⟨h1, h⟩ := ck_e h
  obtain ⟨p2, h3, h⟩ := bd_e h
  refine zx_getR hG fl_X10_10 h1 h3 dX10_fetched_1 ?_
  obtain ⟨h4, h⟩ := ck_e h
  obtain ⟨p5, h6, h⟩ := bd_e h
  refine zx_getR hG fl_X10_215 h4 h6 dX10_fetched_4 ?_
  obtain ⟨h7, h⟩ := ck_e h
  obtain ⟨p8, h9, h⟩ := bd_e h
  refine zx_getR hG fl_X10_219 h7 h9 dX10_fetched_7 ?_
  obtain ⟨h10, h⟩ := ck_e h
  obtain ⟨y11, z12, h⟩ := bd_e h
  refine zx_callV (As := []) hG mf_Jx4a65c_size_8abf5 cv_X10_30 h10 ⟨by decide, by decide⟩ rfl rfl (Nat.le_of_ble_eq_true rfl) (s_Jx4a65c_size_8abf5 hG _ _ _ z12) (Nat.le_of_ble_eq_true rfl) dX10_fetched_10 ?_
  cases h
  exact zx_iret dX10_fetched_13 rfl
def f_X10_fetching (a0 : Nat) (μ : Mm) : Option ((Int32 ⊕ String) × Mm) :=
  ck (mK μ a0 = 111) <|
  bd (mR μ a0 0) fun p2 =>
  ck (mK μ p2 = 101) <|
  bd (mR μ p2 6) fun p5 =>
  ck (mK μ p5 = 105) <|
  if (zb (mI μ p5 5)) = 0 then
    bd (mR μ a0 0) fun p9 =>
    ck (mK μ p9 = 101) <|
    bd (mR μ p9 6) fun p12 =>
    ck (mK μ p12 = 105) <|
    some (.inl (mI μ p12 4), μ)
  else
    some (.inr "java/util/NoSuchElementException", bump μ 6)
set_option maxRecDepth 100000 in
theorem s_X10_fetching {l : Launch} {G : Gt} (hG : Gok l G) (a0 : Nat) (μ : Mm) (r : (Int32 ⊕ String)) (μ' : Mm) (h : f_X10_fetching a0 μ = some (r, μ')) : ZX l G mX10_fetching 0 [(0, .ref a0)] [] μ (rsI r) μ' := by
  unfold f_X10_fetching at h
  refine zx_aload_n dX10_fetching_0 rfl (q := 0) rfl ?_
  obtain ⟨h1, h⟩ := ck_e h
  obtain ⟨p2, h3, h⟩ := bd_e h
  refine zx_getR hG fl_X10_10 h1 h3 dX10_fetching_1 ?_
  obtain ⟨h4, h⟩ := ck_e h
  obtain ⟨p5, h6, h⟩ := bd_e h
  refine zx_getR hG fl_X10_215 h4 h6 dX10_fetching_4 ?_
  obtain ⟨h7, h⟩ := ck_e h
  refine zx_getZ hG fl_X10_223 h7 dX10_fetching_7 ?_
  by_cases c8 : (zb (mI μ p5 5)) = 0
  · have h := it_t c8 h
    refine zx_if_eq_t (tgt := 21) dX10_fetching_10 (by decide) c8 ?_
    refine zx_aload_n dX10_fetching_21 rfl (q := 0) rfl ?_
    obtain ⟨p9, h10, h⟩ := bd_e h
    refine zx_getR hG fl_X10_10 h1 h10 dX10_fetching_22 ?_
    obtain ⟨h11, h⟩ := ck_e h
    obtain ⟨p12, h13, h⟩ := bd_e h
    refine zx_getR hG fl_X10_215 h11 h13 dX10_fetching_25 ?_
    obtain ⟨h14, h⟩ := ck_e h
    refine zx_getI hG fl_X10_226 h14 dX10_fetching_28 ?_
    cases h
    exact zx_iret dX10_fetching_31 rfl
  · have h := it_f c8 h
    refine zx_if_eq_f (tgt := 21) dX10_fetching_10 (by decide) c8 ?_
    cases h
    exact zx_throw hG xt_X10_165_167 (by decide) (by decide) (Nat.le_of_ble_eq_true rfl) dX10_fetching_13 dX10_fetching_16 dX10_fetching_17 dX10_fetching_20
def f_X10_returns (a0 : Nat) (μ : Mm) : Option Int32 :=
  ck (mK μ a0 = 111) <|
  bd (mR μ a0 0) fun p2 =>
  ck (mK μ p2 = 101) <|
  bd (mR μ p2 6) fun p5 =>
  ck (mK μ p5 = 105) <|
  bd (mR μ p5 3) fun p8 =>
  ck (isA1256 (mK μ p8)) <|
  some (nI (mL μ p8))
set_option maxRecDepth 100000 in
theorem s_X10_returns {l : Launch} {G : Gt} (hG : Gok l G) (a0 : Nat) (μ : Mm) (r : Int32) (h : f_X10_returns a0 μ = some r) : ZX l G mX10_returns 0 [(0, .ref a0)] [] μ (.inl (some (.int r))) μ := by
  unfold f_X10_returns at h
  refine zx_aload_n dX10_returns_0 rfl (q := 0) rfl ?_
  obtain ⟨h1, h⟩ := ck_e h
  obtain ⟨p2, h3, h⟩ := bd_e h
  refine zx_getR hG fl_X10_10 h1 h3 dX10_returns_1 ?_
  obtain ⟨h4, h⟩ := ck_e h
  obtain ⟨p5, h6, h⟩ := bd_e h
  refine zx_getR hG fl_X10_215 h4 h6 dX10_returns_4 ?_
  obtain ⟨h7, h⟩ := ck_e h
  obtain ⟨p8, h9, h⟩ := bd_e h
  refine zx_getR hG fl_X10_227 h7 h9 dX10_returns_7 ?_
  obtain ⟨h10, h⟩ := ck_e h
  refine zx_alen hG rfl (h10).1 (h10).2 dX10_returns_10 ?_
  cases h
  exact zx_iret dX10_returns_11 rfl
def f_X10_returnAt_b21 (μ : Mm) : Option ((Int32 ⊕ String) × Mm) :=
  some (.inr "java/lang/IndexOutOfBoundsException", bump μ 6)
def f_X10_returnAt (a0 : Nat) (x1 : Int32) (μ : Mm) : Option ((Int32 ⊕ String) × Mm) :=
  ck (mK μ a0 = 111) <|
  bd (mR μ a0 0) fun p2 =>
  ck (mK μ p2 = 101) <|
  bd (mR μ p2 6) fun p5 =>
  ck (mK μ p5 = 105) <|
  bd (mR μ p5 3) fun p8 =>
  if x1 < 0 then
    f_X10_returnAt_b21 μ
  else
    ck (isA1256 (mK μ p8)) <|
    if x1 < (nI (mL μ p8)) then
      ck (isA 1 (mK μ p8)) <|
      ck (inb (((nI (mL μ p8)) - 1) - x1) (mL μ p8)) <|
      some (.inl (mI μ p8 (Int32.toNatClampNeg (((nI (mL μ p8)) - 1) - x1))), μ)
    else
      f_X10_returnAt_b21 μ
set_option maxRecDepth 100000 in
theorem s_X10_returnAt_b21 {l : Launch} {G : Gt} (hG : Gok l G) (μ : Mm) (r : (Int32 ⊕ String)) (μ' : Mm) (h : f_X10_returnAt_b21 μ = some (r, μ')) : ZX l G mX10_returnAt 21 [] [] μ (rsI r) μ' := by
  unfold f_X10_returnAt_b21 at h
  cases h
  exact zx_throw hG xt_X10_134_136 (by decide) (by decide) (Nat.le_of_ble_eq_true rfl) dX10_returnAt_21 dX10_returnAt_24 dX10_returnAt_25 dX10_returnAt_28
set_option maxRecDepth 100000 in
theorem s_X10_returnAt {l : Launch} {G : Gt} (hG : Gok l G) (a0 : Nat) (x1 : Int32) (μ : Mm) (r : (Int32 ⊕ String)) (μ' : Mm) (h : f_X10_returnAt a0 x1 μ = some (r, μ')) : ZX l G mX10_returnAt 0 [(0, .ref a0), (1, .int x1)] [] μ (rsI r) μ' := by
  unfold f_X10_returnAt at h
  refine zx_aload_n dX10_returnAt_0 rfl (q := 0) rfl ?_
  obtain ⟨h1, h⟩ := ck_e h
  obtain ⟨p2, h3, h⟩ := bd_e h
  refine zx_getR hG fl_X10_10 h1 h3 dX10_returnAt_1 ?_
  obtain ⟨h4, h⟩ := ck_e h
  obtain ⟨p5, h6, h⟩ := bd_e h
  refine zx_getR hG fl_X10_215 h4 h6 dX10_returnAt_4 ?_
  obtain ⟨h7, h⟩ := ck_e h
  obtain ⟨p8, h9, h⟩ := bd_e h
  refine zx_getR hG fl_X10_227 h7 h9 dX10_returnAt_7 ?_
  refine zx_astore_n (L' := [(2, .ref p8), (0, .ref a0), (1, .int x1)]) dX10_returnAt_10 rfl (by decide) rfl ?_
  refine zx_iload_n dX10_returnAt_11 rfl (q := 2) rfl ?_
  by_cases c10 : x1 < 0
  · have h := it_t c10 h
    refine zx_if_lt_t (tgt := 21) dX10_returnAt_12 (by decide) c10 ?_
    refine zx_sub (L' := []) [] rfl ?_
    exact s_X10_returnAt_b21 hG _ _ _ h
  · have h := it_f c10 h
    refine zx_if_lt_f (tgt := 21) dX10_returnAt_12 (by decide) c10 ?_
    refine zx_iload_n dX10_returnAt_15 rfl (q := 2) rfl ?_
    refine zx_aload_n dX10_returnAt_16 rfl (q := 0) rfl ?_
    obtain ⟨h11, h⟩ := ck_e h
    refine zx_alen hG rfl (h11).1 (h11).2 dX10_returnAt_17 ?_
    by_cases c12 : x1 < (nI (mL μ p8))
    · have h := it_t c12 h
      refine zx_icmp_lt_t (tgt := 29) dX10_returnAt_18 (by decide) c12 ?_
      refine zx_aload_n dX10_returnAt_29 rfl (q := 0) rfl ?_
      refine zx_aload_n dX10_returnAt_30 rfl (q := 0) rfl ?_
      refine zx_alen hG rfl (h11).1 (h11).2 dX10_returnAt_31 ?_
      refine zx_iconst (v := 1) dX10_returnAt_32 iv_iconst_1 ?_
      refine zx_isub dX10_returnAt_33 ?_
      refine zx_iload_n dX10_returnAt_34 rfl (q := 2) rfl ?_
      refine zx_isub dX10_returnAt_35 ?_
      obtain ⟨h13, h⟩ := ck_e h
      obtain ⟨h14, h⟩ := ck_e h
      refine zx_iald hG rfl (h13).1 (h13).2 (inb_e h14) dX10_returnAt_36 ?_
      cases h
      exact zx_iret dX10_returnAt_37 rfl
    · have h := it_f c12 h
      refine zx_icmp_lt_f (tgt := 29) dX10_returnAt_18 (by decide) c12 ?_
      refine zx_sub (L' := []) [] rfl ?_
      exact s_X10_returnAt_b21 hG _ _ _ h
def f_X10_counter_b10 (μ : Mm) : Option ((Int32 ⊕ String) × Mm) :=
  some (.inr "java/lang/IllegalArgumentException", bump μ 6)
def f_X10_counter (a0 : Nat) (x1 : Int32) (μ : Mm) : Option ((Int32 ⊕ String) × Mm) :=
  if x1 < 0 then
    f_X10_counter_b10 μ
  else
    if x1 < 16 then
      ck (mK μ a0 = 111) <|
      bd (mR μ a0 0) fun p4 =>
      ck (mK μ p4 = 101) <|
      bd (mR μ p4 6) fun p7 =>
      ck (mK μ p7 = 105) <|
      bd (mR μ p7 1) fun p10 =>
      ck (isA 1 (mK μ p10)) <|
      ck (inb x1 (mL μ p10)) <|
      some (.inl (mI μ p10 (Int32.toNatClampNeg x1)), μ)
    else
      f_X10_counter_b10 μ
set_option maxRecDepth 100000 in
theorem s_X10_counter_b10 {l : Launch} {G : Gt} (hG : Gok l G) (μ : Mm) (r : (Int32 ⊕ String)) (μ' : Mm) (h : f_X10_counter_b10 μ = some (r, μ')) : ZX l G mX10_counter 10 [] [] μ (rsI r) μ' := by
  unfold f_X10_counter_b10 at h
  cases h
  exact zx_throw hG xt_X10_23_25 (by decide) (by decide) (Nat.le_of_ble_eq_true rfl) dX10_counter_10 dX10_counter_13 dX10_counter_14 dX10_counter_17
set_option maxRecDepth 100000 in
theorem s_X10_counter {l : Launch} {G : Gt} (hG : Gok l G) (a0 : Nat) (x1 : Int32) (μ : Mm) (r : (Int32 ⊕ String)) (μ' : Mm) (h : f_X10_counter a0 x1 μ = some (r, μ')) : ZX l G mX10_counter 0 [(0, .ref a0), (1, .int x1)] [] μ (rsI r) μ' := by
  unfold f_X10_counter at h
  refine zx_iload_n dX10_counter_0 rfl (q := 1) rfl ?_
  by_cases c1 : x1 < 0
  · have h := it_t c1 h
    refine zx_if_lt_t (tgt := 10) dX10_counter_1 (by decide) c1 ?_
    refine zx_sub (L' := []) [] rfl ?_
    exact s_X10_counter_b10 hG _ _ _ h
  · have h := it_f c1 h
    refine zx_if_lt_f (tgt := 10) dX10_counter_1 (by decide) c1 ?_
    refine zx_iload_n dX10_counter_4 rfl (q := 1) rfl ?_
    refine zx_bipush (v := 16) dX10_counter_5 iv_bipush_16 ?_
    by_cases c2 : x1 < 16
    · have h := it_t c2 h
      refine zx_icmp_lt_t (tgt := 18) dX10_counter_7 (by decide) c2 ?_
      refine zx_aload_n dX10_counter_18 rfl (q := 0) rfl ?_
      obtain ⟨h3, h⟩ := ck_e h
      obtain ⟨p4, h5, h⟩ := bd_e h
      refine zx_getR hG fl_X10_10 h3 h5 dX10_counter_19 ?_
      obtain ⟨h6, h⟩ := ck_e h
      obtain ⟨p7, h8, h⟩ := bd_e h
      refine zx_getR hG fl_X10_215 h6 h8 dX10_counter_22 ?_
      obtain ⟨h9, h⟩ := ck_e h
      obtain ⟨p10, h11, h⟩ := bd_e h
      refine zx_getR hG fl_X10_230 h9 h11 dX10_counter_25 ?_
      refine zx_iload_n dX10_counter_28 rfl (q := 1) rfl ?_
      obtain ⟨h12, h⟩ := ck_e h
      obtain ⟨h13, h⟩ := ck_e h
      refine zx_iald hG rfl (h12).1 (h12).2 (inb_e h13) dX10_counter_29 ?_
      cases h
      exact zx_iret dX10_counter_30 rfl
    · have h := it_f c2 h
      refine zx_icmp_lt_f (tgt := 18) dX10_counter_7 (by decide) c2 ?_
      refine zx_sub (L' := []) [] rfl ?_
      exact s_X10_counter_b10 hG _ _ _ h
def f_X10_isMarked_b10 (μ : Mm) : Option ((Int32 ⊕ String) × Mm) :=
  some (.inr "java/lang/IllegalArgumentException", bump μ 6)
def f_X10_isMarked (a0 : Nat) (x1 : Int32) (μ : Mm) : Option ((Int32 ⊕ String) × Mm) :=
  if x1 < 0 then
    f_X10_isMarked_b10 μ
  else
    if x1 < 16 then
      ck (mK μ a0 = 111) <|
      bd (mR μ a0 0) fun p4 =>
      ck (mK μ p4 = 101) <|
      bd (mR μ p4 10) fun p7 =>
      ck (isA 2 (mK μ p7)) <|
      ck (inb x1 (mL μ p7)) <|
      ck (zb (zb (mI μ p7 (Int32.toNatClampNeg x1))) = (zb (mI μ p7 (Int32.toNatClampNeg x1)))) <|
      some (.inl (zb (mI μ p7 (Int32.toNatClampNeg x1))), μ)
    else
      f_X10_isMarked_b10 μ
set_option maxRecDepth 100000 in
theorem s_X10_isMarked_b10 {l : Launch} {G : Gt} (hG : Gok l G) (μ : Mm) (r : (Int32 ⊕ String)) (μ' : Mm) (h : f_X10_isMarked_b10 μ = some (r, μ')) : ZX l G mX10_isMarked 10 [] [] μ (rsI r) μ' := by
  unfold f_X10_isMarked_b10 at h
  cases h
  exact zx_throw hG xt_X10_23_25 (by decide) (by decide) (Nat.le_of_ble_eq_true rfl) dX10_isMarked_10 dX10_isMarked_13 dX10_isMarked_14 dX10_isMarked_17
set_option maxRecDepth 100000 in
theorem s_X10_isMarked {l : Launch} {G : Gt} (hG : Gok l G) (a0 : Nat) (x1 : Int32) (μ : Mm) (r : (Int32 ⊕ String)) (μ' : Mm) (h : f_X10_isMarked a0 x1 μ = some (r, μ')) : ZX l G mX10_isMarked 0 [(0, .ref a0), (1, .int x1)] [] μ (rsI r) μ' := by
  unfold f_X10_isMarked at h
  refine zx_iload_n dX10_isMarked_0 rfl (q := 1) rfl ?_
  by_cases c1 : x1 < 0
  · have h := it_t c1 h
    refine zx_if_lt_t (tgt := 10) dX10_isMarked_1 (by decide) c1 ?_
    refine zx_sub (L' := []) [] rfl ?_
    exact s_X10_isMarked_b10 hG _ _ _ h
  · have h := it_f c1 h
    refine zx_if_lt_f (tgt := 10) dX10_isMarked_1 (by decide) c1 ?_
    refine zx_iload_n dX10_isMarked_4 rfl (q := 1) rfl ?_
    refine zx_bipush (v := 16) dX10_isMarked_5 iv_bipush_16 ?_
    by_cases c2 : x1 < 16
    · have h := it_t c2 h
      refine zx_icmp_lt_t (tgt := 18) dX10_isMarked_7 (by decide) c2 ?_
      refine zx_aload_n dX10_isMarked_18 rfl (q := 0) rfl ?_
      obtain ⟨h3, h⟩ := ck_e h
      obtain ⟨p4, h5, h⟩ := bd_e h
      refine zx_getR hG fl_X10_10 h3 h5 dX10_isMarked_19 ?_
      obtain ⟨h6, h⟩ := ck_e h
      obtain ⟨p7, h8, h⟩ := bd_e h
      refine zx_getR hG fl_X10_233 h6 h8 dX10_isMarked_22 ?_
      refine zx_iload_n dX10_isMarked_25 rfl (q := 1) rfl ?_
      obtain ⟨h9, h⟩ := ck_e h
      obtain ⟨h10, h⟩ := ck_e h
      refine zx_zald hG rfl (h9).1 (h9).2 (inb_e h10) dX10_isMarked_26 ?_
      obtain ⟨h11, h⟩ := ck_e h
      cases h
      exact zx_zretZ dX10_isMarked_27 rfl h11
    · have h := it_f c2 h
      refine zx_icmp_lt_f (tgt := 18) dX10_isMarked_7 (by decide) c2 ?_
      refine zx_sub (L' := []) [] rfl ?_
      exact s_X10_isMarked_b10 hG _ _ _ h
def f_X10_lineAt_b9 (μ : Mm) : Option ((Int32 ⊕ String) × Mm) :=
  some (.inr "java/lang/IllegalArgumentException", bump μ 6)
def f_X10_lineAt (a0 : Nat) (x1 : Int32) (μ : Mm) : Option ((Int32 ⊕ String) × Mm) :=
  if x1 < 0 then
    f_X10_lineAt_b9 μ
  else
    if x1 < 4 then
      ck (mK μ a0 = 111) <|
      bd (mR μ a0 0) fun p4 =>
      ck (mK μ p4 = 101) <|
      bd (mR μ p4 5) fun p7 =>
      ck (mK μ p7 = 108) <|
      bd (mR μ p7 0) fun p10 =>
      ck (isA 1 (mK μ p10)) <|
      ck (inb x1 (mL μ p10)) <|
      some (.inl (mI μ p10 (Int32.toNatClampNeg x1)), μ)
    else
      f_X10_lineAt_b9 μ
set_option maxRecDepth 100000 in
theorem s_X10_lineAt_b9 {l : Launch} {G : Gt} (hG : Gok l G) (μ : Mm) (r : (Int32 ⊕ String)) (μ' : Mm) (h : f_X10_lineAt_b9 μ = some (r, μ')) : ZX l G mX10_lineAt 9 [] [] μ (rsI r) μ' := by
  unfold f_X10_lineAt_b9 at h
  cases h
  exact zx_throw hG xt_X10_23_25 (by decide) (by decide) (Nat.le_of_ble_eq_true rfl) dX10_lineAt_9 dX10_lineAt_12 dX10_lineAt_13 dX10_lineAt_16
set_option maxRecDepth 100000 in
theorem s_X10_lineAt {l : Launch} {G : Gt} (hG : Gok l G) (a0 : Nat) (x1 : Int32) (μ : Mm) (r : (Int32 ⊕ String)) (μ' : Mm) (h : f_X10_lineAt a0 x1 μ = some (r, μ')) : ZX l G mX10_lineAt 0 [(0, .ref a0), (1, .int x1)] [] μ (rsI r) μ' := by
  unfold f_X10_lineAt at h
  refine zx_iload_n dX10_lineAt_0 rfl (q := 1) rfl ?_
  by_cases c1 : x1 < 0
  · have h := it_t c1 h
    refine zx_if_lt_t (tgt := 9) dX10_lineAt_1 (by decide) c1 ?_
    refine zx_sub (L' := []) [] rfl ?_
    exact s_X10_lineAt_b9 hG _ _ _ h
  · have h := it_f c1 h
    refine zx_if_lt_f (tgt := 9) dX10_lineAt_1 (by decide) c1 ?_
    refine zx_iload_n dX10_lineAt_4 rfl (q := 1) rfl ?_
    refine zx_iconst (v := 4) dX10_lineAt_5 iv_iconst_4 ?_
    by_cases c2 : x1 < 4
    · have h := it_t c2 h
      refine zx_icmp_lt_t (tgt := 17) dX10_lineAt_6 (by decide) c2 ?_
      refine zx_aload_n dX10_lineAt_17 rfl (q := 0) rfl ?_
      obtain ⟨h3, h⟩ := ck_e h
      obtain ⟨p4, h5, h⟩ := bd_e h
      refine zx_getR hG fl_X10_10 h3 h5 dX10_lineAt_18 ?_
      obtain ⟨h6, h⟩ := ck_e h
      obtain ⟨p7, h8, h⟩ := bd_e h
      refine zx_getR hG fl_X10_109 h6 h8 dX10_lineAt_21 ?_
      obtain ⟨h9, h⟩ := ck_e h
      obtain ⟨p10, h11, h⟩ := bd_e h
      refine zx_getR hG fl_X10_237 h9 h11 dX10_lineAt_24 ?_
      refine zx_iload_n dX10_lineAt_27 rfl (q := 1) rfl ?_
      obtain ⟨h12, h⟩ := ck_e h
      obtain ⟨h13, h⟩ := ck_e h
      refine zx_iald hG rfl (h12).1 (h12).2 (inb_e h13) dX10_lineAt_28 ?_
      cases h
      exact zx_iret dX10_lineAt_29 rfl
    · have h := it_f c2 h
      refine zx_icmp_lt_f (tgt := 17) dX10_lineAt_6 (by decide) c2 ?_
      refine zx_sub (L' := []) [] rfl ?_
      exact s_X10_lineAt_b9 hG _ _ _ h
def f_X10_asked (a0 : Nat) (μ : Mm) : Option Int32 :=
  ck (mK μ a0 = 111) <|
  bd (mR μ a0 0) fun p2 =>
  ck (mK μ p2 = 101) <|
  bd (mR μ p2 5) fun p5 =>
  ck (mK μ p5 = 108) <|
  some (mI μ p5 4)
set_option maxRecDepth 100000 in
theorem s_X10_asked {l : Launch} {G : Gt} (hG : Gok l G) (a0 : Nat) (μ : Mm) (r : Int32) (h : f_X10_asked a0 μ = some r) : ZX l G mX10_asked 0 [(0, .ref a0)] [] μ (.inl (some (.int r))) μ := by
  unfold f_X10_asked at h
  refine zx_aload_n dX10_asked_0 rfl (q := 0) rfl ?_
  obtain ⟨h1, h⟩ := ck_e h
  obtain ⟨p2, h3, h⟩ := bd_e h
  refine zx_getR hG fl_X10_10 h1 h3 dX10_asked_1 ?_
  obtain ⟨h4, h⟩ := ck_e h
  obtain ⟨p5, h6, h⟩ := bd_e h
  refine zx_getR hG fl_X10_109 h4 h6 dX10_asked_4 ?_
  obtain ⟨h7, h⟩ := ck_e h
  refine zx_getI hG fl_X10_240 h7 dX10_asked_7 ?_
  cases h
  exact zx_iret dX10_asked_10 rfl
def f_X10_lost (a0 : Nat) (x1 : Int32) (μ : Mm) : Option ((Int32 ⊕ String) × Mm) :=
  bd (f_X10_indexOfReason x1 μ) fun y1 =>
  if ¬ y1 = ((-1)) then
    ck (mK μ a0 = 111) <|
    bd (mR μ a0 0) fun p5 =>
    ck (mK μ p5 = 101) <|
    bd (mR μ p5 2) fun p8 =>
    ck (mK μ p8 = 102) <|
    bd (mR μ p8 0) fun p11 =>
    ck (isA 1 (mK μ p11)) <|
    ck (inb y1 (mL μ p11)) <|
    some (.inl (mI μ p11 (Int32.toNatClampNeg y1)), μ)
  else
    some (.inr "java/lang/IllegalArgumentException", bump μ 6)
set_option maxRecDepth 100000 in
theorem s_X10_lost {l : Launch} {G : Gt} (hG : Gok l G) (a0 : Nat) (x1 : Int32) (μ : Mm) (r : (Int32 ⊕ String)) (μ' : Mm) (h : f_X10_lost a0 x1 μ = some (r, μ')) : ZX l G mX10_lost 0 [(0, .ref a0), (1, .int x1)] [] μ (rsI r) μ' := by
  unfold f_X10_lost at h
  refine zx_iload_n dX10_lost_0 rfl (q := 1) rfl ?_
  obtain ⟨y1, z2, h⟩ := bd_e h
  refine zx_callS (As := [.int x1]) hG mf_X10_indexOfReason cs_X10_243 ⟨by decide, by decide⟩ rfl rfl (Nat.le_of_ble_eq_true rfl) (s_X10_indexOfReason hG _ _ _ z2) (Nat.le_of_ble_eq_true rfl) dX10_lost_1 ?_
  refine zx_istore_n (L' := [(2, .int y1), (0, .ref a0), (1, .int x1)]) dX10_lost_4 rfl (by decide) rfl ?_
  refine zx_iload_n dX10_lost_5 rfl (q := 0) rfl ?_
  refine zx_iconst (v := (-1)) dX10_lost_6 iv_iconst_m1 ?_
  by_cases c3 : ¬ y1 = ((-1))
  · have h := it_t c3 h
    refine zx_icmp_ne_t (tgt := 18) dX10_lost_7 (by decide) c3 ?_
    refine zx_aload_n dX10_lost_18 rfl (q := 1) rfl ?_
    obtain ⟨h4, h⟩ := ck_e h
    obtain ⟨p5, h6, h⟩ := bd_e h
    refine zx_getR hG fl_X10_10 h4 h6 dX10_lost_19 ?_
    obtain ⟨h7, h⟩ := ck_e h
    obtain ⟨p8, h9, h⟩ := bd_e h
    refine zx_getR hG fl_X10_247 h7 h9 dX10_lost_22 ?_
    obtain ⟨h10, h⟩ := ck_e h
    obtain ⟨p11, h12, h⟩ := bd_e h
    refine zx_getR hG fl_X10_251 h10 h12 dX10_lost_25 ?_
    refine zx_iload_n dX10_lost_28 rfl (q := 0) rfl ?_
    obtain ⟨h13, h⟩ := ck_e h
    obtain ⟨h14, h⟩ := ck_e h
    refine zx_iald hG rfl (h13).1 (h13).2 (inb_e h14) dX10_lost_29 ?_
    cases h
    exact zx_iret dX10_lost_30 rfl
  · have h := it_f c3 h
    refine zx_icmp_ne_f (tgt := 18) dX10_lost_7 (by decide) (Classical.not_not.mp c3) ?_
    cases h
    exact zx_throw hG xt_X10_23_25 (by decide) (by decide) (Nat.le_of_ble_eq_true rfl) dX10_lost_10 dX10_lost_13 dX10_lost_14 dX10_lost_17
def f_X10_wrong (a0 : Nat) (μ : Mm) : Option Int32 :=
  ck (mK μ a0 = 111) <|
  bd (mR μ a0 0) fun p2 =>
  ck (mK μ p2 = 101) <|
  bd (mR μ p2 2) fun p5 =>
  ck (mK μ p5 = 102) <|
  some (mI μ p5 1)
set_option maxRecDepth 100000 in
theorem s_X10_wrong {l : Launch} {G : Gt} (hG : Gok l G) (a0 : Nat) (μ : Mm) (r : Int32) (h : f_X10_wrong a0 μ = some r) : ZX l G mX10_wrong 0 [(0, .ref a0)] [] μ (.inl (some (.int r))) μ := by
  unfold f_X10_wrong at h
  refine zx_aload_n dX10_wrong_0 rfl (q := 0) rfl ?_
  obtain ⟨h1, h⟩ := ck_e h
  obtain ⟨p2, h3, h⟩ := bd_e h
  refine zx_getR hG fl_X10_10 h1 h3 dX10_wrong_1 ?_
  obtain ⟨h4, h⟩ := ck_e h
  obtain ⟨p5, h6, h⟩ := bd_e h
  refine zx_getR hG fl_X10_247 h4 h6 dX10_wrong_4 ?_
  obtain ⟨h7, h⟩ := ck_e h
  refine zx_getI hG fl_X10_256 h7 dX10_wrong_7 ?_
  cases h
  exact zx_iret dX10_wrong_10 rfl
def f_X10_early (a0 : Nat) (μ : Mm) : Option Int32 :=
  ck (mK μ a0 = 111) <|
  bd (mR μ a0 0) fun p2 =>
  ck (mK μ p2 = 101) <|
  bd (mR μ p2 2) fun p5 =>
  ck (mK μ p5 = 102) <|
  some (mI μ p5 2)
set_option maxRecDepth 100000 in
theorem s_X10_early {l : Launch} {G : Gt} (hG : Gok l G) (a0 : Nat) (μ : Mm) (r : Int32) (h : f_X10_early a0 μ = some r) : ZX l G mX10_early 0 [(0, .ref a0)] [] μ (.inl (some (.int r))) μ := by
  unfold f_X10_early at h
  refine zx_aload_n dX10_early_0 rfl (q := 0) rfl ?_
  obtain ⟨h1, h⟩ := ck_e h
  obtain ⟨p2, h3, h⟩ := bd_e h
  refine zx_getR hG fl_X10_10 h1 h3 dX10_early_1 ?_
  obtain ⟨h4, h⟩ := ck_e h
  obtain ⟨p5, h6, h⟩ := bd_e h
  refine zx_getR hG fl_X10_247 h4 h6 dX10_early_4 ?_
  obtain ⟨h7, h⟩ := ck_e h
  refine zx_getI hG fl_X10_259 h7 dX10_early_7 ?_
  cases h
  exact zx_iret dX10_early_10 rfl
def f_X10_taken (a0 : Nat) (μ : Mm) : Option Int32 :=
  ck (mK μ a0 = 111) <|
  bd (mR μ a0 0) fun p2 =>
  ck (mK μ p2 = 101) <|
  bd (mR μ p2 2) fun p5 =>
  ck (mK μ p5 = 102) <|
  some (mI μ p5 4)
set_option maxRecDepth 100000 in
theorem s_X10_taken {l : Launch} {G : Gt} (hG : Gok l G) (a0 : Nat) (μ : Mm) (r : Int32) (h : f_X10_taken a0 μ = some r) : ZX l G mX10_taken 0 [(0, .ref a0)] [] μ (.inl (some (.int r))) μ := by
  unfold f_X10_taken at h
  refine zx_aload_n dX10_taken_0 rfl (q := 0) rfl ?_
  obtain ⟨h1, h⟩ := ck_e h
  obtain ⟨p2, h3, h⟩ := bd_e h
  refine zx_getR hG fl_X10_10 h1 h3 dX10_taken_1 ?_
  obtain ⟨h4, h⟩ := ck_e h
  obtain ⟨p5, h6, h⟩ := bd_e h
  refine zx_getR hG fl_X10_247 h4 h6 dX10_taken_4 ?_
  obtain ⟨h7, h⟩ := ck_e h
  refine zx_getI hG fl_X10_265 h7 dX10_taken_7 ?_
  cases h
  exact zx_iret dX10_taken_10 rfl
def f_X10_hits (a0 : Nat) (μ : Mm) : Option Int64 :=
  ck (mK μ a0 = 111) <|
  bd (mR μ a0 0) fun p2 =>
  ck (mK μ p2 = 101) <|
  bd (mR μ p2 2) fun p5 =>
  ck (mK μ p5 = 102) <|
  bd (mR μ a0 0) fun p8 =>
  ck (mK μ p8 = 101) <|
  bd (mR μ p8 2) fun p11 =>
  ck (mK μ p11 = 102) <|
  some ((Int32.toInt64 (mI μ p5 5)) + (1000 * (Int32.toInt64 (mI μ p11 6))))
set_option maxRecDepth 100000 in
theorem s_X10_hits {l : Launch} {G : Gt} (hG : Gok l G) (a0 : Nat) (μ : Mm) (r : Int64) (h : f_X10_hits a0 μ = some r) : ZX l G mX10_hits 0 [(0, .ref a0)] [] μ (.inl (some (.long r))) μ := by
  unfold f_X10_hits at h
  refine zx_aload_n dX10_hits_0 rfl (q := 0) rfl ?_
  obtain ⟨h1, h⟩ := ck_e h
  obtain ⟨p2, h3, h⟩ := bd_e h
  refine zx_getR hG fl_X10_10 h1 h3 dX10_hits_1 ?_
  obtain ⟨h4, h⟩ := ck_e h
  obtain ⟨p5, h6, h⟩ := bd_e h
  refine zx_getR hG fl_X10_247 h4 h6 dX10_hits_4 ?_
  obtain ⟨h7, h⟩ := ck_e h
  refine zx_getI hG fl_X10_268 h7 dX10_hits_7 ?_
  refine zx_i2l dX10_hits_10 ?_
  refine zx_ldc2 hG lc_X10_271 dX10_hits_11 ?_
  refine zx_aload_n dX10_hits_14 rfl (q := 0) rfl ?_
  obtain ⟨p8, h9, h⟩ := bd_e h
  refine zx_getR hG fl_X10_10 h1 h9 dX10_hits_15 ?_
  obtain ⟨h10, h⟩ := ck_e h
  obtain ⟨p11, h12, h⟩ := bd_e h
  refine zx_getR hG fl_X10_247 h10 h12 dX10_hits_18 ?_
  obtain ⟨h13, h⟩ := ck_e h
  refine zx_getI hG fl_X10_273 h13 dX10_hits_21 ?_
  refine zx_i2l dX10_hits_24 ?_
  refine zx_lmul dX10_hits_25 ?_
  refine zx_ladd dX10_hits_26 ?_
  cases h
  exact zx_lret dX10_hits_27 rfl
def f_X10_share (a0 : Nat) (μ : Mm) : Option ((UInt32 ⊕ String) × Mm) :=
  ck (mK μ a0 = 111) <|
  bd (mR μ a0 0) fun p2 =>
  ck (mK μ p2 = 101) <|
  if ¬ (mI μ p2 12) = 0 then
    bd (mR μ a0 0) fun p6 =>
    ck (mK μ p6 = 101) <|
    bd (mR μ p6 8) fun p9 =>
    ck (mK μ p9 = 100) <|
    bd (f_Jx4a65c_size_8abf5 p9 μ) fun y12 =>
    bd (mR μ a0 0) fun p14 =>
    ck (mK μ p14 = 101) <|
    ck (nanF (FP.fdiv (FP.i2f y12) (FP.i2f (mI μ p14 12)))) <|
    some (.inl (FP.fdiv (FP.i2f y12) (FP.i2f (mI μ p14 12))), μ)
  else
    some (.inr "java/util/NoSuchElementException", bump μ 6)
set_option maxRecDepth 100000 in
theorem s_X10_share {l : Launch} {G : Gt} (hG : Gok l G) (a0 : Nat) (μ : Mm) (r : (UInt32 ⊕ String)) (μ' : Mm) (h : f_X10_share a0 μ = some (r, μ')) : ZX l G mX10_share 0 [(0, .ref a0)] [] μ (rsF r) μ' := by
  unfold f_X10_share at h
  refine zx_aload_n dX10_share_0 rfl (q := 0) rfl ?_
  obtain ⟨h1, h⟩ := ck_e h
  obtain ⟨p2, h3, h⟩ := bd_e h
  refine zx_getR hG fl_X10_10 h1 h3 dX10_share_1 ?_
  obtain ⟨h4, h⟩ := ck_e h
  refine zx_getI hG fl_X10_36 h4 dX10_share_4 ?_
  by_cases c5 : ¬ (mI μ p2 12) = 0
  · have h := it_t c5 h
    refine zx_if_ne_t (tgt := 18) dX10_share_7 (by decide) c5 ?_
    refine zx_aload_n dX10_share_18 rfl (q := 0) rfl ?_
    obtain ⟨p6, h7, h⟩ := bd_e h
    refine zx_getR hG fl_X10_10 h1 h7 dX10_share_19 ?_
    obtain ⟨h8, h⟩ := ck_e h
    obtain ⟨p9, h10, h⟩ := bd_e h
    refine zx_getR hG fl_X10_125 h8 h10 dX10_share_22 ?_
    obtain ⟨h11, h⟩ := ck_e h
    obtain ⟨y12, z13, h⟩ := bd_e h
    refine zx_callV (As := []) hG mf_Jx4a65c_size_8abf5 cv_X10_30 h11 ⟨by decide, by decide⟩ rfl rfl (Nat.le_of_ble_eq_true rfl) (s_Jx4a65c_size_8abf5 hG _ _ _ z13) (Nat.le_of_ble_eq_true rfl) dX10_share_25 ?_
    refine zx_i2f dX10_share_28 ?_
    refine zx_aload_n dX10_share_29 rfl (q := 0) rfl ?_
    obtain ⟨p14, h15, h⟩ := bd_e h
    refine zx_getR hG fl_X10_10 h1 h15 dX10_share_30 ?_
    obtain ⟨h16, h⟩ := ck_e h
    refine zx_getI hG fl_X10_36 h16 dX10_share_33 ?_
    refine zx_i2f dX10_share_36 ?_
    obtain ⟨h17, h⟩ := ck_e h
    refine zx_fdiv dX10_share_37 (nanF_e h17) ?_
    cases h
    exact zx_fret dX10_share_38 rfl
  · have h := it_f c5 h
    refine zx_if_ne_f (tgt := 18) dX10_share_7 (by decide) (Classical.not_not.mp c5) ?_
    cases h
    exact zx_throw hG xt_X10_165_167 (by decide) (by decide) (Nat.le_of_ble_eq_true rfl) dX10_share_10 dX10_share_13 dX10_share_14 dX10_share_17
def f_X0_hasSameEnds_b2 : Nat → Nat → Int32 → Mm → Option Int32
  | 0, _, _, _ => none
  | n + 1, a0, x1, μ =>
  ck (mK μ a0 = 101) <|
  bd (mR μ a0 8) fun p2 =>
  ck (mK μ p2 = 100) <|
  bd (f_Jx4a65c_size_8abf5 p2 μ) fun y5 =>
  if y5 ≤ x1 then
    some 1
  else
    bd (mR μ a0 8) fun p8 =>
    ck (mK μ p8 = 100) <|
    bd (f_Jx4a65c_get_915e3 p8 x1 μ) fun p11 =>
    ck (mK μ p11 = 103) <|
    if ¬ (mI μ p11 0) = (mI μ p11 2) then
      some 0
    else
      if (mI μ p11 1) = (mI μ p11 3) then
        f_X0_hasSameEnds_b2 n a0 (x1 + 1) μ
      else
        some 0
def f_X0_hasSameEnds (a0 : Nat) (μ : Mm) : Option Int32 :=
  f_X0_hasSameEnds_b2 5000 a0 0 μ
set_option maxRecDepth 100000 in
theorem s_X0_hasSameEnds_b2 {l : Launch} {G : Gt} (hG : Gok l G) : ∀ (n : Nat) (a0 : Nat) (x1 : Int32) (μ : Mm) (r : Int32), f_X0_hasSameEnds_b2 n a0 x1 μ = some r → ZX l G mX0_hasSameEnds 2 [(0, .ref a0), (1, .int x1)] [] μ (.inl (some (.int r))) μ := by
  intro n
  induction n with
  | zero =>
    intro a0 x1 μ r h
    cases h
  | succ n ih =>
    intro a0 x1 μ r h
    unfold f_X0_hasSameEnds_b2 at h
    refine zx_iload_n dX0_hasSameEnds_2 rfl (q := 1) rfl ?_
    refine zx_aload_n dX0_hasSameEnds_3 rfl (q := 0) rfl ?_
    obtain ⟨h1, h⟩ := ck_e h
    obtain ⟨p2, h3, h⟩ := bd_e h
    refine zx_getR hG fl_X0_63 h1 h3 dX0_hasSameEnds_4 ?_
    obtain ⟨h4, h⟩ := ck_e h
    obtain ⟨y5, z6, h⟩ := bd_e h
    refine zx_callV (As := []) hG mf_Jx4a65c_size_8abf5 cv_X0_123 h4 ⟨by decide, by decide⟩ rfl rfl (Nat.le_of_ble_eq_true rfl) (s_Jx4a65c_size_8abf5 hG _ _ _ z6) (Nat.le_of_ble_eq_true rfl) dX0_hasSameEnds_7 ?_
    by_cases c7 : y5 ≤ x1
    · have h := it_t c7 h
      refine zx_icmp_ge_t (tgt := 55) dX0_hasSameEnds_10 (by decide) c7 ?_
      refine zx_iconst (v := 1) dX0_hasSameEnds_55 iv_iconst_1 ?_
      cases h
      exact zx_zretZ dX0_hasSameEnds_56 rfl zb_1
    · have h := it_f c7 h
      refine zx_icmp_ge_f (tgt := 55) dX0_hasSameEnds_10 (by decide) c7 ?_
      refine zx_aload_n dX0_hasSameEnds_13 rfl (q := 0) rfl ?_
      obtain ⟨p8, h9, h⟩ := bd_e h
      refine zx_getR hG fl_X0_63 h1 h9 dX0_hasSameEnds_14 ?_
      refine zx_iload_n dX0_hasSameEnds_17 rfl (q := 1) rfl ?_
      obtain ⟨h10, h⟩ := ck_e h
      obtain ⟨p11, z12, h⟩ := bd_e h
      refine zx_callV (As := [.int x1]) hG mf_Jx4a65c_get_915e3 cv_X0_127 h10 ⟨by decide, by decide⟩ rfl rfl (Nat.le_of_ble_eq_true rfl) (s_Jx4a65c_get_915e3 hG _ _ _ _ z12) (Nat.le_of_ble_eq_true rfl) dX0_hasSameEnds_18 ?_
      obtain ⟨h13, h⟩ := ck_e h
      refine zx_castO hG kt_X0_323 h13 dX0_hasSameEnds_21 ?_
      refine zx_astore_n (L' := [(2, .ref p11), (0, .ref a0), (1, .int x1)]) dX0_hasSameEnds_24 rfl (by decide) rfl ?_
      refine zx_aload_n dX0_hasSameEnds_25 rfl (q := 0) rfl ?_
      refine zx_getI hG fl_X0_439 h13 dX0_hasSameEnds_26 ?_
      refine zx_aload_n dX0_hasSameEnds_29 rfl (q := 0) rfl ?_
      refine zx_getI hG fl_X0_442 h13 dX0_hasSameEnds_30 ?_
      by_cases c14 : ¬ (mI μ p11 0) = (mI μ p11 2)
      · have h := it_t c14 h
        refine zx_icmp_ne_t (tgt := 47) dX0_hasSameEnds_33 (by decide) c14 ?_
        refine zx_iconst (v := 0) dX0_hasSameEnds_47 iv_iconst_0 ?_
        cases h
        exact zx_zretZ dX0_hasSameEnds_48 rfl zb_0
      · have h := it_f c14 h
        refine zx_icmp_ne_f (tgt := 47) dX0_hasSameEnds_33 (by decide) (Classical.not_not.mp c14) ?_
        refine zx_aload_n dX0_hasSameEnds_36 rfl (q := 0) rfl ?_
        refine zx_getI hG fl_X0_445 h13 dX0_hasSameEnds_37 ?_
        refine zx_aload_n dX0_hasSameEnds_40 rfl (q := 0) rfl ?_
        refine zx_getI hG fl_X0_446 h13 dX0_hasSameEnds_41 ?_
        by_cases c15 : (mI μ p11 1) = (mI μ p11 3)
        · have h := it_t c15 h
          refine zx_icmp_eq_t (tgt := 49) dX0_hasSameEnds_44 (by decide) c15 ?_
          refine zx_iinc (q := 2) (v := x1 + 1) (L' := [(1, .int (x1 + 1)), (2, .ref p11), (0, .ref a0)]) dX0_hasSameEnds_49 rfl rfl (by decide) rfl ?_
          refine zx_goto (tgt := 2) dX0_hasSameEnds_52 (by decide) ?_
          refine zx_sub (L' := [(0, .ref a0), (1, .int (x1 + 1))]) [2, 0] rfl ?_
          exact ih _ _ _ _ h
        · have h := it_f c15 h
          refine zx_icmp_eq_f (tgt := 49) dX0_hasSameEnds_44 (by decide) c15 ?_
          refine zx_iconst (v := 0) dX0_hasSameEnds_47 iv_iconst_0 ?_
          cases h
          exact zx_zretZ dX0_hasSameEnds_48 rfl zb_0
set_option maxRecDepth 100000 in
theorem s_X0_hasSameEnds {l : Launch} {G : Gt} (hG : Gok l G) (a0 : Nat) (μ : Mm) (r : Int32) (h : f_X0_hasSameEnds a0 μ = some r) : ZX l G mX0_hasSameEnds 0 [(0, .ref a0)] [] μ (.inl (some (.int r))) μ := by
  unfold f_X0_hasSameEnds at h
  refine zx_iconst (v := 0) dX0_hasSameEnds_0 iv_iconst_0 ?_
  refine zx_istore_n (L' := [(1, .int 0), (0, .ref a0)]) dX0_hasSameEnds_1 rfl (by decide) rfl ?_
  refine zx_sub (L' := [(0, .ref a0), (1, .int 0)]) [1, 0] rfl ?_
  exact s_X0_hasSameEnds_b2 hG 5000 _ _ _ _ h
def f_X0_hasSameState_b99 (μ : Mm) : Option Int32 :=
  some 1
def f_X0_hasSameState_b78 (a0 : Nat) (μ : Mm) : Option Int32 :=
  ck (mK μ a0 = 101) <|
  if (zb (mI μ a0 15)) = 0 then
    f_X0_hasSameState_b99 μ
  else
    bd (mR μ a0 3) fun p39 =>
    ck (mK μ p39 = 109) <|
    if ¬ (mI μ a0 16) = (mI μ p39 4) then
      some 0
    else
      f_X0_hasSameState_b99 μ
def f_X0_hasSameState_b46 : Nat → Nat → Int32 → Mm → Option Int32
  | 0, _, _, _ => none
  | n + 1, a0, x1, μ =>
  if 64 ≤ x1 then
    f_X0_hasSameState_b78 a0 μ
  else
    ck (mK μ a0 = 101) <|
    bd (mR μ a0 9) fun p25 =>
    ck (isA 1 (mK μ p25)) <|
    ck (inb x1 (mL μ p25)) <|
    bd (mR μ a0 3) fun p29 =>
    ck (mK μ p29 = 109) <|
    bd (mR μ p29 1) fun p32 =>
    ck (isA 1 (mK μ p32)) <|
    ck (inb x1 (mL μ p32)) <|
    if (mI μ p25 (Int32.toNatClampNeg x1)) = (mI μ p32 (Int32.toNatClampNeg x1)) then
      f_X0_hasSameState_b46 n a0 (x1 + 1) μ
    else
      some 0
def f_X0_hasSameState_b44 (a0 : Nat) (μ : Mm) : Option Int32 :=
  f_X0_hasSameState_b46 5000 a0 0 μ
def f_X0_hasSameState_b2 : Nat → Nat → Int32 → Mm → Option Int32
  | 0, _, _, _ => none
  | n + 1, a0, x1, μ =>
  if 8 ≤ x1 then
    f_X0_hasSameState_b44 a0 μ
  else
    ck (mK μ a0 = 101) <|
    bd (mR μ a0 4) fun p3 =>
    bd (mR μ a0 4) fun p5 =>
    ck (mK μ p5 = 106) <|
    bd (mR μ p5 1) fun p8 =>
    ck (isA 1 (mK μ p8)) <|
    ck (inb x1 (mL μ p8)) <|
    ck (mK μ p3 = 106) <|
    bd (f_X5_valueOf p3 (mI μ p8 (Int32.toNatClampNeg x1)) μ) fun y13 =>
    bd (mR μ a0 3) fun p15 =>
    ck (mK μ p15 = 109) <|
    bd (mR μ p15 0) fun p18 =>
    ck (isA 1 (mK μ p18)) <|
    ck (inb x1 (mL μ p18)) <|
    if y13 = (mI μ p18 (Int32.toNatClampNeg x1)) then
      f_X0_hasSameState_b2 n a0 (x1 + 1) μ
    else
      some 0
def f_X0_hasSameState (a0 : Nat) (μ : Mm) : Option Int32 :=
  f_X0_hasSameState_b2 5000 a0 0 μ
set_option maxRecDepth 100000 in
theorem s_X0_hasSameState_b99 {l : Launch} {G : Gt} (hG : Gok l G) (μ : Mm) (r : Int32) (h : f_X0_hasSameState_b99 μ = some r) : ZX l G mX0_hasSameState 99 [] [] μ (.inl (some (.int r))) μ := by
  unfold f_X0_hasSameState_b99 at h
  refine zx_iconst (v := 1) dX0_hasSameState_99 iv_iconst_1 ?_
  refine zx_goto (tgt := 104) dX0_hasSameState_100 (by decide) ?_
  cases h
  exact zx_zretZ dX0_hasSameState_104 rfl zb_1
set_option maxRecDepth 100000 in
theorem s_X0_hasSameState_b78 {l : Launch} {G : Gt} (hG : Gok l G) (a0 : Nat) (μ : Mm) (r : Int32) (h : f_X0_hasSameState_b78 a0 μ = some r) : ZX l G mX0_hasSameState 78 [(0, .ref a0)] [] μ (.inl (some (.int r))) μ := by
  unfold f_X0_hasSameState_b78 at h
  refine zx_aload_n dX0_hasSameState_78 rfl (q := 0) rfl ?_
  obtain ⟨h37, h⟩ := ck_e h
  refine zx_getZ hG fl_X0_88 h37 dX0_hasSameState_79 ?_
  by_cases c38 : (zb (mI μ a0 15)) = 0
  · have h := it_t c38 h
    refine zx_if_eq_t (tgt := 99) dX0_hasSameState_82 (by decide) c38 ?_
    refine zx_sub (L' := []) [] rfl ?_
    exact s_X0_hasSameState_b99 hG _ _ h
  · have h := it_f c38 h
    refine zx_if_eq_f (tgt := 99) dX0_hasSameState_82 (by decide) c38 ?_
    refine zx_aload_n dX0_hasSameState_85 rfl (q := 0) rfl ?_
    refine zx_getI hG fl_X0_91 h37 dX0_hasSameState_86 ?_
    refine zx_aload_n dX0_hasSameState_89 rfl (q := 0) rfl ?_
    obtain ⟨p39, h40, h⟩ := bd_e h
    refine zx_getR hG fl_X0_35 h37 h40 dX0_hasSameState_90 ?_
    obtain ⟨h41, h⟩ := ck_e h
    refine zx_getI hG fl_X0_453 h41 dX0_hasSameState_93 ?_
    by_cases c42 : ¬ (mI μ a0 16) = (mI μ p39 4)
    · have h := it_t c42 h
      refine zx_icmp_ne_t (tgt := 103) dX0_hasSameState_96 (by decide) c42 ?_
      refine zx_iconst (v := 0) dX0_hasSameState_103 iv_iconst_0 ?_
      cases h
      exact zx_zretZ dX0_hasSameState_104 rfl zb_0
    · have h := it_f c42 h
      refine zx_icmp_ne_f (tgt := 103) dX0_hasSameState_96 (by decide) (Classical.not_not.mp c42) ?_
      refine zx_sub (L' := []) [] rfl ?_
      exact s_X0_hasSameState_b99 hG _ _ h
set_option maxRecDepth 100000 in
theorem s_X0_hasSameState_b46 {l : Launch} {G : Gt} (hG : Gok l G) : ∀ (n : Nat) (a0 : Nat) (x1 : Int32) (μ : Mm) (r : Int32), f_X0_hasSameState_b46 n a0 x1 μ = some r → ZX l G mX0_hasSameState 46 [(0, .ref a0), (1, .int x1)] [] μ (.inl (some (.int r))) μ := by
  intro n
  induction n with
  | zero =>
    intro a0 x1 μ r h
    cases h
  | succ n ih =>
    intro a0 x1 μ r h
    unfold f_X0_hasSameState_b46 at h
    refine zx_iload_n dX0_hasSameState_46 rfl (q := 1) rfl ?_
    refine zx_bipush (v := 64) dX0_hasSameState_47 iv_bipush_64 ?_
    by_cases c23 : 64 ≤ x1
    · have h := it_t c23 h
      refine zx_icmp_ge_t (tgt := 78) dX0_hasSameState_49 (by decide) c23 ?_
      refine zx_sub (L' := [(0, .ref a0)]) [0] rfl ?_
      exact s_X0_hasSameState_b78 hG _ _ _ h
    · have h := it_f c23 h
      refine zx_icmp_ge_f (tgt := 78) dX0_hasSameState_49 (by decide) c23 ?_
      refine zx_aload_n dX0_hasSameState_52 rfl (q := 0) rfl ?_
      obtain ⟨h24, h⟩ := ck_e h
      obtain ⟨p25, h26, h⟩ := bd_e h
      refine zx_getR hG fl_X0_66 h24 h26 dX0_hasSameState_53 ?_
      refine zx_iload_n dX0_hasSameState_56 rfl (q := 1) rfl ?_
      obtain ⟨h27, h⟩ := ck_e h
      obtain ⟨h28, h⟩ := ck_e h
      refine zx_iald hG rfl (h27).1 (h27).2 (inb_e h28) dX0_hasSameState_57 ?_
      refine zx_aload_n dX0_hasSameState_58 rfl (q := 0) rfl ?_
      obtain ⟨p29, h30, h⟩ := bd_e h
      refine zx_getR hG fl_X0_35 h24 h30 dX0_hasSameState_59 ?_
      obtain ⟨h31, h⟩ := ck_e h
      obtain ⟨p32, h33, h⟩ := bd_e h
      refine zx_getR hG fl_X0_452 h31 h33 dX0_hasSameState_62 ?_
      refine zx_iload_n dX0_hasSameState_65 rfl (q := 1) rfl ?_
      obtain ⟨h34, h⟩ := ck_e h
      obtain ⟨h35, h⟩ := ck_e h
      refine zx_iald hG rfl (h34).1 (h34).2 (inb_e h35) dX0_hasSameState_66 ?_
      by_cases c36 : (mI μ p25 (Int32.toNatClampNeg x1)) = (mI μ p32 (Int32.toNatClampNeg x1))
      · have h := it_t c36 h
        refine zx_icmp_eq_t (tgt := 72) dX0_hasSameState_67 (by decide) c36 ?_
        refine zx_iinc (q := 1) (v := x1 + 1) (L' := [(1, .int (x1 + 1)), (0, .ref a0)]) dX0_hasSameState_72 rfl rfl (by decide) rfl ?_
        refine zx_goto (tgt := 46) dX0_hasSameState_75 (by decide) ?_
        refine zx_sub (L' := [(0, .ref a0), (1, .int (x1 + 1))]) [1, 0] rfl ?_
        exact ih _ _ _ _ h
      · have h := it_f c36 h
        refine zx_icmp_eq_f (tgt := 72) dX0_hasSameState_67 (by decide) c36 ?_
        refine zx_iconst (v := 0) dX0_hasSameState_70 iv_iconst_0 ?_
        cases h
        exact zx_zretZ dX0_hasSameState_71 rfl zb_0
set_option maxRecDepth 100000 in
theorem s_X0_hasSameState_b44 {l : Launch} {G : Gt} (hG : Gok l G) (a0 : Nat) (μ : Mm) (r : Int32) (h : f_X0_hasSameState_b44 a0 μ = some r) : ZX l G mX0_hasSameState 44 [(0, .ref a0)] [] μ (.inl (some (.int r))) μ := by
  unfold f_X0_hasSameState_b44 at h
  refine zx_iconst (v := 0) dX0_hasSameState_44 iv_iconst_0 ?_
  refine zx_istore_n (L' := [(1, .int 0), (0, .ref a0)]) dX0_hasSameState_45 rfl (by decide) rfl ?_
  refine zx_sub (L' := [(0, .ref a0), (1, .int 0)]) [1, 0] rfl ?_
  exact s_X0_hasSameState_b46 hG 5000 _ _ _ _ h
set_option maxRecDepth 100000 in
theorem s_X0_hasSameState_b2 {l : Launch} {G : Gt} (hG : Gok l G) : ∀ (n : Nat) (a0 : Nat) (x1 : Int32) (μ : Mm) (r : Int32), f_X0_hasSameState_b2 n a0 x1 μ = some r → ZX l G mX0_hasSameState 2 [(0, .ref a0), (1, .int x1)] [] μ (.inl (some (.int r))) μ := by
  intro n
  induction n with
  | zero =>
    intro a0 x1 μ r h
    cases h
  | succ n ih =>
    intro a0 x1 μ r h
    unfold f_X0_hasSameState_b2 at h
    refine zx_iload_n dX0_hasSameState_2 rfl (q := 1) rfl ?_
    refine zx_bipush (v := 8) dX0_hasSameState_3 iv_bipush_8 ?_
    by_cases c1 : 8 ≤ x1
    · have h := it_t c1 h
      refine zx_icmp_ge_t (tgt := 44) dX0_hasSameState_5 (by decide) c1 ?_
      refine zx_sub (L' := [(0, .ref a0)]) [0] rfl ?_
      exact s_X0_hasSameState_b44 hG _ _ _ h
    · have h := it_f c1 h
      refine zx_icmp_ge_f (tgt := 44) dX0_hasSameState_5 (by decide) c1 ?_
      refine zx_aload_n dX0_hasSameState_8 rfl (q := 0) rfl ?_
      obtain ⟨h2, h⟩ := ck_e h
      obtain ⟨p3, h4, h⟩ := bd_e h
      refine zx_getR hG fl_X0_42 h2 h4 dX0_hasSameState_9 ?_
      refine zx_aload_n dX0_hasSameState_12 rfl (q := 0) rfl ?_
      obtain ⟨p5, h6, h⟩ := bd_e h
      refine zx_getR hG fl_X0_42 h2 h6 dX0_hasSameState_13 ?_
      obtain ⟨h7, h⟩ := ck_e h
      obtain ⟨p8, h9, h⟩ := bd_e h
      refine zx_getR hG fl_X0_427 h7 h9 dX0_hasSameState_16 ?_
      refine zx_iload_n dX0_hasSameState_19 rfl (q := 1) rfl ?_
      obtain ⟨h10, h⟩ := ck_e h
      obtain ⟨h11, h⟩ := ck_e h
      refine zx_iald hG rfl (h10).1 (h10).2 (inb_e h11) dX0_hasSameState_20 ?_
      obtain ⟨h12, h⟩ := ck_e h
      obtain ⟨y13, z14, h⟩ := bd_e h
      refine zx_callV (As := [.int (mI μ p8 (Int32.toNatClampNeg x1))]) hG mf_X5_valueOf cv_X0_307 h12 ⟨by decide, by decide⟩ rfl rfl (Nat.le_of_ble_eq_true rfl) (s_X5_valueOf hG _ _ _ _ z14) (Nat.le_of_ble_eq_true rfl) dX0_hasSameState_21 ?_
      refine zx_aload_n dX0_hasSameState_24 rfl (q := 0) rfl ?_
      obtain ⟨p15, h16, h⟩ := bd_e h
      refine zx_getR hG fl_X0_35 h2 h16 dX0_hasSameState_25 ?_
      obtain ⟨h17, h⟩ := ck_e h
      obtain ⟨p18, h19, h⟩ := bd_e h
      refine zx_getR hG fl_X0_449 h17 h19 dX0_hasSameState_28 ?_
      refine zx_iload_n dX0_hasSameState_31 rfl (q := 1) rfl ?_
      obtain ⟨h20, h⟩ := ck_e h
      obtain ⟨h21, h⟩ := ck_e h
      refine zx_iald hG rfl (h20).1 (h20).2 (inb_e h21) dX0_hasSameState_32 ?_
      by_cases c22 : y13 = (mI μ p18 (Int32.toNatClampNeg x1))
      · have h := it_t c22 h
        refine zx_icmp_eq_t (tgt := 38) dX0_hasSameState_33 (by decide) c22 ?_
        refine zx_iinc (q := 1) (v := x1 + 1) (L' := [(1, .int (x1 + 1)), (0, .ref a0)]) dX0_hasSameState_38 rfl rfl (by decide) rfl ?_
        refine zx_goto (tgt := 2) dX0_hasSameState_41 (by decide) ?_
        refine zx_sub (L' := [(0, .ref a0), (1, .int (x1 + 1))]) [1, 0] rfl ?_
        exact ih _ _ _ _ h
      · have h := it_f c22 h
        refine zx_icmp_eq_f (tgt := 38) dX0_hasSameState_33 (by decide) c22 ?_
        refine zx_iconst (v := 0) dX0_hasSameState_36 iv_iconst_0 ?_
        cases h
        exact zx_zretZ dX0_hasSameState_37 rfl zb_0
set_option maxRecDepth 100000 in
theorem s_X0_hasSameState {l : Launch} {G : Gt} (hG : Gok l G) (a0 : Nat) (μ : Mm) (r : Int32) (h : f_X0_hasSameState a0 μ = some r) : ZX l G mX0_hasSameState 0 [(0, .ref a0)] [] μ (.inl (some (.int r))) μ := by
  unfold f_X0_hasSameState at h
  refine zx_iconst (v := 0) dX0_hasSameState_0 iv_iconst_0 ?_
  refine zx_istore_n (L' := [(1, .int 0), (0, .ref a0)]) dX0_hasSameState_1 rfl (by decide) rfl ?_
  refine zx_sub (L' := [(0, .ref a0), (1, .int 0)]) [1, 0] rfl ?_
  exact s_X0_hasSameState_b2 hG 5000 _ _ _ _ h
def f_X10_isSame (a0 : Nat) (μ : Mm) : Option Int32 :=
  ck (mK μ a0 = 111) <|
  bd (mR μ a0 0) fun p2 =>
  ck (mK μ p2 = 101) <|
  bd (f_X0_hasSameEnds p2 μ) fun y5 =>
  if y5 = 0 then
    some 0
  else
    bd (mR μ a0 0) fun p8 =>
    ck (mK μ p8 = 101) <|
    bd (f_X0_hasSameState p8 μ) fun y11 =>
    if y11 = 0 then
      some 0
    else
      some 1
set_option maxRecDepth 100000 in
theorem s_X10_isSame {l : Launch} {G : Gt} (hG : Gok l G) (a0 : Nat) (μ : Mm) (r : Int32) (h : f_X10_isSame a0 μ = some r) : ZX l G mX10_isSame 0 [(0, .ref a0)] [] μ (.inl (some (.int r))) μ := by
  unfold f_X10_isSame at h
  refine zx_aload_n dX10_isSame_0 rfl (q := 0) rfl ?_
  obtain ⟨h1, h⟩ := ck_e h
  obtain ⟨p2, h3, h⟩ := bd_e h
  refine zx_getR hG fl_X10_10 h1 h3 dX10_isSame_1 ?_
  obtain ⟨h4, h⟩ := ck_e h
  obtain ⟨y5, z6, h⟩ := bd_e h
  refine zx_callV (As := []) hG mf_X0_hasSameEnds cv_X10_276 h4 ⟨by decide, by decide⟩ rfl rfl (Nat.le_of_ble_eq_true rfl) (s_X0_hasSameEnds hG _ _ _ z6) (Nat.le_of_ble_eq_true rfl) dX10_isSame_4 ?_
  by_cases c7 : y5 = 0
  · have h := it_t c7 h
    refine zx_if_eq_t (tgt := 24) dX10_isSame_7 (by decide) c7 ?_
    refine zx_iconst (v := 0) dX10_isSame_24 iv_iconst_0 ?_
    cases h
    exact zx_zretZ dX10_isSame_25 rfl zb_0
  · have h := it_f c7 h
    refine zx_if_eq_f (tgt := 24) dX10_isSame_7 (by decide) c7 ?_
    refine zx_aload_n dX10_isSame_10 rfl (q := 0) rfl ?_
    obtain ⟨p8, h9, h⟩ := bd_e h
    refine zx_getR hG fl_X10_10 h1 h9 dX10_isSame_11 ?_
    obtain ⟨h10, h⟩ := ck_e h
    obtain ⟨y11, z12, h⟩ := bd_e h
    refine zx_callV (As := []) hG mf_X0_hasSameState cv_X10_280 h10 ⟨by decide, by decide⟩ rfl rfl (Nat.le_of_ble_eq_true rfl) (s_X0_hasSameState hG _ _ _ z12) (Nat.le_of_ble_eq_true rfl) dX10_isSame_14 ?_
    by_cases c13 : y11 = 0
    · have h := it_t c13 h
      refine zx_if_eq_t (tgt := 24) dX10_isSame_17 (by decide) c13 ?_
      refine zx_iconst (v := 0) dX10_isSame_24 iv_iconst_0 ?_
      cases h
      exact zx_zretZ dX10_isSame_25 rfl zb_0
    · have h := it_f c13 h
      refine zx_if_eq_f (tgt := 24) dX10_isSame_17 (by decide) c13 ?_
      refine zx_iconst (v := 1) dX10_isSame_20 iv_iconst_1 ?_
      refine zx_goto (tgt := 25) dX10_isSame_21 (by decide) ?_
      cases h
      exact zx_zretZ dX10_isSame_25 rfl zb_1
def f_X5_isInRetired_b2 : Nat → Nat → Int32 → Int32 → Mm → Option Int32
  | 0, _, _, _, _ => none
  | n + 1, a0, x1, x2, μ =>
  if 8 ≤ x2 then
    some 0
  else
    ck (mK μ a0 = 106) <|
    bd (mR μ a0 1) fun p3 =>
    ck (isA 1 (mK μ p3)) <|
    ck (inb x2 (mL μ p3)) <|
    if ¬ (mI μ p3 (Int32.toNatClampNeg x2)) = x1 then
      f_X5_isInRetired_b2 n a0 x1 (x2 + 1) μ
    else
      some 1
def f_X5_isInRetired (a0 : Nat) (x1 : Int32) (μ : Mm) : Option Int32 :=
  f_X5_isInRetired_b2 5000 a0 x1 0 μ
set_option maxRecDepth 100000 in
theorem s_X5_isInRetired_b2 {l : Launch} {G : Gt} (hG : Gok l G) : ∀ (n : Nat) (a0 : Nat) (x1 : Int32) (x2 : Int32) (μ : Mm) (r : Int32), f_X5_isInRetired_b2 n a0 x1 x2 μ = some r → ZX l G mX5_isInRetired 2 [(0, .ref a0), (1, .int x1), (2, .int x2)] [] μ (.inl (some (.int r))) μ := by
  intro n
  induction n with
  | zero =>
    intro a0 x1 x2 μ r h
    cases h
  | succ n ih =>
    intro a0 x1 x2 μ r h
    unfold f_X5_isInRetired_b2 at h
    refine zx_iload_n dX5_isInRetired_2 rfl (q := 2) rfl ?_
    refine zx_bipush (v := 8) dX5_isInRetired_3 iv_bipush_8 ?_
    by_cases c1 : 8 ≤ x2
    · have h := it_t c1 h
      refine zx_icmp_ge_t (tgt := 26) dX5_isInRetired_5 (by decide) c1 ?_
      refine zx_iconst (v := 0) dX5_isInRetired_26 iv_iconst_0 ?_
      cases h
      exact zx_zretZ dX5_isInRetired_27 rfl zb_0
    · have h := it_f c1 h
      refine zx_icmp_ge_f (tgt := 26) dX5_isInRetired_5 (by decide) c1 ?_
      refine zx_aload_n dX5_isInRetired_8 rfl (q := 0) rfl ?_
      obtain ⟨h2, h⟩ := ck_e h
      obtain ⟨p3, h4, h⟩ := bd_e h
      refine zx_getR hG fl_X5_15 h2 h4 dX5_isInRetired_9 ?_
      refine zx_iload_n dX5_isInRetired_12 rfl (q := 2) rfl ?_
      obtain ⟨h5, h⟩ := ck_e h
      obtain ⟨h6, h⟩ := ck_e h
      refine zx_iald hG rfl (h5).1 (h5).2 (inb_e h6) dX5_isInRetired_13 ?_
      refine zx_iload_n dX5_isInRetired_14 rfl (q := 1) rfl ?_
      by_cases c7 : ¬ (mI μ p3 (Int32.toNatClampNeg x2)) = x1
      · have h := it_t c7 h
        refine zx_icmp_ne_t (tgt := 20) dX5_isInRetired_15 (by decide) c7 ?_
        refine zx_iinc (q := 2) (v := x2 + 1) (L' := [(2, .int (x2 + 1)), (0, .ref a0), (1, .int x1)]) dX5_isInRetired_20 rfl rfl (by decide) rfl ?_
        refine zx_goto (tgt := 2) dX5_isInRetired_23 (by decide) ?_
        refine zx_sub (L' := [(0, .ref a0), (1, .int x1), (2, .int (x2 + 1))]) [1, 2, 0] rfl ?_
        exact ih _ _ _ _ _ h
      · have h := it_f c7 h
        refine zx_icmp_ne_f (tgt := 20) dX5_isInRetired_15 (by decide) (Classical.not_not.mp c7) ?_
        refine zx_iconst (v := 1) dX5_isInRetired_18 iv_iconst_1 ?_
        cases h
        exact zx_zretZ dX5_isInRetired_19 rfl zb_1
set_option maxRecDepth 100000 in
theorem s_X5_isInRetired {l : Launch} {G : Gt} (hG : Gok l G) (a0 : Nat) (x1 : Int32) (μ : Mm) (r : Int32) (h : f_X5_isInRetired a0 x1 μ = some r) : ZX l G mX5_isInRetired 0 [(0, .ref a0), (1, .int x1)] [] μ (.inl (some (.int r))) μ := by
  unfold f_X5_isInRetired at h
  refine zx_iconst (v := 0) dX5_isInRetired_0 iv_iconst_0 ?_
  refine zx_istore_n (L' := [(2, .int 0), (0, .ref a0), (1, .int x1)]) dX5_isInRetired_1 rfl (by decide) rfl ?_
  refine zx_sub (L' := [(0, .ref a0), (1, .int x1), (2, .int 0)]) [1, 2, 0] rfl ?_
  exact s_X5_isInRetired_b2 hG 5000 _ _ _ _ _ h
def f_X0_isUsed_b61 (μ : Mm) : Option Int32 :=
  some 1
def f_X0_isUsed_b39 (a0 : Nat) (x1 : Int32) (μ : Mm) : Option Int32 :=
  ck (mK μ a0 = 101) <|
  bd (mR μ a0 4) fun p16 =>
  ck (mK μ p16 = 106) <|
  bd (f_X5_isInMap p16 x1 μ) fun y19 =>
  if ¬ y19 = 0 then
    f_X0_isUsed_b61 μ
  else
    bd (mR μ a0 4) fun p22 =>
    ck (mK μ p22 = 106) <|
    bd (f_X5_isInRetired p22 x1 μ) fun y25 =>
    if y25 = 0 then
      some 0
    else
      f_X0_isUsed_b61 μ
def f_X0_isUsed_b2 : Nat → Nat → Int32 → Int32 → Mm → Option Int32
  | 0, _, _, _, _ => none
  | n + 1, a0, x1, x2, μ =>
  ck (mK μ a0 = 101) <|
  bd (mR μ a0 7) fun p2 =>
  ck (mK μ p2 = 100) <|
  bd (f_Jx4a65c_size_8abf5 p2 μ) fun y5 =>
  if y5 ≤ x2 then
    f_X0_isUsed_b39 a0 x1 μ
  else
    bd (mR μ a0 7) fun p8 =>
    ck (mK μ p8 = 100) <|
    bd (f_Jx4a65c_get_915e3 p8 x2 μ) fun p11 =>
    ck (mK μ p11 = 104) <|
    if ¬ (mI μ p11 8) = x1 then
      f_X0_isUsed_b2 n a0 x1 (x2 + 1) μ
    else
      some 1
def f_X0_isUsed (a0 : Nat) (x1 : Int32) (μ : Mm) : Option Int32 :=
  f_X0_isUsed_b2 5000 a0 x1 0 μ
set_option maxRecDepth 100000 in
theorem s_X0_isUsed_b61 {l : Launch} {G : Gt} (hG : Gok l G) (μ : Mm) (r : Int32) (h : f_X0_isUsed_b61 μ = some r) : ZX l G mX0_isUsed 61 [] [] μ (.inl (some (.int r))) μ := by
  unfold f_X0_isUsed_b61 at h
  refine zx_iconst (v := 1) dX0_isUsed_61 iv_iconst_1 ?_
  refine zx_goto (tgt := 66) dX0_isUsed_62 (by decide) ?_
  cases h
  exact zx_zretZ dX0_isUsed_66 rfl zb_1
set_option maxRecDepth 100000 in
theorem s_X0_isUsed_b39 {l : Launch} {G : Gt} (hG : Gok l G) (a0 : Nat) (x1 : Int32) (μ : Mm) (r : Int32) (h : f_X0_isUsed_b39 a0 x1 μ = some r) : ZX l G mX0_isUsed 39 [(0, .ref a0), (1, .int x1)] [] μ (.inl (some (.int r))) μ := by
  unfold f_X0_isUsed_b39 at h
  refine zx_aload_n dX0_isUsed_39 rfl (q := 0) rfl ?_
  obtain ⟨h15, h⟩ := ck_e h
  obtain ⟨p16, h17, h⟩ := bd_e h
  refine zx_getR hG fl_X0_42 h15 h17 dX0_isUsed_40 ?_
  refine zx_iload_n dX0_isUsed_43 rfl (q := 1) rfl ?_
  obtain ⟨h18, h⟩ := ck_e h
  obtain ⟨y19, z20, h⟩ := bd_e h
  refine zx_callV (As := [.int x1]) hG mf_X5_isInMap cv_X0_433 h18 ⟨by decide, by decide⟩ rfl rfl (Nat.le_of_ble_eq_true rfl) (s_X5_isInMap hG _ _ _ _ z20) (Nat.le_of_ble_eq_true rfl) dX0_isUsed_44 ?_
  by_cases c21 : ¬ y19 = 0
  · have h := it_t c21 h
    refine zx_if_ne_t (tgt := 61) dX0_isUsed_47 (by decide) c21 ?_
    refine zx_sub (L' := []) [] rfl ?_
    exact s_X0_isUsed_b61 hG _ _ h
  · have h := it_f c21 h
    refine zx_if_ne_f (tgt := 61) dX0_isUsed_47 (by decide) (Classical.not_not.mp c21) ?_
    refine zx_aload_n dX0_isUsed_50 rfl (q := 0) rfl ?_
    obtain ⟨p22, h23, h⟩ := bd_e h
    refine zx_getR hG fl_X0_42 h15 h23 dX0_isUsed_51 ?_
    refine zx_iload_n dX0_isUsed_54 rfl (q := 1) rfl ?_
    obtain ⟨h24, h⟩ := ck_e h
    obtain ⟨y25, z26, h⟩ := bd_e h
    refine zx_callV (As := [.int x1]) hG mf_X5_isInRetired cv_X0_436 h24 ⟨by decide, by decide⟩ rfl rfl (Nat.le_of_ble_eq_true rfl) (s_X5_isInRetired hG _ _ _ _ z26) (Nat.le_of_ble_eq_true rfl) dX0_isUsed_55 ?_
    by_cases c27 : y25 = 0
    · have h := it_t c27 h
      refine zx_if_eq_t (tgt := 65) dX0_isUsed_58 (by decide) c27 ?_
      refine zx_iconst (v := 0) dX0_isUsed_65 iv_iconst_0 ?_
      cases h
      exact zx_zretZ dX0_isUsed_66 rfl zb_0
    · have h := it_f c27 h
      refine zx_if_eq_f (tgt := 65) dX0_isUsed_58 (by decide) c27 ?_
      refine zx_sub (L' := []) [] rfl ?_
      exact s_X0_isUsed_b61 hG _ _ h
set_option maxRecDepth 100000 in
theorem s_X0_isUsed_b2 {l : Launch} {G : Gt} (hG : Gok l G) : ∀ (n : Nat) (a0 : Nat) (x1 : Int32) (x2 : Int32) (μ : Mm) (r : Int32), f_X0_isUsed_b2 n a0 x1 x2 μ = some r → ZX l G mX0_isUsed 2 [(0, .ref a0), (1, .int x1), (2, .int x2)] [] μ (.inl (some (.int r))) μ := by
  intro n
  induction n with
  | zero =>
    intro a0 x1 x2 μ r h
    cases h
  | succ n ih =>
    intro a0 x1 x2 μ r h
    unfold f_X0_isUsed_b2 at h
    refine zx_iload_n dX0_isUsed_2 rfl (q := 2) rfl ?_
    refine zx_aload_n dX0_isUsed_3 rfl (q := 0) rfl ?_
    obtain ⟨h1, h⟩ := ck_e h
    obtain ⟨p2, h3, h⟩ := bd_e h
    refine zx_getR hG fl_X0_60 h1 h3 dX0_isUsed_4 ?_
    obtain ⟨h4, h⟩ := ck_e h
    obtain ⟨y5, z6, h⟩ := bd_e h
    refine zx_callV (As := []) hG mf_Jx4a65c_size_8abf5 cv_X0_123 h4 ⟨by decide, by decide⟩ rfl rfl (Nat.le_of_ble_eq_true rfl) (s_Jx4a65c_size_8abf5 hG _ _ _ z6) (Nat.le_of_ble_eq_true rfl) dX0_isUsed_7 ?_
    by_cases c7 : y5 ≤ x2
    · have h := it_t c7 h
      refine zx_icmp_ge_t (tgt := 39) dX0_isUsed_10 (by decide) c7 ?_
      refine zx_sub (L' := [(0, .ref a0), (1, .int x1)]) [0, 1] rfl ?_
      exact s_X0_isUsed_b39 hG _ _ _ _ h
    · have h := it_f c7 h
      refine zx_icmp_ge_f (tgt := 39) dX0_isUsed_10 (by decide) c7 ?_
      refine zx_aload_n dX0_isUsed_13 rfl (q := 0) rfl ?_
      obtain ⟨p8, h9, h⟩ := bd_e h
      refine zx_getR hG fl_X0_60 h1 h9 dX0_isUsed_14 ?_
      refine zx_iload_n dX0_isUsed_17 rfl (q := 2) rfl ?_
      obtain ⟨h10, h⟩ := ck_e h
      obtain ⟨p11, z12, h⟩ := bd_e h
      refine zx_callV (As := [.int x2]) hG mf_Jx4a65c_get_915e3 cv_X0_127 h10 ⟨by decide, by decide⟩ rfl rfl (Nat.le_of_ble_eq_true rfl) (s_Jx4a65c_get_915e3 hG _ _ _ _ z12) (Nat.le_of_ble_eq_true rfl) dX0_isUsed_18 ?_
      obtain ⟨h13, h⟩ := ck_e h
      refine zx_castO hG kt_X0_131 h13 dX0_isUsed_21 ?_
      refine zx_getI hG fl_X0_230 h13 dX0_isUsed_24 ?_
      refine zx_iload_n dX0_isUsed_27 rfl (q := 1) rfl ?_
      by_cases c14 : ¬ (mI μ p11 8) = x1
      · have h := it_t c14 h
        refine zx_icmp_ne_t (tgt := 33) dX0_isUsed_28 (by decide) c14 ?_
        refine zx_iinc (q := 2) (v := x2 + 1) (L' := [(2, .int (x2 + 1)), (0, .ref a0), (1, .int x1)]) dX0_isUsed_33 rfl rfl (by decide) rfl ?_
        refine zx_goto (tgt := 2) dX0_isUsed_36 (by decide) ?_
        refine zx_sub (L' := [(0, .ref a0), (1, .int x1), (2, .int (x2 + 1))]) [1, 2, 0] rfl ?_
        exact ih _ _ _ _ _ h
      · have h := it_f c14 h
        refine zx_icmp_ne_f (tgt := 33) dX0_isUsed_28 (by decide) (Classical.not_not.mp c14) ?_
        refine zx_iconst (v := 1) dX0_isUsed_31 iv_iconst_1 ?_
        cases h
        exact zx_zretZ dX0_isUsed_32 rfl zb_1
set_option maxRecDepth 100000 in
theorem s_X0_isUsed {l : Launch} {G : Gt} (hG : Gok l G) (a0 : Nat) (x1 : Int32) (μ : Mm) (r : Int32) (h : f_X0_isUsed a0 x1 μ = some r) : ZX l G mX0_isUsed 0 [(0, .ref a0), (1, .int x1)] [] μ (.inl (some (.int r))) μ := by
  unfold f_X0_isUsed at h
  refine zx_iconst (v := 0) dX0_isUsed_0 iv_iconst_0 ?_
  refine zx_istore_n (L' := [(2, .int 0), (0, .ref a0), (1, .int x1)]) dX0_isUsed_1 rfl (by decide) rfl ?_
  refine zx_sub (L' := [(0, .ref a0), (1, .int x1), (2, .int 0)]) [1, 2, 0] rfl ?_
  exact s_X0_isUsed_b2 hG 5000 _ _ _ _ _ h
def f_X10_isWhole_b53 (k2 : Nat → Int32 → Mm → Option Int32) (a0 : Nat) (x1 : Int32) (s0 : Int32) (s1 : Int32) (μ : Mm) : Option Int32 :=
  if ¬ s1 = s0 then
    k2 a0 (x1 + 1) μ
  else
    some 0
def f_X10_isWhole_b2 : Nat → Nat → Int32 → Mm → Option Int32
  | 0, _, _, _ => none
  | n + 1, a0, x1, μ =>
  ck (mK μ a0 = 111) <|
  bd (mR μ a0 0) fun p2 =>
  ck (mK μ p2 = 101) <|
  bd (mR μ p2 4) fun p5 =>
  ck (mK μ p5 = 106) <|
  if (mI μ p5 6) ≤ x1 then
    some 1
  else
    bd (mR μ a0 0) fun p9 =>
    ck (mK μ p9 = 101) <|
    bd (mR μ p9 4) fun p12 =>
    ck (mK μ p12 = 106) <|
    bd (f_X5_timesInLine p12 x1 μ) fun y15 =>
    bd (mR μ a0 0) fun p17 =>
    ck (mK μ p17 = 101) <|
    bd (f_X0_isUsed p17 x1 μ) fun y20 =>
    if 1 < y15 then
      some 0
    else
      if ¬ y15 = 1 then
        f_X10_isWhole_b53 (f_X10_isWhole_b2 n) a0 x1 0 y20 μ
      else
        f_X10_isWhole_b53 (f_X10_isWhole_b2 n) a0 x1 1 y20 μ
def f_X10_isWhole (a0 : Nat) (μ : Mm) : Option Int32 :=
  f_X10_isWhole_b2 5000 a0 0 μ
set_option maxRecDepth 100000 in
theorem s_X10_isWhole_b53 {l : Launch} {G : Gt} (hG : Gok l G) {k2 : Nat → Int32 → Mm → Option Int32} (hk2 : ∀ (a0 : Nat) (x1 : Int32) (μ : Mm) (r : Int32), k2 a0 x1 μ = some r → ZX l G mX10_isWhole 2 [(0, .ref a0), (1, .int x1)] [] μ (.inl (some (.int r))) μ) (a0 : Nat) (x1 : Int32) (s0 : Int32) (s1 : Int32) (μ : Mm) (r : Int32) (h : f_X10_isWhole_b53 k2 a0 x1 s0 s1 μ = some r) : ZX l G mX10_isWhole 53 [(0, .ref a0), (1, .int x1)] [.int s0, .int s1] μ (.inl (some (.int r))) μ := by
  unfold f_X10_isWhole_b53 at h
  by_cases c24 : ¬ s1 = s0
  · have h := it_t c24 h
    refine zx_icmp_ne_t (tgt := 58) dX10_isWhole_53 (by decide) c24 ?_
    refine zx_iinc (q := 1) (v := x1 + 1) (L' := [(1, .int (x1 + 1)), (0, .ref a0)]) dX10_isWhole_58 rfl rfl (by decide) rfl ?_
    refine zx_goto (tgt := 2) dX10_isWhole_61 (by decide) ?_
    refine zx_sub (L' := [(0, .ref a0), (1, .int (x1 + 1))]) [1, 0] rfl ?_
    exact hk2 _ _ _ _ h
  · have h := it_f c24 h
    refine zx_icmp_ne_f (tgt := 58) dX10_isWhole_53 (by decide) (Classical.not_not.mp c24) ?_
    refine zx_iconst (v := 0) dX10_isWhole_56 iv_iconst_0 ?_
    cases h
    exact zx_zretZ dX10_isWhole_57 rfl zb_0
set_option maxRecDepth 100000 in
theorem s_X10_isWhole_b2 {l : Launch} {G : Gt} (hG : Gok l G) : ∀ (n : Nat) (a0 : Nat) (x1 : Int32) (μ : Mm) (r : Int32), f_X10_isWhole_b2 n a0 x1 μ = some r → ZX l G mX10_isWhole 2 [(0, .ref a0), (1, .int x1)] [] μ (.inl (some (.int r))) μ := by
  intro n
  induction n with
  | zero =>
    intro a0 x1 μ r h
    cases h
  | succ n ih =>
    intro a0 x1 μ r h
    unfold f_X10_isWhole_b2 at h
    refine zx_iload_n dX10_isWhole_2 rfl (q := 1) rfl ?_
    refine zx_aload_n dX10_isWhole_3 rfl (q := 0) rfl ?_
    obtain ⟨h1, h⟩ := ck_e h
    obtain ⟨p2, h3, h⟩ := bd_e h
    refine zx_getR hG fl_X10_10 h1 h3 dX10_isWhole_4 ?_
    obtain ⟨h4, h⟩ := ck_e h
    obtain ⟨p5, h6, h⟩ := bd_e h
    refine zx_getR hG fl_X10_62 h4 h6 dX10_isWhole_7 ?_
    obtain ⟨h7, h⟩ := ck_e h
    refine zx_getI hG fl_X10_93 h7 dX10_isWhole_10 ?_
    by_cases c8 : (mI μ p5 6) ≤ x1
    · have h := it_t c8 h
      refine zx_icmp_ge_t (tgt := 64) dX10_isWhole_13 (by decide) c8 ?_
      refine zx_iconst (v := 1) dX10_isWhole_64 iv_iconst_1 ?_
      cases h
      exact zx_zretZ dX10_isWhole_65 rfl zb_1
    · have h := it_f c8 h
      refine zx_icmp_ge_f (tgt := 64) dX10_isWhole_13 (by decide) c8 ?_
      refine zx_aload_n dX10_isWhole_16 rfl (q := 0) rfl ?_
      obtain ⟨p9, h10, h⟩ := bd_e h
      refine zx_getR hG fl_X10_10 h1 h10 dX10_isWhole_17 ?_
      obtain ⟨h11, h⟩ := ck_e h
      obtain ⟨p12, h13, h⟩ := bd_e h
      refine zx_getR hG fl_X10_62 h11 h13 dX10_isWhole_20 ?_
      refine zx_iload_n dX10_isWhole_23 rfl (q := 1) rfl ?_
      obtain ⟨h14, h⟩ := ck_e h
      obtain ⟨y15, z16, h⟩ := bd_e h
      refine zx_callV (As := [.int x1]) hG mf_X5_timesInLine cv_X10_183 h14 ⟨by decide, by decide⟩ rfl rfl (Nat.le_of_ble_eq_true rfl) (s_X5_timesInLine hG _ _ _ _ z16) (Nat.le_of_ble_eq_true rfl) dX10_isWhole_24 ?_
      refine zx_istore_n (L' := [(2, .int y15), (0, .ref a0), (1, .int x1)]) dX10_isWhole_27 rfl (by decide) rfl ?_
      refine zx_aload_n dX10_isWhole_28 rfl (q := 1) rfl ?_
      obtain ⟨p17, h18, h⟩ := bd_e h
      refine zx_getR hG fl_X10_10 h1 h18 dX10_isWhole_29 ?_
      refine zx_iload_n dX10_isWhole_32 rfl (q := 2) rfl ?_
      obtain ⟨h19, h⟩ := ck_e h
      obtain ⟨y20, z21, h⟩ := bd_e h
      refine zx_callV (As := [.int x1]) hG mf_X0_isUsed cv_X10_283 h19 ⟨by decide, by decide⟩ rfl rfl (Nat.le_of_ble_eq_true rfl) (s_X0_isUsed hG _ _ _ _ z21) (Nat.le_of_ble_eq_true rfl) dX10_isWhole_33 ?_
      refine zx_istore_n (L' := [(3, .int y20), (2, .int y15), (0, .ref a0), (1, .int x1)]) dX10_isWhole_36 rfl (by decide) rfl ?_
      refine zx_iload_n dX10_isWhole_37 rfl (q := 1) rfl ?_
      refine zx_iconst (v := 1) dX10_isWhole_38 iv_iconst_1 ?_
      by_cases c22 : 1 < y15
      · have h := it_t c22 h
        refine zx_icmp_gt_t (tgt := 56) dX10_isWhole_39 (by decide) c22 ?_
        refine zx_iconst (v := 0) dX10_isWhole_56 iv_iconst_0 ?_
        cases h
        exact zx_zretZ dX10_isWhole_57 rfl zb_0
      · have h := it_f c22 h
        refine zx_icmp_gt_f (tgt := 56) dX10_isWhole_39 (by decide) c22 ?_
        refine zx_iload_n dX10_isWhole_42 rfl (q := 0) rfl ?_
        refine zx_iload_n dX10_isWhole_43 rfl (q := 1) rfl ?_
        refine zx_iconst (v := 1) dX10_isWhole_44 iv_iconst_1 ?_
        by_cases c23 : ¬ y15 = 1
        · have h := it_t c23 h
          refine zx_icmp_ne_t (tgt := 52) dX10_isWhole_45 (by decide) c23 ?_
          refine zx_iconst (v := 0) dX10_isWhole_52 iv_iconst_0 ?_
          refine zx_sub (L' := [(0, .ref a0), (1, .int x1)]) [2, 3] rfl ?_
          exact s_X10_isWhole_b53 hG ih _ _ _ _ _ _ h
        · have h := it_f c23 h
          refine zx_icmp_ne_f (tgt := 52) dX10_isWhole_45 (by decide) (Classical.not_not.mp c23) ?_
          refine zx_iconst (v := 1) dX10_isWhole_48 iv_iconst_1 ?_
          refine zx_goto (tgt := 53) dX10_isWhole_49 (by decide) ?_
          refine zx_sub (L' := [(0, .ref a0), (1, .int x1)]) [2, 3] rfl ?_
          exact s_X10_isWhole_b53 hG ih _ _ _ _ _ _ h
set_option maxRecDepth 100000 in
theorem s_X10_isWhole {l : Launch} {G : Gt} (hG : Gok l G) (a0 : Nat) (μ : Mm) (r : Int32) (h : f_X10_isWhole a0 μ = some r) : ZX l G mX10_isWhole 0 [(0, .ref a0)] [] μ (.inl (some (.int r))) μ := by
  unfold f_X10_isWhole at h
  refine zx_iconst (v := 0) dX10_isWhole_0 iv_iconst_0 ?_
  refine zx_istore_n (L' := [(1, .int 0), (0, .ref a0)]) dX10_isWhole_1 rfl (by decide) rfl ?_
  refine zx_sub (L' := [(0, .ref a0), (1, .int 0)]) [1, 0] rfl ?_
  exact s_X10_isWhole_b2 hG 5000 _ _ _ _ h
