theorem dX6_delay_0 : decode cX6_delay 0 = .ok (.aload_n 0, 1) := by decide +kernel
theorem dX6_delay_1 : decode cX6_delay 1 = .ok (.getfield 15, 3) := by decide +kernel
theorem dX6_delay_4 : decode cX6_delay 4 = .ok (.iconst 4, 1) := by decide +kernel
theorem dX6_delay_5 : decode cX6_delay 5 = .ok (.if_icmp .ne 5, 3) := by decide +kernel
theorem dX6_delay_8 : decode cX6_delay 8 = .ok (.iconst 3, 1) := by decide +kernel
theorem dX6_delay_9 : decode cX6_delay 9 = .ok (.ireturn, 1) := by decide +kernel
theorem dX6_delay_10 : decode cX6_delay 10 = .ok (.aload_n 0, 1) := by decide +kernel
theorem dX6_delay_11 : decode cX6_delay 11 = .ok (.getfield 15, 3) := by decide +kernel
theorem dX6_delay_14 : decode cX6_delay 14 = .ok (.iconst 5, 1) := by decide +kernel
theorem dX6_delay_15 : decode cX6_delay 15 = .ok (.if_icmp .ne 8, 3) := by decide +kernel
theorem dX6_delay_18 : decode cX6_delay 18 = .ok (.bipush 6, 2) := by decide +kernel
theorem dX6_delay_20 : decode cX6_delay 20 = .ok (.goto 4, 3) := by decide +kernel
theorem dX6_delay_23 : decode cX6_delay 23 = .ok (.iconst 1, 1) := by decide +kernel
theorem dX6_delay_24 : decode cX6_delay 24 = .ok (.ireturn, 1) := by decide +kernel
theorem dX0_canBegin_0 : decode cX0_canBegin 0 = .ok (.aload_n 1, 1) := by decide +kernel
theorem dX0_canBegin_1 : decode cX0_canBegin 1 = .ok (.aload_n 0, 1) := by decide +kernel
theorem dX0_canBegin_2 : decode cX0_canBegin 2 = .ok (.getfield 42, 3) := by decide +kernel
theorem dX0_canBegin_5 : decode cX0_canBegin 5 = .ok (.aload_n 1, 1) := by decide +kernel
theorem dX0_canBegin_6 : decode cX0_canBegin 6 = .ok (.getfield 349, 3) := by decide +kernel
theorem dX0_canBegin_9 : decode cX0_canBegin 9 = .ok (.invokevirtual 307, 3) := by decide +kernel
theorem dX0_canBegin_12 : decode cX0_canBegin 12 = .ok (.aload_n 0, 1) := by decide +kernel
theorem dX0_canBegin_13 : decode cX0_canBegin 13 = .ok (.getfield 42, 3) := by decide +kernel
theorem dX0_canBegin_16 : decode cX0_canBegin 16 = .ok (.aload_n 1, 1) := by decide +kernel
theorem dX0_canBegin_17 : decode cX0_canBegin 17 = .ok (.getfield 285, 3) := by decide +kernel
theorem dX0_canBegin_20 : decode cX0_canBegin 20 = .ok (.invokevirtual 307, 3) := by decide +kernel
theorem dX0_canBegin_23 : decode cX0_canBegin 23 = .ok (.invokevirtual 355, 3) := by decide +kernel
theorem dX0_canBegin_26 : decode cX0_canBegin 26 = .ok (.aload_n 1, 1) := by decide +kernel
theorem dX0_canBegin_27 : decode cX0_canBegin 27 = .ok (.getfield 161, 3) := by decide +kernel
theorem dX0_canBegin_30 : decode cX0_canBegin 30 = .ok (.getfield 165, 3) := by decide +kernel
theorem dX0_canBegin_33 : decode cX0_canBegin 33 = .ok (.bipush 9, 2) := by decide +kernel
theorem dX0_canBegin_35 : decode cX0_canBegin 35 = .ok (.if_icmp .ne 17, 3) := by decide +kernel
theorem dX0_canBegin_38 : decode cX0_canBegin 38 = .ok (.aload_n 1, 1) := by decide +kernel
theorem dX0_canBegin_39 : decode cX0_canBegin 39 = .ok (.getfield 192, 3) := by decide +kernel
theorem dX0_canBegin_42 : decode cX0_canBegin 42 = .ok (.ifCond .ne 10, 3) := by decide +kernel
theorem dX0_canBegin_45 : decode cX0_canBegin 45 = .ok (.aload_n 0, 1) := by decide +kernel
theorem dX0_canBegin_46 : decode cX0_canBegin 46 = .ok (.aload_n 1, 1) := by decide +kernel
theorem dX0_canBegin_47 : decode cX0_canBegin 47 = .ok (.iload_n 2, 1) := by decide +kernel
theorem dX0_canBegin_48 : decode cX0_canBegin 48 = .ok (.invokevirtual 358, 3) := by decide +kernel
theorem dX0_canBegin_51 : decode cX0_canBegin 51 = .ok (.ireturn, 1) := by decide +kernel
theorem dX0_canBegin_52 : decode cX0_canBegin 52 = .ok (.aload_n 1, 1) := by decide +kernel
theorem dX0_canBegin_53 : decode cX0_canBegin 53 = .ok (.aload_n 1, 1) := by decide +kernel
theorem dX0_canBegin_54 : decode cX0_canBegin 54 = .ok (.getfield 161, 3) := by decide +kernel
theorem dX0_canBegin_57 : decode cX0_canBegin 57 = .ok (.invokevirtual 361, 3) := by decide +kernel
theorem dX0_canBegin_60 : decode cX0_canBegin 60 = .ok (.aload_n 0, 1) := by decide +kernel
theorem dX0_canBegin_61 : decode cX0_canBegin 61 = .ok (.getfield 77, 3) := by decide +kernel
theorem dX0_canBegin_64 : decode cX0_canBegin 64 = .ok (.invokevirtual 364, 3) := by decide +kernel
theorem dX0_canBegin_67 : decode cX0_canBegin 67 = .ok (.iconst 1, 1) := by decide +kernel
theorem dX0_canBegin_68 : decode cX0_canBegin 68 = .ok (.ireturn, 1) := by decide +kernel
theorem dX0_doBeginnings_0 : decode cX0_doBeginnings 0 = .ok (.aload_n 0, 1) := by decide +kernel
theorem dX0_doBeginnings_1 : decode cX0_doBeginnings 1 = .ok (.getfield 74, 3) := by decide +kernel
theorem dX0_doBeginnings_4 : decode cX0_doBeginnings 4 = .ok (.iconst 0, 1) := by decide +kernel
theorem dX0_doBeginnings_5 : decode cX0_doBeginnings 5 = .ok (.iconst 2, 1) := by decide +kernel
theorem dX0_doBeginnings_6 : decode cX0_doBeginnings 6 = .ok (.iastore, 1) := by decide +kernel
theorem dX0_doBeginnings_7 : decode cX0_doBeginnings 7 = .ok (.aload_n 0, 1) := by decide +kernel
theorem dX0_doBeginnings_8 : decode cX0_doBeginnings 8 = .ok (.getfield 74, 3) := by decide +kernel
theorem dX0_doBeginnings_11 : decode cX0_doBeginnings 11 = .ok (.iconst 1, 1) := by decide +kernel
theorem dX0_doBeginnings_12 : decode cX0_doBeginnings 12 = .ok (.iconst 1, 1) := by decide +kernel
theorem dX0_doBeginnings_13 : decode cX0_doBeginnings 13 = .ok (.iastore, 1) := by decide +kernel
theorem dX0_doBeginnings_14 : decode cX0_doBeginnings 14 = .ok (.aload_n 0, 1) := by decide +kernel
theorem dX0_doBeginnings_15 : decode cX0_doBeginnings 15 = .ok (.getfield 74, 3) := by decide +kernel
theorem dX0_doBeginnings_18 : decode cX0_doBeginnings 18 = .ok (.iconst 2, 1) := by decide +kernel
theorem dX0_doBeginnings_19 : decode cX0_doBeginnings 19 = .ok (.aload_n 0, 1) := by decide +kernel
theorem dX0_doBeginnings_20 : decode cX0_doBeginnings 20 = .ok (.invokevirtual 332, 3) := by decide +kernel
theorem dX0_doBeginnings_23 : decode cX0_doBeginnings 23 = .ok (.ifCond .eq 7, 3) := by decide +kernel
theorem dX0_doBeginnings_26 : decode cX0_doBeginnings 26 = .ok (.iconst 0, 1) := by decide +kernel
theorem dX0_doBeginnings_27 : decode cX0_doBeginnings 27 = .ok (.goto 4, 3) := by decide +kernel
theorem dX0_doBeginnings_30 : decode cX0_doBeginnings 30 = .ok (.iconst 1, 1) := by decide +kernel
theorem dX0_doBeginnings_31 : decode cX0_doBeginnings 31 = .ok (.iastore, 1) := by decide +kernel
theorem dX0_doBeginnings_32 : decode cX0_doBeginnings 32 = .ok (.aload_n 0, 1) := by decide +kernel
theorem dX0_doBeginnings_33 : decode cX0_doBeginnings 33 = .ok (.getfield 74, 3) := by decide +kernel
theorem dX0_doBeginnings_36 : decode cX0_doBeginnings 36 = .ok (.iconst 3, 1) := by decide +kernel
theorem dX0_doBeginnings_37 : decode cX0_doBeginnings 37 = .ok (.iconst 1, 1) := by decide +kernel
theorem dX0_doBeginnings_38 : decode cX0_doBeginnings 38 = .ok (.iastore, 1) := by decide +kernel
theorem dX0_doBeginnings_39 : decode cX0_doBeginnings 39 = .ok (.iconst 0, 1) := by decide +kernel
theorem dX0_doBeginnings_40 : decode cX0_doBeginnings 40 = .ok (.istore_n 1, 1) := by decide +kernel
theorem dX0_doBeginnings_41 : decode cX0_doBeginnings 41 = .ok (.iload_n 1, 1) := by decide +kernel
theorem dX0_doBeginnings_42 : decode cX0_doBeginnings 42 = .ok (.aload_n 0, 1) := by decide +kernel
theorem dX0_doBeginnings_43 : decode cX0_doBeginnings 43 = .ok (.getfield 60, 3) := by decide +kernel
theorem dX0_doBeginnings_46 : decode cX0_doBeginnings 46 = .ok (.invokevirtual 123, 3) := by decide +kernel
theorem dX0_doBeginnings_49 : decode cX0_doBeginnings 49 = .ok (.if_icmp .ge 83, 3) := by decide +kernel
theorem dX0_doBeginnings_52 : decode cX0_doBeginnings 52 = .ok (.aload_n 0, 1) := by decide +kernel
theorem dX0_doBeginnings_53 : decode cX0_doBeginnings 53 = .ok (.getfield 60, 3) := by decide +kernel
theorem dX0_doBeginnings_56 : decode cX0_doBeginnings 56 = .ok (.iload_n 1, 1) := by decide +kernel
theorem dX0_doBeginnings_57 : decode cX0_doBeginnings 57 = .ok (.invokevirtual 127, 3) := by decide +kernel
theorem dX0_doBeginnings_60 : decode cX0_doBeginnings 60 = .ok (.checkcast 131, 3) := by decide +kernel
theorem dX0_doBeginnings_63 : decode cX0_doBeginnings 63 = .ok (.astore_n 2, 1) := by decide +kernel
theorem dX0_doBeginnings_64 : decode cX0_doBeginnings 64 = .ok (.aload_n 2, 1) := by decide +kernel
theorem dX0_doBeginnings_65 : decode cX0_doBeginnings 65 = .ok (.getfield 161, 3) := by decide +kernel
theorem dX0_doBeginnings_68 : decode cX0_doBeginnings 68 = .ok (.invokevirtual 335, 3) := by decide +kernel
theorem dX0_doBeginnings_71 : decode cX0_doBeginnings 71 = .ok (.istore_n 3, 1) := by decide +kernel
theorem dX0_doBeginnings_72 : decode cX0_doBeginnings 72 = .ok (.aload_n 2, 1) := by decide +kernel
theorem dX0_doBeginnings_73 : decode cX0_doBeginnings 73 = .ok (.getfield 133, 3) := by decide +kernel
theorem dX0_doBeginnings_76 : decode cX0_doBeginnings 76 = .ok (.bipush 113, 2) := by decide +kernel
theorem dX0_doBeginnings_78 : decode cX0_doBeginnings 78 = .ok (.if_icmp .ne 48, 3) := by decide +kernel
theorem dX0_doBeginnings_81 : decode cX0_doBeginnings 81 = .ok (.iload_n 3, 1) := by decide +kernel
theorem dX0_doBeginnings_82 : decode cX0_doBeginnings 82 = .ok (.ifCond .lt 44, 3) := by decide +kernel
theorem dX0_doBeginnings_85 : decode cX0_doBeginnings 85 = .ok (.iload_n 3, 1) := by decide +kernel
theorem dX0_doBeginnings_86 : decode cX0_doBeginnings 86 = .ok (.iconst 4, 1) := by decide +kernel
theorem dX0_doBeginnings_87 : decode cX0_doBeginnings 87 = .ok (.if_icmp .ge 39, 3) := by decide +kernel
theorem dX0_doBeginnings_90 : decode cX0_doBeginnings 90 = .ok (.aload_n 0, 1) := by decide +kernel
theorem dX0_doBeginnings_91 : decode cX0_doBeginnings 91 = .ok (.getfield 74, 3) := by decide +kernel
theorem dX0_doBeginnings_94 : decode cX0_doBeginnings 94 = .ok (.iload_n 3, 1) := by decide +kernel
theorem dX0_doBeginnings_95 : decode cX0_doBeginnings 95 = .ok (.iaload, 1) := by decide +kernel
theorem dX0_doBeginnings_96 : decode cX0_doBeginnings 96 = .ok (.ifCond .le 30, 3) := by decide +kernel
theorem dX0_doBeginnings_99 : decode cX0_doBeginnings 99 = .ok (.aload_n 0, 1) := by decide +kernel
theorem dX0_doBeginnings_100 : decode cX0_doBeginnings 100 = .ok (.aload_n 2, 1) := by decide +kernel
theorem dX0_doBeginnings_101 : decode cX0_doBeginnings 101 = .ok (.invokevirtual 338, 3) := by decide +kernel
theorem dX0_doBeginnings_104 : decode cX0_doBeginnings 104 = .ok (.ifCond .eq 22, 3) := by decide +kernel
theorem dX0_doBeginnings_107 : decode cX0_doBeginnings 107 = .ok (.aload_n 0, 1) := by decide +kernel
theorem dX0_doBeginnings_108 : decode cX0_doBeginnings 108 = .ok (.aload_n 2, 1) := by decide +kernel
theorem dX0_doBeginnings_109 : decode cX0_doBeginnings 109 = .ok (.iload_n 1, 1) := by decide +kernel
theorem dX0_doBeginnings_110 : decode cX0_doBeginnings 110 = .ok (.invokevirtual 342, 3) := by decide +kernel
theorem dX0_doBeginnings_113 : decode cX0_doBeginnings 113 = .ok (.ifCond .eq 13, 3) := by decide +kernel
theorem dX0_doBeginnings_116 : decode cX0_doBeginnings 116 = .ok (.aload_n 0, 1) := by decide +kernel
theorem dX0_doBeginnings_117 : decode cX0_doBeginnings 117 = .ok (.getfield 74, 3) := by decide +kernel
theorem dX0_doBeginnings_120 : decode cX0_doBeginnings 120 = .ok (.iload_n 3, 1) := by decide +kernel
theorem dX0_doBeginnings_121 : decode cX0_doBeginnings 121 = .ok (.dup2, 1) := by decide +kernel
theorem dX0_doBeginnings_122 : decode cX0_doBeginnings 122 = .ok (.iaload, 1) := by decide +kernel
theorem dX0_doBeginnings_123 : decode cX0_doBeginnings 123 = .ok (.iconst 1, 1) := by decide +kernel
theorem dX0_doBeginnings_124 : decode cX0_doBeginnings 124 = .ok (.isub, 1) := by decide +kernel
theorem dX0_doBeginnings_125 : decode cX0_doBeginnings 125 = .ok (.iastore, 1) := by decide +kernel
theorem dX0_doBeginnings_126 : decode cX0_doBeginnings 126 = .ok (.iinc 1 1, 3) := by decide +kernel
theorem dX0_doBeginnings_129 : decode cX0_doBeginnings 129 = .ok (.goto (-88), 3) := by decide +kernel
theorem dX0_doBeginnings_132 : decode cX0_doBeginnings 132 = .ok (.return_, 1) := by decide +kernel
theorem dX6_isForQueue_0 : decode cX6_isForQueue 0 = .ok (.aload_n 0, 1) := by decide +kernel
theorem dX6_isForQueue_1 : decode cX6_isForQueue 1 = .ok (.getfield 15, 3) := by decide +kernel
theorem dX6_isForQueue_4 : decode cX6_isForQueue 4 = .ok (.iconst 1, 1) := by decide +kernel
theorem dX6_isForQueue_5 : decode cX6_isForQueue 5 = .ok (.if_icmp .lt 12, 3) := by decide +kernel
theorem dX6_isForQueue_8 : decode cX6_isForQueue 8 = .ok (.aload_n 0, 1) := by decide +kernel
theorem dX6_isForQueue_9 : decode cX6_isForQueue 9 = .ok (.getfield 15, 3) := by decide +kernel
theorem dX6_isForQueue_12 : decode cX6_isForQueue 12 = .ok (.bipush 13, 2) := by decide +kernel
theorem dX6_isForQueue_14 : decode cX6_isForQueue 14 = .ok (.if_icmp .le 10, 3) := by decide +kernel
theorem dX6_isForQueue_17 : decode cX6_isForQueue 17 = .ok (.aload_n 0, 1) := by decide +kernel
theorem dX6_isForQueue_18 : decode cX6_isForQueue 18 = .ok (.invokevirtual 30, 3) := by decide +kernel
theorem dX6_isForQueue_21 : decode cX6_isForQueue 21 = .ok (.ifCond .eq 7, 3) := by decide +kernel
theorem dX6_isForQueue_24 : decode cX6_isForQueue 24 = .ok (.iconst 1, 1) := by decide +kernel
theorem dX6_isForQueue_25 : decode cX6_isForQueue 25 = .ok (.goto 4, 3) := by decide +kernel
theorem dX6_isForQueue_28 : decode cX6_isForQueue 28 = .ok (.iconst 0, 1) := by decide +kernel
theorem dX6_isForQueue_29 : decode cX6_isForQueue 29 = .ok (.ireturn, 1) := by decide +kernel
theorem dX0_countQueue_0 : decode cX0_countQueue 0 = .ok (.iconst 0, 1) := by decide +kernel
theorem dX0_countQueue_1 : decode cX0_countQueue 1 = .ok (.istore_n 1, 1) := by decide +kernel
theorem dX0_countQueue_2 : decode cX0_countQueue 2 = .ok (.iconst 0, 1) := by decide +kernel
theorem dX0_countQueue_3 : decode cX0_countQueue 3 = .ok (.istore_n 2, 1) := by decide +kernel
theorem dX0_countQueue_4 : decode cX0_countQueue 4 = .ok (.iload_n 2, 1) := by decide +kernel
theorem dX0_countQueue_5 : decode cX0_countQueue 5 = .ok (.aload_n 0, 1) := by decide +kernel
theorem dX0_countQueue_6 : decode cX0_countQueue 6 = .ok (.getfield 60, 3) := by decide +kernel
theorem dX0_countQueue_9 : decode cX0_countQueue 9 = .ok (.invokevirtual 123, 3) := by decide +kernel
theorem dX0_countQueue_12 : decode cX0_countQueue 12 = .ok (.if_icmp .ge 31, 3) := by decide +kernel
theorem dX0_countQueue_15 : decode cX0_countQueue 15 = .ok (.aload_n 0, 1) := by decide +kernel
theorem dX0_countQueue_16 : decode cX0_countQueue 16 = .ok (.getfield 60, 3) := by decide +kernel
theorem dX0_countQueue_19 : decode cX0_countQueue 19 = .ok (.iload_n 2, 1) := by decide +kernel
theorem dX0_countQueue_20 : decode cX0_countQueue 20 = .ok (.invokevirtual 127, 3) := by decide +kernel
theorem dX0_countQueue_23 : decode cX0_countQueue 23 = .ok (.checkcast 131, 3) := by decide +kernel
theorem dX0_countQueue_26 : decode cX0_countQueue 26 = .ok (.getfield 133, 3) := by decide +kernel
theorem dX0_countQueue_29 : decode cX0_countQueue 29 = .ok (.bipush 113, 2) := by decide +kernel
theorem dX0_countQueue_31 : decode cX0_countQueue 31 = .ok (.if_icmp .ne 6, 3) := by decide +kernel
theorem dX0_countQueue_34 : decode cX0_countQueue 34 = .ok (.iinc 1 1, 3) := by decide +kernel
theorem dX0_countQueue_37 : decode cX0_countQueue 37 = .ok (.iinc 2 1, 3) := by decide +kernel
theorem dX0_countQueue_40 : decode cX0_countQueue 40 = .ok (.goto (-36), 3) := by decide +kernel
theorem dX0_countQueue_43 : decode cX0_countQueue 43 = .ok (.iload_n 1, 1) := by decide +kernel
theorem dX0_countQueue_44 : decode cX0_countQueue 44 = .ok (.ireturn, 1) := by decide +kernel
theorem dX6_standsAlone_0 : decode cX6_standsAlone 0 = .ok (.aload_n 0, 1) := by decide +kernel
theorem dX6_standsAlone_1 : decode cX6_standsAlone 1 = .ok (.getfield 15, 3) := by decide +kernel
theorem dX6_standsAlone_4 : decode cX6_standsAlone 4 = .ok (.bipush 19, 2) := by decide +kernel
theorem dX6_standsAlone_6 : decode cX6_standsAlone 6 = .ok (.if_icmp .eq 12, 3) := by decide +kernel
theorem dX6_standsAlone_9 : decode cX6_standsAlone 9 = .ok (.aload_n 0, 1) := by decide +kernel
theorem dX6_standsAlone_10 : decode cX6_standsAlone 10 = .ok (.getfield 15, 3) := by decide +kernel
theorem dX6_standsAlone_13 : decode cX6_standsAlone 13 = .ok (.bipush 21, 2) := by decide +kernel
theorem dX6_standsAlone_15 : decode cX6_standsAlone 15 = .ok (.if_icmp .ne 7, 3) := by decide +kernel
theorem dX6_standsAlone_18 : decode cX6_standsAlone 18 = .ok (.iconst 1, 1) := by decide +kernel
theorem dX6_standsAlone_19 : decode cX6_standsAlone 19 = .ok (.goto 4, 3) := by decide +kernel
theorem dX6_standsAlone_22 : decode cX6_standsAlone 22 = .ok (.iconst 0, 1) := by decide +kernel
theorem dX6_standsAlone_23 : decode cX6_standsAlone 23 = .ok (.ireturn, 1) := by decide +kernel
theorem dX0_canRename_0 : decode cX0_canRename 0 = .ok (.aload_n 0, 1) := by decide +kernel
theorem dX0_canRename_1 : decode cX0_canRename 1 = .ok (.getfield 60, 3) := by decide +kernel
theorem dX0_canRename_4 : decode cX0_canRename 4 = .ok (.invokevirtual 123, 3) := by decide +kernel
theorem dX0_canRename_7 : decode cX0_canRename 7 = .ok (.aload_n 0, 1) := by decide +kernel
theorem dX0_canRename_8 : decode cX0_canRename 8 = .ok (.getfield 21, 3) := by decide +kernel
theorem dX0_canRename_11 : decode cX0_canRename 11 = .ok (.getfield 400, 3) := by decide +kernel
theorem dX0_canRename_14 : decode cX0_canRename 14 = .ok (.if_icmp .lt 5, 3) := by decide +kernel
theorem dX0_canRename_17 : decode cX0_canRename 17 = .ok (.iconst 0, 1) := by decide +kernel
theorem dX0_canRename_18 : decode cX0_canRename 18 = .ok (.ireturn, 1) := by decide +kernel
theorem dX0_canRename_19 : decode cX0_canRename 19 = .ok (.aload_n 1, 1) := by decide +kernel
theorem dX0_canRename_20 : decode cX0_canRename 20 = .ok (.invokevirtual 179, 3) := by decide +kernel
theorem dX0_canRename_23 : decode cX0_canRename 23 = .ok (.ifCond .eq 15, 3) := by decide +kernel
theorem dX0_canRename_26 : decode cX0_canRename 26 = .ok (.aload_n 0, 1) := by decide +kernel
theorem dX0_canRename_27 : decode cX0_canRename 27 = .ok (.getfield 42, 3) := by decide +kernel
theorem dX0_canRename_30 : decode cX0_canRename 30 = .ok (.getfield 403, 3) := by decide +kernel
theorem dX0_canRename_33 : decode cX0_canRename 33 = .ok (.ifCond .ne 5, 3) := by decide +kernel
theorem dX0_canRename_36 : decode cX0_canRename 36 = .ok (.iconst 0, 1) := by decide +kernel
theorem dX0_canRename_37 : decode cX0_canRename 37 = .ok (.ireturn, 1) := by decide +kernel
theorem dX0_canRename_38 : decode cX0_canRename 38 = .ok (.aload_n 1, 1) := by decide +kernel
theorem dX0_canRename_39 : decode cX0_canRename 39 = .ok (.invokevirtual 406, 3) := by decide +kernel
theorem dX0_canRename_42 : decode cX0_canRename 42 = .ok (.ifCond .eq 19, 3) := by decide +kernel
theorem dX0_canRename_45 : decode cX0_canRename 45 = .ok (.aload_n 0, 1) := by decide +kernel
theorem dX0_canRename_46 : decode cX0_canRename 46 = .ok (.invokevirtual 409, 3) := by decide +kernel
theorem dX0_canRename_49 : decode cX0_canRename 49 = .ok (.aload_n 0, 1) := by decide +kernel
theorem dX0_canRename_50 : decode cX0_canRename 50 = .ok (.getfield 21, 3) := by decide +kernel
theorem dX0_canRename_53 : decode cX0_canRename 53 = .ok (.getfield 412, 3) := by decide +kernel
theorem dX0_canRename_56 : decode cX0_canRename 56 = .ok (.if_icmp .lt 5, 3) := by decide +kernel
theorem dX0_canRename_59 : decode cX0_canRename 59 = .ok (.iconst 0, 1) := by decide +kernel
theorem dX0_canRename_60 : decode cX0_canRename 60 = .ok (.ireturn, 1) := by decide +kernel
theorem dX0_canRename_61 : decode cX0_canRename 61 = .ok (.aload_n 0, 1) := by decide +kernel
theorem dX0_canRename_62 : decode cX0_canRename 62 = .ok (.getfield 60, 3) := by decide +kernel
theorem dX0_canRename_65 : decode cX0_canRename 65 = .ok (.invokevirtual 282, 3) := by decide +kernel
theorem dX0_canRename_68 : decode cX0_canRename 68 = .ok (.ifCond .ne 30, 3) := by decide +kernel
theorem dX0_canRename_71 : decode cX0_canRename 71 = .ok (.aload_n 1, 1) := by decide +kernel
theorem dX0_canRename_72 : decode cX0_canRename 72 = .ok (.invokevirtual 415, 3) := by decide +kernel
theorem dX0_canRename_75 : decode cX0_canRename 75 = .ok (.ifCond .ne 27, 3) := by decide +kernel
theorem dX0_canRename_78 : decode cX0_canRename 78 = .ok (.aload_n 0, 1) := by decide +kernel
theorem dX0_canRename_79 : decode cX0_canRename 79 = .ok (.getfield 60, 3) := by decide +kernel
theorem dX0_canRename_82 : decode cX0_canRename 82 = .ok (.iconst 0, 1) := by decide +kernel
theorem dX0_canRename_83 : decode cX0_canRename 83 = .ok (.invokevirtual 127, 3) := by decide +kernel
theorem dX0_canRename_86 : decode cX0_canRename 86 = .ok (.checkcast 131, 3) := by decide +kernel
theorem dX0_canRename_89 : decode cX0_canRename 89 = .ok (.getfield 161, 3) := by decide +kernel
theorem dX0_canRename_92 : decode cX0_canRename 92 = .ok (.invokevirtual 415, 3) := by decide +kernel
theorem dX0_canRename_95 : decode cX0_canRename 95 = .ok (.ifCond .ne 7, 3) := by decide +kernel
theorem dX0_canRename_98 : decode cX0_canRename 98 = .ok (.iconst 1, 1) := by decide +kernel
theorem dX0_canRename_99 : decode cX0_canRename 99 = .ok (.goto 4, 3) := by decide +kernel
theorem dX0_canRename_102 : decode cX0_canRename 102 = .ok (.iconst 0, 1) := by decide +kernel
theorem dX0_canRename_103 : decode cX0_canRename 103 = .ok (.ireturn, 1) := by decide +kernel
theorem dX5_takeFirst_0 : decode cX5_takeFirst 0 = .ok (.aload_n 0, 1) := by decide +kernel
theorem dX5_takeFirst_1 : decode cX5_takeFirst 1 = .ok (.getfield 25, 3) := by decide +kernel
theorem dX5_takeFirst_4 : decode cX5_takeFirst 4 = .ok (.iconst 0, 1) := by decide +kernel
theorem dX5_takeFirst_5 : decode cX5_takeFirst 5 = .ok (.iaload, 1) := by decide +kernel
theorem dX5_takeFirst_6 : decode cX5_takeFirst 6 = .ok (.istore_n 1, 1) := by decide +kernel
theorem dX5_takeFirst_7 : decode cX5_takeFirst 7 = .ok (.aload_n 0, 1) := by decide +kernel
theorem dX5_takeFirst_8 : decode cX5_takeFirst 8 = .ok (.dup, 1) := by decide +kernel
theorem dX5_takeFirst_9 : decode cX5_takeFirst 9 = .ok (.getfield 28, 3) := by decide +kernel
theorem dX5_takeFirst_12 : decode cX5_takeFirst 12 = .ok (.iconst 1, 1) := by decide +kernel
theorem dX5_takeFirst_13 : decode cX5_takeFirst 13 = .ok (.isub, 1) := by decide +kernel
theorem dX5_takeFirst_14 : decode cX5_takeFirst 14 = .ok (.putfield 28, 3) := by decide +kernel
theorem dX5_takeFirst_17 : decode cX5_takeFirst 17 = .ok (.iconst 0, 1) := by decide +kernel
theorem dX5_takeFirst_18 : decode cX5_takeFirst 18 = .ok (.istore_n 2, 1) := by decide +kernel
theorem dX5_takeFirst_19 : decode cX5_takeFirst 19 = .ok (.iload_n 2, 1) := by decide +kernel
theorem dX5_takeFirst_20 : decode cX5_takeFirst 20 = .ok (.aload_n 0, 1) := by decide +kernel
theorem dX5_takeFirst_21 : decode cX5_takeFirst 21 = .ok (.getfield 28, 3) := by decide +kernel
theorem dX5_takeFirst_24 : decode cX5_takeFirst 24 = .ok (.if_icmp .ge 23, 3) := by decide +kernel
theorem dX5_takeFirst_27 : decode cX5_takeFirst 27 = .ok (.aload_n 0, 1) := by decide +kernel
theorem dX5_takeFirst_28 : decode cX5_takeFirst 28 = .ok (.getfield 25, 3) := by decide +kernel
theorem dX5_takeFirst_31 : decode cX5_takeFirst 31 = .ok (.iload_n 2, 1) := by decide +kernel
theorem dX5_takeFirst_32 : decode cX5_takeFirst 32 = .ok (.aload_n 0, 1) := by decide +kernel
theorem dX5_takeFirst_33 : decode cX5_takeFirst 33 = .ok (.getfield 25, 3) := by decide +kernel
theorem dX5_takeFirst_36 : decode cX5_takeFirst 36 = .ok (.iload_n 2, 1) := by decide +kernel
theorem dX5_takeFirst_37 : decode cX5_takeFirst 37 = .ok (.iconst 1, 1) := by decide +kernel
theorem dX5_takeFirst_38 : decode cX5_takeFirst 38 = .ok (.iadd, 1) := by decide +kernel
theorem dX5_takeFirst_39 : decode cX5_takeFirst 39 = .ok (.iaload, 1) := by decide +kernel
theorem dX5_takeFirst_40 : decode cX5_takeFirst 40 = .ok (.iastore, 1) := by decide +kernel
theorem dX5_takeFirst_41 : decode cX5_takeFirst 41 = .ok (.iinc 2 1, 3) := by decide +kernel
theorem dX5_takeFirst_44 : decode cX5_takeFirst 44 = .ok (.goto (-25), 3) := by decide +kernel
theorem dX5_takeFirst_47 : decode cX5_takeFirst 47 = .ok (.iload_n 1, 1) := by decide +kernel
theorem dX5_takeFirst_48 : decode cX5_takeFirst 48 = .ok (.ireturn, 1) := by decide +kernel
theorem dX5_give_0 : decode cX5_give 0 = .ok (.aload_n 1, 1) := by decide +kernel
theorem dX5_give_1 : decode cX5_give 1 = .ok (.getfield 42, 3) := by decide +kernel
theorem dX5_give_4 : decode cX5_give 4 = .ok (.astore_n 2, 1) := by decide +kernel
theorem dX5_give_5 : decode cX5_give 5 = .ok (.aload_n 1, 1) := by decide +kernel
theorem dX5_give_6 : decode cX5_give 6 = .ok (.aload_n 0, 1) := by decide +kernel
theorem dX5_give_7 : decode cX5_give 7 = .ok (.getfield 9, 3) := by decide +kernel
theorem dX5_give_10 : decode cX5_give 10 = .ok (.aload_n 2, 1) := by decide +kernel
theorem dX5_give_11 : decode cX5_give 11 = .ok (.getfield 48, 3) := by decide +kernel
theorem dX5_give_14 : decode cX5_give 14 = .ok (.iaload, 1) := by decide +kernel
theorem dX5_give_15 : decode cX5_give 15 = .ok (.putfield 53, 3) := by decide +kernel
theorem dX5_give_18 : decode cX5_give 18 = .ok (.aload_n 1, 1) := by decide +kernel
theorem dX5_give_19 : decode cX5_give 19 = .ok (.aload_n 0, 1) := by decide +kernel
theorem dX5_give_20 : decode cX5_give 20 = .ok (.getfield 9, 3) := by decide +kernel
theorem dX5_give_23 : decode cX5_give 23 = .ok (.aload_n 2, 1) := by decide +kernel
theorem dX5_give_24 : decode cX5_give 24 = .ok (.getfield 56, 3) := by decide +kernel
theorem dX5_give_27 : decode cX5_give 27 = .ok (.iaload, 1) := by decide +kernel
theorem dX5_give_28 : decode cX5_give 28 = .ok (.putfield 59, 3) := by decide +kernel
theorem dX5_give_31 : decode cX5_give 31 = .ok (.aload_n 2, 1) := by decide +kernel
theorem dX5_give_32 : decode cX5_give 32 = .ok (.invokevirtual 62, 3) := by decide +kernel
theorem dX5_give_35 : decode cX5_give 35 = .ok (.ifCond .eq 60, 3) := by decide +kernel
theorem dX5_give_38 : decode cX5_give 38 = .ok (.aload_n 0, 1) := by decide +kernel
theorem dX5_give_39 : decode cX5_give 39 = .ok (.getfield 28, 3) := by decide +kernel
theorem dX5_give_42 : decode cX5_give 42 = .ok (.ifCond .le 53, 3) := by decide +kernel
theorem dX5_give_45 : decode cX5_give 45 = .ok (.aload_n 0, 1) := by decide +kernel
theorem dX5_give_46 : decode cX5_give 46 = .ok (.invokevirtual 66, 3) := by decide +kernel
theorem dX5_give_49 : decode cX5_give 49 = .ok (.istore_n 3, 1) := by decide +kernel
theorem dX5_give_50 : decode cX5_give 50 = .ok (.aload_n 1, 1) := by decide +kernel
theorem dX5_give_51 : decode cX5_give 51 = .ok (.aload_n 0, 1) := by decide +kernel
theorem dX5_give_52 : decode cX5_give 52 = .ok (.getfield 9, 3) := by decide +kernel
theorem dX5_give_55 : decode cX5_give 55 = .ok (.aload_n 2, 1) := by decide +kernel
theorem dX5_give_56 : decode cX5_give 56 = .ok (.getfield 70, 3) := by decide +kernel
theorem dX5_give_59 : decode cX5_give 59 = .ok (.iaload, 1) := by decide +kernel
theorem dX5_give_60 : decode cX5_give 60 = .ok (.putfield 73, 3) := by decide +kernel
theorem dX5_give_63 : decode cX5_give 63 = .ok (.aload_n 1, 1) := by decide +kernel
theorem dX5_give_64 : decode cX5_give 64 = .ok (.iload_n 3, 1) := by decide +kernel
theorem dX5_give_65 : decode cX5_give 65 = .ok (.putfield 76, 3) := by decide +kernel
theorem dX5_give_68 : decode cX5_give 68 = .ok (.aload_n 0, 1) := by decide +kernel
theorem dX5_give_69 : decode cX5_give 69 = .ok (.getfield 9, 3) := by decide +kernel
theorem dX5_give_72 : decode cX5_give 72 = .ok (.aload_n 2, 1) := by decide +kernel
theorem dX5_give_73 : decode cX5_give 73 = .ok (.getfield 70, 3) := by decide +kernel
theorem dX5_give_76 : decode cX5_give 76 = .ok (.iload_n 3, 1) := by decide +kernel
theorem dX5_give_77 : decode cX5_give 77 = .ok (.iastore, 1) := by decide +kernel
theorem dX5_give_78 : decode cX5_give 78 = .ok (.iload_n 3, 1) := by decide +kernel
theorem dX5_give_79 : decode cX5_give 79 = .ok (.ifCond .lt 16, 3) := by decide +kernel
theorem dX5_give_82 : decode cX5_give 82 = .ok (.iload_n 3, 1) := by decide +kernel
theorem dX5_give_83 : decode cX5_give 83 = .ok (.bipush 24, 2) := by decide +kernel
theorem dX5_give_85 : decode cX5_give 85 = .ok (.if_icmp .ge 10, 3) := by decide +kernel
theorem dX5_give_88 : decode cX5_give 88 = .ok (.aload_n 0, 1) := by decide +kernel
theorem dX5_give_89 : decode cX5_give 89 = .ok (.getfield 21, 3) := by decide +kernel
theorem dX5_give_92 : decode cX5_give 92 = .ok (.iload_n 3, 1) := by decide +kernel
theorem dX5_give_93 : decode cX5_give 93 = .ok (.iconst 0, 1) := by decide +kernel
theorem dX5_give_94 : decode cX5_give 94 = .ok (.bastore, 1) := by decide +kernel
theorem dX5_give_95 : decode cX5_give 95 = .ok (.return_, 1) := by decide +kernel
theorem dX0_renameFirst_0 : decode cX0_renameFirst 0 = .ok (.aload_n 1, 1) := by decide +kernel
theorem dX0_renameFirst_1 : decode cX0_renameFirst 1 = .ok (.getfield 161, 3) := by decide +kernel
theorem dX0_renameFirst_4 : decode cX0_renameFirst 4 = .ok (.astore_n 2, 1) := by decide +kernel
theorem dX0_renameFirst_5 : decode cX0_renameFirst 5 = .ok (.aload_n 0, 1) := by decide +kernel
theorem dX0_renameFirst_6 : decode cX0_renameFirst 6 = .ok (.getfield 42, 3) := by decide +kernel
theorem dX0_renameFirst_9 : decode cX0_renameFirst 9 = .ok (.aload_n 1, 1) := by decide +kernel
theorem dX0_renameFirst_10 : decode cX0_renameFirst 10 = .ok (.invokevirtual 418, 3) := by decide +kernel
theorem dX0_renameFirst_13 : decode cX0_renameFirst 13 = .ok (.aload_n 1, 1) := by decide +kernel
theorem dX0_renameFirst_14 : decode cX0_renameFirst 14 = .ok (.getfield 261, 3) := by decide +kernel
theorem dX0_renameFirst_17 : decode cX0_renameFirst 17 = .ok (.iconst 1, 1) := by decide +kernel
theorem dX0_renameFirst_18 : decode cX0_renameFirst 18 = .ok (.aload_n 0, 1) := by decide +kernel
theorem dX0_renameFirst_19 : decode cX0_renameFirst 19 = .ok (.getfield 77, 3) := by decide +kernel
theorem dX0_renameFirst_22 : decode cX0_renameFirst 22 = .ok (.iastore, 1) := by decide +kernel
theorem dX0_renameFirst_23 : decode cX0_renameFirst 23 = .ok (.aload_n 2, 1) := by decide +kernel
theorem dX0_renameFirst_24 : decode cX0_renameFirst 24 = .ok (.invokevirtual 406, 3) := by decide +kernel
theorem dX0_renameFirst_27 : decode cX0_renameFirst 27 = .ok (.ifCond .ne 41, 3) := by decide +kernel
theorem dX0_renameFirst_30 : decode cX0_renameFirst 30 = .ok (.aload_n 1, 1) := by decide +kernel
theorem dX0_renameFirst_31 : decode cX0_renameFirst 31 = .ok (.aload_n 2, 1) := by decide +kernel
theorem dX0_renameFirst_32 : decode cX0_renameFirst 32 = .ok (.getfield 165, 3) := by decide +kernel
theorem dX0_renameFirst_35 : decode cX0_renameFirst 35 = .ok (.bipush 21, 2) := by decide +kernel
theorem dX0_renameFirst_37 : decode cX0_renameFirst 37 = .ok (.if_icmp .ne 14, 3) := by decide +kernel
theorem dX0_renameFirst_40 : decode cX0_renameFirst 40 = .ok (.aload_n 0, 1) := by decide +kernel
theorem dX0_renameFirst_41 : decode cX0_renameFirst 41 = .ok (.getfield 88, 3) := by decide +kernel
theorem dX0_renameFirst_44 : decode cX0_renameFirst 44 = .ok (.ifCond .ne 7, 3) := by decide +kernel
theorem dX0_renameFirst_47 : decode cX0_renameFirst 47 = .ok (.iconst 5, 1) := by decide +kernel
theorem dX0_renameFirst_48 : decode cX0_renameFirst 48 = .ok (.goto 9, 3) := by decide +kernel
theorem dX0_renameFirst_51 : decode cX0_renameFirst 51 = .ok (.aload_n 2, 1) := by decide +kernel
theorem dX0_renameFirst_52 : decode cX0_renameFirst 52 = .ok (.iconst 0, 1) := by decide +kernel
theorem dX0_renameFirst_53 : decode cX0_renameFirst 53 = .ok (.iconst 0, 1) := by decide +kernel
theorem dX0_renameFirst_54 : decode cX0_renameFirst 54 = .ok (.invokevirtual 421, 3) := by decide +kernel
theorem dX0_renameFirst_57 : decode cX0_renameFirst 57 = .ok (.putfield 192, 3) := by decide +kernel
theorem dX0_renameFirst_60 : decode cX0_renameFirst 60 = .ok (.aload_n 1, 1) := by decide +kernel
theorem dX0_renameFirst_61 : decode cX0_renameFirst 61 = .ok (.aload_n 0, 1) := by decide +kernel
theorem dX0_renameFirst_62 : decode cX0_renameFirst 62 = .ok (.getfield 77, 3) := by decide +kernel
theorem dX0_renameFirst_65 : decode cX0_renameFirst 65 = .ok (.invokevirtual 183, 3) := by decide +kernel
theorem dX0_renameFirst_68 : decode cX0_renameFirst 68 = .ok (.aload_n 2, 1) := by decide +kernel
theorem dX0_renameFirst_69 : decode cX0_renameFirst 69 = .ok (.getfield 165, 3) := by decide +kernel
theorem dX0_renameFirst_72 : decode cX0_renameFirst 72 = .ok (.bipush 15, 2) := by decide +kernel
theorem dX0_renameFirst_74 : decode cX0_renameFirst 74 = .ok (.if_icmp .ne 20, 3) := by decide +kernel
theorem dX0_renameFirst_77 : decode cX0_renameFirst 77 = .ok (.aload_n 0, 1) := by decide +kernel
theorem dX0_renameFirst_78 : decode cX0_renameFirst 78 = .ok (.getfield 42, 3) := by decide +kernel
theorem dX0_renameFirst_81 : decode cX0_renameFirst 81 = .ok (.aload_n 1, 1) := by decide +kernel
theorem dX0_renameFirst_82 : decode cX0_renameFirst 82 = .ok (.getfield 230, 3) := by decide +kernel
theorem dX0_renameFirst_85 : decode cX0_renameFirst 85 = .ok (.aload_n 2, 1) := by decide +kernel
theorem dX0_renameFirst_86 : decode cX0_renameFirst 86 = .ok (.iconst 0, 1) := by decide +kernel
theorem dX0_renameFirst_87 : decode cX0_renameFirst 87 = .ok (.iconst 0, 1) := by decide +kernel
theorem dX0_renameFirst_88 : decode cX0_renameFirst 88 = .ok (.invokevirtual 424, 3) := by decide +kernel
theorem dX0_renameFirst_91 : decode cX0_renameFirst 91 = .ok (.invokevirtual 233, 3) := by decide +kernel
theorem dX0_renameFirst_94 : decode cX0_renameFirst 94 = .ok (.aload_n 0, 1) := by decide +kernel
theorem dX0_renameFirst_95 : decode cX0_renameFirst 95 = .ok (.getfield 60, 3) := by decide +kernel
theorem dX0_renameFirst_98 : decode cX0_renameFirst 98 = .ok (.aload_n 1, 1) := by decide +kernel
theorem dX0_renameFirst_99 : decode cX0_renameFirst 99 = .ok (.invokevirtual 328, 3) := by decide +kernel
theorem dX0_renameFirst_102 : decode cX0_renameFirst 102 = .ok (.pop, 1) := by decide +kernel
theorem dX0_renameFirst_103 : decode cX0_renameFirst 103 = .ok (.return_, 1) := by decide +kernel
theorem dX0_doRenaming_0 : decode cX0_doRenaming 0 = .ok (.iconst 0, 1) := by decide +kernel
theorem dX0_doRenaming_1 : decode cX0_doRenaming 1 = .ok (.istore_n 1, 1) := by decide +kernel
theorem dX0_doRenaming_2 : decode cX0_doRenaming 2 = .ok (.iload_n 1, 1) := by decide +kernel
theorem dX0_doRenaming_3 : decode cX0_doRenaming 3 = .ok (.aload_n 0, 1) := by decide +kernel
theorem dX0_doRenaming_4 : decode cX0_doRenaming 4 = .ok (.getfield 21, 3) := by decide +kernel
theorem dX0_doRenaming_7 : decode cX0_doRenaming 7 = .ok (.getfield 112, 3) := by decide +kernel
theorem dX0_doRenaming_10 : decode cX0_doRenaming 10 = .ok (.if_icmp .ge 79, 3) := by decide +kernel
theorem dX0_doRenaming_13 : decode cX0_doRenaming 13 = .ok (.aload_n 0, 1) := by decide +kernel
theorem dX0_doRenaming_14 : decode cX0_doRenaming 14 = .ok (.getfield 56, 3) := by decide +kernel
theorem dX0_doRenaming_17 : decode cX0_doRenaming 17 = .ok (.getfield 237, 3) := by decide +kernel
theorem dX0_doRenaming_20 : decode cX0_doRenaming 20 = .ok (.invokevirtual 282, 3) := by decide +kernel
theorem dX0_doRenaming_23 : decode cX0_doRenaming 23 = .ok (.ifCond .ne 27, 3) := by decide +kernel
theorem dX0_doRenaming_26 : decode cX0_doRenaming 26 = .ok (.aload_n 0, 1) := by decide +kernel
theorem dX0_doRenaming_27 : decode cX0_doRenaming 27 = .ok (.aload_n 0, 1) := by decide +kernel
theorem dX0_doRenaming_28 : decode cX0_doRenaming 28 = .ok (.getfield 56, 3) := by decide +kernel
theorem dX0_doRenaming_31 : decode cX0_doRenaming 31 = .ok (.getfield 237, 3) := by decide +kernel
theorem dX0_doRenaming_34 : decode cX0_doRenaming 34 = .ok (.iconst 0, 1) := by decide +kernel
theorem dX0_doRenaming_35 : decode cX0_doRenaming 35 = .ok (.invokevirtual 127, 3) := by decide +kernel
theorem dX0_doRenaming_38 : decode cX0_doRenaming 38 = .ok (.checkcast 131, 3) := by decide +kernel
theorem dX0_doRenaming_41 : decode cX0_doRenaming 41 = .ok (.getfield 161, 3) := by decide +kernel
theorem dX0_doRenaming_44 : decode cX0_doRenaming 44 = .ok (.invokevirtual 393, 3) := by decide +kernel
theorem dX0_doRenaming_47 : decode cX0_doRenaming 47 = .ok (.ifCond .ne 4, 3) := by decide +kernel
theorem dX0_doRenaming_50 : decode cX0_doRenaming 50 = .ok (.return_, 1) := by decide +kernel
theorem dX0_doRenaming_51 : decode cX0_doRenaming 51 = .ok (.aload_n 0, 1) := by decide +kernel
theorem dX0_doRenaming_52 : decode cX0_doRenaming 52 = .ok (.getfield 56, 3) := by decide +kernel
theorem dX0_doRenaming_55 : decode cX0_doRenaming 55 = .ok (.getfield 237, 3) := by decide +kernel
theorem dX0_doRenaming_58 : decode cX0_doRenaming 58 = .ok (.iconst 0, 1) := by decide +kernel
theorem dX0_doRenaming_59 : decode cX0_doRenaming 59 = .ok (.invokevirtual 127, 3) := by decide +kernel
theorem dX0_doRenaming_62 : decode cX0_doRenaming 62 = .ok (.checkcast 131, 3) := by decide +kernel
theorem dX0_doRenaming_65 : decode cX0_doRenaming 65 = .ok (.astore_n 2, 1) := by decide +kernel
theorem dX0_doRenaming_66 : decode cX0_doRenaming 66 = .ok (.aload_n 0, 1) := by decide +kernel
theorem dX0_doRenaming_67 : decode cX0_doRenaming 67 = .ok (.getfield 56, 3) := by decide +kernel
theorem dX0_doRenaming_70 : decode cX0_doRenaming 70 = .ok (.getfield 237, 3) := by decide +kernel
theorem dX0_doRenaming_73 : decode cX0_doRenaming 73 = .ok (.iconst 0, 1) := by decide +kernel
theorem dX0_doRenaming_74 : decode cX0_doRenaming 74 = .ok (.invokevirtual 246, 3) := by decide +kernel
theorem dX0_doRenaming_77 : decode cX0_doRenaming 77 = .ok (.pop, 1) := by decide +kernel
theorem dX0_doRenaming_78 : decode cX0_doRenaming 78 = .ok (.aload_n 0, 1) := by decide +kernel
theorem dX0_doRenaming_79 : decode cX0_doRenaming 79 = .ok (.aload_n 2, 1) := by decide +kernel
theorem dX0_doRenaming_80 : decode cX0_doRenaming 80 = .ok (.invokevirtual 397, 3) := by decide +kernel
theorem dX0_doRenaming_83 : decode cX0_doRenaming 83 = .ok (.iinc 1 1, 3) := by decide +kernel
theorem dX0_doRenaming_86 : decode cX0_doRenaming 86 = .ok (.goto (-84), 3) := by decide +kernel
theorem dX0_doRenaming_89 : decode cX0_doRenaming 89 = .ok (.return_, 1) := by decide +kernel
theorem dX4_push_0 : decode cX4_push 0 = .ok (.aload_n 0, 1) := by decide +kernel
theorem dX4_push_1 : decode cX4_push 1 = .ok (.getfield 25, 3) := by decide +kernel
theorem dX4_push_4 : decode cX4_push 4 = .ok (.arraylength, 1) := by decide +kernel
theorem dX4_push_5 : decode cX4_push 5 = .ok (.iconst 4, 1) := by decide +kernel
theorem dX4_push_6 : decode cX4_push 6 = .ok (.if_icmp .ge 7, 3) := by decide +kernel
theorem dX4_push_9 : decode cX4_push 9 = .ok (.iconst 0, 1) := by decide +kernel
theorem dX4_push_10 : decode cX4_push 10 = .ok (.goto 4, 3) := by decide +kernel
theorem dX4_push_13 : decode cX4_push 13 = .ok (.iconst 1, 1) := by decide +kernel
theorem dX4_push_14 : decode cX4_push 14 = .ok (.istore_n 2, 1) := by decide +kernel
theorem dX4_push_15 : decode cX4_push 15 = .ok (.aload_n 0, 1) := by decide +kernel
theorem dX4_push_16 : decode cX4_push 16 = .ok (.getfield 25, 3) := by decide +kernel
theorem dX4_push_19 : decode cX4_push 19 = .ok (.arraylength, 1) := by decide +kernel
theorem dX4_push_20 : decode cX4_push 20 = .ok (.iload_n 2, 1) := by decide +kernel
theorem dX4_push_21 : decode cX4_push 21 = .ok (.isub, 1) := by decide +kernel
theorem dX4_push_22 : decode cX4_push 22 = .ok (.istore_n 3, 1) := by decide +kernel
theorem dX4_push_23 : decode cX4_push 23 = .ok (.iload_n 3, 1) := by decide +kernel
theorem dX4_push_24 : decode cX4_push 24 = .ok (.iconst 1, 1) := by decide +kernel
theorem dX4_push_25 : decode cX4_push 25 = .ok (.iadd, 1) := by decide +kernel
theorem dX4_push_26 : decode cX4_push 26 = .ok (.newarray .int, 2) := by decide +kernel
theorem dX4_push_28 : decode cX4_push 28 = .ok (.astore 4, 2) := by decide +kernel
theorem dX4_push_30 : decode cX4_push 30 = .ok (.iconst 0, 1) := by decide +kernel
theorem dX4_push_31 : decode cX4_push 31 = .ok (.istore 5, 2) := by decide +kernel
theorem dX4_push_33 : decode cX4_push 33 = .ok (.iload 5, 2) := by decide +kernel
theorem dX4_push_35 : decode cX4_push 35 = .ok (.iload_n 3, 1) := by decide +kernel
theorem dX4_push_36 : decode cX4_push 36 = .ok (.if_icmp .ge 23, 3) := by decide +kernel
theorem dX4_push_39 : decode cX4_push 39 = .ok (.aload 4, 2) := by decide +kernel
theorem dX4_push_41 : decode cX4_push 41 = .ok (.iload 5, 2) := by decide +kernel
theorem dX4_push_43 : decode cX4_push 43 = .ok (.aload_n 0, 1) := by decide +kernel
theorem dX4_push_44 : decode cX4_push 44 = .ok (.getfield 25, 3) := by decide +kernel
theorem dX4_push_47 : decode cX4_push 47 = .ok (.iload_n 2, 1) := by decide +kernel
theorem dX4_push_48 : decode cX4_push 48 = .ok (.iload 5, 2) := by decide +kernel
theorem dX4_push_50 : decode cX4_push 50 = .ok (.iadd, 1) := by decide +kernel
theorem dX4_push_51 : decode cX4_push 51 = .ok (.iaload, 1) := by decide +kernel
theorem dX4_push_52 : decode cX4_push 52 = .ok (.iastore, 1) := by decide +kernel
theorem dX4_push_53 : decode cX4_push 53 = .ok (.iinc 5 1, 3) := by decide +kernel
theorem dX4_push_56 : decode cX4_push 56 = .ok (.goto (-23), 3) := by decide +kernel
theorem dX4_push_59 : decode cX4_push 59 = .ok (.aload 4, 2) := by decide +kernel
theorem dX4_push_61 : decode cX4_push 61 = .ok (.iload_n 3, 1) := by decide +kernel
theorem dX4_push_62 : decode cX4_push 62 = .ok (.iload_n 1, 1) := by decide +kernel
theorem dX4_push_63 : decode cX4_push 63 = .ok (.iastore, 1) := by decide +kernel
theorem dX4_push_64 : decode cX4_push 64 = .ok (.aload_n 0, 1) := by decide +kernel
theorem dX4_push_65 : decode cX4_push 65 = .ok (.aload 4, 2) := by decide +kernel
theorem dX4_push_67 : decode cX4_push 67 = .ok (.putfield 25, 3) := by decide +kernel
theorem dX4_push_70 : decode cX4_push 70 = .ok (.return_, 1) := by decide +kernel
theorem dX4_pop_0 : decode cX4_pop 0 = .ok (.aload_n 0, 1) := by decide +kernel
theorem dX4_pop_1 : decode cX4_pop 1 = .ok (.getfield 25, 3) := by decide +kernel
theorem dX4_pop_4 : decode cX4_pop 4 = .ok (.arraylength, 1) := by decide +kernel
theorem dX4_pop_5 : decode cX4_pop 5 = .ok (.iconst 1, 1) := by decide +kernel
theorem dX4_pop_6 : decode cX4_pop 6 = .ok (.isub, 1) := by decide +kernel
theorem dX4_pop_7 : decode cX4_pop 7 = .ok (.istore_n 1, 1) := by decide +kernel
theorem dX4_pop_8 : decode cX4_pop 8 = .ok (.iload_n 1, 1) := by decide +kernel
theorem dX4_pop_9 : decode cX4_pop 9 = .ok (.ifCond .ge 5, 3) := by decide +kernel
theorem dX4_pop_12 : decode cX4_pop 12 = .ok (.iconst (-1), 1) := by decide +kernel
theorem dX4_pop_13 : decode cX4_pop 13 = .ok (.ireturn, 1) := by decide +kernel
theorem dX4_pop_14 : decode cX4_pop 14 = .ok (.aload_n 0, 1) := by decide +kernel
theorem dX4_pop_15 : decode cX4_pop 15 = .ok (.getfield 25, 3) := by decide +kernel
theorem dX4_pop_18 : decode cX4_pop 18 = .ok (.iload_n 1, 1) := by decide +kernel
theorem dX4_pop_19 : decode cX4_pop 19 = .ok (.iaload, 1) := by decide +kernel
theorem dX4_pop_20 : decode cX4_pop 20 = .ok (.istore_n 2, 1) := by decide +kernel
theorem dX4_pop_21 : decode cX4_pop 21 = .ok (.iload_n 1, 1) := by decide +kernel
theorem dX4_pop_22 : decode cX4_pop 22 = .ok (.newarray .int, 2) := by decide +kernel
theorem dX4_pop_24 : decode cX4_pop 24 = .ok (.astore_n 3, 1) := by decide +kernel
theorem dX4_pop_25 : decode cX4_pop 25 = .ok (.iconst 0, 1) := by decide +kernel
theorem dX4_pop_26 : decode cX4_pop 26 = .ok (.istore 4, 2) := by decide +kernel
theorem dX4_pop_28 : decode cX4_pop 28 = .ok (.iload 4, 2) := by decide +kernel
theorem dX4_pop_30 : decode cX4_pop 30 = .ok (.iload_n 1, 1) := by decide +kernel
theorem dX4_pop_31 : decode cX4_pop 31 = .ok (.if_icmp .ge 20, 3) := by decide +kernel
theorem dX4_pop_34 : decode cX4_pop 34 = .ok (.aload_n 3, 1) := by decide +kernel
theorem dX4_pop_35 : decode cX4_pop 35 = .ok (.iload 4, 2) := by decide +kernel
theorem dX4_pop_37 : decode cX4_pop 37 = .ok (.aload_n 0, 1) := by decide +kernel
theorem dX4_pop_38 : decode cX4_pop 38 = .ok (.getfield 25, 3) := by decide +kernel
theorem dX4_pop_41 : decode cX4_pop 41 = .ok (.iload 4, 2) := by decide +kernel
theorem dX4_pop_43 : decode cX4_pop 43 = .ok (.iaload, 1) := by decide +kernel
theorem dX4_pop_44 : decode cX4_pop 44 = .ok (.iastore, 1) := by decide +kernel
theorem dX4_pop_45 : decode cX4_pop 45 = .ok (.iinc 4 1, 3) := by decide +kernel
theorem dX4_pop_48 : decode cX4_pop 48 = .ok (.goto (-20), 3) := by decide +kernel
theorem dX4_pop_51 : decode cX4_pop 51 = .ok (.aload_n 0, 1) := by decide +kernel
theorem dX4_pop_52 : decode cX4_pop 52 = .ok (.aload_n 3, 1) := by decide +kernel
theorem dX4_pop_53 : decode cX4_pop 53 = .ok (.putfield 25, 3) := by decide +kernel
theorem dX4_pop_56 : decode cX4_pop 56 = .ok (.iload_n 2, 1) := by decide +kernel
theorem dX4_pop_57 : decode cX4_pop 57 = .ok (.ireturn, 1) := by decide +kernel
def mX6_delay : MD := (cX6_delay, RX6, yX6_delay, 1, (some .int), 0, 0)
theorem mf_X6_delay : MF mX6_delay 0 := MF.of 1074 62 (by decide +kernel) (by decide +kernel) (by decide +kernel) (by decide +kernel) (by decide +kernel) rfl
def mX0_canBegin : MD := (cX0_canBegin, RX0, yX0_canBegin, 3, (some .boolean), 5, 111)
theorem mf_X0_canBegin : MF mX0_canBegin 2 := MF.of 1031 40 (by decide +kernel) (by decide +kernel) (by decide +kernel) (by decide +kernel) (by decide +kernel) rfl
def mX0_doBeginnings : MD := (cX0_doBeginnings, RX0, yX0_doBeginnings, 4, none, 6, 133)
theorem mf_X0_doBeginnings : MF mX0_doBeginnings 0 := MF.of 1007 40 (by decide +kernel) (by decide +kernel) (by decide +kernel) (by decide +kernel) (by decide +kernel) rfl
def mX6_isForQueue : MD := (cX6_isForQueue, RX6, yX6_isForQueue, 1, (some .boolean), 1, 20)
theorem mf_X6_isForQueue : MF mX6_isForQueue 0 := MF.of 1086 62 (by decide +kernel) (by decide +kernel) (by decide +kernel) (by decide +kernel) (by decide +kernel) rfl
def mX0_countQueue : MD := (cX0_countQueue, RX0, yX0_countQueue, 3, (some .int), 3, 64)
theorem mf_X0_countQueue : MF mX0_countQueue 0 := MF.of 1090 40 (by decide +kernel) (by decide +kernel) (by decide +kernel) (by decide +kernel) (by decide +kernel) rfl
def mX6_standsAlone : MD := (cX6_standsAlone, RX6, yX6_standsAlone, 1, (some .boolean), 0, 0)
theorem mf_X6_standsAlone : MF mX6_standsAlone 0 := MF.of 1094 62 (by decide +kernel) (by decide +kernel) (by decide +kernel) (by decide +kernel) (by decide +kernel) rfl
def mX0_canRename : MD := (cX0_canRename, RX0, yX0_canRename, 2, (some .boolean), 4, 86)
theorem mf_X0_canRename : MF mX0_canRename 1 := MF.of 1082 40 (by decide +kernel) (by decide +kernel) (by decide +kernel) (by decide +kernel) (by decide +kernel) rfl
def mX5_takeFirst : MD := (cX5_takeFirst, RX5, yX5_takeFirst, 3, (some .int), 0, 0)
theorem mf_X5_takeFirst : MF mX5_takeFirst 0 := MF.of 1107 48 (by decide +kernel) (by decide +kernel) (by decide +kernel) (by decide +kernel) (by decide +kernel) rfl
def mX5_give : MD := (cX5_give, RX5, yX5_give, 4, none, 1, 22)
theorem mf_X5_give : MF mX5_give 1 := MF.of 1102 48 (by decide +kernel) (by decide +kernel) (by decide +kernel) (by decide +kernel) (by decide +kernel) rfl
def mX0_renameFirst : MD := (cX0_renameFirst, RX0, yX0_renameFirst, 3, none, 7, 191)
theorem mf_X0_renameFirst : MF mX0_renameFirst 1 := MF.of 1098 40 (by decide +kernel) (by decide +kernel) (by decide +kernel) (by decide +kernel) (by decide +kernel) rfl
def mX0_doRenaming : MD := (cX0_doRenaming, RX0, yX0_doRenaming, 3, none, 8, 213)
theorem mf_X0_doRenaming : MF mX0_doRenaming 0 := MF.of 1078 40 (by decide +kernel) (by decide +kernel) (by decide +kernel) (by decide +kernel) (by decide +kernel) rfl
def mX4_push : MD := (cX4_push, RX4, yX4_push, 6, none, 0, 0)
theorem mf_X4_push : MF mX4_push 1 := MF.of 1124 50 (by decide +kernel) (by decide +kernel) (by decide +kernel) (by decide +kernel) (by decide +kernel) rfl
def mX4_pop : MD := (cX4_pop, RX4, yX4_pop, 5, (some .int), 0, 0)
theorem mf_X4_pop : MF mX4_pop 0 := MF.of 1128 50 (by decide +kernel) (by decide +kernel) (by decide +kernel) (by decide +kernel) (by decide +kernel) rfl
theorem cv_X0_332 : CVs RX0 332 mX0_isDividing 1 := CVs.of 1008 1010 22 (by decide +kernel) (by decide +kernel) (by decide +kernel) _ rfl rfl
theorem cv_X0_335 : CVs RX0 335 mX6_unit 7 := CVs.of 1012 1013 1014 (by decide +kernel) (by decide +kernel) (by decide +kernel) _ rfl rfl
theorem cv_X0_338 : CVs RX0 338 mX0_hasOperands 1 := CVs.of 1016 1018 23 (by decide +kernel) (by decide +kernel) (by decide +kernel) _ rfl rfl
theorem cv_X0_342 : CVs RX0 342 mX0_canBegin 1 := CVs.of 1028 1030 24 (by decide +kernel) (by decide +kernel) (by decide +kernel) _ rfl rfl
theorem cv_X0_355 : CVs RX0 355 mX3_compute 4 := CVs.of 1032 1033 1034 (by decide +kernel) (by decide +kernel) (by decide +kernel) _ rfl rfl
theorem cv_X0_358 : CVs RX0 358 mX0_canBeginLoad 1 := CVs.of 1042 1044 25 (by decide +kernel) (by decide +kernel) (by decide +kernel) _ rfl rfl
theorem cv_X0_361 : CVs RX0 361 mX6_delay 7 := CVs.of 1071 1072 1073 (by decide +kernel) (by decide +kernel) (by decide +kernel) _ rfl rfl
theorem cv_X0_393 : CVs RX0 393 mX0_canRename 1 := CVs.of 1079 1081 29 (by decide +kernel) (by decide +kernel) (by decide +kernel) _ rfl rfl
theorem cv_X0_397 : CVs RX0 397 mX0_renameFirst 1 := CVs.of 1095 1097 30 (by decide +kernel) (by decide +kernel) (by decide +kernel) _ rfl rfl
theorem cv_X0_406 : CVs RX0 406 mX6_isForQueue 7 := CVs.of 1083 1084 1085 (by decide +kernel) (by decide +kernel) (by decide +kernel) _ rfl rfl
theorem cv_X0_409 : CVs RX0 409 mX0_countQueue 1 := CVs.of 1087 1088 1089 (by decide +kernel) (by decide +kernel) (by decide +kernel) _ rfl rfl
theorem cv_X0_415 : CVs RX0 415 mX6_standsAlone 7 := CVs.of 1091 1092 1093 (by decide +kernel) (by decide +kernel) (by decide +kernel) _ rfl rfl
theorem cv_X0_418 : CVs RX0 418 mX5_give 6 := CVs.of 1099 1100 1101 (by decide +kernel) (by decide +kernel) (by decide +kernel) _ rfl rfl
theorem cv_X0_421 : CVs RX0 421 mX6_trapBy 7 := CVs.of 1108 859 860 (by decide +kernel) (by decide +kernel) (by decide +kernel) _ rfl rfl
theorem cv_X0_424 : CVs RX0 424 mX6_resultBy 7 := CVs.of 1109 888 889 (by decide +kernel) (by decide +kernel) (by decide +kernel) _ rfl rfl
theorem cv_X5_62 : CVs RX5 62 mX6_hasResult 7 := CVs.of 1103 771 772 (by decide +kernel) (by decide +kernel) (by decide +kernel) _ rfl rfl
theorem cv_X5_66 : CVs RX5 66 mX5_takeFirst 6 := CVs.of 1104 1106 31 (by decide +kernel) (by decide +kernel) (by decide +kernel) _ rfl rfl
theorem fl_X0_400 : FL RX0 400 10 1 0 := FL.of _ rfl (by decide) 120 (by decide +kernel) (by decide)
theorem fl_X0_403 : FL RX0 403 6 5 0 := FL.of _ rfl (by decide) 247 (by decide +kernel) (by decide)
theorem fl_X0_412 : FL RX0 412 10 2 0 := FL.of _ rfl (by decide) 123 (by decide +kernel) (by decide)
theorem fl_X5_48 : FL RX5 48 7 3 0 := FL.of _ rfl (by decide) 610 (by decide +kernel) (by decide)
theorem fl_X5_53 : FL RX5 53 4 6 0 := FL.of _ rfl (by decide) 1162 (by decide +kernel) (by decide)
theorem fl_X5_56 : FL RX5 56 7 4 0 := FL.of _ rfl (by decide) 613 (by decide +kernel) (by decide)
theorem fl_X5_59 : FL RX5 59 4 7 0 := FL.of _ rfl (by decide) 1165 (by decide +kernel) (by decide)
theorem fn_4_6 : FN 4 6 false := fun q h => by cases h; rfl
theorem fn_4_7 : FN 4 7 false := fun q h => by cases h; rfl
theorem fn_4_8 : FN 4 8 false := fun q h => by cases h; rfl
theorem fn_4_9 : FN 4 9 false := fun q h => by cases h; rfl
theorem iv_bipush_19 : (Int8.ofInt (19)).toInt32 = 19 := by decide
def f_X6_delay (a0 : Nat) (μ : Mm) : Option Int32 :=
  ck (mK μ a0 = 107) <|
  if ¬ (mI μ a0 1) = 4 then
    if ¬ (mI μ a0 1) = 5 then
      some 1
    else
      some 6
  else
    some 3
set_option maxRecDepth 100000 in
theorem s_X6_delay {l : Launch} {G : Gt} (hG : Gok l G) (a0 : Nat) (μ : Mm) (r : Int32) (h : f_X6_delay a0 μ = some r) : ZX l G mX6_delay 0 [(0, .ref a0)] [] μ (.inl (some (.int r))) μ := by
  unfold f_X6_delay at h
  refine zx_aload_n dX6_delay_0 rfl (q := 0) rfl ?_
  obtain ⟨h1, h⟩ := ck_e h
  refine zx_getI hG fl_X6_15 h1 dX6_delay_1 ?_
  refine zx_iconst (v := 4) dX6_delay_4 iv_iconst_4 ?_
  by_cases c2 : ¬ (mI μ a0 1) = 4
  · have h := it_t c2 h
    refine zx_icmp_ne_t (tgt := 10) dX6_delay_5 (by decide) c2 ?_
    refine zx_aload_n dX6_delay_10 rfl (q := 0) rfl ?_
    refine zx_getI hG fl_X6_15 h1 dX6_delay_11 ?_
    refine zx_iconst (v := 5) dX6_delay_14 iv_iconst_5 ?_
    by_cases c3 : ¬ (mI μ a0 1) = 5
    · have h := it_t c3 h
      refine zx_icmp_ne_t (tgt := 23) dX6_delay_15 (by decide) c3 ?_
      refine zx_iconst (v := 1) dX6_delay_23 iv_iconst_1 ?_
      cases h
      exact zx_iret dX6_delay_24 rfl
    · have h := it_f c3 h
      refine zx_icmp_ne_f (tgt := 23) dX6_delay_15 (by decide) (Classical.not_not.mp c3) ?_
      refine zx_bipush (v := 6) dX6_delay_18 iv_bipush_6 ?_
      refine zx_goto (tgt := 24) dX6_delay_20 (by decide) ?_
      cases h
      exact zx_iret dX6_delay_24 rfl
  · have h := it_f c2 h
    refine zx_icmp_ne_f (tgt := 10) dX6_delay_5 (by decide) (Classical.not_not.mp c2) ?_
    refine zx_iconst (v := 3) dX6_delay_8 iv_iconst_3 ?_
    cases h
    exact zx_iret dX6_delay_9 rfl
def f_X0_canBegin_b52 (a0 : Nat) (a1 : Nat) (μ : Mm) : Option (Int32 × Mm) :=
  ck (mK μ a1 = 104) <|
  bd (mR μ a1 0) fun p28 =>
  ck (mK μ p28 = 107) <|
  bd (f_X6_delay p28 μ) fun y31 =>
  ck (mK μ a0 = 101) <|
  cl (f_X3_beginWith a1 y31 (mI μ a0 12) μ) fun _ μ36 =>
  some (1, μ36)
def f_X0_canBegin (a0 : Nat) (a1 : Nat) (x2 : Int32) (μ : Mm) : Option (Int32 × Mm) :=
  ck (mK μ a0 = 101) <|
  bd (mR μ a0 4) fun p2 =>
  ck (mK μ a1 = 104) <|
  ck (mK μ p2 = 106) <|
  bd (f_X5_valueOf p2 (mI μ a1 6) μ) fun y6 =>
  bd (mR μ a0 4) fun p8 =>
  ck (mK μ p8 = 106) <|
  bd (f_X5_valueOf p8 (mI μ a1 7) μ) fun y11 =>
  cl (f_X3_compute a1 y6 y11 μ) fun _ μ15 =>
  ck (mK μ15 a1 = 104) <|
  bd (mR μ15 a1 0) fun p17 =>
  ck (mK μ15 p17 = 107) <|
  if ¬ (mI μ15 p17 1) = 9 then
    f_X0_canBegin_b52 a0 a1 μ15
  else
    if ¬ (mI μ15 a1 12) = 0 then
      f_X0_canBegin_b52 a0 a1 μ15
    else
      ck (mK μ15 a0 = 101) <|
      cl (f_X0_canBeginLoad a0 a1 x2 μ15) fun y23 μ25 =>
      ck (zb y23 = y23) <|
      some (y23, μ25)
set_option maxRecDepth 100000 in
theorem s_X0_canBegin_b52 {l : Launch} {G : Gt} (hG : Gok l G) (a0 : Nat) (a1 : Nat) (μ : Mm) (r : Int32) (μ' : Mm) (h : f_X0_canBegin_b52 a0 a1 μ = some (r, μ')) : ZX l G mX0_canBegin 52 [(0, .ref a0), (1, .ref a1)] [] μ (.inl (some (.int r))) μ' := by
  unfold f_X0_canBegin_b52 at h
  refine zx_aload_n dX0_canBegin_52 rfl (q := 1) rfl ?_
  refine zx_aload_n dX0_canBegin_53 rfl (q := 1) rfl ?_
  obtain ⟨h27, h⟩ := ck_e h
  obtain ⟨p28, h29, h⟩ := bd_e h
  refine zx_getR hG fl_X0_161 h27 h29 dX0_canBegin_54 ?_
  obtain ⟨h30, h⟩ := ck_e h
  obtain ⟨y31, z32, h⟩ := bd_e h
  refine zx_callV (As := []) hG mf_X6_delay cv_X0_361 h30 ⟨by decide, by decide⟩ rfl rfl (Nat.le_of_ble_eq_true rfl) (s_X6_delay hG _ _ _ z32) (Nat.le_of_ble_eq_true rfl) dX0_canBegin_57 ?_
  refine zx_aload_n dX0_canBegin_60 rfl (q := 0) rfl ?_
  obtain ⟨h33, h⟩ := ck_e h
  refine zx_getI hG fl_X0_77 h33 dX0_canBegin_61 ?_
  obtain ⟨uu34, μ36, z35, h⟩ := cl_e h
  refine zx_callV (As := [.int y31, .int (mI μ a0 12)]) hG mf_X3_beginWith cv_X0_364 h27 ⟨by decide, by decide⟩ rfl rfl (Nat.le_of_ble_eq_true rfl) (s_X3_beginWith hG _ _ _ _ _ _ z35) (Nat.le_of_ble_eq_true rfl) dX0_canBegin_64 ?_
  refine zx_iconst (v := 1) dX0_canBegin_67 iv_iconst_1 ?_
  cases h
  exact zx_zretZ dX0_canBegin_68 rfl zb_1
set_option maxRecDepth 100000 in
theorem s_X0_canBegin {l : Launch} {G : Gt} (hG : Gok l G) (a0 : Nat) (a1 : Nat) (x2 : Int32) (μ : Mm) (r : Int32) (μ' : Mm) (h : f_X0_canBegin a0 a1 x2 μ = some (r, μ')) : ZX l G mX0_canBegin 0 [(0, .ref a0), (1, .ref a1), (2, .int x2)] [] μ (.inl (some (.int r))) μ' := by
  unfold f_X0_canBegin at h
  refine zx_aload_n dX0_canBegin_0 rfl (q := 1) rfl ?_
  refine zx_aload_n dX0_canBegin_1 rfl (q := 0) rfl ?_
  obtain ⟨h1, h⟩ := ck_e h
  obtain ⟨p2, h3, h⟩ := bd_e h
  refine zx_getR hG fl_X0_42 h1 h3 dX0_canBegin_2 ?_
  refine zx_aload_n dX0_canBegin_5 rfl (q := 1) rfl ?_
  obtain ⟨h4, h⟩ := ck_e h
  refine zx_getI hG fl_X0_349 h4 dX0_canBegin_6 ?_
  obtain ⟨h5, h⟩ := ck_e h
  obtain ⟨y6, z7, h⟩ := bd_e h
  refine zx_callV (As := [.int (mI μ a1 6)]) hG mf_X5_valueOf cv_X0_307 h5 ⟨by decide, by decide⟩ rfl rfl (Nat.le_of_ble_eq_true rfl) (s_X5_valueOf hG _ _ _ _ z7) (Nat.le_of_ble_eq_true rfl) dX0_canBegin_9 ?_
  refine zx_aload_n dX0_canBegin_12 rfl (q := 0) rfl ?_
  obtain ⟨p8, h9, h⟩ := bd_e h
  refine zx_getR hG fl_X0_42 h1 h9 dX0_canBegin_13 ?_
  refine zx_aload_n dX0_canBegin_16 rfl (q := 1) rfl ?_
  refine zx_getI hG fl_X0_285 h4 dX0_canBegin_17 ?_
  obtain ⟨h10, h⟩ := ck_e h
  obtain ⟨y11, z12, h⟩ := bd_e h
  refine zx_callV (As := [.int (mI μ a1 7)]) hG mf_X5_valueOf cv_X0_307 h10 ⟨by decide, by decide⟩ rfl rfl (Nat.le_of_ble_eq_true rfl) (s_X5_valueOf hG _ _ _ _ z12) (Nat.le_of_ble_eq_true rfl) dX0_canBegin_20 ?_
  obtain ⟨uu13, μ15, z14, h⟩ := cl_e h
  refine zx_callV (As := [.int y6, .int y11]) hG mf_X3_compute cv_X0_355 h4 ⟨by decide, by decide⟩ rfl rfl (Nat.le_of_ble_eq_true rfl) (s_X3_compute hG _ _ _ _ _ _ z14) (Nat.le_of_ble_eq_true rfl) dX0_canBegin_23 ?_
  refine zx_aload_n dX0_canBegin_26 rfl (q := 1) rfl ?_
  obtain ⟨h16, h⟩ := ck_e h
  obtain ⟨p17, h18, h⟩ := bd_e h
  refine zx_getR hG fl_X0_161 h16 h18 dX0_canBegin_27 ?_
  obtain ⟨h19, h⟩ := ck_e h
  refine zx_getI hG fl_X0_165 h19 dX0_canBegin_30 ?_
  refine zx_bipush (v := 9) dX0_canBegin_33 iv_bipush_9 ?_
  by_cases c20 : ¬ (mI μ15 p17 1) = 9
  · have h := it_t c20 h
    refine zx_icmp_ne_t (tgt := 52) dX0_canBegin_35 (by decide) c20 ?_
    refine zx_sub (L' := [(0, .ref a0), (1, .ref a1)]) [0, 1] rfl ?_
    exact s_X0_canBegin_b52 hG _ _ _ _ _ h
  · have h := it_f c20 h
    refine zx_icmp_ne_f (tgt := 52) dX0_canBegin_35 (by decide) (Classical.not_not.mp c20) ?_
    refine zx_aload_n dX0_canBegin_38 rfl (q := 1) rfl ?_
    refine zx_getI hG fl_X0_192 h16 dX0_canBegin_39 ?_
    by_cases c21 : ¬ (mI μ15 a1 12) = 0
    · have h := it_t c21 h
      refine zx_if_ne_t (tgt := 52) dX0_canBegin_42 (by decide) c21 ?_
      refine zx_sub (L' := [(0, .ref a0), (1, .ref a1)]) [0, 1] rfl ?_
      exact s_X0_canBegin_b52 hG _ _ _ _ _ h
    · have h := it_f c21 h
      refine zx_if_ne_f (tgt := 52) dX0_canBegin_42 (by decide) (Classical.not_not.mp c21) ?_
      refine zx_aload_n dX0_canBegin_45 rfl (q := 0) rfl ?_
      refine zx_aload_n dX0_canBegin_46 rfl (q := 1) rfl ?_
      refine zx_iload_n dX0_canBegin_47 rfl (q := 2) rfl ?_
      obtain ⟨h22, h⟩ := ck_e h
      obtain ⟨y23, μ25, z24, h⟩ := cl_e h
      refine zx_callV (As := [.ref a1, .int x2]) hG mf_X0_canBeginLoad cv_X0_358 h22 ⟨by decide, by decide⟩ rfl rfl (Nat.le_of_ble_eq_true rfl) (s_X0_canBeginLoad hG _ _ _ _ _ _ z24) (Nat.le_of_ble_eq_true rfl) dX0_canBegin_48 ?_
      obtain ⟨h26, h⟩ := ck_e h
      cases h
      exact zx_zretZ dX0_canBegin_51 rfl h26
def f_X0_doBeginnings_b126 (k41 : Nat → Int32 → Mm → Option (Unit × Mm)) (a0 : Nat) (x1 : Int32) (μ : Mm) : Option (Unit × Mm) :=
  k41 a0 (x1 + 1) μ
def f_X0_doBeginnings_b41 : Nat → Nat → Int32 → Mm → Option (Unit × Mm)
  | 0, _, _, _ => none
  | n + 1, a0, x1, μ =>
  ck (mK μ a0 = 101) <|
  bd (mR μ a0 7) fun p35 =>
  ck (mK μ p35 = 100) <|
  bd (f_Jx4a65c_size_8abf5 p35 μ) fun y38 =>
  if y38 ≤ x1 then
    some ((), μ)
  else
    bd (mR μ a0 7) fun p41 =>
    ck (mK μ p41 = 100) <|
    bd (f_Jx4a65c_get_915e3 p41 x1 μ) fun p44 =>
    ck (mK μ p44 = 104) <|
    bd (mR μ p44 0) fun p47 =>
    ck (mK μ p47 = 107) <|
    bd (f_X6_unit p47 μ) fun y50 =>
    if ¬ (zc (mI μ p44 5)) = 113 then
      f_X0_doBeginnings_b126 (f_X0_doBeginnings_b41 n) a0 x1 μ
    else
      if y50 < 0 then
        f_X0_doBeginnings_b126 (f_X0_doBeginnings_b41 n) a0 x1 μ
      else
        if 4 ≤ y50 then
          f_X0_doBeginnings_b126 (f_X0_doBeginnings_b41 n) a0 x1 μ
        else
          bd (mR μ a0 11) fun p55 =>
          ck (isA 1 (mK μ p55)) <|
          ck (inb y50 (mL μ p55)) <|
          if (mI μ p55 (Int32.toNatClampNeg y50)) ≤ 0 then
            f_X0_doBeginnings_b126 (f_X0_doBeginnings_b41 n) a0 x1 μ
          else
            bd (f_X0_hasOperands a0 p44 μ) fun y60 =>
            if y60 = 0 then
              f_X0_doBeginnings_b126 (f_X0_doBeginnings_b41 n) a0 x1 μ
            else
              cl (f_X0_canBegin a0 p44 x1 μ) fun y63 μ65 =>
              if y63 = 0 then
                f_X0_doBeginnings_b126 (f_X0_doBeginnings_b41 n) a0 x1 μ65
              else
                ck (mK μ65 a0 = 101) <|
                bd (mR μ65 a0 11) fun p68 =>
                ck (isA 1 (mK μ65 p68)) <|
                ck (inb y50 (mL μ65 p68)) <|
                ck (inb y50 (mL μ65 p68)) <|
                zl (sI μ65 p68 (Int32.toNatClampNeg y50) ((mI μ65 p68 (Int32.toNatClampNeg y50)) - 1)) fun μ73 =>
                f_X0_doBeginnings_b126 (f_X0_doBeginnings_b41 n) a0 x1 μ73
def f_X0_doBeginnings_b31 (a0 : Nat) (s0 : Int32) (s1 : Int32) (s2 : Nat) (μ : Mm) : Option (Unit × Mm) :=
  ck (isA 1 (mK μ s2)) <|
  ck (inb s1 (mL μ s2)) <|
  zl (sI μ s2 (Int32.toNatClampNeg s1) s0) fun μ23 =>
  ck (mK μ23 a0 = 101) <|
  bd (mR μ23 a0 11) fun p27 =>
  ck (isA 1 (mK μ23 p27)) <|
  ck (inb 3 (mL μ23 p27)) <|
  zl (sI μ23 p27 (Int32.toNatClampNeg 3) 1) fun μ31 =>
  f_X0_doBeginnings_b41 5000 a0 0 μ31
def f_X0_doBeginnings (a0 : Nat) (μ : Mm) : Option (Unit × Mm) :=
  ck (mK μ a0 = 101) <|
  bd (mR μ a0 11) fun p2 =>
  ck (isA 1 (mK μ p2)) <|
  ck (inb 0 (mL μ p2)) <|
  zl (sI μ p2 (Int32.toNatClampNeg 0) 2) fun μ6 =>
  bd (mR μ6 a0 11) fun p9 =>
  ck (isA 1 (mK μ6 p9)) <|
  ck (inb 1 (mL μ6 p9)) <|
  zl (sI μ6 p9 (Int32.toNatClampNeg 1) 1) fun μ13 =>
  bd (mR μ13 a0 11) fun p16 =>
  bd (f_X0_isDividing a0 μ13) fun y18 =>
  if y18 = 0 then
    f_X0_doBeginnings_b31 a0 1 2 p16 μ13
  else
    f_X0_doBeginnings_b31 a0 0 2 p16 μ13
set_option maxRecDepth 100000 in
theorem s_X0_doBeginnings_b126 {l : Launch} {G : Gt} (hG : Gok l G) {k41 : Nat → Int32 → Mm → Option (Unit × Mm)} (hk41 : ∀ (a0 : Nat) (x1 : Int32) (μ : Mm) (r : Unit) (μ' : Mm), k41 a0 x1 μ = some (r, μ') → ZX l G mX0_doBeginnings 41 [(0, .ref a0), (1, .int x1)] [] μ (.inl none) μ') (a0 : Nat) (x1 : Int32) (μ : Mm) (r : Unit) (μ' : Mm) (h : f_X0_doBeginnings_b126 k41 a0 x1 μ = some (r, μ')) : ZX l G mX0_doBeginnings 126 [(0, .ref a0), (1, .int x1)] [] μ (.inl none) μ' := by
  unfold f_X0_doBeginnings_b126 at h
  refine zx_iinc (q := 1) (v := x1 + 1) (L' := [(1, .int (x1 + 1)), (0, .ref a0)]) dX0_doBeginnings_126 rfl rfl (by decide) rfl ?_
  refine zx_goto (tgt := 41) dX0_doBeginnings_129 (by decide) ?_
  refine zx_sub (L' := [(0, .ref a0), (1, .int (x1 + 1))]) [1, 0] rfl ?_
  exact hk41 _ _ _ _ _ h
set_option maxRecDepth 100000 in
theorem s_X0_doBeginnings_b41 {l : Launch} {G : Gt} (hG : Gok l G) : ∀ (n : Nat) (a0 : Nat) (x1 : Int32) (μ : Mm) (r : Unit) (μ' : Mm), f_X0_doBeginnings_b41 n a0 x1 μ = some (r, μ') → ZX l G mX0_doBeginnings 41 [(0, .ref a0), (1, .int x1)] [] μ (.inl none) μ' := by
  intro n
  induction n with
  | zero =>
    intro a0 x1 μ r μ' h
    cases h
  | succ n ih =>
    intro a0 x1 μ r μ' h
    unfold f_X0_doBeginnings_b41 at h
    refine zx_iload_n dX0_doBeginnings_41 rfl (q := 1) rfl ?_
    refine zx_aload_n dX0_doBeginnings_42 rfl (q := 0) rfl ?_
    obtain ⟨h34, h⟩ := ck_e h
    obtain ⟨p35, h36, h⟩ := bd_e h
    refine zx_getR hG fl_X0_60 h34 h36 dX0_doBeginnings_43 ?_
    obtain ⟨h37, h⟩ := ck_e h
    obtain ⟨y38, z39, h⟩ := bd_e h
    refine zx_callV (As := []) hG mf_Jx4a65c_size_8abf5 cv_X0_123 h37 ⟨by decide, by decide⟩ rfl rfl (Nat.le_of_ble_eq_true rfl) (s_Jx4a65c_size_8abf5 hG _ _ _ z39) (Nat.le_of_ble_eq_true rfl) dX0_doBeginnings_46 ?_
    by_cases c40 : y38 ≤ x1
    · have h := it_t c40 h
      refine zx_icmp_ge_t (tgt := 132) dX0_doBeginnings_49 (by decide) c40 ?_
      cases h
      exact zx_vret dX0_doBeginnings_132 rfl
    · have h := it_f c40 h
      refine zx_icmp_ge_f (tgt := 132) dX0_doBeginnings_49 (by decide) c40 ?_
      refine zx_aload_n dX0_doBeginnings_52 rfl (q := 0) rfl ?_
      obtain ⟨p41, h42, h⟩ := bd_e h
      refine zx_getR hG fl_X0_60 h34 h42 dX0_doBeginnings_53 ?_
      refine zx_iload_n dX0_doBeginnings_56 rfl (q := 1) rfl ?_
      obtain ⟨h43, h⟩ := ck_e h
      obtain ⟨p44, z45, h⟩ := bd_e h
      refine zx_callV (As := [.int x1]) hG mf_Jx4a65c_get_915e3 cv_X0_127 h43 ⟨by decide, by decide⟩ rfl rfl (Nat.le_of_ble_eq_true rfl) (s_Jx4a65c_get_915e3 hG _ _ _ _ z45) (Nat.le_of_ble_eq_true rfl) dX0_doBeginnings_57 ?_
      obtain ⟨h46, h⟩ := ck_e h
      refine zx_castO hG kt_X0_131 h46 dX0_doBeginnings_60 ?_
      refine zx_astore_n (L' := [(2, .ref p44), (0, .ref a0), (1, .int x1)]) dX0_doBeginnings_63 rfl (by decide) rfl ?_
      refine zx_aload_n dX0_doBeginnings_64 rfl (q := 0) rfl ?_
      obtain ⟨p47, h48, h⟩ := bd_e h
      refine zx_getR hG fl_X0_161 h46 h48 dX0_doBeginnings_65 ?_
      obtain ⟨h49, h⟩ := ck_e h
      obtain ⟨y50, z51, h⟩ := bd_e h
      refine zx_callV (As := []) hG mf_X6_unit cv_X0_335 h49 ⟨by decide, by decide⟩ rfl rfl (Nat.le_of_ble_eq_true rfl) (s_X6_unit hG _ _ _ z51) (Nat.le_of_ble_eq_true rfl) dX0_doBeginnings_68 ?_
      refine zx_istore_n (L' := [(3, .int y50), (2, .ref p44), (0, .ref a0), (1, .int x1)]) dX0_doBeginnings_71 rfl (by decide) rfl ?_
      refine zx_aload_n dX0_doBeginnings_72 rfl (q := 1) rfl ?_
      refine zx_getC hG fl_X0_133 h46 dX0_doBeginnings_73 ?_
      refine zx_bipush (v := 113) dX0_doBeginnings_76 iv_bipush_113 ?_
      by_cases c52 : ¬ (zc (mI μ p44 5)) = 113
      · have h := it_t c52 h
        refine zx_icmp_ne_t (tgt := 126) dX0_doBeginnings_78 (by decide) c52 ?_
        refine zx_sub (L' := [(0, .ref a0), (1, .int x1)]) [2, 3] rfl ?_
        exact s_X0_doBeginnings_b126 hG ih _ _ _ _ _ h
      · have h := it_f c52 h
        refine zx_icmp_ne_f (tgt := 126) dX0_doBeginnings_78 (by decide) (Classical.not_not.mp c52) ?_
        refine zx_iload_n dX0_doBeginnings_81 rfl (q := 0) rfl ?_
        by_cases c53 : y50 < 0
        · have h := it_t c53 h
          refine zx_if_lt_t (tgt := 126) dX0_doBeginnings_82 (by decide) c53 ?_
          refine zx_sub (L' := [(0, .ref a0), (1, .int x1)]) [2, 3] rfl ?_
          exact s_X0_doBeginnings_b126 hG ih _ _ _ _ _ h
        · have h := it_f c53 h
          refine zx_if_lt_f (tgt := 126) dX0_doBeginnings_82 (by decide) c53 ?_
          refine zx_iload_n dX0_doBeginnings_85 rfl (q := 0) rfl ?_
          refine zx_iconst (v := 4) dX0_doBeginnings_86 iv_iconst_4 ?_
          by_cases c54 : 4 ≤ y50
          · have h := it_t c54 h
            refine zx_icmp_ge_t (tgt := 126) dX0_doBeginnings_87 (by decide) c54 ?_
            refine zx_sub (L' := [(0, .ref a0), (1, .int x1)]) [2, 3] rfl ?_
            exact s_X0_doBeginnings_b126 hG ih _ _ _ _ _ h
          · have h := it_f c54 h
            refine zx_icmp_ge_f (tgt := 126) dX0_doBeginnings_87 (by decide) c54 ?_
            refine zx_aload_n dX0_doBeginnings_90 rfl (q := 2) rfl ?_
            obtain ⟨p55, h56, h⟩ := bd_e h
            refine zx_getR hG fl_X0_74 h34 h56 dX0_doBeginnings_91 ?_
            refine zx_iload_n dX0_doBeginnings_94 rfl (q := 0) rfl ?_
            obtain ⟨h57, h⟩ := ck_e h
            obtain ⟨h58, h⟩ := ck_e h
            refine zx_iald hG rfl (h57).1 (h57).2 (inb_e h58) dX0_doBeginnings_95 ?_
            by_cases c59 : (mI μ p55 (Int32.toNatClampNeg y50)) ≤ 0
            · have h := it_t c59 h
              refine zx_if_le_t (tgt := 126) dX0_doBeginnings_96 (by decide) c59 ?_
              refine zx_sub (L' := [(0, .ref a0), (1, .int x1)]) [2, 3] rfl ?_
              exact s_X0_doBeginnings_b126 hG ih _ _ _ _ _ h
            · have h := it_f c59 h
              refine zx_if_le_f (tgt := 126) dX0_doBeginnings_96 (by decide) c59 ?_
              refine zx_aload_n dX0_doBeginnings_99 rfl (q := 2) rfl ?_
              refine zx_aload_n dX0_doBeginnings_100 rfl (q := 1) rfl ?_
              obtain ⟨y60, z61, h⟩ := bd_e h
              refine zx_callV (As := [.ref p44]) hG mf_X0_hasOperands cv_X0_338 h34 ⟨by decide, by decide⟩ rfl rfl (Nat.le_of_ble_eq_true rfl) (s_X0_hasOperands hG _ _ _ _ z61) (Nat.le_of_ble_eq_true rfl) dX0_doBeginnings_101 ?_
              by_cases c62 : y60 = 0
              · have h := it_t c62 h
                refine zx_if_eq_t (tgt := 126) dX0_doBeginnings_104 (by decide) c62 ?_
                refine zx_sub (L' := [(0, .ref a0), (1, .int x1)]) [2, 3] rfl ?_
                exact s_X0_doBeginnings_b126 hG ih _ _ _ _ _ h
              · have h := it_f c62 h
                refine zx_if_eq_f (tgt := 126) dX0_doBeginnings_104 (by decide) c62 ?_
                refine zx_aload_n dX0_doBeginnings_107 rfl (q := 2) rfl ?_
                refine zx_aload_n dX0_doBeginnings_108 rfl (q := 1) rfl ?_
                refine zx_iload_n dX0_doBeginnings_109 rfl (q := 3) rfl ?_
                obtain ⟨y63, μ65, z64, h⟩ := cl_e h
                refine zx_callV (As := [.ref p44, .int x1]) hG mf_X0_canBegin cv_X0_342 h34 ⟨by decide, by decide⟩ rfl rfl (Nat.le_of_ble_eq_true rfl) (s_X0_canBegin hG _ _ _ _ _ _ z64) (Nat.le_of_ble_eq_true rfl) dX0_doBeginnings_110 ?_
                by_cases c66 : y63 = 0
                · have h := it_t c66 h
                  refine zx_if_eq_t (tgt := 126) dX0_doBeginnings_113 (by decide) c66 ?_
                  refine zx_sub (L' := [(0, .ref a0), (1, .int x1)]) [2, 3] rfl ?_
                  exact s_X0_doBeginnings_b126 hG ih _ _ _ _ _ h
                · have h := it_f c66 h
                  refine zx_if_eq_f (tgt := 126) dX0_doBeginnings_113 (by decide) c66 ?_
                  refine zx_aload_n dX0_doBeginnings_116 rfl (q := 2) rfl ?_
                  obtain ⟨h67, h⟩ := ck_e h
                  obtain ⟨p68, h69, h⟩ := bd_e h
                  refine zx_getR hG fl_X0_74 h67 h69 dX0_doBeginnings_117 ?_
                  refine zx_iload_n dX0_doBeginnings_120 rfl (q := 0) rfl ?_
                  refine zx_dup2 dX0_doBeginnings_121 rfl rfl ?_
                  obtain ⟨h70, h⟩ := ck_e h
                  obtain ⟨h71, h⟩ := ck_e h
                  refine zx_iald hG rfl (h70).1 (h70).2 (inb_e h71) dX0_doBeginnings_122 ?_
                  refine zx_iconst (v := 1) dX0_doBeginnings_123 iv_iconst_1 ?_
                  refine zx_isub dX0_doBeginnings_124 ?_
                  obtain ⟨h72, h⟩ := ck_e h
                  refine zx_iast hG rfl (h70).1 (h70).2 (inb_e h72) dX0_doBeginnings_125 ?_
                  obtain ⟨μ73, e75, h⟩ := zlm_e h
                  refine zx_mem e75 ?_
                  have e74 : mK μ73 = mK μ65 := (congrArg mK e75).trans rfl
                  refine zx_sub (L' := [(0, .ref a0), (1, .int x1)]) [2, 3] rfl ?_
                  exact s_X0_doBeginnings_b126 hG ih _ _ _ _ _ h
set_option maxRecDepth 100000 in
theorem s_X0_doBeginnings_b31 {l : Launch} {G : Gt} (hG : Gok l G) (a0 : Nat) (s0 : Int32) (s1 : Int32) (s2 : Nat) (μ : Mm) (r : Unit) (μ' : Mm) (h : f_X0_doBeginnings_b31 a0 s0 s1 s2 μ = some (r, μ')) : ZX l G mX0_doBeginnings 31 [(0, .ref a0)] [.int s0, .int s1, .ref s2] μ (.inl none) μ' := by
  unfold f_X0_doBeginnings_b31 at h
  obtain ⟨h21, h⟩ := ck_e h
  obtain ⟨h22, h⟩ := ck_e h
  refine zx_iast hG rfl (h21).1 (h21).2 (inb_e h22) dX0_doBeginnings_31 ?_
  obtain ⟨μ23, e25, h⟩ := zlm_e h
  refine zx_mem e25 ?_
  have e24 : mK μ23 = mK μ := (congrArg mK e25).trans rfl
  refine zx_aload_n dX0_doBeginnings_32 rfl (q := 0) rfl ?_
  obtain ⟨h26, h⟩ := ck_e h
  obtain ⟨p27, h28, h⟩ := bd_e h
  refine zx_getR hG fl_X0_74 h26 h28 dX0_doBeginnings_33 ?_
  refine zx_iconst (v := 3) dX0_doBeginnings_36 iv_iconst_3 ?_
  refine zx_iconst (v := 1) dX0_doBeginnings_37 iv_iconst_1 ?_
  obtain ⟨h29, h⟩ := ck_e h
  obtain ⟨h30, h⟩ := ck_e h
  refine zx_iast hG rfl (h29).1 (h29).2 (inb_e h30) dX0_doBeginnings_38 ?_
  obtain ⟨μ31, e33, h⟩ := zlm_e h
  refine zx_mem e33 ?_
  have e32 : mK μ31 = mK μ23 := (congrArg mK e33).trans rfl
  refine zx_iconst (v := 0) dX0_doBeginnings_39 iv_iconst_0 ?_
  refine zx_istore_n (L' := [(1, .int 0), (0, .ref a0)]) dX0_doBeginnings_40 rfl (by decide) rfl ?_
  refine zx_sub (L' := [(0, .ref a0), (1, .int 0)]) [1, 0] rfl ?_
  exact s_X0_doBeginnings_b41 hG 5000 _ _ _ _ _ h
set_option maxRecDepth 100000 in
theorem s_X0_doBeginnings {l : Launch} {G : Gt} (hG : Gok l G) (a0 : Nat) (μ : Mm) (r : Unit) (μ' : Mm) (h : f_X0_doBeginnings a0 μ = some (r, μ')) : ZX l G mX0_doBeginnings 0 [(0, .ref a0)] [] μ (.inl none) μ' := by
  unfold f_X0_doBeginnings at h
  refine zx_aload_n dX0_doBeginnings_0 rfl (q := 0) rfl ?_
  obtain ⟨h1, h⟩ := ck_e h
  obtain ⟨p2, h3, h⟩ := bd_e h
  refine zx_getR hG fl_X0_74 h1 h3 dX0_doBeginnings_1 ?_
  refine zx_iconst (v := 0) dX0_doBeginnings_4 iv_iconst_0 ?_
  refine zx_iconst (v := 2) dX0_doBeginnings_5 iv_iconst_2 ?_
  obtain ⟨h4, h⟩ := ck_e h
  obtain ⟨h5, h⟩ := ck_e h
  refine zx_iast hG rfl (h4).1 (h4).2 (inb_e h5) dX0_doBeginnings_6 ?_
  obtain ⟨μ6, e8, h⟩ := zlm_e h
  refine zx_mem e8 ?_
  have e7 : mK μ6 = mK μ := (congrArg mK e8).trans rfl
  refine zx_aload_n dX0_doBeginnings_7 rfl (q := 0) rfl ?_
  obtain ⟨p9, h10, h⟩ := bd_e h
  refine zx_getR hG fl_X0_74 (kp_o (e7) h1) h10 dX0_doBeginnings_8 ?_
  refine zx_iconst (v := 1) dX0_doBeginnings_11 iv_iconst_1 ?_
  refine zx_iconst (v := 1) dX0_doBeginnings_12 iv_iconst_1 ?_
  obtain ⟨h11, h⟩ := ck_e h
  obtain ⟨h12, h⟩ := ck_e h
  refine zx_iast hG rfl (h11).1 (h11).2 (inb_e h12) dX0_doBeginnings_13 ?_
  obtain ⟨μ13, e15, h⟩ := zlm_e h
  refine zx_mem e15 ?_
  have e14 : mK μ13 = mK μ6 := (congrArg mK e15).trans rfl
  refine zx_aload_n dX0_doBeginnings_14 rfl (q := 0) rfl ?_
  obtain ⟨p16, h17, h⟩ := bd_e h
  refine zx_getR hG fl_X0_74 (kp_o (Eq.trans e14 e7) h1) h17 dX0_doBeginnings_15 ?_
  refine zx_iconst (v := 2) dX0_doBeginnings_18 iv_iconst_2 ?_
  refine zx_aload_n dX0_doBeginnings_19 rfl (q := 0) rfl ?_
  obtain ⟨y18, z19, h⟩ := bd_e h
  refine zx_callV (As := []) hG mf_X0_isDividing cv_X0_332 (kp_o (Eq.trans e14 e7) h1) ⟨by decide, by decide⟩ rfl rfl (Nat.le_of_ble_eq_true rfl) (s_X0_isDividing hG _ _ _ z19) (Nat.le_of_ble_eq_true rfl) dX0_doBeginnings_20 ?_
  by_cases c20 : y18 = 0
  · have h := it_t c20 h
    refine zx_if_eq_t (tgt := 30) dX0_doBeginnings_23 (by decide) c20 ?_
    refine zx_iconst (v := 1) dX0_doBeginnings_30 iv_iconst_1 ?_
    exact s_X0_doBeginnings_b31 hG _ _ _ _ _ _ _ h
  · have h := it_f c20 h
    refine zx_if_eq_f (tgt := 30) dX0_doBeginnings_23 (by decide) c20 ?_
    refine zx_iconst (v := 0) dX0_doBeginnings_26 iv_iconst_0 ?_
    refine zx_goto (tgt := 31) dX0_doBeginnings_27 (by decide) ?_
    exact s_X0_doBeginnings_b31 hG _ _ _ _ _ _ _ h
def f_X6_isForQueue_b24 (μ : Mm) : Option Int32 :=
  some 1
def f_X6_isForQueue_b17 (a0 : Nat) (μ : Mm) : Option Int32 :=
  ck (mK μ a0 = 107) <|
  bd (f_X6_isLeap a0 μ) fun y5 =>
  if y5 = 0 then
    some 0
  else
    f_X6_isForQueue_b24 μ
def f_X6_isForQueue (a0 : Nat) (μ : Mm) : Option Int32 :=
  ck (mK μ a0 = 107) <|
  if (mI μ a0 1) < 1 then
    f_X6_isForQueue_b17 a0 μ
  else
    if (mI μ a0 1) ≤ 13 then
      f_X6_isForQueue_b24 μ
    else
      f_X6_isForQueue_b17 a0 μ
set_option maxRecDepth 100000 in
theorem s_X6_isForQueue_b24 {l : Launch} {G : Gt} (hG : Gok l G) (μ : Mm) (r : Int32) (h : f_X6_isForQueue_b24 μ = some r) : ZX l G mX6_isForQueue 24 [] [] μ (.inl (some (.int r))) μ := by
  unfold f_X6_isForQueue_b24 at h
  refine zx_iconst (v := 1) dX6_isForQueue_24 iv_iconst_1 ?_
  refine zx_goto (tgt := 29) dX6_isForQueue_25 (by decide) ?_
  cases h
  exact zx_zretZ dX6_isForQueue_29 rfl zb_1
set_option maxRecDepth 100000 in
theorem s_X6_isForQueue_b17 {l : Launch} {G : Gt} (hG : Gok l G) (a0 : Nat) (μ : Mm) (r : Int32) (h : f_X6_isForQueue_b17 a0 μ = some r) : ZX l G mX6_isForQueue 17 [(0, .ref a0)] [] μ (.inl (some (.int r))) μ := by
  unfold f_X6_isForQueue_b17 at h
  refine zx_aload_n dX6_isForQueue_17 rfl (q := 0) rfl ?_
  obtain ⟨h4, h⟩ := ck_e h
  obtain ⟨y5, z6, h⟩ := bd_e h
  refine zx_callV (As := []) hG mf_X6_isLeap cv_X6_30 h4 ⟨by decide, by decide⟩ rfl rfl (Nat.le_of_ble_eq_true rfl) (s_X6_isLeap hG _ _ _ z6) (Nat.le_of_ble_eq_true rfl) dX6_isForQueue_18 ?_
  by_cases c7 : y5 = 0
  · have h := it_t c7 h
    refine zx_if_eq_t (tgt := 28) dX6_isForQueue_21 (by decide) c7 ?_
    refine zx_iconst (v := 0) dX6_isForQueue_28 iv_iconst_0 ?_
    cases h
    exact zx_zretZ dX6_isForQueue_29 rfl zb_0
  · have h := it_f c7 h
    refine zx_if_eq_f (tgt := 28) dX6_isForQueue_21 (by decide) c7 ?_
    refine zx_sub (L' := []) [] rfl ?_
    exact s_X6_isForQueue_b24 hG _ _ h
set_option maxRecDepth 100000 in
theorem s_X6_isForQueue {l : Launch} {G : Gt} (hG : Gok l G) (a0 : Nat) (μ : Mm) (r : Int32) (h : f_X6_isForQueue a0 μ = some r) : ZX l G mX6_isForQueue 0 [(0, .ref a0)] [] μ (.inl (some (.int r))) μ := by
  unfold f_X6_isForQueue at h
  refine zx_aload_n dX6_isForQueue_0 rfl (q := 0) rfl ?_
  obtain ⟨h1, h⟩ := ck_e h
  refine zx_getI hG fl_X6_15 h1 dX6_isForQueue_1 ?_
  refine zx_iconst (v := 1) dX6_isForQueue_4 iv_iconst_1 ?_
  by_cases c2 : (mI μ a0 1) < 1
  · have h := it_t c2 h
    refine zx_icmp_lt_t (tgt := 17) dX6_isForQueue_5 (by decide) c2 ?_
    exact s_X6_isForQueue_b17 hG _ _ _ h
  · have h := it_f c2 h
    refine zx_icmp_lt_f (tgt := 17) dX6_isForQueue_5 (by decide) c2 ?_
    refine zx_aload_n dX6_isForQueue_8 rfl (q := 0) rfl ?_
    refine zx_getI hG fl_X6_15 h1 dX6_isForQueue_9 ?_
    refine zx_bipush (v := 13) dX6_isForQueue_12 iv_bipush_13 ?_
    by_cases c3 : (mI μ a0 1) ≤ 13
    · have h := it_t c3 h
      refine zx_icmp_le_t (tgt := 24) dX6_isForQueue_14 (by decide) c3 ?_
      refine zx_sub (L' := []) [] rfl ?_
      exact s_X6_isForQueue_b24 hG _ _ h
    · have h := it_f c3 h
      refine zx_icmp_le_f (tgt := 24) dX6_isForQueue_14 (by decide) c3 ?_
      exact s_X6_isForQueue_b17 hG _ _ _ h
def f_X0_countQueue_b37 (k4 : Nat → Int32 → Int32 → Mm → Option Int32) (a0 : Nat) (x1 : Int32) (x2 : Int32) (μ : Mm) : Option Int32 :=
  k4 a0 x1 (x2 + 1) μ
def f_X0_countQueue_b4 : Nat → Nat → Int32 → Int32 → Mm → Option Int32
  | 0, _, _, _, _ => none
  | n + 1, a0, x1, x2, μ =>
  ck (mK μ a0 = 101) <|
  bd (mR μ a0 7) fun p2 =>
  ck (mK μ p2 = 100) <|
  bd (f_Jx4a65c_size_8abf5 p2 μ) fun y5 =>
  if y5 ≤ x2 then
    some x1
  else
    bd (mR μ a0 7) fun p8 =>
    ck (mK μ p8 = 100) <|
    bd (f_Jx4a65c_get_915e3 p8 x2 μ) fun p11 =>
    ck (mK μ p11 = 104) <|
    if ¬ (zc (mI μ p11 5)) = 113 then
      f_X0_countQueue_b37 (f_X0_countQueue_b4 n) a0 x1 x2 μ
    else
      f_X0_countQueue_b37 (f_X0_countQueue_b4 n) a0 (x1 + 1) x2 μ
def f_X0_countQueue (a0 : Nat) (μ : Mm) : Option Int32 :=
  f_X0_countQueue_b4 5000 a0 0 0 μ
set_option maxRecDepth 100000 in
theorem s_X0_countQueue_b37 {l : Launch} {G : Gt} (hG : Gok l G) {k4 : Nat → Int32 → Int32 → Mm → Option Int32} (hk4 : ∀ (a0 : Nat) (x1 : Int32) (x2 : Int32) (μ : Mm) (r : Int32), k4 a0 x1 x2 μ = some r → ZX l G mX0_countQueue 4 [(0, .ref a0), (1, .int x1), (2, .int x2)] [] μ (.inl (some (.int r))) μ) (a0 : Nat) (x1 : Int32) (x2 : Int32) (μ : Mm) (r : Int32) (h : f_X0_countQueue_b37 k4 a0 x1 x2 μ = some r) : ZX l G mX0_countQueue 37 [(0, .ref a0), (1, .int x1), (2, .int x2)] [] μ (.inl (some (.int r))) μ := by
  unfold f_X0_countQueue_b37 at h
  refine zx_iinc (q := 2) (v := x2 + 1) (L' := [(2, .int (x2 + 1)), (0, .ref a0), (1, .int x1)]) dX0_countQueue_37 rfl rfl (by decide) rfl ?_
  refine zx_goto (tgt := 4) dX0_countQueue_40 (by decide) ?_
  refine zx_sub (L' := [(0, .ref a0), (1, .int x1), (2, .int (x2 + 1))]) [1, 2, 0] rfl ?_
  exact hk4 _ _ _ _ _ h
set_option maxRecDepth 100000 in
theorem s_X0_countQueue_b4 {l : Launch} {G : Gt} (hG : Gok l G) : ∀ (n : Nat) (a0 : Nat) (x1 : Int32) (x2 : Int32) (μ : Mm) (r : Int32), f_X0_countQueue_b4 n a0 x1 x2 μ = some r → ZX l G mX0_countQueue 4 [(0, .ref a0), (1, .int x1), (2, .int x2)] [] μ (.inl (some (.int r))) μ := by
  intro n
  induction n with
  | zero =>
    intro a0 x1 x2 μ r h
    cases h
  | succ n ih =>
    intro a0 x1 x2 μ r h
    unfold f_X0_countQueue_b4 at h
    refine zx_iload_n dX0_countQueue_4 rfl (q := 2) rfl ?_
    refine zx_aload_n dX0_countQueue_5 rfl (q := 0) rfl ?_
    obtain ⟨h1, h⟩ := ck_e h
    obtain ⟨p2, h3, h⟩ := bd_e h
    refine zx_getR hG fl_X0_60 h1 h3 dX0_countQueue_6 ?_
    obtain ⟨h4, h⟩ := ck_e h
    obtain ⟨y5, z6, h⟩ := bd_e h
    refine zx_callV (As := []) hG mf_Jx4a65c_size_8abf5 cv_X0_123 h4 ⟨by decide, by decide⟩ rfl rfl (Nat.le_of_ble_eq_true rfl) (s_Jx4a65c_size_8abf5 hG _ _ _ z6) (Nat.le_of_ble_eq_true rfl) dX0_countQueue_9 ?_
    by_cases c7 : y5 ≤ x2
    · have h := it_t c7 h
      refine zx_icmp_ge_t (tgt := 43) dX0_countQueue_12 (by decide) c7 ?_
      refine zx_iload_n dX0_countQueue_43 rfl (q := 1) rfl ?_
      cases h
      exact zx_iret dX0_countQueue_44 rfl
    · have h := it_f c7 h
      refine zx_icmp_ge_f (tgt := 43) dX0_countQueue_12 (by decide) c7 ?_
      refine zx_aload_n dX0_countQueue_15 rfl (q := 0) rfl ?_
      obtain ⟨p8, h9, h⟩ := bd_e h
      refine zx_getR hG fl_X0_60 h1 h9 dX0_countQueue_16 ?_
      refine zx_iload_n dX0_countQueue_19 rfl (q := 2) rfl ?_
      obtain ⟨h10, h⟩ := ck_e h
      obtain ⟨p11, z12, h⟩ := bd_e h
      refine zx_callV (As := [.int x2]) hG mf_Jx4a65c_get_915e3 cv_X0_127 h10 ⟨by decide, by decide⟩ rfl rfl (Nat.le_of_ble_eq_true rfl) (s_Jx4a65c_get_915e3 hG _ _ _ _ z12) (Nat.le_of_ble_eq_true rfl) dX0_countQueue_20 ?_
      obtain ⟨h13, h⟩ := ck_e h
      refine zx_castO hG kt_X0_131 h13 dX0_countQueue_23 ?_
      refine zx_getC hG fl_X0_133 h13 dX0_countQueue_26 ?_
      refine zx_bipush (v := 113) dX0_countQueue_29 iv_bipush_113 ?_
      by_cases c14 : ¬ (zc (mI μ p11 5)) = 113
      · have h := it_t c14 h
        refine zx_icmp_ne_t (tgt := 37) dX0_countQueue_31 (by decide) c14 ?_
        exact s_X0_countQueue_b37 hG ih _ _ _ _ _ h
      · have h := it_f c14 h
        refine zx_icmp_ne_f (tgt := 37) dX0_countQueue_31 (by decide) (Classical.not_not.mp c14) ?_
        refine zx_iinc (q := 1) (v := x1 + 1) (L' := [(1, .int (x1 + 1)), (0, .ref a0), (2, .int x2)]) dX0_countQueue_34 rfl rfl (by decide) rfl ?_
        refine zx_sub (L' := [(0, .ref a0), (1, .int (x1 + 1)), (2, .int x2)]) [1, 0, 2] rfl ?_
        exact s_X0_countQueue_b37 hG ih _ _ _ _ _ h
set_option maxRecDepth 100000 in
theorem s_X0_countQueue {l : Launch} {G : Gt} (hG : Gok l G) (a0 : Nat) (μ : Mm) (r : Int32) (h : f_X0_countQueue a0 μ = some r) : ZX l G mX0_countQueue 0 [(0, .ref a0)] [] μ (.inl (some (.int r))) μ := by
  unfold f_X0_countQueue at h
  refine zx_iconst (v := 0) dX0_countQueue_0 iv_iconst_0 ?_
  refine zx_istore_n (L' := [(1, .int 0), (0, .ref a0)]) dX0_countQueue_1 rfl (by decide) rfl ?_
  refine zx_iconst (v := 0) dX0_countQueue_2 iv_iconst_0 ?_
  refine zx_istore_n (L' := [(2, .int 0), (1, .int 0), (0, .ref a0)]) dX0_countQueue_3 rfl (by decide) rfl ?_
  refine zx_sub (L' := [(0, .ref a0), (1, .int 0), (2, .int 0)]) [2, 1, 0] rfl ?_
  exact s_X0_countQueue_b4 hG 5000 _ _ _ _ _ h
def f_X6_standsAlone_b18 (μ : Mm) : Option Int32 :=
  some 1
def f_X6_standsAlone (a0 : Nat) (μ : Mm) : Option Int32 :=
  ck (mK μ a0 = 107) <|
  if (mI μ a0 1) = 19 then
    f_X6_standsAlone_b18 μ
  else
    if ¬ (mI μ a0 1) = 21 then
      some 0
    else
      f_X6_standsAlone_b18 μ
set_option maxRecDepth 100000 in
theorem s_X6_standsAlone_b18 {l : Launch} {G : Gt} (hG : Gok l G) (μ : Mm) (r : Int32) (h : f_X6_standsAlone_b18 μ = some r) : ZX l G mX6_standsAlone 18 [] [] μ (.inl (some (.int r))) μ := by
  unfold f_X6_standsAlone_b18 at h
  refine zx_iconst (v := 1) dX6_standsAlone_18 iv_iconst_1 ?_
  refine zx_goto (tgt := 23) dX6_standsAlone_19 (by decide) ?_
  cases h
  exact zx_zretZ dX6_standsAlone_23 rfl zb_1
set_option maxRecDepth 100000 in
theorem s_X6_standsAlone {l : Launch} {G : Gt} (hG : Gok l G) (a0 : Nat) (μ : Mm) (r : Int32) (h : f_X6_standsAlone a0 μ = some r) : ZX l G mX6_standsAlone 0 [(0, .ref a0)] [] μ (.inl (some (.int r))) μ := by
  unfold f_X6_standsAlone at h
  refine zx_aload_n dX6_standsAlone_0 rfl (q := 0) rfl ?_
  obtain ⟨h1, h⟩ := ck_e h
  refine zx_getI hG fl_X6_15 h1 dX6_standsAlone_1 ?_
  refine zx_bipush (v := 19) dX6_standsAlone_4 iv_bipush_19 ?_
  by_cases c2 : (mI μ a0 1) = 19
  · have h := it_t c2 h
    refine zx_icmp_eq_t (tgt := 18) dX6_standsAlone_6 (by decide) c2 ?_
    refine zx_sub (L' := []) [] rfl ?_
    exact s_X6_standsAlone_b18 hG _ _ h
  · have h := it_f c2 h
    refine zx_icmp_eq_f (tgt := 18) dX6_standsAlone_6 (by decide) c2 ?_
    refine zx_aload_n dX6_standsAlone_9 rfl (q := 0) rfl ?_
    refine zx_getI hG fl_X6_15 h1 dX6_standsAlone_10 ?_
    refine zx_bipush (v := 21) dX6_standsAlone_13 iv_bipush_21 ?_
    by_cases c3 : ¬ (mI μ a0 1) = 21
    · have h := it_t c3 h
      refine zx_icmp_ne_t (tgt := 22) dX6_standsAlone_15 (by decide) c3 ?_
      refine zx_iconst (v := 0) dX6_standsAlone_22 iv_iconst_0 ?_
      cases h
      exact zx_zretZ dX6_standsAlone_23 rfl zb_0
    · have h := it_f c3 h
      refine zx_icmp_ne_f (tgt := 22) dX6_standsAlone_15 (by decide) (Classical.not_not.mp c3) ?_
      refine zx_sub (L' := []) [] rfl ?_
      exact s_X6_standsAlone_b18 hG _ _ h
def f_X0_canRename_b98 (μ : Mm) : Option Int32 :=
  some 1
def f_X0_canRename_b61 (a0 : Nat) (a1 : Nat) (μ : Mm) : Option Int32 :=
  ck (mK μ a0 = 101) <|
  bd (mR μ a0 7) fun p31 =>
  ck (mK μ p31 = 100) <|
  bd (f_Jx4a65c_isEmpty_aae02 p31 μ) fun y34 =>
  if ¬ y34 = 0 then
    f_X0_canRename_b98 μ
  else
    ck (mK μ a1 = 107) <|
    bd (f_X6_standsAlone a1 μ) fun y38 =>
    if ¬ y38 = 0 then
      some 0
    else
      bd (mR μ a0 7) fun p41 =>
      ck (mK μ p41 = 100) <|
      bd (f_Jx4a65c_get_915e3 p41 0 μ) fun p44 =>
      ck (mK μ p44 = 104) <|
      bd (mR μ p44 0) fun p47 =>
      ck (mK μ p47 = 107) <|
      bd (f_X6_standsAlone p47 μ) fun y50 =>
      if ¬ y50 = 0 then
        some 0
      else
        f_X0_canRename_b98 μ
def f_X0_canRename_b38 (a0 : Nat) (a1 : Nat) (μ : Mm) : Option Int32 :=
  ck (mK μ a1 = 107) <|
  bd (f_X6_isForQueue a1 μ) fun y20 =>
  if y20 = 0 then
    f_X0_canRename_b61 a0 a1 μ
  else
    ck (mK μ a0 = 101) <|
    bd (f_X0_countQueue a0 μ) fun y24 =>
    bd (mR μ a0 1) fun p26 =>
    ck (mK μ p26 = 110) <|
    if y24 < (mI μ p26 2) then
      f_X0_canRename_b61 a0 a1 μ
    else
      some 0
def f_X0_canRename (a0 : Nat) (a1 : Nat) (μ : Mm) : Option Int32 :=
  ck (mK μ a0 = 101) <|
  bd (mR μ a0 7) fun p2 =>
  ck (mK μ p2 = 100) <|
  bd (f_Jx4a65c_size_8abf5 p2 μ) fun y5 =>
  bd (mR μ a0 1) fun p7 =>
  ck (mK μ p7 = 110) <|
  if y5 < (mI μ p7 1) then
    ck (mK μ a1 = 107) <|
    bd (f_X6_hasResult a1 μ) fun y12 =>
    if y12 = 0 then
      f_X0_canRename_b38 a0 a1 μ
    else
      bd (mR μ a0 4) fun p15 =>
      ck (mK μ p15 = 106) <|
      if ¬ (mI μ p15 5) = 0 then
        f_X0_canRename_b38 a0 a1 μ
      else
        some 0
  else
    some 0
set_option maxRecDepth 100000 in
theorem s_X0_canRename_b98 {l : Launch} {G : Gt} (hG : Gok l G) (μ : Mm) (r : Int32) (h : f_X0_canRename_b98 μ = some r) : ZX l G mX0_canRename 98 [] [] μ (.inl (some (.int r))) μ := by
  unfold f_X0_canRename_b98 at h
  refine zx_iconst (v := 1) dX0_canRename_98 iv_iconst_1 ?_
  refine zx_goto (tgt := 103) dX0_canRename_99 (by decide) ?_
  cases h
  exact zx_zretZ dX0_canRename_103 rfl zb_1
set_option maxRecDepth 100000 in
theorem s_X0_canRename_b61 {l : Launch} {G : Gt} (hG : Gok l G) (a0 : Nat) (a1 : Nat) (μ : Mm) (r : Int32) (h : f_X0_canRename_b61 a0 a1 μ = some r) : ZX l G mX0_canRename 61 [(0, .ref a0), (1, .ref a1)] [] μ (.inl (some (.int r))) μ := by
  unfold f_X0_canRename_b61 at h
  refine zx_aload_n dX0_canRename_61 rfl (q := 0) rfl ?_
  obtain ⟨h30, h⟩ := ck_e h
  obtain ⟨p31, h32, h⟩ := bd_e h
  refine zx_getR hG fl_X0_60 h30 h32 dX0_canRename_62 ?_
  obtain ⟨h33, h⟩ := ck_e h
  obtain ⟨y34, z35, h⟩ := bd_e h
  refine zx_callV (As := []) hG mf_Jx4a65c_isEmpty_aae02 cv_X0_282 h33 ⟨by decide, by decide⟩ rfl rfl (Nat.le_of_ble_eq_true rfl) (s_Jx4a65c_isEmpty_aae02 hG _ _ _ z35) (Nat.le_of_ble_eq_true rfl) dX0_canRename_65 ?_
  by_cases c36 : ¬ y34 = 0
  · have h := it_t c36 h
    refine zx_if_ne_t (tgt := 98) dX0_canRename_68 (by decide) c36 ?_
    refine zx_sub (L' := []) [] rfl ?_
    exact s_X0_canRename_b98 hG _ _ h
  · have h := it_f c36 h
    refine zx_if_ne_f (tgt := 98) dX0_canRename_68 (by decide) (Classical.not_not.mp c36) ?_
    refine zx_aload_n dX0_canRename_71 rfl (q := 1) rfl ?_
    obtain ⟨h37, h⟩ := ck_e h
    obtain ⟨y38, z39, h⟩ := bd_e h
    refine zx_callV (As := []) hG mf_X6_standsAlone cv_X0_415 h37 ⟨by decide, by decide⟩ rfl rfl (Nat.le_of_ble_eq_true rfl) (s_X6_standsAlone hG _ _ _ z39) (Nat.le_of_ble_eq_true rfl) dX0_canRename_72 ?_
    by_cases c40 : ¬ y38 = 0
    · have h := it_t c40 h
      refine zx_if_ne_t (tgt := 102) dX0_canRename_75 (by decide) c40 ?_
      refine zx_iconst (v := 0) dX0_canRename_102 iv_iconst_0 ?_
      cases h
      exact zx_zretZ dX0_canRename_103 rfl zb_0
    · have h := it_f c40 h
      refine zx_if_ne_f (tgt := 102) dX0_canRename_75 (by decide) (Classical.not_not.mp c40) ?_
      refine zx_aload_n dX0_canRename_78 rfl (q := 0) rfl ?_
      obtain ⟨p41, h42, h⟩ := bd_e h
      refine zx_getR hG fl_X0_60 h30 h42 dX0_canRename_79 ?_
      refine zx_iconst (v := 0) dX0_canRename_82 iv_iconst_0 ?_
      obtain ⟨h43, h⟩ := ck_e h
      obtain ⟨p44, z45, h⟩ := bd_e h
      refine zx_callV (As := [.int 0]) hG mf_Jx4a65c_get_915e3 cv_X0_127 h43 ⟨by decide, by decide⟩ rfl rfl (Nat.le_of_ble_eq_true rfl) (s_Jx4a65c_get_915e3 hG _ _ _ _ z45) (Nat.le_of_ble_eq_true rfl) dX0_canRename_83 ?_
      obtain ⟨h46, h⟩ := ck_e h
      refine zx_castO hG kt_X0_131 h46 dX0_canRename_86 ?_
      obtain ⟨p47, h48, h⟩ := bd_e h
      refine zx_getR hG fl_X0_161 h46 h48 dX0_canRename_89 ?_
      obtain ⟨h49, h⟩ := ck_e h
      obtain ⟨y50, z51, h⟩ := bd_e h
      refine zx_callV (As := []) hG mf_X6_standsAlone cv_X0_415 h49 ⟨by decide, by decide⟩ rfl rfl (Nat.le_of_ble_eq_true rfl) (s_X6_standsAlone hG _ _ _ z51) (Nat.le_of_ble_eq_true rfl) dX0_canRename_92 ?_
      by_cases c52 : ¬ y50 = 0
      · have h := it_t c52 h
        refine zx_if_ne_t (tgt := 102) dX0_canRename_95 (by decide) c52 ?_
        refine zx_iconst (v := 0) dX0_canRename_102 iv_iconst_0 ?_
        cases h
        exact zx_zretZ dX0_canRename_103 rfl zb_0
      · have h := it_f c52 h
        refine zx_if_ne_f (tgt := 102) dX0_canRename_95 (by decide) (Classical.not_not.mp c52) ?_
        refine zx_sub (L' := []) [] rfl ?_
        exact s_X0_canRename_b98 hG _ _ h
set_option maxRecDepth 100000 in
theorem s_X0_canRename_b38 {l : Launch} {G : Gt} (hG : Gok l G) (a0 : Nat) (a1 : Nat) (μ : Mm) (r : Int32) (h : f_X0_canRename_b38 a0 a1 μ = some r) : ZX l G mX0_canRename 38 [(0, .ref a0), (1, .ref a1)] [] μ (.inl (some (.int r))) μ := by
  unfold f_X0_canRename_b38 at h
  refine zx_aload_n dX0_canRename_38 rfl (q := 1) rfl ?_
  obtain ⟨h19, h⟩ := ck_e h
  obtain ⟨y20, z21, h⟩ := bd_e h
  refine zx_callV (As := []) hG mf_X6_isForQueue cv_X0_406 h19 ⟨by decide, by decide⟩ rfl rfl (Nat.le_of_ble_eq_true rfl) (s_X6_isForQueue hG _ _ _ z21) (Nat.le_of_ble_eq_true rfl) dX0_canRename_39 ?_
  by_cases c22 : y20 = 0
  · have h := it_t c22 h
    refine zx_if_eq_t (tgt := 61) dX0_canRename_42 (by decide) c22 ?_
    exact s_X0_canRename_b61 hG _ _ _ _ h
  · have h := it_f c22 h
    refine zx_if_eq_f (tgt := 61) dX0_canRename_42 (by decide) c22 ?_
    refine zx_aload_n dX0_canRename_45 rfl (q := 0) rfl ?_
    obtain ⟨h23, h⟩ := ck_e h
    obtain ⟨y24, z25, h⟩ := bd_e h
    refine zx_callV (As := []) hG mf_X0_countQueue cv_X0_409 h23 ⟨by decide, by decide⟩ rfl rfl (Nat.le_of_ble_eq_true rfl) (s_X0_countQueue hG _ _ _ z25) (Nat.le_of_ble_eq_true rfl) dX0_canRename_46 ?_
    refine zx_aload_n dX0_canRename_49 rfl (q := 0) rfl ?_
    obtain ⟨p26, h27, h⟩ := bd_e h
    refine zx_getR hG fl_X0_21 h23 h27 dX0_canRename_50 ?_
    obtain ⟨h28, h⟩ := ck_e h
    refine zx_getI hG fl_X0_412 h28 dX0_canRename_53 ?_
    by_cases c29 : y24 < (mI μ p26 2)
    · have h := it_t c29 h
      refine zx_icmp_lt_t (tgt := 61) dX0_canRename_56 (by decide) c29 ?_
      exact s_X0_canRename_b61 hG _ _ _ _ h
    · have h := it_f c29 h
      refine zx_icmp_lt_f (tgt := 61) dX0_canRename_56 (by decide) c29 ?_
      refine zx_iconst (v := 0) dX0_canRename_59 iv_iconst_0 ?_
      cases h
      exact zx_zretZ dX0_canRename_60 rfl zb_0
set_option maxRecDepth 100000 in
theorem s_X0_canRename {l : Launch} {G : Gt} (hG : Gok l G) (a0 : Nat) (a1 : Nat) (μ : Mm) (r : Int32) (h : f_X0_canRename a0 a1 μ = some r) : ZX l G mX0_canRename 0 [(0, .ref a0), (1, .ref a1)] [] μ (.inl (some (.int r))) μ := by
  unfold f_X0_canRename at h
  refine zx_aload_n dX0_canRename_0 rfl (q := 0) rfl ?_
  obtain ⟨h1, h⟩ := ck_e h
  obtain ⟨p2, h3, h⟩ := bd_e h
  refine zx_getR hG fl_X0_60 h1 h3 dX0_canRename_1 ?_
  obtain ⟨h4, h⟩ := ck_e h
  obtain ⟨y5, z6, h⟩ := bd_e h
  refine zx_callV (As := []) hG mf_Jx4a65c_size_8abf5 cv_X0_123 h4 ⟨by decide, by decide⟩ rfl rfl (Nat.le_of_ble_eq_true rfl) (s_Jx4a65c_size_8abf5 hG _ _ _ z6) (Nat.le_of_ble_eq_true rfl) dX0_canRename_4 ?_
  refine zx_aload_n dX0_canRename_7 rfl (q := 0) rfl ?_
  obtain ⟨p7, h8, h⟩ := bd_e h
  refine zx_getR hG fl_X0_21 h1 h8 dX0_canRename_8 ?_
  obtain ⟨h9, h⟩ := ck_e h
  refine zx_getI hG fl_X0_400 h9 dX0_canRename_11 ?_
  by_cases c10 : y5 < (mI μ p7 1)
  · have h := it_t c10 h
    refine zx_icmp_lt_t (tgt := 19) dX0_canRename_14 (by decide) c10 ?_
    refine zx_aload_n dX0_canRename_19 rfl (q := 1) rfl ?_
    obtain ⟨h11, h⟩ := ck_e h
    obtain ⟨y12, z13, h⟩ := bd_e h
    refine zx_callV (As := []) hG mf_X6_hasResult cv_X0_179 h11 ⟨by decide, by decide⟩ rfl rfl (Nat.le_of_ble_eq_true rfl) (s_X6_hasResult hG _ _ _ z13) (Nat.le_of_ble_eq_true rfl) dX0_canRename_20 ?_
    by_cases c14 : y12 = 0
    · have h := it_t c14 h
      refine zx_if_eq_t (tgt := 38) dX0_canRename_23 (by decide) c14 ?_
      exact s_X0_canRename_b38 hG _ _ _ _ h
    · have h := it_f c14 h
      refine zx_if_eq_f (tgt := 38) dX0_canRename_23 (by decide) c14 ?_
      refine zx_aload_n dX0_canRename_26 rfl (q := 0) rfl ?_
      obtain ⟨p15, h16, h⟩ := bd_e h
      refine zx_getR hG fl_X0_42 h1 h16 dX0_canRename_27 ?_
      obtain ⟨h17, h⟩ := ck_e h
      refine zx_getI hG fl_X0_403 h17 dX0_canRename_30 ?_
      by_cases c18 : ¬ (mI μ p15 5) = 0
      · have h := it_t c18 h
        refine zx_if_ne_t (tgt := 38) dX0_canRename_33 (by decide) c18 ?_
        exact s_X0_canRename_b38 hG _ _ _ _ h
      · have h := it_f c18 h
        refine zx_if_ne_f (tgt := 38) dX0_canRename_33 (by decide) (Classical.not_not.mp c18) ?_
        refine zx_iconst (v := 0) dX0_canRename_36 iv_iconst_0 ?_
        cases h
        exact zx_zretZ dX0_canRename_37 rfl zb_0
  · have h := it_f c10 h
    refine zx_icmp_lt_f (tgt := 19) dX0_canRename_14 (by decide) c10 ?_
    refine zx_iconst (v := 0) dX0_canRename_17 iv_iconst_0 ?_
    cases h
    exact zx_zretZ dX0_canRename_18 rfl zb_0
def f_X5_takeFirst_b19 : Nat → Nat → Int32 → Int32 → Mm → Option (Int32 × Mm)
  | 0, _, _, _, _ => none
  | n + 1, a0, x1, x2, μ =>
  ck (mK μ a0 = 106) <|
  if (mI μ a0 5) ≤ x2 then
    some (x1, μ)
  else
    bd (mR μ a0 4) fun p11 =>
    bd (mR μ a0 4) fun p13 =>
    ck (isA 1 (mK μ p13)) <|
    ck (inb (x2 + 1) (mL μ p13)) <|
    ck (isA 1 (mK μ p11)) <|
    ck (inb x2 (mL μ p11)) <|
    zl (sI μ p11 (Int32.toNatClampNeg x2) (mI μ p13 (Int32.toNatClampNeg (x2 + 1)))) fun μ19 =>
    f_X5_takeFirst_b19 n a0 x1 (x2 + 1) μ19
def f_X5_takeFirst (a0 : Nat) (μ : Mm) : Option (Int32 × Mm) :=
  ck (mK μ a0 = 106) <|
  bd (mR μ a0 4) fun p2 =>
  ck (isA 1 (mK μ p2)) <|
  ck (inb 0 (mL μ p2)) <|
  zl (sI μ a0 5 ((mI μ a0 5) - 1)) fun μ6 =>
  f_X5_takeFirst_b19 5000 a0 (mI μ p2 (Int32.toNatClampNeg 0)) 0 μ6
set_option maxRecDepth 100000 in
theorem s_X5_takeFirst_b19 {l : Launch} {G : Gt} (hG : Gok l G) : ∀ (n : Nat) (a0 : Nat) (x1 : Int32) (x2 : Int32) (μ : Mm) (r : Int32) (μ' : Mm), f_X5_takeFirst_b19 n a0 x1 x2 μ = some (r, μ') → ZX l G mX5_takeFirst 19 [(0, .ref a0), (1, .int x1), (2, .int x2)] [] μ (.inl (some (.int r))) μ' := by
  intro n
  induction n with
  | zero =>
    intro a0 x1 x2 μ r μ' h
    cases h
  | succ n ih =>
    intro a0 x1 x2 μ r μ' h
    unfold f_X5_takeFirst_b19 at h
    refine zx_iload_n dX5_takeFirst_19 rfl (q := 2) rfl ?_
    refine zx_aload_n dX5_takeFirst_20 rfl (q := 0) rfl ?_
    obtain ⟨h9, h⟩ := ck_e h
    refine zx_getI hG fl_X5_28 h9 dX5_takeFirst_21 ?_
    by_cases c10 : (mI μ a0 5) ≤ x2
    · have h := it_t c10 h
      refine zx_icmp_ge_t (tgt := 47) dX5_takeFirst_24 (by decide) c10 ?_
      refine zx_iload_n dX5_takeFirst_47 rfl (q := 1) rfl ?_
      cases h
      exact zx_iret dX5_takeFirst_48 rfl
    · have h := it_f c10 h
      refine zx_icmp_ge_f (tgt := 47) dX5_takeFirst_24 (by decide) c10 ?_
      refine zx_aload_n dX5_takeFirst_27 rfl (q := 0) rfl ?_
      obtain ⟨p11, h12, h⟩ := bd_e h
      refine zx_getR hG fl_X5_25 h9 h12 dX5_takeFirst_28 ?_
      refine zx_iload_n dX5_takeFirst_31 rfl (q := 2) rfl ?_
      refine zx_aload_n dX5_takeFirst_32 rfl (q := 0) rfl ?_
      obtain ⟨p13, h14, h⟩ := bd_e h
      refine zx_getR hG fl_X5_25 h9 h14 dX5_takeFirst_33 ?_
      refine zx_iload_n dX5_takeFirst_36 rfl (q := 2) rfl ?_
      refine zx_iconst (v := 1) dX5_takeFirst_37 iv_iconst_1 ?_
      refine zx_iadd dX5_takeFirst_38 ?_
      obtain ⟨h15, h⟩ := ck_e h
      obtain ⟨h16, h⟩ := ck_e h
      refine zx_iald hG rfl (h15).1 (h15).2 (inb_e h16) dX5_takeFirst_39 ?_
      obtain ⟨h17, h⟩ := ck_e h
      obtain ⟨h18, h⟩ := ck_e h
      refine zx_iast hG rfl (h17).1 (h17).2 (inb_e h18) dX5_takeFirst_40 ?_
      obtain ⟨μ19, e21, h⟩ := zlm_e h
      refine zx_mem e21 ?_
      have e20 : mK μ19 = mK μ := (congrArg mK e21).trans rfl
      refine zx_iinc (q := 2) (v := x2 + 1) (L' := [(2, .int (x2 + 1)), (0, .ref a0), (1, .int x1)]) dX5_takeFirst_41 rfl rfl (by decide) rfl ?_
      refine zx_goto (tgt := 19) dX5_takeFirst_44 (by decide) ?_
      refine zx_sub (L' := [(0, .ref a0), (1, .int x1), (2, .int (x2 + 1))]) [1, 2, 0] rfl ?_
      exact ih _ _ _ _ _ _ h
set_option maxRecDepth 100000 in
theorem s_X5_takeFirst {l : Launch} {G : Gt} (hG : Gok l G) (a0 : Nat) (μ : Mm) (r : Int32) (μ' : Mm) (h : f_X5_takeFirst a0 μ = some (r, μ')) : ZX l G mX5_takeFirst 0 [(0, .ref a0)] [] μ (.inl (some (.int r))) μ' := by
  unfold f_X5_takeFirst at h
  refine zx_aload_n dX5_takeFirst_0 rfl (q := 0) rfl ?_
  obtain ⟨h1, h⟩ := ck_e h
  obtain ⟨p2, h3, h⟩ := bd_e h
  refine zx_getR hG fl_X5_25 h1 h3 dX5_takeFirst_1 ?_
  refine zx_iconst (v := 0) dX5_takeFirst_4 iv_iconst_0 ?_
  obtain ⟨h4, h⟩ := ck_e h
  obtain ⟨h5, h⟩ := ck_e h
  refine zx_iald hG rfl (h4).1 (h4).2 (inb_e h5) dX5_takeFirst_5 ?_
  refine zx_istore_n (L' := [(1, .int (mI μ p2 (Int32.toNatClampNeg 0))), (0, .ref a0)]) dX5_takeFirst_6 rfl (by decide) rfl ?_
  refine zx_aload_n dX5_takeFirst_7 rfl (q := 1) rfl ?_
  refine zx_dup dX5_takeFirst_8 rfl ?_
  refine zx_getI hG fl_X5_28 h1 dX5_takeFirst_9 ?_
  refine zx_iconst (v := 1) dX5_takeFirst_12 iv_iconst_1 ?_
  refine zx_isub dX5_takeFirst_13 ?_
  refine zx_putI hG fl_X5_28 fn_6_5 h1 dX5_takeFirst_14 ?_
  obtain ⟨μ6, e8, h⟩ := zlm_e h
  refine zx_mem e8 ?_
  have e7 : mK μ6 = mK μ := (congrArg mK e8).trans rfl
  refine zx_iconst (v := 0) dX5_takeFirst_17 iv_iconst_0 ?_
  refine zx_istore_n (L' := [(2, .int 0), (1, .int (mI μ p2 (Int32.toNatClampNeg 0))), (0, .ref a0)]) dX5_takeFirst_18 rfl (by decide) rfl ?_
  refine zx_sub (L' := [(0, .ref a0), (1, .int (mI μ p2 (Int32.toNatClampNeg 0))), (2, .int 0)]) [2, 1, 0] rfl ?_
  exact s_X5_takeFirst_b19 hG 5000 _ _ _ _ _ _ h
def f_X5_give (a0 : Nat) (a1 : Nat) (μ : Mm) : Option (Unit × Mm) :=
  ck (mK μ a1 = 104) <|
  bd (mR μ a1 0) fun p2 =>
  ck (mK μ a0 = 106) <|
  bd (mR μ a0 0) fun p5 =>
  ck (mK μ p2 = 107) <|
  ck (isA 1 (mK μ p5)) <|
  ck (inb (mI μ p2 3) (mL μ p5)) <|
  zl (sI μ a1 6 (mI μ p5 (Int32.toNatClampNeg (mI μ p2 3)))) fun μ10 =>
  bd (mR μ10 a0 0) fun p13 =>
  ck (isA 1 (mK μ10 p13)) <|
  ck (inb (mI μ10 p2 4) (mL μ10 p13)) <|
  zl (sI μ10 a1 7 (mI μ10 p13 (Int32.toNatClampNeg (mI μ10 p2 4)))) fun μ17 =>
  bd (f_X6_hasResult p2 μ17) fun y20 =>
  if y20 = 0 then
    some ((), μ17)
  else
    if (mI μ17 a0 5) ≤ 0 then
      some ((), μ17)
    else
      cl (f_X5_takeFirst a0 μ17) fun y24 μ26 =>
      ck (mK μ26 a0 = 106) <|
      bd (mR μ26 a0 0) fun p28 =>
      ck (mK μ26 p2 = 107) <|
      ck (isA 1 (mK μ26 p28)) <|
      ck (inb (mI μ26 p2 2) (mL μ26 p28)) <|
      ck (mK μ26 a1 = 104) <|
      zl (sI μ26 a1 9 (mI μ26 p28 (Int32.toNatClampNeg (mI μ26 p2 2)))) fun μ34 =>
      zl (sI μ34 a1 8 y24) fun μ37 =>
      bd (mR μ37 a0 0) fun p40 =>
      ck (isA 1 (mK μ37 p40)) <|
      ck (inb (mI μ37 p2 2) (mL μ37 p40)) <|
      zl (sI μ37 p40 (Int32.toNatClampNeg (mI μ37 p2 2)) y24) fun μ44 =>
      if y24 < 0 then
        some ((), μ44)
      else
        if 24 ≤ y24 then
          some ((), μ44)
        else
          bd (mR μ44 a0 3) fun p49 =>
          ck (isA 2 (mK μ44 p49)) <|
          ck (inb y24 (mL μ44 p49)) <|
          zl (sI μ44 p49 (Int32.toNatClampNeg y24) 0) fun μ53 =>
          some ((), μ53)
set_option maxRecDepth 100000 in
theorem s_X5_give {l : Launch} {G : Gt} (hG : Gok l G) (a0 : Nat) (a1 : Nat) (μ : Mm) (r : Unit) (μ' : Mm) (h : f_X5_give a0 a1 μ = some (r, μ')) : ZX l G mX5_give 0 [(0, .ref a0), (1, .ref a1)] [] μ (.inl none) μ' := by
  unfold f_X5_give at h
  refine zx_aload_n dX5_give_0 rfl (q := 1) rfl ?_
  obtain ⟨h1, h⟩ := ck_e h
  obtain ⟨p2, h3, h⟩ := bd_e h
  refine zx_getR hG fl_X5_42 h1 h3 dX5_give_1 ?_
  refine zx_astore_n (L' := [(2, .ref p2), (0, .ref a0), (1, .ref a1)]) dX5_give_4 rfl (by decide) rfl ?_
  refine zx_aload_n dX5_give_5 rfl (q := 2) rfl ?_
  refine zx_aload_n dX5_give_6 rfl (q := 1) rfl ?_
  obtain ⟨h4, h⟩ := ck_e h
  obtain ⟨p5, h6, h⟩ := bd_e h
  refine zx_getR hG fl_X5_9 h4 h6 dX5_give_7 ?_
  refine zx_aload_n dX5_give_10 rfl (q := 0) rfl ?_
  obtain ⟨h7, h⟩ := ck_e h
  refine zx_getI hG fl_X5_48 h7 dX5_give_11 ?_
  obtain ⟨h8, h⟩ := ck_e h
  obtain ⟨h9, h⟩ := ck_e h
  refine zx_iald hG rfl (h8).1 (h8).2 (inb_e h9) dX5_give_14 ?_
  refine zx_putI hG fl_X5_53 fn_4_6 h1 dX5_give_15 ?_
  obtain ⟨μ10, e12, h⟩ := zlm_e h
  refine zx_mem e12 ?_
  have e11 : mK μ10 = mK μ := (congrArg mK e12).trans rfl
  refine zx_aload_n dX5_give_18 rfl (q := 2) rfl ?_
  refine zx_aload_n dX5_give_19 rfl (q := 1) rfl ?_
  obtain ⟨p13, h14, h⟩ := bd_e h
  refine zx_getR hG fl_X5_9 (kp_o (e11) h4) h14 dX5_give_20 ?_
  refine zx_aload_n dX5_give_23 rfl (q := 0) rfl ?_
  refine zx_getI hG fl_X5_56 (kp_o (e11) h7) dX5_give_24 ?_
  obtain ⟨h15, h⟩ := ck_e h
  obtain ⟨h16, h⟩ := ck_e h
  refine zx_iald hG rfl (h15).1 (h15).2 (inb_e h16) dX5_give_27 ?_
  refine zx_putI hG fl_X5_59 fn_4_7 (kp_o (e11) h1) dX5_give_28 ?_
  obtain ⟨μ17, e19, h⟩ := zlm_e h
  refine zx_mem e19 ?_
  have e18 : mK μ17 = mK μ10 := (congrArg mK e19).trans rfl
  refine zx_aload_n dX5_give_31 rfl (q := 0) rfl ?_
  obtain ⟨y20, z21, h⟩ := bd_e h
  refine zx_callV (As := []) hG mf_X6_hasResult cv_X5_62 (kp_o (Eq.trans e18 e11) h7) ⟨by decide, by decide⟩ rfl rfl (Nat.le_of_ble_eq_true rfl) (s_X6_hasResult hG _ _ _ z21) (Nat.le_of_ble_eq_true rfl) dX5_give_32 ?_
  by_cases c22 : y20 = 0
  · have h := it_t c22 h
    refine zx_if_eq_t (tgt := 95) dX5_give_35 (by decide) c22 ?_
    cases h
    exact zx_vret dX5_give_95 rfl
  · have h := it_f c22 h
    refine zx_if_eq_f (tgt := 95) dX5_give_35 (by decide) c22 ?_
    refine zx_aload_n dX5_give_38 rfl (q := 1) rfl ?_
    refine zx_getI hG fl_X5_28 (kp_o (Eq.trans e18 e11) h4) dX5_give_39 ?_
    by_cases c23 : (mI μ17 a0 5) ≤ 0
    · have h := it_t c23 h
      refine zx_if_le_t (tgt := 95) dX5_give_42 (by decide) c23 ?_
      cases h
      exact zx_vret dX5_give_95 rfl
    · have h := it_f c23 h
      refine zx_if_le_f (tgt := 95) dX5_give_42 (by decide) c23 ?_
      refine zx_aload_n dX5_give_45 rfl (q := 1) rfl ?_
      obtain ⟨y24, μ26, z25, h⟩ := cl_e h
      refine zx_callV (As := []) hG mf_X5_takeFirst cv_X5_66 (kp_o (Eq.trans e18 e11) h4) ⟨by decide, by decide⟩ rfl rfl (Nat.le_of_ble_eq_true rfl) (s_X5_takeFirst hG _ _ _ _ z25) (Nat.le_of_ble_eq_true rfl) dX5_give_46 ?_
      refine zx_istore_n (L' := [(3, .int y24), (2, .ref p2), (0, .ref a0), (1, .ref a1)]) dX5_give_49 rfl (by decide) rfl ?_
      refine zx_aload_n dX5_give_50 rfl (q := 3) rfl ?_
      refine zx_aload_n dX5_give_51 rfl (q := 2) rfl ?_
      obtain ⟨h27, h⟩ := ck_e h
      obtain ⟨p28, h29, h⟩ := bd_e h
      refine zx_getR hG fl_X5_9 h27 h29 dX5_give_52 ?_
      refine zx_aload_n dX5_give_55 rfl (q := 1) rfl ?_
      obtain ⟨h30, h⟩ := ck_e h
      refine zx_getI hG fl_X5_70 h30 dX5_give_56 ?_
      obtain ⟨h31, h⟩ := ck_e h
      obtain ⟨h32, h⟩ := ck_e h
      refine zx_iald hG rfl (h31).1 (h31).2 (inb_e h32) dX5_give_59 ?_
      obtain ⟨h33, h⟩ := ck_e h
      refine zx_putI hG fl_X5_73 fn_4_9 h33 dX5_give_60 ?_
      obtain ⟨μ34, e36, h⟩ := zlm_e h
      refine zx_mem e36 ?_
      have e35 : mK μ34 = mK μ26 := (congrArg mK e36).trans rfl
      refine zx_aload_n dX5_give_63 rfl (q := 3) rfl ?_
      refine zx_iload_n dX5_give_64 rfl (q := 0) rfl ?_
      refine zx_putI hG fl_X5_76 fn_4_8 (kp_o (e35) h33) dX5_give_65 ?_
      obtain ⟨μ37, e39, h⟩ := zlm_e h
      refine zx_mem e39 ?_
      have e38 : mK μ37 = mK μ34 := (congrArg mK e39).trans rfl
      refine zx_aload_n dX5_give_68 rfl (q := 2) rfl ?_
      obtain ⟨p40, h41, h⟩ := bd_e h
      refine zx_getR hG fl_X5_9 (kp_o (Eq.trans e38 e35) h27) h41 dX5_give_69 ?_
      refine zx_aload_n dX5_give_72 rfl (q := 1) rfl ?_
      refine zx_getI hG fl_X5_70 (kp_o (Eq.trans e38 e35) h30) dX5_give_73 ?_
      refine zx_iload_n dX5_give_76 rfl (q := 0) rfl ?_
      obtain ⟨h42, h⟩ := ck_e h
      obtain ⟨h43, h⟩ := ck_e h
      refine zx_iast hG rfl (h42).1 (h42).2 (inb_e h43) dX5_give_77 ?_
      obtain ⟨μ44, e46, h⟩ := zlm_e h
      refine zx_mem e46 ?_
      have e45 : mK μ44 = mK μ37 := (congrArg mK e46).trans rfl
      refine zx_iload_n dX5_give_78 rfl (q := 0) rfl ?_
      by_cases c47 : y24 < 0
      · have h := it_t c47 h
        refine zx_if_lt_t (tgt := 95) dX5_give_79 (by decide) c47 ?_
        cases h
        exact zx_vret dX5_give_95 rfl
      · have h := it_f c47 h
        refine zx_if_lt_f (tgt := 95) dX5_give_79 (by decide) c47 ?_
        refine zx_iload_n dX5_give_82 rfl (q := 0) rfl ?_
        refine zx_bipush (v := 24) dX5_give_83 iv_bipush_24 ?_
        by_cases c48 : 24 ≤ y24
        · have h := it_t c48 h
          refine zx_icmp_ge_t (tgt := 95) dX5_give_85 (by decide) c48 ?_
          cases h
          exact zx_vret dX5_give_95 rfl
        · have h := it_f c48 h
          refine zx_icmp_ge_f (tgt := 95) dX5_give_85 (by decide) c48 ?_
          refine zx_aload_n dX5_give_88 rfl (q := 2) rfl ?_
          obtain ⟨p49, h50, h⟩ := bd_e h
          refine zx_getR hG fl_X5_21 (kp_o (Eq.trans (Eq.trans e45 e38) e35) h27) h50 dX5_give_89 ?_
          refine zx_iload_n dX5_give_92 rfl (q := 0) rfl ?_
          refine zx_iconst (v := 0) dX5_give_93 iv_iconst_0 ?_
          obtain ⟨h51, h⟩ := ck_e h
          obtain ⟨h52, h⟩ := ck_e h
          refine zx_zast hG rfl (h51).1 (h51).2 (inb_e h52) dX5_give_94 ?_
          obtain ⟨μ53, e55, h⟩ := zlm_e h
          refine zx_mem e55 ?_
          have e54 : mK μ53 = mK μ44 := (congrArg mK e55).trans rfl
          cases h
          exact zx_vret dX5_give_95 rfl
def f_X0_renameFirst_b94 (a0 : Nat) (a1 : Nat) (μ : Mm) : Option (Unit × Mm) :=
  ck (mK μ a0 = 101) <|
  bd (mR μ a0 7) fun p39 =>
  ck (mK μ p39 = 100) <|
  cl (f_Jx4a65c_add_9ea2d p39 a1 μ) fun y42 μ44 =>
  some ((), μ44)
def f_X0_renameFirst_b68 (a0 : Nat) (a1 : Nat) (a2 : Nat) (μ : Mm) : Option (Unit × Mm) :=
  ck (mK μ a2 = 107) <|
  if ¬ (mI μ a2 1) = 15 then
    f_X0_renameFirst_b94 a0 a1 μ
  else
    ck (mK μ a0 = 101) <|
    bd (mR μ a0 4) fun p29 =>
    ck (mK μ a1 = 104) <|
    bd (f_X6_resultBy a2 0 0 μ) fun y32 =>
    ck (mK μ p29 = 106) <|
    cl (f_X5_write p29 (mI μ a1 8) y32 μ) fun _ μ37 =>
    f_X0_renameFirst_b94 a0 a1 μ37
def f_X0_renameFirst_b57 (a0 : Nat) (a1 : Nat) (a2 : Nat) (s0 : Int32) (s1 : Nat) (μ : Mm) : Option (Unit × Mm) :=
  ck (mK μ s1 = 104) <|
  zl (sI μ s1 12 s0) fun μ46 =>
  ck (mK μ46 a0 = 101) <|
  ck (mK μ46 a1 = 104) <|
  cl (f_X3_endIn a1 (mI μ46 a0 12) μ46) fun _ μ53 =>
  f_X0_renameFirst_b68 a0 a1 a2 μ53
def f_X0_renameFirst_b51 (a0 : Nat) (a1 : Nat) (a2 : Nat) (s0 : Nat) (μ : Mm) : Option (Unit × Mm) :=
  ck (mK μ a2 = 107) <|
  bd (f_X6_trapBy a2 0 0 μ) fun y55 =>
  f_X0_renameFirst_b57 a0 a1 a2 y55 s0 μ
def f_X0_renameFirst (a0 : Nat) (a1 : Nat) (μ : Mm) : Option (Unit × Mm) :=
  ck (mK μ a1 = 104) <|
  bd (mR μ a1 0) fun p2 =>
  ck (mK μ a0 = 101) <|
  bd (mR μ a0 4) fun p5 =>
  ck (mK μ p5 = 106) <|
  cl (f_X5_give p5 a1 μ) fun _ μ10 =>
  ck (mK μ10 a1 = 104) <|
  bd (mR μ10 a1 4) fun p12 =>
  ck (mK μ10 a0 = 101) <|
  ck (isA 1 (mK μ10 p12)) <|
  ck (inb 1 (mL μ10 p12)) <|
  zl (sI μ10 p12 (Int32.toNatClampNeg 1) (mI μ10 a0 12)) fun μ17 =>
  ck (mK μ17 p2 = 107) <|
  bd (f_X6_isForQueue p2 μ17) fun y21 =>
  if ¬ y21 = 0 then
    f_X0_renameFirst_b68 a0 a1 p2 μ17
  else
    if ¬ (mI μ17 p2 1) = 21 then
      f_X0_renameFirst_b51 a0 a1 p2 a1 μ17
    else
      if ¬ (zb (mI μ17 a0 15)) = 0 then
        f_X0_renameFirst_b51 a0 a1 p2 a1 μ17
      else
        f_X0_renameFirst_b57 a0 a1 p2 5 a1 μ17
set_option maxRecDepth 100000 in
theorem s_X0_renameFirst_b94 {l : Launch} {G : Gt} (hG : Gok l G) (a0 : Nat) (a1 : Nat) (μ : Mm) (r : Unit) (μ' : Mm) (h : f_X0_renameFirst_b94 a0 a1 μ = some (r, μ')) : ZX l G mX0_renameFirst 94 [(0, .ref a0), (1, .ref a1)] [] μ (.inl none) μ' := by
  unfold f_X0_renameFirst_b94 at h
  refine zx_aload_n dX0_renameFirst_94 rfl (q := 0) rfl ?_
  obtain ⟨h38, h⟩ := ck_e h
  obtain ⟨p39, h40, h⟩ := bd_e h
  refine zx_getR hG fl_X0_60 h38 h40 dX0_renameFirst_95 ?_
  refine zx_aload_n dX0_renameFirst_98 rfl (q := 1) rfl ?_
  obtain ⟨h41, h⟩ := ck_e h
  obtain ⟨y42, μ44, z43, h⟩ := cl_e h
  refine zx_callV (As := [.ref a1]) hG mf_Jx4a65c_add_9ea2d cv_X0_328 h41 ⟨by decide, by decide⟩ rfl rfl (Nat.le_of_ble_eq_true rfl) (s_Jx4a65c_add_9ea2d hG _ _ _ _ _ z43) (Nat.le_of_ble_eq_true rfl) dX0_renameFirst_99 ?_
  refine zx_pop dX0_renameFirst_102 rfl ?_
  cases h
  exact zx_vret dX0_renameFirst_103 rfl
set_option maxRecDepth 100000 in
theorem s_X0_renameFirst_b68 {l : Launch} {G : Gt} (hG : Gok l G) (a0 : Nat) (a1 : Nat) (a2 : Nat) (μ : Mm) (r : Unit) (μ' : Mm) (h : f_X0_renameFirst_b68 a0 a1 a2 μ = some (r, μ')) : ZX l G mX0_renameFirst 68 [(0, .ref a0), (1, .ref a1), (2, .ref a2)] [] μ (.inl none) μ' := by
  unfold f_X0_renameFirst_b68 at h
  refine zx_aload_n dX0_renameFirst_68 rfl (q := 2) rfl ?_
  obtain ⟨h26, h⟩ := ck_e h
  refine zx_getI hG fl_X0_165 h26 dX0_renameFirst_69 ?_
  refine zx_bipush (v := 15) dX0_renameFirst_72 iv_bipush_15 ?_
  by_cases c27 : ¬ (mI μ a2 1) = 15
  · have h := it_t c27 h
    refine zx_icmp_ne_t (tgt := 94) dX0_renameFirst_74 (by decide) c27 ?_
    refine zx_sub (L' := [(0, .ref a0), (1, .ref a1)]) [0, 1] rfl ?_
    exact s_X0_renameFirst_b94 hG _ _ _ _ _ h
  · have h := it_f c27 h
    refine zx_icmp_ne_f (tgt := 94) dX0_renameFirst_74 (by decide) (Classical.not_not.mp c27) ?_
    refine zx_aload_n dX0_renameFirst_77 rfl (q := 0) rfl ?_
    obtain ⟨h28, h⟩ := ck_e h
    obtain ⟨p29, h30, h⟩ := bd_e h
    refine zx_getR hG fl_X0_42 h28 h30 dX0_renameFirst_78 ?_
    refine zx_aload_n dX0_renameFirst_81 rfl (q := 1) rfl ?_
    obtain ⟨h31, h⟩ := ck_e h
    refine zx_getI hG fl_X0_230 h31 dX0_renameFirst_82 ?_
    refine zx_aload_n dX0_renameFirst_85 rfl (q := 2) rfl ?_
    refine zx_iconst (v := 0) dX0_renameFirst_86 iv_iconst_0 ?_
    refine zx_iconst (v := 0) dX0_renameFirst_87 iv_iconst_0 ?_
    obtain ⟨y32, z33, h⟩ := bd_e h
    refine zx_callV (As := [.int 0, .int 0]) hG mf_X6_resultBy cv_X0_424 h26 ⟨by decide, by decide⟩ rfl rfl (Nat.le_of_ble_eq_true rfl) (s_X6_resultBy hG _ _ _ _ _ z33) (Nat.le_of_ble_eq_true rfl) dX0_renameFirst_88 ?_
    obtain ⟨h34, h⟩ := ck_e h
    obtain ⟨uu35, μ37, z36, h⟩ := cl_e h
    refine zx_callV (As := [.int (mI μ a1 8), .int y32]) hG mf_X5_write cv_X0_233 h34 ⟨by decide, by decide⟩ rfl rfl (Nat.le_of_ble_eq_true rfl) (s_X5_write hG _ _ _ _ _ _ z36) (Nat.le_of_ble_eq_true rfl) dX0_renameFirst_91 ?_
    refine zx_sub (L' := [(0, .ref a0), (1, .ref a1)]) [0, 1] rfl ?_
    exact s_X0_renameFirst_b94 hG _ _ _ _ _ h
set_option maxRecDepth 100000 in
theorem s_X0_renameFirst_b57 {l : Launch} {G : Gt} (hG : Gok l G) (a0 : Nat) (a1 : Nat) (a2 : Nat) (s0 : Int32) (s1 : Nat) (μ : Mm) (r : Unit) (μ' : Mm) (h : f_X0_renameFirst_b57 a0 a1 a2 s0 s1 μ = some (r, μ')) : ZX l G mX0_renameFirst 57 [(0, .ref a0), (1, .ref a1), (2, .ref a2)] [.int s0, .ref s1] μ (.inl none) μ' := by
  unfold f_X0_renameFirst_b57 at h
  obtain ⟨h45, h⟩ := ck_e h
  refine zx_putI hG fl_X0_192 fn_4_12 h45 dX0_renameFirst_57 ?_
  obtain ⟨μ46, e48, h⟩ := zlm_e h
  refine zx_mem e48 ?_
  have e47 : mK μ46 = mK μ := (congrArg mK e48).trans rfl
  refine zx_aload_n dX0_renameFirst_60 rfl (q := 1) rfl ?_
  refine zx_aload_n dX0_renameFirst_61 rfl (q := 0) rfl ?_
  obtain ⟨h49, h⟩ := ck_e h
  refine zx_getI hG fl_X0_77 h49 dX0_renameFirst_62 ?_
  obtain ⟨h50, h⟩ := ck_e h
  obtain ⟨uu51, μ53, z52, h⟩ := cl_e h
  refine zx_callV (As := [.int (mI μ46 a0 12)]) hG mf_X3_endIn cv_X0_183 h50 ⟨by decide, by decide⟩ rfl rfl (Nat.le_of_ble_eq_true rfl) (s_X3_endIn hG _ _ _ _ _ z52) (Nat.le_of_ble_eq_true rfl) dX0_renameFirst_65 ?_
  exact s_X0_renameFirst_b68 hG _ _ _ _ _ _ h
set_option maxRecDepth 100000 in
theorem s_X0_renameFirst_b51 {l : Launch} {G : Gt} (hG : Gok l G) (a0 : Nat) (a1 : Nat) (a2 : Nat) (s0 : Nat) (μ : Mm) (r : Unit) (μ' : Mm) (h : f_X0_renameFirst_b51 a0 a1 a2 s0 μ = some (r, μ')) : ZX l G mX0_renameFirst 51 [(0, .ref a0), (1, .ref a1), (2, .ref a2)] [.ref s0] μ (.inl none) μ' := by
  unfold f_X0_renameFirst_b51 at h
  refine zx_aload_n dX0_renameFirst_51 rfl (q := 2) rfl ?_
  refine zx_iconst (v := 0) dX0_renameFirst_52 iv_iconst_0 ?_
  refine zx_iconst (v := 0) dX0_renameFirst_53 iv_iconst_0 ?_
  obtain ⟨h54, h⟩ := ck_e h
  obtain ⟨y55, z56, h⟩ := bd_e h
  refine zx_callV (As := [.int 0, .int 0]) hG mf_X6_trapBy cv_X0_421 h54 ⟨by decide, by decide⟩ rfl rfl (Nat.le_of_ble_eq_true rfl) (s_X6_trapBy hG _ _ _ _ _ z56) (Nat.le_of_ble_eq_true rfl) dX0_renameFirst_54 ?_
  exact s_X0_renameFirst_b57 hG _ _ _ _ _ _ _ _ h
set_option maxRecDepth 100000 in
theorem s_X0_renameFirst {l : Launch} {G : Gt} (hG : Gok l G) (a0 : Nat) (a1 : Nat) (μ : Mm) (r : Unit) (μ' : Mm) (h : f_X0_renameFirst a0 a1 μ = some (r, μ')) : ZX l G mX0_renameFirst 0 [(0, .ref a0), (1, .ref a1)] [] μ (.inl none) μ' := by
  unfold f_X0_renameFirst at h
  refine zx_aload_n dX0_renameFirst_0 rfl (q := 1) rfl ?_
  obtain ⟨h1, h⟩ := ck_e h
  obtain ⟨p2, h3, h⟩ := bd_e h
  refine zx_getR hG fl_X0_161 h1 h3 dX0_renameFirst_1 ?_
  refine zx_astore_n (L' := [(2, .ref p2), (0, .ref a0), (1, .ref a1)]) dX0_renameFirst_4 rfl (by decide) rfl ?_
  refine zx_aload_n dX0_renameFirst_5 rfl (q := 1) rfl ?_
  obtain ⟨h4, h⟩ := ck_e h
  obtain ⟨p5, h6, h⟩ := bd_e h
  refine zx_getR hG fl_X0_42 h4 h6 dX0_renameFirst_6 ?_
  refine zx_aload_n dX0_renameFirst_9 rfl (q := 2) rfl ?_
  obtain ⟨h7, h⟩ := ck_e h
  obtain ⟨uu8, μ10, z9, h⟩ := cl_e h
  refine zx_callV (As := [.ref a1]) hG mf_X5_give cv_X0_418 h7 ⟨by decide, by decide⟩ rfl rfl (Nat.le_of_ble_eq_true rfl) (s_X5_give hG _ _ _ _ _ z9) (Nat.le_of_ble_eq_true rfl) dX0_renameFirst_10 ?_
  refine zx_aload_n dX0_renameFirst_13 rfl (q := 2) rfl ?_
  obtain ⟨h11, h⟩ := ck_e h
  obtain ⟨p12, h13, h⟩ := bd_e h
  refine zx_getR hG fl_X0_261 h11 h13 dX0_renameFirst_14 ?_
  refine zx_iconst (v := 1) dX0_renameFirst_17 iv_iconst_1 ?_
  refine zx_aload_n dX0_renameFirst_18 rfl (q := 1) rfl ?_
  obtain ⟨h14, h⟩ := ck_e h
  refine zx_getI hG fl_X0_77 h14 dX0_renameFirst_19 ?_
  obtain ⟨h15, h⟩ := ck_e h
  obtain ⟨h16, h⟩ := ck_e h
  refine zx_iast hG rfl (h15).1 (h15).2 (inb_e h16) dX0_renameFirst_22 ?_
  obtain ⟨μ17, e19, h⟩ := zlm_e h
  refine zx_mem e19 ?_
  have e18 : mK μ17 = mK μ10 := (congrArg mK e19).trans rfl
  refine zx_aload_n dX0_renameFirst_23 rfl (q := 0) rfl ?_
  obtain ⟨h20, h⟩ := ck_e h
  obtain ⟨y21, z22, h⟩ := bd_e h
  refine zx_callV (As := []) hG mf_X6_isForQueue cv_X0_406 h20 ⟨by decide, by decide⟩ rfl rfl (Nat.le_of_ble_eq_true rfl) (s_X6_isForQueue hG _ _ _ z22) (Nat.le_of_ble_eq_true rfl) dX0_renameFirst_24 ?_
  by_cases c23 : ¬ y21 = 0
  · have h := it_t c23 h
    refine zx_if_ne_t (tgt := 68) dX0_renameFirst_27 (by decide) c23 ?_
    refine zx_sub (L' := [(0, .ref a0), (1, .ref a1), (2, .ref p2)]) [1, 2, 0] rfl ?_
    exact s_X0_renameFirst_b68 hG _ _ _ _ _ _ h
  · have h := it_f c23 h
    refine zx_if_ne_f (tgt := 68) dX0_renameFirst_27 (by decide) (Classical.not_not.mp c23) ?_
    refine zx_aload_n dX0_renameFirst_30 rfl (q := 2) rfl ?_
    refine zx_aload_n dX0_renameFirst_31 rfl (q := 0) rfl ?_
    refine zx_getI hG fl_X0_165 h20 dX0_renameFirst_32 ?_
    refine zx_bipush (v := 21) dX0_renameFirst_35 iv_bipush_21 ?_
    by_cases c24 : ¬ (mI μ17 p2 1) = 21
    · have h := it_t c24 h
      refine zx_icmp_ne_t (tgt := 51) dX0_renameFirst_37 (by decide) c24 ?_
      refine zx_sub (L' := [(0, .ref a0), (1, .ref a1), (2, .ref p2)]) [1, 2, 0] rfl ?_
      exact s_X0_renameFirst_b51 hG _ _ _ _ _ _ _ h
    · have h := it_f c24 h
      refine zx_icmp_ne_f (tgt := 51) dX0_renameFirst_37 (by decide) (Classical.not_not.mp c24) ?_
      refine zx_aload_n dX0_renameFirst_40 rfl (q := 1) rfl ?_
      refine zx_getZ hG fl_X0_88 (kp_o (e18) h14) dX0_renameFirst_41 ?_
      by_cases c25 : ¬ (zb (mI μ17 a0 15)) = 0
      · have h := it_t c25 h
        refine zx_if_ne_t (tgt := 51) dX0_renameFirst_44 (by decide) c25 ?_
        refine zx_sub (L' := [(0, .ref a0), (1, .ref a1), (2, .ref p2)]) [1, 2, 0] rfl ?_
        exact s_X0_renameFirst_b51 hG _ _ _ _ _ _ _ h
      · have h := it_f c25 h
        refine zx_if_ne_f (tgt := 51) dX0_renameFirst_44 (by decide) (Classical.not_not.mp c25) ?_
        refine zx_iconst (v := 5) dX0_renameFirst_47 iv_iconst_5 ?_
        refine zx_goto (tgt := 57) dX0_renameFirst_48 (by decide) ?_
        refine zx_sub (L' := [(0, .ref a0), (1, .ref a1), (2, .ref p2)]) [1, 2, 0] rfl ?_
        exact s_X0_renameFirst_b57 hG _ _ _ _ _ _ _ _ h
def f_X0_doRenaming_b2 : Nat → Nat → Int32 → Mm → Option (Unit × Mm)
  | 0, _, _, _ => none
  | n + 1, a0, x1, μ =>
  ck (mK μ a0 = 101) <|
  bd (mR μ a0 1) fun p2 =>
  ck (mK μ p2 = 110) <|
  if (mI μ p2 0) ≤ x1 then
    some ((), μ)
  else
    bd (mR μ a0 6) fun p6 =>
    ck (mK μ p6 = 105) <|
    bd (mR μ p6 0) fun p9 =>
    ck (mK μ p9 = 100) <|
    bd (f_Jx4a65c_isEmpty_aae02 p9 μ) fun y12 =>
    if ¬ y12 = 0 then
      some ((), μ)
    else
      bd (mR μ a0 6) fun p15 =>
      ck (mK μ p15 = 105) <|
      bd (mR μ p15 0) fun p18 =>
      ck (mK μ p18 = 100) <|
      bd (f_Jx4a65c_get_915e3 p18 0 μ) fun p21 =>
      ck (mK μ p21 = 104) <|
      bd (mR μ p21 0) fun p24 =>
      bd (f_X0_canRename a0 p24 μ) fun y26 =>
      if ¬ y26 = 0 then
        bd (mR μ a0 6) fun p29 =>
        ck (mK μ p29 = 105) <|
        bd (mR μ p29 0) fun p32 =>
        ck (mK μ p32 = 100) <|
        bd (f_Jx4a65c_get_915e3 p32 0 μ) fun p35 =>
        ck (mK μ p35 = 104) <|
        bd (mR μ a0 6) fun p38 =>
        ck (mK μ p38 = 105) <|
        bd (mR μ p38 0) fun p41 =>
        ck (mK μ p41 = 100) <|
        cl (f_Jx4a65c_remove_915e3 p41 0 μ) fun p44 μ46 =>
        ck (mK μ46 a0 = 101) <|
        cl (f_X0_renameFirst a0 p35 μ46) fun _ μ50 =>
        f_X0_doRenaming_b2 n a0 (x1 + 1) μ50
      else
        some ((), μ)
def f_X0_doRenaming (a0 : Nat) (μ : Mm) : Option (Unit × Mm) :=
  f_X0_doRenaming_b2 5000 a0 0 μ
set_option maxRecDepth 100000 in
theorem s_X0_doRenaming_b2 {l : Launch} {G : Gt} (hG : Gok l G) : ∀ (n : Nat) (a0 : Nat) (x1 : Int32) (μ : Mm) (r : Unit) (μ' : Mm), f_X0_doRenaming_b2 n a0 x1 μ = some (r, μ') → ZX l G mX0_doRenaming 2 [(0, .ref a0), (1, .int x1)] [] μ (.inl none) μ' := by
  intro n
  induction n with
  | zero =>
    intro a0 x1 μ r μ' h
    cases h
  | succ n ih =>
    intro a0 x1 μ r μ' h
    unfold f_X0_doRenaming_b2 at h
    refine zx_iload_n dX0_doRenaming_2 rfl (q := 1) rfl ?_
    refine zx_aload_n dX0_doRenaming_3 rfl (q := 0) rfl ?_
    obtain ⟨h1, h⟩ := ck_e h
    obtain ⟨p2, h3, h⟩ := bd_e h
    refine zx_getR hG fl_X0_21 h1 h3 dX0_doRenaming_4 ?_
    obtain ⟨h4, h⟩ := ck_e h
    refine zx_getI hG fl_X0_112 h4 dX0_doRenaming_7 ?_
    by_cases c5 : (mI μ p2 0) ≤ x1
    · have h := it_t c5 h
      refine zx_icmp_ge_t (tgt := 89) dX0_doRenaming_10 (by decide) c5 ?_
      cases h
      exact zx_vret dX0_doRenaming_89 rfl
    · have h := it_f c5 h
      refine zx_icmp_ge_f (tgt := 89) dX0_doRenaming_10 (by decide) c5 ?_
      refine zx_aload_n dX0_doRenaming_13 rfl (q := 0) rfl ?_
      obtain ⟨p6, h7, h⟩ := bd_e h
      refine zx_getR hG fl_X0_56 h1 h7 dX0_doRenaming_14 ?_
      obtain ⟨h8, h⟩ := ck_e h
      obtain ⟨p9, h10, h⟩ := bd_e h
      refine zx_getR hG fl_X0_237 h8 h10 dX0_doRenaming_17 ?_
      obtain ⟨h11, h⟩ := ck_e h
      obtain ⟨y12, z13, h⟩ := bd_e h
      refine zx_callV (As := []) hG mf_Jx4a65c_isEmpty_aae02 cv_X0_282 h11 ⟨by decide, by decide⟩ rfl rfl (Nat.le_of_ble_eq_true rfl) (s_Jx4a65c_isEmpty_aae02 hG _ _ _ z13) (Nat.le_of_ble_eq_true rfl) dX0_doRenaming_20 ?_
      by_cases c14 : ¬ y12 = 0
      · have h := it_t c14 h
        refine zx_if_ne_t (tgt := 50) dX0_doRenaming_23 (by decide) c14 ?_
        cases h
        exact zx_vret dX0_doRenaming_50 rfl
      · have h := it_f c14 h
        refine zx_if_ne_f (tgt := 50) dX0_doRenaming_23 (by decide) (Classical.not_not.mp c14) ?_
        refine zx_aload_n dX0_doRenaming_26 rfl (q := 0) rfl ?_
        refine zx_aload_n dX0_doRenaming_27 rfl (q := 0) rfl ?_
        obtain ⟨p15, h16, h⟩ := bd_e h
        refine zx_getR hG fl_X0_56 h1 h16 dX0_doRenaming_28 ?_
        obtain ⟨h17, h⟩ := ck_e h
        obtain ⟨p18, h19, h⟩ := bd_e h
        refine zx_getR hG fl_X0_237 h17 h19 dX0_doRenaming_31 ?_
        refine zx_iconst (v := 0) dX0_doRenaming_34 iv_iconst_0 ?_
        obtain ⟨h20, h⟩ := ck_e h
        obtain ⟨p21, z22, h⟩ := bd_e h
        refine zx_callV (As := [.int 0]) hG mf_Jx4a65c_get_915e3 cv_X0_127 h20 ⟨by decide, by decide⟩ rfl rfl (Nat.le_of_ble_eq_true rfl) (s_Jx4a65c_get_915e3 hG _ _ _ _ z22) (Nat.le_of_ble_eq_true rfl) dX0_doRenaming_35 ?_
        obtain ⟨h23, h⟩ := ck_e h
        refine zx_castO hG kt_X0_131 h23 dX0_doRenaming_38 ?_
        obtain ⟨p24, h25, h⟩ := bd_e h
        refine zx_getR hG fl_X0_161 h23 h25 dX0_doRenaming_41 ?_
        obtain ⟨y26, z27, h⟩ := bd_e h
        refine zx_callV (As := [.ref p24]) hG mf_X0_canRename cv_X0_393 h1 ⟨by decide, by decide⟩ rfl rfl (Nat.le_of_ble_eq_true rfl) (s_X0_canRename hG _ _ _ _ z27) (Nat.le_of_ble_eq_true rfl) dX0_doRenaming_44 ?_
        by_cases c28 : ¬ y26 = 0
        · have h := it_t c28 h
          refine zx_if_ne_t (tgt := 51) dX0_doRenaming_47 (by decide) c28 ?_
          refine zx_aload_n dX0_doRenaming_51 rfl (q := 0) rfl ?_
          obtain ⟨p29, h30, h⟩ := bd_e h
          refine zx_getR hG fl_X0_56 h1 h30 dX0_doRenaming_52 ?_
          obtain ⟨h31, h⟩ := ck_e h
          obtain ⟨p32, h33, h⟩ := bd_e h
          refine zx_getR hG fl_X0_237 h31 h33 dX0_doRenaming_55 ?_
          refine zx_iconst (v := 0) dX0_doRenaming_58 iv_iconst_0 ?_
          obtain ⟨h34, h⟩ := ck_e h
          obtain ⟨p35, z36, h⟩ := bd_e h
          refine zx_callV (As := [.int 0]) hG mf_Jx4a65c_get_915e3 cv_X0_127 h34 ⟨by decide, by decide⟩ rfl rfl (Nat.le_of_ble_eq_true rfl) (s_Jx4a65c_get_915e3 hG _ _ _ _ z36) (Nat.le_of_ble_eq_true rfl) dX0_doRenaming_59 ?_
          obtain ⟨h37, h⟩ := ck_e h
          refine zx_castO hG kt_X0_131 h37 dX0_doRenaming_62 ?_
          refine zx_astore_n (L' := [(2, .ref p35), (0, .ref a0), (1, .int x1)]) dX0_doRenaming_65 rfl (by decide) rfl ?_
          refine zx_aload_n dX0_doRenaming_66 rfl (q := 1) rfl ?_
          obtain ⟨p38, h39, h⟩ := bd_e h
          refine zx_getR hG fl_X0_56 h1 h39 dX0_doRenaming_67 ?_
          obtain ⟨h40, h⟩ := ck_e h
          obtain ⟨p41, h42, h⟩ := bd_e h
          refine zx_getR hG fl_X0_237 h40 h42 dX0_doRenaming_70 ?_
          refine zx_iconst (v := 0) dX0_doRenaming_73 iv_iconst_0 ?_
          obtain ⟨h43, h⟩ := ck_e h
          obtain ⟨p44, μ46, z45, h⟩ := cl_e h
          refine zx_callV (As := [.int 0]) hG mf_Jx4a65c_remove_915e3 cv_X0_246 h43 ⟨by decide, by decide⟩ rfl rfl (Nat.le_of_ble_eq_true rfl) (s_Jx4a65c_remove_915e3 hG _ _ _ _ _ z45) (Nat.le_of_ble_eq_true rfl) dX0_doRenaming_74 ?_
          refine zx_pop dX0_doRenaming_77 rfl ?_
          refine zx_aload_n dX0_doRenaming_78 rfl (q := 1) rfl ?_
          refine zx_aload_n dX0_doRenaming_79 rfl (q := 0) rfl ?_
          obtain ⟨h47, h⟩ := ck_e h
          obtain ⟨uu48, μ50, z49, h⟩ := cl_e h
          refine zx_callV (As := [.ref p35]) hG mf_X0_renameFirst cv_X0_397 h47 ⟨by decide, by decide⟩ rfl rfl (Nat.le_of_ble_eq_true rfl) (s_X0_renameFirst hG _ _ _ _ _ z49) (Nat.le_of_ble_eq_true rfl) dX0_doRenaming_80 ?_
          refine zx_iinc (q := 2) (v := x1 + 1) (L' := [(1, .int (x1 + 1)), (2, .ref p35), (0, .ref a0)]) dX0_doRenaming_83 rfl rfl (by decide) rfl ?_
          refine zx_goto (tgt := 2) dX0_doRenaming_86 (by decide) ?_
          refine zx_sub (L' := [(0, .ref a0), (1, .int (x1 + 1))]) [2, 0] rfl ?_
          exact ih _ _ _ _ _ h
        · have h := it_f c28 h
          refine zx_if_ne_f (tgt := 51) dX0_doRenaming_47 (by decide) (Classical.not_not.mp c28) ?_
          cases h
          exact zx_vret dX0_doRenaming_50 rfl
set_option maxRecDepth 100000 in
theorem s_X0_doRenaming {l : Launch} {G : Gt} (hG : Gok l G) (a0 : Nat) (μ : Mm) (r : Unit) (μ' : Mm) (h : f_X0_doRenaming a0 μ = some (r, μ')) : ZX l G mX0_doRenaming 0 [(0, .ref a0)] [] μ (.inl none) μ' := by
  unfold f_X0_doRenaming at h
  refine zx_iconst (v := 0) dX0_doRenaming_0 iv_iconst_0 ?_
  refine zx_istore_n (L' := [(1, .int 0), (0, .ref a0)]) dX0_doRenaming_1 rfl (by decide) rfl ?_
  refine zx_sub (L' := [(0, .ref a0), (1, .int 0)]) [1, 0] rfl ?_
  exact s_X0_doRenaming_b2 hG 5000 _ _ _ _ _ h
def f_X4_push_b59 (a0 : Nat) (x1 : Int32) (x3 : Int32) (a4 : Nat) (μ : Mm) : Option (Unit × Mm) :=
  ck (isA 1 (mK μ a4)) <|
  ck (inb x3 (mL μ a4)) <|
  zl (sI μ a4 (Int32.toNatClampNeg x3) x1) fun μ30 =>
  ck (mK μ30 a0 = 105) <|
  zl (sR μ30 a0 3 (some a4)) fun μ34 =>
  some ((), μ34)
def f_X4_push_b33 : Nat → Nat → Int32 → Int32 → Int32 → Nat → Int32 → Mm → Option (Unit × Mm)
  | 0, _, _, _, _, _, _, _ => none
  | n + 1, a0, x1, x2, x3, a4, x5, μ =>
  if x3 ≤ x5 then
    f_X4_push_b59 a0 x1 x3 a4 μ
  else
    ck (mK μ a0 = 105) <|
    bd (mR μ a0 3) fun p19 =>
    ck (isA 1 (mK μ p19)) <|
    ck (inb (x2 + x5) (mL μ p19)) <|
    ck (isA 1 (mK μ a4)) <|
    ck (inb x5 (mL μ a4)) <|
    zl (sI μ a4 (Int32.toNatClampNeg x5) (mI μ p19 (Int32.toNatClampNeg (x2 + x5)))) fun μ25 =>
    f_X4_push_b33 n a0 x1 x2 x3 a4 (x5 + 1) μ25
def f_X4_push_b14 (a0 : Nat) (x1 : Int32) (s0 : Int32) (μ : Mm) : Option (Unit × Mm) :=
  ck (mK μ a0 = 105) <|
  bd (mR μ a0 3) fun p7 =>
  ck (isA1256 (mK μ p7)) <|
  ck (smn (((nI (mL μ p7)) - s0) + 1)) <|
  zl (mN μ) fun p11 =>
  zl (nw μ 41 (Int32.toNatClampNeg (((nI (mL μ p7)) - s0) + 1)) (Int32.toNatClampNeg (((nI (mL μ p7)) - s0) + 1))) fun μ12 =>
  f_X4_push_b33 5000 a0 x1 s0 ((nI (mL μ p7)) - s0) p11 0 μ12
def f_X4_push (a0 : Nat) (x1 : Int32) (μ : Mm) : Option (Unit × Mm) :=
  ck (mK μ a0 = 105) <|
  bd (mR μ a0 3) fun p2 =>
  ck (isA1256 (mK μ p2)) <|
  if 4 ≤ (nI (mL μ p2)) then
    f_X4_push_b14 a0 x1 1 μ
  else
    f_X4_push_b14 a0 x1 0 μ
set_option maxRecDepth 100000 in
theorem s_X4_push_b59 {l : Launch} {G : Gt} (hG : Gok l G) (a0 : Nat) (x1 : Int32) (x3 : Int32) (a4 : Nat) (μ : Mm) (r : Unit) (μ' : Mm) (h : f_X4_push_b59 a0 x1 x3 a4 μ = some (r, μ')) : ZX l G mX4_push 59 [(0, .ref a0), (1, .int x1), (3, .int x3), (4, .ref a4)] [] μ (.inl none) μ' := by
  unfold f_X4_push_b59 at h
  refine zx_aload dX4_push_59 (q := 3) rfl ?_
  refine zx_iload_n dX4_push_61 rfl (q := 2) rfl ?_
  refine zx_iload_n dX4_push_62 rfl (q := 1) rfl ?_
  obtain ⟨h28, h⟩ := ck_e h
  obtain ⟨h29, h⟩ := ck_e h
  refine zx_iast hG rfl (h28).1 (h28).2 (inb_e h29) dX4_push_63 ?_
  obtain ⟨μ30, e32, h⟩ := zlm_e h
  refine zx_mem e32 ?_
  have e31 : mK μ30 = mK μ := (congrArg mK e32).trans rfl
  refine zx_aload_n dX4_push_64 rfl (q := 0) rfl ?_
  refine zx_aload dX4_push_65 (q := 3) rfl ?_
  obtain ⟨h33, h⟩ := ck_e h
  refine zx_putR hG fl_X4_25 fn_5_3 h33 dX4_push_67 ?_
  obtain ⟨μ34, e36, h⟩ := zlm_e h
  refine zx_mem e36 ?_
  have e35 : mK μ34 = mK μ30 := (congrArg mK e36).trans rfl
  cases h
  exact zx_vret dX4_push_70 rfl
set_option maxRecDepth 100000 in
theorem s_X4_push_b33 {l : Launch} {G : Gt} (hG : Gok l G) : ∀ (n : Nat) (a0 : Nat) (x1 : Int32) (x2 : Int32) (x3 : Int32) (a4 : Nat) (x5 : Int32) (μ : Mm) (r : Unit) (μ' : Mm), f_X4_push_b33 n a0 x1 x2 x3 a4 x5 μ = some (r, μ') → ZX l G mX4_push 33 [(0, .ref a0), (1, .int x1), (2, .int x2), (3, .int x3), (4, .ref a4), (5, .int x5)] [] μ (.inl none) μ' := by
  intro n
  induction n with
  | zero =>
    intro a0 x1 x2 x3 a4 x5 μ r μ' h
    cases h
  | succ n ih =>
    intro a0 x1 x2 x3 a4 x5 μ r μ' h
    unfold f_X4_push_b33 at h
    refine zx_iload dX4_push_33 (q := 5) rfl ?_
    refine zx_iload_n dX4_push_35 rfl (q := 3) rfl ?_
    by_cases c17 : x3 ≤ x5
    · have h := it_t c17 h
      refine zx_icmp_ge_t (tgt := 59) dX4_push_36 (by decide) c17 ?_
      refine zx_sub (L' := [(0, .ref a0), (1, .int x1), (3, .int x3), (4, .ref a4)]) [0, 1, 3, 4] rfl ?_
      exact s_X4_push_b59 hG _ _ _ _ _ _ _ h
    · have h := it_f c17 h
      refine zx_icmp_ge_f (tgt := 59) dX4_push_36 (by decide) c17 ?_
      refine zx_aload dX4_push_39 (q := 4) rfl ?_
      refine zx_iload dX4_push_41 (q := 5) rfl ?_
      refine zx_aload_n dX4_push_43 rfl (q := 0) rfl ?_
      obtain ⟨h18, h⟩ := ck_e h
      obtain ⟨p19, h20, h⟩ := bd_e h
      refine zx_getR hG fl_X4_25 h18 h20 dX4_push_44 ?_
      refine zx_iload_n dX4_push_47 rfl (q := 2) rfl ?_
      refine zx_iload dX4_push_48 (q := 5) rfl ?_
      refine zx_iadd dX4_push_50 ?_
      obtain ⟨h21, h⟩ := ck_e h
      obtain ⟨h22, h⟩ := ck_e h
      refine zx_iald hG rfl (h21).1 (h21).2 (inb_e h22) dX4_push_51 ?_
      obtain ⟨h23, h⟩ := ck_e h
      obtain ⟨h24, h⟩ := ck_e h
      refine zx_iast hG rfl (h23).1 (h23).2 (inb_e h24) dX4_push_52 ?_
      obtain ⟨μ25, e27, h⟩ := zlm_e h
      refine zx_mem e27 ?_
      have e26 : mK μ25 = mK μ := (congrArg mK e27).trans rfl
      refine zx_iinc (q := 5) (v := x5 + 1) (L' := [(5, .int (x5 + 1)), (0, .ref a0), (1, .int x1), (2, .int x2), (3, .int x3), (4, .ref a4)]) dX4_push_53 rfl rfl (by decide) rfl ?_
      refine zx_goto (tgt := 33) dX4_push_56 (by decide) ?_
      refine zx_sub (L' := [(0, .ref a0), (1, .int x1), (2, .int x2), (3, .int x3), (4, .ref a4), (5, .int (x5 + 1))]) [1, 2, 3, 4, 5, 0] rfl ?_
      exact ih _ _ _ _ _ _ _ _ _ h
set_option maxRecDepth 100000 in
theorem s_X4_push_b14 {l : Launch} {G : Gt} (hG : Gok l G) (a0 : Nat) (x1 : Int32) (s0 : Int32) (μ : Mm) (r : Unit) (μ' : Mm) (h : f_X4_push_b14 a0 x1 s0 μ = some (r, μ')) : ZX l G mX4_push 14 [(0, .ref a0), (1, .int x1)] [.int s0] μ (.inl none) μ' := by
  unfold f_X4_push_b14 at h
  refine zx_istore_n (L' := [(2, .int s0), (0, .ref a0), (1, .int x1)]) dX4_push_14 rfl (by decide) rfl ?_
  refine zx_aload_n dX4_push_15 rfl (q := 1) rfl ?_
  obtain ⟨h6, h⟩ := ck_e h
  obtain ⟨p7, h8, h⟩ := bd_e h
  refine zx_getR hG fl_X4_25 h6 h8 dX4_push_16 ?_
  obtain ⟨h9, h⟩ := ck_e h
  refine zx_alen hG rfl (h9).1 (h9).2 dX4_push_19 ?_
  refine zx_iload_n dX4_push_20 rfl (q := 0) rfl ?_
  refine zx_isub dX4_push_21 ?_
  refine zx_istore_n (L' := [(3, .int ((nI (mL μ p7)) - s0)), (2, .int s0), (0, .ref a0), (1, .int x1)]) dX4_push_22 rfl (by decide) rfl ?_
  refine zx_iload_n dX4_push_23 rfl (q := 0) rfl ?_
  refine zx_iconst (v := 1) dX4_push_24 iv_iconst_1 ?_
  refine zx_iadd dX4_push_25 ?_
  obtain ⟨h10, h⟩ := ck_e h
  refine zx_newa 41 (at9 := .int) hG w_ac_int (by decide) (by decide) (smn_e h10) (h10).2 dX4_push_26 ?_
  obtain ⟨p11, e14, h⟩ := zlm_e h
  obtain ⟨μ12, e15, h⟩ := zlm_e h
  refine zx_mem e15 (zx_stk e14 ?_)
  have h13 : mK μ12 p11 = 41 := nw_Kp e15 e14
  have h16 : isA 1 (mK μ12 p11) := by rw [h13]; decide
  refine zx_astore (L' := [(4, .ref p11), (3, .int ((nI (mL μ p7)) - s0)), (2, .int s0), (0, .ref a0), (1, .int x1)]) dX4_push_28 (by decide) rfl ?_
  refine zx_iconst (v := 0) dX4_push_30 iv_iconst_0 ?_
  refine zx_istore (L' := [(5, .int 0), (4, .ref p11), (3, .int ((nI (mL μ p7)) - s0)), (2, .int s0), (0, .ref a0), (1, .int x1)]) dX4_push_31 (by decide) rfl ?_
  refine zx_sub (L' := [(0, .ref a0), (1, .int x1), (2, .int s0), (3, .int ((nI (mL μ p7)) - s0)), (4, .ref p11), (5, .int 0)]) [4, 5, 3, 2, 1, 0] rfl ?_
  exact s_X4_push_b33 hG 5000 _ _ _ _ _ _ _ _ _ h
set_option maxRecDepth 100000 in
theorem s_X4_push {l : Launch} {G : Gt} (hG : Gok l G) (a0 : Nat) (x1 : Int32) (μ : Mm) (r : Unit) (μ' : Mm) (h : f_X4_push a0 x1 μ = some (r, μ')) : ZX l G mX4_push 0 [(0, .ref a0), (1, .int x1)] [] μ (.inl none) μ' := by
  unfold f_X4_push at h
  refine zx_aload_n dX4_push_0 rfl (q := 0) rfl ?_
  obtain ⟨h1, h⟩ := ck_e h
  obtain ⟨p2, h3, h⟩ := bd_e h
  refine zx_getR hG fl_X4_25 h1 h3 dX4_push_1 ?_
  obtain ⟨h4, h⟩ := ck_e h
  refine zx_alen hG rfl (h4).1 (h4).2 dX4_push_4 ?_
  refine zx_iconst (v := 4) dX4_push_5 iv_iconst_4 ?_
  by_cases c5 : 4 ≤ (nI (mL μ p2))
  · have h := it_t c5 h
    refine zx_icmp_ge_t (tgt := 13) dX4_push_6 (by decide) c5 ?_
    refine zx_iconst (v := 1) dX4_push_13 iv_iconst_1 ?_
    exact s_X4_push_b14 hG _ _ _ _ _ _ h
  · have h := it_f c5 h
    refine zx_icmp_ge_f (tgt := 13) dX4_push_6 (by decide) c5 ?_
    refine zx_iconst (v := 0) dX4_push_9 iv_iconst_0 ?_
    refine zx_goto (tgt := 14) dX4_push_10 (by decide) ?_
    exact s_X4_push_b14 hG _ _ _ _ _ _ h
def f_X4_pop_b51 (a0 : Nat) (x2 : Int32) (a3 : Nat) (μ : Mm) : Option (Int32 × Mm) :=
  ck (mK μ a0 = 105) <|
  zl (sR μ a0 3 (some a3)) fun μ29 =>
  some (x2, μ29)
def f_X4_pop_b28 : Nat → Nat → Int32 → Int32 → Nat → Int32 → Mm → Option (Int32 × Mm)
  | 0, _, _, _, _, _, _ => none
  | n + 1, a0, x1, x2, a3, x4, μ =>
  if x1 ≤ x4 then
    f_X4_pop_b51 a0 x2 a3 μ
  else
    ck (mK μ a0 = 105) <|
    bd (mR μ a0 3) fun p19 =>
    ck (isA 1 (mK μ p19)) <|
    ck (inb x4 (mL μ p19)) <|
    ck (isA 1 (mK μ a3)) <|
    ck (inb x4 (mL μ a3)) <|
    zl (sI μ a3 (Int32.toNatClampNeg x4) (mI μ p19 (Int32.toNatClampNeg x4))) fun μ25 =>
    f_X4_pop_b28 n a0 x1 x2 a3 (x4 + 1) μ25
def f_X4_pop (a0 : Nat) (μ : Mm) : Option (Int32 × Mm) :=
  ck (mK μ a0 = 105) <|
  bd (mR μ a0 3) fun p2 =>
  ck (isA1256 (mK μ p2)) <|
  if 0 ≤ ((nI (mL μ p2)) - 1) then
    bd (mR μ a0 3) fun p6 =>
    ck (isA 1 (mK μ p6)) <|
    ck (inb ((nI (mL μ p2)) - 1) (mL μ p6)) <|
    ck (smn ((nI (mL μ p2)) - 1)) <|
    zl (mN μ) fun p11 =>
    zl (nw μ 41 (Int32.toNatClampNeg ((nI (mL μ p2)) - 1)) (Int32.toNatClampNeg ((nI (mL μ p2)) - 1))) fun μ12 =>
    f_X4_pop_b28 5000 a0 ((nI (mL μ p2)) - 1) (mI μ p6 (Int32.toNatClampNeg ((nI (mL μ p2)) - 1))) p11 0 μ12
  else
    some ((-1), μ)
set_option maxRecDepth 100000 in
theorem s_X4_pop_b51 {l : Launch} {G : Gt} (hG : Gok l G) (a0 : Nat) (x2 : Int32) (a3 : Nat) (μ : Mm) (r : Int32) (μ' : Mm) (h : f_X4_pop_b51 a0 x2 a3 μ = some (r, μ')) : ZX l G mX4_pop 51 [(0, .ref a0), (2, .int x2), (3, .ref a3)] [] μ (.inl (some (.int r))) μ' := by
  unfold f_X4_pop_b51 at h
  refine zx_aload_n dX4_pop_51 rfl (q := 0) rfl ?_
  refine zx_aload_n dX4_pop_52 rfl (q := 2) rfl ?_
  obtain ⟨h28, h⟩ := ck_e h
  refine zx_putR hG fl_X4_25 fn_5_3 h28 dX4_pop_53 ?_
  obtain ⟨μ29, e31, h⟩ := zlm_e h
  refine zx_mem e31 ?_
  have e30 : mK μ29 = mK μ := (congrArg mK e31).trans rfl
  refine zx_iload_n dX4_pop_56 rfl (q := 1) rfl ?_
  cases h
  exact zx_iret dX4_pop_57 rfl
set_option maxRecDepth 100000 in
theorem s_X4_pop_b28 {l : Launch} {G : Gt} (hG : Gok l G) : ∀ (n : Nat) (a0 : Nat) (x1 : Int32) (x2 : Int32) (a3 : Nat) (x4 : Int32) (μ : Mm) (r : Int32) (μ' : Mm), f_X4_pop_b28 n a0 x1 x2 a3 x4 μ = some (r, μ') → ZX l G mX4_pop 28 [(0, .ref a0), (1, .int x1), (2, .int x2), (3, .ref a3), (4, .int x4)] [] μ (.inl (some (.int r))) μ' := by
  intro n
  induction n with
  | zero =>
    intro a0 x1 x2 a3 x4 μ r μ' h
    cases h
  | succ n ih =>
    intro a0 x1 x2 a3 x4 μ r μ' h
    unfold f_X4_pop_b28 at h
    refine zx_iload dX4_pop_28 (q := 4) rfl ?_
    refine zx_iload_n dX4_pop_30 rfl (q := 1) rfl ?_
    by_cases c17 : x1 ≤ x4
    · have h := it_t c17 h
      refine zx_icmp_ge_t (tgt := 51) dX4_pop_31 (by decide) c17 ?_
      refine zx_sub (L' := [(0, .ref a0), (2, .int x2), (3, .ref a3)]) [0, 2, 3] rfl ?_
      exact s_X4_pop_b51 hG _ _ _ _ _ _ h
    · have h := it_f c17 h
      refine zx_icmp_ge_f (tgt := 51) dX4_pop_31 (by decide) c17 ?_
      refine zx_aload_n dX4_pop_34 rfl (q := 3) rfl ?_
      refine zx_iload dX4_pop_35 (q := 4) rfl ?_
      refine zx_aload_n dX4_pop_37 rfl (q := 0) rfl ?_
      obtain ⟨h18, h⟩ := ck_e h
      obtain ⟨p19, h20, h⟩ := bd_e h
      refine zx_getR hG fl_X4_25 h18 h20 dX4_pop_38 ?_
      refine zx_iload dX4_pop_41 (q := 4) rfl ?_
      obtain ⟨h21, h⟩ := ck_e h
      obtain ⟨h22, h⟩ := ck_e h
      refine zx_iald hG rfl (h21).1 (h21).2 (inb_e h22) dX4_pop_43 ?_
      obtain ⟨h23, h⟩ := ck_e h
      obtain ⟨h24, h⟩ := ck_e h
      refine zx_iast hG rfl (h23).1 (h23).2 (inb_e h24) dX4_pop_44 ?_
      obtain ⟨μ25, e27, h⟩ := zlm_e h
      refine zx_mem e27 ?_
      have e26 : mK μ25 = mK μ := (congrArg mK e27).trans rfl
      refine zx_iinc (q := 4) (v := x4 + 1) (L' := [(4, .int (x4 + 1)), (0, .ref a0), (1, .int x1), (2, .int x2), (3, .ref a3)]) dX4_pop_45 rfl rfl (by decide) rfl ?_
      refine zx_goto (tgt := 28) dX4_pop_48 (by decide) ?_
      refine zx_sub (L' := [(0, .ref a0), (1, .int x1), (2, .int x2), (3, .ref a3), (4, .int (x4 + 1))]) [1, 2, 3, 4, 0] rfl ?_
      exact ih _ _ _ _ _ _ _ _ h
set_option maxRecDepth 100000 in
theorem s_X4_pop {l : Launch} {G : Gt} (hG : Gok l G) (a0 : Nat) (μ : Mm) (r : Int32) (μ' : Mm) (h : f_X4_pop a0 μ = some (r, μ')) : ZX l G mX4_pop 0 [(0, .ref a0)] [] μ (.inl (some (.int r))) μ' := by
  unfold f_X4_pop at h
  refine zx_aload_n dX4_pop_0 rfl (q := 0) rfl ?_
  obtain ⟨h1, h⟩ := ck_e h
  obtain ⟨p2, h3, h⟩ := bd_e h
  refine zx_getR hG fl_X4_25 h1 h3 dX4_pop_1 ?_
  obtain ⟨h4, h⟩ := ck_e h
  refine zx_alen hG rfl (h4).1 (h4).2 dX4_pop_4 ?_
  refine zx_iconst (v := 1) dX4_pop_5 iv_iconst_1 ?_
  refine zx_isub dX4_pop_6 ?_
  refine zx_istore_n (L' := [(1, .int ((nI (mL μ p2)) - 1)), (0, .ref a0)]) dX4_pop_7 rfl (by decide) rfl ?_
  refine zx_iload_n dX4_pop_8 rfl (q := 0) rfl ?_
  by_cases c5 : 0 ≤ ((nI (mL μ p2)) - 1)
  · have h := it_t c5 h
    refine zx_if_ge_t (tgt := 14) dX4_pop_9 (by decide) c5 ?_
    refine zx_aload_n dX4_pop_14 rfl (q := 1) rfl ?_
    obtain ⟨p6, h7, h⟩ := bd_e h
    refine zx_getR hG fl_X4_25 h1 h7 dX4_pop_15 ?_
    refine zx_iload_n dX4_pop_18 rfl (q := 0) rfl ?_
    obtain ⟨h8, h⟩ := ck_e h
    obtain ⟨h9, h⟩ := ck_e h
    refine zx_iald hG rfl (h8).1 (h8).2 (inb_e h9) dX4_pop_19 ?_
    refine zx_istore_n (L' := [(2, .int (mI μ p6 (Int32.toNatClampNeg ((nI (mL μ p2)) - 1)))), (1, .int ((nI (mL μ p2)) - 1)), (0, .ref a0)]) dX4_pop_20 rfl (by decide) rfl ?_
    refine zx_iload_n dX4_pop_21 rfl (q := 1) rfl ?_
    obtain ⟨h10, h⟩ := ck_e h
    refine zx_newa 41 (at9 := .int) hG w_ac_int (by decide) (by decide) (smn_e h10) (h10).2 dX4_pop_22 ?_
    obtain ⟨p11, e14, h⟩ := zlm_e h
    obtain ⟨μ12, e15, h⟩ := zlm_e h
    refine zx_mem e15 (zx_stk e14 ?_)
    have h13 : mK μ12 p11 = 41 := nw_Kp e15 e14
    have h16 : isA 1 (mK μ12 p11) := by rw [h13]; decide
    refine zx_astore_n (L' := [(3, .ref p11), (2, .int (mI μ p6 (Int32.toNatClampNeg ((nI (mL μ p2)) - 1)))), (1, .int ((nI (mL μ p2)) - 1)), (0, .ref a0)]) dX4_pop_24 rfl (by decide) rfl ?_
    refine zx_iconst (v := 0) dX4_pop_25 iv_iconst_0 ?_
    refine zx_istore (L' := [(4, .int 0), (3, .ref p11), (2, .int (mI μ p6 (Int32.toNatClampNeg ((nI (mL μ p2)) - 1)))), (1, .int ((nI (mL μ p2)) - 1)), (0, .ref a0)]) dX4_pop_26 (by decide) rfl ?_
    refine zx_sub (L' := [(0, .ref a0), (1, .int ((nI (mL μ p2)) - 1)), (2, .int (mI μ p6 (Int32.toNatClampNeg ((nI (mL μ p2)) - 1)))), (3, .ref p11), (4, .int 0)]) [4, 3, 2, 1, 0] rfl ?_
    exact s_X4_pop_b28 hG 5000 _ _ _ _ _ _ _ _ h
  · have h := it_f c5 h
    refine zx_if_ge_f (tgt := 14) dX4_pop_9 (by decide) c5 ?_
    refine zx_iconst (v := (-1)) dX4_pop_12 iv_iconst_m1 ?_
    cases h
    exact zx_iret dX4_pop_13 rfl
