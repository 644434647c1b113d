theorem dX3_doFirstDue_77 : decode cX3_doFirstDue 77 = .ok (.getfield 23, 3) := by decide +kernel
theorem dX3_doFirstDue_80 : decode cX3_doFirstDue 80 = .ok (.iconst 0, 1) := by decide +kernel
theorem dX3_doFirstDue_81 : decode cX3_doFirstDue 81 = .ok (.aload_n 0, 1) := by decide +kernel
theorem dX3_doFirstDue_82 : decode cX3_doFirstDue 82 = .ok (.getfield 12, 3) := by decide +kernel
theorem dX3_doFirstDue_85 : decode cX3_doFirstDue 85 = .ok (.getfield 40, 3) := by decide +kernel
theorem dX3_doFirstDue_88 : decode cX3_doFirstDue 88 = .ok (.iload 5, 2) := by decide +kernel
theorem dX3_doFirstDue_90 : decode cX3_doFirstDue 90 = .ok (.invokevirtual 204, 3) := by decide +kernel
theorem dX3_doFirstDue_93 : decode cX3_doFirstDue 93 = .ok (.aload_n 0, 1) := by decide +kernel
theorem dX3_doFirstDue_94 : decode cX3_doFirstDue 94 = .ok (.getfield 12, 3) := by decide +kernel
theorem dX3_doFirstDue_97 : decode cX3_doFirstDue 97 = .ok (.getfield 40, 3) := by decide +kernel
theorem dX3_doFirstDue_100 : decode cX3_doFirstDue 100 = .ok (.iload 5, 2) := by decide +kernel
theorem dX3_doFirstDue_102 : decode cX3_doFirstDue 102 = .ok (.invokevirtual 98, 3) := by decide +kernel
theorem dX3_doFirstDue_105 : decode cX3_doFirstDue 105 = .ok (.goto 29, 3) := by decide +kernel
theorem dX3_doFirstDue_108 : decode cX3_doFirstDue 108 = .ok (.aload_n 0, 1) := by decide +kernel
theorem dX3_doFirstDue_109 : decode cX3_doFirstDue 109 = .ok (.getfield 23, 3) := by decide +kernel
theorem dX3_doFirstDue_112 : decode cX3_doFirstDue 112 = .ok (.iconst 1, 1) := by decide +kernel
theorem dX3_doFirstDue_113 : decode cX3_doFirstDue 113 = .ok (.aload_n 0, 1) := by decide +kernel
theorem dX3_doFirstDue_114 : decode cX3_doFirstDue 114 = .ok (.getfield 12, 3) := by decide +kernel
theorem dX3_doFirstDue_117 : decode cX3_doFirstDue 117 = .ok (.getfield 31, 3) := by decide +kernel
theorem dX3_doFirstDue_120 : decode cX3_doFirstDue 120 = .ok (.iload 4, 2) := by decide +kernel
theorem dX3_doFirstDue_122 : decode cX3_doFirstDue 122 = .ok (.invokevirtual 204, 3) := by decide +kernel
theorem dX3_doFirstDue_125 : decode cX3_doFirstDue 125 = .ok (.aload_n 0, 1) := by decide +kernel
theorem dX3_doFirstDue_126 : decode cX3_doFirstDue 126 = .ok (.getfield 12, 3) := by decide +kernel
theorem dX3_doFirstDue_129 : decode cX3_doFirstDue 129 = .ok (.iload 4, 2) := by decide +kernel
theorem dX3_doFirstDue_131 : decode cX3_doFirstDue 131 = .ok (.invokevirtual 208, 3) := by decide +kernel
theorem dX3_doFirstDue_134 : decode cX3_doFirstDue 134 = .ok (.iconst 1, 1) := by decide +kernel
theorem dX3_doFirstDue_135 : decode cX3_doFirstDue 135 = .ok (.ireturn, 1) := by decide +kernel
set_option maxRecDepth 20000 in
theorem ggX3_needTimer_X0_placeOf : GoodIn wsX3_needTimer wsX0_placeOf := goodIn_r _ [9, 10, 11, 12, 24, 25, 26, 27, 28, 29, 30, 31] (by decide +kernel) (by decide +kernel)
set_option maxRecDepth 20000 in
theorem gX3_needTimer_X0_placeOf : GoodIn wsX3_needTimer (wsV RX3 95 RX0 yX0_placeOf wsX0_placeOf) := goodIn_app (goodIn_of _ (by decide +kernel)) ggX3_needTimer_X0_placeOf
theorem dX3_needTimer_0 : decode cX3_needTimer 0 = .ok (.aload_n 0, 1) := by decide +kernel
theorem dX3_needTimer_1 : decode cX3_needTimer 1 = .ok (.getfield 12, 3) := by decide +kernel
theorem dX3_needTimer_4 : decode cX3_needTimer 4 = .ok (.getfield 31, 3) := by decide +kernel
theorem dX3_needTimer_7 : decode cX3_needTimer 7 = .ok (.iload_n 1, 1) := by decide +kernel
theorem dX3_needTimer_8 : decode cX3_needTimer 8 = .ok (.invokevirtual 95, 3) := by decide +kernel
theorem dX3_needTimer_11 : decode cX3_needTimer 11 = .ok (.istore_n 2, 1) := by decide +kernel
theorem dX3_needTimer_12 : decode cX3_needTimer 12 = .ok (.iload_n 2, 1) := by decide +kernel
theorem dX3_needTimer_13 : decode cX3_needTimer 13 = .ok (.iconst (-1), 1) := by decide +kernel
theorem dX3_needTimer_14 : decode cX3_needTimer 14 = .ok (.if_icmp .ne 13, 3) := by decide +kernel
theorem dX3_needTimer_17 : decode cX3_needTimer 17 = .ok (.new 127, 3) := by decide +kernel
theorem dX3_needTimer_20 : decode cX3_needTimer 20 = .ok (.dup, 1) := by decide +kernel
theorem dX3_needTimer_21 : decode cX3_needTimer 21 = .ok (.ldc 211, 2) := by decide +kernel
theorem dX3_needTimer_23 : decode cX3_needTimer 23 = .ok (.invokespecial 131, 3) := by decide +kernel
theorem dX3_needTimer_26 : decode cX3_needTimer 26 = .ok (.athrow, 1) := by decide +kernel
theorem dX3_needTimer_27 : decode cX3_needTimer 27 = .ok (.iload_n 2, 1) := by decide +kernel
theorem dX3_needTimer_28 : decode cX3_needTimer 28 = .ok (.ireturn, 1) := by decide +kernel
theorem dX3_needClock_0 : decode cX3_needClock 0 = .ok (.iload_n 0, 1) := by decide +kernel
theorem dX3_needClock_1 : decode cX3_needClock 1 = .ok (.ifCond .lt 8, 3) := by decide +kernel
theorem dX3_needClock_4 : decode cX3_needClock 4 = .ok (.iload_n 0, 1) := by decide +kernel
theorem dX3_needClock_5 : decode cX3_needClock 5 = .ok (.iconst 2, 1) := by decide +kernel
theorem dX3_needClock_6 : decode cX3_needClock 6 = .ok (.if_icmp .lt 13, 3) := by decide +kernel
theorem dX3_needClock_9 : decode cX3_needClock 9 = .ok (.new 57, 3) := by decide +kernel
theorem dX3_needClock_12 : decode cX3_needClock 12 = .ok (.dup, 1) := by decide +kernel
theorem dX3_needClock_13 : decode cX3_needClock 13 = .ok (.ldc 213, 2) := by decide +kernel
theorem dX3_needClock_15 : decode cX3_needClock 15 = .ok (.invokespecial 61, 3) := by decide +kernel
theorem dX3_needClock_18 : decode cX3_needClock 18 = .ok (.athrow, 1) := by decide +kernel
theorem dX3_needClock_19 : decode cX3_needClock 19 = .ok (.return_, 1) := by decide +kernel
theorem dX3_needTime_0 : decode cX3_needTime 0 = .ok (.lload_n 0, 1) := by decide +kernel
theorem dX3_needTime_1 : decode cX3_needTime 1 = .ok (.lconst 0, 1) := by decide +kernel
theorem dX3_needTime_2 : decode cX3_needTime 2 = .ok (.lcmp, 1) := by decide +kernel
theorem dX3_needTime_3 : decode cX3_needTime 3 = .ok (.ifCond .lt 11, 3) := by decide +kernel
theorem dX3_needTime_6 : decode cX3_needTime 6 = .ok (.lload_n 0, 1) := by decide +kernel
theorem dX3_needTime_7 : decode cX3_needTime 7 = .ok (.ldc2_w 215, 3) := by decide +kernel
theorem dX3_needTime_10 : decode cX3_needTime 10 = .ok (.lcmp, 1) := by decide +kernel
theorem dX3_needTime_11 : decode cX3_needTime 11 = .ok (.ifCond .le 13, 3) := by decide +kernel
theorem dX3_needTime_14 : decode cX3_needTime 14 = .ok (.new 57, 3) := by decide +kernel
theorem dX3_needTime_17 : decode cX3_needTime 17 = .ok (.dup, 1) := by decide +kernel
theorem dX3_needTime_18 : decode cX3_needTime 18 = .ok (.ldc 217, 2) := by decide +kernel
theorem dX3_needTime_20 : decode cX3_needTime 20 = .ok (.invokespecial 61, 3) := by decide +kernel
theorem dX3_needTime_23 : decode cX3_needTime 23 = .ok (.athrow, 1) := by decide +kernel
theorem dX3_needTime_24 : decode cX3_needTime 24 = .ok (.return_, 1) := by decide +kernel
theorem dX3_needWhat_0 : decode cX3_needWhat 0 = .ok (.iload_n 0, 1) := by decide +kernel
theorem dX3_needWhat_1 : decode cX3_needWhat 1 = .ok (.ifCond .lt 8, 3) := by decide +kernel
theorem dX3_needWhat_4 : decode cX3_needWhat 4 = .ok (.iload_n 0, 1) := by decide +kernel
theorem dX3_needWhat_5 : decode cX3_needWhat 5 = .ok (.iload_n 1, 1) := by decide +kernel
theorem dX3_needWhat_6 : decode cX3_needWhat 6 = .ok (.if_icmp .le 13, 3) := by decide +kernel
theorem dX3_needWhat_9 : decode cX3_needWhat 9 = .ok (.new 57, 3) := by decide +kernel
theorem dX3_needWhat_12 : decode cX3_needWhat 12 = .ok (.dup, 1) := by decide +kernel
theorem dX3_needWhat_13 : decode cX3_needWhat 13 = .ok (.ldc 219, 2) := by decide +kernel
theorem dX3_needWhat_15 : decode cX3_needWhat 15 = .ok (.invokespecial 61, 3) := by decide +kernel
theorem dX3_needWhat_18 : decode cX3_needWhat 18 = .ok (.athrow, 1) := by decide +kernel
theorem dX3_needWhat_19 : decode cX3_needWhat 19 = .ok (.return_, 1) := by decide +kernel
theorem dX3_needTasks_0 : decode cX3_needTasks 0 = .ok (.iload_n 0, 1) := by decide +kernel
theorem dX3_needTasks_1 : decode cX3_needTasks 1 = .ok (.iconst 1, 1) := by decide +kernel
theorem dX3_needTasks_2 : decode cX3_needTasks 2 = .ok (.if_icmp .lt 10, 3) := by decide +kernel
theorem dX3_needTasks_5 : decode cX3_needTasks 5 = .ok (.iload_n 0, 1) := by decide +kernel
theorem dX3_needTasks_6 : decode cX3_needTasks 6 = .ok (.sipush 128, 3) := by decide +kernel
theorem dX3_needTasks_9 : decode cX3_needTasks 9 = .ok (.if_icmp .le 13, 3) := by decide +kernel
theorem dX3_needTasks_12 : decode cX3_needTasks 12 = .ok (.new 57, 3) := by decide +kernel
theorem dX3_needTasks_15 : decode cX3_needTasks 15 = .ok (.dup, 1) := by decide +kernel
theorem dX3_needTasks_16 : decode cX3_needTasks 16 = .ok (.ldc 221, 2) := by decide +kernel
theorem dX3_needTasks_18 : decode cX3_needTasks 18 = .ok (.invokespecial 61, 3) := by decide +kernel
theorem dX3_needTasks_21 : decode cX3_needTasks 21 = .ok (.athrow, 1) := by decide +kernel
theorem dX3_needTasks_22 : decode cX3_needTasks 22 = .ok (.return_, 1) := by decide +kernel
set_option maxRecDepth 20000 in
theorem ggX3_taskOf_J9_floorMod_f86c9 : GoodIn wsX3_taskOf wsJ9_floorMod_f86c9 := goodIn_r _ [5] (by decide +kernel) (by decide +kernel)
set_option maxRecDepth 20000 in
theorem gX3_taskOf_J9_floorMod_f86c9 : GoodIn wsX3_taskOf (va_wsS RX3 225 yJ9_floorMod_f86c9 wsJ9_floorMod_f86c9) := goodIn_app (goodIn_of _ (by decide +kernel)) ggX3_taskOf_J9_floorMod_f86c9
theorem dX3_taskOf_0 : decode cX3_taskOf 0 = .ok (.lload_n 0, 1) := by decide +kernel
theorem dX3_taskOf_1 : decode cX3_taskOf 1 = .ok (.ldc2_w 223, 3) := by decide +kernel
theorem dX3_taskOf_4 : decode cX3_taskOf 4 = .ok (.invokestatic 225, 3) := by decide +kernel
theorem dX3_taskOf_7 : decode cX3_taskOf 7 = .ok (.l2i, 1) := by decide +kernel
theorem dX3_taskOf_8 : decode cX3_taskOf 8 = .ok (.istore_n 3, 1) := by decide +kernel
theorem dX3_taskOf_9 : decode cX3_taskOf 9 = .ok (.iload_n 3, 1) := by decide +kernel
theorem dX3_taskOf_10 : decode cX3_taskOf 10 = .ok (.iload_n 2, 1) := by decide +kernel
theorem dX3_taskOf_11 : decode cX3_taskOf 11 = .ok (.imul, 1) := by decide +kernel
theorem dX3_taskOf_12 : decode cX3_taskOf 12 = .ok (.sipush 128, 3) := by decide +kernel
theorem dX3_taskOf_15 : decode cX3_taskOf 15 = .ok (.idiv, 1) := by decide +kernel
theorem dX3_taskOf_16 : decode cX3_taskOf 16 = .ok (.ireturn, 1) := by decide +kernel
set_option maxRecDepth 20000 in
theorem ggX4_init_X4_begin : GoodIn wsX4_init wsX4_begin := goodIn_r _ [26, 5, 15, 27, 16, 28, 29, 30, 31, 32, 33, 34, 35, 36, 37, 38, 39, 40, 41, 42, 43, 44, 45, 46, 47] (by decide +kernel) (by decide +kernel)
set_option maxRecDepth 20000 in
theorem gX4_init_X4_begin : GoodIn wsX4_init (wsV RX4 57 RX4 yX4_begin wsX4_begin) := goodIn_app (goodIn_of _ (by decide +kernel)) ggX4_init_X4_begin
theorem dX4_init_0 : decode cX4_init 0 = .ok (.aload_n 0, 1) := by decide +kernel
theorem dX4_init_1 : decode cX4_init 1 = .ok (.invokespecial 1, 3) := by decide +kernel
theorem dX4_init_4 : decode cX4_init 4 = .ok (.aload_n 0, 1) := by decide +kernel
theorem dX4_init_5 : decode cX4_init 5 = .ok (.iconst 4, 1) := by decide +kernel
theorem dX4_init_6 : decode cX4_init 6 = .ok (.newarray .int, 2) := by decide +kernel
theorem dX4_init_8 : decode cX4_init 8 = .ok (.putfield 7, 3) := by decide +kernel
theorem dX4_init_11 : decode cX4_init 11 = .ok (.aload_n 0, 1) := by decide +kernel
theorem dX4_init_12 : decode cX4_init 12 = .ok (.sipush 320, 3) := by decide +kernel
theorem dX4_init_15 : decode cX4_init 15 = .ok (.newarray .boolean, 2) := by decide +kernel
theorem dX4_init_17 : decode cX4_init 17 = .ok (.putfield 13, 3) := by decide +kernel
theorem dX4_init_20 : decode cX4_init 20 = .ok (.aload_n 0, 1) := by decide +kernel
theorem dX4_init_21 : decode cX4_init 21 = .ok (.sipush 320, 3) := by decide +kernel
theorem dX4_init_24 : decode cX4_init 24 = .ok (.newarray .int, 2) := by decide +kernel
theorem dX4_init_26 : decode cX4_init 26 = .ok (.putfield 17, 3) := by decide +kernel
theorem dX4_init_29 : decode cX4_init 29 = .ok (.aload_n 0, 1) := by decide +kernel
theorem dX4_init_30 : decode cX4_init 30 = .ok (.sipush 320, 3) := by decide +kernel
theorem dX4_init_33 : decode cX4_init 33 = .ok (.newarray .int, 2) := by decide +kernel
theorem dX4_init_35 : decode cX4_init 35 = .ok (.putfield 20, 3) := by decide +kernel
theorem dX4_init_38 : decode cX4_init 38 = .ok (.aload_n 0, 1) := by decide +kernel
theorem dX4_init_39 : decode cX4_init 39 = .ok (.sipush 320, 3) := by decide +kernel
theorem dX4_init_42 : decode cX4_init 42 = .ok (.newarray .long, 2) := by decide +kernel
theorem dX4_init_44 : decode cX4_init 44 = .ok (.putfield 23, 3) := by decide +kernel
theorem dX4_init_47 : decode cX4_init 47 = .ok (.aload_n 0, 1) := by decide +kernel
theorem dX4_init_48 : decode cX4_init 48 = .ok (.sipush 320, 3) := by decide +kernel
theorem dX4_init_51 : decode cX4_init 51 = .ok (.newarray .long, 2) := by decide +kernel
theorem dX4_init_53 : decode cX4_init 53 = .ok (.putfield 27, 3) := by decide +kernel
theorem dX4_init_56 : decode cX4_init 56 = .ok (.aload_n 0, 1) := by decide +kernel
theorem dX4_init_57 : decode cX4_init 57 = .ok (.sipush 320, 3) := by decide +kernel
theorem dX4_init_60 : decode cX4_init 60 = .ok (.newarray .long, 2) := by decide +kernel
theorem dX4_init_62 : decode cX4_init 62 = .ok (.putfield 30, 3) := by decide +kernel
theorem dX4_init_65 : decode cX4_init 65 = .ok (.aload_n 0, 1) := by decide +kernel
theorem dX4_init_66 : decode cX4_init 66 = .ok (.sipush 320, 3) := by decide +kernel
theorem dX4_init_69 : decode cX4_init 69 = .ok (.newarray .int, 2) := by decide +kernel
theorem dX4_init_71 : decode cX4_init 71 = .ok (.putfield 33, 3) := by decide +kernel
theorem dX4_init_74 : decode cX4_init 74 = .ok (.aload_n 0, 1) := by decide +kernel
theorem dX4_init_75 : decode cX4_init 75 = .ok (.bipush 8, 2) := by decide +kernel
theorem dX4_init_77 : decode cX4_init 77 = .ok (.newarray .long, 2) := by decide +kernel
theorem dX4_init_79 : decode cX4_init 79 = .ok (.putfield 36, 3) := by decide +kernel
theorem dX4_init_82 : decode cX4_init 82 = .ok (.aload_n 0, 1) := by decide +kernel
theorem dX4_init_83 : decode cX4_init 83 = .ok (.bipush 16, 2) := by decide +kernel
theorem dX4_init_85 : decode cX4_init 85 = .ok (.newarray .int, 2) := by decide +kernel
theorem dX4_init_87 : decode cX4_init 87 = .ok (.putfield 39, 3) := by decide +kernel
theorem dX4_init_90 : decode cX4_init 90 = .ok (.aload_n 0, 1) := by decide +kernel
theorem dX4_init_91 : decode cX4_init 91 = .ok (.sipush 4000, 3) := by decide +kernel
theorem dX4_init_94 : decode cX4_init 94 = .ok (.newarray .int, 2) := by decide +kernel
theorem dX4_init_96 : decode cX4_init 96 = .ok (.putfield 42, 3) := by decide +kernel
theorem dX4_init_99 : decode cX4_init 99 = .ok (.aload_n 0, 1) := by decide +kernel
theorem dX4_init_100 : decode cX4_init 100 = .ok (.sipush 4000, 3) := by decide +kernel
theorem dX4_init_103 : decode cX4_init 103 = .ok (.newarray .int, 2) := by decide +kernel
theorem dX4_init_105 : decode cX4_init 105 = .ok (.putfield 45, 3) := by decide +kernel
theorem dX4_init_108 : decode cX4_init 108 = .ok (.aload_n 0, 1) := by decide +kernel
theorem dX4_init_109 : decode cX4_init 109 = .ok (.sipush 4000, 3) := by decide +kernel
theorem dX4_init_112 : decode cX4_init 112 = .ok (.newarray .long, 2) := by decide +kernel
theorem dX4_init_114 : decode cX4_init 114 = .ok (.putfield 48, 3) := by decide +kernel
theorem dX4_init_117 : decode cX4_init 117 = .ok (.aload_n 0, 1) := by decide +kernel
theorem dX4_init_118 : decode cX4_init 118 = .ok (.sipush 4000, 3) := by decide +kernel
theorem dX4_init_121 : decode cX4_init 121 = .ok (.newarray .long, 2) := by decide +kernel
theorem dX4_init_123 : decode cX4_init 123 = .ok (.putfield 51, 3) := by decide +kernel
theorem dX4_init_126 : decode cX4_init 126 = .ok (.aload_n 0, 1) := by decide +kernel
theorem dX4_init_127 : decode cX4_init 127 = .ok (.sipush 4000, 3) := by decide +kernel
theorem dX4_init_130 : decode cX4_init 130 = .ok (.newarray .int, 2) := by decide +kernel
theorem dX4_init_132 : decode cX4_init 132 = .ok (.putfield 54, 3) := by decide +kernel
theorem dX4_init_135 : decode cX4_init 135 = .ok (.aload_n 0, 1) := by decide +kernel
theorem dX4_init_136 : decode cX4_init 136 = .ok (.invokevirtual 57, 3) := by decide +kernel
theorem dX4_init_139 : decode cX4_init 139 = .ok (.return_, 1) := by decide +kernel
theorem dX4_thrown_0 : decode cX4_thrown 0 = .ok (.aload_n 0, 1) := by decide +kernel
theorem dX4_thrown_1 : decode cX4_thrown 1 = .ok (.getfield 60, 3) := by decide +kernel
theorem dX4_thrown_4 : decode cX4_thrown 4 = .ok (.ireturn, 1) := by decide +kernel
theorem dX4_isGood_0 : decode cX4_isGood 0 = .ok (.aload_n 0, 1) := by decide +kernel
theorem dX4_isGood_1 : decode cX4_isGood 1 = .ok (.iload_n 1, 1) := by decide +kernel
theorem dX4_isGood_2 : decode cX4_isGood 2 = .ok (.putfield 60, 3) := by decide +kernel
theorem dX4_isGood_5 : decode cX4_isGood 5 = .ok (.iload_n 1, 1) := by decide +kernel
theorem dX4_isGood_6 : decode cX4_isGood 6 = .ok (.ifCond .ne 7, 3) := by decide +kernel
theorem dX4_isGood_9 : decode cX4_isGood 9 = .ok (.iconst 1, 1) := by decide +kernel
theorem dX4_isGood_10 : decode cX4_isGood 10 = .ok (.goto 4, 3) := by decide +kernel
theorem dX4_isGood_13 : decode cX4_isGood 13 = .ok (.iconst 0, 1) := by decide +kernel
theorem dX4_isGood_14 : decode cX4_isGood 14 = .ok (.ireturn, 1) := by decide +kernel
theorem dX4_isIn_0 : decode cX4_isIn 0 = .ok (.lload_n 0, 1) := by decide +kernel
theorem dX4_isIn_1 : decode cX4_isIn 1 = .ok (.lload_n 2, 1) := by decide +kernel
theorem dX4_isIn_2 : decode cX4_isIn 2 = .ok (.lcmp, 1) := by decide +kernel
theorem dX4_isIn_3 : decode cX4_isIn 3 = .ok (.ifCond .lt 14, 3) := by decide +kernel
theorem dX4_isIn_6 : decode cX4_isIn 6 = .ok (.lload_n 0, 1) := by decide +kernel
theorem dX4_isIn_7 : decode cX4_isIn 7 = .ok (.lload 4, 2) := by decide +kernel
theorem dX4_isIn_9 : decode cX4_isIn 9 = .ok (.lcmp, 1) := by decide +kernel
theorem dX4_isIn_10 : decode cX4_isIn 10 = .ok (.ifCond .gt 7, 3) := by decide +kernel
theorem dX4_isIn_13 : decode cX4_isIn 13 = .ok (.iconst 1, 1) := by decide +kernel
theorem dX4_isIn_14 : decode cX4_isIn 14 = .ok (.goto 4, 3) := by decide +kernel
theorem dX4_isIn_17 : decode cX4_isIn 17 = .ok (.iconst 0, 1) := by decide +kernel
theorem dX4_isIn_18 : decode cX4_isIn 18 = .ok (.ireturn, 1) := by decide +kernel
theorem dX4_begin_0 : decode cX4_begin 0 = .ok (.aload_n 0, 1) := by decide +kernel
theorem dX4_begin_1 : decode cX4_begin 1 = .ok (.getfield 7, 3) := by decide +kernel
theorem dX4_begin_4 : decode cX4_begin 4 = .ok (.iconst 0, 1) := by decide +kernel
theorem dX4_begin_5 : decode cX4_begin 5 = .ok (.iconst 0, 1) := by decide +kernel
theorem dX4_begin_6 : decode cX4_begin 6 = .ok (.iastore, 1) := by decide +kernel
theorem dX4_begin_7 : decode cX4_begin 7 = .ok (.aload_n 0, 1) := by decide +kernel
theorem dX4_begin_8 : decode cX4_begin 8 = .ok (.getfield 36, 3) := by decide +kernel
theorem dX4_begin_11 : decode cX4_begin 11 = .ok (.iconst 0, 1) := by decide +kernel
theorem dX4_begin_12 : decode cX4_begin 12 = .ok (.ldc2_w 64, 3) := by decide +kernel
theorem dX4_begin_15 : decode cX4_begin 15 = .ok (.lastore, 1) := by decide +kernel
theorem dX4_begin_16 : decode cX4_begin 16 = .ok (.aload_n 0, 1) := by decide +kernel
theorem dX4_begin_17 : decode cX4_begin 17 = .ok (.getfield 36, 3) := by decide +kernel
theorem dX4_begin_20 : decode cX4_begin 20 = .ok (.iconst 1, 1) := by decide +kernel
theorem dX4_begin_21 : decode cX4_begin 21 = .ok (.ldc2_w 64, 3) := by decide +kernel
theorem dX4_begin_24 : decode cX4_begin 24 = .ok (.lastore, 1) := by decide +kernel
theorem dX4_begin_25 : decode cX4_begin 25 = .ok (.aload_n 0, 1) := by decide +kernel
theorem dX4_begin_26 : decode cX4_begin 26 = .ok (.getfield 39, 3) := by decide +kernel
theorem dX4_begin_29 : decode cX4_begin 29 = .ok (.iconst 0, 1) := by decide +kernel
theorem dX4_begin_30 : decode cX4_begin 30 = .ok (.iconst 0, 1) := by decide +kernel
theorem dX4_begin_31 : decode cX4_begin 31 = .ok (.iastore, 1) := by decide +kernel
theorem dX4_begin_32 : decode cX4_begin 32 = .ok (.aload_n 0, 1) := by decide +kernel
theorem dX4_begin_33 : decode cX4_begin 33 = .ok (.getfield 39, 3) := by decide +kernel
theorem dX4_begin_36 : decode cX4_begin 36 = .ok (.iconst 1, 1) := by decide +kernel
theorem dX4_begin_37 : decode cX4_begin 37 = .ok (.iconst 0, 1) := by decide +kernel
theorem dX4_begin_38 : decode cX4_begin 38 = .ok (.iastore, 1) := by decide +kernel
theorem dX4_begin_39 : decode cX4_begin 39 = .ok (.aload_n 0, 1) := by decide +kernel
theorem dX4_begin_40 : decode cX4_begin 40 = .ok (.getfield 39, 3) := by decide +kernel
theorem dX4_begin_43 : decode cX4_begin 43 = .ok (.iconst 2, 1) := by decide +kernel
theorem dX4_begin_44 : decode cX4_begin 44 = .ok (.iconst 0, 1) := by decide +kernel
theorem dX4_begin_45 : decode cX4_begin 45 = .ok (.iastore, 1) := by decide +kernel
theorem dX4_begin_46 : decode cX4_begin 46 = .ok (.aload_n 0, 1) := by decide +kernel
theorem dX4_begin_47 : decode cX4_begin 47 = .ok (.getfield 39, 3) := by decide +kernel
theorem dX4_begin_50 : decode cX4_begin 50 = .ok (.iconst 3, 1) := by decide +kernel
theorem dX4_begin_51 : decode cX4_begin 51 = .ok (.iconst 1, 1) := by decide +kernel
theorem dX4_begin_52 : decode cX4_begin 52 = .ok (.iastore, 1) := by decide +kernel
theorem dX4_begin_53 : decode cX4_begin 53 = .ok (.aload_n 0, 1) := by decide +kernel
theorem dX4_begin_54 : decode cX4_begin 54 = .ok (.iconst 0, 1) := by decide +kernel
theorem dX4_begin_55 : decode cX4_begin 55 = .ok (.putfield 66, 3) := by decide +kernel
theorem dX4_begin_58 : decode cX4_begin 58 = .ok (.aload_n 0, 1) := by decide +kernel
theorem dX4_begin_59 : decode cX4_begin 59 = .ok (.iconst 0, 1) := by decide +kernel
theorem dX4_begin_60 : decode cX4_begin 60 = .ok (.putfield 69, 3) := by decide +kernel
theorem dX4_begin_63 : decode cX4_begin 63 = .ok (.return_, 1) := by decide +kernel
set_option maxRecDepth 20000 in
theorem ggX4_clear_X4_begin : GoodIn wsX4_clear wsX4_begin := goodIn_r _ [7, 2, 8, 9, 10, 11, 12, 13, 14, 15, 16, 17, 18, 19, 20, 21, 22, 23, 24, 25, 26, 27, 28, 29, 30] (by decide +kernel) (by decide +kernel)
set_option maxRecDepth 20000 in
theorem gX4_clear_X4_begin : GoodIn wsX4_clear (wsV RX4 57 RX4 yX4_begin wsX4_begin) := goodIn_app (goodIn_of _ (by decide +kernel)) ggX4_clear_X4_begin
theorem dX4_clear_0 : decode cX4_clear 0 = .ok (.aload_n 0, 1) := by decide +kernel
theorem dX4_clear_1 : decode cX4_clear 1 = .ok (.iconst 0, 1) := by decide +kernel
theorem dX4_clear_2 : decode cX4_clear 2 = .ok (.putfield 60, 3) := by decide +kernel
theorem dX4_clear_5 : decode cX4_clear 5 = .ok (.aload_n 0, 1) := by decide +kernel
theorem dX4_clear_6 : decode cX4_clear 6 = .ok (.getfield 7, 3) := by decide +kernel
theorem dX4_clear_9 : decode cX4_clear 9 = .ok (.iconst 0, 1) := by decide +kernel
theorem dX4_clear_10 : decode cX4_clear 10 = .ok (.iaload, 1) := by decide +kernel
theorem dX4_clear_11 : decode cX4_clear 11 = .ok (.istore_n 1, 1) := by decide +kernel
theorem dX4_clear_12 : decode cX4_clear 12 = .ok (.aload_n 0, 1) := by decide +kernel
theorem dX4_clear_13 : decode cX4_clear 13 = .ok (.invokevirtual 57, 3) := by decide +kernel
theorem dX4_clear_16 : decode cX4_clear 16 = .ok (.iload_n 1, 1) := by decide +kernel
theorem dX4_clear_17 : decode cX4_clear 17 = .ok (.ireturn, 1) := by decide +kernel
theorem dX4_many_0 : decode cX4_many 0 = .ok (.iconst 0, 1) := by decide +kernel
theorem dX4_many_1 : decode cX4_many 1 = .ok (.istore_n 2, 1) := by decide +kernel
theorem dX4_many_2 : decode cX4_many 2 = .ok (.iconst 0, 1) := by decide +kernel
theorem dX4_many_3 : decode cX4_many 3 = .ok (.istore_n 3, 1) := by decide +kernel
theorem dX4_many_4 : decode cX4_many 4 = .ok (.iload_n 3, 1) := by decide +kernel
theorem dX4_many_5 : decode cX4_many 5 = .ok (.aload_n 0, 1) := by decide +kernel
theorem dX4_many_6 : decode cX4_many 6 = .ok (.getfield 7, 3) := by decide +kernel
theorem dX4_many_9 : decode cX4_many 9 = .ok (.iconst 0, 1) := by decide +kernel
theorem dX4_many_10 : decode cX4_many 10 = .ok (.iaload, 1) := by decide +kernel
theorem dX4_many_11 : decode cX4_many 11 = .ok (.if_icmp .ge 27, 3) := by decide +kernel
theorem dX4_many_14 : decode cX4_many 14 = .ok (.iload_n 2, 1) := by decide +kernel
theorem dX4_many_15 : decode cX4_many 15 = .ok (.aload_n 0, 1) := by decide +kernel
theorem dX4_many_16 : decode cX4_many 16 = .ok (.getfield 13, 3) := by decide +kernel
theorem dX4_many_19 : decode cX4_many 19 = .ok (.iload_n 3, 1) := by decide +kernel
theorem dX4_many_20 : decode cX4_many 20 = .ok (.baload, 1) := by decide +kernel
theorem dX4_many_21 : decode cX4_many 21 = .ok (.iload_n 1, 1) := by decide +kernel
theorem dX4_many_22 : decode cX4_many 22 = .ok (.if_icmp .ne 7, 3) := by decide +kernel
theorem dX4_many_25 : decode cX4_many 25 = .ok (.iconst 1, 1) := by decide +kernel
theorem dX4_many_26 : decode cX4_many 26 = .ok (.goto 4, 3) := by decide +kernel
theorem dX4_many_29 : decode cX4_many 29 = .ok (.iconst 0, 1) := by decide +kernel
theorem dX4_many_30 : decode cX4_many 30 = .ok (.iadd, 1) := by decide +kernel
theorem dX4_many_31 : decode cX4_many 31 = .ok (.istore_n 2, 1) := by decide +kernel
theorem dX4_many_32 : decode cX4_many 32 = .ok (.iinc 3 1, 3) := by decide +kernel
theorem dX4_many_35 : decode cX4_many 35 = .ok (.goto (-31), 3) := by decide +kernel
theorem dX4_many_38 : decode cX4_many 38 = .ok (.iload_n 2, 1) := by decide +kernel
theorem dX4_many_39 : decode cX4_many 39 = .ok (.ireturn, 1) := by decide +kernel
theorem dX4_add_0 : decode cX4_add 0 = .ok (.aload_n 0, 1) := by decide +kernel
theorem dX4_add_1 : decode cX4_add 1 = .ok (.getfield 7, 3) := by decide +kernel
theorem dX4_add_4 : decode cX4_add 4 = .ok (.iconst 0, 1) := by decide +kernel
theorem dX4_add_5 : decode cX4_add 5 = .ok (.iaload, 1) := by decide +kernel
theorem dX4_add_6 : decode cX4_add 6 = .ok (.istore 11, 2) := by decide +kernel
theorem dX4_add_8 : decode cX4_add 8 = .ok (.aload_n 0, 1) := by decide +kernel
theorem dX4_add_9 : decode cX4_add 9 = .ok (.getfield 7, 3) := by decide +kernel
theorem dX4_add_12 : decode cX4_add 12 = .ok (.iconst 0, 1) := by decide +kernel
theorem dX4_add_13 : decode cX4_add 13 = .ok (.dup2, 1) := by decide +kernel
theorem dX4_add_14 : decode cX4_add 14 = .ok (.iaload, 1) := by decide +kernel
theorem dX4_add_15 : decode cX4_add 15 = .ok (.iconst 1, 1) := by decide +kernel
theorem dX4_add_16 : decode cX4_add 16 = .ok (.iadd, 1) := by decide +kernel
theorem dX4_add_17 : decode cX4_add 17 = .ok (.iastore, 1) := by decide +kernel
theorem dX4_add_18 : decode cX4_add 18 = .ok (.aload_n 0, 1) := by decide +kernel
theorem dX4_add_19 : decode cX4_add 19 = .ok (.getfield 13, 3) := by decide +kernel
theorem dX4_add_22 : decode cX4_add 22 = .ok (.iload 11, 2) := by decide +kernel
theorem dX4_add_24 : decode cX4_add 24 = .ok (.iload_n 1, 1) := by decide +kernel
theorem dX4_add_25 : decode cX4_add 25 = .ok (.bastore, 1) := by decide +kernel
theorem dX4_add_26 : decode cX4_add 26 = .ok (.aload_n 0, 1) := by decide +kernel
theorem dX4_add_27 : decode cX4_add 27 = .ok (.getfield 17, 3) := by decide +kernel
theorem dX4_add_30 : decode cX4_add 30 = .ok (.iload 11, 2) := by decide +kernel
theorem dX4_add_32 : decode cX4_add 32 = .ok (.iload_n 2, 1) := by decide +kernel
theorem dX4_add_33 : decode cX4_add 33 = .ok (.iastore, 1) := by decide +kernel
theorem dX4_add_34 : decode cX4_add 34 = .ok (.aload_n 0, 1) := by decide +kernel
theorem dX4_add_35 : decode cX4_add 35 = .ok (.getfield 20, 3) := by decide +kernel
theorem dX4_add_38 : decode cX4_add 38 = .ok (.iload 11, 2) := by decide +kernel
theorem dX4_add_40 : decode cX4_add 40 = .ok (.iload_n 3, 1) := by decide +kernel
theorem dX4_add_41 : decode cX4_add 41 = .ok (.iastore, 1) := by decide +kernel
theorem dX4_add_42 : decode cX4_add 42 = .ok (.aload_n 0, 1) := by decide +kernel
theorem dX4_add_43 : decode cX4_add 43 = .ok (.getfield 23, 3) := by decide +kernel
theorem dX4_add_46 : decode cX4_add 46 = .ok (.iload 11, 2) := by decide +kernel
theorem dX4_add_48 : decode cX4_add 48 = .ok (.lload 4, 2) := by decide +kernel
theorem dX4_add_50 : decode cX4_add 50 = .ok (.lastore, 1) := by decide +kernel
theorem dX4_add_51 : decode cX4_add 51 = .ok (.aload_n 0, 1) := by decide +kernel
theorem dX4_add_52 : decode cX4_add 52 = .ok (.getfield 27, 3) := by decide +kernel
theorem dX4_add_55 : decode cX4_add 55 = .ok (.iload 11, 2) := by decide +kernel
theorem dX4_add_57 : decode cX4_add 57 = .ok (.lload 6, 2) := by decide +kernel
theorem dX4_add_59 : decode cX4_add 59 = .ok (.lastore, 1) := by decide +kernel
theorem dX4_add_60 : decode cX4_add 60 = .ok (.aload_n 0, 1) := by decide +kernel
theorem dX4_add_61 : decode cX4_add 61 = .ok (.getfield 30, 3) := by decide +kernel
theorem dX4_add_64 : decode cX4_add 64 = .ok (.iload 11, 2) := by decide +kernel
theorem dX4_add_66 : decode cX4_add 66 = .ok (.lload 8, 2) := by decide +kernel
theorem dX4_add_68 : decode cX4_add 68 = .ok (.lastore, 1) := by decide +kernel
theorem dX4_add_69 : decode cX4_add 69 = .ok (.aload_n 0, 1) := by decide +kernel
theorem dX4_add_70 : decode cX4_add 70 = .ok (.getfield 33, 3) := by decide +kernel
theorem dX4_add_73 : decode cX4_add 73 = .ok (.iload 11, 2) := by decide +kernel
theorem dX4_add_75 : decode cX4_add 75 = .ok (.iload 10, 2) := by decide +kernel
theorem dX4_add_77 : decode cX4_add 77 = .ok (.iastore, 1) := by decide +kernel
theorem dX4_add_78 : decode cX4_add 78 = .ok (.return_, 1) := by decide +kernel
theorem dX4_copy_0 : decode cX4_copy 0 = .ok (.aload_n 0, 1) := by decide +kernel
theorem dX4_copy_1 : decode cX4_copy 1 = .ok (.getfield 13, 3) := by decide +kernel
theorem dX4_copy_4 : decode cX4_copy 4 = .ok (.iload_n 2, 1) := by decide +kernel
theorem dX4_copy_5 : decode cX4_copy 5 = .ok (.aload_n 0, 1) := by decide +kernel
theorem dX4_copy_6 : decode cX4_copy 6 = .ok (.getfield 13, 3) := by decide +kernel
theorem dX4_copy_9 : decode cX4_copy 9 = .ok (.iload_n 1, 1) := by decide +kernel
theorem dX4_copy_10 : decode cX4_copy 10 = .ok (.baload, 1) := by decide +kernel
theorem dX4_copy_11 : decode cX4_copy 11 = .ok (.bastore, 1) := by decide +kernel
theorem dX4_copy_12 : decode cX4_copy 12 = .ok (.aload_n 0, 1) := by decide +kernel
theorem dX4_copy_13 : decode cX4_copy 13 = .ok (.getfield 17, 3) := by decide +kernel
theorem dX4_copy_16 : decode cX4_copy 16 = .ok (.iload_n 2, 1) := by decide +kernel
theorem dX4_copy_17 : decode cX4_copy 17 = .ok (.aload_n 0, 1) := by decide +kernel
theorem dX4_copy_18 : decode cX4_copy 18 = .ok (.getfield 17, 3) := by decide +kernel
theorem dX4_copy_21 : decode cX4_copy 21 = .ok (.iload_n 1, 1) := by decide +kernel
theorem dX4_copy_22 : decode cX4_copy 22 = .ok (.iaload, 1) := by decide +kernel
theorem dX4_copy_23 : decode cX4_copy 23 = .ok (.iastore, 1) := by decide +kernel
theorem dX4_copy_24 : decode cX4_copy 24 = .ok (.aload_n 0, 1) := by decide +kernel
theorem dX4_copy_25 : decode cX4_copy 25 = .ok (.getfield 20, 3) := by decide +kernel
theorem dX4_copy_28 : decode cX4_copy 28 = .ok (.iload_n 2, 1) := by decide +kernel
theorem dX4_copy_29 : decode cX4_copy 29 = .ok (.aload_n 0, 1) := by decide +kernel
theorem dX4_copy_30 : decode cX4_copy 30 = .ok (.getfield 20, 3) := by decide +kernel
theorem dX4_copy_33 : decode cX4_copy 33 = .ok (.iload_n 1, 1) := by decide +kernel
theorem dX4_copy_34 : decode cX4_copy 34 = .ok (.iaload, 1) := by decide +kernel
theorem dX4_copy_35 : decode cX4_copy 35 = .ok (.iastore, 1) := by decide +kernel
theorem dX4_copy_36 : decode cX4_copy 36 = .ok (.aload_n 0, 1) := by decide +kernel
theorem dX4_copy_37 : decode cX4_copy 37 = .ok (.getfield 23, 3) := by decide +kernel
theorem dX4_copy_40 : decode cX4_copy 40 = .ok (.iload_n 2, 1) := by decide +kernel
theorem dX4_copy_41 : decode cX4_copy 41 = .ok (.aload_n 0, 1) := by decide +kernel
theorem dX4_copy_42 : decode cX4_copy 42 = .ok (.getfield 23, 3) := by decide +kernel
theorem dX4_copy_45 : decode cX4_copy 45 = .ok (.iload_n 1, 1) := by decide +kernel
theorem dX4_copy_46 : decode cX4_copy 46 = .ok (.laload, 1) := by decide +kernel
theorem dX4_copy_47 : decode cX4_copy 47 = .ok (.lastore, 1) := by decide +kernel
theorem dX4_copy_48 : decode cX4_copy 48 = .ok (.aload_n 0, 1) := by decide +kernel
theorem dX4_copy_49 : decode cX4_copy 49 = .ok (.getfield 27, 3) := by decide +kernel
theorem dX4_copy_52 : decode cX4_copy 52 = .ok (.iload_n 2, 1) := by decide +kernel
theorem dX4_copy_53 : decode cX4_copy 53 = .ok (.aload_n 0, 1) := by decide +kernel
theorem dX4_copy_54 : decode cX4_copy 54 = .ok (.getfield 27, 3) := by decide +kernel
theorem dX4_copy_57 : decode cX4_copy 57 = .ok (.iload_n 1, 1) := by decide +kernel
theorem dX4_copy_58 : decode cX4_copy 58 = .ok (.laload, 1) := by decide +kernel
theorem dX4_copy_59 : decode cX4_copy 59 = .ok (.lastore, 1) := by decide +kernel
theorem dX4_copy_60 : decode cX4_copy 60 = .ok (.aload_n 0, 1) := by decide +kernel
theorem dX4_copy_61 : decode cX4_copy 61 = .ok (.getfield 30, 3) := by decide +kernel
theorem dX4_copy_64 : decode cX4_copy 64 = .ok (.iload_n 2, 1) := by decide +kernel
theorem dX4_copy_65 : decode cX4_copy 65 = .ok (.aload_n 0, 1) := by decide +kernel
theorem dX4_copy_66 : decode cX4_copy 66 = .ok (.getfield 30, 3) := by decide +kernel
theorem dX4_copy_69 : decode cX4_copy 69 = .ok (.iload_n 1, 1) := by decide +kernel
theorem dX4_copy_70 : decode cX4_copy 70 = .ok (.laload, 1) := by decide +kernel
theorem dX4_copy_71 : decode cX4_copy 71 = .ok (.lastore, 1) := by decide +kernel
theorem dX4_copy_72 : decode cX4_copy 72 = .ok (.aload_n 0, 1) := by decide +kernel
theorem dX4_copy_73 : decode cX4_copy 73 = .ok (.getfield 33, 3) := by decide +kernel
theorem dX4_copy_76 : decode cX4_copy 76 = .ok (.iload_n 2, 1) := by decide +kernel
theorem dX4_copy_77 : decode cX4_copy 77 = .ok (.aload_n 0, 1) := by decide +kernel
theorem dX4_copy_78 : decode cX4_copy 78 = .ok (.getfield 33, 3) := by decide +kernel
theorem dX4_copy_81 : decode cX4_copy 81 = .ok (.iload_n 1, 1) := by decide +kernel
theorem dX4_copy_82 : decode cX4_copy 82 = .ok (.iaload, 1) := by decide +kernel
theorem dX4_copy_83 : decode cX4_copy 83 = .ok (.iastore, 1) := by decide +kernel
theorem dX4_copy_84 : decode cX4_copy 84 = .ok (.return_, 1) := by decide +kernel
set_option maxRecDepth 20000 in
theorem ggX4_take_X4_copy : GoodIn wsX4_take wsX4_copy := goodIn_r _ [6, 7, 8, 9, 10, 11, 12, 13, 14, 15, 16, 17, 18, 19, 20, 21, 22, 23, 24, 25, 26, 27, 28, 29, 30, 31] (by decide +kernel) (by decide +kernel)
set_option maxRecDepth 20000 in
theorem gX4_take_X4_copy : GoodIn wsX4_take (wsV RX4 72 RX4 yX4_copy wsX4_copy) := goodIn_app (goodIn_of _ (by decide +kernel)) ggX4_take_X4_copy
theorem dX4_take_0 : decode cX4_take 0 = .ok (.aload_n 0, 1) := by decide +kernel
theorem dX4_take_1 : decode cX4_take 1 = .ok (.getfield 7, 3) := by decide +kernel
theorem dX4_take_4 : decode cX4_take 4 = .ok (.iconst 0, 1) := by decide +kernel
theorem dX4_take_5 : decode cX4_take 5 = .ok (.dup2, 1) := by decide +kernel
theorem dX4_take_6 : decode cX4_take 6 = .ok (.iaload, 1) := by decide +kernel
theorem dX4_take_7 : decode cX4_take 7 = .ok (.iconst 1, 1) := by decide +kernel
theorem dX4_take_8 : decode cX4_take 8 = .ok (.isub, 1) := by decide +kernel
theorem dX4_take_9 : decode cX4_take 9 = .ok (.iastore, 1) := by decide +kernel
theorem dX4_take_10 : decode cX4_take 10 = .ok (.aload_n 0, 1) := by decide +kernel
theorem dX4_take_11 : decode cX4_take 11 = .ok (.aload_n 0, 1) := by decide +kernel
theorem dX4_take_12 : decode cX4_take 12 = .ok (.getfield 7, 3) := by decide +kernel
theorem dX4_take_15 : decode cX4_take 15 = .ok (.iconst 0, 1) := by decide +kernel
theorem dX4_take_16 : decode cX4_take 16 = .ok (.iaload, 1) := by decide +kernel
theorem dX4_take_17 : decode cX4_take 17 = .ok (.iload_n 1, 1) := by decide +kernel
theorem dX4_take_18 : decode cX4_take 18 = .ok (.invokevirtual 72, 3) := by decide +kernel
theorem dX4_take_21 : decode cX4_take 21 = .ok (.return_, 1) := by decide +kernel
theorem dX4_find_0 : decode cX4_find 0 = .ok (.iconst 0, 1) := by decide +kernel
theorem dX4_find_1 : decode cX4_find 1 = .ok (.istore_n 2, 1) := by decide +kernel
theorem dX4_find_2 : decode cX4_find 2 = .ok (.iload_n 2, 1) := by decide +kernel
theorem dX4_find_3 : decode cX4_find 3 = .ok (.aload_n 0, 1) := by decide +kernel
theorem dX4_find_4 : decode cX4_find 4 = .ok (.getfield 7, 3) := by decide +kernel
theorem dX4_find_7 : decode cX4_find 7 = .ok (.iconst 0, 1) := by decide +kernel
theorem dX4_find_8 : decode cX4_find 8 = .ok (.iaload, 1) := by decide +kernel
theorem dX4_find_9 : decode cX4_find 9 = .ok (.if_icmp .ge 30, 3) := by decide +kernel
theorem dX4_find_12 : decode cX4_find 12 = .ok (.aload_n 0, 1) := by decide +kernel
theorem dX4_find_13 : decode cX4_find 13 = .ok (.getfield 13, 3) := by decide +kernel
theorem dX4_find_16 : decode cX4_find 16 = .ok (.iload_n 2, 1) := by decide +kernel
theorem dX4_find_17 : decode cX4_find 17 = .ok (.baload, 1) := by decide +kernel
theorem dX4_find_18 : decode cX4_find 18 = .ok (.ifCond .eq 15, 3) := by decide +kernel
theorem dX4_find_21 : decode cX4_find 21 = .ok (.aload_n 0, 1) := by decide +kernel
theorem dX4_find_22 : decode cX4_find 22 = .ok (.getfield 20, 3) := by decide +kernel
theorem dX4_find_25 : decode cX4_find 25 = .ok (.iload_n 2, 1) := by decide +kernel
theorem dX4_find_26 : decode cX4_find 26 = .ok (.iaload, 1) := by decide +kernel
theorem dX4_find_27 : decode cX4_find 27 = .ok (.iload_n 1, 1) := by decide +kernel
theorem dX4_find_28 : decode cX4_find 28 = .ok (.if_icmp .ne 5, 3) := by decide +kernel
theorem dX4_find_31 : decode cX4_find 31 = .ok (.iload_n 2, 1) := by decide +kernel
theorem dX4_find_32 : decode cX4_find 32 = .ok (.ireturn, 1) := by decide +kernel
theorem dX4_find_33 : decode cX4_find 33 = .ok (.iinc 2 1, 3) := by decide +kernel
theorem dX4_find_36 : decode cX4_find 36 = .ok (.goto (-34), 3) := by decide +kernel
theorem dX4_find_39 : decode cX4_find 39 = .ok (.iconst (-1), 1) := by decide +kernel
theorem dX4_find_40 : decode cX4_find 40 = .ok (.ireturn, 1) := by decide +kernel
set_option maxRecDepth 20000 in
theorem ggX4_set_X4_isIn : GoodIn wsX4_set wsX4_isIn := goodIn_r _ [8] (by decide +kernel) (by decide +kernel)
set_option maxRecDepth 20000 in
theorem gX4_set_X4_isIn : GoodIn wsX4_set (va_wsS RX4 76 yX4_isIn wsX4_isIn) := goodIn_app (goodIn_of _ (by decide +kernel)) ggX4_set_X4_isIn
set_option maxRecDepth 20000 in
theorem ggX4_set_X4_many : GoodIn wsX4_set wsX4_many := goodIn_r _ [12, 13, 14, 30, 31, 32, 33, 34, 35, 36, 37, 38, 39, 40, 41, 42, 43, 44, 45, 46, 47] (by decide +kernel) (by decide +kernel)
set_option maxRecDepth 20000 in
theorem gX4_set_X4_many : GoodIn wsX4_set (wsV RX4 86 RX4 yX4_many wsX4_many) := goodIn_app (goodIn_of _ (by decide +kernel)) ggX4_set_X4_many
set_option maxRecDepth 20000 in
theorem ggX4_set_X4_isGood : GoodIn wsX4_set wsX4_isGood := goodIn_r _ [18, 19, 30, 31, 32, 33, 34, 35, 36, 37, 38, 39, 40, 41, 42, 43, 44, 45, 46, 47] (by decide +kernel) (by decide +kernel)
set_option maxRecDepth 20000 in
theorem gX4_set_X4_isGood : GoodIn wsX4_set (wsV RX4 90 RX4 yX4_isGood wsX4_isGood) := goodIn_app (goodIn_of _ (by decide +kernel)) ggX4_set_X4_isGood
set_option maxRecDepth 20000 in
theorem ggX4_set_X4_add : GoodIn wsX4_set wsX4_add := goodIn_r _ [23, 13, 14, 24, 25, 26, 27, 28, 29, 30, 31, 32, 33, 34, 35, 36, 37, 38, 39, 40, 41, 42, 43, 44, 45, 46, 47] (by decide +kernel) (by decide +kernel)
set_option maxRecDepth 20000 in
theorem gX4_set_X4_add : GoodIn wsX4_set (wsV RX4 94 RX4 yX4_add wsX4_add) := goodIn_app (goodIn_of _ (by decide +kernel)) ggX4_set_X4_add
theorem dX4_set_0 : decode cX4_set 0 = .ok (.iload_n 1, 1) := by decide +kernel
theorem dX4_set_1 : decode cX4_set 1 = .ok (.i2l, 1) := by decide +kernel
theorem dX4_set_2 : decode cX4_set 2 = .ok (.lconst 0, 1) := by decide +kernel
theorem dX4_set_3 : decode cX4_set 3 = .ok (.lconst 1, 1) := by decide +kernel
theorem dX4_set_4 : decode cX4_set 4 = .ok (.invokestatic 76, 3) := by decide +kernel
theorem dX4_set_7 : decode cX4_set 7 = .ok (.ifCond .eq 44, 3) := by decide +kernel
theorem dX4_set_10 : decode cX4_set 10 = .ok (.lload 4, 2) := by decide +kernel
theorem dX4_set_12 : decode cX4_set 12 = .ok (.lconst 0, 1) := by decide +kernel
theorem dX4_set_13 : decode cX4_set 13 = .ok (.ldc2_w 80, 3) := by decide +kernel
theorem dX4_set_16 : decode cX4_set 16 = .ok (.invokestatic 76, 3) := by decide +kernel
theorem dX4_set_19 : decode cX4_set 19 = .ok (.ifCond .eq 32, 3) := by decide +kernel
theorem dX4_set_22 : decode cX4_set 22 = .ok (.lload 6, 2) := by decide +kernel
theorem dX4_set_24 : decode cX4_set 24 = .ok (.lconst 0, 1) := by decide +kernel
theorem dX4_set_25 : decode cX4_set 25 = .ok (.ldc2_w 82, 3) := by decide +kernel
theorem dX4_set_28 : decode cX4_set 28 = .ok (.invokestatic 76, 3) := by decide +kernel
theorem dX4_set_31 : decode cX4_set 31 = .ok (.ifCond .eq 20, 3) := by decide +kernel
theorem dX4_set_34 : decode cX4_set 34 = .ok (.iload 8, 2) := by decide +kernel
theorem dX4_set_36 : decode cX4_set 36 = .ok (.i2l, 1) := by decide +kernel
theorem dX4_set_37 : decode cX4_set 37 = .ok (.lconst 0, 1) := by decide +kernel
theorem dX4_set_38 : decode cX4_set 38 = .ok (.ldc2_w 84, 3) := by decide +kernel
theorem dX4_set_41 : decode cX4_set 41 = .ok (.invokestatic 76, 3) := by decide +kernel
theorem dX4_set_44 : decode cX4_set 44 = .ok (.ifCond .eq 7, 3) := by decide +kernel
theorem dX4_set_47 : decode cX4_set 47 = .ok (.iconst 1, 1) := by decide +kernel
theorem dX4_set_48 : decode cX4_set 48 = .ok (.goto 4, 3) := by decide +kernel
theorem dX4_set_51 : decode cX4_set 51 = .ok (.iconst 0, 1) := by decide +kernel
theorem dX4_set_52 : decode cX4_set 52 = .ok (.istore 9, 2) := by decide +kernel
theorem dX4_set_54 : decode cX4_set 54 = .ok (.aload_n 0, 1) := by decide +kernel
theorem dX4_set_55 : decode cX4_set 55 = .ok (.iload 9, 2) := by decide +kernel
theorem dX4_set_57 : decode cX4_set 57 = .ok (.ifCond .ne 7, 3) := by decide +kernel
theorem dX4_set_60 : decode cX4_set 60 = .ok (.iconst 1, 1) := by decide +kernel
theorem dX4_set_61 : decode cX4_set 61 = .ok (.goto 18, 3) := by decide +kernel
theorem dX4_set_64 : decode cX4_set 64 = .ok (.aload_n 0, 1) := by decide +kernel
theorem dX4_set_65 : decode cX4_set 65 = .ok (.iconst 1, 1) := by decide +kernel
theorem dX4_set_66 : decode cX4_set 66 = .ok (.invokevirtual 86, 3) := by decide +kernel
theorem dX4_set_69 : decode cX4_set 69 = .ok (.bipush 40, 2) := by decide +kernel
theorem dX4_set_71 : decode cX4_set 71 = .ok (.if_icmp .ne 7, 3) := by decide +kernel
theorem dX4_set_74 : decode cX4_set 74 = .ok (.iconst 2, 1) := by decide +kernel
theorem dX4_set_75 : decode cX4_set 75 = .ok (.goto 4, 3) := by decide +kernel
theorem dX4_set_78 : decode cX4_set 78 = .ok (.iconst 0, 1) := by decide +kernel
theorem dX4_set_79 : decode cX4_set 79 = .ok (.invokevirtual 90, 3) := by decide +kernel
theorem dX4_set_82 : decode cX4_set 82 = .ok (.ifCond .ne 5, 3) := by decide +kernel
theorem dX4_set_85 : decode cX4_set 85 = .ok (.iconst 0, 1) := by decide +kernel
theorem dX4_set_86 : decode cX4_set 86 = .ok (.ireturn, 1) := by decide +kernel
theorem dX4_set_87 : decode cX4_set 87 = .ok (.aload_n 0, 1) := by decide +kernel
theorem dX4_set_88 : decode cX4_set 88 = .ok (.iconst 1, 1) := by decide +kernel
theorem dX4_set_89 : decode cX4_set 89 = .ok (.iload_n 1, 1) := by decide +kernel
theorem dX4_set_90 : decode cX4_set 90 = .ok (.aload_n 0, 1) := by decide +kernel
theorem dX4_set_91 : decode cX4_set 91 = .ok (.getfield 39, 3) := by decide +kernel
theorem dX4_set_94 : decode cX4_set 94 = .ok (.iconst 0, 1) := by decide +kernel
theorem dX4_set_95 : decode cX4_set 95 = .ok (.iaload, 1) := by decide +kernel
theorem dX4_set_96 : decode cX4_set 96 = .ok (.lload_n 2, 1) := by decide +kernel
theorem dX4_set_97 : decode cX4_set 97 = .ok (.lload 4, 2) := by decide +kernel
theorem dX4_set_99 : decode cX4_set 99 = .ok (.lload 6, 2) := by decide +kernel
theorem dX4_set_101 : decode cX4_set 101 = .ok (.iload 8, 2) := by decide +kernel
theorem dX4_set_103 : decode cX4_set 103 = .ok (.invokevirtual 94, 3) := by decide +kernel
theorem dX4_set_106 : decode cX4_set 106 = .ok (.aload_n 0, 1) := by decide +kernel
theorem dX4_set_107 : decode cX4_set 107 = .ok (.getfield 39, 3) := by decide +kernel
theorem dX4_set_110 : decode cX4_set 110 = .ok (.iconst 0, 1) := by decide +kernel
theorem dX4_set_111 : decode cX4_set 111 = .ok (.dup2, 1) := by decide +kernel
theorem dX4_set_112 : decode cX4_set 112 = .ok (.iaload, 1) := by decide +kernel
theorem dX4_set_113 : decode cX4_set 113 = .ok (.iconst 1, 1) := by decide +kernel
theorem dX4_set_114 : decode cX4_set 114 = .ok (.iadd, 1) := by decide +kernel
theorem dX4_set_115 : decode cX4_set 115 = .ok (.iastore, 1) := by decide +kernel
theorem dX4_set_116 : decode cX4_set 116 = .ok (.aload_n 0, 1) := by decide +kernel
theorem dX4_set_117 : decode cX4_set 117 = .ok (.getfield 39, 3) := by decide +kernel
theorem dX4_set_120 : decode cX4_set 120 = .ok (.iconst 0, 1) := by decide +kernel
theorem dX4_set_121 : decode cX4_set 121 = .ok (.iaload, 1) := by decide +kernel
theorem dX4_set_122 : decode cX4_set 122 = .ok (.iconst 1, 1) := by decide +kernel
theorem dX4_set_123 : decode cX4_set 123 = .ok (.isub, 1) := by decide +kernel
theorem dX4_set_124 : decode cX4_set 124 = .ok (.ireturn, 1) := by decide +kernel
set_option maxRecDepth 20000 in
theorem ggX4_move_X4_find : GoodIn wsX4_move wsX4_find := goodIn_r _ [7, 8, 9, 10, 19, 20, 21, 22, 23, 24, 25, 26, 27, 28, 29, 30, 31, 32, 33, 34, 35, 36] (by decide +kernel) (by decide +kernel)
set_option maxRecDepth 20000 in
theorem gX4_move_X4_find : GoodIn wsX4_move (wsV RX4 98 RX4 yX4_find wsX4_find) := goodIn_app (goodIn_of _ (by decide +kernel)) ggX4_move_X4_find
set_option maxRecDepth 20000 in
theorem ggX4_move_X4_isIn : GoodIn wsX4_move wsX4_isIn := goodIn_r _ [13] (by decide +kernel) (by decide +kernel)
set_option maxRecDepth 20000 in
theorem gX4_move_X4_isIn : GoodIn wsX4_move (va_wsS RX4 76 yX4_isIn wsX4_isIn) := goodIn_app (goodIn_of _ (by decide +kernel)) ggX4_move_X4_isIn
set_option maxRecDepth 20000 in
theorem ggX4_move_X4_isGood : GoodIn wsX4_move wsX4_isGood := goodIn_r _ [17, 18, 19, 20, 21, 22, 23, 24, 25, 26, 27, 28, 29, 30, 31, 32, 33, 34, 35, 36] (by decide +kernel) (by decide +kernel)
set_option maxRecDepth 20000 in
theorem gX4_move_X4_isGood : GoodIn wsX4_move (wsV RX4 90 RX4 yX4_isGood wsX4_isGood) := goodIn_app (goodIn_of _ (by decide +kernel)) ggX4_move_X4_isGood
theorem dX4_move_0 : decode cX4_move 0 = .ok (.aload_n 0, 1) := by decide +kernel
theorem dX4_move_1 : decode cX4_move 1 = .ok (.iload_n 1, 1) := by decide +kernel
theorem dX4_move_2 : decode cX4_move 2 = .ok (.invokevirtual 98, 3) := by decide +kernel
theorem dX4_move_5 : decode cX4_move 5 = .ok (.istore 4, 2) := by decide +kernel
theorem dX4_move_7 : decode cX4_move 7 = .ok (.aload_n 0, 1) := by decide +kernel
theorem dX4_move_8 : decode cX4_move 8 = .ok (.lload_n 2, 1) := by decide +kernel
theorem dX4_move_9 : decode cX4_move 9 = .ok (.lconst 0, 1) := by decide +kernel
theorem dX4_move_10 : decode cX4_move 10 = .ok (.ldc2_w 80, 3) := by decide +kernel
theorem dX4_move_13 : decode cX4_move 13 = .ok (.invokestatic 76, 3) := by decide +kernel
theorem dX4_move_16 : decode cX4_move 16 = .ok (.ifCond .ne 7, 3) := by decide +kernel
theorem dX4_move_19 : decode cX4_move 19 = .ok (.iconst 1, 1) := by decide +kernel
theorem dX4_move_20 : decode cX4_move 20 = .ok (.goto 13, 3) := by decide +kernel
theorem dX4_move_23 : decode cX4_move 23 = .ok (.iload 4, 2) := by decide +kernel
theorem dX4_move_25 : decode cX4_move 25 = .ok (.ifCond .ge 7, 3) := by decide +kernel
theorem dX4_move_28 : decode cX4_move 28 = .ok (.iconst 2, 1) := by decide +kernel
theorem dX4_move_29 : decode cX4_move 29 = .ok (.goto 4, 3) := by decide +kernel
theorem dX4_move_32 : decode cX4_move 32 = .ok (.iconst 0, 1) := by decide +kernel
theorem dX4_move_33 : decode cX4_move 33 = .ok (.invokevirtual 90, 3) := by decide +kernel
theorem dX4_move_36 : decode cX4_move 36 = .ok (.ifCond .ne 5, 3) := by decide +kernel
theorem dX4_move_39 : decode cX4_move 39 = .ok (.lconst 0, 1) := by decide +kernel
theorem dX4_move_40 : decode cX4_move 40 = .ok (.lreturn, 1) := by decide +kernel
theorem dX4_move_41 : decode cX4_move 41 = .ok (.aload_n 0, 1) := by decide +kernel
theorem dX4_move_42 : decode cX4_move 42 = .ok (.getfield 27, 3) := by decide +kernel
theorem dX4_move_45 : decode cX4_move 45 = .ok (.iload 4, 2) := by decide +kernel
theorem dX4_move_47 : decode cX4_move 47 = .ok (.laload, 1) := by decide +kernel
theorem dX4_move_48 : decode cX4_move 48 = .ok (.lstore 5, 2) := by decide +kernel
theorem dX4_move_50 : decode cX4_move 50 = .ok (.aload_n 0, 1) := by decide +kernel
theorem dX4_move_51 : decode cX4_move 51 = .ok (.getfield 27, 3) := by decide +kernel
theorem dX4_move_54 : decode cX4_move 54 = .ok (.iload 4, 2) := by decide +kernel
theorem dX4_move_56 : decode cX4_move 56 = .ok (.lload_n 2, 1) := by decide +kernel
theorem dX4_move_57 : decode cX4_move 57 = .ok (.lastore, 1) := by decide +kernel
theorem dX4_move_58 : decode cX4_move 58 = .ok (.lload 5, 2) := by decide +kernel
theorem dX4_move_60 : decode cX4_move 60 = .ok (.lreturn, 1) := by decide +kernel
set_option maxRecDepth 20000 in
theorem ggX4_cancel_X4_find : GoodIn wsX4_cancel wsX4_find := goodIn_r _ [6, 7, 8, 9, 23, 24, 25, 26, 27, 28, 29, 30, 31, 32, 33, 34, 35, 36, 37, 38, 39, 40] (by decide +kernel) (by decide +kernel)
set_option maxRecDepth 20000 in
theorem gX4_cancel_X4_find : GoodIn wsX4_cancel (wsV RX4 98 RX4 yX4_find wsX4_find) := goodIn_app (goodIn_of _ (by decide +kernel)) ggX4_cancel_X4_find
set_option maxRecDepth 20000 in
theorem ggX4_cancel_X4_take : GoodIn wsX4_cancel wsX4_take := goodIn_r _ [13, 7, 14, 15, 16, 5, 17, 8, 18, 9, 19, 20, 21, 22, 23, 24, 25, 26, 27, 28, 29, 30, 31, 32, 33, 34, 35, 36, 37, 38, 39, 40] (by decide +kernel) (by decide +kernel)
set_option maxRecDepth 20000 in
theorem gX4_cancel_X4_take : GoodIn wsX4_cancel (wsV RX4 102 RX4 yX4_take wsX4_take) := goodIn_app (goodIn_of _ (by decide +kernel)) ggX4_cancel_X4_take
theorem dX4_cancel_0 : decode cX4_cancel 0 = .ok (.aload_n 0, 1) := by decide +kernel
theorem dX4_cancel_1 : decode cX4_cancel 1 = .ok (.iconst 0, 1) := by decide +kernel
theorem dX4_cancel_2 : decode cX4_cancel 2 = .ok (.putfield 60, 3) := by decide +kernel
theorem dX4_cancel_5 : decode cX4_cancel 5 = .ok (.aload_n 0, 1) := by decide +kernel
theorem dX4_cancel_6 : decode cX4_cancel 6 = .ok (.iload_n 1, 1) := by decide +kernel
theorem dX4_cancel_7 : decode cX4_cancel 7 = .ok (.invokevirtual 98, 3) := by decide +kernel
theorem dX4_cancel_10 : decode cX4_cancel 10 = .ok (.istore_n 2, 1) := by decide +kernel
theorem dX4_cancel_11 : decode cX4_cancel 11 = .ok (.iload_n 2, 1) := by decide +kernel
theorem dX4_cancel_12 : decode cX4_cancel 12 = .ok (.ifCond .lt 8, 3) := by decide +kernel
theorem dX4_cancel_15 : decode cX4_cancel 15 = .ok (.aload_n 0, 1) := by decide +kernel
theorem dX4_cancel_16 : decode cX4_cancel 16 = .ok (.iload_n 2, 1) := by decide +kernel
theorem dX4_cancel_17 : decode cX4_cancel 17 = .ok (.invokevirtual 102, 3) := by decide +kernel
theorem dX4_cancel_20 : decode cX4_cancel 20 = .ok (.iload_n 2, 1) := by decide +kernel
theorem dX4_cancel_21 : decode cX4_cancel 21 = .ok (.ifCond .lt 7, 3) := by decide +kernel
theorem dX4_cancel_24 : decode cX4_cancel 24 = .ok (.iconst 1, 1) := by decide +kernel
theorem dX4_cancel_25 : decode cX4_cancel 25 = .ok (.goto 4, 3) := by decide +kernel
theorem dX4_cancel_28 : decode cX4_cancel 28 = .ok (.iconst 0, 1) := by decide +kernel
theorem dX4_cancel_29 : decode cX4_cancel 29 = .ok (.ireturn, 1) := by decide +kernel
set_option maxRecDepth 20000 in
theorem ggX4_row_X4_isIn : GoodIn wsX4_row wsX4_isIn := goodIn_r _ [7] (by decide +kernel) (by decide +kernel)
set_option maxRecDepth 20000 in
theorem gX4_row_X4_isIn : GoodIn wsX4_row (va_wsS RX4 76 yX4_isIn wsX4_isIn) := goodIn_app (goodIn_of _ (by decide +kernel)) ggX4_row_X4_isIn
set_option maxRecDepth 20000 in
theorem ggX4_row_X4_isGood : GoodIn wsX4_row wsX4_isGood := goodIn_r _ [11, 12, 29, 30, 31, 32, 33, 34, 35, 36, 37, 38, 39, 40, 41, 42, 43, 44, 45, 46] (by decide +kernel) (by decide +kernel)
set_option maxRecDepth 20000 in
theorem gX4_row_X4_isGood : GoodIn wsX4_row (wsV RX4 90 RX4 yX4_isGood wsX4_isGood) := goodIn_app (goodIn_of _ (by decide +kernel)) ggX4_row_X4_isGood
set_option maxRecDepth 20000 in
theorem ggX4_row_X4_many : GoodIn wsX4_row wsX4_many := goodIn_r _ [16, 17, 18, 29, 30, 31, 32, 33, 34, 35, 36, 37, 38, 39, 40, 41, 42, 43, 44, 45, 46] (by decide +kernel) (by decide +kernel)
set_option maxRecDepth 20000 in
theorem gX4_row_X4_many : GoodIn wsX4_row (wsV RX4 86 RX4 yX4_many wsX4_many) := goodIn_app (goodIn_of _ (by decide +kernel)) ggX4_row_X4_many
set_option maxRecDepth 20000 in
theorem ggX4_row_X4_add : GoodIn wsX4_row wsX4_add := goodIn_r _ [22, 17, 18, 23, 24, 25, 26, 27, 28, 29, 30, 31, 32, 33, 34, 35, 36, 37, 38, 39, 40, 41, 42, 43, 44, 45, 46] (by decide +kernel) (by decide +kernel)
set_option maxRecDepth 20000 in
theorem gX4_row_X4_add : GoodIn wsX4_row (wsV RX4 94 RX4 yX4_add wsX4_add) := goodIn_app (goodIn_of _ (by decide +kernel)) ggX4_row_X4_add
theorem dX4_row_0 : decode cX4_row 0 = .ok (.aload_n 0, 1) := by decide +kernel
theorem dX4_row_1 : decode cX4_row 1 = .ok (.lload_n 3, 1) := by decide +kernel
theorem dX4_row_2 : decode cX4_row 2 = .ok (.lconst 0, 1) := by decide +kernel
theorem dX4_row_3 : decode cX4_row 3 = .ok (.ldc2_w 80, 3) := by decide +kernel
theorem dX4_row_6 : decode cX4_row 6 = .ok (.invokestatic 76, 3) := by decide +kernel
theorem dX4_row_9 : decode cX4_row 9 = .ok (.ifCond .eq 7, 3) := by decide +kernel
theorem dX4_row_12 : decode cX4_row 12 = .ok (.iconst 0, 1) := by decide +kernel
theorem dX4_row_13 : decode cX4_row 13 = .ok (.goto 4, 3) := by decide +kernel
theorem dX4_row_16 : decode cX4_row 16 = .ok (.iconst 1, 1) := by decide +kernel
theorem dX4_row_17 : decode cX4_row 17 = .ok (.invokevirtual 90, 3) := by decide +kernel
theorem dX4_row_20 : decode cX4_row 20 = .ok (.ifCond .ne 5, 3) := by decide +kernel
theorem dX4_row_23 : decode cX4_row 23 = .ok (.iconst 0, 1) := by decide +kernel
theorem dX4_row_24 : decode cX4_row 24 = .ok (.ireturn, 1) := by decide +kernel
theorem dX4_row_25 : decode cX4_row 25 = .ok (.lload_n 3, 1) := by decide +kernel
theorem dX4_row_26 : decode cX4_row 26 = .ok (.aload_n 0, 1) := by decide +kernel
theorem dX4_row_27 : decode cX4_row 27 = .ok (.getfield 36, 3) := by decide +kernel
theorem dX4_row_30 : decode cX4_row 30 = .ok (.iconst 0, 1) := by decide +kernel
theorem dX4_row_31 : decode cX4_row 31 = .ok (.laload, 1) := by decide +kernel
theorem dX4_row_32 : decode cX4_row 32 = .ok (.lcmp, 1) := by decide +kernel
theorem dX4_row_33 : decode cX4_row 33 = .ok (.ifCond .gt 15, 3) := by decide +kernel
theorem dX4_row_36 : decode cX4_row 36 = .ok (.aload_n 0, 1) := by decide +kernel
theorem dX4_row_37 : decode cX4_row 37 = .ok (.getfield 39, 3) := by decide +kernel
theorem dX4_row_40 : decode cX4_row 40 = .ok (.iconst 2, 1) := by decide +kernel
theorem dX4_row_41 : decode cX4_row 41 = .ok (.dup2, 1) := by decide +kernel
theorem dX4_row_42 : decode cX4_row 42 = .ok (.iaload, 1) := by decide +kernel
theorem dX4_row_43 : decode cX4_row 43 = .ok (.iconst 1, 1) := by decide +kernel
theorem dX4_row_44 : decode cX4_row 44 = .ok (.iadd, 1) := by decide +kernel
theorem dX4_row_45 : decode cX4_row 45 = .ok (.iastore, 1) := by decide +kernel
theorem dX4_row_46 : decode cX4_row 46 = .ok (.iconst (-1), 1) := by decide +kernel
theorem dX4_row_47 : decode cX4_row 47 = .ok (.ireturn, 1) := by decide +kernel
theorem dX4_row_48 : decode cX4_row 48 = .ok (.aload_n 0, 1) := by decide +kernel
theorem dX4_row_49 : decode cX4_row 49 = .ok (.aload_n 0, 1) := by decide +kernel
theorem dX4_row_50 : decode cX4_row 50 = .ok (.iconst 0, 1) := by decide +kernel
theorem dX4_row_51 : decode cX4_row 51 = .ok (.invokevirtual 86, 3) := by decide +kernel
theorem dX4_row_54 : decode cX4_row 54 = .ok (.bipush 40, 2) := by decide +kernel
theorem dX4_row_56 : decode cX4_row 56 = .ok (.if_icmp .ne 7, 3) := by decide +kernel
theorem dX4_row_59 : decode cX4_row 59 = .ok (.iconst 2, 1) := by decide +kernel
theorem dX4_row_60 : decode cX4_row 60 = .ok (.goto 4, 3) := by decide +kernel
theorem dX4_row_63 : decode cX4_row 63 = .ok (.iconst 0, 1) := by decide +kernel
theorem dX4_row_64 : decode cX4_row 64 = .ok (.invokevirtual 90, 3) := by decide +kernel
theorem dX4_row_67 : decode cX4_row 67 = .ok (.ifCond .ne 5, 3) := by decide +kernel
theorem dX4_row_70 : decode cX4_row 70 = .ok (.iconst 0, 1) := by decide +kernel
theorem dX4_row_71 : decode cX4_row 71 = .ok (.ireturn, 1) := by decide +kernel
theorem dX4_row_72 : decode cX4_row 72 = .ok (.aload_n 0, 1) := by decide +kernel
theorem dX4_row_73 : decode cX4_row 73 = .ok (.iconst 0, 1) := by decide +kernel
theorem dX4_row_74 : decode cX4_row 74 = .ok (.iconst 0, 1) := by decide +kernel
theorem dX4_row_75 : decode cX4_row 75 = .ok (.aload_n 0, 1) := by decide +kernel
theorem dX4_row_76 : decode cX4_row 76 = .ok (.getfield 39, 3) := by decide +kernel
theorem dX4_row_79 : decode cX4_row 79 = .ok (.iconst 1, 1) := by decide +kernel
theorem dX4_row_80 : decode cX4_row 80 = .ok (.iaload, 1) := by decide +kernel
theorem dX4_row_81 : decode cX4_row 81 = .ok (.lload_n 1, 1) := by decide +kernel
theorem dX4_row_82 : decode cX4_row 82 = .ok (.lload_n 3, 1) := by decide +kernel
theorem dX4_row_83 : decode cX4_row 83 = .ok (.lconst 0, 1) := by decide +kernel
theorem dX4_row_84 : decode cX4_row 84 = .ok (.iconst 0, 1) := by decide +kernel
theorem dX4_row_85 : decode cX4_row 85 = .ok (.invokevirtual 94, 3) := by decide +kernel
theorem dX4_row_88 : decode cX4_row 88 = .ok (.aload_n 0, 1) := by decide +kernel
theorem dX4_row_89 : decode cX4_row 89 = .ok (.getfield 39, 3) := by decide +kernel
theorem dX4_row_92 : decode cX4_row 92 = .ok (.iconst 1, 1) := by decide +kernel
theorem dX4_row_93 : decode cX4_row 93 = .ok (.dup2, 1) := by decide +kernel
theorem dX4_row_94 : decode cX4_row 94 = .ok (.iaload, 1) := by decide +kernel
theorem dX4_row_95 : decode cX4_row 95 = .ok (.iconst 1, 1) := by decide +kernel
theorem dX4_row_96 : decode cX4_row 96 = .ok (.iadd, 1) := by decide +kernel
theorem dX4_row_97 : decode cX4_row 97 = .ok (.iastore, 1) := by decide +kernel
theorem dX4_row_98 : decode cX4_row 98 = .ok (.aload_n 0, 1) := by decide +kernel
theorem dX4_row_99 : decode cX4_row 99 = .ok (.getfield 39, 3) := by decide +kernel
theorem dX4_row_102 : decode cX4_row 102 = .ok (.iconst 1, 1) := by decide +kernel
theorem dX4_row_103 : decode cX4_row 103 = .ok (.iaload, 1) := by decide +kernel
theorem dX4_row_104 : decode cX4_row 104 = .ok (.iconst 1, 1) := by decide +kernel
theorem dX4_row_105 : decode cX4_row 105 = .ok (.isub, 1) := by decide +kernel
theorem dX4_row_106 : decode cX4_row 106 = .ok (.ireturn, 1) := by decide +kernel
theorem dX4_first_0 : decode cX4_first 0 = .ok (.aload_n 0, 1) := by decide +kernel
theorem dX4_first_1 : decode cX4_first 1 = .ok (.iconst 0, 1) := by decide +kernel
theorem dX4_first_2 : decode cX4_first 2 = .ok (.putfield 60, 3) := by decide +kernel
theorem dX4_first_5 : decode cX4_first 5 = .ok (.aload_n 0, 1) := by decide +kernel
theorem dX4_first_6 : decode cX4_first 6 = .ok (.getfield 39, 3) := by decide +kernel
theorem dX4_first_9 : decode cX4_first 9 = .ok (.iconst 3, 1) := by decide +kernel
theorem dX4_first_10 : decode cX4_first 10 = .ok (.iaload, 1) := by decide +kernel
theorem dX4_first_11 : decode cX4_first 11 = .ok (.iconst 1, 1) := by decide +kernel
theorem dX4_first_12 : decode cX4_first 12 = .ok (.if_icmp .ne 7, 3) := by decide +kernel
theorem dX4_first_15 : decode cX4_first 15 = .ok (.iconst 1, 1) := by decide +kernel
theorem dX4_first_16 : decode cX4_first 16 = .ok (.goto 4, 3) := by decide +kernel
theorem dX4_first_19 : decode cX4_first 19 = .ok (.iconst 0, 1) := by decide +kernel
theorem dX4_first_20 : decode cX4_first 20 = .ok (.istore_n 2, 1) := by decide +kernel
theorem dX4_first_21 : decode cX4_first 21 = .ok (.aload_n 0, 1) := by decide +kernel
theorem dX4_first_22 : decode cX4_first 22 = .ok (.getfield 39, 3) := by decide +kernel
theorem dX4_first_25 : decode cX4_first 25 = .ok (.iconst 3, 1) := by decide +kernel
theorem dX4_first_26 : decode cX4_first 26 = .ok (.iload_n 1, 1) := by decide +kernel
theorem dX4_first_27 : decode cX4_first 27 = .ok (.ifCond .eq 7, 3) := by decide +kernel
theorem dX4_first_30 : decode cX4_first 30 = .ok (.iconst 1, 1) := by decide +kernel
theorem dX4_first_31 : decode cX4_first 31 = .ok (.goto 4, 3) := by decide +kernel
theorem dX4_first_34 : decode cX4_first 34 = .ok (.iconst 0, 1) := by decide +kernel
theorem dX4_first_35 : decode cX4_first 35 = .ok (.iastore, 1) := by decide +kernel
theorem dX4_first_36 : decode cX4_first 36 = .ok (.iload_n 2, 1) := by decide +kernel
theorem dX4_first_37 : decode cX4_first 37 = .ok (.ireturn, 1) := by decide +kernel
theorem dX4_isAhead_0 : decode cX4_isAhead 0 = .ok (.aload_n 0, 1) := by decide +kernel
theorem dX4_isAhead_1 : decode cX4_isAhead 1 = .ok (.getfield 27, 3) := by decide +kernel
theorem dX4_isAhead_4 : decode cX4_isAhead 4 = .ok (.iload_n 1, 1) := by decide +kernel
theorem dX4_isAhead_5 : decode cX4_isAhead 5 = .ok (.laload, 1) := by decide +kernel
theorem dX4_isAhead_6 : decode cX4_isAhead 6 = .ok (.aload_n 0, 1) := by decide +kernel
theorem dX4_isAhead_7 : decode cX4_isAhead 7 = .ok (.getfield 27, 3) := by decide +kernel
theorem dX4_isAhead_10 : decode cX4_isAhead 10 = .ok (.iload_n 2, 1) := by decide +kernel
theorem dX4_isAhead_11 : decode cX4_isAhead 11 = .ok (.laload, 1) := by decide +kernel
theorem dX4_isAhead_12 : decode cX4_isAhead 12 = .ok (.lcmp, 1) := by decide +kernel
theorem dX4_isAhead_13 : decode cX4_isAhead 13 = .ok (.ifCond .eq 25, 3) := by decide +kernel
theorem dX4_isAhead_16 : decode cX4_isAhead 16 = .ok (.aload_n 0, 1) := by decide +kernel
theorem dX4_isAhead_17 : decode cX4_isAhead 17 = .ok (.getfield 27, 3) := by decide +kernel
theorem dX4_isAhead_20 : decode cX4_isAhead 20 = .ok (.iload_n 1, 1) := by decide +kernel
theorem dX4_isAhead_21 : decode cX4_isAhead 21 = .ok (.laload, 1) := by decide +kernel
theorem dX4_isAhead_22 : decode cX4_isAhead 22 = .ok (.aload_n 0, 1) := by decide +kernel
theorem dX4_isAhead_23 : decode cX4_isAhead 23 = .ok (.getfield 27, 3) := by decide +kernel
theorem dX4_isAhead_26 : decode cX4_isAhead 26 = .ok (.iload_n 2, 1) := by decide +kernel
theorem dX4_isAhead_27 : decode cX4_isAhead 27 = .ok (.laload, 1) := by decide +kernel
theorem dX4_isAhead_28 : decode cX4_isAhead 28 = .ok (.lcmp, 1) := by decide +kernel
theorem dX4_isAhead_29 : decode cX4_isAhead 29 = .ok (.ifCond .ge 7, 3) := by decide +kernel
theorem dX4_isAhead_32 : decode cX4_isAhead 32 = .ok (.iconst 1, 1) := by decide +kernel
theorem dX4_isAhead_33 : decode cX4_isAhead 33 = .ok (.goto 4, 3) := by decide +kernel
theorem dX4_isAhead_36 : decode cX4_isAhead 36 = .ok (.iconst 0, 1) := by decide +kernel
theorem dX4_isAhead_37 : decode cX4_isAhead 37 = .ok (.ireturn, 1) := by decide +kernel
theorem dX4_isAhead_38 : decode cX4_isAhead 38 = .ok (.aload_n 0, 1) := by decide +kernel
theorem dX4_isAhead_39 : decode cX4_isAhead 39 = .ok (.getfield 13, 3) := by decide +kernel
theorem dX4_isAhead_42 : decode cX4_isAhead 42 = .ok (.iload_n 1, 1) := by decide +kernel
theorem dX4_isAhead_43 : decode cX4_isAhead 43 = .ok (.baload, 1) := by decide +kernel
theorem dX4_isAhead_44 : decode cX4_isAhead 44 = .ok (.aload_n 0, 1) := by decide +kernel
theorem dX4_isAhead_45 : decode cX4_isAhead 45 = .ok (.getfield 13, 3) := by decide +kernel
theorem dX4_isAhead_48 : decode cX4_isAhead 48 = .ok (.iload_n 2, 1) := by decide +kernel
theorem dX4_isAhead_49 : decode cX4_isAhead 49 = .ok (.baload, 1) := by decide +kernel
theorem dX4_isAhead_50 : decode cX4_isAhead 50 = .ok (.if_icmp .eq 33, 3) := by decide +kernel
theorem dX4_isAhead_53 : decode cX4_isAhead 53 = .ok (.aload_n 0, 1) := by decide +kernel
theorem dX4_isAhead_54 : decode cX4_isAhead 54 = .ok (.getfield 13, 3) := by decide +kernel
theorem dX4_isAhead_57 : decode cX4_isAhead 57 = .ok (.iload_n 1, 1) := by decide +kernel
theorem dX4_isAhead_58 : decode cX4_isAhead 58 = .ok (.baload, 1) := by decide +kernel
theorem dX4_isAhead_59 : decode cX4_isAhead 59 = .ok (.aload_n 0, 1) := by decide +kernel
theorem dX4_isAhead_60 : decode cX4_isAhead 60 = .ok (.getfield 39, 3) := by decide +kernel
theorem dX4_isAhead_63 : decode cX4_isAhead 63 = .ok (.iconst 3, 1) := by decide +kernel
theorem dX4_isAhead_64 : decode cX4_isAhead 64 = .ok (.iaload, 1) := by decide +kernel
theorem dX4_isAhead_65 : decode cX4_isAhead 65 = .ok (.iconst 1, 1) := by decide +kernel
theorem dX4_isAhead_66 : decode cX4_isAhead 66 = .ok (.if_icmp .ne 7, 3) := by decide +kernel
theorem dX4_isAhead_69 : decode cX4_isAhead 69 = .ok (.iconst 1, 1) := by decide +kernel
theorem dX4_isAhead_70 : decode cX4_isAhead 70 = .ok (.goto 4, 3) := by decide +kernel
theorem dX4_isAhead_73 : decode cX4_isAhead 73 = .ok (.iconst 0, 1) := by decide +kernel
theorem dX4_isAhead_74 : decode cX4_isAhead 74 = .ok (.if_icmp .eq 7, 3) := by decide +kernel
theorem dX4_isAhead_77 : decode cX4_isAhead 77 = .ok (.iconst 1, 1) := by decide +kernel
theorem dX4_isAhead_78 : decode cX4_isAhead 78 = .ok (.goto 4, 3) := by decide +kernel
theorem dX4_isAhead_81 : decode cX4_isAhead 81 = .ok (.iconst 0, 1) := by decide +kernel
theorem dX4_isAhead_82 : decode cX4_isAhead 82 = .ok (.ireturn, 1) := by decide +kernel
theorem dX4_isAhead_83 : decode cX4_isAhead 83 = .ok (.aload_n 0, 1) := by decide +kernel
theorem dX4_isAhead_84 : decode cX4_isAhead 84 = .ok (.getfield 23, 3) := by decide +kernel
theorem dX4_isAhead_87 : decode cX4_isAhead 87 = .ok (.iload_n 1, 1) := by decide +kernel
theorem dX4_isAhead_88 : decode cX4_isAhead 88 = .ok (.laload, 1) := by decide +kernel
theorem dX4_isAhead_89 : decode cX4_isAhead 89 = .ok (.aload_n 0, 1) := by decide +kernel
theorem dX4_isAhead_90 : decode cX4_isAhead 90 = .ok (.getfield 23, 3) := by decide +kernel
theorem dX4_isAhead_93 : decode cX4_isAhead 93 = .ok (.iload_n 2, 1) := by decide +kernel
theorem dX4_isAhead_94 : decode cX4_isAhead 94 = .ok (.laload, 1) := by decide +kernel
theorem dX4_isAhead_95 : decode cX4_isAhead 95 = .ok (.lcmp, 1) := by decide +kernel
theorem dX4_isAhead_96 : decode cX4_isAhead 96 = .ok (.ifCond .eq 27, 3) := by decide +kernel
theorem dX4_isAhead_99 : decode cX4_isAhead 99 = .ok (.aload_n 0, 1) := by decide +kernel
theorem dX4_isAhead_100 : decode cX4_isAhead 100 = .ok (.getfield 23, 3) := by decide +kernel
theorem dX4_isAhead_103 : decode cX4_isAhead 103 = .ok (.iload_n 1, 1) := by decide +kernel
theorem dX4_isAhead_104 : decode cX4_isAhead 104 = .ok (.laload, 1) := by decide +kernel
theorem dX4_isAhead_105 : decode cX4_isAhead 105 = .ok (.aload_n 0, 1) := by decide +kernel
theorem dX4_isAhead_106 : decode cX4_isAhead 106 = .ok (.getfield 23, 3) := by decide +kernel
theorem dX4_isAhead_109 : decode cX4_isAhead 109 = .ok (.iload_n 2, 1) := by decide +kernel
theorem dX4_isAhead_110 : decode cX4_isAhead 110 = .ok (.laload, 1) := by decide +kernel
theorem dX4_isAhead_111 : decode cX4_isAhead 111 = .ok (.lcmp, 1) := by decide +kernel
theorem dX4_isAhead_112 : decode cX4_isAhead 112 = .ok (.ifCond .ge 7, 3) := by decide +kernel
theorem dX4_isAhead_115 : decode cX4_isAhead 115 = .ok (.iconst 1, 1) := by decide +kernel
theorem dX4_isAhead_116 : decode cX4_isAhead 116 = .ok (.goto 27, 3) := by decide +kernel
theorem dX4_isAhead_119 : decode cX4_isAhead 119 = .ok (.iconst 0, 1) := by decide +kernel
theorem dX4_isAhead_120 : decode cX4_isAhead 120 = .ok (.goto 23, 3) := by decide +kernel
theorem dX4_isAhead_123 : decode cX4_isAhead 123 = .ok (.aload_n 0, 1) := by decide +kernel
theorem dX4_isAhead_124 : decode cX4_isAhead 124 = .ok (.getfield 20, 3) := by decide +kernel
theorem dX4_isAhead_127 : decode cX4_isAhead 127 = .ok (.iload_n 1, 1) := by decide +kernel
theorem dX4_isAhead_128 : decode cX4_isAhead 128 = .ok (.iaload, 1) := by decide +kernel
theorem dX4_isAhead_129 : decode cX4_isAhead 129 = .ok (.aload_n 0, 1) := by decide +kernel
theorem dX4_isAhead_130 : decode cX4_isAhead 130 = .ok (.getfield 20, 3) := by decide +kernel
theorem dX4_isAhead_133 : decode cX4_isAhead 133 = .ok (.iload_n 2, 1) := by decide +kernel
theorem dX4_isAhead_134 : decode cX4_isAhead 134 = .ok (.iaload, 1) := by decide +kernel
theorem dX4_isAhead_135 : decode cX4_isAhead 135 = .ok (.if_icmp .ge 7, 3) := by decide +kernel
theorem dX4_isAhead_138 : decode cX4_isAhead 138 = .ok (.iconst 1, 1) := by decide +kernel
theorem dX4_isAhead_139 : decode cX4_isAhead 139 = .ok (.goto 4, 3) := by decide +kernel
theorem dX4_isAhead_142 : decode cX4_isAhead 142 = .ok (.iconst 0, 1) := by decide +kernel
theorem dX4_isAhead_143 : decode cX4_isAhead 143 = .ok (.ireturn, 1) := by decide +kernel
set_option maxRecDepth 20000 in
theorem ggX4_leastOf_X4_isAhead : GoodIn wsX4_leastOf wsX4_isAhead := goodIn_r _ [9, 3, 4, 10, 11, 12, 13, 14, 15, 16, 17, 18, 19, 20, 21, 22, 23, 24, 25, 26, 27, 28, 29, 30] (by decide +kernel) (by decide +kernel)
set_option maxRecDepth 20000 in
theorem gX4_leastOf_X4_isAhead : GoodIn wsX4_leastOf (wsV RX4 106 RX4 yX4_isAhead wsX4_isAhead) := goodIn_app (goodIn_of _ (by decide +kernel)) ggX4_leastOf_X4_isAhead
theorem dX4_leastOf_0 : decode cX4_leastOf 0 = .ok (.iconst (-1), 1) := by decide +kernel
theorem dX4_leastOf_1 : decode cX4_leastOf 1 = .ok (.istore 5, 2) := by decide +kernel
theorem dX4_leastOf_3 : decode cX4_leastOf 3 = .ok (.iconst 0, 1) := by decide +kernel
