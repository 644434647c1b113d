theorem dX2_rowGoesAhead_13 : decode cX2_rowGoesAhead 13 = .ok (.iload_n 2, 1) := by decide +kernel
theorem dX2_rowGoesAhead_14 : decode cX2_rowGoesAhead 14 = .ok (.invokevirtual 63, 3) := by decide +kernel
theorem dX2_rowGoesAhead_17 : decode cX2_rowGoesAhead 17 = .ok (.lstore 5, 2) := by decide +kernel
theorem dX2_rowGoesAhead_19 : decode cX2_rowGoesAhead 19 = .ok (.lload_n 3, 1) := by decide +kernel
theorem dX2_rowGoesAhead_20 : decode cX2_rowGoesAhead 20 = .ok (.lload 5, 2) := by decide +kernel
theorem dX2_rowGoesAhead_22 : decode cX2_rowGoesAhead 22 = .ok (.lcmp, 1) := by decide +kernel
theorem dX2_rowGoesAhead_23 : decode cX2_rowGoesAhead 23 = .ok (.ifCond .ne 10, 3) := by decide +kernel
theorem dX2_rowGoesAhead_26 : decode cX2_rowGoesAhead 26 = .ok (.aload_n 0, 1) := by decide +kernel
theorem dX2_rowGoesAhead_27 : decode cX2_rowGoesAhead 27 = .ok (.getfield 49, 3) := by decide +kernel
theorem dX2_rowGoesAhead_30 : decode cX2_rowGoesAhead 30 = .ok (.goto 15, 3) := by decide +kernel
theorem dX2_rowGoesAhead_33 : decode cX2_rowGoesAhead 33 = .ok (.lload_n 3, 1) := by decide +kernel
theorem dX2_rowGoesAhead_34 : decode cX2_rowGoesAhead 34 = .ok (.lload 5, 2) := by decide +kernel
theorem dX2_rowGoesAhead_36 : decode cX2_rowGoesAhead 36 = .ok (.lcmp, 1) := by decide +kernel
theorem dX2_rowGoesAhead_37 : decode cX2_rowGoesAhead 37 = .ok (.ifCond .ge 7, 3) := by decide +kernel
theorem dX2_rowGoesAhead_40 : decode cX2_rowGoesAhead 40 = .ok (.iconst 1, 1) := by decide +kernel
theorem dX2_rowGoesAhead_41 : decode cX2_rowGoesAhead 41 = .ok (.goto 4, 3) := by decide +kernel
theorem dX2_rowGoesAhead_44 : decode cX2_rowGoesAhead 44 = .ok (.iconst 0, 1) := by decide +kernel
theorem dX2_rowGoesAhead_45 : decode cX2_rowGoesAhead 45 = .ok (.ireturn, 1) := by decide +kernel
set_option maxRecDepth 20000 in
theorem ggX2_finishTimer_X2_takeTimerNumber : GoodIn wsX2_finishTimer wsX2_takeTimerNumber := goodIn_r _ [8, 9, 43, 44, 45, 46, 47, 48, 49] (by decide +kernel) (by decide +kernel)
set_option maxRecDepth 20000 in
theorem gX2_finishTimer_X2_takeTimerNumber : GoodIn wsX2_finishTimer (wsV RX2 74 RX2 yX2_takeTimerNumber wsX2_takeTimerNumber) := goodIn_app (goodIn_of _ (by decide +kernel)) ggX2_finishTimer_X2_takeTimerNumber
set_option maxRecDepth 20000 in
theorem ggX2_finishTimer_X0_setAgain : GoodIn wsX2_finishTimer wsX0_setAgain := goodIn_r _ [14, 15, 16, 17, 18, 19, 20, 21, 22, 23, 13, 24, 25, 26, 27, 28, 29, 30, 31, 32, 33, 34, 35, 36, 37, 38, 39, 40, 41, 50, 51, 52, 53, 54, 55, 56, 57] (by decide +kernel) (by decide +kernel)
set_option maxRecDepth 20000 in
theorem gX2_finishTimer_X0_setAgain : GoodIn wsX2_finishTimer (wsV RX2 78 RX0 yX0_setAgain wsX0_setAgain) := goodIn_app (goodIn_of _ (by decide +kernel)) ggX2_finishTimer_X0_setAgain
set_option maxRecDepth 20000 in
theorem ggX2_finishTimer_X0_leave : GoodIn wsX2_finishTimer wsX0_leave := goodIn_r _ [24, 15, 16, 25, 26, 27, 28, 50, 51, 52, 53, 54, 55, 56, 57] (by decide +kernel) (by decide +kernel)
set_option maxRecDepth 20000 in
theorem gX2_finishTimer_X0_leave : GoodIn wsX2_finishTimer (wsV RX2 82 RX0 yX0_leave wsX0_leave) := goodIn_app (goodIn_of _ (by decide +kernel)) ggX2_finishTimer_X0_leave
theorem dX2_finishTimer_0 : decode cX2_finishTimer 0 = .ok (.aload_n 0, 1) := by decide +kernel
theorem dX2_finishTimer_1 : decode cX2_finishTimer 1 = .ok (.getfield 12, 3) := by decide +kernel
theorem dX2_finishTimer_4 : decode cX2_finishTimer 4 = .ok (.getfield 67, 3) := by decide +kernel
theorem dX2_finishTimer_7 : decode cX2_finishTimer 7 = .ok (.aload_n 0, 1) := by decide +kernel
theorem dX2_finishTimer_8 : decode cX2_finishTimer 8 = .ok (.getfield 12, 3) := by decide +kernel
theorem dX2_finishTimer_11 : decode cX2_finishTimer 11 = .ok (.getfield 71, 3) := by decide +kernel
theorem dX2_finishTimer_14 : decode cX2_finishTimer 14 = .ok (.iload_n 1, 1) := by decide +kernel
theorem dX2_finishTimer_15 : decode cX2_finishTimer 15 = .ok (.iaload, 1) := by decide +kernel
theorem dX2_finishTimer_16 : decode cX2_finishTimer 16 = .ok (.iaload, 1) := by decide +kernel
theorem dX2_finishTimer_17 : decode cX2_finishTimer 17 = .ok (.ifCond .le 18, 3) := by decide +kernel
theorem dX2_finishTimer_20 : decode cX2_finishTimer 20 = .ok (.aload_n 0, 1) := by decide +kernel
theorem dX2_finishTimer_21 : decode cX2_finishTimer 21 = .ok (.getfield 12, 3) := by decide +kernel
theorem dX2_finishTimer_24 : decode cX2_finishTimer 24 = .ok (.iload_n 1, 1) := by decide +kernel
theorem dX2_finishTimer_25 : decode cX2_finishTimer 25 = .ok (.aload_n 0, 1) := by decide +kernel
theorem dX2_finishTimer_26 : decode cX2_finishTimer 26 = .ok (.invokevirtual 74, 3) := by decide +kernel
theorem dX2_finishTimer_29 : decode cX2_finishTimer 29 = .ok (.invokevirtual 78, 3) := by decide +kernel
theorem dX2_finishTimer_32 : decode cX2_finishTimer 32 = .ok (.goto 11, 3) := by decide +kernel
theorem dX2_finishTimer_35 : decode cX2_finishTimer 35 = .ok (.aload_n 0, 1) := by decide +kernel
theorem dX2_finishTimer_36 : decode cX2_finishTimer 36 = .ok (.getfield 12, 3) := by decide +kernel
theorem dX2_finishTimer_39 : decode cX2_finishTimer 39 = .ok (.iload_n 1, 1) := by decide +kernel
theorem dX2_finishTimer_40 : decode cX2_finishTimer 40 = .ok (.invokevirtual 82, 3) := by decide +kernel
theorem dX2_finishTimer_43 : decode cX2_finishTimer 43 = .ok (.return_, 1) := by decide +kernel
set_option maxRecDepth 20000 in
theorem ggX3_init_X2_init : GoodIn wsX3_init wsX2_init := goodIn_r _ [16, 17, 2, 3, 18, 19, 20, 21, 22, 23, 24, 25, 26, 27, 28, 29, 30, 31, 32, 33, 34, 35, 36, 37, 38, 39, 40, 6, 41, 42, 43, 44, 45, 46, 47, 48, 49, 50, 51, 77, 78, 79, 80, 81, 82, 83, 84, 60, 61, 62, 63, 64, 65, 66] (by decide +kernel) (by decide +kernel)
set_option maxRecDepth 20000 in
theorem gX3_init_X2_init : GoodIn wsX3_init (wsX2_init) := ggX3_init_X2_init
set_option maxRecDepth 20000 in
theorem ggX3_init_X1_init : GoodIn wsX3_init wsX1_init := goodIn_r _ [53, 54, 2, 3, 29, 55, 56, 23, 57, 58, 59, 71, 72, 73, 74, 75, 76] (by decide +kernel) (by decide +kernel)
set_option maxRecDepth 20000 in
theorem gX3_init_X1_init_n22 : GoodIn wsX3_init (wsX1_init) := ggX3_init_X1_init
theorem dX3_init_0 : decode cX3_init 0 = .ok (.aload_n 0, 1) := by decide +kernel
theorem dX3_init_1 : decode cX3_init 1 = .ok (.invokespecial 3, 3) := by decide +kernel
theorem dX3_init_4 : decode cX3_init 4 = .ok (.aload_n 0, 1) := by decide +kernel
theorem dX3_init_5 : decode cX3_init 5 = .ok (.new 9, 3) := by decide +kernel
theorem dX3_init_8 : decode cX3_init 8 = .ok (.dup, 1) := by decide +kernel
theorem dX3_init_9 : decode cX3_init 9 = .ok (.invokespecial 11, 3) := by decide +kernel
theorem dX3_init_12 : decode cX3_init 12 = .ok (.putfield 12, 3) := by decide +kernel
theorem dX3_init_15 : decode cX3_init 15 = .ok (.aload_n 0, 1) := by decide +kernel
theorem dX3_init_16 : decode cX3_init 16 = .ok (.iconst 3, 1) := by decide +kernel
theorem dX3_init_17 : decode cX3_init 17 = .ok (.anewarray 9, 3) := by decide +kernel
theorem dX3_init_20 : decode cX3_init 20 = .ok (.putfield 16, 3) := by decide +kernel
theorem dX3_init_23 : decode cX3_init 23 = .ok (.aload_n 0, 1) := by decide +kernel
theorem dX3_init_24 : decode cX3_init 24 = .ok (.new 20, 3) := by decide +kernel
theorem dX3_init_27 : decode cX3_init 27 = .ok (.dup, 1) := by decide +kernel
theorem dX3_init_28 : decode cX3_init 28 = .ok (.invokespecial 22, 3) := by decide +kernel
theorem dX3_init_31 : decode cX3_init 31 = .ok (.putfield 23, 3) := by decide +kernel
theorem dX3_init_34 : decode cX3_init 34 = .ok (.aload_n 0, 1) := by decide +kernel
theorem dX3_init_35 : decode cX3_init 35 = .ok (.iconst 0, 1) := by decide +kernel
theorem dX3_init_36 : decode cX3_init 36 = .ok (.putfield 27, 3) := by decide +kernel
theorem dX3_init_39 : decode cX3_init 39 = .ok (.return_, 1) := by decide +kernel
set_option maxRecDepth 20000 in
theorem ggX3_clear_X2_begin : GoodIn wsX3_clear wsX2_begin := goodIn_r _ [12, 13, 14, 15, 16, 17, 18, 19, 20, 21, 22, 23, 24, 25, 30, 31, 32, 33, 34, 35, 36, 37, 38, 39, 40, 41, 42, 43, 44] (by decide +kernel) (by decide +kernel)
set_option maxRecDepth 20000 in
theorem gX3_clear_X2_begin : GoodIn wsX3_clear (wsV RX3 43 RX2 yX2_begin wsX2_begin) := goodIn_app (goodIn_of _ (by decide +kernel)) ggX3_clear_X2_begin
theorem dX3_clear_0 : decode cX3_clear 0 = .ok (.aload_n 0, 1) := by decide +kernel
theorem dX3_clear_1 : decode cX3_clear 1 = .ok (.getfield 12, 3) := by decide +kernel
theorem dX3_clear_4 : decode cX3_clear 4 = .ok (.getfield 31, 3) := by decide +kernel
theorem dX3_clear_7 : decode cX3_clear 7 = .ok (.getfield 35, 3) := by decide +kernel
theorem dX3_clear_10 : decode cX3_clear 10 = .ok (.aload_n 0, 1) := by decide +kernel
theorem dX3_clear_11 : decode cX3_clear 11 = .ok (.getfield 12, 3) := by decide +kernel
theorem dX3_clear_14 : decode cX3_clear 14 = .ok (.getfield 40, 3) := by decide +kernel
theorem dX3_clear_17 : decode cX3_clear 17 = .ok (.getfield 35, 3) := by decide +kernel
theorem dX3_clear_20 : decode cX3_clear 20 = .ok (.iadd, 1) := by decide +kernel
theorem dX3_clear_21 : decode cX3_clear 21 = .ok (.istore_n 1, 1) := by decide +kernel
theorem dX3_clear_22 : decode cX3_clear 22 = .ok (.aload_n 0, 1) := by decide +kernel
theorem dX3_clear_23 : decode cX3_clear 23 = .ok (.getfield 12, 3) := by decide +kernel
theorem dX3_clear_26 : decode cX3_clear 26 = .ok (.invokevirtual 43, 3) := by decide +kernel
theorem dX3_clear_29 : decode cX3_clear 29 = .ok (.aload_n 0, 1) := by decide +kernel
theorem dX3_clear_30 : decode cX3_clear 30 = .ok (.getfield 23, 3) := by decide +kernel
theorem dX3_clear_33 : decode cX3_clear 33 = .ok (.iconst 0, 1) := by decide +kernel
theorem dX3_clear_34 : decode cX3_clear 34 = .ok (.putfield 46, 3) := by decide +kernel
theorem dX3_clear_37 : decode cX3_clear 37 = .ok (.aload_n 0, 1) := by decide +kernel
theorem dX3_clear_38 : decode cX3_clear 38 = .ok (.iconst 0, 1) := by decide +kernel
theorem dX3_clear_39 : decode cX3_clear 39 = .ok (.putfield 27, 3) := by decide +kernel
theorem dX3_clear_42 : decode cX3_clear 42 = .ok (.iload_n 1, 1) := by decide +kernel
theorem dX3_clear_43 : decode cX3_clear 43 = .ok (.ireturn, 1) := by decide +kernel
set_option maxRecDepth 20000 in
theorem ggX3_set_X3_needClock : GoodIn wsX3_set wsX3_needClock := goodIn_ca (goodIn_r _ [11, 1, 2] (by decide +kernel) (by decide +kernel)) (goodIn_sub (fun _ h => List.mem_cons_of_mem _ (List.mem_append_left _ (List.mem_append_right _ h))) (by decide +kernel))
set_option maxRecDepth 20000 in
theorem gX3_set_X3_needClock : GoodIn wsX3_set (va_wsS RX3 47 yX3_needClock wsX3_needClock) := goodIn_app (goodIn_of _ (by decide +kernel)) ggX3_set_X3_needClock
set_option maxRecDepth 20000 in
theorem ggX3_set_X3_needTime : GoodIn wsX3_set wsX3_needTime := goodIn_ca (goodIn_r _ [14, 1, 2, 15] (by decide +kernel) (by decide +kernel)) (goodIn_sub (fun _ h => List.mem_cons_of_mem _ (List.mem_append_left _ (List.mem_append_right _ h))) (by decide +kernel))
set_option maxRecDepth 20000 in
theorem gX3_set_X3_needTime : GoodIn wsX3_set (va_wsS RX3 51 yX3_needTime wsX3_needTime) := goodIn_app (goodIn_of _ (by decide +kernel)) ggX3_set_X3_needTime
set_option maxRecDepth 20000 in
theorem ggX3_set_X0_isFull : GoodIn wsX3_set wsX0_isFull := goodIn_r _ [20, 21, 66, 67, 68, 69, 70, 71, 72, 73] (by decide +kernel) (by decide +kernel)
set_option maxRecDepth 20000 in
theorem gX3_set_X0_isFull : GoodIn wsX3_set (wsV RX3 66 RX0 yX0_isFull wsX0_isFull) := goodIn_app (goodIn_of _ (by decide +kernel)) ggX3_set_X0_isFull
set_option maxRecDepth 20000 in
theorem ggX3_set_X2_takeTimerNumber : GoodIn wsX3_set wsX2_takeTimerNumber := goodIn_r _ [26, 27, 59, 60, 61, 62, 63, 64, 65] (by decide +kernel) (by decide +kernel)
set_option maxRecDepth 20000 in
theorem gX3_set_X2_takeTimerNumber : GoodIn wsX3_set (wsV RX3 75 RX2 yX2_takeTimerNumber wsX2_takeTimerNumber) := goodIn_app (goodIn_of _ (by decide +kernel)) ggX3_set_X2_takeTimerNumber
set_option maxRecDepth 20000 in
theorem ggX3_set_X0_enter : GoodIn wsX3_set wsX0_enter := goodIn_r _ [31, 32, 21, 33, 34, 35, 36, 37, 38, 39, 40, 41, 19, 42, 43, 44, 45, 46, 47, 48, 49, 50, 51, 52, 53, 54, 66, 67, 68, 69, 70, 71, 72, 73] (by decide +kernel) (by decide +kernel)
set_option maxRecDepth 20000 in
theorem gX3_set_X0_enter : GoodIn wsX3_set (wsV RX3 79 RX0 yX0_enter wsX0_enter) := goodIn_app (goodIn_of _ (by decide +kernel)) ggX3_set_X0_enter
theorem dX3_set_0 : decode cX3_set 0 = .ok (.iload_n 1, 1) := by decide +kernel
theorem dX3_set_1 : decode cX3_set 1 = .ok (.invokestatic 47, 3) := by decide +kernel
theorem dX3_set_4 : decode cX3_set 4 = .ok (.lload 4, 2) := by decide +kernel
theorem dX3_set_6 : decode cX3_set 6 = .ok (.invokestatic 51, 3) := by decide +kernel
theorem dX3_set_9 : decode cX3_set 9 = .ok (.lload 6, 2) := by decide +kernel
theorem dX3_set_11 : decode cX3_set 11 = .ok (.lconst 0, 1) := by decide +kernel
theorem dX3_set_12 : decode cX3_set 12 = .ok (.lcmp, 1) := by decide +kernel
theorem dX3_set_13 : decode cX3_set 13 = .ok (.ifCond .lt 12, 3) := by decide +kernel
theorem dX3_set_16 : decode cX3_set 16 = .ok (.lload 6, 2) := by decide +kernel
theorem dX3_set_18 : decode cX3_set 18 = .ok (.ldc2_w 55, 3) := by decide +kernel
theorem dX3_set_21 : decode cX3_set 21 = .ok (.lcmp, 1) := by decide +kernel
theorem dX3_set_22 : decode cX3_set 22 = .ok (.ifCond .le 13, 3) := by decide +kernel
theorem dX3_set_25 : decode cX3_set 25 = .ok (.new 57, 3) := by decide +kernel
theorem dX3_set_28 : decode cX3_set 28 = .ok (.dup, 1) := by decide +kernel
theorem dX3_set_29 : decode cX3_set 29 = .ok (.ldc 59, 2) := by decide +kernel
theorem dX3_set_31 : decode cX3_set 31 = .ok (.invokespecial 61, 3) := by decide +kernel
theorem dX3_set_34 : decode cX3_set 34 = .ok (.athrow, 1) := by decide +kernel
theorem dX3_set_35 : decode cX3_set 35 = .ok (.iload 8, 2) := by decide +kernel
theorem dX3_set_37 : decode cX3_set 37 = .ok (.ifCond .lt 10, 3) := by decide +kernel
theorem dX3_set_40 : decode cX3_set 40 = .ok (.iload 8, 2) := by decide +kernel
theorem dX3_set_42 : decode cX3_set 42 = .ok (.bipush 50, 2) := by decide +kernel
theorem dX3_set_44 : decode cX3_set 44 = .ok (.if_icmp .le 13, 3) := by decide +kernel
theorem dX3_set_47 : decode cX3_set 47 = .ok (.new 57, 3) := by decide +kernel
theorem dX3_set_50 : decode cX3_set 50 = .ok (.dup, 1) := by decide +kernel
theorem dX3_set_51 : decode cX3_set 51 = .ok (.ldc 64, 2) := by decide +kernel
theorem dX3_set_53 : decode cX3_set 53 = .ok (.invokespecial 61, 3) := by decide +kernel
theorem dX3_set_56 : decode cX3_set 56 = .ok (.athrow, 1) := by decide +kernel
theorem dX3_set_57 : decode cX3_set 57 = .ok (.aload_n 0, 1) := by decide +kernel
theorem dX3_set_58 : decode cX3_set 58 = .ok (.getfield 12, 3) := by decide +kernel
theorem dX3_set_61 : decode cX3_set 61 = .ok (.getfield 31, 3) := by decide +kernel
theorem dX3_set_64 : decode cX3_set 64 = .ok (.invokevirtual 66, 3) := by decide +kernel
theorem dX3_set_67 : decode cX3_set 67 = .ok (.ifCond .eq 13, 3) := by decide +kernel
theorem dX3_set_70 : decode cX3_set 70 = .ok (.new 70, 3) := by decide +kernel
theorem dX3_set_73 : decode cX3_set 73 = .ok (.dup, 1) := by decide +kernel
theorem dX3_set_74 : decode cX3_set 74 = .ok (.ldc 72, 2) := by decide +kernel
theorem dX3_set_76 : decode cX3_set 76 = .ok (.invokespecial 74, 3) := by decide +kernel
theorem dX3_set_79 : decode cX3_set 79 = .ok (.athrow, 1) := by decide +kernel
theorem dX3_set_80 : decode cX3_set 80 = .ok (.aload_n 0, 1) := by decide +kernel
theorem dX3_set_81 : decode cX3_set 81 = .ok (.getfield 12, 3) := by decide +kernel
theorem dX3_set_84 : decode cX3_set 84 = .ok (.invokevirtual 75, 3) := by decide +kernel
theorem dX3_set_87 : decode cX3_set 87 = .ok (.istore 9, 2) := by decide +kernel
theorem dX3_set_89 : decode cX3_set 89 = .ok (.aload_n 0, 1) := by decide +kernel
theorem dX3_set_90 : decode cX3_set 90 = .ok (.getfield 12, 3) := by decide +kernel
theorem dX3_set_93 : decode cX3_set 93 = .ok (.getfield 31, 3) := by decide +kernel
theorem dX3_set_96 : decode cX3_set 96 = .ok (.iload 9, 2) := by decide +kernel
theorem dX3_set_98 : decode cX3_set 98 = .ok (.iload_n 1, 1) := by decide +kernel
theorem dX3_set_99 : decode cX3_set 99 = .ok (.lload_n 2, 1) := by decide +kernel
theorem dX3_set_100 : decode cX3_set 100 = .ok (.lload 4, 2) := by decide +kernel
theorem dX3_set_102 : decode cX3_set 102 = .ok (.lload 6, 2) := by decide +kernel
theorem dX3_set_104 : decode cX3_set 104 = .ok (.iload 8, 2) := by decide +kernel
theorem dX3_set_106 : decode cX3_set 106 = .ok (.invokevirtual 79, 3) := by decide +kernel
theorem dX3_set_109 : decode cX3_set 109 = .ok (.iload 9, 2) := by decide +kernel
theorem dX3_set_111 : decode cX3_set 111 = .ok (.ireturn, 1) := by decide +kernel
set_option maxRecDepth 20000 in
theorem ggX3_move_X3_needTime : GoodIn wsX3_move wsX3_needTime := goodIn_ca (goodIn_r _ [6, 7, 8, 9] (by decide +kernel) (by decide +kernel)) (goodIn_sub (fun _ h => List.mem_cons_of_mem _ (List.mem_append_left _ (List.mem_append_right _ h))) (by decide +kernel))
set_option maxRecDepth 20000 in
theorem gX3_move_X3_needTime : GoodIn wsX3_move (va_wsS RX3 51 yX3_needTime wsX3_needTime) := goodIn_app (goodIn_of _ (by decide +kernel)) ggX3_move_X3_needTime
set_option maxRecDepth 20000 in
theorem ggX3_move_X3_needTimer : GoodIn wsX3_move wsX3_needTimer := goodIn_ca (goodIn_r _ [13, 14, 15, 1, 2, 16, 17, 18, 19, 20, 21, 22, 23, 54, 55, 56, 57, 58, 59, 60, 61, 62, 63, 64, 65, 66, 67, 68, 69, 70, 71, 72] (by decide +kernel) (by decide +kernel)) (goodIn_sub (fun _ h => List.mem_cons_of_mem _ (List.mem_append_right _ h)) (by decide +kernel))
set_option maxRecDepth 20000 in
theorem gX3_move_X3_needTimer : GoodIn wsX3_move (wsV RX3 83 RX3 yX3_needTimer wsX3_needTimer) := goodIn_app (goodIn_of _ (by decide +kernel)) ggX3_move_X3_needTimer
set_option maxRecDepth 20000 in
theorem ggX3_move_X0_timeAt : GoodIn wsX3_move wsX0_timeAt := goodIn_r _ [27, 28, 23, 65, 66, 67, 68, 69, 70, 71, 72] (by decide +kernel) (by decide +kernel)
set_option maxRecDepth 20000 in
theorem gX3_move_X0_timeAt : GoodIn wsX3_move (wsV RX3 87 RX0 yX0_timeAt wsX0_timeAt) := goodIn_app (goodIn_of _ (by decide +kernel)) ggX3_move_X0_timeAt
set_option maxRecDepth 20000 in
theorem ggX3_move_X0_retime : GoodIn wsX3_move wsX0_retime := goodIn_r _ [32, 28, 23, 21, 33, 34, 35, 19, 36, 37, 38, 39, 40, 41, 42, 43, 44, 45, 46, 47, 48, 49, 50, 51, 52, 53, 22, 65, 66, 67, 68, 69, 70, 71, 72] (by decide +kernel) (by decide +kernel)
set_option maxRecDepth 20000 in
theorem gX3_move_X0_retime : GoodIn wsX3_move (wsV RX3 91 RX0 yX0_retime wsX0_retime) := goodIn_app (goodIn_of _ (by decide +kernel)) ggX3_move_X0_retime
theorem dX3_move_0 : decode cX3_move 0 = .ok (.lload_n 2, 1) := by decide +kernel
theorem dX3_move_1 : decode cX3_move 1 = .ok (.invokestatic 51, 3) := by decide +kernel
theorem dX3_move_4 : decode cX3_move 4 = .ok (.aload_n 0, 1) := by decide +kernel
theorem dX3_move_5 : decode cX3_move 5 = .ok (.iload_n 1, 1) := by decide +kernel
theorem dX3_move_6 : decode cX3_move 6 = .ok (.invokevirtual 83, 3) := by decide +kernel
theorem dX3_move_9 : decode cX3_move 9 = .ok (.istore 4, 2) := by decide +kernel
theorem dX3_move_11 : decode cX3_move 11 = .ok (.aload_n 0, 1) := by decide +kernel
theorem dX3_move_12 : decode cX3_move 12 = .ok (.getfield 12, 3) := by decide +kernel
theorem dX3_move_15 : decode cX3_move 15 = .ok (.getfield 31, 3) := by decide +kernel
theorem dX3_move_18 : decode cX3_move 18 = .ok (.iload 4, 2) := by decide +kernel
theorem dX3_move_20 : decode cX3_move 20 = .ok (.invokevirtual 87, 3) := by decide +kernel
theorem dX3_move_23 : decode cX3_move 23 = .ok (.lstore 5, 2) := by decide +kernel
theorem dX3_move_25 : decode cX3_move 25 = .ok (.aload_n 0, 1) := by decide +kernel
theorem dX3_move_26 : decode cX3_move 26 = .ok (.getfield 12, 3) := by decide +kernel
theorem dX3_move_29 : decode cX3_move 29 = .ok (.getfield 31, 3) := by decide +kernel
theorem dX3_move_32 : decode cX3_move 32 = .ok (.iload 4, 2) := by decide +kernel
theorem dX3_move_34 : decode cX3_move 34 = .ok (.lload_n 2, 1) := by decide +kernel
theorem dX3_move_35 : decode cX3_move 35 = .ok (.invokevirtual 91, 3) := by decide +kernel
theorem dX3_move_38 : decode cX3_move 38 = .ok (.lload 5, 2) := by decide +kernel
theorem dX3_move_40 : decode cX3_move 40 = .ok (.lreturn, 1) := by decide +kernel
set_option maxRecDepth 20000 in
theorem ggX3_cancel_X0_placeOf : GoodIn wsX3_cancel wsX0_placeOf := goodIn_r _ [7, 8, 9, 10, 30, 31, 32, 33, 34, 35, 36, 37] (by decide +kernel) (by decide +kernel)
set_option maxRecDepth 20000 in
theorem gX3_cancel_X0_placeOf : GoodIn wsX3_cancel (wsV RX3 95 RX0 yX0_placeOf wsX0_placeOf) := goodIn_app (goodIn_of _ (by decide +kernel)) ggX3_cancel_X0_placeOf
set_option maxRecDepth 20000 in
theorem ggX3_cancel_X0_leave : GoodIn wsX3_cancel wsX0_leave := goodIn_r _ [14, 10, 8, 15, 16, 17, 18, 30, 31, 32, 33, 34, 35, 36, 37] (by decide +kernel) (by decide +kernel)
set_option maxRecDepth 20000 in
theorem gX3_cancel_X0_leave : GoodIn wsX3_cancel (wsV RX3 98 RX0 yX0_leave wsX0_leave) := goodIn_app (goodIn_of _ (by decide +kernel)) ggX3_cancel_X0_leave
theorem dX3_cancel_0 : decode cX3_cancel 0 = .ok (.aload_n 0, 1) := by decide +kernel
theorem dX3_cancel_1 : decode cX3_cancel 1 = .ok (.getfield 12, 3) := by decide +kernel
theorem dX3_cancel_4 : decode cX3_cancel 4 = .ok (.getfield 31, 3) := by decide +kernel
theorem dX3_cancel_7 : decode cX3_cancel 7 = .ok (.iload_n 1, 1) := by decide +kernel
theorem dX3_cancel_8 : decode cX3_cancel 8 = .ok (.invokevirtual 95, 3) := by decide +kernel
theorem dX3_cancel_11 : decode cX3_cancel 11 = .ok (.istore_n 2, 1) := by decide +kernel
theorem dX3_cancel_12 : decode cX3_cancel 12 = .ok (.iload_n 2, 1) := by decide +kernel
theorem dX3_cancel_13 : decode cX3_cancel 13 = .ok (.iconst (-1), 1) := by decide +kernel
theorem dX3_cancel_14 : decode cX3_cancel 14 = .ok (.if_icmp .ne 5, 3) := by decide +kernel
theorem dX3_cancel_17 : decode cX3_cancel 17 = .ok (.iconst 0, 1) := by decide +kernel
theorem dX3_cancel_18 : decode cX3_cancel 18 = .ok (.ireturn, 1) := by decide +kernel
theorem dX3_cancel_19 : decode cX3_cancel 19 = .ok (.aload_n 0, 1) := by decide +kernel
theorem dX3_cancel_20 : decode cX3_cancel 20 = .ok (.getfield 12, 3) := by decide +kernel
theorem dX3_cancel_23 : decode cX3_cancel 23 = .ok (.getfield 31, 3) := by decide +kernel
theorem dX3_cancel_26 : decode cX3_cancel 26 = .ok (.iload_n 2, 1) := by decide +kernel
theorem dX3_cancel_27 : decode cX3_cancel 27 = .ok (.invokevirtual 98, 3) := by decide +kernel
theorem dX3_cancel_30 : decode cX3_cancel 30 = .ok (.iconst 1, 1) := by decide +kernel
theorem dX3_cancel_31 : decode cX3_cancel 31 = .ok (.ireturn, 1) := by decide +kernel
set_option maxRecDepth 20000 in
theorem ggX3_row_X3_needTime : GoodIn wsX3_row wsX3_needTime := goodIn_ca (goodIn_r _ [11, 12, 13, 14] (by decide +kernel) (by decide +kernel)) (goodIn_sub (fun _ h => List.mem_cons_of_mem _ (List.mem_append_right _ h)) (by decide +kernel))
set_option maxRecDepth 20000 in
theorem gX3_row_X3_needTime : GoodIn wsX3_row (va_wsS RX3 51 yX3_needTime wsX3_needTime) := goodIn_app (goodIn_of _ (by decide +kernel)) ggX3_row_X3_needTime
set_option maxRecDepth 20000 in
theorem ggX3_row_X0_isFull : GoodIn wsX3_row wsX0_isFull := goodIn_r _ [19, 20, 59, 60, 61, 62, 63, 64, 65, 66] (by decide +kernel) (by decide +kernel)
set_option maxRecDepth 20000 in
theorem gX3_row_X0_isFull : GoodIn wsX3_row (wsV RX3 66 RX0 yX0_isFull wsX0_isFull) := goodIn_app (goodIn_of _ (by decide +kernel)) ggX3_row_X0_isFull
set_option maxRecDepth 20000 in
theorem ggX3_row_X0_enter : GoodIn wsX3_row wsX0_enter := goodIn_r _ [24, 25, 20, 26, 27, 28, 29, 30, 31, 32, 33, 34, 18, 35, 36, 37, 38, 39, 40, 41, 42, 43, 44, 45, 46, 47, 59, 60, 61, 62, 63, 64, 65, 66] (by decide +kernel) (by decide +kernel)
set_option maxRecDepth 20000 in
theorem gX3_row_X0_enter : GoodIn wsX3_row (wsV RX3 79 RX0 yX0_enter wsX0_enter) := goodIn_app (goodIn_of _ (by decide +kernel)) ggX3_row_X0_enter
theorem dX3_row_0 : decode cX3_row 0 = .ok (.lload_n 3, 1) := by decide +kernel
theorem dX3_row_1 : decode cX3_row 1 = .ok (.invokestatic 51, 3) := by decide +kernel
theorem dX3_row_4 : decode cX3_row 4 = .ok (.lload_n 3, 1) := by decide +kernel
theorem dX3_row_5 : decode cX3_row 5 = .ok (.aload_n 0, 1) := by decide +kernel
theorem dX3_row_6 : decode cX3_row 6 = .ok (.getfield 12, 3) := by decide +kernel
theorem dX3_row_9 : decode cX3_row 9 = .ok (.getfield 101, 3) := by decide +kernel
theorem dX3_row_12 : decode cX3_row 12 = .ok (.iconst 0, 1) := by decide +kernel
theorem dX3_row_13 : decode cX3_row 13 = .ok (.laload, 1) := by decide +kernel
theorem dX3_row_14 : decode cX3_row 14 = .ok (.lcmp, 1) := by decide +kernel
theorem dX3_row_15 : decode cX3_row 15 = .ok (.ifCond .gt 18, 3) := by decide +kernel
theorem dX3_row_18 : decode cX3_row 18 = .ok (.aload_n 0, 1) := by decide +kernel
theorem dX3_row_19 : decode cX3_row 19 = .ok (.getfield 12, 3) := by decide +kernel
theorem dX3_row_22 : decode cX3_row 22 = .ok (.dup, 1) := by decide +kernel
theorem dX3_row_23 : decode cX3_row 23 = .ok (.getfield 105, 3) := by decide +kernel
theorem dX3_row_26 : decode cX3_row 26 = .ok (.iconst 1, 1) := by decide +kernel
theorem dX3_row_27 : decode cX3_row 27 = .ok (.iadd, 1) := by decide +kernel
theorem dX3_row_28 : decode cX3_row 28 = .ok (.putfield 105, 3) := by decide +kernel
theorem dX3_row_31 : decode cX3_row 31 = .ok (.iconst (-1), 1) := by decide +kernel
theorem dX3_row_32 : decode cX3_row 32 = .ok (.ireturn, 1) := by decide +kernel
theorem dX3_row_33 : decode cX3_row 33 = .ok (.aload_n 0, 1) := by decide +kernel
theorem dX3_row_34 : decode cX3_row 34 = .ok (.getfield 12, 3) := by decide +kernel
theorem dX3_row_37 : decode cX3_row 37 = .ok (.getfield 40, 3) := by decide +kernel
theorem dX3_row_40 : decode cX3_row 40 = .ok (.invokevirtual 66, 3) := by decide +kernel
theorem dX3_row_43 : decode cX3_row 43 = .ok (.ifCond .eq 13, 3) := by decide +kernel
theorem dX3_row_46 : decode cX3_row 46 = .ok (.new 70, 3) := by decide +kernel
theorem dX3_row_49 : decode cX3_row 49 = .ok (.dup, 1) := by decide +kernel
theorem dX3_row_50 : decode cX3_row 50 = .ok (.ldc 108, 2) := by decide +kernel
theorem dX3_row_52 : decode cX3_row 52 = .ok (.invokespecial 74, 3) := by decide +kernel
theorem dX3_row_55 : decode cX3_row 55 = .ok (.athrow, 1) := by decide +kernel
theorem dX3_row_56 : decode cX3_row 56 = .ok (.aload_n 0, 1) := by decide +kernel
theorem dX3_row_57 : decode cX3_row 57 = .ok (.getfield 12, 3) := by decide +kernel
theorem dX3_row_60 : decode cX3_row 60 = .ok (.getfield 110, 3) := by decide +kernel
theorem dX3_row_63 : decode cX3_row 63 = .ok (.istore 5, 2) := by decide +kernel
theorem dX3_row_65 : decode cX3_row 65 = .ok (.aload_n 0, 1) := by decide +kernel
theorem dX3_row_66 : decode cX3_row 66 = .ok (.getfield 12, 3) := by decide +kernel
theorem dX3_row_69 : decode cX3_row 69 = .ok (.dup, 1) := by decide +kernel
theorem dX3_row_70 : decode cX3_row 70 = .ok (.getfield 110, 3) := by decide +kernel
theorem dX3_row_73 : decode cX3_row 73 = .ok (.iconst 1, 1) := by decide +kernel
theorem dX3_row_74 : decode cX3_row 74 = .ok (.iadd, 1) := by decide +kernel
theorem dX3_row_75 : decode cX3_row 75 = .ok (.putfield 110, 3) := by decide +kernel
theorem dX3_row_78 : decode cX3_row 78 = .ok (.aload_n 0, 1) := by decide +kernel
theorem dX3_row_79 : decode cX3_row 79 = .ok (.getfield 12, 3) := by decide +kernel
theorem dX3_row_82 : decode cX3_row 82 = .ok (.getfield 40, 3) := by decide +kernel
theorem dX3_row_85 : decode cX3_row 85 = .ok (.iload 5, 2) := by decide +kernel
theorem dX3_row_87 : decode cX3_row 87 = .ok (.iconst 0, 1) := by decide +kernel
theorem dX3_row_88 : decode cX3_row 88 = .ok (.lload_n 1, 1) := by decide +kernel
theorem dX3_row_89 : decode cX3_row 89 = .ok (.lload_n 3, 1) := by decide +kernel
theorem dX3_row_90 : decode cX3_row 90 = .ok (.lconst 0, 1) := by decide +kernel
theorem dX3_row_91 : decode cX3_row 91 = .ok (.iconst 0, 1) := by decide +kernel
theorem dX3_row_92 : decode cX3_row 92 = .ok (.invokevirtual 79, 3) := by decide +kernel
theorem dX3_row_95 : decode cX3_row 95 = .ok (.iload 5, 2) := by decide +kernel
theorem dX3_row_97 : decode cX3_row 97 = .ok (.ireturn, 1) := by decide +kernel
theorem dX3_first_0 : decode cX3_first 0 = .ok (.aload_n 0, 1) := by decide +kernel
theorem dX3_first_1 : decode cX3_first 1 = .ok (.getfield 12, 3) := by decide +kernel
theorem dX3_first_4 : decode cX3_first 4 = .ok (.getfield 113, 3) := by decide +kernel
theorem dX3_first_7 : decode cX3_first 7 = .ok (.istore_n 2, 1) := by decide +kernel
theorem dX3_first_8 : decode cX3_first 8 = .ok (.aload_n 0, 1) := by decide +kernel
theorem dX3_first_9 : decode cX3_first 9 = .ok (.getfield 12, 3) := by decide +kernel
theorem dX3_first_12 : decode cX3_first 12 = .ok (.iload_n 1, 1) := by decide +kernel
theorem dX3_first_13 : decode cX3_first 13 = .ok (.putfield 113, 3) := by decide +kernel
theorem dX3_first_16 : decode cX3_first 16 = .ok (.iload_n 2, 1) := by decide +kernel
theorem dX3_first_17 : decode cX3_first 17 = .ok (.ireturn, 1) := by decide +kernel
set_option maxRecDepth 20000 in
theorem ggX3_pass_X3_needClock : GoodIn wsX3_pass wsX3_needClock := goodIn_ca (goodIn_r _ [10, 1, 2] (by decide +kernel) (by decide +kernel)) (goodIn_sub (fun _ h => List.mem_cons_of_mem _ (List.mem_append_right _ h)) (by decide +kernel))
set_option maxRecDepth 20000 in
theorem gX3_pass_X3_needClock : GoodIn wsX3_pass (va_wsS RX3 47 yX3_needClock wsX3_needClock) := goodIn_app (goodIn_of _ (by decide +kernel)) ggX3_pass_X3_needClock
set_option maxRecDepth 20000 in
theorem ggX3_pass_X3_needTime : GoodIn wsX3_pass wsX3_needTime := goodIn_ca (goodIn_r _ [13, 1, 2, 14] (by decide +kernel) (by decide +kernel)) (goodIn_sub (fun _ h => List.mem_cons_of_mem _ (List.mem_append_right _ h)) (by decide +kernel))
set_option maxRecDepth 20000 in
theorem gX3_pass_X3_needTime : GoodIn wsX3_pass (va_wsS RX3 51 yX3_needTime wsX3_needTime) := goodIn_app (goodIn_of _ (by decide +kernel)) ggX3_pass_X3_needTime
set_option maxRecDepth 20000 in
theorem ggX3_pass_X3_doFirstDue : GoodIn wsX3_pass wsX3_doFirstDue := goodIn_r _ [18, 3, 19, 20, 5, 21, 22, 23, 24, 25, 26, 27, 28, 29, 30, 31, 32, 33, 34, 35, 36, 37, 38, 39, 40, 41, 42, 43, 44, 45, 46, 47, 48, 49, 50, 51, 52, 53, 54, 55, 56, 57, 58, 59, 60, 61, 62, 63, 64, 65, 66, 67, 68, 69, 70, 71, 72, 73, 74, 75, 76, 77, 78, 79, 80, 81, 82, 83, 84, 85, 86, 87, 88, 89, 90, 91, 92, 93, 94, 95, 96, 97, 98, 99, 100, 101, 102, 103, 104, 105, 106, 107, 108, 109, 110, 111, 112, 113, 114, 115, 116, 117, 118, 119, 120, 121, 122, 123, 124, 125, 126, 127, 128, 129, 130, 131, 132, 133, 134, 135, 136, 137, 138, 139, 140, 141, 142, 149, 150, 151, 152, 153, 154, 155, 156, 143, 144, 145, 146, 147, 148] (by decide +kernel) (by decide +kernel)
set_option maxRecDepth 20000 in
theorem gX3_pass_X3_doFirstDue : GoodIn wsX3_pass (wsV RX3 119 RX3 yX3_doFirstDue wsX3_doFirstDue) := goodIn_app (goodIn_of _ (by decide +kernel)) ggX3_pass_X3_doFirstDue
theorem dX3_pass_0 : decode cX3_pass 0 = .ok (.iload_n 1, 1) := by decide +kernel
theorem dX3_pass_1 : decode cX3_pass 1 = .ok (.invokestatic 47, 3) := by decide +kernel
theorem dX3_pass_4 : decode cX3_pass 4 = .ok (.lload_n 2, 1) := by decide +kernel
theorem dX3_pass_5 : decode cX3_pass 5 = .ok (.invokestatic 51, 3) := by decide +kernel
theorem dX3_pass_8 : decode cX3_pass 8 = .ok (.lload_n 2, 1) := by decide +kernel
theorem dX3_pass_9 : decode cX3_pass 9 = .ok (.aload_n 0, 1) := by decide +kernel
theorem dX3_pass_10 : decode cX3_pass 10 = .ok (.getfield 12, 3) := by decide +kernel
theorem dX3_pass_13 : decode cX3_pass 13 = .ok (.getfield 101, 3) := by decide +kernel
theorem dX3_pass_16 : decode cX3_pass 16 = .ok (.iload_n 1, 1) := by decide +kernel
theorem dX3_pass_17 : decode cX3_pass 17 = .ok (.laload, 1) := by decide +kernel
theorem dX3_pass_18 : decode cX3_pass 18 = .ok (.lcmp, 1) := by decide +kernel
theorem dX3_pass_19 : decode cX3_pass 19 = .ok (.ifCond .ge 13, 3) := by decide +kernel
theorem dX3_pass_22 : decode cX3_pass 22 = .ok (.new 57, 3) := by decide +kernel
theorem dX3_pass_25 : decode cX3_pass 25 = .ok (.dup, 1) := by decide +kernel
theorem dX3_pass_26 : decode cX3_pass 26 = .ok (.ldc 117, 2) := by decide +kernel
theorem dX3_pass_28 : decode cX3_pass 28 = .ok (.invokespecial 61, 3) := by decide +kernel
theorem dX3_pass_31 : decode cX3_pass 31 = .ok (.athrow, 1) := by decide +kernel
theorem dX3_pass_32 : decode cX3_pass 32 = .ok (.aload_n 0, 1) := by decide +kernel
theorem dX3_pass_33 : decode cX3_pass 33 = .ok (.getfield 12, 3) := by decide +kernel
theorem dX3_pass_36 : decode cX3_pass 36 = .ok (.getfield 101, 3) := by decide +kernel
theorem dX3_pass_39 : decode cX3_pass 39 = .ok (.iload_n 1, 1) := by decide +kernel
theorem dX3_pass_40 : decode cX3_pass 40 = .ok (.lload_n 2, 1) := by decide +kernel
theorem dX3_pass_41 : decode cX3_pass 41 = .ok (.lastore, 1) := by decide +kernel
theorem dX3_pass_42 : decode cX3_pass 42 = .ok (.aload_n 0, 1) := by decide +kernel
theorem dX3_pass_43 : decode cX3_pass 43 = .ok (.getfield 23, 3) := by decide +kernel
theorem dX3_pass_46 : decode cX3_pass 46 = .ok (.iconst 0, 1) := by decide +kernel
theorem dX3_pass_47 : decode cX3_pass 47 = .ok (.putfield 46, 3) := by decide +kernel
theorem dX3_pass_50 : decode cX3_pass 50 = .ok (.iconst 0, 1) := by decide +kernel
theorem dX3_pass_51 : decode cX3_pass 51 = .ok (.istore 4, 2) := by decide +kernel
theorem dX3_pass_53 : decode cX3_pass 53 = .ok (.iload 4, 2) := by decide +kernel
theorem dX3_pass_55 : decode cX3_pass 55 = .ok (.sipush 2080, 3) := by decide +kernel
theorem dX3_pass_58 : decode cX3_pass 58 = .ok (.if_icmp .ge 21, 3) := by decide +kernel
theorem dX3_pass_61 : decode cX3_pass 61 = .ok (.aload_n 0, 1) := by decide +kernel
theorem dX3_pass_62 : decode cX3_pass 62 = .ok (.iload_n 1, 1) := by decide +kernel
theorem dX3_pass_63 : decode cX3_pass 63 = .ok (.lload_n 2, 1) := by decide +kernel
theorem dX3_pass_64 : decode cX3_pass 64 = .ok (.invokevirtual 119, 3) := by decide +kernel
theorem dX3_pass_67 : decode cX3_pass 67 = .ok (.ifCond .ne 6, 3) := by decide +kernel
theorem dX3_pass_70 : decode cX3_pass 70 = .ok (.goto 9, 3) := by decide +kernel
theorem dX3_pass_73 : decode cX3_pass 73 = .ok (.iinc 4 1, 3) := by decide +kernel
theorem dX3_pass_76 : decode cX3_pass 76 = .ok (.goto (-23), 3) := by decide +kernel
theorem dX3_pass_79 : decode cX3_pass 79 = .ok (.aload_n 0, 1) := by decide +kernel
theorem dX3_pass_80 : decode cX3_pass 80 = .ok (.getfield 23, 3) := by decide +kernel
theorem dX3_pass_83 : decode cX3_pass 83 = .ok (.getfield 46, 3) := by decide +kernel
theorem dX3_pass_86 : decode cX3_pass 86 = .ok (.ireturn, 1) := by decide +kernel
set_option maxRecDepth 20000 in
theorem ggX3_done_X3_needWhat : GoodIn wsX3_done wsX3_needWhat := goodIn_ca (goodIn_r _ [13, 14, 15] (by decide +kernel) (by decide +kernel)) (goodIn_sub (fun _ h => List.mem_cons_of_mem _ (List.mem_append_right _ h)) (by decide +kernel))
set_option maxRecDepth 20000 in
theorem gX3_done_X3_needWhat : GoodIn wsX3_done (va_wsS RX3 123 yX3_needWhat wsX3_needWhat) := goodIn_app (goodIn_of _ (by decide +kernel)) ggX3_done_X3_needWhat
theorem dX3_done_0 : decode cX3_done 0 = .ok (.iload_n 2, 1) := by decide +kernel
theorem dX3_done_1 : decode cX3_done 1 = .ok (.iconst 4, 1) := by decide +kernel
theorem dX3_done_2 : decode cX3_done 2 = .ok (.invokestatic 123, 3) := by decide +kernel
theorem dX3_done_5 : decode cX3_done 5 = .ok (.iload_n 1, 1) := by decide +kernel
theorem dX3_done_6 : decode cX3_done 6 = .ok (.ifCond .lt 14, 3) := by decide +kernel
theorem dX3_done_9 : decode cX3_done 9 = .ok (.iload_n 1, 1) := by decide +kernel
theorem dX3_done_10 : decode cX3_done 10 = .ok (.aload_n 0, 1) := by decide +kernel
theorem dX3_done_11 : decode cX3_done 11 = .ok (.getfield 23, 3) := by decide +kernel
theorem dX3_done_14 : decode cX3_done 14 = .ok (.getfield 46, 3) := by decide +kernel
theorem dX3_done_17 : decode cX3_done 17 = .ok (.if_icmp .lt 13, 3) := by decide +kernel
theorem dX3_done_20 : decode cX3_done 20 = .ok (.new 127, 3) := by decide +kernel
theorem dX3_done_23 : decode cX3_done 23 = .ok (.dup, 1) := by decide +kernel
theorem dX3_done_24 : decode cX3_done 24 = .ok (.ldc 129, 2) := by decide +kernel
theorem dX3_done_26 : decode cX3_done 26 = .ok (.invokespecial 131, 3) := by decide +kernel
theorem dX3_done_29 : decode cX3_done 29 = .ok (.athrow, 1) := by decide +kernel
theorem dX3_done_30 : decode cX3_done 30 = .ok (.iload_n 2, 1) := by decide +kernel
theorem dX3_done_31 : decode cX3_done 31 = .ok (.tableswitch 71 0 3 #[29, 40, 51, 61], 29) := by decide +kernel
theorem dX3_done_60 : decode cX3_done 60 = .ok (.aload_n 0, 1) := by decide +kernel
theorem dX3_done_61 : decode cX3_done 61 = .ok (.getfield 23, 3) := by decide +kernel
theorem dX3_done_64 : decode cX3_done 64 = .ok (.getfield 132, 3) := by decide +kernel
theorem dX3_done_67 : decode cX3_done 67 = .ok (.iload_n 1, 1) := by decide +kernel
theorem dX3_done_68 : decode cX3_done 68 = .ok (.iaload, 1) := by decide +kernel
theorem dX3_done_69 : decode cX3_done 69 = .ok (.i2l, 1) := by decide +kernel
theorem dX3_done_70 : decode cX3_done 70 = .ok (.lreturn, 1) := by decide +kernel
theorem dX3_done_71 : decode cX3_done 71 = .ok (.aload_n 0, 1) := by decide +kernel
theorem dX3_done_72 : decode cX3_done 72 = .ok (.getfield 23, 3) := by decide +kernel
theorem dX3_done_75 : decode cX3_done 75 = .ok (.getfield 136, 3) := by decide +kernel
theorem dX3_done_78 : decode cX3_done 78 = .ok (.iload_n 1, 1) := by decide +kernel
theorem dX3_done_79 : decode cX3_done 79 = .ok (.iaload, 1) := by decide +kernel
theorem dX3_done_80 : decode cX3_done 80 = .ok (.i2l, 1) := by decide +kernel
theorem dX3_done_81 : decode cX3_done 81 = .ok (.lreturn, 1) := by decide +kernel
theorem dX3_done_82 : decode cX3_done 82 = .ok (.aload_n 0, 1) := by decide +kernel
theorem dX3_done_83 : decode cX3_done 83 = .ok (.getfield 23, 3) := by decide +kernel
theorem dX3_done_86 : decode cX3_done 86 = .ok (.getfield 139, 3) := by decide +kernel
theorem dX3_done_89 : decode cX3_done 89 = .ok (.iload_n 1, 1) := by decide +kernel
theorem dX3_done_90 : decode cX3_done 90 = .ok (.laload, 1) := by decide +kernel
theorem dX3_done_91 : decode cX3_done 91 = .ok (.lreturn, 1) := by decide +kernel
theorem dX3_done_92 : decode cX3_done 92 = .ok (.aload_n 0, 1) := by decide +kernel
theorem dX3_done_93 : decode cX3_done 93 = .ok (.getfield 23, 3) := by decide +kernel
theorem dX3_done_96 : decode cX3_done 96 = .ok (.getfield 142, 3) := by decide +kernel
theorem dX3_done_99 : decode cX3_done 99 = .ok (.iload_n 1, 1) := by decide +kernel
theorem dX3_done_100 : decode cX3_done 100 = .ok (.laload, 1) := by decide +kernel
theorem dX3_done_101 : decode cX3_done 101 = .ok (.lreturn, 1) := by decide +kernel
theorem dX3_done_102 : decode cX3_done 102 = .ok (.aload_n 0, 1) := by decide +kernel
theorem dX3_done_103 : decode cX3_done 103 = .ok (.getfield 23, 3) := by decide +kernel
theorem dX3_done_106 : decode cX3_done 106 = .ok (.getfield 145, 3) := by decide +kernel
theorem dX3_done_109 : decode cX3_done 109 = .ok (.iload_n 1, 1) := by decide +kernel
theorem dX3_done_110 : decode cX3_done 110 = .ok (.iaload, 1) := by decide +kernel
theorem dX3_done_111 : decode cX3_done 111 = .ok (.i2l, 1) := by decide +kernel
theorem dX3_done_112 : decode cX3_done 112 = .ok (.lreturn, 1) := by decide +kernel
set_option maxRecDepth 20000 in
theorem ggX3_told_X3_needWhat : GoodIn wsX3_told wsX3_needWhat := goodIn_ca (goodIn_r _ [12, 13, 14] (by decide +kernel) (by decide +kernel)) (goodIn_sub (fun _ h => List.mem_cons_of_mem _ (List.mem_append_left _ (List.mem_append_right _ h))) (by decide +kernel))
set_option maxRecDepth 20000 in
theorem gX3_told_X3_needWhat : GoodIn wsX3_told (va_wsS RX3 123 yX3_needWhat wsX3_needWhat) := goodIn_app (goodIn_of _ (by decide +kernel)) ggX3_told_X3_needWhat
set_option maxRecDepth 20000 in
theorem ggX3_told_X3_needTimer : GoodIn wsX3_told wsX3_needTimer := goodIn_ca (goodIn_r _ [18, 19, 20, 1, 2, 21, 22, 23, 24, 25, 26, 27, 28, 29, 30, 31, 32, 33, 34, 35, 36, 37, 38, 39, 40, 41, 42, 43, 44, 45, 46, 47] (by decide +kernel) (by decide +kernel)) (goodIn_sub (fun _ h => List.mem_cons_of_mem _ (List.mem_append_right _ h)) (by decide +kernel))
set_option maxRecDepth 20000 in
theorem gX3_told_X3_needTimer : GoodIn wsX3_told (wsV RX3 83 RX3 yX3_needTimer wsX3_needTimer) := goodIn_app (goodIn_of _ (by decide +kernel)) ggX3_told_X3_needTimer
theorem dX3_told_0 : decode cX3_told 0 = .ok (.iload_n 2, 1) := by decide +kernel
theorem dX3_told_1 : decode cX3_told 1 = .ok (.iconst 4, 1) := by decide +kernel
theorem dX3_told_2 : decode cX3_told 2 = .ok (.invokestatic 123, 3) := by decide +kernel
theorem dX3_told_5 : decode cX3_told 5 = .ok (.aload_n 0, 1) := by decide +kernel
theorem dX3_told_6 : decode cX3_told 6 = .ok (.getfield 12, 3) := by decide +kernel
theorem dX3_told_9 : decode cX3_told 9 = .ok (.getfield 31, 3) := by decide +kernel
theorem dX3_told_12 : decode cX3_told 12 = .ok (.getfield 148, 3) := by decide +kernel
theorem dX3_told_15 : decode cX3_told 15 = .ok (.aload_n 0, 1) := by decide +kernel
theorem dX3_told_16 : decode cX3_told 16 = .ok (.iload_n 1, 1) := by decide +kernel
theorem dX3_told_17 : decode cX3_told 17 = .ok (.invokevirtual 83, 3) := by decide +kernel
theorem dX3_told_20 : decode cX3_told 20 = .ok (.iaload, 1) := by decide +kernel
theorem dX3_told_21 : decode cX3_told 21 = .ok (.istore_n 3, 1) := by decide +kernel
theorem dX3_told_22 : decode cX3_told 22 = .ok (.iload_n 2, 1) := by decide +kernel
theorem dX3_told_23 : decode cX3_told 23 = .ok (.tableswitch 82 0 3 #[29, 43, 56, 69], 29) := by decide +kernel
theorem dX3_told_52 : decode cX3_told 52 = .ok (.aload_n 0, 1) := by decide +kernel
theorem dX3_told_53 : decode cX3_told 53 = .ok (.getfield 12, 3) := by decide +kernel
theorem dX3_told_56 : decode cX3_told 56 = .ok (.getfield 31, 3) := by decide +kernel
theorem dX3_told_59 : decode cX3_told 59 = .ok (.getfield 151, 3) := by decide +kernel
theorem dX3_told_62 : decode cX3_told 62 = .ok (.iload_n 3, 1) := by decide +kernel
theorem dX3_told_63 : decode cX3_told 63 = .ok (.iaload, 1) := by decide +kernel
theorem dX3_told_64 : decode cX3_told 64 = .ok (.i2l, 1) := by decide +kernel
theorem dX3_told_65 : decode cX3_told 65 = .ok (.lreturn, 1) := by decide +kernel
theorem dX3_told_66 : decode cX3_told 66 = .ok (.aload_n 0, 1) := by decide +kernel
theorem dX3_told_67 : decode cX3_told 67 = .ok (.getfield 12, 3) := by decide +kernel
theorem dX3_told_70 : decode cX3_told 70 = .ok (.getfield 31, 3) := by decide +kernel
theorem dX3_told_73 : decode cX3_told 73 = .ok (.getfield 154, 3) := by decide +kernel
theorem dX3_told_76 : decode cX3_told 76 = .ok (.iload_n 3, 1) := by decide +kernel
theorem dX3_told_77 : decode cX3_told 77 = .ok (.laload, 1) := by decide +kernel
theorem dX3_told_78 : decode cX3_told 78 = .ok (.lreturn, 1) := by decide +kernel
theorem dX3_told_79 : decode cX3_told 79 = .ok (.aload_n 0, 1) := by decide +kernel
theorem dX3_told_80 : decode cX3_told 80 = .ok (.getfield 12, 3) := by decide +kernel
theorem dX3_told_83 : decode cX3_told 83 = .ok (.getfield 31, 3) := by decide +kernel
theorem dX3_told_86 : decode cX3_told 86 = .ok (.getfield 155, 3) := by decide +kernel
theorem dX3_told_89 : decode cX3_told 89 = .ok (.iload_n 3, 1) := by decide +kernel
theorem dX3_told_90 : decode cX3_told 90 = .ok (.laload, 1) := by decide +kernel
theorem dX3_told_91 : decode cX3_told 91 = .ok (.lreturn, 1) := by decide +kernel
theorem dX3_told_92 : decode cX3_told 92 = .ok (.aload_n 0, 1) := by decide +kernel
theorem dX3_told_93 : decode cX3_told 93 = .ok (.getfield 12, 3) := by decide +kernel
theorem dX3_told_96 : decode cX3_told 96 = .ok (.getfield 31, 3) := by decide +kernel
theorem dX3_told_99 : decode cX3_told 99 = .ok (.getfield 156, 3) := by decide +kernel
theorem dX3_told_102 : decode cX3_told 102 = .ok (.iload_n 3, 1) := by decide +kernel
theorem dX3_told_103 : decode cX3_told 103 = .ok (.laload, 1) := by decide +kernel
theorem dX3_told_104 : decode cX3_told 104 = .ok (.lreturn, 1) := by decide +kernel
theorem dX3_told_105 : decode cX3_told 105 = .ok (.aload_n 0, 1) := by decide +kernel
theorem dX3_told_106 : decode cX3_told 106 = .ok (.getfield 12, 3) := by decide +kernel
theorem dX3_told_109 : decode cX3_told 109 = .ok (.getfield 31, 3) := by decide +kernel
theorem dX3_told_112 : decode cX3_told 112 = .ok (.getfield 159, 3) := by decide +kernel
theorem dX3_told_115 : decode cX3_told 115 = .ok (.iload_n 3, 1) := by decide +kernel
theorem dX3_told_116 : decode cX3_told 116 = .ok (.iaload, 1) := by decide +kernel
theorem dX3_told_117 : decode cX3_told 117 = .ok (.i2l, 1) := by decide +kernel
theorem dX3_told_118 : decode cX3_told 118 = .ok (.lreturn, 1) := by decide +kernel
set_option maxRecDepth 20000 in
theorem ggX3_next_X3_needClock : GoodIn wsX3_next wsX3_needClock := goodIn_ca (goodIn_r _ [8, 9, 10] (by decide +kernel) (by decide +kernel)) (goodIn_sub (fun _ h => List.mem_cons_of_mem _ (List.mem_append_right _ h)) (by decide +kernel))
set_option maxRecDepth 20000 in
theorem gX3_next_X3_needClock : GoodIn wsX3_next (va_wsS RX3 47 yX3_needClock wsX3_needClock) := goodIn_app (goodIn_of _ (by decide +kernel)) ggX3_next_X3_needClock
set_option maxRecDepth 20000 in
theorem ggX3_next_X0_headOf : GoodIn wsX3_next wsX0_headOf := goodIn_r _ [15, 16, 17, 18, 30, 31, 32, 33, 34, 35, 36, 37] (by decide +kernel) (by decide +kernel)
set_option maxRecDepth 20000 in
theorem gX3_next_X0_headOf : GoodIn wsX3_next (wsV RX3 160 RX0 yX0_headOf wsX0_headOf) := goodIn_app (goodIn_of _ (by decide +kernel)) ggX3_next_X0_headOf
theorem dX3_next_0 : decode cX3_next 0 = .ok (.iload_n 1, 1) := by decide +kernel
theorem dX3_next_1 : decode cX3_next 1 = .ok (.invokestatic 47, 3) := by decide +kernel
theorem dX3_next_4 : decode cX3_next 4 = .ok (.aload_n 0, 1) := by decide +kernel
theorem dX3_next_5 : decode cX3_next 5 = .ok (.getfield 12, 3) := by decide +kernel
theorem dX3_next_8 : decode cX3_next 8 = .ok (.getfield 31, 3) := by decide +kernel
theorem dX3_next_11 : decode cX3_next 11 = .ok (.iload_n 1, 1) := by decide +kernel
theorem dX3_next_12 : decode cX3_next 12 = .ok (.invokevirtual 160, 3) := by decide +kernel
theorem dX3_next_15 : decode cX3_next 15 = .ok (.istore_n 2, 1) := by decide +kernel
theorem dX3_next_16 : decode cX3_next 16 = .ok (.iload_n 2, 1) := by decide +kernel
theorem dX3_next_17 : decode cX3_next 17 = .ok (.iconst (-1), 1) := by decide +kernel
theorem dX3_next_18 : decode cX3_next 18 = .ok (.if_icmp .ne 7, 3) := by decide +kernel
theorem dX3_next_21 : decode cX3_next 21 = .ok (.iconst (-1), 1) := by decide +kernel
theorem dX3_next_22 : decode cX3_next 22 = .ok (.goto 26, 3) := by decide +kernel
theorem dX3_next_25 : decode cX3_next 25 = .ok (.aload_n 0, 1) := by decide +kernel
theorem dX3_next_26 : decode cX3_next 26 = .ok (.getfield 12, 3) := by decide +kernel
theorem dX3_next_29 : decode cX3_next 29 = .ok (.getfield 31, 3) := by decide +kernel
theorem dX3_next_32 : decode cX3_next 32 = .ok (.getfield 163, 3) := by decide +kernel
theorem dX3_next_35 : decode cX3_next 35 = .ok (.aload_n 0, 1) := by decide +kernel
theorem dX3_next_36 : decode cX3_next 36 = .ok (.getfield 12, 3) := by decide +kernel
theorem dX3_next_39 : decode cX3_next 39 = .ok (.getfield 31, 3) := by decide +kernel
theorem dX3_next_42 : decode cX3_next 42 = .ok (.getfield 148, 3) := by decide +kernel
theorem dX3_next_45 : decode cX3_next 45 = .ok (.iload_n 2, 1) := by decide +kernel
theorem dX3_next_46 : decode cX3_next 46 = .ok (.iaload, 1) := by decide +kernel
theorem dX3_next_47 : decode cX3_next 47 = .ok (.iaload, 1) := by decide +kernel
theorem dX3_next_48 : decode cX3_next 48 = .ok (.ireturn, 1) := by decide +kernel
set_option maxRecDepth 20000 in
theorem ggX3_waiting_X3_needClock : GoodIn wsX3_waiting wsX3_needClock := goodIn_ca (goodIn_r _ [8, 1, 2] (by decide +kernel) (by decide +kernel)) (goodIn_sub (fun _ h => List.mem_cons_of_mem _ (List.mem_append_right _ h)) (by decide +kernel))
set_option maxRecDepth 20000 in
theorem gX3_waiting_X3_needClock : GoodIn wsX3_waiting (va_wsS RX3 47 yX3_needClock wsX3_needClock) := goodIn_app (goodIn_of _ (by decide +kernel)) ggX3_waiting_X3_needClock
set_option maxRecDepth 20000 in
theorem ggX3_waiting_X0_countBetween : GoodIn wsX3_waiting wsX0_countBetween := goodIn_r _ [13, 14, 15, 16, 17, 18, 30, 31, 32, 33, 34, 35, 36, 37] (by decide +kernel) (by decide +kernel)
set_option maxRecDepth 20000 in
theorem gX3_waiting_X0_countBetween : GoodIn wsX3_waiting (wsV RX3 166 RX0 yX0_countBetween wsX0_countBetween) := goodIn_app (goodIn_of _ (by decide +kernel)) ggX3_waiting_X0_countBetween
theorem dX3_waiting_0 : decode cX3_waiting 0 = .ok (.iload_n 1, 1) := by decide +kernel
theorem dX3_waiting_1 : decode cX3_waiting 1 = .ok (.invokestatic 47, 3) := by decide +kernel
theorem dX3_waiting_4 : decode cX3_waiting 4 = .ok (.lload 4, 2) := by decide +kernel
theorem dX3_waiting_6 : decode cX3_waiting 6 = .ok (.lload 6, 2) := by decide +kernel
theorem dX3_waiting_8 : decode cX3_waiting 8 = .ok (.lcmp, 1) := by decide +kernel
theorem dX3_waiting_9 : decode cX3_waiting 9 = .ok (.ifCond .le 13, 3) := by decide +kernel
theorem dX3_waiting_12 : decode cX3_waiting 12 = .ok (.new 57, 3) := by decide +kernel
theorem dX3_waiting_15 : decode cX3_waiting 15 = .ok (.dup, 1) := by decide +kernel
theorem dX3_waiting_16 : decode cX3_waiting 16 = .ok (.ldc 164, 2) := by decide +kernel
theorem dX3_waiting_18 : decode cX3_waiting 18 = .ok (.invokespecial 61, 3) := by decide +kernel
theorem dX3_waiting_21 : decode cX3_waiting 21 = .ok (.athrow, 1) := by decide +kernel
theorem dX3_waiting_22 : decode cX3_waiting 22 = .ok (.aload_n 0, 1) := by decide +kernel
theorem dX3_waiting_23 : decode cX3_waiting 23 = .ok (.getfield 12, 3) := by decide +kernel
theorem dX3_waiting_26 : decode cX3_waiting 26 = .ok (.getfield 31, 3) := by decide +kernel
theorem dX3_waiting_29 : decode cX3_waiting 29 = .ok (.iload_n 1, 1) := by decide +kernel
theorem dX3_waiting_30 : decode cX3_waiting 30 = .ok (.lload_n 2, 1) := by decide +kernel
theorem dX3_waiting_31 : decode cX3_waiting 31 = .ok (.lload 4, 2) := by decide +kernel
theorem dX3_waiting_33 : decode cX3_waiting 33 = .ok (.lload 6, 2) := by decide +kernel
theorem dX3_waiting_35 : decode cX3_waiting 35 = .ok (.invokevirtual 166, 3) := by decide +kernel
theorem dX3_waiting_38 : decode cX3_waiting 38 = .ok (.ireturn, 1) := by decide +kernel
set_option maxRecDepth 20000 in
theorem ggX3_keep_X2_init : GoodIn wsX3_keep wsX2_init := goodIn_r _ [11, 12, 13, 14, 15, 16, 17, 18, 19, 20, 21, 22, 23, 24, 25, 26, 27, 28, 29, 30, 31, 32, 33, 34, 35, 36, 37, 7, 38, 39, 40, 41, 42, 43, 44, 45, 46, 47, 48, 73, 74, 75, 76, 77, 78, 79, 80, 66, 67, 68, 69, 70, 71, 72] (by decide +kernel) (by decide +kernel)
set_option maxRecDepth 20000 in
theorem gX3_keep_X2_init : GoodIn wsX3_keep (wsX2_init) := ggX3_keep_X2_init
set_option maxRecDepth 20000 in
theorem ggX3_keep_X2_copyFrom : GoodIn wsX3_keep wsX2_copyFrom := goodIn_r _ [52, 18, 19, 21, 53, 54, 55, 56, 41, 42, 43, 44, 57, 58, 59, 17, 60, 27, 61, 28, 29, 30, 31, 32, 33, 34, 66, 67, 68, 69, 70, 71, 72, 73, 74, 75, 76, 77, 78, 79, 80] (by decide +kernel) (by decide +kernel)
set_option maxRecDepth 20000 in
theorem gX3_keep_X2_copyFrom : GoodIn wsX3_keep (wsV RX3 172 RX2 yX2_copyFrom wsX2_copyFrom) := goodIn_app (goodIn_of _ (by decide +kernel)) ggX3_keep_X2_copyFrom
theorem dX3_keep_0 : decode cX3_keep 0 = .ok (.aload_n 0, 1) := by decide +kernel
theorem dX3_keep_1 : decode cX3_keep 1 = .ok (.getfield 27, 3) := by decide +kernel
theorem dX3_keep_4 : decode cX3_keep 4 = .ok (.iconst 3, 1) := by decide +kernel
theorem dX3_keep_5 : decode cX3_keep 5 = .ok (.if_icmp .lt 13, 3) := by decide +kernel
theorem dX3_keep_8 : decode cX3_keep 8 = .ok (.new 70, 3) := by decide +kernel
theorem dX3_keep_11 : decode cX3_keep 11 = .ok (.dup, 1) := by decide +kernel
theorem dX3_keep_12 : decode cX3_keep 12 = .ok (.ldc 170, 2) := by decide +kernel
theorem dX3_keep_14 : decode cX3_keep 14 = .ok (.invokespecial 74, 3) := by decide +kernel
theorem dX3_keep_17 : decode cX3_keep 17 = .ok (.athrow, 1) := by decide +kernel
theorem dX3_keep_18 : decode cX3_keep 18 = .ok (.aload_n 0, 1) := by decide +kernel
theorem dX3_keep_19 : decode cX3_keep 19 = .ok (.getfield 27, 3) := by decide +kernel
theorem dX3_keep_22 : decode cX3_keep 22 = .ok (.istore_n 1, 1) := by decide +kernel
theorem dX3_keep_23 : decode cX3_keep 23 = .ok (.aload_n 0, 1) := by decide +kernel
theorem dX3_keep_24 : decode cX3_keep 24 = .ok (.getfield 16, 3) := by decide +kernel
theorem dX3_keep_27 : decode cX3_keep 27 = .ok (.iload_n 1, 1) := by decide +kernel
theorem dX3_keep_28 : decode cX3_keep 28 = .ok (.aaload, 1) := by decide +kernel
theorem dX3_keep_29 : decode cX3_keep 29 = .ok (.astore_n 2, 1) := by decide +kernel
theorem dX3_keep_30 : decode cX3_keep 30 = .ok (.aload_n 2, 1) := by decide +kernel
theorem dX3_keep_31 : decode cX3_keep 31 = .ok (.ifnonnull 18, 3) := by decide +kernel
theorem dX3_keep_34 : decode cX3_keep 34 = .ok (.new 9, 3) := by decide +kernel
theorem dX3_keep_37 : decode cX3_keep 37 = .ok (.dup, 1) := by decide +kernel
theorem dX3_keep_38 : decode cX3_keep 38 = .ok (.invokespecial 11, 3) := by decide +kernel
theorem dX3_keep_41 : decode cX3_keep 41 = .ok (.astore_n 2, 1) := by decide +kernel
theorem dX3_keep_42 : decode cX3_keep 42 = .ok (.aload_n 0, 1) := by decide +kernel
theorem dX3_keep_43 : decode cX3_keep 43 = .ok (.getfield 16, 3) := by decide +kernel
theorem dX3_keep_46 : decode cX3_keep 46 = .ok (.iload_n 1, 1) := by decide +kernel
theorem dX3_keep_47 : decode cX3_keep 47 = .ok (.aload_n 2, 1) := by decide +kernel
theorem dX3_keep_48 : decode cX3_keep 48 = .ok (.aastore, 1) := by decide +kernel
theorem dX3_keep_49 : decode cX3_keep 49 = .ok (.aload_n 2, 1) := by decide +kernel
theorem dX3_keep_50 : decode cX3_keep 50 = .ok (.aload_n 0, 1) := by decide +kernel
theorem dX3_keep_51 : decode cX3_keep 51 = .ok (.getfield 12, 3) := by decide +kernel
theorem dX3_keep_54 : decode cX3_keep 54 = .ok (.invokevirtual 172, 3) := by decide +kernel
theorem dX3_keep_57 : decode cX3_keep 57 = .ok (.aload_n 0, 1) := by decide +kernel
theorem dX3_keep_58 : decode cX3_keep 58 = .ok (.dup, 1) := by decide +kernel
theorem dX3_keep_59 : decode cX3_keep 59 = .ok (.getfield 27, 3) := by decide +kernel
theorem dX3_keep_62 : decode cX3_keep 62 = .ok (.iconst 1, 1) := by decide +kernel
theorem dX3_keep_63 : decode cX3_keep 63 = .ok (.iadd, 1) := by decide +kernel
theorem dX3_keep_64 : decode cX3_keep 64 = .ok (.putfield 27, 3) := by decide +kernel
theorem dX3_keep_67 : decode cX3_keep 67 = .ok (.iload_n 1, 1) := by decide +kernel
theorem dX3_keep_68 : decode cX3_keep 68 = .ok (.ireturn, 1) := by decide +kernel
set_option maxRecDepth 20000 in
theorem ggX3_back_X2_copyFrom : GoodIn wsX3_back wsX2_copyFrom := goodIn_r _ [12, 13, 14, 15, 16, 17, 18, 19, 20, 21, 22, 23, 24, 25, 26, 27, 28, 29, 30, 31, 32, 33, 34, 35, 36, 37, 42, 43, 44, 45, 46, 47, 48, 49, 50, 51, 52, 53, 54, 55, 56] (by decide +kernel) (by decide +kernel)
set_option maxRecDepth 20000 in
theorem gX3_back_X2_copyFrom : GoodIn wsX3_back (wsV RX3 172 RX2 yX2_copyFrom wsX2_copyFrom) := goodIn_app (goodIn_of _ (by decide +kernel)) ggX3_back_X2_copyFrom
theorem dX3_back_0 : decode cX3_back 0 = .ok (.iload_n 1, 1) := by decide +kernel
theorem dX3_back_1 : decode cX3_back 1 = .ok (.ifCond .lt 11, 3) := by decide +kernel
theorem dX3_back_4 : decode cX3_back 4 = .ok (.iload_n 1, 1) := by decide +kernel
theorem dX3_back_5 : decode cX3_back 5 = .ok (.aload_n 0, 1) := by decide +kernel
theorem dX3_back_6 : decode cX3_back 6 = .ok (.getfield 27, 3) := by decide +kernel
theorem dX3_back_9 : decode cX3_back 9 = .ok (.if_icmp .lt 7, 3) := by decide +kernel
theorem dX3_back_12 : decode cX3_back 12 = .ok (.aconst_null, 1) := by decide +kernel
theorem dX3_back_13 : decode cX3_back 13 = .ok (.goto 9, 3) := by decide +kernel
theorem dX3_back_16 : decode cX3_back 16 = .ok (.aload_n 0, 1) := by decide +kernel
theorem dX3_back_17 : decode cX3_back 17 = .ok (.getfield 16, 3) := by decide +kernel
theorem dX3_back_20 : decode cX3_back 20 = .ok (.iload_n 1, 1) := by decide +kernel
theorem dX3_back_21 : decode cX3_back 21 = .ok (.aaload, 1) := by decide +kernel
theorem dX3_back_22 : decode cX3_back 22 = .ok (.astore_n 2, 1) := by decide +kernel
theorem dX3_back_23 : decode cX3_back 23 = .ok (.aload_n 2, 1) := by decide +kernel
theorem dX3_back_24 : decode cX3_back 24 = .ok (.ifnonnull 13, 3) := by decide +kernel
theorem dX3_back_27 : decode cX3_back 27 = .ok (.new 57, 3) := by decide +kernel
theorem dX3_back_30 : decode cX3_back 30 = .ok (.dup, 1) := by decide +kernel
theorem dX3_back_31 : decode cX3_back 31 = .ok (.ldc 176, 2) := by decide +kernel
theorem dX3_back_33 : decode cX3_back 33 = .ok (.invokespecial 61, 3) := by decide +kernel
theorem dX3_back_36 : decode cX3_back 36 = .ok (.athrow, 1) := by decide +kernel
theorem dX3_back_37 : decode cX3_back 37 = .ok (.aload_n 0, 1) := by decide +kernel
theorem dX3_back_38 : decode cX3_back 38 = .ok (.getfield 12, 3) := by decide +kernel
theorem dX3_back_41 : decode cX3_back 41 = .ok (.aload_n 2, 1) := by decide +kernel
theorem dX3_back_42 : decode cX3_back 42 = .ok (.invokevirtual 172, 3) := by decide +kernel
theorem dX3_back_45 : decode cX3_back 45 = .ok (.aload_n 0, 1) := by decide +kernel
theorem dX3_back_46 : decode cX3_back 46 = .ok (.getfield 12, 3) := by decide +kernel
theorem dX3_back_49 : decode cX3_back 49 = .ok (.getfield 31, 3) := by decide +kernel
theorem dX3_back_52 : decode cX3_back 52 = .ok (.getfield 35, 3) := by decide +kernel
theorem dX3_back_55 : decode cX3_back 55 = .ok (.ireturn, 1) := by decide +kernel
theorem dX3_forget_0 : decode cX3_forget 0 = .ok (.aload_n 0, 1) := by decide +kernel
theorem dX3_forget_1 : decode cX3_forget 1 = .ok (.getfield 27, 3) := by decide +kernel
theorem dX3_forget_4 : decode cX3_forget 4 = .ok (.ifCond .ne 13, 3) := by decide +kernel
theorem dX3_forget_7 : decode cX3_forget 7 = .ok (.new 70, 3) := by decide +kernel
theorem dX3_forget_10 : decode cX3_forget 10 = .ok (.dup, 1) := by decide +kernel
theorem dX3_forget_11 : decode cX3_forget 11 = .ok (.ldc 178, 2) := by decide +kernel
theorem dX3_forget_13 : decode cX3_forget 13 = .ok (.invokespecial 74, 3) := by decide +kernel
theorem dX3_forget_16 : decode cX3_forget 16 = .ok (.athrow, 1) := by decide +kernel
theorem dX3_forget_17 : decode cX3_forget 17 = .ok (.aload_n 0, 1) := by decide +kernel
theorem dX3_forget_18 : decode cX3_forget 18 = .ok (.dup, 1) := by decide +kernel
theorem dX3_forget_19 : decode cX3_forget 19 = .ok (.getfield 27, 3) := by decide +kernel
theorem dX3_forget_22 : decode cX3_forget 22 = .ok (.iconst 1, 1) := by decide +kernel
theorem dX3_forget_23 : decode cX3_forget 23 = .ok (.isub, 1) := by decide +kernel
theorem dX3_forget_24 : decode cX3_forget 24 = .ok (.putfield 27, 3) := by decide +kernel
theorem dX3_forget_27 : decode cX3_forget 27 = .ok (.aload_n 0, 1) := by decide +kernel
theorem dX3_forget_28 : decode cX3_forget 28 = .ok (.getfield 27, 3) := by decide +kernel
theorem dX3_forget_31 : decode cX3_forget 31 = .ok (.ireturn, 1) := by decide +kernel
set_option maxRecDepth 20000 in
theorem ggX3_task_X3_needTasks : GoodIn wsX3_task wsX3_needTasks := goodIn_ca (goodIn_r _ [4, 5, 6] (by decide +kernel) (by decide +kernel)) (goodIn_sub (fun _ h => List.mem_cons_of_mem _ (List.mem_append_right _ h)) (by decide +kernel))
set_option maxRecDepth 20000 in
theorem gX3_task_X3_needTasks : GoodIn wsX3_task (va_wsS RX3 180 yX3_needTasks wsX3_needTasks) := goodIn_app (goodIn_of _ (by decide +kernel)) ggX3_task_X3_needTasks
set_option maxRecDepth 20000 in
theorem ggX3_task_X3_taskOf : GoodIn wsX3_task wsX3_taskOf := goodIn_r _ [9, 10, 11, 12, 13, 14] (by decide +kernel) (by decide +kernel)
set_option maxRecDepth 20000 in
theorem gX3_task_X3_taskOf : GoodIn wsX3_task (va_wsS RX3 183 yX3_taskOf wsX3_taskOf) := goodIn_app (goodIn_of _ (by decide +kernel)) ggX3_task_X3_taskOf
theorem dX3_task_0 : decode cX3_task 0 = .ok (.iload_n 3, 1) := by decide +kernel
theorem dX3_task_1 : decode cX3_task 1 = .ok (.invokestatic 180, 3) := by decide +kernel
theorem dX3_task_4 : decode cX3_task 4 = .ok (.lload_n 1, 1) := by decide +kernel
theorem dX3_task_5 : decode cX3_task 5 = .ok (.iload_n 3, 1) := by decide +kernel
theorem dX3_task_6 : decode cX3_task 6 = .ok (.invokestatic 183, 3) := by decide +kernel
theorem dX3_task_9 : decode cX3_task 9 = .ok (.ireturn, 1) := by decide +kernel
set_option maxRecDepth 20000 in
theorem ggX3_load_X3_needTasks : GoodIn wsX3_load wsX3_needTasks := goodIn_ca (goodIn_r _ [9, 1, 2] (by decide +kernel) (by decide +kernel)) (goodIn_sub (fun _ h => List.mem_cons_of_mem _ (List.mem_append_right _ h)) (by decide +kernel))
set_option maxRecDepth 20000 in
theorem gX3_load_X3_needTasks : GoodIn wsX3_load (va_wsS RX3 180 yX3_needTasks wsX3_needTasks) := goodIn_app (goodIn_of _ (by decide +kernel)) ggX3_load_X3_needTasks
set_option maxRecDepth 20000 in
theorem ggX3_load_X0_countOfTask : GoodIn wsX3_load wsX0_countOfTask := goodIn_r _ [14, 15, 16, 17, 18, 8, 19, 20, 21, 22, 23, 24, 36, 37, 38, 39, 40, 41, 42, 43] (by decide +kernel) (by decide +kernel)
set_option maxRecDepth 20000 in
theorem gX3_load_X0_countOfTask : GoodIn wsX3_load (wsV RX3 189 RX0 yX0_countOfTask wsX0_countOfTask) := goodIn_app (goodIn_of _ (by decide +kernel)) ggX3_load_X0_countOfTask
theorem dX3_load_0 : decode cX3_load 0 = .ok (.iload_n 2, 1) := by decide +kernel
theorem dX3_load_1 : decode cX3_load 1 = .ok (.invokestatic 180, 3) := by decide +kernel
theorem dX3_load_4 : decode cX3_load 4 = .ok (.iload_n 1, 1) := by decide +kernel
theorem dX3_load_5 : decode cX3_load 5 = .ok (.ifCond .lt 8, 3) := by decide +kernel
theorem dX3_load_8 : decode cX3_load 8 = .ok (.iload_n 1, 1) := by decide +kernel
theorem dX3_load_9 : decode cX3_load 9 = .ok (.iload_n 2, 1) := by decide +kernel
theorem dX3_load_10 : decode cX3_load 10 = .ok (.if_icmp .lt 13, 3) := by decide +kernel
theorem dX3_load_13 : decode cX3_load 13 = .ok (.new 57, 3) := by decide +kernel
theorem dX3_load_16 : decode cX3_load 16 = .ok (.dup, 1) := by decide +kernel
theorem dX3_load_17 : decode cX3_load 17 = .ok (.ldc 187, 2) := by decide +kernel
theorem dX3_load_19 : decode cX3_load 19 = .ok (.invokespecial 61, 3) := by decide +kernel
theorem dX3_load_22 : decode cX3_load 22 = .ok (.athrow, 1) := by decide +kernel
theorem dX3_load_23 : decode cX3_load 23 = .ok (.aload_n 0, 1) := by decide +kernel
theorem dX3_load_24 : decode cX3_load 24 = .ok (.getfield 12, 3) := by decide +kernel
theorem dX3_load_27 : decode cX3_load 27 = .ok (.getfield 31, 3) := by decide +kernel
theorem dX3_load_30 : decode cX3_load 30 = .ok (.iload_n 1, 1) := by decide +kernel
theorem dX3_load_31 : decode cX3_load 31 = .ok (.iload_n 2, 1) := by decide +kernel
theorem dX3_load_32 : decode cX3_load 32 = .ok (.invokevirtual 189, 3) := by decide +kernel
theorem dX3_load_35 : decode cX3_load 35 = .ok (.aload_n 0, 1) := by decide +kernel
theorem dX3_load_36 : decode cX3_load 36 = .ok (.getfield 12, 3) := by decide +kernel
theorem dX3_load_39 : decode cX3_load 39 = .ok (.getfield 40, 3) := by decide +kernel
theorem dX3_load_42 : decode cX3_load 42 = .ok (.iload_n 1, 1) := by decide +kernel
theorem dX3_load_43 : decode cX3_load 43 = .ok (.iload_n 2, 1) := by decide +kernel
theorem dX3_load_44 : decode cX3_load 44 = .ok (.invokevirtual 189, 3) := by decide +kernel
theorem dX3_load_47 : decode cX3_load 47 = .ok (.iadd, 1) := by decide +kernel
theorem dX3_load_48 : decode cX3_load 48 = .ok (.ireturn, 1) := by decide +kernel
set_option maxRecDepth 20000 in
theorem ggX3_of_X3_needWhat : GoodIn wsX3_of wsX3_needWhat := goodIn_ca (goodIn_r _ [14, 15, 16] (by decide +kernel) (by decide +kernel)) (goodIn_sub (fun _ h => List.mem_cons_of_mem _ (List.mem_append_right _ h)) (by decide +kernel))
set_option maxRecDepth 20000 in
theorem gX3_of_X3_needWhat : GoodIn wsX3_of (va_wsS RX3 123 yX3_needWhat wsX3_needWhat) := goodIn_app (goodIn_of _ (by decide +kernel)) ggX3_of_X3_needWhat
theorem dX3_of_0 : decode cX3_of 0 = .ok (.iload_n 1, 1) := by decide +kernel
theorem dX3_of_1 : decode cX3_of 1 = .ok (.bipush 6, 2) := by decide +kernel
theorem dX3_of_3 : decode cX3_of 3 = .ok (.invokestatic 123, 3) := by decide +kernel
theorem dX3_of_6 : decode cX3_of 6 = .ok (.iload_n 1, 1) := by decide +kernel
theorem dX3_of_7 : decode cX3_of 7 = .ok (.tableswitch 88 0 5 #[37, 48, 59, 67, 75, 83], 37) := by decide +kernel
theorem dX3_of_44 : decode cX3_of 44 = .ok (.aload_n 0, 1) := by decide +kernel
theorem dX3_of_45 : decode cX3_of 45 = .ok (.getfield 12, 3) := by decide +kernel
theorem dX3_of_48 : decode cX3_of 48 = .ok (.getfield 31, 3) := by decide +kernel
theorem dX3_of_51 : decode cX3_of 51 = .ok (.getfield 35, 3) := by decide +kernel
theorem dX3_of_54 : decode cX3_of 54 = .ok (.ireturn, 1) := by decide +kernel
theorem dX3_of_55 : decode cX3_of 55 = .ok (.aload_n 0, 1) := by decide +kernel
theorem dX3_of_56 : decode cX3_of 56 = .ok (.getfield 12, 3) := by decide +kernel
theorem dX3_of_59 : decode cX3_of 59 = .ok (.getfield 40, 3) := by decide +kernel
theorem dX3_of_62 : decode cX3_of 62 = .ok (.getfield 35, 3) := by decide +kernel
theorem dX3_of_65 : decode cX3_of 65 = .ok (.ireturn, 1) := by decide +kernel
theorem dX3_of_66 : decode cX3_of 66 = .ok (.aload_n 0, 1) := by decide +kernel
theorem dX3_of_67 : decode cX3_of 67 = .ok (.getfield 12, 3) := by decide +kernel
theorem dX3_of_70 : decode cX3_of 70 = .ok (.getfield 193, 3) := by decide +kernel
theorem dX3_of_73 : decode cX3_of 73 = .ok (.ireturn, 1) := by decide +kernel
theorem dX3_of_74 : decode cX3_of 74 = .ok (.aload_n 0, 1) := by decide +kernel
theorem dX3_of_75 : decode cX3_of 75 = .ok (.getfield 12, 3) := by decide +kernel
theorem dX3_of_78 : decode cX3_of 78 = .ok (.getfield 110, 3) := by decide +kernel
theorem dX3_of_81 : decode cX3_of 81 = .ok (.ireturn, 1) := by decide +kernel
theorem dX3_of_82 : decode cX3_of 82 = .ok (.aload_n 0, 1) := by decide +kernel
theorem dX3_of_83 : decode cX3_of 83 = .ok (.getfield 12, 3) := by decide +kernel
theorem dX3_of_86 : decode cX3_of 86 = .ok (.getfield 105, 3) := by decide +kernel
theorem dX3_of_89 : decode cX3_of 89 = .ok (.ireturn, 1) := by decide +kernel
theorem dX3_of_90 : decode cX3_of 90 = .ok (.aload_n 0, 1) := by decide +kernel
theorem dX3_of_91 : decode cX3_of 91 = .ok (.getfield 27, 3) := by decide +kernel
theorem dX3_of_94 : decode cX3_of 94 = .ok (.ireturn, 1) := by decide +kernel
theorem dX3_of_95 : decode cX3_of 95 = .ok (.aload_n 0, 1) := by decide +kernel
theorem dX3_of_96 : decode cX3_of 96 = .ok (.getfield 23, 3) := by decide +kernel
theorem dX3_of_99 : decode cX3_of 99 = .ok (.getfield 46, 3) := by decide +kernel
theorem dX3_of_102 : decode cX3_of 102 = .ok (.ireturn, 1) := by decide +kernel
set_option maxRecDepth 20000 in
theorem ggX3_now_X3_needClock : GoodIn wsX3_now wsX3_needClock := goodIn_ca (goodIn_r _ [6, 7, 8] (by decide +kernel) (by decide +kernel)) (goodIn_sub (fun _ h => List.mem_cons_of_mem _ (List.mem_append_right _ h)) (by decide +kernel))
set_option maxRecDepth 20000 in
theorem gX3_now_X3_needClock : GoodIn wsX3_now (va_wsS RX3 47 yX3_needClock wsX3_needClock) := goodIn_app (goodIn_of _ (by decide +kernel)) ggX3_now_X3_needClock
theorem dX3_now_0 : decode cX3_now 0 = .ok (.iload_n 1, 1) := by decide +kernel
theorem dX3_now_1 : decode cX3_now 1 = .ok (.invokestatic 47, 3) := by decide +kernel
theorem dX3_now_4 : decode cX3_now 4 = .ok (.aload_n 0, 1) := by decide +kernel
theorem dX3_now_5 : decode cX3_now 5 = .ok (.getfield 12, 3) := by decide +kernel
theorem dX3_now_8 : decode cX3_now 8 = .ok (.getfield 101, 3) := by decide +kernel
theorem dX3_now_11 : decode cX3_now 11 = .ok (.iload_n 1, 1) := by decide +kernel
theorem dX3_now_12 : decode cX3_now 12 = .ok (.laload, 1) := by decide +kernel
theorem dX3_now_13 : decode cX3_now 13 = .ok (.lreturn, 1) := by decide +kernel
set_option maxRecDepth 20000 in
theorem ggX3_doFirstDue_X0_dueOf : GoodIn wsX3_doFirstDue wsX0_dueOf := goodIn_r _ [9, 10, 11, 12, 8, 13, 14, 15, 16, 17, 18, 19, 20, 21, 127, 128, 129, 130, 131, 132, 133, 134] (by decide +kernel) (by decide +kernel)
set_option maxRecDepth 20000 in
theorem gX3_doFirstDue_X0_dueOf : GoodIn wsX3_doFirstDue (wsV RX3 196 RX0 yX0_dueOf wsX0_dueOf) := goodIn_app (goodIn_of _ (by decide +kernel)) ggX3_doFirstDue_X0_dueOf
set_option maxRecDepth 20000 in
theorem ggX3_doFirstDue_X2_rowGoesAhead : GoodIn wsX3_doFirstDue wsX2_rowGoesAhead := goodIn_r _ [26, 27, 28, 29, 30, 18, 19, 8, 20, 21, 16, 120, 121, 122, 123, 124, 125, 126, 127, 128, 129, 130, 131, 132, 133, 134] (by decide +kernel) (by decide +kernel)
set_option maxRecDepth 20000 in
theorem gX3_doFirstDue_X2_rowGoesAhead : GoodIn wsX3_doFirstDue (wsV RX3 200 RX2 yX2_rowGoesAhead wsX2_rowGoesAhead) := goodIn_app (goodIn_of _ (by decide +kernel)) ggX3_doFirstDue_X2_rowGoesAhead
set_option maxRecDepth 20000 in
theorem ggX3_doFirstDue_X1_add : GoodIn wsX3_doFirstDue wsX1_add := goodIn_r _ [35, 36, 37, 38, 39, 40, 41, 42, 43, 44, 45, 46, 47, 48, 49, 34, 50, 51, 52, 53, 54, 55, 56, 57, 58, 59, 60, 61, 62, 63, 64, 65, 66, 67, 68, 69, 70, 71, 72, 73, 74, 75, 76, 77, 135, 136, 137, 138, 139, 140, 127, 128, 129, 130, 131, 132, 133, 134] (by decide +kernel) (by decide +kernel)
set_option maxRecDepth 20000 in
theorem gX3_doFirstDue_X1_add : GoodIn wsX3_doFirstDue (wsV RX3 204 RX1 yX1_add wsX1_add) := goodIn_app (goodIn_of _ (by decide +kernel)) ggX3_doFirstDue_X1_add
set_option maxRecDepth 20000 in
theorem ggX3_doFirstDue_X0_leave : GoodIn wsX3_doFirstDue wsX0_leave := goodIn_r _ [81, 16, 14, 82, 67, 68, 69, 127, 128, 129, 130, 131, 132, 133, 134] (by decide +kernel) (by decide +kernel)
set_option maxRecDepth 20000 in
theorem gX3_doFirstDue_X0_leave : GoodIn wsX3_doFirstDue (wsV RX3 98 RX0 yX0_leave wsX0_leave) := goodIn_app (goodIn_of _ (by decide +kernel)) ggX3_doFirstDue_X0_leave
set_option maxRecDepth 20000 in
theorem ggX3_doFirstDue_X2_finishTimer : GoodIn wsX3_doFirstDue wsX2_finishTimer := goodIn_r _ [86, 28, 87, 88, 89, 90, 91, 25, 92, 93, 94, 95, 96, 8, 97, 16, 14, 98, 21, 99, 100, 101, 79, 80, 81, 82, 67, 68, 69, 102, 103, 104, 105, 106, 107, 108, 109, 110, 111, 112, 113, 114, 115, 120, 121, 122, 123, 124, 125, 126, 127, 128, 129, 130, 131, 132, 133, 134] (by decide +kernel) (by decide +kernel)
set_option maxRecDepth 20000 in
theorem gX3_doFirstDue_X2_finishTimer : GoodIn wsX3_doFirstDue (wsV RX3 208 RX2 yX2_finishTimer wsX2_finishTimer) := goodIn_app (goodIn_of _ (by decide +kernel)) ggX3_doFirstDue_X2_finishTimer
theorem dX3_doFirstDue_0 : decode cX3_doFirstDue 0 = .ok (.aload_n 0, 1) := by decide +kernel
theorem dX3_doFirstDue_1 : decode cX3_doFirstDue 1 = .ok (.getfield 12, 3) := by decide +kernel
theorem dX3_doFirstDue_4 : decode cX3_doFirstDue 4 = .ok (.getfield 31, 3) := by decide +kernel
theorem dX3_doFirstDue_7 : decode cX3_doFirstDue 7 = .ok (.iload_n 1, 1) := by decide +kernel
theorem dX3_doFirstDue_8 : decode cX3_doFirstDue 8 = .ok (.lload_n 2, 1) := by decide +kernel
theorem dX3_doFirstDue_9 : decode cX3_doFirstDue 9 = .ok (.invokevirtual 196, 3) := by decide +kernel
theorem dX3_doFirstDue_12 : decode cX3_doFirstDue 12 = .ok (.istore 4, 2) := by decide +kernel
theorem dX3_doFirstDue_14 : decode cX3_doFirstDue 14 = .ok (.iload_n 1, 1) := by decide +kernel
theorem dX3_doFirstDue_15 : decode cX3_doFirstDue 15 = .ok (.ifCond .ne 18, 3) := by decide +kernel
theorem dX3_doFirstDue_18 : decode cX3_doFirstDue 18 = .ok (.aload_n 0, 1) := by decide +kernel
theorem dX3_doFirstDue_19 : decode cX3_doFirstDue 19 = .ok (.getfield 12, 3) := by decide +kernel
theorem dX3_doFirstDue_22 : decode cX3_doFirstDue 22 = .ok (.getfield 40, 3) := by decide +kernel
theorem dX3_doFirstDue_25 : decode cX3_doFirstDue 25 = .ok (.iload_n 1, 1) := by decide +kernel
theorem dX3_doFirstDue_26 : decode cX3_doFirstDue 26 = .ok (.lload_n 2, 1) := by decide +kernel
theorem dX3_doFirstDue_27 : decode cX3_doFirstDue 27 = .ok (.invokevirtual 196, 3) := by decide +kernel
theorem dX3_doFirstDue_30 : decode cX3_doFirstDue 30 = .ok (.goto 4, 3) := by decide +kernel
theorem dX3_doFirstDue_33 : decode cX3_doFirstDue 33 = .ok (.iconst (-1), 1) := by decide +kernel
theorem dX3_doFirstDue_34 : decode cX3_doFirstDue 34 = .ok (.istore 5, 2) := by decide +kernel
theorem dX3_doFirstDue_36 : decode cX3_doFirstDue 36 = .ok (.iload 4, 2) := by decide +kernel
theorem dX3_doFirstDue_38 : decode cX3_doFirstDue 38 = .ok (.iconst (-1), 1) := by decide +kernel
theorem dX3_doFirstDue_39 : decode cX3_doFirstDue 39 = .ok (.if_icmp .ne 11, 3) := by decide +kernel
theorem dX3_doFirstDue_42 : decode cX3_doFirstDue 42 = .ok (.iload 5, 2) := by decide +kernel
theorem dX3_doFirstDue_44 : decode cX3_doFirstDue 44 = .ok (.iconst (-1), 1) := by decide +kernel
theorem dX3_doFirstDue_45 : decode cX3_doFirstDue 45 = .ok (.if_icmp .ne 5, 3) := by decide +kernel
theorem dX3_doFirstDue_48 : decode cX3_doFirstDue 48 = .ok (.iconst 0, 1) := by decide +kernel
theorem dX3_doFirstDue_49 : decode cX3_doFirstDue 49 = .ok (.ireturn, 1) := by decide +kernel
theorem dX3_doFirstDue_50 : decode cX3_doFirstDue 50 = .ok (.iload 4, 2) := by decide +kernel
theorem dX3_doFirstDue_52 : decode cX3_doFirstDue 52 = .ok (.iconst (-1), 1) := by decide +kernel
theorem dX3_doFirstDue_53 : decode cX3_doFirstDue 53 = .ok (.if_icmp .eq 23, 3) := by decide +kernel
theorem dX3_doFirstDue_56 : decode cX3_doFirstDue 56 = .ok (.iload 5, 2) := by decide +kernel
theorem dX3_doFirstDue_58 : decode cX3_doFirstDue 58 = .ok (.iconst (-1), 1) := by decide +kernel
theorem dX3_doFirstDue_59 : decode cX3_doFirstDue 59 = .ok (.if_icmp .eq 49, 3) := by decide +kernel
theorem dX3_doFirstDue_62 : decode cX3_doFirstDue 62 = .ok (.aload_n 0, 1) := by decide +kernel
theorem dX3_doFirstDue_63 : decode cX3_doFirstDue 63 = .ok (.getfield 12, 3) := by decide +kernel
theorem dX3_doFirstDue_66 : decode cX3_doFirstDue 66 = .ok (.iload 5, 2) := by decide +kernel
theorem dX3_doFirstDue_68 : decode cX3_doFirstDue 68 = .ok (.iload 4, 2) := by decide +kernel
theorem dX3_doFirstDue_70 : decode cX3_doFirstDue 70 = .ok (.invokevirtual 200, 3) := by decide +kernel
theorem dX3_doFirstDue_73 : decode cX3_doFirstDue 73 = .ok (.ifCond .eq 35, 3) := by decide +kernel
theorem dX3_doFirstDue_76 : decode cX3_doFirstDue 76 = .ok (.aload_n 0, 1) := by decide +kernel
