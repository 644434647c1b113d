theorem dX0_init_0 : decode cX0_init 0 = .ok (.aload_n 0, 1) := by decide +kernel
theorem dX0_init_1 : decode cX0_init 1 = .ok (.invokespecial 3, 3) := by decide +kernel
theorem dX0_init_4 : decode cX0_init 4 = .ok (.aload_n 0, 1) := by decide +kernel
theorem dX0_init_5 : decode cX0_init 5 = .ok (.bipush 40, 2) := by decide +kernel
theorem dX0_init_7 : decode cX0_init 7 = .ok (.newarray .int, 2) := by decide +kernel
theorem dX0_init_9 : decode cX0_init 9 = .ok (.putfield 9, 3) := by decide +kernel
theorem dX0_init_12 : decode cX0_init 12 = .ok (.aload_n 0, 1) := by decide +kernel
theorem dX0_init_13 : decode cX0_init 13 = .ok (.bipush 40, 2) := by decide +kernel
theorem dX0_init_15 : decode cX0_init 15 = .ok (.newarray .int, 2) := by decide +kernel
theorem dX0_init_17 : decode cX0_init 17 = .ok (.putfield 15, 3) := by decide +kernel
theorem dX0_init_20 : decode cX0_init 20 = .ok (.aload_n 0, 1) := by decide +kernel
theorem dX0_init_21 : decode cX0_init 21 = .ok (.bipush 40, 2) := by decide +kernel
theorem dX0_init_23 : decode cX0_init 23 = .ok (.newarray .int, 2) := by decide +kernel
theorem dX0_init_25 : decode cX0_init 25 = .ok (.putfield 18, 3) := by decide +kernel
theorem dX0_init_28 : decode cX0_init 28 = .ok (.aload_n 0, 1) := by decide +kernel
theorem dX0_init_29 : decode cX0_init 29 = .ok (.bipush 40, 2) := by decide +kernel
theorem dX0_init_31 : decode cX0_init 31 = .ok (.newarray .long, 2) := by decide +kernel
theorem dX0_init_33 : decode cX0_init 33 = .ok (.putfield 21, 3) := by decide +kernel
theorem dX0_init_36 : decode cX0_init 36 = .ok (.aload_n 0, 1) := by decide +kernel
theorem dX0_init_37 : decode cX0_init 37 = .ok (.bipush 40, 2) := by decide +kernel
theorem dX0_init_39 : decode cX0_init 39 = .ok (.newarray .long, 2) := by decide +kernel
theorem dX0_init_41 : decode cX0_init 41 = .ok (.putfield 25, 3) := by decide +kernel
theorem dX0_init_44 : decode cX0_init 44 = .ok (.aload_n 0, 1) := by decide +kernel
theorem dX0_init_45 : decode cX0_init 45 = .ok (.bipush 40, 2) := by decide +kernel
theorem dX0_init_47 : decode cX0_init 47 = .ok (.newarray .long, 2) := by decide +kernel
theorem dX0_init_49 : decode cX0_init 49 = .ok (.putfield 28, 3) := by decide +kernel
theorem dX0_init_52 : decode cX0_init 52 = .ok (.aload_n 0, 1) := by decide +kernel
theorem dX0_init_53 : decode cX0_init 53 = .ok (.bipush 40, 2) := by decide +kernel
theorem dX0_init_55 : decode cX0_init 55 = .ok (.newarray .int, 2) := by decide +kernel
theorem dX0_init_57 : decode cX0_init 57 = .ok (.putfield 31, 3) := by decide +kernel
theorem dX0_init_60 : decode cX0_init 60 = .ok (.iconst 0, 1) := by decide +kernel
theorem dX0_init_61 : decode cX0_init 61 = .ok (.istore_n 1, 1) := by decide +kernel
theorem dX0_init_62 : decode cX0_init 62 = .ok (.iload_n 1, 1) := by decide +kernel
theorem dX0_init_63 : decode cX0_init 63 = .ok (.bipush 40, 2) := by decide +kernel
theorem dX0_init_65 : decode cX0_init 65 = .ok (.if_icmp .ge 16, 3) := by decide +kernel
theorem dX0_init_68 : decode cX0_init 68 = .ok (.aload_n 0, 1) := by decide +kernel
theorem dX0_init_69 : decode cX0_init 69 = .ok (.getfield 9, 3) := by decide +kernel
theorem dX0_init_72 : decode cX0_init 72 = .ok (.iload_n 1, 1) := by decide +kernel
theorem dX0_init_73 : decode cX0_init 73 = .ok (.iload_n 1, 1) := by decide +kernel
theorem dX0_init_74 : decode cX0_init 74 = .ok (.iastore, 1) := by decide +kernel
theorem dX0_init_75 : decode cX0_init 75 = .ok (.iinc 1 1, 3) := by decide +kernel
theorem dX0_init_78 : decode cX0_init 78 = .ok (.goto (-16), 3) := by decide +kernel
theorem dX0_init_81 : decode cX0_init 81 = .ok (.aload_n 0, 1) := by decide +kernel
theorem dX0_init_82 : decode cX0_init 82 = .ok (.iconst 0, 1) := by decide +kernel
theorem dX0_init_83 : decode cX0_init 83 = .ok (.putfield 34, 3) := by decide +kernel
theorem dX0_init_86 : decode cX0_init 86 = .ok (.return_, 1) := by decide +kernel
theorem dX0_isFull_0 : decode cX0_isFull 0 = .ok (.aload_n 0, 1) := by decide +kernel
theorem dX0_isFull_1 : decode cX0_isFull 1 = .ok (.getfield 34, 3) := by decide +kernel
theorem dX0_isFull_4 : decode cX0_isFull 4 = .ok (.bipush 40, 2) := by decide +kernel
theorem dX0_isFull_6 : decode cX0_isFull 6 = .ok (.if_icmp .lt 7, 3) := by decide +kernel
theorem dX0_isFull_9 : decode cX0_isFull 9 = .ok (.iconst 1, 1) := by decide +kernel
theorem dX0_isFull_10 : decode cX0_isFull 10 = .ok (.goto 4, 3) := by decide +kernel
theorem dX0_isFull_13 : decode cX0_isFull 13 = .ok (.iconst 0, 1) := by decide +kernel
theorem dX0_isFull_14 : decode cX0_isFull 14 = .ok (.ireturn, 1) := by decide +kernel
theorem dX0_timeAt_0 : decode cX0_timeAt 0 = .ok (.aload_n 0, 1) := by decide +kernel
theorem dX0_timeAt_1 : decode cX0_timeAt 1 = .ok (.getfield 25, 3) := by decide +kernel
theorem dX0_timeAt_4 : decode cX0_timeAt 4 = .ok (.aload_n 0, 1) := by decide +kernel
theorem dX0_timeAt_5 : decode cX0_timeAt 5 = .ok (.getfield 9, 3) := by decide +kernel
theorem dX0_timeAt_8 : decode cX0_timeAt 8 = .ok (.iload_n 1, 1) := by decide +kernel
theorem dX0_timeAt_9 : decode cX0_timeAt 9 = .ok (.iaload, 1) := by decide +kernel
theorem dX0_timeAt_10 : decode cX0_timeAt 10 = .ok (.laload, 1) := by decide +kernel
theorem dX0_timeAt_11 : decode cX0_timeAt 11 = .ok (.lreturn, 1) := by decide +kernel
set_option maxRecDepth 20000 in
theorem ggX0_enter_X0_sortInFirstFree : GoodIn wsX0_enter wsX0_sortInFirstFree := goodIn_r _ [13, 1, 2, 14, 15, 16, 17, 18, 19, 20, 12, 21, 22, 23, 24, 25, 6, 5, 3, 26, 27, 28, 29, 30, 31, 32, 33] (by decide +kernel) (by decide +kernel)
set_option maxRecDepth 20000 in
theorem gX0_enter_X0_sortInFirstFree : GoodIn wsX0_enter (wsV RX0 38 RX0 yX0_sortInFirstFree wsX0_sortInFirstFree) := goodIn_app (goodIn_of _ (by decide +kernel)) ggX0_enter_X0_sortInFirstFree
theorem dX0_enter_0 : decode cX0_enter 0 = .ok (.aload_n 0, 1) := by decide +kernel
theorem dX0_enter_1 : decode cX0_enter 1 = .ok (.getfield 9, 3) := by decide +kernel
theorem dX0_enter_4 : decode cX0_enter 4 = .ok (.aload_n 0, 1) := by decide +kernel
theorem dX0_enter_5 : decode cX0_enter 5 = .ok (.getfield 34, 3) := by decide +kernel
theorem dX0_enter_8 : decode cX0_enter 8 = .ok (.iaload, 1) := by decide +kernel
theorem dX0_enter_9 : decode cX0_enter 9 = .ok (.istore 10, 2) := by decide +kernel
theorem dX0_enter_11 : decode cX0_enter 11 = .ok (.aload_n 0, 1) := by decide +kernel
theorem dX0_enter_12 : decode cX0_enter 12 = .ok (.getfield 15, 3) := by decide +kernel
theorem dX0_enter_15 : decode cX0_enter 15 = .ok (.iload 10, 2) := by decide +kernel
theorem dX0_enter_17 : decode cX0_enter 17 = .ok (.iload_n 1, 1) := by decide +kernel
theorem dX0_enter_18 : decode cX0_enter 18 = .ok (.iastore, 1) := by decide +kernel
theorem dX0_enter_19 : decode cX0_enter 19 = .ok (.aload_n 0, 1) := by decide +kernel
theorem dX0_enter_20 : decode cX0_enter 20 = .ok (.getfield 18, 3) := by decide +kernel
theorem dX0_enter_23 : decode cX0_enter 23 = .ok (.iload 10, 2) := by decide +kernel
theorem dX0_enter_25 : decode cX0_enter 25 = .ok (.iload_n 2, 1) := by decide +kernel
theorem dX0_enter_26 : decode cX0_enter 26 = .ok (.iastore, 1) := by decide +kernel
theorem dX0_enter_27 : decode cX0_enter 27 = .ok (.aload_n 0, 1) := by decide +kernel
theorem dX0_enter_28 : decode cX0_enter 28 = .ok (.getfield 21, 3) := by decide +kernel
theorem dX0_enter_31 : decode cX0_enter 31 = .ok (.iload 10, 2) := by decide +kernel
theorem dX0_enter_33 : decode cX0_enter 33 = .ok (.lload_n 3, 1) := by decide +kernel
theorem dX0_enter_34 : decode cX0_enter 34 = .ok (.lastore, 1) := by decide +kernel
theorem dX0_enter_35 : decode cX0_enter 35 = .ok (.aload_n 0, 1) := by decide +kernel
theorem dX0_enter_36 : decode cX0_enter 36 = .ok (.getfield 25, 3) := by decide +kernel
theorem dX0_enter_39 : decode cX0_enter 39 = .ok (.iload 10, 2) := by decide +kernel
theorem dX0_enter_41 : decode cX0_enter 41 = .ok (.lload 5, 2) := by decide +kernel
theorem dX0_enter_43 : decode cX0_enter 43 = .ok (.lastore, 1) := by decide +kernel
theorem dX0_enter_44 : decode cX0_enter 44 = .ok (.aload_n 0, 1) := by decide +kernel
theorem dX0_enter_45 : decode cX0_enter 45 = .ok (.getfield 28, 3) := by decide +kernel
theorem dX0_enter_48 : decode cX0_enter 48 = .ok (.iload 10, 2) := by decide +kernel
theorem dX0_enter_50 : decode cX0_enter 50 = .ok (.lload 7, 2) := by decide +kernel
theorem dX0_enter_52 : decode cX0_enter 52 = .ok (.lastore, 1) := by decide +kernel
theorem dX0_enter_53 : decode cX0_enter 53 = .ok (.aload_n 0, 1) := by decide +kernel
theorem dX0_enter_54 : decode cX0_enter 54 = .ok (.getfield 31, 3) := by decide +kernel
theorem dX0_enter_57 : decode cX0_enter 57 = .ok (.iload 10, 2) := by decide +kernel
theorem dX0_enter_59 : decode cX0_enter 59 = .ok (.iload 9, 2) := by decide +kernel
theorem dX0_enter_61 : decode cX0_enter 61 = .ok (.iastore, 1) := by decide +kernel
theorem dX0_enter_62 : decode cX0_enter 62 = .ok (.aload_n 0, 1) := by decide +kernel
theorem dX0_enter_63 : decode cX0_enter 63 = .ok (.invokevirtual 38, 3) := by decide +kernel
theorem dX0_enter_66 : decode cX0_enter 66 = .ok (.return_, 1) := by decide +kernel
theorem dX0_leave_0 : decode cX0_leave 0 = .ok (.aload_n 0, 1) := by decide +kernel
theorem dX0_leave_1 : decode cX0_leave 1 = .ok (.getfield 9, 3) := by decide +kernel
theorem dX0_leave_4 : decode cX0_leave 4 = .ok (.iload_n 1, 1) := by decide +kernel
theorem dX0_leave_5 : decode cX0_leave 5 = .ok (.iaload, 1) := by decide +kernel
theorem dX0_leave_6 : decode cX0_leave 6 = .ok (.istore_n 2, 1) := by decide +kernel
theorem dX0_leave_7 : decode cX0_leave 7 = .ok (.aload_n 0, 1) := by decide +kernel
theorem dX0_leave_8 : decode cX0_leave 8 = .ok (.getfield 9, 3) := by decide +kernel
theorem dX0_leave_11 : decode cX0_leave 11 = .ok (.iload_n 1, 1) := by decide +kernel
theorem dX0_leave_12 : decode cX0_leave 12 = .ok (.iconst 1, 1) := by decide +kernel
theorem dX0_leave_13 : decode cX0_leave 13 = .ok (.iadd, 1) := by decide +kernel
theorem dX0_leave_14 : decode cX0_leave 14 = .ok (.aload_n 0, 1) := by decide +kernel
theorem dX0_leave_15 : decode cX0_leave 15 = .ok (.getfield 9, 3) := by decide +kernel
theorem dX0_leave_18 : decode cX0_leave 18 = .ok (.iload_n 1, 1) := by decide +kernel
theorem dX0_leave_19 : decode cX0_leave 19 = .ok (.aload_n 0, 1) := by decide +kernel
theorem dX0_leave_20 : decode cX0_leave 20 = .ok (.getfield 34, 3) := by decide +kernel
theorem dX0_leave_23 : decode cX0_leave 23 = .ok (.iload_n 1, 1) := by decide +kernel
theorem dX0_leave_24 : decode cX0_leave 24 = .ok (.isub, 1) := by decide +kernel
theorem dX0_leave_25 : decode cX0_leave 25 = .ok (.iconst 1, 1) := by decide +kernel
theorem dX0_leave_26 : decode cX0_leave 26 = .ok (.isub, 1) := by decide +kernel
theorem dX0_leave_27 : decode cX0_leave 27 = .ok (.invokestatic 41, 3) := by decide +kernel
theorem dX0_leave_30 : decode cX0_leave 30 = .ok (.aload_n 0, 1) := by decide +kernel
theorem dX0_leave_31 : decode cX0_leave 31 = .ok (.dup, 1) := by decide +kernel
theorem dX0_leave_32 : decode cX0_leave 32 = .ok (.getfield 34, 3) := by decide +kernel
theorem dX0_leave_35 : decode cX0_leave 35 = .ok (.iconst 1, 1) := by decide +kernel
theorem dX0_leave_36 : decode cX0_leave 36 = .ok (.isub, 1) := by decide +kernel
theorem dX0_leave_37 : decode cX0_leave 37 = .ok (.putfield 34, 3) := by decide +kernel
theorem dX0_leave_40 : decode cX0_leave 40 = .ok (.aload_n 0, 1) := by decide +kernel
theorem dX0_leave_41 : decode cX0_leave 41 = .ok (.getfield 9, 3) := by decide +kernel
theorem dX0_leave_44 : decode cX0_leave 44 = .ok (.aload_n 0, 1) := by decide +kernel
theorem dX0_leave_45 : decode cX0_leave 45 = .ok (.getfield 34, 3) := by decide +kernel
theorem dX0_leave_48 : decode cX0_leave 48 = .ok (.iload_n 2, 1) := by decide +kernel
theorem dX0_leave_49 : decode cX0_leave 49 = .ok (.iastore, 1) := by decide +kernel
theorem dX0_leave_50 : decode cX0_leave 50 = .ok (.return_, 1) := by decide +kernel
set_option maxRecDepth 20000 in
theorem ggX0_retime_X0_leave : GoodIn wsX0_retime wsX0_leave := goodIn_r _ [8, 2, 3, 9, 10, 11, 12, 27, 28, 29, 30, 31, 32, 33, 34] (by decide +kernel) (by decide +kernel)
set_option maxRecDepth 20000 in
theorem gX0_retime_X0_leave : GoodIn wsX0_retime (wsV RX0 47 RX0 yX0_leave wsX0_leave) := goodIn_app (goodIn_of _ (by decide +kernel)) ggX0_retime_X0_leave
set_option maxRecDepth 20000 in
theorem ggX0_retime_X0_sortInFirstFree : GoodIn wsX0_retime wsX0_sortInFirstFree := goodIn_r _ [16, 2, 3, 9, 10, 11, 12, 17, 18, 19, 7, 20, 21, 22, 23, 24, 1, 25, 26, 27, 28, 29, 30, 31, 32, 33, 34] (by decide +kernel) (by decide +kernel)
set_option maxRecDepth 20000 in
theorem gX0_retime_X0_sortInFirstFree : GoodIn wsX0_retime (wsV RX0 38 RX0 yX0_sortInFirstFree wsX0_sortInFirstFree) := goodIn_app (goodIn_of _ (by decide +kernel)) ggX0_retime_X0_sortInFirstFree
theorem dX0_retime_0 : decode cX0_retime 0 = .ok (.aload_n 0, 1) := by decide +kernel
theorem dX0_retime_1 : decode cX0_retime 1 = .ok (.iload_n 1, 1) := by decide +kernel
theorem dX0_retime_2 : decode cX0_retime 2 = .ok (.invokevirtual 47, 3) := by decide +kernel
theorem dX0_retime_5 : decode cX0_retime 5 = .ok (.aload_n 0, 1) := by decide +kernel
theorem dX0_retime_6 : decode cX0_retime 6 = .ok (.getfield 25, 3) := by decide +kernel
theorem dX0_retime_9 : decode cX0_retime 9 = .ok (.aload_n 0, 1) := by decide +kernel
theorem dX0_retime_10 : decode cX0_retime 10 = .ok (.getfield 9, 3) := by decide +kernel
theorem dX0_retime_13 : decode cX0_retime 13 = .ok (.aload_n 0, 1) := by decide +kernel
theorem dX0_retime_14 : decode cX0_retime 14 = .ok (.getfield 34, 3) := by decide +kernel
theorem dX0_retime_17 : decode cX0_retime 17 = .ok (.iaload, 1) := by decide +kernel
theorem dX0_retime_18 : decode cX0_retime 18 = .ok (.lload_n 2, 1) := by decide +kernel
theorem dX0_retime_19 : decode cX0_retime 19 = .ok (.lastore, 1) := by decide +kernel
theorem dX0_retime_20 : decode cX0_retime 20 = .ok (.aload_n 0, 1) := by decide +kernel
theorem dX0_retime_21 : decode cX0_retime 21 = .ok (.invokevirtual 38, 3) := by decide +kernel
theorem dX0_retime_24 : decode cX0_retime 24 = .ok (.return_, 1) := by decide +kernel
set_option maxRecDepth 20000 in
theorem ggX0_setAgain_X0_leave : GoodIn wsX0_setAgain wsX0_leave := goodIn_r _ [11, 1, 2, 12, 13, 14, 15, 29, 30, 31, 32, 33, 34, 35, 36] (by decide +kernel) (by decide +kernel)
set_option maxRecDepth 20000 in
theorem gX0_setAgain_X0_leave : GoodIn wsX0_setAgain (wsV RX0 47 RX0 yX0_leave wsX0_leave) := goodIn_app (goodIn_of _ (by decide +kernel)) ggX0_setAgain_X0_leave
set_option maxRecDepth 20000 in
theorem ggX0_setAgain_X0_sortInFirstFree : GoodIn wsX0_setAgain wsX0_sortInFirstFree := goodIn_r _ [19, 1, 2, 12, 13, 14, 15, 20, 21, 22, 10, 23, 24, 25, 26, 27, 4, 28, 3, 29, 30, 31, 32, 33, 34, 35, 36] (by decide +kernel) (by decide +kernel)
set_option maxRecDepth 20000 in
theorem gX0_setAgain_X0_sortInFirstFree : GoodIn wsX0_setAgain (wsV RX0 38 RX0 yX0_sortInFirstFree wsX0_sortInFirstFree) := goodIn_app (goodIn_of _ (by decide +kernel)) ggX0_setAgain_X0_sortInFirstFree
theorem dX0_setAgain_0 : decode cX0_setAgain 0 = .ok (.aload_n 0, 1) := by decide +kernel
theorem dX0_setAgain_1 : decode cX0_setAgain 1 = .ok (.iload_n 1, 1) := by decide +kernel
theorem dX0_setAgain_2 : decode cX0_setAgain 2 = .ok (.invokevirtual 47, 3) := by decide +kernel
theorem dX0_setAgain_5 : decode cX0_setAgain 5 = .ok (.aload_n 0, 1) := by decide +kernel
theorem dX0_setAgain_6 : decode cX0_setAgain 6 = .ok (.getfield 9, 3) := by decide +kernel
theorem dX0_setAgain_9 : decode cX0_setAgain 9 = .ok (.aload_n 0, 1) := by decide +kernel
theorem dX0_setAgain_10 : decode cX0_setAgain 10 = .ok (.getfield 34, 3) := by decide +kernel
theorem dX0_setAgain_13 : decode cX0_setAgain 13 = .ok (.iaload, 1) := by decide +kernel
theorem dX0_setAgain_14 : decode cX0_setAgain 14 = .ok (.istore_n 3, 1) := by decide +kernel
theorem dX0_setAgain_15 : decode cX0_setAgain 15 = .ok (.aload_n 0, 1) := by decide +kernel
theorem dX0_setAgain_16 : decode cX0_setAgain 16 = .ok (.getfield 15, 3) := by decide +kernel
theorem dX0_setAgain_19 : decode cX0_setAgain 19 = .ok (.iload_n 3, 1) := by decide +kernel
theorem dX0_setAgain_20 : decode cX0_setAgain 20 = .ok (.iload_n 2, 1) := by decide +kernel
theorem dX0_setAgain_21 : decode cX0_setAgain 21 = .ok (.iastore, 1) := by decide +kernel
theorem dX0_setAgain_22 : decode cX0_setAgain 22 = .ok (.aload_n 0, 1) := by decide +kernel
theorem dX0_setAgain_23 : decode cX0_setAgain 23 = .ok (.getfield 25, 3) := by decide +kernel
theorem dX0_setAgain_26 : decode cX0_setAgain 26 = .ok (.iload_n 3, 1) := by decide +kernel
theorem dX0_setAgain_27 : decode cX0_setAgain 27 = .ok (.dup2, 1) := by decide +kernel
theorem dX0_setAgain_28 : decode cX0_setAgain 28 = .ok (.laload, 1) := by decide +kernel
theorem dX0_setAgain_29 : decode cX0_setAgain 29 = .ok (.aload_n 0, 1) := by decide +kernel
theorem dX0_setAgain_30 : decode cX0_setAgain 30 = .ok (.getfield 28, 3) := by decide +kernel
theorem dX0_setAgain_33 : decode cX0_setAgain 33 = .ok (.iload_n 3, 1) := by decide +kernel
theorem dX0_setAgain_34 : decode cX0_setAgain 34 = .ok (.laload, 1) := by decide +kernel
theorem dX0_setAgain_35 : decode cX0_setAgain 35 = .ok (.ladd, 1) := by decide +kernel
theorem dX0_setAgain_36 : decode cX0_setAgain 36 = .ok (.lastore, 1) := by decide +kernel
theorem dX0_setAgain_37 : decode cX0_setAgain 37 = .ok (.aload_n 0, 1) := by decide +kernel
theorem dX0_setAgain_38 : decode cX0_setAgain 38 = .ok (.getfield 31, 3) := by decide +kernel
theorem dX0_setAgain_41 : decode cX0_setAgain 41 = .ok (.iload_n 3, 1) := by decide +kernel
theorem dX0_setAgain_42 : decode cX0_setAgain 42 = .ok (.dup2, 1) := by decide +kernel
theorem dX0_setAgain_43 : decode cX0_setAgain 43 = .ok (.iaload, 1) := by decide +kernel
theorem dX0_setAgain_44 : decode cX0_setAgain 44 = .ok (.iconst 1, 1) := by decide +kernel
theorem dX0_setAgain_45 : decode cX0_setAgain 45 = .ok (.isub, 1) := by decide +kernel
theorem dX0_setAgain_46 : decode cX0_setAgain 46 = .ok (.iastore, 1) := by decide +kernel
theorem dX0_setAgain_47 : decode cX0_setAgain 47 = .ok (.aload_n 0, 1) := by decide +kernel
theorem dX0_setAgain_48 : decode cX0_setAgain 48 = .ok (.invokevirtual 38, 3) := by decide +kernel
theorem dX0_setAgain_51 : decode cX0_setAgain 51 = .ok (.return_, 1) := by decide +kernel
set_option maxRecDepth 20000 in
theorem ggX0_sortInFirstFree_X0_countAheadOf : GoodIn wsX0_sortInFirstFree wsX0_countAheadOf := goodIn_r _ [11, 2, 1, 12, 13, 14, 10, 15, 16, 17, 18, 19, 20, 21, 22, 23, 24, 25, 26] (by decide +kernel) (by decide +kernel)
set_option maxRecDepth 20000 in
theorem gX0_sortInFirstFree_X0_countAheadOf : GoodIn wsX0_sortInFirstFree (wsV RX0 51 RX0 yX0_countAheadOf wsX0_countAheadOf) := goodIn_app (goodIn_of _ (by decide +kernel)) ggX0_sortInFirstFree_X0_countAheadOf
theorem dX0_sortInFirstFree_0 : decode cX0_sortInFirstFree 0 = .ok (.aload_n 0, 1) := by decide +kernel
theorem dX0_sortInFirstFree_1 : decode cX0_sortInFirstFree 1 = .ok (.getfield 9, 3) := by decide +kernel
theorem dX0_sortInFirstFree_4 : decode cX0_sortInFirstFree 4 = .ok (.aload_n 0, 1) := by decide +kernel
theorem dX0_sortInFirstFree_5 : decode cX0_sortInFirstFree 5 = .ok (.getfield 34, 3) := by decide +kernel
theorem dX0_sortInFirstFree_8 : decode cX0_sortInFirstFree 8 = .ok (.iaload, 1) := by decide +kernel
theorem dX0_sortInFirstFree_9 : decode cX0_sortInFirstFree 9 = .ok (.istore_n 1, 1) := by decide +kernel
theorem dX0_sortInFirstFree_10 : decode cX0_sortInFirstFree 10 = .ok (.aload_n 0, 1) := by decide +kernel
theorem dX0_sortInFirstFree_11 : decode cX0_sortInFirstFree 11 = .ok (.iload_n 1, 1) := by decide +kernel
theorem dX0_sortInFirstFree_12 : decode cX0_sortInFirstFree 12 = .ok (.invokevirtual 51, 3) := by decide +kernel
theorem dX0_sortInFirstFree_15 : decode cX0_sortInFirstFree 15 = .ok (.istore_n 2, 1) := by decide +kernel
theorem dX0_sortInFirstFree_16 : decode cX0_sortInFirstFree 16 = .ok (.aload_n 0, 1) := by decide +kernel
theorem dX0_sortInFirstFree_17 : decode cX0_sortInFirstFree 17 = .ok (.getfield 9, 3) := by decide +kernel
theorem dX0_sortInFirstFree_20 : decode cX0_sortInFirstFree 20 = .ok (.iload_n 2, 1) := by decide +kernel
theorem dX0_sortInFirstFree_21 : decode cX0_sortInFirstFree 21 = .ok (.aload_n 0, 1) := by decide +kernel
theorem dX0_sortInFirstFree_22 : decode cX0_sortInFirstFree 22 = .ok (.getfield 9, 3) := by decide +kernel
theorem dX0_sortInFirstFree_25 : decode cX0_sortInFirstFree 25 = .ok (.iload_n 2, 1) := by decide +kernel
theorem dX0_sortInFirstFree_26 : decode cX0_sortInFirstFree 26 = .ok (.iconst 1, 1) := by decide +kernel
theorem dX0_sortInFirstFree_27 : decode cX0_sortInFirstFree 27 = .ok (.iadd, 1) := by decide +kernel
theorem dX0_sortInFirstFree_28 : decode cX0_sortInFirstFree 28 = .ok (.aload_n 0, 1) := by decide +kernel
theorem dX0_sortInFirstFree_29 : decode cX0_sortInFirstFree 29 = .ok (.getfield 34, 3) := by decide +kernel
theorem dX0_sortInFirstFree_32 : decode cX0_sortInFirstFree 32 = .ok (.iload_n 2, 1) := by decide +kernel
theorem dX0_sortInFirstFree_33 : decode cX0_sortInFirstFree 33 = .ok (.isub, 1) := by decide +kernel
theorem dX0_sortInFirstFree_34 : decode cX0_sortInFirstFree 34 = .ok (.invokestatic 41, 3) := by decide +kernel
theorem dX0_sortInFirstFree_37 : decode cX0_sortInFirstFree 37 = .ok (.aload_n 0, 1) := by decide +kernel
theorem dX0_sortInFirstFree_38 : decode cX0_sortInFirstFree 38 = .ok (.getfield 9, 3) := by decide +kernel
theorem dX0_sortInFirstFree_41 : decode cX0_sortInFirstFree 41 = .ok (.iload_n 2, 1) := by decide +kernel
theorem dX0_sortInFirstFree_42 : decode cX0_sortInFirstFree 42 = .ok (.iload_n 1, 1) := by decide +kernel
theorem dX0_sortInFirstFree_43 : decode cX0_sortInFirstFree 43 = .ok (.iastore, 1) := by decide +kernel
theorem dX0_sortInFirstFree_44 : decode cX0_sortInFirstFree 44 = .ok (.aload_n 0, 1) := by decide +kernel
theorem dX0_sortInFirstFree_45 : decode cX0_sortInFirstFree 45 = .ok (.dup, 1) := by decide +kernel
theorem dX0_sortInFirstFree_46 : decode cX0_sortInFirstFree 46 = .ok (.getfield 34, 3) := by decide +kernel
theorem dX0_sortInFirstFree_49 : decode cX0_sortInFirstFree 49 = .ok (.iconst 1, 1) := by decide +kernel
theorem dX0_sortInFirstFree_50 : decode cX0_sortInFirstFree 50 = .ok (.iadd, 1) := by decide +kernel
theorem dX0_sortInFirstFree_51 : decode cX0_sortInFirstFree 51 = .ok (.putfield 34, 3) := by decide +kernel
theorem dX0_sortInFirstFree_54 : decode cX0_sortInFirstFree 54 = .ok (.return_, 1) := by decide +kernel
set_option maxRecDepth 20000 in
theorem ggX0_countAheadOf_X0_goesAhead : GoodIn wsX0_countAheadOf wsX0_goesAhead := goodIn_r _ [7, 8, 9, 10, 11, 12, 13, 14, 15, 16, 17, 18] (by decide +kernel) (by decide +kernel)
set_option maxRecDepth 20000 in
theorem gX0_countAheadOf_X0_goesAhead : GoodIn wsX0_countAheadOf (wsV RX0 55 RX0 yX0_goesAhead wsX0_goesAhead) := goodIn_app (goodIn_of _ (by decide +kernel)) ggX0_countAheadOf_X0_goesAhead
theorem dX0_countAheadOf_0 : decode cX0_countAheadOf 0 = .ok (.iconst 0, 1) := by decide +kernel
theorem dX0_countAheadOf_1 : decode cX0_countAheadOf 1 = .ok (.istore_n 2, 1) := by decide +kernel
theorem dX0_countAheadOf_2 : decode cX0_countAheadOf 2 = .ok (.bipush 32, 2) := by decide +kernel
theorem dX0_countAheadOf_4 : decode cX0_countAheadOf 4 = .ok (.istore_n 3, 1) := by decide +kernel
theorem dX0_countAheadOf_5 : decode cX0_countAheadOf 5 = .ok (.iload_n 3, 1) := by decide +kernel
theorem dX0_countAheadOf_6 : decode cX0_countAheadOf 6 = .ok (.ifCond .le 44, 3) := by decide +kernel
theorem dX0_countAheadOf_9 : decode cX0_countAheadOf 9 = .ok (.iload_n 2, 1) := by decide +kernel
theorem dX0_countAheadOf_10 : decode cX0_countAheadOf 10 = .ok (.iload_n 3, 1) := by decide +kernel
theorem dX0_countAheadOf_11 : decode cX0_countAheadOf 11 = .ok (.iadd, 1) := by decide +kernel
theorem dX0_countAheadOf_12 : decode cX0_countAheadOf 12 = .ok (.istore 4, 2) := by decide +kernel
theorem dX0_countAheadOf_14 : decode cX0_countAheadOf 14 = .ok (.iload 4, 2) := by decide +kernel
theorem dX0_countAheadOf_16 : decode cX0_countAheadOf 16 = .ok (.aload_n 0, 1) := by decide +kernel
theorem dX0_countAheadOf_17 : decode cX0_countAheadOf 17 = .ok (.getfield 34, 3) := by decide +kernel
theorem dX0_countAheadOf_20 : decode cX0_countAheadOf 20 = .ok (.if_icmp .gt 23, 3) := by decide +kernel
theorem dX0_countAheadOf_23 : decode cX0_countAheadOf 23 = .ok (.aload_n 0, 1) := by decide +kernel
theorem dX0_countAheadOf_24 : decode cX0_countAheadOf 24 = .ok (.aload_n 0, 1) := by decide +kernel
theorem dX0_countAheadOf_25 : decode cX0_countAheadOf 25 = .ok (.getfield 9, 3) := by decide +kernel
theorem dX0_countAheadOf_28 : decode cX0_countAheadOf 28 = .ok (.iload 4, 2) := by decide +kernel
theorem dX0_countAheadOf_30 : decode cX0_countAheadOf 30 = .ok (.iconst 1, 1) := by decide +kernel
theorem dX0_countAheadOf_31 : decode cX0_countAheadOf 31 = .ok (.isub, 1) := by decide +kernel
theorem dX0_countAheadOf_32 : decode cX0_countAheadOf 32 = .ok (.iaload, 1) := by decide +kernel
theorem dX0_countAheadOf_33 : decode cX0_countAheadOf 33 = .ok (.iload_n 1, 1) := by decide +kernel
theorem dX0_countAheadOf_34 : decode cX0_countAheadOf 34 = .ok (.invokevirtual 55, 3) := by decide +kernel
theorem dX0_countAheadOf_37 : decode cX0_countAheadOf 37 = .ok (.ifCond .eq 6, 3) := by decide +kernel
theorem dX0_countAheadOf_40 : decode cX0_countAheadOf 40 = .ok (.iload 4, 2) := by decide +kernel
theorem dX0_countAheadOf_42 : decode cX0_countAheadOf 42 = .ok (.istore_n 2, 1) := by decide +kernel
theorem dX0_countAheadOf_43 : decode cX0_countAheadOf 43 = .ok (.iload_n 3, 1) := by decide +kernel
theorem dX0_countAheadOf_44 : decode cX0_countAheadOf 44 = .ok (.iconst 2, 1) := by decide +kernel
theorem dX0_countAheadOf_45 : decode cX0_countAheadOf 45 = .ok (.idiv, 1) := by decide +kernel
theorem dX0_countAheadOf_46 : decode cX0_countAheadOf 46 = .ok (.istore_n 3, 1) := by decide +kernel
theorem dX0_countAheadOf_47 : decode cX0_countAheadOf 47 = .ok (.goto (-42), 3) := by decide +kernel
theorem dX0_countAheadOf_50 : decode cX0_countAheadOf 50 = .ok (.iload_n 2, 1) := by decide +kernel
theorem dX0_countAheadOf_51 : decode cX0_countAheadOf 51 = .ok (.ireturn, 1) := by decide +kernel
theorem dX0_goesAhead_0 : decode cX0_goesAhead 0 = .ok (.aload_n 0, 1) := by decide +kernel
theorem dX0_goesAhead_1 : decode cX0_goesAhead 1 = .ok (.getfield 25, 3) := by decide +kernel
theorem dX0_goesAhead_4 : decode cX0_goesAhead 4 = .ok (.iload_n 1, 1) := by decide +kernel
theorem dX0_goesAhead_5 : decode cX0_goesAhead 5 = .ok (.laload, 1) := by decide +kernel
theorem dX0_goesAhead_6 : decode cX0_goesAhead 6 = .ok (.aload_n 0, 1) := by decide +kernel
theorem dX0_goesAhead_7 : decode cX0_goesAhead 7 = .ok (.getfield 25, 3) := by decide +kernel
theorem dX0_goesAhead_10 : decode cX0_goesAhead 10 = .ok (.iload_n 2, 1) := by decide +kernel
theorem dX0_goesAhead_11 : decode cX0_goesAhead 11 = .ok (.laload, 1) := by decide +kernel
theorem dX0_goesAhead_12 : decode cX0_goesAhead 12 = .ok (.lcmp, 1) := by decide +kernel
theorem dX0_goesAhead_13 : decode cX0_goesAhead 13 = .ok (.ifCond .eq 25, 3) := by decide +kernel
theorem dX0_goesAhead_16 : decode cX0_goesAhead 16 = .ok (.aload_n 0, 1) := by decide +kernel
theorem dX0_goesAhead_17 : decode cX0_goesAhead 17 = .ok (.getfield 25, 3) := by decide +kernel
theorem dX0_goesAhead_20 : decode cX0_goesAhead 20 = .ok (.iload_n 1, 1) := by decide +kernel
theorem dX0_goesAhead_21 : decode cX0_goesAhead 21 = .ok (.laload, 1) := by decide +kernel
theorem dX0_goesAhead_22 : decode cX0_goesAhead 22 = .ok (.aload_n 0, 1) := by decide +kernel
theorem dX0_goesAhead_23 : decode cX0_goesAhead 23 = .ok (.getfield 25, 3) := by decide +kernel
theorem dX0_goesAhead_26 : decode cX0_goesAhead 26 = .ok (.iload_n 2, 1) := by decide +kernel
theorem dX0_goesAhead_27 : decode cX0_goesAhead 27 = .ok (.laload, 1) := by decide +kernel
theorem dX0_goesAhead_28 : decode cX0_goesAhead 28 = .ok (.lcmp, 1) := by decide +kernel
theorem dX0_goesAhead_29 : decode cX0_goesAhead 29 = .ok (.ifCond .ge 7, 3) := by decide +kernel
theorem dX0_goesAhead_32 : decode cX0_goesAhead 32 = .ok (.iconst 1, 1) := by decide +kernel
theorem dX0_goesAhead_33 : decode cX0_goesAhead 33 = .ok (.goto 4, 3) := by decide +kernel
theorem dX0_goesAhead_36 : decode cX0_goesAhead 36 = .ok (.iconst 0, 1) := by decide +kernel
theorem dX0_goesAhead_37 : decode cX0_goesAhead 37 = .ok (.ireturn, 1) := by decide +kernel
theorem dX0_goesAhead_38 : decode cX0_goesAhead 38 = .ok (.aload_n 0, 1) := by decide +kernel
theorem dX0_goesAhead_39 : decode cX0_goesAhead 39 = .ok (.getfield 21, 3) := by decide +kernel
theorem dX0_goesAhead_42 : decode cX0_goesAhead 42 = .ok (.iload_n 1, 1) := by decide +kernel
theorem dX0_goesAhead_43 : decode cX0_goesAhead 43 = .ok (.laload, 1) := by decide +kernel
theorem dX0_goesAhead_44 : decode cX0_goesAhead 44 = .ok (.aload_n 0, 1) := by decide +kernel
theorem dX0_goesAhead_45 : decode cX0_goesAhead 45 = .ok (.getfield 21, 3) := by decide +kernel
theorem dX0_goesAhead_48 : decode cX0_goesAhead 48 = .ok (.iload_n 2, 1) := by decide +kernel
theorem dX0_goesAhead_49 : decode cX0_goesAhead 49 = .ok (.laload, 1) := by decide +kernel
theorem dX0_goesAhead_50 : decode cX0_goesAhead 50 = .ok (.lcmp, 1) := by decide +kernel
theorem dX0_goesAhead_51 : decode cX0_goesAhead 51 = .ok (.ifCond .eq 25, 3) := by decide +kernel
theorem dX0_goesAhead_54 : decode cX0_goesAhead 54 = .ok (.aload_n 0, 1) := by decide +kernel
theorem dX0_goesAhead_55 : decode cX0_goesAhead 55 = .ok (.getfield 21, 3) := by decide +kernel
theorem dX0_goesAhead_58 : decode cX0_goesAhead 58 = .ok (.iload_n 1, 1) := by decide +kernel
theorem dX0_goesAhead_59 : decode cX0_goesAhead 59 = .ok (.laload, 1) := by decide +kernel
theorem dX0_goesAhead_60 : decode cX0_goesAhead 60 = .ok (.aload_n 0, 1) := by decide +kernel
theorem dX0_goesAhead_61 : decode cX0_goesAhead 61 = .ok (.getfield 21, 3) := by decide +kernel
theorem dX0_goesAhead_64 : decode cX0_goesAhead 64 = .ok (.iload_n 2, 1) := by decide +kernel
theorem dX0_goesAhead_65 : decode cX0_goesAhead 65 = .ok (.laload, 1) := by decide +kernel
theorem dX0_goesAhead_66 : decode cX0_goesAhead 66 = .ok (.lcmp, 1) := by decide +kernel
theorem dX0_goesAhead_67 : decode cX0_goesAhead 67 = .ok (.ifCond .ge 7, 3) := by decide +kernel
theorem dX0_goesAhead_70 : decode cX0_goesAhead 70 = .ok (.iconst 1, 1) := by decide +kernel
theorem dX0_goesAhead_71 : decode cX0_goesAhead 71 = .ok (.goto 4, 3) := by decide +kernel
theorem dX0_goesAhead_74 : decode cX0_goesAhead 74 = .ok (.iconst 0, 1) := by decide +kernel
theorem dX0_goesAhead_75 : decode cX0_goesAhead 75 = .ok (.ireturn, 1) := by decide +kernel
theorem dX0_goesAhead_76 : decode cX0_goesAhead 76 = .ok (.aload_n 0, 1) := by decide +kernel
theorem dX0_goesAhead_77 : decode cX0_goesAhead 77 = .ok (.getfield 15, 3) := by decide +kernel
theorem dX0_goesAhead_80 : decode cX0_goesAhead 80 = .ok (.iload_n 1, 1) := by decide +kernel
theorem dX0_goesAhead_81 : decode cX0_goesAhead 81 = .ok (.iaload, 1) := by decide +kernel
theorem dX0_goesAhead_82 : decode cX0_goesAhead 82 = .ok (.aload_n 0, 1) := by decide +kernel
theorem dX0_goesAhead_83 : decode cX0_goesAhead 83 = .ok (.getfield 15, 3) := by decide +kernel
theorem dX0_goesAhead_86 : decode cX0_goesAhead 86 = .ok (.iload_n 2, 1) := by decide +kernel
theorem dX0_goesAhead_87 : decode cX0_goesAhead 87 = .ok (.iaload, 1) := by decide +kernel
theorem dX0_goesAhead_88 : decode cX0_goesAhead 88 = .ok (.if_icmp .ge 7, 3) := by decide +kernel
theorem dX0_goesAhead_91 : decode cX0_goesAhead 91 = .ok (.iconst 1, 1) := by decide +kernel
theorem dX0_goesAhead_92 : decode cX0_goesAhead 92 = .ok (.goto 4, 3) := by decide +kernel
theorem dX0_goesAhead_95 : decode cX0_goesAhead 95 = .ok (.iconst 0, 1) := by decide +kernel
theorem dX0_goesAhead_96 : decode cX0_goesAhead 96 = .ok (.ireturn, 1) := by decide +kernel
theorem dX0_placeOf_0 : decode cX0_placeOf 0 = .ok (.iconst 0, 1) := by decide +kernel
theorem dX0_placeOf_1 : decode cX0_placeOf 1 = .ok (.istore_n 2, 1) := by decide +kernel
theorem dX0_placeOf_2 : decode cX0_placeOf 2 = .ok (.iload_n 2, 1) := by decide +kernel
theorem dX0_placeOf_3 : decode cX0_placeOf 3 = .ok (.aload_n 0, 1) := by decide +kernel
theorem dX0_placeOf_4 : decode cX0_placeOf 4 = .ok (.getfield 34, 3) := by decide +kernel
theorem dX0_placeOf_7 : decode cX0_placeOf 7 = .ok (.if_icmp .ge 26, 3) := by decide +kernel
theorem dX0_placeOf_10 : decode cX0_placeOf 10 = .ok (.aload_n 0, 1) := by decide +kernel
theorem dX0_placeOf_11 : decode cX0_placeOf 11 = .ok (.getfield 15, 3) := by decide +kernel
theorem dX0_placeOf_14 : decode cX0_placeOf 14 = .ok (.aload_n 0, 1) := by decide +kernel
theorem dX0_placeOf_15 : decode cX0_placeOf 15 = .ok (.getfield 9, 3) := by decide +kernel
theorem dX0_placeOf_18 : decode cX0_placeOf 18 = .ok (.iload_n 2, 1) := by decide +kernel
theorem dX0_placeOf_19 : decode cX0_placeOf 19 = .ok (.iaload, 1) := by decide +kernel
theorem dX0_placeOf_20 : decode cX0_placeOf 20 = .ok (.iaload, 1) := by decide +kernel
theorem dX0_placeOf_21 : decode cX0_placeOf 21 = .ok (.iload_n 1, 1) := by decide +kernel
theorem dX0_placeOf_22 : decode cX0_placeOf 22 = .ok (.if_icmp .ne 5, 3) := by decide +kernel
theorem dX0_placeOf_25 : decode cX0_placeOf 25 = .ok (.iload_n 2, 1) := by decide +kernel
theorem dX0_placeOf_26 : decode cX0_placeOf 26 = .ok (.ireturn, 1) := by decide +kernel
theorem dX0_placeOf_27 : decode cX0_placeOf 27 = .ok (.iinc 2 1, 3) := by decide +kernel
theorem dX0_placeOf_30 : decode cX0_placeOf 30 = .ok (.goto (-28), 3) := by decide +kernel
theorem dX0_placeOf_33 : decode cX0_placeOf 33 = .ok (.iconst (-1), 1) := by decide +kernel
theorem dX0_placeOf_34 : decode cX0_placeOf 34 = .ok (.ireturn, 1) := by decide +kernel
theorem dX0_headOf_0 : decode cX0_headOf 0 = .ok (.iconst 0, 1) := by decide +kernel
theorem dX0_headOf_1 : decode cX0_headOf 1 = .ok (.istore_n 2, 1) := by decide +kernel
theorem dX0_headOf_2 : decode cX0_headOf 2 = .ok (.iload_n 2, 1) := by decide +kernel
theorem dX0_headOf_3 : decode cX0_headOf 3 = .ok (.aload_n 0, 1) := by decide +kernel
theorem dX0_headOf_4 : decode cX0_headOf 4 = .ok (.getfield 34, 3) := by decide +kernel
theorem dX0_headOf_7 : decode cX0_headOf 7 = .ok (.if_icmp .ge 26, 3) := by decide +kernel
theorem dX0_headOf_10 : decode cX0_headOf 10 = .ok (.aload_n 0, 1) := by decide +kernel
theorem dX0_headOf_11 : decode cX0_headOf 11 = .ok (.getfield 18, 3) := by decide +kernel
theorem dX0_headOf_14 : decode cX0_headOf 14 = .ok (.aload_n 0, 1) := by decide +kernel
theorem dX0_headOf_15 : decode cX0_headOf 15 = .ok (.getfield 9, 3) := by decide +kernel
theorem dX0_headOf_18 : decode cX0_headOf 18 = .ok (.iload_n 2, 1) := by decide +kernel
theorem dX0_headOf_19 : decode cX0_headOf 19 = .ok (.iaload, 1) := by decide +kernel
theorem dX0_headOf_20 : decode cX0_headOf 20 = .ok (.iaload, 1) := by decide +kernel
theorem dX0_headOf_21 : decode cX0_headOf 21 = .ok (.iload_n 1, 1) := by decide +kernel
theorem dX0_headOf_22 : decode cX0_headOf 22 = .ok (.if_icmp .ne 5, 3) := by decide +kernel
theorem dX0_headOf_25 : decode cX0_headOf 25 = .ok (.iload_n 2, 1) := by decide +kernel
theorem dX0_headOf_26 : decode cX0_headOf 26 = .ok (.ireturn, 1) := by decide +kernel
theorem dX0_headOf_27 : decode cX0_headOf 27 = .ok (.iinc 2 1, 3) := by decide +kernel
theorem dX0_headOf_30 : decode cX0_headOf 30 = .ok (.goto (-28), 3) := by decide +kernel
theorem dX0_headOf_33 : decode cX0_headOf 33 = .ok (.iconst (-1), 1) := by decide +kernel
theorem dX0_headOf_34 : decode cX0_headOf 34 = .ok (.ireturn, 1) := by decide +kernel
set_option maxRecDepth 20000 in
theorem ggX0_dueOf_X0_headOf : GoodIn wsX0_dueOf wsX0_headOf := goodIn_r _ [5, 6, 7, 8, 14, 15, 16, 17, 18, 19, 20, 21] (by decide +kernel) (by decide +kernel)
set_option maxRecDepth 20000 in
theorem gX0_dueOf_X0_headOf : GoodIn wsX0_dueOf (wsV RX0 59 RX0 yX0_headOf wsX0_headOf) := goodIn_app (goodIn_of _ (by decide +kernel)) ggX0_dueOf_X0_headOf
set_option maxRecDepth 20000 in
theorem ggX0_dueOf_X0_timeAt : GoodIn wsX0_dueOf wsX0_timeAt := goodIn_r _ [12, 13, 8, 14, 15, 16, 17, 18, 19, 20, 21] (by decide +kernel) (by decide +kernel)
set_option maxRecDepth 20000 in
theorem gX0_dueOf_X0_timeAt : GoodIn wsX0_dueOf (wsV RX0 62 RX0 yX0_timeAt wsX0_timeAt) := goodIn_app (goodIn_of _ (by decide +kernel)) ggX0_dueOf_X0_timeAt
theorem dX0_dueOf_0 : decode cX0_dueOf 0 = .ok (.aload_n 0, 1) := by decide +kernel
theorem dX0_dueOf_1 : decode cX0_dueOf 1 = .ok (.iload_n 1, 1) := by decide +kernel
theorem dX0_dueOf_2 : decode cX0_dueOf 2 = .ok (.invokevirtual 59, 3) := by decide +kernel
theorem dX0_dueOf_5 : decode cX0_dueOf 5 = .ok (.istore 4, 2) := by decide +kernel
theorem dX0_dueOf_7 : decode cX0_dueOf 7 = .ok (.iload 4, 2) := by decide +kernel
theorem dX0_dueOf_9 : decode cX0_dueOf 9 = .ok (.iconst (-1), 1) := by decide +kernel
theorem dX0_dueOf_10 : decode cX0_dueOf 10 = .ok (.if_icmp .eq 19, 3) := by decide +kernel
theorem dX0_dueOf_13 : decode cX0_dueOf 13 = .ok (.aload_n 0, 1) := by decide +kernel
theorem dX0_dueOf_14 : decode cX0_dueOf 14 = .ok (.iload 4, 2) := by decide +kernel
theorem dX0_dueOf_16 : decode cX0_dueOf 16 = .ok (.invokevirtual 62, 3) := by decide +kernel
theorem dX0_dueOf_19 : decode cX0_dueOf 19 = .ok (.lload_n 2, 1) := by decide +kernel
theorem dX0_dueOf_20 : decode cX0_dueOf 20 = .ok (.lcmp, 1) := by decide +kernel
theorem dX0_dueOf_21 : decode cX0_dueOf 21 = .ok (.ifCond .gt 8, 3) := by decide +kernel
theorem dX0_dueOf_24 : decode cX0_dueOf 24 = .ok (.iload 4, 2) := by decide +kernel
theorem dX0_dueOf_26 : decode cX0_dueOf 26 = .ok (.goto 4, 3) := by decide +kernel
theorem dX0_dueOf_29 : decode cX0_dueOf 29 = .ok (.iconst (-1), 1) := by decide +kernel
theorem dX0_dueOf_30 : decode cX0_dueOf 30 = .ok (.ireturn, 1) := by decide +kernel
theorem dX0_countBetween_0 : decode cX0_countBetween 0 = .ok (.iconst 0, 1) := by decide +kernel
theorem dX0_countBetween_1 : decode cX0_countBetween 1 = .ok (.istore 8, 2) := by decide +kernel
theorem dX0_countBetween_3 : decode cX0_countBetween 3 = .ok (.iconst 0, 1) := by decide +kernel
theorem dX0_countBetween_4 : decode cX0_countBetween 4 = .ok (.istore 9, 2) := by decide +kernel
theorem dX0_countBetween_6 : decode cX0_countBetween 6 = .ok (.iload 9, 2) := by decide +kernel
theorem dX0_countBetween_8 : decode cX0_countBetween 8 = .ok (.aload_n 0, 1) := by decide +kernel
theorem dX0_countBetween_9 : decode cX0_countBetween 9 = .ok (.getfield 34, 3) := by decide +kernel
theorem dX0_countBetween_12 : decode cX0_countBetween 12 = .ok (.if_icmp .ge 82, 3) := by decide +kernel
theorem dX0_countBetween_15 : decode cX0_countBetween 15 = .ok (.aload_n 0, 1) := by decide +kernel
theorem dX0_countBetween_16 : decode cX0_countBetween 16 = .ok (.getfield 9, 3) := by decide +kernel
theorem dX0_countBetween_19 : decode cX0_countBetween 19 = .ok (.iload 9, 2) := by decide +kernel
theorem dX0_countBetween_21 : decode cX0_countBetween 21 = .ok (.iaload, 1) := by decide +kernel
theorem dX0_countBetween_22 : decode cX0_countBetween 22 = .ok (.istore 10, 2) := by decide +kernel
theorem dX0_countBetween_24 : decode cX0_countBetween 24 = .ok (.aload_n 0, 1) := by decide +kernel
theorem dX0_countBetween_25 : decode cX0_countBetween 25 = .ok (.getfield 25, 3) := by decide +kernel
theorem dX0_countBetween_28 : decode cX0_countBetween 28 = .ok (.iload 10, 2) := by decide +kernel
theorem dX0_countBetween_30 : decode cX0_countBetween 30 = .ok (.laload, 1) := by decide +kernel
theorem dX0_countBetween_31 : decode cX0_countBetween 31 = .ok (.lload 4, 2) := by decide +kernel
theorem dX0_countBetween_33 : decode cX0_countBetween 33 = .ok (.lcmp, 1) := by decide +kernel
theorem dX0_countBetween_34 : decode cX0_countBetween 34 = .ok (.ifCond .lt 20, 3) := by decide +kernel
theorem dX0_countBetween_37 : decode cX0_countBetween 37 = .ok (.aload_n 0, 1) := by decide +kernel
theorem dX0_countBetween_38 : decode cX0_countBetween 38 = .ok (.getfield 25, 3) := by decide +kernel
theorem dX0_countBetween_41 : decode cX0_countBetween 41 = .ok (.iload 10, 2) := by decide +kernel
theorem dX0_countBetween_43 : decode cX0_countBetween 43 = .ok (.laload, 1) := by decide +kernel
theorem dX0_countBetween_44 : decode cX0_countBetween 44 = .ok (.lload 6, 2) := by decide +kernel
theorem dX0_countBetween_46 : decode cX0_countBetween 46 = .ok (.lcmp, 1) := by decide +kernel
theorem dX0_countBetween_47 : decode cX0_countBetween 47 = .ok (.ifCond .gt 7, 3) := by decide +kernel
theorem dX0_countBetween_50 : decode cX0_countBetween 50 = .ok (.iconst 1, 1) := by decide +kernel
theorem dX0_countBetween_51 : decode cX0_countBetween 51 = .ok (.goto 4, 3) := by decide +kernel
theorem dX0_countBetween_54 : decode cX0_countBetween 54 = .ok (.iconst 0, 1) := by decide +kernel
theorem dX0_countBetween_55 : decode cX0_countBetween 55 = .ok (.istore 11, 2) := by decide +kernel
theorem dX0_countBetween_57 : decode cX0_countBetween 57 = .ok (.iload 11, 2) := by decide +kernel
theorem dX0_countBetween_59 : decode cX0_countBetween 59 = .ok (.ifCond .eq 29, 3) := by decide +kernel
theorem dX0_countBetween_62 : decode cX0_countBetween 62 = .ok (.aload_n 0, 1) := by decide +kernel
theorem dX0_countBetween_63 : decode cX0_countBetween 63 = .ok (.getfield 18, 3) := by decide +kernel
theorem dX0_countBetween_66 : decode cX0_countBetween 66 = .ok (.iload 10, 2) := by decide +kernel
theorem dX0_countBetween_68 : decode cX0_countBetween 68 = .ok (.iaload, 1) := by decide +kernel
theorem dX0_countBetween_69 : decode cX0_countBetween 69 = .ok (.iload_n 1, 1) := by decide +kernel
theorem dX0_countBetween_70 : decode cX0_countBetween 70 = .ok (.if_icmp .ne 18, 3) := by decide +kernel
theorem dX0_countBetween_73 : decode cX0_countBetween 73 = .ok (.aload_n 0, 1) := by decide +kernel
theorem dX0_countBetween_74 : decode cX0_countBetween 74 = .ok (.getfield 21, 3) := by decide +kernel
theorem dX0_countBetween_77 : decode cX0_countBetween 77 = .ok (.iload 10, 2) := by decide +kernel
theorem dX0_countBetween_79 : decode cX0_countBetween 79 = .ok (.laload, 1) := by decide +kernel
theorem dX0_countBetween_80 : decode cX0_countBetween 80 = .ok (.lload_n 2, 1) := by decide +kernel
theorem dX0_countBetween_81 : decode cX0_countBetween 81 = .ok (.lcmp, 1) := by decide +kernel
theorem dX0_countBetween_82 : decode cX0_countBetween 82 = .ok (.ifCond .ne 6, 3) := by decide +kernel
theorem dX0_countBetween_85 : decode cX0_countBetween 85 = .ok (.iinc 8 1, 3) := by decide +kernel
theorem dX0_countBetween_88 : decode cX0_countBetween 88 = .ok (.iinc 9 1, 3) := by decide +kernel
theorem dX0_countBetween_91 : decode cX0_countBetween 91 = .ok (.goto (-85), 3) := by decide +kernel
theorem dX0_countBetween_94 : decode cX0_countBetween 94 = .ok (.iload 8, 2) := by decide +kernel
theorem dX0_countBetween_96 : decode cX0_countBetween 96 = .ok (.ireturn, 1) := by decide +kernel
set_option maxRecDepth 20000 in
theorem ggX0_countOfTask_X3_taskOf : GoodIn wsX0_countOfTask wsX3_taskOf := goodIn_r _ [6, 7, 8, 9, 10, 11] (by decide +kernel) (by decide +kernel)
set_option maxRecDepth 20000 in
theorem gX0_countOfTask_X3_taskOf_n66 : GoodIn wsX0_countOfTask (wsX3_taskOf) := ggX0_countOfTask_X3_taskOf
theorem dX0_countOfTask_0 : decode cX0_countOfTask 0 = .ok (.iconst 0, 1) := by decide +kernel
theorem dX0_countOfTask_1 : decode cX0_countOfTask 1 = .ok (.istore_n 3, 1) := by decide +kernel
theorem dX0_countOfTask_2 : decode cX0_countOfTask 2 = .ok (.iconst 0, 1) := by decide +kernel
theorem dX0_countOfTask_3 : decode cX0_countOfTask 3 = .ok (.istore 4, 2) := by decide +kernel
theorem dX0_countOfTask_5 : decode cX0_countOfTask 5 = .ok (.iload 4, 2) := by decide +kernel
theorem dX0_countOfTask_7 : decode cX0_countOfTask 7 = .ok (.aload_n 0, 1) := by decide +kernel
theorem dX0_countOfTask_8 : decode cX0_countOfTask 8 = .ok (.getfield 34, 3) := by decide +kernel
theorem dX0_countOfTask_11 : decode cX0_countOfTask 11 = .ok (.if_icmp .ge 32, 3) := by decide +kernel
theorem dX0_countOfTask_14 : decode cX0_countOfTask 14 = .ok (.aload_n 0, 1) := by decide +kernel
theorem dX0_countOfTask_15 : decode cX0_countOfTask 15 = .ok (.getfield 21, 3) := by decide +kernel
theorem dX0_countOfTask_18 : decode cX0_countOfTask 18 = .ok (.aload_n 0, 1) := by decide +kernel
theorem dX0_countOfTask_19 : decode cX0_countOfTask 19 = .ok (.getfield 9, 3) := by decide +kernel
theorem dX0_countOfTask_22 : decode cX0_countOfTask 22 = .ok (.iload 4, 2) := by decide +kernel
theorem dX0_countOfTask_24 : decode cX0_countOfTask 24 = .ok (.iaload, 1) := by decide +kernel
theorem dX0_countOfTask_25 : decode cX0_countOfTask 25 = .ok (.laload, 1) := by decide +kernel
theorem dX0_countOfTask_26 : decode cX0_countOfTask 26 = .ok (.iload_n 2, 1) := by decide +kernel
theorem dX0_countOfTask_27 : decode cX0_countOfTask 27 = .ok (.invokestatic 66, 3) := by decide +kernel
theorem dX0_countOfTask_30 : decode cX0_countOfTask 30 = .ok (.iload_n 1, 1) := by decide +kernel
theorem dX0_countOfTask_31 : decode cX0_countOfTask 31 = .ok (.if_icmp .ne 6, 3) := by decide +kernel
theorem dX0_countOfTask_34 : decode cX0_countOfTask 34 = .ok (.iinc 3 1, 3) := by decide +kernel
theorem dX0_countOfTask_37 : decode cX0_countOfTask 37 = .ok (.iinc 4 1, 3) := by decide +kernel
theorem dX0_countOfTask_40 : decode cX0_countOfTask 40 = .ok (.goto (-35), 3) := by decide +kernel
theorem dX0_countOfTask_43 : decode cX0_countOfTask 43 = .ok (.iload_n 3, 1) := by decide +kernel
theorem dX0_countOfTask_44 : decode cX0_countOfTask 44 = .ok (.ireturn, 1) := by decide +kernel
theorem dX0_copyFrom_0 : decode cX0_copyFrom 0 = .ok (.aload_n 1, 1) := by decide +kernel
theorem dX0_copyFrom_1 : decode cX0_copyFrom 1 = .ok (.getfield 9, 3) := by decide +kernel
theorem dX0_copyFrom_4 : decode cX0_copyFrom 4 = .ok (.iconst 0, 1) := by decide +kernel
theorem dX0_copyFrom_5 : decode cX0_copyFrom 5 = .ok (.aload_n 0, 1) := by decide +kernel
theorem dX0_copyFrom_6 : decode cX0_copyFrom 6 = .ok (.getfield 9, 3) := by decide +kernel
theorem dX0_copyFrom_9 : decode cX0_copyFrom 9 = .ok (.iconst 0, 1) := by decide +kernel
theorem dX0_copyFrom_10 : decode cX0_copyFrom 10 = .ok (.bipush 40, 2) := by decide +kernel
theorem dX0_copyFrom_12 : decode cX0_copyFrom 12 = .ok (.invokestatic 41, 3) := by decide +kernel
theorem dX0_copyFrom_15 : decode cX0_copyFrom 15 = .ok (.aload_n 1, 1) := by decide +kernel
theorem dX0_copyFrom_16 : decode cX0_copyFrom 16 = .ok (.getfield 15, 3) := by decide +kernel
theorem dX0_copyFrom_19 : decode cX0_copyFrom 19 = .ok (.iconst 0, 1) := by decide +kernel
theorem dX0_copyFrom_20 : decode cX0_copyFrom 20 = .ok (.aload_n 0, 1) := by decide +kernel
theorem dX0_copyFrom_21 : decode cX0_copyFrom 21 = .ok (.getfield 15, 3) := by decide +kernel
theorem dX0_copyFrom_24 : decode cX0_copyFrom 24 = .ok (.iconst 0, 1) := by decide +kernel
theorem dX0_copyFrom_25 : decode cX0_copyFrom 25 = .ok (.bipush 40, 2) := by decide +kernel
theorem dX0_copyFrom_27 : decode cX0_copyFrom 27 = .ok (.invokestatic 41, 3) := by decide +kernel
theorem dX0_copyFrom_30 : decode cX0_copyFrom 30 = .ok (.aload_n 1, 1) := by decide +kernel
theorem dX0_copyFrom_31 : decode cX0_copyFrom 31 = .ok (.getfield 18, 3) := by decide +kernel
theorem dX0_copyFrom_34 : decode cX0_copyFrom 34 = .ok (.iconst 0, 1) := by decide +kernel
theorem dX0_copyFrom_35 : decode cX0_copyFrom 35 = .ok (.aload_n 0, 1) := by decide +kernel
theorem dX0_copyFrom_36 : decode cX0_copyFrom 36 = .ok (.getfield 18, 3) := by decide +kernel
theorem dX0_copyFrom_39 : decode cX0_copyFrom 39 = .ok (.iconst 0, 1) := by decide +kernel
theorem dX0_copyFrom_40 : decode cX0_copyFrom 40 = .ok (.bipush 40, 2) := by decide +kernel
theorem dX0_copyFrom_42 : decode cX0_copyFrom 42 = .ok (.invokestatic 41, 3) := by decide +kernel
theorem dX0_copyFrom_45 : decode cX0_copyFrom 45 = .ok (.aload_n 1, 1) := by decide +kernel
theorem dX0_copyFrom_46 : decode cX0_copyFrom 46 = .ok (.getfield 21, 3) := by decide +kernel
theorem dX0_copyFrom_49 : decode cX0_copyFrom 49 = .ok (.iconst 0, 1) := by decide +kernel
theorem dX0_copyFrom_50 : decode cX0_copyFrom 50 = .ok (.aload_n 0, 1) := by decide +kernel
theorem dX0_copyFrom_51 : decode cX0_copyFrom 51 = .ok (.getfield 21, 3) := by decide +kernel
theorem dX0_copyFrom_54 : decode cX0_copyFrom 54 = .ok (.iconst 0, 1) := by decide +kernel
theorem dX0_copyFrom_55 : decode cX0_copyFrom 55 = .ok (.bipush 40, 2) := by decide +kernel
theorem dX0_copyFrom_57 : decode cX0_copyFrom 57 = .ok (.invokestatic 41, 3) := by decide +kernel
theorem dX0_copyFrom_60 : decode cX0_copyFrom 60 = .ok (.aload_n 1, 1) := by decide +kernel
theorem dX0_copyFrom_61 : decode cX0_copyFrom 61 = .ok (.getfield 25, 3) := by decide +kernel
theorem dX0_copyFrom_64 : decode cX0_copyFrom 64 = .ok (.iconst 0, 1) := by decide +kernel
theorem dX0_copyFrom_65 : decode cX0_copyFrom 65 = .ok (.aload_n 0, 1) := by decide +kernel
theorem dX0_copyFrom_66 : decode cX0_copyFrom 66 = .ok (.getfield 25, 3) := by decide +kernel
theorem dX0_copyFrom_69 : decode cX0_copyFrom 69 = .ok (.iconst 0, 1) := by decide +kernel
theorem dX0_copyFrom_70 : decode cX0_copyFrom 70 = .ok (.bipush 40, 2) := by decide +kernel
theorem dX0_copyFrom_72 : decode cX0_copyFrom 72 = .ok (.invokestatic 41, 3) := by decide +kernel
theorem dX0_copyFrom_75 : decode cX0_copyFrom 75 = .ok (.aload_n 1, 1) := by decide +kernel
theorem dX0_copyFrom_76 : decode cX0_copyFrom 76 = .ok (.getfield 28, 3) := by decide +kernel
theorem dX0_copyFrom_79 : decode cX0_copyFrom 79 = .ok (.iconst 0, 1) := by decide +kernel
theorem dX0_copyFrom_80 : decode cX0_copyFrom 80 = .ok (.aload_n 0, 1) := by decide +kernel
theorem dX0_copyFrom_81 : decode cX0_copyFrom 81 = .ok (.getfield 28, 3) := by decide +kernel
theorem dX0_copyFrom_84 : decode cX0_copyFrom 84 = .ok (.iconst 0, 1) := by decide +kernel
theorem dX0_copyFrom_85 : decode cX0_copyFrom 85 = .ok (.bipush 40, 2) := by decide +kernel
theorem dX0_copyFrom_87 : decode cX0_copyFrom 87 = .ok (.invokestatic 41, 3) := by decide +kernel
theorem dX0_copyFrom_90 : decode cX0_copyFrom 90 = .ok (.aload_n 1, 1) := by decide +kernel
theorem dX0_copyFrom_91 : decode cX0_copyFrom 91 = .ok (.getfield 31, 3) := by decide +kernel
theorem dX0_copyFrom_94 : decode cX0_copyFrom 94 = .ok (.iconst 0, 1) := by decide +kernel
theorem dX0_copyFrom_95 : decode cX0_copyFrom 95 = .ok (.aload_n 0, 1) := by decide +kernel
theorem dX0_copyFrom_96 : decode cX0_copyFrom 96 = .ok (.getfield 31, 3) := by decide +kernel
theorem dX0_copyFrom_99 : decode cX0_copyFrom 99 = .ok (.iconst 0, 1) := by decide +kernel
theorem dX0_copyFrom_100 : decode cX0_copyFrom 100 = .ok (.bipush 40, 2) := by decide +kernel
theorem dX0_copyFrom_102 : decode cX0_copyFrom 102 = .ok (.invokestatic 41, 3) := by decide +kernel
theorem dX0_copyFrom_105 : decode cX0_copyFrom 105 = .ok (.aload_n 0, 1) := by decide +kernel
theorem dX0_copyFrom_106 : decode cX0_copyFrom 106 = .ok (.aload_n 1, 1) := by decide +kernel
theorem dX0_copyFrom_107 : decode cX0_copyFrom 107 = .ok (.getfield 34, 3) := by decide +kernel
theorem dX0_copyFrom_110 : decode cX0_copyFrom 110 = .ok (.putfield 34, 3) := by decide +kernel
theorem dX0_copyFrom_113 : decode cX0_copyFrom 113 = .ok (.return_, 1) := by decide +kernel
theorem dX1_init_0 : decode cX1_init 0 = .ok (.aload_n 0, 1) := by decide +kernel
theorem dX1_init_1 : decode cX1_init 1 = .ok (.invokespecial 3, 3) := by decide +kernel
theorem dX1_init_4 : decode cX1_init 4 = .ok (.aload_n 0, 1) := by decide +kernel
theorem dX1_init_5 : decode cX1_init 5 = .ok (.bipush 65, 2) := by decide +kernel
theorem dX1_init_7 : decode cX1_init 7 = .ok (.newarray .int, 2) := by decide +kernel
theorem dX1_init_9 : decode cX1_init 9 = .ok (.putfield 9, 3) := by decide +kernel
theorem dX1_init_12 : decode cX1_init 12 = .ok (.aload_n 0, 1) := by decide +kernel
theorem dX1_init_13 : decode cX1_init 13 = .ok (.bipush 65, 2) := by decide +kernel
theorem dX1_init_15 : decode cX1_init 15 = .ok (.newarray .int, 2) := by decide +kernel
theorem dX1_init_17 : decode cX1_init 17 = .ok (.putfield 15, 3) := by decide +kernel
theorem dX1_init_20 : decode cX1_init 20 = .ok (.aload_n 0, 1) := by decide +kernel
theorem dX1_init_21 : decode cX1_init 21 = .ok (.bipush 65, 2) := by decide +kernel
theorem dX1_init_23 : decode cX1_init 23 = .ok (.newarray .long, 2) := by decide +kernel
theorem dX1_init_25 : decode cX1_init 25 = .ok (.putfield 18, 3) := by decide +kernel
theorem dX1_init_28 : decode cX1_init 28 = .ok (.aload_n 0, 1) := by decide +kernel
theorem dX1_init_29 : decode cX1_init 29 = .ok (.bipush 65, 2) := by decide +kernel
theorem dX1_init_31 : decode cX1_init 31 = .ok (.newarray .long, 2) := by decide +kernel
theorem dX1_init_33 : decode cX1_init 33 = .ok (.putfield 22, 3) := by decide +kernel
theorem dX1_init_36 : decode cX1_init 36 = .ok (.aload_n 0, 1) := by decide +kernel
theorem dX1_init_37 : decode cX1_init 37 = .ok (.bipush 65, 2) := by decide +kernel
theorem dX1_init_39 : decode cX1_init 39 = .ok (.newarray .int, 2) := by decide +kernel
theorem dX1_init_41 : decode cX1_init 41 = .ok (.putfield 25, 3) := by decide +kernel
theorem dX1_init_44 : decode cX1_init 44 = .ok (.return_, 1) := by decide +kernel
set_option maxRecDepth 20000 in
theorem ggX1_add_X1_grow : GoodIn wsX1_add wsX1_grow := goodIn_r _ [16, 2, 4, 6, 8, 10, 17, 18, 19, 20, 21, 22, 23, 24, 25, 26, 27, 28, 29, 30, 31, 32, 33, 34, 35, 36, 37, 38, 39, 40, 41, 42, 43, 44, 45, 46, 47, 48, 49] (by decide +kernel) (by decide +kernel)
set_option maxRecDepth 20000 in
theorem gX1_add_X1_grow : GoodIn wsX1_add (wsV RX1 32 RX1 yX1_grow wsX1_grow) := goodIn_app (goodIn_of _ (by decide +kernel)) ggX1_add_X1_grow
theorem dX1_add_0 : decode cX1_add 0 = .ok (.aload_n 0, 1) := by decide +kernel
theorem dX1_add_1 : decode cX1_add 1 = .ok (.getfield 28, 3) := by decide +kernel
theorem dX1_add_4 : decode cX1_add 4 = .ok (.aload_n 0, 1) := by decide +kernel
theorem dX1_add_5 : decode cX1_add 5 = .ok (.getfield 9, 3) := by decide +kernel
theorem dX1_add_8 : decode cX1_add 8 = .ok (.arraylength, 1) := by decide +kernel
theorem dX1_add_9 : decode cX1_add 9 = .ok (.if_icmp .lt 7, 3) := by decide +kernel
theorem dX1_add_12 : decode cX1_add 12 = .ok (.aload_n 0, 1) := by decide +kernel
theorem dX1_add_13 : decode cX1_add 13 = .ok (.invokevirtual 32, 3) := by decide +kernel
theorem dX1_add_16 : decode cX1_add 16 = .ok (.aload_n 2, 1) := by decide +kernel
theorem dX1_add_17 : decode cX1_add 17 = .ok (.getfield 35, 3) := by decide +kernel
theorem dX1_add_20 : decode cX1_add 20 = .ok (.iload_n 3, 1) := by decide +kernel
theorem dX1_add_21 : decode cX1_add 21 = .ok (.iaload, 1) := by decide +kernel
theorem dX1_add_22 : decode cX1_add 22 = .ok (.istore 4, 2) := by decide +kernel
theorem dX1_add_24 : decode cX1_add 24 = .ok (.aload_n 0, 1) := by decide +kernel
theorem dX1_add_25 : decode cX1_add 25 = .ok (.getfield 9, 3) := by decide +kernel
theorem dX1_add_28 : decode cX1_add 28 = .ok (.aload_n 0, 1) := by decide +kernel
theorem dX1_add_29 : decode cX1_add 29 = .ok (.getfield 28, 3) := by decide +kernel
theorem dX1_add_32 : decode cX1_add 32 = .ok (.iload_n 1, 1) := by decide +kernel
theorem dX1_add_33 : decode cX1_add 33 = .ok (.iastore, 1) := by decide +kernel
theorem dX1_add_34 : decode cX1_add 34 = .ok (.aload_n 0, 1) := by decide +kernel
theorem dX1_add_35 : decode cX1_add 35 = .ok (.getfield 15, 3) := by decide +kernel
theorem dX1_add_38 : decode cX1_add 38 = .ok (.aload_n 0, 1) := by decide +kernel
theorem dX1_add_39 : decode cX1_add 39 = .ok (.getfield 28, 3) := by decide +kernel
theorem dX1_add_42 : decode cX1_add 42 = .ok (.aload_n 2, 1) := by decide +kernel
theorem dX1_add_43 : decode cX1_add 43 = .ok (.getfield 40, 3) := by decide +kernel
theorem dX1_add_46 : decode cX1_add 46 = .ok (.iload 4, 2) := by decide +kernel
theorem dX1_add_48 : decode cX1_add 48 = .ok (.iaload, 1) := by decide +kernel
theorem dX1_add_49 : decode cX1_add 49 = .ok (.iastore, 1) := by decide +kernel
theorem dX1_add_50 : decode cX1_add 50 = .ok (.aload_n 0, 1) := by decide +kernel
theorem dX1_add_51 : decode cX1_add 51 = .ok (.getfield 18, 3) := by decide +kernel
theorem dX1_add_54 : decode cX1_add 54 = .ok (.aload_n 0, 1) := by decide +kernel
theorem dX1_add_55 : decode cX1_add 55 = .ok (.getfield 28, 3) := by decide +kernel
theorem dX1_add_58 : decode cX1_add 58 = .ok (.aload_n 2, 1) := by decide +kernel
theorem dX1_add_59 : decode cX1_add 59 = .ok (.getfield 41, 3) := by decide +kernel
theorem dX1_add_62 : decode cX1_add 62 = .ok (.iload 4, 2) := by decide +kernel
theorem dX1_add_64 : decode cX1_add 64 = .ok (.laload, 1) := by decide +kernel
theorem dX1_add_65 : decode cX1_add 65 = .ok (.lastore, 1) := by decide +kernel
theorem dX1_add_66 : decode cX1_add 66 = .ok (.aload_n 0, 1) := by decide +kernel
theorem dX1_add_67 : decode cX1_add 67 = .ok (.getfield 22, 3) := by decide +kernel
theorem dX1_add_70 : decode cX1_add 70 = .ok (.aload_n 0, 1) := by decide +kernel
theorem dX1_add_71 : decode cX1_add 71 = .ok (.getfield 28, 3) := by decide +kernel
theorem dX1_add_74 : decode cX1_add 74 = .ok (.aload_n 2, 1) := by decide +kernel
theorem dX1_add_75 : decode cX1_add 75 = .ok (.getfield 42, 3) := by decide +kernel
theorem dX1_add_78 : decode cX1_add 78 = .ok (.iload 4, 2) := by decide +kernel
theorem dX1_add_80 : decode cX1_add 80 = .ok (.laload, 1) := by decide +kernel
theorem dX1_add_81 : decode cX1_add 81 = .ok (.lastore, 1) := by decide +kernel
theorem dX1_add_82 : decode cX1_add 82 = .ok (.aload_n 0, 1) := by decide +kernel
theorem dX1_add_83 : decode cX1_add 83 = .ok (.getfield 25, 3) := by decide +kernel
theorem dX1_add_86 : decode cX1_add 86 = .ok (.aload_n 0, 1) := by decide +kernel
theorem dX1_add_87 : decode cX1_add 87 = .ok (.getfield 28, 3) := by decide +kernel
theorem dX1_add_90 : decode cX1_add 90 = .ok (.aload_n 2, 1) := by decide +kernel
theorem dX1_add_91 : decode cX1_add 91 = .ok (.getfield 43, 3) := by decide +kernel
theorem dX1_add_94 : decode cX1_add 94 = .ok (.iload 4, 2) := by decide +kernel
theorem dX1_add_96 : decode cX1_add 96 = .ok (.iaload, 1) := by decide +kernel
theorem dX1_add_97 : decode cX1_add 97 = .ok (.iastore, 1) := by decide +kernel
theorem dX1_add_98 : decode cX1_add 98 = .ok (.aload_n 0, 1) := by decide +kernel
theorem dX1_add_99 : decode cX1_add 99 = .ok (.dup, 1) := by decide +kernel
theorem dX1_add_100 : decode cX1_add 100 = .ok (.getfield 28, 3) := by decide +kernel
theorem dX1_add_103 : decode cX1_add 103 = .ok (.iconst 1, 1) := by decide +kernel
theorem dX1_add_104 : decode cX1_add 104 = .ok (.iadd, 1) := by decide +kernel
theorem dX1_add_105 : decode cX1_add 105 = .ok (.putfield 28, 3) := by decide +kernel
theorem dX1_add_108 : decode cX1_add 108 = .ok (.return_, 1) := by decide +kernel
set_option maxRecDepth 20000 in
theorem ggX1_grow_J7_copyOf_59c91 : GoodIn wsX1_grow wsJ7_copyOf_59c91 := goodIn_r _ [9, 10, 11, 12, 13, 14, 15, 16, 17, 18, 19, 20, 21, 22, 23, 24] (by decide +kernel) (by decide +kernel)
set_option maxRecDepth 20000 in
theorem gX1_grow_J7_copyOf_59c91 : GoodIn wsX1_grow (va_wsS RX1 44 yJ7_copyOf_59c91 wsJ7_copyOf_59c91) := goodIn_app (goodIn_of _ (by decide +kernel)) ggX1_grow_J7_copyOf_59c91
set_option maxRecDepth 20000 in
theorem ggX1_grow_J7_copyOf_c38d5 : GoodIn wsX1_grow wsJ7_copyOf_c38d5 := goodIn_r _ [27, 28, 29, 12, 13, 30, 31, 32, 17, 18, 19, 20, 21, 22, 23, 24] (by decide +kernel) (by decide +kernel)
set_option maxRecDepth 20000 in
theorem gX1_grow_J7_copyOf_c38d5 : GoodIn wsX1_grow (va_wsS RX1 50 yJ7_copyOf_c38d5 wsJ7_copyOf_c38d5) := goodIn_app (goodIn_of _ (by decide +kernel)) ggX1_grow_J7_copyOf_c38d5
theorem dX1_grow_0 : decode cX1_grow 0 = .ok (.iconst 2, 1) := by decide +kernel
theorem dX1_grow_1 : decode cX1_grow 1 = .ok (.aload_n 0, 1) := by decide +kernel
theorem dX1_grow_2 : decode cX1_grow 2 = .ok (.getfield 9, 3) := by decide +kernel
theorem dX1_grow_5 : decode cX1_grow 5 = .ok (.arraylength, 1) := by decide +kernel
theorem dX1_grow_6 : decode cX1_grow 6 = .ok (.imul, 1) := by decide +kernel
theorem dX1_grow_7 : decode cX1_grow 7 = .ok (.istore_n 1, 1) := by decide +kernel
theorem dX1_grow_8 : decode cX1_grow 8 = .ok (.aload_n 0, 1) := by decide +kernel
theorem dX1_grow_9 : decode cX1_grow 9 = .ok (.aload_n 0, 1) := by decide +kernel
theorem dX1_grow_10 : decode cX1_grow 10 = .ok (.getfield 9, 3) := by decide +kernel
theorem dX1_grow_13 : decode cX1_grow 13 = .ok (.iload_n 1, 1) := by decide +kernel
theorem dX1_grow_14 : decode cX1_grow 14 = .ok (.invokestatic 44, 3) := by decide +kernel
theorem dX1_grow_17 : decode cX1_grow 17 = .ok (.putfield 9, 3) := by decide +kernel
theorem dX1_grow_20 : decode cX1_grow 20 = .ok (.aload_n 0, 1) := by decide +kernel
theorem dX1_grow_21 : decode cX1_grow 21 = .ok (.aload_n 0, 1) := by decide +kernel
theorem dX1_grow_22 : decode cX1_grow 22 = .ok (.getfield 15, 3) := by decide +kernel
theorem dX1_grow_25 : decode cX1_grow 25 = .ok (.iload_n 1, 1) := by decide +kernel
theorem dX1_grow_26 : decode cX1_grow 26 = .ok (.invokestatic 44, 3) := by decide +kernel
theorem dX1_grow_29 : decode cX1_grow 29 = .ok (.putfield 15, 3) := by decide +kernel
theorem dX1_grow_32 : decode cX1_grow 32 = .ok (.aload_n 0, 1) := by decide +kernel
theorem dX1_grow_33 : decode cX1_grow 33 = .ok (.aload_n 0, 1) := by decide +kernel
theorem dX1_grow_34 : decode cX1_grow 34 = .ok (.getfield 18, 3) := by decide +kernel
theorem dX1_grow_37 : decode cX1_grow 37 = .ok (.iload_n 1, 1) := by decide +kernel
theorem dX1_grow_38 : decode cX1_grow 38 = .ok (.invokestatic 50, 3) := by decide +kernel
theorem dX1_grow_41 : decode cX1_grow 41 = .ok (.putfield 18, 3) := by decide +kernel
theorem dX1_grow_44 : decode cX1_grow 44 = .ok (.aload_n 0, 1) := by decide +kernel
theorem dX1_grow_45 : decode cX1_grow 45 = .ok (.aload_n 0, 1) := by decide +kernel
theorem dX1_grow_46 : decode cX1_grow 46 = .ok (.getfield 22, 3) := by decide +kernel
theorem dX1_grow_49 : decode cX1_grow 49 = .ok (.iload_n 1, 1) := by decide +kernel
theorem dX1_grow_50 : decode cX1_grow 50 = .ok (.invokestatic 50, 3) := by decide +kernel
theorem dX1_grow_53 : decode cX1_grow 53 = .ok (.putfield 22, 3) := by decide +kernel
theorem dX1_grow_56 : decode cX1_grow 56 = .ok (.aload_n 0, 1) := by decide +kernel
theorem dX1_grow_57 : decode cX1_grow 57 = .ok (.aload_n 0, 1) := by decide +kernel
theorem dX1_grow_58 : decode cX1_grow 58 = .ok (.getfield 25, 3) := by decide +kernel
theorem dX1_grow_61 : decode cX1_grow 61 = .ok (.iload_n 1, 1) := by decide +kernel
theorem dX1_grow_62 : decode cX1_grow 62 = .ok (.invokestatic 44, 3) := by decide +kernel
theorem dX1_grow_65 : decode cX1_grow 65 = .ok (.putfield 25, 3) := by decide +kernel
theorem dX1_grow_68 : decode cX1_grow 68 = .ok (.return_, 1) := by decide +kernel
set_option maxRecDepth 20000 in
theorem ggX2_init_X0_init : GoodIn wsX2_init wsX0_init := goodIn_r _ [13, 14, 2, 3, 15, 16, 17, 18, 9, 19, 20, 21, 22, 23, 39, 40, 41, 42, 43, 44, 45, 46] (by decide +kernel) (by decide +kernel)
set_option maxRecDepth 20000 in
theorem gX2_init_X0_init : GoodIn wsX2_init (wsX0_init) := ggX2_init_X0_init
set_option maxRecDepth 20000 in
theorem ggX2_init_X2_begin : GoodIn wsX2_init wsX2_begin := goodIn_r _ [28, 7, 29, 8, 10, 30, 31, 32, 33, 34, 35, 36, 37, 38, 47, 48, 49, 50, 51, 52, 53, 39, 40, 41, 42, 43, 44, 45, 46] (by decide +kernel) (by decide +kernel)
set_option maxRecDepth 20000 in
theorem gX2_init_X2_begin : GoodIn wsX2_init (wsV RX2 25 RX2 yX2_begin wsX2_begin) := goodIn_app (goodIn_of _ (by decide +kernel)) ggX2_init_X2_begin
theorem dX2_init_0 : decode cX2_init 0 = .ok (.aload_n 0, 1) := by decide +kernel
theorem dX2_init_1 : decode cX2_init 1 = .ok (.invokespecial 3, 3) := by decide +kernel
theorem dX2_init_4 : decode cX2_init 4 = .ok (.aload_n 0, 1) := by decide +kernel
theorem dX2_init_5 : decode cX2_init 5 = .ok (.new 9, 3) := by decide +kernel
theorem dX2_init_8 : decode cX2_init 8 = .ok (.dup, 1) := by decide +kernel
theorem dX2_init_9 : decode cX2_init 9 = .ok (.invokespecial 11, 3) := by decide +kernel
theorem dX2_init_12 : decode cX2_init 12 = .ok (.putfield 12, 3) := by decide +kernel
theorem dX2_init_15 : decode cX2_init 15 = .ok (.aload_n 0, 1) := by decide +kernel
theorem dX2_init_16 : decode cX2_init 16 = .ok (.new 9, 3) := by decide +kernel
theorem dX2_init_19 : decode cX2_init 19 = .ok (.dup, 1) := by decide +kernel
theorem dX2_init_20 : decode cX2_init 20 = .ok (.invokespecial 11, 3) := by decide +kernel
theorem dX2_init_23 : decode cX2_init 23 = .ok (.putfield 18, 3) := by decide +kernel
theorem dX2_init_26 : decode cX2_init 26 = .ok (.aload_n 0, 1) := by decide +kernel
theorem dX2_init_27 : decode cX2_init 27 = .ok (.iconst 2, 1) := by decide +kernel
theorem dX2_init_28 : decode cX2_init 28 = .ok (.newarray .long, 2) := by decide +kernel
theorem dX2_init_30 : decode cX2_init 30 = .ok (.putfield 21, 3) := by decide +kernel
theorem dX2_init_33 : decode cX2_init 33 = .ok (.aload_n 0, 1) := by decide +kernel
theorem dX2_init_34 : decode cX2_init 34 = .ok (.invokevirtual 25, 3) := by decide +kernel
theorem dX2_init_37 : decode cX2_init 37 = .ok (.return_, 1) := by decide +kernel
set_option maxRecDepth 20000 in
theorem ggX2_begin_J7_fill_d0a16 : GoodIn wsX2_begin wsJ7_fill_d0a16 := goodIn_r _ [13] (by decide +kernel) (by decide +kernel)
set_option maxRecDepth 20000 in
theorem gX2_begin_J7_fill_d0a16 : GoodIn wsX2_begin (va_wsS RX2 34 yJ7_fill_d0a16 wsJ7_fill_d0a16) := goodIn_app (goodIn_of _ (by decide +kernel)) ggX2_begin_J7_fill_d0a16
theorem dX2_begin_0 : decode cX2_begin 0 = .ok (.aload_n 0, 1) := by decide +kernel
theorem dX2_begin_1 : decode cX2_begin 1 = .ok (.getfield 12, 3) := by decide +kernel
theorem dX2_begin_4 : decode cX2_begin 4 = .ok (.iconst 0, 1) := by decide +kernel
theorem dX2_begin_5 : decode cX2_begin 5 = .ok (.putfield 28, 3) := by decide +kernel
theorem dX2_begin_8 : decode cX2_begin 8 = .ok (.aload_n 0, 1) := by decide +kernel
theorem dX2_begin_9 : decode cX2_begin 9 = .ok (.getfield 18, 3) := by decide +kernel
theorem dX2_begin_12 : decode cX2_begin 12 = .ok (.iconst 0, 1) := by decide +kernel
theorem dX2_begin_13 : decode cX2_begin 13 = .ok (.putfield 28, 3) := by decide +kernel
theorem dX2_begin_16 : decode cX2_begin 16 = .ok (.aload_n 0, 1) := by decide +kernel
theorem dX2_begin_17 : decode cX2_begin 17 = .ok (.getfield 21, 3) := by decide +kernel
theorem dX2_begin_20 : decode cX2_begin 20 = .ok (.ldc2_w 32, 3) := by decide +kernel
theorem dX2_begin_23 : decode cX2_begin 23 = .ok (.invokestatic 34, 3) := by decide +kernel
theorem dX2_begin_26 : decode cX2_begin 26 = .ok (.aload_n 0, 1) := by decide +kernel
theorem dX2_begin_27 : decode cX2_begin 27 = .ok (.iconst 0, 1) := by decide +kernel
theorem dX2_begin_28 : decode cX2_begin 28 = .ok (.putfield 40, 3) := by decide +kernel
theorem dX2_begin_31 : decode cX2_begin 31 = .ok (.aload_n 0, 1) := by decide +kernel
theorem dX2_begin_32 : decode cX2_begin 32 = .ok (.iconst 0, 1) := by decide +kernel
theorem dX2_begin_33 : decode cX2_begin 33 = .ok (.putfield 43, 3) := by decide +kernel
theorem dX2_begin_36 : decode cX2_begin 36 = .ok (.aload_n 0, 1) := by decide +kernel
theorem dX2_begin_37 : decode cX2_begin 37 = .ok (.iconst 0, 1) := by decide +kernel
theorem dX2_begin_38 : decode cX2_begin 38 = .ok (.putfield 46, 3) := by decide +kernel
theorem dX2_begin_41 : decode cX2_begin 41 = .ok (.aload_n 0, 1) := by decide +kernel
theorem dX2_begin_42 : decode cX2_begin 42 = .ok (.iconst 1, 1) := by decide +kernel
theorem dX2_begin_43 : decode cX2_begin 43 = .ok (.putfield 49, 3) := by decide +kernel
theorem dX2_begin_46 : decode cX2_begin 46 = .ok (.return_, 1) := by decide +kernel
set_option maxRecDepth 20000 in
theorem ggX2_copyFrom_X0_copyFrom : GoodIn wsX2_copyFrom wsX0_copyFrom := goodIn_r _ [16, 17, 18, 5, 6, 7, 19, 20, 21, 22, 23, 24, 25, 33, 34, 35, 36, 37, 38, 39, 40] (by decide +kernel) (by decide +kernel)
set_option maxRecDepth 20000 in
theorem gX2_copyFrom_X0_copyFrom : GoodIn wsX2_copyFrom (wsV RX2 53 RX0 yX0_copyFrom wsX0_copyFrom) := goodIn_app (goodIn_of _ (by decide +kernel)) ggX2_copyFrom_X0_copyFrom
theorem dX2_copyFrom_0 : decode cX2_copyFrom 0 = .ok (.aload_n 0, 1) := by decide +kernel
theorem dX2_copyFrom_1 : decode cX2_copyFrom 1 = .ok (.getfield 12, 3) := by decide +kernel
theorem dX2_copyFrom_4 : decode cX2_copyFrom 4 = .ok (.aload_n 1, 1) := by decide +kernel
theorem dX2_copyFrom_5 : decode cX2_copyFrom 5 = .ok (.getfield 12, 3) := by decide +kernel
theorem dX2_copyFrom_8 : decode cX2_copyFrom 8 = .ok (.invokevirtual 53, 3) := by decide +kernel
theorem dX2_copyFrom_11 : decode cX2_copyFrom 11 = .ok (.aload_n 0, 1) := by decide +kernel
theorem dX2_copyFrom_12 : decode cX2_copyFrom 12 = .ok (.getfield 18, 3) := by decide +kernel
theorem dX2_copyFrom_15 : decode cX2_copyFrom 15 = .ok (.aload_n 1, 1) := by decide +kernel
theorem dX2_copyFrom_16 : decode cX2_copyFrom 16 = .ok (.getfield 18, 3) := by decide +kernel
theorem dX2_copyFrom_19 : decode cX2_copyFrom 19 = .ok (.invokevirtual 53, 3) := by decide +kernel
theorem dX2_copyFrom_22 : decode cX2_copyFrom 22 = .ok (.aload_n 1, 1) := by decide +kernel
theorem dX2_copyFrom_23 : decode cX2_copyFrom 23 = .ok (.getfield 21, 3) := by decide +kernel
theorem dX2_copyFrom_26 : decode cX2_copyFrom 26 = .ok (.iconst 0, 1) := by decide +kernel
theorem dX2_copyFrom_27 : decode cX2_copyFrom 27 = .ok (.aload_n 0, 1) := by decide +kernel
theorem dX2_copyFrom_28 : decode cX2_copyFrom 28 = .ok (.getfield 21, 3) := by decide +kernel
theorem dX2_copyFrom_31 : decode cX2_copyFrom 31 = .ok (.iconst 0, 1) := by decide +kernel
theorem dX2_copyFrom_32 : decode cX2_copyFrom 32 = .ok (.iconst 2, 1) := by decide +kernel
theorem dX2_copyFrom_33 : decode cX2_copyFrom 33 = .ok (.invokestatic 57, 3) := by decide +kernel
theorem dX2_copyFrom_36 : decode cX2_copyFrom 36 = .ok (.aload_n 0, 1) := by decide +kernel
theorem dX2_copyFrom_37 : decode cX2_copyFrom 37 = .ok (.aload_n 1, 1) := by decide +kernel
theorem dX2_copyFrom_38 : decode cX2_copyFrom 38 = .ok (.getfield 40, 3) := by decide +kernel
theorem dX2_copyFrom_41 : decode cX2_copyFrom 41 = .ok (.putfield 40, 3) := by decide +kernel
theorem dX2_copyFrom_44 : decode cX2_copyFrom 44 = .ok (.aload_n 0, 1) := by decide +kernel
theorem dX2_copyFrom_45 : decode cX2_copyFrom 45 = .ok (.aload_n 1, 1) := by decide +kernel
theorem dX2_copyFrom_46 : decode cX2_copyFrom 46 = .ok (.getfield 43, 3) := by decide +kernel
theorem dX2_copyFrom_49 : decode cX2_copyFrom 49 = .ok (.putfield 43, 3) := by decide +kernel
theorem dX2_copyFrom_52 : decode cX2_copyFrom 52 = .ok (.aload_n 0, 1) := by decide +kernel
theorem dX2_copyFrom_53 : decode cX2_copyFrom 53 = .ok (.aload_n 1, 1) := by decide +kernel
theorem dX2_copyFrom_54 : decode cX2_copyFrom 54 = .ok (.getfield 46, 3) := by decide +kernel
theorem dX2_copyFrom_57 : decode cX2_copyFrom 57 = .ok (.putfield 46, 3) := by decide +kernel
theorem dX2_copyFrom_60 : decode cX2_copyFrom 60 = .ok (.aload_n 0, 1) := by decide +kernel
theorem dX2_copyFrom_61 : decode cX2_copyFrom 61 = .ok (.aload_n 1, 1) := by decide +kernel
theorem dX2_copyFrom_62 : decode cX2_copyFrom 62 = .ok (.getfield 49, 3) := by decide +kernel
theorem dX2_copyFrom_65 : decode cX2_copyFrom 65 = .ok (.putfield 49, 3) := by decide +kernel
theorem dX2_copyFrom_68 : decode cX2_copyFrom 68 = .ok (.return_, 1) := by decide +kernel
theorem dX2_takeTimerNumber_0 : decode cX2_takeTimerNumber 0 = .ok (.aload_n 0, 1) := by decide +kernel
theorem dX2_takeTimerNumber_1 : decode cX2_takeTimerNumber 1 = .ok (.getfield 40, 3) := by decide +kernel
theorem dX2_takeTimerNumber_4 : decode cX2_takeTimerNumber 4 = .ok (.istore_n 1, 1) := by decide +kernel
theorem dX2_takeTimerNumber_5 : decode cX2_takeTimerNumber 5 = .ok (.aload_n 0, 1) := by decide +kernel
theorem dX2_takeTimerNumber_6 : decode cX2_takeTimerNumber 6 = .ok (.dup, 1) := by decide +kernel
theorem dX2_takeTimerNumber_7 : decode cX2_takeTimerNumber 7 = .ok (.getfield 40, 3) := by decide +kernel
theorem dX2_takeTimerNumber_10 : decode cX2_takeTimerNumber 10 = .ok (.iconst 1, 1) := by decide +kernel
theorem dX2_takeTimerNumber_11 : decode cX2_takeTimerNumber 11 = .ok (.iadd, 1) := by decide +kernel
theorem dX2_takeTimerNumber_12 : decode cX2_takeTimerNumber 12 = .ok (.putfield 40, 3) := by decide +kernel
theorem dX2_takeTimerNumber_15 : decode cX2_takeTimerNumber 15 = .ok (.iload_n 1, 1) := by decide +kernel
theorem dX2_takeTimerNumber_16 : decode cX2_takeTimerNumber 16 = .ok (.ireturn, 1) := by decide +kernel
set_option maxRecDepth 20000 in
theorem ggX2_rowGoesAhead_X0_timeAt : GoodIn wsX2_rowGoesAhead wsX0_timeAt := goodIn_r _ [8, 9, 10, 18, 19, 20, 21, 22, 23, 24, 25] (by decide +kernel) (by decide +kernel)
set_option maxRecDepth 20000 in
theorem gX2_rowGoesAhead_X0_timeAt : GoodIn wsX2_rowGoesAhead (wsV RX2 63 RX0 yX0_timeAt wsX0_timeAt) := goodIn_app (goodIn_of _ (by decide +kernel)) ggX2_rowGoesAhead_X0_timeAt
theorem dX2_rowGoesAhead_0 : decode cX2_rowGoesAhead 0 = .ok (.aload_n 0, 1) := by decide +kernel
theorem dX2_rowGoesAhead_1 : decode cX2_rowGoesAhead 1 = .ok (.getfield 18, 3) := by decide +kernel
theorem dX2_rowGoesAhead_4 : decode cX2_rowGoesAhead 4 = .ok (.iload_n 1, 1) := by decide +kernel
theorem dX2_rowGoesAhead_5 : decode cX2_rowGoesAhead 5 = .ok (.invokevirtual 63, 3) := by decide +kernel
theorem dX2_rowGoesAhead_8 : decode cX2_rowGoesAhead 8 = .ok (.lstore_n 3, 1) := by decide +kernel
theorem dX2_rowGoesAhead_9 : decode cX2_rowGoesAhead 9 = .ok (.aload_n 0, 1) := by decide +kernel
theorem dX2_rowGoesAhead_10 : decode cX2_rowGoesAhead 10 = .ok (.getfield 12, 3) := by decide +kernel
