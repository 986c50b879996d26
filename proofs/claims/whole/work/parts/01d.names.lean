set_option maxRecDepth 20000 in
theorem gX8_letter_X4_write : GoodIn wsX8_letter (wsV RX8 67 RX4 yX4_write wsX4_write) := goodIn_app (goodIn_of _ (by decide +kernel)) ggX8_letter_X4_write
set_option maxRecDepth 20000 in
theorem ggX8_letter_X4_length : GoodIn wsX8_letter wsX4_length := goodIn_r _ [17, 7, 27, 28] (by decide +kernel) (by decide +kernel)
set_option maxRecDepth 20000 in
theorem gX8_letter_X4_length : GoodIn wsX8_letter (wsV RX8 71 RX4 yX4_length wsX4_length) := goodIn_app (goodIn_of _ (by decide +kernel)) ggX8_letter_X4_length
theorem dX8_letter_0 : decode cX8_letter 0 = .ok (.iload_n 1, 1) := by decide +kernel
theorem dX8_letter_1 : decode cX8_letter 1 = .ok (.bipush 32, 2) := by decide +kernel
theorem dX8_letter_3 : decode cX8_letter 3 = .ok (.if_icmp .lt 9, 3) := by decide +kernel
theorem dX8_letter_6 : decode cX8_letter 6 = .ok (.iload_n 1, 1) := by decide +kernel
theorem dX8_letter_7 : decode cX8_letter 7 = .ok (.bipush 126, 2) := by decide +kernel
theorem dX8_letter_9 : decode cX8_letter 9 = .ok (.if_icmp .le 7, 3) := by decide +kernel
theorem dX8_letter_12 : decode cX8_letter 12 = .ok (.sipush (-1002), 3) := by decide +kernel
theorem dX8_letter_15 : decode cX8_letter 15 = .ok (.ireturn, 1) := by decide +kernel
theorem dX8_letter_16 : decode cX8_letter 16 = .ok (.aload_n 0, 1) := by decide +kernel
theorem dX8_letter_17 : decode cX8_letter 17 = .ok (.getfield 12, 3) := by decide +kernel
theorem dX8_letter_20 : decode cX8_letter 20 = .ok (.invokevirtual 63, 3) := by decide +kernel
theorem dX8_letter_23 : decode cX8_letter 23 = .ok (.ifCond .eq 7, 3) := by decide +kernel
theorem dX8_letter_26 : decode cX8_letter 26 = .ok (.sipush (-1004), 3) := by decide +kernel
theorem dX8_letter_29 : decode cX8_letter 29 = .ok (.ireturn, 1) := by decide +kernel
theorem dX8_letter_30 : decode cX8_letter 30 = .ok (.aload_n 0, 1) := by decide +kernel
theorem dX8_letter_31 : decode cX8_letter 31 = .ok (.getfield 12, 3) := by decide +kernel
theorem dX8_letter_34 : decode cX8_letter 34 = .ok (.iload_n 1, 1) := by decide +kernel
theorem dX8_letter_35 : decode cX8_letter 35 = .ok (.invokevirtual 67, 3) := by decide +kernel
theorem dX8_letter_38 : decode cX8_letter 38 = .ok (.aload_n 0, 1) := by decide +kernel
theorem dX8_letter_39 : decode cX8_letter 39 = .ok (.getfield 12, 3) := by decide +kernel
theorem dX8_letter_42 : decode cX8_letter 42 = .ok (.invokevirtual 71, 3) := by decide +kernel
theorem dX8_letter_45 : decode cX8_letter 45 = .ok (.ireturn, 1) := by decide +kernel
set_option maxRecDepth 20000 in
theorem ggX8_blank_X4_length : GoodIn wsX8_blank wsX4_length := goodIn_r _ [6, 7, 21, 22] (by decide +kernel) (by decide +kernel)
set_option maxRecDepth 20000 in
theorem gX8_blank_X4_length : GoodIn wsX8_blank (wsV RX8 71 RX4 yX4_length wsX4_length) := goodIn_app (goodIn_of _ (by decide +kernel)) ggX8_blank_X4_length
set_option maxRecDepth 20000 in
theorem ggX8_blank_X4_wipe : GoodIn wsX8_blank wsX4_wipe := goodIn_r _ [11, 7, 21, 22] (by decide +kernel) (by decide +kernel)
set_option maxRecDepth 20000 in
theorem gX8_blank_X4_wipe : GoodIn wsX8_blank (wsV RX8 75 RX4 yX4_wipe wsX4_wipe) := goodIn_app (goodIn_of _ (by decide +kernel)) ggX8_blank_X4_wipe
theorem dX8_blank_0 : decode cX8_blank 0 = .ok (.aload_n 0, 1) := by decide +kernel
theorem dX8_blank_1 : decode cX8_blank 1 = .ok (.getfield 12, 3) := by decide +kernel
theorem dX8_blank_4 : decode cX8_blank 4 = .ok (.invokevirtual 71, 3) := by decide +kernel
theorem dX8_blank_7 : decode cX8_blank 7 = .ok (.istore_n 1, 1) := by decide +kernel
theorem dX8_blank_8 : decode cX8_blank 8 = .ok (.aload_n 0, 1) := by decide +kernel
theorem dX8_blank_9 : decode cX8_blank 9 = .ok (.getfield 12, 3) := by decide +kernel
theorem dX8_blank_12 : decode cX8_blank 12 = .ok (.invokevirtual 75, 3) := by decide +kernel
theorem dX8_blank_15 : decode cX8_blank 15 = .ok (.iload_n 1, 1) := by decide +kernel
theorem dX8_blank_16 : decode cX8_blank 16 = .ok (.ireturn, 1) := by decide +kernel
set_option maxRecDepth 20000 in
theorem ggX8_fault_X4_firstFault : GoodIn wsX8_fault wsX4_firstFault := goodIn_r _ [6, 7, 8, 18, 19] (by decide +kernel) (by decide +kernel)
set_option maxRecDepth 20000 in
theorem gX8_fault_X4_firstFault : GoodIn wsX8_fault (wsV RX8 78 RX4 yX4_firstFault wsX4_firstFault) := goodIn_app (goodIn_of _ (by decide +kernel)) ggX8_fault_X4_firstFault
theorem dX8_fault_0 : decode cX8_fault 0 = .ok (.aload_n 0, 1) := by decide +kernel
theorem dX8_fault_1 : decode cX8_fault 1 = .ok (.getfield 12, 3) := by decide +kernel
theorem dX8_fault_4 : decode cX8_fault 4 = .ok (.invokevirtual 78, 3) := by decide +kernel
theorem dX8_fault_7 : decode cX8_fault 7 = .ok (.ireturn, 1) := by decide +kernel
set_option maxRecDepth 20000 in
theorem ggX8_jobs_X6_read : GoodIn wsX8_jobs wsX6_read := goodIn_r _ [7, 8, 9, 10, 11, 12, 13, 14, 15, 16, 17, 18, 19, 20, 21, 22, 23, 24, 6, 25, 26, 27, 28, 29, 30, 31, 32, 33, 34, 35, 36, 61, 62, 63, 64, 65, 66, 67, 68] (by decide +kernel) (by decide +kernel)
set_option maxRecDepth 20000 in
theorem gX8_jobs_X6_read : GoodIn wsX8_jobs (wsV RX8 81 RX6 yX6_read wsX6_read) := goodIn_app (goodIn_of _ (by decide +kernel)) ggX8_jobs_X6_read
set_option maxRecDepth 20000 in
theorem ggX8_jobs_X4_wipe : GoodIn wsX8_jobs wsX4_wipe := goodIn_r _ [40, 16, 67, 68] (by decide +kernel) (by decide +kernel)
set_option maxRecDepth 20000 in
theorem gX8_jobs_X4_wipe : GoodIn wsX8_jobs (wsV RX8 75 RX4 yX4_wipe wsX4_wipe) := goodIn_app (goodIn_of _ (by decide +kernel)) ggX8_jobs_X4_wipe
set_option maxRecDepth 20000 in
theorem ggX8_jobs_X8_forgetKeepings : GoodIn wsX8_jobs wsX8_forgetKeepings := goodIn_r _ [45, 46, 47, 52, 53, 54, 55, 56, 57, 58, 59, 60] (by decide +kernel) (by decide +kernel)
set_option maxRecDepth 20000 in
theorem gX8_jobs_X8_forgetKeepings : GoodIn wsX8_jobs (wsV RX8 85 RX8 yX8_forgetKeepings wsX8_forgetKeepings) := goodIn_app (goodIn_of _ (by decide +kernel)) ggX8_jobs_X8_forgetKeepings
set_option maxRecDepth 20000 in
theorem ggX8_jobs_X6_size : GoodIn wsX8_jobs wsX6_size := goodIn_r _ [51, 9, 61, 62, 63, 64, 65, 66] (by decide +kernel) (by decide +kernel)
set_option maxRecDepth 20000 in
theorem gX8_jobs_X6_size : GoodIn wsX8_jobs (wsV RX8 88 RX6 yX6_size wsX6_size) := goodIn_app (goodIn_of _ (by decide +kernel)) ggX8_jobs_X6_size
theorem dX8_jobs_0 : decode cX8_jobs 0 = .ok (.aload_n 0, 1) := by decide +kernel
theorem dX8_jobs_1 : decode cX8_jobs 1 = .ok (.getfield 26, 3) := by decide +kernel
theorem dX8_jobs_4 : decode cX8_jobs 4 = .ok (.aload_n 0, 1) := by decide +kernel
theorem dX8_jobs_5 : decode cX8_jobs 5 = .ok (.getfield 12, 3) := by decide +kernel
theorem dX8_jobs_8 : decode cX8_jobs 8 = .ok (.invokevirtual 81, 3) := by decide +kernel
theorem dX8_jobs_11 : decode cX8_jobs 11 = .ok (.ifCond .ne 7, 3) := by decide +kernel
theorem dX8_jobs_14 : decode cX8_jobs 14 = .ok (.sipush (-1003), 3) := by decide +kernel
theorem dX8_jobs_17 : decode cX8_jobs 17 = .ok (.ireturn, 1) := by decide +kernel
theorem dX8_jobs_18 : decode cX8_jobs 18 = .ok (.aload_n 0, 1) := by decide +kernel
theorem dX8_jobs_19 : decode cX8_jobs 19 = .ok (.getfield 12, 3) := by decide +kernel
theorem dX8_jobs_22 : decode cX8_jobs 22 = .ok (.invokevirtual 75, 3) := by decide +kernel
theorem dX8_jobs_25 : decode cX8_jobs 25 = .ok (.aload_n 0, 1) := by decide +kernel
theorem dX8_jobs_26 : decode cX8_jobs 26 = .ok (.invokevirtual 85, 3) := by decide +kernel
theorem dX8_jobs_29 : decode cX8_jobs 29 = .ok (.aload_n 0, 1) := by decide +kernel
theorem dX8_jobs_30 : decode cX8_jobs 30 = .ok (.getfield 26, 3) := by decide +kernel
theorem dX8_jobs_33 : decode cX8_jobs 33 = .ok (.invokevirtual 88, 3) := by decide +kernel
theorem dX8_jobs_36 : decode cX8_jobs 36 = .ok (.ireturn, 1) := by decide +kernel
set_option maxRecDepth 20000 in
theorem ggX8_big_X8_isTool : GoodIn wsX8_big wsX8_isTool := goodIn_r _ [5] (by decide +kernel) (by decide +kernel)
set_option maxRecDepth 20000 in
theorem gX8_big_X8_isTool : GoodIn wsX8_big (va_wsS RX8 91 yX8_isTool wsX8_isTool) := goodIn_app (goodIn_of _ (by decide +kernel)) ggX8_big_X8_isTool
set_option maxRecDepth 20000 in
theorem ggX8_big_X3_bigTools : GoodIn wsX8_big wsX3_bigTools := goodIn_r _ [10, 11, 36, 37] (by decide +kernel) (by decide +kernel)
set_option maxRecDepth 20000 in
theorem gX8_big_X3_bigTools : GoodIn wsX8_big (wsV RX8 95 RX3 yX3_bigTools wsX3_bigTools) := goodIn_app (goodIn_of _ (by decide +kernel)) ggX8_big_X3_bigTools
set_option maxRecDepth 20000 in
theorem ggX8_big_X8_hasTool : GoodIn wsX8_big wsX8_hasTool := goodIn_r _ [14] (by decide +kernel) (by decide +kernel)
set_option maxRecDepth 20000 in
theorem gX8_big_X8_hasTool : GoodIn wsX8_big (va_wsS RX8 98 yX8_hasTool wsX8_hasTool) := goodIn_app (goodIn_of _ (by decide +kernel)) ggX8_big_X8_hasTool
set_option maxRecDepth 20000 in
theorem ggX8_big_X3_setBig : GoodIn wsX8_big wsX3_setBig := goodIn_r _ [18, 11, 19, 4, 20, 36, 37] (by decide +kernel) (by decide +kernel)
set_option maxRecDepth 20000 in
theorem gX8_big_X3_setBig : GoodIn wsX8_big (wsV RX8 102 RX3 yX3_setBig wsX3_setBig) := goodIn_app (goodIn_of _ (by decide +kernel)) ggX8_big_X3_setBig
set_option maxRecDepth 20000 in
theorem ggX8_big_X8_forgetKeepings : GoodIn wsX8_big wsX8_forgetKeepings := goodIn_r _ [24, 25, 26, 27, 28, 29, 30, 31, 32, 33, 34, 35] (by decide +kernel) (by decide +kernel)
set_option maxRecDepth 20000 in
theorem gX8_big_X8_forgetKeepings : GoodIn wsX8_big (wsV RX8 85 RX8 yX8_forgetKeepings wsX8_forgetKeepings) := goodIn_app (goodIn_of _ (by decide +kernel)) ggX8_big_X8_forgetKeepings
theorem dX8_big_0 : decode cX8_big 0 = .ok (.iload_n 1, 1) := by decide +kernel
theorem dX8_big_1 : decode cX8_big 1 = .ok (.invokestatic 91, 3) := by decide +kernel
theorem dX8_big_4 : decode cX8_big 4 = .ok (.ifCond .ne 7, 3) := by decide +kernel
theorem dX8_big_7 : decode cX8_big 7 = .ok (.sipush (-1001), 3) := by decide +kernel
theorem dX8_big_10 : decode cX8_big 10 = .ok (.ireturn, 1) := by decide +kernel
theorem dX8_big_11 : decode cX8_big 11 = .ok (.aload_n 0, 1) := by decide +kernel
theorem dX8_big_12 : decode cX8_big 12 = .ok (.getfield 19, 3) := by decide +kernel
theorem dX8_big_15 : decode cX8_big 15 = .ok (.invokevirtual 95, 3) := by decide +kernel
theorem dX8_big_18 : decode cX8_big 18 = .ok (.iload_n 1, 1) := by decide +kernel
theorem dX8_big_19 : decode cX8_big 19 = .ok (.invokestatic 98, 3) := by decide +kernel
theorem dX8_big_22 : decode cX8_big 22 = .ok (.ifCond .eq 7, 3) := by decide +kernel
theorem dX8_big_25 : decode cX8_big 25 = .ok (.iconst 1, 1) := by decide +kernel
theorem dX8_big_26 : decode cX8_big 26 = .ok (.goto 4, 3) := by decide +kernel
theorem dX8_big_29 : decode cX8_big 29 = .ok (.iconst 0, 1) := by decide +kernel
theorem dX8_big_30 : decode cX8_big 30 = .ok (.istore_n 3, 1) := by decide +kernel
theorem dX8_big_31 : decode cX8_big 31 = .ok (.aload_n 0, 1) := by decide +kernel
theorem dX8_big_32 : decode cX8_big 32 = .ok (.getfield 19, 3) := by decide +kernel
theorem dX8_big_35 : decode cX8_big 35 = .ok (.iload_n 1, 1) := by decide +kernel
theorem dX8_big_36 : decode cX8_big 36 = .ok (.iload_n 2, 1) := by decide +kernel
theorem dX8_big_37 : decode cX8_big 37 = .ok (.invokevirtual 102, 3) := by decide +kernel
theorem dX8_big_40 : decode cX8_big 40 = .ok (.aload_n 0, 1) := by decide +kernel
theorem dX8_big_41 : decode cX8_big 41 = .ok (.invokevirtual 85, 3) := by decide +kernel
theorem dX8_big_44 : decode cX8_big 44 = .ok (.iload_n 3, 1) := by decide +kernel
theorem dX8_big_45 : decode cX8_big 45 = .ok (.ireturn, 1) := by decide +kernel
set_option maxRecDepth 20000 in
theorem ggX8_pockets_X3_room : GoodIn wsX8_pockets wsX3_room := goodIn_r _ [6, 7, 28, 29] (by decide +kernel) (by decide +kernel)
set_option maxRecDepth 20000 in
theorem gX8_pockets_X3_room : GoodIn wsX8_pockets (wsV RX8 106 RX3 yX3_room wsX3_room) := goodIn_app (goodIn_of _ (by decide +kernel)) ggX8_pockets_X3_room
set_option maxRecDepth 20000 in
theorem ggX8_pockets_X3_setRoom : GoodIn wsX8_pockets wsX3_setRoom := goodIn_r _ [11, 7, 28, 29] (by decide +kernel) (by decide +kernel)
set_option maxRecDepth 20000 in
theorem gX8_pockets_X3_setRoom : GoodIn wsX8_pockets (wsV RX8 109 RX3 yX3_setRoom wsX3_setRoom) := goodIn_app (goodIn_of _ (by decide +kernel)) ggX8_pockets_X3_setRoom
set_option maxRecDepth 20000 in
theorem ggX8_pockets_X8_forgetKeepings : GoodIn wsX8_pockets wsX8_forgetKeepings := goodIn_r _ [16, 17, 18, 19, 20, 21, 22, 23, 24, 25, 26, 27] (by decide +kernel) (by decide +kernel)
set_option maxRecDepth 20000 in
theorem gX8_pockets_X8_forgetKeepings : GoodIn wsX8_pockets (wsV RX8 85 RX8 yX8_forgetKeepings wsX8_forgetKeepings) := goodIn_app (goodIn_of _ (by decide +kernel)) ggX8_pockets_X8_forgetKeepings
theorem dX8_pockets_0 : decode cX8_pockets 0 = .ok (.iload_n 1, 1) := by decide +kernel
theorem dX8_pockets_1 : decode cX8_pockets 1 = .ok (.iconst 2, 1) := by decide +kernel
theorem dX8_pockets_2 : decode cX8_pockets 2 = .ok (.if_icmp .lt 9, 3) := by decide +kernel
theorem dX8_pockets_5 : decode cX8_pockets 5 = .ok (.iload_n 1, 1) := by decide +kernel
theorem dX8_pockets_6 : decode cX8_pockets 6 = .ok (.bipush 12, 2) := by decide +kernel
theorem dX8_pockets_8 : decode cX8_pockets 8 = .ok (.if_icmp .le 7, 3) := by decide +kernel
theorem dX8_pockets_11 : decode cX8_pockets 11 = .ok (.sipush (-1002), 3) := by decide +kernel
theorem dX8_pockets_14 : decode cX8_pockets 14 = .ok (.ireturn, 1) := by decide +kernel
theorem dX8_pockets_15 : decode cX8_pockets 15 = .ok (.aload_n 0, 1) := by decide +kernel
theorem dX8_pockets_16 : decode cX8_pockets 16 = .ok (.getfield 19, 3) := by decide +kernel
theorem dX8_pockets_19 : decode cX8_pockets 19 = .ok (.invokevirtual 106, 3) := by decide +kernel
theorem dX8_pockets_22 : decode cX8_pockets 22 = .ok (.istore_n 2, 1) := by decide +kernel
theorem dX8_pockets_23 : decode cX8_pockets 23 = .ok (.aload_n 0, 1) := by decide +kernel
theorem dX8_pockets_24 : decode cX8_pockets 24 = .ok (.getfield 19, 3) := by decide +kernel
theorem dX8_pockets_27 : decode cX8_pockets 27 = .ok (.iload_n 1, 1) := by decide +kernel
theorem dX8_pockets_28 : decode cX8_pockets 28 = .ok (.invokevirtual 109, 3) := by decide +kernel
theorem dX8_pockets_31 : decode cX8_pockets 31 = .ok (.aload_n 0, 1) := by decide +kernel
theorem dX8_pockets_32 : decode cX8_pockets 32 = .ok (.invokevirtual 85, 3) := by decide +kernel
theorem dX8_pockets_35 : decode cX8_pockets 35 = .ok (.iload_n 2, 1) := by decide +kernel
theorem dX8_pockets_36 : decode cX8_pockets 36 = .ok (.ireturn, 1) := by decide +kernel
set_option maxRecDepth 20000 in
theorem ggX8_breaks_X6_isPlace : GoodIn wsX8_breaks wsX6_isPlace := goodIn_r _ [6, 7, 41, 42, 43, 44, 45, 46] (by decide +kernel) (by decide +kernel)
set_option maxRecDepth 20000 in
theorem gX8_breaks_X6_isPlace : GoodIn wsX8_breaks (wsV RX8 112 RX6 yX6_isPlace wsX6_isPlace) := goodIn_app (goodIn_of _ (by decide +kernel)) ggX8_breaks_X6_isPlace
set_option maxRecDepth 20000 in
theorem ggX8_breaks_X8_isTool : GoodIn wsX8_breaks wsX8_isTool := goodIn_r _ [11] (by decide +kernel) (by decide +kernel)
set_option maxRecDepth 20000 in
theorem gX8_breaks_X8_isTool : GoodIn wsX8_breaks (va_wsS RX8 91 yX8_isTool wsX8_isTool) := goodIn_app (goodIn_of _ (by decide +kernel)) ggX8_breaks_X8_isTool
set_option maxRecDepth 20000 in
theorem ggX8_breaks_X6_broken : GoodIn wsX8_breaks wsX6_broken := goodIn_r _ [15, 16, 41, 42, 43, 44, 45, 46] (by decide +kernel) (by decide +kernel)
set_option maxRecDepth 20000 in
theorem gX8_breaks_X6_broken : GoodIn wsX8_breaks (wsV RX8 115 RX6 yX6_broken wsX6_broken) := goodIn_app (goodIn_of _ (by decide +kernel)) ggX8_breaks_X6_broken
set_option maxRecDepth 20000 in
theorem ggX8_breaks_X8_hasTool : GoodIn wsX8_breaks wsX8_hasTool := goodIn_r _ [19] (by decide +kernel) (by decide +kernel)
set_option maxRecDepth 20000 in
theorem gX8_breaks_X8_hasTool : GoodIn wsX8_breaks (va_wsS RX8 98 yX8_hasTool wsX8_hasTool) := goodIn_app (goodIn_of _ (by decide +kernel)) ggX8_breaks_X8_hasTool
set_option maxRecDepth 20000 in
theorem ggX8_breaks_X6_setBreak : GoodIn wsX8_breaks wsX6_setBreak := goodIn_r _ [23, 16, 24, 10, 25, 41, 42, 43, 44, 45, 46] (by decide +kernel) (by decide +kernel)
set_option maxRecDepth 20000 in
theorem gX8_breaks_X6_setBreak : GoodIn wsX8_breaks (wsV RX8 119 RX6 yX6_setBreak wsX6_setBreak) := goodIn_app (goodIn_of _ (by decide +kernel)) ggX8_breaks_X6_setBreak
set_option maxRecDepth 20000 in
theorem ggX8_breaks_X8_forgetKeepings : GoodIn wsX8_breaks wsX8_forgetKeepings := goodIn_r _ [29, 30, 31, 32, 33, 34, 35, 36, 37, 38, 39, 40] (by decide +kernel) (by decide +kernel)
set_option maxRecDepth 20000 in
theorem gX8_breaks_X8_forgetKeepings : GoodIn wsX8_breaks (wsV RX8 85 RX8 yX8_forgetKeepings wsX8_forgetKeepings) := goodIn_app (goodIn_of _ (by decide +kernel)) ggX8_breaks_X8_forgetKeepings
theorem dX8_breaks_0 : decode cX8_breaks 0 = .ok (.aload_n 0, 1) := by decide +kernel
theorem dX8_breaks_1 : decode cX8_breaks 1 = .ok (.getfield 26, 3) := by decide +kernel
theorem dX8_breaks_4 : decode cX8_breaks 4 = .ok (.iload_n 1, 1) := by decide +kernel
theorem dX8_breaks_5 : decode cX8_breaks 5 = .ok (.invokevirtual 112, 3) := by decide +kernel
theorem dX8_breaks_8 : decode cX8_breaks 8 = .ok (.ifCond .eq 10, 3) := by decide +kernel
theorem dX8_breaks_11 : decode cX8_breaks 11 = .ok (.iload_n 2, 1) := by decide +kernel
theorem dX8_breaks_12 : decode cX8_breaks 12 = .ok (.invokestatic 91, 3) := by decide +kernel
theorem dX8_breaks_15 : decode cX8_breaks 15 = .ok (.ifCond .ne 7, 3) := by decide +kernel
theorem dX8_breaks_18 : decode cX8_breaks 18 = .ok (.sipush (-1001), 3) := by decide +kernel
theorem dX8_breaks_21 : decode cX8_breaks 21 = .ok (.ireturn, 1) := by decide +kernel
theorem dX8_breaks_22 : decode cX8_breaks 22 = .ok (.aload_n 0, 1) := by decide +kernel
theorem dX8_breaks_23 : decode cX8_breaks 23 = .ok (.getfield 26, 3) := by decide +kernel
theorem dX8_breaks_26 : decode cX8_breaks 26 = .ok (.iload_n 1, 1) := by decide +kernel
theorem dX8_breaks_27 : decode cX8_breaks 27 = .ok (.invokevirtual 115, 3) := by decide +kernel
theorem dX8_breaks_30 : decode cX8_breaks 30 = .ok (.iload_n 2, 1) := by decide +kernel
theorem dX8_breaks_31 : decode cX8_breaks 31 = .ok (.invokestatic 98, 3) := by decide +kernel
theorem dX8_breaks_34 : decode cX8_breaks 34 = .ok (.ifCond .eq 7, 3) := by decide +kernel
theorem dX8_breaks_37 : decode cX8_breaks 37 = .ok (.iconst 1, 1) := by decide +kernel
theorem dX8_breaks_38 : decode cX8_breaks 38 = .ok (.goto 4, 3) := by decide +kernel
theorem dX8_breaks_41 : decode cX8_breaks 41 = .ok (.iconst 0, 1) := by decide +kernel
theorem dX8_breaks_42 : decode cX8_breaks 42 = .ok (.istore 4, 2) := by decide +kernel
theorem dX8_breaks_44 : decode cX8_breaks 44 = .ok (.aload_n 0, 1) := by decide +kernel
theorem dX8_breaks_45 : decode cX8_breaks 45 = .ok (.getfield 26, 3) := by decide +kernel
theorem dX8_breaks_48 : decode cX8_breaks 48 = .ok (.iload_n 1, 1) := by decide +kernel
theorem dX8_breaks_49 : decode cX8_breaks 49 = .ok (.iload_n 2, 1) := by decide +kernel
theorem dX8_breaks_50 : decode cX8_breaks 50 = .ok (.iload_n 3, 1) := by decide +kernel
theorem dX8_breaks_51 : decode cX8_breaks 51 = .ok (.invokevirtual 119, 3) := by decide +kernel
theorem dX8_breaks_54 : decode cX8_breaks 54 = .ok (.aload_n 0, 1) := by decide +kernel
theorem dX8_breaks_55 : decode cX8_breaks 55 = .ok (.invokevirtual 85, 3) := by decide +kernel
theorem dX8_breaks_58 : decode cX8_breaks 58 = .ok (.iload 4, 2) := by decide +kernel
theorem dX8_breaks_60 : decode cX8_breaks 60 = .ok (.ireturn, 1) := by decide +kernel
set_option maxRecDepth 20000 in
theorem ggX8_swap_X6_isPlace : GoodIn wsX8_swap wsX6_isPlace := goodIn_r _ [6, 7, 42, 43, 44, 45, 46, 47] (by decide +kernel) (by decide +kernel)
set_option maxRecDepth 20000 in
theorem gX8_swap_X6_isPlace : GoodIn wsX8_swap (wsV RX8 112 RX6 yX6_isPlace wsX6_isPlace) := goodIn_app (goodIn_of _ (by decide +kernel)) ggX8_swap_X6_isPlace
set_option maxRecDepth 20000 in
theorem ggX8_swap_X8_changeOrder : GoodIn wsX8_swap wsX8_changeOrder := goodIn_r _ [12, 1, 13, 14, 15, 5, 16, 17, 18, 19, 20, 21, 22, 23, 24, 25, 11, 26, 27, 28, 33, 34, 35, 36, 37, 38, 39, 40, 41, 42, 43, 44, 45, 46, 47] (by decide +kernel) (by decide +kernel)
set_option maxRecDepth 20000 in
theorem gX8_swap_X8_changeOrder : GoodIn wsX8_swap (wsV RX8 123 RX8 yX8_changeOrder wsX8_changeOrder) := goodIn_app (goodIn_of _ (by decide +kernel)) ggX8_swap_X8_changeOrder
set_option maxRecDepth 20000 in
theorem ggX8_swap_X6_changes : GoodIn wsX8_swap wsX6_changes := goodIn_r _ [32, 22, 42, 43, 44, 45, 46, 47] (by decide +kernel) (by decide +kernel)
set_option maxRecDepth 20000 in
theorem gX8_swap_X6_changes : GoodIn wsX8_swap (wsV RX8 127 RX6 yX6_changes wsX6_changes) := goodIn_app (goodIn_of _ (by decide +kernel)) ggX8_swap_X6_changes
theorem dX8_swap_0 : decode cX8_swap 0 = .ok (.aload_n 0, 1) := by decide +kernel
theorem dX8_swap_1 : decode cX8_swap 1 = .ok (.getfield 26, 3) := by decide +kernel
theorem dX8_swap_4 : decode cX8_swap 4 = .ok (.iload_n 1, 1) := by decide +kernel
theorem dX8_swap_5 : decode cX8_swap 5 = .ok (.invokevirtual 112, 3) := by decide +kernel
theorem dX8_swap_8 : decode cX8_swap 8 = .ok (.ifCond .eq 14, 3) := by decide +kernel
theorem dX8_swap_11 : decode cX8_swap 11 = .ok (.aload_n 0, 1) := by decide +kernel
theorem dX8_swap_12 : decode cX8_swap 12 = .ok (.getfield 26, 3) := by decide +kernel
theorem dX8_swap_15 : decode cX8_swap 15 = .ok (.iload_n 2, 1) := by decide +kernel
theorem dX8_swap_16 : decode cX8_swap 16 = .ok (.invokevirtual 112, 3) := by decide +kernel
theorem dX8_swap_19 : decode cX8_swap 19 = .ok (.ifCond .ne 7, 3) := by decide +kernel
theorem dX8_swap_22 : decode cX8_swap 22 = .ok (.sipush (-1001), 3) := by decide +kernel
theorem dX8_swap_25 : decode cX8_swap 25 = .ok (.ireturn, 1) := by decide +kernel
theorem dX8_swap_26 : decode cX8_swap 26 = .ok (.aload_n 0, 1) := by decide +kernel
theorem dX8_swap_27 : decode cX8_swap 27 = .ok (.iload_n 1, 1) := by decide +kernel
theorem dX8_swap_28 : decode cX8_swap 28 = .ok (.iload_n 2, 1) := by decide +kernel
theorem dX8_swap_29 : decode cX8_swap 29 = .ok (.invokevirtual 123, 3) := by decide +kernel
theorem dX8_swap_32 : decode cX8_swap 32 = .ok (.aload_n 0, 1) := by decide +kernel
theorem dX8_swap_33 : decode cX8_swap 33 = .ok (.getfield 26, 3) := by decide +kernel
theorem dX8_swap_36 : decode cX8_swap 36 = .ok (.invokevirtual 127, 3) := by decide +kernel
theorem dX8_swap_39 : decode cX8_swap 39 = .ok (.ireturn, 1) := by decide +kernel
set_option maxRecDepth 20000 in
theorem ggX8_as_X8_isTool : GoodIn wsX8_as wsX8_isTool := goodIn_r _ [5] (by decide +kernel) (by decide +kernel)
set_option maxRecDepth 20000 in
theorem gX8_as_X8_isTool : GoodIn wsX8_as (va_wsS RX8 91 yX8_isTool wsX8_isTool) := goodIn_app (goodIn_of _ (by decide +kernel)) ggX8_as_X8_isTool
set_option maxRecDepth 20000 in
theorem ggX8_as_X3_bigTools : GoodIn wsX8_as wsX3_bigTools := goodIn_r _ [10, 11, 24, 25] (by decide +kernel) (by decide +kernel)
set_option maxRecDepth 20000 in
theorem gX8_as_X3_bigTools : GoodIn wsX8_as (wsV RX8 95 RX3 yX3_bigTools wsX3_bigTools) := goodIn_app (goodIn_of _ (by decide +kernel)) ggX8_as_X3_bigTools
set_option maxRecDepth 20000 in
theorem ggX8_as_X8_hasTool : GoodIn wsX8_as wsX8_hasTool := goodIn_r _ [14] (by decide +kernel) (by decide +kernel)
set_option maxRecDepth 20000 in
theorem gX8_as_X8_hasTool : GoodIn wsX8_as (va_wsS RX8 98 yX8_hasTool wsX8_hasTool) := goodIn_app (goodIn_of _ (by decide +kernel)) ggX8_as_X8_hasTool
theorem dX8_as_0 : decode cX8_as 0 = .ok (.iload_n 1, 1) := by decide +kernel
theorem dX8_as_1 : decode cX8_as 1 = .ok (.invokestatic 91, 3) := by decide +kernel
theorem dX8_as_4 : decode cX8_as 4 = .ok (.ifCond .ne 7, 3) := by decide +kernel
theorem dX8_as_7 : decode cX8_as 7 = .ok (.sipush (-1001), 3) := by decide +kernel
theorem dX8_as_10 : decode cX8_as 10 = .ok (.ireturn, 1) := by decide +kernel
theorem dX8_as_11 : decode cX8_as 11 = .ok (.iload_n 2, 1) := by decide +kernel
theorem dX8_as_12 : decode cX8_as 12 = .ok (.ifCond .lt 8, 3) := by decide +kernel
theorem dX8_as_15 : decode cX8_as 15 = .ok (.iload_n 2, 1) := by decide +kernel
theorem dX8_as_16 : decode cX8_as 16 = .ok (.iconst 2, 1) := by decide +kernel
theorem dX8_as_17 : decode cX8_as 17 = .ok (.if_icmp .le 7, 3) := by decide +kernel
theorem dX8_as_20 : decode cX8_as 20 = .ok (.sipush (-1002), 3) := by decide +kernel
theorem dX8_as_23 : decode cX8_as 23 = .ok (.ireturn, 1) := by decide +kernel
theorem dX8_as_24 : decode cX8_as 24 = .ok (.iload_n 2, 1) := by decide +kernel
theorem dX8_as_25 : decode cX8_as 25 = .ok (.ifCond .eq 27, 3) := by decide +kernel
theorem dX8_as_28 : decode cX8_as 28 = .ok (.aload_n 0, 1) := by decide +kernel
theorem dX8_as_29 : decode cX8_as 29 = .ok (.getfield 19, 3) := by decide +kernel
theorem dX8_as_32 : decode cX8_as 32 = .ok (.invokevirtual 95, 3) := by decide +kernel
theorem dX8_as_35 : decode cX8_as 35 = .ok (.iload_n 1, 1) := by decide +kernel
theorem dX8_as_36 : decode cX8_as 36 = .ok (.invokestatic 98, 3) := by decide +kernel
theorem dX8_as_39 : decode cX8_as 39 = .ok (.iload_n 2, 1) := by decide +kernel
theorem dX8_as_40 : decode cX8_as 40 = .ok (.iconst 2, 1) := by decide +kernel
theorem dX8_as_41 : decode cX8_as 41 = .ok (.if_icmp .ne 7, 3) := by decide +kernel
theorem dX8_as_44 : decode cX8_as 44 = .ok (.iconst 1, 1) := by decide +kernel
theorem dX8_as_45 : decode cX8_as 45 = .ok (.goto 4, 3) := by decide +kernel
theorem dX8_as_48 : decode cX8_as 48 = .ok (.iconst 0, 1) := by decide +kernel
theorem dX8_as_49 : decode cX8_as 49 = .ok (.if_icmp .ne 7, 3) := by decide +kernel
theorem dX8_as_52 : decode cX8_as 52 = .ok (.iconst 1, 1) := by decide +kernel
theorem dX8_as_53 : decode cX8_as 53 = .ok (.goto 4, 3) := by decide +kernel
theorem dX8_as_56 : decode cX8_as 56 = .ok (.iconst 0, 1) := by decide +kernel
theorem dX8_as_57 : decode cX8_as 57 = .ok (.istore_n 3, 1) := by decide +kernel
theorem dX8_as_58 : decode cX8_as 58 = .ok (.iload_n 3, 1) := by decide +kernel
theorem dX8_as_59 : decode cX8_as 59 = .ok (.ifCond .eq 7, 3) := by decide +kernel
theorem dX8_as_62 : decode cX8_as 62 = .ok (.iload_n 1, 1) := by decide +kernel
theorem dX8_as_63 : decode cX8_as 63 = .ok (.goto 4, 3) := by decide +kernel
theorem dX8_as_66 : decode cX8_as 66 = .ok (.iconst (-1), 1) := by decide +kernel
theorem dX8_as_67 : decode cX8_as 67 = .ok (.ireturn, 1) := by decide +kernel
set_option maxRecDepth 20000 in
theorem ggX8_job_X6_isPlace : GoodIn wsX8_job wsX6_isPlace := goodIn_r _ [6, 7, 32, 33, 34, 35, 36, 37] (by decide +kernel) (by decide +kernel)
set_option maxRecDepth 20000 in
theorem gX8_job_X6_isPlace : GoodIn wsX8_job (wsV RX8 112 RX6 yX6_isPlace wsX6_isPlace) := goodIn_app (goodIn_of _ (by decide +kernel)) ggX8_job_X6_isPlace
set_option maxRecDepth 20000 in
theorem ggX8_job_X6_needs : GoodIn wsX8_job wsX6_needs := goodIn_r _ [11, 12, 13, 32, 33, 34, 35, 36, 37] (by decide +kernel) (by decide +kernel)
set_option maxRecDepth 20000 in
theorem gX8_job_X6_needs : GoodIn wsX8_job (wsV RX8 130 RX6 yX6_needs wsX6_needs) := goodIn_app (goodIn_of _ (by decide +kernel)) ggX8_job_X6_needs
set_option maxRecDepth 20000 in
theorem ggX8_job_X6_number : GoodIn wsX8_job wsX6_number := goodIn_r _ [17, 13, 32, 33, 34, 35, 36, 37] (by decide +kernel) (by decide +kernel)
set_option maxRecDepth 20000 in
theorem gX8_job_X6_number : GoodIn wsX8_job (wsV RX8 133 RX6 yX6_number wsX6_number) := goodIn_app (goodIn_of _ (by decide +kernel)) ggX8_job_X6_number
set_option maxRecDepth 20000 in
theorem ggX8_job_X6_broken : GoodIn wsX8_job wsX6_broken := goodIn_r _ [21, 22, 32, 33, 34, 35, 36, 37] (by decide +kernel) (by decide +kernel)
set_option maxRecDepth 20000 in
theorem gX8_job_X6_broken : GoodIn wsX8_job (wsV RX8 115 RX6 yX6_broken wsX6_broken) := goodIn_app (goodIn_of _ (by decide +kernel)) ggX8_job_X6_broken
theorem dX8_job_0 : decode cX8_job 0 = .ok (.aload_n 0, 1) := by decide +kernel
theorem dX8_job_1 : decode cX8_job 1 = .ok (.getfield 26, 3) := by decide +kernel
theorem dX8_job_4 : decode cX8_job 4 = .ok (.iload_n 1, 1) := by decide +kernel
theorem dX8_job_5 : decode cX8_job 5 = .ok (.invokevirtual 112, 3) := by decide +kernel
theorem dX8_job_8 : decode cX8_job 8 = .ok (.ifCond .ne 7, 3) := by decide +kernel
theorem dX8_job_11 : decode cX8_job 11 = .ok (.sipush (-1001), 3) := by decide +kernel
theorem dX8_job_14 : decode cX8_job 14 = .ok (.ireturn, 1) := by decide +kernel
theorem dX8_job_15 : decode cX8_job 15 = .ok (.iload_n 2, 1) := by decide +kernel
theorem dX8_job_16 : decode cX8_job 16 = .ok (.tableswitch 55 0 2 #[28, 37, 46], 28) := by decide +kernel
theorem dX8_job_44 : decode cX8_job 44 = .ok (.aload_n 0, 1) := by decide +kernel
theorem dX8_job_45 : decode cX8_job 45 = .ok (.getfield 26, 3) := by decide +kernel
theorem dX8_job_48 : decode cX8_job 48 = .ok (.iload_n 1, 1) := by decide +kernel
theorem dX8_job_49 : decode cX8_job 49 = .ok (.invokevirtual 130, 3) := by decide +kernel
theorem dX8_job_52 : decode cX8_job 52 = .ok (.ireturn, 1) := by decide +kernel
theorem dX8_job_53 : decode cX8_job 53 = .ok (.aload_n 0, 1) := by decide +kernel
theorem dX8_job_54 : decode cX8_job 54 = .ok (.getfield 26, 3) := by decide +kernel
theorem dX8_job_57 : decode cX8_job 57 = .ok (.iload_n 1, 1) := by decide +kernel
theorem dX8_job_58 : decode cX8_job 58 = .ok (.invokevirtual 133, 3) := by decide +kernel
theorem dX8_job_61 : decode cX8_job 61 = .ok (.ireturn, 1) := by decide +kernel
theorem dX8_job_62 : decode cX8_job 62 = .ok (.aload_n 0, 1) := by decide +kernel
theorem dX8_job_63 : decode cX8_job 63 = .ok (.getfield 26, 3) := by decide +kernel
theorem dX8_job_66 : decode cX8_job 66 = .ok (.iload_n 1, 1) := by decide +kernel
theorem dX8_job_67 : decode cX8_job 67 = .ok (.invokevirtual 115, 3) := by decide +kernel
theorem dX8_job_70 : decode cX8_job 70 = .ok (.ireturn, 1) := by decide +kernel
theorem dX8_job_71 : decode cX8_job 71 = .ok (.sipush (-1002), 3) := by decide +kernel
theorem dX8_job_74 : decode cX8_job 74 = .ok (.ireturn, 1) := by decide +kernel
set_option maxRecDepth 20000 in
theorem ggX8_next_X6_isPlace : GoodIn wsX8_next wsX6_isPlace := goodIn_r _ [6, 7, 34, 35, 36, 37, 38, 39] (by decide +kernel) (by decide +kernel)
set_option maxRecDepth 20000 in
theorem gX8_next_X6_isPlace : GoodIn wsX8_next (wsV RX8 112 RX6 yX6_isPlace wsX6_isPlace) := goodIn_app (goodIn_of _ (by decide +kernel)) ggX8_next_X6_isPlace
set_option maxRecDepth 20000 in
theorem ggX8_next_X8_isTool : GoodIn wsX8_next wsX8_isTool := goodIn_r _ [11] (by decide +kernel) (by decide +kernel)
set_option maxRecDepth 20000 in
theorem gX8_next_X8_isTool : GoodIn wsX8_next (va_wsS RX8 91 yX8_isTool wsX8_isTool) := goodIn_app (goodIn_of _ (by decide +kernel)) ggX8_next_X8_isTool
set_option maxRecDepth 20000 in
theorem ggX8_next_X6_nextPlace : GoodIn wsX8_next wsX6_nextPlace := goodIn_r _ [15, 7, 16, 17, 10, 18, 19, 20, 21, 5, 22, 23, 24, 34, 35, 36, 37, 38, 39] (by decide +kernel) (by decide +kernel)
set_option maxRecDepth 20000 in
theorem gX8_next_X6_nextPlace : GoodIn wsX8_next (wsV RX8 136 RX6 yX6_nextPlace wsX6_nextPlace) := goodIn_app (goodIn_of _ (by decide +kernel)) ggX8_next_X6_nextPlace
theorem dX8_next_0 : decode cX8_next 0 = .ok (.aload_n 0, 1) := by decide +kernel
theorem dX8_next_1 : decode cX8_next 1 = .ok (.getfield 26, 3) := by decide +kernel
theorem dX8_next_4 : decode cX8_next 4 = .ok (.iload_n 1, 1) := by decide +kernel
theorem dX8_next_5 : decode cX8_next 5 = .ok (.invokevirtual 112, 3) := by decide +kernel
theorem dX8_next_8 : decode cX8_next 8 = .ok (.ifCond .eq 10, 3) := by decide +kernel
theorem dX8_next_11 : decode cX8_next 11 = .ok (.iload_n 2, 1) := by decide +kernel
theorem dX8_next_12 : decode cX8_next 12 = .ok (.invokestatic 91, 3) := by decide +kernel
theorem dX8_next_15 : decode cX8_next 15 = .ok (.ifCond .ne 7, 3) := by decide +kernel
theorem dX8_next_18 : decode cX8_next 18 = .ok (.sipush (-1001), 3) := by decide +kernel
theorem dX8_next_21 : decode cX8_next 21 = .ok (.ireturn, 1) := by decide +kernel
theorem dX8_next_22 : decode cX8_next 22 = .ok (.aload_n 0, 1) := by decide +kernel
theorem dX8_next_23 : decode cX8_next 23 = .ok (.getfield 26, 3) := by decide +kernel
theorem dX8_next_26 : decode cX8_next 26 = .ok (.iload_n 1, 1) := by decide +kernel
theorem dX8_next_27 : decode cX8_next 27 = .ok (.iload_n 2, 1) := by decide +kernel
theorem dX8_next_28 : decode cX8_next 28 = .ok (.invokevirtual 136, 3) := by decide +kernel
theorem dX8_next_31 : decode cX8_next 31 = .ok (.ireturn, 1) := by decide +kernel
set_option maxRecDepth 20000 in
theorem ggX8_soonest_X8_refusalOfKeeping : GoodIn wsX8_soonest wsX8_refusalOfKeeping := goodIn_r _ [6, 7, 8, 9, 10, 11, 12, 13, 14, 15, 16, 5, 17, 18, 19, 20, 21, 22, 23, 24, 25, 26, 27, 28, 29, 30, 31, 32, 33, 34, 35, 36, 37, 38, 39, 40, 41, 42, 43, 44, 45, 46, 179, 180, 181, 182, 183, 184, 185, 186, 187, 188, 189, 190, 191, 192, 193, 194, 195] (by decide +kernel) (by decide +kernel)
set_option maxRecDepth 20000 in
theorem gX8_soonest_X8_refusalOfKeeping : GoodIn wsX8_soonest (wsV RX8 140 RX8 yX8_refusalOfKeeping wsX8_refusalOfKeeping) := goodIn_app (goodIn_of _ (by decide +kernel)) ggX8_soonest_X8_refusalOfKeeping
set_option maxRecDepth 20000 in
theorem ggX8_soonest_X8_standKeepings : GoodIn wsX8_soonest wsX8_standKeepings := goodIn_r _ [50, 51, 1, 52, 53, 54, 55, 56, 57, 58, 59, 60, 61, 62, 63, 64, 20, 21, 11, 22, 13, 65, 24, 25, 26, 27, 28, 66, 67, 68, 69, 70, 71, 72, 73, 74, 75, 76, 77, 78, 79, 80, 81, 82, 83, 84, 85, 86, 41, 42, 43, 44, 45, 46, 87, 88, 89, 90, 91, 92, 93, 94, 95, 96, 97, 98, 99, 30, 31, 32, 33, 34, 35, 36, 37, 38, 39, 40, 100, 101, 102, 103, 104, 5, 105, 106, 107, 108, 109, 110, 111, 112, 113, 114, 115, 116, 117, 118, 119, 120, 121, 122, 123, 124, 125, 126, 127, 128, 129, 130, 131, 132, 133, 134, 135, 136, 137, 138, 139, 140, 141, 142, 143, 144, 145, 146, 147, 148, 149, 150, 151, 152, 153, 154, 155, 179, 180, 181, 182, 183, 184, 185, 186, 187, 196, 197, 198, 199, 200, 201, 202, 203, 204, 205, 206, 188, 189, 190, 191, 192, 193, 207, 208, 209, 210, 194, 195] (by decide +kernel) (by decide +kernel)
set_option maxRecDepth 20000 in
theorem gX8_soonest_X8_standKeepings : GoodIn wsX8_soonest (wsV RX8 143 RX8 yX8_standKeepings wsX8_standKeepings) := goodIn_app (goodIn_of _ (by decide +kernel)) ggX8_soonest_X8_standKeepings
set_option maxRecDepth 20000 in
theorem ggX8_soonest_X8_numberOfKeeping : GoodIn wsX8_soonest wsX8_numberOfKeeping := goodIn_r _ [159, 18, 160, 161, 162, 163, 58, 164, 61, 165, 166, 167, 168, 169, 170, 62, 171, 172, 173, 174, 175, 176, 63, 177, 178, 36, 37, 32, 38, 39, 40, 41, 42, 43, 44, 45, 46, 179, 180, 181, 182, 183, 184, 185, 186, 187, 196, 197, 198, 199, 200, 201, 202, 203, 204, 205, 206, 194, 195] (by decide +kernel) (by decide +kernel)
set_option maxRecDepth 20000 in
theorem gX8_soonest_X8_numberOfKeeping : GoodIn wsX8_soonest (wsV RX8 146 RX8 yX8_numberOfKeeping wsX8_numberOfKeeping) := goodIn_app (goodIn_of _ (by decide +kernel)) ggX8_soonest_X8_numberOfKeeping
theorem dX8_soonest_0 : decode cX8_soonest 0 = .ok (.aload_n 0, 1) := by decide +kernel
theorem dX8_soonest_1 : decode cX8_soonest 1 = .ok (.iload_n 1, 1) := by decide +kernel
theorem dX8_soonest_2 : decode cX8_soonest 2 = .ok (.iload_n 2, 1) := by decide +kernel
theorem dX8_soonest_3 : decode cX8_soonest 3 = .ok (.invokevirtual 140, 3) := by decide +kernel
theorem dX8_soonest_6 : decode cX8_soonest 6 = .ok (.istore_n 3, 1) := by decide +kernel
theorem dX8_soonest_7 : decode cX8_soonest 7 = .ok (.iload_n 3, 1) := by decide +kernel
theorem dX8_soonest_8 : decode cX8_soonest 8 = .ok (.ifCond .eq 5, 3) := by decide +kernel
theorem dX8_soonest_11 : decode cX8_soonest 11 = .ok (.iload_n 3, 1) := by decide +kernel
theorem dX8_soonest_12 : decode cX8_soonest 12 = .ok (.ireturn, 1) := by decide +kernel
theorem dX8_soonest_13 : decode cX8_soonest 13 = .ok (.aload_n 0, 1) := by decide +kernel
theorem dX8_soonest_14 : decode cX8_soonest 14 = .ok (.invokevirtual 143, 3) := by decide +kernel
theorem dX8_soonest_17 : decode cX8_soonest 17 = .ok (.aload_n 0, 1) := by decide +kernel
theorem dX8_soonest_18 : decode cX8_soonest 18 = .ok (.aload_n 0, 1) := by decide +kernel
theorem dX8_soonest_19 : decode cX8_soonest 19 = .ok (.getfield 42, 3) := by decide +kernel
theorem dX8_soonest_22 : decode cX8_soonest 22 = .ok (.iload_n 1, 1) := by decide +kernel
theorem dX8_soonest_23 : decode cX8_soonest 23 = .ok (.iload_n 2, 1) := by decide +kernel
theorem dX8_soonest_24 : decode cX8_soonest 24 = .ok (.invokevirtual 146, 3) := by decide +kernel
theorem dX8_soonest_27 : decode cX8_soonest 27 = .ok (.ireturn, 1) := by decide +kernel
set_option maxRecDepth 20000 in
theorem ggX8_plan_X8_refusalOfKeeping : GoodIn wsX8_plan wsX8_refusalOfKeeping := goodIn_r _ [6, 7, 8, 9, 10, 11, 12, 13, 14, 15, 16, 5, 17, 18, 19, 20, 21, 22, 23, 24, 25, 26, 27, 28, 29, 30, 31, 32, 33, 34, 35, 36, 37, 38, 39, 40, 41, 42, 43, 44, 45, 46, 179, 180, 181, 182, 183, 184, 185, 186, 187, 188, 189, 190, 191, 192, 193, 194, 195] (by decide +kernel) (by decide +kernel)
set_option maxRecDepth 20000 in
theorem gX8_plan_X8_refusalOfKeeping : GoodIn wsX8_plan (wsV RX8 140 RX8 yX8_refusalOfKeeping wsX8_refusalOfKeeping) := goodIn_app (goodIn_of _ (by decide +kernel)) ggX8_plan_X8_refusalOfKeeping
set_option maxRecDepth 20000 in
theorem ggX8_plan_X8_standKeepings : GoodIn wsX8_plan wsX8_standKeepings := goodIn_r _ [50, 51, 52, 53, 1, 54, 55, 56, 57, 58, 59, 60, 61, 62, 63, 64, 20, 21, 11, 22, 13, 65, 24, 25, 26, 27, 28, 66, 67, 68, 69, 70, 71, 72, 73, 74, 75, 76, 77, 78, 79, 80, 81, 82, 83, 84, 85, 86, 41, 42, 43, 44, 45, 46, 87, 88, 89, 90, 91, 92, 93, 94, 95, 96, 97, 98, 99, 30, 31, 32, 33, 34, 35, 36, 37, 38, 39, 40, 100, 101, 102, 103, 104, 5, 105, 106, 107, 108, 109, 110, 111, 112, 113, 114, 115, 116, 117, 118, 119, 120, 121, 122, 123, 124, 125, 126, 127, 128, 129, 130, 131, 132, 133, 134, 135, 136, 137, 138, 139, 140, 141, 142, 143, 144, 145, 146, 147, 148, 149, 150, 151, 152, 153, 154, 155, 179, 180, 181, 182, 183, 184, 185, 186, 187, 196, 197, 198, 199, 200, 201, 202, 203, 204, 205, 206, 188, 189, 190, 191, 192, 193, 207, 208, 209, 210, 194, 195] (by decide +kernel) (by decide +kernel)
set_option maxRecDepth 20000 in
theorem gX8_plan_X8_standKeepings : GoodIn wsX8_plan (wsV RX8 143 RX8 yX8_standKeepings wsX8_standKeepings) := goodIn_app (goodIn_of _ (by decide +kernel)) ggX8_plan_X8_standKeepings
set_option maxRecDepth 20000 in
theorem ggX8_plan_X8_numberOfKeeping : GoodIn wsX8_plan wsX8_numberOfKeeping := goodIn_r _ [159, 18, 160, 161, 162, 163, 58, 164, 61, 165, 166, 167, 168, 169, 170, 62, 171, 172, 173, 174, 175, 176, 63, 177, 178, 36, 37, 32, 38, 39, 40, 41, 42, 43, 44, 45, 46, 179, 180, 181, 182, 183, 184, 185, 186, 187, 196, 197, 198, 199, 200, 201, 202, 203, 204, 205, 206, 194, 195] (by decide +kernel) (by decide +kernel)
set_option maxRecDepth 20000 in
theorem gX8_plan_X8_numberOfKeeping : GoodIn wsX8_plan (wsV RX8 146 RX8 yX8_numberOfKeeping wsX8_numberOfKeeping) := goodIn_app (goodIn_of _ (by decide +kernel)) ggX8_plan_X8_numberOfKeeping
theorem dX8_plan_0 : decode cX8_plan 0 = .ok (.aload_n 0, 1) := by decide +kernel
theorem dX8_plan_1 : decode cX8_plan 1 = .ok (.iload_n 1, 1) := by decide +kernel
theorem dX8_plan_2 : decode cX8_plan 2 = .ok (.iload_n 2, 1) := by decide +kernel
theorem dX8_plan_3 : decode cX8_plan 3 = .ok (.invokevirtual 140, 3) := by decide +kernel
theorem dX8_plan_6 : decode cX8_plan 6 = .ok (.istore_n 3, 1) := by decide +kernel
theorem dX8_plan_7 : decode cX8_plan 7 = .ok (.iload_n 3, 1) := by decide +kernel
theorem dX8_plan_8 : decode cX8_plan 8 = .ok (.ifCond .eq 5, 3) := by decide +kernel
theorem dX8_plan_11 : decode cX8_plan 11 = .ok (.iload_n 3, 1) := by decide +kernel
theorem dX8_plan_12 : decode cX8_plan 12 = .ok (.ireturn, 1) := by decide +kernel
theorem dX8_plan_13 : decode cX8_plan 13 = .ok (.aload_n 0, 1) := by decide +kernel
theorem dX8_plan_14 : decode cX8_plan 14 = .ok (.invokevirtual 143, 3) := by decide +kernel
theorem dX8_plan_17 : decode cX8_plan 17 = .ok (.aload_n 0, 1) := by decide +kernel
theorem dX8_plan_18 : decode cX8_plan 18 = .ok (.aload_n 0, 1) := by decide +kernel
theorem dX8_plan_19 : decode cX8_plan 19 = .ok (.getfield 51, 3) := by decide +kernel
theorem dX8_plan_22 : decode cX8_plan 22 = .ok (.iload_n 1, 1) := by decide +kernel
theorem dX8_plan_23 : decode cX8_plan 23 = .ok (.iload_n 2, 1) := by decide +kernel
theorem dX8_plan_24 : decode cX8_plan 24 = .ok (.invokevirtual 146, 3) := by decide +kernel
theorem dX8_plan_27 : decode cX8_plan 27 = .ok (.ireturn, 1) := by decide +kernel
set_option maxRecDepth 20000 in
theorem ggX8_cost_X8_canKeep : GoodIn wsX8_cost wsX8_canKeep := goodIn_r _ [5, 6, 7, 8, 9, 10, 11, 12, 13, 14, 15, 4, 16, 17, 18, 19, 20, 21, 22, 23, 24, 25, 26, 27, 28, 29, 30, 31, 32, 33, 34, 35, 36, 37, 38, 39, 40, 41, 176, 177, 178, 179, 180, 181, 182, 183, 184, 185, 186, 187, 188, 189, 190, 191, 192] (by decide +kernel) (by decide +kernel)
set_option maxRecDepth 20000 in
theorem gX8_cost_X8_canKeep : GoodIn wsX8_cost (wsV RX8 150 RX8 yX8_canKeep wsX8_canKeep) := goodIn_app (goodIn_of _ (by decide +kernel)) ggX8_cost_X8_canKeep
set_option maxRecDepth 20000 in
theorem ggX8_cost_X8_standKeepings : GoodIn wsX8_cost wsX8_standKeepings := goodIn_r _ [45, 46, 47, 48, 49, 50, 51, 52, 53, 54, 55, 56, 57, 58, 59, 60, 8, 9, 10, 11, 12, 61, 19, 20, 21, 22, 23, 62, 63, 64, 65, 66, 67, 68, 69, 70, 71, 72, 73, 74, 75, 76, 77, 78, 79, 80, 81, 82, 36, 37, 38, 39, 40, 41, 83, 84, 85, 86, 87, 88, 89, 90, 91, 92, 93, 94, 95, 25, 26, 27, 28, 29, 30, 31, 32, 33, 34, 35, 96, 97, 98, 99, 100, 4, 101, 102, 103, 104, 105, 106, 107, 108, 109, 110, 111, 112, 113, 114, 115, 116, 117, 118, 119, 120, 121, 122, 123, 124, 125, 126, 127, 128, 129, 130, 131, 132, 133, 134, 135, 136, 137, 138, 139, 140, 141, 142, 143, 144, 145, 146, 147, 148, 149, 150, 151, 176, 177, 178, 179, 180, 181, 182, 183, 184, 193, 194, 195, 196, 197, 198, 199, 200, 201, 202, 203, 185, 186, 187, 188, 189, 190, 204, 205, 206, 207, 191, 192] (by decide +kernel) (by decide +kernel)
set_option maxRecDepth 20000 in
theorem gX8_cost_X8_standKeepings : GoodIn wsX8_cost (wsV RX8 143 RX8 yX8_standKeepings wsX8_standKeepings) := goodIn_app (goodIn_of _ (by decide +kernel)) ggX8_cost_X8_standKeepings
set_option maxRecDepth 20000 in
theorem ggX8_cost_X8_numberOfCost : GoodIn wsX8_cost wsX8_numberOfCost := goodIn_r _ [155, 47, 49, 17, 6, 156, 157, 158, 159, 54, 160, 56, 161, 58, 60, 8, 9, 10, 11, 12, 162, 31, 32, 27, 33, 34, 35, 36, 37, 38, 39, 40, 41, 163, 164, 165, 166, 167, 111, 19, 20, 21, 22, 23, 168, 169, 170, 171, 172, 173, 174, 175, 176, 177, 178, 179, 180, 181, 182, 183, 184, 193, 194, 195, 196, 197, 198, 199, 200, 201, 202, 203, 185, 186, 187, 188, 189, 190, 191, 192] (by decide +kernel) (by decide +kernel)
set_option maxRecDepth 20000 in
theorem gX8_cost_X8_numberOfCost : GoodIn wsX8_cost (wsV RX8 153 RX8 yX8_numberOfCost wsX8_numberOfCost) := goodIn_app (goodIn_of _ (by decide +kernel)) ggX8_cost_X8_numberOfCost
theorem dX8_cost_0 : decode cX8_cost 0 = .ok (.iload_n 1, 1) := by decide +kernel
theorem dX8_cost_1 : decode cX8_cost 1 = .ok (.ifCond .lt 8, 3) := by decide +kernel
theorem dX8_cost_4 : decode cX8_cost 4 = .ok (.iload_n 1, 1) := by decide +kernel
theorem dX8_cost_5 : decode cX8_cost 5 = .ok (.iconst 5, 1) := by decide +kernel
theorem dX8_cost_6 : decode cX8_cost 6 = .ok (.if_icmp .lt 7, 3) := by decide +kernel
theorem dX8_cost_9 : decode cX8_cost 9 = .ok (.sipush (-1002), 3) := by decide +kernel
theorem dX8_cost_12 : decode cX8_cost 12 = .ok (.ireturn, 1) := by decide +kernel
theorem dX8_cost_13 : decode cX8_cost 13 = .ok (.aload_n 0, 1) := by decide +kernel
theorem dX8_cost_14 : decode cX8_cost 14 = .ok (.invokevirtual 150, 3) := by decide +kernel
theorem dX8_cost_17 : decode cX8_cost 17 = .ok (.ifCond .ne 7, 3) := by decide +kernel
theorem dX8_cost_20 : decode cX8_cost 20 = .ok (.sipush (-1003), 3) := by decide +kernel
theorem dX8_cost_23 : decode cX8_cost 23 = .ok (.ireturn, 1) := by decide +kernel
theorem dX8_cost_24 : decode cX8_cost 24 = .ok (.aload_n 0, 1) := by decide +kernel
theorem dX8_cost_25 : decode cX8_cost 25 = .ok (.invokevirtual 143, 3) := by decide +kernel
theorem dX8_cost_28 : decode cX8_cost 28 = .ok (.aload_n 0, 1) := by decide +kernel
theorem dX8_cost_29 : decode cX8_cost 29 = .ok (.iload_n 1, 1) := by decide +kernel
theorem dX8_cost_30 : decode cX8_cost 30 = .ok (.invokevirtual 153, 3) := by decide +kernel
theorem dX8_cost_33 : decode cX8_cost 33 = .ok (.ireturn, 1) := by decide +kernel
set_option maxRecDepth 20000 in
theorem ggX8_mean_X8_canKeep : GoodIn wsX8_mean wsX8_canKeep := goodIn_r _ [6, 7, 8, 9, 10, 11, 12, 13, 14, 15, 16, 5, 17, 18, 19, 20, 21, 22, 23, 24, 25, 26, 27, 28, 29, 30, 31, 32, 33, 34, 35, 36, 37, 38, 39, 40, 41, 42, 172, 173, 174, 175, 176, 177, 178, 179, 180, 181, 182, 183, 184, 185, 186, 187, 188] (by decide +kernel) (by decide +kernel)
set_option maxRecDepth 20000 in
theorem gX8_mean_X8_canKeep : GoodIn wsX8_mean (wsV RX8 150 RX8 yX8_canKeep wsX8_canKeep) := goodIn_app (goodIn_of _ (by decide +kernel)) ggX8_mean_X8_canKeep
set_option maxRecDepth 20000 in
theorem ggX8_mean_X8_standKeepings : GoodIn wsX8_mean wsX8_standKeepings := goodIn_r _ [46, 47, 48, 49, 50, 51, 52, 53, 54, 55, 56, 57, 58, 59, 60, 61, 9, 10, 11, 12, 13, 62, 20, 21, 22, 23, 24, 63, 64, 65, 66, 67, 68, 69, 70, 71, 72, 73, 74, 75, 76, 77, 78, 79, 80, 81, 82, 83, 37, 38, 39, 40, 41, 42, 84, 85, 86, 87, 88, 89, 90, 91, 92, 93, 94, 95, 96, 26, 27, 28, 29, 30, 31, 32, 33, 34, 35, 36, 97, 98, 99, 100, 101, 5, 102, 103, 104, 105, 106, 107, 108, 109, 110, 111, 112, 113, 114, 115, 116, 117, 118, 119, 120, 121, 122, 123, 124, 125, 126, 127, 128, 129, 130, 131, 132, 133, 134, 135, 136, 137, 138, 139, 140, 141, 142, 143, 144, 145, 146, 147, 148, 149, 150, 151, 152, 172, 173, 174, 175, 176, 177, 178, 179, 180, 189, 190, 191, 192, 193, 194, 195, 196, 197, 198, 199, 181, 182, 183, 184, 185, 186, 200, 201, 202, 203, 187, 188] (by decide +kernel) (by decide +kernel)
set_option maxRecDepth 20000 in
theorem gX8_mean_X8_standKeepings : GoodIn wsX8_mean (wsV RX8 143 RX8 yX8_standKeepings wsX8_standKeepings) := goodIn_app (goodIn_of _ (by decide +kernel)) ggX8_mean_X8_standKeepings
set_option maxRecDepth 20000 in
theorem ggX8_mean_X8_bitsOfMean : GoodIn wsX8_mean wsX8_bitsOfMean := goodIn_r _ [156, 7, 48, 157, 8, 9, 10, 11, 12, 13, 158, 159, 160, 161, 55, 162, 57, 163, 59, 61, 164, 32, 33, 28, 34, 35, 36, 37, 38, 39, 40, 41, 42, 165, 166, 167, 5, 168, 169, 170, 171, 172, 173, 174, 175, 176, 177, 178, 179, 180, 181, 182, 183, 184, 185, 186, 189, 190, 191, 192, 193, 194, 195, 196, 197, 198, 199, 187, 188] (by decide +kernel) (by decide +kernel)
set_option maxRecDepth 20000 in
theorem gX8_mean_X8_bitsOfMean : GoodIn wsX8_mean (wsV RX8 158 RX8 yX8_bitsOfMean wsX8_bitsOfMean) := goodIn_app (goodIn_of _ (by decide +kernel)) ggX8_mean_X8_bitsOfMean
theorem dX8_mean_0 : decode cX8_mean 0 = .ok (.aload_n 0, 1) := by decide +kernel
theorem dX8_mean_1 : decode cX8_mean 1 = .ok (.invokevirtual 150, 3) := by decide +kernel
theorem dX8_mean_4 : decode cX8_mean 4 = .ok (.ifCond .ne 7, 3) := by decide +kernel
theorem dX8_mean_7 : decode cX8_mean 7 = .ok (.ldc2_w 156, 3) := by decide +kernel
theorem dX8_mean_10 : decode cX8_mean 10 = .ok (.lreturn, 1) := by decide +kernel
theorem dX8_mean_11 : decode cX8_mean 11 = .ok (.aload_n 0, 1) := by decide +kernel
theorem dX8_mean_12 : decode cX8_mean 12 = .ok (.invokevirtual 143, 3) := by decide +kernel
theorem dX8_mean_15 : decode cX8_mean 15 = .ok (.aload_n 0, 1) := by decide +kernel
theorem dX8_mean_16 : decode cX8_mean 16 = .ok (.invokevirtual 158, 3) := by decide +kernel
theorem dX8_mean_19 : decode cX8_mean 19 = .ok (.lreturn, 1) := by decide +kernel
set_option maxRecDepth 20000 in
theorem ggX8_ratio_X8_canKeep : GoodIn wsX8_ratio wsX8_canKeep := goodIn_r _ [5, 6, 7, 8, 9, 10, 11, 12, 13, 14, 15, 4, 16, 17, 18, 19, 20, 21, 22, 23, 24, 25, 26, 27, 28, 29, 30, 31, 32, 33, 34, 35, 36, 37, 38, 39, 40, 41, 168, 169, 170, 171, 172, 173, 174, 175, 176, 177, 178, 179, 180, 181, 182, 183, 184] (by decide +kernel) (by decide +kernel)
set_option maxRecDepth 20000 in
theorem gX8_ratio_X8_canKeep : GoodIn wsX8_ratio (wsV RX8 150 RX8 yX8_canKeep wsX8_canKeep) := goodIn_app (goodIn_of _ (by decide +kernel)) ggX8_ratio_X8_canKeep
set_option maxRecDepth 20000 in
theorem ggX8_ratio_X8_standKeepings : GoodIn wsX8_ratio wsX8_standKeepings := goodIn_r _ [45, 46, 47, 48, 49, 50, 51, 52, 53, 54, 55, 56, 57, 58, 59, 60, 8, 9, 10, 11, 12, 61, 19, 20, 21, 22, 23, 62, 63, 64, 65, 66, 67, 68, 69, 70, 71, 72, 73, 74, 75, 76, 77, 78, 79, 80, 81, 82, 36, 37, 38, 39, 40, 41, 83, 84, 85, 86, 87, 88, 89, 90, 91, 92, 93, 94, 95, 25, 26, 27, 28, 29, 30, 31, 32, 33, 34, 35, 96, 97, 98, 99, 100, 4, 101, 102, 103, 104, 105, 106, 107, 108, 109, 110, 111, 112, 113, 114, 115, 116, 117, 118, 119, 120, 121, 122, 123, 124, 125, 126, 127, 128, 129, 130, 131, 132, 133, 134, 135, 136, 137, 138, 139, 140, 141, 142, 143, 144, 145, 146, 147, 148, 149, 150, 151, 168, 169, 170, 171, 172, 173, 174, 175, 176, 185, 186, 187, 188, 189, 190, 191, 192, 193, 194, 195, 177, 178, 179, 180, 181, 182, 196, 197, 198, 199, 183, 184] (by decide +kernel) (by decide +kernel)
set_option maxRecDepth 20000 in
theorem gX8_ratio_X8_standKeepings : GoodIn wsX8_ratio (wsV RX8 143 RX8 yX8_standKeepings wsX8_standKeepings) := goodIn_app (goodIn_of _ (by decide +kernel)) ggX8_ratio_X8_standKeepings
set_option maxRecDepth 20000 in
theorem ggX8_ratio_X8_bitsOfRatio : GoodIn wsX8_ratio wsX8_bitsOfRatio := goodIn_r _ [155, 49, 47, 156, 157, 158, 159, 54, 160, 56, 161, 58, 60, 8, 9, 10, 11, 12, 162, 31, 32, 27, 33, 34, 35, 36, 37, 38, 39, 40, 41, 163, 164, 165, 4, 166, 167, 168, 169, 170, 171, 172, 173, 174, 175, 176, 185, 186, 187, 188, 189, 190, 191, 192, 193, 194, 195, 177, 178, 179, 180, 181, 182, 183, 184] (by decide +kernel) (by decide +kernel)
set_option maxRecDepth 20000 in
theorem gX8_ratio_X8_bitsOfRatio : GoodIn wsX8_ratio (wsV RX8 162 RX8 yX8_bitsOfRatio wsX8_bitsOfRatio) := goodIn_app (goodIn_of _ (by decide +kernel)) ggX8_ratio_X8_bitsOfRatio
theorem dX8_ratio_0 : decode cX8_ratio 0 = .ok (.aload_n 0, 1) := by decide +kernel
theorem dX8_ratio_1 : decode cX8_ratio 1 = .ok (.invokevirtual 150, 3) := by decide +kernel
theorem dX8_ratio_4 : decode cX8_ratio 4 = .ok (.ifCond .ne 7, 3) := by decide +kernel
theorem dX8_ratio_7 : decode cX8_ratio 7 = .ok (.sipush (-1003), 3) := by decide +kernel
theorem dX8_ratio_10 : decode cX8_ratio 10 = .ok (.ireturn, 1) := by decide +kernel
theorem dX8_ratio_11 : decode cX8_ratio 11 = .ok (.aload_n 0, 1) := by decide +kernel
theorem dX8_ratio_12 : decode cX8_ratio 12 = .ok (.invokevirtual 143, 3) := by decide +kernel
theorem dX8_ratio_15 : decode cX8_ratio 15 = .ok (.aload_n 0, 1) := by decide +kernel
theorem dX8_ratio_16 : decode cX8_ratio 16 = .ok (.invokevirtual 162, 3) := by decide +kernel
theorem dX8_ratio_19 : decode cX8_ratio 19 = .ok (.ireturn, 1) := by decide +kernel
set_option maxRecDepth 20000 in
theorem ggX8_pair_X8_canKeep : GoodIn wsX8_pair wsX8_canKeep := goodIn_r _ [5, 6, 7, 8, 9, 10, 11, 12, 13, 14, 15, 4, 16, 17, 18, 19, 20, 21, 22, 23, 24, 25, 26, 27, 28, 29, 30, 31, 32, 33, 34, 35, 36, 37, 38, 39, 40, 41, 138, 139, 140, 141, 142, 143, 144, 145, 146, 147, 148, 149, 150, 151, 152, 153, 154] (by decide +kernel) (by decide +kernel)
set_option maxRecDepth 20000 in
theorem gX8_pair_X8_canKeep : GoodIn wsX8_pair (wsV RX8 150 RX8 yX8_canKeep wsX8_canKeep) := goodIn_app (goodIn_of _ (by decide +kernel)) ggX8_pair_X8_canKeep
set_option maxRecDepth 20000 in
theorem ggX8_pair_X8_standExchange : GoodIn wsX8_pair wsX8_standExchange := goodIn_r _ [45, 46, 47, 48, 49, 50, 51, 52, 53, 54, 55, 56, 57, 58, 59, 60, 61, 62, 63, 64, 65, 66, 67, 68, 69, 70, 8, 9, 10, 11, 12, 71, 19, 20, 21, 22, 23, 72, 73, 74, 75, 76, 77, 78, 79, 80, 81, 82, 83, 84, 36, 37, 38, 39, 40, 41, 85, 86, 87, 88, 25, 26, 27, 28, 29, 30, 31, 32, 33, 34, 35, 89, 90, 91, 92, 93, 94, 95, 96, 97, 98, 99, 100, 101, 102, 4, 103, 104, 105, 106, 107, 108, 109, 110, 111, 112, 113, 114, 115, 116, 117, 138, 139, 140, 141, 142, 143, 144, 145, 146, 155, 156, 157, 158, 159, 160, 161, 162, 163, 164, 147, 148, 149, 150, 151, 152, 153, 154] (by decide +kernel) (by decide +kernel)
set_option maxRecDepth 20000 in
theorem gX8_pair_X8_standExchange : GoodIn wsX8_pair (wsV RX8 165 RX8 yX8_standExchange wsX8_standExchange) := goodIn_app (goodIn_of _ (by decide +kernel)) ggX8_pair_X8_standExchange
set_option maxRecDepth 20000 in
theorem ggX8_pair_X8_numberOfExchange : GoodIn wsX8_pair wsX8_numberOfExchange := goodIn_r _ [121, 47, 122, 123, 124, 51, 125, 53, 126, 127, 128, 129, 116, 130, 131, 132, 133, 117, 134, 135, 136, 137, 55, 138, 139, 140, 141, 142, 143, 144, 145, 146, 155, 156, 157, 158, 159, 160] (by decide +kernel) (by decide +kernel)
set_option maxRecDepth 20000 in
theorem gX8_pair_X8_numberOfExchange : GoodIn wsX8_pair (wsV RX8 168 RX8 yX8_numberOfExchange wsX8_numberOfExchange) := goodIn_app (goodIn_of _ (by decide +kernel)) ggX8_pair_X8_numberOfExchange
theorem dX8_pair_0 : decode cX8_pair 0 = .ok (.iload_n 1, 1) := by decide +kernel
theorem dX8_pair_1 : decode cX8_pair 1 = .ok (.ifCond .lt 8, 3) := by decide +kernel
theorem dX8_pair_4 : decode cX8_pair 4 = .ok (.iload_n 1, 1) := by decide +kernel
theorem dX8_pair_5 : decode cX8_pair 5 = .ok (.iconst 3, 1) := by decide +kernel
theorem dX8_pair_6 : decode cX8_pair 6 = .ok (.if_icmp .lt 7, 3) := by decide +kernel
theorem dX8_pair_9 : decode cX8_pair 9 = .ok (.sipush (-1002), 3) := by decide +kernel
theorem dX8_pair_12 : decode cX8_pair 12 = .ok (.ireturn, 1) := by decide +kernel
theorem dX8_pair_13 : decode cX8_pair 13 = .ok (.aload_n 0, 1) := by decide +kernel
theorem dX8_pair_14 : decode cX8_pair 14 = .ok (.invokevirtual 150, 3) := by decide +kernel
theorem dX8_pair_17 : decode cX8_pair 17 = .ok (.ifCond .ne 7, 3) := by decide +kernel
theorem dX8_pair_20 : decode cX8_pair 20 = .ok (.sipush (-1003), 3) := by decide +kernel
theorem dX8_pair_23 : decode cX8_pair 23 = .ok (.ireturn, 1) := by decide +kernel
theorem dX8_pair_24 : decode cX8_pair 24 = .ok (.aload_n 0, 1) := by decide +kernel
theorem dX8_pair_25 : decode cX8_pair 25 = .ok (.invokevirtual 165, 3) := by decide +kernel
theorem dX8_pair_28 : decode cX8_pair 28 = .ok (.aload_n 0, 1) := by decide +kernel
theorem dX8_pair_29 : decode cX8_pair 29 = .ok (.iload_n 1, 1) := by decide +kernel
theorem dX8_pair_30 : decode cX8_pair 30 = .ok (.invokevirtual 168, 3) := by decide +kernel
theorem dX8_pair_33 : decode cX8_pair 33 = .ok (.ireturn, 1) := by decide +kernel
set_option maxRecDepth 20000 in
theorem ggX8_better_X8_canKeep : GoodIn wsX8_better wsX8_canKeep := goodIn_r _ [6, 7, 8, 9, 10, 11, 12, 13, 14, 15, 16, 5, 17, 18, 19, 20, 21, 22, 23, 24, 25, 26, 27, 28, 29, 30, 31, 32, 33, 34, 35, 36, 37, 38, 39, 40, 41, 42, 149, 150, 151, 152, 153, 154, 155, 156, 157, 158, 159, 160, 161, 162, 163, 164, 165] (by decide +kernel) (by decide +kernel)
set_option maxRecDepth 20000 in
theorem gX8_better_X8_canKeep : GoodIn wsX8_better (wsV RX8 150 RX8 yX8_canKeep wsX8_canKeep) := goodIn_app (goodIn_of _ (by decide +kernel)) ggX8_better_X8_canKeep
set_option maxRecDepth 20000 in
theorem ggX8_better_X8_standExchange : GoodIn wsX8_better wsX8_standExchange := goodIn_r _ [46, 47, 1, 48, 49, 50, 51, 52, 53, 54, 55, 56, 57, 58, 59, 60, 61, 62, 63, 64, 65, 66, 67, 68, 69, 70, 9, 10, 11, 12, 13, 71, 20, 21, 22, 23, 24, 72, 73, 74, 75, 76, 77, 78, 79, 80, 81, 82, 83, 84, 37, 38, 39, 40, 41, 42, 85, 86, 87, 88, 26, 27, 28, 29, 30, 31, 32, 33, 34, 35, 36, 89, 90, 91, 92, 93, 94, 95, 96, 97, 98, 99, 100, 101, 102, 5, 103, 104, 105, 106, 107, 108, 109, 110, 111, 112, 113, 114, 115, 116, 117, 149, 150, 151, 152, 153, 154, 155, 156, 157, 166, 167, 168, 169, 170, 171, 172, 173, 174, 175, 158, 159, 160, 161, 162, 163, 164, 165] (by decide +kernel) (by decide +kernel)
set_option maxRecDepth 20000 in
theorem gX8_better_X8_standExchange : GoodIn wsX8_better (wsV RX8 165 RX8 yX8_standExchange wsX8_standExchange) := goodIn_app (goodIn_of _ (by decide +kernel)) ggX8_better_X8_standExchange
set_option maxRecDepth 20000 in
theorem ggX8_better_X0_isFound : GoodIn wsX8_better wsX0_isFound := goodIn_r _ [121, 53, 166, 167, 168, 169, 170, 171] (by decide +kernel) (by decide +kernel)
set_option maxRecDepth 20000 in
theorem gX8_better_X0_isFound : GoodIn wsX8_better (wsV RX8 171 RX0 yX0_isFound wsX0_isFound) := goodIn_app (goodIn_of _ (by decide +kernel)) ggX8_better_X0_isFound
set_option maxRecDepth 20000 in
theorem ggX8_better_X0_first : GoodIn wsX8_better wsX0_first := goodIn_r _ [125, 116, 166, 167, 168, 169, 170, 171] (by decide +kernel) (by decide +kernel)
set_option maxRecDepth 20000 in
theorem gX8_better_X0_first : GoodIn wsX8_better (wsV RX8 174 RX0 yX0_first wsX0_first) := goodIn_app (goodIn_of _ (by decide +kernel)) ggX8_better_X0_first
set_option maxRecDepth 20000 in
theorem ggX8_better_X0_second : GoodIn wsX8_better wsX0_second := goodIn_r _ [129, 117, 166, 167, 168, 169, 170, 171] (by decide +kernel) (by decide +kernel)
set_option maxRecDepth 20000 in
theorem gX8_better_X0_second : GoodIn wsX8_better (wsV RX8 177 RX0 yX0_second wsX0_second) := goodIn_app (goodIn_of _ (by decide +kernel)) ggX8_better_X0_second
set_option maxRecDepth 20000 in
theorem ggX8_better_X8_changeOrder : GoodIn wsX8_better wsX8_changeOrder := goodIn_r _ [133, 7, 134, 109, 110, 11, 111, 24, 135, 136, 137, 138, 139, 140, 141, 142, 5, 143, 144, 47, 149, 150, 151, 152, 153, 154, 155, 156, 157, 158, 159, 160, 161, 162, 163] (by decide +kernel) (by decide +kernel)
set_option maxRecDepth 20000 in
theorem gX8_better_X8_changeOrder : GoodIn wsX8_better (wsV RX8 123 RX8 yX8_changeOrder wsX8_changeOrder) := goodIn_app (goodIn_of _ (by decide +kernel)) ggX8_better_X8_changeOrder
set_option maxRecDepth 20000 in
theorem ggX8_better_X0_leastThen : GoodIn wsX8_better wsX0_leastThen := goodIn_r _ [148, 55, 166, 167, 168, 169, 170, 171] (by decide +kernel) (by decide +kernel)
set_option maxRecDepth 20000 in
theorem gX8_better_X0_leastThen : GoodIn wsX8_better (wsV RX8 180 RX0 yX0_leastThen wsX0_leastThen) := goodIn_app (goodIn_of _ (by decide +kernel)) ggX8_better_X0_leastThen
theorem dX8_better_0 : decode cX8_better 0 = .ok (.aload_n 0, 1) := by decide +kernel
theorem dX8_better_1 : decode cX8_better 1 = .ok (.invokevirtual 150, 3) := by decide +kernel
theorem dX8_better_4 : decode cX8_better 4 = .ok (.ifCond .ne 7, 3) := by decide +kernel
theorem dX8_better_7 : decode cX8_better 7 = .ok (.sipush (-1003), 3) := by decide +kernel
theorem dX8_better_10 : decode cX8_better 10 = .ok (.ireturn, 1) := by decide +kernel
theorem dX8_better_11 : decode cX8_better 11 = .ok (.aload_n 0, 1) := by decide +kernel
theorem dX8_better_12 : decode cX8_better 12 = .ok (.invokevirtual 165, 3) := by decide +kernel
theorem dX8_better_15 : decode cX8_better 15 = .ok (.aload_n 0, 1) := by decide +kernel
theorem dX8_better_16 : decode cX8_better 16 = .ok (.getfield 59, 3) := by decide +kernel
theorem dX8_better_19 : decode cX8_better 19 = .ok (.invokevirtual 171, 3) := by decide +kernel
theorem dX8_better_22 : decode cX8_better 22 = .ok (.ifCond .ne 5, 3) := by decide +kernel
theorem dX8_better_25 : decode cX8_better 25 = .ok (.iconst (-1), 1) := by decide +kernel
theorem dX8_better_26 : decode cX8_better 26 = .ok (.ireturn, 1) := by decide +kernel
theorem dX8_better_27 : decode cX8_better 27 = .ok (.aload_n 0, 1) := by decide +kernel
theorem dX8_better_28 : decode cX8_better 28 = .ok (.aload_n 0, 1) := by decide +kernel
theorem dX8_better_29 : decode cX8_better 29 = .ok (.getfield 59, 3) := by decide +kernel
theorem dX8_better_32 : decode cX8_better 32 = .ok (.invokevirtual 174, 3) := by decide +kernel
theorem dX8_better_35 : decode cX8_better 35 = .ok (.aload_n 0, 1) := by decide +kernel
theorem dX8_better_36 : decode cX8_better 36 = .ok (.getfield 59, 3) := by decide +kernel
theorem dX8_better_39 : decode cX8_better 39 = .ok (.invokevirtual 177, 3) := by decide +kernel
theorem dX8_better_42 : decode cX8_better 42 = .ok (.invokevirtual 123, 3) := by decide +kernel
theorem dX8_better_45 : decode cX8_better 45 = .ok (.aload_n 0, 1) := by decide +kernel
theorem dX8_better_46 : decode cX8_better 46 = .ok (.getfield 59, 3) := by decide +kernel
theorem dX8_better_49 : decode cX8_better 49 = .ok (.invokevirtual 180, 3) := by decide +kernel
theorem dX8_better_52 : decode cX8_better 52 = .ok (.ireturn, 1) := by decide +kernel
set_option maxRecDepth 20000 in
theorem ggX8_count_X6_size : GoodIn wsX8_count wsX6_size := goodIn_r _ [8, 9, 78, 79, 80, 81, 82, 83] (by decide +kernel) (by decide +kernel)
set_option maxRecDepth 20000 in
theorem gX8_count_X6_size : GoodIn wsX8_count (wsV RX8 88 RX6 yX6_size wsX6_size) := goodIn_app (goodIn_of _ (by decide +kernel)) ggX8_count_X6_size
set_option maxRecDepth 20000 in
theorem ggX8_count_X4_length : GoodIn wsX8_count wsX4_length := goodIn_r _ [14, 15, 84, 85] (by decide +kernel) (by decide +kernel)
set_option maxRecDepth 20000 in
theorem gX8_count_X4_length : GoodIn wsX8_count (wsV RX8 71 RX4 yX4_length wsX4_length) := goodIn_app (goodIn_of _ (by decide +kernel)) ggX8_count_X4_length
set_option maxRecDepth 20000 in
theorem ggX8_count_X3_room : GoodIn wsX8_count wsX3_room := goodIn_r _ [20, 21, 86, 87] (by decide +kernel) (by decide +kernel)
set_option maxRecDepth 20000 in
theorem gX8_count_X3_room : GoodIn wsX8_count (wsV RX8 106 RX3 yX3_room wsX3_room) := goodIn_app (goodIn_of _ (by decide +kernel)) ggX8_count_X3_room
set_option maxRecDepth 20000 in
theorem ggX8_count_X3_bigTools : GoodIn wsX8_count wsX3_bigTools := goodIn_r _ [25, 26, 86, 87] (by decide +kernel) (by decide +kernel)
set_option maxRecDepth 20000 in
theorem gX8_count_X3_bigTools : GoodIn wsX8_count (wsV RX8 95 RX3 yX3_bigTools wsX3_bigTools) := goodIn_app (goodIn_of _ (by decide +kernel)) ggX8_count_X3_bigTools
set_option maxRecDepth 20000 in
theorem ggX8_count_X6_allBreaks : GoodIn wsX8_count wsX6_allBreaks := goodIn_r _ [30, 9, 31, 32, 33, 34, 35, 36, 37, 38, 78, 79, 80, 81, 82, 83] (by decide +kernel) (by decide +kernel)
set_option maxRecDepth 20000 in
theorem gX8_count_X6_allBreaks : GoodIn wsX8_count (wsV RX8 183 RX6 yX6_allBreaks wsX6_allBreaks) := goodIn_app (goodIn_of _ (by decide +kernel)) ggX8_count_X6_allBreaks
set_option maxRecDepth 20000 in
theorem ggX8_count_X6_changes : GoodIn wsX8_count wsX6_changes := goodIn_r _ [42, 43, 78, 79, 80, 81, 82, 83] (by decide +kernel) (by decide +kernel)
set_option maxRecDepth 20000 in
theorem gX8_count_X6_changes : GoodIn wsX8_count (wsV RX8 127 RX6 yX6_changes wsX6_changes) := goodIn_app (goodIn_of _ (by decide +kernel)) ggX8_count_X6_changes
set_option maxRecDepth 20000 in
theorem ggX8_count_X6_reads : GoodIn wsX8_count wsX6_reads := goodIn_r _ [47, 48, 78, 79, 80, 81, 82, 83] (by decide +kernel) (by decide +kernel)
set_option maxRecDepth 20000 in
theorem gX8_count_X6_reads : GoodIn wsX8_count (wsV RX8 186 RX6 yX6_reads wsX6_reads) := goodIn_app (goodIn_of _ (by decide +kernel)) ggX8_count_X6_reads
set_option maxRecDepth 20000 in
theorem ggX8_count_X8_isTooBig : GoodIn wsX8_count wsX8_isTooBig := goodIn_r _ [53, 1, 3, 4, 5, 6, 7, 8, 9, 54, 55, 56, 57, 58, 59, 60, 61, 62, 19, 63, 21, 64, 65, 66, 67, 26, 68, 33, 34, 35, 36, 37, 38, 69, 70, 71, 72, 73, 74, 75, 76, 77, 78, 79, 80, 81, 82, 83, 86, 87] (by decide +kernel) (by decide +kernel)
set_option maxRecDepth 20000 in
theorem gX8_count_X8_isTooBig : GoodIn wsX8_count (wsV RX8 189 RX8 yX8_isTooBig wsX8_isTooBig) := goodIn_app (goodIn_of _ (by decide +kernel)) ggX8_count_X8_isTooBig
theorem dX8_count_0 : decode cX8_count 0 = .ok (.iload_n 1, 1) := by decide +kernel
theorem dX8_count_1 : decode cX8_count 1 = .ok (.tableswitch 116 0 7 #[47, 55, 63, 71, 79, 87, 95, 103], 47) := by decide +kernel
theorem dX8_count_48 : decode cX8_count 48 = .ok (.aload_n 0, 1) := by decide +kernel
theorem dX8_count_49 : decode cX8_count 49 = .ok (.getfield 26, 3) := by decide +kernel
theorem dX8_count_52 : decode cX8_count 52 = .ok (.invokevirtual 88, 3) := by decide +kernel
theorem dX8_count_55 : decode cX8_count 55 = .ok (.ireturn, 1) := by decide +kernel
theorem dX8_count_56 : decode cX8_count 56 = .ok (.aload_n 0, 1) := by decide +kernel
theorem dX8_count_57 : decode cX8_count 57 = .ok (.getfield 12, 3) := by decide +kernel
theorem dX8_count_60 : decode cX8_count 60 = .ok (.invokevirtual 71, 3) := by decide +kernel
theorem dX8_count_63 : decode cX8_count 63 = .ok (.ireturn, 1) := by decide +kernel
theorem dX8_count_64 : decode cX8_count 64 = .ok (.aload_n 0, 1) := by decide +kernel
theorem dX8_count_65 : decode cX8_count 65 = .ok (.getfield 19, 3) := by decide +kernel
theorem dX8_count_68 : decode cX8_count 68 = .ok (.invokevirtual 106, 3) := by decide +kernel
theorem dX8_count_71 : decode cX8_count 71 = .ok (.ireturn, 1) := by decide +kernel
theorem dX8_count_72 : decode cX8_count 72 = .ok (.aload_n 0, 1) := by decide +kernel
theorem dX8_count_73 : decode cX8_count 73 = .ok (.getfield 19, 3) := by decide +kernel
theorem dX8_count_76 : decode cX8_count 76 = .ok (.invokevirtual 95, 3) := by decide +kernel
theorem dX8_count_79 : decode cX8_count 79 = .ok (.ireturn, 1) := by decide +kernel
theorem dX8_count_80 : decode cX8_count 80 = .ok (.aload_n 0, 1) := by decide +kernel
theorem dX8_count_81 : decode cX8_count 81 = .ok (.getfield 26, 3) := by decide +kernel
theorem dX8_count_84 : decode cX8_count 84 = .ok (.invokevirtual 183, 3) := by decide +kernel
theorem dX8_count_87 : decode cX8_count 87 = .ok (.ireturn, 1) := by decide +kernel
theorem dX8_count_88 : decode cX8_count 88 = .ok (.aload_n 0, 1) := by decide +kernel
theorem dX8_count_89 : decode cX8_count 89 = .ok (.getfield 26, 3) := by decide +kernel
theorem dX8_count_92 : decode cX8_count 92 = .ok (.invokevirtual 127, 3) := by decide +kernel
theorem dX8_count_95 : decode cX8_count 95 = .ok (.ireturn, 1) := by decide +kernel
theorem dX8_count_96 : decode cX8_count 96 = .ok (.aload_n 0, 1) := by decide +kernel
theorem dX8_count_97 : decode cX8_count 97 = .ok (.getfield 26, 3) := by decide +kernel
theorem dX8_count_100 : decode cX8_count 100 = .ok (.invokevirtual 186, 3) := by decide +kernel
theorem dX8_count_103 : decode cX8_count 103 = .ok (.ireturn, 1) := by decide +kernel
theorem dX8_count_104 : decode cX8_count 104 = .ok (.aload_n 0, 1) := by decide +kernel
theorem dX8_count_105 : decode cX8_count 105 = .ok (.invokevirtual 189, 3) := by decide +kernel
theorem dX8_count_108 : decode cX8_count 108 = .ok (.ifCond .eq 7, 3) := by decide +kernel
theorem dX8_count_111 : decode cX8_count 111 = .ok (.iconst 1, 1) := by decide +kernel
theorem dX8_count_112 : decode cX8_count 112 = .ok (.goto 4, 3) := by decide +kernel
theorem dX8_count_115 : decode cX8_count 115 = .ok (.iconst 0, 1) := by decide +kernel
theorem dX8_count_116 : decode cX8_count 116 = .ok (.ireturn, 1) := by decide +kernel
theorem dX8_count_117 : decode cX8_count 117 = .ok (.sipush (-1002), 3) := by decide +kernel
theorem dX8_count_120 : decode cX8_count 120 = .ok (.ireturn, 1) := by decide +kernel
set_option maxRecDepth 20000 in
theorem ggX8_digest_X8_digestOfRow : GoodIn wsX8_digest wsX8_digestOfRow := goodIn_r _ [8, 9, 3, 10, 11, 12, 13, 14, 15, 16, 17, 18, 7, 19, 20, 21, 22, 23, 24, 25, 26, 27, 28, 29, 30, 31, 32, 33, 34, 35, 36, 37, 38, 39, 40, 41, 42, 43, 44, 45, 46, 47, 48, 49, 50, 51, 52, 331, 332, 333, 334, 335, 336, 337, 338, 339, 340, 341, 342, 343, 344, 345] (by decide +kernel) (by decide +kernel)
set_option maxRecDepth 20000 in
theorem gX8_digest_X8_digestOfRow : GoodIn wsX8_digest (wsV RX8 194 RX8 yX8_digestOfRow wsX8_digestOfRow) := goodIn_app (goodIn_of _ (by decide +kernel)) ggX8_digest_X8_digestOfRow
set_option maxRecDepth 20000 in
theorem ggX8_digest_X8_canKeep : GoodIn wsX8_digest wsX8_canKeep := goodIn_r _ [56, 9, 10, 11, 12, 13, 14, 15, 57, 58, 59, 7, 60, 61, 24, 25, 26, 27, 28, 29, 62, 63, 64, 65, 66, 67, 68, 69, 70, 71, 72, 73, 74, 75, 76, 77, 78, 79, 331, 332, 333, 334, 335, 336, 337, 338, 339, 340, 341, 342, 343, 344, 345, 346, 347] (by decide +kernel) (by decide +kernel)
set_option maxRecDepth 20000 in
theorem gX8_digest_X8_canKeep : GoodIn wsX8_digest (wsV RX8 150 RX8 yX8_canKeep wsX8_canKeep) := goodIn_app (goodIn_of _ (by decide +kernel)) ggX8_digest_X8_canKeep
set_option maxRecDepth 20000 in
theorem ggX8_digest_X8_standKeepings : GoodIn wsX8_digest wsX8_standKeepings := goodIn_r _ [83, 84, 85, 86, 87, 88, 89, 90, 91, 92, 93, 94, 95, 96, 97, 98, 11, 12, 13, 14, 15, 99, 25, 26, 27, 28, 29, 100, 101, 102, 103, 104, 105, 106, 107, 108, 109, 110, 111, 112, 113, 114, 115, 116, 117, 118, 119, 120, 74, 75, 76, 77, 78, 79, 121, 122, 123, 124, 125, 126, 127, 128, 129, 130, 131, 132, 133, 63, 64, 65, 66, 67, 68, 69, 70, 71, 72, 73, 134, 135, 136, 137, 50, 7, 51, 138, 139, 140, 141, 142, 47, 48, 49, 38, 52, 143, 144, 145, 146, 147, 35, 36, 37, 148, 149, 150, 151, 152, 153, 154, 155, 156, 157, 158, 159, 160, 161, 162, 163, 164, 165, 166, 167, 168, 169, 170, 171, 172, 173, 174, 175, 176, 177, 178, 179, 331, 332, 333, 334, 335, 336, 337, 338, 339, 348, 349, 350, 351, 352, 353, 354, 355, 356, 357, 358, 340, 341, 342, 343, 344, 345, 359, 360, 361, 362, 346, 347] (by decide +kernel) (by decide +kernel)
set_option maxRecDepth 20000 in
theorem gX8_digest_X8_standKeepings : GoodIn wsX8_digest (wsV RX8 143 RX8 yX8_standKeepings wsX8_standKeepings) := goodIn_app (goodIn_of _ (by decide +kernel)) ggX8_digest_X8_standKeepings
set_option maxRecDepth 20000 in
theorem ggX8_digest_X8_standExchange : GoodIn wsX8_digest wsX8_standExchange := goodIn_r _ [183, 184, 185, 186, 187, 188, 189, 190, 191, 192, 193, 194, 195, 150, 151, 110, 152, 153, 154, 113, 155, 156, 157, 158, 112, 159, 11, 12, 13, 14, 15, 160, 25, 26, 27, 28, 29, 161, 35, 36, 37, 38, 162, 163, 164, 165, 117, 118, 119, 120, 74, 75, 76, 77, 78, 79, 114, 115, 116, 166, 63, 64, 65, 66, 67, 68, 69, 70, 71, 72, 73, 167, 168, 169, 170, 171, 172, 173, 174, 175, 176, 177, 178, 179, 50, 7, 51, 121, 122, 123, 196, 197, 198, 199, 200, 201, 202, 203, 204, 205, 206, 331, 332, 333, 334, 335, 336, 337, 338, 339, 363, 364, 365, 366, 367, 368, 359, 360, 361, 362, 340, 341, 342, 343, 344, 345, 346, 347] (by decide +kernel) (by decide +kernel)
set_option maxRecDepth 20000 in
theorem gX8_digest_X8_standExchange : GoodIn wsX8_digest (wsV RX8 165 RX8 yX8_standExchange wsX8_standExchange) := goodIn_app (goodIn_of _ (by decide +kernel)) ggX8_digest_X8_standExchange
set_option maxRecDepth 20000 in
theorem ggX8_digest_X8_digestOfKeepings : GoodIn wsX8_digest wsX8_digestOfKeepings := goodIn_r _ [210, 9, 3, 85, 87, 10, 11, 12, 13, 14, 15, 211, 212, 213, 7, 214, 61, 215, 216, 217, 218, 92, 219, 95, 220, 221, 222, 223, 224, 225, 96, 226, 227, 228, 229, 230, 231, 97, 232, 233, 69, 70, 65, 71, 72, 73, 74, 75, 76, 77, 78, 79, 234, 235, 236, 237, 238, 239, 240, 241, 242, 94, 243, 98, 244, 245, 246, 247, 248, 249, 52, 25, 26, 27, 28, 29, 250, 251, 252, 253, 254, 255, 256, 257, 258, 259, 260, 261, 262, 263, 264, 265, 266, 267, 268, 269, 270, 271, 272, 273, 274, 275, 276, 277, 278, 279, 185, 280, 281, 282, 189, 283, 191, 284, 285, 286, 287, 205, 288, 289, 290, 291, 206, 292, 293, 294, 295, 193, 331, 332, 333, 334, 335, 336, 337, 338, 339, 340, 341, 342, 343, 344, 345, 348, 349, 350, 351, 352, 353, 354, 355, 356, 357, 358, 346, 347, 363, 364, 365, 366, 367, 368] (by decide +kernel) (by decide +kernel)
set_option maxRecDepth 20000 in
theorem gX8_digest_X8_digestOfKeepings : GoodIn wsX8_digest (wsV RX8 198 RX8 yX8_digestOfKeepings wsX8_digestOfKeepings) := goodIn_app (goodIn_of _ (by decide +kernel)) ggX8_digest_X8_digestOfKeepings
set_option maxRecDepth 20000 in
theorem ggX8_digest_X4_length : GoodIn wsX8_digest wsX4_length := goodIn_r _ [300, 301, 369, 370] (by decide +kernel) (by decide +kernel)
set_option maxRecDepth 20000 in
theorem gX8_digest_X4_length : GoodIn wsX8_digest (wsV RX8 71 RX4 yX4_length wsX4_length) := goodIn_app (goodIn_of _ (by decide +kernel)) ggX8_digest_X4_length
set_option maxRecDepth 20000 in
theorem ggX8_digest_X4_codeAt : GoodIn wsX8_digest wsX4_codeAt := goodIn_r _ [305, 301, 306, 369, 370] (by decide +kernel) (by decide +kernel)
set_option maxRecDepth 20000 in
theorem gX8_digest_X4_codeAt : GoodIn wsX8_digest (wsV RX8 203 RX4 yX4_codeAt wsX4_codeAt) := goodIn_app (goodIn_of _ (by decide +kernel)) ggX8_digest_X4_codeAt
set_option maxRecDepth 20000 in
theorem ggX8_digest_X8_count : GoodIn wsX8_digest wsX8_count := goodIn_r _ [310, 9, 2, 61, 10, 11, 12, 13, 14, 15, 296, 297, 298, 299, 300, 301, 311, 312, 313, 65, 314, 67, 315, 144, 145, 146, 72, 316, 317, 318, 319, 38, 320, 74, 75, 76, 77, 78, 79, 321, 322, 323, 324, 325, 326, 327, 328, 329, 330, 57, 58, 59, 7, 60, 24, 25, 26, 27, 28, 29, 62, 63, 64, 66, 68, 69, 70, 71, 73, 331, 332, 333, 334, 335, 336, 337, 338, 339, 340, 341, 342, 343, 344, 345, 369, 370, 346, 347] (by decide +kernel) (by decide +kernel)
set_option maxRecDepth 20000 in
theorem gX8_digest_X8_count : GoodIn wsX8_digest (wsV RX8 206 RX8 yX8_count wsX8_count) := goodIn_app (goodIn_of _ (by decide +kernel)) ggX8_digest_X8_count
theorem dX8_digest_0 : decode cX8_digest 0 = .ok (.aload_n 0, 1) := by decide +kernel
theorem dX8_digest_1 : decode cX8_digest 1 = .ok (.ldc2_w 192, 3) := by decide +kernel
theorem dX8_digest_4 : decode cX8_digest 4 = .ok (.invokevirtual 194, 3) := by decide +kernel
theorem dX8_digest_7 : decode cX8_digest 7 = .ok (.lstore_n 1, 1) := by decide +kernel
theorem dX8_digest_8 : decode cX8_digest 8 = .ok (.aload_n 0, 1) := by decide +kernel
theorem dX8_digest_9 : decode cX8_digest 9 = .ok (.invokevirtual 150, 3) := by decide +kernel
theorem dX8_digest_12 : decode cX8_digest 12 = .ok (.ifCond .eq 17, 3) := by decide +kernel
theorem dX8_digest_15 : decode cX8_digest 15 = .ok (.aload_n 0, 1) := by decide +kernel
theorem dX8_digest_16 : decode cX8_digest 16 = .ok (.invokevirtual 143, 3) := by decide +kernel
theorem dX8_digest_19 : decode cX8_digest 19 = .ok (.aload_n 0, 1) := by decide +kernel
theorem dX8_digest_20 : decode cX8_digest 20 = .ok (.invokevirtual 165, 3) := by decide +kernel
theorem dX8_digest_23 : decode cX8_digest 23 = .ok (.aload_n 0, 1) := by decide +kernel
theorem dX8_digest_24 : decode cX8_digest 24 = .ok (.lload_n 1, 1) := by decide +kernel
theorem dX8_digest_25 : decode cX8_digest 25 = .ok (.invokevirtual 198, 3) := by decide +kernel
theorem dX8_digest_28 : decode cX8_digest 28 = .ok (.lstore_n 1, 1) := by decide +kernel
theorem dX8_digest_29 : decode cX8_digest 29 = .ok (.iconst 0, 1) := by decide +kernel
theorem dX8_digest_30 : decode cX8_digest 30 = .ok (.istore_n 3, 1) := by decide +kernel
theorem dX8_digest_31 : decode cX8_digest 31 = .ok (.iload_n 3, 1) := by decide +kernel
theorem dX8_digest_32 : decode cX8_digest 32 = .ok (.aload_n 0, 1) := by decide +kernel
theorem dX8_digest_33 : decode cX8_digest 33 = .ok (.getfield 12, 3) := by decide +kernel
theorem dX8_digest_36 : decode cX8_digest 36 = .ok (.invokevirtual 71, 3) := by decide +kernel
theorem dX8_digest_39 : decode cX8_digest 39 = .ok (.if_icmp .ge 25, 3) := by decide +kernel
theorem dX8_digest_42 : decode cX8_digest 42 = .ok (.ldc2_w 201, 3) := by decide +kernel
theorem dX8_digest_45 : decode cX8_digest 45 = .ok (.lload_n 1, 1) := by decide +kernel
theorem dX8_digest_46 : decode cX8_digest 46 = .ok (.lmul, 1) := by decide +kernel
theorem dX8_digest_47 : decode cX8_digest 47 = .ok (.aload_n 0, 1) := by decide +kernel
theorem dX8_digest_48 : decode cX8_digest 48 = .ok (.getfield 12, 3) := by decide +kernel
theorem dX8_digest_51 : decode cX8_digest 51 = .ok (.iload_n 3, 1) := by decide +kernel
theorem dX8_digest_52 : decode cX8_digest 52 = .ok (.invokevirtual 203, 3) := by decide +kernel
theorem dX8_digest_55 : decode cX8_digest 55 = .ok (.i2l, 1) := by decide +kernel
theorem dX8_digest_56 : decode cX8_digest 56 = .ok (.ladd, 1) := by decide +kernel
theorem dX8_digest_57 : decode cX8_digest 57 = .ok (.lstore_n 1, 1) := by decide +kernel
theorem dX8_digest_58 : decode cX8_digest 58 = .ok (.iinc 3 1, 3) := by decide +kernel
theorem dX8_digest_61 : decode cX8_digest 61 = .ok (.goto (-30), 3) := by decide +kernel
theorem dX8_digest_64 : decode cX8_digest 64 = .ok (.iconst 0, 1) := by decide +kernel
theorem dX8_digest_65 : decode cX8_digest 65 = .ok (.istore_n 3, 1) := by decide +kernel
theorem dX8_digest_66 : decode cX8_digest 66 = .ok (.iload_n 3, 1) := by decide +kernel
theorem dX8_digest_67 : decode cX8_digest 67 = .ok (.bipush 8, 2) := by decide +kernel
theorem dX8_digest_69 : decode cX8_digest 69 = .ok (.if_icmp .ge 22, 3) := by decide +kernel
theorem dX8_digest_72 : decode cX8_digest 72 = .ok (.ldc2_w 201, 3) := by decide +kernel
theorem dX8_digest_75 : decode cX8_digest 75 = .ok (.lload_n 1, 1) := by decide +kernel
theorem dX8_digest_76 : decode cX8_digest 76 = .ok (.lmul, 1) := by decide +kernel
theorem dX8_digest_77 : decode cX8_digest 77 = .ok (.aload_n 0, 1) := by decide +kernel
theorem dX8_digest_78 : decode cX8_digest 78 = .ok (.iload_n 3, 1) := by decide +kernel
theorem dX8_digest_79 : decode cX8_digest 79 = .ok (.invokevirtual 206, 3) := by decide +kernel
theorem dX8_digest_82 : decode cX8_digest 82 = .ok (.i2l, 1) := by decide +kernel
theorem dX8_digest_83 : decode cX8_digest 83 = .ok (.ladd, 1) := by decide +kernel
theorem dX8_digest_84 : decode cX8_digest 84 = .ok (.lstore_n 1, 1) := by decide +kernel
theorem dX8_digest_85 : decode cX8_digest 85 = .ok (.iinc 3 1, 3) := by decide +kernel
theorem dX8_digest_88 : decode cX8_digest 88 = .ok (.goto (-22), 3) := by decide +kernel
theorem dX8_digest_91 : decode cX8_digest 91 = .ok (.lload_n 1, 1) := by decide +kernel
theorem dX8_digest_92 : decode cX8_digest 92 = .ok (.lreturn, 1) := by decide +kernel
set_option maxRecDepth 20000 in
theorem ggX8_digestOfRow_X6_size : GoodIn wsX8_digestOfRow wsX6_size := goodIn_r _ [7, 8, 56, 57, 58, 59, 60, 61] (by decide +kernel) (by decide +kernel)
set_option maxRecDepth 20000 in
theorem gX8_digestOfRow_X6_size : GoodIn wsX8_digestOfRow (wsV RX8 88 RX6 yX6_size wsX6_size) := goodIn_app (goodIn_of _ (by decide +kernel)) ggX8_digestOfRow_X6_size
set_option maxRecDepth 20000 in
theorem ggX8_digestOfRow_X8_job : GoodIn wsX8_digestOfRow wsX8_job := goodIn_r _ [13, 1, 14, 15, 16, 6, 17, 8, 18, 19, 20, 21, 22, 23, 24, 25, 26, 27, 28, 29, 30, 31, 32, 47, 48, 49, 50, 51, 52, 53, 54, 55, 56, 57, 58, 59, 60, 61] (by decide +kernel) (by decide +kernel)
set_option maxRecDepth 20000 in
theorem gX8_digestOfRow_X8_job : GoodIn wsX8_digestOfRow (wsV RX8 209 RX8 yX8_job wsX8_job) := goodIn_app (goodIn_of _ (by decide +kernel)) ggX8_digestOfRow_X8_job
set_option maxRecDepth 20000 in
theorem ggX8_digestOfRow_X8_next : GoodIn wsX8_digestOfRow wsX8_next := goodIn_r _ [36, 1, 14, 15, 16, 6, 17, 8, 37, 38, 12, 39, 40, 41, 42, 43, 32, 44, 45, 46, 19, 20, 21, 22, 23, 47, 48, 49, 50, 51, 52, 53, 54, 55, 56, 57, 58, 59, 60, 61] (by decide +kernel) (by decide +kernel)
set_option maxRecDepth 20000 in
theorem gX8_digestOfRow_X8_next : GoodIn wsX8_digestOfRow (wsV RX8 212 RX8 yX8_next wsX8_next) := goodIn_app (goodIn_of _ (by decide +kernel)) ggX8_digestOfRow_X8_next
theorem dX8_digestOfRow_0 : decode cX8_digestOfRow 0 = .ok (.lload_n 1, 1) := by decide +kernel
theorem dX8_digestOfRow_1 : decode cX8_digestOfRow 1 = .ok (.lstore_n 3, 1) := by decide +kernel
theorem dX8_digestOfRow_2 : decode cX8_digestOfRow 2 = .ok (.iconst 0, 1) := by decide +kernel
theorem dX8_digestOfRow_3 : decode cX8_digestOfRow 3 = .ok (.istore 5, 2) := by decide +kernel
theorem dX8_digestOfRow_5 : decode cX8_digestOfRow 5 = .ok (.iload 5, 2) := by decide +kernel
theorem dX8_digestOfRow_7 : decode cX8_digestOfRow 7 = .ok (.aload_n 0, 1) := by decide +kernel
theorem dX8_digestOfRow_8 : decode cX8_digestOfRow 8 = .ok (.getfield 26, 3) := by decide +kernel
theorem dX8_digestOfRow_11 : decode cX8_digestOfRow 11 = .ok (.invokevirtual 88, 3) := by decide +kernel
theorem dX8_digestOfRow_14 : decode cX8_digestOfRow 14 = .ok (.if_icmp .ge 72, 3) := by decide +kernel
theorem dX8_digestOfRow_17 : decode cX8_digestOfRow 17 = .ok (.iconst 0, 1) := by decide +kernel
theorem dX8_digestOfRow_18 : decode cX8_digestOfRow 18 = .ok (.istore 6, 2) := by decide +kernel
theorem dX8_digestOfRow_20 : decode cX8_digestOfRow 20 = .ok (.iload 6, 2) := by decide +kernel
theorem dX8_digestOfRow_22 : decode cX8_digestOfRow 22 = .ok (.iconst 3, 1) := by decide +kernel
theorem dX8_digestOfRow_23 : decode cX8_digestOfRow 23 = .ok (.if_icmp .ge 25, 3) := by decide +kernel
theorem dX8_digestOfRow_26 : decode cX8_digestOfRow 26 = .ok (.ldc2_w 201, 3) := by decide +kernel
theorem dX8_digestOfRow_29 : decode cX8_digestOfRow 29 = .ok (.lload_n 3, 1) := by decide +kernel
theorem dX8_digestOfRow_30 : decode cX8_digestOfRow 30 = .ok (.lmul, 1) := by decide +kernel
theorem dX8_digestOfRow_31 : decode cX8_digestOfRow 31 = .ok (.aload_n 0, 1) := by decide +kernel
theorem dX8_digestOfRow_32 : decode cX8_digestOfRow 32 = .ok (.iload 5, 2) := by decide +kernel
theorem dX8_digestOfRow_34 : decode cX8_digestOfRow 34 = .ok (.iload 6, 2) := by decide +kernel
theorem dX8_digestOfRow_36 : decode cX8_digestOfRow 36 = .ok (.invokevirtual 209, 3) := by decide +kernel
theorem dX8_digestOfRow_39 : decode cX8_digestOfRow 39 = .ok (.i2l, 1) := by decide +kernel
theorem dX8_digestOfRow_40 : decode cX8_digestOfRow 40 = .ok (.ladd, 1) := by decide +kernel
theorem dX8_digestOfRow_41 : decode cX8_digestOfRow 41 = .ok (.lstore_n 3, 1) := by decide +kernel
theorem dX8_digestOfRow_42 : decode cX8_digestOfRow 42 = .ok (.iinc 6 1, 3) := by decide +kernel
theorem dX8_digestOfRow_45 : decode cX8_digestOfRow 45 = .ok (.goto (-25), 3) := by decide +kernel
theorem dX8_digestOfRow_48 : decode cX8_digestOfRow 48 = .ok (.iconst 0, 1) := by decide +kernel
theorem dX8_digestOfRow_49 : decode cX8_digestOfRow 49 = .ok (.istore 6, 2) := by decide +kernel
theorem dX8_digestOfRow_51 : decode cX8_digestOfRow 51 = .ok (.iload 6, 2) := by decide +kernel
theorem dX8_digestOfRow_53 : decode cX8_digestOfRow 53 = .ok (.bipush 8, 2) := by decide +kernel
theorem dX8_digestOfRow_55 : decode cX8_digestOfRow 55 = .ok (.if_icmp .ge 25, 3) := by decide +kernel
theorem dX8_digestOfRow_58 : decode cX8_digestOfRow 58 = .ok (.ldc2_w 201, 3) := by decide +kernel
theorem dX8_digestOfRow_61 : decode cX8_digestOfRow 61 = .ok (.lload_n 3, 1) := by decide +kernel
theorem dX8_digestOfRow_62 : decode cX8_digestOfRow 62 = .ok (.lmul, 1) := by decide +kernel
theorem dX8_digestOfRow_63 : decode cX8_digestOfRow 63 = .ok (.aload_n 0, 1) := by decide +kernel
theorem dX8_digestOfRow_64 : decode cX8_digestOfRow 64 = .ok (.iload 5, 2) := by decide +kernel
theorem dX8_digestOfRow_66 : decode cX8_digestOfRow 66 = .ok (.iload 6, 2) := by decide +kernel
theorem dX8_digestOfRow_68 : decode cX8_digestOfRow 68 = .ok (.invokevirtual 212, 3) := by decide +kernel
theorem dX8_digestOfRow_71 : decode cX8_digestOfRow 71 = .ok (.i2l, 1) := by decide +kernel
theorem dX8_digestOfRow_72 : decode cX8_digestOfRow 72 = .ok (.ladd, 1) := by decide +kernel
theorem dX8_digestOfRow_73 : decode cX8_digestOfRow 73 = .ok (.lstore_n 3, 1) := by decide +kernel
theorem dX8_digestOfRow_74 : decode cX8_digestOfRow 74 = .ok (.iinc 6 1, 3) := by decide +kernel
theorem dX8_digestOfRow_77 : decode cX8_digestOfRow 77 = .ok (.goto (-26), 3) := by decide +kernel
theorem dX8_digestOfRow_80 : decode cX8_digestOfRow 80 = .ok (.iinc 5 1, 3) := by decide +kernel
theorem dX8_digestOfRow_83 : decode cX8_digestOfRow 83 = .ok (.goto (-78), 3) := by decide +kernel
theorem dX8_digestOfRow_86 : decode cX8_digestOfRow 86 = .ok (.lload_n 3, 1) := by decide +kernel
theorem dX8_digestOfRow_87 : decode cX8_digestOfRow 87 = .ok (.lreturn, 1) := by decide +kernel
set_option maxRecDepth 20000 in
theorem ggX8_digestOfKeepings_X6_size : GoodIn wsX8_digestOfKeepings wsX6_size := goodIn_r _ [9, 10, 137, 138, 139, 140, 141, 142] (by decide +kernel) (by decide +kernel)
set_option maxRecDepth 20000 in
theorem gX8_digestOfKeepings_X6_size : GoodIn wsX8_digestOfKeepings (wsV RX8 88 RX6 yX6_size wsX6_size) := goodIn_app (goodIn_of _ (by decide +kernel)) ggX8_digestOfKeepings_X6_size
set_option maxRecDepth 20000 in
theorem ggX8_digestOfKeepings_X8_numberOfKeeping : GoodIn wsX8_digestOfKeepings wsX8_numberOfKeeping := goodIn_r _ [15, 16, 17, 18, 19, 20, 21, 22, 23, 24, 25, 26, 27, 28, 29, 30, 31, 32, 33, 34, 35, 36, 37, 38, 39, 40, 41, 42, 43, 44, 45, 46, 47, 48, 49, 50, 51, 128, 129, 130, 131, 132, 133, 134, 135, 136, 143, 144, 145, 146, 147, 148, 149, 150, 151, 152, 153, 154, 155] (by decide +kernel) (by decide +kernel)
set_option maxRecDepth 20000 in
theorem gX8_digestOfKeepings_X8_numberOfKeeping : GoodIn wsX8_digestOfKeepings (wsV RX8 146 RX8 yX8_numberOfKeeping wsX8_numberOfKeeping) := goodIn_app (goodIn_of _ (by decide +kernel)) ggX8_digestOfKeepings_X8_numberOfKeeping
set_option maxRecDepth 20000 in
theorem ggX8_digestOfKeepings_X8_numberOfCost : GoodIn wsX8_digestOfKeepings wsX8_numberOfCost := goodIn_r _ [55, 3, 4, 16, 1, 56, 57, 58, 59, 21, 60, 61, 62, 30, 63, 6, 7, 8, 9, 10, 64, 40, 41, 42, 43, 44, 45, 46, 47, 48, 49, 50, 51, 65, 66, 67, 68, 69, 70, 71, 72, 73, 74, 75, 39, 76, 77, 78, 79, 80, 81, 82, 128, 129, 130, 131, 132, 133, 134, 135, 136, 143, 144, 145, 146, 147, 148, 149, 150, 151, 152, 153, 137, 138, 139, 140, 141, 142, 154, 155] (by decide +kernel) (by decide +kernel)
set_option maxRecDepth 20000 in
theorem gX8_digestOfKeepings_X8_numberOfCost : GoodIn wsX8_digestOfKeepings (wsV RX8 153 RX8 yX8_numberOfCost wsX8_numberOfCost) := goodIn_app (goodIn_of _ (by decide +kernel)) ggX8_digestOfKeepings_X8_numberOfCost
set_option maxRecDepth 20000 in
theorem ggX8_digestOfKeepings_X8_bitsOfMean : GoodIn wsX8_digestOfKeepings wsX8_bitsOfMean := goodIn_r _ [86, 1, 3, 87, 5, 6, 7, 8, 9, 10, 56, 57, 58, 59, 21, 60, 61, 62, 30, 63, 64, 40, 41, 42, 43, 44, 45, 46, 47, 48, 49, 50, 51, 65, 88, 89, 14, 90, 91, 92, 93, 128, 129, 130, 131, 132, 133, 134, 135, 136, 137, 138, 139, 140, 141, 142, 143, 144, 145, 146, 147, 148, 149, 150, 151, 152, 153, 154, 155] (by decide +kernel) (by decide +kernel)
set_option maxRecDepth 20000 in
theorem gX8_digestOfKeepings_X8_bitsOfMean : GoodIn wsX8_digestOfKeepings (wsV RX8 158 RX8 yX8_bitsOfMean wsX8_bitsOfMean) := goodIn_app (goodIn_of _ (by decide +kernel)) ggX8_digestOfKeepings_X8_bitsOfMean
set_option maxRecDepth 20000 in
theorem ggX8_digestOfKeepings_X8_bitsOfRatio : GoodIn wsX8_digestOfKeepings wsX8_bitsOfRatio := goodIn_r _ [97, 4, 3, 56, 57, 58, 59, 21, 60, 61, 62, 30, 63, 6, 7, 8, 9, 10, 64, 40, 41, 42, 43, 44, 45, 46, 47, 48, 49, 50, 51, 65, 98, 99, 14, 100, 101, 128, 129, 130, 131, 132, 133, 134, 135, 136, 143, 144, 145, 146, 147, 148, 149, 150, 151, 152, 153, 137, 138, 139, 140, 141, 142, 154, 155] (by decide +kernel) (by decide +kernel)
set_option maxRecDepth 20000 in
theorem gX8_digestOfKeepings_X8_bitsOfRatio : GoodIn wsX8_digestOfKeepings (wsV RX8 162 RX8 yX8_bitsOfRatio wsX8_bitsOfRatio) := goodIn_app (goodIn_of _ (by decide +kernel)) ggX8_digestOfKeepings_X8_bitsOfRatio
set_option maxRecDepth 20000 in
theorem ggX8_digestOfKeepings_X8_numberOfExchange : GoodIn wsX8_digestOfKeepings wsX8_numberOfExchange := goodIn_r _ [105, 106, 107, 108, 109, 110, 111, 112, 113, 114, 115, 116, 117, 118, 119, 120, 121, 122, 123, 124, 125, 126, 127, 128, 129, 130, 131, 132, 133, 134, 135, 136, 156, 157, 158, 159, 160, 161] (by decide +kernel) (by decide +kernel)
set_option maxRecDepth 20000 in
theorem gX8_digestOfKeepings_X8_numberOfExchange : GoodIn wsX8_digestOfKeepings (wsV RX8 168 RX8 yX8_numberOfExchange wsX8_numberOfExchange) := goodIn_app (goodIn_of _ (by decide +kernel)) ggX8_digestOfKeepings_X8_numberOfExchange
theorem dX8_digestOfKeepings_0 : decode cX8_digestOfKeepings 0 = .ok (.lload_n 1, 1) := by decide +kernel
theorem dX8_digestOfKeepings_1 : decode cX8_digestOfKeepings 1 = .ok (.lstore_n 3, 1) := by decide +kernel
theorem dX8_digestOfKeepings_2 : decode cX8_digestOfKeepings 2 = .ok (.iconst 0, 1) := by decide +kernel
theorem dX8_digestOfKeepings_3 : decode cX8_digestOfKeepings 3 = .ok (.istore 5, 2) := by decide +kernel
theorem dX8_digestOfKeepings_5 : decode cX8_digestOfKeepings 5 = .ok (.iload 5, 2) := by decide +kernel
theorem dX8_digestOfKeepings_7 : decode cX8_digestOfKeepings 7 = .ok (.aload_n 0, 1) := by decide +kernel
theorem dX8_digestOfKeepings_8 : decode cX8_digestOfKeepings 8 = .ok (.getfield 26, 3) := by decide +kernel
theorem dX8_digestOfKeepings_11 : decode cX8_digestOfKeepings 11 = .ok (.invokevirtual 88, 3) := by decide +kernel
theorem dX8_digestOfKeepings_14 : decode cX8_digestOfKeepings 14 = .ok (.if_icmp .ge 79, 3) := by decide +kernel
theorem dX8_digestOfKeepings_17 : decode cX8_digestOfKeepings 17 = .ok (.iconst 0, 1) := by decide +kernel
theorem dX8_digestOfKeepings_18 : decode cX8_digestOfKeepings 18 = .ok (.istore 6, 2) := by decide +kernel
theorem dX8_digestOfKeepings_20 : decode cX8_digestOfKeepings 20 = .ok (.iload 6, 2) := by decide +kernel
theorem dX8_digestOfKeepings_22 : decode cX8_digestOfKeepings 22 = .ok (.iconst 4, 1) := by decide +kernel
theorem dX8_digestOfKeepings_23 : decode cX8_digestOfKeepings 23 = .ok (.if_icmp .ge 29, 3) := by decide +kernel
theorem dX8_digestOfKeepings_26 : decode cX8_digestOfKeepings 26 = .ok (.ldc2_w 201, 3) := by decide +kernel
theorem dX8_digestOfKeepings_29 : decode cX8_digestOfKeepings 29 = .ok (.lload_n 3, 1) := by decide +kernel
theorem dX8_digestOfKeepings_30 : decode cX8_digestOfKeepings 30 = .ok (.lmul, 1) := by decide +kernel
theorem dX8_digestOfKeepings_31 : decode cX8_digestOfKeepings 31 = .ok (.aload_n 0, 1) := by decide +kernel
theorem dX8_digestOfKeepings_32 : decode cX8_digestOfKeepings 32 = .ok (.aload_n 0, 1) := by decide +kernel
theorem dX8_digestOfKeepings_33 : decode cX8_digestOfKeepings 33 = .ok (.getfield 42, 3) := by decide +kernel
theorem dX8_digestOfKeepings_36 : decode cX8_digestOfKeepings 36 = .ok (.iload 5, 2) := by decide +kernel
theorem dX8_digestOfKeepings_38 : decode cX8_digestOfKeepings 38 = .ok (.iload 6, 2) := by decide +kernel
theorem dX8_digestOfKeepings_40 : decode cX8_digestOfKeepings 40 = .ok (.invokevirtual 146, 3) := by decide +kernel
theorem dX8_digestOfKeepings_43 : decode cX8_digestOfKeepings 43 = .ok (.i2l, 1) := by decide +kernel
theorem dX8_digestOfKeepings_44 : decode cX8_digestOfKeepings 44 = .ok (.ladd, 1) := by decide +kernel
theorem dX8_digestOfKeepings_45 : decode cX8_digestOfKeepings 45 = .ok (.lstore_n 3, 1) := by decide +kernel
theorem dX8_digestOfKeepings_46 : decode cX8_digestOfKeepings 46 = .ok (.iinc 6 1, 3) := by decide +kernel
theorem dX8_digestOfKeepings_49 : decode cX8_digestOfKeepings 49 = .ok (.goto (-29), 3) := by decide +kernel
theorem dX8_digestOfKeepings_52 : decode cX8_digestOfKeepings 52 = .ok (.iconst 0, 1) := by decide +kernel
theorem dX8_digestOfKeepings_53 : decode cX8_digestOfKeepings 53 = .ok (.istore 6, 2) := by decide +kernel
theorem dX8_digestOfKeepings_55 : decode cX8_digestOfKeepings 55 = .ok (.iload 6, 2) := by decide +kernel
theorem dX8_digestOfKeepings_57 : decode cX8_digestOfKeepings 57 = .ok (.iconst 4, 1) := by decide +kernel
theorem dX8_digestOfKeepings_58 : decode cX8_digestOfKeepings 58 = .ok (.if_icmp .ge 29, 3) := by decide +kernel
theorem dX8_digestOfKeepings_61 : decode cX8_digestOfKeepings 61 = .ok (.ldc2_w 201, 3) := by decide +kernel
theorem dX8_digestOfKeepings_64 : decode cX8_digestOfKeepings 64 = .ok (.lload_n 3, 1) := by decide +kernel
theorem dX8_digestOfKeepings_65 : decode cX8_digestOfKeepings 65 = .ok (.lmul, 1) := by decide +kernel
theorem dX8_digestOfKeepings_66 : decode cX8_digestOfKeepings 66 = .ok (.aload_n 0, 1) := by decide +kernel
theorem dX8_digestOfKeepings_67 : decode cX8_digestOfKeepings 67 = .ok (.aload_n 0, 1) := by decide +kernel
theorem dX8_digestOfKeepings_68 : decode cX8_digestOfKeepings 68 = .ok (.getfield 51, 3) := by decide +kernel
theorem dX8_digestOfKeepings_71 : decode cX8_digestOfKeepings 71 = .ok (.iload 5, 2) := by decide +kernel
theorem dX8_digestOfKeepings_73 : decode cX8_digestOfKeepings 73 = .ok (.iload 6, 2) := by decide +kernel
theorem dX8_digestOfKeepings_75 : decode cX8_digestOfKeepings 75 = .ok (.invokevirtual 146, 3) := by decide +kernel
theorem dX8_digestOfKeepings_78 : decode cX8_digestOfKeepings 78 = .ok (.i2l, 1) := by decide +kernel
theorem dX8_digestOfKeepings_79 : decode cX8_digestOfKeepings 79 = .ok (.ladd, 1) := by decide +kernel
theorem dX8_digestOfKeepings_80 : decode cX8_digestOfKeepings 80 = .ok (.lstore_n 3, 1) := by decide +kernel
theorem dX8_digestOfKeepings_81 : decode cX8_digestOfKeepings 81 = .ok (.iinc 6 1, 3) := by decide +kernel
theorem dX8_digestOfKeepings_84 : decode cX8_digestOfKeepings 84 = .ok (.goto (-29), 3) := by decide +kernel
theorem dX8_digestOfKeepings_87 : decode cX8_digestOfKeepings 87 = .ok (.iinc 5 1, 3) := by decide +kernel
theorem dX8_digestOfKeepings_90 : decode cX8_digestOfKeepings 90 = .ok (.goto (-85), 3) := by decide +kernel
theorem dX8_digestOfKeepings_93 : decode cX8_digestOfKeepings 93 = .ok (.iconst 0, 1) := by decide +kernel
theorem dX8_digestOfKeepings_94 : decode cX8_digestOfKeepings 94 = .ok (.istore 5, 2) := by decide +kernel
theorem dX8_digestOfKeepings_96 : decode cX8_digestOfKeepings 96 = .ok (.iload 5, 2) := by decide +kernel
theorem dX8_digestOfKeepings_98 : decode cX8_digestOfKeepings 98 = .ok (.iconst 5, 1) := by decide +kernel
theorem dX8_digestOfKeepings_99 : decode cX8_digestOfKeepings 99 = .ok (.if_icmp .ge 23, 3) := by decide +kernel
theorem dX8_digestOfKeepings_102 : decode cX8_digestOfKeepings 102 = .ok (.ldc2_w 201, 3) := by decide +kernel
theorem dX8_digestOfKeepings_105 : decode cX8_digestOfKeepings 105 = .ok (.lload_n 3, 1) := by decide +kernel
theorem dX8_digestOfKeepings_106 : decode cX8_digestOfKeepings 106 = .ok (.lmul, 1) := by decide +kernel
theorem dX8_digestOfKeepings_107 : decode cX8_digestOfKeepings 107 = .ok (.aload_n 0, 1) := by decide +kernel
theorem dX8_digestOfKeepings_108 : decode cX8_digestOfKeepings 108 = .ok (.iload 5, 2) := by decide +kernel
theorem dX8_digestOfKeepings_110 : decode cX8_digestOfKeepings 110 = .ok (.invokevirtual 153, 3) := by decide +kernel
theorem dX8_digestOfKeepings_113 : decode cX8_digestOfKeepings 113 = .ok (.i2l, 1) := by decide +kernel
theorem dX8_digestOfKeepings_114 : decode cX8_digestOfKeepings 114 = .ok (.ladd, 1) := by decide +kernel
theorem dX8_digestOfKeepings_115 : decode cX8_digestOfKeepings 115 = .ok (.lstore_n 3, 1) := by decide +kernel
theorem dX8_digestOfKeepings_116 : decode cX8_digestOfKeepings 116 = .ok (.iinc 5 1, 3) := by decide +kernel
theorem dX8_digestOfKeepings_119 : decode cX8_digestOfKeepings 119 = .ok (.goto (-23), 3) := by decide +kernel
theorem dX8_digestOfKeepings_122 : decode cX8_digestOfKeepings 122 = .ok (.ldc2_w 201, 3) := by decide +kernel
theorem dX8_digestOfKeepings_125 : decode cX8_digestOfKeepings 125 = .ok (.lload_n 3, 1) := by decide +kernel
theorem dX8_digestOfKeepings_126 : decode cX8_digestOfKeepings 126 = .ok (.lmul, 1) := by decide +kernel
theorem dX8_digestOfKeepings_127 : decode cX8_digestOfKeepings 127 = .ok (.aload_n 0, 1) := by decide +kernel
theorem dX8_digestOfKeepings_128 : decode cX8_digestOfKeepings 128 = .ok (.invokevirtual 158, 3) := by decide +kernel
theorem dX8_digestOfKeepings_131 : decode cX8_digestOfKeepings 131 = .ok (.ladd, 1) := by decide +kernel
theorem dX8_digestOfKeepings_132 : decode cX8_digestOfKeepings 132 = .ok (.lstore_n 3, 1) := by decide +kernel
theorem dX8_digestOfKeepings_133 : decode cX8_digestOfKeepings 133 = .ok (.ldc2_w 201, 3) := by decide +kernel
theorem dX8_digestOfKeepings_136 : decode cX8_digestOfKeepings 136 = .ok (.lload_n 3, 1) := by decide +kernel
theorem dX8_digestOfKeepings_137 : decode cX8_digestOfKeepings 137 = .ok (.lmul, 1) := by decide +kernel
theorem dX8_digestOfKeepings_138 : decode cX8_digestOfKeepings 138 = .ok (.aload_n 0, 1) := by decide +kernel
theorem dX8_digestOfKeepings_139 : decode cX8_digestOfKeepings 139 = .ok (.invokevirtual 162, 3) := by decide +kernel
theorem dX8_digestOfKeepings_142 : decode cX8_digestOfKeepings 142 = .ok (.i2l, 1) := by decide +kernel
theorem dX8_digestOfKeepings_143 : decode cX8_digestOfKeepings 143 = .ok (.ladd, 1) := by decide +kernel
theorem dX8_digestOfKeepings_144 : decode cX8_digestOfKeepings 144 = .ok (.lstore_n 3, 1) := by decide +kernel
theorem dX8_digestOfKeepings_145 : decode cX8_digestOfKeepings 145 = .ok (.iconst 0, 1) := by decide +kernel
theorem dX8_digestOfKeepings_146 : decode cX8_digestOfKeepings 146 = .ok (.istore 5, 2) := by decide +kernel
theorem dX8_digestOfKeepings_148 : decode cX8_digestOfKeepings 148 = .ok (.iload 5, 2) := by decide +kernel
theorem dX8_digestOfKeepings_150 : decode cX8_digestOfKeepings 150 = .ok (.iconst 3, 1) := by decide +kernel
theorem dX8_digestOfKeepings_151 : decode cX8_digestOfKeepings 151 = .ok (.if_icmp .ge 23, 3) := by decide +kernel
theorem dX8_digestOfKeepings_154 : decode cX8_digestOfKeepings 154 = .ok (.ldc2_w 201, 3) := by decide +kernel
theorem dX8_digestOfKeepings_157 : decode cX8_digestOfKeepings 157 = .ok (.lload_n 3, 1) := by decide +kernel
theorem dX8_digestOfKeepings_158 : decode cX8_digestOfKeepings 158 = .ok (.lmul, 1) := by decide +kernel
theorem dX8_digestOfKeepings_159 : decode cX8_digestOfKeepings 159 = .ok (.aload_n 0, 1) := by decide +kernel
theorem dX8_digestOfKeepings_160 : decode cX8_digestOfKeepings 160 = .ok (.iload 5, 2) := by decide +kernel
theorem dX8_digestOfKeepings_162 : decode cX8_digestOfKeepings 162 = .ok (.invokevirtual 168, 3) := by decide +kernel
theorem dX8_digestOfKeepings_165 : decode cX8_digestOfKeepings 165 = .ok (.i2l, 1) := by decide +kernel
theorem dX8_digestOfKeepings_166 : decode cX8_digestOfKeepings 166 = .ok (.ladd, 1) := by decide +kernel
theorem dX8_digestOfKeepings_167 : decode cX8_digestOfKeepings 167 = .ok (.lstore_n 3, 1) := by decide +kernel
theorem dX8_digestOfKeepings_168 : decode cX8_digestOfKeepings 168 = .ok (.iinc 5 1, 3) := by decide +kernel
theorem dX8_digestOfKeepings_171 : decode cX8_digestOfKeepings 171 = .ok (.goto (-23), 3) := by decide +kernel
theorem dX8_digestOfKeepings_174 : decode cX8_digestOfKeepings 174 = .ok (.lload_n 3, 1) := by decide +kernel
theorem dX8_digestOfKeepings_175 : decode cX8_digestOfKeepings 175 = .ok (.lreturn, 1) := by decide +kernel
set_option maxRecDepth 20000 in
theorem ggX8_refusalOfKeeping_X6_isPlace : GoodIn wsX8_refusalOfKeeping wsX6_isPlace := goodIn_r _ [6, 7, 51, 52, 53, 54, 55, 56] (by decide +kernel) (by decide +kernel)
set_option maxRecDepth 20000 in
theorem gX8_refusalOfKeeping_X6_isPlace : GoodIn wsX8_refusalOfKeeping (wsV RX8 112 RX6 yX6_isPlace wsX6_isPlace) := goodIn_app (goodIn_of _ (by decide +kernel)) ggX8_refusalOfKeeping_X6_isPlace
set_option maxRecDepth 20000 in
theorem ggX8_refusalOfKeeping_X8_isTooBig : GoodIn wsX8_refusalOfKeeping wsX8_isTooBig := goodIn_r _ [12, 1, 13, 14, 15, 16, 5, 17, 7, 18, 19, 20, 21, 22, 23, 24, 25, 26, 27, 28, 29, 30, 31, 32, 33, 34, 35, 36, 37, 38, 39, 40, 41, 42, 43, 44, 45, 46, 47, 48, 49, 50, 51, 52, 53, 54, 55, 56, 57, 58] (by decide +kernel) (by decide +kernel)
set_option maxRecDepth 20000 in
theorem gX8_refusalOfKeeping_X8_isTooBig : GoodIn wsX8_refusalOfKeeping (wsV RX8 189 RX8 yX8_isTooBig wsX8_isTooBig) := goodIn_app (goodIn_of _ (by decide +kernel)) ggX8_refusalOfKeeping_X8_isTooBig
theorem dX8_refusalOfKeeping_0 : decode cX8_refusalOfKeeping 0 = .ok (.aload_n 0, 1) := by decide +kernel
theorem dX8_refusalOfKeeping_1 : decode cX8_refusalOfKeeping 1 = .ok (.getfield 26, 3) := by decide +kernel
theorem dX8_refusalOfKeeping_4 : decode cX8_refusalOfKeeping 4 = .ok (.iload_n 1, 1) := by decide +kernel
theorem dX8_refusalOfKeeping_5 : decode cX8_refusalOfKeeping 5 = .ok (.invokevirtual 112, 3) := by decide +kernel
theorem dX8_refusalOfKeeping_8 : decode cX8_refusalOfKeeping 8 = .ok (.ifCond .ne 7, 3) := by decide +kernel
theorem dX8_refusalOfKeeping_11 : decode cX8_refusalOfKeeping 11 = .ok (.sipush (-1001), 3) := by decide +kernel
theorem dX8_refusalOfKeeping_14 : decode cX8_refusalOfKeeping 14 = .ok (.ireturn, 1) := by decide +kernel
theorem dX8_refusalOfKeeping_15 : decode cX8_refusalOfKeeping 15 = .ok (.iload_n 2, 1) := by decide +kernel
theorem dX8_refusalOfKeeping_16 : decode cX8_refusalOfKeeping 16 = .ok (.ifCond .lt 8, 3) := by decide +kernel
theorem dX8_refusalOfKeeping_19 : decode cX8_refusalOfKeeping 19 = .ok (.iload_n 2, 1) := by decide +kernel
theorem dX8_refusalOfKeeping_20 : decode cX8_refusalOfKeeping 20 = .ok (.iconst 4, 1) := by decide +kernel
theorem dX8_refusalOfKeeping_21 : decode cX8_refusalOfKeeping 21 = .ok (.if_icmp .lt 7, 3) := by decide +kernel
theorem dX8_refusalOfKeeping_24 : decode cX8_refusalOfKeeping 24 = .ok (.sipush (-1002), 3) := by decide +kernel
theorem dX8_refusalOfKeeping_27 : decode cX8_refusalOfKeeping 27 = .ok (.ireturn, 1) := by decide +kernel
theorem dX8_refusalOfKeeping_28 : decode cX8_refusalOfKeeping 28 = .ok (.aload_n 0, 1) := by decide +kernel
theorem dX8_refusalOfKeeping_29 : decode cX8_refusalOfKeeping 29 = .ok (.invokevirtual 189, 3) := by decide +kernel
theorem dX8_refusalOfKeeping_32 : decode cX8_refusalOfKeeping 32 = .ok (.ifCond .eq 9, 3) := by decide +kernel
theorem dX8_refusalOfKeeping_35 : decode cX8_refusalOfKeeping 35 = .ok (.sipush (-1003), 3) := by decide +kernel
theorem dX8_refusalOfKeeping_38 : decode cX8_refusalOfKeeping 38 = .ok (.goto 4, 3) := by decide +kernel
theorem dX8_refusalOfKeeping_41 : decode cX8_refusalOfKeeping 41 = .ok (.iconst 0, 1) := by decide +kernel
theorem dX8_refusalOfKeeping_42 : decode cX8_refusalOfKeeping 42 = .ok (.ireturn, 1) := by decide +kernel
set_option maxRecDepth 20000 in
theorem ggX8_numberOfKeeping_X1_inside : GoodIn wsX8_numberOfKeeping wsX1_inside := goodIn_r _ [7, 8, 46, 47, 48, 49, 50, 51, 52, 53, 54, 55, 56] (by decide +kernel) (by decide +kernel)
set_option maxRecDepth 20000 in
theorem gX8_numberOfKeeping_X1_inside_u215X5 : GoodIn wsX8_numberOfKeeping (va_wsU RX8 215 RX5 "PocketKeeper$Keeping" ⟨"PocketKeeper$Keeping", "inside", "(I)I"⟩ yX1_inside wsX1_inside) := goodIn_app (goodIn_of _ (by decide +kernel)) ggX8_numberOfKeeping_X1_inside
set_option maxRecDepth 20000 in
theorem gX8_numberOfKeeping_X1_inside_u215X7 : GoodIn wsX8_numberOfKeeping (va_wsU RX8 215 RX7 "PocketKeeper$Keeping" ⟨"PocketKeeper$Keeping", "inside", "(I)I"⟩ yX1_inside wsX1_inside) := goodIn_app (goodIn_of _ (by decide +kernel)) ggX8_numberOfKeeping_X1_inside
set_option maxRecDepth 20000 in
theorem ggX8_numberOfKeeping_X1_coming : GoodIn wsX8_numberOfKeeping wsX1_coming := goodIn_r _ [14, 15, 46, 47, 48, 49, 50, 51, 52, 53, 54, 55, 56] (by decide +kernel) (by decide +kernel)
set_option maxRecDepth 20000 in
theorem gX8_numberOfKeeping_X1_coming_u220X5 : GoodIn wsX8_numberOfKeeping (va_wsU RX8 220 RX5 "PocketKeeper$Keeping" ⟨"PocketKeeper$Keeping", "coming", "(I)I"⟩ yX1_coming wsX1_coming) := goodIn_app (goodIn_of _ (by decide +kernel)) ggX8_numberOfKeeping_X1_coming
set_option maxRecDepth 20000 in
theorem gX8_numberOfKeeping_X1_coming_u220X7 : GoodIn wsX8_numberOfKeeping (va_wsU RX8 220 RX7 "PocketKeeper$Keeping" ⟨"PocketKeeper$Keeping", "coming", "(I)I"⟩ yX1_coming wsX1_coming) := goodIn_app (goodIn_of _ (by decide +kernel)) ggX8_numberOfKeeping_X1_coming
set_option maxRecDepth 20000 in
theorem ggX8_numberOfKeeping_X1_going : GoodIn wsX8_numberOfKeeping wsX1_going := goodIn_r _ [21, 22, 46, 47, 48, 49, 50, 51, 52, 53, 54, 55, 56] (by decide +kernel) (by decide +kernel)
set_option maxRecDepth 20000 in
theorem gX8_numberOfKeeping_X1_going_u223X5 : GoodIn wsX8_numberOfKeeping (va_wsU RX8 223 RX5 "PocketKeeper$Keeping" ⟨"PocketKeeper$Keeping", "going", "(I)I"⟩ yX1_going wsX1_going) := goodIn_app (goodIn_of _ (by decide +kernel)) ggX8_numberOfKeeping_X1_going
set_option maxRecDepth 20000 in
theorem gX8_numberOfKeeping_X1_going_u223X7 : GoodIn wsX8_numberOfKeeping (va_wsU RX8 223 RX7 "PocketKeeper$Keeping" ⟨"PocketKeeper$Keeping", "going", "(I)I"⟩ yX1_going wsX1_going) := goodIn_app (goodIn_of _ (by decide +kernel)) ggX8_numberOfKeeping_X1_going
set_option maxRecDepth 20000 in
theorem ggX8_numberOfKeeping_X3_sizeOf : GoodIn wsX8_numberOfKeeping wsX3_sizeOf := goodIn_r _ [28, 29, 30, 31, 32, 33, 34, 35, 36, 57, 58] (by decide +kernel) (by decide +kernel)
set_option maxRecDepth 20000 in
theorem gX8_numberOfKeeping_X3_sizeOf : GoodIn wsX8_numberOfKeeping (wsV RX8 226 RX3 yX3_sizeOf wsX3_sizeOf) := goodIn_app (goodIn_of _ (by decide +kernel)) ggX8_numberOfKeeping_X3_sizeOf
theorem dX8_numberOfKeeping_0 : decode cX8_numberOfKeeping 0 = .ok (.iload_n 3, 1) := by decide +kernel
theorem dX8_numberOfKeeping_1 : decode cX8_numberOfKeeping 1 = .ok (.tableswitch 45 0 2 #[27, 33, 39], 27) := by decide +kernel
theorem dX8_numberOfKeeping_28 : decode cX8_numberOfKeeping 28 = .ok (.aload_n 1, 1) := by decide +kernel
theorem dX8_numberOfKeeping_29 : decode cX8_numberOfKeeping 29 = .ok (.iload_n 2, 1) := by decide +kernel
theorem dX8_numberOfKeeping_30 : decode cX8_numberOfKeeping 30 = .ok (.invokevirtual 215, 3) := by decide +kernel
theorem dX8_numberOfKeeping_33 : decode cX8_numberOfKeeping 33 = .ok (.ireturn, 1) := by decide +kernel
theorem dX8_numberOfKeeping_34 : decode cX8_numberOfKeeping 34 = .ok (.aload_n 1, 1) := by decide +kernel
theorem dX8_numberOfKeeping_35 : decode cX8_numberOfKeeping 35 = .ok (.iload_n 2, 1) := by decide +kernel
theorem dX8_numberOfKeeping_36 : decode cX8_numberOfKeeping 36 = .ok (.invokevirtual 220, 3) := by decide +kernel
theorem dX8_numberOfKeeping_39 : decode cX8_numberOfKeeping 39 = .ok (.ireturn, 1) := by decide +kernel
theorem dX8_numberOfKeeping_40 : decode cX8_numberOfKeeping 40 = .ok (.aload_n 1, 1) := by decide +kernel
theorem dX8_numberOfKeeping_41 : decode cX8_numberOfKeeping 41 = .ok (.iload_n 2, 1) := by decide +kernel
theorem dX8_numberOfKeeping_42 : decode cX8_numberOfKeeping 42 = .ok (.invokevirtual 223, 3) := by decide +kernel
theorem dX8_numberOfKeeping_45 : decode cX8_numberOfKeeping 45 = .ok (.ireturn, 1) := by decide +kernel
theorem dX8_numberOfKeeping_46 : decode cX8_numberOfKeeping 46 = .ok (.aload_n 0, 1) := by decide +kernel
theorem dX8_numberOfKeeping_47 : decode cX8_numberOfKeeping 47 = .ok (.getfield 19, 3) := by decide +kernel
theorem dX8_numberOfKeeping_50 : decode cX8_numberOfKeeping 50 = .ok (.aload_n 1, 1) := by decide +kernel
theorem dX8_numberOfKeeping_51 : decode cX8_numberOfKeeping 51 = .ok (.iload_n 2, 1) := by decide +kernel
theorem dX8_numberOfKeeping_52 : decode cX8_numberOfKeeping 52 = .ok (.invokevirtual 220, 3) := by decide +kernel
theorem dX8_numberOfKeeping_55 : decode cX8_numberOfKeeping 55 = .ok (.invokevirtual 226, 3) := by decide +kernel
theorem dX8_numberOfKeeping_58 : decode cX8_numberOfKeeping 58 = .ok (.ireturn, 1) := by decide +kernel
set_option maxRecDepth 20000 in
theorem ggX8_numberOfCost_X1_totalCost : GoodIn wsX8_numberOfCost wsX1_totalCost := goodIn_r _ [10, 11, 12, 13, 14, 15, 16, 17, 18, 19, 20, 21, 22, 23, 24, 25, 26, 27, 28, 29, 30, 31, 32, 61, 62, 63, 64, 65, 66, 67, 68, 69, 70, 71, 72, 73, 74, 75, 76, 77, 78, 79] (by decide +kernel) (by decide +kernel)
set_option maxRecDepth 20000 in
theorem gX8_numberOfCost_X1_totalCost_u229X5 : GoodIn wsX8_numberOfCost (va_wsU RX8 229 RX5 "PocketKeeper$Keeping" ⟨"PocketKeeper$Keeping", "totalCost", "()I"⟩ yX1_totalCost wsX1_totalCost) := goodIn_app (goodIn_of _ (by decide +kernel)) ggX8_numberOfCost_X1_totalCost
set_option maxRecDepth 20000 in
theorem gX8_numberOfCost_X1_totalCost_u229X7 : GoodIn wsX8_numberOfCost (va_wsU RX8 229 RX7 "PocketKeeper$Keeping" ⟨"PocketKeeper$Keeping", "totalCost", "()I"⟩ yX1_totalCost wsX1_totalCost) := goodIn_app (goodIn_of _ (by decide +kernel)) ggX8_numberOfCost_X1_totalCost
set_option maxRecDepth 20000 in
theorem ggX8_numberOfCost_X6_allNeeds : GoodIn wsX8_numberOfCost wsX6_allNeeds := goodIn_r _ [37, 19, 38, 39, 40, 17, 41, 42, 43, 72, 73, 74, 75, 76, 77] (by decide +kernel) (by decide +kernel)
set_option maxRecDepth 20000 in
theorem gX8_numberOfCost_X6_allNeeds : GoodIn wsX8_numberOfCost (wsV RX8 232 RX6 yX6_allNeeds wsX6_allNeeds) := goodIn_app (goodIn_of _ (by decide +kernel)) ggX8_numberOfCost_X6_allNeeds
set_option maxRecDepth 20000 in
theorem ggX8_numberOfCost_X3_sizeOf : GoodIn wsX8_numberOfCost wsX3_sizeOf := goodIn_r _ [24, 25, 26, 27, 28, 29, 30, 31, 32, 78, 79] (by decide +kernel) (by decide +kernel)
set_option maxRecDepth 20000 in
theorem gX8_numberOfCost_X3_sizeOf : GoodIn wsX8_numberOfCost (wsV RX8 226 RX3 yX3_sizeOf wsX3_sizeOf) := goodIn_app (goodIn_of _ (by decide +kernel)) ggX8_numberOfCost_X3_sizeOf
set_option maxRecDepth 20000 in
theorem ggX8_numberOfCost_X1_totalComing : GoodIn wsX8_numberOfCost wsX1_totalComing := goodIn_r _ [49, 11, 13, 14, 15, 16, 17, 18, 19, 50, 27, 28, 29, 30, 31, 32, 61, 62, 63, 64, 65, 66, 67, 68, 69, 70, 71, 72, 73, 74, 75, 76, 77] (by decide +kernel) (by decide +kernel)
set_option maxRecDepth 20000 in
theorem gX8_numberOfCost_X1_totalComing_u235X5 : GoodIn wsX8_numberOfCost (va_wsU RX8 235 RX5 "PocketKeeper$Keeping" ⟨"PocketKeeper$Keeping", "totalComing", "()I"⟩ yX1_totalComing wsX1_totalComing) := goodIn_app (goodIn_of _ (by decide +kernel)) ggX8_numberOfCost_X1_totalComing
set_option maxRecDepth 20000 in
theorem gX8_numberOfCost_X1_totalComing_u235X7 : GoodIn wsX8_numberOfCost (va_wsU RX8 235 RX7 "PocketKeeper$Keeping" ⟨"PocketKeeper$Keeping", "totalComing", "()I"⟩ yX1_totalComing wsX1_totalComing) := goodIn_app (goodIn_of _ (by decide +kernel)) ggX8_numberOfCost_X1_totalComing
theorem dX8_numberOfCost_0 : decode cX8_numberOfCost 0 = .ok (.iload_n 1, 1) := by decide +kernel
theorem dX8_numberOfCost_1 : decode cX8_numberOfCost 1 = .ok (.tableswitch 70 0 3 #[31, 39, 47, 62], 31) := by decide +kernel
theorem dX8_numberOfCost_32 : decode cX8_numberOfCost 32 = .ok (.aload_n 0, 1) := by decide +kernel
theorem dX8_numberOfCost_33 : decode cX8_numberOfCost 33 = .ok (.getfield 42, 3) := by decide +kernel
theorem dX8_numberOfCost_36 : decode cX8_numberOfCost 36 = .ok (.invokevirtual 229, 3) := by decide +kernel
theorem dX8_numberOfCost_39 : decode cX8_numberOfCost 39 = .ok (.ireturn, 1) := by decide +kernel
theorem dX8_numberOfCost_40 : decode cX8_numberOfCost 40 = .ok (.aload_n 0, 1) := by decide +kernel
theorem dX8_numberOfCost_41 : decode cX8_numberOfCost 41 = .ok (.getfield 51, 3) := by decide +kernel
theorem dX8_numberOfCost_44 : decode cX8_numberOfCost 44 = .ok (.invokevirtual 229, 3) := by decide +kernel
theorem dX8_numberOfCost_47 : decode cX8_numberOfCost 47 = .ok (.ireturn, 1) := by decide +kernel
theorem dX8_numberOfCost_48 : decode cX8_numberOfCost 48 = .ok (.aload_n 0, 1) := by decide +kernel
theorem dX8_numberOfCost_49 : decode cX8_numberOfCost 49 = .ok (.getfield 19, 3) := by decide +kernel
theorem dX8_numberOfCost_52 : decode cX8_numberOfCost 52 = .ok (.aload_n 0, 1) := by decide +kernel
theorem dX8_numberOfCost_53 : decode cX8_numberOfCost 53 = .ok (.getfield 26, 3) := by decide +kernel
theorem dX8_numberOfCost_56 : decode cX8_numberOfCost 56 = .ok (.invokevirtual 232, 3) := by decide +kernel
theorem dX8_numberOfCost_59 : decode cX8_numberOfCost 59 = .ok (.invokevirtual 226, 3) := by decide +kernel
theorem dX8_numberOfCost_62 : decode cX8_numberOfCost 62 = .ok (.ireturn, 1) := by decide +kernel
theorem dX8_numberOfCost_63 : decode cX8_numberOfCost 63 = .ok (.aload_n 0, 1) := by decide +kernel
theorem dX8_numberOfCost_64 : decode cX8_numberOfCost 64 = .ok (.getfield 42, 3) := by decide +kernel
theorem dX8_numberOfCost_67 : decode cX8_numberOfCost 67 = .ok (.invokevirtual 235, 3) := by decide +kernel
theorem dX8_numberOfCost_70 : decode cX8_numberOfCost 70 = .ok (.ireturn, 1) := by decide +kernel
theorem dX8_numberOfCost_71 : decode cX8_numberOfCost 71 = .ok (.aload_n 0, 1) := by decide +kernel
theorem dX8_numberOfCost_72 : decode cX8_numberOfCost 72 = .ok (.getfield 51, 3) := by decide +kernel
theorem dX8_numberOfCost_75 : decode cX8_numberOfCost 75 = .ok (.invokevirtual 235, 3) := by decide +kernel
theorem dX8_numberOfCost_78 : decode cX8_numberOfCost 78 = .ok (.ireturn, 1) := by decide +kernel
set_option maxRecDepth 20000 in
theorem ggX8_bitsOfMean_X6_size : GoodIn wsX8_bitsOfMean wsX6_size := goodIn_r _ [8, 9, 50, 51, 52, 53, 54, 55] (by decide +kernel) (by decide +kernel)
set_option maxRecDepth 20000 in
theorem gX8_bitsOfMean_X6_size : GoodIn wsX8_bitsOfMean (wsV RX8 88 RX6 yX6_size wsX6_size) := goodIn_app (goodIn_of _ (by decide +kernel)) ggX8_bitsOfMean_X6_size
set_option maxRecDepth 20000 in
theorem ggX8_bitsOfMean_X1_totalCost : GoodIn wsX8_bitsOfMean wsX1_totalCost := goodIn_r _ [15, 16, 17, 18, 19, 5, 6, 7, 8, 9, 20, 21, 22, 23, 24, 25, 26, 27, 28, 29, 30, 31, 32, 56, 57, 58, 59, 60, 61, 62, 63, 64, 65, 66, 50, 51, 52, 53, 54, 55, 67, 68] (by decide +kernel) (by decide +kernel)
set_option maxRecDepth 20000 in
theorem gX8_bitsOfMean_X1_totalCost_u229X5 : GoodIn wsX8_bitsOfMean (va_wsU RX8 229 RX5 "PocketKeeper$Keeping" ⟨"PocketKeeper$Keeping", "totalCost", "()I"⟩ yX1_totalCost wsX1_totalCost) := goodIn_app (goodIn_of _ (by decide +kernel)) ggX8_bitsOfMean_X1_totalCost
set_option maxRecDepth 20000 in
theorem gX8_bitsOfMean_X1_totalCost_u229X7 : GoodIn wsX8_bitsOfMean (va_wsU RX8 229 RX7 "PocketKeeper$Keeping" ⟨"PocketKeeper$Keeping", "totalCost", "()I"⟩ yX1_totalCost wsX1_totalCost) := goodIn_app (goodIn_of _ (by decide +kernel)) ggX8_bitsOfMean_X1_totalCost
set_option maxRecDepth 20000 in
theorem ggX8_bitsOfMean_X8_bitsOfDouble : GoodIn wsX8_bitsOfMean wsX8_bitsOfDouble := goodIn_r _ [37, 38, 39, 40] (by decide +kernel) (by decide +kernel)
set_option maxRecDepth 20000 in
theorem gX8_bitsOfMean_X8_bitsOfDouble : GoodIn wsX8_bitsOfMean (va_wsS RX8 238 yX8_bitsOfDouble wsX8_bitsOfDouble) := goodIn_app (goodIn_of _ (by decide +kernel)) ggX8_bitsOfMean_X8_bitsOfDouble
theorem dX8_bitsOfMean_0 : decode cX8_bitsOfMean 0 = .ok (.aload_n 0, 1) := by decide +kernel
theorem dX8_bitsOfMean_1 : decode cX8_bitsOfMean 1 = .ok (.getfield 26, 3) := by decide +kernel
theorem dX8_bitsOfMean_4 : decode cX8_bitsOfMean 4 = .ok (.invokevirtual 88, 3) := by decide +kernel
theorem dX8_bitsOfMean_7 : decode cX8_bitsOfMean 7 = .ok (.istore_n 1, 1) := by decide +kernel
theorem dX8_bitsOfMean_8 : decode cX8_bitsOfMean 8 = .ok (.iload_n 1, 1) := by decide +kernel
theorem dX8_bitsOfMean_9 : decode cX8_bitsOfMean 9 = .ok (.ifCond .le 20, 3) := by decide +kernel
theorem dX8_bitsOfMean_12 : decode cX8_bitsOfMean 12 = .ok (.aload_n 0, 1) := by decide +kernel
theorem dX8_bitsOfMean_13 : decode cX8_bitsOfMean 13 = .ok (.getfield 42, 3) := by decide +kernel
theorem dX8_bitsOfMean_16 : decode cX8_bitsOfMean 16 = .ok (.invokevirtual 229, 3) := by decide +kernel
theorem dX8_bitsOfMean_19 : decode cX8_bitsOfMean 19 = .ok (.i2d, 1) := by decide +kernel
theorem dX8_bitsOfMean_20 : decode cX8_bitsOfMean 20 = .ok (.iload_n 1, 1) := by decide +kernel
theorem dX8_bitsOfMean_21 : decode cX8_bitsOfMean 21 = .ok (.i2d, 1) := by decide +kernel
theorem dX8_bitsOfMean_22 : decode cX8_bitsOfMean 22 = .ok (.ddiv, 1) := by decide +kernel
theorem dX8_bitsOfMean_23 : decode cX8_bitsOfMean 23 = .ok (.invokestatic 238, 3) := by decide +kernel
theorem dX8_bitsOfMean_26 : decode cX8_bitsOfMean 26 = .ok (.goto 6, 3) := by decide +kernel
theorem dX8_bitsOfMean_29 : decode cX8_bitsOfMean 29 = .ok (.ldc2_w 242, 3) := by decide +kernel
theorem dX8_bitsOfMean_32 : decode cX8_bitsOfMean 32 = .ok (.lreturn, 1) := by decide +kernel
set_option maxRecDepth 20000 in
theorem ggX8_bitsOfRatio_X1_totalCost : GoodIn wsX8_bitsOfRatio wsX1_totalCost := goodIn_r _ [8, 9, 10, 11, 12, 13, 14, 15, 16, 17, 18, 19, 20, 21, 22, 23, 24, 25, 26, 27, 28, 29, 30, 46, 47, 48, 49, 50, 51, 52, 53, 54, 55, 56, 57, 58, 59, 60, 61, 62, 63, 64] (by decide +kernel) (by decide +kernel)
set_option maxRecDepth 20000 in
theorem gX8_bitsOfRatio_X1_totalCost_u229X5 : GoodIn wsX8_bitsOfRatio (va_wsU RX8 229 RX5 "PocketKeeper$Keeping" ⟨"PocketKeeper$Keeping", "totalCost", "()I"⟩ yX1_totalCost wsX1_totalCost) := goodIn_app (goodIn_of _ (by decide +kernel)) ggX8_bitsOfRatio_X1_totalCost
set_option maxRecDepth 20000 in
theorem gX8_bitsOfRatio_X1_totalCost_u229X7 : GoodIn wsX8_bitsOfRatio (va_wsU RX8 229 RX7 "PocketKeeper$Keeping" ⟨"PocketKeeper$Keeping", "totalCost", "()I"⟩ yX1_totalCost wsX1_totalCost) := goodIn_app (goodIn_of _ (by decide +kernel)) ggX8_bitsOfRatio_X1_totalCost
set_option maxRecDepth 20000 in
theorem ggX8_bitsOfRatio_X8_bitsOfFloat : GoodIn wsX8_bitsOfRatio wsX8_bitsOfFloat := goodIn_r _ [35, 36] (by decide +kernel) (by decide +kernel)
set_option maxRecDepth 20000 in
theorem gX8_bitsOfRatio_X8_bitsOfFloat : GoodIn wsX8_bitsOfRatio (va_wsS RX8 244 yX8_bitsOfFloat wsX8_bitsOfFloat) := goodIn_app (goodIn_of _ (by decide +kernel)) ggX8_bitsOfRatio_X8_bitsOfFloat
theorem dX8_bitsOfRatio_0 : decode cX8_bitsOfRatio 0 = .ok (.aload_n 0, 1) := by decide +kernel
theorem dX8_bitsOfRatio_1 : decode cX8_bitsOfRatio 1 = .ok (.getfield 51, 3) := by decide +kernel
theorem dX8_bitsOfRatio_4 : decode cX8_bitsOfRatio 4 = .ok (.invokevirtual 229, 3) := by decide +kernel
theorem dX8_bitsOfRatio_7 : decode cX8_bitsOfRatio 7 = .ok (.istore_n 1, 1) := by decide +kernel
theorem dX8_bitsOfRatio_8 : decode cX8_bitsOfRatio 8 = .ok (.iload_n 1, 1) := by decide +kernel
theorem dX8_bitsOfRatio_9 : decode cX8_bitsOfRatio 9 = .ok (.ifCond .le 20, 3) := by decide +kernel
theorem dX8_bitsOfRatio_12 : decode cX8_bitsOfRatio 12 = .ok (.aload_n 0, 1) := by decide +kernel
theorem dX8_bitsOfRatio_13 : decode cX8_bitsOfRatio 13 = .ok (.getfield 42, 3) := by decide +kernel
theorem dX8_bitsOfRatio_16 : decode cX8_bitsOfRatio 16 = .ok (.invokevirtual 229, 3) := by decide +kernel
theorem dX8_bitsOfRatio_19 : decode cX8_bitsOfRatio 19 = .ok (.i2f, 1) := by decide +kernel
theorem dX8_bitsOfRatio_20 : decode cX8_bitsOfRatio 20 = .ok (.iload_n 1, 1) := by decide +kernel
theorem dX8_bitsOfRatio_21 : decode cX8_bitsOfRatio 21 = .ok (.i2f, 1) := by decide +kernel
theorem dX8_bitsOfRatio_22 : decode cX8_bitsOfRatio 22 = .ok (.fdiv, 1) := by decide +kernel
theorem dX8_bitsOfRatio_23 : decode cX8_bitsOfRatio 23 = .ok (.invokestatic 244, 3) := by decide +kernel
theorem dX8_bitsOfRatio_26 : decode cX8_bitsOfRatio 26 = .ok (.goto 4, 3) := by decide +kernel
theorem dX8_bitsOfRatio_29 : decode cX8_bitsOfRatio 29 = .ok (.iconst (-1), 1) := by decide +kernel
theorem dX8_bitsOfRatio_30 : decode cX8_bitsOfRatio 30 = .ok (.ireturn, 1) := by decide +kernel
set_option maxRecDepth 20000 in
theorem ggX8_numberOfExchange_X0_isFound : GoodIn wsX8_numberOfExchange wsX0_isFound := goodIn_r _ [6, 7, 32, 33, 34, 35, 36, 37] (by decide +kernel) (by decide +kernel)
set_option maxRecDepth 20000 in
theorem gX8_numberOfExchange_X0_isFound : GoodIn wsX8_numberOfExchange (wsV RX8 171 RX0 yX0_isFound wsX0_isFound) := goodIn_app (goodIn_of _ (by decide +kernel)) ggX8_numberOfExchange_X0_isFound
set_option maxRecDepth 20000 in
theorem ggX8_numberOfExchange_X0_first : GoodIn wsX8_numberOfExchange wsX0_first := goodIn_r _ [11, 12, 32, 33, 34, 35, 36, 37] (by decide +kernel) (by decide +kernel)
set_option maxRecDepth 20000 in
theorem gX8_numberOfExchange_X0_first : GoodIn wsX8_numberOfExchange (wsV RX8 174 RX0 yX0_first wsX0_first) := goodIn_app (goodIn_of _ (by decide +kernel)) ggX8_numberOfExchange_X0_first
set_option maxRecDepth 20000 in
theorem ggX8_numberOfExchange_X0_second : GoodIn wsX8_numberOfExchange wsX0_second := goodIn_r _ [16, 17, 32, 33, 34, 35, 36, 37] (by decide +kernel) (by decide +kernel)
set_option maxRecDepth 20000 in
theorem gX8_numberOfExchange_X0_second : GoodIn wsX8_numberOfExchange (wsV RX8 177 RX0 yX0_second wsX0_second) := goodIn_app (goodIn_of _ (by decide +kernel)) ggX8_numberOfExchange_X0_second
set_option maxRecDepth 20000 in
theorem ggX8_numberOfExchange_X0_leastThen : GoodIn wsX8_numberOfExchange wsX0_leastThen := goodIn_r _ [21, 22, 32, 33, 34, 35, 36, 37] (by decide +kernel) (by decide +kernel)
set_option maxRecDepth 20000 in
theorem gX8_numberOfExchange_X0_leastThen : GoodIn wsX8_numberOfExchange (wsV RX8 180 RX0 yX0_leastThen wsX0_leastThen) := goodIn_app (goodIn_of _ (by decide +kernel)) ggX8_numberOfExchange_X0_leastThen
theorem dX8_numberOfExchange_0 : decode cX8_numberOfExchange 0 = .ok (.aload_n 0, 1) := by decide +kernel
theorem dX8_numberOfExchange_1 : decode cX8_numberOfExchange 1 = .ok (.getfield 59, 3) := by decide +kernel
theorem dX8_numberOfExchange_4 : decode cX8_numberOfExchange 4 = .ok (.invokevirtual 171, 3) := by decide +kernel
theorem dX8_numberOfExchange_7 : decode cX8_numberOfExchange 7 = .ok (.ifCond .ne 5, 3) := by decide +kernel
theorem dX8_numberOfExchange_10 : decode cX8_numberOfExchange 10 = .ok (.iconst (-1), 1) := by decide +kernel
theorem dX8_numberOfExchange_11 : decode cX8_numberOfExchange 11 = .ok (.ireturn, 1) := by decide +kernel
theorem dX8_numberOfExchange_12 : decode cX8_numberOfExchange 12 = .ok (.iload_n 1, 1) := by decide +kernel
theorem dX8_numberOfExchange_13 : decode cX8_numberOfExchange 13 = .ok (.lookupswitch 43 #[(0, 27), (1, 35)], 27) := by decide +kernel
theorem dX8_numberOfExchange_40 : decode cX8_numberOfExchange 40 = .ok (.aload_n 0, 1) := by decide +kernel
theorem dX8_numberOfExchange_41 : decode cX8_numberOfExchange 41 = .ok (.getfield 59, 3) := by decide +kernel
theorem dX8_numberOfExchange_44 : decode cX8_numberOfExchange 44 = .ok (.invokevirtual 174, 3) := by decide +kernel
theorem dX8_numberOfExchange_47 : decode cX8_numberOfExchange 47 = .ok (.ireturn, 1) := by decide +kernel
theorem dX8_numberOfExchange_48 : decode cX8_numberOfExchange 48 = .ok (.aload_n 0, 1) := by decide +kernel
theorem dX8_numberOfExchange_49 : decode cX8_numberOfExchange 49 = .ok (.getfield 59, 3) := by decide +kernel
theorem dX8_numberOfExchange_52 : decode cX8_numberOfExchange 52 = .ok (.invokevirtual 177, 3) := by decide +kernel
theorem dX8_numberOfExchange_55 : decode cX8_numberOfExchange 55 = .ok (.ireturn, 1) := by decide +kernel
theorem dX8_numberOfExchange_56 : decode cX8_numberOfExchange 56 = .ok (.aload_n 0, 1) := by decide +kernel
theorem dX8_numberOfExchange_57 : decode cX8_numberOfExchange 57 = .ok (.getfield 59, 3) := by decide +kernel
theorem dX8_numberOfExchange_60 : decode cX8_numberOfExchange 60 = .ok (.invokevirtual 180, 3) := by decide +kernel
theorem dX8_numberOfExchange_63 : decode cX8_numberOfExchange 63 = .ok (.ireturn, 1) := by decide +kernel
set_option maxRecDepth 20000 in
theorem ggX8_changeOrder_X6_exchange : GoodIn wsX8_changeOrder wsX6_exchange := goodIn_r _ [6, 7, 29, 30, 31, 32, 33, 34] (by decide +kernel) (by decide +kernel)
set_option maxRecDepth 20000 in
theorem gX8_changeOrder_X6_exchange : GoodIn wsX8_changeOrder (wsV RX8 248 RX6 yX6_exchange wsX6_exchange) := goodIn_app (goodIn_of _ (by decide +kernel)) ggX8_changeOrder_X6_exchange
set_option maxRecDepth 20000 in
theorem ggX8_changeOrder_X6_countChange : GoodIn wsX8_changeOrder wsX6_countChange := goodIn_r _ [11, 12, 29, 30, 31, 32, 33, 34] (by decide +kernel) (by decide +kernel)
set_option maxRecDepth 20000 in
theorem gX8_changeOrder_X6_countChange : GoodIn wsX8_changeOrder (wsV RX8 250 RX6 yX6_countChange wsX6_countChange) := goodIn_app (goodIn_of _ (by decide +kernel)) ggX8_changeOrder_X6_countChange
set_option maxRecDepth 20000 in
theorem ggX8_changeOrder_X8_forgetKeepings : GoodIn wsX8_changeOrder wsX8_forgetKeepings := goodIn_r _ [17, 18, 19, 20, 21, 22, 23, 24, 25, 26, 27, 28] (by decide +kernel) (by decide +kernel)
set_option maxRecDepth 20000 in
theorem gX8_changeOrder_X8_forgetKeepings : GoodIn wsX8_changeOrder (wsV RX8 85 RX8 yX8_forgetKeepings wsX8_forgetKeepings) := goodIn_app (goodIn_of _ (by decide +kernel)) ggX8_changeOrder_X8_forgetKeepings
theorem dX8_changeOrder_0 : decode cX8_changeOrder 0 = .ok (.aload_n 0, 1) := by decide +kernel
theorem dX8_changeOrder_1 : decode cX8_changeOrder 1 = .ok (.getfield 26, 3) := by decide +kernel
theorem dX8_changeOrder_4 : decode cX8_changeOrder 4 = .ok (.iload_n 1, 1) := by decide +kernel
theorem dX8_changeOrder_5 : decode cX8_changeOrder 5 = .ok (.iload_n 2, 1) := by decide +kernel
theorem dX8_changeOrder_6 : decode cX8_changeOrder 6 = .ok (.invokevirtual 248, 3) := by decide +kernel
theorem dX8_changeOrder_9 : decode cX8_changeOrder 9 = .ok (.aload_n 0, 1) := by decide +kernel
theorem dX8_changeOrder_10 : decode cX8_changeOrder 10 = .ok (.getfield 26, 3) := by decide +kernel
theorem dX8_changeOrder_13 : decode cX8_changeOrder 13 = .ok (.invokevirtual 250, 3) := by decide +kernel
theorem dX8_changeOrder_16 : decode cX8_changeOrder 16 = .ok (.aload_n 0, 1) := by decide +kernel
theorem dX8_changeOrder_17 : decode cX8_changeOrder 17 = .ok (.invokevirtual 85, 3) := by decide +kernel
theorem dX8_changeOrder_20 : decode cX8_changeOrder 20 = .ok (.return_, 1) := by decide +kernel
set_option maxRecDepth 20000 in
theorem ggX8_canKeep_X6_size : GoodIn wsX8_canKeep wsX6_size := goodIn_r _ [6, 7, 47, 48, 49, 50, 51, 52] (by decide +kernel) (by decide +kernel)
set_option maxRecDepth 20000 in
theorem gX8_canKeep_X6_size : GoodIn wsX8_canKeep (wsV RX8 88 RX6 yX6_size wsX6_size) := goodIn_app (goodIn_of _ (by decide +kernel)) ggX8_canKeep_X6_size
set_option maxRecDepth 20000 in
theorem ggX8_canKeep_X8_isTooBig : GoodIn wsX8_canKeep wsX8_isTooBig := goodIn_r _ [12, 1, 13, 2, 3, 4, 5, 6, 7, 14, 15, 16, 17, 18, 19, 20, 21, 22, 23, 24, 25, 26, 27, 28, 29, 30, 31, 32, 33, 34, 35, 36, 37, 38, 39, 40, 41, 42, 43, 44, 45, 46, 47, 48, 49, 50, 51, 52, 53, 54] (by decide +kernel) (by decide +kernel)
set_option maxRecDepth 20000 in
theorem gX8_canKeep_X8_isTooBig : GoodIn wsX8_canKeep (wsV RX8 189 RX8 yX8_isTooBig wsX8_isTooBig) := goodIn_app (goodIn_of _ (by decide +kernel)) ggX8_canKeep_X8_isTooBig
theorem dX8_canKeep_0 : decode cX8_canKeep 0 = .ok (.aload_n 0, 1) := by decide +kernel
theorem dX8_canKeep_1 : decode cX8_canKeep 1 = .ok (.getfield 26, 3) := by decide +kernel
theorem dX8_canKeep_4 : decode cX8_canKeep 4 = .ok (.invokevirtual 88, 3) := by decide +kernel
theorem dX8_canKeep_7 : decode cX8_canKeep 7 = .ok (.ifCond .le 14, 3) := by decide +kernel
theorem dX8_canKeep_10 : decode cX8_canKeep 10 = .ok (.aload_n 0, 1) := by decide +kernel
theorem dX8_canKeep_11 : decode cX8_canKeep 11 = .ok (.invokevirtual 189, 3) := by decide +kernel
theorem dX8_canKeep_14 : decode cX8_canKeep 14 = .ok (.ifCond .ne 7, 3) := by decide +kernel
theorem dX8_canKeep_17 : decode cX8_canKeep 17 = .ok (.iconst 1, 1) := by decide +kernel
theorem dX8_canKeep_18 : decode cX8_canKeep 18 = .ok (.goto 4, 3) := by decide +kernel
theorem dX8_canKeep_21 : decode cX8_canKeep 21 = .ok (.iconst 0, 1) := by decide +kernel
theorem dX8_canKeep_22 : decode cX8_canKeep 22 = .ok (.ireturn, 1) := by decide +kernel
set_option maxRecDepth 20000 in
theorem ggX8_isTooBig_X6_size : GoodIn wsX8_isTooBig wsX6_size := goodIn_r _ [7, 8, 42, 43, 44, 45, 46, 47] (by decide +kernel) (by decide +kernel)
set_option maxRecDepth 20000 in
theorem gX8_isTooBig_X6_size : GoodIn wsX8_isTooBig (wsV RX8 88 RX6 yX6_size wsX6_size) := goodIn_app (goodIn_of _ (by decide +kernel)) ggX8_isTooBig_X6_size
set_option maxRecDepth 20000 in
theorem ggX8_isTooBig_X6_needs : GoodIn wsX8_isTooBig wsX6_needs := goodIn_r _ [12, 13, 14, 42, 43, 44, 45, 46, 47] (by decide +kernel) (by decide +kernel)
set_option maxRecDepth 20000 in
theorem gX8_isTooBig_X6_needs : GoodIn wsX8_isTooBig (wsV RX8 130 RX6 yX6_needs wsX6_needs) := goodIn_app (goodIn_of _ (by decide +kernel)) ggX8_isTooBig_X6_needs
set_option maxRecDepth 20000 in
theorem ggX8_isTooBig_X3_holds : GoodIn wsX8_isTooBig wsX3_holds := goodIn_r _ [19, 20, 21, 22, 23, 18, 24, 25, 26, 27, 28, 29, 30, 31, 32, 48, 49] (by decide +kernel) (by decide +kernel)
set_option maxRecDepth 20000 in
theorem gX8_isTooBig_X3_holds : GoodIn wsX8_isTooBig (wsV RX8 253 RX3 yX3_holds wsX3_holds) := goodIn_app (goodIn_of _ (by decide +kernel)) ggX8_isTooBig_X3_holds
theorem dX8_isTooBig_0 : decode cX8_isTooBig 0 = .ok (.iconst 0, 1) := by decide +kernel
theorem dX8_isTooBig_1 : decode cX8_isTooBig 1 = .ok (.istore_n 1, 1) := by decide +kernel
theorem dX8_isTooBig_2 : decode cX8_isTooBig 2 = .ok (.iload_n 1, 1) := by decide +kernel
theorem dX8_isTooBig_3 : decode cX8_isTooBig 3 = .ok (.aload_n 0, 1) := by decide +kernel
theorem dX8_isTooBig_4 : decode cX8_isTooBig 4 = .ok (.getfield 26, 3) := by decide +kernel
theorem dX8_isTooBig_7 : decode cX8_isTooBig 7 = .ok (.invokevirtual 88, 3) := by decide +kernel
theorem dX8_isTooBig_10 : decode cX8_isTooBig 10 = .ok (.if_icmp .ge 29, 3) := by decide +kernel
theorem dX8_isTooBig_13 : decode cX8_isTooBig 13 = .ok (.aload_n 0, 1) := by decide +kernel
theorem dX8_isTooBig_14 : decode cX8_isTooBig 14 = .ok (.getfield 19, 3) := by decide +kernel
theorem dX8_isTooBig_17 : decode cX8_isTooBig 17 = .ok (.aload_n 0, 1) := by decide +kernel
theorem dX8_isTooBig_18 : decode cX8_isTooBig 18 = .ok (.getfield 26, 3) := by decide +kernel
theorem dX8_isTooBig_21 : decode cX8_isTooBig 21 = .ok (.iload_n 1, 1) := by decide +kernel
theorem dX8_isTooBig_22 : decode cX8_isTooBig 22 = .ok (.invokevirtual 130, 3) := by decide +kernel
theorem dX8_isTooBig_25 : decode cX8_isTooBig 25 = .ok (.invokevirtual 253, 3) := by decide +kernel
theorem dX8_isTooBig_28 : decode cX8_isTooBig 28 = .ok (.ifCond .ne 5, 3) := by decide +kernel
theorem dX8_isTooBig_31 : decode cX8_isTooBig 31 = .ok (.iconst 1, 1) := by decide +kernel
theorem dX8_isTooBig_32 : decode cX8_isTooBig 32 = .ok (.ireturn, 1) := by decide +kernel
theorem dX8_isTooBig_33 : decode cX8_isTooBig 33 = .ok (.iinc 1 1, 3) := by decide +kernel
theorem dX8_isTooBig_36 : decode cX8_isTooBig 36 = .ok (.goto (-34), 3) := by decide +kernel
theorem dX8_isTooBig_39 : decode cX8_isTooBig 39 = .ok (.iconst 0, 1) := by decide +kernel
theorem dX8_isTooBig_40 : decode cX8_isTooBig 40 = .ok (.ireturn, 1) := by decide +kernel
theorem dX8_forgetKeepings_0 : decode cX8_forgetKeepings 0 = .ok (.aload_n 0, 1) := by decide +kernel
theorem dX8_forgetKeepings_1 : decode cX8_forgetKeepings 1 = .ok (.iconst 0, 1) := by decide +kernel
theorem dX8_forgetKeepings_2 : decode cX8_forgetKeepings 2 = .ok (.putfield 256, 3) := by decide +kernel
theorem dX8_forgetKeepings_5 : decode cX8_forgetKeepings 5 = .ok (.aload_n 0, 1) := by decide +kernel
theorem dX8_forgetKeepings_6 : decode cX8_forgetKeepings 6 = .ok (.iconst 0, 1) := by decide +kernel
theorem dX8_forgetKeepings_7 : decode cX8_forgetKeepings 7 = .ok (.putfield 260, 3) := by decide +kernel
theorem dX8_forgetKeepings_10 : decode cX8_forgetKeepings 10 = .ok (.return_, 1) := by decide +kernel
set_option maxRecDepth 20000 in
theorem ggX8_standKeepings_X1_keepAll : GoodIn wsX8_standKeepings wsX1_keepAll := goodIn_r _ [10, 11, 12, 13, 14, 15, 16, 17, 18, 19, 20, 21, 22, 23, 24, 25, 26, 27, 28, 29, 30, 31, 32, 33, 34, 35, 36, 37, 38, 39, 40, 41, 42, 43, 44, 45, 46, 47, 48, 49, 50, 51, 52, 53, 54, 55, 56, 57, 58, 59, 60, 61, 62, 63, 64, 65, 66, 67, 68, 69, 70, 71, 72, 73, 74, 75, 76, 77, 78, 79, 80, 81, 82, 83, 84, 85, 86, 87, 88, 89, 90, 91, 92, 93, 94, 95, 96, 97, 98, 99, 100, 101, 102, 144, 145, 146, 147, 148, 149, 150, 151, 152, 153, 154, 155, 156, 157, 158, 159, 160, 161, 162, 163, 164, 165, 166] (by decide +kernel) (by decide +kernel)
set_option maxRecDepth 20000 in
theorem gX8_standKeepings_X1_keepAll_u263X5 : GoodIn wsX8_standKeepings (va_wsU RX8 263 RX5 "PocketKeeper$Keeping" ⟨"PocketKeeper$Keeping", "keepAll", "()V"⟩ yX1_keepAll wsX1_keepAll) := goodIn_app (goodIn_of _ (by decide +kernel)) ggX8_standKeepings_X1_keepAll
set_option maxRecDepth 20000 in
theorem gX8_standKeepings_X1_keepAll_u263X7 : GoodIn wsX8_standKeepings (va_wsU RX8 263 RX7 "PocketKeeper$Keeping" ⟨"PocketKeeper$Keeping", "keepAll", "()V"⟩ yX1_keepAll wsX1_keepAll) := goodIn_app (goodIn_of _ (by decide +kernel)) ggX8_standKeepings_X1_keepAll
set_option maxRecDepth 20000 in
theorem ggX8_standKeepings_X2_least : GoodIn wsX8_standKeepings wsX2_least := goodIn_r _ [107, 108, 109, 40, 110, 111, 112, 37, 113, 39, 114, 16, 17, 18, 19, 20, 115, 22, 23, 24, 25, 26, 116, 100, 101, 102, 93, 117, 118, 119, 120, 44, 45, 46, 47, 48, 49, 50, 51, 52, 53, 41, 42, 43, 121, 67, 68, 69, 70, 71, 72, 73, 74, 75, 76, 77, 122, 123, 124, 125, 126, 127, 128, 129, 130, 131, 132, 133, 134, 82, 83, 84, 54, 55, 56, 161, 162, 163, 164, 155, 156, 157, 158, 159, 160, 165, 166] (by decide +kernel) (by decide +kernel)
set_option maxRecDepth 20000 in
theorem gX8_standKeepings_X2_least : GoodIn wsX8_standKeepings (wsV RX8 266 RX2 yX2_least wsX2_least) := goodIn_app (goodIn_of _ (by decide +kernel)) ggX8_standKeepings_X2_least
theorem dX8_standKeepings_0 : decode cX8_standKeepings 0 = .ok (.aload_n 0, 1) := by decide +kernel
theorem dX8_standKeepings_1 : decode cX8_standKeepings 1 = .ok (.getfield 256, 3) := by decide +kernel
theorem dX8_standKeepings_4 : decode cX8_standKeepings 4 = .ok (.ifCond .ne 30, 3) := by decide +kernel
theorem dX8_standKeepings_7 : decode cX8_standKeepings 7 = .ok (.aload_n 0, 1) := by decide +kernel
theorem dX8_standKeepings_8 : decode cX8_standKeepings 8 = .ok (.getfield 42, 3) := by decide +kernel
theorem dX8_standKeepings_11 : decode cX8_standKeepings 11 = .ok (.invokevirtual 263, 3) := by decide +kernel
theorem dX8_standKeepings_14 : decode cX8_standKeepings 14 = .ok (.aload_n 0, 1) := by decide +kernel
theorem dX8_standKeepings_15 : decode cX8_standKeepings 15 = .ok (.getfield 35, 3) := by decide +kernel
theorem dX8_standKeepings_18 : decode cX8_standKeepings 18 = .ok (.invokevirtual 266, 3) := by decide +kernel
theorem dX8_standKeepings_21 : decode cX8_standKeepings 21 = .ok (.pop, 1) := by decide +kernel
theorem dX8_standKeepings_22 : decode cX8_standKeepings 22 = .ok (.aload_n 0, 1) := by decide +kernel
theorem dX8_standKeepings_23 : decode cX8_standKeepings 23 = .ok (.getfield 51, 3) := by decide +kernel
theorem dX8_standKeepings_26 : decode cX8_standKeepings 26 = .ok (.invokevirtual 263, 3) := by decide +kernel
theorem dX8_standKeepings_29 : decode cX8_standKeepings 29 = .ok (.aload_n 0, 1) := by decide +kernel
theorem dX8_standKeepings_30 : decode cX8_standKeepings 30 = .ok (.iconst 1, 1) := by decide +kernel
theorem dX8_standKeepings_31 : decode cX8_standKeepings 31 = .ok (.putfield 256, 3) := by decide +kernel
theorem dX8_standKeepings_34 : decode cX8_standKeepings 34 = .ok (.return_, 1) := by decide +kernel
set_option maxRecDepth 20000 in
theorem ggX8_standExchange_X0_find : GoodIn wsX8_standExchange wsX0_find := goodIn_r _ [7, 8, 9, 10, 11, 12, 13, 14, 15, 16, 17, 18, 19, 20, 21, 22, 23, 24, 25, 26, 27, 28, 29, 30, 31, 32, 33, 34, 35, 36, 37, 38, 39, 40, 41, 42, 43, 44, 45, 46, 47, 48, 49, 50, 51, 52, 53, 54, 55, 56, 57, 58, 59, 60, 61, 62, 63, 64, 65, 66, 67, 68, 69, 70, 71, 72, 73, 74, 75, 76, 77, 78, 79, 80, 81, 82, 83, 84, 85, 86, 87, 88, 89, 90, 91, 92, 93, 94, 95, 96, 97, 6, 98, 99, 100, 110, 111, 112, 113, 114, 115, 116, 117, 118, 119, 120, 121, 122, 123, 124, 125, 126, 127] (by decide +kernel) (by decide +kernel)
set_option maxRecDepth 20000 in
theorem gX8_standExchange_X0_find : GoodIn wsX8_standExchange (wsV RX8 269 RX0 yX0_find wsX0_find) := goodIn_app (goodIn_of _ (by decide +kernel)) ggX8_standExchange_X0_find
theorem dX8_standExchange_0 : decode cX8_standExchange 0 = .ok (.aload_n 0, 1) := by decide +kernel
theorem dX8_standExchange_1 : decode cX8_standExchange 1 = .ok (.getfield 260, 3) := by decide +kernel
theorem dX8_standExchange_4 : decode cX8_standExchange 4 = .ok (.ifCond .ne 15, 3) := by decide +kernel
theorem dX8_standExchange_7 : decode cX8_standExchange 7 = .ok (.aload_n 0, 1) := by decide +kernel
theorem dX8_standExchange_8 : decode cX8_standExchange 8 = .ok (.getfield 59, 3) := by decide +kernel
theorem dX8_standExchange_11 : decode cX8_standExchange 11 = .ok (.invokevirtual 269, 3) := by decide +kernel
theorem dX8_standExchange_14 : decode cX8_standExchange 14 = .ok (.aload_n 0, 1) := by decide +kernel
theorem dX8_standExchange_15 : decode cX8_standExchange 15 = .ok (.iconst 1, 1) := by decide +kernel
theorem dX8_standExchange_16 : decode cX8_standExchange 16 = .ok (.putfield 260, 3) := by decide +kernel
theorem dX8_standExchange_19 : decode cX8_standExchange 19 = .ok (.return_, 1) := by decide +kernel
theorem dX8_isTool_0 : decode cX8_isTool 0 = .ok (.iload_n 0, 1) := by decide +kernel
theorem dX8_isTool_1 : decode cX8_isTool 1 = .ok (.ifCond .lt 13, 3) := by decide +kernel
theorem dX8_isTool_4 : decode cX8_isTool 4 = .ok (.iload_n 0, 1) := by decide +kernel
theorem dX8_isTool_5 : decode cX8_isTool 5 = .ok (.bipush 8, 2) := by decide +kernel
theorem dX8_isTool_7 : decode cX8_isTool 7 = .ok (.if_icmp .ge 7, 3) := by decide +kernel
theorem dX8_isTool_10 : decode cX8_isTool 10 = .ok (.iconst 1, 1) := by decide +kernel
theorem dX8_isTool_11 : decode cX8_isTool 11 = .ok (.goto 4, 3) := by decide +kernel
theorem dX8_isTool_14 : decode cX8_isTool 14 = .ok (.iconst 0, 1) := by decide +kernel
theorem dX8_isTool_15 : decode cX8_isTool 15 = .ok (.ireturn, 1) := by decide +kernel
theorem dX8_hasTool_0 : decode cX8_hasTool 0 = .ok (.iload_n 0, 1) := by decide +kernel
theorem dX8_hasTool_1 : decode cX8_hasTool 1 = .ok (.iload_n 1, 1) := by decide +kernel
theorem dX8_hasTool_2 : decode cX8_hasTool 2 = .ok (.ishr, 1) := by decide +kernel
theorem dX8_hasTool_3 : decode cX8_hasTool 3 = .ok (.iconst 1, 1) := by decide +kernel
theorem dX8_hasTool_4 : decode cX8_hasTool 4 = .ok (.iand, 1) := by decide +kernel
theorem dX8_hasTool_5 : decode cX8_hasTool 5 = .ok (.iconst 1, 1) := by decide +kernel
theorem dX8_hasTool_6 : decode cX8_hasTool 6 = .ok (.if_icmp .ne 7, 3) := by decide +kernel
theorem dX8_hasTool_9 : decode cX8_hasTool 9 = .ok (.iconst 1, 1) := by decide +kernel
theorem dX8_hasTool_10 : decode cX8_hasTool 10 = .ok (.goto 4, 3) := by decide +kernel
theorem dX8_hasTool_13 : decode cX8_hasTool 13 = .ok (.iconst 0, 1) := by decide +kernel
theorem dX8_hasTool_14 : decode cX8_hasTool 14 = .ok (.ireturn, 1) := by decide +kernel
theorem dX8_withTool_0 : decode cX8_withTool 0 = .ok (.iload_n 2, 1) := by decide +kernel
theorem dX8_withTool_1 : decode cX8_withTool 1 = .ok (.ifCond .eq 11, 3) := by decide +kernel
theorem dX8_withTool_4 : decode cX8_withTool 4 = .ok (.iload_n 0, 1) := by decide +kernel
theorem dX8_withTool_5 : decode cX8_withTool 5 = .ok (.iconst 1, 1) := by decide +kernel
theorem dX8_withTool_6 : decode cX8_withTool 6 = .ok (.iload_n 1, 1) := by decide +kernel
theorem dX8_withTool_7 : decode cX8_withTool 7 = .ok (.ishl, 1) := by decide +kernel
theorem dX8_withTool_8 : decode cX8_withTool 8 = .ok (.ior, 1) := by decide +kernel
theorem dX8_withTool_9 : decode cX8_withTool 9 = .ok (.goto 10, 3) := by decide +kernel
theorem dX8_withTool_12 : decode cX8_withTool 12 = .ok (.iload_n 0, 1) := by decide +kernel
theorem dX8_withTool_13 : decode cX8_withTool 13 = .ok (.iconst 1, 1) := by decide +kernel
theorem dX8_withTool_14 : decode cX8_withTool 14 = .ok (.iload_n 1, 1) := by decide +kernel
theorem dX8_withTool_15 : decode cX8_withTool 15 = .ok (.ishl, 1) := by decide +kernel
theorem dX8_withTool_16 : decode cX8_withTool 16 = .ok (.iconst (-1), 1) := by decide +kernel
theorem dX8_withTool_17 : decode cX8_withTool 17 = .ok (.ixor, 1) := by decide +kernel
theorem dX8_withTool_18 : decode cX8_withTool 18 = .ok (.iand, 1) := by decide +kernel
theorem dX8_withTool_19 : decode cX8_withTool 19 = .ok (.ireturn, 1) := by decide +kernel
theorem dX8_bitsOfDouble_0 : decode cX8_bitsOfDouble 0 = .ok (.dload_n 0, 1) := by decide +kernel
theorem dX8_bitsOfDouble_1 : decode cX8_bitsOfDouble 1 = .ok (.dstore_n 2, 1) := by decide +kernel
theorem dX8_bitsOfDouble_2 : decode cX8_bitsOfDouble 2 = .ok (.ldc2_w 272, 3) := by decide +kernel
theorem dX8_bitsOfDouble_5 : decode cX8_bitsOfDouble 5 = .ok (.lstore 4, 2) := by decide +kernel
theorem dX8_bitsOfDouble_7 : decode cX8_bitsOfDouble 7 = .ok (.iconst 0, 1) := by decide +kernel
theorem dX8_bitsOfDouble_8 : decode cX8_bitsOfDouble 8 = .ok (.istore 6, 2) := by decide +kernel
theorem dX8_bitsOfDouble_10 : decode cX8_bitsOfDouble 10 = .ok (.iload 6, 2) := by decide +kernel
theorem dX8_bitsOfDouble_12 : decode cX8_bitsOfDouble 12 = .ok (.bipush 16, 2) := by decide +kernel
theorem dX8_bitsOfDouble_14 : decode cX8_bitsOfDouble 14 = .ok (.if_icmp .ge 29, 3) := by decide +kernel
theorem dX8_bitsOfDouble_17 : decode cX8_bitsOfDouble 17 = .ok (.dload_n 2, 1) := by decide +kernel
theorem dX8_bitsOfDouble_18 : decode cX8_bitsOfDouble 18 = .ok (.ldc2_w 274, 3) := by decide +kernel
theorem dX8_bitsOfDouble_21 : decode cX8_bitsOfDouble 21 = .ok (.dcmp .l, 1) := by decide +kernel
theorem dX8_bitsOfDouble_22 : decode cX8_bitsOfDouble 22 = .ok (.ifCond .lt 21, 3) := by decide +kernel
theorem dX8_bitsOfDouble_25 : decode cX8_bitsOfDouble 25 = .ok (.dload_n 2, 1) := by decide +kernel
theorem dX8_bitsOfDouble_26 : decode cX8_bitsOfDouble 26 = .ok (.ldc2_w 274, 3) := by decide +kernel
theorem dX8_bitsOfDouble_29 : decode cX8_bitsOfDouble 29 = .ok (.ddiv, 1) := by decide +kernel
theorem dX8_bitsOfDouble_30 : decode cX8_bitsOfDouble 30 = .ok (.dstore_n 2, 1) := by decide +kernel
theorem dX8_bitsOfDouble_31 : decode cX8_bitsOfDouble 31 = .ok (.lload 4, 2) := by decide +kernel
theorem dX8_bitsOfDouble_33 : decode cX8_bitsOfDouble 33 = .ok (.lconst 1, 1) := by decide +kernel
theorem dX8_bitsOfDouble_34 : decode cX8_bitsOfDouble 34 = .ok (.ladd, 1) := by decide +kernel
theorem dX8_bitsOfDouble_35 : decode cX8_bitsOfDouble 35 = .ok (.lstore 4, 2) := by decide +kernel
theorem dX8_bitsOfDouble_37 : decode cX8_bitsOfDouble 37 = .ok (.iinc 6 1, 3) := by decide +kernel
theorem dX8_bitsOfDouble_40 : decode cX8_bitsOfDouble 40 = .ok (.goto (-30), 3) := by decide +kernel
theorem dX8_bitsOfDouble_43 : decode cX8_bitsOfDouble 43 = .ok (.iconst 0, 1) := by decide +kernel
theorem dX8_bitsOfDouble_44 : decode cX8_bitsOfDouble 44 = .ok (.istore 6, 2) := by decide +kernel
theorem dX8_bitsOfDouble_46 : decode cX8_bitsOfDouble 46 = .ok (.iload 6, 2) := by decide +kernel
theorem dX8_bitsOfDouble_48 : decode cX8_bitsOfDouble 48 = .ok (.bipush 16, 2) := by decide +kernel
theorem dX8_bitsOfDouble_50 : decode cX8_bitsOfDouble 50 = .ok (.if_icmp .ge 27, 3) := by decide +kernel
theorem dX8_bitsOfDouble_53 : decode cX8_bitsOfDouble 53 = .ok (.dload_n 2, 1) := by decide +kernel
theorem dX8_bitsOfDouble_54 : decode cX8_bitsOfDouble 54 = .ok (.dconst 1, 1) := by decide +kernel
theorem dX8_bitsOfDouble_55 : decode cX8_bitsOfDouble 55 = .ok (.dcmp .g, 1) := by decide +kernel
theorem dX8_bitsOfDouble_56 : decode cX8_bitsOfDouble 56 = .ok (.ifCond .ge 21, 3) := by decide +kernel
theorem dX8_bitsOfDouble_59 : decode cX8_bitsOfDouble 59 = .ok (.dload_n 2, 1) := by decide +kernel
theorem dX8_bitsOfDouble_60 : decode cX8_bitsOfDouble 60 = .ok (.ldc2_w 274, 3) := by decide +kernel
theorem dX8_bitsOfDouble_63 : decode cX8_bitsOfDouble 63 = .ok (.dmul, 1) := by decide +kernel
theorem dX8_bitsOfDouble_64 : decode cX8_bitsOfDouble 64 = .ok (.dstore_n 2, 1) := by decide +kernel
theorem dX8_bitsOfDouble_65 : decode cX8_bitsOfDouble 65 = .ok (.lload 4, 2) := by decide +kernel
theorem dX8_bitsOfDouble_67 : decode cX8_bitsOfDouble 67 = .ok (.lconst 1, 1) := by decide +kernel
theorem dX8_bitsOfDouble_68 : decode cX8_bitsOfDouble 68 = .ok (.lsub, 1) := by decide +kernel
theorem dX8_bitsOfDouble_69 : decode cX8_bitsOfDouble 69 = .ok (.lstore 4, 2) := by decide +kernel
theorem dX8_bitsOfDouble_71 : decode cX8_bitsOfDouble 71 = .ok (.iinc 6 1, 3) := by decide +kernel
theorem dX8_bitsOfDouble_74 : decode cX8_bitsOfDouble 74 = .ok (.goto (-28), 3) := by decide +kernel
theorem dX8_bitsOfDouble_77 : decode cX8_bitsOfDouble 77 = .ok (.lload 4, 2) := by decide +kernel
theorem dX8_bitsOfDouble_79 : decode cX8_bitsOfDouble 79 = .ok (.bipush 52, 2) := by decide +kernel
theorem dX8_bitsOfDouble_81 : decode cX8_bitsOfDouble 81 = .ok (.lshl, 1) := by decide +kernel
theorem dX8_bitsOfDouble_82 : decode cX8_bitsOfDouble 82 = .ok (.dload_n 2, 1) := by decide +kernel
theorem dX8_bitsOfDouble_83 : decode cX8_bitsOfDouble 83 = .ok (.dconst 1, 1) := by decide +kernel
theorem dX8_bitsOfDouble_84 : decode cX8_bitsOfDouble 84 = .ok (.dsub, 1) := by decide +kernel
theorem dX8_bitsOfDouble_85 : decode cX8_bitsOfDouble 85 = .ok (.ldc2_w 276, 3) := by decide +kernel
theorem dX8_bitsOfDouble_88 : decode cX8_bitsOfDouble 88 = .ok (.dmul, 1) := by decide +kernel
theorem dX8_bitsOfDouble_89 : decode cX8_bitsOfDouble 89 = .ok (.d2l, 1) := by decide +kernel
theorem dX8_bitsOfDouble_90 : decode cX8_bitsOfDouble 90 = .ok (.ladd, 1) := by decide +kernel
theorem dX8_bitsOfDouble_91 : decode cX8_bitsOfDouble 91 = .ok (.lreturn, 1) := by decide +kernel
theorem dX8_bitsOfFloat_0 : decode cX8_bitsOfFloat 0 = .ok (.fload_n 0, 1) := by decide +kernel
theorem dX8_bitsOfFloat_1 : decode cX8_bitsOfFloat 1 = .ok (.fstore_n 1, 1) := by decide +kernel
theorem dX8_bitsOfFloat_2 : decode cX8_bitsOfFloat 2 = .ok (.bipush 127, 2) := by decide +kernel
theorem dX8_bitsOfFloat_4 : decode cX8_bitsOfFloat 4 = .ok (.istore_n 2, 1) := by decide +kernel
theorem dX8_bitsOfFloat_5 : decode cX8_bitsOfFloat 5 = .ok (.iconst 0, 1) := by decide +kernel
theorem dX8_bitsOfFloat_6 : decode cX8_bitsOfFloat 6 = .ok (.istore_n 3, 1) := by decide +kernel
theorem dX8_bitsOfFloat_7 : decode cX8_bitsOfFloat 7 = .ok (.iload_n 3, 1) := by decide +kernel
theorem dX8_bitsOfFloat_8 : decode cX8_bitsOfFloat 8 = .ok (.bipush 16, 2) := by decide +kernel
theorem dX8_bitsOfFloat_10 : decode cX8_bitsOfFloat 10 = .ok (.if_icmp .ge 22, 3) := by decide +kernel
theorem dX8_bitsOfFloat_13 : decode cX8_bitsOfFloat 13 = .ok (.fload_n 1, 1) := by decide +kernel
theorem dX8_bitsOfFloat_14 : decode cX8_bitsOfFloat 14 = .ok (.fconst 2, 1) := by decide +kernel
theorem dX8_bitsOfFloat_15 : decode cX8_bitsOfFloat 15 = .ok (.fcmp .l, 1) := by decide +kernel
theorem dX8_bitsOfFloat_16 : decode cX8_bitsOfFloat 16 = .ok (.ifCond .lt 16, 3) := by decide +kernel
theorem dX8_bitsOfFloat_19 : decode cX8_bitsOfFloat 19 = .ok (.fload_n 1, 1) := by decide +kernel
theorem dX8_bitsOfFloat_20 : decode cX8_bitsOfFloat 20 = .ok (.fconst 2, 1) := by decide +kernel
theorem dX8_bitsOfFloat_21 : decode cX8_bitsOfFloat 21 = .ok (.fdiv, 1) := by decide +kernel
theorem dX8_bitsOfFloat_22 : decode cX8_bitsOfFloat 22 = .ok (.fstore_n 1, 1) := by decide +kernel
theorem dX8_bitsOfFloat_23 : decode cX8_bitsOfFloat 23 = .ok (.iinc 2 1, 3) := by decide +kernel
theorem dX8_bitsOfFloat_26 : decode cX8_bitsOfFloat 26 = .ok (.iinc 3 1, 3) := by decide +kernel
theorem dX8_bitsOfFloat_29 : decode cX8_bitsOfFloat 29 = .ok (.goto (-22), 3) := by decide +kernel
theorem dX8_bitsOfFloat_32 : decode cX8_bitsOfFloat 32 = .ok (.iload_n 2, 1) := by decide +kernel
theorem dX8_bitsOfFloat_33 : decode cX8_bitsOfFloat 33 = .ok (.bipush 23, 2) := by decide +kernel
theorem dX8_bitsOfFloat_35 : decode cX8_bitsOfFloat 35 = .ok (.ishl, 1) := by decide +kernel
theorem dX8_bitsOfFloat_36 : decode cX8_bitsOfFloat 36 = .ok (.fload_n 1, 1) := by decide +kernel
theorem dX8_bitsOfFloat_37 : decode cX8_bitsOfFloat 37 = .ok (.fconst 1, 1) := by decide +kernel
theorem dX8_bitsOfFloat_38 : decode cX8_bitsOfFloat 38 = .ok (.fsub, 1) := by decide +kernel
theorem dX8_bitsOfFloat_39 : decode cX8_bitsOfFloat 39 = .ok (.ldc_w 278, 3) := by decide +kernel
theorem dX8_bitsOfFloat_42 : decode cX8_bitsOfFloat 42 = .ok (.fmul, 1) := by decide +kernel
theorem dX8_bitsOfFloat_43 : decode cX8_bitsOfFloat 43 = .ok (.f2i, 1) := by decide +kernel
theorem dX8_bitsOfFloat_44 : decode cX8_bitsOfFloat 44 = .ok (.iadd, 1) := by decide +kernel
theorem dX8_bitsOfFloat_45 : decode cX8_bitsOfFloat 45 = .ok (.ireturn, 1) := by decide +kernel
theorem dX9_init_0 : decode cX9_init 0 = .ok (.aload_n 0, 1) := by decide +kernel
theorem dX9_init_1 : decode cX9_init 1 = .ok (.invokespecial 1, 3) := by decide +kernel
theorem dX9_init_4 : decode cX9_init 4 = .ok (.aload_n 0, 1) := by decide +kernel
theorem dX9_init_5 : decode cX9_init 5 = .ok (.bipush 71, 2) := by decide +kernel
theorem dX9_init_7 : decode cX9_init 7 = .ok (.newarray .int, 2) := by decide +kernel
theorem dX9_init_9 : decode cX9_init 9 = .ok (.putfield 7, 3) := by decide +kernel
theorem dX9_init_12 : decode cX9_init 12 = .ok (.aload_n 0, 1) := by decide +kernel
theorem dX9_init_13 : decode cX9_init 13 = .ok (.bipush 8, 2) := by decide +kernel
theorem dX9_init_15 : decode cX9_init 15 = .ok (.newarray .int, 2) := by decide +kernel
theorem dX9_init_17 : decode cX9_init 17 = .ok (.putfield 13, 3) := by decide +kernel
theorem dX9_init_20 : decode cX9_init 20 = .ok (.aload_n 0, 1) := by decide +kernel
theorem dX9_init_21 : decode cX9_init 21 = .ok (.bipush 8, 2) := by decide +kernel
theorem dX9_init_23 : decode cX9_init 23 = .ok (.newarray .int, 2) := by decide +kernel
theorem dX9_init_25 : decode cX9_init 25 = .ok (.putfield 16, 3) := by decide +kernel
theorem dX9_init_28 : decode cX9_init 28 = .ok (.aload_n 0, 1) := by decide +kernel
theorem dX9_init_29 : decode cX9_init 29 = .ok (.bipush 8, 2) := by decide +kernel
theorem dX9_init_31 : decode cX9_init 31 = .ok (.newarray .int, 2) := by decide +kernel
theorem dX9_init_33 : decode cX9_init 33 = .ok (.putfield 19, 3) := by decide +kernel
theorem dX9_init_36 : decode cX9_init 36 = .ok (.aload_n 0, 1) := by decide +kernel
theorem dX9_init_37 : decode cX9_init 37 = .ok (.iconst 4, 1) := by decide +kernel
theorem dX9_init_38 : decode cX9_init 38 = .ok (.putfield 22, 3) := by decide +kernel
theorem dX9_init_41 : decode cX9_init 41 = .ok (.aload_n 0, 1) := by decide +kernel
theorem dX9_init_42 : decode cX9_init 42 = .ok (.bipush 8, 2) := by decide +kernel
theorem dX9_init_44 : decode cX9_init 44 = .ok (.newarray .int, 2) := by decide +kernel
theorem dX9_init_46 : decode cX9_init 46 = .ok (.putfield 26, 3) := by decide +kernel
theorem dX9_init_49 : decode cX9_init 49 = .ok (.aload_n 0, 1) := by decide +kernel
