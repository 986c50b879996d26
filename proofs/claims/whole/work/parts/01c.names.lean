theorem dX0_init_0 : decode cX0_init 0 = .ok (.aload_n 0, 1) := by decide +kernel
theorem dX0_init_1 : decode cX0_init 1 = .ok (.invokespecial 1, 3) := by decide +kernel
theorem dX0_init_4 : decode cX0_init 4 = .ok (.aload_n 0, 1) := by decide +kernel
theorem dX0_init_5 : decode cX0_init 5 = .ok (.aload_n 1, 1) := by decide +kernel
theorem dX0_init_6 : decode cX0_init 6 = .ok (.putfield 7, 3) := by decide +kernel
theorem dX0_init_9 : decode cX0_init 9 = .ok (.aload_n 0, 1) := by decide +kernel
theorem dX0_init_10 : decode cX0_init 10 = .ok (.aload_n 2, 1) := by decide +kernel
theorem dX0_init_11 : decode cX0_init 11 = .ok (.putfield 13, 3) := by decide +kernel
theorem dX0_init_14 : decode cX0_init 14 = .ok (.return_, 1) := by decide +kernel
theorem dX0_isFound_0 : decode cX0_isFound 0 = .ok (.aload_n 0, 1) := by decide +kernel
theorem dX0_isFound_1 : decode cX0_isFound 1 = .ok (.getfield 17, 3) := by decide +kernel
theorem dX0_isFound_4 : decode cX0_isFound 4 = .ok (.ireturn, 1) := by decide +kernel
theorem dX0_first_0 : decode cX0_first 0 = .ok (.aload_n 0, 1) := by decide +kernel
theorem dX0_first_1 : decode cX0_first 1 = .ok (.getfield 21, 3) := by decide +kernel
theorem dX0_first_4 : decode cX0_first 4 = .ok (.ireturn, 1) := by decide +kernel
theorem dX0_second_0 : decode cX0_second 0 = .ok (.aload_n 0, 1) := by decide +kernel
theorem dX0_second_1 : decode cX0_second 1 = .ok (.getfield 25, 3) := by decide +kernel
theorem dX0_second_4 : decode cX0_second 4 = .ok (.ireturn, 1) := by decide +kernel
theorem dX0_leastThen_0 : decode cX0_leastThen 0 = .ok (.aload_n 0, 1) := by decide +kernel
theorem dX0_leastThen_1 : decode cX0_leastThen 1 = .ok (.getfield 28, 3) := by decide +kernel
theorem dX0_leastThen_4 : decode cX0_leastThen 4 = .ok (.ireturn, 1) := by decide +kernel
set_option maxRecDepth 20000 in
theorem ggX0_find_X2_least : GoodIn wsX0_find wsX2_least := goodIn_r _ [9, 10, 11, 12, 13, 14, 15, 8, 16, 17, 18, 19, 20, 21, 22, 23, 24, 25, 26, 27, 28, 29, 30, 31, 32, 33, 34, 35, 36, 37, 38, 39, 40, 41, 42, 43, 44, 45, 46, 47, 48, 49, 50, 51, 52, 53, 54, 55, 56, 57, 58, 59, 60, 61, 62, 63, 64, 65, 66, 67, 68, 69, 70, 71, 72, 73, 74, 75, 76, 77, 78, 79, 80, 81, 82, 101, 102, 103, 104, 105, 106, 107, 108, 109, 110, 111, 112] (by decide +kernel) (by decide +kernel)
set_option maxRecDepth 20000 in
theorem gX0_find_X2_least : GoodIn wsX0_find (wsV RX0 31 RX2 yX2_least wsX2_least) := goodIn_app (goodIn_of _ (by decide +kernel)) ggX0_find_X2_least
set_option maxRecDepth 20000 in
theorem ggX0_find_X6_size : GoodIn wsX0_find wsX6_size := goodIn_r _ [22, 23, 105, 106, 107, 108, 109, 110] (by decide +kernel) (by decide +kernel)
set_option maxRecDepth 20000 in
theorem gX0_find_X6_size : GoodIn wsX0_find (wsV RX0 37 RX6 yX6_size wsX6_size) := goodIn_app (goodIn_of _ (by decide +kernel)) ggX0_find_X6_size
set_option maxRecDepth 20000 in
theorem ggX0_find_X6_exchange : GoodIn wsX0_find wsX6_exchange := goodIn_r _ [87, 29, 105, 106, 107, 108, 109, 110] (by decide +kernel) (by decide +kernel)
set_option maxRecDepth 20000 in
theorem gX0_find_X6_exchange : GoodIn wsX0_find (wsV RX0 42 RX6 yX6_exchange wsX6_exchange) := goodIn_app (goodIn_of _ (by decide +kernel)) ggX0_find_X6_exchange
set_option maxRecDepth 20000 in
theorem ggX0_find_X0_note : GoodIn wsX0_find wsX0_note := goodIn_r _ [92, 1, 93, 94, 3, 95, 96, 97, 98, 99, 100] (by decide +kernel) (by decide +kernel)
set_option maxRecDepth 20000 in
theorem gX0_find_X0_note : GoodIn wsX0_find (wsV RX0 46 RX0 yX0_note wsX0_note) := goodIn_app (goodIn_of _ (by decide +kernel)) ggX0_find_X0_note
theorem dX0_find_0 : decode cX0_find 0 = .ok (.aload_n 0, 1) := by decide +kernel
theorem dX0_find_1 : decode cX0_find 1 = .ok (.iconst 0, 1) := by decide +kernel
theorem dX0_find_2 : decode cX0_find 2 = .ok (.putfield 17, 3) := by decide +kernel
theorem dX0_find_5 : decode cX0_find 5 = .ok (.aload_n 0, 1) := by decide +kernel
theorem dX0_find_6 : decode cX0_find 6 = .ok (.aload_n 0, 1) := by decide +kernel
theorem dX0_find_7 : decode cX0_find 7 = .ok (.getfield 13, 3) := by decide +kernel
theorem dX0_find_10 : decode cX0_find 10 = .ok (.invokevirtual 31, 3) := by decide +kernel
theorem dX0_find_13 : decode cX0_find 13 = .ok (.putfield 28, 3) := by decide +kernel
theorem dX0_find_16 : decode cX0_find 16 = .ok (.iconst 0, 1) := by decide +kernel
theorem dX0_find_17 : decode cX0_find 17 = .ok (.istore_n 1, 1) := by decide +kernel
theorem dX0_find_18 : decode cX0_find 18 = .ok (.iload_n 1, 1) := by decide +kernel
theorem dX0_find_19 : decode cX0_find 19 = .ok (.aload_n 0, 1) := by decide +kernel
theorem dX0_find_20 : decode cX0_find 20 = .ok (.getfield 7, 3) := by decide +kernel
theorem dX0_find_23 : decode cX0_find 23 = .ok (.invokevirtual 37, 3) := by decide +kernel
theorem dX0_find_26 : decode cX0_find 26 = .ok (.if_icmp .ge 71, 3) := by decide +kernel
theorem dX0_find_29 : decode cX0_find 29 = .ok (.iload_n 1, 1) := by decide +kernel
theorem dX0_find_30 : decode cX0_find 30 = .ok (.iconst 1, 1) := by decide +kernel
theorem dX0_find_31 : decode cX0_find 31 = .ok (.iadd, 1) := by decide +kernel
theorem dX0_find_32 : decode cX0_find 32 = .ok (.istore_n 2, 1) := by decide +kernel
theorem dX0_find_33 : decode cX0_find 33 = .ok (.iload_n 2, 1) := by decide +kernel
theorem dX0_find_34 : decode cX0_find 34 = .ok (.aload_n 0, 1) := by decide +kernel
theorem dX0_find_35 : decode cX0_find 35 = .ok (.getfield 7, 3) := by decide +kernel
theorem dX0_find_38 : decode cX0_find 38 = .ok (.invokevirtual 37, 3) := by decide +kernel
theorem dX0_find_41 : decode cX0_find 41 = .ok (.if_icmp .ge 50, 3) := by decide +kernel
theorem dX0_find_44 : decode cX0_find 44 = .ok (.aload_n 0, 1) := by decide +kernel
theorem dX0_find_45 : decode cX0_find 45 = .ok (.getfield 7, 3) := by decide +kernel
theorem dX0_find_48 : decode cX0_find 48 = .ok (.iload_n 1, 1) := by decide +kernel
theorem dX0_find_49 : decode cX0_find 49 = .ok (.iload_n 2, 1) := by decide +kernel
theorem dX0_find_50 : decode cX0_find 50 = .ok (.invokevirtual 42, 3) := by decide +kernel
theorem dX0_find_53 : decode cX0_find 53 = .ok (.aload_n 0, 1) := by decide +kernel
theorem dX0_find_54 : decode cX0_find 54 = .ok (.getfield 13, 3) := by decide +kernel
theorem dX0_find_57 : decode cX0_find 57 = .ok (.invokevirtual 31, 3) := by decide +kernel
theorem dX0_find_60 : decode cX0_find 60 = .ok (.istore_n 3, 1) := by decide +kernel
theorem dX0_find_61 : decode cX0_find 61 = .ok (.aload_n 0, 1) := by decide +kernel
theorem dX0_find_62 : decode cX0_find 62 = .ok (.getfield 7, 3) := by decide +kernel
theorem dX0_find_65 : decode cX0_find 65 = .ok (.iload_n 1, 1) := by decide +kernel
theorem dX0_find_66 : decode cX0_find 66 = .ok (.iload_n 2, 1) := by decide +kernel
theorem dX0_find_67 : decode cX0_find 67 = .ok (.invokevirtual 42, 3) := by decide +kernel
theorem dX0_find_70 : decode cX0_find 70 = .ok (.iload_n 3, 1) := by decide +kernel
theorem dX0_find_71 : decode cX0_find 71 = .ok (.aload_n 0, 1) := by decide +kernel
theorem dX0_find_72 : decode cX0_find 72 = .ok (.getfield 28, 3) := by decide +kernel
theorem dX0_find_75 : decode cX0_find 75 = .ok (.if_icmp .ge 10, 3) := by decide +kernel
theorem dX0_find_78 : decode cX0_find 78 = .ok (.aload_n 0, 1) := by decide +kernel
theorem dX0_find_79 : decode cX0_find 79 = .ok (.iload_n 1, 1) := by decide +kernel
theorem dX0_find_80 : decode cX0_find 80 = .ok (.iload_n 2, 1) := by decide +kernel
theorem dX0_find_81 : decode cX0_find 81 = .ok (.iload_n 3, 1) := by decide +kernel
theorem dX0_find_82 : decode cX0_find 82 = .ok (.invokevirtual 46, 3) := by decide +kernel
theorem dX0_find_85 : decode cX0_find 85 = .ok (.iinc 2 1, 3) := by decide +kernel
theorem dX0_find_88 : decode cX0_find 88 = .ok (.goto (-55), 3) := by decide +kernel
theorem dX0_find_91 : decode cX0_find 91 = .ok (.iinc 1 1, 3) := by decide +kernel
theorem dX0_find_94 : decode cX0_find 94 = .ok (.goto (-76), 3) := by decide +kernel
theorem dX0_find_97 : decode cX0_find 97 = .ok (.return_, 1) := by decide +kernel
theorem dX0_note_0 : decode cX0_note 0 = .ok (.aload_n 0, 1) := by decide +kernel
theorem dX0_note_1 : decode cX0_note 1 = .ok (.iconst 1, 1) := by decide +kernel
theorem dX0_note_2 : decode cX0_note 2 = .ok (.putfield 17, 3) := by decide +kernel
theorem dX0_note_5 : decode cX0_note 5 = .ok (.aload_n 0, 1) := by decide +kernel
theorem dX0_note_6 : decode cX0_note 6 = .ok (.iload_n 1, 1) := by decide +kernel
theorem dX0_note_7 : decode cX0_note 7 = .ok (.putfield 21, 3) := by decide +kernel
theorem dX0_note_10 : decode cX0_note 10 = .ok (.aload_n 0, 1) := by decide +kernel
theorem dX0_note_11 : decode cX0_note 11 = .ok (.iload_n 2, 1) := by decide +kernel
theorem dX0_note_12 : decode cX0_note 12 = .ok (.putfield 25, 3) := by decide +kernel
theorem dX0_note_15 : decode cX0_note 15 = .ok (.aload_n 0, 1) := by decide +kernel
theorem dX0_note_16 : decode cX0_note 16 = .ok (.iload_n 3, 1) := by decide +kernel
theorem dX0_note_17 : decode cX0_note 17 = .ok (.putfield 28, 3) := by decide +kernel
theorem dX0_note_20 : decode cX0_note 20 = .ok (.return_, 1) := by decide +kernel
theorem dX1_init_0 : decode cX1_init 0 = .ok (.aload_n 0, 1) := by decide +kernel
theorem dX1_init_1 : decode cX1_init 1 = .ok (.invokespecial 3, 3) := by decide +kernel
theorem dX1_init_4 : decode cX1_init 4 = .ok (.aload_n 0, 1) := by decide +kernel
theorem dX1_init_5 : decode cX1_init 5 = .ok (.bipush 8, 2) := by decide +kernel
theorem dX1_init_7 : decode cX1_init 7 = .ok (.newarray .int, 2) := by decide +kernel
theorem dX1_init_9 : decode cX1_init 9 = .ok (.putfield 9, 3) := by decide +kernel
theorem dX1_init_12 : decode cX1_init 12 = .ok (.aload_n 0, 1) := by decide +kernel
theorem dX1_init_13 : decode cX1_init 13 = .ok (.bipush 8, 2) := by decide +kernel
theorem dX1_init_15 : decode cX1_init 15 = .ok (.newarray .int, 2) := by decide +kernel
theorem dX1_init_17 : decode cX1_init 17 = .ok (.putfield 15, 3) := by decide +kernel
theorem dX1_init_20 : decode cX1_init 20 = .ok (.aload_n 0, 1) := by decide +kernel
theorem dX1_init_21 : decode cX1_init 21 = .ok (.bipush 8, 2) := by decide +kernel
theorem dX1_init_23 : decode cX1_init 23 = .ok (.newarray .int, 2) := by decide +kernel
theorem dX1_init_25 : decode cX1_init 25 = .ok (.putfield 18, 3) := by decide +kernel
theorem dX1_init_28 : decode cX1_init 28 = .ok (.aload_n 0, 1) := by decide +kernel
theorem dX1_init_29 : decode cX1_init 29 = .ok (.aload_n 1, 1) := by decide +kernel
theorem dX1_init_30 : decode cX1_init 30 = .ok (.putfield 21, 3) := by decide +kernel
theorem dX1_init_33 : decode cX1_init 33 = .ok (.aload_n 0, 1) := by decide +kernel
theorem dX1_init_34 : decode cX1_init 34 = .ok (.aload_n 2, 1) := by decide +kernel
theorem dX1_init_35 : decode cX1_init 35 = .ok (.putfield 25, 3) := by decide +kernel
theorem dX1_init_38 : decode cX1_init 38 = .ok (.return_, 1) := by decide +kernel
set_option maxRecDepth 20000 in
theorem ggX1_keepAll_X6_size : GoodIn wsX1_keepAll wsX6_size := goodIn_r _ [9, 10, 104, 105, 106, 107, 108, 109] (by decide +kernel) (by decide +kernel)
set_option maxRecDepth 20000 in
theorem gX1_keepAll_X6_size : GoodIn wsX1_keepAll (wsV RX1 29 RX6 yX6_size wsX6_size) := goodIn_app (goodIn_of _ (by decide +kernel)) ggX1_keepAll_X6_size
set_option maxRecDepth 20000 in
theorem ggX1_keepAll_X6_needs : GoodIn wsX1_keepAll wsX6_needs := goodIn_r _ [14, 15, 16, 104, 105, 106, 107, 108, 109] (by decide +kernel) (by decide +kernel)
set_option maxRecDepth 20000 in
theorem gX1_keepAll_X6_needs : GoodIn wsX1_keepAll (wsV RX1 35 RX6 yX6_needs wsX6_needs) := goodIn_app (goodIn_of _ (by decide +kernel)) ggX1_keepAll_X6_needs
set_option maxRecDepth 20000 in
theorem ggX1_keepAll_X5_staying : GoodIn wsX1_keepAll wsX5_staying := goodIn_r _ [22, 23, 24, 25, 26, 27, 28, 29, 30, 31, 32, 33, 34, 35, 36, 37, 38, 39, 40, 41, 42, 43, 44, 45, 46, 93, 94, 95, 96, 97, 98, 110, 111, 112, 113] (by decide +kernel) (by decide +kernel)
set_option maxRecDepth 20000 in
theorem gX1_keepAll_X5_staying_u39X5 : GoodIn wsX1_keepAll (va_wsU RX1 39 RX5 "PocketKeeper$Keeping" ⟨"PocketKeeper$Keeping", "staying", "(II)I"⟩ yX5_staying wsX5_staying) := goodIn_app (goodIn_of _ (by decide +kernel)) ggX1_keepAll_X5_staying
set_option maxRecDepth 20000 in
theorem ggX1_keepAll_X7_staying : GoodIn wsX1_keepAll wsX7_staying := goodIn_r _ [50, 51, 52, 53, 54, 55, 12, 13, 8, 14, 15, 16, 56, 57, 58, 59, 60, 61, 62, 63, 64, 65, 66, 67, 38, 39, 40, 41, 42, 43, 68, 69, 70, 49, 71, 72, 73, 74, 75, 76, 77, 78, 79, 80, 81, 82, 10, 83, 84, 85, 86, 87, 88, 93, 94, 95, 96, 97, 98, 99, 100, 101, 102, 103, 104, 105, 106, 107, 108, 109, 114, 115] (by decide +kernel) (by decide +kernel)
set_option maxRecDepth 20000 in
theorem gX1_keepAll_X7_staying_u39X7 : GoodIn wsX1_keepAll (va_wsU RX1 39 RX7 "PocketKeeper$Keeping" ⟨"PocketKeeper$Keeping", "staying", "(II)I"⟩ yX7_staying wsX7_staying) := goodIn_app (goodIn_of _ (by decide +kernel)) ggX1_keepAll_X7_staying
set_option maxRecDepth 20000 in
theorem ggX1_keepAll_X6_broken : GoodIn wsX1_keepAll wsX6_broken := goodIn_r _ [92, 83, 104, 105, 106, 107, 108, 109] (by decide +kernel) (by decide +kernel)
set_option maxRecDepth 20000 in
theorem gX1_keepAll_X6_broken : GoodIn wsX1_keepAll (wsV RX1 43 RX6 yX6_broken wsX6_broken) := goodIn_app (goodIn_of _ (by decide +kernel)) ggX1_keepAll_X6_broken
theorem dX1_keepAll_0 : decode cX1_keepAll 0 = .ok (.iconst 0, 1) := by decide +kernel
theorem dX1_keepAll_1 : decode cX1_keepAll 1 = .ok (.istore_n 1, 1) := by decide +kernel
theorem dX1_keepAll_2 : decode cX1_keepAll 2 = .ok (.iconst 0, 1) := by decide +kernel
theorem dX1_keepAll_3 : decode cX1_keepAll 3 = .ok (.istore_n 2, 1) := by decide +kernel
theorem dX1_keepAll_4 : decode cX1_keepAll 4 = .ok (.iload_n 2, 1) := by decide +kernel
theorem dX1_keepAll_5 : decode cX1_keepAll 5 = .ok (.aload_n 0, 1) := by decide +kernel
theorem dX1_keepAll_6 : decode cX1_keepAll 6 = .ok (.getfield 21, 3) := by decide +kernel
theorem dX1_keepAll_9 : decode cX1_keepAll 9 = .ok (.invokevirtual 29, 3) := by decide +kernel
theorem dX1_keepAll_12 : decode cX1_keepAll 12 = .ok (.if_icmp .ge 81, 3) := by decide +kernel
theorem dX1_keepAll_15 : decode cX1_keepAll 15 = .ok (.aload_n 0, 1) := by decide +kernel
theorem dX1_keepAll_16 : decode cX1_keepAll 16 = .ok (.getfield 21, 3) := by decide +kernel
theorem dX1_keepAll_19 : decode cX1_keepAll 19 = .ok (.iload_n 2, 1) := by decide +kernel
theorem dX1_keepAll_20 : decode cX1_keepAll 20 = .ok (.invokevirtual 35, 3) := by decide +kernel
theorem dX1_keepAll_23 : decode cX1_keepAll 23 = .ok (.istore_n 3, 1) := by decide +kernel
theorem dX1_keepAll_24 : decode cX1_keepAll 24 = .ok (.aload_n 0, 1) := by decide +kernel
theorem dX1_keepAll_25 : decode cX1_keepAll 25 = .ok (.getfield 9, 3) := by decide +kernel
theorem dX1_keepAll_28 : decode cX1_keepAll 28 = .ok (.iload_n 2, 1) := by decide +kernel
theorem dX1_keepAll_29 : decode cX1_keepAll 29 = .ok (.iload_n 3, 1) := by decide +kernel
theorem dX1_keepAll_30 : decode cX1_keepAll 30 = .ok (.aload_n 0, 1) := by decide +kernel
theorem dX1_keepAll_31 : decode cX1_keepAll 31 = .ok (.iload_n 2, 1) := by decide +kernel
theorem dX1_keepAll_32 : decode cX1_keepAll 32 = .ok (.iload_n 1, 1) := by decide +kernel
theorem dX1_keepAll_33 : decode cX1_keepAll 33 = .ok (.iload_n 3, 1) := by decide +kernel
theorem dX1_keepAll_34 : decode cX1_keepAll 34 = .ok (.iconst (-1), 1) := by decide +kernel
theorem dX1_keepAll_35 : decode cX1_keepAll 35 = .ok (.ixor, 1) := by decide +kernel
theorem dX1_keepAll_36 : decode cX1_keepAll 36 = .ok (.iand, 1) := by decide +kernel
theorem dX1_keepAll_37 : decode cX1_keepAll 37 = .ok (.invokevirtual 39, 3) := by decide +kernel
theorem dX1_keepAll_40 : decode cX1_keepAll 40 = .ok (.ior, 1) := by decide +kernel
theorem dX1_keepAll_41 : decode cX1_keepAll 41 = .ok (.iastore, 1) := by decide +kernel
theorem dX1_keepAll_42 : decode cX1_keepAll 42 = .ok (.aload_n 0, 1) := by decide +kernel
theorem dX1_keepAll_43 : decode cX1_keepAll 43 = .ok (.getfield 15, 3) := by decide +kernel
theorem dX1_keepAll_46 : decode cX1_keepAll 46 = .ok (.iload_n 2, 1) := by decide +kernel
theorem dX1_keepAll_47 : decode cX1_keepAll 47 = .ok (.iload_n 3, 1) := by decide +kernel
theorem dX1_keepAll_48 : decode cX1_keepAll 48 = .ok (.iload_n 1, 1) := by decide +kernel
theorem dX1_keepAll_49 : decode cX1_keepAll 49 = .ok (.iconst (-1), 1) := by decide +kernel
theorem dX1_keepAll_50 : decode cX1_keepAll 50 = .ok (.ixor, 1) := by decide +kernel
theorem dX1_keepAll_51 : decode cX1_keepAll 51 = .ok (.iand, 1) := by decide +kernel
theorem dX1_keepAll_52 : decode cX1_keepAll 52 = .ok (.iastore, 1) := by decide +kernel
theorem dX1_keepAll_53 : decode cX1_keepAll 53 = .ok (.aload_n 0, 1) := by decide +kernel
theorem dX1_keepAll_54 : decode cX1_keepAll 54 = .ok (.getfield 18, 3) := by decide +kernel
theorem dX1_keepAll_57 : decode cX1_keepAll 57 = .ok (.iload_n 2, 1) := by decide +kernel
theorem dX1_keepAll_58 : decode cX1_keepAll 58 = .ok (.iload_n 1, 1) := by decide +kernel
theorem dX1_keepAll_59 : decode cX1_keepAll 59 = .ok (.aload_n 0, 1) := by decide +kernel
theorem dX1_keepAll_60 : decode cX1_keepAll 60 = .ok (.getfield 9, 3) := by decide +kernel
theorem dX1_keepAll_63 : decode cX1_keepAll 63 = .ok (.iload_n 2, 1) := by decide +kernel
theorem dX1_keepAll_64 : decode cX1_keepAll 64 = .ok (.iaload, 1) := by decide +kernel
theorem dX1_keepAll_65 : decode cX1_keepAll 65 = .ok (.iconst (-1), 1) := by decide +kernel
theorem dX1_keepAll_66 : decode cX1_keepAll 66 = .ok (.ixor, 1) := by decide +kernel
theorem dX1_keepAll_67 : decode cX1_keepAll 67 = .ok (.iand, 1) := by decide +kernel
theorem dX1_keepAll_68 : decode cX1_keepAll 68 = .ok (.iastore, 1) := by decide +kernel
theorem dX1_keepAll_69 : decode cX1_keepAll 69 = .ok (.aload_n 0, 1) := by decide +kernel
theorem dX1_keepAll_70 : decode cX1_keepAll 70 = .ok (.getfield 9, 3) := by decide +kernel
theorem dX1_keepAll_73 : decode cX1_keepAll 73 = .ok (.iload_n 2, 1) := by decide +kernel
theorem dX1_keepAll_74 : decode cX1_keepAll 74 = .ok (.iaload, 1) := by decide +kernel
theorem dX1_keepAll_75 : decode cX1_keepAll 75 = .ok (.aload_n 0, 1) := by decide +kernel
theorem dX1_keepAll_76 : decode cX1_keepAll 76 = .ok (.getfield 21, 3) := by decide +kernel
theorem dX1_keepAll_79 : decode cX1_keepAll 79 = .ok (.iload_n 2, 1) := by decide +kernel
theorem dX1_keepAll_80 : decode cX1_keepAll 80 = .ok (.invokevirtual 43, 3) := by decide +kernel
theorem dX1_keepAll_83 : decode cX1_keepAll 83 = .ok (.iconst (-1), 1) := by decide +kernel
theorem dX1_keepAll_84 : decode cX1_keepAll 84 = .ok (.ixor, 1) := by decide +kernel
theorem dX1_keepAll_85 : decode cX1_keepAll 85 = .ok (.iand, 1) := by decide +kernel
theorem dX1_keepAll_86 : decode cX1_keepAll 86 = .ok (.istore_n 1, 1) := by decide +kernel
theorem dX1_keepAll_87 : decode cX1_keepAll 87 = .ok (.iinc 2 1, 3) := by decide +kernel
theorem dX1_keepAll_90 : decode cX1_keepAll 90 = .ok (.goto (-86), 3) := by decide +kernel
theorem dX1_keepAll_93 : decode cX1_keepAll 93 = .ok (.return_, 1) := by decide +kernel
theorem dX1_inside_0 : decode cX1_inside 0 = .ok (.aload_n 0, 1) := by decide +kernel
theorem dX1_inside_1 : decode cX1_inside 1 = .ok (.getfield 9, 3) := by decide +kernel
theorem dX1_inside_4 : decode cX1_inside 4 = .ok (.iload_n 1, 1) := by decide +kernel
theorem dX1_inside_5 : decode cX1_inside 5 = .ok (.iaload, 1) := by decide +kernel
theorem dX1_inside_6 : decode cX1_inside 6 = .ok (.ireturn, 1) := by decide +kernel
theorem dX1_coming_0 : decode cX1_coming 0 = .ok (.aload_n 0, 1) := by decide +kernel
theorem dX1_coming_1 : decode cX1_coming 1 = .ok (.getfield 15, 3) := by decide +kernel
theorem dX1_coming_4 : decode cX1_coming 4 = .ok (.iload_n 1, 1) := by decide +kernel
theorem dX1_coming_5 : decode cX1_coming 5 = .ok (.iaload, 1) := by decide +kernel
theorem dX1_coming_6 : decode cX1_coming 6 = .ok (.ireturn, 1) := by decide +kernel
theorem dX1_going_0 : decode cX1_going 0 = .ok (.aload_n 0, 1) := by decide +kernel
theorem dX1_going_1 : decode cX1_going 1 = .ok (.getfield 18, 3) := by decide +kernel
theorem dX1_going_4 : decode cX1_going 4 = .ok (.iload_n 1, 1) := by decide +kernel
theorem dX1_going_5 : decode cX1_going 5 = .ok (.iaload, 1) := by decide +kernel
theorem dX1_going_6 : decode cX1_going 6 = .ok (.ireturn, 1) := by decide +kernel
set_option maxRecDepth 20000 in
theorem ggX1_totalCost_X6_size : GoodIn wsX1_totalCost wsX6_size := goodIn_r _ [8, 9, 34, 35, 36, 37, 38, 39] (by decide +kernel) (by decide +kernel)
set_option maxRecDepth 20000 in
theorem gX1_totalCost_X6_size : GoodIn wsX1_totalCost (wsV RX1 29 RX6 yX6_size wsX6_size) := goodIn_app (goodIn_of _ (by decide +kernel)) ggX1_totalCost_X6_size
set_option maxRecDepth 20000 in
theorem ggX1_totalCost_X3_sizeOf : GoodIn wsX1_totalCost wsX3_sizeOf := goodIn_r _ [14, 15, 16, 17, 18, 19, 20, 21, 22, 40, 41] (by decide +kernel) (by decide +kernel)
set_option maxRecDepth 20000 in
theorem gX1_totalCost_X3_sizeOf : GoodIn wsX1_totalCost (wsV RX1 46 RX3 yX3_sizeOf wsX3_sizeOf) := goodIn_app (goodIn_of _ (by decide +kernel)) ggX1_totalCost_X3_sizeOf
theorem dX1_totalCost_0 : decode cX1_totalCost 0 = .ok (.iconst 0, 1) := by decide +kernel
theorem dX1_totalCost_1 : decode cX1_totalCost 1 = .ok (.istore_n 1, 1) := by decide +kernel
theorem dX1_totalCost_2 : decode cX1_totalCost 2 = .ok (.iconst 0, 1) := by decide +kernel
theorem dX1_totalCost_3 : decode cX1_totalCost 3 = .ok (.istore_n 2, 1) := by decide +kernel
theorem dX1_totalCost_4 : decode cX1_totalCost 4 = .ok (.iload_n 2, 1) := by decide +kernel
theorem dX1_totalCost_5 : decode cX1_totalCost 5 = .ok (.aload_n 0, 1) := by decide +kernel
theorem dX1_totalCost_6 : decode cX1_totalCost 6 = .ok (.getfield 21, 3) := by decide +kernel
theorem dX1_totalCost_9 : decode cX1_totalCost 9 = .ok (.invokevirtual 29, 3) := by decide +kernel
theorem dX1_totalCost_12 : decode cX1_totalCost 12 = .ok (.if_icmp .ge 25, 3) := by decide +kernel
theorem dX1_totalCost_15 : decode cX1_totalCost 15 = .ok (.iload_n 1, 1) := by decide +kernel
theorem dX1_totalCost_16 : decode cX1_totalCost 16 = .ok (.aload_n 0, 1) := by decide +kernel
theorem dX1_totalCost_17 : decode cX1_totalCost 17 = .ok (.getfield 25, 3) := by decide +kernel
theorem dX1_totalCost_20 : decode cX1_totalCost 20 = .ok (.aload_n 0, 1) := by decide +kernel
theorem dX1_totalCost_21 : decode cX1_totalCost 21 = .ok (.getfield 15, 3) := by decide +kernel
theorem dX1_totalCost_24 : decode cX1_totalCost 24 = .ok (.iload_n 2, 1) := by decide +kernel
theorem dX1_totalCost_25 : decode cX1_totalCost 25 = .ok (.iaload, 1) := by decide +kernel
theorem dX1_totalCost_26 : decode cX1_totalCost 26 = .ok (.invokevirtual 46, 3) := by decide +kernel
theorem dX1_totalCost_29 : decode cX1_totalCost 29 = .ok (.iadd, 1) := by decide +kernel
theorem dX1_totalCost_30 : decode cX1_totalCost 30 = .ok (.istore_n 1, 1) := by decide +kernel
theorem dX1_totalCost_31 : decode cX1_totalCost 31 = .ok (.iinc 2 1, 3) := by decide +kernel
theorem dX1_totalCost_34 : decode cX1_totalCost 34 = .ok (.goto (-30), 3) := by decide +kernel
theorem dX1_totalCost_37 : decode cX1_totalCost 37 = .ok (.iload_n 1, 1) := by decide +kernel
theorem dX1_totalCost_38 : decode cX1_totalCost 38 = .ok (.ireturn, 1) := by decide +kernel
set_option maxRecDepth 20000 in
theorem ggX1_totalComing_X6_size : GoodIn wsX1_totalComing wsX6_size := goodIn_r _ [7, 8, 27, 28, 29, 30, 31, 32] (by decide +kernel) (by decide +kernel)
set_option maxRecDepth 20000 in
theorem gX1_totalComing_X6_size : GoodIn wsX1_totalComing (wsV RX1 29 RX6 yX6_size wsX6_size) := goodIn_app (goodIn_of _ (by decide +kernel)) ggX1_totalComing_X6_size
set_option maxRecDepth 20000 in
theorem ggX1_totalComing_J6_bitCount_0f7a4 : GoodIn wsX1_totalComing wsJ6_bitCount_0f7a4 := goodIn_r _ [12, 13, 14, 15] (by decide +kernel) (by decide +kernel)
set_option maxRecDepth 20000 in
theorem gX1_totalComing_J6_bitCount_0f7a4 : GoodIn wsX1_totalComing (va_wsS RX1 51 yJ6_bitCount_0f7a4 wsJ6_bitCount_0f7a4) := goodIn_app (goodIn_of _ (by decide +kernel)) ggX1_totalComing_J6_bitCount_0f7a4
theorem dX1_totalComing_0 : decode cX1_totalComing 0 = .ok (.iconst 0, 1) := by decide +kernel
theorem dX1_totalComing_1 : decode cX1_totalComing 1 = .ok (.istore_n 1, 1) := by decide +kernel
theorem dX1_totalComing_2 : decode cX1_totalComing 2 = .ok (.iconst 0, 1) := by decide +kernel
theorem dX1_totalComing_3 : decode cX1_totalComing 3 = .ok (.istore_n 2, 1) := by decide +kernel
theorem dX1_totalComing_4 : decode cX1_totalComing 4 = .ok (.iload_n 2, 1) := by decide +kernel
theorem dX1_totalComing_5 : decode cX1_totalComing 5 = .ok (.aload_n 0, 1) := by decide +kernel
theorem dX1_totalComing_6 : decode cX1_totalComing 6 = .ok (.getfield 21, 3) := by decide +kernel
theorem dX1_totalComing_9 : decode cX1_totalComing 9 = .ok (.invokevirtual 29, 3) := by decide +kernel
theorem dX1_totalComing_12 : decode cX1_totalComing 12 = .ok (.if_icmp .ge 21, 3) := by decide +kernel
theorem dX1_totalComing_15 : decode cX1_totalComing 15 = .ok (.iload_n 1, 1) := by decide +kernel
theorem dX1_totalComing_16 : decode cX1_totalComing 16 = .ok (.aload_n 0, 1) := by decide +kernel
theorem dX1_totalComing_17 : decode cX1_totalComing 17 = .ok (.getfield 15, 3) := by decide +kernel
theorem dX1_totalComing_20 : decode cX1_totalComing 20 = .ok (.iload_n 2, 1) := by decide +kernel
theorem dX1_totalComing_21 : decode cX1_totalComing 21 = .ok (.iaload, 1) := by decide +kernel
theorem dX1_totalComing_22 : decode cX1_totalComing 22 = .ok (.invokestatic 51, 3) := by decide +kernel
theorem dX1_totalComing_25 : decode cX1_totalComing 25 = .ok (.iadd, 1) := by decide +kernel
theorem dX1_totalComing_26 : decode cX1_totalComing 26 = .ok (.istore_n 1, 1) := by decide +kernel
theorem dX1_totalComing_27 : decode cX1_totalComing 27 = .ok (.iinc 2 1, 3) := by decide +kernel
theorem dX1_totalComing_30 : decode cX1_totalComing 30 = .ok (.goto (-26), 3) := by decide +kernel
theorem dX1_totalComing_33 : decode cX1_totalComing 33 = .ok (.iload_n 1, 1) := by decide +kernel
theorem dX1_totalComing_34 : decode cX1_totalComing 34 = .ok (.ireturn, 1) := by decide +kernel
theorem dX2_init_0 : decode cX2_init 0 = .ok (.aload_n 0, 1) := by decide +kernel
theorem dX2_init_1 : decode cX2_init 1 = .ok (.invokespecial 3, 3) := by decide +kernel
theorem dX2_init_4 : decode cX2_init 4 = .ok (.aload_n 0, 1) := by decide +kernel
theorem dX2_init_5 : decode cX2_init 5 = .ok (.bipush 8, 2) := by decide +kernel
theorem dX2_init_7 : decode cX2_init 7 = .ok (.newarray .int, 2) := by decide +kernel
theorem dX2_init_9 : decode cX2_init 9 = .ok (.putfield 9, 3) := by decide +kernel
theorem dX2_init_12 : decode cX2_init 12 = .ok (.aload_n 0, 1) := by decide +kernel
theorem dX2_init_13 : decode cX2_init 13 = .ok (.sipush 2048, 3) := by decide +kernel
theorem dX2_init_16 : decode cX2_init 16 = .ok (.newarray .int, 2) := by decide +kernel
theorem dX2_init_18 : decode cX2_init 18 = .ok (.putfield 15, 3) := by decide +kernel
theorem dX2_init_21 : decode cX2_init 21 = .ok (.aload_n 0, 1) := by decide +kernel
theorem dX2_init_22 : decode cX2_init 22 = .ok (.aload_n 1, 1) := by decide +kernel
theorem dX2_init_23 : decode cX2_init 23 = .ok (.putfield 18, 3) := by decide +kernel
theorem dX2_init_26 : decode cX2_init 26 = .ok (.aload_n 0, 1) := by decide +kernel
theorem dX2_init_27 : decode cX2_init 27 = .ok (.aload_n 2, 1) := by decide +kernel
theorem dX2_init_28 : decode cX2_init 28 = .ok (.putfield 22, 3) := by decide +kernel
theorem dX2_init_31 : decode cX2_init 31 = .ok (.return_, 1) := by decide +kernel
set_option maxRecDepth 20000 in
theorem ggX2_least_X2_findWorthKeeping : GoodIn wsX2_least wsX2_findWorthKeeping := goodIn_r _ [8, 1, 9, 10, 11, 12, 13, 14, 15, 16, 17, 18, 19, 20, 21, 22, 23, 24, 25, 26, 75, 76, 77, 78, 79, 80, 81, 82, 83, 84] (by decide +kernel) (by decide +kernel)
set_option maxRecDepth 20000 in
theorem gX2_least_X2_findWorthKeeping : GoodIn wsX2_least (wsV RX2 26 RX2 yX2_findWorthKeeping wsX2_findWorthKeeping) := goodIn_app (goodIn_of _ (by decide +kernel)) ggX2_least_X2_findWorthKeeping
set_option maxRecDepth 20000 in
theorem ggX2_least_X6_size : GoodIn wsX2_least wsX6_size := goodIn_r _ [14, 15, 79, 80, 81, 82, 83, 84] (by decide +kernel) (by decide +kernel)
set_option maxRecDepth 20000 in
theorem gX2_least_X6_size : GoodIn wsX2_least (wsV RX2 29 RX6 yX6_size wsX6_size) := goodIn_app (goodIn_of _ (by decide +kernel)) ggX2_least_X6_size
set_option maxRecDepth 20000 in
theorem ggX2_least_X2_fillPlace : GoodIn wsX2_least wsX2_fillPlace := goodIn_r _ [30, 9, 3, 2, 1, 31, 32, 7, 33, 34, 35, 36, 37, 38, 39, 40, 41, 42, 43, 16, 17, 18, 13, 19, 20, 21, 44, 45, 46, 47, 48, 49, 50, 51, 52, 53, 54, 55, 56, 57, 58, 59, 10, 11, 12, 14, 15, 22, 23, 24, 25, 26, 60, 61, 62, 63, 64, 65, 66, 67, 68, 69, 70, 71, 72, 73, 74, 75, 76, 77, 78, 79, 80, 81, 82, 83, 84, 85, 86] (by decide +kernel) (by decide +kernel)
set_option maxRecDepth 20000 in
theorem gX2_least_X2_fillPlace : GoodIn wsX2_least (wsV RX2 35 RX2 yX2_fillPlace wsX2_fillPlace) := goodIn_app (goodIn_of _ (by decide +kernel)) ggX2_least_X2_fillPlace
set_option maxRecDepth 20000 in
theorem ggX2_least_X6_needs : GoodIn wsX2_least wsX6_needs := goodIn_r _ [19, 20, 21, 79, 80, 81, 82, 83, 84] (by decide +kernel) (by decide +kernel)
set_option maxRecDepth 20000 in
theorem gX2_least_X6_needs : GoodIn wsX2_least (wsV RX2 39 RX6 yX6_needs wsX6_needs) := goodIn_app (goodIn_of _ (by decide +kernel)) ggX2_least_X6_needs
set_option maxRecDepth 20000 in
theorem ggX2_least_X3_sizeOf : GoodIn wsX2_least wsX3_sizeOf := goodIn_r _ [53, 54, 55, 35, 36, 37, 38, 39, 40, 85, 86] (by decide +kernel) (by decide +kernel)
set_option maxRecDepth 20000 in
theorem gX2_least_X3_sizeOf : GoodIn wsX2_least (wsV RX2 43 RX3 yX3_sizeOf wsX3_sizeOf) := goodIn_app (goodIn_of _ (by decide +kernel)) ggX2_least_X3_sizeOf
set_option maxRecDepth 20000 in
theorem ggX2_least_X2_cell : GoodIn wsX2_least wsX2_cell := goodIn_r _ [43] (by decide +kernel) (by decide +kernel)
set_option maxRecDepth 20000 in
theorem gX2_least_X2_cell : GoodIn wsX2_least (va_wsS RX2 48 yX2_cell wsX2_cell) := goodIn_app (goodIn_of _ (by decide +kernel)) ggX2_least_X2_cell
theorem dX2_least_0 : decode cX2_least 0 = .ok (.aload_n 0, 1) := by decide +kernel
theorem dX2_least_1 : decode cX2_least 1 = .ok (.invokevirtual 26, 3) := by decide +kernel
theorem dX2_least_4 : decode cX2_least 4 = .ok (.aload_n 0, 1) := by decide +kernel
theorem dX2_least_5 : decode cX2_least 5 = .ok (.getfield 18, 3) := by decide +kernel
theorem dX2_least_8 : decode cX2_least 8 = .ok (.invokevirtual 29, 3) := by decide +kernel
theorem dX2_least_11 : decode cX2_least 11 = .ok (.iconst 1, 1) := by decide +kernel
theorem dX2_least_12 : decode cX2_least 12 = .ok (.isub, 1) := by decide +kernel
theorem dX2_least_13 : decode cX2_least 13 = .ok (.istore_n 1, 1) := by decide +kernel
theorem dX2_least_14 : decode cX2_least 14 = .ok (.iload_n 1, 1) := by decide +kernel
theorem dX2_least_15 : decode cX2_least 15 = .ok (.ifCond .lt 14, 3) := by decide +kernel
theorem dX2_least_18 : decode cX2_least 18 = .ok (.aload_n 0, 1) := by decide +kernel
theorem dX2_least_19 : decode cX2_least 19 = .ok (.iload_n 1, 1) := by decide +kernel
theorem dX2_least_20 : decode cX2_least 20 = .ok (.invokevirtual 35, 3) := by decide +kernel
theorem dX2_least_23 : decode cX2_least 23 = .ok (.iinc 1 (-1), 3) := by decide +kernel
theorem dX2_least_26 : decode cX2_least 26 = .ok (.goto (-12), 3) := by decide +kernel
theorem dX2_least_29 : decode cX2_least 29 = .ok (.aload_n 0, 1) := by decide +kernel
theorem dX2_least_30 : decode cX2_least 30 = .ok (.getfield 22, 3) := by decide +kernel
theorem dX2_least_33 : decode cX2_least 33 = .ok (.aload_n 0, 1) := by decide +kernel
theorem dX2_least_34 : decode cX2_least 34 = .ok (.getfield 18, 3) := by decide +kernel
theorem dX2_least_37 : decode cX2_least 37 = .ok (.iconst 0, 1) := by decide +kernel
theorem dX2_least_38 : decode cX2_least 38 = .ok (.invokevirtual 39, 3) := by decide +kernel
theorem dX2_least_41 : decode cX2_least 41 = .ok (.invokevirtual 43, 3) := by decide +kernel
theorem dX2_least_44 : decode cX2_least 44 = .ok (.aload_n 0, 1) := by decide +kernel
theorem dX2_least_45 : decode cX2_least 45 = .ok (.getfield 15, 3) := by decide +kernel
theorem dX2_least_48 : decode cX2_least 48 = .ok (.iconst 0, 1) := by decide +kernel
theorem dX2_least_49 : decode cX2_least 49 = .ok (.iconst 0, 1) := by decide +kernel
theorem dX2_least_50 : decode cX2_least 50 = .ok (.invokestatic 48, 3) := by decide +kernel
theorem dX2_least_53 : decode cX2_least 53 = .ok (.iaload, 1) := by decide +kernel
theorem dX2_least_54 : decode cX2_least 54 = .ok (.iadd, 1) := by decide +kernel
theorem dX2_least_55 : decode cX2_least 55 = .ok (.ireturn, 1) := by decide +kernel
set_option maxRecDepth 20000 in
theorem ggX2_leastSetAtLeastCost_X2_cell : GoodIn wsX2_leastSetAtLeastCost wsX2_cell := goodIn_r _ [6] (by decide +kernel) (by decide +kernel)
set_option maxRecDepth 20000 in
theorem gX2_leastSetAtLeastCost_X2_cell : GoodIn wsX2_leastSetAtLeastCost (va_wsS RX2 48 yX2_cell wsX2_cell) := goodIn_app (goodIn_of _ (by decide +kernel)) ggX2_leastSetAtLeastCost_X2_cell
set_option maxRecDepth 20000 in
theorem ggX2_leastSetAtLeastCost_X2_subsets : GoodIn wsX2_leastSetAtLeastCost wsX2_subsets := goodIn_r _ [9, 10, 11, 12, 13, 14, 15, 16] (by decide +kernel) (by decide +kernel)
set_option maxRecDepth 20000 in
theorem gX2_leastSetAtLeastCost_X2_subsets : GoodIn wsX2_leastSetAtLeastCost (va_wsS RX2 52 yX2_subsets wsX2_subsets) := goodIn_app (goodIn_of _ (by decide +kernel)) ggX2_leastSetAtLeastCost_X2_subsets
set_option maxRecDepth 20000 in
theorem ggX2_leastSetAtLeastCost_X2_subsetBehind : GoodIn wsX2_leastSetAtLeastCost wsX2_subsetBehind := goodIn_r _ [19] (by decide +kernel) (by decide +kernel)
set_option maxRecDepth 20000 in
theorem gX2_leastSetAtLeastCost_X2_subsetBehind : GoodIn wsX2_leastSetAtLeastCost (va_wsS RX2 55 yX2_subsetBehind wsX2_subsetBehind) := goodIn_app (goodIn_of _ (by decide +kernel)) ggX2_leastSetAtLeastCost_X2_subsetBehind
theorem dX2_leastSetAtLeastCost_0 : decode cX2_leastSetAtLeastCost 0 = .ok (.iload_n 2, 1) := by decide +kernel
theorem dX2_leastSetAtLeastCost_1 : decode cX2_leastSetAtLeastCost 1 = .ok (.aload_n 0, 1) := by decide +kernel
theorem dX2_leastSetAtLeastCost_2 : decode cX2_leastSetAtLeastCost 2 = .ok (.getfield 9, 3) := by decide +kernel
theorem dX2_leastSetAtLeastCost_5 : decode cX2_leastSetAtLeastCost 5 = .ok (.iload_n 1, 1) := by decide +kernel
theorem dX2_leastSetAtLeastCost_6 : decode cX2_leastSetAtLeastCost 6 = .ok (.iaload, 1) := by decide +kernel
theorem dX2_leastSetAtLeastCost_7 : decode cX2_leastSetAtLeastCost 7 = .ok (.iand, 1) := by decide +kernel
theorem dX2_leastSetAtLeastCost_8 : decode cX2_leastSetAtLeastCost 8 = .ok (.istore_n 3, 1) := by decide +kernel
theorem dX2_leastSetAtLeastCost_9 : decode cX2_leastSetAtLeastCost 9 = .ok (.aload_n 0, 1) := by decide +kernel
theorem dX2_leastSetAtLeastCost_10 : decode cX2_leastSetAtLeastCost 10 = .ok (.getfield 15, 3) := by decide +kernel
theorem dX2_leastSetAtLeastCost_13 : decode cX2_leastSetAtLeastCost 13 = .ok (.iload_n 1, 1) := by decide +kernel
theorem dX2_leastSetAtLeastCost_14 : decode cX2_leastSetAtLeastCost 14 = .ok (.iload_n 3, 1) := by decide +kernel
theorem dX2_leastSetAtLeastCost_15 : decode cX2_leastSetAtLeastCost 15 = .ok (.invokestatic 48, 3) := by decide +kernel
theorem dX2_leastSetAtLeastCost_18 : decode cX2_leastSetAtLeastCost 18 = .ok (.iaload, 1) := by decide +kernel
theorem dX2_leastSetAtLeastCost_19 : decode cX2_leastSetAtLeastCost 19 = .ok (.istore 4, 2) := by decide +kernel
theorem dX2_leastSetAtLeastCost_21 : decode cX2_leastSetAtLeastCost 21 = .ok (.iconst 0, 1) := by decide +kernel
theorem dX2_leastSetAtLeastCost_22 : decode cX2_leastSetAtLeastCost 22 = .ok (.istore 5, 2) := by decide +kernel
theorem dX2_leastSetAtLeastCost_24 : decode cX2_leastSetAtLeastCost 24 = .ok (.iload_n 3, 1) := by decide +kernel
theorem dX2_leastSetAtLeastCost_25 : decode cX2_leastSetAtLeastCost 25 = .ok (.invokestatic 52, 3) := by decide +kernel
theorem dX2_leastSetAtLeastCost_28 : decode cX2_leastSetAtLeastCost 28 = .ok (.istore 6, 2) := by decide +kernel
theorem dX2_leastSetAtLeastCost_30 : decode cX2_leastSetAtLeastCost 30 = .ok (.iload 6, 2) := by decide +kernel
theorem dX2_leastSetAtLeastCost_32 : decode cX2_leastSetAtLeastCost 32 = .ok (.ifCond .le 36, 3) := by decide +kernel
theorem dX2_leastSetAtLeastCost_35 : decode cX2_leastSetAtLeastCost 35 = .ok (.aload_n 0, 1) := by decide +kernel
theorem dX2_leastSetAtLeastCost_36 : decode cX2_leastSetAtLeastCost 36 = .ok (.getfield 15, 3) := by decide +kernel
theorem dX2_leastSetAtLeastCost_39 : decode cX2_leastSetAtLeastCost 39 = .ok (.iload_n 1, 1) := by decide +kernel
theorem dX2_leastSetAtLeastCost_40 : decode cX2_leastSetAtLeastCost 40 = .ok (.iload 5, 2) := by decide +kernel
theorem dX2_leastSetAtLeastCost_42 : decode cX2_leastSetAtLeastCost 42 = .ok (.invokestatic 48, 3) := by decide +kernel
theorem dX2_leastSetAtLeastCost_45 : decode cX2_leastSetAtLeastCost 45 = .ok (.iaload, 1) := by decide +kernel
theorem dX2_leastSetAtLeastCost_46 : decode cX2_leastSetAtLeastCost 46 = .ok (.iload 4, 2) := by decide +kernel
theorem dX2_leastSetAtLeastCost_48 : decode cX2_leastSetAtLeastCost 48 = .ok (.if_icmp .ne 6, 3) := by decide +kernel
theorem dX2_leastSetAtLeastCost_51 : decode cX2_leastSetAtLeastCost 51 = .ok (.iload 5, 2) := by decide +kernel
theorem dX2_leastSetAtLeastCost_53 : decode cX2_leastSetAtLeastCost 53 = .ok (.ireturn, 1) := by decide +kernel
theorem dX2_leastSetAtLeastCost_54 : decode cX2_leastSetAtLeastCost 54 = .ok (.iload_n 3, 1) := by decide +kernel
theorem dX2_leastSetAtLeastCost_55 : decode cX2_leastSetAtLeastCost 55 = .ok (.iload 5, 2) := by decide +kernel
theorem dX2_leastSetAtLeastCost_57 : decode cX2_leastSetAtLeastCost 57 = .ok (.invokestatic 55, 3) := by decide +kernel
theorem dX2_leastSetAtLeastCost_60 : decode cX2_leastSetAtLeastCost 60 = .ok (.istore 5, 2) := by decide +kernel
theorem dX2_leastSetAtLeastCost_62 : decode cX2_leastSetAtLeastCost 62 = .ok (.iinc 6 (-1), 3) := by decide +kernel
theorem dX2_leastSetAtLeastCost_65 : decode cX2_leastSetAtLeastCost 65 = .ok (.goto (-35), 3) := by decide +kernel
theorem dX2_leastSetAtLeastCost_68 : decode cX2_leastSetAtLeastCost 68 = .ok (.iload_n 3, 1) := by decide +kernel
theorem dX2_leastSetAtLeastCost_69 : decode cX2_leastSetAtLeastCost 69 = .ok (.ireturn, 1) := by decide +kernel
set_option maxRecDepth 20000 in
theorem ggX2_findWorthKeeping_X6_size : GoodIn wsX2_findWorthKeeping wsX6_size := goodIn_r _ [7, 8, 24, 25, 26, 27, 28, 29] (by decide +kernel) (by decide +kernel)
set_option maxRecDepth 20000 in
theorem gX2_findWorthKeeping_X6_size : GoodIn wsX2_findWorthKeeping (wsV RX2 29 RX6 yX6_size wsX6_size) := goodIn_app (goodIn_of _ (by decide +kernel)) ggX2_findWorthKeeping_X6_size
set_option maxRecDepth 20000 in
theorem ggX2_findWorthKeeping_X6_needs : GoodIn wsX2_findWorthKeeping wsX6_needs := goodIn_r _ [12, 13, 14, 24, 25, 26, 27, 28, 29] (by decide +kernel) (by decide +kernel)
set_option maxRecDepth 20000 in
theorem gX2_findWorthKeeping_X6_needs : GoodIn wsX2_findWorthKeeping (wsV RX2 39 RX6 yX6_needs wsX6_needs) := goodIn_app (goodIn_of _ (by decide +kernel)) ggX2_findWorthKeeping_X6_needs
set_option maxRecDepth 20000 in
theorem ggX2_findWorthKeeping_X6_broken : GoodIn wsX2_findWorthKeeping wsX6_broken := goodIn_r _ [18, 19, 24, 25, 26, 27, 28, 29] (by decide +kernel) (by decide +kernel)
set_option maxRecDepth 20000 in
theorem gX2_findWorthKeeping_X6_broken : GoodIn wsX2_findWorthKeeping (wsV RX2 58 RX6 yX6_broken wsX6_broken) := goodIn_app (goodIn_of _ (by decide +kernel)) ggX2_findWorthKeeping_X6_broken
theorem dX2_findWorthKeeping_0 : decode cX2_findWorthKeeping 0 = .ok (.iconst 0, 1) := by decide +kernel
theorem dX2_findWorthKeeping_1 : decode cX2_findWorthKeeping 1 = .ok (.istore_n 1, 1) := by decide +kernel
theorem dX2_findWorthKeeping_2 : decode cX2_findWorthKeeping 2 = .ok (.iconst 0, 1) := by decide +kernel
theorem dX2_findWorthKeeping_3 : decode cX2_findWorthKeeping 3 = .ok (.istore_n 2, 1) := by decide +kernel
theorem dX2_findWorthKeeping_4 : decode cX2_findWorthKeeping 4 = .ok (.iload_n 2, 1) := by decide +kernel
theorem dX2_findWorthKeeping_5 : decode cX2_findWorthKeeping 5 = .ok (.aload_n 0, 1) := by decide +kernel
theorem dX2_findWorthKeeping_6 : decode cX2_findWorthKeeping 6 = .ok (.getfield 18, 3) := by decide +kernel
theorem dX2_findWorthKeeping_9 : decode cX2_findWorthKeeping 9 = .ok (.invokevirtual 29, 3) := by decide +kernel
theorem dX2_findWorthKeeping_12 : decode cX2_findWorthKeeping 12 = .ok (.if_icmp .ge 49, 3) := by decide +kernel
theorem dX2_findWorthKeeping_15 : decode cX2_findWorthKeeping 15 = .ok (.aload_n 0, 1) := by decide +kernel
theorem dX2_findWorthKeeping_16 : decode cX2_findWorthKeeping 16 = .ok (.getfield 9, 3) := by decide +kernel
theorem dX2_findWorthKeeping_19 : decode cX2_findWorthKeeping 19 = .ok (.iload_n 2, 1) := by decide +kernel
theorem dX2_findWorthKeeping_20 : decode cX2_findWorthKeeping 20 = .ok (.iload_n 1, 1) := by decide +kernel
theorem dX2_findWorthKeeping_21 : decode cX2_findWorthKeeping 21 = .ok (.aload_n 0, 1) := by decide +kernel
theorem dX2_findWorthKeeping_22 : decode cX2_findWorthKeeping 22 = .ok (.getfield 18, 3) := by decide +kernel
theorem dX2_findWorthKeeping_25 : decode cX2_findWorthKeeping 25 = .ok (.iload_n 2, 1) := by decide +kernel
theorem dX2_findWorthKeeping_26 : decode cX2_findWorthKeeping 26 = .ok (.invokevirtual 39, 3) := by decide +kernel
theorem dX2_findWorthKeeping_29 : decode cX2_findWorthKeeping 29 = .ok (.iconst (-1), 1) := by decide +kernel
theorem dX2_findWorthKeeping_30 : decode cX2_findWorthKeeping 30 = .ok (.ixor, 1) := by decide +kernel
theorem dX2_findWorthKeeping_31 : decode cX2_findWorthKeeping 31 = .ok (.iand, 1) := by decide +kernel
theorem dX2_findWorthKeeping_32 : decode cX2_findWorthKeeping 32 = .ok (.iastore, 1) := by decide +kernel
theorem dX2_findWorthKeeping_33 : decode cX2_findWorthKeeping 33 = .ok (.iload_n 1, 1) := by decide +kernel
theorem dX2_findWorthKeeping_34 : decode cX2_findWorthKeeping 34 = .ok (.aload_n 0, 1) := by decide +kernel
theorem dX2_findWorthKeeping_35 : decode cX2_findWorthKeeping 35 = .ok (.getfield 18, 3) := by decide +kernel
theorem dX2_findWorthKeeping_38 : decode cX2_findWorthKeeping 38 = .ok (.iload_n 2, 1) := by decide +kernel
theorem dX2_findWorthKeeping_39 : decode cX2_findWorthKeeping 39 = .ok (.invokevirtual 39, 3) := by decide +kernel
theorem dX2_findWorthKeeping_42 : decode cX2_findWorthKeeping 42 = .ok (.ior, 1) := by decide +kernel
theorem dX2_findWorthKeeping_43 : decode cX2_findWorthKeeping 43 = .ok (.aload_n 0, 1) := by decide +kernel
theorem dX2_findWorthKeeping_44 : decode cX2_findWorthKeeping 44 = .ok (.getfield 18, 3) := by decide +kernel
theorem dX2_findWorthKeeping_47 : decode cX2_findWorthKeeping 47 = .ok (.iload_n 2, 1) := by decide +kernel
theorem dX2_findWorthKeeping_48 : decode cX2_findWorthKeeping 48 = .ok (.invokevirtual 58, 3) := by decide +kernel
theorem dX2_findWorthKeeping_51 : decode cX2_findWorthKeeping 51 = .ok (.iconst (-1), 1) := by decide +kernel
theorem dX2_findWorthKeeping_52 : decode cX2_findWorthKeeping 52 = .ok (.ixor, 1) := by decide +kernel
theorem dX2_findWorthKeeping_53 : decode cX2_findWorthKeeping 53 = .ok (.iand, 1) := by decide +kernel
theorem dX2_findWorthKeeping_54 : decode cX2_findWorthKeeping 54 = .ok (.istore_n 1, 1) := by decide +kernel
theorem dX2_findWorthKeeping_55 : decode cX2_findWorthKeeping 55 = .ok (.iinc 2 1, 3) := by decide +kernel
theorem dX2_findWorthKeeping_58 : decode cX2_findWorthKeeping 58 = .ok (.goto (-54), 3) := by decide +kernel
theorem dX2_findWorthKeeping_61 : decode cX2_findWorthKeeping 61 = .ok (.iconst 0, 1) := by decide +kernel
theorem dX2_findWorthKeeping_62 : decode cX2_findWorthKeeping 62 = .ok (.istore_n 2, 1) := by decide +kernel
theorem dX2_findWorthKeeping_63 : decode cX2_findWorthKeeping 63 = .ok (.aload_n 0, 1) := by decide +kernel
theorem dX2_findWorthKeeping_64 : decode cX2_findWorthKeeping 64 = .ok (.getfield 18, 3) := by decide +kernel
theorem dX2_findWorthKeeping_67 : decode cX2_findWorthKeeping 67 = .ok (.invokevirtual 29, 3) := by decide +kernel
theorem dX2_findWorthKeeping_70 : decode cX2_findWorthKeeping 70 = .ok (.iconst 1, 1) := by decide +kernel
theorem dX2_findWorthKeeping_71 : decode cX2_findWorthKeeping 71 = .ok (.isub, 1) := by decide +kernel
theorem dX2_findWorthKeeping_72 : decode cX2_findWorthKeeping 72 = .ok (.istore_n 3, 1) := by decide +kernel
theorem dX2_findWorthKeeping_73 : decode cX2_findWorthKeeping 73 = .ok (.iload_n 3, 1) := by decide +kernel
theorem dX2_findWorthKeeping_74 : decode cX2_findWorthKeeping 74 = .ok (.ifCond .lt 43, 3) := by decide +kernel
theorem dX2_findWorthKeeping_77 : decode cX2_findWorthKeeping 77 = .ok (.iload_n 2, 1) := by decide +kernel
theorem dX2_findWorthKeeping_78 : decode cX2_findWorthKeeping 78 = .ok (.aload_n 0, 1) := by decide +kernel
theorem dX2_findWorthKeeping_79 : decode cX2_findWorthKeeping 79 = .ok (.getfield 18, 3) := by decide +kernel
theorem dX2_findWorthKeeping_82 : decode cX2_findWorthKeeping 82 = .ok (.iload_n 3, 1) := by decide +kernel
theorem dX2_findWorthKeeping_83 : decode cX2_findWorthKeeping 83 = .ok (.invokevirtual 58, 3) := by decide +kernel
theorem dX2_findWorthKeeping_86 : decode cX2_findWorthKeeping 86 = .ok (.iconst (-1), 1) := by decide +kernel
theorem dX2_findWorthKeeping_87 : decode cX2_findWorthKeeping 87 = .ok (.ixor, 1) := by decide +kernel
theorem dX2_findWorthKeeping_88 : decode cX2_findWorthKeeping 88 = .ok (.iand, 1) := by decide +kernel
theorem dX2_findWorthKeeping_89 : decode cX2_findWorthKeeping 89 = .ok (.istore_n 2, 1) := by decide +kernel
theorem dX2_findWorthKeeping_90 : decode cX2_findWorthKeeping 90 = .ok (.aload_n 0, 1) := by decide +kernel
theorem dX2_findWorthKeeping_91 : decode cX2_findWorthKeeping 91 = .ok (.getfield 9, 3) := by decide +kernel
theorem dX2_findWorthKeeping_94 : decode cX2_findWorthKeeping 94 = .ok (.iload_n 3, 1) := by decide +kernel
theorem dX2_findWorthKeeping_95 : decode cX2_findWorthKeeping 95 = .ok (.dup2, 1) := by decide +kernel
theorem dX2_findWorthKeeping_96 : decode cX2_findWorthKeeping 96 = .ok (.iaload, 1) := by decide +kernel
theorem dX2_findWorthKeeping_97 : decode cX2_findWorthKeeping 97 = .ok (.iload_n 2, 1) := by decide +kernel
theorem dX2_findWorthKeeping_98 : decode cX2_findWorthKeeping 98 = .ok (.iand, 1) := by decide +kernel
theorem dX2_findWorthKeeping_99 : decode cX2_findWorthKeeping 99 = .ok (.iastore, 1) := by decide +kernel
theorem dX2_findWorthKeeping_100 : decode cX2_findWorthKeeping 100 = .ok (.iload_n 2, 1) := by decide +kernel
theorem dX2_findWorthKeeping_101 : decode cX2_findWorthKeeping 101 = .ok (.aload_n 0, 1) := by decide +kernel
theorem dX2_findWorthKeeping_102 : decode cX2_findWorthKeeping 102 = .ok (.getfield 18, 3) := by decide +kernel
theorem dX2_findWorthKeeping_105 : decode cX2_findWorthKeeping 105 = .ok (.iload_n 3, 1) := by decide +kernel
theorem dX2_findWorthKeeping_106 : decode cX2_findWorthKeeping 106 = .ok (.invokevirtual 39, 3) := by decide +kernel
theorem dX2_findWorthKeeping_109 : decode cX2_findWorthKeeping 109 = .ok (.ior, 1) := by decide +kernel
theorem dX2_findWorthKeeping_110 : decode cX2_findWorthKeeping 110 = .ok (.istore_n 2, 1) := by decide +kernel
theorem dX2_findWorthKeeping_111 : decode cX2_findWorthKeeping 111 = .ok (.iinc 3 (-1), 3) := by decide +kernel
theorem dX2_findWorthKeeping_114 : decode cX2_findWorthKeeping 114 = .ok (.goto (-41), 3) := by decide +kernel
theorem dX2_findWorthKeeping_117 : decode cX2_findWorthKeeping 117 = .ok (.return_, 1) := by decide +kernel
set_option maxRecDepth 20000 in
theorem ggX2_fillPlace_X2_subsets : GoodIn wsX2_fillPlace wsX2_subsets := goodIn_r _ [8, 9, 10, 11, 12, 13, 14, 15] (by decide +kernel) (by decide +kernel)
set_option maxRecDepth 20000 in
theorem gX2_fillPlace_X2_subsets : GoodIn wsX2_fillPlace (va_wsS RX2 52 yX2_subsets wsX2_subsets) := goodIn_app (goodIn_of _ (by decide +kernel)) ggX2_fillPlace_X2_subsets
set_option maxRecDepth 20000 in
theorem ggX2_fillPlace_X2_cell : GoodIn wsX2_fillPlace wsX2_cell := goodIn_r _ [18] (by decide +kernel) (by decide +kernel)
set_option maxRecDepth 20000 in
theorem gX2_fillPlace_X2_cell : GoodIn wsX2_fillPlace (va_wsS RX2 48 yX2_cell wsX2_cell) := goodIn_app (goodIn_of _ (by decide +kernel)) ggX2_fillPlace_X2_cell
set_option maxRecDepth 20000 in
theorem ggX2_fillPlace_X6_needs : GoodIn wsX2_fillPlace wsX6_needs := goodIn_r _ [23, 24, 25, 71, 72, 73, 74, 75, 76] (by decide +kernel) (by decide +kernel)
set_option maxRecDepth 20000 in
theorem gX2_fillPlace_X6_needs : GoodIn wsX2_fillPlace (wsV RX2 39 RX6 yX6_needs wsX6_needs) := goodIn_app (goodIn_of _ (by decide +kernel)) ggX2_fillPlace_X6_needs
set_option maxRecDepth 20000 in
theorem ggX2_fillPlace_X3_holds : GoodIn wsX2_fillPlace wsX3_holds := goodIn_r _ [30, 31, 32, 33, 34, 29, 35, 36, 37, 10, 11, 12, 13, 14, 15, 77, 78] (by decide +kernel) (by decide +kernel)
set_option maxRecDepth 20000 in
theorem gX2_fillPlace_X3_holds : GoodIn wsX2_fillPlace (wsV RX2 61 RX3 yX3_holds wsX3_holds) := goodIn_app (goodIn_of _ (by decide +kernel)) ggX2_fillPlace_X3_holds
set_option maxRecDepth 20000 in
theorem ggX2_fillPlace_X2_costIfKept : GoodIn wsX2_fillPlace wsX2_costIfKept := goodIn_r _ [41, 4, 3, 2, 1, 42, 43, 44, 22, 45, 46, 19, 20, 21, 23, 24, 25, 47, 48, 49, 50, 51, 52, 33, 34, 29, 35, 36, 37, 10, 11, 12, 13, 14, 15, 16, 17, 7, 18, 67, 68, 69, 70, 71, 72, 73, 74, 75, 76, 77, 78] (by decide +kernel) (by decide +kernel)
set_option maxRecDepth 20000 in
theorem gX2_fillPlace_X2_costIfKept : GoodIn wsX2_fillPlace (wsV RX2 65 RX2 yX2_costIfKept wsX2_costIfKept) := goodIn_app (goodIn_of _ (by decide +kernel)) ggX2_fillPlace_X2_costIfKept
set_option maxRecDepth 20000 in
theorem ggX2_fillPlace_X2_costOfFewer : GoodIn wsX2_fillPlace wsX2_costOfFewer := goodIn_r _ [56, 2, 57, 58, 59, 60, 61, 62, 63, 16, 17, 7, 18, 67, 68, 69, 70] (by decide +kernel) (by decide +kernel)
set_option maxRecDepth 20000 in
theorem gX2_fillPlace_X2_costOfFewer : GoodIn wsX2_fillPlace (wsV RX2 68 RX2 yX2_costOfFewer wsX2_costOfFewer) := goodIn_app (goodIn_of _ (by decide +kernel)) ggX2_fillPlace_X2_costOfFewer
set_option maxRecDepth 20000 in
theorem ggX2_fillPlace_X2_subsetBehind : GoodIn wsX2_fillPlace wsX2_subsetBehind := goodIn_r _ [66] (by decide +kernel) (by decide +kernel)
set_option maxRecDepth 20000 in
theorem gX2_fillPlace_X2_subsetBehind : GoodIn wsX2_fillPlace (va_wsS RX2 55 yX2_subsetBehind wsX2_subsetBehind) := goodIn_app (goodIn_of _ (by decide +kernel)) ggX2_fillPlace_X2_subsetBehind
theorem dX2_fillPlace_0 : decode cX2_fillPlace 0 = .ok (.iconst 0, 1) := by decide +kernel
theorem dX2_fillPlace_1 : decode cX2_fillPlace 1 = .ok (.istore_n 2, 1) := by decide +kernel
theorem dX2_fillPlace_2 : decode cX2_fillPlace 2 = .ok (.aload_n 0, 1) := by decide +kernel
theorem dX2_fillPlace_3 : decode cX2_fillPlace 3 = .ok (.getfield 9, 3) := by decide +kernel
theorem dX2_fillPlace_6 : decode cX2_fillPlace 6 = .ok (.iload_n 1, 1) := by decide +kernel
theorem dX2_fillPlace_7 : decode cX2_fillPlace 7 = .ok (.iaload, 1) := by decide +kernel
theorem dX2_fillPlace_8 : decode cX2_fillPlace 8 = .ok (.invokestatic 52, 3) := by decide +kernel
theorem dX2_fillPlace_11 : decode cX2_fillPlace 11 = .ok (.istore_n 3, 1) := by decide +kernel
theorem dX2_fillPlace_12 : decode cX2_fillPlace 12 = .ok (.iload_n 3, 1) := by decide +kernel
theorem dX2_fillPlace_13 : decode cX2_fillPlace 13 = .ok (.ifCond .le 65, 3) := by decide +kernel
theorem dX2_fillPlace_16 : decode cX2_fillPlace 16 = .ok (.aload_n 0, 1) := by decide +kernel
theorem dX2_fillPlace_17 : decode cX2_fillPlace 17 = .ok (.getfield 15, 3) := by decide +kernel
theorem dX2_fillPlace_20 : decode cX2_fillPlace 20 = .ok (.iload_n 1, 1) := by decide +kernel
theorem dX2_fillPlace_21 : decode cX2_fillPlace 21 = .ok (.iload_n 2, 1) := by decide +kernel
theorem dX2_fillPlace_22 : decode cX2_fillPlace 22 = .ok (.invokestatic 48, 3) := by decide +kernel
theorem dX2_fillPlace_25 : decode cX2_fillPlace 25 = .ok (.aload_n 0, 1) := by decide +kernel
theorem dX2_fillPlace_26 : decode cX2_fillPlace 26 = .ok (.getfield 22, 3) := by decide +kernel
theorem dX2_fillPlace_29 : decode cX2_fillPlace 29 = .ok (.aload_n 0, 1) := by decide +kernel
theorem dX2_fillPlace_30 : decode cX2_fillPlace 30 = .ok (.getfield 18, 3) := by decide +kernel
theorem dX2_fillPlace_33 : decode cX2_fillPlace 33 = .ok (.iload_n 1, 1) := by decide +kernel
theorem dX2_fillPlace_34 : decode cX2_fillPlace 34 = .ok (.invokevirtual 39, 3) := by decide +kernel
theorem dX2_fillPlace_37 : decode cX2_fillPlace 37 = .ok (.iload_n 2, 1) := by decide +kernel
theorem dX2_fillPlace_38 : decode cX2_fillPlace 38 = .ok (.ior, 1) := by decide +kernel
theorem dX2_fillPlace_39 : decode cX2_fillPlace 39 = .ok (.invokevirtual 61, 3) := by decide +kernel
theorem dX2_fillPlace_42 : decode cX2_fillPlace 42 = .ok (.ifCond .eq 12, 3) := by decide +kernel
theorem dX2_fillPlace_45 : decode cX2_fillPlace 45 = .ok (.aload_n 0, 1) := by decide +kernel
theorem dX2_fillPlace_46 : decode cX2_fillPlace 46 = .ok (.iload_n 1, 1) := by decide +kernel
theorem dX2_fillPlace_47 : decode cX2_fillPlace 47 = .ok (.iload_n 2, 1) := by decide +kernel
theorem dX2_fillPlace_48 : decode cX2_fillPlace 48 = .ok (.invokevirtual 65, 3) := by decide +kernel
theorem dX2_fillPlace_51 : decode cX2_fillPlace 51 = .ok (.goto 9, 3) := by decide +kernel
theorem dX2_fillPlace_54 : decode cX2_fillPlace 54 = .ok (.aload_n 0, 1) := by decide +kernel
theorem dX2_fillPlace_55 : decode cX2_fillPlace 55 = .ok (.iload_n 1, 1) := by decide +kernel
theorem dX2_fillPlace_56 : decode cX2_fillPlace 56 = .ok (.iload_n 2, 1) := by decide +kernel
theorem dX2_fillPlace_57 : decode cX2_fillPlace 57 = .ok (.invokevirtual 68, 3) := by decide +kernel
theorem dX2_fillPlace_60 : decode cX2_fillPlace 60 = .ok (.iastore, 1) := by decide +kernel
theorem dX2_fillPlace_61 : decode cX2_fillPlace 61 = .ok (.aload_n 0, 1) := by decide +kernel
theorem dX2_fillPlace_62 : decode cX2_fillPlace 62 = .ok (.getfield 9, 3) := by decide +kernel
theorem dX2_fillPlace_65 : decode cX2_fillPlace 65 = .ok (.iload_n 1, 1) := by decide +kernel
theorem dX2_fillPlace_66 : decode cX2_fillPlace 66 = .ok (.iaload, 1) := by decide +kernel
theorem dX2_fillPlace_67 : decode cX2_fillPlace 67 = .ok (.iload_n 2, 1) := by decide +kernel
theorem dX2_fillPlace_68 : decode cX2_fillPlace 68 = .ok (.invokestatic 55, 3) := by decide +kernel
theorem dX2_fillPlace_71 : decode cX2_fillPlace 71 = .ok (.istore_n 2, 1) := by decide +kernel
theorem dX2_fillPlace_72 : decode cX2_fillPlace 72 = .ok (.iinc 3 (-1), 3) := by decide +kernel
theorem dX2_fillPlace_75 : decode cX2_fillPlace 75 = .ok (.goto (-63), 3) := by decide +kernel
theorem dX2_fillPlace_78 : decode cX2_fillPlace 78 = .ok (.return_, 1) := by decide +kernel
set_option maxRecDepth 20000 in
theorem ggX2_costIfKept_X6_size : GoodIn wsX2_costIfKept wsX6_size := goodIn_r _ [9, 10, 43, 44, 45, 46, 47, 48] (by decide +kernel) (by decide +kernel)
set_option maxRecDepth 20000 in
theorem gX2_costIfKept_X6_size : GoodIn wsX2_costIfKept (wsV RX2 29 RX6 yX6_size wsX6_size) := goodIn_app (goodIn_of _ (by decide +kernel)) ggX2_costIfKept_X6_size
set_option maxRecDepth 20000 in
theorem ggX2_costIfKept_X6_needs : GoodIn wsX2_costIfKept wsX6_needs := goodIn_r _ [14, 15, 16, 43, 44, 45, 46, 47, 48] (by decide +kernel) (by decide +kernel)
set_option maxRecDepth 20000 in
theorem gX2_costIfKept_X6_needs : GoodIn wsX2_costIfKept (wsV RX2 39 RX6 yX6_needs wsX6_needs) := goodIn_app (goodIn_of _ (by decide +kernel)) ggX2_costIfKept_X6_needs
set_option maxRecDepth 20000 in
theorem ggX2_costIfKept_X6_broken : GoodIn wsX2_costIfKept wsX6_broken := goodIn_r _ [20, 21, 43, 44, 45, 46, 47, 48] (by decide +kernel) (by decide +kernel)
set_option maxRecDepth 20000 in
theorem gX2_costIfKept_X6_broken : GoodIn wsX2_costIfKept (wsV RX2 58 RX6 yX6_broken wsX6_broken) := goodIn_app (goodIn_of _ (by decide +kernel)) ggX2_costIfKept_X6_broken
set_option maxRecDepth 20000 in
theorem ggX2_costIfKept_X3_sizeOf : GoodIn wsX2_costIfKept wsX3_sizeOf := goodIn_r _ [26, 27, 28, 29, 30, 31, 32, 33, 34, 49, 50] (by decide +kernel) (by decide +kernel)
set_option maxRecDepth 20000 in
theorem gX2_costIfKept_X3_sizeOf : GoodIn wsX2_costIfKept (wsV RX2 43 RX3 yX3_sizeOf wsX3_sizeOf) := goodIn_app (goodIn_of _ (by decide +kernel)) ggX2_costIfKept_X3_sizeOf
set_option maxRecDepth 20000 in
theorem ggX2_costIfKept_X2_cell : GoodIn wsX2_costIfKept wsX2_cell := goodIn_r _ [38] (by decide +kernel) (by decide +kernel)
set_option maxRecDepth 20000 in
theorem gX2_costIfKept_X2_cell : GoodIn wsX2_costIfKept (va_wsS RX2 48 yX2_cell wsX2_cell) := goodIn_app (goodIn_of _ (by decide +kernel)) ggX2_costIfKept_X2_cell
theorem dX2_costIfKept_0 : decode cX2_costIfKept 0 = .ok (.iload_n 1, 1) := by decide +kernel
theorem dX2_costIfKept_1 : decode cX2_costIfKept 1 = .ok (.iconst 1, 1) := by decide +kernel
theorem dX2_costIfKept_2 : decode cX2_costIfKept 2 = .ok (.iadd, 1) := by decide +kernel
theorem dX2_costIfKept_3 : decode cX2_costIfKept 3 = .ok (.aload_n 0, 1) := by decide +kernel
theorem dX2_costIfKept_4 : decode cX2_costIfKept 4 = .ok (.getfield 18, 3) := by decide +kernel
theorem dX2_costIfKept_7 : decode cX2_costIfKept 7 = .ok (.invokevirtual 29, 3) := by decide +kernel
theorem dX2_costIfKept_10 : decode cX2_costIfKept 10 = .ok (.if_icmp .lt 5, 3) := by decide +kernel
theorem dX2_costIfKept_13 : decode cX2_costIfKept 13 = .ok (.iconst 0, 1) := by decide +kernel
theorem dX2_costIfKept_14 : decode cX2_costIfKept 14 = .ok (.ireturn, 1) := by decide +kernel
theorem dX2_costIfKept_15 : decode cX2_costIfKept 15 = .ok (.aload_n 0, 1) := by decide +kernel
theorem dX2_costIfKept_16 : decode cX2_costIfKept 16 = .ok (.getfield 18, 3) := by decide +kernel
theorem dX2_costIfKept_19 : decode cX2_costIfKept 19 = .ok (.iload_n 1, 1) := by decide +kernel
theorem dX2_costIfKept_20 : decode cX2_costIfKept 20 = .ok (.invokevirtual 39, 3) := by decide +kernel
theorem dX2_costIfKept_23 : decode cX2_costIfKept 23 = .ok (.iload_n 2, 1) := by decide +kernel
theorem dX2_costIfKept_24 : decode cX2_costIfKept 24 = .ok (.ior, 1) := by decide +kernel
theorem dX2_costIfKept_25 : decode cX2_costIfKept 25 = .ok (.aload_n 0, 1) := by decide +kernel
theorem dX2_costIfKept_26 : decode cX2_costIfKept 26 = .ok (.getfield 18, 3) := by decide +kernel
theorem dX2_costIfKept_29 : decode cX2_costIfKept 29 = .ok (.iload_n 1, 1) := by decide +kernel
theorem dX2_costIfKept_30 : decode cX2_costIfKept 30 = .ok (.invokevirtual 58, 3) := by decide +kernel
theorem dX2_costIfKept_33 : decode cX2_costIfKept 33 = .ok (.iconst (-1), 1) := by decide +kernel
theorem dX2_costIfKept_34 : decode cX2_costIfKept 34 = .ok (.ixor, 1) := by decide +kernel
theorem dX2_costIfKept_35 : decode cX2_costIfKept 35 = .ok (.iand, 1) := by decide +kernel
theorem dX2_costIfKept_36 : decode cX2_costIfKept 36 = .ok (.istore_n 3, 1) := by decide +kernel
theorem dX2_costIfKept_37 : decode cX2_costIfKept 37 = .ok (.aload_n 0, 1) := by decide +kernel
theorem dX2_costIfKept_38 : decode cX2_costIfKept 38 = .ok (.getfield 18, 3) := by decide +kernel
theorem dX2_costIfKept_41 : decode cX2_costIfKept 41 = .ok (.iload_n 1, 1) := by decide +kernel
theorem dX2_costIfKept_42 : decode cX2_costIfKept 42 = .ok (.iconst 1, 1) := by decide +kernel
theorem dX2_costIfKept_43 : decode cX2_costIfKept 43 = .ok (.iadd, 1) := by decide +kernel
theorem dX2_costIfKept_44 : decode cX2_costIfKept 44 = .ok (.invokevirtual 39, 3) := by decide +kernel
theorem dX2_costIfKept_47 : decode cX2_costIfKept 47 = .ok (.iload_n 3, 1) := by decide +kernel
theorem dX2_costIfKept_48 : decode cX2_costIfKept 48 = .ok (.iconst (-1), 1) := by decide +kernel
theorem dX2_costIfKept_49 : decode cX2_costIfKept 49 = .ok (.ixor, 1) := by decide +kernel
theorem dX2_costIfKept_50 : decode cX2_costIfKept 50 = .ok (.iand, 1) := by decide +kernel
theorem dX2_costIfKept_51 : decode cX2_costIfKept 51 = .ok (.istore 4, 2) := by decide +kernel
theorem dX2_costIfKept_53 : decode cX2_costIfKept 53 = .ok (.aload_n 0, 1) := by decide +kernel
theorem dX2_costIfKept_54 : decode cX2_costIfKept 54 = .ok (.getfield 22, 3) := by decide +kernel
theorem dX2_costIfKept_57 : decode cX2_costIfKept 57 = .ok (.iload 4, 2) := by decide +kernel
theorem dX2_costIfKept_59 : decode cX2_costIfKept 59 = .ok (.invokevirtual 43, 3) := by decide +kernel
theorem dX2_costIfKept_62 : decode cX2_costIfKept 62 = .ok (.aload_n 0, 1) := by decide +kernel
theorem dX2_costIfKept_63 : decode cX2_costIfKept 63 = .ok (.getfield 15, 3) := by decide +kernel
theorem dX2_costIfKept_66 : decode cX2_costIfKept 66 = .ok (.iload_n 1, 1) := by decide +kernel
theorem dX2_costIfKept_67 : decode cX2_costIfKept 67 = .ok (.iconst 1, 1) := by decide +kernel
theorem dX2_costIfKept_68 : decode cX2_costIfKept 68 = .ok (.iadd, 1) := by decide +kernel
theorem dX2_costIfKept_69 : decode cX2_costIfKept 69 = .ok (.iload_n 3, 1) := by decide +kernel
theorem dX2_costIfKept_70 : decode cX2_costIfKept 70 = .ok (.aload_n 0, 1) := by decide +kernel
theorem dX2_costIfKept_71 : decode cX2_costIfKept 71 = .ok (.getfield 9, 3) := by decide +kernel
theorem dX2_costIfKept_74 : decode cX2_costIfKept 74 = .ok (.iload_n 1, 1) := by decide +kernel
theorem dX2_costIfKept_75 : decode cX2_costIfKept 75 = .ok (.iconst 1, 1) := by decide +kernel
theorem dX2_costIfKept_76 : decode cX2_costIfKept 76 = .ok (.iadd, 1) := by decide +kernel
theorem dX2_costIfKept_77 : decode cX2_costIfKept 77 = .ok (.iaload, 1) := by decide +kernel
theorem dX2_costIfKept_78 : decode cX2_costIfKept 78 = .ok (.iand, 1) := by decide +kernel
theorem dX2_costIfKept_79 : decode cX2_costIfKept 79 = .ok (.invokestatic 48, 3) := by decide +kernel
theorem dX2_costIfKept_82 : decode cX2_costIfKept 82 = .ok (.iaload, 1) := by decide +kernel
theorem dX2_costIfKept_83 : decode cX2_costIfKept 83 = .ok (.iadd, 1) := by decide +kernel
theorem dX2_costIfKept_84 : decode cX2_costIfKept 84 = .ok (.ireturn, 1) := by decide +kernel
set_option maxRecDepth 20000 in
theorem ggX2_costOfFewer_X8_hasTool : GoodIn wsX2_costOfFewer wsX8_hasTool := goodIn_r _ [8] (by decide +kernel) (by decide +kernel)
set_option maxRecDepth 20000 in
theorem gX2_costOfFewer_X8_hasTool_n71 : GoodIn wsX2_costOfFewer (wsX8_hasTool) := ggX2_costOfFewer_X8_hasTool
set_option maxRecDepth 20000 in
theorem ggX2_costOfFewer_X2_cell : GoodIn wsX2_costOfFewer wsX2_cell := goodIn_r _ [12] (by decide +kernel) (by decide +kernel)
set_option maxRecDepth 20000 in
theorem gX2_costOfFewer_X2_cell : GoodIn wsX2_costOfFewer (va_wsS RX2 48 yX2_cell wsX2_cell) := goodIn_app (goodIn_of _ (by decide +kernel)) ggX2_costOfFewer_X2_cell
theorem dX2_costOfFewer_0 : decode cX2_costOfFewer 0 = .ok (.sipush 1000, 3) := by decide +kernel
theorem dX2_costOfFewer_3 : decode cX2_costOfFewer 3 = .ok (.istore_n 3, 1) := by decide +kernel
theorem dX2_costOfFewer_4 : decode cX2_costOfFewer 4 = .ok (.iconst 0, 1) := by decide +kernel
theorem dX2_costOfFewer_5 : decode cX2_costOfFewer 5 = .ok (.istore 4, 2) := by decide +kernel
theorem dX2_costOfFewer_7 : decode cX2_costOfFewer 7 = .ok (.iload 4, 2) := by decide +kernel
theorem dX2_costOfFewer_9 : decode cX2_costOfFewer 9 = .ok (.bipush 8, 2) := by decide +kernel
theorem dX2_costOfFewer_11 : decode cX2_costOfFewer 11 = .ok (.if_icmp .ge 40, 3) := by decide +kernel
theorem dX2_costOfFewer_14 : decode cX2_costOfFewer 14 = .ok (.iload_n 2, 1) := by decide +kernel
theorem dX2_costOfFewer_15 : decode cX2_costOfFewer 15 = .ok (.iload 4, 2) := by decide +kernel
theorem dX2_costOfFewer_17 : decode cX2_costOfFewer 17 = .ok (.invokestatic 71, 3) := by decide +kernel
theorem dX2_costOfFewer_20 : decode cX2_costOfFewer 20 = .ok (.ifCond .eq 25, 3) := by decide +kernel
theorem dX2_costOfFewer_23 : decode cX2_costOfFewer 23 = .ok (.iload_n 3, 1) := by decide +kernel
theorem dX2_costOfFewer_24 : decode cX2_costOfFewer 24 = .ok (.aload_n 0, 1) := by decide +kernel
theorem dX2_costOfFewer_25 : decode cX2_costOfFewer 25 = .ok (.getfield 15, 3) := by decide +kernel
theorem dX2_costOfFewer_28 : decode cX2_costOfFewer 28 = .ok (.iload_n 1, 1) := by decide +kernel
theorem dX2_costOfFewer_29 : decode cX2_costOfFewer 29 = .ok (.iload_n 2, 1) := by decide +kernel
theorem dX2_costOfFewer_30 : decode cX2_costOfFewer 30 = .ok (.iconst 1, 1) := by decide +kernel
theorem dX2_costOfFewer_31 : decode cX2_costOfFewer 31 = .ok (.iload 4, 2) := by decide +kernel
theorem dX2_costOfFewer_33 : decode cX2_costOfFewer 33 = .ok (.ishl, 1) := by decide +kernel
theorem dX2_costOfFewer_34 : decode cX2_costOfFewer 34 = .ok (.iconst (-1), 1) := by decide +kernel
theorem dX2_costOfFewer_35 : decode cX2_costOfFewer 35 = .ok (.ixor, 1) := by decide +kernel
theorem dX2_costOfFewer_36 : decode cX2_costOfFewer 36 = .ok (.iand, 1) := by decide +kernel
theorem dX2_costOfFewer_37 : decode cX2_costOfFewer 37 = .ok (.invokestatic 48, 3) := by decide +kernel
theorem dX2_costOfFewer_40 : decode cX2_costOfFewer 40 = .ok (.iaload, 1) := by decide +kernel
theorem dX2_costOfFewer_41 : decode cX2_costOfFewer 41 = .ok (.invokestatic 75, 3) := by decide +kernel
theorem dX2_costOfFewer_44 : decode cX2_costOfFewer 44 = .ok (.istore_n 3, 1) := by decide +kernel
theorem dX2_costOfFewer_45 : decode cX2_costOfFewer 45 = .ok (.iinc 4 1, 3) := by decide +kernel
theorem dX2_costOfFewer_48 : decode cX2_costOfFewer 48 = .ok (.goto (-41), 3) := by decide +kernel
theorem dX2_costOfFewer_51 : decode cX2_costOfFewer 51 = .ok (.iload_n 3, 1) := by decide +kernel
theorem dX2_costOfFewer_52 : decode cX2_costOfFewer 52 = .ok (.ireturn, 1) := by decide +kernel
theorem dX2_cell_0 : decode cX2_cell 0 = .ok (.iload_n 0, 1) := by decide +kernel
theorem dX2_cell_1 : decode cX2_cell 1 = .ok (.sipush 256, 3) := by decide +kernel
theorem dX2_cell_4 : decode cX2_cell 4 = .ok (.imul, 1) := by decide +kernel
theorem dX2_cell_5 : decode cX2_cell 5 = .ok (.iload_n 1, 1) := by decide +kernel
theorem dX2_cell_6 : decode cX2_cell 6 = .ok (.iadd, 1) := by decide +kernel
theorem dX2_cell_7 : decode cX2_cell 7 = .ok (.ireturn, 1) := by decide +kernel
set_option maxRecDepth 20000 in
theorem ggX2_subsets_J6_bitCount_0f7a4 : GoodIn wsX2_subsets wsJ6_bitCount_0f7a4 := goodIn_r _ [4, 5, 6, 7] (by decide +kernel) (by decide +kernel)
set_option maxRecDepth 20000 in
theorem gX2_subsets_J6_bitCount_0f7a4 : GoodIn wsX2_subsets (va_wsS RX2 80 yJ6_bitCount_0f7a4 wsJ6_bitCount_0f7a4) := goodIn_app (goodIn_of _ (by decide +kernel)) ggX2_subsets_J6_bitCount_0f7a4
theorem dX2_subsets_0 : decode cX2_subsets 0 = .ok (.iconst 1, 1) := by decide +kernel
theorem dX2_subsets_1 : decode cX2_subsets 1 = .ok (.iload_n 0, 1) := by decide +kernel
theorem dX2_subsets_2 : decode cX2_subsets 2 = .ok (.invokestatic 80, 3) := by decide +kernel
theorem dX2_subsets_5 : decode cX2_subsets 5 = .ok (.ishl, 1) := by decide +kernel
theorem dX2_subsets_6 : decode cX2_subsets 6 = .ok (.ireturn, 1) := by decide +kernel
theorem dX2_subsetBehind_0 : decode cX2_subsetBehind 0 = .ok (.iload_n 1, 1) := by decide +kernel
theorem dX2_subsetBehind_1 : decode cX2_subsetBehind 1 = .ok (.iload_n 0, 1) := by decide +kernel
theorem dX2_subsetBehind_2 : decode cX2_subsetBehind 2 = .ok (.isub, 1) := by decide +kernel
theorem dX2_subsetBehind_3 : decode cX2_subsetBehind 3 = .ok (.iload_n 0, 1) := by decide +kernel
theorem dX2_subsetBehind_4 : decode cX2_subsetBehind 4 = .ok (.iand, 1) := by decide +kernel
theorem dX2_subsetBehind_5 : decode cX2_subsetBehind 5 = .ok (.ireturn, 1) := by decide +kernel
theorem dX3_init_0 : decode cX3_init 0 = .ok (.aload_n 0, 1) := by decide +kernel
theorem dX3_init_1 : decode cX3_init 1 = .ok (.invokespecial 3, 3) := by decide +kernel
theorem dX3_init_4 : decode cX3_init 4 = .ok (.aload_n 0, 1) := by decide +kernel
theorem dX3_init_5 : decode cX3_init 5 = .ok (.iconst 4, 1) := by decide +kernel
theorem dX3_init_6 : decode cX3_init 6 = .ok (.putfield 9, 3) := by decide +kernel
theorem dX3_init_9 : decode cX3_init 9 = .ok (.return_, 1) := by decide +kernel
theorem dX3_bigTools_0 : decode cX3_bigTools 0 = .ok (.aload_n 0, 1) := by decide +kernel
theorem dX3_bigTools_1 : decode cX3_bigTools 1 = .ok (.getfield 15, 3) := by decide +kernel
theorem dX3_bigTools_4 : decode cX3_bigTools 4 = .ok (.ireturn, 1) := by decide +kernel
theorem dX3_room_0 : decode cX3_room 0 = .ok (.aload_n 0, 1) := by decide +kernel
theorem dX3_room_1 : decode cX3_room 1 = .ok (.getfield 9, 3) := by decide +kernel
theorem dX3_room_4 : decode cX3_room 4 = .ok (.ireturn, 1) := by decide +kernel
set_option maxRecDepth 20000 in
theorem ggX3_setBig_X8_withTool : GoodIn wsX3_setBig wsX8_withTool := goodIn_r _ [4] (by decide +kernel) (by decide +kernel)
set_option maxRecDepth 20000 in
theorem gX3_setBig_X8_withTool_n18 : GoodIn wsX3_setBig (wsX8_withTool) := ggX3_setBig_X8_withTool
theorem dX3_setBig_0 : decode cX3_setBig 0 = .ok (.aload_n 0, 1) := by decide +kernel
theorem dX3_setBig_1 : decode cX3_setBig 1 = .ok (.aload_n 0, 1) := by decide +kernel
theorem dX3_setBig_2 : decode cX3_setBig 2 = .ok (.getfield 15, 3) := by decide +kernel
theorem dX3_setBig_5 : decode cX3_setBig 5 = .ok (.iload_n 1, 1) := by decide +kernel
theorem dX3_setBig_6 : decode cX3_setBig 6 = .ok (.iload_n 2, 1) := by decide +kernel
theorem dX3_setBig_7 : decode cX3_setBig 7 = .ok (.invokestatic 18, 3) := by decide +kernel
theorem dX3_setBig_10 : decode cX3_setBig 10 = .ok (.putfield 15, 3) := by decide +kernel
theorem dX3_setBig_13 : decode cX3_setBig 13 = .ok (.return_, 1) := by decide +kernel
theorem dX3_setRoom_0 : decode cX3_setRoom 0 = .ok (.aload_n 0, 1) := by decide +kernel
theorem dX3_setRoom_1 : decode cX3_setRoom 1 = .ok (.iload_n 1, 1) := by decide +kernel
theorem dX3_setRoom_2 : decode cX3_setRoom 2 = .ok (.putfield 9, 3) := by decide +kernel
theorem dX3_setRoom_5 : decode cX3_setRoom 5 = .ok (.return_, 1) := by decide +kernel
set_option maxRecDepth 20000 in
theorem ggX3_sizeOf_J6_bitCount_0f7a4 : GoodIn wsX3_sizeOf wsJ6_bitCount_0f7a4 := goodIn_r _ [5, 6, 7, 8] (by decide +kernel) (by decide +kernel)
set_option maxRecDepth 20000 in
theorem gX3_sizeOf_J6_bitCount_0f7a4 : GoodIn wsX3_sizeOf (va_wsS RX3 22 yJ6_bitCount_0f7a4 wsJ6_bitCount_0f7a4) := goodIn_app (goodIn_of _ (by decide +kernel)) ggX3_sizeOf_J6_bitCount_0f7a4
theorem dX3_sizeOf_0 : decode cX3_sizeOf 0 = .ok (.iload_n 1, 1) := by decide +kernel
theorem dX3_sizeOf_1 : decode cX3_sizeOf 1 = .ok (.invokestatic 22, 3) := by decide +kernel
theorem dX3_sizeOf_4 : decode cX3_sizeOf 4 = .ok (.iload_n 1, 1) := by decide +kernel
theorem dX3_sizeOf_5 : decode cX3_sizeOf 5 = .ok (.aload_n 0, 1) := by decide +kernel
theorem dX3_sizeOf_6 : decode cX3_sizeOf 6 = .ok (.getfield 15, 3) := by decide +kernel
theorem dX3_sizeOf_9 : decode cX3_sizeOf 9 = .ok (.iand, 1) := by decide +kernel
theorem dX3_sizeOf_10 : decode cX3_sizeOf 10 = .ok (.invokestatic 22, 3) := by decide +kernel
theorem dX3_sizeOf_13 : decode cX3_sizeOf 13 = .ok (.iadd, 1) := by decide +kernel
theorem dX3_sizeOf_14 : decode cX3_sizeOf 14 = .ok (.ireturn, 1) := by decide +kernel
set_option maxRecDepth 20000 in
theorem ggX3_holds_X3_sizeOf : GoodIn wsX3_holds wsX3_sizeOf := goodIn_r _ [6, 7, 8, 9, 10, 11, 12, 13, 14, 15, 16] (by decide +kernel) (by decide +kernel)
set_option maxRecDepth 20000 in
theorem gX3_holds_X3_sizeOf : GoodIn wsX3_holds (wsV RX3 28 RX3 yX3_sizeOf wsX3_sizeOf) := goodIn_app (goodIn_of _ (by decide +kernel)) ggX3_holds_X3_sizeOf
theorem dX3_holds_0 : decode cX3_holds 0 = .ok (.aload_n 0, 1) := by decide +kernel
theorem dX3_holds_1 : decode cX3_holds 1 = .ok (.iload_n 1, 1) := by decide +kernel
theorem dX3_holds_2 : decode cX3_holds 2 = .ok (.invokevirtual 28, 3) := by decide +kernel
theorem dX3_holds_5 : decode cX3_holds 5 = .ok (.aload_n 0, 1) := by decide +kernel
theorem dX3_holds_6 : decode cX3_holds 6 = .ok (.getfield 9, 3) := by decide +kernel
theorem dX3_holds_9 : decode cX3_holds 9 = .ok (.if_icmp .gt 7, 3) := by decide +kernel
theorem dX3_holds_12 : decode cX3_holds 12 = .ok (.iconst 1, 1) := by decide +kernel
theorem dX3_holds_13 : decode cX3_holds 13 = .ok (.goto 4, 3) := by decide +kernel
theorem dX3_holds_16 : decode cX3_holds 16 = .ok (.iconst 0, 1) := by decide +kernel
theorem dX3_holds_17 : decode cX3_holds 17 = .ok (.ireturn, 1) := by decide +kernel
theorem dX4_init_0 : decode cX4_init 0 = .ok (.aload_n 0, 1) := by decide +kernel
theorem dX4_init_1 : decode cX4_init 1 = .ok (.invokespecial 3, 3) := by decide +kernel
theorem dX4_init_4 : decode cX4_init 4 = .ok (.aload_n 0, 1) := by decide +kernel
theorem dX4_init_5 : decode cX4_init 5 = .ok (.bipush 71, 2) := by decide +kernel
theorem dX4_init_7 : decode cX4_init 7 = .ok (.newarray .char, 2) := by decide +kernel
theorem dX4_init_9 : decode cX4_init 9 = .ok (.putfield 9, 3) := by decide +kernel
theorem dX4_init_12 : decode cX4_init 12 = .ok (.return_, 1) := by decide +kernel
theorem dX4_length_0 : decode cX4_length 0 = .ok (.aload_n 0, 1) := by decide +kernel
theorem dX4_length_1 : decode cX4_length 1 = .ok (.getfield 15, 3) := by decide +kernel
theorem dX4_length_4 : decode cX4_length 4 = .ok (.ireturn, 1) := by decide +kernel
theorem dX4_isFull_0 : decode cX4_isFull 0 = .ok (.aload_n 0, 1) := by decide +kernel
theorem dX4_isFull_1 : decode cX4_isFull 1 = .ok (.getfield 15, 3) := by decide +kernel
theorem dX4_isFull_4 : decode cX4_isFull 4 = .ok (.bipush 71, 2) := by decide +kernel
theorem dX4_isFull_6 : decode cX4_isFull 6 = .ok (.if_icmp .lt 7, 3) := by decide +kernel
theorem dX4_isFull_9 : decode cX4_isFull 9 = .ok (.iconst 1, 1) := by decide +kernel
theorem dX4_isFull_10 : decode cX4_isFull 10 = .ok (.goto 4, 3) := by decide +kernel
theorem dX4_isFull_13 : decode cX4_isFull 13 = .ok (.iconst 0, 1) := by decide +kernel
theorem dX4_isFull_14 : decode cX4_isFull 14 = .ok (.ireturn, 1) := by decide +kernel
set_option maxRecDepth 20000 in
theorem ggX4_write_X4_isFull : GoodIn wsX4_write wsX4_isFull := goodIn_r _ [7, 2, 8, 9] (by decide +kernel) (by decide +kernel)
set_option maxRecDepth 20000 in
theorem gX4_write_X4_isFull : GoodIn wsX4_write (wsV RX4 19 RX4 yX4_isFull wsX4_isFull) := goodIn_app (goodIn_of _ (by decide +kernel)) ggX4_write_X4_isFull
theorem dX4_write_0 : decode cX4_write 0 = .ok (.aload_n 0, 1) := by decide +kernel
theorem dX4_write_1 : decode cX4_write 1 = .ok (.invokevirtual 19, 3) := by decide +kernel
theorem dX4_write_4 : decode cX4_write 4 = .ok (.ifCond .ne 24, 3) := by decide +kernel
theorem dX4_write_7 : decode cX4_write 7 = .ok (.aload_n 0, 1) := by decide +kernel
theorem dX4_write_8 : decode cX4_write 8 = .ok (.getfield 9, 3) := by decide +kernel
theorem dX4_write_11 : decode cX4_write 11 = .ok (.aload_n 0, 1) := by decide +kernel
theorem dX4_write_12 : decode cX4_write 12 = .ok (.getfield 15, 3) := by decide +kernel
theorem dX4_write_15 : decode cX4_write 15 = .ok (.iload_n 1, 1) := by decide +kernel
theorem dX4_write_16 : decode cX4_write 16 = .ok (.i2c, 1) := by decide +kernel
theorem dX4_write_17 : decode cX4_write 17 = .ok (.castore, 1) := by decide +kernel
theorem dX4_write_18 : decode cX4_write 18 = .ok (.aload_n 0, 1) := by decide +kernel
theorem dX4_write_19 : decode cX4_write 19 = .ok (.dup, 1) := by decide +kernel
theorem dX4_write_20 : decode cX4_write 20 = .ok (.getfield 15, 3) := by decide +kernel
theorem dX4_write_23 : decode cX4_write 23 = .ok (.iconst 1, 1) := by decide +kernel
theorem dX4_write_24 : decode cX4_write 24 = .ok (.iadd, 1) := by decide +kernel
theorem dX4_write_25 : decode cX4_write 25 = .ok (.putfield 15, 3) := by decide +kernel
theorem dX4_write_28 : decode cX4_write 28 = .ok (.return_, 1) := by decide +kernel
theorem dX4_wipe_0 : decode cX4_wipe 0 = .ok (.aload_n 0, 1) := by decide +kernel
theorem dX4_wipe_1 : decode cX4_wipe 1 = .ok (.iconst 0, 1) := by decide +kernel
theorem dX4_wipe_2 : decode cX4_wipe 2 = .ok (.putfield 15, 3) := by decide +kernel
theorem dX4_wipe_5 : decode cX4_wipe 5 = .ok (.return_, 1) := by decide +kernel
theorem dX4_codeAt_0 : decode cX4_codeAt 0 = .ok (.iload_n 1, 1) := by decide +kernel
theorem dX4_codeAt_1 : decode cX4_codeAt 1 = .ok (.ifCond .lt 20, 3) := by decide +kernel
theorem dX4_codeAt_4 : decode cX4_codeAt 4 = .ok (.iload_n 1, 1) := by decide +kernel
theorem dX4_codeAt_5 : decode cX4_codeAt 5 = .ok (.aload_n 0, 1) := by decide +kernel
theorem dX4_codeAt_6 : decode cX4_codeAt 6 = .ok (.getfield 15, 3) := by decide +kernel
theorem dX4_codeAt_9 : decode cX4_codeAt 9 = .ok (.if_icmp .ge 12, 3) := by decide +kernel
theorem dX4_codeAt_12 : decode cX4_codeAt 12 = .ok (.aload_n 0, 1) := by decide +kernel
theorem dX4_codeAt_13 : decode cX4_codeAt 13 = .ok (.getfield 9, 3) := by decide +kernel
theorem dX4_codeAt_16 : decode cX4_codeAt 16 = .ok (.iload_n 1, 1) := by decide +kernel
theorem dX4_codeAt_17 : decode cX4_codeAt 17 = .ok (.caload, 1) := by decide +kernel
theorem dX4_codeAt_18 : decode cX4_codeAt 18 = .ok (.goto 4, 3) := by decide +kernel
theorem dX4_codeAt_21 : decode cX4_codeAt 21 = .ok (.iconst (-1), 1) := by decide +kernel
theorem dX4_codeAt_22 : decode cX4_codeAt 22 = .ok (.ireturn, 1) := by decide +kernel
theorem dX4_firstFault_0 : decode cX4_firstFault 0 = .ok (.iconst 1, 1) := by decide +kernel
theorem dX4_firstFault_1 : decode cX4_firstFault 1 = .ok (.istore_n 1, 1) := by decide +kernel
theorem dX4_firstFault_2 : decode cX4_firstFault 2 = .ok (.iconst (-1), 1) := by decide +kernel
theorem dX4_firstFault_3 : decode cX4_firstFault 3 = .ok (.istore_n 2, 1) := by decide +kernel
theorem dX4_firstFault_4 : decode cX4_firstFault 4 = .ok (.iconst 0, 1) := by decide +kernel
theorem dX4_firstFault_5 : decode cX4_firstFault 5 = .ok (.istore_n 3, 1) := by decide +kernel
theorem dX4_firstFault_6 : decode cX4_firstFault 6 = .ok (.iload_n 3, 1) := by decide +kernel
theorem dX4_firstFault_7 : decode cX4_firstFault 7 = .ok (.aload_n 0, 1) := by decide +kernel
theorem dX4_firstFault_8 : decode cX4_firstFault 8 = .ok (.getfield 15, 3) := by decide +kernel
theorem dX4_firstFault_11 : decode cX4_firstFault 11 = .ok (.if_icmp .ge 70, 3) := by decide +kernel
theorem dX4_firstFault_14 : decode cX4_firstFault 14 = .ok (.aload_n 0, 1) := by decide +kernel
theorem dX4_firstFault_15 : decode cX4_firstFault 15 = .ok (.getfield 9, 3) := by decide +kernel
theorem dX4_firstFault_18 : decode cX4_firstFault 18 = .ok (.iload_n 3, 1) := by decide +kernel
theorem dX4_firstFault_19 : decode cX4_firstFault 19 = .ok (.caload, 1) := by decide +kernel
theorem dX4_firstFault_20 : decode cX4_firstFault 20 = .ok (.bipush 44, 2) := by decide +kernel
theorem dX4_firstFault_22 : decode cX4_firstFault 22 = .ok (.if_icmp .ne 24, 3) := by decide +kernel
theorem dX4_firstFault_25 : decode cX4_firstFault 25 = .ok (.iload_n 2, 1) := by decide +kernel
theorem dX4_firstFault_26 : decode cX4_firstFault 26 = .ok (.iconst (-1), 1) := by decide +kernel
theorem dX4_firstFault_27 : decode cX4_firstFault 27 = .ok (.if_icmp .eq 9, 3) := by decide +kernel
theorem dX4_firstFault_30 : decode cX4_firstFault 30 = .ok (.iload_n 1, 1) := by decide +kernel
theorem dX4_firstFault_31 : decode cX4_firstFault 31 = .ok (.bipush 8, 2) := by decide +kernel
theorem dX4_firstFault_33 : decode cX4_firstFault 33 = .ok (.if_icmp .ne 5, 3) := by decide +kernel
theorem dX4_firstFault_36 : decode cX4_firstFault 36 = .ok (.iload_n 3, 1) := by decide +kernel
theorem dX4_firstFault_37 : decode cX4_firstFault 37 = .ok (.ireturn, 1) := by decide +kernel
theorem dX4_firstFault_38 : decode cX4_firstFault 38 = .ok (.iinc 1 1, 3) := by decide +kernel
theorem dX4_firstFault_41 : decode cX4_firstFault 41 = .ok (.iconst (-1), 1) := by decide +kernel
theorem dX4_firstFault_42 : decode cX4_firstFault 42 = .ok (.istore_n 2, 1) := by decide +kernel
theorem dX4_firstFault_43 : decode cX4_firstFault 43 = .ok (.goto 32, 3) := by decide +kernel
theorem dX4_firstFault_46 : decode cX4_firstFault 46 = .ok (.aload_n 0, 1) := by decide +kernel
theorem dX4_firstFault_47 : decode cX4_firstFault 47 = .ok (.getfield 9, 3) := by decide +kernel
theorem dX4_firstFault_50 : decode cX4_firstFault 50 = .ok (.iload_n 3, 1) := by decide +kernel
theorem dX4_firstFault_51 : decode cX4_firstFault 51 = .ok (.caload, 1) := by decide +kernel
theorem dX4_firstFault_52 : decode cX4_firstFault 52 = .ok (.bipush 97, 2) := by decide +kernel
theorem dX4_firstFault_54 : decode cX4_firstFault 54 = .ok (.isub, 1) := by decide +kernel
theorem dX4_firstFault_55 : decode cX4_firstFault 55 = .ok (.istore 4, 2) := by decide +kernel
theorem dX4_firstFault_57 : decode cX4_firstFault 57 = .ok (.iload 4, 2) := by decide +kernel
theorem dX4_firstFault_59 : decode cX4_firstFault 59 = .ok (.iload_n 2, 1) := by decide +kernel
theorem dX4_firstFault_60 : decode cX4_firstFault 60 = .ok (.if_icmp .le 10, 3) := by decide +kernel
theorem dX4_firstFault_63 : decode cX4_firstFault 63 = .ok (.iload 4, 2) := by decide +kernel
theorem dX4_firstFault_65 : decode cX4_firstFault 65 = .ok (.bipush 8, 2) := by decide +kernel
theorem dX4_firstFault_67 : decode cX4_firstFault 67 = .ok (.if_icmp .lt 5, 3) := by decide +kernel
theorem dX4_firstFault_70 : decode cX4_firstFault 70 = .ok (.iload_n 3, 1) := by decide +kernel
theorem dX4_firstFault_71 : decode cX4_firstFault 71 = .ok (.ireturn, 1) := by decide +kernel
theorem dX4_firstFault_72 : decode cX4_firstFault 72 = .ok (.iload 4, 2) := by decide +kernel
theorem dX4_firstFault_74 : decode cX4_firstFault 74 = .ok (.istore_n 2, 1) := by decide +kernel
theorem dX4_firstFault_75 : decode cX4_firstFault 75 = .ok (.iinc 3 1, 3) := by decide +kernel
theorem dX4_firstFault_78 : decode cX4_firstFault 78 = .ok (.goto (-72), 3) := by decide +kernel
theorem dX4_firstFault_81 : decode cX4_firstFault 81 = .ok (.aload_n 0, 1) := by decide +kernel
theorem dX4_firstFault_82 : decode cX4_firstFault 82 = .ok (.getfield 15, 3) := by decide +kernel
theorem dX4_firstFault_85 : decode cX4_firstFault 85 = .ok (.ireturn, 1) := by decide +kernel
set_option maxRecDepth 20000 in
theorem ggX4_isWhole_X4_firstFault : GoodIn wsX4_isWhole wsX4_firstFault := goodIn_r _ [7, 1, 2, 8, 9] (by decide +kernel) (by decide +kernel)
set_option maxRecDepth 20000 in
theorem gX4_isWhole_X4_firstFault : GoodIn wsX4_isWhole (wsV RX4 23 RX4 yX4_firstFault wsX4_firstFault) := goodIn_app (goodIn_of _ (by decide +kernel)) ggX4_isWhole_X4_firstFault
theorem dX4_isWhole_0 : decode cX4_isWhole 0 = .ok (.aload_n 0, 1) := by decide +kernel
theorem dX4_isWhole_1 : decode cX4_isWhole 1 = .ok (.getfield 15, 3) := by decide +kernel
theorem dX4_isWhole_4 : decode cX4_isWhole 4 = .ok (.ifCond .le 34, 3) := by decide +kernel
theorem dX4_isWhole_7 : decode cX4_isWhole 7 = .ok (.aload_n 0, 1) := by decide +kernel
theorem dX4_isWhole_8 : decode cX4_isWhole 8 = .ok (.getfield 9, 3) := by decide +kernel
theorem dX4_isWhole_11 : decode cX4_isWhole 11 = .ok (.aload_n 0, 1) := by decide +kernel
theorem dX4_isWhole_12 : decode cX4_isWhole 12 = .ok (.getfield 15, 3) := by decide +kernel
theorem dX4_isWhole_15 : decode cX4_isWhole 15 = .ok (.iconst 1, 1) := by decide +kernel
theorem dX4_isWhole_16 : decode cX4_isWhole 16 = .ok (.isub, 1) := by decide +kernel
theorem dX4_isWhole_17 : decode cX4_isWhole 17 = .ok (.caload, 1) := by decide +kernel
theorem dX4_isWhole_18 : decode cX4_isWhole 18 = .ok (.bipush 44, 2) := by decide +kernel
theorem dX4_isWhole_20 : decode cX4_isWhole 20 = .ok (.if_icmp .eq 18, 3) := by decide +kernel
theorem dX4_isWhole_23 : decode cX4_isWhole 23 = .ok (.aload_n 0, 1) := by decide +kernel
theorem dX4_isWhole_24 : decode cX4_isWhole 24 = .ok (.invokevirtual 23, 3) := by decide +kernel
theorem dX4_isWhole_27 : decode cX4_isWhole 27 = .ok (.aload_n 0, 1) := by decide +kernel
theorem dX4_isWhole_28 : decode cX4_isWhole 28 = .ok (.getfield 15, 3) := by decide +kernel
theorem dX4_isWhole_31 : decode cX4_isWhole 31 = .ok (.if_icmp .ne 7, 3) := by decide +kernel
theorem dX4_isWhole_34 : decode cX4_isWhole 34 = .ok (.iconst 1, 1) := by decide +kernel
theorem dX4_isWhole_35 : decode cX4_isWhole 35 = .ok (.goto 4, 3) := by decide +kernel
theorem dX4_isWhole_38 : decode cX4_isWhole 38 = .ok (.iconst 0, 1) := by decide +kernel
theorem dX4_isWhole_39 : decode cX4_isWhole 39 = .ok (.ireturn, 1) := by decide +kernel
set_option maxRecDepth 20000 in
theorem ggX5_init_X1_init : GoodIn wsX5_init wsX1_init := goodIn_r _ [5, 6, 7, 8, 9, 10, 11, 12, 13, 14, 15, 16, 17, 18, 19, 20, 21, 22, 23, 24, 25] (by decide +kernel) (by decide +kernel)
set_option maxRecDepth 20000 in
theorem gX5_init_X1_init : GoodIn wsX5_init (wsX1_init) := ggX5_init_X1_init
theorem dX5_init_0 : decode cX5_init 0 = .ok (.aload_n 0, 1) := by decide +kernel
theorem dX5_init_1 : decode cX5_init 1 = .ok (.aload_n 1, 1) := by decide +kernel
theorem dX5_init_2 : decode cX5_init 2 = .ok (.aload_n 2, 1) := by decide +kernel
theorem dX5_init_3 : decode cX5_init 3 = .ok (.invokespecial 1, 3) := by decide +kernel
theorem dX5_init_6 : decode cX5_init 6 = .ok (.aload_n 0, 1) := by decide +kernel
theorem dX5_init_7 : decode cX5_init 7 = .ok (.aload_n 3, 1) := by decide +kernel
theorem dX5_init_8 : decode cX5_init 8 = .ok (.putfield 7, 3) := by decide +kernel
theorem dX5_init_11 : decode cX5_init 11 = .ok (.return_, 1) := by decide +kernel
set_option maxRecDepth 20000 in
theorem ggX5_staying_X2_leastSetAtLeastCost : GoodIn wsX5_staying wsX2_leastSetAtLeastCost := goodIn_r _ [6, 7, 8, 9, 10, 5, 11, 12, 13, 14, 15, 16, 17, 18, 19, 20, 21, 22, 23, 24, 31, 32, 33, 34] (by decide +kernel) (by decide +kernel)
set_option maxRecDepth 20000 in
theorem gX5_staying_X2_leastSetAtLeastCost : GoodIn wsX5_staying (wsV RX5 13 RX2 yX2_leastSetAtLeastCost wsX2_leastSetAtLeastCost) := goodIn_app (goodIn_of _ (by decide +kernel)) ggX5_staying_X2_leastSetAtLeastCost
theorem dX5_staying_0 : decode cX5_staying 0 = .ok (.aload_n 0, 1) := by decide +kernel
theorem dX5_staying_1 : decode cX5_staying 1 = .ok (.getfield 7, 3) := by decide +kernel
theorem dX5_staying_4 : decode cX5_staying 4 = .ok (.iload_n 1, 1) := by decide +kernel
theorem dX5_staying_5 : decode cX5_staying 5 = .ok (.iload_n 2, 1) := by decide +kernel
theorem dX5_staying_6 : decode cX5_staying 6 = .ok (.invokevirtual 13, 3) := by decide +kernel
theorem dX5_staying_9 : decode cX5_staying 9 = .ok (.ireturn, 1) := by decide +kernel
theorem dX6_init_0 : decode cX6_init 0 = .ok (.aload_n 0, 1) := by decide +kernel
theorem dX6_init_1 : decode cX6_init 1 = .ok (.invokespecial 3, 3) := by decide +kernel
theorem dX6_init_4 : decode cX6_init 4 = .ok (.aload_n 0, 1) := by decide +kernel
theorem dX6_init_5 : decode cX6_init 5 = .ok (.bipush 8, 2) := by decide +kernel
theorem dX6_init_7 : decode cX6_init 7 = .ok (.newarray .int, 2) := by decide +kernel
theorem dX6_init_9 : decode cX6_init 9 = .ok (.putfield 9, 3) := by decide +kernel
theorem dX6_init_12 : decode cX6_init 12 = .ok (.aload_n 0, 1) := by decide +kernel
theorem dX6_init_13 : decode cX6_init 13 = .ok (.bipush 8, 2) := by decide +kernel
theorem dX6_init_15 : decode cX6_init 15 = .ok (.newarray .int, 2) := by decide +kernel
theorem dX6_init_17 : decode cX6_init 17 = .ok (.putfield 15, 3) := by decide +kernel
theorem dX6_init_20 : decode cX6_init 20 = .ok (.aload_n 0, 1) := by decide +kernel
theorem dX6_init_21 : decode cX6_init 21 = .ok (.bipush 8, 2) := by decide +kernel
theorem dX6_init_23 : decode cX6_init 23 = .ok (.newarray .int, 2) := by decide +kernel
theorem dX6_init_25 : decode cX6_init 25 = .ok (.putfield 18, 3) := by decide +kernel
theorem dX6_init_28 : decode cX6_init 28 = .ok (.return_, 1) := by decide +kernel
theorem dX6_size_0 : decode cX6_size 0 = .ok (.aload_n 0, 1) := by decide +kernel
theorem dX6_size_1 : decode cX6_size 1 = .ok (.getfield 21, 3) := by decide +kernel
theorem dX6_size_4 : decode cX6_size 4 = .ok (.ireturn, 1) := by decide +kernel
theorem dX6_changes_0 : decode cX6_changes 0 = .ok (.aload_n 0, 1) := by decide +kernel
theorem dX6_changes_1 : decode cX6_changes 1 = .ok (.getfield 25, 3) := by decide +kernel
theorem dX6_changes_4 : decode cX6_changes 4 = .ok (.ireturn, 1) := by decide +kernel
theorem dX6_reads_0 : decode cX6_reads 0 = .ok (.aload_n 0, 1) := by decide +kernel
theorem dX6_reads_1 : decode cX6_reads 1 = .ok (.getfield 28, 3) := by decide +kernel
theorem dX6_reads_4 : decode cX6_reads 4 = .ok (.ireturn, 1) := by decide +kernel
theorem dX6_isPlace_0 : decode cX6_isPlace 0 = .ok (.iload_n 1, 1) := by decide +kernel
theorem dX6_isPlace_1 : decode cX6_isPlace 1 = .ok (.ifCond .lt 15, 3) := by decide +kernel
theorem dX6_isPlace_4 : decode cX6_isPlace 4 = .ok (.iload_n 1, 1) := by decide +kernel
theorem dX6_isPlace_5 : decode cX6_isPlace 5 = .ok (.aload_n 0, 1) := by decide +kernel
theorem dX6_isPlace_6 : decode cX6_isPlace 6 = .ok (.getfield 21, 3) := by decide +kernel
theorem dX6_isPlace_9 : decode cX6_isPlace 9 = .ok (.if_icmp .ge 7, 3) := by decide +kernel
theorem dX6_isPlace_12 : decode cX6_isPlace 12 = .ok (.iconst 1, 1) := by decide +kernel
theorem dX6_isPlace_13 : decode cX6_isPlace 13 = .ok (.goto 4, 3) := by decide +kernel
theorem dX6_isPlace_16 : decode cX6_isPlace 16 = .ok (.iconst 0, 1) := by decide +kernel
theorem dX6_isPlace_17 : decode cX6_isPlace 17 = .ok (.ireturn, 1) := by decide +kernel
theorem dX6_needs_0 : decode cX6_needs 0 = .ok (.aload_n 0, 1) := by decide +kernel
theorem dX6_needs_1 : decode cX6_needs 1 = .ok (.getfield 9, 3) := by decide +kernel
theorem dX6_needs_4 : decode cX6_needs 4 = .ok (.aload_n 0, 1) := by decide +kernel
theorem dX6_needs_5 : decode cX6_needs 5 = .ok (.getfield 15, 3) := by decide +kernel
theorem dX6_needs_8 : decode cX6_needs 8 = .ok (.iload_n 1, 1) := by decide +kernel
theorem dX6_needs_9 : decode cX6_needs 9 = .ok (.iaload, 1) := by decide +kernel
theorem dX6_needs_10 : decode cX6_needs 10 = .ok (.iaload, 1) := by decide +kernel
theorem dX6_needs_11 : decode cX6_needs 11 = .ok (.ireturn, 1) := by decide +kernel
theorem dX6_number_0 : decode cX6_number 0 = .ok (.aload_n 0, 1) := by decide +kernel
theorem dX6_number_1 : decode cX6_number 1 = .ok (.getfield 15, 3) := by decide +kernel
theorem dX6_number_4 : decode cX6_number 4 = .ok (.iload_n 1, 1) := by decide +kernel
theorem dX6_number_5 : decode cX6_number 5 = .ok (.iaload, 1) := by decide +kernel
theorem dX6_number_6 : decode cX6_number 6 = .ok (.ireturn, 1) := by decide +kernel
theorem dX6_broken_0 : decode cX6_broken 0 = .ok (.aload_n 0, 1) := by decide +kernel
theorem dX6_broken_1 : decode cX6_broken 1 = .ok (.getfield 18, 3) := by decide +kernel
theorem dX6_broken_4 : decode cX6_broken 4 = .ok (.iload_n 1, 1) := by decide +kernel
theorem dX6_broken_5 : decode cX6_broken 5 = .ok (.iaload, 1) := by decide +kernel
theorem dX6_broken_6 : decode cX6_broken 6 = .ok (.ireturn, 1) := by decide +kernel
set_option maxRecDepth 20000 in
theorem ggX6_read_X4_isWhole : GoodIn wsX6_read wsX4_isWhole := goodIn_r _ [8, 9, 10, 11, 12, 13, 7, 14, 37, 38] (by decide +kernel) (by decide +kernel)
set_option maxRecDepth 20000 in
theorem gX6_read_X4_isWhole : GoodIn wsX6_read (wsV RX6 31 RX4 yX4_isWhole wsX4_isWhole) := goodIn_app (goodIn_of _ (by decide +kernel)) ggX6_read_X4_isWhole
set_option maxRecDepth 20000 in
theorem ggX6_read_X6_clear : GoodIn wsX6_read wsX6_clear := goodIn_r _ [19, 1, 20, 21, 22, 31, 32, 33, 34, 35, 36] (by decide +kernel) (by decide +kernel)
set_option maxRecDepth 20000 in
theorem gX6_read_X6_clear : GoodIn wsX6_read (wsV RX6 37 RX6 yX6_clear wsX6_clear) := goodIn_app (goodIn_of _ (by decide +kernel)) ggX6_read_X6_clear
set_option maxRecDepth 20000 in
theorem ggX6_read_X4_length : GoodIn wsX6_read wsX4_length := goodIn_r _ [26, 9, 37, 38] (by decide +kernel) (by decide +kernel)
set_option maxRecDepth 20000 in
theorem gX6_read_X4_length : GoodIn wsX6_read (wsV RX6 40 RX4 yX4_length wsX4_length) := goodIn_app (goodIn_of _ (by decide +kernel)) ggX6_read_X4_length
set_option maxRecDepth 20000 in
theorem ggX6_read_X4_codeAt : GoodIn wsX6_read wsX4_codeAt := goodIn_r _ [30, 9, 10, 37, 38] (by decide +kernel) (by decide +kernel)
set_option maxRecDepth 20000 in
theorem gX6_read_X4_codeAt : GoodIn wsX6_read (wsV RX6 44 RX4 yX4_codeAt wsX4_codeAt) := goodIn_app (goodIn_of _ (by decide +kernel)) ggX6_read_X4_codeAt
theorem dX6_read_0 : decode cX6_read 0 = .ok (.aload_n 1, 1) := by decide +kernel
theorem dX6_read_1 : decode cX6_read 1 = .ok (.invokevirtual 31, 3) := by decide +kernel
theorem dX6_read_4 : decode cX6_read 4 = .ok (.ifCond .ne 5, 3) := by decide +kernel
theorem dX6_read_7 : decode cX6_read 7 = .ok (.iconst 0, 1) := by decide +kernel
theorem dX6_read_8 : decode cX6_read 8 = .ok (.ireturn, 1) := by decide +kernel
theorem dX6_read_9 : decode cX6_read 9 = .ok (.aload_n 0, 1) := by decide +kernel
theorem dX6_read_10 : decode cX6_read 10 = .ok (.invokevirtual 37, 3) := by decide +kernel
theorem dX6_read_13 : decode cX6_read 13 = .ok (.iconst 0, 1) := by decide +kernel
theorem dX6_read_14 : decode cX6_read 14 = .ok (.istore_n 2, 1) := by decide +kernel
theorem dX6_read_15 : decode cX6_read 15 = .ok (.iconst 0, 1) := by decide +kernel
theorem dX6_read_16 : decode cX6_read 16 = .ok (.istore_n 3, 1) := by decide +kernel
theorem dX6_read_17 : decode cX6_read 17 = .ok (.iload_n 3, 1) := by decide +kernel
theorem dX6_read_18 : decode cX6_read 18 = .ok (.aload_n 1, 1) := by decide +kernel
theorem dX6_read_19 : decode cX6_read 19 = .ok (.invokevirtual 40, 3) := by decide +kernel
theorem dX6_read_22 : decode cX6_read 22 = .ok (.if_icmp .ge 50, 3) := by decide +kernel
theorem dX6_read_25 : decode cX6_read 25 = .ok (.iload_n 2, 1) := by decide +kernel
theorem dX6_read_26 : decode cX6_read 26 = .ok (.bipush 8, 2) := by decide +kernel
theorem dX6_read_28 : decode cX6_read 28 = .ok (.if_icmp .ge 44, 3) := by decide +kernel
theorem dX6_read_31 : decode cX6_read 31 = .ok (.aload_n 1, 1) := by decide +kernel
theorem dX6_read_32 : decode cX6_read 32 = .ok (.iload_n 3, 1) := by decide +kernel
theorem dX6_read_33 : decode cX6_read 33 = .ok (.invokevirtual 44, 3) := by decide +kernel
theorem dX6_read_36 : decode cX6_read 36 = .ok (.bipush 44, 2) := by decide +kernel
theorem dX6_read_38 : decode cX6_read 38 = .ok (.if_icmp .ne 9, 3) := by decide +kernel
theorem dX6_read_41 : decode cX6_read 41 = .ok (.iinc 2 1, 3) := by decide +kernel
theorem dX6_read_44 : decode cX6_read 44 = .ok (.goto 22, 3) := by decide +kernel
theorem dX6_read_47 : decode cX6_read 47 = .ok (.aload_n 0, 1) := by decide +kernel
theorem dX6_read_48 : decode cX6_read 48 = .ok (.getfield 9, 3) := by decide +kernel
theorem dX6_read_51 : decode cX6_read 51 = .ok (.iload_n 2, 1) := by decide +kernel
theorem dX6_read_52 : decode cX6_read 52 = .ok (.dup2, 1) := by decide +kernel
theorem dX6_read_53 : decode cX6_read 53 = .ok (.iaload, 1) := by decide +kernel
theorem dX6_read_54 : decode cX6_read 54 = .ok (.iconst 1, 1) := by decide +kernel
theorem dX6_read_55 : decode cX6_read 55 = .ok (.aload_n 1, 1) := by decide +kernel
theorem dX6_read_56 : decode cX6_read 56 = .ok (.iload_n 3, 1) := by decide +kernel
theorem dX6_read_57 : decode cX6_read 57 = .ok (.invokevirtual 44, 3) := by decide +kernel
theorem dX6_read_60 : decode cX6_read 60 = .ok (.bipush 97, 2) := by decide +kernel
theorem dX6_read_62 : decode cX6_read 62 = .ok (.isub, 1) := by decide +kernel
theorem dX6_read_63 : decode cX6_read 63 = .ok (.ishl, 1) := by decide +kernel
theorem dX6_read_64 : decode cX6_read 64 = .ok (.ior, 1) := by decide +kernel
theorem dX6_read_65 : decode cX6_read 65 = .ok (.iastore, 1) := by decide +kernel
theorem dX6_read_66 : decode cX6_read 66 = .ok (.iinc 3 1, 3) := by decide +kernel
theorem dX6_read_69 : decode cX6_read 69 = .ok (.goto (-52), 3) := by decide +kernel
theorem dX6_read_72 : decode cX6_read 72 = .ok (.aload_n 0, 1) := by decide +kernel
theorem dX6_read_73 : decode cX6_read 73 = .ok (.iload_n 2, 1) := by decide +kernel
theorem dX6_read_74 : decode cX6_read 74 = .ok (.iconst 1, 1) := by decide +kernel
theorem dX6_read_75 : decode cX6_read 75 = .ok (.iadd, 1) := by decide +kernel
theorem dX6_read_76 : decode cX6_read 76 = .ok (.putfield 21, 3) := by decide +kernel
theorem dX6_read_79 : decode cX6_read 79 = .ok (.aload_n 0, 1) := by decide +kernel
theorem dX6_read_80 : decode cX6_read 80 = .ok (.dup, 1) := by decide +kernel
theorem dX6_read_81 : decode cX6_read 81 = .ok (.getfield 28, 3) := by decide +kernel
theorem dX6_read_84 : decode cX6_read 84 = .ok (.iconst 1, 1) := by decide +kernel
theorem dX6_read_85 : decode cX6_read 85 = .ok (.iadd, 1) := by decide +kernel
theorem dX6_read_86 : decode cX6_read 86 = .ok (.putfield 28, 3) := by decide +kernel
theorem dX6_read_89 : decode cX6_read 89 = .ok (.iconst 1, 1) := by decide +kernel
theorem dX6_read_90 : decode cX6_read 90 = .ok (.ireturn, 1) := by decide +kernel
theorem dX6_clear_0 : decode cX6_clear 0 = .ok (.iconst 0, 1) := by decide +kernel
theorem dX6_clear_1 : decode cX6_clear 1 = .ok (.istore_n 1, 1) := by decide +kernel
theorem dX6_clear_2 : decode cX6_clear 2 = .ok (.iload_n 1, 1) := by decide +kernel
theorem dX6_clear_3 : decode cX6_clear 3 = .ok (.bipush 8, 2) := by decide +kernel
theorem dX6_clear_5 : decode cX6_clear 5 = .ok (.if_icmp .ge 30, 3) := by decide +kernel
theorem dX6_clear_8 : decode cX6_clear 8 = .ok (.aload_n 0, 1) := by decide +kernel
theorem dX6_clear_9 : decode cX6_clear 9 = .ok (.getfield 9, 3) := by decide +kernel
theorem dX6_clear_12 : decode cX6_clear 12 = .ok (.iload_n 1, 1) := by decide +kernel
theorem dX6_clear_13 : decode cX6_clear 13 = .ok (.iconst 0, 1) := by decide +kernel
theorem dX6_clear_14 : decode cX6_clear 14 = .ok (.iastore, 1) := by decide +kernel
theorem dX6_clear_15 : decode cX6_clear 15 = .ok (.aload_n 0, 1) := by decide +kernel
theorem dX6_clear_16 : decode cX6_clear 16 = .ok (.getfield 15, 3) := by decide +kernel
theorem dX6_clear_19 : decode cX6_clear 19 = .ok (.iload_n 1, 1) := by decide +kernel
theorem dX6_clear_20 : decode cX6_clear 20 = .ok (.iload_n 1, 1) := by decide +kernel
theorem dX6_clear_21 : decode cX6_clear 21 = .ok (.iastore, 1) := by decide +kernel
theorem dX6_clear_22 : decode cX6_clear 22 = .ok (.aload_n 0, 1) := by decide +kernel
theorem dX6_clear_23 : decode cX6_clear 23 = .ok (.getfield 18, 3) := by decide +kernel
theorem dX6_clear_26 : decode cX6_clear 26 = .ok (.iload_n 1, 1) := by decide +kernel
theorem dX6_clear_27 : decode cX6_clear 27 = .ok (.iconst 0, 1) := by decide +kernel
theorem dX6_clear_28 : decode cX6_clear 28 = .ok (.iastore, 1) := by decide +kernel
theorem dX6_clear_29 : decode cX6_clear 29 = .ok (.iinc 1 1, 3) := by decide +kernel
theorem dX6_clear_32 : decode cX6_clear 32 = .ok (.goto (-30), 3) := by decide +kernel
theorem dX6_clear_35 : decode cX6_clear 35 = .ok (.aload_n 0, 1) := by decide +kernel
theorem dX6_clear_36 : decode cX6_clear 36 = .ok (.iconst 0, 1) := by decide +kernel
theorem dX6_clear_37 : decode cX6_clear 37 = .ok (.putfield 25, 3) := by decide +kernel
theorem dX6_clear_40 : decode cX6_clear 40 = .ok (.return_, 1) := by decide +kernel
set_option maxRecDepth 20000 in
theorem ggX6_setBreak_X8_withTool : GoodIn wsX6_setBreak wsX8_withTool := goodIn_r _ [4] (by decide +kernel) (by decide +kernel)
set_option maxRecDepth 20000 in
theorem gX6_setBreak_X8_withTool_n48 : GoodIn wsX6_setBreak (wsX8_withTool) := ggX6_setBreak_X8_withTool
theorem dX6_setBreak_0 : decode cX6_setBreak 0 = .ok (.aload_n 0, 1) := by decide +kernel
theorem dX6_setBreak_1 : decode cX6_setBreak 1 = .ok (.getfield 18, 3) := by decide +kernel
theorem dX6_setBreak_4 : decode cX6_setBreak 4 = .ok (.iload_n 1, 1) := by decide +kernel
theorem dX6_setBreak_5 : decode cX6_setBreak 5 = .ok (.aload_n 0, 1) := by decide +kernel
theorem dX6_setBreak_6 : decode cX6_setBreak 6 = .ok (.getfield 18, 3) := by decide +kernel
theorem dX6_setBreak_9 : decode cX6_setBreak 9 = .ok (.iload_n 1, 1) := by decide +kernel
theorem dX6_setBreak_10 : decode cX6_setBreak 10 = .ok (.iaload, 1) := by decide +kernel
theorem dX6_setBreak_11 : decode cX6_setBreak 11 = .ok (.iload_n 2, 1) := by decide +kernel
theorem dX6_setBreak_12 : decode cX6_setBreak 12 = .ok (.iload_n 3, 1) := by decide +kernel
theorem dX6_setBreak_13 : decode cX6_setBreak 13 = .ok (.invokestatic 48, 3) := by decide +kernel
theorem dX6_setBreak_16 : decode cX6_setBreak 16 = .ok (.iastore, 1) := by decide +kernel
theorem dX6_setBreak_17 : decode cX6_setBreak 17 = .ok (.return_, 1) := by decide +kernel
theorem dX6_exchange_0 : decode cX6_exchange 0 = .ok (.aload_n 0, 1) := by decide +kernel
theorem dX6_exchange_1 : decode cX6_exchange 1 = .ok (.getfield 15, 3) := by decide +kernel
theorem dX6_exchange_4 : decode cX6_exchange 4 = .ok (.iload_n 1, 1) := by decide +kernel
theorem dX6_exchange_5 : decode cX6_exchange 5 = .ok (.iaload, 1) := by decide +kernel
theorem dX6_exchange_6 : decode cX6_exchange 6 = .ok (.istore_n 3, 1) := by decide +kernel
theorem dX6_exchange_7 : decode cX6_exchange 7 = .ok (.aload_n 0, 1) := by decide +kernel
theorem dX6_exchange_8 : decode cX6_exchange 8 = .ok (.getfield 15, 3) := by decide +kernel
theorem dX6_exchange_11 : decode cX6_exchange 11 = .ok (.iload_n 1, 1) := by decide +kernel
theorem dX6_exchange_12 : decode cX6_exchange 12 = .ok (.aload_n 0, 1) := by decide +kernel
theorem dX6_exchange_13 : decode cX6_exchange 13 = .ok (.getfield 15, 3) := by decide +kernel
theorem dX6_exchange_16 : decode cX6_exchange 16 = .ok (.iload_n 2, 1) := by decide +kernel
theorem dX6_exchange_17 : decode cX6_exchange 17 = .ok (.iaload, 1) := by decide +kernel
theorem dX6_exchange_18 : decode cX6_exchange 18 = .ok (.iastore, 1) := by decide +kernel
theorem dX6_exchange_19 : decode cX6_exchange 19 = .ok (.aload_n 0, 1) := by decide +kernel
theorem dX6_exchange_20 : decode cX6_exchange 20 = .ok (.getfield 15, 3) := by decide +kernel
theorem dX6_exchange_23 : decode cX6_exchange 23 = .ok (.iload_n 2, 1) := by decide +kernel
theorem dX6_exchange_24 : decode cX6_exchange 24 = .ok (.iload_n 3, 1) := by decide +kernel
theorem dX6_exchange_25 : decode cX6_exchange 25 = .ok (.iastore, 1) := by decide +kernel
theorem dX6_exchange_26 : decode cX6_exchange 26 = .ok (.return_, 1) := by decide +kernel
theorem dX6_countChange_0 : decode cX6_countChange 0 = .ok (.aload_n 0, 1) := by decide +kernel
theorem dX6_countChange_1 : decode cX6_countChange 1 = .ok (.dup, 1) := by decide +kernel
theorem dX6_countChange_2 : decode cX6_countChange 2 = .ok (.getfield 25, 3) := by decide +kernel
theorem dX6_countChange_5 : decode cX6_countChange 5 = .ok (.iconst 1, 1) := by decide +kernel
theorem dX6_countChange_6 : decode cX6_countChange 6 = .ok (.iadd, 1) := by decide +kernel
theorem dX6_countChange_7 : decode cX6_countChange 7 = .ok (.putfield 25, 3) := by decide +kernel
theorem dX6_countChange_10 : decode cX6_countChange 10 = .ok (.return_, 1) := by decide +kernel
set_option maxRecDepth 20000 in
theorem ggX6_nextPlace_X8_hasTool : GoodIn wsX6_nextPlace wsX8_hasTool := goodIn_r _ [5] (by decide +kernel) (by decide +kernel)
set_option maxRecDepth 20000 in
theorem gX6_nextPlace_X8_hasTool_n52 : GoodIn wsX6_nextPlace (wsX8_hasTool) := ggX6_nextPlace_X8_hasTool
set_option maxRecDepth 20000 in
theorem ggX6_nextPlace_X6_needs : GoodIn wsX6_nextPlace wsX6_needs := goodIn_r _ [10, 11, 12, 13, 14, 15, 16, 17, 18] (by decide +kernel) (by decide +kernel)
set_option maxRecDepth 20000 in
theorem gX6_nextPlace_X6_needs : GoodIn wsX6_nextPlace (wsV RX6 56 RX6 yX6_needs wsX6_needs) := goodIn_app (goodIn_of _ (by decide +kernel)) ggX6_nextPlace_X6_needs
theorem dX6_nextPlace_0 : decode cX6_nextPlace 0 = .ok (.iload_n 1, 1) := by decide +kernel
theorem dX6_nextPlace_1 : decode cX6_nextPlace 1 = .ok (.iconst 1, 1) := by decide +kernel
theorem dX6_nextPlace_2 : decode cX6_nextPlace 2 = .ok (.iadd, 1) := by decide +kernel
theorem dX6_nextPlace_3 : decode cX6_nextPlace 3 = .ok (.istore_n 3, 1) := by decide +kernel
theorem dX6_nextPlace_4 : decode cX6_nextPlace 4 = .ok (.iload_n 3, 1) := by decide +kernel
theorem dX6_nextPlace_5 : decode cX6_nextPlace 5 = .ok (.aload_n 0, 1) := by decide +kernel
theorem dX6_nextPlace_6 : decode cX6_nextPlace 6 = .ok (.getfield 21, 3) := by decide +kernel
theorem dX6_nextPlace_9 : decode cX6_nextPlace 9 = .ok (.if_icmp .ge 40, 3) := by decide +kernel
theorem dX6_nextPlace_12 : decode cX6_nextPlace 12 = .ok (.aload_n 0, 1) := by decide +kernel
theorem dX6_nextPlace_13 : decode cX6_nextPlace 13 = .ok (.getfield 18, 3) := by decide +kernel
theorem dX6_nextPlace_16 : decode cX6_nextPlace 16 = .ok (.iload_n 3, 1) := by decide +kernel
theorem dX6_nextPlace_17 : decode cX6_nextPlace 17 = .ok (.iconst 1, 1) := by decide +kernel
theorem dX6_nextPlace_18 : decode cX6_nextPlace 18 = .ok (.isub, 1) := by decide +kernel
theorem dX6_nextPlace_19 : decode cX6_nextPlace 19 = .ok (.iaload, 1) := by decide +kernel
theorem dX6_nextPlace_20 : decode cX6_nextPlace 20 = .ok (.iload_n 2, 1) := by decide +kernel
theorem dX6_nextPlace_21 : decode cX6_nextPlace 21 = .ok (.invokestatic 52, 3) := by decide +kernel
theorem dX6_nextPlace_24 : decode cX6_nextPlace 24 = .ok (.ifCond .eq 5, 3) := by decide +kernel
theorem dX6_nextPlace_27 : decode cX6_nextPlace 27 = .ok (.iconst (-1), 1) := by decide +kernel
theorem dX6_nextPlace_28 : decode cX6_nextPlace 28 = .ok (.ireturn, 1) := by decide +kernel
theorem dX6_nextPlace_29 : decode cX6_nextPlace 29 = .ok (.aload_n 0, 1) := by decide +kernel
theorem dX6_nextPlace_30 : decode cX6_nextPlace 30 = .ok (.iload_n 3, 1) := by decide +kernel
theorem dX6_nextPlace_31 : decode cX6_nextPlace 31 = .ok (.invokevirtual 56, 3) := by decide +kernel
theorem dX6_nextPlace_34 : decode cX6_nextPlace 34 = .ok (.iload_n 2, 1) := by decide +kernel
theorem dX6_nextPlace_35 : decode cX6_nextPlace 35 = .ok (.invokestatic 52, 3) := by decide +kernel
theorem dX6_nextPlace_38 : decode cX6_nextPlace 38 = .ok (.ifCond .eq 5, 3) := by decide +kernel
theorem dX6_nextPlace_41 : decode cX6_nextPlace 41 = .ok (.iload_n 3, 1) := by decide +kernel
theorem dX6_nextPlace_42 : decode cX6_nextPlace 42 = .ok (.ireturn, 1) := by decide +kernel
theorem dX6_nextPlace_43 : decode cX6_nextPlace 43 = .ok (.iinc 3 1, 3) := by decide +kernel
theorem dX6_nextPlace_46 : decode cX6_nextPlace 46 = .ok (.goto (-42), 3) := by decide +kernel
theorem dX6_nextPlace_49 : decode cX6_nextPlace 49 = .ok (.iconst (-1), 1) := by decide +kernel
theorem dX6_nextPlace_50 : decode cX6_nextPlace 50 = .ok (.ireturn, 1) := by decide +kernel
set_option maxRecDepth 20000 in
theorem ggX6_allNeeds_X6_needs : GoodIn wsX6_allNeeds wsX6_needs := goodIn_r _ [6, 7, 8, 9, 10, 11, 12, 13, 14] (by decide +kernel) (by decide +kernel)
set_option maxRecDepth 20000 in
theorem gX6_allNeeds_X6_needs : GoodIn wsX6_allNeeds (wsV RX6 56 RX6 yX6_needs wsX6_needs) := goodIn_app (goodIn_of _ (by decide +kernel)) ggX6_allNeeds_X6_needs
theorem dX6_allNeeds_0 : decode cX6_allNeeds 0 = .ok (.iconst 0, 1) := by decide +kernel
theorem dX6_allNeeds_1 : decode cX6_allNeeds 1 = .ok (.istore_n 1, 1) := by decide +kernel
theorem dX6_allNeeds_2 : decode cX6_allNeeds 2 = .ok (.iconst 0, 1) := by decide +kernel
theorem dX6_allNeeds_3 : decode cX6_allNeeds 3 = .ok (.istore_n 2, 1) := by decide +kernel
theorem dX6_allNeeds_4 : decode cX6_allNeeds 4 = .ok (.iload_n 2, 1) := by decide +kernel
theorem dX6_allNeeds_5 : decode cX6_allNeeds 5 = .ok (.aload_n 0, 1) := by decide +kernel
theorem dX6_allNeeds_6 : decode cX6_allNeeds 6 = .ok (.getfield 21, 3) := by decide +kernel
theorem dX6_allNeeds_9 : decode cX6_allNeeds 9 = .ok (.if_icmp .ge 17, 3) := by decide +kernel
theorem dX6_allNeeds_12 : decode cX6_allNeeds 12 = .ok (.iload_n 1, 1) := by decide +kernel
theorem dX6_allNeeds_13 : decode cX6_allNeeds 13 = .ok (.aload_n 0, 1) := by decide +kernel
theorem dX6_allNeeds_14 : decode cX6_allNeeds 14 = .ok (.iload_n 2, 1) := by decide +kernel
theorem dX6_allNeeds_15 : decode cX6_allNeeds 15 = .ok (.invokevirtual 56, 3) := by decide +kernel
theorem dX6_allNeeds_18 : decode cX6_allNeeds 18 = .ok (.ior, 1) := by decide +kernel
theorem dX6_allNeeds_19 : decode cX6_allNeeds 19 = .ok (.istore_n 1, 1) := by decide +kernel
theorem dX6_allNeeds_20 : decode cX6_allNeeds 20 = .ok (.iinc 2 1, 3) := by decide +kernel
theorem dX6_allNeeds_23 : decode cX6_allNeeds 23 = .ok (.goto (-19), 3) := by decide +kernel
theorem dX6_allNeeds_26 : decode cX6_allNeeds 26 = .ok (.iload_n 1, 1) := by decide +kernel
theorem dX6_allNeeds_27 : decode cX6_allNeeds 27 = .ok (.ireturn, 1) := by decide +kernel
set_option maxRecDepth 20000 in
theorem ggX6_allBreaks_J6_bitCount_0f7a4 : GoodIn wsX6_allBreaks wsJ6_bitCount_0f7a4 := goodIn_r _ [6, 7, 8, 9] (by decide +kernel) (by decide +kernel)
set_option maxRecDepth 20000 in
theorem gX6_allBreaks_J6_bitCount_0f7a4 : GoodIn wsX6_allBreaks (va_wsS RX6 59 yJ6_bitCount_0f7a4 wsJ6_bitCount_0f7a4) := goodIn_app (goodIn_of _ (by decide +kernel)) ggX6_allBreaks_J6_bitCount_0f7a4
theorem dX6_allBreaks_0 : decode cX6_allBreaks 0 = .ok (.iconst 0, 1) := by decide +kernel
theorem dX6_allBreaks_1 : decode cX6_allBreaks 1 = .ok (.istore_n 1, 1) := by decide +kernel
theorem dX6_allBreaks_2 : decode cX6_allBreaks 2 = .ok (.iconst 0, 1) := by decide +kernel
theorem dX6_allBreaks_3 : decode cX6_allBreaks 3 = .ok (.istore_n 2, 1) := by decide +kernel
theorem dX6_allBreaks_4 : decode cX6_allBreaks 4 = .ok (.iload_n 2, 1) := by decide +kernel
theorem dX6_allBreaks_5 : decode cX6_allBreaks 5 = .ok (.aload_n 0, 1) := by decide +kernel
theorem dX6_allBreaks_6 : decode cX6_allBreaks 6 = .ok (.getfield 21, 3) := by decide +kernel
theorem dX6_allBreaks_9 : decode cX6_allBreaks 9 = .ok (.if_icmp .ge 21, 3) := by decide +kernel
theorem dX6_allBreaks_12 : decode cX6_allBreaks 12 = .ok (.iload_n 1, 1) := by decide +kernel
theorem dX6_allBreaks_13 : decode cX6_allBreaks 13 = .ok (.aload_n 0, 1) := by decide +kernel
theorem dX6_allBreaks_14 : decode cX6_allBreaks 14 = .ok (.getfield 18, 3) := by decide +kernel
theorem dX6_allBreaks_17 : decode cX6_allBreaks 17 = .ok (.iload_n 2, 1) := by decide +kernel
theorem dX6_allBreaks_18 : decode cX6_allBreaks 18 = .ok (.iaload, 1) := by decide +kernel
theorem dX6_allBreaks_19 : decode cX6_allBreaks 19 = .ok (.invokestatic 59, 3) := by decide +kernel
theorem dX6_allBreaks_22 : decode cX6_allBreaks 22 = .ok (.iadd, 1) := by decide +kernel
theorem dX6_allBreaks_23 : decode cX6_allBreaks 23 = .ok (.istore_n 1, 1) := by decide +kernel
theorem dX6_allBreaks_24 : decode cX6_allBreaks 24 = .ok (.iinc 2 1, 3) := by decide +kernel
theorem dX6_allBreaks_27 : decode cX6_allBreaks 27 = .ok (.goto (-23), 3) := by decide +kernel
theorem dX6_allBreaks_30 : decode cX6_allBreaks 30 = .ok (.iload_n 1, 1) := by decide +kernel
theorem dX6_allBreaks_31 : decode cX6_allBreaks 31 = .ok (.ireturn, 1) := by decide +kernel
set_option maxRecDepth 20000 in
theorem ggX7_init_X1_init : GoodIn wsX7_init wsX1_init := goodIn_r _ [4, 5, 6, 7, 8, 9, 10, 11, 12, 13, 14, 15, 16, 17, 18, 19, 20, 21, 22, 23, 24] (by decide +kernel) (by decide +kernel)
set_option maxRecDepth 20000 in
theorem gX7_init_X1_init : GoodIn wsX7_init (wsX1_init) := ggX7_init_X1_init
theorem dX7_init_0 : decode cX7_init 0 = .ok (.aload_n 0, 1) := by decide +kernel
theorem dX7_init_1 : decode cX7_init 1 = .ok (.aload_n 1, 1) := by decide +kernel
theorem dX7_init_2 : decode cX7_init 2 = .ok (.aload_n 2, 1) := by decide +kernel
theorem dX7_init_3 : decode cX7_init 3 = .ok (.invokespecial 3, 3) := by decide +kernel
theorem dX7_init_6 : decode cX7_init 6 = .ok (.return_, 1) := by decide +kernel
set_option maxRecDepth 20000 in
theorem ggX7_staying_X6_needs : GoodIn wsX7_staying wsX6_needs := goodIn_r _ [9, 10, 11, 64, 65, 66, 67, 68, 69] (by decide +kernel) (by decide +kernel)
set_option maxRecDepth 20000 in
theorem gX7_staying_X6_needs : GoodIn wsX7_staying (wsV RX7 19 RX6 yX6_needs wsX6_needs) := goodIn_app (goodIn_of _ (by decide +kernel)) ggX7_staying_X6_needs
set_option maxRecDepth 20000 in
theorem ggX7_staying_X3_holds : GoodIn wsX7_staying wsX3_holds := goodIn_r _ [16, 17, 18, 19, 20, 15, 21, 22, 23, 24, 25, 26, 27, 28, 29, 70, 71] (by decide +kernel) (by decide +kernel)
set_option maxRecDepth 20000 in
theorem gX7_staying_X3_holds : GoodIn wsX7_staying (wsV RX7 25 RX3 yX3_holds wsX3_holds) := goodIn_app (goodIn_of _ (by decide +kernel)) ggX7_staying_X3_holds
set_option maxRecDepth 20000 in
theorem ggX7_staying_X7_firstToGo : GoodIn wsX7_staying wsX7_firstToGo := goodIn_r _ [34, 35, 36, 37, 38, 39, 40, 33, 41, 3, 4, 1, 2, 42, 43, 44, 8, 45, 46, 47, 48, 6, 7, 9, 10, 11, 49, 50, 51, 15, 52, 22, 53, 54, 55, 56, 57, 58, 59, 60, 61, 62, 63, 64, 65, 66, 67, 68, 69, 70, 71] (by decide +kernel) (by decide +kernel)
set_option maxRecDepth 20000 in
theorem gX7_staying_X7_firstToGo : GoodIn wsX7_staying (wsV RX7 31 RX7 yX7_firstToGo wsX7_firstToGo) := goodIn_app (goodIn_of _ (by decide +kernel)) ggX7_staying_X7_firstToGo
theorem dX7_staying_0 : decode cX7_staying 0 = .ok (.iload_n 2, 1) := by decide +kernel
theorem dX7_staying_1 : decode cX7_staying 1 = .ok (.istore_n 3, 1) := by decide +kernel
theorem dX7_staying_2 : decode cX7_staying 2 = .ok (.iconst 0, 1) := by decide +kernel
theorem dX7_staying_3 : decode cX7_staying 3 = .ok (.istore 4, 2) := by decide +kernel
theorem dX7_staying_5 : decode cX7_staying 5 = .ok (.iload 4, 2) := by decide +kernel
theorem dX7_staying_7 : decode cX7_staying 7 = .ok (.bipush 8, 2) := by decide +kernel
theorem dX7_staying_9 : decode cX7_staying 9 = .ok (.if_icmp .ge 42, 3) := by decide +kernel
theorem dX7_staying_12 : decode cX7_staying 12 = .ok (.aload_n 0, 1) := by decide +kernel
theorem dX7_staying_13 : decode cX7_staying 13 = .ok (.getfield 9, 3) := by decide +kernel
theorem dX7_staying_16 : decode cX7_staying 16 = .ok (.aload_n 0, 1) := by decide +kernel
theorem dX7_staying_17 : decode cX7_staying 17 = .ok (.getfield 15, 3) := by decide +kernel
theorem dX7_staying_20 : decode cX7_staying 20 = .ok (.iload_n 1, 1) := by decide +kernel
theorem dX7_staying_21 : decode cX7_staying 21 = .ok (.invokevirtual 19, 3) := by decide +kernel
theorem dX7_staying_24 : decode cX7_staying 24 = .ok (.iload_n 3, 1) := by decide +kernel
theorem dX7_staying_25 : decode cX7_staying 25 = .ok (.ior, 1) := by decide +kernel
theorem dX7_staying_26 : decode cX7_staying 26 = .ok (.invokevirtual 25, 3) := by decide +kernel
theorem dX7_staying_29 : decode cX7_staying 29 = .ok (.ifCond .ne 22, 3) := by decide +kernel
theorem dX7_staying_32 : decode cX7_staying 32 = .ok (.iload_n 3, 1) := by decide +kernel
theorem dX7_staying_33 : decode cX7_staying 33 = .ok (.iconst 1, 1) := by decide +kernel
theorem dX7_staying_34 : decode cX7_staying 34 = .ok (.aload_n 0, 1) := by decide +kernel
theorem dX7_staying_35 : decode cX7_staying 35 = .ok (.iload_n 1, 1) := by decide +kernel
theorem dX7_staying_36 : decode cX7_staying 36 = .ok (.iload_n 3, 1) := by decide +kernel
theorem dX7_staying_37 : decode cX7_staying 37 = .ok (.invokevirtual 31, 3) := by decide +kernel
theorem dX7_staying_40 : decode cX7_staying 40 = .ok (.ishl, 1) := by decide +kernel
theorem dX7_staying_41 : decode cX7_staying 41 = .ok (.iconst (-1), 1) := by decide +kernel
theorem dX7_staying_42 : decode cX7_staying 42 = .ok (.ixor, 1) := by decide +kernel
theorem dX7_staying_43 : decode cX7_staying 43 = .ok (.iand, 1) := by decide +kernel
theorem dX7_staying_44 : decode cX7_staying 44 = .ok (.istore_n 3, 1) := by decide +kernel
theorem dX7_staying_45 : decode cX7_staying 45 = .ok (.iinc 4 1, 3) := by decide +kernel
theorem dX7_staying_48 : decode cX7_staying 48 = .ok (.goto (-43), 3) := by decide +kernel
theorem dX7_staying_51 : decode cX7_staying 51 = .ok (.iload_n 3, 1) := by decide +kernel
theorem dX7_staying_52 : decode cX7_staying 52 = .ok (.ireturn, 1) := by decide +kernel
set_option maxRecDepth 20000 in
theorem ggX7_firstToGo_X8_hasTool : GoodIn wsX7_firstToGo wsX8_hasTool := goodIn_r _ [3] (by decide +kernel) (by decide +kernel)
set_option maxRecDepth 20000 in
theorem gX7_firstToGo_X8_hasTool_n35 : GoodIn wsX7_firstToGo (wsX8_hasTool) := ggX7_firstToGo_X8_hasTool
set_option maxRecDepth 20000 in
theorem ggX7_firstToGo_X7_rank : GoodIn wsX7_firstToGo wsX7_rank := goodIn_r _ [8, 9, 10, 11, 12, 13, 14, 15, 16, 17, 18, 19, 1, 2, 3, 20, 21, 22, 23, 24, 25, 26, 27, 28, 29, 30, 31, 32, 33, 34, 35, 36, 37, 38, 39, 40, 41, 42, 43, 44, 45, 46, 47, 48, 49, 50] (by decide +kernel) (by decide +kernel)
set_option maxRecDepth 20000 in
theorem gX7_firstToGo_X7_rank : GoodIn wsX7_firstToGo (wsV RX7 39 RX7 yX7_rank wsX7_rank) := goodIn_app (goodIn_of _ (by decide +kernel)) ggX7_firstToGo_X7_rank
theorem dX7_firstToGo_0 : decode cX7_firstToGo 0 = .ok (.iconst 0, 1) := by decide +kernel
theorem dX7_firstToGo_1 : decode cX7_firstToGo 1 = .ok (.istore_n 3, 1) := by decide +kernel
theorem dX7_firstToGo_2 : decode cX7_firstToGo 2 = .ok (.iconst (-1), 1) := by decide +kernel
theorem dX7_firstToGo_3 : decode cX7_firstToGo 3 = .ok (.istore 4, 2) := by decide +kernel
theorem dX7_firstToGo_5 : decode cX7_firstToGo 5 = .ok (.iconst 0, 1) := by decide +kernel
theorem dX7_firstToGo_6 : decode cX7_firstToGo 6 = .ok (.istore 5, 2) := by decide +kernel
theorem dX7_firstToGo_8 : decode cX7_firstToGo 8 = .ok (.iload 5, 2) := by decide +kernel
theorem dX7_firstToGo_10 : decode cX7_firstToGo 10 = .ok (.bipush 8, 2) := by decide +kernel
theorem dX7_firstToGo_12 : decode cX7_firstToGo 12 = .ok (.if_icmp .ge 42, 3) := by decide +kernel
theorem dX7_firstToGo_15 : decode cX7_firstToGo 15 = .ok (.iload_n 2, 1) := by decide +kernel
theorem dX7_firstToGo_16 : decode cX7_firstToGo 16 = .ok (.iload 5, 2) := by decide +kernel
theorem dX7_firstToGo_18 : decode cX7_firstToGo 18 = .ok (.invokestatic 35, 3) := by decide +kernel
theorem dX7_firstToGo_21 : decode cX7_firstToGo 21 = .ok (.ifCond .eq 27, 3) := by decide +kernel
theorem dX7_firstToGo_24 : decode cX7_firstToGo 24 = .ok (.aload_n 0, 1) := by decide +kernel
theorem dX7_firstToGo_25 : decode cX7_firstToGo 25 = .ok (.iload_n 1, 1) := by decide +kernel
theorem dX7_firstToGo_26 : decode cX7_firstToGo 26 = .ok (.iload 5, 2) := by decide +kernel
theorem dX7_firstToGo_28 : decode cX7_firstToGo 28 = .ok (.invokevirtual 39, 3) := by decide +kernel
theorem dX7_firstToGo_31 : decode cX7_firstToGo 31 = .ok (.iload 4, 2) := by decide +kernel
theorem dX7_firstToGo_33 : decode cX7_firstToGo 33 = .ok (.if_icmp .lt 15, 3) := by decide +kernel
theorem dX7_firstToGo_36 : decode cX7_firstToGo 36 = .ok (.iload 5, 2) := by decide +kernel
theorem dX7_firstToGo_38 : decode cX7_firstToGo 38 = .ok (.istore_n 3, 1) := by decide +kernel
theorem dX7_firstToGo_39 : decode cX7_firstToGo 39 = .ok (.aload_n 0, 1) := by decide +kernel
theorem dX7_firstToGo_40 : decode cX7_firstToGo 40 = .ok (.iload_n 1, 1) := by decide +kernel
theorem dX7_firstToGo_41 : decode cX7_firstToGo 41 = .ok (.iload 5, 2) := by decide +kernel
theorem dX7_firstToGo_43 : decode cX7_firstToGo 43 = .ok (.invokevirtual 39, 3) := by decide +kernel
theorem dX7_firstToGo_46 : decode cX7_firstToGo 46 = .ok (.istore 4, 2) := by decide +kernel
theorem dX7_firstToGo_48 : decode cX7_firstToGo 48 = .ok (.iinc 5 1, 3) := by decide +kernel
theorem dX7_firstToGo_51 : decode cX7_firstToGo 51 = .ok (.goto (-43), 3) := by decide +kernel
theorem dX7_firstToGo_54 : decode cX7_firstToGo 54 = .ok (.iload_n 3, 1) := by decide +kernel
theorem dX7_firstToGo_55 : decode cX7_firstToGo 55 = .ok (.ireturn, 1) := by decide +kernel
set_option maxRecDepth 20000 in
theorem ggX7_rank_X6_nextPlace : GoodIn wsX7_rank wsX6_nextPlace := goodIn_r _ [9, 10, 11, 12, 13, 14, 15, 16, 17, 8, 18, 19, 20, 38, 39, 40, 41, 42, 43] (by decide +kernel) (by decide +kernel)
set_option maxRecDepth 20000 in
theorem gX7_rank_X6_nextPlace : GoodIn wsX7_rank (wsV RX7 42 RX6 yX6_nextPlace wsX6_nextPlace) := goodIn_app (goodIn_of _ (by decide +kernel)) ggX7_rank_X6_nextPlace
set_option maxRecDepth 20000 in
theorem ggX7_rank_X3_bigTools : GoodIn wsX7_rank wsX3_bigTools := goodIn_r _ [25, 26, 44, 45] (by decide +kernel) (by decide +kernel)
set_option maxRecDepth 20000 in
theorem gX7_rank_X3_bigTools : GoodIn wsX7_rank (wsV RX7 45 RX3 yX3_bigTools wsX3_bigTools) := goodIn_app (goodIn_of _ (by decide +kernel)) ggX7_rank_X3_bigTools
set_option maxRecDepth 20000 in
theorem ggX7_rank_X8_hasTool : GoodIn wsX7_rank wsX8_hasTool := goodIn_r _ [14] (by decide +kernel) (by decide +kernel)
set_option maxRecDepth 20000 in
theorem gX7_rank_X8_hasTool_n35 : GoodIn wsX7_rank (wsX8_hasTool) := ggX7_rank_X8_hasTool
theorem dX7_rank_0 : decode cX7_rank 0 = .ok (.aload_n 0, 1) := by decide +kernel
theorem dX7_rank_1 : decode cX7_rank 1 = .ok (.getfield 15, 3) := by decide +kernel
theorem dX7_rank_4 : decode cX7_rank 4 = .ok (.iload_n 1, 1) := by decide +kernel
theorem dX7_rank_5 : decode cX7_rank 5 = .ok (.iload_n 2, 1) := by decide +kernel
theorem dX7_rank_6 : decode cX7_rank 6 = .ok (.invokevirtual 42, 3) := by decide +kernel
theorem dX7_rank_9 : decode cX7_rank 9 = .ok (.istore_n 3, 1) := by decide +kernel
theorem dX7_rank_10 : decode cX7_rank 10 = .ok (.iload_n 3, 1) := by decide +kernel
theorem dX7_rank_11 : decode cX7_rank 11 = .ok (.iconst (-1), 1) := by decide +kernel
theorem dX7_rank_12 : decode cX7_rank 12 = .ok (.if_icmp .ne 8, 3) := by decide +kernel
theorem dX7_rank_15 : decode cX7_rank 15 = .ok (.bipush 8, 2) := by decide +kernel
theorem dX7_rank_17 : decode cX7_rank 17 = .ok (.goto 4, 3) := by decide +kernel
theorem dX7_rank_20 : decode cX7_rank 20 = .ok (.iload_n 3, 1) := by decide +kernel
theorem dX7_rank_21 : decode cX7_rank 21 = .ok (.istore 4, 2) := by decide +kernel
theorem dX7_rank_23 : decode cX7_rank 23 = .ok (.iconst 2, 1) := by decide +kernel
theorem dX7_rank_24 : decode cX7_rank 24 = .ok (.iload 4, 2) := by decide +kernel
theorem dX7_rank_26 : decode cX7_rank 26 = .ok (.imul, 1) := by decide +kernel
theorem dX7_rank_27 : decode cX7_rank 27 = .ok (.aload_n 0, 1) := by decide +kernel
theorem dX7_rank_28 : decode cX7_rank 28 = .ok (.getfield 9, 3) := by decide +kernel
theorem dX7_rank_31 : decode cX7_rank 31 = .ok (.invokevirtual 45, 3) := by decide +kernel
theorem dX7_rank_34 : decode cX7_rank 34 = .ok (.iload_n 2, 1) := by decide +kernel
theorem dX7_rank_35 : decode cX7_rank 35 = .ok (.invokestatic 35, 3) := by decide +kernel
theorem dX7_rank_38 : decode cX7_rank 38 = .ok (.ifCond .eq 7, 3) := by decide +kernel
theorem dX7_rank_41 : decode cX7_rank 41 = .ok (.iconst 1, 1) := by decide +kernel
theorem dX7_rank_42 : decode cX7_rank 42 = .ok (.goto 4, 3) := by decide +kernel
theorem dX7_rank_45 : decode cX7_rank 45 = .ok (.iconst 0, 1) := by decide +kernel
theorem dX7_rank_46 : decode cX7_rank 46 = .ok (.iadd, 1) := by decide +kernel
theorem dX7_rank_47 : decode cX7_rank 47 = .ok (.ireturn, 1) := by decide +kernel
set_option maxRecDepth 20000 in
theorem ggX8_init_X4_init : GoodIn wsX8_init wsX4_init := goodIn_r _ [33, 34, 2, 3, 35, 36, 80, 81] (by decide +kernel) (by decide +kernel)
set_option maxRecDepth 20000 in
theorem gX8_init_X4_init_n11 : GoodIn wsX8_init (wsX4_init) := ggX8_init_X4_init
set_option maxRecDepth 20000 in
theorem ggX8_init_X3_init : GoodIn wsX8_init wsX3_init := goodIn_r _ [38, 39, 2, 3, 40, 91, 92] (by decide +kernel) (by decide +kernel)
set_option maxRecDepth 20000 in
theorem gX8_init_X3_init_n18 : GoodIn wsX8_init (wsX3_init) := ggX8_init_X3_init
set_option maxRecDepth 20000 in
theorem ggX8_init_X6_init : GoodIn wsX8_init wsX6_init := goodIn_r _ [42, 43, 2, 3, 44, 45, 46, 47, 93, 94, 95, 96, 97, 98] (by decide +kernel) (by decide +kernel)
set_option maxRecDepth 20000 in
theorem gX8_init_X6_init_n25 : GoodIn wsX8_init (wsX6_init) := ggX8_init_X6_init
set_option maxRecDepth 20000 in
theorem ggX8_init_X2_init : GoodIn wsX8_init wsX2_init := goodIn_r _ [50, 51, 2, 3, 44, 52, 53, 54, 55, 99, 100, 101, 102] (by decide +kernel) (by decide +kernel)
set_option maxRecDepth 20000 in
theorem gX8_init_X2_init : GoodIn wsX8_init (wsX2_init) := ggX8_init_X2_init
set_option maxRecDepth 20000 in
theorem ggX8_init_X7_init : GoodIn wsX8_init wsX7_init := goodIn_r _ [58, 59, 60, 61, 62, 63, 2, 3, 44, 64, 65, 66, 67, 68, 108, 109, 110, 111, 112, 113, 103, 104, 105, 106, 107] (by decide +kernel) (by decide +kernel)
set_option maxRecDepth 20000 in
theorem gX8_init_X7_init : GoodIn wsX8_init (wsX7_init) := ggX8_init_X7_init
set_option maxRecDepth 20000 in
theorem ggX8_init_X5_init : GoodIn wsX8_init wsX5_init := goodIn_r _ [71, 72, 73, 60, 61, 62, 63, 2, 3, 44, 64, 65, 66, 67, 68, 108, 109, 110, 111, 112, 113, 103, 104, 105, 106, 107] (by decide +kernel) (by decide +kernel)
set_option maxRecDepth 20000 in
theorem gX8_init_X5_init : GoodIn wsX8_init (wsX5_init) := ggX8_init_X5_init
set_option maxRecDepth 20000 in
theorem ggX8_init_X0_init : GoodIn wsX8_init wsX0_init := goodIn_r _ [76, 77, 2, 3, 78, 79, 114, 115, 116, 117, 118, 119] (by decide +kernel) (by decide +kernel)
set_option maxRecDepth 20000 in
theorem gX8_init_X0_init : GoodIn wsX8_init (wsX0_init) := ggX8_init_X0_init
theorem dX8_init_0 : decode cX8_init 0 = .ok (.aload_n 0, 1) := by decide +kernel
theorem dX8_init_1 : decode cX8_init 1 = .ok (.invokespecial 3, 3) := by decide +kernel
theorem dX8_init_4 : decode cX8_init 4 = .ok (.aload_n 0, 1) := by decide +kernel
theorem dX8_init_5 : decode cX8_init 5 = .ok (.new 9, 3) := by decide +kernel
theorem dX8_init_8 : decode cX8_init 8 = .ok (.dup, 1) := by decide +kernel
theorem dX8_init_9 : decode cX8_init 9 = .ok (.invokespecial 11, 3) := by decide +kernel
theorem dX8_init_12 : decode cX8_init 12 = .ok (.putfield 12, 3) := by decide +kernel
theorem dX8_init_15 : decode cX8_init 15 = .ok (.aload_n 0, 1) := by decide +kernel
theorem dX8_init_16 : decode cX8_init 16 = .ok (.new 16, 3) := by decide +kernel
theorem dX8_init_19 : decode cX8_init 19 = .ok (.dup, 1) := by decide +kernel
theorem dX8_init_20 : decode cX8_init 20 = .ok (.invokespecial 18, 3) := by decide +kernel
theorem dX8_init_23 : decode cX8_init 23 = .ok (.putfield 19, 3) := by decide +kernel
theorem dX8_init_26 : decode cX8_init 26 = .ok (.aload_n 0, 1) := by decide +kernel
theorem dX8_init_27 : decode cX8_init 27 = .ok (.new 23, 3) := by decide +kernel
theorem dX8_init_30 : decode cX8_init 30 = .ok (.dup, 1) := by decide +kernel
theorem dX8_init_31 : decode cX8_init 31 = .ok (.invokespecial 25, 3) := by decide +kernel
theorem dX8_init_34 : decode cX8_init 34 = .ok (.putfield 26, 3) := by decide +kernel
theorem dX8_init_37 : decode cX8_init 37 = .ok (.aload_n 0, 1) := by decide +kernel
theorem dX8_init_38 : decode cX8_init 38 = .ok (.new 30, 3) := by decide +kernel
theorem dX8_init_41 : decode cX8_init 41 = .ok (.dup, 1) := by decide +kernel
theorem dX8_init_42 : decode cX8_init 42 = .ok (.aload_n 0, 1) := by decide +kernel
theorem dX8_init_43 : decode cX8_init 43 = .ok (.getfield 26, 3) := by decide +kernel
theorem dX8_init_46 : decode cX8_init 46 = .ok (.aload_n 0, 1) := by decide +kernel
theorem dX8_init_47 : decode cX8_init 47 = .ok (.getfield 19, 3) := by decide +kernel
theorem dX8_init_50 : decode cX8_init 50 = .ok (.invokespecial 32, 3) := by decide +kernel
theorem dX8_init_53 : decode cX8_init 53 = .ok (.putfield 35, 3) := by decide +kernel
theorem dX8_init_56 : decode cX8_init 56 = .ok (.aload_n 0, 1) := by decide +kernel
theorem dX8_init_57 : decode cX8_init 57 = .ok (.new 39, 3) := by decide +kernel
theorem dX8_init_60 : decode cX8_init 60 = .ok (.dup, 1) := by decide +kernel
theorem dX8_init_61 : decode cX8_init 61 = .ok (.aload_n 0, 1) := by decide +kernel
theorem dX8_init_62 : decode cX8_init 62 = .ok (.getfield 26, 3) := by decide +kernel
theorem dX8_init_65 : decode cX8_init 65 = .ok (.aload_n 0, 1) := by decide +kernel
theorem dX8_init_66 : decode cX8_init 66 = .ok (.getfield 19, 3) := by decide +kernel
theorem dX8_init_69 : decode cX8_init 69 = .ok (.invokespecial 41, 3) := by decide +kernel
theorem dX8_init_72 : decode cX8_init 72 = .ok (.putfield 42, 3) := by decide +kernel
theorem dX8_init_75 : decode cX8_init 75 = .ok (.aload_n 0, 1) := by decide +kernel
theorem dX8_init_76 : decode cX8_init 76 = .ok (.new 46, 3) := by decide +kernel
theorem dX8_init_79 : decode cX8_init 79 = .ok (.dup, 1) := by decide +kernel
theorem dX8_init_80 : decode cX8_init 80 = .ok (.aload_n 0, 1) := by decide +kernel
theorem dX8_init_81 : decode cX8_init 81 = .ok (.getfield 26, 3) := by decide +kernel
theorem dX8_init_84 : decode cX8_init 84 = .ok (.aload_n 0, 1) := by decide +kernel
theorem dX8_init_85 : decode cX8_init 85 = .ok (.getfield 19, 3) := by decide +kernel
theorem dX8_init_88 : decode cX8_init 88 = .ok (.aload_n 0, 1) := by decide +kernel
theorem dX8_init_89 : decode cX8_init 89 = .ok (.getfield 35, 3) := by decide +kernel
theorem dX8_init_92 : decode cX8_init 92 = .ok (.invokespecial 48, 3) := by decide +kernel
theorem dX8_init_95 : decode cX8_init 95 = .ok (.putfield 51, 3) := by decide +kernel
theorem dX8_init_98 : decode cX8_init 98 = .ok (.aload_n 0, 1) := by decide +kernel
theorem dX8_init_99 : decode cX8_init 99 = .ok (.new 54, 3) := by decide +kernel
theorem dX8_init_102 : decode cX8_init 102 = .ok (.dup, 1) := by decide +kernel
theorem dX8_init_103 : decode cX8_init 103 = .ok (.aload_n 0, 1) := by decide +kernel
theorem dX8_init_104 : decode cX8_init 104 = .ok (.getfield 26, 3) := by decide +kernel
theorem dX8_init_107 : decode cX8_init 107 = .ok (.aload_n 0, 1) := by decide +kernel
theorem dX8_init_108 : decode cX8_init 108 = .ok (.getfield 35, 3) := by decide +kernel
theorem dX8_init_111 : decode cX8_init 111 = .ok (.invokespecial 56, 3) := by decide +kernel
theorem dX8_init_114 : decode cX8_init 114 = .ok (.putfield 59, 3) := by decide +kernel
theorem dX8_init_117 : decode cX8_init 117 = .ok (.return_, 1) := by decide +kernel
set_option maxRecDepth 20000 in
theorem ggX8_letter_X4_isFull : GoodIn wsX8_letter wsX4_isFull := goodIn_r _ [6, 7, 27, 28] (by decide +kernel) (by decide +kernel)
set_option maxRecDepth 20000 in
theorem gX8_letter_X4_isFull : GoodIn wsX8_letter (wsV RX8 63 RX4 yX4_isFull wsX4_isFull) := goodIn_app (goodIn_of _ (by decide +kernel)) ggX8_letter_X4_isFull
set_option maxRecDepth 20000 in
theorem ggX8_letter_X4_write : GoodIn wsX8_letter wsX4_write := goodIn_r _ [11, 12, 7, 13, 3, 4, 5, 6, 27, 28] (by decide +kernel) (by decide +kernel)
