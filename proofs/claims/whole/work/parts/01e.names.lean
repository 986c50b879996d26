theorem dX9_init_50 : decode cX9_init 50 = .ok (.bipush 16, 2) := by decide +kernel
theorem dX9_init_52 : decode cX9_init 52 = .ok (.newarray .int, 2) := by decide +kernel
theorem dX9_init_54 : decode cX9_init 54 = .ok (.putfield 29, 3) := by decide +kernel
theorem dX9_init_57 : decode cX9_init 57 = .ok (.aload_n 0, 1) := by decide +kernel
theorem dX9_init_58 : decode cX9_init 58 = .ok (.bipush 16, 2) := by decide +kernel
theorem dX9_init_60 : decode cX9_init 60 = .ok (.newarray .int, 2) := by decide +kernel
theorem dX9_init_62 : decode cX9_init 62 = .ok (.putfield 32, 3) := by decide +kernel
theorem dX9_init_65 : decode cX9_init 65 = .ok (.aload_n 0, 1) := by decide +kernel
theorem dX9_init_66 : decode cX9_init 66 = .ok (.sipush 2304, 3) := by decide +kernel
theorem dX9_init_69 : decode cX9_init 69 = .ok (.newarray .int, 2) := by decide +kernel
theorem dX9_init_71 : decode cX9_init 71 = .ok (.putfield 35, 3) := by decide +kernel
theorem dX9_init_74 : decode cX9_init 74 = .ok (.aload_n 0, 1) := by decide +kernel
theorem dX9_init_75 : decode cX9_init 75 = .ok (.sipush 256, 3) := by decide +kernel
theorem dX9_init_78 : decode cX9_init 78 = .ok (.newarray .int, 2) := by decide +kernel
theorem dX9_init_80 : decode cX9_init 80 = .ok (.putfield 38, 3) := by decide +kernel
theorem dX9_init_83 : decode cX9_init 83 = .ok (.return_, 1) := by decide +kernel
theorem dX9_within_0 : decode cX9_within 0 = .ok (.iload_n 0, 1) := by decide +kernel
theorem dX9_within_1 : decode cX9_within 1 = .ok (.iload_n 1, 1) := by decide +kernel
theorem dX9_within_2 : decode cX9_within 2 = .ok (.if_icmp .lt 12, 3) := by decide +kernel
theorem dX9_within_5 : decode cX9_within 5 = .ok (.iload_n 0, 1) := by decide +kernel
theorem dX9_within_6 : decode cX9_within 6 = .ok (.iload_n 2, 1) := by decide +kernel
theorem dX9_within_7 : decode cX9_within 7 = .ok (.if_icmp .gt 7, 3) := by decide +kernel
theorem dX9_within_10 : decode cX9_within 10 = .ok (.iconst 1, 1) := by decide +kernel
theorem dX9_within_11 : decode cX9_within 11 = .ok (.goto 4, 3) := by decide +kernel
theorem dX9_within_14 : decode cX9_within 14 = .ok (.iconst 0, 1) := by decide +kernel
theorem dX9_within_15 : decode cX9_within 15 = .ok (.ireturn, 1) := by decide +kernel
theorem dX9_has_0 : decode cX9_has 0 = .ok (.iload_n 0, 1) := by decide +kernel
theorem dX9_has_1 : decode cX9_has 1 = .ok (.iload_n 1, 1) := by decide +kernel
theorem dX9_has_2 : decode cX9_has 2 = .ok (.ishr, 1) := by decide +kernel
theorem dX9_has_3 : decode cX9_has 3 = .ok (.iconst 1, 1) := by decide +kernel
theorem dX9_has_4 : decode cX9_has 4 = .ok (.iand, 1) := by decide +kernel
theorem dX9_has_5 : decode cX9_has 5 = .ok (.iconst 1, 1) := by decide +kernel
theorem dX9_has_6 : decode cX9_has 6 = .ok (.if_icmp .ne 7, 3) := by decide +kernel
theorem dX9_has_9 : decode cX9_has 9 = .ok (.iconst 1, 1) := by decide +kernel
theorem dX9_has_10 : decode cX9_has 10 = .ok (.goto 4, 3) := by decide +kernel
theorem dX9_has_13 : decode cX9_has 13 = .ok (.iconst 0, 1) := by decide +kernel
theorem dX9_has_14 : decode cX9_has 14 = .ok (.ireturn, 1) := by decide +kernel
theorem dX9_ones_0 : decode cX9_ones 0 = .ok (.iconst 0, 1) := by decide +kernel
theorem dX9_ones_1 : decode cX9_ones 1 = .ok (.istore_n 1, 1) := by decide +kernel
theorem dX9_ones_2 : decode cX9_ones 2 = .ok (.iconst 0, 1) := by decide +kernel
theorem dX9_ones_3 : decode cX9_ones 3 = .ok (.istore_n 2, 1) := by decide +kernel
theorem dX9_ones_4 : decode cX9_ones 4 = .ok (.iload_n 2, 1) := by decide +kernel
theorem dX9_ones_5 : decode cX9_ones 5 = .ok (.bipush 8, 2) := by decide +kernel
theorem dX9_ones_7 : decode cX9_ones 7 = .ok (.if_icmp .ge 17, 3) := by decide +kernel
theorem dX9_ones_10 : decode cX9_ones 10 = .ok (.iload_n 1, 1) := by decide +kernel
theorem dX9_ones_11 : decode cX9_ones 11 = .ok (.iload_n 0, 1) := by decide +kernel
theorem dX9_ones_12 : decode cX9_ones 12 = .ok (.iload_n 2, 1) := by decide +kernel
theorem dX9_ones_13 : decode cX9_ones 13 = .ok (.ishr, 1) := by decide +kernel
theorem dX9_ones_14 : decode cX9_ones 14 = .ok (.iconst 1, 1) := by decide +kernel
theorem dX9_ones_15 : decode cX9_ones 15 = .ok (.iand, 1) := by decide +kernel
theorem dX9_ones_16 : decode cX9_ones 16 = .ok (.iadd, 1) := by decide +kernel
theorem dX9_ones_17 : decode cX9_ones 17 = .ok (.istore_n 1, 1) := by decide +kernel
theorem dX9_ones_18 : decode cX9_ones 18 = .ok (.iinc 2 1, 3) := by decide +kernel
theorem dX9_ones_21 : decode cX9_ones 21 = .ok (.goto (-17), 3) := by decide +kernel
theorem dX9_ones_24 : decode cX9_ones 24 = .ok (.iload_n 1, 1) := by decide +kernel
theorem dX9_ones_25 : decode cX9_ones 25 = .ok (.ireturn, 1) := by decide +kernel
set_option maxRecDepth 20000 in
theorem ggX9_sizeOf_X9_ones : GoodIn wsX9_sizeOf wsX9_ones := goodIn_r _ [5] (by decide +kernel) (by decide +kernel)
set_option maxRecDepth 20000 in
theorem gX9_sizeOf_X9_ones : GoodIn wsX9_sizeOf (va_wsS RX9 41 yX9_ones wsX9_ones) := goodIn_app (goodIn_of _ (by decide +kernel)) ggX9_sizeOf_X9_ones
theorem dX9_sizeOf_0 : decode cX9_sizeOf 0 = .ok (.iload_n 1, 1) := by decide +kernel
theorem dX9_sizeOf_1 : decode cX9_sizeOf 1 = .ok (.invokestatic 41, 3) := by decide +kernel
theorem dX9_sizeOf_4 : decode cX9_sizeOf 4 = .ok (.iload_n 1, 1) := by decide +kernel
theorem dX9_sizeOf_5 : decode cX9_sizeOf 5 = .ok (.aload_n 0, 1) := by decide +kernel
theorem dX9_sizeOf_6 : decode cX9_sizeOf 6 = .ok (.getfield 45, 3) := by decide +kernel
theorem dX9_sizeOf_9 : decode cX9_sizeOf 9 = .ok (.iand, 1) := by decide +kernel
theorem dX9_sizeOf_10 : decode cX9_sizeOf 10 = .ok (.invokestatic 41, 3) := by decide +kernel
theorem dX9_sizeOf_13 : decode cX9_sizeOf 13 = .ok (.iadd, 1) := by decide +kernel
theorem dX9_sizeOf_14 : decode cX9_sizeOf 14 = .ok (.ireturn, 1) := by decide +kernel
set_option maxRecDepth 20000 in
theorem ggX9_letter_X9_within : GoodIn wsX9_letter wsX9_within := goodIn_r _ [6] (by decide +kernel) (by decide +kernel)
set_option maxRecDepth 20000 in
theorem gX9_letter_X9_within : GoodIn wsX9_letter (va_wsS RX9 48 yX9_within wsX9_within) := goodIn_app (goodIn_of _ (by decide +kernel)) ggX9_letter_X9_within
theorem dX9_letter_0 : decode cX9_letter 0 = .ok (.iload_n 1, 1) := by decide +kernel
theorem dX9_letter_1 : decode cX9_letter 1 = .ok (.bipush 32, 2) := by decide +kernel
theorem dX9_letter_3 : decode cX9_letter 3 = .ok (.bipush 126, 2) := by decide +kernel
theorem dX9_letter_5 : decode cX9_letter 5 = .ok (.invokestatic 48, 3) := by decide +kernel
theorem dX9_letter_8 : decode cX9_letter 8 = .ok (.ifCond .ne 7, 3) := by decide +kernel
theorem dX9_letter_11 : decode cX9_letter 11 = .ok (.sipush (-1002), 3) := by decide +kernel
theorem dX9_letter_14 : decode cX9_letter 14 = .ok (.ireturn, 1) := by decide +kernel
theorem dX9_letter_15 : decode cX9_letter 15 = .ok (.aload_n 0, 1) := by decide +kernel
theorem dX9_letter_16 : decode cX9_letter 16 = .ok (.getfield 52, 3) := by decide +kernel
theorem dX9_letter_19 : decode cX9_letter 19 = .ok (.bipush 71, 2) := by decide +kernel
theorem dX9_letter_21 : decode cX9_letter 21 = .ok (.if_icmp .ne 7, 3) := by decide +kernel
theorem dX9_letter_24 : decode cX9_letter 24 = .ok (.sipush (-1004), 3) := by decide +kernel
theorem dX9_letter_27 : decode cX9_letter 27 = .ok (.ireturn, 1) := by decide +kernel
theorem dX9_letter_28 : decode cX9_letter 28 = .ok (.aload_n 0, 1) := by decide +kernel
theorem dX9_letter_29 : decode cX9_letter 29 = .ok (.getfield 7, 3) := by decide +kernel
theorem dX9_letter_32 : decode cX9_letter 32 = .ok (.aload_n 0, 1) := by decide +kernel
theorem dX9_letter_33 : decode cX9_letter 33 = .ok (.getfield 52, 3) := by decide +kernel
theorem dX9_letter_36 : decode cX9_letter 36 = .ok (.iload_n 1, 1) := by decide +kernel
theorem dX9_letter_37 : decode cX9_letter 37 = .ok (.iastore, 1) := by decide +kernel
theorem dX9_letter_38 : decode cX9_letter 38 = .ok (.aload_n 0, 1) := by decide +kernel
theorem dX9_letter_39 : decode cX9_letter 39 = .ok (.dup, 1) := by decide +kernel
theorem dX9_letter_40 : decode cX9_letter 40 = .ok (.getfield 52, 3) := by decide +kernel
theorem dX9_letter_43 : decode cX9_letter 43 = .ok (.iconst 1, 1) := by decide +kernel
theorem dX9_letter_44 : decode cX9_letter 44 = .ok (.iadd, 1) := by decide +kernel
theorem dX9_letter_45 : decode cX9_letter 45 = .ok (.putfield 52, 3) := by decide +kernel
theorem dX9_letter_48 : decode cX9_letter 48 = .ok (.aload_n 0, 1) := by decide +kernel
theorem dX9_letter_49 : decode cX9_letter 49 = .ok (.getfield 52, 3) := by decide +kernel
theorem dX9_letter_52 : decode cX9_letter 52 = .ok (.ireturn, 1) := by decide +kernel
theorem dX9_blank_0 : decode cX9_blank 0 = .ok (.aload_n 0, 1) := by decide +kernel
theorem dX9_blank_1 : decode cX9_blank 1 = .ok (.getfield 52, 3) := by decide +kernel
theorem dX9_blank_4 : decode cX9_blank 4 = .ok (.istore_n 1, 1) := by decide +kernel
theorem dX9_blank_5 : decode cX9_blank 5 = .ok (.aload_n 0, 1) := by decide +kernel
theorem dX9_blank_6 : decode cX9_blank 6 = .ok (.iconst 0, 1) := by decide +kernel
theorem dX9_blank_7 : decode cX9_blank 7 = .ok (.putfield 52, 3) := by decide +kernel
theorem dX9_blank_10 : decode cX9_blank 10 = .ok (.iload_n 1, 1) := by decide +kernel
theorem dX9_blank_11 : decode cX9_blank 11 = .ok (.ireturn, 1) := by decide +kernel
set_option maxRecDepth 20000 in
theorem ggX9_takes_X9_within : GoodIn wsX9_takes wsX9_within := goodIn_r _ [7] (by decide +kernel) (by decide +kernel)
set_option maxRecDepth 20000 in
theorem gX9_takes_X9_within : GoodIn wsX9_takes (va_wsS RX9 48 yX9_within wsX9_within) := goodIn_app (goodIn_of _ (by decide +kernel)) ggX9_takes_X9_within
theorem dX9_takes_0 : decode cX9_takes 0 = .ok (.iload_n 1, 1) := by decide +kernel
theorem dX9_takes_1 : decode cX9_takes 1 = .ok (.bipush 44, 2) := by decide +kernel
theorem dX9_takes_3 : decode cX9_takes 3 = .ok (.if_icmp .ne 61, 3) := by decide +kernel
theorem dX9_takes_6 : decode cX9_takes 6 = .ok (.aload_n 0, 1) := by decide +kernel
theorem dX9_takes_7 : decode cX9_takes 7 = .ok (.getfield 55, 3) := by decide +kernel
theorem dX9_takes_10 : decode cX9_takes 10 = .ok (.ifCond .eq 18, 3) := by decide +kernel
theorem dX9_takes_13 : decode cX9_takes 13 = .ok (.aload_n 0, 1) := by decide +kernel
theorem dX9_takes_14 : decode cX9_takes 14 = .ok (.getfield 58, 3) := by decide +kernel
theorem dX9_takes_17 : decode cX9_takes 17 = .ok (.iconst 1, 1) := by decide +kernel
theorem dX9_takes_18 : decode cX9_takes 18 = .ok (.iadd, 1) := by decide +kernel
theorem dX9_takes_19 : decode cX9_takes 19 = .ok (.bipush 8, 2) := by decide +kernel
theorem dX9_takes_21 : decode cX9_takes 21 = .ok (.if_icmp .ge 7, 3) := by decide +kernel
theorem dX9_takes_24 : decode cX9_takes 24 = .ok (.iconst 1, 1) := by decide +kernel
theorem dX9_takes_25 : decode cX9_takes 25 = .ok (.goto 4, 3) := by decide +kernel
theorem dX9_takes_28 : decode cX9_takes 28 = .ok (.iconst 0, 1) := by decide +kernel
theorem dX9_takes_29 : decode cX9_takes 29 = .ok (.istore_n 2, 1) := by decide +kernel
theorem dX9_takes_30 : decode cX9_takes 30 = .ok (.iload_n 2, 1) := by decide +kernel
theorem dX9_takes_31 : decode cX9_takes 31 = .ok (.ifCond .eq 31, 3) := by decide +kernel
theorem dX9_takes_34 : decode cX9_takes 34 = .ok (.aload_n 0, 1) := by decide +kernel
theorem dX9_takes_35 : decode cX9_takes 35 = .ok (.getfield 26, 3) := by decide +kernel
theorem dX9_takes_38 : decode cX9_takes 38 = .ok (.aload_n 0, 1) := by decide +kernel
theorem dX9_takes_39 : decode cX9_takes 39 = .ok (.getfield 58, 3) := by decide +kernel
theorem dX9_takes_42 : decode cX9_takes 42 = .ok (.aload_n 0, 1) := by decide +kernel
theorem dX9_takes_43 : decode cX9_takes 43 = .ok (.getfield 55, 3) := by decide +kernel
theorem dX9_takes_46 : decode cX9_takes 46 = .ok (.iastore, 1) := by decide +kernel
theorem dX9_takes_47 : decode cX9_takes 47 = .ok (.aload_n 0, 1) := by decide +kernel
theorem dX9_takes_48 : decode cX9_takes 48 = .ok (.dup, 1) := by decide +kernel
theorem dX9_takes_49 : decode cX9_takes 49 = .ok (.getfield 58, 3) := by decide +kernel
theorem dX9_takes_52 : decode cX9_takes 52 = .ok (.iconst 1, 1) := by decide +kernel
theorem dX9_takes_53 : decode cX9_takes 53 = .ok (.iadd, 1) := by decide +kernel
theorem dX9_takes_54 : decode cX9_takes 54 = .ok (.putfield 58, 3) := by decide +kernel
theorem dX9_takes_57 : decode cX9_takes 57 = .ok (.aload_n 0, 1) := by decide +kernel
theorem dX9_takes_58 : decode cX9_takes 58 = .ok (.iconst 0, 1) := by decide +kernel
theorem dX9_takes_59 : decode cX9_takes 59 = .ok (.putfield 55, 3) := by decide +kernel
theorem dX9_takes_62 : decode cX9_takes 62 = .ok (.iload_n 2, 1) := by decide +kernel
theorem dX9_takes_63 : decode cX9_takes 63 = .ok (.ireturn, 1) := by decide +kernel
theorem dX9_takes_64 : decode cX9_takes 64 = .ok (.iload_n 1, 1) := by decide +kernel
theorem dX9_takes_65 : decode cX9_takes 65 = .ok (.bipush 97, 2) := by decide +kernel
theorem dX9_takes_67 : decode cX9_takes 67 = .ok (.bipush 104, 2) := by decide +kernel
theorem dX9_takes_69 : decode cX9_takes 69 = .ok (.invokestatic 48, 3) := by decide +kernel
theorem dX9_takes_72 : decode cX9_takes 72 = .ok (.ifCond .eq 19, 3) := by decide +kernel
theorem dX9_takes_75 : decode cX9_takes 75 = .ok (.aload_n 0, 1) := by decide +kernel
theorem dX9_takes_76 : decode cX9_takes 76 = .ok (.getfield 55, 3) := by decide +kernel
theorem dX9_takes_79 : decode cX9_takes 79 = .ok (.iload_n 1, 1) := by decide +kernel
theorem dX9_takes_80 : decode cX9_takes 80 = .ok (.bipush 97, 2) := by decide +kernel
theorem dX9_takes_82 : decode cX9_takes 82 = .ok (.isub, 1) := by decide +kernel
theorem dX9_takes_83 : decode cX9_takes 83 = .ok (.ishr, 1) := by decide +kernel
theorem dX9_takes_84 : decode cX9_takes 84 = .ok (.ifCond .ne 7, 3) := by decide +kernel
theorem dX9_takes_87 : decode cX9_takes 87 = .ok (.iconst 1, 1) := by decide +kernel
theorem dX9_takes_88 : decode cX9_takes 88 = .ok (.goto 4, 3) := by decide +kernel
theorem dX9_takes_91 : decode cX9_takes 91 = .ok (.iconst 0, 1) := by decide +kernel
theorem dX9_takes_92 : decode cX9_takes 92 = .ok (.istore_n 2, 1) := by decide +kernel
theorem dX9_takes_93 : decode cX9_takes 93 = .ok (.aload_n 0, 1) := by decide +kernel
theorem dX9_takes_94 : decode cX9_takes 94 = .ok (.dup, 1) := by decide +kernel
theorem dX9_takes_95 : decode cX9_takes 95 = .ok (.getfield 55, 3) := by decide +kernel
theorem dX9_takes_98 : decode cX9_takes 98 = .ok (.iload_n 2, 1) := by decide +kernel
theorem dX9_takes_99 : decode cX9_takes 99 = .ok (.ifCond .eq 12, 3) := by decide +kernel
theorem dX9_takes_102 : decode cX9_takes 102 = .ok (.iconst 1, 1) := by decide +kernel
theorem dX9_takes_103 : decode cX9_takes 103 = .ok (.iload_n 1, 1) := by decide +kernel
theorem dX9_takes_104 : decode cX9_takes 104 = .ok (.bipush 97, 2) := by decide +kernel
theorem dX9_takes_106 : decode cX9_takes 106 = .ok (.isub, 1) := by decide +kernel
theorem dX9_takes_107 : decode cX9_takes 107 = .ok (.ishl, 1) := by decide +kernel
theorem dX9_takes_108 : decode cX9_takes 108 = .ok (.goto 4, 3) := by decide +kernel
theorem dX9_takes_111 : decode cX9_takes 111 = .ok (.iconst 0, 1) := by decide +kernel
theorem dX9_takes_112 : decode cX9_takes 112 = .ok (.ior, 1) := by decide +kernel
theorem dX9_takes_113 : decode cX9_takes 113 = .ok (.putfield 55, 3) := by decide +kernel
theorem dX9_takes_116 : decode cX9_takes 116 = .ok (.iload_n 2, 1) := by decide +kernel
theorem dX9_takes_117 : decode cX9_takes 117 = .ok (.ireturn, 1) := by decide +kernel
set_option maxRecDepth 20000 in
theorem ggX9_goAlong_X9_takes : GoodIn wsX9_goAlong wsX9_takes := goodIn_r _ [9, 2, 1, 10, 11, 12, 8, 13, 14, 15, 16, 17, 18, 19, 20, 21, 22, 23, 24, 25, 26, 27, 28, 29, 30, 31, 32, 33, 34, 35, 36] (by decide +kernel) (by decide +kernel)
set_option maxRecDepth 20000 in
theorem gX9_goAlong_X9_takes : GoodIn wsX9_goAlong (wsV RX9 61 RX9 yX9_takes wsX9_takes) := goodIn_app (goodIn_of _ (by decide +kernel)) ggX9_goAlong_X9_takes
theorem dX9_goAlong_0 : decode cX9_goAlong 0 = .ok (.aload_n 0, 1) := by decide +kernel
theorem dX9_goAlong_1 : decode cX9_goAlong 1 = .ok (.iconst 0, 1) := by decide +kernel
theorem dX9_goAlong_2 : decode cX9_goAlong 2 = .ok (.putfield 58, 3) := by decide +kernel
theorem dX9_goAlong_5 : decode cX9_goAlong 5 = .ok (.aload_n 0, 1) := by decide +kernel
theorem dX9_goAlong_6 : decode cX9_goAlong 6 = .ok (.iconst 0, 1) := by decide +kernel
theorem dX9_goAlong_7 : decode cX9_goAlong 7 = .ok (.putfield 55, 3) := by decide +kernel
theorem dX9_goAlong_10 : decode cX9_goAlong 10 = .ok (.iconst 0, 1) := by decide +kernel
theorem dX9_goAlong_11 : decode cX9_goAlong 11 = .ok (.istore_n 1, 1) := by decide +kernel
theorem dX9_goAlong_12 : decode cX9_goAlong 12 = .ok (.iload_n 1, 1) := by decide +kernel
theorem dX9_goAlong_13 : decode cX9_goAlong 13 = .ok (.aload_n 0, 1) := by decide +kernel
theorem dX9_goAlong_14 : decode cX9_goAlong 14 = .ok (.getfield 52, 3) := by decide +kernel
theorem dX9_goAlong_17 : decode cX9_goAlong 17 = .ok (.if_icmp .ge 22, 3) := by decide +kernel
theorem dX9_goAlong_20 : decode cX9_goAlong 20 = .ok (.aload_n 0, 1) := by decide +kernel
theorem dX9_goAlong_21 : decode cX9_goAlong 21 = .ok (.aload_n 0, 1) := by decide +kernel
theorem dX9_goAlong_22 : decode cX9_goAlong 22 = .ok (.getfield 7, 3) := by decide +kernel
theorem dX9_goAlong_25 : decode cX9_goAlong 25 = .ok (.iload_n 1, 1) := by decide +kernel
theorem dX9_goAlong_26 : decode cX9_goAlong 26 = .ok (.iaload, 1) := by decide +kernel
theorem dX9_goAlong_27 : decode cX9_goAlong 27 = .ok (.invokevirtual 61, 3) := by decide +kernel
theorem dX9_goAlong_30 : decode cX9_goAlong 30 = .ok (.ifCond .eq 9, 3) := by decide +kernel
theorem dX9_goAlong_33 : decode cX9_goAlong 33 = .ok (.iinc 1 1, 3) := by decide +kernel
theorem dX9_goAlong_36 : decode cX9_goAlong 36 = .ok (.goto (-24), 3) := by decide +kernel
theorem dX9_goAlong_39 : decode cX9_goAlong 39 = .ok (.iload_n 1, 1) := by decide +kernel
theorem dX9_goAlong_40 : decode cX9_goAlong 40 = .ok (.ireturn, 1) := by decide +kernel
set_option maxRecDepth 20000 in
theorem ggX9_fault_X9_goAlong : GoodIn wsX9_fault wsX9_goAlong := goodIn_r _ [5, 6, 7, 8, 9, 10, 11, 12, 4, 13, 14, 15, 16, 17, 18, 19, 20, 21, 22, 23, 24, 25, 26, 27, 28, 29, 30, 31, 32, 33, 34, 35, 36, 37, 38, 39, 40] (by decide +kernel) (by decide +kernel)
set_option maxRecDepth 20000 in
theorem gX9_fault_X9_goAlong : GoodIn wsX9_fault (wsV RX9 65 RX9 yX9_goAlong wsX9_goAlong) := goodIn_app (goodIn_of _ (by decide +kernel)) ggX9_fault_X9_goAlong
theorem dX9_fault_0 : decode cX9_fault 0 = .ok (.aload_n 0, 1) := by decide +kernel
theorem dX9_fault_1 : decode cX9_fault 1 = .ok (.invokevirtual 65, 3) := by decide +kernel
theorem dX9_fault_4 : decode cX9_fault 4 = .ok (.ireturn, 1) := by decide +kernel
set_option maxRecDepth 20000 in
theorem ggX9_jobs_X9_goAlong : GoodIn wsX9_jobs wsX9_goAlong := goodIn_r _ [16, 4, 2, 1, 17, 18, 19, 20, 15, 21, 3, 22, 23, 24, 25, 26, 27, 28, 29, 30, 31, 32, 33, 34, 35, 36, 37, 38, 39, 40, 41, 42, 43, 44, 45, 46, 47] (by decide +kernel) (by decide +kernel)
set_option maxRecDepth 20000 in
theorem gX9_jobs_X9_goAlong : GoodIn wsX9_jobs (wsV RX9 65 RX9 yX9_goAlong wsX9_goAlong) := goodIn_app (goodIn_of _ (by decide +kernel)) ggX9_jobs_X9_goAlong
theorem dX9_jobs_0 : decode cX9_jobs 0 = .ok (.aload_n 0, 1) := by decide +kernel
theorem dX9_jobs_1 : decode cX9_jobs 1 = .ok (.invokevirtual 65, 3) := by decide +kernel
theorem dX9_jobs_4 : decode cX9_jobs 4 = .ok (.aload_n 0, 1) := by decide +kernel
theorem dX9_jobs_5 : decode cX9_jobs 5 = .ok (.getfield 52, 3) := by decide +kernel
theorem dX9_jobs_8 : decode cX9_jobs 8 = .ok (.if_icmp .lt 10, 3) := by decide +kernel
theorem dX9_jobs_11 : decode cX9_jobs 11 = .ok (.aload_n 0, 1) := by decide +kernel
theorem dX9_jobs_12 : decode cX9_jobs 12 = .ok (.getfield 55, 3) := by decide +kernel
theorem dX9_jobs_15 : decode cX9_jobs 15 = .ok (.ifCond .ne 7, 3) := by decide +kernel
theorem dX9_jobs_18 : decode cX9_jobs 18 = .ok (.sipush (-1003), 3) := by decide +kernel
theorem dX9_jobs_21 : decode cX9_jobs 21 = .ok (.ireturn, 1) := by decide +kernel
theorem dX9_jobs_22 : decode cX9_jobs 22 = .ok (.aload_n 0, 1) := by decide +kernel
theorem dX9_jobs_23 : decode cX9_jobs 23 = .ok (.getfield 26, 3) := by decide +kernel
theorem dX9_jobs_26 : decode cX9_jobs 26 = .ok (.aload_n 0, 1) := by decide +kernel
theorem dX9_jobs_27 : decode cX9_jobs 27 = .ok (.getfield 58, 3) := by decide +kernel
theorem dX9_jobs_30 : decode cX9_jobs 30 = .ok (.aload_n 0, 1) := by decide +kernel
theorem dX9_jobs_31 : decode cX9_jobs 31 = .ok (.getfield 55, 3) := by decide +kernel
theorem dX9_jobs_34 : decode cX9_jobs 34 = .ok (.iastore, 1) := by decide +kernel
theorem dX9_jobs_35 : decode cX9_jobs 35 = .ok (.aload_n 0, 1) := by decide +kernel
theorem dX9_jobs_36 : decode cX9_jobs 36 = .ok (.aload_n 0, 1) := by decide +kernel
theorem dX9_jobs_37 : decode cX9_jobs 37 = .ok (.getfield 58, 3) := by decide +kernel
theorem dX9_jobs_40 : decode cX9_jobs 40 = .ok (.iconst 1, 1) := by decide +kernel
theorem dX9_jobs_41 : decode cX9_jobs 41 = .ok (.iadd, 1) := by decide +kernel
theorem dX9_jobs_42 : decode cX9_jobs 42 = .ok (.putfield 69, 3) := by decide +kernel
theorem dX9_jobs_45 : decode cX9_jobs 45 = .ok (.iconst 0, 1) := by decide +kernel
theorem dX9_jobs_46 : decode cX9_jobs 46 = .ok (.istore_n 1, 1) := by decide +kernel
theorem dX9_jobs_47 : decode cX9_jobs 47 = .ok (.iload_n 1, 1) := by decide +kernel
theorem dX9_jobs_48 : decode cX9_jobs 48 = .ok (.bipush 8, 2) := by decide +kernel
theorem dX9_jobs_50 : decode cX9_jobs 50 = .ok (.if_icmp .ge 35, 3) := by decide +kernel
theorem dX9_jobs_53 : decode cX9_jobs 53 = .ok (.aload_n 0, 1) := by decide +kernel
theorem dX9_jobs_54 : decode cX9_jobs 54 = .ok (.getfield 13, 3) := by decide +kernel
theorem dX9_jobs_57 : decode cX9_jobs 57 = .ok (.iload_n 1, 1) := by decide +kernel
theorem dX9_jobs_58 : decode cX9_jobs 58 = .ok (.aload_n 0, 1) := by decide +kernel
theorem dX9_jobs_59 : decode cX9_jobs 59 = .ok (.getfield 26, 3) := by decide +kernel
theorem dX9_jobs_62 : decode cX9_jobs 62 = .ok (.iload_n 1, 1) := by decide +kernel
theorem dX9_jobs_63 : decode cX9_jobs 63 = .ok (.iaload, 1) := by decide +kernel
theorem dX9_jobs_64 : decode cX9_jobs 64 = .ok (.iastore, 1) := by decide +kernel
theorem dX9_jobs_65 : decode cX9_jobs 65 = .ok (.aload_n 0, 1) := by decide +kernel
theorem dX9_jobs_66 : decode cX9_jobs 66 = .ok (.getfield 16, 3) := by decide +kernel
theorem dX9_jobs_69 : decode cX9_jobs 69 = .ok (.iload_n 1, 1) := by decide +kernel
theorem dX9_jobs_70 : decode cX9_jobs 70 = .ok (.iload_n 1, 1) := by decide +kernel
theorem dX9_jobs_71 : decode cX9_jobs 71 = .ok (.iastore, 1) := by decide +kernel
theorem dX9_jobs_72 : decode cX9_jobs 72 = .ok (.aload_n 0, 1) := by decide +kernel
theorem dX9_jobs_73 : decode cX9_jobs 73 = .ok (.getfield 19, 3) := by decide +kernel
theorem dX9_jobs_76 : decode cX9_jobs 76 = .ok (.iload_n 1, 1) := by decide +kernel
theorem dX9_jobs_77 : decode cX9_jobs 77 = .ok (.iconst 0, 1) := by decide +kernel
theorem dX9_jobs_78 : decode cX9_jobs 78 = .ok (.iastore, 1) := by decide +kernel
theorem dX9_jobs_79 : decode cX9_jobs 79 = .ok (.iinc 1 1, 3) := by decide +kernel
theorem dX9_jobs_82 : decode cX9_jobs 82 = .ok (.goto (-35), 3) := by decide +kernel
theorem dX9_jobs_85 : decode cX9_jobs 85 = .ok (.aload_n 0, 1) := by decide +kernel
theorem dX9_jobs_86 : decode cX9_jobs 86 = .ok (.iconst 0, 1) := by decide +kernel
theorem dX9_jobs_87 : decode cX9_jobs 87 = .ok (.putfield 72, 3) := by decide +kernel
theorem dX9_jobs_90 : decode cX9_jobs 90 = .ok (.aload_n 0, 1) := by decide +kernel
theorem dX9_jobs_91 : decode cX9_jobs 91 = .ok (.iconst 0, 1) := by decide +kernel
theorem dX9_jobs_92 : decode cX9_jobs 92 = .ok (.putfield 75, 3) := by decide +kernel
theorem dX9_jobs_95 : decode cX9_jobs 95 = .ok (.aload_n 0, 1) := by decide +kernel
theorem dX9_jobs_96 : decode cX9_jobs 96 = .ok (.dup, 1) := by decide +kernel
theorem dX9_jobs_97 : decode cX9_jobs 97 = .ok (.getfield 79, 3) := by decide +kernel
theorem dX9_jobs_100 : decode cX9_jobs 100 = .ok (.iconst 1, 1) := by decide +kernel
theorem dX9_jobs_101 : decode cX9_jobs 101 = .ok (.iadd, 1) := by decide +kernel
theorem dX9_jobs_102 : decode cX9_jobs 102 = .ok (.putfield 79, 3) := by decide +kernel
theorem dX9_jobs_105 : decode cX9_jobs 105 = .ok (.aload_n 0, 1) := by decide +kernel
theorem dX9_jobs_106 : decode cX9_jobs 106 = .ok (.iconst 0, 1) := by decide +kernel
theorem dX9_jobs_107 : decode cX9_jobs 107 = .ok (.putfield 52, 3) := by decide +kernel
theorem dX9_jobs_110 : decode cX9_jobs 110 = .ok (.aload_n 0, 1) := by decide +kernel
theorem dX9_jobs_111 : decode cX9_jobs 111 = .ok (.getfield 69, 3) := by decide +kernel
theorem dX9_jobs_114 : decode cX9_jobs 114 = .ok (.ireturn, 1) := by decide +kernel
set_option maxRecDepth 20000 in
theorem ggX9_isTool_X9_within : GoodIn wsX9_isTool wsX9_within := goodIn_r _ [4] (by decide +kernel) (by decide +kernel)
set_option maxRecDepth 20000 in
theorem gX9_isTool_X9_within : GoodIn wsX9_isTool (va_wsS RX9 48 yX9_within wsX9_within) := goodIn_app (goodIn_of _ (by decide +kernel)) ggX9_isTool_X9_within
theorem dX9_isTool_0 : decode cX9_isTool 0 = .ok (.iload_n 0, 1) := by decide +kernel
theorem dX9_isTool_1 : decode cX9_isTool 1 = .ok (.iconst 0, 1) := by decide +kernel
theorem dX9_isTool_2 : decode cX9_isTool 2 = .ok (.bipush 7, 2) := by decide +kernel
theorem dX9_isTool_4 : decode cX9_isTool 4 = .ok (.invokestatic 48, 3) := by decide +kernel
theorem dX9_isTool_7 : decode cX9_isTool 7 = .ok (.ireturn, 1) := by decide +kernel
set_option maxRecDepth 20000 in
theorem ggX9_isPlace_X9_within : GoodIn wsX9_isPlace wsX9_within := goodIn_r _ [5] (by decide +kernel) (by decide +kernel)
set_option maxRecDepth 20000 in
theorem gX9_isPlace_X9_within : GoodIn wsX9_isPlace (va_wsS RX9 48 yX9_within wsX9_within) := goodIn_app (goodIn_of _ (by decide +kernel)) ggX9_isPlace_X9_within
theorem dX9_isPlace_0 : decode cX9_isPlace 0 = .ok (.iload_n 1, 1) := by decide +kernel
theorem dX9_isPlace_1 : decode cX9_isPlace 1 = .ok (.iconst 0, 1) := by decide +kernel
theorem dX9_isPlace_2 : decode cX9_isPlace 2 = .ok (.aload_n 0, 1) := by decide +kernel
theorem dX9_isPlace_3 : decode cX9_isPlace 3 = .ok (.getfield 69, 3) := by decide +kernel
theorem dX9_isPlace_6 : decode cX9_isPlace 6 = .ok (.iconst 1, 1) := by decide +kernel
theorem dX9_isPlace_7 : decode cX9_isPlace 7 = .ok (.isub, 1) := by decide +kernel
theorem dX9_isPlace_8 : decode cX9_isPlace 8 = .ok (.invokestatic 48, 3) := by decide +kernel
theorem dX9_isPlace_11 : decode cX9_isPlace 11 = .ok (.ireturn, 1) := by decide +kernel
set_option maxRecDepth 20000 in
theorem ggX9_big_X9_isTool : GoodIn wsX9_big wsX9_isTool := goodIn_r _ [6, 7, 8, 5, 9] (by decide +kernel) (by decide +kernel)
set_option maxRecDepth 20000 in
theorem gX9_big_X9_isTool : GoodIn wsX9_big (va_wsS RX9 82 yX9_isTool wsX9_isTool) := goodIn_app (goodIn_of _ (by decide +kernel)) ggX9_big_X9_isTool
theorem dX9_big_0 : decode cX9_big 0 = .ok (.iload_n 1, 1) := by decide +kernel
theorem dX9_big_1 : decode cX9_big 1 = .ok (.invokestatic 82, 3) := by decide +kernel
theorem dX9_big_4 : decode cX9_big 4 = .ok (.ifCond .ne 7, 3) := by decide +kernel
theorem dX9_big_7 : decode cX9_big 7 = .ok (.sipush (-1001), 3) := by decide +kernel
theorem dX9_big_10 : decode cX9_big 10 = .ok (.ireturn, 1) := by decide +kernel
theorem dX9_big_11 : decode cX9_big 11 = .ok (.aload_n 0, 1) := by decide +kernel
theorem dX9_big_12 : decode cX9_big 12 = .ok (.getfield 45, 3) := by decide +kernel
theorem dX9_big_15 : decode cX9_big 15 = .ok (.iload_n 1, 1) := by decide +kernel
theorem dX9_big_16 : decode cX9_big 16 = .ok (.ishr, 1) := by decide +kernel
theorem dX9_big_17 : decode cX9_big 17 = .ok (.iconst 1, 1) := by decide +kernel
theorem dX9_big_18 : decode cX9_big 18 = .ok (.iand, 1) := by decide +kernel
theorem dX9_big_19 : decode cX9_big 19 = .ok (.istore_n 3, 1) := by decide +kernel
theorem dX9_big_20 : decode cX9_big 20 = .ok (.aload_n 0, 1) := by decide +kernel
theorem dX9_big_21 : decode cX9_big 21 = .ok (.iload_n 2, 1) := by decide +kernel
theorem dX9_big_22 : decode cX9_big 22 = .ok (.ifCond .eq 14, 3) := by decide +kernel
theorem dX9_big_25 : decode cX9_big 25 = .ok (.aload_n 0, 1) := by decide +kernel
theorem dX9_big_26 : decode cX9_big 26 = .ok (.getfield 45, 3) := by decide +kernel
theorem dX9_big_29 : decode cX9_big 29 = .ok (.iconst 1, 1) := by decide +kernel
theorem dX9_big_30 : decode cX9_big 30 = .ok (.iload_n 1, 1) := by decide +kernel
theorem dX9_big_31 : decode cX9_big 31 = .ok (.ishl, 1) := by decide +kernel
theorem dX9_big_32 : decode cX9_big 32 = .ok (.ior, 1) := by decide +kernel
theorem dX9_big_33 : decode cX9_big 33 = .ok (.goto 13, 3) := by decide +kernel
theorem dX9_big_36 : decode cX9_big 36 = .ok (.aload_n 0, 1) := by decide +kernel
theorem dX9_big_37 : decode cX9_big 37 = .ok (.getfield 45, 3) := by decide +kernel
theorem dX9_big_40 : decode cX9_big 40 = .ok (.iconst 1, 1) := by decide +kernel
theorem dX9_big_41 : decode cX9_big 41 = .ok (.iload_n 1, 1) := by decide +kernel
theorem dX9_big_42 : decode cX9_big 42 = .ok (.ishl, 1) := by decide +kernel
theorem dX9_big_43 : decode cX9_big 43 = .ok (.iconst (-1), 1) := by decide +kernel
theorem dX9_big_44 : decode cX9_big 44 = .ok (.ixor, 1) := by decide +kernel
theorem dX9_big_45 : decode cX9_big 45 = .ok (.iand, 1) := by decide +kernel
theorem dX9_big_46 : decode cX9_big 46 = .ok (.putfield 45, 3) := by decide +kernel
theorem dX9_big_49 : decode cX9_big 49 = .ok (.aload_n 0, 1) := by decide +kernel
theorem dX9_big_50 : decode cX9_big 50 = .ok (.iconst 0, 1) := by decide +kernel
theorem dX9_big_51 : decode cX9_big 51 = .ok (.putfield 75, 3) := by decide +kernel
theorem dX9_big_54 : decode cX9_big 54 = .ok (.iload_n 3, 1) := by decide +kernel
theorem dX9_big_55 : decode cX9_big 55 = .ok (.ireturn, 1) := by decide +kernel
set_option maxRecDepth 20000 in
theorem ggX9_pockets_X9_within : GoodIn wsX9_pockets wsX9_within := goodIn_r _ [6] (by decide +kernel) (by decide +kernel)
set_option maxRecDepth 20000 in
theorem gX9_pockets_X9_within : GoodIn wsX9_pockets (va_wsS RX9 48 yX9_within wsX9_within) := goodIn_app (goodIn_of _ (by decide +kernel)) ggX9_pockets_X9_within
theorem dX9_pockets_0 : decode cX9_pockets 0 = .ok (.iload_n 1, 1) := by decide +kernel
theorem dX9_pockets_1 : decode cX9_pockets 1 = .ok (.iconst 2, 1) := by decide +kernel
theorem dX9_pockets_2 : decode cX9_pockets 2 = .ok (.bipush 12, 2) := by decide +kernel
theorem dX9_pockets_4 : decode cX9_pockets 4 = .ok (.invokestatic 48, 3) := by decide +kernel
theorem dX9_pockets_7 : decode cX9_pockets 7 = .ok (.ifCond .ne 7, 3) := by decide +kernel
theorem dX9_pockets_10 : decode cX9_pockets 10 = .ok (.sipush (-1002), 3) := by decide +kernel
theorem dX9_pockets_13 : decode cX9_pockets 13 = .ok (.ireturn, 1) := by decide +kernel
theorem dX9_pockets_14 : decode cX9_pockets 14 = .ok (.aload_n 0, 1) := by decide +kernel
theorem dX9_pockets_15 : decode cX9_pockets 15 = .ok (.getfield 22, 3) := by decide +kernel
theorem dX9_pockets_18 : decode cX9_pockets 18 = .ok (.istore_n 2, 1) := by decide +kernel
theorem dX9_pockets_19 : decode cX9_pockets 19 = .ok (.aload_n 0, 1) := by decide +kernel
theorem dX9_pockets_20 : decode cX9_pockets 20 = .ok (.iload_n 1, 1) := by decide +kernel
theorem dX9_pockets_21 : decode cX9_pockets 21 = .ok (.putfield 22, 3) := by decide +kernel
theorem dX9_pockets_24 : decode cX9_pockets 24 = .ok (.aload_n 0, 1) := by decide +kernel
theorem dX9_pockets_25 : decode cX9_pockets 25 = .ok (.iconst 0, 1) := by decide +kernel
theorem dX9_pockets_26 : decode cX9_pockets 26 = .ok (.putfield 75, 3) := by decide +kernel
theorem dX9_pockets_29 : decode cX9_pockets 29 = .ok (.iload_n 2, 1) := by decide +kernel
theorem dX9_pockets_30 : decode cX9_pockets 30 = .ok (.ireturn, 1) := by decide +kernel
set_option maxRecDepth 20000 in
theorem ggX9_breaks_X9_isPlace : GoodIn wsX9_breaks wsX9_isPlace := goodIn_r _ [7, 8, 9, 10, 6, 11, 15, 16, 17, 18, 19, 20, 21, 22, 23, 24, 25, 26, 27, 28, 29, 30, 31, 32, 33, 34, 35, 36, 37] (by decide +kernel) (by decide +kernel)
set_option maxRecDepth 20000 in
theorem gX9_breaks_X9_isPlace : GoodIn wsX9_breaks (wsV RX9 85 RX9 yX9_isPlace wsX9_isPlace) := goodIn_app (goodIn_of _ (by decide +kernel)) ggX9_breaks_X9_isPlace
set_option maxRecDepth 20000 in
theorem ggX9_breaks_X9_isTool : GoodIn wsX9_breaks wsX9_isTool := goodIn_r _ [14, 9, 10, 6, 11] (by decide +kernel) (by decide +kernel)
set_option maxRecDepth 20000 in
theorem gX9_breaks_X9_isTool : GoodIn wsX9_breaks (va_wsS RX9 82 yX9_isTool wsX9_isTool) := goodIn_app (goodIn_of _ (by decide +kernel)) ggX9_breaks_X9_isTool
theorem dX9_breaks_0 : decode cX9_breaks 0 = .ok (.aload_n 0, 1) := by decide +kernel
theorem dX9_breaks_1 : decode cX9_breaks 1 = .ok (.iload_n 1, 1) := by decide +kernel
theorem dX9_breaks_2 : decode cX9_breaks 2 = .ok (.invokevirtual 85, 3) := by decide +kernel
theorem dX9_breaks_5 : decode cX9_breaks 5 = .ok (.ifCond .eq 10, 3) := by decide +kernel
theorem dX9_breaks_8 : decode cX9_breaks 8 = .ok (.iload_n 2, 1) := by decide +kernel
theorem dX9_breaks_9 : decode cX9_breaks 9 = .ok (.invokestatic 82, 3) := by decide +kernel
theorem dX9_breaks_12 : decode cX9_breaks 12 = .ok (.ifCond .ne 7, 3) := by decide +kernel
theorem dX9_breaks_15 : decode cX9_breaks 15 = .ok (.sipush (-1001), 3) := by decide +kernel
theorem dX9_breaks_18 : decode cX9_breaks 18 = .ok (.ireturn, 1) := by decide +kernel
theorem dX9_breaks_19 : decode cX9_breaks 19 = .ok (.aload_n 0, 1) := by decide +kernel
theorem dX9_breaks_20 : decode cX9_breaks 20 = .ok (.getfield 19, 3) := by decide +kernel
theorem dX9_breaks_23 : decode cX9_breaks 23 = .ok (.iload_n 1, 1) := by decide +kernel
theorem dX9_breaks_24 : decode cX9_breaks 24 = .ok (.iaload, 1) := by decide +kernel
theorem dX9_breaks_25 : decode cX9_breaks 25 = .ok (.iload_n 2, 1) := by decide +kernel
theorem dX9_breaks_26 : decode cX9_breaks 26 = .ok (.ishr, 1) := by decide +kernel
theorem dX9_breaks_27 : decode cX9_breaks 27 = .ok (.iconst 1, 1) := by decide +kernel
theorem dX9_breaks_28 : decode cX9_breaks 28 = .ok (.iand, 1) := by decide +kernel
theorem dX9_breaks_29 : decode cX9_breaks 29 = .ok (.istore 4, 2) := by decide +kernel
theorem dX9_breaks_31 : decode cX9_breaks 31 = .ok (.aload_n 0, 1) := by decide +kernel
theorem dX9_breaks_32 : decode cX9_breaks 32 = .ok (.getfield 19, 3) := by decide +kernel
theorem dX9_breaks_35 : decode cX9_breaks 35 = .ok (.iload_n 1, 1) := by decide +kernel
theorem dX9_breaks_36 : decode cX9_breaks 36 = .ok (.iload_n 3, 1) := by decide +kernel
theorem dX9_breaks_37 : decode cX9_breaks 37 = .ok (.ifCond .eq 16, 3) := by decide +kernel
theorem dX9_breaks_40 : decode cX9_breaks 40 = .ok (.aload_n 0, 1) := by decide +kernel
theorem dX9_breaks_41 : decode cX9_breaks 41 = .ok (.getfield 19, 3) := by decide +kernel
theorem dX9_breaks_44 : decode cX9_breaks 44 = .ok (.iload_n 1, 1) := by decide +kernel
theorem dX9_breaks_45 : decode cX9_breaks 45 = .ok (.iaload, 1) := by decide +kernel
theorem dX9_breaks_46 : decode cX9_breaks 46 = .ok (.iconst 1, 1) := by decide +kernel
theorem dX9_breaks_47 : decode cX9_breaks 47 = .ok (.iload_n 2, 1) := by decide +kernel
theorem dX9_breaks_48 : decode cX9_breaks 48 = .ok (.ishl, 1) := by decide +kernel
theorem dX9_breaks_49 : decode cX9_breaks 49 = .ok (.ior, 1) := by decide +kernel
theorem dX9_breaks_50 : decode cX9_breaks 50 = .ok (.goto 15, 3) := by decide +kernel
theorem dX9_breaks_53 : decode cX9_breaks 53 = .ok (.aload_n 0, 1) := by decide +kernel
theorem dX9_breaks_54 : decode cX9_breaks 54 = .ok (.getfield 19, 3) := by decide +kernel
theorem dX9_breaks_57 : decode cX9_breaks 57 = .ok (.iload_n 1, 1) := by decide +kernel
theorem dX9_breaks_58 : decode cX9_breaks 58 = .ok (.iaload, 1) := by decide +kernel
theorem dX9_breaks_59 : decode cX9_breaks 59 = .ok (.iconst 1, 1) := by decide +kernel
theorem dX9_breaks_60 : decode cX9_breaks 60 = .ok (.iload_n 2, 1) := by decide +kernel
theorem dX9_breaks_61 : decode cX9_breaks 61 = .ok (.ishl, 1) := by decide +kernel
theorem dX9_breaks_62 : decode cX9_breaks 62 = .ok (.iconst (-1), 1) := by decide +kernel
theorem dX9_breaks_63 : decode cX9_breaks 63 = .ok (.ixor, 1) := by decide +kernel
theorem dX9_breaks_64 : decode cX9_breaks 64 = .ok (.iand, 1) := by decide +kernel
theorem dX9_breaks_65 : decode cX9_breaks 65 = .ok (.iastore, 1) := by decide +kernel
theorem dX9_breaks_66 : decode cX9_breaks 66 = .ok (.aload_n 0, 1) := by decide +kernel
theorem dX9_breaks_67 : decode cX9_breaks 67 = .ok (.iconst 0, 1) := by decide +kernel
theorem dX9_breaks_68 : decode cX9_breaks 68 = .ok (.putfield 75, 3) := by decide +kernel
theorem dX9_breaks_71 : decode cX9_breaks 71 = .ok (.iload 4, 2) := by decide +kernel
theorem dX9_breaks_73 : decode cX9_breaks 73 = .ok (.ireturn, 1) := by decide +kernel
theorem dX9_change_0 : decode cX9_change 0 = .ok (.aload_n 0, 1) := by decide +kernel
theorem dX9_change_1 : decode cX9_change 1 = .ok (.getfield 16, 3) := by decide +kernel
theorem dX9_change_4 : decode cX9_change 4 = .ok (.iload_n 1, 1) := by decide +kernel
theorem dX9_change_5 : decode cX9_change 5 = .ok (.iaload, 1) := by decide +kernel
theorem dX9_change_6 : decode cX9_change 6 = .ok (.istore_n 3, 1) := by decide +kernel
theorem dX9_change_7 : decode cX9_change 7 = .ok (.aload_n 0, 1) := by decide +kernel
theorem dX9_change_8 : decode cX9_change 8 = .ok (.getfield 16, 3) := by decide +kernel
theorem dX9_change_11 : decode cX9_change 11 = .ok (.iload_n 1, 1) := by decide +kernel
theorem dX9_change_12 : decode cX9_change 12 = .ok (.aload_n 0, 1) := by decide +kernel
theorem dX9_change_13 : decode cX9_change 13 = .ok (.getfield 16, 3) := by decide +kernel
theorem dX9_change_16 : decode cX9_change 16 = .ok (.iload_n 2, 1) := by decide +kernel
theorem dX9_change_17 : decode cX9_change 17 = .ok (.iaload, 1) := by decide +kernel
theorem dX9_change_18 : decode cX9_change 18 = .ok (.iastore, 1) := by decide +kernel
theorem dX9_change_19 : decode cX9_change 19 = .ok (.aload_n 0, 1) := by decide +kernel
theorem dX9_change_20 : decode cX9_change 20 = .ok (.getfield 16, 3) := by decide +kernel
theorem dX9_change_23 : decode cX9_change 23 = .ok (.iload_n 2, 1) := by decide +kernel
theorem dX9_change_24 : decode cX9_change 24 = .ok (.iload_n 3, 1) := by decide +kernel
theorem dX9_change_25 : decode cX9_change 25 = .ok (.iastore, 1) := by decide +kernel
theorem dX9_change_26 : decode cX9_change 26 = .ok (.return_, 1) := by decide +kernel
set_option maxRecDepth 20000 in
theorem ggX9_swap_X9_isPlace : GoodIn wsX9_swap wsX9_isPlace := goodIn_r _ [7, 8, 9, 10, 6, 11, 17, 18, 19, 20, 21, 22, 23, 24, 25, 26, 27, 28, 29, 30, 31, 32, 33, 34, 35, 36, 37, 38, 39] (by decide +kernel) (by decide +kernel)
set_option maxRecDepth 20000 in
theorem gX9_swap_X9_isPlace : GoodIn wsX9_swap (wsV RX9 85 RX9 yX9_isPlace wsX9_isPlace) := goodIn_app (goodIn_of _ (by decide +kernel)) ggX9_swap_X9_isPlace
set_option maxRecDepth 20000 in
theorem ggX9_swap_X9_change : GoodIn wsX9_swap wsX9_change := goodIn_r _ [15, 16, 17, 18, 19, 20, 21, 22, 23, 24, 25, 26, 27, 28, 29, 30, 31, 32, 33, 34, 35, 36, 37, 38, 39] (by decide +kernel) (by decide +kernel)
set_option maxRecDepth 20000 in
theorem gX9_swap_X9_change : GoodIn wsX9_swap (wsV RX9 88 RX9 yX9_change wsX9_change) := goodIn_app (goodIn_of _ (by decide +kernel)) ggX9_swap_X9_change
theorem dX9_swap_0 : decode cX9_swap 0 = .ok (.aload_n 0, 1) := by decide +kernel
theorem dX9_swap_1 : decode cX9_swap 1 = .ok (.iload_n 1, 1) := by decide +kernel
theorem dX9_swap_2 : decode cX9_swap 2 = .ok (.invokevirtual 85, 3) := by decide +kernel
theorem dX9_swap_5 : decode cX9_swap 5 = .ok (.ifCond .eq 11, 3) := by decide +kernel
theorem dX9_swap_8 : decode cX9_swap 8 = .ok (.aload_n 0, 1) := by decide +kernel
theorem dX9_swap_9 : decode cX9_swap 9 = .ok (.iload_n 2, 1) := by decide +kernel
theorem dX9_swap_10 : decode cX9_swap 10 = .ok (.invokevirtual 85, 3) := by decide +kernel
theorem dX9_swap_13 : decode cX9_swap 13 = .ok (.ifCond .ne 7, 3) := by decide +kernel
theorem dX9_swap_16 : decode cX9_swap 16 = .ok (.sipush (-1001), 3) := by decide +kernel
theorem dX9_swap_19 : decode cX9_swap 19 = .ok (.ireturn, 1) := by decide +kernel
theorem dX9_swap_20 : decode cX9_swap 20 = .ok (.aload_n 0, 1) := by decide +kernel
theorem dX9_swap_21 : decode cX9_swap 21 = .ok (.iload_n 1, 1) := by decide +kernel
theorem dX9_swap_22 : decode cX9_swap 22 = .ok (.iload_n 2, 1) := by decide +kernel
theorem dX9_swap_23 : decode cX9_swap 23 = .ok (.invokevirtual 88, 3) := by decide +kernel
theorem dX9_swap_26 : decode cX9_swap 26 = .ok (.aload_n 0, 1) := by decide +kernel
theorem dX9_swap_27 : decode cX9_swap 27 = .ok (.dup, 1) := by decide +kernel
theorem dX9_swap_28 : decode cX9_swap 28 = .ok (.getfield 72, 3) := by decide +kernel
theorem dX9_swap_31 : decode cX9_swap 31 = .ok (.iconst 1, 1) := by decide +kernel
theorem dX9_swap_32 : decode cX9_swap 32 = .ok (.iadd, 1) := by decide +kernel
theorem dX9_swap_33 : decode cX9_swap 33 = .ok (.putfield 72, 3) := by decide +kernel
theorem dX9_swap_36 : decode cX9_swap 36 = .ok (.aload_n 0, 1) := by decide +kernel
theorem dX9_swap_37 : decode cX9_swap 37 = .ok (.iconst 0, 1) := by decide +kernel
theorem dX9_swap_38 : decode cX9_swap 38 = .ok (.putfield 75, 3) := by decide +kernel
theorem dX9_swap_41 : decode cX9_swap 41 = .ok (.aload_n 0, 1) := by decide +kernel
theorem dX9_swap_42 : decode cX9_swap 42 = .ok (.getfield 72, 3) := by decide +kernel
theorem dX9_swap_45 : decode cX9_swap 45 = .ok (.ireturn, 1) := by decide +kernel
set_option maxRecDepth 20000 in
theorem ggX9_as_X9_isTool : GoodIn wsX9_as wsX9_isTool := goodIn_r _ [5, 6, 7, 4, 8] (by decide +kernel) (by decide +kernel)
set_option maxRecDepth 20000 in
theorem gX9_as_X9_isTool : GoodIn wsX9_as (va_wsS RX9 82 yX9_isTool wsX9_isTool) := goodIn_app (goodIn_of _ (by decide +kernel)) ggX9_as_X9_isTool
set_option maxRecDepth 20000 in
theorem ggX9_as_X9_within : GoodIn wsX9_as wsX9_within := goodIn_r _ [8] (by decide +kernel) (by decide +kernel)
set_option maxRecDepth 20000 in
theorem gX9_as_X9_within : GoodIn wsX9_as (va_wsS RX9 48 yX9_within wsX9_within) := goodIn_app (goodIn_of _ (by decide +kernel)) ggX9_as_X9_within
set_option maxRecDepth 20000 in
theorem ggX9_as_X9_has : GoodIn wsX9_as wsX9_has := goodIn_r _ [11] (by decide +kernel) (by decide +kernel)
set_option maxRecDepth 20000 in
theorem gX9_as_X9_has : GoodIn wsX9_as (va_wsS RX9 92 yX9_has wsX9_has) := goodIn_app (goodIn_of _ (by decide +kernel)) ggX9_as_X9_has
theorem dX9_as_0 : decode cX9_as 0 = .ok (.iload_n 1, 1) := by decide +kernel
theorem dX9_as_1 : decode cX9_as 1 = .ok (.invokestatic 82, 3) := by decide +kernel
theorem dX9_as_4 : decode cX9_as 4 = .ok (.ifCond .ne 7, 3) := by decide +kernel
theorem dX9_as_7 : decode cX9_as 7 = .ok (.sipush (-1001), 3) := by decide +kernel
theorem dX9_as_10 : decode cX9_as 10 = .ok (.ireturn, 1) := by decide +kernel
theorem dX9_as_11 : decode cX9_as 11 = .ok (.iload_n 2, 1) := by decide +kernel
theorem dX9_as_12 : decode cX9_as 12 = .ok (.iconst 0, 1) := by decide +kernel
theorem dX9_as_13 : decode cX9_as 13 = .ok (.iconst 2, 1) := by decide +kernel
theorem dX9_as_14 : decode cX9_as 14 = .ok (.invokestatic 48, 3) := by decide +kernel
theorem dX9_as_17 : decode cX9_as 17 = .ok (.ifCond .ne 7, 3) := by decide +kernel
theorem dX9_as_20 : decode cX9_as 20 = .ok (.sipush (-1002), 3) := by decide +kernel
theorem dX9_as_23 : decode cX9_as 23 = .ok (.ireturn, 1) := by decide +kernel
theorem dX9_as_24 : decode cX9_as 24 = .ok (.iload_n 2, 1) := by decide +kernel
theorem dX9_as_25 : decode cX9_as 25 = .ok (.ifCond .eq 24, 3) := by decide +kernel
theorem dX9_as_28 : decode cX9_as 28 = .ok (.aload_n 0, 1) := by decide +kernel
theorem dX9_as_29 : decode cX9_as 29 = .ok (.getfield 45, 3) := by decide +kernel
theorem dX9_as_32 : decode cX9_as 32 = .ok (.iload_n 1, 1) := by decide +kernel
theorem dX9_as_33 : decode cX9_as 33 = .ok (.invokestatic 92, 3) := by decide +kernel
theorem dX9_as_36 : decode cX9_as 36 = .ok (.iload_n 2, 1) := by decide +kernel
theorem dX9_as_37 : decode cX9_as 37 = .ok (.iconst 2, 1) := by decide +kernel
theorem dX9_as_38 : decode cX9_as 38 = .ok (.if_icmp .ne 7, 3) := by decide +kernel
theorem dX9_as_41 : decode cX9_as 41 = .ok (.iconst 1, 1) := by decide +kernel
theorem dX9_as_42 : decode cX9_as 42 = .ok (.goto 4, 3) := by decide +kernel
theorem dX9_as_45 : decode cX9_as 45 = .ok (.iconst 0, 1) := by decide +kernel
theorem dX9_as_46 : decode cX9_as 46 = .ok (.if_icmp .ne 7, 3) := by decide +kernel
theorem dX9_as_49 : decode cX9_as 49 = .ok (.iload_n 1, 1) := by decide +kernel
theorem dX9_as_50 : decode cX9_as 50 = .ok (.goto 4, 3) := by decide +kernel
theorem dX9_as_53 : decode cX9_as 53 = .ok (.iconst (-1), 1) := by decide +kernel
theorem dX9_as_54 : decode cX9_as 54 = .ok (.ireturn, 1) := by decide +kernel
theorem dX9_needs_0 : decode cX9_needs 0 = .ok (.aload_n 0, 1) := by decide +kernel
theorem dX9_needs_1 : decode cX9_needs 1 = .ok (.getfield 13, 3) := by decide +kernel
theorem dX9_needs_4 : decode cX9_needs 4 = .ok (.aload_n 0, 1) := by decide +kernel
theorem dX9_needs_5 : decode cX9_needs 5 = .ok (.getfield 16, 3) := by decide +kernel
theorem dX9_needs_8 : decode cX9_needs 8 = .ok (.iload_n 1, 1) := by decide +kernel
theorem dX9_needs_9 : decode cX9_needs 9 = .ok (.iaload, 1) := by decide +kernel
theorem dX9_needs_10 : decode cX9_needs 10 = .ok (.iaload, 1) := by decide +kernel
theorem dX9_needs_11 : decode cX9_needs 11 = .ok (.ireturn, 1) := by decide +kernel
set_option maxRecDepth 20000 in
theorem ggX9_jobNow_X9_needs : GoodIn wsX9_jobNow wsX9_needs := goodIn_r _ [7, 8, 1, 9, 10, 11, 12, 13, 14, 15, 16, 17, 18, 19, 20, 21, 22, 23, 24, 25, 26, 27, 28, 29, 30, 31] (by decide +kernel) (by decide +kernel)
set_option maxRecDepth 20000 in
theorem gX9_jobNow_X9_needs : GoodIn wsX9_jobNow (wsV RX9 96 RX9 yX9_needs wsX9_needs) := goodIn_app (goodIn_of _ (by decide +kernel)) ggX9_jobNow_X9_needs
theorem dX9_jobNow_0 : decode cX9_jobNow 0 = .ok (.iload_n 2, 1) := by decide +kernel
theorem dX9_jobNow_1 : decode cX9_jobNow 1 = .ok (.ifCond .ne 11, 3) := by decide +kernel
theorem dX9_jobNow_4 : decode cX9_jobNow 4 = .ok (.aload_n 0, 1) := by decide +kernel
theorem dX9_jobNow_5 : decode cX9_jobNow 5 = .ok (.iload_n 1, 1) := by decide +kernel
theorem dX9_jobNow_6 : decode cX9_jobNow 6 = .ok (.invokevirtual 96, 3) := by decide +kernel
theorem dX9_jobNow_9 : decode cX9_jobNow 9 = .ok (.goto 23, 3) := by decide +kernel
theorem dX9_jobNow_12 : decode cX9_jobNow 12 = .ok (.iload_n 2, 1) := by decide +kernel
theorem dX9_jobNow_13 : decode cX9_jobNow 13 = .ok (.iconst 1, 1) := by decide +kernel
theorem dX9_jobNow_14 : decode cX9_jobNow 14 = .ok (.if_icmp .ne 12, 3) := by decide +kernel
theorem dX9_jobNow_17 : decode cX9_jobNow 17 = .ok (.aload_n 0, 1) := by decide +kernel
theorem dX9_jobNow_18 : decode cX9_jobNow 18 = .ok (.getfield 16, 3) := by decide +kernel
theorem dX9_jobNow_21 : decode cX9_jobNow 21 = .ok (.iload_n 1, 1) := by decide +kernel
theorem dX9_jobNow_22 : decode cX9_jobNow 22 = .ok (.iaload, 1) := by decide +kernel
theorem dX9_jobNow_23 : decode cX9_jobNow 23 = .ok (.goto 9, 3) := by decide +kernel
theorem dX9_jobNow_26 : decode cX9_jobNow 26 = .ok (.aload_n 0, 1) := by decide +kernel
theorem dX9_jobNow_27 : decode cX9_jobNow 27 = .ok (.getfield 19, 3) := by decide +kernel
theorem dX9_jobNow_30 : decode cX9_jobNow 30 = .ok (.iload_n 1, 1) := by decide +kernel
theorem dX9_jobNow_31 : decode cX9_jobNow 31 = .ok (.iaload, 1) := by decide +kernel
theorem dX9_jobNow_32 : decode cX9_jobNow 32 = .ok (.ireturn, 1) := by decide +kernel
set_option maxRecDepth 20000 in
theorem ggX9_job_X9_isPlace : GoodIn wsX9_job wsX9_isPlace := goodIn_r _ [5, 6, 7, 8, 4, 9, 21, 22, 23, 24, 25, 26, 27, 28, 29, 30, 31, 32, 33, 34, 35, 36, 37, 38, 39, 40, 41, 42, 43] (by decide +kernel) (by decide +kernel)
set_option maxRecDepth 20000 in
theorem gX9_job_X9_isPlace : GoodIn wsX9_job (wsV RX9 85 RX9 yX9_isPlace wsX9_isPlace) := goodIn_app (goodIn_of _ (by decide +kernel)) ggX9_job_X9_isPlace
set_option maxRecDepth 20000 in
theorem ggX9_job_X9_within : GoodIn wsX9_job wsX9_within := goodIn_r _ [9] (by decide +kernel) (by decide +kernel)
set_option maxRecDepth 20000 in
theorem gX9_job_X9_within : GoodIn wsX9_job (va_wsS RX9 48 yX9_within wsX9_within) := goodIn_app (goodIn_of _ (by decide +kernel)) ggX9_job_X9_within
set_option maxRecDepth 20000 in
theorem ggX9_job_X9_jobNow : GoodIn wsX9_job wsX9_jobNow := goodIn_r _ [13, 14, 15, 16, 17, 18, 4, 19, 20, 21, 22, 23, 24, 25, 26, 27, 28, 29, 30, 31, 32, 33, 34, 35, 36, 37, 38, 39, 40, 41, 42, 43] (by decide +kernel) (by decide +kernel)
set_option maxRecDepth 20000 in
theorem gX9_job_X9_jobNow : GoodIn wsX9_job (wsV RX9 99 RX9 yX9_jobNow wsX9_jobNow) := goodIn_app (goodIn_of _ (by decide +kernel)) ggX9_job_X9_jobNow
theorem dX9_job_0 : decode cX9_job 0 = .ok (.aload_n 0, 1) := by decide +kernel
theorem dX9_job_1 : decode cX9_job 1 = .ok (.iload_n 1, 1) := by decide +kernel
theorem dX9_job_2 : decode cX9_job 2 = .ok (.invokevirtual 85, 3) := by decide +kernel
theorem dX9_job_5 : decode cX9_job 5 = .ok (.ifCond .ne 7, 3) := by decide +kernel
theorem dX9_job_8 : decode cX9_job 8 = .ok (.sipush (-1001), 3) := by decide +kernel
theorem dX9_job_11 : decode cX9_job 11 = .ok (.ireturn, 1) := by decide +kernel
theorem dX9_job_12 : decode cX9_job 12 = .ok (.iload_n 2, 1) := by decide +kernel
theorem dX9_job_13 : decode cX9_job 13 = .ok (.iconst 0, 1) := by decide +kernel
theorem dX9_job_14 : decode cX9_job 14 = .ok (.iconst 2, 1) := by decide +kernel
theorem dX9_job_15 : decode cX9_job 15 = .ok (.invokestatic 48, 3) := by decide +kernel
theorem dX9_job_18 : decode cX9_job 18 = .ok (.ifCond .eq 12, 3) := by decide +kernel
theorem dX9_job_21 : decode cX9_job 21 = .ok (.aload_n 0, 1) := by decide +kernel
theorem dX9_job_22 : decode cX9_job 22 = .ok (.iload_n 1, 1) := by decide +kernel
theorem dX9_job_23 : decode cX9_job 23 = .ok (.iload_n 2, 1) := by decide +kernel
theorem dX9_job_24 : decode cX9_job 24 = .ok (.invokevirtual 99, 3) := by decide +kernel
theorem dX9_job_27 : decode cX9_job 27 = .ok (.goto 6, 3) := by decide +kernel
theorem dX9_job_30 : decode cX9_job 30 = .ok (.sipush (-1002), 3) := by decide +kernel
theorem dX9_job_33 : decode cX9_job 33 = .ok (.ireturn, 1) := by decide +kernel
set_option maxRecDepth 20000 in
theorem ggX9_nextOf_X9_has : GoodIn wsX9_nextOf wsX9_has := goodIn_r _ [6] (by decide +kernel) (by decide +kernel)
set_option maxRecDepth 20000 in
theorem gX9_nextOf_X9_has : GoodIn wsX9_nextOf (va_wsS RX9 92 yX9_has wsX9_has) := goodIn_app (goodIn_of _ (by decide +kernel)) ggX9_nextOf_X9_has
set_option maxRecDepth 20000 in
theorem ggX9_nextOf_X9_needs : GoodIn wsX9_nextOf wsX9_needs := goodIn_r _ [10, 11, 12, 13, 14, 15, 16, 17, 18, 19, 20, 21, 22, 23, 24, 25, 26, 27, 28, 29, 30, 31, 32, 33, 34, 35] (by decide +kernel) (by decide +kernel)
set_option maxRecDepth 20000 in
theorem gX9_nextOf_X9_needs : GoodIn wsX9_nextOf (wsV RX9 96 RX9 yX9_needs wsX9_needs) := goodIn_app (goodIn_of _ (by decide +kernel)) ggX9_nextOf_X9_needs
theorem dX9_nextOf_0 : decode cX9_nextOf 0 = .ok (.iload_n 1, 1) := by decide +kernel
theorem dX9_nextOf_1 : decode cX9_nextOf 1 = .ok (.istore_n 3, 1) := by decide +kernel
theorem dX9_nextOf_2 : decode cX9_nextOf 2 = .ok (.iload_n 3, 1) := by decide +kernel
theorem dX9_nextOf_3 : decode cX9_nextOf 3 = .ok (.iconst 1, 1) := by decide +kernel
theorem dX9_nextOf_4 : decode cX9_nextOf 4 = .ok (.iadd, 1) := by decide +kernel
theorem dX9_nextOf_5 : decode cX9_nextOf 5 = .ok (.aload_n 0, 1) := by decide +kernel
theorem dX9_nextOf_6 : decode cX9_nextOf 6 = .ok (.getfield 69, 3) := by decide +kernel
theorem dX9_nextOf_9 : decode cX9_nextOf 9 = .ok (.if_icmp .ge 42, 3) := by decide +kernel
theorem dX9_nextOf_12 : decode cX9_nextOf 12 = .ok (.aload_n 0, 1) := by decide +kernel
theorem dX9_nextOf_13 : decode cX9_nextOf 13 = .ok (.getfield 19, 3) := by decide +kernel
theorem dX9_nextOf_16 : decode cX9_nextOf 16 = .ok (.iload_n 3, 1) := by decide +kernel
theorem dX9_nextOf_17 : decode cX9_nextOf 17 = .ok (.iaload, 1) := by decide +kernel
theorem dX9_nextOf_18 : decode cX9_nextOf 18 = .ok (.iload_n 2, 1) := by decide +kernel
theorem dX9_nextOf_19 : decode cX9_nextOf 19 = .ok (.invokestatic 92, 3) := by decide +kernel
theorem dX9_nextOf_22 : decode cX9_nextOf 22 = .ok (.ifCond .eq 5, 3) := by decide +kernel
theorem dX9_nextOf_25 : decode cX9_nextOf 25 = .ok (.iconst (-1), 1) := by decide +kernel
theorem dX9_nextOf_26 : decode cX9_nextOf 26 = .ok (.ireturn, 1) := by decide +kernel
theorem dX9_nextOf_27 : decode cX9_nextOf 27 = .ok (.aload_n 0, 1) := by decide +kernel
theorem dX9_nextOf_28 : decode cX9_nextOf 28 = .ok (.iload_n 3, 1) := by decide +kernel
theorem dX9_nextOf_29 : decode cX9_nextOf 29 = .ok (.iconst 1, 1) := by decide +kernel
theorem dX9_nextOf_30 : decode cX9_nextOf 30 = .ok (.iadd, 1) := by decide +kernel
theorem dX9_nextOf_31 : decode cX9_nextOf 31 = .ok (.invokevirtual 96, 3) := by decide +kernel
theorem dX9_nextOf_34 : decode cX9_nextOf 34 = .ok (.iload_n 2, 1) := by decide +kernel
theorem dX9_nextOf_35 : decode cX9_nextOf 35 = .ok (.invokestatic 92, 3) := by decide +kernel
theorem dX9_nextOf_38 : decode cX9_nextOf 38 = .ok (.ifCond .eq 7, 3) := by decide +kernel
theorem dX9_nextOf_41 : decode cX9_nextOf 41 = .ok (.iload_n 3, 1) := by decide +kernel
theorem dX9_nextOf_42 : decode cX9_nextOf 42 = .ok (.iconst 1, 1) := by decide +kernel
theorem dX9_nextOf_43 : decode cX9_nextOf 43 = .ok (.iadd, 1) := by decide +kernel
theorem dX9_nextOf_44 : decode cX9_nextOf 44 = .ok (.ireturn, 1) := by decide +kernel
theorem dX9_nextOf_45 : decode cX9_nextOf 45 = .ok (.iinc 3 1, 3) := by decide +kernel
theorem dX9_nextOf_48 : decode cX9_nextOf 48 = .ok (.goto (-46), 3) := by decide +kernel
theorem dX9_nextOf_51 : decode cX9_nextOf 51 = .ok (.iconst (-1), 1) := by decide +kernel
theorem dX9_nextOf_52 : decode cX9_nextOf 52 = .ok (.ireturn, 1) := by decide +kernel
set_option maxRecDepth 20000 in
theorem ggX9_next_X9_isPlace : GoodIn wsX9_next wsX9_isPlace := goodIn_r _ [5, 6, 7, 8, 4, 9, 27, 28, 29, 30, 31, 32, 33, 34, 35, 36, 37, 38, 39, 40, 41, 42, 43, 44, 45, 46, 47, 48, 49] (by decide +kernel) (by decide +kernel)
set_option maxRecDepth 20000 in
theorem gX9_next_X9_isPlace : GoodIn wsX9_next (wsV RX9 85 RX9 yX9_isPlace wsX9_isPlace) := goodIn_app (goodIn_of _ (by decide +kernel)) ggX9_next_X9_isPlace
set_option maxRecDepth 20000 in
theorem ggX9_next_X9_isTool : GoodIn wsX9_next wsX9_isTool := goodIn_r _ [12, 7, 8, 4, 9] (by decide +kernel) (by decide +kernel)
set_option maxRecDepth 20000 in
theorem gX9_next_X9_isTool : GoodIn wsX9_next (va_wsS RX9 82 yX9_isTool wsX9_isTool) := goodIn_app (goodIn_of _ (by decide +kernel)) ggX9_next_X9_isTool
set_option maxRecDepth 20000 in
theorem ggX9_next_X9_nextOf : GoodIn wsX9_next wsX9_nextOf := goodIn_r _ [16, 6, 17, 18, 19, 4, 20, 21, 22, 23, 24, 25, 26, 27, 28, 29, 30, 31, 32, 33, 34, 35, 36, 37, 38, 39, 40, 41, 42, 43, 44, 45, 46, 47, 48, 49] (by decide +kernel) (by decide +kernel)
set_option maxRecDepth 20000 in
theorem gX9_next_X9_nextOf : GoodIn wsX9_next (wsV RX9 103 RX9 yX9_nextOf wsX9_nextOf) := goodIn_app (goodIn_of _ (by decide +kernel)) ggX9_next_X9_nextOf
theorem dX9_next_0 : decode cX9_next 0 = .ok (.aload_n 0, 1) := by decide +kernel
theorem dX9_next_1 : decode cX9_next 1 = .ok (.iload_n 1, 1) := by decide +kernel
theorem dX9_next_2 : decode cX9_next 2 = .ok (.invokevirtual 85, 3) := by decide +kernel
theorem dX9_next_5 : decode cX9_next 5 = .ok (.ifCond .eq 19, 3) := by decide +kernel
theorem dX9_next_8 : decode cX9_next 8 = .ok (.iload_n 2, 1) := by decide +kernel
theorem dX9_next_9 : decode cX9_next 9 = .ok (.invokestatic 82, 3) := by decide +kernel
theorem dX9_next_12 : decode cX9_next 12 = .ok (.ifCond .eq 12, 3) := by decide +kernel
theorem dX9_next_15 : decode cX9_next 15 = .ok (.aload_n 0, 1) := by decide +kernel
theorem dX9_next_16 : decode cX9_next 16 = .ok (.iload_n 1, 1) := by decide +kernel
theorem dX9_next_17 : decode cX9_next 17 = .ok (.iload_n 2, 1) := by decide +kernel
theorem dX9_next_18 : decode cX9_next 18 = .ok (.invokevirtual 103, 3) := by decide +kernel
theorem dX9_next_21 : decode cX9_next 21 = .ok (.goto 6, 3) := by decide +kernel
theorem dX9_next_24 : decode cX9_next 24 = .ok (.sipush (-1001), 3) := by decide +kernel
theorem dX9_next_27 : decode cX9_next 27 = .ok (.ireturn, 1) := by decide +kernel
set_option maxRecDepth 20000 in
theorem ggX9_isTooBig_X9_needs : GoodIn wsX9_isTooBig wsX9_needs := goodIn_r _ [7, 8, 9, 18, 19, 20, 21, 22, 23, 24, 25, 26, 27, 28, 29, 30, 31, 32, 33, 34, 35, 36, 37, 38, 39, 40] (by decide +kernel) (by decide +kernel)
set_option maxRecDepth 20000 in
theorem gX9_isTooBig_X9_needs : GoodIn wsX9_isTooBig (wsV RX9 96 RX9 yX9_needs wsX9_needs) := goodIn_app (goodIn_of _ (by decide +kernel)) ggX9_isTooBig_X9_needs
set_option maxRecDepth 20000 in
theorem ggX9_isTooBig_X9_sizeOf : GoodIn wsX9_isTooBig wsX9_sizeOf := goodIn_r _ [13, 14, 15, 16, 6, 17, 18, 19, 20, 21, 22, 23, 24, 25, 26, 27, 28, 29, 30, 31, 32, 33, 34, 35, 36, 37, 38, 39, 40] (by decide +kernel) (by decide +kernel)
set_option maxRecDepth 20000 in
theorem gX9_isTooBig_X9_sizeOf : GoodIn wsX9_isTooBig (wsV RX9 106 RX9 yX9_sizeOf wsX9_sizeOf) := goodIn_app (goodIn_of _ (by decide +kernel)) ggX9_isTooBig_X9_sizeOf
theorem dX9_isTooBig_0 : decode cX9_isTooBig 0 = .ok (.iconst 0, 1) := by decide +kernel
theorem dX9_isTooBig_1 : decode cX9_isTooBig 1 = .ok (.istore_n 1, 1) := by decide +kernel
theorem dX9_isTooBig_2 : decode cX9_isTooBig 2 = .ok (.iconst 0, 1) := by decide +kernel
theorem dX9_isTooBig_3 : decode cX9_isTooBig 3 = .ok (.istore_n 2, 1) := by decide +kernel
theorem dX9_isTooBig_4 : decode cX9_isTooBig 4 = .ok (.iload_n 2, 1) := by decide +kernel
theorem dX9_isTooBig_5 : decode cX9_isTooBig 5 = .ok (.aload_n 0, 1) := by decide +kernel
theorem dX9_isTooBig_6 : decode cX9_isTooBig 6 = .ok (.getfield 69, 3) := by decide +kernel
theorem dX9_isTooBig_9 : decode cX9_isTooBig 9 = .ok (.if_icmp .ge 35, 3) := by decide +kernel
theorem dX9_isTooBig_12 : decode cX9_isTooBig 12 = .ok (.iload_n 1, 1) := by decide +kernel
theorem dX9_isTooBig_13 : decode cX9_isTooBig 13 = .ok (.ifCond .ne 19, 3) := by decide +kernel
theorem dX9_isTooBig_16 : decode cX9_isTooBig 16 = .ok (.aload_n 0, 1) := by decide +kernel
theorem dX9_isTooBig_17 : decode cX9_isTooBig 17 = .ok (.aload_n 0, 1) := by decide +kernel
theorem dX9_isTooBig_18 : decode cX9_isTooBig 18 = .ok (.iload_n 2, 1) := by decide +kernel
theorem dX9_isTooBig_19 : decode cX9_isTooBig 19 = .ok (.invokevirtual 96, 3) := by decide +kernel
theorem dX9_isTooBig_22 : decode cX9_isTooBig 22 = .ok (.invokevirtual 106, 3) := by decide +kernel
theorem dX9_isTooBig_25 : decode cX9_isTooBig 25 = .ok (.aload_n 0, 1) := by decide +kernel
theorem dX9_isTooBig_26 : decode cX9_isTooBig 26 = .ok (.getfield 22, 3) := by decide +kernel
theorem dX9_isTooBig_29 : decode cX9_isTooBig 29 = .ok (.if_icmp .le 7, 3) := by decide +kernel
theorem dX9_isTooBig_32 : decode cX9_isTooBig 32 = .ok (.iconst 1, 1) := by decide +kernel
theorem dX9_isTooBig_33 : decode cX9_isTooBig 33 = .ok (.goto 4, 3) := by decide +kernel
theorem dX9_isTooBig_36 : decode cX9_isTooBig 36 = .ok (.iconst 0, 1) := by decide +kernel
theorem dX9_isTooBig_37 : decode cX9_isTooBig 37 = .ok (.istore_n 1, 1) := by decide +kernel
theorem dX9_isTooBig_38 : decode cX9_isTooBig 38 = .ok (.iinc 2 1, 3) := by decide +kernel
theorem dX9_isTooBig_41 : decode cX9_isTooBig 41 = .ok (.goto (-37), 3) := by decide +kernel
theorem dX9_isTooBig_44 : decode cX9_isTooBig 44 = .ok (.iload_n 1, 1) := by decide +kernel
theorem dX9_isTooBig_45 : decode cX9_isTooBig 45 = .ok (.ireturn, 1) := by decide +kernel
set_option maxRecDepth 20000 in
theorem ggX9_late_X9_nextOf : GoodIn wsX9_late wsX9_nextOf := goodIn_r _ [5, 6, 7, 8, 9, 4, 10, 11, 12, 13, 14, 15, 16, 17, 18, 19, 20, 21, 22, 23, 24, 25, 26, 27, 28, 29, 30, 31, 32, 33, 34, 35, 36, 37, 38, 39] (by decide +kernel) (by decide +kernel)
set_option maxRecDepth 20000 in
theorem gX9_late_X9_nextOf : GoodIn wsX9_late (wsV RX9 103 RX9 yX9_nextOf wsX9_nextOf) := goodIn_app (goodIn_of _ (by decide +kernel)) ggX9_late_X9_nextOf
theorem dX9_late_0 : decode cX9_late 0 = .ok (.aload_n 0, 1) := by decide +kernel
theorem dX9_late_1 : decode cX9_late 1 = .ok (.iload_n 1, 1) := by decide +kernel
theorem dX9_late_2 : decode cX9_late 2 = .ok (.iload_n 2, 1) := by decide +kernel
theorem dX9_late_3 : decode cX9_late 3 = .ok (.invokevirtual 103, 3) := by decide +kernel
theorem dX9_late_6 : decode cX9_late 6 = .ok (.istore_n 3, 1) := by decide +kernel
theorem dX9_late_7 : decode cX9_late 7 = .ok (.iload_n 3, 1) := by decide +kernel
theorem dX9_late_8 : decode cX9_late 8 = .ok (.iconst (-1), 1) := by decide +kernel
theorem dX9_late_9 : decode cX9_late 9 = .ok (.if_icmp .ne 8, 3) := by decide +kernel
theorem dX9_late_12 : decode cX9_late 12 = .ok (.bipush 8, 2) := by decide +kernel
theorem dX9_late_14 : decode cX9_late 14 = .ok (.goto 4, 3) := by decide +kernel
theorem dX9_late_17 : decode cX9_late 17 = .ok (.iload_n 3, 1) := by decide +kernel
theorem dX9_late_18 : decode cX9_late 18 = .ok (.ireturn, 1) := by decide +kernel
set_option maxRecDepth 20000 in
theorem ggX9_goesFirst_X9_has : GoodIn wsX9_goesFirst wsX9_has := goodIn_r _ [5] (by decide +kernel) (by decide +kernel)
set_option maxRecDepth 20000 in
theorem gX9_goesFirst_X9_has : GoodIn wsX9_goesFirst (va_wsS RX9 92 yX9_has wsX9_has) := goodIn_app (goodIn_of _ (by decide +kernel)) ggX9_goesFirst_X9_has
set_option maxRecDepth 20000 in
theorem ggX9_goesFirst_X9_late : GoodIn wsX9_goesFirst wsX9_late := goodIn_r _ [9, 10, 11, 12, 4, 13, 14, 15, 2, 3, 5, 16, 17, 18, 19, 20, 21, 22, 23, 24, 25, 26, 27, 28, 29, 30, 31, 32, 33, 34, 35, 36, 37, 38, 39, 40, 41, 42, 43, 44] (by decide +kernel) (by decide +kernel)
set_option maxRecDepth 20000 in
theorem gX9_goesFirst_X9_late : GoodIn wsX9_goesFirst (wsV RX9 109 RX9 yX9_late wsX9_late) := goodIn_app (goodIn_of _ (by decide +kernel)) ggX9_goesFirst_X9_late
theorem dX9_goesFirst_0 : decode cX9_goesFirst 0 = .ok (.iconst (-1), 1) := by decide +kernel
theorem dX9_goesFirst_1 : decode cX9_goesFirst 1 = .ok (.istore_n 3, 1) := by decide +kernel
theorem dX9_goesFirst_2 : decode cX9_goesFirst 2 = .ok (.iconst 0, 1) := by decide +kernel
theorem dX9_goesFirst_3 : decode cX9_goesFirst 3 = .ok (.istore 4, 2) := by decide +kernel
theorem dX9_goesFirst_5 : decode cX9_goesFirst 5 = .ok (.iload 4, 2) := by decide +kernel
theorem dX9_goesFirst_7 : decode cX9_goesFirst 7 = .ok (.bipush 8, 2) := by decide +kernel
theorem dX9_goesFirst_9 : decode cX9_goesFirst 9 = .ok (.if_icmp .ge 106, 3) := by decide +kernel
theorem dX9_goesFirst_12 : decode cX9_goesFirst 12 = .ok (.iload_n 2, 1) := by decide +kernel
theorem dX9_goesFirst_13 : decode cX9_goesFirst 13 = .ok (.iload 4, 2) := by decide +kernel
theorem dX9_goesFirst_15 : decode cX9_goesFirst 15 = .ok (.invokestatic 92, 3) := by decide +kernel
theorem dX9_goesFirst_18 : decode cX9_goesFirst 18 = .ok (.ifCond .eq 91, 3) := by decide +kernel
theorem dX9_goesFirst_21 : decode cX9_goesFirst 21 = .ok (.bipush 100, 2) := by decide +kernel
theorem dX9_goesFirst_23 : decode cX9_goesFirst 23 = .ok (.aload_n 0, 1) := by decide +kernel
theorem dX9_goesFirst_24 : decode cX9_goesFirst 24 = .ok (.iload_n 1, 1) := by decide +kernel
theorem dX9_goesFirst_25 : decode cX9_goesFirst 25 = .ok (.iload 4, 2) := by decide +kernel
theorem dX9_goesFirst_27 : decode cX9_goesFirst 27 = .ok (.invokevirtual 109, 3) := by decide +kernel
theorem dX9_goesFirst_30 : decode cX9_goesFirst 30 = .ok (.imul, 1) := by decide +kernel
theorem dX9_goesFirst_31 : decode cX9_goesFirst 31 = .ok (.aload_n 0, 1) := by decide +kernel
theorem dX9_goesFirst_32 : decode cX9_goesFirst 32 = .ok (.getfield 45, 3) := by decide +kernel
theorem dX9_goesFirst_35 : decode cX9_goesFirst 35 = .ok (.iload 4, 2) := by decide +kernel
theorem dX9_goesFirst_37 : decode cX9_goesFirst 37 = .ok (.invokestatic 92, 3) := by decide +kernel
theorem dX9_goesFirst_40 : decode cX9_goesFirst 40 = .ok (.ifCond .eq 8, 3) := by decide +kernel
theorem dX9_goesFirst_43 : decode cX9_goesFirst 43 = .ok (.bipush 10, 2) := by decide +kernel
theorem dX9_goesFirst_45 : decode cX9_goesFirst 45 = .ok (.goto 4, 3) := by decide +kernel
theorem dX9_goesFirst_48 : decode cX9_goesFirst 48 = .ok (.iconst 0, 1) := by decide +kernel
theorem dX9_goesFirst_49 : decode cX9_goesFirst 49 = .ok (.iadd, 1) := by decide +kernel
theorem dX9_goesFirst_50 : decode cX9_goesFirst 50 = .ok (.iload 4, 2) := by decide +kernel
theorem dX9_goesFirst_52 : decode cX9_goesFirst 52 = .ok (.iadd, 1) := by decide +kernel
theorem dX9_goesFirst_53 : decode cX9_goesFirst 53 = .ok (.istore 5, 2) := by decide +kernel
theorem dX9_goesFirst_55 : decode cX9_goesFirst 55 = .ok (.iload_n 3, 1) := by decide +kernel
theorem dX9_goesFirst_56 : decode cX9_goesFirst 56 = .ok (.iconst (-1), 1) := by decide +kernel
theorem dX9_goesFirst_57 : decode cX9_goesFirst 57 = .ok (.if_icmp .ne 7, 3) := by decide +kernel
theorem dX9_goesFirst_60 : decode cX9_goesFirst 60 = .ok (.iconst (-1), 1) := by decide +kernel
theorem dX9_goesFirst_61 : decode cX9_goesFirst 61 = .ok (.goto 32, 3) := by decide +kernel
theorem dX9_goesFirst_64 : decode cX9_goesFirst 64 = .ok (.bipush 100, 2) := by decide +kernel
theorem dX9_goesFirst_66 : decode cX9_goesFirst 66 = .ok (.aload_n 0, 1) := by decide +kernel
theorem dX9_goesFirst_67 : decode cX9_goesFirst 67 = .ok (.iload_n 1, 1) := by decide +kernel
theorem dX9_goesFirst_68 : decode cX9_goesFirst 68 = .ok (.iload_n 3, 1) := by decide +kernel
theorem dX9_goesFirst_69 : decode cX9_goesFirst 69 = .ok (.invokevirtual 109, 3) := by decide +kernel
theorem dX9_goesFirst_72 : decode cX9_goesFirst 72 = .ok (.imul, 1) := by decide +kernel
theorem dX9_goesFirst_73 : decode cX9_goesFirst 73 = .ok (.aload_n 0, 1) := by decide +kernel
theorem dX9_goesFirst_74 : decode cX9_goesFirst 74 = .ok (.getfield 45, 3) := by decide +kernel
theorem dX9_goesFirst_77 : decode cX9_goesFirst 77 = .ok (.iload_n 3, 1) := by decide +kernel
theorem dX9_goesFirst_78 : decode cX9_goesFirst 78 = .ok (.invokestatic 92, 3) := by decide +kernel
theorem dX9_goesFirst_81 : decode cX9_goesFirst 81 = .ok (.ifCond .eq 8, 3) := by decide +kernel
theorem dX9_goesFirst_84 : decode cX9_goesFirst 84 = .ok (.bipush 10, 2) := by decide +kernel
theorem dX9_goesFirst_86 : decode cX9_goesFirst 86 = .ok (.goto 4, 3) := by decide +kernel
theorem dX9_goesFirst_89 : decode cX9_goesFirst 89 = .ok (.iconst 0, 1) := by decide +kernel
theorem dX9_goesFirst_90 : decode cX9_goesFirst 90 = .ok (.iadd, 1) := by decide +kernel
theorem dX9_goesFirst_91 : decode cX9_goesFirst 91 = .ok (.iload_n 3, 1) := by decide +kernel
theorem dX9_goesFirst_92 : decode cX9_goesFirst 92 = .ok (.iadd, 1) := by decide +kernel
theorem dX9_goesFirst_93 : decode cX9_goesFirst 93 = .ok (.istore 6, 2) := by decide +kernel
theorem dX9_goesFirst_95 : decode cX9_goesFirst 95 = .ok (.iload 5, 2) := by decide +kernel
theorem dX9_goesFirst_97 : decode cX9_goesFirst 97 = .ok (.iload 6, 2) := by decide +kernel
theorem dX9_goesFirst_99 : decode cX9_goesFirst 99 = .ok (.if_icmp .le 8, 3) := by decide +kernel
theorem dX9_goesFirst_102 : decode cX9_goesFirst 102 = .ok (.iload 4, 2) := by decide +kernel
theorem dX9_goesFirst_104 : decode cX9_goesFirst 104 = .ok (.goto 4, 3) := by decide +kernel
theorem dX9_goesFirst_107 : decode cX9_goesFirst 107 = .ok (.iload_n 3, 1) := by decide +kernel
theorem dX9_goesFirst_108 : decode cX9_goesFirst 108 = .ok (.istore_n 3, 1) := by decide +kernel
theorem dX9_goesFirst_109 : decode cX9_goesFirst 109 = .ok (.iinc 4 1, 3) := by decide +kernel
theorem dX9_goesFirst_112 : decode cX9_goesFirst 112 = .ok (.goto (-107), 3) := by decide +kernel
theorem dX9_goesFirst_115 : decode cX9_goesFirst 115 = .ok (.iload_n 3, 1) := by decide +kernel
theorem dX9_goesFirst_116 : decode cX9_goesFirst 116 = .ok (.ireturn, 1) := by decide +kernel
set_option maxRecDepth 20000 in
theorem ggX9_laySoonest_X9_needs : GoodIn wsX9_laySoonest wsX9_needs := goodIn_r _ [11, 12, 13, 30, 31, 32, 33, 34, 35, 36, 37, 38, 39, 40, 41, 42, 43, 44, 45, 46, 47, 48, 49, 50, 51, 52] (by decide +kernel) (by decide +kernel)
set_option maxRecDepth 20000 in
theorem gX9_laySoonest_X9_needs : GoodIn wsX9_laySoonest (wsV RX9 96 RX9 yX9_needs wsX9_needs) := goodIn_app (goodIn_of _ (by decide +kernel)) ggX9_laySoonest_X9_needs
set_option maxRecDepth 20000 in
theorem ggX9_laySoonest_X9_goesFirst : GoodIn wsX9_laySoonest wsX9_goesFirst := goodIn_r _ [17, 18, 19, 20, 10, 21, 22, 23, 24, 25, 26, 27, 28, 29, 1, 6, 7, 8, 9, 11, 12, 13, 30, 31, 32, 33, 34, 35, 36, 37, 38, 39, 40, 41, 42, 43, 44, 45, 46, 47, 48, 49, 50, 51, 52] (by decide +kernel) (by decide +kernel)
set_option maxRecDepth 20000 in
theorem gX9_laySoonest_X9_goesFirst : GoodIn wsX9_laySoonest (wsV RX9 112 RX9 yX9_goesFirst wsX9_goesFirst) := goodIn_app (goodIn_of _ (by decide +kernel)) ggX9_laySoonest_X9_goesFirst
theorem dX9_laySoonest_0 : decode cX9_laySoonest 0 = .ok (.iconst 0, 1) := by decide +kernel
theorem dX9_laySoonest_1 : decode cX9_laySoonest 1 = .ok (.istore_n 1, 1) := by decide +kernel
theorem dX9_laySoonest_2 : decode cX9_laySoonest 2 = .ok (.iconst 0, 1) := by decide +kernel
theorem dX9_laySoonest_3 : decode cX9_laySoonest 3 = .ok (.istore_n 2, 1) := by decide +kernel
theorem dX9_laySoonest_4 : decode cX9_laySoonest 4 = .ok (.iload_n 2, 1) := by decide +kernel
theorem dX9_laySoonest_5 : decode cX9_laySoonest 5 = .ok (.aload_n 0, 1) := by decide +kernel
theorem dX9_laySoonest_6 : decode cX9_laySoonest 6 = .ok (.getfield 69, 3) := by decide +kernel
theorem dX9_laySoonest_9 : decode cX9_laySoonest 9 = .ok (.if_icmp .ge 79, 3) := by decide +kernel
theorem dX9_laySoonest_12 : decode cX9_laySoonest 12 = .ok (.aload_n 0, 1) := by decide +kernel
theorem dX9_laySoonest_13 : decode cX9_laySoonest 13 = .ok (.getfield 29, 3) := by decide +kernel
theorem dX9_laySoonest_16 : decode cX9_laySoonest 16 = .ok (.iload_n 2, 1) := by decide +kernel
theorem dX9_laySoonest_17 : decode cX9_laySoonest 17 = .ok (.iload_n 1, 1) := by decide +kernel
theorem dX9_laySoonest_18 : decode cX9_laySoonest 18 = .ok (.iastore, 1) := by decide +kernel
theorem dX9_laySoonest_19 : decode cX9_laySoonest 19 = .ok (.iload_n 1, 1) := by decide +kernel
theorem dX9_laySoonest_20 : decode cX9_laySoonest 20 = .ok (.aload_n 0, 1) := by decide +kernel
theorem dX9_laySoonest_21 : decode cX9_laySoonest 21 = .ok (.iload_n 2, 1) := by decide +kernel
theorem dX9_laySoonest_22 : decode cX9_laySoonest 22 = .ok (.invokevirtual 96, 3) := by decide +kernel
theorem dX9_laySoonest_25 : decode cX9_laySoonest 25 = .ok (.ior, 1) := by decide +kernel
theorem dX9_laySoonest_26 : decode cX9_laySoonest 26 = .ok (.istore_n 1, 1) := by decide +kernel
theorem dX9_laySoonest_27 : decode cX9_laySoonest 27 = .ok (.aload_n 0, 1) := by decide +kernel
theorem dX9_laySoonest_28 : decode cX9_laySoonest 28 = .ok (.getfield 38, 3) := by decide +kernel
theorem dX9_laySoonest_31 : decode cX9_laySoonest 31 = .ok (.iload_n 1, 1) := by decide +kernel
theorem dX9_laySoonest_32 : decode cX9_laySoonest 32 = .ok (.iaload, 1) := by decide +kernel
theorem dX9_laySoonest_33 : decode cX9_laySoonest 33 = .ok (.aload_n 0, 1) := by decide +kernel
theorem dX9_laySoonest_34 : decode cX9_laySoonest 34 = .ok (.getfield 22, 3) := by decide +kernel
theorem dX9_laySoonest_37 : decode cX9_laySoonest 37 = .ok (.if_icmp .le 27, 3) := by decide +kernel
theorem dX9_laySoonest_40 : decode cX9_laySoonest 40 = .ok (.iload_n 1, 1) := by decide +kernel
theorem dX9_laySoonest_41 : decode cX9_laySoonest 41 = .ok (.iconst 1, 1) := by decide +kernel
theorem dX9_laySoonest_42 : decode cX9_laySoonest 42 = .ok (.aload_n 0, 1) := by decide +kernel
theorem dX9_laySoonest_43 : decode cX9_laySoonest 43 = .ok (.iload_n 2, 1) := by decide +kernel
theorem dX9_laySoonest_44 : decode cX9_laySoonest 44 = .ok (.iload_n 1, 1) := by decide +kernel
theorem dX9_laySoonest_45 : decode cX9_laySoonest 45 = .ok (.aload_n 0, 1) := by decide +kernel
theorem dX9_laySoonest_46 : decode cX9_laySoonest 46 = .ok (.iload_n 2, 1) := by decide +kernel
theorem dX9_laySoonest_47 : decode cX9_laySoonest 47 = .ok (.invokevirtual 96, 3) := by decide +kernel
theorem dX9_laySoonest_50 : decode cX9_laySoonest 50 = .ok (.iconst (-1), 1) := by decide +kernel
theorem dX9_laySoonest_51 : decode cX9_laySoonest 51 = .ok (.ixor, 1) := by decide +kernel
theorem dX9_laySoonest_52 : decode cX9_laySoonest 52 = .ok (.iand, 1) := by decide +kernel
theorem dX9_laySoonest_53 : decode cX9_laySoonest 53 = .ok (.invokevirtual 112, 3) := by decide +kernel
theorem dX9_laySoonest_56 : decode cX9_laySoonest 56 = .ok (.ishl, 1) := by decide +kernel
theorem dX9_laySoonest_57 : decode cX9_laySoonest 57 = .ok (.iconst (-1), 1) := by decide +kernel
theorem dX9_laySoonest_58 : decode cX9_laySoonest 58 = .ok (.ixor, 1) := by decide +kernel
theorem dX9_laySoonest_59 : decode cX9_laySoonest 59 = .ok (.iand, 1) := by decide +kernel
theorem dX9_laySoonest_60 : decode cX9_laySoonest 60 = .ok (.istore_n 1, 1) := by decide +kernel
theorem dX9_laySoonest_61 : decode cX9_laySoonest 61 = .ok (.goto (-34), 3) := by decide +kernel
theorem dX9_laySoonest_64 : decode cX9_laySoonest 64 = .ok (.aload_n 0, 1) := by decide +kernel
theorem dX9_laySoonest_65 : decode cX9_laySoonest 65 = .ok (.getfield 32, 3) := by decide +kernel
theorem dX9_laySoonest_68 : decode cX9_laySoonest 68 = .ok (.iload_n 2, 1) := by decide +kernel
theorem dX9_laySoonest_69 : decode cX9_laySoonest 69 = .ok (.iload_n 1, 1) := by decide +kernel
theorem dX9_laySoonest_70 : decode cX9_laySoonest 70 = .ok (.iastore, 1) := by decide +kernel
theorem dX9_laySoonest_71 : decode cX9_laySoonest 71 = .ok (.iload_n 1, 1) := by decide +kernel
theorem dX9_laySoonest_72 : decode cX9_laySoonest 72 = .ok (.aload_n 0, 1) := by decide +kernel
theorem dX9_laySoonest_73 : decode cX9_laySoonest 73 = .ok (.getfield 19, 3) := by decide +kernel
theorem dX9_laySoonest_76 : decode cX9_laySoonest 76 = .ok (.iload_n 2, 1) := by decide +kernel
theorem dX9_laySoonest_77 : decode cX9_laySoonest 77 = .ok (.iaload, 1) := by decide +kernel
theorem dX9_laySoonest_78 : decode cX9_laySoonest 78 = .ok (.iconst (-1), 1) := by decide +kernel
theorem dX9_laySoonest_79 : decode cX9_laySoonest 79 = .ok (.ixor, 1) := by decide +kernel
theorem dX9_laySoonest_80 : decode cX9_laySoonest 80 = .ok (.iand, 1) := by decide +kernel
theorem dX9_laySoonest_81 : decode cX9_laySoonest 81 = .ok (.istore_n 1, 1) := by decide +kernel
theorem dX9_laySoonest_82 : decode cX9_laySoonest 82 = .ok (.iinc 2 1, 3) := by decide +kernel
theorem dX9_laySoonest_85 : decode cX9_laySoonest 85 = .ok (.goto (-81), 3) := by decide +kernel
theorem dX9_laySoonest_88 : decode cX9_laySoonest 88 = .ok (.return_, 1) := by decide +kernel
set_option maxRecDepth 20000 in
theorem ggX9_costBy_X9_needs : GoodIn wsX9_costBy wsX9_needs := goodIn_r _ [8, 9, 10, 11, 12, 13, 14, 15, 16, 17, 18, 19, 20, 21, 22, 23, 24, 25, 26, 27, 28, 29, 30, 31, 32, 33] (by decide +kernel) (by decide +kernel)
set_option maxRecDepth 20000 in
theorem gX9_costBy_X9_needs : GoodIn wsX9_costBy (wsV RX9 96 RX9 yX9_needs wsX9_needs) := goodIn_app (goodIn_of _ (by decide +kernel)) ggX9_costBy_X9_needs
theorem dX9_costBy_0 : decode cX9_costBy 0 = .ok (.aload_n 0, 1) := by decide +kernel
theorem dX9_costBy_1 : decode cX9_costBy 1 = .ok (.getfield 38, 3) := by decide +kernel
theorem dX9_costBy_4 : decode cX9_costBy 4 = .ok (.aload_n 0, 1) := by decide +kernel
theorem dX9_costBy_5 : decode cX9_costBy 5 = .ok (.iload_n 1, 1) := by decide +kernel
theorem dX9_costBy_6 : decode cX9_costBy 6 = .ok (.invokevirtual 96, 3) := by decide +kernel
theorem dX9_costBy_9 : decode cX9_costBy 9 = .ok (.iload_n 2, 1) := by decide +kernel
theorem dX9_costBy_10 : decode cX9_costBy 10 = .ok (.iconst (-1), 1) := by decide +kernel
theorem dX9_costBy_11 : decode cX9_costBy 11 = .ok (.ixor, 1) := by decide +kernel
theorem dX9_costBy_12 : decode cX9_costBy 12 = .ok (.iand, 1) := by decide +kernel
theorem dX9_costBy_13 : decode cX9_costBy 13 = .ok (.iaload, 1) := by decide +kernel
theorem dX9_costBy_14 : decode cX9_costBy 14 = .ok (.aload_n 0, 1) := by decide +kernel
theorem dX9_costBy_15 : decode cX9_costBy 15 = .ok (.getfield 35, 3) := by decide +kernel
theorem dX9_costBy_18 : decode cX9_costBy 18 = .ok (.sipush 256, 3) := by decide +kernel
theorem dX9_costBy_21 : decode cX9_costBy 21 = .ok (.iload_n 1, 1) := by decide +kernel
theorem dX9_costBy_22 : decode cX9_costBy 22 = .ok (.iconst 1, 1) := by decide +kernel
theorem dX9_costBy_23 : decode cX9_costBy 23 = .ok (.iadd, 1) := by decide +kernel
theorem dX9_costBy_24 : decode cX9_costBy 24 = .ok (.imul, 1) := by decide +kernel
theorem dX9_costBy_25 : decode cX9_costBy 25 = .ok (.iload_n 3, 1) := by decide +kernel
theorem dX9_costBy_26 : decode cX9_costBy 26 = .ok (.aload_n 0, 1) := by decide +kernel
theorem dX9_costBy_27 : decode cX9_costBy 27 = .ok (.getfield 19, 3) := by decide +kernel
theorem dX9_costBy_30 : decode cX9_costBy 30 = .ok (.iload_n 1, 1) := by decide +kernel
theorem dX9_costBy_31 : decode cX9_costBy 31 = .ok (.iaload, 1) := by decide +kernel
theorem dX9_costBy_32 : decode cX9_costBy 32 = .ok (.iconst (-1), 1) := by decide +kernel
theorem dX9_costBy_33 : decode cX9_costBy 33 = .ok (.ixor, 1) := by decide +kernel
theorem dX9_costBy_34 : decode cX9_costBy 34 = .ok (.iand, 1) := by decide +kernel
theorem dX9_costBy_35 : decode cX9_costBy 35 = .ok (.iadd, 1) := by decide +kernel
theorem dX9_costBy_36 : decode cX9_costBy 36 = .ok (.iaload, 1) := by decide +kernel
theorem dX9_costBy_37 : decode cX9_costBy 37 = .ok (.iadd, 1) := by decide +kernel
theorem dX9_costBy_38 : decode cX9_costBy 38 = .ok (.ireturn, 1) := by decide +kernel
set_option maxRecDepth 20000 in
theorem ggX9_leastOf_X9_needs : GoodIn wsX9_leastOf wsX9_needs := goodIn_r _ [8, 9, 10, 17, 18, 19, 20, 21, 22, 23, 24, 25, 26, 27, 28, 29, 30, 31, 32, 33, 34, 35, 36, 37, 38, 39] (by decide +kernel) (by decide +kernel)
set_option maxRecDepth 20000 in
theorem gX9_leastOf_X9_needs : GoodIn wsX9_leastOf (wsV RX9 96 RX9 yX9_needs wsX9_needs) := goodIn_app (goodIn_of _ (by decide +kernel)) ggX9_leastOf_X9_needs
set_option maxRecDepth 20000 in
theorem ggX9_leastOf_X9_costBy : GoodIn wsX9_leastOf wsX9_costBy := goodIn_r _ [14, 2, 15, 16, 4, 5, 6, 7, 8, 9, 10, 17, 18, 19, 20, 21, 22, 23, 24, 25, 26, 27, 28, 29, 30, 31, 32, 33, 34, 35, 36, 37, 38, 39] (by decide +kernel) (by decide +kernel)
set_option maxRecDepth 20000 in
theorem gX9_leastOf_X9_costBy : GoodIn wsX9_leastOf (wsV RX9 116 RX9 yX9_costBy wsX9_costBy) := goodIn_app (goodIn_of _ (by decide +kernel)) ggX9_leastOf_X9_costBy
theorem dX9_leastOf_0 : decode cX9_leastOf 0 = .ok (.iload_n 2, 1) := by decide +kernel
theorem dX9_leastOf_1 : decode cX9_leastOf 1 = .ok (.aload_n 0, 1) := by decide +kernel
theorem dX9_leastOf_2 : decode cX9_leastOf 2 = .ok (.iload_n 1, 1) := by decide +kernel
theorem dX9_leastOf_3 : decode cX9_leastOf 3 = .ok (.invokevirtual 96, 3) := by decide +kernel
theorem dX9_leastOf_6 : decode cX9_leastOf 6 = .ok (.iconst (-1), 1) := by decide +kernel
theorem dX9_leastOf_7 : decode cX9_leastOf 7 = .ok (.ixor, 1) := by decide +kernel
theorem dX9_leastOf_8 : decode cX9_leastOf 8 = .ok (.iand, 1) := by decide +kernel
theorem dX9_leastOf_9 : decode cX9_leastOf 9 = .ok (.istore_n 3, 1) := by decide +kernel
theorem dX9_leastOf_10 : decode cX9_leastOf 10 = .ok (.ldc 115, 2) := by decide +kernel
theorem dX9_leastOf_12 : decode cX9_leastOf 12 = .ok (.istore 4, 2) := by decide +kernel
theorem dX9_leastOf_14 : decode cX9_leastOf 14 = .ok (.iload_n 3, 1) := by decide +kernel
theorem dX9_leastOf_15 : decode cX9_leastOf 15 = .ok (.istore 5, 2) := by decide +kernel
theorem dX9_leastOf_17 : decode cX9_leastOf 17 = .ok (.iconst 1, 1) := by decide +kernel
theorem dX9_leastOf_18 : decode cX9_leastOf 18 = .ok (.istore 6, 2) := by decide +kernel
theorem dX9_leastOf_20 : decode cX9_leastOf 20 = .ok (.iload 6, 2) := by decide +kernel
theorem dX9_leastOf_22 : decode cX9_leastOf 22 = .ok (.ifCond .eq 81, 3) := by decide +kernel
theorem dX9_leastOf_25 : decode cX9_leastOf 25 = .ok (.aload_n 0, 1) := by decide +kernel
theorem dX9_leastOf_26 : decode cX9_leastOf 26 = .ok (.iload_n 1, 1) := by decide +kernel
theorem dX9_leastOf_27 : decode cX9_leastOf 27 = .ok (.invokevirtual 96, 3) := by decide +kernel
theorem dX9_leastOf_30 : decode cX9_leastOf 30 = .ok (.iload 5, 2) := by decide +kernel
theorem dX9_leastOf_32 : decode cX9_leastOf 32 = .ok (.ior, 1) := by decide +kernel
theorem dX9_leastOf_33 : decode cX9_leastOf 33 = .ok (.istore 7, 2) := by decide +kernel
theorem dX9_leastOf_35 : decode cX9_leastOf 35 = .ok (.aload_n 0, 1) := by decide +kernel
theorem dX9_leastOf_36 : decode cX9_leastOf 36 = .ok (.getfield 38, 3) := by decide +kernel
theorem dX9_leastOf_39 : decode cX9_leastOf 39 = .ok (.iload 7, 2) := by decide +kernel
theorem dX9_leastOf_41 : decode cX9_leastOf 41 = .ok (.iaload, 1) := by decide +kernel
theorem dX9_leastOf_42 : decode cX9_leastOf 42 = .ok (.aload_n 0, 1) := by decide +kernel
theorem dX9_leastOf_43 : decode cX9_leastOf 43 = .ok (.getfield 22, 3) := by decide +kernel
theorem dX9_leastOf_46 : decode cX9_leastOf 46 = .ok (.if_icmp .gt 14, 3) := by decide +kernel
theorem dX9_leastOf_49 : decode cX9_leastOf 49 = .ok (.aload_n 0, 1) := by decide +kernel
theorem dX9_leastOf_50 : decode cX9_leastOf 50 = .ok (.iload_n 1, 1) := by decide +kernel
theorem dX9_leastOf_51 : decode cX9_leastOf 51 = .ok (.iload_n 2, 1) := by decide +kernel
theorem dX9_leastOf_52 : decode cX9_leastOf 52 = .ok (.iload 7, 2) := by decide +kernel
theorem dX9_leastOf_54 : decode cX9_leastOf 54 = .ok (.invokevirtual 116, 3) := by decide +kernel
theorem dX9_leastOf_57 : decode cX9_leastOf 57 = .ok (.goto 5, 3) := by decide +kernel
theorem dX9_leastOf_60 : decode cX9_leastOf 60 = .ok (.ldc 115, 2) := by decide +kernel
theorem dX9_leastOf_62 : decode cX9_leastOf 62 = .ok (.istore 8, 2) := by decide +kernel
theorem dX9_leastOf_64 : decode cX9_leastOf 64 = .ok (.iload 8, 2) := by decide +kernel
theorem dX9_leastOf_66 : decode cX9_leastOf 66 = .ok (.iload 4, 2) := by decide +kernel
theorem dX9_leastOf_68 : decode cX9_leastOf 68 = .ok (.if_icmp .ge 8, 3) := by decide +kernel
theorem dX9_leastOf_71 : decode cX9_leastOf 71 = .ok (.iload 8, 2) := by decide +kernel
theorem dX9_leastOf_73 : decode cX9_leastOf 73 = .ok (.goto 5, 3) := by decide +kernel
theorem dX9_leastOf_76 : decode cX9_leastOf 76 = .ok (.iload 4, 2) := by decide +kernel
theorem dX9_leastOf_78 : decode cX9_leastOf 78 = .ok (.istore 4, 2) := by decide +kernel
theorem dX9_leastOf_80 : decode cX9_leastOf 80 = .ok (.iload 5, 2) := by decide +kernel
theorem dX9_leastOf_82 : decode cX9_leastOf 82 = .ok (.ifCond .eq 7, 3) := by decide +kernel
theorem dX9_leastOf_85 : decode cX9_leastOf 85 = .ok (.iconst 1, 1) := by decide +kernel
theorem dX9_leastOf_86 : decode cX9_leastOf 86 = .ok (.goto 4, 3) := by decide +kernel
theorem dX9_leastOf_89 : decode cX9_leastOf 89 = .ok (.iconst 0, 1) := by decide +kernel
theorem dX9_leastOf_90 : decode cX9_leastOf 90 = .ok (.istore 6, 2) := by decide +kernel
theorem dX9_leastOf_92 : decode cX9_leastOf 92 = .ok (.iload 5, 2) := by decide +kernel
theorem dX9_leastOf_94 : decode cX9_leastOf 94 = .ok (.iconst 1, 1) := by decide +kernel
theorem dX9_leastOf_95 : decode cX9_leastOf 95 = .ok (.isub, 1) := by decide +kernel
theorem dX9_leastOf_96 : decode cX9_leastOf 96 = .ok (.iload_n 3, 1) := by decide +kernel
theorem dX9_leastOf_97 : decode cX9_leastOf 97 = .ok (.iand, 1) := by decide +kernel
theorem dX9_leastOf_98 : decode cX9_leastOf 98 = .ok (.istore 5, 2) := by decide +kernel
theorem dX9_leastOf_100 : decode cX9_leastOf 100 = .ok (.goto (-80), 3) := by decide +kernel
theorem dX9_leastOf_103 : decode cX9_leastOf 103 = .ok (.iload 4, 2) := by decide +kernel
theorem dX9_leastOf_105 : decode cX9_leastOf 105 = .ok (.ireturn, 1) := by decide +kernel
set_option maxRecDepth 20000 in
theorem ggX9_layLeast_X9_leastOf : GoodIn wsX9_layLeast wsX9_leastOf := goodIn_r _ [10, 5, 3, 4, 11, 12, 13, 9, 14, 15, 16, 17, 18, 19, 20, 1, 21, 22, 23, 24, 25, 26, 27, 28, 29, 30, 31, 32, 33, 34, 35, 36, 37, 38, 39, 40, 41, 42, 43, 44] (by decide +kernel) (by decide +kernel)
set_option maxRecDepth 20000 in
theorem gX9_layLeast_X9_leastOf : GoodIn wsX9_layLeast (wsV RX9 120 RX9 yX9_leastOf wsX9_leastOf) := goodIn_app (goodIn_of _ (by decide +kernel)) ggX9_layLeast_X9_leastOf
theorem dX9_layLeast_0 : decode cX9_layLeast 0 = .ok (.iconst 0, 1) := by decide +kernel
theorem dX9_layLeast_1 : decode cX9_layLeast 1 = .ok (.istore_n 1, 1) := by decide +kernel
theorem dX9_layLeast_2 : decode cX9_layLeast 2 = .ok (.iload_n 1, 1) := by decide +kernel
theorem dX9_layLeast_3 : decode cX9_layLeast 3 = .ok (.sipush 255, 3) := by decide +kernel
theorem dX9_layLeast_6 : decode cX9_layLeast 6 = .ok (.if_icmp .gt 25, 3) := by decide +kernel
theorem dX9_layLeast_9 : decode cX9_layLeast 9 = .ok (.aload_n 0, 1) := by decide +kernel
theorem dX9_layLeast_10 : decode cX9_layLeast 10 = .ok (.getfield 35, 3) := by decide +kernel
theorem dX9_layLeast_13 : decode cX9_layLeast 13 = .ok (.sipush 256, 3) := by decide +kernel
theorem dX9_layLeast_16 : decode cX9_layLeast 16 = .ok (.aload_n 0, 1) := by decide +kernel
theorem dX9_layLeast_17 : decode cX9_layLeast 17 = .ok (.getfield 69, 3) := by decide +kernel
theorem dX9_layLeast_20 : decode cX9_layLeast 20 = .ok (.imul, 1) := by decide +kernel
theorem dX9_layLeast_21 : decode cX9_layLeast 21 = .ok (.iload_n 1, 1) := by decide +kernel
theorem dX9_layLeast_22 : decode cX9_layLeast 22 = .ok (.iadd, 1) := by decide +kernel
theorem dX9_layLeast_23 : decode cX9_layLeast 23 = .ok (.iconst 0, 1) := by decide +kernel
theorem dX9_layLeast_24 : decode cX9_layLeast 24 = .ok (.iastore, 1) := by decide +kernel
theorem dX9_layLeast_25 : decode cX9_layLeast 25 = .ok (.iinc 1 1, 3) := by decide +kernel
theorem dX9_layLeast_28 : decode cX9_layLeast 28 = .ok (.goto (-26), 3) := by decide +kernel
theorem dX9_layLeast_31 : decode cX9_layLeast 31 = .ok (.aload_n 0, 1) := by decide +kernel
theorem dX9_layLeast_32 : decode cX9_layLeast 32 = .ok (.getfield 69, 3) := by decide +kernel
theorem dX9_layLeast_35 : decode cX9_layLeast 35 = .ok (.iconst 1, 1) := by decide +kernel
theorem dX9_layLeast_36 : decode cX9_layLeast 36 = .ok (.isub, 1) := by decide +kernel
theorem dX9_layLeast_37 : decode cX9_layLeast 37 = .ok (.istore_n 1, 1) := by decide +kernel
theorem dX9_layLeast_38 : decode cX9_layLeast 38 = .ok (.iload_n 1, 1) := by decide +kernel
theorem dX9_layLeast_39 : decode cX9_layLeast 39 = .ok (.ifCond .lt 68, 3) := by decide +kernel
theorem dX9_layLeast_42 : decode cX9_layLeast 42 = .ok (.iconst 0, 1) := by decide +kernel
theorem dX9_layLeast_43 : decode cX9_layLeast 43 = .ok (.istore_n 2, 1) := by decide +kernel
theorem dX9_layLeast_44 : decode cX9_layLeast 44 = .ok (.iload_n 2, 1) := by decide +kernel
theorem dX9_layLeast_45 : decode cX9_layLeast 45 = .ok (.sipush 255, 3) := by decide +kernel
theorem dX9_layLeast_48 : decode cX9_layLeast 48 = .ok (.if_icmp .gt 53, 3) := by decide +kernel
theorem dX9_layLeast_51 : decode cX9_layLeast 51 = .ok (.iload_n 1, 1) := by decide +kernel
theorem dX9_layLeast_52 : decode cX9_layLeast 52 = .ok (.ifCond .gt 7, 3) := by decide +kernel
theorem dX9_layLeast_55 : decode cX9_layLeast 55 = .ok (.iload_n 2, 1) := by decide +kernel
theorem dX9_layLeast_56 : decode cX9_layLeast 56 = .ok (.ifCond .ne 45, 3) := by decide +kernel
theorem dX9_layLeast_59 : decode cX9_layLeast 59 = .ok (.aload_n 0, 1) := by decide +kernel
theorem dX9_layLeast_60 : decode cX9_layLeast 60 = .ok (.getfield 35, 3) := by decide +kernel
theorem dX9_layLeast_63 : decode cX9_layLeast 63 = .ok (.sipush 256, 3) := by decide +kernel
theorem dX9_layLeast_66 : decode cX9_layLeast 66 = .ok (.iload_n 1, 1) := by decide +kernel
theorem dX9_layLeast_67 : decode cX9_layLeast 67 = .ok (.imul, 1) := by decide +kernel
theorem dX9_layLeast_68 : decode cX9_layLeast 68 = .ok (.iload_n 2, 1) := by decide +kernel
theorem dX9_layLeast_69 : decode cX9_layLeast 69 = .ok (.iadd, 1) := by decide +kernel
theorem dX9_layLeast_70 : decode cX9_layLeast 70 = .ok (.aload_n 0, 1) := by decide +kernel
theorem dX9_layLeast_71 : decode cX9_layLeast 71 = .ok (.getfield 38, 3) := by decide +kernel
theorem dX9_layLeast_74 : decode cX9_layLeast 74 = .ok (.iload_n 2, 1) := by decide +kernel
theorem dX9_layLeast_75 : decode cX9_layLeast 75 = .ok (.iaload, 1) := by decide +kernel
theorem dX9_layLeast_76 : decode cX9_layLeast 76 = .ok (.aload_n 0, 1) := by decide +kernel
theorem dX9_layLeast_77 : decode cX9_layLeast 77 = .ok (.getfield 22, 3) := by decide +kernel
theorem dX9_layLeast_80 : decode cX9_layLeast 80 = .ok (.if_icmp .gt 12, 3) := by decide +kernel
theorem dX9_layLeast_83 : decode cX9_layLeast 83 = .ok (.aload_n 0, 1) := by decide +kernel
theorem dX9_layLeast_84 : decode cX9_layLeast 84 = .ok (.iload_n 1, 1) := by decide +kernel
theorem dX9_layLeast_85 : decode cX9_layLeast 85 = .ok (.iload_n 2, 1) := by decide +kernel
theorem dX9_layLeast_86 : decode cX9_layLeast 86 = .ok (.invokevirtual 120, 3) := by decide +kernel
theorem dX9_layLeast_89 : decode cX9_layLeast 89 = .ok (.goto 5, 3) := by decide +kernel
theorem dX9_layLeast_92 : decode cX9_layLeast 92 = .ok (.ldc 115, 2) := by decide +kernel
theorem dX9_layLeast_94 : decode cX9_layLeast 94 = .ok (.iastore, 1) := by decide +kernel
theorem dX9_layLeast_95 : decode cX9_layLeast 95 = .ok (.iinc 2 1, 3) := by decide +kernel
theorem dX9_layLeast_98 : decode cX9_layLeast 98 = .ok (.goto (-54), 3) := by decide +kernel
theorem dX9_layLeast_101 : decode cX9_layLeast 101 = .ok (.iinc 1 (-1), 3) := by decide +kernel
theorem dX9_layLeast_104 : decode cX9_layLeast 104 = .ok (.goto (-66), 3) := by decide +kernel
theorem dX9_layLeast_107 : decode cX9_layLeast 107 = .ok (.aload_n 0, 1) := by decide +kernel
theorem dX9_layLeast_108 : decode cX9_layLeast 108 = .ok (.getfield 35, 3) := by decide +kernel
theorem dX9_layLeast_111 : decode cX9_layLeast 111 = .ok (.iconst 0, 1) := by decide +kernel
theorem dX9_layLeast_112 : decode cX9_layLeast 112 = .ok (.iaload, 1) := by decide +kernel
theorem dX9_layLeast_113 : decode cX9_layLeast 113 = .ok (.ireturn, 1) := by decide +kernel
set_option maxRecDepth 20000 in
theorem ggX9_layPlan_X9_needs : GoodIn wsX9_layPlan wsX9_needs := goodIn_r _ [12, 13, 14, 19, 20, 21, 22, 23, 24, 25, 26, 27, 28, 29, 30, 31, 32, 33, 34, 35, 36, 37, 38, 39, 40, 41] (by decide +kernel) (by decide +kernel)
set_option maxRecDepth 20000 in
theorem gX9_layPlan_X9_needs : GoodIn wsX9_layPlan (wsV RX9 96 RX9 yX9_needs wsX9_needs) := goodIn_app (goodIn_of _ (by decide +kernel)) ggX9_layPlan_X9_needs
set_option maxRecDepth 20000 in
theorem ggX9_layPlan_X9_costBy : GoodIn wsX9_layPlan wsX9_costBy := goodIn_r _ [18, 3, 5, 7, 8, 9, 10, 11, 12, 13, 14, 19, 20, 21, 22, 23, 24, 25, 26, 27, 28, 29, 30, 31, 32, 33, 34, 35, 36, 37, 38, 39, 40, 41] (by decide +kernel) (by decide +kernel)
set_option maxRecDepth 20000 in
theorem gX9_layPlan_X9_costBy : GoodIn wsX9_layPlan (wsV RX9 116 RX9 yX9_costBy wsX9_costBy) := goodIn_app (goodIn_of _ (by decide +kernel)) ggX9_layPlan_X9_costBy
theorem dX9_layPlan_0 : decode cX9_layPlan 0 = .ok (.iconst 0, 1) := by decide +kernel
theorem dX9_layPlan_1 : decode cX9_layPlan 1 = .ok (.istore_n 1, 1) := by decide +kernel
theorem dX9_layPlan_2 : decode cX9_layPlan 2 = .ok (.iconst 0, 1) := by decide +kernel
theorem dX9_layPlan_3 : decode cX9_layPlan 3 = .ok (.istore_n 2, 1) := by decide +kernel
theorem dX9_layPlan_4 : decode cX9_layPlan 4 = .ok (.iload_n 2, 1) := by decide +kernel
theorem dX9_layPlan_5 : decode cX9_layPlan 5 = .ok (.aload_n 0, 1) := by decide +kernel
theorem dX9_layPlan_6 : decode cX9_layPlan 6 = .ok (.getfield 69, 3) := by decide +kernel
theorem dX9_layPlan_9 : decode cX9_layPlan 9 = .ok (.if_icmp .ge 160, 3) := by decide +kernel
theorem dX9_layPlan_12 : decode cX9_layPlan 12 = .ok (.aload_n 0, 1) := by decide +kernel
theorem dX9_layPlan_13 : decode cX9_layPlan 13 = .ok (.getfield 29, 3) := by decide +kernel
theorem dX9_layPlan_16 : decode cX9_layPlan 16 = .ok (.bipush 8, 2) := by decide +kernel
theorem dX9_layPlan_18 : decode cX9_layPlan 18 = .ok (.iload_n 2, 1) := by decide +kernel
theorem dX9_layPlan_19 : decode cX9_layPlan 19 = .ok (.iadd, 1) := by decide +kernel
theorem dX9_layPlan_20 : decode cX9_layPlan 20 = .ok (.iload_n 1, 1) := by decide +kernel
theorem dX9_layPlan_21 : decode cX9_layPlan 21 = .ok (.iastore, 1) := by decide +kernel
theorem dX9_layPlan_22 : decode cX9_layPlan 22 = .ok (.iload_n 1, 1) := by decide +kernel
theorem dX9_layPlan_23 : decode cX9_layPlan 23 = .ok (.aload_n 0, 1) := by decide +kernel
theorem dX9_layPlan_24 : decode cX9_layPlan 24 = .ok (.iload_n 2, 1) := by decide +kernel
theorem dX9_layPlan_25 : decode cX9_layPlan 25 = .ok (.invokevirtual 96, 3) := by decide +kernel
theorem dX9_layPlan_28 : decode cX9_layPlan 28 = .ok (.iconst (-1), 1) := by decide +kernel
theorem dX9_layPlan_29 : decode cX9_layPlan 29 = .ok (.ixor, 1) := by decide +kernel
theorem dX9_layPlan_30 : decode cX9_layPlan 30 = .ok (.iand, 1) := by decide +kernel
theorem dX9_layPlan_31 : decode cX9_layPlan 31 = .ok (.istore_n 3, 1) := by decide +kernel
theorem dX9_layPlan_32 : decode cX9_layPlan 32 = .ok (.iconst (-1), 1) := by decide +kernel
theorem dX9_layPlan_33 : decode cX9_layPlan 33 = .ok (.istore 4, 2) := by decide +kernel
theorem dX9_layPlan_35 : decode cX9_layPlan 35 = .ok (.iconst 0, 1) := by decide +kernel
theorem dX9_layPlan_36 : decode cX9_layPlan 36 = .ok (.istore 5, 2) := by decide +kernel
theorem dX9_layPlan_38 : decode cX9_layPlan 38 = .ok (.iload 5, 2) := by decide +kernel
theorem dX9_layPlan_40 : decode cX9_layPlan 40 = .ok (.iload_n 3, 1) := by decide +kernel
theorem dX9_layPlan_41 : decode cX9_layPlan 41 = .ok (.if_icmp .gt 99, 3) := by decide +kernel
theorem dX9_layPlan_44 : decode cX9_layPlan 44 = .ok (.aload_n 0, 1) := by decide +kernel
theorem dX9_layPlan_45 : decode cX9_layPlan 45 = .ok (.iload_n 2, 1) := by decide +kernel
theorem dX9_layPlan_46 : decode cX9_layPlan 46 = .ok (.invokevirtual 96, 3) := by decide +kernel
theorem dX9_layPlan_49 : decode cX9_layPlan 49 = .ok (.iload 5, 2) := by decide +kernel
theorem dX9_layPlan_51 : decode cX9_layPlan 51 = .ok (.ior, 1) := by decide +kernel
theorem dX9_layPlan_52 : decode cX9_layPlan 52 = .ok (.istore 6, 2) := by decide +kernel
theorem dX9_layPlan_54 : decode cX9_layPlan 54 = .ok (.iload 5, 2) := by decide +kernel
theorem dX9_layPlan_56 : decode cX9_layPlan 56 = .ok (.iload_n 3, 1) := by decide +kernel
theorem dX9_layPlan_57 : decode cX9_layPlan 57 = .ok (.iconst (-1), 1) := by decide +kernel
theorem dX9_layPlan_58 : decode cX9_layPlan 58 = .ok (.ixor, 1) := by decide +kernel
theorem dX9_layPlan_59 : decode cX9_layPlan 59 = .ok (.iand, 1) := by decide +kernel
theorem dX9_layPlan_60 : decode cX9_layPlan 60 = .ok (.ifCond .ne 44, 3) := by decide +kernel
theorem dX9_layPlan_63 : decode cX9_layPlan 63 = .ok (.aload_n 0, 1) := by decide +kernel
theorem dX9_layPlan_64 : decode cX9_layPlan 64 = .ok (.getfield 38, 3) := by decide +kernel
theorem dX9_layPlan_67 : decode cX9_layPlan 67 = .ok (.iload 6, 2) := by decide +kernel
theorem dX9_layPlan_69 : decode cX9_layPlan 69 = .ok (.iaload, 1) := by decide +kernel
theorem dX9_layPlan_70 : decode cX9_layPlan 70 = .ok (.aload_n 0, 1) := by decide +kernel
theorem dX9_layPlan_71 : decode cX9_layPlan 71 = .ok (.getfield 22, 3) := by decide +kernel
theorem dX9_layPlan_74 : decode cX9_layPlan 74 = .ok (.if_icmp .gt 30, 3) := by decide +kernel
theorem dX9_layPlan_77 : decode cX9_layPlan 77 = .ok (.aload_n 0, 1) := by decide +kernel
theorem dX9_layPlan_78 : decode cX9_layPlan 78 = .ok (.iload_n 2, 1) := by decide +kernel
theorem dX9_layPlan_79 : decode cX9_layPlan 79 = .ok (.iload_n 1, 1) := by decide +kernel
theorem dX9_layPlan_80 : decode cX9_layPlan 80 = .ok (.iload 6, 2) := by decide +kernel
theorem dX9_layPlan_82 : decode cX9_layPlan 82 = .ok (.invokevirtual 116, 3) := by decide +kernel
theorem dX9_layPlan_85 : decode cX9_layPlan 85 = .ok (.aload_n 0, 1) := by decide +kernel
theorem dX9_layPlan_86 : decode cX9_layPlan 86 = .ok (.getfield 35, 3) := by decide +kernel
theorem dX9_layPlan_89 : decode cX9_layPlan 89 = .ok (.sipush 256, 3) := by decide +kernel
theorem dX9_layPlan_92 : decode cX9_layPlan 92 = .ok (.iload_n 2, 1) := by decide +kernel
theorem dX9_layPlan_93 : decode cX9_layPlan 93 = .ok (.imul, 1) := by decide +kernel
theorem dX9_layPlan_94 : decode cX9_layPlan 94 = .ok (.iload_n 1, 1) := by decide +kernel
theorem dX9_layPlan_95 : decode cX9_layPlan 95 = .ok (.iadd, 1) := by decide +kernel
theorem dX9_layPlan_96 : decode cX9_layPlan 96 = .ok (.iaload, 1) := by decide +kernel
theorem dX9_layPlan_97 : decode cX9_layPlan 97 = .ok (.if_icmp .ne 7, 3) := by decide +kernel
theorem dX9_layPlan_100 : decode cX9_layPlan 100 = .ok (.iconst 1, 1) := by decide +kernel
theorem dX9_layPlan_101 : decode cX9_layPlan 101 = .ok (.goto 4, 3) := by decide +kernel
theorem dX9_layPlan_104 : decode cX9_layPlan 104 = .ok (.iconst 0, 1) := by decide +kernel
theorem dX9_layPlan_105 : decode cX9_layPlan 105 = .ok (.istore 7, 2) := by decide +kernel
theorem dX9_layPlan_107 : decode cX9_layPlan 107 = .ok (.iload 7, 2) := by decide +kernel
theorem dX9_layPlan_109 : decode cX9_layPlan 109 = .ok (.ifCond .eq 21, 3) := by decide +kernel
theorem dX9_layPlan_112 : decode cX9_layPlan 112 = .ok (.iload 4, 2) := by decide +kernel
theorem dX9_layPlan_114 : decode cX9_layPlan 114 = .ok (.iconst (-1), 1) := by decide +kernel
theorem dX9_layPlan_115 : decode cX9_layPlan 115 = .ok (.if_icmp .eq 10, 3) := by decide +kernel
theorem dX9_layPlan_118 : decode cX9_layPlan 118 = .ok (.iload 6, 2) := by decide +kernel
theorem dX9_layPlan_120 : decode cX9_layPlan 120 = .ok (.iload 4, 2) := by decide +kernel
theorem dX9_layPlan_122 : decode cX9_layPlan 122 = .ok (.if_icmp .ge 8, 3) := by decide +kernel
theorem dX9_layPlan_125 : decode cX9_layPlan 125 = .ok (.iload 6, 2) := by decide +kernel
theorem dX9_layPlan_127 : decode cX9_layPlan 127 = .ok (.goto 5, 3) := by decide +kernel
theorem dX9_layPlan_130 : decode cX9_layPlan 130 = .ok (.iload 4, 2) := by decide +kernel
theorem dX9_layPlan_132 : decode cX9_layPlan 132 = .ok (.istore 4, 2) := by decide +kernel
theorem dX9_layPlan_134 : decode cX9_layPlan 134 = .ok (.iinc 5 1, 3) := by decide +kernel
theorem dX9_layPlan_137 : decode cX9_layPlan 137 = .ok (.goto (-99), 3) := by decide +kernel
theorem dX9_layPlan_140 : decode cX9_layPlan 140 = .ok (.aload_n 0, 1) := by decide +kernel
theorem dX9_layPlan_141 : decode cX9_layPlan 141 = .ok (.getfield 32, 3) := by decide +kernel
theorem dX9_layPlan_144 : decode cX9_layPlan 144 = .ok (.bipush 8, 2) := by decide +kernel
theorem dX9_layPlan_146 : decode cX9_layPlan 146 = .ok (.iload_n 2, 1) := by decide +kernel
theorem dX9_layPlan_147 : decode cX9_layPlan 147 = .ok (.iadd, 1) := by decide +kernel
theorem dX9_layPlan_148 : decode cX9_layPlan 148 = .ok (.iload 4, 2) := by decide +kernel
theorem dX9_layPlan_150 : decode cX9_layPlan 150 = .ok (.iastore, 1) := by decide +kernel
theorem dX9_layPlan_151 : decode cX9_layPlan 151 = .ok (.iload 4, 2) := by decide +kernel
theorem dX9_layPlan_153 : decode cX9_layPlan 153 = .ok (.aload_n 0, 1) := by decide +kernel
theorem dX9_layPlan_154 : decode cX9_layPlan 154 = .ok (.getfield 19, 3) := by decide +kernel
theorem dX9_layPlan_157 : decode cX9_layPlan 157 = .ok (.iload_n 2, 1) := by decide +kernel
theorem dX9_layPlan_158 : decode cX9_layPlan 158 = .ok (.iaload, 1) := by decide +kernel
theorem dX9_layPlan_159 : decode cX9_layPlan 159 = .ok (.iconst (-1), 1) := by decide +kernel
theorem dX9_layPlan_160 : decode cX9_layPlan 160 = .ok (.ixor, 1) := by decide +kernel
theorem dX9_layPlan_161 : decode cX9_layPlan 161 = .ok (.iand, 1) := by decide +kernel
theorem dX9_layPlan_162 : decode cX9_layPlan 162 = .ok (.istore_n 1, 1) := by decide +kernel
theorem dX9_layPlan_163 : decode cX9_layPlan 163 = .ok (.iinc 2 1, 3) := by decide +kernel
theorem dX9_layPlan_166 : decode cX9_layPlan 166 = .ok (.goto (-162), 3) := by decide +kernel
theorem dX9_layPlan_169 : decode cX9_layPlan 169 = .ok (.return_, 1) := by decide +kernel
set_option maxRecDepth 20000 in
theorem ggX9_layAll_X9_sizeOf : GoodIn wsX9_layAll wsX9_sizeOf := goodIn_r _ [8, 9, 10, 11, 7, 12, 72, 73, 74, 75, 76, 77, 78, 79, 80, 81, 82, 83, 84, 85, 86, 87, 88, 89, 90, 91, 92, 93, 94] (by decide +kernel) (by decide +kernel)
set_option maxRecDepth 20000 in
theorem gX9_layAll_X9_sizeOf : GoodIn wsX9_layAll (wsV RX9 106 RX9 yX9_sizeOf wsX9_sizeOf) := goodIn_app (goodIn_of _ (by decide +kernel)) ggX9_layAll_X9_sizeOf
set_option maxRecDepth 20000 in
theorem ggX9_layAll_X9_laySoonest : GoodIn wsX9_layAll wsX9_laySoonest := goodIn_r _ [16, 17, 18, 2, 19, 20, 21, 22, 23, 24, 7, 25, 26, 27, 28, 29, 30, 31, 9, 32, 33, 34, 35, 36, 37, 38, 39, 40, 41, 42, 72, 73, 74, 75, 76, 77, 78, 79, 80, 81, 82, 83, 84, 85, 86, 87, 88, 89, 90, 91, 92, 93, 94] (by decide +kernel) (by decide +kernel)
set_option maxRecDepth 20000 in
theorem gX9_layAll_X9_laySoonest : GoodIn wsX9_layAll (wsV RX9 123 RX9 yX9_laySoonest wsX9_laySoonest) := goodIn_app (goodIn_of _ (by decide +kernel)) ggX9_layAll_X9_laySoonest
set_option maxRecDepth 20000 in
theorem ggX9_layAll_X9_layBetter : GoodIn wsX9_layAll wsX9_layBetter := goodIn_r _ [46, 47, 48, 49, 17, 50, 51, 52, 7, 53, 54, 2, 19, 55, 56, 57, 58, 59, 22, 23, 24, 25, 26, 27, 60, 61, 62, 63, 21, 64, 65, 66, 67, 72, 73, 74, 75, 76, 77, 78, 79, 80, 81, 82, 83, 84, 85, 86, 87, 88, 89, 90, 91, 92, 93, 94] (by decide +kernel) (by decide +kernel)
set_option maxRecDepth 20000 in
theorem gX9_layAll_X9_layBetter : GoodIn wsX9_layAll (wsV RX9 126 RX9 yX9_layBetter wsX9_layBetter) := goodIn_app (goodIn_of _ (by decide +kernel)) ggX9_layAll_X9_layBetter
set_option maxRecDepth 20000 in
theorem ggX9_layAll_X9_layLeast : GoodIn wsX9_layAll wsX9_layLeast := goodIn_r _ [53, 54, 17, 2, 19, 55, 56, 57, 58, 7, 59, 22, 23, 24, 25, 26, 27, 60, 61, 62, 63, 21, 72, 73, 74, 75, 76, 77, 78, 79, 80, 81, 82, 83, 84, 85, 86, 87, 88, 89, 90, 91, 92, 93, 94] (by decide +kernel) (by decide +kernel)
set_option maxRecDepth 20000 in
theorem gX9_layAll_X9_layLeast : GoodIn wsX9_layAll (wsV RX9 129 RX9 yX9_layLeast wsX9_layLeast) := goodIn_app (goodIn_of _ (by decide +kernel)) ggX9_layAll_X9_layLeast
set_option maxRecDepth 20000 in
theorem ggX9_layAll_X9_layPlan : GoodIn wsX9_layAll wsX9_layPlan := goodIn_r _ [71, 17, 18, 2, 19, 54, 20, 21, 22, 23, 24, 7, 25, 26, 27, 60, 61, 62, 63, 72, 73, 74, 75, 76, 77, 78, 79, 80, 81, 82, 83, 84, 85, 86, 87, 88, 89, 90, 91, 92, 93, 94] (by decide +kernel) (by decide +kernel)
set_option maxRecDepth 20000 in
theorem gX9_layAll_X9_layPlan : GoodIn wsX9_layAll (wsV RX9 135 RX9 yX9_layPlan wsX9_layPlan) := goodIn_app (goodIn_of _ (by decide +kernel)) ggX9_layAll_X9_layPlan
theorem dX9_layAll_0 : decode cX9_layAll 0 = .ok (.aload_n 0, 1) := by decide +kernel
theorem dX9_layAll_1 : decode cX9_layAll 1 = .ok (.getfield 75, 3) := by decide +kernel
theorem dX9_layAll_4 : decode cX9_layAll 4 = .ok (.ifCond .eq 4, 3) := by decide +kernel
theorem dX9_layAll_7 : decode cX9_layAll 7 = .ok (.return_, 1) := by decide +kernel
theorem dX9_layAll_8 : decode cX9_layAll 8 = .ok (.iconst 0, 1) := by decide +kernel
theorem dX9_layAll_9 : decode cX9_layAll 9 = .ok (.istore_n 1, 1) := by decide +kernel
theorem dX9_layAll_10 : decode cX9_layAll 10 = .ok (.iload_n 1, 1) := by decide +kernel
theorem dX9_layAll_11 : decode cX9_layAll 11 = .ok (.sipush 255, 3) := by decide +kernel
theorem dX9_layAll_14 : decode cX9_layAll 14 = .ok (.if_icmp .gt 20, 3) := by decide +kernel
theorem dX9_layAll_17 : decode cX9_layAll 17 = .ok (.aload_n 0, 1) := by decide +kernel
theorem dX9_layAll_18 : decode cX9_layAll 18 = .ok (.getfield 38, 3) := by decide +kernel
theorem dX9_layAll_21 : decode cX9_layAll 21 = .ok (.iload_n 1, 1) := by decide +kernel
theorem dX9_layAll_22 : decode cX9_layAll 22 = .ok (.aload_n 0, 1) := by decide +kernel
theorem dX9_layAll_23 : decode cX9_layAll 23 = .ok (.iload_n 1, 1) := by decide +kernel
theorem dX9_layAll_24 : decode cX9_layAll 24 = .ok (.invokevirtual 106, 3) := by decide +kernel
theorem dX9_layAll_27 : decode cX9_layAll 27 = .ok (.iastore, 1) := by decide +kernel
theorem dX9_layAll_28 : decode cX9_layAll 28 = .ok (.iinc 1 1, 3) := by decide +kernel
theorem dX9_layAll_31 : decode cX9_layAll 31 = .ok (.goto (-21), 3) := by decide +kernel
theorem dX9_layAll_34 : decode cX9_layAll 34 = .ok (.aload_n 0, 1) := by decide +kernel
theorem dX9_layAll_35 : decode cX9_layAll 35 = .ok (.invokevirtual 123, 3) := by decide +kernel
theorem dX9_layAll_38 : decode cX9_layAll 38 = .ok (.aload_n 0, 1) := by decide +kernel
theorem dX9_layAll_39 : decode cX9_layAll 39 = .ok (.invokevirtual 126, 3) := by decide +kernel
theorem dX9_layAll_42 : decode cX9_layAll 42 = .ok (.aload_n 0, 1) := by decide +kernel
theorem dX9_layAll_43 : decode cX9_layAll 43 = .ok (.aload_n 0, 1) := by decide +kernel
theorem dX9_layAll_44 : decode cX9_layAll 44 = .ok (.invokevirtual 129, 3) := by decide +kernel
theorem dX9_layAll_47 : decode cX9_layAll 47 = .ok (.putfield 132, 3) := by decide +kernel
theorem dX9_layAll_50 : decode cX9_layAll 50 = .ok (.aload_n 0, 1) := by decide +kernel
theorem dX9_layAll_51 : decode cX9_layAll 51 = .ok (.invokevirtual 135, 3) := by decide +kernel
theorem dX9_layAll_54 : decode cX9_layAll 54 = .ok (.aload_n 0, 1) := by decide +kernel
theorem dX9_layAll_55 : decode cX9_layAll 55 = .ok (.iconst 1, 1) := by decide +kernel
theorem dX9_layAll_56 : decode cX9_layAll 56 = .ok (.putfield 75, 3) := by decide +kernel
theorem dX9_layAll_59 : decode cX9_layAll 59 = .ok (.return_, 1) := by decide +kernel
set_option maxRecDepth 20000 in
theorem ggX9_keptNow_X9_layAll : GoodIn wsX9_keptNow wsX9_layAll := goodIn_r _ [7, 8, 9, 10, 11, 12, 13, 6, 14, 15, 16, 17, 18, 19, 20, 21, 22, 23, 2, 24, 1, 25, 26, 27, 28, 29, 30, 31, 32, 33, 34, 35, 36, 37, 38, 39, 40, 41, 42, 43, 44, 45, 46, 47, 48, 49, 50, 51, 52, 53, 54, 55, 56, 57, 58, 59, 60, 61, 62, 63, 64, 65, 66, 67, 68, 69, 70, 71, 72, 73, 74, 75, 76, 77, 78, 79, 80, 81, 82, 83, 84, 85, 86, 87, 88, 89, 90, 91, 92, 93, 94, 95, 96, 97, 98] (by decide +kernel) (by decide +kernel)
set_option maxRecDepth 20000 in
theorem gX9_keptNow_X9_layAll : GoodIn wsX9_keptNow (wsV RX9 138 RX9 yX9_layAll wsX9_layAll) := goodIn_app (goodIn_of _ (by decide +kernel)) ggX9_keptNow_X9_layAll
set_option maxRecDepth 20000 in
theorem ggX9_keptNow_X9_sizeOf : GoodIn wsX9_keptNow wsX9_sizeOf := goodIn_r _ [14, 15, 16, 17, 6, 18, 76, 77, 78, 79, 80, 81, 82, 83, 84, 85, 86, 87, 88, 89, 90, 91, 92, 93, 94, 95, 96, 97, 98] (by decide +kernel) (by decide +kernel)
set_option maxRecDepth 20000 in
theorem gX9_keptNow_X9_sizeOf : GoodIn wsX9_keptNow (wsV RX9 106 RX9 yX9_sizeOf wsX9_sizeOf) := goodIn_app (goodIn_of _ (by decide +kernel)) ggX9_keptNow_X9_sizeOf
theorem dX9_keptNow_0 : decode cX9_keptNow 0 = .ok (.aload_n 0, 1) := by decide +kernel
theorem dX9_keptNow_1 : decode cX9_keptNow 1 = .ok (.invokevirtual 138, 3) := by decide +kernel
theorem dX9_keptNow_4 : decode cX9_keptNow 4 = .ok (.aload_n 0, 1) := by decide +kernel
theorem dX9_keptNow_5 : decode cX9_keptNow 5 = .ok (.getfield 32, 3) := by decide +kernel
theorem dX9_keptNow_8 : decode cX9_keptNow 8 = .ok (.iload_n 1, 1) := by decide +kernel
theorem dX9_keptNow_9 : decode cX9_keptNow 9 = .ok (.iaload, 1) := by decide +kernel
theorem dX9_keptNow_10 : decode cX9_keptNow 10 = .ok (.aload_n 0, 1) := by decide +kernel
theorem dX9_keptNow_11 : decode cX9_keptNow 11 = .ok (.getfield 29, 3) := by decide +kernel
theorem dX9_keptNow_14 : decode cX9_keptNow 14 = .ok (.iload_n 1, 1) := by decide +kernel
theorem dX9_keptNow_15 : decode cX9_keptNow 15 = .ok (.iaload, 1) := by decide +kernel
theorem dX9_keptNow_16 : decode cX9_keptNow 16 = .ok (.iconst (-1), 1) := by decide +kernel
theorem dX9_keptNow_17 : decode cX9_keptNow 17 = .ok (.ixor, 1) := by decide +kernel
theorem dX9_keptNow_18 : decode cX9_keptNow 18 = .ok (.iand, 1) := by decide +kernel
theorem dX9_keptNow_19 : decode cX9_keptNow 19 = .ok (.istore_n 3, 1) := by decide +kernel
theorem dX9_keptNow_20 : decode cX9_keptNow 20 = .ok (.iload_n 2, 1) := by decide +kernel
theorem dX9_keptNow_21 : decode cX9_keptNow 21 = .ok (.ifCond .ne 12, 3) := by decide +kernel
theorem dX9_keptNow_24 : decode cX9_keptNow 24 = .ok (.aload_n 0, 1) := by decide +kernel
theorem dX9_keptNow_25 : decode cX9_keptNow 25 = .ok (.getfield 32, 3) := by decide +kernel
theorem dX9_keptNow_28 : decode cX9_keptNow 28 = .ok (.iload_n 1, 1) := by decide +kernel
theorem dX9_keptNow_29 : decode cX9_keptNow 29 = .ok (.iaload, 1) := by decide +kernel
theorem dX9_keptNow_30 : decode cX9_keptNow 30 = .ok (.goto 40, 3) := by decide +kernel
theorem dX9_keptNow_33 : decode cX9_keptNow 33 = .ok (.iload_n 2, 1) := by decide +kernel
theorem dX9_keptNow_34 : decode cX9_keptNow 34 = .ok (.iconst 1, 1) := by decide +kernel
theorem dX9_keptNow_35 : decode cX9_keptNow 35 = .ok (.if_icmp .ne 7, 3) := by decide +kernel
theorem dX9_keptNow_38 : decode cX9_keptNow 38 = .ok (.iload_n 3, 1) := by decide +kernel
theorem dX9_keptNow_39 : decode cX9_keptNow 39 = .ok (.goto 31, 3) := by decide +kernel
theorem dX9_keptNow_42 : decode cX9_keptNow 42 = .ok (.iload_n 2, 1) := by decide +kernel
theorem dX9_keptNow_43 : decode cX9_keptNow 43 = .ok (.iconst 2, 1) := by decide +kernel
theorem dX9_keptNow_44 : decode cX9_keptNow 44 = .ok (.if_icmp .ne 21, 3) := by decide +kernel
theorem dX9_keptNow_47 : decode cX9_keptNow 47 = .ok (.aload_n 0, 1) := by decide +kernel
theorem dX9_keptNow_48 : decode cX9_keptNow 48 = .ok (.getfield 29, 3) := by decide +kernel
theorem dX9_keptNow_51 : decode cX9_keptNow 51 = .ok (.iload_n 1, 1) := by decide +kernel
theorem dX9_keptNow_52 : decode cX9_keptNow 52 = .ok (.iaload, 1) := by decide +kernel
theorem dX9_keptNow_53 : decode cX9_keptNow 53 = .ok (.aload_n 0, 1) := by decide +kernel
theorem dX9_keptNow_54 : decode cX9_keptNow 54 = .ok (.getfield 32, 3) := by decide +kernel
theorem dX9_keptNow_57 : decode cX9_keptNow 57 = .ok (.iload_n 1, 1) := by decide +kernel
theorem dX9_keptNow_58 : decode cX9_keptNow 58 = .ok (.iaload, 1) := by decide +kernel
theorem dX9_keptNow_59 : decode cX9_keptNow 59 = .ok (.iconst (-1), 1) := by decide +kernel
theorem dX9_keptNow_60 : decode cX9_keptNow 60 = .ok (.ixor, 1) := by decide +kernel
theorem dX9_keptNow_61 : decode cX9_keptNow 61 = .ok (.iand, 1) := by decide +kernel
theorem dX9_keptNow_62 : decode cX9_keptNow 62 = .ok (.goto 8, 3) := by decide +kernel
theorem dX9_keptNow_65 : decode cX9_keptNow 65 = .ok (.aload_n 0, 1) := by decide +kernel
theorem dX9_keptNow_66 : decode cX9_keptNow 66 = .ok (.iload_n 3, 1) := by decide +kernel
theorem dX9_keptNow_67 : decode cX9_keptNow 67 = .ok (.invokevirtual 106, 3) := by decide +kernel
theorem dX9_keptNow_70 : decode cX9_keptNow 70 = .ok (.ireturn, 1) := by decide +kernel
set_option maxRecDepth 20000 in
theorem ggX9_refused_X9_isPlace : GoodIn wsX9_refused wsX9_isPlace := goodIn_r _ [5, 6, 7, 8, 4, 9, 29, 30, 31, 32, 33, 34, 35, 36, 37, 38, 39, 40, 41, 42, 43, 44, 45, 46, 47, 48, 49, 50, 51] (by decide +kernel) (by decide +kernel)
set_option maxRecDepth 20000 in
theorem gX9_refused_X9_isPlace : GoodIn wsX9_refused (wsV RX9 85 RX9 yX9_isPlace wsX9_isPlace) := goodIn_app (goodIn_of _ (by decide +kernel)) ggX9_refused_X9_isPlace
set_option maxRecDepth 20000 in
theorem ggX9_refused_X9_within : GoodIn wsX9_refused wsX9_within := goodIn_r _ [9] (by decide +kernel) (by decide +kernel)
set_option maxRecDepth 20000 in
theorem gX9_refused_X9_within : GoodIn wsX9_refused (va_wsS RX9 48 yX9_within wsX9_within) := goodIn_app (goodIn_of _ (by decide +kernel)) ggX9_refused_X9_within
set_option maxRecDepth 20000 in
theorem ggX9_refused_X9_isTooBig : GoodIn wsX9_refused wsX9_isTooBig := goodIn_r _ [13, 6, 14, 15, 16, 17, 4, 18, 19, 20, 21, 22, 23, 24, 25, 26, 27, 28, 29, 30, 31, 32, 33, 34, 35, 36, 37, 38, 39, 40, 41, 42, 43, 44, 45, 46, 47, 48, 49, 50, 51] (by decide +kernel) (by decide +kernel)
set_option maxRecDepth 20000 in
theorem gX9_refused_X9_isTooBig : GoodIn wsX9_refused (wsV RX9 141 RX9 yX9_isTooBig wsX9_isTooBig) := goodIn_app (goodIn_of _ (by decide +kernel)) ggX9_refused_X9_isTooBig
theorem dX9_refused_0 : decode cX9_refused 0 = .ok (.aload_n 0, 1) := by decide +kernel
theorem dX9_refused_1 : decode cX9_refused 1 = .ok (.iload_n 1, 1) := by decide +kernel
theorem dX9_refused_2 : decode cX9_refused 2 = .ok (.invokevirtual 85, 3) := by decide +kernel
theorem dX9_refused_5 : decode cX9_refused 5 = .ok (.ifCond .ne 9, 3) := by decide +kernel
theorem dX9_refused_8 : decode cX9_refused 8 = .ok (.sipush (-1001), 3) := by decide +kernel
theorem dX9_refused_11 : decode cX9_refused 11 = .ok (.goto 32, 3) := by decide +kernel
theorem dX9_refused_14 : decode cX9_refused 14 = .ok (.iload_n 2, 1) := by decide +kernel
theorem dX9_refused_15 : decode cX9_refused 15 = .ok (.iconst 0, 1) := by decide +kernel
theorem dX9_refused_16 : decode cX9_refused 16 = .ok (.iconst 3, 1) := by decide +kernel
theorem dX9_refused_17 : decode cX9_refused 17 = .ok (.invokestatic 48, 3) := by decide +kernel
theorem dX9_refused_20 : decode cX9_refused 20 = .ok (.ifCond .ne 9, 3) := by decide +kernel
theorem dX9_refused_23 : decode cX9_refused 23 = .ok (.sipush (-1002), 3) := by decide +kernel
theorem dX9_refused_26 : decode cX9_refused 26 = .ok (.goto 17, 3) := by decide +kernel
theorem dX9_refused_29 : decode cX9_refused 29 = .ok (.aload_n 0, 1) := by decide +kernel
theorem dX9_refused_30 : decode cX9_refused 30 = .ok (.invokevirtual 141, 3) := by decide +kernel
theorem dX9_refused_33 : decode cX9_refused 33 = .ok (.ifCond .eq 9, 3) := by decide +kernel
theorem dX9_refused_36 : decode cX9_refused 36 = .ok (.sipush (-1003), 3) := by decide +kernel
theorem dX9_refused_39 : decode cX9_refused 39 = .ok (.goto 4, 3) := by decide +kernel
theorem dX9_refused_42 : decode cX9_refused 42 = .ok (.iconst 0, 1) := by decide +kernel
theorem dX9_refused_43 : decode cX9_refused 43 = .ok (.ireturn, 1) := by decide +kernel
set_option maxRecDepth 20000 in
theorem ggX9_soonest_X9_refused : GoodIn wsX9_soonest wsX9_refused := goodIn_r _ [5, 6, 7, 8, 4, 9, 10, 11, 12, 13, 14, 15, 16, 17, 18, 19, 20, 21, 22, 23, 24, 25, 26, 27, 28, 29, 30, 31, 32, 95, 96, 97, 98, 99, 100, 101, 102, 103, 104, 105, 106, 107, 108, 109, 110, 111, 112, 113, 114, 115, 116, 117] (by decide +kernel) (by decide +kernel)
set_option maxRecDepth 20000 in
theorem gX9_soonest_X9_refused : GoodIn wsX9_soonest (wsV RX9 145 RX9 yX9_refused wsX9_refused) := goodIn_app (goodIn_of _ (by decide +kernel)) ggX9_soonest_X9_refused
set_option maxRecDepth 20000 in
theorem ggX9_soonest_X9_keptNow : GoodIn wsX9_soonest wsX9_keptNow := goodIn_r _ [36, 37, 38, 39, 40, 41, 4, 42, 43, 44, 45, 25, 26, 27, 28, 29, 30, 31, 32, 46, 47, 48, 49, 10, 18, 50, 19, 20, 21, 22, 23, 24, 51, 52, 53, 54, 55, 56, 57, 58, 59, 60, 61, 62, 63, 64, 65, 66, 67, 68, 69, 70, 71, 72, 73, 74, 75, 76, 77, 78, 79, 80, 81, 82, 83, 84, 85, 86, 87, 88, 89, 90, 91, 92, 93, 94, 95, 96, 97, 98, 99, 100, 101, 102, 103, 104, 105, 106, 107, 108, 109, 110, 111, 112, 113, 114, 115, 116, 117] (by decide +kernel) (by decide +kernel)
set_option maxRecDepth 20000 in
theorem gX9_soonest_X9_keptNow : GoodIn wsX9_soonest (wsV RX9 148 RX9 yX9_keptNow wsX9_keptNow) := goodIn_app (goodIn_of _ (by decide +kernel)) ggX9_soonest_X9_keptNow
theorem dX9_soonest_0 : decode cX9_soonest 0 = .ok (.aload_n 0, 1) := by decide +kernel
theorem dX9_soonest_1 : decode cX9_soonest 1 = .ok (.iload_n 1, 1) := by decide +kernel
theorem dX9_soonest_2 : decode cX9_soonest 2 = .ok (.iload_n 2, 1) := by decide +kernel
theorem dX9_soonest_3 : decode cX9_soonest 3 = .ok (.invokevirtual 145, 3) := by decide +kernel
theorem dX9_soonest_6 : decode cX9_soonest 6 = .ok (.istore_n 3, 1) := by decide +kernel
theorem dX9_soonest_7 : decode cX9_soonest 7 = .ok (.iload_n 3, 1) := by decide +kernel
theorem dX9_soonest_8 : decode cX9_soonest 8 = .ok (.ifCond .ne 12, 3) := by decide +kernel
theorem dX9_soonest_11 : decode cX9_soonest 11 = .ok (.aload_n 0, 1) := by decide +kernel
theorem dX9_soonest_12 : decode cX9_soonest 12 = .ok (.iload_n 1, 1) := by decide +kernel
theorem dX9_soonest_13 : decode cX9_soonest 13 = .ok (.iload_n 2, 1) := by decide +kernel
theorem dX9_soonest_14 : decode cX9_soonest 14 = .ok (.invokevirtual 148, 3) := by decide +kernel
theorem dX9_soonest_17 : decode cX9_soonest 17 = .ok (.goto 4, 3) := by decide +kernel
theorem dX9_soonest_20 : decode cX9_soonest 20 = .ok (.iload_n 3, 1) := by decide +kernel
theorem dX9_soonest_21 : decode cX9_soonest 21 = .ok (.ireturn, 1) := by decide +kernel
set_option maxRecDepth 20000 in
theorem ggX9_plan_X9_refused : GoodIn wsX9_plan wsX9_refused := goodIn_r _ [5, 6, 7, 8, 4, 9, 10, 11, 12, 13, 14, 15, 16, 17, 18, 19, 20, 21, 22, 23, 24, 25, 26, 27, 28, 29, 30, 31, 32, 95, 96, 97, 98, 99, 100, 101, 102, 103, 104, 105, 106, 107, 108, 109, 110, 111, 112, 113, 114, 115, 116, 117] (by decide +kernel) (by decide +kernel)
set_option maxRecDepth 20000 in
theorem gX9_plan_X9_refused : GoodIn wsX9_plan (wsV RX9 145 RX9 yX9_refused wsX9_refused) := goodIn_app (goodIn_of _ (by decide +kernel)) ggX9_plan_X9_refused
set_option maxRecDepth 20000 in
theorem ggX9_plan_X9_keptNow : GoodIn wsX9_plan wsX9_keptNow := goodIn_r _ [36, 37, 38, 39, 40, 41, 4, 42, 43, 44, 45, 25, 26, 27, 28, 29, 30, 31, 32, 46, 47, 48, 49, 10, 18, 50, 19, 20, 21, 22, 23, 24, 51, 52, 53, 54, 55, 56, 57, 58, 59, 60, 61, 62, 63, 64, 65, 66, 67, 68, 69, 70, 71, 72, 73, 74, 75, 76, 77, 78, 79, 80, 81, 82, 83, 84, 85, 86, 87, 88, 89, 90, 91, 92, 93, 94, 95, 96, 97, 98, 99, 100, 101, 102, 103, 104, 105, 106, 107, 108, 109, 110, 111, 112, 113, 114, 115, 116, 117] (by decide +kernel) (by decide +kernel)
set_option maxRecDepth 20000 in
theorem gX9_plan_X9_keptNow : GoodIn wsX9_plan (wsV RX9 148 RX9 yX9_keptNow wsX9_keptNow) := goodIn_app (goodIn_of _ (by decide +kernel)) ggX9_plan_X9_keptNow
theorem dX9_plan_0 : decode cX9_plan 0 = .ok (.aload_n 0, 1) := by decide +kernel
theorem dX9_plan_1 : decode cX9_plan 1 = .ok (.iload_n 1, 1) := by decide +kernel
theorem dX9_plan_2 : decode cX9_plan 2 = .ok (.iload_n 2, 1) := by decide +kernel
theorem dX9_plan_3 : decode cX9_plan 3 = .ok (.invokevirtual 145, 3) := by decide +kernel
theorem dX9_plan_6 : decode cX9_plan 6 = .ok (.istore_n 3, 1) := by decide +kernel
theorem dX9_plan_7 : decode cX9_plan 7 = .ok (.iload_n 3, 1) := by decide +kernel
theorem dX9_plan_8 : decode cX9_plan 8 = .ok (.ifCond .ne 15, 3) := by decide +kernel
theorem dX9_plan_11 : decode cX9_plan 11 = .ok (.aload_n 0, 1) := by decide +kernel
theorem dX9_plan_12 : decode cX9_plan 12 = .ok (.bipush 8, 2) := by decide +kernel
theorem dX9_plan_14 : decode cX9_plan 14 = .ok (.iload_n 1, 1) := by decide +kernel
theorem dX9_plan_15 : decode cX9_plan 15 = .ok (.iadd, 1) := by decide +kernel
theorem dX9_plan_16 : decode cX9_plan 16 = .ok (.iload_n 2, 1) := by decide +kernel
theorem dX9_plan_17 : decode cX9_plan 17 = .ok (.invokevirtual 148, 3) := by decide +kernel
theorem dX9_plan_20 : decode cX9_plan 20 = .ok (.goto 4, 3) := by decide +kernel
theorem dX9_plan_23 : decode cX9_plan 23 = .ok (.iload_n 3, 1) := by decide +kernel
theorem dX9_plan_24 : decode cX9_plan 24 = .ok (.ireturn, 1) := by decide +kernel
set_option maxRecDepth 20000 in
theorem ggX9_keptAll_X9_keptNow : GoodIn wsX9_keptAll wsX9_keptNow := goodIn_r _ [6, 7, 8, 9, 10, 11, 5, 12, 13, 14, 15, 16, 17, 18, 19, 20, 21, 22, 23, 24, 25, 26, 27, 1, 28, 29, 30, 31, 32, 33, 34, 35, 36, 37, 38, 39, 40, 41, 42, 43, 44, 45, 46, 47, 48, 49, 50, 51, 52, 53, 54, 55, 56, 57, 58, 59, 60, 61, 62, 63, 64, 65, 66, 67, 68, 69, 70, 71, 72, 73, 74, 75, 76, 77, 78, 79, 80, 81, 82, 83, 84, 85, 86, 87, 88, 89, 90, 91, 92, 93, 94, 95, 96, 97, 98, 99, 100, 101, 102] (by decide +kernel) (by decide +kernel)
set_option maxRecDepth 20000 in
theorem gX9_keptAll_X9_keptNow : GoodIn wsX9_keptAll (wsV RX9 148 RX9 yX9_keptNow wsX9_keptNow) := goodIn_app (goodIn_of _ (by decide +kernel)) ggX9_keptAll_X9_keptNow
set_option maxRecDepth 20000 in
theorem ggX9_keptAll_X9_ones : GoodIn wsX9_keptAll wsX9_ones := goodIn_r _ [23] (by decide +kernel) (by decide +kernel)
set_option maxRecDepth 20000 in
theorem gX9_keptAll_X9_ones : GoodIn wsX9_keptAll (va_wsS RX9 41 yX9_ones wsX9_ones) := goodIn_app (goodIn_of _ (by decide +kernel)) ggX9_keptAll_X9_ones
theorem dX9_keptAll_0 : decode cX9_keptAll 0 = .ok (.iconst 0, 1) := by decide +kernel
theorem dX9_keptAll_1 : decode cX9_keptAll 1 = .ok (.istore_n 3, 1) := by decide +kernel
theorem dX9_keptAll_2 : decode cX9_keptAll 2 = .ok (.iconst 0, 1) := by decide +kernel
theorem dX9_keptAll_3 : decode cX9_keptAll 3 = .ok (.istore 4, 2) := by decide +kernel
theorem dX9_keptAll_5 : decode cX9_keptAll 5 = .ok (.iload 4, 2) := by decide +kernel
theorem dX9_keptAll_7 : decode cX9_keptAll 7 = .ok (.aload_n 0, 1) := by decide +kernel
theorem dX9_keptAll_8 : decode cX9_keptAll 8 = .ok (.getfield 69, 3) := by decide +kernel
theorem dX9_keptAll_11 : decode cX9_keptAll 11 = .ok (.if_icmp .ge 52, 3) := by decide +kernel
theorem dX9_keptAll_14 : decode cX9_keptAll 14 = .ok (.iload_n 1, 1) := by decide +kernel
theorem dX9_keptAll_15 : decode cX9_keptAll 15 = .ok (.ifCond .eq 11, 3) := by decide +kernel
theorem dX9_keptAll_18 : decode cX9_keptAll 18 = .ok (.bipush 8, 2) := by decide +kernel
theorem dX9_keptAll_20 : decode cX9_keptAll 20 = .ok (.iload 4, 2) := by decide +kernel
theorem dX9_keptAll_22 : decode cX9_keptAll 22 = .ok (.iadd, 1) := by decide +kernel
theorem dX9_keptAll_23 : decode cX9_keptAll 23 = .ok (.goto 5, 3) := by decide +kernel
theorem dX9_keptAll_26 : decode cX9_keptAll 26 = .ok (.iload 4, 2) := by decide +kernel
theorem dX9_keptAll_28 : decode cX9_keptAll 28 = .ok (.istore 5, 2) := by decide +kernel
theorem dX9_keptAll_30 : decode cX9_keptAll 30 = .ok (.iload_n 3, 1) := by decide +kernel
theorem dX9_keptAll_31 : decode cX9_keptAll 31 = .ok (.iload_n 2, 1) := by decide +kernel
theorem dX9_keptAll_32 : decode cX9_keptAll 32 = .ok (.ifCond .eq 16, 3) := by decide +kernel
theorem dX9_keptAll_35 : decode cX9_keptAll 35 = .ok (.aload_n 0, 1) := by decide +kernel
theorem dX9_keptAll_36 : decode cX9_keptAll 36 = .ok (.iload 5, 2) := by decide +kernel
theorem dX9_keptAll_38 : decode cX9_keptAll 38 = .ok (.iconst 1, 1) := by decide +kernel
theorem dX9_keptAll_39 : decode cX9_keptAll 39 = .ok (.invokevirtual 148, 3) := by decide +kernel
theorem dX9_keptAll_42 : decode cX9_keptAll 42 = .ok (.invokestatic 41, 3) := by decide +kernel
theorem dX9_keptAll_45 : decode cX9_keptAll 45 = .ok (.goto 10, 3) := by decide +kernel
theorem dX9_keptAll_48 : decode cX9_keptAll 48 = .ok (.aload_n 0, 1) := by decide +kernel
theorem dX9_keptAll_49 : decode cX9_keptAll 49 = .ok (.iload 5, 2) := by decide +kernel
theorem dX9_keptAll_51 : decode cX9_keptAll 51 = .ok (.iconst 3, 1) := by decide +kernel
theorem dX9_keptAll_52 : decode cX9_keptAll 52 = .ok (.invokevirtual 148, 3) := by decide +kernel
theorem dX9_keptAll_55 : decode cX9_keptAll 55 = .ok (.iadd, 1) := by decide +kernel
theorem dX9_keptAll_56 : decode cX9_keptAll 56 = .ok (.istore_n 3, 1) := by decide +kernel
theorem dX9_keptAll_57 : decode cX9_keptAll 57 = .ok (.iinc 4 1, 3) := by decide +kernel
theorem dX9_keptAll_60 : decode cX9_keptAll 60 = .ok (.goto (-55), 3) := by decide +kernel
theorem dX9_keptAll_63 : decode cX9_keptAll 63 = .ok (.iload_n 3, 1) := by decide +kernel
theorem dX9_keptAll_64 : decode cX9_keptAll 64 = .ok (.ireturn, 1) := by decide +kernel
set_option maxRecDepth 20000 in
theorem ggX9_leastNow_X9_layAll : GoodIn wsX9_leastNow wsX9_layAll := goodIn_r _ [6, 7, 8, 1, 9, 10, 11, 5, 12, 13, 14, 15, 16, 17, 18, 19, 20, 21, 22, 23, 24, 25, 26, 27, 28, 29, 30, 31, 32, 33, 34, 35, 36, 37, 38, 39, 40, 41, 42, 43, 44, 45, 46, 47, 48, 49, 50, 51, 52, 53, 54, 55, 56, 57, 58, 59, 60, 61, 62, 63, 64, 65, 66, 67, 68, 69, 70, 71, 72, 73, 74, 75, 76, 77, 78, 79, 80, 81, 82, 83, 84, 85, 86, 87, 88, 89, 90, 91, 92, 93, 94, 95, 96, 97, 98] (by decide +kernel) (by decide +kernel)
set_option maxRecDepth 20000 in
theorem gX9_leastNow_X9_layAll : GoodIn wsX9_leastNow (wsV RX9 138 RX9 yX9_layAll wsX9_layAll) := goodIn_app (goodIn_of _ (by decide +kernel)) ggX9_leastNow_X9_layAll
theorem dX9_leastNow_0 : decode cX9_leastNow 0 = .ok (.aload_n 0, 1) := by decide +kernel
theorem dX9_leastNow_1 : decode cX9_leastNow 1 = .ok (.invokevirtual 138, 3) := by decide +kernel
theorem dX9_leastNow_4 : decode cX9_leastNow 4 = .ok (.aload_n 0, 1) := by decide +kernel
theorem dX9_leastNow_5 : decode cX9_leastNow 5 = .ok (.getfield 132, 3) := by decide +kernel
theorem dX9_leastNow_8 : decode cX9_leastNow 8 = .ok (.ireturn, 1) := by decide +kernel
set_option maxRecDepth 20000 in
theorem ggX9_boundNow_X9_needs : GoodIn wsX9_boundNow wsX9_needs := goodIn_r _ [6, 7, 8, 17, 18, 19, 20, 21, 22, 23, 24, 25, 26, 27, 28, 29, 30, 31, 32, 33, 34, 35, 36, 37, 38, 39] (by decide +kernel) (by decide +kernel)
set_option maxRecDepth 20000 in
theorem gX9_boundNow_X9_needs : GoodIn wsX9_boundNow (wsV RX9 96 RX9 yX9_needs wsX9_needs) := goodIn_app (goodIn_of _ (by decide +kernel)) ggX9_boundNow_X9_needs
set_option maxRecDepth 20000 in
theorem ggX9_boundNow_X9_sizeOf : GoodIn wsX9_boundNow wsX9_sizeOf := goodIn_r _ [12, 13, 14, 15, 5, 16, 17, 18, 19, 20, 21, 22, 23, 24, 25, 26, 27, 28, 29, 30, 31, 32, 33, 34, 35, 36, 37, 38, 39] (by decide +kernel) (by decide +kernel)
set_option maxRecDepth 20000 in
theorem gX9_boundNow_X9_sizeOf : GoodIn wsX9_boundNow (wsV RX9 106 RX9 yX9_sizeOf wsX9_sizeOf) := goodIn_app (goodIn_of _ (by decide +kernel)) ggX9_boundNow_X9_sizeOf
theorem dX9_boundNow_0 : decode cX9_boundNow 0 = .ok (.iconst 0, 1) := by decide +kernel
theorem dX9_boundNow_1 : decode cX9_boundNow 1 = .ok (.istore_n 1, 1) := by decide +kernel
theorem dX9_boundNow_2 : decode cX9_boundNow 2 = .ok (.iconst 0, 1) := by decide +kernel
theorem dX9_boundNow_3 : decode cX9_boundNow 3 = .ok (.istore_n 2, 1) := by decide +kernel
theorem dX9_boundNow_4 : decode cX9_boundNow 4 = .ok (.iload_n 2, 1) := by decide +kernel
theorem dX9_boundNow_5 : decode cX9_boundNow 5 = .ok (.aload_n 0, 1) := by decide +kernel
theorem dX9_boundNow_6 : decode cX9_boundNow 6 = .ok (.getfield 69, 3) := by decide +kernel
theorem dX9_boundNow_9 : decode cX9_boundNow 9 = .ok (.if_icmp .ge 17, 3) := by decide +kernel
theorem dX9_boundNow_12 : decode cX9_boundNow 12 = .ok (.iload_n 1, 1) := by decide +kernel
theorem dX9_boundNow_13 : decode cX9_boundNow 13 = .ok (.aload_n 0, 1) := by decide +kernel
theorem dX9_boundNow_14 : decode cX9_boundNow 14 = .ok (.iload_n 2, 1) := by decide +kernel
theorem dX9_boundNow_15 : decode cX9_boundNow 15 = .ok (.invokevirtual 96, 3) := by decide +kernel
theorem dX9_boundNow_18 : decode cX9_boundNow 18 = .ok (.ior, 1) := by decide +kernel
theorem dX9_boundNow_19 : decode cX9_boundNow 19 = .ok (.istore_n 1, 1) := by decide +kernel
theorem dX9_boundNow_20 : decode cX9_boundNow 20 = .ok (.iinc 2 1, 3) := by decide +kernel
theorem dX9_boundNow_23 : decode cX9_boundNow 23 = .ok (.goto (-19), 3) := by decide +kernel
theorem dX9_boundNow_26 : decode cX9_boundNow 26 = .ok (.aload_n 0, 1) := by decide +kernel
theorem dX9_boundNow_27 : decode cX9_boundNow 27 = .ok (.iload_n 1, 1) := by decide +kernel
theorem dX9_boundNow_28 : decode cX9_boundNow 28 = .ok (.invokevirtual 106, 3) := by decide +kernel
theorem dX9_boundNow_31 : decode cX9_boundNow 31 = .ok (.ireturn, 1) := by decide +kernel
set_option maxRecDepth 20000 in
theorem ggX9_isReady_X9_isTooBig : GoodIn wsX9_isReady wsX9_isTooBig := goodIn_r _ [6, 1, 7, 8, 9, 10, 5, 11, 12, 13, 14, 15, 16, 17, 18, 19, 20, 21, 22, 23, 24, 25, 26, 27, 28, 29, 30, 31, 32, 33, 34, 35, 36, 37, 38, 39, 40, 41, 42, 43, 44] (by decide +kernel) (by decide +kernel)
set_option maxRecDepth 20000 in
theorem gX9_isReady_X9_isTooBig : GoodIn wsX9_isReady (wsV RX9 141 RX9 yX9_isTooBig wsX9_isTooBig) := goodIn_app (goodIn_of _ (by decide +kernel)) ggX9_isReady_X9_isTooBig
theorem dX9_isReady_0 : decode cX9_isReady 0 = .ok (.aload_n 0, 1) := by decide +kernel
theorem dX9_isReady_1 : decode cX9_isReady 1 = .ok (.getfield 69, 3) := by decide +kernel
theorem dX9_isReady_4 : decode cX9_isReady 4 = .ok (.ifCond .le 14, 3) := by decide +kernel
theorem dX9_isReady_7 : decode cX9_isReady 7 = .ok (.aload_n 0, 1) := by decide +kernel
theorem dX9_isReady_8 : decode cX9_isReady 8 = .ok (.invokevirtual 141, 3) := by decide +kernel
theorem dX9_isReady_11 : decode cX9_isReady 11 = .ok (.ifCond .ne 7, 3) := by decide +kernel
theorem dX9_isReady_14 : decode cX9_isReady 14 = .ok (.iconst 1, 1) := by decide +kernel
theorem dX9_isReady_15 : decode cX9_isReady 15 = .ok (.goto 4, 3) := by decide +kernel
theorem dX9_isReady_18 : decode cX9_isReady 18 = .ok (.iconst 0, 1) := by decide +kernel
theorem dX9_isReady_19 : decode cX9_isReady 19 = .ok (.ireturn, 1) := by decide +kernel
set_option maxRecDepth 20000 in
theorem ggX9_costNow_X9_keptAll : GoodIn wsX9_costNow wsX9_keptAll := goodIn_r _ [5, 6, 7, 8, 9, 4, 10, 11, 12, 13, 14, 15, 16, 17, 18, 19, 20, 21, 22, 23, 24, 25, 26, 27, 28, 29, 30, 31, 32, 33, 34, 35, 36, 37, 38, 39, 40, 41, 42, 43, 44, 45, 46, 47, 48, 49, 50, 51, 52, 53, 54, 55, 56, 57, 58, 59, 60, 61, 62, 63, 64, 65, 66, 67, 68, 69, 70, 71, 72, 73, 74, 75, 76, 77, 78, 79, 80, 81, 82, 83, 92, 93, 94, 95, 96, 97, 98, 99, 100, 101, 102, 103, 104, 105, 106, 107, 108, 109, 110, 111, 112, 113, 114] (by decide +kernel) (by decide +kernel)
set_option maxRecDepth 20000 in
theorem gX9_costNow_X9_keptAll : GoodIn wsX9_costNow (wsV RX9 151 RX9 yX9_keptAll wsX9_keptAll) := goodIn_app (goodIn_of _ (by decide +kernel)) ggX9_costNow_X9_keptAll
set_option maxRecDepth 20000 in
theorem ggX9_costNow_X9_leastNow : GoodIn wsX9_costNow wsX9_leastNow := goodIn_r _ [87, 19, 13, 14, 15, 4, 16, 17, 18, 20, 21, 22, 23, 24, 25, 26, 27, 28, 29, 30, 31, 6, 12, 32, 11, 33, 34, 35, 36, 37, 38, 39, 40, 41, 42, 43, 44, 45, 46, 47, 48, 49, 50, 51, 52, 53, 54, 55, 56, 57, 58, 59, 60, 61, 62, 63, 64, 65, 66, 67, 68, 69, 70, 71, 72, 73, 74, 75, 76, 77, 78, 79, 80, 81, 82, 83, 92, 93, 94, 95, 96, 97, 98, 99, 100, 101, 102, 103, 104, 105, 106, 107, 108, 109, 110, 111, 112, 113, 114] (by decide +kernel) (by decide +kernel)
set_option maxRecDepth 20000 in
theorem gX9_costNow_X9_leastNow : GoodIn wsX9_costNow (wsV RX9 155 RX9 yX9_leastNow wsX9_leastNow) := goodIn_app (goodIn_of _ (by decide +kernel)) ggX9_costNow_X9_leastNow
set_option maxRecDepth 20000 in
theorem ggX9_costNow_X9_boundNow : GoodIn wsX9_costNow wsX9_boundNow := goodIn_r _ [91, 6, 34, 35, 36, 4, 37, 38, 39, 20, 21, 22, 23, 24, 25, 26, 27, 92, 93, 94, 95, 96, 97, 98, 99, 100, 101, 102, 103, 104, 105, 106, 107, 108, 109, 110, 111, 112, 113, 114] (by decide +kernel) (by decide +kernel)
set_option maxRecDepth 20000 in
theorem gX9_costNow_X9_boundNow : GoodIn wsX9_costNow (wsV RX9 158 RX9 yX9_boundNow wsX9_boundNow) := goodIn_app (goodIn_of _ (by decide +kernel)) ggX9_costNow_X9_boundNow
