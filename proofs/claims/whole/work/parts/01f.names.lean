theorem dX9_costNow_0 : decode cX9_costNow 0 = .ok (.iload_n 1, 1) := by decide +kernel
theorem dX9_costNow_1 : decode cX9_costNow 1 = .ok (.tableswitch 55 0 3 #[31, 38, 43, 48], 31) := by decide +kernel
theorem dX9_costNow_32 : decode cX9_costNow 32 = .ok (.aload_n 0, 1) := by decide +kernel
theorem dX9_costNow_33 : decode cX9_costNow 33 = .ok (.iconst 0, 1) := by decide +kernel
theorem dX9_costNow_34 : decode cX9_costNow 34 = .ok (.iconst 0, 1) := by decide +kernel
theorem dX9_costNow_35 : decode cX9_costNow 35 = .ok (.invokevirtual 151, 3) := by decide +kernel
theorem dX9_costNow_38 : decode cX9_costNow 38 = .ok (.ireturn, 1) := by decide +kernel
theorem dX9_costNow_39 : decode cX9_costNow 39 = .ok (.aload_n 0, 1) := by decide +kernel
theorem dX9_costNow_40 : decode cX9_costNow 40 = .ok (.invokevirtual 155, 3) := by decide +kernel
theorem dX9_costNow_43 : decode cX9_costNow 43 = .ok (.ireturn, 1) := by decide +kernel
theorem dX9_costNow_44 : decode cX9_costNow 44 = .ok (.aload_n 0, 1) := by decide +kernel
theorem dX9_costNow_45 : decode cX9_costNow 45 = .ok (.invokevirtual 158, 3) := by decide +kernel
theorem dX9_costNow_48 : decode cX9_costNow 48 = .ok (.ireturn, 1) := by decide +kernel
theorem dX9_costNow_49 : decode cX9_costNow 49 = .ok (.aload_n 0, 1) := by decide +kernel
theorem dX9_costNow_50 : decode cX9_costNow 50 = .ok (.iconst 0, 1) := by decide +kernel
theorem dX9_costNow_51 : decode cX9_costNow 51 = .ok (.iconst 1, 1) := by decide +kernel
theorem dX9_costNow_52 : decode cX9_costNow 52 = .ok (.invokevirtual 151, 3) := by decide +kernel
theorem dX9_costNow_55 : decode cX9_costNow 55 = .ok (.ireturn, 1) := by decide +kernel
theorem dX9_costNow_56 : decode cX9_costNow 56 = .ok (.aload_n 0, 1) := by decide +kernel
theorem dX9_costNow_57 : decode cX9_costNow 57 = .ok (.iconst 1, 1) := by decide +kernel
theorem dX9_costNow_58 : decode cX9_costNow 58 = .ok (.iconst 1, 1) := by decide +kernel
theorem dX9_costNow_59 : decode cX9_costNow 59 = .ok (.invokevirtual 151, 3) := by decide +kernel
theorem dX9_costNow_62 : decode cX9_costNow 62 = .ok (.ireturn, 1) := by decide +kernel
set_option maxRecDepth 20000 in
theorem ggX9_cost_X9_within : GoodIn wsX9_cost wsX9_within := goodIn_r _ [4] (by decide +kernel) (by decide +kernel)
set_option maxRecDepth 20000 in
theorem gX9_cost_X9_within : GoodIn wsX9_cost (va_wsS RX9 48 yX9_within wsX9_within) := goodIn_app (goodIn_of _ (by decide +kernel)) ggX9_cost_X9_within
set_option maxRecDepth 20000 in
theorem ggX9_cost_X9_isReady : GoodIn wsX9_cost wsX9_isReady := goodIn_r _ [8, 9, 10, 11, 12, 3, 13, 14, 15, 16, 17, 18, 19, 20, 21, 22, 23, 24, 25, 26, 27, 28, 107, 108, 109, 110, 111, 112, 113, 114, 115, 116, 117, 118, 119, 120, 121, 122, 123, 124, 125, 126, 127, 128, 129] (by decide +kernel) (by decide +kernel)
set_option maxRecDepth 20000 in
theorem gX9_cost_X9_isReady : GoodIn wsX9_cost (wsV RX9 161 RX9 yX9_isReady wsX9_isReady) := goodIn_app (goodIn_of _ (by decide +kernel)) ggX9_cost_X9_isReady
set_option maxRecDepth 20000 in
theorem ggX9_cost_X9_costNow : GoodIn wsX9_cost wsX9_costNow := goodIn_r _ [32, 33, 34, 35, 3, 36, 9, 37, 38, 39, 40, 41, 42, 43, 44, 45, 46, 47, 48, 49, 21, 22, 23, 24, 25, 26, 27, 28, 50, 51, 52, 53, 14, 54, 15, 16, 17, 18, 19, 20, 55, 56, 57, 58, 59, 60, 61, 62, 63, 64, 65, 66, 67, 68, 69, 70, 71, 72, 73, 74, 75, 76, 77, 78, 79, 80, 81, 82, 83, 84, 85, 86, 87, 88, 89, 90, 91, 92, 93, 94, 95, 96, 97, 98, 99, 100, 101, 102, 103, 104, 105, 106, 107, 108, 109, 110, 111, 112, 113, 114, 115, 116, 117, 118, 119, 120, 121, 122, 123, 124, 125, 126, 127, 128, 129] (by decide +kernel) (by decide +kernel)
set_option maxRecDepth 20000 in
theorem gX9_cost_X9_costNow : GoodIn wsX9_cost (wsV RX9 164 RX9 yX9_costNow wsX9_costNow) := goodIn_app (goodIn_of _ (by decide +kernel)) ggX9_cost_X9_costNow
theorem dX9_cost_0 : decode cX9_cost 0 = .ok (.iload_n 1, 1) := by decide +kernel
theorem dX9_cost_1 : decode cX9_cost 1 = .ok (.iconst 0, 1) := by decide +kernel
theorem dX9_cost_2 : decode cX9_cost 2 = .ok (.iconst 4, 1) := by decide +kernel
theorem dX9_cost_3 : decode cX9_cost 3 = .ok (.invokestatic 48, 3) := by decide +kernel
theorem dX9_cost_6 : decode cX9_cost 6 = .ok (.ifCond .ne 7, 3) := by decide +kernel
theorem dX9_cost_9 : decode cX9_cost 9 = .ok (.sipush (-1002), 3) := by decide +kernel
theorem dX9_cost_12 : decode cX9_cost 12 = .ok (.ireturn, 1) := by decide +kernel
theorem dX9_cost_13 : decode cX9_cost 13 = .ok (.aload_n 0, 1) := by decide +kernel
theorem dX9_cost_14 : decode cX9_cost 14 = .ok (.invokevirtual 161, 3) := by decide +kernel
theorem dX9_cost_17 : decode cX9_cost 17 = .ok (.ifCond .eq 11, 3) := by decide +kernel
theorem dX9_cost_20 : decode cX9_cost 20 = .ok (.aload_n 0, 1) := by decide +kernel
theorem dX9_cost_21 : decode cX9_cost 21 = .ok (.iload_n 1, 1) := by decide +kernel
theorem dX9_cost_22 : decode cX9_cost 22 = .ok (.invokevirtual 164, 3) := by decide +kernel
theorem dX9_cost_25 : decode cX9_cost 25 = .ok (.goto 6, 3) := by decide +kernel
theorem dX9_cost_28 : decode cX9_cost 28 = .ok (.sipush (-1003), 3) := by decide +kernel
theorem dX9_cost_31 : decode cX9_cost 31 = .ok (.ireturn, 1) := by decide +kernel
set_option maxRecDepth 20000 in
theorem ggX9_meanNow_X9_keptAll : GoodIn wsX9_meanNow wsX9_keptAll := goodIn_r _ [6, 1, 7, 8, 9, 5, 10, 11, 12, 13, 14, 15, 16, 17, 18, 19, 20, 21, 22, 23, 24, 25, 26, 27, 28, 29, 30, 31, 32, 33, 34, 35, 36, 37, 38, 39, 40, 41, 42, 43, 44, 45, 46, 47, 48, 49, 50, 51, 52, 53, 54, 55, 56, 57, 58, 59, 60, 61, 62, 63, 64, 65, 66, 67, 68, 69, 70, 71, 72, 73, 74, 75, 76, 77, 78, 79, 80, 81, 82, 83, 96, 97, 98, 99, 100, 101, 102, 103, 104, 105, 106, 107, 108, 109, 110, 111, 112, 113, 114, 115, 116, 117, 118] (by decide +kernel) (by decide +kernel)
set_option maxRecDepth 20000 in
theorem gX9_meanNow_X9_keptAll : GoodIn wsX9_meanNow (wsV RX9 151 RX9 yX9_keptAll wsX9_keptAll) := goodIn_app (goodIn_of _ (by decide +kernel)) ggX9_meanNow_X9_keptAll
set_option maxRecDepth 20000 in
theorem ggX9_meanNow_Jxe99ae_doubleToLongBits_ccdee : GoodIn wsX9_meanNow wsJxe99ae_doubleToLongBits_ccdee := goodIn_r _ [87, 88, 89, 90, 91, 92, 93, 94, 86, 95] (by decide +kernel) (by decide +kernel)
set_option maxRecDepth 20000 in
theorem gX9_meanNow_Jxe99ae_doubleToLongBits_ccdee : GoodIn wsX9_meanNow (va_wsS RX9 167 yJxe99ae_doubleToLongBits_ccdee wsJxe99ae_doubleToLongBits_ccdee) := goodIn_app (goodIn_of _ (by decide +kernel)) ggX9_meanNow_Jxe99ae_doubleToLongBits_ccdee
theorem dX9_meanNow_0 : decode cX9_meanNow 0 = .ok (.aload_n 0, 1) := by decide +kernel
theorem dX9_meanNow_1 : decode cX9_meanNow 1 = .ok (.iconst 0, 1) := by decide +kernel
theorem dX9_meanNow_2 : decode cX9_meanNow 2 = .ok (.iconst 0, 1) := by decide +kernel
theorem dX9_meanNow_3 : decode cX9_meanNow 3 = .ok (.invokevirtual 151, 3) := by decide +kernel
theorem dX9_meanNow_6 : decode cX9_meanNow 6 = .ok (.i2d, 1) := by decide +kernel
theorem dX9_meanNow_7 : decode cX9_meanNow 7 = .ok (.aload_n 0, 1) := by decide +kernel
theorem dX9_meanNow_8 : decode cX9_meanNow 8 = .ok (.getfield 69, 3) := by decide +kernel
theorem dX9_meanNow_11 : decode cX9_meanNow 11 = .ok (.i2d, 1) := by decide +kernel
theorem dX9_meanNow_12 : decode cX9_meanNow 12 = .ok (.ddiv, 1) := by decide +kernel
theorem dX9_meanNow_13 : decode cX9_meanNow 13 = .ok (.invokestatic 167, 3) := by decide +kernel
theorem dX9_meanNow_16 : decode cX9_meanNow 16 = .ok (.lreturn, 1) := by decide +kernel
set_option maxRecDepth 20000 in
theorem ggX9_mean_X9_isReady : GoodIn wsX9_mean wsX9_isReady := goodIn_r _ [6, 7, 8, 9, 10, 5, 11, 12, 13, 14, 15, 16, 17, 18, 19, 20, 21, 22, 23, 24, 25, 26, 109, 110, 111, 112, 113, 114, 115, 116, 117, 118, 119, 120, 121, 122, 123, 124, 125, 126, 127, 128, 129, 130, 131] (by decide +kernel) (by decide +kernel)
set_option maxRecDepth 20000 in
theorem gX9_mean_X9_isReady : GoodIn wsX9_mean (wsV RX9 161 RX9 yX9_isReady wsX9_isReady) := goodIn_app (goodIn_of _ (by decide +kernel)) ggX9_mean_X9_isReady
set_option maxRecDepth 20000 in
theorem ggX9_mean_X9_meanNow : GoodIn wsX9_mean wsX9_meanNow := goodIn_r _ [30, 7, 31, 32, 33, 5, 34, 35, 36, 37, 38, 39, 40, 41, 42, 43, 44, 45, 46, 47, 19, 20, 21, 22, 23, 24, 25, 26, 48, 49, 50, 51, 12, 52, 13, 14, 15, 16, 17, 18, 53, 54, 55, 56, 57, 58, 59, 60, 61, 62, 63, 64, 65, 66, 67, 68, 69, 70, 71, 72, 73, 74, 75, 76, 77, 78, 79, 80, 81, 82, 83, 84, 85, 86, 87, 88, 89, 90, 91, 92, 93, 94, 95, 96, 97, 98, 99, 100, 101, 102, 103, 104, 105, 106, 107, 108, 109, 110, 111, 112, 113, 114, 115, 116, 117, 118, 119, 120, 121, 122, 123, 124, 125, 126, 127, 128, 129, 130, 131] (by decide +kernel) (by decide +kernel)
set_option maxRecDepth 20000 in
theorem gX9_mean_X9_meanNow : GoodIn wsX9_mean (wsV RX9 173 RX9 yX9_meanNow wsX9_meanNow) := goodIn_app (goodIn_of _ (by decide +kernel)) ggX9_mean_X9_meanNow
theorem dX9_mean_0 : decode cX9_mean 0 = .ok (.aload_n 0, 1) := by decide +kernel
theorem dX9_mean_1 : decode cX9_mean 1 = .ok (.invokevirtual 161, 3) := by decide +kernel
theorem dX9_mean_4 : decode cX9_mean 4 = .ok (.ifCond .eq 10, 3) := by decide +kernel
theorem dX9_mean_7 : decode cX9_mean 7 = .ok (.aload_n 0, 1) := by decide +kernel
theorem dX9_mean_8 : decode cX9_mean 8 = .ok (.invokevirtual 173, 3) := by decide +kernel
theorem dX9_mean_11 : decode cX9_mean 11 = .ok (.goto 6, 3) := by decide +kernel
theorem dX9_mean_14 : decode cX9_mean 14 = .ok (.ldc2_w 177, 3) := by decide +kernel
theorem dX9_mean_17 : decode cX9_mean 17 = .ok (.lreturn, 1) := by decide +kernel
set_option maxRecDepth 20000 in
theorem ggX9_ratioNow_X9_keptAll : GoodIn wsX9_ratioNow wsX9_keptAll := goodIn_r _ [5, 6, 7, 8, 9, 4, 10, 11, 12, 13, 14, 15, 16, 17, 18, 19, 20, 21, 22, 23, 24, 25, 26, 27, 28, 29, 30, 31, 32, 33, 34, 35, 36, 37, 38, 39, 40, 41, 42, 43, 44, 45, 46, 47, 48, 49, 50, 51, 52, 53, 54, 55, 56, 57, 58, 59, 60, 61, 62, 63, 64, 65, 66, 67, 68, 69, 70, 71, 72, 73, 74, 75, 76, 77, 78, 79, 80, 81, 82, 83, 100, 101, 102, 103, 104, 105, 106, 107, 108, 109, 110, 111, 112, 113, 114, 115, 116, 117, 118, 119, 120, 121, 122] (by decide +kernel) (by decide +kernel)
set_option maxRecDepth 20000 in
theorem gX9_ratioNow_X9_keptAll : GoodIn wsX9_ratioNow (wsV RX9 151 RX9 yX9_keptAll wsX9_keptAll) := goodIn_app (goodIn_of _ (by decide +kernel)) ggX9_ratioNow_X9_keptAll
set_option maxRecDepth 20000 in
theorem ggX9_ratioNow_X9_leastNow : GoodIn wsX9_ratioNow wsX9_leastNow := goodIn_r _ [87, 19, 13, 14, 15, 4, 16, 17, 18, 20, 21, 22, 23, 24, 25, 26, 27, 28, 29, 30, 31, 6, 12, 32, 11, 33, 34, 35, 36, 37, 38, 39, 40, 41, 42, 43, 44, 45, 46, 47, 48, 49, 50, 51, 52, 53, 54, 55, 56, 57, 58, 59, 60, 61, 62, 63, 64, 65, 66, 67, 68, 69, 70, 71, 72, 73, 74, 75, 76, 77, 78, 79, 80, 81, 82, 83, 100, 101, 102, 103, 104, 105, 106, 107, 108, 109, 110, 111, 112, 113, 114, 115, 116, 117, 118, 119, 120, 121, 122] (by decide +kernel) (by decide +kernel)
set_option maxRecDepth 20000 in
theorem gX9_ratioNow_X9_leastNow : GoodIn wsX9_ratioNow (wsV RX9 155 RX9 yX9_leastNow wsX9_leastNow) := goodIn_app (goodIn_of _ (by decide +kernel)) ggX9_ratioNow_X9_leastNow
set_option maxRecDepth 20000 in
theorem ggX9_ratioNow_Jxf58ca_floatToIntBits_5c35a : GoodIn wsX9_ratioNow wsJxf58ca_floatToIntBits_5c35a := goodIn_r _ [91, 92, 93, 94, 95, 96, 97, 98, 90, 99] (by decide +kernel) (by decide +kernel)
set_option maxRecDepth 20000 in
theorem gX9_ratioNow_Jxf58ca_floatToIntBits_5c35a : GoodIn wsX9_ratioNow (va_wsS RX9 179 yJxf58ca_floatToIntBits_5c35a wsJxf58ca_floatToIntBits_5c35a) := goodIn_app (goodIn_of _ (by decide +kernel)) ggX9_ratioNow_Jxf58ca_floatToIntBits_5c35a
theorem dX9_ratioNow_0 : decode cX9_ratioNow 0 = .ok (.aload_n 0, 1) := by decide +kernel
theorem dX9_ratioNow_1 : decode cX9_ratioNow 1 = .ok (.iconst 0, 1) := by decide +kernel
theorem dX9_ratioNow_2 : decode cX9_ratioNow 2 = .ok (.iconst 0, 1) := by decide +kernel
theorem dX9_ratioNow_3 : decode cX9_ratioNow 3 = .ok (.invokevirtual 151, 3) := by decide +kernel
theorem dX9_ratioNow_6 : decode cX9_ratioNow 6 = .ok (.i2f, 1) := by decide +kernel
theorem dX9_ratioNow_7 : decode cX9_ratioNow 7 = .ok (.aload_n 0, 1) := by decide +kernel
theorem dX9_ratioNow_8 : decode cX9_ratioNow 8 = .ok (.invokevirtual 155, 3) := by decide +kernel
theorem dX9_ratioNow_11 : decode cX9_ratioNow 11 = .ok (.i2f, 1) := by decide +kernel
theorem dX9_ratioNow_12 : decode cX9_ratioNow 12 = .ok (.fdiv, 1) := by decide +kernel
theorem dX9_ratioNow_13 : decode cX9_ratioNow 13 = .ok (.invokestatic 179, 3) := by decide +kernel
theorem dX9_ratioNow_16 : decode cX9_ratioNow 16 = .ok (.ireturn, 1) := by decide +kernel
set_option maxRecDepth 20000 in
theorem ggX9_ratio_X9_isReady : GoodIn wsX9_ratio wsX9_isReady := goodIn_r _ [5, 6, 7, 8, 9, 4, 10, 11, 12, 13, 14, 15, 16, 17, 18, 19, 20, 21, 22, 23, 24, 25, 112, 113, 114, 115, 116, 117, 118, 119, 120, 121, 122, 123, 124, 125, 126, 127, 128, 129, 130, 131, 132, 133, 134] (by decide +kernel) (by decide +kernel)
set_option maxRecDepth 20000 in
theorem gX9_ratio_X9_isReady : GoodIn wsX9_ratio (wsV RX9 161 RX9 yX9_isReady wsX9_isReady) := goodIn_app (goodIn_of _ (by decide +kernel)) ggX9_ratio_X9_isReady
set_option maxRecDepth 20000 in
theorem ggX9_ratio_X9_ratioNow : GoodIn wsX9_ratio wsX9_ratioNow := goodIn_r _ [29, 30, 31, 32, 4, 33, 6, 34, 35, 36, 37, 38, 39, 40, 41, 42, 43, 44, 45, 46, 18, 19, 20, 21, 22, 23, 24, 25, 47, 48, 49, 50, 11, 51, 12, 13, 14, 15, 16, 17, 52, 53, 54, 55, 56, 57, 58, 59, 60, 61, 62, 63, 64, 65, 66, 67, 68, 69, 70, 71, 72, 73, 74, 75, 76, 77, 78, 79, 80, 81, 82, 83, 84, 85, 86, 87, 88, 89, 90, 91, 92, 93, 94, 95, 96, 97, 98, 99, 100, 101, 102, 103, 104, 105, 106, 107, 108, 109, 110, 111, 112, 113, 114, 115, 116, 117, 118, 119, 120, 121, 122, 123, 124, 125, 126, 127, 128, 129, 130, 131, 132, 133, 134] (by decide +kernel) (by decide +kernel)
set_option maxRecDepth 20000 in
theorem gX9_ratio_X9_ratioNow : GoodIn wsX9_ratio (wsV RX9 185 RX9 yX9_ratioNow wsX9_ratioNow) := goodIn_app (goodIn_of _ (by decide +kernel)) ggX9_ratio_X9_ratioNow
theorem dX9_ratio_0 : decode cX9_ratio 0 = .ok (.aload_n 0, 1) := by decide +kernel
theorem dX9_ratio_1 : decode cX9_ratio 1 = .ok (.invokevirtual 161, 3) := by decide +kernel
theorem dX9_ratio_4 : decode cX9_ratio 4 = .ok (.ifCond .eq 10, 3) := by decide +kernel
theorem dX9_ratio_7 : decode cX9_ratio 7 = .ok (.aload_n 0, 1) := by decide +kernel
theorem dX9_ratio_8 : decode cX9_ratio 8 = .ok (.invokevirtual 185, 3) := by decide +kernel
theorem dX9_ratio_11 : decode cX9_ratio 11 = .ok (.goto 6, 3) := by decide +kernel
theorem dX9_ratio_14 : decode cX9_ratio 14 = .ok (.sipush (-1003), 3) := by decide +kernel
theorem dX9_ratio_17 : decode cX9_ratio 17 = .ok (.ireturn, 1) := by decide +kernel
set_option maxRecDepth 20000 in
theorem ggX9_layBetter_X9_layLeast : GoodIn wsX9_layBetter wsX9_layLeast := goodIn_r _ [9, 10, 4, 11, 12, 13, 14, 15, 16, 8, 17, 18, 19, 20, 21, 22, 23, 24, 25, 26, 27, 28, 33, 34, 35, 36, 37, 38, 39, 40, 41, 42, 43, 44, 45, 46, 47, 48, 49, 50, 51, 52, 53, 54, 55] (by decide +kernel) (by decide +kernel)
set_option maxRecDepth 20000 in
theorem gX9_layBetter_X9_layLeast : GoodIn wsX9_layBetter (wsV RX9 129 RX9 yX9_layLeast wsX9_layLeast) := goodIn_app (goodIn_of _ (by decide +kernel)) ggX9_layBetter_X9_layLeast
set_option maxRecDepth 20000 in
theorem ggX9_layBetter_X9_change : GoodIn wsX9_layBetter wsX9_change := goodIn_r _ [32, 23, 33, 34, 35, 36, 37, 38, 39, 40, 41, 42, 43, 44, 45, 46, 47, 48, 49, 50, 51, 52, 53, 54, 55] (by decide +kernel) (by decide +kernel)
set_option maxRecDepth 20000 in
theorem gX9_layBetter_X9_change : GoodIn wsX9_layBetter (wsV RX9 88 RX9 yX9_change wsX9_change) := goodIn_app (goodIn_of _ (by decide +kernel)) ggX9_layBetter_X9_change
theorem dX9_layBetter_0 : decode cX9_layBetter 0 = .ok (.aload_n 0, 1) := by decide +kernel
theorem dX9_layBetter_1 : decode cX9_layBetter 1 = .ok (.invokevirtual 129, 3) := by decide +kernel
theorem dX9_layBetter_4 : decode cX9_layBetter 4 = .ok (.istore_n 1, 1) := by decide +kernel
theorem dX9_layBetter_5 : decode cX9_layBetter 5 = .ok (.aload_n 0, 1) := by decide +kernel
theorem dX9_layBetter_6 : decode cX9_layBetter 6 = .ok (.iconst (-1), 1) := by decide +kernel
theorem dX9_layBetter_7 : decode cX9_layBetter 7 = .ok (.putfield 188, 3) := by decide +kernel
theorem dX9_layBetter_10 : decode cX9_layBetter 10 = .ok (.aload_n 0, 1) := by decide +kernel
theorem dX9_layBetter_11 : decode cX9_layBetter 11 = .ok (.iconst (-1), 1) := by decide +kernel
theorem dX9_layBetter_12 : decode cX9_layBetter 12 = .ok (.putfield 191, 3) := by decide +kernel
theorem dX9_layBetter_15 : decode cX9_layBetter 15 = .ok (.aload_n 0, 1) := by decide +kernel
theorem dX9_layBetter_16 : decode cX9_layBetter 16 = .ok (.iconst (-1), 1) := by decide +kernel
theorem dX9_layBetter_17 : decode cX9_layBetter 17 = .ok (.putfield 194, 3) := by decide +kernel
theorem dX9_layBetter_20 : decode cX9_layBetter 20 = .ok (.iconst 0, 1) := by decide +kernel
theorem dX9_layBetter_21 : decode cX9_layBetter 21 = .ok (.istore_n 2, 1) := by decide +kernel
theorem dX9_layBetter_22 : decode cX9_layBetter 22 = .ok (.iload_n 2, 1) := by decide +kernel
theorem dX9_layBetter_23 : decode cX9_layBetter 23 = .ok (.aload_n 0, 1) := by decide +kernel
theorem dX9_layBetter_24 : decode cX9_layBetter 24 = .ok (.getfield 69, 3) := by decide +kernel
theorem dX9_layBetter_27 : decode cX9_layBetter 27 = .ok (.if_icmp .ge 70, 3) := by decide +kernel
theorem dX9_layBetter_30 : decode cX9_layBetter 30 = .ok (.iload_n 2, 1) := by decide +kernel
theorem dX9_layBetter_31 : decode cX9_layBetter 31 = .ok (.iconst 1, 1) := by decide +kernel
theorem dX9_layBetter_32 : decode cX9_layBetter 32 = .ok (.iadd, 1) := by decide +kernel
theorem dX9_layBetter_33 : decode cX9_layBetter 33 = .ok (.istore_n 3, 1) := by decide +kernel
theorem dX9_layBetter_34 : decode cX9_layBetter 34 = .ok (.iload_n 3, 1) := by decide +kernel
theorem dX9_layBetter_35 : decode cX9_layBetter 35 = .ok (.aload_n 0, 1) := by decide +kernel
theorem dX9_layBetter_36 : decode cX9_layBetter 36 = .ok (.getfield 69, 3) := by decide +kernel
theorem dX9_layBetter_39 : decode cX9_layBetter 39 = .ok (.if_icmp .ge 52, 3) := by decide +kernel
theorem dX9_layBetter_42 : decode cX9_layBetter 42 = .ok (.aload_n 0, 1) := by decide +kernel
theorem dX9_layBetter_43 : decode cX9_layBetter 43 = .ok (.iload_n 2, 1) := by decide +kernel
theorem dX9_layBetter_44 : decode cX9_layBetter 44 = .ok (.iload_n 3, 1) := by decide +kernel
theorem dX9_layBetter_45 : decode cX9_layBetter 45 = .ok (.invokevirtual 88, 3) := by decide +kernel
theorem dX9_layBetter_48 : decode cX9_layBetter 48 = .ok (.aload_n 0, 1) := by decide +kernel
theorem dX9_layBetter_49 : decode cX9_layBetter 49 = .ok (.invokevirtual 129, 3) := by decide +kernel
theorem dX9_layBetter_52 : decode cX9_layBetter 52 = .ok (.istore 4, 2) := by decide +kernel
theorem dX9_layBetter_54 : decode cX9_layBetter 54 = .ok (.aload_n 0, 1) := by decide +kernel
theorem dX9_layBetter_55 : decode cX9_layBetter 55 = .ok (.iload_n 2, 1) := by decide +kernel
theorem dX9_layBetter_56 : decode cX9_layBetter 56 = .ok (.iload_n 3, 1) := by decide +kernel
theorem dX9_layBetter_57 : decode cX9_layBetter 57 = .ok (.invokevirtual 88, 3) := by decide +kernel
theorem dX9_layBetter_60 : decode cX9_layBetter 60 = .ok (.iload 4, 2) := by decide +kernel
theorem dX9_layBetter_62 : decode cX9_layBetter 62 = .ok (.iload_n 1, 1) := by decide +kernel
theorem dX9_layBetter_63 : decode cX9_layBetter 63 = .ok (.if_icmp .ge 22, 3) := by decide +kernel
theorem dX9_layBetter_66 : decode cX9_layBetter 66 = .ok (.iload 4, 2) := by decide +kernel
theorem dX9_layBetter_68 : decode cX9_layBetter 68 = .ok (.istore_n 1, 1) := by decide +kernel
theorem dX9_layBetter_69 : decode cX9_layBetter 69 = .ok (.aload_n 0, 1) := by decide +kernel
theorem dX9_layBetter_70 : decode cX9_layBetter 70 = .ok (.iload_n 2, 1) := by decide +kernel
theorem dX9_layBetter_71 : decode cX9_layBetter 71 = .ok (.putfield 188, 3) := by decide +kernel
theorem dX9_layBetter_74 : decode cX9_layBetter 74 = .ok (.aload_n 0, 1) := by decide +kernel
theorem dX9_layBetter_75 : decode cX9_layBetter 75 = .ok (.iload_n 3, 1) := by decide +kernel
theorem dX9_layBetter_76 : decode cX9_layBetter 76 = .ok (.putfield 191, 3) := by decide +kernel
theorem dX9_layBetter_79 : decode cX9_layBetter 79 = .ok (.aload_n 0, 1) := by decide +kernel
theorem dX9_layBetter_80 : decode cX9_layBetter 80 = .ok (.iload 4, 2) := by decide +kernel
theorem dX9_layBetter_82 : decode cX9_layBetter 82 = .ok (.putfield 194, 3) := by decide +kernel
theorem dX9_layBetter_85 : decode cX9_layBetter 85 = .ok (.iinc 3 1, 3) := by decide +kernel
theorem dX9_layBetter_88 : decode cX9_layBetter 88 = .ok (.goto (-54), 3) := by decide +kernel
theorem dX9_layBetter_91 : decode cX9_layBetter 91 = .ok (.iinc 2 1, 3) := by decide +kernel
theorem dX9_layBetter_94 : decode cX9_layBetter 94 = .ok (.goto (-72), 3) := by decide +kernel
theorem dX9_layBetter_97 : decode cX9_layBetter 97 = .ok (.return_, 1) := by decide +kernel
set_option maxRecDepth 20000 in
theorem ggX9_betterNow_X9_layAll : GoodIn wsX9_betterNow wsX9_layAll := goodIn_r _ [8, 9, 10, 11, 12, 13, 14, 7, 15, 16, 17, 18, 19, 20, 21, 22, 23, 24, 25, 26, 27, 28, 29, 30, 31, 32, 33, 34, 35, 36, 37, 38, 39, 40, 41, 42, 43, 44, 45, 46, 47, 48, 49, 50, 51, 52, 53, 1, 2, 3, 54, 55, 56, 57, 58, 59, 60, 61, 62, 63, 64, 65, 66, 67, 68, 69, 70, 71, 72, 73, 74, 75, 76, 77, 78, 79, 80, 81, 82, 83, 84, 85, 86, 87, 88, 89, 90, 91, 92, 93, 94, 95, 96, 97, 98] (by decide +kernel) (by decide +kernel)
set_option maxRecDepth 20000 in
theorem gX9_betterNow_X9_layAll : GoodIn wsX9_betterNow (wsV RX9 138 RX9 yX9_layAll wsX9_layAll) := goodIn_app (goodIn_of _ (by decide +kernel)) ggX9_betterNow_X9_layAll
theorem dX9_betterNow_0 : decode cX9_betterNow 0 = .ok (.aload_n 0, 1) := by decide +kernel
theorem dX9_betterNow_1 : decode cX9_betterNow 1 = .ok (.invokevirtual 138, 3) := by decide +kernel
theorem dX9_betterNow_4 : decode cX9_betterNow 4 = .ok (.iload_n 1, 1) := by decide +kernel
theorem dX9_betterNow_5 : decode cX9_betterNow 5 = .ok (.ifCond .ne 10, 3) := by decide +kernel
theorem dX9_betterNow_8 : decode cX9_betterNow 8 = .ok (.aload_n 0, 1) := by decide +kernel
theorem dX9_betterNow_9 : decode cX9_betterNow 9 = .ok (.getfield 188, 3) := by decide +kernel
theorem dX9_betterNow_12 : decode cX9_betterNow 12 = .ok (.goto 19, 3) := by decide +kernel
theorem dX9_betterNow_15 : decode cX9_betterNow 15 = .ok (.iload_n 1, 1) := by decide +kernel
theorem dX9_betterNow_16 : decode cX9_betterNow 16 = .ok (.iconst 1, 1) := by decide +kernel
theorem dX9_betterNow_17 : decode cX9_betterNow 17 = .ok (.if_icmp .ne 10, 3) := by decide +kernel
theorem dX9_betterNow_20 : decode cX9_betterNow 20 = .ok (.aload_n 0, 1) := by decide +kernel
theorem dX9_betterNow_21 : decode cX9_betterNow 21 = .ok (.getfield 191, 3) := by decide +kernel
theorem dX9_betterNow_24 : decode cX9_betterNow 24 = .ok (.goto 7, 3) := by decide +kernel
theorem dX9_betterNow_27 : decode cX9_betterNow 27 = .ok (.aload_n 0, 1) := by decide +kernel
theorem dX9_betterNow_28 : decode cX9_betterNow 28 = .ok (.getfield 194, 3) := by decide +kernel
theorem dX9_betterNow_31 : decode cX9_betterNow 31 = .ok (.ireturn, 1) := by decide +kernel
set_option maxRecDepth 20000 in
theorem ggX9_pair_X9_within : GoodIn wsX9_pair wsX9_within := goodIn_r _ [4] (by decide +kernel) (by decide +kernel)
set_option maxRecDepth 20000 in
theorem gX9_pair_X9_within : GoodIn wsX9_pair (va_wsS RX9 48 yX9_within wsX9_within) := goodIn_app (goodIn_of _ (by decide +kernel)) ggX9_pair_X9_within
set_option maxRecDepth 20000 in
theorem ggX9_pair_X9_isReady : GoodIn wsX9_pair wsX9_isReady := goodIn_r _ [8, 9, 10, 11, 12, 3, 13, 14, 15, 16, 17, 18, 19, 20, 21, 22, 23, 24, 25, 26, 27, 28, 91, 92, 93, 94, 95, 96, 97, 98, 99, 100, 101, 102, 103, 104, 105, 106, 107, 108, 109, 110, 111, 112, 113] (by decide +kernel) (by decide +kernel)
set_option maxRecDepth 20000 in
theorem gX9_pair_X9_isReady : GoodIn wsX9_pair (wsV RX9 161 RX9 yX9_isReady wsX9_isReady) := goodIn_app (goodIn_of _ (by decide +kernel)) ggX9_pair_X9_isReady
set_option maxRecDepth 20000 in
theorem ggX9_pair_X9_betterNow : GoodIn wsX9_pair wsX9_betterNow := goodIn_r _ [32, 33, 34, 35, 36, 37, 38, 3, 39, 40, 41, 42, 21, 22, 23, 24, 25, 26, 27, 28, 43, 44, 45, 46, 9, 47, 14, 48, 49, 15, 16, 17, 18, 19, 20, 50, 51, 52, 53, 54, 55, 56, 57, 58, 59, 60, 61, 62, 63, 64, 65, 66, 67, 68, 69, 70, 71, 72, 73, 74, 75, 76, 77, 78, 79, 80, 81, 82, 83, 84, 85, 86, 87, 88, 89, 90, 91, 92, 93, 94, 95, 96, 97, 98, 99, 100, 101, 102, 103, 104, 105, 106, 107, 108, 109, 110, 111, 112, 113] (by decide +kernel) (by decide +kernel)
set_option maxRecDepth 20000 in
theorem gX9_pair_X9_betterNow : GoodIn wsX9_pair (wsV RX9 197 RX9 yX9_betterNow wsX9_betterNow) := goodIn_app (goodIn_of _ (by decide +kernel)) ggX9_pair_X9_betterNow
theorem dX9_pair_0 : decode cX9_pair 0 = .ok (.iload_n 1, 1) := by decide +kernel
theorem dX9_pair_1 : decode cX9_pair 1 = .ok (.iconst 0, 1) := by decide +kernel
theorem dX9_pair_2 : decode cX9_pair 2 = .ok (.iconst 2, 1) := by decide +kernel
theorem dX9_pair_3 : decode cX9_pair 3 = .ok (.invokestatic 48, 3) := by decide +kernel
theorem dX9_pair_6 : decode cX9_pair 6 = .ok (.ifCond .ne 7, 3) := by decide +kernel
theorem dX9_pair_9 : decode cX9_pair 9 = .ok (.sipush (-1002), 3) := by decide +kernel
theorem dX9_pair_12 : decode cX9_pair 12 = .ok (.ireturn, 1) := by decide +kernel
theorem dX9_pair_13 : decode cX9_pair 13 = .ok (.aload_n 0, 1) := by decide +kernel
theorem dX9_pair_14 : decode cX9_pair 14 = .ok (.invokevirtual 161, 3) := by decide +kernel
theorem dX9_pair_17 : decode cX9_pair 17 = .ok (.ifCond .eq 11, 3) := by decide +kernel
theorem dX9_pair_20 : decode cX9_pair 20 = .ok (.aload_n 0, 1) := by decide +kernel
theorem dX9_pair_21 : decode cX9_pair 21 = .ok (.iload_n 1, 1) := by decide +kernel
theorem dX9_pair_22 : decode cX9_pair 22 = .ok (.invokevirtual 197, 3) := by decide +kernel
theorem dX9_pair_25 : decode cX9_pair 25 = .ok (.goto 6, 3) := by decide +kernel
theorem dX9_pair_28 : decode cX9_pair 28 = .ok (.sipush (-1003), 3) := by decide +kernel
theorem dX9_pair_31 : decode cX9_pair 31 = .ok (.ireturn, 1) := by decide +kernel
set_option maxRecDepth 20000 in
theorem ggX9_better_X9_isReady : GoodIn wsX9_better wsX9_isReady := goodIn_r _ [9, 10, 11, 12, 13, 8, 14, 15, 16, 17, 18, 19, 20, 21, 22, 23, 24, 25, 26, 27, 28, 29, 89, 90, 91, 92, 93, 94, 95, 96, 97, 98, 99, 100, 101, 102, 103, 104, 105, 106, 107, 108, 109, 110, 111] (by decide +kernel) (by decide +kernel)
set_option maxRecDepth 20000 in
theorem gX9_better_X9_isReady : GoodIn wsX9_better (wsV RX9 161 RX9 yX9_isReady wsX9_isReady) := goodIn_app (goodIn_of _ (by decide +kernel)) ggX9_better_X9_isReady
set_option maxRecDepth 20000 in
theorem ggX9_better_X9_betterNow : GoodIn wsX9_better wsX9_betterNow := goodIn_r _ [33, 1, 2, 34, 35, 36, 37, 8, 38, 4, 39, 40, 22, 23, 24, 25, 26, 27, 28, 29, 41, 42, 43, 44, 10, 45, 15, 46, 47, 16, 17, 18, 19, 20, 21, 48, 49, 50, 51, 52, 53, 54, 55, 56, 57, 58, 59, 60, 61, 62, 63, 64, 65, 66, 67, 68, 69, 70, 71, 72, 73, 74, 75, 76, 77, 78, 79, 80, 81, 82, 83, 84, 85, 86, 87, 88, 89, 90, 91, 92, 93, 94, 95, 96, 97, 98, 99, 100, 101, 102, 103, 104, 105, 106, 107, 108, 109, 110, 111] (by decide +kernel) (by decide +kernel)
set_option maxRecDepth 20000 in
theorem gX9_better_X9_betterNow : GoodIn wsX9_better (wsV RX9 197 RX9 yX9_betterNow wsX9_betterNow) := goodIn_app (goodIn_of _ (by decide +kernel)) ggX9_better_X9_betterNow
set_option maxRecDepth 20000 in
theorem ggX9_better_X9_change : GoodIn wsX9_better wsX9_change := goodIn_r _ [84, 21, 89, 90, 91, 92, 93, 94, 95, 96, 97, 98, 99, 100, 101, 102, 103, 104, 105, 106, 107, 108, 109, 110, 111] (by decide +kernel) (by decide +kernel)
set_option maxRecDepth 20000 in
theorem gX9_better_X9_change : GoodIn wsX9_better (wsV RX9 88 RX9 yX9_change wsX9_change) := goodIn_app (goodIn_of _ (by decide +kernel)) ggX9_better_X9_change
theorem dX9_better_0 : decode cX9_better 0 = .ok (.aload_n 0, 1) := by decide +kernel
theorem dX9_better_1 : decode cX9_better 1 = .ok (.invokevirtual 161, 3) := by decide +kernel
theorem dX9_better_4 : decode cX9_better 4 = .ok (.ifCond .ne 7, 3) := by decide +kernel
theorem dX9_better_7 : decode cX9_better 7 = .ok (.sipush (-1003), 3) := by decide +kernel
theorem dX9_better_10 : decode cX9_better 10 = .ok (.ireturn, 1) := by decide +kernel
theorem dX9_better_11 : decode cX9_better 11 = .ok (.aload_n 0, 1) := by decide +kernel
theorem dX9_better_12 : decode cX9_better 12 = .ok (.iconst 2, 1) := by decide +kernel
theorem dX9_better_13 : decode cX9_better 13 = .ok (.invokevirtual 197, 3) := by decide +kernel
theorem dX9_better_16 : decode cX9_better 16 = .ok (.istore_n 1, 1) := by decide +kernel
theorem dX9_better_17 : decode cX9_better 17 = .ok (.iload_n 1, 1) := by decide +kernel
theorem dX9_better_18 : decode cX9_better 18 = .ok (.iconst (-1), 1) := by decide +kernel
theorem dX9_better_19 : decode cX9_better 19 = .ok (.if_icmp .eq 30, 3) := by decide +kernel
theorem dX9_better_22 : decode cX9_better 22 = .ok (.aload_n 0, 1) := by decide +kernel
theorem dX9_better_23 : decode cX9_better 23 = .ok (.aload_n 0, 1) := by decide +kernel
theorem dX9_better_24 : decode cX9_better 24 = .ok (.getfield 188, 3) := by decide +kernel
theorem dX9_better_27 : decode cX9_better 27 = .ok (.aload_n 0, 1) := by decide +kernel
theorem dX9_better_28 : decode cX9_better 28 = .ok (.getfield 191, 3) := by decide +kernel
theorem dX9_better_31 : decode cX9_better 31 = .ok (.invokevirtual 88, 3) := by decide +kernel
theorem dX9_better_34 : decode cX9_better 34 = .ok (.aload_n 0, 1) := by decide +kernel
theorem dX9_better_35 : decode cX9_better 35 = .ok (.dup, 1) := by decide +kernel
theorem dX9_better_36 : decode cX9_better 36 = .ok (.getfield 72, 3) := by decide +kernel
theorem dX9_better_39 : decode cX9_better 39 = .ok (.iconst 1, 1) := by decide +kernel
theorem dX9_better_40 : decode cX9_better 40 = .ok (.iadd, 1) := by decide +kernel
theorem dX9_better_41 : decode cX9_better 41 = .ok (.putfield 72, 3) := by decide +kernel
theorem dX9_better_44 : decode cX9_better 44 = .ok (.aload_n 0, 1) := by decide +kernel
theorem dX9_better_45 : decode cX9_better 45 = .ok (.iconst 0, 1) := by decide +kernel
theorem dX9_better_46 : decode cX9_better 46 = .ok (.putfield 75, 3) := by decide +kernel
theorem dX9_better_49 : decode cX9_better 49 = .ok (.iload_n 1, 1) := by decide +kernel
theorem dX9_better_50 : decode cX9_better 50 = .ok (.ireturn, 1) := by decide +kernel
set_option maxRecDepth 20000 in
theorem ggX9_breaksMany_X9_ones : GoodIn wsX9_breaksMany wsX9_ones := goodIn_r _ [6] (by decide +kernel) (by decide +kernel)
set_option maxRecDepth 20000 in
theorem gX9_breaksMany_X9_ones : GoodIn wsX9_breaksMany (va_wsS RX9 41 yX9_ones wsX9_ones) := goodIn_app (goodIn_of _ (by decide +kernel)) ggX9_breaksMany_X9_ones
theorem dX9_breaksMany_0 : decode cX9_breaksMany 0 = .ok (.iconst 0, 1) := by decide +kernel
theorem dX9_breaksMany_1 : decode cX9_breaksMany 1 = .ok (.istore_n 1, 1) := by decide +kernel
theorem dX9_breaksMany_2 : decode cX9_breaksMany 2 = .ok (.iconst 0, 1) := by decide +kernel
theorem dX9_breaksMany_3 : decode cX9_breaksMany 3 = .ok (.istore_n 2, 1) := by decide +kernel
theorem dX9_breaksMany_4 : decode cX9_breaksMany 4 = .ok (.iload_n 2, 1) := by decide +kernel
theorem dX9_breaksMany_5 : decode cX9_breaksMany 5 = .ok (.aload_n 0, 1) := by decide +kernel
theorem dX9_breaksMany_6 : decode cX9_breaksMany 6 = .ok (.getfield 69, 3) := by decide +kernel
theorem dX9_breaksMany_9 : decode cX9_breaksMany 9 = .ok (.if_icmp .ge 21, 3) := by decide +kernel
theorem dX9_breaksMany_12 : decode cX9_breaksMany 12 = .ok (.iload_n 1, 1) := by decide +kernel
theorem dX9_breaksMany_13 : decode cX9_breaksMany 13 = .ok (.aload_n 0, 1) := by decide +kernel
theorem dX9_breaksMany_14 : decode cX9_breaksMany 14 = .ok (.getfield 19, 3) := by decide +kernel
theorem dX9_breaksMany_17 : decode cX9_breaksMany 17 = .ok (.iload_n 2, 1) := by decide +kernel
theorem dX9_breaksMany_18 : decode cX9_breaksMany 18 = .ok (.iaload, 1) := by decide +kernel
theorem dX9_breaksMany_19 : decode cX9_breaksMany 19 = .ok (.invokestatic 41, 3) := by decide +kernel
theorem dX9_breaksMany_22 : decode cX9_breaksMany 22 = .ok (.iadd, 1) := by decide +kernel
theorem dX9_breaksMany_23 : decode cX9_breaksMany 23 = .ok (.istore_n 1, 1) := by decide +kernel
theorem dX9_breaksMany_24 : decode cX9_breaksMany 24 = .ok (.iinc 2 1, 3) := by decide +kernel
theorem dX9_breaksMany_27 : decode cX9_breaksMany 27 = .ok (.goto (-23), 3) := by decide +kernel
theorem dX9_breaksMany_30 : decode cX9_breaksMany 30 = .ok (.iload_n 1, 1) := by decide +kernel
theorem dX9_breaksMany_31 : decode cX9_breaksMany 31 = .ok (.ireturn, 1) := by decide +kernel
set_option maxRecDepth 20000 in
theorem ggX9_howMany_X9_breaksMany : GoodIn wsX9_howMany wsX9_breaksMany := goodIn_r _ [11, 1, 12, 13, 14, 10, 15, 30, 31, 32, 33, 34, 35, 36, 37, 38, 39, 40, 41, 42, 43, 44, 45, 46, 47, 48, 49, 50, 51, 52] (by decide +kernel) (by decide +kernel)
set_option maxRecDepth 20000 in
theorem gX9_howMany_X9_breaksMany : GoodIn wsX9_howMany (wsV RX9 200 RX9 yX9_breaksMany wsX9_breaksMany) := goodIn_app (goodIn_of _ (by decide +kernel)) ggX9_howMany_X9_breaksMany
set_option maxRecDepth 20000 in
theorem ggX9_howMany_X9_isTooBig : GoodIn wsX9_howMany wsX9_isTooBig := goodIn_r _ [19, 1, 3, 20, 21, 22, 10, 23, 24, 25, 26, 27, 28, 29, 4, 13, 14, 15, 30, 31, 32, 33, 34, 35, 36, 37, 38, 39, 40, 41, 42, 43, 44, 45, 46, 47, 48, 49, 50, 51, 52] (by decide +kernel) (by decide +kernel)
set_option maxRecDepth 20000 in
theorem gX9_howMany_X9_isTooBig : GoodIn wsX9_howMany (wsV RX9 141 RX9 yX9_isTooBig wsX9_isTooBig) := goodIn_app (goodIn_of _ (by decide +kernel)) ggX9_howMany_X9_isTooBig
theorem dX9_howMany_0 : decode cX9_howMany 0 = .ok (.iload_n 1, 1) := by decide +kernel
theorem dX9_howMany_1 : decode cX9_howMany 1 = .ok (.tableswitch 95 0 7 #[47, 52, 57, 62, 67, 72, 77, 82], 47) := by decide +kernel
theorem dX9_howMany_48 : decode cX9_howMany 48 = .ok (.aload_n 0, 1) := by decide +kernel
theorem dX9_howMany_49 : decode cX9_howMany 49 = .ok (.getfield 69, 3) := by decide +kernel
theorem dX9_howMany_52 : decode cX9_howMany 52 = .ok (.ireturn, 1) := by decide +kernel
theorem dX9_howMany_53 : decode cX9_howMany 53 = .ok (.aload_n 0, 1) := by decide +kernel
theorem dX9_howMany_54 : decode cX9_howMany 54 = .ok (.getfield 52, 3) := by decide +kernel
theorem dX9_howMany_57 : decode cX9_howMany 57 = .ok (.ireturn, 1) := by decide +kernel
theorem dX9_howMany_58 : decode cX9_howMany 58 = .ok (.aload_n 0, 1) := by decide +kernel
theorem dX9_howMany_59 : decode cX9_howMany 59 = .ok (.getfield 22, 3) := by decide +kernel
theorem dX9_howMany_62 : decode cX9_howMany 62 = .ok (.ireturn, 1) := by decide +kernel
theorem dX9_howMany_63 : decode cX9_howMany 63 = .ok (.aload_n 0, 1) := by decide +kernel
theorem dX9_howMany_64 : decode cX9_howMany 64 = .ok (.getfield 45, 3) := by decide +kernel
theorem dX9_howMany_67 : decode cX9_howMany 67 = .ok (.ireturn, 1) := by decide +kernel
theorem dX9_howMany_68 : decode cX9_howMany 68 = .ok (.aload_n 0, 1) := by decide +kernel
theorem dX9_howMany_69 : decode cX9_howMany 69 = .ok (.invokevirtual 200, 3) := by decide +kernel
theorem dX9_howMany_72 : decode cX9_howMany 72 = .ok (.ireturn, 1) := by decide +kernel
theorem dX9_howMany_73 : decode cX9_howMany 73 = .ok (.aload_n 0, 1) := by decide +kernel
theorem dX9_howMany_74 : decode cX9_howMany 74 = .ok (.getfield 72, 3) := by decide +kernel
theorem dX9_howMany_77 : decode cX9_howMany 77 = .ok (.ireturn, 1) := by decide +kernel
theorem dX9_howMany_78 : decode cX9_howMany 78 = .ok (.aload_n 0, 1) := by decide +kernel
theorem dX9_howMany_79 : decode cX9_howMany 79 = .ok (.getfield 79, 3) := by decide +kernel
theorem dX9_howMany_82 : decode cX9_howMany 82 = .ok (.ireturn, 1) := by decide +kernel
theorem dX9_howMany_83 : decode cX9_howMany 83 = .ok (.aload_n 0, 1) := by decide +kernel
theorem dX9_howMany_84 : decode cX9_howMany 84 = .ok (.invokevirtual 141, 3) := by decide +kernel
theorem dX9_howMany_87 : decode cX9_howMany 87 = .ok (.ifCond .eq 7, 3) := by decide +kernel
theorem dX9_howMany_90 : decode cX9_howMany 90 = .ok (.iconst 1, 1) := by decide +kernel
theorem dX9_howMany_91 : decode cX9_howMany 91 = .ok (.goto 4, 3) := by decide +kernel
theorem dX9_howMany_94 : decode cX9_howMany 94 = .ok (.iconst 0, 1) := by decide +kernel
theorem dX9_howMany_95 : decode cX9_howMany 95 = .ok (.ireturn, 1) := by decide +kernel
theorem dX9_howMany_96 : decode cX9_howMany 96 = .ok (.sipush (-1002), 3) := by decide +kernel
theorem dX9_howMany_99 : decode cX9_howMany 99 = .ok (.ireturn, 1) := by decide +kernel
set_option maxRecDepth 20000 in
theorem ggX9_count_X9_howMany : GoodIn wsX9_count wsX9_howMany := goodIn_r _ [5, 6, 7, 8, 9, 10, 11, 12, 13, 14, 4, 15, 16, 17, 18, 19, 20, 21, 22, 23, 24, 25, 26, 27, 28, 29, 30, 31, 32, 33, 34, 35, 36, 37, 38, 39, 40, 41, 42, 43, 44, 45, 46, 47, 48, 49, 50, 51, 52, 53, 54, 55, 56] (by decide +kernel) (by decide +kernel)
set_option maxRecDepth 20000 in
theorem gX9_count_X9_howMany : GoodIn wsX9_count (wsV RX9 203 RX9 yX9_howMany wsX9_howMany) := goodIn_app (goodIn_of _ (by decide +kernel)) ggX9_count_X9_howMany
theorem dX9_count_0 : decode cX9_count 0 = .ok (.aload_n 0, 1) := by decide +kernel
theorem dX9_count_1 : decode cX9_count 1 = .ok (.iload_n 1, 1) := by decide +kernel
theorem dX9_count_2 : decode cX9_count 2 = .ok (.invokevirtual 203, 3) := by decide +kernel
theorem dX9_count_5 : decode cX9_count 5 = .ok (.ireturn, 1) := by decide +kernel
theorem dX9_mix_0 : decode cX9_mix 0 = .ok (.aload_n 0, 1) := by decide +kernel
theorem dX9_mix_1 : decode cX9_mix 1 = .ok (.ldc2_w 206, 3) := by decide +kernel
theorem dX9_mix_4 : decode cX9_mix 4 = .ok (.aload_n 0, 1) := by decide +kernel
theorem dX9_mix_5 : decode cX9_mix 5 = .ok (.getfield 208, 3) := by decide +kernel
theorem dX9_mix_8 : decode cX9_mix 8 = .ok (.lmul, 1) := by decide +kernel
theorem dX9_mix_9 : decode cX9_mix 9 = .ok (.lload_n 1, 1) := by decide +kernel
theorem dX9_mix_10 : decode cX9_mix 10 = .ok (.ladd, 1) := by decide +kernel
theorem dX9_mix_11 : decode cX9_mix 11 = .ok (.putfield 208, 3) := by decide +kernel
theorem dX9_mix_14 : decode cX9_mix 14 = .ok (.return_, 1) := by decide +kernel
set_option maxRecDepth 20000 in
theorem ggX9_mixKeeping_X9_keptNow : GoodIn wsX9_mixKeeping wsX9_keptNow := goodIn_r _ [6, 7, 8, 9, 10, 11, 5, 12, 13, 14, 15, 16, 17, 18, 19, 20, 21, 22, 23, 24, 25, 26, 27, 1, 28, 29, 30, 31, 32, 33, 34, 35, 36, 37, 38, 39, 40, 41, 42, 43, 44, 45, 46, 47, 48, 49, 50, 51, 52, 53, 54, 55, 56, 57, 58, 59, 60, 61, 62, 63, 64, 65, 66, 67, 68, 69, 70, 71, 72, 73, 74, 75, 76, 77, 78, 79, 138, 139, 140, 141, 142, 143, 144, 145, 146, 147, 148, 149, 150, 151, 152, 153, 154, 155, 156, 157, 158, 159, 160] (by decide +kernel) (by decide +kernel)
set_option maxRecDepth 20000 in
theorem gX9_mixKeeping_X9_keptNow : GoodIn wsX9_mixKeeping (wsV RX9 148 RX9 yX9_keptNow wsX9_keptNow) := goodIn_app (goodIn_of _ (by decide +kernel)) ggX9_mixKeeping_X9_keptNow
set_option maxRecDepth 20000 in
theorem ggX9_mixKeeping_X9_mix : GoodIn wsX9_mixKeeping wsX9_mix := goodIn_r _ [83, 84, 85, 138, 139, 140, 141, 142, 143, 144, 145, 146, 147, 148, 149, 150, 151, 152, 153, 154, 155, 156, 157, 158, 159, 160] (by decide +kernel) (by decide +kernel)
set_option maxRecDepth 20000 in
theorem gX9_mixKeeping_X9_mix : GoodIn wsX9_mixKeeping (wsV RX9 212 RX9 yX9_mix wsX9_mix) := goodIn_app (goodIn_of _ (by decide +kernel)) ggX9_mixKeeping_X9_mix
set_option maxRecDepth 20000 in
theorem ggX9_mixKeeping_X9_costNow : GoodIn wsX9_mixKeeping wsX9_costNow := goodIn_r _ [89, 90, 91, 92, 5, 93, 1, 2, 3, 4, 6, 7, 8, 9, 10, 11, 12, 13, 14, 15, 16, 17, 18, 19, 20, 21, 22, 23, 24, 25, 26, 27, 28, 29, 30, 31, 32, 33, 34, 35, 36, 37, 38, 39, 40, 41, 42, 43, 44, 45, 46, 47, 48, 49, 50, 51, 52, 53, 54, 55, 56, 57, 58, 59, 60, 61, 62, 63, 64, 65, 66, 67, 68, 69, 70, 71, 72, 73, 74, 75, 76, 77, 78, 79, 94, 95, 96, 97, 98, 99, 100, 101, 138, 139, 140, 141, 142, 143, 144, 145, 146, 147, 148, 149, 150, 151, 152, 153, 154, 155, 156, 157, 158, 159, 160] (by decide +kernel) (by decide +kernel)
set_option maxRecDepth 20000 in
theorem gX9_mixKeeping_X9_costNow : GoodIn wsX9_mixKeeping (wsV RX9 164 RX9 yX9_costNow wsX9_costNow) := goodIn_app (goodIn_of _ (by decide +kernel)) ggX9_mixKeeping_X9_costNow
set_option maxRecDepth 20000 in
theorem ggX9_mixKeeping_X9_meanNow : GoodIn wsX9_mixKeeping wsX9_meanNow := goodIn_r _ [105, 1, 90, 91, 92, 5, 93, 2, 3, 4, 6, 7, 8, 9, 10, 11, 12, 13, 14, 15, 16, 17, 18, 19, 20, 21, 22, 23, 24, 25, 26, 27, 28, 29, 30, 31, 32, 33, 34, 35, 36, 37, 38, 39, 40, 41, 42, 43, 44, 45, 46, 47, 48, 49, 50, 51, 52, 53, 54, 55, 56, 57, 58, 59, 60, 61, 62, 63, 64, 65, 66, 67, 68, 69, 70, 71, 72, 73, 74, 75, 76, 77, 78, 79, 106, 107, 108, 109, 110, 111, 112, 113, 114, 115, 116, 117, 138, 139, 140, 141, 142, 143, 144, 145, 146, 147, 148, 149, 150, 151, 152, 153, 154, 155, 156, 157, 158, 159, 160] (by decide +kernel) (by decide +kernel)
set_option maxRecDepth 20000 in
theorem gX9_mixKeeping_X9_meanNow : GoodIn wsX9_mixKeeping (wsV RX9 173 RX9 yX9_meanNow wsX9_meanNow) := goodIn_app (goodIn_of _ (by decide +kernel)) ggX9_mixKeeping_X9_meanNow
set_option maxRecDepth 20000 in
theorem ggX9_mixKeeping_X9_ratioNow : GoodIn wsX9_mixKeeping wsX9_ratioNow := goodIn_r _ [121, 90, 91, 92, 5, 93, 1, 2, 3, 4, 6, 7, 8, 9, 10, 11, 12, 13, 14, 15, 16, 17, 18, 19, 20, 21, 22, 23, 24, 25, 26, 27, 28, 29, 30, 31, 32, 33, 34, 35, 36, 37, 38, 39, 40, 41, 42, 43, 44, 45, 46, 47, 48, 49, 50, 51, 52, 53, 54, 55, 56, 57, 58, 59, 60, 61, 62, 63, 64, 65, 66, 67, 68, 69, 70, 71, 72, 73, 74, 75, 76, 77, 78, 79, 94, 95, 96, 97, 122, 123, 124, 125, 126, 127, 128, 129, 130, 131, 132, 133, 138, 139, 140, 141, 142, 143, 144, 145, 146, 147, 148, 149, 150, 151, 152, 153, 154, 155, 156, 157, 158, 159, 160] (by decide +kernel) (by decide +kernel)
set_option maxRecDepth 20000 in
theorem gX9_mixKeeping_X9_ratioNow : GoodIn wsX9_mixKeeping (wsV RX9 185 RX9 yX9_ratioNow wsX9_ratioNow) := goodIn_app (goodIn_of _ (by decide +kernel)) ggX9_mixKeeping_X9_ratioNow
set_option maxRecDepth 20000 in
theorem ggX9_mixKeeping_X9_betterNow : GoodIn wsX9_mixKeeping wsX9_betterNow := goodIn_r _ [137, 55, 56, 57, 9, 10, 11, 5, 12, 13, 14, 15, 16, 17, 18, 19, 20, 21, 22, 23, 24, 25, 26, 27, 1, 8, 28, 7, 29, 30, 31, 32, 33, 34, 35, 36, 37, 38, 39, 40, 41, 42, 43, 44, 45, 46, 47, 48, 49, 50, 51, 52, 53, 54, 58, 59, 60, 61, 62, 63, 64, 65, 66, 67, 68, 69, 70, 71, 72, 73, 74, 75, 76, 77, 78, 79, 138, 139, 140, 141, 142, 143, 144, 145, 146, 147, 148, 149, 150, 151, 152, 153, 154, 155, 156, 157, 158, 159, 160] (by decide +kernel) (by decide +kernel)
set_option maxRecDepth 20000 in
theorem gX9_mixKeeping_X9_betterNow : GoodIn wsX9_mixKeeping (wsV RX9 197 RX9 yX9_betterNow wsX9_betterNow) := goodIn_app (goodIn_of _ (by decide +kernel)) ggX9_mixKeeping_X9_betterNow
theorem dX9_mixKeeping_0 : decode cX9_mixKeeping 0 = .ok (.iconst 0, 1) := by decide +kernel
theorem dX9_mixKeeping_1 : decode cX9_mixKeeping 1 = .ok (.istore_n 1, 1) := by decide +kernel
theorem dX9_mixKeeping_2 : decode cX9_mixKeeping 2 = .ok (.iload_n 1, 1) := by decide +kernel
theorem dX9_mixKeeping_3 : decode cX9_mixKeeping 3 = .ok (.bipush 8, 2) := by decide +kernel
theorem dX9_mixKeeping_5 : decode cX9_mixKeeping 5 = .ok (.aload_n 0, 1) := by decide +kernel
theorem dX9_mixKeeping_6 : decode cX9_mixKeeping 6 = .ok (.getfield 69, 3) := by decide +kernel
theorem dX9_mixKeeping_9 : decode cX9_mixKeeping 9 = .ok (.imul, 1) := by decide +kernel
theorem dX9_mixKeeping_10 : decode cX9_mixKeeping 10 = .ok (.if_icmp .ge 40, 3) := by decide +kernel
theorem dX9_mixKeeping_13 : decode cX9_mixKeeping 13 = .ok (.aload_n 0, 1) := by decide +kernel
theorem dX9_mixKeeping_14 : decode cX9_mixKeeping 14 = .ok (.aload_n 0, 1) := by decide +kernel
theorem dX9_mixKeeping_15 : decode cX9_mixKeeping 15 = .ok (.iload_n 1, 1) := by decide +kernel
theorem dX9_mixKeeping_16 : decode cX9_mixKeeping 16 = .ok (.bipush 8, 2) := by decide +kernel
theorem dX9_mixKeeping_18 : decode cX9_mixKeeping 18 = .ok (.idiv, 1) := by decide +kernel
theorem dX9_mixKeeping_19 : decode cX9_mixKeeping 19 = .ok (.iload_n 1, 1) := by decide +kernel
theorem dX9_mixKeeping_20 : decode cX9_mixKeeping 20 = .ok (.bipush 8, 2) := by decide +kernel
theorem dX9_mixKeeping_22 : decode cX9_mixKeeping 22 = .ok (.irem, 1) := by decide +kernel
theorem dX9_mixKeeping_23 : decode cX9_mixKeeping 23 = .ok (.iconst 4, 1) := by decide +kernel
theorem dX9_mixKeeping_24 : decode cX9_mixKeeping 24 = .ok (.if_icmp .ge 7, 3) := by decide +kernel
theorem dX9_mixKeeping_27 : decode cX9_mixKeeping 27 = .ok (.iconst 0, 1) := by decide +kernel
theorem dX9_mixKeeping_28 : decode cX9_mixKeeping 28 = .ok (.goto 5, 3) := by decide +kernel
theorem dX9_mixKeeping_31 : decode cX9_mixKeeping 31 = .ok (.bipush 8, 2) := by decide +kernel
theorem dX9_mixKeeping_33 : decode cX9_mixKeeping 33 = .ok (.iadd, 1) := by decide +kernel
theorem dX9_mixKeeping_34 : decode cX9_mixKeeping 34 = .ok (.iload_n 1, 1) := by decide +kernel
theorem dX9_mixKeeping_35 : decode cX9_mixKeeping 35 = .ok (.iconst 4, 1) := by decide +kernel
theorem dX9_mixKeeping_36 : decode cX9_mixKeeping 36 = .ok (.irem, 1) := by decide +kernel
theorem dX9_mixKeeping_37 : decode cX9_mixKeeping 37 = .ok (.invokevirtual 148, 3) := by decide +kernel
theorem dX9_mixKeeping_40 : decode cX9_mixKeeping 40 = .ok (.i2l, 1) := by decide +kernel
theorem dX9_mixKeeping_41 : decode cX9_mixKeeping 41 = .ok (.invokevirtual 212, 3) := by decide +kernel
theorem dX9_mixKeeping_44 : decode cX9_mixKeeping 44 = .ok (.iinc 1 1, 3) := by decide +kernel
theorem dX9_mixKeeping_47 : decode cX9_mixKeeping 47 = .ok (.goto (-45), 3) := by decide +kernel
theorem dX9_mixKeeping_50 : decode cX9_mixKeeping 50 = .ok (.iconst 0, 1) := by decide +kernel
theorem dX9_mixKeeping_51 : decode cX9_mixKeeping 51 = .ok (.istore_n 1, 1) := by decide +kernel
theorem dX9_mixKeeping_52 : decode cX9_mixKeeping 52 = .ok (.iload_n 1, 1) := by decide +kernel
theorem dX9_mixKeeping_53 : decode cX9_mixKeeping 53 = .ok (.iconst 5, 1) := by decide +kernel
theorem dX9_mixKeeping_54 : decode cX9_mixKeeping 54 = .ok (.if_icmp .ge 19, 3) := by decide +kernel
theorem dX9_mixKeeping_57 : decode cX9_mixKeeping 57 = .ok (.aload_n 0, 1) := by decide +kernel
theorem dX9_mixKeeping_58 : decode cX9_mixKeeping 58 = .ok (.aload_n 0, 1) := by decide +kernel
theorem dX9_mixKeeping_59 : decode cX9_mixKeeping 59 = .ok (.iload_n 1, 1) := by decide +kernel
theorem dX9_mixKeeping_60 : decode cX9_mixKeeping 60 = .ok (.invokevirtual 164, 3) := by decide +kernel
theorem dX9_mixKeeping_63 : decode cX9_mixKeeping 63 = .ok (.i2l, 1) := by decide +kernel
theorem dX9_mixKeeping_64 : decode cX9_mixKeeping 64 = .ok (.invokevirtual 212, 3) := by decide +kernel
theorem dX9_mixKeeping_67 : decode cX9_mixKeeping 67 = .ok (.iinc 1 1, 3) := by decide +kernel
theorem dX9_mixKeeping_70 : decode cX9_mixKeeping 70 = .ok (.goto (-18), 3) := by decide +kernel
theorem dX9_mixKeeping_73 : decode cX9_mixKeeping 73 = .ok (.aload_n 0, 1) := by decide +kernel
theorem dX9_mixKeeping_74 : decode cX9_mixKeeping 74 = .ok (.aload_n 0, 1) := by decide +kernel
theorem dX9_mixKeeping_75 : decode cX9_mixKeeping 75 = .ok (.invokevirtual 173, 3) := by decide +kernel
theorem dX9_mixKeeping_78 : decode cX9_mixKeeping 78 = .ok (.invokevirtual 212, 3) := by decide +kernel
theorem dX9_mixKeeping_81 : decode cX9_mixKeeping 81 = .ok (.aload_n 0, 1) := by decide +kernel
theorem dX9_mixKeeping_82 : decode cX9_mixKeeping 82 = .ok (.aload_n 0, 1) := by decide +kernel
theorem dX9_mixKeeping_83 : decode cX9_mixKeeping 83 = .ok (.invokevirtual 185, 3) := by decide +kernel
theorem dX9_mixKeeping_86 : decode cX9_mixKeeping 86 = .ok (.i2l, 1) := by decide +kernel
theorem dX9_mixKeeping_87 : decode cX9_mixKeeping 87 = .ok (.invokevirtual 212, 3) := by decide +kernel
theorem dX9_mixKeeping_90 : decode cX9_mixKeeping 90 = .ok (.iconst 0, 1) := by decide +kernel
theorem dX9_mixKeeping_91 : decode cX9_mixKeeping 91 = .ok (.istore_n 1, 1) := by decide +kernel
theorem dX9_mixKeeping_92 : decode cX9_mixKeeping 92 = .ok (.iload_n 1, 1) := by decide +kernel
theorem dX9_mixKeeping_93 : decode cX9_mixKeeping 93 = .ok (.iconst 3, 1) := by decide +kernel
theorem dX9_mixKeeping_94 : decode cX9_mixKeeping 94 = .ok (.if_icmp .ge 19, 3) := by decide +kernel
theorem dX9_mixKeeping_97 : decode cX9_mixKeeping 97 = .ok (.aload_n 0, 1) := by decide +kernel
theorem dX9_mixKeeping_98 : decode cX9_mixKeeping 98 = .ok (.aload_n 0, 1) := by decide +kernel
theorem dX9_mixKeeping_99 : decode cX9_mixKeeping 99 = .ok (.iload_n 1, 1) := by decide +kernel
theorem dX9_mixKeeping_100 : decode cX9_mixKeeping 100 = .ok (.invokevirtual 197, 3) := by decide +kernel
theorem dX9_mixKeeping_103 : decode cX9_mixKeeping 103 = .ok (.i2l, 1) := by decide +kernel
theorem dX9_mixKeeping_104 : decode cX9_mixKeeping 104 = .ok (.invokevirtual 212, 3) := by decide +kernel
theorem dX9_mixKeeping_107 : decode cX9_mixKeeping 107 = .ok (.iinc 1 1, 3) := by decide +kernel
theorem dX9_mixKeeping_110 : decode cX9_mixKeeping 110 = .ok (.goto (-18), 3) := by decide +kernel
theorem dX9_mixKeeping_113 : decode cX9_mixKeeping 113 = .ok (.return_, 1) := by decide +kernel
set_option maxRecDepth 20000 in
theorem ggX9_digest_X9_jobNow : GoodIn wsX9_digest wsX9_jobNow := goodIn_r _ [10, 11, 12, 13, 14, 15, 9, 16, 17, 167, 168, 169, 170, 171, 172, 173, 174, 175, 176, 177, 178, 179, 180, 181, 182, 183, 184, 185, 186, 187, 188, 189] (by decide +kernel) (by decide +kernel)
set_option maxRecDepth 20000 in
theorem gX9_digest_X9_jobNow : GoodIn wsX9_digest (wsV RX9 99 RX9 yX9_jobNow wsX9_jobNow) := goodIn_app (goodIn_of _ (by decide +kernel)) ggX9_digest_X9_jobNow
set_option maxRecDepth 20000 in
theorem ggX9_digest_X9_mix : GoodIn wsX9_digest wsX9_mix := goodIn_r _ [21, 22, 2, 167, 168, 169, 170, 171, 172, 173, 174, 175, 176, 177, 178, 179, 180, 181, 182, 183, 184, 185, 186, 187, 188, 189] (by decide +kernel) (by decide +kernel)
set_option maxRecDepth 20000 in
theorem gX9_digest_X9_mix : GoodIn wsX9_digest (wsV RX9 212 RX9 yX9_mix wsX9_mix) := goodIn_app (goodIn_of _ (by decide +kernel)) ggX9_digest_X9_mix
set_option maxRecDepth 20000 in
theorem ggX9_digest_X9_nextOf : GoodIn wsX9_digest wsX9_nextOf := goodIn_r _ [26, 3, 12, 27, 28, 9, 29, 13, 14, 15, 16, 17, 11, 167, 168, 169, 170, 171, 172, 173, 174, 175, 176, 177, 178, 179, 180, 181, 182, 183, 184, 185, 186, 187, 188, 189] (by decide +kernel) (by decide +kernel)
set_option maxRecDepth 20000 in
theorem gX9_digest_X9_nextOf : GoodIn wsX9_digest (wsV RX9 103 RX9 yX9_nextOf wsX9_nextOf) := goodIn_app (goodIn_of _ (by decide +kernel)) ggX9_digest_X9_nextOf
set_option maxRecDepth 20000 in
theorem ggX9_digest_X9_isReady : GoodIn wsX9_digest wsX9_isReady := goodIn_r _ [33, 3, 34, 35, 36, 9, 37, 38, 13, 14, 15, 16, 17, 11, 39, 40, 41, 42, 43, 44, 45, 46, 167, 168, 169, 170, 171, 172, 173, 174, 175, 176, 177, 178, 179, 180, 181, 182, 183, 184, 185, 186, 187, 188, 189] (by decide +kernel) (by decide +kernel)
set_option maxRecDepth 20000 in
theorem gX9_digest_X9_isReady : GoodIn wsX9_digest (wsV RX9 161 RX9 yX9_isReady wsX9_isReady) := goodIn_app (goodIn_of _ (by decide +kernel)) ggX9_digest_X9_isReady
set_option maxRecDepth 20000 in
theorem ggX9_digest_X9_mixKeeping : GoodIn wsX9_digest wsX9_mixKeeping := goodIn_r _ [50, 3, 51, 52, 53, 9, 54, 55, 56, 57, 58, 59, 60, 61, 62, 63, 39, 40, 41, 42, 43, 44, 45, 46, 64, 65, 66, 67, 38, 12, 13, 14, 15, 16, 17, 11, 68, 69, 70, 71, 27, 28, 29, 72, 73, 74, 75, 23, 24, 25, 26, 76, 77, 78, 79, 80, 81, 82, 83, 84, 85, 86, 87, 88, 89, 90, 91, 92, 93, 94, 95, 96, 97, 98, 99, 100, 101, 102, 103, 104, 18, 19, 20, 21, 22, 2, 105, 106, 107, 108, 109, 110, 111, 112, 113, 114, 115, 116, 117, 118, 119, 120, 121, 122, 123, 124, 125, 126, 127, 128, 129, 130, 131, 132, 133, 134, 135, 136, 137, 138, 139, 140, 141, 142, 143, 144, 145, 146, 147, 148, 149, 150, 151, 152, 153, 154, 155, 156, 167, 168, 169, 170, 171, 172, 173, 174, 175, 176, 177, 178, 179, 180, 181, 182, 183, 184, 185, 186, 187, 188, 189] (by decide +kernel) (by decide +kernel)
set_option maxRecDepth 20000 in
theorem gX9_digest_X9_mixKeeping : GoodIn wsX9_digest (wsV RX9 218 RX9 yX9_mixKeeping wsX9_mixKeeping) := goodIn_app (goodIn_of _ (by decide +kernel)) ggX9_digest_X9_mixKeeping
set_option maxRecDepth 20000 in
theorem ggX9_digest_X9_howMany : GoodIn wsX9_digest wsX9_howMany := goodIn_r _ [160, 3, 4, 38, 43, 161, 162, 163, 164, 165, 9, 166, 12, 44, 45, 46, 34, 35, 36, 37, 13, 14, 15, 16, 17, 11, 39, 40, 41, 42, 167, 168, 169, 170, 171, 172, 173, 174, 175, 176, 177, 178, 179, 180, 181, 182, 183, 184, 185, 186, 187, 188, 189] (by decide +kernel) (by decide +kernel)
set_option maxRecDepth 20000 in
theorem gX9_digest_X9_howMany : GoodIn wsX9_digest (wsV RX9 203 RX9 yX9_howMany wsX9_howMany) := goodIn_app (goodIn_of _ (by decide +kernel)) ggX9_digest_X9_howMany
theorem dX9_digest_0 : decode cX9_digest 0 = .ok (.aload_n 0, 1) := by decide +kernel
theorem dX9_digest_1 : decode cX9_digest 1 = .ok (.ldc2_w 216, 3) := by decide +kernel
theorem dX9_digest_4 : decode cX9_digest 4 = .ok (.putfield 208, 3) := by decide +kernel
theorem dX9_digest_7 : decode cX9_digest 7 = .ok (.iconst 0, 1) := by decide +kernel
theorem dX9_digest_8 : decode cX9_digest 8 = .ok (.istore_n 1, 1) := by decide +kernel
theorem dX9_digest_9 : decode cX9_digest 9 = .ok (.iload_n 1, 1) := by decide +kernel
theorem dX9_digest_10 : decode cX9_digest 10 = .ok (.aload_n 0, 1) := by decide +kernel
theorem dX9_digest_11 : decode cX9_digest 11 = .ok (.getfield 69, 3) := by decide +kernel
theorem dX9_digest_14 : decode cX9_digest 14 = .ok (.if_icmp .ge 58, 3) := by decide +kernel
theorem dX9_digest_17 : decode cX9_digest 17 = .ok (.iconst 0, 1) := by decide +kernel
theorem dX9_digest_18 : decode cX9_digest 18 = .ok (.istore_n 2, 1) := by decide +kernel
theorem dX9_digest_19 : decode cX9_digest 19 = .ok (.iload_n 2, 1) := by decide +kernel
theorem dX9_digest_20 : decode cX9_digest 20 = .ok (.iconst 3, 1) := by decide +kernel
theorem dX9_digest_21 : decode cX9_digest 21 = .ok (.if_icmp .ge 20, 3) := by decide +kernel
theorem dX9_digest_24 : decode cX9_digest 24 = .ok (.aload_n 0, 1) := by decide +kernel
theorem dX9_digest_25 : decode cX9_digest 25 = .ok (.aload_n 0, 1) := by decide +kernel
theorem dX9_digest_26 : decode cX9_digest 26 = .ok (.iload_n 1, 1) := by decide +kernel
theorem dX9_digest_27 : decode cX9_digest 27 = .ok (.iload_n 2, 1) := by decide +kernel
theorem dX9_digest_28 : decode cX9_digest 28 = .ok (.invokevirtual 99, 3) := by decide +kernel
theorem dX9_digest_31 : decode cX9_digest 31 = .ok (.i2l, 1) := by decide +kernel
theorem dX9_digest_32 : decode cX9_digest 32 = .ok (.invokevirtual 212, 3) := by decide +kernel
theorem dX9_digest_35 : decode cX9_digest 35 = .ok (.iinc 2 1, 3) := by decide +kernel
theorem dX9_digest_38 : decode cX9_digest 38 = .ok (.goto (-19), 3) := by decide +kernel
theorem dX9_digest_41 : decode cX9_digest 41 = .ok (.iconst 0, 1) := by decide +kernel
theorem dX9_digest_42 : decode cX9_digest 42 = .ok (.istore_n 2, 1) := by decide +kernel
theorem dX9_digest_43 : decode cX9_digest 43 = .ok (.iload_n 2, 1) := by decide +kernel
theorem dX9_digest_44 : decode cX9_digest 44 = .ok (.bipush 8, 2) := by decide +kernel
theorem dX9_digest_46 : decode cX9_digest 46 = .ok (.if_icmp .ge 20, 3) := by decide +kernel
theorem dX9_digest_49 : decode cX9_digest 49 = .ok (.aload_n 0, 1) := by decide +kernel
theorem dX9_digest_50 : decode cX9_digest 50 = .ok (.aload_n 0, 1) := by decide +kernel
theorem dX9_digest_51 : decode cX9_digest 51 = .ok (.iload_n 1, 1) := by decide +kernel
theorem dX9_digest_52 : decode cX9_digest 52 = .ok (.iload_n 2, 1) := by decide +kernel
theorem dX9_digest_53 : decode cX9_digest 53 = .ok (.invokevirtual 103, 3) := by decide +kernel
theorem dX9_digest_56 : decode cX9_digest 56 = .ok (.i2l, 1) := by decide +kernel
theorem dX9_digest_57 : decode cX9_digest 57 = .ok (.invokevirtual 212, 3) := by decide +kernel
theorem dX9_digest_60 : decode cX9_digest 60 = .ok (.iinc 2 1, 3) := by decide +kernel
theorem dX9_digest_63 : decode cX9_digest 63 = .ok (.goto (-20), 3) := by decide +kernel
theorem dX9_digest_66 : decode cX9_digest 66 = .ok (.iinc 1 1, 3) := by decide +kernel
theorem dX9_digest_69 : decode cX9_digest 69 = .ok (.goto (-60), 3) := by decide +kernel
theorem dX9_digest_72 : decode cX9_digest 72 = .ok (.aload_n 0, 1) := by decide +kernel
theorem dX9_digest_73 : decode cX9_digest 73 = .ok (.invokevirtual 161, 3) := by decide +kernel
theorem dX9_digest_76 : decode cX9_digest 76 = .ok (.ifCond .eq 7, 3) := by decide +kernel
theorem dX9_digest_79 : decode cX9_digest 79 = .ok (.aload_n 0, 1) := by decide +kernel
theorem dX9_digest_80 : decode cX9_digest 80 = .ok (.invokevirtual 218, 3) := by decide +kernel
theorem dX9_digest_83 : decode cX9_digest 83 = .ok (.iconst 0, 1) := by decide +kernel
theorem dX9_digest_84 : decode cX9_digest 84 = .ok (.istore_n 1, 1) := by decide +kernel
theorem dX9_digest_85 : decode cX9_digest 85 = .ok (.iload_n 1, 1) := by decide +kernel
theorem dX9_digest_86 : decode cX9_digest 86 = .ok (.aload_n 0, 1) := by decide +kernel
theorem dX9_digest_87 : decode cX9_digest 87 = .ok (.getfield 52, 3) := by decide +kernel
theorem dX9_digest_90 : decode cX9_digest 90 = .ok (.if_icmp .ge 20, 3) := by decide +kernel
theorem dX9_digest_93 : decode cX9_digest 93 = .ok (.aload_n 0, 1) := by decide +kernel
theorem dX9_digest_94 : decode cX9_digest 94 = .ok (.aload_n 0, 1) := by decide +kernel
theorem dX9_digest_95 : decode cX9_digest 95 = .ok (.getfield 7, 3) := by decide +kernel
theorem dX9_digest_98 : decode cX9_digest 98 = .ok (.iload_n 1, 1) := by decide +kernel
theorem dX9_digest_99 : decode cX9_digest 99 = .ok (.iaload, 1) := by decide +kernel
theorem dX9_digest_100 : decode cX9_digest 100 = .ok (.i2l, 1) := by decide +kernel
theorem dX9_digest_101 : decode cX9_digest 101 = .ok (.invokevirtual 212, 3) := by decide +kernel
theorem dX9_digest_104 : decode cX9_digest 104 = .ok (.iinc 1 1, 3) := by decide +kernel
theorem dX9_digest_107 : decode cX9_digest 107 = .ok (.goto (-22), 3) := by decide +kernel
theorem dX9_digest_110 : decode cX9_digest 110 = .ok (.iconst 0, 1) := by decide +kernel
theorem dX9_digest_111 : decode cX9_digest 111 = .ok (.istore_n 1, 1) := by decide +kernel
theorem dX9_digest_112 : decode cX9_digest 112 = .ok (.iload_n 1, 1) := by decide +kernel
theorem dX9_digest_113 : decode cX9_digest 113 = .ok (.bipush 8, 2) := by decide +kernel
theorem dX9_digest_115 : decode cX9_digest 115 = .ok (.if_icmp .ge 19, 3) := by decide +kernel
theorem dX9_digest_118 : decode cX9_digest 118 = .ok (.aload_n 0, 1) := by decide +kernel
theorem dX9_digest_119 : decode cX9_digest 119 = .ok (.aload_n 0, 1) := by decide +kernel
theorem dX9_digest_120 : decode cX9_digest 120 = .ok (.iload_n 1, 1) := by decide +kernel
theorem dX9_digest_121 : decode cX9_digest 121 = .ok (.invokevirtual 203, 3) := by decide +kernel
theorem dX9_digest_124 : decode cX9_digest 124 = .ok (.i2l, 1) := by decide +kernel
theorem dX9_digest_125 : decode cX9_digest 125 = .ok (.invokevirtual 212, 3) := by decide +kernel
theorem dX9_digest_128 : decode cX9_digest 128 = .ok (.iinc 1 1, 3) := by decide +kernel
theorem dX9_digest_131 : decode cX9_digest 131 = .ok (.goto (-19), 3) := by decide +kernel
theorem dX9_digest_134 : decode cX9_digest 134 = .ok (.aload_n 0, 1) := by decide +kernel
theorem dX9_digest_135 : decode cX9_digest 135 = .ok (.getfield 208, 3) := by decide +kernel
theorem dX9_digest_138 : decode cX9_digest 138 = .ok (.lreturn, 1) := by decide +kernel
theorem dJxe99ae_isNaN_b9ae7_0 : decode cJxe99ae_isNaN_b9ae7 0 = .ok (.dload_n 0, 1) := by decide +kernel
theorem dJxe99ae_isNaN_b9ae7_1 : decode cJxe99ae_isNaN_b9ae7 1 = .ok (.dload_n 0, 1) := by decide +kernel
theorem dJxe99ae_isNaN_b9ae7_2 : decode cJxe99ae_isNaN_b9ae7 2 = .ok (.dcmp .l, 1) := by decide +kernel
theorem dJxe99ae_isNaN_b9ae7_3 : decode cJxe99ae_isNaN_b9ae7 3 = .ok (.ifCond .eq 7, 3) := by decide +kernel
theorem dJxe99ae_isNaN_b9ae7_6 : decode cJxe99ae_isNaN_b9ae7 6 = .ok (.iconst 1, 1) := by decide +kernel
theorem dJxe99ae_isNaN_b9ae7_7 : decode cJxe99ae_isNaN_b9ae7 7 = .ok (.goto 4, 3) := by decide +kernel
theorem dJxe99ae_isNaN_b9ae7_10 : decode cJxe99ae_isNaN_b9ae7 10 = .ok (.iconst 0, 1) := by decide +kernel
theorem dJxe99ae_isNaN_b9ae7_11 : decode cJxe99ae_isNaN_b9ae7 11 = .ok (.ireturn, 1) := by decide +kernel
set_option maxRecDepth 20000 in
theorem ggJxe99ae_doubleToLongBits_ccdee_Jxe99ae_isNaN_b9ae7 : GoodIn wsJxe99ae_doubleToLongBits_ccdee wsJxe99ae_isNaN_b9ae7 := goodIn_r _ [9] (by decide +kernel) (by decide +kernel)
set_option maxRecDepth 20000 in
theorem gJxe99ae_doubleToLongBits_ccdee_Jxe99ae_isNaN_b9ae7 : GoodIn wsJxe99ae_doubleToLongBits_ccdee (va_wsS RJxe99ae 122 yJxe99ae_isNaN_b9ae7 wsJxe99ae_isNaN_b9ae7) := goodIn_app (goodIn_of _ (by decide +kernel)) ggJxe99ae_doubleToLongBits_ccdee_Jxe99ae_isNaN_b9ae7
theorem dJxe99ae_doubleToLongBits_ccdee_0 : decode cJxe99ae_doubleToLongBits_ccdee 0 = .ok (.dload_n 0, 1) := by decide +kernel
theorem dJxe99ae_doubleToLongBits_ccdee_1 : decode cJxe99ae_doubleToLongBits_ccdee 1 = .ok (.invokestatic 122, 3) := by decide +kernel
theorem dJxe99ae_doubleToLongBits_ccdee_4 : decode cJxe99ae_doubleToLongBits_ccdee 4 = .ok (.ifCond .ne 8, 3) := by decide +kernel
theorem dJxe99ae_doubleToLongBits_ccdee_7 : decode cJxe99ae_doubleToLongBits_ccdee 7 = .ok (.dload_n 0, 1) := by decide +kernel
theorem dJxe99ae_doubleToLongBits_ccdee_8 : decode cJxe99ae_doubleToLongBits_ccdee 8 = .ok (.invokestatic 134, 3) := by decide +kernel
theorem dJxe99ae_doubleToLongBits_ccdee_11 : decode cJxe99ae_doubleToLongBits_ccdee 11 = .ok (.lreturn, 1) := by decide +kernel
theorem dJxe99ae_doubleToLongBits_ccdee_12 : decode cJxe99ae_doubleToLongBits_ccdee 12 = .ok (.ldc2_w 137, 3) := by decide +kernel
theorem dJxe99ae_doubleToLongBits_ccdee_15 : decode cJxe99ae_doubleToLongBits_ccdee 15 = .ok (.lreturn, 1) := by decide +kernel
theorem dJxf58ca_isNaN_12338_0 : decode cJxf58ca_isNaN_12338 0 = .ok (.fload_n 0, 1) := by decide +kernel
theorem dJxf58ca_isNaN_12338_1 : decode cJxf58ca_isNaN_12338 1 = .ok (.fload_n 0, 1) := by decide +kernel
theorem dJxf58ca_isNaN_12338_2 : decode cJxf58ca_isNaN_12338 2 = .ok (.fcmp .l, 1) := by decide +kernel
theorem dJxf58ca_isNaN_12338_3 : decode cJxf58ca_isNaN_12338 3 = .ok (.ifCond .eq 7, 3) := by decide +kernel
theorem dJxf58ca_isNaN_12338_6 : decode cJxf58ca_isNaN_12338 6 = .ok (.iconst 1, 1) := by decide +kernel
theorem dJxf58ca_isNaN_12338_7 : decode cJxf58ca_isNaN_12338 7 = .ok (.goto 4, 3) := by decide +kernel
theorem dJxf58ca_isNaN_12338_10 : decode cJxf58ca_isNaN_12338 10 = .ok (.iconst 0, 1) := by decide +kernel
theorem dJxf58ca_isNaN_12338_11 : decode cJxf58ca_isNaN_12338 11 = .ok (.ireturn, 1) := by decide +kernel
set_option maxRecDepth 20000 in
theorem ggJxf58ca_floatToIntBits_5c35a_Jxf58ca_isNaN_12338 : GoodIn wsJxf58ca_floatToIntBits_5c35a wsJxf58ca_isNaN_12338 := goodIn_r _ [9] (by decide +kernel) (by decide +kernel)
set_option maxRecDepth 20000 in
theorem gJxf58ca_floatToIntBits_5c35a_Jxf58ca_isNaN_12338 : GoodIn wsJxf58ca_floatToIntBits_5c35a (va_wsS RJxf58ca 59 yJxf58ca_isNaN_12338 wsJxf58ca_isNaN_12338) := goodIn_app (goodIn_of _ (by decide +kernel)) ggJxf58ca_floatToIntBits_5c35a_Jxf58ca_isNaN_12338
theorem dJxf58ca_floatToIntBits_5c35a_0 : decode cJxf58ca_floatToIntBits_5c35a 0 = .ok (.fload_n 0, 1) := by decide +kernel
theorem dJxf58ca_floatToIntBits_5c35a_1 : decode cJxf58ca_floatToIntBits_5c35a 1 = .ok (.invokestatic 59, 3) := by decide +kernel
theorem dJxf58ca_floatToIntBits_5c35a_4 : decode cJxf58ca_floatToIntBits_5c35a 4 = .ok (.ifCond .ne 8, 3) := by decide +kernel
theorem dJxf58ca_floatToIntBits_5c35a_7 : decode cJxf58ca_floatToIntBits_5c35a 7 = .ok (.fload_n 0, 1) := by decide +kernel
theorem dJxf58ca_floatToIntBits_5c35a_8 : decode cJxf58ca_floatToIntBits_5c35a 8 = .ok (.invokestatic 74, 3) := by decide +kernel
theorem dJxf58ca_floatToIntBits_5c35a_11 : decode cJxf58ca_floatToIntBits_5c35a 11 = .ok (.ireturn, 1) := by decide +kernel
theorem dJxf58ca_floatToIntBits_5c35a_12 : decode cJxf58ca_floatToIntBits_5c35a 12 = .ok (.ldc 77, 2) := by decide +kernel
theorem dJxf58ca_floatToIntBits_5c35a_14 : decode cJxf58ca_floatToIntBits_5c35a 14 = .ok (.ireturn, 1) := by decide +kernel
theorem dJ6_bitCount_0f7a4_0 : decode cJ6_bitCount_0f7a4 0 = .ok (.iload_n 0, 1) := by decide +kernel
theorem dJ6_bitCount_0f7a4_1 : decode cJ6_bitCount_0f7a4 1 = .ok (.iload_n 0, 1) := by decide +kernel
theorem dJ6_bitCount_0f7a4_2 : decode cJ6_bitCount_0f7a4 2 = .ok (.iconst 1, 1) := by decide +kernel
theorem dJ6_bitCount_0f7a4_3 : decode cJ6_bitCount_0f7a4 3 = .ok (.iushr, 1) := by decide +kernel
theorem dJ6_bitCount_0f7a4_4 : decode cJ6_bitCount_0f7a4 4 = .ok (.ldc_w 265, 3) := by decide +kernel
theorem dJ6_bitCount_0f7a4_7 : decode cJ6_bitCount_0f7a4 7 = .ok (.iand, 1) := by decide +kernel
theorem dJ6_bitCount_0f7a4_8 : decode cJ6_bitCount_0f7a4 8 = .ok (.isub, 1) := by decide +kernel
theorem dJ6_bitCount_0f7a4_9 : decode cJ6_bitCount_0f7a4 9 = .ok (.istore_n 0, 1) := by decide +kernel
theorem dJ6_bitCount_0f7a4_10 : decode cJ6_bitCount_0f7a4 10 = .ok (.iload_n 0, 1) := by decide +kernel
theorem dJ6_bitCount_0f7a4_11 : decode cJ6_bitCount_0f7a4 11 = .ok (.ldc_w 266, 3) := by decide +kernel
theorem dJ6_bitCount_0f7a4_14 : decode cJ6_bitCount_0f7a4 14 = .ok (.iand, 1) := by decide +kernel
theorem dJ6_bitCount_0f7a4_15 : decode cJ6_bitCount_0f7a4 15 = .ok (.iload_n 0, 1) := by decide +kernel
theorem dJ6_bitCount_0f7a4_16 : decode cJ6_bitCount_0f7a4 16 = .ok (.iconst 2, 1) := by decide +kernel
theorem dJ6_bitCount_0f7a4_17 : decode cJ6_bitCount_0f7a4 17 = .ok (.iushr, 1) := by decide +kernel
theorem dJ6_bitCount_0f7a4_18 : decode cJ6_bitCount_0f7a4 18 = .ok (.ldc_w 266, 3) := by decide +kernel
theorem dJ6_bitCount_0f7a4_21 : decode cJ6_bitCount_0f7a4 21 = .ok (.iand, 1) := by decide +kernel
theorem dJ6_bitCount_0f7a4_22 : decode cJ6_bitCount_0f7a4 22 = .ok (.iadd, 1) := by decide +kernel
theorem dJ6_bitCount_0f7a4_23 : decode cJ6_bitCount_0f7a4 23 = .ok (.istore_n 0, 1) := by decide +kernel
theorem dJ6_bitCount_0f7a4_24 : decode cJ6_bitCount_0f7a4 24 = .ok (.iload_n 0, 1) := by decide +kernel
theorem dJ6_bitCount_0f7a4_25 : decode cJ6_bitCount_0f7a4 25 = .ok (.iload_n 0, 1) := by decide +kernel
theorem dJ6_bitCount_0f7a4_26 : decode cJ6_bitCount_0f7a4 26 = .ok (.iconst 4, 1) := by decide +kernel
theorem dJ6_bitCount_0f7a4_27 : decode cJ6_bitCount_0f7a4 27 = .ok (.iushr, 1) := by decide +kernel
theorem dJ6_bitCount_0f7a4_28 : decode cJ6_bitCount_0f7a4 28 = .ok (.iadd, 1) := by decide +kernel
theorem dJ6_bitCount_0f7a4_29 : decode cJ6_bitCount_0f7a4 29 = .ok (.ldc_w 267, 3) := by decide +kernel
theorem dJ6_bitCount_0f7a4_32 : decode cJ6_bitCount_0f7a4 32 = .ok (.iand, 1) := by decide +kernel
theorem dJ6_bitCount_0f7a4_33 : decode cJ6_bitCount_0f7a4 33 = .ok (.istore_n 0, 1) := by decide +kernel
theorem dJ6_bitCount_0f7a4_34 : decode cJ6_bitCount_0f7a4 34 = .ok (.iload_n 0, 1) := by decide +kernel
theorem dJ6_bitCount_0f7a4_35 : decode cJ6_bitCount_0f7a4 35 = .ok (.iload_n 0, 1) := by decide +kernel
theorem dJ6_bitCount_0f7a4_36 : decode cJ6_bitCount_0f7a4 36 = .ok (.bipush 8, 2) := by decide +kernel
theorem dJ6_bitCount_0f7a4_38 : decode cJ6_bitCount_0f7a4 38 = .ok (.iushr, 1) := by decide +kernel
theorem dJ6_bitCount_0f7a4_39 : decode cJ6_bitCount_0f7a4 39 = .ok (.iadd, 1) := by decide +kernel
theorem dJ6_bitCount_0f7a4_40 : decode cJ6_bitCount_0f7a4 40 = .ok (.istore_n 0, 1) := by decide +kernel
theorem dJ6_bitCount_0f7a4_41 : decode cJ6_bitCount_0f7a4 41 = .ok (.iload_n 0, 1) := by decide +kernel
theorem dJ6_bitCount_0f7a4_42 : decode cJ6_bitCount_0f7a4 42 = .ok (.iload_n 0, 1) := by decide +kernel
theorem dJ6_bitCount_0f7a4_43 : decode cJ6_bitCount_0f7a4 43 = .ok (.bipush 16, 2) := by decide +kernel
theorem dJ6_bitCount_0f7a4_45 : decode cJ6_bitCount_0f7a4 45 = .ok (.iushr, 1) := by decide +kernel
theorem dJ6_bitCount_0f7a4_46 : decode cJ6_bitCount_0f7a4 46 = .ok (.iadd, 1) := by decide +kernel
theorem dJ6_bitCount_0f7a4_47 : decode cJ6_bitCount_0f7a4 47 = .ok (.istore_n 0, 1) := by decide +kernel
theorem dJ6_bitCount_0f7a4_48 : decode cJ6_bitCount_0f7a4 48 = .ok (.iload_n 0, 1) := by decide +kernel
theorem dJ6_bitCount_0f7a4_49 : decode cJ6_bitCount_0f7a4 49 = .ok (.bipush 63, 2) := by decide +kernel
theorem dJ6_bitCount_0f7a4_51 : decode cJ6_bitCount_0f7a4 51 = .ok (.iand, 1) := by decide +kernel
theorem dJ6_bitCount_0f7a4_52 : decode cJ6_bitCount_0f7a4 52 = .ok (.ireturn, 1) := by decide +kernel
theorem dJ9_min_7cf53_0 : decode cJ9_min_7cf53 0 = .ok (.iload_n 0, 1) := by decide +kernel
theorem dJ9_min_7cf53_1 : decode cJ9_min_7cf53 1 = .ok (.iload_n 1, 1) := by decide +kernel
theorem dJ9_min_7cf53_2 : decode cJ9_min_7cf53 2 = .ok (.if_icmp .gt 7, 3) := by decide +kernel
theorem dJ9_min_7cf53_5 : decode cJ9_min_7cf53 5 = .ok (.iload_n 0, 1) := by decide +kernel
theorem dJ9_min_7cf53_6 : decode cJ9_min_7cf53 6 = .ok (.goto 4, 3) := by decide +kernel
theorem dJ9_min_7cf53_9 : decode cJ9_min_7cf53 9 = .ok (.iload_n 1, 1) := by decide +kernel
theorem dJ9_min_7cf53_10 : decode cJ9_min_7cf53 10 = .ok (.ireturn, 1) := by decide +kernel
abbrev vwCl : List vw_C := [(RX0, TX0, 6), (RX2, TX2, 4), (RX3, TX3, 2), (RX4, TX4, 2), (RX5, TX5, 6), (RX6, TX6, 6), (RX7, TX7, 5), (RX8, TX8, 9), (RX9, TX9, 23)]
