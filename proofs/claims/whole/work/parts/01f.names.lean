theorem dX9_costNow_52 : decode cX9_costNow 52 = .ok (.invokevirtual 151, 3) := by decide +kernel
theorem dX9_costNow_55 : decode cX9_costNow 55 = .ok (.ireturn, 1) := by decide +kernel
theorem dX9_costNow_56 : decode cX9_costNow 56 = .ok (.aload_n 0, 1) := by decide +kernel
theorem dX9_costNow_57 : decode cX9_costNow 57 = .ok (.iconst 1, 1) := by decide +kernel
theorem dX9_costNow_58 : decode cX9_costNow 58 = .ok (.iconst 1, 1) := by decide +kernel
theorem dX9_costNow_59 : decode cX9_costNow 59 = .ok (.invokevirtual 151, 3) := by decide +kernel
theorem dX9_costNow_62 : decode cX9_costNow 62 = .ok (.ireturn, 1) := by decide +kernel
set_option maxRecDepth 20000 in
theorem ggX9_cost_X9_within : GoodIn wsX9_cost wsX9_within := goodIn_r _ [4] (by decide +kernel) (by decide +kernel)
set_option maxRecDepth 20000 in
theorem gX9_cost_X9_within : GoodIn wsX9_cost (va_wsS RX9 48 yX9_within wsX9_within) := goodIn_app (goodIn_of _ (by decide +kernel)) ggX9_cost_X9_within
set_option maxRecDepth 20000 in
theorem ggX9_cost_X9_isReady : GoodIn wsX9_cost wsX9_isReady := goodIn_r _ [8, 9, 10, 11, 12, 3, 13, 14, 15, 16, 17, 18, 19, 20, 21, 22, 23, 24, 25, 26, 27, 28, 107, 108, 109, 110, 111, 112, 113, 114, 115, 116, 117, 118, 119, 120, 121, 122, 123, 124, 125, 126, 127, 128, 129] (by decide +kernel) (by decide +kernel)
set_option maxRecDepth 20000 in
theorem gX9_cost_X9_isReady : GoodIn wsX9_cost (wsV RX9 161 RX9 yX9_isReady wsX9_isReady) := goodIn_app (goodIn_of _ (by decide +kernel)) ggX9_cost_X9_isReady
set_option maxRecDepth 20000 in
theorem ggX9_cost_X9_costNow : GoodIn wsX9_cost wsX9_costNow := goodIn_r _ [32, 33, 34, 35, 3, 36, 9, 37, 38, 39, 40, 41, 42, 43, 44, 45, 46, 47, 48, 49, 21, 22, 23, 24, 25, 26, 27, 28, 50, 51, 52, 53, 14, 54, 15, 16, 17, 18, 19, 20, 55, 56, 57, 58, 59, 60, 61, 62, 63, 64, 65, 66, 67, 68, 69, 70, 71, 72, 73, 74, 75, 76, 77, 78, 79, 80, 81, 82, 83, 84, 85, 86, 87, 88, 89, 90, 91, 92, 93, 94, 95, 96, 97, 98, 99, 100, 101, 102, 103, 104, 105, 106, 107, 108, 109, 110, 111, 112, 113, 114, 115, 116, 117, 118, 119, 120, 121, 122, 123, 124, 125, 126, 127, 128, 129] (by decide +kernel) (by decide +kernel)
set_option maxRecDepth 20000 in
theorem gX9_cost_X9_costNow : GoodIn wsX9_cost (wsV RX9 164 RX9 yX9_costNow wsX9_costNow) := goodIn_app (goodIn_of _ (by decide +kernel)) ggX9_cost_X9_costNow
theorem dX9_cost_0 : decode cX9_cost 0 = .ok (.iload_n 1, 1) := by decide +kernel
theorem dX9_cost_1 : decode cX9_cost 1 = .ok (.iconst 0, 1) := by decide +kernel
theorem dX9_cost_2 : decode cX9_cost 2 = .ok (.iconst 4, 1) := by decide +kernel
theorem dX9_cost_3 : decode cX9_cost 3 = .ok (.invokestatic 48, 3) := by decide +kernel
theorem dX9_cost_6 : decode cX9_cost 6 = .ok (.ifCond .ne 7, 3) := by decide +kernel
theorem dX9_cost_9 : decode cX9_cost 9 = .ok (.sipush (-1002), 3) := by decide +kernel
theorem dX9_cost_12 : decode cX9_cost 12 = .ok (.ireturn, 1) := by decide +kernel
theorem dX9_cost_13 : decode cX9_cost 13 = .ok (.aload_n 0, 1) := by decide +kernel
theorem dX9_cost_14 : decode cX9_cost 14 = .ok (.invokevirtual 161, 3) := by decide +kernel
theorem dX9_cost_17 : decode cX9_cost 17 = .ok (.ifCond .eq 11, 3) := by decide +kernel
theorem dX9_cost_20 : decode cX9_cost 20 = .ok (.aload_n 0, 1) := by decide +kernel
theorem dX9_cost_21 : decode cX9_cost 21 = .ok (.iload_n 1, 1) := by decide +kernel
theorem dX9_cost_22 : decode cX9_cost 22 = .ok (.invokevirtual 164, 3) := by decide +kernel
theorem dX9_cost_25 : decode cX9_cost 25 = .ok (.goto 6, 3) := by decide +kernel
theorem dX9_cost_28 : decode cX9_cost 28 = .ok (.sipush (-1003), 3) := by decide +kernel
theorem dX9_cost_31 : decode cX9_cost 31 = .ok (.ireturn, 1) := by decide +kernel
set_option maxRecDepth 20000 in
theorem ggX9_meanNow_X9_keptAll : GoodIn wsX9_meanNow wsX9_keptAll := goodIn_r _ [6, 1, 7, 8, 9, 5, 10, 11, 12, 13, 14, 15, 16, 17, 18, 19, 20, 21, 22, 23, 24, 25, 26, 27, 28, 29, 30, 31, 32, 33, 34, 35, 36, 37, 38, 39, 40, 41, 42, 43, 44, 45, 46, 47, 48, 49, 50, 51, 52, 53, 54, 55, 56, 57, 58, 59, 60, 61, 62, 63, 64, 65, 66, 67, 68, 69, 70, 71, 72, 73, 74, 75, 76, 77, 78, 79, 80, 81, 82, 83, 96, 97, 98, 99, 100, 101, 102, 103, 104, 105, 106, 107, 108, 109, 110, 111, 112, 113, 114, 115, 116, 117, 118] (by decide +kernel) (by decide +kernel)
set_option maxRecDepth 20000 in
theorem gX9_meanNow_X9_keptAll : GoodIn wsX9_meanNow (wsV RX9 151 RX9 yX9_keptAll wsX9_keptAll) := goodIn_app (goodIn_of _ (by decide +kernel)) ggX9_meanNow_X9_keptAll
set_option maxRecDepth 20000 in
theorem ggX9_meanNow_Jxe99ae_doubleToLongBits_ccdee : GoodIn wsX9_meanNow wsJxe99ae_doubleToLongBits_ccdee := goodIn_r _ [87, 88, 89, 90, 91, 92, 93, 94, 86, 95] (by decide +kernel) (by decide +kernel)
set_option maxRecDepth 20000 in
theorem gX9_meanNow_Jxe99ae_doubleToLongBits_ccdee : GoodIn wsX9_meanNow (va_wsS RX9 167 yJxe99ae_doubleToLongBits_ccdee wsJxe99ae_doubleToLongBits_ccdee) := goodIn_app (goodIn_of _ (by decide +kernel)) ggX9_meanNow_Jxe99ae_doubleToLongBits_ccdee
theorem dX9_meanNow_0 : decode cX9_meanNow 0 = .ok (.aload_n 0, 1) := by decide +kernel
theorem dX9_meanNow_1 : decode cX9_meanNow 1 = .ok (.iconst 0, 1) := by decide +kernel
theorem dX9_meanNow_2 : decode cX9_meanNow 2 = .ok (.iconst 0, 1) := by decide +kernel
theorem dX9_meanNow_3 : decode cX9_meanNow 3 = .ok (.invokevirtual 151, 3) := by decide +kernel
theorem dX9_meanNow_6 : decode cX9_meanNow 6 = .ok (.i2d, 1) := by decide +kernel
theorem dX9_meanNow_7 : decode cX9_meanNow 7 = .ok (.aload_n 0, 1) := by decide +kernel
theorem dX9_meanNow_8 : decode cX9_meanNow 8 = .ok (.getfield 69, 3) := by decide +kernel
theorem dX9_meanNow_11 : decode cX9_meanNow 11 = .ok (.i2d, 1) := by decide +kernel
theorem dX9_meanNow_12 : decode cX9_meanNow 12 = .ok (.ddiv, 1) := by decide +kernel
theorem dX9_meanNow_13 : decode cX9_meanNow 13 = .ok (.invokestatic 167, 3) := by decide +kernel
theorem dX9_meanNow_16 : decode cX9_meanNow 16 = .ok (.lreturn, 1) := by decide +kernel
set_option maxRecDepth 20000 in
theorem ggX9_mean_X9_isReady : GoodIn wsX9_mean wsX9_isReady := goodIn_r _ [6, 7, 8, 9, 10, 5, 11, 12, 13, 14, 15, 16, 17, 18, 19, 20, 21, 22, 23, 24, 25, 26, 109, 110, 111, 112, 113, 114, 115, 116, 117, 118, 119, 120, 121, 122, 123, 124, 125, 126, 127, 128, 129, 130, 131] (by decide +kernel) (by decide +kernel)
set_option maxRecDepth 20000 in
theorem gX9_mean_X9_isReady : GoodIn wsX9_mean (wsV RX9 161 RX9 yX9_isReady wsX9_isReady) := goodIn_app (goodIn_of _ (by decide +kernel)) ggX9_mean_X9_isReady
set_option maxRecDepth 20000 in
theorem ggX9_mean_X9_meanNow : GoodIn wsX9_mean wsX9_meanNow := goodIn_r _ [30, 7, 31, 32, 33, 5, 34, 35, 36, 37, 38, 39, 40, 41, 42, 43, 44, 45, 46, 47, 19, 20, 21, 22, 23, 24, 25, 26, 48, 49, 50, 51, 12, 52, 13, 14, 15, 16, 17, 18, 53, 54, 55, 56, 57, 58, 59, 60, 61, 62, 63, 64, 65, 66, 67, 68, 69, 70, 71, 72, 73, 74, 75, 76, 77, 78, 79, 80, 81, 82, 83, 84, 85, 86, 87, 88, 89, 90, 91, 92, 93, 94, 95, 96, 97, 98, 99, 100, 101, 102, 103, 104, 105, 106, 107, 108, 109, 110, 111, 112, 113, 114, 115, 116, 117, 118, 119, 120, 121, 122, 123, 124, 125, 126, 127, 128, 129, 130, 131] (by decide +kernel) (by decide +kernel)
set_option maxRecDepth 20000 in
theorem gX9_mean_X9_meanNow : GoodIn wsX9_mean (wsV RX9 173 RX9 yX9_meanNow wsX9_meanNow) := goodIn_app (goodIn_of _ (by decide +kernel)) ggX9_mean_X9_meanNow
theorem dX9_mean_0 : decode cX9_mean 0 = .ok (.aload_n 0, 1) := by decide +kernel
theorem dX9_mean_1 : decode cX9_mean 1 = .ok (.invokevirtual 161, 3) := by decide +kernel
theorem dX9_mean_4 : decode cX9_mean 4 = .ok (.ifCond .eq 10, 3) := by decide +kernel
theorem dX9_mean_7 : decode cX9_mean 7 = .ok (.aload_n 0, 1) := by decide +kernel
theorem dX9_mean_8 : decode cX9_mean 8 = .ok (.invokevirtual 173, 3) := by decide +kernel
theorem dX9_mean_11 : decode cX9_mean 11 = .ok (.goto 6, 3) := by decide +kernel
theorem dX9_mean_14 : decode cX9_mean 14 = .ok (.ldc2_w 177, 3) := by decide +kernel
theorem dX9_mean_17 : decode cX9_mean 17 = .ok (.lreturn, 1) := by decide +kernel
set_option maxRecDepth 20000 in
theorem ggX9_ratioNow_X9_keptAll : GoodIn wsX9_ratioNow wsX9_keptAll := goodIn_r _ [5, 6, 7, 8, 9, 4, 10, 11, 12, 13, 14, 15, 16, 17, 18, 19, 20, 21, 22, 23, 24, 25, 26, 27, 28, 29, 30, 31, 32, 33, 34, 35, 36, 37, 38, 39, 40, 41, 42, 43, 44, 45, 46, 47, 48, 49, 50, 51, 52, 53, 54, 55, 56, 57, 58, 59, 60, 61, 62, 63, 64, 65, 66, 67, 68, 69, 70, 71, 72, 73, 74, 75, 76, 77, 78, 79, 80, 81, 82, 83, 100, 101, 102, 103, 104, 105, 106, 107, 108, 109, 110, 111, 112, 113, 114, 115, 116, 117, 118, 119, 120, 121, 122] (by decide +kernel) (by decide +kernel)
set_option maxRecDepth 20000 in
theorem gX9_ratioNow_X9_keptAll : GoodIn wsX9_ratioNow (wsV RX9 151 RX9 yX9_keptAll wsX9_keptAll) := goodIn_app (goodIn_of _ (by decide +kernel)) ggX9_ratioNow_X9_keptAll
set_option maxRecDepth 20000 in
theorem ggX9_ratioNow_X9_leastNow : GoodIn wsX9_ratioNow wsX9_leastNow := goodIn_r _ [87, 19, 13, 14, 15, 4, 16, 17, 18, 20, 21, 22, 23, 24, 25, 26, 27, 28, 29, 30, 31, 6, 12, 32, 11, 33, 34, 35, 36, 37, 38, 39, 40, 41, 42, 43, 44, 45, 46, 47, 48, 49, 50, 51, 52, 53, 54, 55, 56, 57, 58, 59, 60, 61, 62, 63, 64, 65, 66, 67, 68, 69, 70, 71, 72, 73, 74, 75, 76, 77, 78, 79, 80, 81, 82, 83, 100, 101, 102, 103, 104, 105, 106, 107, 108, 109, 110, 111, 112, 113, 114, 115, 116, 117, 118, 119, 120, 121, 122] (by decide +kernel) (by decide +kernel)
set_option maxRecDepth 20000 in
theorem gX9_ratioNow_X9_leastNow : GoodIn wsX9_ratioNow (wsV RX9 155 RX9 yX9_leastNow wsX9_leastNow) := goodIn_app (goodIn_of _ (by decide +kernel)) ggX9_ratioNow_X9_leastNow
set_option maxRecDepth 20000 in
theorem ggX9_ratioNow_Jxf58ca_floatToIntBits_5c35a : GoodIn wsX9_ratioNow wsJxf58ca_floatToIntBits_5c35a := goodIn_r _ [91, 92, 93, 94, 95, 96, 97, 98, 90, 99] (by decide +kernel) (by decide +kernel)
set_option maxRecDepth 20000 in
theorem gX9_ratioNow_Jxf58ca_floatToIntBits_5c35a : GoodIn wsX9_ratioNow (va_wsS RX9 179 yJxf58ca_floatToIntBits_5c35a wsJxf58ca_floatToIntBits_5c35a) := goodIn_app (goodIn_of _ (by decide +kernel)) ggX9_ratioNow_Jxf58ca_floatToIntBits_5c35a
theorem dX9_ratioNow_0 : decode cX9_ratioNow 0 = .ok (.aload_n 0, 1) := by decide +kernel
theorem dX9_ratioNow_1 : decode cX9_ratioNow 1 = .ok (.iconst 0, 1) := by decide +kernel
theorem dX9_ratioNow_2 : decode cX9_ratioNow 2 = .ok (.iconst 0, 1) := by decide +kernel
theorem dX9_ratioNow_3 : decode cX9_ratioNow 3 = .ok (.invokevirtual 151, 3) := by decide +kernel
theorem dX9_ratioNow_6 : decode cX9_ratioNow 6 = .ok (.i2f, 1) := by decide +kernel
theorem dX9_ratioNow_7 : decode cX9_ratioNow 7 = .ok (.aload_n 0, 1) := by decide +kernel
theorem dX9_ratioNow_8 : decode cX9_ratioNow 8 = .ok (.invokevirtual 155, 3) := by decide +kernel
theorem dX9_ratioNow_11 : decode cX9_ratioNow 11 = .ok (.i2f, 1) := by decide +kernel
theorem dX9_ratioNow_12 : decode cX9_ratioNow 12 = .ok (.fdiv, 1) := by decide +kernel
theorem dX9_ratioNow_13 : decode cX9_ratioNow 13 = .ok (.invokestatic 179, 3) := by decide +kernel
theorem dX9_ratioNow_16 : decode cX9_ratioNow 16 = .ok (.ireturn, 1) := by decide +kernel
set_option maxRecDepth 20000 in
theorem ggX9_ratio_X9_isReady : GoodIn wsX9_ratio wsX9_isReady := goodIn_r _ [5, 6, 7, 8, 9, 4, 10, 11, 12, 13, 14, 15, 16, 17, 18, 19, 20, 21, 22, 23, 24, 25, 112, 113, 114, 115, 116, 117, 118, 119, 120, 121, 122, 123, 124, 125, 126, 127, 128, 129, 130, 131, 132, 133, 134] (by decide +kernel) (by decide +kernel)
set_option maxRecDepth 20000 in
theorem gX9_ratio_X9_isReady : GoodIn wsX9_ratio (wsV RX9 161 RX9 yX9_isReady wsX9_isReady) := goodIn_app (goodIn_of _ (by decide +kernel)) ggX9_ratio_X9_isReady
set_option maxRecDepth 20000 in
theorem ggX9_ratio_X9_ratioNow : GoodIn wsX9_ratio wsX9_ratioNow := goodIn_r _ [29, 30, 31, 32, 4, 33, 6, 34, 35, 36, 37, 38, 39, 40, 41, 42, 43, 44, 45, 46, 18, 19, 20, 21, 22, 23, 24, 25, 47, 48, 49, 50, 11, 51, 12, 13, 14, 15, 16, 17, 52, 53, 54, 55, 56, 57, 58, 59, 60, 61, 62, 63, 64, 65, 66, 67, 68, 69, 70, 71, 72, 73, 74, 75, 76, 77, 78, 79, 80, 81, 82, 83, 84, 85, 86, 87, 88, 89, 90, 91, 92, 93, 94, 95, 96, 97, 98, 99, 100, 101, 102, 103, 104, 105, 106, 107, 108, 109, 110, 111, 112, 113, 114, 115, 116, 117, 118, 119, 120, 121, 122, 123, 124, 125, 126, 127, 128, 129, 130, 131, 132, 133, 134] (by decide +kernel) (by decide +kernel)
set_option maxRecDepth 20000 in
theorem gX9_ratio_X9_ratioNow : GoodIn wsX9_ratio (wsV RX9 185 RX9 yX9_ratioNow wsX9_ratioNow) := goodIn_app (goodIn_of _ (by decide +kernel)) ggX9_ratio_X9_ratioNow
theorem dX9_ratio_0 : decode cX9_ratio 0 = .ok (.aload_n 0, 1) := by decide +kernel
theorem dX9_ratio_1 : decode cX9_ratio 1 = .ok (.invokevirtual 161, 3) := by decide +kernel
theorem dX9_ratio_4 : decode cX9_ratio 4 = .ok (.ifCond .eq 10, 3) := by decide +kernel
theorem dX9_ratio_7 : decode cX9_ratio 7 = .ok (.aload_n 0, 1) := by decide +kernel
theorem dX9_ratio_8 : decode cX9_ratio 8 = .ok (.invokevirtual 185, 3) := by decide +kernel
theorem dX9_ratio_11 : decode cX9_ratio 11 = .ok (.goto 6, 3) := by decide +kernel
theorem dX9_ratio_14 : decode cX9_ratio 14 = .ok (.sipush (-1003), 3) := by decide +kernel
theorem dX9_ratio_17 : decode cX9_ratio 17 = .ok (.ireturn, 1) := by decide +kernel
set_option maxRecDepth 20000 in
theorem ggX9_layBetter_X9_layLeast : GoodIn wsX9_layBetter wsX9_layLeast := goodIn_r _ [9, 10, 4, 11, 12, 13, 14, 15, 16, 8, 17, 18, 19, 20, 21, 22, 23, 24, 25, 26, 27, 28, 33, 34, 35, 36, 37, 38, 39, 40, 41, 42, 43, 44, 45, 46, 47, 48, 49, 50, 51, 52, 53, 54, 55] (by decide +kernel) (by decide +kernel)
set_option maxRecDepth 20000 in
theorem gX9_layBetter_X9_layLeast : GoodIn wsX9_layBetter (wsV RX9 129 RX9 yX9_layLeast wsX9_layLeast) := goodIn_app (goodIn_of _ (by decide +kernel)) ggX9_layBetter_X9_layLeast
set_option maxRecDepth 20000 in
theorem ggX9_layBetter_X9_change : GoodIn wsX9_layBetter wsX9_change := goodIn_r _ [32, 23, 33, 34, 35, 36, 37, 38, 39, 40, 41, 42, 43, 44, 45, 46, 47, 48, 49, 50, 51, 52, 53, 54, 55] (by decide +kernel) (by decide +kernel)
set_option maxRecDepth 20000 in
theorem gX9_layBetter_X9_change : GoodIn wsX9_layBetter (wsV RX9 88 RX9 yX9_change wsX9_change) := goodIn_app (goodIn_of _ (by decide +kernel)) ggX9_layBetter_X9_change
theorem dX9_layBetter_0 : decode cX9_layBetter 0 = .ok (.aload_n 0, 1) := by decide +kernel
theorem dX9_layBetter_1 : decode cX9_layBetter 1 = .ok (.invokevirtual 129, 3) := by decide +kernel
theorem dX9_layBetter_4 : decode cX9_layBetter 4 = .ok (.istore_n 1, 1) := by decide +kernel
theorem dX9_layBetter_5 : decode cX9_layBetter 5 = .ok (.aload_n 0, 1) := by decide +kernel
theorem dX9_layBetter_6 : decode cX9_layBetter 6 = .ok (.iconst (-1), 1) := by decide +kernel
theorem dX9_layBetter_7 : decode cX9_layBetter 7 = .ok (.putfield 188, 3) := by decide +kernel
theorem dX9_layBetter_10 : decode cX9_layBetter 10 = .ok (.aload_n 0, 1) := by decide +kernel
theorem dX9_layBetter_11 : decode cX9_layBetter 11 = .ok (.iconst (-1), 1) := by decide +kernel
theorem dX9_layBetter_12 : decode cX9_layBetter 12 = .ok (.putfield 191, 3) := by decide +kernel
theorem dX9_layBetter_15 : decode cX9_layBetter 15 = .ok (.aload_n 0, 1) := by decide +kernel
theorem dX9_layBetter_16 : decode cX9_layBetter 16 = .ok (.iconst (-1), 1) := by decide +kernel
theorem dX9_layBetter_17 : decode cX9_layBetter 17 = .ok (.putfield 194, 3) := by decide +kernel
theorem dX9_layBetter_20 : decode cX9_layBetter 20 = .ok (.iconst 0, 1) := by decide +kernel
theorem dX9_layBetter_21 : decode cX9_layBetter 21 = .ok (.istore_n 2, 1) := by decide +kernel
theorem dX9_layBetter_22 : decode cX9_layBetter 22 = .ok (.iload_n 2, 1) := by decide +kernel
theorem dX9_layBetter_23 : decode cX9_layBetter 23 = .ok (.aload_n 0, 1) := by decide +kernel
theorem dX9_layBetter_24 : decode cX9_layBetter 24 = .ok (.getfield 69, 3) := by decide +kernel
theorem dX9_layBetter_27 : decode cX9_layBetter 27 = .ok (.if_icmp .ge 70, 3) := by decide +kernel
theorem dX9_layBetter_30 : decode cX9_layBetter 30 = .ok (.iload_n 2, 1) := by decide +kernel
theorem dX9_layBetter_31 : decode cX9_layBetter 31 = .ok (.iconst 1, 1) := by decide +kernel
theorem dX9_layBetter_32 : decode cX9_layBetter 32 = .ok (.iadd, 1) := by decide +kernel
theorem dX9_layBetter_33 : decode cX9_layBetter 33 = .ok (.istore_n 3, 1) := by decide +kernel
theorem dX9_layBetter_34 : decode cX9_layBetter 34 = .ok (.iload_n 3, 1) := by decide +kernel
theorem dX9_layBetter_35 : decode cX9_layBetter 35 = .ok (.aload_n 0, 1) := by decide +kernel
theorem dX9_layBetter_36 : decode cX9_layBetter 36 = .ok (.getfield 69, 3) := by decide +kernel
theorem dX9_layBetter_39 : decode cX9_layBetter 39 = .ok (.if_icmp .ge 52, 3) := by decide +kernel
theorem dX9_layBetter_42 : decode cX9_layBetter 42 = .ok (.aload_n 0, 1) := by decide +kernel
theorem dX9_layBetter_43 : decode cX9_layBetter 43 = .ok (.iload_n 2, 1) := by decide +kernel
theorem dX9_layBetter_44 : decode cX9_layBetter 44 = .ok (.iload_n 3, 1) := by decide +kernel
theorem dX9_layBetter_45 : decode cX9_layBetter 45 = .ok (.invokevirtual 88, 3) := by decide +kernel
theorem dX9_layBetter_48 : decode cX9_layBetter 48 = .ok (.aload_n 0, 1) := by decide +kernel
theorem dX9_layBetter_49 : decode cX9_layBetter 49 = .ok (.invokevirtual 129, 3) := by decide +kernel
theorem dX9_layBetter_52 : decode cX9_layBetter 52 = .ok (.istore 4, 2) := by decide +kernel
theorem dX9_layBetter_54 : decode cX9_layBetter 54 = .ok (.aload_n 0, 1) := by decide +kernel
theorem dX9_layBetter_55 : decode cX9_layBetter 55 = .ok (.iload_n 2, 1) := by decide +kernel
theorem dX9_layBetter_56 : decode cX9_layBetter 56 = .ok (.iload_n 3, 1) := by decide +kernel
theorem dX9_layBetter_57 : decode cX9_layBetter 57 = .ok (.invokevirtual 88, 3) := by decide +kernel
theorem dX9_layBetter_60 : decode cX9_layBetter 60 = .ok (.iload 4, 2) := by decide +kernel
theorem dX9_layBetter_62 : decode cX9_layBetter 62 = .ok (.iload_n 1, 1) := by decide +kernel
theorem dX9_layBetter_63 : decode cX9_layBetter 63 = .ok (.if_icmp .ge 22, 3) := by decide +kernel
theorem dX9_layBetter_66 : decode cX9_layBetter 66 = .ok (.iload 4, 2) := by decide +kernel
theorem dX9_layBetter_68 : decode cX9_layBetter 68 = .ok (.istore_n 1, 1) := by decide +kernel
theorem dX9_layBetter_69 : decode cX9_layBetter 69 = .ok (.aload_n 0, 1) := by decide +kernel
theorem dX9_layBetter_70 : decode cX9_layBetter 70 = .ok (.iload_n 2, 1) := by decide +kernel
theorem dX9_layBetter_71 : decode cX9_layBetter 71 = .ok (.putfield 188, 3) := by decide +kernel
theorem dX9_layBetter_74 : decode cX9_layBetter 74 = .ok (.aload_n 0, 1) := by decide +kernel
theorem dX9_layBetter_75 : decode cX9_layBetter 75 = .ok (.iload_n 3, 1) := by decide +kernel
theorem dX9_layBetter_76 : decode cX9_layBetter 76 = .ok (.putfield 191, 3) := by decide +kernel
theorem dX9_layBetter_79 : decode cX9_layBetter 79 = .ok (.aload_n 0, 1) := by decide +kernel
theorem dX9_layBetter_80 : decode cX9_layBetter 80 = .ok (.iload 4, 2) := by decide +kernel
theorem dX9_layBetter_82 : decode cX9_layBetter 82 = .ok (.putfield 194, 3) := by decide +kernel
theorem dX9_layBetter_85 : decode cX9_layBetter 85 = .ok (.iinc 3 1, 3) := by decide +kernel
theorem dX9_layBetter_88 : decode cX9_layBetter 88 = .ok (.goto (-54), 3) := by decide +kernel
theorem dX9_layBetter_91 : decode cX9_layBetter 91 = .ok (.iinc 2 1, 3) := by decide +kernel
theorem dX9_layBetter_94 : decode cX9_layBetter 94 = .ok (.goto (-72), 3) := by decide +kernel
theorem dX9_layBetter_97 : decode cX9_layBetter 97 = .ok (.return_, 1) := by decide +kernel
set_option maxRecDepth 20000 in
theorem ggX9_betterNow_X9_layAll : GoodIn wsX9_betterNow wsX9_layAll := goodIn_r _ [8, 9, 10, 11, 12, 13, 14, 7, 15, 16, 17, 18, 19, 20, 21, 22, 23, 24, 25, 26, 27, 28, 29, 30, 31, 32, 33, 34, 35, 36, 37, 38, 39, 40, 41, 42, 43, 44, 45, 46, 47, 48, 49, 50, 51, 52, 53, 1, 2, 3, 54, 55, 56, 57, 58, 59, 60, 61, 62, 63, 64, 65, 66, 67, 68, 69, 70, 71, 72, 73, 74, 75, 76, 77, 78, 79, 80, 81, 82, 83, 84, 85, 86, 87, 88, 89, 90, 91, 92, 93, 94, 95, 96, 97, 98] (by decide +kernel) (by decide +kernel)
set_option maxRecDepth 20000 in
theorem gX9_betterNow_X9_layAll : GoodIn wsX9_betterNow (wsV RX9 138 RX9 yX9_layAll wsX9_layAll) := goodIn_app (goodIn_of _ (by decide +kernel)) ggX9_betterNow_X9_layAll
theorem dX9_betterNow_0 : decode cX9_betterNow 0 = .ok (.aload_n 0, 1) := by decide +kernel
theorem dX9_betterNow_1 : decode cX9_betterNow 1 = .ok (.invokevirtual 138, 3) := by decide +kernel
theorem dX9_betterNow_4 : decode cX9_betterNow 4 = .ok (.iload_n 1, 1) := by decide +kernel
theorem dX9_betterNow_5 : decode cX9_betterNow 5 = .ok (.ifCond .ne 10, 3) := by decide +kernel
theorem dX9_betterNow_8 : decode cX9_betterNow 8 = .ok (.aload_n 0, 1) := by decide +kernel
theorem dX9_betterNow_9 : decode cX9_betterNow 9 = .ok (.getfield 188, 3) := by decide +kernel
theorem dX9_betterNow_12 : decode cX9_betterNow 12 = .ok (.goto 19, 3) := by decide +kernel
theorem dX9_betterNow_15 : decode cX9_betterNow 15 = .ok (.iload_n 1, 1) := by decide +kernel
theorem dX9_betterNow_16 : decode cX9_betterNow 16 = .ok (.iconst 1, 1) := by decide +kernel
theorem dX9_betterNow_17 : decode cX9_betterNow 17 = .ok (.if_icmp .ne 10, 3) := by decide +kernel
theorem dX9_betterNow_20 : decode cX9_betterNow 20 = .ok (.aload_n 0, 1) := by decide +kernel
theorem dX9_betterNow_21 : decode cX9_betterNow 21 = .ok (.getfield 191, 3) := by decide +kernel
theorem dX9_betterNow_24 : decode cX9_betterNow 24 = .ok (.goto 7, 3) := by decide +kernel
theorem dX9_betterNow_27 : decode cX9_betterNow 27 = .ok (.aload_n 0, 1) := by decide +kernel
theorem dX9_betterNow_28 : decode cX9_betterNow 28 = .ok (.getfield 194, 3) := by decide +kernel
theorem dX9_betterNow_31 : decode cX9_betterNow 31 = .ok (.ireturn, 1) := by decide +kernel
set_option maxRecDepth 20000 in
theorem ggX9_pair_X9_within : GoodIn wsX9_pair wsX9_within := goodIn_r _ [4] (by decide +kernel) (by decide +kernel)
set_option maxRecDepth 20000 in
theorem gX9_pair_X9_within : GoodIn wsX9_pair (va_wsS RX9 48 yX9_within wsX9_within) := goodIn_app (goodIn_of _ (by decide +kernel)) ggX9_pair_X9_within
set_option maxRecDepth 20000 in
theorem ggX9_pair_X9_isReady : GoodIn wsX9_pair wsX9_isReady := goodIn_r _ [8, 9, 10, 11, 12, 3, 13, 14, 15, 16, 17, 18, 19, 20, 21, 22, 23, 24, 25, 26, 27, 28, 91, 92, 93, 94, 95, 96, 97, 98, 99, 100, 101, 102, 103, 104, 105, 106, 107, 108, 109, 110, 111, 112, 113] (by decide +kernel) (by decide +kernel)
set_option maxRecDepth 20000 in
theorem gX9_pair_X9_isReady : GoodIn wsX9_pair (wsV RX9 161 RX9 yX9_isReady wsX9_isReady) := goodIn_app (goodIn_of _ (by decide +kernel)) ggX9_pair_X9_isReady
set_option maxRecDepth 20000 in
theorem ggX9_pair_X9_betterNow : GoodIn wsX9_pair wsX9_betterNow := goodIn_r _ [32, 33, 34, 35, 36, 37, 38, 3, 39, 40, 41, 42, 21, 22, 23, 24, 25, 26, 27, 28, 43, 44, 45, 46, 9, 47, 14, 48, 49, 15, 16, 17, 18, 19, 20, 50, 51, 52, 53, 54, 55, 56, 57, 58, 59, 60, 61, 62, 63, 64, 65, 66, 67, 68, 69, 70, 71, 72, 73, 74, 75, 76, 77, 78, 79, 80, 81, 82, 83, 84, 85, 86, 87, 88, 89, 90, 91, 92, 93, 94, 95, 96, 97, 98, 99, 100, 101, 102, 103, 104, 105, 106, 107, 108, 109, 110, 111, 112, 113] (by decide +kernel) (by decide +kernel)
set_option maxRecDepth 20000 in
theorem gX9_pair_X9_betterNow : GoodIn wsX9_pair (wsV RX9 197 RX9 yX9_betterNow wsX9_betterNow) := goodIn_app (goodIn_of _ (by decide +kernel)) ggX9_pair_X9_betterNow
theorem dX9_pair_0 : decode cX9_pair 0 = .ok (.iload_n 1, 1) := by decide +kernel
theorem dX9_pair_1 : decode cX9_pair 1 = .ok (.iconst 0, 1) := by decide +kernel
theorem dX9_pair_2 : decode cX9_pair 2 = .ok (.iconst 2, 1) := by decide +kernel
theorem dX9_pair_3 : decode cX9_pair 3 = .ok (.invokestatic 48, 3) := by decide +kernel
theorem dX9_pair_6 : decode cX9_pair 6 = .ok (.ifCond .ne 7, 3) := by decide +kernel
theorem dX9_pair_9 : decode cX9_pair 9 = .ok (.sipush (-1002), 3) := by decide +kernel
theorem dX9_pair_12 : decode cX9_pair 12 = .ok (.ireturn, 1) := by decide +kernel
theorem dX9_pair_13 : decode cX9_pair 13 = .ok (.aload_n 0, 1) := by decide +kernel
theorem dX9_pair_14 : decode cX9_pair 14 = .ok (.invokevirtual 161, 3) := by decide +kernel
theorem dX9_pair_17 : decode cX9_pair 17 = .ok (.ifCond .eq 11, 3) := by decide +kernel
theorem dX9_pair_20 : decode cX9_pair 20 = .ok (.aload_n 0, 1) := by decide +kernel
theorem dX9_pair_21 : decode cX9_pair 21 = .ok (.iload_n 1, 1) := by decide +kernel
theorem dX9_pair_22 : decode cX9_pair 22 = .ok (.invokevirtual 197, 3) := by decide +kernel
theorem dX9_pair_25 : decode cX9_pair 25 = .ok (.goto 6, 3) := by decide +kernel
theorem dX9_pair_28 : decode cX9_pair 28 = .ok (.sipush (-1003), 3) := by decide +kernel
theorem dX9_pair_31 : decode cX9_pair 31 = .ok (.ireturn, 1) := by decide +kernel
set_option maxRecDepth 20000 in
theorem ggX9_better_X9_isReady : GoodIn wsX9_better wsX9_isReady := goodIn_r _ [9, 10, 11, 12, 13, 8, 14, 15, 16, 17, 18, 19, 20, 21, 22, 23, 24, 25, 26, 27, 28, 29, 89, 90, 91, 92, 93, 94, 95, 96, 97, 98, 99, 100, 101, 102, 103, 104, 105, 106, 107, 108, 109, 110, 111] (by decide +kernel) (by decide +kernel)
set_option maxRecDepth 20000 in
theorem gX9_better_X9_isReady : GoodIn wsX9_better (wsV RX9 161 RX9 yX9_isReady wsX9_isReady) := goodIn_app (goodIn_of _ (by decide +kernel)) ggX9_better_X9_isReady
set_option maxRecDepth 20000 in
theorem ggX9_better_X9_betterNow : GoodIn wsX9_better wsX9_betterNow := goodIn_r _ [33, 1, 2, 34, 35, 36, 37, 8, 38, 4, 39, 40, 22, 23, 24, 25, 26, 27, 28, 29, 41, 42, 43, 44, 10, 45, 15, 46, 47, 16, 17, 18, 19, 20, 21, 48, 49, 50, 51, 52, 53, 54, 55, 56, 57, 58, 59, 60, 61, 62, 63, 64, 65, 66, 67, 68, 69, 70, 71, 72, 73, 74, 75, 76, 77, 78, 79, 80, 81, 82, 83, 84, 85, 86, 87, 88, 89, 90, 91, 92, 93, 94, 95, 96, 97, 98, 99, 100, 101, 102, 103, 104, 105, 106, 107, 108, 109, 110, 111] (by decide +kernel) (by decide +kernel)
set_option maxRecDepth 20000 in
theorem gX9_better_X9_betterNow : GoodIn wsX9_better (wsV RX9 197 RX9 yX9_betterNow wsX9_betterNow) := goodIn_app (goodIn_of _ (by decide +kernel)) ggX9_better_X9_betterNow
set_option maxRecDepth 20000 in
theorem ggX9_better_X9_change : GoodIn wsX9_better wsX9_change := goodIn_r _ [84, 21, 89, 90, 91, 92, 93, 94, 95, 96, 97, 98, 99, 100, 101, 102, 103, 104, 105, 106, 107, 108, 109, 110, 111] (by decide +kernel) (by decide +kernel)
set_option maxRecDepth 20000 in
theorem gX9_better_X9_change : GoodIn wsX9_better (wsV RX9 88 RX9 yX9_change wsX9_change) := goodIn_app (goodIn_of _ (by decide +kernel)) ggX9_better_X9_change
theorem dX9_better_0 : decode cX9_better 0 = .ok (.aload_n 0, 1) := by decide +kernel
theorem dX9_better_1 : decode cX9_better 1 = .ok (.invokevirtual 161, 3) := by decide +kernel
theorem dX9_better_4 : decode cX9_better 4 = .ok (.ifCond .ne 7, 3) := by decide +kernel
theorem dX9_better_7 : decode cX9_better 7 = .ok (.sipush (-1003), 3) := by decide +kernel
theorem dX9_better_10 : decode cX9_better 10 = .ok (.ireturn, 1) := by decide +kernel
theorem dX9_better_11 : decode cX9_better 11 = .ok (.aload_n 0, 1) := by decide +kernel
theorem dX9_better_12 : decode cX9_better 12 = .ok (.iconst 2, 1) := by decide +kernel
theorem dX9_better_13 : decode cX9_better 13 = .ok (.invokevirtual 197, 3) := by decide +kernel
theorem dX9_better_16 : decode cX9_better 16 = .ok (.istore_n 1, 1) := by decide +kernel
theorem dX9_better_17 : decode cX9_better 17 = .ok (.iload_n 1, 1) := by decide +kernel
theorem dX9_better_18 : decode cX9_better 18 = .ok (.iconst (-1), 1) := by decide +kernel
theorem dX9_better_19 : decode cX9_better 19 = .ok (.if_icmp .eq 30, 3) := by decide +kernel
theorem dX9_better_22 : decode cX9_better 22 = .ok (.aload_n 0, 1) := by decide +kernel
theorem dX9_better_23 : decode cX9_better 23 = .ok (.aload_n 0, 1) := by decide +kernel
theorem dX9_better_24 : decode cX9_better 24 = .ok (.getfield 188, 3) := by decide +kernel
theorem dX9_better_27 : decode cX9_better 27 = .ok (.aload_n 0, 1) := by decide +kernel
theorem dX9_better_28 : decode cX9_better 28 = .ok (.getfield 191, 3) := by decide +kernel
theorem dX9_better_31 : decode cX9_better 31 = .ok (.invokevirtual 88, 3) := by decide +kernel
theorem dX9_better_34 : decode cX9_better 34 = .ok (.aload_n 0, 1) := by decide +kernel
theorem dX9_better_35 : decode cX9_better 35 = .ok (.dup, 1) := by decide +kernel
theorem dX9_better_36 : decode cX9_better 36 = .ok (.getfield 72, 3) := by decide +kernel
theorem dX9_better_39 : decode cX9_better 39 = .ok (.iconst 1, 1) := by decide +kernel
theorem dX9_better_40 : decode cX9_better 40 = .ok (.iadd, 1) := by decide +kernel
theorem dX9_better_41 : decode cX9_better 41 = .ok (.putfield 72, 3) := by decide +kernel
theorem dX9_better_44 : decode cX9_better 44 = .ok (.aload_n 0, 1) := by decide +kernel
theorem dX9_better_45 : decode cX9_better 45 = .ok (.iconst 0, 1) := by decide +kernel
theorem dX9_better_46 : decode cX9_better 46 = .ok (.putfield 75, 3) := by decide +kernel
theorem dX9_better_49 : decode cX9_better 49 = .ok (.iload_n 1, 1) := by decide +kernel
theorem dX9_better_50 : decode cX9_better 50 = .ok (.ireturn, 1) := by decide +kernel
set_option maxRecDepth 20000 in
theorem ggX9_breaksMany_X9_ones : GoodIn wsX9_breaksMany wsX9_ones := goodIn_r _ [6] (by decide +kernel) (by decide +kernel)
set_option maxRecDepth 20000 in
theorem gX9_breaksMany_X9_ones : GoodIn wsX9_breaksMany (va_wsS RX9 41 yX9_ones wsX9_ones) := goodIn_app (goodIn_of _ (by decide +kernel)) ggX9_breaksMany_X9_ones
theorem dX9_breaksMany_0 : decode cX9_breaksMany 0 = .ok (.iconst 0, 1) := by decide +kernel
theorem dX9_breaksMany_1 : decode cX9_breaksMany 1 = .ok (.istore_n 1, 1) := by decide +kernel
theorem dX9_breaksMany_2 : decode cX9_breaksMany 2 = .ok (.iconst 0, 1) := by decide +kernel
theorem dX9_breaksMany_3 : decode cX9_breaksMany 3 = .ok (.istore_n 2, 1) := by decide +kernel
theorem dX9_breaksMany_4 : decode cX9_breaksMany 4 = .ok (.iload_n 2, 1) := by decide +kernel
theorem dX9_breaksMany_5 : decode cX9_breaksMany 5 = .ok (.aload_n 0, 1) := by decide +kernel
theorem dX9_breaksMany_6 : decode cX9_breaksMany 6 = .ok (.getfield 69, 3) := by decide +kernel
theorem dX9_breaksMany_9 : decode cX9_breaksMany 9 = .ok (.if_icmp .ge 21, 3) := by decide +kernel
theorem dX9_breaksMany_12 : decode cX9_breaksMany 12 = .ok (.iload_n 1, 1) := by decide +kernel
theorem dX9_breaksMany_13 : decode cX9_breaksMany 13 = .ok (.aload_n 0, 1) := by decide +kernel
theorem dX9_breaksMany_14 : decode cX9_breaksMany 14 = .ok (.getfield 19, 3) := by decide +kernel
theorem dX9_breaksMany_17 : decode cX9_breaksMany 17 = .ok (.iload_n 2, 1) := by decide +kernel
theorem dX9_breaksMany_18 : decode cX9_breaksMany 18 = .ok (.iaload, 1) := by decide +kernel
theorem dX9_breaksMany_19 : decode cX9_breaksMany 19 = .ok (.invokestatic 41, 3) := by decide +kernel
theorem dX9_breaksMany_22 : decode cX9_breaksMany 22 = .ok (.iadd, 1) := by decide +kernel
theorem dX9_breaksMany_23 : decode cX9_breaksMany 23 = .ok (.istore_n 1, 1) := by decide +kernel
theorem dX9_breaksMany_24 : decode cX9_breaksMany 24 = .ok (.iinc 2 1, 3) := by decide +kernel
theorem dX9_breaksMany_27 : decode cX9_breaksMany 27 = .ok (.goto (-23), 3) := by decide +kernel
theorem dX9_breaksMany_30 : decode cX9_breaksMany 30 = .ok (.iload_n 1, 1) := by decide +kernel
theorem dX9_breaksMany_31 : decode cX9_breaksMany 31 = .ok (.ireturn, 1) := by decide +kernel
set_option maxRecDepth 20000 in
theorem ggX9_howMany_X9_breaksMany : GoodIn wsX9_howMany wsX9_breaksMany := goodIn_r _ [11, 1, 12, 13, 14, 10, 15, 30, 31, 32, 33, 34, 35, 36, 37, 38, 39, 40, 41, 42, 43, 44, 45, 46, 47, 48, 49, 50, 51, 52] (by decide +kernel) (by decide +kernel)
set_option maxRecDepth 20000 in
theorem gX9_howMany_X9_breaksMany : GoodIn wsX9_howMany (wsV RX9 200 RX9 yX9_breaksMany wsX9_breaksMany) := goodIn_app (goodIn_of _ (by decide +kernel)) ggX9_howMany_X9_breaksMany
set_option maxRecDepth 20000 in
theorem ggX9_howMany_X9_isTooBig : GoodIn wsX9_howMany wsX9_isTooBig := goodIn_r _ [19, 1, 3, 20, 21, 22, 10, 23, 24, 25, 26, 27, 28, 29, 4, 13, 14, 15, 30, 31, 32, 33, 34, 35, 36, 37, 38, 39, 40, 41, 42, 43, 44, 45, 46, 47, 48, 49, 50, 51, 52] (by decide +kernel) (by decide +kernel)
set_option maxRecDepth 20000 in
theorem gX9_howMany_X9_isTooBig : GoodIn wsX9_howMany (wsV RX9 141 RX9 yX9_isTooBig wsX9_isTooBig) := goodIn_app (goodIn_of _ (by decide +kernel)) ggX9_howMany_X9_isTooBig
theorem dX9_howMany_0 : decode cX9_howMany 0 = .ok (.iload_n 1, 1) := by decide +kernel
theorem dX9_howMany_1 : decode cX9_howMany 1 = .ok (.tableswitch 95 0 7 #[47, 52, 57, 62, 67, 72, 77, 82], 47) := by decide +kernel
theorem dX9_howMany_48 : decode cX9_howMany 48 = .ok (.aload_n 0, 1) := by decide +kernel
theorem dX9_howMany_49 : decode cX9_howMany 49 = .ok (.getfield 69, 3) := by decide +kernel
theorem dX9_howMany_52 : decode cX9_howMany 52 = .ok (.ireturn, 1) := by decide +kernel
theorem dX9_howMany_53 : decode cX9_howMany 53 = .ok (.aload_n 0, 1) := by decide +kernel
theorem dX9_howMany_54 : decode cX9_howMany 54 = .ok (.getfield 52, 3) := by decide +kernel
theorem dX9_howMany_57 : decode cX9_howMany 57 = .ok (.ireturn, 1) := by decide +kernel
theorem dX9_howMany_58 : decode cX9_howMany 58 = .ok (.aload_n 0, 1) := by decide +kernel
theorem dX9_howMany_59 : decode cX9_howMany 59 = .ok (.getfield 22, 3) := by decide +kernel
theorem dX9_howMany_62 : decode cX9_howMany 62 = .ok (.ireturn, 1) := by decide +kernel
theorem dX9_howMany_63 : decode cX9_howMany 63 = .ok (.aload_n 0, 1) := by decide +kernel
theorem dX9_howMany_64 : decode cX9_howMany 64 = .ok (.getfield 45, 3) := by decide +kernel
theorem dX9_howMany_67 : decode cX9_howMany 67 = .ok (.ireturn, 1) := by decide +kernel
theorem dX9_howMany_68 : decode cX9_howMany 68 = .ok (.aload_n 0, 1) := by decide +kernel
theorem dX9_howMany_69 : decode cX9_howMany 69 = .ok (.invokevirtual 200, 3) := by decide +kernel
theorem dX9_howMany_72 : decode cX9_howMany 72 = .ok (.ireturn, 1) := by decide +kernel
theorem dX9_howMany_73 : decode cX9_howMany 73 = .ok (.aload_n 0, 1) := by decide +kernel
theorem dX9_howMany_74 : decode cX9_howMany 74 = .ok (.getfield 72, 3) := by decide +kernel
theorem dX9_howMany_77 : decode cX9_howMany 77 = .ok (.ireturn, 1) := by decide +kernel
theorem dX9_howMany_78 : decode cX9_howMany 78 = .ok (.aload_n 0, 1) := by decide +kernel
theorem dX9_howMany_79 : decode cX9_howMany 79 = .ok (.getfield 79, 3) := by decide +kernel
theorem dX9_howMany_82 : decode cX9_howMany 82 = .ok (.ireturn, 1) := by decide +kernel
theorem dX9_howMany_83 : decode cX9_howMany 83 = .ok (.aload_n 0, 1) := by decide +kernel
theorem dX9_howMany_84 : decode cX9_howMany 84 = .ok (.invokevirtual 141, 3) := by decide +kernel
theorem dX9_howMany_87 : decode cX9_howMany 87 = .ok (.ifCond .eq 7, 3) := by decide +kernel
theorem dX9_howMany_90 : decode cX9_howMany 90 = .ok (.iconst 1, 1) := by decide +kernel
theorem dX9_howMany_91 : decode cX9_howMany 91 = .ok (.goto 4, 3) := by decide +kernel
theorem dX9_howMany_94 : decode cX9_howMany 94 = .ok (.iconst 0, 1) := by decide +kernel
theorem dX9_howMany_95 : decode cX9_howMany 95 = .ok (.ireturn, 1) := by decide +kernel
theorem dX9_howMany_96 : decode cX9_howMany 96 = .ok (.sipush (-1002), 3) := by decide +kernel
theorem dX9_howMany_99 : decode cX9_howMany 99 = .ok (.ireturn, 1) := by decide +kernel
set_option maxRecDepth 20000 in
theorem ggX9_count_X9_howMany : GoodIn wsX9_count wsX9_howMany := goodIn_r _ [5, 6, 7, 8, 9, 10, 11, 12, 13, 14, 4, 15, 16, 17, 18, 19, 20, 21, 22, 23, 24, 25, 26, 27, 28, 29, 30, 31, 32, 33, 34, 35, 36, 37, 38, 39, 40, 41, 42, 43, 44, 45, 46, 47, 48, 49, 50, 51, 52, 53, 54, 55, 56] (by decide +kernel) (by decide +kernel)
set_option maxRecDepth 20000 in
theorem gX9_count_X9_howMany : GoodIn wsX9_count (wsV RX9 203 RX9 yX9_howMany wsX9_howMany) := goodIn_app (goodIn_of _ (by decide +kernel)) ggX9_count_X9_howMany
theorem dX9_count_0 : decode cX9_count 0 = .ok (.aload_n 0, 1) := by decide +kernel
theorem dX9_count_1 : decode cX9_count 1 = .ok (.iload_n 1, 1) := by decide +kernel
theorem dX9_count_2 : decode cX9_count 2 = .ok (.invokevirtual 203, 3) := by decide +kernel
theorem dX9_count_5 : decode cX9_count 5 = .ok (.ireturn, 1) := by decide +kernel
theorem dX9_mix_0 : decode cX9_mix 0 = .ok (.aload_n 0, 1) := by decide +kernel
theorem dX9_mix_1 : decode cX9_mix 1 = .ok (.ldc2_w 206, 3) := by decide +kernel
theorem dX9_mix_4 : decode cX9_mix 4 = .ok (.aload_n 0, 1) := by decide +kernel
theorem dX9_mix_5 : decode cX9_mix 5 = .ok (.getfield 208, 3) := by decide +kernel
theorem dX9_mix_8 : decode cX9_mix 8 = .ok (.lmul, 1) := by decide +kernel
theorem dX9_mix_9 : decode cX9_mix 9 = .ok (.lload_n 1, 1) := by decide +kernel
theorem dX9_mix_10 : decode cX9_mix 10 = .ok (.ladd, 1) := by decide +kernel
theorem dX9_mix_11 : decode cX9_mix 11 = .ok (.putfield 208, 3) := by decide +kernel
theorem dX9_mix_14 : decode cX9_mix 14 = .ok (.return_, 1) := by decide +kernel
set_option maxRecDepth 20000 in
theorem ggX9_mixKeeping_X9_keptNow : GoodIn wsX9_mixKeeping wsX9_keptNow := goodIn_r _ [6, 7, 8, 9, 10, 11, 5, 12, 13, 14, 15, 16, 17, 18, 19, 20, 21, 22, 23, 24, 25, 26, 27, 1, 28, 29, 30, 31, 32, 33, 34, 35, 36, 37, 38, 39, 40, 41, 42, 43, 44, 45, 46, 47, 48, 49, 50, 51, 52, 53, 54, 55, 56, 57, 58, 59, 60, 61, 62, 63, 64, 65, 66, 67, 68, 69, 70, 71, 72, 73, 74, 75, 76, 77, 78, 79, 138, 139, 140, 141, 142, 143, 144, 145, 146, 147, 148, 149, 150, 151, 152, 153, 154, 155, 156, 157, 158, 159, 160] (by decide +kernel) (by decide +kernel)
set_option maxRecDepth 20000 in
theorem gX9_mixKeeping_X9_keptNow : GoodIn wsX9_mixKeeping (wsV RX9 148 RX9 yX9_keptNow wsX9_keptNow) := goodIn_app (goodIn_of _ (by decide +kernel)) ggX9_mixKeeping_X9_keptNow
set_option maxRecDepth 20000 in
theorem ggX9_mixKeeping_X9_mix : GoodIn wsX9_mixKeeping wsX9_mix := goodIn_r _ [83, 84, 85, 138, 139, 140, 141, 142, 143, 144, 145, 146, 147, 148, 149, 150, 151, 152, 153, 154, 155, 156, 157, 158, 159, 160] (by decide +kernel) (by decide +kernel)
set_option maxRecDepth 20000 in
theorem gX9_mixKeeping_X9_mix : GoodIn wsX9_mixKeeping (wsV RX9 212 RX9 yX9_mix wsX9_mix) := goodIn_app (goodIn_of _ (by decide +kernel)) ggX9_mixKeeping_X9_mix
set_option maxRecDepth 20000 in
theorem ggX9_mixKeeping_X9_costNow : GoodIn wsX9_mixKeeping wsX9_costNow := goodIn_r _ [89, 90, 91, 92, 5, 93, 1, 2, 3, 4, 6, 7, 8, 9, 10, 11, 12, 13, 14, 15, 16, 17, 18, 19, 20, 21, 22, 23, 24, 25, 26, 27, 28, 29, 30, 31, 32, 33, 34, 35, 36, 37, 38, 39, 40, 41, 42, 43, 44, 45, 46, 47, 48, 49, 50, 51, 52, 53, 54, 55, 56, 57, 58, 59, 60, 61, 62, 63, 64, 65, 66, 67, 68, 69, 70, 71, 72, 73, 74, 75, 76, 77, 78, 79, 94, 95, 96, 97, 98, 99, 100, 101, 138, 139, 140, 141, 142, 143, 144, 145, 146, 147, 148, 149, 150, 151, 152, 153, 154, 155, 156, 157, 158, 159, 160] (by decide +kernel) (by decide +kernel)
set_option maxRecDepth 20000 in
theorem gX9_mixKeeping_X9_costNow : GoodIn wsX9_mixKeeping (wsV RX9 164 RX9 yX9_costNow wsX9_costNow) := goodIn_app (goodIn_of _ (by decide +kernel)) ggX9_mixKeeping_X9_costNow
set_option maxRecDepth 20000 in
theorem ggX9_mixKeeping_X9_meanNow : GoodIn wsX9_mixKeeping wsX9_meanNow := goodIn_r _ [105, 1, 90, 91, 92, 5, 93, 2, 3, 4, 6, 7, 8, 9, 10, 11, 12, 13, 14, 15, 16, 17, 18, 19, 20, 21, 22, 23, 24, 25, 26, 27, 28, 29, 30, 31, 32, 33, 34, 35, 36, 37, 38, 39, 40, 41, 42, 43, 44, 45, 46, 47, 48, 49, 50, 51, 52, 53, 54, 55, 56, 57, 58, 59, 60, 61, 62, 63, 64, 65, 66, 67, 68, 69, 70, 71, 72, 73, 74, 75, 76, 77, 78, 79, 106, 107, 108, 109, 110, 111, 112, 113, 114, 115, 116, 117, 138, 139, 140, 141, 142, 143, 144, 145, 146, 147, 148, 149, 150, 151, 152, 153, 154, 155, 156, 157, 158, 159, 160] (by decide +kernel) (by decide +kernel)
set_option maxRecDepth 20000 in
theorem gX9_mixKeeping_X9_meanNow : GoodIn wsX9_mixKeeping (wsV RX9 173 RX9 yX9_meanNow wsX9_meanNow) := goodIn_app (goodIn_of _ (by decide +kernel)) ggX9_mixKeeping_X9_meanNow
set_option maxRecDepth 20000 in
theorem ggX9_mixKeeping_X9_ratioNow : GoodIn wsX9_mixKeeping wsX9_ratioNow := goodIn_r _ [121, 90, 91, 92, 5, 93, 1, 2, 3, 4, 6, 7, 8, 9, 10, 11, 12, 13, 14, 15, 16, 17, 18, 19, 20, 21, 22, 23, 24, 25, 26, 27, 28, 29, 30, 31, 32, 33, 34, 35, 36, 37, 38, 39, 40, 41, 42, 43, 44, 45, 46, 47, 48, 49, 50, 51, 52, 53, 54, 55, 56, 57, 58, 59, 60, 61, 62, 63, 64, 65, 66, 67, 68, 69, 70, 71, 72, 73, 74, 75, 76, 77, 78, 79, 94, 95, 96, 97, 122, 123, 124, 125, 126, 127, 128, 129, 130, 131, 132, 133, 138, 139, 140, 141, 142, 143, 144, 145, 146, 147, 148, 149, 150, 151, 152, 153, 154, 155, 156, 157, 158, 159, 160] (by decide +kernel) (by decide +kernel)
set_option maxRecDepth 20000 in
theorem gX9_mixKeeping_X9_ratioNow : GoodIn wsX9_mixKeeping (wsV RX9 185 RX9 yX9_ratioNow wsX9_ratioNow) := goodIn_app (goodIn_of _ (by decide +kernel)) ggX9_mixKeeping_X9_ratioNow
set_option maxRecDepth 20000 in
theorem ggX9_mixKeeping_X9_betterNow : GoodIn wsX9_mixKeeping wsX9_betterNow := goodIn_r _ [137, 55, 56, 57, 9, 10, 11, 5, 12, 13, 14, 15, 16, 17, 18, 19, 20, 21, 22, 23, 24, 25, 26, 27, 1, 8, 28, 7, 29, 30, 31, 32, 33, 34, 35, 36, 37, 38, 39, 40, 41, 42, 43, 44, 45, 46, 47, 48, 49, 50, 51, 52, 53, 54, 58, 59, 60, 61, 62, 63, 64, 65, 66, 67, 68, 69, 70, 71, 72, 73, 74, 75, 76, 77, 78, 79, 138, 139, 140, 141, 142, 143, 144, 145, 146, 147, 148, 149, 150, 151, 152, 153, 154, 155, 156, 157, 158, 159, 160] (by decide +kernel) (by decide +kernel)
set_option maxRecDepth 20000 in
theorem gX9_mixKeeping_X9_betterNow : GoodIn wsX9_mixKeeping (wsV RX9 197 RX9 yX9_betterNow wsX9_betterNow) := goodIn_app (goodIn_of _ (by decide +kernel)) ggX9_mixKeeping_X9_betterNow
theorem dX9_mixKeeping_0 : decode cX9_mixKeeping 0 = .ok (.iconst 0, 1) := by decide +kernel
theorem dX9_mixKeeping_1 : decode cX9_mixKeeping 1 = .ok (.istore_n 1, 1) := by decide +kernel
theorem dX9_mixKeeping_2 : decode cX9_mixKeeping 2 = .ok (.iload_n 1, 1) := by decide +kernel
theorem dX9_mixKeeping_3 : decode cX9_mixKeeping 3 = .ok (.bipush 8, 2) := by decide +kernel
theorem dX9_mixKeeping_5 : decode cX9_mixKeeping 5 = .ok (.aload_n 0, 1) := by decide +kernel
theorem dX9_mixKeeping_6 : decode cX9_mixKeeping 6 = .ok (.getfield 69, 3) := by decide +kernel
theorem dX9_mixKeeping_9 : decode cX9_mixKeeping 9 = .ok (.imul, 1) := by decide +kernel
theorem dX9_mixKeeping_10 : decode cX9_mixKeeping 10 = .ok (.if_icmp .ge 40, 3) := by decide +kernel
theorem dX9_mixKeeping_13 : decode cX9_mixKeeping 13 = .ok (.aload_n 0, 1) := by decide +kernel
theorem dX9_mixKeeping_14 : decode cX9_mixKeeping 14 = .ok (.aload_n 0, 1) := by decide +kernel
theorem dX9_mixKeeping_15 : decode cX9_mixKeeping 15 = .ok (.iload_n 1, 1) := by decide +kernel
theorem dX9_mixKeeping_16 : decode cX9_mixKeeping 16 = .ok (.bipush 8, 2) := by decide +kernel
theorem dX9_mixKeeping_18 : decode cX9_mixKeeping 18 = .ok (.idiv, 1) := by decide +kernel
theorem dX9_mixKeeping_19 : decode cX9_mixKeeping 19 = .ok (.iload_n 1, 1) := by decide +kernel
theorem dX9_mixKeeping_20 : decode cX9_mixKeeping 20 = .ok (.bipush 8, 2) := by decide +kernel
theorem dX9_mixKeeping_22 : decode cX9_mixKeeping 22 = .ok (.irem, 1) := by decide +kernel
theorem dX9_mixKeeping_23 : decode cX9_mixKeeping 23 = .ok (.iconst 4, 1) := by decide +kernel
theorem dX9_mixKeeping_24 : decode cX9_mixKeeping 24 = .ok (.if_icmp .ge 7, 3) := by decide +kernel
theorem dX9_mixKeeping_27 : decode cX9_mixKeeping 27 = .ok (.iconst 0, 1) := by decide +kernel
theorem dX9_mixKeeping_28 : decode cX9_mixKeeping 28 = .ok (.goto 5, 3) := by decide +kernel
theorem dX9_mixKeeping_31 : decode cX9_mixKeeping 31 = .ok (.bipush 8, 2) := by decide +kernel
theorem dX9_mixKeeping_33 : decode cX9_mixKeeping 33 = .ok (.iadd, 1) := by decide +kernel
theorem dX9_mixKeeping_34 : decode cX9_mixKeeping 34 = .ok (.iload_n 1, 1) := by decide +kernel
theorem dX9_mixKeeping_35 : decode cX9_mixKeeping 35 = .ok (.iconst 4, 1) := by decide +kernel
theorem dX9_mixKeeping_36 : decode cX9_mixKeeping 36 = .ok (.irem, 1) := by decide +kernel
theorem dX9_mixKeeping_37 : decode cX9_mixKeeping 37 = .ok (.invokevirtual 148, 3) := by decide +kernel
theorem dX9_mixKeeping_40 : decode cX9_mixKeeping 40 = .ok (.i2l, 1) := by decide +kernel
theorem dX9_mixKeeping_41 : decode cX9_mixKeeping 41 = .ok (.invokevirtual 212, 3) := by decide +kernel
theorem dX9_mixKeeping_44 : decode cX9_mixKeeping 44 = .ok (.iinc 1 1, 3) := by decide +kernel
theorem dX9_mixKeeping_47 : decode cX9_mixKeeping 47 = .ok (.goto (-45), 3) := by decide +kernel
theorem dX9_mixKeeping_50 : decode cX9_mixKeeping 50 = .ok (.iconst 0, 1) := by decide +kernel
theorem dX9_mixKeeping_51 : decode cX9_mixKeeping 51 = .ok (.istore_n 1, 1) := by decide +kernel
theorem dX9_mixKeeping_52 : decode cX9_mixKeeping 52 = .ok (.iload_n 1, 1) := by decide +kernel
theorem dX9_mixKeeping_53 : decode cX9_mixKeeping 53 = .ok (.iconst 5, 1) := by decide +kernel
theorem dX9_mixKeeping_54 : decode cX9_mixKeeping 54 = .ok (.if_icmp .ge 19, 3) := by decide +kernel
theorem dX9_mixKeeping_57 : decode cX9_mixKeeping 57 = .ok (.aload_n 0, 1) := by decide +kernel
theorem dX9_mixKeeping_58 : decode cX9_mixKeeping 58 = .ok (.aload_n 0, 1) := by decide +kernel
theorem dX9_mixKeeping_59 : decode cX9_mixKeeping 59 = .ok (.iload_n 1, 1) := by decide +kernel
theorem dX9_mixKeeping_60 : decode cX9_mixKeeping 60 = .ok (.invokevirtual 164, 3) := by decide +kernel
theorem dX9_mixKeeping_63 : decode cX9_mixKeeping 63 = .ok (.i2l, 1) := by decide +kernel
theorem dX9_mixKeeping_64 : decode cX9_mixKeeping 64 = .ok (.invokevirtual 212, 3) := by decide +kernel
theorem dX9_mixKeeping_67 : decode cX9_mixKeeping 67 = .ok (.iinc 1 1, 3) := by decide +kernel
theorem dX9_mixKeeping_70 : decode cX9_mixKeeping 70 = .ok (.goto (-18), 3) := by decide +kernel
theorem dX9_mixKeeping_73 : decode cX9_mixKeeping 73 = .ok (.aload_n 0, 1) := by decide +kernel
theorem dX9_mixKeeping_74 : decode cX9_mixKeeping 74 = .ok (.aload_n 0, 1) := by decide +kernel
theorem dX9_mixKeeping_75 : decode cX9_mixKeeping 75 = .ok (.invokevirtual 173, 3) := by decide +kernel
theorem dX9_mixKeeping_78 : decode cX9_mixKeeping 78 = .ok (.invokevirtual 212, 3) := by decide +kernel
theorem dX9_mixKeeping_81 : decode cX9_mixKeeping 81 = .ok (.aload_n 0, 1) := by decide +kernel
theorem dX9_mixKeeping_82 : decode cX9_mixKeeping 82 = .ok (.aload_n 0, 1) := by decide +kernel
theorem dX9_mixKeeping_83 : decode cX9_mixKeeping 83 = .ok (.invokevirtual 185, 3) := by decide +kernel
theorem dX9_mixKeeping_86 : decode cX9_mixKeeping 86 = .ok (.i2l, 1) := by decide +kernel
theorem dX9_mixKeeping_87 : decode cX9_mixKeeping 87 = .ok (.invokevirtual 212, 3) := by decide +kernel
theorem dX9_mixKeeping_90 : decode cX9_mixKeeping 90 = .ok (.iconst 0, 1) := by decide +kernel
theorem dX9_mixKeeping_91 : decode cX9_mixKeeping 91 = .ok (.istore_n 1, 1) := by decide +kernel
theorem dX9_mixKeeping_92 : decode cX9_mixKeeping 92 = .ok (.iload_n 1, 1) := by decide +kernel
theorem dX9_mixKeeping_93 : decode cX9_mixKeeping 93 = .ok (.iconst 3, 1) := by decide +kernel
theorem dX9_mixKeeping_94 : decode cX9_mixKeeping 94 = .ok (.if_icmp .ge 19, 3) := by decide +kernel
theorem dX9_mixKeeping_97 : decode cX9_mixKeeping 97 = .ok (.aload_n 0, 1) := by decide +kernel
theorem dX9_mixKeeping_98 : decode cX9_mixKeeping 98 = .ok (.aload_n 0, 1) := by decide +kernel
theorem dX9_mixKeeping_99 : decode cX9_mixKeeping 99 = .ok (.iload_n 1, 1) := by decide +kernel
theorem dX9_mixKeeping_100 : decode cX9_mixKeeping 100 = .ok (.invokevirtual 197, 3) := by decide +kernel
theorem dX9_mixKeeping_103 : decode cX9_mixKeeping 103 = .ok (.i2l, 1) := by decide +kernel
theorem dX9_mixKeeping_104 : decode cX9_mixKeeping 104 = .ok (.invokevirtual 212, 3) := by decide +kernel
theorem dX9_mixKeeping_107 : decode cX9_mixKeeping 107 = .ok (.iinc 1 1, 3) := by decide +kernel
theorem dX9_mixKeeping_110 : decode cX9_mixKeeping 110 = .ok (.goto (-18), 3) := by decide +kernel
theorem dX9_mixKeeping_113 : decode cX9_mixKeeping 113 = .ok (.return_, 1) := by decide +kernel
set_option maxRecDepth 20000 in
theorem ggX9_digest_X9_jobNow : GoodIn wsX9_digest wsX9_jobNow := goodIn_r _ [10, 11, 12, 13, 14, 15, 9, 16, 17, 167, 168, 169, 170, 171, 172, 173, 174, 175, 176, 177, 178, 179, 180, 181, 182, 183, 184, 185, 186, 187, 188, 189] (by decide +kernel) (by decide +kernel)
set_option maxRecDepth 20000 in
theorem gX9_digest_X9_jobNow : GoodIn wsX9_digest (wsV RX9 99 RX9 yX9_jobNow wsX9_jobNow) := goodIn_app (goodIn_of _ (by decide +kernel)) ggX9_digest_X9_jobNow
set_option maxRecDepth 20000 in
theorem ggX9_digest_X9_mix : GoodIn wsX9_digest wsX9_mix := goodIn_r _ [21, 22, 2, 167, 168, 169, 170, 171, 172, 173, 174, 175, 176, 177, 178, 179, 180, 181, 182, 183, 184, 185, 186, 187, 188, 189] (by decide +kernel) (by decide +kernel)
set_option maxRecDepth 20000 in
theorem gX9_digest_X9_mix : GoodIn wsX9_digest (wsV RX9 212 RX9 yX9_mix wsX9_mix) := goodIn_app (goodIn_of _ (by decide +kernel)) ggX9_digest_X9_mix
set_option maxRecDepth 20000 in
theorem ggX9_digest_X9_nextOf : GoodIn wsX9_digest wsX9_nextOf := goodIn_r _ [26, 3, 12, 27, 28, 9, 29, 13, 14, 15, 16, 17, 11, 167, 168, 169, 170, 171, 172, 173, 174, 175, 176, 177, 178, 179, 180, 181, 182, 183, 184, 185, 186, 187, 188, 189] (by decide +kernel) (by decide +kernel)
set_option maxRecDepth 20000 in
theorem gX9_digest_X9_nextOf : GoodIn wsX9_digest (wsV RX9 103 RX9 yX9_nextOf wsX9_nextOf) := goodIn_app (goodIn_of _ (by decide +kernel)) ggX9_digest_X9_nextOf
set_option maxRecDepth 20000 in
theorem ggX9_digest_X9_isReady : GoodIn wsX9_digest wsX9_isReady := goodIn_r _ [33, 3, 34, 35, 36, 9, 37, 38, 13, 14, 15, 16, 17, 11, 39, 40, 41, 42, 43, 44, 45, 46, 167, 168, 169, 170, 171, 172, 173, 174, 175, 176, 177, 178, 179, 180, 181, 182, 183, 184, 185, 186, 187, 188, 189] (by decide +kernel) (by decide +kernel)
set_option maxRecDepth 20000 in
theorem gX9_digest_X9_isReady : GoodIn wsX9_digest (wsV RX9 161 RX9 yX9_isReady wsX9_isReady) := goodIn_app (goodIn_of _ (by decide +kernel)) ggX9_digest_X9_isReady
set_option maxRecDepth 20000 in
theorem ggX9_digest_X9_mixKeeping : GoodIn wsX9_digest wsX9_mixKeeping := goodIn_r _ [50, 3, 51, 52, 53, 9, 54, 55, 56, 57, 58, 59, 60, 61, 62, 63, 39, 40, 41, 42, 43, 44, 45, 46, 64, 65, 66, 67, 38, 12, 13, 14, 15, 16, 17, 11, 68, 69, 70, 71, 27, 28, 29, 72, 73, 74, 75, 23, 24, 25, 26, 76, 77, 78, 79, 80, 81, 82, 83, 84, 85, 86, 87, 88, 89, 90, 91, 92, 93, 94, 95, 96, 97, 98, 99, 100, 101, 102, 103, 104, 18, 19, 20, 21, 22, 2, 105, 106, 107, 108, 109, 110, 111, 112, 113, 114, 115, 116, 117, 118, 119, 120, 121, 122, 123, 124, 125, 126, 127, 128, 129, 130, 131, 132, 133, 134, 135, 136, 137, 138, 139, 140, 141, 142, 143, 144, 145, 146, 147, 148, 149, 150, 151, 152, 153, 154, 155, 156, 167, 168, 169, 170, 171, 172, 173, 174, 175, 176, 177, 178, 179, 180, 181, 182, 183, 184, 185, 186, 187, 188, 189] (by decide +kernel) (by decide +kernel)
set_option maxRecDepth 20000 in
theorem gX9_digest_X9_mixKeeping : GoodIn wsX9_digest (wsV RX9 218 RX9 yX9_mixKeeping wsX9_mixKeeping) := goodIn_app (goodIn_of _ (by decide +kernel)) ggX9_digest_X9_mixKeeping
set_option maxRecDepth 20000 in
theorem ggX9_digest_X9_howMany : GoodIn wsX9_digest wsX9_howMany := goodIn_r _ [160, 3, 4, 38, 43, 161, 162, 163, 164, 165, 9, 166, 12, 44, 45, 46, 34, 35, 36, 37, 13, 14, 15, 16, 17, 11, 39, 40, 41, 42, 167, 168, 169, 170, 171, 172, 173, 174, 175, 176, 177, 178, 179, 180, 181, 182, 183, 184, 185, 186, 187, 188, 189] (by decide +kernel) (by decide +kernel)
set_option maxRecDepth 20000 in
theorem gX9_digest_X9_howMany : GoodIn wsX9_digest (wsV RX9 203 RX9 yX9_howMany wsX9_howMany) := goodIn_app (goodIn_of _ (by decide +kernel)) ggX9_digest_X9_howMany
theorem dX9_digest_0 : decode cX9_digest 0 = .ok (.aload_n 0, 1) := by decide +kernel
theorem dX9_digest_1 : decode cX9_digest 1 = .ok (.ldc2_w 216, 3) := by decide +kernel
theorem dX9_digest_4 : decode cX9_digest 4 = .ok (.putfield 208, 3) := by decide +kernel
theorem dX9_digest_7 : decode cX9_digest 7 = .ok (.iconst 0, 1) := by decide +kernel
theorem dX9_digest_8 : decode cX9_digest 8 = .ok (.istore_n 1, 1) := by decide +kernel
theorem dX9_digest_9 : decode cX9_digest 9 = .ok (.iload_n 1, 1) := by decide +kernel
theorem dX9_digest_10 : decode cX9_digest 10 = .ok (.aload_n 0, 1) := by decide +kernel
theorem dX9_digest_11 : decode cX9_digest 11 = .ok (.getfield 69, 3) := by decide +kernel
theorem dX9_digest_14 : decode cX9_digest 14 = .ok (.if_icmp .ge 58, 3) := by decide +kernel
theorem dX9_digest_17 : decode cX9_digest 17 = .ok (.iconst 0, 1) := by decide +kernel
theorem dX9_digest_18 : decode cX9_digest 18 = .ok (.istore_n 2, 1) := by decide +kernel
theorem dX9_digest_19 : decode cX9_digest 19 = .ok (.iload_n 2, 1) := by decide +kernel
theorem dX9_digest_20 : decode cX9_digest 20 = .ok (.iconst 3, 1) := by decide +kernel
theorem dX9_digest_21 : decode cX9_digest 21 = .ok (.if_icmp .ge 20, 3) := by decide +kernel
theorem dX9_digest_24 : decode cX9_digest 24 = .ok (.aload_n 0, 1) := by decide +kernel
theorem dX9_digest_25 : decode cX9_digest 25 = .ok (.aload_n 0, 1) := by decide +kernel
theorem dX9_digest_26 : decode cX9_digest 26 = .ok (.iload_n 1, 1) := by decide +kernel
theorem dX9_digest_27 : decode cX9_digest 27 = .ok (.iload_n 2, 1) := by decide +kernel
theorem dX9_digest_28 : decode cX9_digest 28 = .ok (.invokevirtual 99, 3) := by decide +kernel
theorem dX9_digest_31 : decode cX9_digest 31 = .ok (.i2l, 1) := by decide +kernel
theorem dX9_digest_32 : decode cX9_digest 32 = .ok (.invokevirtual 212, 3) := by decide +kernel
theorem dX9_digest_35 : decode cX9_digest 35 = .ok (.iinc 2 1, 3) := by decide +kernel
theorem dX9_digest_38 : decode cX9_digest 38 = .ok (.goto (-19), 3) := by decide +kernel
theorem dX9_digest_41 : decode cX9_digest 41 = .ok (.iconst 0, 1) := by decide +kernel
theorem dX9_digest_42 : decode cX9_digest 42 = .ok (.istore_n 2, 1) := by decide +kernel
theorem dX9_digest_43 : decode cX9_digest 43 = .ok (.iload_n 2, 1) := by decide +kernel
theorem dX9_digest_44 : decode cX9_digest 44 = .ok (.bipush 8, 2) := by decide +kernel
theorem dX9_digest_46 : decode cX9_digest 46 = .ok (.if_icmp .ge 20, 3) := by decide +kernel
theorem dX9_digest_49 : decode cX9_digest 49 = .ok (.aload_n 0, 1) := by decide +kernel
theorem dX9_digest_50 : decode cX9_digest 50 = .ok (.aload_n 0, 1) := by decide +kernel
theorem dX9_digest_51 : decode cX9_digest 51 = .ok (.iload_n 1, 1) := by decide +kernel
theorem dX9_digest_52 : decode cX9_digest 52 = .ok (.iload_n 2, 1) := by decide +kernel
theorem dX9_digest_53 : decode cX9_digest 53 = .ok (.invokevirtual 103, 3) := by decide +kernel
theorem dX9_digest_56 : decode cX9_digest 56 = .ok (.i2l, 1) := by decide +kernel
theorem dX9_digest_57 : decode cX9_digest 57 = .ok (.invokevirtual 212, 3) := by decide +kernel
theorem dX9_digest_60 : decode cX9_digest 60 = .ok (.iinc 2 1, 3) := by decide +kernel
theorem dX9_digest_63 : decode cX9_digest 63 = .ok (.goto (-20), 3) := by decide +kernel
theorem dX9_digest_66 : decode cX9_digest 66 = .ok (.iinc 1 1, 3) := by decide +kernel
theorem dX9_digest_69 : decode cX9_digest 69 = .ok (.goto (-60), 3) := by decide +kernel
theorem dX9_digest_72 : decode cX9_digest 72 = .ok (.aload_n 0, 1) := by decide +kernel
theorem dX9_digest_73 : decode cX9_digest 73 = .ok (.invokevirtual 161, 3) := by decide +kernel
theorem dX9_digest_76 : decode cX9_digest 76 = .ok (.ifCond .eq 7, 3) := by decide +kernel
theorem dX9_digest_79 : decode cX9_digest 79 = .ok (.aload_n 0, 1) := by decide +kernel
theorem dX9_digest_80 : decode cX9_digest 80 = .ok (.invokevirtual 218, 3) := by decide +kernel
theorem dX9_digest_83 : decode cX9_digest 83 = .ok (.iconst 0, 1) := by decide +kernel
theorem dX9_digest_84 : decode cX9_digest 84 = .ok (.istore_n 1, 1) := by decide +kernel
theorem dX9_digest_85 : decode cX9_digest 85 = .ok (.iload_n 1, 1) := by decide +kernel
theorem dX9_digest_86 : decode cX9_digest 86 = .ok (.aload_n 0, 1) := by decide +kernel
theorem dX9_digest_87 : decode cX9_digest 87 = .ok (.getfield 52, 3) := by decide +kernel
theorem dX9_digest_90 : decode cX9_digest 90 = .ok (.if_icmp .ge 20, 3) := by decide +kernel
theorem dX9_digest_93 : decode cX9_digest 93 = .ok (.aload_n 0, 1) := by decide +kernel
theorem dX9_digest_94 : decode cX9_digest 94 = .ok (.aload_n 0, 1) := by decide +kernel
theorem dX9_digest_95 : decode cX9_digest 95 = .ok (.getfield 7, 3) := by decide +kernel
theorem dX9_digest_98 : decode cX9_digest 98 = .ok (.iload_n 1, 1) := by decide +kernel
theorem dX9_digest_99 : decode cX9_digest 99 = .ok (.iaload, 1) := by decide +kernel
theorem dX9_digest_100 : decode cX9_digest 100 = .ok (.i2l, 1) := by decide +kernel
theorem dX9_digest_101 : decode cX9_digest 101 = .ok (.invokevirtual 212, 3) := by decide +kernel
theorem dX9_digest_104 : decode cX9_digest 104 = .ok (.iinc 1 1, 3) := by decide +kernel
theorem dX9_digest_107 : decode cX9_digest 107 = .ok (.goto (-22), 3) := by decide +kernel
theorem dX9_digest_110 : decode cX9_digest 110 = .ok (.iconst 0, 1) := by decide +kernel
theorem dX9_digest_111 : decode cX9_digest 111 = .ok (.istore_n 1, 1) := by decide +kernel
theorem dX9_digest_112 : decode cX9_digest 112 = .ok (.iload_n 1, 1) := by decide +kernel
theorem dX9_digest_113 : decode cX9_digest 113 = .ok (.bipush 8, 2) := by decide +kernel
theorem dX9_digest_115 : decode cX9_digest 115 = .ok (.if_icmp .ge 19, 3) := by decide +kernel
theorem dX9_digest_118 : decode cX9_digest 118 = .ok (.aload_n 0, 1) := by decide +kernel
theorem dX9_digest_119 : decode cX9_digest 119 = .ok (.aload_n 0, 1) := by decide +kernel
theorem dX9_digest_120 : decode cX9_digest 120 = .ok (.iload_n 1, 1) := by decide +kernel
theorem dX9_digest_121 : decode cX9_digest 121 = .ok (.invokevirtual 203, 3) := by decide +kernel
theorem dX9_digest_124 : decode cX9_digest 124 = .ok (.i2l, 1) := by decide +kernel
theorem dX9_digest_125 : decode cX9_digest 125 = .ok (.invokevirtual 212, 3) := by decide +kernel
theorem dX9_digest_128 : decode cX9_digest 128 = .ok (.iinc 1 1, 3) := by decide +kernel
theorem dX9_digest_131 : decode cX9_digest 131 = .ok (.goto (-19), 3) := by decide +kernel
theorem dX9_digest_134 : decode cX9_digest 134 = .ok (.aload_n 0, 1) := by decide +kernel
theorem dX9_digest_135 : decode cX9_digest 135 = .ok (.getfield 208, 3) := by decide +kernel
theorem dX9_digest_138 : decode cX9_digest 138 = .ok (.lreturn, 1) := by decide +kernel
theorem dJxe99ae_isNaN_b9ae7_0 : decode cJxe99ae_isNaN_b9ae7 0 = .ok (.dload_n 0, 1) := by decide +kernel
theorem dJxe99ae_isNaN_b9ae7_1 : decode cJxe99ae_isNaN_b9ae7 1 = .ok (.dload_n 0, 1) := by decide +kernel
theorem dJxe99ae_isNaN_b9ae7_2 : decode cJxe99ae_isNaN_b9ae7 2 = .ok (.dcmp .l, 1) := by decide +kernel
theorem dJxe99ae_isNaN_b9ae7_3 : decode cJxe99ae_isNaN_b9ae7 3 = .ok (.ifCond .eq 7, 3) := by decide +kernel
theorem dJxe99ae_isNaN_b9ae7_6 : decode cJxe99ae_isNaN_b9ae7 6 = .ok (.iconst 1, 1) := by decide +kernel
theorem dJxe99ae_isNaN_b9ae7_7 : decode cJxe99ae_isNaN_b9ae7 7 = .ok (.goto 4, 3) := by decide +kernel
theorem dJxe99ae_isNaN_b9ae7_10 : decode cJxe99ae_isNaN_b9ae7 10 = .ok (.iconst 0, 1) := by decide +kernel
theorem dJxe99ae_isNaN_b9ae7_11 : decode cJxe99ae_isNaN_b9ae7 11 = .ok (.ireturn, 1) := by decide +kernel
set_option maxRecDepth 20000 in
theorem ggJxe99ae_doubleToLongBits_ccdee_Jxe99ae_isNaN_b9ae7 : GoodIn wsJxe99ae_doubleToLongBits_ccdee wsJxe99ae_isNaN_b9ae7 := goodIn_r _ [9] (by decide +kernel) (by decide +kernel)
set_option maxRecDepth 20000 in
theorem gJxe99ae_doubleToLongBits_ccdee_Jxe99ae_isNaN_b9ae7 : GoodIn wsJxe99ae_doubleToLongBits_ccdee (va_wsS RJxe99ae 122 yJxe99ae_isNaN_b9ae7 wsJxe99ae_isNaN_b9ae7) := goodIn_app (goodIn_of _ (by decide +kernel)) ggJxe99ae_doubleToLongBits_ccdee_Jxe99ae_isNaN_b9ae7
theorem dJxe99ae_doubleToLongBits_ccdee_0 : decode cJxe99ae_doubleToLongBits_ccdee 0 = .ok (.dload_n 0, 1) := by decide +kernel
theorem dJxe99ae_doubleToLongBits_ccdee_1 : decode cJxe99ae_doubleToLongBits_ccdee 1 = .ok (.invokestatic 122, 3) := by decide +kernel
theorem dJxe99ae_doubleToLongBits_ccdee_4 : decode cJxe99ae_doubleToLongBits_ccdee 4 = .ok (.ifCond .ne 8, 3) := by decide +kernel
theorem dJxe99ae_doubleToLongBits_ccdee_7 : decode cJxe99ae_doubleToLongBits_ccdee 7 = .ok (.dload_n 0, 1) := by decide +kernel
theorem dJxe99ae_doubleToLongBits_ccdee_8 : decode cJxe99ae_doubleToLongBits_ccdee 8 = .ok (.invokestatic 134, 3) := by decide +kernel
theorem dJxe99ae_doubleToLongBits_ccdee_11 : decode cJxe99ae_doubleToLongBits_ccdee 11 = .ok (.lreturn, 1) := by decide +kernel
theorem dJxe99ae_doubleToLongBits_ccdee_12 : decode cJxe99ae_doubleToLongBits_ccdee 12 = .ok (.ldc2_w 137, 3) := by decide +kernel
theorem dJxe99ae_doubleToLongBits_ccdee_15 : decode cJxe99ae_doubleToLongBits_ccdee 15 = .ok (.lreturn, 1) := by decide +kernel
theorem dJxf58ca_isNaN_12338_0 : decode cJxf58ca_isNaN_12338 0 = .ok (.fload_n 0, 1) := by decide +kernel
theorem dJxf58ca_isNaN_12338_1 : decode cJxf58ca_isNaN_12338 1 = .ok (.fload_n 0, 1) := by decide +kernel
theorem dJxf58ca_isNaN_12338_2 : decode cJxf58ca_isNaN_12338 2 = .ok (.fcmp .l, 1) := by decide +kernel
theorem dJxf58ca_isNaN_12338_3 : decode cJxf58ca_isNaN_12338 3 = .ok (.ifCond .eq 7, 3) := by decide +kernel
theorem dJxf58ca_isNaN_12338_6 : decode cJxf58ca_isNaN_12338 6 = .ok (.iconst 1, 1) := by decide +kernel
theorem dJxf58ca_isNaN_12338_7 : decode cJxf58ca_isNaN_12338 7 = .ok (.goto 4, 3) := by decide +kernel
theorem dJxf58ca_isNaN_12338_10 : decode cJxf58ca_isNaN_12338 10 = .ok (.iconst 0, 1) := by decide +kernel
theorem dJxf58ca_isNaN_12338_11 : decode cJxf58ca_isNaN_12338 11 = .ok (.ireturn, 1) := by decide +kernel
set_option maxRecDepth 20000 in
theorem ggJxf58ca_floatToIntBits_5c35a_Jxf58ca_isNaN_12338 : GoodIn wsJxf58ca_floatToIntBits_5c35a wsJxf58ca_isNaN_12338 := goodIn_r _ [9] (by decide +kernel) (by decide +kernel)
set_option maxRecDepth 20000 in
theorem gJxf58ca_floatToIntBits_5c35a_Jxf58ca_isNaN_12338 : GoodIn wsJxf58ca_floatToIntBits_5c35a (va_wsS RJxf58ca 59 yJxf58ca_isNaN_12338 wsJxf58ca_isNaN_12338) := goodIn_app (goodIn_of _ (by decide +kernel)) ggJxf58ca_floatToIntBits_5c35a_Jxf58ca_isNaN_12338
theorem dJxf58ca_floatToIntBits_5c35a_0 : decode cJxf58ca_floatToIntBits_5c35a 0 = .ok (.fload_n 0, 1) := by decide +kernel
theorem dJxf58ca_floatToIntBits_5c35a_1 : decode cJxf58ca_floatToIntBits_5c35a 1 = .ok (.invokestatic 59, 3) := by decide +kernel
theorem dJxf58ca_floatToIntBits_5c35a_4 : decode cJxf58ca_floatToIntBits_5c35a 4 = .ok (.ifCond .ne 8, 3) := by decide +kernel
theorem dJxf58ca_floatToIntBits_5c35a_7 : decode cJxf58ca_floatToIntBits_5c35a 7 = .ok (.fload_n 0, 1) := by decide +kernel
theorem dJxf58ca_floatToIntBits_5c35a_8 : decode cJxf58ca_floatToIntBits_5c35a 8 = .ok (.invokestatic 74, 3) := by decide +kernel
theorem dJxf58ca_floatToIntBits_5c35a_11 : decode cJxf58ca_floatToIntBits_5c35a 11 = .ok (.ireturn, 1) := by decide +kernel
theorem dJxf58ca_floatToIntBits_5c35a_12 : decode cJxf58ca_floatToIntBits_5c35a 12 = .ok (.ldc 77, 2) := by decide +kernel
theorem dJxf58ca_floatToIntBits_5c35a_14 : decode cJxf58ca_floatToIntBits_5c35a 14 = .ok (.ireturn, 1) := by decide +kernel
theorem dJ6_bitCount_0f7a4_0 : decode cJ6_bitCount_0f7a4 0 = .ok (.iload_n 0, 1) := by decide +kernel
theorem dJ6_bitCount_0f7a4_1 : decode cJ6_bitCount_0f7a4 1 = .ok (.iload_n 0, 1) := by decide +kernel
theorem dJ6_bitCount_0f7a4_2 : decode cJ6_bitCount_0f7a4 2 = .ok (.iconst 1, 1) := by decide +kernel
theorem dJ6_bitCount_0f7a4_3 : decode cJ6_bitCount_0f7a4 3 = .ok (.iushr, 1) := by decide +kernel
theorem dJ6_bitCount_0f7a4_4 : decode cJ6_bitCount_0f7a4 4 = .ok (.ldc_w 265, 3) := by decide +kernel
theorem dJ6_bitCount_0f7a4_7 : decode cJ6_bitCount_0f7a4 7 = .ok (.iand, 1) := by decide +kernel
theorem dJ6_bitCount_0f7a4_8 : decode cJ6_bitCount_0f7a4 8 = .ok (.isub, 1) := by decide +kernel
theorem dJ6_bitCount_0f7a4_9 : decode cJ6_bitCount_0f7a4 9 = .ok (.istore_n 0, 1) := by decide +kernel
theorem dJ6_bitCount_0f7a4_10 : decode cJ6_bitCount_0f7a4 10 = .ok (.iload_n 0, 1) := by decide +kernel
theorem dJ6_bitCount_0f7a4_11 : decode cJ6_bitCount_0f7a4 11 = .ok (.ldc_w 266, 3) := by decide +kernel
theorem dJ6_bitCount_0f7a4_14 : decode cJ6_bitCount_0f7a4 14 = .ok (.iand, 1) := by decide +kernel
theorem dJ6_bitCount_0f7a4_15 : decode cJ6_bitCount_0f7a4 15 = .ok (.iload_n 0, 1) := by decide +kernel
theorem dJ6_bitCount_0f7a4_16 : decode cJ6_bitCount_0f7a4 16 = .ok (.iconst 2, 1) := by decide +kernel
theorem dJ6_bitCount_0f7a4_17 : decode cJ6_bitCount_0f7a4 17 = .ok (.iushr, 1) := by decide +kernel
theorem dJ6_bitCount_0f7a4_18 : decode cJ6_bitCount_0f7a4 18 = .ok (.ldc_w 266, 3) := by decide +kernel
theorem dJ6_bitCount_0f7a4_21 : decode cJ6_bitCount_0f7a4 21 = .ok (.iand, 1) := by decide +kernel
theorem dJ6_bitCount_0f7a4_22 : decode cJ6_bitCount_0f7a4 22 = .ok (.iadd, 1) := by decide +kernel
theorem dJ6_bitCount_0f7a4_23 : decode cJ6_bitCount_0f7a4 23 = .ok (.istore_n 0, 1) := by decide +kernel
theorem dJ6_bitCount_0f7a4_24 : decode cJ6_bitCount_0f7a4 24 = .ok (.iload_n 0, 1) := by decide +kernel
theorem dJ6_bitCount_0f7a4_25 : decode cJ6_bitCount_0f7a4 25 = .ok (.iload_n 0, 1) := by decide +kernel
theorem dJ6_bitCount_0f7a4_26 : decode cJ6_bitCount_0f7a4 26 = .ok (.iconst 4, 1) := by decide +kernel
theorem dJ6_bitCount_0f7a4_27 : decode cJ6_bitCount_0f7a4 27 = .ok (.iushr, 1) := by decide +kernel
theorem dJ6_bitCount_0f7a4_28 : decode cJ6_bitCount_0f7a4 28 = .ok (.iadd, 1) := by decide +kernel
theorem dJ6_bitCount_0f7a4_29 : decode cJ6_bitCount_0f7a4 29 = .ok (.ldc_w 267, 3) := by decide +kernel
theorem dJ6_bitCount_0f7a4_32 : decode cJ6_bitCount_0f7a4 32 = .ok (.iand, 1) := by decide +kernel
theorem dJ6_bitCount_0f7a4_33 : decode cJ6_bitCount_0f7a4 33 = .ok (.istore_n 0, 1) := by decide +kernel
theorem dJ6_bitCount_0f7a4_34 : decode cJ6_bitCount_0f7a4 34 = .ok (.iload_n 0, 1) := by decide +kernel
theorem dJ6_bitCount_0f7a4_35 : decode cJ6_bitCount_0f7a4 35 = .ok (.iload_n 0, 1) := by decide +kernel
theorem dJ6_bitCount_0f7a4_36 : decode cJ6_bitCount_0f7a4 36 = .ok (.bipush 8, 2) := by decide +kernel
theorem dJ6_bitCount_0f7a4_38 : decode cJ6_bitCount_0f7a4 38 = .ok (.iushr, 1) := by decide +kernel
theorem dJ6_bitCount_0f7a4_39 : decode cJ6_bitCount_0f7a4 39 = .ok (.iadd, 1) := by decide +kernel
theorem dJ6_bitCount_0f7a4_40 : decode cJ6_bitCount_0f7a4 40 = .ok (.istore_n 0, 1) := by decide +kernel
theorem dJ6_bitCount_0f7a4_41 : decode cJ6_bitCount_0f7a4 41 = .ok (.iload_n 0, 1) := by decide +kernel
theorem dJ6_bitCount_0f7a4_42 : decode cJ6_bitCount_0f7a4 42 = .ok (.iload_n 0, 1) := by decide +kernel
theorem dJ6_bitCount_0f7a4_43 : decode cJ6_bitCount_0f7a4 43 = .ok (.bipush 16, 2) := by decide +kernel
theorem dJ6_bitCount_0f7a4_45 : decode cJ6_bitCount_0f7a4 45 = .ok (.iushr, 1) := by decide +kernel
theorem dJ6_bitCount_0f7a4_46 : decode cJ6_bitCount_0f7a4 46 = .ok (.iadd, 1) := by decide +kernel
theorem dJ6_bitCount_0f7a4_47 : decode cJ6_bitCount_0f7a4 47 = .ok (.istore_n 0, 1) := by decide +kernel
theorem dJ6_bitCount_0f7a4_48 : decode cJ6_bitCount_0f7a4 48 = .ok (.iload_n 0, 1) := by decide +kernel
theorem dJ6_bitCount_0f7a4_49 : decode cJ6_bitCount_0f7a4 49 = .ok (.bipush 63, 2) := by decide +kernel
theorem dJ6_bitCount_0f7a4_51 : decode cJ6_bitCount_0f7a4 51 = .ok (.iand, 1) := by decide +kernel
theorem dJ6_bitCount_0f7a4_52 : decode cJ6_bitCount_0f7a4 52 = .ok (.ireturn, 1) := by decide +kernel
theorem dJ9_min_7cf53_0 : decode cJ9_min_7cf53 0 = .ok (.iload_n 0, 1) := by decide +kernel
theorem dJ9_min_7cf53_1 : decode cJ9_min_7cf53 1 = .ok (.iload_n 1, 1) := by decide +kernel
theorem dJ9_min_7cf53_2 : decode cJ9_min_7cf53 2 = .ok (.if_icmp .gt 7, 3) := by decide +kernel
theorem dJ9_min_7cf53_5 : decode cJ9_min_7cf53 5 = .ok (.iload_n 0, 1) := by decide +kernel
theorem dJ9_min_7cf53_6 : decode cJ9_min_7cf53 6 = .ok (.goto 4, 3) := by decide +kernel
theorem dJ9_min_7cf53_9 : decode cJ9_min_7cf53 9 = .ok (.iload_n 1, 1) := by decide +kernel
theorem dJ9_min_7cf53_10 : decode cJ9_min_7cf53 10 = .ok (.ireturn, 1) := by decide +kernel
set_option maxRecDepth 20000 in
theorem ggL_law_X8_init : GoodIn wsL_law wsX8_init := goodIn_r _ [8, 9, 10, 11, 12, 13, 14, 15, 16, 17, 18, 19, 20, 21, 22, 23, 24, 25, 26, 27, 28, 29, 30, 31, 32, 33, 34, 35, 36, 37, 38, 39, 40, 41, 42, 43, 44, 45, 46, 47, 48, 49, 50, 51, 52, 53, 54, 55, 56, 57, 58, 59, 60, 61, 62, 63, 64, 65, 66, 67, 68, 69, 70, 71, 72, 73, 74, 75, 76, 77, 78, 79, 80, 81, 82, 83, 84, 85, 86, 87, 828, 829, 796, 797, 798, 799, 800, 801, 802, 803, 804, 830, 831, 832, 833, 834, 835, 836, 837, 838, 839, 840, 841, 842, 843, 844, 845, 846, 847, 848, 849, 850, 851, 852, 853, 854, 855, 856, 857, 858] (by decide +kernel) (by decide +kernel)
set_option maxRecDepth 20000 in
theorem gL_law_X8_init : GoodIn wsL_law (wsX8_init) := ggL_law_X8_init
set_option maxRecDepth 20000 in
theorem ggL_law_X9_init : GoodIn wsL_law wsX9_init := goodIn_r _ [90, 91, 10, 11, 52, 92, 93, 94, 95, 96, 97, 98, 99, 100, 101, 805, 806, 807, 808, 809, 810, 811, 812, 813, 814, 815, 816, 817, 818, 819, 820, 821, 822, 823, 824, 825, 826, 827] (by decide +kernel) (by decide +kernel)
set_option maxRecDepth 20000 in
theorem gL_law_X9_init : GoodIn wsL_law (wsX9_init) := ggL_law_X9_init
set_option maxRecDepth 20000 in
theorem ggL_law_X8_letter : GoodIn wsL_law wsX8_letter := goodIn_r _ [105, 15, 106, 107, 108, 14, 109, 110, 111, 112, 113, 114, 44, 115, 116, 117, 118, 119, 796, 797, 798, 799, 800, 801, 802, 803, 804, 828, 829] (by decide +kernel) (by decide +kernel)
set_option maxRecDepth 20000 in
theorem gL_law_X8_letter : GoodIn wsL_law (wsV RL 13 RX8 yX8_letter wsX8_letter) := goodIn_app (goodIn_of _ (by decide +kernel)) ggL_law_X8_letter
set_option maxRecDepth 20000 in
theorem ggL_law_X9_letter : GoodIn wsL_law wsX9_letter := goodIn_r _ [123, 124, 92, 125, 126, 5, 127, 805, 806, 807, 808, 809, 810, 811, 812, 813, 814, 815, 816, 817, 818, 819, 820, 821, 822, 823, 824, 825, 826, 827] (by decide +kernel) (by decide +kernel)
set_option maxRecDepth 20000 in
theorem gL_law_X9_letter : GoodIn wsL_law (wsV RL 17 RX9 yX9_letter wsX9_letter) := goodIn_app (goodIn_of _ (by decide +kernel)) ggL_law_X9_letter
set_option maxRecDepth 20000 in
theorem ggL_law_X8_blank : GoodIn wsL_law wsX8_blank := goodIn_r _ [131, 15, 116, 117, 118, 14, 119, 110, 132, 133, 134, 135, 796, 797, 798, 799, 800, 801, 802, 803, 804, 828, 829] (by decide +kernel) (by decide +kernel)
set_option maxRecDepth 20000 in
theorem gL_law_X8_blank : GoodIn wsL_law (wsV RL 18 RX8 yX8_blank wsX8_blank) := goodIn_app (goodIn_of _ (by decide +kernel)) ggL_law_X8_blank
set_option maxRecDepth 20000 in
theorem ggL_law_X9_blank : GoodIn wsL_law wsX9_blank := goodIn_r _ [139, 124, 805, 806, 807, 808, 809, 810, 811, 812, 813, 814, 815, 816, 817, 818, 819, 820, 821, 822, 823, 824, 825, 826, 827] (by decide +kernel) (by decide +kernel)
set_option maxRecDepth 20000 in
theorem gL_law_X9_blank : GoodIn wsL_law (wsV RL 22 RX9 yX9_blank wsX9_blank) := goodIn_app (goodIn_of _ (by decide +kernel)) ggL_law_X9_blank
set_option maxRecDepth 20000 in
theorem ggL_law_X8_fault : GoodIn wsL_law wsX8_fault := goodIn_r _ [143, 15, 144, 145, 146, 14, 147, 110, 44, 796, 797, 798, 799, 800, 801, 802, 803, 804, 828, 829] (by decide +kernel) (by decide +kernel)
set_option maxRecDepth 20000 in
theorem gL_law_X8_fault : GoodIn wsL_law (wsV RL 23 RX8 yX8_fault wsX8_fault) := goodIn_app (goodIn_of _ (by decide +kernel)) ggL_law_X8_fault
set_option maxRecDepth 20000 in
theorem ggL_law_X9_fault : GoodIn wsL_law wsX9_fault := goodIn_r _ [151, 152, 153, 154, 5, 155, 156, 157, 124, 92, 158, 159, 160, 161, 97, 125, 126, 127, 805, 806, 807, 808, 809, 810, 811, 812, 813, 814, 815, 816, 817, 818, 819, 820, 821, 822, 823, 824, 825, 826, 827] (by decide +kernel) (by decide +kernel)
set_option maxRecDepth 20000 in
theorem gL_law_X9_fault : GoodIn wsL_law (wsV RL 26 RX9 yX9_fault wsX9_fault) := goodIn_app (goodIn_of _ (by decide +kernel)) ggL_law_X9_fault
set_option maxRecDepth 20000 in
theorem ggL_law_X8_jobs : GoodIn wsL_law wsX8_jobs := goodIn_r _ [165, 23, 15, 166, 167, 168, 22, 169, 53, 170, 171, 172, 173, 174, 14, 175, 110, 44, 176, 145, 146, 147, 177, 178, 179, 180, 54, 55, 181, 182, 117, 118, 119, 183, 184, 185, 186, 132, 133, 134, 135, 187, 188, 189, 2, 190, 191, 192, 193, 194, 195, 196, 796, 797, 798, 799, 800, 801, 802, 803, 804, 832, 833, 834, 835, 836, 837, 828, 829] (by decide +kernel) (by decide +kernel)
set_option maxRecDepth 20000 in
theorem gL_law_X8_jobs : GoodIn wsL_law (wsV RL 27 RX8 yX8_jobs wsX8_jobs) := goodIn_app (goodIn_of _ (by decide +kernel)) ggL_law_X8_jobs
set_option maxRecDepth 20000 in
theorem ggL_law_X9_jobs : GoodIn wsL_law wsX9_jobs := goodIn_r _ [200, 124, 157, 97, 156, 201, 93, 94, 95, 202, 203, 204, 152, 153, 154, 5, 155, 92, 158, 159, 160, 161, 125, 126, 127, 805, 806, 807, 808, 809, 810, 811, 812, 813, 814, 815, 816, 817, 818, 819, 820, 821, 822, 823, 824, 825, 826, 827] (by decide +kernel) (by decide +kernel)
set_option maxRecDepth 20000 in
theorem gL_law_X9_jobs : GoodIn wsL_law (wsV RL 30 RX9 yX9_jobs wsX9_jobs) := goodIn_app (goodIn_of _ (by decide +kernel)) ggL_law_X9_jobs
set_option maxRecDepth 20000 in
theorem ggL_law_X8_big : GoodIn wsL_law wsX8_big := goodIn_r _ [208, 19, 209, 210, 2, 211, 212, 213, 214, 18, 215, 216, 217, 218, 219, 220, 221, 222, 223, 224, 225, 187, 188, 189, 190, 191, 192, 796, 797, 798, 799, 800, 801, 802, 803, 804, 830, 831] (by decide +kernel) (by decide +kernel)
set_option maxRecDepth 20000 in
theorem gL_law_X8_big : GoodIn wsL_law (wsV RL 31 RX8 yX8_big wsX8_big) := goodIn_app (goodIn_of _ (by decide +kernel)) ggL_law_X8_big
set_option maxRecDepth 20000 in
theorem ggL_law_X9_big : GoodIn wsL_law wsX9_big := goodIn_r _ [229, 230, 203, 231, 232, 5, 233, 125, 126, 127, 805, 806, 807, 808, 809, 810, 811, 812, 813, 814, 815, 816, 817, 818, 819, 820, 821, 822, 823, 824, 825, 826, 827] (by decide +kernel) (by decide +kernel)
set_option maxRecDepth 20000 in
theorem gL_law_X9_big : GoodIn wsL_law (wsV RL 35 RX9 yX9_big wsX9_big) := goodIn_app (goodIn_of _ (by decide +kernel)) ggL_law_X9_big
set_option maxRecDepth 20000 in
theorem ggL_law_X8_pockets : GoodIn wsL_law wsX8_pockets := goodIn_r _ [237, 19, 238, 239, 240, 18, 241, 48, 242, 243, 244, 245, 187, 188, 189, 2, 190, 191, 192, 796, 797, 798, 799, 800, 801, 802, 803, 804, 830, 831] (by decide +kernel) (by decide +kernel)
set_option maxRecDepth 20000 in
theorem gL_law_X8_pockets : GoodIn wsL_law (wsV RL 36 RX8 yX8_pockets wsX8_pockets) := goodIn_app (goodIn_of _ (by decide +kernel)) ggL_law_X8_pockets
set_option maxRecDepth 20000 in
theorem ggL_law_X9_pockets : GoodIn wsL_law wsX9_pockets := goodIn_r _ [249, 96, 203, 125, 126, 5, 127, 805, 806, 807, 808, 809, 810, 811, 812, 813, 814, 815, 816, 817, 818, 819, 820, 821, 822, 823, 824, 825, 826, 827] (by decide +kernel) (by decide +kernel)
set_option maxRecDepth 20000 in
theorem gL_law_X9_pockets : GoodIn wsL_law (wsV RL 39 RX9 yX9_pockets wsX9_pockets) := goodIn_app (goodIn_of _ (by decide +kernel)) ggL_law_X9_pockets
set_option maxRecDepth 20000 in
theorem ggL_law_X8_breaks : GoodIn wsL_law wsX8_breaks := goodIn_r _ [253, 23, 254, 255, 256, 22, 257, 170, 209, 210, 2, 211, 258, 259, 260, 261, 55, 217, 218, 219, 262, 263, 264, 265, 224, 225, 187, 188, 189, 190, 191, 192, 796, 797, 798, 799, 800, 801, 802, 803, 804, 832, 833, 834, 835, 836, 837] (by decide +kernel) (by decide +kernel)
set_option maxRecDepth 20000 in
theorem gL_law_X8_breaks : GoodIn wsL_law (wsV RL 40 RX8 yX8_breaks wsX8_breaks) := goodIn_app (goodIn_of _ (by decide +kernel)) ggL_law_X8_breaks
set_option maxRecDepth 20000 in
theorem ggL_law_X9_breaks : GoodIn wsL_law wsX9_breaks := goodIn_r _ [269, 95, 203, 270, 271, 272, 5, 273, 201, 125, 126, 127, 231, 232, 233, 805, 806, 807, 808, 809, 810, 811, 812, 813, 814, 815, 816, 817, 818, 819, 820, 821, 822, 823, 824, 825, 826, 827] (by decide +kernel) (by decide +kernel)
set_option maxRecDepth 20000 in
theorem gL_law_X9_breaks : GoodIn wsL_law (wsV RL 44 RX9 yX9_breaks wsX9_breaks) := goodIn_app (goodIn_of _ (by decide +kernel)) ggL_law_X9_breaks
set_option maxRecDepth 20000 in
theorem ggL_law_X8_swap : GoodIn wsL_law wsX8_swap := goodIn_r _ [277, 23, 254, 255, 256, 22, 257, 170, 278, 279, 280, 2, 281, 282, 283, 284, 285, 54, 286, 287, 288, 289, 181, 187, 188, 189, 190, 191, 192, 290, 291, 292, 293, 796, 797, 798, 799, 800, 801, 802, 803, 804, 832, 833, 834, 835, 836, 837] (by decide +kernel) (by decide +kernel)
set_option maxRecDepth 20000 in
theorem gL_law_X8_swap : GoodIn wsL_law (wsV RL 45 RX8 yX8_swap wsX8_swap) := goodIn_app (goodIn_of _ (by decide +kernel)) ggL_law_X8_swap
set_option maxRecDepth 20000 in
theorem ggL_law_X9_swap : GoodIn wsL_law wsX9_swap := goodIn_r _ [297, 202, 203, 270, 271, 272, 5, 273, 201, 125, 126, 127, 298, 299, 300, 301, 94, 805, 806, 807, 808, 809, 810, 811, 812, 813, 814, 815, 816, 817, 818, 819, 820, 821, 822, 823, 824, 825, 826, 827] (by decide +kernel) (by decide +kernel)
set_option maxRecDepth 20000 in
theorem gL_law_X9_swap : GoodIn wsL_law (wsV RL 49 RX9 yX9_swap wsX9_swap) := goodIn_app (goodIn_of _ (by decide +kernel)) ggL_law_X9_swap
set_option maxRecDepth 20000 in
theorem ggL_law_X8_as : GoodIn wsL_law wsX8_as := goodIn_r _ [305, 19, 209, 210, 2, 211, 212, 213, 214, 18, 215, 216, 217, 218, 219, 796, 797, 798, 799, 800, 801, 802, 803, 804, 830, 831] (by decide +kernel) (by decide +kernel)
set_option maxRecDepth 20000 in
theorem gL_law_X8_as : GoodIn wsL_law (wsV RL 50 RX8 yX8_as wsX8_as) := goodIn_app (goodIn_of _ (by decide +kernel)) ggL_law_X8_as
set_option maxRecDepth 20000 in
theorem ggL_law_X9_as : GoodIn wsL_law wsX9_as := goodIn_r _ [309, 230, 231, 232, 5, 233, 125, 126, 127, 310, 311, 312, 805, 806, 807, 808, 809, 810, 811, 812, 813, 814, 815, 816, 817, 818, 819, 820, 821, 822, 823, 824, 825, 826, 827] (by decide +kernel) (by decide +kernel)
set_option maxRecDepth 20000 in
theorem gL_law_X9_as : GoodIn wsL_law (wsV RL 53 RX9 yX9_as wsX9_as) := goodIn_app (goodIn_of _ (by decide +kernel)) ggL_law_X9_as
set_option maxRecDepth 20000 in
theorem ggL_law_X8_job : GoodIn wsL_law wsX8_job := goodIn_r _ [316, 23, 254, 255, 256, 22, 257, 170, 317, 318, 319, 320, 53, 54, 321, 322, 323, 324, 258, 259, 260, 261, 55, 796, 797, 798, 799, 800, 801, 802, 803, 804, 832, 833, 834, 835, 836, 837] (by decide +kernel) (by decide +kernel)
set_option maxRecDepth 20000 in
theorem gL_law_X8_job : GoodIn wsL_law (wsV RL 54 RX8 yX8_job wsX8_job) := goodIn_app (goodIn_of _ (by decide +kernel)) ggL_law_X8_job
set_option maxRecDepth 20000 in
theorem ggL_law_X9_job : GoodIn wsL_law wsX9_job := goodIn_r _ [328, 270, 271, 272, 5, 273, 201, 125, 126, 127, 329, 330, 331, 332, 94, 95, 333, 334, 335, 336, 93, 805, 806, 807, 808, 809, 810, 811, 812, 813, 814, 815, 816, 817, 818, 819, 820, 821, 822, 823, 824, 825, 826, 827] (by decide +kernel) (by decide +kernel)
set_option maxRecDepth 20000 in
theorem gL_law_X9_job : GoodIn wsL_law (wsV RL 57 RX9 yX9_job wsX9_job) := goodIn_app (goodIn_of _ (by decide +kernel)) ggL_law_X9_job
set_option maxRecDepth 20000 in
theorem ggL_law_X8_next : GoodIn wsL_law wsX8_next := goodIn_r _ [340, 23, 254, 255, 256, 22, 257, 170, 209, 210, 2, 211, 341, 342, 343, 344, 55, 218, 219, 345, 318, 319, 320, 53, 54, 796, 797, 798, 799, 800, 801, 802, 803, 804, 832, 833, 834, 835, 836, 837] (by decide +kernel) (by decide +kernel)
set_option maxRecDepth 20000 in
theorem gL_law_X8_next : GoodIn wsL_law (wsV RL 58 RX8 yX8_next wsX8_next) := goodIn_app (goodIn_of _ (by decide +kernel)) ggL_law_X8_next
set_option maxRecDepth 20000 in
theorem ggL_law_X9_next : GoodIn wsL_law wsX9_next := goodIn_r _ [349, 270, 271, 272, 5, 273, 201, 125, 126, 127, 231, 232, 233, 350, 351, 352, 353, 95, 310, 311, 312, 333, 334, 335, 336, 93, 94, 805, 806, 807, 808, 809, 810, 811, 812, 813, 814, 815, 816, 817, 818, 819, 820, 821, 822, 823, 824, 825, 826, 827] (by decide +kernel) (by decide +kernel)
set_option maxRecDepth 20000 in
theorem gL_law_X9_next : GoodIn wsL_law (wsV RL 61 RX9 yX9_next wsX9_next) := goodIn_app (goodIn_of _ (by decide +kernel)) ggL_law_X9_next
set_option maxRecDepth 20000 in
theorem ggL_law_X8_soonest : GoodIn wsL_law wsX8_soonest := goodIn_r _ [357, 31, 358, 359, 360, 2, 361, 23, 254, 255, 256, 22, 257, 170, 362, 363, 364, 365, 19, 193, 194, 195, 196, 317, 318, 319, 320, 53, 54, 366, 367, 368, 18, 369, 48, 370, 371, 372, 373, 216, 374, 375, 376, 377, 378, 379, 380, 381, 382, 383, 384, 191, 27, 35, 385, 386, 387, 388, 69, 389, 75, 72, 73, 74, 390, 391, 392, 393, 394, 395, 34, 396, 80, 397, 398, 399, 26, 400, 60, 61, 401, 402, 403, 404, 405, 406, 407, 408, 409, 410, 411, 412, 30, 413, 414, 415, 416, 417, 418, 419, 420, 421, 422, 423, 218, 219, 424, 425, 426, 427, 428, 342, 343, 344, 55, 345, 429, 213, 214, 215, 430, 259, 260, 261, 431, 432, 433, 434, 435, 62, 63, 436, 437, 438, 439, 440, 441, 442, 443, 444, 445, 446, 447, 448, 449, 450, 451, 452, 453, 454, 455, 456, 457, 458, 459, 460, 461, 462, 463, 464, 465, 466, 467, 468, 469, 470, 471, 472, 473, 474, 475, 476, 477, 478, 479, 480, 481, 482, 483, 484, 796, 797, 798, 799, 800, 801, 802, 803, 804, 832, 833, 834, 835, 836, 837, 830, 831, 847, 848, 849, 850, 851, 852, 842, 843, 844, 845, 846, 838, 839, 840, 841] (by decide +kernel) (by decide +kernel)
set_option maxRecDepth 20000 in
theorem gL_law_X8_soonest : GoodIn wsL_law (wsV RL 62 RX8 yX8_soonest wsX8_soonest) := goodIn_app (goodIn_of _ (by decide +kernel)) ggL_law_X8_soonest
set_option maxRecDepth 20000 in
theorem ggL_law_X9_soonest : GoodIn wsL_law wsX9_soonest := goodIn_r _ [488, 489, 490, 491, 5, 492, 270, 271, 272, 273, 201, 125, 126, 127, 493, 494, 495, 496, 96, 333, 334, 335, 336, 93, 94, 497, 498, 499, 500, 230, 501, 502, 503, 504, 505, 506, 507, 99, 98, 508, 509, 510, 511, 203, 101, 512, 513, 514, 515, 516, 95, 517, 518, 519, 520, 310, 311, 312, 521, 522, 523, 524, 350, 351, 352, 353, 525, 526, 527, 528, 529, 530, 531, 532, 533, 534, 535, 100, 536, 537, 538, 539, 540, 541, 542, 543, 544, 298, 299, 300, 301, 545, 546, 547, 548, 805, 806, 807, 808, 809, 810, 811, 812, 813, 814, 815, 816, 817, 818, 819, 820, 821, 822, 823, 824, 825, 826, 827] (by decide +kernel) (by decide +kernel)
set_option maxRecDepth 20000 in
theorem gL_law_X9_soonest : GoodIn wsL_law (wsV RL 65 RX9 yX9_soonest wsX9_soonest) := goodIn_app (goodIn_of _ (by decide +kernel)) ggL_law_X9_soonest
set_option maxRecDepth 20000 in
theorem ggL_law_X8_plan : GoodIn wsL_law wsX8_plan := goodIn_r _ [552, 35, 358, 359, 360, 2, 361, 23, 254, 255, 256, 22, 257, 170, 362, 363, 364, 365, 19, 193, 194, 195, 196, 317, 318, 319, 320, 53, 54, 366, 367, 368, 18, 369, 48, 370, 371, 372, 373, 216, 374, 375, 376, 377, 378, 379, 380, 381, 382, 383, 384, 191, 31, 27, 385, 386, 387, 388, 69, 389, 75, 72, 73, 74, 390, 391, 392, 393, 394, 395, 34, 396, 80, 397, 398, 399, 26, 400, 60, 61, 401, 402, 403, 404, 405, 406, 407, 408, 409, 410, 411, 412, 30, 413, 414, 415, 416, 417, 418, 419, 420, 421, 422, 423, 218, 219, 424, 425, 426, 427, 428, 342, 343, 344, 55, 345, 429, 213, 214, 215, 430, 259, 260, 261, 431, 432, 433, 434, 435, 62, 63, 436, 437, 438, 439, 440, 441, 442, 443, 444, 445, 446, 447, 448, 449, 450, 451, 452, 453, 454, 455, 456, 457, 458, 459, 460, 461, 462, 463, 464, 465, 466, 467, 468, 469, 470, 471, 472, 473, 474, 475, 476, 477, 478, 479, 480, 481, 482, 483, 484, 796, 797, 798, 799, 800, 801, 802, 803, 804, 832, 833, 834, 835, 836, 837, 830, 831, 847, 848, 849, 850, 851, 852, 842, 843, 844, 845, 846, 838, 839, 840, 841] (by decide +kernel) (by decide +kernel)
set_option maxRecDepth 20000 in
theorem gL_law_X8_plan : GoodIn wsL_law (wsV RL 66 RX8 yX8_plan wsX8_plan) := goodIn_app (goodIn_of _ (by decide +kernel)) ggL_law_X8_plan
set_option maxRecDepth 20000 in
theorem ggL_law_X9_plan : GoodIn wsL_law wsX9_plan := goodIn_r _ [556, 489, 490, 491, 5, 492, 270, 271, 272, 273, 201, 125, 126, 127, 493, 494, 495, 496, 96, 333, 334, 335, 336, 93, 94, 497, 498, 499, 500, 230, 501, 502, 503, 504, 505, 506, 507, 99, 98, 508, 509, 510, 511, 203, 101, 512, 513, 514, 515, 516, 95, 517, 518, 519, 520, 310, 311, 312, 521, 522, 523, 524, 350, 351, 352, 353, 525, 526, 527, 528, 529, 530, 531, 532, 533, 534, 535, 100, 536, 537, 538, 539, 540, 541, 542, 543, 544, 298, 299, 300, 301, 545, 546, 547, 548, 805, 806, 807, 808, 809, 810, 811, 812, 813, 814, 815, 816, 817, 818, 819, 820, 821, 822, 823, 824, 825, 826, 827] (by decide +kernel) (by decide +kernel)
set_option maxRecDepth 20000 in
theorem gL_law_X9_plan : GoodIn wsL_law (wsV RL 69 RX9 yX9_plan wsX9_plan) := goodIn_app (goodIn_of _ (by decide +kernel)) ggL_law_X9_plan
set_option maxRecDepth 20000 in
theorem ggL_law_X8_cost : GoodIn wsL_law wsX8_cost := goodIn_r _ [560, 561, 562, 563, 2, 564, 23, 193, 194, 195, 22, 196, 170, 362, 363, 364, 365, 19, 317, 318, 319, 320, 53, 54, 366, 367, 368, 18, 369, 48, 370, 371, 372, 373, 216, 374, 375, 376, 377, 378, 379, 380, 381, 382, 383, 384, 191, 31, 27, 35, 385, 386, 387, 388, 69, 389, 75, 72, 73, 74, 390, 391, 392, 393, 394, 395, 34, 396, 80, 397, 398, 399, 26, 400, 60, 61, 401, 402, 403, 404, 405, 406, 407, 408, 409, 410, 411, 412, 30, 413, 414, 415, 416, 417, 418, 419, 420, 421, 422, 423, 218, 219, 424, 425, 426, 427, 428, 342, 343, 344, 55, 345, 429, 213, 214, 215, 430, 259, 260, 261, 431, 432, 433, 434, 435, 62, 63, 436, 437, 438, 439, 440, 441, 442, 443, 444, 445, 446, 447, 448, 449, 450, 451, 452, 453, 454, 455, 456, 457, 458, 459, 460, 461, 565, 566, 567, 568, 569, 570, 571, 572, 573, 76, 574, 575, 576, 577, 578, 579, 484, 580, 581, 582, 583, 584, 585, 586, 796, 797, 798, 799, 800, 801, 802, 803, 804, 832, 833, 834, 835, 836, 837, 830, 831, 847, 848, 849, 850, 851, 852, 842, 843, 844, 845, 846, 838, 839, 840, 841] (by decide +kernel) (by decide +kernel)
set_option maxRecDepth 20000 in
theorem gL_law_X8_cost : GoodIn wsL_law (wsV RL 70 RX8 yX8_cost wsX8_cost) := goodIn_app (goodIn_of _ (by decide +kernel)) ggL_law_X8_cost
set_option maxRecDepth 20000 in
theorem ggL_law_X9_cost : GoodIn wsL_law wsX9_cost := goodIn_r _ [590, 125, 126, 5, 127, 591, 592, 593, 594, 201, 493, 494, 495, 496, 96, 333, 334, 335, 336, 93, 94, 497, 498, 499, 500, 230, 501, 502, 503, 595, 596, 597, 598, 599, 600, 601, 602, 504, 505, 506, 507, 99, 98, 508, 509, 510, 511, 203, 101, 512, 513, 514, 515, 516, 95, 517, 518, 519, 520, 310, 311, 312, 521, 522, 523, 524, 350, 351, 352, 353, 525, 526, 527, 528, 529, 530, 531, 532, 533, 534, 535, 100, 536, 537, 538, 539, 540, 541, 542, 543, 544, 298, 299, 300, 301, 545, 546, 547, 548, 603, 604, 605, 606, 607, 608, 609, 610, 805, 806, 807, 808, 809, 810, 811, 812, 813, 814, 815, 816, 817, 818, 819, 820, 821, 822, 823, 824, 825, 826, 827] (by decide +kernel) (by decide +kernel)
set_option maxRecDepth 20000 in
theorem gL_law_X9_cost : GoodIn wsL_law (wsV RL 73 RX9 yX9_cost wsX9_cost) := goodIn_app (goodIn_of _ (by decide +kernel)) ggL_law_X9_cost
set_option maxRecDepth 20000 in
theorem ggL_law_X8_mean : GoodIn wsL_law wsX8_mean := goodIn_r _ [614, 615, 561, 562, 563, 2, 564, 23, 193, 194, 195, 22, 196, 170, 362, 363, 364, 365, 19, 317, 318, 319, 320, 53, 54, 366, 367, 368, 18, 369, 48, 370, 371, 372, 373, 216, 374, 375, 376, 377, 378, 379, 380, 381, 382, 383, 384, 191, 31, 27, 35, 385, 386, 387, 388, 69, 389, 75, 72, 73, 74, 390, 391, 392, 393, 394, 395, 34, 396, 80, 397, 398, 399, 26, 400, 60, 61, 401, 402, 403, 404, 405, 406, 407, 408, 409, 410, 411, 412, 30, 413, 414, 415, 416, 417, 418, 419, 420, 421, 422, 423, 218, 219, 424, 425, 426, 427, 428, 342, 343, 344, 55, 345, 429, 213, 214, 215, 430, 259, 260, 261, 431, 432, 433, 434, 435, 62, 63, 436, 437, 438, 439, 440, 441, 442, 443, 444, 445, 446, 447, 448, 449, 450, 451, 452, 453, 454, 455, 456, 457, 458, 459, 460, 461, 616, 617, 618, 619, 569, 570, 571, 572, 573, 76, 574, 575, 620, 621, 622, 623, 624, 625, 796, 797, 798, 799, 800, 801, 802, 803, 804, 832, 833, 834, 835, 836, 837, 830, 831, 847, 848, 849, 850, 851, 852, 842, 843, 844, 845, 846, 838, 839, 840, 841] (by decide +kernel) (by decide +kernel)
set_option maxRecDepth 20000 in
theorem gL_law_X8_mean : GoodIn wsL_law (wsV RL 74 RX8 yX8_mean wsX8_mean) := goodIn_app (goodIn_of _ (by decide +kernel)) ggL_law_X8_mean
set_option maxRecDepth 20000 in
theorem ggL_law_X9_mean : GoodIn wsL_law wsX9_mean := goodIn_r _ [629, 630, 591, 592, 593, 5, 594, 201, 493, 494, 495, 496, 96, 333, 334, 335, 336, 93, 94, 497, 498, 499, 500, 230, 501, 502, 503, 631, 632, 633, 634, 599, 600, 601, 602, 504, 505, 506, 507, 99, 98, 508, 509, 510, 511, 203, 101, 512, 513, 514, 515, 516, 95, 517, 518, 519, 520, 310, 311, 312, 521, 522, 523, 524, 350, 351, 352, 353, 525, 526, 527, 528, 529, 530, 531, 532, 533, 534, 535, 100, 536, 537, 538, 539, 540, 541, 542, 543, 544, 298, 299, 300, 301, 545, 546, 547, 548, 635, 636, 637, 638, 639, 640, 641, 642, 643, 644, 645, 646, 805, 806, 807, 808, 809, 810, 811, 812, 813, 814, 815, 816, 817, 818, 819, 820, 821, 822, 823, 824, 825, 826, 827] (by decide +kernel) (by decide +kernel)
set_option maxRecDepth 20000 in
theorem gL_law_X9_mean : GoodIn wsL_law (wsV RL 78 RX9 yX9_mean wsX9_mean) := goodIn_app (goodIn_of _ (by decide +kernel)) ggL_law_X9_mean
set_option maxRecDepth 20000 in
theorem ggL_law_X8_ratio : GoodIn wsL_law wsX8_ratio := goodIn_r _ [650, 561, 562, 563, 2, 564, 23, 193, 194, 195, 22, 196, 170, 362, 363, 364, 365, 19, 317, 318, 319, 320, 53, 54, 366, 367, 368, 18, 369, 48, 370, 371, 372, 373, 216, 374, 375, 376, 377, 378, 379, 380, 381, 382, 383, 384, 191, 31, 27, 35, 385, 386, 387, 388, 69, 389, 75, 72, 73, 74, 390, 391, 392, 393, 394, 395, 34, 396, 80, 397, 398, 399, 26, 400, 60, 61, 401, 402, 403, 404, 405, 406, 407, 408, 409, 410, 411, 412, 30, 413, 414, 415, 416, 417, 418, 419, 420, 421, 422, 423, 218, 219, 424, 425, 426, 427, 428, 342, 343, 344, 55, 345, 429, 213, 214, 215, 430, 259, 260, 261, 431, 432, 433, 434, 435, 62, 63, 436, 437, 438, 439, 440, 441, 442, 443, 444, 445, 446, 447, 448, 449, 450, 451, 452, 453, 454, 455, 456, 457, 458, 459, 460, 461, 651, 652, 653, 654, 569, 570, 571, 572, 573, 76, 574, 575, 655, 656, 657, 658, 796, 797, 798, 799, 800, 801, 802, 803, 804, 832, 833, 834, 835, 836, 837, 830, 831, 847, 848, 849, 850, 851, 852, 842, 843, 844, 845, 846, 838, 839, 840, 841] (by decide +kernel) (by decide +kernel)
set_option maxRecDepth 20000 in
theorem gL_law_X8_ratio : GoodIn wsL_law (wsV RL 79 RX8 yX8_ratio wsX8_ratio) := goodIn_app (goodIn_of _ (by decide +kernel)) ggL_law_X8_ratio
set_option maxRecDepth 20000 in
theorem ggL_law_X9_ratio : GoodIn wsL_law wsX9_ratio := goodIn_r _ [662, 591, 592, 593, 5, 594, 201, 493, 494, 495, 496, 96, 333, 334, 335, 336, 93, 94, 497, 498, 499, 500, 230, 501, 502, 503, 663, 664, 665, 666, 599, 600, 601, 602, 504, 505, 506, 507, 99, 98, 508, 509, 510, 511, 203, 101, 512, 513, 514, 515, 516, 95, 517, 518, 519, 520, 310, 311, 312, 521, 522, 523, 524, 350, 351, 352, 353, 525, 526, 527, 528, 529, 530, 531, 532, 533, 534, 535, 100, 536, 537, 538, 539, 540, 541, 542, 543, 544, 298, 299, 300, 301, 545, 546, 547, 548, 603, 604, 605, 606, 667, 668, 669, 670, 671, 672, 673, 674, 675, 676, 677, 678, 805, 806, 807, 808, 809, 810, 811, 812, 813, 814, 815, 816, 817, 818, 819, 820, 821, 822, 823, 824, 825, 826, 827] (by decide +kernel) (by decide +kernel)
set_option maxRecDepth 20000 in
theorem gL_law_X9_ratio : GoodIn wsL_law (wsV RL 82 RX9 yX9_ratio wsX9_ratio) := goodIn_app (goodIn_of _ (by decide +kernel)) ggL_law_X9_ratio
set_option maxRecDepth 20000 in
theorem ggL_law_X8_pair : GoodIn wsL_law wsX8_pair := goodIn_r _ [682, 561, 562, 563, 2, 564, 23, 193, 194, 195, 22, 196, 170, 362, 363, 364, 365, 19, 317, 318, 319, 320, 53, 54, 366, 367, 368, 18, 369, 48, 370, 371, 372, 373, 216, 374, 375, 376, 377, 378, 379, 380, 683, 684, 685, 686, 192, 39, 687, 688, 689, 38, 690, 691, 87, 692, 86, 693, 433, 434, 26, 435, 62, 63, 61, 436, 437, 438, 439, 60, 440, 441, 442, 259, 260, 261, 55, 443, 444, 445, 446, 404, 405, 406, 407, 401, 402, 403, 447, 448, 449, 450, 451, 452, 453, 454, 455, 456, 457, 458, 459, 460, 461, 218, 219, 408, 409, 410, 694, 695, 283, 284, 285, 696, 697, 698, 699, 700, 701, 702, 703, 704, 705, 706, 707, 708, 709, 710, 711, 712, 713, 714, 715, 716, 717, 718, 719, 720, 721, 796, 797, 798, 799, 800, 801, 802, 803, 804, 832, 833, 834, 835, 836, 837, 830, 831, 853, 854, 855, 856, 857, 858, 838, 839, 840, 841] (by decide +kernel) (by decide +kernel)
set_option maxRecDepth 20000 in
theorem gL_law_X8_pair : GoodIn wsL_law (wsV RL 83 RX8 yX8_pair wsX8_pair) := goodIn_app (goodIn_of _ (by decide +kernel)) ggL_law_X8_pair
set_option maxRecDepth 20000 in
theorem ggL_law_X9_pair : GoodIn wsL_law wsX9_pair := goodIn_r _ [725, 125, 126, 5, 127, 591, 592, 593, 594, 201, 493, 494, 495, 496, 96, 333, 334, 335, 336, 93, 94, 497, 498, 499, 500, 230, 501, 502, 503, 726, 727, 728, 729, 529, 530, 531, 508, 509, 510, 511, 203, 101, 512, 513, 514, 515, 516, 98, 99, 95, 517, 518, 519, 520, 310, 311, 312, 521, 522, 523, 524, 350, 351, 352, 353, 525, 526, 527, 528, 532, 533, 534, 535, 100, 536, 537, 538, 539, 540, 541, 542, 543, 544, 298, 299, 300, 301, 545, 546, 547, 548, 805, 806, 807, 808, 809, 810, 811, 812, 813, 814, 815, 816, 817, 818, 819, 820, 821, 822, 823, 824, 825, 826, 827] (by decide +kernel) (by decide +kernel)
set_option maxRecDepth 20000 in
theorem gL_law_X9_pair : GoodIn wsL_law (wsV RL 86 RX9 yX9_pair wsX9_pair) := goodIn_app (goodIn_of _ (by decide +kernel)) ggL_law_X9_pair
set_option maxRecDepth 20000 in
theorem ggL_law_X8_better : GoodIn wsL_law wsX8_better := goodIn_r _ [733, 39, 561, 562, 563, 2, 564, 23, 193, 194, 195, 22, 196, 170, 362, 363, 364, 365, 19, 317, 318, 319, 320, 53, 54, 366, 367, 368, 18, 369, 48, 370, 371, 372, 373, 216, 374, 375, 376, 377, 378, 379, 380, 683, 684, 685, 686, 192, 687, 688, 689, 38, 690, 691, 87, 692, 86, 693, 433, 434, 26, 435, 62, 63, 61, 436, 437, 438, 439, 60, 440, 441, 442, 259, 260, 261, 55, 443, 444, 445, 446, 404, 405, 406, 407, 401, 402, 403, 447, 448, 449, 450, 451, 452, 453, 454, 455, 456, 457, 458, 459, 460, 461, 218, 219, 408, 409, 410, 694, 695, 283, 284, 285, 696, 697, 698, 699, 700, 701, 706, 707, 708, 709, 710, 711, 712, 713, 714, 715, 716, 717, 278, 279, 280, 281, 282, 286, 287, 288, 289, 181, 187, 188, 189, 190, 191, 718, 719, 720, 721, 796, 797, 798, 799, 800, 801, 802, 803, 804, 832, 833, 834, 835, 836, 837, 830, 831, 853, 854, 855, 856, 857, 858, 838, 839, 840, 841] (by decide +kernel) (by decide +kernel)
set_option maxRecDepth 20000 in
theorem gL_law_X8_better : GoodIn wsL_law (wsV RL 87 RX8 yX8_better wsX8_better) := goodIn_app (goodIn_of _ (by decide +kernel)) ggL_law_X8_better
set_option maxRecDepth 20000 in
theorem ggL_law_X9_better : GoodIn wsL_law wsX9_better := goodIn_r _ [737, 529, 530, 202, 203, 591, 592, 593, 5, 594, 201, 493, 494, 495, 496, 96, 333, 334, 335, 336, 93, 94, 497, 498, 499, 500, 230, 501, 502, 503, 726, 727, 728, 729, 531, 508, 509, 510, 511, 101, 512, 513, 514, 515, 516, 98, 99, 95, 517, 518, 519, 520, 310, 311, 312, 521, 522, 523, 524, 350, 351, 352, 353, 525, 526, 527, 528, 532, 533, 534, 535, 100, 536, 537, 538, 539, 540, 541, 542, 543, 544, 298, 299, 300, 301, 545, 546, 547, 548, 805, 806, 807, 808, 809, 810, 811, 812, 813, 814, 815, 816, 817, 818, 819, 820, 821, 822, 823, 824, 825, 826, 827] (by decide +kernel) (by decide +kernel)
set_option maxRecDepth 20000 in
theorem gL_law_X9_better : GoodIn wsL_law (wsV RL 90 RX9 yX9_better wsX9_better) := goodIn_app (goodIn_of _ (by decide +kernel)) ggL_law_X9_better
set_option maxRecDepth 20000 in
theorem ggL_law_X8_count : GoodIn wsL_law wsX8_count := goodIn_r _ [741, 23, 15, 19, 193, 194, 195, 22, 196, 170, 116, 117, 118, 14, 119, 110, 238, 239, 240, 18, 241, 48, 212, 213, 214, 215, 216, 742, 743, 744, 745, 55, 746, 375, 376, 377, 378, 379, 380, 290, 291, 292, 293, 181, 747, 748, 749, 750, 171, 362, 363, 364, 2, 365, 317, 318, 319, 320, 53, 54, 366, 367, 368, 369, 370, 371, 372, 373, 374, 796, 797, 798, 799, 800, 801, 802, 803, 804, 832, 833, 834, 835, 836, 837, 828, 829, 830, 831] (by decide +kernel) (by decide +kernel)
set_option maxRecDepth 20000 in
theorem gL_law_X8_count : GoodIn wsL_law (wsV RL 91 RX8 yX8_count wsX8_count) := goodIn_app (goodIn_of _ (by decide +kernel)) ggL_law_X8_count
set_option maxRecDepth 20000 in
theorem ggL_law_X9_count : GoodIn wsL_law wsX9_count := goodIn_r _ [754, 755, 756, 757, 5, 758, 201, 124, 96, 230, 202, 204, 759, 760, 761, 762, 95, 501, 502, 503, 493, 494, 495, 496, 333, 334, 335, 336, 93, 94, 497, 498, 499, 500, 805, 806, 807, 808, 809, 810, 811, 812, 813, 814, 815, 816, 817, 818, 819, 820, 821, 822, 823, 824, 825, 826, 827] (by decide +kernel) (by decide +kernel)
set_option maxRecDepth 20000 in
theorem gL_law_X9_count : GoodIn wsL_law (wsV RL 94 RX9 yX9_count wsX9_count) := goodIn_app (goodIn_of _ (by decide +kernel)) ggL_law_X9_count
set_option maxRecDepth 20000 in
theorem ggL_law_X8_digest : GoodIn wsL_law wsX8_digest := goodIn_r _ [766, 767, 15, 768, 769, 770, 771, 2, 772, 23, 193, 194, 195, 22, 196, 170, 773, 314, 315, 316, 254, 255, 256, 257, 317, 318, 319, 320, 53, 54, 321, 322, 323, 324, 258, 259, 260, 261, 55, 774, 338, 339, 340, 209, 210, 211, 341, 342, 343, 344, 218, 219, 345, 561, 562, 563, 564, 362, 363, 364, 365, 19, 366, 367, 368, 18, 369, 48, 370, 371, 372, 373, 216, 374, 375, 376, 377, 378, 379, 380, 381, 382, 383, 384, 191, 31, 27, 35, 385, 386, 387, 388, 69, 389, 75, 72, 73, 74, 390, 391, 392, 393, 394, 395, 34, 396, 80, 397, 398, 399, 26, 400, 60, 61, 401, 402, 403, 404, 405, 406, 407, 408, 409, 410, 411, 412, 30, 413, 414, 415, 416, 417, 418, 419, 420, 421, 422, 423, 424, 425, 426, 427, 428, 429, 213, 214, 215, 430, 431, 432, 433, 434, 435, 62, 63, 436, 437, 438, 439, 440, 441, 442, 443, 444, 445, 446, 447, 448, 449, 450, 451, 452, 453, 454, 455, 456, 457, 458, 459, 460, 461, 683, 684, 685, 686, 192, 39, 687, 688, 689, 38, 690, 691, 87, 692, 86, 693, 694, 695, 283, 284, 285, 696, 697, 698, 699, 700, 701, 775, 776, 777, 778, 462, 463, 464, 465, 466, 467, 468, 469, 470, 471, 472, 473, 474, 475, 476, 477, 478, 479, 480, 481, 482, 483, 484, 565, 566, 567, 568, 569, 570, 571, 572, 573, 76, 574, 575, 576, 577, 578, 579, 580, 581, 582, 583, 584, 585, 586, 616, 617, 618, 619, 620, 621, 622, 623, 624, 625, 651, 652, 653, 654, 655, 656, 657, 658, 702, 703, 704, 705, 706, 707, 708, 709, 710, 711, 712, 713, 714, 715, 716, 717, 718, 719, 720, 721, 116, 117, 118, 14, 119, 110, 779, 184, 185, 186, 44, 780, 739, 740, 741, 238, 239, 240, 241, 212, 742, 743, 744, 745, 746, 290, 291, 292, 293, 181, 747, 748, 749, 750, 171, 796, 797, 798, 799, 800, 801, 802, 803, 804, 832, 833, 834, 835, 836, 837, 830, 831, 847, 848, 849, 850, 851, 852, 842, 843, 844, 845, 846, 838, 839, 840, 841, 853, 854, 855, 856, 857, 858, 828, 829] (by decide +kernel) (by decide +kernel)
set_option maxRecDepth 20000 in
theorem gL_law_X8_digest : GoodIn wsL_law (wsV RL 95 RX8 yX8_digest wsX8_digest) := goodIn_app (goodIn_of _ (by decide +kernel)) ggL_law_X8_digest
set_option maxRecDepth 20000 in
theorem ggL_law_X9_digest : GoodIn wsL_law wsX9_digest := goodIn_r _ [784, 785, 786, 201, 124, 92, 329, 330, 331, 5, 332, 94, 95, 333, 334, 335, 336, 93, 787, 788, 789, 790, 791, 350, 351, 352, 353, 310, 311, 312, 591, 592, 593, 594, 493, 494, 495, 496, 96, 497, 498, 499, 500, 230, 501, 502, 503, 792, 793, 794, 795, 504, 505, 506, 507, 99, 98, 508, 509, 510, 511, 203, 101, 512, 513, 514, 515, 516, 517, 518, 519, 520, 521, 522, 523, 524, 525, 526, 527, 528, 529, 530, 531, 532, 533, 534, 535, 100, 536, 537, 538, 539, 540, 541, 542, 543, 544, 298, 299, 300, 301, 545, 546, 547, 548, 595, 596, 597, 598, 599, 600, 601, 602, 603, 604, 605, 606, 607, 608, 609, 610, 631, 632, 633, 634, 635, 636, 637, 638, 639, 640, 641, 642, 643, 644, 645, 646, 663, 664, 665, 666, 667, 668, 669, 670, 671, 672, 673, 674, 675, 676, 677, 678, 726, 727, 728, 729, 755, 756, 757, 758, 202, 204, 759, 760, 761, 762, 805, 806, 807, 808, 809, 810, 811, 812, 813, 814, 815, 816, 817, 818, 819, 820, 821, 822, 823, 824, 825, 826, 827] (by decide +kernel) (by decide +kernel)
set_option maxRecDepth 20000 in
theorem gL_law_X9_digest : GoodIn wsL_law (wsV RL 98 RX9 yX9_digest wsX9_digest) := goodIn_app (goodIn_of _ (by decide +kernel)) ggL_law_X9_digest
theorem dL_law_0 : decode cL_law 0 = .ok (.new 7, 3) := by decide +kernel
theorem dL_law_3 : decode cL_law 3 = .ok (.dup, 1) := by decide +kernel
theorem dL_law_4 : decode cL_law 4 = .ok (.invokespecial 9, 3) := by decide +kernel
theorem dL_law_7 : decode cL_law 7 = .ok (.astore_n 1, 1) := by decide +kernel
theorem dL_law_8 : decode cL_law 8 = .ok (.new 10, 3) := by decide +kernel
theorem dL_law_11 : decode cL_law 11 = .ok (.dup, 1) := by decide +kernel
theorem dL_law_12 : decode cL_law 12 = .ok (.invokespecial 12, 3) := by decide +kernel
theorem dL_law_15 : decode cL_law 15 = .ok (.astore_n 2, 1) := by decide +kernel
theorem dL_law_16 : decode cL_law 16 = .ok (.iconst 0, 1) := by decide +kernel
theorem dL_law_17 : decode cL_law 17 = .ok (.istore_n 3, 1) := by decide +kernel
theorem dL_law_18 : decode cL_law 18 = .ok (.iload_n 3, 1) := by decide +kernel
theorem dL_law_19 : decode cL_law 19 = .ok (.aload_n 0, 1) := by decide +kernel
theorem dL_law_20 : decode cL_law 20 = .ok (.arraylength, 1) := by decide +kernel
theorem dL_law_21 : decode cL_law 21 = .ok (.iconst 4, 1) := by decide +kernel
theorem dL_law_22 : decode cL_law 22 = .ok (.isub, 1) := by decide +kernel
theorem dL_law_23 : decode cL_law 23 = .ok (.if_icmp .gt 625, 3) := by decide +kernel
theorem dL_law_26 : decode cL_law 26 = .ok (.aload_n 0, 1) := by decide +kernel
theorem dL_law_27 : decode cL_law 27 = .ok (.iload_n 3, 1) := by decide +kernel
theorem dL_law_28 : decode cL_law 28 = .ok (.iaload, 1) := by decide +kernel
theorem dL_law_29 : decode cL_law 29 = .ok (.bipush 31, 2) := by decide +kernel
theorem dL_law_31 : decode cL_law 31 = .ok (.iand, 1) := by decide +kernel
theorem dL_law_32 : decode cL_law 32 = .ok (.tableswitch 610 0 19 #[96, 119, 132, 145, 158, 207, 230, 289, 322, 355, 388, 421, 454, 487, 510, 524, 537, 560, 573, 596], 96) := by decide +kernel
theorem dL_law_128 : decode cL_law 128 = .ok (.aload_n 1, 1) := by decide +kernel
theorem dL_law_129 : decode cL_law 129 = .ok (.aload_n 0, 1) := by decide +kernel
theorem dL_law_130 : decode cL_law 130 = .ok (.iload_n 3, 1) := by decide +kernel
theorem dL_law_131 : decode cL_law 131 = .ok (.iconst 1, 1) := by decide +kernel
theorem dL_law_132 : decode cL_law 132 = .ok (.iadd, 1) := by decide +kernel
theorem dL_law_133 : decode cL_law 133 = .ok (.iaload, 1) := by decide +kernel
theorem dL_law_134 : decode cL_law 134 = .ok (.invokevirtual 13, 3) := by decide +kernel
theorem dL_law_137 : decode cL_law 137 = .ok (.aload_n 2, 1) := by decide +kernel
theorem dL_law_138 : decode cL_law 138 = .ok (.aload_n 0, 1) := by decide +kernel
theorem dL_law_139 : decode cL_law 139 = .ok (.iload_n 3, 1) := by decide +kernel
theorem dL_law_140 : decode cL_law 140 = .ok (.iconst 1, 1) := by decide +kernel
theorem dL_law_141 : decode cL_law 141 = .ok (.iadd, 1) := by decide +kernel
theorem dL_law_142 : decode cL_law 142 = .ok (.iaload, 1) := by decide +kernel
theorem dL_law_143 : decode cL_law 143 = .ok (.invokevirtual 17, 3) := by decide +kernel
theorem dL_law_146 : decode cL_law 146 = .ok (.if_icmp .eq 496, 3) := by decide +kernel
theorem dL_law_149 : decode cL_law 149 = .ok (.iconst 0, 1) := by decide +kernel
theorem dL_law_150 : decode cL_law 150 = .ok (.ireturn, 1) := by decide +kernel
theorem dL_law_151 : decode cL_law 151 = .ok (.aload_n 1, 1) := by decide +kernel
theorem dL_law_152 : decode cL_law 152 = .ok (.invokevirtual 18, 3) := by decide +kernel
theorem dL_law_155 : decode cL_law 155 = .ok (.aload_n 2, 1) := by decide +kernel
theorem dL_law_156 : decode cL_law 156 = .ok (.invokevirtual 22, 3) := by decide +kernel
theorem dL_law_159 : decode cL_law 159 = .ok (.if_icmp .eq 483, 3) := by decide +kernel
theorem dL_law_162 : decode cL_law 162 = .ok (.iconst 0, 1) := by decide +kernel
theorem dL_law_163 : decode cL_law 163 = .ok (.ireturn, 1) := by decide +kernel
theorem dL_law_164 : decode cL_law 164 = .ok (.aload_n 1, 1) := by decide +kernel
theorem dL_law_165 : decode cL_law 165 = .ok (.invokevirtual 23, 3) := by decide +kernel
theorem dL_law_168 : decode cL_law 168 = .ok (.aload_n 2, 1) := by decide +kernel
theorem dL_law_169 : decode cL_law 169 = .ok (.invokevirtual 26, 3) := by decide +kernel
theorem dL_law_172 : decode cL_law 172 = .ok (.if_icmp .eq 470, 3) := by decide +kernel
theorem dL_law_175 : decode cL_law 175 = .ok (.iconst 0, 1) := by decide +kernel
theorem dL_law_176 : decode cL_law 176 = .ok (.ireturn, 1) := by decide +kernel
theorem dL_law_177 : decode cL_law 177 = .ok (.aload_n 1, 1) := by decide +kernel
theorem dL_law_178 : decode cL_law 178 = .ok (.invokevirtual 27, 3) := by decide +kernel
theorem dL_law_181 : decode cL_law 181 = .ok (.aload_n 2, 1) := by decide +kernel
theorem dL_law_182 : decode cL_law 182 = .ok (.invokevirtual 30, 3) := by decide +kernel
theorem dL_law_185 : decode cL_law 185 = .ok (.if_icmp .eq 457, 3) := by decide +kernel
theorem dL_law_188 : decode cL_law 188 = .ok (.iconst 0, 1) := by decide +kernel
theorem dL_law_189 : decode cL_law 189 = .ok (.ireturn, 1) := by decide +kernel
theorem dL_law_190 : decode cL_law 190 = .ok (.aload_n 1, 1) := by decide +kernel
theorem dL_law_191 : decode cL_law 191 = .ok (.aload_n 0, 1) := by decide +kernel
theorem dL_law_192 : decode cL_law 192 = .ok (.iload_n 3, 1) := by decide +kernel
theorem dL_law_193 : decode cL_law 193 = .ok (.iconst 1, 1) := by decide +kernel
theorem dL_law_194 : decode cL_law 194 = .ok (.iadd, 1) := by decide +kernel
theorem dL_law_195 : decode cL_law 195 = .ok (.iaload, 1) := by decide +kernel
theorem dL_law_196 : decode cL_law 196 = .ok (.aload_n 0, 1) := by decide +kernel
theorem dL_law_197 : decode cL_law 197 = .ok (.iload_n 3, 1) := by decide +kernel
theorem dL_law_198 : decode cL_law 198 = .ok (.iconst 2, 1) := by decide +kernel
theorem dL_law_199 : decode cL_law 199 = .ok (.iadd, 1) := by decide +kernel
theorem dL_law_200 : decode cL_law 200 = .ok (.iaload, 1) := by decide +kernel
theorem dL_law_201 : decode cL_law 201 = .ok (.ifCond .eq 7, 3) := by decide +kernel
theorem dL_law_204 : decode cL_law 204 = .ok (.iconst 1, 1) := by decide +kernel
theorem dL_law_205 : decode cL_law 205 = .ok (.goto 4, 3) := by decide +kernel
theorem dL_law_208 : decode cL_law 208 = .ok (.iconst 0, 1) := by decide +kernel
theorem dL_law_209 : decode cL_law 209 = .ok (.invokevirtual 31, 3) := by decide +kernel
theorem dL_law_212 : decode cL_law 212 = .ok (.aload_n 2, 1) := by decide +kernel
theorem dL_law_213 : decode cL_law 213 = .ok (.aload_n 0, 1) := by decide +kernel
theorem dL_law_214 : decode cL_law 214 = .ok (.iload_n 3, 1) := by decide +kernel
theorem dL_law_215 : decode cL_law 215 = .ok (.iconst 1, 1) := by decide +kernel
theorem dL_law_216 : decode cL_law 216 = .ok (.iadd, 1) := by decide +kernel
theorem dL_law_217 : decode cL_law 217 = .ok (.iaload, 1) := by decide +kernel
theorem dL_law_218 : decode cL_law 218 = .ok (.aload_n 0, 1) := by decide +kernel
theorem dL_law_219 : decode cL_law 219 = .ok (.iload_n 3, 1) := by decide +kernel
theorem dL_law_220 : decode cL_law 220 = .ok (.iconst 2, 1) := by decide +kernel
theorem dL_law_221 : decode cL_law 221 = .ok (.iadd, 1) := by decide +kernel
theorem dL_law_222 : decode cL_law 222 = .ok (.iaload, 1) := by decide +kernel
theorem dL_law_223 : decode cL_law 223 = .ok (.ifCond .eq 7, 3) := by decide +kernel
theorem dL_law_226 : decode cL_law 226 = .ok (.iconst 1, 1) := by decide +kernel
theorem dL_law_227 : decode cL_law 227 = .ok (.goto 4, 3) := by decide +kernel
theorem dL_law_230 : decode cL_law 230 = .ok (.iconst 0, 1) := by decide +kernel
theorem dL_law_231 : decode cL_law 231 = .ok (.invokevirtual 35, 3) := by decide +kernel
theorem dL_law_234 : decode cL_law 234 = .ok (.if_icmp .eq 408, 3) := by decide +kernel
theorem dL_law_237 : decode cL_law 237 = .ok (.iconst 0, 1) := by decide +kernel
theorem dL_law_238 : decode cL_law 238 = .ok (.ireturn, 1) := by decide +kernel
theorem dL_law_239 : decode cL_law 239 = .ok (.aload_n 1, 1) := by decide +kernel
theorem dL_law_240 : decode cL_law 240 = .ok (.aload_n 0, 1) := by decide +kernel
theorem dL_law_241 : decode cL_law 241 = .ok (.iload_n 3, 1) := by decide +kernel
theorem dL_law_242 : decode cL_law 242 = .ok (.iconst 1, 1) := by decide +kernel
theorem dL_law_243 : decode cL_law 243 = .ok (.iadd, 1) := by decide +kernel
theorem dL_law_244 : decode cL_law 244 = .ok (.iaload, 1) := by decide +kernel
theorem dL_law_245 : decode cL_law 245 = .ok (.invokevirtual 36, 3) := by decide +kernel
theorem dL_law_248 : decode cL_law 248 = .ok (.aload_n 2, 1) := by decide +kernel
theorem dL_law_249 : decode cL_law 249 = .ok (.aload_n 0, 1) := by decide +kernel
theorem dL_law_250 : decode cL_law 250 = .ok (.iload_n 3, 1) := by decide +kernel
theorem dL_law_251 : decode cL_law 251 = .ok (.iconst 1, 1) := by decide +kernel
theorem dL_law_252 : decode cL_law 252 = .ok (.iadd, 1) := by decide +kernel
theorem dL_law_253 : decode cL_law 253 = .ok (.iaload, 1) := by decide +kernel
theorem dL_law_254 : decode cL_law 254 = .ok (.invokevirtual 39, 3) := by decide +kernel
theorem dL_law_257 : decode cL_law 257 = .ok (.if_icmp .eq 385, 3) := by decide +kernel
theorem dL_law_260 : decode cL_law 260 = .ok (.iconst 0, 1) := by decide +kernel
theorem dL_law_261 : decode cL_law 261 = .ok (.ireturn, 1) := by decide +kernel
theorem dL_law_262 : decode cL_law 262 = .ok (.aload_n 1, 1) := by decide +kernel
theorem dL_law_263 : decode cL_law 263 = .ok (.aload_n 0, 1) := by decide +kernel
theorem dL_law_264 : decode cL_law 264 = .ok (.iload_n 3, 1) := by decide +kernel
theorem dL_law_265 : decode cL_law 265 = .ok (.iconst 1, 1) := by decide +kernel
theorem dL_law_266 : decode cL_law 266 = .ok (.iadd, 1) := by decide +kernel
theorem dL_law_267 : decode cL_law 267 = .ok (.iaload, 1) := by decide +kernel
theorem dL_law_268 : decode cL_law 268 = .ok (.aload_n 0, 1) := by decide +kernel
theorem dL_law_269 : decode cL_law 269 = .ok (.iload_n 3, 1) := by decide +kernel
theorem dL_law_270 : decode cL_law 270 = .ok (.iconst 2, 1) := by decide +kernel
theorem dL_law_271 : decode cL_law 271 = .ok (.iadd, 1) := by decide +kernel
theorem dL_law_272 : decode cL_law 272 = .ok (.iaload, 1) := by decide +kernel
theorem dL_law_273 : decode cL_law 273 = .ok (.aload_n 0, 1) := by decide +kernel
theorem dL_law_274 : decode cL_law 274 = .ok (.iload_n 3, 1) := by decide +kernel
theorem dL_law_275 : decode cL_law 275 = .ok (.iconst 3, 1) := by decide +kernel
theorem dL_law_276 : decode cL_law 276 = .ok (.iadd, 1) := by decide +kernel
theorem dL_law_277 : decode cL_law 277 = .ok (.iaload, 1) := by decide +kernel
theorem dL_law_278 : decode cL_law 278 = .ok (.ifCond .eq 7, 3) := by decide +kernel
theorem dL_law_281 : decode cL_law 281 = .ok (.iconst 1, 1) := by decide +kernel
theorem dL_law_282 : decode cL_law 282 = .ok (.goto 4, 3) := by decide +kernel
theorem dL_law_285 : decode cL_law 285 = .ok (.iconst 0, 1) := by decide +kernel
theorem dL_law_286 : decode cL_law 286 = .ok (.invokevirtual 40, 3) := by decide +kernel
theorem dL_law_289 : decode cL_law 289 = .ok (.aload_n 2, 1) := by decide +kernel
theorem dL_law_290 : decode cL_law 290 = .ok (.aload_n 0, 1) := by decide +kernel
theorem dL_law_291 : decode cL_law 291 = .ok (.iload_n 3, 1) := by decide +kernel
theorem dL_law_292 : decode cL_law 292 = .ok (.iconst 1, 1) := by decide +kernel
theorem dL_law_293 : decode cL_law 293 = .ok (.iadd, 1) := by decide +kernel
theorem dL_law_294 : decode cL_law 294 = .ok (.iaload, 1) := by decide +kernel
theorem dL_law_295 : decode cL_law 295 = .ok (.aload_n 0, 1) := by decide +kernel
theorem dL_law_296 : decode cL_law 296 = .ok (.iload_n 3, 1) := by decide +kernel
theorem dL_law_297 : decode cL_law 297 = .ok (.iconst 2, 1) := by decide +kernel
theorem dL_law_298 : decode cL_law 298 = .ok (.iadd, 1) := by decide +kernel
theorem dL_law_299 : decode cL_law 299 = .ok (.iaload, 1) := by decide +kernel
theorem dL_law_300 : decode cL_law 300 = .ok (.aload_n 0, 1) := by decide +kernel
theorem dL_law_301 : decode cL_law 301 = .ok (.iload_n 3, 1) := by decide +kernel
theorem dL_law_302 : decode cL_law 302 = .ok (.iconst 3, 1) := by decide +kernel
theorem dL_law_303 : decode cL_law 303 = .ok (.iadd, 1) := by decide +kernel
theorem dL_law_304 : decode cL_law 304 = .ok (.iaload, 1) := by decide +kernel
theorem dL_law_305 : decode cL_law 305 = .ok (.ifCond .eq 7, 3) := by decide +kernel
theorem dL_law_308 : decode cL_law 308 = .ok (.iconst 1, 1) := by decide +kernel
theorem dL_law_309 : decode cL_law 309 = .ok (.goto 4, 3) := by decide +kernel
theorem dL_law_312 : decode cL_law 312 = .ok (.iconst 0, 1) := by decide +kernel
theorem dL_law_313 : decode cL_law 313 = .ok (.invokevirtual 44, 3) := by decide +kernel
theorem dL_law_316 : decode cL_law 316 = .ok (.if_icmp .eq 326, 3) := by decide +kernel
theorem dL_law_319 : decode cL_law 319 = .ok (.iconst 0, 1) := by decide +kernel
theorem dL_law_320 : decode cL_law 320 = .ok (.ireturn, 1) := by decide +kernel
theorem dL_law_321 : decode cL_law 321 = .ok (.aload_n 1, 1) := by decide +kernel
theorem dL_law_322 : decode cL_law 322 = .ok (.aload_n 0, 1) := by decide +kernel
theorem dL_law_323 : decode cL_law 323 = .ok (.iload_n 3, 1) := by decide +kernel
theorem dL_law_324 : decode cL_law 324 = .ok (.iconst 1, 1) := by decide +kernel
theorem dL_law_325 : decode cL_law 325 = .ok (.iadd, 1) := by decide +kernel
theorem dL_law_326 : decode cL_law 326 = .ok (.iaload, 1) := by decide +kernel
theorem dL_law_327 : decode cL_law 327 = .ok (.aload_n 0, 1) := by decide +kernel
theorem dL_law_328 : decode cL_law 328 = .ok (.iload_n 3, 1) := by decide +kernel
theorem dL_law_329 : decode cL_law 329 = .ok (.iconst 2, 1) := by decide +kernel
theorem dL_law_330 : decode cL_law 330 = .ok (.iadd, 1) := by decide +kernel
theorem dL_law_331 : decode cL_law 331 = .ok (.iaload, 1) := by decide +kernel
theorem dL_law_332 : decode cL_law 332 = .ok (.invokevirtual 45, 3) := by decide +kernel
theorem dL_law_335 : decode cL_law 335 = .ok (.aload_n 2, 1) := by decide +kernel
theorem dL_law_336 : decode cL_law 336 = .ok (.aload_n 0, 1) := by decide +kernel
theorem dL_law_337 : decode cL_law 337 = .ok (.iload_n 3, 1) := by decide +kernel
theorem dL_law_338 : decode cL_law 338 = .ok (.iconst 1, 1) := by decide +kernel
theorem dL_law_339 : decode cL_law 339 = .ok (.iadd, 1) := by decide +kernel
theorem dL_law_340 : decode cL_law 340 = .ok (.iaload, 1) := by decide +kernel
theorem dL_law_341 : decode cL_law 341 = .ok (.aload_n 0, 1) := by decide +kernel
theorem dL_law_342 : decode cL_law 342 = .ok (.iload_n 3, 1) := by decide +kernel
theorem dL_law_343 : decode cL_law 343 = .ok (.iconst 2, 1) := by decide +kernel
theorem dL_law_344 : decode cL_law 344 = .ok (.iadd, 1) := by decide +kernel
theorem dL_law_345 : decode cL_law 345 = .ok (.iaload, 1) := by decide +kernel
theorem dL_law_346 : decode cL_law 346 = .ok (.invokevirtual 49, 3) := by decide +kernel
theorem dL_law_349 : decode cL_law 349 = .ok (.if_icmp .eq 293, 3) := by decide +kernel
theorem dL_law_352 : decode cL_law 352 = .ok (.iconst 0, 1) := by decide +kernel
theorem dL_law_353 : decode cL_law 353 = .ok (.ireturn, 1) := by decide +kernel
theorem dL_law_354 : decode cL_law 354 = .ok (.aload_n 1, 1) := by decide +kernel
theorem dL_law_355 : decode cL_law 355 = .ok (.aload_n 0, 1) := by decide +kernel
theorem dL_law_356 : decode cL_law 356 = .ok (.iload_n 3, 1) := by decide +kernel
theorem dL_law_357 : decode cL_law 357 = .ok (.iconst 1, 1) := by decide +kernel
theorem dL_law_358 : decode cL_law 358 = .ok (.iadd, 1) := by decide +kernel
theorem dL_law_359 : decode cL_law 359 = .ok (.iaload, 1) := by decide +kernel
theorem dL_law_360 : decode cL_law 360 = .ok (.aload_n 0, 1) := by decide +kernel
theorem dL_law_361 : decode cL_law 361 = .ok (.iload_n 3, 1) := by decide +kernel
theorem dL_law_362 : decode cL_law 362 = .ok (.iconst 2, 1) := by decide +kernel
theorem dL_law_363 : decode cL_law 363 = .ok (.iadd, 1) := by decide +kernel
theorem dL_law_364 : decode cL_law 364 = .ok (.iaload, 1) := by decide +kernel
theorem dL_law_365 : decode cL_law 365 = .ok (.invokevirtual 50, 3) := by decide +kernel
theorem dL_law_368 : decode cL_law 368 = .ok (.aload_n 2, 1) := by decide +kernel
theorem dL_law_369 : decode cL_law 369 = .ok (.aload_n 0, 1) := by decide +kernel
theorem dL_law_370 : decode cL_law 370 = .ok (.iload_n 3, 1) := by decide +kernel
theorem dL_law_371 : decode cL_law 371 = .ok (.iconst 1, 1) := by decide +kernel
theorem dL_law_372 : decode cL_law 372 = .ok (.iadd, 1) := by decide +kernel
theorem dL_law_373 : decode cL_law 373 = .ok (.iaload, 1) := by decide +kernel
theorem dL_law_374 : decode cL_law 374 = .ok (.aload_n 0, 1) := by decide +kernel
theorem dL_law_375 : decode cL_law 375 = .ok (.iload_n 3, 1) := by decide +kernel
theorem dL_law_376 : decode cL_law 376 = .ok (.iconst 2, 1) := by decide +kernel
theorem dL_law_377 : decode cL_law 377 = .ok (.iadd, 1) := by decide +kernel
theorem dL_law_378 : decode cL_law 378 = .ok (.iaload, 1) := by decide +kernel
theorem dL_law_379 : decode cL_law 379 = .ok (.invokevirtual 53, 3) := by decide +kernel
theorem dL_law_382 : decode cL_law 382 = .ok (.if_icmp .eq 260, 3) := by decide +kernel
theorem dL_law_385 : decode cL_law 385 = .ok (.iconst 0, 1) := by decide +kernel
theorem dL_law_386 : decode cL_law 386 = .ok (.ireturn, 1) := by decide +kernel
theorem dL_law_387 : decode cL_law 387 = .ok (.aload_n 1, 1) := by decide +kernel
theorem dL_law_388 : decode cL_law 388 = .ok (.aload_n 0, 1) := by decide +kernel
theorem dL_law_389 : decode cL_law 389 = .ok (.iload_n 3, 1) := by decide +kernel
theorem dL_law_390 : decode cL_law 390 = .ok (.iconst 1, 1) := by decide +kernel
theorem dL_law_391 : decode cL_law 391 = .ok (.iadd, 1) := by decide +kernel
theorem dL_law_392 : decode cL_law 392 = .ok (.iaload, 1) := by decide +kernel
theorem dL_law_393 : decode cL_law 393 = .ok (.aload_n 0, 1) := by decide +kernel
theorem dL_law_394 : decode cL_law 394 = .ok (.iload_n 3, 1) := by decide +kernel
theorem dL_law_395 : decode cL_law 395 = .ok (.iconst 2, 1) := by decide +kernel
theorem dL_law_396 : decode cL_law 396 = .ok (.iadd, 1) := by decide +kernel
theorem dL_law_397 : decode cL_law 397 = .ok (.iaload, 1) := by decide +kernel
theorem dL_law_398 : decode cL_law 398 = .ok (.invokevirtual 54, 3) := by decide +kernel
theorem dL_law_401 : decode cL_law 401 = .ok (.aload_n 2, 1) := by decide +kernel
theorem dL_law_402 : decode cL_law 402 = .ok (.aload_n 0, 1) := by decide +kernel
theorem dL_law_403 : decode cL_law 403 = .ok (.iload_n 3, 1) := by decide +kernel
theorem dL_law_404 : decode cL_law 404 = .ok (.iconst 1, 1) := by decide +kernel
theorem dL_law_405 : decode cL_law 405 = .ok (.iadd, 1) := by decide +kernel
theorem dL_law_406 : decode cL_law 406 = .ok (.iaload, 1) := by decide +kernel
theorem dL_law_407 : decode cL_law 407 = .ok (.aload_n 0, 1) := by decide +kernel
theorem dL_law_408 : decode cL_law 408 = .ok (.iload_n 3, 1) := by decide +kernel
theorem dL_law_409 : decode cL_law 409 = .ok (.iconst 2, 1) := by decide +kernel
theorem dL_law_410 : decode cL_law 410 = .ok (.iadd, 1) := by decide +kernel
theorem dL_law_411 : decode cL_law 411 = .ok (.iaload, 1) := by decide +kernel
theorem dL_law_412 : decode cL_law 412 = .ok (.invokevirtual 57, 3) := by decide +kernel
theorem dL_law_415 : decode cL_law 415 = .ok (.if_icmp .eq 227, 3) := by decide +kernel
theorem dL_law_418 : decode cL_law 418 = .ok (.iconst 0, 1) := by decide +kernel
theorem dL_law_419 : decode cL_law 419 = .ok (.ireturn, 1) := by decide +kernel
theorem dL_law_420 : decode cL_law 420 = .ok (.aload_n 1, 1) := by decide +kernel
theorem dL_law_421 : decode cL_law 421 = .ok (.aload_n 0, 1) := by decide +kernel
theorem dL_law_422 : decode cL_law 422 = .ok (.iload_n 3, 1) := by decide +kernel
theorem dL_law_423 : decode cL_law 423 = .ok (.iconst 1, 1) := by decide +kernel
theorem dL_law_424 : decode cL_law 424 = .ok (.iadd, 1) := by decide +kernel
theorem dL_law_425 : decode cL_law 425 = .ok (.iaload, 1) := by decide +kernel
theorem dL_law_426 : decode cL_law 426 = .ok (.aload_n 0, 1) := by decide +kernel
theorem dL_law_427 : decode cL_law 427 = .ok (.iload_n 3, 1) := by decide +kernel
theorem dL_law_428 : decode cL_law 428 = .ok (.iconst 2, 1) := by decide +kernel
theorem dL_law_429 : decode cL_law 429 = .ok (.iadd, 1) := by decide +kernel
theorem dL_law_430 : decode cL_law 430 = .ok (.iaload, 1) := by decide +kernel
theorem dL_law_431 : decode cL_law 431 = .ok (.invokevirtual 58, 3) := by decide +kernel
theorem dL_law_434 : decode cL_law 434 = .ok (.aload_n 2, 1) := by decide +kernel
theorem dL_law_435 : decode cL_law 435 = .ok (.aload_n 0, 1) := by decide +kernel
theorem dL_law_436 : decode cL_law 436 = .ok (.iload_n 3, 1) := by decide +kernel
theorem dL_law_437 : decode cL_law 437 = .ok (.iconst 1, 1) := by decide +kernel
theorem dL_law_438 : decode cL_law 438 = .ok (.iadd, 1) := by decide +kernel
theorem dL_law_439 : decode cL_law 439 = .ok (.iaload, 1) := by decide +kernel
theorem dL_law_440 : decode cL_law 440 = .ok (.aload_n 0, 1) := by decide +kernel
theorem dL_law_441 : decode cL_law 441 = .ok (.iload_n 3, 1) := by decide +kernel
theorem dL_law_442 : decode cL_law 442 = .ok (.iconst 2, 1) := by decide +kernel
theorem dL_law_443 : decode cL_law 443 = .ok (.iadd, 1) := by decide +kernel
theorem dL_law_444 : decode cL_law 444 = .ok (.iaload, 1) := by decide +kernel
theorem dL_law_445 : decode cL_law 445 = .ok (.invokevirtual 61, 3) := by decide +kernel
theorem dL_law_448 : decode cL_law 448 = .ok (.if_icmp .eq 194, 3) := by decide +kernel
theorem dL_law_451 : decode cL_law 451 = .ok (.iconst 0, 1) := by decide +kernel
theorem dL_law_452 : decode cL_law 452 = .ok (.ireturn, 1) := by decide +kernel
theorem dL_law_453 : decode cL_law 453 = .ok (.aload_n 1, 1) := by decide +kernel
theorem dL_law_454 : decode cL_law 454 = .ok (.aload_n 0, 1) := by decide +kernel
theorem dL_law_455 : decode cL_law 455 = .ok (.iload_n 3, 1) := by decide +kernel
theorem dL_law_456 : decode cL_law 456 = .ok (.iconst 1, 1) := by decide +kernel
theorem dL_law_457 : decode cL_law 457 = .ok (.iadd, 1) := by decide +kernel
theorem dL_law_458 : decode cL_law 458 = .ok (.iaload, 1) := by decide +kernel
theorem dL_law_459 : decode cL_law 459 = .ok (.aload_n 0, 1) := by decide +kernel
theorem dL_law_460 : decode cL_law 460 = .ok (.iload_n 3, 1) := by decide +kernel
theorem dL_law_461 : decode cL_law 461 = .ok (.iconst 2, 1) := by decide +kernel
theorem dL_law_462 : decode cL_law 462 = .ok (.iadd, 1) := by decide +kernel
theorem dL_law_463 : decode cL_law 463 = .ok (.iaload, 1) := by decide +kernel
theorem dL_law_464 : decode cL_law 464 = .ok (.invokevirtual 62, 3) := by decide +kernel
theorem dL_law_467 : decode cL_law 467 = .ok (.aload_n 2, 1) := by decide +kernel
theorem dL_law_468 : decode cL_law 468 = .ok (.aload_n 0, 1) := by decide +kernel
theorem dL_law_469 : decode cL_law 469 = .ok (.iload_n 3, 1) := by decide +kernel
theorem dL_law_470 : decode cL_law 470 = .ok (.iconst 1, 1) := by decide +kernel
theorem dL_law_471 : decode cL_law 471 = .ok (.iadd, 1) := by decide +kernel
theorem dL_law_472 : decode cL_law 472 = .ok (.iaload, 1) := by decide +kernel
theorem dL_law_473 : decode cL_law 473 = .ok (.aload_n 0, 1) := by decide +kernel
theorem dL_law_474 : decode cL_law 474 = .ok (.iload_n 3, 1) := by decide +kernel
theorem dL_law_475 : decode cL_law 475 = .ok (.iconst 2, 1) := by decide +kernel
theorem dL_law_476 : decode cL_law 476 = .ok (.iadd, 1) := by decide +kernel
theorem dL_law_477 : decode cL_law 477 = .ok (.iaload, 1) := by decide +kernel
theorem dL_law_478 : decode cL_law 478 = .ok (.invokevirtual 65, 3) := by decide +kernel
theorem dL_law_481 : decode cL_law 481 = .ok (.if_icmp .eq 161, 3) := by decide +kernel
theorem dL_law_484 : decode cL_law 484 = .ok (.iconst 0, 1) := by decide +kernel
theorem dL_law_485 : decode cL_law 485 = .ok (.ireturn, 1) := by decide +kernel
theorem dL_law_486 : decode cL_law 486 = .ok (.aload_n 1, 1) := by decide +kernel
theorem dL_law_487 : decode cL_law 487 = .ok (.aload_n 0, 1) := by decide +kernel
theorem dL_law_488 : decode cL_law 488 = .ok (.iload_n 3, 1) := by decide +kernel
theorem dL_law_489 : decode cL_law 489 = .ok (.iconst 1, 1) := by decide +kernel
theorem dL_law_490 : decode cL_law 490 = .ok (.iadd, 1) := by decide +kernel
theorem dL_law_491 : decode cL_law 491 = .ok (.iaload, 1) := by decide +kernel
theorem dL_law_492 : decode cL_law 492 = .ok (.aload_n 0, 1) := by decide +kernel
theorem dL_law_493 : decode cL_law 493 = .ok (.iload_n 3, 1) := by decide +kernel
theorem dL_law_494 : decode cL_law 494 = .ok (.iconst 2, 1) := by decide +kernel
theorem dL_law_495 : decode cL_law 495 = .ok (.iadd, 1) := by decide +kernel
theorem dL_law_496 : decode cL_law 496 = .ok (.iaload, 1) := by decide +kernel
theorem dL_law_497 : decode cL_law 497 = .ok (.invokevirtual 66, 3) := by decide +kernel
theorem dL_law_500 : decode cL_law 500 = .ok (.aload_n 2, 1) := by decide +kernel
theorem dL_law_501 : decode cL_law 501 = .ok (.aload_n 0, 1) := by decide +kernel
theorem dL_law_502 : decode cL_law 502 = .ok (.iload_n 3, 1) := by decide +kernel
theorem dL_law_503 : decode cL_law 503 = .ok (.iconst 1, 1) := by decide +kernel
theorem dL_law_504 : decode cL_law 504 = .ok (.iadd, 1) := by decide +kernel
theorem dL_law_505 : decode cL_law 505 = .ok (.iaload, 1) := by decide +kernel
theorem dL_law_506 : decode cL_law 506 = .ok (.aload_n 0, 1) := by decide +kernel
theorem dL_law_507 : decode cL_law 507 = .ok (.iload_n 3, 1) := by decide +kernel
theorem dL_law_508 : decode cL_law 508 = .ok (.iconst 2, 1) := by decide +kernel
theorem dL_law_509 : decode cL_law 509 = .ok (.iadd, 1) := by decide +kernel
theorem dL_law_510 : decode cL_law 510 = .ok (.iaload, 1) := by decide +kernel
theorem dL_law_511 : decode cL_law 511 = .ok (.invokevirtual 69, 3) := by decide +kernel
theorem dL_law_514 : decode cL_law 514 = .ok (.if_icmp .eq 128, 3) := by decide +kernel
theorem dL_law_517 : decode cL_law 517 = .ok (.iconst 0, 1) := by decide +kernel
theorem dL_law_518 : decode cL_law 518 = .ok (.ireturn, 1) := by decide +kernel
theorem dL_law_519 : decode cL_law 519 = .ok (.aload_n 1, 1) := by decide +kernel
theorem dL_law_520 : decode cL_law 520 = .ok (.aload_n 0, 1) := by decide +kernel
theorem dL_law_521 : decode cL_law 521 = .ok (.iload_n 3, 1) := by decide +kernel
theorem dL_law_522 : decode cL_law 522 = .ok (.iconst 1, 1) := by decide +kernel
theorem dL_law_523 : decode cL_law 523 = .ok (.iadd, 1) := by decide +kernel
theorem dL_law_524 : decode cL_law 524 = .ok (.iaload, 1) := by decide +kernel
theorem dL_law_525 : decode cL_law 525 = .ok (.invokevirtual 70, 3) := by decide +kernel
theorem dL_law_528 : decode cL_law 528 = .ok (.aload_n 2, 1) := by decide +kernel
theorem dL_law_529 : decode cL_law 529 = .ok (.aload_n 0, 1) := by decide +kernel
theorem dL_law_530 : decode cL_law 530 = .ok (.iload_n 3, 1) := by decide +kernel
theorem dL_law_531 : decode cL_law 531 = .ok (.iconst 1, 1) := by decide +kernel
theorem dL_law_532 : decode cL_law 532 = .ok (.iadd, 1) := by decide +kernel
theorem dL_law_533 : decode cL_law 533 = .ok (.iaload, 1) := by decide +kernel
theorem dL_law_534 : decode cL_law 534 = .ok (.invokevirtual 73, 3) := by decide +kernel
theorem dL_law_537 : decode cL_law 537 = .ok (.if_icmp .eq 105, 3) := by decide +kernel
theorem dL_law_540 : decode cL_law 540 = .ok (.iconst 0, 1) := by decide +kernel
theorem dL_law_541 : decode cL_law 541 = .ok (.ireturn, 1) := by decide +kernel
theorem dL_law_542 : decode cL_law 542 = .ok (.aload_n 1, 1) := by decide +kernel
theorem dL_law_543 : decode cL_law 543 = .ok (.invokevirtual 74, 3) := by decide +kernel
theorem dL_law_546 : decode cL_law 546 = .ok (.aload_n 2, 1) := by decide +kernel
theorem dL_law_547 : decode cL_law 547 = .ok (.invokevirtual 78, 3) := by decide +kernel
theorem dL_law_550 : decode cL_law 550 = .ok (.lcmp, 1) := by decide +kernel
theorem dL_law_551 : decode cL_law 551 = .ok (.ifCond .eq 91, 3) := by decide +kernel
theorem dL_law_554 : decode cL_law 554 = .ok (.iconst 0, 1) := by decide +kernel
theorem dL_law_555 : decode cL_law 555 = .ok (.ireturn, 1) := by decide +kernel
theorem dL_law_556 : decode cL_law 556 = .ok (.aload_n 1, 1) := by decide +kernel
theorem dL_law_557 : decode cL_law 557 = .ok (.invokevirtual 79, 3) := by decide +kernel
theorem dL_law_560 : decode cL_law 560 = .ok (.aload_n 2, 1) := by decide +kernel
theorem dL_law_561 : decode cL_law 561 = .ok (.invokevirtual 82, 3) := by decide +kernel
theorem dL_law_564 : decode cL_law 564 = .ok (.if_icmp .eq 78, 3) := by decide +kernel
theorem dL_law_567 : decode cL_law 567 = .ok (.iconst 0, 1) := by decide +kernel
theorem dL_law_568 : decode cL_law 568 = .ok (.ireturn, 1) := by decide +kernel
theorem dL_law_569 : decode cL_law 569 = .ok (.aload_n 1, 1) := by decide +kernel
theorem dL_law_570 : decode cL_law 570 = .ok (.aload_n 0, 1) := by decide +kernel
theorem dL_law_571 : decode cL_law 571 = .ok (.iload_n 3, 1) := by decide +kernel
theorem dL_law_572 : decode cL_law 572 = .ok (.iconst 1, 1) := by decide +kernel
theorem dL_law_573 : decode cL_law 573 = .ok (.iadd, 1) := by decide +kernel
theorem dL_law_574 : decode cL_law 574 = .ok (.iaload, 1) := by decide +kernel
theorem dL_law_575 : decode cL_law 575 = .ok (.invokevirtual 83, 3) := by decide +kernel
theorem dL_law_578 : decode cL_law 578 = .ok (.aload_n 2, 1) := by decide +kernel
theorem dL_law_579 : decode cL_law 579 = .ok (.aload_n 0, 1) := by decide +kernel
theorem dL_law_580 : decode cL_law 580 = .ok (.iload_n 3, 1) := by decide +kernel
theorem dL_law_581 : decode cL_law 581 = .ok (.iconst 1, 1) := by decide +kernel
theorem dL_law_582 : decode cL_law 582 = .ok (.iadd, 1) := by decide +kernel
theorem dL_law_583 : decode cL_law 583 = .ok (.iaload, 1) := by decide +kernel
theorem dL_law_584 : decode cL_law 584 = .ok (.invokevirtual 86, 3) := by decide +kernel
theorem dL_law_587 : decode cL_law 587 = .ok (.if_icmp .eq 55, 3) := by decide +kernel
theorem dL_law_590 : decode cL_law 590 = .ok (.iconst 0, 1) := by decide +kernel
theorem dL_law_591 : decode cL_law 591 = .ok (.ireturn, 1) := by decide +kernel
theorem dL_law_592 : decode cL_law 592 = .ok (.aload_n 1, 1) := by decide +kernel
theorem dL_law_593 : decode cL_law 593 = .ok (.invokevirtual 87, 3) := by decide +kernel
theorem dL_law_596 : decode cL_law 596 = .ok (.aload_n 2, 1) := by decide +kernel
theorem dL_law_597 : decode cL_law 597 = .ok (.invokevirtual 90, 3) := by decide +kernel
theorem dL_law_600 : decode cL_law 600 = .ok (.if_icmp .eq 42, 3) := by decide +kernel
theorem dL_law_603 : decode cL_law 603 = .ok (.iconst 0, 1) := by decide +kernel
theorem dL_law_604 : decode cL_law 604 = .ok (.ireturn, 1) := by decide +kernel
theorem dL_law_605 : decode cL_law 605 = .ok (.aload_n 1, 1) := by decide +kernel
theorem dL_law_606 : decode cL_law 606 = .ok (.aload_n 0, 1) := by decide +kernel
theorem dL_law_607 : decode cL_law 607 = .ok (.iload_n 3, 1) := by decide +kernel
theorem dL_law_608 : decode cL_law 608 = .ok (.iconst 1, 1) := by decide +kernel
theorem dL_law_609 : decode cL_law 609 = .ok (.iadd, 1) := by decide +kernel
theorem dL_law_610 : decode cL_law 610 = .ok (.iaload, 1) := by decide +kernel
theorem dL_law_611 : decode cL_law 611 = .ok (.invokevirtual 91, 3) := by decide +kernel
theorem dL_law_614 : decode cL_law 614 = .ok (.aload_n 2, 1) := by decide +kernel
theorem dL_law_615 : decode cL_law 615 = .ok (.aload_n 0, 1) := by decide +kernel
theorem dL_law_616 : decode cL_law 616 = .ok (.iload_n 3, 1) := by decide +kernel
theorem dL_law_617 : decode cL_law 617 = .ok (.iconst 1, 1) := by decide +kernel
theorem dL_law_618 : decode cL_law 618 = .ok (.iadd, 1) := by decide +kernel
theorem dL_law_619 : decode cL_law 619 = .ok (.iaload, 1) := by decide +kernel
theorem dL_law_620 : decode cL_law 620 = .ok (.invokevirtual 94, 3) := by decide +kernel
theorem dL_law_623 : decode cL_law 623 = .ok (.if_icmp .eq 19, 3) := by decide +kernel
theorem dL_law_626 : decode cL_law 626 = .ok (.iconst 0, 1) := by decide +kernel
theorem dL_law_627 : decode cL_law 627 = .ok (.ireturn, 1) := by decide +kernel
theorem dL_law_628 : decode cL_law 628 = .ok (.aload_n 1, 1) := by decide +kernel
theorem dL_law_629 : decode cL_law 629 = .ok (.invokevirtual 95, 3) := by decide +kernel
theorem dL_law_632 : decode cL_law 632 = .ok (.aload_n 2, 1) := by decide +kernel
theorem dL_law_633 : decode cL_law 633 = .ok (.invokevirtual 98, 3) := by decide +kernel
theorem dL_law_636 : decode cL_law 636 = .ok (.lcmp, 1) := by decide +kernel
theorem dL_law_637 : decode cL_law 637 = .ok (.ifCond .eq 5, 3) := by decide +kernel
theorem dL_law_640 : decode cL_law 640 = .ok (.iconst 0, 1) := by decide +kernel
theorem dL_law_641 : decode cL_law 641 = .ok (.ireturn, 1) := by decide +kernel
theorem dL_law_642 : decode cL_law 642 = .ok (.iinc 3 4, 3) := by decide +kernel
theorem dL_law_645 : decode cL_law 645 = .ok (.goto (-627), 3) := by decide +kernel
theorem dL_law_648 : decode cL_law 648 = .ok (.iconst 1, 1) := by decide +kernel
theorem dL_law_649 : decode cL_law 649 = .ok (.ireturn, 1) := by decide +kernel
abbrev vwCl : List vw_C := [(RX0, TX0, 6), (RX2, TX2, 4), (RX3, TX3, 2), (RX4, TX4, 2), (RX5, TX5, 6), (RX6, TX6, 6), (RX7, TX7, 5), (RX8, TX8, 9), (RX9, TX9, 23)]
