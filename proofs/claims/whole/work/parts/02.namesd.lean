theorem dX4_makeGreatestDivisor_77 : decode cX4_makeGreatestDivisor 77 = .ok (.iinc 3 1, 3) := by decide +kernel
theorem dX4_makeGreatestDivisor_80 : decode cX4_makeGreatestDivisor 80 = .ok (.goto (-62), 3) := by decide +kernel
theorem dX4_makeGreatestDivisor_83 : decode cX4_makeGreatestDivisor 83 = .ok (.aload_n 0, 1) := by decide +kernel
theorem dX4_makeGreatestDivisor_84 : decode cX4_makeGreatestDivisor 84 = .ok (.getfield 48, 3) := by decide +kernel
theorem dX4_makeGreatestDivisor_87 : decode cX4_makeGreatestDivisor 87 = .ok (.invokevirtual 113, 3) := by decide +kernel
theorem dX4_makeGreatestDivisor_90 : decode cX4_makeGreatestDivisor 90 = .ok (.istore_n 3, 1) := by decide +kernel
theorem dX4_makeGreatestDivisor_91 : decode cX4_makeGreatestDivisor 91 = .ok (.aload_n 0, 1) := by decide +kernel
theorem dX4_makeGreatestDivisor_92 : decode cX4_makeGreatestDivisor 92 = .ok (.getfield 41, 3) := by decide +kernel
theorem dX4_makeGreatestDivisor_95 : decode cX4_makeGreatestDivisor 95 = .ok (.aload_n 0, 1) := by decide +kernel
theorem dX4_makeGreatestDivisor_96 : decode cX4_makeGreatestDivisor 96 = .ok (.getfield 48, 3) := by decide +kernel
theorem dX4_makeGreatestDivisor_99 : decode cX4_makeGreatestDivisor 99 = .ok (.invokevirtual 116, 3) := by decide +kernel
theorem dX4_makeGreatestDivisor_102 : decode cX4_makeGreatestDivisor 102 = .ok (.aload_n 0, 1) := by decide +kernel
theorem dX4_makeGreatestDivisor_103 : decode cX4_makeGreatestDivisor 103 = .ok (.getfield 41, 3) := by decide +kernel
theorem dX4_makeGreatestDivisor_106 : decode cX4_makeGreatestDivisor 106 = .ok (.iload_n 3, 1) := by decide +kernel
theorem dX4_makeGreatestDivisor_107 : decode cX4_makeGreatestDivisor 107 = .ok (.iconst 1, 1) := by decide +kernel
theorem dX4_makeGreatestDivisor_108 : decode cX4_makeGreatestDivisor 108 = .ok (.iadd, 1) := by decide +kernel
theorem dX4_makeGreatestDivisor_109 : decode cX4_makeGreatestDivisor 109 = .ok (.invokevirtual 90, 3) := by decide +kernel
theorem dX4_makeGreatestDivisor_112 : decode cX4_makeGreatestDivisor 112 = .ok (.aload_n 0, 1) := by decide +kernel
theorem dX4_makeGreatestDivisor_113 : decode cX4_makeGreatestDivisor 113 = .ok (.getfield 41, 3) := by decide +kernel
theorem dX4_makeGreatestDivisor_116 : decode cX4_makeGreatestDivisor 116 = .ok (.aload_n 0, 1) := by decide +kernel
theorem dX4_makeGreatestDivisor_117 : decode cX4_makeGreatestDivisor 117 = .ok (.getfield 41, 3) := by decide +kernel
theorem dX4_makeGreatestDivisor_120 : decode cX4_makeGreatestDivisor 120 = .ok (.iload_n 3, 1) := by decide +kernel
theorem dX4_makeGreatestDivisor_121 : decode cX4_makeGreatestDivisor 121 = .ok (.invokevirtual 101, 3) := by decide +kernel
theorem dX4_makeGreatestDivisor_124 : decode cX4_makeGreatestDivisor 124 = .ok (.invokestatic 141, 3) := by decide +kernel
theorem dX4_makeGreatestDivisor_127 : decode cX4_makeGreatestDivisor 127 = .ok (.invokevirtual 144, 3) := by decide +kernel
theorem dX4_makeGreatestDivisor_130 : decode cX4_makeGreatestDivisor 130 = .ok (.return_, 1) := by decide +kernel
set_option maxRecDepth 20000 in
theorem ggX4_turnAround_X2_clear : GoodIn wsX4_turnAround wsX2_clear := goodIn_r _ [5, 6, 7, 8, 9, 10, 11, 28, 29] (by decide +kernel) (by decide +kernel)
set_option maxRecDepth 20000 in
theorem gX4_turnAround_X2_clear : GoodIn wsX4_turnAround (wsV RX4 98 RX2 yX2_clear wsX2_clear) := goodIn_app (goodIn_of _ (by decide +kernel)) ggX4_turnAround_X2_clear
set_option maxRecDepth 20000 in
theorem ggX4_turnAround_X2_valueAt : GoodIn wsX4_turnAround wsX2_valueAt := goodIn_r _ [15, 7, 16, 17, 18, 4, 19, 6, 28, 29] (by decide +kernel) (by decide +kernel)
set_option maxRecDepth 20000 in
theorem gX4_turnAround_X2_valueAt : GoodIn wsX4_turnAround (wsV RX4 156 RX2 yX2_valueAt wsX2_valueAt) := goodIn_app (goodIn_of _ (by decide +kernel)) ggX4_turnAround_X2_valueAt
set_option maxRecDepth 20000 in
theorem ggX4_turnAround_X2_write : GoodIn wsX4_turnAround wsX2_write := goodIn_r _ [23, 6, 24, 25, 26, 27, 28, 29] (by decide +kernel) (by decide +kernel)
set_option maxRecDepth 20000 in
theorem gX4_turnAround_X2_write : GoodIn wsX4_turnAround (wsV RX4 94 RX2 yX2_write wsX2_write) := goodIn_app (goodIn_of _ (by decide +kernel)) ggX4_turnAround_X2_write
theorem dX4_turnAround_0 : decode cX4_turnAround 0 = .ok (.aload_n 3, 1) := by decide +kernel
theorem dX4_turnAround_1 : decode cX4_turnAround 1 = .ok (.iload_n 1, 1) := by decide +kernel
theorem dX4_turnAround_2 : decode cX4_turnAround 2 = .ok (.invokevirtual 98, 3) := by decide +kernel
theorem dX4_turnAround_5 : decode cX4_turnAround 5 = .ok (.iconst 1, 1) := by decide +kernel
theorem dX4_turnAround_6 : decode cX4_turnAround 6 = .ok (.istore 4, 2) := by decide +kernel
theorem dX4_turnAround_8 : decode cX4_turnAround 8 = .ok (.iconst 0, 1) := by decide +kernel
theorem dX4_turnAround_9 : decode cX4_turnAround 9 = .ok (.istore 5, 2) := by decide +kernel
theorem dX4_turnAround_11 : decode cX4_turnAround 11 = .ok (.iload 5, 2) := by decide +kernel
theorem dX4_turnAround_13 : decode cX4_turnAround 13 = .ok (.iload_n 1, 1) := by decide +kernel
theorem dX4_turnAround_14 : decode cX4_turnAround 14 = .ok (.if_icmp .ge 31, 3) := by decide +kernel
theorem dX4_turnAround_17 : decode cX4_turnAround 17 = .ok (.aload_n 3, 1) := by decide +kernel
theorem dX4_turnAround_18 : decode cX4_turnAround 18 = .ok (.iload 5, 2) := by decide +kernel
theorem dX4_turnAround_20 : decode cX4_turnAround 20 = .ok (.aload_n 0, 1) := by decide +kernel
theorem dX4_turnAround_21 : decode cX4_turnAround 21 = .ok (.iload 4, 2) := by decide +kernel
theorem dX4_turnAround_23 : decode cX4_turnAround 23 = .ok (.invokevirtual 156, 3) := by decide +kernel
theorem dX4_turnAround_26 : decode cX4_turnAround 26 = .ok (.invokevirtual 94, 3) := by decide +kernel
theorem dX4_turnAround_29 : decode cX4_turnAround 29 = .ok (.iload 4, 2) := by decide +kernel
theorem dX4_turnAround_31 : decode cX4_turnAround 31 = .ok (.iload_n 2, 1) := by decide +kernel
theorem dX4_turnAround_32 : decode cX4_turnAround 32 = .ok (.imul, 1) := by decide +kernel
theorem dX4_turnAround_33 : decode cX4_turnAround 33 = .ok (.sipush 257, 3) := by decide +kernel
theorem dX4_turnAround_36 : decode cX4_turnAround 36 = .ok (.irem, 1) := by decide +kernel
theorem dX4_turnAround_37 : decode cX4_turnAround 37 = .ok (.istore 4, 2) := by decide +kernel
theorem dX4_turnAround_39 : decode cX4_turnAround 39 = .ok (.iinc 5 1, 3) := by decide +kernel
theorem dX4_turnAround_42 : decode cX4_turnAround 42 = .ok (.goto (-31), 3) := by decide +kernel
theorem dX4_turnAround_45 : decode cX4_turnAround 45 = .ok (.return_, 1) := by decide +kernel
set_option maxRecDepth 20000 in
theorem ggX4_countPlaces_X2_length : GoodIn wsX4_countPlaces wsX2_length := goodIn_r _ [5, 6, 7, 8] (by decide +kernel) (by decide +kernel)
set_option maxRecDepth 20000 in
theorem gX4_countPlaces_X2_length : GoodIn wsX4_countPlaces (wsV RX4 72 RX2 yX2_length wsX2_length) := goodIn_app (goodIn_of _ (by decide +kernel)) ggX4_countPlaces_X2_length
theorem dX4_countPlaces_0 : decode cX4_countPlaces 0 = .ok (.aload_n 0, 1) := by decide +kernel
theorem dX4_countPlaces_1 : decode cX4_countPlaces 1 = .ok (.invokevirtual 72, 3) := by decide +kernel
theorem dX4_countPlaces_4 : decode cX4_countPlaces 4 = .ok (.aload_n 1, 1) := by decide +kernel
theorem dX4_countPlaces_5 : decode cX4_countPlaces 5 = .ok (.invokevirtual 72, 3) := by decide +kernel
theorem dX4_countPlaces_8 : decode cX4_countPlaces 8 = .ok (.isub, 1) := by decide +kernel
theorem dX4_countPlaces_9 : decode cX4_countPlaces 9 = .ok (.iconst 1, 1) := by decide +kernel
theorem dX4_countPlaces_10 : decode cX4_countPlaces 10 = .ok (.iadd, 1) := by decide +kernel
theorem dX4_countPlaces_11 : decode cX4_countPlaces 11 = .ok (.ireturn, 1) := by decide +kernel
set_option maxRecDepth 20000 in
theorem ggX4_fitsAt_X2_length : GoodIn wsX4_fitsAt wsX2_length := goodIn_r _ [5, 6, 12, 13] (by decide +kernel) (by decide +kernel)
set_option maxRecDepth 20000 in
theorem gX4_fitsAt_X2_length : GoodIn wsX4_fitsAt (wsV RX4 72 RX2 yX2_length wsX2_length) := goodIn_app (goodIn_of _ (by decide +kernel)) ggX4_fitsAt_X2_length
set_option maxRecDepth 20000 in
theorem ggX4_fitsAt_X2_at : GoodIn wsX4_fitsAt wsX2_at := goodIn_r _ [10, 11, 12, 13] (by decide +kernel) (by decide +kernel)
set_option maxRecDepth 20000 in
theorem gX4_fitsAt_X2_at : GoodIn wsX4_fitsAt (wsV RX4 101 RX2 yX2_at wsX2_at) := goodIn_app (goodIn_of _ (by decide +kernel)) ggX4_fitsAt_X2_at
theorem dX4_fitsAt_0 : decode cX4_fitsAt 0 = .ok (.iconst 0, 1) := by decide +kernel
theorem dX4_fitsAt_1 : decode cX4_fitsAt 1 = .ok (.istore_n 3, 1) := by decide +kernel
theorem dX4_fitsAt_2 : decode cX4_fitsAt 2 = .ok (.iload_n 3, 1) := by decide +kernel
theorem dX4_fitsAt_3 : decode cX4_fitsAt 3 = .ok (.aload_n 1, 1) := by decide +kernel
theorem dX4_fitsAt_4 : decode cX4_fitsAt 4 = .ok (.invokevirtual 72, 3) := by decide +kernel
theorem dX4_fitsAt_7 : decode cX4_fitsAt 7 = .ok (.if_icmp .ge 44, 3) := by decide +kernel
theorem dX4_fitsAt_10 : decode cX4_fitsAt 10 = .ok (.aload_n 1, 1) := by decide +kernel
theorem dX4_fitsAt_11 : decode cX4_fitsAt 11 = .ok (.iload_n 3, 1) := by decide +kernel
theorem dX4_fitsAt_12 : decode cX4_fitsAt 12 = .ok (.invokevirtual 101, 3) := by decide +kernel
theorem dX4_fitsAt_15 : decode cX4_fitsAt 15 = .ok (.istore 4, 2) := by decide +kernel
theorem dX4_fitsAt_17 : decode cX4_fitsAt 17 = .ok (.aload_n 0, 1) := by decide +kernel
theorem dX4_fitsAt_18 : decode cX4_fitsAt 18 = .ok (.iload_n 2, 1) := by decide +kernel
theorem dX4_fitsAt_19 : decode cX4_fitsAt 19 = .ok (.iload_n 3, 1) := by decide +kernel
theorem dX4_fitsAt_20 : decode cX4_fitsAt 20 = .ok (.iadd, 1) := by decide +kernel
theorem dX4_fitsAt_21 : decode cX4_fitsAt 21 = .ok (.invokevirtual 101, 3) := by decide +kernel
theorem dX4_fitsAt_24 : decode cX4_fitsAt 24 = .ok (.istore 5, 2) := by decide +kernel
theorem dX4_fitsAt_26 : decode cX4_fitsAt 26 = .ok (.iload 4, 2) := by decide +kernel
theorem dX4_fitsAt_28 : decode cX4_fitsAt 28 = .ok (.ifCond .eq 17, 3) := by decide +kernel
theorem dX4_fitsAt_31 : decode cX4_fitsAt 31 = .ok (.iload 5, 2) := by decide +kernel
theorem dX4_fitsAt_33 : decode cX4_fitsAt 33 = .ok (.ifCond .eq 12, 3) := by decide +kernel
theorem dX4_fitsAt_36 : decode cX4_fitsAt 36 = .ok (.iload 4, 2) := by decide +kernel
theorem dX4_fitsAt_38 : decode cX4_fitsAt 38 = .ok (.iload 5, 2) := by decide +kernel
theorem dX4_fitsAt_40 : decode cX4_fitsAt 40 = .ok (.if_icmp .eq 5, 3) := by decide +kernel
theorem dX4_fitsAt_43 : decode cX4_fitsAt 43 = .ok (.iconst 0, 1) := by decide +kernel
theorem dX4_fitsAt_44 : decode cX4_fitsAt 44 = .ok (.ireturn, 1) := by decide +kernel
theorem dX4_fitsAt_45 : decode cX4_fitsAt 45 = .ok (.iinc 3 1, 3) := by decide +kernel
theorem dX4_fitsAt_48 : decode cX4_fitsAt 48 = .ok (.goto (-46), 3) := by decide +kernel
theorem dX4_fitsAt_51 : decode cX4_fitsAt 51 = .ok (.iconst 1, 1) := by decide +kernel
theorem dX4_fitsAt_52 : decode cX4_fitsAt 52 = .ok (.ireturn, 1) := by decide +kernel
set_option maxRecDepth 20000 in
theorem ggX4_sumAt_X2_length : GoodIn wsX4_sumAt wsX2_length := goodIn_r _ [5, 6, 12, 13] (by decide +kernel) (by decide +kernel)
set_option maxRecDepth 20000 in
theorem gX4_sumAt_X2_length : GoodIn wsX4_sumAt (wsV RX4 72 RX2 yX2_length wsX2_length) := goodIn_app (goodIn_of _ (by decide +kernel)) ggX4_sumAt_X2_length
set_option maxRecDepth 20000 in
theorem ggX4_sumAt_X2_at : GoodIn wsX4_sumAt wsX2_at := goodIn_r _ [10, 11, 12, 13] (by decide +kernel) (by decide +kernel)
set_option maxRecDepth 20000 in
theorem gX4_sumAt_X2_at : GoodIn wsX4_sumAt (wsV RX4 101 RX2 yX2_at wsX2_at) := goodIn_app (goodIn_of _ (by decide +kernel)) ggX4_sumAt_X2_at
theorem dX4_sumAt_0 : decode cX4_sumAt 0 = .ok (.iconst 0, 1) := by decide +kernel
theorem dX4_sumAt_1 : decode cX4_sumAt 1 = .ok (.istore_n 3, 1) := by decide +kernel
theorem dX4_sumAt_2 : decode cX4_sumAt 2 = .ok (.iconst 0, 1) := by decide +kernel
theorem dX4_sumAt_3 : decode cX4_sumAt 3 = .ok (.istore 4, 2) := by decide +kernel
theorem dX4_sumAt_5 : decode cX4_sumAt 5 = .ok (.iload 4, 2) := by decide +kernel
theorem dX4_sumAt_7 : decode cX4_sumAt 7 = .ok (.aload_n 1, 1) := by decide +kernel
theorem dX4_sumAt_8 : decode cX4_sumAt 8 = .ok (.invokevirtual 72, 3) := by decide +kernel
theorem dX4_sumAt_11 : decode cX4_sumAt 11 = .ok (.if_icmp .ge 63, 3) := by decide +kernel
theorem dX4_sumAt_14 : decode cX4_sumAt 14 = .ok (.aload_n 1, 1) := by decide +kernel
theorem dX4_sumAt_15 : decode cX4_sumAt 15 = .ok (.iload 4, 2) := by decide +kernel
theorem dX4_sumAt_17 : decode cX4_sumAt 17 = .ok (.invokevirtual 101, 3) := by decide +kernel
theorem dX4_sumAt_20 : decode cX4_sumAt 20 = .ok (.istore 5, 2) := by decide +kernel
theorem dX4_sumAt_22 : decode cX4_sumAt 22 = .ok (.aload_n 0, 1) := by decide +kernel
theorem dX4_sumAt_23 : decode cX4_sumAt 23 = .ok (.iload_n 2, 1) := by decide +kernel
theorem dX4_sumAt_24 : decode cX4_sumAt 24 = .ok (.iload 4, 2) := by decide +kernel
theorem dX4_sumAt_26 : decode cX4_sumAt 26 = .ok (.iadd, 1) := by decide +kernel
theorem dX4_sumAt_27 : decode cX4_sumAt 27 = .ok (.invokevirtual 101, 3) := by decide +kernel
theorem dX4_sumAt_30 : decode cX4_sumAt 30 = .ok (.istore 6, 2) := by decide +kernel
theorem dX4_sumAt_32 : decode cX4_sumAt 32 = .ok (.iload 5, 2) := by decide +kernel
theorem dX4_sumAt_34 : decode cX4_sumAt 34 = .ok (.iload 6, 2) := by decide +kernel
theorem dX4_sumAt_36 : decode cX4_sumAt 36 = .ok (.isub, 1) := by decide +kernel
theorem dX4_sumAt_37 : decode cX4_sumAt 37 = .ok (.iload 5, 2) := by decide +kernel
theorem dX4_sumAt_39 : decode cX4_sumAt 39 = .ok (.iload 6, 2) := by decide +kernel
theorem dX4_sumAt_41 : decode cX4_sumAt 41 = .ok (.isub, 1) := by decide +kernel
theorem dX4_sumAt_42 : decode cX4_sumAt 42 = .ok (.imul, 1) := by decide +kernel
theorem dX4_sumAt_43 : decode cX4_sumAt 43 = .ok (.sipush 257, 3) := by decide +kernel
theorem dX4_sumAt_46 : decode cX4_sumAt 46 = .ok (.irem, 1) := by decide +kernel
theorem dX4_sumAt_47 : decode cX4_sumAt 47 = .ok (.istore 7, 2) := by decide +kernel
theorem dX4_sumAt_49 : decode cX4_sumAt 49 = .ok (.iload_n 3, 1) := by decide +kernel
theorem dX4_sumAt_50 : decode cX4_sumAt 50 = .ok (.iload 5, 2) := by decide +kernel
theorem dX4_sumAt_52 : decode cX4_sumAt 52 = .ok (.iload 6, 2) := by decide +kernel
theorem dX4_sumAt_54 : decode cX4_sumAt 54 = .ok (.imul, 1) := by decide +kernel
theorem dX4_sumAt_55 : decode cX4_sumAt 55 = .ok (.sipush 257, 3) := by decide +kernel
theorem dX4_sumAt_58 : decode cX4_sumAt 58 = .ok (.irem, 1) := by decide +kernel
theorem dX4_sumAt_59 : decode cX4_sumAt 59 = .ok (.iload 7, 2) := by decide +kernel
theorem dX4_sumAt_61 : decode cX4_sumAt 61 = .ok (.imul, 1) := by decide +kernel
theorem dX4_sumAt_62 : decode cX4_sumAt 62 = .ok (.iadd, 1) := by decide +kernel
theorem dX4_sumAt_63 : decode cX4_sumAt 63 = .ok (.sipush 257, 3) := by decide +kernel
theorem dX4_sumAt_66 : decode cX4_sumAt 66 = .ok (.irem, 1) := by decide +kernel
theorem dX4_sumAt_67 : decode cX4_sumAt 67 = .ok (.istore_n 3, 1) := by decide +kernel
theorem dX4_sumAt_68 : decode cX4_sumAt 68 = .ok (.iinc 4 1, 3) := by decide +kernel
theorem dX4_sumAt_71 : decode cX4_sumAt 71 = .ok (.goto (-66), 3) := by decide +kernel
theorem dX4_sumAt_74 : decode cX4_sumAt 74 = .ok (.iload_n 3, 1) := by decide +kernel
theorem dX4_sumAt_75 : decode cX4_sumAt 75 = .ok (.ireturn, 1) := by decide +kernel
set_option maxRecDepth 20000 in
theorem ggX4_isFalseOne_X4_sumAt : GoodIn wsX4_isFalseOne wsX4_sumAt := goodIn_r _ [4, 5, 6, 7, 8, 9, 10, 11, 12, 13, 14, 15, 19, 20] (by decide +kernel) (by decide +kernel)
set_option maxRecDepth 20000 in
theorem gX4_isFalseOne_X4_sumAt : GoodIn wsX4_isFalseOne (va_wsS RX4 178 yX4_sumAt wsX4_sumAt) := goodIn_app (goodIn_of _ (by decide +kernel)) ggX4_isFalseOne_X4_sumAt
set_option maxRecDepth 20000 in
theorem ggX4_isFalseOne_X4_fitsAt : GoodIn wsX4_isFalseOne wsX4_fitsAt := goodIn_r _ [18, 5, 6, 7, 8, 9, 10, 11, 12, 13, 14, 15, 19, 20] (by decide +kernel) (by decide +kernel)
set_option maxRecDepth 20000 in
theorem gX4_isFalseOne_X4_fitsAt : GoodIn wsX4_isFalseOne (va_wsS RX4 174 yX4_fitsAt wsX4_fitsAt) := goodIn_app (goodIn_of _ (by decide +kernel)) ggX4_isFalseOne_X4_fitsAt
theorem dX4_isFalseOne_0 : decode cX4_isFalseOne 0 = .ok (.aload_n 0, 1) := by decide +kernel
theorem dX4_isFalseOne_1 : decode cX4_isFalseOne 1 = .ok (.aload_n 1, 1) := by decide +kernel
theorem dX4_isFalseOne_2 : decode cX4_isFalseOne 2 = .ok (.iload_n 2, 1) := by decide +kernel
theorem dX4_isFalseOne_3 : decode cX4_isFalseOne 3 = .ok (.invokestatic 178, 3) := by decide +kernel
theorem dX4_isFalseOne_6 : decode cX4_isFalseOne 6 = .ok (.ifCond .ne 16, 3) := by decide +kernel
theorem dX4_isFalseOne_9 : decode cX4_isFalseOne 9 = .ok (.aload_n 0, 1) := by decide +kernel
theorem dX4_isFalseOne_10 : decode cX4_isFalseOne 10 = .ok (.aload_n 1, 1) := by decide +kernel
theorem dX4_isFalseOne_11 : decode cX4_isFalseOne 11 = .ok (.iload_n 2, 1) := by decide +kernel
theorem dX4_isFalseOne_12 : decode cX4_isFalseOne 12 = .ok (.invokestatic 174, 3) := by decide +kernel
theorem dX4_isFalseOne_15 : decode cX4_isFalseOne 15 = .ok (.ifCond .ne 7, 3) := by decide +kernel
theorem dX4_isFalseOne_18 : decode cX4_isFalseOne 18 = .ok (.iconst 1, 1) := by decide +kernel
theorem dX4_isFalseOne_19 : decode cX4_isFalseOne 19 = .ok (.goto 4, 3) := by decide +kernel
theorem dX4_isFalseOne_22 : decode cX4_isFalseOne 22 = .ok (.iconst 0, 1) := by decide +kernel
theorem dX4_isFalseOne_23 : decode cX4_isFalseOne 23 = .ok (.ireturn, 1) := by decide +kernel
set_option maxRecDepth 20000 in
theorem ggX4_countFits_X4_countPlaces : GoodIn wsX4_countFits wsX4_countPlaces := goodIn_r _ [4, 5, 6, 7, 8, 9, 10, 19, 20] (by decide +kernel) (by decide +kernel)
set_option maxRecDepth 20000 in
theorem gX4_countFits_X4_countPlaces : GoodIn wsX4_countFits (va_wsS RX4 169 yX4_countPlaces wsX4_countPlaces) := goodIn_app (goodIn_of _ (by decide +kernel)) ggX4_countFits_X4_countPlaces
set_option maxRecDepth 20000 in
theorem ggX4_countFits_X4_fitsAt : GoodIn wsX4_countFits wsX4_fitsAt := goodIn_r _ [13, 5, 6, 7, 8, 9, 10, 14, 15, 16, 17, 18, 19, 20] (by decide +kernel) (by decide +kernel)
set_option maxRecDepth 20000 in
theorem gX4_countFits_X4_fitsAt : GoodIn wsX4_countFits (va_wsS RX4 174 yX4_fitsAt wsX4_fitsAt) := goodIn_app (goodIn_of _ (by decide +kernel)) ggX4_countFits_X4_fitsAt
theorem dX4_countFits_0 : decode cX4_countFits 0 = .ok (.iconst 0, 1) := by decide +kernel
theorem dX4_countFits_1 : decode cX4_countFits 1 = .ok (.istore_n 2, 1) := by decide +kernel
theorem dX4_countFits_2 : decode cX4_countFits 2 = .ok (.iconst 0, 1) := by decide +kernel
theorem dX4_countFits_3 : decode cX4_countFits 3 = .ok (.istore_n 3, 1) := by decide +kernel
theorem dX4_countFits_4 : decode cX4_countFits 4 = .ok (.iload_n 3, 1) := by decide +kernel
theorem dX4_countFits_5 : decode cX4_countFits 5 = .ok (.aload_n 0, 1) := by decide +kernel
theorem dX4_countFits_6 : decode cX4_countFits 6 = .ok (.aload_n 1, 1) := by decide +kernel
theorem dX4_countFits_7 : decode cX4_countFits 7 = .ok (.invokestatic 169, 3) := by decide +kernel
theorem dX4_countFits_10 : decode cX4_countFits 10 = .ok (.if_icmp .ge 21, 3) := by decide +kernel
theorem dX4_countFits_13 : decode cX4_countFits 13 = .ok (.aload_n 0, 1) := by decide +kernel
theorem dX4_countFits_14 : decode cX4_countFits 14 = .ok (.aload_n 1, 1) := by decide +kernel
theorem dX4_countFits_15 : decode cX4_countFits 15 = .ok (.iload_n 3, 1) := by decide +kernel
theorem dX4_countFits_16 : decode cX4_countFits 16 = .ok (.invokestatic 174, 3) := by decide +kernel
theorem dX4_countFits_19 : decode cX4_countFits 19 = .ok (.ifCond .eq 6, 3) := by decide +kernel
theorem dX4_countFits_22 : decode cX4_countFits 22 = .ok (.iinc 2 1, 3) := by decide +kernel
theorem dX4_countFits_25 : decode cX4_countFits 25 = .ok (.iinc 3 1, 3) := by decide +kernel
theorem dX4_countFits_28 : decode cX4_countFits 28 = .ok (.goto (-24), 3) := by decide +kernel
theorem dX4_countFits_31 : decode cX4_countFits 31 = .ok (.iload_n 2, 1) := by decide +kernel
theorem dX4_countFits_32 : decode cX4_countFits 32 = .ok (.ireturn, 1) := by decide +kernel
set_option maxRecDepth 20000 in
theorem ggX4_countFalseOnes_X4_countPlaces : GoodIn wsX4_countFalseOnes wsX4_countPlaces := goodIn_r _ [4, 5, 6, 7, 8, 9, 10, 25, 26] (by decide +kernel) (by decide +kernel)
set_option maxRecDepth 20000 in
theorem gX4_countFalseOnes_X4_countPlaces : GoodIn wsX4_countFalseOnes (va_wsS RX4 169 yX4_countPlaces wsX4_countPlaces) := goodIn_app (goodIn_of _ (by decide +kernel)) ggX4_countFalseOnes_X4_countPlaces
set_option maxRecDepth 20000 in
theorem ggX4_countFalseOnes_X4_isFalseOne : GoodIn wsX4_countFalseOnes wsX4_isFalseOne := goodIn_r _ [13, 14, 15, 3, 16, 5, 6, 7, 8, 9, 10, 17, 18, 19, 20, 21, 22, 23, 24, 25, 26] (by decide +kernel) (by decide +kernel)
set_option maxRecDepth 20000 in
theorem gX4_countFalseOnes_X4_isFalseOne : GoodIn wsX4_countFalseOnes (va_wsS RX4 212 yX4_isFalseOne wsX4_isFalseOne) := goodIn_app (goodIn_of _ (by decide +kernel)) ggX4_countFalseOnes_X4_isFalseOne
theorem dX4_countFalseOnes_0 : decode cX4_countFalseOnes 0 = .ok (.iconst 0, 1) := by decide +kernel
theorem dX4_countFalseOnes_1 : decode cX4_countFalseOnes 1 = .ok (.istore_n 2, 1) := by decide +kernel
theorem dX4_countFalseOnes_2 : decode cX4_countFalseOnes 2 = .ok (.iconst 0, 1) := by decide +kernel
theorem dX4_countFalseOnes_3 : decode cX4_countFalseOnes 3 = .ok (.istore_n 3, 1) := by decide +kernel
theorem dX4_countFalseOnes_4 : decode cX4_countFalseOnes 4 = .ok (.iload_n 3, 1) := by decide +kernel
theorem dX4_countFalseOnes_5 : decode cX4_countFalseOnes 5 = .ok (.aload_n 0, 1) := by decide +kernel
theorem dX4_countFalseOnes_6 : decode cX4_countFalseOnes 6 = .ok (.aload_n 1, 1) := by decide +kernel
theorem dX4_countFalseOnes_7 : decode cX4_countFalseOnes 7 = .ok (.invokestatic 169, 3) := by decide +kernel
theorem dX4_countFalseOnes_10 : decode cX4_countFalseOnes 10 = .ok (.if_icmp .ge 21, 3) := by decide +kernel
theorem dX4_countFalseOnes_13 : decode cX4_countFalseOnes 13 = .ok (.aload_n 0, 1) := by decide +kernel
theorem dX4_countFalseOnes_14 : decode cX4_countFalseOnes 14 = .ok (.aload_n 1, 1) := by decide +kernel
theorem dX4_countFalseOnes_15 : decode cX4_countFalseOnes 15 = .ok (.iload_n 3, 1) := by decide +kernel
theorem dX4_countFalseOnes_16 : decode cX4_countFalseOnes 16 = .ok (.invokestatic 212, 3) := by decide +kernel
theorem dX4_countFalseOnes_19 : decode cX4_countFalseOnes 19 = .ok (.ifCond .eq 6, 3) := by decide +kernel
theorem dX4_countFalseOnes_22 : decode cX4_countFalseOnes 22 = .ok (.iinc 2 1, 3) := by decide +kernel
theorem dX4_countFalseOnes_25 : decode cX4_countFalseOnes 25 = .ok (.iinc 3 1, 3) := by decide +kernel
theorem dX4_countFalseOnes_28 : decode cX4_countFalseOnes 28 = .ok (.goto (-24), 3) := by decide +kernel
theorem dX4_countFalseOnes_31 : decode cX4_countFalseOnes 31 = .ok (.iload_n 2, 1) := by decide +kernel
theorem dX4_countFalseOnes_32 : decode cX4_countFalseOnes 32 = .ok (.ireturn, 1) := by decide +kernel
set_option maxRecDepth 20000 in
theorem ggX4_firstFalseOne_X4_countPlaces : GoodIn wsX4_firstFalseOne wsX4_countPlaces := goodIn_r _ [4, 5, 6, 7, 8, 9, 10, 25, 26] (by decide +kernel) (by decide +kernel)
set_option maxRecDepth 20000 in
theorem gX4_firstFalseOne_X4_countPlaces : GoodIn wsX4_firstFalseOne (va_wsS RX4 169 yX4_countPlaces wsX4_countPlaces) := goodIn_app (goodIn_of _ (by decide +kernel)) ggX4_firstFalseOne_X4_countPlaces
set_option maxRecDepth 20000 in
theorem ggX4_firstFalseOne_X4_isFalseOne : GoodIn wsX4_firstFalseOne wsX4_isFalseOne := goodIn_r _ [13, 14, 15, 3, 16, 5, 6, 7, 8, 9, 10, 17, 18, 19, 20, 21, 22, 23, 24, 25, 26] (by decide +kernel) (by decide +kernel)
set_option maxRecDepth 20000 in
theorem gX4_firstFalseOne_X4_isFalseOne : GoodIn wsX4_firstFalseOne (va_wsS RX4 212 yX4_isFalseOne wsX4_isFalseOne) := goodIn_app (goodIn_of _ (by decide +kernel)) ggX4_firstFalseOne_X4_isFalseOne
theorem dX4_firstFalseOne_0 : decode cX4_firstFalseOne 0 = .ok (.iconst 0, 1) := by decide +kernel
theorem dX4_firstFalseOne_1 : decode cX4_firstFalseOne 1 = .ok (.istore_n 2, 1) := by decide +kernel
theorem dX4_firstFalseOne_2 : decode cX4_firstFalseOne 2 = .ok (.iload_n 2, 1) := by decide +kernel
theorem dX4_firstFalseOne_3 : decode cX4_firstFalseOne 3 = .ok (.aload_n 0, 1) := by decide +kernel
theorem dX4_firstFalseOne_4 : decode cX4_firstFalseOne 4 = .ok (.aload_n 1, 1) := by decide +kernel
theorem dX4_firstFalseOne_5 : decode cX4_firstFalseOne 5 = .ok (.invokestatic 169, 3) := by decide +kernel
theorem dX4_firstFalseOne_8 : decode cX4_firstFalseOne 8 = .ok (.if_icmp .ge 20, 3) := by decide +kernel
theorem dX4_firstFalseOne_11 : decode cX4_firstFalseOne 11 = .ok (.aload_n 0, 1) := by decide +kernel
theorem dX4_firstFalseOne_12 : decode cX4_firstFalseOne 12 = .ok (.aload_n 1, 1) := by decide +kernel
theorem dX4_firstFalseOne_13 : decode cX4_firstFalseOne 13 = .ok (.iload_n 2, 1) := by decide +kernel
theorem dX4_firstFalseOne_14 : decode cX4_firstFalseOne 14 = .ok (.invokestatic 212, 3) := by decide +kernel
theorem dX4_firstFalseOne_17 : decode cX4_firstFalseOne 17 = .ok (.ifCond .eq 5, 3) := by decide +kernel
theorem dX4_firstFalseOne_20 : decode cX4_firstFalseOne 20 = .ok (.iload_n 2, 1) := by decide +kernel
theorem dX4_firstFalseOne_21 : decode cX4_firstFalseOne 21 = .ok (.ireturn, 1) := by decide +kernel
theorem dX4_firstFalseOne_22 : decode cX4_firstFalseOne 22 = .ok (.iinc 2 1, 3) := by decide +kernel
theorem dX4_firstFalseOne_25 : decode cX4_firstFalseOne 25 = .ok (.goto (-23), 3) := by decide +kernel
theorem dX4_firstFalseOne_28 : decode cX4_firstFalseOne 28 = .ok (.bipush (-6), 2) := by decide +kernel
theorem dX4_firstFalseOne_30 : decode cX4_firstFalseOne 30 = .ok (.ireturn, 1) := by decide +kernel
set_option maxRecDepth 20000 in
theorem ggX4_greatestSum_X4_countPlaces : GoodIn wsX4_greatestSum wsX4_countPlaces := goodIn_r _ [8, 9, 10, 11, 12, 13, 14, 23, 24] (by decide +kernel) (by decide +kernel)
set_option maxRecDepth 20000 in
theorem gX4_greatestSum_X4_countPlaces : GoodIn wsX4_greatestSum (va_wsS RX4 169 yX4_countPlaces wsX4_countPlaces) := goodIn_app (goodIn_of _ (by decide +kernel)) ggX4_greatestSum_X4_countPlaces
set_option maxRecDepth 20000 in
theorem ggX4_greatestSum_X4_sumAt : GoodIn wsX4_greatestSum wsX4_sumAt := goodIn_r _ [17, 9, 10, 11, 12, 13, 14, 18, 19, 20, 21, 22, 23, 24] (by decide +kernel) (by decide +kernel)
set_option maxRecDepth 20000 in
theorem gX4_greatestSum_X4_sumAt : GoodIn wsX4_greatestSum (va_wsS RX4 178 yX4_sumAt wsX4_sumAt) := goodIn_app (goodIn_of _ (by decide +kernel)) ggX4_greatestSum_X4_sumAt
theorem dX4_greatestSum_0 : decode cX4_greatestSum 0 = .ok (.iconst 0, 1) := by decide +kernel
theorem dX4_greatestSum_1 : decode cX4_greatestSum 1 = .ok (.istore_n 2, 1) := by decide +kernel
theorem dX4_greatestSum_2 : decode cX4_greatestSum 2 = .ok (.iconst 0, 1) := by decide +kernel
theorem dX4_greatestSum_3 : decode cX4_greatestSum 3 = .ok (.istore_n 3, 1) := by decide +kernel
theorem dX4_greatestSum_4 : decode cX4_greatestSum 4 = .ok (.iload_n 3, 1) := by decide +kernel
theorem dX4_greatestSum_5 : decode cX4_greatestSum 5 = .ok (.aload_n 0, 1) := by decide +kernel
theorem dX4_greatestSum_6 : decode cX4_greatestSum 6 = .ok (.aload_n 1, 1) := by decide +kernel
theorem dX4_greatestSum_7 : decode cX4_greatestSum 7 = .ok (.invokestatic 169, 3) := by decide +kernel
theorem dX4_greatestSum_10 : decode cX4_greatestSum 10 = .ok (.if_icmp .ge 20, 3) := by decide +kernel
theorem dX4_greatestSum_13 : decode cX4_greatestSum 13 = .ok (.iload_n 2, 1) := by decide +kernel
theorem dX4_greatestSum_14 : decode cX4_greatestSum 14 = .ok (.aload_n 0, 1) := by decide +kernel
theorem dX4_greatestSum_15 : decode cX4_greatestSum 15 = .ok (.aload_n 1, 1) := by decide +kernel
theorem dX4_greatestSum_16 : decode cX4_greatestSum 16 = .ok (.iload_n 3, 1) := by decide +kernel
theorem dX4_greatestSum_17 : decode cX4_greatestSum 17 = .ok (.invokestatic 178, 3) := by decide +kernel
theorem dX4_greatestSum_20 : decode cX4_greatestSum 20 = .ok (.invokestatic 84, 3) := by decide +kernel
theorem dX4_greatestSum_23 : decode cX4_greatestSum 23 = .ok (.istore_n 2, 1) := by decide +kernel
theorem dX4_greatestSum_24 : decode cX4_greatestSum 24 = .ok (.iinc 3 1, 3) := by decide +kernel
theorem dX4_greatestSum_27 : decode cX4_greatestSum 27 = .ok (.goto (-23), 3) := by decide +kernel
theorem dX4_greatestSum_30 : decode cX4_greatestSum 30 = .ok (.iload_n 2, 1) := by decide +kernel
theorem dX4_greatestSum_31 : decode cX4_greatestSum 31 = .ok (.ireturn, 1) := by decide +kernel
theorem dX4_countCharacters_0 : decode cX4_countCharacters 0 = .ok (.iconst 0, 1) := by decide +kernel
theorem dX4_countCharacters_1 : decode cX4_countCharacters 1 = .ok (.istore_n 2, 1) := by decide +kernel
theorem dX4_countCharacters_2 : decode cX4_countCharacters 2 = .ok (.lload_n 0, 1) := by decide +kernel
theorem dX4_countCharacters_3 : decode cX4_countCharacters 3 = .ok (.lstore_n 3, 1) := by decide +kernel
theorem dX4_countCharacters_4 : decode cX4_countCharacters 4 = .ok (.iload_n 2, 1) := by decide +kernel
theorem dX4_countCharacters_5 : decode cX4_countCharacters 5 = .ok (.bipush 8, 2) := by decide +kernel
theorem dX4_countCharacters_7 : decode cX4_countCharacters 7 = .ok (.if_icmp .ge 44, 3) := by decide +kernel
theorem dX4_countCharacters_10 : decode cX4_countCharacters 10 = .ok (.lload_n 3, 1) := by decide +kernel
theorem dX4_countCharacters_11 : decode cX4_countCharacters 11 = .ok (.lconst 0, 1) := by decide +kernel
theorem dX4_countCharacters_12 : decode cX4_countCharacters 12 = .ok (.lcmp, 1) := by decide +kernel
theorem dX4_countCharacters_13 : decode cX4_countCharacters 13 = .ok (.ifCond .eq 38, 3) := by decide +kernel
theorem dX4_countCharacters_16 : decode cX4_countCharacters 16 = .ok (.lload_n 3, 1) := by decide +kernel
theorem dX4_countCharacters_17 : decode cX4_countCharacters 17 = .ok (.ldc2_w 215, 3) := by decide +kernel
theorem dX4_countCharacters_20 : decode cX4_countCharacters 20 = .ok (.land, 1) := by decide +kernel
theorem dX4_countCharacters_21 : decode cX4_countCharacters 21 = .ok (.l2i, 1) := by decide +kernel
theorem dX4_countCharacters_22 : decode cX4_countCharacters 22 = .ok (.istore 5, 2) := by decide +kernel
theorem dX4_countCharacters_24 : decode cX4_countCharacters 24 = .ok (.iload 5, 2) := by decide +kernel
theorem dX4_countCharacters_26 : decode cX4_countCharacters 26 = .ok (.bipush 33, 2) := by decide +kernel
theorem dX4_countCharacters_28 : decode cX4_countCharacters 28 = .ok (.if_icmp .lt 10, 3) := by decide +kernel
theorem dX4_countCharacters_31 : decode cX4_countCharacters 31 = .ok (.iload 5, 2) := by decide +kernel
theorem dX4_countCharacters_33 : decode cX4_countCharacters 33 = .ok (.bipush 126, 2) := by decide +kernel
theorem dX4_countCharacters_35 : decode cX4_countCharacters 35 = .ok (.if_icmp .le 5, 3) := by decide +kernel
theorem dX4_countCharacters_38 : decode cX4_countCharacters 38 = .ok (.iconst 0, 1) := by decide +kernel
theorem dX4_countCharacters_39 : decode cX4_countCharacters 39 = .ok (.ireturn, 1) := by decide +kernel
theorem dX4_countCharacters_40 : decode cX4_countCharacters 40 = .ok (.iinc 2 1, 3) := by decide +kernel
theorem dX4_countCharacters_43 : decode cX4_countCharacters 43 = .ok (.lload_n 3, 1) := by decide +kernel
theorem dX4_countCharacters_44 : decode cX4_countCharacters 44 = .ok (.bipush 8, 2) := by decide +kernel
theorem dX4_countCharacters_46 : decode cX4_countCharacters 46 = .ok (.lushr, 1) := by decide +kernel
theorem dX4_countCharacters_47 : decode cX4_countCharacters 47 = .ok (.lstore_n 3, 1) := by decide +kernel
theorem dX4_countCharacters_48 : decode cX4_countCharacters 48 = .ok (.goto (-44), 3) := by decide +kernel
theorem dX4_countCharacters_51 : decode cX4_countCharacters 51 = .ok (.iload_n 2, 1) := by decide +kernel
theorem dX4_countCharacters_52 : decode cX4_countCharacters 52 = .ok (.ireturn, 1) := by decide +kernel
theorem dX5_init_0 : decode cX5_init 0 = .ok (.aload_n 0, 1) := by decide +kernel
theorem dX5_init_1 : decode cX5_init 1 = .ok (.invokespecial 1, 3) := by decide +kernel
theorem dX5_init_4 : decode cX5_init 4 = .ok (.aload_n 0, 1) := by decide +kernel
theorem dX5_init_5 : decode cX5_init 5 = .ok (.sipush 390, 3) := by decide +kernel
theorem dX5_init_8 : decode cX5_init 8 = .ok (.newarray .int, 2) := by decide +kernel
theorem dX5_init_10 : decode cX5_init 10 = .ok (.putfield 7, 3) := by decide +kernel
theorem dX5_init_13 : decode cX5_init 13 = .ok (.aload_n 0, 1) := by decide +kernel
theorem dX5_init_14 : decode cX5_init 14 = .ok (.sipush 2340, 3) := by decide +kernel
theorem dX5_init_17 : decode cX5_init 17 = .ok (.newarray .int, 2) := by decide +kernel
theorem dX5_init_19 : decode cX5_init 19 = .ok (.putfield 13, 3) := by decide +kernel
theorem dX5_init_22 : decode cX5_init 22 = .ok (.aload_n 0, 1) := by decide +kernel
theorem dX5_init_23 : decode cX5_init 23 = .ok (.sipush 780, 3) := by decide +kernel
theorem dX5_init_26 : decode cX5_init 26 = .ok (.newarray .int, 2) := by decide +kernel
theorem dX5_init_28 : decode cX5_init 28 = .ok (.putfield 16, 3) := by decide +kernel
theorem dX5_init_31 : decode cX5_init 31 = .ok (.aload_n 0, 1) := by decide +kernel
theorem dX5_init_32 : decode cX5_init 32 = .ok (.iconst 2, 1) := by decide +kernel
theorem dX5_init_33 : decode cX5_init 33 = .ok (.newarray .boolean, 2) := by decide +kernel
theorem dX5_init_35 : decode cX5_init 35 = .ok (.putfield 19, 3) := by decide +kernel
theorem dX5_init_38 : decode cX5_init 38 = .ok (.aload_n 0, 1) := by decide +kernel
theorem dX5_init_39 : decode cX5_init 39 = .ok (.bipush 80, 2) := by decide +kernel
theorem dX5_init_41 : decode cX5_init 41 = .ok (.newarray .char, 2) := by decide +kernel
theorem dX5_init_43 : decode cX5_init 43 = .ok (.putfield 23, 3) := by decide +kernel
theorem dX5_init_46 : decode cX5_init 46 = .ok (.aload_n 0, 1) := by decide +kernel
theorem dX5_init_47 : decode cX5_init 47 = .ok (.bipush 64, 2) := by decide +kernel
theorem dX5_init_49 : decode cX5_init 49 = .ok (.newarray .int, 2) := by decide +kernel
theorem dX5_init_51 : decode cX5_init 51 = .ok (.putfield 27, 3) := by decide +kernel
theorem dX5_init_54 : decode cX5_init 54 = .ok (.aload_n 0, 1) := by decide +kernel
theorem dX5_init_55 : decode cX5_init 55 = .ok (.bipush 64, 2) := by decide +kernel
theorem dX5_init_57 : decode cX5_init 57 = .ok (.newarray .int, 2) := by decide +kernel
theorem dX5_init_59 : decode cX5_init 59 = .ok (.putfield 30, 3) := by decide +kernel
theorem dX5_init_62 : decode cX5_init 62 = .ok (.aload_n 0, 1) := by decide +kernel
theorem dX5_init_63 : decode cX5_init 63 = .ok (.bipush 64, 2) := by decide +kernel
theorem dX5_init_65 : decode cX5_init 65 = .ok (.newarray .int, 2) := by decide +kernel
theorem dX5_init_67 : decode cX5_init 67 = .ok (.putfield 33, 3) := by decide +kernel
theorem dX5_init_70 : decode cX5_init 70 = .ok (.iconst 0, 1) := by decide +kernel
theorem dX5_init_71 : decode cX5_init 71 = .ok (.istore_n 1, 1) := by decide +kernel
theorem dX5_init_72 : decode cX5_init 72 = .ok (.iload_n 1, 1) := by decide +kernel
theorem dX5_init_73 : decode cX5_init 73 = .ok (.bipush 6, 2) := by decide +kernel
theorem dX5_init_75 : decode cX5_init 75 = .ok (.if_icmp .ge 19, 3) := by decide +kernel
theorem dX5_init_78 : decode cX5_init 78 = .ok (.aload_n 0, 1) := by decide +kernel
theorem dX5_init_79 : decode cX5_init 79 = .ok (.getfield 7, 3) := by decide +kernel
theorem dX5_init_82 : decode cX5_init 82 = .ok (.bipush 65, 2) := by decide +kernel
theorem dX5_init_84 : decode cX5_init 84 = .ok (.iload_n 1, 1) := by decide +kernel
theorem dX5_init_85 : decode cX5_init 85 = .ok (.imul, 1) := by decide +kernel
theorem dX5_init_86 : decode cX5_init 86 = .ok (.iconst 1, 1) := by decide +kernel
theorem dX5_init_87 : decode cX5_init 87 = .ok (.iastore, 1) := by decide +kernel
theorem dX5_init_88 : decode cX5_init 88 = .ok (.iinc 1 1, 3) := by decide +kernel
theorem dX5_init_91 : decode cX5_init 91 = .ok (.goto (-19), 3) := by decide +kernel
theorem dX5_init_94 : decode cX5_init 94 = .ok (.return_, 1) := by decide +kernel
theorem dX5_in_0 : decode cX5_in 0 = .ok (.iload_n 0, 1) := by decide +kernel
theorem dX5_in_1 : decode cX5_in 1 = .ok (.iload_n 1, 1) := by decide +kernel
theorem dX5_in_2 : decode cX5_in 2 = .ok (.if_icmp .lt 12, 3) := by decide +kernel
theorem dX5_in_5 : decode cX5_in 5 = .ok (.iload_n 0, 1) := by decide +kernel
theorem dX5_in_6 : decode cX5_in 6 = .ok (.iload_n 2, 1) := by decide +kernel
theorem dX5_in_7 : decode cX5_in 7 = .ok (.if_icmp .gt 7, 3) := by decide +kernel
theorem dX5_in_10 : decode cX5_in 10 = .ok (.iconst 1, 1) := by decide +kernel
theorem dX5_in_11 : decode cX5_in 11 = .ok (.goto 4, 3) := by decide +kernel
theorem dX5_in_14 : decode cX5_in 14 = .ok (.iconst 0, 1) := by decide +kernel
theorem dX5_in_15 : decode cX5_in 15 = .ok (.ireturn, 1) := by decide +kernel
set_option maxRecDepth 20000 in
theorem ggX5_isRegister_X5_in : GoodIn wsX5_isRegister wsX5_in := goodIn_r _ [4] (by decide +kernel) (by decide +kernel)
set_option maxRecDepth 20000 in
theorem gX5_isRegister_X5_in : GoodIn wsX5_isRegister (va_wsS RX5 36 yX5_in wsX5_in) := goodIn_app (goodIn_of _ (by decide +kernel)) ggX5_isRegister_X5_in
theorem dX5_isRegister_0 : decode cX5_isRegister 0 = .ok (.iload_n 0, 1) := by decide +kernel
theorem dX5_isRegister_1 : decode cX5_isRegister 1 = .ok (.iconst 0, 1) := by decide +kernel
theorem dX5_isRegister_2 : decode cX5_isRegister 2 = .ok (.iconst 5, 1) := by decide +kernel
theorem dX5_isRegister_3 : decode cX5_isRegister 3 = .ok (.invokestatic 36, 3) := by decide +kernel
theorem dX5_isRegister_6 : decode cX5_isRegister 6 = .ok (.ireturn, 1) := by decide +kernel
set_option maxRecDepth 20000 in
theorem ggX5_isNumber_X5_in : GoodIn wsX5_isNumber wsX5_in := goodIn_r _ [4] (by decide +kernel) (by decide +kernel)
set_option maxRecDepth 20000 in
theorem gX5_isNumber_X5_in : GoodIn wsX5_isNumber (va_wsS RX5 36 yX5_in wsX5_in) := goodIn_app (goodIn_of _ (by decide +kernel)) ggX5_isNumber_X5_in
theorem dX5_isNumber_0 : decode cX5_isNumber 0 = .ok (.iload_n 0, 1) := by decide +kernel
theorem dX5_isNumber_1 : decode cX5_isNumber 1 = .ok (.iconst 0, 1) := by decide +kernel
theorem dX5_isNumber_2 : decode cX5_isNumber 2 = .ok (.sipush 256, 3) := by decide +kernel
theorem dX5_isNumber_5 : decode cX5_isNumber 5 = .ok (.invokestatic 36, 3) := by decide +kernel
theorem dX5_isNumber_8 : decode cX5_isNumber 8 = .ok (.ireturn, 1) := by decide +kernel
theorem dX5_lengthOf_0 : decode cX5_lengthOf 0 = .ok (.aload_n 0, 1) := by decide +kernel
theorem dX5_lengthOf_1 : decode cX5_lengthOf 1 = .ok (.getfield 7, 3) := by decide +kernel
theorem dX5_lengthOf_4 : decode cX5_lengthOf 4 = .ok (.bipush 65, 2) := by decide +kernel
theorem dX5_lengthOf_6 : decode cX5_lengthOf 6 = .ok (.iload_n 1, 1) := by decide +kernel
theorem dX5_lengthOf_7 : decode cX5_lengthOf 7 = .ok (.imul, 1) := by decide +kernel
theorem dX5_lengthOf_8 : decode cX5_lengthOf 8 = .ok (.iaload, 1) := by decide +kernel
theorem dX5_lengthOf_9 : decode cX5_lengthOf 9 = .ok (.ireturn, 1) := by decide +kernel
set_option maxRecDepth 20000 in
theorem ggX5_at_X5_lengthOf : GoodIn wsX5_at wsX5_lengthOf := goodIn_r _ [6, 1, 7, 8, 9, 10, 11, 12, 13, 14, 15, 16, 17] (by decide +kernel) (by decide +kernel)
set_option maxRecDepth 20000 in
theorem gX5_at_X5_lengthOf : GoodIn wsX5_at (wsV RX5 40 RX5 yX5_lengthOf wsX5_lengthOf) := goodIn_app (goodIn_of _ (by decide +kernel)) ggX5_at_X5_lengthOf
theorem dX5_at_0 : decode cX5_at 0 = .ok (.iload_n 2, 1) := by decide +kernel
theorem dX5_at_1 : decode cX5_at 1 = .ok (.aload_n 0, 1) := by decide +kernel
theorem dX5_at_2 : decode cX5_at 2 = .ok (.iload_n 1, 1) := by decide +kernel
theorem dX5_at_3 : decode cX5_at 3 = .ok (.invokevirtual 40, 3) := by decide +kernel
theorem dX5_at_6 : decode cX5_at 6 = .ok (.if_icmp .ge 19, 3) := by decide +kernel
theorem dX5_at_9 : decode cX5_at 9 = .ok (.aload_n 0, 1) := by decide +kernel
theorem dX5_at_10 : decode cX5_at 10 = .ok (.getfield 7, 3) := by decide +kernel
theorem dX5_at_13 : decode cX5_at 13 = .ok (.bipush 65, 2) := by decide +kernel
theorem dX5_at_15 : decode cX5_at 15 = .ok (.iload_n 1, 1) := by decide +kernel
theorem dX5_at_16 : decode cX5_at 16 = .ok (.imul, 1) := by decide +kernel
theorem dX5_at_17 : decode cX5_at 17 = .ok (.iconst 1, 1) := by decide +kernel
theorem dX5_at_18 : decode cX5_at 18 = .ok (.iadd, 1) := by decide +kernel
theorem dX5_at_19 : decode cX5_at 19 = .ok (.iload_n 2, 1) := by decide +kernel
theorem dX5_at_20 : decode cX5_at 20 = .ok (.iadd, 1) := by decide +kernel
theorem dX5_at_21 : decode cX5_at 21 = .ok (.iaload, 1) := by decide +kernel
theorem dX5_at_22 : decode cX5_at 22 = .ok (.goto 4, 3) := by decide +kernel
theorem dX5_at_25 : decode cX5_at 25 = .ok (.iconst 0, 1) := by decide +kernel
theorem dX5_at_26 : decode cX5_at 26 = .ok (.ireturn, 1) := by decide +kernel
theorem dX5_record_0 : decode cX5_record 0 = .ok (.aload_n 0, 1) := by decide +kernel
theorem dX5_record_1 : decode cX5_record 1 = .ok (.getfield 44, 3) := by decide +kernel
theorem dX5_record_4 : decode cX5_record 4 = .ok (.bipush 6, 2) := by decide +kernel
theorem dX5_record_6 : decode cX5_record 6 = .ok (.if_icmp .ne 44, 3) := by decide +kernel
theorem dX5_record_9 : decode cX5_record 9 = .ok (.iconst 0, 1) := by decide +kernel
theorem dX5_record_10 : decode cX5_record 10 = .ok (.istore_n 1, 1) := by decide +kernel
theorem dX5_record_11 : decode cX5_record 11 = .ok (.iload_n 1, 1) := by decide +kernel
theorem dX5_record_12 : decode cX5_record 12 = .ok (.sipush 1950, 3) := by decide +kernel
theorem dX5_record_15 : decode cX5_record 15 = .ok (.if_icmp .ge 25, 3) := by decide +kernel
theorem dX5_record_18 : decode cX5_record 18 = .ok (.aload_n 0, 1) := by decide +kernel
theorem dX5_record_19 : decode cX5_record 19 = .ok (.getfield 13, 3) := by decide +kernel
theorem dX5_record_22 : decode cX5_record 22 = .ok (.iload_n 1, 1) := by decide +kernel
theorem dX5_record_23 : decode cX5_record 23 = .ok (.aload_n 0, 1) := by decide +kernel
theorem dX5_record_24 : decode cX5_record 24 = .ok (.getfield 13, 3) := by decide +kernel
theorem dX5_record_27 : decode cX5_record 27 = .ok (.iload_n 1, 1) := by decide +kernel
theorem dX5_record_28 : decode cX5_record 28 = .ok (.sipush 390, 3) := by decide +kernel
theorem dX5_record_31 : decode cX5_record 31 = .ok (.iadd, 1) := by decide +kernel
theorem dX5_record_32 : decode cX5_record 32 = .ok (.iaload, 1) := by decide +kernel
theorem dX5_record_33 : decode cX5_record 33 = .ok (.iastore, 1) := by decide +kernel
theorem dX5_record_34 : decode cX5_record 34 = .ok (.iinc 1 1, 3) := by decide +kernel
theorem dX5_record_37 : decode cX5_record 37 = .ok (.goto (-26), 3) := by decide +kernel
theorem dX5_record_40 : decode cX5_record 40 = .ok (.aload_n 0, 1) := by decide +kernel
theorem dX5_record_41 : decode cX5_record 41 = .ok (.dup, 1) := by decide +kernel
theorem dX5_record_42 : decode cX5_record 42 = .ok (.getfield 44, 3) := by decide +kernel
theorem dX5_record_45 : decode cX5_record 45 = .ok (.iconst 1, 1) := by decide +kernel
theorem dX5_record_46 : decode cX5_record 46 = .ok (.isub, 1) := by decide +kernel
theorem dX5_record_47 : decode cX5_record 47 = .ok (.putfield 44, 3) := by decide +kernel
theorem dX5_record_50 : decode cX5_record 50 = .ok (.iconst 0, 1) := by decide +kernel
theorem dX5_record_51 : decode cX5_record 51 = .ok (.istore_n 1, 1) := by decide +kernel
theorem dX5_record_52 : decode cX5_record 52 = .ok (.iload_n 1, 1) := by decide +kernel
theorem dX5_record_53 : decode cX5_record 53 = .ok (.sipush 390, 3) := by decide +kernel
theorem dX5_record_56 : decode cX5_record 56 = .ok (.if_icmp .ge 30, 3) := by decide +kernel
theorem dX5_record_59 : decode cX5_record 59 = .ok (.aload_n 0, 1) := by decide +kernel
theorem dX5_record_60 : decode cX5_record 60 = .ok (.getfield 13, 3) := by decide +kernel
theorem dX5_record_63 : decode cX5_record 63 = .ok (.aload_n 0, 1) := by decide +kernel
theorem dX5_record_64 : decode cX5_record 64 = .ok (.getfield 44, 3) := by decide +kernel
theorem dX5_record_67 : decode cX5_record 67 = .ok (.sipush 390, 3) := by decide +kernel
theorem dX5_record_70 : decode cX5_record 70 = .ok (.imul, 1) := by decide +kernel
theorem dX5_record_71 : decode cX5_record 71 = .ok (.iload_n 1, 1) := by decide +kernel
theorem dX5_record_72 : decode cX5_record 72 = .ok (.iadd, 1) := by decide +kernel
theorem dX5_record_73 : decode cX5_record 73 = .ok (.aload_n 0, 1) := by decide +kernel
theorem dX5_record_74 : decode cX5_record 74 = .ok (.getfield 7, 3) := by decide +kernel
theorem dX5_record_77 : decode cX5_record 77 = .ok (.iload_n 1, 1) := by decide +kernel
theorem dX5_record_78 : decode cX5_record 78 = .ok (.iaload, 1) := by decide +kernel
theorem dX5_record_79 : decode cX5_record 79 = .ok (.iastore, 1) := by decide +kernel
theorem dX5_record_80 : decode cX5_record 80 = .ok (.iinc 1 1, 3) := by decide +kernel
theorem dX5_record_83 : decode cX5_record 83 = .ok (.goto (-31), 3) := by decide +kernel
theorem dX5_record_86 : decode cX5_record 86 = .ok (.aload_n 0, 1) := by decide +kernel
theorem dX5_record_87 : decode cX5_record 87 = .ok (.dup, 1) := by decide +kernel
theorem dX5_record_88 : decode cX5_record 88 = .ok (.getfield 44, 3) := by decide +kernel
theorem dX5_record_91 : decode cX5_record 91 = .ok (.iconst 1, 1) := by decide +kernel
theorem dX5_record_92 : decode cX5_record 92 = .ok (.iadd, 1) := by decide +kernel
theorem dX5_record_93 : decode cX5_record 93 = .ok (.putfield 44, 3) := by decide +kernel
theorem dX5_record_96 : decode cX5_record 96 = .ok (.return_, 1) := by decide +kernel
theorem dX5_undo_0 : decode cX5_undo 0 = .ok (.aload_n 0, 1) := by decide +kernel
theorem dX5_undo_1 : decode cX5_undo 1 = .ok (.getfield 44, 3) := by decide +kernel
theorem dX5_undo_4 : decode cX5_undo 4 = .ok (.ifCond .ne 6, 3) := by decide +kernel
theorem dX5_undo_7 : decode cX5_undo 7 = .ok (.bipush (-5), 2) := by decide +kernel
theorem dX5_undo_9 : decode cX5_undo 9 = .ok (.ireturn, 1) := by decide +kernel
theorem dX5_undo_10 : decode cX5_undo 10 = .ok (.aload_n 0, 1) := by decide +kernel
theorem dX5_undo_11 : decode cX5_undo 11 = .ok (.dup, 1) := by decide +kernel
theorem dX5_undo_12 : decode cX5_undo 12 = .ok (.getfield 44, 3) := by decide +kernel
theorem dX5_undo_15 : decode cX5_undo 15 = .ok (.iconst 1, 1) := by decide +kernel
theorem dX5_undo_16 : decode cX5_undo 16 = .ok (.isub, 1) := by decide +kernel
theorem dX5_undo_17 : decode cX5_undo 17 = .ok (.putfield 44, 3) := by decide +kernel
theorem dX5_undo_20 : decode cX5_undo 20 = .ok (.iconst 0, 1) := by decide +kernel
theorem dX5_undo_21 : decode cX5_undo 21 = .ok (.istore_n 1, 1) := by decide +kernel
theorem dX5_undo_22 : decode cX5_undo 22 = .ok (.iload_n 1, 1) := by decide +kernel
theorem dX5_undo_23 : decode cX5_undo 23 = .ok (.sipush 390, 3) := by decide +kernel
theorem dX5_undo_26 : decode cX5_undo 26 = .ok (.if_icmp .ge 30, 3) := by decide +kernel
theorem dX5_undo_29 : decode cX5_undo 29 = .ok (.aload_n 0, 1) := by decide +kernel
theorem dX5_undo_30 : decode cX5_undo 30 = .ok (.getfield 7, 3) := by decide +kernel
theorem dX5_undo_33 : decode cX5_undo 33 = .ok (.iload_n 1, 1) := by decide +kernel
theorem dX5_undo_34 : decode cX5_undo 34 = .ok (.aload_n 0, 1) := by decide +kernel
theorem dX5_undo_35 : decode cX5_undo 35 = .ok (.getfield 13, 3) := by decide +kernel
theorem dX5_undo_38 : decode cX5_undo 38 = .ok (.aload_n 0, 1) := by decide +kernel
theorem dX5_undo_39 : decode cX5_undo 39 = .ok (.getfield 44, 3) := by decide +kernel
theorem dX5_undo_42 : decode cX5_undo 42 = .ok (.sipush 390, 3) := by decide +kernel
theorem dX5_undo_45 : decode cX5_undo 45 = .ok (.imul, 1) := by decide +kernel
theorem dX5_undo_46 : decode cX5_undo 46 = .ok (.iload_n 1, 1) := by decide +kernel
theorem dX5_undo_47 : decode cX5_undo 47 = .ok (.iadd, 1) := by decide +kernel
theorem dX5_undo_48 : decode cX5_undo 48 = .ok (.iaload, 1) := by decide +kernel
theorem dX5_undo_49 : decode cX5_undo 49 = .ok (.iastore, 1) := by decide +kernel
theorem dX5_undo_50 : decode cX5_undo 50 = .ok (.iinc 1 1, 3) := by decide +kernel
theorem dX5_undo_53 : decode cX5_undo 53 = .ok (.goto (-31), 3) := by decide +kernel
theorem dX5_undo_56 : decode cX5_undo 56 = .ok (.aload_n 0, 1) := by decide +kernel
theorem dX5_undo_57 : decode cX5_undo 57 = .ok (.getfield 44, 3) := by decide +kernel
theorem dX5_undo_60 : decode cX5_undo 60 = .ok (.ireturn, 1) := by decide +kernel
set_option maxRecDepth 20000 in
theorem ggX5_lengths_X5_lengthOf : GoodIn wsX5_lengths wsX5_lengthOf := goodIn_r _ [5, 6, 7, 8, 9, 10, 11, 12, 13, 14, 15, 16, 17] (by decide +kernel) (by decide +kernel)
set_option maxRecDepth 20000 in
theorem gX5_lengths_X5_lengthOf : GoodIn wsX5_lengths (wsV RX5 40 RX5 yX5_lengthOf wsX5_lengthOf) := goodIn_app (goodIn_of _ (by decide +kernel)) ggX5_lengths_X5_lengthOf
theorem dX5_lengths_0 : decode cX5_lengths 0 = .ok (.iconst 0, 1) := by decide +kernel
theorem dX5_lengths_1 : decode cX5_lengths 1 = .ok (.istore_n 1, 1) := by decide +kernel
theorem dX5_lengths_2 : decode cX5_lengths 2 = .ok (.iconst 0, 1) := by decide +kernel
theorem dX5_lengths_3 : decode cX5_lengths 3 = .ok (.istore_n 2, 1) := by decide +kernel
theorem dX5_lengths_4 : decode cX5_lengths 4 = .ok (.iload_n 2, 1) := by decide +kernel
theorem dX5_lengths_5 : decode cX5_lengths 5 = .ok (.bipush 6, 2) := by decide +kernel
theorem dX5_lengths_7 : decode cX5_lengths 7 = .ok (.if_icmp .ge 17, 3) := by decide +kernel
theorem dX5_lengths_10 : decode cX5_lengths 10 = .ok (.iload_n 1, 1) := by decide +kernel
theorem dX5_lengths_11 : decode cX5_lengths 11 = .ok (.aload_n 0, 1) := by decide +kernel
theorem dX5_lengths_12 : decode cX5_lengths 12 = .ok (.iload_n 2, 1) := by decide +kernel
theorem dX5_lengths_13 : decode cX5_lengths 13 = .ok (.invokevirtual 40, 3) := by decide +kernel
theorem dX5_lengths_16 : decode cX5_lengths 16 = .ok (.iadd, 1) := by decide +kernel
theorem dX5_lengths_17 : decode cX5_lengths 17 = .ok (.istore_n 1, 1) := by decide +kernel
theorem dX5_lengths_18 : decode cX5_lengths 18 = .ok (.iinc 2 1, 3) := by decide +kernel
theorem dX5_lengths_21 : decode cX5_lengths 21 = .ok (.goto (-17), 3) := by decide +kernel
theorem dX5_lengths_24 : decode cX5_lengths 24 = .ok (.iload_n 1, 1) := by decide +kernel
theorem dX5_lengths_25 : decode cX5_lengths 25 = .ok (.ireturn, 1) := by decide +kernel
set_option maxRecDepth 20000 in
theorem ggX5_save_X5_in : GoodIn wsX5_save wsX5_in := goodIn_r _ [7] (by decide +kernel) (by decide +kernel)
set_option maxRecDepth 20000 in
theorem gX5_save_X5_in : GoodIn wsX5_save (va_wsS RX5 36 yX5_in wsX5_in) := goodIn_app (goodIn_of _ (by decide +kernel)) ggX5_save_X5_in
set_option maxRecDepth 20000 in
theorem ggX5_save_X5_lengths : GoodIn wsX5_save wsX5_lengths := goodIn_r _ [11, 12, 13, 14, 6, 15, 3, 16, 17, 18, 19, 20, 21, 22, 23, 24, 25, 26] (by decide +kernel) (by decide +kernel)
set_option maxRecDepth 20000 in
theorem gX5_save_X5_lengths : GoodIn wsX5_save (wsV RX5 48 RX5 yX5_lengths wsX5_lengths) := goodIn_app (goodIn_of _ (by decide +kernel)) ggX5_save_X5_lengths
theorem dX5_save_0 : decode cX5_save 0 = .ok (.iload_n 1, 1) := by decide +kernel
theorem dX5_save_1 : decode cX5_save 1 = .ok (.iconst 0, 1) := by decide +kernel
theorem dX5_save_2 : decode cX5_save 2 = .ok (.iconst 1, 1) := by decide +kernel
theorem dX5_save_3 : decode cX5_save 3 = .ok (.invokestatic 36, 3) := by decide +kernel
theorem dX5_save_6 : decode cX5_save 6 = .ok (.ifCond .ne 6, 3) := by decide +kernel
theorem dX5_save_9 : decode cX5_save 9 = .ok (.bipush (-2), 2) := by decide +kernel
theorem dX5_save_11 : decode cX5_save 11 = .ok (.ireturn, 1) := by decide +kernel
theorem dX5_save_12 : decode cX5_save 12 = .ok (.aload_n 0, 1) := by decide +kernel
theorem dX5_save_13 : decode cX5_save 13 = .ok (.getfield 19, 3) := by decide +kernel
theorem dX5_save_16 : decode cX5_save 16 = .ok (.iload_n 1, 1) := by decide +kernel
theorem dX5_save_17 : decode cX5_save 17 = .ok (.iconst 1, 1) := by decide +kernel
theorem dX5_save_18 : decode cX5_save 18 = .ok (.bastore, 1) := by decide +kernel
theorem dX5_save_19 : decode cX5_save 19 = .ok (.iconst 0, 1) := by decide +kernel
theorem dX5_save_20 : decode cX5_save 20 = .ok (.istore_n 2, 1) := by decide +kernel
theorem dX5_save_21 : decode cX5_save 21 = .ok (.iload_n 2, 1) := by decide +kernel
theorem dX5_save_22 : decode cX5_save 22 = .ok (.sipush 390, 3) := by decide +kernel
theorem dX5_save_25 : decode cX5_save 25 = .ok (.if_icmp .ge 27, 3) := by decide +kernel
theorem dX5_save_28 : decode cX5_save 28 = .ok (.aload_n 0, 1) := by decide +kernel
theorem dX5_save_29 : decode cX5_save 29 = .ok (.getfield 16, 3) := by decide +kernel
theorem dX5_save_32 : decode cX5_save 32 = .ok (.iload_n 1, 1) := by decide +kernel
theorem dX5_save_33 : decode cX5_save 33 = .ok (.sipush 390, 3) := by decide +kernel
theorem dX5_save_36 : decode cX5_save 36 = .ok (.imul, 1) := by decide +kernel
theorem dX5_save_37 : decode cX5_save 37 = .ok (.iload_n 2, 1) := by decide +kernel
theorem dX5_save_38 : decode cX5_save 38 = .ok (.iadd, 1) := by decide +kernel
theorem dX5_save_39 : decode cX5_save 39 = .ok (.aload_n 0, 1) := by decide +kernel
theorem dX5_save_40 : decode cX5_save 40 = .ok (.getfield 7, 3) := by decide +kernel
theorem dX5_save_43 : decode cX5_save 43 = .ok (.iload_n 2, 1) := by decide +kernel
theorem dX5_save_44 : decode cX5_save 44 = .ok (.iaload, 1) := by decide +kernel
theorem dX5_save_45 : decode cX5_save 45 = .ok (.iastore, 1) := by decide +kernel
theorem dX5_save_46 : decode cX5_save 46 = .ok (.iinc 2 1, 3) := by decide +kernel
theorem dX5_save_49 : decode cX5_save 49 = .ok (.goto (-28), 3) := by decide +kernel
theorem dX5_save_52 : decode cX5_save 52 = .ok (.aload_n 0, 1) := by decide +kernel
theorem dX5_save_53 : decode cX5_save 53 = .ok (.invokevirtual 48, 3) := by decide +kernel
theorem dX5_save_56 : decode cX5_save 56 = .ok (.ireturn, 1) := by decide +kernel
set_option maxRecDepth 20000 in
theorem ggX5_restore_X5_in : GoodIn wsX5_restore wsX5_in := goodIn_r _ [7] (by decide +kernel) (by decide +kernel)
set_option maxRecDepth 20000 in
theorem gX5_restore_X5_in : GoodIn wsX5_restore (va_wsS RX5 36 yX5_in wsX5_in) := goodIn_app (goodIn_of _ (by decide +kernel)) ggX5_restore_X5_in
set_option maxRecDepth 20000 in
theorem ggX5_restore_X5_record : GoodIn wsX5_restore wsX5_record := goodIn_r _ [11, 12, 13, 2, 22, 23, 24, 25, 26, 27, 28, 29, 30, 31, 32] (by decide +kernel) (by decide +kernel)
set_option maxRecDepth 20000 in
theorem gX5_restore_X5_record : GoodIn wsX5_restore (wsV RX5 52 RX5 yX5_record wsX5_record) := goodIn_app (goodIn_of _ (by decide +kernel)) ggX5_restore_X5_record
set_option maxRecDepth 20000 in
theorem ggX5_restore_X5_lengths : GoodIn wsX5_restore wsX5_lengths := goodIn_r _ [17, 18, 19, 20, 6, 21, 2, 22, 23, 24, 25, 26, 27, 28, 29, 30, 31, 32] (by decide +kernel) (by decide +kernel)
set_option maxRecDepth 20000 in
theorem gX5_restore_X5_lengths : GoodIn wsX5_restore (wsV RX5 48 RX5 yX5_lengths wsX5_lengths) := goodIn_app (goodIn_of _ (by decide +kernel)) ggX5_restore_X5_lengths
theorem dX5_restore_0 : decode cX5_restore 0 = .ok (.iload_n 1, 1) := by decide +kernel
theorem dX5_restore_1 : decode cX5_restore 1 = .ok (.iconst 0, 1) := by decide +kernel
theorem dX5_restore_2 : decode cX5_restore 2 = .ok (.iconst 1, 1) := by decide +kernel
theorem dX5_restore_3 : decode cX5_restore 3 = .ok (.invokestatic 36, 3) := by decide +kernel
theorem dX5_restore_6 : decode cX5_restore 6 = .ok (.ifCond .ne 6, 3) := by decide +kernel
theorem dX5_restore_9 : decode cX5_restore 9 = .ok (.bipush (-2), 2) := by decide +kernel
theorem dX5_restore_11 : decode cX5_restore 11 = .ok (.ireturn, 1) := by decide +kernel
theorem dX5_restore_12 : decode cX5_restore 12 = .ok (.aload_n 0, 1) := by decide +kernel
theorem dX5_restore_13 : decode cX5_restore 13 = .ok (.getfield 19, 3) := by decide +kernel
theorem dX5_restore_16 : decode cX5_restore 16 = .ok (.iload_n 1, 1) := by decide +kernel
theorem dX5_restore_17 : decode cX5_restore 17 = .ok (.baload, 1) := by decide +kernel
theorem dX5_restore_18 : decode cX5_restore 18 = .ok (.ifCond .ne 6, 3) := by decide +kernel
theorem dX5_restore_21 : decode cX5_restore 21 = .ok (.bipush (-5), 2) := by decide +kernel
theorem dX5_restore_23 : decode cX5_restore 23 = .ok (.ireturn, 1) := by decide +kernel
theorem dX5_restore_24 : decode cX5_restore 24 = .ok (.aload_n 0, 1) := by decide +kernel
theorem dX5_restore_25 : decode cX5_restore 25 = .ok (.invokevirtual 52, 3) := by decide +kernel
theorem dX5_restore_28 : decode cX5_restore 28 = .ok (.iconst 0, 1) := by decide +kernel
theorem dX5_restore_29 : decode cX5_restore 29 = .ok (.istore_n 2, 1) := by decide +kernel
theorem dX5_restore_30 : decode cX5_restore 30 = .ok (.iload_n 2, 1) := by decide +kernel
theorem dX5_restore_31 : decode cX5_restore 31 = .ok (.sipush 390, 3) := by decide +kernel
theorem dX5_restore_34 : decode cX5_restore 34 = .ok (.if_icmp .ge 27, 3) := by decide +kernel
theorem dX5_restore_37 : decode cX5_restore 37 = .ok (.aload_n 0, 1) := by decide +kernel
theorem dX5_restore_38 : decode cX5_restore 38 = .ok (.getfield 7, 3) := by decide +kernel
theorem dX5_restore_41 : decode cX5_restore 41 = .ok (.iload_n 2, 1) := by decide +kernel
theorem dX5_restore_42 : decode cX5_restore 42 = .ok (.aload_n 0, 1) := by decide +kernel
theorem dX5_restore_43 : decode cX5_restore 43 = .ok (.getfield 16, 3) := by decide +kernel
theorem dX5_restore_46 : decode cX5_restore 46 = .ok (.iload_n 1, 1) := by decide +kernel
theorem dX5_restore_47 : decode cX5_restore 47 = .ok (.sipush 390, 3) := by decide +kernel
theorem dX5_restore_50 : decode cX5_restore 50 = .ok (.imul, 1) := by decide +kernel
theorem dX5_restore_51 : decode cX5_restore 51 = .ok (.iload_n 2, 1) := by decide +kernel
theorem dX5_restore_52 : decode cX5_restore 52 = .ok (.iadd, 1) := by decide +kernel
theorem dX5_restore_53 : decode cX5_restore 53 = .ok (.iaload, 1) := by decide +kernel
theorem dX5_restore_54 : decode cX5_restore 54 = .ok (.iastore, 1) := by decide +kernel
theorem dX5_restore_55 : decode cX5_restore 55 = .ok (.iinc 2 1, 3) := by decide +kernel
theorem dX5_restore_58 : decode cX5_restore 58 = .ok (.goto (-28), 3) := by decide +kernel
theorem dX5_restore_61 : decode cX5_restore 61 = .ok (.aload_n 0, 1) := by decide +kernel
theorem dX5_restore_62 : decode cX5_restore 62 = .ok (.invokevirtual 48, 3) := by decide +kernel
theorem dX5_restore_65 : decode cX5_restore 65 = .ok (.ireturn, 1) := by decide +kernel
theorem dX5_times_0 : decode cX5_times 0 = .ok (.iload_n 0, 1) := by decide +kernel
theorem dX5_times_1 : decode cX5_times 1 = .ok (.iload_n 1, 1) := by decide +kernel
theorem dX5_times_2 : decode cX5_times 2 = .ok (.imul, 1) := by decide +kernel
theorem dX5_times_3 : decode cX5_times 3 = .ok (.sipush 257, 3) := by decide +kernel
theorem dX5_times_6 : decode cX5_times 6 = .ok (.irem, 1) := by decide +kernel
theorem dX5_times_7 : decode cX5_times 7 = .ok (.ireturn, 1) := by decide +kernel
theorem dX5_less_0 : decode cX5_less 0 = .ok (.iload_n 0, 1) := by decide +kernel
theorem dX5_less_1 : decode cX5_less 1 = .ok (.sipush 257, 3) := by decide +kernel
theorem dX5_less_4 : decode cX5_less 4 = .ok (.iadd, 1) := by decide +kernel
theorem dX5_less_5 : decode cX5_less 5 = .ok (.iload_n 1, 1) := by decide +kernel
theorem dX5_less_6 : decode cX5_less 6 = .ok (.isub, 1) := by decide +kernel
theorem dX5_less_7 : decode cX5_less 7 = .ok (.sipush 257, 3) := by decide +kernel
theorem dX5_less_10 : decode cX5_less 10 = .ok (.irem, 1) := by decide +kernel
theorem dX5_less_11 : decode cX5_less 11 = .ok (.ireturn, 1) := by decide +kernel
set_option maxRecDepth 20000 in
theorem ggX5_raised_X5_times : GoodIn wsX5_raised wsX5_times := goodIn_r _ [4] (by decide +kernel) (by decide +kernel)
set_option maxRecDepth 20000 in
theorem gX5_raised_X5_times : GoodIn wsX5_raised (va_wsS RX5 55 yX5_times wsX5_times) := goodIn_app (goodIn_of _ (by decide +kernel)) ggX5_raised_X5_times
theorem dX5_raised_0 : decode cX5_raised 0 = .ok (.iconst 1, 1) := by decide +kernel
theorem dX5_raised_1 : decode cX5_raised 1 = .ok (.istore_n 2, 1) := by decide +kernel
theorem dX5_raised_2 : decode cX5_raised 2 = .ok (.iconst 0, 1) := by decide +kernel
theorem dX5_raised_3 : decode cX5_raised 3 = .ok (.istore_n 3, 1) := by decide +kernel
theorem dX5_raised_4 : decode cX5_raised 4 = .ok (.iload_n 3, 1) := by decide +kernel
theorem dX5_raised_5 : decode cX5_raised 5 = .ok (.iload_n 1, 1) := by decide +kernel
theorem dX5_raised_6 : decode cX5_raised 6 = .ok (.if_icmp .ge 15, 3) := by decide +kernel
theorem dX5_raised_9 : decode cX5_raised 9 = .ok (.iload_n 2, 1) := by decide +kernel
theorem dX5_raised_10 : decode cX5_raised 10 = .ok (.iload_n 0, 1) := by decide +kernel
theorem dX5_raised_11 : decode cX5_raised 11 = .ok (.invokestatic 55, 3) := by decide +kernel
theorem dX5_raised_14 : decode cX5_raised 14 = .ok (.istore_n 2, 1) := by decide +kernel
theorem dX5_raised_15 : decode cX5_raised 15 = .ok (.iinc 3 1, 3) := by decide +kernel
theorem dX5_raised_18 : decode cX5_raised 18 = .ok (.goto (-14), 3) := by decide +kernel
theorem dX5_raised_21 : decode cX5_raised 21 = .ok (.iload_n 2, 1) := by decide +kernel
theorem dX5_raised_22 : decode cX5_raised 22 = .ok (.ireturn, 1) := by decide +kernel
set_option maxRecDepth 20000 in
theorem ggX5_over_X5_raised : GoodIn wsX5_over wsX5_raised := goodIn_r _ [4, 5, 6, 3, 7] (by decide +kernel) (by decide +kernel)
set_option maxRecDepth 20000 in
theorem gX5_over_X5_raised : GoodIn wsX5_over (va_wsS RX5 59 yX5_raised wsX5_raised) := goodIn_app (goodIn_of _ (by decide +kernel)) ggX5_over_X5_raised
theorem dX5_over_0 : decode cX5_over 0 = .ok (.iload_n 0, 1) := by decide +kernel
theorem dX5_over_1 : decode cX5_over 1 = .ok (.sipush 255, 3) := by decide +kernel
theorem dX5_over_4 : decode cX5_over 4 = .ok (.invokestatic 59, 3) := by decide +kernel
theorem dX5_over_7 : decode cX5_over 7 = .ok (.ireturn, 1) := by decide +kernel
theorem dX5_blank_0 : decode cX5_blank 0 = .ok (.aload_n 0, 1) := by decide +kernel
theorem dX5_blank_1 : decode cX5_blank 1 = .ok (.iload_n 1, 1) := by decide +kernel
theorem dX5_blank_2 : decode cX5_blank 2 = .ok (.putfield 62, 3) := by decide +kernel
theorem dX5_blank_5 : decode cX5_blank 5 = .ok (.iconst 0, 1) := by decide +kernel
theorem dX5_blank_6 : decode cX5_blank 6 = .ok (.istore_n 2, 1) := by decide +kernel
theorem dX5_blank_7 : decode cX5_blank 7 = .ok (.iload_n 2, 1) := by decide +kernel
theorem dX5_blank_8 : decode cX5_blank 8 = .ok (.bipush 64, 2) := by decide +kernel
theorem dX5_blank_10 : decode cX5_blank 10 = .ok (.if_icmp .ge 16, 3) := by decide +kernel
theorem dX5_blank_13 : decode cX5_blank 13 = .ok (.aload_n 0, 1) := by decide +kernel
theorem dX5_blank_14 : decode cX5_blank 14 = .ok (.getfield 27, 3) := by decide +kernel
theorem dX5_blank_17 : decode cX5_blank 17 = .ok (.iload_n 2, 1) := by decide +kernel
theorem dX5_blank_18 : decode cX5_blank 18 = .ok (.iconst 0, 1) := by decide +kernel
theorem dX5_blank_19 : decode cX5_blank 19 = .ok (.iastore, 1) := by decide +kernel
theorem dX5_blank_20 : decode cX5_blank 20 = .ok (.iinc 2 1, 3) := by decide +kernel
theorem dX5_blank_23 : decode cX5_blank 23 = .ok (.goto (-16), 3) := by decide +kernel
theorem dX5_blank_26 : decode cX5_blank 26 = .ok (.return_, 1) := by decide +kernel
theorem dX5_store_0 : decode cX5_store 0 = .ok (.aload_n 0, 1) := by decide +kernel
theorem dX5_store_1 : decode cX5_store 1 = .ok (.getfield 7, 3) := by decide +kernel
theorem dX5_store_4 : decode cX5_store 4 = .ok (.bipush 65, 2) := by decide +kernel
theorem dX5_store_6 : decode cX5_store 6 = .ok (.iload_n 1, 1) := by decide +kernel
theorem dX5_store_7 : decode cX5_store 7 = .ok (.imul, 1) := by decide +kernel
theorem dX5_store_8 : decode cX5_store 8 = .ok (.aload_n 0, 1) := by decide +kernel
theorem dX5_store_9 : decode cX5_store 9 = .ok (.getfield 62, 3) := by decide +kernel
theorem dX5_store_12 : decode cX5_store 12 = .ok (.iastore, 1) := by decide +kernel
theorem dX5_store_13 : decode cX5_store 13 = .ok (.iconst 0, 1) := by decide +kernel
theorem dX5_store_14 : decode cX5_store 14 = .ok (.istore_n 2, 1) := by decide +kernel
theorem dX5_store_15 : decode cX5_store 15 = .ok (.iload_n 2, 1) := by decide +kernel
theorem dX5_store_16 : decode cX5_store 16 = .ok (.bipush 64, 2) := by decide +kernel
theorem dX5_store_18 : decode cX5_store 18 = .ok (.if_icmp .ge 40, 3) := by decide +kernel
theorem dX5_store_21 : decode cX5_store 21 = .ok (.aload_n 0, 1) := by decide +kernel
theorem dX5_store_22 : decode cX5_store 22 = .ok (.getfield 7, 3) := by decide +kernel
theorem dX5_store_25 : decode cX5_store 25 = .ok (.bipush 65, 2) := by decide +kernel
theorem dX5_store_27 : decode cX5_store 27 = .ok (.iload_n 1, 1) := by decide +kernel
theorem dX5_store_28 : decode cX5_store 28 = .ok (.imul, 1) := by decide +kernel
theorem dX5_store_29 : decode cX5_store 29 = .ok (.iconst 1, 1) := by decide +kernel
theorem dX5_store_30 : decode cX5_store 30 = .ok (.iadd, 1) := by decide +kernel
theorem dX5_store_31 : decode cX5_store 31 = .ok (.iload_n 2, 1) := by decide +kernel
theorem dX5_store_32 : decode cX5_store 32 = .ok (.iadd, 1) := by decide +kernel
theorem dX5_store_33 : decode cX5_store 33 = .ok (.iload_n 2, 1) := by decide +kernel
theorem dX5_store_34 : decode cX5_store 34 = .ok (.aload_n 0, 1) := by decide +kernel
theorem dX5_store_35 : decode cX5_store 35 = .ok (.getfield 62, 3) := by decide +kernel
theorem dX5_store_38 : decode cX5_store 38 = .ok (.if_icmp .ge 12, 3) := by decide +kernel
theorem dX5_store_41 : decode cX5_store 41 = .ok (.aload_n 0, 1) := by decide +kernel
theorem dX5_store_42 : decode cX5_store 42 = .ok (.getfield 27, 3) := by decide +kernel
theorem dX5_store_45 : decode cX5_store 45 = .ok (.iload_n 2, 1) := by decide +kernel
theorem dX5_store_46 : decode cX5_store 46 = .ok (.iaload, 1) := by decide +kernel
theorem dX5_store_47 : decode cX5_store 47 = .ok (.goto 4, 3) := by decide +kernel
theorem dX5_store_50 : decode cX5_store 50 = .ok (.iconst 0, 1) := by decide +kernel
theorem dX5_store_51 : decode cX5_store 51 = .ok (.iastore, 1) := by decide +kernel
theorem dX5_store_52 : decode cX5_store 52 = .ok (.iinc 2 1, 3) := by decide +kernel
theorem dX5_store_55 : decode cX5_store 55 = .ok (.goto (-40), 3) := by decide +kernel
theorem dX5_store_58 : decode cX5_store 58 = .ok (.return_, 1) := by decide +kernel
set_option maxRecDepth 20000 in
theorem ggX5_degreeOf_X5_lengthOf : GoodIn wsX5_degreeOf wsX5_lengthOf := goodIn_r _ [5, 6, 11, 12, 13, 14, 15, 16, 17, 18, 19, 20, 21] (by decide +kernel) (by decide +kernel)
set_option maxRecDepth 20000 in
theorem gX5_degreeOf_X5_lengthOf : GoodIn wsX5_degreeOf (wsV RX5 40 RX5 yX5_lengthOf wsX5_lengthOf) := goodIn_app (goodIn_of _ (by decide +kernel)) ggX5_degreeOf_X5_lengthOf
set_option maxRecDepth 20000 in
theorem ggX5_degreeOf_X5_at : GoodIn wsX5_degreeOf wsX5_at := goodIn_r _ [10, 6, 1, 2, 3, 4, 5, 11, 12, 13, 14, 15, 16, 17, 18, 19, 20, 21] (by decide +kernel) (by decide +kernel)
set_option maxRecDepth 20000 in
theorem gX5_degreeOf_X5_at : GoodIn wsX5_degreeOf (wsV RX5 65 RX5 yX5_at wsX5_at) := goodIn_app (goodIn_of _ (by decide +kernel)) ggX5_degreeOf_X5_at
theorem dX5_degreeOf_0 : decode cX5_degreeOf 0 = .ok (.bipush (-6), 2) := by decide +kernel
theorem dX5_degreeOf_2 : decode cX5_degreeOf 2 = .ok (.istore_n 2, 1) := by decide +kernel
theorem dX5_degreeOf_3 : decode cX5_degreeOf 3 = .ok (.iconst 0, 1) := by decide +kernel
theorem dX5_degreeOf_4 : decode cX5_degreeOf 4 = .ok (.istore_n 3, 1) := by decide +kernel
theorem dX5_degreeOf_5 : decode cX5_degreeOf 5 = .ok (.iload_n 3, 1) := by decide +kernel
theorem dX5_degreeOf_6 : decode cX5_degreeOf 6 = .ok (.aload_n 0, 1) := by decide +kernel
theorem dX5_degreeOf_7 : decode cX5_degreeOf 7 = .ok (.iload_n 1, 1) := by decide +kernel
theorem dX5_degreeOf_8 : decode cX5_degreeOf 8 = .ok (.invokevirtual 40, 3) := by decide +kernel
theorem dX5_degreeOf_11 : decode cX5_degreeOf 11 = .ok (.if_icmp .ge 24, 3) := by decide +kernel
theorem dX5_degreeOf_14 : decode cX5_degreeOf 14 = .ok (.aload_n 0, 1) := by decide +kernel
theorem dX5_degreeOf_15 : decode cX5_degreeOf 15 = .ok (.iload_n 1, 1) := by decide +kernel
theorem dX5_degreeOf_16 : decode cX5_degreeOf 16 = .ok (.iload_n 3, 1) := by decide +kernel
theorem dX5_degreeOf_17 : decode cX5_degreeOf 17 = .ok (.invokevirtual 65, 3) := by decide +kernel
theorem dX5_degreeOf_20 : decode cX5_degreeOf 20 = .ok (.ifCond .ne 7, 3) := by decide +kernel
theorem dX5_degreeOf_23 : decode cX5_degreeOf 23 = .ok (.iload_n 2, 1) := by decide +kernel
theorem dX5_degreeOf_24 : decode cX5_degreeOf 24 = .ok (.goto 4, 3) := by decide +kernel
theorem dX5_degreeOf_27 : decode cX5_degreeOf 27 = .ok (.iload_n 3, 1) := by decide +kernel
theorem dX5_degreeOf_28 : decode cX5_degreeOf 28 = .ok (.istore_n 2, 1) := by decide +kernel
theorem dX5_degreeOf_29 : decode cX5_degreeOf 29 = .ok (.iinc 3 1, 3) := by decide +kernel
theorem dX5_degreeOf_32 : decode cX5_degreeOf 32 = .ok (.goto (-27), 3) := by decide +kernel
theorem dX5_degreeOf_35 : decode cX5_degreeOf 35 = .ok (.iload_n 2, 1) := by decide +kernel
theorem dX5_degreeOf_36 : decode cX5_degreeOf 36 = .ok (.ireturn, 1) := by decide +kernel
theorem dX5_degreeOut_0 : decode cX5_degreeOut 0 = .ok (.bipush (-6), 2) := by decide +kernel
theorem dX5_degreeOut_2 : decode cX5_degreeOut 2 = .ok (.istore_n 1, 1) := by decide +kernel
theorem dX5_degreeOut_3 : decode cX5_degreeOut 3 = .ok (.iconst 0, 1) := by decide +kernel
theorem dX5_degreeOut_4 : decode cX5_degreeOut 4 = .ok (.istore_n 2, 1) := by decide +kernel
theorem dX5_degreeOut_5 : decode cX5_degreeOut 5 = .ok (.iload_n 2, 1) := by decide +kernel
theorem dX5_degreeOut_6 : decode cX5_degreeOut 6 = .ok (.aload_n 0, 1) := by decide +kernel
theorem dX5_degreeOut_7 : decode cX5_degreeOut 7 = .ok (.getfield 62, 3) := by decide +kernel
theorem dX5_degreeOut_10 : decode cX5_degreeOut 10 = .ok (.if_icmp .ge 24, 3) := by decide +kernel
theorem dX5_degreeOut_13 : decode cX5_degreeOut 13 = .ok (.aload_n 0, 1) := by decide +kernel
theorem dX5_degreeOut_14 : decode cX5_degreeOut 14 = .ok (.getfield 27, 3) := by decide +kernel
theorem dX5_degreeOut_17 : decode cX5_degreeOut 17 = .ok (.iload_n 2, 1) := by decide +kernel
theorem dX5_degreeOut_18 : decode cX5_degreeOut 18 = .ok (.iaload, 1) := by decide +kernel
theorem dX5_degreeOut_19 : decode cX5_degreeOut 19 = .ok (.ifCond .ne 7, 3) := by decide +kernel
theorem dX5_degreeOut_22 : decode cX5_degreeOut 22 = .ok (.iload_n 1, 1) := by decide +kernel
theorem dX5_degreeOut_23 : decode cX5_degreeOut 23 = .ok (.goto 4, 3) := by decide +kernel
theorem dX5_degreeOut_26 : decode cX5_degreeOut 26 = .ok (.iload_n 2, 1) := by decide +kernel
theorem dX5_degreeOut_27 : decode cX5_degreeOut 27 = .ok (.istore_n 1, 1) := by decide +kernel
theorem dX5_degreeOut_28 : decode cX5_degreeOut 28 = .ok (.iinc 2 1, 3) := by decide +kernel
theorem dX5_degreeOut_31 : decode cX5_degreeOut 31 = .ok (.goto (-26), 3) := by decide +kernel
theorem dX5_degreeOut_34 : decode cX5_degreeOut 34 = .ok (.iload_n 1, 1) := by decide +kernel
theorem dX5_degreeOut_35 : decode cX5_degreeOut 35 = .ok (.ireturn, 1) := by decide +kernel
set_option maxRecDepth 20000 in
theorem ggX5_set_X5_isRegister : GoodIn wsX5_set wsX5_isRegister := goodIn_r _ [5, 6, 7, 4, 8] (by decide +kernel) (by decide +kernel)
set_option maxRecDepth 20000 in
theorem gX5_set_X5_isRegister : GoodIn wsX5_set (va_wsS RX5 68 yX5_isRegister wsX5_isRegister) := goodIn_app (goodIn_of _ (by decide +kernel)) ggX5_set_X5_isRegister
set_option maxRecDepth 20000 in
theorem ggX5_set_X5_lengthOf : GoodIn wsX5_set wsX5_lengthOf := goodIn_r _ [12, 1, 22, 23, 24, 25, 26, 27, 28, 29, 30, 31, 32] (by decide +kernel) (by decide +kernel)
set_option maxRecDepth 20000 in
theorem gX5_set_X5_lengthOf : GoodIn wsX5_set (wsV RX5 40 RX5 yX5_lengthOf wsX5_lengthOf) := goodIn_app (goodIn_of _ (by decide +kernel)) ggX5_set_X5_lengthOf
set_option maxRecDepth 20000 in
theorem ggX5_set_X5_in : GoodIn wsX5_set wsX5_in := goodIn_r _ [8] (by decide +kernel) (by decide +kernel)
set_option maxRecDepth 20000 in
theorem gX5_set_X5_in : GoodIn wsX5_set (va_wsS RX5 36 yX5_in wsX5_in) := goodIn_app (goodIn_of _ (by decide +kernel)) ggX5_set_X5_in
set_option maxRecDepth 20000 in
theorem ggX5_set_X5_isNumber : GoodIn wsX5_set wsX5_isNumber := goodIn_r _ [15, 6, 7, 4, 8] (by decide +kernel) (by decide +kernel)
set_option maxRecDepth 20000 in
theorem gX5_set_X5_isNumber : GoodIn wsX5_set (va_wsS RX5 72 yX5_isNumber wsX5_isNumber) := goodIn_app (goodIn_of _ (by decide +kernel)) ggX5_set_X5_isNumber
set_option maxRecDepth 20000 in
theorem ggX5_set_X5_record : GoodIn wsX5_set wsX5_record := goodIn_r _ [19, 20, 21, 1, 22, 23, 24, 25, 26, 27, 28, 29, 30, 31, 32] (by decide +kernel) (by decide +kernel)
set_option maxRecDepth 20000 in
theorem gX5_set_X5_record : GoodIn wsX5_set (wsV RX5 52 RX5 yX5_record wsX5_record) := goodIn_app (goodIn_of _ (by decide +kernel)) ggX5_set_X5_record
theorem dX5_set_0 : decode cX5_set 0 = .ok (.iload_n 1, 1) := by decide +kernel
theorem dX5_set_1 : decode cX5_set 1 = .ok (.invokestatic 68, 3) := by decide +kernel
theorem dX5_set_4 : decode cX5_set 4 = .ok (.ifCond .eq 16, 3) := by decide +kernel
