theorem dX5_fitsAt_8 : decode cX5_fitsAt 8 = .ok (.aload_n 0, 1) := by decide +kernel
theorem dX5_fitsAt_9 : decode cX5_fitsAt 9 = .ok (.iload_n 2, 1) := by decide +kernel
theorem dX5_fitsAt_10 : decode cX5_fitsAt 10 = .ok (.invokevirtual 40, 3) := by decide +kernel
theorem dX5_fitsAt_13 : decode cX5_fitsAt 13 = .ok (.if_icmp .ge 58, 3) := by decide +kernel
theorem dX5_fitsAt_16 : decode cX5_fitsAt 16 = .ok (.aload_n 0, 1) := by decide +kernel
theorem dX5_fitsAt_17 : decode cX5_fitsAt 17 = .ok (.iload_n 2, 1) := by decide +kernel
theorem dX5_fitsAt_18 : decode cX5_fitsAt 18 = .ok (.iload 5, 2) := by decide +kernel
theorem dX5_fitsAt_20 : decode cX5_fitsAt 20 = .ok (.invokevirtual 65, 3) := by decide +kernel
theorem dX5_fitsAt_23 : decode cX5_fitsAt 23 = .ok (.istore 6, 2) := by decide +kernel
theorem dX5_fitsAt_25 : decode cX5_fitsAt 25 = .ok (.aload_n 0, 1) := by decide +kernel
theorem dX5_fitsAt_26 : decode cX5_fitsAt 26 = .ok (.iload_n 1, 1) := by decide +kernel
theorem dX5_fitsAt_27 : decode cX5_fitsAt 27 = .ok (.iload_n 3, 1) := by decide +kernel
theorem dX5_fitsAt_28 : decode cX5_fitsAt 28 = .ok (.iload 5, 2) := by decide +kernel
theorem dX5_fitsAt_30 : decode cX5_fitsAt 30 = .ok (.iadd, 1) := by decide +kernel
theorem dX5_fitsAt_31 : decode cX5_fitsAt 31 = .ok (.invokevirtual 65, 3) := by decide +kernel
theorem dX5_fitsAt_34 : decode cX5_fitsAt 34 = .ok (.istore 7, 2) := by decide +kernel
theorem dX5_fitsAt_36 : decode cX5_fitsAt 36 = .ok (.iload 4, 2) := by decide +kernel
theorem dX5_fitsAt_38 : decode cX5_fitsAt 38 = .ok (.ifCond .eq 24, 3) := by decide +kernel
theorem dX5_fitsAt_41 : decode cX5_fitsAt 41 = .ok (.iload 6, 2) := by decide +kernel
theorem dX5_fitsAt_43 : decode cX5_fitsAt 43 = .ok (.ifCond .eq 15, 3) := by decide +kernel
theorem dX5_fitsAt_46 : decode cX5_fitsAt 46 = .ok (.iload 7, 2) := by decide +kernel
theorem dX5_fitsAt_48 : decode cX5_fitsAt 48 = .ok (.ifCond .eq 10, 3) := by decide +kernel
theorem dX5_fitsAt_51 : decode cX5_fitsAt 51 = .ok (.iload 6, 2) := by decide +kernel
theorem dX5_fitsAt_53 : decode cX5_fitsAt 53 = .ok (.iload 7, 2) := by decide +kernel
theorem dX5_fitsAt_55 : decode cX5_fitsAt 55 = .ok (.if_icmp .ne 7, 3) := by decide +kernel
theorem dX5_fitsAt_58 : decode cX5_fitsAt 58 = .ok (.iconst 1, 1) := by decide +kernel
theorem dX5_fitsAt_59 : decode cX5_fitsAt 59 = .ok (.goto 4, 3) := by decide +kernel
theorem dX5_fitsAt_62 : decode cX5_fitsAt 62 = .ok (.iconst 0, 1) := by decide +kernel
theorem dX5_fitsAt_63 : decode cX5_fitsAt 63 = .ok (.istore 4, 2) := by decide +kernel
theorem dX5_fitsAt_65 : decode cX5_fitsAt 65 = .ok (.iinc 5 1, 3) := by decide +kernel
theorem dX5_fitsAt_68 : decode cX5_fitsAt 68 = .ok (.goto (-62), 3) := by decide +kernel
theorem dX5_fitsAt_71 : decode cX5_fitsAt 71 = .ok (.iload 4, 2) := by decide +kernel
theorem dX5_fitsAt_73 : decode cX5_fitsAt 73 = .ok (.ireturn, 1) := by decide +kernel
set_option maxRecDepth 20000 in
theorem ggX5_sumAt_X5_lengthOf : GoodIn wsX5_sumAt wsX5_lengthOf := goodIn_r _ [5, 6, 17, 18, 19, 20, 21, 22, 23, 24, 25, 26, 27] (by decide +kernel) (by decide +kernel)
set_option maxRecDepth 20000 in
theorem gX5_sumAt_X5_lengthOf : GoodIn wsX5_sumAt (wsV RX5 40 RX5 yX5_lengthOf wsX5_lengthOf) := goodIn_app (goodIn_of _ (by decide +kernel)) ggX5_sumAt_X5_lengthOf
set_option maxRecDepth 20000 in
theorem ggX5_sumAt_X5_at : GoodIn wsX5_sumAt wsX5_at := goodIn_r _ [10, 6, 1, 2, 3, 4, 5, 17, 18, 19, 20, 21, 22, 23, 24, 25, 26, 27] (by decide +kernel) (by decide +kernel)
set_option maxRecDepth 20000 in
theorem gX5_sumAt_X5_at : GoodIn wsX5_sumAt (wsV RX5 65 RX5 yX5_at wsX5_at) := goodIn_app (goodIn_of _ (by decide +kernel)) ggX5_sumAt_X5_at
set_option maxRecDepth 20000 in
theorem ggX5_sumAt_X5_less : GoodIn wsX5_sumAt wsX5_less := goodIn_r _ [13] (by decide +kernel) (by decide +kernel)
set_option maxRecDepth 20000 in
theorem gX5_sumAt_X5_less : GoodIn wsX5_sumAt (va_wsS RX5 91 yX5_less wsX5_less) := goodIn_app (goodIn_of _ (by decide +kernel)) ggX5_sumAt_X5_less
set_option maxRecDepth 20000 in
theorem ggX5_sumAt_X5_times : GoodIn wsX5_sumAt wsX5_times := goodIn_r _ [16] (by decide +kernel) (by decide +kernel)
set_option maxRecDepth 20000 in
theorem gX5_sumAt_X5_times : GoodIn wsX5_sumAt (va_wsS RX5 55 yX5_times wsX5_times) := goodIn_app (goodIn_of _ (by decide +kernel)) ggX5_sumAt_X5_times
theorem dX5_sumAt_0 : decode cX5_sumAt 0 = .ok (.iconst 0, 1) := by decide +kernel
theorem dX5_sumAt_1 : decode cX5_sumAt 1 = .ok (.istore 4, 2) := by decide +kernel
theorem dX5_sumAt_3 : decode cX5_sumAt 3 = .ok (.iconst 0, 1) := by decide +kernel
theorem dX5_sumAt_4 : decode cX5_sumAt 4 = .ok (.istore 5, 2) := by decide +kernel
theorem dX5_sumAt_6 : decode cX5_sumAt 6 = .ok (.iload 5, 2) := by decide +kernel
theorem dX5_sumAt_8 : decode cX5_sumAt 8 = .ok (.aload_n 0, 1) := by decide +kernel
theorem dX5_sumAt_9 : decode cX5_sumAt 9 = .ok (.iload_n 2, 1) := by decide +kernel
theorem dX5_sumAt_10 : decode cX5_sumAt 10 = .ok (.invokevirtual 40, 3) := by decide +kernel
theorem dX5_sumAt_13 : decode cX5_sumAt 13 = .ok (.if_icmp .ge 60, 3) := by decide +kernel
theorem dX5_sumAt_16 : decode cX5_sumAt 16 = .ok (.aload_n 0, 1) := by decide +kernel
theorem dX5_sumAt_17 : decode cX5_sumAt 17 = .ok (.iload_n 2, 1) := by decide +kernel
theorem dX5_sumAt_18 : decode cX5_sumAt 18 = .ok (.iload 5, 2) := by decide +kernel
theorem dX5_sumAt_20 : decode cX5_sumAt 20 = .ok (.invokevirtual 65, 3) := by decide +kernel
theorem dX5_sumAt_23 : decode cX5_sumAt 23 = .ok (.istore 6, 2) := by decide +kernel
theorem dX5_sumAt_25 : decode cX5_sumAt 25 = .ok (.aload_n 0, 1) := by decide +kernel
theorem dX5_sumAt_26 : decode cX5_sumAt 26 = .ok (.iload_n 1, 1) := by decide +kernel
theorem dX5_sumAt_27 : decode cX5_sumAt 27 = .ok (.iload_n 3, 1) := by decide +kernel
theorem dX5_sumAt_28 : decode cX5_sumAt 28 = .ok (.iload 5, 2) := by decide +kernel
theorem dX5_sumAt_30 : decode cX5_sumAt 30 = .ok (.iadd, 1) := by decide +kernel
theorem dX5_sumAt_31 : decode cX5_sumAt 31 = .ok (.invokevirtual 65, 3) := by decide +kernel
theorem dX5_sumAt_34 : decode cX5_sumAt 34 = .ok (.istore 7, 2) := by decide +kernel
theorem dX5_sumAt_36 : decode cX5_sumAt 36 = .ok (.iload 6, 2) := by decide +kernel
theorem dX5_sumAt_38 : decode cX5_sumAt 38 = .ok (.iload 7, 2) := by decide +kernel
theorem dX5_sumAt_40 : decode cX5_sumAt 40 = .ok (.invokestatic 91, 3) := by decide +kernel
theorem dX5_sumAt_43 : decode cX5_sumAt 43 = .ok (.istore 8, 2) := by decide +kernel
theorem dX5_sumAt_45 : decode cX5_sumAt 45 = .ok (.iload 4, 2) := by decide +kernel
theorem dX5_sumAt_47 : decode cX5_sumAt 47 = .ok (.iload 6, 2) := by decide +kernel
theorem dX5_sumAt_49 : decode cX5_sumAt 49 = .ok (.iload 7, 2) := by decide +kernel
theorem dX5_sumAt_51 : decode cX5_sumAt 51 = .ok (.invokestatic 55, 3) := by decide +kernel
theorem dX5_sumAt_54 : decode cX5_sumAt 54 = .ok (.iload 8, 2) := by decide +kernel
theorem dX5_sumAt_56 : decode cX5_sumAt 56 = .ok (.iload 8, 2) := by decide +kernel
theorem dX5_sumAt_58 : decode cX5_sumAt 58 = .ok (.invokestatic 55, 3) := by decide +kernel
theorem dX5_sumAt_61 : decode cX5_sumAt 61 = .ok (.invokestatic 55, 3) := by decide +kernel
theorem dX5_sumAt_64 : decode cX5_sumAt 64 = .ok (.iadd, 1) := by decide +kernel
theorem dX5_sumAt_65 : decode cX5_sumAt 65 = .ok (.istore 4, 2) := by decide +kernel
theorem dX5_sumAt_67 : decode cX5_sumAt 67 = .ok (.iinc 5 1, 3) := by decide +kernel
theorem dX5_sumAt_70 : decode cX5_sumAt 70 = .ok (.goto (-64), 3) := by decide +kernel
theorem dX5_sumAt_73 : decode cX5_sumAt 73 = .ok (.iload 4, 2) := by decide +kernel
theorem dX5_sumAt_75 : decode cX5_sumAt 75 = .ok (.sipush 257, 3) := by decide +kernel
theorem dX5_sumAt_78 : decode cX5_sumAt 78 = .ok (.irem, 1) := by decide +kernel
theorem dX5_sumAt_79 : decode cX5_sumAt 79 = .ok (.ireturn, 1) := by decide +kernel
set_option maxRecDepth 20000 in
theorem ggX5_fits_X5_isRegister : GoodIn wsX5_fits wsX5_isRegister := goodIn_r _ [6, 7, 8, 5, 9] (by decide +kernel) (by decide +kernel)
set_option maxRecDepth 20000 in
theorem gX5_fits_X5_isRegister : GoodIn wsX5_fits (va_wsS RX5 68 yX5_isRegister wsX5_isRegister) := goodIn_app (goodIn_of _ (by decide +kernel)) ggX5_fits_X5_isRegister
set_option maxRecDepth 20000 in
theorem ggX5_fits_X5_places : GoodIn wsX5_fits wsX5_places := goodIn_r _ [13, 14, 15, 16, 5, 17, 18, 27, 28, 29, 30, 31, 32, 33, 34, 35, 36, 37] (by decide +kernel) (by decide +kernel)
set_option maxRecDepth 20000 in
theorem gX5_fits_X5_places : GoodIn wsX5_fits (wsV RX5 129 RX5 yX5_places wsX5_places) := goodIn_app (goodIn_of _ (by decide +kernel)) ggX5_fits_X5_places
set_option maxRecDepth 20000 in
theorem ggX5_fits_X5_fitsAt : GoodIn wsX5_fits wsX5_fitsAt := goodIn_r _ [22, 14, 15, 16, 5, 17, 18, 23, 24, 25, 26, 27, 28, 29, 30, 31, 32, 33, 34, 35, 36, 37] (by decide +kernel) (by decide +kernel)
set_option maxRecDepth 20000 in
theorem gX5_fits_X5_fitsAt : GoodIn wsX5_fits (wsV RX5 134 RX5 yX5_fitsAt wsX5_fitsAt) := goodIn_app (goodIn_of _ (by decide +kernel)) ggX5_fits_X5_fitsAt
theorem dX5_fits_0 : decode cX5_fits 0 = .ok (.iload_n 1, 1) := by decide +kernel
theorem dX5_fits_1 : decode cX5_fits 1 = .ok (.invokestatic 68, 3) := by decide +kernel
theorem dX5_fits_4 : decode cX5_fits 4 = .ok (.ifCond .eq 10, 3) := by decide +kernel
theorem dX5_fits_7 : decode cX5_fits 7 = .ok (.iload_n 2, 1) := by decide +kernel
theorem dX5_fits_8 : decode cX5_fits 8 = .ok (.invokestatic 68, 3) := by decide +kernel
theorem dX5_fits_11 : decode cX5_fits 11 = .ok (.ifCond .ne 7, 3) := by decide +kernel
theorem dX5_fits_14 : decode cX5_fits 14 = .ok (.ldc2_w 127, 3) := by decide +kernel
theorem dX5_fits_17 : decode cX5_fits 17 = .ok (.lreturn, 1) := by decide +kernel
theorem dX5_fits_18 : decode cX5_fits 18 = .ok (.aload_n 0, 1) := by decide +kernel
theorem dX5_fits_19 : decode cX5_fits 19 = .ok (.iload_n 1, 1) := by decide +kernel
theorem dX5_fits_20 : decode cX5_fits 20 = .ok (.iload_n 2, 1) := by decide +kernel
theorem dX5_fits_21 : decode cX5_fits 21 = .ok (.invokevirtual 129, 3) := by decide +kernel
theorem dX5_fits_24 : decode cX5_fits 24 = .ok (.ifCond .ne 7, 3) := by decide +kernel
theorem dX5_fits_27 : decode cX5_fits 27 = .ok (.ldc2_w 132, 3) := by decide +kernel
theorem dX5_fits_30 : decode cX5_fits 30 = .ok (.lreturn, 1) := by decide +kernel
theorem dX5_fits_31 : decode cX5_fits 31 = .ok (.lconst 0, 1) := by decide +kernel
theorem dX5_fits_32 : decode cX5_fits 32 = .ok (.lstore_n 3, 1) := by decide +kernel
theorem dX5_fits_33 : decode cX5_fits 33 = .ok (.iconst 0, 1) := by decide +kernel
theorem dX5_fits_34 : decode cX5_fits 34 = .ok (.istore 5, 2) := by decide +kernel
theorem dX5_fits_36 : decode cX5_fits 36 = .ok (.iload 5, 2) := by decide +kernel
theorem dX5_fits_38 : decode cX5_fits 38 = .ok (.aload_n 0, 1) := by decide +kernel
theorem dX5_fits_39 : decode cX5_fits 39 = .ok (.iload_n 1, 1) := by decide +kernel
theorem dX5_fits_40 : decode cX5_fits 40 = .ok (.iload_n 2, 1) := by decide +kernel
theorem dX5_fits_41 : decode cX5_fits 41 = .ok (.invokevirtual 129, 3) := by decide +kernel
theorem dX5_fits_44 : decode cX5_fits 44 = .ok (.if_icmp .ge 38, 3) := by decide +kernel
theorem dX5_fits_47 : decode cX5_fits 47 = .ok (.iload 5, 2) := by decide +kernel
theorem dX5_fits_49 : decode cX5_fits 49 = .ok (.bipush 60, 2) := by decide +kernel
theorem dX5_fits_51 : decode cX5_fits 51 = .ok (.if_icmp .ge 31, 3) := by decide +kernel
theorem dX5_fits_54 : decode cX5_fits 54 = .ok (.lload_n 3, 1) := by decide +kernel
theorem dX5_fits_55 : decode cX5_fits 55 = .ok (.aload_n 0, 1) := by decide +kernel
theorem dX5_fits_56 : decode cX5_fits 56 = .ok (.iload_n 1, 1) := by decide +kernel
theorem dX5_fits_57 : decode cX5_fits 57 = .ok (.iload_n 2, 1) := by decide +kernel
theorem dX5_fits_58 : decode cX5_fits 58 = .ok (.iload 5, 2) := by decide +kernel
theorem dX5_fits_60 : decode cX5_fits 60 = .ok (.invokevirtual 134, 3) := by decide +kernel
theorem dX5_fits_63 : decode cX5_fits 63 = .ok (.ifCond .eq 10, 3) := by decide +kernel
theorem dX5_fits_66 : decode cX5_fits 66 = .ok (.lconst 1, 1) := by decide +kernel
theorem dX5_fits_67 : decode cX5_fits 67 = .ok (.iload 5, 2) := by decide +kernel
theorem dX5_fits_69 : decode cX5_fits 69 = .ok (.lshl, 1) := by decide +kernel
theorem dX5_fits_70 : decode cX5_fits 70 = .ok (.goto 4, 3) := by decide +kernel
theorem dX5_fits_73 : decode cX5_fits 73 = .ok (.lconst 0, 1) := by decide +kernel
theorem dX5_fits_74 : decode cX5_fits 74 = .ok (.lor, 1) := by decide +kernel
theorem dX5_fits_75 : decode cX5_fits 75 = .ok (.lstore_n 3, 1) := by decide +kernel
theorem dX5_fits_76 : decode cX5_fits 76 = .ok (.iinc 5 1, 3) := by decide +kernel
theorem dX5_fits_79 : decode cX5_fits 79 = .ok (.goto (-43), 3) := by decide +kernel
theorem dX5_fits_82 : decode cX5_fits 82 = .ok (.lload_n 3, 1) := by decide +kernel
theorem dX5_fits_83 : decode cX5_fits 83 = .ok (.lreturn, 1) := by decide +kernel
set_option maxRecDepth 20000 in
theorem ggX5_sum_X5_isRegister : GoodIn wsX5_sum wsX5_isRegister := goodIn_r _ [4, 5, 6, 3, 7] (by decide +kernel) (by decide +kernel)
set_option maxRecDepth 20000 in
theorem gX5_sum_X5_isRegister : GoodIn wsX5_sum (va_wsS RX5 68 yX5_isRegister wsX5_isRegister) := goodIn_app (goodIn_of _ (by decide +kernel)) ggX5_sum_X5_isRegister
set_option maxRecDepth 20000 in
theorem ggX5_sum_X5_places : GoodIn wsX5_sum wsX5_places := goodIn_r _ [11, 12, 13, 14, 3, 15, 16, 31, 32, 33, 34, 35, 36, 37, 38, 39, 40, 41] (by decide +kernel) (by decide +kernel)
set_option maxRecDepth 20000 in
theorem gX5_sum_X5_places : GoodIn wsX5_sum (wsV RX5 129 RX5 yX5_places wsX5_places) := goodIn_app (goodIn_of _ (by decide +kernel)) ggX5_sum_X5_places
set_option maxRecDepth 20000 in
theorem ggX5_sum_X5_in : GoodIn wsX5_sum wsX5_in := goodIn_r _ [7] (by decide +kernel) (by decide +kernel)
set_option maxRecDepth 20000 in
theorem gX5_sum_X5_in : GoodIn wsX5_sum (va_wsS RX5 36 yX5_in wsX5_in) := goodIn_app (goodIn_of _ (by decide +kernel)) ggX5_sum_X5_in
set_option maxRecDepth 20000 in
theorem ggX5_sum_X5_sumAt : GoodIn wsX5_sum wsX5_sumAt := goodIn_r _ [20, 12, 13, 14, 3, 15, 16, 21, 22, 23, 24, 25, 26, 27, 28, 29, 30, 31, 32, 33, 34, 35, 36, 37, 38, 39, 40, 41] (by decide +kernel) (by decide +kernel)
set_option maxRecDepth 20000 in
theorem gX5_sum_X5_sumAt : GoodIn wsX5_sum (wsV RX5 137 RX5 yX5_sumAt wsX5_sumAt) := goodIn_app (goodIn_of _ (by decide +kernel)) ggX5_sum_X5_sumAt
theorem dX5_sum_0 : decode cX5_sum 0 = .ok (.iload_n 1, 1) := by decide +kernel
theorem dX5_sum_1 : decode cX5_sum 1 = .ok (.invokestatic 68, 3) := by decide +kernel
theorem dX5_sum_4 : decode cX5_sum 4 = .ok (.ifCond .eq 10, 3) := by decide +kernel
theorem dX5_sum_7 : decode cX5_sum 7 = .ok (.iload_n 2, 1) := by decide +kernel
theorem dX5_sum_8 : decode cX5_sum 8 = .ok (.invokestatic 68, 3) := by decide +kernel
theorem dX5_sum_11 : decode cX5_sum 11 = .ok (.ifCond .ne 5, 3) := by decide +kernel
theorem dX5_sum_14 : decode cX5_sum 14 = .ok (.iconst (-1), 1) := by decide +kernel
theorem dX5_sum_15 : decode cX5_sum 15 = .ok (.ireturn, 1) := by decide +kernel
theorem dX5_sum_16 : decode cX5_sum 16 = .ok (.aload_n 0, 1) := by decide +kernel
theorem dX5_sum_17 : decode cX5_sum 17 = .ok (.iload_n 1, 1) := by decide +kernel
theorem dX5_sum_18 : decode cX5_sum 18 = .ok (.iload_n 2, 1) := by decide +kernel
theorem dX5_sum_19 : decode cX5_sum 19 = .ok (.invokevirtual 129, 3) := by decide +kernel
theorem dX5_sum_22 : decode cX5_sum 22 = .ok (.istore 4, 2) := by decide +kernel
theorem dX5_sum_24 : decode cX5_sum 24 = .ok (.iload 4, 2) := by decide +kernel
theorem dX5_sum_26 : decode cX5_sum 26 = .ok (.ifCond .ne 6, 3) := by decide +kernel
theorem dX5_sum_29 : decode cX5_sum 29 = .ok (.bipush (-5), 2) := by decide +kernel
theorem dX5_sum_31 : decode cX5_sum 31 = .ok (.ireturn, 1) := by decide +kernel
theorem dX5_sum_32 : decode cX5_sum 32 = .ok (.iload_n 3, 1) := by decide +kernel
theorem dX5_sum_33 : decode cX5_sum 33 = .ok (.iconst 0, 1) := by decide +kernel
theorem dX5_sum_34 : decode cX5_sum 34 = .ok (.iload 4, 2) := by decide +kernel
theorem dX5_sum_36 : decode cX5_sum 36 = .ok (.iconst 1, 1) := by decide +kernel
theorem dX5_sum_37 : decode cX5_sum 37 = .ok (.isub, 1) := by decide +kernel
theorem dX5_sum_38 : decode cX5_sum 38 = .ok (.invokestatic 36, 3) := by decide +kernel
theorem dX5_sum_41 : decode cX5_sum 41 = .ok (.ifCond .eq 13, 3) := by decide +kernel
theorem dX5_sum_44 : decode cX5_sum 44 = .ok (.aload_n 0, 1) := by decide +kernel
theorem dX5_sum_45 : decode cX5_sum 45 = .ok (.iload_n 1, 1) := by decide +kernel
theorem dX5_sum_46 : decode cX5_sum 46 = .ok (.iload_n 2, 1) := by decide +kernel
theorem dX5_sum_47 : decode cX5_sum 47 = .ok (.iload_n 3, 1) := by decide +kernel
theorem dX5_sum_48 : decode cX5_sum 48 = .ok (.invokevirtual 137, 3) := by decide +kernel
theorem dX5_sum_51 : decode cX5_sum 51 = .ok (.goto 5, 3) := by decide +kernel
theorem dX5_sum_54 : decode cX5_sum 54 = .ok (.bipush (-2), 2) := by decide +kernel
theorem dX5_sum_56 : decode cX5_sum 56 = .ok (.ireturn, 1) := by decide +kernel
set_option maxRecDepth 20000 in
theorem ggX5_found_X5_isRegister : GoodIn wsX5_found wsX5_isRegister := goodIn_r _ [4, 5, 6, 3, 7] (by decide +kernel) (by decide +kernel)
set_option maxRecDepth 20000 in
theorem gX5_found_X5_isRegister : GoodIn wsX5_found (va_wsS RX5 68 yX5_isRegister wsX5_isRegister) := goodIn_app (goodIn_of _ (by decide +kernel)) ggX5_found_X5_isRegister
set_option maxRecDepth 20000 in
theorem ggX5_found_X5_places : GoodIn wsX5_found wsX5_places := goodIn_r _ [11, 12, 13, 14, 3, 15, 16, 35, 36, 37, 38, 39, 40, 41, 42, 43, 44, 45] (by decide +kernel) (by decide +kernel)
set_option maxRecDepth 20000 in
theorem gX5_found_X5_places : GoodIn wsX5_found (wsV RX5 129 RX5 yX5_places wsX5_places) := goodIn_app (goodIn_of _ (by decide +kernel)) ggX5_found_X5_places
set_option maxRecDepth 20000 in
theorem ggX5_found_X5_in : GoodIn wsX5_found wsX5_in := goodIn_r _ [7] (by decide +kernel) (by decide +kernel)
set_option maxRecDepth 20000 in
theorem gX5_found_X5_in : GoodIn wsX5_found (va_wsS RX5 36 yX5_in wsX5_in) := goodIn_app (goodIn_of _ (by decide +kernel)) ggX5_found_X5_in
set_option maxRecDepth 20000 in
theorem ggX5_found_X5_fitsAt : GoodIn wsX5_found wsX5_fitsAt := goodIn_r _ [20, 12, 13, 14, 3, 15, 16, 21, 22, 23, 24, 35, 36, 37, 38, 39, 40, 41, 42, 43, 44, 45] (by decide +kernel) (by decide +kernel)
set_option maxRecDepth 20000 in
theorem gX5_found_X5_fitsAt : GoodIn wsX5_found (wsV RX5 134 RX5 yX5_fitsAt wsX5_fitsAt) := goodIn_app (goodIn_of _ (by decide +kernel)) ggX5_found_X5_fitsAt
set_option maxRecDepth 20000 in
theorem ggX5_found_X5_sumAt : GoodIn wsX5_found wsX5_sumAt := goodIn_r _ [28, 12, 13, 14, 3, 15, 16, 21, 22, 23, 24, 29, 30, 31, 32, 33, 34, 35, 36, 37, 38, 39, 40, 41, 42, 43, 44, 45] (by decide +kernel) (by decide +kernel)
set_option maxRecDepth 20000 in
theorem gX5_found_X5_sumAt : GoodIn wsX5_found (wsV RX5 137 RX5 yX5_sumAt wsX5_sumAt) := goodIn_app (goodIn_of _ (by decide +kernel)) ggX5_found_X5_sumAt
theorem dX5_found_0 : decode cX5_found 0 = .ok (.iload_n 1, 1) := by decide +kernel
theorem dX5_found_1 : decode cX5_found 1 = .ok (.invokestatic 68, 3) := by decide +kernel
theorem dX5_found_4 : decode cX5_found 4 = .ok (.ifCond .eq 10, 3) := by decide +kernel
theorem dX5_found_7 : decode cX5_found 7 = .ok (.iload_n 2, 1) := by decide +kernel
theorem dX5_found_8 : decode cX5_found 8 = .ok (.invokestatic 68, 3) := by decide +kernel
theorem dX5_found_11 : decode cX5_found 11 = .ok (.ifCond .ne 5, 3) := by decide +kernel
theorem dX5_found_14 : decode cX5_found 14 = .ok (.iconst (-1), 1) := by decide +kernel
theorem dX5_found_15 : decode cX5_found 15 = .ok (.ireturn, 1) := by decide +kernel
theorem dX5_found_16 : decode cX5_found 16 = .ok (.aload_n 0, 1) := by decide +kernel
theorem dX5_found_17 : decode cX5_found 17 = .ok (.iload_n 1, 1) := by decide +kernel
theorem dX5_found_18 : decode cX5_found 18 = .ok (.iload_n 2, 1) := by decide +kernel
theorem dX5_found_19 : decode cX5_found 19 = .ok (.invokevirtual 129, 3) := by decide +kernel
theorem dX5_found_22 : decode cX5_found 22 = .ok (.istore 4, 2) := by decide +kernel
theorem dX5_found_24 : decode cX5_found 24 = .ok (.iload 4, 2) := by decide +kernel
theorem dX5_found_26 : decode cX5_found 26 = .ok (.ifCond .ne 6, 3) := by decide +kernel
theorem dX5_found_29 : decode cX5_found 29 = .ok (.bipush (-5), 2) := by decide +kernel
theorem dX5_found_31 : decode cX5_found 31 = .ok (.ireturn, 1) := by decide +kernel
theorem dX5_found_32 : decode cX5_found 32 = .ok (.iload_n 3, 1) := by decide +kernel
theorem dX5_found_33 : decode cX5_found 33 = .ok (.iconst 0, 1) := by decide +kernel
theorem dX5_found_34 : decode cX5_found 34 = .ok (.iconst 3, 1) := by decide +kernel
theorem dX5_found_35 : decode cX5_found 35 = .ok (.invokestatic 36, 3) := by decide +kernel
theorem dX5_found_38 : decode cX5_found 38 = .ok (.ifCond .ne 6, 3) := by decide +kernel
theorem dX5_found_41 : decode cX5_found 41 = .ok (.bipush (-2), 2) := by decide +kernel
theorem dX5_found_43 : decode cX5_found 43 = .ok (.ireturn, 1) := by decide +kernel
theorem dX5_found_44 : decode cX5_found 44 = .ok (.iconst 0, 1) := by decide +kernel
theorem dX5_found_45 : decode cX5_found 45 = .ok (.istore 5, 2) := by decide +kernel
theorem dX5_found_47 : decode cX5_found 47 = .ok (.iconst 0, 1) := by decide +kernel
theorem dX5_found_48 : decode cX5_found 48 = .ok (.istore 6, 2) := by decide +kernel
theorem dX5_found_50 : decode cX5_found 50 = .ok (.bipush (-6), 2) := by decide +kernel
theorem dX5_found_52 : decode cX5_found 52 = .ok (.istore 7, 2) := by decide +kernel
theorem dX5_found_54 : decode cX5_found 54 = .ok (.iconst 0, 1) := by decide +kernel
theorem dX5_found_55 : decode cX5_found 55 = .ok (.istore 8, 2) := by decide +kernel
theorem dX5_found_57 : decode cX5_found 57 = .ok (.iload 4, 2) := by decide +kernel
theorem dX5_found_59 : decode cX5_found 59 = .ok (.iconst 1, 1) := by decide +kernel
theorem dX5_found_60 : decode cX5_found 60 = .ok (.isub, 1) := by decide +kernel
theorem dX5_found_61 : decode cX5_found 61 = .ok (.istore 9, 2) := by decide +kernel
theorem dX5_found_63 : decode cX5_found 63 = .ok (.iload 9, 2) := by decide +kernel
theorem dX5_found_65 : decode cX5_found 65 = .ok (.ifCond .lt 106, 3) := by decide +kernel
theorem dX5_found_68 : decode cX5_found 68 = .ok (.aload_n 0, 1) := by decide +kernel
theorem dX5_found_69 : decode cX5_found 69 = .ok (.iload_n 1, 1) := by decide +kernel
theorem dX5_found_70 : decode cX5_found 70 = .ok (.iload_n 2, 1) := by decide +kernel
theorem dX5_found_71 : decode cX5_found 71 = .ok (.iload 9, 2) := by decide +kernel
theorem dX5_found_73 : decode cX5_found 73 = .ok (.invokevirtual 134, 3) := by decide +kernel
theorem dX5_found_76 : decode cX5_found 76 = .ok (.istore 10, 2) := by decide +kernel
theorem dX5_found_78 : decode cX5_found 78 = .ok (.aload_n 0, 1) := by decide +kernel
theorem dX5_found_79 : decode cX5_found 79 = .ok (.iload_n 1, 1) := by decide +kernel
theorem dX5_found_80 : decode cX5_found 80 = .ok (.iload_n 2, 1) := by decide +kernel
theorem dX5_found_81 : decode cX5_found 81 = .ok (.iload 9, 2) := by decide +kernel
theorem dX5_found_83 : decode cX5_found 83 = .ok (.invokevirtual 137, 3) := by decide +kernel
theorem dX5_found_86 : decode cX5_found 86 = .ok (.istore 11, 2) := by decide +kernel
theorem dX5_found_88 : decode cX5_found 88 = .ok (.iload 11, 2) := by decide +kernel
theorem dX5_found_90 : decode cX5_found 90 = .ok (.ifCond .ne 12, 3) := by decide +kernel
theorem dX5_found_93 : decode cX5_found 93 = .ok (.iload 10, 2) := by decide +kernel
theorem dX5_found_95 : decode cX5_found 95 = .ok (.ifCond .ne 7, 3) := by decide +kernel
theorem dX5_found_98 : decode cX5_found 98 = .ok (.iconst 1, 1) := by decide +kernel
theorem dX5_found_99 : decode cX5_found 99 = .ok (.goto 4, 3) := by decide +kernel
theorem dX5_found_102 : decode cX5_found 102 = .ok (.iconst 0, 1) := by decide +kernel
theorem dX5_found_103 : decode cX5_found 103 = .ok (.istore 12, 2) := by decide +kernel
theorem dX5_found_105 : decode cX5_found 105 = .ok (.iload 5, 2) := by decide +kernel
theorem dX5_found_107 : decode cX5_found 107 = .ok (.iload 10, 2) := by decide +kernel
theorem dX5_found_109 : decode cX5_found 109 = .ok (.ifCond .eq 7, 3) := by decide +kernel
theorem dX5_found_112 : decode cX5_found 112 = .ok (.iconst 1, 1) := by decide +kernel
theorem dX5_found_113 : decode cX5_found 113 = .ok (.goto 4, 3) := by decide +kernel
theorem dX5_found_116 : decode cX5_found 116 = .ok (.iconst 0, 1) := by decide +kernel
theorem dX5_found_117 : decode cX5_found 117 = .ok (.iadd, 1) := by decide +kernel
theorem dX5_found_118 : decode cX5_found 118 = .ok (.istore 5, 2) := by decide +kernel
theorem dX5_found_120 : decode cX5_found 120 = .ok (.iload 6, 2) := by decide +kernel
theorem dX5_found_122 : decode cX5_found 122 = .ok (.iload 12, 2) := by decide +kernel
theorem dX5_found_124 : decode cX5_found 124 = .ok (.ifCond .eq 7, 3) := by decide +kernel
theorem dX5_found_127 : decode cX5_found 127 = .ok (.iconst 1, 1) := by decide +kernel
theorem dX5_found_128 : decode cX5_found 128 = .ok (.goto 4, 3) := by decide +kernel
theorem dX5_found_131 : decode cX5_found 131 = .ok (.iconst 0, 1) := by decide +kernel
theorem dX5_found_132 : decode cX5_found 132 = .ok (.iadd, 1) := by decide +kernel
theorem dX5_found_133 : decode cX5_found 133 = .ok (.istore 6, 2) := by decide +kernel
theorem dX5_found_135 : decode cX5_found 135 = .ok (.iload 12, 2) := by decide +kernel
theorem dX5_found_137 : decode cX5_found 137 = .ok (.ifCond .eq 8, 3) := by decide +kernel
theorem dX5_found_140 : decode cX5_found 140 = .ok (.iload 9, 2) := by decide +kernel
theorem dX5_found_142 : decode cX5_found 142 = .ok (.goto 5, 3) := by decide +kernel
theorem dX5_found_145 : decode cX5_found 145 = .ok (.iload 7, 2) := by decide +kernel
theorem dX5_found_147 : decode cX5_found 147 = .ok (.istore 7, 2) := by decide +kernel
theorem dX5_found_149 : decode cX5_found 149 = .ok (.iload 11, 2) := by decide +kernel
theorem dX5_found_151 : decode cX5_found 151 = .ok (.iload 8, 2) := by decide +kernel
theorem dX5_found_153 : decode cX5_found 153 = .ok (.if_icmp .le 8, 3) := by decide +kernel
theorem dX5_found_156 : decode cX5_found 156 = .ok (.iload 11, 2) := by decide +kernel
theorem dX5_found_158 : decode cX5_found 158 = .ok (.goto 5, 3) := by decide +kernel
theorem dX5_found_161 : decode cX5_found 161 = .ok (.iload 8, 2) := by decide +kernel
theorem dX5_found_163 : decode cX5_found 163 = .ok (.istore 8, 2) := by decide +kernel
theorem dX5_found_165 : decode cX5_found 165 = .ok (.iinc 9 (-1), 3) := by decide +kernel
theorem dX5_found_168 : decode cX5_found 168 = .ok (.goto (-105), 3) := by decide +kernel
theorem dX5_found_171 : decode cX5_found 171 = .ok (.iload_n 3, 1) := by decide +kernel
theorem dX5_found_172 : decode cX5_found 172 = .ok (.ifCond .ne 8, 3) := by decide +kernel
theorem dX5_found_175 : decode cX5_found 175 = .ok (.iload 5, 2) := by decide +kernel
theorem dX5_found_177 : decode cX5_found 177 = .ok (.goto 25, 3) := by decide +kernel
theorem dX5_found_180 : decode cX5_found 180 = .ok (.iload_n 3, 1) := by decide +kernel
theorem dX5_found_181 : decode cX5_found 181 = .ok (.iconst 1, 1) := by decide +kernel
theorem dX5_found_182 : decode cX5_found 182 = .ok (.if_icmp .ne 8, 3) := by decide +kernel
theorem dX5_found_185 : decode cX5_found 185 = .ok (.iload 6, 2) := by decide +kernel
theorem dX5_found_187 : decode cX5_found 187 = .ok (.goto 15, 3) := by decide +kernel
theorem dX5_found_190 : decode cX5_found 190 = .ok (.iload_n 3, 1) := by decide +kernel
theorem dX5_found_191 : decode cX5_found 191 = .ok (.iconst 2, 1) := by decide +kernel
theorem dX5_found_192 : decode cX5_found 192 = .ok (.if_icmp .ne 8, 3) := by decide +kernel
theorem dX5_found_195 : decode cX5_found 195 = .ok (.iload 7, 2) := by decide +kernel
theorem dX5_found_197 : decode cX5_found 197 = .ok (.goto 5, 3) := by decide +kernel
theorem dX5_found_200 : decode cX5_found 200 = .ok (.iload 8, 2) := by decide +kernel
theorem dX5_found_202 : decode cX5_found 202 = .ok (.ireturn, 1) := by decide +kernel
set_option maxRecDepth 20000 in
theorem ggX5_put_X5_in : GoodIn wsX5_put wsX5_in := goodIn_r _ [7] (by decide +kernel) (by decide +kernel)
set_option maxRecDepth 20000 in
theorem gX5_put_X5_in : GoodIn wsX5_put (va_wsS RX5 36 yX5_in wsX5_in) := goodIn_app (goodIn_of _ (by decide +kernel)) ggX5_put_X5_in
theorem dX5_put_0 : decode cX5_put 0 = .ok (.iconst 0, 1) := by decide +kernel
theorem dX5_put_1 : decode cX5_put 1 = .ok (.istore_n 3, 1) := by decide +kernel
theorem dX5_put_2 : decode cX5_put 2 = .ok (.lload_n 1, 1) := by decide +kernel
theorem dX5_put_3 : decode cX5_put 3 = .ok (.lstore 4, 2) := by decide +kernel
theorem dX5_put_5 : decode cX5_put 5 = .ok (.iconst 1, 1) := by decide +kernel
theorem dX5_put_6 : decode cX5_put 6 = .ok (.istore 6, 2) := by decide +kernel
theorem dX5_put_8 : decode cX5_put 8 = .ok (.lload 4, 2) := by decide +kernel
theorem dX5_put_10 : decode cX5_put 10 = .ok (.lconst 0, 1) := by decide +kernel
theorem dX5_put_11 : decode cX5_put 11 = .ok (.lcmp, 1) := by decide +kernel
theorem dX5_put_12 : decode cX5_put 12 = .ok (.ifCond .eq 37, 3) := by decide +kernel
theorem dX5_put_15 : decode cX5_put 15 = .ok (.iload 6, 2) := by decide +kernel
theorem dX5_put_17 : decode cX5_put 17 = .ok (.ifCond .eq 32, 3) := by decide +kernel
theorem dX5_put_20 : decode cX5_put 20 = .ok (.lload 4, 2) := by decide +kernel
theorem dX5_put_22 : decode cX5_put 22 = .ok (.ldc2_w 141, 3) := by decide +kernel
theorem dX5_put_25 : decode cX5_put 25 = .ok (.land, 1) := by decide +kernel
theorem dX5_put_26 : decode cX5_put 26 = .ok (.l2i, 1) := by decide +kernel
theorem dX5_put_27 : decode cX5_put 27 = .ok (.bipush 33, 2) := by decide +kernel
theorem dX5_put_29 : decode cX5_put 29 = .ok (.bipush 126, 2) := by decide +kernel
theorem dX5_put_31 : decode cX5_put 31 = .ok (.invokestatic 36, 3) := by decide +kernel
theorem dX5_put_34 : decode cX5_put 34 = .ok (.istore 6, 2) := by decide +kernel
theorem dX5_put_36 : decode cX5_put 36 = .ok (.lload 4, 2) := by decide +kernel
theorem dX5_put_38 : decode cX5_put 38 = .ok (.bipush 8, 2) := by decide +kernel
theorem dX5_put_40 : decode cX5_put 40 = .ok (.lushr, 1) := by decide +kernel
theorem dX5_put_41 : decode cX5_put 41 = .ok (.lstore 4, 2) := by decide +kernel
theorem dX5_put_43 : decode cX5_put 43 = .ok (.iinc 3 1, 3) := by decide +kernel
theorem dX5_put_46 : decode cX5_put 46 = .ok (.goto (-38), 3) := by decide +kernel
theorem dX5_put_49 : decode cX5_put 49 = .ok (.iload_n 3, 1) := by decide +kernel
theorem dX5_put_50 : decode cX5_put 50 = .ok (.ifCond .eq 8, 3) := by decide +kernel
theorem dX5_put_53 : decode cX5_put 53 = .ok (.iload 6, 2) := by decide +kernel
theorem dX5_put_55 : decode cX5_put 55 = .ok (.ifCond .ne 6, 3) := by decide +kernel
theorem dX5_put_58 : decode cX5_put 58 = .ok (.bipush (-2), 2) := by decide +kernel
theorem dX5_put_60 : decode cX5_put 60 = .ok (.ireturn, 1) := by decide +kernel
theorem dX5_put_61 : decode cX5_put 61 = .ok (.aload_n 0, 1) := by decide +kernel
theorem dX5_put_62 : decode cX5_put 62 = .ok (.getfield 124, 3) := by decide +kernel
theorem dX5_put_65 : decode cX5_put 65 = .ok (.iload_n 3, 1) := by decide +kernel
theorem dX5_put_66 : decode cX5_put 66 = .ok (.iadd, 1) := by decide +kernel
theorem dX5_put_67 : decode cX5_put 67 = .ok (.bipush 80, 2) := by decide +kernel
theorem dX5_put_69 : decode cX5_put 69 = .ok (.if_icmp .le 6, 3) := by decide +kernel
theorem dX5_put_72 : decode cX5_put 72 = .ok (.bipush (-4), 2) := by decide +kernel
theorem dX5_put_74 : decode cX5_put 74 = .ok (.ireturn, 1) := by decide +kernel
theorem dX5_put_75 : decode cX5_put 75 = .ok (.iload_n 3, 1) := by decide +kernel
theorem dX5_put_76 : decode cX5_put 76 = .ok (.iconst 1, 1) := by decide +kernel
theorem dX5_put_77 : decode cX5_put 77 = .ok (.isub, 1) := by decide +kernel
theorem dX5_put_78 : decode cX5_put 78 = .ok (.istore 7, 2) := by decide +kernel
theorem dX5_put_80 : decode cX5_put 80 = .ok (.iload 7, 2) := by decide +kernel
theorem dX5_put_82 : decode cX5_put 82 = .ok (.ifCond .lt 41, 3) := by decide +kernel
theorem dX5_put_85 : decode cX5_put 85 = .ok (.aload_n 0, 1) := by decide +kernel
theorem dX5_put_86 : decode cX5_put 86 = .ok (.getfield 23, 3) := by decide +kernel
theorem dX5_put_89 : decode cX5_put 89 = .ok (.aload_n 0, 1) := by decide +kernel
theorem dX5_put_90 : decode cX5_put 90 = .ok (.getfield 124, 3) := by decide +kernel
theorem dX5_put_93 : decode cX5_put 93 = .ok (.lload_n 1, 1) := by decide +kernel
theorem dX5_put_94 : decode cX5_put 94 = .ok (.bipush 8, 2) := by decide +kernel
theorem dX5_put_96 : decode cX5_put 96 = .ok (.iload 7, 2) := by decide +kernel
theorem dX5_put_98 : decode cX5_put 98 = .ok (.imul, 1) := by decide +kernel
theorem dX5_put_99 : decode cX5_put 99 = .ok (.lushr, 1) := by decide +kernel
theorem dX5_put_100 : decode cX5_put 100 = .ok (.ldc2_w 141, 3) := by decide +kernel
theorem dX5_put_103 : decode cX5_put 103 = .ok (.land, 1) := by decide +kernel
theorem dX5_put_104 : decode cX5_put 104 = .ok (.l2i, 1) := by decide +kernel
theorem dX5_put_105 : decode cX5_put 105 = .ok (.i2c, 1) := by decide +kernel
theorem dX5_put_106 : decode cX5_put 106 = .ok (.castore, 1) := by decide +kernel
theorem dX5_put_107 : decode cX5_put 107 = .ok (.aload_n 0, 1) := by decide +kernel
theorem dX5_put_108 : decode cX5_put 108 = .ok (.dup, 1) := by decide +kernel
theorem dX5_put_109 : decode cX5_put 109 = .ok (.getfield 124, 3) := by decide +kernel
theorem dX5_put_112 : decode cX5_put 112 = .ok (.iconst 1, 1) := by decide +kernel
theorem dX5_put_113 : decode cX5_put 113 = .ok (.iadd, 1) := by decide +kernel
theorem dX5_put_114 : decode cX5_put 114 = .ok (.putfield 124, 3) := by decide +kernel
theorem dX5_put_117 : decode cX5_put 117 = .ok (.iinc 7 (-1), 3) := by decide +kernel
theorem dX5_put_120 : decode cX5_put 120 = .ok (.goto (-40), 3) := by decide +kernel
theorem dX5_put_123 : decode cX5_put 123 = .ok (.aload_n 0, 1) := by decide +kernel
theorem dX5_put_124 : decode cX5_put 124 = .ok (.getfield 124, 3) := by decide +kernel
theorem dX5_put_127 : decode cX5_put 127 = .ok (.ireturn, 1) := by decide +kernel
theorem dX5_wipe_0 : decode cX5_wipe 0 = .ok (.aload_n 0, 1) := by decide +kernel
theorem dX5_wipe_1 : decode cX5_wipe 1 = .ok (.getfield 124, 3) := by decide +kernel
theorem dX5_wipe_4 : decode cX5_wipe 4 = .ok (.istore_n 1, 1) := by decide +kernel
theorem dX5_wipe_5 : decode cX5_wipe 5 = .ok (.aload_n 0, 1) := by decide +kernel
theorem dX5_wipe_6 : decode cX5_wipe 6 = .ok (.iconst 0, 1) := by decide +kernel
theorem dX5_wipe_7 : decode cX5_wipe 7 = .ok (.putfield 124, 3) := by decide +kernel
theorem dX5_wipe_10 : decode cX5_wipe 10 = .ok (.iload_n 1, 1) := by decide +kernel
theorem dX5_wipe_11 : decode cX5_wipe 11 = .ok (.ireturn, 1) := by decide +kernel
set_option maxRecDepth 20000 in
theorem ggX5_readPad_X5_blank : GoodIn wsX5_readPad wsX5_blank := goodIn_r _ [9, 4, 3, 13, 14, 15, 16, 17, 18, 19, 20, 21, 22, 23] (by decide +kernel) (by decide +kernel)
set_option maxRecDepth 20000 in
theorem gX5_readPad_X5_blank : GoodIn wsX5_readPad (wsV RX5 75 RX5 yX5_blank wsX5_blank) := goodIn_app (goodIn_of _ (by decide +kernel)) ggX5_readPad_X5_blank
set_option maxRecDepth 20000 in
theorem ggX5_readPad_X5_in : GoodIn wsX5_readPad wsX5_in := goodIn_r _ [12] (by decide +kernel) (by decide +kernel)
set_option maxRecDepth 20000 in
theorem gX5_readPad_X5_in : GoodIn wsX5_readPad (va_wsS RX5 36 yX5_in wsX5_in) := goodIn_app (goodIn_of _ (by decide +kernel)) ggX5_readPad_X5_in
theorem dX5_readPad_0 : decode cX5_readPad 0 = .ok (.aload_n 0, 1) := by decide +kernel
theorem dX5_readPad_1 : decode cX5_readPad 1 = .ok (.iconst 0, 1) := by decide +kernel
theorem dX5_readPad_2 : decode cX5_readPad 2 = .ok (.invokevirtual 75, 3) := by decide +kernel
theorem dX5_readPad_5 : decode cX5_readPad 5 = .ok (.iconst 1, 1) := by decide +kernel
theorem dX5_readPad_6 : decode cX5_readPad 6 = .ok (.istore_n 1, 1) := by decide +kernel
theorem dX5_readPad_7 : decode cX5_readPad 7 = .ok (.iconst 0, 1) := by decide +kernel
theorem dX5_readPad_8 : decode cX5_readPad 8 = .ok (.istore_n 2, 1) := by decide +kernel
theorem dX5_readPad_9 : decode cX5_readPad 9 = .ok (.iload_n 2, 1) := by decide +kernel
theorem dX5_readPad_10 : decode cX5_readPad 10 = .ok (.aload_n 0, 1) := by decide +kernel
theorem dX5_readPad_11 : decode cX5_readPad 11 = .ok (.getfield 124, 3) := by decide +kernel
theorem dX5_readPad_14 : decode cX5_readPad 14 = .ok (.if_icmp .ge 138, 3) := by decide +kernel
theorem dX5_readPad_17 : decode cX5_readPad 17 = .ok (.aload_n 0, 1) := by decide +kernel
theorem dX5_readPad_18 : decode cX5_readPad 18 = .ok (.getfield 23, 3) := by decide +kernel
theorem dX5_readPad_21 : decode cX5_readPad 21 = .ok (.iload_n 2, 1) := by decide +kernel
theorem dX5_readPad_22 : decode cX5_readPad 22 = .ok (.caload, 1) := by decide +kernel
theorem dX5_readPad_23 : decode cX5_readPad 23 = .ok (.istore_n 3, 1) := by decide +kernel
theorem dX5_readPad_24 : decode cX5_readPad 24 = .ok (.iload_n 3, 1) := by decide +kernel
theorem dX5_readPad_25 : decode cX5_readPad 25 = .ok (.bipush 48, 2) := by decide +kernel
theorem dX5_readPad_27 : decode cX5_readPad 27 = .ok (.bipush 57, 2) := by decide +kernel
theorem dX5_readPad_29 : decode cX5_readPad 29 = .ok (.invokestatic 36, 3) := by decide +kernel
theorem dX5_readPad_32 : decode cX5_readPad 32 = .ok (.istore 4, 2) := by decide +kernel
theorem dX5_readPad_34 : decode cX5_readPad 34 = .ok (.iload_n 1, 1) := by decide +kernel
theorem dX5_readPad_35 : decode cX5_readPad 35 = .ok (.ifCond .eq 38, 3) := by decide +kernel
theorem dX5_readPad_38 : decode cX5_readPad 38 = .ok (.iload 4, 2) := by decide +kernel
theorem dX5_readPad_40 : decode cX5_readPad 40 = .ok (.ifCond .ne 5, 3) := by decide +kernel
theorem dX5_readPad_43 : decode cX5_readPad 43 = .ok (.iload_n 2, 1) := by decide +kernel
theorem dX5_readPad_44 : decode cX5_readPad 44 = .ok (.ireturn, 1) := by decide +kernel
theorem dX5_readPad_45 : decode cX5_readPad 45 = .ok (.aload_n 0, 1) := by decide +kernel
theorem dX5_readPad_46 : decode cX5_readPad 46 = .ok (.getfield 27, 3) := by decide +kernel
theorem dX5_readPad_49 : decode cX5_readPad 49 = .ok (.aload_n 0, 1) := by decide +kernel
theorem dX5_readPad_50 : decode cX5_readPad 50 = .ok (.getfield 62, 3) := by decide +kernel
theorem dX5_readPad_53 : decode cX5_readPad 53 = .ok (.iload_n 3, 1) := by decide +kernel
theorem dX5_readPad_54 : decode cX5_readPad 54 = .ok (.bipush 48, 2) := by decide +kernel
theorem dX5_readPad_56 : decode cX5_readPad 56 = .ok (.isub, 1) := by decide +kernel
theorem dX5_readPad_57 : decode cX5_readPad 57 = .ok (.iastore, 1) := by decide +kernel
theorem dX5_readPad_58 : decode cX5_readPad 58 = .ok (.aload_n 0, 1) := by decide +kernel
theorem dX5_readPad_59 : decode cX5_readPad 59 = .ok (.dup, 1) := by decide +kernel
theorem dX5_readPad_60 : decode cX5_readPad 60 = .ok (.getfield 62, 3) := by decide +kernel
theorem dX5_readPad_63 : decode cX5_readPad 63 = .ok (.iconst 1, 1) := by decide +kernel
theorem dX5_readPad_64 : decode cX5_readPad 64 = .ok (.iadd, 1) := by decide +kernel
theorem dX5_readPad_65 : decode cX5_readPad 65 = .ok (.putfield 62, 3) := by decide +kernel
theorem dX5_readPad_68 : decode cX5_readPad 68 = .ok (.iconst 0, 1) := by decide +kernel
theorem dX5_readPad_69 : decode cX5_readPad 69 = .ok (.istore_n 1, 1) := by decide +kernel
theorem dX5_readPad_70 : decode cX5_readPad 70 = .ok (.goto 76, 3) := by decide +kernel
theorem dX5_readPad_73 : decode cX5_readPad 73 = .ok (.iload_n 3, 1) := by decide +kernel
theorem dX5_readPad_74 : decode cX5_readPad 74 = .ok (.bipush 44, 2) := by decide +kernel
theorem dX5_readPad_76 : decode cX5_readPad 76 = .ok (.if_icmp .ne 8, 3) := by decide +kernel
theorem dX5_readPad_79 : decode cX5_readPad 79 = .ok (.iconst 1, 1) := by decide +kernel
theorem dX5_readPad_80 : decode cX5_readPad 80 = .ok (.istore_n 1, 1) := by decide +kernel
theorem dX5_readPad_81 : decode cX5_readPad 81 = .ok (.goto 65, 3) := by decide +kernel
theorem dX5_readPad_84 : decode cX5_readPad 84 = .ok (.aload_n 0, 1) := by decide +kernel
theorem dX5_readPad_85 : decode cX5_readPad 85 = .ok (.getfield 27, 3) := by decide +kernel
theorem dX5_readPad_88 : decode cX5_readPad 88 = .ok (.aload_n 0, 1) := by decide +kernel
theorem dX5_readPad_89 : decode cX5_readPad 89 = .ok (.getfield 62, 3) := by decide +kernel
theorem dX5_readPad_92 : decode cX5_readPad 92 = .ok (.iconst 1, 1) := by decide +kernel
theorem dX5_readPad_93 : decode cX5_readPad 93 = .ok (.isub, 1) := by decide +kernel
theorem dX5_readPad_94 : decode cX5_readPad 94 = .ok (.iaload, 1) := by decide +kernel
theorem dX5_readPad_95 : decode cX5_readPad 95 = .ok (.istore 5, 2) := by decide +kernel
theorem dX5_readPad_97 : decode cX5_readPad 97 = .ok (.iload 4, 2) := by decide +kernel
theorem dX5_readPad_99 : decode cX5_readPad 99 = .ok (.ifCond .eq 24, 3) := by decide +kernel
theorem dX5_readPad_102 : decode cX5_readPad 102 = .ok (.iload 5, 2) := by decide +kernel
theorem dX5_readPad_104 : decode cX5_readPad 104 = .ok (.ifCond .eq 19, 3) := by decide +kernel
theorem dX5_readPad_107 : decode cX5_readPad 107 = .ok (.bipush 10, 2) := by decide +kernel
theorem dX5_readPad_109 : decode cX5_readPad 109 = .ok (.iload 5, 2) := by decide +kernel
theorem dX5_readPad_111 : decode cX5_readPad 111 = .ok (.imul, 1) := by decide +kernel
theorem dX5_readPad_112 : decode cX5_readPad 112 = .ok (.iload_n 3, 1) := by decide +kernel
theorem dX5_readPad_113 : decode cX5_readPad 113 = .ok (.iadd, 1) := by decide +kernel
theorem dX5_readPad_114 : decode cX5_readPad 114 = .ok (.bipush 48, 2) := by decide +kernel
theorem dX5_readPad_116 : decode cX5_readPad 116 = .ok (.isub, 1) := by decide +kernel
theorem dX5_readPad_117 : decode cX5_readPad 117 = .ok (.sipush 257, 3) := by decide +kernel
theorem dX5_readPad_120 : decode cX5_readPad 120 = .ok (.if_icmp .lt 5, 3) := by decide +kernel
theorem dX5_readPad_123 : decode cX5_readPad 123 = .ok (.iload_n 2, 1) := by decide +kernel
theorem dX5_readPad_124 : decode cX5_readPad 124 = .ok (.ireturn, 1) := by decide +kernel
theorem dX5_readPad_125 : decode cX5_readPad 125 = .ok (.aload_n 0, 1) := by decide +kernel
theorem dX5_readPad_126 : decode cX5_readPad 126 = .ok (.getfield 27, 3) := by decide +kernel
theorem dX5_readPad_129 : decode cX5_readPad 129 = .ok (.aload_n 0, 1) := by decide +kernel
theorem dX5_readPad_130 : decode cX5_readPad 130 = .ok (.getfield 62, 3) := by decide +kernel
theorem dX5_readPad_133 : decode cX5_readPad 133 = .ok (.iconst 1, 1) := by decide +kernel
theorem dX5_readPad_134 : decode cX5_readPad 134 = .ok (.isub, 1) := by decide +kernel
theorem dX5_readPad_135 : decode cX5_readPad 135 = .ok (.bipush 10, 2) := by decide +kernel
theorem dX5_readPad_137 : decode cX5_readPad 137 = .ok (.iload 5, 2) := by decide +kernel
theorem dX5_readPad_139 : decode cX5_readPad 139 = .ok (.imul, 1) := by decide +kernel
theorem dX5_readPad_140 : decode cX5_readPad 140 = .ok (.iload_n 3, 1) := by decide +kernel
theorem dX5_readPad_141 : decode cX5_readPad 141 = .ok (.iadd, 1) := by decide +kernel
theorem dX5_readPad_142 : decode cX5_readPad 142 = .ok (.bipush 48, 2) := by decide +kernel
theorem dX5_readPad_144 : decode cX5_readPad 144 = .ok (.isub, 1) := by decide +kernel
theorem dX5_readPad_145 : decode cX5_readPad 145 = .ok (.iastore, 1) := by decide +kernel
theorem dX5_readPad_146 : decode cX5_readPad 146 = .ok (.iinc 2 1, 3) := by decide +kernel
theorem dX5_readPad_149 : decode cX5_readPad 149 = .ok (.goto (-140), 3) := by decide +kernel
theorem dX5_readPad_152 : decode cX5_readPad 152 = .ok (.iload_n 1, 1) := by decide +kernel
theorem dX5_readPad_153 : decode cX5_readPad 153 = .ok (.ifCond .eq 10, 3) := by decide +kernel
theorem dX5_readPad_156 : decode cX5_readPad 156 = .ok (.aload_n 0, 1) := by decide +kernel
theorem dX5_readPad_157 : decode cX5_readPad 157 = .ok (.getfield 124, 3) := by decide +kernel
theorem dX5_readPad_160 : decode cX5_readPad 160 = .ok (.goto 5, 3) := by decide +kernel
theorem dX5_readPad_163 : decode cX5_readPad 163 = .ok (.bipush (-6), 2) := by decide +kernel
theorem dX5_readPad_165 : decode cX5_readPad 165 = .ok (.ireturn, 1) := by decide +kernel
set_option maxRecDepth 20000 in
theorem ggX5_fault_X5_readPad : GoodIn wsX5_fault wsX5_readPad := goodIn_r _ [5, 6, 7, 8, 9, 10, 11, 12, 4, 13, 14, 15, 16, 17, 18, 19, 20, 21, 22, 23, 24, 25, 26, 27] (by decide +kernel) (by decide +kernel)
set_option maxRecDepth 20000 in
theorem gX5_fault_X5_readPad : GoodIn wsX5_fault (wsV RX5 143 RX5 yX5_readPad wsX5_readPad) := goodIn_app (goodIn_of _ (by decide +kernel)) ggX5_fault_X5_readPad
theorem dX5_fault_0 : decode cX5_fault 0 = .ok (.aload_n 0, 1) := by decide +kernel
theorem dX5_fault_1 : decode cX5_fault 1 = .ok (.invokevirtual 143, 3) := by decide +kernel
theorem dX5_fault_4 : decode cX5_fault 4 = .ok (.ireturn, 1) := by decide +kernel
set_option maxRecDepth 20000 in
theorem ggX5_read_X5_isRegister : GoodIn wsX5_read wsX5_isRegister := goodIn_r _ [6, 7, 8, 5, 9] (by decide +kernel) (by decide +kernel)
set_option maxRecDepth 20000 in
theorem gX5_read_X5_isRegister : GoodIn wsX5_read (va_wsS RX5 68 yX5_isRegister wsX5_isRegister) := goodIn_app (goodIn_of _ (by decide +kernel)) ggX5_read_X5_isRegister
set_option maxRecDepth 20000 in
theorem ggX5_read_X5_readPad : GoodIn wsX5_read wsX5_readPad := goodIn_r _ [13, 1, 14, 15, 2, 16, 17, 18, 5, 19, 7, 8, 9, 31, 32, 33, 34, 35, 36, 37, 38, 39, 40, 41] (by decide +kernel) (by decide +kernel)
set_option maxRecDepth 20000 in
theorem gX5_read_X5_readPad : GoodIn wsX5_read (wsV RX5 143 RX5 yX5_readPad wsX5_readPad) := goodIn_app (goodIn_of _ (by decide +kernel)) ggX5_read_X5_readPad
set_option maxRecDepth 20000 in
theorem ggX5_read_X5_record : GoodIn wsX5_read wsX5_record := goodIn_r _ [23, 24, 25, 26, 31, 32, 33, 34, 35, 36, 37, 38, 39, 40, 41] (by decide +kernel) (by decide +kernel)
set_option maxRecDepth 20000 in
theorem gX5_read_X5_record : GoodIn wsX5_read (wsV RX5 52 RX5 yX5_record wsX5_record) := goodIn_app (goodIn_of _ (by decide +kernel)) ggX5_read_X5_record
set_option maxRecDepth 20000 in
theorem ggX5_read_X5_store : GoodIn wsX5_read wsX5_store := goodIn_r _ [30, 26, 2, 15, 31, 32, 33, 34, 35, 36, 37, 38, 39, 40, 41] (by decide +kernel) (by decide +kernel)
set_option maxRecDepth 20000 in
theorem gX5_read_X5_store : GoodIn wsX5_read (wsV RX5 79 RX5 yX5_store wsX5_store) := goodIn_app (goodIn_of _ (by decide +kernel)) ggX5_read_X5_store
theorem dX5_read_0 : decode cX5_read 0 = .ok (.iload_n 1, 1) := by decide +kernel
theorem dX5_read_1 : decode cX5_read 1 = .ok (.invokestatic 68, 3) := by decide +kernel
theorem dX5_read_4 : decode cX5_read 4 = .ok (.ifCond .ne 5, 3) := by decide +kernel
theorem dX5_read_7 : decode cX5_read 7 = .ok (.iconst (-1), 1) := by decide +kernel
theorem dX5_read_8 : decode cX5_read 8 = .ok (.ireturn, 1) := by decide +kernel
theorem dX5_read_9 : decode cX5_read 9 = .ok (.aload_n 0, 1) := by decide +kernel
theorem dX5_read_10 : decode cX5_read 10 = .ok (.invokevirtual 143, 3) := by decide +kernel
theorem dX5_read_13 : decode cX5_read 13 = .ok (.bipush (-6), 2) := by decide +kernel
theorem dX5_read_15 : decode cX5_read 15 = .ok (.if_icmp .eq 6, 3) := by decide +kernel
theorem dX5_read_18 : decode cX5_read 18 = .ok (.bipush (-3), 2) := by decide +kernel
theorem dX5_read_20 : decode cX5_read 20 = .ok (.ireturn, 1) := by decide +kernel
theorem dX5_read_21 : decode cX5_read 21 = .ok (.aload_n 0, 1) := by decide +kernel
theorem dX5_read_22 : decode cX5_read 22 = .ok (.invokevirtual 52, 3) := by decide +kernel
theorem dX5_read_25 : decode cX5_read 25 = .ok (.aload_n 0, 1) := by decide +kernel
theorem dX5_read_26 : decode cX5_read 26 = .ok (.iload_n 1, 1) := by decide +kernel
theorem dX5_read_27 : decode cX5_read 27 = .ok (.invokevirtual 79, 3) := by decide +kernel
theorem dX5_read_30 : decode cX5_read 30 = .ok (.aload_n 0, 1) := by decide +kernel
theorem dX5_read_31 : decode cX5_read 31 = .ok (.iconst 0, 1) := by decide +kernel
theorem dX5_read_32 : decode cX5_read 32 = .ok (.putfield 124, 3) := by decide +kernel
theorem dX5_read_35 : decode cX5_read 35 = .ok (.aload_n 0, 1) := by decide +kernel
theorem dX5_read_36 : decode cX5_read 36 = .ok (.getfield 62, 3) := by decide +kernel
theorem dX5_read_39 : decode cX5_read 39 = .ok (.ireturn, 1) := by decide +kernel
theorem dJ9_floorMod_7cf53_0 : decode cJ9_floorMod_7cf53 0 = .ok (.iload_n 0, 1) := by decide +kernel
theorem dJ9_floorMod_7cf53_1 : decode cJ9_floorMod_7cf53 1 = .ok (.iload_n 1, 1) := by decide +kernel
theorem dJ9_floorMod_7cf53_2 : decode cJ9_floorMod_7cf53 2 = .ok (.irem, 1) := by decide +kernel
theorem dJ9_floorMod_7cf53_3 : decode cJ9_floorMod_7cf53 3 = .ok (.istore_n 2, 1) := by decide +kernel
theorem dJ9_floorMod_7cf53_4 : decode cJ9_floorMod_7cf53 4 = .ok (.iload_n 0, 1) := by decide +kernel
theorem dJ9_floorMod_7cf53_5 : decode cJ9_floorMod_7cf53 5 = .ok (.iload_n 1, 1) := by decide +kernel
theorem dJ9_floorMod_7cf53_6 : decode cJ9_floorMod_7cf53 6 = .ok (.ixor, 1) := by decide +kernel
theorem dJ9_floorMod_7cf53_7 : decode cJ9_floorMod_7cf53 7 = .ok (.ifCond .ge 11, 3) := by decide +kernel
theorem dJ9_floorMod_7cf53_10 : decode cJ9_floorMod_7cf53 10 = .ok (.iload_n 2, 1) := by decide +kernel
theorem dJ9_floorMod_7cf53_11 : decode cJ9_floorMod_7cf53 11 = .ok (.ifCond .eq 7, 3) := by decide +kernel
theorem dJ9_floorMod_7cf53_14 : decode cJ9_floorMod_7cf53 14 = .ok (.iload_n 2, 1) := by decide +kernel
theorem dJ9_floorMod_7cf53_15 : decode cJ9_floorMod_7cf53 15 = .ok (.iload_n 1, 1) := by decide +kernel
theorem dJ9_floorMod_7cf53_16 : decode cJ9_floorMod_7cf53 16 = .ok (.iadd, 1) := by decide +kernel
theorem dJ9_floorMod_7cf53_17 : decode cJ9_floorMod_7cf53 17 = .ok (.ireturn, 1) := by decide +kernel
theorem dJ9_floorMod_7cf53_18 : decode cJ9_floorMod_7cf53 18 = .ok (.iload_n 2, 1) := by decide +kernel
theorem dJ9_floorMod_7cf53_19 : decode cJ9_floorMod_7cf53 19 = .ok (.ireturn, 1) := by decide +kernel
theorem dJ9_max_7cf53_0 : decode cJ9_max_7cf53 0 = .ok (.iload_n 0, 1) := by decide +kernel
theorem dJ9_max_7cf53_1 : decode cJ9_max_7cf53 1 = .ok (.iload_n 1, 1) := by decide +kernel
theorem dJ9_max_7cf53_2 : decode cJ9_max_7cf53 2 = .ok (.if_icmp .lt 7, 3) := by decide +kernel
theorem dJ9_max_7cf53_5 : decode cJ9_max_7cf53 5 = .ok (.iload_n 0, 1) := by decide +kernel
theorem dJ9_max_7cf53_6 : decode cJ9_max_7cf53 6 = .ok (.goto 4, 3) := by decide +kernel
theorem dJ9_max_7cf53_9 : decode cJ9_max_7cf53 9 = .ok (.iload_n 1, 1) := by decide +kernel
theorem dJ9_max_7cf53_10 : decode cJ9_max_7cf53 10 = .ok (.ireturn, 1) := by decide +kernel
theorem dJ7_fill_53178_0 : decode cJ7_fill_53178 0 = .ok (.iconst 0, 1) := by decide +kernel
theorem dJ7_fill_53178_1 : decode cJ7_fill_53178 1 = .ok (.istore_n 2, 1) := by decide +kernel
theorem dJ7_fill_53178_2 : decode cJ7_fill_53178 2 = .ok (.aload_n 0, 1) := by decide +kernel
theorem dJ7_fill_53178_3 : decode cJ7_fill_53178 3 = .ok (.arraylength, 1) := by decide +kernel
theorem dJ7_fill_53178_4 : decode cJ7_fill_53178 4 = .ok (.istore_n 3, 1) := by decide +kernel
theorem dJ7_fill_53178_5 : decode cJ7_fill_53178 5 = .ok (.iload_n 2, 1) := by decide +kernel
theorem dJ7_fill_53178_6 : decode cJ7_fill_53178 6 = .ok (.iload_n 3, 1) := by decide +kernel
theorem dJ7_fill_53178_7 : decode cJ7_fill_53178 7 = .ok (.if_icmp .ge 13, 3) := by decide +kernel
theorem dJ7_fill_53178_10 : decode cJ7_fill_53178 10 = .ok (.aload_n 0, 1) := by decide +kernel
theorem dJ7_fill_53178_11 : decode cJ7_fill_53178 11 = .ok (.iload_n 2, 1) := by decide +kernel
theorem dJ7_fill_53178_12 : decode cJ7_fill_53178 12 = .ok (.iload_n 1, 1) := by decide +kernel
theorem dJ7_fill_53178_13 : decode cJ7_fill_53178 13 = .ok (.iastore, 1) := by decide +kernel
theorem dJ7_fill_53178_14 : decode cJ7_fill_53178 14 = .ok (.iinc 2 1, 3) := by decide +kernel
theorem dJ7_fill_53178_17 : decode cJ7_fill_53178 17 = .ok (.goto (-12), 3) := by decide +kernel
theorem dJ7_fill_53178_20 : decode cJ7_fill_53178 20 = .ok (.return_, 1) := by decide +kernel
set_option maxRecDepth 20000 in
theorem ggL_law_X4_init : GoodIn wsL_law wsX4_init := goodIn_r _ [9, 10, 11, 12, 13, 14, 15, 16, 17, 18, 19, 20, 21, 22, 23, 24, 25, 26, 27, 28, 29, 30, 31, 32, 33, 34, 35, 36, 37, 38, 39, 40, 41, 42, 43, 44, 45, 46, 47, 48, 49, 50, 51, 52, 53, 54, 55, 56, 57, 58, 59, 60, 598, 577, 578, 579, 580, 581, 582, 583, 584, 585, 586, 599, 600, 601, 602, 603, 604] (by decide +kernel) (by decide +kernel)
set_option maxRecDepth 20000 in
theorem gL_law_X4_init : GoodIn wsL_law (wsX4_init) := ggL_law_X4_init
set_option maxRecDepth 20000 in
theorem ggL_law_X5_init : GoodIn wsL_law wsX5_init := goodIn_r _ [63, 64, 11, 12, 45, 65, 66, 67, 26, 68, 69, 70, 71, 72, 73, 587, 588, 589, 590, 591, 592, 593, 594, 595, 596, 597] (by decide +kernel) (by decide +kernel)
set_option maxRecDepth 20000 in
theorem gL_law_X5_init : GoodIn wsL_law (wsX5_init) := ggL_law_X5_init
set_option maxRecDepth 20000 in
theorem ggL_law_X4_read : GoodIn wsL_law wsX4_read := goodIn_r _ [77, 16, 24, 31, 78, 79, 80, 15, 81, 41, 82, 83, 84, 23, 85, 59, 60, 86, 87, 88, 89, 90, 91, 92, 93, 94, 95, 30, 96, 46, 97, 98, 99, 100, 101, 102, 103, 104, 47, 105, 106, 107, 108, 2, 109, 20, 110, 111, 112, 19, 113, 54, 53, 114, 115, 116, 117, 118, 119, 120, 121, 122, 123, 124, 125, 126, 127, 128, 129, 130, 131, 132, 133, 134, 135, 136, 137, 138, 577, 578, 579, 580, 581, 582, 583, 584, 585, 586, 598, 601, 602, 603, 604, 599, 600] (by decide +kernel) (by decide +kernel)
set_option maxRecDepth 20000 in
theorem gL_law_X4_read : GoodIn wsL_law (wsV RL 13 RX4 yX4_read wsX4_read) := goodIn_app (goodIn_of _ (by decide +kernel)) ggL_law_X4_read
set_option maxRecDepth 20000 in
theorem ggL_law_X5_read : GoodIn wsL_law wsX5_read := goodIn_r _ [142, 143, 144, 145, 146, 5, 147, 148, 149, 150, 151, 152, 153, 154, 70, 71, 155, 156, 157, 158, 159, 160, 161, 162, 163, 66, 65, 164, 165, 166, 167, 587, 588, 589, 590, 591, 592, 593, 594, 595, 596, 597] (by decide +kernel) (by decide +kernel)
set_option maxRecDepth 20000 in
theorem gL_law_X5_read : GoodIn wsL_law (wsV RL 17 RX5 yX5_read wsX5_read) := goodIn_app (goodIn_of _ (by decide +kernel)) ggL_law_X5_read
set_option maxRecDepth 20000 in
theorem ggL_law_X4_set : GoodIn wsL_law wsX4_set := goodIn_r _ [171, 16, 20, 172, 90, 91, 92, 78, 79, 80, 15, 81, 41, 135, 136, 137, 30, 138, 47, 173, 174, 2, 175, 110, 111, 112, 19, 113, 54, 53, 114, 115, 116, 117, 118, 119, 120, 121, 122, 123, 124, 125, 46, 126, 127, 128, 129, 176, 102, 103, 104, 105, 94, 95, 96, 97, 98, 99, 100, 177, 577, 578, 579, 580, 581, 582, 583, 584, 585, 586, 598, 603, 604, 599, 600] (by decide +kernel) (by decide +kernel)
set_option maxRecDepth 20000 in
theorem gL_law_X4_set : GoodIn wsL_law (wsV RL 18 RX4 yX4_set wsX4_set) := goodIn_app (goodIn_of _ (by decide +kernel)) ggL_law_X4_set
set_option maxRecDepth 20000 in
theorem ggL_law_X5_set : GoodIn wsL_law wsX5_set := goodIn_r _ [181, 65, 145, 146, 5, 147, 148, 149, 150, 182, 183, 184, 185, 186, 187, 188, 159, 160, 161, 162, 163, 66, 587, 588, 589, 590, 591, 592, 593, 594, 595, 596, 597] (by decide +kernel) (by decide +kernel)
set_option maxRecDepth 20000 in
theorem gL_law_X5_set : GoodIn wsL_law (wsV RL 22 RX5 yX5_set wsX5_set) := goodIn_app (goodIn_of _ (by decide +kernel)) ggL_law_X5_set
set_option maxRecDepth 20000 in
theorem ggL_law_X4_add : GoodIn wsL_law wsX4_add := goodIn_r _ [192, 16, 31, 172, 90, 91, 92, 78, 79, 80, 15, 81, 41, 173, 174, 2, 175, 135, 136, 137, 30, 138, 47, 193, 194, 195, 196, 46, 197, 198, 199, 200, 201, 202, 203, 204, 177, 94, 95, 96, 97, 98, 99, 100, 106, 107, 108, 109, 20, 110, 111, 112, 19, 113, 54, 53, 114, 115, 116, 117, 118, 119, 120, 121, 122, 123, 124, 125, 126, 127, 128, 129, 130, 577, 578, 579, 580, 581, 582, 583, 584, 585, 586, 598, 603, 604, 599, 600] (by decide +kernel) (by decide +kernel)
set_option maxRecDepth 20000 in
theorem gL_law_X4_add : GoodIn wsL_law (wsV RL 23 RX4 yX4_add wsX4_add) := goodIn_app (goodIn_of _ (by decide +kernel)) ggL_law_X4_add
set_option maxRecDepth 20000 in
theorem ggL_law_X5_add : GoodIn wsL_law wsX5_add := goodIn_r _ [208, 144, 71, 145, 146, 5, 147, 148, 149, 150, 186, 187, 188, 159, 160, 161, 162, 163, 66, 65, 182, 183, 184, 185, 155, 156, 157, 158, 209, 210, 211, 212, 213, 214, 215, 164, 165, 166, 167, 587, 588, 589, 590, 591, 592, 593, 594, 595, 596, 597] (by decide +kernel) (by decide +kernel)
set_option maxRecDepth 20000 in
theorem gL_law_X5_add : GoodIn wsL_law (wsV RL 27 RX5 yX5_add wsX5_add) := goodIn_app (goodIn_of _ (by decide +kernel)) ggL_law_X5_add
set_option maxRecDepth 20000 in
theorem ggL_law_X4_product : GoodIn wsL_law wsX4_product := goodIn_r _ [219, 16, 31, 78, 79, 80, 15, 81, 41, 220, 221, 2, 222, 135, 136, 137, 30, 138, 47, 223, 224, 225, 193, 194, 195, 196, 46, 197, 198, 199, 200, 201, 202, 203, 204, 177, 94, 95, 96, 97, 98, 99, 100, 226, 227, 228, 106, 107, 108, 109, 20, 110, 111, 112, 19, 113, 54, 53, 114, 115, 116, 117, 118, 119, 120, 121, 122, 123, 124, 125, 126, 127, 128, 129, 130, 577, 578, 579, 580, 581, 582, 583, 584, 585, 586, 598, 603, 604, 599, 600] (by decide +kernel) (by decide +kernel)
set_option maxRecDepth 20000 in
theorem gL_law_X4_product : GoodIn wsL_law (wsV RL 28 RX4 yX4_product wsX4_product) := goodIn_app (goodIn_of _ (by decide +kernel)) ggL_law_X4_product
set_option maxRecDepth 20000 in
theorem ggL_law_X5_product : GoodIn wsL_law wsX5_product := goodIn_r _ [232, 71, 145, 146, 5, 147, 148, 149, 150, 182, 183, 184, 185, 65, 159, 160, 161, 162, 163, 66, 155, 156, 157, 158, 144, 209, 210, 211, 212, 164, 165, 166, 167, 587, 588, 589, 590, 591, 592, 593, 594, 595, 596, 597] (by decide +kernel) (by decide +kernel)
set_option maxRecDepth 20000 in
theorem gL_law_X5_product : GoodIn wsL_law (wsV RL 31 RX5 yX5_product wsX5_product) := goodIn_app (goodIn_of _ (by decide +kernel)) ggL_law_X5_product
set_option maxRecDepth 20000 in
theorem ggL_law_X4_round : GoodIn wsL_law wsX4_round := goodIn_r _ [236, 16, 31, 78, 79, 80, 15, 81, 41, 223, 224, 2, 225, 193, 194, 195, 30, 196, 46, 47, 197, 198, 199, 200, 135, 136, 137, 138, 201, 202, 203, 204, 177, 94, 95, 96, 97, 98, 99, 100, 226, 227, 228, 106, 107, 108, 109, 20, 110, 111, 112, 19, 113, 54, 53, 114, 115, 116, 117, 118, 119, 120, 121, 122, 123, 124, 125, 126, 127, 128, 129, 130, 237, 238, 239, 240, 241, 577, 578, 579, 580, 581, 582, 583, 584, 585, 586, 598, 603, 604, 599, 600] (by decide +kernel) (by decide +kernel)
set_option maxRecDepth 20000 in
theorem gL_law_X4_round : GoodIn wsL_law (wsV RL 32 RX4 yX4_round wsX4_round) := goodIn_app (goodIn_of _ (by decide +kernel)) ggL_law_X4_round
set_option maxRecDepth 20000 in
theorem ggL_law_X5_round : GoodIn wsL_law wsX5_round := goodIn_r _ [245, 71, 145, 146, 5, 147, 148, 149, 150, 159, 160, 161, 162, 163, 66, 65, 155, 156, 157, 158, 144, 182, 183, 184, 185, 209, 210, 211, 212, 164, 165, 166, 167, 246, 247, 248, 249, 587, 588, 589, 590, 591, 592, 593, 594, 595, 596, 597] (by decide +kernel) (by decide +kernel)
set_option maxRecDepth 20000 in
theorem gL_law_X5_round : GoodIn wsL_law (wsV RL 35 RX5 yX5_round wsX5_round) := goodIn_app (goodIn_of _ (by decide +kernel)) ggL_law_X5_round
set_option maxRecDepth 20000 in
theorem ggL_law_X4_power : GoodIn wsL_law wsX4_power := goodIn_r _ [253, 16, 31, 35, 78, 79, 80, 15, 81, 41, 135, 136, 137, 30, 138, 47, 193, 194, 195, 196, 46, 197, 198, 199, 200, 177, 94, 95, 96, 97, 98, 99, 100, 220, 221, 2, 222, 223, 224, 225, 201, 202, 203, 204, 226, 227, 228, 130, 123, 124, 125, 126, 127, 128, 129, 106, 107, 108, 109, 20, 110, 111, 112, 19, 113, 54, 53, 114, 115, 116, 117, 118, 119, 120, 121, 122, 577, 578, 579, 580, 581, 582, 583, 584, 585, 586, 598, 603, 604, 599, 600] (by decide +kernel) (by decide +kernel)
set_option maxRecDepth 20000 in
theorem gL_law_X4_power : GoodIn wsL_law (wsV RL 36 RX4 yX4_power wsX4_power) := goodIn_app (goodIn_of _ (by decide +kernel)) ggL_law_X4_power
set_option maxRecDepth 20000 in
theorem ggL_law_X5_power : GoodIn wsL_law wsX5_power := goodIn_r _ [257, 71, 144, 145, 146, 5, 147, 148, 149, 150, 182, 183, 184, 185, 65, 159, 160, 161, 162, 163, 66, 155, 156, 157, 158, 258, 259, 260, 261, 72, 209, 210, 211, 212, 164, 165, 166, 167, 587, 588, 589, 590, 591, 592, 593, 594, 595, 596, 597] (by decide +kernel) (by decide +kernel)
set_option maxRecDepth 20000 in
theorem gL_law_X5_power : GoodIn wsL_law (wsV RL 39 RX5 yX5_power wsX5_power) := goodIn_app (goodIn_of _ (by decide +kernel)) ggL_law_X5_power
set_option maxRecDepth 20000 in
theorem ggL_law_X4_inverse : GoodIn wsL_law wsX4_inverse := goodIn_r _ [265, 16, 31, 78, 79, 80, 15, 81, 41, 201, 202, 203, 30, 204, 46, 266, 267, 2, 268, 269, 270, 271, 272, 273, 274, 193, 194, 195, 196, 47, 197, 198, 199, 200, 177, 94, 95, 96, 97, 98, 99, 100, 106, 107, 108, 109, 20, 110, 111, 112, 19, 113, 54, 53, 114, 115, 116, 117, 118, 119, 120, 121, 122, 123, 124, 125, 126, 127, 128, 129, 130, 237, 238, 239, 240, 241, 577, 578, 579, 580, 581, 582, 583, 584, 585, 586, 598, 603, 604, 599, 600] (by decide +kernel) (by decide +kernel)
set_option maxRecDepth 20000 in
theorem gL_law_X4_inverse : GoodIn wsL_law (wsV RL 40 RX4 yX4_inverse wsX4_inverse) := goodIn_app (goodIn_of _ (by decide +kernel)) ggL_law_X4_inverse
set_option maxRecDepth 20000 in
theorem ggL_law_X5_inverse : GoodIn wsL_law wsX5_inverse := goodIn_r _ [278, 71, 145, 146, 5, 147, 148, 149, 150, 209, 210, 211, 212, 65, 182, 183, 184, 185, 159, 160, 161, 162, 163, 66, 155, 156, 157, 158, 144, 279, 280, 281, 282, 283, 284, 213, 214, 215, 285, 286, 287, 164, 165, 166, 167, 246, 247, 248, 249, 587, 588, 589, 590, 591, 592, 593, 594, 595, 596, 597] (by decide +kernel) (by decide +kernel)
set_option maxRecDepth 20000 in
theorem gL_law_X5_inverse : GoodIn wsL_law (wsV RL 43 RX5 yX5_inverse wsX5_inverse) := goodIn_app (goodIn_of _ (by decide +kernel)) ggL_law_X5_inverse
set_option maxRecDepth 20000 in
theorem ggL_law_X4_divide : GoodIn wsL_law wsX4_divide := goodIn_r _ [291, 16, 31, 32, 78, 79, 80, 15, 81, 41, 237, 238, 239, 30, 240, 47, 241, 202, 203, 204, 46, 292, 293, 2, 294, 172, 90, 91, 92, 201, 269, 270, 271, 272, 273, 274, 193, 194, 195, 196, 197, 198, 199, 200, 130, 123, 124, 125, 126, 127, 128, 129, 177, 94, 95, 96, 97, 98, 99, 100, 176, 102, 103, 104, 105, 106, 107, 108, 109, 20, 110, 111, 112, 19, 113, 54, 53, 114, 115, 116, 117, 118, 119, 120, 121, 122, 577, 578, 579, 580, 581, 582, 583, 584, 585, 586, 598, 603, 604, 599, 600] (by decide +kernel) (by decide +kernel)
set_option maxRecDepth 20000 in
theorem gL_law_X4_divide : GoodIn wsL_law (wsV RL 44 RX4 yX4_divide wsX4_divide) := goodIn_app (goodIn_of _ (by decide +kernel)) ggL_law_X4_divide
set_option maxRecDepth 20000 in
theorem ggL_law_X5_divide : GoodIn wsL_law wsX5_divide := goodIn_r _ [298, 72, 73, 71, 145, 146, 5, 147, 148, 149, 150, 299, 300, 301, 302, 182, 183, 184, 185, 65, 209, 210, 211, 212, 159, 160, 161, 162, 163, 66, 155, 156, 157, 158, 144, 303, 304, 305, 306, 279, 280, 281, 282, 283, 284, 213, 214, 215, 285, 286, 287, 164, 165, 166, 167, 246, 247, 248, 249, 587, 588, 589, 590, 591, 592, 593, 594, 595, 596, 597] (by decide +kernel) (by decide +kernel)
set_option maxRecDepth 20000 in
theorem gL_law_X5_divide : GoodIn wsL_law (wsV RL 47 RX5 yX5_divide wsX5_divide) := goodIn_app (goodIn_of _ (by decide +kernel)) ggL_law_X5_divide
set_option maxRecDepth 20000 in
theorem ggL_law_X4_divisor : GoodIn wsL_law wsX4_divisor := goodIn_r _ [310, 16, 78, 79, 80, 15, 81, 41, 237, 238, 239, 30, 240, 47, 241, 202, 203, 204, 46, 311, 312, 313, 2, 314, 33, 34, 35, 32, 31, 130, 123, 124, 125, 126, 127, 128, 129, 292, 293, 294, 172, 90, 91, 92, 201, 269, 270, 271, 272, 273, 274, 193, 194, 195, 196, 197, 198, 199, 200, 177, 94, 95, 96, 97, 98, 99, 100, 176, 102, 103, 104, 105, 315, 316, 317, 318, 106, 107, 108, 109, 20, 110, 111, 112, 19, 113, 54, 53, 114, 115, 116, 117, 118, 119, 120, 121, 122, 577, 578, 579, 580, 581, 582, 583, 584, 585, 586, 598, 603, 604, 599, 600] (by decide +kernel) (by decide +kernel)
set_option maxRecDepth 20000 in
theorem gL_law_X4_divisor : GoodIn wsL_law (wsV RL 48 RX4 yX4_divisor wsX4_divisor) := goodIn_app (goodIn_of _ (by decide +kernel)) ggL_law_X4_divisor
set_option maxRecDepth 20000 in
theorem ggL_law_X5_divisor : GoodIn wsL_law wsX5_divisor := goodIn_r _ [322, 72, 73, 71, 145, 146, 5, 147, 148, 149, 150, 299, 300, 301, 302, 182, 183, 184, 185, 65, 209, 210, 211, 212, 159, 160, 161, 162, 163, 66, 323, 324, 325, 155, 156, 157, 158, 144, 303, 304, 305, 306, 279, 280, 281, 282, 283, 284, 213, 214, 215, 285, 286, 287, 164, 165, 166, 167, 587, 588, 589, 590, 591, 592, 593, 594, 595, 596, 597] (by decide +kernel) (by decide +kernel)
set_option maxRecDepth 20000 in
theorem gL_law_X5_divisor : GoodIn wsL_law (wsV RL 51 RX5 yX5_divisor wsX5_divisor) := goodIn_app (goodIn_of _ (by decide +kernel)) ggL_law_X5_divisor
set_option maxRecDepth 20000 in
theorem ggL_law_X4_turn : GoodIn wsL_law wsX4_turn := goodIn_r _ [329, 16, 31, 78, 79, 80, 15, 81, 41, 330, 331, 2, 332, 272, 273, 274, 135, 136, 137, 30, 138, 47, 333, 334, 335, 193, 194, 195, 196, 46, 197, 198, 199, 200, 336, 337, 338, 339, 241, 202, 203, 204, 177, 94, 95, 96, 97, 98, 99, 100, 106, 107, 108, 109, 20, 110, 111, 112, 19, 113, 54, 53, 114, 115, 116, 117, 118, 119, 120, 121, 122, 123, 124, 125, 126, 127, 128, 129, 130, 340, 341, 342, 343, 577, 578, 579, 580, 581, 582, 583, 584, 585, 586, 598, 603, 604, 599, 600] (by decide +kernel) (by decide +kernel)
set_option maxRecDepth 20000 in
theorem gL_law_X4_turn : GoodIn wsL_law (wsV RL 52 RX4 yX4_turn wsX4_turn) := goodIn_app (goodIn_of _ (by decide +kernel)) ggL_law_X4_turn
set_option maxRecDepth 20000 in
theorem ggL_law_X5_turn : GoodIn wsL_law wsX5_turn := goodIn_r _ [347, 71, 145, 146, 5, 147, 148, 149, 150, 348, 349, 350, 182, 183, 184, 185, 65, 159, 160, 161, 162, 163, 66, 155, 156, 157, 158, 144, 351, 352, 353, 282, 283, 284, 213, 214, 215, 354, 355, 356, 357, 209, 210, 211, 212, 164, 165, 166, 167, 587, 588, 589, 590, 591, 592, 593, 594, 595, 596, 597] (by decide +kernel) (by decide +kernel)
set_option maxRecDepth 20000 in
theorem gL_law_X5_turn : GoodIn wsL_law (wsV RL 55 RX5 yX5_turn wsX5_turn) := goodIn_app (goodIn_of _ (by decide +kernel)) ggL_law_X5_turn
set_option maxRecDepth 20000 in
theorem ggL_law_X4_turnBack : GoodIn wsL_law wsX4_turnBack := goodIn_r _ [361, 16, 31, 78, 79, 80, 15, 81, 41, 135, 136, 137, 30, 138, 47, 330, 331, 2, 332, 272, 273, 274, 269, 270, 271, 333, 334, 335, 193, 194, 195, 196, 46, 197, 198, 199, 200, 336, 337, 338, 339, 241, 202, 203, 204, 177, 94, 95, 96, 97, 98, 99, 100, 315, 316, 317, 318, 105, 106, 107, 108, 109, 20, 110, 111, 112, 19, 113, 54, 53, 114, 115, 116, 117, 118, 119, 120, 121, 122, 123, 124, 125, 126, 127, 128, 129, 130, 237, 238, 239, 240, 577, 578, 579, 580, 581, 582, 583, 584, 585, 586, 598, 603, 604, 599, 600] (by decide +kernel) (by decide +kernel)
set_option maxRecDepth 20000 in
theorem gL_law_X4_turnBack : GoodIn wsL_law (wsV RL 56 RX4 yX4_turnBack wsX4_turnBack) := goodIn_app (goodIn_of _ (by decide +kernel)) ggL_law_X4_turnBack
set_option maxRecDepth 20000 in
theorem ggL_law_X5_turnBack : GoodIn wsL_law wsX5_turnBack := goodIn_r _ [365, 71, 145, 146, 5, 147, 148, 149, 150, 182, 183, 184, 185, 65, 348, 349, 350, 159, 160, 161, 162, 163, 66, 155, 156, 157, 158, 144, 351, 352, 353, 282, 283, 284, 213, 214, 215, 279, 280, 281, 354, 355, 356, 357, 209, 210, 211, 212, 164, 165, 166, 167, 246, 247, 248, 249, 587, 588, 589, 590, 591, 592, 593, 594, 595, 596, 597] (by decide +kernel) (by decide +kernel)
set_option maxRecDepth 20000 in
theorem gL_law_X5_turnBack : GoodIn wsL_law (wsV RL 60 RX5 yX5_turnBack wsX5_turnBack) := goodIn_app (goodIn_of _ (by decide +kernel)) ggL_law_X5_turnBack
set_option maxRecDepth 20000 in
theorem ggL_law_X4_number : GoodIn wsL_law wsX4_number := goodIn_r _ [369, 16, 78, 79, 80, 15, 81, 41, 135, 136, 137, 30, 138, 47, 201, 202, 203, 204, 46, 577, 578, 579, 580, 581, 582, 583, 584, 585, 586, 598, 603, 604] (by decide +kernel) (by decide +kernel)
set_option maxRecDepth 20000 in
theorem gL_law_X4_number : GoodIn wsL_law (wsV RL 61 RX4 yX4_number wsX4_number) := goodIn_app (goodIn_of _ (by decide +kernel)) ggL_law_X4_number
set_option maxRecDepth 20000 in
theorem ggL_law_X5_number : GoodIn wsL_law wsX5_number := goodIn_r _ [373, 145, 146, 5, 147, 148, 149, 150, 182, 183, 184, 185, 65, 209, 210, 211, 212, 587, 588, 589, 590, 591, 592, 593, 594, 595, 596, 597] (by decide +kernel) (by decide +kernel)
set_option maxRecDepth 20000 in
theorem gL_law_X5_number : GoodIn wsL_law (wsV RL 64 RX5 yX5_number wsX5_number) := goodIn_app (goodIn_of _ (by decide +kernel)) ggL_law_X5_number
set_option maxRecDepth 20000 in
theorem ggL_law_X4_of : GoodIn wsL_law wsX4_of := goodIn_r _ [377, 16, 78, 79, 80, 15, 81, 41, 135, 136, 137, 30, 138, 47, 237, 238, 239, 240, 241, 202, 203, 204, 46, 340, 341, 342, 343, 378, 379, 380, 381, 382, 383, 384, 385, 386, 337, 338, 339, 387, 388, 389, 390, 577, 578, 579, 580, 581, 582, 583, 584, 585, 586, 598, 603, 604] (by decide +kernel) (by decide +kernel)
set_option maxRecDepth 20000 in
theorem gL_law_X4_of : GoodIn wsL_law (wsV RL 65 RX4 yX4_of wsX4_of) := goodIn_app (goodIn_of _ (by decide +kernel)) ggL_law_X4_of
set_option maxRecDepth 20000 in
theorem ggL_law_X5_of : GoodIn wsL_law wsX5_of := goodIn_r _ [394, 145, 146, 5, 147, 148, 149, 150, 182, 183, 184, 185, 65, 299, 300, 301, 302, 209, 210, 211, 212, 395, 396, 397, 398, 399, 400, 401, 402, 403, 404, 405, 406, 354, 355, 356, 357, 587, 588, 589, 590, 591, 592, 593, 594, 595, 596, 597] (by decide +kernel) (by decide +kernel)
set_option maxRecDepth 20000 in
theorem gL_law_X5_of : GoodIn wsL_law (wsV RL 68 RX5 yX5_of wsX5_of) := goodIn_app (goodIn_of _ (by decide +kernel)) ggL_law_X5_of
set_option maxRecDepth 20000 in
theorem ggL_law_X4_value : GoodIn wsL_law wsX4_value := goodIn_r _ [410, 16, 78, 79, 80, 15, 81, 41, 173, 174, 2, 175, 336, 337, 338, 30, 339, 47, 241, 202, 203, 204, 46, 577, 578, 579, 580, 581, 582, 583, 584, 585, 586, 598, 603, 604] (by decide +kernel) (by decide +kernel)
set_option maxRecDepth 20000 in
theorem gL_law_X4_value : GoodIn wsL_law (wsV RL 69 RX4 yX4_value wsX4_value) := goodIn_app (goodIn_of _ (by decide +kernel)) ggL_law_X4_value
set_option maxRecDepth 20000 in
theorem ggL_law_X5_value : GoodIn wsL_law wsX5_value := goodIn_r _ [414, 145, 146, 5, 147, 148, 149, 150, 186, 187, 188, 354, 355, 356, 357, 182, 183, 184, 185, 65, 209, 210, 211, 212, 587, 588, 589, 590, 591, 592, 593, 594, 595, 596, 597] (by decide +kernel) (by decide +kernel)
set_option maxRecDepth 20000 in
theorem gL_law_X5_value : GoodIn wsL_law (wsV RL 72 RX5 yX5_value wsX5_value) := goodIn_app (goodIn_of _ (by decide +kernel)) ggL_law_X5_value
set_option maxRecDepth 20000 in
theorem ggL_law_X4_turningPoint : GoodIn wsL_law wsX4_turningPoint := goodIn_r _ [418, 330, 331, 2, 332, 272, 273, 274] (by decide +kernel) (by decide +kernel)
set_option maxRecDepth 20000 in
theorem gL_law_X4_turningPoint : GoodIn wsL_law (wsV RL 73 RX4 yX4_turningPoint wsX4_turningPoint) := goodIn_app (goodIn_of _ (by decide +kernel)) ggL_law_X4_turningPoint
set_option maxRecDepth 20000 in
theorem ggL_law_X5_turningPoint : GoodIn wsL_law wsX5_turningPoint := goodIn_r _ [422, 348, 349, 5, 350, 148, 149, 150, 351, 352, 353, 282, 283, 284, 213, 214, 215] (by decide +kernel) (by decide +kernel)
set_option maxRecDepth 20000 in
theorem gL_law_X5_turningPoint : GoodIn wsL_law (wsV RL 76 RX5 yX5_turningPoint wsX5_turningPoint) := goodIn_app (goodIn_of _ (by decide +kernel)) ggL_law_X5_turningPoint
set_option maxRecDepth 20000 in
theorem ggL_law_X4_count : GoodIn wsL_law wsX4_count := goodIn_r _ [426, 16, 24, 20, 427, 428, 429, 15, 430, 41, 431, 136, 137, 30, 138, 47, 432, 433, 434, 23, 435, 60, 436, 437, 438, 19, 439, 54, 577, 578, 579, 580, 581, 582, 583, 584, 585, 586, 598, 603, 604, 601, 602, 599, 600] (by decide +kernel) (by decide +kernel)
set_option maxRecDepth 20000 in
theorem gL_law_X4_count : GoodIn wsL_law (wsV RL 77 RX4 yX4_count wsX4_count) := goodIn_app (goodIn_of _ (by decide +kernel)) ggL_law_X4_count
set_option maxRecDepth 20000 in
theorem ggL_law_X5_count : GoodIn wsL_law wsX5_count := goodIn_r _ [443, 143, 163, 444, 445, 446, 5, 447, 182, 183, 184, 185, 65, 587, 588, 589, 590, 591, 592, 593, 594, 595, 596, 597] (by decide +kernel) (by decide +kernel)
set_option maxRecDepth 20000 in
theorem gL_law_X5_count : GoodIn wsL_law (wsV RL 80 RX5 yX5_count wsX5_count) := goodIn_app (goodIn_of _ (by decide +kernel)) ggL_law_X5_count
set_option maxRecDepth 20000 in
theorem ggL_law_X4_fits : GoodIn wsL_law wsX4_fits := goodIn_r _ [451, 16, 452, 453, 78, 79, 80, 15, 81, 41, 454, 455, 2, 456, 135, 136, 137, 30, 138, 47, 457, 458, 459, 201, 202, 203, 204, 46, 577, 578, 579, 580, 581, 582, 583, 584, 585, 586, 598, 603, 604] (by decide +kernel) (by decide +kernel)
set_option maxRecDepth 20000 in
theorem gL_law_X4_fits : GoodIn wsL_law (wsV RL 81 RX4 yX4_fits wsX4_fits) := goodIn_app (goodIn_of _ (by decide +kernel)) ggL_law_X4_fits
set_option maxRecDepth 20000 in
theorem ggL_law_X5_fits : GoodIn wsL_law wsX5_fits := goodIn_r _ [463, 464, 465, 145, 146, 5, 147, 148, 149, 150, 466, 467, 468, 469, 182, 183, 184, 185, 65, 470, 471, 472, 473, 209, 210, 211, 212, 587, 588, 589, 590, 591, 592, 593, 594, 595, 596, 597] (by decide +kernel) (by decide +kernel)
set_option maxRecDepth 20000 in
theorem gL_law_X5_fits : GoodIn wsL_law (wsV RL 85 RX5 yX5_fits wsX5_fits) := goodIn_app (goodIn_of _ (by decide +kernel)) ggL_law_X5_fits
set_option maxRecDepth 20000 in
theorem ggL_law_X4_sum : GoodIn wsL_law wsX4_sum := goodIn_r _ [477, 16, 78, 79, 80, 15, 81, 41, 454, 455, 2, 456, 135, 136, 137, 30, 138, 47, 478, 479, 480, 201, 202, 203, 204, 46, 577, 578, 579, 580, 581, 582, 583, 584, 585, 586, 598, 603, 604] (by decide +kernel) (by decide +kernel)
set_option maxRecDepth 20000 in
theorem gL_law_X4_sum : GoodIn wsL_law (wsV RL 86 RX4 yX4_sum wsX4_sum) := goodIn_app (goodIn_of _ (by decide +kernel)) ggL_law_X4_sum
set_option maxRecDepth 20000 in
theorem ggL_law_X5_sum : GoodIn wsL_law wsX5_sum := goodIn_r _ [484, 145, 146, 5, 147, 148, 149, 150, 466, 467, 468, 469, 182, 183, 184, 185, 65, 485, 486, 487, 488, 209, 210, 211, 212, 285, 286, 287, 213, 214, 215, 587, 588, 589, 590, 591, 592, 593, 594, 595, 596, 597] (by decide +kernel) (by decide +kernel)
set_option maxRecDepth 20000 in
theorem gL_law_X5_sum : GoodIn wsL_law (wsV RL 89 RX5 yX5_sum wsX5_sum) := goodIn_app (goodIn_of _ (by decide +kernel)) ggL_law_X5_sum
set_option maxRecDepth 20000 in
theorem ggL_law_X4_found : GoodIn wsL_law wsX4_found := goodIn_r _ [492, 16, 78, 79, 80, 15, 81, 41, 454, 455, 2, 456, 135, 136, 137, 30, 138, 47, 493, 494, 495, 457, 458, 459, 201, 202, 203, 204, 46, 496, 497, 498, 499, 500, 501, 478, 479, 480, 502, 503, 504, 505, 506, 507, 172, 90, 91, 92, 577, 578, 579, 580, 581, 582, 583, 584, 585, 586, 598, 603, 604] (by decide +kernel) (by decide +kernel)
set_option maxRecDepth 20000 in
theorem gL_law_X4_found : GoodIn wsL_law (wsV RL 90 RX4 yX4_found wsX4_found) := goodIn_app (goodIn_of _ (by decide +kernel)) ggL_law_X4_found
set_option maxRecDepth 20000 in
theorem ggL_law_X5_found : GoodIn wsL_law wsX5_found := goodIn_r _ [511, 145, 146, 5, 147, 148, 149, 150, 466, 467, 468, 469, 182, 183, 184, 185, 65, 470, 471, 472, 473, 209, 210, 211, 212, 485, 486, 487, 488, 285, 286, 287, 213, 214, 215, 587, 588, 589, 590, 591, 592, 593, 594, 595, 596, 597] (by decide +kernel) (by decide +kernel)
set_option maxRecDepth 20000 in
theorem gL_law_X5_found : GoodIn wsL_law (wsV RL 93 RX5 yX5_found wsX5_found) := goodIn_app (goodIn_of _ (by decide +kernel)) ggL_law_X5_found
set_option maxRecDepth 20000 in
theorem ggL_law_X4_put : GoodIn wsL_law wsX4_put := goodIn_r _ [515, 24, 516, 517, 2, 518, 519, 432, 433, 434, 23, 435, 60, 520, 521, 522, 523, 59, 577, 578, 579, 580, 581, 582, 583, 584, 585, 586, 601, 602] (by decide +kernel) (by decide +kernel)
set_option maxRecDepth 20000 in
theorem gL_law_X4_put : GoodIn wsL_law (wsV RL 96 RX4 yX4_put wsX4_put) := goodIn_app (goodIn_of _ (by decide +kernel)) ggL_law_X4_put
set_option maxRecDepth 20000 in
theorem ggL_law_X5_put : GoodIn wsL_law wsX5_put := goodIn_r _ [527, 528, 143, 70, 148, 149, 5, 150, 587, 588, 589, 590, 591, 592, 593, 594, 595, 596, 597] (by decide +kernel) (by decide +kernel)
set_option maxRecDepth 20000 in
theorem gL_law_X5_put : GoodIn wsL_law (wsV RL 100 RX5 yX5_put wsX5_put) := goodIn_app (goodIn_of _ (by decide +kernel)) ggL_law_X5_put
set_option maxRecDepth 20000 in
theorem ggL_law_X4_wipe : GoodIn wsL_law wsX4_wipe := goodIn_r _ [532, 24, 432, 433, 434, 23, 435, 60, 131, 132, 133, 134, 577, 578, 579, 580, 581, 582, 583, 584, 585, 586, 601, 602] (by decide +kernel) (by decide +kernel)
set_option maxRecDepth 20000 in
theorem gL_law_X4_wipe : GoodIn wsL_law (wsV RL 101 RX4 yX4_wipe wsX4_wipe) := goodIn_app (goodIn_of _ (by decide +kernel)) ggL_law_X4_wipe
set_option maxRecDepth 20000 in
theorem ggL_law_X5_wipe : GoodIn wsL_law wsX5_wipe := goodIn_r _ [536, 143, 587, 588, 589, 590, 591, 592, 593, 594, 595, 596, 597] (by decide +kernel) (by decide +kernel)
set_option maxRecDepth 20000 in
theorem gL_law_X5_wipe : GoodIn wsL_law (wsV RL 105 RX5 yX5_wipe wsX5_wipe) := goodIn_app (goodIn_of _ (by decide +kernel)) ggL_law_X5_wipe
set_option maxRecDepth 20000 in
theorem ggL_law_X4_fault : GoodIn wsL_law wsX4_fault := goodIn_r _ [540, 24, 31, 82, 83, 84, 23, 85, 59, 60, 86, 87, 88, 89, 90, 91, 92, 93, 94, 95, 30, 96, 46, 97, 98, 99, 100, 101, 102, 103, 104, 47, 105, 577, 578, 579, 580, 581, 582, 583, 584, 585, 586, 601, 602, 603, 604] (by decide +kernel) (by decide +kernel)
set_option maxRecDepth 20000 in
theorem gL_law_X4_fault : GoodIn wsL_law (wsV RL 106 RX4 yX4_fault wsX4_fault) := goodIn_app (goodIn_of _ (by decide +kernel)) ggL_law_X4_fault
set_option maxRecDepth 20000 in
theorem ggL_law_X5_fault : GoodIn wsL_law wsX5_fault := goodIn_r _ [544, 151, 152, 153, 5, 154, 143, 70, 71, 144, 155, 156, 157, 158, 148, 149, 150, 587, 588, 589, 590, 591, 592, 593, 594, 595, 596, 597] (by decide +kernel) (by decide +kernel)
set_option maxRecDepth 20000 in
theorem gL_law_X5_fault : GoodIn wsL_law (wsV RL 109 RX5 yX5_fault wsX5_fault) := goodIn_app (goodIn_of _ (by decide +kernel)) ggL_law_X5_fault
set_option maxRecDepth 20000 in
theorem ggL_law_X4_undo : GoodIn wsL_law wsX4_undo := goodIn_r _ [548, 20, 16, 436, 437, 438, 19, 439, 54, 549, 550, 551, 552, 53, 118, 119, 120, 15, 121, 41, 122, 123, 124, 30, 125, 46, 126, 127, 128, 129, 47, 577, 578, 579, 580, 581, 582, 583, 584, 585, 586, 599, 600, 598, 603, 604] (by decide +kernel) (by decide +kernel)
set_option maxRecDepth 20000 in
theorem gL_law_X4_undo : GoodIn wsL_law (wsV RL 110 RX4 yX4_undo wsX4_undo) := goodIn_app (goodIn_of _ (by decide +kernel)) ggL_law_X4_undo
set_option maxRecDepth 20000 in
theorem ggL_law_X5_undo : GoodIn wsL_law wsX5_undo := goodIn_r _ [556, 163, 65, 66, 587, 588, 589, 590, 591, 592, 593, 594, 595, 596, 597] (by decide +kernel) (by decide +kernel)
set_option maxRecDepth 20000 in
theorem gL_law_X5_undo : GoodIn wsL_law (wsV RL 113 RX5 yX5_undo wsX5_undo) := goodIn_app (goodIn_of _ (by decide +kernel)) ggL_law_X5_undo
set_option maxRecDepth 20000 in
theorem ggL_law_X4_save : GoodIn wsL_law wsX4_save := goodIn_r _ [560, 25, 16, 27, 561, 562, 2, 563, 564, 119, 120, 15, 121, 41, 122, 123, 124, 30, 125, 46, 126, 127, 128, 129, 47, 427, 428, 429, 430, 431, 136, 137, 138, 577, 578, 579, 580, 581, 582, 583, 584, 585, 586, 598, 603, 604] (by decide +kernel) (by decide +kernel)
set_option maxRecDepth 20000 in
theorem gL_law_X4_save : GoodIn wsL_law (wsV RL 114 RX4 yX4_save wsX4_save) := goodIn_app (goodIn_of _ (by decide +kernel)) ggL_law_X4_save
set_option maxRecDepth 20000 in
theorem ggL_law_X5_save : GoodIn wsL_law wsX5_save := goodIn_r _ [568, 68, 67, 65, 148, 149, 5, 150, 444, 445, 446, 447, 182, 183, 184, 185, 587, 588, 589, 590, 591, 592, 593, 594, 595, 596, 597] (by decide +kernel) (by decide +kernel)
set_option maxRecDepth 20000 in
theorem gL_law_X5_save : GoodIn wsL_law (wsV RL 117 RX5 yX5_save wsX5_save) := goodIn_app (goodIn_of _ (by decide +kernel)) ggL_law_X5_save
set_option maxRecDepth 20000 in
theorem ggL_law_X4_restore : GoodIn wsL_law wsX4_restore := goodIn_r _ [572, 27, 20, 16, 25, 561, 562, 2, 563, 110, 111, 112, 19, 113, 54, 53, 114, 115, 116, 117, 118, 119, 120, 15, 121, 41, 122, 123, 124, 30, 125, 46, 126, 127, 128, 129, 47, 564, 427, 428, 429, 430, 431, 136, 137, 138, 577, 578, 579, 580, 581, 582, 583, 584, 585, 586, 599, 600, 598, 603, 604] (by decide +kernel) (by decide +kernel)
set_option maxRecDepth 20000 in
theorem gL_law_X4_restore : GoodIn wsL_law (wsV RL 118 RX4 yX4_restore wsX4_restore) := goodIn_app (goodIn_of _ (by decide +kernel)) ggL_law_X4_restore
set_option maxRecDepth 20000 in
theorem ggL_law_X5_restore : GoodIn wsL_law wsX5_restore := goodIn_r _ [576, 68, 65, 67, 148, 149, 5, 150, 159, 160, 161, 162, 163, 66, 444, 445, 446, 447, 182, 183, 184, 185, 587, 588, 589, 590, 591, 592, 593, 594, 595, 596, 597] (by decide +kernel) (by decide +kernel)
set_option maxRecDepth 20000 in
theorem gL_law_X5_restore : GoodIn wsL_law (wsV RL 121 RX5 yX5_restore wsX5_restore) := goodIn_app (goodIn_of _ (by decide +kernel)) ggL_law_X5_restore
theorem dL_law_0 : decode cL_law 0 = .ok (.new 7, 3) := by decide +kernel
