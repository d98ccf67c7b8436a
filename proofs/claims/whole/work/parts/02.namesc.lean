set_option maxRecDepth 20000 in
theorem ggX4_count_X1_length : GoodIn wsX4_count wsX1_length := goodIn_r _ [20, 21, 41, 42] (by decide +kernel) (by decide +kernel)
set_option maxRecDepth 20000 in
theorem gX4_count_X1_length : GoodIn wsX4_count (wsV RX4 165 RX1 yX1_length wsX1_length) := goodIn_app (goodIn_of _ (by decide +kernel)) ggX4_count_X1_length
set_option maxRecDepth 20000 in
theorem ggX4_count_X0_length : GoodIn wsX4_count wsX0_length := goodIn_r _ [26, 27, 43, 44] (by decide +kernel) (by decide +kernel)
set_option maxRecDepth 20000 in
theorem gX4_count_X0_length : GoodIn wsX4_count (wsV RX4 166 RX0 yX0_length wsX0_length) := goodIn_app (goodIn_of _ (by decide +kernel)) ggX4_count_X0_length
theorem dX4_count_0 : decode cX4_count 0 = .ok (.iload_n 1, 1) := by decide +kernel
theorem dX4_count_1 : decode cX4_count 1 = .ok (.tableswitch 51 0 2 #[27, 35, 43], 27) := by decide +kernel
theorem dX4_count_28 : decode cX4_count 28 = .ok (.aload_n 0, 1) := by decide +kernel
theorem dX4_count_29 : decode cX4_count 29 = .ok (.getfield 10, 3) := by decide +kernel
theorem dX4_count_32 : decode cX4_count 32 = .ok (.invokevirtual 162, 3) := by decide +kernel
theorem dX4_count_35 : decode cX4_count 35 = .ok (.ireturn, 1) := by decide +kernel
theorem dX4_count_36 : decode cX4_count 36 = .ok (.aload_n 0, 1) := by decide +kernel
theorem dX4_count_37 : decode cX4_count 37 = .ok (.getfield 26, 3) := by decide +kernel
theorem dX4_count_40 : decode cX4_count 40 = .ok (.invokevirtual 165, 3) := by decide +kernel
theorem dX4_count_43 : decode cX4_count 43 = .ok (.ireturn, 1) := by decide +kernel
theorem dX4_count_44 : decode cX4_count 44 = .ok (.aload_n 0, 1) := by decide +kernel
theorem dX4_count_45 : decode cX4_count 45 = .ok (.getfield 19, 3) := by decide +kernel
theorem dX4_count_48 : decode cX4_count 48 = .ok (.invokevirtual 166, 3) := by decide +kernel
theorem dX4_count_51 : decode cX4_count 51 = .ok (.ireturn, 1) := by decide +kernel
theorem dX4_count_52 : decode cX4_count 52 = .ok (.bipush (-2), 2) := by decide +kernel
theorem dX4_count_54 : decode cX4_count 54 = .ok (.ireturn, 1) := by decide +kernel
set_option maxRecDepth 20000 in
theorem ggX4_fits_X3_rowOf : GoodIn wsX4_fits wsX3_rowOf := goodIn_r _ [8, 9, 38] (by decide +kernel) (by decide +kernel)
set_option maxRecDepth 20000 in
theorem gX4_fits_X3_rowOf : GoodIn wsX4_fits (wsV RX4 57 RX3 yX3_rowOf wsX3_rowOf) := goodIn_app (goodIn_of _ (by decide +kernel)) ggX4_fits_X3_rowOf
set_option maxRecDepth 20000 in
theorem ggX4_fits_X4_countPlaces : GoodIn wsX4_fits wsX4_countPlaces := goodIn_r _ [13, 14, 15, 16, 17, 18, 19, 39, 40] (by decide +kernel) (by decide +kernel)
set_option maxRecDepth 20000 in
theorem gX4_fits_X4_countPlaces : GoodIn wsX4_fits (va_wsS RX4 169 yX4_countPlaces wsX4_countPlaces) := goodIn_app (goodIn_of _ (by decide +kernel)) ggX4_fits_X4_countPlaces
set_option maxRecDepth 20000 in
theorem ggX4_fits_X4_fitsAt : GoodIn wsX4_fits wsX4_fitsAt := goodIn_r _ [22, 14, 15, 16, 17, 18, 19, 23, 24, 25, 26, 27, 39, 40] (by decide +kernel) (by decide +kernel)
set_option maxRecDepth 20000 in
theorem gX4_fits_X4_fitsAt : GoodIn wsX4_fits (va_wsS RX4 174 yX4_fitsAt wsX4_fitsAt) := goodIn_app (goodIn_of _ (by decide +kernel)) ggX4_fits_X4_fitsAt
theorem dX4_fits_0 : decode cX4_fits 0 = .ok (.aload_n 0, 1) := by decide +kernel
theorem dX4_fits_1 : decode cX4_fits 1 = .ok (.getfield 10, 3) := by decide +kernel
theorem dX4_fits_4 : decode cX4_fits 4 = .ok (.iload_n 1, 1) := by decide +kernel
theorem dX4_fits_5 : decode cX4_fits 5 = .ok (.invokevirtual 57, 3) := by decide +kernel
theorem dX4_fits_8 : decode cX4_fits 8 = .ok (.astore_n 3, 1) := by decide +kernel
theorem dX4_fits_9 : decode cX4_fits 9 = .ok (.aload_n 0, 1) := by decide +kernel
theorem dX4_fits_10 : decode cX4_fits 10 = .ok (.getfield 10, 3) := by decide +kernel
theorem dX4_fits_13 : decode cX4_fits 13 = .ok (.iload_n 2, 1) := by decide +kernel
theorem dX4_fits_14 : decode cX4_fits 14 = .ok (.invokevirtual 57, 3) := by decide +kernel
theorem dX4_fits_17 : decode cX4_fits 17 = .ok (.astore 4, 2) := by decide +kernel
theorem dX4_fits_19 : decode cX4_fits 19 = .ok (.aload_n 3, 1) := by decide +kernel
theorem dX4_fits_20 : decode cX4_fits 20 = .ok (.ifnull 8, 3) := by decide +kernel
theorem dX4_fits_23 : decode cX4_fits 23 = .ok (.aload 4, 2) := by decide +kernel
theorem dX4_fits_25 : decode cX4_fits 25 = .ok (.ifnonnull 7, 3) := by decide +kernel
theorem dX4_fits_28 : decode cX4_fits 28 = .ok (.ldc2_w 167, 3) := by decide +kernel
theorem dX4_fits_31 : decode cX4_fits 31 = .ok (.lreturn, 1) := by decide +kernel
theorem dX4_fits_32 : decode cX4_fits 32 = .ok (.aload_n 3, 1) := by decide +kernel
theorem dX4_fits_33 : decode cX4_fits 33 = .ok (.aload 4, 2) := by decide +kernel
theorem dX4_fits_35 : decode cX4_fits 35 = .ok (.invokestatic 169, 3) := by decide +kernel
theorem dX4_fits_38 : decode cX4_fits 38 = .ok (.istore 5, 2) := by decide +kernel
theorem dX4_fits_40 : decode cX4_fits 40 = .ok (.iload 5, 2) := by decide +kernel
theorem dX4_fits_42 : decode cX4_fits 42 = .ok (.iconst 1, 1) := by decide +kernel
theorem dX4_fits_43 : decode cX4_fits 43 = .ok (.if_icmp .ge 7, 3) := by decide +kernel
theorem dX4_fits_46 : decode cX4_fits 46 = .ok (.ldc2_w 172, 3) := by decide +kernel
theorem dX4_fits_49 : decode cX4_fits 49 = .ok (.lreturn, 1) := by decide +kernel
theorem dX4_fits_50 : decode cX4_fits 50 = .ok (.lconst 0, 1) := by decide +kernel
theorem dX4_fits_51 : decode cX4_fits 51 = .ok (.lstore 6, 2) := by decide +kernel
theorem dX4_fits_53 : decode cX4_fits 53 = .ok (.iconst 0, 1) := by decide +kernel
theorem dX4_fits_54 : decode cX4_fits 54 = .ok (.istore 8, 2) := by decide +kernel
theorem dX4_fits_56 : decode cX4_fits 56 = .ok (.iload 8, 2) := by decide +kernel
theorem dX4_fits_58 : decode cX4_fits 58 = .ok (.iload 5, 2) := by decide +kernel
theorem dX4_fits_60 : decode cX4_fits 60 = .ok (.if_icmp .ge 36, 3) := by decide +kernel
theorem dX4_fits_63 : decode cX4_fits 63 = .ok (.iload 8, 2) := by decide +kernel
theorem dX4_fits_65 : decode cX4_fits 65 = .ok (.bipush 60, 2) := by decide +kernel
theorem dX4_fits_67 : decode cX4_fits 67 = .ok (.if_icmp .ge 29, 3) := by decide +kernel
theorem dX4_fits_70 : decode cX4_fits 70 = .ok (.aload_n 3, 1) := by decide +kernel
theorem dX4_fits_71 : decode cX4_fits 71 = .ok (.aload 4, 2) := by decide +kernel
theorem dX4_fits_73 : decode cX4_fits 73 = .ok (.iload 8, 2) := by decide +kernel
theorem dX4_fits_75 : decode cX4_fits 75 = .ok (.invokestatic 174, 3) := by decide +kernel
theorem dX4_fits_78 : decode cX4_fits 78 = .ok (.ifCond .eq 12, 3) := by decide +kernel
theorem dX4_fits_81 : decode cX4_fits 81 = .ok (.lload 6, 2) := by decide +kernel
theorem dX4_fits_83 : decode cX4_fits 83 = .ok (.lconst 1, 1) := by decide +kernel
theorem dX4_fits_84 : decode cX4_fits 84 = .ok (.iload 8, 2) := by decide +kernel
theorem dX4_fits_86 : decode cX4_fits 86 = .ok (.lshl, 1) := by decide +kernel
theorem dX4_fits_87 : decode cX4_fits 87 = .ok (.lor, 1) := by decide +kernel
theorem dX4_fits_88 : decode cX4_fits 88 = .ok (.lstore 6, 2) := by decide +kernel
theorem dX4_fits_90 : decode cX4_fits 90 = .ok (.iinc 8 1, 3) := by decide +kernel
theorem dX4_fits_93 : decode cX4_fits 93 = .ok (.goto (-37), 3) := by decide +kernel
theorem dX4_fits_96 : decode cX4_fits 96 = .ok (.lload 6, 2) := by decide +kernel
theorem dX4_fits_98 : decode cX4_fits 98 = .ok (.lreturn, 1) := by decide +kernel
set_option maxRecDepth 20000 in
theorem ggX4_sum_X3_rowOf : GoodIn wsX4_sum wsX3_rowOf := goodIn_r _ [6, 7, 36] (by decide +kernel) (by decide +kernel)
set_option maxRecDepth 20000 in
theorem gX4_sum_X3_rowOf : GoodIn wsX4_sum (wsV RX4 57 RX3 yX3_rowOf wsX3_rowOf) := goodIn_app (goodIn_of _ (by decide +kernel)) ggX4_sum_X3_rowOf
set_option maxRecDepth 20000 in
theorem ggX4_sum_X4_countPlaces : GoodIn wsX4_sum wsX4_countPlaces := goodIn_r _ [11, 12, 13, 14, 15, 16, 17, 37, 38] (by decide +kernel) (by decide +kernel)
set_option maxRecDepth 20000 in
theorem gX4_sum_X4_countPlaces : GoodIn wsX4_sum (va_wsS RX4 169 yX4_countPlaces wsX4_countPlaces) := goodIn_app (goodIn_of _ (by decide +kernel)) ggX4_sum_X4_countPlaces
set_option maxRecDepth 20000 in
theorem ggX4_sum_X4_sumAt : GoodIn wsX4_sum wsX4_sumAt := goodIn_r _ [20, 12, 13, 14, 15, 16, 17, 21, 22, 23, 24, 25, 37, 38] (by decide +kernel) (by decide +kernel)
set_option maxRecDepth 20000 in
theorem gX4_sum_X4_sumAt : GoodIn wsX4_sum (va_wsS RX4 178 yX4_sumAt wsX4_sumAt) := goodIn_app (goodIn_of _ (by decide +kernel)) ggX4_sum_X4_sumAt
theorem dX4_sum_0 : decode cX4_sum 0 = .ok (.aload_n 0, 1) := by decide +kernel
theorem dX4_sum_1 : decode cX4_sum 1 = .ok (.getfield 10, 3) := by decide +kernel
theorem dX4_sum_4 : decode cX4_sum 4 = .ok (.iload_n 1, 1) := by decide +kernel
theorem dX4_sum_5 : decode cX4_sum 5 = .ok (.invokevirtual 57, 3) := by decide +kernel
theorem dX4_sum_8 : decode cX4_sum 8 = .ok (.astore 4, 2) := by decide +kernel
theorem dX4_sum_10 : decode cX4_sum 10 = .ok (.aload_n 0, 1) := by decide +kernel
theorem dX4_sum_11 : decode cX4_sum 11 = .ok (.getfield 10, 3) := by decide +kernel
theorem dX4_sum_14 : decode cX4_sum 14 = .ok (.iload_n 2, 1) := by decide +kernel
theorem dX4_sum_15 : decode cX4_sum 15 = .ok (.invokevirtual 57, 3) := by decide +kernel
theorem dX4_sum_18 : decode cX4_sum 18 = .ok (.astore 5, 2) := by decide +kernel
theorem dX4_sum_20 : decode cX4_sum 20 = .ok (.aload 4, 2) := by decide +kernel
theorem dX4_sum_22 : decode cX4_sum 22 = .ok (.ifnull 8, 3) := by decide +kernel
theorem dX4_sum_25 : decode cX4_sum 25 = .ok (.aload 5, 2) := by decide +kernel
theorem dX4_sum_27 : decode cX4_sum 27 = .ok (.ifnonnull 5, 3) := by decide +kernel
theorem dX4_sum_30 : decode cX4_sum 30 = .ok (.iconst (-1), 1) := by decide +kernel
theorem dX4_sum_31 : decode cX4_sum 31 = .ok (.ireturn, 1) := by decide +kernel
theorem dX4_sum_32 : decode cX4_sum 32 = .ok (.aload 4, 2) := by decide +kernel
theorem dX4_sum_34 : decode cX4_sum 34 = .ok (.aload 5, 2) := by decide +kernel
theorem dX4_sum_36 : decode cX4_sum 36 = .ok (.invokestatic 169, 3) := by decide +kernel
theorem dX4_sum_39 : decode cX4_sum 39 = .ok (.istore 6, 2) := by decide +kernel
theorem dX4_sum_41 : decode cX4_sum 41 = .ok (.iload 6, 2) := by decide +kernel
theorem dX4_sum_43 : decode cX4_sum 43 = .ok (.iconst 1, 1) := by decide +kernel
theorem dX4_sum_44 : decode cX4_sum 44 = .ok (.if_icmp .ge 6, 3) := by decide +kernel
theorem dX4_sum_47 : decode cX4_sum 47 = .ok (.bipush (-5), 2) := by decide +kernel
theorem dX4_sum_49 : decode cX4_sum 49 = .ok (.ireturn, 1) := by decide +kernel
theorem dX4_sum_50 : decode cX4_sum 50 = .ok (.iload_n 3, 1) := by decide +kernel
theorem dX4_sum_51 : decode cX4_sum 51 = .ok (.ifCond .lt 9, 3) := by decide +kernel
theorem dX4_sum_54 : decode cX4_sum 54 = .ok (.iload_n 3, 1) := by decide +kernel
theorem dX4_sum_55 : decode cX4_sum 55 = .ok (.iload 6, 2) := by decide +kernel
theorem dX4_sum_57 : decode cX4_sum 57 = .ok (.if_icmp .lt 6, 3) := by decide +kernel
theorem dX4_sum_60 : decode cX4_sum 60 = .ok (.bipush (-2), 2) := by decide +kernel
theorem dX4_sum_62 : decode cX4_sum 62 = .ok (.ireturn, 1) := by decide +kernel
theorem dX4_sum_63 : decode cX4_sum 63 = .ok (.aload 4, 2) := by decide +kernel
theorem dX4_sum_65 : decode cX4_sum 65 = .ok (.aload 5, 2) := by decide +kernel
theorem dX4_sum_67 : decode cX4_sum 67 = .ok (.iload_n 3, 1) := by decide +kernel
theorem dX4_sum_68 : decode cX4_sum 68 = .ok (.invokestatic 178, 3) := by decide +kernel
theorem dX4_sum_71 : decode cX4_sum 71 = .ok (.ireturn, 1) := by decide +kernel
set_option maxRecDepth 20000 in
theorem ggX4_found_X3_rowOf : GoodIn wsX4_found wsX3_rowOf := goodIn_r _ [6, 7, 58] (by decide +kernel) (by decide +kernel)
set_option maxRecDepth 20000 in
theorem gX4_found_X3_rowOf : GoodIn wsX4_found (wsV RX4 57 RX3 yX3_rowOf wsX3_rowOf) := goodIn_app (goodIn_of _ (by decide +kernel)) ggX4_found_X3_rowOf
set_option maxRecDepth 20000 in
theorem ggX4_found_X4_countPlaces : GoodIn wsX4_found wsX4_countPlaces := goodIn_r _ [11, 12, 13, 14, 15, 16, 17, 59, 60] (by decide +kernel) (by decide +kernel)
set_option maxRecDepth 20000 in
theorem gX4_found_X4_countPlaces : GoodIn wsX4_found (va_wsS RX4 169 yX4_countPlaces wsX4_countPlaces) := goodIn_app (goodIn_of _ (by decide +kernel)) ggX4_found_X4_countPlaces
set_option maxRecDepth 20000 in
theorem ggX4_found_X4_countFits : GoodIn wsX4_found wsX4_countFits := goodIn_r _ [20, 8, 9, 10, 11, 12, 13, 14, 15, 16, 17, 21, 22, 23, 24, 25, 26, 27, 28, 59, 60] (by decide +kernel) (by decide +kernel)
set_option maxRecDepth 20000 in
theorem gX4_found_X4_countFits : GoodIn wsX4_found (va_wsS RX4 182 yX4_countFits wsX4_countFits) := goodIn_app (goodIn_of _ (by decide +kernel)) ggX4_found_X4_countFits
set_option maxRecDepth 20000 in
theorem ggX4_found_X4_countFalseOnes : GoodIn wsX4_found wsX4_countFalseOnes := goodIn_r _ [31, 8, 9, 10, 11, 12, 13, 14, 15, 16, 17, 32, 33, 34, 35, 36, 37, 24, 25, 26, 27, 28, 21, 22, 23, 59, 60] (by decide +kernel) (by decide +kernel)
set_option maxRecDepth 20000 in
theorem gX4_found_X4_countFalseOnes : GoodIn wsX4_found (va_wsS RX4 185 yX4_countFalseOnes wsX4_countFalseOnes) := goodIn_app (goodIn_of _ (by decide +kernel)) ggX4_found_X4_countFalseOnes
set_option maxRecDepth 20000 in
theorem ggX4_found_X4_firstFalseOne : GoodIn wsX4_found wsX4_firstFalseOne := goodIn_r _ [40, 8, 9, 10, 11, 12, 13, 14, 15, 16, 17, 32, 33, 34, 35, 36, 37, 24, 25, 26, 27, 28, 21, 22, 23, 59, 60] (by decide +kernel) (by decide +kernel)
set_option maxRecDepth 20000 in
theorem gX4_found_X4_firstFalseOne : GoodIn wsX4_found (va_wsS RX4 188 yX4_firstFalseOne wsX4_firstFalseOne) := goodIn_app (goodIn_of _ (by decide +kernel)) ggX4_found_X4_firstFalseOne
set_option maxRecDepth 20000 in
theorem ggX4_found_X4_greatestSum : GoodIn wsX4_found wsX4_greatestSum := goodIn_r _ [43, 44, 45, 46, 47, 8, 9, 10, 11, 12, 13, 14, 15, 16, 17, 35, 36, 37, 24, 25, 26, 27, 28, 59, 60] (by decide +kernel) (by decide +kernel)
set_option maxRecDepth 20000 in
theorem gX4_found_X4_greatestSum : GoodIn wsX4_found (va_wsS RX4 191 yX4_greatestSum wsX4_greatestSum) := goodIn_app (goodIn_of _ (by decide +kernel)) ggX4_found_X4_greatestSum
theorem dX4_found_0 : decode cX4_found 0 = .ok (.aload_n 0, 1) := by decide +kernel
theorem dX4_found_1 : decode cX4_found 1 = .ok (.getfield 10, 3) := by decide +kernel
theorem dX4_found_4 : decode cX4_found 4 = .ok (.iload_n 1, 1) := by decide +kernel
theorem dX4_found_5 : decode cX4_found 5 = .ok (.invokevirtual 57, 3) := by decide +kernel
theorem dX4_found_8 : decode cX4_found 8 = .ok (.astore 4, 2) := by decide +kernel
theorem dX4_found_10 : decode cX4_found 10 = .ok (.aload_n 0, 1) := by decide +kernel
theorem dX4_found_11 : decode cX4_found 11 = .ok (.getfield 10, 3) := by decide +kernel
theorem dX4_found_14 : decode cX4_found 14 = .ok (.iload_n 2, 1) := by decide +kernel
theorem dX4_found_15 : decode cX4_found 15 = .ok (.invokevirtual 57, 3) := by decide +kernel
theorem dX4_found_18 : decode cX4_found 18 = .ok (.astore 5, 2) := by decide +kernel
theorem dX4_found_20 : decode cX4_found 20 = .ok (.aload 4, 2) := by decide +kernel
theorem dX4_found_22 : decode cX4_found 22 = .ok (.ifnull 8, 3) := by decide +kernel
theorem dX4_found_25 : decode cX4_found 25 = .ok (.aload 5, 2) := by decide +kernel
theorem dX4_found_27 : decode cX4_found 27 = .ok (.ifnonnull 5, 3) := by decide +kernel
theorem dX4_found_30 : decode cX4_found 30 = .ok (.iconst (-1), 1) := by decide +kernel
theorem dX4_found_31 : decode cX4_found 31 = .ok (.ireturn, 1) := by decide +kernel
theorem dX4_found_32 : decode cX4_found 32 = .ok (.aload 4, 2) := by decide +kernel
theorem dX4_found_34 : decode cX4_found 34 = .ok (.aload 5, 2) := by decide +kernel
theorem dX4_found_36 : decode cX4_found 36 = .ok (.invokestatic 169, 3) := by decide +kernel
theorem dX4_found_39 : decode cX4_found 39 = .ok (.iconst 1, 1) := by decide +kernel
theorem dX4_found_40 : decode cX4_found 40 = .ok (.if_icmp .ge 6, 3) := by decide +kernel
theorem dX4_found_43 : decode cX4_found 43 = .ok (.bipush (-5), 2) := by decide +kernel
theorem dX4_found_45 : decode cX4_found 45 = .ok (.ireturn, 1) := by decide +kernel
theorem dX4_found_46 : decode cX4_found 46 = .ok (.iload_n 3, 1) := by decide +kernel
theorem dX4_found_47 : decode cX4_found 47 = .ok (.tableswitch 61 0 3 #[29, 37, 45, 53], 29) := by decide +kernel
theorem dX4_found_76 : decode cX4_found 76 = .ok (.aload 4, 2) := by decide +kernel
theorem dX4_found_78 : decode cX4_found 78 = .ok (.aload 5, 2) := by decide +kernel
theorem dX4_found_80 : decode cX4_found 80 = .ok (.invokestatic 182, 3) := by decide +kernel
theorem dX4_found_83 : decode cX4_found 83 = .ok (.ireturn, 1) := by decide +kernel
theorem dX4_found_84 : decode cX4_found 84 = .ok (.aload 4, 2) := by decide +kernel
theorem dX4_found_86 : decode cX4_found 86 = .ok (.aload 5, 2) := by decide +kernel
theorem dX4_found_88 : decode cX4_found 88 = .ok (.invokestatic 185, 3) := by decide +kernel
theorem dX4_found_91 : decode cX4_found 91 = .ok (.ireturn, 1) := by decide +kernel
theorem dX4_found_92 : decode cX4_found 92 = .ok (.aload 4, 2) := by decide +kernel
theorem dX4_found_94 : decode cX4_found 94 = .ok (.aload 5, 2) := by decide +kernel
theorem dX4_found_96 : decode cX4_found 96 = .ok (.invokestatic 188, 3) := by decide +kernel
theorem dX4_found_99 : decode cX4_found 99 = .ok (.ireturn, 1) := by decide +kernel
theorem dX4_found_100 : decode cX4_found 100 = .ok (.aload 4, 2) := by decide +kernel
theorem dX4_found_102 : decode cX4_found 102 = .ok (.aload 5, 2) := by decide +kernel
theorem dX4_found_104 : decode cX4_found 104 = .ok (.invokestatic 191, 3) := by decide +kernel
theorem dX4_found_107 : decode cX4_found 107 = .ok (.ireturn, 1) := by decide +kernel
theorem dX4_found_108 : decode cX4_found 108 = .ok (.bipush (-2), 2) := by decide +kernel
theorem dX4_found_110 : decode cX4_found 110 = .ok (.ireturn, 1) := by decide +kernel
set_option maxRecDepth 20000 in
theorem ggX4_put_X4_countCharacters : GoodIn wsX4_put wsX4_countCharacters := goodIn_r _ [5, 6] (by decide +kernel) (by decide +kernel)
set_option maxRecDepth 20000 in
theorem gX4_put_X4_countCharacters : GoodIn wsX4_put (va_wsS RX4 194 yX4_countCharacters wsX4_countCharacters) := goodIn_app (goodIn_of _ (by decide +kernel)) ggX4_put_X4_countCharacters
set_option maxRecDepth 20000 in
theorem ggX4_put_X1_length : GoodIn wsX4_put wsX1_length := goodIn_r _ [11, 12, 28, 29] (by decide +kernel) (by decide +kernel)
set_option maxRecDepth 20000 in
theorem gX4_put_X1_length : GoodIn wsX4_put (wsV RX4 165 RX1 yX1_length wsX1_length) := goodIn_app (goodIn_of _ (by decide +kernel)) ggX4_put_X1_length
set_option maxRecDepth 20000 in
theorem ggX4_put_X1_append : GoodIn wsX4_put wsX1_append := goodIn_r _ [16, 12, 17, 28, 29] (by decide +kernel) (by decide +kernel)
set_option maxRecDepth 20000 in
theorem gX4_put_X1_append : GoodIn wsX4_put (wsV RX4 198 RX1 yX1_append wsX1_append) := goodIn_app (goodIn_of _ (by decide +kernel)) ggX4_put_X1_append
theorem dX4_put_0 : decode cX4_put 0 = .ok (.lload_n 1, 1) := by decide +kernel
theorem dX4_put_1 : decode cX4_put 1 = .ok (.invokestatic 194, 3) := by decide +kernel
theorem dX4_put_4 : decode cX4_put 4 = .ok (.istore_n 3, 1) := by decide +kernel
theorem dX4_put_5 : decode cX4_put 5 = .ok (.iload_n 3, 1) := by decide +kernel
theorem dX4_put_6 : decode cX4_put 6 = .ok (.ifCond .ne 6, 3) := by decide +kernel
theorem dX4_put_9 : decode cX4_put 9 = .ok (.bipush (-2), 2) := by decide +kernel
theorem dX4_put_11 : decode cX4_put 11 = .ok (.ireturn, 1) := by decide +kernel
theorem dX4_put_12 : decode cX4_put 12 = .ok (.aload_n 0, 1) := by decide +kernel
theorem dX4_put_13 : decode cX4_put 13 = .ok (.getfield 26, 3) := by decide +kernel
theorem dX4_put_16 : decode cX4_put 16 = .ok (.invokevirtual 165, 3) := by decide +kernel
theorem dX4_put_19 : decode cX4_put 19 = .ok (.iload_n 3, 1) := by decide +kernel
theorem dX4_put_20 : decode cX4_put 20 = .ok (.iadd, 1) := by decide +kernel
theorem dX4_put_21 : decode cX4_put 21 = .ok (.bipush 80, 2) := by decide +kernel
theorem dX4_put_23 : decode cX4_put 23 = .ok (.if_icmp .le 6, 3) := by decide +kernel
theorem dX4_put_26 : decode cX4_put 26 = .ok (.bipush (-4), 2) := by decide +kernel
theorem dX4_put_28 : decode cX4_put 28 = .ok (.ireturn, 1) := by decide +kernel
theorem dX4_put_29 : decode cX4_put 29 = .ok (.iload_n 3, 1) := by decide +kernel
theorem dX4_put_30 : decode cX4_put 30 = .ok (.iconst 1, 1) := by decide +kernel
theorem dX4_put_31 : decode cX4_put 31 = .ok (.isub, 1) := by decide +kernel
theorem dX4_put_32 : decode cX4_put 32 = .ok (.istore 4, 2) := by decide +kernel
theorem dX4_put_34 : decode cX4_put 34 = .ok (.iload 4, 2) := by decide +kernel
theorem dX4_put_36 : decode cX4_put 36 = .ok (.ifCond .lt 28, 3) := by decide +kernel
theorem dX4_put_39 : decode cX4_put 39 = .ok (.aload_n 0, 1) := by decide +kernel
theorem dX4_put_40 : decode cX4_put 40 = .ok (.getfield 26, 3) := by decide +kernel
theorem dX4_put_43 : decode cX4_put 43 = .ok (.lload_n 1, 1) := by decide +kernel
theorem dX4_put_44 : decode cX4_put 44 = .ok (.bipush 8, 2) := by decide +kernel
theorem dX4_put_46 : decode cX4_put 46 = .ok (.iload 4, 2) := by decide +kernel
theorem dX4_put_48 : decode cX4_put 48 = .ok (.imul, 1) := by decide +kernel
theorem dX4_put_49 : decode cX4_put 49 = .ok (.lushr, 1) := by decide +kernel
theorem dX4_put_50 : decode cX4_put 50 = .ok (.l2i, 1) := by decide +kernel
theorem dX4_put_51 : decode cX4_put 51 = .ok (.sipush 255, 3) := by decide +kernel
theorem dX4_put_54 : decode cX4_put 54 = .ok (.iand, 1) := by decide +kernel
theorem dX4_put_55 : decode cX4_put 55 = .ok (.invokevirtual 198, 3) := by decide +kernel
theorem dX4_put_58 : decode cX4_put 58 = .ok (.iinc 4 (-1), 3) := by decide +kernel
theorem dX4_put_61 : decode cX4_put 61 = .ok (.goto (-27), 3) := by decide +kernel
theorem dX4_put_64 : decode cX4_put 64 = .ok (.aload_n 0, 1) := by decide +kernel
theorem dX4_put_65 : decode cX4_put 65 = .ok (.getfield 26, 3) := by decide +kernel
theorem dX4_put_68 : decode cX4_put 68 = .ok (.invokevirtual 165, 3) := by decide +kernel
theorem dX4_put_71 : decode cX4_put 71 = .ok (.ireturn, 1) := by decide +kernel
set_option maxRecDepth 20000 in
theorem ggX4_wipe_X1_length : GoodIn wsX4_wipe wsX1_length := goodIn_r _ [6, 7, 22, 23] (by decide +kernel) (by decide +kernel)
set_option maxRecDepth 20000 in
theorem gX4_wipe_X1_length : GoodIn wsX4_wipe (wsV RX4 165 RX1 yX1_length wsX1_length) := goodIn_app (goodIn_of _ (by decide +kernel)) ggX4_wipe_X1_length
set_option maxRecDepth 20000 in
theorem ggX4_wipe_X1_empty : GoodIn wsX4_wipe wsX1_empty := goodIn_r _ [11, 7, 22, 23] (by decide +kernel) (by decide +kernel)
set_option maxRecDepth 20000 in
theorem gX4_wipe_X1_empty : GoodIn wsX4_wipe (wsV RX4 69 RX1 yX1_empty wsX1_empty) := goodIn_app (goodIn_of _ (by decide +kernel)) ggX4_wipe_X1_empty
theorem dX4_wipe_0 : decode cX4_wipe 0 = .ok (.aload_n 0, 1) := by decide +kernel
theorem dX4_wipe_1 : decode cX4_wipe 1 = .ok (.getfield 26, 3) := by decide +kernel
theorem dX4_wipe_4 : decode cX4_wipe 4 = .ok (.invokevirtual 165, 3) := by decide +kernel
theorem dX4_wipe_7 : decode cX4_wipe 7 = .ok (.istore_n 1, 1) := by decide +kernel
theorem dX4_wipe_8 : decode cX4_wipe 8 = .ok (.aload_n 0, 1) := by decide +kernel
theorem dX4_wipe_9 : decode cX4_wipe 9 = .ok (.getfield 26, 3) := by decide +kernel
theorem dX4_wipe_12 : decode cX4_wipe 12 = .ok (.invokevirtual 69, 3) := by decide +kernel
theorem dX4_wipe_15 : decode cX4_wipe 15 = .ok (.iload_n 1, 1) := by decide +kernel
theorem dX4_wipe_16 : decode cX4_wipe 16 = .ok (.ireturn, 1) := by decide +kernel
set_option maxRecDepth 20000 in
theorem ggX4_fault_X1_scan : GoodIn wsX4_fault wsX1_scan := goodIn_r _ [7, 8, 9, 10, 11, 6, 12, 13, 14, 15, 16, 17, 18, 19, 20, 21, 22, 23, 24, 25, 26, 27, 28, 29, 30, 31, 32, 43, 44, 45, 46] (by decide +kernel) (by decide +kernel)
set_option maxRecDepth 20000 in
theorem gX4_fault_X1_scan : GoodIn wsX4_fault (wsV RX4 61 RX1 yX1_scan wsX1_scan) := goodIn_app (goodIn_of _ (by decide +kernel)) ggX4_fault_X1_scan
theorem dX4_fault_0 : decode cX4_fault 0 = .ok (.aload_n 0, 1) := by decide +kernel
theorem dX4_fault_1 : decode cX4_fault 1 = .ok (.getfield 26, 3) := by decide +kernel
theorem dX4_fault_4 : decode cX4_fault 4 = .ok (.aload_n 0, 1) := by decide +kernel
theorem dX4_fault_5 : decode cX4_fault 5 = .ok (.getfield 41, 3) := by decide +kernel
theorem dX4_fault_8 : decode cX4_fault 8 = .ok (.invokevirtual 61, 3) := by decide +kernel
theorem dX4_fault_11 : decode cX4_fault 11 = .ok (.ireturn, 1) := by decide +kernel
set_option maxRecDepth 20000 in
theorem ggX4_undo_X0_length : GoodIn wsX4_undo wsX0_length := goodIn_r _ [7, 8, 41, 42] (by decide +kernel) (by decide +kernel)
set_option maxRecDepth 20000 in
theorem gX4_undo_X0_length : GoodIn wsX4_undo (wsV RX4 166 RX0 yX0_length wsX0_length) := goodIn_app (goodIn_of _ (by decide +kernel)) ggX4_undo_X0_length
set_option maxRecDepth 20000 in
theorem ggX4_undo_X0_takeLatest : GoodIn wsX4_undo wsX0_takeLatest := goodIn_r _ [12, 8, 13, 14, 15, 16, 17, 18, 19, 20, 21, 22, 23, 24, 25, 26, 27, 28, 29, 30, 41, 42, 43, 44, 45] (by decide +kernel) (by decide +kernel)
set_option maxRecDepth 20000 in
theorem gX4_undo_X0_takeLatest : GoodIn wsX4_undo (wsV RX4 201 RX0 yX0_takeLatest wsX0_takeLatest) := goodIn_app (goodIn_of _ (by decide +kernel)) ggX4_undo_X0_takeLatest
theorem dX4_undo_0 : decode cX4_undo 0 = .ok (.aload_n 0, 1) := by decide +kernel
theorem dX4_undo_1 : decode cX4_undo 1 = .ok (.getfield 19, 3) := by decide +kernel
theorem dX4_undo_4 : decode cX4_undo 4 = .ok (.invokevirtual 166, 3) := by decide +kernel
theorem dX4_undo_7 : decode cX4_undo 7 = .ok (.ifCond .ne 6, 3) := by decide +kernel
theorem dX4_undo_10 : decode cX4_undo 10 = .ok (.bipush (-5), 2) := by decide +kernel
theorem dX4_undo_12 : decode cX4_undo 12 = .ok (.ireturn, 1) := by decide +kernel
theorem dX4_undo_13 : decode cX4_undo 13 = .ok (.aload_n 0, 1) := by decide +kernel
theorem dX4_undo_14 : decode cX4_undo 14 = .ok (.getfield 19, 3) := by decide +kernel
theorem dX4_undo_17 : decode cX4_undo 17 = .ok (.aload_n 0, 1) := by decide +kernel
theorem dX4_undo_18 : decode cX4_undo 18 = .ok (.getfield 10, 3) := by decide +kernel
theorem dX4_undo_21 : decode cX4_undo 21 = .ok (.invokevirtual 201, 3) := by decide +kernel
theorem dX4_undo_24 : decode cX4_undo 24 = .ok (.aload_n 0, 1) := by decide +kernel
theorem dX4_undo_25 : decode cX4_undo 25 = .ok (.getfield 19, 3) := by decide +kernel
theorem dX4_undo_28 : decode cX4_undo 28 = .ok (.invokevirtual 166, 3) := by decide +kernel
theorem dX4_undo_31 : decode cX4_undo 31 = .ok (.ireturn, 1) := by decide +kernel
set_option maxRecDepth 20000 in
theorem ggX4_save_X4_isSlot : GoodIn wsX4_save wsX4_isSlot := goodIn_r _ [7] (by decide +kernel) (by decide +kernel)
set_option maxRecDepth 20000 in
theorem gX4_save_X4_isSlot : GoodIn wsX4_save (va_wsS RX4 204 yX4_isSlot wsX4_isSlot) := goodIn_app (goodIn_of _ (by decide +kernel)) ggX4_save_X4_isSlot
set_option maxRecDepth 20000 in
theorem ggX4_save_X3_copyFrom : GoodIn wsX4_save wsX3_copyFrom := goodIn_r _ [12, 13, 14, 15, 16, 17, 18, 19, 20, 21, 22, 23, 24, 43, 44, 45] (by decide +kernel) (by decide +kernel)
set_option maxRecDepth 20000 in
theorem gX4_save_X3_copyFrom : GoodIn wsX4_save (wsV RX4 207 RX3 yX3_copyFrom wsX3_copyFrom) := goodIn_app (goodIn_of _ (by decide +kernel)) ggX4_save_X3_copyFrom
set_option maxRecDepth 20000 in
theorem ggX4_save_X3_lengths : GoodIn wsX4_save wsX3_lengths := goodIn_r _ [28, 13, 29, 30, 31, 17, 32, 24, 43, 44, 45] (by decide +kernel) (by decide +kernel)
set_option maxRecDepth 20000 in
theorem gX4_save_X3_lengths : GoodIn wsX4_save (wsV RX4 162 RX3 yX3_lengths wsX3_lengths) := goodIn_app (goodIn_of _ (by decide +kernel)) ggX4_save_X3_lengths
theorem dX4_save_0 : decode cX4_save 0 = .ok (.iload_n 1, 1) := by decide +kernel
theorem dX4_save_1 : decode cX4_save 1 = .ok (.invokestatic 204, 3) := by decide +kernel
theorem dX4_save_4 : decode cX4_save 4 = .ok (.ifCond .ne 6, 3) := by decide +kernel
theorem dX4_save_7 : decode cX4_save 7 = .ok (.bipush (-2), 2) := by decide +kernel
theorem dX4_save_9 : decode cX4_save 9 = .ok (.ireturn, 1) := by decide +kernel
theorem dX4_save_10 : decode cX4_save 10 = .ok (.aload_n 0, 1) := by decide +kernel
theorem dX4_save_11 : decode cX4_save 11 = .ok (.getfield 30, 3) := by decide +kernel
theorem dX4_save_14 : decode cX4_save 14 = .ok (.iload_n 1, 1) := by decide +kernel
theorem dX4_save_15 : decode cX4_save 15 = .ok (.aaload, 1) := by decide +kernel
theorem dX4_save_16 : decode cX4_save 16 = .ok (.aload_n 0, 1) := by decide +kernel
theorem dX4_save_17 : decode cX4_save 17 = .ok (.getfield 10, 3) := by decide +kernel
theorem dX4_save_20 : decode cX4_save 20 = .ok (.invokevirtual 207, 3) := by decide +kernel
theorem dX4_save_23 : decode cX4_save 23 = .ok (.aload_n 0, 1) := by decide +kernel
theorem dX4_save_24 : decode cX4_save 24 = .ok (.getfield 34, 3) := by decide +kernel
theorem dX4_save_27 : decode cX4_save 27 = .ok (.iload_n 1, 1) := by decide +kernel
theorem dX4_save_28 : decode cX4_save 28 = .ok (.iconst 1, 1) := by decide +kernel
theorem dX4_save_29 : decode cX4_save 29 = .ok (.bastore, 1) := by decide +kernel
theorem dX4_save_30 : decode cX4_save 30 = .ok (.aload_n 0, 1) := by decide +kernel
theorem dX4_save_31 : decode cX4_save 31 = .ok (.getfield 10, 3) := by decide +kernel
theorem dX4_save_34 : decode cX4_save 34 = .ok (.invokevirtual 162, 3) := by decide +kernel
theorem dX4_save_37 : decode cX4_save 37 = .ok (.ireturn, 1) := by decide +kernel
set_option maxRecDepth 20000 in
theorem ggX4_restore_X4_isSlot : GoodIn wsX4_restore wsX4_isSlot := goodIn_r _ [8] (by decide +kernel) (by decide +kernel)
set_option maxRecDepth 20000 in
theorem gX4_restore_X4_isSlot : GoodIn wsX4_restore (va_wsS RX4 204 yX4_isSlot wsX4_isSlot) := goodIn_app (goodIn_of _ (by decide +kernel)) ggX4_restore_X4_isSlot
set_option maxRecDepth 20000 in
theorem ggX4_restore_X0_keep : GoodIn wsX4_restore wsX0_keep := goodIn_r _ [13, 14, 15, 16, 17, 18, 12, 19, 20, 21, 22, 23, 24, 25, 26, 27, 28, 29, 30, 31, 32, 33, 34, 35, 36, 56, 57, 58, 59, 60] (by decide +kernel) (by decide +kernel)
set_option maxRecDepth 20000 in
theorem gX4_restore_X0_keep : GoodIn wsX4_restore (wsV RX4 80 RX0 yX0_keep wsX0_keep) := goodIn_app (goodIn_of _ (by decide +kernel)) ggX4_restore_X0_keep
set_option maxRecDepth 20000 in
theorem ggX4_restore_X3_copyFrom : GoodIn wsX4_restore wsX3_copyFrom := goodIn_r _ [24, 25, 26, 27, 28, 29, 30, 31, 32, 33, 34, 35, 36, 58, 59, 60] (by decide +kernel) (by decide +kernel)
set_option maxRecDepth 20000 in
theorem gX4_restore_X3_copyFrom : GoodIn wsX4_restore (wsV RX4 207 RX3 yX3_copyFrom wsX3_copyFrom) := goodIn_app (goodIn_of _ (by decide +kernel)) ggX4_restore_X3_copyFrom
set_option maxRecDepth 20000 in
theorem ggX4_restore_X3_lengths : GoodIn wsX4_restore wsX3_lengths := goodIn_r _ [41, 25, 42, 43, 44, 29, 45, 36, 58, 59, 60] (by decide +kernel) (by decide +kernel)
set_option maxRecDepth 20000 in
theorem gX4_restore_X3_lengths : GoodIn wsX4_restore (wsV RX4 162 RX3 yX3_lengths wsX3_lengths) := goodIn_app (goodIn_of _ (by decide +kernel)) ggX4_restore_X3_lengths
theorem dX4_restore_0 : decode cX4_restore 0 = .ok (.iload_n 1, 1) := by decide +kernel
theorem dX4_restore_1 : decode cX4_restore 1 = .ok (.invokestatic 204, 3) := by decide +kernel
theorem dX4_restore_4 : decode cX4_restore 4 = .ok (.ifCond .ne 6, 3) := by decide +kernel
theorem dX4_restore_7 : decode cX4_restore 7 = .ok (.bipush (-2), 2) := by decide +kernel
theorem dX4_restore_9 : decode cX4_restore 9 = .ok (.ireturn, 1) := by decide +kernel
theorem dX4_restore_10 : decode cX4_restore 10 = .ok (.aload_n 0, 1) := by decide +kernel
theorem dX4_restore_11 : decode cX4_restore 11 = .ok (.getfield 34, 3) := by decide +kernel
theorem dX4_restore_14 : decode cX4_restore 14 = .ok (.iload_n 1, 1) := by decide +kernel
theorem dX4_restore_15 : decode cX4_restore 15 = .ok (.baload, 1) := by decide +kernel
theorem dX4_restore_16 : decode cX4_restore 16 = .ok (.ifCond .ne 6, 3) := by decide +kernel
theorem dX4_restore_19 : decode cX4_restore 19 = .ok (.bipush (-5), 2) := by decide +kernel
theorem dX4_restore_21 : decode cX4_restore 21 = .ok (.ireturn, 1) := by decide +kernel
theorem dX4_restore_22 : decode cX4_restore 22 = .ok (.aload_n 0, 1) := by decide +kernel
theorem dX4_restore_23 : decode cX4_restore 23 = .ok (.getfield 19, 3) := by decide +kernel
theorem dX4_restore_26 : decode cX4_restore 26 = .ok (.aload_n 0, 1) := by decide +kernel
theorem dX4_restore_27 : decode cX4_restore 27 = .ok (.getfield 10, 3) := by decide +kernel
theorem dX4_restore_30 : decode cX4_restore 30 = .ok (.invokevirtual 80, 3) := by decide +kernel
theorem dX4_restore_33 : decode cX4_restore 33 = .ok (.aload_n 0, 1) := by decide +kernel
theorem dX4_restore_34 : decode cX4_restore 34 = .ok (.getfield 10, 3) := by decide +kernel
theorem dX4_restore_37 : decode cX4_restore 37 = .ok (.aload_n 0, 1) := by decide +kernel
theorem dX4_restore_38 : decode cX4_restore 38 = .ok (.getfield 30, 3) := by decide +kernel
theorem dX4_restore_41 : decode cX4_restore 41 = .ok (.iload_n 1, 1) := by decide +kernel
theorem dX4_restore_42 : decode cX4_restore 42 = .ok (.aaload, 1) := by decide +kernel
theorem dX4_restore_43 : decode cX4_restore 43 = .ok (.invokevirtual 207, 3) := by decide +kernel
theorem dX4_restore_46 : decode cX4_restore 46 = .ok (.aload_n 0, 1) := by decide +kernel
theorem dX4_restore_47 : decode cX4_restore 47 = .ok (.getfield 10, 3) := by decide +kernel
theorem dX4_restore_50 : decode cX4_restore 50 = .ok (.invokevirtual 162, 3) := by decide +kernel
theorem dX4_restore_53 : decode cX4_restore 53 = .ok (.ireturn, 1) := by decide +kernel
set_option maxRecDepth 20000 in
theorem ggX4_change_X0_keep : GoodIn wsX4_change wsX0_keep := goodIn_r _ [8, 9, 10, 11, 12, 13, 7, 14, 15, 16, 17, 18, 19, 20, 21, 22, 23, 24, 25, 26, 27, 28, 29, 30, 31, 43, 44, 45, 46, 47] (by decide +kernel) (by decide +kernel)
set_option maxRecDepth 20000 in
theorem gX4_change_X0_keep : GoodIn wsX4_change (wsV RX4 80 RX0 yX0_keep wsX0_keep) := goodIn_app (goodIn_of _ (by decide +kernel)) ggX4_change_X0_keep
set_option maxRecDepth 20000 in
theorem ggX4_change_X2_copyFrom : GoodIn wsX4_change wsX2_copyFrom := goodIn_r _ [25, 26, 27, 28, 29, 30, 31, 46, 47] (by decide +kernel) (by decide +kernel)
set_option maxRecDepth 20000 in
theorem gX4_change_X2_copyFrom : GoodIn wsX4_change (wsV RX4 116 RX2 yX2_copyFrom wsX2_copyFrom) := goodIn_app (goodIn_of _ (by decide +kernel)) ggX4_change_X2_copyFrom
theorem dX4_change_0 : decode cX4_change 0 = .ok (.aload_n 0, 1) := by decide +kernel
theorem dX4_change_1 : decode cX4_change 1 = .ok (.getfield 19, 3) := by decide +kernel
theorem dX4_change_4 : decode cX4_change 4 = .ok (.aload_n 0, 1) := by decide +kernel
theorem dX4_change_5 : decode cX4_change 5 = .ok (.getfield 10, 3) := by decide +kernel
theorem dX4_change_8 : decode cX4_change 8 = .ok (.invokevirtual 80, 3) := by decide +kernel
theorem dX4_change_11 : decode cX4_change 11 = .ok (.aload_n 1, 1) := by decide +kernel
theorem dX4_change_12 : decode cX4_change 12 = .ok (.aload_n 0, 1) := by decide +kernel
theorem dX4_change_13 : decode cX4_change 13 = .ok (.getfield 41, 3) := by decide +kernel
theorem dX4_change_16 : decode cX4_change 16 = .ok (.invokevirtual 116, 3) := by decide +kernel
theorem dX4_change_19 : decode cX4_change 19 = .ok (.return_, 1) := by decide +kernel
theorem dX4_isNumber_0 : decode cX4_isNumber 0 = .ok (.iload_n 0, 1) := by decide +kernel
theorem dX4_isNumber_1 : decode cX4_isNumber 1 = .ok (.ifCond .lt 14, 3) := by decide +kernel
theorem dX4_isNumber_4 : decode cX4_isNumber 4 = .ok (.iload_n 0, 1) := by decide +kernel
theorem dX4_isNumber_5 : decode cX4_isNumber 5 = .ok (.sipush 257, 3) := by decide +kernel
theorem dX4_isNumber_8 : decode cX4_isNumber 8 = .ok (.if_icmp .ge 7, 3) := by decide +kernel
theorem dX4_isNumber_11 : decode cX4_isNumber 11 = .ok (.iconst 1, 1) := by decide +kernel
theorem dX4_isNumber_12 : decode cX4_isNumber 12 = .ok (.goto 4, 3) := by decide +kernel
theorem dX4_isNumber_15 : decode cX4_isNumber 15 = .ok (.iconst 0, 1) := by decide +kernel
theorem dX4_isNumber_16 : decode cX4_isNumber 16 = .ok (.ireturn, 1) := by decide +kernel
theorem dX4_isSlot_0 : decode cX4_isSlot 0 = .ok (.iload_n 0, 1) := by decide +kernel
theorem dX4_isSlot_1 : decode cX4_isSlot 1 = .ok (.ifCond .lt 12, 3) := by decide +kernel
theorem dX4_isSlot_4 : decode cX4_isSlot 4 = .ok (.iload_n 0, 1) := by decide +kernel
theorem dX4_isSlot_5 : decode cX4_isSlot 5 = .ok (.iconst 2, 1) := by decide +kernel
theorem dX4_isSlot_6 : decode cX4_isSlot 6 = .ok (.if_icmp .ge 7, 3) := by decide +kernel
theorem dX4_isSlot_9 : decode cX4_isSlot 9 = .ok (.iconst 1, 1) := by decide +kernel
theorem dX4_isSlot_10 : decode cX4_isSlot 10 = .ok (.goto 4, 3) := by decide +kernel
theorem dX4_isSlot_13 : decode cX4_isSlot 13 = .ok (.iconst 0, 1) := by decide +kernel
theorem dX4_isSlot_14 : decode cX4_isSlot 14 = .ok (.ireturn, 1) := by decide +kernel
theorem dX4_raise_0 : decode cX4_raise 0 = .ok (.iconst 1, 1) := by decide +kernel
theorem dX4_raise_1 : decode cX4_raise 1 = .ok (.istore_n 2, 1) := by decide +kernel
theorem dX4_raise_2 : decode cX4_raise 2 = .ok (.iload_n 0, 1) := by decide +kernel
theorem dX4_raise_3 : decode cX4_raise 3 = .ok (.istore_n 3, 1) := by decide +kernel
theorem dX4_raise_4 : decode cX4_raise 4 = .ok (.iload_n 1, 1) := by decide +kernel
theorem dX4_raise_5 : decode cX4_raise 5 = .ok (.istore 4, 2) := by decide +kernel
theorem dX4_raise_7 : decode cX4_raise 7 = .ok (.iload 4, 2) := by decide +kernel
theorem dX4_raise_9 : decode cX4_raise 9 = .ok (.ifCond .le 36, 3) := by decide +kernel
theorem dX4_raise_12 : decode cX4_raise 12 = .ok (.iload 4, 2) := by decide +kernel
theorem dX4_raise_14 : decode cX4_raise 14 = .ok (.iconst 1, 1) := by decide +kernel
theorem dX4_raise_15 : decode cX4_raise 15 = .ok (.iand, 1) := by decide +kernel
theorem dX4_raise_16 : decode cX4_raise 16 = .ok (.iconst 1, 1) := by decide +kernel
theorem dX4_raise_17 : decode cX4_raise 17 = .ok (.if_icmp .ne 11, 3) := by decide +kernel
theorem dX4_raise_20 : decode cX4_raise 20 = .ok (.iload_n 2, 1) := by decide +kernel
theorem dX4_raise_21 : decode cX4_raise 21 = .ok (.iload_n 3, 1) := by decide +kernel
theorem dX4_raise_22 : decode cX4_raise 22 = .ok (.imul, 1) := by decide +kernel
theorem dX4_raise_23 : decode cX4_raise 23 = .ok (.sipush 257, 3) := by decide +kernel
theorem dX4_raise_26 : decode cX4_raise 26 = .ok (.irem, 1) := by decide +kernel
theorem dX4_raise_27 : decode cX4_raise 27 = .ok (.istore_n 2, 1) := by decide +kernel
theorem dX4_raise_28 : decode cX4_raise 28 = .ok (.iload_n 3, 1) := by decide +kernel
theorem dX4_raise_29 : decode cX4_raise 29 = .ok (.iload_n 3, 1) := by decide +kernel
theorem dX4_raise_30 : decode cX4_raise 30 = .ok (.imul, 1) := by decide +kernel
theorem dX4_raise_31 : decode cX4_raise 31 = .ok (.sipush 257, 3) := by decide +kernel
theorem dX4_raise_34 : decode cX4_raise 34 = .ok (.irem, 1) := by decide +kernel
theorem dX4_raise_35 : decode cX4_raise 35 = .ok (.istore_n 3, 1) := by decide +kernel
theorem dX4_raise_36 : decode cX4_raise 36 = .ok (.iload 4, 2) := by decide +kernel
theorem dX4_raise_38 : decode cX4_raise 38 = .ok (.iconst 1, 1) := by decide +kernel
theorem dX4_raise_39 : decode cX4_raise 39 = .ok (.ishr, 1) := by decide +kernel
theorem dX4_raise_40 : decode cX4_raise 40 = .ok (.istore 4, 2) := by decide +kernel
theorem dX4_raise_42 : decode cX4_raise 42 = .ok (.goto (-35), 3) := by decide +kernel
theorem dX4_raise_45 : decode cX4_raise 45 = .ok (.iload_n 2, 1) := by decide +kernel
theorem dX4_raise_46 : decode cX4_raise 46 = .ok (.ireturn, 1) := by decide +kernel
set_option maxRecDepth 20000 in
theorem ggX4_inverseOf_X4_raise : GoodIn wsX4_inverseOf wsX4_raise := goodIn_r _ [4] (by decide +kernel) (by decide +kernel)
set_option maxRecDepth 20000 in
theorem gX4_inverseOf_X4_raise : GoodIn wsX4_inverseOf (va_wsS RX4 159 yX4_raise wsX4_raise) := goodIn_app (goodIn_of _ (by decide +kernel)) ggX4_inverseOf_X4_raise
theorem dX4_inverseOf_0 : decode cX4_inverseOf 0 = .ok (.iload_n 0, 1) := by decide +kernel
theorem dX4_inverseOf_1 : decode cX4_inverseOf 1 = .ok (.sipush 255, 3) := by decide +kernel
theorem dX4_inverseOf_4 : decode cX4_inverseOf 4 = .ok (.invokestatic 159, 3) := by decide +kernel
theorem dX4_inverseOf_7 : decode cX4_inverseOf 7 = .ok (.ireturn, 1) := by decide +kernel
set_option maxRecDepth 20000 in
theorem ggX4_pointOf_X4_raise : GoodIn wsX4_pointOf wsX4_raise := goodIn_r _ [4] (by decide +kernel) (by decide +kernel)
set_option maxRecDepth 20000 in
theorem gX4_pointOf_X4_raise : GoodIn wsX4_pointOf (va_wsS RX4 159 yX4_raise wsX4_raise) := goodIn_app (goodIn_of _ (by decide +kernel)) ggX4_pointOf_X4_raise
theorem dX4_pointOf_0 : decode cX4_pointOf 0 = .ok (.iload_n 0, 1) := by decide +kernel
theorem dX4_pointOf_1 : decode cX4_pointOf 1 = .ok (.iconst 1, 1) := by decide +kernel
theorem dX4_pointOf_2 : decode cX4_pointOf 2 = .ok (.if_icmp .lt 17, 3) := by decide +kernel
theorem dX4_pointOf_5 : decode cX4_pointOf 5 = .ok (.iload_n 0, 1) := by decide +kernel
theorem dX4_pointOf_6 : decode cX4_pointOf 6 = .ok (.bipush 64, 2) := by decide +kernel
theorem dX4_pointOf_8 : decode cX4_pointOf 8 = .ok (.if_icmp .gt 11, 3) := by decide +kernel
theorem dX4_pointOf_11 : decode cX4_pointOf 11 = .ok (.iload_n 0, 1) := by decide +kernel
theorem dX4_pointOf_12 : decode cX4_pointOf 12 = .ok (.iload_n 0, 1) := by decide +kernel
theorem dX4_pointOf_13 : decode cX4_pointOf 13 = .ok (.iconst 1, 1) := by decide +kernel
theorem dX4_pointOf_14 : decode cX4_pointOf 14 = .ok (.isub, 1) := by decide +kernel
theorem dX4_pointOf_15 : decode cX4_pointOf 15 = .ok (.iand, 1) := by decide +kernel
theorem dX4_pointOf_16 : decode cX4_pointOf 16 = .ok (.ifCond .eq 6, 3) := by decide +kernel
theorem dX4_pointOf_19 : decode cX4_pointOf 19 = .ok (.bipush (-6), 2) := by decide +kernel
theorem dX4_pointOf_21 : decode cX4_pointOf 21 = .ok (.ireturn, 1) := by decide +kernel
theorem dX4_pointOf_22 : decode cX4_pointOf 22 = .ok (.iconst 3, 1) := by decide +kernel
theorem dX4_pointOf_23 : decode cX4_pointOf 23 = .ok (.sipush 256, 3) := by decide +kernel
theorem dX4_pointOf_26 : decode cX4_pointOf 26 = .ok (.iload_n 0, 1) := by decide +kernel
theorem dX4_pointOf_27 : decode cX4_pointOf 27 = .ok (.idiv, 1) := by decide +kernel
theorem dX4_pointOf_28 : decode cX4_pointOf 28 = .ok (.invokestatic 159, 3) := by decide +kernel
theorem dX4_pointOf_31 : decode cX4_pointOf 31 = .ok (.ireturn, 1) := by decide +kernel
set_option maxRecDepth 20000 in
theorem ggX4_productLength_X2_length : GoodIn wsX4_productLength wsX2_length := goodIn_r _ [5, 6, 7, 8] (by decide +kernel) (by decide +kernel)
set_option maxRecDepth 20000 in
theorem gX4_productLength_X2_length : GoodIn wsX4_productLength (wsV RX4 72 RX2 yX2_length wsX2_length) := goodIn_app (goodIn_of _ (by decide +kernel)) ggX4_productLength_X2_length
theorem dX4_productLength_0 : decode cX4_productLength 0 = .ok (.aload_n 0, 1) := by decide +kernel
theorem dX4_productLength_1 : decode cX4_productLength 1 = .ok (.invokevirtual 72, 3) := by decide +kernel
theorem dX4_productLength_4 : decode cX4_productLength 4 = .ok (.aload_n 1, 1) := by decide +kernel
theorem dX4_productLength_5 : decode cX4_productLength 5 = .ok (.invokevirtual 72, 3) := by decide +kernel
theorem dX4_productLength_8 : decode cX4_productLength 8 = .ok (.iadd, 1) := by decide +kernel
theorem dX4_productLength_9 : decode cX4_productLength 9 = .ok (.iconst 1, 1) := by decide +kernel
theorem dX4_productLength_10 : decode cX4_productLength 10 = .ok (.isub, 1) := by decide +kernel
theorem dX4_productLength_11 : decode cX4_productLength 11 = .ok (.ireturn, 1) := by decide +kernel
set_option maxRecDepth 20000 in
theorem ggX4_multiply_X2_clear : GoodIn wsX4_multiply wsX2_clear := goodIn_r _ [5, 6, 7, 8, 9, 10, 11, 32, 33] (by decide +kernel) (by decide +kernel)
set_option maxRecDepth 20000 in
theorem gX4_multiply_X2_clear : GoodIn wsX4_multiply (wsV RX4 98 RX2 yX2_clear wsX2_clear) := goodIn_app (goodIn_of _ (by decide +kernel)) ggX4_multiply_X2_clear
set_option maxRecDepth 20000 in
theorem ggX4_multiply_X2_length : GoodIn wsX4_multiply wsX2_length := goodIn_r _ [15, 7, 32, 33] (by decide +kernel) (by decide +kernel)
set_option maxRecDepth 20000 in
theorem gX4_multiply_X2_length : GoodIn wsX4_multiply (wsV RX4 72 RX2 yX2_length wsX2_length) := goodIn_app (goodIn_of _ (by decide +kernel)) ggX4_multiply_X2_length
set_option maxRecDepth 20000 in
theorem ggX4_multiply_X2_at : GoodIn wsX4_multiply wsX2_at := goodIn_r _ [19, 6, 32, 33] (by decide +kernel) (by decide +kernel)
set_option maxRecDepth 20000 in
theorem gX4_multiply_X2_at : GoodIn wsX4_multiply (wsV RX4 101 RX2 yX2_at wsX2_at) := goodIn_app (goodIn_of _ (by decide +kernel)) ggX4_multiply_X2_at
set_option maxRecDepth 20000 in
theorem ggX4_multiply_X2_write : GoodIn wsX4_multiply wsX2_write := goodIn_r _ [23, 6, 24, 25, 26, 27, 32, 33] (by decide +kernel) (by decide +kernel)
set_option maxRecDepth 20000 in
theorem gX4_multiply_X2_write : GoodIn wsX4_multiply (wsV RX4 94 RX2 yX2_write wsX2_write) := goodIn_app (goodIn_of _ (by decide +kernel)) ggX4_multiply_X2_write
set_option maxRecDepth 20000 in
theorem ggX4_multiply_X4_nextPlace : GoodIn wsX4_multiply wsX4_nextPlace := goodIn_r _ [31] (by decide +kernel) (by decide +kernel)
set_option maxRecDepth 20000 in
theorem gX4_multiply_X4_nextPlace : GoodIn wsX4_multiply (va_wsS RX4 209 yX4_nextPlace wsX4_nextPlace) := goodIn_app (goodIn_of _ (by decide +kernel)) ggX4_multiply_X4_nextPlace
theorem dX4_multiply_0 : decode cX4_multiply 0 = .ok (.aload_n 3, 1) := by decide +kernel
theorem dX4_multiply_1 : decode cX4_multiply 1 = .ok (.iload_n 2, 1) := by decide +kernel
theorem dX4_multiply_2 : decode cX4_multiply 2 = .ok (.invokevirtual 98, 3) := by decide +kernel
theorem dX4_multiply_5 : decode cX4_multiply 5 = .ok (.iconst 0, 1) := by decide +kernel
theorem dX4_multiply_6 : decode cX4_multiply 6 = .ok (.istore 4, 2) := by decide +kernel
theorem dX4_multiply_8 : decode cX4_multiply 8 = .ok (.iconst 0, 1) := by decide +kernel
theorem dX4_multiply_9 : decode cX4_multiply 9 = .ok (.istore 5, 2) := by decide +kernel
theorem dX4_multiply_11 : decode cX4_multiply 11 = .ok (.iload 5, 2) := by decide +kernel
theorem dX4_multiply_13 : decode cX4_multiply 13 = .ok (.aload_n 0, 1) := by decide +kernel
theorem dX4_multiply_14 : decode cX4_multiply 14 = .ok (.invokevirtual 72, 3) := by decide +kernel
theorem dX4_multiply_17 : decode cX4_multiply 17 = .ok (.if_icmp .ge 73, 3) := by decide +kernel
theorem dX4_multiply_20 : decode cX4_multiply 20 = .ok (.iload 4, 2) := by decide +kernel
theorem dX4_multiply_22 : decode cX4_multiply 22 = .ok (.istore 6, 2) := by decide +kernel
theorem dX4_multiply_24 : decode cX4_multiply 24 = .ok (.iconst 0, 1) := by decide +kernel
theorem dX4_multiply_25 : decode cX4_multiply 25 = .ok (.istore 7, 2) := by decide +kernel
theorem dX4_multiply_27 : decode cX4_multiply 27 = .ok (.iload 7, 2) := by decide +kernel
theorem dX4_multiply_29 : decode cX4_multiply 29 = .ok (.aload_n 1, 1) := by decide +kernel
theorem dX4_multiply_30 : decode cX4_multiply 30 = .ok (.invokevirtual 72, 3) := by decide +kernel
theorem dX4_multiply_33 : decode cX4_multiply 33 = .ok (.if_icmp .ge 43, 3) := by decide +kernel
theorem dX4_multiply_36 : decode cX4_multiply 36 = .ok (.aload_n 3, 1) := by decide +kernel
theorem dX4_multiply_37 : decode cX4_multiply 37 = .ok (.iload 6, 2) := by decide +kernel
theorem dX4_multiply_39 : decode cX4_multiply 39 = .ok (.aload_n 3, 1) := by decide +kernel
theorem dX4_multiply_40 : decode cX4_multiply 40 = .ok (.iload 6, 2) := by decide +kernel
theorem dX4_multiply_42 : decode cX4_multiply 42 = .ok (.invokevirtual 101, 3) := by decide +kernel
theorem dX4_multiply_45 : decode cX4_multiply 45 = .ok (.aload_n 0, 1) := by decide +kernel
theorem dX4_multiply_46 : decode cX4_multiply 46 = .ok (.iload 5, 2) := by decide +kernel
theorem dX4_multiply_48 : decode cX4_multiply 48 = .ok (.invokevirtual 101, 3) := by decide +kernel
theorem dX4_multiply_51 : decode cX4_multiply 51 = .ok (.aload_n 1, 1) := by decide +kernel
theorem dX4_multiply_52 : decode cX4_multiply 52 = .ok (.iload 7, 2) := by decide +kernel
theorem dX4_multiply_54 : decode cX4_multiply 54 = .ok (.invokevirtual 101, 3) := by decide +kernel
theorem dX4_multiply_57 : decode cX4_multiply 57 = .ok (.imul, 1) := by decide +kernel
theorem dX4_multiply_58 : decode cX4_multiply 58 = .ok (.iadd, 1) := by decide +kernel
theorem dX4_multiply_59 : decode cX4_multiply 59 = .ok (.invokevirtual 94, 3) := by decide +kernel
theorem dX4_multiply_62 : decode cX4_multiply 62 = .ok (.iload 6, 2) := by decide +kernel
theorem dX4_multiply_64 : decode cX4_multiply 64 = .ok (.iload_n 2, 1) := by decide +kernel
theorem dX4_multiply_65 : decode cX4_multiply 65 = .ok (.invokestatic 209, 3) := by decide +kernel
theorem dX4_multiply_68 : decode cX4_multiply 68 = .ok (.istore 6, 2) := by decide +kernel
theorem dX4_multiply_70 : decode cX4_multiply 70 = .ok (.iinc 7 1, 3) := by decide +kernel
theorem dX4_multiply_73 : decode cX4_multiply 73 = .ok (.goto (-46), 3) := by decide +kernel
theorem dX4_multiply_76 : decode cX4_multiply 76 = .ok (.iload 4, 2) := by decide +kernel
theorem dX4_multiply_78 : decode cX4_multiply 78 = .ok (.iload_n 2, 1) := by decide +kernel
theorem dX4_multiply_79 : decode cX4_multiply 79 = .ok (.invokestatic 209, 3) := by decide +kernel
theorem dX4_multiply_82 : decode cX4_multiply 82 = .ok (.istore 4, 2) := by decide +kernel
theorem dX4_multiply_84 : decode cX4_multiply 84 = .ok (.iinc 5 1, 3) := by decide +kernel
theorem dX4_multiply_87 : decode cX4_multiply 87 = .ok (.goto (-76), 3) := by decide +kernel
theorem dX4_multiply_90 : decode cX4_multiply 90 = .ok (.return_, 1) := by decide +kernel
theorem dX4_nextPlace_0 : decode cX4_nextPlace 0 = .ok (.iload_n 0, 1) := by decide +kernel
theorem dX4_nextPlace_1 : decode cX4_nextPlace 1 = .ok (.iconst 1, 1) := by decide +kernel
theorem dX4_nextPlace_2 : decode cX4_nextPlace 2 = .ok (.iadd, 1) := by decide +kernel
theorem dX4_nextPlace_3 : decode cX4_nextPlace 3 = .ok (.iload_n 1, 1) := by decide +kernel
theorem dX4_nextPlace_4 : decode cX4_nextPlace 4 = .ok (.if_icmp .ge 9, 3) := by decide +kernel
theorem dX4_nextPlace_7 : decode cX4_nextPlace 7 = .ok (.iload_n 0, 1) := by decide +kernel
theorem dX4_nextPlace_8 : decode cX4_nextPlace 8 = .ok (.iconst 1, 1) := by decide +kernel
theorem dX4_nextPlace_9 : decode cX4_nextPlace 9 = .ok (.iadd, 1) := by decide +kernel
theorem dX4_nextPlace_10 : decode cX4_nextPlace 10 = .ok (.goto 4, 3) := by decide +kernel
theorem dX4_nextPlace_13 : decode cX4_nextPlace 13 = .ok (.iconst 0, 1) := by decide +kernel
theorem dX4_nextPlace_14 : decode cX4_nextPlace 14 = .ok (.ireturn, 1) := by decide +kernel
set_option maxRecDepth 20000 in
theorem ggX4_invertRow_X2_at : GoodIn wsX4_invertRow wsX2_at := goodIn_r _ [5, 6, 31, 32] (by decide +kernel) (by decide +kernel)
set_option maxRecDepth 20000 in
theorem gX4_invertRow_X2_at : GoodIn wsX4_invertRow (wsV RX4 101 RX2 yX2_at wsX2_at) := goodIn_app (goodIn_of _ (by decide +kernel)) ggX4_invertRow_X2_at
set_option maxRecDepth 20000 in
theorem ggX4_invertRow_X4_inverseOf : GoodIn wsX4_invertRow wsX4_inverseOf := goodIn_r _ [10, 11, 12, 9, 13] (by decide +kernel) (by decide +kernel)
set_option maxRecDepth 20000 in
theorem gX4_invertRow_X4_inverseOf : GoodIn wsX4_invertRow (va_wsS RX4 141 yX4_inverseOf wsX4_inverseOf) := goodIn_app (goodIn_of _ (by decide +kernel)) ggX4_invertRow_X4_inverseOf
set_option maxRecDepth 20000 in
theorem ggX4_invertRow_X2_clear : GoodIn wsX4_invertRow wsX2_clear := goodIn_r _ [17, 6, 18, 19, 20, 21, 22, 31, 32] (by decide +kernel) (by decide +kernel)
set_option maxRecDepth 20000 in
theorem gX4_invertRow_X2_clear : GoodIn wsX4_invertRow (wsV RX4 98 RX2 yX2_clear wsX2_clear) := goodIn_app (goodIn_of _ (by decide +kernel)) ggX4_invertRow_X2_clear
set_option maxRecDepth 20000 in
theorem ggX4_invertRow_X2_write : GoodIn wsX4_invertRow wsX2_write := goodIn_r _ [26, 6, 27, 28, 29, 30, 31, 32] (by decide +kernel) (by decide +kernel)
set_option maxRecDepth 20000 in
theorem gX4_invertRow_X2_write : GoodIn wsX4_invertRow (wsV RX4 94 RX2 yX2_write wsX2_write) := goodIn_app (goodIn_of _ (by decide +kernel)) ggX4_invertRow_X2_write
theorem dX4_invertRow_0 : decode cX4_invertRow 0 = .ok (.aload_n 0, 1) := by decide +kernel
theorem dX4_invertRow_1 : decode cX4_invertRow 1 = .ok (.iconst 0, 1) := by decide +kernel
theorem dX4_invertRow_2 : decode cX4_invertRow 2 = .ok (.invokevirtual 101, 3) := by decide +kernel
theorem dX4_invertRow_5 : decode cX4_invertRow 5 = .ok (.invokestatic 141, 3) := by decide +kernel
theorem dX4_invertRow_8 : decode cX4_invertRow 8 = .ok (.istore_n 3, 1) := by decide +kernel
theorem dX4_invertRow_9 : decode cX4_invertRow 9 = .ok (.aload_n 2, 1) := by decide +kernel
theorem dX4_invertRow_10 : decode cX4_invertRow 10 = .ok (.iload_n 1, 1) := by decide +kernel
theorem dX4_invertRow_11 : decode cX4_invertRow 11 = .ok (.invokevirtual 98, 3) := by decide +kernel
theorem dX4_invertRow_14 : decode cX4_invertRow 14 = .ok (.aload_n 2, 1) := by decide +kernel
theorem dX4_invertRow_15 : decode cX4_invertRow 15 = .ok (.iconst 0, 1) := by decide +kernel
theorem dX4_invertRow_16 : decode cX4_invertRow 16 = .ok (.iload_n 3, 1) := by decide +kernel
theorem dX4_invertRow_17 : decode cX4_invertRow 17 = .ok (.invokevirtual 94, 3) := by decide +kernel
theorem dX4_invertRow_20 : decode cX4_invertRow 20 = .ok (.iconst 1, 1) := by decide +kernel
theorem dX4_invertRow_21 : decode cX4_invertRow 21 = .ok (.istore 4, 2) := by decide +kernel
theorem dX4_invertRow_23 : decode cX4_invertRow 23 = .ok (.iload 4, 2) := by decide +kernel
theorem dX4_invertRow_25 : decode cX4_invertRow 25 = .ok (.iload_n 1, 1) := by decide +kernel
theorem dX4_invertRow_26 : decode cX4_invertRow 26 = .ok (.if_icmp .ge 64, 3) := by decide +kernel
theorem dX4_invertRow_29 : decode cX4_invertRow 29 = .ok (.iconst 0, 1) := by decide +kernel
theorem dX4_invertRow_30 : decode cX4_invertRow 30 = .ok (.istore 5, 2) := by decide +kernel
theorem dX4_invertRow_32 : decode cX4_invertRow 32 = .ok (.iconst 1, 1) := by decide +kernel
theorem dX4_invertRow_33 : decode cX4_invertRow 33 = .ok (.istore 6, 2) := by decide +kernel
theorem dX4_invertRow_35 : decode cX4_invertRow 35 = .ok (.iload 6, 2) := by decide +kernel
theorem dX4_invertRow_37 : decode cX4_invertRow 37 = .ok (.iload 4, 2) := by decide +kernel
theorem dX4_invertRow_39 : decode cX4_invertRow 39 = .ok (.if_icmp .gt 30, 3) := by decide +kernel
theorem dX4_invertRow_42 : decode cX4_invertRow 42 = .ok (.iload 5, 2) := by decide +kernel
theorem dX4_invertRow_44 : decode cX4_invertRow 44 = .ok (.aload_n 0, 1) := by decide +kernel
theorem dX4_invertRow_45 : decode cX4_invertRow 45 = .ok (.iload 6, 2) := by decide +kernel
theorem dX4_invertRow_47 : decode cX4_invertRow 47 = .ok (.invokevirtual 101, 3) := by decide +kernel
theorem dX4_invertRow_50 : decode cX4_invertRow 50 = .ok (.aload_n 2, 1) := by decide +kernel
theorem dX4_invertRow_51 : decode cX4_invertRow 51 = .ok (.iload 4, 2) := by decide +kernel
theorem dX4_invertRow_53 : decode cX4_invertRow 53 = .ok (.iload 6, 2) := by decide +kernel
theorem dX4_invertRow_55 : decode cX4_invertRow 55 = .ok (.isub, 1) := by decide +kernel
theorem dX4_invertRow_56 : decode cX4_invertRow 56 = .ok (.invokevirtual 101, 3) := by decide +kernel
theorem dX4_invertRow_59 : decode cX4_invertRow 59 = .ok (.imul, 1) := by decide +kernel
theorem dX4_invertRow_60 : decode cX4_invertRow 60 = .ok (.iadd, 1) := by decide +kernel
theorem dX4_invertRow_61 : decode cX4_invertRow 61 = .ok (.istore 5, 2) := by decide +kernel
theorem dX4_invertRow_63 : decode cX4_invertRow 63 = .ok (.iinc 6 1, 3) := by decide +kernel
theorem dX4_invertRow_66 : decode cX4_invertRow 66 = .ok (.goto (-31), 3) := by decide +kernel
theorem dX4_invertRow_69 : decode cX4_invertRow 69 = .ok (.aload_n 2, 1) := by decide +kernel
theorem dX4_invertRow_70 : decode cX4_invertRow 70 = .ok (.iload 4, 2) := by decide +kernel
theorem dX4_invertRow_72 : decode cX4_invertRow 72 = .ok (.iload 5, 2) := by decide +kernel
theorem dX4_invertRow_74 : decode cX4_invertRow 74 = .ok (.sipush 257, 3) := by decide +kernel
theorem dX4_invertRow_77 : decode cX4_invertRow 77 = .ok (.irem, 1) := by decide +kernel
theorem dX4_invertRow_78 : decode cX4_invertRow 78 = .ok (.ineg, 1) := by decide +kernel
theorem dX4_invertRow_79 : decode cX4_invertRow 79 = .ok (.iload_n 3, 1) := by decide +kernel
theorem dX4_invertRow_80 : decode cX4_invertRow 80 = .ok (.imul, 1) := by decide +kernel
theorem dX4_invertRow_81 : decode cX4_invertRow 81 = .ok (.invokevirtual 94, 3) := by decide +kernel
theorem dX4_invertRow_84 : decode cX4_invertRow 84 = .ok (.iinc 4 1, 3) := by decide +kernel
theorem dX4_invertRow_87 : decode cX4_invertRow 87 = .ok (.goto (-64), 3) := by decide +kernel
theorem dX4_invertRow_90 : decode cX4_invertRow 90 = .ok (.return_, 1) := by decide +kernel
set_option maxRecDepth 20000 in
theorem ggX4_divideRows_X2_degree : GoodIn wsX4_divideRows wsX2_degree := goodIn_r _ [9, 10, 11, 12, 13, 8, 14, 15, 53, 54] (by decide +kernel) (by decide +kernel)
set_option maxRecDepth 20000 in
theorem gX4_divideRows_X2_degree : GoodIn wsX4_divideRows (wsV RX4 113 RX2 yX2_degree wsX2_degree) := goodIn_app (goodIn_of _ (by decide +kernel)) ggX4_divideRows_X2_degree
set_option maxRecDepth 20000 in
theorem ggX4_divideRows_X2_at : GoodIn wsX4_divideRows wsX2_at := goodIn_r _ [14, 15, 53, 54] (by decide +kernel) (by decide +kernel)
set_option maxRecDepth 20000 in
theorem gX4_divideRows_X2_at : GoodIn wsX4_divideRows (wsV RX4 101 RX2 yX2_at wsX2_at) := goodIn_app (goodIn_of _ (by decide +kernel)) ggX4_divideRows_X2_at
set_option maxRecDepth 20000 in
theorem ggX4_divideRows_X4_inverseOf : GoodIn wsX4_divideRows wsX4_inverseOf := goodIn_r _ [20, 21, 22, 19, 23] (by decide +kernel) (by decide +kernel)
set_option maxRecDepth 20000 in
theorem gX4_divideRows_X4_inverseOf : GoodIn wsX4_divideRows (va_wsS RX4 141 yX4_inverseOf wsX4_inverseOf) := goodIn_app (goodIn_of _ (by decide +kernel)) ggX4_divideRows_X4_inverseOf
set_option maxRecDepth 20000 in
theorem ggX4_divideRows_X2_clear : GoodIn wsX4_divideRows wsX2_clear := goodIn_r _ [27, 15, 10, 28, 29, 30, 31, 53, 54] (by decide +kernel) (by decide +kernel)
set_option maxRecDepth 20000 in
theorem gX4_divideRows_X2_clear : GoodIn wsX4_divideRows (wsV RX4 98 RX2 yX2_clear wsX2_clear) := goodIn_app (goodIn_of _ (by decide +kernel)) ggX4_divideRows_X2_clear
set_option maxRecDepth 20000 in
theorem ggX4_divideRows_X2_copyFrom : GoodIn wsX4_divideRows wsX2_copyFrom := goodIn_r _ [35, 15, 36, 37, 38, 39, 10, 53, 54] (by decide +kernel) (by decide +kernel)
set_option maxRecDepth 20000 in
theorem gX4_divideRows_X2_copyFrom : GoodIn wsX4_divideRows (wsV RX4 116 RX2 yX2_copyFrom wsX2_copyFrom) := goodIn_app (goodIn_of _ (by decide +kernel)) ggX4_divideRows_X2_copyFrom
set_option maxRecDepth 20000 in
theorem ggX4_divideRows_X2_write : GoodIn wsX4_divideRows wsX2_write := goodIn_r _ [43, 15, 44, 45, 46, 47, 53, 54] (by decide +kernel) (by decide +kernel)
set_option maxRecDepth 20000 in
theorem gX4_divideRows_X2_write : GoodIn wsX4_divideRows (wsV RX4 94 RX2 yX2_write wsX2_write) := goodIn_app (goodIn_of _ (by decide +kernel)) ggX4_divideRows_X2_write
set_option maxRecDepth 20000 in
theorem ggX4_divideRows_X2_resize : GoodIn wsX4_divideRows wsX2_resize := goodIn_r _ [51, 10, 52, 41, 42, 8, 43, 15, 44, 45, 46, 47, 53, 54] (by decide +kernel) (by decide +kernel)
set_option maxRecDepth 20000 in
theorem gX4_divideRows_X2_resize : GoodIn wsX4_divideRows (wsV RX4 90 RX2 yX2_resize wsX2_resize) := goodIn_app (goodIn_of _ (by decide +kernel)) ggX4_divideRows_X2_resize
theorem dX4_divideRows_0 : decode cX4_divideRows 0 = .ok (.aload_n 1, 1) := by decide +kernel
theorem dX4_divideRows_1 : decode cX4_divideRows 1 = .ok (.invokevirtual 113, 3) := by decide +kernel
theorem dX4_divideRows_4 : decode cX4_divideRows 4 = .ok (.istore 4, 2) := by decide +kernel
theorem dX4_divideRows_6 : decode cX4_divideRows 6 = .ok (.aload_n 1, 1) := by decide +kernel
theorem dX4_divideRows_7 : decode cX4_divideRows 7 = .ok (.iload 4, 2) := by decide +kernel
theorem dX4_divideRows_9 : decode cX4_divideRows 9 = .ok (.invokevirtual 101, 3) := by decide +kernel
theorem dX4_divideRows_12 : decode cX4_divideRows 12 = .ok (.invokestatic 141, 3) := by decide +kernel
theorem dX4_divideRows_15 : decode cX4_divideRows 15 = .ok (.istore 5, 2) := by decide +kernel
theorem dX4_divideRows_17 : decode cX4_divideRows 17 = .ok (.aload_n 0, 1) := by decide +kernel
theorem dX4_divideRows_18 : decode cX4_divideRows 18 = .ok (.invokevirtual 113, 3) := by decide +kernel
theorem dX4_divideRows_21 : decode cX4_divideRows 21 = .ok (.iload 4, 2) := by decide +kernel
theorem dX4_divideRows_23 : decode cX4_divideRows 23 = .ok (.isub, 1) := by decide +kernel
theorem dX4_divideRows_24 : decode cX4_divideRows 24 = .ok (.istore 6, 2) := by decide +kernel
theorem dX4_divideRows_26 : decode cX4_divideRows 26 = .ok (.aload_n 2, 1) := by decide +kernel
theorem dX4_divideRows_27 : decode cX4_divideRows 27 = .ok (.iload 6, 2) := by decide +kernel
theorem dX4_divideRows_29 : decode cX4_divideRows 29 = .ok (.iconst 0, 1) := by decide +kernel
theorem dX4_divideRows_30 : decode cX4_divideRows 30 = .ok (.invokestatic 84, 3) := by decide +kernel
theorem dX4_divideRows_33 : decode cX4_divideRows 33 = .ok (.iconst 1, 1) := by decide +kernel
theorem dX4_divideRows_34 : decode cX4_divideRows 34 = .ok (.iadd, 1) := by decide +kernel
theorem dX4_divideRows_35 : decode cX4_divideRows 35 = .ok (.invokevirtual 98, 3) := by decide +kernel
theorem dX4_divideRows_38 : decode cX4_divideRows 38 = .ok (.aload_n 3, 1) := by decide +kernel
theorem dX4_divideRows_39 : decode cX4_divideRows 39 = .ok (.aload_n 0, 1) := by decide +kernel
theorem dX4_divideRows_40 : decode cX4_divideRows 40 = .ok (.invokevirtual 116, 3) := by decide +kernel
theorem dX4_divideRows_43 : decode cX4_divideRows 43 = .ok (.iload 6, 2) := by decide +kernel
theorem dX4_divideRows_45 : decode cX4_divideRows 45 = .ok (.istore 7, 2) := by decide +kernel
theorem dX4_divideRows_47 : decode cX4_divideRows 47 = .ok (.iload 7, 2) := by decide +kernel
theorem dX4_divideRows_49 : decode cX4_divideRows 49 = .ok (.ifCond .lt 79, 3) := by decide +kernel
theorem dX4_divideRows_52 : decode cX4_divideRows 52 = .ok (.aload_n 3, 1) := by decide +kernel
theorem dX4_divideRows_53 : decode cX4_divideRows 53 = .ok (.iload 7, 2) := by decide +kernel
theorem dX4_divideRows_55 : decode cX4_divideRows 55 = .ok (.iload 4, 2) := by decide +kernel
theorem dX4_divideRows_57 : decode cX4_divideRows 57 = .ok (.iadd, 1) := by decide +kernel
theorem dX4_divideRows_58 : decode cX4_divideRows 58 = .ok (.invokevirtual 101, 3) := by decide +kernel
theorem dX4_divideRows_61 : decode cX4_divideRows 61 = .ok (.iload 5, 2) := by decide +kernel
theorem dX4_divideRows_63 : decode cX4_divideRows 63 = .ok (.imul, 1) := by decide +kernel
theorem dX4_divideRows_64 : decode cX4_divideRows 64 = .ok (.sipush 257, 3) := by decide +kernel
theorem dX4_divideRows_67 : decode cX4_divideRows 67 = .ok (.irem, 1) := by decide +kernel
theorem dX4_divideRows_68 : decode cX4_divideRows 68 = .ok (.istore 8, 2) := by decide +kernel
theorem dX4_divideRows_70 : decode cX4_divideRows 70 = .ok (.aload_n 2, 1) := by decide +kernel
theorem dX4_divideRows_71 : decode cX4_divideRows 71 = .ok (.iload 7, 2) := by decide +kernel
theorem dX4_divideRows_73 : decode cX4_divideRows 73 = .ok (.iload 8, 2) := by decide +kernel
theorem dX4_divideRows_75 : decode cX4_divideRows 75 = .ok (.invokevirtual 94, 3) := by decide +kernel
theorem dX4_divideRows_78 : decode cX4_divideRows 78 = .ok (.iconst 0, 1) := by decide +kernel
theorem dX4_divideRows_79 : decode cX4_divideRows 79 = .ok (.istore 9, 2) := by decide +kernel
theorem dX4_divideRows_81 : decode cX4_divideRows 81 = .ok (.iload 9, 2) := by decide +kernel
theorem dX4_divideRows_83 : decode cX4_divideRows 83 = .ok (.iload 4, 2) := by decide +kernel
theorem dX4_divideRows_85 : decode cX4_divideRows 85 = .ok (.if_icmp .gt 37, 3) := by decide +kernel
theorem dX4_divideRows_88 : decode cX4_divideRows 88 = .ok (.aload_n 3, 1) := by decide +kernel
theorem dX4_divideRows_89 : decode cX4_divideRows 89 = .ok (.iload 7, 2) := by decide +kernel
theorem dX4_divideRows_91 : decode cX4_divideRows 91 = .ok (.iload 9, 2) := by decide +kernel
theorem dX4_divideRows_93 : decode cX4_divideRows 93 = .ok (.iadd, 1) := by decide +kernel
theorem dX4_divideRows_94 : decode cX4_divideRows 94 = .ok (.aload_n 3, 1) := by decide +kernel
theorem dX4_divideRows_95 : decode cX4_divideRows 95 = .ok (.iload 7, 2) := by decide +kernel
theorem dX4_divideRows_97 : decode cX4_divideRows 97 = .ok (.iload 9, 2) := by decide +kernel
theorem dX4_divideRows_99 : decode cX4_divideRows 99 = .ok (.iadd, 1) := by decide +kernel
theorem dX4_divideRows_100 : decode cX4_divideRows 100 = .ok (.invokevirtual 101, 3) := by decide +kernel
theorem dX4_divideRows_103 : decode cX4_divideRows 103 = .ok (.iload 8, 2) := by decide +kernel
theorem dX4_divideRows_105 : decode cX4_divideRows 105 = .ok (.aload_n 1, 1) := by decide +kernel
theorem dX4_divideRows_106 : decode cX4_divideRows 106 = .ok (.iload 9, 2) := by decide +kernel
theorem dX4_divideRows_108 : decode cX4_divideRows 108 = .ok (.invokevirtual 101, 3) := by decide +kernel
theorem dX4_divideRows_111 : decode cX4_divideRows 111 = .ok (.imul, 1) := by decide +kernel
theorem dX4_divideRows_112 : decode cX4_divideRows 112 = .ok (.isub, 1) := by decide +kernel
theorem dX4_divideRows_113 : decode cX4_divideRows 113 = .ok (.invokevirtual 94, 3) := by decide +kernel
theorem dX4_divideRows_116 : decode cX4_divideRows 116 = .ok (.iinc 9 1, 3) := by decide +kernel
theorem dX4_divideRows_119 : decode cX4_divideRows 119 = .ok (.goto (-38), 3) := by decide +kernel
theorem dX4_divideRows_122 : decode cX4_divideRows 122 = .ok (.iinc 7 (-1), 3) := by decide +kernel
theorem dX4_divideRows_125 : decode cX4_divideRows 125 = .ok (.goto (-78), 3) := by decide +kernel
theorem dX4_divideRows_128 : decode cX4_divideRows 128 = .ok (.aload_n 3, 1) := by decide +kernel
theorem dX4_divideRows_129 : decode cX4_divideRows 129 = .ok (.iload 4, 2) := by decide +kernel
theorem dX4_divideRows_131 : decode cX4_divideRows 131 = .ok (.iconst 1, 1) := by decide +kernel
theorem dX4_divideRows_132 : decode cX4_divideRows 132 = .ok (.invokestatic 84, 3) := by decide +kernel
theorem dX4_divideRows_135 : decode cX4_divideRows 135 = .ok (.invokevirtual 90, 3) := by decide +kernel
theorem dX4_divideRows_138 : decode cX4_divideRows 138 = .ok (.return_, 1) := by decide +kernel
set_option maxRecDepth 20000 in
theorem ggX4_makeGreatestDivisor_X2_copyFrom : GoodIn wsX4_makeGreatestDivisor wsX2_copyFrom := goodIn_r _ [10, 11, 12, 13, 14, 15, 16, 75, 76] (by decide +kernel) (by decide +kernel)
set_option maxRecDepth 20000 in
theorem gX4_makeGreatestDivisor_X2_copyFrom : GoodIn wsX4_makeGreatestDivisor (wsV RX4 116 RX2 yX2_copyFrom wsX2_copyFrom) := goodIn_app (goodIn_of _ (by decide +kernel)) ggX4_makeGreatestDivisor_X2_copyFrom
set_option maxRecDepth 20000 in
theorem ggX4_makeGreatestDivisor_X2_degree : GoodIn wsX4_makeGreatestDivisor wsX2_degree := goodIn_r _ [20, 16, 21, 22, 23, 9, 24, 11, 75, 76] (by decide +kernel) (by decide +kernel)
set_option maxRecDepth 20000 in
theorem gX4_makeGreatestDivisor_X2_degree : GoodIn wsX4_makeGreatestDivisor (wsV RX4 113 RX2 yX2_degree wsX2_degree) := goodIn_app (goodIn_of _ (by decide +kernel)) ggX4_makeGreatestDivisor_X2_degree
set_option maxRecDepth 20000 in
theorem ggX4_makeGreatestDivisor_X4_divideRows : GoodIn wsX4_makeGreatestDivisor wsX4_divideRows := goodIn_r _ [28, 29, 30, 31, 32, 17, 18, 19, 9, 20, 16, 21, 22, 23, 24, 11, 33, 34, 35, 27, 36, 37, 38, 39, 40, 41, 42, 43, 44, 45, 46, 47, 6, 7, 8, 10, 12, 13, 14, 15, 48, 49, 50, 51, 52, 53, 54, 55, 56, 57, 58, 59, 60, 75, 76] (by decide +kernel) (by decide +kernel)
set_option maxRecDepth 20000 in
theorem gX4_makeGreatestDivisor_X4_divideRows : GoodIn wsX4_makeGreatestDivisor (va_wsS RX4 123 yX4_divideRows wsX4_divideRows) := goodIn_app (goodIn_of _ (by decide +kernel)) ggX4_makeGreatestDivisor_X4_divideRows
set_option maxRecDepth 20000 in
theorem ggX4_makeGreatestDivisor_X2_resize : GoodIn wsX4_makeGreatestDivisor wsX2_resize := goodIn_r _ [59, 16, 60, 49, 50, 9, 51, 11, 52, 53, 54, 55, 75, 76] (by decide +kernel) (by decide +kernel)
set_option maxRecDepth 20000 in
theorem gX4_makeGreatestDivisor_X2_resize : GoodIn wsX4_makeGreatestDivisor (wsV RX4 90 RX2 yX2_resize wsX2_resize) := goodIn_app (goodIn_of _ (by decide +kernel)) ggX4_makeGreatestDivisor_X2_resize
set_option maxRecDepth 20000 in
theorem ggX4_makeGreatestDivisor_X2_at : GoodIn wsX4_makeGreatestDivisor wsX2_at := goodIn_r _ [24, 11, 75, 76] (by decide +kernel) (by decide +kernel)
set_option maxRecDepth 20000 in
theorem gX4_makeGreatestDivisor_X2_at : GoodIn wsX4_makeGreatestDivisor (wsV RX4 101 RX2 yX2_at wsX2_at) := goodIn_app (goodIn_of _ (by decide +kernel)) ggX4_makeGreatestDivisor_X2_at
set_option maxRecDepth 20000 in
theorem ggX4_makeGreatestDivisor_X4_inverseOf : GoodIn wsX4_makeGreatestDivisor wsX4_inverseOf := goodIn_r _ [36, 37, 38, 27, 39] (by decide +kernel) (by decide +kernel)
set_option maxRecDepth 20000 in
theorem gX4_makeGreatestDivisor_X4_inverseOf : GoodIn wsX4_makeGreatestDivisor (va_wsS RX4 141 yX4_inverseOf wsX4_inverseOf) := goodIn_app (goodIn_of _ (by decide +kernel)) ggX4_makeGreatestDivisor_X4_inverseOf
set_option maxRecDepth 20000 in
theorem ggX4_makeGreatestDivisor_X2_scale : GoodIn wsX4_makeGreatestDivisor wsX2_scale := goodIn_r _ [64, 16, 21, 22, 23, 9, 24, 11, 60, 49, 50, 51, 52, 53, 54, 55, 75, 76] (by decide +kernel) (by decide +kernel)
set_option maxRecDepth 20000 in
theorem gX4_makeGreatestDivisor_X2_scale : GoodIn wsX4_makeGreatestDivisor (wsV RX4 144 RX2 yX2_scale wsX2_scale) := goodIn_app (goodIn_of _ (by decide +kernel)) ggX4_makeGreatestDivisor_X2_scale
theorem dX4_makeGreatestDivisor_0 : decode cX4_makeGreatestDivisor 0 = .ok (.aload_n 0, 1) := by decide +kernel
theorem dX4_makeGreatestDivisor_1 : decode cX4_makeGreatestDivisor 1 = .ok (.getfield 48, 3) := by decide +kernel
theorem dX4_makeGreatestDivisor_4 : decode cX4_makeGreatestDivisor 4 = .ok (.aload_n 1, 1) := by decide +kernel
theorem dX4_makeGreatestDivisor_5 : decode cX4_makeGreatestDivisor 5 = .ok (.invokevirtual 116, 3) := by decide +kernel
theorem dX4_makeGreatestDivisor_8 : decode cX4_makeGreatestDivisor 8 = .ok (.aload_n 0, 1) := by decide +kernel
theorem dX4_makeGreatestDivisor_9 : decode cX4_makeGreatestDivisor 9 = .ok (.getfield 51, 3) := by decide +kernel
theorem dX4_makeGreatestDivisor_12 : decode cX4_makeGreatestDivisor 12 = .ok (.aload_n 2, 1) := by decide +kernel
theorem dX4_makeGreatestDivisor_13 : decode cX4_makeGreatestDivisor 13 = .ok (.invokevirtual 116, 3) := by decide +kernel
theorem dX4_makeGreatestDivisor_16 : decode cX4_makeGreatestDivisor 16 = .ok (.iconst 0, 1) := by decide +kernel
theorem dX4_makeGreatestDivisor_17 : decode cX4_makeGreatestDivisor 17 = .ok (.istore_n 3, 1) := by decide +kernel
theorem dX4_makeGreatestDivisor_18 : decode cX4_makeGreatestDivisor 18 = .ok (.iload_n 3, 1) := by decide +kernel
theorem dX4_makeGreatestDivisor_19 : decode cX4_makeGreatestDivisor 19 = .ok (.bipush 64, 2) := by decide +kernel
theorem dX4_makeGreatestDivisor_21 : decode cX4_makeGreatestDivisor 21 = .ok (.if_icmp .gt 62, 3) := by decide +kernel
theorem dX4_makeGreatestDivisor_24 : decode cX4_makeGreatestDivisor 24 = .ok (.aload_n 0, 1) := by decide +kernel
theorem dX4_makeGreatestDivisor_25 : decode cX4_makeGreatestDivisor 25 = .ok (.getfield 51, 3) := by decide +kernel
theorem dX4_makeGreatestDivisor_28 : decode cX4_makeGreatestDivisor 28 = .ok (.invokevirtual 113, 3) := by decide +kernel
theorem dX4_makeGreatestDivisor_31 : decode cX4_makeGreatestDivisor 31 = .ok (.bipush (-6), 2) := by decide +kernel
theorem dX4_makeGreatestDivisor_33 : decode cX4_makeGreatestDivisor 33 = .ok (.if_icmp .eq 50, 3) := by decide +kernel
theorem dX4_makeGreatestDivisor_36 : decode cX4_makeGreatestDivisor 36 = .ok (.aload_n 0, 1) := by decide +kernel
theorem dX4_makeGreatestDivisor_37 : decode cX4_makeGreatestDivisor 37 = .ok (.getfield 48, 3) := by decide +kernel
theorem dX4_makeGreatestDivisor_40 : decode cX4_makeGreatestDivisor 40 = .ok (.aload_n 0, 1) := by decide +kernel
theorem dX4_makeGreatestDivisor_41 : decode cX4_makeGreatestDivisor 41 = .ok (.getfield 51, 3) := by decide +kernel
theorem dX4_makeGreatestDivisor_44 : decode cX4_makeGreatestDivisor 44 = .ok (.aload_n 0, 1) := by decide +kernel
theorem dX4_makeGreatestDivisor_45 : decode cX4_makeGreatestDivisor 45 = .ok (.getfield 54, 3) := by decide +kernel
theorem dX4_makeGreatestDivisor_48 : decode cX4_makeGreatestDivisor 48 = .ok (.aload_n 0, 1) := by decide +kernel
theorem dX4_makeGreatestDivisor_49 : decode cX4_makeGreatestDivisor 49 = .ok (.getfield 45, 3) := by decide +kernel
theorem dX4_makeGreatestDivisor_52 : decode cX4_makeGreatestDivisor 52 = .ok (.invokestatic 123, 3) := by decide +kernel
theorem dX4_makeGreatestDivisor_55 : decode cX4_makeGreatestDivisor 55 = .ok (.aload_n 0, 1) := by decide +kernel
theorem dX4_makeGreatestDivisor_56 : decode cX4_makeGreatestDivisor 56 = .ok (.getfield 48, 3) := by decide +kernel
theorem dX4_makeGreatestDivisor_59 : decode cX4_makeGreatestDivisor 59 = .ok (.aload_n 0, 1) := by decide +kernel
theorem dX4_makeGreatestDivisor_60 : decode cX4_makeGreatestDivisor 60 = .ok (.getfield 51, 3) := by decide +kernel
theorem dX4_makeGreatestDivisor_63 : decode cX4_makeGreatestDivisor 63 = .ok (.invokevirtual 116, 3) := by decide +kernel
theorem dX4_makeGreatestDivisor_66 : decode cX4_makeGreatestDivisor 66 = .ok (.aload_n 0, 1) := by decide +kernel
theorem dX4_makeGreatestDivisor_67 : decode cX4_makeGreatestDivisor 67 = .ok (.getfield 51, 3) := by decide +kernel
theorem dX4_makeGreatestDivisor_70 : decode cX4_makeGreatestDivisor 70 = .ok (.aload_n 0, 1) := by decide +kernel
theorem dX4_makeGreatestDivisor_71 : decode cX4_makeGreatestDivisor 71 = .ok (.getfield 45, 3) := by decide +kernel
theorem dX4_makeGreatestDivisor_74 : decode cX4_makeGreatestDivisor 74 = .ok (.invokevirtual 116, 3) := by decide +kernel
