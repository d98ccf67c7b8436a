theorem dX4_add_57 : decode cX4_add 57 = .ok (.ireturn, 1) := by decide +kernel
theorem dX4_add_58 : decode cX4_add 58 = .ok (.aload_n 0, 1) := by decide +kernel
theorem dX4_add_59 : decode cX4_add 59 = .ok (.getfield 41, 3) := by decide +kernel
theorem dX4_add_62 : decode cX4_add 62 = .ok (.aload 5, 2) := by decide +kernel
theorem dX4_add_64 : decode cX4_add 64 = .ok (.invokevirtual 72, 3) := by decide +kernel
theorem dX4_add_67 : decode cX4_add 67 = .ok (.aload 6, 2) := by decide +kernel
theorem dX4_add_69 : decode cX4_add 69 = .ok (.invokevirtual 72, 3) := by decide +kernel
theorem dX4_add_72 : decode cX4_add 72 = .ok (.invokestatic 84, 3) := by decide +kernel
theorem dX4_add_75 : decode cX4_add 75 = .ok (.invokevirtual 98, 3) := by decide +kernel
theorem dX4_add_78 : decode cX4_add 78 = .ok (.iconst 0, 1) := by decide +kernel
theorem dX4_add_79 : decode cX4_add 79 = .ok (.istore 8, 2) := by decide +kernel
theorem dX4_add_81 : decode cX4_add 81 = .ok (.iload 8, 2) := by decide +kernel
theorem dX4_add_83 : decode cX4_add 83 = .ok (.aload_n 0, 1) := by decide +kernel
theorem dX4_add_84 : decode cX4_add 84 = .ok (.getfield 41, 3) := by decide +kernel
theorem dX4_add_87 : decode cX4_add 87 = .ok (.invokevirtual 72, 3) := by decide +kernel
theorem dX4_add_90 : decode cX4_add 90 = .ok (.if_icmp .ge 35, 3) := by decide +kernel
theorem dX4_add_93 : decode cX4_add 93 = .ok (.aload_n 0, 1) := by decide +kernel
theorem dX4_add_94 : decode cX4_add 94 = .ok (.getfield 41, 3) := by decide +kernel
theorem dX4_add_97 : decode cX4_add 97 = .ok (.iload 8, 2) := by decide +kernel
theorem dX4_add_99 : decode cX4_add 99 = .ok (.aload 5, 2) := by decide +kernel
theorem dX4_add_101 : decode cX4_add 101 = .ok (.iload 8, 2) := by decide +kernel
theorem dX4_add_103 : decode cX4_add 103 = .ok (.invokevirtual 101, 3) := by decide +kernel
theorem dX4_add_106 : decode cX4_add 106 = .ok (.iload_n 3, 1) := by decide +kernel
theorem dX4_add_107 : decode cX4_add 107 = .ok (.aload 6, 2) := by decide +kernel
theorem dX4_add_109 : decode cX4_add 109 = .ok (.iload 8, 2) := by decide +kernel
theorem dX4_add_111 : decode cX4_add 111 = .ok (.invokevirtual 101, 3) := by decide +kernel
theorem dX4_add_114 : decode cX4_add 114 = .ok (.imul, 1) := by decide +kernel
theorem dX4_add_115 : decode cX4_add 115 = .ok (.iadd, 1) := by decide +kernel
theorem dX4_add_116 : decode cX4_add 116 = .ok (.invokevirtual 94, 3) := by decide +kernel
theorem dX4_add_119 : decode cX4_add 119 = .ok (.iinc 8 1, 3) := by decide +kernel
theorem dX4_add_122 : decode cX4_add 122 = .ok (.goto (-41), 3) := by decide +kernel
theorem dX4_add_125 : decode cX4_add 125 = .ok (.aload_n 0, 1) := by decide +kernel
theorem dX4_add_126 : decode cX4_add 126 = .ok (.aload 7, 2) := by decide +kernel
theorem dX4_add_128 : decode cX4_add 128 = .ok (.invokevirtual 65, 3) := by decide +kernel
theorem dX4_add_131 : decode cX4_add 131 = .ok (.aload 7, 2) := by decide +kernel
theorem dX4_add_133 : decode cX4_add 133 = .ok (.invokevirtual 72, 3) := by decide +kernel
theorem dX4_add_136 : decode cX4_add 136 = .ok (.ireturn, 1) := by decide +kernel
set_option maxRecDepth 20000 in
theorem ggX4_product_X3_rowOf : GoodIn wsX4_product wsX3_rowOf := goodIn_r _ [7, 8, 85] (by decide +kernel) (by decide +kernel)
set_option maxRecDepth 20000 in
theorem gX4_product_X3_rowOf : GoodIn wsX4_product (wsV RX4 57 RX3 yX3_rowOf wsX3_rowOf) := goodIn_app (goodIn_of _ (by decide +kernel)) ggX4_product_X3_rowOf
set_option maxRecDepth 20000 in
theorem ggX4_product_X4_productLength : GoodIn wsX4_product wsX4_productLength := goodIn_r _ [12, 13, 14, 15, 16, 17, 18, 86, 87] (by decide +kernel) (by decide +kernel)
set_option maxRecDepth 20000 in
theorem gX4_product_X4_productLength : GoodIn wsX4_product (va_wsS RX4 105 yX4_productLength wsX4_productLength) := goodIn_app (goodIn_of _ (by decide +kernel)) ggX4_product_X4_productLength
set_option maxRecDepth 20000 in
theorem ggX4_product_X4_multiply : GoodIn wsX4_product wsX4_multiply := goodIn_r _ [21, 22, 23, 24, 16, 25, 26, 18, 27, 28, 29, 30, 13, 14, 15, 17, 31, 32, 33, 34, 35, 36, 37, 38, 39, 40, 41, 42, 43, 44, 11, 45, 86, 87] (by decide +kernel) (by decide +kernel)
set_option maxRecDepth 20000 in
theorem gX4_product_X4_multiply : GoodIn wsX4_product (va_wsS RX4 109 yX4_multiply wsX4_multiply) := goodIn_app (goodIn_of _ (by decide +kernel)) ggX4_product_X4_multiply
set_option maxRecDepth 20000 in
theorem ggX4_product_X4_change : GoodIn wsX4_product wsX4_change := goodIn_r _ [49, 50, 1, 2, 51, 52, 53, 54, 55, 56, 57, 58, 59, 60, 61, 62, 63, 64, 6, 65, 8, 66, 67, 68, 16, 69, 26, 70, 71, 72, 73, 18, 74, 75, 76, 77, 78, 79, 80, 81, 82, 83, 84, 88, 89, 85, 86, 87] (by decide +kernel) (by decide +kernel)
set_option maxRecDepth 20000 in
theorem gX4_product_X4_change : GoodIn wsX4_product (wsV RX4 65 RX4 yX4_change wsX4_change) := goodIn_app (goodIn_of _ (by decide +kernel)) ggX4_product_X4_change
theorem dX4_product_0 : decode cX4_product 0 = .ok (.aload_n 0, 1) := by decide +kernel
theorem dX4_product_1 : decode cX4_product 1 = .ok (.getfield 10, 3) := by decide +kernel
theorem dX4_product_4 : decode cX4_product 4 = .ok (.iload_n 1, 1) := by decide +kernel
theorem dX4_product_5 : decode cX4_product 5 = .ok (.invokevirtual 57, 3) := by decide +kernel
theorem dX4_product_8 : decode cX4_product 8 = .ok (.astore 4, 2) := by decide +kernel
theorem dX4_product_10 : decode cX4_product 10 = .ok (.aload_n 0, 1) := by decide +kernel
theorem dX4_product_11 : decode cX4_product 11 = .ok (.getfield 10, 3) := by decide +kernel
theorem dX4_product_14 : decode cX4_product 14 = .ok (.iload_n 2, 1) := by decide +kernel
theorem dX4_product_15 : decode cX4_product 15 = .ok (.invokevirtual 57, 3) := by decide +kernel
theorem dX4_product_18 : decode cX4_product 18 = .ok (.astore 5, 2) := by decide +kernel
theorem dX4_product_20 : decode cX4_product 20 = .ok (.aload_n 0, 1) := by decide +kernel
theorem dX4_product_21 : decode cX4_product 21 = .ok (.getfield 10, 3) := by decide +kernel
theorem dX4_product_24 : decode cX4_product 24 = .ok (.iload_n 3, 1) := by decide +kernel
theorem dX4_product_25 : decode cX4_product 25 = .ok (.invokevirtual 57, 3) := by decide +kernel
theorem dX4_product_28 : decode cX4_product 28 = .ok (.astore 6, 2) := by decide +kernel
theorem dX4_product_30 : decode cX4_product 30 = .ok (.aload 4, 2) := by decide +kernel
theorem dX4_product_32 : decode cX4_product 32 = .ok (.ifnull 13, 3) := by decide +kernel
theorem dX4_product_35 : decode cX4_product 35 = .ok (.aload 5, 2) := by decide +kernel
theorem dX4_product_37 : decode cX4_product 37 = .ok (.ifnull 8, 3) := by decide +kernel
theorem dX4_product_40 : decode cX4_product 40 = .ok (.aload 6, 2) := by decide +kernel
theorem dX4_product_42 : decode cX4_product 42 = .ok (.ifnonnull 5, 3) := by decide +kernel
theorem dX4_product_45 : decode cX4_product 45 = .ok (.iconst (-1), 1) := by decide +kernel
theorem dX4_product_46 : decode cX4_product 46 = .ok (.ireturn, 1) := by decide +kernel
theorem dX4_product_47 : decode cX4_product 47 = .ok (.aload 4, 2) := by decide +kernel
theorem dX4_product_49 : decode cX4_product 49 = .ok (.aload 5, 2) := by decide +kernel
theorem dX4_product_51 : decode cX4_product 51 = .ok (.invokestatic 105, 3) := by decide +kernel
theorem dX4_product_54 : decode cX4_product 54 = .ok (.istore 7, 2) := by decide +kernel
theorem dX4_product_56 : decode cX4_product 56 = .ok (.iload 7, 2) := by decide +kernel
theorem dX4_product_58 : decode cX4_product 58 = .ok (.bipush 64, 2) := by decide +kernel
theorem dX4_product_60 : decode cX4_product 60 = .ok (.if_icmp .le 6, 3) := by decide +kernel
theorem dX4_product_63 : decode cX4_product 63 = .ok (.bipush (-4), 2) := by decide +kernel
theorem dX4_product_65 : decode cX4_product 65 = .ok (.ireturn, 1) := by decide +kernel
theorem dX4_product_66 : decode cX4_product 66 = .ok (.aload 4, 2) := by decide +kernel
theorem dX4_product_68 : decode cX4_product 68 = .ok (.aload 5, 2) := by decide +kernel
theorem dX4_product_70 : decode cX4_product 70 = .ok (.iload 7, 2) := by decide +kernel
theorem dX4_product_72 : decode cX4_product 72 = .ok (.aload_n 0, 1) := by decide +kernel
theorem dX4_product_73 : decode cX4_product 73 = .ok (.getfield 41, 3) := by decide +kernel
theorem dX4_product_76 : decode cX4_product 76 = .ok (.invokestatic 109, 3) := by decide +kernel
theorem dX4_product_79 : decode cX4_product 79 = .ok (.aload_n 0, 1) := by decide +kernel
theorem dX4_product_80 : decode cX4_product 80 = .ok (.aload 6, 2) := by decide +kernel
theorem dX4_product_82 : decode cX4_product 82 = .ok (.invokevirtual 65, 3) := by decide +kernel
theorem dX4_product_85 : decode cX4_product 85 = .ok (.iload 7, 2) := by decide +kernel
theorem dX4_product_87 : decode cX4_product 87 = .ok (.ireturn, 1) := by decide +kernel
set_option maxRecDepth 20000 in
theorem ggX4_round_X3_rowOf : GoodIn wsX4_round wsX3_rowOf := goodIn_r _ [7, 8, 87] (by decide +kernel) (by decide +kernel)
set_option maxRecDepth 20000 in
theorem gX4_round_X3_rowOf : GoodIn wsX4_round (wsV RX4 57 RX3 yX3_rowOf wsX3_rowOf) := goodIn_app (goodIn_of _ (by decide +kernel)) ggX4_round_X3_rowOf
set_option maxRecDepth 20000 in
theorem ggX4_round_X4_multiply : GoodIn wsX4_round wsX4_multiply := goodIn_r _ [12, 13, 14, 15, 16, 17, 18, 19, 20, 21, 22, 23, 24, 25, 26, 27, 28, 29, 30, 31, 32, 33, 34, 35, 36, 37, 38, 39, 40, 41, 11, 42, 88, 89] (by decide +kernel) (by decide +kernel)
set_option maxRecDepth 20000 in
theorem gX4_round_X4_multiply : GoodIn wsX4_round (va_wsS RX4 109 yX4_multiply wsX4_multiply) := goodIn_app (goodIn_of _ (by decide +kernel)) ggX4_round_X4_multiply
set_option maxRecDepth 20000 in
theorem ggX4_round_X4_change : GoodIn wsX4_round wsX4_change := goodIn_r _ [46, 47, 1, 2, 48, 49, 50, 51, 52, 53, 54, 55, 56, 57, 58, 59, 60, 61, 6, 62, 8, 63, 64, 65, 16, 66, 18, 67, 68, 69, 70, 19, 71, 77, 78, 79, 80, 81, 82, 83, 84, 85, 86, 90, 91, 87, 88, 89] (by decide +kernel) (by decide +kernel)
set_option maxRecDepth 20000 in
theorem gX4_round_X4_change : GoodIn wsX4_round (wsV RX4 65 RX4 yX4_change wsX4_change) := goodIn_app (goodIn_of _ (by decide +kernel)) ggX4_round_X4_change
set_option maxRecDepth 20000 in
theorem ggX4_round_X2_degree : GoodIn wsX4_round wsX2_degree := goodIn_r _ [75, 19, 76, 29, 30, 16, 31, 18, 88, 89] (by decide +kernel) (by decide +kernel)
set_option maxRecDepth 20000 in
theorem gX4_round_X2_degree : GoodIn wsX4_round (wsV RX4 113 RX2 yX2_degree wsX2_degree) := goodIn_app (goodIn_of _ (by decide +kernel)) ggX4_round_X2_degree
theorem dX4_round_0 : decode cX4_round 0 = .ok (.aload_n 0, 1) := by decide +kernel
theorem dX4_round_1 : decode cX4_round 1 = .ok (.getfield 10, 3) := by decide +kernel
theorem dX4_round_4 : decode cX4_round 4 = .ok (.iload_n 1, 1) := by decide +kernel
theorem dX4_round_5 : decode cX4_round 5 = .ok (.invokevirtual 57, 3) := by decide +kernel
theorem dX4_round_8 : decode cX4_round 8 = .ok (.astore 5, 2) := by decide +kernel
theorem dX4_round_10 : decode cX4_round 10 = .ok (.aload_n 0, 1) := by decide +kernel
theorem dX4_round_11 : decode cX4_round 11 = .ok (.getfield 10, 3) := by decide +kernel
theorem dX4_round_14 : decode cX4_round 14 = .ok (.iload_n 2, 1) := by decide +kernel
theorem dX4_round_15 : decode cX4_round 15 = .ok (.invokevirtual 57, 3) := by decide +kernel
theorem dX4_round_18 : decode cX4_round 18 = .ok (.astore 6, 2) := by decide +kernel
theorem dX4_round_20 : decode cX4_round 20 = .ok (.aload_n 0, 1) := by decide +kernel
theorem dX4_round_21 : decode cX4_round 21 = .ok (.getfield 10, 3) := by decide +kernel
theorem dX4_round_24 : decode cX4_round 24 = .ok (.iload 4, 2) := by decide +kernel
theorem dX4_round_26 : decode cX4_round 26 = .ok (.invokevirtual 57, 3) := by decide +kernel
theorem dX4_round_29 : decode cX4_round 29 = .ok (.astore 7, 2) := by decide +kernel
theorem dX4_round_31 : decode cX4_round 31 = .ok (.aload 5, 2) := by decide +kernel
theorem dX4_round_33 : decode cX4_round 33 = .ok (.ifnull 13, 3) := by decide +kernel
theorem dX4_round_36 : decode cX4_round 36 = .ok (.aload 6, 2) := by decide +kernel
theorem dX4_round_38 : decode cX4_round 38 = .ok (.ifnull 8, 3) := by decide +kernel
theorem dX4_round_41 : decode cX4_round 41 = .ok (.aload 7, 2) := by decide +kernel
theorem dX4_round_43 : decode cX4_round 43 = .ok (.ifnonnull 5, 3) := by decide +kernel
theorem dX4_round_46 : decode cX4_round 46 = .ok (.iconst (-1), 1) := by decide +kernel
theorem dX4_round_47 : decode cX4_round 47 = .ok (.ireturn, 1) := by decide +kernel
theorem dX4_round_48 : decode cX4_round 48 = .ok (.iload_n 3, 1) := by decide +kernel
theorem dX4_round_49 : decode cX4_round 49 = .ok (.iconst 1, 1) := by decide +kernel
theorem dX4_round_50 : decode cX4_round 50 = .ok (.if_icmp .lt 9, 3) := by decide +kernel
theorem dX4_round_53 : decode cX4_round 53 = .ok (.iload_n 3, 1) := by decide +kernel
theorem dX4_round_54 : decode cX4_round 54 = .ok (.bipush 64, 2) := by decide +kernel
theorem dX4_round_56 : decode cX4_round 56 = .ok (.if_icmp .le 6, 3) := by decide +kernel
theorem dX4_round_59 : decode cX4_round 59 = .ok (.bipush (-2), 2) := by decide +kernel
theorem dX4_round_61 : decode cX4_round 61 = .ok (.ireturn, 1) := by decide +kernel
theorem dX4_round_62 : decode cX4_round 62 = .ok (.aload 5, 2) := by decide +kernel
theorem dX4_round_64 : decode cX4_round 64 = .ok (.aload 6, 2) := by decide +kernel
theorem dX4_round_66 : decode cX4_round 66 = .ok (.iload_n 3, 1) := by decide +kernel
theorem dX4_round_67 : decode cX4_round 67 = .ok (.aload_n 0, 1) := by decide +kernel
theorem dX4_round_68 : decode cX4_round 68 = .ok (.getfield 41, 3) := by decide +kernel
theorem dX4_round_71 : decode cX4_round 71 = .ok (.invokestatic 109, 3) := by decide +kernel
theorem dX4_round_74 : decode cX4_round 74 = .ok (.aload_n 0, 1) := by decide +kernel
theorem dX4_round_75 : decode cX4_round 75 = .ok (.aload 7, 2) := by decide +kernel
theorem dX4_round_77 : decode cX4_round 77 = .ok (.invokevirtual 65, 3) := by decide +kernel
theorem dX4_round_80 : decode cX4_round 80 = .ok (.aload 7, 2) := by decide +kernel
theorem dX4_round_82 : decode cX4_round 82 = .ok (.invokevirtual 113, 3) := by decide +kernel
theorem dX4_round_85 : decode cX4_round 85 = .ok (.ireturn, 1) := by decide +kernel
set_option maxRecDepth 20000 in
theorem ggX4_inverse_X3_rowOf : GoodIn wsX4_inverse wsX3_rowOf := goodIn_r _ [7, 8, 86] (by decide +kernel) (by decide +kernel)
set_option maxRecDepth 20000 in
theorem gX4_inverse_X3_rowOf : GoodIn wsX4_inverse (wsV RX4 57 RX3 yX3_rowOf wsX3_rowOf) := goodIn_app (goodIn_of _ (by decide +kernel)) ggX4_inverse_X3_rowOf
set_option maxRecDepth 20000 in
theorem ggX4_inverse_X2_at : GoodIn wsX4_inverse wsX2_at := goodIn_r _ [13, 14, 87, 88] (by decide +kernel) (by decide +kernel)
set_option maxRecDepth 20000 in
theorem gX4_inverse_X2_at : GoodIn wsX4_inverse (wsV RX4 101 RX2 yX2_at wsX2_at) := goodIn_app (goodIn_of _ (by decide +kernel)) ggX4_inverse_X2_at
set_option maxRecDepth 20000 in
theorem ggX4_inverse_X4_invertRow : GoodIn wsX4_inverse wsX4_invertRow := goodIn_r _ [18, 9, 10, 11, 12, 13, 14, 19, 20, 17, 21, 22, 23, 24, 25, 26, 27, 28, 29, 30, 31, 32, 33, 34, 35, 36, 37, 38, 39, 40, 41, 87, 88] (by decide +kernel) (by decide +kernel)
set_option maxRecDepth 20000 in
theorem gX4_inverse_X4_invertRow : GoodIn wsX4_inverse (va_wsS RX4 119 yX4_invertRow wsX4_invertRow) := goodIn_app (goodIn_of _ (by decide +kernel)) ggX4_inverse_X4_invertRow
set_option maxRecDepth 20000 in
theorem ggX4_inverse_X4_change : GoodIn wsX4_inverse wsX4_change := goodIn_r _ [45, 46, 1, 2, 47, 48, 49, 50, 51, 52, 53, 54, 55, 56, 57, 58, 59, 60, 6, 61, 8, 62, 63, 64, 12, 65, 14, 66, 67, 68, 69, 29, 70, 76, 77, 78, 79, 80, 81, 82, 83, 84, 85, 89, 90, 86, 87, 88] (by decide +kernel) (by decide +kernel)
set_option maxRecDepth 20000 in
theorem gX4_inverse_X4_change : GoodIn wsX4_inverse (wsV RX4 65 RX4 yX4_change wsX4_change) := goodIn_app (goodIn_of _ (by decide +kernel)) ggX4_inverse_X4_change
set_option maxRecDepth 20000 in
theorem ggX4_inverse_X2_degree : GoodIn wsX4_inverse wsX2_degree := goodIn_r _ [74, 29, 75, 10, 11, 12, 13, 14, 87, 88] (by decide +kernel) (by decide +kernel)
set_option maxRecDepth 20000 in
theorem gX4_inverse_X2_degree : GoodIn wsX4_inverse (wsV RX4 113 RX2 yX2_degree wsX2_degree) := goodIn_app (goodIn_of _ (by decide +kernel)) ggX4_inverse_X2_degree
theorem dX4_inverse_0 : decode cX4_inverse 0 = .ok (.aload_n 0, 1) := by decide +kernel
theorem dX4_inverse_1 : decode cX4_inverse 1 = .ok (.getfield 10, 3) := by decide +kernel
theorem dX4_inverse_4 : decode cX4_inverse 4 = .ok (.iload_n 1, 1) := by decide +kernel
theorem dX4_inverse_5 : decode cX4_inverse 5 = .ok (.invokevirtual 57, 3) := by decide +kernel
theorem dX4_inverse_8 : decode cX4_inverse 8 = .ok (.astore 4, 2) := by decide +kernel
theorem dX4_inverse_10 : decode cX4_inverse 10 = .ok (.aload_n 0, 1) := by decide +kernel
theorem dX4_inverse_11 : decode cX4_inverse 11 = .ok (.getfield 10, 3) := by decide +kernel
theorem dX4_inverse_14 : decode cX4_inverse 14 = .ok (.iload_n 3, 1) := by decide +kernel
theorem dX4_inverse_15 : decode cX4_inverse 15 = .ok (.invokevirtual 57, 3) := by decide +kernel
theorem dX4_inverse_18 : decode cX4_inverse 18 = .ok (.astore 5, 2) := by decide +kernel
theorem dX4_inverse_20 : decode cX4_inverse 20 = .ok (.aload 4, 2) := by decide +kernel
theorem dX4_inverse_22 : decode cX4_inverse 22 = .ok (.ifnull 8, 3) := by decide +kernel
theorem dX4_inverse_25 : decode cX4_inverse 25 = .ok (.aload 5, 2) := by decide +kernel
theorem dX4_inverse_27 : decode cX4_inverse 27 = .ok (.ifnonnull 5, 3) := by decide +kernel
theorem dX4_inverse_30 : decode cX4_inverse 30 = .ok (.iconst (-1), 1) := by decide +kernel
theorem dX4_inverse_31 : decode cX4_inverse 31 = .ok (.ireturn, 1) := by decide +kernel
theorem dX4_inverse_32 : decode cX4_inverse 32 = .ok (.iload_n 2, 1) := by decide +kernel
theorem dX4_inverse_33 : decode cX4_inverse 33 = .ok (.iconst 1, 1) := by decide +kernel
theorem dX4_inverse_34 : decode cX4_inverse 34 = .ok (.if_icmp .lt 9, 3) := by decide +kernel
theorem dX4_inverse_37 : decode cX4_inverse 37 = .ok (.iload_n 2, 1) := by decide +kernel
theorem dX4_inverse_38 : decode cX4_inverse 38 = .ok (.bipush 64, 2) := by decide +kernel
theorem dX4_inverse_40 : decode cX4_inverse 40 = .ok (.if_icmp .le 6, 3) := by decide +kernel
theorem dX4_inverse_43 : decode cX4_inverse 43 = .ok (.bipush (-2), 2) := by decide +kernel
theorem dX4_inverse_45 : decode cX4_inverse 45 = .ok (.ireturn, 1) := by decide +kernel
theorem dX4_inverse_46 : decode cX4_inverse 46 = .ok (.aload 4, 2) := by decide +kernel
theorem dX4_inverse_48 : decode cX4_inverse 48 = .ok (.iconst 0, 1) := by decide +kernel
theorem dX4_inverse_49 : decode cX4_inverse 49 = .ok (.invokevirtual 101, 3) := by decide +kernel
theorem dX4_inverse_52 : decode cX4_inverse 52 = .ok (.ifCond .ne 6, 3) := by decide +kernel
theorem dX4_inverse_55 : decode cX4_inverse 55 = .ok (.bipush (-5), 2) := by decide +kernel
theorem dX4_inverse_57 : decode cX4_inverse 57 = .ok (.ireturn, 1) := by decide +kernel
theorem dX4_inverse_58 : decode cX4_inverse 58 = .ok (.aload 4, 2) := by decide +kernel
theorem dX4_inverse_60 : decode cX4_inverse 60 = .ok (.iload_n 2, 1) := by decide +kernel
theorem dX4_inverse_61 : decode cX4_inverse 61 = .ok (.aload_n 0, 1) := by decide +kernel
theorem dX4_inverse_62 : decode cX4_inverse 62 = .ok (.getfield 41, 3) := by decide +kernel
theorem dX4_inverse_65 : decode cX4_inverse 65 = .ok (.invokestatic 119, 3) := by decide +kernel
theorem dX4_inverse_68 : decode cX4_inverse 68 = .ok (.aload_n 0, 1) := by decide +kernel
theorem dX4_inverse_69 : decode cX4_inverse 69 = .ok (.aload 5, 2) := by decide +kernel
theorem dX4_inverse_71 : decode cX4_inverse 71 = .ok (.invokevirtual 65, 3) := by decide +kernel
theorem dX4_inverse_74 : decode cX4_inverse 74 = .ok (.aload 5, 2) := by decide +kernel
theorem dX4_inverse_76 : decode cX4_inverse 76 = .ok (.invokevirtual 113, 3) := by decide +kernel
theorem dX4_inverse_79 : decode cX4_inverse 79 = .ok (.ireturn, 1) := by decide +kernel
set_option maxRecDepth 20000 in
theorem ggX4_divide_X3_rowOf : GoodIn wsX4_divide wsX3_rowOf := goodIn_r _ [8, 9, 96] (by decide +kernel) (by decide +kernel)
set_option maxRecDepth 20000 in
theorem gX4_divide_X3_rowOf : GoodIn wsX4_divide (wsV RX4 57 RX3 yX3_rowOf wsX3_rowOf) := goodIn_app (goodIn_of _ (by decide +kernel)) ggX4_divide_X3_rowOf
set_option maxRecDepth 20000 in
theorem ggX4_divide_X2_degree : GoodIn wsX4_divide wsX2_degree := goodIn_r _ [14, 15, 16, 17, 18, 13, 19, 20, 97, 98] (by decide +kernel) (by decide +kernel)
set_option maxRecDepth 20000 in
theorem gX4_divide_X2_degree : GoodIn wsX4_divide (wsV RX4 113 RX2 yX2_degree wsX2_degree) := goodIn_app (goodIn_of _ (by decide +kernel)) ggX4_divide_X2_degree
set_option maxRecDepth 20000 in
theorem ggX4_divide_X4_divideRows : GoodIn wsX4_divide wsX4_divideRows := goodIn_r _ [24, 25, 26, 27, 28, 10, 11, 12, 13, 14, 15, 16, 17, 18, 19, 20, 29, 30, 31, 23, 32, 33, 34, 35, 36, 37, 38, 39, 40, 41, 42, 43, 44, 45, 46, 47, 48, 49, 50, 51, 52, 53, 54, 55, 56, 57, 58, 59, 60, 61, 62, 63, 64, 97, 98] (by decide +kernel) (by decide +kernel)
set_option maxRecDepth 20000 in
theorem gX4_divide_X4_divideRows : GoodIn wsX4_divide (va_wsS RX4 123 yX4_divideRows wsX4_divideRows) := goodIn_app (goodIn_of _ (by decide +kernel)) ggX4_divide_X4_divideRows
set_option maxRecDepth 20000 in
theorem ggX4_divide_X4_change : GoodIn wsX4_divide wsX4_change := goodIn_r _ [68, 69, 1, 2, 70, 71, 72, 73, 74, 75, 76, 77, 78, 79, 80, 81, 82, 83, 7, 84, 9, 85, 45, 46, 13, 47, 20, 48, 49, 50, 51, 15, 44, 86, 87, 88, 89, 90, 91, 92, 93, 94, 95, 99, 100, 96, 97, 98] (by decide +kernel) (by decide +kernel)
set_option maxRecDepth 20000 in
theorem gX4_divide_X4_change : GoodIn wsX4_divide (wsV RX4 65 RX4 yX4_change wsX4_change) := goodIn_app (goodIn_of _ (by decide +kernel)) ggX4_divide_X4_change
set_option maxRecDepth 20000 in
theorem ggX4_divide_X2_copyFrom : GoodIn wsX4_divide wsX2_copyFrom := goodIn_r _ [47, 20, 48, 49, 50, 51, 15, 97, 98] (by decide +kernel) (by decide +kernel)
set_option maxRecDepth 20000 in
theorem gX4_divide_X2_copyFrom : GoodIn wsX4_divide (wsV RX4 116 RX2 yX2_copyFrom wsX2_copyFrom) := goodIn_app (goodIn_of _ (by decide +kernel)) ggX4_divide_X2_copyFrom
theorem dX4_divide_0 : decode cX4_divide 0 = .ok (.aload_n 0, 1) := by decide +kernel
theorem dX4_divide_1 : decode cX4_divide 1 = .ok (.getfield 10, 3) := by decide +kernel
theorem dX4_divide_4 : decode cX4_divide 4 = .ok (.iload_n 1, 1) := by decide +kernel
theorem dX4_divide_5 : decode cX4_divide 5 = .ok (.invokevirtual 57, 3) := by decide +kernel
theorem dX4_divide_8 : decode cX4_divide 8 = .ok (.astore 5, 2) := by decide +kernel
theorem dX4_divide_10 : decode cX4_divide 10 = .ok (.aload_n 0, 1) := by decide +kernel
theorem dX4_divide_11 : decode cX4_divide 11 = .ok (.getfield 10, 3) := by decide +kernel
theorem dX4_divide_14 : decode cX4_divide 14 = .ok (.iload_n 2, 1) := by decide +kernel
theorem dX4_divide_15 : decode cX4_divide 15 = .ok (.invokevirtual 57, 3) := by decide +kernel
theorem dX4_divide_18 : decode cX4_divide 18 = .ok (.astore 6, 2) := by decide +kernel
theorem dX4_divide_20 : decode cX4_divide 20 = .ok (.aload_n 0, 1) := by decide +kernel
theorem dX4_divide_21 : decode cX4_divide 21 = .ok (.getfield 10, 3) := by decide +kernel
theorem dX4_divide_24 : decode cX4_divide 24 = .ok (.iload_n 3, 1) := by decide +kernel
theorem dX4_divide_25 : decode cX4_divide 25 = .ok (.invokevirtual 57, 3) := by decide +kernel
theorem dX4_divide_28 : decode cX4_divide 28 = .ok (.astore 7, 2) := by decide +kernel
theorem dX4_divide_30 : decode cX4_divide 30 = .ok (.aload_n 0, 1) := by decide +kernel
theorem dX4_divide_31 : decode cX4_divide 31 = .ok (.getfield 10, 3) := by decide +kernel
theorem dX4_divide_34 : decode cX4_divide 34 = .ok (.iload 4, 2) := by decide +kernel
theorem dX4_divide_36 : decode cX4_divide 36 = .ok (.invokevirtual 57, 3) := by decide +kernel
theorem dX4_divide_39 : decode cX4_divide 39 = .ok (.astore 8, 2) := by decide +kernel
theorem dX4_divide_41 : decode cX4_divide 41 = .ok (.aload 5, 2) := by decide +kernel
theorem dX4_divide_43 : decode cX4_divide 43 = .ok (.ifnull 18, 3) := by decide +kernel
theorem dX4_divide_46 : decode cX4_divide 46 = .ok (.aload 6, 2) := by decide +kernel
theorem dX4_divide_48 : decode cX4_divide 48 = .ok (.ifnull 13, 3) := by decide +kernel
theorem dX4_divide_51 : decode cX4_divide 51 = .ok (.aload 7, 2) := by decide +kernel
theorem dX4_divide_53 : decode cX4_divide 53 = .ok (.ifnull 8, 3) := by decide +kernel
theorem dX4_divide_56 : decode cX4_divide 56 = .ok (.aload 8, 2) := by decide +kernel
theorem dX4_divide_58 : decode cX4_divide 58 = .ok (.ifnonnull 5, 3) := by decide +kernel
theorem dX4_divide_61 : decode cX4_divide 61 = .ok (.iconst (-1), 1) := by decide +kernel
theorem dX4_divide_62 : decode cX4_divide 62 = .ok (.ireturn, 1) := by decide +kernel
theorem dX4_divide_63 : decode cX4_divide 63 = .ok (.iload_n 3, 1) := by decide +kernel
theorem dX4_divide_64 : decode cX4_divide 64 = .ok (.iload 4, 2) := by decide +kernel
theorem dX4_divide_66 : decode cX4_divide 66 = .ok (.if_icmp .ne 6, 3) := by decide +kernel
theorem dX4_divide_69 : decode cX4_divide 69 = .ok (.bipush (-2), 2) := by decide +kernel
theorem dX4_divide_71 : decode cX4_divide 71 = .ok (.ireturn, 1) := by decide +kernel
theorem dX4_divide_72 : decode cX4_divide 72 = .ok (.aload 6, 2) := by decide +kernel
theorem dX4_divide_74 : decode cX4_divide 74 = .ok (.invokevirtual 113, 3) := by decide +kernel
theorem dX4_divide_77 : decode cX4_divide 77 = .ok (.bipush (-6), 2) := by decide +kernel
theorem dX4_divide_79 : decode cX4_divide 79 = .ok (.if_icmp .ne 6, 3) := by decide +kernel
theorem dX4_divide_82 : decode cX4_divide 82 = .ok (.bipush (-5), 2) := by decide +kernel
theorem dX4_divide_84 : decode cX4_divide 84 = .ok (.ireturn, 1) := by decide +kernel
theorem dX4_divide_85 : decode cX4_divide 85 = .ok (.aload 5, 2) := by decide +kernel
theorem dX4_divide_87 : decode cX4_divide 87 = .ok (.aload 6, 2) := by decide +kernel
theorem dX4_divide_89 : decode cX4_divide 89 = .ok (.aload_n 0, 1) := by decide +kernel
theorem dX4_divide_90 : decode cX4_divide 90 = .ok (.getfield 41, 3) := by decide +kernel
theorem dX4_divide_93 : decode cX4_divide 93 = .ok (.aload_n 0, 1) := by decide +kernel
theorem dX4_divide_94 : decode cX4_divide 94 = .ok (.getfield 45, 3) := by decide +kernel
theorem dX4_divide_97 : decode cX4_divide 97 = .ok (.invokestatic 123, 3) := by decide +kernel
theorem dX4_divide_100 : decode cX4_divide 100 = .ok (.aload_n 0, 1) := by decide +kernel
theorem dX4_divide_101 : decode cX4_divide 101 = .ok (.aload 7, 2) := by decide +kernel
theorem dX4_divide_103 : decode cX4_divide 103 = .ok (.invokevirtual 65, 3) := by decide +kernel
theorem dX4_divide_106 : decode cX4_divide 106 = .ok (.aload 8, 2) := by decide +kernel
theorem dX4_divide_108 : decode cX4_divide 108 = .ok (.aload_n 0, 1) := by decide +kernel
theorem dX4_divide_109 : decode cX4_divide 109 = .ok (.getfield 45, 3) := by decide +kernel
theorem dX4_divide_112 : decode cX4_divide 112 = .ok (.invokevirtual 116, 3) := by decide +kernel
theorem dX4_divide_115 : decode cX4_divide 115 = .ok (.aload 8, 2) := by decide +kernel
theorem dX4_divide_117 : decode cX4_divide 117 = .ok (.invokevirtual 113, 3) := by decide +kernel
theorem dX4_divide_120 : decode cX4_divide 120 = .ok (.ireturn, 1) := by decide +kernel
set_option maxRecDepth 20000 in
theorem ggX4_divisor_X3_rowOf : GoodIn wsX4_divisor wsX3_rowOf := goodIn_r _ [6, 7, 107] (by decide +kernel) (by decide +kernel)
set_option maxRecDepth 20000 in
theorem gX4_divisor_X3_rowOf : GoodIn wsX4_divisor (wsV RX4 57 RX3 yX3_rowOf wsX3_rowOf) := goodIn_app (goodIn_of _ (by decide +kernel)) ggX4_divisor_X3_rowOf
set_option maxRecDepth 20000 in
theorem ggX4_divisor_X2_degree : GoodIn wsX4_divisor wsX2_degree := goodIn_r _ [12, 13, 14, 15, 16, 11, 17, 18, 108, 109] (by decide +kernel) (by decide +kernel)
set_option maxRecDepth 20000 in
theorem gX4_divisor_X2_degree : GoodIn wsX4_divisor (wsV RX4 113 RX2 yX2_degree wsX2_degree) := goodIn_app (goodIn_of _ (by decide +kernel)) ggX4_divisor_X2_degree
set_option maxRecDepth 20000 in
theorem ggX4_divisor_X4_makeGreatestDivisor : GoodIn wsX4_divisor wsX4_makeGreatestDivisor := goodIn_r _ [23, 24, 25, 26, 27, 28, 29, 30, 31, 11, 32, 18, 33, 34, 35, 36, 13, 8, 9, 10, 12, 14, 15, 16, 17, 37, 38, 22, 39, 40, 41, 42, 43, 44, 45, 46, 47, 48, 49, 50, 51, 52, 53, 54, 55, 56, 57, 58, 59, 60, 61, 62, 63, 64, 65, 66, 67, 68, 69, 70, 71, 72, 73, 74, 75, 97, 98, 99, 100, 101, 102, 103, 104, 105, 106, 108, 109] (by decide +kernel) (by decide +kernel)
set_option maxRecDepth 20000 in
theorem gX4_divisor_X4_makeGreatestDivisor : GoodIn wsX4_divisor (wsV RX4 127 RX4 yX4_makeGreatestDivisor wsX4_makeGreatestDivisor) := goodIn_app (goodIn_of _ (by decide +kernel)) ggX4_divisor_X4_makeGreatestDivisor
set_option maxRecDepth 20000 in
theorem ggX4_divisor_X4_change : GoodIn wsX4_divisor wsX4_change := goodIn_r _ [79, 80, 1, 28, 81, 82, 83, 84, 85, 86, 87, 88, 89, 90, 91, 92, 93, 94, 5, 95, 7, 96, 30, 31, 11, 32, 18, 33, 34, 35, 36, 13, 29, 97, 98, 99, 100, 101, 102, 103, 104, 105, 106, 110, 111, 107, 108, 109] (by decide +kernel) (by decide +kernel)
set_option maxRecDepth 20000 in
theorem gX4_divisor_X4_change : GoodIn wsX4_divisor (wsV RX4 65 RX4 yX4_change wsX4_change) := goodIn_app (goodIn_of _ (by decide +kernel)) ggX4_divisor_X4_change
theorem dX4_divisor_0 : decode cX4_divisor 0 = .ok (.aload_n 0, 1) := by decide +kernel
theorem dX4_divisor_1 : decode cX4_divisor 1 = .ok (.getfield 10, 3) := by decide +kernel
theorem dX4_divisor_4 : decode cX4_divisor 4 = .ok (.iload_n 1, 1) := by decide +kernel
theorem dX4_divisor_5 : decode cX4_divisor 5 = .ok (.invokevirtual 57, 3) := by decide +kernel
theorem dX4_divisor_8 : decode cX4_divisor 8 = .ok (.astore 4, 2) := by decide +kernel
theorem dX4_divisor_10 : decode cX4_divisor 10 = .ok (.aload_n 0, 1) := by decide +kernel
theorem dX4_divisor_11 : decode cX4_divisor 11 = .ok (.getfield 10, 3) := by decide +kernel
theorem dX4_divisor_14 : decode cX4_divisor 14 = .ok (.iload_n 2, 1) := by decide +kernel
theorem dX4_divisor_15 : decode cX4_divisor 15 = .ok (.invokevirtual 57, 3) := by decide +kernel
theorem dX4_divisor_18 : decode cX4_divisor 18 = .ok (.astore 5, 2) := by decide +kernel
theorem dX4_divisor_20 : decode cX4_divisor 20 = .ok (.aload_n 0, 1) := by decide +kernel
theorem dX4_divisor_21 : decode cX4_divisor 21 = .ok (.getfield 10, 3) := by decide +kernel
theorem dX4_divisor_24 : decode cX4_divisor 24 = .ok (.iload_n 3, 1) := by decide +kernel
theorem dX4_divisor_25 : decode cX4_divisor 25 = .ok (.invokevirtual 57, 3) := by decide +kernel
theorem dX4_divisor_28 : decode cX4_divisor 28 = .ok (.astore 6, 2) := by decide +kernel
theorem dX4_divisor_30 : decode cX4_divisor 30 = .ok (.aload 4, 2) := by decide +kernel
theorem dX4_divisor_32 : decode cX4_divisor 32 = .ok (.ifnull 13, 3) := by decide +kernel
theorem dX4_divisor_35 : decode cX4_divisor 35 = .ok (.aload 5, 2) := by decide +kernel
theorem dX4_divisor_37 : decode cX4_divisor 37 = .ok (.ifnull 8, 3) := by decide +kernel
theorem dX4_divisor_40 : decode cX4_divisor 40 = .ok (.aload 6, 2) := by decide +kernel
theorem dX4_divisor_42 : decode cX4_divisor 42 = .ok (.ifnonnull 5, 3) := by decide +kernel
theorem dX4_divisor_45 : decode cX4_divisor 45 = .ok (.iconst (-1), 1) := by decide +kernel
theorem dX4_divisor_46 : decode cX4_divisor 46 = .ok (.ireturn, 1) := by decide +kernel
theorem dX4_divisor_47 : decode cX4_divisor 47 = .ok (.aload 4, 2) := by decide +kernel
theorem dX4_divisor_49 : decode cX4_divisor 49 = .ok (.invokevirtual 113, 3) := by decide +kernel
theorem dX4_divisor_52 : decode cX4_divisor 52 = .ok (.bipush (-6), 2) := by decide +kernel
theorem dX4_divisor_54 : decode cX4_divisor 54 = .ok (.if_icmp .ne 16, 3) := by decide +kernel
theorem dX4_divisor_57 : decode cX4_divisor 57 = .ok (.aload 5, 2) := by decide +kernel
theorem dX4_divisor_59 : decode cX4_divisor 59 = .ok (.invokevirtual 113, 3) := by decide +kernel
theorem dX4_divisor_62 : decode cX4_divisor 62 = .ok (.bipush (-6), 2) := by decide +kernel
theorem dX4_divisor_64 : decode cX4_divisor 64 = .ok (.if_icmp .ne 6, 3) := by decide +kernel
theorem dX4_divisor_67 : decode cX4_divisor 67 = .ok (.bipush (-5), 2) := by decide +kernel
theorem dX4_divisor_69 : decode cX4_divisor 69 = .ok (.ireturn, 1) := by decide +kernel
theorem dX4_divisor_70 : decode cX4_divisor 70 = .ok (.aload_n 0, 1) := by decide +kernel
theorem dX4_divisor_71 : decode cX4_divisor 71 = .ok (.aload 4, 2) := by decide +kernel
theorem dX4_divisor_73 : decode cX4_divisor 73 = .ok (.aload 5, 2) := by decide +kernel
theorem dX4_divisor_75 : decode cX4_divisor 75 = .ok (.invokevirtual 127, 3) := by decide +kernel
theorem dX4_divisor_78 : decode cX4_divisor 78 = .ok (.aload_n 0, 1) := by decide +kernel
theorem dX4_divisor_79 : decode cX4_divisor 79 = .ok (.aload 6, 2) := by decide +kernel
theorem dX4_divisor_81 : decode cX4_divisor 81 = .ok (.invokevirtual 65, 3) := by decide +kernel
theorem dX4_divisor_84 : decode cX4_divisor 84 = .ok (.aload 6, 2) := by decide +kernel
theorem dX4_divisor_86 : decode cX4_divisor 86 = .ok (.invokevirtual 113, 3) := by decide +kernel
theorem dX4_divisor_89 : decode cX4_divisor 89 = .ok (.ireturn, 1) := by decide +kernel
set_option maxRecDepth 20000 in
theorem ggX4_turn_X3_rowOf : GoodIn wsX4_turn wsX3_rowOf := goodIn_r _ [7, 8, 93] (by decide +kernel) (by decide +kernel)
set_option maxRecDepth 20000 in
theorem gX4_turn_X3_rowOf : GoodIn wsX4_turn (wsV RX4 57 RX3 yX3_rowOf wsX3_rowOf) := goodIn_app (goodIn_of _ (by decide +kernel)) ggX4_turn_X3_rowOf
set_option maxRecDepth 20000 in
theorem ggX4_turn_X4_pointOf : GoodIn wsX4_turn wsX4_pointOf := goodIn_r _ [12, 13, 14, 11, 15] (by decide +kernel) (by decide +kernel)
set_option maxRecDepth 20000 in
theorem gX4_turn_X4_pointOf : GoodIn wsX4_turn (va_wsS RX4 131 yX4_pointOf wsX4_pointOf) := goodIn_app (goodIn_of _ (by decide +kernel)) ggX4_turn_X4_pointOf
set_option maxRecDepth 20000 in
theorem ggX4_turn_X2_length : GoodIn wsX4_turn wsX2_length := goodIn_r _ [20, 21, 94, 95] (by decide +kernel) (by decide +kernel)
set_option maxRecDepth 20000 in
theorem gX4_turn_X2_length : GoodIn wsX4_turn (wsV RX4 72 RX2 yX2_length wsX2_length) := goodIn_app (goodIn_of _ (by decide +kernel)) ggX4_turn_X2_length
set_option maxRecDepth 20000 in
theorem ggX4_turn_X4_turnAround : GoodIn wsX4_turn wsX4_turnAround := goodIn_r _ [24, 25, 26, 27, 19, 28, 29, 21, 30, 31, 32, 33, 34, 35, 36, 37, 38, 39, 40, 41, 42, 43, 44, 45, 46, 47, 48, 49, 94, 95] (by decide +kernel) (by decide +kernel)
set_option maxRecDepth 20000 in
theorem gX4_turn_X4_turnAround : GoodIn wsX4_turn (va_wsS RX4 134 yX4_turnAround wsX4_turnAround) := goodIn_app (goodIn_of _ (by decide +kernel)) ggX4_turn_X4_turnAround
set_option maxRecDepth 20000 in
theorem ggX4_turn_X4_change : GoodIn wsX4_turn wsX4_change := goodIn_r _ [53, 54, 1, 2, 55, 56, 57, 58, 59, 60, 61, 62, 63, 64, 65, 66, 67, 68, 6, 69, 8, 70, 71, 72, 19, 73, 29, 74, 75, 76, 77, 21, 78, 83, 84, 85, 86, 87, 88, 89, 90, 91, 92, 96, 97, 93, 94, 95] (by decide +kernel) (by decide +kernel)
set_option maxRecDepth 20000 in
theorem gX4_turn_X4_change : GoodIn wsX4_turn (wsV RX4 65 RX4 yX4_change wsX4_change) := goodIn_app (goodIn_of _ (by decide +kernel)) ggX4_turn_X4_change
set_option maxRecDepth 20000 in
theorem ggX4_turn_X2_countNotZero : GoodIn wsX4_turn wsX2_countNotZero := goodIn_r _ [82, 21, 38, 39, 40, 19, 41, 29, 94, 95] (by decide +kernel) (by decide +kernel)
set_option maxRecDepth 20000 in
theorem gX4_turn_X2_countNotZero : GoodIn wsX4_turn (wsV RX4 138 RX2 yX2_countNotZero wsX2_countNotZero) := goodIn_app (goodIn_of _ (by decide +kernel)) ggX4_turn_X2_countNotZero
theorem dX4_turn_0 : decode cX4_turn 0 = .ok (.aload_n 0, 1) := by decide +kernel
theorem dX4_turn_1 : decode cX4_turn 1 = .ok (.getfield 10, 3) := by decide +kernel
theorem dX4_turn_4 : decode cX4_turn 4 = .ok (.iload_n 1, 1) := by decide +kernel
theorem dX4_turn_5 : decode cX4_turn 5 = .ok (.invokevirtual 57, 3) := by decide +kernel
theorem dX4_turn_8 : decode cX4_turn 8 = .ok (.astore 4, 2) := by decide +kernel
theorem dX4_turn_10 : decode cX4_turn 10 = .ok (.aload_n 0, 1) := by decide +kernel
theorem dX4_turn_11 : decode cX4_turn 11 = .ok (.getfield 10, 3) := by decide +kernel
theorem dX4_turn_14 : decode cX4_turn 14 = .ok (.iload_n 3, 1) := by decide +kernel
theorem dX4_turn_15 : decode cX4_turn 15 = .ok (.invokevirtual 57, 3) := by decide +kernel
theorem dX4_turn_18 : decode cX4_turn 18 = .ok (.astore 5, 2) := by decide +kernel
theorem dX4_turn_20 : decode cX4_turn 20 = .ok (.aload 4, 2) := by decide +kernel
theorem dX4_turn_22 : decode cX4_turn 22 = .ok (.ifnull 8, 3) := by decide +kernel
theorem dX4_turn_25 : decode cX4_turn 25 = .ok (.aload 5, 2) := by decide +kernel
theorem dX4_turn_27 : decode cX4_turn 27 = .ok (.ifnonnull 5, 3) := by decide +kernel
theorem dX4_turn_30 : decode cX4_turn 30 = .ok (.iconst (-1), 1) := by decide +kernel
theorem dX4_turn_31 : decode cX4_turn 31 = .ok (.ireturn, 1) := by decide +kernel
theorem dX4_turn_32 : decode cX4_turn 32 = .ok (.iload_n 2, 1) := by decide +kernel
theorem dX4_turn_33 : decode cX4_turn 33 = .ok (.invokestatic 131, 3) := by decide +kernel
theorem dX4_turn_36 : decode cX4_turn 36 = .ok (.istore 6, 2) := by decide +kernel
theorem dX4_turn_38 : decode cX4_turn 38 = .ok (.iload 6, 2) := by decide +kernel
theorem dX4_turn_40 : decode cX4_turn 40 = .ok (.bipush (-6), 2) := by decide +kernel
theorem dX4_turn_42 : decode cX4_turn 42 = .ok (.if_icmp .ne 6, 3) := by decide +kernel
theorem dX4_turn_45 : decode cX4_turn 45 = .ok (.bipush (-2), 2) := by decide +kernel
theorem dX4_turn_47 : decode cX4_turn 47 = .ok (.ireturn, 1) := by decide +kernel
theorem dX4_turn_48 : decode cX4_turn 48 = .ok (.aload 4, 2) := by decide +kernel
theorem dX4_turn_50 : decode cX4_turn 50 = .ok (.invokevirtual 72, 3) := by decide +kernel
theorem dX4_turn_53 : decode cX4_turn 53 = .ok (.iload_n 2, 1) := by decide +kernel
theorem dX4_turn_54 : decode cX4_turn 54 = .ok (.if_icmp .le 6, 3) := by decide +kernel
theorem dX4_turn_57 : decode cX4_turn 57 = .ok (.bipush (-5), 2) := by decide +kernel
theorem dX4_turn_59 : decode cX4_turn 59 = .ok (.ireturn, 1) := by decide +kernel
theorem dX4_turn_60 : decode cX4_turn 60 = .ok (.aload 4, 2) := by decide +kernel
theorem dX4_turn_62 : decode cX4_turn 62 = .ok (.iload_n 2, 1) := by decide +kernel
theorem dX4_turn_63 : decode cX4_turn 63 = .ok (.iload 6, 2) := by decide +kernel
theorem dX4_turn_65 : decode cX4_turn 65 = .ok (.aload_n 0, 1) := by decide +kernel
theorem dX4_turn_66 : decode cX4_turn 66 = .ok (.getfield 41, 3) := by decide +kernel
theorem dX4_turn_69 : decode cX4_turn 69 = .ok (.invokestatic 134, 3) := by decide +kernel
theorem dX4_turn_72 : decode cX4_turn 72 = .ok (.aload_n 0, 1) := by decide +kernel
theorem dX4_turn_73 : decode cX4_turn 73 = .ok (.aload 5, 2) := by decide +kernel
theorem dX4_turn_75 : decode cX4_turn 75 = .ok (.invokevirtual 65, 3) := by decide +kernel
theorem dX4_turn_78 : decode cX4_turn 78 = .ok (.aload 5, 2) := by decide +kernel
theorem dX4_turn_80 : decode cX4_turn 80 = .ok (.invokevirtual 72, 3) := by decide +kernel
theorem dX4_turn_83 : decode cX4_turn 83 = .ok (.aload 5, 2) := by decide +kernel
theorem dX4_turn_85 : decode cX4_turn 85 = .ok (.invokevirtual 138, 3) := by decide +kernel
theorem dX4_turn_88 : decode cX4_turn 88 = .ok (.isub, 1) := by decide +kernel
theorem dX4_turn_89 : decode cX4_turn 89 = .ok (.ireturn, 1) := by decide +kernel
set_option maxRecDepth 20000 in
theorem ggX4_turnBack_X3_rowOf : GoodIn wsX4_turnBack wsX3_rowOf := goodIn_r _ [7, 8, 101] (by decide +kernel) (by decide +kernel)
set_option maxRecDepth 20000 in
theorem gX4_turnBack_X3_rowOf : GoodIn wsX4_turnBack (wsV RX4 57 RX3 yX3_rowOf wsX3_rowOf) := goodIn_app (goodIn_of _ (by decide +kernel)) ggX4_turnBack_X3_rowOf
set_option maxRecDepth 20000 in
theorem ggX4_turnBack_X2_length : GoodIn wsX4_turnBack wsX2_length := goodIn_r _ [13, 14, 102, 103] (by decide +kernel) (by decide +kernel)
set_option maxRecDepth 20000 in
theorem gX4_turnBack_X2_length : GoodIn wsX4_turnBack (wsV RX4 72 RX2 yX2_length wsX2_length) := goodIn_app (goodIn_of _ (by decide +kernel)) ggX4_turnBack_X2_length
set_option maxRecDepth 20000 in
theorem ggX4_turnBack_X4_pointOf : GoodIn wsX4_turnBack wsX4_pointOf := goodIn_r _ [18, 19, 20, 17, 21] (by decide +kernel) (by decide +kernel)
set_option maxRecDepth 20000 in
theorem gX4_turnBack_X4_pointOf : GoodIn wsX4_turnBack (va_wsS RX4 131 yX4_pointOf wsX4_pointOf) := goodIn_app (goodIn_of _ (by decide +kernel)) ggX4_turnBack_X4_pointOf
set_option maxRecDepth 20000 in
theorem ggX4_turnBack_X4_inverseOf : GoodIn wsX4_turnBack wsX4_inverseOf := goodIn_r _ [24, 19, 20, 17, 21] (by decide +kernel) (by decide +kernel)
set_option maxRecDepth 20000 in
theorem gX4_turnBack_X4_inverseOf : GoodIn wsX4_turnBack (va_wsS RX4 141 yX4_inverseOf wsX4_inverseOf) := goodIn_app (goodIn_of _ (by decide +kernel)) ggX4_turnBack_X4_inverseOf
set_option maxRecDepth 20000 in
theorem ggX4_turnBack_X4_turnAround : GoodIn wsX4_turnBack wsX4_turnAround := goodIn_r _ [27, 28, 29, 30, 12, 31, 32, 14, 33, 34, 35, 36, 37, 38, 39, 40, 41, 42, 43, 44, 45, 46, 47, 48, 49, 50, 51, 52, 102, 103] (by decide +kernel) (by decide +kernel)
set_option maxRecDepth 20000 in
theorem gX4_turnBack_X4_turnAround : GoodIn wsX4_turnBack (va_wsS RX4 134 yX4_turnAround wsX4_turnAround) := goodIn_app (goodIn_of _ (by decide +kernel)) ggX4_turnBack_X4_turnAround
set_option maxRecDepth 20000 in
theorem ggX4_turnBack_X2_scale : GoodIn wsX4_turnBack wsX2_scale := goodIn_r _ [56, 14, 41, 42, 43, 12, 44, 32, 57, 46, 47, 48, 49, 50, 51, 52, 102, 103] (by decide +kernel) (by decide +kernel)
set_option maxRecDepth 20000 in
theorem gX4_turnBack_X2_scale : GoodIn wsX4_turnBack (wsV RX4 144 RX2 yX2_scale wsX2_scale) := goodIn_app (goodIn_of _ (by decide +kernel)) ggX4_turnBack_X2_scale
set_option maxRecDepth 20000 in
theorem ggX4_turnBack_X4_change : GoodIn wsX4_turnBack wsX4_change := goodIn_r _ [61, 62, 1, 2, 63, 64, 65, 66, 67, 68, 69, 70, 71, 72, 73, 74, 75, 76, 6, 77, 8, 78, 79, 80, 12, 81, 32, 82, 83, 84, 85, 14, 86, 91, 92, 93, 94, 95, 96, 97, 98, 99, 100, 104, 105, 101, 102, 103] (by decide +kernel) (by decide +kernel)
set_option maxRecDepth 20000 in
theorem gX4_turnBack_X4_change : GoodIn wsX4_turnBack (wsV RX4 65 RX4 yX4_change wsX4_change) := goodIn_app (goodIn_of _ (by decide +kernel)) ggX4_turnBack_X4_change
set_option maxRecDepth 20000 in
theorem ggX4_turnBack_X2_degree : GoodIn wsX4_turnBack wsX2_degree := goodIn_r _ [90, 14, 41, 42, 43, 12, 44, 32, 102, 103] (by decide +kernel) (by decide +kernel)
set_option maxRecDepth 20000 in
theorem gX4_turnBack_X2_degree : GoodIn wsX4_turnBack (wsV RX4 113 RX2 yX2_degree wsX2_degree) := goodIn_app (goodIn_of _ (by decide +kernel)) ggX4_turnBack_X2_degree
theorem dX4_turnBack_0 : decode cX4_turnBack 0 = .ok (.aload_n 0, 1) := by decide +kernel
theorem dX4_turnBack_1 : decode cX4_turnBack 1 = .ok (.getfield 10, 3) := by decide +kernel
theorem dX4_turnBack_4 : decode cX4_turnBack 4 = .ok (.iload_n 1, 1) := by decide +kernel
theorem dX4_turnBack_5 : decode cX4_turnBack 5 = .ok (.invokevirtual 57, 3) := by decide +kernel
theorem dX4_turnBack_8 : decode cX4_turnBack 8 = .ok (.astore_n 3, 1) := by decide +kernel
theorem dX4_turnBack_9 : decode cX4_turnBack 9 = .ok (.aload_n 0, 1) := by decide +kernel
theorem dX4_turnBack_10 : decode cX4_turnBack 10 = .ok (.getfield 10, 3) := by decide +kernel
theorem dX4_turnBack_13 : decode cX4_turnBack 13 = .ok (.iload_n 2, 1) := by decide +kernel
theorem dX4_turnBack_14 : decode cX4_turnBack 14 = .ok (.invokevirtual 57, 3) := by decide +kernel
theorem dX4_turnBack_17 : decode cX4_turnBack 17 = .ok (.astore 4, 2) := by decide +kernel
theorem dX4_turnBack_19 : decode cX4_turnBack 19 = .ok (.aload_n 3, 1) := by decide +kernel
theorem dX4_turnBack_20 : decode cX4_turnBack 20 = .ok (.ifnull 8, 3) := by decide +kernel
theorem dX4_turnBack_23 : decode cX4_turnBack 23 = .ok (.aload 4, 2) := by decide +kernel
theorem dX4_turnBack_25 : decode cX4_turnBack 25 = .ok (.ifnonnull 5, 3) := by decide +kernel
theorem dX4_turnBack_28 : decode cX4_turnBack 28 = .ok (.iconst (-1), 1) := by decide +kernel
theorem dX4_turnBack_29 : decode cX4_turnBack 29 = .ok (.ireturn, 1) := by decide +kernel
theorem dX4_turnBack_30 : decode cX4_turnBack 30 = .ok (.aload_n 3, 1) := by decide +kernel
theorem dX4_turnBack_31 : decode cX4_turnBack 31 = .ok (.invokevirtual 72, 3) := by decide +kernel
theorem dX4_turnBack_34 : decode cX4_turnBack 34 = .ok (.istore 5, 2) := by decide +kernel
theorem dX4_turnBack_36 : decode cX4_turnBack 36 = .ok (.iload 5, 2) := by decide +kernel
theorem dX4_turnBack_38 : decode cX4_turnBack 38 = .ok (.invokestatic 131, 3) := by decide +kernel
theorem dX4_turnBack_41 : decode cX4_turnBack 41 = .ok (.istore 6, 2) := by decide +kernel
theorem dX4_turnBack_43 : decode cX4_turnBack 43 = .ok (.iload 6, 2) := by decide +kernel
theorem dX4_turnBack_45 : decode cX4_turnBack 45 = .ok (.bipush (-6), 2) := by decide +kernel
theorem dX4_turnBack_47 : decode cX4_turnBack 47 = .ok (.if_icmp .ne 6, 3) := by decide +kernel
theorem dX4_turnBack_50 : decode cX4_turnBack 50 = .ok (.bipush (-5), 2) := by decide +kernel
theorem dX4_turnBack_52 : decode cX4_turnBack 52 = .ok (.ireturn, 1) := by decide +kernel
theorem dX4_turnBack_53 : decode cX4_turnBack 53 = .ok (.aload_n 3, 1) := by decide +kernel
theorem dX4_turnBack_54 : decode cX4_turnBack 54 = .ok (.iload 5, 2) := by decide +kernel
theorem dX4_turnBack_56 : decode cX4_turnBack 56 = .ok (.iload 6, 2) := by decide +kernel
theorem dX4_turnBack_58 : decode cX4_turnBack 58 = .ok (.invokestatic 141, 3) := by decide +kernel
theorem dX4_turnBack_61 : decode cX4_turnBack 61 = .ok (.aload_n 0, 1) := by decide +kernel
theorem dX4_turnBack_62 : decode cX4_turnBack 62 = .ok (.getfield 41, 3) := by decide +kernel
theorem dX4_turnBack_65 : decode cX4_turnBack 65 = .ok (.invokestatic 134, 3) := by decide +kernel
theorem dX4_turnBack_68 : decode cX4_turnBack 68 = .ok (.aload_n 0, 1) := by decide +kernel
theorem dX4_turnBack_69 : decode cX4_turnBack 69 = .ok (.getfield 41, 3) := by decide +kernel
theorem dX4_turnBack_72 : decode cX4_turnBack 72 = .ok (.iload 5, 2) := by decide +kernel
theorem dX4_turnBack_74 : decode cX4_turnBack 74 = .ok (.invokestatic 141, 3) := by decide +kernel
theorem dX4_turnBack_77 : decode cX4_turnBack 77 = .ok (.invokevirtual 144, 3) := by decide +kernel
theorem dX4_turnBack_80 : decode cX4_turnBack 80 = .ok (.aload_n 0, 1) := by decide +kernel
theorem dX4_turnBack_81 : decode cX4_turnBack 81 = .ok (.aload 4, 2) := by decide +kernel
theorem dX4_turnBack_83 : decode cX4_turnBack 83 = .ok (.invokevirtual 65, 3) := by decide +kernel
theorem dX4_turnBack_86 : decode cX4_turnBack 86 = .ok (.aload 4, 2) := by decide +kernel
theorem dX4_turnBack_88 : decode cX4_turnBack 88 = .ok (.invokevirtual 113, 3) := by decide +kernel
theorem dX4_turnBack_91 : decode cX4_turnBack 91 = .ok (.ireturn, 1) := by decide +kernel
set_option maxRecDepth 20000 in
theorem ggX4_number_X3_rowOf : GoodIn wsX4_number wsX3_rowOf := goodIn_r _ [6, 7, 29] (by decide +kernel) (by decide +kernel)
set_option maxRecDepth 20000 in
theorem gX4_number_X3_rowOf : GoodIn wsX4_number (wsV RX4 57 RX3 yX3_rowOf wsX3_rowOf) := goodIn_app (goodIn_of _ (by decide +kernel)) ggX4_number_X3_rowOf
set_option maxRecDepth 20000 in
theorem ggX4_number_X2_length : GoodIn wsX4_number wsX2_length := goodIn_r _ [12, 13, 30, 31] (by decide +kernel) (by decide +kernel)
set_option maxRecDepth 20000 in
theorem gX4_number_X2_length : GoodIn wsX4_number (wsV RX4 72 RX2 yX2_length wsX2_length) := goodIn_app (goodIn_of _ (by decide +kernel)) ggX4_number_X2_length
set_option maxRecDepth 20000 in
theorem ggX4_number_X2_at : GoodIn wsX4_number wsX2_at := goodIn_r _ [17, 18, 30, 31] (by decide +kernel) (by decide +kernel)
set_option maxRecDepth 20000 in
theorem gX4_number_X2_at : GoodIn wsX4_number (wsV RX4 101 RX2 yX2_at wsX2_at) := goodIn_app (goodIn_of _ (by decide +kernel)) ggX4_number_X2_at
theorem dX4_number_0 : decode cX4_number 0 = .ok (.aload_n 0, 1) := by decide +kernel
theorem dX4_number_1 : decode cX4_number 1 = .ok (.getfield 10, 3) := by decide +kernel
theorem dX4_number_4 : decode cX4_number 4 = .ok (.iload_n 1, 1) := by decide +kernel
theorem dX4_number_5 : decode cX4_number 5 = .ok (.invokevirtual 57, 3) := by decide +kernel
theorem dX4_number_8 : decode cX4_number 8 = .ok (.astore_n 3, 1) := by decide +kernel
theorem dX4_number_9 : decode cX4_number 9 = .ok (.aload_n 3, 1) := by decide +kernel
theorem dX4_number_10 : decode cX4_number 10 = .ok (.ifnull 15, 3) := by decide +kernel
theorem dX4_number_13 : decode cX4_number 13 = .ok (.iload_n 2, 1) := by decide +kernel
theorem dX4_number_14 : decode cX4_number 14 = .ok (.ifCond .lt 11, 3) := by decide +kernel
theorem dX4_number_17 : decode cX4_number 17 = .ok (.iload_n 2, 1) := by decide +kernel
theorem dX4_number_18 : decode cX4_number 18 = .ok (.aload_n 3, 1) := by decide +kernel
theorem dX4_number_19 : decode cX4_number 19 = .ok (.invokevirtual 72, 3) := by decide +kernel
theorem dX4_number_22 : decode cX4_number 22 = .ok (.if_icmp .lt 5, 3) := by decide +kernel
theorem dX4_number_25 : decode cX4_number 25 = .ok (.iconst (-1), 1) := by decide +kernel
theorem dX4_number_26 : decode cX4_number 26 = .ok (.ireturn, 1) := by decide +kernel
theorem dX4_number_27 : decode cX4_number 27 = .ok (.aload_n 3, 1) := by decide +kernel
theorem dX4_number_28 : decode cX4_number 28 = .ok (.iload_n 2, 1) := by decide +kernel
theorem dX4_number_29 : decode cX4_number 29 = .ok (.invokevirtual 101, 3) := by decide +kernel
theorem dX4_number_32 : decode cX4_number 32 = .ok (.ireturn, 1) := by decide +kernel
set_option maxRecDepth 20000 in
theorem ggX4_of_X3_rowOf : GoodIn wsX4_of wsX3_rowOf := goodIn_r _ [6, 7, 53] (by decide +kernel) (by decide +kernel)
set_option maxRecDepth 20000 in
theorem gX4_of_X3_rowOf : GoodIn wsX4_of (wsV RX4 57 RX3 yX3_rowOf wsX3_rowOf) := goodIn_app (goodIn_of _ (by decide +kernel)) ggX4_of_X3_rowOf
set_option maxRecDepth 20000 in
theorem ggX4_of_X2_length : GoodIn wsX4_of wsX2_length := goodIn_r _ [12, 13, 54, 55] (by decide +kernel) (by decide +kernel)
set_option maxRecDepth 20000 in
theorem gX4_of_X2_length : GoodIn wsX4_of (wsV RX4 72 RX2 yX2_length wsX2_length) := goodIn_app (goodIn_of _ (by decide +kernel)) ggX4_of_X2_length
set_option maxRecDepth 20000 in
theorem ggX4_of_X2_degree : GoodIn wsX4_of wsX2_degree := goodIn_r _ [17, 13, 18, 19, 20, 11, 21, 22, 54, 55] (by decide +kernel) (by decide +kernel)
set_option maxRecDepth 20000 in
theorem gX4_of_X2_degree : GoodIn wsX4_of (wsV RX4 113 RX2 yX2_degree wsX2_degree) := goodIn_app (goodIn_of _ (by decide +kernel)) ggX4_of_X2_degree
set_option maxRecDepth 20000 in
theorem ggX4_of_X2_countNotZero : GoodIn wsX4_of wsX2_countNotZero := goodIn_r _ [26, 13, 18, 19, 20, 11, 21, 22, 54, 55] (by decide +kernel) (by decide +kernel)
set_option maxRecDepth 20000 in
theorem gX4_of_X2_countNotZero : GoodIn wsX4_of (wsV RX4 138 RX2 yX2_countNotZero wsX2_countNotZero) := goodIn_app (goodIn_of _ (by decide +kernel)) ggX4_of_X2_countNotZero
set_option maxRecDepth 20000 in
theorem ggX4_of_X2_total : GoodIn wsX4_of wsX2_total := goodIn_r _ [30, 13, 18, 19, 20, 11, 21, 22, 54, 55] (by decide +kernel) (by decide +kernel)
set_option maxRecDepth 20000 in
theorem gX4_of_X2_total : GoodIn wsX4_of (wsV RX4 147 RX2 yX2_total wsX2_total) := goodIn_app (goodIn_of _ (by decide +kernel)) ggX4_of_X2_total
set_option maxRecDepth 20000 in
theorem ggX4_of_X2_countRoots : GoodIn wsX4_of wsX2_countRoots := goodIn_r _ [34, 35, 36, 37, 11, 38, 13, 18, 19, 20, 21, 22, 54, 55] (by decide +kernel) (by decide +kernel)
set_option maxRecDepth 20000 in
theorem gX4_of_X2_countRoots : GoodIn wsX4_of (wsV RX4 150 RX2 yX2_countRoots wsX2_countRoots) := goodIn_app (goodIn_of _ (by decide +kernel)) ggX4_of_X2_countRoots
set_option maxRecDepth 20000 in
theorem ggX4_of_X2_leastRoot : GoodIn wsX4_of wsX2_leastRoot := goodIn_r _ [42, 35, 36, 37, 11, 38, 13, 18, 19, 20, 21, 22, 54, 55] (by decide +kernel) (by decide +kernel)
set_option maxRecDepth 20000 in
theorem gX4_of_X2_leastRoot : GoodIn wsX4_of (wsV RX4 153 RX2 yX2_leastRoot wsX2_leastRoot) := goodIn_app (goodIn_of _ (by decide +kernel)) ggX4_of_X2_leastRoot
theorem dX4_of_0 : decode cX4_of 0 = .ok (.aload_n 0, 1) := by decide +kernel
theorem dX4_of_1 : decode cX4_of 1 = .ok (.getfield 10, 3) := by decide +kernel
theorem dX4_of_4 : decode cX4_of 4 = .ok (.iload_n 1, 1) := by decide +kernel
theorem dX4_of_5 : decode cX4_of 5 = .ok (.invokevirtual 57, 3) := by decide +kernel
theorem dX4_of_8 : decode cX4_of 8 = .ok (.astore_n 3, 1) := by decide +kernel
theorem dX4_of_9 : decode cX4_of 9 = .ok (.aload_n 3, 1) := by decide +kernel
theorem dX4_of_10 : decode cX4_of 10 = .ok (.ifnonnull 5, 3) := by decide +kernel
theorem dX4_of_13 : decode cX4_of 13 = .ok (.iconst (-1), 1) := by decide +kernel
theorem dX4_of_14 : decode cX4_of 14 = .ok (.ireturn, 1) := by decide +kernel
theorem dX4_of_15 : decode cX4_of 15 = .ok (.iload_n 2, 1) := by decide +kernel
theorem dX4_of_16 : decode cX4_of 16 = .ok (.tableswitch 70 0 5 #[40, 45, 50, 55, 60, 65], 40) := by decide +kernel
theorem dX4_of_56 : decode cX4_of 56 = .ok (.aload_n 3, 1) := by decide +kernel
theorem dX4_of_57 : decode cX4_of 57 = .ok (.invokevirtual 72, 3) := by decide +kernel
theorem dX4_of_60 : decode cX4_of 60 = .ok (.ireturn, 1) := by decide +kernel
theorem dX4_of_61 : decode cX4_of 61 = .ok (.aload_n 3, 1) := by decide +kernel
theorem dX4_of_62 : decode cX4_of 62 = .ok (.invokevirtual 113, 3) := by decide +kernel
theorem dX4_of_65 : decode cX4_of 65 = .ok (.ireturn, 1) := by decide +kernel
theorem dX4_of_66 : decode cX4_of 66 = .ok (.aload_n 3, 1) := by decide +kernel
theorem dX4_of_67 : decode cX4_of 67 = .ok (.invokevirtual 138, 3) := by decide +kernel
theorem dX4_of_70 : decode cX4_of 70 = .ok (.ireturn, 1) := by decide +kernel
theorem dX4_of_71 : decode cX4_of 71 = .ok (.aload_n 3, 1) := by decide +kernel
theorem dX4_of_72 : decode cX4_of 72 = .ok (.invokevirtual 147, 3) := by decide +kernel
theorem dX4_of_75 : decode cX4_of 75 = .ok (.ireturn, 1) := by decide +kernel
theorem dX4_of_76 : decode cX4_of 76 = .ok (.aload_n 3, 1) := by decide +kernel
theorem dX4_of_77 : decode cX4_of 77 = .ok (.invokevirtual 150, 3) := by decide +kernel
theorem dX4_of_80 : decode cX4_of 80 = .ok (.ireturn, 1) := by decide +kernel
theorem dX4_of_81 : decode cX4_of 81 = .ok (.aload_n 3, 1) := by decide +kernel
theorem dX4_of_82 : decode cX4_of 82 = .ok (.invokevirtual 153, 3) := by decide +kernel
theorem dX4_of_85 : decode cX4_of 85 = .ok (.ireturn, 1) := by decide +kernel
theorem dX4_of_86 : decode cX4_of 86 = .ok (.bipush (-2), 2) := by decide +kernel
theorem dX4_of_88 : decode cX4_of 88 = .ok (.ireturn, 1) := by decide +kernel
set_option maxRecDepth 20000 in
theorem ggX4_value_X3_rowOf : GoodIn wsX4_value wsX3_rowOf := goodIn_r _ [6, 7, 33] (by decide +kernel) (by decide +kernel)
set_option maxRecDepth 20000 in
theorem gX4_value_X3_rowOf : GoodIn wsX4_value (wsV RX4 57 RX3 yX3_rowOf wsX3_rowOf) := goodIn_app (goodIn_of _ (by decide +kernel)) ggX4_value_X3_rowOf
set_option maxRecDepth 20000 in
theorem ggX4_value_X4_isNumber : GoodIn wsX4_value wsX4_isNumber := goodIn_r _ [11] (by decide +kernel) (by decide +kernel)
set_option maxRecDepth 20000 in
theorem gX4_value_X4_isNumber : GoodIn wsX4_value (va_wsS RX4 76 yX4_isNumber wsX4_isNumber) := goodIn_app (goodIn_of _ (by decide +kernel)) ggX4_value_X4_isNumber
set_option maxRecDepth 20000 in
theorem ggX4_value_X2_valueAt : GoodIn wsX4_value wsX2_valueAt := goodIn_r _ [16, 17, 18, 19, 20, 15, 21, 22, 34, 35] (by decide +kernel) (by decide +kernel)
set_option maxRecDepth 20000 in
theorem gX4_value_X2_valueAt : GoodIn wsX4_value (wsV RX4 156 RX2 yX2_valueAt wsX2_valueAt) := goodIn_app (goodIn_of _ (by decide +kernel)) ggX4_value_X2_valueAt
theorem dX4_value_0 : decode cX4_value 0 = .ok (.aload_n 0, 1) := by decide +kernel
theorem dX4_value_1 : decode cX4_value 1 = .ok (.getfield 10, 3) := by decide +kernel
theorem dX4_value_4 : decode cX4_value 4 = .ok (.iload_n 1, 1) := by decide +kernel
theorem dX4_value_5 : decode cX4_value 5 = .ok (.invokevirtual 57, 3) := by decide +kernel
theorem dX4_value_8 : decode cX4_value 8 = .ok (.astore_n 3, 1) := by decide +kernel
theorem dX4_value_9 : decode cX4_value 9 = .ok (.aload_n 3, 1) := by decide +kernel
theorem dX4_value_10 : decode cX4_value 10 = .ok (.ifnonnull 5, 3) := by decide +kernel
theorem dX4_value_13 : decode cX4_value 13 = .ok (.iconst (-1), 1) := by decide +kernel
theorem dX4_value_14 : decode cX4_value 14 = .ok (.ireturn, 1) := by decide +kernel
theorem dX4_value_15 : decode cX4_value 15 = .ok (.iload_n 2, 1) := by decide +kernel
theorem dX4_value_16 : decode cX4_value 16 = .ok (.invokestatic 76, 3) := by decide +kernel
theorem dX4_value_19 : decode cX4_value 19 = .ok (.ifCond .ne 6, 3) := by decide +kernel
theorem dX4_value_22 : decode cX4_value 22 = .ok (.bipush (-2), 2) := by decide +kernel
theorem dX4_value_24 : decode cX4_value 24 = .ok (.ireturn, 1) := by decide +kernel
theorem dX4_value_25 : decode cX4_value 25 = .ok (.aload_n 3, 1) := by decide +kernel
theorem dX4_value_26 : decode cX4_value 26 = .ok (.iload_n 2, 1) := by decide +kernel
theorem dX4_value_27 : decode cX4_value 27 = .ok (.invokevirtual 156, 3) := by decide +kernel
theorem dX4_value_30 : decode cX4_value 30 = .ok (.ireturn, 1) := by decide +kernel
set_option maxRecDepth 20000 in
theorem ggX4_turningPoint_X4_pointOf : GoodIn wsX4_turningPoint wsX4_pointOf := goodIn_r _ [4, 5, 6, 3, 7] (by decide +kernel) (by decide +kernel)
set_option maxRecDepth 20000 in
theorem gX4_turningPoint_X4_pointOf : GoodIn wsX4_turningPoint (va_wsS RX4 131 yX4_pointOf wsX4_pointOf) := goodIn_app (goodIn_of _ (by decide +kernel)) ggX4_turningPoint_X4_pointOf
set_option maxRecDepth 20000 in
theorem ggX4_turningPoint_X4_raise : GoodIn wsX4_turningPoint wsX4_raise := goodIn_r _ [7] (by decide +kernel) (by decide +kernel)
set_option maxRecDepth 20000 in
theorem gX4_turningPoint_X4_raise : GoodIn wsX4_turningPoint (va_wsS RX4 159 yX4_raise wsX4_raise) := goodIn_app (goodIn_of _ (by decide +kernel)) ggX4_turningPoint_X4_raise
theorem dX4_turningPoint_0 : decode cX4_turningPoint 0 = .ok (.iload_n 1, 1) := by decide +kernel
theorem dX4_turningPoint_1 : decode cX4_turningPoint 1 = .ok (.invokestatic 131, 3) := by decide +kernel
theorem dX4_turningPoint_4 : decode cX4_turningPoint 4 = .ok (.istore_n 3, 1) := by decide +kernel
theorem dX4_turningPoint_5 : decode cX4_turningPoint 5 = .ok (.iload_n 3, 1) := by decide +kernel
theorem dX4_turningPoint_6 : decode cX4_turningPoint 6 = .ok (.bipush (-6), 2) := by decide +kernel
theorem dX4_turningPoint_8 : decode cX4_turningPoint 8 = .ok (.if_icmp .eq 14, 3) := by decide +kernel
theorem dX4_turningPoint_11 : decode cX4_turningPoint 11 = .ok (.iload_n 2, 1) := by decide +kernel
theorem dX4_turningPoint_12 : decode cX4_turningPoint 12 = .ok (.ifCond .lt 10, 3) := by decide +kernel
theorem dX4_turningPoint_15 : decode cX4_turningPoint 15 = .ok (.iload_n 2, 1) := by decide +kernel
theorem dX4_turningPoint_16 : decode cX4_turningPoint 16 = .ok (.sipush 1000, 3) := by decide +kernel
theorem dX4_turningPoint_19 : decode cX4_turningPoint 19 = .ok (.if_icmp .le 6, 3) := by decide +kernel
theorem dX4_turningPoint_22 : decode cX4_turningPoint 22 = .ok (.bipush (-2), 2) := by decide +kernel
theorem dX4_turningPoint_24 : decode cX4_turningPoint 24 = .ok (.ireturn, 1) := by decide +kernel
theorem dX4_turningPoint_25 : decode cX4_turningPoint 25 = .ok (.iload_n 3, 1) := by decide +kernel
theorem dX4_turningPoint_26 : decode cX4_turningPoint 26 = .ok (.iload_n 2, 1) := by decide +kernel
theorem dX4_turningPoint_27 : decode cX4_turningPoint 27 = .ok (.invokestatic 159, 3) := by decide +kernel
theorem dX4_turningPoint_30 : decode cX4_turningPoint 30 = .ok (.ireturn, 1) := by decide +kernel
set_option maxRecDepth 20000 in
theorem ggX4_put_X4_countCharacters : GoodIn wsX4_put wsX4_countCharacters := goodIn_r _ [5, 6] (by decide +kernel) (by decide +kernel)
set_option maxRecDepth 20000 in
theorem gX4_put_X4_countCharacters : GoodIn wsX4_put (va_wsS RX4 194 yX4_countCharacters wsX4_countCharacters) := goodIn_app (goodIn_of _ (by decide +kernel)) ggX4_put_X4_countCharacters
set_option maxRecDepth 20000 in
theorem ggX4_put_X1_length : GoodIn wsX4_put wsX1_length := goodIn_r _ [11, 12, 28, 29] (by decide +kernel) (by decide +kernel)
set_option maxRecDepth 20000 in
theorem gX4_put_X1_length : GoodIn wsX4_put (wsV RX4 165 RX1 yX1_length wsX1_length) := goodIn_app (goodIn_of _ (by decide +kernel)) ggX4_put_X1_length
set_option maxRecDepth 20000 in
theorem ggX4_put_X1_append : GoodIn wsX4_put wsX1_append := goodIn_r _ [16, 12, 17, 28, 29] (by decide +kernel) (by decide +kernel)
set_option maxRecDepth 20000 in
theorem gX4_put_X1_append : GoodIn wsX4_put (wsV RX4 198 RX1 yX1_append wsX1_append) := goodIn_app (goodIn_of _ (by decide +kernel)) ggX4_put_X1_append
theorem dX4_put_0 : decode cX4_put 0 = .ok (.lload_n 1, 1) := by decide +kernel
theorem dX4_put_1 : decode cX4_put 1 = .ok (.invokestatic 194, 3) := by decide +kernel
theorem dX4_put_4 : decode cX4_put 4 = .ok (.istore_n 3, 1) := by decide +kernel
theorem dX4_put_5 : decode cX4_put 5 = .ok (.iload_n 3, 1) := by decide +kernel
theorem dX4_put_6 : decode cX4_put 6 = .ok (.ifCond .ne 6, 3) := by decide +kernel
theorem dX4_put_9 : decode cX4_put 9 = .ok (.bipush (-2), 2) := by decide +kernel
theorem dX4_put_11 : decode cX4_put 11 = .ok (.ireturn, 1) := by decide +kernel
theorem dX4_put_12 : decode cX4_put 12 = .ok (.aload_n 0, 1) := by decide +kernel
theorem dX4_put_13 : decode cX4_put 13 = .ok (.getfield 26, 3) := by decide +kernel
theorem dX4_put_16 : decode cX4_put 16 = .ok (.invokevirtual 165, 3) := by decide +kernel
theorem dX4_put_19 : decode cX4_put 19 = .ok (.iload_n 3, 1) := by decide +kernel
theorem dX4_put_20 : decode cX4_put 20 = .ok (.iadd, 1) := by decide +kernel
theorem dX4_put_21 : decode cX4_put 21 = .ok (.bipush 80, 2) := by decide +kernel
theorem dX4_put_23 : decode cX4_put 23 = .ok (.if_icmp .le 6, 3) := by decide +kernel
theorem dX4_put_26 : decode cX4_put 26 = .ok (.bipush (-4), 2) := by decide +kernel
theorem dX4_put_28 : decode cX4_put 28 = .ok (.ireturn, 1) := by decide +kernel
theorem dX4_put_29 : decode cX4_put 29 = .ok (.iload_n 3, 1) := by decide +kernel
theorem dX4_put_30 : decode cX4_put 30 = .ok (.iconst 1, 1) := by decide +kernel
theorem dX4_put_31 : decode cX4_put 31 = .ok (.isub, 1) := by decide +kernel
theorem dX4_put_32 : decode cX4_put 32 = .ok (.istore 4, 2) := by decide +kernel
theorem dX4_put_34 : decode cX4_put 34 = .ok (.iload 4, 2) := by decide +kernel
theorem dX4_put_36 : decode cX4_put 36 = .ok (.ifCond .lt 28, 3) := by decide +kernel
theorem dX4_put_39 : decode cX4_put 39 = .ok (.aload_n 0, 1) := by decide +kernel
theorem dX4_put_40 : decode cX4_put 40 = .ok (.getfield 26, 3) := by decide +kernel
theorem dX4_put_43 : decode cX4_put 43 = .ok (.lload_n 1, 1) := by decide +kernel
theorem dX4_put_44 : decode cX4_put 44 = .ok (.bipush 8, 2) := by decide +kernel
theorem dX4_put_46 : decode cX4_put 46 = .ok (.iload 4, 2) := by decide +kernel
theorem dX4_put_48 : decode cX4_put 48 = .ok (.imul, 1) := by decide +kernel
theorem dX4_put_49 : decode cX4_put 49 = .ok (.lushr, 1) := by decide +kernel
theorem dX4_put_50 : decode cX4_put 50 = .ok (.l2i, 1) := by decide +kernel
theorem dX4_put_51 : decode cX4_put 51 = .ok (.sipush 255, 3) := by decide +kernel
theorem dX4_put_54 : decode cX4_put 54 = .ok (.iand, 1) := by decide +kernel
theorem dX4_put_55 : decode cX4_put 55 = .ok (.invokevirtual 198, 3) := by decide +kernel
theorem dX4_put_58 : decode cX4_put 58 = .ok (.iinc 4 (-1), 3) := by decide +kernel
theorem dX4_put_61 : decode cX4_put 61 = .ok (.goto (-27), 3) := by decide +kernel
theorem dX4_put_64 : decode cX4_put 64 = .ok (.aload_n 0, 1) := by decide +kernel
theorem dX4_put_65 : decode cX4_put 65 = .ok (.getfield 26, 3) := by decide +kernel
theorem dX4_put_68 : decode cX4_put 68 = .ok (.invokevirtual 165, 3) := by decide +kernel
theorem dX4_put_71 : decode cX4_put 71 = .ok (.ireturn, 1) := by decide +kernel
set_option maxRecDepth 20000 in
theorem ggX4_wipe_X1_length : GoodIn wsX4_wipe wsX1_length := goodIn_r _ [6, 7, 22, 23] (by decide +kernel) (by decide +kernel)
set_option maxRecDepth 20000 in
theorem gX4_wipe_X1_length : GoodIn wsX4_wipe (wsV RX4 165 RX1 yX1_length wsX1_length) := goodIn_app (goodIn_of _ (by decide +kernel)) ggX4_wipe_X1_length
set_option maxRecDepth 20000 in
theorem ggX4_wipe_X1_empty : GoodIn wsX4_wipe wsX1_empty := goodIn_r _ [11, 7, 22, 23] (by decide +kernel) (by decide +kernel)
set_option maxRecDepth 20000 in
theorem gX4_wipe_X1_empty : GoodIn wsX4_wipe (wsV RX4 69 RX1 yX1_empty wsX1_empty) := goodIn_app (goodIn_of _ (by decide +kernel)) ggX4_wipe_X1_empty
theorem dX4_wipe_0 : decode cX4_wipe 0 = .ok (.aload_n 0, 1) := by decide +kernel
theorem dX4_wipe_1 : decode cX4_wipe 1 = .ok (.getfield 26, 3) := by decide +kernel
theorem dX4_wipe_4 : decode cX4_wipe 4 = .ok (.invokevirtual 165, 3) := by decide +kernel
theorem dX4_wipe_7 : decode cX4_wipe 7 = .ok (.istore_n 1, 1) := by decide +kernel
theorem dX4_wipe_8 : decode cX4_wipe 8 = .ok (.aload_n 0, 1) := by decide +kernel
theorem dX4_wipe_9 : decode cX4_wipe 9 = .ok (.getfield 26, 3) := by decide +kernel
theorem dX4_wipe_12 : decode cX4_wipe 12 = .ok (.invokevirtual 69, 3) := by decide +kernel
theorem dX4_wipe_15 : decode cX4_wipe 15 = .ok (.iload_n 1, 1) := by decide +kernel
theorem dX4_wipe_16 : decode cX4_wipe 16 = .ok (.ireturn, 1) := by decide +kernel
set_option maxRecDepth 20000 in
theorem ggX4_change_X0_keep : GoodIn wsX4_change wsX0_keep := goodIn_r _ [8, 9, 10, 11, 12, 13, 7, 14, 15, 16, 17, 18, 19, 20, 21, 22, 23, 24, 25, 26, 27, 28, 29, 30, 31, 43, 44, 45, 46, 47] (by decide +kernel) (by decide +kernel)
set_option maxRecDepth 20000 in
theorem gX4_change_X0_keep : GoodIn wsX4_change (wsV RX4 80 RX0 yX0_keep wsX0_keep) := goodIn_app (goodIn_of _ (by decide +kernel)) ggX4_change_X0_keep
set_option maxRecDepth 20000 in
theorem ggX4_change_X2_copyFrom : GoodIn wsX4_change wsX2_copyFrom := goodIn_r _ [25, 26, 27, 28, 29, 30, 31, 46, 47] (by decide +kernel) (by decide +kernel)
set_option maxRecDepth 20000 in
theorem gX4_change_X2_copyFrom : GoodIn wsX4_change (wsV RX4 116 RX2 yX2_copyFrom wsX2_copyFrom) := goodIn_app (goodIn_of _ (by decide +kernel)) ggX4_change_X2_copyFrom
theorem dX4_change_0 : decode cX4_change 0 = .ok (.aload_n 0, 1) := by decide +kernel
theorem dX4_change_1 : decode cX4_change 1 = .ok (.getfield 19, 3) := by decide +kernel
theorem dX4_change_4 : decode cX4_change 4 = .ok (.aload_n 0, 1) := by decide +kernel
theorem dX4_change_5 : decode cX4_change 5 = .ok (.getfield 10, 3) := by decide +kernel
theorem dX4_change_8 : decode cX4_change 8 = .ok (.invokevirtual 80, 3) := by decide +kernel
theorem dX4_change_11 : decode cX4_change 11 = .ok (.aload_n 1, 1) := by decide +kernel
theorem dX4_change_12 : decode cX4_change 12 = .ok (.aload_n 0, 1) := by decide +kernel
theorem dX4_change_13 : decode cX4_change 13 = .ok (.getfield 41, 3) := by decide +kernel
theorem dX4_change_16 : decode cX4_change 16 = .ok (.invokevirtual 116, 3) := by decide +kernel
theorem dX4_change_19 : decode cX4_change 19 = .ok (.return_, 1) := by decide +kernel
theorem dX4_isNumber_0 : decode cX4_isNumber 0 = .ok (.iload_n 0, 1) := by decide +kernel
theorem dX4_isNumber_1 : decode cX4_isNumber 1 = .ok (.ifCond .lt 14, 3) := by decide +kernel
theorem dX4_isNumber_4 : decode cX4_isNumber 4 = .ok (.iload_n 0, 1) := by decide +kernel
theorem dX4_isNumber_5 : decode cX4_isNumber 5 = .ok (.sipush 257, 3) := by decide +kernel
theorem dX4_isNumber_8 : decode cX4_isNumber 8 = .ok (.if_icmp .ge 7, 3) := by decide +kernel
theorem dX4_isNumber_11 : decode cX4_isNumber 11 = .ok (.iconst 1, 1) := by decide +kernel
theorem dX4_isNumber_12 : decode cX4_isNumber 12 = .ok (.goto 4, 3) := by decide +kernel
theorem dX4_isNumber_15 : decode cX4_isNumber 15 = .ok (.iconst 0, 1) := by decide +kernel
theorem dX4_isNumber_16 : decode cX4_isNumber 16 = .ok (.ireturn, 1) := by decide +kernel
theorem dX4_raise_0 : decode cX4_raise 0 = .ok (.iconst 1, 1) := by decide +kernel
theorem dX4_raise_1 : decode cX4_raise 1 = .ok (.istore_n 2, 1) := by decide +kernel
theorem dX4_raise_2 : decode cX4_raise 2 = .ok (.iload_n 0, 1) := by decide +kernel
theorem dX4_raise_3 : decode cX4_raise 3 = .ok (.istore_n 3, 1) := by decide +kernel
theorem dX4_raise_4 : decode cX4_raise 4 = .ok (.iload_n 1, 1) := by decide +kernel
theorem dX4_raise_5 : decode cX4_raise 5 = .ok (.istore 4, 2) := by decide +kernel
theorem dX4_raise_7 : decode cX4_raise 7 = .ok (.iload 4, 2) := by decide +kernel
theorem dX4_raise_9 : decode cX4_raise 9 = .ok (.ifCond .le 36, 3) := by decide +kernel
theorem dX4_raise_12 : decode cX4_raise 12 = .ok (.iload 4, 2) := by decide +kernel
theorem dX4_raise_14 : decode cX4_raise 14 = .ok (.iconst 1, 1) := by decide +kernel
theorem dX4_raise_15 : decode cX4_raise 15 = .ok (.iand, 1) := by decide +kernel
theorem dX4_raise_16 : decode cX4_raise 16 = .ok (.iconst 1, 1) := by decide +kernel
theorem dX4_raise_17 : decode cX4_raise 17 = .ok (.if_icmp .ne 11, 3) := by decide +kernel
theorem dX4_raise_20 : decode cX4_raise 20 = .ok (.iload_n 2, 1) := by decide +kernel
theorem dX4_raise_21 : decode cX4_raise 21 = .ok (.iload_n 3, 1) := by decide +kernel
theorem dX4_raise_22 : decode cX4_raise 22 = .ok (.imul, 1) := by decide +kernel
theorem dX4_raise_23 : decode cX4_raise 23 = .ok (.sipush 257, 3) := by decide +kernel
theorem dX4_raise_26 : decode cX4_raise 26 = .ok (.irem, 1) := by decide +kernel
theorem dX4_raise_27 : decode cX4_raise 27 = .ok (.istore_n 2, 1) := by decide +kernel
theorem dX4_raise_28 : decode cX4_raise 28 = .ok (.iload_n 3, 1) := by decide +kernel
theorem dX4_raise_29 : decode cX4_raise 29 = .ok (.iload_n 3, 1) := by decide +kernel
theorem dX4_raise_30 : decode cX4_raise 30 = .ok (.imul, 1) := by decide +kernel
theorem dX4_raise_31 : decode cX4_raise 31 = .ok (.sipush 257, 3) := by decide +kernel
theorem dX4_raise_34 : decode cX4_raise 34 = .ok (.irem, 1) := by decide +kernel
theorem dX4_raise_35 : decode cX4_raise 35 = .ok (.istore_n 3, 1) := by decide +kernel
theorem dX4_raise_36 : decode cX4_raise 36 = .ok (.iload 4, 2) := by decide +kernel
theorem dX4_raise_38 : decode cX4_raise 38 = .ok (.iconst 1, 1) := by decide +kernel
theorem dX4_raise_39 : decode cX4_raise 39 = .ok (.ishr, 1) := by decide +kernel
theorem dX4_raise_40 : decode cX4_raise 40 = .ok (.istore 4, 2) := by decide +kernel
theorem dX4_raise_42 : decode cX4_raise 42 = .ok (.goto (-35), 3) := by decide +kernel
theorem dX4_raise_45 : decode cX4_raise 45 = .ok (.iload_n 2, 1) := by decide +kernel
theorem dX4_raise_46 : decode cX4_raise 46 = .ok (.ireturn, 1) := by decide +kernel
set_option maxRecDepth 20000 in
theorem ggX4_inverseOf_X4_raise : GoodIn wsX4_inverseOf wsX4_raise := goodIn_r _ [4] (by decide +kernel) (by decide +kernel)
set_option maxRecDepth 20000 in
theorem gX4_inverseOf_X4_raise : GoodIn wsX4_inverseOf (va_wsS RX4 159 yX4_raise wsX4_raise) := goodIn_app (goodIn_of _ (by decide +kernel)) ggX4_inverseOf_X4_raise
theorem dX4_inverseOf_0 : decode cX4_inverseOf 0 = .ok (.iload_n 0, 1) := by decide +kernel
theorem dX4_inverseOf_1 : decode cX4_inverseOf 1 = .ok (.sipush 255, 3) := by decide +kernel
theorem dX4_inverseOf_4 : decode cX4_inverseOf 4 = .ok (.invokestatic 159, 3) := by decide +kernel
theorem dX4_inverseOf_7 : decode cX4_inverseOf 7 = .ok (.ireturn, 1) := by decide +kernel
set_option maxRecDepth 20000 in
theorem ggX4_pointOf_X4_raise : GoodIn wsX4_pointOf wsX4_raise := goodIn_r _ [4] (by decide +kernel) (by decide +kernel)
set_option maxRecDepth 20000 in
theorem gX4_pointOf_X4_raise : GoodIn wsX4_pointOf (va_wsS RX4 159 yX4_raise wsX4_raise) := goodIn_app (goodIn_of _ (by decide +kernel)) ggX4_pointOf_X4_raise
theorem dX4_pointOf_0 : decode cX4_pointOf 0 = .ok (.iload_n 0, 1) := by decide +kernel
theorem dX4_pointOf_1 : decode cX4_pointOf 1 = .ok (.iconst 1, 1) := by decide +kernel
theorem dX4_pointOf_2 : decode cX4_pointOf 2 = .ok (.if_icmp .lt 17, 3) := by decide +kernel
theorem dX4_pointOf_5 : decode cX4_pointOf 5 = .ok (.iload_n 0, 1) := by decide +kernel
theorem dX4_pointOf_6 : decode cX4_pointOf 6 = .ok (.bipush 64, 2) := by decide +kernel
theorem dX4_pointOf_8 : decode cX4_pointOf 8 = .ok (.if_icmp .gt 11, 3) := by decide +kernel
theorem dX4_pointOf_11 : decode cX4_pointOf 11 = .ok (.iload_n 0, 1) := by decide +kernel
theorem dX4_pointOf_12 : decode cX4_pointOf 12 = .ok (.iload_n 0, 1) := by decide +kernel
theorem dX4_pointOf_13 : decode cX4_pointOf 13 = .ok (.iconst 1, 1) := by decide +kernel
theorem dX4_pointOf_14 : decode cX4_pointOf 14 = .ok (.isub, 1) := by decide +kernel
theorem dX4_pointOf_15 : decode cX4_pointOf 15 = .ok (.iand, 1) := by decide +kernel
theorem dX4_pointOf_16 : decode cX4_pointOf 16 = .ok (.ifCond .eq 6, 3) := by decide +kernel
theorem dX4_pointOf_19 : decode cX4_pointOf 19 = .ok (.bipush (-6), 2) := by decide +kernel
theorem dX4_pointOf_21 : decode cX4_pointOf 21 = .ok (.ireturn, 1) := by decide +kernel
theorem dX4_pointOf_22 : decode cX4_pointOf 22 = .ok (.iconst 3, 1) := by decide +kernel
theorem dX4_pointOf_23 : decode cX4_pointOf 23 = .ok (.sipush 256, 3) := by decide +kernel
theorem dX4_pointOf_26 : decode cX4_pointOf 26 = .ok (.iload_n 0, 1) := by decide +kernel
