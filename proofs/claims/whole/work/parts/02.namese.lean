theorem dX5_set_7 : decode cX5_set 7 = .ok (.iload_n 2, 1) := by decide +kernel
theorem dX5_set_8 : decode cX5_set 8 = .ok (.iconst 0, 1) := by decide +kernel
theorem dX5_set_9 : decode cX5_set 9 = .ok (.aload_n 0, 1) := by decide +kernel
theorem dX5_set_10 : decode cX5_set 10 = .ok (.iload_n 1, 1) := by decide +kernel
theorem dX5_set_11 : decode cX5_set 11 = .ok (.invokevirtual 40, 3) := by decide +kernel
theorem dX5_set_14 : decode cX5_set 14 = .ok (.invokestatic 36, 3) := by decide +kernel
theorem dX5_set_17 : decode cX5_set 17 = .ok (.ifCond .ne 5, 3) := by decide +kernel
theorem dX5_set_20 : decode cX5_set 20 = .ok (.iconst (-1), 1) := by decide +kernel
theorem dX5_set_21 : decode cX5_set 21 = .ok (.ireturn, 1) := by decide +kernel
theorem dX5_set_22 : decode cX5_set 22 = .ok (.iload_n 3, 1) := by decide +kernel
theorem dX5_set_23 : decode cX5_set 23 = .ok (.invokestatic 72, 3) := by decide +kernel
theorem dX5_set_26 : decode cX5_set 26 = .ok (.ifCond .ne 6, 3) := by decide +kernel
theorem dX5_set_29 : decode cX5_set 29 = .ok (.bipush (-2), 2) := by decide +kernel
theorem dX5_set_31 : decode cX5_set 31 = .ok (.ireturn, 1) := by decide +kernel
theorem dX5_set_32 : decode cX5_set 32 = .ok (.iload_n 2, 1) := by decide +kernel
theorem dX5_set_33 : decode cX5_set 33 = .ok (.bipush 64, 2) := by decide +kernel
theorem dX5_set_35 : decode cX5_set 35 = .ok (.if_icmp .ne 6, 3) := by decide +kernel
theorem dX5_set_38 : decode cX5_set 38 = .ok (.bipush (-4), 2) := by decide +kernel
theorem dX5_set_40 : decode cX5_set 40 = .ok (.ireturn, 1) := by decide +kernel
theorem dX5_set_41 : decode cX5_set 41 = .ok (.aload_n 0, 1) := by decide +kernel
theorem dX5_set_42 : decode cX5_set 42 = .ok (.invokevirtual 52, 3) := by decide +kernel
theorem dX5_set_45 : decode cX5_set 45 = .ok (.aload_n 0, 1) := by decide +kernel
theorem dX5_set_46 : decode cX5_set 46 = .ok (.getfield 7, 3) := by decide +kernel
theorem dX5_set_49 : decode cX5_set 49 = .ok (.bipush 65, 2) := by decide +kernel
theorem dX5_set_51 : decode cX5_set 51 = .ok (.iload_n 1, 1) := by decide +kernel
theorem dX5_set_52 : decode cX5_set 52 = .ok (.imul, 1) := by decide +kernel
theorem dX5_set_53 : decode cX5_set 53 = .ok (.iconst 1, 1) := by decide +kernel
theorem dX5_set_54 : decode cX5_set 54 = .ok (.iadd, 1) := by decide +kernel
theorem dX5_set_55 : decode cX5_set 55 = .ok (.iload_n 2, 1) := by decide +kernel
theorem dX5_set_56 : decode cX5_set 56 = .ok (.iadd, 1) := by decide +kernel
theorem dX5_set_57 : decode cX5_set 57 = .ok (.iload_n 3, 1) := by decide +kernel
theorem dX5_set_58 : decode cX5_set 58 = .ok (.iastore, 1) := by decide +kernel
theorem dX5_set_59 : decode cX5_set 59 = .ok (.aload_n 0, 1) := by decide +kernel
theorem dX5_set_60 : decode cX5_set 60 = .ok (.getfield 7, 3) := by decide +kernel
theorem dX5_set_63 : decode cX5_set 63 = .ok (.bipush 65, 2) := by decide +kernel
theorem dX5_set_65 : decode cX5_set 65 = .ok (.iload_n 1, 1) := by decide +kernel
theorem dX5_set_66 : decode cX5_set 66 = .ok (.imul, 1) := by decide +kernel
theorem dX5_set_67 : decode cX5_set 67 = .ok (.dup2, 1) := by decide +kernel
theorem dX5_set_68 : decode cX5_set 68 = .ok (.iaload, 1) := by decide +kernel
theorem dX5_set_69 : decode cX5_set 69 = .ok (.iload_n 2, 1) := by decide +kernel
theorem dX5_set_70 : decode cX5_set 70 = .ok (.aload_n 0, 1) := by decide +kernel
theorem dX5_set_71 : decode cX5_set 71 = .ok (.iload_n 1, 1) := by decide +kernel
theorem dX5_set_72 : decode cX5_set 72 = .ok (.invokevirtual 40, 3) := by decide +kernel
theorem dX5_set_75 : decode cX5_set 75 = .ok (.if_icmp .ne 7, 3) := by decide +kernel
theorem dX5_set_78 : decode cX5_set 78 = .ok (.iconst 1, 1) := by decide +kernel
theorem dX5_set_79 : decode cX5_set 79 = .ok (.goto 4, 3) := by decide +kernel
theorem dX5_set_82 : decode cX5_set 82 = .ok (.iconst 0, 1) := by decide +kernel
theorem dX5_set_83 : decode cX5_set 83 = .ok (.iadd, 1) := by decide +kernel
theorem dX5_set_84 : decode cX5_set 84 = .ok (.iastore, 1) := by decide +kernel
theorem dX5_set_85 : decode cX5_set 85 = .ok (.aload_n 0, 1) := by decide +kernel
theorem dX5_set_86 : decode cX5_set 86 = .ok (.iload_n 1, 1) := by decide +kernel
theorem dX5_set_87 : decode cX5_set 87 = .ok (.invokevirtual 40, 3) := by decide +kernel
theorem dX5_set_90 : decode cX5_set 90 = .ok (.ireturn, 1) := by decide +kernel
set_option maxRecDepth 20000 in
theorem ggX5_add_X5_isRegister : GoodIn wsX5_add wsX5_isRegister := goodIn_r _ [6, 7, 8, 5, 9] (by decide +kernel) (by decide +kernel)
set_option maxRecDepth 20000 in
theorem gX5_add_X5_isRegister : GoodIn wsX5_add (va_wsS RX5 68 yX5_isRegister wsX5_isRegister) := goodIn_app (goodIn_of _ (by decide +kernel)) ggX5_add_X5_isRegister
set_option maxRecDepth 20000 in
theorem ggX5_add_X5_isNumber : GoodIn wsX5_add wsX5_isNumber := goodIn_r _ [12, 7, 8, 5, 9] (by decide +kernel) (by decide +kernel)
set_option maxRecDepth 20000 in
theorem gX5_add_X5_isNumber : GoodIn wsX5_add (va_wsS RX5 72 yX5_isNumber wsX5_isNumber) := goodIn_app (goodIn_of _ (by decide +kernel)) ggX5_add_X5_isNumber
set_option maxRecDepth 20000 in
theorem ggX5_add_X5_record : GoodIn wsX5_add wsX5_record := goodIn_r _ [16, 17, 18, 19, 39, 40, 41, 42, 43, 44, 45, 46, 47, 48, 49] (by decide +kernel) (by decide +kernel)
set_option maxRecDepth 20000 in
theorem gX5_add_X5_record : GoodIn wsX5_add (wsV RX5 52 RX5 yX5_record wsX5_record) := goodIn_app (goodIn_of _ (by decide +kernel)) ggX5_add_X5_record
set_option maxRecDepth 20000 in
theorem ggX5_add_X5_lengthOf : GoodIn wsX5_add wsX5_lengthOf := goodIn_r _ [23, 19, 39, 40, 41, 42, 43, 44, 45, 46, 47, 48, 49] (by decide +kernel) (by decide +kernel)
set_option maxRecDepth 20000 in
theorem gX5_add_X5_lengthOf : GoodIn wsX5_add (wsV RX5 40 RX5 yX5_lengthOf wsX5_lengthOf) := goodIn_app (goodIn_of _ (by decide +kernel)) ggX5_add_X5_lengthOf
set_option maxRecDepth 20000 in
theorem ggX5_add_X5_blank : GoodIn wsX5_add wsX5_blank := goodIn_r _ [27, 1, 2, 39, 40, 41, 42, 43, 44, 45, 46, 47, 48, 49] (by decide +kernel) (by decide +kernel)
set_option maxRecDepth 20000 in
theorem gX5_add_X5_blank : GoodIn wsX5_add (wsV RX5 75 RX5 yX5_blank wsX5_blank) := goodIn_app (goodIn_of _ (by decide +kernel)) ggX5_add_X5_blank
set_option maxRecDepth 20000 in
theorem ggX5_add_X5_at : GoodIn wsX5_add wsX5_at := goodIn_r _ [31, 19, 20, 21, 22, 5, 23, 39, 40, 41, 42, 43, 44, 45, 46, 47, 48, 49] (by decide +kernel) (by decide +kernel)
set_option maxRecDepth 20000 in
theorem gX5_add_X5_at : GoodIn wsX5_add (wsV RX5 65 RX5 yX5_at wsX5_at) := goodIn_app (goodIn_of _ (by decide +kernel)) ggX5_add_X5_at
set_option maxRecDepth 20000 in
theorem ggX5_add_X5_times : GoodIn wsX5_add wsX5_times := goodIn_r _ [34] (by decide +kernel) (by decide +kernel)
set_option maxRecDepth 20000 in
theorem gX5_add_X5_times : GoodIn wsX5_add (va_wsS RX5 55 yX5_times wsX5_times) := goodIn_app (goodIn_of _ (by decide +kernel)) ggX5_add_X5_times
set_option maxRecDepth 20000 in
theorem ggX5_add_X5_store : GoodIn wsX5_add wsX5_store := goodIn_r _ [38, 19, 1, 2, 39, 40, 41, 42, 43, 44, 45, 46, 47, 48, 49] (by decide +kernel) (by decide +kernel)
set_option maxRecDepth 20000 in
theorem gX5_add_X5_store : GoodIn wsX5_add (wsV RX5 79 RX5 yX5_store wsX5_store) := goodIn_app (goodIn_of _ (by decide +kernel)) ggX5_add_X5_store
theorem dX5_add_0 : decode cX5_add 0 = .ok (.iload_n 1, 1) := by decide +kernel
theorem dX5_add_1 : decode cX5_add 1 = .ok (.invokestatic 68, 3) := by decide +kernel
theorem dX5_add_4 : decode cX5_add 4 = .ok (.ifCond .eq 18, 3) := by decide +kernel
theorem dX5_add_7 : decode cX5_add 7 = .ok (.iload_n 2, 1) := by decide +kernel
theorem dX5_add_8 : decode cX5_add 8 = .ok (.invokestatic 68, 3) := by decide +kernel
theorem dX5_add_11 : decode cX5_add 11 = .ok (.ifCond .eq 11, 3) := by decide +kernel
theorem dX5_add_14 : decode cX5_add 14 = .ok (.iload 4, 2) := by decide +kernel
theorem dX5_add_16 : decode cX5_add 16 = .ok (.invokestatic 68, 3) := by decide +kernel
theorem dX5_add_19 : decode cX5_add 19 = .ok (.ifCond .ne 5, 3) := by decide +kernel
theorem dX5_add_22 : decode cX5_add 22 = .ok (.iconst (-1), 1) := by decide +kernel
theorem dX5_add_23 : decode cX5_add 23 = .ok (.ireturn, 1) := by decide +kernel
theorem dX5_add_24 : decode cX5_add 24 = .ok (.iload_n 3, 1) := by decide +kernel
theorem dX5_add_25 : decode cX5_add 25 = .ok (.invokestatic 72, 3) := by decide +kernel
theorem dX5_add_28 : decode cX5_add 28 = .ok (.ifCond .ne 6, 3) := by decide +kernel
theorem dX5_add_31 : decode cX5_add 31 = .ok (.bipush (-2), 2) := by decide +kernel
theorem dX5_add_33 : decode cX5_add 33 = .ok (.ireturn, 1) := by decide +kernel
theorem dX5_add_34 : decode cX5_add 34 = .ok (.aload_n 0, 1) := by decide +kernel
theorem dX5_add_35 : decode cX5_add 35 = .ok (.invokevirtual 52, 3) := by decide +kernel
theorem dX5_add_38 : decode cX5_add 38 = .ok (.aload_n 0, 1) := by decide +kernel
theorem dX5_add_39 : decode cX5_add 39 = .ok (.aload_n 0, 1) := by decide +kernel
theorem dX5_add_40 : decode cX5_add 40 = .ok (.iload_n 1, 1) := by decide +kernel
theorem dX5_add_41 : decode cX5_add 41 = .ok (.invokevirtual 40, 3) := by decide +kernel
theorem dX5_add_44 : decode cX5_add 44 = .ok (.aload_n 0, 1) := by decide +kernel
theorem dX5_add_45 : decode cX5_add 45 = .ok (.iload_n 2, 1) := by decide +kernel
theorem dX5_add_46 : decode cX5_add 46 = .ok (.invokevirtual 40, 3) := by decide +kernel
theorem dX5_add_49 : decode cX5_add 49 = .ok (.if_icmp .le 11, 3) := by decide +kernel
theorem dX5_add_52 : decode cX5_add 52 = .ok (.aload_n 0, 1) := by decide +kernel
theorem dX5_add_53 : decode cX5_add 53 = .ok (.iload_n 1, 1) := by decide +kernel
theorem dX5_add_54 : decode cX5_add 54 = .ok (.invokevirtual 40, 3) := by decide +kernel
theorem dX5_add_57 : decode cX5_add 57 = .ok (.goto 8, 3) := by decide +kernel
theorem dX5_add_60 : decode cX5_add 60 = .ok (.aload_n 0, 1) := by decide +kernel
theorem dX5_add_61 : decode cX5_add 61 = .ok (.iload_n 2, 1) := by decide +kernel
theorem dX5_add_62 : decode cX5_add 62 = .ok (.invokevirtual 40, 3) := by decide +kernel
theorem dX5_add_65 : decode cX5_add 65 = .ok (.invokevirtual 75, 3) := by decide +kernel
theorem dX5_add_68 : decode cX5_add 68 = .ok (.iconst 0, 1) := by decide +kernel
theorem dX5_add_69 : decode cX5_add 69 = .ok (.istore 5, 2) := by decide +kernel
theorem dX5_add_71 : decode cX5_add 71 = .ok (.iload 5, 2) := by decide +kernel
theorem dX5_add_73 : decode cX5_add 73 = .ok (.aload_n 0, 1) := by decide +kernel
theorem dX5_add_74 : decode cX5_add 74 = .ok (.getfield 62, 3) := by decide +kernel
theorem dX5_add_77 : decode cX5_add 77 = .ok (.if_icmp .ge 39, 3) := by decide +kernel
theorem dX5_add_80 : decode cX5_add 80 = .ok (.aload_n 0, 1) := by decide +kernel
theorem dX5_add_81 : decode cX5_add 81 = .ok (.getfield 27, 3) := by decide +kernel
theorem dX5_add_84 : decode cX5_add 84 = .ok (.iload 5, 2) := by decide +kernel
theorem dX5_add_86 : decode cX5_add 86 = .ok (.aload_n 0, 1) := by decide +kernel
theorem dX5_add_87 : decode cX5_add 87 = .ok (.iload_n 1, 1) := by decide +kernel
theorem dX5_add_88 : decode cX5_add 88 = .ok (.iload 5, 2) := by decide +kernel
theorem dX5_add_90 : decode cX5_add 90 = .ok (.invokevirtual 65, 3) := by decide +kernel
theorem dX5_add_93 : decode cX5_add 93 = .ok (.iload_n 3, 1) := by decide +kernel
theorem dX5_add_94 : decode cX5_add 94 = .ok (.aload_n 0, 1) := by decide +kernel
theorem dX5_add_95 : decode cX5_add 95 = .ok (.iload_n 2, 1) := by decide +kernel
theorem dX5_add_96 : decode cX5_add 96 = .ok (.iload 5, 2) := by decide +kernel
theorem dX5_add_98 : decode cX5_add 98 = .ok (.invokevirtual 65, 3) := by decide +kernel
theorem dX5_add_101 : decode cX5_add 101 = .ok (.invokestatic 55, 3) := by decide +kernel
theorem dX5_add_104 : decode cX5_add 104 = .ok (.iadd, 1) := by decide +kernel
theorem dX5_add_105 : decode cX5_add 105 = .ok (.sipush 257, 3) := by decide +kernel
theorem dX5_add_108 : decode cX5_add 108 = .ok (.irem, 1) := by decide +kernel
theorem dX5_add_109 : decode cX5_add 109 = .ok (.iastore, 1) := by decide +kernel
theorem dX5_add_110 : decode cX5_add 110 = .ok (.iinc 5 1, 3) := by decide +kernel
theorem dX5_add_113 : decode cX5_add 113 = .ok (.goto (-42), 3) := by decide +kernel
theorem dX5_add_116 : decode cX5_add 116 = .ok (.aload_n 0, 1) := by decide +kernel
theorem dX5_add_117 : decode cX5_add 117 = .ok (.iload 4, 2) := by decide +kernel
theorem dX5_add_119 : decode cX5_add 119 = .ok (.invokevirtual 79, 3) := by decide +kernel
theorem dX5_add_122 : decode cX5_add 122 = .ok (.aload_n 0, 1) := by decide +kernel
theorem dX5_add_123 : decode cX5_add 123 = .ok (.getfield 62, 3) := by decide +kernel
theorem dX5_add_126 : decode cX5_add 126 = .ok (.ireturn, 1) := by decide +kernel
set_option maxRecDepth 20000 in
theorem ggX5_product_X5_isRegister : GoodIn wsX5_product wsX5_isRegister := goodIn_r _ [5, 6, 7, 4, 8] (by decide +kernel) (by decide +kernel)
set_option maxRecDepth 20000 in
theorem gX5_product_X5_isRegister : GoodIn wsX5_product (va_wsS RX5 68 yX5_isRegister wsX5_isRegister) := goodIn_app (goodIn_of _ (by decide +kernel)) ggX5_product_X5_isRegister
set_option maxRecDepth 20000 in
theorem ggX5_product_X5_lengthOf : GoodIn wsX5_product wsX5_lengthOf := goodIn_r _ [12, 13, 33, 34, 35, 36, 37, 38, 39, 40, 41, 42, 43] (by decide +kernel) (by decide +kernel)
set_option maxRecDepth 20000 in
theorem gX5_product_X5_lengthOf : GoodIn wsX5_product (wsV RX5 40 RX5 yX5_lengthOf wsX5_lengthOf) := goodIn_app (goodIn_of _ (by decide +kernel)) ggX5_product_X5_lengthOf
set_option maxRecDepth 20000 in
theorem ggX5_product_X5_record : GoodIn wsX5_product wsX5_record := goodIn_r _ [17, 18, 19, 13, 33, 34, 35, 36, 37, 38, 39, 40, 41, 42, 43] (by decide +kernel) (by decide +kernel)
set_option maxRecDepth 20000 in
theorem gX5_product_X5_record : GoodIn wsX5_product (wsV RX5 52 RX5 yX5_record wsX5_record) := goodIn_app (goodIn_of _ (by decide +kernel)) ggX5_product_X5_record
set_option maxRecDepth 20000 in
theorem ggX5_product_X5_blank : GoodIn wsX5_product wsX5_blank := goodIn_r _ [23, 24, 1, 33, 34, 35, 36, 37, 38, 39, 40, 41, 42, 43] (by decide +kernel) (by decide +kernel)
set_option maxRecDepth 20000 in
theorem gX5_product_X5_blank : GoodIn wsX5_product (wsV RX5 75 RX5 yX5_blank wsX5_blank) := goodIn_app (goodIn_of _ (by decide +kernel)) ggX5_product_X5_blank
set_option maxRecDepth 20000 in
theorem ggX5_product_X5_at : GoodIn wsX5_product wsX5_at := goodIn_r _ [28, 13, 9, 10, 11, 4, 12, 33, 34, 35, 36, 37, 38, 39, 40, 41, 42, 43] (by decide +kernel) (by decide +kernel)
set_option maxRecDepth 20000 in
theorem gX5_product_X5_at : GoodIn wsX5_product (wsV RX5 65 RX5 yX5_at wsX5_at) := goodIn_app (goodIn_of _ (by decide +kernel)) ggX5_product_X5_at
set_option maxRecDepth 20000 in
theorem ggX5_product_X5_store : GoodIn wsX5_product wsX5_store := goodIn_r _ [32, 13, 24, 1, 33, 34, 35, 36, 37, 38, 39, 40, 41, 42, 43] (by decide +kernel) (by decide +kernel)
set_option maxRecDepth 20000 in
theorem gX5_product_X5_store : GoodIn wsX5_product (wsV RX5 79 RX5 yX5_store wsX5_store) := goodIn_app (goodIn_of _ (by decide +kernel)) ggX5_product_X5_store
theorem dX5_product_0 : decode cX5_product 0 = .ok (.iload_n 1, 1) := by decide +kernel
theorem dX5_product_1 : decode cX5_product 1 = .ok (.invokestatic 68, 3) := by decide +kernel
theorem dX5_product_4 : decode cX5_product 4 = .ok (.ifCond .eq 17, 3) := by decide +kernel
theorem dX5_product_7 : decode cX5_product 7 = .ok (.iload_n 2, 1) := by decide +kernel
theorem dX5_product_8 : decode cX5_product 8 = .ok (.invokestatic 68, 3) := by decide +kernel
theorem dX5_product_11 : decode cX5_product 11 = .ok (.ifCond .eq 10, 3) := by decide +kernel
theorem dX5_product_14 : decode cX5_product 14 = .ok (.iload_n 3, 1) := by decide +kernel
theorem dX5_product_15 : decode cX5_product 15 = .ok (.invokestatic 68, 3) := by decide +kernel
theorem dX5_product_18 : decode cX5_product 18 = .ok (.ifCond .ne 5, 3) := by decide +kernel
theorem dX5_product_21 : decode cX5_product 21 = .ok (.iconst (-1), 1) := by decide +kernel
theorem dX5_product_22 : decode cX5_product 22 = .ok (.ireturn, 1) := by decide +kernel
theorem dX5_product_23 : decode cX5_product 23 = .ok (.aload_n 0, 1) := by decide +kernel
theorem dX5_product_24 : decode cX5_product 24 = .ok (.iload_n 1, 1) := by decide +kernel
theorem dX5_product_25 : decode cX5_product 25 = .ok (.invokevirtual 40, 3) := by decide +kernel
theorem dX5_product_28 : decode cX5_product 28 = .ok (.aload_n 0, 1) := by decide +kernel
theorem dX5_product_29 : decode cX5_product 29 = .ok (.iload_n 2, 1) := by decide +kernel
theorem dX5_product_30 : decode cX5_product 30 = .ok (.invokevirtual 40, 3) := by decide +kernel
theorem dX5_product_33 : decode cX5_product 33 = .ok (.iadd, 1) := by decide +kernel
theorem dX5_product_34 : decode cX5_product 34 = .ok (.iconst 1, 1) := by decide +kernel
theorem dX5_product_35 : decode cX5_product 35 = .ok (.isub, 1) := by decide +kernel
theorem dX5_product_36 : decode cX5_product 36 = .ok (.istore 4, 2) := by decide +kernel
theorem dX5_product_38 : decode cX5_product 38 = .ok (.iload 4, 2) := by decide +kernel
theorem dX5_product_40 : decode cX5_product 40 = .ok (.bipush 64, 2) := by decide +kernel
theorem dX5_product_42 : decode cX5_product 42 = .ok (.if_icmp .le 6, 3) := by decide +kernel
theorem dX5_product_45 : decode cX5_product 45 = .ok (.bipush (-4), 2) := by decide +kernel
theorem dX5_product_47 : decode cX5_product 47 = .ok (.ireturn, 1) := by decide +kernel
theorem dX5_product_48 : decode cX5_product 48 = .ok (.aload_n 0, 1) := by decide +kernel
theorem dX5_product_49 : decode cX5_product 49 = .ok (.invokevirtual 52, 3) := by decide +kernel
theorem dX5_product_52 : decode cX5_product 52 = .ok (.aload_n 0, 1) := by decide +kernel
theorem dX5_product_53 : decode cX5_product 53 = .ok (.iload 4, 2) := by decide +kernel
theorem dX5_product_55 : decode cX5_product 55 = .ok (.invokevirtual 75, 3) := by decide +kernel
theorem dX5_product_58 : decode cX5_product 58 = .ok (.iconst 0, 1) := by decide +kernel
theorem dX5_product_59 : decode cX5_product 59 = .ok (.istore 5, 2) := by decide +kernel
theorem dX5_product_61 : decode cX5_product 61 = .ok (.iload 5, 2) := by decide +kernel
theorem dX5_product_63 : decode cX5_product 63 = .ok (.aload_n 0, 1) := by decide +kernel
theorem dX5_product_64 : decode cX5_product 64 = .ok (.iload_n 1, 1) := by decide +kernel
theorem dX5_product_65 : decode cX5_product 65 = .ok (.invokevirtual 40, 3) := by decide +kernel
theorem dX5_product_68 : decode cX5_product 68 = .ok (.if_icmp .ge 68, 3) := by decide +kernel
theorem dX5_product_71 : decode cX5_product 71 = .ok (.iconst 0, 1) := by decide +kernel
theorem dX5_product_72 : decode cX5_product 72 = .ok (.istore 6, 2) := by decide +kernel
theorem dX5_product_74 : decode cX5_product 74 = .ok (.iload 6, 2) := by decide +kernel
theorem dX5_product_76 : decode cX5_product 76 = .ok (.aload_n 0, 1) := by decide +kernel
theorem dX5_product_77 : decode cX5_product 77 = .ok (.iload_n 2, 1) := by decide +kernel
theorem dX5_product_78 : decode cX5_product 78 = .ok (.invokevirtual 40, 3) := by decide +kernel
theorem dX5_product_81 : decode cX5_product 81 = .ok (.if_icmp .ge 49, 3) := by decide +kernel
theorem dX5_product_84 : decode cX5_product 84 = .ok (.aload_n 0, 1) := by decide +kernel
theorem dX5_product_85 : decode cX5_product 85 = .ok (.getfield 27, 3) := by decide +kernel
theorem dX5_product_88 : decode cX5_product 88 = .ok (.iload 5, 2) := by decide +kernel
theorem dX5_product_90 : decode cX5_product 90 = .ok (.iload 6, 2) := by decide +kernel
theorem dX5_product_92 : decode cX5_product 92 = .ok (.iadd, 1) := by decide +kernel
theorem dX5_product_93 : decode cX5_product 93 = .ok (.aload_n 0, 1) := by decide +kernel
theorem dX5_product_94 : decode cX5_product 94 = .ok (.getfield 27, 3) := by decide +kernel
theorem dX5_product_97 : decode cX5_product 97 = .ok (.iload 5, 2) := by decide +kernel
theorem dX5_product_99 : decode cX5_product 99 = .ok (.iload 6, 2) := by decide +kernel
theorem dX5_product_101 : decode cX5_product 101 = .ok (.iadd, 1) := by decide +kernel
theorem dX5_product_102 : decode cX5_product 102 = .ok (.iaload, 1) := by decide +kernel
theorem dX5_product_103 : decode cX5_product 103 = .ok (.aload_n 0, 1) := by decide +kernel
theorem dX5_product_104 : decode cX5_product 104 = .ok (.iload_n 1, 1) := by decide +kernel
theorem dX5_product_105 : decode cX5_product 105 = .ok (.iload 5, 2) := by decide +kernel
theorem dX5_product_107 : decode cX5_product 107 = .ok (.invokevirtual 65, 3) := by decide +kernel
theorem dX5_product_110 : decode cX5_product 110 = .ok (.aload_n 0, 1) := by decide +kernel
theorem dX5_product_111 : decode cX5_product 111 = .ok (.iload_n 2, 1) := by decide +kernel
theorem dX5_product_112 : decode cX5_product 112 = .ok (.iload 6, 2) := by decide +kernel
theorem dX5_product_114 : decode cX5_product 114 = .ok (.invokevirtual 65, 3) := by decide +kernel
theorem dX5_product_117 : decode cX5_product 117 = .ok (.imul, 1) := by decide +kernel
theorem dX5_product_118 : decode cX5_product 118 = .ok (.iadd, 1) := by decide +kernel
theorem dX5_product_119 : decode cX5_product 119 = .ok (.sipush 257, 3) := by decide +kernel
theorem dX5_product_122 : decode cX5_product 122 = .ok (.irem, 1) := by decide +kernel
theorem dX5_product_123 : decode cX5_product 123 = .ok (.iastore, 1) := by decide +kernel
theorem dX5_product_124 : decode cX5_product 124 = .ok (.iinc 6 1, 3) := by decide +kernel
theorem dX5_product_127 : decode cX5_product 127 = .ok (.goto (-53), 3) := by decide +kernel
theorem dX5_product_130 : decode cX5_product 130 = .ok (.iinc 5 1, 3) := by decide +kernel
theorem dX5_product_133 : decode cX5_product 133 = .ok (.goto (-72), 3) := by decide +kernel
theorem dX5_product_136 : decode cX5_product 136 = .ok (.aload_n 0, 1) := by decide +kernel
theorem dX5_product_137 : decode cX5_product 137 = .ok (.iload_n 3, 1) := by decide +kernel
theorem dX5_product_138 : decode cX5_product 138 = .ok (.invokevirtual 79, 3) := by decide +kernel
theorem dX5_product_141 : decode cX5_product 141 = .ok (.iload 4, 2) := by decide +kernel
theorem dX5_product_143 : decode cX5_product 143 = .ok (.ireturn, 1) := by decide +kernel
set_option maxRecDepth 20000 in
theorem ggX5_round_X5_isRegister : GoodIn wsX5_round wsX5_isRegister := goodIn_r _ [5, 6, 7, 4, 8] (by decide +kernel) (by decide +kernel)
set_option maxRecDepth 20000 in
theorem gX5_round_X5_isRegister : GoodIn wsX5_round (va_wsS RX5 68 yX5_isRegister wsX5_isRegister) := goodIn_app (goodIn_of _ (by decide +kernel)) ggX5_round_X5_isRegister
set_option maxRecDepth 20000 in
theorem ggX5_round_X5_in : GoodIn wsX5_round wsX5_in := goodIn_r _ [8] (by decide +kernel) (by decide +kernel)
set_option maxRecDepth 20000 in
theorem gX5_round_X5_in : GoodIn wsX5_round (va_wsS RX5 36 yX5_in wsX5_in) := goodIn_app (goodIn_of _ (by decide +kernel)) ggX5_round_X5_in
set_option maxRecDepth 20000 in
theorem ggX5_round_X5_record : GoodIn wsX5_round wsX5_record := goodIn_r _ [12, 13, 14, 15, 37, 38, 39, 40, 41, 42, 43, 44, 45, 46, 47] (by decide +kernel) (by decide +kernel)
set_option maxRecDepth 20000 in
theorem gX5_round_X5_record : GoodIn wsX5_round (wsV RX5 52 RX5 yX5_record wsX5_record) := goodIn_app (goodIn_of _ (by decide +kernel)) ggX5_round_X5_record
set_option maxRecDepth 20000 in
theorem ggX5_round_X5_blank : GoodIn wsX5_round wsX5_blank := goodIn_r _ [19, 20, 1, 37, 38, 39, 40, 41, 42, 43, 44, 45, 46, 47] (by decide +kernel) (by decide +kernel)
set_option maxRecDepth 20000 in
theorem gX5_round_X5_blank : GoodIn wsX5_round (wsV RX5 75 RX5 yX5_blank wsX5_blank) := goodIn_app (goodIn_of _ (by decide +kernel)) ggX5_round_X5_blank
set_option maxRecDepth 20000 in
theorem ggX5_round_X5_lengthOf : GoodIn wsX5_round wsX5_lengthOf := goodIn_r _ [24, 15, 37, 38, 39, 40, 41, 42, 43, 44, 45, 46, 47] (by decide +kernel) (by decide +kernel)
set_option maxRecDepth 20000 in
theorem gX5_round_X5_lengthOf : GoodIn wsX5_round (wsV RX5 40 RX5 yX5_lengthOf wsX5_lengthOf) := goodIn_app (goodIn_of _ (by decide +kernel)) ggX5_round_X5_lengthOf
set_option maxRecDepth 20000 in
theorem ggX5_round_X5_at : GoodIn wsX5_round wsX5_at := goodIn_r _ [28, 15, 21, 22, 23, 4, 24, 37, 38, 39, 40, 41, 42, 43, 44, 45, 46, 47] (by decide +kernel) (by decide +kernel)
set_option maxRecDepth 20000 in
theorem gX5_round_X5_at : GoodIn wsX5_round (wsV RX5 65 RX5 yX5_at wsX5_at) := goodIn_app (goodIn_of _ (by decide +kernel)) ggX5_round_X5_at
set_option maxRecDepth 20000 in
theorem ggX5_round_X5_store : GoodIn wsX5_round wsX5_store := goodIn_r _ [32, 15, 20, 1, 37, 38, 39, 40, 41, 42, 43, 44, 45, 46, 47] (by decide +kernel) (by decide +kernel)
set_option maxRecDepth 20000 in
theorem gX5_round_X5_store : GoodIn wsX5_round (wsV RX5 79 RX5 yX5_store wsX5_store) := goodIn_app (goodIn_of _ (by decide +kernel)) ggX5_round_X5_store
set_option maxRecDepth 20000 in
theorem ggX5_round_X5_degreeOut : GoodIn wsX5_round wsX5_degreeOut := goodIn_r _ [36, 20, 1, 37, 38, 39, 40, 41, 42, 43, 44, 45, 46, 47] (by decide +kernel) (by decide +kernel)
set_option maxRecDepth 20000 in
theorem gX5_round_X5_degreeOut : GoodIn wsX5_round (wsV RX5 82 RX5 yX5_degreeOut wsX5_degreeOut) := goodIn_app (goodIn_of _ (by decide +kernel)) ggX5_round_X5_degreeOut
theorem dX5_round_0 : decode cX5_round 0 = .ok (.iload_n 1, 1) := by decide +kernel
theorem dX5_round_1 : decode cX5_round 1 = .ok (.invokestatic 68, 3) := by decide +kernel
theorem dX5_round_4 : decode cX5_round 4 = .ok (.ifCond .eq 18, 3) := by decide +kernel
theorem dX5_round_7 : decode cX5_round 7 = .ok (.iload_n 2, 1) := by decide +kernel
theorem dX5_round_8 : decode cX5_round 8 = .ok (.invokestatic 68, 3) := by decide +kernel
theorem dX5_round_11 : decode cX5_round 11 = .ok (.ifCond .eq 11, 3) := by decide +kernel
theorem dX5_round_14 : decode cX5_round 14 = .ok (.iload 4, 2) := by decide +kernel
theorem dX5_round_16 : decode cX5_round 16 = .ok (.invokestatic 68, 3) := by decide +kernel
theorem dX5_round_19 : decode cX5_round 19 = .ok (.ifCond .ne 5, 3) := by decide +kernel
theorem dX5_round_22 : decode cX5_round 22 = .ok (.iconst (-1), 1) := by decide +kernel
theorem dX5_round_23 : decode cX5_round 23 = .ok (.ireturn, 1) := by decide +kernel
theorem dX5_round_24 : decode cX5_round 24 = .ok (.iload_n 3, 1) := by decide +kernel
theorem dX5_round_25 : decode cX5_round 25 = .ok (.iconst 1, 1) := by decide +kernel
theorem dX5_round_26 : decode cX5_round 26 = .ok (.bipush 64, 2) := by decide +kernel
theorem dX5_round_28 : decode cX5_round 28 = .ok (.invokestatic 36, 3) := by decide +kernel
theorem dX5_round_31 : decode cX5_round 31 = .ok (.ifCond .ne 6, 3) := by decide +kernel
theorem dX5_round_34 : decode cX5_round 34 = .ok (.bipush (-2), 2) := by decide +kernel
theorem dX5_round_36 : decode cX5_round 36 = .ok (.ireturn, 1) := by decide +kernel
theorem dX5_round_37 : decode cX5_round 37 = .ok (.aload_n 0, 1) := by decide +kernel
theorem dX5_round_38 : decode cX5_round 38 = .ok (.invokevirtual 52, 3) := by decide +kernel
theorem dX5_round_41 : decode cX5_round 41 = .ok (.aload_n 0, 1) := by decide +kernel
theorem dX5_round_42 : decode cX5_round 42 = .ok (.iload_n 3, 1) := by decide +kernel
theorem dX5_round_43 : decode cX5_round 43 = .ok (.invokevirtual 75, 3) := by decide +kernel
theorem dX5_round_46 : decode cX5_round 46 = .ok (.iconst 0, 1) := by decide +kernel
theorem dX5_round_47 : decode cX5_round 47 = .ok (.istore 5, 2) := by decide +kernel
theorem dX5_round_49 : decode cX5_round 49 = .ok (.iload 5, 2) := by decide +kernel
theorem dX5_round_51 : decode cX5_round 51 = .ok (.aload_n 0, 1) := by decide +kernel
theorem dX5_round_52 : decode cX5_round 52 = .ok (.iload_n 1, 1) := by decide +kernel
theorem dX5_round_53 : decode cX5_round 53 = .ok (.invokevirtual 40, 3) := by decide +kernel
theorem dX5_round_56 : decode cX5_round 56 = .ok (.if_icmp .ge 71, 3) := by decide +kernel
theorem dX5_round_59 : decode cX5_round 59 = .ok (.iconst 0, 1) := by decide +kernel
theorem dX5_round_60 : decode cX5_round 60 = .ok (.istore 6, 2) := by decide +kernel
theorem dX5_round_62 : decode cX5_round 62 = .ok (.iload 6, 2) := by decide +kernel
theorem dX5_round_64 : decode cX5_round 64 = .ok (.aload_n 0, 1) := by decide +kernel
theorem dX5_round_65 : decode cX5_round 65 = .ok (.iload_n 2, 1) := by decide +kernel
theorem dX5_round_66 : decode cX5_round 66 = .ok (.invokevirtual 40, 3) := by decide +kernel
theorem dX5_round_69 : decode cX5_round 69 = .ok (.if_icmp .ge 52, 3) := by decide +kernel
theorem dX5_round_72 : decode cX5_round 72 = .ok (.iload 5, 2) := by decide +kernel
theorem dX5_round_74 : decode cX5_round 74 = .ok (.iload 6, 2) := by decide +kernel
theorem dX5_round_76 : decode cX5_round 76 = .ok (.iadd, 1) := by decide +kernel
theorem dX5_round_77 : decode cX5_round 77 = .ok (.iload_n 3, 1) := by decide +kernel
theorem dX5_round_78 : decode cX5_round 78 = .ok (.irem, 1) := by decide +kernel
theorem dX5_round_79 : decode cX5_round 79 = .ok (.istore 7, 2) := by decide +kernel
theorem dX5_round_81 : decode cX5_round 81 = .ok (.aload_n 0, 1) := by decide +kernel
theorem dX5_round_82 : decode cX5_round 82 = .ok (.getfield 27, 3) := by decide +kernel
theorem dX5_round_85 : decode cX5_round 85 = .ok (.iload 7, 2) := by decide +kernel
theorem dX5_round_87 : decode cX5_round 87 = .ok (.aload_n 0, 1) := by decide +kernel
theorem dX5_round_88 : decode cX5_round 88 = .ok (.getfield 27, 3) := by decide +kernel
theorem dX5_round_91 : decode cX5_round 91 = .ok (.iload 7, 2) := by decide +kernel
theorem dX5_round_93 : decode cX5_round 93 = .ok (.iaload, 1) := by decide +kernel
theorem dX5_round_94 : decode cX5_round 94 = .ok (.aload_n 0, 1) := by decide +kernel
theorem dX5_round_95 : decode cX5_round 95 = .ok (.iload_n 1, 1) := by decide +kernel
theorem dX5_round_96 : decode cX5_round 96 = .ok (.iload 5, 2) := by decide +kernel
theorem dX5_round_98 : decode cX5_round 98 = .ok (.invokevirtual 65, 3) := by decide +kernel
theorem dX5_round_101 : decode cX5_round 101 = .ok (.aload_n 0, 1) := by decide +kernel
theorem dX5_round_102 : decode cX5_round 102 = .ok (.iload_n 2, 1) := by decide +kernel
theorem dX5_round_103 : decode cX5_round 103 = .ok (.iload 6, 2) := by decide +kernel
theorem dX5_round_105 : decode cX5_round 105 = .ok (.invokevirtual 65, 3) := by decide +kernel
theorem dX5_round_108 : decode cX5_round 108 = .ok (.imul, 1) := by decide +kernel
theorem dX5_round_109 : decode cX5_round 109 = .ok (.iadd, 1) := by decide +kernel
theorem dX5_round_110 : decode cX5_round 110 = .ok (.sipush 257, 3) := by decide +kernel
theorem dX5_round_113 : decode cX5_round 113 = .ok (.irem, 1) := by decide +kernel
theorem dX5_round_114 : decode cX5_round 114 = .ok (.iastore, 1) := by decide +kernel
theorem dX5_round_115 : decode cX5_round 115 = .ok (.iinc 6 1, 3) := by decide +kernel
theorem dX5_round_118 : decode cX5_round 118 = .ok (.goto (-56), 3) := by decide +kernel
theorem dX5_round_121 : decode cX5_round 121 = .ok (.iinc 5 1, 3) := by decide +kernel
theorem dX5_round_124 : decode cX5_round 124 = .ok (.goto (-75), 3) := by decide +kernel
theorem dX5_round_127 : decode cX5_round 127 = .ok (.aload_n 0, 1) := by decide +kernel
theorem dX5_round_128 : decode cX5_round 128 = .ok (.iload 4, 2) := by decide +kernel
theorem dX5_round_130 : decode cX5_round 130 = .ok (.invokevirtual 79, 3) := by decide +kernel
theorem dX5_round_133 : decode cX5_round 133 = .ok (.aload_n 0, 1) := by decide +kernel
theorem dX5_round_134 : decode cX5_round 134 = .ok (.invokevirtual 82, 3) := by decide +kernel
theorem dX5_round_137 : decode cX5_round 137 = .ok (.ireturn, 1) := by decide +kernel
set_option maxRecDepth 20000 in
theorem ggX5_multiplyOut_X5_lengthOf : GoodIn wsX5_multiplyOut wsX5_lengthOf := goodIn_r _ [8, 9, 18, 19, 20, 21, 22, 23, 24, 25, 26, 27, 28] (by decide +kernel) (by decide +kernel)
set_option maxRecDepth 20000 in
theorem gX5_multiplyOut_X5_lengthOf : GoodIn wsX5_multiplyOut (wsV RX5 40 RX5 yX5_lengthOf wsX5_lengthOf) := goodIn_app (goodIn_of _ (by decide +kernel)) ggX5_multiplyOut_X5_lengthOf
set_option maxRecDepth 20000 in
theorem ggX5_multiplyOut_X5_blank : GoodIn wsX5_multiplyOut wsX5_blank := goodIn_r _ [13, 1, 3, 18, 19, 20, 21, 22, 23, 24, 25, 26, 27, 28] (by decide +kernel) (by decide +kernel)
set_option maxRecDepth 20000 in
theorem gX5_multiplyOut_X5_blank : GoodIn wsX5_multiplyOut (wsV RX5 75 RX5 yX5_blank wsX5_blank) := goodIn_app (goodIn_of _ (by decide +kernel)) ggX5_multiplyOut_X5_blank
set_option maxRecDepth 20000 in
theorem ggX5_multiplyOut_X5_at : GoodIn wsX5_multiplyOut wsX5_at := goodIn_r _ [17, 9, 4, 5, 6, 7, 8, 18, 19, 20, 21, 22, 23, 24, 25, 26, 27, 28] (by decide +kernel) (by decide +kernel)
set_option maxRecDepth 20000 in
theorem gX5_multiplyOut_X5_at : GoodIn wsX5_multiplyOut (wsV RX5 65 RX5 yX5_at wsX5_at) := goodIn_app (goodIn_of _ (by decide +kernel)) ggX5_multiplyOut_X5_at
theorem dX5_multiplyOut_0 : decode cX5_multiplyOut 0 = .ok (.aload_n 0, 1) := by decide +kernel
theorem dX5_multiplyOut_1 : decode cX5_multiplyOut 1 = .ok (.getfield 62, 3) := by decide +kernel
theorem dX5_multiplyOut_4 : decode cX5_multiplyOut 4 = .ok (.istore_n 2, 1) := by decide +kernel
theorem dX5_multiplyOut_5 : decode cX5_multiplyOut 5 = .ok (.iconst 0, 1) := by decide +kernel
theorem dX5_multiplyOut_6 : decode cX5_multiplyOut 6 = .ok (.istore_n 3, 1) := by decide +kernel
theorem dX5_multiplyOut_7 : decode cX5_multiplyOut 7 = .ok (.iload_n 3, 1) := by decide +kernel
theorem dX5_multiplyOut_8 : decode cX5_multiplyOut 8 = .ok (.iload_n 2, 1) := by decide +kernel
theorem dX5_multiplyOut_9 : decode cX5_multiplyOut 9 = .ok (.if_icmp .ge 21, 3) := by decide +kernel
theorem dX5_multiplyOut_12 : decode cX5_multiplyOut 12 = .ok (.aload_n 0, 1) := by decide +kernel
theorem dX5_multiplyOut_13 : decode cX5_multiplyOut 13 = .ok (.getfield 30, 3) := by decide +kernel
theorem dX5_multiplyOut_16 : decode cX5_multiplyOut 16 = .ok (.iload_n 3, 1) := by decide +kernel
theorem dX5_multiplyOut_17 : decode cX5_multiplyOut 17 = .ok (.aload_n 0, 1) := by decide +kernel
theorem dX5_multiplyOut_18 : decode cX5_multiplyOut 18 = .ok (.getfield 27, 3) := by decide +kernel
theorem dX5_multiplyOut_21 : decode cX5_multiplyOut 21 = .ok (.iload_n 3, 1) := by decide +kernel
theorem dX5_multiplyOut_22 : decode cX5_multiplyOut 22 = .ok (.iaload, 1) := by decide +kernel
theorem dX5_multiplyOut_23 : decode cX5_multiplyOut 23 = .ok (.iastore, 1) := by decide +kernel
theorem dX5_multiplyOut_24 : decode cX5_multiplyOut 24 = .ok (.iinc 3 1, 3) := by decide +kernel
theorem dX5_multiplyOut_27 : decode cX5_multiplyOut 27 = .ok (.goto (-20), 3) := by decide +kernel
theorem dX5_multiplyOut_30 : decode cX5_multiplyOut 30 = .ok (.aload_n 0, 1) := by decide +kernel
theorem dX5_multiplyOut_31 : decode cX5_multiplyOut 31 = .ok (.iload_n 2, 1) := by decide +kernel
theorem dX5_multiplyOut_32 : decode cX5_multiplyOut 32 = .ok (.aload_n 0, 1) := by decide +kernel
theorem dX5_multiplyOut_33 : decode cX5_multiplyOut 33 = .ok (.iload_n 1, 1) := by decide +kernel
theorem dX5_multiplyOut_34 : decode cX5_multiplyOut 34 = .ok (.invokevirtual 40, 3) := by decide +kernel
theorem dX5_multiplyOut_37 : decode cX5_multiplyOut 37 = .ok (.iadd, 1) := by decide +kernel
theorem dX5_multiplyOut_38 : decode cX5_multiplyOut 38 = .ok (.iconst 1, 1) := by decide +kernel
theorem dX5_multiplyOut_39 : decode cX5_multiplyOut 39 = .ok (.isub, 1) := by decide +kernel
theorem dX5_multiplyOut_40 : decode cX5_multiplyOut 40 = .ok (.invokevirtual 75, 3) := by decide +kernel
theorem dX5_multiplyOut_43 : decode cX5_multiplyOut 43 = .ok (.iconst 0, 1) := by decide +kernel
theorem dX5_multiplyOut_44 : decode cX5_multiplyOut 44 = .ok (.istore_n 3, 1) := by decide +kernel
theorem dX5_multiplyOut_45 : decode cX5_multiplyOut 45 = .ok (.iload_n 3, 1) := by decide +kernel
theorem dX5_multiplyOut_46 : decode cX5_multiplyOut 46 = .ok (.iload_n 2, 1) := by decide +kernel
theorem dX5_multiplyOut_47 : decode cX5_multiplyOut 47 = .ok (.if_icmp .ge 65, 3) := by decide +kernel
theorem dX5_multiplyOut_50 : decode cX5_multiplyOut 50 = .ok (.iconst 0, 1) := by decide +kernel
theorem dX5_multiplyOut_51 : decode cX5_multiplyOut 51 = .ok (.istore 4, 2) := by decide +kernel
theorem dX5_multiplyOut_53 : decode cX5_multiplyOut 53 = .ok (.iload 4, 2) := by decide +kernel
theorem dX5_multiplyOut_55 : decode cX5_multiplyOut 55 = .ok (.aload_n 0, 1) := by decide +kernel
theorem dX5_multiplyOut_56 : decode cX5_multiplyOut 56 = .ok (.iload_n 1, 1) := by decide +kernel
theorem dX5_multiplyOut_57 : decode cX5_multiplyOut 57 = .ok (.invokevirtual 40, 3) := by decide +kernel
theorem dX5_multiplyOut_60 : decode cX5_multiplyOut 60 = .ok (.if_icmp .ge 46, 3) := by decide +kernel
theorem dX5_multiplyOut_63 : decode cX5_multiplyOut 63 = .ok (.aload_n 0, 1) := by decide +kernel
theorem dX5_multiplyOut_64 : decode cX5_multiplyOut 64 = .ok (.getfield 27, 3) := by decide +kernel
theorem dX5_multiplyOut_67 : decode cX5_multiplyOut 67 = .ok (.iload_n 3, 1) := by decide +kernel
theorem dX5_multiplyOut_68 : decode cX5_multiplyOut 68 = .ok (.iload 4, 2) := by decide +kernel
theorem dX5_multiplyOut_70 : decode cX5_multiplyOut 70 = .ok (.iadd, 1) := by decide +kernel
theorem dX5_multiplyOut_71 : decode cX5_multiplyOut 71 = .ok (.aload_n 0, 1) := by decide +kernel
theorem dX5_multiplyOut_72 : decode cX5_multiplyOut 72 = .ok (.getfield 27, 3) := by decide +kernel
theorem dX5_multiplyOut_75 : decode cX5_multiplyOut 75 = .ok (.iload_n 3, 1) := by decide +kernel
theorem dX5_multiplyOut_76 : decode cX5_multiplyOut 76 = .ok (.iload 4, 2) := by decide +kernel
theorem dX5_multiplyOut_78 : decode cX5_multiplyOut 78 = .ok (.iadd, 1) := by decide +kernel
theorem dX5_multiplyOut_79 : decode cX5_multiplyOut 79 = .ok (.iaload, 1) := by decide +kernel
theorem dX5_multiplyOut_80 : decode cX5_multiplyOut 80 = .ok (.aload_n 0, 1) := by decide +kernel
theorem dX5_multiplyOut_81 : decode cX5_multiplyOut 81 = .ok (.getfield 30, 3) := by decide +kernel
theorem dX5_multiplyOut_84 : decode cX5_multiplyOut 84 = .ok (.iload_n 3, 1) := by decide +kernel
theorem dX5_multiplyOut_85 : decode cX5_multiplyOut 85 = .ok (.iaload, 1) := by decide +kernel
theorem dX5_multiplyOut_86 : decode cX5_multiplyOut 86 = .ok (.aload_n 0, 1) := by decide +kernel
theorem dX5_multiplyOut_87 : decode cX5_multiplyOut 87 = .ok (.iload_n 1, 1) := by decide +kernel
theorem dX5_multiplyOut_88 : decode cX5_multiplyOut 88 = .ok (.iload 4, 2) := by decide +kernel
theorem dX5_multiplyOut_90 : decode cX5_multiplyOut 90 = .ok (.invokevirtual 65, 3) := by decide +kernel
theorem dX5_multiplyOut_93 : decode cX5_multiplyOut 93 = .ok (.imul, 1) := by decide +kernel
theorem dX5_multiplyOut_94 : decode cX5_multiplyOut 94 = .ok (.iadd, 1) := by decide +kernel
theorem dX5_multiplyOut_95 : decode cX5_multiplyOut 95 = .ok (.sipush 257, 3) := by decide +kernel
theorem dX5_multiplyOut_98 : decode cX5_multiplyOut 98 = .ok (.irem, 1) := by decide +kernel
theorem dX5_multiplyOut_99 : decode cX5_multiplyOut 99 = .ok (.iastore, 1) := by decide +kernel
theorem dX5_multiplyOut_100 : decode cX5_multiplyOut 100 = .ok (.iinc 4 1, 3) := by decide +kernel
theorem dX5_multiplyOut_103 : decode cX5_multiplyOut 103 = .ok (.goto (-50), 3) := by decide +kernel
theorem dX5_multiplyOut_106 : decode cX5_multiplyOut 106 = .ok (.iinc 3 1, 3) := by decide +kernel
theorem dX5_multiplyOut_109 : decode cX5_multiplyOut 109 = .ok (.goto (-64), 3) := by decide +kernel
theorem dX5_multiplyOut_112 : decode cX5_multiplyOut 112 = .ok (.return_, 1) := by decide +kernel
set_option maxRecDepth 20000 in
theorem ggX5_power_X5_isRegister : GoodIn wsX5_power wsX5_isRegister := goodIn_r _ [6, 7, 8, 5, 9] (by decide +kernel) (by decide +kernel)
set_option maxRecDepth 20000 in
theorem gX5_power_X5_isRegister : GoodIn wsX5_power (va_wsS RX5 68 yX5_isRegister wsX5_isRegister) := goodIn_app (goodIn_of _ (by decide +kernel)) ggX5_power_X5_isRegister
set_option maxRecDepth 20000 in
theorem ggX5_power_X5_in : GoodIn wsX5_power wsX5_in := goodIn_r _ [9] (by decide +kernel) (by decide +kernel)
set_option maxRecDepth 20000 in
theorem gX5_power_X5_in : GoodIn wsX5_power (va_wsS RX5 36 yX5_in wsX5_in) := goodIn_app (goodIn_of _ (by decide +kernel)) ggX5_power_X5_in
set_option maxRecDepth 20000 in
theorem ggX5_power_X5_lengthOf : GoodIn wsX5_power wsX5_lengthOf := goodIn_r _ [13, 14, 38, 39, 40, 41, 42, 43, 44, 45, 46, 47, 48] (by decide +kernel) (by decide +kernel)
set_option maxRecDepth 20000 in
theorem gX5_power_X5_lengthOf : GoodIn wsX5_power (wsV RX5 40 RX5 yX5_lengthOf wsX5_lengthOf) := goodIn_app (goodIn_of _ (by decide +kernel)) ggX5_power_X5_lengthOf
set_option maxRecDepth 20000 in
theorem ggX5_power_X5_record : GoodIn wsX5_power wsX5_record := goodIn_r _ [18, 19, 20, 14, 38, 39, 40, 41, 42, 43, 44, 45, 46, 47, 48] (by decide +kernel) (by decide +kernel)
set_option maxRecDepth 20000 in
theorem gX5_power_X5_record : GoodIn wsX5_power (wsV RX5 52 RX5 yX5_record wsX5_record) := goodIn_app (goodIn_of _ (by decide +kernel)) ggX5_power_X5_record
set_option maxRecDepth 20000 in
theorem ggX5_power_X5_blank : GoodIn wsX5_power wsX5_blank := goodIn_r _ [24, 2, 1, 38, 39, 40, 41, 42, 43, 44, 45, 46, 47, 48] (by decide +kernel) (by decide +kernel)
set_option maxRecDepth 20000 in
theorem gX5_power_X5_blank : GoodIn wsX5_power (wsV RX5 75 RX5 yX5_blank wsX5_blank) := goodIn_app (goodIn_of _ (by decide +kernel)) ggX5_power_X5_blank
set_option maxRecDepth 20000 in
theorem ggX5_power_X5_multiplyOut : GoodIn wsX5_power wsX5_multiplyOut := goodIn_r _ [28, 2, 29, 1, 10, 11, 12, 5, 13, 14, 21, 22, 23, 24, 30, 31, 32, 33, 38, 39, 40, 41, 42, 43, 44, 45, 46, 47, 48] (by decide +kernel) (by decide +kernel)
set_option maxRecDepth 20000 in
theorem gX5_power_X5_multiplyOut : GoodIn wsX5_power (wsV RX5 85 RX5 yX5_multiplyOut wsX5_multiplyOut) := goodIn_app (goodIn_of _ (by decide +kernel)) ggX5_power_X5_multiplyOut
set_option maxRecDepth 20000 in
theorem ggX5_power_X5_store : GoodIn wsX5_power wsX5_store := goodIn_r _ [37, 14, 2, 1, 38, 39, 40, 41, 42, 43, 44, 45, 46, 47, 48] (by decide +kernel) (by decide +kernel)
set_option maxRecDepth 20000 in
theorem gX5_power_X5_store : GoodIn wsX5_power (wsV RX5 79 RX5 yX5_store wsX5_store) := goodIn_app (goodIn_of _ (by decide +kernel)) ggX5_power_X5_store
theorem dX5_power_0 : decode cX5_power 0 = .ok (.iload_n 1, 1) := by decide +kernel
theorem dX5_power_1 : decode cX5_power 1 = .ok (.invokestatic 68, 3) := by decide +kernel
theorem dX5_power_4 : decode cX5_power 4 = .ok (.ifCond .eq 10, 3) := by decide +kernel
theorem dX5_power_7 : decode cX5_power 7 = .ok (.iload_n 3, 1) := by decide +kernel
theorem dX5_power_8 : decode cX5_power 8 = .ok (.invokestatic 68, 3) := by decide +kernel
theorem dX5_power_11 : decode cX5_power 11 = .ok (.ifCond .ne 5, 3) := by decide +kernel
theorem dX5_power_14 : decode cX5_power 14 = .ok (.iconst (-1), 1) := by decide +kernel
theorem dX5_power_15 : decode cX5_power 15 = .ok (.ireturn, 1) := by decide +kernel
theorem dX5_power_16 : decode cX5_power 16 = .ok (.iload_n 2, 1) := by decide +kernel
theorem dX5_power_17 : decode cX5_power 17 = .ok (.iconst 0, 1) := by decide +kernel
theorem dX5_power_18 : decode cX5_power 18 = .ok (.bipush 9, 2) := by decide +kernel
theorem dX5_power_20 : decode cX5_power 20 = .ok (.invokestatic 36, 3) := by decide +kernel
theorem dX5_power_23 : decode cX5_power 23 = .ok (.ifCond .ne 6, 3) := by decide +kernel
theorem dX5_power_26 : decode cX5_power 26 = .ok (.bipush (-2), 2) := by decide +kernel
theorem dX5_power_28 : decode cX5_power 28 = .ok (.ireturn, 1) := by decide +kernel
theorem dX5_power_29 : decode cX5_power 29 = .ok (.iload_n 2, 1) := by decide +kernel
theorem dX5_power_30 : decode cX5_power 30 = .ok (.aload_n 0, 1) := by decide +kernel
theorem dX5_power_31 : decode cX5_power 31 = .ok (.iload_n 1, 1) := by decide +kernel
theorem dX5_power_32 : decode cX5_power 32 = .ok (.invokevirtual 40, 3) := by decide +kernel
theorem dX5_power_35 : decode cX5_power 35 = .ok (.iconst 1, 1) := by decide +kernel
theorem dX5_power_36 : decode cX5_power 36 = .ok (.isub, 1) := by decide +kernel
theorem dX5_power_37 : decode cX5_power 37 = .ok (.imul, 1) := by decide +kernel
theorem dX5_power_38 : decode cX5_power 38 = .ok (.iconst 1, 1) := by decide +kernel
theorem dX5_power_39 : decode cX5_power 39 = .ok (.iadd, 1) := by decide +kernel
theorem dX5_power_40 : decode cX5_power 40 = .ok (.bipush 64, 2) := by decide +kernel
theorem dX5_power_42 : decode cX5_power 42 = .ok (.if_icmp .le 6, 3) := by decide +kernel
theorem dX5_power_45 : decode cX5_power 45 = .ok (.bipush (-4), 2) := by decide +kernel
theorem dX5_power_47 : decode cX5_power 47 = .ok (.ireturn, 1) := by decide +kernel
theorem dX5_power_48 : decode cX5_power 48 = .ok (.aload_n 0, 1) := by decide +kernel
theorem dX5_power_49 : decode cX5_power 49 = .ok (.invokevirtual 52, 3) := by decide +kernel
theorem dX5_power_52 : decode cX5_power 52 = .ok (.aload_n 0, 1) := by decide +kernel
theorem dX5_power_53 : decode cX5_power 53 = .ok (.iconst 1, 1) := by decide +kernel
theorem dX5_power_54 : decode cX5_power 54 = .ok (.invokevirtual 75, 3) := by decide +kernel
theorem dX5_power_57 : decode cX5_power 57 = .ok (.aload_n 0, 1) := by decide +kernel
theorem dX5_power_58 : decode cX5_power 58 = .ok (.getfield 27, 3) := by decide +kernel
theorem dX5_power_61 : decode cX5_power 61 = .ok (.iconst 0, 1) := by decide +kernel
theorem dX5_power_62 : decode cX5_power 62 = .ok (.iconst 1, 1) := by decide +kernel
theorem dX5_power_63 : decode cX5_power 63 = .ok (.iastore, 1) := by decide +kernel
theorem dX5_power_64 : decode cX5_power 64 = .ok (.iconst 0, 1) := by decide +kernel
theorem dX5_power_65 : decode cX5_power 65 = .ok (.istore 4, 2) := by decide +kernel
theorem dX5_power_67 : decode cX5_power 67 = .ok (.iload 4, 2) := by decide +kernel
theorem dX5_power_69 : decode cX5_power 69 = .ok (.iload_n 2, 1) := by decide +kernel
theorem dX5_power_70 : decode cX5_power 70 = .ok (.if_icmp .ge 14, 3) := by decide +kernel
theorem dX5_power_73 : decode cX5_power 73 = .ok (.aload_n 0, 1) := by decide +kernel
theorem dX5_power_74 : decode cX5_power 74 = .ok (.iload_n 1, 1) := by decide +kernel
theorem dX5_power_75 : decode cX5_power 75 = .ok (.invokevirtual 85, 3) := by decide +kernel
theorem dX5_power_78 : decode cX5_power 78 = .ok (.iinc 4 1, 3) := by decide +kernel
theorem dX5_power_81 : decode cX5_power 81 = .ok (.goto (-14), 3) := by decide +kernel
theorem dX5_power_84 : decode cX5_power 84 = .ok (.aload_n 0, 1) := by decide +kernel
theorem dX5_power_85 : decode cX5_power 85 = .ok (.iload_n 3, 1) := by decide +kernel
theorem dX5_power_86 : decode cX5_power 86 = .ok (.invokevirtual 79, 3) := by decide +kernel
theorem dX5_power_89 : decode cX5_power 89 = .ok (.aload_n 0, 1) := by decide +kernel
theorem dX5_power_90 : decode cX5_power 90 = .ok (.getfield 62, 3) := by decide +kernel
theorem dX5_power_93 : decode cX5_power 93 = .ok (.ireturn, 1) := by decide +kernel
set_option maxRecDepth 20000 in
theorem ggX5_inverse_X5_isRegister : GoodIn wsX5_inverse wsX5_isRegister := goodIn_r _ [5, 6, 7, 4, 8] (by decide +kernel) (by decide +kernel)
set_option maxRecDepth 20000 in
theorem gX5_inverse_X5_isRegister : GoodIn wsX5_inverse (va_wsS RX5 68 yX5_isRegister wsX5_isRegister) := goodIn_app (goodIn_of _ (by decide +kernel)) ggX5_inverse_X5_isRegister
set_option maxRecDepth 20000 in
theorem ggX5_inverse_X5_in : GoodIn wsX5_inverse wsX5_in := goodIn_r _ [8] (by decide +kernel) (by decide +kernel)
set_option maxRecDepth 20000 in
theorem gX5_inverse_X5_in : GoodIn wsX5_inverse (va_wsS RX5 36 yX5_in wsX5_in) := goodIn_app (goodIn_of _ (by decide +kernel)) ggX5_inverse_X5_in
set_option maxRecDepth 20000 in
theorem ggX5_inverse_X5_at : GoodIn wsX5_inverse wsX5_at := goodIn_r _ [12, 13, 14, 15, 16, 4, 17, 49, 50, 51, 52, 53, 54, 55, 56, 57, 58, 59] (by decide +kernel) (by decide +kernel)
set_option maxRecDepth 20000 in
theorem gX5_inverse_X5_at : GoodIn wsX5_inverse (wsV RX5 65 RX5 yX5_at wsX5_at) := goodIn_app (goodIn_of _ (by decide +kernel)) ggX5_inverse_X5_at
set_option maxRecDepth 20000 in
theorem ggX5_inverse_X5_record : GoodIn wsX5_inverse wsX5_record := goodIn_r _ [21, 22, 23, 13, 49, 50, 51, 52, 53, 54, 55, 56, 57, 58, 59] (by decide +kernel) (by decide +kernel)
set_option maxRecDepth 20000 in
theorem gX5_inverse_X5_record : GoodIn wsX5_inverse (wsV RX5 52 RX5 yX5_record wsX5_record) := goodIn_app (goodIn_of _ (by decide +kernel)) ggX5_inverse_X5_record
set_option maxRecDepth 20000 in
theorem ggX5_inverse_X5_blank : GoodIn wsX5_inverse wsX5_blank := goodIn_r _ [27, 28, 1, 49, 50, 51, 52, 53, 54, 55, 56, 57, 58, 59] (by decide +kernel) (by decide +kernel)
set_option maxRecDepth 20000 in
theorem gX5_inverse_X5_blank : GoodIn wsX5_inverse (wsV RX5 75 RX5 yX5_blank wsX5_blank) := goodIn_app (goodIn_of _ (by decide +kernel)) ggX5_inverse_X5_blank
set_option maxRecDepth 20000 in
theorem ggX5_inverse_X5_over : GoodIn wsX5_inverse wsX5_over := goodIn_r _ [31, 32, 33, 4, 34, 35, 36, 37] (by decide +kernel) (by decide +kernel)
set_option maxRecDepth 20000 in
theorem gX5_inverse_X5_over : GoodIn wsX5_inverse (va_wsS RX5 88 yX5_over wsX5_over) := goodIn_app (goodIn_of _ (by decide +kernel)) ggX5_inverse_X5_over
set_option maxRecDepth 20000 in
theorem ggX5_inverse_X5_less : GoodIn wsX5_inverse wsX5_less := goodIn_r _ [40] (by decide +kernel) (by decide +kernel)
set_option maxRecDepth 20000 in
theorem gX5_inverse_X5_less : GoodIn wsX5_inverse (va_wsS RX5 91 yX5_less wsX5_less) := goodIn_app (goodIn_of _ (by decide +kernel)) ggX5_inverse_X5_less
set_option maxRecDepth 20000 in
theorem ggX5_inverse_X5_times : GoodIn wsX5_inverse wsX5_times := goodIn_r _ [37] (by decide +kernel) (by decide +kernel)
set_option maxRecDepth 20000 in
theorem gX5_inverse_X5_times : GoodIn wsX5_inverse (va_wsS RX5 55 yX5_times wsX5_times) := goodIn_app (goodIn_of _ (by decide +kernel)) ggX5_inverse_X5_times
set_option maxRecDepth 20000 in
theorem ggX5_inverse_X5_store : GoodIn wsX5_inverse wsX5_store := goodIn_r _ [44, 13, 28, 1, 49, 50, 51, 52, 53, 54, 55, 56, 57, 58, 59] (by decide +kernel) (by decide +kernel)
set_option maxRecDepth 20000 in
theorem gX5_inverse_X5_store : GoodIn wsX5_inverse (wsV RX5 79 RX5 yX5_store wsX5_store) := goodIn_app (goodIn_of _ (by decide +kernel)) ggX5_inverse_X5_store
set_option maxRecDepth 20000 in
theorem ggX5_inverse_X5_degreeOut : GoodIn wsX5_inverse wsX5_degreeOut := goodIn_r _ [48, 28, 1, 49, 50, 51, 52, 53, 54, 55, 56, 57, 58, 59] (by decide +kernel) (by decide +kernel)
set_option maxRecDepth 20000 in
theorem gX5_inverse_X5_degreeOut : GoodIn wsX5_inverse (wsV RX5 82 RX5 yX5_degreeOut wsX5_degreeOut) := goodIn_app (goodIn_of _ (by decide +kernel)) ggX5_inverse_X5_degreeOut
theorem dX5_inverse_0 : decode cX5_inverse 0 = .ok (.iload_n 1, 1) := by decide +kernel
theorem dX5_inverse_1 : decode cX5_inverse 1 = .ok (.invokestatic 68, 3) := by decide +kernel
theorem dX5_inverse_4 : decode cX5_inverse 4 = .ok (.ifCond .eq 10, 3) := by decide +kernel
theorem dX5_inverse_7 : decode cX5_inverse 7 = .ok (.iload_n 3, 1) := by decide +kernel
theorem dX5_inverse_8 : decode cX5_inverse 8 = .ok (.invokestatic 68, 3) := by decide +kernel
theorem dX5_inverse_11 : decode cX5_inverse 11 = .ok (.ifCond .ne 5, 3) := by decide +kernel
theorem dX5_inverse_14 : decode cX5_inverse 14 = .ok (.iconst (-1), 1) := by decide +kernel
theorem dX5_inverse_15 : decode cX5_inverse 15 = .ok (.ireturn, 1) := by decide +kernel
theorem dX5_inverse_16 : decode cX5_inverse 16 = .ok (.iload_n 2, 1) := by decide +kernel
theorem dX5_inverse_17 : decode cX5_inverse 17 = .ok (.iconst 1, 1) := by decide +kernel
theorem dX5_inverse_18 : decode cX5_inverse 18 = .ok (.bipush 64, 2) := by decide +kernel
theorem dX5_inverse_20 : decode cX5_inverse 20 = .ok (.invokestatic 36, 3) := by decide +kernel
theorem dX5_inverse_23 : decode cX5_inverse 23 = .ok (.ifCond .ne 6, 3) := by decide +kernel
theorem dX5_inverse_26 : decode cX5_inverse 26 = .ok (.bipush (-2), 2) := by decide +kernel
theorem dX5_inverse_28 : decode cX5_inverse 28 = .ok (.ireturn, 1) := by decide +kernel
theorem dX5_inverse_29 : decode cX5_inverse 29 = .ok (.aload_n 0, 1) := by decide +kernel
theorem dX5_inverse_30 : decode cX5_inverse 30 = .ok (.iload_n 1, 1) := by decide +kernel
theorem dX5_inverse_31 : decode cX5_inverse 31 = .ok (.iconst 0, 1) := by decide +kernel
theorem dX5_inverse_32 : decode cX5_inverse 32 = .ok (.invokevirtual 65, 3) := by decide +kernel
theorem dX5_inverse_35 : decode cX5_inverse 35 = .ok (.ifCond .ne 6, 3) := by decide +kernel
theorem dX5_inverse_38 : decode cX5_inverse 38 = .ok (.bipush (-5), 2) := by decide +kernel
theorem dX5_inverse_40 : decode cX5_inverse 40 = .ok (.ireturn, 1) := by decide +kernel
theorem dX5_inverse_41 : decode cX5_inverse 41 = .ok (.aload_n 0, 1) := by decide +kernel
theorem dX5_inverse_42 : decode cX5_inverse 42 = .ok (.invokevirtual 52, 3) := by decide +kernel
theorem dX5_inverse_45 : decode cX5_inverse 45 = .ok (.aload_n 0, 1) := by decide +kernel
theorem dX5_inverse_46 : decode cX5_inverse 46 = .ok (.iload_n 2, 1) := by decide +kernel
theorem dX5_inverse_47 : decode cX5_inverse 47 = .ok (.invokevirtual 75, 3) := by decide +kernel
theorem dX5_inverse_50 : decode cX5_inverse 50 = .ok (.aload_n 0, 1) := by decide +kernel
theorem dX5_inverse_51 : decode cX5_inverse 51 = .ok (.iload_n 1, 1) := by decide +kernel
theorem dX5_inverse_52 : decode cX5_inverse 52 = .ok (.iconst 0, 1) := by decide +kernel
theorem dX5_inverse_53 : decode cX5_inverse 53 = .ok (.invokevirtual 65, 3) := by decide +kernel
theorem dX5_inverse_56 : decode cX5_inverse 56 = .ok (.invokestatic 88, 3) := by decide +kernel
theorem dX5_inverse_59 : decode cX5_inverse 59 = .ok (.istore 4, 2) := by decide +kernel
theorem dX5_inverse_61 : decode cX5_inverse 61 = .ok (.iconst 0, 1) := by decide +kernel
theorem dX5_inverse_62 : decode cX5_inverse 62 = .ok (.istore 5, 2) := by decide +kernel
theorem dX5_inverse_64 : decode cX5_inverse 64 = .ok (.iload 5, 2) := by decide +kernel
theorem dX5_inverse_66 : decode cX5_inverse 66 = .ok (.iload_n 2, 1) := by decide +kernel
theorem dX5_inverse_67 : decode cX5_inverse 67 = .ok (.if_icmp .ge 82, 3) := by decide +kernel
theorem dX5_inverse_70 : decode cX5_inverse 70 = .ok (.iconst 0, 1) := by decide +kernel
theorem dX5_inverse_71 : decode cX5_inverse 71 = .ok (.istore 6, 2) := by decide +kernel
theorem dX5_inverse_73 : decode cX5_inverse 73 = .ok (.iconst 1, 1) := by decide +kernel
theorem dX5_inverse_74 : decode cX5_inverse 74 = .ok (.istore 7, 2) := by decide +kernel
theorem dX5_inverse_76 : decode cX5_inverse 76 = .ok (.iload 7, 2) := by decide +kernel
theorem dX5_inverse_78 : decode cX5_inverse 78 = .ok (.iload 5, 2) := by decide +kernel
theorem dX5_inverse_80 : decode cX5_inverse 80 = .ok (.if_icmp .gt 32, 3) := by decide +kernel
theorem dX5_inverse_83 : decode cX5_inverse 83 = .ok (.iload 6, 2) := by decide +kernel
theorem dX5_inverse_85 : decode cX5_inverse 85 = .ok (.aload_n 0, 1) := by decide +kernel
theorem dX5_inverse_86 : decode cX5_inverse 86 = .ok (.iload_n 1, 1) := by decide +kernel
theorem dX5_inverse_87 : decode cX5_inverse 87 = .ok (.iload 7, 2) := by decide +kernel
theorem dX5_inverse_89 : decode cX5_inverse 89 = .ok (.invokevirtual 65, 3) := by decide +kernel
theorem dX5_inverse_92 : decode cX5_inverse 92 = .ok (.aload_n 0, 1) := by decide +kernel
theorem dX5_inverse_93 : decode cX5_inverse 93 = .ok (.getfield 27, 3) := by decide +kernel
theorem dX5_inverse_96 : decode cX5_inverse 96 = .ok (.iload 5, 2) := by decide +kernel
theorem dX5_inverse_98 : decode cX5_inverse 98 = .ok (.iload 7, 2) := by decide +kernel
theorem dX5_inverse_100 : decode cX5_inverse 100 = .ok (.isub, 1) := by decide +kernel
theorem dX5_inverse_101 : decode cX5_inverse 101 = .ok (.iaload, 1) := by decide +kernel
theorem dX5_inverse_102 : decode cX5_inverse 102 = .ok (.imul, 1) := by decide +kernel
theorem dX5_inverse_103 : decode cX5_inverse 103 = .ok (.iadd, 1) := by decide +kernel
theorem dX5_inverse_104 : decode cX5_inverse 104 = .ok (.istore 6, 2) := by decide +kernel
theorem dX5_inverse_106 : decode cX5_inverse 106 = .ok (.iinc 7 1, 3) := by decide +kernel
theorem dX5_inverse_109 : decode cX5_inverse 109 = .ok (.goto (-33), 3) := by decide +kernel
theorem dX5_inverse_112 : decode cX5_inverse 112 = .ok (.aload_n 0, 1) := by decide +kernel
theorem dX5_inverse_113 : decode cX5_inverse 113 = .ok (.getfield 27, 3) := by decide +kernel
theorem dX5_inverse_116 : decode cX5_inverse 116 = .ok (.iload 5, 2) := by decide +kernel
theorem dX5_inverse_118 : decode cX5_inverse 118 = .ok (.iload 5, 2) := by decide +kernel
theorem dX5_inverse_120 : decode cX5_inverse 120 = .ok (.ifCond .ne 7, 3) := by decide +kernel
theorem dX5_inverse_123 : decode cX5_inverse 123 = .ok (.iconst 1, 1) := by decide +kernel
theorem dX5_inverse_124 : decode cX5_inverse 124 = .ok (.goto 4, 3) := by decide +kernel
theorem dX5_inverse_127 : decode cX5_inverse 127 = .ok (.iconst 0, 1) := by decide +kernel
theorem dX5_inverse_128 : decode cX5_inverse 128 = .ok (.iload 6, 2) := by decide +kernel
theorem dX5_inverse_130 : decode cX5_inverse 130 = .ok (.sipush 257, 3) := by decide +kernel
theorem dX5_inverse_133 : decode cX5_inverse 133 = .ok (.irem, 1) := by decide +kernel
theorem dX5_inverse_134 : decode cX5_inverse 134 = .ok (.invokestatic 91, 3) := by decide +kernel
theorem dX5_inverse_137 : decode cX5_inverse 137 = .ok (.iload 4, 2) := by decide +kernel
theorem dX5_inverse_139 : decode cX5_inverse 139 = .ok (.invokestatic 55, 3) := by decide +kernel
theorem dX5_inverse_142 : decode cX5_inverse 142 = .ok (.iastore, 1) := by decide +kernel
theorem dX5_inverse_143 : decode cX5_inverse 143 = .ok (.iinc 5 1, 3) := by decide +kernel
theorem dX5_inverse_146 : decode cX5_inverse 146 = .ok (.goto (-82), 3) := by decide +kernel
theorem dX5_inverse_149 : decode cX5_inverse 149 = .ok (.aload_n 0, 1) := by decide +kernel
theorem dX5_inverse_150 : decode cX5_inverse 150 = .ok (.iload_n 3, 1) := by decide +kernel
theorem dX5_inverse_151 : decode cX5_inverse 151 = .ok (.invokevirtual 79, 3) := by decide +kernel
theorem dX5_inverse_154 : decode cX5_inverse 154 = .ok (.aload_n 0, 1) := by decide +kernel
theorem dX5_inverse_155 : decode cX5_inverse 155 = .ok (.invokevirtual 82, 3) := by decide +kernel
theorem dX5_inverse_158 : decode cX5_inverse 158 = .ok (.ireturn, 1) := by decide +kernel
set_option maxRecDepth 20000 in
theorem ggX5_divideRows_X5_over : GoodIn wsX5_divideRows wsX5_over := goodIn_r _ [7, 8, 9, 6, 10, 11, 12, 13] (by decide +kernel) (by decide +kernel)
set_option maxRecDepth 20000 in
theorem gX5_divideRows_X5_over : GoodIn wsX5_divideRows (va_wsS RX5 88 yX5_over wsX5_over) := goodIn_app (goodIn_of _ (by decide +kernel)) ggX5_divideRows_X5_over
set_option maxRecDepth 20000 in
theorem ggX5_divideRows_X5_times : GoodIn wsX5_divideRows wsX5_times := goodIn_r _ [13] (by decide +kernel) (by decide +kernel)
set_option maxRecDepth 20000 in
theorem gX5_divideRows_X5_times : GoodIn wsX5_divideRows (va_wsS RX5 55 yX5_times wsX5_times) := goodIn_app (goodIn_of _ (by decide +kernel)) ggX5_divideRows_X5_times
set_option maxRecDepth 20000 in
theorem ggX5_divideRows_X5_less : GoodIn wsX5_divideRows wsX5_less := goodIn_r _ [16] (by decide +kernel) (by decide +kernel)
set_option maxRecDepth 20000 in
theorem gX5_divideRows_X5_less : GoodIn wsX5_divideRows (va_wsS RX5 91 yX5_less wsX5_less) := goodIn_app (goodIn_of _ (by decide +kernel)) ggX5_divideRows_X5_less
theorem dX5_divideRows_0 : decode cX5_divideRows 0 = .ok (.aload_n 0, 1) := by decide +kernel
theorem dX5_divideRows_1 : decode cX5_divideRows 1 = .ok (.getfield 33, 3) := by decide +kernel
theorem dX5_divideRows_4 : decode cX5_divideRows 4 = .ok (.iload_n 2, 1) := by decide +kernel
theorem dX5_divideRows_5 : decode cX5_divideRows 5 = .ok (.iaload, 1) := by decide +kernel
theorem dX5_divideRows_6 : decode cX5_divideRows 6 = .ok (.invokestatic 88, 3) := by decide +kernel
theorem dX5_divideRows_9 : decode cX5_divideRows 9 = .ok (.istore_n 3, 1) := by decide +kernel
theorem dX5_divideRows_10 : decode cX5_divideRows 10 = .ok (.iload_n 1, 1) := by decide +kernel
theorem dX5_divideRows_11 : decode cX5_divideRows 11 = .ok (.iload_n 2, 1) := by decide +kernel
theorem dX5_divideRows_12 : decode cX5_divideRows 12 = .ok (.isub, 1) := by decide +kernel
theorem dX5_divideRows_13 : decode cX5_divideRows 13 = .ok (.istore 4, 2) := by decide +kernel
theorem dX5_divideRows_15 : decode cX5_divideRows 15 = .ok (.iload 4, 2) := by decide +kernel
theorem dX5_divideRows_17 : decode cX5_divideRows 17 = .ok (.ifCond .lt 83, 3) := by decide +kernel
theorem dX5_divideRows_20 : decode cX5_divideRows 20 = .ok (.aload_n 0, 1) := by decide +kernel
theorem dX5_divideRows_21 : decode cX5_divideRows 21 = .ok (.getfield 30, 3) := by decide +kernel
theorem dX5_divideRows_24 : decode cX5_divideRows 24 = .ok (.iload 4, 2) := by decide +kernel
theorem dX5_divideRows_26 : decode cX5_divideRows 26 = .ok (.iload_n 2, 1) := by decide +kernel
theorem dX5_divideRows_27 : decode cX5_divideRows 27 = .ok (.iadd, 1) := by decide +kernel
theorem dX5_divideRows_28 : decode cX5_divideRows 28 = .ok (.iaload, 1) := by decide +kernel
theorem dX5_divideRows_29 : decode cX5_divideRows 29 = .ok (.iload_n 3, 1) := by decide +kernel
theorem dX5_divideRows_30 : decode cX5_divideRows 30 = .ok (.invokestatic 55, 3) := by decide +kernel
theorem dX5_divideRows_33 : decode cX5_divideRows 33 = .ok (.istore 5, 2) := by decide +kernel
theorem dX5_divideRows_35 : decode cX5_divideRows 35 = .ok (.aload_n 0, 1) := by decide +kernel
theorem dX5_divideRows_36 : decode cX5_divideRows 36 = .ok (.getfield 27, 3) := by decide +kernel
theorem dX5_divideRows_39 : decode cX5_divideRows 39 = .ok (.iload 4, 2) := by decide +kernel
theorem dX5_divideRows_41 : decode cX5_divideRows 41 = .ok (.iload 5, 2) := by decide +kernel
theorem dX5_divideRows_43 : decode cX5_divideRows 43 = .ok (.iastore, 1) := by decide +kernel
theorem dX5_divideRows_44 : decode cX5_divideRows 44 = .ok (.iconst 0, 1) := by decide +kernel
theorem dX5_divideRows_45 : decode cX5_divideRows 45 = .ok (.istore 6, 2) := by decide +kernel
theorem dX5_divideRows_47 : decode cX5_divideRows 47 = .ok (.iload 6, 2) := by decide +kernel
theorem dX5_divideRows_49 : decode cX5_divideRows 49 = .ok (.iload_n 2, 1) := by decide +kernel
theorem dX5_divideRows_50 : decode cX5_divideRows 50 = .ok (.if_icmp .gt 44, 3) := by decide +kernel
theorem dX5_divideRows_53 : decode cX5_divideRows 53 = .ok (.aload_n 0, 1) := by decide +kernel
theorem dX5_divideRows_54 : decode cX5_divideRows 54 = .ok (.getfield 30, 3) := by decide +kernel
theorem dX5_divideRows_57 : decode cX5_divideRows 57 = .ok (.iload 4, 2) := by decide +kernel
theorem dX5_divideRows_59 : decode cX5_divideRows 59 = .ok (.iload 6, 2) := by decide +kernel
theorem dX5_divideRows_61 : decode cX5_divideRows 61 = .ok (.iadd, 1) := by decide +kernel
theorem dX5_divideRows_62 : decode cX5_divideRows 62 = .ok (.aload_n 0, 1) := by decide +kernel
theorem dX5_divideRows_63 : decode cX5_divideRows 63 = .ok (.getfield 30, 3) := by decide +kernel
theorem dX5_divideRows_66 : decode cX5_divideRows 66 = .ok (.iload 4, 2) := by decide +kernel
theorem dX5_divideRows_68 : decode cX5_divideRows 68 = .ok (.iload 6, 2) := by decide +kernel
theorem dX5_divideRows_70 : decode cX5_divideRows 70 = .ok (.iadd, 1) := by decide +kernel
theorem dX5_divideRows_71 : decode cX5_divideRows 71 = .ok (.iaload, 1) := by decide +kernel
theorem dX5_divideRows_72 : decode cX5_divideRows 72 = .ok (.iload 5, 2) := by decide +kernel
theorem dX5_divideRows_74 : decode cX5_divideRows 74 = .ok (.aload_n 0, 1) := by decide +kernel
theorem dX5_divideRows_75 : decode cX5_divideRows 75 = .ok (.getfield 33, 3) := by decide +kernel
theorem dX5_divideRows_78 : decode cX5_divideRows 78 = .ok (.iload 6, 2) := by decide +kernel
theorem dX5_divideRows_80 : decode cX5_divideRows 80 = .ok (.iaload, 1) := by decide +kernel
theorem dX5_divideRows_81 : decode cX5_divideRows 81 = .ok (.invokestatic 55, 3) := by decide +kernel
theorem dX5_divideRows_84 : decode cX5_divideRows 84 = .ok (.invokestatic 91, 3) := by decide +kernel
theorem dX5_divideRows_87 : decode cX5_divideRows 87 = .ok (.iastore, 1) := by decide +kernel
theorem dX5_divideRows_88 : decode cX5_divideRows 88 = .ok (.iinc 6 1, 3) := by decide +kernel
theorem dX5_divideRows_91 : decode cX5_divideRows 91 = .ok (.goto (-44), 3) := by decide +kernel
theorem dX5_divideRows_94 : decode cX5_divideRows 94 = .ok (.iinc 4 (-1), 3) := by decide +kernel
theorem dX5_divideRows_97 : decode cX5_divideRows 97 = .ok (.goto (-82), 3) := by decide +kernel
theorem dX5_divideRows_100 : decode cX5_divideRows 100 = .ok (.return_, 1) := by decide +kernel
set_option maxRecDepth 20000 in
theorem ggX5_divide_X5_isRegister : GoodIn wsX5_divide wsX5_isRegister := goodIn_r _ [7, 8, 9, 6, 10] (by decide +kernel) (by decide +kernel)
set_option maxRecDepth 20000 in
theorem gX5_divide_X5_isRegister : GoodIn wsX5_divide (va_wsS RX5 68 yX5_isRegister wsX5_isRegister) := goodIn_app (goodIn_of _ (by decide +kernel)) ggX5_divide_X5_isRegister
set_option maxRecDepth 20000 in
theorem ggX5_divide_X5_degreeOf : GoodIn wsX5_divide wsX5_degreeOf := goodIn_r _ [14, 15, 16, 17, 6, 18, 19, 20, 21, 22, 23, 59, 60, 61, 62, 63, 64, 65, 66, 67, 68, 69] (by decide +kernel) (by decide +kernel)
set_option maxRecDepth 20000 in
theorem gX5_divide_X5_degreeOf : GoodIn wsX5_divide (wsV RX5 94 RX5 yX5_degreeOf wsX5_degreeOf) := goodIn_app (goodIn_of _ (by decide +kernel)) ggX5_divide_X5_degreeOf
set_option maxRecDepth 20000 in
theorem ggX5_divide_X5_record : GoodIn wsX5_divide wsX5_record := goodIn_r _ [27, 28, 29, 19, 59, 60, 61, 62, 63, 64, 65, 66, 67, 68, 69] (by decide +kernel) (by decide +kernel)
set_option maxRecDepth 20000 in
theorem gX5_divide_X5_record : GoodIn wsX5_divide (wsV RX5 52 RX5 yX5_record wsX5_record) := goodIn_app (goodIn_of _ (by decide +kernel)) ggX5_divide_X5_record
set_option maxRecDepth 20000 in
theorem ggX5_divide_X5_at : GoodIn wsX5_divide wsX5_at := goodIn_r _ [23, 19, 15, 16, 17, 6, 18, 59, 60, 61, 62, 63, 64, 65, 66, 67, 68, 69] (by decide +kernel) (by decide +kernel)
set_option maxRecDepth 20000 in
theorem gX5_divide_X5_at : GoodIn wsX5_divide (wsV RX5 65 RX5 yX5_at wsX5_at) := goodIn_app (goodIn_of _ (by decide +kernel)) ggX5_divide_X5_at
set_option maxRecDepth 20000 in
theorem ggX5_divide_X5_blank : GoodIn wsX5_divide wsX5_blank := goodIn_r _ [33, 34, 3, 59, 60, 61, 62, 63, 64, 65, 66, 67, 68, 69] (by decide +kernel) (by decide +kernel)
set_option maxRecDepth 20000 in
theorem gX5_divide_X5_blank : GoodIn wsX5_divide (wsV RX5 75 RX5 yX5_blank wsX5_blank) := goodIn_app (goodIn_of _ (by decide +kernel)) ggX5_divide_X5_blank
set_option maxRecDepth 20000 in
theorem ggX5_divide_X5_divideRows : GoodIn wsX5_divide wsX5_divideRows := goodIn_r _ [38, 2, 1, 3, 39, 40, 6, 41, 42, 43, 44, 45, 46, 47, 48, 49, 50, 59, 60, 61, 62, 63, 64, 65, 66, 67, 68, 69] (by decide +kernel) (by decide +kernel)
set_option maxRecDepth 20000 in
theorem gX5_divide_X5_divideRows : GoodIn wsX5_divide (wsV RX5 97 RX5 yX5_divideRows wsX5_divideRows) := goodIn_app (goodIn_of _ (by decide +kernel)) ggX5_divide_X5_divideRows
set_option maxRecDepth 20000 in
theorem ggX5_divide_X5_store : GoodIn wsX5_divide wsX5_store := goodIn_r _ [54, 19, 34, 3, 59, 60, 61, 62, 63, 64, 65, 66, 67, 68, 69] (by decide +kernel) (by decide +kernel)
set_option maxRecDepth 20000 in
theorem gX5_divide_X5_store : GoodIn wsX5_divide (wsV RX5 79 RX5 yX5_store wsX5_store) := goodIn_app (goodIn_of _ (by decide +kernel)) ggX5_divide_X5_store
set_option maxRecDepth 20000 in
theorem ggX5_divide_X5_degreeOut : GoodIn wsX5_divide wsX5_degreeOut := goodIn_r _ [58, 34, 3, 59, 60, 61, 62, 63, 64, 65, 66, 67, 68, 69] (by decide +kernel) (by decide +kernel)
set_option maxRecDepth 20000 in
theorem gX5_divide_X5_degreeOut : GoodIn wsX5_divide (wsV RX5 82 RX5 yX5_degreeOut wsX5_degreeOut) := goodIn_app (goodIn_of _ (by decide +kernel)) ggX5_divide_X5_degreeOut
theorem dX5_divide_0 : decode cX5_divide 0 = .ok (.iload_n 1, 1) := by decide +kernel
theorem dX5_divide_1 : decode cX5_divide 1 = .ok (.invokestatic 68, 3) := by decide +kernel
theorem dX5_divide_4 : decode cX5_divide 4 = .ok (.ifCond .eq 25, 3) := by decide +kernel
theorem dX5_divide_7 : decode cX5_divide 7 = .ok (.iload_n 2, 1) := by decide +kernel
theorem dX5_divide_8 : decode cX5_divide 8 = .ok (.invokestatic 68, 3) := by decide +kernel
theorem dX5_divide_11 : decode cX5_divide 11 = .ok (.ifCond .eq 18, 3) := by decide +kernel
theorem dX5_divide_14 : decode cX5_divide 14 = .ok (.iload_n 3, 1) := by decide +kernel
theorem dX5_divide_15 : decode cX5_divide 15 = .ok (.invokestatic 68, 3) := by decide +kernel
theorem dX5_divide_18 : decode cX5_divide 18 = .ok (.ifCond .eq 11, 3) := by decide +kernel
theorem dX5_divide_21 : decode cX5_divide 21 = .ok (.iload 4, 2) := by decide +kernel
theorem dX5_divide_23 : decode cX5_divide 23 = .ok (.invokestatic 68, 3) := by decide +kernel
theorem dX5_divide_26 : decode cX5_divide 26 = .ok (.ifCond .ne 5, 3) := by decide +kernel
theorem dX5_divide_29 : decode cX5_divide 29 = .ok (.iconst (-1), 1) := by decide +kernel
theorem dX5_divide_30 : decode cX5_divide 30 = .ok (.ireturn, 1) := by decide +kernel
theorem dX5_divide_31 : decode cX5_divide 31 = .ok (.iload_n 3, 1) := by decide +kernel
theorem dX5_divide_32 : decode cX5_divide 32 = .ok (.iload 4, 2) := by decide +kernel
theorem dX5_divide_34 : decode cX5_divide 34 = .ok (.if_icmp .ne 6, 3) := by decide +kernel
theorem dX5_divide_37 : decode cX5_divide 37 = .ok (.bipush (-2), 2) := by decide +kernel
theorem dX5_divide_39 : decode cX5_divide 39 = .ok (.ireturn, 1) := by decide +kernel
theorem dX5_divide_40 : decode cX5_divide 40 = .ok (.aload_n 0, 1) := by decide +kernel
theorem dX5_divide_41 : decode cX5_divide 41 = .ok (.iload_n 1, 1) := by decide +kernel
theorem dX5_divide_42 : decode cX5_divide 42 = .ok (.invokevirtual 94, 3) := by decide +kernel
theorem dX5_divide_45 : decode cX5_divide 45 = .ok (.istore 5, 2) := by decide +kernel
theorem dX5_divide_47 : decode cX5_divide 47 = .ok (.aload_n 0, 1) := by decide +kernel
theorem dX5_divide_48 : decode cX5_divide 48 = .ok (.iload_n 2, 1) := by decide +kernel
theorem dX5_divide_49 : decode cX5_divide 49 = .ok (.invokevirtual 94, 3) := by decide +kernel
theorem dX5_divide_52 : decode cX5_divide 52 = .ok (.istore 6, 2) := by decide +kernel
theorem dX5_divide_54 : decode cX5_divide 54 = .ok (.iload 6, 2) := by decide +kernel
theorem dX5_divide_56 : decode cX5_divide 56 = .ok (.bipush (-6), 2) := by decide +kernel
theorem dX5_divide_58 : decode cX5_divide 58 = .ok (.if_icmp .ne 6, 3) := by decide +kernel
theorem dX5_divide_61 : decode cX5_divide 61 = .ok (.bipush (-5), 2) := by decide +kernel
theorem dX5_divide_63 : decode cX5_divide 63 = .ok (.ireturn, 1) := by decide +kernel
theorem dX5_divide_64 : decode cX5_divide 64 = .ok (.aload_n 0, 1) := by decide +kernel
theorem dX5_divide_65 : decode cX5_divide 65 = .ok (.invokevirtual 52, 3) := by decide +kernel
theorem dX5_divide_68 : decode cX5_divide 68 = .ok (.iconst 0, 1) := by decide +kernel
theorem dX5_divide_69 : decode cX5_divide 69 = .ok (.istore 7, 2) := by decide +kernel
theorem dX5_divide_71 : decode cX5_divide 71 = .ok (.iload 7, 2) := by decide +kernel
theorem dX5_divide_73 : decode cX5_divide 73 = .ok (.bipush 64, 2) := by decide +kernel
theorem dX5_divide_75 : decode cX5_divide 75 = .ok (.if_icmp .ge 37, 3) := by decide +kernel
theorem dX5_divide_78 : decode cX5_divide 78 = .ok (.aload_n 0, 1) := by decide +kernel
theorem dX5_divide_79 : decode cX5_divide 79 = .ok (.getfield 30, 3) := by decide +kernel
theorem dX5_divide_82 : decode cX5_divide 82 = .ok (.iload 7, 2) := by decide +kernel
theorem dX5_divide_84 : decode cX5_divide 84 = .ok (.aload_n 0, 1) := by decide +kernel
theorem dX5_divide_85 : decode cX5_divide 85 = .ok (.iload_n 1, 1) := by decide +kernel
theorem dX5_divide_86 : decode cX5_divide 86 = .ok (.iload 7, 2) := by decide +kernel
theorem dX5_divide_88 : decode cX5_divide 88 = .ok (.invokevirtual 65, 3) := by decide +kernel
theorem dX5_divide_91 : decode cX5_divide 91 = .ok (.iastore, 1) := by decide +kernel
theorem dX5_divide_92 : decode cX5_divide 92 = .ok (.aload_n 0, 1) := by decide +kernel
theorem dX5_divide_93 : decode cX5_divide 93 = .ok (.getfield 33, 3) := by decide +kernel
theorem dX5_divide_96 : decode cX5_divide 96 = .ok (.iload 7, 2) := by decide +kernel
theorem dX5_divide_98 : decode cX5_divide 98 = .ok (.aload_n 0, 1) := by decide +kernel
theorem dX5_divide_99 : decode cX5_divide 99 = .ok (.iload_n 2, 1) := by decide +kernel
theorem dX5_divide_100 : decode cX5_divide 100 = .ok (.iload 7, 2) := by decide +kernel
theorem dX5_divide_102 : decode cX5_divide 102 = .ok (.invokevirtual 65, 3) := by decide +kernel
theorem dX5_divide_105 : decode cX5_divide 105 = .ok (.iastore, 1) := by decide +kernel
theorem dX5_divide_106 : decode cX5_divide 106 = .ok (.iinc 7 1, 3) := by decide +kernel
theorem dX5_divide_109 : decode cX5_divide 109 = .ok (.goto (-38), 3) := by decide +kernel
theorem dX5_divide_112 : decode cX5_divide 112 = .ok (.aload_n 0, 1) := by decide +kernel
