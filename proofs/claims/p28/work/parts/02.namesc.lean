theorem dX4_pointOf_27 : decode cX4_pointOf 27 = .ok (.idiv, 1) := by decide +kernel
theorem dX4_pointOf_28 : decode cX4_pointOf 28 = .ok (.invokestatic 159, 3) := by decide +kernel
theorem dX4_pointOf_31 : decode cX4_pointOf 31 = .ok (.ireturn, 1) := by decide +kernel
set_option maxRecDepth 20000 in
theorem ggX4_productLength_X2_length : GoodIn wsX4_productLength wsX2_length := goodIn_r _ [5, 6, 7, 8] (by decide +kernel) (by decide +kernel)
set_option maxRecDepth 20000 in
theorem gX4_productLength_X2_length : GoodIn wsX4_productLength (wsV RX4 72 RX2 yX2_length wsX2_length) := goodIn_app (goodIn_of _ (by decide +kernel)) ggX4_productLength_X2_length
theorem dX4_productLength_0 : decode cX4_productLength 0 = .ok (.aload_n 0, 1) := by decide +kernel
theorem dX4_productLength_1 : decode cX4_productLength 1 = .ok (.invokevirtual 72, 3) := by decide +kernel
theorem dX4_productLength_4 : decode cX4_productLength 4 = .ok (.aload_n 1, 1) := by decide +kernel
theorem dX4_productLength_5 : decode cX4_productLength 5 = .ok (.invokevirtual 72, 3) := by decide +kernel
theorem dX4_productLength_8 : decode cX4_productLength 8 = .ok (.iadd, 1) := by decide +kernel
theorem dX4_productLength_9 : decode cX4_productLength 9 = .ok (.iconst 1, 1) := by decide +kernel
theorem dX4_productLength_10 : decode cX4_productLength 10 = .ok (.isub, 1) := by decide +kernel
theorem dX4_productLength_11 : decode cX4_productLength 11 = .ok (.ireturn, 1) := by decide +kernel
set_option maxRecDepth 20000 in
theorem ggX4_multiply_X2_clear : GoodIn wsX4_multiply wsX2_clear := goodIn_r _ [5, 6, 7, 8, 9, 10, 11, 32, 33] (by decide +kernel) (by decide +kernel)
set_option maxRecDepth 20000 in
theorem gX4_multiply_X2_clear : GoodIn wsX4_multiply (wsV RX4 98 RX2 yX2_clear wsX2_clear) := goodIn_app (goodIn_of _ (by decide +kernel)) ggX4_multiply_X2_clear
set_option maxRecDepth 20000 in
theorem ggX4_multiply_X2_length : GoodIn wsX4_multiply wsX2_length := goodIn_r _ [15, 7, 32, 33] (by decide +kernel) (by decide +kernel)
set_option maxRecDepth 20000 in
theorem gX4_multiply_X2_length : GoodIn wsX4_multiply (wsV RX4 72 RX2 yX2_length wsX2_length) := goodIn_app (goodIn_of _ (by decide +kernel)) ggX4_multiply_X2_length
set_option maxRecDepth 20000 in
theorem ggX4_multiply_X2_at : GoodIn wsX4_multiply wsX2_at := goodIn_r _ [19, 6, 32, 33] (by decide +kernel) (by decide +kernel)
set_option maxRecDepth 20000 in
theorem gX4_multiply_X2_at : GoodIn wsX4_multiply (wsV RX4 101 RX2 yX2_at wsX2_at) := goodIn_app (goodIn_of _ (by decide +kernel)) ggX4_multiply_X2_at
set_option maxRecDepth 20000 in
theorem ggX4_multiply_X2_write : GoodIn wsX4_multiply wsX2_write := goodIn_r _ [23, 6, 24, 25, 26, 27, 32, 33] (by decide +kernel) (by decide +kernel)
set_option maxRecDepth 20000 in
theorem gX4_multiply_X2_write : GoodIn wsX4_multiply (wsV RX4 94 RX2 yX2_write wsX2_write) := goodIn_app (goodIn_of _ (by decide +kernel)) ggX4_multiply_X2_write
set_option maxRecDepth 20000 in
theorem ggX4_multiply_X4_nextPlace : GoodIn wsX4_multiply wsX4_nextPlace := goodIn_r _ [31] (by decide +kernel) (by decide +kernel)
set_option maxRecDepth 20000 in
theorem gX4_multiply_X4_nextPlace : GoodIn wsX4_multiply (va_wsS RX4 209 yX4_nextPlace wsX4_nextPlace) := goodIn_app (goodIn_of _ (by decide +kernel)) ggX4_multiply_X4_nextPlace
theorem dX4_multiply_0 : decode cX4_multiply 0 = .ok (.aload_n 3, 1) := by decide +kernel
theorem dX4_multiply_1 : decode cX4_multiply 1 = .ok (.iload_n 2, 1) := by decide +kernel
theorem dX4_multiply_2 : decode cX4_multiply 2 = .ok (.invokevirtual 98, 3) := by decide +kernel
theorem dX4_multiply_5 : decode cX4_multiply 5 = .ok (.iconst 0, 1) := by decide +kernel
theorem dX4_multiply_6 : decode cX4_multiply 6 = .ok (.istore 4, 2) := by decide +kernel
theorem dX4_multiply_8 : decode cX4_multiply 8 = .ok (.iconst 0, 1) := by decide +kernel
theorem dX4_multiply_9 : decode cX4_multiply 9 = .ok (.istore 5, 2) := by decide +kernel
theorem dX4_multiply_11 : decode cX4_multiply 11 = .ok (.iload 5, 2) := by decide +kernel
theorem dX4_multiply_13 : decode cX4_multiply 13 = .ok (.aload_n 0, 1) := by decide +kernel
theorem dX4_multiply_14 : decode cX4_multiply 14 = .ok (.invokevirtual 72, 3) := by decide +kernel
theorem dX4_multiply_17 : decode cX4_multiply 17 = .ok (.if_icmp .ge 73, 3) := by decide +kernel
theorem dX4_multiply_20 : decode cX4_multiply 20 = .ok (.iload 4, 2) := by decide +kernel
theorem dX4_multiply_22 : decode cX4_multiply 22 = .ok (.istore 6, 2) := by decide +kernel
theorem dX4_multiply_24 : decode cX4_multiply 24 = .ok (.iconst 0, 1) := by decide +kernel
theorem dX4_multiply_25 : decode cX4_multiply 25 = .ok (.istore 7, 2) := by decide +kernel
theorem dX4_multiply_27 : decode cX4_multiply 27 = .ok (.iload 7, 2) := by decide +kernel
theorem dX4_multiply_29 : decode cX4_multiply 29 = .ok (.aload_n 1, 1) := by decide +kernel
theorem dX4_multiply_30 : decode cX4_multiply 30 = .ok (.invokevirtual 72, 3) := by decide +kernel
theorem dX4_multiply_33 : decode cX4_multiply 33 = .ok (.if_icmp .ge 43, 3) := by decide +kernel
theorem dX4_multiply_36 : decode cX4_multiply 36 = .ok (.aload_n 3, 1) := by decide +kernel
theorem dX4_multiply_37 : decode cX4_multiply 37 = .ok (.iload 6, 2) := by decide +kernel
theorem dX4_multiply_39 : decode cX4_multiply 39 = .ok (.aload_n 3, 1) := by decide +kernel
theorem dX4_multiply_40 : decode cX4_multiply 40 = .ok (.iload 6, 2) := by decide +kernel
theorem dX4_multiply_42 : decode cX4_multiply 42 = .ok (.invokevirtual 101, 3) := by decide +kernel
theorem dX4_multiply_45 : decode cX4_multiply 45 = .ok (.aload_n 0, 1) := by decide +kernel
theorem dX4_multiply_46 : decode cX4_multiply 46 = .ok (.iload 5, 2) := by decide +kernel
theorem dX4_multiply_48 : decode cX4_multiply 48 = .ok (.invokevirtual 101, 3) := by decide +kernel
theorem dX4_multiply_51 : decode cX4_multiply 51 = .ok (.aload_n 1, 1) := by decide +kernel
theorem dX4_multiply_52 : decode cX4_multiply 52 = .ok (.iload 7, 2) := by decide +kernel
theorem dX4_multiply_54 : decode cX4_multiply 54 = .ok (.invokevirtual 101, 3) := by decide +kernel
theorem dX4_multiply_57 : decode cX4_multiply 57 = .ok (.imul, 1) := by decide +kernel
theorem dX4_multiply_58 : decode cX4_multiply 58 = .ok (.iadd, 1) := by decide +kernel
theorem dX4_multiply_59 : decode cX4_multiply 59 = .ok (.invokevirtual 94, 3) := by decide +kernel
theorem dX4_multiply_62 : decode cX4_multiply 62 = .ok (.iload 6, 2) := by decide +kernel
theorem dX4_multiply_64 : decode cX4_multiply 64 = .ok (.iload_n 2, 1) := by decide +kernel
theorem dX4_multiply_65 : decode cX4_multiply 65 = .ok (.invokestatic 209, 3) := by decide +kernel
theorem dX4_multiply_68 : decode cX4_multiply 68 = .ok (.istore 6, 2) := by decide +kernel
theorem dX4_multiply_70 : decode cX4_multiply 70 = .ok (.iinc 7 1, 3) := by decide +kernel
theorem dX4_multiply_73 : decode cX4_multiply 73 = .ok (.goto (-46), 3) := by decide +kernel
theorem dX4_multiply_76 : decode cX4_multiply 76 = .ok (.iload 4, 2) := by decide +kernel
theorem dX4_multiply_78 : decode cX4_multiply 78 = .ok (.iload_n 2, 1) := by decide +kernel
theorem dX4_multiply_79 : decode cX4_multiply 79 = .ok (.invokestatic 209, 3) := by decide +kernel
theorem dX4_multiply_82 : decode cX4_multiply 82 = .ok (.istore 4, 2) := by decide +kernel
theorem dX4_multiply_84 : decode cX4_multiply 84 = .ok (.iinc 5 1, 3) := by decide +kernel
theorem dX4_multiply_87 : decode cX4_multiply 87 = .ok (.goto (-76), 3) := by decide +kernel
theorem dX4_multiply_90 : decode cX4_multiply 90 = .ok (.return_, 1) := by decide +kernel
theorem dX4_nextPlace_0 : decode cX4_nextPlace 0 = .ok (.iload_n 0, 1) := by decide +kernel
theorem dX4_nextPlace_1 : decode cX4_nextPlace 1 = .ok (.iconst 1, 1) := by decide +kernel
theorem dX4_nextPlace_2 : decode cX4_nextPlace 2 = .ok (.iadd, 1) := by decide +kernel
theorem dX4_nextPlace_3 : decode cX4_nextPlace 3 = .ok (.iload_n 1, 1) := by decide +kernel
theorem dX4_nextPlace_4 : decode cX4_nextPlace 4 = .ok (.if_icmp .ge 9, 3) := by decide +kernel
theorem dX4_nextPlace_7 : decode cX4_nextPlace 7 = .ok (.iload_n 0, 1) := by decide +kernel
theorem dX4_nextPlace_8 : decode cX4_nextPlace 8 = .ok (.iconst 1, 1) := by decide +kernel
theorem dX4_nextPlace_9 : decode cX4_nextPlace 9 = .ok (.iadd, 1) := by decide +kernel
theorem dX4_nextPlace_10 : decode cX4_nextPlace 10 = .ok (.goto 4, 3) := by decide +kernel
theorem dX4_nextPlace_13 : decode cX4_nextPlace 13 = .ok (.iconst 0, 1) := by decide +kernel
theorem dX4_nextPlace_14 : decode cX4_nextPlace 14 = .ok (.ireturn, 1) := by decide +kernel
set_option maxRecDepth 20000 in
theorem ggX4_invertRow_X2_at : GoodIn wsX4_invertRow wsX2_at := goodIn_r _ [5, 6, 31, 32] (by decide +kernel) (by decide +kernel)
set_option maxRecDepth 20000 in
theorem gX4_invertRow_X2_at : GoodIn wsX4_invertRow (wsV RX4 101 RX2 yX2_at wsX2_at) := goodIn_app (goodIn_of _ (by decide +kernel)) ggX4_invertRow_X2_at
set_option maxRecDepth 20000 in
theorem ggX4_invertRow_X4_inverseOf : GoodIn wsX4_invertRow wsX4_inverseOf := goodIn_r _ [10, 11, 12, 9, 13] (by decide +kernel) (by decide +kernel)
set_option maxRecDepth 20000 in
theorem gX4_invertRow_X4_inverseOf : GoodIn wsX4_invertRow (va_wsS RX4 141 yX4_inverseOf wsX4_inverseOf) := goodIn_app (goodIn_of _ (by decide +kernel)) ggX4_invertRow_X4_inverseOf
set_option maxRecDepth 20000 in
theorem ggX4_invertRow_X2_clear : GoodIn wsX4_invertRow wsX2_clear := goodIn_r _ [17, 6, 18, 19, 20, 21, 22, 31, 32] (by decide +kernel) (by decide +kernel)
set_option maxRecDepth 20000 in
theorem gX4_invertRow_X2_clear : GoodIn wsX4_invertRow (wsV RX4 98 RX2 yX2_clear wsX2_clear) := goodIn_app (goodIn_of _ (by decide +kernel)) ggX4_invertRow_X2_clear
set_option maxRecDepth 20000 in
theorem ggX4_invertRow_X2_write : GoodIn wsX4_invertRow wsX2_write := goodIn_r _ [26, 6, 27, 28, 29, 30, 31, 32] (by decide +kernel) (by decide +kernel)
set_option maxRecDepth 20000 in
theorem gX4_invertRow_X2_write : GoodIn wsX4_invertRow (wsV RX4 94 RX2 yX2_write wsX2_write) := goodIn_app (goodIn_of _ (by decide +kernel)) ggX4_invertRow_X2_write
theorem dX4_invertRow_0 : decode cX4_invertRow 0 = .ok (.aload_n 0, 1) := by decide +kernel
theorem dX4_invertRow_1 : decode cX4_invertRow 1 = .ok (.iconst 0, 1) := by decide +kernel
theorem dX4_invertRow_2 : decode cX4_invertRow 2 = .ok (.invokevirtual 101, 3) := by decide +kernel
theorem dX4_invertRow_5 : decode cX4_invertRow 5 = .ok (.invokestatic 141, 3) := by decide +kernel
theorem dX4_invertRow_8 : decode cX4_invertRow 8 = .ok (.istore_n 3, 1) := by decide +kernel
theorem dX4_invertRow_9 : decode cX4_invertRow 9 = .ok (.aload_n 2, 1) := by decide +kernel
theorem dX4_invertRow_10 : decode cX4_invertRow 10 = .ok (.iload_n 1, 1) := by decide +kernel
theorem dX4_invertRow_11 : decode cX4_invertRow 11 = .ok (.invokevirtual 98, 3) := by decide +kernel
theorem dX4_invertRow_14 : decode cX4_invertRow 14 = .ok (.aload_n 2, 1) := by decide +kernel
theorem dX4_invertRow_15 : decode cX4_invertRow 15 = .ok (.iconst 0, 1) := by decide +kernel
theorem dX4_invertRow_16 : decode cX4_invertRow 16 = .ok (.iload_n 3, 1) := by decide +kernel
theorem dX4_invertRow_17 : decode cX4_invertRow 17 = .ok (.invokevirtual 94, 3) := by decide +kernel
theorem dX4_invertRow_20 : decode cX4_invertRow 20 = .ok (.iconst 1, 1) := by decide +kernel
theorem dX4_invertRow_21 : decode cX4_invertRow 21 = .ok (.istore 4, 2) := by decide +kernel
theorem dX4_invertRow_23 : decode cX4_invertRow 23 = .ok (.iload 4, 2) := by decide +kernel
theorem dX4_invertRow_25 : decode cX4_invertRow 25 = .ok (.iload_n 1, 1) := by decide +kernel
theorem dX4_invertRow_26 : decode cX4_invertRow 26 = .ok (.if_icmp .ge 64, 3) := by decide +kernel
theorem dX4_invertRow_29 : decode cX4_invertRow 29 = .ok (.iconst 0, 1) := by decide +kernel
theorem dX4_invertRow_30 : decode cX4_invertRow 30 = .ok (.istore 5, 2) := by decide +kernel
theorem dX4_invertRow_32 : decode cX4_invertRow 32 = .ok (.iconst 1, 1) := by decide +kernel
theorem dX4_invertRow_33 : decode cX4_invertRow 33 = .ok (.istore 6, 2) := by decide +kernel
theorem dX4_invertRow_35 : decode cX4_invertRow 35 = .ok (.iload 6, 2) := by decide +kernel
theorem dX4_invertRow_37 : decode cX4_invertRow 37 = .ok (.iload 4, 2) := by decide +kernel
theorem dX4_invertRow_39 : decode cX4_invertRow 39 = .ok (.if_icmp .gt 30, 3) := by decide +kernel
theorem dX4_invertRow_42 : decode cX4_invertRow 42 = .ok (.iload 5, 2) := by decide +kernel
theorem dX4_invertRow_44 : decode cX4_invertRow 44 = .ok (.aload_n 0, 1) := by decide +kernel
theorem dX4_invertRow_45 : decode cX4_invertRow 45 = .ok (.iload 6, 2) := by decide +kernel
theorem dX4_invertRow_47 : decode cX4_invertRow 47 = .ok (.invokevirtual 101, 3) := by decide +kernel
theorem dX4_invertRow_50 : decode cX4_invertRow 50 = .ok (.aload_n 2, 1) := by decide +kernel
theorem dX4_invertRow_51 : decode cX4_invertRow 51 = .ok (.iload 4, 2) := by decide +kernel
theorem dX4_invertRow_53 : decode cX4_invertRow 53 = .ok (.iload 6, 2) := by decide +kernel
theorem dX4_invertRow_55 : decode cX4_invertRow 55 = .ok (.isub, 1) := by decide +kernel
theorem dX4_invertRow_56 : decode cX4_invertRow 56 = .ok (.invokevirtual 101, 3) := by decide +kernel
theorem dX4_invertRow_59 : decode cX4_invertRow 59 = .ok (.imul, 1) := by decide +kernel
theorem dX4_invertRow_60 : decode cX4_invertRow 60 = .ok (.iadd, 1) := by decide +kernel
theorem dX4_invertRow_61 : decode cX4_invertRow 61 = .ok (.istore 5, 2) := by decide +kernel
theorem dX4_invertRow_63 : decode cX4_invertRow 63 = .ok (.iinc 6 1, 3) := by decide +kernel
theorem dX4_invertRow_66 : decode cX4_invertRow 66 = .ok (.goto (-31), 3) := by decide +kernel
theorem dX4_invertRow_69 : decode cX4_invertRow 69 = .ok (.aload_n 2, 1) := by decide +kernel
theorem dX4_invertRow_70 : decode cX4_invertRow 70 = .ok (.iload 4, 2) := by decide +kernel
theorem dX4_invertRow_72 : decode cX4_invertRow 72 = .ok (.iload 5, 2) := by decide +kernel
theorem dX4_invertRow_74 : decode cX4_invertRow 74 = .ok (.sipush 257, 3) := by decide +kernel
theorem dX4_invertRow_77 : decode cX4_invertRow 77 = .ok (.irem, 1) := by decide +kernel
theorem dX4_invertRow_78 : decode cX4_invertRow 78 = .ok (.ineg, 1) := by decide +kernel
theorem dX4_invertRow_79 : decode cX4_invertRow 79 = .ok (.iload_n 3, 1) := by decide +kernel
theorem dX4_invertRow_80 : decode cX4_invertRow 80 = .ok (.imul, 1) := by decide +kernel
theorem dX4_invertRow_81 : decode cX4_invertRow 81 = .ok (.invokevirtual 94, 3) := by decide +kernel
theorem dX4_invertRow_84 : decode cX4_invertRow 84 = .ok (.iinc 4 1, 3) := by decide +kernel
theorem dX4_invertRow_87 : decode cX4_invertRow 87 = .ok (.goto (-64), 3) := by decide +kernel
theorem dX4_invertRow_90 : decode cX4_invertRow 90 = .ok (.return_, 1) := by decide +kernel
set_option maxRecDepth 20000 in
theorem ggX4_divideRows_X2_degree : GoodIn wsX4_divideRows wsX2_degree := goodIn_r _ [9, 10, 11, 12, 13, 8, 14, 15, 53, 54] (by decide +kernel) (by decide +kernel)
set_option maxRecDepth 20000 in
theorem gX4_divideRows_X2_degree : GoodIn wsX4_divideRows (wsV RX4 113 RX2 yX2_degree wsX2_degree) := goodIn_app (goodIn_of _ (by decide +kernel)) ggX4_divideRows_X2_degree
set_option maxRecDepth 20000 in
theorem ggX4_divideRows_X2_at : GoodIn wsX4_divideRows wsX2_at := goodIn_r _ [14, 15, 53, 54] (by decide +kernel) (by decide +kernel)
set_option maxRecDepth 20000 in
theorem gX4_divideRows_X2_at : GoodIn wsX4_divideRows (wsV RX4 101 RX2 yX2_at wsX2_at) := goodIn_app (goodIn_of _ (by decide +kernel)) ggX4_divideRows_X2_at
set_option maxRecDepth 20000 in
theorem ggX4_divideRows_X4_inverseOf : GoodIn wsX4_divideRows wsX4_inverseOf := goodIn_r _ [20, 21, 22, 19, 23] (by decide +kernel) (by decide +kernel)
set_option maxRecDepth 20000 in
theorem gX4_divideRows_X4_inverseOf : GoodIn wsX4_divideRows (va_wsS RX4 141 yX4_inverseOf wsX4_inverseOf) := goodIn_app (goodIn_of _ (by decide +kernel)) ggX4_divideRows_X4_inverseOf
set_option maxRecDepth 20000 in
theorem ggX4_divideRows_X2_clear : GoodIn wsX4_divideRows wsX2_clear := goodIn_r _ [27, 15, 10, 28, 29, 30, 31, 53, 54] (by decide +kernel) (by decide +kernel)
set_option maxRecDepth 20000 in
theorem gX4_divideRows_X2_clear : GoodIn wsX4_divideRows (wsV RX4 98 RX2 yX2_clear wsX2_clear) := goodIn_app (goodIn_of _ (by decide +kernel)) ggX4_divideRows_X2_clear
set_option maxRecDepth 20000 in
theorem ggX4_divideRows_X2_copyFrom : GoodIn wsX4_divideRows wsX2_copyFrom := goodIn_r _ [35, 15, 36, 37, 38, 39, 10, 53, 54] (by decide +kernel) (by decide +kernel)
set_option maxRecDepth 20000 in
theorem gX4_divideRows_X2_copyFrom : GoodIn wsX4_divideRows (wsV RX4 116 RX2 yX2_copyFrom wsX2_copyFrom) := goodIn_app (goodIn_of _ (by decide +kernel)) ggX4_divideRows_X2_copyFrom
set_option maxRecDepth 20000 in
theorem ggX4_divideRows_X2_write : GoodIn wsX4_divideRows wsX2_write := goodIn_r _ [43, 15, 44, 45, 46, 47, 53, 54] (by decide +kernel) (by decide +kernel)
set_option maxRecDepth 20000 in
theorem gX4_divideRows_X2_write : GoodIn wsX4_divideRows (wsV RX4 94 RX2 yX2_write wsX2_write) := goodIn_app (goodIn_of _ (by decide +kernel)) ggX4_divideRows_X2_write
set_option maxRecDepth 20000 in
theorem ggX4_divideRows_X2_resize : GoodIn wsX4_divideRows wsX2_resize := goodIn_r _ [51, 10, 52, 41, 42, 8, 43, 15, 44, 45, 46, 47, 53, 54] (by decide +kernel) (by decide +kernel)
set_option maxRecDepth 20000 in
theorem gX4_divideRows_X2_resize : GoodIn wsX4_divideRows (wsV RX4 90 RX2 yX2_resize wsX2_resize) := goodIn_app (goodIn_of _ (by decide +kernel)) ggX4_divideRows_X2_resize
theorem dX4_divideRows_0 : decode cX4_divideRows 0 = .ok (.aload_n 1, 1) := by decide +kernel
theorem dX4_divideRows_1 : decode cX4_divideRows 1 = .ok (.invokevirtual 113, 3) := by decide +kernel
theorem dX4_divideRows_4 : decode cX4_divideRows 4 = .ok (.istore 4, 2) := by decide +kernel
theorem dX4_divideRows_6 : decode cX4_divideRows 6 = .ok (.aload_n 1, 1) := by decide +kernel
theorem dX4_divideRows_7 : decode cX4_divideRows 7 = .ok (.iload 4, 2) := by decide +kernel
theorem dX4_divideRows_9 : decode cX4_divideRows 9 = .ok (.invokevirtual 101, 3) := by decide +kernel
theorem dX4_divideRows_12 : decode cX4_divideRows 12 = .ok (.invokestatic 141, 3) := by decide +kernel
theorem dX4_divideRows_15 : decode cX4_divideRows 15 = .ok (.istore 5, 2) := by decide +kernel
theorem dX4_divideRows_17 : decode cX4_divideRows 17 = .ok (.aload_n 0, 1) := by decide +kernel
theorem dX4_divideRows_18 : decode cX4_divideRows 18 = .ok (.invokevirtual 113, 3) := by decide +kernel
theorem dX4_divideRows_21 : decode cX4_divideRows 21 = .ok (.iload 4, 2) := by decide +kernel
theorem dX4_divideRows_23 : decode cX4_divideRows 23 = .ok (.isub, 1) := by decide +kernel
theorem dX4_divideRows_24 : decode cX4_divideRows 24 = .ok (.istore 6, 2) := by decide +kernel
theorem dX4_divideRows_26 : decode cX4_divideRows 26 = .ok (.aload_n 2, 1) := by decide +kernel
theorem dX4_divideRows_27 : decode cX4_divideRows 27 = .ok (.iload 6, 2) := by decide +kernel
theorem dX4_divideRows_29 : decode cX4_divideRows 29 = .ok (.iconst 0, 1) := by decide +kernel
theorem dX4_divideRows_30 : decode cX4_divideRows 30 = .ok (.invokestatic 84, 3) := by decide +kernel
theorem dX4_divideRows_33 : decode cX4_divideRows 33 = .ok (.iconst 1, 1) := by decide +kernel
theorem dX4_divideRows_34 : decode cX4_divideRows 34 = .ok (.iadd, 1) := by decide +kernel
theorem dX4_divideRows_35 : decode cX4_divideRows 35 = .ok (.invokevirtual 98, 3) := by decide +kernel
theorem dX4_divideRows_38 : decode cX4_divideRows 38 = .ok (.aload_n 3, 1) := by decide +kernel
theorem dX4_divideRows_39 : decode cX4_divideRows 39 = .ok (.aload_n 0, 1) := by decide +kernel
theorem dX4_divideRows_40 : decode cX4_divideRows 40 = .ok (.invokevirtual 116, 3) := by decide +kernel
theorem dX4_divideRows_43 : decode cX4_divideRows 43 = .ok (.iload 6, 2) := by decide +kernel
theorem dX4_divideRows_45 : decode cX4_divideRows 45 = .ok (.istore 7, 2) := by decide +kernel
theorem dX4_divideRows_47 : decode cX4_divideRows 47 = .ok (.iload 7, 2) := by decide +kernel
theorem dX4_divideRows_49 : decode cX4_divideRows 49 = .ok (.ifCond .lt 79, 3) := by decide +kernel
theorem dX4_divideRows_52 : decode cX4_divideRows 52 = .ok (.aload_n 3, 1) := by decide +kernel
theorem dX4_divideRows_53 : decode cX4_divideRows 53 = .ok (.iload 7, 2) := by decide +kernel
theorem dX4_divideRows_55 : decode cX4_divideRows 55 = .ok (.iload 4, 2) := by decide +kernel
theorem dX4_divideRows_57 : decode cX4_divideRows 57 = .ok (.iadd, 1) := by decide +kernel
theorem dX4_divideRows_58 : decode cX4_divideRows 58 = .ok (.invokevirtual 101, 3) := by decide +kernel
theorem dX4_divideRows_61 : decode cX4_divideRows 61 = .ok (.iload 5, 2) := by decide +kernel
theorem dX4_divideRows_63 : decode cX4_divideRows 63 = .ok (.imul, 1) := by decide +kernel
theorem dX4_divideRows_64 : decode cX4_divideRows 64 = .ok (.sipush 257, 3) := by decide +kernel
theorem dX4_divideRows_67 : decode cX4_divideRows 67 = .ok (.irem, 1) := by decide +kernel
theorem dX4_divideRows_68 : decode cX4_divideRows 68 = .ok (.istore 8, 2) := by decide +kernel
theorem dX4_divideRows_70 : decode cX4_divideRows 70 = .ok (.aload_n 2, 1) := by decide +kernel
theorem dX4_divideRows_71 : decode cX4_divideRows 71 = .ok (.iload 7, 2) := by decide +kernel
theorem dX4_divideRows_73 : decode cX4_divideRows 73 = .ok (.iload 8, 2) := by decide +kernel
theorem dX4_divideRows_75 : decode cX4_divideRows 75 = .ok (.invokevirtual 94, 3) := by decide +kernel
theorem dX4_divideRows_78 : decode cX4_divideRows 78 = .ok (.iconst 0, 1) := by decide +kernel
theorem dX4_divideRows_79 : decode cX4_divideRows 79 = .ok (.istore 9, 2) := by decide +kernel
theorem dX4_divideRows_81 : decode cX4_divideRows 81 = .ok (.iload 9, 2) := by decide +kernel
theorem dX4_divideRows_83 : decode cX4_divideRows 83 = .ok (.iload 4, 2) := by decide +kernel
theorem dX4_divideRows_85 : decode cX4_divideRows 85 = .ok (.if_icmp .gt 37, 3) := by decide +kernel
theorem dX4_divideRows_88 : decode cX4_divideRows 88 = .ok (.aload_n 3, 1) := by decide +kernel
theorem dX4_divideRows_89 : decode cX4_divideRows 89 = .ok (.iload 7, 2) := by decide +kernel
theorem dX4_divideRows_91 : decode cX4_divideRows 91 = .ok (.iload 9, 2) := by decide +kernel
theorem dX4_divideRows_93 : decode cX4_divideRows 93 = .ok (.iadd, 1) := by decide +kernel
theorem dX4_divideRows_94 : decode cX4_divideRows 94 = .ok (.aload_n 3, 1) := by decide +kernel
theorem dX4_divideRows_95 : decode cX4_divideRows 95 = .ok (.iload 7, 2) := by decide +kernel
theorem dX4_divideRows_97 : decode cX4_divideRows 97 = .ok (.iload 9, 2) := by decide +kernel
theorem dX4_divideRows_99 : decode cX4_divideRows 99 = .ok (.iadd, 1) := by decide +kernel
theorem dX4_divideRows_100 : decode cX4_divideRows 100 = .ok (.invokevirtual 101, 3) := by decide +kernel
theorem dX4_divideRows_103 : decode cX4_divideRows 103 = .ok (.iload 8, 2) := by decide +kernel
theorem dX4_divideRows_105 : decode cX4_divideRows 105 = .ok (.aload_n 1, 1) := by decide +kernel
theorem dX4_divideRows_106 : decode cX4_divideRows 106 = .ok (.iload 9, 2) := by decide +kernel
theorem dX4_divideRows_108 : decode cX4_divideRows 108 = .ok (.invokevirtual 101, 3) := by decide +kernel
theorem dX4_divideRows_111 : decode cX4_divideRows 111 = .ok (.imul, 1) := by decide +kernel
theorem dX4_divideRows_112 : decode cX4_divideRows 112 = .ok (.isub, 1) := by decide +kernel
theorem dX4_divideRows_113 : decode cX4_divideRows 113 = .ok (.invokevirtual 94, 3) := by decide +kernel
theorem dX4_divideRows_116 : decode cX4_divideRows 116 = .ok (.iinc 9 1, 3) := by decide +kernel
theorem dX4_divideRows_119 : decode cX4_divideRows 119 = .ok (.goto (-38), 3) := by decide +kernel
theorem dX4_divideRows_122 : decode cX4_divideRows 122 = .ok (.iinc 7 (-1), 3) := by decide +kernel
theorem dX4_divideRows_125 : decode cX4_divideRows 125 = .ok (.goto (-78), 3) := by decide +kernel
theorem dX4_divideRows_128 : decode cX4_divideRows 128 = .ok (.aload_n 3, 1) := by decide +kernel
theorem dX4_divideRows_129 : decode cX4_divideRows 129 = .ok (.iload 4, 2) := by decide +kernel
theorem dX4_divideRows_131 : decode cX4_divideRows 131 = .ok (.iconst 1, 1) := by decide +kernel
theorem dX4_divideRows_132 : decode cX4_divideRows 132 = .ok (.invokestatic 84, 3) := by decide +kernel
theorem dX4_divideRows_135 : decode cX4_divideRows 135 = .ok (.invokevirtual 90, 3) := by decide +kernel
theorem dX4_divideRows_138 : decode cX4_divideRows 138 = .ok (.return_, 1) := by decide +kernel
set_option maxRecDepth 20000 in
theorem ggX4_makeGreatestDivisor_X2_copyFrom : GoodIn wsX4_makeGreatestDivisor wsX2_copyFrom := goodIn_r _ [10, 11, 12, 13, 14, 15, 16, 75, 76] (by decide +kernel) (by decide +kernel)
set_option maxRecDepth 20000 in
theorem gX4_makeGreatestDivisor_X2_copyFrom : GoodIn wsX4_makeGreatestDivisor (wsV RX4 116 RX2 yX2_copyFrom wsX2_copyFrom) := goodIn_app (goodIn_of _ (by decide +kernel)) ggX4_makeGreatestDivisor_X2_copyFrom
set_option maxRecDepth 20000 in
theorem ggX4_makeGreatestDivisor_X2_degree : GoodIn wsX4_makeGreatestDivisor wsX2_degree := goodIn_r _ [20, 16, 21, 22, 23, 9, 24, 11, 75, 76] (by decide +kernel) (by decide +kernel)
set_option maxRecDepth 20000 in
theorem gX4_makeGreatestDivisor_X2_degree : GoodIn wsX4_makeGreatestDivisor (wsV RX4 113 RX2 yX2_degree wsX2_degree) := goodIn_app (goodIn_of _ (by decide +kernel)) ggX4_makeGreatestDivisor_X2_degree
set_option maxRecDepth 20000 in
theorem ggX4_makeGreatestDivisor_X4_divideRows : GoodIn wsX4_makeGreatestDivisor wsX4_divideRows := goodIn_r _ [28, 29, 30, 31, 32, 17, 18, 19, 9, 20, 16, 21, 22, 23, 24, 11, 33, 34, 35, 27, 36, 37, 38, 39, 40, 41, 42, 43, 44, 45, 46, 47, 6, 7, 8, 10, 12, 13, 14, 15, 48, 49, 50, 51, 52, 53, 54, 55, 56, 57, 58, 59, 60, 75, 76] (by decide +kernel) (by decide +kernel)
set_option maxRecDepth 20000 in
theorem gX4_makeGreatestDivisor_X4_divideRows : GoodIn wsX4_makeGreatestDivisor (va_wsS RX4 123 yX4_divideRows wsX4_divideRows) := goodIn_app (goodIn_of _ (by decide +kernel)) ggX4_makeGreatestDivisor_X4_divideRows
set_option maxRecDepth 20000 in
theorem ggX4_makeGreatestDivisor_X2_resize : GoodIn wsX4_makeGreatestDivisor wsX2_resize := goodIn_r _ [59, 16, 60, 49, 50, 9, 51, 11, 52, 53, 54, 55, 75, 76] (by decide +kernel) (by decide +kernel)
set_option maxRecDepth 20000 in
theorem gX4_makeGreatestDivisor_X2_resize : GoodIn wsX4_makeGreatestDivisor (wsV RX4 90 RX2 yX2_resize wsX2_resize) := goodIn_app (goodIn_of _ (by decide +kernel)) ggX4_makeGreatestDivisor_X2_resize
set_option maxRecDepth 20000 in
theorem ggX4_makeGreatestDivisor_X2_at : GoodIn wsX4_makeGreatestDivisor wsX2_at := goodIn_r _ [24, 11, 75, 76] (by decide +kernel) (by decide +kernel)
set_option maxRecDepth 20000 in
theorem gX4_makeGreatestDivisor_X2_at : GoodIn wsX4_makeGreatestDivisor (wsV RX4 101 RX2 yX2_at wsX2_at) := goodIn_app (goodIn_of _ (by decide +kernel)) ggX4_makeGreatestDivisor_X2_at
set_option maxRecDepth 20000 in
theorem ggX4_makeGreatestDivisor_X4_inverseOf : GoodIn wsX4_makeGreatestDivisor wsX4_inverseOf := goodIn_r _ [36, 37, 38, 27, 39] (by decide +kernel) (by decide +kernel)
set_option maxRecDepth 20000 in
theorem gX4_makeGreatestDivisor_X4_inverseOf : GoodIn wsX4_makeGreatestDivisor (va_wsS RX4 141 yX4_inverseOf wsX4_inverseOf) := goodIn_app (goodIn_of _ (by decide +kernel)) ggX4_makeGreatestDivisor_X4_inverseOf
set_option maxRecDepth 20000 in
theorem ggX4_makeGreatestDivisor_X2_scale : GoodIn wsX4_makeGreatestDivisor wsX2_scale := goodIn_r _ [64, 16, 21, 22, 23, 9, 24, 11, 60, 49, 50, 51, 52, 53, 54, 55, 75, 76] (by decide +kernel) (by decide +kernel)
set_option maxRecDepth 20000 in
theorem gX4_makeGreatestDivisor_X2_scale : GoodIn wsX4_makeGreatestDivisor (wsV RX4 144 RX2 yX2_scale wsX2_scale) := goodIn_app (goodIn_of _ (by decide +kernel)) ggX4_makeGreatestDivisor_X2_scale
theorem dX4_makeGreatestDivisor_0 : decode cX4_makeGreatestDivisor 0 = .ok (.aload_n 0, 1) := by decide +kernel
theorem dX4_makeGreatestDivisor_1 : decode cX4_makeGreatestDivisor 1 = .ok (.getfield 48, 3) := by decide +kernel
theorem dX4_makeGreatestDivisor_4 : decode cX4_makeGreatestDivisor 4 = .ok (.aload_n 1, 1) := by decide +kernel
theorem dX4_makeGreatestDivisor_5 : decode cX4_makeGreatestDivisor 5 = .ok (.invokevirtual 116, 3) := by decide +kernel
theorem dX4_makeGreatestDivisor_8 : decode cX4_makeGreatestDivisor 8 = .ok (.aload_n 0, 1) := by decide +kernel
theorem dX4_makeGreatestDivisor_9 : decode cX4_makeGreatestDivisor 9 = .ok (.getfield 51, 3) := by decide +kernel
theorem dX4_makeGreatestDivisor_12 : decode cX4_makeGreatestDivisor 12 = .ok (.aload_n 2, 1) := by decide +kernel
theorem dX4_makeGreatestDivisor_13 : decode cX4_makeGreatestDivisor 13 = .ok (.invokevirtual 116, 3) := by decide +kernel
theorem dX4_makeGreatestDivisor_16 : decode cX4_makeGreatestDivisor 16 = .ok (.iconst 0, 1) := by decide +kernel
theorem dX4_makeGreatestDivisor_17 : decode cX4_makeGreatestDivisor 17 = .ok (.istore_n 3, 1) := by decide +kernel
theorem dX4_makeGreatestDivisor_18 : decode cX4_makeGreatestDivisor 18 = .ok (.iload_n 3, 1) := by decide +kernel
theorem dX4_makeGreatestDivisor_19 : decode cX4_makeGreatestDivisor 19 = .ok (.bipush 64, 2) := by decide +kernel
theorem dX4_makeGreatestDivisor_21 : decode cX4_makeGreatestDivisor 21 = .ok (.if_icmp .gt 62, 3) := by decide +kernel
theorem dX4_makeGreatestDivisor_24 : decode cX4_makeGreatestDivisor 24 = .ok (.aload_n 0, 1) := by decide +kernel
theorem dX4_makeGreatestDivisor_25 : decode cX4_makeGreatestDivisor 25 = .ok (.getfield 51, 3) := by decide +kernel
theorem dX4_makeGreatestDivisor_28 : decode cX4_makeGreatestDivisor 28 = .ok (.invokevirtual 113, 3) := by decide +kernel
theorem dX4_makeGreatestDivisor_31 : decode cX4_makeGreatestDivisor 31 = .ok (.bipush (-6), 2) := by decide +kernel
theorem dX4_makeGreatestDivisor_33 : decode cX4_makeGreatestDivisor 33 = .ok (.if_icmp .eq 50, 3) := by decide +kernel
theorem dX4_makeGreatestDivisor_36 : decode cX4_makeGreatestDivisor 36 = .ok (.aload_n 0, 1) := by decide +kernel
theorem dX4_makeGreatestDivisor_37 : decode cX4_makeGreatestDivisor 37 = .ok (.getfield 48, 3) := by decide +kernel
theorem dX4_makeGreatestDivisor_40 : decode cX4_makeGreatestDivisor 40 = .ok (.aload_n 0, 1) := by decide +kernel
theorem dX4_makeGreatestDivisor_41 : decode cX4_makeGreatestDivisor 41 = .ok (.getfield 51, 3) := by decide +kernel
theorem dX4_makeGreatestDivisor_44 : decode cX4_makeGreatestDivisor 44 = .ok (.aload_n 0, 1) := by decide +kernel
theorem dX4_makeGreatestDivisor_45 : decode cX4_makeGreatestDivisor 45 = .ok (.getfield 54, 3) := by decide +kernel
theorem dX4_makeGreatestDivisor_48 : decode cX4_makeGreatestDivisor 48 = .ok (.aload_n 0, 1) := by decide +kernel
theorem dX4_makeGreatestDivisor_49 : decode cX4_makeGreatestDivisor 49 = .ok (.getfield 45, 3) := by decide +kernel
theorem dX4_makeGreatestDivisor_52 : decode cX4_makeGreatestDivisor 52 = .ok (.invokestatic 123, 3) := by decide +kernel
theorem dX4_makeGreatestDivisor_55 : decode cX4_makeGreatestDivisor 55 = .ok (.aload_n 0, 1) := by decide +kernel
theorem dX4_makeGreatestDivisor_56 : decode cX4_makeGreatestDivisor 56 = .ok (.getfield 48, 3) := by decide +kernel
theorem dX4_makeGreatestDivisor_59 : decode cX4_makeGreatestDivisor 59 = .ok (.aload_n 0, 1) := by decide +kernel
theorem dX4_makeGreatestDivisor_60 : decode cX4_makeGreatestDivisor 60 = .ok (.getfield 51, 3) := by decide +kernel
theorem dX4_makeGreatestDivisor_63 : decode cX4_makeGreatestDivisor 63 = .ok (.invokevirtual 116, 3) := by decide +kernel
theorem dX4_makeGreatestDivisor_66 : decode cX4_makeGreatestDivisor 66 = .ok (.aload_n 0, 1) := by decide +kernel
theorem dX4_makeGreatestDivisor_67 : decode cX4_makeGreatestDivisor 67 = .ok (.getfield 51, 3) := by decide +kernel
theorem dX4_makeGreatestDivisor_70 : decode cX4_makeGreatestDivisor 70 = .ok (.aload_n 0, 1) := by decide +kernel
theorem dX4_makeGreatestDivisor_71 : decode cX4_makeGreatestDivisor 71 = .ok (.getfield 45, 3) := by decide +kernel
theorem dX4_makeGreatestDivisor_74 : decode cX4_makeGreatestDivisor 74 = .ok (.invokevirtual 116, 3) := by decide +kernel
theorem dX4_makeGreatestDivisor_77 : decode cX4_makeGreatestDivisor 77 = .ok (.iinc 3 1, 3) := by decide +kernel
theorem dX4_makeGreatestDivisor_80 : decode cX4_makeGreatestDivisor 80 = .ok (.goto (-62), 3) := by decide +kernel
theorem dX4_makeGreatestDivisor_83 : decode cX4_makeGreatestDivisor 83 = .ok (.aload_n 0, 1) := by decide +kernel
theorem dX4_makeGreatestDivisor_84 : decode cX4_makeGreatestDivisor 84 = .ok (.getfield 48, 3) := by decide +kernel
theorem dX4_makeGreatestDivisor_87 : decode cX4_makeGreatestDivisor 87 = .ok (.invokevirtual 113, 3) := by decide +kernel
theorem dX4_makeGreatestDivisor_90 : decode cX4_makeGreatestDivisor 90 = .ok (.istore_n 3, 1) := by decide +kernel
theorem dX4_makeGreatestDivisor_91 : decode cX4_makeGreatestDivisor 91 = .ok (.aload_n 0, 1) := by decide +kernel
theorem dX4_makeGreatestDivisor_92 : decode cX4_makeGreatestDivisor 92 = .ok (.getfield 41, 3) := by decide +kernel
theorem dX4_makeGreatestDivisor_95 : decode cX4_makeGreatestDivisor 95 = .ok (.aload_n 0, 1) := by decide +kernel
theorem dX4_makeGreatestDivisor_96 : decode cX4_makeGreatestDivisor 96 = .ok (.getfield 48, 3) := by decide +kernel
theorem dX4_makeGreatestDivisor_99 : decode cX4_makeGreatestDivisor 99 = .ok (.invokevirtual 116, 3) := by decide +kernel
theorem dX4_makeGreatestDivisor_102 : decode cX4_makeGreatestDivisor 102 = .ok (.aload_n 0, 1) := by decide +kernel
theorem dX4_makeGreatestDivisor_103 : decode cX4_makeGreatestDivisor 103 = .ok (.getfield 41, 3) := by decide +kernel
theorem dX4_makeGreatestDivisor_106 : decode cX4_makeGreatestDivisor 106 = .ok (.iload_n 3, 1) := by decide +kernel
theorem dX4_makeGreatestDivisor_107 : decode cX4_makeGreatestDivisor 107 = .ok (.iconst 1, 1) := by decide +kernel
theorem dX4_makeGreatestDivisor_108 : decode cX4_makeGreatestDivisor 108 = .ok (.iadd, 1) := by decide +kernel
theorem dX4_makeGreatestDivisor_109 : decode cX4_makeGreatestDivisor 109 = .ok (.invokevirtual 90, 3) := by decide +kernel
theorem dX4_makeGreatestDivisor_112 : decode cX4_makeGreatestDivisor 112 = .ok (.aload_n 0, 1) := by decide +kernel
theorem dX4_makeGreatestDivisor_113 : decode cX4_makeGreatestDivisor 113 = .ok (.getfield 41, 3) := by decide +kernel
theorem dX4_makeGreatestDivisor_116 : decode cX4_makeGreatestDivisor 116 = .ok (.aload_n 0, 1) := by decide +kernel
theorem dX4_makeGreatestDivisor_117 : decode cX4_makeGreatestDivisor 117 = .ok (.getfield 41, 3) := by decide +kernel
theorem dX4_makeGreatestDivisor_120 : decode cX4_makeGreatestDivisor 120 = .ok (.iload_n 3, 1) := by decide +kernel
theorem dX4_makeGreatestDivisor_121 : decode cX4_makeGreatestDivisor 121 = .ok (.invokevirtual 101, 3) := by decide +kernel
theorem dX4_makeGreatestDivisor_124 : decode cX4_makeGreatestDivisor 124 = .ok (.invokestatic 141, 3) := by decide +kernel
theorem dX4_makeGreatestDivisor_127 : decode cX4_makeGreatestDivisor 127 = .ok (.invokevirtual 144, 3) := by decide +kernel
theorem dX4_makeGreatestDivisor_130 : decode cX4_makeGreatestDivisor 130 = .ok (.return_, 1) := by decide +kernel
set_option maxRecDepth 20000 in
theorem ggX4_turnAround_X2_clear : GoodIn wsX4_turnAround wsX2_clear := goodIn_r _ [5, 6, 7, 8, 9, 10, 11, 28, 29] (by decide +kernel) (by decide +kernel)
set_option maxRecDepth 20000 in
theorem gX4_turnAround_X2_clear : GoodIn wsX4_turnAround (wsV RX4 98 RX2 yX2_clear wsX2_clear) := goodIn_app (goodIn_of _ (by decide +kernel)) ggX4_turnAround_X2_clear
set_option maxRecDepth 20000 in
theorem ggX4_turnAround_X2_valueAt : GoodIn wsX4_turnAround wsX2_valueAt := goodIn_r _ [15, 7, 16, 17, 18, 4, 19, 6, 28, 29] (by decide +kernel) (by decide +kernel)
set_option maxRecDepth 20000 in
theorem gX4_turnAround_X2_valueAt : GoodIn wsX4_turnAround (wsV RX4 156 RX2 yX2_valueAt wsX2_valueAt) := goodIn_app (goodIn_of _ (by decide +kernel)) ggX4_turnAround_X2_valueAt
set_option maxRecDepth 20000 in
theorem ggX4_turnAround_X2_write : GoodIn wsX4_turnAround wsX2_write := goodIn_r _ [23, 6, 24, 25, 26, 27, 28, 29] (by decide +kernel) (by decide +kernel)
set_option maxRecDepth 20000 in
theorem gX4_turnAround_X2_write : GoodIn wsX4_turnAround (wsV RX4 94 RX2 yX2_write wsX2_write) := goodIn_app (goodIn_of _ (by decide +kernel)) ggX4_turnAround_X2_write
theorem dX4_turnAround_0 : decode cX4_turnAround 0 = .ok (.aload_n 3, 1) := by decide +kernel
theorem dX4_turnAround_1 : decode cX4_turnAround 1 = .ok (.iload_n 1, 1) := by decide +kernel
theorem dX4_turnAround_2 : decode cX4_turnAround 2 = .ok (.invokevirtual 98, 3) := by decide +kernel
theorem dX4_turnAround_5 : decode cX4_turnAround 5 = .ok (.iconst 1, 1) := by decide +kernel
theorem dX4_turnAround_6 : decode cX4_turnAround 6 = .ok (.istore 4, 2) := by decide +kernel
theorem dX4_turnAround_8 : decode cX4_turnAround 8 = .ok (.iconst 0, 1) := by decide +kernel
theorem dX4_turnAround_9 : decode cX4_turnAround 9 = .ok (.istore 5, 2) := by decide +kernel
theorem dX4_turnAround_11 : decode cX4_turnAround 11 = .ok (.iload 5, 2) := by decide +kernel
theorem dX4_turnAround_13 : decode cX4_turnAround 13 = .ok (.iload_n 1, 1) := by decide +kernel
theorem dX4_turnAround_14 : decode cX4_turnAround 14 = .ok (.if_icmp .ge 31, 3) := by decide +kernel
theorem dX4_turnAround_17 : decode cX4_turnAround 17 = .ok (.aload_n 3, 1) := by decide +kernel
theorem dX4_turnAround_18 : decode cX4_turnAround 18 = .ok (.iload 5, 2) := by decide +kernel
theorem dX4_turnAround_20 : decode cX4_turnAround 20 = .ok (.aload_n 0, 1) := by decide +kernel
theorem dX4_turnAround_21 : decode cX4_turnAround 21 = .ok (.iload 4, 2) := by decide +kernel
theorem dX4_turnAround_23 : decode cX4_turnAround 23 = .ok (.invokevirtual 156, 3) := by decide +kernel
theorem dX4_turnAround_26 : decode cX4_turnAround 26 = .ok (.invokevirtual 94, 3) := by decide +kernel
theorem dX4_turnAround_29 : decode cX4_turnAround 29 = .ok (.iload 4, 2) := by decide +kernel
theorem dX4_turnAround_31 : decode cX4_turnAround 31 = .ok (.iload_n 2, 1) := by decide +kernel
theorem dX4_turnAround_32 : decode cX4_turnAround 32 = .ok (.imul, 1) := by decide +kernel
theorem dX4_turnAround_33 : decode cX4_turnAround 33 = .ok (.sipush 257, 3) := by decide +kernel
theorem dX4_turnAround_36 : decode cX4_turnAround 36 = .ok (.irem, 1) := by decide +kernel
theorem dX4_turnAround_37 : decode cX4_turnAround 37 = .ok (.istore 4, 2) := by decide +kernel
theorem dX4_turnAround_39 : decode cX4_turnAround 39 = .ok (.iinc 5 1, 3) := by decide +kernel
theorem dX4_turnAround_42 : decode cX4_turnAround 42 = .ok (.goto (-31), 3) := by decide +kernel
theorem dX4_turnAround_45 : decode cX4_turnAround 45 = .ok (.return_, 1) := by decide +kernel
theorem dX4_countCharacters_0 : decode cX4_countCharacters 0 = .ok (.iconst 0, 1) := by decide +kernel
theorem dX4_countCharacters_1 : decode cX4_countCharacters 1 = .ok (.istore_n 2, 1) := by decide +kernel
theorem dX4_countCharacters_2 : decode cX4_countCharacters 2 = .ok (.lload_n 0, 1) := by decide +kernel
theorem dX4_countCharacters_3 : decode cX4_countCharacters 3 = .ok (.lstore_n 3, 1) := by decide +kernel
theorem dX4_countCharacters_4 : decode cX4_countCharacters 4 = .ok (.iload_n 2, 1) := by decide +kernel
theorem dX4_countCharacters_5 : decode cX4_countCharacters 5 = .ok (.bipush 8, 2) := by decide +kernel
theorem dX4_countCharacters_7 : decode cX4_countCharacters 7 = .ok (.if_icmp .ge 44, 3) := by decide +kernel
theorem dX4_countCharacters_10 : decode cX4_countCharacters 10 = .ok (.lload_n 3, 1) := by decide +kernel
theorem dX4_countCharacters_11 : decode cX4_countCharacters 11 = .ok (.lconst 0, 1) := by decide +kernel
theorem dX4_countCharacters_12 : decode cX4_countCharacters 12 = .ok (.lcmp, 1) := by decide +kernel
theorem dX4_countCharacters_13 : decode cX4_countCharacters 13 = .ok (.ifCond .eq 38, 3) := by decide +kernel
theorem dX4_countCharacters_16 : decode cX4_countCharacters 16 = .ok (.lload_n 3, 1) := by decide +kernel
theorem dX4_countCharacters_17 : decode cX4_countCharacters 17 = .ok (.ldc2_w 215, 3) := by decide +kernel
theorem dX4_countCharacters_20 : decode cX4_countCharacters 20 = .ok (.land, 1) := by decide +kernel
theorem dX4_countCharacters_21 : decode cX4_countCharacters 21 = .ok (.l2i, 1) := by decide +kernel
theorem dX4_countCharacters_22 : decode cX4_countCharacters 22 = .ok (.istore 5, 2) := by decide +kernel
theorem dX4_countCharacters_24 : decode cX4_countCharacters 24 = .ok (.iload 5, 2) := by decide +kernel
theorem dX4_countCharacters_26 : decode cX4_countCharacters 26 = .ok (.bipush 33, 2) := by decide +kernel
theorem dX4_countCharacters_28 : decode cX4_countCharacters 28 = .ok (.if_icmp .lt 10, 3) := by decide +kernel
theorem dX4_countCharacters_31 : decode cX4_countCharacters 31 = .ok (.iload 5, 2) := by decide +kernel
theorem dX4_countCharacters_33 : decode cX4_countCharacters 33 = .ok (.bipush 126, 2) := by decide +kernel
theorem dX4_countCharacters_35 : decode cX4_countCharacters 35 = .ok (.if_icmp .le 5, 3) := by decide +kernel
theorem dX4_countCharacters_38 : decode cX4_countCharacters 38 = .ok (.iconst 0, 1) := by decide +kernel
theorem dX4_countCharacters_39 : decode cX4_countCharacters 39 = .ok (.ireturn, 1) := by decide +kernel
theorem dX4_countCharacters_40 : decode cX4_countCharacters 40 = .ok (.iinc 2 1, 3) := by decide +kernel
theorem dX4_countCharacters_43 : decode cX4_countCharacters 43 = .ok (.lload_n 3, 1) := by decide +kernel
theorem dX4_countCharacters_44 : decode cX4_countCharacters 44 = .ok (.bipush 8, 2) := by decide +kernel
theorem dX4_countCharacters_46 : decode cX4_countCharacters 46 = .ok (.lushr, 1) := by decide +kernel
theorem dX4_countCharacters_47 : decode cX4_countCharacters 47 = .ok (.lstore_n 3, 1) := by decide +kernel
theorem dX4_countCharacters_48 : decode cX4_countCharacters 48 = .ok (.goto (-44), 3) := by decide +kernel
theorem dX4_countCharacters_51 : decode cX4_countCharacters 51 = .ok (.iload_n 2, 1) := by decide +kernel
theorem dX4_countCharacters_52 : decode cX4_countCharacters 52 = .ok (.ireturn, 1) := by decide +kernel
theorem dJ9_floorMod_7cf53_0 : decode cJ9_floorMod_7cf53 0 = .ok (.iload_n 0, 1) := by decide +kernel
theorem dJ9_floorMod_7cf53_1 : decode cJ9_floorMod_7cf53 1 = .ok (.iload_n 1, 1) := by decide +kernel
theorem dJ9_floorMod_7cf53_2 : decode cJ9_floorMod_7cf53 2 = .ok (.irem, 1) := by decide +kernel
theorem dJ9_floorMod_7cf53_3 : decode cJ9_floorMod_7cf53 3 = .ok (.istore_n 2, 1) := by decide +kernel
theorem dJ9_floorMod_7cf53_4 : decode cJ9_floorMod_7cf53 4 = .ok (.iload_n 0, 1) := by decide +kernel
theorem dJ9_floorMod_7cf53_5 : decode cJ9_floorMod_7cf53 5 = .ok (.iload_n 1, 1) := by decide +kernel
theorem dJ9_floorMod_7cf53_6 : decode cJ9_floorMod_7cf53 6 = .ok (.ixor, 1) := by decide +kernel
theorem dJ9_floorMod_7cf53_7 : decode cJ9_floorMod_7cf53 7 = .ok (.ifCond .ge 11, 3) := by decide +kernel
theorem dJ9_floorMod_7cf53_10 : decode cJ9_floorMod_7cf53 10 = .ok (.iload_n 2, 1) := by decide +kernel
theorem dJ9_floorMod_7cf53_11 : decode cJ9_floorMod_7cf53 11 = .ok (.ifCond .eq 7, 3) := by decide +kernel
theorem dJ9_floorMod_7cf53_14 : decode cJ9_floorMod_7cf53 14 = .ok (.iload_n 2, 1) := by decide +kernel
theorem dJ9_floorMod_7cf53_15 : decode cJ9_floorMod_7cf53 15 = .ok (.iload_n 1, 1) := by decide +kernel
theorem dJ9_floorMod_7cf53_16 : decode cJ9_floorMod_7cf53 16 = .ok (.iadd, 1) := by decide +kernel
theorem dJ9_floorMod_7cf53_17 : decode cJ9_floorMod_7cf53 17 = .ok (.ireturn, 1) := by decide +kernel
theorem dJ9_floorMod_7cf53_18 : decode cJ9_floorMod_7cf53 18 = .ok (.iload_n 2, 1) := by decide +kernel
theorem dJ9_floorMod_7cf53_19 : decode cJ9_floorMod_7cf53 19 = .ok (.ireturn, 1) := by decide +kernel
theorem dJ9_max_7cf53_0 : decode cJ9_max_7cf53 0 = .ok (.iload_n 0, 1) := by decide +kernel
theorem dJ9_max_7cf53_1 : decode cJ9_max_7cf53 1 = .ok (.iload_n 1, 1) := by decide +kernel
theorem dJ9_max_7cf53_2 : decode cJ9_max_7cf53 2 = .ok (.if_icmp .lt 7, 3) := by decide +kernel
theorem dJ9_max_7cf53_5 : decode cJ9_max_7cf53 5 = .ok (.iload_n 0, 1) := by decide +kernel
theorem dJ9_max_7cf53_6 : decode cJ9_max_7cf53 6 = .ok (.goto 4, 3) := by decide +kernel
theorem dJ9_max_7cf53_9 : decode cJ9_max_7cf53 9 = .ok (.iload_n 1, 1) := by decide +kernel
theorem dJ9_max_7cf53_10 : decode cJ9_max_7cf53 10 = .ok (.ireturn, 1) := by decide +kernel
theorem dJ7_fill_53178_0 : decode cJ7_fill_53178 0 = .ok (.iconst 0, 1) := by decide +kernel
theorem dJ7_fill_53178_1 : decode cJ7_fill_53178 1 = .ok (.istore_n 2, 1) := by decide +kernel
theorem dJ7_fill_53178_2 : decode cJ7_fill_53178 2 = .ok (.aload_n 0, 1) := by decide +kernel
theorem dJ7_fill_53178_3 : decode cJ7_fill_53178 3 = .ok (.arraylength, 1) := by decide +kernel
theorem dJ7_fill_53178_4 : decode cJ7_fill_53178 4 = .ok (.istore_n 3, 1) := by decide +kernel
theorem dJ7_fill_53178_5 : decode cJ7_fill_53178 5 = .ok (.iload_n 2, 1) := by decide +kernel
theorem dJ7_fill_53178_6 : decode cJ7_fill_53178 6 = .ok (.iload_n 3, 1) := by decide +kernel
theorem dJ7_fill_53178_7 : decode cJ7_fill_53178 7 = .ok (.if_icmp .ge 13, 3) := by decide +kernel
theorem dJ7_fill_53178_10 : decode cJ7_fill_53178 10 = .ok (.aload_n 0, 1) := by decide +kernel
theorem dJ7_fill_53178_11 : decode cJ7_fill_53178 11 = .ok (.iload_n 2, 1) := by decide +kernel
theorem dJ7_fill_53178_12 : decode cJ7_fill_53178 12 = .ok (.iload_n 1, 1) := by decide +kernel
theorem dJ7_fill_53178_13 : decode cJ7_fill_53178 13 = .ok (.iastore, 1) := by decide +kernel
theorem dJ7_fill_53178_14 : decode cJ7_fill_53178 14 = .ok (.iinc 2 1, 3) := by decide +kernel
theorem dJ7_fill_53178_17 : decode cJ7_fill_53178 17 = .ok (.goto (-12), 3) := by decide +kernel
theorem dJ7_fill_53178_20 : decode cJ7_fill_53178 20 = .ok (.return_, 1) := by decide +kernel
theorem dL_cell_0 : decode cL_cell 0 = .ok (.iload_n 1, 1) := by decide +kernel
theorem dL_cell_1 : decode cL_cell 1 = .ok (.aload_n 0, 1) := by decide +kernel
theorem dL_cell_2 : decode cL_cell 2 = .ok (.arraylength, 1) := by decide +kernel
theorem dL_cell_3 : decode cL_cell 3 = .ok (.if_icmp .ge 9, 3) := by decide +kernel
theorem dL_cell_6 : decode cL_cell 6 = .ok (.aload_n 0, 1) := by decide +kernel
theorem dL_cell_7 : decode cL_cell 7 = .ok (.iload_n 1, 1) := by decide +kernel
theorem dL_cell_8 : decode cL_cell 8 = .ok (.iaload, 1) := by decide +kernel
theorem dL_cell_9 : decode cL_cell 9 = .ok (.goto 10, 3) := by decide +kernel
theorem dL_cell_12 : decode cL_cell 12 = .ok (.ldc 7, 2) := by decide +kernel
theorem dL_cell_14 : decode cL_cell 14 = .ok (.iload_n 1, 1) := by decide +kernel
theorem dL_cell_15 : decode cL_cell 15 = .ok (.imul, 1) := by decide +kernel
theorem dL_cell_16 : decode cL_cell 16 = .ok (.ldc 8, 2) := by decide +kernel
theorem dL_cell_18 : decode cL_cell 18 = .ok (.iadd, 1) := by decide +kernel
theorem dL_cell_19 : decode cL_cell 19 = .ok (.ireturn, 1) := by decide +kernel
theorem dL_low_0 : decode cL_low 0 = .ok (.iload_n 0, 1) := by decide +kernel
theorem dL_low_1 : decode cL_low 1 = .ok (.ldc 9, 2) := by decide +kernel
theorem dL_low_3 : decode cL_low 3 = .ok (.iand, 1) := by decide +kernel
theorem dL_low_4 : decode cL_low 4 = .ok (.iload_n 1, 1) := by decide +kernel
theorem dL_low_5 : decode cL_low 5 = .ok (.irem, 1) := by decide +kernel
theorem dL_low_6 : decode cL_low 6 = .ok (.ireturn, 1) := by decide +kernel
set_option maxRecDepth 20000 in
theorem ggL_fill_X4_wipe : GoodIn wsL_fill wsX4_wipe := goodIn_r _ [5, 6, 7, 8, 9, 10, 11, 12, 13, 14, 15, 16, 97, 98, 99, 100, 101, 102, 103, 104, 105, 106, 107, 108] (by decide +kernel) (by decide +kernel)
set_option maxRecDepth 20000 in
theorem gL_fill_X4_wipe : GoodIn wsL_fill (wsV RL 10 RX4 yX4_wipe wsX4_wipe) := goodIn_app (goodIn_of _ (by decide +kernel)) ggL_fill_X4_wipe
set_option maxRecDepth 20000 in
theorem ggL_fill_L_cell : GoodIn wsL_fill wsL_cell := goodIn_r _ [20, 21, 22] (by decide +kernel) (by decide +kernel)
set_option maxRecDepth 20000 in
theorem gL_fill_L_cell : GoodIn wsL_fill (va_wsS RL 16 yL_cell wsL_cell) := goodIn_app (goodIn_of _ (by decide +kernel)) ggL_fill_L_cell
set_option maxRecDepth 20000 in
theorem ggL_fill_L_low : GoodIn wsL_fill wsL_low := goodIn_r _ [25, 26] (by decide +kernel) (by decide +kernel)
set_option maxRecDepth 20000 in
theorem gL_fill_L_low : GoodIn wsL_fill (va_wsS RL 22 yL_low wsL_low) := goodIn_app (goodIn_of _ (by decide +kernel)) ggL_fill_L_low
set_option maxRecDepth 20000 in
theorem ggL_fill_X4_set : GoodIn wsL_fill wsX4_set := goodIn_r _ [30, 31, 32, 33, 34, 35, 36, 37, 38, 39, 40, 41, 42, 43, 44, 45, 46, 47, 48, 49, 50, 4, 51, 52, 53, 54, 55, 56, 57, 58, 59, 60, 61, 62, 63, 64, 65, 66, 67, 68, 69, 70, 71, 72, 73, 74, 75, 76, 77, 78, 79, 80, 81, 82, 83, 84, 85, 86, 87, 88, 97, 98, 99, 100, 101, 102, 103, 104, 105, 106, 109, 110, 111, 112, 113] (by decide +kernel) (by decide +kernel)
set_option maxRecDepth 20000 in
theorem gL_fill_X4_set : GoodIn wsL_fill (wsV RL 26 RX4 yX4_set wsX4_set) := goodIn_app (goodIn_of _ (by decide +kernel)) ggL_fill_X4_set
set_option maxRecDepth 20000 in
theorem ggL_fill_X4_number : GoodIn wsL_fill wsX4_number := goodIn_r _ [92, 31, 37, 38, 39, 40, 41, 42, 43, 44, 45, 46, 47, 48, 93, 94, 95, 96, 71, 97, 98, 99, 100, 101, 102, 103, 104, 105, 106, 109, 110, 111] (by decide +kernel) (by decide +kernel)
set_option maxRecDepth 20000 in
theorem gL_fill_X4_number : GoodIn wsL_fill (wsV RL 30 RX4 yX4_number wsX4_number) := goodIn_app (goodIn_of _ (by decide +kernel)) ggL_fill_X4_number
theorem dL_fill_0 : decode cL_fill 0 = .ok (.aload_n 0, 1) := by decide +kernel
theorem dL_fill_1 : decode cL_fill 1 = .ok (.invokevirtual 10, 3) := by decide +kernel
theorem dL_fill_4 : decode cL_fill 4 = .ok (.ifCond .lt 7, 3) := by decide +kernel
theorem dL_fill_7 : decode cL_fill 7 = .ok (.iconst 1, 1) := by decide +kernel
theorem dL_fill_8 : decode cL_fill 8 = .ok (.goto 4, 3) := by decide +kernel
theorem dL_fill_11 : decode cL_fill 11 = .ok (.iconst 0, 1) := by decide +kernel
theorem dL_fill_12 : decode cL_fill 12 = .ok (.istore 6, 2) := by decide +kernel
theorem dL_fill_14 : decode cL_fill 14 = .ok (.iconst 0, 1) := by decide +kernel
theorem dL_fill_15 : decode cL_fill 15 = .ok (.istore 7, 2) := by decide +kernel
theorem dL_fill_17 : decode cL_fill 17 = .ok (.iload 7, 2) := by decide +kernel
theorem dL_fill_19 : decode cL_fill 19 = .ok (.iload 4, 2) := by decide +kernel
theorem dL_fill_21 : decode cL_fill 21 = .ok (.if_icmp .ge 125, 3) := by decide +kernel
theorem dL_fill_24 : decode cL_fill 24 = .ok (.iload 6, 2) := by decide +kernel
theorem dL_fill_26 : decode cL_fill 26 = .ok (.ifCond .eq 120, 3) := by decide +kernel
theorem dL_fill_29 : decode cL_fill 29 = .ok (.aload_n 2, 1) := by decide +kernel
theorem dL_fill_30 : decode cL_fill 30 = .ok (.iload_n 3, 1) := by decide +kernel
theorem dL_fill_31 : decode cL_fill 31 = .ok (.iload 7, 2) := by decide +kernel
theorem dL_fill_33 : decode cL_fill 33 = .ok (.iconst 2, 1) := by decide +kernel
theorem dL_fill_34 : decode cL_fill 34 = .ok (.idiv, 1) := by decide +kernel
theorem dL_fill_35 : decode cL_fill 35 = .ok (.iadd, 1) := by decide +kernel
theorem dL_fill_36 : decode cL_fill 36 = .ok (.invokestatic 16, 3) := by decide +kernel
theorem dL_fill_39 : decode cL_fill 39 = .ok (.bipush 13, 2) := by decide +kernel
theorem dL_fill_41 : decode cL_fill 41 = .ok (.iload 7, 2) := by decide +kernel
theorem dL_fill_43 : decode cL_fill 43 = .ok (.iconst 2, 1) := by decide +kernel
theorem dL_fill_44 : decode cL_fill 44 = .ok (.irem, 1) := by decide +kernel
theorem dL_fill_45 : decode cL_fill 45 = .ok (.imul, 1) := by decide +kernel
theorem dL_fill_46 : decode cL_fill 46 = .ok (.ishr, 1) := by decide +kernel
theorem dL_fill_47 : decode cL_fill 47 = .ok (.istore 8, 2) := by decide +kernel
theorem dL_fill_49 : decode cL_fill 49 = .ok (.iload 5, 2) := by decide +kernel
theorem dL_fill_51 : decode cL_fill 51 = .ok (.ifCond .ne 14, 3) := by decide +kernel
theorem dL_fill_54 : decode cL_fill 54 = .ok (.iload 8, 2) := by decide +kernel
theorem dL_fill_56 : decode cL_fill 56 = .ok (.sipush 257, 3) := by decide +kernel
theorem dL_fill_59 : decode cL_fill 59 = .ok (.invokestatic 22, 3) := by decide +kernel
theorem dL_fill_62 : decode cL_fill 62 = .ok (.goto 41, 3) := by decide +kernel
theorem dL_fill_65 : decode cL_fill 65 = .ok (.iload 5, 2) := by decide +kernel
theorem dL_fill_67 : decode cL_fill 67 = .ok (.iconst 1, 1) := by decide +kernel
theorem dL_fill_68 : decode cL_fill 68 = .ok (.if_icmp .ne 12, 3) := by decide +kernel
theorem dL_fill_71 : decode cL_fill 71 = .ok (.iload 8, 2) := by decide +kernel
theorem dL_fill_73 : decode cL_fill 73 = .ok (.iconst 3, 1) := by decide +kernel
theorem dL_fill_74 : decode cL_fill 74 = .ok (.invokestatic 22, 3) := by decide +kernel
theorem dL_fill_77 : decode cL_fill 77 = .ok (.goto 26, 3) := by decide +kernel
theorem dL_fill_80 : decode cL_fill 80 = .ok (.iload 8, 2) := by decide +kernel
theorem dL_fill_82 : decode cL_fill 82 = .ok (.iconst 2, 1) := by decide +kernel
theorem dL_fill_83 : decode cL_fill 83 = .ok (.ishr, 1) := by decide +kernel
theorem dL_fill_84 : decode cL_fill 84 = .ok (.iconst 4, 1) := by decide +kernel
theorem dL_fill_85 : decode cL_fill 85 = .ok (.invokestatic 22, 3) := by decide +kernel
theorem dL_fill_88 : decode cL_fill 88 = .ok (.ifCond .ne 14, 3) := by decide +kernel
theorem dL_fill_91 : decode cL_fill 91 = .ok (.iload 8, 2) := by decide +kernel
theorem dL_fill_93 : decode cL_fill 93 = .ok (.sipush 257, 3) := by decide +kernel
theorem dL_fill_96 : decode cL_fill 96 = .ok (.invokestatic 22, 3) := by decide +kernel
theorem dL_fill_99 : decode cL_fill 99 = .ok (.goto 4, 3) := by decide +kernel
theorem dL_fill_102 : decode cL_fill 102 = .ok (.iconst 0, 1) := by decide +kernel
theorem dL_fill_103 : decode cL_fill 103 = .ok (.istore 9, 2) := by decide +kernel
theorem dL_fill_105 : decode cL_fill 105 = .ok (.aload_n 0, 1) := by decide +kernel
theorem dL_fill_106 : decode cL_fill 106 = .ok (.iload_n 1, 1) := by decide +kernel
theorem dL_fill_107 : decode cL_fill 107 = .ok (.iload 7, 2) := by decide +kernel
theorem dL_fill_109 : decode cL_fill 109 = .ok (.iload 9, 2) := by decide +kernel
theorem dL_fill_111 : decode cL_fill 111 = .ok (.invokevirtual 26, 3) := by decide +kernel
theorem dL_fill_114 : decode cL_fill 114 = .ok (.iload 7, 2) := by decide +kernel
theorem dL_fill_116 : decode cL_fill 116 = .ok (.iconst 1, 1) := by decide +kernel
theorem dL_fill_117 : decode cL_fill 117 = .ok (.iadd, 1) := by decide +kernel
theorem dL_fill_118 : decode cL_fill 118 = .ok (.if_icmp .ne 19, 3) := by decide +kernel
theorem dL_fill_121 : decode cL_fill 121 = .ok (.aload_n 0, 1) := by decide +kernel
theorem dL_fill_122 : decode cL_fill 122 = .ok (.iload_n 1, 1) := by decide +kernel
theorem dL_fill_123 : decode cL_fill 123 = .ok (.iload 7, 2) := by decide +kernel
theorem dL_fill_125 : decode cL_fill 125 = .ok (.invokevirtual 30, 3) := by decide +kernel
theorem dL_fill_128 : decode cL_fill 128 = .ok (.iload 9, 2) := by decide +kernel
theorem dL_fill_130 : decode cL_fill 130 = .ok (.if_icmp .ne 7, 3) := by decide +kernel
theorem dL_fill_133 : decode cL_fill 133 = .ok (.iconst 1, 1) := by decide +kernel
theorem dL_fill_134 : decode cL_fill 134 = .ok (.goto 4, 3) := by decide +kernel
theorem dL_fill_137 : decode cL_fill 137 = .ok (.iconst 0, 1) := by decide +kernel
theorem dL_fill_138 : decode cL_fill 138 = .ok (.istore 6, 2) := by decide +kernel
theorem dL_fill_140 : decode cL_fill 140 = .ok (.iinc 7 1, 3) := by decide +kernel
theorem dL_fill_143 : decode cL_fill 143 = .ok (.goto (-126), 3) := by decide +kernel
theorem dL_fill_146 : decode cL_fill 146 = .ok (.iload 6, 2) := by decide +kernel
theorem dL_fill_148 : decode cL_fill 148 = .ok (.ireturn, 1) := by decide +kernel
set_option maxRecDepth 20000 in
theorem ggL_fresh_X4_wipe : GoodIn wsL_fresh wsX4_wipe := goodIn_r _ [6, 7, 8, 9, 10, 11, 12, 13, 14, 15, 16, 17, 103, 104, 105, 106, 107, 108, 109, 110, 111, 112, 113, 114] (by decide +kernel) (by decide +kernel)
set_option maxRecDepth 20000 in
theorem gL_fresh_X4_wipe : GoodIn wsL_fresh (wsV RL 10 RX4 yX4_wipe wsX4_wipe) := goodIn_app (goodIn_of _ (by decide +kernel)) ggL_fresh_X4_wipe
set_option maxRecDepth 20000 in
theorem ggL_fresh_X4_put : GoodIn wsL_fresh wsX4_put := goodIn_r _ [21, 7, 22, 23, 5, 24, 25, 8, 9, 10, 11, 12, 13, 26, 27, 28, 29, 30, 103, 104, 105, 106, 107, 108, 109, 110, 111, 112, 113, 114] (by decide +kernel) (by decide +kernel)
set_option maxRecDepth 20000 in
theorem gL_fresh_X4_put : GoodIn wsL_fresh (wsV RL 35 RX4 yX4_put wsX4_put) := goodIn_app (goodIn_of _ (by decide +kernel)) ggL_fresh_X4_put
set_option maxRecDepth 20000 in
theorem ggL_fresh_X4_read : GoodIn wsL_fresh wsX4_read := goodIn_r _ [34, 35, 7, 36, 37, 38, 39, 40, 41, 42, 43, 44, 45, 11, 46, 30, 13, 47, 48, 49, 50, 51, 52, 53, 54, 55, 56, 57, 58, 59, 60, 61, 62, 63, 64, 65, 66, 67, 68, 69, 70, 71, 72, 5, 73, 74, 75, 76, 77, 78, 79, 80, 81, 82, 83, 84, 85, 86, 87, 88, 89, 90, 91, 92, 93, 94, 95, 96, 97, 98, 14, 15, 16, 17, 99, 100, 101, 102, 103, 104, 105, 106, 107, 108, 109, 110, 111, 112, 115, 113, 114, 116, 117, 118, 119] (by decide +kernel) (by decide +kernel)
set_option maxRecDepth 20000 in
theorem gL_fresh_X4_read : GoodIn wsL_fresh (wsV RL 39 RX4 yX4_read wsX4_read) := goodIn_app (goodIn_of _ (by decide +kernel)) ggL_fresh_X4_read
theorem dL_fresh_0 : decode cL_fresh 0 = .ok (.aload_n 0, 1) := by decide +kernel
theorem dL_fresh_1 : decode cL_fresh 1 = .ok (.invokevirtual 10, 3) := by decide +kernel
theorem dL_fresh_4 : decode cL_fresh 4 = .ok (.ifCond .lt 27, 3) := by decide +kernel
theorem dL_fresh_7 : decode cL_fresh 7 = .ok (.aload_n 0, 1) := by decide +kernel
theorem dL_fresh_8 : decode cL_fresh 8 = .ok (.ldc2_w 33, 3) := by decide +kernel
theorem dL_fresh_11 : decode cL_fresh 11 = .ok (.invokevirtual 35, 3) := by decide +kernel
theorem dL_fresh_14 : decode cL_fresh 14 = .ok (.iconst 1, 1) := by decide +kernel
theorem dL_fresh_15 : decode cL_fresh 15 = .ok (.if_icmp .ne 16, 3) := by decide +kernel
theorem dL_fresh_18 : decode cL_fresh 18 = .ok (.aload_n 0, 1) := by decide +kernel
theorem dL_fresh_19 : decode cL_fresh 19 = .ok (.iload_n 1, 1) := by decide +kernel
theorem dL_fresh_20 : decode cL_fresh 20 = .ok (.invokevirtual 39, 3) := by decide +kernel
theorem dL_fresh_23 : decode cL_fresh 23 = .ok (.iconst 1, 1) := by decide +kernel
theorem dL_fresh_24 : decode cL_fresh 24 = .ok (.if_icmp .ne 7, 3) := by decide +kernel
theorem dL_fresh_27 : decode cL_fresh 27 = .ok (.iconst 1, 1) := by decide +kernel
theorem dL_fresh_28 : decode cL_fresh 28 = .ok (.goto 4, 3) := by decide +kernel
theorem dL_fresh_31 : decode cL_fresh 31 = .ok (.iconst 0, 1) := by decide +kernel
theorem dL_fresh_32 : decode cL_fresh 32 = .ok (.ireturn, 1) := by decide +kernel
set_option maxRecDepth 20000 in
theorem ggL_at_X4_of : GoodIn wsL_at wsX4_of := goodIn_r _ [5, 6, 7, 8, 9, 10, 11, 12, 13, 14, 15, 16, 17, 18, 19, 20, 21, 22, 23, 24, 25, 26, 27, 28, 29, 30, 31, 32, 33, 34, 35, 36, 37, 38, 39, 40, 41, 42, 43, 44, 45, 46, 47, 53, 54, 55, 56, 57, 58, 59, 60, 61, 62, 63, 64, 65] (by decide +kernel) (by decide +kernel)
set_option maxRecDepth 20000 in
theorem gL_at_X4_of : GoodIn wsL_at (wsV RL 43 RX4 yX4_of wsX4_of) := goodIn_app (goodIn_of _ (by decide +kernel)) ggL_at_X4_of
set_option maxRecDepth 20000 in
theorem ggL_at_X4_number : GoodIn wsL_at wsX4_number := goodIn_r _ [51, 6, 7, 8, 9, 10, 11, 12, 13, 14, 15, 16, 17, 18, 52, 24, 25, 26, 27, 53, 54, 55, 56, 57, 58, 59, 60, 61, 62, 63, 64, 65] (by decide +kernel) (by decide +kernel)
set_option maxRecDepth 20000 in
theorem gL_at_X4_number : GoodIn wsL_at (wsV RL 30 RX4 yX4_number wsX4_number) := goodIn_app (goodIn_of _ (by decide +kernel)) ggL_at_X4_number
theorem dL_at_0 : decode cL_at 0 = .ok (.iload_n 2, 1) := by decide +kernel
theorem dL_at_1 : decode cL_at 1 = .ok (.aload_n 0, 1) := by decide +kernel
theorem dL_at_2 : decode cL_at 2 = .ok (.iload_n 1, 1) := by decide +kernel
theorem dL_at_3 : decode cL_at 3 = .ok (.iconst 0, 1) := by decide +kernel
theorem dL_at_4 : decode cL_at 4 = .ok (.invokevirtual 43, 3) := by decide +kernel
theorem dL_at_7 : decode cL_at 7 = .ok (.if_icmp .ge 12, 3) := by decide +kernel
theorem dL_at_10 : decode cL_at 10 = .ok (.aload_n 0, 1) := by decide +kernel
theorem dL_at_11 : decode cL_at 11 = .ok (.iload_n 1, 1) := by decide +kernel
theorem dL_at_12 : decode cL_at 12 = .ok (.iload_n 2, 1) := by decide +kernel
theorem dL_at_13 : decode cL_at 13 = .ok (.invokevirtual 30, 3) := by decide +kernel
theorem dL_at_16 : decode cL_at 16 = .ok (.goto 4, 3) := by decide +kernel
theorem dL_at_19 : decode cL_at 19 = .ok (.iconst 0, 1) := by decide +kernel
theorem dL_at_20 : decode cL_at 20 = .ok (.ireturn, 1) := by decide +kernel
set_option maxRecDepth 20000 in
theorem ggL_value_X4_of : GoodIn wsL_value wsX4_of := goodIn_r _ [5, 6, 7, 8, 9, 10, 11, 12, 13, 14, 15, 16, 17, 18, 19, 20, 21, 22, 23, 24, 25, 26, 27, 28, 29, 30, 31, 32, 33, 34, 35, 36, 37, 38, 39, 40, 41, 42, 43, 44, 45, 46, 47, 53, 54, 55, 56, 57, 58, 59, 60, 61, 62, 63, 64, 65] (by decide +kernel) (by decide +kernel)
set_option maxRecDepth 20000 in
theorem gL_value_X4_of : GoodIn wsL_value (wsV RL 43 RX4 yX4_of wsX4_of) := goodIn_app (goodIn_of _ (by decide +kernel)) ggL_value_X4_of
set_option maxRecDepth 20000 in
theorem ggL_value_X4_number : GoodIn wsL_value wsX4_number := goodIn_r _ [51, 6, 7, 8, 9, 10, 11, 12, 13, 14, 15, 16, 17, 18, 52, 24, 25, 26, 27, 53, 54, 55, 56, 57, 58, 59, 60, 61, 62, 63, 64, 65] (by decide +kernel) (by decide +kernel)
set_option maxRecDepth 20000 in
theorem gL_value_X4_number : GoodIn wsL_value (wsV RL 30 RX4 yX4_number wsX4_number) := goodIn_app (goodIn_of _ (by decide +kernel)) ggL_value_X4_number
theorem dL_value_0 : decode cL_value 0 = .ok (.iconst 0, 1) := by decide +kernel
theorem dL_value_1 : decode cL_value 1 = .ok (.istore_n 3, 1) := by decide +kernel
theorem dL_value_2 : decode cL_value 2 = .ok (.iconst 1, 1) := by decide +kernel
theorem dL_value_3 : decode cL_value 3 = .ok (.istore 4, 2) := by decide +kernel
theorem dL_value_5 : decode cL_value 5 = .ok (.iconst 0, 1) := by decide +kernel
theorem dL_value_6 : decode cL_value 6 = .ok (.istore 5, 2) := by decide +kernel
theorem dL_value_8 : decode cL_value 8 = .ok (.iload 5, 2) := by decide +kernel
theorem dL_value_10 : decode cL_value 10 = .ok (.aload_n 0, 1) := by decide +kernel
theorem dL_value_11 : decode cL_value 11 = .ok (.iload_n 1, 1) := by decide +kernel
theorem dL_value_12 : decode cL_value 12 = .ok (.iconst 0, 1) := by decide +kernel
theorem dL_value_13 : decode cL_value 13 = .ok (.invokevirtual 43, 3) := by decide +kernel
theorem dL_value_16 : decode cL_value 16 = .ok (.if_icmp .ge 36, 3) := by decide +kernel
theorem dL_value_19 : decode cL_value 19 = .ok (.iload_n 3, 1) := by decide +kernel
theorem dL_value_20 : decode cL_value 20 = .ok (.aload_n 0, 1) := by decide +kernel
theorem dL_value_21 : decode cL_value 21 = .ok (.iload_n 1, 1) := by decide +kernel
theorem dL_value_22 : decode cL_value 22 = .ok (.iload 5, 2) := by decide +kernel
theorem dL_value_24 : decode cL_value 24 = .ok (.invokevirtual 30, 3) := by decide +kernel
theorem dL_value_27 : decode cL_value 27 = .ok (.iload 4, 2) := by decide +kernel
theorem dL_value_29 : decode cL_value 29 = .ok (.imul, 1) := by decide +kernel
theorem dL_value_30 : decode cL_value 30 = .ok (.iadd, 1) := by decide +kernel
theorem dL_value_31 : decode cL_value 31 = .ok (.sipush 257, 3) := by decide +kernel
theorem dL_value_34 : decode cL_value 34 = .ok (.irem, 1) := by decide +kernel
theorem dL_value_35 : decode cL_value 35 = .ok (.istore_n 3, 1) := by decide +kernel
theorem dL_value_36 : decode cL_value 36 = .ok (.iload 4, 2) := by decide +kernel
theorem dL_value_38 : decode cL_value 38 = .ok (.iload_n 2, 1) := by decide +kernel
theorem dL_value_39 : decode cL_value 39 = .ok (.imul, 1) := by decide +kernel
theorem dL_value_40 : decode cL_value 40 = .ok (.sipush 257, 3) := by decide +kernel
theorem dL_value_43 : decode cL_value 43 = .ok (.irem, 1) := by decide +kernel
theorem dL_value_44 : decode cL_value 44 = .ok (.istore 4, 2) := by decide +kernel
theorem dL_value_46 : decode cL_value 46 = .ok (.iinc 5 1, 3) := by decide +kernel
theorem dL_value_49 : decode cL_value 49 = .ok (.goto (-41), 3) := by decide +kernel
theorem dL_value_52 : decode cL_value 52 = .ok (.iload_n 3, 1) := by decide +kernel
theorem dL_value_53 : decode cL_value 53 = .ok (.ireturn, 1) := by decide +kernel
set_option maxRecDepth 20000 in
theorem ggL_degree_X4_of : GoodIn wsL_degree wsX4_of := goodIn_r _ [5, 6, 7, 8, 9, 10, 11, 12, 13, 14, 15, 16, 17, 18, 19, 20, 21, 22, 23, 24, 25, 26, 27, 28, 29, 30, 31, 32, 33, 34, 35, 36, 37, 38, 39, 40, 41, 42, 43, 44, 45, 46, 47, 53, 54, 55, 56, 57, 58, 59, 60, 61, 62, 63, 64, 65] (by decide +kernel) (by decide +kernel)
set_option maxRecDepth 20000 in
theorem gL_degree_X4_of : GoodIn wsL_degree (wsV RL 43 RX4 yX4_of wsX4_of) := goodIn_app (goodIn_of _ (by decide +kernel)) ggL_degree_X4_of
set_option maxRecDepth 20000 in
theorem ggL_degree_X4_number : GoodIn wsL_degree wsX4_number := goodIn_r _ [51, 6, 7, 8, 9, 10, 11, 12, 13, 14, 15, 16, 17, 18, 52, 24, 25, 26, 27, 53, 54, 55, 56, 57, 58, 59, 60, 61, 62, 63, 64, 65] (by decide +kernel) (by decide +kernel)
set_option maxRecDepth 20000 in
theorem gL_degree_X4_number : GoodIn wsL_degree (wsV RL 30 RX4 yX4_number wsX4_number) := goodIn_app (goodIn_of _ (by decide +kernel)) ggL_degree_X4_number
theorem dL_degree_0 : decode cL_degree 0 = .ok (.bipush (-6), 2) := by decide +kernel
theorem dL_degree_2 : decode cL_degree 2 = .ok (.istore_n 2, 1) := by decide +kernel
theorem dL_degree_3 : decode cL_degree 3 = .ok (.iconst 0, 1) := by decide +kernel
theorem dL_degree_4 : decode cL_degree 4 = .ok (.istore_n 3, 1) := by decide +kernel
theorem dL_degree_5 : decode cL_degree 5 = .ok (.iload_n 3, 1) := by decide +kernel
theorem dL_degree_6 : decode cL_degree 6 = .ok (.aload_n 0, 1) := by decide +kernel
theorem dL_degree_7 : decode cL_degree 7 = .ok (.iload_n 1, 1) := by decide +kernel
theorem dL_degree_8 : decode cL_degree 8 = .ok (.iconst 0, 1) := by decide +kernel
theorem dL_degree_9 : decode cL_degree 9 = .ok (.invokevirtual 43, 3) := by decide +kernel
theorem dL_degree_12 : decode cL_degree 12 = .ok (.if_icmp .ge 24, 3) := by decide +kernel
theorem dL_degree_15 : decode cL_degree 15 = .ok (.aload_n 0, 1) := by decide +kernel
theorem dL_degree_16 : decode cL_degree 16 = .ok (.iload_n 1, 1) := by decide +kernel
theorem dL_degree_17 : decode cL_degree 17 = .ok (.iload_n 3, 1) := by decide +kernel
theorem dL_degree_18 : decode cL_degree 18 = .ok (.invokevirtual 30, 3) := by decide +kernel
theorem dL_degree_21 : decode cL_degree 21 = .ok (.ifCond .ne 7, 3) := by decide +kernel
theorem dL_degree_24 : decode cL_degree 24 = .ok (.iload_n 2, 1) := by decide +kernel
theorem dL_degree_25 : decode cL_degree 25 = .ok (.goto 4, 3) := by decide +kernel
theorem dL_degree_28 : decode cL_degree 28 = .ok (.iload_n 3, 1) := by decide +kernel
theorem dL_degree_29 : decode cL_degree 29 = .ok (.istore_n 2, 1) := by decide +kernel
theorem dL_degree_30 : decode cL_degree 30 = .ok (.iinc 3 1, 3) := by decide +kernel
theorem dL_degree_33 : decode cL_degree 33 = .ok (.goto (-28), 3) := by decide +kernel
theorem dL_degree_36 : decode cL_degree 36 = .ok (.iload_n 2, 1) := by decide +kernel
theorem dL_degree_37 : decode cL_degree 37 = .ok (.ireturn, 1) := by decide +kernel
set_option maxRecDepth 20000 in
theorem ggL_isRow_X4_of : GoodIn wsL_isRow wsX4_of := goodIn_r _ [5, 6, 7, 8, 9, 10, 11, 12, 13, 14, 15, 16, 17, 18, 19, 20, 21, 22, 23, 24, 25, 26, 27, 28, 29, 30, 31, 32, 33, 34, 35, 36, 37, 38, 39, 40, 41, 42, 43, 44, 45, 46, 47, 68, 69, 70, 71, 72, 73, 74, 75, 76, 77, 78, 79, 80] (by decide +kernel) (by decide +kernel)
set_option maxRecDepth 20000 in
theorem gL_isRow_X4_of : GoodIn wsL_isRow (wsV RL 43 RX4 yX4_of wsX4_of) := goodIn_app (goodIn_of _ (by decide +kernel)) ggL_isRow_X4_of
set_option maxRecDepth 20000 in
theorem ggL_isRow_X4_number : GoodIn wsL_isRow wsX4_number := goodIn_r _ [51, 6, 7, 8, 9, 10, 11, 12, 13, 14, 15, 16, 17, 18, 52, 24, 25, 26, 27, 68, 69, 70, 71, 72, 73, 74, 75, 76, 77, 78, 79, 80] (by decide +kernel) (by decide +kernel)
set_option maxRecDepth 20000 in
theorem gL_isRow_X4_number : GoodIn wsL_isRow (wsV RL 30 RX4 yX4_number wsX4_number) := goodIn_app (goodIn_of _ (by decide +kernel)) ggL_isRow_X4_number
set_option maxRecDepth 20000 in
theorem ggL_isRow_L_value : GoodIn wsL_isRow wsL_value := goodIn_r _ [56, 1, 2, 3, 4, 5, 6, 7, 8, 9, 10, 11, 12, 13, 14, 15, 16, 17, 18, 19, 20, 21, 22, 23, 24, 25, 26, 27, 28, 29, 30, 31, 32, 33, 34, 35, 36, 37, 38, 39, 40, 41, 42, 43, 44, 45, 46, 47, 48, 49, 50, 51, 52, 68, 69, 70, 71, 72, 73, 74, 75, 76, 77, 78, 79, 80] (by decide +kernel) (by decide +kernel)
set_option maxRecDepth 20000 in
theorem gL_isRow_L_value : GoodIn wsL_isRow (va_wsS RL 46 yL_value wsL_value) := goodIn_app (goodIn_of _ (by decide +kernel)) ggL_isRow_L_value
set_option maxRecDepth 20000 in
theorem ggL_isRow_X4_value : GoodIn wsL_isRow wsX4_value := goodIn_r _ [60, 6, 7, 8, 9, 10, 11, 12, 61, 62, 4, 63, 64, 41, 42, 16, 43, 18, 23, 24, 25, 26, 27, 68, 69, 70, 71, 72, 73, 74, 75, 76, 77, 78, 79, 80] (by decide +kernel) (by decide +kernel)
set_option maxRecDepth 20000 in
theorem gL_isRow_X4_value : GoodIn wsL_isRow (wsV RL 50 RX4 yX4_value wsX4_value) := goodIn_app (goodIn_of _ (by decide +kernel)) ggL_isRow_X4_value
set_option maxRecDepth 20000 in
theorem ggL_isRow_L_degree : GoodIn wsL_isRow wsL_degree := goodIn_r _ [67, 1, 2, 3, 4, 5, 6, 7, 8, 9, 10, 11, 12, 13, 14, 15, 16, 17, 18, 19, 20, 21, 22, 23, 24, 25, 26, 27, 28, 29, 30, 31, 32, 33, 34, 35, 36, 37, 38, 39, 40, 41, 42, 43, 44, 45, 46, 47, 48, 49, 50, 51, 52, 68, 69, 70, 71, 72, 73, 74, 75, 76, 77, 78, 79, 80] (by decide +kernel) (by decide +kernel)
set_option maxRecDepth 20000 in
theorem gL_isRow_L_degree : GoodIn wsL_isRow (va_wsS RL 52 yL_degree wsL_degree) := goodIn_app (goodIn_of _ (by decide +kernel)) ggL_isRow_L_degree
theorem dL_isRow_0 : decode cL_isRow 0 = .ok (.iconst 0, 1) := by decide +kernel
theorem dL_isRow_1 : decode cL_isRow 1 = .ok (.istore_n 2, 1) := by decide +kernel
theorem dL_isRow_2 : decode cL_isRow 2 = .ok (.iconst 0, 1) := by decide +kernel
theorem dL_isRow_3 : decode cL_isRow 3 = .ok (.istore_n 3, 1) := by decide +kernel
theorem dL_isRow_4 : decode cL_isRow 4 = .ok (.iconst 0, 1) := by decide +kernel
theorem dL_isRow_5 : decode cL_isRow 5 = .ok (.istore 4, 2) := by decide +kernel
theorem dL_isRow_7 : decode cL_isRow 7 = .ok (.bipush (-6), 2) := by decide +kernel
theorem dL_isRow_9 : decode cL_isRow 9 = .ok (.istore 5, 2) := by decide +kernel
theorem dL_isRow_11 : decode cL_isRow 11 = .ok (.aload_n 0, 1) := by decide +kernel
theorem dL_isRow_12 : decode cL_isRow 12 = .ok (.iload_n 1, 1) := by decide +kernel
theorem dL_isRow_13 : decode cL_isRow 13 = .ok (.iconst 0, 1) := by decide +kernel
theorem dL_isRow_14 : decode cL_isRow 14 = .ok (.invokevirtual 43, 3) := by decide +kernel
theorem dL_isRow_17 : decode cL_isRow 17 = .ok (.istore 6, 2) := by decide +kernel
theorem dL_isRow_19 : decode cL_isRow 19 = .ok (.iconst 0, 1) := by decide +kernel
theorem dL_isRow_20 : decode cL_isRow 20 = .ok (.istore 7, 2) := by decide +kernel
theorem dL_isRow_22 : decode cL_isRow 22 = .ok (.iload 7, 2) := by decide +kernel
theorem dL_isRow_24 : decode cL_isRow 24 = .ok (.iload 6, 2) := by decide +kernel
theorem dL_isRow_26 : decode cL_isRow 26 = .ok (.if_icmp .ge 51, 3) := by decide +kernel
theorem dL_isRow_29 : decode cL_isRow 29 = .ok (.aload_n 0, 1) := by decide +kernel
theorem dL_isRow_30 : decode cL_isRow 30 = .ok (.iload_n 1, 1) := by decide +kernel
theorem dL_isRow_31 : decode cL_isRow 31 = .ok (.iload 7, 2) := by decide +kernel
theorem dL_isRow_33 : decode cL_isRow 33 = .ok (.invokevirtual 30, 3) := by decide +kernel
theorem dL_isRow_36 : decode cL_isRow 36 = .ok (.istore 8, 2) := by decide +kernel
theorem dL_isRow_38 : decode cL_isRow 38 = .ok (.iload 8, 2) := by decide +kernel
theorem dL_isRow_40 : decode cL_isRow 40 = .ok (.ifCond .lt 11, 3) := by decide +kernel
theorem dL_isRow_43 : decode cL_isRow 43 = .ok (.iload 8, 2) := by decide +kernel
theorem dL_isRow_45 : decode cL_isRow 45 = .ok (.sipush 256, 3) := by decide +kernel
theorem dL_isRow_48 : decode cL_isRow 48 = .ok (.if_icmp .le 5, 3) := by decide +kernel
theorem dL_isRow_51 : decode cL_isRow 51 = .ok (.iconst 0, 1) := by decide +kernel
theorem dL_isRow_52 : decode cL_isRow 52 = .ok (.ireturn, 1) := by decide +kernel
theorem dL_isRow_53 : decode cL_isRow 53 = .ok (.iload_n 2, 1) := by decide +kernel
theorem dL_isRow_54 : decode cL_isRow 54 = .ok (.iload 8, 2) := by decide +kernel
theorem dL_isRow_56 : decode cL_isRow 56 = .ok (.ifCond .ne 7, 3) := by decide +kernel
theorem dL_isRow_59 : decode cL_isRow 59 = .ok (.iconst 0, 1) := by decide +kernel
theorem dL_isRow_60 : decode cL_isRow 60 = .ok (.goto 4, 3) := by decide +kernel
theorem dL_isRow_63 : decode cL_isRow 63 = .ok (.iconst 1, 1) := by decide +kernel
theorem dL_isRow_64 : decode cL_isRow 64 = .ok (.iadd, 1) := by decide +kernel
theorem dL_isRow_65 : decode cL_isRow 65 = .ok (.istore_n 2, 1) := by decide +kernel
theorem dL_isRow_66 : decode cL_isRow 66 = .ok (.iload_n 3, 1) := by decide +kernel
theorem dL_isRow_67 : decode cL_isRow 67 = .ok (.iload 8, 2) := by decide +kernel
theorem dL_isRow_69 : decode cL_isRow 69 = .ok (.iadd, 1) := by decide +kernel
theorem dL_isRow_70 : decode cL_isRow 70 = .ok (.istore_n 3, 1) := by decide +kernel
theorem dL_isRow_71 : decode cL_isRow 71 = .ok (.iinc 7 1, 3) := by decide +kernel
theorem dL_isRow_74 : decode cL_isRow 74 = .ok (.goto (-52), 3) := by decide +kernel
theorem dL_isRow_77 : decode cL_isRow 77 = .ok (.sipush 256, 3) := by decide +kernel
theorem dL_isRow_80 : decode cL_isRow 80 = .ok (.istore 7, 2) := by decide +kernel
theorem dL_isRow_82 : decode cL_isRow 82 = .ok (.iload 7, 2) := by decide +kernel
theorem dL_isRow_84 : decode cL_isRow 84 = .ok (.ifCond .lt 61, 3) := by decide +kernel
theorem dL_isRow_87 : decode cL_isRow 87 = .ok (.aload_n 0, 1) := by decide +kernel
theorem dL_isRow_88 : decode cL_isRow 88 = .ok (.iload_n 1, 1) := by decide +kernel
theorem dL_isRow_89 : decode cL_isRow 89 = .ok (.iload 7, 2) := by decide +kernel
theorem dL_isRow_91 : decode cL_isRow 91 = .ok (.invokestatic 46, 3) := by decide +kernel
theorem dL_isRow_94 : decode cL_isRow 94 = .ok (.istore 8, 2) := by decide +kernel
theorem dL_isRow_96 : decode cL_isRow 96 = .ok (.aload_n 0, 1) := by decide +kernel
theorem dL_isRow_97 : decode cL_isRow 97 = .ok (.iload_n 1, 1) := by decide +kernel
theorem dL_isRow_98 : decode cL_isRow 98 = .ok (.iload 7, 2) := by decide +kernel
theorem dL_isRow_100 : decode cL_isRow 100 = .ok (.invokevirtual 50, 3) := by decide +kernel
theorem dL_isRow_103 : decode cL_isRow 103 = .ok (.iload 8, 2) := by decide +kernel
theorem dL_isRow_105 : decode cL_isRow 105 = .ok (.if_icmp .eq 5, 3) := by decide +kernel
theorem dL_isRow_108 : decode cL_isRow 108 = .ok (.iconst 0, 1) := by decide +kernel
theorem dL_isRow_109 : decode cL_isRow 109 = .ok (.ireturn, 1) := by decide +kernel
theorem dL_isRow_110 : decode cL_isRow 110 = .ok (.iload 4, 2) := by decide +kernel
theorem dL_isRow_112 : decode cL_isRow 112 = .ok (.iload 8, 2) := by decide +kernel
theorem dL_isRow_114 : decode cL_isRow 114 = .ok (.ifCond .ne 7, 3) := by decide +kernel
theorem dL_isRow_117 : decode cL_isRow 117 = .ok (.iconst 1, 1) := by decide +kernel
theorem dL_isRow_118 : decode cL_isRow 118 = .ok (.goto 4, 3) := by decide +kernel
theorem dL_isRow_121 : decode cL_isRow 121 = .ok (.iconst 0, 1) := by decide +kernel
theorem dL_isRow_122 : decode cL_isRow 122 = .ok (.iadd, 1) := by decide +kernel
theorem dL_isRow_123 : decode cL_isRow 123 = .ok (.istore 4, 2) := by decide +kernel
theorem dL_isRow_125 : decode cL_isRow 125 = .ok (.iload 8, 2) := by decide +kernel
theorem dL_isRow_127 : decode cL_isRow 127 = .ok (.ifCond .ne 8, 3) := by decide +kernel
theorem dL_isRow_130 : decode cL_isRow 130 = .ok (.iload 7, 2) := by decide +kernel
theorem dL_isRow_132 : decode cL_isRow 132 = .ok (.goto 5, 3) := by decide +kernel
theorem dL_isRow_135 : decode cL_isRow 135 = .ok (.iload 5, 2) := by decide +kernel
theorem dL_isRow_137 : decode cL_isRow 137 = .ok (.istore 5, 2) := by decide +kernel
theorem dL_isRow_139 : decode cL_isRow 139 = .ok (.iinc 7 (-1), 3) := by decide +kernel
theorem dL_isRow_142 : decode cL_isRow 142 = .ok (.goto (-60), 3) := by decide +kernel
theorem dL_isRow_145 : decode cL_isRow 145 = .ok (.iload 6, 2) := by decide +kernel
theorem dL_isRow_147 : decode cL_isRow 147 = .ok (.iconst 1, 1) := by decide +kernel
theorem dL_isRow_148 : decode cL_isRow 148 = .ok (.if_icmp .lt 81, 3) := by decide +kernel
theorem dL_isRow_151 : decode cL_isRow 151 = .ok (.iload 6, 2) := by decide +kernel
theorem dL_isRow_153 : decode cL_isRow 153 = .ok (.bipush 64, 2) := by decide +kernel
theorem dL_isRow_155 : decode cL_isRow 155 = .ok (.if_icmp .gt 74, 3) := by decide +kernel
theorem dL_isRow_158 : decode cL_isRow 158 = .ok (.aload_n 0, 1) := by decide +kernel
theorem dL_isRow_159 : decode cL_isRow 159 = .ok (.iload_n 1, 1) := by decide +kernel
theorem dL_isRow_160 : decode cL_isRow 160 = .ok (.iconst 1, 1) := by decide +kernel
