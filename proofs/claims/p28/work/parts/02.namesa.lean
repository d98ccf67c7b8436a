set_option maxRecDepth 20000 in
theorem ggX0_init_X3_init : GoodIn wsX0_init wsX3_init := goodIn_r _ [11, 12, 2, 3, 13, 14, 15, 16, 17, 18, 19, 20, 21, 22, 25, 26, 27] (by decide +kernel) (by decide +kernel)
set_option maxRecDepth 20000 in
theorem gX0_init_X3_init : GoodIn wsX0_init (wsX3_init) := ggX0_init_X3_init
theorem dX0_init_0 : decode cX0_init 0 = .ok (.aload_n 0, 1) := by decide +kernel
theorem dX0_init_1 : decode cX0_init 1 = .ok (.invokespecial 3, 3) := by decide +kernel
theorem dX0_init_4 : decode cX0_init 4 = .ok (.aload_n 0, 1) := by decide +kernel
theorem dX0_init_5 : decode cX0_init 5 = .ok (.bipush 6, 2) := by decide +kernel
theorem dX0_init_7 : decode cX0_init 7 = .ok (.anewarray 9, 3) := by decide +kernel
theorem dX0_init_10 : decode cX0_init 10 = .ok (.putfield 11, 3) := by decide +kernel
theorem dX0_init_13 : decode cX0_init 13 = .ok (.aload_n 0, 1) := by decide +kernel
theorem dX0_init_14 : decode cX0_init 14 = .ok (.iconst 0, 1) := by decide +kernel
theorem dX0_init_15 : decode cX0_init 15 = .ok (.putfield 17, 3) := by decide +kernel
theorem dX0_init_18 : decode cX0_init 18 = .ok (.iconst 0, 1) := by decide +kernel
theorem dX0_init_19 : decode cX0_init 19 = .ok (.istore_n 1, 1) := by decide +kernel
theorem dX0_init_20 : decode cX0_init 20 = .ok (.iload_n 1, 1) := by decide +kernel
theorem dX0_init_21 : decode cX0_init 21 = .ok (.aload_n 0, 1) := by decide +kernel
theorem dX0_init_22 : decode cX0_init 22 = .ok (.getfield 11, 3) := by decide +kernel
theorem dX0_init_25 : decode cX0_init 25 = .ok (.arraylength, 1) := by decide +kernel
theorem dX0_init_26 : decode cX0_init 26 = .ok (.if_icmp .ge 22, 3) := by decide +kernel
theorem dX0_init_29 : decode cX0_init 29 = .ok (.aload_n 0, 1) := by decide +kernel
theorem dX0_init_30 : decode cX0_init 30 = .ok (.getfield 11, 3) := by decide +kernel
theorem dX0_init_33 : decode cX0_init 33 = .ok (.iload_n 1, 1) := by decide +kernel
theorem dX0_init_34 : decode cX0_init 34 = .ok (.new 9, 3) := by decide +kernel
theorem dX0_init_37 : decode cX0_init 37 = .ok (.dup, 1) := by decide +kernel
theorem dX0_init_38 : decode cX0_init 38 = .ok (.invokespecial 21, 3) := by decide +kernel
theorem dX0_init_41 : decode cX0_init 41 = .ok (.aastore, 1) := by decide +kernel
theorem dX0_init_42 : decode cX0_init 42 = .ok (.iinc 1 1, 3) := by decide +kernel
theorem dX0_init_45 : decode cX0_init 45 = .ok (.goto (-25), 3) := by decide +kernel
theorem dX0_init_48 : decode cX0_init 48 = .ok (.return_, 1) := by decide +kernel
set_option maxRecDepth 20000 in
theorem ggX0_keep_X0_dropOldest : GoodIn wsX0_keep wsX0_dropOldest := goodIn_r _ [7, 2, 1, 25, 26] (by decide +kernel) (by decide +kernel)
set_option maxRecDepth 20000 in
theorem gX0_keep_X0_dropOldest : GoodIn wsX0_keep (wsV RX0 22 RX0 yX0_dropOldest wsX0_dropOldest) := goodIn_app (goodIn_of _ (by decide +kernel)) ggX0_keep_X0_dropOldest
set_option maxRecDepth 20000 in
theorem ggX0_keep_X3_copyFrom : GoodIn wsX0_keep wsX3_copyFrom := goodIn_r _ [12, 13, 14, 15, 16, 17, 18, 19, 20, 21, 22, 23, 24, 27, 28, 29] (by decide +kernel) (by decide +kernel)
set_option maxRecDepth 20000 in
theorem gX0_keep_X3_copyFrom : GoodIn wsX0_keep (wsV RX0 25 RX3 yX3_copyFrom wsX3_copyFrom) := goodIn_app (goodIn_of _ (by decide +kernel)) ggX0_keep_X3_copyFrom
theorem dX0_keep_0 : decode cX0_keep 0 = .ok (.aload_n 0, 1) := by decide +kernel
theorem dX0_keep_1 : decode cX0_keep 1 = .ok (.getfield 17, 3) := by decide +kernel
theorem dX0_keep_4 : decode cX0_keep 4 = .ok (.aload_n 0, 1) := by decide +kernel
theorem dX0_keep_5 : decode cX0_keep 5 = .ok (.getfield 11, 3) := by decide +kernel
theorem dX0_keep_8 : decode cX0_keep 8 = .ok (.arraylength, 1) := by decide +kernel
theorem dX0_keep_9 : decode cX0_keep 9 = .ok (.if_icmp .lt 7, 3) := by decide +kernel
theorem dX0_keep_12 : decode cX0_keep 12 = .ok (.aload_n 0, 1) := by decide +kernel
theorem dX0_keep_13 : decode cX0_keep 13 = .ok (.invokevirtual 22, 3) := by decide +kernel
theorem dX0_keep_16 : decode cX0_keep 16 = .ok (.aload_n 0, 1) := by decide +kernel
theorem dX0_keep_17 : decode cX0_keep 17 = .ok (.getfield 11, 3) := by decide +kernel
theorem dX0_keep_20 : decode cX0_keep 20 = .ok (.aload_n 0, 1) := by decide +kernel
theorem dX0_keep_21 : decode cX0_keep 21 = .ok (.getfield 17, 3) := by decide +kernel
theorem dX0_keep_24 : decode cX0_keep 24 = .ok (.aaload, 1) := by decide +kernel
theorem dX0_keep_25 : decode cX0_keep 25 = .ok (.aload_n 1, 1) := by decide +kernel
theorem dX0_keep_26 : decode cX0_keep 26 = .ok (.invokevirtual 25, 3) := by decide +kernel
theorem dX0_keep_29 : decode cX0_keep 29 = .ok (.aload_n 0, 1) := by decide +kernel
theorem dX0_keep_30 : decode cX0_keep 30 = .ok (.dup, 1) := by decide +kernel
theorem dX0_keep_31 : decode cX0_keep 31 = .ok (.getfield 17, 3) := by decide +kernel
theorem dX0_keep_34 : decode cX0_keep 34 = .ok (.iconst 1, 1) := by decide +kernel
theorem dX0_keep_35 : decode cX0_keep 35 = .ok (.iadd, 1) := by decide +kernel
theorem dX0_keep_36 : decode cX0_keep 36 = .ok (.putfield 17, 3) := by decide +kernel
theorem dX0_keep_39 : decode cX0_keep 39 = .ok (.return_, 1) := by decide +kernel
theorem dX0_dropOldest_0 : decode cX0_dropOldest 0 = .ok (.aload_n 0, 1) := by decide +kernel
theorem dX0_dropOldest_1 : decode cX0_dropOldest 1 = .ok (.getfield 11, 3) := by decide +kernel
theorem dX0_dropOldest_4 : decode cX0_dropOldest 4 = .ok (.iconst 0, 1) := by decide +kernel
theorem dX0_dropOldest_5 : decode cX0_dropOldest 5 = .ok (.aaload, 1) := by decide +kernel
theorem dX0_dropOldest_6 : decode cX0_dropOldest 6 = .ok (.astore_n 1, 1) := by decide +kernel
theorem dX0_dropOldest_7 : decode cX0_dropOldest 7 = .ok (.iconst 1, 1) := by decide +kernel
theorem dX0_dropOldest_8 : decode cX0_dropOldest 8 = .ok (.istore_n 2, 1) := by decide +kernel
theorem dX0_dropOldest_9 : decode cX0_dropOldest 9 = .ok (.iload_n 2, 1) := by decide +kernel
theorem dX0_dropOldest_10 : decode cX0_dropOldest 10 = .ok (.aload_n 0, 1) := by decide +kernel
theorem dX0_dropOldest_11 : decode cX0_dropOldest 11 = .ok (.getfield 11, 3) := by decide +kernel
theorem dX0_dropOldest_14 : decode cX0_dropOldest 14 = .ok (.arraylength, 1) := by decide +kernel
theorem dX0_dropOldest_15 : decode cX0_dropOldest 15 = .ok (.if_icmp .ge 23, 3) := by decide +kernel
theorem dX0_dropOldest_18 : decode cX0_dropOldest 18 = .ok (.aload_n 0, 1) := by decide +kernel
theorem dX0_dropOldest_19 : decode cX0_dropOldest 19 = .ok (.getfield 11, 3) := by decide +kernel
theorem dX0_dropOldest_22 : decode cX0_dropOldest 22 = .ok (.iload_n 2, 1) := by decide +kernel
theorem dX0_dropOldest_23 : decode cX0_dropOldest 23 = .ok (.iconst 1, 1) := by decide +kernel
theorem dX0_dropOldest_24 : decode cX0_dropOldest 24 = .ok (.isub, 1) := by decide +kernel
theorem dX0_dropOldest_25 : decode cX0_dropOldest 25 = .ok (.aload_n 0, 1) := by decide +kernel
theorem dX0_dropOldest_26 : decode cX0_dropOldest 26 = .ok (.getfield 11, 3) := by decide +kernel
theorem dX0_dropOldest_29 : decode cX0_dropOldest 29 = .ok (.iload_n 2, 1) := by decide +kernel
theorem dX0_dropOldest_30 : decode cX0_dropOldest 30 = .ok (.aaload, 1) := by decide +kernel
theorem dX0_dropOldest_31 : decode cX0_dropOldest 31 = .ok (.aastore, 1) := by decide +kernel
theorem dX0_dropOldest_32 : decode cX0_dropOldest 32 = .ok (.iinc 2 1, 3) := by decide +kernel
theorem dX0_dropOldest_35 : decode cX0_dropOldest 35 = .ok (.goto (-26), 3) := by decide +kernel
theorem dX0_dropOldest_38 : decode cX0_dropOldest 38 = .ok (.aload_n 0, 1) := by decide +kernel
theorem dX0_dropOldest_39 : decode cX0_dropOldest 39 = .ok (.aload_n 0, 1) := by decide +kernel
theorem dX0_dropOldest_40 : decode cX0_dropOldest 40 = .ok (.getfield 11, 3) := by decide +kernel
theorem dX0_dropOldest_43 : decode cX0_dropOldest 43 = .ok (.arraylength, 1) := by decide +kernel
theorem dX0_dropOldest_44 : decode cX0_dropOldest 44 = .ok (.iconst 1, 1) := by decide +kernel
theorem dX0_dropOldest_45 : decode cX0_dropOldest 45 = .ok (.isub, 1) := by decide +kernel
theorem dX0_dropOldest_46 : decode cX0_dropOldest 46 = .ok (.putfield 17, 3) := by decide +kernel
theorem dX0_dropOldest_49 : decode cX0_dropOldest 49 = .ok (.aload_n 0, 1) := by decide +kernel
theorem dX0_dropOldest_50 : decode cX0_dropOldest 50 = .ok (.getfield 11, 3) := by decide +kernel
theorem dX0_dropOldest_53 : decode cX0_dropOldest 53 = .ok (.aload_n 0, 1) := by decide +kernel
theorem dX0_dropOldest_54 : decode cX0_dropOldest 54 = .ok (.getfield 17, 3) := by decide +kernel
theorem dX0_dropOldest_57 : decode cX0_dropOldest 57 = .ok (.aload_n 1, 1) := by decide +kernel
theorem dX0_dropOldest_58 : decode cX0_dropOldest 58 = .ok (.aastore, 1) := by decide +kernel
theorem dX0_dropOldest_59 : decode cX0_dropOldest 59 = .ok (.return_, 1) := by decide +kernel
theorem dX1_init_0 : decode cX1_init 0 = .ok (.aload_n 0, 1) := by decide +kernel
theorem dX1_init_1 : decode cX1_init 1 = .ok (.invokespecial 3, 3) := by decide +kernel
theorem dX1_init_4 : decode cX1_init 4 = .ok (.aload_n 0, 1) := by decide +kernel
theorem dX1_init_5 : decode cX1_init 5 = .ok (.bipush 80, 2) := by decide +kernel
theorem dX1_init_7 : decode cX1_init 7 = .ok (.newarray .int, 2) := by decide +kernel
theorem dX1_init_9 : decode cX1_init 9 = .ok (.putfield 9, 3) := by decide +kernel
theorem dX1_init_12 : decode cX1_init 12 = .ok (.aload_n 0, 1) := by decide +kernel
theorem dX1_init_13 : decode cX1_init 13 = .ok (.iconst 0, 1) := by decide +kernel
theorem dX1_init_14 : decode cX1_init 14 = .ok (.putfield 15, 3) := by decide +kernel
theorem dX1_init_17 : decode cX1_init 17 = .ok (.return_, 1) := by decide +kernel
theorem dX1_length_0 : decode cX1_length 0 = .ok (.aload_n 0, 1) := by decide +kernel
theorem dX1_length_1 : decode cX1_length 1 = .ok (.getfield 15, 3) := by decide +kernel
theorem dX1_length_4 : decode cX1_length 4 = .ok (.ireturn, 1) := by decide +kernel
theorem dX1_empty_0 : decode cX1_empty 0 = .ok (.aload_n 0, 1) := by decide +kernel
theorem dX1_empty_1 : decode cX1_empty 1 = .ok (.iconst 0, 1) := by decide +kernel
theorem dX1_empty_2 : decode cX1_empty 2 = .ok (.putfield 15, 3) := by decide +kernel
theorem dX1_empty_5 : decode cX1_empty 5 = .ok (.return_, 1) := by decide +kernel
theorem dX1_append_0 : decode cX1_append 0 = .ok (.aload_n 0, 1) := by decide +kernel
theorem dX1_append_1 : decode cX1_append 1 = .ok (.getfield 15, 3) := by decide +kernel
theorem dX1_append_4 : decode cX1_append 4 = .ok (.aload_n 0, 1) := by decide +kernel
theorem dX1_append_5 : decode cX1_append 5 = .ok (.getfield 9, 3) := by decide +kernel
theorem dX1_append_8 : decode cX1_append 8 = .ok (.arraylength, 1) := by decide +kernel
theorem dX1_append_9 : decode cX1_append 9 = .ok (.if_icmp .ge 23, 3) := by decide +kernel
theorem dX1_append_12 : decode cX1_append 12 = .ok (.aload_n 0, 1) := by decide +kernel
theorem dX1_append_13 : decode cX1_append 13 = .ok (.getfield 9, 3) := by decide +kernel
theorem dX1_append_16 : decode cX1_append 16 = .ok (.aload_n 0, 1) := by decide +kernel
theorem dX1_append_17 : decode cX1_append 17 = .ok (.getfield 15, 3) := by decide +kernel
theorem dX1_append_20 : decode cX1_append 20 = .ok (.iload_n 1, 1) := by decide +kernel
theorem dX1_append_21 : decode cX1_append 21 = .ok (.iastore, 1) := by decide +kernel
theorem dX1_append_22 : decode cX1_append 22 = .ok (.aload_n 0, 1) := by decide +kernel
theorem dX1_append_23 : decode cX1_append 23 = .ok (.dup, 1) := by decide +kernel
theorem dX1_append_24 : decode cX1_append 24 = .ok (.getfield 15, 3) := by decide +kernel
theorem dX1_append_27 : decode cX1_append 27 = .ok (.iconst 1, 1) := by decide +kernel
theorem dX1_append_28 : decode cX1_append 28 = .ok (.iadd, 1) := by decide +kernel
theorem dX1_append_29 : decode cX1_append 29 = .ok (.putfield 15, 3) := by decide +kernel
theorem dX1_append_32 : decode cX1_append 32 = .ok (.return_, 1) := by decide +kernel
set_option maxRecDepth 20000 in
theorem ggX1_scan_X1_withDigit : GoodIn wsX1_scan wsX1_withDigit := goodIn_r _ [6, 7, 8, 9, 10] (by decide +kernel) (by decide +kernel)
set_option maxRecDepth 20000 in
theorem gX1_scan_X1_withDigit : GoodIn wsX1_scan (va_wsS RX1 19 yX1_withDigit wsX1_withDigit) := goodIn_app (goodIn_of _ (by decide +kernel)) ggX1_scan_X1_withDigit
set_option maxRecDepth 20000 in
theorem ggX1_scan_X2_write : GoodIn wsX1_scan wsX2_write := goodIn_r _ [15, 16, 17, 18, 19, 20, 29, 30] (by decide +kernel) (by decide +kernel)
set_option maxRecDepth 20000 in
theorem gX1_scan_X2_write : GoodIn wsX1_scan (wsV RX1 23 RX2 yX2_write wsX2_write) := goodIn_app (goodIn_of _ (by decide +kernel)) ggX1_scan_X2_write
set_option maxRecDepth 20000 in
theorem ggX1_scan_X2_resize : GoodIn wsX1_scan wsX2_resize := goodIn_r _ [24, 25, 26, 12, 13, 14, 15, 16, 17, 18, 19, 20, 29, 30] (by decide +kernel) (by decide +kernel)
set_option maxRecDepth 20000 in
theorem gX1_scan_X2_resize : GoodIn wsX1_scan (wsV RX1 29 RX2 yX2_resize wsX2_resize) := goodIn_app (goodIn_of _ (by decide +kernel)) ggX1_scan_X2_resize
theorem dX1_scan_0 : decode cX1_scan 0 = .ok (.iconst 0, 1) := by decide +kernel
theorem dX1_scan_1 : decode cX1_scan 1 = .ok (.istore_n 2, 1) := by decide +kernel
theorem dX1_scan_2 : decode cX1_scan 2 = .ok (.bipush (-6), 2) := by decide +kernel
theorem dX1_scan_4 : decode cX1_scan 4 = .ok (.istore_n 3, 1) := by decide +kernel
theorem dX1_scan_5 : decode cX1_scan 5 = .ok (.iconst 0, 1) := by decide +kernel
theorem dX1_scan_6 : decode cX1_scan 6 = .ok (.istore 4, 2) := by decide +kernel
theorem dX1_scan_8 : decode cX1_scan 8 = .ok (.iload 4, 2) := by decide +kernel
theorem dX1_scan_10 : decode cX1_scan 10 = .ok (.aload_n 0, 1) := by decide +kernel
theorem dX1_scan_11 : decode cX1_scan 11 = .ok (.getfield 9, 3) := by decide +kernel
theorem dX1_scan_14 : decode cX1_scan 14 = .ok (.arraylength, 1) := by decide +kernel
theorem dX1_scan_15 : decode cX1_scan 15 = .ok (.if_icmp .ge 72, 3) := by decide +kernel
theorem dX1_scan_18 : decode cX1_scan 18 = .ok (.iload 4, 2) := by decide +kernel
theorem dX1_scan_20 : decode cX1_scan 20 = .ok (.aload_n 0, 1) := by decide +kernel
theorem dX1_scan_21 : decode cX1_scan 21 = .ok (.getfield 15, 3) := by decide +kernel
theorem dX1_scan_24 : decode cX1_scan 24 = .ok (.if_icmp .ge 63, 3) := by decide +kernel
theorem dX1_scan_27 : decode cX1_scan 27 = .ok (.aload_n 0, 1) := by decide +kernel
theorem dX1_scan_28 : decode cX1_scan 28 = .ok (.getfield 9, 3) := by decide +kernel
theorem dX1_scan_31 : decode cX1_scan 31 = .ok (.iload 4, 2) := by decide +kernel
theorem dX1_scan_33 : decode cX1_scan 33 = .ok (.iaload, 1) := by decide +kernel
theorem dX1_scan_34 : decode cX1_scan 34 = .ok (.bipush 44, 2) := by decide +kernel
theorem dX1_scan_36 : decode cX1_scan 36 = .ok (.if_icmp .eq 24, 3) := by decide +kernel
theorem dX1_scan_39 : decode cX1_scan 39 = .ok (.iload_n 3, 1) := by decide +kernel
theorem dX1_scan_40 : decode cX1_scan 40 = .ok (.aload_n 0, 1) := by decide +kernel
theorem dX1_scan_41 : decode cX1_scan 41 = .ok (.getfield 9, 3) := by decide +kernel
theorem dX1_scan_44 : decode cX1_scan 44 = .ok (.iload 4, 2) := by decide +kernel
theorem dX1_scan_46 : decode cX1_scan 46 = .ok (.iaload, 1) := by decide +kernel
theorem dX1_scan_47 : decode cX1_scan 47 = .ok (.invokestatic 19, 3) := by decide +kernel
theorem dX1_scan_50 : decode cX1_scan 50 = .ok (.istore_n 3, 1) := by decide +kernel
theorem dX1_scan_51 : decode cX1_scan 51 = .ok (.iload_n 3, 1) := by decide +kernel
theorem dX1_scan_52 : decode cX1_scan 52 = .ok (.bipush (-3), 2) := by decide +kernel
theorem dX1_scan_54 : decode cX1_scan 54 = .ok (.if_icmp .ne 27, 3) := by decide +kernel
theorem dX1_scan_57 : decode cX1_scan 57 = .ok (.iload 4, 2) := by decide +kernel
theorem dX1_scan_59 : decode cX1_scan 59 = .ok (.ireturn, 1) := by decide +kernel
theorem dX1_scan_60 : decode cX1_scan 60 = .ok (.iload_n 3, 1) := by decide +kernel
theorem dX1_scan_61 : decode cX1_scan 61 = .ok (.bipush (-6), 2) := by decide +kernel
theorem dX1_scan_63 : decode cX1_scan 63 = .ok (.if_icmp .ne 6, 3) := by decide +kernel
theorem dX1_scan_66 : decode cX1_scan 66 = .ok (.iload 4, 2) := by decide +kernel
theorem dX1_scan_68 : decode cX1_scan 68 = .ok (.ireturn, 1) := by decide +kernel
theorem dX1_scan_69 : decode cX1_scan 69 = .ok (.aload_n 1, 1) := by decide +kernel
theorem dX1_scan_70 : decode cX1_scan 70 = .ok (.iload_n 2, 1) := by decide +kernel
theorem dX1_scan_71 : decode cX1_scan 71 = .ok (.iload_n 3, 1) := by decide +kernel
theorem dX1_scan_72 : decode cX1_scan 72 = .ok (.invokevirtual 23, 3) := by decide +kernel
theorem dX1_scan_75 : decode cX1_scan 75 = .ok (.iinc 2 1, 3) := by decide +kernel
theorem dX1_scan_78 : decode cX1_scan 78 = .ok (.bipush (-6), 2) := by decide +kernel
theorem dX1_scan_80 : decode cX1_scan 80 = .ok (.istore_n 3, 1) := by decide +kernel
theorem dX1_scan_81 : decode cX1_scan 81 = .ok (.iinc 4 1, 3) := by decide +kernel
theorem dX1_scan_84 : decode cX1_scan 84 = .ok (.goto (-76), 3) := by decide +kernel
theorem dX1_scan_87 : decode cX1_scan 87 = .ok (.iload_n 3, 1) := by decide +kernel
theorem dX1_scan_88 : decode cX1_scan 88 = .ok (.bipush (-6), 2) := by decide +kernel
theorem dX1_scan_90 : decode cX1_scan 90 = .ok (.if_icmp .ne 8, 3) := by decide +kernel
theorem dX1_scan_93 : decode cX1_scan 93 = .ok (.aload_n 0, 1) := by decide +kernel
theorem dX1_scan_94 : decode cX1_scan 94 = .ok (.getfield 15, 3) := by decide +kernel
theorem dX1_scan_97 : decode cX1_scan 97 = .ok (.ireturn, 1) := by decide +kernel
theorem dX1_scan_98 : decode cX1_scan 98 = .ok (.aload_n 1, 1) := by decide +kernel
theorem dX1_scan_99 : decode cX1_scan 99 = .ok (.iload_n 2, 1) := by decide +kernel
theorem dX1_scan_100 : decode cX1_scan 100 = .ok (.iconst 1, 1) := by decide +kernel
theorem dX1_scan_101 : decode cX1_scan 101 = .ok (.iadd, 1) := by decide +kernel
theorem dX1_scan_102 : decode cX1_scan 102 = .ok (.invokevirtual 29, 3) := by decide +kernel
theorem dX1_scan_105 : decode cX1_scan 105 = .ok (.aload_n 1, 1) := by decide +kernel
theorem dX1_scan_106 : decode cX1_scan 106 = .ok (.iload_n 2, 1) := by decide +kernel
theorem dX1_scan_107 : decode cX1_scan 107 = .ok (.iload_n 3, 1) := by decide +kernel
theorem dX1_scan_108 : decode cX1_scan 108 = .ok (.invokevirtual 23, 3) := by decide +kernel
theorem dX1_scan_111 : decode cX1_scan 111 = .ok (.bipush (-6), 2) := by decide +kernel
theorem dX1_scan_113 : decode cX1_scan 113 = .ok (.ireturn, 1) := by decide +kernel
theorem dX1_withDigit_0 : decode cX1_withDigit 0 = .ok (.iload_n 1, 1) := by decide +kernel
theorem dX1_withDigit_1 : decode cX1_withDigit 1 = .ok (.bipush 48, 2) := by decide +kernel
theorem dX1_withDigit_3 : decode cX1_withDigit 3 = .ok (.if_icmp .lt 13, 3) := by decide +kernel
theorem dX1_withDigit_6 : decode cX1_withDigit 6 = .ok (.iload_n 1, 1) := by decide +kernel
theorem dX1_withDigit_7 : decode cX1_withDigit 7 = .ok (.bipush 57, 2) := by decide +kernel
theorem dX1_withDigit_9 : decode cX1_withDigit 9 = .ok (.if_icmp .gt 7, 3) := by decide +kernel
theorem dX1_withDigit_12 : decode cX1_withDigit 12 = .ok (.iload_n 0, 1) := by decide +kernel
theorem dX1_withDigit_13 : decode cX1_withDigit 13 = .ok (.ifCond .ne 6, 3) := by decide +kernel
theorem dX1_withDigit_16 : decode cX1_withDigit 16 = .ok (.bipush (-3), 2) := by decide +kernel
theorem dX1_withDigit_18 : decode cX1_withDigit 18 = .ok (.ireturn, 1) := by decide +kernel
theorem dX1_withDigit_19 : decode cX1_withDigit 19 = .ok (.iload_n 0, 1) := by decide +kernel
theorem dX1_withDigit_20 : decode cX1_withDigit 20 = .ok (.iconst 0, 1) := by decide +kernel
theorem dX1_withDigit_21 : decode cX1_withDigit 21 = .ok (.invokestatic 33, 3) := by decide +kernel
theorem dX1_withDigit_24 : decode cX1_withDigit 24 = .ok (.bipush 10, 2) := by decide +kernel
theorem dX1_withDigit_26 : decode cX1_withDigit 26 = .ok (.imul, 1) := by decide +kernel
theorem dX1_withDigit_27 : decode cX1_withDigit 27 = .ok (.iload_n 1, 1) := by decide +kernel
theorem dX1_withDigit_28 : decode cX1_withDigit 28 = .ok (.iadd, 1) := by decide +kernel
theorem dX1_withDigit_29 : decode cX1_withDigit 29 = .ok (.bipush 48, 2) := by decide +kernel
theorem dX1_withDigit_31 : decode cX1_withDigit 31 = .ok (.isub, 1) := by decide +kernel
theorem dX1_withDigit_32 : decode cX1_withDigit 32 = .ok (.istore_n 2, 1) := by decide +kernel
theorem dX1_withDigit_33 : decode cX1_withDigit 33 = .ok (.iload_n 2, 1) := by decide +kernel
theorem dX1_withDigit_34 : decode cX1_withDigit 34 = .ok (.sipush 257, 3) := by decide +kernel
theorem dX1_withDigit_37 : decode cX1_withDigit 37 = .ok (.if_icmp .ge 7, 3) := by decide +kernel
theorem dX1_withDigit_40 : decode cX1_withDigit 40 = .ok (.iload_n 2, 1) := by decide +kernel
theorem dX1_withDigit_41 : decode cX1_withDigit 41 = .ok (.goto 5, 3) := by decide +kernel
theorem dX1_withDigit_44 : decode cX1_withDigit 44 = .ok (.bipush (-3), 2) := by decide +kernel
theorem dX1_withDigit_46 : decode cX1_withDigit 46 = .ok (.ireturn, 1) := by decide +kernel
theorem dX2_init_0 : decode cX2_init 0 = .ok (.aload_n 0, 1) := by decide +kernel
theorem dX2_init_1 : decode cX2_init 1 = .ok (.invokespecial 3, 3) := by decide +kernel
theorem dX2_init_4 : decode cX2_init 4 = .ok (.aload_n 0, 1) := by decide +kernel
theorem dX2_init_5 : decode cX2_init 5 = .ok (.bipush 64, 2) := by decide +kernel
theorem dX2_init_7 : decode cX2_init 7 = .ok (.newarray .int, 2) := by decide +kernel
theorem dX2_init_9 : decode cX2_init 9 = .ok (.putfield 9, 3) := by decide +kernel
theorem dX2_init_12 : decode cX2_init 12 = .ok (.aload_n 0, 1) := by decide +kernel
theorem dX2_init_13 : decode cX2_init 13 = .ok (.iconst 1, 1) := by decide +kernel
theorem dX2_init_14 : decode cX2_init 14 = .ok (.putfield 15, 3) := by decide +kernel
theorem dX2_init_17 : decode cX2_init 17 = .ok (.return_, 1) := by decide +kernel
theorem dX2_length_0 : decode cX2_length 0 = .ok (.aload_n 0, 1) := by decide +kernel
theorem dX2_length_1 : decode cX2_length 1 = .ok (.getfield 15, 3) := by decide +kernel
theorem dX2_length_4 : decode cX2_length 4 = .ok (.ireturn, 1) := by decide +kernel
theorem dX2_at_0 : decode cX2_at 0 = .ok (.iload_n 1, 1) := by decide +kernel
theorem dX2_at_1 : decode cX2_at 1 = .ok (.ifCond .lt 21, 3) := by decide +kernel
theorem dX2_at_4 : decode cX2_at 4 = .ok (.iload_n 1, 1) := by decide +kernel
theorem dX2_at_5 : decode cX2_at 5 = .ok (.aload_n 0, 1) := by decide +kernel
theorem dX2_at_6 : decode cX2_at 6 = .ok (.getfield 9, 3) := by decide +kernel
theorem dX2_at_9 : decode cX2_at 9 = .ok (.arraylength, 1) := by decide +kernel
theorem dX2_at_10 : decode cX2_at 10 = .ok (.if_icmp .ge 12, 3) := by decide +kernel
theorem dX2_at_13 : decode cX2_at 13 = .ok (.aload_n 0, 1) := by decide +kernel
theorem dX2_at_14 : decode cX2_at 14 = .ok (.getfield 9, 3) := by decide +kernel
theorem dX2_at_17 : decode cX2_at 17 = .ok (.iload_n 1, 1) := by decide +kernel
theorem dX2_at_18 : decode cX2_at 18 = .ok (.iaload, 1) := by decide +kernel
theorem dX2_at_19 : decode cX2_at 19 = .ok (.goto 4, 3) := by decide +kernel
theorem dX2_at_22 : decode cX2_at 22 = .ok (.iconst 0, 1) := by decide +kernel
theorem dX2_at_23 : decode cX2_at 23 = .ok (.ireturn, 1) := by decide +kernel
set_option maxRecDepth 20000 in
theorem ggX2_write_J9_floorMod_7cf53 : GoodIn wsX2_write wsJ9_floorMod_7cf53 := goodIn_r _ [5] (by decide +kernel) (by decide +kernel)
set_option maxRecDepth 20000 in
theorem gX2_write_J9_floorMod_7cf53 : GoodIn wsX2_write (va_wsS RX2 19 yJ9_floorMod_7cf53 wsJ9_floorMod_7cf53) := goodIn_app (goodIn_of _ (by decide +kernel)) ggX2_write_J9_floorMod_7cf53
theorem dX2_write_0 : decode cX2_write 0 = .ok (.iload_n 1, 1) := by decide +kernel
theorem dX2_write_1 : decode cX2_write 1 = .ok (.ifCond .lt 25, 3) := by decide +kernel
theorem dX2_write_4 : decode cX2_write 4 = .ok (.iload_n 1, 1) := by decide +kernel
theorem dX2_write_5 : decode cX2_write 5 = .ok (.aload_n 0, 1) := by decide +kernel
theorem dX2_write_6 : decode cX2_write 6 = .ok (.getfield 9, 3) := by decide +kernel
theorem dX2_write_9 : decode cX2_write 9 = .ok (.arraylength, 1) := by decide +kernel
theorem dX2_write_10 : decode cX2_write 10 = .ok (.if_icmp .ge 16, 3) := by decide +kernel
theorem dX2_write_13 : decode cX2_write 13 = .ok (.aload_n 0, 1) := by decide +kernel
theorem dX2_write_14 : decode cX2_write 14 = .ok (.getfield 9, 3) := by decide +kernel
theorem dX2_write_17 : decode cX2_write 17 = .ok (.iload_n 1, 1) := by decide +kernel
theorem dX2_write_18 : decode cX2_write 18 = .ok (.iload_n 2, 1) := by decide +kernel
theorem dX2_write_19 : decode cX2_write 19 = .ok (.sipush 257, 3) := by decide +kernel
theorem dX2_write_22 : decode cX2_write 22 = .ok (.invokestatic 19, 3) := by decide +kernel
theorem dX2_write_25 : decode cX2_write 25 = .ok (.iastore, 1) := by decide +kernel
theorem dX2_write_26 : decode cX2_write 26 = .ok (.return_, 1) := by decide +kernel
set_option maxRecDepth 20000 in
theorem ggX2_resize_X2_write : GoodIn wsX2_resize wsX2_write := goodIn_r _ [6, 7, 8, 9, 10, 11, 12, 13] (by decide +kernel) (by decide +kernel)
set_option maxRecDepth 20000 in
theorem gX2_resize_X2_write : GoodIn wsX2_resize (wsV RX2 25 RX2 yX2_write wsX2_write) := goodIn_app (goodIn_of _ (by decide +kernel)) ggX2_resize_X2_write
theorem dX2_resize_0 : decode cX2_resize 0 = .ok (.iload_n 1, 1) := by decide +kernel
theorem dX2_resize_1 : decode cX2_resize 1 = .ok (.istore_n 2, 1) := by decide +kernel
theorem dX2_resize_2 : decode cX2_resize 2 = .ok (.iload_n 2, 1) := by decide +kernel
theorem dX2_resize_3 : decode cX2_resize 3 = .ok (.bipush 64, 2) := by decide +kernel
theorem dX2_resize_5 : decode cX2_resize 5 = .ok (.if_icmp .ge 15, 3) := by decide +kernel
theorem dX2_resize_8 : decode cX2_resize 8 = .ok (.aload_n 0, 1) := by decide +kernel
theorem dX2_resize_9 : decode cX2_resize 9 = .ok (.iload_n 2, 1) := by decide +kernel
theorem dX2_resize_10 : decode cX2_resize 10 = .ok (.iconst 0, 1) := by decide +kernel
theorem dX2_resize_11 : decode cX2_resize 11 = .ok (.invokevirtual 25, 3) := by decide +kernel
theorem dX2_resize_14 : decode cX2_resize 14 = .ok (.iinc 2 1, 3) := by decide +kernel
theorem dX2_resize_17 : decode cX2_resize 17 = .ok (.goto (-15), 3) := by decide +kernel
theorem dX2_resize_20 : decode cX2_resize 20 = .ok (.aload_n 0, 1) := by decide +kernel
theorem dX2_resize_21 : decode cX2_resize 21 = .ok (.iload_n 1, 1) := by decide +kernel
theorem dX2_resize_22 : decode cX2_resize 22 = .ok (.putfield 15, 3) := by decide +kernel
theorem dX2_resize_25 : decode cX2_resize 25 = .ok (.return_, 1) := by decide +kernel
set_option maxRecDepth 20000 in
theorem ggX2_clear_J7_fill_53178 : GoodIn wsX2_clear wsJ7_fill_53178 := goodIn_r _ [6] (by decide +kernel) (by decide +kernel)
set_option maxRecDepth 20000 in
theorem gX2_clear_J7_fill_53178 : GoodIn wsX2_clear (va_wsS RX2 29 yJ7_fill_53178 wsJ7_fill_53178) := goodIn_app (goodIn_of _ (by decide +kernel)) ggX2_clear_J7_fill_53178
theorem dX2_clear_0 : decode cX2_clear 0 = .ok (.aload_n 0, 1) := by decide +kernel
theorem dX2_clear_1 : decode cX2_clear 1 = .ok (.getfield 9, 3) := by decide +kernel
theorem dX2_clear_4 : decode cX2_clear 4 = .ok (.iconst 0, 1) := by decide +kernel
theorem dX2_clear_5 : decode cX2_clear 5 = .ok (.invokestatic 29, 3) := by decide +kernel
theorem dX2_clear_8 : decode cX2_clear 8 = .ok (.aload_n 0, 1) := by decide +kernel
theorem dX2_clear_9 : decode cX2_clear 9 = .ok (.iload_n 1, 1) := by decide +kernel
theorem dX2_clear_10 : decode cX2_clear 10 = .ok (.putfield 15, 3) := by decide +kernel
theorem dX2_clear_13 : decode cX2_clear 13 = .ok (.return_, 1) := by decide +kernel
theorem dX2_copyFrom_0 : decode cX2_copyFrom 0 = .ok (.aload_n 1, 1) := by decide +kernel
theorem dX2_copyFrom_1 : decode cX2_copyFrom 1 = .ok (.getfield 9, 3) := by decide +kernel
theorem dX2_copyFrom_4 : decode cX2_copyFrom 4 = .ok (.iconst 0, 1) := by decide +kernel
theorem dX2_copyFrom_5 : decode cX2_copyFrom 5 = .ok (.aload_n 0, 1) := by decide +kernel
theorem dX2_copyFrom_6 : decode cX2_copyFrom 6 = .ok (.getfield 9, 3) := by decide +kernel
theorem dX2_copyFrom_9 : decode cX2_copyFrom 9 = .ok (.iconst 0, 1) := by decide +kernel
theorem dX2_copyFrom_10 : decode cX2_copyFrom 10 = .ok (.bipush 64, 2) := by decide +kernel
theorem dX2_copyFrom_12 : decode cX2_copyFrom 12 = .ok (.invokestatic 35, 3) := by decide +kernel
theorem dX2_copyFrom_15 : decode cX2_copyFrom 15 = .ok (.aload_n 0, 1) := by decide +kernel
theorem dX2_copyFrom_16 : decode cX2_copyFrom 16 = .ok (.aload_n 1, 1) := by decide +kernel
theorem dX2_copyFrom_17 : decode cX2_copyFrom 17 = .ok (.getfield 15, 3) := by decide +kernel
theorem dX2_copyFrom_20 : decode cX2_copyFrom 20 = .ok (.putfield 15, 3) := by decide +kernel
theorem dX2_copyFrom_23 : decode cX2_copyFrom 23 = .ok (.return_, 1) := by decide +kernel
set_option maxRecDepth 20000 in
theorem ggX2_scale_X2_at : GoodIn wsX2_scale wsX2_at := goodIn_r _ [6, 7, 16, 17] (by decide +kernel) (by decide +kernel)
set_option maxRecDepth 20000 in
theorem gX2_scale_X2_at : GoodIn wsX2_scale (wsV RX2 41 RX2 yX2_at wsX2_at) := goodIn_app (goodIn_of _ (by decide +kernel)) ggX2_scale_X2_at
set_option maxRecDepth 20000 in
theorem ggX2_scale_X2_write : GoodIn wsX2_scale wsX2_write := goodIn_r _ [11, 7, 12, 13, 14, 15, 16, 17] (by decide +kernel) (by decide +kernel)
set_option maxRecDepth 20000 in
theorem gX2_scale_X2_write : GoodIn wsX2_scale (wsV RX2 25 RX2 yX2_write wsX2_write) := goodIn_app (goodIn_of _ (by decide +kernel)) ggX2_scale_X2_write
theorem dX2_scale_0 : decode cX2_scale 0 = .ok (.iconst 0, 1) := by decide +kernel
theorem dX2_scale_1 : decode cX2_scale 1 = .ok (.istore_n 2, 1) := by decide +kernel
theorem dX2_scale_2 : decode cX2_scale 2 = .ok (.iload_n 2, 1) := by decide +kernel
theorem dX2_scale_3 : decode cX2_scale 3 = .ok (.aload_n 0, 1) := by decide +kernel
theorem dX2_scale_4 : decode cX2_scale 4 = .ok (.getfield 15, 3) := by decide +kernel
theorem dX2_scale_7 : decode cX2_scale 7 = .ok (.if_icmp .ge 21, 3) := by decide +kernel
theorem dX2_scale_10 : decode cX2_scale 10 = .ok (.aload_n 0, 1) := by decide +kernel
theorem dX2_scale_11 : decode cX2_scale 11 = .ok (.iload_n 2, 1) := by decide +kernel
theorem dX2_scale_12 : decode cX2_scale 12 = .ok (.aload_n 0, 1) := by decide +kernel
theorem dX2_scale_13 : decode cX2_scale 13 = .ok (.iload_n 2, 1) := by decide +kernel
theorem dX2_scale_14 : decode cX2_scale 14 = .ok (.invokevirtual 41, 3) := by decide +kernel
theorem dX2_scale_17 : decode cX2_scale 17 = .ok (.iload_n 1, 1) := by decide +kernel
theorem dX2_scale_18 : decode cX2_scale 18 = .ok (.imul, 1) := by decide +kernel
theorem dX2_scale_19 : decode cX2_scale 19 = .ok (.invokevirtual 25, 3) := by decide +kernel
theorem dX2_scale_22 : decode cX2_scale 22 = .ok (.iinc 2 1, 3) := by decide +kernel
theorem dX2_scale_25 : decode cX2_scale 25 = .ok (.goto (-23), 3) := by decide +kernel
theorem dX2_scale_28 : decode cX2_scale 28 = .ok (.return_, 1) := by decide +kernel
set_option maxRecDepth 20000 in
theorem ggX2_degree_X2_at : GoodIn wsX2_degree wsX2_at := goodIn_r _ [6, 7, 8, 9] (by decide +kernel) (by decide +kernel)
set_option maxRecDepth 20000 in
theorem gX2_degree_X2_at : GoodIn wsX2_degree (wsV RX2 41 RX2 yX2_at wsX2_at) := goodIn_app (goodIn_of _ (by decide +kernel)) ggX2_degree_X2_at
theorem dX2_degree_0 : decode cX2_degree 0 = .ok (.aload_n 0, 1) := by decide +kernel
theorem dX2_degree_1 : decode cX2_degree 1 = .ok (.getfield 15, 3) := by decide +kernel
theorem dX2_degree_4 : decode cX2_degree 4 = .ok (.iconst 1, 1) := by decide +kernel
theorem dX2_degree_5 : decode cX2_degree 5 = .ok (.isub, 1) := by decide +kernel
theorem dX2_degree_6 : decode cX2_degree 6 = .ok (.istore_n 1, 1) := by decide +kernel
theorem dX2_degree_7 : decode cX2_degree 7 = .ok (.iload_n 1, 1) := by decide +kernel
theorem dX2_degree_8 : decode cX2_degree 8 = .ok (.ifCond .lt 19, 3) := by decide +kernel
theorem dX2_degree_11 : decode cX2_degree 11 = .ok (.aload_n 0, 1) := by decide +kernel
theorem dX2_degree_12 : decode cX2_degree 12 = .ok (.iload_n 1, 1) := by decide +kernel
theorem dX2_degree_13 : decode cX2_degree 13 = .ok (.invokevirtual 41, 3) := by decide +kernel
theorem dX2_degree_16 : decode cX2_degree 16 = .ok (.ifCond .eq 5, 3) := by decide +kernel
theorem dX2_degree_19 : decode cX2_degree 19 = .ok (.iload_n 1, 1) := by decide +kernel
theorem dX2_degree_20 : decode cX2_degree 20 = .ok (.ireturn, 1) := by decide +kernel
theorem dX2_degree_21 : decode cX2_degree 21 = .ok (.iinc 1 (-1), 3) := by decide +kernel
theorem dX2_degree_24 : decode cX2_degree 24 = .ok (.goto (-17), 3) := by decide +kernel
theorem dX2_degree_27 : decode cX2_degree 27 = .ok (.bipush (-6), 2) := by decide +kernel
theorem dX2_degree_29 : decode cX2_degree 29 = .ok (.ireturn, 1) := by decide +kernel
set_option maxRecDepth 20000 in
theorem ggX2_countNotZero_X2_at : GoodIn wsX2_countNotZero wsX2_at := goodIn_r _ [6, 7, 8, 9] (by decide +kernel) (by decide +kernel)
set_option maxRecDepth 20000 in
theorem gX2_countNotZero_X2_at : GoodIn wsX2_countNotZero (wsV RX2 41 RX2 yX2_at wsX2_at) := goodIn_app (goodIn_of _ (by decide +kernel)) ggX2_countNotZero_X2_at
theorem dX2_countNotZero_0 : decode cX2_countNotZero 0 = .ok (.iconst 0, 1) := by decide +kernel
theorem dX2_countNotZero_1 : decode cX2_countNotZero 1 = .ok (.istore_n 1, 1) := by decide +kernel
theorem dX2_countNotZero_2 : decode cX2_countNotZero 2 = .ok (.iconst 0, 1) := by decide +kernel
theorem dX2_countNotZero_3 : decode cX2_countNotZero 3 = .ok (.istore_n 2, 1) := by decide +kernel
theorem dX2_countNotZero_4 : decode cX2_countNotZero 4 = .ok (.iload_n 2, 1) := by decide +kernel
theorem dX2_countNotZero_5 : decode cX2_countNotZero 5 = .ok (.aload_n 0, 1) := by decide +kernel
theorem dX2_countNotZero_6 : decode cX2_countNotZero 6 = .ok (.getfield 15, 3) := by decide +kernel
theorem dX2_countNotZero_9 : decode cX2_countNotZero 9 = .ok (.if_icmp .ge 20, 3) := by decide +kernel
theorem dX2_countNotZero_12 : decode cX2_countNotZero 12 = .ok (.aload_n 0, 1) := by decide +kernel
theorem dX2_countNotZero_13 : decode cX2_countNotZero 13 = .ok (.iload_n 2, 1) := by decide +kernel
theorem dX2_countNotZero_14 : decode cX2_countNotZero 14 = .ok (.invokevirtual 41, 3) := by decide +kernel
theorem dX2_countNotZero_17 : decode cX2_countNotZero 17 = .ok (.ifCond .eq 6, 3) := by decide +kernel
theorem dX2_countNotZero_20 : decode cX2_countNotZero 20 = .ok (.iinc 1 1, 3) := by decide +kernel
theorem dX2_countNotZero_23 : decode cX2_countNotZero 23 = .ok (.iinc 2 1, 3) := by decide +kernel
theorem dX2_countNotZero_26 : decode cX2_countNotZero 26 = .ok (.goto (-22), 3) := by decide +kernel
theorem dX2_countNotZero_29 : decode cX2_countNotZero 29 = .ok (.iload_n 1, 1) := by decide +kernel
theorem dX2_countNotZero_30 : decode cX2_countNotZero 30 = .ok (.ireturn, 1) := by decide +kernel
set_option maxRecDepth 20000 in
theorem ggX2_total_X2_at : GoodIn wsX2_total wsX2_at := goodIn_r _ [6, 7, 8, 9] (by decide +kernel) (by decide +kernel)
set_option maxRecDepth 20000 in
theorem gX2_total_X2_at : GoodIn wsX2_total (wsV RX2 41 RX2 yX2_at wsX2_at) := goodIn_app (goodIn_of _ (by decide +kernel)) ggX2_total_X2_at
theorem dX2_total_0 : decode cX2_total 0 = .ok (.iconst 0, 1) := by decide +kernel
theorem dX2_total_1 : decode cX2_total 1 = .ok (.istore_n 1, 1) := by decide +kernel
theorem dX2_total_2 : decode cX2_total 2 = .ok (.iconst 0, 1) := by decide +kernel
theorem dX2_total_3 : decode cX2_total 3 = .ok (.istore_n 2, 1) := by decide +kernel
theorem dX2_total_4 : decode cX2_total 4 = .ok (.iload_n 2, 1) := by decide +kernel
theorem dX2_total_5 : decode cX2_total 5 = .ok (.aload_n 0, 1) := by decide +kernel
theorem dX2_total_6 : decode cX2_total 6 = .ok (.getfield 15, 3) := by decide +kernel
theorem dX2_total_9 : decode cX2_total 9 = .ok (.if_icmp .ge 17, 3) := by decide +kernel
theorem dX2_total_12 : decode cX2_total 12 = .ok (.iload_n 1, 1) := by decide +kernel
theorem dX2_total_13 : decode cX2_total 13 = .ok (.aload_n 0, 1) := by decide +kernel
theorem dX2_total_14 : decode cX2_total 14 = .ok (.iload_n 2, 1) := by decide +kernel
theorem dX2_total_15 : decode cX2_total 15 = .ok (.invokevirtual 41, 3) := by decide +kernel
theorem dX2_total_18 : decode cX2_total 18 = .ok (.iadd, 1) := by decide +kernel
theorem dX2_total_19 : decode cX2_total 19 = .ok (.istore_n 1, 1) := by decide +kernel
theorem dX2_total_20 : decode cX2_total 20 = .ok (.iinc 2 1, 3) := by decide +kernel
theorem dX2_total_23 : decode cX2_total 23 = .ok (.goto (-19), 3) := by decide +kernel
theorem dX2_total_26 : decode cX2_total 26 = .ok (.iload_n 1, 1) := by decide +kernel
theorem dX2_total_27 : decode cX2_total 27 = .ok (.ireturn, 1) := by decide +kernel
set_option maxRecDepth 20000 in
theorem ggX2_valueAt_X2_at : GoodIn wsX2_valueAt wsX2_at := goodIn_r _ [6, 7, 8, 9] (by decide +kernel) (by decide +kernel)
set_option maxRecDepth 20000 in
theorem gX2_valueAt_X2_at : GoodIn wsX2_valueAt (wsV RX2 41 RX2 yX2_at wsX2_at) := goodIn_app (goodIn_of _ (by decide +kernel)) ggX2_valueAt_X2_at
theorem dX2_valueAt_0 : decode cX2_valueAt 0 = .ok (.iconst 0, 1) := by decide +kernel
theorem dX2_valueAt_1 : decode cX2_valueAt 1 = .ok (.istore_n 2, 1) := by decide +kernel
theorem dX2_valueAt_2 : decode cX2_valueAt 2 = .ok (.aload_n 0, 1) := by decide +kernel
theorem dX2_valueAt_3 : decode cX2_valueAt 3 = .ok (.getfield 15, 3) := by decide +kernel
theorem dX2_valueAt_6 : decode cX2_valueAt 6 = .ok (.iconst 1, 1) := by decide +kernel
theorem dX2_valueAt_7 : decode cX2_valueAt 7 = .ok (.isub, 1) := by decide +kernel
theorem dX2_valueAt_8 : decode cX2_valueAt 8 = .ok (.istore_n 3, 1) := by decide +kernel
theorem dX2_valueAt_9 : decode cX2_valueAt 9 = .ok (.iload_n 3, 1) := by decide +kernel
theorem dX2_valueAt_10 : decode cX2_valueAt 10 = .ok (.ifCond .lt 23, 3) := by decide +kernel
theorem dX2_valueAt_13 : decode cX2_valueAt 13 = .ok (.iload_n 2, 1) := by decide +kernel
theorem dX2_valueAt_14 : decode cX2_valueAt 14 = .ok (.iload_n 1, 1) := by decide +kernel
theorem dX2_valueAt_15 : decode cX2_valueAt 15 = .ok (.imul, 1) := by decide +kernel
theorem dX2_valueAt_16 : decode cX2_valueAt 16 = .ok (.aload_n 0, 1) := by decide +kernel
theorem dX2_valueAt_17 : decode cX2_valueAt 17 = .ok (.iload_n 3, 1) := by decide +kernel
theorem dX2_valueAt_18 : decode cX2_valueAt 18 = .ok (.invokevirtual 41, 3) := by decide +kernel
theorem dX2_valueAt_21 : decode cX2_valueAt 21 = .ok (.iadd, 1) := by decide +kernel
theorem dX2_valueAt_22 : decode cX2_valueAt 22 = .ok (.sipush 257, 3) := by decide +kernel
theorem dX2_valueAt_25 : decode cX2_valueAt 25 = .ok (.irem, 1) := by decide +kernel
theorem dX2_valueAt_26 : decode cX2_valueAt 26 = .ok (.istore_n 2, 1) := by decide +kernel
theorem dX2_valueAt_27 : decode cX2_valueAt 27 = .ok (.iinc 3 (-1), 3) := by decide +kernel
theorem dX2_valueAt_30 : decode cX2_valueAt 30 = .ok (.goto (-21), 3) := by decide +kernel
theorem dX2_valueAt_33 : decode cX2_valueAt 33 = .ok (.iload_n 2, 1) := by decide +kernel
theorem dX2_valueAt_34 : decode cX2_valueAt 34 = .ok (.ireturn, 1) := by decide +kernel
set_option maxRecDepth 20000 in
theorem ggX2_countRoots_X2_valueAt : GoodIn wsX2_countRoots wsX2_valueAt := goodIn_r _ [5, 6, 7, 8, 9, 4, 10, 11, 12, 13] (by decide +kernel) (by decide +kernel)
set_option maxRecDepth 20000 in
theorem gX2_countRoots_X2_valueAt : GoodIn wsX2_countRoots (wsV RX2 45 RX2 yX2_valueAt wsX2_valueAt) := goodIn_app (goodIn_of _ (by decide +kernel)) ggX2_countRoots_X2_valueAt
theorem dX2_countRoots_0 : decode cX2_countRoots 0 = .ok (.iconst 0, 1) := by decide +kernel
theorem dX2_countRoots_1 : decode cX2_countRoots 1 = .ok (.istore_n 1, 1) := by decide +kernel
theorem dX2_countRoots_2 : decode cX2_countRoots 2 = .ok (.iconst 0, 1) := by decide +kernel
theorem dX2_countRoots_3 : decode cX2_countRoots 3 = .ok (.istore_n 2, 1) := by decide +kernel
theorem dX2_countRoots_4 : decode cX2_countRoots 4 = .ok (.iload_n 2, 1) := by decide +kernel
theorem dX2_countRoots_5 : decode cX2_countRoots 5 = .ok (.sipush 257, 3) := by decide +kernel
theorem dX2_countRoots_8 : decode cX2_countRoots 8 = .ok (.if_icmp .ge 20, 3) := by decide +kernel
theorem dX2_countRoots_11 : decode cX2_countRoots 11 = .ok (.aload_n 0, 1) := by decide +kernel
theorem dX2_countRoots_12 : decode cX2_countRoots 12 = .ok (.iload_n 2, 1) := by decide +kernel
theorem dX2_countRoots_13 : decode cX2_countRoots 13 = .ok (.invokevirtual 45, 3) := by decide +kernel
theorem dX2_countRoots_16 : decode cX2_countRoots 16 = .ok (.ifCond .ne 6, 3) := by decide +kernel
theorem dX2_countRoots_19 : decode cX2_countRoots 19 = .ok (.iinc 1 1, 3) := by decide +kernel
theorem dX2_countRoots_22 : decode cX2_countRoots 22 = .ok (.iinc 2 1, 3) := by decide +kernel
theorem dX2_countRoots_25 : decode cX2_countRoots 25 = .ok (.goto (-21), 3) := by decide +kernel
theorem dX2_countRoots_28 : decode cX2_countRoots 28 = .ok (.iload_n 1, 1) := by decide +kernel
theorem dX2_countRoots_29 : decode cX2_countRoots 29 = .ok (.ireturn, 1) := by decide +kernel
set_option maxRecDepth 20000 in
theorem ggX2_leastRoot_X2_valueAt : GoodIn wsX2_leastRoot wsX2_valueAt := goodIn_r _ [5, 6, 7, 8, 9, 4, 10, 11, 12, 13] (by decide +kernel) (by decide +kernel)
set_option maxRecDepth 20000 in
theorem gX2_leastRoot_X2_valueAt : GoodIn wsX2_leastRoot (wsV RX2 45 RX2 yX2_valueAt wsX2_valueAt) := goodIn_app (goodIn_of _ (by decide +kernel)) ggX2_leastRoot_X2_valueAt
theorem dX2_leastRoot_0 : decode cX2_leastRoot 0 = .ok (.iconst 0, 1) := by decide +kernel
theorem dX2_leastRoot_1 : decode cX2_leastRoot 1 = .ok (.istore_n 1, 1) := by decide +kernel
theorem dX2_leastRoot_2 : decode cX2_leastRoot 2 = .ok (.iload_n 1, 1) := by decide +kernel
theorem dX2_leastRoot_3 : decode cX2_leastRoot 3 = .ok (.sipush 257, 3) := by decide +kernel
theorem dX2_leastRoot_6 : decode cX2_leastRoot 6 = .ok (.if_icmp .ge 19, 3) := by decide +kernel
theorem dX2_leastRoot_9 : decode cX2_leastRoot 9 = .ok (.aload_n 0, 1) := by decide +kernel
theorem dX2_leastRoot_10 : decode cX2_leastRoot 10 = .ok (.iload_n 1, 1) := by decide +kernel
theorem dX2_leastRoot_11 : decode cX2_leastRoot 11 = .ok (.invokevirtual 45, 3) := by decide +kernel
theorem dX2_leastRoot_14 : decode cX2_leastRoot 14 = .ok (.ifCond .ne 5, 3) := by decide +kernel
theorem dX2_leastRoot_17 : decode cX2_leastRoot 17 = .ok (.iload_n 1, 1) := by decide +kernel
theorem dX2_leastRoot_18 : decode cX2_leastRoot 18 = .ok (.ireturn, 1) := by decide +kernel
theorem dX2_leastRoot_19 : decode cX2_leastRoot 19 = .ok (.iinc 1 1, 3) := by decide +kernel
theorem dX2_leastRoot_22 : decode cX2_leastRoot 22 = .ok (.goto (-20), 3) := by decide +kernel
theorem dX2_leastRoot_25 : decode cX2_leastRoot 25 = .ok (.bipush (-6), 2) := by decide +kernel
theorem dX2_leastRoot_27 : decode cX2_leastRoot 27 = .ok (.ireturn, 1) := by decide +kernel
set_option maxRecDepth 20000 in
theorem ggX3_init_X2_init : GoodIn wsX3_init wsX2_init := goodIn_r _ [9, 10, 2, 3, 11, 12, 13, 15, 16] (by decide +kernel) (by decide +kernel)
set_option maxRecDepth 20000 in
theorem gX3_init_X2_init_n17 : GoodIn wsX3_init (wsX2_init) := ggX3_init_X2_init
theorem dX3_init_0 : decode cX3_init 0 = .ok (.aload_n 0, 1) := by decide +kernel
theorem dX3_init_1 : decode cX3_init 1 = .ok (.invokespecial 3, 3) := by decide +kernel
theorem dX3_init_4 : decode cX3_init 4 = .ok (.aload_n 0, 1) := by decide +kernel
theorem dX3_init_5 : decode cX3_init 5 = .ok (.bipush 6, 2) := by decide +kernel
theorem dX3_init_7 : decode cX3_init 7 = .ok (.anewarray 9, 3) := by decide +kernel
theorem dX3_init_10 : decode cX3_init 10 = .ok (.putfield 11, 3) := by decide +kernel
theorem dX3_init_13 : decode cX3_init 13 = .ok (.iconst 0, 1) := by decide +kernel
theorem dX3_init_14 : decode cX3_init 14 = .ok (.istore_n 1, 1) := by decide +kernel
theorem dX3_init_15 : decode cX3_init 15 = .ok (.iload_n 1, 1) := by decide +kernel
theorem dX3_init_16 : decode cX3_init 16 = .ok (.aload_n 0, 1) := by decide +kernel
theorem dX3_init_17 : decode cX3_init 17 = .ok (.getfield 11, 3) := by decide +kernel
theorem dX3_init_20 : decode cX3_init 20 = .ok (.arraylength, 1) := by decide +kernel
theorem dX3_init_21 : decode cX3_init 21 = .ok (.if_icmp .ge 22, 3) := by decide +kernel
theorem dX3_init_24 : decode cX3_init 24 = .ok (.aload_n 0, 1) := by decide +kernel
theorem dX3_init_25 : decode cX3_init 25 = .ok (.getfield 11, 3) := by decide +kernel
theorem dX3_init_28 : decode cX3_init 28 = .ok (.iload_n 1, 1) := by decide +kernel
theorem dX3_init_29 : decode cX3_init 29 = .ok (.new 9, 3) := by decide +kernel
theorem dX3_init_32 : decode cX3_init 32 = .ok (.dup, 1) := by decide +kernel
theorem dX3_init_33 : decode cX3_init 33 = .ok (.invokespecial 17, 3) := by decide +kernel
theorem dX3_init_36 : decode cX3_init 36 = .ok (.aastore, 1) := by decide +kernel
theorem dX3_init_37 : decode cX3_init 37 = .ok (.iinc 1 1, 3) := by decide +kernel
theorem dX3_init_40 : decode cX3_init 40 = .ok (.goto (-25), 3) := by decide +kernel
theorem dX3_init_43 : decode cX3_init 43 = .ok (.return_, 1) := by decide +kernel
theorem dX3_rowOf_0 : decode cX3_rowOf 0 = .ok (.iload_n 1, 1) := by decide +kernel
theorem dX3_rowOf_1 : decode cX3_rowOf 1 = .ok (.ifCond .lt 21, 3) := by decide +kernel
theorem dX3_rowOf_4 : decode cX3_rowOf 4 = .ok (.iload_n 1, 1) := by decide +kernel
theorem dX3_rowOf_5 : decode cX3_rowOf 5 = .ok (.aload_n 0, 1) := by decide +kernel
theorem dX3_rowOf_6 : decode cX3_rowOf 6 = .ok (.getfield 11, 3) := by decide +kernel
theorem dX3_rowOf_9 : decode cX3_rowOf 9 = .ok (.arraylength, 1) := by decide +kernel
theorem dX3_rowOf_10 : decode cX3_rowOf 10 = .ok (.if_icmp .ge 12, 3) := by decide +kernel
theorem dX3_rowOf_13 : decode cX3_rowOf 13 = .ok (.aload_n 0, 1) := by decide +kernel
theorem dX3_rowOf_14 : decode cX3_rowOf 14 = .ok (.getfield 11, 3) := by decide +kernel
theorem dX3_rowOf_17 : decode cX3_rowOf 17 = .ok (.iload_n 1, 1) := by decide +kernel
theorem dX3_rowOf_18 : decode cX3_rowOf 18 = .ok (.aaload, 1) := by decide +kernel
theorem dX3_rowOf_19 : decode cX3_rowOf 19 = .ok (.goto 4, 3) := by decide +kernel
theorem dX3_rowOf_22 : decode cX3_rowOf 22 = .ok (.aconst_null, 1) := by decide +kernel
theorem dX3_rowOf_23 : decode cX3_rowOf 23 = .ok (.areturn, 1) := by decide +kernel
set_option maxRecDepth 20000 in
theorem ggX3_copyFrom_X2_copyFrom : GoodIn wsX3_copyFrom wsX2_copyFrom := goodIn_r _ [6, 7, 8, 9, 10, 11, 12, 14, 15] (by decide +kernel) (by decide +kernel)
set_option maxRecDepth 20000 in
theorem gX3_copyFrom_X2_copyFrom : GoodIn wsX3_copyFrom (wsV RX3 22 RX2 yX2_copyFrom wsX2_copyFrom) := goodIn_app (goodIn_of _ (by decide +kernel)) ggX3_copyFrom_X2_copyFrom
theorem dX3_copyFrom_0 : decode cX3_copyFrom 0 = .ok (.iconst 0, 1) := by decide +kernel
theorem dX3_copyFrom_1 : decode cX3_copyFrom 1 = .ok (.istore_n 2, 1) := by decide +kernel
theorem dX3_copyFrom_2 : decode cX3_copyFrom 2 = .ok (.iload_n 2, 1) := by decide +kernel
theorem dX3_copyFrom_3 : decode cX3_copyFrom 3 = .ok (.aload_n 0, 1) := by decide +kernel
theorem dX3_copyFrom_4 : decode cX3_copyFrom 4 = .ok (.getfield 11, 3) := by decide +kernel
theorem dX3_copyFrom_7 : decode cX3_copyFrom 7 = .ok (.arraylength, 1) := by decide +kernel
theorem dX3_copyFrom_8 : decode cX3_copyFrom 8 = .ok (.if_icmp .ge 24, 3) := by decide +kernel
theorem dX3_copyFrom_11 : decode cX3_copyFrom 11 = .ok (.aload_n 0, 1) := by decide +kernel
theorem dX3_copyFrom_12 : decode cX3_copyFrom 12 = .ok (.getfield 11, 3) := by decide +kernel
theorem dX3_copyFrom_15 : decode cX3_copyFrom 15 = .ok (.iload_n 2, 1) := by decide +kernel
theorem dX3_copyFrom_16 : decode cX3_copyFrom 16 = .ok (.aaload, 1) := by decide +kernel
theorem dX3_copyFrom_17 : decode cX3_copyFrom 17 = .ok (.aload_n 1, 1) := by decide +kernel
theorem dX3_copyFrom_18 : decode cX3_copyFrom 18 = .ok (.getfield 11, 3) := by decide +kernel
theorem dX3_copyFrom_21 : decode cX3_copyFrom 21 = .ok (.iload_n 2, 1) := by decide +kernel
theorem dX3_copyFrom_22 : decode cX3_copyFrom 22 = .ok (.aaload, 1) := by decide +kernel
theorem dX3_copyFrom_23 : decode cX3_copyFrom 23 = .ok (.invokevirtual 22, 3) := by decide +kernel
theorem dX3_copyFrom_26 : decode cX3_copyFrom 26 = .ok (.iinc 2 1, 3) := by decide +kernel
theorem dX3_copyFrom_29 : decode cX3_copyFrom 29 = .ok (.goto (-27), 3) := by decide +kernel
theorem dX3_copyFrom_32 : decode cX3_copyFrom 32 = .ok (.return_, 1) := by decide +kernel
set_option maxRecDepth 20000 in
theorem ggX4_init_X3_init : GoodIn wsX4_init wsX3_init := goodIn_r _ [29, 30, 2, 3, 31, 32, 20, 21, 33, 34, 35, 36, 37, 38, 52, 67, 68] (by decide +kernel) (by decide +kernel)
set_option maxRecDepth 20000 in
theorem gX4_init_X3_init : GoodIn wsX4_init (wsX3_init) := ggX4_init_X3_init
set_option maxRecDepth 20000 in
theorem ggX4_init_X0_init : GoodIn wsX4_init wsX0_init := goodIn_r _ [41, 42, 2, 3, 43, 44, 45, 5, 6, 46, 28, 29, 30, 31, 32, 20, 21, 33, 34, 35, 36, 37, 38, 63, 64, 52, 67, 68] (by decide +kernel) (by decide +kernel)
set_option maxRecDepth 20000 in
theorem gX4_init_X0_init : GoodIn wsX4_init (wsX0_init) := ggX4_init_X0_init
set_option maxRecDepth 20000 in
theorem ggX4_init_X1_init : GoodIn wsX4_init wsX1_init := goodIn_r _ [48, 49, 2, 3, 36, 50, 51, 65, 66] (by decide +kernel) (by decide +kernel)
set_option maxRecDepth 20000 in
theorem gX4_init_X1_init_n25 : GoodIn wsX4_init (wsX1_init) := ggX4_init_X1_init
set_option maxRecDepth 20000 in
theorem ggX4_init_X2_init : GoodIn wsX4_init wsX2_init := goodIn_r _ [34, 35, 2, 3, 36, 37, 38, 67, 68] (by decide +kernel) (by decide +kernel)
set_option maxRecDepth 20000 in
theorem gX4_init_X2_init_n40 : GoodIn wsX4_init (wsX2_init) := ggX4_init_X2_init
theorem dX4_init_0 : decode cX4_init 0 = .ok (.aload_n 0, 1) := by decide +kernel
theorem dX4_init_1 : decode cX4_init 1 = .ok (.invokespecial 1, 3) := by decide +kernel
theorem dX4_init_4 : decode cX4_init 4 = .ok (.aload_n 0, 1) := by decide +kernel
theorem dX4_init_5 : decode cX4_init 5 = .ok (.new 7, 3) := by decide +kernel
theorem dX4_init_8 : decode cX4_init 8 = .ok (.dup, 1) := by decide +kernel
theorem dX4_init_9 : decode cX4_init 9 = .ok (.invokespecial 9, 3) := by decide +kernel
theorem dX4_init_12 : decode cX4_init 12 = .ok (.putfield 10, 3) := by decide +kernel
theorem dX4_init_15 : decode cX4_init 15 = .ok (.aload_n 0, 1) := by decide +kernel
theorem dX4_init_16 : decode cX4_init 16 = .ok (.new 16, 3) := by decide +kernel
theorem dX4_init_19 : decode cX4_init 19 = .ok (.dup, 1) := by decide +kernel
theorem dX4_init_20 : decode cX4_init 20 = .ok (.invokespecial 18, 3) := by decide +kernel
theorem dX4_init_23 : decode cX4_init 23 = .ok (.putfield 19, 3) := by decide +kernel
theorem dX4_init_26 : decode cX4_init 26 = .ok (.aload_n 0, 1) := by decide +kernel
theorem dX4_init_27 : decode cX4_init 27 = .ok (.new 23, 3) := by decide +kernel
theorem dX4_init_30 : decode cX4_init 30 = .ok (.dup, 1) := by decide +kernel
theorem dX4_init_31 : decode cX4_init 31 = .ok (.invokespecial 25, 3) := by decide +kernel
theorem dX4_init_34 : decode cX4_init 34 = .ok (.putfield 26, 3) := by decide +kernel
theorem dX4_init_37 : decode cX4_init 37 = .ok (.aload_n 0, 1) := by decide +kernel
theorem dX4_init_38 : decode cX4_init 38 = .ok (.iconst 2, 1) := by decide +kernel
theorem dX4_init_39 : decode cX4_init 39 = .ok (.anewarray 7, 3) := by decide +kernel
theorem dX4_init_42 : decode cX4_init 42 = .ok (.putfield 30, 3) := by decide +kernel
theorem dX4_init_45 : decode cX4_init 45 = .ok (.aload_n 0, 1) := by decide +kernel
theorem dX4_init_46 : decode cX4_init 46 = .ok (.iconst 2, 1) := by decide +kernel
theorem dX4_init_47 : decode cX4_init 47 = .ok (.newarray .boolean, 2) := by decide +kernel
theorem dX4_init_49 : decode cX4_init 49 = .ok (.putfield 34, 3) := by decide +kernel
theorem dX4_init_52 : decode cX4_init 52 = .ok (.aload_n 0, 1) := by decide +kernel
theorem dX4_init_53 : decode cX4_init 53 = .ok (.new 38, 3) := by decide +kernel
theorem dX4_init_56 : decode cX4_init 56 = .ok (.dup, 1) := by decide +kernel
theorem dX4_init_57 : decode cX4_init 57 = .ok (.invokespecial 40, 3) := by decide +kernel
theorem dX4_init_60 : decode cX4_init 60 = .ok (.putfield 41, 3) := by decide +kernel
theorem dX4_init_63 : decode cX4_init 63 = .ok (.aload_n 0, 1) := by decide +kernel
theorem dX4_init_64 : decode cX4_init 64 = .ok (.new 38, 3) := by decide +kernel
theorem dX4_init_67 : decode cX4_init 67 = .ok (.dup, 1) := by decide +kernel
theorem dX4_init_68 : decode cX4_init 68 = .ok (.invokespecial 40, 3) := by decide +kernel
theorem dX4_init_71 : decode cX4_init 71 = .ok (.putfield 45, 3) := by decide +kernel
theorem dX4_init_74 : decode cX4_init 74 = .ok (.aload_n 0, 1) := by decide +kernel
theorem dX4_init_75 : decode cX4_init 75 = .ok (.new 38, 3) := by decide +kernel
theorem dX4_init_78 : decode cX4_init 78 = .ok (.dup, 1) := by decide +kernel
theorem dX4_init_79 : decode cX4_init 79 = .ok (.invokespecial 40, 3) := by decide +kernel
theorem dX4_init_82 : decode cX4_init 82 = .ok (.putfield 48, 3) := by decide +kernel
theorem dX4_init_85 : decode cX4_init 85 = .ok (.aload_n 0, 1) := by decide +kernel
theorem dX4_init_86 : decode cX4_init 86 = .ok (.new 38, 3) := by decide +kernel
theorem dX4_init_89 : decode cX4_init 89 = .ok (.dup, 1) := by decide +kernel
theorem dX4_init_90 : decode cX4_init 90 = .ok (.invokespecial 40, 3) := by decide +kernel
theorem dX4_init_93 : decode cX4_init 93 = .ok (.putfield 51, 3) := by decide +kernel
theorem dX4_init_96 : decode cX4_init 96 = .ok (.aload_n 0, 1) := by decide +kernel
theorem dX4_init_97 : decode cX4_init 97 = .ok (.new 38, 3) := by decide +kernel
theorem dX4_init_100 : decode cX4_init 100 = .ok (.dup, 1) := by decide +kernel
theorem dX4_init_101 : decode cX4_init 101 = .ok (.invokespecial 40, 3) := by decide +kernel
theorem dX4_init_104 : decode cX4_init 104 = .ok (.putfield 54, 3) := by decide +kernel
theorem dX4_init_107 : decode cX4_init 107 = .ok (.iconst 0, 1) := by decide +kernel
theorem dX4_init_108 : decode cX4_init 108 = .ok (.istore_n 1, 1) := by decide +kernel
theorem dX4_init_109 : decode cX4_init 109 = .ok (.iload_n 1, 1) := by decide +kernel
theorem dX4_init_110 : decode cX4_init 110 = .ok (.aload_n 0, 1) := by decide +kernel
theorem dX4_init_111 : decode cX4_init 111 = .ok (.getfield 30, 3) := by decide +kernel
theorem dX4_init_114 : decode cX4_init 114 = .ok (.arraylength, 1) := by decide +kernel
theorem dX4_init_115 : decode cX4_init 115 = .ok (.if_icmp .ge 22, 3) := by decide +kernel
theorem dX4_init_118 : decode cX4_init 118 = .ok (.aload_n 0, 1) := by decide +kernel
theorem dX4_init_119 : decode cX4_init 119 = .ok (.getfield 30, 3) := by decide +kernel
theorem dX4_init_122 : decode cX4_init 122 = .ok (.iload_n 1, 1) := by decide +kernel
theorem dX4_init_123 : decode cX4_init 123 = .ok (.new 7, 3) := by decide +kernel
theorem dX4_init_126 : decode cX4_init 126 = .ok (.dup, 1) := by decide +kernel
theorem dX4_init_127 : decode cX4_init 127 = .ok (.invokespecial 9, 3) := by decide +kernel
theorem dX4_init_130 : decode cX4_init 130 = .ok (.aastore, 1) := by decide +kernel
theorem dX4_init_131 : decode cX4_init 131 = .ok (.iinc 1 1, 3) := by decide +kernel
theorem dX4_init_134 : decode cX4_init 134 = .ok (.goto (-25), 3) := by decide +kernel
theorem dX4_init_137 : decode cX4_init 137 = .ok (.return_, 1) := by decide +kernel
set_option maxRecDepth 20000 in
theorem ggX4_read_X3_rowOf : GoodIn wsX4_read wsX3_rowOf := goodIn_r _ [8, 9, 88] (by decide +kernel) (by decide +kernel)
set_option maxRecDepth 20000 in
theorem gX4_read_X3_rowOf : GoodIn wsX4_read (wsV RX4 57 RX3 yX3_rowOf wsX3_rowOf) := goodIn_app (goodIn_of _ (by decide +kernel)) ggX4_read_X3_rowOf
set_option maxRecDepth 20000 in
theorem ggX4_read_X1_scan : GoodIn wsX4_read wsX1_scan := goodIn_r _ [14, 15, 16, 17, 18, 13, 19, 20, 21, 22, 23, 24, 25, 26, 27, 28, 29, 30, 31, 32, 33, 34, 35, 36, 37, 38, 39, 89, 90, 91, 92] (by decide +kernel) (by decide +kernel)
set_option maxRecDepth 20000 in
theorem gX4_read_X1_scan : GoodIn wsX4_read (wsV RX4 61 RX1 yX1_scan wsX1_scan) := goodIn_app (goodIn_of _ (by decide +kernel)) ggX4_read_X1_scan
set_option maxRecDepth 20000 in
theorem ggX4_read_X4_change : GoodIn wsX4_read wsX4_change := goodIn_r _ [44, 45, 1, 3, 46, 47, 48, 49, 50, 51, 52, 53, 54, 55, 56, 57, 58, 59, 7, 60, 9, 61, 62, 63, 27, 64, 29, 65, 66, 67, 68, 38, 69, 78, 79, 80, 81, 82, 83, 84, 85, 86, 87, 93, 94, 88, 91, 92] (by decide +kernel) (by decide +kernel)
set_option maxRecDepth 20000 in
theorem gX4_read_X4_change : GoodIn wsX4_read (wsV RX4 65 RX4 yX4_change wsX4_change) := goodIn_app (goodIn_of _ (by decide +kernel)) ggX4_read_X4_change
set_option maxRecDepth 20000 in
theorem ggX4_read_X1_empty : GoodIn wsX4_read wsX1_empty := goodIn_r _ [73, 16, 89, 90] (by decide +kernel) (by decide +kernel)
set_option maxRecDepth 20000 in
theorem gX4_read_X1_empty : GoodIn wsX4_read (wsV RX4 69 RX1 yX1_empty wsX1_empty) := goodIn_app (goodIn_of _ (by decide +kernel)) ggX4_read_X1_empty
set_option maxRecDepth 20000 in
theorem ggX4_read_X2_length : GoodIn wsX4_read wsX2_length := goodIn_r _ [77, 38, 91, 92] (by decide +kernel) (by decide +kernel)
set_option maxRecDepth 20000 in
theorem gX4_read_X2_length : GoodIn wsX4_read (wsV RX4 72 RX2 yX2_length wsX2_length) := goodIn_app (goodIn_of _ (by decide +kernel)) ggX4_read_X2_length
theorem dX4_read_0 : decode cX4_read 0 = .ok (.aload_n 0, 1) := by decide +kernel
theorem dX4_read_1 : decode cX4_read 1 = .ok (.getfield 10, 3) := by decide +kernel
theorem dX4_read_4 : decode cX4_read 4 = .ok (.iload_n 1, 1) := by decide +kernel
theorem dX4_read_5 : decode cX4_read 5 = .ok (.invokevirtual 57, 3) := by decide +kernel
theorem dX4_read_8 : decode cX4_read 8 = .ok (.astore_n 2, 1) := by decide +kernel
theorem dX4_read_9 : decode cX4_read 9 = .ok (.aload_n 2, 1) := by decide +kernel
theorem dX4_read_10 : decode cX4_read 10 = .ok (.ifnonnull 5, 3) := by decide +kernel
theorem dX4_read_13 : decode cX4_read 13 = .ok (.iconst (-1), 1) := by decide +kernel
theorem dX4_read_14 : decode cX4_read 14 = .ok (.ireturn, 1) := by decide +kernel
theorem dX4_read_15 : decode cX4_read 15 = .ok (.aload_n 0, 1) := by decide +kernel
theorem dX4_read_16 : decode cX4_read 16 = .ok (.getfield 26, 3) := by decide +kernel
theorem dX4_read_19 : decode cX4_read 19 = .ok (.aload_n 0, 1) := by decide +kernel
theorem dX4_read_20 : decode cX4_read 20 = .ok (.getfield 41, 3) := by decide +kernel
theorem dX4_read_23 : decode cX4_read 23 = .ok (.invokevirtual 61, 3) := by decide +kernel
theorem dX4_read_26 : decode cX4_read 26 = .ok (.bipush (-6), 2) := by decide +kernel
theorem dX4_read_28 : decode cX4_read 28 = .ok (.if_icmp .eq 6, 3) := by decide +kernel
theorem dX4_read_31 : decode cX4_read 31 = .ok (.bipush (-3), 2) := by decide +kernel
theorem dX4_read_33 : decode cX4_read 33 = .ok (.ireturn, 1) := by decide +kernel
theorem dX4_read_34 : decode cX4_read 34 = .ok (.aload_n 0, 1) := by decide +kernel
theorem dX4_read_35 : decode cX4_read 35 = .ok (.aload_n 2, 1) := by decide +kernel
theorem dX4_read_36 : decode cX4_read 36 = .ok (.invokevirtual 65, 3) := by decide +kernel
theorem dX4_read_39 : decode cX4_read 39 = .ok (.aload_n 0, 1) := by decide +kernel
theorem dX4_read_40 : decode cX4_read 40 = .ok (.getfield 26, 3) := by decide +kernel
theorem dX4_read_43 : decode cX4_read 43 = .ok (.invokevirtual 69, 3) := by decide +kernel
theorem dX4_read_46 : decode cX4_read 46 = .ok (.aload_n 2, 1) := by decide +kernel
theorem dX4_read_47 : decode cX4_read 47 = .ok (.invokevirtual 72, 3) := by decide +kernel
theorem dX4_read_50 : decode cX4_read 50 = .ok (.ireturn, 1) := by decide +kernel
set_option maxRecDepth 20000 in
theorem ggX4_set_X3_rowOf : GoodIn wsX4_set wsX3_rowOf := goodIn_r _ [11, 12, 70] (by decide +kernel) (by decide +kernel)
set_option maxRecDepth 20000 in
theorem gX4_set_X3_rowOf : GoodIn wsX4_set (wsV RX4 57 RX3 yX3_rowOf wsX3_rowOf) := goodIn_app (goodIn_of _ (by decide +kernel)) ggX4_set_X3_rowOf
set_option maxRecDepth 20000 in
theorem ggX4_set_X2_length : GoodIn wsX4_set wsX2_length := goodIn_r _ [17, 18, 71, 72] (by decide +kernel) (by decide +kernel)
set_option maxRecDepth 20000 in
theorem gX4_set_X2_length : GoodIn wsX4_set (wsV RX4 72 RX2 yX2_length wsX2_length) := goodIn_app (goodIn_of _ (by decide +kernel)) ggX4_set_X2_length
set_option maxRecDepth 20000 in
theorem ggX4_set_X4_isNumber : GoodIn wsX4_set wsX4_isNumber := goodIn_r _ [22] (by decide +kernel) (by decide +kernel)
set_option maxRecDepth 20000 in
theorem gX4_set_X4_isNumber : GoodIn wsX4_set (va_wsS RX4 76 yX4_isNumber wsX4_isNumber) := goodIn_app (goodIn_of _ (by decide +kernel)) ggX4_set_X4_isNumber
set_option maxRecDepth 20000 in
theorem ggX4_set_X0_keep : GoodIn wsX4_set wsX0_keep := goodIn_r _ [27, 28, 29, 30, 31, 32, 26, 33, 34, 35, 36, 10, 37, 12, 38, 39, 40, 16, 41, 42, 43, 44, 45, 46, 18, 73, 74, 70, 71, 72] (by decide +kernel) (by decide +kernel)
set_option maxRecDepth 20000 in
theorem gX4_set_X0_keep : GoodIn wsX4_set (wsV RX4 80 RX0 yX0_keep wsX0_keep) := goodIn_app (goodIn_of _ (by decide +kernel)) ggX4_set_X0_keep
set_option maxRecDepth 20000 in
theorem ggX4_set_X2_resize : GoodIn wsX4_set wsX2_resize := goodIn_r _ [50, 18, 51, 52, 53, 16, 54, 42, 55, 56, 57, 58, 71, 72] (by decide +kernel) (by decide +kernel)
set_option maxRecDepth 20000 in
theorem gX4_set_X2_resize : GoodIn wsX4_set (wsV RX4 90 RX2 yX2_resize wsX2_resize) := goodIn_app (goodIn_of _ (by decide +kernel)) ggX4_set_X2_resize
set_option maxRecDepth 20000 in
theorem ggX4_set_X2_write : GoodIn wsX4_set wsX2_write := goodIn_r _ [54, 42, 55, 56, 57, 58, 71, 72] (by decide +kernel) (by decide +kernel)
set_option maxRecDepth 20000 in
theorem gX4_set_X2_write : GoodIn wsX4_set (wsV RX4 94 RX2 yX2_write wsX2_write) := goodIn_app (goodIn_of _ (by decide +kernel)) ggX4_set_X2_write
theorem dX4_set_0 : decode cX4_set 0 = .ok (.aload_n 0, 1) := by decide +kernel
theorem dX4_set_1 : decode cX4_set 1 = .ok (.getfield 10, 3) := by decide +kernel
theorem dX4_set_4 : decode cX4_set 4 = .ok (.iload_n 1, 1) := by decide +kernel
theorem dX4_set_5 : decode cX4_set 5 = .ok (.invokevirtual 57, 3) := by decide +kernel
theorem dX4_set_8 : decode cX4_set 8 = .ok (.astore 4, 2) := by decide +kernel
theorem dX4_set_10 : decode cX4_set 10 = .ok (.aload 4, 2) := by decide +kernel
theorem dX4_set_12 : decode cX4_set 12 = .ok (.ifnull 16, 3) := by decide +kernel
theorem dX4_set_15 : decode cX4_set 15 = .ok (.iload_n 2, 1) := by decide +kernel
theorem dX4_set_16 : decode cX4_set 16 = .ok (.ifCond .lt 12, 3) := by decide +kernel
theorem dX4_set_19 : decode cX4_set 19 = .ok (.iload_n 2, 1) := by decide +kernel
theorem dX4_set_20 : decode cX4_set 20 = .ok (.aload 4, 2) := by decide +kernel
theorem dX4_set_22 : decode cX4_set 22 = .ok (.invokevirtual 72, 3) := by decide +kernel
theorem dX4_set_25 : decode cX4_set 25 = .ok (.if_icmp .le 5, 3) := by decide +kernel
theorem dX4_set_28 : decode cX4_set 28 = .ok (.iconst (-1), 1) := by decide +kernel
theorem dX4_set_29 : decode cX4_set 29 = .ok (.ireturn, 1) := by decide +kernel
theorem dX4_set_30 : decode cX4_set 30 = .ok (.iload_n 3, 1) := by decide +kernel
theorem dX4_set_31 : decode cX4_set 31 = .ok (.invokestatic 76, 3) := by decide +kernel
theorem dX4_set_34 : decode cX4_set 34 = .ok (.ifCond .ne 6, 3) := by decide +kernel
theorem dX4_set_37 : decode cX4_set 37 = .ok (.bipush (-2), 2) := by decide +kernel
theorem dX4_set_39 : decode cX4_set 39 = .ok (.ireturn, 1) := by decide +kernel
theorem dX4_set_40 : decode cX4_set 40 = .ok (.iload_n 2, 1) := by decide +kernel
theorem dX4_set_41 : decode cX4_set 41 = .ok (.bipush 64, 2) := by decide +kernel
theorem dX4_set_43 : decode cX4_set 43 = .ok (.if_icmp .lt 6, 3) := by decide +kernel
theorem dX4_set_46 : decode cX4_set 46 = .ok (.bipush (-4), 2) := by decide +kernel
theorem dX4_set_48 : decode cX4_set 48 = .ok (.ireturn, 1) := by decide +kernel
theorem dX4_set_49 : decode cX4_set 49 = .ok (.aload_n 0, 1) := by decide +kernel
theorem dX4_set_50 : decode cX4_set 50 = .ok (.getfield 19, 3) := by decide +kernel
theorem dX4_set_53 : decode cX4_set 53 = .ok (.aload_n 0, 1) := by decide +kernel
theorem dX4_set_54 : decode cX4_set 54 = .ok (.getfield 10, 3) := by decide +kernel
theorem dX4_set_57 : decode cX4_set 57 = .ok (.invokevirtual 80, 3) := by decide +kernel
theorem dX4_set_60 : decode cX4_set 60 = .ok (.aload 4, 2) := by decide +kernel
theorem dX4_set_62 : decode cX4_set 62 = .ok (.aload 4, 2) := by decide +kernel
theorem dX4_set_64 : decode cX4_set 64 = .ok (.invokevirtual 72, 3) := by decide +kernel
theorem dX4_set_67 : decode cX4_set 67 = .ok (.iload_n 2, 1) := by decide +kernel
theorem dX4_set_68 : decode cX4_set 68 = .ok (.iconst 1, 1) := by decide +kernel
theorem dX4_set_69 : decode cX4_set 69 = .ok (.iadd, 1) := by decide +kernel
theorem dX4_set_70 : decode cX4_set 70 = .ok (.invokestatic 84, 3) := by decide +kernel
theorem dX4_set_73 : decode cX4_set 73 = .ok (.invokevirtual 90, 3) := by decide +kernel
theorem dX4_set_76 : decode cX4_set 76 = .ok (.aload 4, 2) := by decide +kernel
theorem dX4_set_78 : decode cX4_set 78 = .ok (.iload_n 2, 1) := by decide +kernel
theorem dX4_set_79 : decode cX4_set 79 = .ok (.iload_n 3, 1) := by decide +kernel
theorem dX4_set_80 : decode cX4_set 80 = .ok (.invokevirtual 94, 3) := by decide +kernel
theorem dX4_set_83 : decode cX4_set 83 = .ok (.aload 4, 2) := by decide +kernel
theorem dX4_set_85 : decode cX4_set 85 = .ok (.invokevirtual 72, 3) := by decide +kernel
theorem dX4_set_88 : decode cX4_set 88 = .ok (.ireturn, 1) := by decide +kernel
set_option maxRecDepth 20000 in
theorem ggX4_add_X3_rowOf : GoodIn wsX4_add wsX3_rowOf := goodIn_r _ [11, 12, 83] (by decide +kernel) (by decide +kernel)
set_option maxRecDepth 20000 in
theorem gX4_add_X3_rowOf : GoodIn wsX4_add (wsV RX4 57 RX3 yX3_rowOf wsX3_rowOf) := goodIn_app (goodIn_of _ (by decide +kernel)) ggX4_add_X3_rowOf
set_option maxRecDepth 20000 in
theorem ggX4_add_X4_isNumber : GoodIn wsX4_add wsX4_isNumber := goodIn_r _ [16] (by decide +kernel) (by decide +kernel)
set_option maxRecDepth 20000 in
theorem gX4_add_X4_isNumber : GoodIn wsX4_add (va_wsS RX4 76 yX4_isNumber wsX4_isNumber) := goodIn_app (goodIn_of _ (by decide +kernel)) ggX4_add_X4_isNumber
set_option maxRecDepth 20000 in
theorem ggX4_add_X2_length : GoodIn wsX4_add wsX2_length := goodIn_r _ [21, 22, 84, 85] (by decide +kernel) (by decide +kernel)
set_option maxRecDepth 20000 in
theorem gX4_add_X2_length : GoodIn wsX4_add (wsV RX4 72 RX2 yX2_length wsX2_length) := goodIn_app (goodIn_of _ (by decide +kernel)) ggX4_add_X2_length
set_option maxRecDepth 20000 in
theorem ggX4_add_X2_clear : GoodIn wsX4_add wsX2_clear := goodIn_r _ [26, 27, 22, 28, 29, 30, 31, 84, 85] (by decide +kernel) (by decide +kernel)
set_option maxRecDepth 20000 in
theorem gX4_add_X2_clear : GoodIn wsX4_add (wsV RX4 98 RX2 yX2_clear wsX2_clear) := goodIn_app (goodIn_of _ (by decide +kernel)) ggX4_add_X2_clear
set_option maxRecDepth 20000 in
theorem ggX4_add_X2_at : GoodIn wsX4_add wsX2_at := goodIn_r _ [35, 27, 84, 85] (by decide +kernel) (by decide +kernel)
set_option maxRecDepth 20000 in
theorem gX4_add_X2_at : GoodIn wsX4_add (wsV RX4 101 RX2 yX2_at wsX2_at) := goodIn_app (goodIn_of _ (by decide +kernel)) ggX4_add_X2_at
set_option maxRecDepth 20000 in
theorem ggX4_add_X2_write : GoodIn wsX4_add wsX2_write := goodIn_r _ [39, 27, 40, 41, 42, 43, 84, 85] (by decide +kernel) (by decide +kernel)
set_option maxRecDepth 20000 in
theorem gX4_add_X2_write : GoodIn wsX4_add (wsV RX4 94 RX2 yX2_write wsX2_write) := goodIn_app (goodIn_of _ (by decide +kernel)) ggX4_add_X2_write
set_option maxRecDepth 20000 in
theorem ggX4_add_X4_change : GoodIn wsX4_add wsX4_change := goodIn_r _ [47, 48, 1, 2, 49, 50, 51, 52, 53, 54, 55, 56, 57, 58, 59, 60, 61, 62, 10, 63, 12, 64, 65, 66, 20, 67, 27, 68, 69, 70, 71, 22, 72, 73, 74, 75, 76, 77, 78, 79, 80, 81, 82, 86, 87, 83, 84, 85] (by decide +kernel) (by decide +kernel)
set_option maxRecDepth 20000 in
theorem gX4_add_X4_change : GoodIn wsX4_add (wsV RX4 65 RX4 yX4_change wsX4_change) := goodIn_app (goodIn_of _ (by decide +kernel)) ggX4_add_X4_change
theorem dX4_add_0 : decode cX4_add 0 = .ok (.aload_n 0, 1) := by decide +kernel
theorem dX4_add_1 : decode cX4_add 1 = .ok (.getfield 10, 3) := by decide +kernel
theorem dX4_add_4 : decode cX4_add 4 = .ok (.iload_n 1, 1) := by decide +kernel
theorem dX4_add_5 : decode cX4_add 5 = .ok (.invokevirtual 57, 3) := by decide +kernel
theorem dX4_add_8 : decode cX4_add 8 = .ok (.astore 5, 2) := by decide +kernel
theorem dX4_add_10 : decode cX4_add 10 = .ok (.aload_n 0, 1) := by decide +kernel
theorem dX4_add_11 : decode cX4_add 11 = .ok (.getfield 10, 3) := by decide +kernel
theorem dX4_add_14 : decode cX4_add 14 = .ok (.iload_n 2, 1) := by decide +kernel
theorem dX4_add_15 : decode cX4_add 15 = .ok (.invokevirtual 57, 3) := by decide +kernel
theorem dX4_add_18 : decode cX4_add 18 = .ok (.astore 6, 2) := by decide +kernel
theorem dX4_add_20 : decode cX4_add 20 = .ok (.aload_n 0, 1) := by decide +kernel
theorem dX4_add_21 : decode cX4_add 21 = .ok (.getfield 10, 3) := by decide +kernel
theorem dX4_add_24 : decode cX4_add 24 = .ok (.iload 4, 2) := by decide +kernel
theorem dX4_add_26 : decode cX4_add 26 = .ok (.invokevirtual 57, 3) := by decide +kernel
theorem dX4_add_29 : decode cX4_add 29 = .ok (.astore 7, 2) := by decide +kernel
theorem dX4_add_31 : decode cX4_add 31 = .ok (.aload 5, 2) := by decide +kernel
theorem dX4_add_33 : decode cX4_add 33 = .ok (.ifnull 13, 3) := by decide +kernel
theorem dX4_add_36 : decode cX4_add 36 = .ok (.aload 6, 2) := by decide +kernel
theorem dX4_add_38 : decode cX4_add 38 = .ok (.ifnull 8, 3) := by decide +kernel
theorem dX4_add_41 : decode cX4_add 41 = .ok (.aload 7, 2) := by decide +kernel
theorem dX4_add_43 : decode cX4_add 43 = .ok (.ifnonnull 5, 3) := by decide +kernel
theorem dX4_add_46 : decode cX4_add 46 = .ok (.iconst (-1), 1) := by decide +kernel
theorem dX4_add_47 : decode cX4_add 47 = .ok (.ireturn, 1) := by decide +kernel
theorem dX4_add_48 : decode cX4_add 48 = .ok (.iload_n 3, 1) := by decide +kernel
theorem dX4_add_49 : decode cX4_add 49 = .ok (.invokestatic 76, 3) := by decide +kernel
theorem dX4_add_52 : decode cX4_add 52 = .ok (.ifCond .ne 6, 3) := by decide +kernel
theorem dX4_add_55 : decode cX4_add 55 = .ok (.bipush (-2), 2) := by decide +kernel
