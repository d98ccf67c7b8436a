theorem dX5_divide_113 : decode cX5_divide 113 = .ok (.iload 5, 2) := by decide +kernel
theorem dX5_divide_115 : decode cX5_divide 115 = .ok (.iload 6, 2) := by decide +kernel
theorem dX5_divide_117 : decode cX5_divide 117 = .ok (.if_icmp .ge 7, 3) := by decide +kernel
theorem dX5_divide_120 : decode cX5_divide 120 = .ok (.iconst 1, 1) := by decide +kernel
theorem dX5_divide_121 : decode cX5_divide 121 = .ok (.goto 10, 3) := by decide +kernel
theorem dX5_divide_124 : decode cX5_divide 124 = .ok (.iload 5, 2) := by decide +kernel
theorem dX5_divide_126 : decode cX5_divide 126 = .ok (.iload 6, 2) := by decide +kernel
theorem dX5_divide_128 : decode cX5_divide 128 = .ok (.isub, 1) := by decide +kernel
theorem dX5_divide_129 : decode cX5_divide 129 = .ok (.iconst 1, 1) := by decide +kernel
theorem dX5_divide_130 : decode cX5_divide 130 = .ok (.iadd, 1) := by decide +kernel
theorem dX5_divide_131 : decode cX5_divide 131 = .ok (.invokevirtual 75, 3) := by decide +kernel
theorem dX5_divide_134 : decode cX5_divide 134 = .ok (.aload_n 0, 1) := by decide +kernel
theorem dX5_divide_135 : decode cX5_divide 135 = .ok (.iload 5, 2) := by decide +kernel
theorem dX5_divide_137 : decode cX5_divide 137 = .ok (.iload 6, 2) := by decide +kernel
theorem dX5_divide_139 : decode cX5_divide 139 = .ok (.invokevirtual 97, 3) := by decide +kernel
theorem dX5_divide_142 : decode cX5_divide 142 = .ok (.aload_n 0, 1) := by decide +kernel
theorem dX5_divide_143 : decode cX5_divide 143 = .ok (.iload_n 3, 1) := by decide +kernel
theorem dX5_divide_144 : decode cX5_divide 144 = .ok (.invokevirtual 79, 3) := by decide +kernel
theorem dX5_divide_147 : decode cX5_divide 147 = .ok (.aload_n 0, 1) := by decide +kernel
theorem dX5_divide_148 : decode cX5_divide 148 = .ok (.iload 6, 2) := by decide +kernel
theorem dX5_divide_150 : decode cX5_divide 150 = .ok (.ifCond .ne 7, 3) := by decide +kernel
theorem dX5_divide_153 : decode cX5_divide 153 = .ok (.iconst 1, 1) := by decide +kernel
theorem dX5_divide_154 : decode cX5_divide 154 = .ok (.goto 5, 3) := by decide +kernel
theorem dX5_divide_157 : decode cX5_divide 157 = .ok (.iload 6, 2) := by decide +kernel
theorem dX5_divide_159 : decode cX5_divide 159 = .ok (.invokevirtual 75, 3) := by decide +kernel
theorem dX5_divide_162 : decode cX5_divide 162 = .ok (.iconst 0, 1) := by decide +kernel
theorem dX5_divide_163 : decode cX5_divide 163 = .ok (.istore 7, 2) := by decide +kernel
theorem dX5_divide_165 : decode cX5_divide 165 = .ok (.iload 7, 2) := by decide +kernel
theorem dX5_divide_167 : decode cX5_divide 167 = .ok (.iload 6, 2) := by decide +kernel
theorem dX5_divide_169 : decode cX5_divide 169 = .ok (.if_icmp .ge 23, 3) := by decide +kernel
theorem dX5_divide_172 : decode cX5_divide 172 = .ok (.aload_n 0, 1) := by decide +kernel
theorem dX5_divide_173 : decode cX5_divide 173 = .ok (.getfield 27, 3) := by decide +kernel
theorem dX5_divide_176 : decode cX5_divide 176 = .ok (.iload 7, 2) := by decide +kernel
theorem dX5_divide_178 : decode cX5_divide 178 = .ok (.aload_n 0, 1) := by decide +kernel
theorem dX5_divide_179 : decode cX5_divide 179 = .ok (.getfield 30, 3) := by decide +kernel
theorem dX5_divide_182 : decode cX5_divide 182 = .ok (.iload 7, 2) := by decide +kernel
theorem dX5_divide_184 : decode cX5_divide 184 = .ok (.iaload, 1) := by decide +kernel
theorem dX5_divide_185 : decode cX5_divide 185 = .ok (.iastore, 1) := by decide +kernel
theorem dX5_divide_186 : decode cX5_divide 186 = .ok (.iinc 7 1, 3) := by decide +kernel
theorem dX5_divide_189 : decode cX5_divide 189 = .ok (.goto (-24), 3) := by decide +kernel
theorem dX5_divide_192 : decode cX5_divide 192 = .ok (.aload_n 0, 1) := by decide +kernel
theorem dX5_divide_193 : decode cX5_divide 193 = .ok (.iload 4, 2) := by decide +kernel
theorem dX5_divide_195 : decode cX5_divide 195 = .ok (.invokevirtual 79, 3) := by decide +kernel
theorem dX5_divide_198 : decode cX5_divide 198 = .ok (.aload_n 0, 1) := by decide +kernel
theorem dX5_divide_199 : decode cX5_divide 199 = .ok (.invokevirtual 82, 3) := by decide +kernel
theorem dX5_divide_202 : decode cX5_divide 202 = .ok (.ireturn, 1) := by decide +kernel
theorem dX5_degreeIn_0 : decode cX5_degreeIn 0 = .ok (.bipush (-6), 2) := by decide +kernel
theorem dX5_degreeIn_2 : decode cX5_degreeIn 2 = .ok (.istore_n 1, 1) := by decide +kernel
theorem dX5_degreeIn_3 : decode cX5_degreeIn 3 = .ok (.iconst 0, 1) := by decide +kernel
theorem dX5_degreeIn_4 : decode cX5_degreeIn 4 = .ok (.istore_n 2, 1) := by decide +kernel
theorem dX5_degreeIn_5 : decode cX5_degreeIn 5 = .ok (.iload_n 2, 1) := by decide +kernel
theorem dX5_degreeIn_6 : decode cX5_degreeIn 6 = .ok (.bipush 64, 2) := by decide +kernel
theorem dX5_degreeIn_8 : decode cX5_degreeIn 8 = .ok (.if_icmp .ge 21, 3) := by decide +kernel
theorem dX5_degreeIn_11 : decode cX5_degreeIn 11 = .ok (.aload_n 0, 1) := by decide +kernel
theorem dX5_degreeIn_12 : decode cX5_degreeIn 12 = .ok (.iload_n 2, 1) := by decide +kernel
theorem dX5_degreeIn_13 : decode cX5_degreeIn 13 = .ok (.iaload, 1) := by decide +kernel
theorem dX5_degreeIn_14 : decode cX5_degreeIn 14 = .ok (.ifCond .ne 7, 3) := by decide +kernel
theorem dX5_degreeIn_17 : decode cX5_degreeIn 17 = .ok (.iload_n 1, 1) := by decide +kernel
theorem dX5_degreeIn_18 : decode cX5_degreeIn 18 = .ok (.goto 4, 3) := by decide +kernel
theorem dX5_degreeIn_21 : decode cX5_degreeIn 21 = .ok (.iload_n 2, 1) := by decide +kernel
theorem dX5_degreeIn_22 : decode cX5_degreeIn 22 = .ok (.istore_n 1, 1) := by decide +kernel
theorem dX5_degreeIn_23 : decode cX5_degreeIn 23 = .ok (.iinc 2 1, 3) := by decide +kernel
theorem dX5_degreeIn_26 : decode cX5_degreeIn 26 = .ok (.goto (-21), 3) := by decide +kernel
theorem dX5_degreeIn_29 : decode cX5_degreeIn 29 = .ok (.iload_n 1, 1) := by decide +kernel
theorem dX5_degreeIn_30 : decode cX5_degreeIn 30 = .ok (.ireturn, 1) := by decide +kernel
set_option maxRecDepth 20000 in
theorem ggX5_divisor_X5_isRegister : GoodIn wsX5_divisor wsX5_isRegister := goodIn_r _ [7, 8, 9, 6, 10] (by decide +kernel) (by decide +kernel)
set_option maxRecDepth 20000 in
theorem gX5_divisor_X5_isRegister : GoodIn wsX5_divisor (va_wsS RX5 68 yX5_isRegister wsX5_isRegister) := goodIn_app (goodIn_of _ (by decide +kernel)) ggX5_divisor_X5_isRegister
set_option maxRecDepth 20000 in
theorem ggX5_divisor_X5_degreeOf : GoodIn wsX5_divisor wsX5_degreeOf := goodIn_r _ [14, 15, 16, 17, 6, 18, 19, 20, 21, 22, 23, 58, 59, 60, 61, 62, 63, 64, 65, 66, 67, 68] (by decide +kernel) (by decide +kernel)
set_option maxRecDepth 20000 in
theorem gX5_divisor_X5_degreeOf : GoodIn wsX5_divisor (wsV RX5 94 RX5 yX5_degreeOf wsX5_degreeOf) := goodIn_app (goodIn_of _ (by decide +kernel)) ggX5_divisor_X5_degreeOf
set_option maxRecDepth 20000 in
theorem ggX5_divisor_X5_record : GoodIn wsX5_divisor wsX5_record := goodIn_r _ [27, 28, 29, 19, 58, 59, 60, 61, 62, 63, 64, 65, 66, 67, 68] (by decide +kernel) (by decide +kernel)
set_option maxRecDepth 20000 in
theorem gX5_divisor_X5_record : GoodIn wsX5_divisor (wsV RX5 52 RX5 yX5_record wsX5_record) := goodIn_app (goodIn_of _ (by decide +kernel)) ggX5_divisor_X5_record
set_option maxRecDepth 20000 in
theorem ggX5_divisor_X5_at : GoodIn wsX5_divisor wsX5_at := goodIn_r _ [23, 19, 15, 16, 17, 6, 18, 58, 59, 60, 61, 62, 63, 64, 65, 66, 67, 68] (by decide +kernel) (by decide +kernel)
set_option maxRecDepth 20000 in
theorem gX5_divisor_X5_at : GoodIn wsX5_divisor (wsV RX5 65 RX5 yX5_at wsX5_at) := goodIn_app (goodIn_of _ (by decide +kernel)) ggX5_divisor_X5_at
set_option maxRecDepth 20000 in
theorem ggX5_divisor_X5_degreeIn : GoodIn wsX5_divisor wsX5_degreeIn := goodIn_r _ [32] (by decide +kernel) (by decide +kernel)
set_option maxRecDepth 20000 in
theorem gX5_divisor_X5_degreeIn : GoodIn wsX5_divisor (va_wsS RX5 101 yX5_degreeIn wsX5_degreeIn) := goodIn_app (goodIn_of _ (by decide +kernel)) ggX5_divisor_X5_degreeIn
set_option maxRecDepth 20000 in
theorem ggX5_divisor_X5_blank : GoodIn wsX5_divisor wsX5_blank := goodIn_r _ [36, 37, 3, 58, 59, 60, 61, 62, 63, 64, 65, 66, 67, 68] (by decide +kernel) (by decide +kernel)
set_option maxRecDepth 20000 in
theorem gX5_divisor_X5_blank : GoodIn wsX5_divisor (wsV RX5 75 RX5 yX5_blank wsX5_blank) := goodIn_app (goodIn_of _ (by decide +kernel)) ggX5_divisor_X5_blank
set_option maxRecDepth 20000 in
theorem ggX5_divisor_X5_divideRows : GoodIn wsX5_divisor wsX5_divideRows := goodIn_r _ [41, 2, 1, 3, 42, 43, 6, 44, 45, 46, 47, 48, 49, 50, 51, 52, 53, 58, 59, 60, 61, 62, 63, 64, 65, 66, 67, 68] (by decide +kernel) (by decide +kernel)
set_option maxRecDepth 20000 in
theorem gX5_divisor_X5_divideRows : GoodIn wsX5_divisor (wsV RX5 97 RX5 yX5_divideRows wsX5_divideRows) := goodIn_app (goodIn_of _ (by decide +kernel)) ggX5_divisor_X5_divideRows
set_option maxRecDepth 20000 in
theorem ggX5_divisor_X5_over : GoodIn wsX5_divisor wsX5_over := goodIn_r _ [44, 45, 46, 6, 47, 48, 49, 50] (by decide +kernel) (by decide +kernel)
set_option maxRecDepth 20000 in
theorem gX5_divisor_X5_over : GoodIn wsX5_divisor (va_wsS RX5 88 yX5_over wsX5_over) := goodIn_app (goodIn_of _ (by decide +kernel)) ggX5_divisor_X5_over
set_option maxRecDepth 20000 in
theorem ggX5_divisor_X5_times : GoodIn wsX5_divisor wsX5_times := goodIn_r _ [50] (by decide +kernel) (by decide +kernel)
set_option maxRecDepth 20000 in
theorem gX5_divisor_X5_times : GoodIn wsX5_divisor (va_wsS RX5 55 yX5_times wsX5_times) := goodIn_app (goodIn_of _ (by decide +kernel)) ggX5_divisor_X5_times
set_option maxRecDepth 20000 in
theorem ggX5_divisor_X5_store : GoodIn wsX5_divisor wsX5_store := goodIn_r _ [57, 19, 37, 3, 58, 59, 60, 61, 62, 63, 64, 65, 66, 67, 68] (by decide +kernel) (by decide +kernel)
set_option maxRecDepth 20000 in
theorem gX5_divisor_X5_store : GoodIn wsX5_divisor (wsV RX5 79 RX5 yX5_store wsX5_store) := goodIn_app (goodIn_of _ (by decide +kernel)) ggX5_divisor_X5_store
theorem dX5_divisor_0 : decode cX5_divisor 0 = .ok (.iload_n 1, 1) := by decide +kernel
theorem dX5_divisor_1 : decode cX5_divisor 1 = .ok (.invokestatic 68, 3) := by decide +kernel
theorem dX5_divisor_4 : decode cX5_divisor 4 = .ok (.ifCond .eq 17, 3) := by decide +kernel
theorem dX5_divisor_7 : decode cX5_divisor 7 = .ok (.iload_n 2, 1) := by decide +kernel
theorem dX5_divisor_8 : decode cX5_divisor 8 = .ok (.invokestatic 68, 3) := by decide +kernel
theorem dX5_divisor_11 : decode cX5_divisor 11 = .ok (.ifCond .eq 10, 3) := by decide +kernel
theorem dX5_divisor_14 : decode cX5_divisor 14 = .ok (.iload_n 3, 1) := by decide +kernel
theorem dX5_divisor_15 : decode cX5_divisor 15 = .ok (.invokestatic 68, 3) := by decide +kernel
theorem dX5_divisor_18 : decode cX5_divisor 18 = .ok (.ifCond .ne 5, 3) := by decide +kernel
theorem dX5_divisor_21 : decode cX5_divisor 21 = .ok (.iconst (-1), 1) := by decide +kernel
theorem dX5_divisor_22 : decode cX5_divisor 22 = .ok (.ireturn, 1) := by decide +kernel
theorem dX5_divisor_23 : decode cX5_divisor 23 = .ok (.aload_n 0, 1) := by decide +kernel
theorem dX5_divisor_24 : decode cX5_divisor 24 = .ok (.iload_n 1, 1) := by decide +kernel
theorem dX5_divisor_25 : decode cX5_divisor 25 = .ok (.invokevirtual 94, 3) := by decide +kernel
theorem dX5_divisor_28 : decode cX5_divisor 28 = .ok (.bipush (-6), 2) := by decide +kernel
theorem dX5_divisor_30 : decode cX5_divisor 30 = .ok (.if_icmp .ne 16, 3) := by decide +kernel
theorem dX5_divisor_33 : decode cX5_divisor 33 = .ok (.aload_n 0, 1) := by decide +kernel
theorem dX5_divisor_34 : decode cX5_divisor 34 = .ok (.iload_n 2, 1) := by decide +kernel
theorem dX5_divisor_35 : decode cX5_divisor 35 = .ok (.invokevirtual 94, 3) := by decide +kernel
theorem dX5_divisor_38 : decode cX5_divisor 38 = .ok (.bipush (-6), 2) := by decide +kernel
theorem dX5_divisor_40 : decode cX5_divisor 40 = .ok (.if_icmp .ne 6, 3) := by decide +kernel
theorem dX5_divisor_43 : decode cX5_divisor 43 = .ok (.bipush (-5), 2) := by decide +kernel
theorem dX5_divisor_45 : decode cX5_divisor 45 = .ok (.ireturn, 1) := by decide +kernel
theorem dX5_divisor_46 : decode cX5_divisor 46 = .ok (.aload_n 0, 1) := by decide +kernel
theorem dX5_divisor_47 : decode cX5_divisor 47 = .ok (.invokevirtual 52, 3) := by decide +kernel
theorem dX5_divisor_50 : decode cX5_divisor 50 = .ok (.iconst 0, 1) := by decide +kernel
theorem dX5_divisor_51 : decode cX5_divisor 51 = .ok (.istore 4, 2) := by decide +kernel
theorem dX5_divisor_53 : decode cX5_divisor 53 = .ok (.iload 4, 2) := by decide +kernel
theorem dX5_divisor_55 : decode cX5_divisor 55 = .ok (.bipush 64, 2) := by decide +kernel
theorem dX5_divisor_57 : decode cX5_divisor 57 = .ok (.if_icmp .ge 37, 3) := by decide +kernel
theorem dX5_divisor_60 : decode cX5_divisor 60 = .ok (.aload_n 0, 1) := by decide +kernel
theorem dX5_divisor_61 : decode cX5_divisor 61 = .ok (.getfield 30, 3) := by decide +kernel
theorem dX5_divisor_64 : decode cX5_divisor 64 = .ok (.iload 4, 2) := by decide +kernel
theorem dX5_divisor_66 : decode cX5_divisor 66 = .ok (.aload_n 0, 1) := by decide +kernel
theorem dX5_divisor_67 : decode cX5_divisor 67 = .ok (.iload_n 1, 1) := by decide +kernel
theorem dX5_divisor_68 : decode cX5_divisor 68 = .ok (.iload 4, 2) := by decide +kernel
theorem dX5_divisor_70 : decode cX5_divisor 70 = .ok (.invokevirtual 65, 3) := by decide +kernel
theorem dX5_divisor_73 : decode cX5_divisor 73 = .ok (.iastore, 1) := by decide +kernel
theorem dX5_divisor_74 : decode cX5_divisor 74 = .ok (.aload_n 0, 1) := by decide +kernel
theorem dX5_divisor_75 : decode cX5_divisor 75 = .ok (.getfield 33, 3) := by decide +kernel
theorem dX5_divisor_78 : decode cX5_divisor 78 = .ok (.iload 4, 2) := by decide +kernel
theorem dX5_divisor_80 : decode cX5_divisor 80 = .ok (.aload_n 0, 1) := by decide +kernel
theorem dX5_divisor_81 : decode cX5_divisor 81 = .ok (.iload_n 2, 1) := by decide +kernel
theorem dX5_divisor_82 : decode cX5_divisor 82 = .ok (.iload 4, 2) := by decide +kernel
theorem dX5_divisor_84 : decode cX5_divisor 84 = .ok (.invokevirtual 65, 3) := by decide +kernel
theorem dX5_divisor_87 : decode cX5_divisor 87 = .ok (.iastore, 1) := by decide +kernel
theorem dX5_divisor_88 : decode cX5_divisor 88 = .ok (.iinc 4 1, 3) := by decide +kernel
theorem dX5_divisor_91 : decode cX5_divisor 91 = .ok (.goto (-38), 3) := by decide +kernel
theorem dX5_divisor_94 : decode cX5_divisor 94 = .ok (.aload_n 0, 1) := by decide +kernel
theorem dX5_divisor_95 : decode cX5_divisor 95 = .ok (.getfield 33, 3) := by decide +kernel
theorem dX5_divisor_98 : decode cX5_divisor 98 = .ok (.invokestatic 101, 3) := by decide +kernel
theorem dX5_divisor_101 : decode cX5_divisor 101 = .ok (.bipush (-6), 2) := by decide +kernel
theorem dX5_divisor_103 : decode cX5_divisor 103 = .ok (.if_icmp .eq 78, 3) := by decide +kernel
theorem dX5_divisor_106 : decode cX5_divisor 106 = .ok (.aload_n 0, 1) := by decide +kernel
theorem dX5_divisor_107 : decode cX5_divisor 107 = .ok (.bipush 64, 2) := by decide +kernel
theorem dX5_divisor_109 : decode cX5_divisor 109 = .ok (.invokevirtual 75, 3) := by decide +kernel
theorem dX5_divisor_112 : decode cX5_divisor 112 = .ok (.aload_n 0, 1) := by decide +kernel
theorem dX5_divisor_113 : decode cX5_divisor 113 = .ok (.aload_n 0, 1) := by decide +kernel
theorem dX5_divisor_114 : decode cX5_divisor 114 = .ok (.getfield 30, 3) := by decide +kernel
theorem dX5_divisor_117 : decode cX5_divisor 117 = .ok (.invokestatic 101, 3) := by decide +kernel
theorem dX5_divisor_120 : decode cX5_divisor 120 = .ok (.aload_n 0, 1) := by decide +kernel
theorem dX5_divisor_121 : decode cX5_divisor 121 = .ok (.getfield 33, 3) := by decide +kernel
theorem dX5_divisor_124 : decode cX5_divisor 124 = .ok (.invokestatic 101, 3) := by decide +kernel
theorem dX5_divisor_127 : decode cX5_divisor 127 = .ok (.invokevirtual 97, 3) := by decide +kernel
theorem dX5_divisor_130 : decode cX5_divisor 130 = .ok (.iconst 0, 1) := by decide +kernel
theorem dX5_divisor_131 : decode cX5_divisor 131 = .ok (.istore 4, 2) := by decide +kernel
theorem dX5_divisor_133 : decode cX5_divisor 133 = .ok (.iload 4, 2) := by decide +kernel
theorem dX5_divisor_135 : decode cX5_divisor 135 = .ok (.bipush 64, 2) := by decide +kernel
theorem dX5_divisor_137 : decode cX5_divisor 137 = .ok (.if_icmp .ge 41, 3) := by decide +kernel
theorem dX5_divisor_140 : decode cX5_divisor 140 = .ok (.aload_n 0, 1) := by decide +kernel
theorem dX5_divisor_141 : decode cX5_divisor 141 = .ok (.getfield 30, 3) := by decide +kernel
theorem dX5_divisor_144 : decode cX5_divisor 144 = .ok (.iload 4, 2) := by decide +kernel
theorem dX5_divisor_146 : decode cX5_divisor 146 = .ok (.iaload, 1) := by decide +kernel
theorem dX5_divisor_147 : decode cX5_divisor 147 = .ok (.istore 5, 2) := by decide +kernel
theorem dX5_divisor_149 : decode cX5_divisor 149 = .ok (.aload_n 0, 1) := by decide +kernel
theorem dX5_divisor_150 : decode cX5_divisor 150 = .ok (.getfield 30, 3) := by decide +kernel
theorem dX5_divisor_153 : decode cX5_divisor 153 = .ok (.iload 4, 2) := by decide +kernel
theorem dX5_divisor_155 : decode cX5_divisor 155 = .ok (.aload_n 0, 1) := by decide +kernel
theorem dX5_divisor_156 : decode cX5_divisor 156 = .ok (.getfield 33, 3) := by decide +kernel
theorem dX5_divisor_159 : decode cX5_divisor 159 = .ok (.iload 4, 2) := by decide +kernel
theorem dX5_divisor_161 : decode cX5_divisor 161 = .ok (.iaload, 1) := by decide +kernel
theorem dX5_divisor_162 : decode cX5_divisor 162 = .ok (.iastore, 1) := by decide +kernel
theorem dX5_divisor_163 : decode cX5_divisor 163 = .ok (.aload_n 0, 1) := by decide +kernel
theorem dX5_divisor_164 : decode cX5_divisor 164 = .ok (.getfield 33, 3) := by decide +kernel
theorem dX5_divisor_167 : decode cX5_divisor 167 = .ok (.iload 4, 2) := by decide +kernel
theorem dX5_divisor_169 : decode cX5_divisor 169 = .ok (.iload 5, 2) := by decide +kernel
theorem dX5_divisor_171 : decode cX5_divisor 171 = .ok (.iastore, 1) := by decide +kernel
theorem dX5_divisor_172 : decode cX5_divisor 172 = .ok (.iinc 4 1, 3) := by decide +kernel
theorem dX5_divisor_175 : decode cX5_divisor 175 = .ok (.goto (-42), 3) := by decide +kernel
theorem dX5_divisor_178 : decode cX5_divisor 178 = .ok (.goto (-84), 3) := by decide +kernel
theorem dX5_divisor_181 : decode cX5_divisor 181 = .ok (.aload_n 0, 1) := by decide +kernel
theorem dX5_divisor_182 : decode cX5_divisor 182 = .ok (.getfield 30, 3) := by decide +kernel
theorem dX5_divisor_185 : decode cX5_divisor 185 = .ok (.invokestatic 101, 3) := by decide +kernel
theorem dX5_divisor_188 : decode cX5_divisor 188 = .ok (.istore 4, 2) := by decide +kernel
theorem dX5_divisor_190 : decode cX5_divisor 190 = .ok (.aload_n 0, 1) := by decide +kernel
theorem dX5_divisor_191 : decode cX5_divisor 191 = .ok (.iload 4, 2) := by decide +kernel
theorem dX5_divisor_193 : decode cX5_divisor 193 = .ok (.iconst 1, 1) := by decide +kernel
theorem dX5_divisor_194 : decode cX5_divisor 194 = .ok (.iadd, 1) := by decide +kernel
theorem dX5_divisor_195 : decode cX5_divisor 195 = .ok (.invokevirtual 75, 3) := by decide +kernel
theorem dX5_divisor_198 : decode cX5_divisor 198 = .ok (.iconst 0, 1) := by decide +kernel
theorem dX5_divisor_199 : decode cX5_divisor 199 = .ok (.istore 5, 2) := by decide +kernel
theorem dX5_divisor_201 : decode cX5_divisor 201 = .ok (.iload 5, 2) := by decide +kernel
theorem dX5_divisor_203 : decode cX5_divisor 203 = .ok (.iload 4, 2) := by decide +kernel
theorem dX5_divisor_205 : decode cX5_divisor 205 = .ok (.if_icmp .gt 36, 3) := by decide +kernel
theorem dX5_divisor_208 : decode cX5_divisor 208 = .ok (.aload_n 0, 1) := by decide +kernel
theorem dX5_divisor_209 : decode cX5_divisor 209 = .ok (.getfield 27, 3) := by decide +kernel
theorem dX5_divisor_212 : decode cX5_divisor 212 = .ok (.iload 5, 2) := by decide +kernel
theorem dX5_divisor_214 : decode cX5_divisor 214 = .ok (.aload_n 0, 1) := by decide +kernel
theorem dX5_divisor_215 : decode cX5_divisor 215 = .ok (.getfield 30, 3) := by decide +kernel
theorem dX5_divisor_218 : decode cX5_divisor 218 = .ok (.iload 5, 2) := by decide +kernel
theorem dX5_divisor_220 : decode cX5_divisor 220 = .ok (.iaload, 1) := by decide +kernel
theorem dX5_divisor_221 : decode cX5_divisor 221 = .ok (.aload_n 0, 1) := by decide +kernel
theorem dX5_divisor_222 : decode cX5_divisor 222 = .ok (.getfield 30, 3) := by decide +kernel
theorem dX5_divisor_225 : decode cX5_divisor 225 = .ok (.iload 4, 2) := by decide +kernel
theorem dX5_divisor_227 : decode cX5_divisor 227 = .ok (.iaload, 1) := by decide +kernel
theorem dX5_divisor_228 : decode cX5_divisor 228 = .ok (.invokestatic 88, 3) := by decide +kernel
theorem dX5_divisor_231 : decode cX5_divisor 231 = .ok (.invokestatic 55, 3) := by decide +kernel
theorem dX5_divisor_234 : decode cX5_divisor 234 = .ok (.iastore, 1) := by decide +kernel
theorem dX5_divisor_235 : decode cX5_divisor 235 = .ok (.iinc 5 1, 3) := by decide +kernel
theorem dX5_divisor_238 : decode cX5_divisor 238 = .ok (.goto (-37), 3) := by decide +kernel
theorem dX5_divisor_241 : decode cX5_divisor 241 = .ok (.aload_n 0, 1) := by decide +kernel
theorem dX5_divisor_242 : decode cX5_divisor 242 = .ok (.iload_n 3, 1) := by decide +kernel
theorem dX5_divisor_243 : decode cX5_divisor 243 = .ok (.invokevirtual 79, 3) := by decide +kernel
theorem dX5_divisor_246 : decode cX5_divisor 246 = .ok (.iload 4, 2) := by decide +kernel
theorem dX5_divisor_248 : decode cX5_divisor 248 = .ok (.ireturn, 1) := by decide +kernel
theorem dX5_isSize_0 : decode cX5_isSize 0 = .ok (.iload_n 0, 1) := by decide +kernel
theorem dX5_isSize_1 : decode cX5_isSize 1 = .ok (.iconst 1, 1) := by decide +kernel
theorem dX5_isSize_2 : decode cX5_isSize 2 = .ok (.if_icmp .eq 37, 3) := by decide +kernel
theorem dX5_isSize_5 : decode cX5_isSize 5 = .ok (.iload_n 0, 1) := by decide +kernel
theorem dX5_isSize_6 : decode cX5_isSize 6 = .ok (.iconst 2, 1) := by decide +kernel
theorem dX5_isSize_7 : decode cX5_isSize 7 = .ok (.if_icmp .eq 32, 3) := by decide +kernel
theorem dX5_isSize_10 : decode cX5_isSize 10 = .ok (.iload_n 0, 1) := by decide +kernel
theorem dX5_isSize_11 : decode cX5_isSize 11 = .ok (.iconst 4, 1) := by decide +kernel
theorem dX5_isSize_12 : decode cX5_isSize 12 = .ok (.if_icmp .eq 27, 3) := by decide +kernel
theorem dX5_isSize_15 : decode cX5_isSize 15 = .ok (.iload_n 0, 1) := by decide +kernel
theorem dX5_isSize_16 : decode cX5_isSize 16 = .ok (.bipush 8, 2) := by decide +kernel
theorem dX5_isSize_18 : decode cX5_isSize 18 = .ok (.if_icmp .eq 21, 3) := by decide +kernel
theorem dX5_isSize_21 : decode cX5_isSize 21 = .ok (.iload_n 0, 1) := by decide +kernel
theorem dX5_isSize_22 : decode cX5_isSize 22 = .ok (.bipush 16, 2) := by decide +kernel
theorem dX5_isSize_24 : decode cX5_isSize 24 = .ok (.if_icmp .eq 15, 3) := by decide +kernel
theorem dX5_isSize_27 : decode cX5_isSize 27 = .ok (.iload_n 0, 1) := by decide +kernel
theorem dX5_isSize_28 : decode cX5_isSize 28 = .ok (.bipush 32, 2) := by decide +kernel
theorem dX5_isSize_30 : decode cX5_isSize 30 = .ok (.if_icmp .eq 9, 3) := by decide +kernel
theorem dX5_isSize_33 : decode cX5_isSize 33 = .ok (.iload_n 0, 1) := by decide +kernel
theorem dX5_isSize_34 : decode cX5_isSize 34 = .ok (.bipush 64, 2) := by decide +kernel
theorem dX5_isSize_36 : decode cX5_isSize 36 = .ok (.if_icmp .ne 7, 3) := by decide +kernel
theorem dX5_isSize_39 : decode cX5_isSize 39 = .ok (.iconst 1, 1) := by decide +kernel
theorem dX5_isSize_40 : decode cX5_isSize 40 = .ok (.goto 4, 3) := by decide +kernel
theorem dX5_isSize_43 : decode cX5_isSize 43 = .ok (.iconst 0, 1) := by decide +kernel
theorem dX5_isSize_44 : decode cX5_isSize 44 = .ok (.ireturn, 1) := by decide +kernel
set_option maxRecDepth 20000 in
theorem ggX5_pointOf_X5_raised : GoodIn wsX5_pointOf wsX5_raised := goodIn_r _ [4, 5, 6, 3, 7] (by decide +kernel) (by decide +kernel)
set_option maxRecDepth 20000 in
theorem gX5_pointOf_X5_raised : GoodIn wsX5_pointOf (va_wsS RX5 59 yX5_raised wsX5_raised) := goodIn_app (goodIn_of _ (by decide +kernel)) ggX5_pointOf_X5_raised
theorem dX5_pointOf_0 : decode cX5_pointOf 0 = .ok (.iconst 3, 1) := by decide +kernel
theorem dX5_pointOf_1 : decode cX5_pointOf 1 = .ok (.sipush 256, 3) := by decide +kernel
theorem dX5_pointOf_4 : decode cX5_pointOf 4 = .ok (.iload_n 0, 1) := by decide +kernel
theorem dX5_pointOf_5 : decode cX5_pointOf 5 = .ok (.idiv, 1) := by decide +kernel
theorem dX5_pointOf_6 : decode cX5_pointOf 6 = .ok (.invokestatic 59, 3) := by decide +kernel
theorem dX5_pointOf_9 : decode cX5_pointOf 9 = .ok (.ireturn, 1) := by decide +kernel
set_option maxRecDepth 20000 in
theorem ggX5_valueAt_X5_lengthOf : GoodIn wsX5_valueAt wsX5_lengthOf := goodIn_r _ [5, 6, 11, 12, 13, 14, 15, 16, 17, 18, 19, 20, 21] (by decide +kernel) (by decide +kernel)
set_option maxRecDepth 20000 in
theorem gX5_valueAt_X5_lengthOf : GoodIn wsX5_valueAt (wsV RX5 40 RX5 yX5_lengthOf wsX5_lengthOf) := goodIn_app (goodIn_of _ (by decide +kernel)) ggX5_valueAt_X5_lengthOf
set_option maxRecDepth 20000 in
theorem ggX5_valueAt_X5_at : GoodIn wsX5_valueAt wsX5_at := goodIn_r _ [10, 6, 1, 2, 3, 4, 5, 11, 12, 13, 14, 15, 16, 17, 18, 19, 20, 21] (by decide +kernel) (by decide +kernel)
set_option maxRecDepth 20000 in
theorem gX5_valueAt_X5_at : GoodIn wsX5_valueAt (wsV RX5 65 RX5 yX5_at wsX5_at) := goodIn_app (goodIn_of _ (by decide +kernel)) ggX5_valueAt_X5_at
theorem dX5_valueAt_0 : decode cX5_valueAt 0 = .ok (.iconst 0, 1) := by decide +kernel
theorem dX5_valueAt_1 : decode cX5_valueAt 1 = .ok (.istore_n 3, 1) := by decide +kernel
theorem dX5_valueAt_2 : decode cX5_valueAt 2 = .ok (.aload_n 0, 1) := by decide +kernel
theorem dX5_valueAt_3 : decode cX5_valueAt 3 = .ok (.iload_n 1, 1) := by decide +kernel
theorem dX5_valueAt_4 : decode cX5_valueAt 4 = .ok (.invokevirtual 40, 3) := by decide +kernel
theorem dX5_valueAt_7 : decode cX5_valueAt 7 = .ok (.iconst 1, 1) := by decide +kernel
theorem dX5_valueAt_8 : decode cX5_valueAt 8 = .ok (.isub, 1) := by decide +kernel
theorem dX5_valueAt_9 : decode cX5_valueAt 9 = .ok (.istore 4, 2) := by decide +kernel
theorem dX5_valueAt_11 : decode cX5_valueAt 11 = .ok (.iload 4, 2) := by decide +kernel
theorem dX5_valueAt_13 : decode cX5_valueAt 13 = .ok (.ifCond .lt 25, 3) := by decide +kernel
theorem dX5_valueAt_16 : decode cX5_valueAt 16 = .ok (.iload_n 3, 1) := by decide +kernel
theorem dX5_valueAt_17 : decode cX5_valueAt 17 = .ok (.iload_n 2, 1) := by decide +kernel
theorem dX5_valueAt_18 : decode cX5_valueAt 18 = .ok (.imul, 1) := by decide +kernel
theorem dX5_valueAt_19 : decode cX5_valueAt 19 = .ok (.aload_n 0, 1) := by decide +kernel
theorem dX5_valueAt_20 : decode cX5_valueAt 20 = .ok (.iload_n 1, 1) := by decide +kernel
theorem dX5_valueAt_21 : decode cX5_valueAt 21 = .ok (.iload 4, 2) := by decide +kernel
theorem dX5_valueAt_23 : decode cX5_valueAt 23 = .ok (.invokevirtual 65, 3) := by decide +kernel
theorem dX5_valueAt_26 : decode cX5_valueAt 26 = .ok (.iadd, 1) := by decide +kernel
theorem dX5_valueAt_27 : decode cX5_valueAt 27 = .ok (.sipush 257, 3) := by decide +kernel
theorem dX5_valueAt_30 : decode cX5_valueAt 30 = .ok (.irem, 1) := by decide +kernel
theorem dX5_valueAt_31 : decode cX5_valueAt 31 = .ok (.istore_n 3, 1) := by decide +kernel
theorem dX5_valueAt_32 : decode cX5_valueAt 32 = .ok (.iinc 4 (-1), 3) := by decide +kernel
theorem dX5_valueAt_35 : decode cX5_valueAt 35 = .ok (.goto (-24), 3) := by decide +kernel
theorem dX5_valueAt_38 : decode cX5_valueAt 38 = .ok (.iload_n 3, 1) := by decide +kernel
theorem dX5_valueAt_39 : decode cX5_valueAt 39 = .ok (.ireturn, 1) := by decide +kernel
set_option maxRecDepth 20000 in
theorem ggX5_turn_X5_isRegister : GoodIn wsX5_turn wsX5_isRegister := goodIn_r _ [5, 6, 7, 4, 8] (by decide +kernel) (by decide +kernel)
set_option maxRecDepth 20000 in
theorem gX5_turn_X5_isRegister : GoodIn wsX5_turn (va_wsS RX5 68 yX5_isRegister wsX5_isRegister) := goodIn_app (goodIn_of _ (by decide +kernel)) ggX5_turn_X5_isRegister
set_option maxRecDepth 20000 in
theorem ggX5_turn_X5_isSize : GoodIn wsX5_turn wsX5_isSize := goodIn_r _ [11] (by decide +kernel) (by decide +kernel)
set_option maxRecDepth 20000 in
theorem gX5_turn_X5_isSize : GoodIn wsX5_turn (va_wsS RX5 105 yX5_isSize wsX5_isSize) := goodIn_app (goodIn_of _ (by decide +kernel)) ggX5_turn_X5_isSize
set_option maxRecDepth 20000 in
theorem ggX5_turn_X5_lengthOf : GoodIn wsX5_turn wsX5_lengthOf := goodIn_r _ [15, 16, 49, 50, 51, 52, 53, 54, 55, 56, 57, 58, 59] (by decide +kernel) (by decide +kernel)
set_option maxRecDepth 20000 in
theorem gX5_turn_X5_lengthOf : GoodIn wsX5_turn (wsV RX5 40 RX5 yX5_lengthOf wsX5_lengthOf) := goodIn_app (goodIn_of _ (by decide +kernel)) ggX5_turn_X5_lengthOf
set_option maxRecDepth 20000 in
theorem ggX5_turn_X5_record : GoodIn wsX5_turn wsX5_record := goodIn_r _ [20, 21, 22, 16, 49, 50, 51, 52, 53, 54, 55, 56, 57, 58, 59] (by decide +kernel) (by decide +kernel)
set_option maxRecDepth 20000 in
theorem gX5_turn_X5_record : GoodIn wsX5_turn (wsV RX5 52 RX5 yX5_record wsX5_record) := goodIn_app (goodIn_of _ (by decide +kernel)) ggX5_turn_X5_record
set_option maxRecDepth 20000 in
theorem ggX5_turn_X5_blank : GoodIn wsX5_turn wsX5_blank := goodIn_r _ [26, 27, 1, 49, 50, 51, 52, 53, 54, 55, 56, 57, 58, 59] (by decide +kernel) (by decide +kernel)
set_option maxRecDepth 20000 in
theorem gX5_turn_X5_blank : GoodIn wsX5_turn (wsV RX5 75 RX5 yX5_blank wsX5_blank) := goodIn_app (goodIn_of _ (by decide +kernel)) ggX5_turn_X5_blank
set_option maxRecDepth 20000 in
theorem ggX5_turn_X5_pointOf : GoodIn wsX5_turn wsX5_pointOf := goodIn_r _ [30, 31, 32, 4, 33, 34, 35, 36] (by decide +kernel) (by decide +kernel)
set_option maxRecDepth 20000 in
theorem gX5_turn_X5_pointOf : GoodIn wsX5_turn (va_wsS RX5 108 yX5_pointOf wsX5_pointOf) := goodIn_app (goodIn_of _ (by decide +kernel)) ggX5_turn_X5_pointOf
set_option maxRecDepth 20000 in
theorem ggX5_turn_X5_raised : GoodIn wsX5_turn wsX5_raised := goodIn_r _ [33, 34, 35, 4, 36] (by decide +kernel) (by decide +kernel)
set_option maxRecDepth 20000 in
theorem gX5_turn_X5_raised : GoodIn wsX5_turn (va_wsS RX5 59 yX5_raised wsX5_raised) := goodIn_app (goodIn_of _ (by decide +kernel)) ggX5_turn_X5_raised
set_option maxRecDepth 20000 in
theorem ggX5_turn_X5_valueAt : GoodIn wsX5_turn wsX5_valueAt := goodIn_r _ [40, 12, 13, 14, 4, 15, 16, 41, 42, 43, 44, 49, 50, 51, 52, 53, 54, 55, 56, 57, 58, 59] (by decide +kernel) (by decide +kernel)
set_option maxRecDepth 20000 in
theorem gX5_turn_X5_valueAt : GoodIn wsX5_turn (wsV RX5 111 RX5 yX5_valueAt wsX5_valueAt) := goodIn_app (goodIn_of _ (by decide +kernel)) ggX5_turn_X5_valueAt
set_option maxRecDepth 20000 in
theorem ggX5_turn_X5_store : GoodIn wsX5_turn wsX5_store := goodIn_r _ [48, 16, 27, 1, 49, 50, 51, 52, 53, 54, 55, 56, 57, 58, 59] (by decide +kernel) (by decide +kernel)
set_option maxRecDepth 20000 in
theorem gX5_turn_X5_store : GoodIn wsX5_turn (wsV RX5 79 RX5 yX5_store wsX5_store) := goodIn_app (goodIn_of _ (by decide +kernel)) ggX5_turn_X5_store
theorem dX5_turn_0 : decode cX5_turn 0 = .ok (.iload_n 1, 1) := by decide +kernel
theorem dX5_turn_1 : decode cX5_turn 1 = .ok (.invokestatic 68, 3) := by decide +kernel
theorem dX5_turn_4 : decode cX5_turn 4 = .ok (.ifCond .eq 10, 3) := by decide +kernel
theorem dX5_turn_7 : decode cX5_turn 7 = .ok (.iload_n 3, 1) := by decide +kernel
theorem dX5_turn_8 : decode cX5_turn 8 = .ok (.invokestatic 68, 3) := by decide +kernel
theorem dX5_turn_11 : decode cX5_turn 11 = .ok (.ifCond .ne 5, 3) := by decide +kernel
theorem dX5_turn_14 : decode cX5_turn 14 = .ok (.iconst (-1), 1) := by decide +kernel
theorem dX5_turn_15 : decode cX5_turn 15 = .ok (.ireturn, 1) := by decide +kernel
theorem dX5_turn_16 : decode cX5_turn 16 = .ok (.iload_n 2, 1) := by decide +kernel
theorem dX5_turn_17 : decode cX5_turn 17 = .ok (.invokestatic 105, 3) := by decide +kernel
theorem dX5_turn_20 : decode cX5_turn 20 = .ok (.ifCond .ne 6, 3) := by decide +kernel
theorem dX5_turn_23 : decode cX5_turn 23 = .ok (.bipush (-2), 2) := by decide +kernel
theorem dX5_turn_25 : decode cX5_turn 25 = .ok (.ireturn, 1) := by decide +kernel
theorem dX5_turn_26 : decode cX5_turn 26 = .ok (.aload_n 0, 1) := by decide +kernel
theorem dX5_turn_27 : decode cX5_turn 27 = .ok (.iload_n 1, 1) := by decide +kernel
theorem dX5_turn_28 : decode cX5_turn 28 = .ok (.invokevirtual 40, 3) := by decide +kernel
theorem dX5_turn_31 : decode cX5_turn 31 = .ok (.iload_n 2, 1) := by decide +kernel
theorem dX5_turn_32 : decode cX5_turn 32 = .ok (.if_icmp .le 6, 3) := by decide +kernel
theorem dX5_turn_35 : decode cX5_turn 35 = .ok (.bipush (-5), 2) := by decide +kernel
theorem dX5_turn_37 : decode cX5_turn 37 = .ok (.ireturn, 1) := by decide +kernel
theorem dX5_turn_38 : decode cX5_turn 38 = .ok (.aload_n 0, 1) := by decide +kernel
theorem dX5_turn_39 : decode cX5_turn 39 = .ok (.invokevirtual 52, 3) := by decide +kernel
theorem dX5_turn_42 : decode cX5_turn 42 = .ok (.aload_n 0, 1) := by decide +kernel
theorem dX5_turn_43 : decode cX5_turn 43 = .ok (.iload_n 2, 1) := by decide +kernel
theorem dX5_turn_44 : decode cX5_turn 44 = .ok (.invokevirtual 75, 3) := by decide +kernel
theorem dX5_turn_47 : decode cX5_turn 47 = .ok (.iconst 0, 1) := by decide +kernel
theorem dX5_turn_48 : decode cX5_turn 48 = .ok (.istore 4, 2) := by decide +kernel
theorem dX5_turn_50 : decode cX5_turn 50 = .ok (.iconst 0, 1) := by decide +kernel
theorem dX5_turn_51 : decode cX5_turn 51 = .ok (.istore 5, 2) := by decide +kernel
theorem dX5_turn_53 : decode cX5_turn 53 = .ok (.iload 5, 2) := by decide +kernel
theorem dX5_turn_55 : decode cX5_turn 55 = .ok (.iload_n 2, 1) := by decide +kernel
theorem dX5_turn_56 : decode cX5_turn 56 = .ok (.if_icmp .ge 50, 3) := by decide +kernel
theorem dX5_turn_59 : decode cX5_turn 59 = .ok (.aload_n 0, 1) := by decide +kernel
theorem dX5_turn_60 : decode cX5_turn 60 = .ok (.getfield 27, 3) := by decide +kernel
theorem dX5_turn_63 : decode cX5_turn 63 = .ok (.iload 5, 2) := by decide +kernel
theorem dX5_turn_65 : decode cX5_turn 65 = .ok (.aload_n 0, 1) := by decide +kernel
theorem dX5_turn_66 : decode cX5_turn 66 = .ok (.iload_n 1, 1) := by decide +kernel
theorem dX5_turn_67 : decode cX5_turn 67 = .ok (.iload_n 2, 1) := by decide +kernel
theorem dX5_turn_68 : decode cX5_turn 68 = .ok (.invokestatic 108, 3) := by decide +kernel
theorem dX5_turn_71 : decode cX5_turn 71 = .ok (.iload 5, 2) := by decide +kernel
theorem dX5_turn_73 : decode cX5_turn 73 = .ok (.invokestatic 59, 3) := by decide +kernel
theorem dX5_turn_76 : decode cX5_turn 76 = .ok (.invokevirtual 111, 3) := by decide +kernel
theorem dX5_turn_79 : decode cX5_turn 79 = .ok (.iastore, 1) := by decide +kernel
theorem dX5_turn_80 : decode cX5_turn 80 = .ok (.iload 4, 2) := by decide +kernel
theorem dX5_turn_82 : decode cX5_turn 82 = .ok (.aload_n 0, 1) := by decide +kernel
theorem dX5_turn_83 : decode cX5_turn 83 = .ok (.getfield 27, 3) := by decide +kernel
theorem dX5_turn_86 : decode cX5_turn 86 = .ok (.iload 5, 2) := by decide +kernel
theorem dX5_turn_88 : decode cX5_turn 88 = .ok (.iaload, 1) := by decide +kernel
theorem dX5_turn_89 : decode cX5_turn 89 = .ok (.ifCond .ne 7, 3) := by decide +kernel
theorem dX5_turn_92 : decode cX5_turn 92 = .ok (.iconst 1, 1) := by decide +kernel
theorem dX5_turn_93 : decode cX5_turn 93 = .ok (.goto 4, 3) := by decide +kernel
theorem dX5_turn_96 : decode cX5_turn 96 = .ok (.iconst 0, 1) := by decide +kernel
theorem dX5_turn_97 : decode cX5_turn 97 = .ok (.iadd, 1) := by decide +kernel
theorem dX5_turn_98 : decode cX5_turn 98 = .ok (.istore 4, 2) := by decide +kernel
theorem dX5_turn_100 : decode cX5_turn 100 = .ok (.iinc 5 1, 3) := by decide +kernel
theorem dX5_turn_103 : decode cX5_turn 103 = .ok (.goto (-50), 3) := by decide +kernel
theorem dX5_turn_106 : decode cX5_turn 106 = .ok (.aload_n 0, 1) := by decide +kernel
theorem dX5_turn_107 : decode cX5_turn 107 = .ok (.iload_n 3, 1) := by decide +kernel
theorem dX5_turn_108 : decode cX5_turn 108 = .ok (.invokevirtual 79, 3) := by decide +kernel
theorem dX5_turn_111 : decode cX5_turn 111 = .ok (.iload 4, 2) := by decide +kernel
theorem dX5_turn_113 : decode cX5_turn 113 = .ok (.ireturn, 1) := by decide +kernel
set_option maxRecDepth 20000 in
theorem ggX5_turnBack_X5_isRegister : GoodIn wsX5_turnBack wsX5_isRegister := goodIn_r _ [5, 6, 7, 4, 8] (by decide +kernel) (by decide +kernel)
set_option maxRecDepth 20000 in
theorem gX5_turnBack_X5_isRegister : GoodIn wsX5_turnBack (va_wsS RX5 68 yX5_isRegister wsX5_isRegister) := goodIn_app (goodIn_of _ (by decide +kernel)) ggX5_turnBack_X5_isRegister
set_option maxRecDepth 20000 in
theorem ggX5_turnBack_X5_lengthOf : GoodIn wsX5_turnBack wsX5_lengthOf := goodIn_r _ [12, 13, 56, 57, 58, 59, 60, 61, 62, 63, 64, 65, 66] (by decide +kernel) (by decide +kernel)
set_option maxRecDepth 20000 in
theorem gX5_turnBack_X5_lengthOf : GoodIn wsX5_turnBack (wsV RX5 40 RX5 yX5_lengthOf wsX5_lengthOf) := goodIn_app (goodIn_of _ (by decide +kernel)) ggX5_turnBack_X5_lengthOf
set_option maxRecDepth 20000 in
theorem ggX5_turnBack_X5_isSize : GoodIn wsX5_turnBack wsX5_isSize := goodIn_r _ [16] (by decide +kernel) (by decide +kernel)
set_option maxRecDepth 20000 in
theorem gX5_turnBack_X5_isSize : GoodIn wsX5_turnBack (va_wsS RX5 105 yX5_isSize wsX5_isSize) := goodIn_app (goodIn_of _ (by decide +kernel)) ggX5_turnBack_X5_isSize
set_option maxRecDepth 20000 in
theorem ggX5_turnBack_X5_record : GoodIn wsX5_turnBack wsX5_record := goodIn_r _ [20, 21, 22, 13, 56, 57, 58, 59, 60, 61, 62, 63, 64, 65, 66] (by decide +kernel) (by decide +kernel)
set_option maxRecDepth 20000 in
theorem gX5_turnBack_X5_record : GoodIn wsX5_turnBack (wsV RX5 52 RX5 yX5_record wsX5_record) := goodIn_app (goodIn_of _ (by decide +kernel)) ggX5_turnBack_X5_record
set_option maxRecDepth 20000 in
theorem ggX5_turnBack_X5_blank : GoodIn wsX5_turnBack wsX5_blank := goodIn_r _ [26, 27, 1, 56, 57, 58, 59, 60, 61, 62, 63, 64, 65, 66] (by decide +kernel) (by decide +kernel)
set_option maxRecDepth 20000 in
theorem gX5_turnBack_X5_blank : GoodIn wsX5_turnBack (wsV RX5 75 RX5 yX5_blank wsX5_blank) := goodIn_app (goodIn_of _ (by decide +kernel)) ggX5_turnBack_X5_blank
set_option maxRecDepth 20000 in
theorem ggX5_turnBack_X5_pointOf : GoodIn wsX5_turnBack wsX5_pointOf := goodIn_r _ [30, 31, 32, 4, 33, 34, 35, 36] (by decide +kernel) (by decide +kernel)
set_option maxRecDepth 20000 in
theorem gX5_turnBack_X5_pointOf : GoodIn wsX5_turnBack (va_wsS RX5 108 yX5_pointOf wsX5_pointOf) := goodIn_app (goodIn_of _ (by decide +kernel)) ggX5_turnBack_X5_pointOf
set_option maxRecDepth 20000 in
theorem ggX5_turnBack_X5_over : GoodIn wsX5_turnBack wsX5_over := goodIn_r _ [39, 31, 32, 4, 33, 34, 35, 36] (by decide +kernel) (by decide +kernel)
set_option maxRecDepth 20000 in
theorem gX5_turnBack_X5_over : GoodIn wsX5_turnBack (va_wsS RX5 88 yX5_over wsX5_over) := goodIn_app (goodIn_of _ (by decide +kernel)) ggX5_turnBack_X5_over
set_option maxRecDepth 20000 in
theorem ggX5_turnBack_X5_raised : GoodIn wsX5_turnBack wsX5_raised := goodIn_r _ [33, 34, 35, 4, 36] (by decide +kernel) (by decide +kernel)
set_option maxRecDepth 20000 in
theorem gX5_turnBack_X5_raised : GoodIn wsX5_turnBack (va_wsS RX5 59 yX5_raised wsX5_raised) := goodIn_app (goodIn_of _ (by decide +kernel)) ggX5_turnBack_X5_raised
set_option maxRecDepth 20000 in
theorem ggX5_turnBack_X5_valueAt : GoodIn wsX5_turnBack wsX5_valueAt := goodIn_r _ [43, 9, 10, 11, 4, 12, 13, 44, 45, 46, 47, 56, 57, 58, 59, 60, 61, 62, 63, 64, 65, 66] (by decide +kernel) (by decide +kernel)
set_option maxRecDepth 20000 in
theorem gX5_turnBack_X5_valueAt : GoodIn wsX5_turnBack (wsV RX5 111 RX5 yX5_valueAt wsX5_valueAt) := goodIn_app (goodIn_of _ (by decide +kernel)) ggX5_turnBack_X5_valueAt
set_option maxRecDepth 20000 in
theorem ggX5_turnBack_X5_times : GoodIn wsX5_turnBack wsX5_times := goodIn_r _ [36] (by decide +kernel) (by decide +kernel)
set_option maxRecDepth 20000 in
theorem gX5_turnBack_X5_times : GoodIn wsX5_turnBack (va_wsS RX5 55 yX5_times wsX5_times) := goodIn_app (goodIn_of _ (by decide +kernel)) ggX5_turnBack_X5_times
set_option maxRecDepth 20000 in
theorem ggX5_turnBack_X5_store : GoodIn wsX5_turnBack wsX5_store := goodIn_r _ [51, 13, 27, 1, 56, 57, 58, 59, 60, 61, 62, 63, 64, 65, 66] (by decide +kernel) (by decide +kernel)
set_option maxRecDepth 20000 in
theorem gX5_turnBack_X5_store : GoodIn wsX5_turnBack (wsV RX5 79 RX5 yX5_store wsX5_store) := goodIn_app (goodIn_of _ (by decide +kernel)) ggX5_turnBack_X5_store
set_option maxRecDepth 20000 in
theorem ggX5_turnBack_X5_degreeOut : GoodIn wsX5_turnBack wsX5_degreeOut := goodIn_r _ [55, 27, 1, 56, 57, 58, 59, 60, 61, 62, 63, 64, 65, 66] (by decide +kernel) (by decide +kernel)
set_option maxRecDepth 20000 in
theorem gX5_turnBack_X5_degreeOut : GoodIn wsX5_turnBack (wsV RX5 82 RX5 yX5_degreeOut wsX5_degreeOut) := goodIn_app (goodIn_of _ (by decide +kernel)) ggX5_turnBack_X5_degreeOut
theorem dX5_turnBack_0 : decode cX5_turnBack 0 = .ok (.iload_n 1, 1) := by decide +kernel
theorem dX5_turnBack_1 : decode cX5_turnBack 1 = .ok (.invokestatic 68, 3) := by decide +kernel
theorem dX5_turnBack_4 : decode cX5_turnBack 4 = .ok (.ifCond .eq 10, 3) := by decide +kernel
theorem dX5_turnBack_7 : decode cX5_turnBack 7 = .ok (.iload_n 2, 1) := by decide +kernel
theorem dX5_turnBack_8 : decode cX5_turnBack 8 = .ok (.invokestatic 68, 3) := by decide +kernel
theorem dX5_turnBack_11 : decode cX5_turnBack 11 = .ok (.ifCond .ne 5, 3) := by decide +kernel
theorem dX5_turnBack_14 : decode cX5_turnBack 14 = .ok (.iconst (-1), 1) := by decide +kernel
theorem dX5_turnBack_15 : decode cX5_turnBack 15 = .ok (.ireturn, 1) := by decide +kernel
theorem dX5_turnBack_16 : decode cX5_turnBack 16 = .ok (.aload_n 0, 1) := by decide +kernel
theorem dX5_turnBack_17 : decode cX5_turnBack 17 = .ok (.iload_n 1, 1) := by decide +kernel
theorem dX5_turnBack_18 : decode cX5_turnBack 18 = .ok (.invokevirtual 40, 3) := by decide +kernel
theorem dX5_turnBack_21 : decode cX5_turnBack 21 = .ok (.istore_n 3, 1) := by decide +kernel
theorem dX5_turnBack_22 : decode cX5_turnBack 22 = .ok (.iload_n 3, 1) := by decide +kernel
theorem dX5_turnBack_23 : decode cX5_turnBack 23 = .ok (.invokestatic 105, 3) := by decide +kernel
theorem dX5_turnBack_26 : decode cX5_turnBack 26 = .ok (.ifCond .ne 6, 3) := by decide +kernel
theorem dX5_turnBack_29 : decode cX5_turnBack 29 = .ok (.bipush (-5), 2) := by decide +kernel
theorem dX5_turnBack_31 : decode cX5_turnBack 31 = .ok (.ireturn, 1) := by decide +kernel
theorem dX5_turnBack_32 : decode cX5_turnBack 32 = .ok (.aload_n 0, 1) := by decide +kernel
theorem dX5_turnBack_33 : decode cX5_turnBack 33 = .ok (.invokevirtual 52, 3) := by decide +kernel
theorem dX5_turnBack_36 : decode cX5_turnBack 36 = .ok (.aload_n 0, 1) := by decide +kernel
theorem dX5_turnBack_37 : decode cX5_turnBack 37 = .ok (.iload_n 3, 1) := by decide +kernel
theorem dX5_turnBack_38 : decode cX5_turnBack 38 = .ok (.invokevirtual 75, 3) := by decide +kernel
theorem dX5_turnBack_41 : decode cX5_turnBack 41 = .ok (.iload_n 3, 1) := by decide +kernel
theorem dX5_turnBack_42 : decode cX5_turnBack 42 = .ok (.invokestatic 108, 3) := by decide +kernel
theorem dX5_turnBack_45 : decode cX5_turnBack 45 = .ok (.invokestatic 88, 3) := by decide +kernel
theorem dX5_turnBack_48 : decode cX5_turnBack 48 = .ok (.istore 4, 2) := by decide +kernel
theorem dX5_turnBack_50 : decode cX5_turnBack 50 = .ok (.iconst 0, 1) := by decide +kernel
theorem dX5_turnBack_51 : decode cX5_turnBack 51 = .ok (.istore 5, 2) := by decide +kernel
theorem dX5_turnBack_53 : decode cX5_turnBack 53 = .ok (.iload 5, 2) := by decide +kernel
theorem dX5_turnBack_55 : decode cX5_turnBack 55 = .ok (.iload_n 3, 1) := by decide +kernel
theorem dX5_turnBack_56 : decode cX5_turnBack 56 = .ok (.if_icmp .ge 35, 3) := by decide +kernel
theorem dX5_turnBack_59 : decode cX5_turnBack 59 = .ok (.aload_n 0, 1) := by decide +kernel
theorem dX5_turnBack_60 : decode cX5_turnBack 60 = .ok (.getfield 27, 3) := by decide +kernel
theorem dX5_turnBack_63 : decode cX5_turnBack 63 = .ok (.iload 5, 2) := by decide +kernel
theorem dX5_turnBack_65 : decode cX5_turnBack 65 = .ok (.aload_n 0, 1) := by decide +kernel
theorem dX5_turnBack_66 : decode cX5_turnBack 66 = .ok (.iload_n 1, 1) := by decide +kernel
theorem dX5_turnBack_67 : decode cX5_turnBack 67 = .ok (.iload 4, 2) := by decide +kernel
theorem dX5_turnBack_69 : decode cX5_turnBack 69 = .ok (.iload 5, 2) := by decide +kernel
theorem dX5_turnBack_71 : decode cX5_turnBack 71 = .ok (.invokestatic 59, 3) := by decide +kernel
theorem dX5_turnBack_74 : decode cX5_turnBack 74 = .ok (.invokevirtual 111, 3) := by decide +kernel
theorem dX5_turnBack_77 : decode cX5_turnBack 77 = .ok (.iload_n 3, 1) := by decide +kernel
theorem dX5_turnBack_78 : decode cX5_turnBack 78 = .ok (.invokestatic 88, 3) := by decide +kernel
theorem dX5_turnBack_81 : decode cX5_turnBack 81 = .ok (.invokestatic 55, 3) := by decide +kernel
theorem dX5_turnBack_84 : decode cX5_turnBack 84 = .ok (.iastore, 1) := by decide +kernel
theorem dX5_turnBack_85 : decode cX5_turnBack 85 = .ok (.iinc 5 1, 3) := by decide +kernel
theorem dX5_turnBack_88 : decode cX5_turnBack 88 = .ok (.goto (-35), 3) := by decide +kernel
theorem dX5_turnBack_91 : decode cX5_turnBack 91 = .ok (.aload_n 0, 1) := by decide +kernel
theorem dX5_turnBack_92 : decode cX5_turnBack 92 = .ok (.iload_n 2, 1) := by decide +kernel
theorem dX5_turnBack_93 : decode cX5_turnBack 93 = .ok (.invokevirtual 79, 3) := by decide +kernel
theorem dX5_turnBack_96 : decode cX5_turnBack 96 = .ok (.aload_n 0, 1) := by decide +kernel
theorem dX5_turnBack_97 : decode cX5_turnBack 97 = .ok (.invokevirtual 82, 3) := by decide +kernel
theorem dX5_turnBack_100 : decode cX5_turnBack 100 = .ok (.ireturn, 1) := by decide +kernel
set_option maxRecDepth 20000 in
theorem ggX5_number_X5_isRegister : GoodIn wsX5_number wsX5_isRegister := goodIn_r _ [4, 5, 6, 3, 7] (by decide +kernel) (by decide +kernel)
set_option maxRecDepth 20000 in
theorem gX5_number_X5_isRegister : GoodIn wsX5_number (va_wsS RX5 68 yX5_isRegister wsX5_isRegister) := goodIn_app (goodIn_of _ (by decide +kernel)) ggX5_number_X5_isRegister
set_option maxRecDepth 20000 in
theorem ggX5_number_X5_lengthOf : GoodIn wsX5_number wsX5_lengthOf := goodIn_r _ [11, 12, 17, 18, 19, 20, 21, 22, 23, 24, 25, 26, 27] (by decide +kernel) (by decide +kernel)
set_option maxRecDepth 20000 in
theorem gX5_number_X5_lengthOf : GoodIn wsX5_number (wsV RX5 40 RX5 yX5_lengthOf wsX5_lengthOf) := goodIn_app (goodIn_of _ (by decide +kernel)) ggX5_number_X5_lengthOf
set_option maxRecDepth 20000 in
theorem ggX5_number_X5_in : GoodIn wsX5_number wsX5_in := goodIn_r _ [7] (by decide +kernel) (by decide +kernel)
set_option maxRecDepth 20000 in
theorem gX5_number_X5_in : GoodIn wsX5_number (va_wsS RX5 36 yX5_in wsX5_in) := goodIn_app (goodIn_of _ (by decide +kernel)) ggX5_number_X5_in
set_option maxRecDepth 20000 in
theorem ggX5_number_X5_at : GoodIn wsX5_number wsX5_at := goodIn_r _ [16, 12, 8, 9, 10, 3, 11, 17, 18, 19, 20, 21, 22, 23, 24, 25, 26, 27] (by decide +kernel) (by decide +kernel)
set_option maxRecDepth 20000 in
theorem gX5_number_X5_at : GoodIn wsX5_number (wsV RX5 65 RX5 yX5_at wsX5_at) := goodIn_app (goodIn_of _ (by decide +kernel)) ggX5_number_X5_at
theorem dX5_number_0 : decode cX5_number 0 = .ok (.iload_n 1, 1) := by decide +kernel
theorem dX5_number_1 : decode cX5_number 1 = .ok (.invokestatic 68, 3) := by decide +kernel
theorem dX5_number_4 : decode cX5_number 4 = .ok (.ifCond .eq 18, 3) := by decide +kernel
theorem dX5_number_7 : decode cX5_number 7 = .ok (.iload_n 2, 1) := by decide +kernel
theorem dX5_number_8 : decode cX5_number 8 = .ok (.iconst 0, 1) := by decide +kernel
theorem dX5_number_9 : decode cX5_number 9 = .ok (.aload_n 0, 1) := by decide +kernel
theorem dX5_number_10 : decode cX5_number 10 = .ok (.iload_n 1, 1) := by decide +kernel
theorem dX5_number_11 : decode cX5_number 11 = .ok (.invokevirtual 40, 3) := by decide +kernel
theorem dX5_number_14 : decode cX5_number 14 = .ok (.iconst 1, 1) := by decide +kernel
theorem dX5_number_15 : decode cX5_number 15 = .ok (.isub, 1) := by decide +kernel
theorem dX5_number_16 : decode cX5_number 16 = .ok (.invokestatic 36, 3) := by decide +kernel
theorem dX5_number_19 : decode cX5_number 19 = .ok (.ifCond .ne 5, 3) := by decide +kernel
theorem dX5_number_22 : decode cX5_number 22 = .ok (.iconst (-1), 1) := by decide +kernel
theorem dX5_number_23 : decode cX5_number 23 = .ok (.ireturn, 1) := by decide +kernel
theorem dX5_number_24 : decode cX5_number 24 = .ok (.aload_n 0, 1) := by decide +kernel
theorem dX5_number_25 : decode cX5_number 25 = .ok (.iload_n 1, 1) := by decide +kernel
theorem dX5_number_26 : decode cX5_number 26 = .ok (.iload_n 2, 1) := by decide +kernel
theorem dX5_number_27 : decode cX5_number 27 = .ok (.invokevirtual 65, 3) := by decide +kernel
theorem dX5_number_30 : decode cX5_number 30 = .ok (.ireturn, 1) := by decide +kernel
set_option maxRecDepth 20000 in
theorem ggX5_notNought_X5_lengthOf : GoodIn wsX5_notNought wsX5_lengthOf := goodIn_r _ [5, 6, 11, 12, 13, 14, 15, 16, 17, 18, 19, 20, 21] (by decide +kernel) (by decide +kernel)
set_option maxRecDepth 20000 in
theorem gX5_notNought_X5_lengthOf : GoodIn wsX5_notNought (wsV RX5 40 RX5 yX5_lengthOf wsX5_lengthOf) := goodIn_app (goodIn_of _ (by decide +kernel)) ggX5_notNought_X5_lengthOf
set_option maxRecDepth 20000 in
theorem ggX5_notNought_X5_at : GoodIn wsX5_notNought wsX5_at := goodIn_r _ [10, 6, 1, 2, 3, 4, 5, 11, 12, 13, 14, 15, 16, 17, 18, 19, 20, 21] (by decide +kernel) (by decide +kernel)
set_option maxRecDepth 20000 in
theorem gX5_notNought_X5_at : GoodIn wsX5_notNought (wsV RX5 65 RX5 yX5_at wsX5_at) := goodIn_app (goodIn_of _ (by decide +kernel)) ggX5_notNought_X5_at
theorem dX5_notNought_0 : decode cX5_notNought 0 = .ok (.iconst 0, 1) := by decide +kernel
theorem dX5_notNought_1 : decode cX5_notNought 1 = .ok (.istore_n 2, 1) := by decide +kernel
theorem dX5_notNought_2 : decode cX5_notNought 2 = .ok (.iconst 0, 1) := by decide +kernel
theorem dX5_notNought_3 : decode cX5_notNought 3 = .ok (.istore_n 3, 1) := by decide +kernel
theorem dX5_notNought_4 : decode cX5_notNought 4 = .ok (.iload_n 3, 1) := by decide +kernel
theorem dX5_notNought_5 : decode cX5_notNought 5 = .ok (.aload_n 0, 1) := by decide +kernel
theorem dX5_notNought_6 : decode cX5_notNought 6 = .ok (.iload_n 1, 1) := by decide +kernel
theorem dX5_notNought_7 : decode cX5_notNought 7 = .ok (.invokevirtual 40, 3) := by decide +kernel
theorem dX5_notNought_10 : decode cX5_notNought 10 = .ok (.if_icmp .ge 26, 3) := by decide +kernel
theorem dX5_notNought_13 : decode cX5_notNought 13 = .ok (.iload_n 2, 1) := by decide +kernel
theorem dX5_notNought_14 : decode cX5_notNought 14 = .ok (.aload_n 0, 1) := by decide +kernel
theorem dX5_notNought_15 : decode cX5_notNought 15 = .ok (.iload_n 1, 1) := by decide +kernel
theorem dX5_notNought_16 : decode cX5_notNought 16 = .ok (.iload_n 3, 1) := by decide +kernel
theorem dX5_notNought_17 : decode cX5_notNought 17 = .ok (.invokevirtual 65, 3) := by decide +kernel
theorem dX5_notNought_20 : decode cX5_notNought 20 = .ok (.ifCond .ne 7, 3) := by decide +kernel
theorem dX5_notNought_23 : decode cX5_notNought 23 = .ok (.iconst 0, 1) := by decide +kernel
theorem dX5_notNought_24 : decode cX5_notNought 24 = .ok (.goto 4, 3) := by decide +kernel
theorem dX5_notNought_27 : decode cX5_notNought 27 = .ok (.iconst 1, 1) := by decide +kernel
theorem dX5_notNought_28 : decode cX5_notNought 28 = .ok (.iadd, 1) := by decide +kernel
theorem dX5_notNought_29 : decode cX5_notNought 29 = .ok (.istore_n 2, 1) := by decide +kernel
theorem dX5_notNought_30 : decode cX5_notNought 30 = .ok (.iinc 3 1, 3) := by decide +kernel
theorem dX5_notNought_33 : decode cX5_notNought 33 = .ok (.goto (-29), 3) := by decide +kernel
theorem dX5_notNought_36 : decode cX5_notNought 36 = .ok (.iload_n 2, 1) := by decide +kernel
theorem dX5_notNought_37 : decode cX5_notNought 37 = .ok (.ireturn, 1) := by decide +kernel
set_option maxRecDepth 20000 in
theorem ggX5_sumOf_X5_lengthOf : GoodIn wsX5_sumOf wsX5_lengthOf := goodIn_r _ [5, 6, 11, 12, 13, 14, 15, 16, 17, 18, 19, 20, 21] (by decide +kernel) (by decide +kernel)
set_option maxRecDepth 20000 in
theorem gX5_sumOf_X5_lengthOf : GoodIn wsX5_sumOf (wsV RX5 40 RX5 yX5_lengthOf wsX5_lengthOf) := goodIn_app (goodIn_of _ (by decide +kernel)) ggX5_sumOf_X5_lengthOf
set_option maxRecDepth 20000 in
theorem ggX5_sumOf_X5_at : GoodIn wsX5_sumOf wsX5_at := goodIn_r _ [10, 6, 1, 2, 3, 4, 5, 11, 12, 13, 14, 15, 16, 17, 18, 19, 20, 21] (by decide +kernel) (by decide +kernel)
set_option maxRecDepth 20000 in
theorem gX5_sumOf_X5_at : GoodIn wsX5_sumOf (wsV RX5 65 RX5 yX5_at wsX5_at) := goodIn_app (goodIn_of _ (by decide +kernel)) ggX5_sumOf_X5_at
theorem dX5_sumOf_0 : decode cX5_sumOf 0 = .ok (.iconst 0, 1) := by decide +kernel
theorem dX5_sumOf_1 : decode cX5_sumOf 1 = .ok (.istore_n 2, 1) := by decide +kernel
theorem dX5_sumOf_2 : decode cX5_sumOf 2 = .ok (.iconst 0, 1) := by decide +kernel
theorem dX5_sumOf_3 : decode cX5_sumOf 3 = .ok (.istore_n 3, 1) := by decide +kernel
theorem dX5_sumOf_4 : decode cX5_sumOf 4 = .ok (.iload_n 3, 1) := by decide +kernel
theorem dX5_sumOf_5 : decode cX5_sumOf 5 = .ok (.aload_n 0, 1) := by decide +kernel
theorem dX5_sumOf_6 : decode cX5_sumOf 6 = .ok (.iload_n 1, 1) := by decide +kernel
theorem dX5_sumOf_7 : decode cX5_sumOf 7 = .ok (.invokevirtual 40, 3) := by decide +kernel
theorem dX5_sumOf_10 : decode cX5_sumOf 10 = .ok (.if_icmp .ge 18, 3) := by decide +kernel
theorem dX5_sumOf_13 : decode cX5_sumOf 13 = .ok (.iload_n 2, 1) := by decide +kernel
theorem dX5_sumOf_14 : decode cX5_sumOf 14 = .ok (.aload_n 0, 1) := by decide +kernel
theorem dX5_sumOf_15 : decode cX5_sumOf 15 = .ok (.iload_n 1, 1) := by decide +kernel
theorem dX5_sumOf_16 : decode cX5_sumOf 16 = .ok (.iload_n 3, 1) := by decide +kernel
theorem dX5_sumOf_17 : decode cX5_sumOf 17 = .ok (.invokevirtual 65, 3) := by decide +kernel
theorem dX5_sumOf_20 : decode cX5_sumOf 20 = .ok (.iadd, 1) := by decide +kernel
theorem dX5_sumOf_21 : decode cX5_sumOf 21 = .ok (.istore_n 2, 1) := by decide +kernel
theorem dX5_sumOf_22 : decode cX5_sumOf 22 = .ok (.iinc 3 1, 3) := by decide +kernel
theorem dX5_sumOf_25 : decode cX5_sumOf 25 = .ok (.goto (-21), 3) := by decide +kernel
theorem dX5_sumOf_28 : decode cX5_sumOf 28 = .ok (.iload_n 2, 1) := by decide +kernel
theorem dX5_sumOf_29 : decode cX5_sumOf 29 = .ok (.ireturn, 1) := by decide +kernel
set_option maxRecDepth 20000 in
theorem ggX5_noughts_X5_valueAt : GoodIn wsX5_noughts wsX5_valueAt := goodIn_r _ [5, 6, 7, 8, 4, 9, 10, 11, 12, 13, 14, 15, 16, 17, 18, 19, 20, 21, 22, 23, 24, 25] (by decide +kernel) (by decide +kernel)
set_option maxRecDepth 20000 in
theorem gX5_noughts_X5_valueAt : GoodIn wsX5_noughts (wsV RX5 111 RX5 yX5_valueAt wsX5_valueAt) := goodIn_app (goodIn_of _ (by decide +kernel)) ggX5_noughts_X5_valueAt
theorem dX5_noughts_0 : decode cX5_noughts 0 = .ok (.iconst 0, 1) := by decide +kernel
theorem dX5_noughts_1 : decode cX5_noughts 1 = .ok (.istore_n 3, 1) := by decide +kernel
theorem dX5_noughts_2 : decode cX5_noughts 2 = .ok (.bipush (-6), 2) := by decide +kernel
theorem dX5_noughts_4 : decode cX5_noughts 4 = .ok (.istore 4, 2) := by decide +kernel
theorem dX5_noughts_6 : decode cX5_noughts 6 = .ok (.sipush 256, 3) := by decide +kernel
theorem dX5_noughts_9 : decode cX5_noughts 9 = .ok (.istore 5, 2) := by decide +kernel
theorem dX5_noughts_11 : decode cX5_noughts 11 = .ok (.iload 5, 2) := by decide +kernel
theorem dX5_noughts_13 : decode cX5_noughts 13 = .ok (.ifCond .lt 53, 3) := by decide +kernel
theorem dX5_noughts_16 : decode cX5_noughts 16 = .ok (.aload_n 0, 1) := by decide +kernel
theorem dX5_noughts_17 : decode cX5_noughts 17 = .ok (.iload_n 1, 1) := by decide +kernel
theorem dX5_noughts_18 : decode cX5_noughts 18 = .ok (.iload 5, 2) := by decide +kernel
theorem dX5_noughts_20 : decode cX5_noughts 20 = .ok (.invokevirtual 111, 3) := by decide +kernel
theorem dX5_noughts_23 : decode cX5_noughts 23 = .ok (.ifCond .ne 7, 3) := by decide +kernel
theorem dX5_noughts_26 : decode cX5_noughts 26 = .ok (.iconst 1, 1) := by decide +kernel
theorem dX5_noughts_27 : decode cX5_noughts 27 = .ok (.goto 4, 3) := by decide +kernel
theorem dX5_noughts_30 : decode cX5_noughts 30 = .ok (.iconst 0, 1) := by decide +kernel
theorem dX5_noughts_31 : decode cX5_noughts 31 = .ok (.istore 6, 2) := by decide +kernel
theorem dX5_noughts_33 : decode cX5_noughts 33 = .ok (.iload_n 3, 1) := by decide +kernel
theorem dX5_noughts_34 : decode cX5_noughts 34 = .ok (.iload 6, 2) := by decide +kernel
theorem dX5_noughts_36 : decode cX5_noughts 36 = .ok (.ifCond .eq 7, 3) := by decide +kernel
theorem dX5_noughts_39 : decode cX5_noughts 39 = .ok (.iconst 1, 1) := by decide +kernel
theorem dX5_noughts_40 : decode cX5_noughts 40 = .ok (.goto 4, 3) := by decide +kernel
theorem dX5_noughts_43 : decode cX5_noughts 43 = .ok (.iconst 0, 1) := by decide +kernel
theorem dX5_noughts_44 : decode cX5_noughts 44 = .ok (.iadd, 1) := by decide +kernel
theorem dX5_noughts_45 : decode cX5_noughts 45 = .ok (.istore_n 3, 1) := by decide +kernel
theorem dX5_noughts_46 : decode cX5_noughts 46 = .ok (.iload 6, 2) := by decide +kernel
theorem dX5_noughts_48 : decode cX5_noughts 48 = .ok (.ifCond .eq 8, 3) := by decide +kernel
theorem dX5_noughts_51 : decode cX5_noughts 51 = .ok (.iload 5, 2) := by decide +kernel
theorem dX5_noughts_53 : decode cX5_noughts 53 = .ok (.goto 5, 3) := by decide +kernel
theorem dX5_noughts_56 : decode cX5_noughts 56 = .ok (.iload 4, 2) := by decide +kernel
theorem dX5_noughts_58 : decode cX5_noughts 58 = .ok (.istore 4, 2) := by decide +kernel
theorem dX5_noughts_60 : decode cX5_noughts 60 = .ok (.iinc 5 (-1), 3) := by decide +kernel
theorem dX5_noughts_63 : decode cX5_noughts 63 = .ok (.goto (-52), 3) := by decide +kernel
theorem dX5_noughts_66 : decode cX5_noughts 66 = .ok (.iload_n 2, 1) := by decide +kernel
theorem dX5_noughts_67 : decode cX5_noughts 67 = .ok (.ifCond .eq 8, 3) := by decide +kernel
theorem dX5_noughts_70 : decode cX5_noughts 70 = .ok (.iload 4, 2) := by decide +kernel
theorem dX5_noughts_72 : decode cX5_noughts 72 = .ok (.goto 4, 3) := by decide +kernel
theorem dX5_noughts_75 : decode cX5_noughts 75 = .ok (.iload_n 3, 1) := by decide +kernel
theorem dX5_noughts_76 : decode cX5_noughts 76 = .ok (.ireturn, 1) := by decide +kernel
set_option maxRecDepth 20000 in
theorem ggX5_of_X5_isRegister : GoodIn wsX5_of wsX5_isRegister := goodIn_r _ [4, 5, 6, 3, 7] (by decide +kernel) (by decide +kernel)
set_option maxRecDepth 20000 in
theorem gX5_of_X5_isRegister : GoodIn wsX5_of (va_wsS RX5 68 yX5_isRegister wsX5_isRegister) := goodIn_app (goodIn_of _ (by decide +kernel)) ggX5_of_X5_isRegister
set_option maxRecDepth 20000 in
theorem ggX5_of_X5_lengthOf : GoodIn wsX5_of wsX5_lengthOf := goodIn_r _ [11, 12, 37, 38, 39, 40, 41, 42, 43, 44, 45, 46, 47] (by decide +kernel) (by decide +kernel)
set_option maxRecDepth 20000 in
theorem gX5_of_X5_lengthOf : GoodIn wsX5_of (wsV RX5 40 RX5 yX5_lengthOf wsX5_lengthOf) := goodIn_app (goodIn_of _ (by decide +kernel)) ggX5_of_X5_lengthOf
set_option maxRecDepth 20000 in
theorem ggX5_of_X5_degreeOf : GoodIn wsX5_of wsX5_degreeOf := goodIn_r _ [16, 8, 9, 10, 3, 11, 12, 17, 18, 19, 20, 37, 38, 39, 40, 41, 42, 43, 44, 45, 46, 47] (by decide +kernel) (by decide +kernel)
set_option maxRecDepth 20000 in
theorem gX5_of_X5_degreeOf : GoodIn wsX5_of (wsV RX5 94 RX5 yX5_degreeOf wsX5_degreeOf) := goodIn_app (goodIn_of _ (by decide +kernel)) ggX5_of_X5_degreeOf
set_option maxRecDepth 20000 in
theorem ggX5_of_X5_notNought : GoodIn wsX5_of wsX5_notNought := goodIn_r _ [24, 8, 9, 10, 3, 11, 12, 17, 18, 19, 20, 37, 38, 39, 40, 41, 42, 43, 44, 45, 46, 47] (by decide +kernel) (by decide +kernel)
set_option maxRecDepth 20000 in
theorem gX5_of_X5_notNought : GoodIn wsX5_of (wsV RX5 114 RX5 yX5_notNought wsX5_notNought) := goodIn_app (goodIn_of _ (by decide +kernel)) ggX5_of_X5_notNought
set_option maxRecDepth 20000 in
theorem ggX5_of_X5_sumOf : GoodIn wsX5_of wsX5_sumOf := goodIn_r _ [28, 8, 9, 10, 3, 11, 12, 17, 18, 19, 20, 37, 38, 39, 40, 41, 42, 43, 44, 45, 46, 47] (by decide +kernel) (by decide +kernel)
set_option maxRecDepth 20000 in
theorem gX5_of_X5_sumOf : GoodIn wsX5_of (wsV RX5 117 RX5 yX5_sumOf wsX5_sumOf) := goodIn_app (goodIn_of _ (by decide +kernel)) ggX5_of_X5_sumOf
set_option maxRecDepth 20000 in
theorem ggX5_of_X5_noughts : GoodIn wsX5_of wsX5_noughts := goodIn_r _ [32, 33, 34, 35, 3, 36, 8, 9, 10, 11, 12, 17, 18, 19, 20, 37, 38, 39, 40, 41, 42, 43, 44, 45, 46, 47] (by decide +kernel) (by decide +kernel)
set_option maxRecDepth 20000 in
theorem gX5_of_X5_noughts : GoodIn wsX5_of (wsV RX5 120 RX5 yX5_noughts wsX5_noughts) := goodIn_app (goodIn_of _ (by decide +kernel)) ggX5_of_X5_noughts
theorem dX5_of_0 : decode cX5_of 0 = .ok (.iload_n 1, 1) := by decide +kernel
theorem dX5_of_1 : decode cX5_of 1 = .ok (.invokestatic 68, 3) := by decide +kernel
theorem dX5_of_4 : decode cX5_of 4 = .ok (.ifCond .ne 5, 3) := by decide +kernel
theorem dX5_of_7 : decode cX5_of 7 = .ok (.iconst (-1), 1) := by decide +kernel
theorem dX5_of_8 : decode cX5_of 8 = .ok (.ireturn, 1) := by decide +kernel
theorem dX5_of_9 : decode cX5_of 9 = .ok (.iload_n 2, 1) := by decide +kernel
theorem dX5_of_10 : decode cX5_of 10 = .ok (.tableswitch 76 0 5 #[38, 44, 50, 56, 62, 69], 38) := by decide +kernel
theorem dX5_of_48 : decode cX5_of 48 = .ok (.aload_n 0, 1) := by decide +kernel
theorem dX5_of_49 : decode cX5_of 49 = .ok (.iload_n 1, 1) := by decide +kernel
theorem dX5_of_50 : decode cX5_of 50 = .ok (.invokevirtual 40, 3) := by decide +kernel
theorem dX5_of_53 : decode cX5_of 53 = .ok (.ireturn, 1) := by decide +kernel
theorem dX5_of_54 : decode cX5_of 54 = .ok (.aload_n 0, 1) := by decide +kernel
theorem dX5_of_55 : decode cX5_of 55 = .ok (.iload_n 1, 1) := by decide +kernel
theorem dX5_of_56 : decode cX5_of 56 = .ok (.invokevirtual 94, 3) := by decide +kernel
theorem dX5_of_59 : decode cX5_of 59 = .ok (.ireturn, 1) := by decide +kernel
theorem dX5_of_60 : decode cX5_of 60 = .ok (.aload_n 0, 1) := by decide +kernel
theorem dX5_of_61 : decode cX5_of 61 = .ok (.iload_n 1, 1) := by decide +kernel
theorem dX5_of_62 : decode cX5_of 62 = .ok (.invokevirtual 114, 3) := by decide +kernel
theorem dX5_of_65 : decode cX5_of 65 = .ok (.ireturn, 1) := by decide +kernel
theorem dX5_of_66 : decode cX5_of 66 = .ok (.aload_n 0, 1) := by decide +kernel
theorem dX5_of_67 : decode cX5_of 67 = .ok (.iload_n 1, 1) := by decide +kernel
theorem dX5_of_68 : decode cX5_of 68 = .ok (.invokevirtual 117, 3) := by decide +kernel
theorem dX5_of_71 : decode cX5_of 71 = .ok (.ireturn, 1) := by decide +kernel
theorem dX5_of_72 : decode cX5_of 72 = .ok (.aload_n 0, 1) := by decide +kernel
theorem dX5_of_73 : decode cX5_of 73 = .ok (.iload_n 1, 1) := by decide +kernel
theorem dX5_of_74 : decode cX5_of 74 = .ok (.iconst 0, 1) := by decide +kernel
theorem dX5_of_75 : decode cX5_of 75 = .ok (.invokevirtual 120, 3) := by decide +kernel
theorem dX5_of_78 : decode cX5_of 78 = .ok (.ireturn, 1) := by decide +kernel
theorem dX5_of_79 : decode cX5_of 79 = .ok (.aload_n 0, 1) := by decide +kernel
theorem dX5_of_80 : decode cX5_of 80 = .ok (.iload_n 1, 1) := by decide +kernel
theorem dX5_of_81 : decode cX5_of 81 = .ok (.iconst 1, 1) := by decide +kernel
theorem dX5_of_82 : decode cX5_of 82 = .ok (.invokevirtual 120, 3) := by decide +kernel
theorem dX5_of_85 : decode cX5_of 85 = .ok (.ireturn, 1) := by decide +kernel
theorem dX5_of_86 : decode cX5_of 86 = .ok (.bipush (-2), 2) := by decide +kernel
theorem dX5_of_88 : decode cX5_of 88 = .ok (.ireturn, 1) := by decide +kernel
set_option maxRecDepth 20000 in
theorem ggX5_value_X5_isRegister : GoodIn wsX5_value wsX5_isRegister := goodIn_r _ [4, 5, 6, 3, 7] (by decide +kernel) (by decide +kernel)
set_option maxRecDepth 20000 in
theorem gX5_value_X5_isRegister : GoodIn wsX5_value (va_wsS RX5 68 yX5_isRegister wsX5_isRegister) := goodIn_app (goodIn_of _ (by decide +kernel)) ggX5_value_X5_isRegister
set_option maxRecDepth 20000 in
theorem ggX5_value_X5_isNumber : GoodIn wsX5_value wsX5_isNumber := goodIn_r _ [10, 5, 6, 3, 7] (by decide +kernel) (by decide +kernel)
set_option maxRecDepth 20000 in
theorem gX5_value_X5_isNumber : GoodIn wsX5_value (va_wsS RX5 72 yX5_isNumber wsX5_isNumber) := goodIn_app (goodIn_of _ (by decide +kernel)) ggX5_value_X5_isNumber
set_option maxRecDepth 20000 in
theorem ggX5_value_X5_valueAt : GoodIn wsX5_value wsX5_valueAt := goodIn_r _ [14, 15, 16, 17, 3, 18, 19, 20, 21, 22, 23, 24, 25, 26, 27, 28, 29, 30, 31, 32, 33, 34] (by decide +kernel) (by decide +kernel)
set_option maxRecDepth 20000 in
theorem gX5_value_X5_valueAt : GoodIn wsX5_value (wsV RX5 111 RX5 yX5_valueAt wsX5_valueAt) := goodIn_app (goodIn_of _ (by decide +kernel)) ggX5_value_X5_valueAt
theorem dX5_value_0 : decode cX5_value 0 = .ok (.iload_n 1, 1) := by decide +kernel
theorem dX5_value_1 : decode cX5_value 1 = .ok (.invokestatic 68, 3) := by decide +kernel
theorem dX5_value_4 : decode cX5_value 4 = .ok (.ifCond .ne 5, 3) := by decide +kernel
theorem dX5_value_7 : decode cX5_value 7 = .ok (.iconst (-1), 1) := by decide +kernel
theorem dX5_value_8 : decode cX5_value 8 = .ok (.ireturn, 1) := by decide +kernel
theorem dX5_value_9 : decode cX5_value 9 = .ok (.iload_n 2, 1) := by decide +kernel
theorem dX5_value_10 : decode cX5_value 10 = .ok (.invokestatic 72, 3) := by decide +kernel
theorem dX5_value_13 : decode cX5_value 13 = .ok (.ifCond .eq 12, 3) := by decide +kernel
theorem dX5_value_16 : decode cX5_value 16 = .ok (.aload_n 0, 1) := by decide +kernel
theorem dX5_value_17 : decode cX5_value 17 = .ok (.iload_n 1, 1) := by decide +kernel
theorem dX5_value_18 : decode cX5_value 18 = .ok (.iload_n 2, 1) := by decide +kernel
theorem dX5_value_19 : decode cX5_value 19 = .ok (.invokevirtual 111, 3) := by decide +kernel
theorem dX5_value_22 : decode cX5_value 22 = .ok (.goto 5, 3) := by decide +kernel
theorem dX5_value_25 : decode cX5_value 25 = .ok (.bipush (-2), 2) := by decide +kernel
theorem dX5_value_27 : decode cX5_value 27 = .ok (.ireturn, 1) := by decide +kernel
set_option maxRecDepth 20000 in
theorem ggX5_turningPoint_X5_isSize : GoodIn wsX5_turningPoint wsX5_isSize := goodIn_r _ [4] (by decide +kernel) (by decide +kernel)
set_option maxRecDepth 20000 in
theorem gX5_turningPoint_X5_isSize : GoodIn wsX5_turningPoint (va_wsS RX5 105 yX5_isSize wsX5_isSize) := goodIn_app (goodIn_of _ (by decide +kernel)) ggX5_turningPoint_X5_isSize
set_option maxRecDepth 20000 in
theorem ggX5_turningPoint_X5_in : GoodIn wsX5_turningPoint wsX5_in := goodIn_r _ [7] (by decide +kernel) (by decide +kernel)
set_option maxRecDepth 20000 in
theorem gX5_turningPoint_X5_in : GoodIn wsX5_turningPoint (va_wsS RX5 36 yX5_in wsX5_in) := goodIn_app (goodIn_of _ (by decide +kernel)) ggX5_turningPoint_X5_in
set_option maxRecDepth 20000 in
theorem ggX5_turningPoint_X5_pointOf : GoodIn wsX5_turningPoint wsX5_pointOf := goodIn_r _ [10, 11, 12, 3, 13, 14, 15, 16] (by decide +kernel) (by decide +kernel)
set_option maxRecDepth 20000 in
theorem gX5_turningPoint_X5_pointOf : GoodIn wsX5_turningPoint (va_wsS RX5 108 yX5_pointOf wsX5_pointOf) := goodIn_app (goodIn_of _ (by decide +kernel)) ggX5_turningPoint_X5_pointOf
set_option maxRecDepth 20000 in
theorem ggX5_turningPoint_X5_raised : GoodIn wsX5_turningPoint wsX5_raised := goodIn_r _ [13, 14, 15, 3, 16] (by decide +kernel) (by decide +kernel)
set_option maxRecDepth 20000 in
theorem gX5_turningPoint_X5_raised : GoodIn wsX5_turningPoint (va_wsS RX5 59 yX5_raised wsX5_raised) := goodIn_app (goodIn_of _ (by decide +kernel)) ggX5_turningPoint_X5_raised
theorem dX5_turningPoint_0 : decode cX5_turningPoint 0 = .ok (.iload_n 1, 1) := by decide +kernel
theorem dX5_turningPoint_1 : decode cX5_turningPoint 1 = .ok (.invokestatic 105, 3) := by decide +kernel
theorem dX5_turningPoint_4 : decode cX5_turningPoint 4 = .ok (.ifCond .eq 25, 3) := by decide +kernel
theorem dX5_turningPoint_7 : decode cX5_turningPoint 7 = .ok (.iload_n 2, 1) := by decide +kernel
theorem dX5_turningPoint_8 : decode cX5_turningPoint 8 = .ok (.iconst 0, 1) := by decide +kernel
theorem dX5_turningPoint_9 : decode cX5_turningPoint 9 = .ok (.sipush 1000, 3) := by decide +kernel
theorem dX5_turningPoint_12 : decode cX5_turningPoint 12 = .ok (.invokestatic 36, 3) := by decide +kernel
theorem dX5_turningPoint_15 : decode cX5_turningPoint 15 = .ok (.ifCond .eq 14, 3) := by decide +kernel
theorem dX5_turningPoint_18 : decode cX5_turningPoint 18 = .ok (.iload_n 1, 1) := by decide +kernel
theorem dX5_turningPoint_19 : decode cX5_turningPoint 19 = .ok (.invokestatic 108, 3) := by decide +kernel
theorem dX5_turningPoint_22 : decode cX5_turningPoint 22 = .ok (.iload_n 2, 1) := by decide +kernel
theorem dX5_turningPoint_23 : decode cX5_turningPoint 23 = .ok (.invokestatic 59, 3) := by decide +kernel
theorem dX5_turningPoint_26 : decode cX5_turningPoint 26 = .ok (.goto 5, 3) := by decide +kernel
theorem dX5_turningPoint_29 : decode cX5_turningPoint 29 = .ok (.bipush (-2), 2) := by decide +kernel
theorem dX5_turningPoint_31 : decode cX5_turningPoint 31 = .ok (.ireturn, 1) := by decide +kernel
set_option maxRecDepth 20000 in
theorem ggX5_count_X5_lengths : GoodIn wsX5_count wsX5_lengths := goodIn_r _ [7, 8, 9, 10, 6, 11, 12, 13, 14, 15, 16, 17, 18, 19, 20, 21, 22, 23] (by decide +kernel) (by decide +kernel)
set_option maxRecDepth 20000 in
theorem gX5_count_X5_lengths : GoodIn wsX5_count (wsV RX5 48 RX5 yX5_lengths wsX5_lengths) := goodIn_app (goodIn_of _ (by decide +kernel)) ggX5_count_X5_lengths
theorem dX5_count_0 : decode cX5_count 0 = .ok (.iload_n 1, 1) := by decide +kernel
theorem dX5_count_1 : decode cX5_count 1 = .ok (.tableswitch 42 0 2 #[27, 32, 37], 27) := by decide +kernel
theorem dX5_count_28 : decode cX5_count 28 = .ok (.aload_n 0, 1) := by decide +kernel
theorem dX5_count_29 : decode cX5_count 29 = .ok (.invokevirtual 48, 3) := by decide +kernel
theorem dX5_count_32 : decode cX5_count 32 = .ok (.ireturn, 1) := by decide +kernel
theorem dX5_count_33 : decode cX5_count 33 = .ok (.aload_n 0, 1) := by decide +kernel
theorem dX5_count_34 : decode cX5_count 34 = .ok (.getfield 124, 3) := by decide +kernel
theorem dX5_count_37 : decode cX5_count 37 = .ok (.ireturn, 1) := by decide +kernel
theorem dX5_count_38 : decode cX5_count 38 = .ok (.aload_n 0, 1) := by decide +kernel
theorem dX5_count_39 : decode cX5_count 39 = .ok (.getfield 44, 3) := by decide +kernel
theorem dX5_count_42 : decode cX5_count 42 = .ok (.ireturn, 1) := by decide +kernel
theorem dX5_count_43 : decode cX5_count 43 = .ok (.bipush (-2), 2) := by decide +kernel
theorem dX5_count_45 : decode cX5_count 45 = .ok (.ireturn, 1) := by decide +kernel
set_option maxRecDepth 20000 in
theorem ggX5_places_X5_lengthOf : GoodIn wsX5_places wsX5_lengthOf := goodIn_r _ [5, 6, 7, 8, 9, 10, 11, 12, 13, 14, 15, 16, 17] (by decide +kernel) (by decide +kernel)
set_option maxRecDepth 20000 in
theorem gX5_places_X5_lengthOf : GoodIn wsX5_places (wsV RX5 40 RX5 yX5_lengthOf wsX5_lengthOf) := goodIn_app (goodIn_of _ (by decide +kernel)) ggX5_places_X5_lengthOf
theorem dX5_places_0 : decode cX5_places 0 = .ok (.aload_n 0, 1) := by decide +kernel
theorem dX5_places_1 : decode cX5_places 1 = .ok (.iload_n 1, 1) := by decide +kernel
theorem dX5_places_2 : decode cX5_places 2 = .ok (.invokevirtual 40, 3) := by decide +kernel
theorem dX5_places_5 : decode cX5_places 5 = .ok (.aload_n 0, 1) := by decide +kernel
theorem dX5_places_6 : decode cX5_places 6 = .ok (.iload_n 2, 1) := by decide +kernel
theorem dX5_places_7 : decode cX5_places 7 = .ok (.invokevirtual 40, 3) := by decide +kernel
theorem dX5_places_10 : decode cX5_places 10 = .ok (.isub, 1) := by decide +kernel
theorem dX5_places_11 : decode cX5_places 11 = .ok (.iconst 1, 1) := by decide +kernel
theorem dX5_places_12 : decode cX5_places 12 = .ok (.iadd, 1) := by decide +kernel
theorem dX5_places_13 : decode cX5_places 13 = .ok (.istore_n 3, 1) := by decide +kernel
theorem dX5_places_14 : decode cX5_places 14 = .ok (.iload_n 3, 1) := by decide +kernel
theorem dX5_places_15 : decode cX5_places 15 = .ok (.ifCond .ge 7, 3) := by decide +kernel
theorem dX5_places_18 : decode cX5_places 18 = .ok (.iconst 0, 1) := by decide +kernel
theorem dX5_places_19 : decode cX5_places 19 = .ok (.goto 4, 3) := by decide +kernel
theorem dX5_places_22 : decode cX5_places 22 = .ok (.iload_n 3, 1) := by decide +kernel
theorem dX5_places_23 : decode cX5_places 23 = .ok (.ireturn, 1) := by decide +kernel
set_option maxRecDepth 20000 in
theorem ggX5_fitsAt_X5_lengthOf : GoodIn wsX5_fitsAt wsX5_lengthOf := goodIn_r _ [5, 6, 11, 12, 13, 14, 15, 16, 17, 18, 19, 20, 21] (by decide +kernel) (by decide +kernel)
set_option maxRecDepth 20000 in
theorem gX5_fitsAt_X5_lengthOf : GoodIn wsX5_fitsAt (wsV RX5 40 RX5 yX5_lengthOf wsX5_lengthOf) := goodIn_app (goodIn_of _ (by decide +kernel)) ggX5_fitsAt_X5_lengthOf
set_option maxRecDepth 20000 in
theorem ggX5_fitsAt_X5_at : GoodIn wsX5_fitsAt wsX5_at := goodIn_r _ [10, 6, 1, 2, 3, 4, 5, 11, 12, 13, 14, 15, 16, 17, 18, 19, 20, 21] (by decide +kernel) (by decide +kernel)
set_option maxRecDepth 20000 in
theorem gX5_fitsAt_X5_at : GoodIn wsX5_fitsAt (wsV RX5 65 RX5 yX5_at wsX5_at) := goodIn_app (goodIn_of _ (by decide +kernel)) ggX5_fitsAt_X5_at
theorem dX5_fitsAt_0 : decode cX5_fitsAt 0 = .ok (.iconst 1, 1) := by decide +kernel
theorem dX5_fitsAt_1 : decode cX5_fitsAt 1 = .ok (.istore 4, 2) := by decide +kernel
theorem dX5_fitsAt_3 : decode cX5_fitsAt 3 = .ok (.iconst 0, 1) := by decide +kernel
theorem dX5_fitsAt_4 : decode cX5_fitsAt 4 = .ok (.istore 5, 2) := by decide +kernel
theorem dX5_fitsAt_6 : decode cX5_fitsAt 6 = .ok (.iload 5, 2) := by decide +kernel
