theorem dL_isRow_161 : decode cL_isRow 161 = .ok (.invokevirtual 43, 3) := by decide +kernel
theorem dL_isRow_164 : decode cL_isRow 164 = .ok (.aload_n 0, 1) := by decide +kernel
theorem dL_isRow_165 : decode cL_isRow 165 = .ok (.iload_n 1, 1) := by decide +kernel
theorem dL_isRow_166 : decode cL_isRow 166 = .ok (.invokestatic 52, 3) := by decide +kernel
theorem dL_isRow_169 : decode cL_isRow 169 = .ok (.if_icmp .ne 60, 3) := by decide +kernel
theorem dL_isRow_172 : decode cL_isRow 172 = .ok (.aload_n 0, 1) := by decide +kernel
theorem dL_isRow_173 : decode cL_isRow 173 = .ok (.iload_n 1, 1) := by decide +kernel
theorem dL_isRow_174 : decode cL_isRow 174 = .ok (.iconst 2, 1) := by decide +kernel
theorem dL_isRow_175 : decode cL_isRow 175 = .ok (.invokevirtual 43, 3) := by decide +kernel
theorem dL_isRow_178 : decode cL_isRow 178 = .ok (.iload_n 2, 1) := by decide +kernel
theorem dL_isRow_179 : decode cL_isRow 179 = .ok (.if_icmp .ne 50, 3) := by decide +kernel
theorem dL_isRow_182 : decode cL_isRow 182 = .ok (.aload_n 0, 1) := by decide +kernel
theorem dL_isRow_183 : decode cL_isRow 183 = .ok (.iload_n 1, 1) := by decide +kernel
theorem dL_isRow_184 : decode cL_isRow 184 = .ok (.iconst 3, 1) := by decide +kernel
theorem dL_isRow_185 : decode cL_isRow 185 = .ok (.invokevirtual 43, 3) := by decide +kernel
theorem dL_isRow_188 : decode cL_isRow 188 = .ok (.iload_n 3, 1) := by decide +kernel
theorem dL_isRow_189 : decode cL_isRow 189 = .ok (.if_icmp .ne 40, 3) := by decide +kernel
theorem dL_isRow_192 : decode cL_isRow 192 = .ok (.aload_n 0, 1) := by decide +kernel
theorem dL_isRow_193 : decode cL_isRow 193 = .ok (.iload_n 1, 1) := by decide +kernel
theorem dL_isRow_194 : decode cL_isRow 194 = .ok (.iconst 4, 1) := by decide +kernel
theorem dL_isRow_195 : decode cL_isRow 195 = .ok (.invokevirtual 43, 3) := by decide +kernel
theorem dL_isRow_198 : decode cL_isRow 198 = .ok (.iload 4, 2) := by decide +kernel
theorem dL_isRow_200 : decode cL_isRow 200 = .ok (.if_icmp .ne 29, 3) := by decide +kernel
theorem dL_isRow_203 : decode cL_isRow 203 = .ok (.aload_n 0, 1) := by decide +kernel
theorem dL_isRow_204 : decode cL_isRow 204 = .ok (.iload_n 1, 1) := by decide +kernel
theorem dL_isRow_205 : decode cL_isRow 205 = .ok (.iconst 5, 1) := by decide +kernel
theorem dL_isRow_206 : decode cL_isRow 206 = .ok (.invokevirtual 43, 3) := by decide +kernel
theorem dL_isRow_209 : decode cL_isRow 209 = .ok (.iload 5, 2) := by decide +kernel
theorem dL_isRow_211 : decode cL_isRow 211 = .ok (.if_icmp .ne 18, 3) := by decide +kernel
theorem dL_isRow_214 : decode cL_isRow 214 = .ok (.aload_n 0, 1) := by decide +kernel
theorem dL_isRow_215 : decode cL_isRow 215 = .ok (.iload_n 1, 1) := by decide +kernel
theorem dL_isRow_216 : decode cL_isRow 216 = .ok (.iload 6, 2) := by decide +kernel
theorem dL_isRow_218 : decode cL_isRow 218 = .ok (.invokevirtual 30, 3) := by decide +kernel
theorem dL_isRow_221 : decode cL_isRow 221 = .ok (.iconst (-1), 1) := by decide +kernel
theorem dL_isRow_222 : decode cL_isRow 222 = .ok (.if_icmp .ne 7, 3) := by decide +kernel
theorem dL_isRow_225 : decode cL_isRow 225 = .ok (.iconst 1, 1) := by decide +kernel
theorem dL_isRow_226 : decode cL_isRow 226 = .ok (.goto 4, 3) := by decide +kernel
theorem dL_isRow_229 : decode cL_isRow 229 = .ok (.iconst 0, 1) := by decide +kernel
theorem dL_isRow_230 : decode cL_isRow 230 = .ok (.ireturn, 1) := by decide +kernel
set_option maxRecDepth 20000 in
theorem ggL_products_X4_of : GoodIn wsL_products wsX4_of := goodIn_r _ [5, 6, 7, 8, 9, 10, 11, 12, 13, 14, 15, 16, 17, 18, 19, 20, 21, 22, 23, 24, 25, 26, 27, 28, 29, 30, 31, 32, 33, 34, 35, 36, 37, 38, 39, 40, 41, 42, 43, 44, 45, 46, 47, 132, 133, 134, 135, 136, 137, 138, 139, 140, 141, 142, 143, 144] (by decide +kernel) (by decide +kernel)
set_option maxRecDepth 20000 in
theorem gL_products_X4_of : GoodIn wsL_products (wsV RL 43 RX4 yX4_of wsX4_of) := goodIn_app (goodIn_of _ (by decide +kernel)) ggL_products_X4_of
set_option maxRecDepth 20000 in
theorem ggL_products_X4_product : GoodIn wsL_products wsX4_product := goodIn_r _ [51, 6, 52, 7, 8, 9, 10, 11, 12, 53, 54, 4, 55, 13, 14, 15, 16, 17, 18, 56, 57, 58, 59, 60, 61, 62, 27, 63, 64, 65, 66, 67, 24, 25, 26, 68, 69, 70, 71, 72, 73, 74, 75, 76, 77, 78, 79, 80, 81, 82, 83, 84, 85, 86, 87, 88, 89, 90, 91, 92, 93, 94, 95, 96, 97, 98, 99, 100, 101, 102, 103, 104, 105, 106, 107, 132, 133, 134, 135, 136, 137, 138, 139, 140, 141, 142, 143, 144, 145, 146] (by decide +kernel) (by decide +kernel)
set_option maxRecDepth 20000 in
theorem gL_products_X4_product : GoodIn wsL_products (wsV RL 56 RX4 yX4_product wsX4_product) := goodIn_app (goodIn_of _ (by decide +kernel)) ggL_products_X4_product
set_option maxRecDepth 20000 in
theorem ggL_products_X4_add : GoodIn wsL_products wsX4_add := goodIn_r _ [111, 6, 52, 112, 113, 114, 115, 7, 8, 9, 10, 11, 12, 116, 117, 4, 118, 13, 14, 15, 16, 17, 18, 59, 60, 61, 62, 27, 63, 64, 65, 66, 67, 24, 25, 26, 68, 69, 70, 71, 72, 73, 74, 75, 79, 80, 81, 82, 83, 84, 85, 86, 87, 88, 89, 90, 91, 92, 93, 94, 95, 96, 97, 98, 99, 100, 101, 102, 103, 104, 105, 106, 107, 132, 133, 134, 135, 136, 137, 138, 139, 140, 141, 142, 143, 144, 145, 146] (by decide +kernel) (by decide +kernel)
set_option maxRecDepth 20000 in
theorem gL_products_X4_add : GoodIn wsL_products (wsV RL 59 RX4 yX4_add wsX4_add) := goodIn_app (goodIn_of _ (by decide +kernel)) ggL_products_X4_add
set_option maxRecDepth 20000 in
theorem ggL_products_X4_value : GoodIn wsL_products wsX4_value := goodIn_r _ [122, 6, 7, 8, 9, 10, 11, 12, 116, 117, 4, 118, 123, 41, 42, 16, 43, 18, 23, 24, 25, 26, 27, 132, 133, 134, 135, 136, 137, 138, 139, 140, 141, 142, 143, 144] (by decide +kernel) (by decide +kernel)
set_option maxRecDepth 20000 in
theorem gL_products_X4_value : GoodIn wsL_products (wsV RL 50 RX4 yX4_value wsX4_value) := goodIn_app (goodIn_of _ (by decide +kernel)) ggL_products_X4_value
set_option maxRecDepth 20000 in
theorem ggL_products_L_degree : GoodIn wsL_products wsL_degree := goodIn_r _ [127, 1, 2, 3, 4, 5, 6, 7, 8, 9, 10, 11, 12, 13, 14, 15, 16, 17, 18, 19, 20, 21, 22, 23, 24, 25, 26, 27, 28, 29, 30, 31, 32, 33, 34, 35, 36, 37, 38, 39, 40, 41, 42, 43, 44, 45, 46, 47, 128, 129, 130, 131, 67, 132, 133, 134, 135, 136, 137, 138, 139, 140, 141, 142, 143, 144] (by decide +kernel) (by decide +kernel)
set_option maxRecDepth 20000 in
theorem gL_products_L_degree : GoodIn wsL_products (va_wsS RL 52 yL_degree wsL_degree) := goodIn_app (goodIn_of _ (by decide +kernel)) ggL_products_L_degree
theorem dL_products_0 : decode cL_products 0 = .ok (.aload_n 0, 1) := by decide +kernel
theorem dL_products_1 : decode cL_products 1 = .ok (.iconst 0, 1) := by decide +kernel
theorem dL_products_2 : decode cL_products 2 = .ok (.iconst 0, 1) := by decide +kernel
theorem dL_products_3 : decode cL_products 3 = .ok (.invokevirtual 43, 3) := by decide +kernel
theorem dL_products_6 : decode cL_products 6 = .ok (.istore_n 2, 1) := by decide +kernel
theorem dL_products_7 : decode cL_products 7 = .ok (.aload_n 0, 1) := by decide +kernel
theorem dL_products_8 : decode cL_products 8 = .ok (.iconst 1, 1) := by decide +kernel
theorem dL_products_9 : decode cL_products 9 = .ok (.iconst 0, 1) := by decide +kernel
theorem dL_products_10 : decode cL_products 10 = .ok (.invokevirtual 43, 3) := by decide +kernel
theorem dL_products_13 : decode cL_products 13 = .ok (.istore_n 3, 1) := by decide +kernel
theorem dL_products_14 : decode cL_products 14 = .ok (.iload_n 2, 1) := by decide +kernel
theorem dL_products_15 : decode cL_products 15 = .ok (.iload_n 3, 1) := by decide +kernel
theorem dL_products_16 : decode cL_products 16 = .ok (.iadd, 1) := by decide +kernel
theorem dL_products_17 : decode cL_products 17 = .ok (.iconst 1, 1) := by decide +kernel
theorem dL_products_18 : decode cL_products 18 = .ok (.isub, 1) := by decide +kernel
theorem dL_products_19 : decode cL_products 19 = .ok (.bipush 64, 2) := by decide +kernel
theorem dL_products_21 : decode cL_products 21 = .ok (.if_icmp .le 21, 3) := by decide +kernel
theorem dL_products_24 : decode cL_products 24 = .ok (.aload_n 0, 1) := by decide +kernel
theorem dL_products_25 : decode cL_products 25 = .ok (.iconst 0, 1) := by decide +kernel
theorem dL_products_26 : decode cL_products 26 = .ok (.iconst 1, 1) := by decide +kernel
theorem dL_products_27 : decode cL_products 27 = .ok (.iconst 2, 1) := by decide +kernel
theorem dL_products_28 : decode cL_products 28 = .ok (.invokevirtual 56, 3) := by decide +kernel
theorem dL_products_31 : decode cL_products 31 = .ok (.bipush (-4), 2) := by decide +kernel
theorem dL_products_33 : decode cL_products 33 = .ok (.if_icmp .ne 7, 3) := by decide +kernel
theorem dL_products_36 : decode cL_products 36 = .ok (.iconst 1, 1) := by decide +kernel
theorem dL_products_37 : decode cL_products 37 = .ok (.goto 4, 3) := by decide +kernel
theorem dL_products_40 : decode cL_products 40 = .ok (.iconst 0, 1) := by decide +kernel
theorem dL_products_41 : decode cL_products 41 = .ok (.ireturn, 1) := by decide +kernel
theorem dL_products_42 : decode cL_products 42 = .ok (.aload_n 0, 1) := by decide +kernel
theorem dL_products_43 : decode cL_products 43 = .ok (.iconst 0, 1) := by decide +kernel
theorem dL_products_44 : decode cL_products 44 = .ok (.iconst 1, 1) := by decide +kernel
theorem dL_products_45 : decode cL_products 45 = .ok (.iconst 2, 1) := by decide +kernel
theorem dL_products_46 : decode cL_products 46 = .ok (.invokevirtual 56, 3) := by decide +kernel
theorem dL_products_49 : decode cL_products 49 = .ok (.iload_n 2, 1) := by decide +kernel
theorem dL_products_50 : decode cL_products 50 = .ok (.iload_n 3, 1) := by decide +kernel
theorem dL_products_51 : decode cL_products 51 = .ok (.iadd, 1) := by decide +kernel
theorem dL_products_52 : decode cL_products 52 = .ok (.iconst 1, 1) := by decide +kernel
theorem dL_products_53 : decode cL_products 53 = .ok (.isub, 1) := by decide +kernel
theorem dL_products_54 : decode cL_products 54 = .ok (.if_icmp .ne 24, 3) := by decide +kernel
theorem dL_products_57 : decode cL_products 57 = .ok (.aload_n 0, 1) := by decide +kernel
theorem dL_products_58 : decode cL_products 58 = .ok (.iconst 0, 1) := by decide +kernel
theorem dL_products_59 : decode cL_products 59 = .ok (.iconst 1, 1) := by decide +kernel
theorem dL_products_60 : decode cL_products 60 = .ok (.iload_n 1, 1) := by decide +kernel
theorem dL_products_61 : decode cL_products 61 = .ok (.iconst 3, 1) := by decide +kernel
theorem dL_products_62 : decode cL_products 62 = .ok (.invokevirtual 59, 3) := by decide +kernel
theorem dL_products_65 : decode cL_products 65 = .ok (.iload_n 2, 1) := by decide +kernel
theorem dL_products_66 : decode cL_products 66 = .ok (.iload_n 3, 1) := by decide +kernel
theorem dL_products_67 : decode cL_products 67 = .ok (.if_icmp .le 7, 3) := by decide +kernel
theorem dL_products_70 : decode cL_products 70 = .ok (.iload_n 2, 1) := by decide +kernel
theorem dL_products_71 : decode cL_products 71 = .ok (.goto 4, 3) := by decide +kernel
theorem dL_products_74 : decode cL_products 74 = .ok (.iload_n 3, 1) := by decide +kernel
theorem dL_products_75 : decode cL_products 75 = .ok (.if_icmp .eq 5, 3) := by decide +kernel
theorem dL_products_78 : decode cL_products 78 = .ok (.iconst 0, 1) := by decide +kernel
theorem dL_products_79 : decode cL_products 79 = .ok (.ireturn, 1) := by decide +kernel
theorem dL_products_80 : decode cL_products 80 = .ok (.iconst 0, 1) := by decide +kernel
theorem dL_products_81 : decode cL_products 81 = .ok (.istore 4, 2) := by decide +kernel
theorem dL_products_83 : decode cL_products 83 = .ok (.iload 4, 2) := by decide +kernel
theorem dL_products_85 : decode cL_products 85 = .ok (.sipush 257, 3) := by decide +kernel
theorem dL_products_88 : decode cL_products 88 = .ok (.if_icmp .ge 79, 3) := by decide +kernel
theorem dL_products_91 : decode cL_products 91 = .ok (.aload_n 0, 1) := by decide +kernel
theorem dL_products_92 : decode cL_products 92 = .ok (.iconst 0, 1) := by decide +kernel
theorem dL_products_93 : decode cL_products 93 = .ok (.iload 4, 2) := by decide +kernel
theorem dL_products_95 : decode cL_products 95 = .ok (.invokevirtual 50, 3) := by decide +kernel
theorem dL_products_98 : decode cL_products 98 = .ok (.aload_n 0, 1) := by decide +kernel
theorem dL_products_99 : decode cL_products 99 = .ok (.iconst 1, 1) := by decide +kernel
theorem dL_products_100 : decode cL_products 100 = .ok (.iload 4, 2) := by decide +kernel
theorem dL_products_102 : decode cL_products 102 = .ok (.invokevirtual 50, 3) := by decide +kernel
theorem dL_products_105 : decode cL_products 105 = .ok (.imul, 1) := by decide +kernel
theorem dL_products_106 : decode cL_products 106 = .ok (.sipush 257, 3) := by decide +kernel
theorem dL_products_109 : decode cL_products 109 = .ok (.irem, 1) := by decide +kernel
theorem dL_products_110 : decode cL_products 110 = .ok (.istore 5, 2) := by decide +kernel
theorem dL_products_112 : decode cL_products 112 = .ok (.aload_n 0, 1) := by decide +kernel
theorem dL_products_113 : decode cL_products 113 = .ok (.iconst 0, 1) := by decide +kernel
theorem dL_products_114 : decode cL_products 114 = .ok (.iload 4, 2) := by decide +kernel
theorem dL_products_116 : decode cL_products 116 = .ok (.invokevirtual 50, 3) := by decide +kernel
theorem dL_products_119 : decode cL_products 119 = .ok (.iload_n 1, 1) := by decide +kernel
theorem dL_products_120 : decode cL_products 120 = .ok (.aload_n 0, 1) := by decide +kernel
theorem dL_products_121 : decode cL_products 121 = .ok (.iconst 1, 1) := by decide +kernel
theorem dL_products_122 : decode cL_products 122 = .ok (.iload 4, 2) := by decide +kernel
theorem dL_products_124 : decode cL_products 124 = .ok (.invokevirtual 50, 3) := by decide +kernel
theorem dL_products_127 : decode cL_products 127 = .ok (.imul, 1) := by decide +kernel
theorem dL_products_128 : decode cL_products 128 = .ok (.iadd, 1) := by decide +kernel
theorem dL_products_129 : decode cL_products 129 = .ok (.sipush 257, 3) := by decide +kernel
theorem dL_products_132 : decode cL_products 132 = .ok (.irem, 1) := by decide +kernel
theorem dL_products_133 : decode cL_products 133 = .ok (.istore 6, 2) := by decide +kernel
theorem dL_products_135 : decode cL_products 135 = .ok (.aload_n 0, 1) := by decide +kernel
theorem dL_products_136 : decode cL_products 136 = .ok (.iconst 2, 1) := by decide +kernel
theorem dL_products_137 : decode cL_products 137 = .ok (.iload 4, 2) := by decide +kernel
theorem dL_products_139 : decode cL_products 139 = .ok (.invokevirtual 50, 3) := by decide +kernel
theorem dL_products_142 : decode cL_products 142 = .ok (.iload 5, 2) := by decide +kernel
theorem dL_products_144 : decode cL_products 144 = .ok (.if_icmp .ne 15, 3) := by decide +kernel
theorem dL_products_147 : decode cL_products 147 = .ok (.aload_n 0, 1) := by decide +kernel
theorem dL_products_148 : decode cL_products 148 = .ok (.iconst 3, 1) := by decide +kernel
theorem dL_products_149 : decode cL_products 149 = .ok (.iload 4, 2) := by decide +kernel
theorem dL_products_151 : decode cL_products 151 = .ok (.invokevirtual 50, 3) := by decide +kernel
theorem dL_products_154 : decode cL_products 154 = .ok (.iload 6, 2) := by decide +kernel
theorem dL_products_156 : decode cL_products 156 = .ok (.if_icmp .eq 5, 3) := by decide +kernel
theorem dL_products_159 : decode cL_products 159 = .ok (.iconst 0, 1) := by decide +kernel
theorem dL_products_160 : decode cL_products 160 = .ok (.ireturn, 1) := by decide +kernel
theorem dL_products_161 : decode cL_products 161 = .ok (.iinc 4 1, 3) := by decide +kernel
theorem dL_products_164 : decode cL_products 164 = .ok (.goto (-81), 3) := by decide +kernel
theorem dL_products_167 : decode cL_products 167 = .ok (.aload_n 0, 1) := by decide +kernel
theorem dL_products_168 : decode cL_products 168 = .ok (.iconst 0, 1) := by decide +kernel
theorem dL_products_169 : decode cL_products 169 = .ok (.invokestatic 52, 3) := by decide +kernel
theorem dL_products_172 : decode cL_products 172 = .ok (.ifCond .lt 11, 3) := by decide +kernel
theorem dL_products_175 : decode cL_products 175 = .ok (.aload_n 0, 1) := by decide +kernel
theorem dL_products_176 : decode cL_products 176 = .ok (.iconst 1, 1) := by decide +kernel
theorem dL_products_177 : decode cL_products 177 = .ok (.invokestatic 52, 3) := by decide +kernel
theorem dL_products_180 : decode cL_products 180 = .ok (.ifCond .ge 8, 3) := by decide +kernel
theorem dL_products_183 : decode cL_products 183 = .ok (.bipush (-6), 2) := by decide +kernel
theorem dL_products_185 : decode cL_products 185 = .ok (.goto 14, 3) := by decide +kernel
theorem dL_products_188 : decode cL_products 188 = .ok (.aload_n 0, 1) := by decide +kernel
theorem dL_products_189 : decode cL_products 189 = .ok (.iconst 0, 1) := by decide +kernel
theorem dL_products_190 : decode cL_products 190 = .ok (.invokestatic 52, 3) := by decide +kernel
theorem dL_products_193 : decode cL_products 193 = .ok (.aload_n 0, 1) := by decide +kernel
theorem dL_products_194 : decode cL_products 194 = .ok (.iconst 1, 1) := by decide +kernel
theorem dL_products_195 : decode cL_products 195 = .ok (.invokestatic 52, 3) := by decide +kernel
theorem dL_products_198 : decode cL_products 198 = .ok (.iadd, 1) := by decide +kernel
theorem dL_products_199 : decode cL_products 199 = .ok (.istore 4, 2) := by decide +kernel
theorem dL_products_201 : decode cL_products 201 = .ok (.aload_n 0, 1) := by decide +kernel
theorem dL_products_202 : decode cL_products 202 = .ok (.iconst 2, 1) := by decide +kernel
theorem dL_products_203 : decode cL_products 203 = .ok (.iconst 1, 1) := by decide +kernel
theorem dL_products_204 : decode cL_products 204 = .ok (.invokevirtual 43, 3) := by decide +kernel
theorem dL_products_207 : decode cL_products 207 = .ok (.iload 4, 2) := by decide +kernel
theorem dL_products_209 : decode cL_products 209 = .ok (.if_icmp .ne 37, 3) := by decide +kernel
theorem dL_products_212 : decode cL_products 212 = .ok (.aload_n 0, 1) := by decide +kernel
theorem dL_products_213 : decode cL_products 213 = .ok (.iconst 1, 1) := by decide +kernel
theorem dL_products_214 : decode cL_products 214 = .ok (.iconst 0, 1) := by decide +kernel
theorem dL_products_215 : decode cL_products 215 = .ok (.iconst 4, 1) := by decide +kernel
theorem dL_products_216 : decode cL_products 216 = .ok (.invokevirtual 56, 3) := by decide +kernel
theorem dL_products_219 : decode cL_products 219 = .ok (.iload_n 2, 1) := by decide +kernel
theorem dL_products_220 : decode cL_products 220 = .ok (.iload_n 3, 1) := by decide +kernel
theorem dL_products_221 : decode cL_products 221 = .ok (.iadd, 1) := by decide +kernel
theorem dL_products_222 : decode cL_products 222 = .ok (.iconst 1, 1) := by decide +kernel
theorem dL_products_223 : decode cL_products 223 = .ok (.isub, 1) := by decide +kernel
theorem dL_products_224 : decode cL_products 224 = .ok (.if_icmp .ne 22, 3) := by decide +kernel
theorem dL_products_227 : decode cL_products 227 = .ok (.aload_n 0, 1) := by decide +kernel
theorem dL_products_228 : decode cL_products 228 = .ok (.iconst 4, 1) := by decide +kernel
theorem dL_products_229 : decode cL_products 229 = .ok (.iconst 3, 1) := by decide +kernel
theorem dL_products_230 : decode cL_products 230 = .ok (.invokevirtual 43, 3) := by decide +kernel
theorem dL_products_233 : decode cL_products 233 = .ok (.aload_n 0, 1) := by decide +kernel
theorem dL_products_234 : decode cL_products 234 = .ok (.iconst 2, 1) := by decide +kernel
theorem dL_products_235 : decode cL_products 235 = .ok (.iconst 3, 1) := by decide +kernel
theorem dL_products_236 : decode cL_products 236 = .ok (.invokevirtual 43, 3) := by decide +kernel
theorem dL_products_239 : decode cL_products 239 = .ok (.if_icmp .ne 7, 3) := by decide +kernel
theorem dL_products_242 : decode cL_products 242 = .ok (.iconst 1, 1) := by decide +kernel
theorem dL_products_243 : decode cL_products 243 = .ok (.goto 4, 3) := by decide +kernel
theorem dL_products_246 : decode cL_products 246 = .ok (.iconst 0, 1) := by decide +kernel
theorem dL_products_247 : decode cL_products 247 = .ok (.ireturn, 1) := by decide +kernel
set_option maxRecDepth 20000 in
theorem ggL_quotients_L_degree : GoodIn wsL_quotients wsL_degree := goodIn_r _ [4, 5, 6, 7, 8, 9, 10, 11, 12, 13, 14, 15, 16, 17, 18, 19, 20, 21, 22, 23, 24, 25, 26, 27, 28, 29, 30, 31, 32, 33, 34, 35, 36, 37, 38, 39, 40, 41, 42, 43, 44, 45, 46, 47, 48, 49, 50, 51, 52, 53, 54, 55, 56, 152, 153, 154, 155, 156, 157, 158, 159, 160, 161, 162, 163, 164] (by decide +kernel) (by decide +kernel)
set_option maxRecDepth 20000 in
theorem gL_quotients_L_degree : GoodIn wsL_quotients (va_wsS RL 52 yL_degree wsL_degree) := goodIn_app (goodIn_of _ (by decide +kernel)) ggL_quotients_L_degree
set_option maxRecDepth 20000 in
theorem ggL_quotients_X4_divide : GoodIn wsL_quotients wsX4_divide := goodIn_r _ [60, 10, 61, 62, 11, 12, 13, 14, 15, 16, 23, 24, 25, 20, 26, 22, 27, 28, 29, 30, 31, 63, 64, 8, 65, 66, 67, 68, 69, 56, 70, 71, 72, 73, 74, 75, 76, 77, 78, 79, 80, 81, 82, 83, 84, 85, 86, 87, 88, 89, 90, 91, 92, 93, 94, 95, 96, 97, 98, 99, 100, 101, 102, 103, 104, 105, 106, 107, 108, 109, 110, 111, 112, 113, 114, 115, 116, 117, 118, 119, 120, 121, 122, 123, 124, 125, 152, 153, 154, 155, 156, 157, 158, 159, 160, 161, 162, 163, 164, 165, 166] (by decide +kernel) (by decide +kernel)
set_option maxRecDepth 20000 in
theorem gL_quotients_X4_divide : GoodIn wsL_quotients (wsV RL 63 RX4 yX4_divide wsX4_divide) := goodIn_app (goodIn_of _ (by decide +kernel)) ggL_quotients_X4_divide
set_option maxRecDepth 20000 in
theorem ggL_quotients_X4_divisor : GoodIn wsL_quotients wsX4_divisor := goodIn_r _ [129, 10, 11, 12, 13, 14, 15, 16, 23, 24, 25, 20, 26, 22, 27, 28, 29, 30, 31, 130, 131, 132, 8, 133, 134, 135, 136, 62, 61, 84, 85, 86, 87, 88, 89, 90, 91, 63, 64, 65, 66, 67, 68, 69, 56, 70, 71, 72, 73, 74, 75, 76, 77, 78, 79, 80, 81, 82, 83, 92, 93, 94, 95, 96, 97, 98, 99, 100, 101, 102, 103, 104, 137, 138, 139, 140, 105, 106, 107, 108, 109, 110, 111, 112, 113, 114, 115, 116, 117, 118, 119, 120, 121, 122, 123, 124, 125, 152, 153, 154, 155, 156, 157, 158, 159, 160, 161, 162, 163, 164, 165, 166] (by decide +kernel) (by decide +kernel)
set_option maxRecDepth 20000 in
theorem gL_quotients_X4_divisor : GoodIn wsL_quotients (wsV RL 66 RX4 yX4_divisor wsX4_divisor) := goodIn_app (goodIn_of _ (by decide +kernel)) ggL_quotients_X4_divisor
set_option maxRecDepth 20000 in
theorem ggL_quotients_X4_of : GoodIn wsL_quotients wsX4_of := goodIn_r _ [9, 10, 11, 12, 13, 14, 15, 16, 17, 18, 19, 20, 21, 22, 23, 24, 25, 26, 27, 28, 29, 30, 31, 32, 33, 34, 35, 36, 37, 38, 39, 40, 41, 42, 43, 44, 45, 46, 47, 48, 49, 50, 51, 152, 153, 154, 155, 156, 157, 158, 159, 160, 161, 162, 163, 164] (by decide +kernel) (by decide +kernel)
set_option maxRecDepth 20000 in
theorem gL_quotients_X4_of : GoodIn wsL_quotients (wsV RL 43 RX4 yX4_of wsX4_of) := goodIn_app (goodIn_of _ (by decide +kernel)) ggL_quotients_X4_of
set_option maxRecDepth 20000 in
theorem ggL_quotients_X4_value : GoodIn wsL_quotients wsX4_value := goodIn_r _ [144, 10, 11, 12, 13, 14, 15, 16, 145, 146, 8, 147, 148, 45, 46, 20, 47, 22, 27, 28, 29, 30, 31, 152, 153, 154, 155, 156, 157, 158, 159, 160, 161, 162, 163, 164] (by decide +kernel) (by decide +kernel)
set_option maxRecDepth 20000 in
theorem gL_quotients_X4_value : GoodIn wsL_quotients (wsV RL 50 RX4 yX4_value wsX4_value) := goodIn_app (goodIn_of _ (by decide +kernel)) ggL_quotients_X4_value
set_option maxRecDepth 20000 in
theorem ggL_quotients_X4_number : GoodIn wsL_quotients wsX4_number := goodIn_r _ [55, 10, 11, 12, 13, 14, 15, 16, 17, 18, 19, 20, 21, 22, 56, 28, 29, 30, 31, 152, 153, 154, 155, 156, 157, 158, 159, 160, 161, 162, 163, 164] (by decide +kernel) (by decide +kernel)
set_option maxRecDepth 20000 in
theorem gL_quotients_X4_number : GoodIn wsL_quotients (wsV RL 30 RX4 yX4_number wsX4_number) := goodIn_app (goodIn_of _ (by decide +kernel)) ggL_quotients_X4_number
set_option maxRecDepth 20000 in
theorem ggL_quotients_L_alike : GoodIn wsL_quotients wsL_alike := goodIn_r _ [151, 5, 6, 7, 8, 9, 10, 11, 12, 13, 14, 15, 16, 17, 18, 19, 20, 21, 22, 23, 24, 25, 26, 27, 28, 29, 30, 31, 32, 33, 34, 35, 36, 37, 38, 39, 40, 41, 42, 43, 44, 45, 46, 47, 48, 49, 50, 51, 52, 53, 54, 55, 56, 152, 153, 154, 155, 156, 157, 158, 159, 160, 161, 162, 163, 164] (by decide +kernel) (by decide +kernel)
set_option maxRecDepth 20000 in
theorem gL_quotients_L_alike : GoodIn wsL_quotients (va_wsS RL 69 yL_alike wsL_alike) := goodIn_app (goodIn_of _ (by decide +kernel)) ggL_quotients_L_alike
theorem dL_quotients_0 : decode cL_quotients 0 = .ok (.aload_n 0, 1) := by decide +kernel
theorem dL_quotients_1 : decode cL_quotients 1 = .ok (.iconst 0, 1) := by decide +kernel
theorem dL_quotients_2 : decode cL_quotients 2 = .ok (.invokestatic 52, 3) := by decide +kernel
theorem dL_quotients_5 : decode cL_quotients 5 = .ok (.istore_n 1, 1) := by decide +kernel
theorem dL_quotients_6 : decode cL_quotients 6 = .ok (.aload_n 0, 1) := by decide +kernel
theorem dL_quotients_7 : decode cL_quotients 7 = .ok (.iconst 1, 1) := by decide +kernel
theorem dL_quotients_8 : decode cL_quotients 8 = .ok (.invokestatic 52, 3) := by decide +kernel
theorem dL_quotients_11 : decode cL_quotients 11 = .ok (.istore_n 2, 1) := by decide +kernel
theorem dL_quotients_12 : decode cL_quotients 12 = .ok (.aload_n 0, 1) := by decide +kernel
theorem dL_quotients_13 : decode cL_quotients 13 = .ok (.iconst 0, 1) := by decide +kernel
theorem dL_quotients_14 : decode cL_quotients 14 = .ok (.iconst 1, 1) := by decide +kernel
theorem dL_quotients_15 : decode cL_quotients 15 = .ok (.iconst 2, 1) := by decide +kernel
theorem dL_quotients_16 : decode cL_quotients 16 = .ok (.iconst 3, 1) := by decide +kernel
theorem dL_quotients_17 : decode cL_quotients 17 = .ok (.invokevirtual 63, 3) := by decide +kernel
theorem dL_quotients_20 : decode cL_quotients 20 = .ok (.istore_n 3, 1) := by decide +kernel
theorem dL_quotients_21 : decode cL_quotients 21 = .ok (.iload_n 2, 1) := by decide +kernel
theorem dL_quotients_22 : decode cL_quotients 22 = .ok (.ifCond .ge 35, 3) := by decide +kernel
theorem dL_quotients_25 : decode cL_quotients 25 = .ok (.iload_n 3, 1) := by decide +kernel
theorem dL_quotients_26 : decode cL_quotients 26 = .ok (.bipush (-5), 2) := by decide +kernel
theorem dL_quotients_28 : decode cL_quotients 28 = .ok (.if_icmp .ne 27, 3) := by decide +kernel
theorem dL_quotients_31 : decode cL_quotients 31 = .ok (.aload_n 0, 1) := by decide +kernel
theorem dL_quotients_32 : decode cL_quotients 32 = .ok (.iconst 0, 1) := by decide +kernel
theorem dL_quotients_33 : decode cL_quotients 33 = .ok (.iconst 1, 1) := by decide +kernel
theorem dL_quotients_34 : decode cL_quotients 34 = .ok (.iconst 4, 1) := by decide +kernel
theorem dL_quotients_35 : decode cL_quotients 35 = .ok (.invokevirtual 66, 3) := by decide +kernel
theorem dL_quotients_38 : decode cL_quotients 38 = .ok (.iload_n 1, 1) := by decide +kernel
theorem dL_quotients_39 : decode cL_quotients 39 = .ok (.ifCond .ge 8, 3) := by decide +kernel
theorem dL_quotients_42 : decode cL_quotients 42 = .ok (.bipush (-5), 2) := by decide +kernel
theorem dL_quotients_44 : decode cL_quotients 44 = .ok (.goto 4, 3) := by decide +kernel
theorem dL_quotients_47 : decode cL_quotients 47 = .ok (.iload_n 1, 1) := by decide +kernel
theorem dL_quotients_48 : decode cL_quotients 48 = .ok (.if_icmp .ne 7, 3) := by decide +kernel
theorem dL_quotients_51 : decode cL_quotients 51 = .ok (.iconst 1, 1) := by decide +kernel
theorem dL_quotients_52 : decode cL_quotients 52 = .ok (.goto 4, 3) := by decide +kernel
theorem dL_quotients_55 : decode cL_quotients 55 = .ok (.iconst 0, 1) := by decide +kernel
theorem dL_quotients_56 : decode cL_quotients 56 = .ok (.ireturn, 1) := by decide +kernel
theorem dL_quotients_57 : decode cL_quotients 57 = .ok (.iload_n 3, 1) := by decide +kernel
theorem dL_quotients_58 : decode cL_quotients 58 = .ok (.aload_n 0, 1) := by decide +kernel
theorem dL_quotients_59 : decode cL_quotients 59 = .ok (.iconst 3, 1) := by decide +kernel
theorem dL_quotients_60 : decode cL_quotients 60 = .ok (.invokestatic 52, 3) := by decide +kernel
theorem dL_quotients_63 : decode cL_quotients 63 = .ok (.if_icmp .ne 49, 3) := by decide +kernel
theorem dL_quotients_66 : decode cL_quotients 66 = .ok (.iload_n 3, 1) := by decide +kernel
theorem dL_quotients_67 : decode cL_quotients 67 = .ok (.iload_n 2, 1) := by decide +kernel
theorem dL_quotients_68 : decode cL_quotients 68 = .ok (.if_icmp .ge 44, 3) := by decide +kernel
theorem dL_quotients_71 : decode cL_quotients 71 = .ok (.aload_n 0, 1) := by decide +kernel
theorem dL_quotients_72 : decode cL_quotients 72 = .ok (.iconst 3, 1) := by decide +kernel
theorem dL_quotients_73 : decode cL_quotients 73 = .ok (.iconst 0, 1) := by decide +kernel
theorem dL_quotients_74 : decode cL_quotients 74 = .ok (.invokevirtual 43, 3) := by decide +kernel
theorem dL_quotients_77 : decode cL_quotients 77 = .ok (.iload_n 2, 1) := by decide +kernel
theorem dL_quotients_78 : decode cL_quotients 78 = .ok (.ifCond .ne 7, 3) := by decide +kernel
theorem dL_quotients_81 : decode cL_quotients 81 = .ok (.iconst 1, 1) := by decide +kernel
theorem dL_quotients_82 : decode cL_quotients 82 = .ok (.goto 4, 3) := by decide +kernel
theorem dL_quotients_85 : decode cL_quotients 85 = .ok (.iload_n 2, 1) := by decide +kernel
theorem dL_quotients_86 : decode cL_quotients 86 = .ok (.if_icmp .ne 26, 3) := by decide +kernel
theorem dL_quotients_89 : decode cL_quotients 89 = .ok (.aload_n 0, 1) := by decide +kernel
theorem dL_quotients_90 : decode cL_quotients 90 = .ok (.iconst 2, 1) := by decide +kernel
theorem dL_quotients_91 : decode cL_quotients 91 = .ok (.iconst 0, 1) := by decide +kernel
theorem dL_quotients_92 : decode cL_quotients 92 = .ok (.invokevirtual 43, 3) := by decide +kernel
theorem dL_quotients_95 : decode cL_quotients 95 = .ok (.iload_n 1, 1) := by decide +kernel
theorem dL_quotients_96 : decode cL_quotients 96 = .ok (.iload_n 2, 1) := by decide +kernel
theorem dL_quotients_97 : decode cL_quotients 97 = .ok (.if_icmp .ge 7, 3) := by decide +kernel
theorem dL_quotients_100 : decode cL_quotients 100 = .ok (.iconst 1, 1) := by decide +kernel
theorem dL_quotients_101 : decode cL_quotients 101 = .ok (.goto 8, 3) := by decide +kernel
theorem dL_quotients_104 : decode cL_quotients 104 = .ok (.iload_n 1, 1) := by decide +kernel
theorem dL_quotients_105 : decode cL_quotients 105 = .ok (.iload_n 2, 1) := by decide +kernel
theorem dL_quotients_106 : decode cL_quotients 106 = .ok (.isub, 1) := by decide +kernel
theorem dL_quotients_107 : decode cL_quotients 107 = .ok (.iconst 1, 1) := by decide +kernel
theorem dL_quotients_108 : decode cL_quotients 108 = .ok (.iadd, 1) := by decide +kernel
theorem dL_quotients_109 : decode cL_quotients 109 = .ok (.if_icmp .eq 5, 3) := by decide +kernel
theorem dL_quotients_112 : decode cL_quotients 112 = .ok (.iconst 0, 1) := by decide +kernel
theorem dL_quotients_113 : decode cL_quotients 113 = .ok (.ireturn, 1) := by decide +kernel
theorem dL_quotients_114 : decode cL_quotients 114 = .ok (.iconst 0, 1) := by decide +kernel
theorem dL_quotients_115 : decode cL_quotients 115 = .ok (.istore 4, 2) := by decide +kernel
theorem dL_quotients_117 : decode cL_quotients 117 = .ok (.iload 4, 2) := by decide +kernel
theorem dL_quotients_119 : decode cL_quotients 119 = .ok (.sipush 257, 3) := by decide +kernel
theorem dL_quotients_122 : decode cL_quotients 122 = .ok (.if_icmp .ge 48, 3) := by decide +kernel
theorem dL_quotients_125 : decode cL_quotients 125 = .ok (.aload_n 0, 1) := by decide +kernel
theorem dL_quotients_126 : decode cL_quotients 126 = .ok (.iconst 2, 1) := by decide +kernel
theorem dL_quotients_127 : decode cL_quotients 127 = .ok (.iload 4, 2) := by decide +kernel
theorem dL_quotients_129 : decode cL_quotients 129 = .ok (.invokevirtual 50, 3) := by decide +kernel
theorem dL_quotients_132 : decode cL_quotients 132 = .ok (.aload_n 0, 1) := by decide +kernel
theorem dL_quotients_133 : decode cL_quotients 133 = .ok (.iconst 1, 1) := by decide +kernel
theorem dL_quotients_134 : decode cL_quotients 134 = .ok (.iload 4, 2) := by decide +kernel
theorem dL_quotients_136 : decode cL_quotients 136 = .ok (.invokevirtual 50, 3) := by decide +kernel
theorem dL_quotients_139 : decode cL_quotients 139 = .ok (.imul, 1) := by decide +kernel
theorem dL_quotients_140 : decode cL_quotients 140 = .ok (.aload_n 0, 1) := by decide +kernel
theorem dL_quotients_141 : decode cL_quotients 141 = .ok (.iconst 3, 1) := by decide +kernel
theorem dL_quotients_142 : decode cL_quotients 142 = .ok (.iload 4, 2) := by decide +kernel
theorem dL_quotients_144 : decode cL_quotients 144 = .ok (.invokevirtual 50, 3) := by decide +kernel
theorem dL_quotients_147 : decode cL_quotients 147 = .ok (.iadd, 1) := by decide +kernel
theorem dL_quotients_148 : decode cL_quotients 148 = .ok (.sipush 257, 3) := by decide +kernel
theorem dL_quotients_151 : decode cL_quotients 151 = .ok (.irem, 1) := by decide +kernel
theorem dL_quotients_152 : decode cL_quotients 152 = .ok (.aload_n 0, 1) := by decide +kernel
theorem dL_quotients_153 : decode cL_quotients 153 = .ok (.iconst 0, 1) := by decide +kernel
theorem dL_quotients_154 : decode cL_quotients 154 = .ok (.iload 4, 2) := by decide +kernel
theorem dL_quotients_156 : decode cL_quotients 156 = .ok (.invokevirtual 50, 3) := by decide +kernel
theorem dL_quotients_159 : decode cL_quotients 159 = .ok (.if_icmp .eq 5, 3) := by decide +kernel
theorem dL_quotients_162 : decode cL_quotients 162 = .ok (.iconst 0, 1) := by decide +kernel
theorem dL_quotients_163 : decode cL_quotients 163 = .ok (.ireturn, 1) := by decide +kernel
theorem dL_quotients_164 : decode cL_quotients 164 = .ok (.iinc 4 1, 3) := by decide +kernel
theorem dL_quotients_167 : decode cL_quotients 167 = .ok (.goto (-50), 3) := by decide +kernel
theorem dL_quotients_170 : decode cL_quotients 170 = .ok (.aload_n 0, 1) := by decide +kernel
theorem dL_quotients_171 : decode cL_quotients 171 = .ok (.iconst 0, 1) := by decide +kernel
theorem dL_quotients_172 : decode cL_quotients 172 = .ok (.iconst 1, 1) := by decide +kernel
theorem dL_quotients_173 : decode cL_quotients 173 = .ok (.iconst 4, 1) := by decide +kernel
theorem dL_quotients_174 : decode cL_quotients 174 = .ok (.invokevirtual 66, 3) := by decide +kernel
theorem dL_quotients_177 : decode cL_quotients 177 = .ok (.istore 4, 2) := by decide +kernel
theorem dL_quotients_179 : decode cL_quotients 179 = .ok (.iload 4, 2) := by decide +kernel
theorem dL_quotients_181 : decode cL_quotients 181 = .ok (.ifCond .lt 47, 3) := by decide +kernel
theorem dL_quotients_184 : decode cL_quotients 184 = .ok (.iload 4, 2) := by decide +kernel
theorem dL_quotients_186 : decode cL_quotients 186 = .ok (.iload_n 2, 1) := by decide +kernel
theorem dL_quotients_187 : decode cL_quotients 187 = .ok (.if_icmp .gt 41, 3) := by decide +kernel
theorem dL_quotients_190 : decode cL_quotients 190 = .ok (.iload_n 1, 1) := by decide +kernel
theorem dL_quotients_191 : decode cL_quotients 191 = .ok (.ifCond .lt 9, 3) := by decide +kernel
theorem dL_quotients_194 : decode cL_quotients 194 = .ok (.iload 4, 2) := by decide +kernel
theorem dL_quotients_196 : decode cL_quotients 196 = .ok (.iload_n 1, 1) := by decide +kernel
theorem dL_quotients_197 : decode cL_quotients 197 = .ok (.if_icmp .gt 31, 3) := by decide +kernel
theorem dL_quotients_200 : decode cL_quotients 200 = .ok (.aload_n 0, 1) := by decide +kernel
theorem dL_quotients_201 : decode cL_quotients 201 = .ok (.iconst 4, 1) := by decide +kernel
theorem dL_quotients_202 : decode cL_quotients 202 = .ok (.iconst 0, 1) := by decide +kernel
theorem dL_quotients_203 : decode cL_quotients 203 = .ok (.invokevirtual 43, 3) := by decide +kernel
theorem dL_quotients_206 : decode cL_quotients 206 = .ok (.iload 4, 2) := by decide +kernel
theorem dL_quotients_208 : decode cL_quotients 208 = .ok (.iconst 1, 1) := by decide +kernel
theorem dL_quotients_209 : decode cL_quotients 209 = .ok (.iadd, 1) := by decide +kernel
theorem dL_quotients_210 : decode cL_quotients 210 = .ok (.if_icmp .ne 18, 3) := by decide +kernel
theorem dL_quotients_213 : decode cL_quotients 213 = .ok (.aload_n 0, 1) := by decide +kernel
theorem dL_quotients_214 : decode cL_quotients 214 = .ok (.iconst 4, 1) := by decide +kernel
theorem dL_quotients_215 : decode cL_quotients 215 = .ok (.iload 4, 2) := by decide +kernel
theorem dL_quotients_217 : decode cL_quotients 217 = .ok (.invokevirtual 30, 3) := by decide +kernel
theorem dL_quotients_220 : decode cL_quotients 220 = .ok (.iconst 1, 1) := by decide +kernel
theorem dL_quotients_221 : decode cL_quotients 221 = .ok (.if_icmp .ne 7, 3) := by decide +kernel
theorem dL_quotients_224 : decode cL_quotients 224 = .ok (.iconst 1, 1) := by decide +kernel
theorem dL_quotients_225 : decode cL_quotients 225 = .ok (.goto 4, 3) := by decide +kernel
theorem dL_quotients_228 : decode cL_quotients 228 = .ok (.iconst 0, 1) := by decide +kernel
theorem dL_quotients_229 : decode cL_quotients 229 = .ok (.istore 5, 2) := by decide +kernel
theorem dL_quotients_231 : decode cL_quotients 231 = .ok (.iload 5, 2) := by decide +kernel
theorem dL_quotients_233 : decode cL_quotients 233 = .ok (.ifCond .eq 33, 3) := by decide +kernel
theorem dL_quotients_236 : decode cL_quotients 236 = .ok (.aload_n 0, 1) := by decide +kernel
theorem dL_quotients_237 : decode cL_quotients 237 = .ok (.iconst 0, 1) := by decide +kernel
theorem dL_quotients_238 : decode cL_quotients 238 = .ok (.iconst 4, 1) := by decide +kernel
theorem dL_quotients_239 : decode cL_quotients 239 = .ok (.iconst 2, 1) := by decide +kernel
theorem dL_quotients_240 : decode cL_quotients 240 = .ok (.iconst 5, 1) := by decide +kernel
theorem dL_quotients_241 : decode cL_quotients 241 = .ok (.invokevirtual 63, 3) := by decide +kernel
theorem dL_quotients_244 : decode cL_quotients 244 = .ok (.bipush (-6), 2) := by decide +kernel
theorem dL_quotients_246 : decode cL_quotients 246 = .ok (.if_icmp .ne 20, 3) := by decide +kernel
theorem dL_quotients_249 : decode cL_quotients 249 = .ok (.aload_n 0, 1) := by decide +kernel
theorem dL_quotients_250 : decode cL_quotients 250 = .ok (.iconst 1, 1) := by decide +kernel
theorem dL_quotients_251 : decode cL_quotients 251 = .ok (.iconst 4, 1) := by decide +kernel
theorem dL_quotients_252 : decode cL_quotients 252 = .ok (.iconst 2, 1) := by decide +kernel
theorem dL_quotients_253 : decode cL_quotients 253 = .ok (.iconst 5, 1) := by decide +kernel
theorem dL_quotients_254 : decode cL_quotients 254 = .ok (.invokevirtual 63, 3) := by decide +kernel
theorem dL_quotients_257 : decode cL_quotients 257 = .ok (.bipush (-6), 2) := by decide +kernel
theorem dL_quotients_259 : decode cL_quotients 259 = .ok (.if_icmp .ne 7, 3) := by decide +kernel
theorem dL_quotients_262 : decode cL_quotients 262 = .ok (.iconst 1, 1) := by decide +kernel
theorem dL_quotients_263 : decode cL_quotients 263 = .ok (.goto 4, 3) := by decide +kernel
theorem dL_quotients_266 : decode cL_quotients 266 = .ok (.iconst 0, 1) := by decide +kernel
theorem dL_quotients_267 : decode cL_quotients 267 = .ok (.istore 5, 2) := by decide +kernel
theorem dL_quotients_269 : decode cL_quotients 269 = .ok (.iload 5, 2) := by decide +kernel
theorem dL_quotients_271 : decode cL_quotients 271 = .ok (.ifCond .eq 49, 3) := by decide +kernel
theorem dL_quotients_274 : decode cL_quotients 274 = .ok (.aload_n 0, 1) := by decide +kernel
theorem dL_quotients_275 : decode cL_quotients 275 = .ok (.iconst 1, 1) := by decide +kernel
theorem dL_quotients_276 : decode cL_quotients 276 = .ok (.iconst 3, 1) := by decide +kernel
theorem dL_quotients_277 : decode cL_quotients 277 = .ok (.iconst 5, 1) := by decide +kernel
theorem dL_quotients_278 : decode cL_quotients 278 = .ok (.invokevirtual 66, 3) := by decide +kernel
theorem dL_quotients_281 : decode cL_quotients 281 = .ok (.iload 4, 2) := by decide +kernel
theorem dL_quotients_283 : decode cL_quotients 283 = .ok (.if_icmp .ne 37, 3) := by decide +kernel
theorem dL_quotients_286 : decode cL_quotients 286 = .ok (.aload_n 0, 1) := by decide +kernel
theorem dL_quotients_287 : decode cL_quotients 287 = .ok (.iconst 4, 1) := by decide +kernel
theorem dL_quotients_288 : decode cL_quotients 288 = .ok (.iconst 5, 1) := by decide +kernel
theorem dL_quotients_289 : decode cL_quotients 289 = .ok (.invokestatic 69, 3) := by decide +kernel
theorem dL_quotients_292 : decode cL_quotients 292 = .ok (.ifCond .eq 28, 3) := by decide +kernel
theorem dL_quotients_295 : decode cL_quotients 295 = .ok (.aload_n 0, 1) := by decide +kernel
theorem dL_quotients_296 : decode cL_quotients 296 = .ok (.iconst 1, 1) := by decide +kernel
theorem dL_quotients_297 : decode cL_quotients 297 = .ok (.iconst 0, 1) := by decide +kernel
theorem dL_quotients_298 : decode cL_quotients 298 = .ok (.iconst 5, 1) := by decide +kernel
theorem dL_quotients_299 : decode cL_quotients 299 = .ok (.invokevirtual 66, 3) := by decide +kernel
theorem dL_quotients_302 : decode cL_quotients 302 = .ok (.iload 4, 2) := by decide +kernel
theorem dL_quotients_304 : decode cL_quotients 304 = .ok (.if_icmp .ne 16, 3) := by decide +kernel
theorem dL_quotients_307 : decode cL_quotients 307 = .ok (.aload_n 0, 1) := by decide +kernel
theorem dL_quotients_308 : decode cL_quotients 308 = .ok (.iconst 4, 1) := by decide +kernel
theorem dL_quotients_309 : decode cL_quotients 309 = .ok (.iconst 5, 1) := by decide +kernel
theorem dL_quotients_310 : decode cL_quotients 310 = .ok (.invokestatic 69, 3) := by decide +kernel
theorem dL_quotients_313 : decode cL_quotients 313 = .ok (.ifCond .eq 7, 3) := by decide +kernel
theorem dL_quotients_316 : decode cL_quotients 316 = .ok (.iconst 1, 1) := by decide +kernel
theorem dL_quotients_317 : decode cL_quotients 317 = .ok (.goto 4, 3) := by decide +kernel
theorem dL_quotients_320 : decode cL_quotients 320 = .ok (.iconst 0, 1) := by decide +kernel
theorem dL_quotients_321 : decode cL_quotients 321 = .ok (.ireturn, 1) := by decide +kernel
set_option maxRecDepth 20000 in
theorem ggL_alike_X4_of : GoodIn wsL_alike wsX4_of := goodIn_r _ [5, 6, 7, 8, 9, 10, 11, 12, 13, 14, 15, 16, 17, 18, 19, 20, 21, 22, 23, 24, 25, 26, 27, 28, 29, 30, 31, 32, 33, 34, 35, 36, 37, 38, 39, 40, 41, 42, 43, 44, 45, 46, 47, 53, 54, 55, 56, 57, 58, 59, 60, 61, 62, 63, 64, 65] (by decide +kernel) (by decide +kernel)
set_option maxRecDepth 20000 in
theorem gL_alike_X4_of : GoodIn wsL_alike (wsV RL 43 RX4 yX4_of wsX4_of) := goodIn_app (goodIn_of _ (by decide +kernel)) ggL_alike_X4_of
set_option maxRecDepth 20000 in
theorem ggL_alike_X4_number : GoodIn wsL_alike wsX4_number := goodIn_r _ [51, 6, 7, 8, 9, 10, 11, 12, 13, 14, 15, 16, 17, 18, 52, 24, 25, 26, 27, 53, 54, 55, 56, 57, 58, 59, 60, 61, 62, 63, 64, 65] (by decide +kernel) (by decide +kernel)
set_option maxRecDepth 20000 in
theorem gL_alike_X4_number : GoodIn wsL_alike (wsV RL 30 RX4 yX4_number wsX4_number) := goodIn_app (goodIn_of _ (by decide +kernel)) ggL_alike_X4_number
theorem dL_alike_0 : decode cL_alike 0 = .ok (.aload_n 0, 1) := by decide +kernel
theorem dL_alike_1 : decode cL_alike 1 = .ok (.iload_n 1, 1) := by decide +kernel
theorem dL_alike_2 : decode cL_alike 2 = .ok (.iconst 0, 1) := by decide +kernel
theorem dL_alike_3 : decode cL_alike 3 = .ok (.invokevirtual 43, 3) := by decide +kernel
theorem dL_alike_6 : decode cL_alike 6 = .ok (.aload_n 0, 1) := by decide +kernel
theorem dL_alike_7 : decode cL_alike 7 = .ok (.iload_n 2, 1) := by decide +kernel
theorem dL_alike_8 : decode cL_alike 8 = .ok (.iconst 0, 1) := by decide +kernel
theorem dL_alike_9 : decode cL_alike 9 = .ok (.invokevirtual 43, 3) := by decide +kernel
theorem dL_alike_12 : decode cL_alike 12 = .ok (.if_icmp .ne 7, 3) := by decide +kernel
theorem dL_alike_15 : decode cL_alike 15 = .ok (.iconst 1, 1) := by decide +kernel
theorem dL_alike_16 : decode cL_alike 16 = .ok (.goto 4, 3) := by decide +kernel
theorem dL_alike_19 : decode cL_alike 19 = .ok (.iconst 0, 1) := by decide +kernel
theorem dL_alike_20 : decode cL_alike 20 = .ok (.istore_n 3, 1) := by decide +kernel
theorem dL_alike_21 : decode cL_alike 21 = .ok (.iconst 0, 1) := by decide +kernel
theorem dL_alike_22 : decode cL_alike 22 = .ok (.istore 4, 2) := by decide +kernel
theorem dL_alike_24 : decode cL_alike 24 = .ok (.iload 4, 2) := by decide +kernel
theorem dL_alike_26 : decode cL_alike 26 = .ok (.aload_n 0, 1) := by decide +kernel
theorem dL_alike_27 : decode cL_alike 27 = .ok (.iload_n 1, 1) := by decide +kernel
theorem dL_alike_28 : decode cL_alike 28 = .ok (.iconst 0, 1) := by decide +kernel
theorem dL_alike_29 : decode cL_alike 29 = .ok (.invokevirtual 43, 3) := by decide +kernel
theorem dL_alike_32 : decode cL_alike 32 = .ok (.if_icmp .ge 36, 3) := by decide +kernel
theorem dL_alike_35 : decode cL_alike 35 = .ok (.iload_n 3, 1) := by decide +kernel
theorem dL_alike_36 : decode cL_alike 36 = .ok (.ifCond .eq 32, 3) := by decide +kernel
theorem dL_alike_39 : decode cL_alike 39 = .ok (.aload_n 0, 1) := by decide +kernel
theorem dL_alike_40 : decode cL_alike 40 = .ok (.iload_n 1, 1) := by decide +kernel
theorem dL_alike_41 : decode cL_alike 41 = .ok (.iload 4, 2) := by decide +kernel
theorem dL_alike_43 : decode cL_alike 43 = .ok (.invokevirtual 30, 3) := by decide +kernel
theorem dL_alike_46 : decode cL_alike 46 = .ok (.aload_n 0, 1) := by decide +kernel
theorem dL_alike_47 : decode cL_alike 47 = .ok (.iload_n 2, 1) := by decide +kernel
theorem dL_alike_48 : decode cL_alike 48 = .ok (.iload 4, 2) := by decide +kernel
theorem dL_alike_50 : decode cL_alike 50 = .ok (.invokevirtual 30, 3) := by decide +kernel
theorem dL_alike_53 : decode cL_alike 53 = .ok (.if_icmp .ne 7, 3) := by decide +kernel
theorem dL_alike_56 : decode cL_alike 56 = .ok (.iconst 1, 1) := by decide +kernel
theorem dL_alike_57 : decode cL_alike 57 = .ok (.goto 4, 3) := by decide +kernel
theorem dL_alike_60 : decode cL_alike 60 = .ok (.iconst 0, 1) := by decide +kernel
theorem dL_alike_61 : decode cL_alike 61 = .ok (.istore_n 3, 1) := by decide +kernel
theorem dL_alike_62 : decode cL_alike 62 = .ok (.iinc 4 1, 3) := by decide +kernel
theorem dL_alike_65 : decode cL_alike 65 = .ok (.goto (-41), 3) := by decide +kernel
theorem dL_alike_68 : decode cL_alike 68 = .ok (.iload_n 3, 1) := by decide +kernel
theorem dL_alike_69 : decode cL_alike 69 = .ok (.ireturn, 1) := by decide +kernel
set_option maxRecDepth 20000 in
theorem ggL_inverse_X4_inverse : GoodIn wsL_inverse wsX4_inverse := goodIn_r _ [5, 6, 7, 8, 9, 10, 11, 12, 13, 14, 15, 16, 17, 18, 19, 20, 21, 4, 22, 23, 24, 25, 26, 27, 28, 29, 30, 31, 32, 33, 34, 35, 36, 37, 38, 39, 40, 41, 42, 43, 44, 45, 46, 47, 48, 49, 50, 51, 52, 53, 54, 55, 56, 57, 58, 59, 60, 61, 62, 63, 64, 65, 66, 67, 68, 69, 70, 71, 72, 73, 74, 75, 76, 77, 78, 79, 119, 120, 121, 122, 123, 124, 125, 126, 127, 128, 129, 130, 131, 132, 133] (by decide +kernel) (by decide +kernel)
set_option maxRecDepth 20000 in
theorem gL_inverse_X4_inverse : GoodIn wsL_inverse (wsV RL 73 RX4 yX4_inverse wsX4_inverse) := goodIn_app (goodIn_of _ (by decide +kernel)) ggL_inverse_X4_inverse
set_option maxRecDepth 20000 in
theorem ggL_inverse_X4_number : GoodIn wsL_inverse wsX4_number := goodIn_r _ [83, 6, 8, 9, 10, 11, 12, 13, 84, 85, 86, 17, 87, 33, 14, 15, 16, 18, 19, 119, 120, 121, 122, 123, 124, 125, 126, 127, 128, 129, 130, 131] (by decide +kernel) (by decide +kernel)
set_option maxRecDepth 20000 in
theorem gL_inverse_X4_number : GoodIn wsL_inverse (wsV RL 30 RX4 yX4_number wsX4_number) := goodIn_app (goodIn_of _ (by decide +kernel)) ggL_inverse_X4_number
set_option maxRecDepth 20000 in
theorem ggL_inverse_L_degree : GoodIn wsL_inverse wsL_degree := goodIn_r _ [91, 92, 93, 94, 4, 95, 6, 8, 9, 10, 11, 12, 13, 84, 85, 86, 17, 87, 33, 75, 76, 77, 78, 79, 15, 16, 18, 19, 96, 97, 98, 99, 100, 101, 102, 103, 104, 105, 106, 107, 108, 109, 110, 111, 112, 113, 114, 115, 80, 81, 82, 83, 14, 119, 120, 121, 122, 123, 124, 125, 126, 127, 128, 129, 130, 131] (by decide +kernel) (by decide +kernel)
set_option maxRecDepth 20000 in
theorem gL_inverse_L_degree : GoodIn wsL_inverse (va_wsS RL 52 yL_degree wsL_degree) := goodIn_app (goodIn_of _ (by decide +kernel)) ggL_inverse_L_degree
set_option maxRecDepth 20000 in
theorem ggL_inverse_X4_of : GoodIn wsL_inverse wsX4_of := goodIn_r _ [95, 6, 8, 9, 10, 11, 12, 13, 84, 85, 86, 17, 87, 33, 75, 76, 77, 78, 79, 15, 16, 18, 19, 96, 97, 98, 99, 100, 101, 102, 103, 104, 105, 106, 107, 108, 109, 110, 111, 112, 113, 114, 115, 119, 120, 121, 122, 123, 124, 125, 126, 127, 128, 129, 130, 131] (by decide +kernel) (by decide +kernel)
set_option maxRecDepth 20000 in
theorem gL_inverse_X4_of : GoodIn wsL_inverse (wsV RL 43 RX4 yX4_of wsX4_of) := goodIn_app (goodIn_of _ (by decide +kernel)) ggL_inverse_X4_of
set_option maxRecDepth 20000 in
theorem ggL_inverse_L_at : GoodIn wsL_inverse wsL_at := goodIn_r _ [118, 92, 93, 94, 4, 95, 6, 8, 9, 10, 11, 12, 13, 84, 85, 86, 17, 87, 33, 75, 76, 77, 78, 79, 15, 16, 18, 19, 96, 97, 98, 99, 100, 101, 102, 103, 104, 105, 106, 107, 108, 109, 110, 111, 112, 113, 114, 115, 80, 81, 82, 83, 14, 119, 120, 121, 122, 123, 124, 125, 126, 127, 128, 129, 130, 131] (by decide +kernel) (by decide +kernel)
set_option maxRecDepth 20000 in
theorem gL_inverse_L_at : GoodIn wsL_inverse (va_wsS RL 76 yL_at wsL_at) := goodIn_app (goodIn_of _ (by decide +kernel)) ggL_inverse_L_at
theorem dL_inverse_0 : decode cL_inverse 0 = .ok (.aload_n 0, 1) := by decide +kernel
theorem dL_inverse_1 : decode cL_inverse 1 = .ok (.iconst 0, 1) := by decide +kernel
theorem dL_inverse_2 : decode cL_inverse 2 = .ok (.iload_n 1, 1) := by decide +kernel
theorem dL_inverse_3 : decode cL_inverse 3 = .ok (.iconst 2, 1) := by decide +kernel
theorem dL_inverse_4 : decode cL_inverse 4 = .ok (.invokevirtual 73, 3) := by decide +kernel
theorem dL_inverse_7 : decode cL_inverse 7 = .ok (.istore_n 2, 1) := by decide +kernel
theorem dL_inverse_8 : decode cL_inverse 8 = .ok (.aload_n 0, 1) := by decide +kernel
theorem dL_inverse_9 : decode cL_inverse 9 = .ok (.iconst 0, 1) := by decide +kernel
theorem dL_inverse_10 : decode cL_inverse 10 = .ok (.iconst 0, 1) := by decide +kernel
theorem dL_inverse_11 : decode cL_inverse 11 = .ok (.invokevirtual 30, 3) := by decide +kernel
theorem dL_inverse_14 : decode cL_inverse 14 = .ok (.ifCond .ne 15, 3) := by decide +kernel
theorem dL_inverse_17 : decode cL_inverse 17 = .ok (.iload_n 2, 1) := by decide +kernel
theorem dL_inverse_18 : decode cL_inverse 18 = .ok (.bipush (-5), 2) := by decide +kernel
theorem dL_inverse_20 : decode cL_inverse 20 = .ok (.if_icmp .ne 7, 3) := by decide +kernel
theorem dL_inverse_23 : decode cL_inverse 23 = .ok (.iconst 1, 1) := by decide +kernel
theorem dL_inverse_24 : decode cL_inverse 24 = .ok (.goto 4, 3) := by decide +kernel
theorem dL_inverse_27 : decode cL_inverse 27 = .ok (.iconst 0, 1) := by decide +kernel
theorem dL_inverse_28 : decode cL_inverse 28 = .ok (.ireturn, 1) := by decide +kernel
theorem dL_inverse_29 : decode cL_inverse 29 = .ok (.iload_n 2, 1) := by decide +kernel
theorem dL_inverse_30 : decode cL_inverse 30 = .ok (.aload_n 0, 1) := by decide +kernel
theorem dL_inverse_31 : decode cL_inverse 31 = .ok (.iconst 2, 1) := by decide +kernel
theorem dL_inverse_32 : decode cL_inverse 32 = .ok (.invokestatic 52, 3) := by decide +kernel
theorem dL_inverse_35 : decode cL_inverse 35 = .ok (.if_icmp .ne 42, 3) := by decide +kernel
theorem dL_inverse_38 : decode cL_inverse 38 = .ok (.iload_n 2, 1) := by decide +kernel
theorem dL_inverse_39 : decode cL_inverse 39 = .ok (.ifCond .lt 38, 3) := by decide +kernel
theorem dL_inverse_42 : decode cL_inverse 42 = .ok (.aload_n 0, 1) := by decide +kernel
theorem dL_inverse_43 : decode cL_inverse 43 = .ok (.iconst 2, 1) := by decide +kernel
theorem dL_inverse_44 : decode cL_inverse 44 = .ok (.iconst 0, 1) := by decide +kernel
theorem dL_inverse_45 : decode cL_inverse 45 = .ok (.invokevirtual 43, 3) := by decide +kernel
theorem dL_inverse_48 : decode cL_inverse 48 = .ok (.iload_n 1, 1) := by decide +kernel
theorem dL_inverse_49 : decode cL_inverse 49 = .ok (.if_icmp .ne 28, 3) := by decide +kernel
theorem dL_inverse_52 : decode cL_inverse 52 = .ok (.aload_n 0, 1) := by decide +kernel
theorem dL_inverse_53 : decode cL_inverse 53 = .ok (.iconst 2, 1) := by decide +kernel
theorem dL_inverse_54 : decode cL_inverse 54 = .ok (.iconst 0, 1) := by decide +kernel
theorem dL_inverse_55 : decode cL_inverse 55 = .ok (.invokevirtual 30, 3) := by decide +kernel
theorem dL_inverse_58 : decode cL_inverse 58 = .ok (.aload_n 0, 1) := by decide +kernel
theorem dL_inverse_59 : decode cL_inverse 59 = .ok (.iconst 0, 1) := by decide +kernel
theorem dL_inverse_60 : decode cL_inverse 60 = .ok (.iconst 0, 1) := by decide +kernel
theorem dL_inverse_61 : decode cL_inverse 61 = .ok (.invokevirtual 30, 3) := by decide +kernel
theorem dL_inverse_64 : decode cL_inverse 64 = .ok (.imul, 1) := by decide +kernel
theorem dL_inverse_65 : decode cL_inverse 65 = .ok (.sipush 257, 3) := by decide +kernel
theorem dL_inverse_68 : decode cL_inverse 68 = .ok (.irem, 1) := by decide +kernel
theorem dL_inverse_69 : decode cL_inverse 69 = .ok (.iconst 1, 1) := by decide +kernel
theorem dL_inverse_70 : decode cL_inverse 70 = .ok (.if_icmp .ne 7, 3) := by decide +kernel
theorem dL_inverse_73 : decode cL_inverse 73 = .ok (.iconst 1, 1) := by decide +kernel
theorem dL_inverse_74 : decode cL_inverse 74 = .ok (.goto 4, 3) := by decide +kernel
theorem dL_inverse_77 : decode cL_inverse 77 = .ok (.iconst 0, 1) := by decide +kernel
theorem dL_inverse_78 : decode cL_inverse 78 = .ok (.istore_n 3, 1) := by decide +kernel
theorem dL_inverse_79 : decode cL_inverse 79 = .ok (.iconst 1, 1) := by decide +kernel
theorem dL_inverse_80 : decode cL_inverse 80 = .ok (.istore 4, 2) := by decide +kernel
theorem dL_inverse_82 : decode cL_inverse 82 = .ok (.iload 4, 2) := by decide +kernel
theorem dL_inverse_84 : decode cL_inverse 84 = .ok (.iload_n 1, 1) := by decide +kernel
theorem dL_inverse_85 : decode cL_inverse 85 = .ok (.if_icmp .ge 70, 3) := by decide +kernel
theorem dL_inverse_88 : decode cL_inverse 88 = .ok (.iconst 0, 1) := by decide +kernel
theorem dL_inverse_89 : decode cL_inverse 89 = .ok (.istore 5, 2) := by decide +kernel
theorem dL_inverse_91 : decode cL_inverse 91 = .ok (.iconst 0, 1) := by decide +kernel
theorem dL_inverse_92 : decode cL_inverse 92 = .ok (.istore 6, 2) := by decide +kernel
theorem dL_inverse_94 : decode cL_inverse 94 = .ok (.iload 6, 2) := by decide +kernel
theorem dL_inverse_96 : decode cL_inverse 96 = .ok (.iload 4, 2) := by decide +kernel
theorem dL_inverse_98 : decode cL_inverse 98 = .ok (.if_icmp .gt 36, 3) := by decide +kernel
theorem dL_inverse_101 : decode cL_inverse 101 = .ok (.iload 5, 2) := by decide +kernel
theorem dL_inverse_103 : decode cL_inverse 103 = .ok (.aload_n 0, 1) := by decide +kernel
theorem dL_inverse_104 : decode cL_inverse 104 = .ok (.iconst 0, 1) := by decide +kernel
theorem dL_inverse_105 : decode cL_inverse 105 = .ok (.iload 6, 2) := by decide +kernel
theorem dL_inverse_107 : decode cL_inverse 107 = .ok (.invokestatic 76, 3) := by decide +kernel
theorem dL_inverse_110 : decode cL_inverse 110 = .ok (.aload_n 0, 1) := by decide +kernel
theorem dL_inverse_111 : decode cL_inverse 111 = .ok (.iconst 2, 1) := by decide +kernel
theorem dL_inverse_112 : decode cL_inverse 112 = .ok (.iload 4, 2) := by decide +kernel
theorem dL_inverse_114 : decode cL_inverse 114 = .ok (.iload 6, 2) := by decide +kernel
theorem dL_inverse_116 : decode cL_inverse 116 = .ok (.isub, 1) := by decide +kernel
theorem dL_inverse_117 : decode cL_inverse 117 = .ok (.invokevirtual 30, 3) := by decide +kernel
theorem dL_inverse_120 : decode cL_inverse 120 = .ok (.imul, 1) := by decide +kernel
theorem dL_inverse_121 : decode cL_inverse 121 = .ok (.iadd, 1) := by decide +kernel
theorem dL_inverse_122 : decode cL_inverse 122 = .ok (.sipush 257, 3) := by decide +kernel
theorem dL_inverse_125 : decode cL_inverse 125 = .ok (.irem, 1) := by decide +kernel
theorem dL_inverse_126 : decode cL_inverse 126 = .ok (.istore 5, 2) := by decide +kernel
theorem dL_inverse_128 : decode cL_inverse 128 = .ok (.iinc 6 1, 3) := by decide +kernel
theorem dL_inverse_131 : decode cL_inverse 131 = .ok (.goto (-37), 3) := by decide +kernel
theorem dL_inverse_134 : decode cL_inverse 134 = .ok (.iload_n 3, 1) := by decide +kernel
theorem dL_inverse_135 : decode cL_inverse 135 = .ok (.ifCond .eq 12, 3) := by decide +kernel
theorem dL_inverse_138 : decode cL_inverse 138 = .ok (.iload 5, 2) := by decide +kernel
theorem dL_inverse_140 : decode cL_inverse 140 = .ok (.ifCond .ne 7, 3) := by decide +kernel
theorem dL_inverse_143 : decode cL_inverse 143 = .ok (.iconst 1, 1) := by decide +kernel
theorem dL_inverse_144 : decode cL_inverse 144 = .ok (.goto 4, 3) := by decide +kernel
theorem dL_inverse_147 : decode cL_inverse 147 = .ok (.iconst 0, 1) := by decide +kernel
theorem dL_inverse_148 : decode cL_inverse 148 = .ok (.istore_n 3, 1) := by decide +kernel
theorem dL_inverse_149 : decode cL_inverse 149 = .ok (.iinc 4 1, 3) := by decide +kernel
theorem dL_inverse_152 : decode cL_inverse 152 = .ok (.goto (-70), 3) := by decide +kernel
theorem dL_inverse_155 : decode cL_inverse 155 = .ok (.iload_n 3, 1) := by decide +kernel
theorem dL_inverse_156 : decode cL_inverse 156 = .ok (.ireturn, 1) := by decide +kernel
set_option maxRecDepth 20000 in
theorem ggL_turns_X4_turn : GoodIn wsL_turns wsX4_turn := goodIn_r _ [5, 6, 7, 8, 9, 10, 11, 12, 13, 14, 15, 4, 16, 17, 18, 19, 20, 21, 22, 23, 24, 25, 26, 27, 28, 29, 30, 31, 32, 33, 34, 35, 36, 37, 38, 39, 40, 41, 42, 43, 44, 45, 46, 47, 48, 49, 50, 51, 52, 53, 54, 55, 56, 57, 58, 59, 60, 61, 62, 63, 64, 65, 66, 67, 68, 69, 70, 71, 72, 73, 74, 75, 76, 77, 78, 79, 80, 81, 82, 83, 84, 85, 86, 139, 140, 141, 142, 143, 144, 145, 146, 147, 148, 149, 150, 151, 152, 153] (by decide +kernel) (by decide +kernel)
set_option maxRecDepth 20000 in
theorem gL_turns_X4_turn : GoodIn wsL_turns (wsV RL 79 RX4 yX4_turn wsX4_turn) := goodIn_app (goodIn_of _ (by decide +kernel)) ggL_turns_X4_turn
set_option maxRecDepth 20000 in
theorem ggL_turns_X4_of : GoodIn wsL_turns wsX4_of := goodIn_r _ [90, 6, 8, 9, 10, 11, 12, 13, 20, 21, 22, 23, 24, 25, 91, 92, 93, 94, 42, 43, 44, 45, 33, 83, 84, 85, 86, 95, 96, 97, 98, 99, 100, 101, 102, 103, 39, 40, 41, 104, 105, 106, 107, 139, 140, 141, 142, 143, 144, 145, 146, 147, 148, 149, 150, 151] (by decide +kernel) (by decide +kernel)
set_option maxRecDepth 20000 in
theorem gL_turns_X4_of : GoodIn wsL_turns (wsV RL 43 RX4 yX4_of wsX4_of) := goodIn_app (goodIn_of _ (by decide +kernel)) ggL_turns_X4_of
set_option maxRecDepth 20000 in
theorem ggL_turns_X4_turningPoint : GoodIn wsL_turns wsX4_turningPoint := goodIn_r _ [111, 14, 15, 4, 16, 17, 18, 19] (by decide +kernel) (by decide +kernel)
set_option maxRecDepth 20000 in
theorem gL_turns_X4_turningPoint : GoodIn wsL_turns (wsV RL 82 RX4 yX4_turningPoint wsX4_turningPoint) := goodIn_app (goodIn_of _ (by decide +kernel)) ggL_turns_X4_turningPoint
set_option maxRecDepth 20000 in
theorem ggL_turns_X4_number : GoodIn wsL_turns wsX4_number := goodIn_r _ [115, 6, 8, 9, 10, 11, 12, 13, 20, 21, 22, 23, 24, 25, 116, 43, 44, 45, 33, 139, 140, 141, 142, 143, 144, 145, 146, 147, 148, 149, 150, 151] (by decide +kernel) (by decide +kernel)
set_option maxRecDepth 20000 in
theorem gL_turns_X4_number : GoodIn wsL_turns (wsV RL 30 RX4 yX4_number wsX4_number) := goodIn_app (goodIn_of _ (by decide +kernel)) ggL_turns_X4_number
set_option maxRecDepth 20000 in
theorem ggL_turns_L_value : GoodIn wsL_turns wsL_value := goodIn_r _ [120, 87, 88, 89, 4, 90, 6, 8, 9, 10, 11, 12, 13, 20, 21, 22, 23, 24, 25, 91, 92, 93, 94, 42, 43, 44, 45, 33, 83, 84, 85, 86, 95, 96, 97, 98, 99, 100, 101, 102, 103, 39, 40, 41, 104, 105, 106, 107, 112, 113, 114, 115, 116, 139, 140, 141, 142, 143, 144, 145, 146, 147, 148, 149, 150, 151] (by decide +kernel) (by decide +kernel)
set_option maxRecDepth 20000 in
theorem gL_turns_L_value : GoodIn wsL_turns (va_wsS RL 46 yL_value wsL_value) := goodIn_app (goodIn_of _ (by decide +kernel)) ggL_turns_L_value
set_option maxRecDepth 20000 in
theorem ggL_turns_X4_turnBack : GoodIn wsL_turns wsX4_turnBack := goodIn_r _ [124, 6, 7, 8, 9, 10, 11, 12, 13, 20, 21, 22, 23, 24, 25, 14, 15, 4, 16, 17, 18, 19, 125, 126, 127, 26, 27, 28, 29, 30, 31, 32, 33, 34, 35, 36, 37, 38, 39, 40, 41, 42, 43, 44, 45, 46, 47, 48, 49, 50, 51, 52, 53, 128, 129, 130, 131, 132, 54, 55, 56, 57, 58, 59, 60, 61, 62, 63, 64, 65, 66, 67, 68, 69, 70, 71, 72, 73, 74, 75, 76, 77, 78, 79, 80, 81, 82, 91, 92, 93, 94, 139, 140, 141, 142, 143, 144, 145, 146, 147, 148, 149, 150, 151, 152, 153] (by decide +kernel) (by decide +kernel)
set_option maxRecDepth 20000 in
theorem gL_turns_X4_turnBack : GoodIn wsL_turns (wsV RL 85 RX4 yX4_turnBack wsX4_turnBack) := goodIn_app (goodIn_of _ (by decide +kernel)) ggL_turns_X4_turnBack
set_option maxRecDepth 20000 in
theorem ggL_turns_L_degree : GoodIn wsL_turns wsL_degree := goodIn_r _ [135, 87, 88, 89, 4, 90, 6, 8, 9, 10, 11, 12, 13, 20, 21, 22, 23, 24, 25, 91, 92, 93, 94, 42, 43, 44, 45, 33, 83, 84, 85, 86, 95, 96, 97, 98, 99, 100, 101, 102, 103, 39, 40, 41, 104, 105, 106, 107, 112, 113, 114, 115, 116, 139, 140, 141, 142, 143, 144, 145, 146, 147, 148, 149, 150, 151] (by decide +kernel) (by decide +kernel)
set_option maxRecDepth 20000 in
theorem gL_turns_L_degree : GoodIn wsL_turns (va_wsS RL 52 yL_degree wsL_degree) := goodIn_app (goodIn_of _ (by decide +kernel)) ggL_turns_L_degree
set_option maxRecDepth 20000 in
theorem ggL_turns_L_at : GoodIn wsL_turns wsL_at := goodIn_r _ [138, 87, 88, 89, 4, 90, 6, 8, 9, 10, 11, 12, 13, 20, 21, 22, 23, 24, 25, 91, 92, 93, 94, 42, 43, 44, 45, 33, 83, 84, 85, 86, 95, 96, 97, 98, 99, 100, 101, 102, 103, 39, 40, 41, 104, 105, 106, 107, 112, 113, 114, 115, 116, 139, 140, 141, 142, 143, 144, 145, 146, 147, 148, 149, 150, 151] (by decide +kernel) (by decide +kernel)
set_option maxRecDepth 20000 in
theorem gL_turns_L_at : GoodIn wsL_turns (va_wsS RL 76 yL_at wsL_at) := goodIn_app (goodIn_of _ (by decide +kernel)) ggL_turns_L_at
theorem dL_turns_0 : decode cL_turns 0 = .ok (.aload_n 0, 1) := by decide +kernel
theorem dL_turns_1 : decode cL_turns 1 = .ok (.iconst 0, 1) := by decide +kernel
theorem dL_turns_2 : decode cL_turns 2 = .ok (.iload_n 1, 1) := by decide +kernel
theorem dL_turns_3 : decode cL_turns 3 = .ok (.iconst 2, 1) := by decide +kernel
theorem dL_turns_4 : decode cL_turns 4 = .ok (.invokevirtual 79, 3) := by decide +kernel
theorem dL_turns_7 : decode cL_turns 7 = .ok (.istore_n 2, 1) := by decide +kernel
theorem dL_turns_8 : decode cL_turns 8 = .ok (.aload_n 0, 1) := by decide +kernel
theorem dL_turns_9 : decode cL_turns 9 = .ok (.iconst 0, 1) := by decide +kernel
theorem dL_turns_10 : decode cL_turns 10 = .ok (.iconst 0, 1) := by decide +kernel
theorem dL_turns_11 : decode cL_turns 11 = .ok (.invokevirtual 43, 3) := by decide +kernel
theorem dL_turns_14 : decode cL_turns 14 = .ok (.iload_n 1, 1) := by decide +kernel
theorem dL_turns_15 : decode cL_turns 15 = .ok (.if_icmp .le 15, 3) := by decide +kernel
theorem dL_turns_18 : decode cL_turns 18 = .ok (.iload_n 2, 1) := by decide +kernel
theorem dL_turns_19 : decode cL_turns 19 = .ok (.bipush (-5), 2) := by decide +kernel
theorem dL_turns_21 : decode cL_turns 21 = .ok (.if_icmp .ne 7, 3) := by decide +kernel
theorem dL_turns_24 : decode cL_turns 24 = .ok (.iconst 1, 1) := by decide +kernel
theorem dL_turns_25 : decode cL_turns 25 = .ok (.goto 4, 3) := by decide +kernel
theorem dL_turns_28 : decode cL_turns 28 = .ok (.iconst 0, 1) := by decide +kernel
theorem dL_turns_29 : decode cL_turns 29 = .ok (.ireturn, 1) := by decide +kernel
theorem dL_turns_30 : decode cL_turns 30 = .ok (.aload_n 0, 1) := by decide +kernel
theorem dL_turns_31 : decode cL_turns 31 = .ok (.iload_n 1, 1) := by decide +kernel
theorem dL_turns_32 : decode cL_turns 32 = .ok (.iconst 1, 1) := by decide +kernel
theorem dL_turns_33 : decode cL_turns 33 = .ok (.invokevirtual 82, 3) := by decide +kernel
theorem dL_turns_36 : decode cL_turns 36 = .ok (.istore_n 3, 1) := by decide +kernel
theorem dL_turns_37 : decode cL_turns 37 = .ok (.iconst 1, 1) := by decide +kernel
theorem dL_turns_38 : decode cL_turns 38 = .ok (.istore 4, 2) := by decide +kernel
theorem dL_turns_40 : decode cL_turns 40 = .ok (.iconst 0, 1) := by decide +kernel
theorem dL_turns_41 : decode cL_turns 41 = .ok (.istore 5, 2) := by decide +kernel
theorem dL_turns_43 : decode cL_turns 43 = .ok (.iconst 0, 1) := by decide +kernel
theorem dL_turns_44 : decode cL_turns 44 = .ok (.istore 6, 2) := by decide +kernel
theorem dL_turns_46 : decode cL_turns 46 = .ok (.iload 6, 2) := by decide +kernel
theorem dL_turns_48 : decode cL_turns 48 = .ok (.iload_n 1, 1) := by decide +kernel
theorem dL_turns_49 : decode cL_turns 49 = .ok (.if_icmp .ge 86, 3) := by decide +kernel
theorem dL_turns_52 : decode cL_turns 52 = .ok (.aload_n 0, 1) := by decide +kernel
theorem dL_turns_53 : decode cL_turns 53 = .ok (.iload_n 1, 1) := by decide +kernel
theorem dL_turns_54 : decode cL_turns 54 = .ok (.iload 6, 2) := by decide +kernel
theorem dL_turns_56 : decode cL_turns 56 = .ok (.invokevirtual 82, 3) := by decide +kernel
theorem dL_turns_59 : decode cL_turns 59 = .ok (.iload 4, 2) := by decide +kernel
theorem dL_turns_61 : decode cL_turns 61 = .ok (.if_icmp .ne 20, 3) := by decide +kernel
theorem dL_turns_64 : decode cL_turns 64 = .ok (.aload_n 0, 1) := by decide +kernel
theorem dL_turns_65 : decode cL_turns 65 = .ok (.iconst 2, 1) := by decide +kernel
theorem dL_turns_66 : decode cL_turns 66 = .ok (.iload 6, 2) := by decide +kernel
theorem dL_turns_68 : decode cL_turns 68 = .ok (.invokevirtual 30, 3) := by decide +kernel
theorem dL_turns_71 : decode cL_turns 71 = .ok (.aload_n 0, 1) := by decide +kernel
theorem dL_turns_72 : decode cL_turns 72 = .ok (.iconst 0, 1) := by decide +kernel
theorem dL_turns_73 : decode cL_turns 73 = .ok (.iload 4, 2) := by decide +kernel
theorem dL_turns_75 : decode cL_turns 75 = .ok (.invokestatic 46, 3) := by decide +kernel
theorem dL_turns_78 : decode cL_turns 78 = .ok (.if_icmp .eq 5, 3) := by decide +kernel
theorem dL_turns_81 : decode cL_turns 81 = .ok (.iconst 0, 1) := by decide +kernel
theorem dL_turns_82 : decode cL_turns 82 = .ok (.ireturn, 1) := by decide +kernel
theorem dL_turns_83 : decode cL_turns 83 = .ok (.iload 5, 2) := by decide +kernel
theorem dL_turns_85 : decode cL_turns 85 = .ok (.aload_n 0, 1) := by decide +kernel
theorem dL_turns_86 : decode cL_turns 86 = .ok (.iconst 2, 1) := by decide +kernel
theorem dL_turns_87 : decode cL_turns 87 = .ok (.iload 6, 2) := by decide +kernel
theorem dL_turns_89 : decode cL_turns 89 = .ok (.invokevirtual 30, 3) := by decide +kernel
theorem dL_turns_92 : decode cL_turns 92 = .ok (.ifCond .ne 7, 3) := by decide +kernel
theorem dL_turns_95 : decode cL_turns 95 = .ok (.iconst 1, 1) := by decide +kernel
theorem dL_turns_96 : decode cL_turns 96 = .ok (.goto 4, 3) := by decide +kernel
theorem dL_turns_99 : decode cL_turns 99 = .ok (.iconst 0, 1) := by decide +kernel
theorem dL_turns_100 : decode cL_turns 100 = .ok (.iadd, 1) := by decide +kernel
theorem dL_turns_101 : decode cL_turns 101 = .ok (.istore 5, 2) := by decide +kernel
theorem dL_turns_103 : decode cL_turns 103 = .ok (.iload 4, 2) := by decide +kernel
theorem dL_turns_105 : decode cL_turns 105 = .ok (.iload_n 3, 1) := by decide +kernel
theorem dL_turns_106 : decode cL_turns 106 = .ok (.imul, 1) := by decide +kernel
theorem dL_turns_107 : decode cL_turns 107 = .ok (.sipush 257, 3) := by decide +kernel
theorem dL_turns_110 : decode cL_turns 110 = .ok (.irem, 1) := by decide +kernel
theorem dL_turns_111 : decode cL_turns 111 = .ok (.istore 4, 2) := by decide +kernel
theorem dL_turns_113 : decode cL_turns 113 = .ok (.iload 4, 2) := by decide +kernel
theorem dL_turns_115 : decode cL_turns 115 = .ok (.iconst 1, 1) := by decide +kernel
theorem dL_turns_116 : decode cL_turns 116 = .ok (.if_icmp .ne 13, 3) := by decide +kernel
theorem dL_turns_119 : decode cL_turns 119 = .ok (.iload 6, 2) := by decide +kernel
theorem dL_turns_121 : decode cL_turns 121 = .ok (.iconst 1, 1) := by decide +kernel
theorem dL_turns_122 : decode cL_turns 122 = .ok (.iadd, 1) := by decide +kernel
theorem dL_turns_123 : decode cL_turns 123 = .ok (.iload_n 1, 1) := by decide +kernel
theorem dL_turns_124 : decode cL_turns 124 = .ok (.if_icmp .ge 5, 3) := by decide +kernel
theorem dL_turns_127 : decode cL_turns 127 = .ok (.iconst 0, 1) := by decide +kernel
theorem dL_turns_128 : decode cL_turns 128 = .ok (.ireturn, 1) := by decide +kernel
theorem dL_turns_129 : decode cL_turns 129 = .ok (.iinc 6 1, 3) := by decide +kernel
theorem dL_turns_132 : decode cL_turns 132 = .ok (.goto (-86), 3) := by decide +kernel
theorem dL_turns_135 : decode cL_turns 135 = .ok (.iload 4, 2) := by decide +kernel
theorem dL_turns_137 : decode cL_turns 137 = .ok (.iconst 1, 1) := by decide +kernel
theorem dL_turns_138 : decode cL_turns 138 = .ok (.if_icmp .ne 43, 3) := by decide +kernel
theorem dL_turns_141 : decode cL_turns 141 = .ok (.iload_n 2, 1) := by decide +kernel
theorem dL_turns_142 : decode cL_turns 142 = .ok (.iload 5, 2) := by decide +kernel
theorem dL_turns_144 : decode cL_turns 144 = .ok (.if_icmp .ne 37, 3) := by decide +kernel
theorem dL_turns_147 : decode cL_turns 147 = .ok (.aload_n 0, 1) := by decide +kernel
theorem dL_turns_148 : decode cL_turns 148 = .ok (.iconst 2, 1) := by decide +kernel
theorem dL_turns_149 : decode cL_turns 149 = .ok (.iconst 0, 1) := by decide +kernel
theorem dL_turns_150 : decode cL_turns 150 = .ok (.invokevirtual 43, 3) := by decide +kernel
theorem dL_turns_153 : decode cL_turns 153 = .ok (.iload_n 1, 1) := by decide +kernel
theorem dL_turns_154 : decode cL_turns 154 = .ok (.if_icmp .ne 27, 3) := by decide +kernel
theorem dL_turns_157 : decode cL_turns 157 = .ok (.aload_n 0, 1) := by decide +kernel
theorem dL_turns_158 : decode cL_turns 158 = .ok (.iconst 2, 1) := by decide +kernel
theorem dL_turns_159 : decode cL_turns 159 = .ok (.iconst 3, 1) := by decide +kernel
theorem dL_turns_160 : decode cL_turns 160 = .ok (.invokevirtual 85, 3) := by decide +kernel
theorem dL_turns_163 : decode cL_turns 163 = .ok (.aload_n 0, 1) := by decide +kernel
theorem dL_turns_164 : decode cL_turns 164 = .ok (.iconst 0, 1) := by decide +kernel
theorem dL_turns_165 : decode cL_turns 165 = .ok (.invokestatic 52, 3) := by decide +kernel
theorem dL_turns_168 : decode cL_turns 168 = .ok (.if_icmp .ne 13, 3) := by decide +kernel
theorem dL_turns_171 : decode cL_turns 171 = .ok (.aload_n 0, 1) := by decide +kernel
theorem dL_turns_172 : decode cL_turns 172 = .ok (.iconst 3, 1) := by decide +kernel
theorem dL_turns_173 : decode cL_turns 173 = .ok (.iconst 0, 1) := by decide +kernel
theorem dL_turns_174 : decode cL_turns 174 = .ok (.invokevirtual 43, 3) := by decide +kernel
theorem dL_turns_177 : decode cL_turns 177 = .ok (.iload_n 1, 1) := by decide +kernel
theorem dL_turns_178 : decode cL_turns 178 = .ok (.if_icmp .eq 5, 3) := by decide +kernel
theorem dL_turns_181 : decode cL_turns 181 = .ok (.iconst 0, 1) := by decide +kernel
theorem dL_turns_182 : decode cL_turns 182 = .ok (.ireturn, 1) := by decide +kernel
theorem dL_turns_183 : decode cL_turns 183 = .ok (.iconst 0, 1) := by decide +kernel
theorem dL_turns_184 : decode cL_turns 184 = .ok (.istore 6, 2) := by decide +kernel
theorem dL_turns_186 : decode cL_turns 186 = .ok (.iload 6, 2) := by decide +kernel
theorem dL_turns_188 : decode cL_turns 188 = .ok (.iload_n 1, 1) := by decide +kernel
theorem dL_turns_189 : decode cL_turns 189 = .ok (.if_icmp .ge 28, 3) := by decide +kernel
theorem dL_turns_192 : decode cL_turns 192 = .ok (.aload_n 0, 1) := by decide +kernel
theorem dL_turns_193 : decode cL_turns 193 = .ok (.iconst 3, 1) := by decide +kernel
theorem dL_turns_194 : decode cL_turns 194 = .ok (.iload 6, 2) := by decide +kernel
theorem dL_turns_196 : decode cL_turns 196 = .ok (.invokevirtual 30, 3) := by decide +kernel
theorem dL_turns_199 : decode cL_turns 199 = .ok (.aload_n 0, 1) := by decide +kernel
theorem dL_turns_200 : decode cL_turns 200 = .ok (.iconst 0, 1) := by decide +kernel
theorem dL_turns_201 : decode cL_turns 201 = .ok (.iload 6, 2) := by decide +kernel
theorem dL_turns_203 : decode cL_turns 203 = .ok (.invokestatic 76, 3) := by decide +kernel
theorem dL_turns_206 : decode cL_turns 206 = .ok (.if_icmp .eq 5, 3) := by decide +kernel
theorem dL_turns_209 : decode cL_turns 209 = .ok (.iconst 0, 1) := by decide +kernel
theorem dL_turns_210 : decode cL_turns 210 = .ok (.ireturn, 1) := by decide +kernel
theorem dL_turns_211 : decode cL_turns 211 = .ok (.iinc 6 1, 3) := by decide +kernel
theorem dL_turns_214 : decode cL_turns 214 = .ok (.goto (-28), 3) := by decide +kernel
theorem dL_turns_217 : decode cL_turns 217 = .ok (.iconst 1, 1) := by decide +kernel
theorem dL_turns_218 : decode cL_turns 218 = .ok (.ireturn, 1) := by decide +kernel
set_option maxRecDepth 20000 in
theorem ggL_law_X4_init : GoodIn wsL_law wsX4_init := goodIn_r _ [5, 6, 7, 8, 9, 10, 11, 12, 13, 14, 15, 16, 17, 18, 19, 20, 21, 22, 23, 24, 25, 26, 27, 28, 29, 30, 31, 32, 33, 34, 35, 36, 37, 38, 39, 40, 41, 42, 43, 44, 45, 46, 47, 48, 49, 50, 51, 52, 53, 54, 55, 56, 327, 317, 318, 319, 320, 321, 322, 323, 324, 325, 326, 328, 329, 330, 331, 332, 333] (by decide +kernel) (by decide +kernel)
set_option maxRecDepth 20000 in
theorem gL_law_X4_init : GoodIn wsL_law (wsX4_init) := ggL_law_X4_init
set_option maxRecDepth 20000 in
theorem ggL_law_L_cell : GoodIn wsL_law wsL_cell := goodIn_r _ [60, 61, 62] (by decide +kernel) (by decide +kernel)
set_option maxRecDepth 20000 in
theorem gL_law_L_cell : GoodIn wsL_law (va_wsS RL 16 yL_cell wsL_cell) := goodIn_app (goodIn_of _ (by decide +kernel)) ggL_law_L_cell
set_option maxRecDepth 20000 in
theorem ggL_law_L_low : GoodIn wsL_law wsL_low := goodIn_r _ [65, 66] (by decide +kernel) (by decide +kernel)
set_option maxRecDepth 20000 in
theorem gL_law_L_low : GoodIn wsL_law (va_wsS RL 22 yL_low wsL_low) := goodIn_app (goodIn_of _ (by decide +kernel)) ggL_law_L_low
set_option maxRecDepth 20000 in
theorem ggL_law_L_fresh : GoodIn wsL_law wsL_fresh := goodIn_r _ [69, 70, 71, 72, 73, 2, 74, 20, 75, 76, 77, 19, 78, 56, 79, 80, 81, 82, 83, 84, 85, 86, 87, 88, 89, 90, 91, 92, 93, 94, 55, 95, 96, 97, 98, 12, 27, 99, 100, 101, 11, 102, 37, 103, 104, 105, 106, 107, 108, 109, 110, 111, 112, 113, 114, 115, 116, 26, 117, 42, 118, 119, 120, 121, 122, 123, 124, 125, 43, 126, 127, 128, 129, 130, 16, 131, 132, 133, 15, 134, 50, 49, 135, 136, 137, 138, 139, 140, 141, 142, 143, 144, 145, 146, 147, 148, 149, 150, 151, 152, 153, 154, 155, 317, 318, 319, 320, 321, 322, 323, 324, 325, 326, 330, 331, 327, 332, 333, 328, 329] (by decide +kernel) (by decide +kernel)
set_option maxRecDepth 20000 in
theorem gL_law_L_fresh : GoodIn wsL_law (va_wsS RL 89 yL_fresh wsL_fresh) := goodIn_app (goodIn_of _ (by decide +kernel)) ggL_law_L_fresh
set_option maxRecDepth 20000 in
theorem ggL_law_L_fill : GoodIn wsL_law wsL_fill := goodIn_r _ [158, 71, 72, 73, 2, 74, 20, 75, 76, 77, 19, 78, 56, 79, 80, 81, 82, 57, 58, 59, 60, 61, 62, 63, 64, 65, 66, 159, 160, 161, 162, 12, 16, 163, 111, 112, 113, 99, 100, 101, 11, 102, 37, 152, 153, 154, 26, 155, 43, 164, 165, 166, 131, 132, 133, 15, 134, 50, 49, 135, 136, 137, 138, 139, 140, 141, 142, 143, 144, 145, 146, 42, 147, 148, 149, 150, 167, 123, 124, 125, 126, 115, 116, 117, 118, 119, 120, 121, 168, 169, 170, 171, 172, 173, 174, 175, 176, 317, 318, 319, 320, 321, 322, 323, 324, 325, 326, 330, 331, 327, 332, 333, 328, 329] (by decide +kernel) (by decide +kernel)
set_option maxRecDepth 20000 in
theorem gL_law_L_fill : GoodIn wsL_law (va_wsS RL 93 yL_fill wsL_fill) := goodIn_app (goodIn_of _ (by decide +kernel)) ggL_law_L_fill
set_option maxRecDepth 20000 in
theorem ggL_law_X4_of : GoodIn wsL_law wsX4_of := goodIn_r _ [180, 12, 99, 100, 101, 11, 102, 37, 152, 153, 154, 26, 155, 43, 181, 182, 183, 184, 185, 174, 175, 176, 42, 186, 187, 188, 189, 190, 191, 192, 193, 194, 195, 196, 197, 198, 199, 200, 201, 202, 203, 204, 205, 317, 318, 319, 320, 321, 322, 323, 324, 325, 326, 327, 332, 333] (by decide +kernel) (by decide +kernel)
set_option maxRecDepth 20000 in
theorem gL_law_X4_of : GoodIn wsL_law (wsV RL 43 RX4 yX4_of wsX4_of) := goodIn_app (goodIn_of _ (by decide +kernel)) ggL_law_X4_of
set_option maxRecDepth 20000 in
theorem ggL_law_L_isRow : GoodIn wsL_law wsL_isRow := goodIn_r _ [208, 177, 178, 179, 2, 180, 12, 99, 100, 101, 11, 102, 37, 152, 153, 154, 26, 155, 43, 181, 182, 183, 184, 185, 174, 175, 176, 42, 186, 187, 188, 189, 190, 191, 192, 193, 194, 195, 196, 197, 198, 199, 200, 201, 202, 203, 204, 205, 169, 170, 171, 172, 173, 209, 210, 59, 211, 212, 213, 214, 215, 164, 165, 166, 216, 217, 218, 219, 317, 318, 319, 320, 321, 322, 323, 324, 325, 326, 327, 332, 333] (by decide +kernel) (by decide +kernel)
set_option maxRecDepth 20000 in
theorem gL_law_L_isRow : GoodIn wsL_law (va_wsS RL 97 yL_isRow wsL_isRow) := goodIn_app (goodIn_of _ (by decide +kernel)) ggL_law_L_isRow
set_option maxRecDepth 20000 in
theorem ggL_law_L_products : GoodIn wsL_law wsL_products := goodIn_r _ [222, 177, 178, 179, 2, 180, 12, 99, 100, 101, 11, 102, 37, 152, 153, 154, 26, 155, 43, 181, 182, 183, 184, 185, 174, 175, 176, 42, 186, 187, 188, 189, 190, 191, 192, 193, 194, 195, 196, 197, 198, 199, 200, 201, 202, 203, 204, 205, 223, 224, 225, 226, 27, 227, 228, 229, 230, 231, 232, 233, 234, 235, 236, 237, 238, 239, 240, 173, 168, 115, 116, 117, 118, 119, 120, 121, 241, 242, 243, 127, 128, 129, 130, 16, 131, 132, 133, 15, 134, 50, 49, 135, 136, 137, 138, 139, 140, 141, 142, 143, 144, 145, 146, 147, 148, 149, 150, 151, 244, 245, 246, 247, 163, 111, 112, 113, 164, 165, 166, 212, 213, 214, 215, 216, 217, 218, 59, 219, 169, 170, 171, 172, 317, 318, 319, 320, 321, 322, 323, 324, 325, 326, 327, 332, 333, 328, 329] (by decide +kernel) (by decide +kernel)
set_option maxRecDepth 20000 in
theorem gL_law_L_products : GoodIn wsL_law (va_wsS RL 100 yL_products wsL_products) := goodIn_app (goodIn_of _ (by decide +kernel)) ggL_law_L_products
set_option maxRecDepth 20000 in
theorem ggL_law_L_quotients : GoodIn wsL_law wsL_quotients := goodIn_r _ [250, 217, 218, 59, 219, 177, 178, 179, 2, 180, 12, 99, 100, 101, 11, 102, 37, 152, 153, 154, 26, 155, 43, 181, 182, 183, 184, 185, 174, 175, 176, 42, 186, 187, 188, 189, 190, 191, 192, 193, 194, 195, 196, 197, 198, 199, 200, 201, 202, 203, 204, 205, 169, 170, 171, 172, 173, 251, 252, 253, 254, 27, 28, 255, 256, 257, 163, 111, 112, 113, 258, 259, 260, 261, 262, 263, 233, 234, 235, 236, 237, 238, 239, 240, 151, 144, 145, 146, 147, 148, 149, 150, 168, 115, 116, 117, 118, 119, 120, 121, 167, 123, 124, 125, 126, 127, 128, 129, 130, 16, 131, 132, 133, 15, 134, 50, 49, 135, 136, 137, 138, 139, 140, 141, 142, 143, 264, 265, 266, 267, 268, 269, 270, 271, 29, 30, 31, 272, 273, 274, 275, 212, 213, 214, 215, 164, 165, 166, 216, 276, 277, 278, 317, 318, 319, 320, 321, 322, 323, 324, 325, 326, 327, 332, 333, 328, 329] (by decide +kernel) (by decide +kernel)
set_option maxRecDepth 20000 in
theorem gL_law_L_quotients : GoodIn wsL_law (va_wsS RL 103 yL_quotients wsL_quotients) := goodIn_app (goodIn_of _ (by decide +kernel)) ggL_law_L_quotients
set_option maxRecDepth 20000 in
theorem ggL_law_L_inverse : GoodIn wsL_law wsL_inverse := goodIn_r _ [281, 282, 283, 284, 2, 285, 12, 27, 99, 100, 101, 11, 102, 37, 173, 174, 175, 26, 176, 42, 286, 287, 288, 258, 259, 260, 261, 262, 263, 233, 234, 235, 236, 43, 237, 238, 239, 240, 168, 115, 116, 117, 118, 119, 120, 121, 127, 128, 129, 130, 16, 131, 132, 133, 15, 134, 50, 49, 135, 136, 137, 138, 139, 140, 141, 142, 143, 144, 145, 146, 147, 148, 149, 150, 151, 181, 182, 183, 184, 185, 169, 170, 171, 172, 152, 153, 154, 155, 217, 218, 59, 219, 177, 178, 179, 180, 186, 187, 188, 189, 190, 191, 192, 193, 194, 195, 196, 197, 198, 199, 200, 201, 202, 203, 204, 205, 289, 290, 291, 317, 318, 319, 320, 321, 322, 323, 324, 325, 326, 327, 332, 333, 328, 329] (by decide +kernel) (by decide +kernel)
set_option maxRecDepth 20000 in
theorem gL_law_L_inverse : GoodIn wsL_law (va_wsS RL 107 yL_inverse wsL_inverse) := goodIn_app (goodIn_of _ (by decide +kernel)) ggL_law_L_inverse
set_option maxRecDepth 20000 in
theorem ggL_law_L_turns : GoodIn wsL_law wsL_turns := goodIn_r _ [294, 295, 296, 297, 2, 298, 12, 27, 99, 100, 101, 11, 102, 37, 299, 300, 301, 261, 262, 263, 152, 153, 154, 26, 155, 43, 302, 303, 304, 233, 234, 235, 236, 42, 237, 238, 239, 240, 216, 199, 200, 201, 185, 174, 175, 176, 168, 115, 116, 117, 118, 119, 120, 121, 127, 128, 129, 130, 16, 131, 132, 133, 15, 134, 50, 49, 135, 136, 137, 138, 139, 140, 141, 142, 143, 144, 145, 146, 147, 148, 149, 150, 151, 186, 187, 188, 189, 177, 178, 179, 180, 181, 182, 183, 184, 190, 191, 192, 193, 194, 195, 196, 197, 198, 202, 203, 204, 205, 305, 306, 307, 308, 169, 170, 171, 172, 173, 209, 210, 59, 211, 309, 310, 311, 312, 258, 259, 260, 272, 273, 274, 275, 126, 217, 218, 219, 289, 290, 291, 317, 318, 319, 320, 321, 322, 323, 324, 325, 326, 327, 332, 333, 328, 329] (by decide +kernel) (by decide +kernel)
set_option maxRecDepth 20000 in
theorem gL_law_L_turns : GoodIn wsL_law (va_wsS RL 109 yL_turns wsL_turns) := goodIn_app (goodIn_of _ (by decide +kernel)) ggL_law_L_turns
set_option maxRecDepth 20000 in
theorem ggL_law_X4_round : GoodIn wsL_law wsX4_round := goodIn_r _ [316, 12, 27, 99, 100, 101, 11, 102, 37, 230, 231, 2, 232, 233, 234, 235, 26, 236, 42, 43, 237, 238, 239, 240, 152, 153, 154, 155, 173, 174, 175, 176, 168, 115, 116, 117, 118, 119, 120, 121, 241, 242, 243, 127, 128, 129, 130, 16, 131, 132, 133, 15, 134, 50, 49, 135, 136, 137, 138, 139, 140, 141, 142, 143, 144, 145, 146, 147, 148, 149, 150, 151, 181, 182, 183, 184, 185, 317, 318, 319, 320, 321, 322, 323, 324, 325, 326, 327, 332, 333, 328, 329] (by decide +kernel) (by decide +kernel)
set_option maxRecDepth 20000 in
theorem gL_law_X4_round : GoodIn wsL_law (wsV RL 112 RX4 yX4_round wsX4_round) := goodIn_app (goodIn_of _ (by decide +kernel)) ggL_law_X4_round
set_option maxRecDepth 20000 in
theorem ggL_law_L_degree : GoodIn wsL_law wsL_degree := goodIn_r _ [219, 177, 178, 179, 2, 180, 12, 99, 100, 101, 11, 102, 37, 152, 153, 154, 26, 155, 43, 181, 182, 183, 184, 185, 174, 175, 176, 42, 186, 187, 188, 189, 190, 191, 192, 193, 194, 195, 196, 197, 198, 199, 200, 201, 202, 203, 204, 205, 169, 170, 171, 172, 173, 317, 318, 319, 320, 321, 322, 323, 324, 325, 326, 327, 332, 333] (by decide +kernel) (by decide +kernel)
set_option maxRecDepth 20000 in
theorem gL_law_L_degree : GoodIn wsL_law (va_wsS RL 52 yL_degree wsL_degree) := goodIn_app (goodIn_of _ (by decide +kernel)) ggL_law_L_degree
set_option maxRecDepth 20000 in
theorem ggL_law_X4_number : GoodIn wsL_law wsX4_number := goodIn_r _ [172, 12, 99, 100, 101, 11, 102, 37, 152, 153, 154, 26, 155, 43, 173, 174, 175, 176, 42, 317, 318, 319, 320, 321, 322, 323, 324, 325, 326, 327, 332, 333] (by decide +kernel) (by decide +kernel)
set_option maxRecDepth 20000 in
theorem gL_law_X4_number : GoodIn wsL_law (wsV RL 30 RX4 yX4_number wsX4_number) := goodIn_app (goodIn_of _ (by decide +kernel)) ggL_law_X4_number
theorem dL_law_0 : decode cL_law 0 = .ok (.new 11, 3) := by decide +kernel
theorem dL_law_3 : decode cL_law 3 = .ok (.dup, 1) := by decide +kernel
theorem dL_law_4 : decode cL_law 4 = .ok (.invokespecial 88, 3) := by decide +kernel
theorem dL_law_7 : decode cL_law 7 = .ok (.astore_n 1, 1) := by decide +kernel
theorem dL_law_8 : decode cL_law 8 = .ok (.iconst 0, 1) := by decide +kernel
