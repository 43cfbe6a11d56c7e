theorem dX5_clear_4 : decode cX5_clear 4 = .ok (.istore_n 1, 1) := by decide +kernel
theorem dX5_clear_5 : decode cX5_clear 5 = .ok (.aload_n 0, 1) := by decide +kernel
theorem dX5_clear_6 : decode cX5_clear 6 = .ok (.getfield 7, 3) := by decide +kernel
theorem dX5_clear_9 : decode cX5_clear 9 = .ok (.bipush 46, 2) := by decide +kernel
theorem dX5_clear_11 : decode cX5_clear 11 = .ok (.iconst 0, 1) := by decide +kernel
theorem dX5_clear_12 : decode cX5_clear 12 = .ok (.iastore, 1) := by decide +kernel
theorem dX5_clear_13 : decode cX5_clear 13 = .ok (.iload_n 1, 1) := by decide +kernel
theorem dX5_clear_14 : decode cX5_clear 14 = .ok (.ireturn, 1) := by decide +kernel
set_option maxRecDepth 20000 in
theorem ggX5_isSmall_X5_in : GoodIn wsX5_isSmall wsX5_in := goodIn_r _ [6] (by decide +kernel) (by decide +kernel)
set_option maxRecDepth 20000 in
theorem gX5_isSmall_X5_in : GoodIn wsX5_isSmall (va_wsS RX5 63 yX5_in wsX5_in) := goodIn_app (goodIn_of _ (by decide +kernel)) ggX5_isSmall_X5_in
theorem dX5_isSmall_0 : decode cX5_isSmall 0 = .ok (.iload_n 0, 1) := by decide +kernel
theorem dX5_isSmall_1 : decode cX5_isSmall 1 = .ok (.i2l, 1) := by decide +kernel
theorem dX5_isSmall_2 : decode cX5_isSmall 2 = .ok (.ldc2_w 165, 3) := by decide +kernel
theorem dX5_isSmall_5 : decode cX5_isSmall 5 = .ok (.ldc2_w 167, 3) := by decide +kernel
theorem dX5_isSmall_8 : decode cX5_isSmall 8 = .ok (.invokestatic 63, 3) := by decide +kernel
theorem dX5_isSmall_11 : decode cX5_isSmall 11 = .ok (.ireturn, 1) := by decide +kernel
set_option maxRecDepth 20000 in
theorem ggX5_isFigure_X5_in : GoodIn wsX5_isFigure wsX5_in := goodIn_r _ [6] (by decide +kernel) (by decide +kernel)
set_option maxRecDepth 20000 in
theorem gX5_isFigure_X5_in : GoodIn wsX5_isFigure (va_wsS RX5 63 yX5_in wsX5_in) := goodIn_app (goodIn_of _ (by decide +kernel)) ggX5_isFigure_X5_in
theorem dX5_isFigure_0 : decode cX5_isFigure 0 = .ok (.iload_n 0, 1) := by decide +kernel
theorem dX5_isFigure_1 : decode cX5_isFigure 1 = .ok (.i2l, 1) := by decide +kernel
theorem dX5_isFigure_2 : decode cX5_isFigure 2 = .ok (.ldc2_w 169, 3) := by decide +kernel
theorem dX5_isFigure_5 : decode cX5_isFigure 5 = .ok (.ldc2_w 171, 3) := by decide +kernel
theorem dX5_isFigure_8 : decode cX5_isFigure 8 = .ok (.invokestatic 63, 3) := by decide +kernel
theorem dX5_isFigure_11 : decode cX5_isFigure 11 = .ok (.ireturn, 1) := by decide +kernel
set_option maxRecDepth 20000 in
theorem ggX5_look_X5_textLong : GoodIn wsX5_look wsX5_textLong := goodIn_r _ [9, 10, 28, 29, 30, 31, 32, 33, 34, 35, 36, 37, 38, 39, 40, 41, 42, 43, 44, 45, 46, 47, 48, 49, 50, 51, 52, 53, 54, 55] (by decide +kernel) (by decide +kernel)
set_option maxRecDepth 20000 in
theorem gX5_look_X5_textLong : GoodIn wsX5_look (wsV RX5 160 RX5 yX5_textLong wsX5_textLong) := goodIn_app (goodIn_of _ (by decide +kernel)) ggX5_look_X5_textLong
set_option maxRecDepth 20000 in
theorem ggX5_look_X5_byteAt : GoodIn wsX5_look wsX5_byteAt := goodIn_r _ [14, 10, 28, 29, 30, 31, 32, 33, 34, 35, 36, 37, 38, 39, 40, 41, 42, 43, 44, 45, 46, 47, 48, 49, 50, 51, 52, 53, 54, 55] (by decide +kernel) (by decide +kernel)
set_option maxRecDepth 20000 in
theorem gX5_look_X5_byteAt : GoodIn wsX5_look (wsV RX5 176 RX5 yX5_byteAt wsX5_byteAt) := goodIn_app (goodIn_of _ (by decide +kernel)) ggX5_look_X5_byteAt
set_option maxRecDepth 20000 in
theorem ggX5_look_X5_isSmall : GoodIn wsX5_look wsX5_isSmall := goodIn_r _ [17, 18, 19, 20, 21, 8, 22] (by decide +kernel) (by decide +kernel)
set_option maxRecDepth 20000 in
theorem gX5_look_X5_isSmall : GoodIn wsX5_look (va_wsS RX5 188 yX5_isSmall wsX5_isSmall) := goodIn_app (goodIn_of _ (by decide +kernel)) ggX5_look_X5_isSmall
set_option maxRecDepth 20000 in
theorem ggX5_look_X5_isFigure : GoodIn wsX5_look wsX5_isFigure := goodIn_r _ [25, 26, 27, 20, 21, 8, 22] (by decide +kernel) (by decide +kernel)
set_option maxRecDepth 20000 in
theorem gX5_look_X5_isFigure : GoodIn wsX5_look (va_wsS RX5 191 yX5_isFigure wsX5_isFigure) := goodIn_app (goodIn_of _ (by decide +kernel)) ggX5_look_X5_isFigure
theorem dX5_look_0 : decode cX5_look 0 = .ok (.aload_n 0, 1) := by decide +kernel
theorem dX5_look_1 : decode cX5_look 1 = .ok (.iload_n 1, 1) := by decide +kernel
theorem dX5_look_2 : decode cX5_look 2 = .ok (.putfield 173, 3) := by decide +kernel
theorem dX5_look_5 : decode cX5_look 5 = .ok (.aload_n 0, 1) := by decide +kernel
theorem dX5_look_6 : decode cX5_look 6 = .ok (.getfield 173, 3) := by decide +kernel
theorem dX5_look_9 : decode cX5_look 9 = .ok (.aload_n 0, 1) := by decide +kernel
theorem dX5_look_10 : decode cX5_look 10 = .ok (.invokevirtual 160, 3) := by decide +kernel
theorem dX5_look_13 : decode cX5_look 13 = .ok (.if_icmp .ge 29, 3) := by decide +kernel
theorem dX5_look_16 : decode cX5_look 16 = .ok (.aload_n 0, 1) := by decide +kernel
theorem dX5_look_17 : decode cX5_look 17 = .ok (.aload_n 0, 1) := by decide +kernel
theorem dX5_look_18 : decode cX5_look 18 = .ok (.getfield 173, 3) := by decide +kernel
theorem dX5_look_21 : decode cX5_look 21 = .ok (.invokevirtual 176, 3) := by decide +kernel
theorem dX5_look_24 : decode cX5_look 24 = .ok (.bipush 32, 2) := by decide +kernel
theorem dX5_look_26 : decode cX5_look 26 = .ok (.if_icmp .ne 16, 3) := by decide +kernel
theorem dX5_look_29 : decode cX5_look 29 = .ok (.aload_n 0, 1) := by decide +kernel
theorem dX5_look_30 : decode cX5_look 30 = .ok (.dup, 1) := by decide +kernel
theorem dX5_look_31 : decode cX5_look 31 = .ok (.getfield 173, 3) := by decide +kernel
theorem dX5_look_34 : decode cX5_look 34 = .ok (.iconst 1, 1) := by decide +kernel
theorem dX5_look_35 : decode cX5_look 35 = .ok (.iadd, 1) := by decide +kernel
theorem dX5_look_36 : decode cX5_look 36 = .ok (.putfield 173, 3) := by decide +kernel
theorem dX5_look_39 : decode cX5_look 39 = .ok (.goto (-34), 3) := by decide +kernel
theorem dX5_look_42 : decode cX5_look 42 = .ok (.aload_n 0, 1) := by decide +kernel
theorem dX5_look_43 : decode cX5_look 43 = .ok (.iconst 0, 1) := by decide +kernel
theorem dX5_look_44 : decode cX5_look 44 = .ok (.putfield 179, 3) := by decide +kernel
theorem dX5_look_47 : decode cX5_look 47 = .ok (.aload_n 0, 1) := by decide +kernel
theorem dX5_look_48 : decode cX5_look 48 = .ok (.iconst 0, 1) := by decide +kernel
theorem dX5_look_49 : decode cX5_look 49 = .ok (.putfield 182, 3) := by decide +kernel
theorem dX5_look_52 : decode cX5_look 52 = .ok (.aload_n 0, 1) := by decide +kernel
theorem dX5_look_53 : decode cX5_look 53 = .ok (.iconst 0, 1) := by decide +kernel
theorem dX5_look_54 : decode cX5_look 54 = .ok (.putfield 185, 3) := by decide +kernel
theorem dX5_look_57 : decode cX5_look 57 = .ok (.aload_n 0, 1) := by decide +kernel
theorem dX5_look_58 : decode cX5_look 58 = .ok (.getfield 173, 3) := by decide +kernel
theorem dX5_look_61 : decode cX5_look 61 = .ok (.aload_n 0, 1) := by decide +kernel
theorem dX5_look_62 : decode cX5_look 62 = .ok (.invokevirtual 160, 3) := by decide +kernel
theorem dX5_look_65 : decode cX5_look 65 = .ok (.if_icmp .ne 4, 3) := by decide +kernel
theorem dX5_look_68 : decode cX5_look 68 = .ok (.return_, 1) := by decide +kernel
theorem dX5_look_69 : decode cX5_look 69 = .ok (.aload_n 0, 1) := by decide +kernel
theorem dX5_look_70 : decode cX5_look 70 = .ok (.aload_n 0, 1) := by decide +kernel
theorem dX5_look_71 : decode cX5_look 71 = .ok (.getfield 173, 3) := by decide +kernel
theorem dX5_look_74 : decode cX5_look 74 = .ok (.invokevirtual 176, 3) := by decide +kernel
theorem dX5_look_77 : decode cX5_look 77 = .ok (.istore_n 2, 1) := by decide +kernel
theorem dX5_look_78 : decode cX5_look 78 = .ok (.aload_n 0, 1) := by decide +kernel
theorem dX5_look_79 : decode cX5_look 79 = .ok (.iload_n 2, 1) := by decide +kernel
theorem dX5_look_80 : decode cX5_look 80 = .ok (.invokestatic 188, 3) := by decide +kernel
theorem dX5_look_83 : decode cX5_look 83 = .ok (.ifCond .eq 7, 3) := by decide +kernel
theorem dX5_look_86 : decode cX5_look 86 = .ok (.iconst 1, 1) := by decide +kernel
theorem dX5_look_87 : decode cX5_look 87 = .ok (.goto 25, 3) := by decide +kernel
theorem dX5_look_90 : decode cX5_look 90 = .ok (.iload_n 2, 1) := by decide +kernel
theorem dX5_look_91 : decode cX5_look 91 = .ok (.invokestatic 191, 3) := by decide +kernel
theorem dX5_look_94 : decode cX5_look 94 = .ok (.ifCond .eq 7, 3) := by decide +kernel
theorem dX5_look_97 : decode cX5_look 97 = .ok (.iconst 2, 1) := by decide +kernel
theorem dX5_look_98 : decode cX5_look 98 = .ok (.goto 14, 3) := by decide +kernel
theorem dX5_look_101 : decode cX5_look 101 = .ok (.iload_n 2, 1) := by decide +kernel
theorem dX5_look_102 : decode cX5_look 102 = .ok (.bipush 59, 2) := by decide +kernel
theorem dX5_look_104 : decode cX5_look 104 = .ok (.if_icmp .ne 7, 3) := by decide +kernel
theorem dX5_look_107 : decode cX5_look 107 = .ok (.iconst 3, 1) := by decide +kernel
theorem dX5_look_108 : decode cX5_look 108 = .ok (.goto 4, 3) := by decide +kernel
theorem dX5_look_111 : decode cX5_look 111 = .ok (.iconst 4, 1) := by decide +kernel
theorem dX5_look_112 : decode cX5_look 112 = .ok (.putfield 182, 3) := by decide +kernel
theorem dX5_look_115 : decode cX5_look 115 = .ok (.aload_n 0, 1) := by decide +kernel
theorem dX5_look_116 : decode cX5_look 116 = .ok (.iconst 1, 1) := by decide +kernel
theorem dX5_look_117 : decode cX5_look 117 = .ok (.putfield 179, 3) := by decide +kernel
theorem dX5_look_120 : decode cX5_look 120 = .ok (.aload_n 0, 1) := by decide +kernel
theorem dX5_look_121 : decode cX5_look 121 = .ok (.getfield 182, 3) := by decide +kernel
theorem dX5_look_124 : decode cX5_look 124 = .ok (.iconst 3, 1) := by decide +kernel
theorem dX5_look_125 : decode cX5_look 125 = .ok (.if_icmp .ge 7, 3) := by decide +kernel
theorem dX5_look_128 : decode cX5_look 128 = .ok (.iconst 1, 1) := by decide +kernel
theorem dX5_look_129 : decode cX5_look 129 = .ok (.goto 4, 3) := by decide +kernel
theorem dX5_look_132 : decode cX5_look 132 = .ok (.iconst 0, 1) := by decide +kernel
theorem dX5_look_133 : decode cX5_look 133 = .ok (.istore_n 3, 1) := by decide +kernel
theorem dX5_look_134 : decode cX5_look 134 = .ok (.iload_n 3, 1) := by decide +kernel
theorem dX5_look_135 : decode cX5_look 135 = .ok (.ifCond .eq 77, 3) := by decide +kernel
theorem dX5_look_138 : decode cX5_look 138 = .ok (.aload_n 0, 1) := by decide +kernel
theorem dX5_look_139 : decode cX5_look 139 = .ok (.getfield 173, 3) := by decide +kernel
theorem dX5_look_142 : decode cX5_look 142 = .ok (.aload_n 0, 1) := by decide +kernel
theorem dX5_look_143 : decode cX5_look 143 = .ok (.getfield 179, 3) := by decide +kernel
theorem dX5_look_146 : decode cX5_look 146 = .ok (.iadd, 1) := by decide +kernel
theorem dX5_look_147 : decode cX5_look 147 = .ok (.aload_n 0, 1) := by decide +kernel
theorem dX5_look_148 : decode cX5_look 148 = .ok (.invokevirtual 160, 3) := by decide +kernel
theorem dX5_look_151 : decode cX5_look 151 = .ok (.if_icmp .ge 61, 3) := by decide +kernel
theorem dX5_look_154 : decode cX5_look 154 = .ok (.aload_n 0, 1) := by decide +kernel
theorem dX5_look_155 : decode cX5_look 155 = .ok (.aload_n 0, 1) := by decide +kernel
theorem dX5_look_156 : decode cX5_look 156 = .ok (.getfield 173, 3) := by decide +kernel
theorem dX5_look_159 : decode cX5_look 159 = .ok (.aload_n 0, 1) := by decide +kernel
theorem dX5_look_160 : decode cX5_look 160 = .ok (.getfield 179, 3) := by decide +kernel
theorem dX5_look_163 : decode cX5_look 163 = .ok (.iadd, 1) := by decide +kernel
theorem dX5_look_164 : decode cX5_look 164 = .ok (.invokevirtual 176, 3) := by decide +kernel
theorem dX5_look_167 : decode cX5_look 167 = .ok (.istore 4, 2) := by decide +kernel
theorem dX5_look_169 : decode cX5_look 169 = .ok (.aload_n 0, 1) := by decide +kernel
theorem dX5_look_170 : decode cX5_look 170 = .ok (.getfield 182, 3) := by decide +kernel
theorem dX5_look_173 : decode cX5_look 173 = .ok (.iconst 1, 1) := by decide +kernel
theorem dX5_look_174 : decode cX5_look 174 = .ok (.if_icmp .ne 11, 3) := by decide +kernel
theorem dX5_look_177 : decode cX5_look 177 = .ok (.iload 4, 2) := by decide +kernel
theorem dX5_look_179 : decode cX5_look 179 = .ok (.invokestatic 188, 3) := by decide +kernel
theorem dX5_look_182 : decode cX5_look 182 = .ok (.goto 8, 3) := by decide +kernel
theorem dX5_look_185 : decode cX5_look 185 = .ok (.iload 4, 2) := by decide +kernel
theorem dX5_look_187 : decode cX5_look 187 = .ok (.invokestatic 191, 3) := by decide +kernel
theorem dX5_look_190 : decode cX5_look 190 = .ok (.istore_n 3, 1) := by decide +kernel
theorem dX5_look_191 : decode cX5_look 191 = .ok (.aload_n 0, 1) := by decide +kernel
theorem dX5_look_192 : decode cX5_look 192 = .ok (.dup, 1) := by decide +kernel
theorem dX5_look_193 : decode cX5_look 193 = .ok (.getfield 179, 3) := by decide +kernel
theorem dX5_look_196 : decode cX5_look 196 = .ok (.iload_n 3, 1) := by decide +kernel
theorem dX5_look_197 : decode cX5_look 197 = .ok (.ifCond .eq 7, 3) := by decide +kernel
theorem dX5_look_200 : decode cX5_look 200 = .ok (.iconst 1, 1) := by decide +kernel
theorem dX5_look_201 : decode cX5_look 201 = .ok (.goto 4, 3) := by decide +kernel
theorem dX5_look_204 : decode cX5_look 204 = .ok (.iconst 0, 1) := by decide +kernel
theorem dX5_look_205 : decode cX5_look 205 = .ok (.iadd, 1) := by decide +kernel
theorem dX5_look_206 : decode cX5_look 206 = .ok (.putfield 179, 3) := by decide +kernel
theorem dX5_look_209 : decode cX5_look 209 = .ok (.goto (-75), 3) := by decide +kernel
theorem dX5_look_212 : decode cX5_look 212 = .ok (.iconst 0, 1) := by decide +kernel
theorem dX5_look_213 : decode cX5_look 213 = .ok (.istore 4, 2) := by decide +kernel
theorem dX5_look_215 : decode cX5_look 215 = .ok (.iload 4, 2) := by decide +kernel
theorem dX5_look_217 : decode cX5_look 217 = .ok (.aload_n 0, 1) := by decide +kernel
theorem dX5_look_218 : decode cX5_look 218 = .ok (.getfield 179, 3) := by decide +kernel
theorem dX5_look_221 : decode cX5_look 221 = .ok (.if_icmp .ge 49, 3) := by decide +kernel
theorem dX5_look_224 : decode cX5_look 224 = .ok (.iload 4, 2) := by decide +kernel
theorem dX5_look_226 : decode cX5_look 226 = .ok (.iconst 3, 1) := by decide +kernel
theorem dX5_look_227 : decode cX5_look 227 = .ok (.if_icmp .ge 43, 3) := by decide +kernel
theorem dX5_look_230 : decode cX5_look 230 = .ok (.aload_n 0, 1) := by decide +kernel
theorem dX5_look_231 : decode cX5_look 231 = .ok (.getfield 182, 3) := by decide +kernel
theorem dX5_look_234 : decode cX5_look 234 = .ok (.iconst 2, 1) := by decide +kernel
theorem dX5_look_235 : decode cX5_look 235 = .ok (.if_icmp .ne 35, 3) := by decide +kernel
theorem dX5_look_238 : decode cX5_look 238 = .ok (.aload_n 0, 1) := by decide +kernel
theorem dX5_look_239 : decode cX5_look 239 = .ok (.bipush 10, 2) := by decide +kernel
theorem dX5_look_241 : decode cX5_look 241 = .ok (.aload_n 0, 1) := by decide +kernel
theorem dX5_look_242 : decode cX5_look 242 = .ok (.getfield 185, 3) := by decide +kernel
theorem dX5_look_245 : decode cX5_look 245 = .ok (.imul, 1) := by decide +kernel
theorem dX5_look_246 : decode cX5_look 246 = .ok (.aload_n 0, 1) := by decide +kernel
theorem dX5_look_247 : decode cX5_look 247 = .ok (.aload_n 0, 1) := by decide +kernel
theorem dX5_look_248 : decode cX5_look 248 = .ok (.getfield 173, 3) := by decide +kernel
theorem dX5_look_251 : decode cX5_look 251 = .ok (.iload 4, 2) := by decide +kernel
theorem dX5_look_253 : decode cX5_look 253 = .ok (.iadd, 1) := by decide +kernel
theorem dX5_look_254 : decode cX5_look 254 = .ok (.invokevirtual 176, 3) := by decide +kernel
theorem dX5_look_257 : decode cX5_look 257 = .ok (.iadd, 1) := by decide +kernel
theorem dX5_look_258 : decode cX5_look 258 = .ok (.bipush 48, 2) := by decide +kernel
theorem dX5_look_260 : decode cX5_look 260 = .ok (.isub, 1) := by decide +kernel
theorem dX5_look_261 : decode cX5_look 261 = .ok (.putfield 185, 3) := by decide +kernel
theorem dX5_look_264 : decode cX5_look 264 = .ok (.iinc 4 1, 3) := by decide +kernel
theorem dX5_look_267 : decode cX5_look 267 = .ok (.goto (-52), 3) := by decide +kernel
theorem dX5_look_270 : decode cX5_look 270 = .ok (.aload_n 0, 1) := by decide +kernel
theorem dX5_look_271 : decode cX5_look 271 = .ok (.aload_n 0, 1) := by decide +kernel
theorem dX5_look_272 : decode cX5_look 272 = .ok (.getfield 182, 3) := by decide +kernel
theorem dX5_look_275 : decode cX5_look 275 = .ok (.iconst 2, 1) := by decide +kernel
theorem dX5_look_276 : decode cX5_look 276 = .ok (.if_icmp .ne 15, 3) := by decide +kernel
theorem dX5_look_279 : decode cX5_look 279 = .ok (.aload_n 0, 1) := by decide +kernel
theorem dX5_look_280 : decode cX5_look 280 = .ok (.getfield 179, 3) := by decide +kernel
theorem dX5_look_283 : decode cX5_look 283 = .ok (.iconst 3, 1) := by decide +kernel
theorem dX5_look_284 : decode cX5_look 284 = .ok (.if_icmp .le 7, 3) := by decide +kernel
theorem dX5_look_287 : decode cX5_look 287 = .ok (.iconst 4, 1) := by decide +kernel
theorem dX5_look_288 : decode cX5_look 288 = .ok (.goto 7, 3) := by decide +kernel
theorem dX5_look_291 : decode cX5_look 291 = .ok (.aload_n 0, 1) := by decide +kernel
theorem dX5_look_292 : decode cX5_look 292 = .ok (.getfield 182, 3) := by decide +kernel
theorem dX5_look_295 : decode cX5_look 295 = .ok (.putfield 182, 3) := by decide +kernel
theorem dX5_look_298 : decode cX5_look 298 = .ok (.return_, 1) := by decide +kernel
set_option maxRecDepth 20000 in
theorem ggX5_goOn_X5_look : GoodIn wsX5_goOn wsX5_look := goodIn_r _ [7, 1, 2, 8, 9, 10, 11, 12, 6, 13, 14, 15, 16, 17, 18, 19, 20, 21, 22, 23, 24, 25, 26, 27, 28, 29, 30, 31, 32, 33, 34, 35, 36, 37, 38, 39, 40, 41, 42, 43, 44, 45, 46, 47, 48, 49, 50, 51, 52, 53, 54, 55, 56, 57, 58, 59] (by decide +kernel) (by decide +kernel)
set_option maxRecDepth 20000 in
theorem gX5_goOn_X5_look : GoodIn wsX5_goOn (wsV RX5 194 RX5 yX5_look wsX5_look) := goodIn_app (goodIn_of _ (by decide +kernel)) ggX5_goOn_X5_look
theorem dX5_goOn_0 : decode cX5_goOn 0 = .ok (.aload_n 0, 1) := by decide +kernel
theorem dX5_goOn_1 : decode cX5_goOn 1 = .ok (.aload_n 0, 1) := by decide +kernel
theorem dX5_goOn_2 : decode cX5_goOn 2 = .ok (.getfield 173, 3) := by decide +kernel
theorem dX5_goOn_5 : decode cX5_goOn 5 = .ok (.aload_n 0, 1) := by decide +kernel
theorem dX5_goOn_6 : decode cX5_goOn 6 = .ok (.getfield 179, 3) := by decide +kernel
theorem dX5_goOn_9 : decode cX5_goOn 9 = .ok (.iadd, 1) := by decide +kernel
theorem dX5_goOn_10 : decode cX5_goOn 10 = .ok (.invokevirtual 194, 3) := by decide +kernel
theorem dX5_goOn_13 : decode cX5_goOn 13 = .ok (.return_, 1) := by decide +kernel
set_option maxRecDepth 20000 in
theorem ggX5_isWord_X5_byteAt : GoodIn wsX5_isWord wsX5_byteAt := goodIn_r _ [8, 9, 10, 11, 12, 13, 14, 15, 16, 17, 18, 19, 20, 21, 22, 23, 24, 25, 26, 27, 28, 29, 30, 31, 32, 33, 34, 35, 36, 37] (by decide +kernel) (by decide +kernel)
set_option maxRecDepth 20000 in
theorem gX5_isWord_X5_byteAt : GoodIn wsX5_isWord (wsV RX5 176 RX5 yX5_byteAt wsX5_byteAt) := goodIn_app (goodIn_of _ (by decide +kernel)) ggX5_isWord_X5_byteAt
theorem dX5_isWord_0 : decode cX5_isWord 0 = .ok (.iload 4, 2) := by decide +kernel
theorem dX5_isWord_2 : decode cX5_isWord 2 = .ok (.ifCond .ne 7, 3) := by decide +kernel
theorem dX5_isWord_5 : decode cX5_isWord 5 = .ok (.iconst 3, 1) := by decide +kernel
theorem dX5_isWord_6 : decode cX5_isWord 6 = .ok (.goto 4, 3) := by decide +kernel
theorem dX5_isWord_9 : decode cX5_isWord 9 = .ok (.iconst 4, 1) := by decide +kernel
theorem dX5_isWord_10 : decode cX5_isWord 10 = .ok (.istore 5, 2) := by decide +kernel
theorem dX5_isWord_12 : decode cX5_isWord 12 = .ok (.aload_n 0, 1) := by decide +kernel
theorem dX5_isWord_13 : decode cX5_isWord 13 = .ok (.getfield 182, 3) := by decide +kernel
theorem dX5_isWord_16 : decode cX5_isWord 16 = .ok (.iconst 1, 1) := by decide +kernel
theorem dX5_isWord_17 : decode cX5_isWord 17 = .ok (.if_icmp .ne 16, 3) := by decide +kernel
theorem dX5_isWord_20 : decode cX5_isWord 20 = .ok (.aload_n 0, 1) := by decide +kernel
theorem dX5_isWord_21 : decode cX5_isWord 21 = .ok (.getfield 179, 3) := by decide +kernel
theorem dX5_isWord_24 : decode cX5_isWord 24 = .ok (.iload 5, 2) := by decide +kernel
theorem dX5_isWord_26 : decode cX5_isWord 26 = .ok (.if_icmp .ne 7, 3) := by decide +kernel
theorem dX5_isWord_29 : decode cX5_isWord 29 = .ok (.iconst 1, 1) := by decide +kernel
theorem dX5_isWord_30 : decode cX5_isWord 30 = .ok (.goto 4, 3) := by decide +kernel
theorem dX5_isWord_33 : decode cX5_isWord 33 = .ok (.iconst 0, 1) := by decide +kernel
theorem dX5_isWord_34 : decode cX5_isWord 34 = .ok (.istore 6, 2) := by decide +kernel
theorem dX5_isWord_36 : decode cX5_isWord 36 = .ok (.iconst 0, 1) := by decide +kernel
theorem dX5_isWord_37 : decode cX5_isWord 37 = .ok (.istore 7, 2) := by decide +kernel
theorem dX5_isWord_39 : decode cX5_isWord 39 = .ok (.iload 7, 2) := by decide +kernel
theorem dX5_isWord_41 : decode cX5_isWord 41 = .ok (.iload 5, 2) := by decide +kernel
theorem dX5_isWord_43 : decode cX5_isWord 43 = .ok (.if_icmp .ge 66, 3) := by decide +kernel
theorem dX5_isWord_46 : decode cX5_isWord 46 = .ok (.iload 6, 2) := by decide +kernel
theorem dX5_isWord_48 : decode cX5_isWord 48 = .ok (.ifCond .eq 61, 3) := by decide +kernel
theorem dX5_isWord_51 : decode cX5_isWord 51 = .ok (.aload_n 0, 1) := by decide +kernel
theorem dX5_isWord_52 : decode cX5_isWord 52 = .ok (.aload_n 0, 1) := by decide +kernel
theorem dX5_isWord_53 : decode cX5_isWord 53 = .ok (.getfield 173, 3) := by decide +kernel
theorem dX5_isWord_56 : decode cX5_isWord 56 = .ok (.iload 7, 2) := by decide +kernel
theorem dX5_isWord_58 : decode cX5_isWord 58 = .ok (.iadd, 1) := by decide +kernel
theorem dX5_isWord_59 : decode cX5_isWord 59 = .ok (.invokevirtual 176, 3) := by decide +kernel
theorem dX5_isWord_62 : decode cX5_isWord 62 = .ok (.iload 7, 2) := by decide +kernel
theorem dX5_isWord_64 : decode cX5_isWord 64 = .ok (.ifCond .ne 7, 3) := by decide +kernel
theorem dX5_isWord_67 : decode cX5_isWord 67 = .ok (.iload_n 1, 1) := by decide +kernel
theorem dX5_isWord_68 : decode cX5_isWord 68 = .ok (.goto 25, 3) := by decide +kernel
theorem dX5_isWord_71 : decode cX5_isWord 71 = .ok (.iload 7, 2) := by decide +kernel
theorem dX5_isWord_73 : decode cX5_isWord 73 = .ok (.iconst 1, 1) := by decide +kernel
theorem dX5_isWord_74 : decode cX5_isWord 74 = .ok (.if_icmp .ne 7, 3) := by decide +kernel
theorem dX5_isWord_77 : decode cX5_isWord 77 = .ok (.iload_n 2, 1) := by decide +kernel
theorem dX5_isWord_78 : decode cX5_isWord 78 = .ok (.goto 15, 3) := by decide +kernel
theorem dX5_isWord_81 : decode cX5_isWord 81 = .ok (.iload 7, 2) := by decide +kernel
theorem dX5_isWord_83 : decode cX5_isWord 83 = .ok (.iconst 2, 1) := by decide +kernel
theorem dX5_isWord_84 : decode cX5_isWord 84 = .ok (.if_icmp .ne 7, 3) := by decide +kernel
theorem dX5_isWord_87 : decode cX5_isWord 87 = .ok (.iload_n 3, 1) := by decide +kernel
theorem dX5_isWord_88 : decode cX5_isWord 88 = .ok (.goto 5, 3) := by decide +kernel
theorem dX5_isWord_91 : decode cX5_isWord 91 = .ok (.iload 4, 2) := by decide +kernel
theorem dX5_isWord_93 : decode cX5_isWord 93 = .ok (.if_icmp .ne 7, 3) := by decide +kernel
theorem dX5_isWord_96 : decode cX5_isWord 96 = .ok (.iconst 1, 1) := by decide +kernel
theorem dX5_isWord_97 : decode cX5_isWord 97 = .ok (.goto 4, 3) := by decide +kernel
theorem dX5_isWord_100 : decode cX5_isWord 100 = .ok (.iconst 0, 1) := by decide +kernel
theorem dX5_isWord_101 : decode cX5_isWord 101 = .ok (.istore 6, 2) := by decide +kernel
theorem dX5_isWord_103 : decode cX5_isWord 103 = .ok (.iinc 7 1, 3) := by decide +kernel
theorem dX5_isWord_106 : decode cX5_isWord 106 = .ok (.goto (-67), 3) := by decide +kernel
theorem dX5_isWord_109 : decode cX5_isWord 109 = .ok (.iload 6, 2) := by decide +kernel
theorem dX5_isWord_111 : decode cX5_isWord 111 = .ok (.ireturn, 1) := by decide +kernel
set_option maxRecDepth 20000 in
theorem ggX5_takesNumber_X5_in : GoodIn wsX5_takesNumber wsX5_in := goodIn_r _ [7] (by decide +kernel) (by decide +kernel)
set_option maxRecDepth 20000 in
theorem gX5_takesNumber_X5_in : GoodIn wsX5_takesNumber (va_wsS RX5 63 yX5_in wsX5_in) := goodIn_app (goodIn_of _ (by decide +kernel)) ggX5_takesNumber_X5_in
set_option maxRecDepth 20000 in
theorem ggX5_takesNumber_X5_goOn : GoodIn wsX5_takesNumber wsX5_goOn := goodIn_r _ [11, 12, 13, 14, 15, 16, 6, 17, 1, 2, 18, 19, 20, 21, 22, 23, 24, 25, 26, 27, 28, 29, 30, 31, 4, 5, 7, 32, 33, 34, 35, 36, 37, 38, 39, 40, 41, 42, 43, 44, 45, 46, 47, 48, 49, 50, 51, 52, 53, 54, 55, 56, 57, 58, 59, 60, 61, 62, 63, 64] (by decide +kernel) (by decide +kernel)
set_option maxRecDepth 20000 in
theorem gX5_takesNumber_X5_goOn : GoodIn wsX5_takesNumber (wsV RX5 200 RX5 yX5_goOn wsX5_goOn) := goodIn_app (goodIn_of _ (by decide +kernel)) ggX5_takesNumber_X5_goOn
theorem dX5_takesNumber_0 : decode cX5_takesNumber 0 = .ok (.aload_n 0, 1) := by decide +kernel
theorem dX5_takesNumber_1 : decode cX5_takesNumber 1 = .ok (.getfield 182, 3) := by decide +kernel
theorem dX5_takesNumber_4 : decode cX5_takesNumber 4 = .ok (.iconst 2, 1) := by decide +kernel
theorem dX5_takesNumber_5 : decode cX5_takesNumber 5 = .ok (.if_icmp .ne 18, 3) := by decide +kernel
theorem dX5_takesNumber_8 : decode cX5_takesNumber 8 = .ok (.aload_n 0, 1) := by decide +kernel
theorem dX5_takesNumber_9 : decode cX5_takesNumber 9 = .ok (.getfield 185, 3) := by decide +kernel
theorem dX5_takesNumber_12 : decode cX5_takesNumber 12 = .ok (.i2l, 1) := by decide +kernel
theorem dX5_takesNumber_13 : decode cX5_takesNumber 13 = .ok (.iload_n 1, 1) := by decide +kernel
theorem dX5_takesNumber_14 : decode cX5_takesNumber 14 = .ok (.i2l, 1) := by decide +kernel
theorem dX5_takesNumber_15 : decode cX5_takesNumber 15 = .ok (.iload_n 2, 1) := by decide +kernel
theorem dX5_takesNumber_16 : decode cX5_takesNumber 16 = .ok (.i2l, 1) := by decide +kernel
theorem dX5_takesNumber_17 : decode cX5_takesNumber 17 = .ok (.invokestatic 63, 3) := by decide +kernel
theorem dX5_takesNumber_20 : decode cX5_takesNumber 20 = .ok (.ifCond .ne 5, 3) := by decide +kernel
theorem dX5_takesNumber_23 : decode cX5_takesNumber 23 = .ok (.iconst 0, 1) := by decide +kernel
theorem dX5_takesNumber_24 : decode cX5_takesNumber 24 = .ok (.ireturn, 1) := by decide +kernel
theorem dX5_takesNumber_25 : decode cX5_takesNumber 25 = .ok (.aload_n 0, 1) := by decide +kernel
theorem dX5_takesNumber_26 : decode cX5_takesNumber 26 = .ok (.aload_n 0, 1) := by decide +kernel
theorem dX5_takesNumber_27 : decode cX5_takesNumber 27 = .ok (.getfield 185, 3) := by decide +kernel
theorem dX5_takesNumber_30 : decode cX5_takesNumber 30 = .ok (.putfield 197, 3) := by decide +kernel
theorem dX5_takesNumber_33 : decode cX5_takesNumber 33 = .ok (.aload_n 0, 1) := by decide +kernel
theorem dX5_takesNumber_34 : decode cX5_takesNumber 34 = .ok (.invokevirtual 200, 3) := by decide +kernel
theorem dX5_takesNumber_37 : decode cX5_takesNumber 37 = .ok (.iconst 1, 1) := by decide +kernel
theorem dX5_takesNumber_38 : decode cX5_takesNumber 38 = .ok (.ireturn, 1) := by decide +kernel
set_option maxRecDepth 20000 in
theorem ggX5_readShop_X5_goOn : GoodIn wsX5_readShop wsX5_goOn := goodIn_r _ [8, 9, 10, 11, 12, 13, 7, 14, 15, 16, 17, 18, 19, 20, 21, 22, 23, 24, 25, 26, 27, 28, 29, 30, 31, 32, 33, 34, 35, 36, 37, 38, 43, 44, 45, 46, 47, 48, 49, 50, 51, 52, 53, 54, 55, 56, 57, 58, 59, 60, 61, 62, 63, 64, 65, 66, 67, 68, 69, 70] (by decide +kernel) (by decide +kernel)
set_option maxRecDepth 20000 in
theorem gX5_readShop_X5_goOn : GoodIn wsX5_readShop (wsV RX5 200 RX5 yX5_goOn wsX5_goOn) := goodIn_app (goodIn_of _ (by decide +kernel)) ggX5_readShop_X5_goOn
set_option maxRecDepth 20000 in
theorem ggX5_readShop_X5_takesNumber : GoodIn wsX5_readShop wsX5_takesNumber := goodIn_r _ [42, 15, 16, 3, 31, 32, 7, 33, 4, 5, 6, 8, 9, 10, 11, 12, 13, 14, 17, 18, 19, 20, 21, 22, 23, 24, 25, 26, 27, 28, 29, 30, 34, 35, 36, 37, 38, 43, 44, 45, 46, 47, 48, 49, 50, 51, 52, 53, 54, 55, 56, 57, 58, 59, 60, 61, 62, 63, 64, 65, 66, 67, 68, 69, 70] (by decide +kernel) (by decide +kernel)
set_option maxRecDepth 20000 in
theorem gX5_readShop_X5_takesNumber : GoodIn wsX5_readShop (wsV RX5 206 RX5 yX5_takesNumber wsX5_takesNumber) := goodIn_app (goodIn_of _ (by decide +kernel)) ggX5_readShop_X5_takesNumber
theorem dX5_readShop_0 : decode cX5_readShop 0 = .ok (.aload_n 0, 1) := by decide +kernel
theorem dX5_readShop_1 : decode cX5_readShop 1 = .ok (.getfield 203, 3) := by decide +kernel
theorem dX5_readShop_4 : decode cX5_readShop 4 = .ok (.bipush 6, 2) := by decide +kernel
theorem dX5_readShop_6 : decode cX5_readShop 6 = .ok (.if_icmp .ne 5, 3) := by decide +kernel
theorem dX5_readShop_9 : decode cX5_readShop 9 = .ok (.iconst 0, 1) := by decide +kernel
theorem dX5_readShop_10 : decode cX5_readShop 10 = .ok (.ireturn, 1) := by decide +kernel
theorem dX5_readShop_11 : decode cX5_readShop 11 = .ok (.aload_n 0, 1) := by decide +kernel
theorem dX5_readShop_12 : decode cX5_readShop 12 = .ok (.invokevirtual 200, 3) := by decide +kernel
theorem dX5_readShop_15 : decode cX5_readShop 15 = .ok (.iconst 1, 1) := by decide +kernel
theorem dX5_readShop_16 : decode cX5_readShop 16 = .ok (.istore_n 1, 1) := by decide +kernel
theorem dX5_readShop_17 : decode cX5_readShop 17 = .ok (.iconst 0, 1) := by decide +kernel
theorem dX5_readShop_18 : decode cX5_readShop 18 = .ok (.istore_n 2, 1) := by decide +kernel
theorem dX5_readShop_19 : decode cX5_readShop 19 = .ok (.iload_n 2, 1) := by decide +kernel
theorem dX5_readShop_20 : decode cX5_readShop 20 = .ok (.iconst 4, 1) := by decide +kernel
theorem dX5_readShop_21 : decode cX5_readShop 21 = .ok (.if_icmp .ge 78, 3) := by decide +kernel
theorem dX5_readShop_24 : decode cX5_readShop 24 = .ok (.iload_n 1, 1) := by decide +kernel
theorem dX5_readShop_25 : decode cX5_readShop 25 = .ok (.ifCond .eq 74, 3) := by decide +kernel
theorem dX5_readShop_28 : decode cX5_readShop 28 = .ok (.aload_n 0, 1) := by decide +kernel
theorem dX5_readShop_29 : decode cX5_readShop 29 = .ok (.iload_n 2, 1) := by decide +kernel
theorem dX5_readShop_30 : decode cX5_readShop 30 = .ok (.iconst 2, 1) := by decide +kernel
theorem dX5_readShop_31 : decode cX5_readShop 31 = .ok (.if_icmp .ne 7, 3) := by decide +kernel
theorem dX5_readShop_34 : decode cX5_readShop 34 = .ok (.iconst 1, 1) := by decide +kernel
theorem dX5_readShop_35 : decode cX5_readShop 35 = .ok (.goto 4, 3) := by decide +kernel
theorem dX5_readShop_38 : decode cX5_readShop 38 = .ok (.iconst 0, 1) := by decide +kernel
theorem dX5_readShop_39 : decode cX5_readShop 39 = .ok (.iload_n 2, 1) := by decide +kernel
theorem dX5_readShop_40 : decode cX5_readShop 40 = .ok (.ifCond .ne 7, 3) := by decide +kernel
theorem dX5_readShop_43 : decode cX5_readShop 43 = .ok (.iconst 5, 1) := by decide +kernel
theorem dX5_readShop_44 : decode cX5_readShop 44 = .ok (.goto 26, 3) := by decide +kernel
theorem dX5_readShop_47 : decode cX5_readShop 47 = .ok (.iload_n 2, 1) := by decide +kernel
theorem dX5_readShop_48 : decode cX5_readShop 48 = .ok (.iconst 1, 1) := by decide +kernel
theorem dX5_readShop_49 : decode cX5_readShop 49 = .ok (.if_icmp .ne 8, 3) := by decide +kernel
theorem dX5_readShop_52 : decode cX5_readShop 52 = .ok (.bipush 20, 2) := by decide +kernel
theorem dX5_readShop_54 : decode cX5_readShop 54 = .ok (.goto 16, 3) := by decide +kernel
theorem dX5_readShop_57 : decode cX5_readShop 57 = .ok (.iload_n 2, 1) := by decide +kernel
theorem dX5_readShop_58 : decode cX5_readShop 58 = .ok (.iconst 2, 1) := by decide +kernel
theorem dX5_readShop_59 : decode cX5_readShop 59 = .ok (.if_icmp .ne 8, 3) := by decide +kernel
theorem dX5_readShop_62 : decode cX5_readShop 62 = .ok (.bipush 30, 2) := by decide +kernel
theorem dX5_readShop_64 : decode cX5_readShop 64 = .ok (.goto 6, 3) := by decide +kernel
theorem dX5_readShop_67 : decode cX5_readShop 67 = .ok (.sipush 240, 3) := by decide +kernel
theorem dX5_readShop_70 : decode cX5_readShop 70 = .ok (.invokevirtual 206, 3) := by decide +kernel
theorem dX5_readShop_73 : decode cX5_readShop 73 = .ok (.istore_n 1, 1) := by decide +kernel
theorem dX5_readShop_74 : decode cX5_readShop 74 = .ok (.aload_n 0, 1) := by decide +kernel
theorem dX5_readShop_75 : decode cX5_readShop 75 = .ok (.getfield 23, 3) := by decide +kernel
theorem dX5_readShop_78 : decode cX5_readShop 78 = .ok (.iconst 0, 1) := by decide +kernel
theorem dX5_readShop_79 : decode cX5_readShop 79 = .ok (.iconst 4, 1) := by decide +kernel
theorem dX5_readShop_80 : decode cX5_readShop 80 = .ok (.aload_n 0, 1) := by decide +kernel
theorem dX5_readShop_81 : decode cX5_readShop 81 = .ok (.getfield 203, 3) := by decide +kernel
theorem dX5_readShop_84 : decode cX5_readShop 84 = .ok (.imul, 1) := by decide +kernel
theorem dX5_readShop_85 : decode cX5_readShop 85 = .ok (.iadd, 1) := by decide +kernel
theorem dX5_readShop_86 : decode cX5_readShop 86 = .ok (.iload_n 2, 1) := by decide +kernel
theorem dX5_readShop_87 : decode cX5_readShop 87 = .ok (.iadd, 1) := by decide +kernel
theorem dX5_readShop_88 : decode cX5_readShop 88 = .ok (.aload_n 0, 1) := by decide +kernel
theorem dX5_readShop_89 : decode cX5_readShop 89 = .ok (.getfield 197, 3) := by decide +kernel
theorem dX5_readShop_92 : decode cX5_readShop 92 = .ok (.iastore, 1) := by decide +kernel
theorem dX5_readShop_93 : decode cX5_readShop 93 = .ok (.iinc 2 1, 3) := by decide +kernel
theorem dX5_readShop_96 : decode cX5_readShop 96 = .ok (.goto (-77), 3) := by decide +kernel
theorem dX5_readShop_99 : decode cX5_readShop 99 = .ok (.aload_n 0, 1) := by decide +kernel
theorem dX5_readShop_100 : decode cX5_readShop 100 = .ok (.getfield 23, 3) := by decide +kernel
theorem dX5_readShop_103 : decode cX5_readShop 103 = .ok (.bipush 24, 2) := by decide +kernel
theorem dX5_readShop_105 : decode cX5_readShop 105 = .ok (.aload_n 0, 1) := by decide +kernel
theorem dX5_readShop_106 : decode cX5_readShop 106 = .ok (.getfield 203, 3) := by decide +kernel
theorem dX5_readShop_109 : decode cX5_readShop 109 = .ok (.iadd, 1) := by decide +kernel
theorem dX5_readShop_110 : decode cX5_readShop 110 = .ok (.iconst 0, 1) := by decide +kernel
theorem dX5_readShop_111 : decode cX5_readShop 111 = .ok (.iastore, 1) := by decide +kernel
theorem dX5_readShop_112 : decode cX5_readShop 112 = .ok (.aload_n 0, 1) := by decide +kernel
theorem dX5_readShop_113 : decode cX5_readShop 113 = .ok (.dup, 1) := by decide +kernel
theorem dX5_readShop_114 : decode cX5_readShop 114 = .ok (.getfield 203, 3) := by decide +kernel
theorem dX5_readShop_117 : decode cX5_readShop 117 = .ok (.iconst 1, 1) := by decide +kernel
theorem dX5_readShop_118 : decode cX5_readShop 118 = .ok (.iadd, 1) := by decide +kernel
theorem dX5_readShop_119 : decode cX5_readShop 119 = .ok (.putfield 203, 3) := by decide +kernel
theorem dX5_readShop_122 : decode cX5_readShop 122 = .ok (.iload_n 1, 1) := by decide +kernel
theorem dX5_readShop_123 : decode cX5_readShop 123 = .ok (.ireturn, 1) := by decide +kernel
set_option maxRecDepth 20000 in
theorem ggX5_readNext_X5_goOn : GoodIn wsX5_readNext wsX5_goOn := goodIn_r _ [10, 11, 12, 13, 14, 15, 9, 16, 3, 4, 17, 18, 19, 20, 21, 22, 23, 24, 25, 26, 27, 28, 29, 30, 31, 32, 33, 34, 35, 36, 37, 38, 43, 44, 45, 46, 47, 48, 49, 50, 51, 52, 53, 54, 55, 56, 57, 58, 59, 60, 61, 62, 63, 64, 65, 66, 67, 68, 69, 70] (by decide +kernel) (by decide +kernel)
set_option maxRecDepth 20000 in
theorem gX5_readNext_X5_goOn : GoodIn wsX5_readNext (wsV RX5 200 RX5 yX5_goOn wsX5_goOn) := goodIn_app (goodIn_of _ (by decide +kernel)) ggX5_readNext_X5_goOn
set_option maxRecDepth 20000 in
theorem ggX5_readNext_X5_takesNumber : GoodIn wsX5_readNext wsX5_takesNumber := goodIn_r _ [42, 3, 4, 2, 31, 32, 9, 33, 6, 7, 8, 10, 11, 12, 13, 14, 15, 16, 17, 18, 19, 20, 21, 22, 23, 24, 25, 26, 27, 28, 29, 30, 34, 35, 36, 37, 38, 43, 44, 45, 46, 47, 48, 49, 50, 51, 52, 53, 54, 55, 56, 57, 58, 59, 60, 61, 62, 63, 64, 65, 66, 67, 68, 69, 70] (by decide +kernel) (by decide +kernel)
set_option maxRecDepth 20000 in
theorem gX5_readNext_X5_takesNumber : GoodIn wsX5_readNext (wsV RX5 206 RX5 yX5_takesNumber wsX5_takesNumber) := goodIn_app (goodIn_of _ (by decide +kernel)) ggX5_readNext_X5_takesNumber
set_option maxRecDepth 20000 in
theorem ggX5_readNext_X5_in : GoodIn wsX5_readNext wsX5_in := goodIn_r _ [33] (by decide +kernel) (by decide +kernel)
set_option maxRecDepth 20000 in
theorem gX5_readNext_X5_in : GoodIn wsX5_readNext (va_wsS RX5 63 yX5_in wsX5_in) := goodIn_app (goodIn_of _ (by decide +kernel)) ggX5_readNext_X5_in
theorem dX5_readNext_0 : decode cX5_readNext 0 = .ok (.aload_n 0, 1) := by decide +kernel
theorem dX5_readNext_1 : decode cX5_readNext 1 = .ok (.invokevirtual 200, 3) := by decide +kernel
theorem dX5_readNext_4 : decode cX5_readNext 4 = .ok (.aload_n 0, 1) := by decide +kernel
theorem dX5_readNext_5 : decode cX5_readNext 5 = .ok (.iconst 0, 1) := by decide +kernel
theorem dX5_readNext_6 : decode cX5_readNext 6 = .ok (.aload_n 0, 1) := by decide +kernel
theorem dX5_readNext_7 : decode cX5_readNext 7 = .ok (.getfield 203, 3) := by decide +kernel
theorem dX5_readNext_10 : decode cX5_readNext 10 = .ok (.iconst 1, 1) := by decide +kernel
theorem dX5_readNext_11 : decode cX5_readNext 11 = .ok (.isub, 1) := by decide +kernel
theorem dX5_readNext_12 : decode cX5_readNext 12 = .ok (.invokevirtual 206, 3) := by decide +kernel
theorem dX5_readNext_15 : decode cX5_readNext 15 = .ok (.ifCond .ne 5, 3) := by decide +kernel
theorem dX5_readNext_18 : decode cX5_readNext 18 = .ok (.iconst 0, 1) := by decide +kernel
theorem dX5_readNext_19 : decode cX5_readNext 19 = .ok (.ireturn, 1) := by decide +kernel
theorem dX5_readNext_20 : decode cX5_readNext 20 = .ok (.aload_n 0, 1) := by decide +kernel
theorem dX5_readNext_21 : decode cX5_readNext 21 = .ok (.getfield 197, 3) := by decide +kernel
theorem dX5_readNext_24 : decode cX5_readNext 24 = .ok (.istore_n 1, 1) := by decide +kernel
theorem dX5_readNext_25 : decode cX5_readNext 25 = .ok (.aload_n 0, 1) := by decide +kernel
theorem dX5_readNext_26 : decode cX5_readNext 26 = .ok (.getfield 182, 3) := by decide +kernel
theorem dX5_readNext_29 : decode cX5_readNext 29 = .ok (.iconst 2, 1) := by decide +kernel
theorem dX5_readNext_30 : decode cX5_readNext 30 = .ok (.if_icmp .ne 50, 3) := by decide +kernel
theorem dX5_readNext_33 : decode cX5_readNext 33 = .ok (.aload_n 0, 1) := by decide +kernel
theorem dX5_readNext_34 : decode cX5_readNext 34 = .ok (.getfield 185, 3) := by decide +kernel
theorem dX5_readNext_37 : decode cX5_readNext 37 = .ok (.i2l, 1) := by decide +kernel
theorem dX5_readNext_38 : decode cX5_readNext 38 = .ok (.lconst 0, 1) := by decide +kernel
theorem dX5_readNext_39 : decode cX5_readNext 39 = .ok (.aload_n 0, 1) := by decide +kernel
theorem dX5_readNext_40 : decode cX5_readNext 40 = .ok (.getfield 203, 3) := by decide +kernel
theorem dX5_readNext_43 : decode cX5_readNext 43 = .ok (.iconst 1, 1) := by decide +kernel
theorem dX5_readNext_44 : decode cX5_readNext 44 = .ok (.isub, 1) := by decide +kernel
theorem dX5_readNext_45 : decode cX5_readNext 45 = .ok (.i2l, 1) := by decide +kernel
theorem dX5_readNext_46 : decode cX5_readNext 46 = .ok (.invokestatic 63, 3) := by decide +kernel
theorem dX5_readNext_49 : decode cX5_readNext 49 = .ok (.ifCond .eq 31, 3) := by decide +kernel
theorem dX5_readNext_52 : decode cX5_readNext 52 = .ok (.aload_n 0, 1) := by decide +kernel
theorem dX5_readNext_53 : decode cX5_readNext 53 = .ok (.getfield 185, 3) := by decide +kernel
theorem dX5_readNext_56 : decode cX5_readNext 56 = .ok (.iload_n 1, 1) := by decide +kernel
theorem dX5_readNext_57 : decode cX5_readNext 57 = .ok (.if_icmp .eq 37, 3) := by decide +kernel
theorem dX5_readNext_60 : decode cX5_readNext 60 = .ok (.aload_n 0, 1) := by decide +kernel
theorem dX5_readNext_61 : decode cX5_readNext 61 = .ok (.getfield 23, 3) := by decide +kernel
theorem dX5_readNext_64 : decode cX5_readNext 64 = .ok (.bipush 24, 2) := by decide +kernel
theorem dX5_readNext_66 : decode cX5_readNext 66 = .ok (.iload_n 1, 1) := by decide +kernel
theorem dX5_readNext_67 : decode cX5_readNext 67 = .ok (.iadd, 1) := by decide +kernel
theorem dX5_readNext_68 : decode cX5_readNext 68 = .ok (.iaload, 1) := by decide +kernel
theorem dX5_readNext_69 : decode cX5_readNext 69 = .ok (.aload_n 0, 1) := by decide +kernel
theorem dX5_readNext_70 : decode cX5_readNext 70 = .ok (.getfield 185, 3) := by decide +kernel
theorem dX5_readNext_73 : decode cX5_readNext 73 = .ok (.ishr, 1) := by decide +kernel
theorem dX5_readNext_74 : decode cX5_readNext 74 = .ok (.iconst 1, 1) := by decide +kernel
theorem dX5_readNext_75 : decode cX5_readNext 75 = .ok (.iand, 1) := by decide +kernel
theorem dX5_readNext_76 : decode cX5_readNext 76 = .ok (.iconst 1, 1) := by decide +kernel
theorem dX5_readNext_77 : decode cX5_readNext 77 = .ok (.if_icmp .eq 17, 3) := by decide +kernel
theorem dX5_readNext_80 : decode cX5_readNext 80 = .ok (.aload_n 0, 1) := by decide +kernel
theorem dX5_readNext_81 : decode cX5_readNext 81 = .ok (.iconst 0, 1) := by decide +kernel
theorem dX5_readNext_82 : decode cX5_readNext 82 = .ok (.aload_n 0, 1) := by decide +kernel
theorem dX5_readNext_83 : decode cX5_readNext 83 = .ok (.getfield 203, 3) := by decide +kernel
theorem dX5_readNext_86 : decode cX5_readNext 86 = .ok (.iconst 1, 1) := by decide +kernel
theorem dX5_readNext_87 : decode cX5_readNext 87 = .ok (.isub, 1) := by decide +kernel
theorem dX5_readNext_88 : decode cX5_readNext 88 = .ok (.invokevirtual 206, 3) := by decide +kernel
theorem dX5_readNext_91 : decode cX5_readNext 91 = .ok (.ifCond .ne 5, 3) := by decide +kernel
theorem dX5_readNext_94 : decode cX5_readNext 94 = .ok (.iconst 0, 1) := by decide +kernel
theorem dX5_readNext_95 : decode cX5_readNext 95 = .ok (.ireturn, 1) := by decide +kernel
theorem dX5_readNext_96 : decode cX5_readNext 96 = .ok (.aload_n 0, 1) := by decide +kernel
theorem dX5_readNext_97 : decode cX5_readNext 97 = .ok (.getfield 23, 3) := by decide +kernel
theorem dX5_readNext_100 : decode cX5_readNext 100 = .ok (.bipush 24, 2) := by decide +kernel
theorem dX5_readNext_102 : decode cX5_readNext 102 = .ok (.iload_n 1, 1) := by decide +kernel
theorem dX5_readNext_103 : decode cX5_readNext 103 = .ok (.iadd, 1) := by decide +kernel
theorem dX5_readNext_104 : decode cX5_readNext 104 = .ok (.dup2, 1) := by decide +kernel
theorem dX5_readNext_105 : decode cX5_readNext 105 = .ok (.iaload, 1) := by decide +kernel
theorem dX5_readNext_106 : decode cX5_readNext 106 = .ok (.iconst 1, 1) := by decide +kernel
theorem dX5_readNext_107 : decode cX5_readNext 107 = .ok (.aload_n 0, 1) := by decide +kernel
theorem dX5_readNext_108 : decode cX5_readNext 108 = .ok (.getfield 197, 3) := by decide +kernel
theorem dX5_readNext_111 : decode cX5_readNext 111 = .ok (.ishl, 1) := by decide +kernel
theorem dX5_readNext_112 : decode cX5_readNext 112 = .ok (.ior, 1) := by decide +kernel
theorem dX5_readNext_113 : decode cX5_readNext 113 = .ok (.iastore, 1) := by decide +kernel
theorem dX5_readNext_114 : decode cX5_readNext 114 = .ok (.aload_n 0, 1) := by decide +kernel
theorem dX5_readNext_115 : decode cX5_readNext 115 = .ok (.getfield 23, 3) := by decide +kernel
theorem dX5_readNext_118 : decode cX5_readNext 118 = .ok (.bipush 24, 2) := by decide +kernel
theorem dX5_readNext_120 : decode cX5_readNext 120 = .ok (.aload_n 0, 1) := by decide +kernel
theorem dX5_readNext_121 : decode cX5_readNext 121 = .ok (.getfield 197, 3) := by decide +kernel
theorem dX5_readNext_124 : decode cX5_readNext 124 = .ok (.iadd, 1) := by decide +kernel
theorem dX5_readNext_125 : decode cX5_readNext 125 = .ok (.dup2, 1) := by decide +kernel
theorem dX5_readNext_126 : decode cX5_readNext 126 = .ok (.iaload, 1) := by decide +kernel
theorem dX5_readNext_127 : decode cX5_readNext 127 = .ok (.iconst 1, 1) := by decide +kernel
theorem dX5_readNext_128 : decode cX5_readNext 128 = .ok (.iload_n 1, 1) := by decide +kernel
theorem dX5_readNext_129 : decode cX5_readNext 129 = .ok (.ishl, 1) := by decide +kernel
theorem dX5_readNext_130 : decode cX5_readNext 130 = .ok (.ior, 1) := by decide +kernel
theorem dX5_readNext_131 : decode cX5_readNext 131 = .ok (.iastore, 1) := by decide +kernel
theorem dX5_readNext_132 : decode cX5_readNext 132 = .ok (.iconst 1, 1) := by decide +kernel
theorem dX5_readNext_133 : decode cX5_readNext 133 = .ok (.ireturn, 1) := by decide +kernel
set_option maxRecDepth 20000 in
theorem ggX5_readOne_X5_goOn : GoodIn wsX5_readOne wsX5_goOn := goodIn_r _ [8, 9, 10, 11, 12, 13, 7, 14, 15, 16, 17, 18, 19, 20, 21, 22, 23, 24, 25, 26, 27, 28, 29, 30, 31, 32, 33, 34, 35, 36, 37, 38, 43, 44, 45, 46, 47, 48, 49, 50, 51, 52, 53, 54, 55, 56, 57, 58, 59, 60, 61, 62, 63, 64, 65, 66, 67, 68, 69, 70] (by decide +kernel) (by decide +kernel)
set_option maxRecDepth 20000 in
theorem gX5_readOne_X5_goOn : GoodIn wsX5_readOne (wsV RX5 200 RX5 yX5_goOn wsX5_goOn) := goodIn_app (goodIn_of _ (by decide +kernel)) ggX5_readOne_X5_goOn
set_option maxRecDepth 20000 in
theorem ggX5_readOne_X5_takesNumber : GoodIn wsX5_readOne wsX5_takesNumber := goodIn_r _ [42, 15, 16, 3, 31, 32, 7, 33, 4, 5, 6, 8, 9, 10, 11, 12, 13, 14, 17, 18, 19, 20, 21, 22, 23, 24, 25, 26, 27, 28, 29, 30, 34, 35, 36, 37, 38, 43, 44, 45, 46, 47, 48, 49, 50, 51, 52, 53, 54, 55, 56, 57, 58, 59, 60, 61, 62, 63, 64, 65, 66, 67, 68, 69, 70] (by decide +kernel) (by decide +kernel)
set_option maxRecDepth 20000 in
theorem gX5_readOne_X5_takesNumber : GoodIn wsX5_readOne (wsV RX5 206 RX5 yX5_takesNumber wsX5_takesNumber) := goodIn_app (goodIn_of _ (by decide +kernel)) ggX5_readOne_X5_takesNumber
theorem dX5_readOne_0 : decode cX5_readOne 0 = .ok (.iload_n 1, 1) := by decide +kernel
theorem dX5_readOne_1 : decode cX5_readOne 1 = .ok (.ifCond .ne 17, 3) := by decide +kernel
theorem dX5_readOne_4 : decode cX5_readOne 4 = .ok (.aload_n 0, 1) := by decide +kernel
theorem dX5_readOne_5 : decode cX5_readOne 5 = .ok (.getfield 23, 3) := by decide +kernel
theorem dX5_readOne_8 : decode cX5_readOne 8 = .ok (.bipush 33, 2) := by decide +kernel
theorem dX5_readOne_10 : decode cX5_readOne 10 = .ok (.iaload, 1) := by decide +kernel
theorem dX5_readOne_11 : decode cX5_readOne 11 = .ok (.bipush 12, 2) := by decide +kernel
theorem dX5_readOne_13 : decode cX5_readOne 13 = .ok (.if_icmp .ne 5, 3) := by decide +kernel
theorem dX5_readOne_16 : decode cX5_readOne 16 = .ok (.iconst 0, 1) := by decide +kernel
theorem dX5_readOne_17 : decode cX5_readOne 17 = .ok (.ireturn, 1) := by decide +kernel
theorem dX5_readOne_18 : decode cX5_readOne 18 = .ok (.aload_n 0, 1) := by decide +kernel
theorem dX5_readOne_19 : decode cX5_readOne 19 = .ok (.invokevirtual 200, 3) := by decide +kernel
theorem dX5_readOne_22 : decode cX5_readOne 22 = .ok (.aload_n 0, 1) := by decide +kernel
theorem dX5_readOne_23 : decode cX5_readOne 23 = .ok (.iconst 0, 1) := by decide +kernel
theorem dX5_readOne_24 : decode cX5_readOne 24 = .ok (.aload_n 0, 1) := by decide +kernel
theorem dX5_readOne_25 : decode cX5_readOne 25 = .ok (.getfield 203, 3) := by decide +kernel
theorem dX5_readOne_28 : decode cX5_readOne 28 = .ok (.iconst 1, 1) := by decide +kernel
theorem dX5_readOne_29 : decode cX5_readOne 29 = .ok (.isub, 1) := by decide +kernel
theorem dX5_readOne_30 : decode cX5_readOne 30 = .ok (.invokevirtual 206, 3) := by decide +kernel
theorem dX5_readOne_33 : decode cX5_readOne 33 = .ok (.ifCond .ne 5, 3) := by decide +kernel
theorem dX5_readOne_36 : decode cX5_readOne 36 = .ok (.iconst 0, 1) := by decide +kernel
theorem dX5_readOne_37 : decode cX5_readOne 37 = .ok (.ireturn, 1) := by decide +kernel
theorem dX5_readOne_38 : decode cX5_readOne 38 = .ok (.iload_n 1, 1) := by decide +kernel
theorem dX5_readOne_39 : decode cX5_readOne 39 = .ok (.ifCond .eq 22, 3) := by decide +kernel
theorem dX5_readOne_42 : decode cX5_readOne 42 = .ok (.aload_n 0, 1) := by decide +kernel
theorem dX5_readOne_43 : decode cX5_readOne 43 = .ok (.getfield 23, 3) := by decide +kernel
theorem dX5_readOne_46 : decode cX5_readOne 46 = .ok (.bipush 30, 2) := by decide +kernel
theorem dX5_readOne_48 : decode cX5_readOne 48 = .ok (.dup2, 1) := by decide +kernel
theorem dX5_readOne_49 : decode cX5_readOne 49 = .ok (.iaload, 1) := by decide +kernel
theorem dX5_readOne_50 : decode cX5_readOne 50 = .ok (.iconst 1, 1) := by decide +kernel
theorem dX5_readOne_51 : decode cX5_readOne 51 = .ok (.aload_n 0, 1) := by decide +kernel
theorem dX5_readOne_52 : decode cX5_readOne 52 = .ok (.getfield 197, 3) := by decide +kernel
theorem dX5_readOne_55 : decode cX5_readOne 55 = .ok (.ishl, 1) := by decide +kernel
theorem dX5_readOne_56 : decode cX5_readOne 56 = .ok (.ior, 1) := by decide +kernel
theorem dX5_readOne_57 : decode cX5_readOne 57 = .ok (.iastore, 1) := by decide +kernel
theorem dX5_readOne_58 : decode cX5_readOne 58 = .ok (.goto 33, 3) := by decide +kernel
theorem dX5_readOne_61 : decode cX5_readOne 61 = .ok (.aload_n 0, 1) := by decide +kernel
theorem dX5_readOne_62 : decode cX5_readOne 62 = .ok (.getfield 23, 3) := by decide +kernel
theorem dX5_readOne_65 : decode cX5_readOne 65 = .ok (.bipush 34, 2) := by decide +kernel
theorem dX5_readOne_67 : decode cX5_readOne 67 = .ok (.aload_n 0, 1) := by decide +kernel
theorem dX5_readOne_68 : decode cX5_readOne 68 = .ok (.getfield 23, 3) := by decide +kernel
theorem dX5_readOne_71 : decode cX5_readOne 71 = .ok (.bipush 33, 2) := by decide +kernel
theorem dX5_readOne_73 : decode cX5_readOne 73 = .ok (.iaload, 1) := by decide +kernel
theorem dX5_readOne_74 : decode cX5_readOne 74 = .ok (.iadd, 1) := by decide +kernel
theorem dX5_readOne_75 : decode cX5_readOne 75 = .ok (.aload_n 0, 1) := by decide +kernel
theorem dX5_readOne_76 : decode cX5_readOne 76 = .ok (.getfield 197, 3) := by decide +kernel
theorem dX5_readOne_79 : decode cX5_readOne 79 = .ok (.iastore, 1) := by decide +kernel
theorem dX5_readOne_80 : decode cX5_readOne 80 = .ok (.aload_n 0, 1) := by decide +kernel
theorem dX5_readOne_81 : decode cX5_readOne 81 = .ok (.getfield 23, 3) := by decide +kernel
theorem dX5_readOne_84 : decode cX5_readOne 84 = .ok (.bipush 33, 2) := by decide +kernel
theorem dX5_readOne_86 : decode cX5_readOne 86 = .ok (.dup2, 1) := by decide +kernel
theorem dX5_readOne_87 : decode cX5_readOne 87 = .ok (.iaload, 1) := by decide +kernel
theorem dX5_readOne_88 : decode cX5_readOne 88 = .ok (.iconst 1, 1) := by decide +kernel
theorem dX5_readOne_89 : decode cX5_readOne 89 = .ok (.iadd, 1) := by decide +kernel
theorem dX5_readOne_90 : decode cX5_readOne 90 = .ok (.iastore, 1) := by decide +kernel
theorem dX5_readOne_91 : decode cX5_readOne 91 = .ok (.iconst 1, 1) := by decide +kernel
theorem dX5_readOne_92 : decode cX5_readOne 92 = .ok (.ireturn, 1) := by decide +kernel
set_option maxRecDepth 20000 in
theorem ggX5_readItem_X5_isWord : GoodIn wsX5_readItem wsX5_isWord := goodIn_r _ [5, 6, 7, 8, 9, 10, 11, 4, 12, 13, 59, 60, 61, 62, 63, 64, 65, 66, 67, 68, 69, 70, 71, 72, 73, 74, 75, 76, 77, 78, 79, 80, 81, 82, 83, 84, 85, 86] (by decide +kernel) (by decide +kernel)
set_option maxRecDepth 20000 in
theorem gX5_readItem_X5_isWord : GoodIn wsX5_readItem (wsV RX5 209 RX5 yX5_isWord wsX5_isWord) := goodIn_app (goodIn_of _ (by decide +kernel)) ggX5_readItem_X5_isWord
set_option maxRecDepth 20000 in
theorem ggX5_readItem_X5_readShop : GoodIn wsX5_readItem wsX5_readShop := goodIn_r _ [17, 18, 19, 20, 21, 22, 23, 4, 24, 8, 7, 25, 26, 27, 28, 6, 29, 30, 31, 32, 33, 13, 9, 10, 11, 12, 34, 35, 36, 37, 38, 39, 40, 41, 42, 43, 44, 45, 46, 47, 48, 49, 50, 59, 60, 61, 62, 63, 64, 65, 66, 67, 68, 69, 70, 71, 72, 73, 74, 75, 76, 77, 78, 79, 80, 81, 82, 83, 84, 85, 86] (by decide +kernel) (by decide +kernel)
set_option maxRecDepth 20000 in
theorem gX5_readItem_X5_readShop : GoodIn wsX5_readItem (wsV RX5 212 RX5 yX5_readShop wsX5_readShop) := goodIn_app (goodIn_of _ (by decide +kernel)) ggX5_readItem_X5_readShop
set_option maxRecDepth 20000 in
theorem ggX5_readItem_X5_readNext : GoodIn wsX5_readItem wsX5_readNext := goodIn_r _ [54, 18, 20, 6, 29, 19, 21, 22, 23, 4, 24, 8, 7, 25, 26, 27, 28, 30, 31, 32, 33, 13, 9, 10, 11, 12, 34, 35, 36, 37, 38, 39, 40, 41, 42, 43, 44, 45, 46, 47, 48, 49, 50, 59, 60, 61, 62, 63, 64, 65, 66, 67, 68, 69, 70, 71, 72, 73, 74, 75, 76, 77, 78, 79, 80, 81, 82, 83, 84, 85, 86] (by decide +kernel) (by decide +kernel)
set_option maxRecDepth 20000 in
theorem gX5_readItem_X5_readNext : GoodIn wsX5_readItem (wsV RX5 216 RX5 yX5_readNext wsX5_readNext) := goodIn_app (goodIn_of _ (by decide +kernel)) ggX5_readItem_X5_readNext
set_option maxRecDepth 20000 in
theorem ggX5_readItem_X5_readOne : GoodIn wsX5_readItem wsX5_readOne := goodIn_r _ [58, 19, 18, 20, 21, 22, 23, 4, 24, 8, 7, 25, 26, 27, 28, 6, 29, 30, 31, 32, 33, 13, 9, 10, 11, 12, 34, 35, 36, 37, 38, 39, 40, 41, 42, 43, 44, 45, 46, 47, 48, 49, 50, 59, 60, 61, 62, 63, 64, 65, 66, 67, 68, 69, 70, 71, 72, 73, 74, 75, 76, 77, 78, 79, 80, 81, 82, 83, 84, 85, 86] (by decide +kernel) (by decide +kernel)
set_option maxRecDepth 20000 in
theorem gX5_readItem_X5_readOne : GoodIn wsX5_readItem (wsV RX5 219 RX5 yX5_readOne wsX5_readOne) := goodIn_app (goodIn_of _ (by decide +kernel)) ggX5_readItem_X5_readOne
theorem dX5_readItem_0 : decode cX5_readItem 0 = .ok (.aload_n 0, 1) := by decide +kernel
theorem dX5_readItem_1 : decode cX5_readItem 1 = .ok (.bipush 115, 2) := by decide +kernel
theorem dX5_readItem_3 : decode cX5_readItem 3 = .ok (.bipush 104, 2) := by decide +kernel
theorem dX5_readItem_5 : decode cX5_readItem 5 = .ok (.bipush 111, 2) := by decide +kernel
theorem dX5_readItem_7 : decode cX5_readItem 7 = .ok (.bipush 112, 2) := by decide +kernel
theorem dX5_readItem_9 : decode cX5_readItem 9 = .ok (.invokevirtual 209, 3) := by decide +kernel
theorem dX5_readItem_12 : decode cX5_readItem 12 = .ok (.ifCond .eq 8, 3) := by decide +kernel
theorem dX5_readItem_15 : decode cX5_readItem 15 = .ok (.aload_n 0, 1) := by decide +kernel
theorem dX5_readItem_16 : decode cX5_readItem 16 = .ok (.invokevirtual 212, 3) := by decide +kernel
theorem dX5_readItem_19 : decode cX5_readItem 19 = .ok (.ireturn, 1) := by decide +kernel
theorem dX5_readItem_20 : decode cX5_readItem 20 = .ok (.aload_n 0, 1) := by decide +kernel
theorem dX5_readItem_21 : decode cX5_readItem 21 = .ok (.bipush 110, 2) := by decide +kernel
theorem dX5_readItem_23 : decode cX5_readItem 23 = .ok (.bipush 101, 2) := by decide +kernel
theorem dX5_readItem_25 : decode cX5_readItem 25 = .ok (.bipush 120, 2) := by decide +kernel
theorem dX5_readItem_27 : decode cX5_readItem 27 = .ok (.bipush 116, 2) := by decide +kernel
theorem dX5_readItem_29 : decode cX5_readItem 29 = .ok (.invokevirtual 209, 3) := by decide +kernel
theorem dX5_readItem_32 : decode cX5_readItem 32 = .ok (.ifCond .eq 8, 3) := by decide +kernel
theorem dX5_readItem_35 : decode cX5_readItem 35 = .ok (.aload_n 0, 1) := by decide +kernel
theorem dX5_readItem_36 : decode cX5_readItem 36 = .ok (.invokevirtual 216, 3) := by decide +kernel
theorem dX5_readItem_39 : decode cX5_readItem 39 = .ok (.ireturn, 1) := by decide +kernel
theorem dX5_readItem_40 : decode cX5_readItem 40 = .ok (.aload_n 0, 1) := by decide +kernel
theorem dX5_readItem_41 : decode cX5_readItem 41 = .ok (.bipush 102, 2) := by decide +kernel
theorem dX5_readItem_43 : decode cX5_readItem 43 = .ok (.bipush 114, 2) := by decide +kernel
theorem dX5_readItem_45 : decode cX5_readItem 45 = .ok (.bipush 101, 2) := by decide +kernel
theorem dX5_readItem_47 : decode cX5_readItem 47 = .ok (.bipush 101, 2) := by decide +kernel
theorem dX5_readItem_49 : decode cX5_readItem 49 = .ok (.invokevirtual 209, 3) := by decide +kernel
theorem dX5_readItem_52 : decode cX5_readItem 52 = .ok (.istore_n 1, 1) := by decide +kernel
theorem dX5_readItem_53 : decode cX5_readItem 53 = .ok (.iload_n 1, 1) := by decide +kernel
theorem dX5_readItem_54 : decode cX5_readItem 54 = .ok (.ifCond .ne 17, 3) := by decide +kernel
theorem dX5_readItem_57 : decode cX5_readItem 57 = .ok (.aload_n 0, 1) := by decide +kernel
theorem dX5_readItem_58 : decode cX5_readItem 58 = .ok (.bipush 98, 2) := by decide +kernel
theorem dX5_readItem_60 : decode cX5_readItem 60 = .ok (.bipush 117, 2) := by decide +kernel
theorem dX5_readItem_62 : decode cX5_readItem 62 = .ok (.bipush 121, 2) := by decide +kernel
theorem dX5_readItem_64 : decode cX5_readItem 64 = .ok (.iconst 0, 1) := by decide +kernel
theorem dX5_readItem_65 : decode cX5_readItem 65 = .ok (.invokevirtual 209, 3) := by decide +kernel
theorem dX5_readItem_68 : decode cX5_readItem 68 = .ok (.ifCond .eq 15, 3) := by decide +kernel
theorem dX5_readItem_71 : decode cX5_readItem 71 = .ok (.aload_n 0, 1) := by decide +kernel
theorem dX5_readItem_72 : decode cX5_readItem 72 = .ok (.iload_n 1, 1) := by decide +kernel
theorem dX5_readItem_73 : decode cX5_readItem 73 = .ok (.invokevirtual 219, 3) := by decide +kernel
theorem dX5_readItem_76 : decode cX5_readItem 76 = .ok (.ifCond .eq 7, 3) := by decide +kernel
theorem dX5_readItem_79 : decode cX5_readItem 79 = .ok (.iconst 1, 1) := by decide +kernel
theorem dX5_readItem_80 : decode cX5_readItem 80 = .ok (.goto 4, 3) := by decide +kernel
theorem dX5_readItem_83 : decode cX5_readItem 83 = .ok (.iconst 0, 1) := by decide +kernel
theorem dX5_readItem_84 : decode cX5_readItem 84 = .ok (.ireturn, 1) := by decide +kernel
set_option maxRecDepth 20000 in
theorem ggX5_read_X5_look : GoodIn wsX5_read wsX5_look := goodIn_r _ [10, 4, 11, 3, 12, 13, 14, 15, 9, 16, 5, 17, 18, 19, 20, 21, 22, 23, 24, 25, 26, 27, 28, 29, 30, 31, 32, 33, 63, 64, 65, 66, 67, 68, 69, 70, 71, 72, 73, 74, 75, 76, 77, 78, 79, 80, 81, 82, 83, 84, 85, 86, 87, 88, 89, 90] (by decide +kernel) (by decide +kernel)
set_option maxRecDepth 20000 in
theorem gX5_read_X5_look : GoodIn wsX5_read (wsV RX5 194 RX5 yX5_look wsX5_look) := goodIn_app (goodIn_of _ (by decide +kernel)) ggX5_read_X5_look
set_option maxRecDepth 20000 in
theorem ggX5_read_X5_readItem : GoodIn wsX5_read wsX5_readItem := goodIn_r _ [37, 38, 39, 40, 9, 41, 3, 11, 4, 17, 18, 19, 20, 5, 42, 43, 44, 45, 1, 2, 46, 47, 48, 49, 50, 6, 7, 8, 10, 12, 13, 14, 15, 16, 21, 22, 23, 24, 25, 26, 27, 28, 29, 30, 31, 32, 33, 51, 52, 53, 54, 55, 56, 57, 58, 59, 60, 61, 62, 63, 64, 65, 66, 67, 68, 69, 70, 71, 72, 73, 74, 75, 76, 77, 78, 79, 80, 81, 82, 83, 84, 85, 86, 87, 88, 89, 90] (by decide +kernel) (by decide +kernel)
set_option maxRecDepth 20000 in
theorem gX5_read_X5_readItem : GoodIn wsX5_read (wsV RX5 223 RX5 yX5_readItem wsX5_readItem) := goodIn_app (goodIn_of _ (by decide +kernel)) ggX5_read_X5_readItem
set_option maxRecDepth 20000 in
theorem ggX5_read_X5_goOn : GoodIn wsX5_read wsX5_goOn := goodIn_r _ [50, 4, 11, 6, 7, 8, 9, 10, 3, 12, 13, 14, 15, 16, 5, 17, 18, 19, 20, 21, 22, 23, 24, 25, 26, 27, 28, 29, 30, 31, 32, 33, 63, 64, 65, 66, 67, 68, 69, 70, 71, 72, 73, 74, 75, 76, 77, 78, 79, 80, 81, 82, 83, 84, 85, 86, 87, 88, 89, 90] (by decide +kernel) (by decide +kernel)
set_option maxRecDepth 20000 in
theorem gX5_read_X5_goOn : GoodIn wsX5_read (wsV RX5 200 RX5 yX5_goOn wsX5_goOn) := goodIn_app (goodIn_of _ (by decide +kernel)) ggX5_read_X5_goOn
theorem dX5_read_0 : decode cX5_read 0 = .ok (.aload_n 0, 1) := by decide +kernel
theorem dX5_read_1 : decode cX5_read 1 = .ok (.iconst 0, 1) := by decide +kernel
theorem dX5_read_2 : decode cX5_read 2 = .ok (.putfield 203, 3) := by decide +kernel
theorem dX5_read_5 : decode cX5_read 5 = .ok (.aload_n 0, 1) := by decide +kernel
theorem dX5_read_6 : decode cX5_read 6 = .ok (.getfield 23, 3) := by decide +kernel
theorem dX5_read_9 : decode cX5_read 9 = .ok (.bipush 30, 2) := by decide +kernel
theorem dX5_read_11 : decode cX5_read 11 = .ok (.iconst 0, 1) := by decide +kernel
theorem dX5_read_12 : decode cX5_read 12 = .ok (.iastore, 1) := by decide +kernel
theorem dX5_read_13 : decode cX5_read 13 = .ok (.aload_n 0, 1) := by decide +kernel
theorem dX5_read_14 : decode cX5_read 14 = .ok (.getfield 23, 3) := by decide +kernel
theorem dX5_read_17 : decode cX5_read 17 = .ok (.bipush 33, 2) := by decide +kernel
theorem dX5_read_19 : decode cX5_read 19 = .ok (.iconst 0, 1) := by decide +kernel
theorem dX5_read_20 : decode cX5_read 20 = .ok (.iastore, 1) := by decide +kernel
theorem dX5_read_21 : decode cX5_read 21 = .ok (.iconst 0, 1) := by decide +kernel
theorem dX5_read_22 : decode cX5_read 22 = .ok (.istore_n 1, 1) := by decide +kernel
theorem dX5_read_23 : decode cX5_read 23 = .ok (.aload_n 0, 1) := by decide +kernel
theorem dX5_read_24 : decode cX5_read 24 = .ok (.iconst 0, 1) := by decide +kernel
theorem dX5_read_25 : decode cX5_read 25 = .ok (.invokevirtual 194, 3) := by decide +kernel
theorem dX5_read_28 : decode cX5_read 28 = .ok (.aload_n 0, 1) := by decide +kernel
theorem dX5_read_29 : decode cX5_read 29 = .ok (.getfield 182, 3) := by decide +kernel
theorem dX5_read_32 : decode cX5_read 32 = .ok (.ifCond .eq 36, 3) := by decide +kernel
theorem dX5_read_35 : decode cX5_read 35 = .ok (.aload_n 0, 1) := by decide +kernel
theorem dX5_read_36 : decode cX5_read 36 = .ok (.invokevirtual 223, 3) := by decide +kernel
theorem dX5_read_39 : decode cX5_read 39 = .ok (.ifCond .eq 11, 3) := by decide +kernel
theorem dX5_read_42 : decode cX5_read 42 = .ok (.aload_n 0, 1) := by decide +kernel
theorem dX5_read_43 : decode cX5_read 43 = .ok (.getfield 182, 3) := by decide +kernel
theorem dX5_read_46 : decode cX5_read 46 = .ok (.iconst 3, 1) := by decide +kernel
theorem dX5_read_47 : decode cX5_read 47 = .ok (.if_icmp .eq 11, 3) := by decide +kernel
theorem dX5_read_50 : decode cX5_read 50 = .ok (.bipush (-10), 2) := by decide +kernel
theorem dX5_read_52 : decode cX5_read 52 = .ok (.aload_n 0, 1) := by decide +kernel
theorem dX5_read_53 : decode cX5_read 53 = .ok (.getfield 173, 3) := by decide +kernel
theorem dX5_read_56 : decode cX5_read 56 = .ok (.isub, 1) := by decide +kernel
theorem dX5_read_57 : decode cX5_read 57 = .ok (.ireturn, 1) := by decide +kernel
theorem dX5_read_58 : decode cX5_read 58 = .ok (.aload_n 0, 1) := by decide +kernel
theorem dX5_read_59 : decode cX5_read 59 = .ok (.invokevirtual 200, 3) := by decide +kernel
theorem dX5_read_62 : decode cX5_read 62 = .ok (.iinc 1 1, 3) := by decide +kernel
theorem dX5_read_65 : decode cX5_read 65 = .ok (.goto (-37), 3) := by decide +kernel
theorem dX5_read_68 : decode cX5_read 68 = .ok (.iconst 0, 1) := by decide +kernel
theorem dX5_read_69 : decode cX5_read 69 = .ok (.istore_n 2, 1) := by decide +kernel
theorem dX5_read_70 : decode cX5_read 70 = .ok (.iload_n 2, 1) := by decide +kernel
theorem dX5_read_71 : decode cX5_read 71 = .ok (.bipush 46, 2) := by decide +kernel
theorem dX5_read_73 : decode cX5_read 73 = .ok (.if_icmp .ge 42, 3) := by decide +kernel
theorem dX5_read_76 : decode cX5_read 76 = .ok (.aload_n 0, 1) := by decide +kernel
theorem dX5_read_77 : decode cX5_read 77 = .ok (.getfield 7, 3) := by decide +kernel
theorem dX5_read_80 : decode cX5_read 80 = .ok (.iload_n 2, 1) := by decide +kernel
theorem dX5_read_81 : decode cX5_read 81 = .ok (.iload_n 2, 1) := by decide +kernel
theorem dX5_read_82 : decode cX5_read 82 = .ok (.bipush 31, 2) := by decide +kernel
theorem dX5_read_84 : decode cX5_read 84 = .ok (.if_icmp .eq 9, 3) := by decide +kernel
theorem dX5_read_87 : decode cX5_read 87 = .ok (.iload_n 2, 1) := by decide +kernel
theorem dX5_read_88 : decode cX5_read 88 = .ok (.bipush 32, 2) := by decide +kernel
theorem dX5_read_90 : decode cX5_read 90 = .ok (.if_icmp .ne 12, 3) := by decide +kernel
theorem dX5_read_93 : decode cX5_read 93 = .ok (.aload_n 0, 1) := by decide +kernel
theorem dX5_read_94 : decode cX5_read 94 = .ok (.getfield 7, 3) := by decide +kernel
theorem dX5_read_97 : decode cX5_read 97 = .ok (.iload_n 2, 1) := by decide +kernel
theorem dX5_read_98 : decode cX5_read 98 = .ok (.iaload, 1) := by decide +kernel
theorem dX5_read_99 : decode cX5_read 99 = .ok (.goto 9, 3) := by decide +kernel
theorem dX5_read_102 : decode cX5_read 102 = .ok (.aload_n 0, 1) := by decide +kernel
theorem dX5_read_103 : decode cX5_read 103 = .ok (.getfield 23, 3) := by decide +kernel
theorem dX5_read_106 : decode cX5_read 106 = .ok (.iload_n 2, 1) := by decide +kernel
theorem dX5_read_107 : decode cX5_read 107 = .ok (.iaload, 1) := by decide +kernel
theorem dX5_read_108 : decode cX5_read 108 = .ok (.iastore, 1) := by decide +kernel
theorem dX5_read_109 : decode cX5_read 109 = .ok (.iinc 2 1, 3) := by decide +kernel
theorem dX5_read_112 : decode cX5_read 112 = .ok (.goto (-42), 3) := by decide +kernel
theorem dX5_read_115 : decode cX5_read 115 = .ok (.aload_n 0, 1) := by decide +kernel
theorem dX5_read_116 : decode cX5_read 116 = .ok (.getfield 7, 3) := by decide +kernel
theorem dX5_read_119 : decode cX5_read 119 = .ok (.sipush 259, 3) := by decide +kernel
theorem dX5_read_122 : decode cX5_read 122 = .ok (.aload_n 0, 1) := by decide +kernel
theorem dX5_read_123 : decode cX5_read 123 = .ok (.getfield 203, 3) := by decide +kernel
theorem dX5_read_126 : decode cX5_read 126 = .ok (.iastore, 1) := by decide +kernel
theorem dX5_read_127 : decode cX5_read 127 = .ok (.iload_n 1, 1) := by decide +kernel
theorem dX5_read_128 : decode cX5_read 128 = .ok (.ireturn, 1) := by decide +kernel
theorem dX5_keepState_0 : decode cX5_keepState 0 = .ok (.aload_n 0, 1) := by decide +kernel
theorem dX5_keepState_1 : decode cX5_keepState 1 = .ok (.getfield 44, 3) := by decide +kernel
theorem dX5_keepState_4 : decode cX5_keepState 4 = .ok (.iload_n 1, 1) := by decide +kernel
theorem dX5_keepState_5 : decode cX5_keepState 5 = .ok (.aload_n 0, 1) := by decide +kernel
theorem dX5_keepState_6 : decode cX5_keepState 6 = .ok (.getfield 128, 3) := by decide +kernel
theorem dX5_keepState_9 : decode cX5_keepState 9 = .ok (.iastore, 1) := by decide +kernel
theorem dX5_keepState_10 : decode cX5_keepState 10 = .ok (.aload_n 0, 1) := by decide +kernel
theorem dX5_keepState_11 : decode cX5_keepState 11 = .ok (.getfield 47, 3) := by decide +kernel
theorem dX5_keepState_14 : decode cX5_keepState 14 = .ok (.iload_n 1, 1) := by decide +kernel
theorem dX5_keepState_15 : decode cX5_keepState 15 = .ok (.aload_n 0, 1) := by decide +kernel
theorem dX5_keepState_16 : decode cX5_keepState 16 = .ok (.getfield 140, 3) := by decide +kernel
theorem dX5_keepState_19 : decode cX5_keepState 19 = .ok (.iastore, 1) := by decide +kernel
theorem dX5_keepState_20 : decode cX5_keepState 20 = .ok (.aload_n 0, 1) := by decide +kernel
theorem dX5_keepState_21 : decode cX5_keepState 21 = .ok (.getfield 50, 3) := by decide +kernel
theorem dX5_keepState_24 : decode cX5_keepState 24 = .ok (.iload_n 1, 1) := by decide +kernel
theorem dX5_keepState_25 : decode cX5_keepState 25 = .ok (.aload_n 0, 1) := by decide +kernel
theorem dX5_keepState_26 : decode cX5_keepState 26 = .ok (.getfield 131, 3) := by decide +kernel
theorem dX5_keepState_29 : decode cX5_keepState 29 = .ok (.iastore, 1) := by decide +kernel
theorem dX5_keepState_30 : decode cX5_keepState 30 = .ok (.aload_n 0, 1) := by decide +kernel
theorem dX5_keepState_31 : decode cX5_keepState 31 = .ok (.getfield 53, 3) := by decide +kernel
theorem dX5_keepState_34 : decode cX5_keepState 34 = .ok (.iload_n 1, 1) := by decide +kernel
theorem dX5_keepState_35 : decode cX5_keepState 35 = .ok (.aload_n 0, 1) := by decide +kernel
theorem dX5_keepState_36 : decode cX5_keepState 36 = .ok (.getfield 125, 3) := by decide +kernel
theorem dX5_keepState_39 : decode cX5_keepState 39 = .ok (.iastore, 1) := by decide +kernel
theorem dX5_keepState_40 : decode cX5_keepState 40 = .ok (.return_, 1) := by decide +kernel
theorem dX5_backTo_0 : decode cX5_backTo 0 = .ok (.aload_n 0, 1) := by decide +kernel
theorem dX5_backTo_1 : decode cX5_backTo 1 = .ok (.aload_n 0, 1) := by decide +kernel
theorem dX5_backTo_2 : decode cX5_backTo 2 = .ok (.getfield 44, 3) := by decide +kernel
theorem dX5_backTo_5 : decode cX5_backTo 5 = .ok (.iload_n 1, 1) := by decide +kernel
theorem dX5_backTo_6 : decode cX5_backTo 6 = .ok (.iaload, 1) := by decide +kernel
theorem dX5_backTo_7 : decode cX5_backTo 7 = .ok (.putfield 128, 3) := by decide +kernel
theorem dX5_backTo_10 : decode cX5_backTo 10 = .ok (.aload_n 0, 1) := by decide +kernel
theorem dX5_backTo_11 : decode cX5_backTo 11 = .ok (.aload_n 0, 1) := by decide +kernel
theorem dX5_backTo_12 : decode cX5_backTo 12 = .ok (.getfield 47, 3) := by decide +kernel
theorem dX5_backTo_15 : decode cX5_backTo 15 = .ok (.iload_n 1, 1) := by decide +kernel
theorem dX5_backTo_16 : decode cX5_backTo 16 = .ok (.iaload, 1) := by decide +kernel
theorem dX5_backTo_17 : decode cX5_backTo 17 = .ok (.putfield 140, 3) := by decide +kernel
theorem dX5_backTo_20 : decode cX5_backTo 20 = .ok (.aload_n 0, 1) := by decide +kernel
theorem dX5_backTo_21 : decode cX5_backTo 21 = .ok (.aload_n 0, 1) := by decide +kernel
theorem dX5_backTo_22 : decode cX5_backTo 22 = .ok (.getfield 50, 3) := by decide +kernel
theorem dX5_backTo_25 : decode cX5_backTo 25 = .ok (.iload_n 1, 1) := by decide +kernel
theorem dX5_backTo_26 : decode cX5_backTo 26 = .ok (.iaload, 1) := by decide +kernel
theorem dX5_backTo_27 : decode cX5_backTo 27 = .ok (.putfield 131, 3) := by decide +kernel
theorem dX5_backTo_30 : decode cX5_backTo 30 = .ok (.aload_n 0, 1) := by decide +kernel
theorem dX5_backTo_31 : decode cX5_backTo 31 = .ok (.aload_n 0, 1) := by decide +kernel
theorem dX5_backTo_32 : decode cX5_backTo 32 = .ok (.getfield 53, 3) := by decide +kernel
theorem dX5_backTo_35 : decode cX5_backTo 35 = .ok (.iload_n 1, 1) := by decide +kernel
theorem dX5_backTo_36 : decode cX5_backTo 36 = .ok (.iaload, 1) := by decide +kernel
theorem dX5_backTo_37 : decode cX5_backTo 37 = .ok (.putfield 125, 3) := by decide +kernel
theorem dX5_backTo_40 : decode cX5_backTo 40 = .ok (.aload_n 0, 1) := by decide +kernel
theorem dX5_backTo_41 : decode cX5_backTo 41 = .ok (.iload_n 1, 1) := by decide +kernel
theorem dX5_backTo_42 : decode cX5_backTo 42 = .ok (.ifCond .ne 7, 3) := by decide +kernel
theorem dX5_backTo_45 : decode cX5_backTo 45 = .ok (.iconst (-1), 1) := by decide +kernel
theorem dX5_backTo_46 : decode cX5_backTo 46 = .ok (.goto 11, 3) := by decide +kernel
theorem dX5_backTo_49 : decode cX5_backTo 49 = .ok (.aload_n 0, 1) := by decide +kernel
theorem dX5_backTo_50 : decode cX5_backTo 50 = .ok (.getfield 41, 3) := by decide +kernel
theorem dX5_backTo_53 : decode cX5_backTo 53 = .ok (.iload_n 1, 1) := by decide +kernel
theorem dX5_backTo_54 : decode cX5_backTo 54 = .ok (.iconst 1, 1) := by decide +kernel
theorem dX5_backTo_55 : decode cX5_backTo 55 = .ok (.isub, 1) := by decide +kernel
theorem dX5_backTo_56 : decode cX5_backTo 56 = .ok (.iaload, 1) := by decide +kernel
theorem dX5_backTo_57 : decode cX5_backTo 57 = .ok (.putfield 121, 3) := by decide +kernel
theorem dX5_backTo_60 : decode cX5_backTo 60 = .ok (.return_, 1) := by decide +kernel
theorem dX5_note_0 : decode cX5_note 0 = .ok (.iconst 0, 1) := by decide +kernel
theorem dX5_note_1 : decode cX5_note 1 = .ok (.istore_n 2, 1) := by decide +kernel
theorem dX5_note_2 : decode cX5_note 2 = .ok (.iload_n 1, 1) := by decide +kernel
theorem dX5_note_3 : decode cX5_note 3 = .ok (.iconst 1, 1) := by decide +kernel
theorem dX5_note_4 : decode cX5_note 4 = .ok (.isub, 1) := by decide +kernel
theorem dX5_note_5 : decode cX5_note 5 = .ok (.istore_n 3, 1) := by decide +kernel
theorem dX5_note_6 : decode cX5_note 6 = .ok (.iload_n 3, 1) := by decide +kernel
theorem dX5_note_7 : decode cX5_note 7 = .ok (.ifCond .lt 21, 3) := by decide +kernel
theorem dX5_note_10 : decode cX5_note 10 = .ok (.bipush 8, 2) := by decide +kernel
theorem dX5_note_12 : decode cX5_note 12 = .ok (.iload_n 2, 1) := by decide +kernel
theorem dX5_note_13 : decode cX5_note 13 = .ok (.imul, 1) := by decide +kernel
theorem dX5_note_14 : decode cX5_note 14 = .ok (.aload_n 0, 1) := by decide +kernel
theorem dX5_note_15 : decode cX5_note 15 = .ok (.getfield 41, 3) := by decide +kernel
theorem dX5_note_18 : decode cX5_note 18 = .ok (.iload_n 3, 1) := by decide +kernel
theorem dX5_note_19 : decode cX5_note 19 = .ok (.iaload, 1) := by decide +kernel
theorem dX5_note_20 : decode cX5_note 20 = .ok (.iadd, 1) := by decide +kernel
theorem dX5_note_21 : decode cX5_note 21 = .ok (.istore_n 2, 1) := by decide +kernel
theorem dX5_note_22 : decode cX5_note 22 = .ok (.iinc 3 (-1), 3) := by decide +kernel
theorem dX5_note_25 : decode cX5_note 25 = .ok (.goto (-19), 3) := by decide +kernel
theorem dX5_note_28 : decode cX5_note 28 = .ok (.iconst 1, 1) := by decide +kernel
theorem dX5_note_29 : decode cX5_note 29 = .ok (.istore_n 3, 1) := by decide +kernel
theorem dX5_note_30 : decode cX5_note 30 = .ok (.iload_n 3, 1) := by decide +kernel
theorem dX5_note_31 : decode cX5_note 31 = .ok (.bipush 64, 2) := by decide +kernel
theorem dX5_note_33 : decode cX5_note 33 = .ok (.if_icmp .ge 134, 3) := by decide +kernel
theorem dX5_note_36 : decode cX5_note 36 = .ok (.iload_n 3, 1) := by decide +kernel
theorem dX5_note_37 : decode cX5_note 37 = .ok (.aload_n 0, 1) := by decide +kernel
theorem dX5_note_38 : decode cX5_note 38 = .ok (.getfield 128, 3) := by decide +kernel
theorem dX5_note_41 : decode cX5_note 41 = .ok (.iconst (-1), 1) := by decide +kernel
theorem dX5_note_42 : decode cX5_note 42 = .ok (.ixor, 1) := by decide +kernel
theorem dX5_note_43 : decode cX5_note 43 = .ok (.iand, 1) := by decide +kernel
theorem dX5_note_44 : decode cX5_note 44 = .ok (.ifCond .ne 117, 3) := by decide +kernel
theorem dX5_note_47 : decode cX5_note 47 = .ok (.aload_n 0, 1) := by decide +kernel
theorem dX5_note_48 : decode cX5_note 48 = .ok (.getfield 140, 3) := by decide +kernel
theorem dX5_note_51 : decode cX5_note 51 = .ok (.aload_n 0, 1) := by decide +kernel
theorem dX5_note_52 : decode cX5_note 52 = .ok (.getfield 26, 3) := by decide +kernel
theorem dX5_note_55 : decode cX5_note 55 = .ok (.iload_n 3, 1) := by decide +kernel
theorem dX5_note_56 : decode cX5_note 56 = .ok (.iaload, 1) := by decide +kernel
theorem dX5_note_57 : decode cX5_note 57 = .ok (.if_icmp .lt 26, 3) := by decide +kernel
theorem dX5_note_60 : decode cX5_note 60 = .ok (.aload_n 0, 1) := by decide +kernel
theorem dX5_note_61 : decode cX5_note 61 = .ok (.getfield 140, 3) := by decide +kernel
theorem dX5_note_64 : decode cX5_note 64 = .ok (.aload_n 0, 1) := by decide +kernel
theorem dX5_note_65 : decode cX5_note 65 = .ok (.getfield 26, 3) := by decide +kernel
theorem dX5_note_68 : decode cX5_note 68 = .ok (.iload_n 3, 1) := by decide +kernel
theorem dX5_note_69 : decode cX5_note 69 = .ok (.iaload, 1) := by decide +kernel
theorem dX5_note_70 : decode cX5_note 70 = .ok (.if_icmp .ne 17, 3) := by decide +kernel
theorem dX5_note_73 : decode cX5_note 73 = .ok (.iload_n 1, 1) := by decide +kernel
theorem dX5_note_74 : decode cX5_note 74 = .ok (.aload_n 0, 1) := by decide +kernel
theorem dX5_note_75 : decode cX5_note 75 = .ok (.getfield 29, 3) := by decide +kernel
theorem dX5_note_78 : decode cX5_note 78 = .ok (.iload_n 3, 1) := by decide +kernel
theorem dX5_note_79 : decode cX5_note 79 = .ok (.iaload, 1) := by decide +kernel
theorem dX5_note_80 : decode cX5_note 80 = .ok (.if_icmp .ge 7, 3) := by decide +kernel
theorem dX5_note_83 : decode cX5_note 83 = .ok (.iconst 1, 1) := by decide +kernel
theorem dX5_note_84 : decode cX5_note 84 = .ok (.goto 4, 3) := by decide +kernel
theorem dX5_note_87 : decode cX5_note 87 = .ok (.iconst 0, 1) := by decide +kernel
theorem dX5_note_88 : decode cX5_note 88 = .ok (.istore 4, 2) := by decide +kernel
theorem dX5_note_90 : decode cX5_note 90 = .ok (.iload 4, 2) := by decide +kernel
theorem dX5_note_92 : decode cX5_note 92 = .ok (.ifCond .eq 37, 3) := by decide +kernel
theorem dX5_note_95 : decode cX5_note 95 = .ok (.aload_n 0, 1) := by decide +kernel
theorem dX5_note_96 : decode cX5_note 96 = .ok (.getfield 26, 3) := by decide +kernel
theorem dX5_note_99 : decode cX5_note 99 = .ok (.iload_n 3, 1) := by decide +kernel
theorem dX5_note_100 : decode cX5_note 100 = .ok (.aload_n 0, 1) := by decide +kernel
theorem dX5_note_101 : decode cX5_note 101 = .ok (.getfield 140, 3) := by decide +kernel
theorem dX5_note_104 : decode cX5_note 104 = .ok (.iastore, 1) := by decide +kernel
theorem dX5_note_105 : decode cX5_note 105 = .ok (.aload_n 0, 1) := by decide +kernel
theorem dX5_note_106 : decode cX5_note 106 = .ok (.getfield 29, 3) := by decide +kernel
theorem dX5_note_109 : decode cX5_note 109 = .ok (.iload_n 3, 1) := by decide +kernel
theorem dX5_note_110 : decode cX5_note 110 = .ok (.iload_n 1, 1) := by decide +kernel
theorem dX5_note_111 : decode cX5_note 111 = .ok (.iastore, 1) := by decide +kernel
theorem dX5_note_112 : decode cX5_note 112 = .ok (.aload_n 0, 1) := by decide +kernel
theorem dX5_note_113 : decode cX5_note 113 = .ok (.getfield 32, 3) := by decide +kernel
theorem dX5_note_116 : decode cX5_note 116 = .ok (.iload_n 3, 1) := by decide +kernel
theorem dX5_note_117 : decode cX5_note 117 = .ok (.aload_n 0, 1) := by decide +kernel
theorem dX5_note_118 : decode cX5_note 118 = .ok (.getfield 131, 3) := by decide +kernel
theorem dX5_note_121 : decode cX5_note 121 = .ok (.iastore, 1) := by decide +kernel
theorem dX5_note_122 : decode cX5_note 122 = .ok (.aload_n 0, 1) := by decide +kernel
theorem dX5_note_123 : decode cX5_note 123 = .ok (.getfield 35, 3) := by decide +kernel
theorem dX5_note_126 : decode cX5_note 126 = .ok (.iload_n 3, 1) := by decide +kernel
theorem dX5_note_127 : decode cX5_note 127 = .ok (.iload_n 2, 1) := by decide +kernel
theorem dX5_note_128 : decode cX5_note 128 = .ok (.iastore, 1) := by decide +kernel
theorem dX5_note_129 : decode cX5_note 129 = .ok (.aload_n 0, 1) := by decide +kernel
theorem dX5_note_130 : decode cX5_note 130 = .ok (.getfield 38, 3) := by decide +kernel
theorem dX5_note_133 : decode cX5_note 133 = .ok (.iload_n 3, 1) := by decide +kernel
theorem dX5_note_134 : decode cX5_note 134 = .ok (.aload_n 0, 1) := by decide +kernel
theorem dX5_note_135 : decode cX5_note 135 = .ok (.getfield 131, 3) := by decide +kernel
theorem dX5_note_138 : decode cX5_note 138 = .ok (.aload_n 0, 1) := by decide +kernel
theorem dX5_note_139 : decode cX5_note 139 = .ok (.getfield 38, 3) := by decide +kernel
theorem dX5_note_142 : decode cX5_note 142 = .ok (.iload_n 3, 1) := by decide +kernel
theorem dX5_note_143 : decode cX5_note 143 = .ok (.iaload, 1) := by decide +kernel
theorem dX5_note_144 : decode cX5_note 144 = .ok (.if_icmp .ge 10, 3) := by decide +kernel
theorem dX5_note_147 : decode cX5_note 147 = .ok (.aload_n 0, 1) := by decide +kernel
theorem dX5_note_148 : decode cX5_note 148 = .ok (.getfield 131, 3) := by decide +kernel
theorem dX5_note_151 : decode cX5_note 151 = .ok (.goto 9, 3) := by decide +kernel
theorem dX5_note_154 : decode cX5_note 154 = .ok (.aload_n 0, 1) := by decide +kernel
theorem dX5_note_155 : decode cX5_note 155 = .ok (.getfield 38, 3) := by decide +kernel
theorem dX5_note_158 : decode cX5_note 158 = .ok (.iload_n 3, 1) := by decide +kernel
theorem dX5_note_159 : decode cX5_note 159 = .ok (.iaload, 1) := by decide +kernel
theorem dX5_note_160 : decode cX5_note 160 = .ok (.iastore, 1) := by decide +kernel
theorem dX5_note_161 : decode cX5_note 161 = .ok (.iinc 3 1, 3) := by decide +kernel
theorem dX5_note_164 : decode cX5_note 164 = .ok (.goto (-134), 3) := by decide +kernel
theorem dX5_note_167 : decode cX5_note 167 = .ok (.return_, 1) := by decide +kernel
set_option maxRecDepth 20000 in
theorem ggX5_goAll_X5_begin : GoodIn wsX5_goAll wsX5_begin := goodIn_r _ [12, 13, 14, 15, 16, 17, 82, 83, 84, 85, 86, 87, 88, 89, 90, 91, 92, 93, 94, 95, 96, 97, 98, 99, 100, 101, 102, 103, 104, 105, 106, 107, 108, 109] (by decide +kernel) (by decide +kernel)
set_option maxRecDepth 20000 in
theorem gX5_goAll_X5_begin : GoodIn wsX5_goAll (wsV RX5 148 RX5 yX5_begin wsX5_begin) := goodIn_app (goodIn_of _ (by decide +kernel)) ggX5_goAll_X5_begin
set_option maxRecDepth 20000 in
theorem ggX5_goAll_X5_keepState : GoodIn wsX5_goAll wsX5_keepState := goodIn_r _ [21, 22, 14, 23, 15, 24, 16, 25, 17, 82, 83, 84, 85, 86, 87, 88, 89, 90, 91, 92, 93, 94, 95, 96, 97, 98, 99, 100, 101, 102, 103, 104, 105, 106, 107, 108, 109] (by decide +kernel) (by decide +kernel)
set_option maxRecDepth 20000 in
theorem gX5_goAll_X5_keepState : GoodIn wsX5_goAll (wsV RX5 227 RX5 yX5_keepState wsX5_keepState) := goodIn_app (goodIn_of _ (by decide +kernel)) ggX5_goAll_X5_keepState
set_option maxRecDepth 20000 in
theorem ggX5_goAll_X5_backTo : GoodIn wsX5_goAll wsX5_backTo := goodIn_r _ [29, 22, 14, 23, 15, 24, 16, 25, 17, 7, 13, 82, 83, 84, 85, 86, 87, 88, 89, 90, 91, 92, 93, 94, 95, 96, 97, 98, 99, 100, 101, 102, 103, 104, 105, 106, 107, 108, 109] (by decide +kernel) (by decide +kernel)
set_option maxRecDepth 20000 in
theorem gX5_goAll_X5_backTo : GoodIn wsX5_goAll (wsV RX5 230 RX5 yX5_backTo wsX5_backTo) := goodIn_app (goodIn_of _ (by decide +kernel)) ggX5_goAll_X5_backTo
set_option maxRecDepth 20000 in
theorem ggX5_goAll_X5_shops : GoodIn wsX5_goAll wsX5_shops := goodIn_r _ [33, 34, 82, 83, 84, 85, 86, 87, 88, 89, 90, 91, 92, 93, 94, 95, 96, 97, 98, 99, 100, 101, 102, 103, 104, 105, 106, 107, 108, 109] (by decide +kernel) (by decide +kernel)
set_option maxRecDepth 20000 in
theorem gX5_goAll_X5_shops : GoodIn wsX5_goAll (wsV RX5 59 RX5 yX5_shops wsX5_shops) := goodIn_app (goodIn_of _ (by decide +kernel)) ggX5_goAll_X5_shops
set_option maxRecDepth 20000 in
theorem ggX5_goAll_X5_whyNot : GoodIn wsX5_goAll wsX5_whyNot := goodIn_r _ [38, 13, 17, 14, 16, 34, 15, 39, 40, 41, 11, 42, 43, 44, 45, 46, 47, 48, 49, 50, 51, 52, 53, 54, 55, 56, 57, 58, 59, 60, 61, 62, 63, 64, 65, 66, 67, 68, 69, 30, 31, 32, 33, 70, 71, 72, 73, 82, 83, 84, 85, 86, 87, 88, 89, 90, 91, 92, 93, 94, 95, 96, 97, 98, 99, 100, 101, 102, 103, 104, 105, 106, 107, 108, 109] (by decide +kernel) (by decide +kernel)
set_option maxRecDepth 20000 in
theorem gX5_goAll_X5_whyNot : GoodIn wsX5_goAll (wsV RX5 151 RX5 yX5_whyNot wsX5_whyNot) := goodIn_app (goodIn_of _ (by decide +kernel)) ggX5_goAll_X5_whyNot
set_option maxRecDepth 20000 in
theorem ggX5_goAll_X5_buy : GoodIn wsX5_goAll wsX5_buy := goodIn_r _ [77, 15, 14, 16, 17, 13, 70, 71, 72, 11, 73, 47, 48, 49, 50, 34, 51, 52, 53, 62, 63, 64, 65, 66, 67, 68, 69, 30, 31, 32, 33, 58, 59, 60, 61, 54, 55, 56, 57, 82, 83, 84, 85, 86, 87, 88, 89, 90, 91, 92, 93, 94, 95, 96, 97, 98, 99, 100, 101, 102, 103, 104, 105, 106, 107, 108, 109] (by decide +kernel) (by decide +kernel)
set_option maxRecDepth 20000 in
theorem gX5_goAll_X5_buy : GoodIn wsX5_goAll (wsV RX5 154 RX5 yX5_buy wsX5_buy) := goodIn_app (goodIn_of _ (by decide +kernel)) ggX5_goAll_X5_buy
set_option maxRecDepth 20000 in
theorem ggX5_goAll_X5_note : GoodIn wsX5_goAll wsX5_note := goodIn_r _ [81, 7, 14, 15, 2, 3, 4, 16, 5, 6, 82, 83, 84, 85, 86, 87, 88, 89, 90, 91, 92, 93, 94, 95, 96, 97, 98, 99, 100, 101, 102, 103, 104, 105, 106, 107, 108, 109] (by decide +kernel) (by decide +kernel)
set_option maxRecDepth 20000 in
theorem gX5_goAll_X5_note : GoodIn wsX5_goAll (wsV RX5 233 RX5 yX5_note wsX5_note) := goodIn_app (goodIn_of _ (by decide +kernel)) ggX5_goAll_X5_note
theorem dX5_goAll_0 : decode cX5_goAll 0 = .ok (.iconst 0, 1) := by decide +kernel
theorem dX5_goAll_1 : decode cX5_goAll 1 = .ok (.istore_n 2, 1) := by decide +kernel
theorem dX5_goAll_2 : decode cX5_goAll 2 = .ok (.iload_n 2, 1) := by decide +kernel
theorem dX5_goAll_3 : decode cX5_goAll 3 = .ok (.bipush 64, 2) := by decide +kernel
theorem dX5_goAll_5 : decode cX5_goAll 5 = .ok (.if_icmp .ge 55, 3) := by decide +kernel
theorem dX5_goAll_8 : decode cX5_goAll 8 = .ok (.iload_n 2, 1) := by decide +kernel
theorem dX5_goAll_9 : decode cX5_goAll 9 = .ok (.ifCond .ne 7, 3) := by decide +kernel
theorem dX5_goAll_12 : decode cX5_goAll 12 = .ok (.iconst 0, 1) := by decide +kernel
theorem dX5_goAll_13 : decode cX5_goAll 13 = .ok (.goto 5, 3) := by decide +kernel
theorem dX5_goAll_16 : decode cX5_goAll 16 = .ok (.ldc 226, 2) := by decide +kernel
theorem dX5_goAll_18 : decode cX5_goAll 18 = .ok (.istore_n 3, 1) := by decide +kernel
theorem dX5_goAll_19 : decode cX5_goAll 19 = .ok (.aload_n 0, 1) := by decide +kernel
theorem dX5_goAll_20 : decode cX5_goAll 20 = .ok (.getfield 26, 3) := by decide +kernel
theorem dX5_goAll_23 : decode cX5_goAll 23 = .ok (.iload_n 2, 1) := by decide +kernel
theorem dX5_goAll_24 : decode cX5_goAll 24 = .ok (.iload_n 3, 1) := by decide +kernel
theorem dX5_goAll_25 : decode cX5_goAll 25 = .ok (.iastore, 1) := by decide +kernel
theorem dX5_goAll_26 : decode cX5_goAll 26 = .ok (.aload_n 0, 1) := by decide +kernel
theorem dX5_goAll_27 : decode cX5_goAll 27 = .ok (.getfield 29, 3) := by decide +kernel
theorem dX5_goAll_30 : decode cX5_goAll 30 = .ok (.iload_n 2, 1) := by decide +kernel
theorem dX5_goAll_31 : decode cX5_goAll 31 = .ok (.iload_n 3, 1) := by decide +kernel
theorem dX5_goAll_32 : decode cX5_goAll 32 = .ok (.iastore, 1) := by decide +kernel
theorem dX5_goAll_33 : decode cX5_goAll 33 = .ok (.aload_n 0, 1) := by decide +kernel
theorem dX5_goAll_34 : decode cX5_goAll 34 = .ok (.getfield 32, 3) := by decide +kernel
theorem dX5_goAll_37 : decode cX5_goAll 37 = .ok (.iload_n 2, 1) := by decide +kernel
theorem dX5_goAll_38 : decode cX5_goAll 38 = .ok (.iload_n 3, 1) := by decide +kernel
theorem dX5_goAll_39 : decode cX5_goAll 39 = .ok (.iastore, 1) := by decide +kernel
theorem dX5_goAll_40 : decode cX5_goAll 40 = .ok (.aload_n 0, 1) := by decide +kernel
theorem dX5_goAll_41 : decode cX5_goAll 41 = .ok (.getfield 35, 3) := by decide +kernel
theorem dX5_goAll_44 : decode cX5_goAll 44 = .ok (.iload_n 2, 1) := by decide +kernel
theorem dX5_goAll_45 : decode cX5_goAll 45 = .ok (.iconst 0, 1) := by decide +kernel
theorem dX5_goAll_46 : decode cX5_goAll 46 = .ok (.iastore, 1) := by decide +kernel
theorem dX5_goAll_47 : decode cX5_goAll 47 = .ok (.aload_n 0, 1) := by decide +kernel
theorem dX5_goAll_48 : decode cX5_goAll 48 = .ok (.getfield 38, 3) := by decide +kernel
theorem dX5_goAll_51 : decode cX5_goAll 51 = .ok (.iload_n 2, 1) := by decide +kernel
theorem dX5_goAll_52 : decode cX5_goAll 52 = .ok (.iload_n 3, 1) := by decide +kernel
theorem dX5_goAll_53 : decode cX5_goAll 53 = .ok (.iastore, 1) := by decide +kernel
theorem dX5_goAll_54 : decode cX5_goAll 54 = .ok (.iinc 2 1, 3) := by decide +kernel
theorem dX5_goAll_57 : decode cX5_goAll 57 = .ok (.goto (-55), 3) := by decide +kernel
theorem dX5_goAll_60 : decode cX5_goAll 60 = .ok (.aload_n 0, 1) := by decide +kernel
theorem dX5_goAll_61 : decode cX5_goAll 61 = .ok (.invokevirtual 148, 3) := by decide +kernel
theorem dX5_goAll_64 : decode cX5_goAll 64 = .ok (.aload_n 0, 1) := by decide +kernel
theorem dX5_goAll_65 : decode cX5_goAll 65 = .ok (.iconst 0, 1) := by decide +kernel
theorem dX5_goAll_66 : decode cX5_goAll 66 = .ok (.invokevirtual 227, 3) := by decide +kernel
theorem dX5_goAll_69 : decode cX5_goAll 69 = .ok (.aload_n 0, 1) := by decide +kernel
theorem dX5_goAll_70 : decode cX5_goAll 70 = .ok (.getfield 41, 3) := by decide +kernel
theorem dX5_goAll_73 : decode cX5_goAll 73 = .ok (.iconst 0, 1) := by decide +kernel
theorem dX5_goAll_74 : decode cX5_goAll 74 = .ok (.iconst (-1), 1) := by decide +kernel
theorem dX5_goAll_75 : decode cX5_goAll 75 = .ok (.iastore, 1) := by decide +kernel
theorem dX5_goAll_76 : decode cX5_goAll 76 = .ok (.iconst 0, 1) := by decide +kernel
theorem dX5_goAll_77 : decode cX5_goAll 77 = .ok (.istore_n 2, 1) := by decide +kernel
theorem dX5_goAll_78 : decode cX5_goAll 78 = .ok (.iload_n 2, 1) := by decide +kernel
theorem dX5_goAll_79 : decode cX5_goAll 79 = .ok (.ifCond .lt 78, 3) := by decide +kernel
theorem dX5_goAll_82 : decode cX5_goAll 82 = .ok (.aload_n 0, 1) := by decide +kernel
theorem dX5_goAll_83 : decode cX5_goAll 83 = .ok (.getfield 41, 3) := by decide +kernel
theorem dX5_goAll_86 : decode cX5_goAll 86 = .ok (.iload_n 2, 1) := by decide +kernel
theorem dX5_goAll_87 : decode cX5_goAll 87 = .ok (.dup2, 1) := by decide +kernel
theorem dX5_goAll_88 : decode cX5_goAll 88 = .ok (.iaload, 1) := by decide +kernel
theorem dX5_goAll_89 : decode cX5_goAll 89 = .ok (.iconst 1, 1) := by decide +kernel
theorem dX5_goAll_90 : decode cX5_goAll 90 = .ok (.iadd, 1) := by decide +kernel
theorem dX5_goAll_91 : decode cX5_goAll 91 = .ok (.iastore, 1) := by decide +kernel
theorem dX5_goAll_92 : decode cX5_goAll 92 = .ok (.aload_n 0, 1) := by decide +kernel
theorem dX5_goAll_93 : decode cX5_goAll 93 = .ok (.getfield 41, 3) := by decide +kernel
theorem dX5_goAll_96 : decode cX5_goAll 96 = .ok (.iload_n 2, 1) := by decide +kernel
theorem dX5_goAll_97 : decode cX5_goAll 97 = .ok (.iaload, 1) := by decide +kernel
theorem dX5_goAll_98 : decode cX5_goAll 98 = .ok (.istore_n 3, 1) := by decide +kernel
theorem dX5_goAll_99 : decode cX5_goAll 99 = .ok (.aload_n 0, 1) := by decide +kernel
theorem dX5_goAll_100 : decode cX5_goAll 100 = .ok (.iload_n 2, 1) := by decide +kernel
theorem dX5_goAll_101 : decode cX5_goAll 101 = .ok (.invokevirtual 230, 3) := by decide +kernel
theorem dX5_goAll_104 : decode cX5_goAll 104 = .ok (.iload_n 3, 1) := by decide +kernel
theorem dX5_goAll_105 : decode cX5_goAll 105 = .ok (.aload_n 0, 1) := by decide +kernel
theorem dX5_goAll_106 : decode cX5_goAll 106 = .ok (.invokevirtual 59, 3) := by decide +kernel
theorem dX5_goAll_109 : decode cX5_goAll 109 = .ok (.if_icmp .lt 9, 3) := by decide +kernel
theorem dX5_goAll_112 : decode cX5_goAll 112 = .ok (.iinc 2 (-1), 3) := by decide +kernel
theorem dX5_goAll_115 : decode cX5_goAll 115 = .ok (.goto 39, 3) := by decide +kernel
theorem dX5_goAll_118 : decode cX5_goAll 118 = .ok (.aload_n 0, 1) := by decide +kernel
theorem dX5_goAll_119 : decode cX5_goAll 119 = .ok (.iload_n 3, 1) := by decide +kernel
theorem dX5_goAll_120 : decode cX5_goAll 120 = .ok (.iload_n 1, 1) := by decide +kernel
theorem dX5_goAll_121 : decode cX5_goAll 121 = .ok (.invokevirtual 151, 3) := by decide +kernel
theorem dX5_goAll_124 : decode cX5_goAll 124 = .ok (.ifCond .ne 30, 3) := by decide +kernel
theorem dX5_goAll_127 : decode cX5_goAll 127 = .ok (.aload_n 0, 1) := by decide +kernel
theorem dX5_goAll_128 : decode cX5_goAll 128 = .ok (.iload_n 3, 1) := by decide +kernel
theorem dX5_goAll_129 : decode cX5_goAll 129 = .ok (.invokevirtual 154, 3) := by decide +kernel
theorem dX5_goAll_132 : decode cX5_goAll 132 = .ok (.aload_n 0, 1) := by decide +kernel
theorem dX5_goAll_133 : decode cX5_goAll 133 = .ok (.iload_n 2, 1) := by decide +kernel
theorem dX5_goAll_134 : decode cX5_goAll 134 = .ok (.iconst 1, 1) := by decide +kernel
theorem dX5_goAll_135 : decode cX5_goAll 135 = .ok (.iadd, 1) := by decide +kernel
theorem dX5_goAll_136 : decode cX5_goAll 136 = .ok (.invokevirtual 233, 3) := by decide +kernel
theorem dX5_goAll_139 : decode cX5_goAll 139 = .ok (.iinc 2 1, 3) := by decide +kernel
theorem dX5_goAll_142 : decode cX5_goAll 142 = .ok (.aload_n 0, 1) := by decide +kernel
theorem dX5_goAll_143 : decode cX5_goAll 143 = .ok (.iload_n 2, 1) := by decide +kernel
theorem dX5_goAll_144 : decode cX5_goAll 144 = .ok (.invokevirtual 227, 3) := by decide +kernel
theorem dX5_goAll_147 : decode cX5_goAll 147 = .ok (.aload_n 0, 1) := by decide +kernel
theorem dX5_goAll_148 : decode cX5_goAll 148 = .ok (.getfield 41, 3) := by decide +kernel
theorem dX5_goAll_151 : decode cX5_goAll 151 = .ok (.iload_n 2, 1) := by decide +kernel
theorem dX5_goAll_152 : decode cX5_goAll 152 = .ok (.iconst (-1), 1) := by decide +kernel
theorem dX5_goAll_153 : decode cX5_goAll 153 = .ok (.iastore, 1) := by decide +kernel
theorem dX5_goAll_154 : decode cX5_goAll 154 = .ok (.goto (-76), 3) := by decide +kernel
theorem dX5_goAll_157 : decode cX5_goAll 157 = .ok (.return_, 1) := by decide +kernel
set_option maxRecDepth 20000 in
theorem ggX5_isWants_X5_shops : GoodIn wsX5_isWants wsX5_shops := goodIn_r _ [5, 6, 10, 11, 12, 13, 14, 15, 16, 17, 18, 19, 20, 21, 22, 23, 24, 25, 26, 27, 28, 29, 30, 31, 32, 33, 34, 35, 36, 37] (by decide +kernel) (by decide +kernel)
set_option maxRecDepth 20000 in
theorem gX5_isWants_X5_shops : GoodIn wsX5_isWants (wsV RX5 59 RX5 yX5_shops wsX5_shops) := goodIn_app (goodIn_of _ (by decide +kernel)) ggX5_isWants_X5_shops
set_option maxRecDepth 20000 in
theorem ggX5_isWants_X5_in : GoodIn wsX5_isWants wsX5_in := goodIn_r _ [9] (by decide +kernel) (by decide +kernel)
set_option maxRecDepth 20000 in
theorem gX5_isWants_X5_in : GoodIn wsX5_isWants (va_wsS RX5 63 yX5_in wsX5_in) := goodIn_app (goodIn_of _ (by decide +kernel)) ggX5_isWants_X5_in
theorem dX5_isWants_0 : decode cX5_isWants 0 = .ok (.iload_n 1, 1) := by decide +kernel
theorem dX5_isWants_1 : decode cX5_isWants 1 = .ok (.i2l, 1) := by decide +kernel
theorem dX5_isWants_2 : decode cX5_isWants 2 = .ok (.lconst 0, 1) := by decide +kernel
theorem dX5_isWants_3 : decode cX5_isWants 3 = .ok (.iconst 1, 1) := by decide +kernel
theorem dX5_isWants_4 : decode cX5_isWants 4 = .ok (.aload_n 0, 1) := by decide +kernel
theorem dX5_isWants_5 : decode cX5_isWants 5 = .ok (.invokevirtual 59, 3) := by decide +kernel
theorem dX5_isWants_8 : decode cX5_isWants 8 = .ok (.ishl, 1) := by decide +kernel
theorem dX5_isWants_9 : decode cX5_isWants 9 = .ok (.iconst 1, 1) := by decide +kernel
theorem dX5_isWants_10 : decode cX5_isWants 10 = .ok (.isub, 1) := by decide +kernel
theorem dX5_isWants_11 : decode cX5_isWants 11 = .ok (.i2l, 1) := by decide +kernel
theorem dX5_isWants_12 : decode cX5_isWants 12 = .ok (.invokestatic 63, 3) := by decide +kernel
theorem dX5_isWants_15 : decode cX5_isWants 15 = .ok (.ireturn, 1) := by decide +kernel
set_option maxRecDepth 20000 in
theorem ggX5_cheapest_X5_isWants : GoodIn wsX5_cheapest wsX5_isWants := goodIn_r _ [10, 11, 12, 13, 9, 14, 15, 16, 17, 18, 99, 100, 101, 102, 103, 104, 105, 106, 107, 108, 109, 110, 111, 112, 113, 114, 115, 116, 117, 118, 119, 120, 121, 122, 123, 124, 125, 126] (by decide +kernel) (by decide +kernel)
set_option maxRecDepth 20000 in
theorem gX5_cheapest_X5_isWants : GoodIn wsX5_cheapest (wsV RX5 236 RX5 yX5_isWants wsX5_isWants) := goodIn_app (goodIn_of _ (by decide +kernel)) ggX5_cheapest_X5_isWants
set_option maxRecDepth 20000 in
theorem ggX5_cheapest_X5_in : GoodIn wsX5_cheapest wsX5_in := goodIn_r _ [18] (by decide +kernel) (by decide +kernel)
set_option maxRecDepth 20000 in
theorem gX5_cheapest_X5_in : GoodIn wsX5_cheapest (va_wsS RX5 63 yX5_in wsX5_in) := goodIn_app (goodIn_of _ (by decide +kernel)) ggX5_cheapest_X5_in
set_option maxRecDepth 20000 in
theorem ggX5_cheapest_X5_bad : GoodIn wsX5_cheapest wsX5_bad := goodIn_r _ [22, 23, 99, 100, 101, 102, 103, 104, 105, 106, 107, 108, 109, 110, 111, 112, 113, 114, 115, 116, 117, 118, 119, 120, 121, 122, 123, 124, 125, 126] (by decide +kernel) (by decide +kernel)
set_option maxRecDepth 20000 in
theorem gX5_cheapest_X5_bad : GoodIn wsX5_cheapest (wsV RX5 79 RX5 yX5_bad wsX5_bad) := goodIn_app (goodIn_of _ (by decide +kernel)) ggX5_cheapest_X5_bad
set_option maxRecDepth 20000 in
theorem ggX5_cheapest_X5_goAll : GoodIn wsX5_cheapest wsX5_goAll := goodIn_r _ [27, 3, 2, 4, 5, 28, 29, 30, 31, 32, 33, 9, 34, 35, 36, 37, 38, 39, 40, 41, 42, 43, 44, 45, 46, 47, 48, 49, 50, 51, 11, 12, 13, 14, 15, 52, 53, 54, 55, 56, 57, 58, 59, 60, 61, 62, 63, 64, 65, 66, 67, 68, 69, 70, 71, 72, 73, 74, 75, 76, 77, 78, 79, 80, 81, 82, 83, 84, 85, 86, 87, 88, 89, 90, 91, 92, 93, 94, 95, 96, 97, 98, 99, 100, 101, 102, 103, 104, 105, 106, 107, 108, 109, 110, 111, 112, 113, 114, 115, 116, 117, 118, 119, 120, 121, 122, 123, 124, 125, 126] (by decide +kernel) (by decide +kernel)
set_option maxRecDepth 20000 in
theorem gX5_cheapest_X5_goAll : GoodIn wsX5_cheapest (wsV RX5 241 RX5 yX5_goAll wsX5_goAll) := goodIn_app (goodIn_of _ (by decide +kernel)) ggX5_cheapest_X5_goAll
theorem dX5_cheapest_0 : decode cX5_cheapest 0 = .ok (.aload_n 0, 1) := by decide +kernel
theorem dX5_cheapest_1 : decode cX5_cheapest 1 = .ok (.iload_n 1, 1) := by decide +kernel
theorem dX5_cheapest_2 : decode cX5_cheapest 2 = .ok (.invokevirtual 236, 3) := by decide +kernel
theorem dX5_cheapest_5 : decode cX5_cheapest 5 = .ok (.ifCond .eq 15, 3) := by decide +kernel
theorem dX5_cheapest_8 : decode cX5_cheapest 8 = .ok (.iload_n 2, 1) := by decide +kernel
theorem dX5_cheapest_9 : decode cX5_cheapest 9 = .ok (.i2l, 1) := by decide +kernel
theorem dX5_cheapest_10 : decode cX5_cheapest 10 = .ok (.lconst 0, 1) := by decide +kernel
theorem dX5_cheapest_11 : decode cX5_cheapest 11 = .ok (.ldc2_w 239, 3) := by decide +kernel
theorem dX5_cheapest_14 : decode cX5_cheapest 14 = .ok (.invokestatic 63, 3) := by decide +kernel
theorem dX5_cheapest_17 : decode cX5_cheapest 17 = .ok (.ifCond .ne 10, 3) := by decide +kernel
theorem dX5_cheapest_20 : decode cX5_cheapest 20 = .ok (.aload_n 0, 1) := by decide +kernel
theorem dX5_cheapest_21 : decode cX5_cheapest 21 = .ok (.bipush (-2), 2) := by decide +kernel
theorem dX5_cheapest_23 : decode cX5_cheapest 23 = .ok (.invokevirtual 79, 3) := by decide +kernel
theorem dX5_cheapest_26 : decode cX5_cheapest 26 = .ok (.ireturn, 1) := by decide +kernel
theorem dX5_cheapest_27 : decode cX5_cheapest 27 = .ok (.aload_n 0, 1) := by decide +kernel
theorem dX5_cheapest_28 : decode cX5_cheapest 28 = .ok (.iconst (-1), 1) := by decide +kernel
theorem dX5_cheapest_29 : decode cX5_cheapest 29 = .ok (.invokevirtual 241, 3) := by decide +kernel
theorem dX5_cheapest_32 : decode cX5_cheapest 32 = .ok (.aload_n 0, 1) := by decide +kernel
theorem dX5_cheapest_33 : decode cX5_cheapest 33 = .ok (.getfield 26, 3) := by decide +kernel
theorem dX5_cheapest_36 : decode cX5_cheapest 36 = .ok (.iload_n 1, 1) := by decide +kernel
theorem dX5_cheapest_37 : decode cX5_cheapest 37 = .ok (.iaload, 1) := by decide +kernel
theorem dX5_cheapest_38 : decode cX5_cheapest 38 = .ok (.ldc 226, 2) := by decide +kernel
theorem dX5_cheapest_40 : decode cX5_cheapest 40 = .ok (.if_icmp .ne 5, 3) := by decide +kernel
theorem dX5_cheapest_43 : decode cX5_cheapest 43 = .ok (.iconst (-1), 1) := by decide +kernel
theorem dX5_cheapest_44 : decode cX5_cheapest 44 = .ok (.ireturn, 1) := by decide +kernel
theorem dX5_cheapest_45 : decode cX5_cheapest 45 = .ok (.iload_n 2, 1) := by decide +kernel
theorem dX5_cheapest_46 : decode cX5_cheapest 46 = .ok (.ifCond .ne 12, 3) := by decide +kernel
theorem dX5_cheapest_49 : decode cX5_cheapest 49 = .ok (.aload_n 0, 1) := by decide +kernel
theorem dX5_cheapest_50 : decode cX5_cheapest 50 = .ok (.getfield 26, 3) := by decide +kernel
theorem dX5_cheapest_53 : decode cX5_cheapest 53 = .ok (.iload_n 1, 1) := by decide +kernel
theorem dX5_cheapest_54 : decode cX5_cheapest 54 = .ok (.iaload, 1) := by decide +kernel
theorem dX5_cheapest_55 : decode cX5_cheapest 55 = .ok (.goto 23, 3) := by decide +kernel
theorem dX5_cheapest_58 : decode cX5_cheapest 58 = .ok (.iload_n 2, 1) := by decide +kernel
theorem dX5_cheapest_59 : decode cX5_cheapest 59 = .ok (.iconst 1, 1) := by decide +kernel
theorem dX5_cheapest_60 : decode cX5_cheapest 60 = .ok (.if_icmp .ne 12, 3) := by decide +kernel
theorem dX5_cheapest_63 : decode cX5_cheapest 63 = .ok (.aload_n 0, 1) := by decide +kernel
theorem dX5_cheapest_64 : decode cX5_cheapest 64 = .ok (.getfield 29, 3) := by decide +kernel
theorem dX5_cheapest_67 : decode cX5_cheapest 67 = .ok (.iload_n 1, 1) := by decide +kernel
theorem dX5_cheapest_68 : decode cX5_cheapest 68 = .ok (.iaload, 1) := by decide +kernel
theorem dX5_cheapest_69 : decode cX5_cheapest 69 = .ok (.goto 9, 3) := by decide +kernel
theorem dX5_cheapest_72 : decode cX5_cheapest 72 = .ok (.aload_n 0, 1) := by decide +kernel
theorem dX5_cheapest_73 : decode cX5_cheapest 73 = .ok (.getfield 32, 3) := by decide +kernel
theorem dX5_cheapest_76 : decode cX5_cheapest 76 = .ok (.iload_n 1, 1) := by decide +kernel
theorem dX5_cheapest_77 : decode cX5_cheapest 77 = .ok (.iaload, 1) := by decide +kernel
theorem dX5_cheapest_78 : decode cX5_cheapest 78 = .ok (.ireturn, 1) := by decide +kernel
theorem dX5_shopIn_0 : decode cX5_shopIn 0 = .ok (.iload_n 0, 1) := by decide +kernel
theorem dX5_shopIn_1 : decode cX5_shopIn 1 = .ok (.iconst 3, 1) := by decide +kernel
theorem dX5_shopIn_2 : decode cX5_shopIn 2 = .ok (.iload_n 1, 1) := by decide +kernel
theorem dX5_shopIn_3 : decode cX5_shopIn 3 = .ok (.imul, 1) := by decide +kernel
theorem dX5_shopIn_4 : decode cX5_shopIn 4 = .ok (.ishr, 1) := by decide +kernel
theorem dX5_shopIn_5 : decode cX5_shopIn 5 = .ok (.bipush 7, 2) := by decide +kernel
theorem dX5_shopIn_7 : decode cX5_shopIn 7 = .ok (.iand, 1) := by decide +kernel
theorem dX5_shopIn_8 : decode cX5_shopIn 8 = .ok (.ireturn, 1) := by decide +kernel
set_option maxRecDepth 20000 in
theorem ggX5_row_X5_isWants : GoodIn wsX5_row wsX5_isWants := goodIn_r _ [9, 10, 11, 12, 8, 13, 14, 15, 16, 17, 101, 102, 103, 104, 105, 106, 107, 108, 109, 110, 111, 112, 113, 114, 115, 116, 117, 118, 119, 120, 121, 122, 123, 124, 125, 126, 127, 128] (by decide +kernel) (by decide +kernel)
set_option maxRecDepth 20000 in
theorem gX5_row_X5_isWants : GoodIn wsX5_row (wsV RX5 236 RX5 yX5_isWants wsX5_isWants) := goodIn_app (goodIn_of _ (by decide +kernel)) ggX5_row_X5_isWants
set_option maxRecDepth 20000 in
theorem ggX5_row_X5_bad : GoodIn wsX5_row wsX5_bad := goodIn_r _ [21, 22, 101, 102, 103, 104, 105, 106, 107, 108, 109, 110, 111, 112, 113, 114, 115, 116, 117, 118, 119, 120, 121, 122, 123, 124, 125, 126, 127, 128] (by decide +kernel) (by decide +kernel)
set_option maxRecDepth 20000 in
theorem gX5_row_X5_bad : GoodIn wsX5_row (wsV RX5 79 RX5 yX5_bad wsX5_bad) := goodIn_app (goodIn_of _ (by decide +kernel)) ggX5_row_X5_bad
set_option maxRecDepth 20000 in
theorem ggX5_row_X5_goAll : GoodIn wsX5_row wsX5_goAll := goodIn_r _ [26, 2, 1, 3, 27, 4, 28, 29, 30, 31, 32, 8, 33, 34, 35, 36, 37, 38, 39, 40, 41, 42, 43, 44, 45, 46, 47, 48, 49, 50, 10, 11, 12, 13, 14, 51, 52, 53, 54, 55, 56, 57, 58, 59, 60, 61, 62, 63, 64, 65, 66, 67, 68, 69, 70, 71, 72, 73, 74, 75, 76, 77, 78, 79, 80, 81, 82, 83, 84, 85, 86, 87, 88, 89, 90, 91, 92, 93, 94, 95, 96, 97, 101, 102, 103, 104, 105, 106, 107, 108, 109, 110, 111, 112, 113, 114, 115, 116, 117, 118, 119, 120, 121, 122, 123, 124, 125, 126, 127, 128] (by decide +kernel) (by decide +kernel)
set_option maxRecDepth 20000 in
theorem gX5_row_X5_goAll : GoodIn wsX5_row (wsV RX5 241 RX5 yX5_goAll wsX5_goAll) := goodIn_app (goodIn_of _ (by decide +kernel)) ggX5_row_X5_goAll
set_option maxRecDepth 20000 in
theorem ggX5_row_X5_shopIn : GoodIn wsX5_row wsX5_shopIn := goodIn_r _ [100] (by decide +kernel) (by decide +kernel)
set_option maxRecDepth 20000 in
theorem gX5_row_X5_shopIn : GoodIn wsX5_row (va_wsS RX5 244 yX5_shopIn wsX5_shopIn) := goodIn_app (goodIn_of _ (by decide +kernel)) ggX5_row_X5_shopIn
theorem dX5_row_0 : decode cX5_row 0 = .ok (.aload_n 0, 1) := by decide +kernel
theorem dX5_row_1 : decode cX5_row 1 = .ok (.iload_n 1, 1) := by decide +kernel
theorem dX5_row_2 : decode cX5_row 2 = .ok (.invokevirtual 236, 3) := by decide +kernel
theorem dX5_row_5 : decode cX5_row 5 = .ok (.ifCond .eq 7, 3) := by decide +kernel
theorem dX5_row_8 : decode cX5_row 8 = .ok (.iload_n 2, 1) := by decide +kernel
theorem dX5_row_9 : decode cX5_row 9 = .ok (.ifCond .ge 10, 3) := by decide +kernel
theorem dX5_row_12 : decode cX5_row 12 = .ok (.aload_n 0, 1) := by decide +kernel
theorem dX5_row_13 : decode cX5_row 13 = .ok (.bipush (-10), 2) := by decide +kernel
theorem dX5_row_15 : decode cX5_row 15 = .ok (.invokevirtual 79, 3) := by decide +kernel
theorem dX5_row_18 : decode cX5_row 18 = .ok (.ireturn, 1) := by decide +kernel
theorem dX5_row_19 : decode cX5_row 19 = .ok (.aload_n 0, 1) := by decide +kernel
theorem dX5_row_20 : decode cX5_row 20 = .ok (.iconst (-1), 1) := by decide +kernel
theorem dX5_row_21 : decode cX5_row 21 = .ok (.invokevirtual 241, 3) := by decide +kernel
theorem dX5_row_24 : decode cX5_row 24 = .ok (.aload_n 0, 1) := by decide +kernel
theorem dX5_row_25 : decode cX5_row 25 = .ok (.getfield 26, 3) := by decide +kernel
theorem dX5_row_28 : decode cX5_row 28 = .ok (.iload_n 1, 1) := by decide +kernel
theorem dX5_row_29 : decode cX5_row 29 = .ok (.iaload, 1) := by decide +kernel
theorem dX5_row_30 : decode cX5_row 30 = .ok (.ldc 226, 2) := by decide +kernel
theorem dX5_row_32 : decode cX5_row 32 = .ok (.if_icmp .eq 13, 3) := by decide +kernel
theorem dX5_row_35 : decode cX5_row 35 = .ok (.iload_n 2, 1) := by decide +kernel
theorem dX5_row_36 : decode cX5_row 36 = .ok (.aload_n 0, 1) := by decide +kernel
theorem dX5_row_37 : decode cX5_row 37 = .ok (.getfield 29, 3) := by decide +kernel
theorem dX5_row_40 : decode cX5_row 40 = .ok (.iload_n 1, 1) := by decide +kernel
theorem dX5_row_41 : decode cX5_row 41 = .ok (.iaload, 1) := by decide +kernel
theorem dX5_row_42 : decode cX5_row 42 = .ok (.if_icmp .lt 8, 3) := by decide +kernel
theorem dX5_row_45 : decode cX5_row 45 = .ok (.bipush (-5), 2) := by decide +kernel
theorem dX5_row_47 : decode cX5_row 47 = .ok (.goto 13, 3) := by decide +kernel
theorem dX5_row_50 : decode cX5_row 50 = .ok (.aload_n 0, 1) := by decide +kernel
theorem dX5_row_51 : decode cX5_row 51 = .ok (.getfield 35, 3) := by decide +kernel
theorem dX5_row_54 : decode cX5_row 54 = .ok (.iload_n 1, 1) := by decide +kernel
theorem dX5_row_55 : decode cX5_row 55 = .ok (.iaload, 1) := by decide +kernel
theorem dX5_row_56 : decode cX5_row 56 = .ok (.iload_n 2, 1) := by decide +kernel
theorem dX5_row_57 : decode cX5_row 57 = .ok (.invokestatic 244, 3) := by decide +kernel
theorem dX5_row_60 : decode cX5_row 60 = .ok (.ireturn, 1) := by decide +kernel
set_option maxRecDepth 20000 in
theorem ggX5_soonest_X5_isWants : GoodIn wsX5_soonest wsX5_isWants := goodIn_r _ [7, 8, 9, 10, 6, 11, 12, 13, 14, 15, 98, 99, 100, 101, 102, 103, 104, 105, 106, 107, 108, 109, 110, 111, 112, 113, 114, 115, 116, 117, 118, 119, 120, 121, 122, 123, 124, 125] (by decide +kernel) (by decide +kernel)
set_option maxRecDepth 20000 in
theorem gX5_soonest_X5_isWants : GoodIn wsX5_soonest (wsV RX5 236 RX5 yX5_isWants wsX5_isWants) := goodIn_app (goodIn_of _ (by decide +kernel)) ggX5_soonest_X5_isWants
set_option maxRecDepth 20000 in
theorem ggX5_soonest_X5_bad : GoodIn wsX5_soonest wsX5_bad := goodIn_r _ [19, 20, 98, 99, 100, 101, 102, 103, 104, 105, 106, 107, 108, 109, 110, 111, 112, 113, 114, 115, 116, 117, 118, 119, 120, 121, 122, 123, 124, 125] (by decide +kernel) (by decide +kernel)
set_option maxRecDepth 20000 in
theorem gX5_soonest_X5_bad : GoodIn wsX5_soonest (wsV RX5 79 RX5 yX5_bad wsX5_bad) := goodIn_app (goodIn_of _ (by decide +kernel)) ggX5_soonest_X5_bad
set_option maxRecDepth 20000 in
theorem ggX5_soonest_X5_goAll : GoodIn wsX5_soonest wsX5_goAll := goodIn_r _ [24, 2, 25, 26, 27, 28, 1, 29, 30, 31, 32, 6, 33, 34, 35, 36, 37, 38, 39, 40, 41, 42, 43, 44, 45, 46, 47, 48, 49, 50, 8, 9, 10, 11, 12, 51, 52, 53, 54, 55, 56, 57, 58, 59, 60, 61, 62, 63, 64, 65, 66, 67, 68, 69, 70, 71, 72, 73, 74, 75, 76, 77, 78, 79, 80, 81, 82, 83, 84, 85, 86, 87, 88, 89, 90, 91, 92, 93, 94, 95, 96, 97, 98, 99, 100, 101, 102, 103, 104, 105, 106, 107, 108, 109, 110, 111, 112, 113, 114, 115, 116, 117, 118, 119, 120, 121, 122, 123, 124, 125] (by decide +kernel) (by decide +kernel)
set_option maxRecDepth 20000 in
theorem gX5_soonest_X5_goAll : GoodIn wsX5_soonest (wsV RX5 241 RX5 yX5_goAll wsX5_goAll) := goodIn_app (goodIn_of _ (by decide +kernel)) ggX5_soonest_X5_goAll
theorem dX5_soonest_0 : decode cX5_soonest 0 = .ok (.aload_n 0, 1) := by decide +kernel
theorem dX5_soonest_1 : decode cX5_soonest 1 = .ok (.iload_n 1, 1) := by decide +kernel
theorem dX5_soonest_2 : decode cX5_soonest 2 = .ok (.invokevirtual 236, 3) := by decide +kernel
theorem dX5_soonest_5 : decode cX5_soonest 5 = .ok (.ifCond .ne 10, 3) := by decide +kernel
theorem dX5_soonest_8 : decode cX5_soonest 8 = .ok (.aload_n 0, 1) := by decide +kernel
theorem dX5_soonest_9 : decode cX5_soonest 9 = .ok (.bipush (-2), 2) := by decide +kernel
theorem dX5_soonest_11 : decode cX5_soonest 11 = .ok (.invokevirtual 79, 3) := by decide +kernel
theorem dX5_soonest_14 : decode cX5_soonest 14 = .ok (.ireturn, 1) := by decide +kernel
theorem dX5_soonest_15 : decode cX5_soonest 15 = .ok (.aload_n 0, 1) := by decide +kernel
theorem dX5_soonest_16 : decode cX5_soonest 16 = .ok (.iconst (-1), 1) := by decide +kernel
theorem dX5_soonest_17 : decode cX5_soonest 17 = .ok (.invokevirtual 241, 3) := by decide +kernel
theorem dX5_soonest_20 : decode cX5_soonest 20 = .ok (.aload_n 0, 1) := by decide +kernel
theorem dX5_soonest_21 : decode cX5_soonest 21 = .ok (.getfield 38, 3) := by decide +kernel
theorem dX5_soonest_24 : decode cX5_soonest 24 = .ok (.iload_n 1, 1) := by decide +kernel
theorem dX5_soonest_25 : decode cX5_soonest 25 = .ok (.iaload, 1) := by decide +kernel
theorem dX5_soonest_26 : decode cX5_soonest 26 = .ok (.ldc 226, 2) := by decide +kernel
theorem dX5_soonest_28 : decode cX5_soonest 28 = .ok (.if_icmp .ne 7, 3) := by decide +kernel
theorem dX5_soonest_31 : decode cX5_soonest 31 = .ok (.iconst (-1), 1) := by decide +kernel
theorem dX5_soonest_32 : decode cX5_soonest 32 = .ok (.goto 9, 3) := by decide +kernel
theorem dX5_soonest_35 : decode cX5_soonest 35 = .ok (.aload_n 0, 1) := by decide +kernel
theorem dX5_soonest_36 : decode cX5_soonest 36 = .ok (.getfield 38, 3) := by decide +kernel
theorem dX5_soonest_39 : decode cX5_soonest 39 = .ok (.iload_n 1, 1) := by decide +kernel
theorem dX5_soonest_40 : decode cX5_soonest 40 = .ok (.iaload, 1) := by decide +kernel
theorem dX5_soonest_41 : decode cX5_soonest 41 = .ok (.ireturn, 1) := by decide +kernel
set_option maxRecDepth 20000 in
theorem ggX5_worth_X5_isWants : GoodIn wsX5_worth wsX5_isWants := goodIn_r _ [8, 9, 10, 11, 7, 12, 2, 13, 14, 15, 106, 107, 108, 109, 110, 111, 112, 113, 114, 115, 116, 117, 118, 119, 120, 121, 122, 123, 124, 125, 126, 127, 128, 129, 130, 131, 132, 133] (by decide +kernel) (by decide +kernel)
set_option maxRecDepth 20000 in
theorem gX5_worth_X5_isWants : GoodIn wsX5_worth (wsV RX5 236 RX5 yX5_isWants wsX5_isWants) := goodIn_app (goodIn_of _ (by decide +kernel)) ggX5_worth_X5_isWants
set_option maxRecDepth 20000 in
theorem ggX5_worth_X5_isShop : GoodIn wsX5_worth wsX5_isShop := goodIn_r _ [19, 9, 10, 11, 7, 12, 2, 13, 14, 15, 106, 107, 108, 109, 110, 111, 112, 113, 114, 115, 116, 117, 118, 119, 120, 121, 122, 123, 124, 125, 126, 127, 128, 129, 130, 131, 132, 133] (by decide +kernel) (by decide +kernel)
set_option maxRecDepth 20000 in
theorem gX5_worth_X5_isShop : GoodIn wsX5_worth (wsV RX5 86 RX5 yX5_isShop wsX5_isShop) := goodIn_app (goodIn_of _ (by decide +kernel)) ggX5_worth_X5_isShop
set_option maxRecDepth 20000 in
theorem ggX5_worth_X5_isFree : GoodIn wsX5_worth wsX5_isFree := goodIn_r _ [23, 2, 106, 107, 108, 109, 110, 111, 112, 113, 114, 115, 116, 117, 118, 119, 120, 121, 122, 123, 124, 125, 126, 127, 128, 129, 130, 131, 132, 133] (by decide +kernel) (by decide +kernel)
set_option maxRecDepth 20000 in
theorem gX5_worth_X5_isFree : GoodIn wsX5_worth (wsV RX5 101 RX5 yX5_isFree wsX5_isFree) := goodIn_app (goodIn_of _ (by decide +kernel)) ggX5_worth_X5_isFree
set_option maxRecDepth 20000 in
theorem ggX5_worth_X5_bad : GoodIn wsX5_worth wsX5_bad := goodIn_r _ [27, 28, 106, 107, 108, 109, 110, 111, 112, 113, 114, 115, 116, 117, 118, 119, 120, 121, 122, 123, 124, 125, 126, 127, 128, 129, 130, 131, 132, 133] (by decide +kernel) (by decide +kernel)
set_option maxRecDepth 20000 in
theorem gX5_worth_X5_bad : GoodIn wsX5_worth (wsV RX5 79 RX5 yX5_bad wsX5_bad) := goodIn_app (goodIn_of _ (by decide +kernel)) ggX5_worth_X5_bad
set_option maxRecDepth 20000 in
theorem ggX5_worth_X5_goAll : GoodIn wsX5_worth wsX5_goAll := goodIn_r _ [32, 3, 1, 33, 34, 35, 36, 37, 38, 39, 40, 7, 41, 42, 43, 44, 45, 46, 47, 48, 49, 50, 51, 52, 53, 54, 55, 56, 57, 58, 9, 10, 11, 12, 2, 59, 60, 61, 62, 20, 21, 22, 23, 63, 64, 65, 66, 67, 68, 69, 70, 71, 72, 73, 74, 75, 76, 77, 78, 79, 80, 81, 82, 83, 84, 85, 86, 87, 88, 89, 90, 91, 92, 93, 94, 95, 96, 97, 98, 99, 100, 101, 106, 107, 108, 109, 110, 111, 112, 113, 114, 115, 116, 117, 118, 119, 120, 121, 122, 123, 124, 125, 126, 127, 128, 129, 130, 131, 132, 133] (by decide +kernel) (by decide +kernel)
set_option maxRecDepth 20000 in
theorem gX5_worth_X5_goAll : GoodIn wsX5_worth (wsV RX5 241 RX5 yX5_goAll wsX5_goAll) := goodIn_app (goodIn_of _ (by decide +kernel)) ggX5_worth_X5_goAll
set_option maxRecDepth 20000 in
theorem ggX5_worth_X5_no : GoodIn wsX5_worth wsX5_no := goodIn_r _ [105, 28, 106, 107, 108, 109, 110, 111, 112, 113, 114, 115, 116, 117, 118, 119, 120, 121, 122, 123, 124, 125, 126, 127, 128, 129, 130, 131, 132, 133] (by decide +kernel) (by decide +kernel)
set_option maxRecDepth 20000 in
theorem gX5_worth_X5_no : GoodIn wsX5_worth (wsV RX5 94 RX5 yX5_no wsX5_no) := goodIn_app (goodIn_of _ (by decide +kernel)) ggX5_worth_X5_no
theorem dX5_worth_0 : decode cX5_worth 0 = .ok (.aload_n 0, 1) := by decide +kernel
theorem dX5_worth_1 : decode cX5_worth 1 = .ok (.iload_n 1, 1) := by decide +kernel
theorem dX5_worth_2 : decode cX5_worth 2 = .ok (.invokevirtual 236, 3) := by decide +kernel
theorem dX5_worth_5 : decode cX5_worth 5 = .ok (.ifCond .eq 19, 3) := by decide +kernel
theorem dX5_worth_8 : decode cX5_worth 8 = .ok (.aload_n 0, 1) := by decide +kernel
theorem dX5_worth_9 : decode cX5_worth 9 = .ok (.iload_n 2, 1) := by decide +kernel
theorem dX5_worth_10 : decode cX5_worth 10 = .ok (.invokevirtual 86, 3) := by decide +kernel
theorem dX5_worth_13 : decode cX5_worth 13 = .ok (.ifCond .eq 11, 3) := by decide +kernel
theorem dX5_worth_16 : decode cX5_worth 16 = .ok (.aload_n 0, 1) := by decide +kernel
theorem dX5_worth_17 : decode cX5_worth 17 = .ok (.iload_n 2, 1) := by decide +kernel
theorem dX5_worth_18 : decode cX5_worth 18 = .ok (.invokevirtual 101, 3) := by decide +kernel
theorem dX5_worth_21 : decode cX5_worth 21 = .ok (.ifCond .eq 11, 3) := by decide +kernel
theorem dX5_worth_24 : decode cX5_worth 24 = .ok (.aload_n 0, 1) := by decide +kernel
theorem dX5_worth_25 : decode cX5_worth 25 = .ok (.sipush (-1000), 3) := by decide +kernel
theorem dX5_worth_28 : decode cX5_worth 28 = .ok (.invokevirtual 79, 3) := by decide +kernel
theorem dX5_worth_31 : decode cX5_worth 31 = .ok (.ireturn, 1) := by decide +kernel
theorem dX5_worth_32 : decode cX5_worth 32 = .ok (.aload_n 0, 1) := by decide +kernel
theorem dX5_worth_33 : decode cX5_worth 33 = .ok (.iconst (-1), 1) := by decide +kernel
theorem dX5_worth_34 : decode cX5_worth 34 = .ok (.invokevirtual 241, 3) := by decide +kernel
theorem dX5_worth_37 : decode cX5_worth 37 = .ok (.aload_n 0, 1) := by decide +kernel
theorem dX5_worth_38 : decode cX5_worth 38 = .ok (.getfield 26, 3) := by decide +kernel
theorem dX5_worth_41 : decode cX5_worth 41 = .ok (.iload_n 1, 1) := by decide +kernel
theorem dX5_worth_42 : decode cX5_worth 42 = .ok (.iaload, 1) := by decide +kernel
theorem dX5_worth_43 : decode cX5_worth 43 = .ok (.istore_n 3, 1) := by decide +kernel
theorem dX5_worth_44 : decode cX5_worth 44 = .ok (.aload_n 0, 1) := by decide +kernel
theorem dX5_worth_45 : decode cX5_worth 45 = .ok (.getfield 7, 3) := by decide +kernel
theorem dX5_worth_48 : decode cX5_worth 48 = .ok (.bipush 30, 2) := by decide +kernel
theorem dX5_worth_50 : decode cX5_worth 50 = .ok (.dup2, 1) := by decide +kernel
theorem dX5_worth_51 : decode cX5_worth 51 = .ok (.iaload, 1) := by decide +kernel
theorem dX5_worth_52 : decode cX5_worth 52 = .ok (.iconst 1, 1) := by decide +kernel
theorem dX5_worth_53 : decode cX5_worth 53 = .ok (.iload_n 2, 1) := by decide +kernel
theorem dX5_worth_54 : decode cX5_worth 54 = .ok (.ishl, 1) := by decide +kernel
theorem dX5_worth_55 : decode cX5_worth 55 = .ok (.ixor, 1) := by decide +kernel
theorem dX5_worth_56 : decode cX5_worth 56 = .ok (.iastore, 1) := by decide +kernel
theorem dX5_worth_57 : decode cX5_worth 57 = .ok (.aload_n 0, 1) := by decide +kernel
theorem dX5_worth_58 : decode cX5_worth 58 = .ok (.iconst (-1), 1) := by decide +kernel
theorem dX5_worth_59 : decode cX5_worth 59 = .ok (.invokevirtual 241, 3) := by decide +kernel
theorem dX5_worth_62 : decode cX5_worth 62 = .ok (.aload_n 0, 1) := by decide +kernel
theorem dX5_worth_63 : decode cX5_worth 63 = .ok (.getfield 7, 3) := by decide +kernel
theorem dX5_worth_66 : decode cX5_worth 66 = .ok (.bipush 30, 2) := by decide +kernel
theorem dX5_worth_68 : decode cX5_worth 68 = .ok (.dup2, 1) := by decide +kernel
theorem dX5_worth_69 : decode cX5_worth 69 = .ok (.iaload, 1) := by decide +kernel
theorem dX5_worth_70 : decode cX5_worth 70 = .ok (.iconst 1, 1) := by decide +kernel
theorem dX5_worth_71 : decode cX5_worth 71 = .ok (.iload_n 2, 1) := by decide +kernel
theorem dX5_worth_72 : decode cX5_worth 72 = .ok (.ishl, 1) := by decide +kernel
theorem dX5_worth_73 : decode cX5_worth 73 = .ok (.ixor, 1) := by decide +kernel
theorem dX5_worth_74 : decode cX5_worth 74 = .ok (.iastore, 1) := by decide +kernel
theorem dX5_worth_75 : decode cX5_worth 75 = .ok (.iload_n 3, 1) := by decide +kernel
theorem dX5_worth_76 : decode cX5_worth 76 = .ok (.ldc 226, 2) := by decide +kernel
theorem dX5_worth_78 : decode cX5_worth 78 = .ok (.if_icmp .eq 14, 3) := by decide +kernel
theorem dX5_worth_81 : decode cX5_worth 81 = .ok (.aload_n 0, 1) := by decide +kernel
theorem dX5_worth_82 : decode cX5_worth 82 = .ok (.getfield 26, 3) := by decide +kernel
theorem dX5_worth_85 : decode cX5_worth 85 = .ok (.iload_n 1, 1) := by decide +kernel
theorem dX5_worth_86 : decode cX5_worth 86 = .ok (.iaload, 1) := by decide +kernel
theorem dX5_worth_87 : decode cX5_worth 87 = .ok (.ldc 226, 2) := by decide +kernel
theorem dX5_worth_89 : decode cX5_worth 89 = .ok (.if_icmp .ne 13, 3) := by decide +kernel
theorem dX5_worth_92 : decode cX5_worth 92 = .ok (.aload_n 0, 1) := by decide +kernel
theorem dX5_worth_93 : decode cX5_worth 93 = .ok (.sipush (-2000), 3) := by decide +kernel
theorem dX5_worth_96 : decode cX5_worth 96 = .ok (.invokevirtual 94, 3) := by decide +kernel
theorem dX5_worth_99 : decode cX5_worth 99 = .ok (.goto 11, 3) := by decide +kernel
theorem dX5_worth_102 : decode cX5_worth 102 = .ok (.iload_n 3, 1) := by decide +kernel
theorem dX5_worth_103 : decode cX5_worth 103 = .ok (.aload_n 0, 1) := by decide +kernel
theorem dX5_worth_104 : decode cX5_worth 104 = .ok (.getfield 26, 3) := by decide +kernel
theorem dX5_worth_107 : decode cX5_worth 107 = .ok (.iload_n 1, 1) := by decide +kernel
theorem dX5_worth_108 : decode cX5_worth 108 = .ok (.iaload, 1) := by decide +kernel
theorem dX5_worth_109 : decode cX5_worth 109 = .ok (.isub, 1) := by decide +kernel
theorem dX5_worth_110 : decode cX5_worth 110 = .ok (.ireturn, 1) := by decide +kernel
set_option maxRecDepth 20000 in
theorem ggX5_hadWith_X5_goAll : GoodIn wsX5_hadWith wsX5_goAll := goodIn_r _ [7, 2, 1, 8, 9, 10, 11, 12, 13, 14, 15, 6, 16, 17, 18, 19, 20, 21, 22, 23, 24, 25, 26, 27, 28, 29, 30, 31, 32, 33, 34, 35, 36, 37, 38, 39, 40, 41, 42, 43, 44, 45, 46, 47, 48, 49, 50, 51, 52, 53, 54, 55, 56, 57, 58, 59, 60, 61, 62, 63, 64, 65, 66, 67, 68, 69, 70, 71, 72, 73, 74, 75, 76, 77, 78, 79, 80, 81, 82, 83, 84, 85, 86, 87, 88, 89, 90, 91, 92, 93, 94, 95, 96, 97, 98, 99, 100, 101, 102, 103, 104, 105, 106, 107, 108, 109, 110, 111, 112, 113] (by decide +kernel) (by decide +kernel)
set_option maxRecDepth 20000 in
theorem gX5_hadWith_X5_goAll : GoodIn wsX5_hadWith (wsV RX5 241 RX5 yX5_goAll wsX5_goAll) := goodIn_app (goodIn_of _ (by decide +kernel)) ggX5_hadWith_X5_goAll
set_option maxRecDepth 20000 in
theorem ggX5_hadWith_X5_shops : GoodIn wsX5_hadWith wsX5_shops := goodIn_r _ [37, 38, 86, 87, 88, 89, 90, 91, 92, 93, 94, 95, 96, 97, 98, 99, 100, 101, 102, 103, 104, 105, 106, 107, 108, 109, 110, 111, 112, 113] (by decide +kernel) (by decide +kernel)
set_option maxRecDepth 20000 in
theorem gX5_hadWith_X5_shops : GoodIn wsX5_hadWith (wsV RX5 59 RX5 yX5_shops wsX5_shops) := goodIn_app (goodIn_of _ (by decide +kernel)) ggX5_hadWith_X5_shops
theorem dX5_hadWith_0 : decode cX5_hadWith 0 = .ok (.aload_n 0, 1) := by decide +kernel
theorem dX5_hadWith_1 : decode cX5_hadWith 1 = .ok (.iload_n 1, 1) := by decide +kernel
theorem dX5_hadWith_2 : decode cX5_hadWith 2 = .ok (.invokevirtual 241, 3) := by decide +kernel
theorem dX5_hadWith_5 : decode cX5_hadWith 5 = .ok (.iconst 0, 1) := by decide +kernel
theorem dX5_hadWith_6 : decode cX5_hadWith 6 = .ok (.istore_n 2, 1) := by decide +kernel
theorem dX5_hadWith_7 : decode cX5_hadWith 7 = .ok (.iconst 0, 1) := by decide +kernel
theorem dX5_hadWith_8 : decode cX5_hadWith 8 = .ok (.istore_n 3, 1) := by decide +kernel
theorem dX5_hadWith_9 : decode cX5_hadWith 9 = .ok (.iload_n 3, 1) := by decide +kernel
theorem dX5_hadWith_10 : decode cX5_hadWith 10 = .ok (.aload_n 0, 1) := by decide +kernel
theorem dX5_hadWith_11 : decode cX5_hadWith 11 = .ok (.invokevirtual 59, 3) := by decide +kernel
theorem dX5_hadWith_14 : decode cX5_hadWith 14 = .ok (.if_icmp .ge 32, 3) := by decide +kernel
theorem dX5_hadWith_17 : decode cX5_hadWith 17 = .ok (.iload_n 2, 1) := by decide +kernel
theorem dX5_hadWith_18 : decode cX5_hadWith 18 = .ok (.aload_n 0, 1) := by decide +kernel
theorem dX5_hadWith_19 : decode cX5_hadWith 19 = .ok (.getfield 26, 3) := by decide +kernel
theorem dX5_hadWith_22 : decode cX5_hadWith 22 = .ok (.iconst 1, 1) := by decide +kernel
theorem dX5_hadWith_23 : decode cX5_hadWith 23 = .ok (.iload_n 3, 1) := by decide +kernel
theorem dX5_hadWith_24 : decode cX5_hadWith 24 = .ok (.ishl, 1) := by decide +kernel
theorem dX5_hadWith_25 : decode cX5_hadWith 25 = .ok (.iaload, 1) := by decide +kernel
theorem dX5_hadWith_26 : decode cX5_hadWith 26 = .ok (.ldc 226, 2) := by decide +kernel
theorem dX5_hadWith_28 : decode cX5_hadWith 28 = .ok (.if_icmp .ne 7, 3) := by decide +kernel
theorem dX5_hadWith_31 : decode cX5_hadWith 31 = .ok (.iconst 0, 1) := by decide +kernel
theorem dX5_hadWith_32 : decode cX5_hadWith 32 = .ok (.goto 6, 3) := by decide +kernel
theorem dX5_hadWith_35 : decode cX5_hadWith 35 = .ok (.iconst 1, 1) := by decide +kernel
theorem dX5_hadWith_36 : decode cX5_hadWith 36 = .ok (.iload_n 3, 1) := by decide +kernel
theorem dX5_hadWith_37 : decode cX5_hadWith 37 = .ok (.ishl, 1) := by decide +kernel
theorem dX5_hadWith_38 : decode cX5_hadWith 38 = .ok (.ior, 1) := by decide +kernel
theorem dX5_hadWith_39 : decode cX5_hadWith 39 = .ok (.istore_n 2, 1) := by decide +kernel
theorem dX5_hadWith_40 : decode cX5_hadWith 40 = .ok (.iinc 3 1, 3) := by decide +kernel
theorem dX5_hadWith_43 : decode cX5_hadWith 43 = .ok (.goto (-34), 3) := by decide +kernel
theorem dX5_hadWith_46 : decode cX5_hadWith 46 = .ok (.iload_n 2, 1) := by decide +kernel
theorem dX5_hadWith_47 : decode cX5_hadWith 47 = .ok (.ireturn, 1) := by decide +kernel
set_option maxRecDepth 20000 in
theorem ggX5_shutOut_X5_isShop : GoodIn wsX5_shutOut wsX5_isShop := goodIn_r _ [5, 6, 7, 8, 4, 9, 10, 11, 12, 13, 102, 103, 104, 105, 106, 107, 108, 109, 110, 111, 112, 113, 114, 115, 116, 117, 118, 119, 120, 121, 122, 123, 124, 125, 126, 127, 128, 129] (by decide +kernel) (by decide +kernel)
set_option maxRecDepth 20000 in
theorem gX5_shutOut_X5_isShop : GoodIn wsX5_shutOut (wsV RX5 86 RX5 yX5_isShop wsX5_isShop) := goodIn_app (goodIn_of _ (by decide +kernel)) ggX5_shutOut_X5_isShop
set_option maxRecDepth 20000 in
theorem ggX5_shutOut_X5_bad : GoodIn wsX5_shutOut wsX5_bad := goodIn_r _ [17, 18, 102, 103, 104, 105, 106, 107, 108, 109, 110, 111, 112, 113, 114, 115, 116, 117, 118, 119, 120, 121, 122, 123, 124, 125, 126, 127, 128, 129] (by decide +kernel) (by decide +kernel)
set_option maxRecDepth 20000 in
theorem gX5_shutOut_X5_bad : GoodIn wsX5_shutOut (wsV RX5 79 RX5 yX5_bad wsX5_bad) := goodIn_app (goodIn_of _ (by decide +kernel)) ggX5_shutOut_X5_bad
set_option maxRecDepth 20000 in
theorem ggX5_shutOut_X5_hadWith : GoodIn wsX5_shutOut wsX5_hadWith := goodIn_r _ [22, 23, 24, 25, 26, 27, 4, 28, 29, 30, 31, 32, 33, 34, 35, 36, 37, 38, 39, 40, 41, 42, 43, 44, 45, 46, 47, 48, 49, 50, 51, 52, 53, 54, 6, 7, 8, 9, 10, 55, 56, 57, 58, 59, 60, 61, 62, 63, 64, 65, 66, 67, 68, 69, 70, 71, 72, 73, 74, 75, 76, 77, 78, 79, 80, 81, 82, 83, 84, 85, 86, 87, 88, 89, 90, 91, 92, 93, 94, 95, 96, 97, 98, 99, 100, 101, 102, 103, 104, 105, 106, 107, 108, 109, 110, 111, 112, 113, 114, 115, 116, 117, 118, 119, 120, 121, 122, 123, 124, 125, 126, 127, 128, 129] (by decide +kernel) (by decide +kernel)
set_option maxRecDepth 20000 in
theorem gX5_shutOut_X5_hadWith : GoodIn wsX5_shutOut (wsV RX5 247 RX5 yX5_hadWith wsX5_hadWith) := goodIn_app (goodIn_of _ (by decide +kernel)) ggX5_shutOut_X5_hadWith
theorem dX5_shutOut_0 : decode cX5_shutOut 0 = .ok (.aload_n 0, 1) := by decide +kernel
theorem dX5_shutOut_1 : decode cX5_shutOut 1 = .ok (.iload_n 1, 1) := by decide +kernel
theorem dX5_shutOut_2 : decode cX5_shutOut 2 = .ok (.invokevirtual 86, 3) := by decide +kernel
theorem dX5_shutOut_5 : decode cX5_shutOut 5 = .ok (.ifCond .ne 10, 3) := by decide +kernel
theorem dX5_shutOut_8 : decode cX5_shutOut 8 = .ok (.aload_n 0, 1) := by decide +kernel
theorem dX5_shutOut_9 : decode cX5_shutOut 9 = .ok (.bipush (-2), 2) := by decide +kernel
theorem dX5_shutOut_11 : decode cX5_shutOut 11 = .ok (.invokevirtual 79, 3) := by decide +kernel
theorem dX5_shutOut_14 : decode cX5_shutOut 14 = .ok (.ireturn, 1) := by decide +kernel
theorem dX5_shutOut_15 : decode cX5_shutOut 15 = .ok (.aload_n 0, 1) := by decide +kernel
theorem dX5_shutOut_16 : decode cX5_shutOut 16 = .ok (.iconst (-1), 1) := by decide +kernel
theorem dX5_shutOut_17 : decode cX5_shutOut 17 = .ok (.invokevirtual 247, 3) := by decide +kernel
theorem dX5_shutOut_20 : decode cX5_shutOut 20 = .ok (.istore_n 2, 1) := by decide +kernel
theorem dX5_shutOut_21 : decode cX5_shutOut 21 = .ok (.iload_n 2, 1) := by decide +kernel
theorem dX5_shutOut_22 : decode cX5_shutOut 22 = .ok (.aload_n 0, 1) := by decide +kernel
theorem dX5_shutOut_23 : decode cX5_shutOut 23 = .ok (.iload_n 1, 1) := by decide +kernel
theorem dX5_shutOut_24 : decode cX5_shutOut 24 = .ok (.invokevirtual 247, 3) := by decide +kernel
theorem dX5_shutOut_27 : decode cX5_shutOut 27 = .ok (.iconst (-1), 1) := by decide +kernel
theorem dX5_shutOut_28 : decode cX5_shutOut 28 = .ok (.ixor, 1) := by decide +kernel
theorem dX5_shutOut_29 : decode cX5_shutOut 29 = .ok (.iand, 1) := by decide +kernel
theorem dX5_shutOut_30 : decode cX5_shutOut 30 = .ok (.ireturn, 1) := by decide +kernel
set_option maxRecDepth 20000 in
theorem ggX5_mends_X5_isShop : GoodIn wsX5_mends wsX5_isShop := goodIn_r _ [5, 6, 7, 8, 4, 9, 10, 11, 12, 13, 110, 111, 112, 113, 114, 115, 116, 117, 118, 119, 120, 121, 122, 123, 124, 125, 126, 127, 128, 129, 130, 131, 132, 133, 134, 135, 136, 137] (by decide +kernel) (by decide +kernel)
set_option maxRecDepth 20000 in
theorem gX5_mends_X5_isShop : GoodIn wsX5_mends (wsV RX5 86 RX5 yX5_isShop wsX5_isShop) := goodIn_app (goodIn_of _ (by decide +kernel)) ggX5_mends_X5_isShop
set_option maxRecDepth 20000 in
theorem ggX5_mends_X5_bad : GoodIn wsX5_mends wsX5_bad := goodIn_r _ [17, 18, 110, 111, 112, 113, 114, 115, 116, 117, 118, 119, 120, 121, 122, 123, 124, 125, 126, 127, 128, 129, 130, 131, 132, 133, 134, 135, 136, 137] (by decide +kernel) (by decide +kernel)
set_option maxRecDepth 20000 in
theorem gX5_mends_X5_bad : GoodIn wsX5_mends (wsV RX5 79 RX5 yX5_bad wsX5_bad) := goodIn_app (goodIn_of _ (by decide +kernel)) ggX5_mends_X5_bad
set_option maxRecDepth 20000 in
theorem ggX5_mends_X5_hadWith : GoodIn wsX5_mends wsX5_hadWith := goodIn_r _ [22, 23, 24, 25, 26, 27, 4, 28, 29, 30, 31, 32, 33, 34, 35, 36, 37, 38, 39, 40, 41, 42, 43, 44, 45, 46, 47, 48, 49, 50, 51, 52, 53, 54, 6, 7, 8, 9, 10, 55, 56, 57, 58, 59, 60, 61, 62, 63, 64, 65, 66, 67, 68, 69, 70, 71, 72, 73, 74, 75, 76, 77, 78, 79, 80, 81, 82, 83, 84, 85, 86, 87, 88, 89, 90, 91, 92, 93, 94, 95, 96, 97, 98, 99, 100, 101, 110, 111, 112, 113, 114, 115, 116, 117, 118, 119, 120, 121, 122, 123, 124, 125, 126, 127, 128, 129, 130, 131, 132, 133, 134, 135, 136, 137] (by decide +kernel) (by decide +kernel)
set_option maxRecDepth 20000 in
theorem gX5_mends_X5_hadWith : GoodIn wsX5_mends (wsV RX5 247 RX5 yX5_hadWith wsX5_hadWith) := goodIn_app (goodIn_of _ (by decide +kernel)) ggX5_mends_X5_hadWith
set_option maxRecDepth 20000 in
theorem ggX5_mends_X5_shops : GoodIn wsX5_mends wsX5_shops := goodIn_r _ [9, 10, 110, 111, 112, 113, 114, 115, 116, 117, 118, 119, 120, 121, 122, 123, 124, 125, 126, 127, 128, 129, 130, 131, 132, 133, 134, 135, 136, 137] (by decide +kernel) (by decide +kernel)
set_option maxRecDepth 20000 in
theorem gX5_mends_X5_shops : GoodIn wsX5_mends (wsV RX5 59 RX5 yX5_shops wsX5_shops) := goodIn_app (goodIn_of _ (by decide +kernel)) ggX5_mends_X5_shops
set_option maxRecDepth 20000 in
theorem ggX5_mends_X5_isNewPair : GoodIn wsX5_mends wsX5_isNewPair := goodIn_r _ [105, 6, 7, 8, 4, 9, 10, 63, 64, 65, 66, 110, 111, 112, 113, 114, 115, 116, 117, 118, 119, 120, 121, 122, 123, 124, 125, 126, 127, 128, 129, 130, 131, 132, 133, 134, 135, 136, 137] (by decide +kernel) (by decide +kernel)
set_option maxRecDepth 20000 in
theorem gX5_mends_X5_isNewPair : GoodIn wsX5_mends (wsV RX5 250 RX5 yX5_isNewPair wsX5_isNewPair) := goodIn_app (goodIn_of _ (by decide +kernel)) ggX5_mends_X5_isNewPair
set_option maxRecDepth 20000 in
theorem ggX5_mends_X5_turnNear : GoodIn wsX5_mends wsX5_turnNear := goodIn_r _ [109, 10, 110, 111, 112, 113, 114, 115, 116, 117, 118, 119, 120, 121, 122, 123, 124, 125, 126, 127, 128, 129, 130, 131, 132, 133, 134, 135, 136, 137] (by decide +kernel) (by decide +kernel)
set_option maxRecDepth 20000 in
theorem gX5_mends_X5_turnNear : GoodIn wsX5_mends (wsV RX5 97 RX5 yX5_turnNear wsX5_turnNear) := goodIn_app (goodIn_of _ (by decide +kernel)) ggX5_mends_X5_turnNear
theorem dX5_mends_0 : decode cX5_mends 0 = .ok (.aload_n 0, 1) := by decide +kernel
theorem dX5_mends_1 : decode cX5_mends 1 = .ok (.iload_n 1, 1) := by decide +kernel
theorem dX5_mends_2 : decode cX5_mends 2 = .ok (.invokevirtual 86, 3) := by decide +kernel
theorem dX5_mends_5 : decode cX5_mends 5 = .ok (.ifCond .ne 10, 3) := by decide +kernel
theorem dX5_mends_8 : decode cX5_mends 8 = .ok (.aload_n 0, 1) := by decide +kernel
theorem dX5_mends_9 : decode cX5_mends 9 = .ok (.bipush (-2), 2) := by decide +kernel
theorem dX5_mends_11 : decode cX5_mends 11 = .ok (.invokevirtual 79, 3) := by decide +kernel
theorem dX5_mends_14 : decode cX5_mends 14 = .ok (.ireturn, 1) := by decide +kernel
theorem dX5_mends_15 : decode cX5_mends 15 = .ok (.aload_n 0, 1) := by decide +kernel
theorem dX5_mends_16 : decode cX5_mends 16 = .ok (.iconst (-1), 1) := by decide +kernel
theorem dX5_mends_17 : decode cX5_mends 17 = .ok (.invokevirtual 247, 3) := by decide +kernel
theorem dX5_mends_20 : decode cX5_mends 20 = .ok (.iconst 1, 1) := by decide +kernel
theorem dX5_mends_21 : decode cX5_mends 21 = .ok (.iload_n 1, 1) := by decide +kernel
theorem dX5_mends_22 : decode cX5_mends 22 = .ok (.ishl, 1) := by decide +kernel
theorem dX5_mends_23 : decode cX5_mends 23 = .ok (.iconst (-1), 1) := by decide +kernel
theorem dX5_mends_24 : decode cX5_mends 24 = .ok (.ixor, 1) := by decide +kernel
theorem dX5_mends_25 : decode cX5_mends 25 = .ok (.iand, 1) := by decide +kernel
theorem dX5_mends_26 : decode cX5_mends 26 = .ok (.istore_n 2, 1) := by decide +kernel
theorem dX5_mends_27 : decode cX5_mends 27 = .ok (.aload_n 0, 1) := by decide +kernel
theorem dX5_mends_28 : decode cX5_mends 28 = .ok (.invokevirtual 59, 3) := by decide +kernel
theorem dX5_mends_31 : decode cX5_mends 31 = .ok (.aload_n 0, 1) := by decide +kernel
theorem dX5_mends_32 : decode cX5_mends 32 = .ok (.invokevirtual 59, 3) := by decide +kernel
theorem dX5_mends_35 : decode cX5_mends 35 = .ok (.imul, 1) := by decide +kernel
theorem dX5_mends_36 : decode cX5_mends 36 = .ok (.istore_n 3, 1) := by decide +kernel
theorem dX5_mends_37 : decode cX5_mends 37 = .ok (.iload_n 2, 1) := by decide +kernel
theorem dX5_mends_38 : decode cX5_mends 38 = .ok (.aload_n 0, 1) := by decide +kernel
theorem dX5_mends_39 : decode cX5_mends 39 = .ok (.iload_n 1, 1) := by decide +kernel
theorem dX5_mends_40 : decode cX5_mends 40 = .ok (.invokevirtual 247, 3) := by decide +kernel
theorem dX5_mends_43 : decode cX5_mends 43 = .ok (.iconst (-1), 1) := by decide +kernel
theorem dX5_mends_44 : decode cX5_mends 44 = .ok (.ixor, 1) := by decide +kernel
theorem dX5_mends_45 : decode cX5_mends 45 = .ok (.iand, 1) := by decide +kernel
theorem dX5_mends_46 : decode cX5_mends 46 = .ok (.ifCond .ne 5, 3) := by decide +kernel
theorem dX5_mends_49 : decode cX5_mends 49 = .ok (.iconst 0, 1) := by decide +kernel
theorem dX5_mends_50 : decode cX5_mends 50 = .ok (.ireturn, 1) := by decide +kernel
theorem dX5_mends_51 : decode cX5_mends 51 = .ok (.iconst (-1), 1) := by decide +kernel
theorem dX5_mends_52 : decode cX5_mends 52 = .ok (.istore 4, 2) := by decide +kernel
theorem dX5_mends_54 : decode cX5_mends 54 = .ok (.iconst 0, 1) := by decide +kernel
theorem dX5_mends_55 : decode cX5_mends 55 = .ok (.istore 5, 2) := by decide +kernel
theorem dX5_mends_57 : decode cX5_mends 57 = .ok (.iload 5, 2) := by decide +kernel
theorem dX5_mends_59 : decode cX5_mends 59 = .ok (.iload_n 3, 1) := by decide +kernel
theorem dX5_mends_60 : decode cX5_mends 60 = .ok (.if_icmp .ge 173, 3) := by decide +kernel
theorem dX5_mends_63 : decode cX5_mends 63 = .ok (.aload_n 0, 1) := by decide +kernel
theorem dX5_mends_64 : decode cX5_mends 64 = .ok (.iload 5, 2) := by decide +kernel
theorem dX5_mends_66 : decode cX5_mends 66 = .ok (.invokevirtual 250, 3) := by decide +kernel
theorem dX5_mends_69 : decode cX5_mends 69 = .ok (.ifCond .eq 158, 3) := by decide +kernel
theorem dX5_mends_72 : decode cX5_mends 72 = .ok (.aload_n 0, 1) := by decide +kernel
theorem dX5_mends_73 : decode cX5_mends 73 = .ok (.iload 5, 2) := by decide +kernel
theorem dX5_mends_75 : decode cX5_mends 75 = .ok (.aload_n 0, 1) := by decide +kernel
theorem dX5_mends_76 : decode cX5_mends 76 = .ok (.invokevirtual 59, 3) := by decide +kernel
theorem dX5_mends_79 : decode cX5_mends 79 = .ok (.idiv, 1) := by decide +kernel
theorem dX5_mends_80 : decode cX5_mends 80 = .ok (.iload 5, 2) := by decide +kernel
theorem dX5_mends_82 : decode cX5_mends 82 = .ok (.aload_n 0, 1) := by decide +kernel
theorem dX5_mends_83 : decode cX5_mends 83 = .ok (.invokevirtual 59, 3) := by decide +kernel
theorem dX5_mends_86 : decode cX5_mends 86 = .ok (.irem, 1) := by decide +kernel
theorem dX5_mends_87 : decode cX5_mends 87 = .ok (.invokevirtual 97, 3) := by decide +kernel
theorem dX5_mends_90 : decode cX5_mends 90 = .ok (.iload_n 2, 1) := by decide +kernel
theorem dX5_mends_91 : decode cX5_mends 91 = .ok (.aload_n 0, 1) := by decide +kernel
theorem dX5_mends_92 : decode cX5_mends 92 = .ok (.iload_n 1, 1) := by decide +kernel
theorem dX5_mends_93 : decode cX5_mends 93 = .ok (.invokevirtual 247, 3) := by decide +kernel
theorem dX5_mends_96 : decode cX5_mends 96 = .ok (.iconst (-1), 1) := by decide +kernel
theorem dX5_mends_97 : decode cX5_mends 97 = .ok (.ixor, 1) := by decide +kernel
theorem dX5_mends_98 : decode cX5_mends 98 = .ok (.iand, 1) := by decide +kernel
theorem dX5_mends_99 : decode cX5_mends 99 = .ok (.ifCond .ne 7, 3) := by decide +kernel
theorem dX5_mends_102 : decode cX5_mends 102 = .ok (.iconst 1, 1) := by decide +kernel
theorem dX5_mends_103 : decode cX5_mends 103 = .ok (.goto 4, 3) := by decide +kernel
theorem dX5_mends_106 : decode cX5_mends 106 = .ok (.iconst 0, 1) := by decide +kernel
theorem dX5_mends_107 : decode cX5_mends 107 = .ok (.istore 6, 2) := by decide +kernel
theorem dX5_mends_109 : decode cX5_mends 109 = .ok (.iload 5, 2) := by decide +kernel
theorem dX5_mends_111 : decode cX5_mends 111 = .ok (.iconst 1, 1) := by decide +kernel
theorem dX5_mends_112 : decode cX5_mends 112 = .ok (.iadd, 1) := by decide +kernel
theorem dX5_mends_113 : decode cX5_mends 113 = .ok (.istore 7, 2) := by decide +kernel
theorem dX5_mends_115 : decode cX5_mends 115 = .ok (.iload 7, 2) := by decide +kernel
theorem dX5_mends_117 : decode cX5_mends 117 = .ok (.iload_n 3, 1) := by decide +kernel
theorem dX5_mends_118 : decode cX5_mends 118 = .ok (.if_icmp .ge 84, 3) := by decide +kernel
theorem dX5_mends_121 : decode cX5_mends 121 = .ok (.iload 6, 2) := by decide +kernel
theorem dX5_mends_123 : decode cX5_mends 123 = .ok (.ifCond .ne 79, 3) := by decide +kernel
theorem dX5_mends_126 : decode cX5_mends 126 = .ok (.iload 4, 2) := by decide +kernel
theorem dX5_mends_128 : decode cX5_mends 128 = .ok (.iconst (-1), 1) := by decide +kernel
theorem dX5_mends_129 : decode cX5_mends 129 = .ok (.if_icmp .ne 73, 3) := by decide +kernel
theorem dX5_mends_132 : decode cX5_mends 132 = .ok (.aload_n 0, 1) := by decide +kernel
theorem dX5_mends_133 : decode cX5_mends 133 = .ok (.iload 7, 2) := by decide +kernel
theorem dX5_mends_135 : decode cX5_mends 135 = .ok (.invokevirtual 250, 3) := by decide +kernel
theorem dX5_mends_138 : decode cX5_mends 138 = .ok (.ifCond .eq 58, 3) := by decide +kernel
theorem dX5_mends_141 : decode cX5_mends 141 = .ok (.aload_n 0, 1) := by decide +kernel
theorem dX5_mends_142 : decode cX5_mends 142 = .ok (.iload 7, 2) := by decide +kernel
theorem dX5_mends_144 : decode cX5_mends 144 = .ok (.aload_n 0, 1) := by decide +kernel
theorem dX5_mends_145 : decode cX5_mends 145 = .ok (.invokevirtual 59, 3) := by decide +kernel
theorem dX5_mends_148 : decode cX5_mends 148 = .ok (.idiv, 1) := by decide +kernel
theorem dX5_mends_149 : decode cX5_mends 149 = .ok (.iload 7, 2) := by decide +kernel
theorem dX5_mends_151 : decode cX5_mends 151 = .ok (.aload_n 0, 1) := by decide +kernel
theorem dX5_mends_152 : decode cX5_mends 152 = .ok (.invokevirtual 59, 3) := by decide +kernel
theorem dX5_mends_155 : decode cX5_mends 155 = .ok (.irem, 1) := by decide +kernel
theorem dX5_mends_156 : decode cX5_mends 156 = .ok (.invokevirtual 97, 3) := by decide +kernel
theorem dX5_mends_159 : decode cX5_mends 159 = .ok (.iload_n 2, 1) := by decide +kernel
theorem dX5_mends_160 : decode cX5_mends 160 = .ok (.aload_n 0, 1) := by decide +kernel
theorem dX5_mends_161 : decode cX5_mends 161 = .ok (.iload_n 1, 1) := by decide +kernel
theorem dX5_mends_162 : decode cX5_mends 162 = .ok (.invokevirtual 247, 3) := by decide +kernel
theorem dX5_mends_165 : decode cX5_mends 165 = .ok (.iconst (-1), 1) := by decide +kernel
theorem dX5_mends_166 : decode cX5_mends 166 = .ok (.ixor, 1) := by decide +kernel
theorem dX5_mends_167 : decode cX5_mends 167 = .ok (.iand, 1) := by decide +kernel
theorem dX5_mends_168 : decode cX5_mends 168 = .ok (.ifCond .ne 7, 3) := by decide +kernel
theorem dX5_mends_171 : decode cX5_mends 171 = .ok (.iconst 2, 1) := by decide +kernel
theorem dX5_mends_172 : decode cX5_mends 172 = .ok (.goto 4, 3) := by decide +kernel
theorem dX5_mends_175 : decode cX5_mends 175 = .ok (.iconst (-1), 1) := by decide +kernel
theorem dX5_mends_176 : decode cX5_mends 176 = .ok (.istore 4, 2) := by decide +kernel
theorem dX5_mends_178 : decode cX5_mends 178 = .ok (.aload_n 0, 1) := by decide +kernel
theorem dX5_mends_179 : decode cX5_mends 179 = .ok (.iload 7, 2) := by decide +kernel
theorem dX5_mends_181 : decode cX5_mends 181 = .ok (.aload_n 0, 1) := by decide +kernel
theorem dX5_mends_182 : decode cX5_mends 182 = .ok (.invokevirtual 59, 3) := by decide +kernel
theorem dX5_mends_185 : decode cX5_mends 185 = .ok (.idiv, 1) := by decide +kernel
theorem dX5_mends_186 : decode cX5_mends 186 = .ok (.iload 7, 2) := by decide +kernel
theorem dX5_mends_188 : decode cX5_mends 188 = .ok (.aload_n 0, 1) := by decide +kernel
theorem dX5_mends_189 : decode cX5_mends 189 = .ok (.invokevirtual 59, 3) := by decide +kernel
theorem dX5_mends_192 : decode cX5_mends 192 = .ok (.irem, 1) := by decide +kernel
theorem dX5_mends_193 : decode cX5_mends 193 = .ok (.invokevirtual 97, 3) := by decide +kernel
theorem dX5_mends_196 : decode cX5_mends 196 = .ok (.iinc 7 1, 3) := by decide +kernel
theorem dX5_mends_199 : decode cX5_mends 199 = .ok (.goto (-84), 3) := by decide +kernel
theorem dX5_mends_202 : decode cX5_mends 202 = .ok (.aload_n 0, 1) := by decide +kernel
theorem dX5_mends_203 : decode cX5_mends 203 = .ok (.iload 5, 2) := by decide +kernel
theorem dX5_mends_205 : decode cX5_mends 205 = .ok (.aload_n 0, 1) := by decide +kernel
theorem dX5_mends_206 : decode cX5_mends 206 = .ok (.invokevirtual 59, 3) := by decide +kernel
theorem dX5_mends_209 : decode cX5_mends 209 = .ok (.idiv, 1) := by decide +kernel
theorem dX5_mends_210 : decode cX5_mends 210 = .ok (.iload 5, 2) := by decide +kernel
theorem dX5_mends_212 : decode cX5_mends 212 = .ok (.aload_n 0, 1) := by decide +kernel
theorem dX5_mends_213 : decode cX5_mends 213 = .ok (.invokevirtual 59, 3) := by decide +kernel
theorem dX5_mends_216 : decode cX5_mends 216 = .ok (.irem, 1) := by decide +kernel
theorem dX5_mends_217 : decode cX5_mends 217 = .ok (.invokevirtual 97, 3) := by decide +kernel
theorem dX5_mends_220 : decode cX5_mends 220 = .ok (.iload 6, 2) := by decide +kernel
theorem dX5_mends_222 : decode cX5_mends 222 = .ok (.ifCond .eq 5, 3) := by decide +kernel
theorem dX5_mends_225 : decode cX5_mends 225 = .ok (.iconst 1, 1) := by decide +kernel
theorem dX5_mends_226 : decode cX5_mends 226 = .ok (.ireturn, 1) := by decide +kernel
theorem dX5_mends_227 : decode cX5_mends 227 = .ok (.iinc 5 1, 3) := by decide +kernel
theorem dX5_mends_230 : decode cX5_mends 230 = .ok (.goto (-173), 3) := by decide +kernel
theorem dX5_mends_233 : decode cX5_mends 233 = .ok (.iload 4, 2) := by decide +kernel
theorem dX5_mends_235 : decode cX5_mends 235 = .ok (.ireturn, 1) := by decide +kernel
set_option maxRecDepth 20000 in
theorem ggX5_isNewPair_X5_shops : GoodIn wsX5_isNewPair wsX5_shops := goodIn_r _ [5, 6, 11, 12, 13, 14, 15, 16, 17, 18, 19, 20, 21, 22, 23, 24, 25, 26, 27, 28, 29, 30, 31, 32, 33, 34, 35, 36, 37, 38] (by decide +kernel) (by decide +kernel)
set_option maxRecDepth 20000 in
theorem gX5_isNewPair_X5_shops : GoodIn wsX5_isNewPair (wsV RX5 59 RX5 yX5_shops wsX5_shops) := goodIn_app (goodIn_of _ (by decide +kernel)) ggX5_isNewPair_X5_shops
set_option maxRecDepth 20000 in
theorem ggX5_isNewPair_X5_areNear : GoodIn wsX5_isNewPair wsX5_areNear := goodIn_r _ [10, 6, 11, 12, 13, 14, 15, 16, 17, 18, 19, 20, 21, 22, 23, 24, 25, 26, 27, 28, 29, 30, 31, 32, 33, 34, 35, 36, 37, 38] (by decide +kernel) (by decide +kernel)
set_option maxRecDepth 20000 in
theorem gX5_isNewPair_X5_areNear : GoodIn wsX5_isNewPair (wsV RX5 90 RX5 yX5_areNear wsX5_areNear) := goodIn_app (goodIn_of _ (by decide +kernel)) ggX5_isNewPair_X5_areNear
theorem dX5_isNewPair_0 : decode cX5_isNewPair 0 = .ok (.iload_n 1, 1) := by decide +kernel
theorem dX5_isNewPair_1 : decode cX5_isNewPair 1 = .ok (.aload_n 0, 1) := by decide +kernel
theorem dX5_isNewPair_2 : decode cX5_isNewPair 2 = .ok (.invokevirtual 59, 3) := by decide +kernel
theorem dX5_isNewPair_5 : decode cX5_isNewPair 5 = .ok (.idiv, 1) := by decide +kernel
theorem dX5_isNewPair_6 : decode cX5_isNewPair 6 = .ok (.istore_n 2, 1) := by decide +kernel
theorem dX5_isNewPair_7 : decode cX5_isNewPair 7 = .ok (.iload_n 1, 1) := by decide +kernel
theorem dX5_isNewPair_8 : decode cX5_isNewPair 8 = .ok (.aload_n 0, 1) := by decide +kernel
theorem dX5_isNewPair_9 : decode cX5_isNewPair 9 = .ok (.invokevirtual 59, 3) := by decide +kernel
theorem dX5_isNewPair_12 : decode cX5_isNewPair 12 = .ok (.irem, 1) := by decide +kernel
theorem dX5_isNewPair_13 : decode cX5_isNewPair 13 = .ok (.istore_n 3, 1) := by decide +kernel
theorem dX5_isNewPair_14 : decode cX5_isNewPair 14 = .ok (.iload_n 2, 1) := by decide +kernel
theorem dX5_isNewPair_15 : decode cX5_isNewPair 15 = .ok (.iload_n 3, 1) := by decide +kernel
theorem dX5_isNewPair_16 : decode cX5_isNewPair 16 = .ok (.if_icmp .ge 16, 3) := by decide +kernel
theorem dX5_isNewPair_19 : decode cX5_isNewPair 19 = .ok (.aload_n 0, 1) := by decide +kernel
theorem dX5_isNewPair_20 : decode cX5_isNewPair 20 = .ok (.iload_n 2, 1) := by decide +kernel
theorem dX5_isNewPair_21 : decode cX5_isNewPair 21 = .ok (.iload_n 3, 1) := by decide +kernel
theorem dX5_isNewPair_22 : decode cX5_isNewPair 22 = .ok (.invokevirtual 90, 3) := by decide +kernel
theorem dX5_isNewPair_25 : decode cX5_isNewPair 25 = .ok (.ifCond .ne 7, 3) := by decide +kernel
theorem dX5_isNewPair_28 : decode cX5_isNewPair 28 = .ok (.iconst 1, 1) := by decide +kernel
theorem dX5_isNewPair_29 : decode cX5_isNewPair 29 = .ok (.goto 4, 3) := by decide +kernel
theorem dX5_isNewPair_32 : decode cX5_isNewPair 32 = .ok (.iconst 0, 1) := by decide +kernel
theorem dX5_isNewPair_33 : decode cX5_isNewPair 33 = .ok (.ireturn, 1) := by decide +kernel
set_option maxRecDepth 20000 in
theorem ggX5_buyer_X5_isShop : GoodIn wsX5_buyer wsX5_isShop := goodIn_r _ [7, 8, 9, 10, 6, 11, 2, 12, 13, 14, 24, 25, 26, 27, 28, 29, 30, 31, 32, 33, 34, 35, 36, 37, 38, 39, 40, 41, 42, 43, 44, 45, 46, 47, 48, 49, 50, 51] (by decide +kernel) (by decide +kernel)
