theorem dX4_digest_158 : decode cX4_digest 158 = .ok (.getfield 10, 3) := by decide +kernel
theorem dX4_digest_161 : decode cX4_digest 161 = .ok (.getfield 94, 3) := by decide +kernel
theorem dX4_digest_164 : decode cX4_digest 164 = .ok (.i2l, 1) := by decide +kernel
theorem dX4_digest_165 : decode cX4_digest 165 = .ok (.ladd, 1) := by decide +kernel
theorem dX4_digest_166 : decode cX4_digest 166 = .ok (.lstore_n 1, 1) := by decide +kernel
theorem dX4_digest_167 : decode cX4_digest 167 = .ok (.ldc2_w 200, 3) := by decide +kernel
theorem dX4_digest_170 : decode cX4_digest 170 = .ok (.lload_n 1, 1) := by decide +kernel
theorem dX4_digest_171 : decode cX4_digest 171 = .ok (.lmul, 1) := by decide +kernel
theorem dX4_digest_172 : decode cX4_digest 172 = .ok (.aload_n 0, 1) := by decide +kernel
theorem dX4_digest_173 : decode cX4_digest 173 = .ok (.getfield 10, 3) := by decide +kernel
theorem dX4_digest_176 : decode cX4_digest 176 = .ok (.getfield 97, 3) := by decide +kernel
theorem dX4_digest_179 : decode cX4_digest 179 = .ok (.i2l, 1) := by decide +kernel
theorem dX4_digest_180 : decode cX4_digest 180 = .ok (.ladd, 1) := by decide +kernel
theorem dX4_digest_181 : decode cX4_digest 181 = .ok (.lstore_n 1, 1) := by decide +kernel
theorem dX4_digest_182 : decode cX4_digest 182 = .ok (.iconst 0, 1) := by decide +kernel
theorem dX4_digest_183 : decode cX4_digest 183 = .ok (.istore_n 3, 1) := by decide +kernel
theorem dX4_digest_184 : decode cX4_digest 184 = .ok (.iload_n 3, 1) := by decide +kernel
theorem dX4_digest_185 : decode cX4_digest 185 = .ok (.aload_n 0, 1) := by decide +kernel
theorem dX4_digest_186 : decode cX4_digest 186 = .ok (.getfield 10, 3) := by decide +kernel
theorem dX4_digest_189 : decode cX4_digest 189 = .ok (.getfield 217, 3) := by decide +kernel
theorem dX4_digest_192 : decode cX4_digest 192 = .ok (.if_icmp .ge 26, 3) := by decide +kernel
theorem dX4_digest_195 : decode cX4_digest 195 = .ok (.ldc2_w 200, 3) := by decide +kernel
theorem dX4_digest_198 : decode cX4_digest 198 = .ok (.lload_n 1, 1) := by decide +kernel
theorem dX4_digest_199 : decode cX4_digest 199 = .ok (.lmul, 1) := by decide +kernel
theorem dX4_digest_200 : decode cX4_digest 200 = .ok (.aload_n 0, 1) := by decide +kernel
theorem dX4_digest_201 : decode cX4_digest 201 = .ok (.getfield 10, 3) := by decide +kernel
theorem dX4_digest_204 : decode cX4_digest 204 = .ok (.getfield 220, 3) := by decide +kernel
theorem dX4_digest_207 : decode cX4_digest 207 = .ok (.iload_n 3, 1) := by decide +kernel
theorem dX4_digest_208 : decode cX4_digest 208 = .ok (.iaload, 1) := by decide +kernel
theorem dX4_digest_209 : decode cX4_digest 209 = .ok (.i2l, 1) := by decide +kernel
theorem dX4_digest_210 : decode cX4_digest 210 = .ok (.ladd, 1) := by decide +kernel
theorem dX4_digest_211 : decode cX4_digest 211 = .ok (.lstore_n 1, 1) := by decide +kernel
theorem dX4_digest_212 : decode cX4_digest 212 = .ok (.iinc 3 1, 3) := by decide +kernel
theorem dX4_digest_215 : decode cX4_digest 215 = .ok (.goto (-31), 3) := by decide +kernel
theorem dX4_digest_218 : decode cX4_digest 218 = .ok (.iconst 0, 1) := by decide +kernel
theorem dX4_digest_219 : decode cX4_digest 219 = .ok (.istore_n 3, 1) := by decide +kernel
theorem dX4_digest_220 : decode cX4_digest 220 = .ok (.iload_n 3, 1) := by decide +kernel
theorem dX4_digest_221 : decode cX4_digest 221 = .ok (.aload_n 0, 1) := by decide +kernel
theorem dX4_digest_222 : decode cX4_digest 222 = .ok (.getfield 10, 3) := by decide +kernel
theorem dX4_digest_225 : decode cX4_digest 225 = .ok (.getfield 103, 3) := by decide +kernel
theorem dX4_digest_228 : decode cX4_digest 228 = .ok (.if_icmp .ge 26, 3) := by decide +kernel
theorem dX4_digest_231 : decode cX4_digest 231 = .ok (.ldc2_w 200, 3) := by decide +kernel
theorem dX4_digest_234 : decode cX4_digest 234 = .ok (.lload_n 1, 1) := by decide +kernel
theorem dX4_digest_235 : decode cX4_digest 235 = .ok (.lmul, 1) := by decide +kernel
theorem dX4_digest_236 : decode cX4_digest 236 = .ok (.aload_n 0, 1) := by decide +kernel
theorem dX4_digest_237 : decode cX4_digest 237 = .ok (.getfield 10, 3) := by decide +kernel
theorem dX4_digest_240 : decode cX4_digest 240 = .ok (.getfield 106, 3) := by decide +kernel
theorem dX4_digest_243 : decode cX4_digest 243 = .ok (.iload_n 3, 1) := by decide +kernel
theorem dX4_digest_244 : decode cX4_digest 244 = .ok (.iaload, 1) := by decide +kernel
theorem dX4_digest_245 : decode cX4_digest 245 = .ok (.i2l, 1) := by decide +kernel
theorem dX4_digest_246 : decode cX4_digest 246 = .ok (.ladd, 1) := by decide +kernel
theorem dX4_digest_247 : decode cX4_digest 247 = .ok (.lstore_n 1, 1) := by decide +kernel
theorem dX4_digest_248 : decode cX4_digest 248 = .ok (.iinc 3 1, 3) := by decide +kernel
theorem dX4_digest_251 : decode cX4_digest 251 = .ok (.goto (-31), 3) := by decide +kernel
theorem dX4_digest_254 : decode cX4_digest 254 = .ok (.iconst 0, 1) := by decide +kernel
theorem dX4_digest_255 : decode cX4_digest 255 = .ok (.istore_n 3, 1) := by decide +kernel
theorem dX4_digest_256 : decode cX4_digest 256 = .ok (.iload_n 3, 1) := by decide +kernel
theorem dX4_digest_257 : decode cX4_digest 257 = .ok (.aload_n 0, 1) := by decide +kernel
theorem dX4_digest_258 : decode cX4_digest 258 = .ok (.getfield 10, 3) := by decide +kernel
theorem dX4_digest_261 : decode cX4_digest 261 = .ok (.getfield 164, 3) := by decide +kernel
theorem dX4_digest_264 : decode cX4_digest 264 = .ok (.if_icmp .ge 43, 3) := by decide +kernel
theorem dX4_digest_267 : decode cX4_digest 267 = .ok (.ldc2_w 200, 3) := by decide +kernel
theorem dX4_digest_270 : decode cX4_digest 270 = .ok (.lload_n 1, 1) := by decide +kernel
theorem dX4_digest_271 : decode cX4_digest 271 = .ok (.lmul, 1) := by decide +kernel
theorem dX4_digest_272 : decode cX4_digest 272 = .ok (.aload_n 0, 1) := by decide +kernel
theorem dX4_digest_273 : decode cX4_digest 273 = .ok (.getfield 10, 3) := by decide +kernel
theorem dX4_digest_276 : decode cX4_digest 276 = .ok (.getfield 167, 3) := by decide +kernel
theorem dX4_digest_279 : decode cX4_digest 279 = .ok (.iload_n 3, 1) := by decide +kernel
theorem dX4_digest_280 : decode cX4_digest 280 = .ok (.iaload, 1) := by decide +kernel
theorem dX4_digest_281 : decode cX4_digest 281 = .ok (.i2l, 1) := by decide +kernel
theorem dX4_digest_282 : decode cX4_digest 282 = .ok (.ladd, 1) := by decide +kernel
theorem dX4_digest_283 : decode cX4_digest 283 = .ok (.lstore_n 1, 1) := by decide +kernel
theorem dX4_digest_284 : decode cX4_digest 284 = .ok (.ldc2_w 200, 3) := by decide +kernel
theorem dX4_digest_287 : decode cX4_digest 287 = .ok (.lload_n 1, 1) := by decide +kernel
theorem dX4_digest_288 : decode cX4_digest 288 = .ok (.lmul, 1) := by decide +kernel
theorem dX4_digest_289 : decode cX4_digest 289 = .ok (.aload_n 0, 1) := by decide +kernel
theorem dX4_digest_290 : decode cX4_digest 290 = .ok (.getfield 10, 3) := by decide +kernel
theorem dX4_digest_293 : decode cX4_digest 293 = .ok (.getfield 170, 3) := by decide +kernel
theorem dX4_digest_296 : decode cX4_digest 296 = .ok (.iload_n 3, 1) := by decide +kernel
theorem dX4_digest_297 : decode cX4_digest 297 = .ok (.iaload, 1) := by decide +kernel
theorem dX4_digest_298 : decode cX4_digest 298 = .ok (.i2l, 1) := by decide +kernel
theorem dX4_digest_299 : decode cX4_digest 299 = .ok (.ladd, 1) := by decide +kernel
theorem dX4_digest_300 : decode cX4_digest 300 = .ok (.lstore_n 1, 1) := by decide +kernel
theorem dX4_digest_301 : decode cX4_digest 301 = .ok (.iinc 3 1, 3) := by decide +kernel
theorem dX4_digest_304 : decode cX4_digest 304 = .ok (.goto (-48), 3) := by decide +kernel
theorem dX4_digest_307 : decode cX4_digest 307 = .ok (.lload_n 1, 1) := by decide +kernel
theorem dX4_digest_308 : decode cX4_digest 308 = .ok (.lreturn, 1) := by decide +kernel
theorem dX4_isIn_0 : decode cX4_isIn 0 = .ok (.iload_n 0, 1) := by decide +kernel
theorem dX4_isIn_1 : decode cX4_isIn 1 = .ok (.iload_n 1, 1) := by decide +kernel
theorem dX4_isIn_2 : decode cX4_isIn 2 = .ok (.if_icmp .lt 12, 3) := by decide +kernel
theorem dX4_isIn_5 : decode cX4_isIn 5 = .ok (.iload_n 0, 1) := by decide +kernel
theorem dX4_isIn_6 : decode cX4_isIn 6 = .ok (.iload_n 2, 1) := by decide +kernel
theorem dX4_isIn_7 : decode cX4_isIn 7 = .ok (.if_icmp .gt 7, 3) := by decide +kernel
theorem dX4_isIn_10 : decode cX4_isIn 10 = .ok (.iconst 1, 1) := by decide +kernel
theorem dX4_isIn_11 : decode cX4_isIn 11 = .ok (.goto 4, 3) := by decide +kernel
theorem dX4_isIn_14 : decode cX4_isIn 14 = .ok (.iconst 0, 1) := by decide +kernel
theorem dX4_isIn_15 : decode cX4_isIn 15 = .ok (.ireturn, 1) := by decide +kernel
set_option maxRecDepth 20000 in
theorem ggX4_areGoods_X4_isIn : GoodIn wsX4_areGoods wsX4_isIn := goodIn_r _ [6] (by decide +kernel) (by decide +kernel)
set_option maxRecDepth 20000 in
theorem gX4_areGoods_X4_isIn : GoodIn wsX4_areGoods (va_wsS RX4 59 yX4_isIn wsX4_isIn) := goodIn_app (goodIn_of _ (by decide +kernel)) ggX4_areGoods_X4_isIn
theorem dX4_areGoods_0 : decode cX4_areGoods 0 = .ok (.iload_n 1, 1) := by decide +kernel
theorem dX4_areGoods_1 : decode cX4_areGoods 1 = .ok (.iconst 0, 1) := by decide +kernel
theorem dX4_areGoods_2 : decode cX4_areGoods 2 = .ok (.iconst 1, 1) := by decide +kernel
theorem dX4_areGoods_3 : decode cX4_areGoods 3 = .ok (.aload_n 0, 1) := by decide +kernel
theorem dX4_areGoods_4 : decode cX4_areGoods 4 = .ok (.getfield 10, 3) := by decide +kernel
theorem dX4_areGoods_7 : decode cX4_areGoods 7 = .ok (.getfield 67, 3) := by decide +kernel
theorem dX4_areGoods_10 : decode cX4_areGoods 10 = .ok (.ishl, 1) := by decide +kernel
theorem dX4_areGoods_11 : decode cX4_areGoods 11 = .ok (.iconst 1, 1) := by decide +kernel
theorem dX4_areGoods_12 : decode cX4_areGoods 12 = .ok (.isub, 1) := by decide +kernel
theorem dX4_areGoods_13 : decode cX4_areGoods 13 = .ok (.invokestatic 59, 3) := by decide +kernel
theorem dX4_areGoods_16 : decode cX4_areGoods 16 = .ok (.ireturn, 1) := by decide +kernel
set_option maxRecDepth 20000 in
theorem ggX4_refuse_X4_isIn : GoodIn wsX4_refuse wsX4_isIn := goodIn_r _ [5] (by decide +kernel) (by decide +kernel)
set_option maxRecDepth 20000 in
theorem gX4_refuse_X4_isIn : GoodIn wsX4_refuse (va_wsS RX4 59 yX4_isIn wsX4_isIn) := goodIn_app (goodIn_of _ (by decide +kernel)) ggX4_refuse_X4_isIn
theorem dX4_refuse_0 : decode cX4_refuse 0 = .ok (.bipush (-2), 2) := by decide +kernel
theorem dX4_refuse_2 : decode cX4_refuse 2 = .ok (.iload_n 1, 1) := by decide +kernel
theorem dX4_refuse_3 : decode cX4_refuse 3 = .ok (.isub, 1) := by decide +kernel
theorem dX4_refuse_4 : decode cX4_refuse 4 = .ok (.istore_n 3, 1) := by decide +kernel
theorem dX4_refuse_5 : decode cX4_refuse 5 = .ok (.iload_n 3, 1) := by decide +kernel
theorem dX4_refuse_6 : decode cX4_refuse 6 = .ok (.iconst 0, 1) := by decide +kernel
theorem dX4_refuse_7 : decode cX4_refuse 7 = .ok (.iconst 2, 1) := by decide +kernel
theorem dX4_refuse_8 : decode cX4_refuse 8 = .ok (.invokestatic 59, 3) := by decide +kernel
theorem dX4_refuse_11 : decode cX4_refuse 11 = .ok (.ifCond .eq 13, 3) := by decide +kernel
theorem dX4_refuse_14 : decode cX4_refuse 14 = .ok (.aload_n 0, 1) := by decide +kernel
theorem dX4_refuse_15 : decode cX4_refuse 15 = .ok (.getfield 49, 3) := by decide +kernel
theorem dX4_refuse_18 : decode cX4_refuse 18 = .ok (.iload_n 3, 1) := by decide +kernel
theorem dX4_refuse_19 : decode cX4_refuse 19 = .ok (.dup2, 1) := by decide +kernel
theorem dX4_refuse_20 : decode cX4_refuse 20 = .ok (.iaload, 1) := by decide +kernel
theorem dX4_refuse_21 : decode cX4_refuse 21 = .ok (.iconst 1, 1) := by decide +kernel
theorem dX4_refuse_22 : decode cX4_refuse 22 = .ok (.iadd, 1) := by decide +kernel
theorem dX4_refuse_23 : decode cX4_refuse 23 = .ok (.iastore, 1) := by decide +kernel
theorem dX4_refuse_24 : decode cX4_refuse 24 = .ok (.iload_n 2, 1) := by decide +kernel
theorem dX4_refuse_25 : decode cX4_refuse 25 = .ok (.ireturn, 1) := by decide +kernel
set_option maxRecDepth 20000 in
theorem ggX4_areMended_X1_canHaveAll : GoodIn wsX4_areMended wsX1_canHaveAll := goodIn_r _ [8, 9, 10, 11, 12, 13, 14, 7, 15, 16, 17, 18, 19, 20, 21, 22, 23, 24, 25, 26, 27, 28, 29, 30, 31, 32, 33, 34, 35, 36, 37, 38, 39, 40, 41, 42, 43, 44, 45, 46, 47, 48, 49, 50, 51, 52, 53, 54, 55, 56, 57, 58, 59, 60, 61, 62, 63, 64, 65, 66, 67, 68, 69, 70, 71, 72, 73, 74, 75, 76, 77, 78, 79, 80, 81, 82, 83, 84, 85, 86, 87, 88, 89, 90, 91, 92, 93, 94, 95, 96, 97, 98, 99, 100, 139, 140, 141, 142, 143, 144, 145, 146, 147, 148, 149, 150, 123, 124, 125, 126, 127, 128, 129, 130, 131, 132, 133, 134, 135, 136, 137, 138, 151, 152, 153, 154, 155, 156, 157] (by decide +kernel) (by decide +kernel)
set_option maxRecDepth 20000 in
theorem gX4_areMended_X1_canHaveAll : GoodIn wsX4_areMended (wsV RX4 223 RX1 yX1_canHaveAll wsX1_canHaveAll) := goodIn_app (goodIn_of _ (by decide +kernel)) ggX4_areMended_X1_canHaveAll
set_option maxRecDepth 20000 in
theorem ggX4_areMended_X2_areNear : GoodIn wsX4_areMended wsX2_areNear := goodIn_r _ [104, 105, 123, 124, 125, 126, 127, 128, 129, 130, 131, 132, 133, 134, 135, 136, 137, 138] (by decide +kernel) (by decide +kernel)
set_option maxRecDepth 20000 in
theorem gX4_areMended_X2_areNear : GoodIn wsX4_areMended (wsV RX4 79 RX2 yX2_areNear wsX2_areNear) := goodIn_app (goodIn_of _ (by decide +kernel)) ggX4_areMended_X2_areNear
set_option maxRecDepth 20000 in
theorem ggX4_areMended_X2_setNear : GoodIn wsX4_areMended wsX2_setNear := goodIn_r _ [109, 105, 123, 124, 125, 126, 127, 128, 129, 130, 131, 132, 133, 134, 135, 136, 137, 138] (by decide +kernel) (by decide +kernel)
set_option maxRecDepth 20000 in
theorem gX4_areMended_X2_setNear : GoodIn wsX4_areMended (wsV RX4 83 RX2 yX2_setNear wsX2_setNear) := goodIn_app (goodIn_of _ (by decide +kernel)) ggX4_areMended_X2_setNear
set_option maxRecDepth 20000 in
theorem ggX4_areMended_X4_areMended : GoodIn wsX4_areMended wsX4_areMended := goodIn_r _ [0, 1, 2, 3, 4, 5, 6, 7, 8, 9, 10, 11, 12, 13, 14, 15, 16, 17, 18, 19, 20, 21, 22, 23, 24, 25, 26, 27, 28, 29, 30, 31, 32, 33, 34, 35, 36, 37, 38, 39, 40, 41, 42, 43, 44, 45, 46, 47, 48, 49, 50, 51, 52, 53, 54, 55, 56, 57, 58, 59, 60, 61, 62, 63, 64, 65, 66, 67, 68, 69, 70, 71, 72, 73, 74, 75, 76, 77, 78, 79, 80, 81, 82, 83, 84, 85, 86, 87, 88, 89, 90, 91, 92, 93, 94, 95, 96, 97, 98, 99, 100, 101, 102, 103, 104, 105, 106, 107, 108, 109, 110, 111, 112, 113, 114, 115, 116, 117, 118, 119, 120, 121, 122, 123, 124, 125, 126, 127, 128, 129, 130, 131, 132, 133, 134, 135, 136, 137, 138, 139, 140, 141, 142, 143, 144, 145, 146, 147, 148, 149, 150, 151, 152, 153, 154, 155, 156, 157] (by decide +kernel) (by decide +kernel)
set_option maxRecDepth 20000 in
theorem gX4_areMended_X4_areMended : GoodIn wsX4_areMended (wsV RX4 160 RX4 yX4_areMended wsX4_areMended) := goodIn_app (goodIn_of _ (by decide +kernel)) ggX4_areMended_X4_areMended
theorem dX4_areMended_0 : decode cX4_areMended 0 = .ok (.iload_n 3, 1) := by decide +kernel
theorem dX4_areMended_1 : decode cX4_areMended 1 = .ok (.ifCond .gt 15, 3) := by decide +kernel
theorem dX4_areMended_4 : decode cX4_areMended 4 = .ok (.aload_n 0, 1) := by decide +kernel
theorem dX4_areMended_5 : decode cX4_areMended 5 = .ok (.getfield 38, 3) := by decide +kernel
theorem dX4_areMended_8 : decode cX4_areMended 8 = .ok (.iload_n 1, 1) := by decide +kernel
theorem dX4_areMended_9 : decode cX4_areMended 9 = .ok (.iconst 1, 1) := by decide +kernel
theorem dX4_areMended_10 : decode cX4_areMended 10 = .ok (.iload_n 2, 1) := by decide +kernel
theorem dX4_areMended_11 : decode cX4_areMended 11 = .ok (.ishl, 1) := by decide +kernel
theorem dX4_areMended_12 : decode cX4_areMended 12 = .ok (.invokevirtual 223, 3) := by decide +kernel
theorem dX4_areMended_15 : decode cX4_areMended 15 = .ok (.ireturn, 1) := by decide +kernel
theorem dX4_areMended_16 : decode cX4_areMended 16 = .ok (.iconst 0, 1) := by decide +kernel
theorem dX4_areMended_17 : decode cX4_areMended 17 = .ok (.istore 5, 2) := by decide +kernel
theorem dX4_areMended_19 : decode cX4_areMended 19 = .ok (.iload 4, 2) := by decide +kernel
theorem dX4_areMended_21 : decode cX4_areMended 21 = .ok (.istore 6, 2) := by decide +kernel
theorem dX4_areMended_23 : decode cX4_areMended 23 = .ok (.iload 6, 2) := by decide +kernel
theorem dX4_areMended_25 : decode cX4_areMended 25 = .ok (.bipush 36, 2) := by decide +kernel
theorem dX4_areMended_27 : decode cX4_areMended 27 = .ok (.if_icmp .ge 124, 3) := by decide +kernel
theorem dX4_areMended_30 : decode cX4_areMended 30 = .ok (.iload 5, 2) := by decide +kernel
theorem dX4_areMended_32 : decode cX4_areMended 32 = .ok (.ifCond .ne 119, 3) := by decide +kernel
theorem dX4_areMended_35 : decode cX4_areMended 35 = .ok (.iload 6, 2) := by decide +kernel
theorem dX4_areMended_37 : decode cX4_areMended 37 = .ok (.bipush 6, 2) := by decide +kernel
theorem dX4_areMended_39 : decode cX4_areMended 39 = .ok (.idiv, 1) := by decide +kernel
theorem dX4_areMended_40 : decode cX4_areMended 40 = .ok (.istore 7, 2) := by decide +kernel
theorem dX4_areMended_42 : decode cX4_areMended 42 = .ok (.iload 6, 2) := by decide +kernel
theorem dX4_areMended_44 : decode cX4_areMended 44 = .ok (.bipush 6, 2) := by decide +kernel
theorem dX4_areMended_46 : decode cX4_areMended 46 = .ok (.irem, 1) := by decide +kernel
theorem dX4_areMended_47 : decode cX4_areMended 47 = .ok (.istore 8, 2) := by decide +kernel
theorem dX4_areMended_49 : decode cX4_areMended 49 = .ok (.iload 7, 2) := by decide +kernel
theorem dX4_areMended_51 : decode cX4_areMended 51 = .ok (.iload 8, 2) := by decide +kernel
theorem dX4_areMended_53 : decode cX4_areMended 53 = .ok (.if_icmp .ge 45, 3) := by decide +kernel
theorem dX4_areMended_56 : decode cX4_areMended 56 = .ok (.iload 8, 2) := by decide +kernel
theorem dX4_areMended_58 : decode cX4_areMended 58 = .ok (.aload_n 0, 1) := by decide +kernel
theorem dX4_areMended_59 : decode cX4_areMended 59 = .ok (.getfield 10, 3) := by decide +kernel
theorem dX4_areMended_62 : decode cX4_areMended 62 = .ok (.getfield 67, 3) := by decide +kernel
theorem dX4_areMended_65 : decode cX4_areMended 65 = .ok (.if_icmp .ge 33, 3) := by decide +kernel
theorem dX4_areMended_68 : decode cX4_areMended 68 = .ok (.iload 7, 2) := by decide +kernel
theorem dX4_areMended_70 : decode cX4_areMended 70 = .ok (.iload_n 2, 1) := by decide +kernel
theorem dX4_areMended_71 : decode cX4_areMended 71 = .ok (.if_icmp .eq 27, 3) := by decide +kernel
theorem dX4_areMended_74 : decode cX4_areMended 74 = .ok (.iload 8, 2) := by decide +kernel
theorem dX4_areMended_76 : decode cX4_areMended 76 = .ok (.iload_n 2, 1) := by decide +kernel
theorem dX4_areMended_77 : decode cX4_areMended 77 = .ok (.if_icmp .eq 21, 3) := by decide +kernel
theorem dX4_areMended_80 : decode cX4_areMended 80 = .ok (.aload_n 0, 1) := by decide +kernel
theorem dX4_areMended_81 : decode cX4_areMended 81 = .ok (.getfield 10, 3) := by decide +kernel
theorem dX4_areMended_84 : decode cX4_areMended 84 = .ok (.iload 7, 2) := by decide +kernel
theorem dX4_areMended_86 : decode cX4_areMended 86 = .ok (.iload 8, 2) := by decide +kernel
theorem dX4_areMended_88 : decode cX4_areMended 88 = .ok (.invokevirtual 79, 3) := by decide +kernel
theorem dX4_areMended_91 : decode cX4_areMended 91 = .ok (.ifCond .ne 7, 3) := by decide +kernel
theorem dX4_areMended_94 : decode cX4_areMended 94 = .ok (.iconst 1, 1) := by decide +kernel
theorem dX4_areMended_95 : decode cX4_areMended 95 = .ok (.goto 4, 3) := by decide +kernel
theorem dX4_areMended_98 : decode cX4_areMended 98 = .ok (.iconst 0, 1) := by decide +kernel
theorem dX4_areMended_99 : decode cX4_areMended 99 = .ok (.istore 9, 2) := by decide +kernel
theorem dX4_areMended_101 : decode cX4_areMended 101 = .ok (.iload 9, 2) := by decide +kernel
theorem dX4_areMended_103 : decode cX4_areMended 103 = .ok (.ifCond .eq 42, 3) := by decide +kernel
theorem dX4_areMended_106 : decode cX4_areMended 106 = .ok (.aload_n 0, 1) := by decide +kernel
theorem dX4_areMended_107 : decode cX4_areMended 107 = .ok (.getfield 10, 3) := by decide +kernel
theorem dX4_areMended_110 : decode cX4_areMended 110 = .ok (.iload 7, 2) := by decide +kernel
theorem dX4_areMended_112 : decode cX4_areMended 112 = .ok (.iload 8, 2) := by decide +kernel
theorem dX4_areMended_114 : decode cX4_areMended 114 = .ok (.iconst 1, 1) := by decide +kernel
theorem dX4_areMended_115 : decode cX4_areMended 115 = .ok (.invokevirtual 83, 3) := by decide +kernel
theorem dX4_areMended_118 : decode cX4_areMended 118 = .ok (.aload_n 0, 1) := by decide +kernel
theorem dX4_areMended_119 : decode cX4_areMended 119 = .ok (.iload_n 1, 1) := by decide +kernel
theorem dX4_areMended_120 : decode cX4_areMended 120 = .ok (.iload_n 2, 1) := by decide +kernel
theorem dX4_areMended_121 : decode cX4_areMended 121 = .ok (.iload_n 3, 1) := by decide +kernel
theorem dX4_areMended_122 : decode cX4_areMended 122 = .ok (.iconst 1, 1) := by decide +kernel
theorem dX4_areMended_123 : decode cX4_areMended 123 = .ok (.isub, 1) := by decide +kernel
theorem dX4_areMended_124 : decode cX4_areMended 124 = .ok (.iload 6, 2) := by decide +kernel
theorem dX4_areMended_126 : decode cX4_areMended 126 = .ok (.iconst 1, 1) := by decide +kernel
theorem dX4_areMended_127 : decode cX4_areMended 127 = .ok (.iadd, 1) := by decide +kernel
theorem dX4_areMended_128 : decode cX4_areMended 128 = .ok (.invokevirtual 160, 3) := by decide +kernel
theorem dX4_areMended_131 : decode cX4_areMended 131 = .ok (.istore 5, 2) := by decide +kernel
theorem dX4_areMended_133 : decode cX4_areMended 133 = .ok (.aload_n 0, 1) := by decide +kernel
theorem dX4_areMended_134 : decode cX4_areMended 134 = .ok (.getfield 10, 3) := by decide +kernel
theorem dX4_areMended_137 : decode cX4_areMended 137 = .ok (.iload 7, 2) := by decide +kernel
theorem dX4_areMended_139 : decode cX4_areMended 139 = .ok (.iload 8, 2) := by decide +kernel
theorem dX4_areMended_141 : decode cX4_areMended 141 = .ok (.iconst 0, 1) := by decide +kernel
theorem dX4_areMended_142 : decode cX4_areMended 142 = .ok (.invokevirtual 83, 3) := by decide +kernel
theorem dX4_areMended_145 : decode cX4_areMended 145 = .ok (.iinc 6 1, 3) := by decide +kernel
theorem dX4_areMended_148 : decode cX4_areMended 148 = .ok (.goto (-125), 3) := by decide +kernel
theorem dX4_areMended_151 : decode cX4_areMended 151 = .ok (.iload 5, 2) := by decide +kernel
theorem dX4_areMended_153 : decode cX4_areMended 153 = .ok (.ireturn, 1) := by decide +kernel
set_option maxRecDepth 20000 in
theorem ggX4_takenBy_X1_findCheapest : GoodIn wsX4_takenBy wsX1_findCheapest := goodIn_r _ [15, 16, 17, 18, 19, 20, 21, 14, 22, 23, 24, 25, 26, 27, 28, 29, 30, 31, 32, 33, 34, 35, 36, 37, 38, 39, 40, 41, 42, 43, 44, 45, 46, 47, 48, 49, 50, 51, 52, 53, 54, 55, 56, 57, 58, 59, 60, 61, 62, 63, 64, 65, 66, 67, 68, 69, 70, 71, 72, 73, 74, 75, 76, 77, 78, 79, 80, 81, 82, 83, 84, 85, 86, 87, 88, 89, 90, 91, 92, 93, 94, 95, 96, 97, 98, 99, 100, 101, 102, 132, 133, 134, 135, 136, 137, 138, 139, 140, 141, 142, 143, 144, 145, 146, 147, 148, 149, 150, 116, 117, 118, 119, 120, 121, 122, 123, 124, 125, 126, 127, 128, 129, 130, 131] (by decide +kernel) (by decide +kernel)
set_option maxRecDepth 20000 in
theorem gX4_takenBy_X1_findCheapest : GoodIn wsX4_takenBy (wsV RX4 140 RX1 yX1_findCheapest wsX1_findCheapest) := goodIn_app (goodIn_of _ (by decide +kernel)) ggX4_takenBy_X1_findCheapest
set_option maxRecDepth 20000 in
theorem ggX4_takenBy_X1_paidTo : GoodIn wsX4_takenBy wsX1_paidTo := goodIn_r _ [106, 25, 51, 53, 132, 133, 134, 135, 136, 137, 138, 139, 140, 141, 142, 143] (by decide +kernel) (by decide +kernel)
set_option maxRecDepth 20000 in
theorem gX4_takenBy_X1_paidTo : GoodIn wsX4_takenBy (wsV RX4 231 RX1 yX1_paidTo wsX1_paidTo) := goodIn_app (goodIn_of _ (by decide +kernel)) ggX4_takenBy_X1_paidTo
theorem dX4_takenBy_0 : decode cX4_takenBy 0 = .ok (.iconst 0, 1) := by decide +kernel
theorem dX4_takenBy_1 : decode cX4_takenBy 1 = .ok (.istore_n 2, 1) := by decide +kernel
theorem dX4_takenBy_2 : decode cX4_takenBy 2 = .ok (.iconst 0, 1) := by decide +kernel
theorem dX4_takenBy_3 : decode cX4_takenBy 3 = .ok (.istore_n 3, 1) := by decide +kernel
theorem dX4_takenBy_4 : decode cX4_takenBy 4 = .ok (.iload_n 3, 1) := by decide +kernel
theorem dX4_takenBy_5 : decode cX4_takenBy 5 = .ok (.aload_n 0, 1) := by decide +kernel
theorem dX4_takenBy_6 : decode cX4_takenBy 6 = .ok (.getfield 10, 3) := by decide +kernel
theorem dX4_takenBy_9 : decode cX4_takenBy 9 = .ok (.getfield 164, 3) := by decide +kernel
theorem dX4_takenBy_12 : decode cX4_takenBy 12 = .ok (.if_icmp .ge 65, 3) := by decide +kernel
theorem dX4_takenBy_15 : decode cX4_takenBy 15 = .ok (.aload_n 0, 1) := by decide +kernel
theorem dX4_takenBy_16 : decode cX4_takenBy 16 = .ok (.getfield 10, 3) := by decide +kernel
theorem dX4_takenBy_19 : decode cX4_takenBy 19 = .ok (.getfield 170, 3) := by decide +kernel
theorem dX4_takenBy_22 : decode cX4_takenBy 22 = .ok (.iload_n 3, 1) := by decide +kernel
theorem dX4_takenBy_23 : decode cX4_takenBy 23 = .ok (.iaload, 1) := by decide +kernel
theorem dX4_takenBy_24 : decode cX4_takenBy 24 = .ok (.aload_n 0, 1) := by decide +kernel
theorem dX4_takenBy_25 : decode cX4_takenBy 25 = .ok (.getfield 10, 3) := by decide +kernel
theorem dX4_takenBy_28 : decode cX4_takenBy 28 = .ok (.getfield 94, 3) := by decide +kernel
theorem dX4_takenBy_31 : decode cX4_takenBy 31 = .ok (.invokestatic 226, 3) := by decide +kernel
theorem dX4_takenBy_34 : decode cX4_takenBy 34 = .ok (.istore 4, 2) := by decide +kernel
theorem dX4_takenBy_36 : decode cX4_takenBy 36 = .ok (.aload_n 0, 1) := by decide +kernel
theorem dX4_takenBy_37 : decode cX4_takenBy 37 = .ok (.getfield 38, 3) := by decide +kernel
theorem dX4_takenBy_40 : decode cX4_takenBy 40 = .ok (.iconst 1, 1) := by decide +kernel
theorem dX4_takenBy_41 : decode cX4_takenBy 41 = .ok (.aload_n 0, 1) := by decide +kernel
theorem dX4_takenBy_42 : decode cX4_takenBy 42 = .ok (.getfield 10, 3) := by decide +kernel
theorem dX4_takenBy_45 : decode cX4_takenBy 45 = .ok (.getfield 167, 3) := by decide +kernel
theorem dX4_takenBy_48 : decode cX4_takenBy 48 = .ok (.iload_n 3, 1) := by decide +kernel
theorem dX4_takenBy_49 : decode cX4_takenBy 49 = .ok (.iaload, 1) := by decide +kernel
theorem dX4_takenBy_50 : decode cX4_takenBy 50 = .ok (.ishl, 1) := by decide +kernel
theorem dX4_takenBy_51 : decode cX4_takenBy 51 = .ok (.iload 4, 2) := by decide +kernel
theorem dX4_takenBy_53 : decode cX4_takenBy 53 = .ok (.iconst 0, 1) := by decide +kernel
theorem dX4_takenBy_54 : decode cX4_takenBy 54 = .ok (.invokevirtual 140, 3) := by decide +kernel
theorem dX4_takenBy_57 : decode cX4_takenBy 57 = .ok (.ifCond .eq 14, 3) := by decide +kernel
theorem dX4_takenBy_60 : decode cX4_takenBy 60 = .ok (.iload_n 2, 1) := by decide +kernel
theorem dX4_takenBy_61 : decode cX4_takenBy 61 = .ok (.aload_n 0, 1) := by decide +kernel
theorem dX4_takenBy_62 : decode cX4_takenBy 62 = .ok (.getfield 38, 3) := by decide +kernel
theorem dX4_takenBy_65 : decode cX4_takenBy 65 = .ok (.iload_n 1, 1) := by decide +kernel
theorem dX4_takenBy_66 : decode cX4_takenBy 66 = .ok (.invokevirtual 231, 3) := by decide +kernel
theorem dX4_takenBy_69 : decode cX4_takenBy 69 = .ok (.iadd, 1) := by decide +kernel
theorem dX4_takenBy_70 : decode cX4_takenBy 70 = .ok (.istore_n 2, 1) := by decide +kernel
theorem dX4_takenBy_71 : decode cX4_takenBy 71 = .ok (.iinc 3 1, 3) := by decide +kernel
theorem dX4_takenBy_74 : decode cX4_takenBy 74 = .ok (.goto (-70), 3) := by decide +kernel
theorem dX4_takenBy_77 : decode cX4_takenBy 77 = .ok (.iload_n 2, 1) := by decide +kernel
theorem dX4_takenBy_78 : decode cX4_takenBy 78 = .ok (.ireturn, 1) := by decide +kernel
set_option maxRecDepth 20000 in
theorem ggX4_bestPrice_X4_takenBy : GoodIn wsX4_bestPrice wsX4_takenBy := goodIn_r _ [8, 1, 9, 10, 11, 12, 13, 14, 15, 16, 17, 18, 19, 20, 21, 22, 23, 24, 25, 26, 27, 28, 29, 30, 31, 32, 33, 34, 35, 36, 37, 38, 39, 40, 41, 42, 43, 44, 45, 46, 47, 48, 49, 50, 51, 52, 53, 54, 55, 56, 57, 58, 59, 60, 61, 62, 63, 64, 65, 66, 67, 68, 69, 70, 71, 72, 73, 74, 75, 76, 77, 78, 79, 80, 81, 82, 83, 84, 85, 86, 87, 88, 89, 90, 91, 92, 93, 94, 95, 96, 97, 98, 99, 100, 101, 102, 103, 104, 105, 106, 107, 108, 109, 110, 111, 112, 113, 114, 115, 116, 117, 118, 119, 120, 121, 122, 123, 124, 125, 126, 127, 128, 129, 130, 131, 132, 133, 134, 135, 136, 137, 138, 139, 140, 141, 142, 143, 144, 145, 146, 147, 148, 149, 150, 151, 152, 153, 154, 155, 156, 157] (by decide +kernel) (by decide +kernel)
set_option maxRecDepth 20000 in
theorem gX4_bestPrice_X4_takenBy : GoodIn wsX4_bestPrice (wsV RX4 173 RX4 yX4_takenBy wsX4_takenBy) := goodIn_app (goodIn_of _ (by decide +kernel)) ggX4_bestPrice_X4_takenBy
theorem dX4_bestPrice_0 : decode cX4_bestPrice 0 = .ok (.aload_n 0, 1) := by decide +kernel
theorem dX4_bestPrice_1 : decode cX4_bestPrice 1 = .ok (.getfield 10, 3) := by decide +kernel
theorem dX4_bestPrice_4 : decode cX4_bestPrice 4 = .ok (.getfield 100, 3) := by decide +kernel
theorem dX4_bestPrice_7 : decode cX4_bestPrice 7 = .ok (.iload_n 1, 1) := by decide +kernel
theorem dX4_bestPrice_8 : decode cX4_bestPrice 8 = .ok (.iaload, 1) := by decide +kernel
theorem dX4_bestPrice_9 : decode cX4_bestPrice 9 = .ok (.istore_n 2, 1) := by decide +kernel
theorem dX4_bestPrice_10 : decode cX4_bestPrice 10 = .ok (.iconst 0, 1) := by decide +kernel
theorem dX4_bestPrice_11 : decode cX4_bestPrice 11 = .ok (.istore_n 3, 1) := by decide +kernel
theorem dX4_bestPrice_12 : decode cX4_bestPrice 12 = .ok (.iconst 0, 1) := by decide +kernel
theorem dX4_bestPrice_13 : decode cX4_bestPrice 13 = .ok (.istore 4, 2) := by decide +kernel
theorem dX4_bestPrice_15 : decode cX4_bestPrice 15 = .ok (.iload 4, 2) := by decide +kernel
theorem dX4_bestPrice_17 : decode cX4_bestPrice 17 = .ok (.bipush 20, 2) := by decide +kernel
theorem dX4_bestPrice_19 : decode cX4_bestPrice 19 = .ok (.if_icmp .gt 51, 3) := by decide +kernel
theorem dX4_bestPrice_22 : decode cX4_bestPrice 22 = .ok (.aload_n 0, 1) := by decide +kernel
theorem dX4_bestPrice_23 : decode cX4_bestPrice 23 = .ok (.getfield 10, 3) := by decide +kernel
theorem dX4_bestPrice_26 : decode cX4_bestPrice 26 = .ok (.getfield 100, 3) := by decide +kernel
theorem dX4_bestPrice_29 : decode cX4_bestPrice 29 = .ok (.iload_n 1, 1) := by decide +kernel
theorem dX4_bestPrice_30 : decode cX4_bestPrice 30 = .ok (.iload 4, 2) := by decide +kernel
theorem dX4_bestPrice_32 : decode cX4_bestPrice 32 = .ok (.iastore, 1) := by decide +kernel
theorem dX4_bestPrice_33 : decode cX4_bestPrice 33 = .ok (.aload_n 0, 1) := by decide +kernel
theorem dX4_bestPrice_34 : decode cX4_bestPrice 34 = .ok (.getfield 53, 3) := by decide +kernel
theorem dX4_bestPrice_37 : decode cX4_bestPrice 37 = .ok (.iload 4, 2) := by decide +kernel
theorem dX4_bestPrice_39 : decode cX4_bestPrice 39 = .ok (.aload_n 0, 1) := by decide +kernel
theorem dX4_bestPrice_40 : decode cX4_bestPrice 40 = .ok (.iload_n 1, 1) := by decide +kernel
theorem dX4_bestPrice_41 : decode cX4_bestPrice 41 = .ok (.invokevirtual 173, 3) := by decide +kernel
theorem dX4_bestPrice_44 : decode cX4_bestPrice 44 = .ok (.iastore, 1) := by decide +kernel
theorem dX4_bestPrice_45 : decode cX4_bestPrice 45 = .ok (.aload_n 0, 1) := by decide +kernel
theorem dX4_bestPrice_46 : decode cX4_bestPrice 46 = .ok (.getfield 53, 3) := by decide +kernel
theorem dX4_bestPrice_49 : decode cX4_bestPrice 49 = .ok (.iload 4, 2) := by decide +kernel
theorem dX4_bestPrice_51 : decode cX4_bestPrice 51 = .ok (.iaload, 1) := by decide +kernel
theorem dX4_bestPrice_52 : decode cX4_bestPrice 52 = .ok (.aload_n 0, 1) := by decide +kernel
theorem dX4_bestPrice_53 : decode cX4_bestPrice 53 = .ok (.getfield 53, 3) := by decide +kernel
theorem dX4_bestPrice_56 : decode cX4_bestPrice 56 = .ok (.iload_n 3, 1) := by decide +kernel
theorem dX4_bestPrice_57 : decode cX4_bestPrice 57 = .ok (.iaload, 1) := by decide +kernel
theorem dX4_bestPrice_58 : decode cX4_bestPrice 58 = .ok (.if_icmp .le 6, 3) := by decide +kernel
theorem dX4_bestPrice_61 : decode cX4_bestPrice 61 = .ok (.iload 4, 2) := by decide +kernel
theorem dX4_bestPrice_63 : decode cX4_bestPrice 63 = .ok (.istore_n 3, 1) := by decide +kernel
theorem dX4_bestPrice_64 : decode cX4_bestPrice 64 = .ok (.iinc 4 1, 3) := by decide +kernel
theorem dX4_bestPrice_67 : decode cX4_bestPrice 67 = .ok (.goto (-52), 3) := by decide +kernel
theorem dX4_bestPrice_70 : decode cX4_bestPrice 70 = .ok (.aload_n 0, 1) := by decide +kernel
theorem dX4_bestPrice_71 : decode cX4_bestPrice 71 = .ok (.getfield 10, 3) := by decide +kernel
theorem dX4_bestPrice_74 : decode cX4_bestPrice 74 = .ok (.getfield 100, 3) := by decide +kernel
theorem dX4_bestPrice_77 : decode cX4_bestPrice 77 = .ok (.iload_n 1, 1) := by decide +kernel
theorem dX4_bestPrice_78 : decode cX4_bestPrice 78 = .ok (.iload_n 2, 1) := by decide +kernel
theorem dX4_bestPrice_79 : decode cX4_bestPrice 79 = .ok (.iastore, 1) := by decide +kernel
theorem dX4_bestPrice_80 : decode cX4_bestPrice 80 = .ok (.iload_n 3, 1) := by decide +kernel
theorem dX4_bestPrice_81 : decode cX4_bestPrice 81 = .ok (.ireturn, 1) := by decide +kernel
set_option maxRecDepth 20000 in
theorem ggX4_roundChanges_X4_bestPrice : GoodIn wsX4_roundChanges wsX4_bestPrice := goodIn_r _ [9, 1, 4, 3, 10, 11, 12, 8, 13, 14, 15, 16, 17, 18, 19, 20, 21, 22, 23, 24, 25, 26, 27, 28, 29, 30, 31, 32, 33, 34, 35, 36, 37, 38, 39, 40, 41, 42, 43, 44, 45, 46, 47, 48, 49, 50, 51, 52, 53, 54, 55, 56, 57, 58, 59, 60, 61, 62, 63, 64, 65, 66, 67, 68, 69, 70, 71, 72, 73, 74, 75, 76, 77, 78, 79, 80, 81, 82, 83, 84, 85, 86, 87, 88, 89, 90, 91, 92, 93, 94, 95, 96, 97, 98, 99, 100, 101, 102, 103, 104, 105, 106, 107, 108, 109, 110, 111, 112, 113, 114, 115, 116, 117, 118, 119, 120, 121, 122, 123, 124, 125, 126, 127, 128, 129, 130, 131, 132, 133, 134, 135, 136, 137, 138, 139, 140, 141, 142, 143, 144, 145, 146, 147, 148, 149, 150, 151, 152, 153, 154, 155, 156, 157, 158, 159, 160, 161, 162] (by decide +kernel) (by decide +kernel)
set_option maxRecDepth 20000 in
theorem gX4_roundChanges_X4_bestPrice : GoodIn wsX4_roundChanges (wsV RX4 176 RX4 yX4_bestPrice wsX4_bestPrice) := goodIn_app (goodIn_of _ (by decide +kernel)) ggX4_roundChanges_X4_bestPrice
theorem dX4_roundChanges_0 : decode cX4_roundChanges 0 = .ok (.iconst 0, 1) := by decide +kernel
theorem dX4_roundChanges_1 : decode cX4_roundChanges 1 = .ok (.istore_n 1, 1) := by decide +kernel
theorem dX4_roundChanges_2 : decode cX4_roundChanges 2 = .ok (.iconst 0, 1) := by decide +kernel
theorem dX4_roundChanges_3 : decode cX4_roundChanges 3 = .ok (.istore_n 2, 1) := by decide +kernel
theorem dX4_roundChanges_4 : decode cX4_roundChanges 4 = .ok (.iload_n 2, 1) := by decide +kernel
theorem dX4_roundChanges_5 : decode cX4_roundChanges 5 = .ok (.aload_n 0, 1) := by decide +kernel
theorem dX4_roundChanges_6 : decode cX4_roundChanges 6 = .ok (.getfield 10, 3) := by decide +kernel
theorem dX4_roundChanges_9 : decode cX4_roundChanges 9 = .ok (.getfield 67, 3) := by decide +kernel
theorem dX4_roundChanges_12 : decode cX4_roundChanges 12 = .ok (.if_icmp .ge 50, 3) := by decide +kernel
theorem dX4_roundChanges_15 : decode cX4_roundChanges 15 = .ok (.aload_n 0, 1) := by decide +kernel
theorem dX4_roundChanges_16 : decode cX4_roundChanges 16 = .ok (.iload_n 2, 1) := by decide +kernel
theorem dX4_roundChanges_17 : decode cX4_roundChanges 17 = .ok (.invokevirtual 176, 3) := by decide +kernel
theorem dX4_roundChanges_20 : decode cX4_roundChanges 20 = .ok (.istore_n 3, 1) := by decide +kernel
theorem dX4_roundChanges_21 : decode cX4_roundChanges 21 = .ok (.aload_n 0, 1) := by decide +kernel
theorem dX4_roundChanges_22 : decode cX4_roundChanges 22 = .ok (.getfield 53, 3) := by decide +kernel
theorem dX4_roundChanges_25 : decode cX4_roundChanges 25 = .ok (.iload_n 3, 1) := by decide +kernel
theorem dX4_roundChanges_26 : decode cX4_roundChanges 26 = .ok (.iaload, 1) := by decide +kernel
theorem dX4_roundChanges_27 : decode cX4_roundChanges 27 = .ok (.aload_n 0, 1) := by decide +kernel
theorem dX4_roundChanges_28 : decode cX4_roundChanges 28 = .ok (.getfield 53, 3) := by decide +kernel
theorem dX4_roundChanges_31 : decode cX4_roundChanges 31 = .ok (.aload_n 0, 1) := by decide +kernel
theorem dX4_roundChanges_32 : decode cX4_roundChanges 32 = .ok (.getfield 10, 3) := by decide +kernel
theorem dX4_roundChanges_35 : decode cX4_roundChanges 35 = .ok (.getfield 100, 3) := by decide +kernel
theorem dX4_roundChanges_38 : decode cX4_roundChanges 38 = .ok (.iload_n 2, 1) := by decide +kernel
theorem dX4_roundChanges_39 : decode cX4_roundChanges 39 = .ok (.iaload, 1) := by decide +kernel
theorem dX4_roundChanges_40 : decode cX4_roundChanges 40 = .ok (.iaload, 1) := by decide +kernel
theorem dX4_roundChanges_41 : decode cX4_roundChanges 41 = .ok (.if_icmp .le 15, 3) := by decide +kernel
theorem dX4_roundChanges_44 : decode cX4_roundChanges 44 = .ok (.aload_n 0, 1) := by decide +kernel
theorem dX4_roundChanges_45 : decode cX4_roundChanges 45 = .ok (.getfield 10, 3) := by decide +kernel
theorem dX4_roundChanges_48 : decode cX4_roundChanges 48 = .ok (.getfield 100, 3) := by decide +kernel
theorem dX4_roundChanges_51 : decode cX4_roundChanges 51 = .ok (.iload_n 2, 1) := by decide +kernel
theorem dX4_roundChanges_52 : decode cX4_roundChanges 52 = .ok (.iload_n 3, 1) := by decide +kernel
theorem dX4_roundChanges_53 : decode cX4_roundChanges 53 = .ok (.iastore, 1) := by decide +kernel
theorem dX4_roundChanges_54 : decode cX4_roundChanges 54 = .ok (.iconst 1, 1) := by decide +kernel
theorem dX4_roundChanges_55 : decode cX4_roundChanges 55 = .ok (.istore_n 1, 1) := by decide +kernel
theorem dX4_roundChanges_56 : decode cX4_roundChanges 56 = .ok (.iinc 2 1, 3) := by decide +kernel
theorem dX4_roundChanges_59 : decode cX4_roundChanges 59 = .ok (.goto (-55), 3) := by decide +kernel
theorem dX4_roundChanges_62 : decode cX4_roundChanges 62 = .ok (.iload_n 1, 1) := by decide +kernel
theorem dX4_roundChanges_63 : decode cX4_roundChanges 63 = .ok (.ireturn, 1) := by decide +kernel
set_option maxRecDepth 20000 in
theorem ggX4_isErrandFor_X1_findCheapest : GoodIn wsX4_isErrandFor wsX1_findCheapest := goodIn_r _ [12, 13, 14, 15, 16, 17, 18, 11, 19, 20, 21, 22, 23, 24, 25, 26, 27, 28, 29, 30, 31, 32, 33, 34, 35, 36, 37, 38, 39, 40, 41, 42, 43, 44, 45, 46, 47, 48, 49, 50, 51, 52, 53, 54, 55, 56, 57, 58, 59, 60, 61, 62, 63, 64, 65, 66, 67, 68, 69, 70, 71, 72, 73, 74, 75, 76, 77, 78, 79, 80, 81, 82, 83, 84, 85, 86, 87, 88, 89, 90, 91, 92, 93, 94, 95, 96, 97, 98, 99, 125, 126, 127, 128, 129, 130, 131, 132, 133, 134, 135, 136, 137, 138, 139, 140, 141, 142, 143, 109, 110, 111, 112, 113, 114, 115, 116, 117, 118, 119, 120, 121, 122, 123, 124] (by decide +kernel) (by decide +kernel)
set_option maxRecDepth 20000 in
theorem gX4_isErrandFor_X1_findCheapest : GoodIn wsX4_isErrandFor (wsV RX4 140 RX1 yX1_findCheapest wsX1_findCheapest) := goodIn_app (goodIn_of _ (by decide +kernel)) ggX4_isErrandFor_X1_findCheapest
theorem dX4_isErrandFor_0 : decode cX4_isErrandFor 0 = .ok (.aload_n 0, 1) := by decide +kernel
theorem dX4_isErrandFor_1 : decode cX4_isErrandFor 1 = .ok (.getfield 38, 3) := by decide +kernel
theorem dX4_isErrandFor_4 : decode cX4_isErrandFor 4 = .ok (.iload_n 1, 1) := by decide +kernel
theorem dX4_isErrandFor_5 : decode cX4_isErrandFor 5 = .ok (.aload_n 0, 1) := by decide +kernel
theorem dX4_isErrandFor_6 : decode cX4_isErrandFor 6 = .ok (.getfield 10, 3) := by decide +kernel
theorem dX4_isErrandFor_9 : decode cX4_isErrandFor 9 = .ok (.getfield 94, 3) := by decide +kernel
theorem dX4_isErrandFor_12 : decode cX4_isErrandFor 12 = .ok (.iconst 0, 1) := by decide +kernel
theorem dX4_isErrandFor_13 : decode cX4_isErrandFor 13 = .ok (.invokevirtual 140, 3) := by decide +kernel
theorem dX4_isErrandFor_16 : decode cX4_isErrandFor 16 = .ok (.ifCond .eq 20, 3) := by decide +kernel
theorem dX4_isErrandFor_19 : decode cX4_isErrandFor 19 = .ok (.aload_n 0, 1) := by decide +kernel
theorem dX4_isErrandFor_20 : decode cX4_isErrandFor 20 = .ok (.getfield 38, 3) := by decide +kernel
theorem dX4_isErrandFor_23 : decode cX4_isErrandFor 23 = .ok (.getfield 146, 3) := by decide +kernel
theorem dX4_isErrandFor_26 : decode cX4_isErrandFor 26 = .ok (.aload_n 0, 1) := by decide +kernel
theorem dX4_isErrandFor_27 : decode cX4_isErrandFor 27 = .ok (.getfield 10, 3) := by decide +kernel
theorem dX4_isErrandFor_30 : decode cX4_isErrandFor 30 = .ok (.getfield 217, 3) := by decide +kernel
theorem dX4_isErrandFor_33 : decode cX4_isErrandFor 33 = .ok (.if_icmp .eq 5, 3) := by decide +kernel
theorem dX4_isErrandFor_36 : decode cX4_isErrandFor 36 = .ok (.iconst 0, 1) := by decide +kernel
theorem dX4_isErrandFor_37 : decode cX4_isErrandFor 37 = .ok (.ireturn, 1) := by decide +kernel
theorem dX4_isErrandFor_38 : decode cX4_isErrandFor 38 = .ok (.iconst 0, 1) := by decide +kernel
theorem dX4_isErrandFor_39 : decode cX4_isErrandFor 39 = .ok (.istore_n 2, 1) := by decide +kernel
theorem dX4_isErrandFor_40 : decode cX4_isErrandFor 40 = .ok (.iload_n 2, 1) := by decide +kernel
theorem dX4_isErrandFor_41 : decode cX4_isErrandFor 41 = .ok (.aload_n 0, 1) := by decide +kernel
theorem dX4_isErrandFor_42 : decode cX4_isErrandFor 42 = .ok (.getfield 38, 3) := by decide +kernel
theorem dX4_isErrandFor_45 : decode cX4_isErrandFor 45 = .ok (.getfield 146, 3) := by decide +kernel
theorem dX4_isErrandFor_48 : decode cX4_isErrandFor 48 = .ok (.if_icmp .ge 32, 3) := by decide +kernel
theorem dX4_isErrandFor_51 : decode cX4_isErrandFor 51 = .ok (.aload_n 0, 1) := by decide +kernel
theorem dX4_isErrandFor_52 : decode cX4_isErrandFor 52 = .ok (.getfield 38, 3) := by decide +kernel
theorem dX4_isErrandFor_55 : decode cX4_isErrandFor 55 = .ok (.getfield 150, 3) := by decide +kernel
theorem dX4_isErrandFor_58 : decode cX4_isErrandFor 58 = .ok (.iload_n 2, 1) := by decide +kernel
theorem dX4_isErrandFor_59 : decode cX4_isErrandFor 59 = .ok (.iaload, 1) := by decide +kernel
theorem dX4_isErrandFor_60 : decode cX4_isErrandFor 60 = .ok (.aload_n 0, 1) := by decide +kernel
theorem dX4_isErrandFor_61 : decode cX4_isErrandFor 61 = .ok (.getfield 10, 3) := by decide +kernel
theorem dX4_isErrandFor_64 : decode cX4_isErrandFor 64 = .ok (.getfield 220, 3) := by decide +kernel
theorem dX4_isErrandFor_67 : decode cX4_isErrandFor 67 = .ok (.iload_n 2, 1) := by decide +kernel
theorem dX4_isErrandFor_68 : decode cX4_isErrandFor 68 = .ok (.iaload, 1) := by decide +kernel
theorem dX4_isErrandFor_69 : decode cX4_isErrandFor 69 = .ok (.if_icmp .eq 5, 3) := by decide +kernel
theorem dX4_isErrandFor_72 : decode cX4_isErrandFor 72 = .ok (.iconst 0, 1) := by decide +kernel
theorem dX4_isErrandFor_73 : decode cX4_isErrandFor 73 = .ok (.ireturn, 1) := by decide +kernel
theorem dX4_isErrandFor_74 : decode cX4_isErrandFor 74 = .ok (.iinc 2 1, 3) := by decide +kernel
theorem dX4_isErrandFor_77 : decode cX4_isErrandFor 77 = .ok (.goto (-37), 3) := by decide +kernel
theorem dX4_isErrandFor_80 : decode cX4_isErrandFor 80 = .ok (.iconst 1, 1) := by decide +kernel
theorem dX4_isErrandFor_81 : decode cX4_isErrandFor 81 = .ok (.ireturn, 1) := by decide +kernel
theorem dX5_init_0 : decode cX5_init 0 = .ok (.aload_n 0, 1) := by decide +kernel
theorem dX5_init_1 : decode cX5_init 1 = .ok (.invokespecial 1, 3) := by decide +kernel
theorem dX5_init_4 : decode cX5_init 4 = .ok (.aload_n 0, 1) := by decide +kernel
theorem dX5_init_5 : decode cX5_init 5 = .ok (.sipush 261, 3) := by decide +kernel
theorem dX5_init_8 : decode cX5_init 8 = .ok (.newarray .int, 2) := by decide +kernel
theorem dX5_init_10 : decode cX5_init 10 = .ok (.putfield 7, 3) := by decide +kernel
theorem dX5_init_13 : decode cX5_init 13 = .ok (.aload_n 0, 1) := by decide +kernel
theorem dX5_init_14 : decode cX5_init 14 = .ok (.sipush 522, 3) := by decide +kernel
theorem dX5_init_17 : decode cX5_init 17 = .ok (.newarray .int, 2) := by decide +kernel
theorem dX5_init_19 : decode cX5_init 19 = .ok (.putfield 13, 3) := by decide +kernel
theorem dX5_init_22 : decode cX5_init 22 = .ok (.aload_n 0, 1) := by decide +kernel
theorem dX5_init_23 : decode cX5_init 23 = .ok (.iconst 2, 1) := by decide +kernel
theorem dX5_init_24 : decode cX5_init 24 = .ok (.newarray .boolean, 2) := by decide +kernel
theorem dX5_init_26 : decode cX5_init 26 = .ok (.putfield 16, 3) := by decide +kernel
theorem dX5_init_29 : decode cX5_init 29 = .ok (.aload_n 0, 1) := by decide +kernel
theorem dX5_init_30 : decode cX5_init 30 = .ok (.iconst 3, 1) := by decide +kernel
theorem dX5_init_31 : decode cX5_init 31 = .ok (.newarray .int, 2) := by decide +kernel
theorem dX5_init_33 : decode cX5_init 33 = .ok (.putfield 20, 3) := by decide +kernel
theorem dX5_init_36 : decode cX5_init 36 = .ok (.aload_n 0, 1) := by decide +kernel
theorem dX5_init_37 : decode cX5_init 37 = .ok (.bipush 46, 2) := by decide +kernel
theorem dX5_init_39 : decode cX5_init 39 = .ok (.newarray .int, 2) := by decide +kernel
theorem dX5_init_41 : decode cX5_init 41 = .ok (.putfield 23, 3) := by decide +kernel
theorem dX5_init_44 : decode cX5_init 44 = .ok (.aload_n 0, 1) := by decide +kernel
theorem dX5_init_45 : decode cX5_init 45 = .ok (.bipush 64, 2) := by decide +kernel
theorem dX5_init_47 : decode cX5_init 47 = .ok (.newarray .int, 2) := by decide +kernel
theorem dX5_init_49 : decode cX5_init 49 = .ok (.putfield 26, 3) := by decide +kernel
theorem dX5_init_52 : decode cX5_init 52 = .ok (.aload_n 0, 1) := by decide +kernel
theorem dX5_init_53 : decode cX5_init 53 = .ok (.bipush 64, 2) := by decide +kernel
theorem dX5_init_55 : decode cX5_init 55 = .ok (.newarray .int, 2) := by decide +kernel
theorem dX5_init_57 : decode cX5_init 57 = .ok (.putfield 29, 3) := by decide +kernel
theorem dX5_init_60 : decode cX5_init 60 = .ok (.aload_n 0, 1) := by decide +kernel
theorem dX5_init_61 : decode cX5_init 61 = .ok (.bipush 64, 2) := by decide +kernel
theorem dX5_init_63 : decode cX5_init 63 = .ok (.newarray .int, 2) := by decide +kernel
theorem dX5_init_65 : decode cX5_init 65 = .ok (.putfield 32, 3) := by decide +kernel
theorem dX5_init_68 : decode cX5_init 68 = .ok (.aload_n 0, 1) := by decide +kernel
theorem dX5_init_69 : decode cX5_init 69 = .ok (.bipush 64, 2) := by decide +kernel
theorem dX5_init_71 : decode cX5_init 71 = .ok (.newarray .int, 2) := by decide +kernel
theorem dX5_init_73 : decode cX5_init 73 = .ok (.putfield 35, 3) := by decide +kernel
theorem dX5_init_76 : decode cX5_init 76 = .ok (.aload_n 0, 1) := by decide +kernel
theorem dX5_init_77 : decode cX5_init 77 = .ok (.bipush 64, 2) := by decide +kernel
theorem dX5_init_79 : decode cX5_init 79 = .ok (.newarray .int, 2) := by decide +kernel
theorem dX5_init_81 : decode cX5_init 81 = .ok (.putfield 38, 3) := by decide +kernel
theorem dX5_init_84 : decode cX5_init 84 = .ok (.aload_n 0, 1) := by decide +kernel
theorem dX5_init_85 : decode cX5_init 85 = .ok (.bipush 7, 2) := by decide +kernel
theorem dX5_init_87 : decode cX5_init 87 = .ok (.newarray .int, 2) := by decide +kernel
theorem dX5_init_89 : decode cX5_init 89 = .ok (.putfield 41, 3) := by decide +kernel
theorem dX5_init_92 : decode cX5_init 92 = .ok (.aload_n 0, 1) := by decide +kernel
theorem dX5_init_93 : decode cX5_init 93 = .ok (.bipush 7, 2) := by decide +kernel
theorem dX5_init_95 : decode cX5_init 95 = .ok (.newarray .int, 2) := by decide +kernel
theorem dX5_init_97 : decode cX5_init 97 = .ok (.putfield 44, 3) := by decide +kernel
theorem dX5_init_100 : decode cX5_init 100 = .ok (.aload_n 0, 1) := by decide +kernel
theorem dX5_init_101 : decode cX5_init 101 = .ok (.bipush 7, 2) := by decide +kernel
theorem dX5_init_103 : decode cX5_init 103 = .ok (.newarray .int, 2) := by decide +kernel
theorem dX5_init_105 : decode cX5_init 105 = .ok (.putfield 47, 3) := by decide +kernel
theorem dX5_init_108 : decode cX5_init 108 = .ok (.aload_n 0, 1) := by decide +kernel
theorem dX5_init_109 : decode cX5_init 109 = .ok (.bipush 7, 2) := by decide +kernel
theorem dX5_init_111 : decode cX5_init 111 = .ok (.newarray .int, 2) := by decide +kernel
theorem dX5_init_113 : decode cX5_init 113 = .ok (.putfield 50, 3) := by decide +kernel
theorem dX5_init_116 : decode cX5_init 116 = .ok (.aload_n 0, 1) := by decide +kernel
theorem dX5_init_117 : decode cX5_init 117 = .ok (.bipush 7, 2) := by decide +kernel
theorem dX5_init_119 : decode cX5_init 119 = .ok (.newarray .int, 2) := by decide +kernel
theorem dX5_init_121 : decode cX5_init 121 = .ok (.putfield 53, 3) := by decide +kernel
theorem dX5_init_124 : decode cX5_init 124 = .ok (.aload_n 0, 1) := by decide +kernel
theorem dX5_init_125 : decode cX5_init 125 = .ok (.bipush 6, 2) := by decide +kernel
theorem dX5_init_127 : decode cX5_init 127 = .ok (.newarray .int, 2) := by decide +kernel
theorem dX5_init_129 : decode cX5_init 129 = .ok (.putfield 56, 3) := by decide +kernel
theorem dX5_init_132 : decode cX5_init 132 = .ok (.aload_n 0, 1) := by decide +kernel
theorem dX5_init_133 : decode cX5_init 133 = .ok (.getfield 7, 3) := by decide +kernel
theorem dX5_init_136 : decode cX5_init 136 = .ok (.bipush 31, 2) := by decide +kernel
theorem dX5_init_138 : decode cX5_init 138 = .ok (.sipush 999, 3) := by decide +kernel
theorem dX5_init_141 : decode cX5_init 141 = .ok (.iastore, 1) := by decide +kernel
theorem dX5_init_142 : decode cX5_init 142 = .ok (.aload_n 0, 1) := by decide +kernel
theorem dX5_init_143 : decode cX5_init 143 = .ok (.getfield 7, 3) := by decide +kernel
theorem dX5_init_146 : decode cX5_init 146 = .ok (.bipush 32, 2) := by decide +kernel
theorem dX5_init_148 : decode cX5_init 148 = .ok (.bipush 6, 2) := by decide +kernel
theorem dX5_init_150 : decode cX5_init 150 = .ok (.iastore, 1) := by decide +kernel
theorem dX5_init_151 : decode cX5_init 151 = .ok (.return_, 1) := by decide +kernel
theorem dX5_in_0 : decode cX5_in 0 = .ok (.lload_n 0, 1) := by decide +kernel
theorem dX5_in_1 : decode cX5_in 1 = .ok (.lload_n 2, 1) := by decide +kernel
theorem dX5_in_2 : decode cX5_in 2 = .ok (.lcmp, 1) := by decide +kernel
theorem dX5_in_3 : decode cX5_in 3 = .ok (.ifCond .lt 14, 3) := by decide +kernel
theorem dX5_in_6 : decode cX5_in 6 = .ok (.lload_n 0, 1) := by decide +kernel
theorem dX5_in_7 : decode cX5_in 7 = .ok (.lload 4, 2) := by decide +kernel
theorem dX5_in_9 : decode cX5_in 9 = .ok (.lcmp, 1) := by decide +kernel
theorem dX5_in_10 : decode cX5_in 10 = .ok (.ifCond .gt 7, 3) := by decide +kernel
theorem dX5_in_13 : decode cX5_in 13 = .ok (.iconst 1, 1) := by decide +kernel
theorem dX5_in_14 : decode cX5_in 14 = .ok (.goto 4, 3) := by decide +kernel
theorem dX5_in_17 : decode cX5_in 17 = .ok (.iconst 0, 1) := by decide +kernel
theorem dX5_in_18 : decode cX5_in 18 = .ok (.ireturn, 1) := by decide +kernel
theorem dX5_bad_0 : decode cX5_bad 0 = .ok (.aload_n 0, 1) := by decide +kernel
theorem dX5_bad_1 : decode cX5_bad 1 = .ok (.getfield 20, 3) := by decide +kernel
theorem dX5_bad_4 : decode cX5_bad 4 = .ok (.iconst 0, 1) := by decide +kernel
theorem dX5_bad_5 : decode cX5_bad 5 = .ok (.dup2, 1) := by decide +kernel
theorem dX5_bad_6 : decode cX5_bad 6 = .ok (.iaload, 1) := by decide +kernel
theorem dX5_bad_7 : decode cX5_bad 7 = .ok (.iconst 1, 1) := by decide +kernel
theorem dX5_bad_8 : decode cX5_bad 8 = .ok (.iadd, 1) := by decide +kernel
theorem dX5_bad_9 : decode cX5_bad 9 = .ok (.iastore, 1) := by decide +kernel
theorem dX5_bad_10 : decode cX5_bad 10 = .ok (.iload_n 1, 1) := by decide +kernel
theorem dX5_bad_11 : decode cX5_bad 11 = .ok (.ireturn, 1) := by decide +kernel
theorem dX5_no_0 : decode cX5_no 0 = .ok (.aload_n 0, 1) := by decide +kernel
theorem dX5_no_1 : decode cX5_no 1 = .ok (.getfield 20, 3) := by decide +kernel
theorem dX5_no_4 : decode cX5_no 4 = .ok (.iconst 1, 1) := by decide +kernel
theorem dX5_no_5 : decode cX5_no 5 = .ok (.dup2, 1) := by decide +kernel
theorem dX5_no_6 : decode cX5_no 6 = .ok (.iaload, 1) := by decide +kernel
theorem dX5_no_7 : decode cX5_no 7 = .ok (.iconst 1, 1) := by decide +kernel
theorem dX5_no_8 : decode cX5_no 8 = .ok (.iadd, 1) := by decide +kernel
theorem dX5_no_9 : decode cX5_no 9 = .ok (.iastore, 1) := by decide +kernel
theorem dX5_no_10 : decode cX5_no 10 = .ok (.iload_n 1, 1) := by decide +kernel
theorem dX5_no_11 : decode cX5_no 11 = .ok (.ireturn, 1) := by decide +kernel
theorem dX5_full_0 : decode cX5_full 0 = .ok (.aload_n 0, 1) := by decide +kernel
theorem dX5_full_1 : decode cX5_full 1 = .ok (.getfield 20, 3) := by decide +kernel
theorem dX5_full_4 : decode cX5_full 4 = .ok (.iconst 2, 1) := by decide +kernel
theorem dX5_full_5 : decode cX5_full 5 = .ok (.dup2, 1) := by decide +kernel
theorem dX5_full_6 : decode cX5_full 6 = .ok (.iaload, 1) := by decide +kernel
theorem dX5_full_7 : decode cX5_full 7 = .ok (.iconst 1, 1) := by decide +kernel
theorem dX5_full_8 : decode cX5_full 8 = .ok (.iadd, 1) := by decide +kernel
theorem dX5_full_9 : decode cX5_full 9 = .ok (.iastore, 1) := by decide +kernel
theorem dX5_full_10 : decode cX5_full 10 = .ok (.bipush (-4), 2) := by decide +kernel
theorem dX5_full_12 : decode cX5_full 12 = .ok (.ireturn, 1) := by decide +kernel
theorem dX5_shops_0 : decode cX5_shops 0 = .ok (.aload_n 0, 1) := by decide +kernel
theorem dX5_shops_1 : decode cX5_shops 1 = .ok (.getfield 7, 3) := by decide +kernel
theorem dX5_shops_4 : decode cX5_shops 4 = .ok (.sipush 259, 3) := by decide +kernel
theorem dX5_shops_7 : decode cX5_shops 7 = .ok (.iaload, 1) := by decide +kernel
theorem dX5_shops_8 : decode cX5_shops 8 = .ok (.ireturn, 1) := by decide +kernel
set_option maxRecDepth 20000 in
theorem ggX5_isShop_X5_shops : GoodIn wsX5_isShop wsX5_shops := goodIn_r _ [5, 6, 10, 11, 12, 13, 14, 15, 16, 17, 18, 19, 20, 21, 22, 23, 24, 25, 26, 27, 28, 29, 30, 31, 32, 33, 34, 35, 36, 37] (by decide +kernel) (by decide +kernel)
set_option maxRecDepth 20000 in
theorem gX5_isShop_X5_shops : GoodIn wsX5_isShop (wsV RX5 59 RX5 yX5_shops wsX5_shops) := goodIn_app (goodIn_of _ (by decide +kernel)) ggX5_isShop_X5_shops
set_option maxRecDepth 20000 in
theorem ggX5_isShop_X5_in : GoodIn wsX5_isShop wsX5_in := goodIn_r _ [9] (by decide +kernel) (by decide +kernel)
set_option maxRecDepth 20000 in
theorem gX5_isShop_X5_in : GoodIn wsX5_isShop (va_wsS RX5 63 yX5_in wsX5_in) := goodIn_app (goodIn_of _ (by decide +kernel)) ggX5_isShop_X5_in
theorem dX5_isShop_0 : decode cX5_isShop 0 = .ok (.iload_n 1, 1) := by decide +kernel
theorem dX5_isShop_1 : decode cX5_isShop 1 = .ok (.i2l, 1) := by decide +kernel
theorem dX5_isShop_2 : decode cX5_isShop 2 = .ok (.lconst 0, 1) := by decide +kernel
theorem dX5_isShop_3 : decode cX5_isShop 3 = .ok (.aload_n 0, 1) := by decide +kernel
theorem dX5_isShop_4 : decode cX5_isShop 4 = .ok (.invokevirtual 59, 3) := by decide +kernel
theorem dX5_isShop_7 : decode cX5_isShop 7 = .ok (.iconst 1, 1) := by decide +kernel
theorem dX5_isShop_8 : decode cX5_isShop 8 = .ok (.isub, 1) := by decide +kernel
theorem dX5_isShop_9 : decode cX5_isShop 9 = .ok (.i2l, 1) := by decide +kernel
theorem dX5_isShop_10 : decode cX5_isShop 10 = .ok (.invokestatic 63, 3) := by decide +kernel
theorem dX5_isShop_13 : decode cX5_isShop 13 = .ok (.ireturn, 1) := by decide +kernel
theorem dX5_of_0 : decode cX5_of 0 = .ok (.aload_n 0, 1) := by decide +kernel
theorem dX5_of_1 : decode cX5_of 1 = .ok (.getfield 7, 3) := by decide +kernel
theorem dX5_of_4 : decode cX5_of 4 = .ok (.iconst 0, 1) := by decide +kernel
theorem dX5_of_5 : decode cX5_of 5 = .ok (.iconst 4, 1) := by decide +kernel
theorem dX5_of_6 : decode cX5_of 6 = .ok (.iload_n 1, 1) := by decide +kernel
theorem dX5_of_7 : decode cX5_of 7 = .ok (.imul, 1) := by decide +kernel
theorem dX5_of_8 : decode cX5_of 8 = .ok (.iadd, 1) := by decide +kernel
theorem dX5_of_9 : decode cX5_of 9 = .ok (.iload_n 2, 1) := by decide +kernel
theorem dX5_of_10 : decode cX5_of 10 = .ok (.iadd, 1) := by decide +kernel
theorem dX5_of_11 : decode cX5_of 11 = .ok (.iaload, 1) := by decide +kernel
theorem dX5_of_12 : decode cX5_of 12 = .ok (.ireturn, 1) := by decide +kernel
set_option maxRecDepth 20000 in
theorem ggX5_isTold_X5_in : GoodIn wsX5_isTold wsX5_in := goodIn_r _ [8] (by decide +kernel) (by decide +kernel)
set_option maxRecDepth 20000 in
theorem gX5_isTold_X5_in : GoodIn wsX5_isTold (va_wsS RX5 63 yX5_in wsX5_in) := goodIn_app (goodIn_of _ (by decide +kernel)) ggX5_isTold_X5_in
theorem dX5_isTold_0 : decode cX5_isTold 0 = .ok (.iload_n 0, 1) := by decide +kernel
theorem dX5_isTold_1 : decode cX5_isTold 1 = .ok (.i2l, 1) := by decide +kernel
theorem dX5_isTold_2 : decode cX5_isTold 2 = .ok (.lconst 0, 1) := by decide +kernel
theorem dX5_isTold_3 : decode cX5_isTold 3 = .ok (.ldc2_w 67, 3) := by decide +kernel
theorem dX5_isTold_6 : decode cX5_isTold 6 = .ok (.invokestatic 63, 3) := by decide +kernel
theorem dX5_isTold_9 : decode cX5_isTold 9 = .ok (.ifCond .eq 43, 3) := by decide +kernel
theorem dX5_isTold_12 : decode cX5_isTold 12 = .ok (.iload_n 1, 1) := by decide +kernel
theorem dX5_isTold_13 : decode cX5_isTold 13 = .ok (.i2l, 1) := by decide +kernel
theorem dX5_isTold_14 : decode cX5_isTold 14 = .ok (.lconst 0, 1) := by decide +kernel
theorem dX5_isTold_15 : decode cX5_isTold 15 = .ok (.ldc2_w 69, 3) := by decide +kernel
theorem dX5_isTold_18 : decode cX5_isTold 18 = .ok (.invokestatic 63, 3) := by decide +kernel
theorem dX5_isTold_21 : decode cX5_isTold 21 = .ok (.ifCond .eq 31, 3) := by decide +kernel
theorem dX5_isTold_24 : decode cX5_isTold 24 = .ok (.iload_n 2, 1) := by decide +kernel
theorem dX5_isTold_25 : decode cX5_isTold 25 = .ok (.i2l, 1) := by decide +kernel
theorem dX5_isTold_26 : decode cX5_isTold 26 = .ok (.lconst 1, 1) := by decide +kernel
theorem dX5_isTold_27 : decode cX5_isTold 27 = .ok (.ldc2_w 71, 3) := by decide +kernel
theorem dX5_isTold_30 : decode cX5_isTold 30 = .ok (.invokestatic 63, 3) := by decide +kernel
theorem dX5_isTold_33 : decode cX5_isTold 33 = .ok (.ifCond .eq 19, 3) := by decide +kernel
theorem dX5_isTold_36 : decode cX5_isTold 36 = .ok (.iload_n 3, 1) := by decide +kernel
theorem dX5_isTold_37 : decode cX5_isTold 37 = .ok (.i2l, 1) := by decide +kernel
theorem dX5_isTold_38 : decode cX5_isTold 38 = .ok (.lconst 0, 1) := by decide +kernel
theorem dX5_isTold_39 : decode cX5_isTold 39 = .ok (.ldc2_w 73, 3) := by decide +kernel
theorem dX5_isTold_42 : decode cX5_isTold 42 = .ok (.invokestatic 63, 3) := by decide +kernel
theorem dX5_isTold_45 : decode cX5_isTold 45 = .ok (.ifCond .eq 7, 3) := by decide +kernel
theorem dX5_isTold_48 : decode cX5_isTold 48 = .ok (.iconst 1, 1) := by decide +kernel
theorem dX5_isTold_49 : decode cX5_isTold 49 = .ok (.goto 4, 3) := by decide +kernel
theorem dX5_isTold_52 : decode cX5_isTold 52 = .ok (.iconst 0, 1) := by decide +kernel
theorem dX5_isTold_53 : decode cX5_isTold 53 = .ok (.ireturn, 1) := by decide +kernel
set_option maxRecDepth 20000 in
theorem ggX5_shop_X5_isTold : GoodIn wsX5_shop wsX5_isTold := goodIn_r _ [5, 6, 7, 8, 9, 10, 11, 4, 12] (by decide +kernel) (by decide +kernel)
set_option maxRecDepth 20000 in
theorem gX5_shop_X5_isTold : GoodIn wsX5_shop (va_wsS RX5 75 yX5_isTold wsX5_isTold) := goodIn_app (goodIn_of _ (by decide +kernel)) ggX5_shop_X5_isTold
set_option maxRecDepth 20000 in
theorem ggX5_shop_X5_bad : GoodIn wsX5_shop wsX5_bad := goodIn_r _ [16, 17, 26, 27, 28, 29, 30, 31, 32, 33, 34, 35, 36, 37, 38, 39, 40, 41, 42, 43, 44, 45, 46, 47, 48, 49, 50, 51, 52, 53] (by decide +kernel) (by decide +kernel)
set_option maxRecDepth 20000 in
theorem gX5_shop_X5_bad : GoodIn wsX5_shop (wsV RX5 79 RX5 yX5_bad wsX5_bad) := goodIn_app (goodIn_of _ (by decide +kernel)) ggX5_shop_X5_bad
set_option maxRecDepth 20000 in
theorem ggX5_shop_X5_shops : GoodIn wsX5_shop wsX5_shops := goodIn_r _ [21, 1, 26, 27, 28, 29, 30, 31, 32, 33, 34, 35, 36, 37, 38, 39, 40, 41, 42, 43, 44, 45, 46, 47, 48, 49, 50, 51, 52, 53] (by decide +kernel) (by decide +kernel)
set_option maxRecDepth 20000 in
theorem gX5_shop_X5_shops : GoodIn wsX5_shop (wsV RX5 59 RX5 yX5_shops wsX5_shops) := goodIn_app (goodIn_of _ (by decide +kernel)) ggX5_shop_X5_shops
set_option maxRecDepth 20000 in
theorem ggX5_shop_X5_full : GoodIn wsX5_shop wsX5_full := goodIn_r _ [25, 17, 26, 27, 28, 29, 30, 31, 32, 33, 34, 35, 36, 37, 38, 39, 40, 41, 42, 43, 44, 45, 46, 47, 48, 49, 50, 51, 52, 53] (by decide +kernel) (by decide +kernel)
set_option maxRecDepth 20000 in
theorem gX5_shop_X5_full : GoodIn wsX5_shop (wsV RX5 83 RX5 yX5_full wsX5_full) := goodIn_app (goodIn_of _ (by decide +kernel)) ggX5_shop_X5_full
theorem dX5_shop_0 : decode cX5_shop 0 = .ok (.iload_n 1, 1) := by decide +kernel
theorem dX5_shop_1 : decode cX5_shop 1 = .ok (.iload_n 2, 1) := by decide +kernel
theorem dX5_shop_2 : decode cX5_shop 2 = .ok (.iload_n 3, 1) := by decide +kernel
theorem dX5_shop_3 : decode cX5_shop 3 = .ok (.iload 4, 2) := by decide +kernel
theorem dX5_shop_5 : decode cX5_shop 5 = .ok (.invokestatic 75, 3) := by decide +kernel
theorem dX5_shop_8 : decode cX5_shop 8 = .ok (.ifCond .ne 10, 3) := by decide +kernel
theorem dX5_shop_11 : decode cX5_shop 11 = .ok (.aload_n 0, 1) := by decide +kernel
theorem dX5_shop_12 : decode cX5_shop 12 = .ok (.bipush (-2), 2) := by decide +kernel
theorem dX5_shop_14 : decode cX5_shop 14 = .ok (.invokevirtual 79, 3) := by decide +kernel
theorem dX5_shop_17 : decode cX5_shop 17 = .ok (.ireturn, 1) := by decide +kernel
theorem dX5_shop_18 : decode cX5_shop 18 = .ok (.aload_n 0, 1) := by decide +kernel
theorem dX5_shop_19 : decode cX5_shop 19 = .ok (.invokevirtual 59, 3) := by decide +kernel
theorem dX5_shop_22 : decode cX5_shop 22 = .ok (.istore 5, 2) := by decide +kernel
theorem dX5_shop_24 : decode cX5_shop 24 = .ok (.iload 5, 2) := by decide +kernel
theorem dX5_shop_26 : decode cX5_shop 26 = .ok (.bipush 6, 2) := by decide +kernel
theorem dX5_shop_28 : decode cX5_shop 28 = .ok (.if_icmp .ne 8, 3) := by decide +kernel
theorem dX5_shop_31 : decode cX5_shop 31 = .ok (.aload_n 0, 1) := by decide +kernel
theorem dX5_shop_32 : decode cX5_shop 32 = .ok (.invokevirtual 83, 3) := by decide +kernel
theorem dX5_shop_35 : decode cX5_shop 35 = .ok (.ireturn, 1) := by decide +kernel
theorem dX5_shop_36 : decode cX5_shop 36 = .ok (.aload_n 0, 1) := by decide +kernel
theorem dX5_shop_37 : decode cX5_shop 37 = .ok (.getfield 7, 3) := by decide +kernel
theorem dX5_shop_40 : decode cX5_shop 40 = .ok (.iconst 0, 1) := by decide +kernel
theorem dX5_shop_41 : decode cX5_shop 41 = .ok (.iconst 4, 1) := by decide +kernel
theorem dX5_shop_42 : decode cX5_shop 42 = .ok (.iload 5, 2) := by decide +kernel
theorem dX5_shop_44 : decode cX5_shop 44 = .ok (.imul, 1) := by decide +kernel
theorem dX5_shop_45 : decode cX5_shop 45 = .ok (.iadd, 1) := by decide +kernel
theorem dX5_shop_46 : decode cX5_shop 46 = .ok (.iload_n 1, 1) := by decide +kernel
theorem dX5_shop_47 : decode cX5_shop 47 = .ok (.iastore, 1) := by decide +kernel
theorem dX5_shop_48 : decode cX5_shop 48 = .ok (.aload_n 0, 1) := by decide +kernel
theorem dX5_shop_49 : decode cX5_shop 49 = .ok (.getfield 7, 3) := by decide +kernel
theorem dX5_shop_52 : decode cX5_shop 52 = .ok (.iconst 0, 1) := by decide +kernel
theorem dX5_shop_53 : decode cX5_shop 53 = .ok (.iconst 4, 1) := by decide +kernel
theorem dX5_shop_54 : decode cX5_shop 54 = .ok (.iload 5, 2) := by decide +kernel
theorem dX5_shop_56 : decode cX5_shop 56 = .ok (.imul, 1) := by decide +kernel
theorem dX5_shop_57 : decode cX5_shop 57 = .ok (.iadd, 1) := by decide +kernel
theorem dX5_shop_58 : decode cX5_shop 58 = .ok (.iconst 1, 1) := by decide +kernel
theorem dX5_shop_59 : decode cX5_shop 59 = .ok (.iadd, 1) := by decide +kernel
theorem dX5_shop_60 : decode cX5_shop 60 = .ok (.iload_n 2, 1) := by decide +kernel
theorem dX5_shop_61 : decode cX5_shop 61 = .ok (.iastore, 1) := by decide +kernel
theorem dX5_shop_62 : decode cX5_shop 62 = .ok (.aload_n 0, 1) := by decide +kernel
theorem dX5_shop_63 : decode cX5_shop 63 = .ok (.getfield 7, 3) := by decide +kernel
theorem dX5_shop_66 : decode cX5_shop 66 = .ok (.iconst 0, 1) := by decide +kernel
theorem dX5_shop_67 : decode cX5_shop 67 = .ok (.iconst 4, 1) := by decide +kernel
theorem dX5_shop_68 : decode cX5_shop 68 = .ok (.iload 5, 2) := by decide +kernel
theorem dX5_shop_70 : decode cX5_shop 70 = .ok (.imul, 1) := by decide +kernel
theorem dX5_shop_71 : decode cX5_shop 71 = .ok (.iadd, 1) := by decide +kernel
theorem dX5_shop_72 : decode cX5_shop 72 = .ok (.iconst 2, 1) := by decide +kernel
theorem dX5_shop_73 : decode cX5_shop 73 = .ok (.iadd, 1) := by decide +kernel
theorem dX5_shop_74 : decode cX5_shop 74 = .ok (.iload_n 3, 1) := by decide +kernel
theorem dX5_shop_75 : decode cX5_shop 75 = .ok (.iastore, 1) := by decide +kernel
theorem dX5_shop_76 : decode cX5_shop 76 = .ok (.aload_n 0, 1) := by decide +kernel
theorem dX5_shop_77 : decode cX5_shop 77 = .ok (.getfield 7, 3) := by decide +kernel
theorem dX5_shop_80 : decode cX5_shop 80 = .ok (.iconst 0, 1) := by decide +kernel
theorem dX5_shop_81 : decode cX5_shop 81 = .ok (.iconst 4, 1) := by decide +kernel
theorem dX5_shop_82 : decode cX5_shop 82 = .ok (.iload 5, 2) := by decide +kernel
theorem dX5_shop_84 : decode cX5_shop 84 = .ok (.imul, 1) := by decide +kernel
theorem dX5_shop_85 : decode cX5_shop 85 = .ok (.iadd, 1) := by decide +kernel
theorem dX5_shop_86 : decode cX5_shop 86 = .ok (.iconst 3, 1) := by decide +kernel
theorem dX5_shop_87 : decode cX5_shop 87 = .ok (.iadd, 1) := by decide +kernel
theorem dX5_shop_88 : decode cX5_shop 88 = .ok (.iload 4, 2) := by decide +kernel
theorem dX5_shop_90 : decode cX5_shop 90 = .ok (.iastore, 1) := by decide +kernel
theorem dX5_shop_91 : decode cX5_shop 91 = .ok (.aload_n 0, 1) := by decide +kernel
theorem dX5_shop_92 : decode cX5_shop 92 = .ok (.getfield 7, 3) := by decide +kernel
theorem dX5_shop_95 : decode cX5_shop 95 = .ok (.bipush 24, 2) := by decide +kernel
theorem dX5_shop_97 : decode cX5_shop 97 = .ok (.iload 5, 2) := by decide +kernel
theorem dX5_shop_99 : decode cX5_shop 99 = .ok (.iadd, 1) := by decide +kernel
theorem dX5_shop_100 : decode cX5_shop 100 = .ok (.iconst 0, 1) := by decide +kernel
theorem dX5_shop_101 : decode cX5_shop 101 = .ok (.iastore, 1) := by decide +kernel
theorem dX5_shop_102 : decode cX5_shop 102 = .ok (.aload_n 0, 1) := by decide +kernel
theorem dX5_shop_103 : decode cX5_shop 103 = .ok (.getfield 7, 3) := by decide +kernel
theorem dX5_shop_106 : decode cX5_shop 106 = .ok (.sipush 259, 3) := by decide +kernel
theorem dX5_shop_109 : decode cX5_shop 109 = .ok (.dup2, 1) := by decide +kernel
theorem dX5_shop_110 : decode cX5_shop 110 = .ok (.iaload, 1) := by decide +kernel
theorem dX5_shop_111 : decode cX5_shop 111 = .ok (.iconst 1, 1) := by decide +kernel
theorem dX5_shop_112 : decode cX5_shop 112 = .ok (.iadd, 1) := by decide +kernel
theorem dX5_shop_113 : decode cX5_shop 113 = .ok (.iastore, 1) := by decide +kernel
theorem dX5_shop_114 : decode cX5_shop 114 = .ok (.iload 5, 2) := by decide +kernel
theorem dX5_shop_116 : decode cX5_shop 116 = .ok (.ireturn, 1) := by decide +kernel
theorem dX5_areNear_0 : decode cX5_areNear 0 = .ok (.aload_n 0, 1) := by decide +kernel
theorem dX5_areNear_1 : decode cX5_areNear 1 = .ok (.getfield 7, 3) := by decide +kernel
theorem dX5_areNear_4 : decode cX5_areNear 4 = .ok (.bipush 24, 2) := by decide +kernel
theorem dX5_areNear_6 : decode cX5_areNear 6 = .ok (.iload_n 1, 1) := by decide +kernel
theorem dX5_areNear_7 : decode cX5_areNear 7 = .ok (.iadd, 1) := by decide +kernel
theorem dX5_areNear_8 : decode cX5_areNear 8 = .ok (.iaload, 1) := by decide +kernel
theorem dX5_areNear_9 : decode cX5_areNear 9 = .ok (.iload_n 2, 1) := by decide +kernel
theorem dX5_areNear_10 : decode cX5_areNear 10 = .ok (.ishr, 1) := by decide +kernel
theorem dX5_areNear_11 : decode cX5_areNear 11 = .ok (.iconst 1, 1) := by decide +kernel
theorem dX5_areNear_12 : decode cX5_areNear 12 = .ok (.iand, 1) := by decide +kernel
theorem dX5_areNear_13 : decode cX5_areNear 13 = .ok (.iconst 1, 1) := by decide +kernel
theorem dX5_areNear_14 : decode cX5_areNear 14 = .ok (.if_icmp .ne 7, 3) := by decide +kernel
theorem dX5_areNear_17 : decode cX5_areNear 17 = .ok (.iconst 1, 1) := by decide +kernel
theorem dX5_areNear_18 : decode cX5_areNear 18 = .ok (.goto 4, 3) := by decide +kernel
theorem dX5_areNear_21 : decode cX5_areNear 21 = .ok (.iconst 0, 1) := by decide +kernel
theorem dX5_areNear_22 : decode cX5_areNear 22 = .ok (.ireturn, 1) := by decide +kernel
theorem dX5_turnNear_0 : decode cX5_turnNear 0 = .ok (.aload_n 0, 1) := by decide +kernel
theorem dX5_turnNear_1 : decode cX5_turnNear 1 = .ok (.getfield 7, 3) := by decide +kernel
theorem dX5_turnNear_4 : decode cX5_turnNear 4 = .ok (.bipush 24, 2) := by decide +kernel
theorem dX5_turnNear_6 : decode cX5_turnNear 6 = .ok (.iload_n 1, 1) := by decide +kernel
theorem dX5_turnNear_7 : decode cX5_turnNear 7 = .ok (.iadd, 1) := by decide +kernel
theorem dX5_turnNear_8 : decode cX5_turnNear 8 = .ok (.dup2, 1) := by decide +kernel
theorem dX5_turnNear_9 : decode cX5_turnNear 9 = .ok (.iaload, 1) := by decide +kernel
theorem dX5_turnNear_10 : decode cX5_turnNear 10 = .ok (.iconst 1, 1) := by decide +kernel
theorem dX5_turnNear_11 : decode cX5_turnNear 11 = .ok (.iload_n 2, 1) := by decide +kernel
theorem dX5_turnNear_12 : decode cX5_turnNear 12 = .ok (.ishl, 1) := by decide +kernel
theorem dX5_turnNear_13 : decode cX5_turnNear 13 = .ok (.ixor, 1) := by decide +kernel
theorem dX5_turnNear_14 : decode cX5_turnNear 14 = .ok (.iastore, 1) := by decide +kernel
theorem dX5_turnNear_15 : decode cX5_turnNear 15 = .ok (.aload_n 0, 1) := by decide +kernel
theorem dX5_turnNear_16 : decode cX5_turnNear 16 = .ok (.getfield 7, 3) := by decide +kernel
theorem dX5_turnNear_19 : decode cX5_turnNear 19 = .ok (.bipush 24, 2) := by decide +kernel
theorem dX5_turnNear_21 : decode cX5_turnNear 21 = .ok (.iload_n 2, 1) := by decide +kernel
theorem dX5_turnNear_22 : decode cX5_turnNear 22 = .ok (.iadd, 1) := by decide +kernel
theorem dX5_turnNear_23 : decode cX5_turnNear 23 = .ok (.dup2, 1) := by decide +kernel
theorem dX5_turnNear_24 : decode cX5_turnNear 24 = .ok (.iaload, 1) := by decide +kernel
theorem dX5_turnNear_25 : decode cX5_turnNear 25 = .ok (.iconst 1, 1) := by decide +kernel
theorem dX5_turnNear_26 : decode cX5_turnNear 26 = .ok (.iload_n 1, 1) := by decide +kernel
theorem dX5_turnNear_27 : decode cX5_turnNear 27 = .ok (.ishl, 1) := by decide +kernel
theorem dX5_turnNear_28 : decode cX5_turnNear 28 = .ok (.ixor, 1) := by decide +kernel
theorem dX5_turnNear_29 : decode cX5_turnNear 29 = .ok (.iastore, 1) := by decide +kernel
theorem dX5_turnNear_30 : decode cX5_turnNear 30 = .ok (.return_, 1) := by decide +kernel
set_option maxRecDepth 20000 in
theorem ggX5_next_X5_isShop : GoodIn wsX5_next wsX5_isShop := goodIn_r _ [5, 6, 7, 8, 4, 9, 10, 11, 12, 13, 31, 32, 33, 34, 35, 36, 37, 38, 39, 40, 41, 42, 43, 44, 45, 46, 47, 48, 49, 50, 51, 52, 53, 54, 55, 56, 57, 58] (by decide +kernel) (by decide +kernel)
set_option maxRecDepth 20000 in
theorem gX5_next_X5_isShop : GoodIn wsX5_next (wsV RX5 86 RX5 yX5_isShop wsX5_isShop) := goodIn_app (goodIn_of _ (by decide +kernel)) ggX5_next_X5_isShop
set_option maxRecDepth 20000 in
theorem ggX5_next_X5_bad : GoodIn wsX5_next wsX5_bad := goodIn_r _ [17, 18, 31, 32, 33, 34, 35, 36, 37, 38, 39, 40, 41, 42, 43, 44, 45, 46, 47, 48, 49, 50, 51, 52, 53, 54, 55, 56, 57, 58] (by decide +kernel) (by decide +kernel)
set_option maxRecDepth 20000 in
theorem gX5_next_X5_bad : GoodIn wsX5_next (wsV RX5 79 RX5 yX5_bad wsX5_bad) := goodIn_app (goodIn_of _ (by decide +kernel)) ggX5_next_X5_bad
set_option maxRecDepth 20000 in
theorem ggX5_next_X5_areNear : GoodIn wsX5_next wsX5_areNear := goodIn_r _ [22, 10, 31, 32, 33, 34, 35, 36, 37, 38, 39, 40, 41, 42, 43, 44, 45, 46, 47, 48, 49, 50, 51, 52, 53, 54, 55, 56, 57, 58] (by decide +kernel) (by decide +kernel)
set_option maxRecDepth 20000 in
theorem gX5_next_X5_areNear : GoodIn wsX5_next (wsV RX5 90 RX5 yX5_areNear wsX5_areNear) := goodIn_app (goodIn_of _ (by decide +kernel)) ggX5_next_X5_areNear
set_option maxRecDepth 20000 in
theorem ggX5_next_X5_no : GoodIn wsX5_next wsX5_no := goodIn_r _ [26, 18, 31, 32, 33, 34, 35, 36, 37, 38, 39, 40, 41, 42, 43, 44, 45, 46, 47, 48, 49, 50, 51, 52, 53, 54, 55, 56, 57, 58] (by decide +kernel) (by decide +kernel)
set_option maxRecDepth 20000 in
theorem gX5_next_X5_no : GoodIn wsX5_next (wsV RX5 94 RX5 yX5_no wsX5_no) := goodIn_app (goodIn_of _ (by decide +kernel)) ggX5_next_X5_no
set_option maxRecDepth 20000 in
theorem ggX5_next_X5_turnNear : GoodIn wsX5_next wsX5_turnNear := goodIn_r _ [30, 10, 31, 32, 33, 34, 35, 36, 37, 38, 39, 40, 41, 42, 43, 44, 45, 46, 47, 48, 49, 50, 51, 52, 53, 54, 55, 56, 57, 58] (by decide +kernel) (by decide +kernel)
set_option maxRecDepth 20000 in
theorem gX5_next_X5_turnNear : GoodIn wsX5_next (wsV RX5 97 RX5 yX5_turnNear wsX5_turnNear) := goodIn_app (goodIn_of _ (by decide +kernel)) ggX5_next_X5_turnNear
theorem dX5_next_0 : decode cX5_next 0 = .ok (.aload_n 0, 1) := by decide +kernel
theorem dX5_next_1 : decode cX5_next 1 = .ok (.iload_n 1, 1) := by decide +kernel
theorem dX5_next_2 : decode cX5_next 2 = .ok (.invokevirtual 86, 3) := by decide +kernel
theorem dX5_next_5 : decode cX5_next 5 = .ok (.ifCond .eq 16, 3) := by decide +kernel
theorem dX5_next_8 : decode cX5_next 8 = .ok (.aload_n 0, 1) := by decide +kernel
theorem dX5_next_9 : decode cX5_next 9 = .ok (.iload_n 2, 1) := by decide +kernel
theorem dX5_next_10 : decode cX5_next 10 = .ok (.invokevirtual 86, 3) := by decide +kernel
theorem dX5_next_13 : decode cX5_next 13 = .ok (.ifCond .eq 8, 3) := by decide +kernel
theorem dX5_next_16 : decode cX5_next 16 = .ok (.iload_n 1, 1) := by decide +kernel
theorem dX5_next_17 : decode cX5_next 17 = .ok (.iload_n 2, 1) := by decide +kernel
theorem dX5_next_18 : decode cX5_next 18 = .ok (.if_icmp .ne 10, 3) := by decide +kernel
theorem dX5_next_21 : decode cX5_next 21 = .ok (.aload_n 0, 1) := by decide +kernel
theorem dX5_next_22 : decode cX5_next 22 = .ok (.bipush (-2), 2) := by decide +kernel
theorem dX5_next_24 : decode cX5_next 24 = .ok (.invokevirtual 79, 3) := by decide +kernel
theorem dX5_next_27 : decode cX5_next 27 = .ok (.ireturn, 1) := by decide +kernel
theorem dX5_next_28 : decode cX5_next 28 = .ok (.aload_n 0, 1) := by decide +kernel
theorem dX5_next_29 : decode cX5_next 29 = .ok (.iload_n 1, 1) := by decide +kernel
theorem dX5_next_30 : decode cX5_next 30 = .ok (.iload_n 2, 1) := by decide +kernel
theorem dX5_next_31 : decode cX5_next 31 = .ok (.invokevirtual 90, 3) := by decide +kernel
theorem dX5_next_34 : decode cX5_next 34 = .ok (.iload_n 3, 1) := by decide +kernel
theorem dX5_next_35 : decode cX5_next 35 = .ok (.if_icmp .ne 10, 3) := by decide +kernel
theorem dX5_next_38 : decode cX5_next 38 = .ok (.aload_n 0, 1) := by decide +kernel
theorem dX5_next_39 : decode cX5_next 39 = .ok (.bipush (-3), 2) := by decide +kernel
theorem dX5_next_41 : decode cX5_next 41 = .ok (.invokevirtual 94, 3) := by decide +kernel
theorem dX5_next_44 : decode cX5_next 44 = .ok (.ireturn, 1) := by decide +kernel
theorem dX5_next_45 : decode cX5_next 45 = .ok (.aload_n 0, 1) := by decide +kernel
theorem dX5_next_46 : decode cX5_next 46 = .ok (.iload_n 1, 1) := by decide +kernel
theorem dX5_next_47 : decode cX5_next 47 = .ok (.iload_n 2, 1) := by decide +kernel
theorem dX5_next_48 : decode cX5_next 48 = .ok (.invokevirtual 97, 3) := by decide +kernel
theorem dX5_next_51 : decode cX5_next 51 = .ok (.iconst 1, 1) := by decide +kernel
theorem dX5_next_52 : decode cX5_next 52 = .ok (.ireturn, 1) := by decide +kernel
theorem dX5_isFree_0 : decode cX5_isFree 0 = .ok (.aload_n 0, 1) := by decide +kernel
theorem dX5_isFree_1 : decode cX5_isFree 1 = .ok (.getfield 7, 3) := by decide +kernel
theorem dX5_isFree_4 : decode cX5_isFree 4 = .ok (.bipush 30, 2) := by decide +kernel
theorem dX5_isFree_6 : decode cX5_isFree 6 = .ok (.iaload, 1) := by decide +kernel
theorem dX5_isFree_7 : decode cX5_isFree 7 = .ok (.iload_n 1, 1) := by decide +kernel
theorem dX5_isFree_8 : decode cX5_isFree 8 = .ok (.ishr, 1) := by decide +kernel
theorem dX5_isFree_9 : decode cX5_isFree 9 = .ok (.iconst 1, 1) := by decide +kernel
theorem dX5_isFree_10 : decode cX5_isFree 10 = .ok (.iand, 1) := by decide +kernel
theorem dX5_isFree_11 : decode cX5_isFree 11 = .ok (.iconst 1, 1) := by decide +kernel
theorem dX5_isFree_12 : decode cX5_isFree 12 = .ok (.if_icmp .ne 7, 3) := by decide +kernel
theorem dX5_isFree_15 : decode cX5_isFree 15 = .ok (.iconst 1, 1) := by decide +kernel
theorem dX5_isFree_16 : decode cX5_isFree 16 = .ok (.goto 4, 3) := by decide +kernel
theorem dX5_isFree_19 : decode cX5_isFree 19 = .ok (.iconst 0, 1) := by decide +kernel
theorem dX5_isFree_20 : decode cX5_isFree 20 = .ok (.ireturn, 1) := by decide +kernel
set_option maxRecDepth 20000 in
theorem ggX5_free_X5_isShop : GoodIn wsX5_free wsX5_isShop := goodIn_r _ [6, 7, 8, 9, 5, 10, 1, 11, 12, 13, 27, 28, 29, 30, 31, 32, 33, 34, 35, 36, 37, 38, 39, 40, 41, 42, 43, 44, 45, 46, 47, 48, 49, 50, 51, 52, 53, 54] (by decide +kernel) (by decide +kernel)
set_option maxRecDepth 20000 in
theorem gX5_free_X5_isShop : GoodIn wsX5_free (wsV RX5 86 RX5 yX5_isShop wsX5_isShop) := goodIn_app (goodIn_of _ (by decide +kernel)) ggX5_free_X5_isShop
set_option maxRecDepth 20000 in
theorem ggX5_free_X5_bad : GoodIn wsX5_free wsX5_bad := goodIn_r _ [17, 18, 27, 28, 29, 30, 31, 32, 33, 34, 35, 36, 37, 38, 39, 40, 41, 42, 43, 44, 45, 46, 47, 48, 49, 50, 51, 52, 53, 54] (by decide +kernel) (by decide +kernel)
set_option maxRecDepth 20000 in
theorem gX5_free_X5_bad : GoodIn wsX5_free (wsV RX5 79 RX5 yX5_bad wsX5_bad) := goodIn_app (goodIn_of _ (by decide +kernel)) ggX5_free_X5_bad
set_option maxRecDepth 20000 in
theorem ggX5_free_X5_isFree : GoodIn wsX5_free wsX5_isFree := goodIn_r _ [22, 1, 27, 28, 29, 30, 31, 32, 33, 34, 35, 36, 37, 38, 39, 40, 41, 42, 43, 44, 45, 46, 47, 48, 49, 50, 51, 52, 53, 54] (by decide +kernel) (by decide +kernel)
set_option maxRecDepth 20000 in
theorem gX5_free_X5_isFree : GoodIn wsX5_free (wsV RX5 101 RX5 yX5_isFree wsX5_isFree) := goodIn_app (goodIn_of _ (by decide +kernel)) ggX5_free_X5_isFree
set_option maxRecDepth 20000 in
theorem ggX5_free_X5_no : GoodIn wsX5_free wsX5_no := goodIn_r _ [26, 18, 27, 28, 29, 30, 31, 32, 33, 34, 35, 36, 37, 38, 39, 40, 41, 42, 43, 44, 45, 46, 47, 48, 49, 50, 51, 52, 53, 54] (by decide +kernel) (by decide +kernel)
set_option maxRecDepth 20000 in
theorem gX5_free_X5_no : GoodIn wsX5_free (wsV RX5 94 RX5 yX5_no wsX5_no) := goodIn_app (goodIn_of _ (by decide +kernel)) ggX5_free_X5_no
theorem dX5_free_0 : decode cX5_free 0 = .ok (.aload_n 0, 1) := by decide +kernel
theorem dX5_free_1 : decode cX5_free 1 = .ok (.iload_n 1, 1) := by decide +kernel
theorem dX5_free_2 : decode cX5_free 2 = .ok (.invokevirtual 86, 3) := by decide +kernel
theorem dX5_free_5 : decode cX5_free 5 = .ok (.ifCond .ne 10, 3) := by decide +kernel
theorem dX5_free_8 : decode cX5_free 8 = .ok (.aload_n 0, 1) := by decide +kernel
theorem dX5_free_9 : decode cX5_free 9 = .ok (.bipush (-2), 2) := by decide +kernel
theorem dX5_free_11 : decode cX5_free 11 = .ok (.invokevirtual 79, 3) := by decide +kernel
theorem dX5_free_14 : decode cX5_free 14 = .ok (.ireturn, 1) := by decide +kernel
theorem dX5_free_15 : decode cX5_free 15 = .ok (.aload_n 0, 1) := by decide +kernel
theorem dX5_free_16 : decode cX5_free 16 = .ok (.iload_n 1, 1) := by decide +kernel
theorem dX5_free_17 : decode cX5_free 17 = .ok (.invokevirtual 101, 3) := by decide +kernel
theorem dX5_free_20 : decode cX5_free 20 = .ok (.iload_n 2, 1) := by decide +kernel
theorem dX5_free_21 : decode cX5_free 21 = .ok (.if_icmp .ne 10, 3) := by decide +kernel
theorem dX5_free_24 : decode cX5_free 24 = .ok (.aload_n 0, 1) := by decide +kernel
theorem dX5_free_25 : decode cX5_free 25 = .ok (.bipush (-3), 2) := by decide +kernel
theorem dX5_free_27 : decode cX5_free 27 = .ok (.invokevirtual 94, 3) := by decide +kernel
theorem dX5_free_30 : decode cX5_free 30 = .ok (.ireturn, 1) := by decide +kernel
theorem dX5_free_31 : decode cX5_free 31 = .ok (.aload_n 0, 1) := by decide +kernel
theorem dX5_free_32 : decode cX5_free 32 = .ok (.getfield 7, 3) := by decide +kernel
theorem dX5_free_35 : decode cX5_free 35 = .ok (.bipush 30, 2) := by decide +kernel
theorem dX5_free_37 : decode cX5_free 37 = .ok (.dup2, 1) := by decide +kernel
theorem dX5_free_38 : decode cX5_free 38 = .ok (.iaload, 1) := by decide +kernel
theorem dX5_free_39 : decode cX5_free 39 = .ok (.iconst 1, 1) := by decide +kernel
theorem dX5_free_40 : decode cX5_free 40 = .ok (.iload_n 1, 1) := by decide +kernel
theorem dX5_free_41 : decode cX5_free 41 = .ok (.ishl, 1) := by decide +kernel
theorem dX5_free_42 : decode cX5_free 42 = .ok (.ixor, 1) := by decide +kernel
theorem dX5_free_43 : decode cX5_free 43 = .ok (.iastore, 1) := by decide +kernel
theorem dX5_free_44 : decode cX5_free 44 = .ok (.iconst 1, 1) := by decide +kernel
theorem dX5_free_45 : decode cX5_free 45 = .ok (.ireturn, 1) := by decide +kernel
set_option maxRecDepth 20000 in
theorem ggX5_put_X5_in : GoodIn wsX5_put wsX5_in := goodIn_r _ [7] (by decide +kernel) (by decide +kernel)
set_option maxRecDepth 20000 in
theorem gX5_put_X5_in : GoodIn wsX5_put (va_wsS RX5 63 yX5_in wsX5_in) := goodIn_app (goodIn_of _ (by decide +kernel)) ggX5_put_X5_in
set_option maxRecDepth 20000 in
theorem ggX5_put_X5_bad : GoodIn wsX5_put wsX5_bad := goodIn_r _ [11, 12, 13, 14, 15, 16, 17, 18, 19, 20, 21, 22, 23, 24, 25, 26, 27, 28, 29, 30, 31, 32, 33, 34, 35, 36, 37, 38, 39, 40] (by decide +kernel) (by decide +kernel)
set_option maxRecDepth 20000 in
theorem gX5_put_X5_bad : GoodIn wsX5_put (wsV RX5 79 RX5 yX5_bad wsX5_bad) := goodIn_app (goodIn_of _ (by decide +kernel)) ggX5_put_X5_bad
theorem dX5_put_0 : decode cX5_put 0 = .ok (.iload_n 1, 1) := by decide +kernel
theorem dX5_put_1 : decode cX5_put 1 = .ok (.i2l, 1) := by decide +kernel
theorem dX5_put_2 : decode cX5_put 2 = .ok (.lconst 0, 1) := by decide +kernel
theorem dX5_put_3 : decode cX5_put 3 = .ok (.lconst 1, 1) := by decide +kernel
theorem dX5_put_4 : decode cX5_put 4 = .ok (.invokestatic 63, 3) := by decide +kernel
theorem dX5_put_7 : decode cX5_put 7 = .ok (.ifCond .eq 26, 3) := by decide +kernel
theorem dX5_put_10 : decode cX5_put 10 = .ok (.iload_n 2, 1) := by decide +kernel
theorem dX5_put_11 : decode cX5_put 11 = .ok (.i2l, 1) := by decide +kernel
theorem dX5_put_12 : decode cX5_put 12 = .ok (.iload_n 1, 1) := by decide +kernel
theorem dX5_put_13 : decode cX5_put 13 = .ok (.i2l, 1) := by decide +kernel
theorem dX5_put_14 : decode cX5_put 14 = .ok (.iload_n 1, 1) := by decide +kernel
theorem dX5_put_15 : decode cX5_put 15 = .ok (.ifCond .ne 9, 3) := by decide +kernel
theorem dX5_put_18 : decode cX5_put 18 = .ok (.ldc2_w 104, 3) := by decide +kernel
theorem dX5_put_21 : decode cX5_put 21 = .ok (.goto 6, 3) := by decide +kernel
theorem dX5_put_24 : decode cX5_put 24 = .ok (.ldc2_w 106, 3) := by decide +kernel
theorem dX5_put_27 : decode cX5_put 27 = .ok (.invokestatic 63, 3) := by decide +kernel
theorem dX5_put_30 : decode cX5_put 30 = .ok (.ifCond .ne 10, 3) := by decide +kernel
theorem dX5_put_33 : decode cX5_put 33 = .ok (.aload_n 0, 1) := by decide +kernel
theorem dX5_put_34 : decode cX5_put 34 = .ok (.bipush (-2), 2) := by decide +kernel
theorem dX5_put_36 : decode cX5_put 36 = .ok (.invokevirtual 79, 3) := by decide +kernel
theorem dX5_put_39 : decode cX5_put 39 = .ok (.ireturn, 1) := by decide +kernel
theorem dX5_put_40 : decode cX5_put 40 = .ok (.aload_n 0, 1) := by decide +kernel
theorem dX5_put_41 : decode cX5_put 41 = .ok (.getfield 7, 3) := by decide +kernel
theorem dX5_put_44 : decode cX5_put 44 = .ok (.bipush 31, 2) := by decide +kernel
theorem dX5_put_46 : decode cX5_put 46 = .ok (.iload_n 1, 1) := by decide +kernel
theorem dX5_put_47 : decode cX5_put 47 = .ok (.iadd, 1) := by decide +kernel
theorem dX5_put_48 : decode cX5_put 48 = .ok (.iaload, 1) := by decide +kernel
theorem dX5_put_49 : decode cX5_put 49 = .ok (.istore_n 3, 1) := by decide +kernel
theorem dX5_put_50 : decode cX5_put 50 = .ok (.aload_n 0, 1) := by decide +kernel
theorem dX5_put_51 : decode cX5_put 51 = .ok (.getfield 7, 3) := by decide +kernel
theorem dX5_put_54 : decode cX5_put 54 = .ok (.bipush 31, 2) := by decide +kernel
theorem dX5_put_56 : decode cX5_put 56 = .ok (.iload_n 1, 1) := by decide +kernel
theorem dX5_put_57 : decode cX5_put 57 = .ok (.iadd, 1) := by decide +kernel
theorem dX5_put_58 : decode cX5_put 58 = .ok (.iload_n 2, 1) := by decide +kernel
theorem dX5_put_59 : decode cX5_put 59 = .ok (.iastore, 1) := by decide +kernel
theorem dX5_put_60 : decode cX5_put 60 = .ok (.iload_n 3, 1) := by decide +kernel
theorem dX5_put_61 : decode cX5_put 61 = .ok (.ireturn, 1) := by decide +kernel
set_option maxRecDepth 20000 in
theorem ggX5_price_X5_isShop : GoodIn wsX5_price wsX5_isShop := goodIn_r _ [7, 8, 9, 10, 6, 11, 2, 12, 13, 14, 24, 25, 26, 27, 28, 29, 30, 31, 32, 33, 34, 35, 36, 37, 38, 39, 40, 41, 42, 43, 44, 45, 46, 47, 48, 49, 50, 51] (by decide +kernel) (by decide +kernel)
set_option maxRecDepth 20000 in
theorem gX5_price_X5_isShop : GoodIn wsX5_price (wsV RX5 86 RX5 yX5_isShop wsX5_isShop) := goodIn_app (goodIn_of _ (by decide +kernel)) ggX5_price_X5_isShop
set_option maxRecDepth 20000 in
theorem ggX5_price_X5_in : GoodIn wsX5_price wsX5_in := goodIn_r _ [14] (by decide +kernel) (by decide +kernel)
set_option maxRecDepth 20000 in
theorem gX5_price_X5_in : GoodIn wsX5_price (va_wsS RX5 63 yX5_in wsX5_in) := goodIn_app (goodIn_of _ (by decide +kernel)) ggX5_price_X5_in
set_option maxRecDepth 20000 in
theorem ggX5_price_X5_bad : GoodIn wsX5_price wsX5_bad := goodIn_r _ [18, 19, 24, 25, 26, 27, 28, 29, 30, 31, 32, 33, 34, 35, 36, 37, 38, 39, 40, 41, 42, 43, 44, 45, 46, 47, 48, 49, 50, 51] (by decide +kernel) (by decide +kernel)
set_option maxRecDepth 20000 in
theorem gX5_price_X5_bad : GoodIn wsX5_price (wsV RX5 79 RX5 yX5_bad wsX5_bad) := goodIn_app (goodIn_of _ (by decide +kernel)) ggX5_price_X5_bad
set_option maxRecDepth 20000 in
theorem ggX5_price_X5_of : GoodIn wsX5_price wsX5_of := goodIn_r _ [23, 2, 24, 25, 26, 27, 28, 29, 30, 31, 32, 33, 34, 35, 36, 37, 38, 39, 40, 41, 42, 43, 44, 45, 46, 47, 48, 49, 50, 51] (by decide +kernel) (by decide +kernel)
set_option maxRecDepth 20000 in
theorem gX5_price_X5_of : GoodIn wsX5_price (wsV RX5 108 RX5 yX5_of wsX5_of) := goodIn_app (goodIn_of _ (by decide +kernel)) ggX5_price_X5_of
theorem dX5_price_0 : decode cX5_price 0 = .ok (.aload_n 0, 1) := by decide +kernel
theorem dX5_price_1 : decode cX5_price 1 = .ok (.iload_n 1, 1) := by decide +kernel
theorem dX5_price_2 : decode cX5_price 2 = .ok (.invokevirtual 86, 3) := by decide +kernel
theorem dX5_price_5 : decode cX5_price 5 = .ok (.ifCond .eq 15, 3) := by decide +kernel
theorem dX5_price_8 : decode cX5_price 8 = .ok (.iload_n 2, 1) := by decide +kernel
theorem dX5_price_9 : decode cX5_price 9 = .ok (.i2l, 1) := by decide +kernel
theorem dX5_price_10 : decode cX5_price 10 = .ok (.lconst 0, 1) := by decide +kernel
theorem dX5_price_11 : decode cX5_price 11 = .ok (.ldc2_w 69, 3) := by decide +kernel
theorem dX5_price_14 : decode cX5_price 14 = .ok (.invokestatic 63, 3) := by decide +kernel
theorem dX5_price_17 : decode cX5_price 17 = .ok (.ifCond .ne 10, 3) := by decide +kernel
theorem dX5_price_20 : decode cX5_price 20 = .ok (.aload_n 0, 1) := by decide +kernel
theorem dX5_price_21 : decode cX5_price 21 = .ok (.bipush (-2), 2) := by decide +kernel
theorem dX5_price_23 : decode cX5_price 23 = .ok (.invokevirtual 79, 3) := by decide +kernel
theorem dX5_price_26 : decode cX5_price 26 = .ok (.ireturn, 1) := by decide +kernel
theorem dX5_price_27 : decode cX5_price 27 = .ok (.aload_n 0, 1) := by decide +kernel
theorem dX5_price_28 : decode cX5_price 28 = .ok (.iload_n 1, 1) := by decide +kernel
theorem dX5_price_29 : decode cX5_price 29 = .ok (.iconst 1, 1) := by decide +kernel
theorem dX5_price_30 : decode cX5_price 30 = .ok (.invokevirtual 108, 3) := by decide +kernel
theorem dX5_price_33 : decode cX5_price 33 = .ok (.istore_n 3, 1) := by decide +kernel
theorem dX5_price_34 : decode cX5_price 34 = .ok (.aload_n 0, 1) := by decide +kernel
theorem dX5_price_35 : decode cX5_price 35 = .ok (.getfield 7, 3) := by decide +kernel
theorem dX5_price_38 : decode cX5_price 38 = .ok (.iconst 0, 1) := by decide +kernel
theorem dX5_price_39 : decode cX5_price 39 = .ok (.iconst 4, 1) := by decide +kernel
theorem dX5_price_40 : decode cX5_price 40 = .ok (.iload_n 1, 1) := by decide +kernel
theorem dX5_price_41 : decode cX5_price 41 = .ok (.imul, 1) := by decide +kernel
theorem dX5_price_42 : decode cX5_price 42 = .ok (.iadd, 1) := by decide +kernel
theorem dX5_price_43 : decode cX5_price 43 = .ok (.iconst 1, 1) := by decide +kernel
theorem dX5_price_44 : decode cX5_price 44 = .ok (.iadd, 1) := by decide +kernel
theorem dX5_price_45 : decode cX5_price 45 = .ok (.iload_n 2, 1) := by decide +kernel
theorem dX5_price_46 : decode cX5_price 46 = .ok (.iastore, 1) := by decide +kernel
theorem dX5_price_47 : decode cX5_price 47 = .ok (.iload_n 3, 1) := by decide +kernel
theorem dX5_price_48 : decode cX5_price 48 = .ok (.ireturn, 1) := by decide +kernel
theorem dX5_manyIn_0 : decode cX5_manyIn 0 = .ok (.iconst 0, 1) := by decide +kernel
theorem dX5_manyIn_1 : decode cX5_manyIn 1 = .ok (.istore_n 1, 1) := by decide +kernel
theorem dX5_manyIn_2 : decode cX5_manyIn 2 = .ok (.iconst 0, 1) := by decide +kernel
theorem dX5_manyIn_3 : decode cX5_manyIn 3 = .ok (.istore_n 2, 1) := by decide +kernel
theorem dX5_manyIn_4 : decode cX5_manyIn 4 = .ok (.iload_n 2, 1) := by decide +kernel
theorem dX5_manyIn_5 : decode cX5_manyIn 5 = .ok (.bipush 6, 2) := by decide +kernel
theorem dX5_manyIn_7 : decode cX5_manyIn 7 = .ok (.if_icmp .ge 17, 3) := by decide +kernel
theorem dX5_manyIn_10 : decode cX5_manyIn 10 = .ok (.iload_n 1, 1) := by decide +kernel
theorem dX5_manyIn_11 : decode cX5_manyIn 11 = .ok (.iload_n 0, 1) := by decide +kernel
theorem dX5_manyIn_12 : decode cX5_manyIn 12 = .ok (.iload_n 2, 1) := by decide +kernel
theorem dX5_manyIn_13 : decode cX5_manyIn 13 = .ok (.ishr, 1) := by decide +kernel
theorem dX5_manyIn_14 : decode cX5_manyIn 14 = .ok (.iconst 1, 1) := by decide +kernel
theorem dX5_manyIn_15 : decode cX5_manyIn 15 = .ok (.iand, 1) := by decide +kernel
theorem dX5_manyIn_16 : decode cX5_manyIn 16 = .ok (.iadd, 1) := by decide +kernel
theorem dX5_manyIn_17 : decode cX5_manyIn 17 = .ok (.istore_n 1, 1) := by decide +kernel
theorem dX5_manyIn_18 : decode cX5_manyIn 18 = .ok (.iinc 2 1, 3) := by decide +kernel
theorem dX5_manyIn_21 : decode cX5_manyIn 21 = .ok (.goto (-17), 3) := by decide +kernel
theorem dX5_manyIn_24 : decode cX5_manyIn 24 = .ok (.iload_n 1, 1) := by decide +kernel
theorem dX5_manyIn_25 : decode cX5_manyIn 25 = .ok (.ireturn, 1) := by decide +kernel
set_option maxRecDepth 20000 in
theorem ggX5_goodBack_X5_shops : GoodIn wsX5_goodBack wsX5_shops := goodIn_r _ [5, 6, 7, 8, 9, 10, 11, 12, 13, 14, 15, 16, 17, 18, 19, 20, 21, 22, 23, 24, 25, 26, 27, 28, 29, 30, 31, 32, 33, 34] (by decide +kernel) (by decide +kernel)
set_option maxRecDepth 20000 in
theorem gX5_goodBack_X5_shops : GoodIn wsX5_goodBack (wsV RX5 59 RX5 yX5_shops wsX5_shops) := goodIn_app (goodIn_of _ (by decide +kernel)) ggX5_goodBack_X5_shops
theorem dX5_goodBack_0 : decode cX5_goodBack 0 = .ok (.iload_n 1, 1) := by decide +kernel
theorem dX5_goodBack_1 : decode cX5_goodBack 1 = .ok (.ifCond .ne 12, 3) := by decide +kernel
theorem dX5_goodBack_4 : decode cX5_goodBack 4 = .ok (.aload_n 0, 1) := by decide +kernel
theorem dX5_goodBack_5 : decode cX5_goodBack 5 = .ok (.invokevirtual 59, 3) := by decide +kernel
theorem dX5_goodBack_8 : decode cX5_goodBack 8 = .ok (.iconst 1, 1) := by decide +kernel
theorem dX5_goodBack_9 : decode cX5_goodBack 9 = .ok (.isub, 1) := by decide +kernel
theorem dX5_goodBack_10 : decode cX5_goodBack 10 = .ok (.goto 6, 3) := by decide +kernel
theorem dX5_goodBack_13 : decode cX5_goodBack 13 = .ok (.iload_n 1, 1) := by decide +kernel
theorem dX5_goodBack_14 : decode cX5_goodBack 14 = .ok (.iconst 1, 1) := by decide +kernel
theorem dX5_goodBack_15 : decode cX5_goodBack 15 = .ok (.isub, 1) := by decide +kernel
theorem dX5_goodBack_16 : decode cX5_goodBack 16 = .ok (.ireturn, 1) := by decide +kernel
set_option maxRecDepth 20000 in
theorem ggX5_takesBack_X5_of : GoodIn wsX5_takesBack wsX5_of := goodIn_r _ [5, 6, 15, 16, 17, 18, 19, 20, 21, 22, 23, 24, 25, 26, 27, 28, 29, 30, 31, 32, 33, 34, 35, 36, 37, 38, 39, 40, 41, 42] (by decide +kernel) (by decide +kernel)
set_option maxRecDepth 20000 in
theorem gX5_takesBack_X5_of : GoodIn wsX5_takesBack (wsV RX5 108 RX5 yX5_of wsX5_of) := goodIn_app (goodIn_of _ (by decide +kernel)) ggX5_takesBack_X5_of
set_option maxRecDepth 20000 in
theorem ggX5_takesBack_X5_goodBack : GoodIn wsX5_takesBack wsX5_goodBack := goodIn_r _ [10, 11, 12, 13, 4, 14, 6, 15, 16, 17, 18, 19, 20, 21, 22, 23, 24, 25, 26, 27, 28, 29, 30, 31, 32, 33, 34, 35, 36, 37, 38, 39, 40, 41, 42] (by decide +kernel) (by decide +kernel)
set_option maxRecDepth 20000 in
theorem gX5_takesBack_X5_goodBack : GoodIn wsX5_takesBack (wsV RX5 112 RX5 yX5_goodBack wsX5_goodBack) := goodIn_app (goodIn_of _ (by decide +kernel)) ggX5_takesBack_X5_goodBack
theorem dX5_takesBack_0 : decode cX5_takesBack 0 = .ok (.aload_n 0, 1) := by decide +kernel
theorem dX5_takesBack_1 : decode cX5_takesBack 1 = .ok (.iload_n 1, 1) := by decide +kernel
theorem dX5_takesBack_2 : decode cX5_takesBack 2 = .ok (.iconst 0, 1) := by decide +kernel
theorem dX5_takesBack_3 : decode cX5_takesBack 3 = .ok (.invokevirtual 108, 3) := by decide +kernel
theorem dX5_takesBack_6 : decode cX5_takesBack 6 = .ok (.istore_n 3, 1) := by decide +kernel
theorem dX5_takesBack_7 : decode cX5_takesBack 7 = .ok (.iload_n 3, 1) := by decide +kernel
theorem dX5_takesBack_8 : decode cX5_takesBack 8 = .ok (.iconst 2, 1) := by decide +kernel
theorem dX5_takesBack_9 : decode cX5_takesBack 9 = .ok (.if_icmp .eq 8, 3) := by decide +kernel
theorem dX5_takesBack_12 : decode cX5_takesBack 12 = .ok (.iload_n 3, 1) := by decide +kernel
theorem dX5_takesBack_13 : decode cX5_takesBack 13 = .ok (.iconst 4, 1) := by decide +kernel
theorem dX5_takesBack_14 : decode cX5_takesBack 14 = .ok (.if_icmp .ne 20, 3) := by decide +kernel
theorem dX5_takesBack_17 : decode cX5_takesBack 17 = .ok (.iload_n 2, 1) := by decide +kernel
theorem dX5_takesBack_18 : decode cX5_takesBack 18 = .ok (.aload_n 0, 1) := by decide +kernel
theorem dX5_takesBack_19 : decode cX5_takesBack 19 = .ok (.iload_n 1, 1) := by decide +kernel
theorem dX5_takesBack_20 : decode cX5_takesBack 20 = .ok (.invokevirtual 112, 3) := by decide +kernel
theorem dX5_takesBack_23 : decode cX5_takesBack 23 = .ok (.ishr, 1) := by decide +kernel
theorem dX5_takesBack_24 : decode cX5_takesBack 24 = .ok (.iconst 1, 1) := by decide +kernel
theorem dX5_takesBack_25 : decode cX5_takesBack 25 = .ok (.iand, 1) := by decide +kernel
theorem dX5_takesBack_26 : decode cX5_takesBack 26 = .ok (.iconst 1, 1) := by decide +kernel
theorem dX5_takesBack_27 : decode cX5_takesBack 27 = .ok (.if_icmp .ne 7, 3) := by decide +kernel
theorem dX5_takesBack_30 : decode cX5_takesBack 30 = .ok (.iconst 1, 1) := by decide +kernel
theorem dX5_takesBack_31 : decode cX5_takesBack 31 = .ok (.goto 4, 3) := by decide +kernel
theorem dX5_takesBack_34 : decode cX5_takesBack 34 = .ok (.iconst 0, 1) := by decide +kernel
theorem dX5_takesBack_35 : decode cX5_takesBack 35 = .ok (.ireturn, 1) := by decide +kernel
set_option maxRecDepth 20000 in
theorem ggX5_priceOf_X5_of : GoodIn wsX5_priceOf wsX5_of := goodIn_r _ [5, 6, 22, 23, 24, 25, 26, 27, 28, 29, 30, 31, 32, 33, 34, 35, 36, 37, 38, 39, 40, 41, 42, 43, 44, 45, 46, 47, 48, 49] (by decide +kernel) (by decide +kernel)
set_option maxRecDepth 20000 in
theorem gX5_priceOf_X5_of : GoodIn wsX5_priceOf (wsV RX5 108 RX5 yX5_of wsX5_of) := goodIn_app (goodIn_of _ (by decide +kernel)) ggX5_priceOf_X5_of
set_option maxRecDepth 20000 in
theorem ggX5_priceOf_X5_manyIn : GoodIn wsX5_priceOf wsX5_manyIn := goodIn_r _ [9] (by decide +kernel) (by decide +kernel)
set_option maxRecDepth 20000 in
theorem gX5_priceOf_X5_manyIn : GoodIn wsX5_priceOf (va_wsS RX5 115 yX5_manyIn wsX5_manyIn) := goodIn_app (goodIn_of _ (by decide +kernel)) ggX5_priceOf_X5_manyIn
set_option maxRecDepth 20000 in
theorem ggX5_priceOf_X5_takesBack : GoodIn wsX5_priceOf wsX5_takesBack := goodIn_r _ [13, 1, 2, 3, 4, 5, 6, 14, 15, 16, 17, 18, 19, 20, 21, 22, 23, 24, 25, 26, 27, 28, 29, 30, 31, 32, 33, 34, 35, 36, 37, 38, 39, 40, 41, 42, 43, 44, 45, 46, 47, 48, 49] (by decide +kernel) (by decide +kernel)
set_option maxRecDepth 20000 in
theorem gX5_priceOf_X5_takesBack : GoodIn wsX5_priceOf (wsV RX5 118 RX5 yX5_takesBack wsX5_takesBack) := goodIn_app (goodIn_of _ (by decide +kernel)) ggX5_priceOf_X5_takesBack
set_option maxRecDepth 20000 in
theorem ggX5_priceOf_X5_goodBack : GoodIn wsX5_priceOf wsX5_goodBack := goodIn_r _ [17, 18, 19, 20, 4, 21, 6, 22, 23, 24, 25, 26, 27, 28, 29, 30, 31, 32, 33, 34, 35, 36, 37, 38, 39, 40, 41, 42, 43, 44, 45, 46, 47, 48, 49] (by decide +kernel) (by decide +kernel)
set_option maxRecDepth 20000 in
theorem gX5_priceOf_X5_goodBack : GoodIn wsX5_priceOf (wsV RX5 112 RX5 yX5_goodBack wsX5_goodBack) := goodIn_app (goodIn_of _ (by decide +kernel)) ggX5_priceOf_X5_goodBack
theorem dX5_priceOf_0 : decode cX5_priceOf 0 = .ok (.aload_n 0, 1) := by decide +kernel
theorem dX5_priceOf_1 : decode cX5_priceOf 1 = .ok (.iload_n 1, 1) := by decide +kernel
theorem dX5_priceOf_2 : decode cX5_priceOf 2 = .ok (.iconst 0, 1) := by decide +kernel
theorem dX5_priceOf_3 : decode cX5_priceOf 3 = .ok (.invokevirtual 108, 3) := by decide +kernel
theorem dX5_priceOf_6 : decode cX5_priceOf 6 = .ok (.istore_n 3, 1) := by decide +kernel
theorem dX5_priceOf_7 : decode cX5_priceOf 7 = .ok (.aload_n 0, 1) := by decide +kernel
theorem dX5_priceOf_8 : decode cX5_priceOf 8 = .ok (.iload_n 1, 1) := by decide +kernel
theorem dX5_priceOf_9 : decode cX5_priceOf 9 = .ok (.iconst 1, 1) := by decide +kernel
theorem dX5_priceOf_10 : decode cX5_priceOf 10 = .ok (.invokevirtual 108, 3) := by decide +kernel
theorem dX5_priceOf_13 : decode cX5_priceOf 13 = .ok (.istore 4, 2) := by decide +kernel
theorem dX5_priceOf_15 : decode cX5_priceOf 15 = .ok (.iload_n 3, 1) := by decide +kernel
theorem dX5_priceOf_16 : decode cX5_priceOf 16 = .ok (.iconst 4, 1) := by decide +kernel
theorem dX5_priceOf_17 : decode cX5_priceOf 17 = .ok (.if_icmp .ne 9, 3) := by decide +kernel
theorem dX5_priceOf_20 : decode cX5_priceOf 20 = .ok (.iload_n 2, 1) := by decide +kernel
theorem dX5_priceOf_21 : decode cX5_priceOf 21 = .ok (.ifCond .ne 5, 3) := by decide +kernel
theorem dX5_priceOf_24 : decode cX5_priceOf 24 = .ok (.iconst 0, 1) := by decide +kernel
theorem dX5_priceOf_25 : decode cX5_priceOf 25 = .ok (.ireturn, 1) := by decide +kernel
theorem dX5_priceOf_26 : decode cX5_priceOf 26 = .ok (.iload_n 3, 1) := by decide +kernel
theorem dX5_priceOf_27 : decode cX5_priceOf 27 = .ok (.iconst 1, 1) := by decide +kernel
theorem dX5_priceOf_28 : decode cX5_priceOf 28 = .ok (.if_icmp .eq 13, 3) := by decide +kernel
theorem dX5_priceOf_31 : decode cX5_priceOf 31 = .ok (.iload_n 3, 1) := by decide +kernel
theorem dX5_priceOf_32 : decode cX5_priceOf 32 = .ok (.iconst 3, 1) := by decide +kernel
theorem dX5_priceOf_33 : decode cX5_priceOf 33 = .ok (.if_icmp .eq 8, 3) := by decide +kernel
theorem dX5_priceOf_36 : decode cX5_priceOf 36 = .ok (.iload_n 3, 1) := by decide +kernel
theorem dX5_priceOf_37 : decode cX5_priceOf 37 = .ok (.iconst 5, 1) := by decide +kernel
theorem dX5_priceOf_38 : decode cX5_priceOf 38 = .ok (.if_icmp .ne 11, 3) := by decide +kernel
theorem dX5_priceOf_41 : decode cX5_priceOf 41 = .ok (.iload 4, 2) := by decide +kernel
theorem dX5_priceOf_43 : decode cX5_priceOf 43 = .ok (.iload_n 2, 1) := by decide +kernel
theorem dX5_priceOf_44 : decode cX5_priceOf 44 = .ok (.invokestatic 115, 3) := by decide +kernel
theorem dX5_priceOf_47 : decode cX5_priceOf 47 = .ok (.iadd, 1) := by decide +kernel
theorem dX5_priceOf_48 : decode cX5_priceOf 48 = .ok (.ireturn, 1) := by decide +kernel
theorem dX5_priceOf_49 : decode cX5_priceOf 49 = .ok (.aload_n 0, 1) := by decide +kernel
theorem dX5_priceOf_50 : decode cX5_priceOf 50 = .ok (.iload_n 1, 1) := by decide +kernel
theorem dX5_priceOf_51 : decode cX5_priceOf 51 = .ok (.iload_n 2, 1) := by decide +kernel
theorem dX5_priceOf_52 : decode cX5_priceOf 52 = .ok (.invokevirtual 118, 3) := by decide +kernel
theorem dX5_priceOf_55 : decode cX5_priceOf 55 = .ok (.ifCond .eq 18, 3) := by decide +kernel
theorem dX5_priceOf_58 : decode cX5_priceOf 58 = .ok (.aload_n 0, 1) := by decide +kernel
theorem dX5_priceOf_59 : decode cX5_priceOf 59 = .ok (.aload_n 0, 1) := by decide +kernel
theorem dX5_priceOf_60 : decode cX5_priceOf 60 = .ok (.iload_n 1, 1) := by decide +kernel
theorem dX5_priceOf_61 : decode cX5_priceOf 61 = .ok (.invokevirtual 112, 3) := by decide +kernel
theorem dX5_priceOf_64 : decode cX5_priceOf 64 = .ok (.iconst 1, 1) := by decide +kernel
theorem dX5_priceOf_65 : decode cX5_priceOf 65 = .ok (.invokevirtual 108, 3) := by decide +kernel
theorem dX5_priceOf_68 : decode cX5_priceOf 68 = .ok (.iconst 2, 1) := by decide +kernel
theorem dX5_priceOf_69 : decode cX5_priceOf 69 = .ok (.idiv, 1) := by decide +kernel
theorem dX5_priceOf_70 : decode cX5_priceOf 70 = .ok (.goto 4, 3) := by decide +kernel
theorem dX5_priceOf_73 : decode cX5_priceOf 73 = .ok (.iconst 0, 1) := by decide +kernel
theorem dX5_priceOf_74 : decode cX5_priceOf 74 = .ok (.istore 5, 2) := by decide +kernel
theorem dX5_priceOf_76 : decode cX5_priceOf 76 = .ok (.iload 4, 2) := by decide +kernel
theorem dX5_priceOf_78 : decode cX5_priceOf 78 = .ok (.iload 5, 2) := by decide +kernel
theorem dX5_priceOf_80 : decode cX5_priceOf 80 = .ok (.if_icmp .le 11, 3) := by decide +kernel
theorem dX5_priceOf_83 : decode cX5_priceOf 83 = .ok (.iload 4, 2) := by decide +kernel
theorem dX5_priceOf_85 : decode cX5_priceOf 85 = .ok (.iload 5, 2) := by decide +kernel
theorem dX5_priceOf_87 : decode cX5_priceOf 87 = .ok (.isub, 1) := by decide +kernel
theorem dX5_priceOf_88 : decode cX5_priceOf 88 = .ok (.goto 4, 3) := by decide +kernel
theorem dX5_priceOf_91 : decode cX5_priceOf 91 = .ok (.iconst 0, 1) := by decide +kernel
theorem dX5_priceOf_92 : decode cX5_priceOf 92 = .ok (.ireturn, 1) := by decide +kernel
set_option maxRecDepth 20000 in
theorem ggX5_heldBehind_X5_takesBack : GoodIn wsX5_heldBehind wsX5_takesBack := goodIn_r _ [5, 6, 7, 8, 4, 9, 10, 11, 12, 13, 14, 15, 16, 17, 18, 19, 20, 21, 22, 23, 24, 25, 26, 27, 28, 29, 30, 31, 32, 33, 34, 35, 36, 37, 38, 39, 40, 41, 42, 43, 44, 45, 46] (by decide +kernel) (by decide +kernel)
set_option maxRecDepth 20000 in
theorem gX5_heldBehind_X5_takesBack : GoodIn wsX5_heldBehind (wsV RX5 118 RX5 yX5_takesBack wsX5_takesBack) := goodIn_app (goodIn_of _ (by decide +kernel)) ggX5_heldBehind_X5_takesBack
set_option maxRecDepth 20000 in
theorem ggX5_heldBehind_X5_goodBack : GoodIn wsX5_heldBehind wsX5_goodBack := goodIn_r _ [14, 15, 16, 17, 4, 18, 10, 19, 20, 21, 22, 23, 24, 25, 26, 27, 28, 29, 30, 31, 32, 33, 34, 35, 36, 37, 38, 39, 40, 41, 42, 43, 44, 45, 46] (by decide +kernel) (by decide +kernel)
set_option maxRecDepth 20000 in
theorem gX5_heldBehind_X5_goodBack : GoodIn wsX5_heldBehind (wsV RX5 112 RX5 yX5_goodBack wsX5_goodBack) := goodIn_app (goodIn_of _ (by decide +kernel)) ggX5_heldBehind_X5_goodBack
theorem dX5_heldBehind_0 : decode cX5_heldBehind 0 = .ok (.aload_n 0, 1) := by decide +kernel
theorem dX5_heldBehind_1 : decode cX5_heldBehind 1 = .ok (.iload_n 1, 1) := by decide +kernel
theorem dX5_heldBehind_2 : decode cX5_heldBehind 2 = .ok (.iload_n 2, 1) := by decide +kernel
theorem dX5_heldBehind_3 : decode cX5_heldBehind 3 = .ok (.invokevirtual 118, 3) := by decide +kernel
theorem dX5_heldBehind_6 : decode cX5_heldBehind 6 = .ok (.ifCond .eq 17, 3) := by decide +kernel
theorem dX5_heldBehind_9 : decode cX5_heldBehind 9 = .ok (.iload_n 2, 1) := by decide +kernel
theorem dX5_heldBehind_10 : decode cX5_heldBehind 10 = .ok (.iconst 1, 1) := by decide +kernel
theorem dX5_heldBehind_11 : decode cX5_heldBehind 11 = .ok (.aload_n 0, 1) := by decide +kernel
theorem dX5_heldBehind_12 : decode cX5_heldBehind 12 = .ok (.iload_n 1, 1) := by decide +kernel
theorem dX5_heldBehind_13 : decode cX5_heldBehind 13 = .ok (.invokevirtual 112, 3) := by decide +kernel
theorem dX5_heldBehind_16 : decode cX5_heldBehind 16 = .ok (.ishl, 1) := by decide +kernel
theorem dX5_heldBehind_17 : decode cX5_heldBehind 17 = .ok (.iconst (-1), 1) := by decide +kernel
theorem dX5_heldBehind_18 : decode cX5_heldBehind 18 = .ok (.ixor, 1) := by decide +kernel
theorem dX5_heldBehind_19 : decode cX5_heldBehind 19 = .ok (.iand, 1) := by decide +kernel
theorem dX5_heldBehind_20 : decode cX5_heldBehind 20 = .ok (.goto 4, 3) := by decide +kernel
theorem dX5_heldBehind_23 : decode cX5_heldBehind 23 = .ok (.iload_n 2, 1) := by decide +kernel
theorem dX5_heldBehind_24 : decode cX5_heldBehind 24 = .ok (.istore_n 3, 1) := by decide +kernel
theorem dX5_heldBehind_25 : decode cX5_heldBehind 25 = .ok (.iload_n 3, 1) := by decide +kernel
theorem dX5_heldBehind_26 : decode cX5_heldBehind 26 = .ok (.iconst 1, 1) := by decide +kernel
theorem dX5_heldBehind_27 : decode cX5_heldBehind 27 = .ok (.iload_n 1, 1) := by decide +kernel
theorem dX5_heldBehind_28 : decode cX5_heldBehind 28 = .ok (.ishl, 1) := by decide +kernel
theorem dX5_heldBehind_29 : decode cX5_heldBehind 29 = .ok (.ior, 1) := by decide +kernel
theorem dX5_heldBehind_30 : decode cX5_heldBehind 30 = .ok (.ireturn, 1) := by decide +kernel
set_option maxRecDepth 20000 in
theorem ggX5_minutesOf_X5_of : GoodIn wsX5_minutesOf wsX5_of := goodIn_r _ [5, 6, 7, 8, 9, 10, 11, 12, 13, 14, 15, 16, 17, 18, 19, 20, 21, 22, 23, 24, 25, 26, 27, 28, 29, 30, 31, 32, 33, 34] (by decide +kernel) (by decide +kernel)
set_option maxRecDepth 20000 in
theorem gX5_minutesOf_X5_of : GoodIn wsX5_minutesOf (wsV RX5 108 RX5 yX5_of wsX5_of) := goodIn_app (goodIn_of _ (by decide +kernel)) ggX5_minutesOf_X5_of
theorem dX5_minutesOf_0 : decode cX5_minutesOf 0 = .ok (.aload_n 0, 1) := by decide +kernel
theorem dX5_minutesOf_1 : decode cX5_minutesOf 1 = .ok (.iload_n 1, 1) := by decide +kernel
theorem dX5_minutesOf_2 : decode cX5_minutesOf 2 = .ok (.iconst 0, 1) := by decide +kernel
theorem dX5_minutesOf_3 : decode cX5_minutesOf 3 = .ok (.invokevirtual 108, 3) := by decide +kernel
theorem dX5_minutesOf_6 : decode cX5_minutesOf 6 = .ok (.iconst 3, 1) := by decide +kernel
theorem dX5_minutesOf_7 : decode cX5_minutesOf 7 = .ok (.if_icmp .ne 14, 3) := by decide +kernel
theorem dX5_minutesOf_10 : decode cX5_minutesOf 10 = .ok (.iconst 2, 1) := by decide +kernel
theorem dX5_minutesOf_11 : decode cX5_minutesOf 11 = .ok (.aload_n 0, 1) := by decide +kernel
theorem dX5_minutesOf_12 : decode cX5_minutesOf 12 = .ok (.iload_n 1, 1) := by decide +kernel
theorem dX5_minutesOf_13 : decode cX5_minutesOf 13 = .ok (.iconst 2, 1) := by decide +kernel
theorem dX5_minutesOf_14 : decode cX5_minutesOf 14 = .ok (.invokevirtual 108, 3) := by decide +kernel
theorem dX5_minutesOf_17 : decode cX5_minutesOf 17 = .ok (.imul, 1) := by decide +kernel
theorem dX5_minutesOf_18 : decode cX5_minutesOf 18 = .ok (.goto 9, 3) := by decide +kernel
theorem dX5_minutesOf_21 : decode cX5_minutesOf 21 = .ok (.aload_n 0, 1) := by decide +kernel
theorem dX5_minutesOf_22 : decode cX5_minutesOf 22 = .ok (.iload_n 1, 1) := by decide +kernel
theorem dX5_minutesOf_23 : decode cX5_minutesOf 23 = .ok (.iconst 2, 1) := by decide +kernel
theorem dX5_minutesOf_24 : decode cX5_minutesOf 24 = .ok (.invokevirtual 108, 3) := by decide +kernel
theorem dX5_minutesOf_27 : decode cX5_minutesOf 27 = .ok (.ireturn, 1) := by decide +kernel
set_option maxRecDepth 20000 in
theorem ggX5_whyNot_X5_isFree : GoodIn wsX5_whyNot wsX5_isFree := goodIn_r _ [11, 5, 47, 48, 49, 50, 51, 52, 53, 54, 55, 56, 57, 58, 59, 60, 61, 62, 63, 64, 65, 66, 67, 68, 69, 70, 71, 72, 73, 74] (by decide +kernel) (by decide +kernel)
set_option maxRecDepth 20000 in
theorem gX5_whyNot_X5_isFree : GoodIn wsX5_whyNot (wsV RX5 101 RX5 yX5_isFree wsX5_isFree) := goodIn_app (goodIn_of _ (by decide +kernel)) ggX5_whyNot_X5_isFree
set_option maxRecDepth 20000 in
theorem ggX5_whyNot_X5_areNear : GoodIn wsX5_whyNot wsX5_areNear := goodIn_r _ [15, 5, 47, 48, 49, 50, 51, 52, 53, 54, 55, 56, 57, 58, 59, 60, 61, 62, 63, 64, 65, 66, 67, 68, 69, 70, 71, 72, 73, 74] (by decide +kernel) (by decide +kernel)
set_option maxRecDepth 20000 in
theorem gX5_whyNot_X5_areNear : GoodIn wsX5_whyNot (wsV RX5 90 RX5 yX5_areNear wsX5_areNear) := goodIn_app (goodIn_of _ (by decide +kernel)) ggX5_whyNot_X5_areNear
set_option maxRecDepth 20000 in
theorem ggX5_whyNot_X5_of : GoodIn wsX5_whyNot wsX5_of := goodIn_r _ [19, 5, 47, 48, 49, 50, 51, 52, 53, 54, 55, 56, 57, 58, 59, 60, 61, 62, 63, 64, 65, 66, 67, 68, 69, 70, 71, 72, 73, 74] (by decide +kernel) (by decide +kernel)
set_option maxRecDepth 20000 in
theorem gX5_whyNot_X5_of : GoodIn wsX5_whyNot (wsV RX5 108 RX5 yX5_of wsX5_of) := goodIn_app (goodIn_of _ (by decide +kernel)) ggX5_whyNot_X5_of
set_option maxRecDepth 20000 in
theorem ggX5_whyNot_X5_manyIn : GoodIn wsX5_whyNot wsX5_manyIn := goodIn_r _ [22] (by decide +kernel) (by decide +kernel)
set_option maxRecDepth 20000 in
theorem gX5_whyNot_X5_manyIn : GoodIn wsX5_whyNot (va_wsS RX5 115 yX5_manyIn wsX5_manyIn) := goodIn_app (goodIn_of _ (by decide +kernel)) ggX5_whyNot_X5_manyIn
set_option maxRecDepth 20000 in
theorem ggX5_whyNot_X5_minutesOf : GoodIn wsX5_whyNot wsX5_minutesOf := goodIn_r _ [26, 16, 17, 18, 10, 19, 5, 47, 48, 49, 50, 51, 52, 53, 54, 55, 56, 57, 58, 59, 60, 61, 62, 63, 64, 65, 66, 67, 68, 69, 70, 71, 72, 73, 74] (by decide +kernel) (by decide +kernel)
set_option maxRecDepth 20000 in
theorem gX5_whyNot_X5_minutesOf : GoodIn wsX5_whyNot (wsV RX5 134 RX5 yX5_minutesOf wsX5_minutesOf) := goodIn_app (goodIn_of _ (by decide +kernel)) ggX5_whyNot_X5_minutesOf
set_option maxRecDepth 20000 in
theorem ggX5_whyNot_X5_heldBehind : GoodIn wsX5_whyNot wsX5_heldBehind := goodIn_r _ [30, 31, 32, 33, 10, 34, 16, 17, 18, 19, 5, 35, 36, 37, 38, 39, 40, 41, 42, 47, 48, 49, 50, 51, 52, 53, 54, 55, 56, 57, 58, 59, 60, 61, 62, 63, 64, 65, 66, 67, 68, 69, 70, 71, 72, 73, 74] (by decide +kernel) (by decide +kernel)
set_option maxRecDepth 20000 in
theorem gX5_whyNot_X5_heldBehind : GoodIn wsX5_whyNot (wsV RX5 137 RX5 yX5_heldBehind wsX5_heldBehind) := goodIn_app (goodIn_of _ (by decide +kernel)) ggX5_whyNot_X5_heldBehind
set_option maxRecDepth 20000 in
theorem ggX5_whyNot_X5_priceOf : GoodIn wsX5_whyNot wsX5_priceOf := goodIn_r _ [46, 16, 17, 18, 10, 19, 5, 20, 21, 22, 31, 32, 33, 34, 35, 36, 37, 38, 39, 40, 41, 42, 47, 48, 49, 50, 51, 52, 53, 54, 55, 56, 57, 58, 59, 60, 61, 62, 63, 64, 65, 66, 67, 68, 69, 70, 71, 72, 73, 74] (by decide +kernel) (by decide +kernel)
set_option maxRecDepth 20000 in
theorem gX5_whyNot_X5_priceOf : GoodIn wsX5_whyNot (wsV RX5 143 RX5 yX5_priceOf wsX5_priceOf) := goodIn_app (goodIn_of _ (by decide +kernel)) ggX5_whyNot_X5_priceOf
theorem dX5_whyNot_0 : decode cX5_whyNot 0 = .ok (.iload_n 1, 1) := by decide +kernel
theorem dX5_whyNot_1 : decode cX5_whyNot 1 = .ok (.iload_n 2, 1) := by decide +kernel
theorem dX5_whyNot_2 : decode cX5_whyNot 2 = .ok (.if_icmp .eq 38, 3) := by decide +kernel
theorem dX5_whyNot_5 : decode cX5_whyNot 5 = .ok (.aload_n 0, 1) := by decide +kernel
theorem dX5_whyNot_6 : decode cX5_whyNot 6 = .ok (.getfield 121, 3) := by decide +kernel
theorem dX5_whyNot_9 : decode cX5_whyNot 9 = .ok (.iconst (-1), 1) := by decide +kernel
theorem dX5_whyNot_10 : decode cX5_whyNot 10 = .ok (.if_icmp .ne 14, 3) := by decide +kernel
theorem dX5_whyNot_13 : decode cX5_whyNot 13 = .ok (.aload_n 0, 1) := by decide +kernel
theorem dX5_whyNot_14 : decode cX5_whyNot 14 = .ok (.iload_n 1, 1) := by decide +kernel
theorem dX5_whyNot_15 : decode cX5_whyNot 15 = .ok (.invokevirtual 101, 3) := by decide +kernel
theorem dX5_whyNot_18 : decode cX5_whyNot 18 = .ok (.ifCond .eq 22, 3) := by decide +kernel
theorem dX5_whyNot_21 : decode cX5_whyNot 21 = .ok (.goto 15, 3) := by decide +kernel
theorem dX5_whyNot_24 : decode cX5_whyNot 24 = .ok (.aload_n 0, 1) := by decide +kernel
theorem dX5_whyNot_25 : decode cX5_whyNot 25 = .ok (.aload_n 0, 1) := by decide +kernel
theorem dX5_whyNot_26 : decode cX5_whyNot 26 = .ok (.getfield 121, 3) := by decide +kernel
theorem dX5_whyNot_29 : decode cX5_whyNot 29 = .ok (.iload_n 1, 1) := by decide +kernel
theorem dX5_whyNot_30 : decode cX5_whyNot 30 = .ok (.invokevirtual 90, 3) := by decide +kernel
theorem dX5_whyNot_33 : decode cX5_whyNot 33 = .ok (.ifCond .eq 7, 3) := by decide +kernel
theorem dX5_whyNot_36 : decode cX5_whyNot 36 = .ok (.iconst 1, 1) := by decide +kernel
theorem dX5_whyNot_37 : decode cX5_whyNot 37 = .ok (.goto 4, 3) := by decide +kernel
theorem dX5_whyNot_40 : decode cX5_whyNot 40 = .ok (.iconst 0, 1) := by decide +kernel
theorem dX5_whyNot_41 : decode cX5_whyNot 41 = .ok (.istore_n 3, 1) := by decide +kernel
theorem dX5_whyNot_42 : decode cX5_whyNot 42 = .ok (.iload_n 3, 1) := by decide +kernel
theorem dX5_whyNot_43 : decode cX5_whyNot 43 = .ok (.ifCond .ne 5, 3) := by decide +kernel
theorem dX5_whyNot_46 : decode cX5_whyNot 46 = .ok (.iconst 1, 1) := by decide +kernel
theorem dX5_whyNot_47 : decode cX5_whyNot 47 = .ok (.ireturn, 1) := by decide +kernel
theorem dX5_whyNot_48 : decode cX5_whyNot 48 = .ok (.aload_n 0, 1) := by decide +kernel
theorem dX5_whyNot_49 : decode cX5_whyNot 49 = .ok (.getfield 125, 3) := by decide +kernel
theorem dX5_whyNot_52 : decode cX5_whyNot 52 = .ok (.iload_n 1, 1) := by decide +kernel
theorem dX5_whyNot_53 : decode cX5_whyNot 53 = .ok (.ishr, 1) := by decide +kernel
theorem dX5_whyNot_54 : decode cX5_whyNot 54 = .ok (.iconst 1, 1) := by decide +kernel
theorem dX5_whyNot_55 : decode cX5_whyNot 55 = .ok (.iand, 1) := by decide +kernel
theorem dX5_whyNot_56 : decode cX5_whyNot 56 = .ok (.iconst 1, 1) := by decide +kernel
theorem dX5_whyNot_57 : decode cX5_whyNot 57 = .ok (.if_icmp .ne 5, 3) := by decide +kernel
theorem dX5_whyNot_60 : decode cX5_whyNot 60 = .ok (.iconst 2, 1) := by decide +kernel
theorem dX5_whyNot_61 : decode cX5_whyNot 61 = .ok (.ireturn, 1) := by decide +kernel
theorem dX5_whyNot_62 : decode cX5_whyNot 62 = .ok (.aload_n 0, 1) := by decide +kernel
theorem dX5_whyNot_63 : decode cX5_whyNot 63 = .ok (.iload_n 1, 1) := by decide +kernel
theorem dX5_whyNot_64 : decode cX5_whyNot 64 = .ok (.iconst 0, 1) := by decide +kernel
theorem dX5_whyNot_65 : decode cX5_whyNot 65 = .ok (.invokevirtual 108, 3) := by decide +kernel
theorem dX5_whyNot_68 : decode cX5_whyNot 68 = .ok (.iconst 5, 1) := by decide +kernel
theorem dX5_whyNot_69 : decode cX5_whyNot 69 = .ok (.if_icmp .ne 16, 3) := by decide +kernel
theorem dX5_whyNot_72 : decode cX5_whyNot 72 = .ok (.aload_n 0, 1) := by decide +kernel
theorem dX5_whyNot_73 : decode cX5_whyNot 73 = .ok (.getfield 128, 3) := by decide +kernel
theorem dX5_whyNot_76 : decode cX5_whyNot 76 = .ok (.invokestatic 115, 3) := by decide +kernel
theorem dX5_whyNot_79 : decode cX5_whyNot 79 = .ok (.iconst 2, 1) := by decide +kernel
theorem dX5_whyNot_80 : decode cX5_whyNot 80 = .ok (.if_icmp .ge 5, 3) := by decide +kernel
theorem dX5_whyNot_83 : decode cX5_whyNot 83 = .ok (.iconst 3, 1) := by decide +kernel
theorem dX5_whyNot_84 : decode cX5_whyNot 84 = .ok (.ireturn, 1) := by decide +kernel
theorem dX5_whyNot_85 : decode cX5_whyNot 85 = .ok (.aload_n 0, 1) := by decide +kernel
theorem dX5_whyNot_86 : decode cX5_whyNot 86 = .ok (.getfield 131, 3) := by decide +kernel
theorem dX5_whyNot_89 : decode cX5_whyNot 89 = .ok (.aload_n 0, 1) := by decide +kernel
theorem dX5_whyNot_90 : decode cX5_whyNot 90 = .ok (.iload_n 1, 1) := by decide +kernel
theorem dX5_whyNot_91 : decode cX5_whyNot 91 = .ok (.invokevirtual 134, 3) := by decide +kernel
theorem dX5_whyNot_94 : decode cX5_whyNot 94 = .ok (.iadd, 1) := by decide +kernel
theorem dX5_whyNot_95 : decode cX5_whyNot 95 = .ok (.aload_n 0, 1) := by decide +kernel
theorem dX5_whyNot_96 : decode cX5_whyNot 96 = .ok (.iload_n 1, 1) := by decide +kernel
theorem dX5_whyNot_97 : decode cX5_whyNot 97 = .ok (.iconst 3, 1) := by decide +kernel
theorem dX5_whyNot_98 : decode cX5_whyNot 98 = .ok (.invokevirtual 108, 3) := by decide +kernel
theorem dX5_whyNot_101 : decode cX5_whyNot 101 = .ok (.if_icmp .le 5, 3) := by decide +kernel
theorem dX5_whyNot_104 : decode cX5_whyNot 104 = .ok (.iconst 4, 1) := by decide +kernel
theorem dX5_whyNot_105 : decode cX5_whyNot 105 = .ok (.ireturn, 1) := by decide +kernel
theorem dX5_whyNot_106 : decode cX5_whyNot 106 = .ok (.aload_n 0, 1) := by decide +kernel
theorem dX5_whyNot_107 : decode cX5_whyNot 107 = .ok (.iload_n 1, 1) := by decide +kernel
theorem dX5_whyNot_108 : decode cX5_whyNot 108 = .ok (.aload_n 0, 1) := by decide +kernel
theorem dX5_whyNot_109 : decode cX5_whyNot 109 = .ok (.getfield 128, 3) := by decide +kernel
theorem dX5_whyNot_112 : decode cX5_whyNot 112 = .ok (.invokevirtual 137, 3) := by decide +kernel
theorem dX5_whyNot_115 : decode cX5_whyNot 115 = .ok (.invokestatic 115, 3) := by decide +kernel
theorem dX5_whyNot_118 : decode cX5_whyNot 118 = .ok (.aload_n 0, 1) := by decide +kernel
theorem dX5_whyNot_119 : decode cX5_whyNot 119 = .ok (.getfield 7, 3) := by decide +kernel
theorem dX5_whyNot_122 : decode cX5_whyNot 122 = .ok (.bipush 32, 2) := by decide +kernel
theorem dX5_whyNot_124 : decode cX5_whyNot 124 = .ok (.iaload, 1) := by decide +kernel
theorem dX5_whyNot_125 : decode cX5_whyNot 125 = .ok (.if_icmp .le 5, 3) := by decide +kernel
theorem dX5_whyNot_128 : decode cX5_whyNot 128 = .ok (.iconst 5, 1) := by decide +kernel
theorem dX5_whyNot_129 : decode cX5_whyNot 129 = .ok (.ireturn, 1) := by decide +kernel
theorem dX5_whyNot_130 : decode cX5_whyNot 130 = .ok (.aload_n 0, 1) := by decide +kernel
theorem dX5_whyNot_131 : decode cX5_whyNot 131 = .ok (.getfield 140, 3) := by decide +kernel
theorem dX5_whyNot_134 : decode cX5_whyNot 134 = .ok (.aload_n 0, 1) := by decide +kernel
theorem dX5_whyNot_135 : decode cX5_whyNot 135 = .ok (.iload_n 1, 1) := by decide +kernel
theorem dX5_whyNot_136 : decode cX5_whyNot 136 = .ok (.aload_n 0, 1) := by decide +kernel
theorem dX5_whyNot_137 : decode cX5_whyNot 137 = .ok (.getfield 128, 3) := by decide +kernel
theorem dX5_whyNot_140 : decode cX5_whyNot 140 = .ok (.invokevirtual 143, 3) := by decide +kernel
theorem dX5_whyNot_143 : decode cX5_whyNot 143 = .ok (.iadd, 1) := by decide +kernel
theorem dX5_whyNot_144 : decode cX5_whyNot 144 = .ok (.aload_n 0, 1) := by decide +kernel
theorem dX5_whyNot_145 : decode cX5_whyNot 145 = .ok (.getfield 7, 3) := by decide +kernel
theorem dX5_whyNot_148 : decode cX5_whyNot 148 = .ok (.bipush 31, 2) := by decide +kernel
theorem dX5_whyNot_150 : decode cX5_whyNot 150 = .ok (.iaload, 1) := by decide +kernel
theorem dX5_whyNot_151 : decode cX5_whyNot 151 = .ok (.if_icmp .le 8, 3) := by decide +kernel
theorem dX5_whyNot_154 : decode cX5_whyNot 154 = .ok (.bipush 6, 2) := by decide +kernel
theorem dX5_whyNot_156 : decode cX5_whyNot 156 = .ok (.goto 4, 3) := by decide +kernel
theorem dX5_whyNot_159 : decode cX5_whyNot 159 = .ok (.iconst 0, 1) := by decide +kernel
theorem dX5_whyNot_160 : decode cX5_whyNot 160 = .ok (.ireturn, 1) := by decide +kernel
theorem dX5_begin_0 : decode cX5_begin 0 = .ok (.aload_n 0, 1) := by decide +kernel
theorem dX5_begin_1 : decode cX5_begin 1 = .ok (.iconst (-1), 1) := by decide +kernel
theorem dX5_begin_2 : decode cX5_begin 2 = .ok (.putfield 121, 3) := by decide +kernel
theorem dX5_begin_5 : decode cX5_begin 5 = .ok (.aload_n 0, 1) := by decide +kernel
theorem dX5_begin_6 : decode cX5_begin 6 = .ok (.iconst 0, 1) := by decide +kernel
theorem dX5_begin_7 : decode cX5_begin 7 = .ok (.putfield 128, 3) := by decide +kernel
theorem dX5_begin_10 : decode cX5_begin 10 = .ok (.aload_n 0, 1) := by decide +kernel
theorem dX5_begin_11 : decode cX5_begin 11 = .ok (.iconst 0, 1) := by decide +kernel
theorem dX5_begin_12 : decode cX5_begin 12 = .ok (.putfield 140, 3) := by decide +kernel
theorem dX5_begin_15 : decode cX5_begin 15 = .ok (.aload_n 0, 1) := by decide +kernel
theorem dX5_begin_16 : decode cX5_begin 16 = .ok (.iconst 0, 1) := by decide +kernel
theorem dX5_begin_17 : decode cX5_begin 17 = .ok (.putfield 131, 3) := by decide +kernel
theorem dX5_begin_20 : decode cX5_begin 20 = .ok (.aload_n 0, 1) := by decide +kernel
theorem dX5_begin_21 : decode cX5_begin 21 = .ok (.iconst 0, 1) := by decide +kernel
theorem dX5_begin_22 : decode cX5_begin 22 = .ok (.putfield 125, 3) := by decide +kernel
theorem dX5_begin_25 : decode cX5_begin 25 = .ok (.return_, 1) := by decide +kernel
set_option maxRecDepth 20000 in
theorem ggX5_buy_X5_priceOf : GoodIn wsX5_buy wsX5_priceOf := goodIn_r _ [10, 11, 12, 13, 9, 14, 15, 16, 17, 18, 19, 20, 21, 22, 23, 24, 25, 26, 27, 28, 29, 30, 39, 40, 41, 42, 43, 44, 45, 46, 47, 48, 49, 50, 51, 52, 53, 54, 55, 56, 57, 58, 59, 60, 61, 62, 63, 64, 65, 66] (by decide +kernel) (by decide +kernel)
set_option maxRecDepth 20000 in
theorem gX5_buy_X5_priceOf : GoodIn wsX5_buy (wsV RX5 143 RX5 yX5_priceOf wsX5_priceOf) := goodIn_app (goodIn_of _ (by decide +kernel)) ggX5_buy_X5_priceOf
set_option maxRecDepth 20000 in
theorem ggX5_buy_X5_heldBehind : GoodIn wsX5_buy wsX5_heldBehind := goodIn_r _ [34, 19, 20, 21, 9, 22, 11, 12, 13, 14, 15, 23, 24, 25, 26, 27, 28, 29, 30, 39, 40, 41, 42, 43, 44, 45, 46, 47, 48, 49, 50, 51, 52, 53, 54, 55, 56, 57, 58, 59, 60, 61, 62, 63, 64, 65, 66] (by decide +kernel) (by decide +kernel)
set_option maxRecDepth 20000 in
theorem gX5_buy_X5_heldBehind : GoodIn wsX5_buy (wsV RX5 137 RX5 yX5_heldBehind wsX5_heldBehind) := goodIn_app (goodIn_of _ (by decide +kernel)) ggX5_buy_X5_heldBehind
set_option maxRecDepth 20000 in
theorem ggX5_buy_X5_minutesOf : GoodIn wsX5_buy wsX5_minutesOf := goodIn_r _ [38, 11, 12, 13, 9, 14, 15, 39, 40, 41, 42, 43, 44, 45, 46, 47, 48, 49, 50, 51, 52, 53, 54, 55, 56, 57, 58, 59, 60, 61, 62, 63, 64, 65, 66] (by decide +kernel) (by decide +kernel)
set_option maxRecDepth 20000 in
theorem gX5_buy_X5_minutesOf : GoodIn wsX5_buy (wsV RX5 134 RX5 yX5_minutesOf wsX5_minutesOf) := goodIn_app (goodIn_of _ (by decide +kernel)) ggX5_buy_X5_minutesOf
theorem dX5_buy_0 : decode cX5_buy 0 = .ok (.aload_n 0, 1) := by decide +kernel
theorem dX5_buy_1 : decode cX5_buy 1 = .ok (.dup, 1) := by decide +kernel
theorem dX5_buy_2 : decode cX5_buy 2 = .ok (.getfield 140, 3) := by decide +kernel
theorem dX5_buy_5 : decode cX5_buy 5 = .ok (.aload_n 0, 1) := by decide +kernel
theorem dX5_buy_6 : decode cX5_buy 6 = .ok (.iload_n 1, 1) := by decide +kernel
theorem dX5_buy_7 : decode cX5_buy 7 = .ok (.aload_n 0, 1) := by decide +kernel
theorem dX5_buy_8 : decode cX5_buy 8 = .ok (.getfield 128, 3) := by decide +kernel
theorem dX5_buy_11 : decode cX5_buy 11 = .ok (.invokevirtual 143, 3) := by decide +kernel
theorem dX5_buy_14 : decode cX5_buy 14 = .ok (.iadd, 1) := by decide +kernel
theorem dX5_buy_15 : decode cX5_buy 15 = .ok (.putfield 140, 3) := by decide +kernel
theorem dX5_buy_18 : decode cX5_buy 18 = .ok (.aload_n 0, 1) := by decide +kernel
theorem dX5_buy_19 : decode cX5_buy 19 = .ok (.aload_n 0, 1) := by decide +kernel
theorem dX5_buy_20 : decode cX5_buy 20 = .ok (.iload_n 1, 1) := by decide +kernel
theorem dX5_buy_21 : decode cX5_buy 21 = .ok (.aload_n 0, 1) := by decide +kernel
theorem dX5_buy_22 : decode cX5_buy 22 = .ok (.getfield 128, 3) := by decide +kernel
theorem dX5_buy_25 : decode cX5_buy 25 = .ok (.invokevirtual 137, 3) := by decide +kernel
theorem dX5_buy_28 : decode cX5_buy 28 = .ok (.putfield 128, 3) := by decide +kernel
theorem dX5_buy_31 : decode cX5_buy 31 = .ok (.aload_n 0, 1) := by decide +kernel
theorem dX5_buy_32 : decode cX5_buy 32 = .ok (.dup, 1) := by decide +kernel
theorem dX5_buy_33 : decode cX5_buy 33 = .ok (.getfield 131, 3) := by decide +kernel
theorem dX5_buy_36 : decode cX5_buy 36 = .ok (.aload_n 0, 1) := by decide +kernel
theorem dX5_buy_37 : decode cX5_buy 37 = .ok (.iload_n 1, 1) := by decide +kernel
theorem dX5_buy_38 : decode cX5_buy 38 = .ok (.invokevirtual 134, 3) := by decide +kernel
theorem dX5_buy_41 : decode cX5_buy 41 = .ok (.iadd, 1) := by decide +kernel
theorem dX5_buy_42 : decode cX5_buy 42 = .ok (.putfield 131, 3) := by decide +kernel
theorem dX5_buy_45 : decode cX5_buy 45 = .ok (.aload_n 0, 1) := by decide +kernel
theorem dX5_buy_46 : decode cX5_buy 46 = .ok (.dup, 1) := by decide +kernel
theorem dX5_buy_47 : decode cX5_buy 47 = .ok (.getfield 125, 3) := by decide +kernel
theorem dX5_buy_50 : decode cX5_buy 50 = .ok (.iconst 1, 1) := by decide +kernel
theorem dX5_buy_51 : decode cX5_buy 51 = .ok (.iload_n 1, 1) := by decide +kernel
theorem dX5_buy_52 : decode cX5_buy 52 = .ok (.ishl, 1) := by decide +kernel
theorem dX5_buy_53 : decode cX5_buy 53 = .ok (.ior, 1) := by decide +kernel
theorem dX5_buy_54 : decode cX5_buy 54 = .ok (.putfield 125, 3) := by decide +kernel
theorem dX5_buy_57 : decode cX5_buy 57 = .ok (.aload_n 0, 1) := by decide +kernel
theorem dX5_buy_58 : decode cX5_buy 58 = .ok (.iload_n 1, 1) := by decide +kernel
theorem dX5_buy_59 : decode cX5_buy 59 = .ok (.putfield 121, 3) := by decide +kernel
theorem dX5_buy_62 : decode cX5_buy 62 = .ok (.return_, 1) := by decide +kernel
set_option maxRecDepth 20000 in
theorem ggX5_errand_X5_in : GoodIn wsX5_errand wsX5_in := goodIn_r _ [9] (by decide +kernel) (by decide +kernel)
set_option maxRecDepth 20000 in
theorem gX5_errand_X5_in : GoodIn wsX5_errand (va_wsS RX5 63 yX5_in wsX5_in) := goodIn_app (goodIn_of _ (by decide +kernel)) ggX5_errand_X5_in
set_option maxRecDepth 20000 in
theorem ggX5_errand_X5_bad : GoodIn wsX5_errand wsX5_bad := goodIn_r _ [13, 14, 68, 69, 70, 71, 72, 73, 74, 75, 76, 77, 78, 79, 80, 81, 82, 83, 84, 85, 86, 87, 88, 89, 90, 91, 92, 93, 94, 95] (by decide +kernel) (by decide +kernel)
set_option maxRecDepth 20000 in
theorem gX5_errand_X5_bad : GoodIn wsX5_errand (wsV RX5 79 RX5 yX5_bad wsX5_bad) := goodIn_app (goodIn_of _ (by decide +kernel)) ggX5_errand_X5_bad
set_option maxRecDepth 20000 in
theorem ggX5_errand_X5_begin : GoodIn wsX5_errand wsX5_begin := goodIn_r _ [18, 19, 5, 3, 4, 20, 68, 69, 70, 71, 72, 73, 74, 75, 76, 77, 78, 79, 80, 81, 82, 83, 84, 85, 86, 87, 88, 89, 90, 91, 92, 93, 94, 95] (by decide +kernel) (by decide +kernel)
set_option maxRecDepth 20000 in
theorem gX5_errand_X5_begin : GoodIn wsX5_errand (wsV RX5 148 RX5 yX5_begin wsX5_begin) := goodIn_app (goodIn_of _ (by decide +kernel)) ggX5_errand_X5_begin
set_option maxRecDepth 20000 in
theorem ggX5_errand_X5_whyNot : GoodIn wsX5_errand wsX5_whyNot := goodIn_r _ [24, 19, 20, 5, 4, 2, 3, 25, 26, 27, 8, 28, 29, 30, 31, 32, 33, 34, 35, 36, 37, 38, 39, 40, 41, 42, 43, 44, 45, 46, 47, 48, 49, 50, 51, 52, 53, 54, 55, 56, 57, 58, 59, 60, 61, 62, 63, 68, 69, 70, 71, 72, 73, 74, 75, 76, 77, 78, 79, 80, 81, 82, 83, 84, 85, 86, 87, 88, 89, 90, 91, 92, 93, 94, 95] (by decide +kernel) (by decide +kernel)
set_option maxRecDepth 20000 in
theorem gX5_errand_X5_whyNot : GoodIn wsX5_errand (wsV RX5 151 RX5 yX5_whyNot wsX5_whyNot) := goodIn_app (goodIn_of _ (by decide +kernel)) ggX5_errand_X5_whyNot
set_option maxRecDepth 20000 in
theorem ggX5_errand_X5_buy : GoodIn wsX5_errand wsX5_buy := goodIn_r _ [67, 3, 5, 4, 20, 19, 60, 61, 62, 8, 63, 33, 34, 35, 36, 2, 37, 38, 39, 48, 49, 50, 51, 52, 53, 54, 55, 56, 57, 58, 59, 44, 45, 46, 47, 40, 41, 42, 43, 68, 69, 70, 71, 72, 73, 74, 75, 76, 77, 78, 79, 80, 81, 82, 83, 84, 85, 86, 87, 88, 89, 90, 91, 92, 93, 94, 95] (by decide +kernel) (by decide +kernel)
set_option maxRecDepth 20000 in
theorem gX5_errand_X5_buy : GoodIn wsX5_errand (wsV RX5 154 RX5 yX5_buy wsX5_buy) := goodIn_app (goodIn_of _ (by decide +kernel)) ggX5_errand_X5_buy
theorem dX5_errand_0 : decode cX5_errand 0 = .ok (.iload_n 1, 1) := by decide +kernel
theorem dX5_errand_1 : decode cX5_errand 1 = .ok (.i2l, 1) := by decide +kernel
theorem dX5_errand_2 : decode cX5_errand 2 = .ok (.lconst 0, 1) := by decide +kernel
theorem dX5_errand_3 : decode cX5_errand 3 = .ok (.ldc2_w 146, 3) := by decide +kernel
theorem dX5_errand_6 : decode cX5_errand 6 = .ok (.invokestatic 63, 3) := by decide +kernel
theorem dX5_errand_9 : decode cX5_errand 9 = .ok (.ifCond .ne 10, 3) := by decide +kernel
theorem dX5_errand_12 : decode cX5_errand 12 = .ok (.aload_n 0, 1) := by decide +kernel
theorem dX5_errand_13 : decode cX5_errand 13 = .ok (.bipush (-2), 2) := by decide +kernel
theorem dX5_errand_15 : decode cX5_errand 15 = .ok (.invokevirtual 79, 3) := by decide +kernel
theorem dX5_errand_18 : decode cX5_errand 18 = .ok (.ireturn, 1) := by decide +kernel
theorem dX5_errand_19 : decode cX5_errand 19 = .ok (.aload_n 0, 1) := by decide +kernel
theorem dX5_errand_20 : decode cX5_errand 20 = .ok (.invokevirtual 148, 3) := by decide +kernel
theorem dX5_errand_23 : decode cX5_errand 23 = .ok (.iconst (-1), 1) := by decide +kernel
theorem dX5_errand_24 : decode cX5_errand 24 = .ok (.istore_n 2, 1) := by decide +kernel
theorem dX5_errand_25 : decode cX5_errand 25 = .ok (.iconst 0, 1) := by decide +kernel
theorem dX5_errand_26 : decode cX5_errand 26 = .ok (.istore_n 3, 1) := by decide +kernel
theorem dX5_errand_27 : decode cX5_errand 27 = .ok (.iload_n 3, 1) := by decide +kernel
theorem dX5_errand_28 : decode cX5_errand 28 = .ok (.aload_n 0, 1) := by decide +kernel
theorem dX5_errand_29 : decode cX5_errand 29 = .ok (.getfield 7, 3) := by decide +kernel
theorem dX5_errand_32 : decode cX5_errand 32 = .ok (.bipush 33, 2) := by decide +kernel
theorem dX5_errand_34 : decode cX5_errand 34 = .ok (.iaload, 1) := by decide +kernel
theorem dX5_errand_35 : decode cX5_errand 35 = .ok (.if_icmp .ge 62, 3) := by decide +kernel
theorem dX5_errand_38 : decode cX5_errand 38 = .ok (.iload_n 2, 1) := by decide +kernel
theorem dX5_errand_39 : decode cX5_errand 39 = .ok (.iconst (-1), 1) := by decide +kernel
theorem dX5_errand_40 : decode cX5_errand 40 = .ok (.if_icmp .ne 57, 3) := by decide +kernel
theorem dX5_errand_43 : decode cX5_errand 43 = .ok (.aload_n 0, 1) := by decide +kernel
theorem dX5_errand_44 : decode cX5_errand 44 = .ok (.getfield 7, 3) := by decide +kernel
theorem dX5_errand_47 : decode cX5_errand 47 = .ok (.bipush 34, 2) := by decide +kernel
theorem dX5_errand_49 : decode cX5_errand 49 = .ok (.iload_n 3, 1) := by decide +kernel
theorem dX5_errand_50 : decode cX5_errand 50 = .ok (.iadd, 1) := by decide +kernel
theorem dX5_errand_51 : decode cX5_errand 51 = .ok (.iaload, 1) := by decide +kernel
theorem dX5_errand_52 : decode cX5_errand 52 = .ok (.istore 4, 2) := by decide +kernel
theorem dX5_errand_54 : decode cX5_errand 54 = .ok (.aload_n 0, 1) := by decide +kernel
theorem dX5_errand_55 : decode cX5_errand 55 = .ok (.iload 4, 2) := by decide +kernel
theorem dX5_errand_57 : decode cX5_errand 57 = .ok (.iconst (-1), 1) := by decide +kernel
theorem dX5_errand_58 : decode cX5_errand 58 = .ok (.invokevirtual 151, 3) := by decide +kernel
theorem dX5_errand_61 : decode cX5_errand 61 = .ok (.istore 5, 2) := by decide +kernel
theorem dX5_errand_63 : decode cX5_errand 63 = .ok (.iload 5, 2) := by decide +kernel
theorem dX5_errand_65 : decode cX5_errand 65 = .ok (.ifCond .le 13, 3) := by decide +kernel
theorem dX5_errand_68 : decode cX5_errand 68 = .ok (.bipush 10, 2) := by decide +kernel
theorem dX5_errand_70 : decode cX5_errand 70 = .ok (.iload_n 3, 1) := by decide +kernel
theorem dX5_errand_71 : decode cX5_errand 71 = .ok (.imul, 1) := by decide +kernel
theorem dX5_errand_72 : decode cX5_errand 72 = .ok (.iload 5, 2) := by decide +kernel
theorem dX5_errand_74 : decode cX5_errand 74 = .ok (.iadd, 1) := by decide +kernel
theorem dX5_errand_75 : decode cX5_errand 75 = .ok (.goto 4, 3) := by decide +kernel
theorem dX5_errand_78 : decode cX5_errand 78 = .ok (.iconst (-1), 1) := by decide +kernel
theorem dX5_errand_79 : decode cX5_errand 79 = .ok (.istore_n 2, 1) := by decide +kernel
theorem dX5_errand_80 : decode cX5_errand 80 = .ok (.iload 5, 2) := by decide +kernel
theorem dX5_errand_82 : decode cX5_errand 82 = .ok (.ifCond .ne 9, 3) := by decide +kernel
theorem dX5_errand_85 : decode cX5_errand 85 = .ok (.aload_n 0, 1) := by decide +kernel
theorem dX5_errand_86 : decode cX5_errand 86 = .ok (.iload 4, 2) := by decide +kernel
theorem dX5_errand_88 : decode cX5_errand 88 = .ok (.invokevirtual 154, 3) := by decide +kernel
theorem dX5_errand_91 : decode cX5_errand 91 = .ok (.iinc 3 1, 3) := by decide +kernel
theorem dX5_errand_94 : decode cX5_errand 94 = .ok (.goto (-67), 3) := by decide +kernel
theorem dX5_errand_97 : decode cX5_errand 97 = .ok (.iload_n 1, 1) := by decide +kernel
theorem dX5_errand_98 : decode cX5_errand 98 = .ok (.ifCond .ne 7, 3) := by decide +kernel
theorem dX5_errand_101 : decode cX5_errand 101 = .ok (.iload_n 2, 1) := by decide +kernel
theorem dX5_errand_102 : decode cX5_errand 102 = .ok (.goto 31, 3) := by decide +kernel
theorem dX5_errand_105 : decode cX5_errand 105 = .ok (.iload_n 1, 1) := by decide +kernel
theorem dX5_errand_106 : decode cX5_errand 106 = .ok (.iconst 1, 1) := by decide +kernel
theorem dX5_errand_107 : decode cX5_errand 107 = .ok (.if_icmp .ne 10, 3) := by decide +kernel
theorem dX5_errand_110 : decode cX5_errand 110 = .ok (.aload_n 0, 1) := by decide +kernel
theorem dX5_errand_111 : decode cX5_errand 111 = .ok (.getfield 140, 3) := by decide +kernel
theorem dX5_errand_114 : decode cX5_errand 114 = .ok (.goto 19, 3) := by decide +kernel
theorem dX5_errand_117 : decode cX5_errand 117 = .ok (.iload_n 1, 1) := by decide +kernel
theorem dX5_errand_118 : decode cX5_errand 118 = .ok (.iconst 2, 1) := by decide +kernel
theorem dX5_errand_119 : decode cX5_errand 119 = .ok (.if_icmp .ne 10, 3) := by decide +kernel
theorem dX5_errand_122 : decode cX5_errand 122 = .ok (.aload_n 0, 1) := by decide +kernel
theorem dX5_errand_123 : decode cX5_errand 123 = .ok (.getfield 131, 3) := by decide +kernel
theorem dX5_errand_126 : decode cX5_errand 126 = .ok (.goto 7, 3) := by decide +kernel
theorem dX5_errand_129 : decode cX5_errand 129 = .ok (.aload_n 0, 1) := by decide +kernel
theorem dX5_errand_130 : decode cX5_errand 130 = .ok (.getfield 128, 3) := by decide +kernel
theorem dX5_errand_133 : decode cX5_errand 133 = .ok (.ireturn, 1) := by decide +kernel
theorem dX5_textLong_0 : decode cX5_textLong 0 = .ok (.aload_n 0, 1) := by decide +kernel
theorem dX5_textLong_1 : decode cX5_textLong 1 = .ok (.getfield 7, 3) := by decide +kernel
theorem dX5_textLong_4 : decode cX5_textLong 4 = .ok (.bipush 46, 2) := by decide +kernel
theorem dX5_textLong_6 : decode cX5_textLong 6 = .ok (.iaload, 1) := by decide +kernel
theorem dX5_textLong_7 : decode cX5_textLong 7 = .ok (.ireturn, 1) := by decide +kernel
theorem dX5_byteAt_0 : decode cX5_byteAt 0 = .ok (.aload_n 0, 1) := by decide +kernel
theorem dX5_byteAt_1 : decode cX5_byteAt 1 = .ok (.getfield 7, 3) := by decide +kernel
theorem dX5_byteAt_4 : decode cX5_byteAt 4 = .ok (.bipush 47, 2) := by decide +kernel
theorem dX5_byteAt_6 : decode cX5_byteAt 6 = .ok (.iload_n 1, 1) := by decide +kernel
theorem dX5_byteAt_7 : decode cX5_byteAt 7 = .ok (.iadd, 1) := by decide +kernel
theorem dX5_byteAt_8 : decode cX5_byteAt 8 = .ok (.iaload, 1) := by decide +kernel
theorem dX5_byteAt_9 : decode cX5_byteAt 9 = .ok (.ireturn, 1) := by decide +kernel
set_option maxRecDepth 20000 in
theorem ggX5_type_X5_in : GoodIn wsX5_type wsX5_in := goodIn_r _ [7] (by decide +kernel) (by decide +kernel)
set_option maxRecDepth 20000 in
theorem gX5_type_X5_in : GoodIn wsX5_type (va_wsS RX5 63 yX5_in wsX5_in) := goodIn_app (goodIn_of _ (by decide +kernel)) ggX5_type_X5_in
set_option maxRecDepth 20000 in
theorem ggX5_type_X5_bad : GoodIn wsX5_type wsX5_bad := goodIn_r _ [11, 12, 21, 22, 23, 24, 25, 26, 27, 28, 29, 30, 31, 32, 33, 34, 35, 36, 37, 38, 39, 40, 41, 42, 43, 44, 45, 46, 47, 48] (by decide +kernel) (by decide +kernel)
set_option maxRecDepth 20000 in
theorem gX5_type_X5_bad : GoodIn wsX5_type (wsV RX5 79 RX5 yX5_bad wsX5_bad) := goodIn_app (goodIn_of _ (by decide +kernel)) ggX5_type_X5_bad
set_option maxRecDepth 20000 in
theorem ggX5_type_X5_textLong : GoodIn wsX5_type wsX5_textLong := goodIn_r _ [16, 2, 21, 22, 23, 24, 25, 26, 27, 28, 29, 30, 31, 32, 33, 34, 35, 36, 37, 38, 39, 40, 41, 42, 43, 44, 45, 46, 47, 48] (by decide +kernel) (by decide +kernel)
set_option maxRecDepth 20000 in
theorem gX5_type_X5_textLong : GoodIn wsX5_type (wsV RX5 160 RX5 yX5_textLong wsX5_textLong) := goodIn_app (goodIn_of _ (by decide +kernel)) ggX5_type_X5_textLong
set_option maxRecDepth 20000 in
theorem ggX5_type_X5_full : GoodIn wsX5_type wsX5_full := goodIn_r _ [20, 12, 21, 22, 23, 24, 25, 26, 27, 28, 29, 30, 31, 32, 33, 34, 35, 36, 37, 38, 39, 40, 41, 42, 43, 44, 45, 46, 47, 48] (by decide +kernel) (by decide +kernel)
set_option maxRecDepth 20000 in
theorem gX5_type_X5_full : GoodIn wsX5_type (wsV RX5 83 RX5 yX5_full wsX5_full) := goodIn_app (goodIn_of _ (by decide +kernel)) ggX5_type_X5_full
theorem dX5_type_0 : decode cX5_type 0 = .ok (.iload_n 3, 1) := by decide +kernel
theorem dX5_type_1 : decode cX5_type 1 = .ok (.i2l, 1) := by decide +kernel
theorem dX5_type_2 : decode cX5_type 2 = .ok (.lconst 1, 1) := by decide +kernel
theorem dX5_type_3 : decode cX5_type 3 = .ok (.ldc2_w 158, 3) := by decide +kernel
theorem dX5_type_6 : decode cX5_type 6 = .ok (.invokestatic 63, 3) := by decide +kernel
theorem dX5_type_9 : decode cX5_type 9 = .ok (.ifCond .ne 10, 3) := by decide +kernel
theorem dX5_type_12 : decode cX5_type 12 = .ok (.aload_n 0, 1) := by decide +kernel
theorem dX5_type_13 : decode cX5_type 13 = .ok (.bipush (-2), 2) := by decide +kernel
theorem dX5_type_15 : decode cX5_type 15 = .ok (.invokevirtual 79, 3) := by decide +kernel
theorem dX5_type_18 : decode cX5_type 18 = .ok (.ireturn, 1) := by decide +kernel
theorem dX5_type_19 : decode cX5_type 19 = .ok (.aload_n 0, 1) := by decide +kernel
theorem dX5_type_20 : decode cX5_type 20 = .ok (.invokevirtual 160, 3) := by decide +kernel
theorem dX5_type_23 : decode cX5_type 23 = .ok (.iload_n 3, 1) := by decide +kernel
theorem dX5_type_24 : decode cX5_type 24 = .ok (.iadd, 1) := by decide +kernel
theorem dX5_type_25 : decode cX5_type 25 = .ok (.sipush 200, 3) := by decide +kernel
theorem dX5_type_28 : decode cX5_type 28 = .ok (.if_icmp .le 8, 3) := by decide +kernel
theorem dX5_type_31 : decode cX5_type 31 = .ok (.aload_n 0, 1) := by decide +kernel
theorem dX5_type_32 : decode cX5_type 32 = .ok (.invokevirtual 83, 3) := by decide +kernel
theorem dX5_type_35 : decode cX5_type 35 = .ok (.ireturn, 1) := by decide +kernel
theorem dX5_type_36 : decode cX5_type 36 = .ok (.iload_n 3, 1) := by decide +kernel
theorem dX5_type_37 : decode cX5_type 37 = .ok (.iconst 1, 1) := by decide +kernel
theorem dX5_type_38 : decode cX5_type 38 = .ok (.isub, 1) := by decide +kernel
theorem dX5_type_39 : decode cX5_type 39 = .ok (.istore 4, 2) := by decide +kernel
theorem dX5_type_41 : decode cX5_type 41 = .ok (.iload 4, 2) := by decide +kernel
theorem dX5_type_43 : decode cX5_type 43 = .ok (.ifCond .lt 44, 3) := by decide +kernel
theorem dX5_type_46 : decode cX5_type 46 = .ok (.aload_n 0, 1) := by decide +kernel
theorem dX5_type_47 : decode cX5_type 47 = .ok (.getfield 7, 3) := by decide +kernel
theorem dX5_type_50 : decode cX5_type 50 = .ok (.bipush 47, 2) := by decide +kernel
theorem dX5_type_52 : decode cX5_type 52 = .ok (.aload_n 0, 1) := by decide +kernel
theorem dX5_type_53 : decode cX5_type 53 = .ok (.invokevirtual 160, 3) := by decide +kernel
theorem dX5_type_56 : decode cX5_type 56 = .ok (.iadd, 1) := by decide +kernel
theorem dX5_type_57 : decode cX5_type 57 = .ok (.lload_n 1, 1) := by decide +kernel
theorem dX5_type_58 : decode cX5_type 58 = .ok (.bipush 8, 2) := by decide +kernel
theorem dX5_type_60 : decode cX5_type 60 = .ok (.iload 4, 2) := by decide +kernel
theorem dX5_type_62 : decode cX5_type 62 = .ok (.imul, 1) := by decide +kernel
theorem dX5_type_63 : decode cX5_type 63 = .ok (.lushr, 1) := by decide +kernel
theorem dX5_type_64 : decode cX5_type 64 = .ok (.ldc2_w 163, 3) := by decide +kernel
theorem dX5_type_67 : decode cX5_type 67 = .ok (.land, 1) := by decide +kernel
theorem dX5_type_68 : decode cX5_type 68 = .ok (.l2i, 1) := by decide +kernel
theorem dX5_type_69 : decode cX5_type 69 = .ok (.iastore, 1) := by decide +kernel
theorem dX5_type_70 : decode cX5_type 70 = .ok (.aload_n 0, 1) := by decide +kernel
theorem dX5_type_71 : decode cX5_type 71 = .ok (.getfield 7, 3) := by decide +kernel
theorem dX5_type_74 : decode cX5_type 74 = .ok (.bipush 46, 2) := by decide +kernel
theorem dX5_type_76 : decode cX5_type 76 = .ok (.dup2, 1) := by decide +kernel
theorem dX5_type_77 : decode cX5_type 77 = .ok (.iaload, 1) := by decide +kernel
theorem dX5_type_78 : decode cX5_type 78 = .ok (.iconst 1, 1) := by decide +kernel
theorem dX5_type_79 : decode cX5_type 79 = .ok (.iadd, 1) := by decide +kernel
theorem dX5_type_80 : decode cX5_type 80 = .ok (.iastore, 1) := by decide +kernel
theorem dX5_type_81 : decode cX5_type 81 = .ok (.iinc 4 (-1), 3) := by decide +kernel
theorem dX5_type_84 : decode cX5_type 84 = .ok (.goto (-43), 3) := by decide +kernel
theorem dX5_type_87 : decode cX5_type 87 = .ok (.aload_n 0, 1) := by decide +kernel
theorem dX5_type_88 : decode cX5_type 88 = .ok (.invokevirtual 160, 3) := by decide +kernel
theorem dX5_type_91 : decode cX5_type 91 = .ok (.ireturn, 1) := by decide +kernel
set_option maxRecDepth 20000 in
theorem ggX5_clear_X5_textLong : GoodIn wsX5_clear wsX5_textLong := goodIn_r _ [6, 1, 7, 8, 9, 10, 11, 12, 13, 14, 15, 16, 17, 18, 19, 20, 21, 22, 23, 24, 25, 26, 27, 28, 29, 30, 31, 32, 33, 34] (by decide +kernel) (by decide +kernel)
set_option maxRecDepth 20000 in
theorem gX5_clear_X5_textLong : GoodIn wsX5_clear (wsV RX5 160 RX5 yX5_textLong wsX5_textLong) := goodIn_app (goodIn_of _ (by decide +kernel)) ggX5_clear_X5_textLong
theorem dX5_clear_0 : decode cX5_clear 0 = .ok (.aload_n 0, 1) := by decide +kernel
theorem dX5_clear_1 : decode cX5_clear 1 = .ok (.invokevirtual 160, 3) := by decide +kernel
