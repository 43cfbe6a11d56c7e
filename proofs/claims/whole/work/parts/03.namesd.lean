set_option maxRecDepth 20000 in
theorem ggX3_step_X2_sellsTo : GoodIn wsX3_step wsX2_sellsTo := goodIn_r _ [28, 29, 52, 53, 54, 55, 56, 57, 58, 59, 60, 61, 62, 63, 64, 65, 66, 67] (by decide +kernel) (by decide +kernel)
set_option maxRecDepth 20000 in
theorem gX3_step_X2_sellsTo : GoodIn wsX3_step (wsV RX3 56 RX2 yX2_sellsTo wsX2_sellsTo) := goodIn_app (goodIn_of _ (by decide +kernel)) ggX3_step_X2_sellsTo
set_option maxRecDepth 20000 in
theorem ggX3_step_X2_minutesTaken : GoodIn wsX3_step wsX2_minutesTaken := goodIn_r _ [33, 29, 34, 52, 53, 54, 55, 56, 57, 58, 59, 60, 61, 62, 63, 64, 65, 66, 67] (by decide +kernel) (by decide +kernel)
set_option maxRecDepth 20000 in
theorem gX3_step_X2_minutesTaken : GoodIn wsX3_step (wsV RX3 60 RX2 yX2_minutesTaken wsX2_minutesTaken) := goodIn_app (goodIn_of _ (by decide +kernel)) ggX3_step_X2_minutesTaken
set_option maxRecDepth 20000 in
theorem ggX3_step_X2_goodTaken : GoodIn wsX3_step wsX2_goodTaken := goodIn_r _ [38, 29, 39, 52, 53, 54, 55, 56, 57, 58, 59, 60, 61, 62, 63, 64, 65, 66, 67] (by decide +kernel) (by decide +kernel)
set_option maxRecDepth 20000 in
theorem gX3_step_X2_goodTaken : GoodIn wsX3_step (wsV RX3 66 RX2 yX2_goodTaken wsX2_goodTaken) := goodIn_app (goodIn_of _ (by decide +kernel)) ggX3_step_X2_goodTaken
set_option maxRecDepth 20000 in
theorem ggX3_step_X2_asked : GoodIn wsX3_step wsX2_asked := goodIn_r _ [43, 29, 44, 52, 53, 54, 55, 56, 57, 58, 59, 60, 61, 62, 63, 64, 65, 66, 67] (by decide +kernel) (by decide +kernel)
set_option maxRecDepth 20000 in
theorem gX3_step_X2_asked : GoodIn wsX3_step (wsV RX3 72 RX2 yX2_asked wsX2_asked) := goodIn_app (goodIn_of _ (by decide +kernel)) ggX3_step_X2_asked
theorem dX3_step_0 : decode cX3_step 0 = .ok (.aload_n 0, 1) := by decide +kernel
theorem dX3_step_1 : decode cX3_step 1 = .ok (.iload_n 1, 1) := by decide +kernel
theorem dX3_step_2 : decode cX3_step 2 = .ok (.invokevirtual 47, 3) := by decide +kernel
theorem dX3_step_5 : decode cX3_step 5 = .ok (.iload_n 2, 1) := by decide +kernel
theorem dX3_step_6 : decode cX3_step 6 = .ok (.ishr, 1) := by decide +kernel
theorem dX3_step_7 : decode cX3_step 7 = .ok (.iconst 1, 1) := by decide +kernel
theorem dX3_step_8 : decode cX3_step 8 = .ok (.iand, 1) := by decide +kernel
theorem dX3_step_9 : decode cX3_step 9 = .ok (.ifCond .ne 5, 3) := by decide +kernel
theorem dX3_step_12 : decode cX3_step 12 = .ok (.iconst 1, 1) := by decide +kernel
theorem dX3_step_13 : decode cX3_step 13 = .ok (.ireturn, 1) := by decide +kernel
theorem dX3_step_14 : decode cX3_step 14 = .ok (.iload_n 1, 1) := by decide +kernel
theorem dX3_step_15 : decode cX3_step 15 = .ok (.bipush 6, 2) := by decide +kernel
theorem dX3_step_17 : decode cX3_step 17 = .ok (.if_icmp .ge 16, 3) := by decide +kernel
theorem dX3_step_20 : decode cX3_step 20 = .ok (.aload_n 0, 1) := by decide +kernel
theorem dX3_step_21 : decode cX3_step 21 = .ok (.getfield 15, 3) := by decide +kernel
theorem dX3_step_24 : decode cX3_step 24 = .ok (.iload_n 1, 1) := by decide +kernel
theorem dX3_step_25 : decode cX3_step 25 = .ok (.iaload, 1) := by decide +kernel
theorem dX3_step_26 : decode cX3_step 26 = .ok (.iload_n 2, 1) := by decide +kernel
theorem dX3_step_27 : decode cX3_step 27 = .ok (.ishr, 1) := by decide +kernel
theorem dX3_step_28 : decode cX3_step 28 = .ok (.iconst 1, 1) := by decide +kernel
theorem dX3_step_29 : decode cX3_step 29 = .ok (.iand, 1) := by decide +kernel
theorem dX3_step_30 : decode cX3_step 30 = .ok (.ifCond .eq 5, 3) := by decide +kernel
theorem dX3_step_33 : decode cX3_step 33 = .ok (.iconst 2, 1) := by decide +kernel
theorem dX3_step_34 : decode cX3_step 34 = .ok (.ireturn, 1) := by decide +kernel
theorem dX3_step_35 : decode cX3_step 35 = .ok (.aload_n 0, 1) := by decide +kernel
theorem dX3_step_36 : decode cX3_step 36 = .ok (.getfield 18, 3) := by decide +kernel
theorem dX3_step_39 : decode cX3_step 39 = .ok (.iload_n 1, 1) := by decide +kernel
theorem dX3_step_40 : decode cX3_step 40 = .ok (.iaload, 1) := by decide +kernel
theorem dX3_step_41 : decode cX3_step 41 = .ok (.istore_n 3, 1) := by decide +kernel
theorem dX3_step_42 : decode cX3_step 42 = .ok (.iload_n 3, 1) := by decide +kernel
theorem dX3_step_43 : decode cX3_step 43 = .ok (.invokestatic 51, 3) := by decide +kernel
theorem dX3_step_46 : decode cX3_step 46 = .ok (.istore 4, 2) := by decide +kernel
theorem dX3_step_48 : decode cX3_step 48 = .ok (.aload_n 0, 1) := by decide +kernel
theorem dX3_step_49 : decode cX3_step 49 = .ok (.getfield 27, 3) := by decide +kernel
theorem dX3_step_52 : decode cX3_step 52 = .ok (.iload_n 2, 1) := by decide +kernel
theorem dX3_step_53 : decode cX3_step 53 = .ok (.iload 4, 2) := by decide +kernel
theorem dX3_step_55 : decode cX3_step 55 = .ok (.invokevirtual 56, 3) := by decide +kernel
theorem dX3_step_58 : decode cX3_step 58 = .ok (.ifCond .ne 5, 3) := by decide +kernel
theorem dX3_step_61 : decode cX3_step 61 = .ok (.iconst 3, 1) := by decide +kernel
theorem dX3_step_62 : decode cX3_step 62 = .ok (.ireturn, 1) := by decide +kernel
theorem dX3_step_63 : decode cX3_step 63 = .ok (.aload_n 0, 1) := by decide +kernel
theorem dX3_step_64 : decode cX3_step 64 = .ok (.getfield 21, 3) := by decide +kernel
theorem dX3_step_67 : decode cX3_step 67 = .ok (.iload_n 1, 1) := by decide +kernel
theorem dX3_step_68 : decode cX3_step 68 = .ok (.iaload, 1) := by decide +kernel
theorem dX3_step_69 : decode cX3_step 69 = .ok (.aload_n 0, 1) := by decide +kernel
theorem dX3_step_70 : decode cX3_step 70 = .ok (.getfield 27, 3) := by decide +kernel
theorem dX3_step_73 : decode cX3_step 73 = .ok (.iload_n 2, 1) := by decide +kernel
theorem dX3_step_74 : decode cX3_step 74 = .ok (.invokevirtual 60, 3) := by decide +kernel
theorem dX3_step_77 : decode cX3_step 77 = .ok (.iadd, 1) := by decide +kernel
theorem dX3_step_78 : decode cX3_step 78 = .ok (.istore 5, 2) := by decide +kernel
theorem dX3_step_80 : decode cX3_step 80 = .ok (.iload 5, 2) := by decide +kernel
theorem dX3_step_82 : decode cX3_step 82 = .ok (.aload_n 0, 1) := by decide +kernel
theorem dX3_step_83 : decode cX3_step 83 = .ok (.getfield 27, 3) := by decide +kernel
theorem dX3_step_86 : decode cX3_step 86 = .ok (.getfield 63, 3) := by decide +kernel
theorem dX3_step_89 : decode cX3_step 89 = .ok (.iload_n 2, 1) := by decide +kernel
theorem dX3_step_90 : decode cX3_step 90 = .ok (.iaload, 1) := by decide +kernel
theorem dX3_step_91 : decode cX3_step 91 = .ok (.if_icmp .le 5, 3) := by decide +kernel
theorem dX3_step_94 : decode cX3_step 94 = .ok (.iconst 4, 1) := by decide +kernel
theorem dX3_step_95 : decode cX3_step 95 = .ok (.ireturn, 1) := by decide +kernel
theorem dX3_step_96 : decode cX3_step 96 = .ok (.aload_n 0, 1) := by decide +kernel
theorem dX3_step_97 : decode cX3_step 97 = .ok (.getfield 27, 3) := by decide +kernel
theorem dX3_step_100 : decode cX3_step 100 = .ok (.iload_n 2, 1) := by decide +kernel
theorem dX3_step_101 : decode cX3_step 101 = .ok (.iload_n 3, 1) := by decide +kernel
theorem dX3_step_102 : decode cX3_step 102 = .ok (.invokevirtual 66, 3) := by decide +kernel
theorem dX3_step_105 : decode cX3_step 105 = .ok (.istore 6, 2) := by decide +kernel
theorem dX3_step_107 : decode cX3_step 107 = .ok (.iload 6, 2) := by decide +kernel
theorem dX3_step_109 : decode cX3_step 109 = .ok (.iconst (-1), 1) := by decide +kernel
theorem dX3_step_110 : decode cX3_step 110 = .ok (.if_icmp .ne 7, 3) := by decide +kernel
theorem dX3_step_113 : decode cX3_step 113 = .ok (.iload_n 3, 1) := by decide +kernel
theorem dX3_step_114 : decode cX3_step 114 = .ok (.goto 11, 3) := by decide +kernel
theorem dX3_step_117 : decode cX3_step 117 = .ok (.iload_n 3, 1) := by decide +kernel
theorem dX3_step_118 : decode cX3_step 118 = .ok (.iconst 1, 1) := by decide +kernel
theorem dX3_step_119 : decode cX3_step 119 = .ok (.iload 6, 2) := by decide +kernel
theorem dX3_step_121 : decode cX3_step 121 = .ok (.ishl, 1) := by decide +kernel
theorem dX3_step_122 : decode cX3_step 122 = .ok (.iconst (-1), 1) := by decide +kernel
theorem dX3_step_123 : decode cX3_step 123 = .ok (.ixor, 1) := by decide +kernel
theorem dX3_step_124 : decode cX3_step 124 = .ok (.iand, 1) := by decide +kernel
theorem dX3_step_125 : decode cX3_step 125 = .ok (.istore 7, 2) := by decide +kernel
theorem dX3_step_127 : decode cX3_step 127 = .ok (.iload 7, 2) := by decide +kernel
theorem dX3_step_129 : decode cX3_step 129 = .ok (.invokestatic 51, 3) := by decide +kernel
theorem dX3_step_132 : decode cX3_step 132 = .ok (.aload_n 0, 1) := by decide +kernel
theorem dX3_step_133 : decode cX3_step 133 = .ok (.getfield 27, 3) := by decide +kernel
theorem dX3_step_136 : decode cX3_step 136 = .ok (.getfield 69, 3) := by decide +kernel
theorem dX3_step_139 : decode cX3_step 139 = .ok (.if_icmp .lt 5, 3) := by decide +kernel
theorem dX3_step_142 : decode cX3_step 142 = .ok (.iconst 5, 1) := by decide +kernel
theorem dX3_step_143 : decode cX3_step 143 = .ok (.ireturn, 1) := by decide +kernel
theorem dX3_step_144 : decode cX3_step 144 = .ok (.aload_n 0, 1) := by decide +kernel
theorem dX3_step_145 : decode cX3_step 145 = .ok (.getfield 24, 3) := by decide +kernel
theorem dX3_step_148 : decode cX3_step 148 = .ok (.iload_n 1, 1) := by decide +kernel
theorem dX3_step_149 : decode cX3_step 149 = .ok (.iaload, 1) := by decide +kernel
theorem dX3_step_150 : decode cX3_step 150 = .ok (.aload_n 0, 1) := by decide +kernel
theorem dX3_step_151 : decode cX3_step 151 = .ok (.getfield 27, 3) := by decide +kernel
theorem dX3_step_154 : decode cX3_step 154 = .ok (.iload_n 2, 1) := by decide +kernel
theorem dX3_step_155 : decode cX3_step 155 = .ok (.iload 4, 2) := by decide +kernel
theorem dX3_step_157 : decode cX3_step 157 = .ok (.iload 6, 2) := by decide +kernel
theorem dX3_step_159 : decode cX3_step 159 = .ok (.invokevirtual 72, 3) := by decide +kernel
theorem dX3_step_162 : decode cX3_step 162 = .ok (.iadd, 1) := by decide +kernel
theorem dX3_step_163 : decode cX3_step 163 = .ok (.istore 8, 2) := by decide +kernel
theorem dX3_step_165 : decode cX3_step 165 = .ok (.iload 8, 2) := by decide +kernel
theorem dX3_step_167 : decode cX3_step 167 = .ok (.aload_n 0, 1) := by decide +kernel
theorem dX3_step_168 : decode cX3_step 168 = .ok (.getfield 27, 3) := by decide +kernel
theorem dX3_step_171 : decode cX3_step 171 = .ok (.getfield 76, 3) := by decide +kernel
theorem dX3_step_174 : decode cX3_step 174 = .ok (.if_icmp .le 6, 3) := by decide +kernel
theorem dX3_step_177 : decode cX3_step 177 = .ok (.bipush 6, 2) := by decide +kernel
theorem dX3_step_179 : decode cX3_step 179 = .ok (.ireturn, 1) := by decide +kernel
theorem dX3_step_180 : decode cX3_step 180 = .ok (.aload_n 0, 1) := by decide +kernel
theorem dX3_step_181 : decode cX3_step 181 = .ok (.getfield 9, 3) := by decide +kernel
theorem dX3_step_184 : decode cX3_step 184 = .ok (.iload_n 1, 1) := by decide +kernel
theorem dX3_step_185 : decode cX3_step 185 = .ok (.iload_n 2, 1) := by decide +kernel
theorem dX3_step_186 : decode cX3_step 186 = .ok (.iastore, 1) := by decide +kernel
theorem dX3_step_187 : decode cX3_step 187 = .ok (.aload_n 0, 1) := by decide +kernel
theorem dX3_step_188 : decode cX3_step 188 = .ok (.getfield 15, 3) := by decide +kernel
theorem dX3_step_191 : decode cX3_step 191 = .ok (.iload_n 1, 1) := by decide +kernel
theorem dX3_step_192 : decode cX3_step 192 = .ok (.iconst 1, 1) := by decide +kernel
theorem dX3_step_193 : decode cX3_step 193 = .ok (.iadd, 1) := by decide +kernel
theorem dX3_step_194 : decode cX3_step 194 = .ok (.aload_n 0, 1) := by decide +kernel
theorem dX3_step_195 : decode cX3_step 195 = .ok (.getfield 15, 3) := by decide +kernel
theorem dX3_step_198 : decode cX3_step 198 = .ok (.iload_n 1, 1) := by decide +kernel
theorem dX3_step_199 : decode cX3_step 199 = .ok (.iaload, 1) := by decide +kernel
theorem dX3_step_200 : decode cX3_step 200 = .ok (.iconst 1, 1) := by decide +kernel
theorem dX3_step_201 : decode cX3_step 201 = .ok (.iload_n 2, 1) := by decide +kernel
theorem dX3_step_202 : decode cX3_step 202 = .ok (.ishl, 1) := by decide +kernel
theorem dX3_step_203 : decode cX3_step 203 = .ok (.ior, 1) := by decide +kernel
theorem dX3_step_204 : decode cX3_step 204 = .ok (.iastore, 1) := by decide +kernel
theorem dX3_step_205 : decode cX3_step 205 = .ok (.aload_n 0, 1) := by decide +kernel
theorem dX3_step_206 : decode cX3_step 206 = .ok (.getfield 18, 3) := by decide +kernel
theorem dX3_step_209 : decode cX3_step 209 = .ok (.iload_n 1, 1) := by decide +kernel
theorem dX3_step_210 : decode cX3_step 210 = .ok (.iconst 1, 1) := by decide +kernel
theorem dX3_step_211 : decode cX3_step 211 = .ok (.iadd, 1) := by decide +kernel
theorem dX3_step_212 : decode cX3_step 212 = .ok (.iload 7, 2) := by decide +kernel
theorem dX3_step_214 : decode cX3_step 214 = .ok (.iconst 1, 1) := by decide +kernel
theorem dX3_step_215 : decode cX3_step 215 = .ok (.iload_n 2, 1) := by decide +kernel
theorem dX3_step_216 : decode cX3_step 216 = .ok (.ishl, 1) := by decide +kernel
theorem dX3_step_217 : decode cX3_step 217 = .ok (.ior, 1) := by decide +kernel
theorem dX3_step_218 : decode cX3_step 218 = .ok (.iastore, 1) := by decide +kernel
theorem dX3_step_219 : decode cX3_step 219 = .ok (.aload_n 0, 1) := by decide +kernel
theorem dX3_step_220 : decode cX3_step 220 = .ok (.getfield 21, 3) := by decide +kernel
theorem dX3_step_223 : decode cX3_step 223 = .ok (.iload_n 1, 1) := by decide +kernel
theorem dX3_step_224 : decode cX3_step 224 = .ok (.iconst 1, 1) := by decide +kernel
theorem dX3_step_225 : decode cX3_step 225 = .ok (.iadd, 1) := by decide +kernel
theorem dX3_step_226 : decode cX3_step 226 = .ok (.iload 5, 2) := by decide +kernel
theorem dX3_step_228 : decode cX3_step 228 = .ok (.iastore, 1) := by decide +kernel
theorem dX3_step_229 : decode cX3_step 229 = .ok (.aload_n 0, 1) := by decide +kernel
theorem dX3_step_230 : decode cX3_step 230 = .ok (.getfield 24, 3) := by decide +kernel
theorem dX3_step_233 : decode cX3_step 233 = .ok (.iload_n 1, 1) := by decide +kernel
theorem dX3_step_234 : decode cX3_step 234 = .ok (.iconst 1, 1) := by decide +kernel
theorem dX3_step_235 : decode cX3_step 235 = .ok (.iadd, 1) := by decide +kernel
theorem dX3_step_236 : decode cX3_step 236 = .ok (.iload 8, 2) := by decide +kernel
theorem dX3_step_238 : decode cX3_step 238 = .ok (.iastore, 1) := by decide +kernel
theorem dX3_step_239 : decode cX3_step 239 = .ok (.iconst 0, 1) := by decide +kernel
theorem dX3_step_240 : decode cX3_step 240 = .ok (.ireturn, 1) := by decide +kernel
theorem dX3_waysOn_0 : decode cX3_waysOn 0 = .ok (.iload_n 1, 1) := by decide +kernel
theorem dX3_waysOn_1 : decode cX3_waysOn 1 = .ok (.ifCond .gt 13, 3) := by decide +kernel
theorem dX3_waysOn_4 : decode cX3_waysOn 4 = .ok (.aload_n 0, 1) := by decide +kernel
theorem dX3_waysOn_5 : decode cX3_waysOn 5 = .ok (.getfield 27, 3) := by decide +kernel
theorem dX3_waysOn_8 : decode cX3_waysOn 8 = .ok (.getfield 79, 3) := by decide +kernel
theorem dX3_waysOn_11 : decode cX3_waysOn 11 = .ok (.goto 19, 3) := by decide +kernel
theorem dX3_waysOn_14 : decode cX3_waysOn 14 = .ok (.aload_n 0, 1) := by decide +kernel
theorem dX3_waysOn_15 : decode cX3_waysOn 15 = .ok (.getfield 27, 3) := by decide +kernel
theorem dX3_waysOn_18 : decode cX3_waysOn 18 = .ok (.getfield 82, 3) := by decide +kernel
theorem dX3_waysOn_21 : decode cX3_waysOn 21 = .ok (.aload_n 0, 1) := by decide +kernel
theorem dX3_waysOn_22 : decode cX3_waysOn 22 = .ok (.getfield 9, 3) := by decide +kernel
theorem dX3_waysOn_25 : decode cX3_waysOn 25 = .ok (.iload_n 1, 1) := by decide +kernel
theorem dX3_waysOn_26 : decode cX3_waysOn 26 = .ok (.iconst 1, 1) := by decide +kernel
theorem dX3_waysOn_27 : decode cX3_waysOn 27 = .ok (.isub, 1) := by decide +kernel
theorem dX3_waysOn_28 : decode cX3_waysOn 28 = .ok (.iaload, 1) := by decide +kernel
theorem dX3_waysOn_29 : decode cX3_waysOn 29 = .ok (.iaload, 1) := by decide +kernel
theorem dX3_waysOn_30 : decode cX3_waysOn 30 = .ok (.ireturn, 1) := by decide +kernel
set_option maxRecDepth 20000 in
theorem ggX4_init_X2_init : GoodIn wsX4_init wsX2_init := goodIn_r _ [28, 29, 2, 3, 23, 30, 31, 32, 33, 34, 35, 36, 37, 38, 39, 40, 69, 70, 71, 72, 73, 74, 75, 76, 77, 78, 79, 80, 81, 82, 83, 84] (by decide +kernel) (by decide +kernel)
set_option maxRecDepth 20000 in
theorem gX4_init_X2_init_n9 : GoodIn wsX4_init (wsX2_init) := ggX4_init_X2_init
set_option maxRecDepth 20000 in
theorem ggX4_init_X3_init : GoodIn wsX4_init wsX3_init := goodIn_r _ [43, 44, 2, 3, 23, 45, 46, 47, 48, 49, 50, 94, 95, 96, 97, 98, 99, 100] (by decide +kernel) (by decide +kernel)
set_option maxRecDepth 20000 in
theorem gX4_init_X3_init : GoodIn wsX4_init (wsX3_init) := ggX4_init_X3_init
set_option maxRecDepth 20000 in
theorem ggX4_init_X1_init : GoodIn wsX4_init wsX1_init := goodIn_r _ [53, 54, 2, 3, 23, 55, 56, 57, 58, 101, 102, 103, 104, 105, 106, 107, 108, 109, 110, 111, 112] (by decide +kernel) (by decide +kernel)
set_option maxRecDepth 20000 in
theorem gX4_init_X1_init : GoodIn wsX4_init (wsX1_init) := ggX4_init_X1_init
set_option maxRecDepth 20000 in
theorem ggX4_init_X0_init : GoodIn wsX4_init wsX0_init := goodIn_r _ [61, 62, 2, 3, 63, 5, 6, 64, 65, 66, 67, 68, 27, 28, 29, 23, 30, 31, 32, 33, 34, 35, 36, 37, 38, 39, 40, 69, 70, 71, 72, 73, 74, 75, 76, 77, 78, 79, 80, 81, 82, 83, 84, 113, 114, 115, 116, 117, 118, 119, 120, 121] (by decide +kernel) (by decide +kernel)
set_option maxRecDepth 20000 in
theorem gX4_init_X0_init : GoodIn wsX4_init (wsX0_init) := ggX4_init_X0_init
theorem dX4_init_0 : decode cX4_init 0 = .ok (.aload_n 0, 1) := by decide +kernel
theorem dX4_init_1 : decode cX4_init 1 = .ok (.invokespecial 1, 3) := by decide +kernel
theorem dX4_init_4 : decode cX4_init 4 = .ok (.aload_n 0, 1) := by decide +kernel
theorem dX4_init_5 : decode cX4_init 5 = .ok (.new 7, 3) := by decide +kernel
theorem dX4_init_8 : decode cX4_init 8 = .ok (.dup, 1) := by decide +kernel
theorem dX4_init_9 : decode cX4_init 9 = .ok (.invokespecial 9, 3) := by decide +kernel
theorem dX4_init_12 : decode cX4_init 12 = .ok (.putfield 10, 3) := by decide +kernel
theorem dX4_init_15 : decode cX4_init 15 = .ok (.aload_n 0, 1) := by decide +kernel
theorem dX4_init_16 : decode cX4_init 16 = .ok (.iconst 2, 1) := by decide +kernel
theorem dX4_init_17 : decode cX4_init 17 = .ok (.anewarray 7, 3) := by decide +kernel
theorem dX4_init_20 : decode cX4_init 20 = .ok (.putfield 16, 3) := by decide +kernel
theorem dX4_init_23 : decode cX4_init 23 = .ok (.aload_n 0, 1) := by decide +kernel
theorem dX4_init_24 : decode cX4_init 24 = .ok (.iconst 2, 1) := by decide +kernel
theorem dX4_init_25 : decode cX4_init 25 = .ok (.newarray .boolean, 2) := by decide +kernel
theorem dX4_init_27 : decode cX4_init 27 = .ok (.putfield 20, 3) := by decide +kernel
theorem dX4_init_30 : decode cX4_init 30 = .ok (.aload_n 0, 1) := by decide +kernel
theorem dX4_init_31 : decode cX4_init 31 = .ok (.new 24, 3) := by decide +kernel
theorem dX4_init_34 : decode cX4_init 34 = .ok (.dup, 1) := by decide +kernel
theorem dX4_init_35 : decode cX4_init 35 = .ok (.aload_n 0, 1) := by decide +kernel
theorem dX4_init_36 : decode cX4_init 36 = .ok (.getfield 10, 3) := by decide +kernel
theorem dX4_init_39 : decode cX4_init 39 = .ok (.invokespecial 26, 3) := by decide +kernel
theorem dX4_init_42 : decode cX4_init 42 = .ok (.putfield 29, 3) := by decide +kernel
theorem dX4_init_45 : decode cX4_init 45 = .ok (.aload_n 0, 1) := by decide +kernel
theorem dX4_init_46 : decode cX4_init 46 = .ok (.new 33, 3) := by decide +kernel
theorem dX4_init_49 : decode cX4_init 49 = .ok (.dup, 1) := by decide +kernel
theorem dX4_init_50 : decode cX4_init 50 = .ok (.aload_n 0, 1) := by decide +kernel
theorem dX4_init_51 : decode cX4_init 51 = .ok (.getfield 10, 3) := by decide +kernel
theorem dX4_init_54 : decode cX4_init 54 = .ok (.aload_n 0, 1) := by decide +kernel
theorem dX4_init_55 : decode cX4_init 55 = .ok (.getfield 29, 3) := by decide +kernel
theorem dX4_init_58 : decode cX4_init 58 = .ok (.invokespecial 35, 3) := by decide +kernel
theorem dX4_init_61 : decode cX4_init 61 = .ok (.putfield 38, 3) := by decide +kernel
theorem dX4_init_64 : decode cX4_init 64 = .ok (.aload_n 0, 1) := by decide +kernel
theorem dX4_init_65 : decode cX4_init 65 = .ok (.new 42, 3) := by decide +kernel
theorem dX4_init_68 : decode cX4_init 68 = .ok (.dup, 1) := by decide +kernel
theorem dX4_init_69 : decode cX4_init 69 = .ok (.aload_n 0, 1) := by decide +kernel
theorem dX4_init_70 : decode cX4_init 70 = .ok (.getfield 10, 3) := by decide +kernel
theorem dX4_init_73 : decode cX4_init 73 = .ok (.invokespecial 44, 3) := by decide +kernel
theorem dX4_init_76 : decode cX4_init 76 = .ok (.putfield 45, 3) := by decide +kernel
theorem dX4_init_79 : decode cX4_init 79 = .ok (.aload_n 0, 1) := by decide +kernel
theorem dX4_init_80 : decode cX4_init 80 = .ok (.iconst 3, 1) := by decide +kernel
theorem dX4_init_81 : decode cX4_init 81 = .ok (.newarray .int, 2) := by decide +kernel
theorem dX4_init_83 : decode cX4_init 83 = .ok (.putfield 49, 3) := by decide +kernel
theorem dX4_init_86 : decode cX4_init 86 = .ok (.aload_n 0, 1) := by decide +kernel
theorem dX4_init_87 : decode cX4_init 87 = .ok (.bipush 21, 2) := by decide +kernel
theorem dX4_init_89 : decode cX4_init 89 = .ok (.newarray .int, 2) := by decide +kernel
theorem dX4_init_91 : decode cX4_init 91 = .ok (.putfield 53, 3) := by decide +kernel
theorem dX4_init_94 : decode cX4_init 94 = .ok (.aload_n 0, 1) := by decide +kernel
theorem dX4_init_95 : decode cX4_init 95 = .ok (.bipush 6, 2) := by decide +kernel
theorem dX4_init_97 : decode cX4_init 97 = .ok (.newarray .int, 2) := by decide +kernel
theorem dX4_init_99 : decode cX4_init 99 = .ok (.putfield 56, 3) := by decide +kernel
theorem dX4_init_102 : decode cX4_init 102 = .ok (.iconst 0, 1) := by decide +kernel
theorem dX4_init_103 : decode cX4_init 103 = .ok (.istore_n 1, 1) := by decide +kernel
theorem dX4_init_104 : decode cX4_init 104 = .ok (.iload_n 1, 1) := by decide +kernel
theorem dX4_init_105 : decode cX4_init 105 = .ok (.iconst 2, 1) := by decide +kernel
theorem dX4_init_106 : decode cX4_init 106 = .ok (.if_icmp .ge 22, 3) := by decide +kernel
theorem dX4_init_109 : decode cX4_init 109 = .ok (.aload_n 0, 1) := by decide +kernel
theorem dX4_init_110 : decode cX4_init 110 = .ok (.getfield 16, 3) := by decide +kernel
theorem dX4_init_113 : decode cX4_init 113 = .ok (.iload_n 1, 1) := by decide +kernel
theorem dX4_init_114 : decode cX4_init 114 = .ok (.new 7, 3) := by decide +kernel
theorem dX4_init_117 : decode cX4_init 117 = .ok (.dup, 1) := by decide +kernel
theorem dX4_init_118 : decode cX4_init 118 = .ok (.invokespecial 9, 3) := by decide +kernel
theorem dX4_init_121 : decode cX4_init 121 = .ok (.aastore, 1) := by decide +kernel
theorem dX4_init_122 : decode cX4_init 122 = .ok (.iinc 1 1, 3) := by decide +kernel
theorem dX4_init_125 : decode cX4_init 125 = .ok (.goto (-21), 3) := by decide +kernel
theorem dX4_init_128 : decode cX4_init 128 = .ok (.return_, 1) := by decide +kernel
set_option maxRecDepth 20000 in
theorem ggX4_shop_X4_isIn : GoodIn wsX4_shop wsX4_isIn := goodIn_r _ [6] (by decide +kernel) (by decide +kernel)
set_option maxRecDepth 20000 in
theorem gX4_shop_X4_isIn : GoodIn wsX4_shop (va_wsS RX4 59 yX4_isIn wsX4_isIn) := goodIn_app (goodIn_of _ (by decide +kernel)) ggX4_shop_X4_isIn
set_option maxRecDepth 20000 in
theorem ggX4_shop_X4_refuse : GoodIn wsX4_shop wsX4_refuse := goodIn_r _ [10, 11, 3, 4, 5, 6, 23, 24, 25, 26, 27, 28, 29, 30, 31] (by decide +kernel) (by decide +kernel)
set_option maxRecDepth 20000 in
theorem gX4_shop_X4_refuse : GoodIn wsX4_shop (wsV RX4 63 RX4 yX4_refuse wsX4_refuse) := goodIn_app (goodIn_of _ (by decide +kernel)) ggX4_shop_X4_refuse
set_option maxRecDepth 20000 in
theorem ggX4_shop_X2_addShop : GoodIn wsX4_shop wsX2_addShop := goodIn_r _ [16, 17, 18, 19, 20, 21, 22, 32, 33, 34, 35, 36, 37, 38, 39, 40, 41, 42, 43, 44, 45, 46, 47] (by decide +kernel) (by decide +kernel)
set_option maxRecDepth 20000 in
theorem gX4_shop_X2_addShop : GoodIn wsX4_shop (wsV RX4 71 RX2 yX2_addShop wsX2_addShop) := goodIn_app (goodIn_of _ (by decide +kernel)) ggX4_shop_X2_addShop
theorem dX4_shop_0 : decode cX4_shop 0 = .ok (.iload_n 1, 1) := by decide +kernel
theorem dX4_shop_1 : decode cX4_shop 1 = .ok (.iconst 0, 1) := by decide +kernel
theorem dX4_shop_2 : decode cX4_shop 2 = .ok (.iconst 5, 1) := by decide +kernel
theorem dX4_shop_3 : decode cX4_shop 3 = .ok (.invokestatic 59, 3) := by decide +kernel
theorem dX4_shop_6 : decode cX4_shop 6 = .ok (.ifCond .eq 35, 3) := by decide +kernel
theorem dX4_shop_9 : decode cX4_shop 9 = .ok (.iload_n 2, 1) := by decide +kernel
theorem dX4_shop_10 : decode cX4_shop 10 = .ok (.iconst 0, 1) := by decide +kernel
theorem dX4_shop_11 : decode cX4_shop 11 = .ok (.bipush 20, 2) := by decide +kernel
theorem dX4_shop_13 : decode cX4_shop 13 = .ok (.invokestatic 59, 3) := by decide +kernel
theorem dX4_shop_16 : decode cX4_shop 16 = .ok (.ifCond .eq 25, 3) := by decide +kernel
theorem dX4_shop_19 : decode cX4_shop 19 = .ok (.iload_n 3, 1) := by decide +kernel
theorem dX4_shop_20 : decode cX4_shop 20 = .ok (.iconst 1, 1) := by decide +kernel
theorem dX4_shop_21 : decode cX4_shop 21 = .ok (.bipush 30, 2) := by decide +kernel
theorem dX4_shop_23 : decode cX4_shop 23 = .ok (.invokestatic 59, 3) := by decide +kernel
theorem dX4_shop_26 : decode cX4_shop 26 = .ok (.ifCond .eq 15, 3) := by decide +kernel
theorem dX4_shop_29 : decode cX4_shop 29 = .ok (.iload 4, 2) := by decide +kernel
theorem dX4_shop_31 : decode cX4_shop 31 = .ok (.iconst 0, 1) := by decide +kernel
theorem dX4_shop_32 : decode cX4_shop 32 = .ok (.sipush 240, 3) := by decide +kernel
theorem dX4_shop_35 : decode cX4_shop 35 = .ok (.invokestatic 59, 3) := by decide +kernel
theorem dX4_shop_38 : decode cX4_shop 38 = .ok (.ifCond .ne 12, 3) := by decide +kernel
theorem dX4_shop_41 : decode cX4_shop 41 = .ok (.aload_n 0, 1) := by decide +kernel
theorem dX4_shop_42 : decode cX4_shop 42 = .ok (.bipush (-2), 2) := by decide +kernel
theorem dX4_shop_44 : decode cX4_shop 44 = .ok (.bipush (-2), 2) := by decide +kernel
theorem dX4_shop_46 : decode cX4_shop 46 = .ok (.invokevirtual 63, 3) := by decide +kernel
theorem dX4_shop_49 : decode cX4_shop 49 = .ok (.ireturn, 1) := by decide +kernel
theorem dX4_shop_50 : decode cX4_shop 50 = .ok (.aload_n 0, 1) := by decide +kernel
theorem dX4_shop_51 : decode cX4_shop 51 = .ok (.getfield 10, 3) := by decide +kernel
theorem dX4_shop_54 : decode cX4_shop 54 = .ok (.getfield 67, 3) := by decide +kernel
theorem dX4_shop_57 : decode cX4_shop 57 = .ok (.bipush 6, 2) := by decide +kernel
theorem dX4_shop_59 : decode cX4_shop 59 = .ok (.if_icmp .lt 12, 3) := by decide +kernel
theorem dX4_shop_62 : decode cX4_shop 62 = .ok (.aload_n 0, 1) := by decide +kernel
theorem dX4_shop_63 : decode cX4_shop 63 = .ok (.bipush (-4), 2) := by decide +kernel
theorem dX4_shop_65 : decode cX4_shop 65 = .ok (.bipush (-4), 2) := by decide +kernel
theorem dX4_shop_67 : decode cX4_shop 67 = .ok (.invokevirtual 63, 3) := by decide +kernel
theorem dX4_shop_70 : decode cX4_shop 70 = .ok (.ireturn, 1) := by decide +kernel
theorem dX4_shop_71 : decode cX4_shop 71 = .ok (.aload_n 0, 1) := by decide +kernel
theorem dX4_shop_72 : decode cX4_shop 72 = .ok (.getfield 10, 3) := by decide +kernel
theorem dX4_shop_75 : decode cX4_shop 75 = .ok (.iload_n 1, 1) := by decide +kernel
theorem dX4_shop_76 : decode cX4_shop 76 = .ok (.iload_n 2, 1) := by decide +kernel
theorem dX4_shop_77 : decode cX4_shop 77 = .ok (.iload_n 3, 1) := by decide +kernel
theorem dX4_shop_78 : decode cX4_shop 78 = .ok (.iload 4, 2) := by decide +kernel
theorem dX4_shop_80 : decode cX4_shop 80 = .ok (.invokevirtual 71, 3) := by decide +kernel
theorem dX4_shop_83 : decode cX4_shop 83 = .ok (.aload_n 0, 1) := by decide +kernel
theorem dX4_shop_84 : decode cX4_shop 84 = .ok (.getfield 10, 3) := by decide +kernel
theorem dX4_shop_87 : decode cX4_shop 87 = .ok (.getfield 67, 3) := by decide +kernel
theorem dX4_shop_90 : decode cX4_shop 90 = .ok (.iconst 1, 1) := by decide +kernel
theorem dX4_shop_91 : decode cX4_shop 91 = .ok (.isub, 1) := by decide +kernel
theorem dX4_shop_92 : decode cX4_shop 92 = .ok (.ireturn, 1) := by decide +kernel
set_option maxRecDepth 20000 in
theorem ggX4_next_X2_hasShop : GoodIn wsX4_next wsX2_hasShop := goodIn_r _ [6, 7, 35, 36, 37, 38, 39, 40, 41, 42, 43, 44, 45, 46, 47, 48, 49, 50] (by decide +kernel) (by decide +kernel)
set_option maxRecDepth 20000 in
theorem gX4_next_X2_hasShop : GoodIn wsX4_next (wsV RX4 75 RX2 yX2_hasShop wsX2_hasShop) := goodIn_app (goodIn_of _ (by decide +kernel)) ggX4_next_X2_hasShop
set_option maxRecDepth 20000 in
theorem ggX4_next_X4_refuse : GoodIn wsX4_next wsX4_refuse := goodIn_r _ [12, 13, 14, 15, 11, 16, 26, 27, 28, 29, 30, 31, 32, 33, 34] (by decide +kernel) (by decide +kernel)
set_option maxRecDepth 20000 in
theorem gX4_next_X4_refuse : GoodIn wsX4_next (wsV RX4 63 RX4 yX4_refuse wsX4_refuse) := goodIn_app (goodIn_of _ (by decide +kernel)) ggX4_next_X4_refuse
set_option maxRecDepth 20000 in
theorem ggX4_next_X2_areNear : GoodIn wsX4_next wsX2_areNear := goodIn_r _ [20, 21, 35, 36, 37, 38, 39, 40, 41, 42, 43, 44, 45, 46, 47, 48, 49, 50] (by decide +kernel) (by decide +kernel)
set_option maxRecDepth 20000 in
theorem gX4_next_X2_areNear : GoodIn wsX4_next (wsV RX4 79 RX2 yX2_areNear wsX2_areNear) := goodIn_app (goodIn_of _ (by decide +kernel)) ggX4_next_X2_areNear
set_option maxRecDepth 20000 in
theorem ggX4_next_X2_setNear : GoodIn wsX4_next wsX2_setNear := goodIn_r _ [25, 21, 35, 36, 37, 38, 39, 40, 41, 42, 43, 44, 45, 46, 47, 48, 49, 50] (by decide +kernel) (by decide +kernel)
set_option maxRecDepth 20000 in
theorem gX4_next_X2_setNear : GoodIn wsX4_next (wsV RX4 83 RX2 yX2_setNear wsX2_setNear) := goodIn_app (goodIn_of _ (by decide +kernel)) ggX4_next_X2_setNear
theorem dX4_next_0 : decode cX4_next 0 = .ok (.aload_n 0, 1) := by decide +kernel
theorem dX4_next_1 : decode cX4_next 1 = .ok (.getfield 10, 3) := by decide +kernel
theorem dX4_next_4 : decode cX4_next 4 = .ok (.iload_n 1, 1) := by decide +kernel
theorem dX4_next_5 : decode cX4_next 5 = .ok (.invokevirtual 75, 3) := by decide +kernel
theorem dX4_next_8 : decode cX4_next 8 = .ok (.ifCond .eq 19, 3) := by decide +kernel
theorem dX4_next_11 : decode cX4_next 11 = .ok (.aload_n 0, 1) := by decide +kernel
theorem dX4_next_12 : decode cX4_next 12 = .ok (.getfield 10, 3) := by decide +kernel
theorem dX4_next_15 : decode cX4_next 15 = .ok (.iload_n 2, 1) := by decide +kernel
theorem dX4_next_16 : decode cX4_next 16 = .ok (.invokevirtual 75, 3) := by decide +kernel
theorem dX4_next_19 : decode cX4_next 19 = .ok (.ifCond .eq 8, 3) := by decide +kernel
theorem dX4_next_22 : decode cX4_next 22 = .ok (.iload_n 1, 1) := by decide +kernel
theorem dX4_next_23 : decode cX4_next 23 = .ok (.iload_n 2, 1) := by decide +kernel
theorem dX4_next_24 : decode cX4_next 24 = .ok (.if_icmp .ne 12, 3) := by decide +kernel
theorem dX4_next_27 : decode cX4_next 27 = .ok (.aload_n 0, 1) := by decide +kernel
theorem dX4_next_28 : decode cX4_next 28 = .ok (.bipush (-2), 2) := by decide +kernel
theorem dX4_next_30 : decode cX4_next 30 = .ok (.bipush (-2), 2) := by decide +kernel
theorem dX4_next_32 : decode cX4_next 32 = .ok (.invokevirtual 63, 3) := by decide +kernel
theorem dX4_next_35 : decode cX4_next 35 = .ok (.ireturn, 1) := by decide +kernel
theorem dX4_next_36 : decode cX4_next 36 = .ok (.aload_n 0, 1) := by decide +kernel
theorem dX4_next_37 : decode cX4_next 37 = .ok (.getfield 10, 3) := by decide +kernel
theorem dX4_next_40 : decode cX4_next 40 = .ok (.iload_n 1, 1) := by decide +kernel
theorem dX4_next_41 : decode cX4_next 41 = .ok (.iload_n 2, 1) := by decide +kernel
theorem dX4_next_42 : decode cX4_next 42 = .ok (.invokevirtual 79, 3) := by decide +kernel
theorem dX4_next_45 : decode cX4_next 45 = .ok (.iload_n 3, 1) := by decide +kernel
theorem dX4_next_46 : decode cX4_next 46 = .ok (.if_icmp .ne 12, 3) := by decide +kernel
theorem dX4_next_49 : decode cX4_next 49 = .ok (.aload_n 0, 1) := by decide +kernel
theorem dX4_next_50 : decode cX4_next 50 = .ok (.bipush (-3), 2) := by decide +kernel
theorem dX4_next_52 : decode cX4_next 52 = .ok (.bipush (-3), 2) := by decide +kernel
theorem dX4_next_54 : decode cX4_next 54 = .ok (.invokevirtual 63, 3) := by decide +kernel
theorem dX4_next_57 : decode cX4_next 57 = .ok (.ireturn, 1) := by decide +kernel
theorem dX4_next_58 : decode cX4_next 58 = .ok (.aload_n 0, 1) := by decide +kernel
theorem dX4_next_59 : decode cX4_next 59 = .ok (.getfield 10, 3) := by decide +kernel
theorem dX4_next_62 : decode cX4_next 62 = .ok (.iload_n 1, 1) := by decide +kernel
theorem dX4_next_63 : decode cX4_next 63 = .ok (.iload_n 2, 1) := by decide +kernel
theorem dX4_next_64 : decode cX4_next 64 = .ok (.iload_n 3, 1) := by decide +kernel
theorem dX4_next_65 : decode cX4_next 65 = .ok (.invokevirtual 83, 3) := by decide +kernel
theorem dX4_next_68 : decode cX4_next 68 = .ok (.iconst 1, 1) := by decide +kernel
theorem dX4_next_69 : decode cX4_next 69 = .ok (.ireturn, 1) := by decide +kernel
set_option maxRecDepth 20000 in
theorem ggX4_free_X2_hasShop : GoodIn wsX4_free wsX2_hasShop := goodIn_r _ [6, 7, 35, 36, 37, 38, 39, 40, 41, 42, 43, 44, 45, 46, 47, 48, 49, 50] (by decide +kernel) (by decide +kernel)
set_option maxRecDepth 20000 in
theorem gX4_free_X2_hasShop : GoodIn wsX4_free (wsV RX4 75 RX2 yX2_hasShop wsX2_hasShop) := goodIn_app (goodIn_of _ (by decide +kernel)) ggX4_free_X2_hasShop
set_option maxRecDepth 20000 in
theorem ggX4_free_X4_refuse : GoodIn wsX4_free wsX4_refuse := goodIn_r _ [12, 13, 14, 15, 11, 16, 26, 27, 28, 29, 30, 31, 32, 33, 34] (by decide +kernel) (by decide +kernel)
set_option maxRecDepth 20000 in
theorem gX4_free_X4_refuse : GoodIn wsX4_free (wsV RX4 63 RX4 yX4_refuse wsX4_refuse) := goodIn_app (goodIn_of _ (by decide +kernel)) ggX4_free_X4_refuse
set_option maxRecDepth 20000 in
theorem ggX4_free_X2_isFree : GoodIn wsX4_free wsX2_isFree := goodIn_r _ [20, 21, 35, 36, 37, 38, 39, 40, 41, 42, 43, 44, 45, 46, 47, 48, 49, 50] (by decide +kernel) (by decide +kernel)
set_option maxRecDepth 20000 in
theorem gX4_free_X2_isFree : GoodIn wsX4_free (wsV RX4 87 RX2 yX2_isFree wsX2_isFree) := goodIn_app (goodIn_of _ (by decide +kernel)) ggX4_free_X2_isFree
set_option maxRecDepth 20000 in
theorem ggX4_free_X2_setFree : GoodIn wsX4_free wsX2_setFree := goodIn_r _ [25, 21, 35, 36, 37, 38, 39, 40, 41, 42, 43, 44, 45, 46, 47, 48, 49, 50] (by decide +kernel) (by decide +kernel)
set_option maxRecDepth 20000 in
theorem gX4_free_X2_setFree : GoodIn wsX4_free (wsV RX4 90 RX2 yX2_setFree wsX2_setFree) := goodIn_app (goodIn_of _ (by decide +kernel)) ggX4_free_X2_setFree
theorem dX4_free_0 : decode cX4_free 0 = .ok (.aload_n 0, 1) := by decide +kernel
theorem dX4_free_1 : decode cX4_free 1 = .ok (.getfield 10, 3) := by decide +kernel
theorem dX4_free_4 : decode cX4_free 4 = .ok (.iload_n 1, 1) := by decide +kernel
theorem dX4_free_5 : decode cX4_free 5 = .ok (.invokevirtual 75, 3) := by decide +kernel
theorem dX4_free_8 : decode cX4_free 8 = .ok (.ifCond .ne 12, 3) := by decide +kernel
theorem dX4_free_11 : decode cX4_free 11 = .ok (.aload_n 0, 1) := by decide +kernel
theorem dX4_free_12 : decode cX4_free 12 = .ok (.bipush (-2), 2) := by decide +kernel
theorem dX4_free_14 : decode cX4_free 14 = .ok (.bipush (-2), 2) := by decide +kernel
theorem dX4_free_16 : decode cX4_free 16 = .ok (.invokevirtual 63, 3) := by decide +kernel
theorem dX4_free_19 : decode cX4_free 19 = .ok (.ireturn, 1) := by decide +kernel
theorem dX4_free_20 : decode cX4_free 20 = .ok (.aload_n 0, 1) := by decide +kernel
theorem dX4_free_21 : decode cX4_free 21 = .ok (.getfield 10, 3) := by decide +kernel
theorem dX4_free_24 : decode cX4_free 24 = .ok (.iload_n 1, 1) := by decide +kernel
theorem dX4_free_25 : decode cX4_free 25 = .ok (.invokevirtual 87, 3) := by decide +kernel
theorem dX4_free_28 : decode cX4_free 28 = .ok (.iload_n 2, 1) := by decide +kernel
theorem dX4_free_29 : decode cX4_free 29 = .ok (.if_icmp .ne 12, 3) := by decide +kernel
theorem dX4_free_32 : decode cX4_free 32 = .ok (.aload_n 0, 1) := by decide +kernel
theorem dX4_free_33 : decode cX4_free 33 = .ok (.bipush (-3), 2) := by decide +kernel
theorem dX4_free_35 : decode cX4_free 35 = .ok (.bipush (-3), 2) := by decide +kernel
theorem dX4_free_37 : decode cX4_free 37 = .ok (.invokevirtual 63, 3) := by decide +kernel
theorem dX4_free_40 : decode cX4_free 40 = .ok (.ireturn, 1) := by decide +kernel
theorem dX4_free_41 : decode cX4_free 41 = .ok (.aload_n 0, 1) := by decide +kernel
theorem dX4_free_42 : decode cX4_free 42 = .ok (.getfield 10, 3) := by decide +kernel
theorem dX4_free_45 : decode cX4_free 45 = .ok (.iload_n 1, 1) := by decide +kernel
theorem dX4_free_46 : decode cX4_free 46 = .ok (.iload_n 2, 1) := by decide +kernel
theorem dX4_free_47 : decode cX4_free 47 = .ok (.invokevirtual 90, 3) := by decide +kernel
theorem dX4_free_50 : decode cX4_free 50 = .ok (.iconst 1, 1) := by decide +kernel
theorem dX4_free_51 : decode cX4_free 51 = .ok (.ireturn, 1) := by decide +kernel
set_option maxRecDepth 20000 in
theorem ggX4_put_X4_isIn : GoodIn wsX4_put wsX4_isIn := goodIn_r _ [7] (by decide +kernel) (by decide +kernel)
set_option maxRecDepth 20000 in
theorem gX4_put_X4_isIn : GoodIn wsX4_put (va_wsS RX4 59 yX4_isIn wsX4_isIn) := goodIn_app (goodIn_of _ (by decide +kernel)) ggX4_put_X4_isIn
set_option maxRecDepth 20000 in
theorem ggX4_put_X4_refuse : GoodIn wsX4_put wsX4_refuse := goodIn_r _ [11, 12, 4, 5, 6, 7, 13, 14, 15, 16, 17, 18, 19, 20, 21] (by decide +kernel) (by decide +kernel)
set_option maxRecDepth 20000 in
theorem gX4_put_X4_refuse : GoodIn wsX4_put (wsV RX4 63 RX4 yX4_refuse wsX4_refuse) := goodIn_app (goodIn_of _ (by decide +kernel)) ggX4_put_X4_refuse
theorem dX4_put_0 : decode cX4_put 0 = .ok (.iload_n 1, 1) := by decide +kernel
theorem dX4_put_1 : decode cX4_put 1 = .ok (.ifCond .ne 32, 3) := by decide +kernel
theorem dX4_put_4 : decode cX4_put 4 = .ok (.iload_n 2, 1) := by decide +kernel
theorem dX4_put_5 : decode cX4_put 5 = .ok (.iconst 0, 1) := by decide +kernel
theorem dX4_put_6 : decode cX4_put 6 = .ok (.sipush 999, 3) := by decide +kernel
theorem dX4_put_9 : decode cX4_put 9 = .ok (.invokestatic 59, 3) := by decide +kernel
theorem dX4_put_12 : decode cX4_put 12 = .ok (.ifCond .eq 21, 3) := by decide +kernel
theorem dX4_put_15 : decode cX4_put 15 = .ok (.aload_n 0, 1) := by decide +kernel
theorem dX4_put_16 : decode cX4_put 16 = .ok (.getfield 10, 3) := by decide +kernel
theorem dX4_put_19 : decode cX4_put 19 = .ok (.getfield 94, 3) := by decide +kernel
theorem dX4_put_22 : decode cX4_put 22 = .ok (.istore_n 3, 1) := by decide +kernel
theorem dX4_put_23 : decode cX4_put 23 = .ok (.aload_n 0, 1) := by decide +kernel
theorem dX4_put_24 : decode cX4_put 24 = .ok (.getfield 10, 3) := by decide +kernel
theorem dX4_put_27 : decode cX4_put 27 = .ok (.iload_n 2, 1) := by decide +kernel
theorem dX4_put_28 : decode cX4_put 28 = .ok (.putfield 94, 3) := by decide +kernel
theorem dX4_put_31 : decode cX4_put 31 = .ok (.iload_n 3, 1) := by decide +kernel
theorem dX4_put_32 : decode cX4_put 32 = .ok (.ireturn, 1) := by decide +kernel
theorem dX4_put_33 : decode cX4_put 33 = .ok (.iload_n 1, 1) := by decide +kernel
theorem dX4_put_34 : decode cX4_put 34 = .ok (.iconst 1, 1) := by decide +kernel
theorem dX4_put_35 : decode cX4_put 35 = .ok (.if_icmp .ne 31, 3) := by decide +kernel
theorem dX4_put_38 : decode cX4_put 38 = .ok (.iload_n 2, 1) := by decide +kernel
theorem dX4_put_39 : decode cX4_put 39 = .ok (.iconst 1, 1) := by decide +kernel
theorem dX4_put_40 : decode cX4_put 40 = .ok (.bipush 6, 2) := by decide +kernel
theorem dX4_put_42 : decode cX4_put 42 = .ok (.invokestatic 59, 3) := by decide +kernel
theorem dX4_put_45 : decode cX4_put 45 = .ok (.ifCond .eq 21, 3) := by decide +kernel
theorem dX4_put_48 : decode cX4_put 48 = .ok (.aload_n 0, 1) := by decide +kernel
theorem dX4_put_49 : decode cX4_put 49 = .ok (.getfield 10, 3) := by decide +kernel
theorem dX4_put_52 : decode cX4_put 52 = .ok (.getfield 97, 3) := by decide +kernel
theorem dX4_put_55 : decode cX4_put 55 = .ok (.istore_n 3, 1) := by decide +kernel
theorem dX4_put_56 : decode cX4_put 56 = .ok (.aload_n 0, 1) := by decide +kernel
theorem dX4_put_57 : decode cX4_put 57 = .ok (.getfield 10, 3) := by decide +kernel
theorem dX4_put_60 : decode cX4_put 60 = .ok (.iload_n 2, 1) := by decide +kernel
theorem dX4_put_61 : decode cX4_put 61 = .ok (.putfield 97, 3) := by decide +kernel
theorem dX4_put_64 : decode cX4_put 64 = .ok (.iload_n 3, 1) := by decide +kernel
theorem dX4_put_65 : decode cX4_put 65 = .ok (.ireturn, 1) := by decide +kernel
theorem dX4_put_66 : decode cX4_put 66 = .ok (.aload_n 0, 1) := by decide +kernel
theorem dX4_put_67 : decode cX4_put 67 = .ok (.bipush (-2), 2) := by decide +kernel
theorem dX4_put_69 : decode cX4_put 69 = .ok (.bipush (-2), 2) := by decide +kernel
theorem dX4_put_71 : decode cX4_put 71 = .ok (.invokevirtual 63, 3) := by decide +kernel
theorem dX4_put_74 : decode cX4_put 74 = .ok (.ireturn, 1) := by decide +kernel
set_option maxRecDepth 20000 in
theorem ggX4_price_X2_hasShop : GoodIn wsX4_price wsX2_hasShop := goodIn_r _ [7, 8, 27, 28, 29, 30, 31, 32, 33, 34, 35, 36, 37, 38, 39, 40, 41, 42] (by decide +kernel) (by decide +kernel)
set_option maxRecDepth 20000 in
theorem gX4_price_X2_hasShop : GoodIn wsX4_price (wsV RX4 75 RX2 yX2_hasShop wsX2_hasShop) := goodIn_app (goodIn_of _ (by decide +kernel)) ggX4_price_X2_hasShop
set_option maxRecDepth 20000 in
theorem ggX4_price_X4_isIn : GoodIn wsX4_price wsX4_isIn := goodIn_r _ [12] (by decide +kernel) (by decide +kernel)
set_option maxRecDepth 20000 in
theorem gX4_price_X4_isIn : GoodIn wsX4_price (va_wsS RX4 59 yX4_isIn wsX4_isIn) := goodIn_app (goodIn_of _ (by decide +kernel)) ggX4_price_X4_isIn
set_option maxRecDepth 20000 in
theorem ggX4_price_X4_refuse : GoodIn wsX4_price wsX4_refuse := goodIn_r _ [16, 17, 9, 10, 11, 12, 18, 19, 20, 21, 22, 23, 24, 25, 26] (by decide +kernel) (by decide +kernel)
set_option maxRecDepth 20000 in
theorem gX4_price_X4_refuse : GoodIn wsX4_price (wsV RX4 63 RX4 yX4_refuse wsX4_refuse) := goodIn_app (goodIn_of _ (by decide +kernel)) ggX4_price_X4_refuse
theorem dX4_price_0 : decode cX4_price 0 = .ok (.aload_n 0, 1) := by decide +kernel
theorem dX4_price_1 : decode cX4_price 1 = .ok (.getfield 10, 3) := by decide +kernel
theorem dX4_price_4 : decode cX4_price 4 = .ok (.iload_n 1, 1) := by decide +kernel
theorem dX4_price_5 : decode cX4_price 5 = .ok (.invokevirtual 75, 3) := by decide +kernel
theorem dX4_price_8 : decode cX4_price 8 = .ok (.ifCond .eq 13, 3) := by decide +kernel
theorem dX4_price_11 : decode cX4_price 11 = .ok (.iload_n 2, 1) := by decide +kernel
theorem dX4_price_12 : decode cX4_price 12 = .ok (.iconst 0, 1) := by decide +kernel
theorem dX4_price_13 : decode cX4_price 13 = .ok (.bipush 20, 2) := by decide +kernel
theorem dX4_price_15 : decode cX4_price 15 = .ok (.invokestatic 59, 3) := by decide +kernel
theorem dX4_price_18 : decode cX4_price 18 = .ok (.ifCond .ne 12, 3) := by decide +kernel
theorem dX4_price_21 : decode cX4_price 21 = .ok (.aload_n 0, 1) := by decide +kernel
theorem dX4_price_22 : decode cX4_price 22 = .ok (.bipush (-2), 2) := by decide +kernel
theorem dX4_price_24 : decode cX4_price 24 = .ok (.bipush (-2), 2) := by decide +kernel
theorem dX4_price_26 : decode cX4_price 26 = .ok (.invokevirtual 63, 3) := by decide +kernel
theorem dX4_price_29 : decode cX4_price 29 = .ok (.ireturn, 1) := by decide +kernel
theorem dX4_price_30 : decode cX4_price 30 = .ok (.aload_n 0, 1) := by decide +kernel
theorem dX4_price_31 : decode cX4_price 31 = .ok (.getfield 10, 3) := by decide +kernel
theorem dX4_price_34 : decode cX4_price 34 = .ok (.getfield 100, 3) := by decide +kernel
theorem dX4_price_37 : decode cX4_price 37 = .ok (.iload_n 1, 1) := by decide +kernel
theorem dX4_price_38 : decode cX4_price 38 = .ok (.iaload, 1) := by decide +kernel
theorem dX4_price_39 : decode cX4_price 39 = .ok (.istore_n 3, 1) := by decide +kernel
theorem dX4_price_40 : decode cX4_price 40 = .ok (.aload_n 0, 1) := by decide +kernel
theorem dX4_price_41 : decode cX4_price 41 = .ok (.getfield 10, 3) := by decide +kernel
theorem dX4_price_44 : decode cX4_price 44 = .ok (.getfield 100, 3) := by decide +kernel
theorem dX4_price_47 : decode cX4_price 47 = .ok (.iload_n 1, 1) := by decide +kernel
theorem dX4_price_48 : decode cX4_price 48 = .ok (.iload_n 2, 1) := by decide +kernel
theorem dX4_price_49 : decode cX4_price 49 = .ok (.iastore, 1) := by decide +kernel
theorem dX4_price_50 : decode cX4_price 50 = .ok (.iload_n 3, 1) := by decide +kernel
theorem dX4_price_51 : decode cX4_price 51 = .ok (.ireturn, 1) := by decide +kernel
set_option maxRecDepth 20000 in
theorem ggX4_type_X4_isIn : GoodIn wsX4_type wsX4_isIn := goodIn_r _ [7] (by decide +kernel) (by decide +kernel)
set_option maxRecDepth 20000 in
theorem gX4_type_X4_isIn : GoodIn wsX4_type (va_wsS RX4 59 yX4_isIn wsX4_isIn) := goodIn_app (goodIn_of _ (by decide +kernel)) ggX4_type_X4_isIn
set_option maxRecDepth 20000 in
theorem ggX4_type_X4_refuse : GoodIn wsX4_type wsX4_refuse := goodIn_r _ [11, 12, 4, 5, 6, 7, 13, 14, 15, 16, 17, 18, 19, 20, 21] (by decide +kernel) (by decide +kernel)
set_option maxRecDepth 20000 in
theorem gX4_type_X4_refuse : GoodIn wsX4_type (wsV RX4 63 RX4 yX4_refuse wsX4_refuse) := goodIn_app (goodIn_of _ (by decide +kernel)) ggX4_type_X4_refuse
theorem dX4_type_0 : decode cX4_type 0 = .ok (.iload_n 3, 1) := by decide +kernel
theorem dX4_type_1 : decode cX4_type 1 = .ok (.iconst 1, 1) := by decide +kernel
theorem dX4_type_2 : decode cX4_type 2 = .ok (.bipush 8, 2) := by decide +kernel
theorem dX4_type_4 : decode cX4_type 4 = .ok (.invokestatic 59, 3) := by decide +kernel
theorem dX4_type_7 : decode cX4_type 7 = .ok (.ifCond .ne 12, 3) := by decide +kernel
theorem dX4_type_10 : decode cX4_type 10 = .ok (.aload_n 0, 1) := by decide +kernel
theorem dX4_type_11 : decode cX4_type 11 = .ok (.bipush (-2), 2) := by decide +kernel
theorem dX4_type_13 : decode cX4_type 13 = .ok (.bipush (-2), 2) := by decide +kernel
theorem dX4_type_15 : decode cX4_type 15 = .ok (.invokevirtual 63, 3) := by decide +kernel
theorem dX4_type_18 : decode cX4_type 18 = .ok (.ireturn, 1) := by decide +kernel
theorem dX4_type_19 : decode cX4_type 19 = .ok (.aload_n 0, 1) := by decide +kernel
theorem dX4_type_20 : decode cX4_type 20 = .ok (.getfield 10, 3) := by decide +kernel
theorem dX4_type_23 : decode cX4_type 23 = .ok (.getfield 103, 3) := by decide +kernel
theorem dX4_type_26 : decode cX4_type 26 = .ok (.iload_n 3, 1) := by decide +kernel
theorem dX4_type_27 : decode cX4_type 27 = .ok (.iadd, 1) := by decide +kernel
theorem dX4_type_28 : decode cX4_type 28 = .ok (.sipush 200, 3) := by decide +kernel
theorem dX4_type_31 : decode cX4_type 31 = .ok (.if_icmp .le 12, 3) := by decide +kernel
theorem dX4_type_34 : decode cX4_type 34 = .ok (.aload_n 0, 1) := by decide +kernel
theorem dX4_type_35 : decode cX4_type 35 = .ok (.bipush (-4), 2) := by decide +kernel
theorem dX4_type_37 : decode cX4_type 37 = .ok (.bipush (-4), 2) := by decide +kernel
theorem dX4_type_39 : decode cX4_type 39 = .ok (.invokevirtual 63, 3) := by decide +kernel
theorem dX4_type_42 : decode cX4_type 42 = .ok (.ireturn, 1) := by decide +kernel
theorem dX4_type_43 : decode cX4_type 43 = .ok (.iload_n 3, 1) := by decide +kernel
theorem dX4_type_44 : decode cX4_type 44 = .ok (.iconst 1, 1) := by decide +kernel
theorem dX4_type_45 : decode cX4_type 45 = .ok (.isub, 1) := by decide +kernel
theorem dX4_type_46 : decode cX4_type 46 = .ok (.istore 4, 2) := by decide +kernel
theorem dX4_type_48 : decode cX4_type 48 = .ok (.iload 4, 2) := by decide +kernel
theorem dX4_type_50 : decode cX4_type 50 = .ok (.ifCond .lt 49, 3) := by decide +kernel
theorem dX4_type_53 : decode cX4_type 53 = .ok (.aload_n 0, 1) := by decide +kernel
theorem dX4_type_54 : decode cX4_type 54 = .ok (.getfield 10, 3) := by decide +kernel
theorem dX4_type_57 : decode cX4_type 57 = .ok (.getfield 106, 3) := by decide +kernel
theorem dX4_type_60 : decode cX4_type 60 = .ok (.aload_n 0, 1) := by decide +kernel
theorem dX4_type_61 : decode cX4_type 61 = .ok (.getfield 10, 3) := by decide +kernel
theorem dX4_type_64 : decode cX4_type 64 = .ok (.getfield 103, 3) := by decide +kernel
theorem dX4_type_67 : decode cX4_type 67 = .ok (.lload_n 1, 1) := by decide +kernel
theorem dX4_type_68 : decode cX4_type 68 = .ok (.bipush 8, 2) := by decide +kernel
theorem dX4_type_70 : decode cX4_type 70 = .ok (.iload 4, 2) := by decide +kernel
theorem dX4_type_72 : decode cX4_type 72 = .ok (.imul, 1) := by decide +kernel
theorem dX4_type_73 : decode cX4_type 73 = .ok (.lushr, 1) := by decide +kernel
theorem dX4_type_74 : decode cX4_type 74 = .ok (.l2i, 1) := by decide +kernel
theorem dX4_type_75 : decode cX4_type 75 = .ok (.sipush 255, 3) := by decide +kernel
theorem dX4_type_78 : decode cX4_type 78 = .ok (.iand, 1) := by decide +kernel
theorem dX4_type_79 : decode cX4_type 79 = .ok (.iastore, 1) := by decide +kernel
theorem dX4_type_80 : decode cX4_type 80 = .ok (.aload_n 0, 1) := by decide +kernel
theorem dX4_type_81 : decode cX4_type 81 = .ok (.getfield 10, 3) := by decide +kernel
theorem dX4_type_84 : decode cX4_type 84 = .ok (.dup, 1) := by decide +kernel
theorem dX4_type_85 : decode cX4_type 85 = .ok (.getfield 103, 3) := by decide +kernel
theorem dX4_type_88 : decode cX4_type 88 = .ok (.iconst 1, 1) := by decide +kernel
theorem dX4_type_89 : decode cX4_type 89 = .ok (.iadd, 1) := by decide +kernel
theorem dX4_type_90 : decode cX4_type 90 = .ok (.putfield 103, 3) := by decide +kernel
theorem dX4_type_93 : decode cX4_type 93 = .ok (.iinc 4 (-1), 3) := by decide +kernel
theorem dX4_type_96 : decode cX4_type 96 = .ok (.goto (-48), 3) := by decide +kernel
theorem dX4_type_99 : decode cX4_type 99 = .ok (.aload_n 0, 1) := by decide +kernel
theorem dX4_type_100 : decode cX4_type 100 = .ok (.getfield 10, 3) := by decide +kernel
theorem dX4_type_103 : decode cX4_type 103 = .ok (.getfield 103, 3) := by decide +kernel
theorem dX4_type_106 : decode cX4_type 106 = .ok (.ireturn, 1) := by decide +kernel
theorem dX4_clear_0 : decode cX4_clear 0 = .ok (.aload_n 0, 1) := by decide +kernel
theorem dX4_clear_1 : decode cX4_clear 1 = .ok (.getfield 10, 3) := by decide +kernel
theorem dX4_clear_4 : decode cX4_clear 4 = .ok (.getfield 103, 3) := by decide +kernel
theorem dX4_clear_7 : decode cX4_clear 7 = .ok (.istore_n 1, 1) := by decide +kernel
theorem dX4_clear_8 : decode cX4_clear 8 = .ok (.aload_n 0, 1) := by decide +kernel
theorem dX4_clear_9 : decode cX4_clear 9 = .ok (.getfield 10, 3) := by decide +kernel
theorem dX4_clear_12 : decode cX4_clear 12 = .ok (.iconst 0, 1) := by decide +kernel
theorem dX4_clear_13 : decode cX4_clear 13 = .ok (.putfield 103, 3) := by decide +kernel
theorem dX4_clear_16 : decode cX4_clear 16 = .ok (.iload_n 1, 1) := by decide +kernel
theorem dX4_clear_17 : decode cX4_clear 17 = .ok (.ireturn, 1) := by decide +kernel
set_option maxRecDepth 20000 in
theorem ggX4_read_X0_readRoad : GoodIn wsX4_read wsX0_readRoad := goodIn_r _ [9, 10, 11, 12, 13, 14, 15, 16, 17, 18, 19, 20, 21, 22, 23, 24, 25, 26, 27, 28, 29, 30, 31, 8, 32, 33, 34, 35, 36, 37, 38, 39, 40, 41, 42, 43, 44, 45, 46, 47, 48, 49, 50, 51, 52, 53, 54, 55, 56, 57, 58, 59, 60, 61, 62, 63, 64, 65, 66, 67, 68, 69, 70, 71, 72, 73, 74, 75, 76, 77, 78, 79, 80, 81, 82, 83, 84, 85, 86, 87, 88, 89, 90, 91, 92, 93, 94, 95, 96, 97, 98, 99, 100, 101, 102, 103, 104, 105, 106, 107, 108, 109, 110, 111, 112, 113, 114, 115, 116, 117, 118, 119, 120, 121, 122, 123, 124, 125, 126, 127, 128, 129, 130, 131, 132, 133, 134, 135, 136, 137, 138, 139, 140, 141, 142, 143, 144, 145, 146, 147, 148, 149, 150, 151, 152, 153, 154, 155, 156, 157, 175, 176, 177, 178, 179, 180, 181, 182, 183, 184, 185, 186, 187, 188, 189, 190, 191, 192, 193, 194, 195, 196, 197, 198, 199] (by decide +kernel) (by decide +kernel)
set_option maxRecDepth 20000 in
theorem gX4_read_X0_readRoad : GoodIn wsX4_read (wsV RX4 109 RX0 yX0_readRoad wsX0_readRoad) := goodIn_app (goodIn_of _ (by decide +kernel)) ggX4_read_X0_readRoad
set_option maxRecDepth 20000 in
theorem ggX4_read_X2_takeShopsOf : GoodIn wsX4_read wsX2_takeShopsOf := goodIn_r _ [161, 26, 124, 162, 163, 164, 165, 125, 126, 127, 128, 27, 28, 157, 184, 185, 186, 187, 188, 189, 190, 191, 192, 193, 194, 195, 196, 197, 198, 199] (by decide +kernel) (by decide +kernel)
set_option maxRecDepth 20000 in
theorem gX4_read_X2_takeShopsOf : GoodIn wsX4_read (wsV RX4 119 RX2 yX2_takeShopsOf wsX2_takeShopsOf) := goodIn_app (goodIn_of _ (by decide +kernel)) ggX4_read_X2_takeShopsOf
theorem dX4_read_0 : decode cX4_read 0 = .ok (.aload_n 0, 1) := by decide +kernel
theorem dX4_read_1 : decode cX4_read 1 = .ok (.getfield 45, 3) := by decide +kernel
theorem dX4_read_4 : decode cX4_read 4 = .ok (.invokevirtual 109, 3) := by decide +kernel
theorem dX4_read_7 : decode cX4_read 7 = .ok (.istore_n 1, 1) := by decide +kernel
theorem dX4_read_8 : decode cX4_read 8 = .ok (.aload_n 0, 1) := by decide +kernel
theorem dX4_read_9 : decode cX4_read 9 = .ok (.getfield 45, 3) := by decide +kernel
theorem dX4_read_12 : decode cX4_read 12 = .ok (.getfield 113, 3) := by decide +kernel
theorem dX4_read_15 : decode cX4_read 15 = .ok (.iconst (-1), 1) := by decide +kernel
theorem dX4_read_16 : decode cX4_read 16 = .ok (.if_icmp .eq 14, 3) := by decide +kernel
theorem dX4_read_19 : decode cX4_read 19 = .ok (.bipush (-10), 2) := by decide +kernel
theorem dX4_read_21 : decode cX4_read 21 = .ok (.aload_n 0, 1) := by decide +kernel
theorem dX4_read_22 : decode cX4_read 22 = .ok (.getfield 45, 3) := by decide +kernel
theorem dX4_read_25 : decode cX4_read 25 = .ok (.getfield 113, 3) := by decide +kernel
theorem dX4_read_28 : decode cX4_read 28 = .ok (.isub, 1) := by decide +kernel
theorem dX4_read_29 : decode cX4_read 29 = .ok (.ireturn, 1) := by decide +kernel
theorem dX4_read_30 : decode cX4_read 30 = .ok (.aload_n 0, 1) := by decide +kernel
theorem dX4_read_31 : decode cX4_read 31 = .ok (.getfield 10, 3) := by decide +kernel
theorem dX4_read_34 : decode cX4_read 34 = .ok (.aload_n 0, 1) := by decide +kernel
theorem dX4_read_35 : decode cX4_read 35 = .ok (.getfield 45, 3) := by decide +kernel
theorem dX4_read_38 : decode cX4_read 38 = .ok (.getfield 116, 3) := by decide +kernel
theorem dX4_read_41 : decode cX4_read 41 = .ok (.invokevirtual 119, 3) := by decide +kernel
theorem dX4_read_44 : decode cX4_read 44 = .ok (.iload_n 1, 1) := by decide +kernel
theorem dX4_read_45 : decode cX4_read 45 = .ok (.ireturn, 1) := by decide +kernel
set_option maxRecDepth 20000 in
theorem ggX4_errand_X4_isIn : GoodIn wsX4_errand wsX4_isIn := goodIn_r _ [9] (by decide +kernel) (by decide +kernel)
set_option maxRecDepth 20000 in
theorem gX4_errand_X4_isIn : GoodIn wsX4_errand (va_wsS RX4 59 yX4_isIn wsX4_isIn) := goodIn_app (goodIn_of _ (by decide +kernel)) ggX4_errand_X4_isIn
set_option maxRecDepth 20000 in
theorem ggX4_errand_X4_refuse : GoodIn wsX4_errand wsX4_refuse := goodIn_r _ [13, 14, 6, 7, 8, 9, 70, 71, 72, 73, 74, 75, 76, 77, 78] (by decide +kernel) (by decide +kernel)
set_option maxRecDepth 20000 in
theorem gX4_errand_X4_refuse : GoodIn wsX4_errand (wsV RX4 63 RX4 yX4_refuse wsX4_refuse) := goodIn_app (goodIn_of _ (by decide +kernel)) ggX4_errand_X4_refuse
set_option maxRecDepth 20000 in
theorem ggX4_errand_X3_goErrand : GoodIn wsX4_errand wsX3_goErrand := goodIn_r _ [19, 20, 21, 22, 23, 24, 25, 26, 18, 27, 28, 29, 30, 31, 32, 33, 34, 35, 36, 37, 38, 39, 40, 41, 42, 43, 44, 45, 46, 47, 48, 49, 50, 51, 52, 53, 54, 55, 56, 57, 58, 59, 60, 61, 62, 63, 64, 65, 66, 67, 68, 69, 79, 80, 81, 82, 83, 84, 85, 86, 87, 88, 89, 90, 91, 92, 93, 94, 95, 96, 97, 98, 99, 100, 101] (by decide +kernel) (by decide +kernel)
set_option maxRecDepth 20000 in
theorem gX4_errand_X3_goErrand : GoodIn wsX4_errand (wsV RX4 122 RX3 yX3_goErrand wsX3_goErrand) := goodIn_app (goodIn_of _ (by decide +kernel)) ggX4_errand_X3_goErrand
theorem dX4_errand_0 : decode cX4_errand 0 = .ok (.iload_n 1, 1) := by decide +kernel
theorem dX4_errand_1 : decode cX4_errand 1 = .ok (.iconst 0, 1) := by decide +kernel
theorem dX4_errand_2 : decode cX4_errand 2 = .ok (.iconst 3, 1) := by decide +kernel
theorem dX4_errand_3 : decode cX4_errand 3 = .ok (.invokestatic 59, 3) := by decide +kernel
theorem dX4_errand_6 : decode cX4_errand 6 = .ok (.ifCond .ne 12, 3) := by decide +kernel
theorem dX4_errand_9 : decode cX4_errand 9 = .ok (.aload_n 0, 1) := by decide +kernel
theorem dX4_errand_10 : decode cX4_errand 10 = .ok (.bipush (-2), 2) := by decide +kernel
theorem dX4_errand_12 : decode cX4_errand 12 = .ok (.bipush (-2), 2) := by decide +kernel
theorem dX4_errand_14 : decode cX4_errand 14 = .ok (.invokevirtual 63, 3) := by decide +kernel
theorem dX4_errand_17 : decode cX4_errand 17 = .ok (.ireturn, 1) := by decide +kernel
theorem dX4_errand_18 : decode cX4_errand 18 = .ok (.aload_n 0, 1) := by decide +kernel
theorem dX4_errand_19 : decode cX4_errand 19 = .ok (.getfield 29, 3) := by decide +kernel
theorem dX4_errand_22 : decode cX4_errand 22 = .ok (.invokevirtual 122, 3) := by decide +kernel
theorem dX4_errand_25 : decode cX4_errand 25 = .ok (.istore_n 2, 1) := by decide +kernel
theorem dX4_errand_26 : decode cX4_errand 26 = .ok (.aload_n 0, 1) := by decide +kernel
theorem dX4_errand_27 : decode cX4_errand 27 = .ok (.getfield 29, 3) := by decide +kernel
theorem dX4_errand_30 : decode cX4_errand 30 = .ok (.getfield 125, 3) := by decide +kernel
theorem dX4_errand_33 : decode cX4_errand 33 = .ok (.istore_n 3, 1) := by decide +kernel
theorem dX4_errand_34 : decode cX4_errand 34 = .ok (.iload_n 1, 1) := by decide +kernel
theorem dX4_errand_35 : decode cX4_errand 35 = .ok (.tableswitch 60 0 2 #[25, 40, 50], 25) := by decide +kernel
theorem dX4_errand_60 : decode cX4_errand 60 = .ok (.iload_n 2, 1) := by decide +kernel
theorem dX4_errand_61 : decode cX4_errand 61 = .ok (.ifCond .ne 7, 3) := by decide +kernel
theorem dX4_errand_64 : decode cX4_errand 64 = .ok (.iconst (-1), 1) := by decide +kernel
theorem dX4_errand_65 : decode cX4_errand 65 = .ok (.goto 9, 3) := by decide +kernel
theorem dX4_errand_68 : decode cX4_errand 68 = .ok (.bipush 10, 2) := by decide +kernel
theorem dX4_errand_70 : decode cX4_errand 70 = .ok (.iload_n 3, 1) := by decide +kernel
theorem dX4_errand_71 : decode cX4_errand 71 = .ok (.imul, 1) := by decide +kernel
theorem dX4_errand_72 : decode cX4_errand 72 = .ok (.iload_n 2, 1) := by decide +kernel
theorem dX4_errand_73 : decode cX4_errand 73 = .ok (.iadd, 1) := by decide +kernel
theorem dX4_errand_74 : decode cX4_errand 74 = .ok (.ireturn, 1) := by decide +kernel
theorem dX4_errand_75 : decode cX4_errand 75 = .ok (.aload_n 0, 1) := by decide +kernel
theorem dX4_errand_76 : decode cX4_errand 76 = .ok (.getfield 29, 3) := by decide +kernel
theorem dX4_errand_79 : decode cX4_errand 79 = .ok (.getfield 128, 3) := by decide +kernel
theorem dX4_errand_82 : decode cX4_errand 82 = .ok (.iload_n 3, 1) := by decide +kernel
theorem dX4_errand_83 : decode cX4_errand 83 = .ok (.iaload, 1) := by decide +kernel
theorem dX4_errand_84 : decode cX4_errand 84 = .ok (.ireturn, 1) := by decide +kernel
theorem dX4_errand_85 : decode cX4_errand 85 = .ok (.aload_n 0, 1) := by decide +kernel
theorem dX4_errand_86 : decode cX4_errand 86 = .ok (.getfield 29, 3) := by decide +kernel
theorem dX4_errand_89 : decode cX4_errand 89 = .ok (.getfield 131, 3) := by decide +kernel
theorem dX4_errand_92 : decode cX4_errand 92 = .ok (.iload_n 3, 1) := by decide +kernel
theorem dX4_errand_93 : decode cX4_errand 93 = .ok (.iaload, 1) := by decide +kernel
theorem dX4_errand_94 : decode cX4_errand 94 = .ok (.ireturn, 1) := by decide +kernel
theorem dX4_errand_95 : decode cX4_errand 95 = .ok (.aload_n 0, 1) := by decide +kernel
theorem dX4_errand_96 : decode cX4_errand 96 = .ok (.getfield 29, 3) := by decide +kernel
theorem dX4_errand_99 : decode cX4_errand 99 = .ok (.getfield 134, 3) := by decide +kernel
theorem dX4_errand_102 : decode cX4_errand 102 = .ok (.iload_n 3, 1) := by decide +kernel
theorem dX4_errand_103 : decode cX4_errand 103 = .ok (.iaload, 1) := by decide +kernel
theorem dX4_errand_104 : decode cX4_errand 104 = .ok (.ireturn, 1) := by decide +kernel
set_option maxRecDepth 20000 in
theorem ggX4_cheapest_X4_areGoods : GoodIn wsX4_cheapest wsX4_areGoods := goodIn_r _ [11, 2, 12, 13, 14, 10, 15, 113, 114, 115, 116, 117, 118, 119, 120, 121, 122, 123, 124, 125, 126, 127, 128, 129, 130, 131, 132, 133, 134, 135, 136, 137] (by decide +kernel) (by decide +kernel)
set_option maxRecDepth 20000 in
theorem gX4_cheapest_X4_areGoods : GoodIn wsX4_cheapest (wsV RX4 137 RX4 yX4_areGoods wsX4_areGoods) := goodIn_app (goodIn_of _ (by decide +kernel)) ggX4_cheapest_X4_areGoods
set_option maxRecDepth 20000 in
theorem ggX4_cheapest_X4_isIn : GoodIn wsX4_cheapest wsX4_isIn := goodIn_r _ [15] (by decide +kernel) (by decide +kernel)
set_option maxRecDepth 20000 in
theorem gX4_cheapest_X4_isIn : GoodIn wsX4_cheapest (va_wsS RX4 59 yX4_isIn wsX4_isIn) := goodIn_app (goodIn_of _ (by decide +kernel)) ggX4_cheapest_X4_isIn
set_option maxRecDepth 20000 in
theorem ggX4_cheapest_X4_refuse : GoodIn wsX4_cheapest wsX4_refuse := goodIn_r _ [19, 20, 13, 14, 10, 15, 113, 114, 115, 116, 117, 118, 119, 120, 121] (by decide +kernel) (by decide +kernel)
set_option maxRecDepth 20000 in
theorem gX4_cheapest_X4_refuse : GoodIn wsX4_cheapest (wsV RX4 63 RX4 yX4_refuse wsX4_refuse) := goodIn_app (goodIn_of _ (by decide +kernel)) ggX4_cheapest_X4_refuse
set_option maxRecDepth 20000 in
theorem ggX4_cheapest_X1_findCheapest : GoodIn wsX4_cheapest wsX1_findCheapest := goodIn_r _ [25, 26, 27, 28, 29, 30, 31, 24, 32, 33, 34, 35, 36, 37, 38, 39, 40, 41, 42, 43, 44, 45, 46, 47, 48, 49, 50, 51, 52, 53, 54, 55, 56, 57, 58, 59, 60, 61, 62, 63, 64, 65, 66, 67, 68, 69, 70, 71, 72, 73, 74, 75, 76, 77, 78, 79, 80, 81, 82, 83, 84, 85, 86, 87, 88, 89, 90, 91, 92, 93, 94, 95, 96, 97, 98, 99, 100, 101, 102, 103, 104, 105, 106, 107, 108, 109, 110, 111, 112, 138, 139, 140, 141, 142, 143, 144, 145, 146, 147, 148, 149, 150, 151, 152, 153, 154, 155, 156, 122, 123, 124, 125, 126, 127, 128, 129, 130, 131, 132, 133, 134, 135, 136, 137] (by decide +kernel) (by decide +kernel)
set_option maxRecDepth 20000 in
theorem gX4_cheapest_X1_findCheapest : GoodIn wsX4_cheapest (wsV RX4 140 RX1 yX1_findCheapest wsX1_findCheapest) := goodIn_app (goodIn_of _ (by decide +kernel)) ggX4_cheapest_X1_findCheapest
theorem dX4_cheapest_0 : decode cX4_cheapest 0 = .ok (.aload_n 0, 1) := by decide +kernel
theorem dX4_cheapest_1 : decode cX4_cheapest 1 = .ok (.iload_n 1, 1) := by decide +kernel
theorem dX4_cheapest_2 : decode cX4_cheapest 2 = .ok (.invokevirtual 137, 3) := by decide +kernel
theorem dX4_cheapest_5 : decode cX4_cheapest 5 = .ok (.ifCond .eq 12, 3) := by decide +kernel
theorem dX4_cheapest_8 : decode cX4_cheapest 8 = .ok (.iload_n 2, 1) := by decide +kernel
theorem dX4_cheapest_9 : decode cX4_cheapest 9 = .ok (.iconst 0, 1) := by decide +kernel
theorem dX4_cheapest_10 : decode cX4_cheapest 10 = .ok (.iconst 2, 1) := by decide +kernel
theorem dX4_cheapest_11 : decode cX4_cheapest 11 = .ok (.invokestatic 59, 3) := by decide +kernel
theorem dX4_cheapest_14 : decode cX4_cheapest 14 = .ok (.ifCond .ne 12, 3) := by decide +kernel
theorem dX4_cheapest_17 : decode cX4_cheapest 17 = .ok (.aload_n 0, 1) := by decide +kernel
theorem dX4_cheapest_18 : decode cX4_cheapest 18 = .ok (.bipush (-2), 2) := by decide +kernel
theorem dX4_cheapest_20 : decode cX4_cheapest 20 = .ok (.bipush (-2), 2) := by decide +kernel
theorem dX4_cheapest_22 : decode cX4_cheapest 22 = .ok (.invokevirtual 63, 3) := by decide +kernel
theorem dX4_cheapest_25 : decode cX4_cheapest 25 = .ok (.ireturn, 1) := by decide +kernel
theorem dX4_cheapest_26 : decode cX4_cheapest 26 = .ok (.aload_n 0, 1) := by decide +kernel
theorem dX4_cheapest_27 : decode cX4_cheapest 27 = .ok (.getfield 38, 3) := by decide +kernel
theorem dX4_cheapest_30 : decode cX4_cheapest 30 = .ok (.iload_n 1, 1) := by decide +kernel
theorem dX4_cheapest_31 : decode cX4_cheapest 31 = .ok (.aload_n 0, 1) := by decide +kernel
theorem dX4_cheapest_32 : decode cX4_cheapest 32 = .ok (.getfield 10, 3) := by decide +kernel
theorem dX4_cheapest_35 : decode cX4_cheapest 35 = .ok (.getfield 94, 3) := by decide +kernel
theorem dX4_cheapest_38 : decode cX4_cheapest 38 = .ok (.iconst 0, 1) := by decide +kernel
theorem dX4_cheapest_39 : decode cX4_cheapest 39 = .ok (.invokevirtual 140, 3) := by decide +kernel
theorem dX4_cheapest_42 : decode cX4_cheapest 42 = .ok (.ifCond .ne 5, 3) := by decide +kernel
theorem dX4_cheapest_45 : decode cX4_cheapest 45 = .ok (.iconst (-1), 1) := by decide +kernel
theorem dX4_cheapest_46 : decode cX4_cheapest 46 = .ok (.ireturn, 1) := by decide +kernel
theorem dX4_cheapest_47 : decode cX4_cheapest 47 = .ok (.iload_n 2, 1) := by decide +kernel
theorem dX4_cheapest_48 : decode cX4_cheapest 48 = .ok (.ifCond .ne 11, 3) := by decide +kernel
theorem dX4_cheapest_51 : decode cX4_cheapest 51 = .ok (.aload_n 0, 1) := by decide +kernel
theorem dX4_cheapest_52 : decode cX4_cheapest 52 = .ok (.getfield 38, 3) := by decide +kernel
theorem dX4_cheapest_55 : decode cX4_cheapest 55 = .ok (.getfield 143, 3) := by decide +kernel
theorem dX4_cheapest_58 : decode cX4_cheapest 58 = .ok (.ireturn, 1) := by decide +kernel
theorem dX4_cheapest_59 : decode cX4_cheapest 59 = .ok (.iload_n 2, 1) := by decide +kernel
theorem dX4_cheapest_60 : decode cX4_cheapest 60 = .ok (.iconst 1, 1) := by decide +kernel
theorem dX4_cheapest_61 : decode cX4_cheapest 61 = .ok (.if_icmp .ne 13, 3) := by decide +kernel
theorem dX4_cheapest_64 : decode cX4_cheapest 64 = .ok (.aload_n 0, 1) := by decide +kernel
theorem dX4_cheapest_65 : decode cX4_cheapest 65 = .ok (.getfield 38, 3) := by decide +kernel
theorem dX4_cheapest_68 : decode cX4_cheapest 68 = .ok (.getfield 146, 3) := by decide +kernel
theorem dX4_cheapest_71 : decode cX4_cheapest 71 = .ok (.goto 10, 3) := by decide +kernel
theorem dX4_cheapest_74 : decode cX4_cheapest 74 = .ok (.aload_n 0, 1) := by decide +kernel
theorem dX4_cheapest_75 : decode cX4_cheapest 75 = .ok (.getfield 38, 3) := by decide +kernel
theorem dX4_cheapest_78 : decode cX4_cheapest 78 = .ok (.getfield 147, 3) := by decide +kernel
theorem dX4_cheapest_81 : decode cX4_cheapest 81 = .ok (.ireturn, 1) := by decide +kernel
set_option maxRecDepth 20000 in
theorem ggX4_row_X4_areGoods : GoodIn wsX4_row wsX4_areGoods := goodIn_r _ [10, 2, 11, 12, 13, 9, 14, 112, 113, 114, 115, 116, 117, 118, 119, 120, 121, 122, 123, 124, 125, 126, 127, 128, 129, 130, 131, 132, 133, 134, 135, 136] (by decide +kernel) (by decide +kernel)
set_option maxRecDepth 20000 in
theorem gX4_row_X4_areGoods : GoodIn wsX4_row (wsV RX4 137 RX4 yX4_areGoods wsX4_areGoods) := goodIn_app (goodIn_of _ (by decide +kernel)) ggX4_row_X4_areGoods
set_option maxRecDepth 20000 in
theorem ggX4_row_X4_refuse : GoodIn wsX4_row wsX4_refuse := goodIn_r _ [18, 19, 12, 13, 9, 14, 112, 113, 114, 115, 116, 117, 118, 119, 120] (by decide +kernel) (by decide +kernel)
set_option maxRecDepth 20000 in
theorem gX4_row_X4_refuse : GoodIn wsX4_row (wsV RX4 63 RX4 yX4_refuse wsX4_refuse) := goodIn_app (goodIn_of _ (by decide +kernel)) ggX4_row_X4_refuse
set_option maxRecDepth 20000 in
theorem ggX4_row_X1_findCheapest : GoodIn wsX4_row wsX1_findCheapest := goodIn_r _ [24, 25, 26, 27, 28, 29, 30, 23, 31, 32, 33, 34, 35, 36, 37, 38, 39, 40, 41, 42, 43, 44, 45, 46, 47, 48, 49, 50, 51, 52, 53, 54, 55, 56, 57, 58, 59, 60, 61, 62, 63, 64, 65, 66, 67, 68, 69, 70, 71, 72, 73, 74, 75, 76, 77, 78, 79, 80, 81, 82, 83, 84, 85, 86, 87, 88, 89, 90, 91, 92, 93, 94, 95, 96, 97, 98, 99, 100, 101, 102, 103, 104, 105, 106, 107, 108, 109, 110, 111, 137, 138, 139, 140, 141, 142, 143, 144, 145, 146, 147, 148, 149, 150, 151, 152, 153, 154, 155, 121, 122, 123, 124, 125, 126, 127, 128, 129, 130, 131, 132, 133, 134, 135, 136] (by decide +kernel) (by decide +kernel)
set_option maxRecDepth 20000 in
theorem gX4_row_X1_findCheapest : GoodIn wsX4_row (wsV RX4 140 RX1 yX1_findCheapest wsX1_findCheapest) := goodIn_app (goodIn_of _ (by decide +kernel)) ggX4_row_X1_findCheapest
theorem dX4_row_0 : decode cX4_row 0 = .ok (.aload_n 0, 1) := by decide +kernel
theorem dX4_row_1 : decode cX4_row 1 = .ok (.iload_n 1, 1) := by decide +kernel
theorem dX4_row_2 : decode cX4_row 2 = .ok (.invokevirtual 137, 3) := by decide +kernel
theorem dX4_row_5 : decode cX4_row 5 = .ok (.ifCond .eq 7, 3) := by decide +kernel
theorem dX4_row_8 : decode cX4_row 8 = .ok (.iload_n 2, 1) := by decide +kernel
theorem dX4_row_9 : decode cX4_row 9 = .ok (.ifCond .ge 12, 3) := by decide +kernel
theorem dX4_row_12 : decode cX4_row 12 = .ok (.aload_n 0, 1) := by decide +kernel
theorem dX4_row_13 : decode cX4_row 13 = .ok (.bipush (-2), 2) := by decide +kernel
theorem dX4_row_15 : decode cX4_row 15 = .ok (.bipush (-10), 2) := by decide +kernel
theorem dX4_row_17 : decode cX4_row 17 = .ok (.invokevirtual 63, 3) := by decide +kernel
theorem dX4_row_20 : decode cX4_row 20 = .ok (.ireturn, 1) := by decide +kernel
theorem dX4_row_21 : decode cX4_row 21 = .ok (.aload_n 0, 1) := by decide +kernel
theorem dX4_row_22 : decode cX4_row 22 = .ok (.getfield 38, 3) := by decide +kernel
theorem dX4_row_25 : decode cX4_row 25 = .ok (.iload_n 1, 1) := by decide +kernel
theorem dX4_row_26 : decode cX4_row 26 = .ok (.aload_n 0, 1) := by decide +kernel
theorem dX4_row_27 : decode cX4_row 27 = .ok (.getfield 10, 3) := by decide +kernel
theorem dX4_row_30 : decode cX4_row 30 = .ok (.getfield 94, 3) := by decide +kernel
theorem dX4_row_33 : decode cX4_row 33 = .ok (.iconst 0, 1) := by decide +kernel
theorem dX4_row_34 : decode cX4_row 34 = .ok (.invokevirtual 140, 3) := by decide +kernel
theorem dX4_row_37 : decode cX4_row 37 = .ok (.ifCond .eq 14, 3) := by decide +kernel
theorem dX4_row_40 : decode cX4_row 40 = .ok (.iload_n 2, 1) := by decide +kernel
theorem dX4_row_41 : decode cX4_row 41 = .ok (.aload_n 0, 1) := by decide +kernel
theorem dX4_row_42 : decode cX4_row 42 = .ok (.getfield 38, 3) := by decide +kernel
theorem dX4_row_45 : decode cX4_row 45 = .ok (.getfield 146, 3) := by decide +kernel
theorem dX4_row_48 : decode cX4_row 48 = .ok (.if_icmp .lt 6, 3) := by decide +kernel
theorem dX4_row_51 : decode cX4_row 51 = .ok (.bipush (-5), 2) := by decide +kernel
theorem dX4_row_53 : decode cX4_row 53 = .ok (.ireturn, 1) := by decide +kernel
theorem dX4_row_54 : decode cX4_row 54 = .ok (.aload_n 0, 1) := by decide +kernel
theorem dX4_row_55 : decode cX4_row 55 = .ok (.getfield 38, 3) := by decide +kernel
theorem dX4_row_58 : decode cX4_row 58 = .ok (.getfield 150, 3) := by decide +kernel
theorem dX4_row_61 : decode cX4_row 61 = .ok (.iload_n 2, 1) := by decide +kernel
theorem dX4_row_62 : decode cX4_row 62 = .ok (.iaload, 1) := by decide +kernel
theorem dX4_row_63 : decode cX4_row 63 = .ok (.ireturn, 1) := by decide +kernel
set_option maxRecDepth 20000 in
theorem ggX4_soonest_X4_areGoods : GoodIn wsX4_soonest wsX4_areGoods := goodIn_r _ [7, 8, 9, 10, 11, 6, 12, 110, 111, 112, 113, 114, 115, 116, 117, 118, 131, 132, 133, 134, 135, 136, 137, 138, 139, 140, 141, 142, 143, 144, 145, 146] (by decide +kernel) (by decide +kernel)
set_option maxRecDepth 20000 in
theorem gX4_soonest_X4_areGoods : GoodIn wsX4_soonest (wsV RX4 137 RX4 yX4_areGoods wsX4_areGoods) := goodIn_app (goodIn_of _ (by decide +kernel)) ggX4_soonest_X4_areGoods
set_option maxRecDepth 20000 in
theorem ggX4_soonest_X4_refuse : GoodIn wsX4_soonest wsX4_refuse := goodIn_r _ [16, 17, 10, 11, 6, 12, 110, 111, 112, 113, 114, 115, 116, 117, 118] (by decide +kernel) (by decide +kernel)
set_option maxRecDepth 20000 in
theorem gX4_soonest_X4_refuse : GoodIn wsX4_soonest (wsV RX4 63 RX4 yX4_refuse wsX4_refuse) := goodIn_app (goodIn_of _ (by decide +kernel)) ggX4_soonest_X4_refuse
set_option maxRecDepth 20000 in
theorem ggX4_soonest_X1_findSoonest : GoodIn wsX4_soonest wsX1_findSoonest := goodIn_r _ [22, 23, 24, 25, 26, 27, 28, 21, 29, 30, 31, 32, 33, 34, 35, 36, 37, 38, 39, 40, 41, 42, 43, 44, 45, 46, 47, 48, 49, 50, 51, 52, 53, 54, 55, 56, 57, 58, 59, 60, 61, 62, 63, 64, 65, 66, 67, 68, 69, 70, 71, 72, 73, 74, 75, 76, 77, 78, 79, 80, 81, 82, 83, 84, 85, 86, 87, 88, 89, 90, 91, 92, 93, 94, 95, 96, 97, 98, 99, 100, 101, 102, 103, 104, 105, 106, 107, 108, 109, 119, 120, 121, 122, 123, 124, 125, 126, 127, 128, 129, 130, 147, 148, 149, 150, 151, 152, 153, 131, 132, 133, 134, 135, 136, 137, 138, 139, 140, 141, 142, 143, 144, 145, 146] (by decide +kernel) (by decide +kernel)
set_option maxRecDepth 20000 in
theorem gX4_soonest_X1_findSoonest : GoodIn wsX4_soonest (wsV RX4 153 RX1 yX1_findSoonest wsX1_findSoonest) := goodIn_app (goodIn_of _ (by decide +kernel)) ggX4_soonest_X1_findSoonest
theorem dX4_soonest_0 : decode cX4_soonest 0 = .ok (.aload_n 0, 1) := by decide +kernel
theorem dX4_soonest_1 : decode cX4_soonest 1 = .ok (.iload_n 1, 1) := by decide +kernel
theorem dX4_soonest_2 : decode cX4_soonest 2 = .ok (.invokevirtual 137, 3) := by decide +kernel
theorem dX4_soonest_5 : decode cX4_soonest 5 = .ok (.ifCond .ne 12, 3) := by decide +kernel
theorem dX4_soonest_8 : decode cX4_soonest 8 = .ok (.aload_n 0, 1) := by decide +kernel
theorem dX4_soonest_9 : decode cX4_soonest 9 = .ok (.bipush (-2), 2) := by decide +kernel
theorem dX4_soonest_11 : decode cX4_soonest 11 = .ok (.bipush (-2), 2) := by decide +kernel
theorem dX4_soonest_13 : decode cX4_soonest 13 = .ok (.invokevirtual 63, 3) := by decide +kernel
theorem dX4_soonest_16 : decode cX4_soonest 16 = .ok (.ireturn, 1) := by decide +kernel
theorem dX4_soonest_17 : decode cX4_soonest 17 = .ok (.aload_n 0, 1) := by decide +kernel
theorem dX4_soonest_18 : decode cX4_soonest 18 = .ok (.getfield 38, 3) := by decide +kernel
theorem dX4_soonest_21 : decode cX4_soonest 21 = .ok (.iload_n 1, 1) := by decide +kernel
theorem dX4_soonest_22 : decode cX4_soonest 22 = .ok (.invokevirtual 153, 3) := by decide +kernel
theorem dX4_soonest_25 : decode cX4_soonest 25 = .ok (.ifCond .eq 13, 3) := by decide +kernel
theorem dX4_soonest_28 : decode cX4_soonest 28 = .ok (.aload_n 0, 1) := by decide +kernel
theorem dX4_soonest_29 : decode cX4_soonest 29 = .ok (.getfield 38, 3) := by decide +kernel
theorem dX4_soonest_32 : decode cX4_soonest 32 = .ok (.getfield 147, 3) := by decide +kernel
theorem dX4_soonest_35 : decode cX4_soonest 35 = .ok (.goto 4, 3) := by decide +kernel
theorem dX4_soonest_38 : decode cX4_soonest 38 = .ok (.iconst (-1), 1) := by decide +kernel
theorem dX4_soonest_39 : decode cX4_soonest 39 = .ok (.ireturn, 1) := by decide +kernel
set_option maxRecDepth 20000 in
theorem ggX4_worth_X4_areGoods : GoodIn wsX4_worth wsX4_areGoods := goodIn_r _ [9, 1, 10, 11, 12, 8, 13, 124, 125, 126, 127, 128, 129, 130, 131, 132, 133, 134, 135, 136, 137, 138, 139, 140, 141, 142, 143, 144, 145, 146, 147, 148] (by decide +kernel) (by decide +kernel)
set_option maxRecDepth 20000 in
theorem gX4_worth_X4_areGoods : GoodIn wsX4_worth (wsV RX4 137 RX4 yX4_areGoods wsX4_areGoods) := goodIn_app (goodIn_of _ (by decide +kernel)) ggX4_worth_X4_areGoods
set_option maxRecDepth 20000 in
theorem ggX4_worth_X2_hasShop : GoodIn wsX4_worth wsX2_hasShop := goodIn_r _ [18, 19, 133, 134, 135, 136, 137, 138, 139, 140, 141, 142, 143, 144, 145, 146, 147, 148] (by decide +kernel) (by decide +kernel)
set_option maxRecDepth 20000 in
theorem gX4_worth_X2_hasShop : GoodIn wsX4_worth (wsV RX4 75 RX2 yX2_hasShop wsX2_hasShop) := goodIn_app (goodIn_of _ (by decide +kernel)) ggX4_worth_X2_hasShop
set_option maxRecDepth 20000 in
theorem ggX4_worth_X2_isFree : GoodIn wsX4_worth wsX2_isFree := goodIn_r _ [23, 24, 133, 134, 135, 136, 137, 138, 139, 140, 141, 142, 143, 144, 145, 146, 147, 148] (by decide +kernel) (by decide +kernel)
set_option maxRecDepth 20000 in
theorem gX4_worth_X2_isFree : GoodIn wsX4_worth (wsV RX4 87 RX2 yX2_isFree wsX2_isFree) := goodIn_app (goodIn_of _ (by decide +kernel)) ggX4_worth_X2_isFree
set_option maxRecDepth 20000 in
theorem ggX4_worth_X4_refuse : GoodIn wsX4_worth wsX4_refuse := goodIn_r _ [28, 29, 11, 12, 8, 13, 124, 125, 126, 127, 128, 129, 130, 131, 132] (by decide +kernel) (by decide +kernel)
set_option maxRecDepth 20000 in
theorem gX4_worth_X4_refuse : GoodIn wsX4_worth (wsV RX4 63 RX4 yX4_refuse wsX4_refuse) := goodIn_app (goodIn_of _ (by decide +kernel)) ggX4_worth_X4_refuse
set_option maxRecDepth 20000 in
theorem ggX4_worth_X1_findCheapest : GoodIn wsX4_worth wsX1_findCheapest := goodIn_r _ [34, 35, 36, 37, 38, 39, 40, 33, 41, 42, 43, 44, 45, 46, 47, 48, 49, 50, 51, 52, 53, 54, 55, 56, 57, 58, 59, 60, 61, 62, 63, 64, 65, 66, 67, 68, 69, 70, 71, 72, 73, 74, 75, 76, 77, 78, 79, 80, 81, 82, 83, 84, 85, 86, 87, 88, 89, 90, 91, 92, 93, 94, 95, 96, 97, 98, 99, 100, 101, 102, 103, 17, 104, 105, 106, 107, 108, 109, 110, 111, 112, 113, 114, 19, 115, 116, 117, 118, 119, 149, 150, 151, 152, 153, 154, 155, 156, 157, 158, 159, 160, 161, 162, 163, 164, 165, 166, 167, 133, 134, 135, 136, 137, 138, 139, 140, 141, 142, 143, 144, 145, 146, 147, 148] (by decide +kernel) (by decide +kernel)
set_option maxRecDepth 20000 in
theorem gX4_worth_X1_findCheapest : GoodIn wsX4_worth (wsV RX4 140 RX1 yX1_findCheapest wsX1_findCheapest) := goodIn_app (goodIn_of _ (by decide +kernel)) ggX4_worth_X1_findCheapest
set_option maxRecDepth 20000 in
theorem ggX4_worth_X2_setFree : GoodIn wsX4_worth wsX2_setFree := goodIn_r _ [123, 24, 133, 134, 135, 136, 137, 138, 139, 140, 141, 142, 143, 144, 145, 146, 147, 148] (by decide +kernel) (by decide +kernel)
set_option maxRecDepth 20000 in
theorem gX4_worth_X2_setFree : GoodIn wsX4_worth (wsV RX4 90 RX2 yX2_setFree wsX2_setFree) := goodIn_app (goodIn_of _ (by decide +kernel)) ggX4_worth_X2_setFree
theorem dX4_worth_0 : decode cX4_worth 0 = .ok (.aload_n 0, 1) := by decide +kernel
theorem dX4_worth_1 : decode cX4_worth 1 = .ok (.iload_n 1, 1) := by decide +kernel
theorem dX4_worth_2 : decode cX4_worth 2 = .ok (.invokevirtual 137, 3) := by decide +kernel
theorem dX4_worth_5 : decode cX4_worth 5 = .ok (.ifCond .eq 25, 3) := by decide +kernel
theorem dX4_worth_8 : decode cX4_worth 8 = .ok (.aload_n 0, 1) := by decide +kernel
theorem dX4_worth_9 : decode cX4_worth 9 = .ok (.getfield 10, 3) := by decide +kernel
theorem dX4_worth_12 : decode cX4_worth 12 = .ok (.iload_n 2, 1) := by decide +kernel
theorem dX4_worth_13 : decode cX4_worth 13 = .ok (.invokevirtual 75, 3) := by decide +kernel
theorem dX4_worth_16 : decode cX4_worth 16 = .ok (.ifCond .eq 14, 3) := by decide +kernel
theorem dX4_worth_19 : decode cX4_worth 19 = .ok (.aload_n 0, 1) := by decide +kernel
theorem dX4_worth_20 : decode cX4_worth 20 = .ok (.getfield 10, 3) := by decide +kernel
theorem dX4_worth_23 : decode cX4_worth 23 = .ok (.iload_n 2, 1) := by decide +kernel
theorem dX4_worth_24 : decode cX4_worth 24 = .ok (.invokevirtual 87, 3) := by decide +kernel
theorem dX4_worth_27 : decode cX4_worth 27 = .ok (.ifCond .eq 13, 3) := by decide +kernel
theorem dX4_worth_30 : decode cX4_worth 30 = .ok (.aload_n 0, 1) := by decide +kernel
theorem dX4_worth_31 : decode cX4_worth 31 = .ok (.bipush (-2), 2) := by decide +kernel
theorem dX4_worth_33 : decode cX4_worth 33 = .ok (.sipush (-1000), 3) := by decide +kernel
theorem dX4_worth_36 : decode cX4_worth 36 = .ok (.invokevirtual 63, 3) := by decide +kernel
theorem dX4_worth_39 : decode cX4_worth 39 = .ok (.ireturn, 1) := by decide +kernel
theorem dX4_worth_40 : decode cX4_worth 40 = .ok (.aload_n 0, 1) := by decide +kernel
theorem dX4_worth_41 : decode cX4_worth 41 = .ok (.getfield 38, 3) := by decide +kernel
theorem dX4_worth_44 : decode cX4_worth 44 = .ok (.iload_n 1, 1) := by decide +kernel
theorem dX4_worth_45 : decode cX4_worth 45 = .ok (.aload_n 0, 1) := by decide +kernel
theorem dX4_worth_46 : decode cX4_worth 46 = .ok (.getfield 10, 3) := by decide +kernel
theorem dX4_worth_49 : decode cX4_worth 49 = .ok (.getfield 94, 3) := by decide +kernel
theorem dX4_worth_52 : decode cX4_worth 52 = .ok (.iconst 0, 1) := by decide +kernel
theorem dX4_worth_53 : decode cX4_worth 53 = .ok (.invokevirtual 140, 3) := by decide +kernel
theorem dX4_worth_56 : decode cX4_worth 56 = .ok (.ifCond .ne 13, 3) := by decide +kernel
theorem dX4_worth_59 : decode cX4_worth 59 = .ok (.aload_n 0, 1) := by decide +kernel
theorem dX4_worth_60 : decode cX4_worth 60 = .ok (.bipush (-3), 2) := by decide +kernel
theorem dX4_worth_62 : decode cX4_worth 62 = .ok (.sipush (-2000), 3) := by decide +kernel
theorem dX4_worth_65 : decode cX4_worth 65 = .ok (.invokevirtual 63, 3) := by decide +kernel
theorem dX4_worth_68 : decode cX4_worth 68 = .ok (.ireturn, 1) := by decide +kernel
theorem dX4_worth_69 : decode cX4_worth 69 = .ok (.aload_n 0, 1) := by decide +kernel
theorem dX4_worth_70 : decode cX4_worth 70 = .ok (.getfield 38, 3) := by decide +kernel
theorem dX4_worth_73 : decode cX4_worth 73 = .ok (.getfield 143, 3) := by decide +kernel
theorem dX4_worth_76 : decode cX4_worth 76 = .ok (.istore_n 3, 1) := by decide +kernel
theorem dX4_worth_77 : decode cX4_worth 77 = .ok (.aload_n 0, 1) := by decide +kernel
theorem dX4_worth_78 : decode cX4_worth 78 = .ok (.getfield 10, 3) := by decide +kernel
theorem dX4_worth_81 : decode cX4_worth 81 = .ok (.iload_n 2, 1) := by decide +kernel
theorem dX4_worth_82 : decode cX4_worth 82 = .ok (.iconst 1, 1) := by decide +kernel
theorem dX4_worth_83 : decode cX4_worth 83 = .ok (.invokevirtual 90, 3) := by decide +kernel
theorem dX4_worth_86 : decode cX4_worth 86 = .ok (.aload_n 0, 1) := by decide +kernel
theorem dX4_worth_87 : decode cX4_worth 87 = .ok (.getfield 38, 3) := by decide +kernel
theorem dX4_worth_90 : decode cX4_worth 90 = .ok (.iload_n 1, 1) := by decide +kernel
theorem dX4_worth_91 : decode cX4_worth 91 = .ok (.aload_n 0, 1) := by decide +kernel
theorem dX4_worth_92 : decode cX4_worth 92 = .ok (.getfield 10, 3) := by decide +kernel
theorem dX4_worth_95 : decode cX4_worth 95 = .ok (.getfield 94, 3) := by decide +kernel
theorem dX4_worth_98 : decode cX4_worth 98 = .ok (.iconst 0, 1) := by decide +kernel
theorem dX4_worth_99 : decode cX4_worth 99 = .ok (.invokevirtual 140, 3) := by decide +kernel
theorem dX4_worth_102 : decode cX4_worth 102 = .ok (.istore 4, 2) := by decide +kernel
theorem dX4_worth_104 : decode cX4_worth 104 = .ok (.aload_n 0, 1) := by decide +kernel
theorem dX4_worth_105 : decode cX4_worth 105 = .ok (.getfield 10, 3) := by decide +kernel
theorem dX4_worth_108 : decode cX4_worth 108 = .ok (.iload_n 2, 1) := by decide +kernel
theorem dX4_worth_109 : decode cX4_worth 109 = .ok (.iconst 0, 1) := by decide +kernel
theorem dX4_worth_110 : decode cX4_worth 110 = .ok (.invokevirtual 90, 3) := by decide +kernel
theorem dX4_worth_113 : decode cX4_worth 113 = .ok (.iload 4, 2) := by decide +kernel
theorem dX4_worth_115 : decode cX4_worth 115 = .ok (.ifCond .eq 15, 3) := by decide +kernel
theorem dX4_worth_118 : decode cX4_worth 118 = .ok (.iload_n 3, 1) := by decide +kernel
theorem dX4_worth_119 : decode cX4_worth 119 = .ok (.aload_n 0, 1) := by decide +kernel
theorem dX4_worth_120 : decode cX4_worth 120 = .ok (.getfield 38, 3) := by decide +kernel
theorem dX4_worth_123 : decode cX4_worth 123 = .ok (.getfield 143, 3) := by decide +kernel
theorem dX4_worth_126 : decode cX4_worth 126 = .ok (.isub, 1) := by decide +kernel
theorem dX4_worth_127 : decode cX4_worth 127 = .ok (.goto 12, 3) := by decide +kernel
theorem dX4_worth_130 : decode cX4_worth 130 = .ok (.aload_n 0, 1) := by decide +kernel
theorem dX4_worth_131 : decode cX4_worth 131 = .ok (.bipush (-3), 2) := by decide +kernel
theorem dX4_worth_133 : decode cX4_worth 133 = .ok (.sipush (-2000), 3) := by decide +kernel
theorem dX4_worth_136 : decode cX4_worth 136 = .ok (.invokevirtual 63, 3) := by decide +kernel
theorem dX4_worth_139 : decode cX4_worth 139 = .ok (.ireturn, 1) := by decide +kernel
set_option maxRecDepth 20000 in
theorem ggX4_shutOut_X2_hasShop : GoodIn wsX4_shutOut wsX2_hasShop := goodIn_r _ [7, 8, 122, 123, 124, 125, 126, 127, 128, 129, 130, 131, 132, 133, 134, 135, 136, 137] (by decide +kernel) (by decide +kernel)
set_option maxRecDepth 20000 in
theorem gX4_shutOut_X2_hasShop : GoodIn wsX4_shutOut (wsV RX4 75 RX2 yX2_hasShop wsX2_hasShop) := goodIn_app (goodIn_of _ (by decide +kernel)) ggX4_shutOut_X2_hasShop
set_option maxRecDepth 20000 in
theorem ggX4_shutOut_X4_refuse : GoodIn wsX4_shutOut wsX4_refuse := goodIn_r _ [13, 14, 15, 16, 12, 17, 113, 114, 115, 116, 117, 118, 119, 120, 121] (by decide +kernel) (by decide +kernel)
set_option maxRecDepth 20000 in
theorem gX4_shutOut_X4_refuse : GoodIn wsX4_shutOut (wsV RX4 63 RX4 yX4_refuse wsX4_refuse) := goodIn_app (goodIn_of _ (by decide +kernel)) ggX4_shutOut_X4_refuse
set_option maxRecDepth 20000 in
theorem ggX4_shutOut_X1_goodsToHave : GoodIn wsX4_shutOut wsX1_goodsToHave := goodIn_r _ [22, 23, 24, 25, 26, 27, 28, 21, 29, 30, 31, 32, 33, 34, 35, 36, 37, 38, 39, 40, 41, 42, 43, 44, 45, 46, 47, 48, 49, 50, 51, 52, 53, 54, 55, 56, 57, 58, 59, 60, 61, 62, 63, 64, 65, 66, 67, 68, 69, 70, 71, 72, 73, 74, 75, 76, 77, 78, 79, 80, 81, 82, 83, 84, 85, 86, 87, 88, 89, 90, 91, 92, 93, 94, 95, 96, 6, 97, 98, 99, 100, 101, 102, 103, 104, 105, 106, 107, 8, 108, 109, 110, 111, 112, 138, 139, 140, 141, 142, 143, 144, 145, 146, 147, 148, 149, 122, 123, 124, 125, 126, 127, 128, 129, 130, 131, 132, 133, 134, 135, 136, 137, 150, 151, 152, 153, 154, 155, 156] (by decide +kernel) (by decide +kernel)
set_option maxRecDepth 20000 in
theorem gX4_shutOut_X1_goodsToHave : GoodIn wsX4_shutOut (wsV RX4 156 RX1 yX1_goodsToHave wsX1_goodsToHave) := goodIn_app (goodIn_of _ (by decide +kernel)) ggX4_shutOut_X1_goodsToHave
theorem dX4_shutOut_0 : decode cX4_shutOut 0 = .ok (.aload_n 0, 1) := by decide +kernel
theorem dX4_shutOut_1 : decode cX4_shutOut 1 = .ok (.getfield 10, 3) := by decide +kernel
theorem dX4_shutOut_4 : decode cX4_shutOut 4 = .ok (.iload_n 1, 1) := by decide +kernel
theorem dX4_shutOut_5 : decode cX4_shutOut 5 = .ok (.invokevirtual 75, 3) := by decide +kernel
theorem dX4_shutOut_8 : decode cX4_shutOut 8 = .ok (.ifCond .ne 12, 3) := by decide +kernel
theorem dX4_shutOut_11 : decode cX4_shutOut 11 = .ok (.aload_n 0, 1) := by decide +kernel
theorem dX4_shutOut_12 : decode cX4_shutOut 12 = .ok (.bipush (-2), 2) := by decide +kernel
theorem dX4_shutOut_14 : decode cX4_shutOut 14 = .ok (.bipush (-2), 2) := by decide +kernel
theorem dX4_shutOut_16 : decode cX4_shutOut 16 = .ok (.invokevirtual 63, 3) := by decide +kernel
theorem dX4_shutOut_19 : decode cX4_shutOut 19 = .ok (.ireturn, 1) := by decide +kernel
theorem dX4_shutOut_20 : decode cX4_shutOut 20 = .ok (.aload_n 0, 1) := by decide +kernel
theorem dX4_shutOut_21 : decode cX4_shutOut 21 = .ok (.getfield 38, 3) := by decide +kernel
theorem dX4_shutOut_24 : decode cX4_shutOut 24 = .ok (.iconst 0, 1) := by decide +kernel
theorem dX4_shutOut_25 : decode cX4_shutOut 25 = .ok (.invokevirtual 156, 3) := by decide +kernel
theorem dX4_shutOut_28 : decode cX4_shutOut 28 = .ok (.aload_n 0, 1) := by decide +kernel
theorem dX4_shutOut_29 : decode cX4_shutOut 29 = .ok (.getfield 38, 3) := by decide +kernel
theorem dX4_shutOut_32 : decode cX4_shutOut 32 = .ok (.iconst 1, 1) := by decide +kernel
theorem dX4_shutOut_33 : decode cX4_shutOut 33 = .ok (.iload_n 1, 1) := by decide +kernel
theorem dX4_shutOut_34 : decode cX4_shutOut 34 = .ok (.ishl, 1) := by decide +kernel
theorem dX4_shutOut_35 : decode cX4_shutOut 35 = .ok (.invokevirtual 156, 3) := by decide +kernel
theorem dX4_shutOut_38 : decode cX4_shutOut 38 = .ok (.iconst (-1), 1) := by decide +kernel
theorem dX4_shutOut_39 : decode cX4_shutOut 39 = .ok (.ixor, 1) := by decide +kernel
theorem dX4_shutOut_40 : decode cX4_shutOut 40 = .ok (.iand, 1) := by decide +kernel
theorem dX4_shutOut_41 : decode cX4_shutOut 41 = .ok (.ireturn, 1) := by decide +kernel
set_option maxRecDepth 20000 in
theorem ggX4_mends_X2_hasShop : GoodIn wsX4_mends wsX2_hasShop := goodIn_r _ [7, 8, 140, 141, 142, 143, 144, 145, 146, 147, 148, 149, 150, 151, 152, 153, 154, 155] (by decide +kernel) (by decide +kernel)
set_option maxRecDepth 20000 in
theorem gX4_mends_X2_hasShop : GoodIn wsX4_mends (wsV RX4 75 RX2 yX2_hasShop wsX2_hasShop) := goodIn_app (goodIn_of _ (by decide +kernel)) ggX4_mends_X2_hasShop
set_option maxRecDepth 20000 in
theorem ggX4_mends_X4_refuse : GoodIn wsX4_mends wsX4_refuse := goodIn_r _ [13, 14, 15, 16, 12, 17, 131, 132, 133, 134, 135, 136, 137, 138, 139] (by decide +kernel) (by decide +kernel)
set_option maxRecDepth 20000 in
theorem gX4_mends_X4_refuse : GoodIn wsX4_mends (wsV RX4 63 RX4 yX4_refuse wsX4_refuse) := goodIn_app (goodIn_of _ (by decide +kernel)) ggX4_mends_X4_refuse
set_option maxRecDepth 20000 in
theorem ggX4_mends_X1_goodsToHave : GoodIn wsX4_mends wsX1_goodsToHave := goodIn_r _ [22, 23, 24, 25, 26, 27, 28, 21, 29, 30, 31, 32, 33, 34, 35, 36, 37, 38, 39, 40, 41, 42, 43, 44, 45, 46, 47, 48, 49, 50, 51, 52, 53, 54, 55, 56, 57, 58, 59, 60, 61, 62, 63, 64, 65, 66, 67, 68, 69, 70, 71, 72, 73, 74, 75, 76, 77, 78, 79, 80, 81, 82, 83, 84, 85, 86, 87, 88, 89, 90, 91, 92, 93, 94, 95, 96, 6, 97, 98, 99, 100, 101, 102, 103, 104, 105, 106, 107, 8, 108, 109, 110, 111, 112, 156, 157, 158, 159, 160, 161, 162, 163, 164, 165, 166, 167, 140, 141, 142, 143, 144, 145, 146, 147, 148, 149, 150, 151, 152, 153, 154, 155, 168, 169, 170, 171, 172, 173, 174] (by decide +kernel) (by decide +kernel)
set_option maxRecDepth 20000 in
theorem gX4_mends_X1_goodsToHave : GoodIn wsX4_mends (wsV RX4 156 RX1 yX1_goodsToHave wsX1_goodsToHave) := goodIn_app (goodIn_of _ (by decide +kernel)) ggX4_mends_X1_goodsToHave
set_option maxRecDepth 20000 in
theorem ggX4_mends_X4_areMended : GoodIn wsX4_mends wsX4_areMended := goodIn_r _ [116, 2, 1, 117, 118, 119, 120, 21, 121, 23, 24, 25, 26, 27, 28, 29, 30, 31, 32, 33, 34, 35, 36, 37, 38, 39, 40, 41, 42, 43, 44, 45, 46, 47, 48, 49, 50, 51, 52, 53, 54, 55, 56, 57, 58, 59, 60, 61, 62, 63, 64, 65, 66, 67, 68, 69, 70, 71, 72, 73, 74, 75, 76, 77, 78, 79, 80, 81, 82, 83, 84, 85, 86, 87, 88, 89, 90, 91, 92, 93, 94, 95, 96, 6, 97, 98, 99, 100, 101, 102, 103, 104, 105, 106, 107, 8, 108, 109, 110, 111, 112, 122, 123, 124, 125, 126, 127, 128, 129, 130, 113, 114, 115, 12, 131, 132, 133, 134, 135, 136, 137, 138, 139, 140, 141, 142, 143, 144, 145, 146, 147, 148, 149, 150, 151, 152, 153, 154, 155, 156, 157, 158, 159, 160, 161, 162, 163, 164, 165, 166, 167, 168, 169, 170, 171, 172, 173, 174] (by decide +kernel) (by decide +kernel)
set_option maxRecDepth 20000 in
theorem gX4_mends_X4_areMended : GoodIn wsX4_mends (wsV RX4 160 RX4 yX4_areMended wsX4_areMended) := goodIn_app (goodIn_of _ (by decide +kernel)) ggX4_mends_X4_areMended
theorem dX4_mends_0 : decode cX4_mends 0 = .ok (.aload_n 0, 1) := by decide +kernel
theorem dX4_mends_1 : decode cX4_mends 1 = .ok (.getfield 10, 3) := by decide +kernel
theorem dX4_mends_4 : decode cX4_mends 4 = .ok (.iload_n 1, 1) := by decide +kernel
theorem dX4_mends_5 : decode cX4_mends 5 = .ok (.invokevirtual 75, 3) := by decide +kernel
theorem dX4_mends_8 : decode cX4_mends 8 = .ok (.ifCond .ne 12, 3) := by decide +kernel
theorem dX4_mends_11 : decode cX4_mends 11 = .ok (.aload_n 0, 1) := by decide +kernel
theorem dX4_mends_12 : decode cX4_mends 12 = .ok (.bipush (-2), 2) := by decide +kernel
theorem dX4_mends_14 : decode cX4_mends 14 = .ok (.bipush (-2), 2) := by decide +kernel
theorem dX4_mends_16 : decode cX4_mends 16 = .ok (.invokevirtual 63, 3) := by decide +kernel
theorem dX4_mends_19 : decode cX4_mends 19 = .ok (.ireturn, 1) := by decide +kernel
theorem dX4_mends_20 : decode cX4_mends 20 = .ok (.aload_n 0, 1) := by decide +kernel
theorem dX4_mends_21 : decode cX4_mends 21 = .ok (.getfield 38, 3) := by decide +kernel
theorem dX4_mends_24 : decode cX4_mends 24 = .ok (.iconst 0, 1) := by decide +kernel
theorem dX4_mends_25 : decode cX4_mends 25 = .ok (.invokevirtual 156, 3) := by decide +kernel
theorem dX4_mends_28 : decode cX4_mends 28 = .ok (.iconst 1, 1) := by decide +kernel
theorem dX4_mends_29 : decode cX4_mends 29 = .ok (.iload_n 1, 1) := by decide +kernel
theorem dX4_mends_30 : decode cX4_mends 30 = .ok (.ishl, 1) := by decide +kernel
theorem dX4_mends_31 : decode cX4_mends 31 = .ok (.iconst (-1), 1) := by decide +kernel
theorem dX4_mends_32 : decode cX4_mends 32 = .ok (.ixor, 1) := by decide +kernel
theorem dX4_mends_33 : decode cX4_mends 33 = .ok (.iand, 1) := by decide +kernel
theorem dX4_mends_34 : decode cX4_mends 34 = .ok (.istore_n 2, 1) := by decide +kernel
theorem dX4_mends_35 : decode cX4_mends 35 = .ok (.iconst 0, 1) := by decide +kernel
theorem dX4_mends_36 : decode cX4_mends 36 = .ok (.istore_n 3, 1) := by decide +kernel
theorem dX4_mends_37 : decode cX4_mends 37 = .ok (.iload_n 3, 1) := by decide +kernel
theorem dX4_mends_38 : decode cX4_mends 38 = .ok (.iconst 2, 1) := by decide +kernel
theorem dX4_mends_39 : decode cX4_mends 39 = .ok (.if_icmp .gt 22, 3) := by decide +kernel
theorem dX4_mends_42 : decode cX4_mends 42 = .ok (.aload_n 0, 1) := by decide +kernel
theorem dX4_mends_43 : decode cX4_mends 43 = .ok (.iload_n 2, 1) := by decide +kernel
theorem dX4_mends_44 : decode cX4_mends 44 = .ok (.iload_n 1, 1) := by decide +kernel
theorem dX4_mends_45 : decode cX4_mends 45 = .ok (.iload_n 3, 1) := by decide +kernel
theorem dX4_mends_46 : decode cX4_mends 46 = .ok (.iconst 0, 1) := by decide +kernel
theorem dX4_mends_47 : decode cX4_mends 47 = .ok (.invokevirtual 160, 3) := by decide +kernel
theorem dX4_mends_50 : decode cX4_mends 50 = .ok (.ifCond .eq 5, 3) := by decide +kernel
theorem dX4_mends_53 : decode cX4_mends 53 = .ok (.iload_n 3, 1) := by decide +kernel
theorem dX4_mends_54 : decode cX4_mends 54 = .ok (.ireturn, 1) := by decide +kernel
theorem dX4_mends_55 : decode cX4_mends 55 = .ok (.iinc 3 1, 3) := by decide +kernel
theorem dX4_mends_58 : decode cX4_mends 58 = .ok (.goto (-21), 3) := by decide +kernel
theorem dX4_mends_61 : decode cX4_mends 61 = .ok (.iconst (-1), 1) := by decide +kernel
theorem dX4_mends_62 : decode cX4_mends 62 = .ok (.ireturn, 1) := by decide +kernel
set_option maxRecDepth 20000 in
theorem ggX4_buyer_X2_hasShop : GoodIn wsX4_buyer wsX2_hasShop := goodIn_r _ [9, 10, 29, 30, 31, 32, 33, 34, 35, 36, 37, 38, 39, 40, 41, 42, 43, 44] (by decide +kernel) (by decide +kernel)
set_option maxRecDepth 20000 in
theorem gX4_buyer_X2_hasShop : GoodIn wsX4_buyer (wsV RX4 75 RX2 yX2_hasShop wsX2_hasShop) := goodIn_app (goodIn_of _ (by decide +kernel)) ggX4_buyer_X2_hasShop
set_option maxRecDepth 20000 in
theorem ggX4_buyer_X4_isIn : GoodIn wsX4_buyer wsX4_isIn := goodIn_r _ [14] (by decide +kernel) (by decide +kernel)
set_option maxRecDepth 20000 in
theorem gX4_buyer_X4_isIn : GoodIn wsX4_buyer (va_wsS RX4 59 yX4_isIn wsX4_isIn) := goodIn_app (goodIn_of _ (by decide +kernel)) ggX4_buyer_X4_isIn
set_option maxRecDepth 20000 in
theorem ggX4_buyer_X4_refuse : GoodIn wsX4_buyer wsX4_refuse := goodIn_r _ [18, 19, 11, 12, 13, 14, 20, 21, 22, 23, 24, 25, 26, 27, 28] (by decide +kernel) (by decide +kernel)
set_option maxRecDepth 20000 in
theorem gX4_buyer_X4_refuse : GoodIn wsX4_buyer (wsV RX4 63 RX4 yX4_refuse wsX4_refuse) := goodIn_app (goodIn_of _ (by decide +kernel)) ggX4_buyer_X4_refuse
theorem dX4_buyer_0 : decode cX4_buyer 0 = .ok (.aload_n 0, 1) := by decide +kernel
theorem dX4_buyer_1 : decode cX4_buyer 1 = .ok (.getfield 10, 3) := by decide +kernel
theorem dX4_buyer_4 : decode cX4_buyer 4 = .ok (.iload_n 1, 1) := by decide +kernel
theorem dX4_buyer_5 : decode cX4_buyer 5 = .ok (.invokevirtual 75, 3) := by decide +kernel
theorem dX4_buyer_8 : decode cX4_buyer 8 = .ok (.ifCond .eq 13, 3) := by decide +kernel
theorem dX4_buyer_11 : decode cX4_buyer 11 = .ok (.iload_n 2, 1) := by decide +kernel
theorem dX4_buyer_12 : decode cX4_buyer 12 = .ok (.iconst 0, 1) := by decide +kernel
theorem dX4_buyer_13 : decode cX4_buyer 13 = .ok (.bipush 99, 2) := by decide +kernel
theorem dX4_buyer_15 : decode cX4_buyer 15 = .ok (.invokestatic 59, 3) := by decide +kernel
theorem dX4_buyer_18 : decode cX4_buyer 18 = .ok (.ifCond .ne 12, 3) := by decide +kernel
theorem dX4_buyer_21 : decode cX4_buyer 21 = .ok (.aload_n 0, 1) := by decide +kernel
theorem dX4_buyer_22 : decode cX4_buyer 22 = .ok (.bipush (-2), 2) := by decide +kernel
theorem dX4_buyer_24 : decode cX4_buyer 24 = .ok (.bipush (-2), 2) := by decide +kernel
theorem dX4_buyer_26 : decode cX4_buyer 26 = .ok (.invokevirtual 63, 3) := by decide +kernel
theorem dX4_buyer_29 : decode cX4_buyer 29 = .ok (.ireturn, 1) := by decide +kernel
theorem dX4_buyer_30 : decode cX4_buyer 30 = .ok (.aload_n 0, 1) := by decide +kernel
theorem dX4_buyer_31 : decode cX4_buyer 31 = .ok (.getfield 10, 3) := by decide +kernel
theorem dX4_buyer_34 : decode cX4_buyer 34 = .ok (.getfield 164, 3) := by decide +kernel
theorem dX4_buyer_37 : decode cX4_buyer 37 = .ok (.bipush 6, 2) := by decide +kernel
theorem dX4_buyer_39 : decode cX4_buyer 39 = .ok (.if_icmp .lt 12, 3) := by decide +kernel
theorem dX4_buyer_42 : decode cX4_buyer 42 = .ok (.aload_n 0, 1) := by decide +kernel
theorem dX4_buyer_43 : decode cX4_buyer 43 = .ok (.bipush (-4), 2) := by decide +kernel
theorem dX4_buyer_45 : decode cX4_buyer 45 = .ok (.bipush (-4), 2) := by decide +kernel
theorem dX4_buyer_47 : decode cX4_buyer 47 = .ok (.invokevirtual 63, 3) := by decide +kernel
theorem dX4_buyer_50 : decode cX4_buyer 50 = .ok (.ireturn, 1) := by decide +kernel
theorem dX4_buyer_51 : decode cX4_buyer 51 = .ok (.aload_n 0, 1) := by decide +kernel
theorem dX4_buyer_52 : decode cX4_buyer 52 = .ok (.getfield 10, 3) := by decide +kernel
theorem dX4_buyer_55 : decode cX4_buyer 55 = .ok (.getfield 167, 3) := by decide +kernel
theorem dX4_buyer_58 : decode cX4_buyer 58 = .ok (.aload_n 0, 1) := by decide +kernel
theorem dX4_buyer_59 : decode cX4_buyer 59 = .ok (.getfield 10, 3) := by decide +kernel
theorem dX4_buyer_62 : decode cX4_buyer 62 = .ok (.getfield 164, 3) := by decide +kernel
theorem dX4_buyer_65 : decode cX4_buyer 65 = .ok (.iload_n 1, 1) := by decide +kernel
theorem dX4_buyer_66 : decode cX4_buyer 66 = .ok (.iastore, 1) := by decide +kernel
theorem dX4_buyer_67 : decode cX4_buyer 67 = .ok (.aload_n 0, 1) := by decide +kernel
theorem dX4_buyer_68 : decode cX4_buyer 68 = .ok (.getfield 10, 3) := by decide +kernel
theorem dX4_buyer_71 : decode cX4_buyer 71 = .ok (.getfield 170, 3) := by decide +kernel
theorem dX4_buyer_74 : decode cX4_buyer 74 = .ok (.aload_n 0, 1) := by decide +kernel
theorem dX4_buyer_75 : decode cX4_buyer 75 = .ok (.getfield 10, 3) := by decide +kernel
theorem dX4_buyer_78 : decode cX4_buyer 78 = .ok (.getfield 164, 3) := by decide +kernel
theorem dX4_buyer_81 : decode cX4_buyer 81 = .ok (.iload_n 2, 1) := by decide +kernel
theorem dX4_buyer_82 : decode cX4_buyer 82 = .ok (.iastore, 1) := by decide +kernel
theorem dX4_buyer_83 : decode cX4_buyer 83 = .ok (.aload_n 0, 1) := by decide +kernel
theorem dX4_buyer_84 : decode cX4_buyer 84 = .ok (.getfield 10, 3) := by decide +kernel
theorem dX4_buyer_87 : decode cX4_buyer 87 = .ok (.dup, 1) := by decide +kernel
theorem dX4_buyer_88 : decode cX4_buyer 88 = .ok (.getfield 164, 3) := by decide +kernel
theorem dX4_buyer_91 : decode cX4_buyer 91 = .ok (.iconst 1, 1) := by decide +kernel
theorem dX4_buyer_92 : decode cX4_buyer 92 = .ok (.iadd, 1) := by decide +kernel
theorem dX4_buyer_93 : decode cX4_buyer 93 = .ok (.putfield 164, 3) := by decide +kernel
theorem dX4_buyer_96 : decode cX4_buyer 96 = .ok (.aload_n 0, 1) := by decide +kernel
theorem dX4_buyer_97 : decode cX4_buyer 97 = .ok (.getfield 10, 3) := by decide +kernel
theorem dX4_buyer_100 : decode cX4_buyer 100 = .ok (.getfield 164, 3) := by decide +kernel
theorem dX4_buyer_103 : decode cX4_buyer 103 = .ok (.iconst 1, 1) := by decide +kernel
theorem dX4_buyer_104 : decode cX4_buyer 104 = .ok (.isub, 1) := by decide +kernel
theorem dX4_buyer_105 : decode cX4_buyer 105 = .ok (.ireturn, 1) := by decide +kernel
theorem dX4_leave_0 : decode cX4_leave 0 = .ok (.aload_n 0, 1) := by decide +kernel
theorem dX4_leave_1 : decode cX4_leave 1 = .ok (.getfield 10, 3) := by decide +kernel
theorem dX4_leave_4 : decode cX4_leave 4 = .ok (.getfield 164, 3) := by decide +kernel
theorem dX4_leave_7 : decode cX4_leave 7 = .ok (.istore_n 1, 1) := by decide +kernel
theorem dX4_leave_8 : decode cX4_leave 8 = .ok (.aload_n 0, 1) := by decide +kernel
theorem dX4_leave_9 : decode cX4_leave 9 = .ok (.getfield 10, 3) := by decide +kernel
theorem dX4_leave_12 : decode cX4_leave 12 = .ok (.iconst 0, 1) := by decide +kernel
theorem dX4_leave_13 : decode cX4_leave 13 = .ok (.putfield 164, 3) := by decide +kernel
theorem dX4_leave_16 : decode cX4_leave 16 = .ok (.iload_n 1, 1) := by decide +kernel
theorem dX4_leave_17 : decode cX4_leave 17 = .ok (.ireturn, 1) := by decide +kernel
set_option maxRecDepth 20000 in
theorem ggX4_takes_X2_hasShop : GoodIn wsX4_takes wsX2_hasShop := goodIn_r _ [6, 7, 133, 134, 135, 136, 137, 138, 139, 140, 141, 142, 143, 144, 145, 146, 147, 148] (by decide +kernel) (by decide +kernel)
set_option maxRecDepth 20000 in
theorem gX4_takes_X2_hasShop : GoodIn wsX4_takes (wsV RX4 75 RX2 yX2_hasShop wsX2_hasShop) := goodIn_app (goodIn_of _ (by decide +kernel)) ggX4_takes_X2_hasShop
set_option maxRecDepth 20000 in
theorem ggX4_takes_X4_refuse : GoodIn wsX4_takes wsX4_refuse := goodIn_r _ [12, 13, 14, 15, 11, 16, 124, 125, 126, 127, 128, 129, 130, 131, 132] (by decide +kernel) (by decide +kernel)
set_option maxRecDepth 20000 in
theorem gX4_takes_X4_refuse : GoodIn wsX4_takes (wsV RX4 63 RX4 yX4_refuse wsX4_refuse) := goodIn_app (goodIn_of _ (by decide +kernel)) ggX4_takes_X4_refuse
set_option maxRecDepth 20000 in
theorem ggX4_takes_X4_takenBy : GoodIn wsX4_takes wsX4_takenBy := goodIn_r _ [20, 1, 21, 22, 23, 24, 25, 26, 27, 28, 29, 30, 31, 32, 33, 34, 35, 36, 37, 38, 39, 40, 41, 42, 43, 44, 45, 46, 47, 48, 49, 50, 51, 52, 53, 54, 55, 56, 57, 58, 59, 60, 61, 62, 63, 64, 65, 66, 67, 68, 69, 70, 71, 72, 73, 74, 75, 76, 77, 78, 79, 80, 81, 82, 83, 84, 85, 86, 87, 88, 89, 90, 91, 92, 93, 94, 95, 96, 97, 98, 99, 100, 101, 102, 103, 5, 104, 105, 106, 107, 108, 109, 110, 111, 112, 113, 114, 7, 115, 116, 117, 118, 119, 120, 121, 122, 123, 124, 125, 126, 127, 128, 129, 130, 131, 132, 133, 134, 135, 136, 137, 138, 139, 140, 141, 142, 143, 144, 145, 146, 147, 148, 149, 150, 151, 152, 153, 154, 155, 156, 157, 158, 159, 160, 161, 162, 163, 164, 165, 166, 167] (by decide +kernel) (by decide +kernel)
set_option maxRecDepth 20000 in
theorem gX4_takes_X4_takenBy : GoodIn wsX4_takes (wsV RX4 173 RX4 yX4_takenBy wsX4_takenBy) := goodIn_app (goodIn_of _ (by decide +kernel)) ggX4_takes_X4_takenBy
theorem dX4_takes_0 : decode cX4_takes 0 = .ok (.aload_n 0, 1) := by decide +kernel
theorem dX4_takes_1 : decode cX4_takes 1 = .ok (.getfield 10, 3) := by decide +kernel
theorem dX4_takes_4 : decode cX4_takes 4 = .ok (.iload_n 1, 1) := by decide +kernel
theorem dX4_takes_5 : decode cX4_takes 5 = .ok (.invokevirtual 75, 3) := by decide +kernel
theorem dX4_takes_8 : decode cX4_takes 8 = .ok (.ifCond .ne 12, 3) := by decide +kernel
theorem dX4_takes_11 : decode cX4_takes 11 = .ok (.aload_n 0, 1) := by decide +kernel
theorem dX4_takes_12 : decode cX4_takes 12 = .ok (.bipush (-2), 2) := by decide +kernel
theorem dX4_takes_14 : decode cX4_takes 14 = .ok (.bipush (-2), 2) := by decide +kernel
theorem dX4_takes_16 : decode cX4_takes 16 = .ok (.invokevirtual 63, 3) := by decide +kernel
theorem dX4_takes_19 : decode cX4_takes 19 = .ok (.ireturn, 1) := by decide +kernel
theorem dX4_takes_20 : decode cX4_takes 20 = .ok (.aload_n 0, 1) := by decide +kernel
theorem dX4_takes_21 : decode cX4_takes 21 = .ok (.iload_n 1, 1) := by decide +kernel
theorem dX4_takes_22 : decode cX4_takes 22 = .ok (.invokevirtual 173, 3) := by decide +kernel
theorem dX4_takes_25 : decode cX4_takes 25 = .ok (.ireturn, 1) := by decide +kernel
set_option maxRecDepth 20000 in
theorem ggX4_asks_X2_hasShop : GoodIn wsX4_asks wsX2_hasShop := goodIn_r _ [6, 7, 139, 140, 141, 142, 143, 144, 145, 146, 147, 148, 149, 150, 151, 152, 153, 154] (by decide +kernel) (by decide +kernel)
set_option maxRecDepth 20000 in
theorem gX4_asks_X2_hasShop : GoodIn wsX4_asks (wsV RX4 75 RX2 yX2_hasShop wsX2_hasShop) := goodIn_app (goodIn_of _ (by decide +kernel)) ggX4_asks_X2_hasShop
set_option maxRecDepth 20000 in
theorem ggX4_asks_X4_refuse : GoodIn wsX4_asks wsX4_refuse := goodIn_r _ [12, 13, 14, 15, 11, 16, 130, 131, 132, 133, 134, 135, 136, 137, 138] (by decide +kernel) (by decide +kernel)
set_option maxRecDepth 20000 in
theorem gX4_asks_X4_refuse : GoodIn wsX4_asks (wsV RX4 63 RX4 yX4_refuse wsX4_refuse) := goodIn_app (goodIn_of _ (by decide +kernel)) ggX4_asks_X4_refuse
set_option maxRecDepth 20000 in
theorem ggX4_asks_X4_bestPrice : GoodIn wsX4_asks wsX4_bestPrice := goodIn_r _ [20, 1, 21, 22, 23, 24, 25, 11, 26, 27, 28, 29, 30, 31, 32, 33, 34, 35, 36, 37, 38, 39, 40, 41, 42, 43, 44, 45, 46, 47, 48, 49, 50, 51, 52, 53, 54, 55, 56, 57, 58, 59, 60, 61, 62, 63, 64, 65, 66, 67, 68, 69, 70, 71, 72, 73, 74, 75, 76, 77, 78, 79, 80, 81, 82, 83, 84, 85, 86, 87, 88, 89, 90, 91, 92, 93, 94, 95, 96, 97, 98, 99, 100, 101, 102, 103, 104, 105, 106, 107, 108, 109, 5, 110, 111, 112, 113, 114, 115, 116, 117, 118, 119, 120, 7, 121, 122, 123, 124, 125, 126, 127, 128, 129, 130, 131, 132, 133, 134, 135, 136, 137, 138, 139, 140, 141, 142, 143, 144, 145, 146, 147, 148, 149, 150, 151, 152, 153, 154, 155, 156, 157, 158, 159, 160, 161, 162, 163, 164, 165, 166, 167, 168, 169, 170, 171, 172, 173] (by decide +kernel) (by decide +kernel)
set_option maxRecDepth 20000 in
theorem gX4_asks_X4_bestPrice : GoodIn wsX4_asks (wsV RX4 176 RX4 yX4_bestPrice wsX4_bestPrice) := goodIn_app (goodIn_of _ (by decide +kernel)) ggX4_asks_X4_bestPrice
theorem dX4_asks_0 : decode cX4_asks 0 = .ok (.aload_n 0, 1) := by decide +kernel
theorem dX4_asks_1 : decode cX4_asks 1 = .ok (.getfield 10, 3) := by decide +kernel
theorem dX4_asks_4 : decode cX4_asks 4 = .ok (.iload_n 1, 1) := by decide +kernel
theorem dX4_asks_5 : decode cX4_asks 5 = .ok (.invokevirtual 75, 3) := by decide +kernel
theorem dX4_asks_8 : decode cX4_asks 8 = .ok (.ifCond .ne 12, 3) := by decide +kernel
theorem dX4_asks_11 : decode cX4_asks 11 = .ok (.aload_n 0, 1) := by decide +kernel
theorem dX4_asks_12 : decode cX4_asks 12 = .ok (.bipush (-2), 2) := by decide +kernel
theorem dX4_asks_14 : decode cX4_asks 14 = .ok (.bipush (-2), 2) := by decide +kernel
theorem dX4_asks_16 : decode cX4_asks 16 = .ok (.invokevirtual 63, 3) := by decide +kernel
theorem dX4_asks_19 : decode cX4_asks 19 = .ok (.ireturn, 1) := by decide +kernel
theorem dX4_asks_20 : decode cX4_asks 20 = .ok (.aload_n 0, 1) := by decide +kernel
theorem dX4_asks_21 : decode cX4_asks 21 = .ok (.iload_n 1, 1) := by decide +kernel
theorem dX4_asks_22 : decode cX4_asks 22 = .ok (.invokevirtual 176, 3) := by decide +kernel
theorem dX4_asks_25 : decode cX4_asks 25 = .ok (.ireturn, 1) := by decide +kernel
set_option maxRecDepth 20000 in
theorem ggX4_changes_X2_hasShop : GoodIn wsX4_changes wsX2_hasShop := goodIn_r _ [12, 13, 149, 150, 151, 152, 153, 154, 155, 156, 157, 158, 159, 160, 161, 162, 163, 164] (by decide +kernel) (by decide +kernel)
set_option maxRecDepth 20000 in
theorem gX4_changes_X2_hasShop : GoodIn wsX4_changes (wsV RX4 75 RX2 yX2_hasShop wsX2_hasShop) := goodIn_app (goodIn_of _ (by decide +kernel)) ggX4_changes_X2_hasShop
set_option maxRecDepth 20000 in
theorem ggX4_changes_X4_refuse : GoodIn wsX4_changes wsX4_refuse := goodIn_r _ [18, 19, 20, 21, 17, 22, 140, 141, 142, 143, 144, 145, 146, 147, 148] (by decide +kernel) (by decide +kernel)
set_option maxRecDepth 20000 in
theorem gX4_changes_X4_refuse : GoodIn wsX4_changes (wsV RX4 63 RX4 yX4_refuse wsX4_refuse) := goodIn_app (goodIn_of _ (by decide +kernel)) ggX4_changes_X4_refuse
set_option maxRecDepth 20000 in
theorem ggX4_changes_X4_roundChanges : GoodIn wsX4_changes wsX4_roundChanges := goodIn_r _ [26, 1, 27, 28, 2, 29, 30, 31, 17, 32, 33, 34, 35, 36, 37, 38, 39, 40, 41, 42, 43, 44, 45, 46, 47, 48, 49, 50, 51, 52, 53, 54, 55, 56, 57, 58, 59, 60, 61, 62, 63, 64, 65, 66, 67, 68, 69, 70, 71, 72, 73, 74, 75, 76, 77, 78, 79, 80, 81, 82, 83, 84, 85, 86, 87, 88, 89, 90, 91, 92, 93, 94, 95, 96, 97, 98, 99, 100, 101, 102, 103, 104, 105, 106, 107, 108, 109, 110, 111, 112, 113, 114, 115, 116, 117, 118, 119, 11, 120, 121, 122, 123, 124, 125, 126, 127, 128, 129, 130, 13, 131, 132, 133, 134, 135, 136, 137, 138, 139, 140, 141, 142, 143, 144, 145, 146, 147, 148, 149, 150, 151, 152, 153, 154, 155, 156, 157, 158, 159, 160, 161, 162, 163, 164, 165, 166, 167, 168, 169, 170, 171, 172, 173, 174, 175, 176, 177, 178, 179, 180, 181, 182, 183] (by decide +kernel) (by decide +kernel)
set_option maxRecDepth 20000 in
theorem gX4_changes_X4_roundChanges : GoodIn wsX4_changes (wsV RX4 185 RX4 yX4_roundChanges wsX4_roundChanges) := goodIn_app (goodIn_of _ (by decide +kernel)) ggX4_changes_X4_roundChanges
theorem dX4_changes_0 : decode cX4_changes 0 = .ok (.iload_n 1, 1) := by decide +kernel
theorem dX4_changes_1 : decode cX4_changes 1 = .ok (.iconst (-1), 1) := by decide +kernel
theorem dX4_changes_2 : decode cX4_changes 2 = .ok (.if_icmp .eq 23, 3) := by decide +kernel
theorem dX4_changes_5 : decode cX4_changes 5 = .ok (.aload_n 0, 1) := by decide +kernel
theorem dX4_changes_6 : decode cX4_changes 6 = .ok (.getfield 10, 3) := by decide +kernel
theorem dX4_changes_9 : decode cX4_changes 9 = .ok (.iload_n 1, 1) := by decide +kernel
theorem dX4_changes_10 : decode cX4_changes 10 = .ok (.invokevirtual 75, 3) := by decide +kernel
theorem dX4_changes_13 : decode cX4_changes 13 = .ok (.ifCond .ne 12, 3) := by decide +kernel
theorem dX4_changes_16 : decode cX4_changes 16 = .ok (.aload_n 0, 1) := by decide +kernel
theorem dX4_changes_17 : decode cX4_changes 17 = .ok (.bipush (-2), 2) := by decide +kernel
theorem dX4_changes_19 : decode cX4_changes 19 = .ok (.bipush (-2), 2) := by decide +kernel
theorem dX4_changes_21 : decode cX4_changes 21 = .ok (.invokevirtual 63, 3) := by decide +kernel
theorem dX4_changes_24 : decode cX4_changes 24 = .ok (.ireturn, 1) := by decide +kernel
theorem dX4_changes_25 : decode cX4_changes 25 = .ok (.aload_n 0, 1) := by decide +kernel
theorem dX4_changes_26 : decode cX4_changes 26 = .ok (.getfield 10, 3) := by decide +kernel
theorem dX4_changes_29 : decode cX4_changes 29 = .ok (.getfield 100, 3) := by decide +kernel
theorem dX4_changes_32 : decode cX4_changes 32 = .ok (.iconst 0, 1) := by decide +kernel
theorem dX4_changes_33 : decode cX4_changes 33 = .ok (.aload_n 0, 1) := by decide +kernel
theorem dX4_changes_34 : decode cX4_changes 34 = .ok (.getfield 56, 3) := by decide +kernel
theorem dX4_changes_37 : decode cX4_changes 37 = .ok (.iconst 0, 1) := by decide +kernel
theorem dX4_changes_38 : decode cX4_changes 38 = .ok (.bipush 6, 2) := by decide +kernel
theorem dX4_changes_40 : decode cX4_changes 40 = .ok (.invokestatic 179, 3) := by decide +kernel
theorem dX4_changes_43 : decode cX4_changes 43 = .ok (.iconst 0, 1) := by decide +kernel
theorem dX4_changes_44 : decode cX4_changes 44 = .ok (.istore_n 2, 1) := by decide +kernel
theorem dX4_changes_45 : decode cX4_changes 45 = .ok (.iconst 1, 1) := by decide +kernel
theorem dX4_changes_46 : decode cX4_changes 46 = .ok (.istore_n 3, 1) := by decide +kernel
theorem dX4_changes_47 : decode cX4_changes 47 = .ok (.iload_n 3, 1) := by decide +kernel
theorem dX4_changes_48 : decode cX4_changes 48 = .ok (.ifCond .eq 20, 3) := by decide +kernel
theorem dX4_changes_51 : decode cX4_changes 51 = .ok (.iload_n 2, 1) := by decide +kernel
theorem dX4_changes_52 : decode cX4_changes 52 = .ok (.bipush 8, 2) := by decide +kernel
theorem dX4_changes_54 : decode cX4_changes 54 = .ok (.if_icmp .ge 14, 3) := by decide +kernel
theorem dX4_changes_57 : decode cX4_changes 57 = .ok (.aload_n 0, 1) := by decide +kernel
theorem dX4_changes_58 : decode cX4_changes 58 = .ok (.invokevirtual 185, 3) := by decide +kernel
theorem dX4_changes_61 : decode cX4_changes 61 = .ok (.istore_n 3, 1) := by decide +kernel
theorem dX4_changes_62 : decode cX4_changes 62 = .ok (.iinc 2 1, 3) := by decide +kernel
theorem dX4_changes_65 : decode cX4_changes 65 = .ok (.goto (-18), 3) := by decide +kernel
theorem dX4_changes_68 : decode cX4_changes 68 = .ok (.iload_n 1, 1) := by decide +kernel
theorem dX4_changes_69 : decode cX4_changes 69 = .ok (.iconst (-1), 1) := by decide +kernel
theorem dX4_changes_70 : decode cX4_changes 70 = .ok (.if_icmp .ne 7, 3) := by decide +kernel
theorem dX4_changes_73 : decode cX4_changes 73 = .ok (.iconst (-1), 1) := by decide +kernel
theorem dX4_changes_74 : decode cX4_changes 74 = .ok (.goto 12, 3) := by decide +kernel
theorem dX4_changes_77 : decode cX4_changes 77 = .ok (.aload_n 0, 1) := by decide +kernel
theorem dX4_changes_78 : decode cX4_changes 78 = .ok (.getfield 10, 3) := by decide +kernel
theorem dX4_changes_81 : decode cX4_changes 81 = .ok (.getfield 100, 3) := by decide +kernel
theorem dX4_changes_84 : decode cX4_changes 84 = .ok (.iload_n 1, 1) := by decide +kernel
theorem dX4_changes_85 : decode cX4_changes 85 = .ok (.iaload, 1) := by decide +kernel
theorem dX4_changes_86 : decode cX4_changes 86 = .ok (.istore 4, 2) := by decide +kernel
theorem dX4_changes_88 : decode cX4_changes 88 = .ok (.aload_n 0, 1) := by decide +kernel
theorem dX4_changes_89 : decode cX4_changes 89 = .ok (.getfield 56, 3) := by decide +kernel
theorem dX4_changes_92 : decode cX4_changes 92 = .ok (.iconst 0, 1) := by decide +kernel
theorem dX4_changes_93 : decode cX4_changes 93 = .ok (.aload_n 0, 1) := by decide +kernel
theorem dX4_changes_94 : decode cX4_changes 94 = .ok (.getfield 10, 3) := by decide +kernel
theorem dX4_changes_97 : decode cX4_changes 97 = .ok (.getfield 100, 3) := by decide +kernel
theorem dX4_changes_100 : decode cX4_changes 100 = .ok (.iconst 0, 1) := by decide +kernel
theorem dX4_changes_101 : decode cX4_changes 101 = .ok (.bipush 6, 2) := by decide +kernel
theorem dX4_changes_103 : decode cX4_changes 103 = .ok (.invokestatic 179, 3) := by decide +kernel
theorem dX4_changes_106 : decode cX4_changes 106 = .ok (.iload_n 3, 1) := by decide +kernel
theorem dX4_changes_107 : decode cX4_changes 107 = .ok (.ifCond .eq 5, 3) := by decide +kernel
theorem dX4_changes_110 : decode cX4_changes 110 = .ok (.iconst (-1), 1) := by decide +kernel
theorem dX4_changes_111 : decode cX4_changes 111 = .ok (.ireturn, 1) := by decide +kernel
theorem dX4_changes_112 : decode cX4_changes 112 = .ok (.iload_n 1, 1) := by decide +kernel
theorem dX4_changes_113 : decode cX4_changes 113 = .ok (.iconst (-1), 1) := by decide +kernel
theorem dX4_changes_114 : decode cX4_changes 114 = .ok (.if_icmp .ne 7, 3) := by decide +kernel
theorem dX4_changes_117 : decode cX4_changes 117 = .ok (.iload_n 2, 1) := by decide +kernel
theorem dX4_changes_118 : decode cX4_changes 118 = .ok (.goto 5, 3) := by decide +kernel
theorem dX4_changes_121 : decode cX4_changes 121 = .ok (.iload 4, 2) := by decide +kernel
theorem dX4_changes_123 : decode cX4_changes 123 = .ok (.ireturn, 1) := by decide +kernel
set_option maxRecDepth 20000 in
theorem ggX4_wanted_X4_refuse : GoodIn wsX4_wanted wsX4_refuse := goodIn_r _ [8, 9, 10, 11, 7, 12, 124, 125, 126, 127, 128, 129, 130, 131, 132] (by decide +kernel) (by decide +kernel)
set_option maxRecDepth 20000 in
theorem gX4_wanted_X4_refuse : GoodIn wsX4_wanted (wsV RX4 63 RX4 yX4_refuse wsX4_refuse) := goodIn_app (goodIn_of _ (by decide +kernel)) ggX4_wanted_X4_refuse
set_option maxRecDepth 20000 in
theorem ggX4_wanted_X3_goErrand : GoodIn wsX4_wanted wsX3_goErrand := goodIn_r _ [17, 18, 19, 20, 21, 22, 23, 24, 16, 25, 26, 27, 28, 29, 30, 31, 32, 33, 34, 35, 36, 37, 38, 39, 40, 41, 42, 43, 44, 45, 46, 47, 48, 49, 50, 51, 52, 53, 54, 55, 56, 57, 58, 59, 60, 61, 62, 63, 64, 65, 66, 67, 133, 134, 135, 136, 137, 138, 139, 140, 141, 142, 143, 144, 145, 146, 147, 148, 149, 150, 151, 152, 153, 154, 155] (by decide +kernel) (by decide +kernel)
set_option maxRecDepth 20000 in
theorem gX4_wanted_X3_goErrand : GoodIn wsX4_wanted (wsV RX4 122 RX3 yX3_goErrand wsX3_goErrand) := goodIn_app (goodIn_of _ (by decide +kernel)) ggX4_wanted_X3_goErrand
set_option maxRecDepth 20000 in
theorem ggX4_wanted_X4_isErrandFor : GoodIn wsX4_wanted wsX4_isErrandFor := goodIn_r _ [71, 72, 73, 74, 75, 76, 77, 78, 79, 80, 81, 82, 83, 84, 85, 86, 87, 88, 89, 90, 91, 92, 93, 94, 95, 96, 97, 98, 99, 100, 101, 102, 103, 104, 105, 106, 107, 108, 109, 110, 111, 112, 113, 114, 115, 116, 117, 118, 119, 120, 121, 122, 35, 36, 16, 37, 19, 38, 39, 33, 123, 23, 24, 25, 26, 27, 28, 29, 30, 31, 32, 34, 40, 41, 42, 43, 44, 45, 46, 47, 48, 49, 50, 51, 52, 53, 54, 55, 56, 57, 58, 59, 60, 61, 62, 63, 64, 65, 66, 67, 124, 125, 126, 127, 128, 129, 130, 131, 132, 140, 141, 142, 143, 144, 145, 146, 147, 148, 149, 150, 151, 152, 153, 154, 155, 156, 157, 158, 159, 160, 161, 162, 163, 164, 165, 166, 167, 133, 134, 135, 136, 137, 138, 139] (by decide +kernel) (by decide +kernel)
set_option maxRecDepth 20000 in
theorem gX4_wanted_X4_isErrandFor : GoodIn wsX4_wanted (wsV RX4 189 RX4 yX4_isErrandFor wsX4_isErrandFor) := goodIn_app (goodIn_of _ (by decide +kernel)) ggX4_wanted_X4_isErrandFor
theorem dX4_wanted_0 : decode cX4_wanted 0 = .ok (.iload_n 1, 1) := by decide +kernel
theorem dX4_wanted_1 : decode cX4_wanted 1 = .ok (.iconst (-1), 1) := by decide +kernel
theorem dX4_wanted_2 : decode cX4_wanted 2 = .ok (.if_icmp .ge 12, 3) := by decide +kernel
theorem dX4_wanted_5 : decode cX4_wanted 5 = .ok (.aload_n 0, 1) := by decide +kernel
theorem dX4_wanted_6 : decode cX4_wanted 6 = .ok (.bipush (-2), 2) := by decide +kernel
theorem dX4_wanted_8 : decode cX4_wanted 8 = .ok (.bipush (-10), 2) := by decide +kernel
theorem dX4_wanted_10 : decode cX4_wanted 10 = .ok (.invokevirtual 63, 3) := by decide +kernel
theorem dX4_wanted_13 : decode cX4_wanted 13 = .ok (.ireturn, 1) := by decide +kernel
theorem dX4_wanted_14 : decode cX4_wanted 14 = .ok (.aload_n 0, 1) := by decide +kernel
theorem dX4_wanted_15 : decode cX4_wanted 15 = .ok (.getfield 29, 3) := by decide +kernel
theorem dX4_wanted_18 : decode cX4_wanted 18 = .ok (.invokevirtual 122, 3) := by decide +kernel
theorem dX4_wanted_21 : decode cX4_wanted 21 = .ok (.ifCond .ne 7, 3) := by decide +kernel
theorem dX4_wanted_24 : decode cX4_wanted 24 = .ok (.iconst 1, 1) := by decide +kernel
theorem dX4_wanted_25 : decode cX4_wanted 25 = .ok (.goto 4, 3) := by decide +kernel
theorem dX4_wanted_28 : decode cX4_wanted 28 = .ok (.iconst 0, 1) := by decide +kernel
theorem dX4_wanted_29 : decode cX4_wanted 29 = .ok (.istore_n 2, 1) := by decide +kernel
theorem dX4_wanted_30 : decode cX4_wanted 30 = .ok (.aload_n 0, 1) := by decide +kernel
theorem dX4_wanted_31 : decode cX4_wanted 31 = .ok (.getfield 29, 3) := by decide +kernel
theorem dX4_wanted_34 : decode cX4_wanted 34 = .ok (.getfield 134, 3) := by decide +kernel
theorem dX4_wanted_37 : decode cX4_wanted 37 = .ok (.aload_n 0, 1) := by decide +kernel
theorem dX4_wanted_38 : decode cX4_wanted 38 = .ok (.getfield 29, 3) := by decide +kernel
theorem dX4_wanted_41 : decode cX4_wanted 41 = .ok (.getfield 125, 3) := by decide +kernel
theorem dX4_wanted_44 : decode cX4_wanted 44 = .ok (.iaload, 1) := by decide +kernel
theorem dX4_wanted_45 : decode cX4_wanted 45 = .ok (.istore_n 3, 1) := by decide +kernel
theorem dX4_wanted_46 : decode cX4_wanted 46 = .ok (.iconst 0, 1) := by decide +kernel
theorem dX4_wanted_47 : decode cX4_wanted 47 = .ok (.istore 4, 2) := by decide +kernel
theorem dX4_wanted_49 : decode cX4_wanted 49 = .ok (.iconst 0, 1) := by decide +kernel
theorem dX4_wanted_50 : decode cX4_wanted 50 = .ok (.istore 5, 2) := by decide +kernel
theorem dX4_wanted_52 : decode cX4_wanted 52 = .ok (.iload 5, 2) := by decide +kernel
theorem dX4_wanted_54 : decode cX4_wanted 54 = .ok (.iload_n 3, 1) := by decide +kernel
theorem dX4_wanted_55 : decode cX4_wanted 55 = .ok (.if_icmp .gt 43, 3) := by decide +kernel
theorem dX4_wanted_58 : decode cX4_wanted 58 = .ok (.iload_n 2, 1) := by decide +kernel
theorem dX4_wanted_59 : decode cX4_wanted 59 = .ok (.ifCond .eq 39, 3) := by decide +kernel
theorem dX4_wanted_62 : decode cX4_wanted 62 = .ok (.iload 5, 2) := by decide +kernel
theorem dX4_wanted_64 : decode cX4_wanted 64 = .ok (.iload_n 3, 1) := by decide +kernel
theorem dX4_wanted_65 : decode cX4_wanted 65 = .ok (.iconst (-1), 1) := by decide +kernel
theorem dX4_wanted_66 : decode cX4_wanted 66 = .ok (.ixor, 1) := by decide +kernel
theorem dX4_wanted_67 : decode cX4_wanted 67 = .ok (.iand, 1) := by decide +kernel
theorem dX4_wanted_68 : decode cX4_wanted 68 = .ok (.ifCond .ne 24, 3) := by decide +kernel
theorem dX4_wanted_71 : decode cX4_wanted 71 = .ok (.aload_n 0, 1) := by decide +kernel
theorem dX4_wanted_72 : decode cX4_wanted 72 = .ok (.iload 5, 2) := by decide +kernel
theorem dX4_wanted_74 : decode cX4_wanted 74 = .ok (.invokevirtual 189, 3) := by decide +kernel
theorem dX4_wanted_77 : decode cX4_wanted 77 = .ok (.ifCond .eq 15, 3) := by decide +kernel
theorem dX4_wanted_80 : decode cX4_wanted 80 = .ok (.iload 4, 2) := by decide +kernel
theorem dX4_wanted_82 : decode cX4_wanted 82 = .ok (.iload_n 1, 1) := by decide +kernel
theorem dX4_wanted_83 : decode cX4_wanted 83 = .ok (.if_icmp .ne 6, 3) := by decide +kernel
theorem dX4_wanted_86 : decode cX4_wanted 86 = .ok (.iload 5, 2) := by decide +kernel
theorem dX4_wanted_88 : decode cX4_wanted 88 = .ok (.ireturn, 1) := by decide +kernel
theorem dX4_wanted_89 : decode cX4_wanted 89 = .ok (.iinc 4 1, 3) := by decide +kernel
theorem dX4_wanted_92 : decode cX4_wanted 92 = .ok (.iinc 5 1, 3) := by decide +kernel
theorem dX4_wanted_95 : decode cX4_wanted 95 = .ok (.goto (-43), 3) := by decide +kernel
theorem dX4_wanted_98 : decode cX4_wanted 98 = .ok (.iload_n 1, 1) := by decide +kernel
theorem dX4_wanted_99 : decode cX4_wanted 99 = .ok (.iconst (-1), 1) := by decide +kernel
theorem dX4_wanted_100 : decode cX4_wanted 100 = .ok (.if_icmp .ne 8, 3) := by decide +kernel
theorem dX4_wanted_103 : decode cX4_wanted 103 = .ok (.iload 4, 2) := by decide +kernel
theorem dX4_wanted_105 : decode cX4_wanted 105 = .ok (.goto 5, 3) := by decide +kernel
theorem dX4_wanted_108 : decode cX4_wanted 108 = .ok (.bipush (-5), 2) := by decide +kernel
theorem dX4_wanted_110 : decode cX4_wanted 110 = .ok (.ireturn, 1) := by decide +kernel
set_option maxRecDepth 20000 in
theorem ggX4_image_X4_isIn : GoodIn wsX4_image wsX4_isIn := goodIn_r _ [7] (by decide +kernel) (by decide +kernel)
set_option maxRecDepth 20000 in
theorem gX4_image_X4_isIn : GoodIn wsX4_image (va_wsS RX4 59 yX4_isIn wsX4_isIn) := goodIn_app (goodIn_of _ (by decide +kernel)) ggX4_image_X4_isIn
set_option maxRecDepth 20000 in
theorem ggX4_image_X4_refuse : GoodIn wsX4_image wsX4_refuse := goodIn_r _ [11, 12, 4, 5, 6, 7, 42, 43, 44, 45, 46, 47, 48, 49, 50] (by decide +kernel) (by decide +kernel)
set_option maxRecDepth 20000 in
theorem gX4_image_X4_refuse : GoodIn wsX4_image (wsV RX4 63 RX4 yX4_refuse wsX4_refuse) := goodIn_app (goodIn_of _ (by decide +kernel)) ggX4_image_X4_refuse
set_option maxRecDepth 20000 in
theorem ggX4_image_X2_takeAllOf : GoodIn wsX4_image wsX2_takeAllOf := goodIn_r _ [17, 18, 19, 20, 21, 22, 23, 24, 25, 26, 27, 28, 29, 30, 31, 16, 32, 33, 34, 35, 36, 37, 38, 39, 40, 41, 51, 52, 53, 54, 55, 56, 57, 58, 59, 60, 61, 62, 63, 64, 65, 66] (by decide +kernel) (by decide +kernel)
set_option maxRecDepth 20000 in
theorem gX4_image_X2_takeAllOf : GoodIn wsX4_image (wsV RX4 192 RX2 yX2_takeAllOf wsX2_takeAllOf) := goodIn_app (goodIn_of _ (by decide +kernel)) ggX4_image_X2_takeAllOf
theorem dX4_image_0 : decode cX4_image 0 = .ok (.iload_n 1, 1) := by decide +kernel
theorem dX4_image_1 : decode cX4_image 1 = .ok (.iconst 0, 1) := by decide +kernel
theorem dX4_image_2 : decode cX4_image 2 = .ok (.iconst 1, 1) := by decide +kernel
theorem dX4_image_3 : decode cX4_image 3 = .ok (.invokestatic 59, 3) := by decide +kernel
theorem dX4_image_6 : decode cX4_image 6 = .ok (.ifCond .ne 12, 3) := by decide +kernel
theorem dX4_image_9 : decode cX4_image 9 = .ok (.aload_n 0, 1) := by decide +kernel
theorem dX4_image_10 : decode cX4_image 10 = .ok (.bipush (-2), 2) := by decide +kernel
theorem dX4_image_12 : decode cX4_image 12 = .ok (.bipush (-2), 2) := by decide +kernel
theorem dX4_image_14 : decode cX4_image 14 = .ok (.invokevirtual 63, 3) := by decide +kernel
theorem dX4_image_17 : decode cX4_image 17 = .ok (.ireturn, 1) := by decide +kernel
theorem dX4_image_18 : decode cX4_image 18 = .ok (.aload_n 0, 1) := by decide +kernel
theorem dX4_image_19 : decode cX4_image 19 = .ok (.getfield 16, 3) := by decide +kernel
theorem dX4_image_22 : decode cX4_image 22 = .ok (.iload_n 1, 1) := by decide +kernel
theorem dX4_image_23 : decode cX4_image 23 = .ok (.aaload, 1) := by decide +kernel
theorem dX4_image_24 : decode cX4_image 24 = .ok (.aload_n 0, 1) := by decide +kernel
theorem dX4_image_25 : decode cX4_image 25 = .ok (.getfield 10, 3) := by decide +kernel
theorem dX4_image_28 : decode cX4_image 28 = .ok (.invokevirtual 192, 3) := by decide +kernel
theorem dX4_image_31 : decode cX4_image 31 = .ok (.aload_n 0, 1) := by decide +kernel
theorem dX4_image_32 : decode cX4_image 32 = .ok (.getfield 20, 3) := by decide +kernel
theorem dX4_image_35 : decode cX4_image 35 = .ok (.iload_n 1, 1) := by decide +kernel
theorem dX4_image_36 : decode cX4_image 36 = .ok (.iconst 1, 1) := by decide +kernel
theorem dX4_image_37 : decode cX4_image 37 = .ok (.bastore, 1) := by decide +kernel
theorem dX4_image_38 : decode cX4_image 38 = .ok (.iconst 1, 1) := by decide +kernel
theorem dX4_image_39 : decode cX4_image 39 = .ok (.ireturn, 1) := by decide +kernel
set_option maxRecDepth 20000 in
theorem ggX4_from_X4_isIn : GoodIn wsX4_from wsX4_isIn := goodIn_r _ [7] (by decide +kernel) (by decide +kernel)
set_option maxRecDepth 20000 in
theorem gX4_from_X4_isIn : GoodIn wsX4_from (va_wsS RX4 59 yX4_isIn wsX4_isIn) := goodIn_app (goodIn_of _ (by decide +kernel)) ggX4_from_X4_isIn
set_option maxRecDepth 20000 in
theorem ggX4_from_X4_refuse : GoodIn wsX4_from wsX4_refuse := goodIn_r _ [11, 12, 4, 5, 6, 7, 42, 43, 44, 45, 46, 47, 48, 49, 50] (by decide +kernel) (by decide +kernel)
set_option maxRecDepth 20000 in
theorem gX4_from_X4_refuse : GoodIn wsX4_from (wsV RX4 63 RX4 yX4_refuse wsX4_refuse) := goodIn_app (goodIn_of _ (by decide +kernel)) ggX4_from_X4_refuse
set_option maxRecDepth 20000 in
theorem ggX4_from_X2_takeAllOf : GoodIn wsX4_from wsX2_takeAllOf := goodIn_r _ [17, 18, 19, 20, 21, 22, 23, 24, 25, 26, 27, 28, 29, 30, 31, 16, 32, 33, 34, 35, 36, 37, 38, 39, 40, 41, 51, 52, 53, 54, 55, 56, 57, 58, 59, 60, 61, 62, 63, 64, 65, 66] (by decide +kernel) (by decide +kernel)
set_option maxRecDepth 20000 in
theorem gX4_from_X2_takeAllOf : GoodIn wsX4_from (wsV RX4 192 RX2 yX2_takeAllOf wsX2_takeAllOf) := goodIn_app (goodIn_of _ (by decide +kernel)) ggX4_from_X2_takeAllOf
theorem dX4_from_0 : decode cX4_from 0 = .ok (.iload_n 1, 1) := by decide +kernel
theorem dX4_from_1 : decode cX4_from 1 = .ok (.iconst 0, 1) := by decide +kernel
theorem dX4_from_2 : decode cX4_from 2 = .ok (.iconst 1, 1) := by decide +kernel
theorem dX4_from_3 : decode cX4_from 3 = .ok (.invokestatic 59, 3) := by decide +kernel
theorem dX4_from_6 : decode cX4_from 6 = .ok (.ifCond .ne 12, 3) := by decide +kernel
theorem dX4_from_9 : decode cX4_from 9 = .ok (.aload_n 0, 1) := by decide +kernel
theorem dX4_from_10 : decode cX4_from 10 = .ok (.bipush (-2), 2) := by decide +kernel
theorem dX4_from_12 : decode cX4_from 12 = .ok (.bipush (-2), 2) := by decide +kernel
theorem dX4_from_14 : decode cX4_from 14 = .ok (.invokevirtual 63, 3) := by decide +kernel
theorem dX4_from_17 : decode cX4_from 17 = .ok (.ireturn, 1) := by decide +kernel
theorem dX4_from_18 : decode cX4_from 18 = .ok (.aload_n 0, 1) := by decide +kernel
theorem dX4_from_19 : decode cX4_from 19 = .ok (.getfield 20, 3) := by decide +kernel
theorem dX4_from_22 : decode cX4_from 22 = .ok (.iload_n 1, 1) := by decide +kernel
theorem dX4_from_23 : decode cX4_from 23 = .ok (.baload, 1) := by decide +kernel
theorem dX4_from_24 : decode cX4_from 24 = .ok (.ifCond .ne 12, 3) := by decide +kernel
theorem dX4_from_27 : decode cX4_from 27 = .ok (.aload_n 0, 1) := by decide +kernel
theorem dX4_from_28 : decode cX4_from 28 = .ok (.bipush (-3), 2) := by decide +kernel
theorem dX4_from_30 : decode cX4_from 30 = .ok (.bipush (-3), 2) := by decide +kernel
theorem dX4_from_32 : decode cX4_from 32 = .ok (.invokevirtual 63, 3) := by decide +kernel
theorem dX4_from_35 : decode cX4_from 35 = .ok (.ireturn, 1) := by decide +kernel
theorem dX4_from_36 : decode cX4_from 36 = .ok (.aload_n 0, 1) := by decide +kernel
theorem dX4_from_37 : decode cX4_from 37 = .ok (.getfield 10, 3) := by decide +kernel
theorem dX4_from_40 : decode cX4_from 40 = .ok (.aload_n 0, 1) := by decide +kernel
theorem dX4_from_41 : decode cX4_from 41 = .ok (.getfield 16, 3) := by decide +kernel
theorem dX4_from_44 : decode cX4_from 44 = .ok (.iload_n 1, 1) := by decide +kernel
theorem dX4_from_45 : decode cX4_from 45 = .ok (.aaload, 1) := by decide +kernel
theorem dX4_from_46 : decode cX4_from 46 = .ok (.invokevirtual 192, 3) := by decide +kernel
theorem dX4_from_49 : decode cX4_from 49 = .ok (.iconst 1, 1) := by decide +kernel
theorem dX4_from_50 : decode cX4_from 50 = .ok (.ireturn, 1) := by decide +kernel
set_option maxRecDepth 20000 in
theorem ggX4_status_X4_isIn : GoodIn wsX4_status wsX4_isIn := goodIn_r _ [5] (by decide +kernel) (by decide +kernel)
set_option maxRecDepth 20000 in
theorem gX4_status_X4_isIn : GoodIn wsX4_status (va_wsS RX4 59 yX4_isIn wsX4_isIn) := goodIn_app (goodIn_of _ (by decide +kernel)) ggX4_status_X4_isIn
set_option maxRecDepth 20000 in
theorem ggX4_status_X4_refuse : GoodIn wsX4_status wsX4_refuse := goodIn_r _ [9, 1, 2, 3, 4, 5, 10, 11, 12, 13, 14, 15, 16, 17, 18] (by decide +kernel) (by decide +kernel)
set_option maxRecDepth 20000 in
theorem gX4_status_X4_refuse : GoodIn wsX4_status (wsV RX4 63 RX4 yX4_refuse wsX4_refuse) := goodIn_app (goodIn_of _ (by decide +kernel)) ggX4_status_X4_refuse
theorem dX4_status_0 : decode cX4_status 0 = .ok (.iload_n 1, 1) := by decide +kernel
theorem dX4_status_1 : decode cX4_status 1 = .ok (.iconst 0, 1) := by decide +kernel
theorem dX4_status_2 : decode cX4_status 2 = .ok (.iconst 2, 1) := by decide +kernel
theorem dX4_status_3 : decode cX4_status 3 = .ok (.invokestatic 59, 3) := by decide +kernel
theorem dX4_status_6 : decode cX4_status 6 = .ok (.ifCond .eq 12, 3) := by decide +kernel
theorem dX4_status_9 : decode cX4_status 9 = .ok (.aload_n 0, 1) := by decide +kernel
theorem dX4_status_10 : decode cX4_status 10 = .ok (.getfield 49, 3) := by decide +kernel
theorem dX4_status_13 : decode cX4_status 13 = .ok (.iload_n 1, 1) := by decide +kernel
theorem dX4_status_14 : decode cX4_status 14 = .ok (.iaload, 1) := by decide +kernel
theorem dX4_status_15 : decode cX4_status 15 = .ok (.goto 10, 3) := by decide +kernel
theorem dX4_status_18 : decode cX4_status 18 = .ok (.aload_n 0, 1) := by decide +kernel
theorem dX4_status_19 : decode cX4_status 19 = .ok (.bipush (-2), 2) := by decide +kernel
theorem dX4_status_21 : decode cX4_status 21 = .ok (.iconst (-1), 1) := by decide +kernel
theorem dX4_status_22 : decode cX4_status 22 = .ok (.invokevirtual 63, 3) := by decide +kernel
theorem dX4_status_25 : decode cX4_status 25 = .ok (.ireturn, 1) := by decide +kernel
set_option maxRecDepth 20000 in
theorem ggX4_count_X4_isIn : GoodIn wsX4_count wsX4_isIn := goodIn_r _ [5] (by decide +kernel) (by decide +kernel)
set_option maxRecDepth 20000 in
theorem gX4_count_X4_isIn : GoodIn wsX4_count (va_wsS RX4 59 yX4_isIn wsX4_isIn) := goodIn_app (goodIn_of _ (by decide +kernel)) ggX4_count_X4_isIn
set_option maxRecDepth 20000 in
theorem ggX4_count_X2_howMany : GoodIn wsX4_count wsX2_howMany := goodIn_r _ [10, 11, 12, 13, 14, 29, 30, 31, 32, 33, 34, 35, 36, 37, 38, 39, 40, 41, 42, 43, 44] (by decide +kernel) (by decide +kernel)
set_option maxRecDepth 20000 in
theorem gX4_count_X2_howMany : GoodIn wsX4_count (wsV RX4 195 RX2 yX2_howMany wsX2_howMany) := goodIn_app (goodIn_of _ (by decide +kernel)) ggX4_count_X2_howMany
set_option maxRecDepth 20000 in
theorem ggX4_count_X4_refuse : GoodIn wsX4_count wsX4_refuse := goodIn_r _ [18, 19, 2, 3, 4, 5, 20, 21, 22, 23, 24, 25, 26, 27, 28] (by decide +kernel) (by decide +kernel)
set_option maxRecDepth 20000 in
theorem gX4_count_X4_refuse : GoodIn wsX4_count (wsV RX4 63 RX4 yX4_refuse wsX4_refuse) := goodIn_app (goodIn_of _ (by decide +kernel)) ggX4_count_X4_refuse
theorem dX4_count_0 : decode cX4_count 0 = .ok (.iload_n 1, 1) := by decide +kernel
theorem dX4_count_1 : decode cX4_count 1 = .ok (.iconst 0, 1) := by decide +kernel
theorem dX4_count_2 : decode cX4_count 2 = .ok (.iconst 3, 1) := by decide +kernel
theorem dX4_count_3 : decode cX4_count 3 = .ok (.invokestatic 59, 3) := by decide +kernel
theorem dX4_count_6 : decode cX4_count 6 = .ok (.ifCond .eq 14, 3) := by decide +kernel
theorem dX4_count_9 : decode cX4_count 9 = .ok (.aload_n 0, 1) := by decide +kernel
theorem dX4_count_10 : decode cX4_count 10 = .ok (.getfield 10, 3) := by decide +kernel
theorem dX4_count_13 : decode cX4_count 13 = .ok (.iload_n 1, 1) := by decide +kernel
theorem dX4_count_14 : decode cX4_count 14 = .ok (.invokevirtual 195, 3) := by decide +kernel
theorem dX4_count_17 : decode cX4_count 17 = .ok (.goto 11, 3) := by decide +kernel
theorem dX4_count_20 : decode cX4_count 20 = .ok (.aload_n 0, 1) := by decide +kernel
theorem dX4_count_21 : decode cX4_count 21 = .ok (.bipush (-2), 2) := by decide +kernel
theorem dX4_count_23 : decode cX4_count 23 = .ok (.bipush (-2), 2) := by decide +kernel
theorem dX4_count_25 : decode cX4_count 25 = .ok (.invokevirtual 63, 3) := by decide +kernel
theorem dX4_count_28 : decode cX4_count 28 = .ok (.ireturn, 1) := by decide +kernel
set_option maxRecDepth 20000 in
theorem ggX4_digest_X2_howMany : GoodIn wsX4_digest wsX2_howMany := goodIn_r _ [24, 25, 26, 27, 28, 38, 39, 40, 41, 42, 43, 44, 45, 46, 47, 48, 49, 50, 51, 52, 53] (by decide +kernel) (by decide +kernel)
set_option maxRecDepth 20000 in
theorem gX4_digest_X2_howMany : GoodIn wsX4_digest (wsV RX4 195 RX2 yX2_howMany wsX2_howMany) := goodIn_app (goodIn_of _ (by decide +kernel)) ggX4_digest_X2_howMany
theorem dX4_digest_0 : decode cX4_digest 0 = .ok (.ldc2_w 198, 3) := by decide +kernel
theorem dX4_digest_3 : decode cX4_digest 3 = .ok (.lstore_n 1, 1) := by decide +kernel
theorem dX4_digest_4 : decode cX4_digest 4 = .ok (.iconst 0, 1) := by decide +kernel
theorem dX4_digest_5 : decode cX4_digest 5 = .ok (.istore_n 3, 1) := by decide +kernel
theorem dX4_digest_6 : decode cX4_digest 6 = .ok (.iload_n 3, 1) := by decide +kernel
theorem dX4_digest_7 : decode cX4_digest 7 = .ok (.iconst 3, 1) := by decide +kernel
theorem dX4_digest_8 : decode cX4_digest 8 = .ok (.if_icmp .gt 25, 3) := by decide +kernel
theorem dX4_digest_11 : decode cX4_digest 11 = .ok (.ldc2_w 200, 3) := by decide +kernel
theorem dX4_digest_14 : decode cX4_digest 14 = .ok (.lload_n 1, 1) := by decide +kernel
theorem dX4_digest_15 : decode cX4_digest 15 = .ok (.lmul, 1) := by decide +kernel
theorem dX4_digest_16 : decode cX4_digest 16 = .ok (.aload_n 0, 1) := by decide +kernel
theorem dX4_digest_17 : decode cX4_digest 17 = .ok (.getfield 10, 3) := by decide +kernel
theorem dX4_digest_20 : decode cX4_digest 20 = .ok (.iload_n 3, 1) := by decide +kernel
theorem dX4_digest_21 : decode cX4_digest 21 = .ok (.invokevirtual 195, 3) := by decide +kernel
theorem dX4_digest_24 : decode cX4_digest 24 = .ok (.i2l, 1) := by decide +kernel
theorem dX4_digest_25 : decode cX4_digest 25 = .ok (.ladd, 1) := by decide +kernel
theorem dX4_digest_26 : decode cX4_digest 26 = .ok (.lstore_n 1, 1) := by decide +kernel
theorem dX4_digest_27 : decode cX4_digest 27 = .ok (.iinc 3 1, 3) := by decide +kernel
theorem dX4_digest_30 : decode cX4_digest 30 = .ok (.goto (-24), 3) := by decide +kernel
theorem dX4_digest_33 : decode cX4_digest 33 = .ok (.iconst 0, 1) := by decide +kernel
theorem dX4_digest_34 : decode cX4_digest 34 = .ok (.istore_n 3, 1) := by decide +kernel
theorem dX4_digest_35 : decode cX4_digest 35 = .ok (.iload_n 3, 1) := by decide +kernel
theorem dX4_digest_36 : decode cX4_digest 36 = .ok (.aload_n 0, 1) := by decide +kernel
theorem dX4_digest_37 : decode cX4_digest 37 = .ok (.getfield 10, 3) := by decide +kernel
theorem dX4_digest_40 : decode cX4_digest 40 = .ok (.getfield 67, 3) := by decide +kernel
theorem dX4_digest_43 : decode cX4_digest 43 = .ok (.if_icmp .ge 94, 3) := by decide +kernel
theorem dX4_digest_46 : decode cX4_digest 46 = .ok (.ldc2_w 200, 3) := by decide +kernel
theorem dX4_digest_49 : decode cX4_digest 49 = .ok (.lload_n 1, 1) := by decide +kernel
theorem dX4_digest_50 : decode cX4_digest 50 = .ok (.lmul, 1) := by decide +kernel
theorem dX4_digest_51 : decode cX4_digest 51 = .ok (.aload_n 0, 1) := by decide +kernel
theorem dX4_digest_52 : decode cX4_digest 52 = .ok (.getfield 10, 3) := by decide +kernel
theorem dX4_digest_55 : decode cX4_digest 55 = .ok (.getfield 202, 3) := by decide +kernel
theorem dX4_digest_58 : decode cX4_digest 58 = .ok (.iload_n 3, 1) := by decide +kernel
theorem dX4_digest_59 : decode cX4_digest 59 = .ok (.iaload, 1) := by decide +kernel
theorem dX4_digest_60 : decode cX4_digest 60 = .ok (.i2l, 1) := by decide +kernel
theorem dX4_digest_61 : decode cX4_digest 61 = .ok (.ladd, 1) := by decide +kernel
theorem dX4_digest_62 : decode cX4_digest 62 = .ok (.lstore_n 1, 1) := by decide +kernel
theorem dX4_digest_63 : decode cX4_digest 63 = .ok (.ldc2_w 200, 3) := by decide +kernel
theorem dX4_digest_66 : decode cX4_digest 66 = .ok (.lload_n 1, 1) := by decide +kernel
theorem dX4_digest_67 : decode cX4_digest 67 = .ok (.lmul, 1) := by decide +kernel
theorem dX4_digest_68 : decode cX4_digest 68 = .ok (.aload_n 0, 1) := by decide +kernel
theorem dX4_digest_69 : decode cX4_digest 69 = .ok (.getfield 10, 3) := by decide +kernel
theorem dX4_digest_72 : decode cX4_digest 72 = .ok (.getfield 100, 3) := by decide +kernel
theorem dX4_digest_75 : decode cX4_digest 75 = .ok (.iload_n 3, 1) := by decide +kernel
theorem dX4_digest_76 : decode cX4_digest 76 = .ok (.iaload, 1) := by decide +kernel
theorem dX4_digest_77 : decode cX4_digest 77 = .ok (.i2l, 1) := by decide +kernel
theorem dX4_digest_78 : decode cX4_digest 78 = .ok (.ladd, 1) := by decide +kernel
theorem dX4_digest_79 : decode cX4_digest 79 = .ok (.lstore_n 1, 1) := by decide +kernel
theorem dX4_digest_80 : decode cX4_digest 80 = .ok (.ldc2_w 200, 3) := by decide +kernel
theorem dX4_digest_83 : decode cX4_digest 83 = .ok (.lload_n 1, 1) := by decide +kernel
theorem dX4_digest_84 : decode cX4_digest 84 = .ok (.lmul, 1) := by decide +kernel
theorem dX4_digest_85 : decode cX4_digest 85 = .ok (.aload_n 0, 1) := by decide +kernel
theorem dX4_digest_86 : decode cX4_digest 86 = .ok (.getfield 10, 3) := by decide +kernel
theorem dX4_digest_89 : decode cX4_digest 89 = .ok (.getfield 205, 3) := by decide +kernel
theorem dX4_digest_92 : decode cX4_digest 92 = .ok (.iload_n 3, 1) := by decide +kernel
theorem dX4_digest_93 : decode cX4_digest 93 = .ok (.iaload, 1) := by decide +kernel
theorem dX4_digest_94 : decode cX4_digest 94 = .ok (.i2l, 1) := by decide +kernel
theorem dX4_digest_95 : decode cX4_digest 95 = .ok (.ladd, 1) := by decide +kernel
theorem dX4_digest_96 : decode cX4_digest 96 = .ok (.lstore_n 1, 1) := by decide +kernel
theorem dX4_digest_97 : decode cX4_digest 97 = .ok (.ldc2_w 200, 3) := by decide +kernel
theorem dX4_digest_100 : decode cX4_digest 100 = .ok (.lload_n 1, 1) := by decide +kernel
theorem dX4_digest_101 : decode cX4_digest 101 = .ok (.lmul, 1) := by decide +kernel
theorem dX4_digest_102 : decode cX4_digest 102 = .ok (.aload_n 0, 1) := by decide +kernel
theorem dX4_digest_103 : decode cX4_digest 103 = .ok (.getfield 10, 3) := by decide +kernel
theorem dX4_digest_106 : decode cX4_digest 106 = .ok (.getfield 208, 3) := by decide +kernel
theorem dX4_digest_109 : decode cX4_digest 109 = .ok (.iload_n 3, 1) := by decide +kernel
theorem dX4_digest_110 : decode cX4_digest 110 = .ok (.iaload, 1) := by decide +kernel
theorem dX4_digest_111 : decode cX4_digest 111 = .ok (.i2l, 1) := by decide +kernel
theorem dX4_digest_112 : decode cX4_digest 112 = .ok (.ladd, 1) := by decide +kernel
theorem dX4_digest_113 : decode cX4_digest 113 = .ok (.lstore_n 1, 1) := by decide +kernel
theorem dX4_digest_114 : decode cX4_digest 114 = .ok (.ldc2_w 200, 3) := by decide +kernel
theorem dX4_digest_117 : decode cX4_digest 117 = .ok (.lload_n 1, 1) := by decide +kernel
theorem dX4_digest_118 : decode cX4_digest 118 = .ok (.lmul, 1) := by decide +kernel
theorem dX4_digest_119 : decode cX4_digest 119 = .ok (.aload_n 0, 1) := by decide +kernel
theorem dX4_digest_120 : decode cX4_digest 120 = .ok (.getfield 10, 3) := by decide +kernel
theorem dX4_digest_123 : decode cX4_digest 123 = .ok (.getfield 211, 3) := by decide +kernel
theorem dX4_digest_126 : decode cX4_digest 126 = .ok (.iload_n 3, 1) := by decide +kernel
theorem dX4_digest_127 : decode cX4_digest 127 = .ok (.iaload, 1) := by decide +kernel
theorem dX4_digest_128 : decode cX4_digest 128 = .ok (.i2l, 1) := by decide +kernel
theorem dX4_digest_129 : decode cX4_digest 129 = .ok (.ladd, 1) := by decide +kernel
theorem dX4_digest_130 : decode cX4_digest 130 = .ok (.lstore_n 1, 1) := by decide +kernel
theorem dX4_digest_131 : decode cX4_digest 131 = .ok (.iinc 3 1, 3) := by decide +kernel
theorem dX4_digest_134 : decode cX4_digest 134 = .ok (.goto (-99), 3) := by decide +kernel
theorem dX4_digest_137 : decode cX4_digest 137 = .ok (.ldc2_w 200, 3) := by decide +kernel
theorem dX4_digest_140 : decode cX4_digest 140 = .ok (.lload_n 1, 1) := by decide +kernel
theorem dX4_digest_141 : decode cX4_digest 141 = .ok (.lmul, 1) := by decide +kernel
theorem dX4_digest_142 : decode cX4_digest 142 = .ok (.aload_n 0, 1) := by decide +kernel
theorem dX4_digest_143 : decode cX4_digest 143 = .ok (.getfield 10, 3) := by decide +kernel
theorem dX4_digest_146 : decode cX4_digest 146 = .ok (.getfield 214, 3) := by decide +kernel
theorem dX4_digest_149 : decode cX4_digest 149 = .ok (.i2l, 1) := by decide +kernel
theorem dX4_digest_150 : decode cX4_digest 150 = .ok (.ladd, 1) := by decide +kernel
theorem dX4_digest_151 : decode cX4_digest 151 = .ok (.lstore_n 1, 1) := by decide +kernel
theorem dX4_digest_152 : decode cX4_digest 152 = .ok (.ldc2_w 200, 3) := by decide +kernel
theorem dX4_digest_155 : decode cX4_digest 155 = .ok (.lload_n 1, 1) := by decide +kernel
theorem dX4_digest_156 : decode cX4_digest 156 = .ok (.lmul, 1) := by decide +kernel
theorem dX4_digest_157 : decode cX4_digest 157 = .ok (.aload_n 0, 1) := by decide +kernel
