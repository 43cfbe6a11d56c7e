set_option maxRecDepth 20000 in
theorem gX5_buyer_X5_isShop : GoodIn wsX5_buyer (wsV RX5 86 RX5 yX5_isShop wsX5_isShop) := goodIn_app (goodIn_of _ (by decide +kernel)) ggX5_buyer_X5_isShop
set_option maxRecDepth 20000 in
theorem ggX5_buyer_X5_in : GoodIn wsX5_buyer wsX5_in := goodIn_r _ [14] (by decide +kernel) (by decide +kernel)
set_option maxRecDepth 20000 in
theorem gX5_buyer_X5_in : GoodIn wsX5_buyer (va_wsS RX5 63 yX5_in wsX5_in) := goodIn_app (goodIn_of _ (by decide +kernel)) ggX5_buyer_X5_in
set_option maxRecDepth 20000 in
theorem ggX5_buyer_X5_bad : GoodIn wsX5_buyer wsX5_bad := goodIn_r _ [18, 19, 24, 25, 26, 27, 28, 29, 30, 31, 32, 33, 34, 35, 36, 37, 38, 39, 40, 41, 42, 43, 44, 45, 46, 47, 48, 49, 50, 51] (by decide +kernel) (by decide +kernel)
set_option maxRecDepth 20000 in
theorem gX5_buyer_X5_bad : GoodIn wsX5_buyer (wsV RX5 79 RX5 yX5_bad wsX5_bad) := goodIn_app (goodIn_of _ (by decide +kernel)) ggX5_buyer_X5_bad
set_option maxRecDepth 20000 in
theorem ggX5_buyer_X5_full : GoodIn wsX5_buyer wsX5_full := goodIn_r _ [23, 19, 24, 25, 26, 27, 28, 29, 30, 31, 32, 33, 34, 35, 36, 37, 38, 39, 40, 41, 42, 43, 44, 45, 46, 47, 48, 49, 50, 51] (by decide +kernel) (by decide +kernel)
set_option maxRecDepth 20000 in
theorem gX5_buyer_X5_full : GoodIn wsX5_buyer (wsV RX5 83 RX5 yX5_full wsX5_full) := goodIn_app (goodIn_of _ (by decide +kernel)) ggX5_buyer_X5_full
theorem dX5_buyer_0 : decode cX5_buyer 0 = .ok (.aload_n 0, 1) := by decide +kernel
theorem dX5_buyer_1 : decode cX5_buyer 1 = .ok (.iload_n 1, 1) := by decide +kernel
theorem dX5_buyer_2 : decode cX5_buyer 2 = .ok (.invokevirtual 86, 3) := by decide +kernel
theorem dX5_buyer_5 : decode cX5_buyer 5 = .ok (.ifCond .eq 15, 3) := by decide +kernel
theorem dX5_buyer_8 : decode cX5_buyer 8 = .ok (.iload_n 2, 1) := by decide +kernel
theorem dX5_buyer_9 : decode cX5_buyer 9 = .ok (.i2l, 1) := by decide +kernel
theorem dX5_buyer_10 : decode cX5_buyer 10 = .ok (.lconst 0, 1) := by decide +kernel
theorem dX5_buyer_11 : decode cX5_buyer 11 = .ok (.ldc2_w 253, 3) := by decide +kernel
theorem dX5_buyer_14 : decode cX5_buyer 14 = .ok (.invokestatic 63, 3) := by decide +kernel
theorem dX5_buyer_17 : decode cX5_buyer 17 = .ok (.ifCond .ne 10, 3) := by decide +kernel
theorem dX5_buyer_20 : decode cX5_buyer 20 = .ok (.aload_n 0, 1) := by decide +kernel
theorem dX5_buyer_21 : decode cX5_buyer 21 = .ok (.bipush (-2), 2) := by decide +kernel
theorem dX5_buyer_23 : decode cX5_buyer 23 = .ok (.invokevirtual 79, 3) := by decide +kernel
theorem dX5_buyer_26 : decode cX5_buyer 26 = .ok (.ireturn, 1) := by decide +kernel
theorem dX5_buyer_27 : decode cX5_buyer 27 = .ok (.aload_n 0, 1) := by decide +kernel
theorem dX5_buyer_28 : decode cX5_buyer 28 = .ok (.getfield 7, 3) := by decide +kernel
theorem dX5_buyer_31 : decode cX5_buyer 31 = .ok (.sipush 260, 3) := by decide +kernel
theorem dX5_buyer_34 : decode cX5_buyer 34 = .ok (.iaload, 1) := by decide +kernel
theorem dX5_buyer_35 : decode cX5_buyer 35 = .ok (.istore_n 3, 1) := by decide +kernel
theorem dX5_buyer_36 : decode cX5_buyer 36 = .ok (.iload_n 3, 1) := by decide +kernel
theorem dX5_buyer_37 : decode cX5_buyer 37 = .ok (.bipush 6, 2) := by decide +kernel
theorem dX5_buyer_39 : decode cX5_buyer 39 = .ok (.if_icmp .ne 8, 3) := by decide +kernel
theorem dX5_buyer_42 : decode cX5_buyer 42 = .ok (.aload_n 0, 1) := by decide +kernel
theorem dX5_buyer_43 : decode cX5_buyer 43 = .ok (.invokevirtual 83, 3) := by decide +kernel
theorem dX5_buyer_46 : decode cX5_buyer 46 = .ok (.ireturn, 1) := by decide +kernel
theorem dX5_buyer_47 : decode cX5_buyer 47 = .ok (.aload_n 0, 1) := by decide +kernel
theorem dX5_buyer_48 : decode cX5_buyer 48 = .ok (.getfield 7, 3) := by decide +kernel
theorem dX5_buyer_51 : decode cX5_buyer 51 = .ok (.sipush 247, 3) := by decide +kernel
theorem dX5_buyer_54 : decode cX5_buyer 54 = .ok (.iconst 2, 1) := by decide +kernel
theorem dX5_buyer_55 : decode cX5_buyer 55 = .ok (.iload_n 3, 1) := by decide +kernel
theorem dX5_buyer_56 : decode cX5_buyer 56 = .ok (.imul, 1) := by decide +kernel
theorem dX5_buyer_57 : decode cX5_buyer 57 = .ok (.iadd, 1) := by decide +kernel
theorem dX5_buyer_58 : decode cX5_buyer 58 = .ok (.iload_n 1, 1) := by decide +kernel
theorem dX5_buyer_59 : decode cX5_buyer 59 = .ok (.iastore, 1) := by decide +kernel
theorem dX5_buyer_60 : decode cX5_buyer 60 = .ok (.aload_n 0, 1) := by decide +kernel
theorem dX5_buyer_61 : decode cX5_buyer 61 = .ok (.getfield 7, 3) := by decide +kernel
theorem dX5_buyer_64 : decode cX5_buyer 64 = .ok (.sipush 247, 3) := by decide +kernel
theorem dX5_buyer_67 : decode cX5_buyer 67 = .ok (.iconst 2, 1) := by decide +kernel
theorem dX5_buyer_68 : decode cX5_buyer 68 = .ok (.iload_n 3, 1) := by decide +kernel
theorem dX5_buyer_69 : decode cX5_buyer 69 = .ok (.imul, 1) := by decide +kernel
theorem dX5_buyer_70 : decode cX5_buyer 70 = .ok (.iadd, 1) := by decide +kernel
theorem dX5_buyer_71 : decode cX5_buyer 71 = .ok (.iconst 1, 1) := by decide +kernel
theorem dX5_buyer_72 : decode cX5_buyer 72 = .ok (.iadd, 1) := by decide +kernel
theorem dX5_buyer_73 : decode cX5_buyer 73 = .ok (.iload_n 2, 1) := by decide +kernel
theorem dX5_buyer_74 : decode cX5_buyer 74 = .ok (.iastore, 1) := by decide +kernel
theorem dX5_buyer_75 : decode cX5_buyer 75 = .ok (.aload_n 0, 1) := by decide +kernel
theorem dX5_buyer_76 : decode cX5_buyer 76 = .ok (.getfield 7, 3) := by decide +kernel
theorem dX5_buyer_79 : decode cX5_buyer 79 = .ok (.sipush 260, 3) := by decide +kernel
theorem dX5_buyer_82 : decode cX5_buyer 82 = .ok (.dup2, 1) := by decide +kernel
theorem dX5_buyer_83 : decode cX5_buyer 83 = .ok (.iaload, 1) := by decide +kernel
theorem dX5_buyer_84 : decode cX5_buyer 84 = .ok (.iconst 1, 1) := by decide +kernel
theorem dX5_buyer_85 : decode cX5_buyer 85 = .ok (.iadd, 1) := by decide +kernel
theorem dX5_buyer_86 : decode cX5_buyer 86 = .ok (.iastore, 1) := by decide +kernel
theorem dX5_buyer_87 : decode cX5_buyer 87 = .ok (.iload_n 3, 1) := by decide +kernel
theorem dX5_buyer_88 : decode cX5_buyer 88 = .ok (.ireturn, 1) := by decide +kernel
theorem dX5_leave_0 : decode cX5_leave 0 = .ok (.aload_n 0, 1) := by decide +kernel
theorem dX5_leave_1 : decode cX5_leave 1 = .ok (.getfield 7, 3) := by decide +kernel
theorem dX5_leave_4 : decode cX5_leave 4 = .ok (.sipush 260, 3) := by decide +kernel
theorem dX5_leave_7 : decode cX5_leave 7 = .ok (.iaload, 1) := by decide +kernel
theorem dX5_leave_8 : decode cX5_leave 8 = .ok (.istore_n 1, 1) := by decide +kernel
theorem dX5_leave_9 : decode cX5_leave 9 = .ok (.aload_n 0, 1) := by decide +kernel
theorem dX5_leave_10 : decode cX5_leave 10 = .ok (.getfield 7, 3) := by decide +kernel
theorem dX5_leave_13 : decode cX5_leave 13 = .ok (.sipush 260, 3) := by decide +kernel
theorem dX5_leave_16 : decode cX5_leave 16 = .ok (.iconst 0, 1) := by decide +kernel
theorem dX5_leave_17 : decode cX5_leave 17 = .ok (.iastore, 1) := by decide +kernel
theorem dX5_leave_18 : decode cX5_leave 18 = .ok (.iload_n 1, 1) := by decide +kernel
theorem dX5_leave_19 : decode cX5_leave 19 = .ok (.ireturn, 1) := by decide +kernel
set_option maxRecDepth 20000 in
theorem ggX5_paidAt_X5_begin : GoodIn wsX5_paidAt wsX5_begin := goodIn_r _ [8, 9, 3, 10, 11, 12, 52, 53, 54, 55, 56, 57, 58, 59, 60, 61, 62, 63, 64, 65, 66, 67, 68, 69, 70, 71, 72, 73, 74, 75, 76, 77, 78, 79] (by decide +kernel) (by decide +kernel)
set_option maxRecDepth 20000 in
theorem gX5_paidAt_X5_begin : GoodIn wsX5_paidAt (wsV RX5 148 RX5 yX5_begin wsX5_begin) := goodIn_app (goodIn_of _ (by decide +kernel)) ggX5_paidAt_X5_begin
set_option maxRecDepth 20000 in
theorem ggX5_paidAt_X5_shopIn : GoodIn wsX5_paidAt wsX5_shopIn := goodIn_r _ [15] (by decide +kernel) (by decide +kernel)
set_option maxRecDepth 20000 in
theorem gX5_paidAt_X5_shopIn : GoodIn wsX5_paidAt (va_wsS RX5 244 yX5_shopIn wsX5_shopIn) := goodIn_app (goodIn_of _ (by decide +kernel)) ggX5_paidAt_X5_shopIn
set_option maxRecDepth 20000 in
theorem ggX5_paidAt_X5_priceOf : GoodIn wsX5_paidAt wsX5_priceOf := goodIn_r _ [19, 20, 21, 22, 7, 23, 24, 25, 26, 27, 28, 29, 30, 31, 32, 33, 34, 35, 36, 37, 38, 39, 52, 53, 54, 55, 56, 57, 58, 59, 60, 61, 62, 63, 64, 65, 66, 67, 68, 69, 70, 71, 72, 73, 74, 75, 76, 77, 78, 79] (by decide +kernel) (by decide +kernel)
set_option maxRecDepth 20000 in
theorem gX5_paidAt_X5_priceOf : GoodIn wsX5_paidAt (wsV RX5 143 RX5 yX5_priceOf wsX5_priceOf) := goodIn_app (goodIn_of _ (by decide +kernel)) ggX5_paidAt_X5_priceOf
set_option maxRecDepth 20000 in
theorem ggX5_paidAt_X5_buy : GoodIn wsX5_paidAt wsX5_buy := goodIn_r _ [43, 10, 3, 11, 12, 9, 16, 17, 18, 7, 19, 20, 21, 22, 23, 24, 25, 26, 27, 28, 29, 30, 31, 32, 33, 34, 35, 36, 37, 38, 39, 44, 45, 46, 47, 48, 49, 50, 51, 52, 53, 54, 55, 56, 57, 58, 59, 60, 61, 62, 63, 64, 65, 66, 67, 68, 69, 70, 71, 72, 73, 74, 75, 76, 77, 78, 79] (by decide +kernel) (by decide +kernel)
set_option maxRecDepth 20000 in
theorem gX5_paidAt_X5_buy : GoodIn wsX5_paidAt (wsV RX5 154 RX5 yX5_buy wsX5_buy) := goodIn_app (goodIn_of _ (by decide +kernel)) ggX5_paidAt_X5_buy
theorem dX5_paidAt_0 : decode cX5_paidAt 0 = .ok (.aload_n 0, 1) := by decide +kernel
theorem dX5_paidAt_1 : decode cX5_paidAt 1 = .ok (.invokevirtual 148, 3) := by decide +kernel
theorem dX5_paidAt_4 : decode cX5_paidAt 4 = .ok (.iconst 0, 1) := by decide +kernel
theorem dX5_paidAt_5 : decode cX5_paidAt 5 = .ok (.istore_n 3, 1) := by decide +kernel
theorem dX5_paidAt_6 : decode cX5_paidAt 6 = .ok (.iconst 0, 1) := by decide +kernel
theorem dX5_paidAt_7 : decode cX5_paidAt 7 = .ok (.istore 4, 2) := by decide +kernel
theorem dX5_paidAt_9 : decode cX5_paidAt 9 = .ok (.iload 4, 2) := by decide +kernel
theorem dX5_paidAt_11 : decode cX5_paidAt 11 = .ok (.aload_n 0, 1) := by decide +kernel
theorem dX5_paidAt_12 : decode cX5_paidAt 12 = .ok (.getfield 29, 3) := by decide +kernel
theorem dX5_paidAt_15 : decode cX5_paidAt 15 = .ok (.iconst 1, 1) := by decide +kernel
theorem dX5_paidAt_16 : decode cX5_paidAt 16 = .ok (.iload_n 2, 1) := by decide +kernel
theorem dX5_paidAt_17 : decode cX5_paidAt 17 = .ok (.ishl, 1) := by decide +kernel
theorem dX5_paidAt_18 : decode cX5_paidAt 18 = .ok (.iaload, 1) := by decide +kernel
theorem dX5_paidAt_19 : decode cX5_paidAt 19 = .ok (.if_icmp .ge 51, 3) := by decide +kernel
theorem dX5_paidAt_22 : decode cX5_paidAt 22 = .ok (.aload_n 0, 1) := by decide +kernel
theorem dX5_paidAt_23 : decode cX5_paidAt 23 = .ok (.getfield 35, 3) := by decide +kernel
theorem dX5_paidAt_26 : decode cX5_paidAt 26 = .ok (.iconst 1, 1) := by decide +kernel
theorem dX5_paidAt_27 : decode cX5_paidAt 27 = .ok (.iload_n 2, 1) := by decide +kernel
theorem dX5_paidAt_28 : decode cX5_paidAt 28 = .ok (.ishl, 1) := by decide +kernel
theorem dX5_paidAt_29 : decode cX5_paidAt 29 = .ok (.iaload, 1) := by decide +kernel
theorem dX5_paidAt_30 : decode cX5_paidAt 30 = .ok (.iload 4, 2) := by decide +kernel
theorem dX5_paidAt_32 : decode cX5_paidAt 32 = .ok (.invokestatic 244, 3) := by decide +kernel
theorem dX5_paidAt_35 : decode cX5_paidAt 35 = .ok (.istore 5, 2) := by decide +kernel
theorem dX5_paidAt_37 : decode cX5_paidAt 37 = .ok (.iload 5, 2) := by decide +kernel
theorem dX5_paidAt_39 : decode cX5_paidAt 39 = .ok (.iload_n 1, 1) := by decide +kernel
theorem dX5_paidAt_40 : decode cX5_paidAt 40 = .ok (.if_icmp .ne 16, 3) := by decide +kernel
theorem dX5_paidAt_43 : decode cX5_paidAt 43 = .ok (.aload_n 0, 1) := by decide +kernel
theorem dX5_paidAt_44 : decode cX5_paidAt 44 = .ok (.iload 5, 2) := by decide +kernel
theorem dX5_paidAt_46 : decode cX5_paidAt 46 = .ok (.aload_n 0, 1) := by decide +kernel
theorem dX5_paidAt_47 : decode cX5_paidAt 47 = .ok (.getfield 128, 3) := by decide +kernel
theorem dX5_paidAt_50 : decode cX5_paidAt 50 = .ok (.invokevirtual 143, 3) := by decide +kernel
theorem dX5_paidAt_53 : decode cX5_paidAt 53 = .ok (.goto 4, 3) := by decide +kernel
theorem dX5_paidAt_56 : decode cX5_paidAt 56 = .ok (.iload_n 3, 1) := by decide +kernel
theorem dX5_paidAt_57 : decode cX5_paidAt 57 = .ok (.istore_n 3, 1) := by decide +kernel
theorem dX5_paidAt_58 : decode cX5_paidAt 58 = .ok (.aload_n 0, 1) := by decide +kernel
theorem dX5_paidAt_59 : decode cX5_paidAt 59 = .ok (.iload 5, 2) := by decide +kernel
theorem dX5_paidAt_61 : decode cX5_paidAt 61 = .ok (.invokevirtual 154, 3) := by decide +kernel
theorem dX5_paidAt_64 : decode cX5_paidAt 64 = .ok (.iinc 4 1, 3) := by decide +kernel
theorem dX5_paidAt_67 : decode cX5_paidAt 67 = .ok (.goto (-58), 3) := by decide +kernel
theorem dX5_paidAt_70 : decode cX5_paidAt 70 = .ok (.iload_n 3, 1) := by decide +kernel
theorem dX5_paidAt_71 : decode cX5_paidAt 71 = .ok (.ireturn, 1) := by decide +kernel
set_option maxRecDepth 20000 in
theorem ggX5_takesOf_X5_goAll : GoodIn wsX5_takesOf wsX5_goAll := goodIn_r _ [7, 8, 2, 9, 10, 11, 12, 13, 14, 15, 16, 6, 17, 18, 19, 20, 21, 22, 23, 24, 25, 26, 27, 28, 29, 30, 31, 32, 33, 34, 35, 36, 37, 38, 1, 39, 40, 41, 42, 43, 44, 45, 46, 47, 48, 49, 50, 51, 52, 53, 54, 55, 56, 57, 58, 59, 60, 61, 62, 63, 64, 65, 66, 67, 68, 69, 70, 71, 72, 73, 74, 75, 76, 77, 78, 79, 80, 81, 82, 83, 84, 85, 100, 101, 102, 103, 104, 105, 106, 107, 108, 109, 110, 111, 112, 113, 114, 115, 116, 117, 118, 119, 120, 121, 122, 123, 124, 125, 126, 127] (by decide +kernel) (by decide +kernel)
set_option maxRecDepth 20000 in
theorem gX5_takesOf_X5_goAll : GoodIn wsX5_takesOf (wsV RX5 241 RX5 yX5_goAll wsX5_goAll) := goodIn_app (goodIn_of _ (by decide +kernel)) ggX5_takesOf_X5_goAll
set_option maxRecDepth 20000 in
theorem ggX5_takesOf_X5_isShop : GoodIn wsX5_takesOf wsX5_isShop := goodIn_r _ [89, 35, 36, 37, 6, 38, 1, 90, 91, 92, 100, 101, 102, 103, 104, 105, 106, 107, 108, 109, 110, 111, 112, 113, 114, 115, 116, 117, 118, 119, 120, 121, 122, 123, 124, 125, 126, 127] (by decide +kernel) (by decide +kernel)
set_option maxRecDepth 20000 in
theorem gX5_takesOf_X5_isShop : GoodIn wsX5_takesOf (wsV RX5 86 RX5 yX5_isShop wsX5_isShop) := goodIn_app (goodIn_of _ (by decide +kernel)) ggX5_takesOf_X5_isShop
set_option maxRecDepth 20000 in
theorem ggX5_takesOf_X5_paidAt : GoodIn wsX5_takesOf wsX5_paidAt := goodIn_r _ [96, 9, 11, 19, 14, 15, 16, 6, 17, 18, 20, 21, 22, 97, 98, 99, 74, 75, 76, 77, 51, 52, 53, 54, 1, 55, 56, 57, 66, 67, 68, 69, 70, 71, 72, 73, 35, 36, 37, 38, 78, 79, 80, 81, 62, 63, 64, 65, 58, 59, 60, 61, 100, 101, 102, 103, 104, 105, 106, 107, 108, 109, 110, 111, 112, 113, 114, 115, 116, 117, 118, 119, 120, 121, 122, 123, 124, 125, 126, 127] (by decide +kernel) (by decide +kernel)
set_option maxRecDepth 20000 in
theorem gX5_takesOf_X5_paidAt : GoodIn wsX5_takesOf (wsV RX5 255 RX5 yX5_paidAt wsX5_paidAt) := goodIn_app (goodIn_of _ (by decide +kernel)) ggX5_takesOf_X5_paidAt
theorem dX5_takesOf_0 : decode cX5_takesOf 0 = .ok (.aload_n 0, 1) := by decide +kernel
theorem dX5_takesOf_1 : decode cX5_takesOf 1 = .ok (.iconst (-1), 1) := by decide +kernel
theorem dX5_takesOf_2 : decode cX5_takesOf 2 = .ok (.invokevirtual 241, 3) := by decide +kernel
theorem dX5_takesOf_5 : decode cX5_takesOf 5 = .ok (.iconst 0, 1) := by decide +kernel
theorem dX5_takesOf_6 : decode cX5_takesOf 6 = .ok (.istore_n 2, 1) := by decide +kernel
theorem dX5_takesOf_7 : decode cX5_takesOf 7 = .ok (.iconst 0, 1) := by decide +kernel
theorem dX5_takesOf_8 : decode cX5_takesOf 8 = .ok (.istore_n 3, 1) := by decide +kernel
theorem dX5_takesOf_9 : decode cX5_takesOf 9 = .ok (.iload_n 3, 1) := by decide +kernel
theorem dX5_takesOf_10 : decode cX5_takesOf 10 = .ok (.aload_n 0, 1) := by decide +kernel
theorem dX5_takesOf_11 : decode cX5_takesOf 11 = .ok (.getfield 7, 3) := by decide +kernel
theorem dX5_takesOf_14 : decode cX5_takesOf 14 = .ok (.sipush 260, 3) := by decide +kernel
theorem dX5_takesOf_17 : decode cX5_takesOf 17 = .ok (.iaload, 1) := by decide +kernel
theorem dX5_takesOf_18 : decode cX5_takesOf 18 = .ok (.if_icmp .ge 84, 3) := by decide +kernel
theorem dX5_takesOf_21 : decode cX5_takesOf 21 = .ok (.aload_n 0, 1) := by decide +kernel
theorem dX5_takesOf_22 : decode cX5_takesOf 22 = .ok (.getfield 7, 3) := by decide +kernel
theorem dX5_takesOf_25 : decode cX5_takesOf 25 = .ok (.sipush 247, 3) := by decide +kernel
theorem dX5_takesOf_28 : decode cX5_takesOf 28 = .ok (.iconst 2, 1) := by decide +kernel
theorem dX5_takesOf_29 : decode cX5_takesOf 29 = .ok (.iload_n 3, 1) := by decide +kernel
theorem dX5_takesOf_30 : decode cX5_takesOf 30 = .ok (.imul, 1) := by decide +kernel
theorem dX5_takesOf_31 : decode cX5_takesOf 31 = .ok (.iadd, 1) := by decide +kernel
theorem dX5_takesOf_32 : decode cX5_takesOf 32 = .ok (.iaload, 1) := by decide +kernel
theorem dX5_takesOf_33 : decode cX5_takesOf 33 = .ok (.istore 4, 2) := by decide +kernel
theorem dX5_takesOf_35 : decode cX5_takesOf 35 = .ok (.aload_n 0, 1) := by decide +kernel
theorem dX5_takesOf_36 : decode cX5_takesOf 36 = .ok (.iload 4, 2) := by decide +kernel
theorem dX5_takesOf_38 : decode cX5_takesOf 38 = .ok (.invokevirtual 86, 3) := by decide +kernel
theorem dX5_takesOf_41 : decode cX5_takesOf 41 = .ok (.ifCond .eq 33, 3) := by decide +kernel
theorem dX5_takesOf_44 : decode cX5_takesOf 44 = .ok (.aload_n 0, 1) := by decide +kernel
theorem dX5_takesOf_45 : decode cX5_takesOf 45 = .ok (.getfield 26, 3) := by decide +kernel
theorem dX5_takesOf_48 : decode cX5_takesOf 48 = .ok (.iconst 1, 1) := by decide +kernel
theorem dX5_takesOf_49 : decode cX5_takesOf 49 = .ok (.iload 4, 2) := by decide +kernel
theorem dX5_takesOf_51 : decode cX5_takesOf 51 = .ok (.ishl, 1) := by decide +kernel
theorem dX5_takesOf_52 : decode cX5_takesOf 52 = .ok (.iaload, 1) := by decide +kernel
theorem dX5_takesOf_53 : decode cX5_takesOf 53 = .ok (.aload_n 0, 1) := by decide +kernel
theorem dX5_takesOf_54 : decode cX5_takesOf 54 = .ok (.getfield 7, 3) := by decide +kernel
theorem dX5_takesOf_57 : decode cX5_takesOf 57 = .ok (.sipush 247, 3) := by decide +kernel
theorem dX5_takesOf_60 : decode cX5_takesOf 60 = .ok (.iconst 2, 1) := by decide +kernel
theorem dX5_takesOf_61 : decode cX5_takesOf 61 = .ok (.iload_n 3, 1) := by decide +kernel
theorem dX5_takesOf_62 : decode cX5_takesOf 62 = .ok (.imul, 1) := by decide +kernel
theorem dX5_takesOf_63 : decode cX5_takesOf 63 = .ok (.iadd, 1) := by decide +kernel
theorem dX5_takesOf_64 : decode cX5_takesOf 64 = .ok (.iconst 1, 1) := by decide +kernel
theorem dX5_takesOf_65 : decode cX5_takesOf 65 = .ok (.iadd, 1) := by decide +kernel
theorem dX5_takesOf_66 : decode cX5_takesOf 66 = .ok (.iaload, 1) := by decide +kernel
theorem dX5_takesOf_67 : decode cX5_takesOf 67 = .ok (.if_icmp .gt 7, 3) := by decide +kernel
theorem dX5_takesOf_70 : decode cX5_takesOf 70 = .ok (.iconst 1, 1) := by decide +kernel
theorem dX5_takesOf_71 : decode cX5_takesOf 71 = .ok (.goto 4, 3) := by decide +kernel
theorem dX5_takesOf_74 : decode cX5_takesOf 74 = .ok (.iconst 0, 1) := by decide +kernel
theorem dX5_takesOf_75 : decode cX5_takesOf 75 = .ok (.istore 5, 2) := by decide +kernel
theorem dX5_takesOf_77 : decode cX5_takesOf 77 = .ok (.iload_n 2, 1) := by decide +kernel
theorem dX5_takesOf_78 : decode cX5_takesOf 78 = .ok (.iload 5, 2) := by decide +kernel
theorem dX5_takesOf_80 : decode cX5_takesOf 80 = .ok (.ifCond .eq 13, 3) := by decide +kernel
theorem dX5_takesOf_83 : decode cX5_takesOf 83 = .ok (.aload_n 0, 1) := by decide +kernel
theorem dX5_takesOf_84 : decode cX5_takesOf 84 = .ok (.iload_n 1, 1) := by decide +kernel
theorem dX5_takesOf_85 : decode cX5_takesOf 85 = .ok (.iload 4, 2) := by decide +kernel
theorem dX5_takesOf_87 : decode cX5_takesOf 87 = .ok (.invokevirtual 255, 3) := by decide +kernel
theorem dX5_takesOf_90 : decode cX5_takesOf 90 = .ok (.goto 4, 3) := by decide +kernel
theorem dX5_takesOf_93 : decode cX5_takesOf 93 = .ok (.iconst 0, 1) := by decide +kernel
theorem dX5_takesOf_94 : decode cX5_takesOf 94 = .ok (.iadd, 1) := by decide +kernel
theorem dX5_takesOf_95 : decode cX5_takesOf 95 = .ok (.istore_n 2, 1) := by decide +kernel
theorem dX5_takesOf_96 : decode cX5_takesOf 96 = .ok (.iinc 3 1, 3) := by decide +kernel
theorem dX5_takesOf_99 : decode cX5_takesOf 99 = .ok (.goto (-90), 3) := by decide +kernel
theorem dX5_takesOf_102 : decode cX5_takesOf 102 = .ok (.iload_n 2, 1) := by decide +kernel
theorem dX5_takesOf_103 : decode cX5_takesOf 103 = .ok (.ireturn, 1) := by decide +kernel
set_option maxRecDepth 20000 in
theorem ggX5_takes_X5_isShop : GoodIn wsX5_takes wsX5_isShop := goodIn_r _ [5, 6, 7, 8, 4, 9, 10, 11, 12, 13, 109, 110, 111, 112, 113, 114, 115, 116, 117, 118, 119, 120, 121, 122, 123, 124, 125, 126, 127, 128, 129, 130, 131, 132, 133, 134, 135, 136] (by decide +kernel) (by decide +kernel)
set_option maxRecDepth 20000 in
theorem gX5_takes_X5_isShop : GoodIn wsX5_takes (wsV RX5 86 RX5 yX5_isShop wsX5_isShop) := goodIn_app (goodIn_of _ (by decide +kernel)) ggX5_takes_X5_isShop
set_option maxRecDepth 20000 in
theorem ggX5_takes_X5_takesOf : GoodIn wsX5_takes wsX5_takesOf := goodIn_r _ [17, 10, 18, 19, 20, 21, 4, 22, 23, 24, 25, 26, 27, 28, 29, 30, 31, 32, 33, 34, 35, 36, 37, 38, 39, 40, 41, 42, 43, 44, 45, 46, 47, 48, 49, 6, 7, 8, 9, 50, 51, 52, 53, 54, 55, 56, 57, 58, 59, 60, 61, 62, 63, 64, 65, 66, 67, 68, 69, 70, 71, 72, 73, 74, 75, 76, 77, 78, 79, 80, 81, 82, 83, 84, 85, 86, 87, 88, 89, 90, 91, 92, 93, 94, 95, 96, 1, 2, 3, 5, 11, 12, 13, 97, 98, 99, 100, 101, 102, 103, 109, 110, 111, 112, 113, 114, 115, 116, 117, 118, 119, 120, 121, 122, 123, 124, 125, 126, 127, 128, 129, 130, 131, 132, 133, 134, 135, 136] (by decide +kernel) (by decide +kernel)
set_option maxRecDepth 20000 in
theorem gX5_takes_X5_takesOf : GoodIn wsX5_takes (wsV RX5 258 RX5 yX5_takesOf wsX5_takesOf) := goodIn_app (goodIn_of _ (by decide +kernel)) ggX5_takes_X5_takesOf
set_option maxRecDepth 20000 in
theorem ggX5_takes_X5_bad : GoodIn wsX5_takes wsX5_bad := goodIn_r _ [107, 108, 109, 110, 111, 112, 113, 114, 115, 116, 117, 118, 119, 120, 121, 122, 123, 124, 125, 126, 127, 128, 129, 130, 131, 132, 133, 134, 135, 136] (by decide +kernel) (by decide +kernel)
set_option maxRecDepth 20000 in
theorem gX5_takes_X5_bad : GoodIn wsX5_takes (wsV RX5 79 RX5 yX5_bad wsX5_bad) := goodIn_app (goodIn_of _ (by decide +kernel)) ggX5_takes_X5_bad
theorem dX5_takes_0 : decode cX5_takes 0 = .ok (.aload_n 0, 1) := by decide +kernel
theorem dX5_takes_1 : decode cX5_takes 1 = .ok (.iload_n 1, 1) := by decide +kernel
theorem dX5_takes_2 : decode cX5_takes 2 = .ok (.invokevirtual 86, 3) := by decide +kernel
theorem dX5_takes_5 : decode cX5_takes 5 = .ok (.ifCond .eq 11, 3) := by decide +kernel
theorem dX5_takes_8 : decode cX5_takes 8 = .ok (.aload_n 0, 1) := by decide +kernel
theorem dX5_takes_9 : decode cX5_takes 9 = .ok (.iload_n 1, 1) := by decide +kernel
theorem dX5_takes_10 : decode cX5_takes 10 = .ok (.invokevirtual 258, 3) := by decide +kernel
theorem dX5_takes_13 : decode cX5_takes 13 = .ok (.goto 9, 3) := by decide +kernel
theorem dX5_takes_16 : decode cX5_takes 16 = .ok (.aload_n 0, 1) := by decide +kernel
theorem dX5_takes_17 : decode cX5_takes 17 = .ok (.bipush (-2), 2) := by decide +kernel
theorem dX5_takes_19 : decode cX5_takes 19 = .ok (.invokevirtual 79, 3) := by decide +kernel
theorem dX5_takes_22 : decode cX5_takes 22 = .ok (.ireturn, 1) := by decide +kernel
set_option maxRecDepth 20000 in
theorem ggX5_asksOf_X5_of : GoodIn wsX5_asksOf wsX5_of := goodIn_r _ [7, 2, 105, 106, 107, 108, 109, 110, 111, 112, 113, 114, 115, 116, 117, 118, 119, 120, 121, 122, 123, 124, 125, 126, 127, 128, 129, 130, 131, 132] (by decide +kernel) (by decide +kernel)
set_option maxRecDepth 20000 in
theorem gX5_asksOf_X5_of : GoodIn wsX5_asksOf (wsV RX5 108 RX5 yX5_of wsX5_of) := goodIn_app (goodIn_of _ (by decide +kernel)) ggX5_asksOf_X5_of
set_option maxRecDepth 20000 in
theorem ggX5_asksOf_X5_takesOf : GoodIn wsX5_asksOf wsX5_takesOf := goodIn_r _ [11, 2, 12, 13, 14, 15, 6, 16, 17, 18, 19, 20, 21, 22, 23, 24, 25, 26, 27, 28, 29, 30, 31, 32, 33, 34, 35, 36, 37, 38, 39, 40, 41, 42, 43, 44, 45, 46, 47, 48, 49, 50, 51, 52, 53, 54, 55, 56, 57, 58, 59, 3, 4, 5, 7, 60, 61, 62, 63, 64, 65, 66, 67, 68, 69, 70, 71, 72, 73, 74, 75, 76, 77, 78, 79, 80, 81, 82, 83, 84, 85, 86, 87, 88, 89, 90, 91, 92, 93, 94, 95, 96, 97, 98, 99, 100, 101, 102, 103, 104, 105, 106, 107, 108, 109, 110, 111, 112, 113, 114, 115, 116, 117, 118, 119, 120, 121, 122, 123, 124, 125, 126, 127, 128, 129, 130, 131, 132] (by decide +kernel) (by decide +kernel)
set_option maxRecDepth 20000 in
theorem gX5_asksOf_X5_takesOf : GoodIn wsX5_asksOf (wsV RX5 258 RX5 yX5_takesOf wsX5_takesOf) := goodIn_app (goodIn_of _ (by decide +kernel)) ggX5_asksOf_X5_takesOf
theorem dX5_asksOf_0 : decode cX5_asksOf 0 = .ok (.aload_n 0, 1) := by decide +kernel
theorem dX5_asksOf_1 : decode cX5_asksOf 1 = .ok (.iload_n 1, 1) := by decide +kernel
theorem dX5_asksOf_2 : decode cX5_asksOf 2 = .ok (.iconst 1, 1) := by decide +kernel
theorem dX5_asksOf_3 : decode cX5_asksOf 3 = .ok (.invokevirtual 108, 3) := by decide +kernel
theorem dX5_asksOf_6 : decode cX5_asksOf 6 = .ok (.istore_n 2, 1) := by decide +kernel
theorem dX5_asksOf_7 : decode cX5_asksOf 7 = .ok (.iconst 0, 1) := by decide +kernel
theorem dX5_asksOf_8 : decode cX5_asksOf 8 = .ok (.istore_n 3, 1) := by decide +kernel
theorem dX5_asksOf_9 : decode cX5_asksOf 9 = .ok (.aload_n 0, 1) := by decide +kernel
theorem dX5_asksOf_10 : decode cX5_asksOf 10 = .ok (.iconst (-1), 1) := by decide +kernel
theorem dX5_asksOf_11 : decode cX5_asksOf 11 = .ok (.putfield 261, 3) := by decide +kernel
theorem dX5_asksOf_14 : decode cX5_asksOf 14 = .ok (.iconst 0, 1) := by decide +kernel
theorem dX5_asksOf_15 : decode cX5_asksOf 15 = .ok (.istore 4, 2) := by decide +kernel
theorem dX5_asksOf_17 : decode cX5_asksOf 17 = .ok (.iload 4, 2) := by decide +kernel
theorem dX5_asksOf_19 : decode cX5_asksOf 19 = .ok (.bipush 20, 2) := by decide +kernel
theorem dX5_asksOf_21 : decode cX5_asksOf 21 = .ok (.if_icmp .gt 68, 3) := by decide +kernel
theorem dX5_asksOf_24 : decode cX5_asksOf 24 = .ok (.aload_n 0, 1) := by decide +kernel
theorem dX5_asksOf_25 : decode cX5_asksOf 25 = .ok (.getfield 7, 3) := by decide +kernel
theorem dX5_asksOf_28 : decode cX5_asksOf 28 = .ok (.iconst 0, 1) := by decide +kernel
theorem dX5_asksOf_29 : decode cX5_asksOf 29 = .ok (.iconst 4, 1) := by decide +kernel
theorem dX5_asksOf_30 : decode cX5_asksOf 30 = .ok (.iload_n 1, 1) := by decide +kernel
theorem dX5_asksOf_31 : decode cX5_asksOf 31 = .ok (.imul, 1) := by decide +kernel
theorem dX5_asksOf_32 : decode cX5_asksOf 32 = .ok (.iadd, 1) := by decide +kernel
theorem dX5_asksOf_33 : decode cX5_asksOf 33 = .ok (.iconst 1, 1) := by decide +kernel
theorem dX5_asksOf_34 : decode cX5_asksOf 34 = .ok (.iadd, 1) := by decide +kernel
theorem dX5_asksOf_35 : decode cX5_asksOf 35 = .ok (.iload 4, 2) := by decide +kernel
theorem dX5_asksOf_37 : decode cX5_asksOf 37 = .ok (.iastore, 1) := by decide +kernel
theorem dX5_asksOf_38 : decode cX5_asksOf 38 = .ok (.aload_n 0, 1) := by decide +kernel
theorem dX5_asksOf_39 : decode cX5_asksOf 39 = .ok (.iload_n 1, 1) := by decide +kernel
theorem dX5_asksOf_40 : decode cX5_asksOf 40 = .ok (.invokevirtual 258, 3) := by decide +kernel
theorem dX5_asksOf_43 : decode cX5_asksOf 43 = .ok (.istore 5, 2) := by decide +kernel
theorem dX5_asksOf_45 : decode cX5_asksOf 45 = .ok (.iload 5, 2) := by decide +kernel
theorem dX5_asksOf_47 : decode cX5_asksOf 47 = .ok (.aload_n 0, 1) := by decide +kernel
theorem dX5_asksOf_48 : decode cX5_asksOf 48 = .ok (.getfield 261, 3) := by decide +kernel
theorem dX5_asksOf_51 : decode cX5_asksOf 51 = .ok (.if_icmp .le 8, 3) := by decide +kernel
theorem dX5_asksOf_54 : decode cX5_asksOf 54 = .ok (.iload 4, 2) := by decide +kernel
theorem dX5_asksOf_56 : decode cX5_asksOf 56 = .ok (.goto 4, 3) := by decide +kernel
theorem dX5_asksOf_59 : decode cX5_asksOf 59 = .ok (.iload_n 3, 1) := by decide +kernel
theorem dX5_asksOf_60 : decode cX5_asksOf 60 = .ok (.istore_n 3, 1) := by decide +kernel
theorem dX5_asksOf_61 : decode cX5_asksOf 61 = .ok (.aload_n 0, 1) := by decide +kernel
theorem dX5_asksOf_62 : decode cX5_asksOf 62 = .ok (.iload 5, 2) := by decide +kernel
theorem dX5_asksOf_64 : decode cX5_asksOf 64 = .ok (.aload_n 0, 1) := by decide +kernel
theorem dX5_asksOf_65 : decode cX5_asksOf 65 = .ok (.getfield 261, 3) := by decide +kernel
theorem dX5_asksOf_68 : decode cX5_asksOf 68 = .ok (.if_icmp .le 8, 3) := by decide +kernel
theorem dX5_asksOf_71 : decode cX5_asksOf 71 = .ok (.iload 5, 2) := by decide +kernel
theorem dX5_asksOf_73 : decode cX5_asksOf 73 = .ok (.goto 7, 3) := by decide +kernel
theorem dX5_asksOf_76 : decode cX5_asksOf 76 = .ok (.aload_n 0, 1) := by decide +kernel
theorem dX5_asksOf_77 : decode cX5_asksOf 77 = .ok (.getfield 261, 3) := by decide +kernel
theorem dX5_asksOf_80 : decode cX5_asksOf 80 = .ok (.putfield 261, 3) := by decide +kernel
theorem dX5_asksOf_83 : decode cX5_asksOf 83 = .ok (.iinc 4 1, 3) := by decide +kernel
theorem dX5_asksOf_86 : decode cX5_asksOf 86 = .ok (.goto (-69), 3) := by decide +kernel
theorem dX5_asksOf_89 : decode cX5_asksOf 89 = .ok (.aload_n 0, 1) := by decide +kernel
theorem dX5_asksOf_90 : decode cX5_asksOf 90 = .ok (.getfield 7, 3) := by decide +kernel
theorem dX5_asksOf_93 : decode cX5_asksOf 93 = .ok (.iconst 0, 1) := by decide +kernel
theorem dX5_asksOf_94 : decode cX5_asksOf 94 = .ok (.iconst 4, 1) := by decide +kernel
theorem dX5_asksOf_95 : decode cX5_asksOf 95 = .ok (.iload_n 1, 1) := by decide +kernel
theorem dX5_asksOf_96 : decode cX5_asksOf 96 = .ok (.imul, 1) := by decide +kernel
theorem dX5_asksOf_97 : decode cX5_asksOf 97 = .ok (.iadd, 1) := by decide +kernel
theorem dX5_asksOf_98 : decode cX5_asksOf 98 = .ok (.iconst 1, 1) := by decide +kernel
theorem dX5_asksOf_99 : decode cX5_asksOf 99 = .ok (.iadd, 1) := by decide +kernel
theorem dX5_asksOf_100 : decode cX5_asksOf 100 = .ok (.iload_n 2, 1) := by decide +kernel
theorem dX5_asksOf_101 : decode cX5_asksOf 101 = .ok (.iastore, 1) := by decide +kernel
theorem dX5_asksOf_102 : decode cX5_asksOf 102 = .ok (.iload_n 3, 1) := by decide +kernel
theorem dX5_asksOf_103 : decode cX5_asksOf 103 = .ok (.ireturn, 1) := by decide +kernel
set_option maxRecDepth 20000 in
theorem ggX5_asks_X5_isShop : GoodIn wsX5_asks wsX5_isShop := goodIn_r _ [5, 6, 7, 8, 4, 9, 10, 11, 12, 13, 114, 115, 116, 117, 118, 119, 120, 121, 122, 123, 124, 125, 126, 127, 128, 129, 130, 131, 132, 133, 134, 135, 136, 137, 138, 139, 140, 141] (by decide +kernel) (by decide +kernel)
set_option maxRecDepth 20000 in
theorem gX5_asks_X5_isShop : GoodIn wsX5_asks (wsV RX5 86 RX5 yX5_isShop wsX5_isShop) := goodIn_app (goodIn_of _ (by decide +kernel)) ggX5_asks_X5_isShop
set_option maxRecDepth 20000 in
theorem ggX5_asks_X5_asksOf : GoodIn wsX5_asks wsX5_asksOf := goodIn_r _ [17, 18, 10, 19, 20, 21, 4, 22, 23, 24, 25, 26, 27, 28, 29, 30, 31, 32, 33, 34, 35, 36, 37, 38, 39, 40, 41, 42, 43, 44, 45, 46, 47, 48, 49, 50, 51, 52, 53, 54, 55, 56, 57, 58, 6, 7, 8, 9, 59, 60, 61, 62, 63, 64, 65, 66, 67, 68, 69, 70, 71, 72, 73, 74, 75, 76, 77, 78, 79, 80, 81, 82, 83, 84, 85, 86, 87, 88, 89, 90, 91, 92, 93, 94, 95, 96, 97, 98, 99, 100, 101, 1, 2, 3, 5, 11, 12, 13, 102, 103, 104, 105, 106, 107, 108, 114, 115, 116, 117, 118, 119, 120, 121, 122, 123, 124, 125, 126, 127, 128, 129, 130, 131, 132, 133, 134, 135, 136, 137, 138, 139, 140, 141] (by decide +kernel) (by decide +kernel)
set_option maxRecDepth 20000 in
theorem gX5_asks_X5_asksOf : GoodIn wsX5_asks (wsV RX5 264 RX5 yX5_asksOf wsX5_asksOf) := goodIn_app (goodIn_of _ (by decide +kernel)) ggX5_asks_X5_asksOf
set_option maxRecDepth 20000 in
theorem ggX5_asks_X5_bad : GoodIn wsX5_asks wsX5_bad := goodIn_r _ [112, 113, 114, 115, 116, 117, 118, 119, 120, 121, 122, 123, 124, 125, 126, 127, 128, 129, 130, 131, 132, 133, 134, 135, 136, 137, 138, 139, 140, 141] (by decide +kernel) (by decide +kernel)
set_option maxRecDepth 20000 in
theorem gX5_asks_X5_bad : GoodIn wsX5_asks (wsV RX5 79 RX5 yX5_bad wsX5_bad) := goodIn_app (goodIn_of _ (by decide +kernel)) ggX5_asks_X5_bad
theorem dX5_asks_0 : decode cX5_asks 0 = .ok (.aload_n 0, 1) := by decide +kernel
theorem dX5_asks_1 : decode cX5_asks 1 = .ok (.iload_n 1, 1) := by decide +kernel
theorem dX5_asks_2 : decode cX5_asks 2 = .ok (.invokevirtual 86, 3) := by decide +kernel
theorem dX5_asks_5 : decode cX5_asks 5 = .ok (.ifCond .eq 11, 3) := by decide +kernel
theorem dX5_asks_8 : decode cX5_asks 8 = .ok (.aload_n 0, 1) := by decide +kernel
theorem dX5_asks_9 : decode cX5_asks 9 = .ok (.iload_n 1, 1) := by decide +kernel
theorem dX5_asks_10 : decode cX5_asks 10 = .ok (.invokevirtual 264, 3) := by decide +kernel
theorem dX5_asks_13 : decode cX5_asks 13 = .ok (.goto 9, 3) := by decide +kernel
theorem dX5_asks_16 : decode cX5_asks 16 = .ok (.aload_n 0, 1) := by decide +kernel
theorem dX5_asks_17 : decode cX5_asks 17 = .ok (.bipush (-2), 2) := by decide +kernel
theorem dX5_asks_19 : decode cX5_asks 19 = .ok (.invokevirtual 79, 3) := by decide +kernel
theorem dX5_asks_22 : decode cX5_asks 22 = .ok (.ireturn, 1) := by decide +kernel
set_option maxRecDepth 20000 in
theorem ggX5_changeAll_X5_shops : GoodIn wsX5_changeAll wsX5_shops := goodIn_r _ [7, 2, 109, 110, 111, 112, 113, 114, 115, 116, 117, 118, 119, 120, 121, 122, 123, 124, 125, 126, 127, 128, 129, 130, 131, 132, 133, 134, 135, 136] (by decide +kernel) (by decide +kernel)
set_option maxRecDepth 20000 in
theorem gX5_changeAll_X5_shops : GoodIn wsX5_changeAll (wsV RX5 59 RX5 yX5_shops wsX5_shops) := goodIn_app (goodIn_of _ (by decide +kernel)) ggX5_changeAll_X5_shops
set_option maxRecDepth 20000 in
theorem ggX5_changeAll_X5_takesOf : GoodIn wsX5_changeAll wsX5_takesOf := goodIn_r _ [11, 2, 12, 13, 14, 15, 6, 16, 17, 18, 19, 20, 21, 22, 23, 24, 25, 26, 27, 28, 29, 30, 31, 32, 33, 34, 35, 36, 37, 38, 39, 40, 41, 42, 43, 3, 4, 5, 7, 44, 45, 46, 47, 48, 49, 50, 51, 52, 53, 54, 55, 56, 57, 58, 59, 60, 61, 62, 63, 64, 65, 66, 67, 68, 69, 70, 71, 72, 73, 74, 75, 76, 77, 78, 79, 80, 81, 82, 83, 84, 85, 86, 87, 88, 89, 90, 91, 92, 93, 94, 95, 96, 97, 98, 99, 100, 101, 102, 103, 104, 109, 110, 111, 112, 113, 114, 115, 116, 117, 118, 119, 120, 121, 122, 123, 124, 125, 126, 127, 128, 129, 130, 131, 132, 133, 134, 135, 136] (by decide +kernel) (by decide +kernel)
set_option maxRecDepth 20000 in
theorem gX5_changeAll_X5_takesOf : GoodIn wsX5_changeAll (wsV RX5 258 RX5 yX5_takesOf wsX5_takesOf) := goodIn_app (goodIn_of _ (by decide +kernel)) ggX5_changeAll_X5_takesOf
set_option maxRecDepth 20000 in
theorem ggX5_changeAll_X5_asksOf : GoodIn wsX5_changeAll wsX5_asksOf := goodIn_r _ [108, 1, 2, 56, 57, 58, 6, 59, 8, 9, 10, 11, 12, 13, 14, 15, 16, 17, 18, 19, 20, 21, 22, 23, 24, 25, 26, 27, 28, 29, 30, 31, 32, 33, 34, 35, 36, 37, 38, 39, 40, 41, 42, 43, 3, 4, 5, 7, 44, 45, 46, 47, 48, 49, 50, 51, 52, 53, 54, 55, 60, 61, 62, 63, 64, 65, 66, 67, 68, 69, 70, 71, 72, 73, 74, 75, 76, 77, 78, 79, 80, 81, 82, 83, 84, 85, 86, 87, 88, 89, 90, 91, 92, 93, 94, 95, 96, 97, 98, 99, 100, 101, 102, 103, 104, 109, 110, 111, 112, 113, 114, 115, 116, 117, 118, 119, 120, 121, 122, 123, 124, 125, 126, 127, 128, 129, 130, 131, 132, 133, 134, 135, 136] (by decide +kernel) (by decide +kernel)
set_option maxRecDepth 20000 in
theorem gX5_changeAll_X5_asksOf : GoodIn wsX5_changeAll (wsV RX5 264 RX5 yX5_asksOf wsX5_asksOf) := goodIn_app (goodIn_of _ (by decide +kernel)) ggX5_changeAll_X5_asksOf
set_option maxRecDepth 20000 in
theorem ggX5_changeAll_X5_of : GoodIn wsX5_changeAll wsX5_of := goodIn_r _ [59, 2, 109, 110, 111, 112, 113, 114, 115, 116, 117, 118, 119, 120, 121, 122, 123, 124, 125, 126, 127, 128, 129, 130, 131, 132, 133, 134, 135, 136] (by decide +kernel) (by decide +kernel)
set_option maxRecDepth 20000 in
theorem gX5_changeAll_X5_of : GoodIn wsX5_changeAll (wsV RX5 108 RX5 yX5_of wsX5_of) := goodIn_app (goodIn_of _ (by decide +kernel)) ggX5_changeAll_X5_of
theorem dX5_changeAll_0 : decode cX5_changeAll 0 = .ok (.iconst 0, 1) := by decide +kernel
theorem dX5_changeAll_1 : decode cX5_changeAll 1 = .ok (.istore_n 1, 1) := by decide +kernel
theorem dX5_changeAll_2 : decode cX5_changeAll 2 = .ok (.iconst 0, 1) := by decide +kernel
theorem dX5_changeAll_3 : decode cX5_changeAll 3 = .ok (.istore_n 2, 1) := by decide +kernel
theorem dX5_changeAll_4 : decode cX5_changeAll 4 = .ok (.iload_n 2, 1) := by decide +kernel
theorem dX5_changeAll_5 : decode cX5_changeAll 5 = .ok (.aload_n 0, 1) := by decide +kernel
theorem dX5_changeAll_6 : decode cX5_changeAll 6 = .ok (.invokevirtual 59, 3) := by decide +kernel
theorem dX5_changeAll_9 : decode cX5_changeAll 9 = .ok (.if_icmp .ge 80, 3) := by decide +kernel
theorem dX5_changeAll_12 : decode cX5_changeAll 12 = .ok (.aload_n 0, 1) := by decide +kernel
theorem dX5_changeAll_13 : decode cX5_changeAll 13 = .ok (.iload_n 2, 1) := by decide +kernel
theorem dX5_changeAll_14 : decode cX5_changeAll 14 = .ok (.invokevirtual 258, 3) := by decide +kernel
theorem dX5_changeAll_17 : decode cX5_changeAll 17 = .ok (.istore_n 3, 1) := by decide +kernel
theorem dX5_changeAll_18 : decode cX5_changeAll 18 = .ok (.aload_n 0, 1) := by decide +kernel
theorem dX5_changeAll_19 : decode cX5_changeAll 19 = .ok (.iload_n 2, 1) := by decide +kernel
theorem dX5_changeAll_20 : decode cX5_changeAll 20 = .ok (.invokevirtual 264, 3) := by decide +kernel
theorem dX5_changeAll_23 : decode cX5_changeAll 23 = .ok (.istore 4, 2) := by decide +kernel
theorem dX5_changeAll_25 : decode cX5_changeAll 25 = .ok (.aload_n 0, 1) := by decide +kernel
theorem dX5_changeAll_26 : decode cX5_changeAll 26 = .ok (.getfield 261, 3) := by decide +kernel
theorem dX5_changeAll_29 : decode cX5_changeAll 29 = .ok (.iload_n 3, 1) := by decide +kernel
theorem dX5_changeAll_30 : decode cX5_changeAll 30 = .ok (.if_icmp .le 7, 3) := by decide +kernel
theorem dX5_changeAll_33 : decode cX5_changeAll 33 = .ok (.iconst 1, 1) := by decide +kernel
theorem dX5_changeAll_34 : decode cX5_changeAll 34 = .ok (.goto 4, 3) := by decide +kernel
theorem dX5_changeAll_37 : decode cX5_changeAll 37 = .ok (.iconst 0, 1) := by decide +kernel
theorem dX5_changeAll_38 : decode cX5_changeAll 38 = .ok (.istore 5, 2) := by decide +kernel
theorem dX5_changeAll_40 : decode cX5_changeAll 40 = .ok (.aload_n 0, 1) := by decide +kernel
theorem dX5_changeAll_41 : decode cX5_changeAll 41 = .ok (.getfield 7, 3) := by decide +kernel
theorem dX5_changeAll_44 : decode cX5_changeAll 44 = .ok (.iconst 0, 1) := by decide +kernel
theorem dX5_changeAll_45 : decode cX5_changeAll 45 = .ok (.iconst 4, 1) := by decide +kernel
theorem dX5_changeAll_46 : decode cX5_changeAll 46 = .ok (.iload_n 2, 1) := by decide +kernel
theorem dX5_changeAll_47 : decode cX5_changeAll 47 = .ok (.imul, 1) := by decide +kernel
theorem dX5_changeAll_48 : decode cX5_changeAll 48 = .ok (.iadd, 1) := by decide +kernel
theorem dX5_changeAll_49 : decode cX5_changeAll 49 = .ok (.iconst 1, 1) := by decide +kernel
theorem dX5_changeAll_50 : decode cX5_changeAll 50 = .ok (.iadd, 1) := by decide +kernel
theorem dX5_changeAll_51 : decode cX5_changeAll 51 = .ok (.iload 5, 2) := by decide +kernel
theorem dX5_changeAll_53 : decode cX5_changeAll 53 = .ok (.ifCond .eq 8, 3) := by decide +kernel
theorem dX5_changeAll_56 : decode cX5_changeAll 56 = .ok (.iload 4, 2) := by decide +kernel
theorem dX5_changeAll_58 : decode cX5_changeAll 58 = .ok (.goto 9, 3) := by decide +kernel
theorem dX5_changeAll_61 : decode cX5_changeAll 61 = .ok (.aload_n 0, 1) := by decide +kernel
theorem dX5_changeAll_62 : decode cX5_changeAll 62 = .ok (.iload_n 2, 1) := by decide +kernel
theorem dX5_changeAll_63 : decode cX5_changeAll 63 = .ok (.iconst 1, 1) := by decide +kernel
theorem dX5_changeAll_64 : decode cX5_changeAll 64 = .ok (.invokevirtual 108, 3) := by decide +kernel
theorem dX5_changeAll_67 : decode cX5_changeAll 67 = .ok (.iastore, 1) := by decide +kernel
theorem dX5_changeAll_68 : decode cX5_changeAll 68 = .ok (.iload_n 1, 1) := by decide +kernel
theorem dX5_changeAll_69 : decode cX5_changeAll 69 = .ok (.ifCond .ne 8, 3) := by decide +kernel
theorem dX5_changeAll_72 : decode cX5_changeAll 72 = .ok (.iload 5, 2) := by decide +kernel
theorem dX5_changeAll_74 : decode cX5_changeAll 74 = .ok (.ifCond .eq 7, 3) := by decide +kernel
theorem dX5_changeAll_77 : decode cX5_changeAll 77 = .ok (.iconst 1, 1) := by decide +kernel
theorem dX5_changeAll_78 : decode cX5_changeAll 78 = .ok (.goto 4, 3) := by decide +kernel
theorem dX5_changeAll_81 : decode cX5_changeAll 81 = .ok (.iconst 0, 1) := by decide +kernel
theorem dX5_changeAll_82 : decode cX5_changeAll 82 = .ok (.istore_n 1, 1) := by decide +kernel
theorem dX5_changeAll_83 : decode cX5_changeAll 83 = .ok (.iinc 2 1, 3) := by decide +kernel
theorem dX5_changeAll_86 : decode cX5_changeAll 86 = .ok (.goto (-82), 3) := by decide +kernel
theorem dX5_changeAll_89 : decode cX5_changeAll 89 = .ok (.iload_n 1, 1) := by decide +kernel
theorem dX5_changeAll_90 : decode cX5_changeAll 90 = .ok (.ireturn, 1) := by decide +kernel
set_option maxRecDepth 20000 in
theorem ggX5_changes_X5_isShop : GoodIn wsX5_changes wsX5_isShop := goodIn_r _ [7, 8, 9, 10, 6, 11, 2, 12, 13, 14, 119, 120, 121, 122, 123, 124, 125, 126, 127, 128, 129, 130, 131, 132, 133, 134, 135, 136, 137, 138, 139, 140, 141, 142, 143, 144, 145, 146] (by decide +kernel) (by decide +kernel)
set_option maxRecDepth 20000 in
theorem gX5_changes_X5_isShop : GoodIn wsX5_changes (wsV RX5 86 RX5 yX5_isShop wsX5_isShop) := goodIn_app (goodIn_of _ (by decide +kernel)) ggX5_changes_X5_isShop
set_option maxRecDepth 20000 in
theorem ggX5_changes_X5_bad : GoodIn wsX5_changes wsX5_bad := goodIn_r _ [18, 19, 119, 120, 121, 122, 123, 124, 125, 126, 127, 128, 129, 130, 131, 132, 133, 134, 135, 136, 137, 138, 139, 140, 141, 142, 143, 144, 145, 146] (by decide +kernel) (by decide +kernel)
set_option maxRecDepth 20000 in
theorem gX5_changes_X5_bad : GoodIn wsX5_changes (wsV RX5 79 RX5 yX5_bad wsX5_bad) := goodIn_app (goodIn_of _ (by decide +kernel)) ggX5_changes_X5_bad
set_option maxRecDepth 20000 in
theorem ggX5_changes_X5_shops : GoodIn wsX5_changes wsX5_shops := goodIn_r _ [11, 2, 119, 120, 121, 122, 123, 124, 125, 126, 127, 128, 129, 130, 131, 132, 133, 134, 135, 136, 137, 138, 139, 140, 141, 142, 143, 144, 145, 146] (by decide +kernel) (by decide +kernel)
set_option maxRecDepth 20000 in
theorem gX5_changes_X5_shops : GoodIn wsX5_changes (wsV RX5 59 RX5 yX5_shops wsX5_shops) := goodIn_app (goodIn_of _ (by decide +kernel)) ggX5_changes_X5_shops
set_option maxRecDepth 20000 in
theorem ggX5_changes_X5_of : GoodIn wsX5_changes wsX5_of := goodIn_r _ [23, 2, 119, 120, 121, 122, 123, 124, 125, 126, 127, 128, 129, 130, 131, 132, 133, 134, 135, 136, 137, 138, 139, 140, 141, 142, 143, 144, 145, 146] (by decide +kernel) (by decide +kernel)
set_option maxRecDepth 20000 in
theorem gX5_changes_X5_of : GoodIn wsX5_changes (wsV RX5 108 RX5 yX5_of wsX5_of) := goodIn_app (goodIn_of _ (by decide +kernel)) ggX5_changes_X5_of
set_option maxRecDepth 20000 in
theorem ggX5_changes_X5_changeAll : GoodIn wsX5_changes wsX5_changeAll := goodIn_r _ [27, 28, 2, 8, 9, 10, 6, 11, 29, 30, 31, 32, 33, 34, 35, 36, 37, 38, 39, 40, 41, 42, 43, 44, 45, 46, 47, 48, 49, 50, 51, 52, 53, 54, 55, 56, 57, 58, 59, 60, 61, 62, 63, 64, 65, 66, 67, 68, 69, 70, 71, 72, 73, 74, 75, 76, 20, 21, 22, 23, 77, 78, 79, 80, 81, 82, 83, 84, 85, 86, 87, 88, 89, 90, 91, 92, 93, 94, 95, 96, 97, 98, 99, 100, 101, 102, 103, 104, 105, 106, 107, 3, 4, 5, 7, 12, 13, 14, 108, 109, 110, 111, 112, 113, 114, 115, 116, 117, 118, 119, 120, 121, 122, 123, 124, 125, 126, 127, 128, 129, 130, 131, 132, 133, 134, 135, 136, 137, 138, 139, 140, 141, 142, 143, 144, 145, 146] (by decide +kernel) (by decide +kernel)
set_option maxRecDepth 20000 in
theorem gX5_changes_X5_changeAll : GoodIn wsX5_changes (wsV RX5 267 RX5 yX5_changeAll wsX5_changeAll) := goodIn_app (goodIn_of _ (by decide +kernel)) ggX5_changes_X5_changeAll
theorem dX5_changes_0 : decode cX5_changes 0 = .ok (.iload_n 1, 1) := by decide +kernel
theorem dX5_changes_1 : decode cX5_changes 1 = .ok (.iconst (-1), 1) := by decide +kernel
theorem dX5_changes_2 : decode cX5_changes 2 = .ok (.if_icmp .eq 18, 3) := by decide +kernel
theorem dX5_changes_5 : decode cX5_changes 5 = .ok (.aload_n 0, 1) := by decide +kernel
theorem dX5_changes_6 : decode cX5_changes 6 = .ok (.iload_n 1, 1) := by decide +kernel
theorem dX5_changes_7 : decode cX5_changes 7 = .ok (.invokevirtual 86, 3) := by decide +kernel
theorem dX5_changes_10 : decode cX5_changes 10 = .ok (.ifCond .ne 10, 3) := by decide +kernel
theorem dX5_changes_13 : decode cX5_changes 13 = .ok (.aload_n 0, 1) := by decide +kernel
theorem dX5_changes_14 : decode cX5_changes 14 = .ok (.bipush (-2), 2) := by decide +kernel
theorem dX5_changes_16 : decode cX5_changes 16 = .ok (.invokevirtual 79, 3) := by decide +kernel
theorem dX5_changes_19 : decode cX5_changes 19 = .ok (.ireturn, 1) := by decide +kernel
theorem dX5_changes_20 : decode cX5_changes 20 = .ok (.iconst 0, 1) := by decide +kernel
theorem dX5_changes_21 : decode cX5_changes 21 = .ok (.istore_n 2, 1) := by decide +kernel
theorem dX5_changes_22 : decode cX5_changes 22 = .ok (.iload_n 2, 1) := by decide +kernel
theorem dX5_changes_23 : decode cX5_changes 23 = .ok (.aload_n 0, 1) := by decide +kernel
theorem dX5_changes_24 : decode cX5_changes 24 = .ok (.invokevirtual 59, 3) := by decide +kernel
theorem dX5_changes_27 : decode cX5_changes 27 = .ok (.if_icmp .ge 21, 3) := by decide +kernel
theorem dX5_changes_30 : decode cX5_changes 30 = .ok (.aload_n 0, 1) := by decide +kernel
theorem dX5_changes_31 : decode cX5_changes 31 = .ok (.getfield 56, 3) := by decide +kernel
theorem dX5_changes_34 : decode cX5_changes 34 = .ok (.iload_n 2, 1) := by decide +kernel
theorem dX5_changes_35 : decode cX5_changes 35 = .ok (.aload_n 0, 1) := by decide +kernel
theorem dX5_changes_36 : decode cX5_changes 36 = .ok (.iload_n 2, 1) := by decide +kernel
theorem dX5_changes_37 : decode cX5_changes 37 = .ok (.iconst 1, 1) := by decide +kernel
theorem dX5_changes_38 : decode cX5_changes 38 = .ok (.invokevirtual 108, 3) := by decide +kernel
theorem dX5_changes_41 : decode cX5_changes 41 = .ok (.iastore, 1) := by decide +kernel
theorem dX5_changes_42 : decode cX5_changes 42 = .ok (.iinc 2 1, 3) := by decide +kernel
theorem dX5_changes_45 : decode cX5_changes 45 = .ok (.goto (-23), 3) := by decide +kernel
theorem dX5_changes_48 : decode cX5_changes 48 = .ok (.iconst 0, 1) := by decide +kernel
theorem dX5_changes_49 : decode cX5_changes 49 = .ok (.istore_n 2, 1) := by decide +kernel
theorem dX5_changes_50 : decode cX5_changes 50 = .ok (.iconst 1, 1) := by decide +kernel
theorem dX5_changes_51 : decode cX5_changes 51 = .ok (.istore_n 3, 1) := by decide +kernel
theorem dX5_changes_52 : decode cX5_changes 52 = .ok (.iload_n 3, 1) := by decide +kernel
theorem dX5_changes_53 : decode cX5_changes 53 = .ok (.ifCond .eq 20, 3) := by decide +kernel
theorem dX5_changes_56 : decode cX5_changes 56 = .ok (.iload_n 2, 1) := by decide +kernel
theorem dX5_changes_57 : decode cX5_changes 57 = .ok (.bipush 8, 2) := by decide +kernel
theorem dX5_changes_59 : decode cX5_changes 59 = .ok (.if_icmp .ge 14, 3) := by decide +kernel
theorem dX5_changes_62 : decode cX5_changes 62 = .ok (.aload_n 0, 1) := by decide +kernel
theorem dX5_changes_63 : decode cX5_changes 63 = .ok (.invokevirtual 267, 3) := by decide +kernel
theorem dX5_changes_66 : decode cX5_changes 66 = .ok (.istore_n 3, 1) := by decide +kernel
theorem dX5_changes_67 : decode cX5_changes 67 = .ok (.iinc 2 1, 3) := by decide +kernel
theorem dX5_changes_70 : decode cX5_changes 70 = .ok (.goto (-18), 3) := by decide +kernel
theorem dX5_changes_73 : decode cX5_changes 73 = .ok (.iload_n 1, 1) := by decide +kernel
theorem dX5_changes_74 : decode cX5_changes 74 = .ok (.iconst (-1), 1) := by decide +kernel
theorem dX5_changes_75 : decode cX5_changes 75 = .ok (.if_icmp .ne 7, 3) := by decide +kernel
theorem dX5_changes_78 : decode cX5_changes 78 = .ok (.iload_n 2, 1) := by decide +kernel
theorem dX5_changes_79 : decode cX5_changes 79 = .ok (.goto 9, 3) := by decide +kernel
theorem dX5_changes_82 : decode cX5_changes 82 = .ok (.aload_n 0, 1) := by decide +kernel
theorem dX5_changes_83 : decode cX5_changes 83 = .ok (.iload_n 1, 1) := by decide +kernel
theorem dX5_changes_84 : decode cX5_changes 84 = .ok (.iconst 1, 1) := by decide +kernel
theorem dX5_changes_85 : decode cX5_changes 85 = .ok (.invokevirtual 108, 3) := by decide +kernel
theorem dX5_changes_88 : decode cX5_changes 88 = .ok (.istore 4, 2) := by decide +kernel
theorem dX5_changes_90 : decode cX5_changes 90 = .ok (.iconst 0, 1) := by decide +kernel
theorem dX5_changes_91 : decode cX5_changes 91 = .ok (.istore 5, 2) := by decide +kernel
theorem dX5_changes_93 : decode cX5_changes 93 = .ok (.iload 5, 2) := by decide +kernel
theorem dX5_changes_95 : decode cX5_changes 95 = .ok (.aload_n 0, 1) := by decide +kernel
theorem dX5_changes_96 : decode cX5_changes 96 = .ok (.invokevirtual 59, 3) := by decide +kernel
theorem dX5_changes_99 : decode cX5_changes 99 = .ok (.if_icmp .ge 29, 3) := by decide +kernel
theorem dX5_changes_102 : decode cX5_changes 102 = .ok (.aload_n 0, 1) := by decide +kernel
theorem dX5_changes_103 : decode cX5_changes 103 = .ok (.getfield 7, 3) := by decide +kernel
theorem dX5_changes_106 : decode cX5_changes 106 = .ok (.iconst 0, 1) := by decide +kernel
theorem dX5_changes_107 : decode cX5_changes 107 = .ok (.iconst 4, 1) := by decide +kernel
theorem dX5_changes_108 : decode cX5_changes 108 = .ok (.iload 5, 2) := by decide +kernel
theorem dX5_changes_110 : decode cX5_changes 110 = .ok (.imul, 1) := by decide +kernel
theorem dX5_changes_111 : decode cX5_changes 111 = .ok (.iadd, 1) := by decide +kernel
theorem dX5_changes_112 : decode cX5_changes 112 = .ok (.iconst 1, 1) := by decide +kernel
theorem dX5_changes_113 : decode cX5_changes 113 = .ok (.iadd, 1) := by decide +kernel
theorem dX5_changes_114 : decode cX5_changes 114 = .ok (.aload_n 0, 1) := by decide +kernel
theorem dX5_changes_115 : decode cX5_changes 115 = .ok (.getfield 56, 3) := by decide +kernel
theorem dX5_changes_118 : decode cX5_changes 118 = .ok (.iload 5, 2) := by decide +kernel
theorem dX5_changes_120 : decode cX5_changes 120 = .ok (.iaload, 1) := by decide +kernel
theorem dX5_changes_121 : decode cX5_changes 121 = .ok (.iastore, 1) := by decide +kernel
theorem dX5_changes_122 : decode cX5_changes 122 = .ok (.iinc 5 1, 3) := by decide +kernel
theorem dX5_changes_125 : decode cX5_changes 125 = .ok (.goto (-32), 3) := by decide +kernel
theorem dX5_changes_128 : decode cX5_changes 128 = .ok (.iload_n 3, 1) := by decide +kernel
theorem dX5_changes_129 : decode cX5_changes 129 = .ok (.ifCond .eq 7, 3) := by decide +kernel
theorem dX5_changes_132 : decode cX5_changes 132 = .ok (.iconst (-1), 1) := by decide +kernel
theorem dX5_changes_133 : decode cX5_changes 133 = .ok (.goto 5, 3) := by decide +kernel
theorem dX5_changes_136 : decode cX5_changes 136 = .ok (.iload 4, 2) := by decide +kernel
theorem dX5_changes_138 : decode cX5_changes 138 = .ok (.ireturn, 1) := by decide +kernel
set_option maxRecDepth 20000 in
theorem ggX5_wanted_X5_bad : GoodIn wsX5_wanted wsX5_bad := goodIn_r _ [10, 11, 91, 92, 93, 94, 95, 96, 97, 98, 99, 100, 101, 102, 103, 104, 105, 106, 107, 108, 109, 110, 111, 112, 113, 114, 115, 116, 117, 118] (by decide +kernel) (by decide +kernel)
set_option maxRecDepth 20000 in
theorem gX5_wanted_X5_bad : GoodIn wsX5_wanted (wsV RX5 79 RX5 yX5_bad wsX5_bad) := goodIn_app (goodIn_of _ (by decide +kernel)) ggX5_wanted_X5_bad
set_option maxRecDepth 20000 in
theorem ggX5_wanted_X5_goAll : GoodIn wsX5_wanted wsX5_goAll := goodIn_r _ [15, 3, 2, 4, 16, 5, 17, 18, 19, 20, 21, 9, 22, 23, 24, 25, 26, 27, 28, 29, 30, 31, 32, 33, 34, 35, 36, 37, 38, 39, 40, 41, 42, 43, 1, 44, 45, 46, 47, 48, 49, 50, 51, 52, 53, 54, 55, 56, 57, 58, 59, 60, 61, 62, 63, 64, 65, 66, 67, 68, 69, 70, 71, 72, 73, 74, 75, 76, 77, 78, 79, 80, 81, 82, 83, 84, 85, 86, 87, 88, 89, 90, 91, 92, 93, 94, 95, 96, 97, 98, 99, 100, 101, 102, 103, 104, 105, 106, 107, 108, 109, 110, 111, 112, 113, 114, 115, 116, 117, 118] (by decide +kernel) (by decide +kernel)
set_option maxRecDepth 20000 in
theorem gX5_wanted_X5_goAll : GoodIn wsX5_wanted (wsV RX5 241 RX5 yX5_goAll wsX5_goAll) := goodIn_app (goodIn_of _ (by decide +kernel)) ggX5_wanted_X5_goAll
set_option maxRecDepth 20000 in
theorem ggX5_wanted_X5_shops : GoodIn wsX5_wanted wsX5_shops := goodIn_r _ [43, 1, 91, 92, 93, 94, 95, 96, 97, 98, 99, 100, 101, 102, 103, 104, 105, 106, 107, 108, 109, 110, 111, 112, 113, 114, 115, 116, 117, 118] (by decide +kernel) (by decide +kernel)
set_option maxRecDepth 20000 in
theorem gX5_wanted_X5_shops : GoodIn wsX5_wanted (wsV RX5 59 RX5 yX5_shops wsX5_shops) := goodIn_app (goodIn_of _ (by decide +kernel)) ggX5_wanted_X5_shops
theorem dX5_wanted_0 : decode cX5_wanted 0 = .ok (.iload_n 1, 1) := by decide +kernel
theorem dX5_wanted_1 : decode cX5_wanted 1 = .ok (.iconst (-1), 1) := by decide +kernel
theorem dX5_wanted_2 : decode cX5_wanted 2 = .ok (.if_icmp .ge 10, 3) := by decide +kernel
theorem dX5_wanted_5 : decode cX5_wanted 5 = .ok (.aload_n 0, 1) := by decide +kernel
theorem dX5_wanted_6 : decode cX5_wanted 6 = .ok (.bipush (-10), 2) := by decide +kernel
theorem dX5_wanted_8 : decode cX5_wanted 8 = .ok (.invokevirtual 79, 3) := by decide +kernel
theorem dX5_wanted_11 : decode cX5_wanted 11 = .ok (.ireturn, 1) := by decide +kernel
theorem dX5_wanted_12 : decode cX5_wanted 12 = .ok (.aload_n 0, 1) := by decide +kernel
theorem dX5_wanted_13 : decode cX5_wanted 13 = .ok (.iconst (-1), 1) := by decide +kernel
theorem dX5_wanted_14 : decode cX5_wanted 14 = .ok (.invokevirtual 241, 3) := by decide +kernel
theorem dX5_wanted_17 : decode cX5_wanted 17 = .ok (.iconst 0, 1) := by decide +kernel
theorem dX5_wanted_18 : decode cX5_wanted 18 = .ok (.istore_n 2, 1) := by decide +kernel
theorem dX5_wanted_19 : decode cX5_wanted 19 = .ok (.aload_n 0, 1) := by decide +kernel
theorem dX5_wanted_20 : decode cX5_wanted 20 = .ok (.getfield 7, 3) := by decide +kernel
theorem dX5_wanted_23 : decode cX5_wanted 23 = .ok (.bipush 33, 2) := by decide +kernel
theorem dX5_wanted_25 : decode cX5_wanted 25 = .ok (.iaload, 1) := by decide +kernel
theorem dX5_wanted_26 : decode cX5_wanted 26 = .ok (.iconst 1, 1) := by decide +kernel
theorem dX5_wanted_27 : decode cX5_wanted 27 = .ok (.isub, 1) := by decide +kernel
theorem dX5_wanted_28 : decode cX5_wanted 28 = .ok (.istore_n 3, 1) := by decide +kernel
theorem dX5_wanted_29 : decode cX5_wanted 29 = .ok (.iload_n 3, 1) := by decide +kernel
theorem dX5_wanted_30 : decode cX5_wanted 30 = .ok (.ifCond .lt 36, 3) := by decide +kernel
theorem dX5_wanted_33 : decode cX5_wanted 33 = .ok (.aload_n 0, 1) := by decide +kernel
theorem dX5_wanted_34 : decode cX5_wanted 34 = .ok (.getfield 7, 3) := by decide +kernel
theorem dX5_wanted_37 : decode cX5_wanted 37 = .ok (.bipush 33, 2) := by decide +kernel
theorem dX5_wanted_39 : decode cX5_wanted 39 = .ok (.iaload, 1) := by decide +kernel
theorem dX5_wanted_40 : decode cX5_wanted 40 = .ok (.bipush 7, 2) := by decide +kernel
theorem dX5_wanted_42 : decode cX5_wanted 42 = .ok (.if_icmp .ge 24, 3) := by decide +kernel
theorem dX5_wanted_45 : decode cX5_wanted 45 = .ok (.bipush 8, 2) := by decide +kernel
theorem dX5_wanted_47 : decode cX5_wanted 47 = .ok (.iload_n 2, 1) := by decide +kernel
theorem dX5_wanted_48 : decode cX5_wanted 48 = .ok (.imul, 1) := by decide +kernel
theorem dX5_wanted_49 : decode cX5_wanted 49 = .ok (.aload_n 0, 1) := by decide +kernel
theorem dX5_wanted_50 : decode cX5_wanted 50 = .ok (.getfield 7, 3) := by decide +kernel
theorem dX5_wanted_53 : decode cX5_wanted 53 = .ok (.bipush 34, 2) := by decide +kernel
theorem dX5_wanted_55 : decode cX5_wanted 55 = .ok (.iload_n 3, 1) := by decide +kernel
theorem dX5_wanted_56 : decode cX5_wanted 56 = .ok (.iadd, 1) := by decide +kernel
theorem dX5_wanted_57 : decode cX5_wanted 57 = .ok (.iaload, 1) := by decide +kernel
theorem dX5_wanted_58 : decode cX5_wanted 58 = .ok (.iadd, 1) := by decide +kernel
theorem dX5_wanted_59 : decode cX5_wanted 59 = .ok (.istore_n 2, 1) := by decide +kernel
theorem dX5_wanted_60 : decode cX5_wanted 60 = .ok (.iinc 3 (-1), 3) := by decide +kernel
theorem dX5_wanted_63 : decode cX5_wanted 63 = .ok (.goto (-34), 3) := by decide +kernel
theorem dX5_wanted_66 : decode cX5_wanted 66 = .ok (.iconst 0, 1) := by decide +kernel
theorem dX5_wanted_67 : decode cX5_wanted 67 = .ok (.istore_n 3, 1) := by decide +kernel
theorem dX5_wanted_68 : decode cX5_wanted 68 = .ok (.iconst 0, 1) := by decide +kernel
theorem dX5_wanted_69 : decode cX5_wanted 69 = .ok (.istore 4, 2) := by decide +kernel
theorem dX5_wanted_71 : decode cX5_wanted 71 = .ok (.iload 4, 2) := by decide +kernel
theorem dX5_wanted_73 : decode cX5_wanted 73 = .ok (.iconst 1, 1) := by decide +kernel
theorem dX5_wanted_74 : decode cX5_wanted 74 = .ok (.aload_n 0, 1) := by decide +kernel
theorem dX5_wanted_75 : decode cX5_wanted 75 = .ok (.invokevirtual 59, 3) := by decide +kernel
theorem dX5_wanted_78 : decode cX5_wanted 78 = .ok (.ishl, 1) := by decide +kernel
theorem dX5_wanted_79 : decode cX5_wanted 79 = .ok (.if_icmp .ge 60, 3) := by decide +kernel
theorem dX5_wanted_82 : decode cX5_wanted 82 = .ok (.aload_n 0, 1) := by decide +kernel
theorem dX5_wanted_83 : decode cX5_wanted 83 = .ok (.getfield 26, 3) := by decide +kernel
theorem dX5_wanted_86 : decode cX5_wanted 86 = .ok (.iload 4, 2) := by decide +kernel
theorem dX5_wanted_88 : decode cX5_wanted 88 = .ok (.iaload, 1) := by decide +kernel
theorem dX5_wanted_89 : decode cX5_wanted 89 = .ok (.ldc 226, 2) := by decide +kernel
theorem dX5_wanted_91 : decode cX5_wanted 91 = .ok (.if_icmp .ge 42, 3) := by decide +kernel
theorem dX5_wanted_94 : decode cX5_wanted 94 = .ok (.aload_n 0, 1) := by decide +kernel
theorem dX5_wanted_95 : decode cX5_wanted 95 = .ok (.getfield 29, 3) := by decide +kernel
theorem dX5_wanted_98 : decode cX5_wanted 98 = .ok (.iload 4, 2) := by decide +kernel
theorem dX5_wanted_100 : decode cX5_wanted 100 = .ok (.iaload, 1) := by decide +kernel
theorem dX5_wanted_101 : decode cX5_wanted 101 = .ok (.aload_n 0, 1) := by decide +kernel
theorem dX5_wanted_102 : decode cX5_wanted 102 = .ok (.getfield 7, 3) := by decide +kernel
theorem dX5_wanted_105 : decode cX5_wanted 105 = .ok (.bipush 33, 2) := by decide +kernel
theorem dX5_wanted_107 : decode cX5_wanted 107 = .ok (.iaload, 1) := by decide +kernel
theorem dX5_wanted_108 : decode cX5_wanted 108 = .ok (.if_icmp .ne 25, 3) := by decide +kernel
theorem dX5_wanted_111 : decode cX5_wanted 111 = .ok (.aload_n 0, 1) := by decide +kernel
theorem dX5_wanted_112 : decode cX5_wanted 112 = .ok (.getfield 35, 3) := by decide +kernel
theorem dX5_wanted_115 : decode cX5_wanted 115 = .ok (.iload 4, 2) := by decide +kernel
theorem dX5_wanted_117 : decode cX5_wanted 117 = .ok (.iaload, 1) := by decide +kernel
theorem dX5_wanted_118 : decode cX5_wanted 118 = .ok (.iload_n 2, 1) := by decide +kernel
theorem dX5_wanted_119 : decode cX5_wanted 119 = .ok (.if_icmp .ne 14, 3) := by decide +kernel
theorem dX5_wanted_122 : decode cX5_wanted 122 = .ok (.iload_n 3, 1) := by decide +kernel
theorem dX5_wanted_123 : decode cX5_wanted 123 = .ok (.iload_n 1, 1) := by decide +kernel
theorem dX5_wanted_124 : decode cX5_wanted 124 = .ok (.if_icmp .ne 6, 3) := by decide +kernel
theorem dX5_wanted_127 : decode cX5_wanted 127 = .ok (.iload 4, 2) := by decide +kernel
theorem dX5_wanted_129 : decode cX5_wanted 129 = .ok (.ireturn, 1) := by decide +kernel
theorem dX5_wanted_130 : decode cX5_wanted 130 = .ok (.iinc 3 1, 3) := by decide +kernel
theorem dX5_wanted_133 : decode cX5_wanted 133 = .ok (.iinc 4 1, 3) := by decide +kernel
theorem dX5_wanted_136 : decode cX5_wanted 136 = .ok (.goto (-65), 3) := by decide +kernel
theorem dX5_wanted_139 : decode cX5_wanted 139 = .ok (.iload_n 1, 1) := by decide +kernel
theorem dX5_wanted_140 : decode cX5_wanted 140 = .ok (.iconst (-1), 1) := by decide +kernel
theorem dX5_wanted_141 : decode cX5_wanted 141 = .ok (.if_icmp .ne 7, 3) := by decide +kernel
theorem dX5_wanted_144 : decode cX5_wanted 144 = .ok (.iload_n 3, 1) := by decide +kernel
theorem dX5_wanted_145 : decode cX5_wanted 145 = .ok (.goto 5, 3) := by decide +kernel
theorem dX5_wanted_148 : decode cX5_wanted 148 = .ok (.bipush (-5), 2) := by decide +kernel
theorem dX5_wanted_150 : decode cX5_wanted 150 = .ok (.ireturn, 1) := by decide +kernel
set_option maxRecDepth 20000 in
theorem ggX5_image_X5_in : GoodIn wsX5_image wsX5_in := goodIn_r _ [7] (by decide +kernel) (by decide +kernel)
set_option maxRecDepth 20000 in
theorem gX5_image_X5_in : GoodIn wsX5_image (va_wsS RX5 63 yX5_in wsX5_in) := goodIn_app (goodIn_of _ (by decide +kernel)) ggX5_image_X5_in
set_option maxRecDepth 20000 in
theorem ggX5_image_X5_bad : GoodIn wsX5_image wsX5_bad := goodIn_r _ [11, 12, 13, 14, 15, 16, 17, 18, 19, 20, 21, 22, 23, 24, 25, 26, 27, 28, 29, 30, 31, 32, 33, 34, 35, 36, 37, 38, 39, 40] (by decide +kernel) (by decide +kernel)
set_option maxRecDepth 20000 in
theorem gX5_image_X5_bad : GoodIn wsX5_image (wsV RX5 79 RX5 yX5_bad wsX5_bad) := goodIn_app (goodIn_of _ (by decide +kernel)) ggX5_image_X5_bad
theorem dX5_image_0 : decode cX5_image 0 = .ok (.iload_n 1, 1) := by decide +kernel
theorem dX5_image_1 : decode cX5_image 1 = .ok (.i2l, 1) := by decide +kernel
theorem dX5_image_2 : decode cX5_image 2 = .ok (.lconst 0, 1) := by decide +kernel
theorem dX5_image_3 : decode cX5_image 3 = .ok (.lconst 1, 1) := by decide +kernel
theorem dX5_image_4 : decode cX5_image 4 = .ok (.invokestatic 63, 3) := by decide +kernel
theorem dX5_image_7 : decode cX5_image 7 = .ok (.ifCond .ne 10, 3) := by decide +kernel
theorem dX5_image_10 : decode cX5_image 10 = .ok (.aload_n 0, 1) := by decide +kernel
theorem dX5_image_11 : decode cX5_image 11 = .ok (.bipush (-2), 2) := by decide +kernel
theorem dX5_image_13 : decode cX5_image 13 = .ok (.invokevirtual 79, 3) := by decide +kernel
theorem dX5_image_16 : decode cX5_image 16 = .ok (.ireturn, 1) := by decide +kernel
theorem dX5_image_17 : decode cX5_image 17 = .ok (.iconst 0, 1) := by decide +kernel
theorem dX5_image_18 : decode cX5_image 18 = .ok (.istore_n 2, 1) := by decide +kernel
theorem dX5_image_19 : decode cX5_image 19 = .ok (.iload_n 2, 1) := by decide +kernel
theorem dX5_image_20 : decode cX5_image 20 = .ok (.sipush 261, 3) := by decide +kernel
theorem dX5_image_23 : decode cX5_image 23 = .ok (.if_icmp .ge 27, 3) := by decide +kernel
theorem dX5_image_26 : decode cX5_image 26 = .ok (.aload_n 0, 1) := by decide +kernel
theorem dX5_image_27 : decode cX5_image 27 = .ok (.getfield 13, 3) := by decide +kernel
theorem dX5_image_30 : decode cX5_image 30 = .ok (.sipush 261, 3) := by decide +kernel
theorem dX5_image_33 : decode cX5_image 33 = .ok (.iload_n 1, 1) := by decide +kernel
theorem dX5_image_34 : decode cX5_image 34 = .ok (.imul, 1) := by decide +kernel
theorem dX5_image_35 : decode cX5_image 35 = .ok (.iload_n 2, 1) := by decide +kernel
theorem dX5_image_36 : decode cX5_image 36 = .ok (.iadd, 1) := by decide +kernel
theorem dX5_image_37 : decode cX5_image 37 = .ok (.aload_n 0, 1) := by decide +kernel
theorem dX5_image_38 : decode cX5_image 38 = .ok (.getfield 7, 3) := by decide +kernel
theorem dX5_image_41 : decode cX5_image 41 = .ok (.iload_n 2, 1) := by decide +kernel
theorem dX5_image_42 : decode cX5_image 42 = .ok (.iaload, 1) := by decide +kernel
theorem dX5_image_43 : decode cX5_image 43 = .ok (.iastore, 1) := by decide +kernel
theorem dX5_image_44 : decode cX5_image 44 = .ok (.iinc 2 1, 3) := by decide +kernel
theorem dX5_image_47 : decode cX5_image 47 = .ok (.goto (-28), 3) := by decide +kernel
theorem dX5_image_50 : decode cX5_image 50 = .ok (.aload_n 0, 1) := by decide +kernel
theorem dX5_image_51 : decode cX5_image 51 = .ok (.getfield 16, 3) := by decide +kernel
theorem dX5_image_54 : decode cX5_image 54 = .ok (.iload_n 1, 1) := by decide +kernel
theorem dX5_image_55 : decode cX5_image 55 = .ok (.iconst 1, 1) := by decide +kernel
theorem dX5_image_56 : decode cX5_image 56 = .ok (.bastore, 1) := by decide +kernel
theorem dX5_image_57 : decode cX5_image 57 = .ok (.iconst 1, 1) := by decide +kernel
theorem dX5_image_58 : decode cX5_image 58 = .ok (.ireturn, 1) := by decide +kernel
set_option maxRecDepth 20000 in
theorem ggX5_from_X5_in : GoodIn wsX5_from wsX5_in := goodIn_r _ [7] (by decide +kernel) (by decide +kernel)
set_option maxRecDepth 20000 in
theorem gX5_from_X5_in : GoodIn wsX5_from (va_wsS RX5 63 yX5_in wsX5_in) := goodIn_app (goodIn_of _ (by decide +kernel)) ggX5_from_X5_in
set_option maxRecDepth 20000 in
theorem ggX5_from_X5_bad : GoodIn wsX5_from wsX5_bad := goodIn_r _ [11, 12, 17, 18, 19, 20, 21, 22, 23, 24, 25, 26, 27, 28, 29, 30, 31, 32, 33, 34, 35, 36, 37, 38, 39, 40, 41, 42, 43, 44] (by decide +kernel) (by decide +kernel)
set_option maxRecDepth 20000 in
theorem gX5_from_X5_bad : GoodIn wsX5_from (wsV RX5 79 RX5 yX5_bad wsX5_bad) := goodIn_app (goodIn_of _ (by decide +kernel)) ggX5_from_X5_bad
set_option maxRecDepth 20000 in
theorem ggX5_from_X5_no : GoodIn wsX5_from wsX5_no := goodIn_r _ [16, 12, 17, 18, 19, 20, 21, 22, 23, 24, 25, 26, 27, 28, 29, 30, 31, 32, 33, 34, 35, 36, 37, 38, 39, 40, 41, 42, 43, 44] (by decide +kernel) (by decide +kernel)
set_option maxRecDepth 20000 in
theorem gX5_from_X5_no : GoodIn wsX5_from (wsV RX5 94 RX5 yX5_no wsX5_no) := goodIn_app (goodIn_of _ (by decide +kernel)) ggX5_from_X5_no
theorem dX5_from_0 : decode cX5_from 0 = .ok (.iload_n 1, 1) := by decide +kernel
theorem dX5_from_1 : decode cX5_from 1 = .ok (.i2l, 1) := by decide +kernel
theorem dX5_from_2 : decode cX5_from 2 = .ok (.lconst 0, 1) := by decide +kernel
theorem dX5_from_3 : decode cX5_from 3 = .ok (.lconst 1, 1) := by decide +kernel
theorem dX5_from_4 : decode cX5_from 4 = .ok (.invokestatic 63, 3) := by decide +kernel
theorem dX5_from_7 : decode cX5_from 7 = .ok (.ifCond .ne 10, 3) := by decide +kernel
theorem dX5_from_10 : decode cX5_from 10 = .ok (.aload_n 0, 1) := by decide +kernel
theorem dX5_from_11 : decode cX5_from 11 = .ok (.bipush (-2), 2) := by decide +kernel
theorem dX5_from_13 : decode cX5_from 13 = .ok (.invokevirtual 79, 3) := by decide +kernel
theorem dX5_from_16 : decode cX5_from 16 = .ok (.ireturn, 1) := by decide +kernel
theorem dX5_from_17 : decode cX5_from 17 = .ok (.aload_n 0, 1) := by decide +kernel
theorem dX5_from_18 : decode cX5_from 18 = .ok (.getfield 16, 3) := by decide +kernel
theorem dX5_from_21 : decode cX5_from 21 = .ok (.iload_n 1, 1) := by decide +kernel
theorem dX5_from_22 : decode cX5_from 22 = .ok (.baload, 1) := by decide +kernel
theorem dX5_from_23 : decode cX5_from 23 = .ok (.ifCond .ne 10, 3) := by decide +kernel
theorem dX5_from_26 : decode cX5_from 26 = .ok (.aload_n 0, 1) := by decide +kernel
theorem dX5_from_27 : decode cX5_from 27 = .ok (.bipush (-3), 2) := by decide +kernel
theorem dX5_from_29 : decode cX5_from 29 = .ok (.invokevirtual 94, 3) := by decide +kernel
theorem dX5_from_32 : decode cX5_from 32 = .ok (.ireturn, 1) := by decide +kernel
theorem dX5_from_33 : decode cX5_from 33 = .ok (.iconst 0, 1) := by decide +kernel
theorem dX5_from_34 : decode cX5_from 34 = .ok (.istore_n 2, 1) := by decide +kernel
theorem dX5_from_35 : decode cX5_from 35 = .ok (.iload_n 2, 1) := by decide +kernel
theorem dX5_from_36 : decode cX5_from 36 = .ok (.sipush 261, 3) := by decide +kernel
theorem dX5_from_39 : decode cX5_from 39 = .ok (.if_icmp .ge 27, 3) := by decide +kernel
theorem dX5_from_42 : decode cX5_from 42 = .ok (.aload_n 0, 1) := by decide +kernel
theorem dX5_from_43 : decode cX5_from 43 = .ok (.getfield 7, 3) := by decide +kernel
theorem dX5_from_46 : decode cX5_from 46 = .ok (.iload_n 2, 1) := by decide +kernel
theorem dX5_from_47 : decode cX5_from 47 = .ok (.aload_n 0, 1) := by decide +kernel
theorem dX5_from_48 : decode cX5_from 48 = .ok (.getfield 13, 3) := by decide +kernel
theorem dX5_from_51 : decode cX5_from 51 = .ok (.sipush 261, 3) := by decide +kernel
theorem dX5_from_54 : decode cX5_from 54 = .ok (.iload_n 1, 1) := by decide +kernel
theorem dX5_from_55 : decode cX5_from 55 = .ok (.imul, 1) := by decide +kernel
theorem dX5_from_56 : decode cX5_from 56 = .ok (.iload_n 2, 1) := by decide +kernel
theorem dX5_from_57 : decode cX5_from 57 = .ok (.iadd, 1) := by decide +kernel
theorem dX5_from_58 : decode cX5_from 58 = .ok (.iaload, 1) := by decide +kernel
theorem dX5_from_59 : decode cX5_from 59 = .ok (.iastore, 1) := by decide +kernel
theorem dX5_from_60 : decode cX5_from 60 = .ok (.iinc 2 1, 3) := by decide +kernel
theorem dX5_from_63 : decode cX5_from 63 = .ok (.goto (-28), 3) := by decide +kernel
theorem dX5_from_66 : decode cX5_from 66 = .ok (.iconst 1, 1) := by decide +kernel
theorem dX5_from_67 : decode cX5_from 67 = .ok (.ireturn, 1) := by decide +kernel
set_option maxRecDepth 20000 in
theorem ggX5_status_X5_in : GoodIn wsX5_status wsX5_in := goodIn_r _ [6] (by decide +kernel) (by decide +kernel)
set_option maxRecDepth 20000 in
theorem gX5_status_X5_in : GoodIn wsX5_status (va_wsS RX5 63 yX5_in wsX5_in) := goodIn_app (goodIn_of _ (by decide +kernel)) ggX5_status_X5_in
set_option maxRecDepth 20000 in
theorem ggX5_status_X5_bad : GoodIn wsX5_status wsX5_bad := goodIn_r _ [10, 2, 11, 12, 13, 14, 15, 16, 17, 18, 19, 20, 21, 22, 23, 24, 25, 26, 27, 28, 29, 30, 31, 32, 33, 34, 35, 36, 37, 38] (by decide +kernel) (by decide +kernel)
set_option maxRecDepth 20000 in
theorem gX5_status_X5_bad : GoodIn wsX5_status (wsV RX5 79 RX5 yX5_bad wsX5_bad) := goodIn_app (goodIn_of _ (by decide +kernel)) ggX5_status_X5_bad
theorem dX5_status_0 : decode cX5_status 0 = .ok (.iload_n 1, 1) := by decide +kernel
theorem dX5_status_1 : decode cX5_status 1 = .ok (.i2l, 1) := by decide +kernel
theorem dX5_status_2 : decode cX5_status 2 = .ok (.lconst 0, 1) := by decide +kernel
theorem dX5_status_3 : decode cX5_status 3 = .ok (.ldc2_w 239, 3) := by decide +kernel
theorem dX5_status_6 : decode cX5_status 6 = .ok (.invokestatic 63, 3) := by decide +kernel
theorem dX5_status_9 : decode cX5_status 9 = .ok (.ifCond .eq 12, 3) := by decide +kernel
theorem dX5_status_12 : decode cX5_status 12 = .ok (.aload_n 0, 1) := by decide +kernel
theorem dX5_status_13 : decode cX5_status 13 = .ok (.getfield 20, 3) := by decide +kernel
theorem dX5_status_16 : decode cX5_status 16 = .ok (.iload_n 1, 1) := by decide +kernel
theorem dX5_status_17 : decode cX5_status 17 = .ok (.iaload, 1) := by decide +kernel
theorem dX5_status_18 : decode cX5_status 18 = .ok (.goto 8, 3) := by decide +kernel
theorem dX5_status_21 : decode cX5_status 21 = .ok (.aload_n 0, 1) := by decide +kernel
theorem dX5_status_22 : decode cX5_status 22 = .ok (.iconst (-1), 1) := by decide +kernel
theorem dX5_status_23 : decode cX5_status 23 = .ok (.invokevirtual 79, 3) := by decide +kernel
theorem dX5_status_26 : decode cX5_status 26 = .ok (.ireturn, 1) := by decide +kernel
set_option maxRecDepth 20000 in
theorem ggX5_counted_X5_shops : GoodIn wsX5_counted wsX5_shops := goodIn_r _ [6, 1, 11, 12, 13, 14, 15, 16, 17, 18, 19, 20, 21, 22, 23, 24, 25, 26, 27, 28, 29, 30, 31, 32, 33, 34, 35, 36, 37, 38] (by decide +kernel) (by decide +kernel)
set_option maxRecDepth 20000 in
theorem gX5_counted_X5_shops : GoodIn wsX5_counted (wsV RX5 59 RX5 yX5_shops wsX5_shops) := goodIn_app (goodIn_of _ (by decide +kernel)) ggX5_counted_X5_shops
set_option maxRecDepth 20000 in
theorem ggX5_counted_X5_textLong : GoodIn wsX5_counted wsX5_textLong := goodIn_r _ [10, 1, 11, 12, 13, 14, 15, 16, 17, 18, 19, 20, 21, 22, 23, 24, 25, 26, 27, 28, 29, 30, 31, 32, 33, 34, 35, 36, 37, 38] (by decide +kernel) (by decide +kernel)
set_option maxRecDepth 20000 in
theorem gX5_counted_X5_textLong : GoodIn wsX5_counted (wsV RX5 160 RX5 yX5_textLong wsX5_textLong) := goodIn_app (goodIn_of _ (by decide +kernel)) ggX5_counted_X5_textLong
theorem dX5_counted_0 : decode cX5_counted 0 = .ok (.iload_n 1, 1) := by decide +kernel
theorem dX5_counted_1 : decode cX5_counted 1 = .ok (.ifCond .ne 10, 3) := by decide +kernel
theorem dX5_counted_4 : decode cX5_counted 4 = .ok (.aload_n 0, 1) := by decide +kernel
theorem dX5_counted_5 : decode cX5_counted 5 = .ok (.invokevirtual 59, 3) := by decide +kernel
theorem dX5_counted_8 : decode cX5_counted 8 = .ok (.goto 38, 3) := by decide +kernel
theorem dX5_counted_11 : decode cX5_counted 11 = .ok (.iload_n 1, 1) := by decide +kernel
theorem dX5_counted_12 : decode cX5_counted 12 = .ok (.iconst 1, 1) := by decide +kernel
theorem dX5_counted_13 : decode cX5_counted 13 = .ok (.if_icmp .ne 13, 3) := by decide +kernel
theorem dX5_counted_16 : decode cX5_counted 16 = .ok (.aload_n 0, 1) := by decide +kernel
theorem dX5_counted_17 : decode cX5_counted 17 = .ok (.getfield 7, 3) := by decide +kernel
theorem dX5_counted_20 : decode cX5_counted 20 = .ok (.bipush 33, 2) := by decide +kernel
theorem dX5_counted_22 : decode cX5_counted 22 = .ok (.iaload, 1) := by decide +kernel
theorem dX5_counted_23 : decode cX5_counted 23 = .ok (.goto 23, 3) := by decide +kernel
theorem dX5_counted_26 : decode cX5_counted 26 = .ok (.iload_n 1, 1) := by decide +kernel
theorem dX5_counted_27 : decode cX5_counted 27 = .ok (.iconst 2, 1) := by decide +kernel
theorem dX5_counted_28 : decode cX5_counted 28 = .ok (.if_icmp .ne 10, 3) := by decide +kernel
theorem dX5_counted_31 : decode cX5_counted 31 = .ok (.aload_n 0, 1) := by decide +kernel
theorem dX5_counted_32 : decode cX5_counted 32 = .ok (.invokevirtual 160, 3) := by decide +kernel
theorem dX5_counted_35 : decode cX5_counted 35 = .ok (.goto 11, 3) := by decide +kernel
theorem dX5_counted_38 : decode cX5_counted 38 = .ok (.aload_n 0, 1) := by decide +kernel
theorem dX5_counted_39 : decode cX5_counted 39 = .ok (.getfield 7, 3) := by decide +kernel
theorem dX5_counted_42 : decode cX5_counted 42 = .ok (.sipush 260, 3) := by decide +kernel
theorem dX5_counted_45 : decode cX5_counted 45 = .ok (.iaload, 1) := by decide +kernel
theorem dX5_counted_46 : decode cX5_counted 46 = .ok (.ireturn, 1) := by decide +kernel
set_option maxRecDepth 20000 in
theorem ggX5_count_X5_in : GoodIn wsX5_count wsX5_in := goodIn_r _ [5] (by decide +kernel) (by decide +kernel)
set_option maxRecDepth 20000 in
theorem gX5_count_X5_in : GoodIn wsX5_count (va_wsS RX5 63 yX5_in wsX5_in) := goodIn_app (goodIn_of _ (by decide +kernel)) ggX5_count_X5_in
set_option maxRecDepth 20000 in
theorem ggX5_count_X5_counted : GoodIn wsX5_count wsX5_counted := goodIn_r _ [9, 10, 11, 12, 13, 4, 14, 15, 16, 17, 18, 24, 25, 26, 27, 28, 29, 30, 31, 32, 33, 34, 35, 36, 37, 38, 39, 40, 41, 42, 43, 44, 45, 46, 47, 48, 49, 50, 51] (by decide +kernel) (by decide +kernel)
set_option maxRecDepth 20000 in
theorem gX5_count_X5_counted : GoodIn wsX5_count (wsV RX5 270 RX5 yX5_counted wsX5_counted) := goodIn_app (goodIn_of _ (by decide +kernel)) ggX5_count_X5_counted
set_option maxRecDepth 20000 in
theorem ggX5_count_X5_bad : GoodIn wsX5_count wsX5_bad := goodIn_r _ [22, 23, 24, 25, 26, 27, 28, 29, 30, 31, 32, 33, 34, 35, 36, 37, 38, 39, 40, 41, 42, 43, 44, 45, 46, 47, 48, 49, 50, 51] (by decide +kernel) (by decide +kernel)
set_option maxRecDepth 20000 in
theorem gX5_count_X5_bad : GoodIn wsX5_count (wsV RX5 79 RX5 yX5_bad wsX5_bad) := goodIn_app (goodIn_of _ (by decide +kernel)) ggX5_count_X5_bad
theorem dX5_count_0 : decode cX5_count 0 = .ok (.iload_n 1, 1) := by decide +kernel
theorem dX5_count_1 : decode cX5_count 1 = .ok (.i2l, 1) := by decide +kernel
theorem dX5_count_2 : decode cX5_count 2 = .ok (.lconst 0, 1) := by decide +kernel
theorem dX5_count_3 : decode cX5_count 3 = .ok (.ldc2_w 146, 3) := by decide +kernel
theorem dX5_count_6 : decode cX5_count 6 = .ok (.invokestatic 63, 3) := by decide +kernel
theorem dX5_count_9 : decode cX5_count 9 = .ok (.ifCond .eq 11, 3) := by decide +kernel
theorem dX5_count_12 : decode cX5_count 12 = .ok (.aload_n 0, 1) := by decide +kernel
theorem dX5_count_13 : decode cX5_count 13 = .ok (.iload_n 1, 1) := by decide +kernel
theorem dX5_count_14 : decode cX5_count 14 = .ok (.invokevirtual 270, 3) := by decide +kernel
theorem dX5_count_17 : decode cX5_count 17 = .ok (.goto 9, 3) := by decide +kernel
theorem dX5_count_20 : decode cX5_count 20 = .ok (.aload_n 0, 1) := by decide +kernel
theorem dX5_count_21 : decode cX5_count 21 = .ok (.bipush (-2), 2) := by decide +kernel
theorem dX5_count_23 : decode cX5_count 23 = .ok (.invokevirtual 79, 3) := by decide +kernel
theorem dX5_count_26 : decode cX5_count 26 = .ok (.ireturn, 1) := by decide +kernel
theorem dX5_sums_0 : decode cX5_sums 0 = .ok (.lload_n 1, 1) := by decide +kernel
theorem dX5_sums_1 : decode cX5_sums 1 = .ok (.lstore 5, 2) := by decide +kernel
theorem dX5_sums_3 : decode cX5_sums 3 = .ok (.iconst 0, 1) := by decide +kernel
theorem dX5_sums_4 : decode cX5_sums 4 = .ok (.istore 7, 2) := by decide +kernel
theorem dX5_sums_6 : decode cX5_sums 6 = .ok (.iload 7, 2) := by decide +kernel
theorem dX5_sums_8 : decode cX5_sums 8 = .ok (.iload 4, 2) := by decide +kernel
theorem dX5_sums_10 : decode cX5_sums 10 = .ok (.if_icmp .ge 28, 3) := by decide +kernel
theorem dX5_sums_13 : decode cX5_sums 13 = .ok (.ldc2_w 273, 3) := by decide +kernel
theorem dX5_sums_16 : decode cX5_sums 16 = .ok (.lload 5, 2) := by decide +kernel
theorem dX5_sums_18 : decode cX5_sums 18 = .ok (.lmul, 1) := by decide +kernel
theorem dX5_sums_19 : decode cX5_sums 19 = .ok (.aload_n 0, 1) := by decide +kernel
theorem dX5_sums_20 : decode cX5_sums 20 = .ok (.getfield 7, 3) := by decide +kernel
theorem dX5_sums_23 : decode cX5_sums 23 = .ok (.iload_n 3, 1) := by decide +kernel
theorem dX5_sums_24 : decode cX5_sums 24 = .ok (.iload 7, 2) := by decide +kernel
theorem dX5_sums_26 : decode cX5_sums 26 = .ok (.iadd, 1) := by decide +kernel
theorem dX5_sums_27 : decode cX5_sums 27 = .ok (.iaload, 1) := by decide +kernel
theorem dX5_sums_28 : decode cX5_sums 28 = .ok (.i2l, 1) := by decide +kernel
theorem dX5_sums_29 : decode cX5_sums 29 = .ok (.ladd, 1) := by decide +kernel
theorem dX5_sums_30 : decode cX5_sums 30 = .ok (.lstore 5, 2) := by decide +kernel
theorem dX5_sums_32 : decode cX5_sums 32 = .ok (.iinc 7 1, 3) := by decide +kernel
theorem dX5_sums_35 : decode cX5_sums 35 = .ok (.goto (-29), 3) := by decide +kernel
theorem dX5_sums_38 : decode cX5_sums 38 = .ok (.lload 5, 2) := by decide +kernel
theorem dX5_sums_40 : decode cX5_sums 40 = .ok (.lreturn, 1) := by decide +kernel
set_option maxRecDepth 20000 in
theorem ggX5_digest_X5_counted : GoodIn wsX5_digest wsX5_counted := goodIn_r _ [8, 3, 9, 10, 11, 7, 12, 13, 14, 15, 16, 21, 22, 23, 24, 25, 26, 27, 28, 29, 30, 31, 32, 33, 34, 35, 36, 37, 38, 39, 40, 41, 42, 43, 44, 45, 46, 47, 48] (by decide +kernel) (by decide +kernel)
set_option maxRecDepth 20000 in
theorem gX5_digest_X5_counted : GoodIn wsX5_digest (wsV RX5 270 RX5 yX5_counted wsX5_counted) := goodIn_app (goodIn_of _ (by decide +kernel)) ggX5_digest_X5_counted
set_option maxRecDepth 20000 in
theorem ggX5_digest_X5_shops : GoodIn wsX5_digest wsX5_shops := goodIn_r _ [12, 3, 21, 22, 23, 24, 25, 26, 27, 28, 29, 30, 31, 32, 33, 34, 35, 36, 37, 38, 39, 40, 41, 42, 43, 44, 45, 46, 47, 48] (by decide +kernel) (by decide +kernel)
set_option maxRecDepth 20000 in
theorem gX5_digest_X5_shops : GoodIn wsX5_digest (wsV RX5 59 RX5 yX5_shops wsX5_shops) := goodIn_app (goodIn_of _ (by decide +kernel)) ggX5_digest_X5_shops
set_option maxRecDepth 20000 in
theorem ggX5_digest_X5_sums : GoodIn wsX5_digest wsX5_sums := goodIn_r _ [20, 2, 3, 21, 22, 23, 24, 25, 26, 27, 28, 29, 30, 31, 32, 33, 34, 35, 36, 37, 38, 39, 40, 41, 42, 43, 44, 45, 46, 47, 48] (by decide +kernel) (by decide +kernel)
set_option maxRecDepth 20000 in
theorem gX5_digest_X5_sums : GoodIn wsX5_digest (wsV RX5 277 RX5 yX5_sums wsX5_sums) := goodIn_app (goodIn_of _ (by decide +kernel)) ggX5_digest_X5_sums
set_option maxRecDepth 20000 in
theorem ggX5_digest_X5_textLong : GoodIn wsX5_digest wsX5_textLong := goodIn_r _ [16, 3, 21, 22, 23, 24, 25, 26, 27, 28, 29, 30, 31, 32, 33, 34, 35, 36, 37, 38, 39, 40, 41, 42, 43, 44, 45, 46, 47, 48] (by decide +kernel) (by decide +kernel)
set_option maxRecDepth 20000 in
theorem gX5_digest_X5_textLong : GoodIn wsX5_digest (wsV RX5 160 RX5 yX5_textLong wsX5_textLong) := goodIn_app (goodIn_of _ (by decide +kernel)) ggX5_digest_X5_textLong
theorem dX5_digest_0 : decode cX5_digest 0 = .ok (.ldc2_w 275, 3) := by decide +kernel
theorem dX5_digest_3 : decode cX5_digest 3 = .ok (.lstore_n 1, 1) := by decide +kernel
theorem dX5_digest_4 : decode cX5_digest 4 = .ok (.iconst 0, 1) := by decide +kernel
theorem dX5_digest_5 : decode cX5_digest 5 = .ok (.istore_n 3, 1) := by decide +kernel
theorem dX5_digest_6 : decode cX5_digest 6 = .ok (.iload_n 3, 1) := by decide +kernel
theorem dX5_digest_7 : decode cX5_digest 7 = .ok (.iconst 4, 1) := by decide +kernel
theorem dX5_digest_8 : decode cX5_digest 8 = .ok (.if_icmp .ge 22, 3) := by decide +kernel
theorem dX5_digest_11 : decode cX5_digest 11 = .ok (.ldc2_w 273, 3) := by decide +kernel
theorem dX5_digest_14 : decode cX5_digest 14 = .ok (.lload_n 1, 1) := by decide +kernel
theorem dX5_digest_15 : decode cX5_digest 15 = .ok (.lmul, 1) := by decide +kernel
theorem dX5_digest_16 : decode cX5_digest 16 = .ok (.aload_n 0, 1) := by decide +kernel
theorem dX5_digest_17 : decode cX5_digest 17 = .ok (.iload_n 3, 1) := by decide +kernel
theorem dX5_digest_18 : decode cX5_digest 18 = .ok (.invokevirtual 270, 3) := by decide +kernel
theorem dX5_digest_21 : decode cX5_digest 21 = .ok (.i2l, 1) := by decide +kernel
theorem dX5_digest_22 : decode cX5_digest 22 = .ok (.ladd, 1) := by decide +kernel
theorem dX5_digest_23 : decode cX5_digest 23 = .ok (.lstore_n 1, 1) := by decide +kernel
theorem dX5_digest_24 : decode cX5_digest 24 = .ok (.iinc 3 1, 3) := by decide +kernel
theorem dX5_digest_27 : decode cX5_digest 27 = .ok (.goto (-21), 3) := by decide +kernel
theorem dX5_digest_30 : decode cX5_digest 30 = .ok (.iconst 0, 1) := by decide +kernel
theorem dX5_digest_31 : decode cX5_digest 31 = .ok (.istore_n 3, 1) := by decide +kernel
theorem dX5_digest_32 : decode cX5_digest 32 = .ok (.iload_n 3, 1) := by decide +kernel
theorem dX5_digest_33 : decode cX5_digest 33 = .ok (.aload_n 0, 1) := by decide +kernel
theorem dX5_digest_34 : decode cX5_digest 34 = .ok (.invokevirtual 59, 3) := by decide +kernel
theorem dX5_digest_37 : decode cX5_digest 37 = .ok (.if_icmp .ge 36, 3) := by decide +kernel
theorem dX5_digest_40 : decode cX5_digest 40 = .ok (.ldc2_w 273, 3) := by decide +kernel
theorem dX5_digest_43 : decode cX5_digest 43 = .ok (.aload_n 0, 1) := by decide +kernel
theorem dX5_digest_44 : decode cX5_digest 44 = .ok (.lload_n 1, 1) := by decide +kernel
theorem dX5_digest_45 : decode cX5_digest 45 = .ok (.iconst 0, 1) := by decide +kernel
theorem dX5_digest_46 : decode cX5_digest 46 = .ok (.iconst 4, 1) := by decide +kernel
theorem dX5_digest_47 : decode cX5_digest 47 = .ok (.iload_n 3, 1) := by decide +kernel
theorem dX5_digest_48 : decode cX5_digest 48 = .ok (.imul, 1) := by decide +kernel
theorem dX5_digest_49 : decode cX5_digest 49 = .ok (.iadd, 1) := by decide +kernel
theorem dX5_digest_50 : decode cX5_digest 50 = .ok (.iconst 4, 1) := by decide +kernel
theorem dX5_digest_51 : decode cX5_digest 51 = .ok (.invokevirtual 277, 3) := by decide +kernel
theorem dX5_digest_54 : decode cX5_digest 54 = .ok (.lmul, 1) := by decide +kernel
theorem dX5_digest_55 : decode cX5_digest 55 = .ok (.aload_n 0, 1) := by decide +kernel
theorem dX5_digest_56 : decode cX5_digest 56 = .ok (.getfield 7, 3) := by decide +kernel
theorem dX5_digest_59 : decode cX5_digest 59 = .ok (.bipush 24, 2) := by decide +kernel
theorem dX5_digest_61 : decode cX5_digest 61 = .ok (.iload_n 3, 1) := by decide +kernel
theorem dX5_digest_62 : decode cX5_digest 62 = .ok (.iadd, 1) := by decide +kernel
theorem dX5_digest_63 : decode cX5_digest 63 = .ok (.iaload, 1) := by decide +kernel
theorem dX5_digest_64 : decode cX5_digest 64 = .ok (.i2l, 1) := by decide +kernel
theorem dX5_digest_65 : decode cX5_digest 65 = .ok (.ladd, 1) := by decide +kernel
theorem dX5_digest_66 : decode cX5_digest 66 = .ok (.lstore_n 1, 1) := by decide +kernel
theorem dX5_digest_67 : decode cX5_digest 67 = .ok (.iinc 3 1, 3) := by decide +kernel
theorem dX5_digest_70 : decode cX5_digest 70 = .ok (.goto (-38), 3) := by decide +kernel
theorem dX5_digest_73 : decode cX5_digest 73 = .ok (.aload_n 0, 1) := by decide +kernel
theorem dX5_digest_74 : decode cX5_digest 74 = .ok (.lload_n 1, 1) := by decide +kernel
theorem dX5_digest_75 : decode cX5_digest 75 = .ok (.bipush 30, 2) := by decide +kernel
theorem dX5_digest_77 : decode cX5_digest 77 = .ok (.iconst 3, 1) := by decide +kernel
theorem dX5_digest_78 : decode cX5_digest 78 = .ok (.invokevirtual 277, 3) := by decide +kernel
theorem dX5_digest_81 : decode cX5_digest 81 = .ok (.lstore_n 1, 1) := by decide +kernel
theorem dX5_digest_82 : decode cX5_digest 82 = .ok (.aload_n 0, 1) := by decide +kernel
theorem dX5_digest_83 : decode cX5_digest 83 = .ok (.lload_n 1, 1) := by decide +kernel
theorem dX5_digest_84 : decode cX5_digest 84 = .ok (.bipush 34, 2) := by decide +kernel
theorem dX5_digest_86 : decode cX5_digest 86 = .ok (.aload_n 0, 1) := by decide +kernel
theorem dX5_digest_87 : decode cX5_digest 87 = .ok (.getfield 7, 3) := by decide +kernel
theorem dX5_digest_90 : decode cX5_digest 90 = .ok (.bipush 33, 2) := by decide +kernel
theorem dX5_digest_92 : decode cX5_digest 92 = .ok (.iaload, 1) := by decide +kernel
theorem dX5_digest_93 : decode cX5_digest 93 = .ok (.invokevirtual 277, 3) := by decide +kernel
theorem dX5_digest_96 : decode cX5_digest 96 = .ok (.lstore_n 1, 1) := by decide +kernel
theorem dX5_digest_97 : decode cX5_digest 97 = .ok (.aload_n 0, 1) := by decide +kernel
theorem dX5_digest_98 : decode cX5_digest 98 = .ok (.lload_n 1, 1) := by decide +kernel
theorem dX5_digest_99 : decode cX5_digest 99 = .ok (.bipush 47, 2) := by decide +kernel
theorem dX5_digest_101 : decode cX5_digest 101 = .ok (.aload_n 0, 1) := by decide +kernel
theorem dX5_digest_102 : decode cX5_digest 102 = .ok (.invokevirtual 160, 3) := by decide +kernel
theorem dX5_digest_105 : decode cX5_digest 105 = .ok (.invokevirtual 277, 3) := by decide +kernel
theorem dX5_digest_108 : decode cX5_digest 108 = .ok (.lstore_n 1, 1) := by decide +kernel
theorem dX5_digest_109 : decode cX5_digest 109 = .ok (.aload_n 0, 1) := by decide +kernel
theorem dX5_digest_110 : decode cX5_digest 110 = .ok (.lload_n 1, 1) := by decide +kernel
theorem dX5_digest_111 : decode cX5_digest 111 = .ok (.sipush 247, 3) := by decide +kernel
theorem dX5_digest_114 : decode cX5_digest 114 = .ok (.iconst 2, 1) := by decide +kernel
theorem dX5_digest_115 : decode cX5_digest 115 = .ok (.aload_n 0, 1) := by decide +kernel
theorem dX5_digest_116 : decode cX5_digest 116 = .ok (.getfield 7, 3) := by decide +kernel
theorem dX5_digest_119 : decode cX5_digest 119 = .ok (.sipush 260, 3) := by decide +kernel
theorem dX5_digest_122 : decode cX5_digest 122 = .ok (.iaload, 1) := by decide +kernel
theorem dX5_digest_123 : decode cX5_digest 123 = .ok (.imul, 1) := by decide +kernel
theorem dX5_digest_124 : decode cX5_digest 124 = .ok (.invokevirtual 277, 3) := by decide +kernel
theorem dX5_digest_127 : decode cX5_digest 127 = .ok (.lreturn, 1) := by decide +kernel
theorem dJ6_bitCount_0f7a4_0 : decode cJ6_bitCount_0f7a4 0 = .ok (.iload_n 0, 1) := by decide +kernel
theorem dJ6_bitCount_0f7a4_1 : decode cJ6_bitCount_0f7a4 1 = .ok (.iload_n 0, 1) := by decide +kernel
theorem dJ6_bitCount_0f7a4_2 : decode cJ6_bitCount_0f7a4 2 = .ok (.iconst 1, 1) := by decide +kernel
theorem dJ6_bitCount_0f7a4_3 : decode cJ6_bitCount_0f7a4 3 = .ok (.iushr, 1) := by decide +kernel
theorem dJ6_bitCount_0f7a4_4 : decode cJ6_bitCount_0f7a4 4 = .ok (.ldc_w 265, 3) := by decide +kernel
theorem dJ6_bitCount_0f7a4_7 : decode cJ6_bitCount_0f7a4 7 = .ok (.iand, 1) := by decide +kernel
theorem dJ6_bitCount_0f7a4_8 : decode cJ6_bitCount_0f7a4 8 = .ok (.isub, 1) := by decide +kernel
theorem dJ6_bitCount_0f7a4_9 : decode cJ6_bitCount_0f7a4 9 = .ok (.istore_n 0, 1) := by decide +kernel
theorem dJ6_bitCount_0f7a4_10 : decode cJ6_bitCount_0f7a4 10 = .ok (.iload_n 0, 1) := by decide +kernel
theorem dJ6_bitCount_0f7a4_11 : decode cJ6_bitCount_0f7a4 11 = .ok (.ldc_w 266, 3) := by decide +kernel
theorem dJ6_bitCount_0f7a4_14 : decode cJ6_bitCount_0f7a4 14 = .ok (.iand, 1) := by decide +kernel
theorem dJ6_bitCount_0f7a4_15 : decode cJ6_bitCount_0f7a4 15 = .ok (.iload_n 0, 1) := by decide +kernel
theorem dJ6_bitCount_0f7a4_16 : decode cJ6_bitCount_0f7a4 16 = .ok (.iconst 2, 1) := by decide +kernel
theorem dJ6_bitCount_0f7a4_17 : decode cJ6_bitCount_0f7a4 17 = .ok (.iushr, 1) := by decide +kernel
theorem dJ6_bitCount_0f7a4_18 : decode cJ6_bitCount_0f7a4 18 = .ok (.ldc_w 266, 3) := by decide +kernel
theorem dJ6_bitCount_0f7a4_21 : decode cJ6_bitCount_0f7a4 21 = .ok (.iand, 1) := by decide +kernel
theorem dJ6_bitCount_0f7a4_22 : decode cJ6_bitCount_0f7a4 22 = .ok (.iadd, 1) := by decide +kernel
theorem dJ6_bitCount_0f7a4_23 : decode cJ6_bitCount_0f7a4 23 = .ok (.istore_n 0, 1) := by decide +kernel
theorem dJ6_bitCount_0f7a4_24 : decode cJ6_bitCount_0f7a4 24 = .ok (.iload_n 0, 1) := by decide +kernel
theorem dJ6_bitCount_0f7a4_25 : decode cJ6_bitCount_0f7a4 25 = .ok (.iload_n 0, 1) := by decide +kernel
theorem dJ6_bitCount_0f7a4_26 : decode cJ6_bitCount_0f7a4 26 = .ok (.iconst 4, 1) := by decide +kernel
theorem dJ6_bitCount_0f7a4_27 : decode cJ6_bitCount_0f7a4 27 = .ok (.iushr, 1) := by decide +kernel
theorem dJ6_bitCount_0f7a4_28 : decode cJ6_bitCount_0f7a4 28 = .ok (.iadd, 1) := by decide +kernel
theorem dJ6_bitCount_0f7a4_29 : decode cJ6_bitCount_0f7a4 29 = .ok (.ldc_w 267, 3) := by decide +kernel
theorem dJ6_bitCount_0f7a4_32 : decode cJ6_bitCount_0f7a4 32 = .ok (.iand, 1) := by decide +kernel
theorem dJ6_bitCount_0f7a4_33 : decode cJ6_bitCount_0f7a4 33 = .ok (.istore_n 0, 1) := by decide +kernel
theorem dJ6_bitCount_0f7a4_34 : decode cJ6_bitCount_0f7a4 34 = .ok (.iload_n 0, 1) := by decide +kernel
theorem dJ6_bitCount_0f7a4_35 : decode cJ6_bitCount_0f7a4 35 = .ok (.iload_n 0, 1) := by decide +kernel
theorem dJ6_bitCount_0f7a4_36 : decode cJ6_bitCount_0f7a4 36 = .ok (.bipush 8, 2) := by decide +kernel
theorem dJ6_bitCount_0f7a4_38 : decode cJ6_bitCount_0f7a4 38 = .ok (.iushr, 1) := by decide +kernel
theorem dJ6_bitCount_0f7a4_39 : decode cJ6_bitCount_0f7a4 39 = .ok (.iadd, 1) := by decide +kernel
theorem dJ6_bitCount_0f7a4_40 : decode cJ6_bitCount_0f7a4 40 = .ok (.istore_n 0, 1) := by decide +kernel
theorem dJ6_bitCount_0f7a4_41 : decode cJ6_bitCount_0f7a4 41 = .ok (.iload_n 0, 1) := by decide +kernel
theorem dJ6_bitCount_0f7a4_42 : decode cJ6_bitCount_0f7a4 42 = .ok (.iload_n 0, 1) := by decide +kernel
theorem dJ6_bitCount_0f7a4_43 : decode cJ6_bitCount_0f7a4 43 = .ok (.bipush 16, 2) := by decide +kernel
theorem dJ6_bitCount_0f7a4_45 : decode cJ6_bitCount_0f7a4 45 = .ok (.iushr, 1) := by decide +kernel
theorem dJ6_bitCount_0f7a4_46 : decode cJ6_bitCount_0f7a4 46 = .ok (.iadd, 1) := by decide +kernel
theorem dJ6_bitCount_0f7a4_47 : decode cJ6_bitCount_0f7a4 47 = .ok (.istore_n 0, 1) := by decide +kernel
theorem dJ6_bitCount_0f7a4_48 : decode cJ6_bitCount_0f7a4 48 = .ok (.iload_n 0, 1) := by decide +kernel
theorem dJ6_bitCount_0f7a4_49 : decode cJ6_bitCount_0f7a4 49 = .ok (.bipush 63, 2) := by decide +kernel
theorem dJ6_bitCount_0f7a4_51 : decode cJ6_bitCount_0f7a4 51 = .ok (.iand, 1) := by decide +kernel
theorem dJ6_bitCount_0f7a4_52 : decode cJ6_bitCount_0f7a4 52 = .ok (.ireturn, 1) := by decide +kernel
theorem dJ9_min_7cf53_0 : decode cJ9_min_7cf53 0 = .ok (.iload_n 0, 1) := by decide +kernel
theorem dJ9_min_7cf53_1 : decode cJ9_min_7cf53 1 = .ok (.iload_n 1, 1) := by decide +kernel
theorem dJ9_min_7cf53_2 : decode cJ9_min_7cf53 2 = .ok (.if_icmp .gt 7, 3) := by decide +kernel
theorem dJ9_min_7cf53_5 : decode cJ9_min_7cf53 5 = .ok (.iload_n 0, 1) := by decide +kernel
theorem dJ9_min_7cf53_6 : decode cJ9_min_7cf53 6 = .ok (.goto 4, 3) := by decide +kernel
theorem dJ9_min_7cf53_9 : decode cJ9_min_7cf53 9 = .ok (.iload_n 1, 1) := by decide +kernel
theorem dJ9_min_7cf53_10 : decode cJ9_min_7cf53 10 = .ok (.ireturn, 1) := by decide +kernel
set_option maxRecDepth 20000 in
theorem ggJ0_length_8abf5_J0_coder_7d493 : GoodIn wsJ0_length_8abf5 wsJ0_coder_7d493 := goodIn_r _ [6, 7, 8] (by decide +kernel) (by decide +kernel)
set_option maxRecDepth 20000 in
theorem gJ0_length_8abf5_J0_coder_7d493 : GoodIn wsJ0_length_8abf5 (wsV RJ0 335 RJ0 yJ0_coder_7d493 wsJ0_coder_7d493) := goodIn_app (goodIn_of _ (by decide +kernel)) ggJ0_length_8abf5_J0_coder_7d493
theorem dJ0_length_8abf5_0 : decode cJ0_length_8abf5 0 = .ok (.aload_n 0, 1) := by decide +kernel
theorem dJ0_length_8abf5_1 : decode cJ0_length_8abf5 1 = .ok (.getfield 9, 3) := by decide +kernel
theorem dJ0_length_8abf5_4 : decode cJ0_length_8abf5 4 = .ok (.arraylength, 1) := by decide +kernel
theorem dJ0_length_8abf5_5 : decode cJ0_length_8abf5 5 = .ok (.aload_n 0, 1) := by decide +kernel
theorem dJ0_length_8abf5_6 : decode cJ0_length_8abf5 6 = .ok (.invokevirtual 335, 3) := by decide +kernel
theorem dJ0_length_8abf5_9 : decode cJ0_length_8abf5 9 = .ok (.ishr, 1) := by decide +kernel
theorem dJ0_length_8abf5_10 : decode cJ0_length_8abf5 10 = .ok (.ireturn, 1) := by decide +kernel
set_option maxRecDepth 20000 in
theorem ggJ0_charAt_5068e_J0_isLatin1_aae02 : GoodIn wsJ0_charAt_5068e wsJ0_isLatin1_aae02 := goodIn_r _ [6, 7, 8] (by decide +kernel) (by decide +kernel)
set_option maxRecDepth 20000 in
theorem gJ0_charAt_5068e_J0_isLatin1_aae02 : GoodIn wsJ0_charAt_5068e (wsV RJ0 492 RJ0 yJ0_isLatin1_aae02 wsJ0_isLatin1_aae02) := goodIn_app (goodIn_of _ (by decide +kernel)) ggJ0_charAt_5068e_J0_isLatin1_aae02
set_option maxRecDepth 20000 in
theorem ggJ0_charAt_5068e_J1_charAt_3b067 : GoodIn wsJ0_charAt_5068e wsJ1_charAt_3b067 := goodIn_r _ [12, 13, 14, 5, 15, 16, 17, 18, 19, 20] (by decide +kernel) (by decide +kernel)
set_option maxRecDepth 20000 in
theorem gJ0_charAt_5068e_J1_charAt_3b067 : GoodIn wsJ0_charAt_5068e (va_wsS RJ0 495 yJ1_charAt_3b067 wsJ1_charAt_3b067) := goodIn_app (goodIn_of _ (by decide +kernel)) ggJ0_charAt_5068e_J1_charAt_3b067
set_option maxRecDepth 20000 in
theorem ggJ0_charAt_5068e_J2_charAt_3b067 : GoodIn wsJ0_charAt_5068e wsJ2_charAt_3b067 := goodIn_r _ [24, 25, 26, 23, 27, 28, 29, 30, 31, 14, 5, 15, 16, 17, 18, 19, 20, 32, 33, 34, 35, 36, 37] (by decide +kernel) (by decide +kernel)
set_option maxRecDepth 20000 in
theorem gJ0_charAt_5068e_J2_charAt_3b067 : GoodIn wsJ0_charAt_5068e (va_wsS RJ0 498 yJ2_charAt_3b067 wsJ2_charAt_3b067) := goodIn_app (goodIn_of _ (by decide +kernel)) ggJ0_charAt_5068e_J2_charAt_3b067
theorem dJ0_charAt_5068e_0 : decode cJ0_charAt_5068e 0 = .ok (.aload_n 0, 1) := by decide +kernel
theorem dJ0_charAt_5068e_1 : decode cJ0_charAt_5068e 1 = .ok (.invokevirtual 492, 3) := by decide +kernel
theorem dJ0_charAt_5068e_4 : decode cJ0_charAt_5068e 4 = .ok (.ifCond .eq 12, 3) := by decide +kernel
theorem dJ0_charAt_5068e_7 : decode cJ0_charAt_5068e 7 = .ok (.aload_n 0, 1) := by decide +kernel
theorem dJ0_charAt_5068e_8 : decode cJ0_charAt_5068e 8 = .ok (.getfield 9, 3) := by decide +kernel
theorem dJ0_charAt_5068e_11 : decode cJ0_charAt_5068e 11 = .ok (.iload_n 1, 1) := by decide +kernel
theorem dJ0_charAt_5068e_12 : decode cJ0_charAt_5068e 12 = .ok (.invokestatic 495, 3) := by decide +kernel
theorem dJ0_charAt_5068e_15 : decode cJ0_charAt_5068e 15 = .ok (.ireturn, 1) := by decide +kernel
theorem dJ0_charAt_5068e_16 : decode cJ0_charAt_5068e 16 = .ok (.aload_n 0, 1) := by decide +kernel
theorem dJ0_charAt_5068e_17 : decode cJ0_charAt_5068e 17 = .ok (.getfield 9, 3) := by decide +kernel
theorem dJ0_charAt_5068e_20 : decode cJ0_charAt_5068e 20 = .ok (.iload_n 1, 1) := by decide +kernel
theorem dJ0_charAt_5068e_21 : decode cJ0_charAt_5068e 21 = .ok (.invokestatic 498, 3) := by decide +kernel
theorem dJ0_charAt_5068e_24 : decode cJ0_charAt_5068e 24 = .ok (.ireturn, 1) := by decide +kernel
theorem dJ0_coder_7d493_0 : decode cJ0_coder_7d493 0 = .ok (.getstatic 38, 3) := by decide +kernel
theorem dJ0_coder_7d493_3 : decode cJ0_coder_7d493 3 = .ok (.ifCond .eq 10, 3) := by decide +kernel
theorem dJ0_coder_7d493_6 : decode cJ0_coder_7d493 6 = .ok (.aload_n 0, 1) := by decide +kernel
theorem dJ0_coder_7d493_7 : decode cJ0_coder_7d493 7 = .ok (.getfield 15, 3) := by decide +kernel
theorem dJ0_coder_7d493_10 : decode cJ0_coder_7d493 10 = .ok (.goto 4, 3) := by decide +kernel
theorem dJ0_coder_7d493_13 : decode cJ0_coder_7d493 13 = .ok (.iconst 1, 1) := by decide +kernel
theorem dJ0_coder_7d493_14 : decode cJ0_coder_7d493 14 = .ok (.ireturn, 1) := by decide +kernel
theorem dJ0_isLatin1_aae02_0 : decode cJ0_isLatin1_aae02 0 = .ok (.getstatic 38, 3) := by decide +kernel
theorem dJ0_isLatin1_aae02_3 : decode cJ0_isLatin1_aae02 3 = .ok (.ifCond .eq 14, 3) := by decide +kernel
theorem dJ0_isLatin1_aae02_6 : decode cJ0_isLatin1_aae02 6 = .ok (.aload_n 0, 1) := by decide +kernel
theorem dJ0_isLatin1_aae02_7 : decode cJ0_isLatin1_aae02 7 = .ok (.getfield 15, 3) := by decide +kernel
theorem dJ0_isLatin1_aae02_10 : decode cJ0_isLatin1_aae02 10 = .ok (.ifCond .ne 7, 3) := by decide +kernel
theorem dJ0_isLatin1_aae02_13 : decode cJ0_isLatin1_aae02 13 = .ok (.iconst 1, 1) := by decide +kernel
theorem dJ0_isLatin1_aae02_14 : decode cJ0_isLatin1_aae02 14 = .ok (.goto 4, 3) := by decide +kernel
theorem dJ0_isLatin1_aae02_17 : decode cJ0_isLatin1_aae02 17 = .ok (.iconst 0, 1) := by decide +kernel
theorem dJ0_isLatin1_aae02_18 : decode cJ0_isLatin1_aae02 18 = .ok (.ireturn, 1) := by decide +kernel
set_option maxRecDepth 20000 in
theorem ggJ0_checkIndex_df160_J3_checkIndex_8e157 : GoodIn wsJ0_checkIndex_df160 wsJ3_checkIndex_8e157 := goodIn_r _ [5] (by decide +kernel) (by decide +kernel)
set_option maxRecDepth 20000 in
theorem gJ0_checkIndex_df160_J3_checkIndex_8e157 : GoodIn wsJ0_checkIndex_df160 (va_wsS RJ0 1059 yJ3_checkIndex_8e157 wsJ3_checkIndex_8e157) := goodIn_app (goodIn_of _ (by decide +kernel)) ggJ0_checkIndex_df160_J3_checkIndex_8e157
theorem dJ0_checkIndex_df160_0 : decode cJ0_checkIndex_df160 0 = .ok (.iload_n 0, 1) := by decide +kernel
theorem dJ0_checkIndex_df160_1 : decode cJ0_checkIndex_df160 1 = .ok (.iload_n 1, 1) := by decide +kernel
theorem dJ0_checkIndex_df160_2 : decode cJ0_checkIndex_df160 2 = .ok (.getstatic 1053, 3) := by decide +kernel
theorem dJ0_checkIndex_df160_5 : decode cJ0_checkIndex_df160 5 = .ok (.invokestatic 1059, 3) := by decide +kernel
theorem dJ0_checkIndex_df160_8 : decode cJ0_checkIndex_df160 8 = .ok (.pop, 1) := by decide +kernel
theorem dJ0_checkIndex_df160_9 : decode cJ0_checkIndex_df160 9 = .ok (.return_, 1) := by decide +kernel
set_option maxRecDepth 20000 in
theorem ggJ1_charAt_3b067_J0_checkIndex_df160 : GoodIn wsJ1_charAt_3b067 wsJ0_checkIndex_df160 := goodIn_r _ [4, 5, 6, 7, 8, 9] (by decide +kernel) (by decide +kernel)
set_option maxRecDepth 20000 in
theorem gJ1_charAt_3b067_J0_checkIndex_df160 : GoodIn wsJ1_charAt_3b067 (va_wsS RJ1 9 yJ0_checkIndex_df160 wsJ0_checkIndex_df160) := goodIn_app (goodIn_of _ (by decide +kernel)) ggJ1_charAt_3b067_J0_checkIndex_df160
theorem dJ1_charAt_3b067_0 : decode cJ1_charAt_3b067 0 = .ok (.iload_n 1, 1) := by decide +kernel
theorem dJ1_charAt_3b067_1 : decode cJ1_charAt_3b067 1 = .ok (.aload_n 0, 1) := by decide +kernel
theorem dJ1_charAt_3b067_2 : decode cJ1_charAt_3b067 2 = .ok (.arraylength, 1) := by decide +kernel
theorem dJ1_charAt_3b067_3 : decode cJ1_charAt_3b067 3 = .ok (.invokestatic 9, 3) := by decide +kernel
theorem dJ1_charAt_3b067_6 : decode cJ1_charAt_3b067 6 = .ok (.aload_n 0, 1) := by decide +kernel
theorem dJ1_charAt_3b067_7 : decode cJ1_charAt_3b067 7 = .ok (.iload_n 1, 1) := by decide +kernel
theorem dJ1_charAt_3b067_8 : decode cJ1_charAt_3b067 8 = .ok (.baload, 1) := by decide +kernel
theorem dJ1_charAt_3b067_9 : decode cJ1_charAt_3b067 9 = .ok (.sipush 255, 3) := by decide +kernel
theorem dJ1_charAt_3b067_12 : decode cJ1_charAt_3b067 12 = .ok (.iand, 1) := by decide +kernel
theorem dJ1_charAt_3b067_13 : decode cJ1_charAt_3b067 13 = .ok (.i2c, 1) := by decide +kernel
theorem dJ1_charAt_3b067_14 : decode cJ1_charAt_3b067 14 = .ok (.ireturn, 1) := by decide +kernel
set_option maxRecDepth 20000 in
theorem ggJ2_getChar_3b067_J2_length_9d52b : GoodIn wsJ2_getChar_3b067 wsJ2_length_9d52b := goodIn_r _ [7] (by decide +kernel) (by decide +kernel)
set_option maxRecDepth 20000 in
theorem gJ2_getChar_3b067_J2_length_9d52b : GoodIn wsJ2_getChar_3b067 (va_wsS RJ2 48 yJ2_length_9d52b wsJ2_length_9d52b) := goodIn_app (goodIn_of _ (by decide +kernel)) ggJ2_getChar_3b067_J2_length_9d52b
theorem dJ2_getChar_3b067_0 : decode cJ2_getChar_3b067 0 = .ok (.getstatic 44, 3) := by decide +kernel
theorem dJ2_getChar_3b067_3 : decode cJ2_getChar_3b067 3 = .ok (.ifCond .ne 25, 3) := by decide +kernel
theorem dJ2_getChar_3b067_6 : decode cJ2_getChar_3b067 6 = .ok (.iload_n 1, 1) := by decide +kernel
theorem dJ2_getChar_3b067_7 : decode cJ2_getChar_3b067 7 = .ok (.ifCond .lt 11, 3) := by decide +kernel
theorem dJ2_getChar_3b067_10 : decode cJ2_getChar_3b067 10 = .ok (.iload_n 1, 1) := by decide +kernel
theorem dJ2_getChar_3b067_11 : decode cJ2_getChar_3b067 11 = .ok (.aload_n 0, 1) := by decide +kernel
theorem dJ2_getChar_3b067_12 : decode cJ2_getChar_3b067 12 = .ok (.invokestatic 48, 3) := by decide +kernel
theorem dJ2_getChar_3b067_15 : decode cJ2_getChar_3b067 15 = .ok (.if_icmp .lt 13, 3) := by decide +kernel
theorem dJ2_getChar_3b067_18 : decode cJ2_getChar_3b067 18 = .ok (.new 52, 3) := by decide +kernel
theorem dJ2_getChar_3b067_21 : decode cJ2_getChar_3b067 21 = .ok (.dup, 1) := by decide +kernel
theorem dJ2_getChar_3b067_22 : decode cJ2_getChar_3b067 22 = .ok (.ldc 54, 2) := by decide +kernel
theorem dJ2_getChar_3b067_24 : decode cJ2_getChar_3b067 24 = .ok (.invokespecial 56, 3) := by decide +kernel
theorem dJ2_getChar_3b067_27 : decode cJ2_getChar_3b067 27 = .ok (.athrow, 1) := by decide +kernel
theorem dJ2_getChar_3b067_28 : decode cJ2_getChar_3b067 28 = .ok (.iload_n 1, 1) := by decide +kernel
theorem dJ2_getChar_3b067_29 : decode cJ2_getChar_3b067 29 = .ok (.iconst 1, 1) := by decide +kernel
theorem dJ2_getChar_3b067_30 : decode cJ2_getChar_3b067 30 = .ok (.ishl, 1) := by decide +kernel
theorem dJ2_getChar_3b067_31 : decode cJ2_getChar_3b067 31 = .ok (.istore_n 1, 1) := by decide +kernel
theorem dJ2_getChar_3b067_32 : decode cJ2_getChar_3b067 32 = .ok (.aload_n 0, 1) := by decide +kernel
theorem dJ2_getChar_3b067_33 : decode cJ2_getChar_3b067 33 = .ok (.iload_n 1, 1) := by decide +kernel
theorem dJ2_getChar_3b067_34 : decode cJ2_getChar_3b067 34 = .ok (.iinc 1 1, 3) := by decide +kernel
theorem dJ2_getChar_3b067_37 : decode cJ2_getChar_3b067 37 = .ok (.baload, 1) := by decide +kernel
theorem dJ2_getChar_3b067_38 : decode cJ2_getChar_3b067 38 = .ok (.sipush 255, 3) := by decide +kernel
theorem dJ2_getChar_3b067_41 : decode cJ2_getChar_3b067 41 = .ok (.iand, 1) := by decide +kernel
theorem dJ2_getChar_3b067_42 : decode cJ2_getChar_3b067 42 = .ok (.getstatic 59, 3) := by decide +kernel
theorem dJ2_getChar_3b067_45 : decode cJ2_getChar_3b067 45 = .ok (.ishl, 1) := by decide +kernel
theorem dJ2_getChar_3b067_46 : decode cJ2_getChar_3b067 46 = .ok (.aload_n 0, 1) := by decide +kernel
theorem dJ2_getChar_3b067_47 : decode cJ2_getChar_3b067 47 = .ok (.iload_n 1, 1) := by decide +kernel
theorem dJ2_getChar_3b067_48 : decode cJ2_getChar_3b067 48 = .ok (.baload, 1) := by decide +kernel
theorem dJ2_getChar_3b067_49 : decode cJ2_getChar_3b067 49 = .ok (.sipush 255, 3) := by decide +kernel
theorem dJ2_getChar_3b067_52 : decode cJ2_getChar_3b067 52 = .ok (.iand, 1) := by decide +kernel
theorem dJ2_getChar_3b067_53 : decode cJ2_getChar_3b067 53 = .ok (.getstatic 63, 3) := by decide +kernel
theorem dJ2_getChar_3b067_56 : decode cJ2_getChar_3b067 56 = .ok (.ishl, 1) := by decide +kernel
theorem dJ2_getChar_3b067_57 : decode cJ2_getChar_3b067 57 = .ok (.ior, 1) := by decide +kernel
theorem dJ2_getChar_3b067_58 : decode cJ2_getChar_3b067 58 = .ok (.i2c, 1) := by decide +kernel
theorem dJ2_getChar_3b067_59 : decode cJ2_getChar_3b067 59 = .ok (.ireturn, 1) := by decide +kernel
theorem dJ2_length_9d52b_0 : decode cJ2_length_9d52b 0 = .ok (.aload_n 0, 1) := by decide +kernel
theorem dJ2_length_9d52b_1 : decode cJ2_length_9d52b 1 = .ok (.arraylength, 1) := by decide +kernel
theorem dJ2_length_9d52b_2 : decode cJ2_length_9d52b 2 = .ok (.iconst 1, 1) := by decide +kernel
theorem dJ2_length_9d52b_3 : decode cJ2_length_9d52b 3 = .ok (.ishr, 1) := by decide +kernel
theorem dJ2_length_9d52b_4 : decode cJ2_length_9d52b 4 = .ok (.ireturn, 1) := by decide +kernel
set_option maxRecDepth 20000 in
theorem ggJ2_charAt_3b067_J2_checkIndex_2214a : GoodIn wsJ2_charAt_3b067 wsJ2_checkIndex_2214a := goodIn_r _ [4, 5, 6, 3, 7, 8, 9, 10, 11, 12, 13, 14, 15, 16] (by decide +kernel) (by decide +kernel)
set_option maxRecDepth 20000 in
theorem gJ2_charAt_3b067_J2_checkIndex_2214a : GoodIn wsJ2_charAt_3b067 (va_wsS RJ2 67 yJ2_checkIndex_2214a wsJ2_checkIndex_2214a) := goodIn_app (goodIn_of _ (by decide +kernel)) ggJ2_charAt_3b067_J2_checkIndex_2214a
set_option maxRecDepth 20000 in
theorem ggJ2_charAt_3b067_J2_getChar_3b067 : GoodIn wsJ2_charAt_3b067 wsJ2_getChar_3b067 := goodIn_r _ [19, 20, 21, 22, 5, 6, 3, 7] (by decide +kernel) (by decide +kernel)
set_option maxRecDepth 20000 in
theorem gJ2_charAt_3b067_J2_getChar_3b067 : GoodIn wsJ2_charAt_3b067 (va_wsS RJ2 71 yJ2_getChar_3b067 wsJ2_getChar_3b067) := goodIn_app (goodIn_of _ (by decide +kernel)) ggJ2_charAt_3b067_J2_getChar_3b067
theorem dJ2_charAt_3b067_0 : decode cJ2_charAt_3b067 0 = .ok (.iload_n 1, 1) := by decide +kernel
theorem dJ2_charAt_3b067_1 : decode cJ2_charAt_3b067 1 = .ok (.aload_n 0, 1) := by decide +kernel
theorem dJ2_charAt_3b067_2 : decode cJ2_charAt_3b067 2 = .ok (.invokestatic 67, 3) := by decide +kernel
theorem dJ2_charAt_3b067_5 : decode cJ2_charAt_3b067 5 = .ok (.aload_n 0, 1) := by decide +kernel
theorem dJ2_charAt_3b067_6 : decode cJ2_charAt_3b067 6 = .ok (.iload_n 1, 1) := by decide +kernel
theorem dJ2_charAt_3b067_7 : decode cJ2_charAt_3b067 7 = .ok (.invokestatic 71, 3) := by decide +kernel
theorem dJ2_charAt_3b067_10 : decode cJ2_charAt_3b067 10 = .ok (.ireturn, 1) := by decide +kernel
set_option maxRecDepth 20000 in
theorem ggJ2_checkIndex_2214a_J2_length_9d52b : GoodIn wsJ2_checkIndex_2214a wsJ2_length_9d52b := goodIn_r _ [4] (by decide +kernel) (by decide +kernel)
set_option maxRecDepth 20000 in
theorem gJ2_checkIndex_2214a_J2_length_9d52b : GoodIn wsJ2_checkIndex_2214a (va_wsS RJ2 48 yJ2_length_9d52b wsJ2_length_9d52b) := goodIn_app (goodIn_of _ (by decide +kernel)) ggJ2_checkIndex_2214a_J2_length_9d52b
set_option maxRecDepth 20000 in
theorem ggJ2_checkIndex_2214a_J0_checkIndex_df160 : GoodIn wsJ2_checkIndex_2214a wsJ0_checkIndex_df160 := goodIn_r _ [8, 9, 10, 11, 12, 13] (by decide +kernel) (by decide +kernel)
set_option maxRecDepth 20000 in
theorem gJ2_checkIndex_2214a_J0_checkIndex_df160 : GoodIn wsJ2_checkIndex_2214a (va_wsS RJ2 414 yJ0_checkIndex_df160 wsJ0_checkIndex_df160) := goodIn_app (goodIn_of _ (by decide +kernel)) ggJ2_checkIndex_2214a_J0_checkIndex_df160
theorem dJ2_checkIndex_2214a_0 : decode cJ2_checkIndex_2214a 0 = .ok (.iload_n 0, 1) := by decide +kernel
theorem dJ2_checkIndex_2214a_1 : decode cJ2_checkIndex_2214a 1 = .ok (.aload_n 1, 1) := by decide +kernel
theorem dJ2_checkIndex_2214a_2 : decode cJ2_checkIndex_2214a 2 = .ok (.invokestatic 48, 3) := by decide +kernel
theorem dJ2_checkIndex_2214a_5 : decode cJ2_checkIndex_2214a 5 = .ok (.invokestatic 414, 3) := by decide +kernel
theorem dJ2_checkIndex_2214a_8 : decode cJ2_checkIndex_2214a 8 = .ok (.return_, 1) := by decide +kernel
theorem dJ3_checkIndex_8e157_0 : decode cJ3_checkIndex_8e157 0 = .ok (.iload_n 0, 1) := by decide +kernel
theorem dJ3_checkIndex_8e157_1 : decode cJ3_checkIndex_8e157 1 = .ok (.ifCond .lt 8, 3) := by decide +kernel
theorem dJ3_checkIndex_8e157_4 : decode cJ3_checkIndex_8e157 4 = .ok (.iload_n 0, 1) := by decide +kernel
theorem dJ3_checkIndex_8e157_5 : decode cJ3_checkIndex_8e157 5 = .ok (.iload_n 1, 1) := by decide +kernel
theorem dJ3_checkIndex_8e157_6 : decode cJ3_checkIndex_8e157 6 = .ok (.if_icmp .lt 10, 3) := by decide +kernel
theorem dJ3_checkIndex_8e157_9 : decode cJ3_checkIndex_8e157 9 = .ok (.aload_n 2, 1) := by decide +kernel
theorem dJ3_checkIndex_8e157_10 : decode cJ3_checkIndex_8e157 10 = .ok (.iload_n 0, 1) := by decide +kernel
theorem dJ3_checkIndex_8e157_11 : decode cJ3_checkIndex_8e157 11 = .ok (.iload_n 1, 1) := by decide +kernel
theorem dJ3_checkIndex_8e157_12 : decode cJ3_checkIndex_8e157 12 = .ok (.invokestatic 95, 3) := by decide +kernel
theorem dJ3_checkIndex_8e157_15 : decode cJ3_checkIndex_8e157 15 = .ok (.athrow, 1) := by decide +kernel
theorem dJ3_checkIndex_8e157_16 : decode cJ3_checkIndex_8e157 16 = .ok (.iload_n 0, 1) := by decide +kernel
theorem dJ3_checkIndex_8e157_17 : decode cJ3_checkIndex_8e157 17 = .ok (.ireturn, 1) := by decide +kernel
abbrev vwCl : List vw_C := [(RX0, TX0, 9), (RX1, TX1, 12), (RX2, TX2, 16), (RX3, TX3, 7), (RX4, TX4, 9), (RX5, TX5, 28)]
