set_option maxRecDepth 20000 in
theorem ggX0_init_X2_init : GoodIn wsX0_init wsX2_init := goodIn_r _ [13, 14, 2, 3, 15, 16, 17, 18, 19, 20, 21, 22, 23, 24, 25, 26, 27, 28, 29, 30, 31, 32, 33, 34, 35, 36, 37, 38, 39, 40, 41, 42] (by decide +kernel) (by decide +kernel)
set_option maxRecDepth 20000 in
theorem gX0_init_X2_init_n11 : GoodIn wsX0_init (wsX2_init) := ggX0_init_X2_init
theorem dX0_init_0 : decode cX0_init 0 = .ok (.aload_n 0, 1) := by decide +kernel
theorem dX0_init_1 : decode cX0_init 1 = .ok (.invokespecial 3, 3) := by decide +kernel
theorem dX0_init_4 : decode cX0_init 4 = .ok (.aload_n 0, 1) := by decide +kernel
theorem dX0_init_5 : decode cX0_init 5 = .ok (.new 9, 3) := by decide +kernel
theorem dX0_init_8 : decode cX0_init 8 = .ok (.dup, 1) := by decide +kernel
theorem dX0_init_9 : decode cX0_init 9 = .ok (.invokespecial 11, 3) := by decide +kernel
theorem dX0_init_12 : decode cX0_init 12 = .ok (.putfield 12, 3) := by decide +kernel
theorem dX0_init_15 : decode cX0_init 15 = .ok (.aload_n 0, 1) := by decide +kernel
theorem dX0_init_16 : decode cX0_init 16 = .ok (.iconst (-1), 1) := by decide +kernel
theorem dX0_init_17 : decode cX0_init 17 = .ok (.putfield 18, 3) := by decide +kernel
theorem dX0_init_20 : decode cX0_init 20 = .ok (.aload_n 0, 1) := by decide +kernel
theorem dX0_init_21 : decode cX0_init 21 = .ok (.aload_n 1, 1) := by decide +kernel
theorem dX0_init_22 : decode cX0_init 22 = .ok (.putfield 22, 3) := by decide +kernel
theorem dX0_init_25 : decode cX0_init 25 = .ok (.aload_n 0, 1) := by decide +kernel
theorem dX0_init_26 : decode cX0_init 26 = .ok (.aload_n 1, 1) := by decide +kernel
theorem dX0_init_27 : decode cX0_init 27 = .ok (.getfield 25, 3) := by decide +kernel
theorem dX0_init_30 : decode cX0_init 30 = .ok (.putfield 29, 3) := by decide +kernel
theorem dX0_init_33 : decode cX0_init 33 = .ok (.return_, 1) := by decide +kernel
set_option maxRecDepth 20000 in
theorem ggX0_readRoad_X2_forgetShops : GoodIn wsX0_readRoad wsX2_forgetShops := goodIn_r _ [16, 17, 18, 19, 159, 160, 161, 162, 163, 164, 165, 166, 167, 168, 169, 170, 171, 172, 173, 174] (by decide +kernel) (by decide +kernel)
set_option maxRecDepth 20000 in
theorem gX0_readRoad_X2_forgetShops : GoodIn wsX0_readRoad (wsV RX0 43 RX2 yX2_forgetShops wsX2_forgetShops) := goodIn_app (goodIn_of _ (by decide +kernel)) ggX0_readRoad_X2_forgetShops
set_option maxRecDepth 20000 in
theorem ggX0_readRoad_X0_goToToken : GoodIn wsX0_readRoad wsX0_goToToken := goodIn_r _ [24, 8, 7, 25, 26, 11, 27, 28, 29, 23, 30, 31, 32, 33, 150, 151, 152, 153, 154, 155, 156, 157, 158] (by decide +kernel) (by decide +kernel)
set_option maxRecDepth 20000 in
theorem gX0_readRoad_X0_goToToken : GoodIn wsX0_readRoad (wsV RX0 46 RX0 yX0_goToToken wsX0_goToToken) := goodIn_app (goodIn_of _ (by decide +kernel)) ggX0_readRoad_X0_goToToken
set_option maxRecDepth 20000 in
theorem ggX0_readRoad_X0_readItem : GoodIn wsX0_readRoad wsX0_readItem := goodIn_r _ [37, 10, 38, 39, 40, 41, 42, 23, 43, 11, 8, 26, 25, 44, 45, 46, 47, 48, 49, 50, 51, 52, 53, 54, 55, 56, 57, 58, 59, 60, 61, 62, 63, 64, 65, 66, 67, 68, 69, 70, 71, 72, 73, 74, 75, 76, 77, 78, 79, 80, 81, 82, 83, 84, 85, 86, 87, 88, 89, 90, 91, 92, 93, 94, 95, 96, 20, 21, 22, 24, 7, 27, 28, 29, 30, 31, 32, 33, 97, 98, 99, 100, 9, 101, 102, 103, 104, 105, 106, 107, 108, 109, 110, 111, 112, 113, 114, 15, 115, 17, 116, 117, 118, 119, 120, 121, 122, 123, 124, 125, 126, 127, 128, 129, 130, 131, 132, 133, 134, 135, 136, 137, 138, 139, 140, 18, 141, 142, 143, 144, 145, 146, 147, 148, 19, 149, 150, 151, 152, 153, 154, 155, 156, 157, 158, 159, 160, 161, 162, 163, 164, 165, 166, 167, 168, 169, 170, 171, 172, 173, 174] (by decide +kernel) (by decide +kernel)
set_option maxRecDepth 20000 in
theorem gX0_readRoad_X0_readItem : GoodIn wsX0_readRoad (wsV RX0 52 RX0 yX0_readItem wsX0_readItem) := goodIn_app (goodIn_of _ (by decide +kernel)) ggX0_readRoad_X0_readItem
theorem dX0_readRoad_0 : decode cX0_readRoad 0 = .ok (.aload_n 0, 1) := by decide +kernel
theorem dX0_readRoad_1 : decode cX0_readRoad 1 = .ok (.aload_n 0, 1) := by decide +kernel
theorem dX0_readRoad_2 : decode cX0_readRoad 2 = .ok (.getfield 22, 3) := by decide +kernel
theorem dX0_readRoad_5 : decode cX0_readRoad 5 = .ok (.getfield 30, 3) := by decide +kernel
theorem dX0_readRoad_8 : decode cX0_readRoad 8 = .ok (.sipush 200, 3) := by decide +kernel
theorem dX0_readRoad_11 : decode cX0_readRoad 11 = .ok (.invokestatic 33, 3) := by decide +kernel
theorem dX0_readRoad_14 : decode cX0_readRoad 14 = .ok (.putfield 39, 3) := by decide +kernel
theorem dX0_readRoad_17 : decode cX0_readRoad 17 = .ok (.aload_n 0, 1) := by decide +kernel
theorem dX0_readRoad_18 : decode cX0_readRoad 18 = .ok (.iconst 0, 1) := by decide +kernel
theorem dX0_readRoad_19 : decode cX0_readRoad 19 = .ok (.putfield 40, 3) := by decide +kernel
theorem dX0_readRoad_22 : decode cX0_readRoad 22 = .ok (.aload_n 0, 1) := by decide +kernel
theorem dX0_readRoad_23 : decode cX0_readRoad 23 = .ok (.iconst (-1), 1) := by decide +kernel
theorem dX0_readRoad_24 : decode cX0_readRoad 24 = .ok (.putfield 18, 3) := by decide +kernel
theorem dX0_readRoad_27 : decode cX0_readRoad 27 = .ok (.aload_n 0, 1) := by decide +kernel
theorem dX0_readRoad_28 : decode cX0_readRoad 28 = .ok (.getfield 12, 3) := by decide +kernel
theorem dX0_readRoad_31 : decode cX0_readRoad 31 = .ok (.invokevirtual 43, 3) := by decide +kernel
theorem dX0_readRoad_34 : decode cX0_readRoad 34 = .ok (.aload_n 0, 1) := by decide +kernel
theorem dX0_readRoad_35 : decode cX0_readRoad 35 = .ok (.invokevirtual 46, 3) := by decide +kernel
theorem dX0_readRoad_38 : decode cX0_readRoad 38 = .ok (.iconst 0, 1) := by decide +kernel
theorem dX0_readRoad_39 : decode cX0_readRoad 39 = .ok (.istore_n 1, 1) := by decide +kernel
theorem dX0_readRoad_40 : decode cX0_readRoad 40 = .ok (.aload_n 0, 1) := by decide +kernel
theorem dX0_readRoad_41 : decode cX0_readRoad 41 = .ok (.getfield 49, 3) := by decide +kernel
theorem dX0_readRoad_44 : decode cX0_readRoad 44 = .ok (.ifCond .eq 28, 3) := by decide +kernel
theorem dX0_readRoad_47 : decode cX0_readRoad 47 = .ok (.aload_n 0, 1) := by decide +kernel
theorem dX0_readRoad_48 : decode cX0_readRoad 48 = .ok (.getfield 18, 3) := by decide +kernel
theorem dX0_readRoad_51 : decode cX0_readRoad 51 = .ok (.iconst (-1), 1) := by decide +kernel
theorem dX0_readRoad_52 : decode cX0_readRoad 52 = .ok (.if_icmp .ne 20, 3) := by decide +kernel
theorem dX0_readRoad_55 : decode cX0_readRoad 55 = .ok (.iload_n 1, 1) := by decide +kernel
theorem dX0_readRoad_56 : decode cX0_readRoad 56 = .ok (.sipush 200, 3) := by decide +kernel
theorem dX0_readRoad_59 : decode cX0_readRoad 59 = .ok (.if_icmp .ge 13, 3) := by decide +kernel
theorem dX0_readRoad_62 : decode cX0_readRoad 62 = .ok (.aload_n 0, 1) := by decide +kernel
theorem dX0_readRoad_63 : decode cX0_readRoad 63 = .ok (.invokevirtual 52, 3) := by decide +kernel
theorem dX0_readRoad_66 : decode cX0_readRoad 66 = .ok (.iinc 1 1, 3) := by decide +kernel
theorem dX0_readRoad_69 : decode cX0_readRoad 69 = .ok (.goto (-29), 3) := by decide +kernel
theorem dX0_readRoad_72 : decode cX0_readRoad 72 = .ok (.iload_n 1, 1) := by decide +kernel
theorem dX0_readRoad_73 : decode cX0_readRoad 73 = .ok (.ireturn, 1) := by decide +kernel
set_option maxRecDepth 20000 in
theorem ggX0_readItem_X0_isWord : GoodIn wsX0_readItem wsX0_isWord := goodIn_r _ [8, 9, 10, 11, 12, 13, 14, 15, 16, 17, 18, 19, 20, 21, 22, 23, 24, 25, 26, 27, 28, 29, 30, 31, 32, 33, 34, 35, 36, 37, 38, 39, 40, 41, 42, 43, 44, 45, 46, 47, 48, 49, 50, 51, 52, 53, 54, 55, 56, 57, 58, 59, 60, 61, 136, 137, 138, 139, 140, 141, 142, 143, 144] (by decide +kernel) (by decide +kernel)
set_option maxRecDepth 20000 in
theorem gX0_readItem_X0_isWord : GoodIn wsX0_readItem (wsV RX0 57 RX0 yX0_isWord wsX0_isWord) := goodIn_app (goodIn_of _ (by decide +kernel)) ggX0_readItem_X0_isWord
set_option maxRecDepth 20000 in
theorem ggX0_readItem_X0_readShop : GoodIn wsX0_readItem wsX0_readShop := goodIn_r _ [65, 1, 66, 67, 68, 7, 69, 10, 70, 12, 11, 9, 71, 72, 73, 74, 75, 76, 77, 78, 79, 80, 81, 82, 83, 84, 85, 86, 87, 88, 89, 90, 91, 92, 93, 94, 95, 96, 97, 98, 99, 100, 101, 102, 103, 104, 136, 137, 138, 139, 140, 141, 142, 143, 144, 145, 146, 147, 148, 149, 150, 151, 152, 153, 154, 155, 156, 157, 158, 159, 160] (by decide +kernel) (by decide +kernel)
set_option maxRecDepth 20000 in
theorem gX0_readItem_X0_readShop : GoodIn wsX0_readItem (wsV RX0 64 RX0 yX0_readShop wsX0_readShop) := goodIn_app (goodIn_of _ (by decide +kernel)) ggX0_readItem_X0_readShop
set_option maxRecDepth 20000 in
theorem ggX0_readItem_X0_readNext : GoodIn wsX0_readItem wsX0_readNext := goodIn_r _ [108, 1, 2, 11, 82, 66, 67, 68, 7, 69, 10, 70, 12, 9, 71, 72, 73, 74, 75, 76, 77, 78, 79, 80, 81, 83, 84, 85, 86, 87, 88, 89, 109, 110, 111, 97, 112, 104, 90, 91, 92, 93, 113, 114, 115, 116, 136, 137, 138, 139, 140, 141, 142, 143, 144, 145, 146, 147, 148, 149, 150, 151, 152, 153, 154, 155, 156, 157, 158, 159, 160] (by decide +kernel) (by decide +kernel)
set_option maxRecDepth 20000 in
theorem gX0_readItem_X0_readNext : GoodIn wsX0_readItem (wsV RX0 69 RX0 yX0_readNext wsX0_readNext) := goodIn_app (goodIn_of _ (by decide +kernel)) ggX0_readItem_X0_readNext
set_option maxRecDepth 20000 in
theorem ggX0_readItem_X0_readFree : GoodIn wsX0_readItem wsX0_readFree := goodIn_r _ [120, 1, 2, 66, 67, 68, 7, 69, 10, 70, 12, 11, 9, 71, 72, 73, 74, 75, 76, 77, 78, 79, 80, 81, 82, 83, 84, 85, 86, 87, 88, 89, 90, 91, 92, 93, 121, 122, 123, 97, 124, 125, 136, 137, 138, 139, 140, 141, 142, 143, 144, 145, 146, 147, 148, 149, 150, 151, 152, 153, 154, 155, 156, 157, 158, 159, 160] (by decide +kernel) (by decide +kernel)
set_option maxRecDepth 20000 in
theorem gX0_readItem_X0_readFree : GoodIn wsX0_readItem (wsV RX0 74 RX0 yX0_readFree wsX0_readFree) := goodIn_app (goodIn_of _ (by decide +kernel)) ggX0_readItem_X0_readFree
set_option maxRecDepth 20000 in
theorem ggX0_readItem_X0_readBuy : GoodIn wsX0_readItem wsX0_readBuy := goodIn_r _ [129, 1, 2, 66, 67, 68, 7, 69, 10, 70, 12, 11, 9, 71, 72, 73, 74, 75, 76, 77, 78, 79, 80, 81, 82, 83, 84, 85, 86, 87, 88, 89, 90, 91, 92, 93, 130, 131, 132, 97, 133, 134, 135, 136, 137, 138, 139, 140, 141, 142, 143, 144, 145, 146, 147, 148, 149, 150, 151, 152, 153, 154, 155, 156, 157, 158, 159, 160] (by decide +kernel) (by decide +kernel)
set_option maxRecDepth 20000 in
theorem gX0_readItem_X0_readBuy : GoodIn wsX0_readItem (wsV RX0 82 RX0 yX0_readBuy wsX0_readBuy) := goodIn_app (goodIn_of _ (by decide +kernel)) ggX0_readItem_X0_readBuy
set_option maxRecDepth 20000 in
theorem ggX0_readItem_X0_fail : GoodIn wsX0_readItem wsX0_fail := goodIn_r _ [89, 82, 11, 136, 137, 138, 139, 140, 141, 142, 143, 144] (by decide +kernel) (by decide +kernel)
set_option maxRecDepth 20000 in
theorem gX0_readItem_X0_fail : GoodIn wsX0_readItem (wsV RX0 85 RX0 yX0_fail wsX0_fail) := goodIn_app (goodIn_of _ (by decide +kernel)) ggX0_readItem_X0_fail
theorem dX0_readItem_0 : decode cX0_readItem 0 = .ok (.aload_n 0, 1) := by decide +kernel
theorem dX0_readItem_1 : decode cX0_readItem 1 = .ok (.ldc 55, 2) := by decide +kernel
theorem dX0_readItem_3 : decode cX0_readItem 3 = .ok (.invokevirtual 57, 3) := by decide +kernel
theorem dX0_readItem_6 : decode cX0_readItem 6 = .ok (.ifCond .eq 22, 3) := by decide +kernel
theorem dX0_readItem_9 : decode cX0_readItem 9 = .ok (.aload_n 0, 1) := by decide +kernel
theorem dX0_readItem_10 : decode cX0_readItem 10 = .ok (.getfield 12, 3) := by decide +kernel
theorem dX0_readItem_13 : decode cX0_readItem 13 = .ok (.getfield 61, 3) := by decide +kernel
theorem dX0_readItem_16 : decode cX0_readItem 16 = .ok (.bipush 6, 2) := by decide +kernel
theorem dX0_readItem_18 : decode cX0_readItem 18 = .ok (.if_icmp .ge 10, 3) := by decide +kernel
theorem dX0_readItem_21 : decode cX0_readItem 21 = .ok (.aload_n 0, 1) := by decide +kernel
theorem dX0_readItem_22 : decode cX0_readItem 22 = .ok (.invokevirtual 64, 3) := by decide +kernel
theorem dX0_readItem_25 : decode cX0_readItem 25 = .ok (.goto 67, 3) := by decide +kernel
theorem dX0_readItem_28 : decode cX0_readItem 28 = .ok (.aload_n 0, 1) := by decide +kernel
theorem dX0_readItem_29 : decode cX0_readItem 29 = .ok (.ldc 67, 2) := by decide +kernel
theorem dX0_readItem_31 : decode cX0_readItem 31 = .ok (.invokevirtual 57, 3) := by decide +kernel
theorem dX0_readItem_34 : decode cX0_readItem 34 = .ok (.ifCond .eq 10, 3) := by decide +kernel
theorem dX0_readItem_37 : decode cX0_readItem 37 = .ok (.aload_n 0, 1) := by decide +kernel
theorem dX0_readItem_38 : decode cX0_readItem 38 = .ok (.invokevirtual 69, 3) := by decide +kernel
theorem dX0_readItem_41 : decode cX0_readItem 41 = .ok (.goto 51, 3) := by decide +kernel
theorem dX0_readItem_44 : decode cX0_readItem 44 = .ok (.aload_n 0, 1) := by decide +kernel
theorem dX0_readItem_45 : decode cX0_readItem 45 = .ok (.ldc 72, 2) := by decide +kernel
theorem dX0_readItem_47 : decode cX0_readItem 47 = .ok (.invokevirtual 57, 3) := by decide +kernel
theorem dX0_readItem_50 : decode cX0_readItem 50 = .ok (.ifCond .eq 10, 3) := by decide +kernel
theorem dX0_readItem_53 : decode cX0_readItem 53 = .ok (.aload_n 0, 1) := by decide +kernel
theorem dX0_readItem_54 : decode cX0_readItem 54 = .ok (.invokevirtual 74, 3) := by decide +kernel
theorem dX0_readItem_57 : decode cX0_readItem 57 = .ok (.goto 35, 3) := by decide +kernel
theorem dX0_readItem_60 : decode cX0_readItem 60 = .ok (.aload_n 0, 1) := by decide +kernel
theorem dX0_readItem_61 : decode cX0_readItem 61 = .ok (.ldc 77, 2) := by decide +kernel
theorem dX0_readItem_63 : decode cX0_readItem 63 = .ok (.invokevirtual 57, 3) := by decide +kernel
theorem dX0_readItem_66 : decode cX0_readItem 66 = .ok (.ifCond .eq 22, 3) := by decide +kernel
theorem dX0_readItem_69 : decode cX0_readItem 69 = .ok (.aload_n 0, 1) := by decide +kernel
theorem dX0_readItem_70 : decode cX0_readItem 70 = .ok (.getfield 12, 3) := by decide +kernel
theorem dX0_readItem_73 : decode cX0_readItem 73 = .ok (.getfield 79, 3) := by decide +kernel
theorem dX0_readItem_76 : decode cX0_readItem 76 = .ok (.bipush 12, 2) := by decide +kernel
theorem dX0_readItem_78 : decode cX0_readItem 78 = .ok (.if_icmp .ge 10, 3) := by decide +kernel
theorem dX0_readItem_81 : decode cX0_readItem 81 = .ok (.aload_n 0, 1) := by decide +kernel
theorem dX0_readItem_82 : decode cX0_readItem 82 = .ok (.invokevirtual 82, 3) := by decide +kernel
theorem dX0_readItem_85 : decode cX0_readItem 85 = .ok (.goto 7, 3) := by decide +kernel
theorem dX0_readItem_88 : decode cX0_readItem 88 = .ok (.aload_n 0, 1) := by decide +kernel
theorem dX0_readItem_89 : decode cX0_readItem 89 = .ok (.invokevirtual 85, 3) := by decide +kernel
theorem dX0_readItem_92 : decode cX0_readItem 92 = .ok (.return_, 1) := by decide +kernel
set_option maxRecDepth 20000 in
theorem ggX0_readShop_X0_goToToken : GoodIn wsX0_readShop wsX0_goToToken := goodIn_r _ [6, 7, 8, 9, 10, 11, 12, 13, 14, 5, 15, 16, 17, 18, 46, 47, 48, 49, 50, 51, 52, 53, 54] (by decide +kernel) (by decide +kernel)
set_option maxRecDepth 20000 in
theorem gX0_readShop_X0_goToToken : GoodIn wsX0_readShop (wsV RX0 46 RX0 yX0_goToToken wsX0_goToToken) := goodIn_app (goodIn_of _ (by decide +kernel)) ggX0_readShop_X0_goToToken
set_option maxRecDepth 20000 in
theorem ggX0_readShop_X0_takeNumber : GoodIn wsX0_readShop wsX0_takeNumber := goodIn_r _ [22, 23, 11, 12, 24, 25, 26, 27, 28, 29, 5, 30, 10, 2, 3, 4, 6, 7, 8, 9, 13, 14, 15, 16, 17, 18, 46, 47, 48, 49, 50, 51, 52, 53, 54] (by decide +kernel) (by decide +kernel)
set_option maxRecDepth 20000 in
theorem gX0_readShop_X0_takeNumber : GoodIn wsX0_readShop (wsV RX0 88 RX0 yX0_takeNumber wsX0_takeNumber) := goodIn_app (goodIn_of _ (by decide +kernel)) ggX0_readShop_X0_takeNumber
set_option maxRecDepth 20000 in
theorem ggX0_readShop_X0_takeStop : GoodIn wsX0_readShop wsX0_takeStop := goodIn_r _ [34, 23, 11, 27, 28, 29, 5, 30, 10, 2, 3, 4, 6, 7, 8, 9, 12, 13, 14, 15, 16, 17, 18, 46, 47, 48, 49, 50, 51, 52, 53, 54] (by decide +kernel) (by decide +kernel)
set_option maxRecDepth 20000 in
theorem gX0_readShop_X0_takeStop : GoodIn wsX0_readShop (wsV RX0 91 RX0 yX0_takeStop wsX0_takeStop) := goodIn_app (goodIn_of _ (by decide +kernel)) ggX0_readShop_X0_takeStop
set_option maxRecDepth 20000 in
theorem ggX0_readShop_X2_addShop : GoodIn wsX0_readShop wsX2_addShop := goodIn_r _ [39, 40, 41, 42, 43, 44, 45, 55, 56, 57, 58, 59, 60, 61, 62, 63, 64, 65, 66, 67, 68, 69, 70] (by decide +kernel) (by decide +kernel)
set_option maxRecDepth 20000 in
theorem gX0_readShop_X2_addShop : GoodIn wsX0_readShop (wsV RX0 95 RX2 yX2_addShop wsX2_addShop) := goodIn_app (goodIn_of _ (by decide +kernel)) ggX0_readShop_X2_addShop
theorem dX0_readShop_0 : decode cX0_readShop 0 = .ok (.aload_n 0, 1) := by decide +kernel
theorem dX0_readShop_1 : decode cX0_readShop 1 = .ok (.invokevirtual 46, 3) := by decide +kernel
theorem dX0_readShop_4 : decode cX0_readShop 4 = .ok (.aload_n 0, 1) := by decide +kernel
theorem dX0_readShop_5 : decode cX0_readShop 5 = .ok (.iconst 0, 1) := by decide +kernel
theorem dX0_readShop_6 : decode cX0_readShop 6 = .ok (.iconst 5, 1) := by decide +kernel
theorem dX0_readShop_7 : decode cX0_readShop 7 = .ok (.invokevirtual 88, 3) := by decide +kernel
theorem dX0_readShop_10 : decode cX0_readShop 10 = .ok (.istore_n 1, 1) := by decide +kernel
theorem dX0_readShop_11 : decode cX0_readShop 11 = .ok (.aload_n 0, 1) := by decide +kernel
theorem dX0_readShop_12 : decode cX0_readShop 12 = .ok (.iconst 0, 1) := by decide +kernel
theorem dX0_readShop_13 : decode cX0_readShop 13 = .ok (.bipush 20, 2) := by decide +kernel
theorem dX0_readShop_15 : decode cX0_readShop 15 = .ok (.invokevirtual 88, 3) := by decide +kernel
theorem dX0_readShop_18 : decode cX0_readShop 18 = .ok (.istore_n 2, 1) := by decide +kernel
theorem dX0_readShop_19 : decode cX0_readShop 19 = .ok (.aload_n 0, 1) := by decide +kernel
theorem dX0_readShop_20 : decode cX0_readShop 20 = .ok (.iconst 1, 1) := by decide +kernel
theorem dX0_readShop_21 : decode cX0_readShop 21 = .ok (.bipush 30, 2) := by decide +kernel
theorem dX0_readShop_23 : decode cX0_readShop 23 = .ok (.invokevirtual 88, 3) := by decide +kernel
theorem dX0_readShop_26 : decode cX0_readShop 26 = .ok (.istore_n 3, 1) := by decide +kernel
theorem dX0_readShop_27 : decode cX0_readShop 27 = .ok (.aload_n 0, 1) := by decide +kernel
theorem dX0_readShop_28 : decode cX0_readShop 28 = .ok (.iconst 0, 1) := by decide +kernel
theorem dX0_readShop_29 : decode cX0_readShop 29 = .ok (.sipush 240, 3) := by decide +kernel
theorem dX0_readShop_32 : decode cX0_readShop 32 = .ok (.invokevirtual 88, 3) := by decide +kernel
theorem dX0_readShop_35 : decode cX0_readShop 35 = .ok (.istore 4, 2) := by decide +kernel
theorem dX0_readShop_37 : decode cX0_readShop 37 = .ok (.aload_n 0, 1) := by decide +kernel
theorem dX0_readShop_38 : decode cX0_readShop 38 = .ok (.invokevirtual 91, 3) := by decide +kernel
theorem dX0_readShop_41 : decode cX0_readShop 41 = .ok (.ifCond .eq 15, 3) := by decide +kernel
theorem dX0_readShop_44 : decode cX0_readShop 44 = .ok (.aload_n 0, 1) := by decide +kernel
theorem dX0_readShop_45 : decode cX0_readShop 45 = .ok (.getfield 12, 3) := by decide +kernel
theorem dX0_readShop_48 : decode cX0_readShop 48 = .ok (.iload_n 1, 1) := by decide +kernel
theorem dX0_readShop_49 : decode cX0_readShop 49 = .ok (.iload_n 2, 1) := by decide +kernel
theorem dX0_readShop_50 : decode cX0_readShop 50 = .ok (.iload_n 3, 1) := by decide +kernel
theorem dX0_readShop_51 : decode cX0_readShop 51 = .ok (.iload 4, 2) := by decide +kernel
theorem dX0_readShop_53 : decode cX0_readShop 53 = .ok (.invokevirtual 95, 3) := by decide +kernel
theorem dX0_readShop_56 : decode cX0_readShop 56 = .ok (.return_, 1) := by decide +kernel
set_option maxRecDepth 20000 in
theorem ggX0_readNext_X0_goToToken : GoodIn wsX0_readNext wsX0_goToToken := goodIn_r _ [9, 10, 11, 12, 3, 13, 14, 15, 16, 8, 17, 18, 19, 20, 46, 47, 48, 49, 50, 51, 52, 53, 54] (by decide +kernel) (by decide +kernel)
set_option maxRecDepth 20000 in
theorem gX0_readNext_X0_goToToken : GoodIn wsX0_readNext (wsV RX0 46 RX0 yX0_goToToken wsX0_goToToken) := goodIn_app (goodIn_of _ (by decide +kernel)) ggX0_readNext_X0_goToToken
set_option maxRecDepth 20000 in
theorem ggX0_readNext_X0_takeNumber : GoodIn wsX0_readNext wsX0_takeNumber := goodIn_r _ [24, 4, 13, 14, 25, 26, 27, 28, 29, 30, 8, 31, 3, 5, 6, 7, 9, 10, 11, 12, 15, 16, 17, 18, 19, 20, 46, 47, 48, 49, 50, 51, 52, 53, 54] (by decide +kernel) (by decide +kernel)
set_option maxRecDepth 20000 in
theorem gX0_readNext_X0_takeNumber : GoodIn wsX0_readNext (wsV RX0 88 RX0 yX0_takeNumber wsX0_takeNumber) := goodIn_app (goodIn_of _ (by decide +kernel)) ggX0_readNext_X0_takeNumber
set_option maxRecDepth 20000 in
theorem ggX0_readNext_X2_areNear : GoodIn wsX0_readNext wsX2_areNear := goodIn_r _ [36, 37, 55, 56, 57, 58, 59, 60, 61, 62, 63, 64, 65, 66, 67, 68, 69, 70] (by decide +kernel) (by decide +kernel)
set_option maxRecDepth 20000 in
theorem gX0_readNext_X2_areNear : GoodIn wsX0_readNext (wsV RX0 102 RX2 yX2_areNear wsX2_areNear) := goodIn_app (goodIn_of _ (by decide +kernel)) ggX0_readNext_X2_areNear
set_option maxRecDepth 20000 in
theorem ggX0_readNext_X0_takeStop : GoodIn wsX0_readNext wsX0_takeStop := goodIn_r _ [41, 4, 13, 28, 29, 30, 8, 31, 3, 5, 6, 7, 9, 10, 11, 12, 14, 15, 16, 17, 18, 19, 20, 46, 47, 48, 49, 50, 51, 52, 53, 54] (by decide +kernel) (by decide +kernel)
set_option maxRecDepth 20000 in
theorem gX0_readNext_X0_takeStop : GoodIn wsX0_readNext (wsV RX0 91 RX0 yX0_takeStop wsX0_takeStop) := goodIn_app (goodIn_of _ (by decide +kernel)) ggX0_readNext_X0_takeStop
set_option maxRecDepth 20000 in
theorem ggX0_readNext_X2_setNear : GoodIn wsX0_readNext wsX2_setNear := goodIn_r _ [45, 37, 55, 56, 57, 58, 59, 60, 61, 62, 63, 64, 65, 66, 67, 68, 69, 70] (by decide +kernel) (by decide +kernel)
set_option maxRecDepth 20000 in
theorem gX0_readNext_X2_setNear : GoodIn wsX0_readNext (wsV RX0 106 RX2 yX2_setNear wsX2_setNear) := goodIn_app (goodIn_of _ (by decide +kernel)) ggX0_readNext_X2_setNear
theorem dX0_readNext_0 : decode cX0_readNext 0 = .ok (.aload_n 0, 1) := by decide +kernel
theorem dX0_readNext_1 : decode cX0_readNext 1 = .ok (.invokevirtual 46, 3) := by decide +kernel
theorem dX0_readNext_4 : decode cX0_readNext 4 = .ok (.aload_n 0, 1) := by decide +kernel
theorem dX0_readNext_5 : decode cX0_readNext 5 = .ok (.iconst 0, 1) := by decide +kernel
theorem dX0_readNext_6 : decode cX0_readNext 6 = .ok (.aload_n 0, 1) := by decide +kernel
theorem dX0_readNext_7 : decode cX0_readNext 7 = .ok (.getfield 12, 3) := by decide +kernel
theorem dX0_readNext_10 : decode cX0_readNext 10 = .ok (.getfield 61, 3) := by decide +kernel
theorem dX0_readNext_13 : decode cX0_readNext 13 = .ok (.iconst 1, 1) := by decide +kernel
theorem dX0_readNext_14 : decode cX0_readNext 14 = .ok (.isub, 1) := by decide +kernel
theorem dX0_readNext_15 : decode cX0_readNext 15 = .ok (.invokevirtual 88, 3) := by decide +kernel
theorem dX0_readNext_18 : decode cX0_readNext 18 = .ok (.istore_n 1, 1) := by decide +kernel
theorem dX0_readNext_19 : decode cX0_readNext 19 = .ok (.aload_n 0, 1) := by decide +kernel
theorem dX0_readNext_20 : decode cX0_readNext 20 = .ok (.getfield 99, 3) := by decide +kernel
theorem dX0_readNext_23 : decode cX0_readNext 23 = .ok (.istore_n 2, 1) := by decide +kernel
theorem dX0_readNext_24 : decode cX0_readNext 24 = .ok (.aload_n 0, 1) := by decide +kernel
theorem dX0_readNext_25 : decode cX0_readNext 25 = .ok (.iconst 0, 1) := by decide +kernel
theorem dX0_readNext_26 : decode cX0_readNext 26 = .ok (.aload_n 0, 1) := by decide +kernel
theorem dX0_readNext_27 : decode cX0_readNext 27 = .ok (.getfield 12, 3) := by decide +kernel
theorem dX0_readNext_30 : decode cX0_readNext 30 = .ok (.getfield 61, 3) := by decide +kernel
theorem dX0_readNext_33 : decode cX0_readNext 33 = .ok (.iconst 1, 1) := by decide +kernel
theorem dX0_readNext_34 : decode cX0_readNext 34 = .ok (.isub, 1) := by decide +kernel
theorem dX0_readNext_35 : decode cX0_readNext 35 = .ok (.invokevirtual 88, 3) := by decide +kernel
theorem dX0_readNext_38 : decode cX0_readNext 38 = .ok (.istore_n 3, 1) := by decide +kernel
theorem dX0_readNext_39 : decode cX0_readNext 39 = .ok (.aload_n 0, 1) := by decide +kernel
theorem dX0_readNext_40 : decode cX0_readNext 40 = .ok (.getfield 18, 3) := by decide +kernel
theorem dX0_readNext_43 : decode cX0_readNext 43 = .ok (.iconst (-1), 1) := by decide +kernel
theorem dX0_readNext_44 : decode cX0_readNext 44 = .ok (.if_icmp .ne 25, 3) := by decide +kernel
theorem dX0_readNext_47 : decode cX0_readNext 47 = .ok (.iload_n 1, 1) := by decide +kernel
theorem dX0_readNext_48 : decode cX0_readNext 48 = .ok (.iload_n 3, 1) := by decide +kernel
theorem dX0_readNext_49 : decode cX0_readNext 49 = .ok (.if_icmp .eq 15, 3) := by decide +kernel
theorem dX0_readNext_52 : decode cX0_readNext 52 = .ok (.aload_n 0, 1) := by decide +kernel
theorem dX0_readNext_53 : decode cX0_readNext 53 = .ok (.getfield 12, 3) := by decide +kernel
theorem dX0_readNext_56 : decode cX0_readNext 56 = .ok (.iload_n 1, 1) := by decide +kernel
theorem dX0_readNext_57 : decode cX0_readNext 57 = .ok (.iload_n 3, 1) := by decide +kernel
theorem dX0_readNext_58 : decode cX0_readNext 58 = .ok (.invokevirtual 102, 3) := by decide +kernel
theorem dX0_readNext_61 : decode cX0_readNext 61 = .ok (.ifCond .eq 8, 3) := by decide +kernel
theorem dX0_readNext_64 : decode cX0_readNext 64 = .ok (.aload_n 0, 1) := by decide +kernel
theorem dX0_readNext_65 : decode cX0_readNext 65 = .ok (.iload_n 2, 1) := by decide +kernel
theorem dX0_readNext_66 : decode cX0_readNext 66 = .ok (.putfield 18, 3) := by decide +kernel
theorem dX0_readNext_69 : decode cX0_readNext 69 = .ok (.aload_n 0, 1) := by decide +kernel
theorem dX0_readNext_70 : decode cX0_readNext 70 = .ok (.invokevirtual 91, 3) := by decide +kernel
theorem dX0_readNext_73 : decode cX0_readNext 73 = .ok (.ifCond .eq 13, 3) := by decide +kernel
theorem dX0_readNext_76 : decode cX0_readNext 76 = .ok (.aload_n 0, 1) := by decide +kernel
theorem dX0_readNext_77 : decode cX0_readNext 77 = .ok (.getfield 12, 3) := by decide +kernel
theorem dX0_readNext_80 : decode cX0_readNext 80 = .ok (.iload_n 1, 1) := by decide +kernel
theorem dX0_readNext_81 : decode cX0_readNext 81 = .ok (.iload_n 3, 1) := by decide +kernel
theorem dX0_readNext_82 : decode cX0_readNext 82 = .ok (.iconst 1, 1) := by decide +kernel
theorem dX0_readNext_83 : decode cX0_readNext 83 = .ok (.invokevirtual 106, 3) := by decide +kernel
theorem dX0_readNext_86 : decode cX0_readNext 86 = .ok (.return_, 1) := by decide +kernel
set_option maxRecDepth 20000 in
theorem ggX0_readFree_X0_goToToken : GoodIn wsX0_readFree wsX0_goToToken := goodIn_r _ [7, 8, 9, 10, 11, 12, 13, 14, 15, 6, 16, 17, 18, 19, 42, 43, 44, 45, 46, 47, 48, 49, 50] (by decide +kernel) (by decide +kernel)
set_option maxRecDepth 20000 in
theorem gX0_readFree_X0_goToToken : GoodIn wsX0_readFree (wsV RX0 46 RX0 yX0_goToToken wsX0_goToToken) := goodIn_app (goodIn_of _ (by decide +kernel)) ggX0_readFree_X0_goToToken
set_option maxRecDepth 20000 in
theorem ggX0_readFree_X0_takeNumber : GoodIn wsX0_readFree wsX0_takeNumber := goodIn_r _ [23, 24, 12, 13, 25, 26, 27, 28, 29, 30, 6, 31, 11, 3, 4, 5, 7, 8, 9, 10, 14, 15, 16, 17, 18, 19, 42, 43, 44, 45, 46, 47, 48, 49, 50] (by decide +kernel) (by decide +kernel)
set_option maxRecDepth 20000 in
theorem gX0_readFree_X0_takeNumber : GoodIn wsX0_readFree (wsV RX0 88 RX0 yX0_takeNumber wsX0_takeNumber) := goodIn_app (goodIn_of _ (by decide +kernel)) ggX0_readFree_X0_takeNumber
set_option maxRecDepth 20000 in
theorem ggX0_readFree_X0_takeStop : GoodIn wsX0_readFree wsX0_takeStop := goodIn_r _ [35, 24, 12, 28, 29, 30, 6, 31, 11, 3, 4, 5, 7, 8, 9, 10, 13, 14, 15, 16, 17, 18, 19, 42, 43, 44, 45, 46, 47, 48, 49, 50] (by decide +kernel) (by decide +kernel)
set_option maxRecDepth 20000 in
theorem gX0_readFree_X0_takeStop : GoodIn wsX0_readFree (wsV RX0 91 RX0 yX0_takeStop wsX0_takeStop) := goodIn_app (goodIn_of _ (by decide +kernel)) ggX0_readFree_X0_takeStop
set_option maxRecDepth 20000 in
theorem ggX0_readFree_X2_setFree : GoodIn wsX0_readFree wsX2_setFree := goodIn_r _ [40, 41, 51, 52, 53, 54, 55, 56, 57, 58, 59, 60, 61, 62, 63, 64, 65, 66] (by decide +kernel) (by decide +kernel)
set_option maxRecDepth 20000 in
theorem gX0_readFree_X2_setFree : GoodIn wsX0_readFree (wsV RX0 110 RX2 yX2_setFree wsX2_setFree) := goodIn_app (goodIn_of _ (by decide +kernel)) ggX0_readFree_X2_setFree
theorem dX0_readFree_0 : decode cX0_readFree 0 = .ok (.aload_n 0, 1) := by decide +kernel
theorem dX0_readFree_1 : decode cX0_readFree 1 = .ok (.invokevirtual 46, 3) := by decide +kernel
theorem dX0_readFree_4 : decode cX0_readFree 4 = .ok (.aload_n 0, 1) := by decide +kernel
theorem dX0_readFree_5 : decode cX0_readFree 5 = .ok (.iconst 0, 1) := by decide +kernel
theorem dX0_readFree_6 : decode cX0_readFree 6 = .ok (.aload_n 0, 1) := by decide +kernel
theorem dX0_readFree_7 : decode cX0_readFree 7 = .ok (.getfield 12, 3) := by decide +kernel
theorem dX0_readFree_10 : decode cX0_readFree 10 = .ok (.getfield 61, 3) := by decide +kernel
theorem dX0_readFree_13 : decode cX0_readFree 13 = .ok (.iconst 1, 1) := by decide +kernel
theorem dX0_readFree_14 : decode cX0_readFree 14 = .ok (.isub, 1) := by decide +kernel
theorem dX0_readFree_15 : decode cX0_readFree 15 = .ok (.invokevirtual 88, 3) := by decide +kernel
theorem dX0_readFree_18 : decode cX0_readFree 18 = .ok (.istore_n 1, 1) := by decide +kernel
theorem dX0_readFree_19 : decode cX0_readFree 19 = .ok (.aload_n 0, 1) := by decide +kernel
theorem dX0_readFree_20 : decode cX0_readFree 20 = .ok (.invokevirtual 91, 3) := by decide +kernel
theorem dX0_readFree_23 : decode cX0_readFree 23 = .ok (.ifCond .eq 12, 3) := by decide +kernel
theorem dX0_readFree_26 : decode cX0_readFree 26 = .ok (.aload_n 0, 1) := by decide +kernel
theorem dX0_readFree_27 : decode cX0_readFree 27 = .ok (.getfield 12, 3) := by decide +kernel
theorem dX0_readFree_30 : decode cX0_readFree 30 = .ok (.iload_n 1, 1) := by decide +kernel
theorem dX0_readFree_31 : decode cX0_readFree 31 = .ok (.iconst 1, 1) := by decide +kernel
theorem dX0_readFree_32 : decode cX0_readFree 32 = .ok (.invokevirtual 110, 3) := by decide +kernel
theorem dX0_readFree_35 : decode cX0_readFree 35 = .ok (.return_, 1) := by decide +kernel
set_option maxRecDepth 20000 in
theorem ggX0_readBuy_X0_goToToken : GoodIn wsX0_readBuy wsX0_goToToken := goodIn_r _ [7, 8, 9, 10, 11, 12, 13, 14, 15, 6, 16, 17, 18, 19, 43, 44, 45, 46, 47, 48, 49, 50, 51] (by decide +kernel) (by decide +kernel)
set_option maxRecDepth 20000 in
theorem gX0_readBuy_X0_goToToken : GoodIn wsX0_readBuy (wsV RX0 46 RX0 yX0_goToToken wsX0_goToToken) := goodIn_app (goodIn_of _ (by decide +kernel)) ggX0_readBuy_X0_goToToken
set_option maxRecDepth 20000 in
theorem ggX0_readBuy_X0_takeNumber : GoodIn wsX0_readBuy wsX0_takeNumber := goodIn_r _ [23, 24, 12, 13, 25, 26, 27, 28, 29, 30, 6, 31, 11, 3, 4, 5, 7, 8, 9, 10, 14, 15, 16, 17, 18, 19, 43, 44, 45, 46, 47, 48, 49, 50, 51] (by decide +kernel) (by decide +kernel)
set_option maxRecDepth 20000 in
theorem gX0_readBuy_X0_takeNumber : GoodIn wsX0_readBuy (wsV RX0 88 RX0 yX0_takeNumber wsX0_takeNumber) := goodIn_app (goodIn_of _ (by decide +kernel)) ggX0_readBuy_X0_takeNumber
set_option maxRecDepth 20000 in
theorem ggX0_readBuy_X0_takeStop : GoodIn wsX0_readBuy wsX0_takeStop := goodIn_r _ [35, 24, 12, 28, 29, 30, 6, 31, 11, 3, 4, 5, 7, 8, 9, 10, 13, 14, 15, 16, 17, 18, 19, 43, 44, 45, 46, 47, 48, 49, 50, 51] (by decide +kernel) (by decide +kernel)
set_option maxRecDepth 20000 in
theorem gX0_readBuy_X0_takeStop : GoodIn wsX0_readBuy (wsV RX0 91 RX0 yX0_takeStop wsX0_takeStop) := goodIn_app (goodIn_of _ (by decide +kernel)) ggX0_readBuy_X0_takeStop
set_option maxRecDepth 20000 in
theorem ggX0_readBuy_X2_addBought : GoodIn wsX0_readBuy wsX2_addBought := goodIn_r _ [40, 41, 42, 52, 53, 54, 55, 56, 57, 58, 59, 60, 61, 62, 63, 64, 65, 66, 67] (by decide +kernel) (by decide +kernel)
set_option maxRecDepth 20000 in
theorem gX0_readBuy_X2_addBought : GoodIn wsX0_readBuy (wsV RX0 114 RX2 yX2_addBought wsX2_addBought) := goodIn_app (goodIn_of _ (by decide +kernel)) ggX0_readBuy_X2_addBought
theorem dX0_readBuy_0 : decode cX0_readBuy 0 = .ok (.aload_n 0, 1) := by decide +kernel
theorem dX0_readBuy_1 : decode cX0_readBuy 1 = .ok (.invokevirtual 46, 3) := by decide +kernel
theorem dX0_readBuy_4 : decode cX0_readBuy 4 = .ok (.aload_n 0, 1) := by decide +kernel
theorem dX0_readBuy_5 : decode cX0_readBuy 5 = .ok (.iconst 0, 1) := by decide +kernel
theorem dX0_readBuy_6 : decode cX0_readBuy 6 = .ok (.aload_n 0, 1) := by decide +kernel
theorem dX0_readBuy_7 : decode cX0_readBuy 7 = .ok (.getfield 12, 3) := by decide +kernel
theorem dX0_readBuy_10 : decode cX0_readBuy 10 = .ok (.getfield 61, 3) := by decide +kernel
theorem dX0_readBuy_13 : decode cX0_readBuy 13 = .ok (.iconst 1, 1) := by decide +kernel
theorem dX0_readBuy_14 : decode cX0_readBuy 14 = .ok (.isub, 1) := by decide +kernel
theorem dX0_readBuy_15 : decode cX0_readBuy 15 = .ok (.invokevirtual 88, 3) := by decide +kernel
theorem dX0_readBuy_18 : decode cX0_readBuy 18 = .ok (.istore_n 1, 1) := by decide +kernel
theorem dX0_readBuy_19 : decode cX0_readBuy 19 = .ok (.aload_n 0, 1) := by decide +kernel
theorem dX0_readBuy_20 : decode cX0_readBuy 20 = .ok (.invokevirtual 91, 3) := by decide +kernel
theorem dX0_readBuy_23 : decode cX0_readBuy 23 = .ok (.ifCond .eq 11, 3) := by decide +kernel
theorem dX0_readBuy_26 : decode cX0_readBuy 26 = .ok (.aload_n 0, 1) := by decide +kernel
theorem dX0_readBuy_27 : decode cX0_readBuy 27 = .ok (.getfield 12, 3) := by decide +kernel
theorem dX0_readBuy_30 : decode cX0_readBuy 30 = .ok (.iload_n 1, 1) := by decide +kernel
theorem dX0_readBuy_31 : decode cX0_readBuy 31 = .ok (.invokevirtual 114, 3) := by decide +kernel
theorem dX0_readBuy_34 : decode cX0_readBuy 34 = .ok (.return_, 1) := by decide +kernel
theorem dX0_fail_0 : decode cX0_fail 0 = .ok (.aload_n 0, 1) := by decide +kernel
theorem dX0_fail_1 : decode cX0_fail 1 = .ok (.getfield 18, 3) := by decide +kernel
theorem dX0_fail_4 : decode cX0_fail 4 = .ok (.iconst (-1), 1) := by decide +kernel
theorem dX0_fail_5 : decode cX0_fail 5 = .ok (.if_icmp .ne 11, 3) := by decide +kernel
theorem dX0_fail_8 : decode cX0_fail 8 = .ok (.aload_n 0, 1) := by decide +kernel
theorem dX0_fail_9 : decode cX0_fail 9 = .ok (.aload_n 0, 1) := by decide +kernel
theorem dX0_fail_10 : decode cX0_fail 10 = .ok (.getfield 99, 3) := by decide +kernel
theorem dX0_fail_13 : decode cX0_fail 13 = .ok (.putfield 18, 3) := by decide +kernel
theorem dX0_fail_16 : decode cX0_fail 16 = .ok (.return_, 1) := by decide +kernel
set_option maxRecDepth 20000 in
theorem ggX0_takeNumber_X4_isIn : GoodIn wsX0_takeNumber wsX4_isIn := goodIn_r _ [6] (by decide +kernel) (by decide +kernel)
set_option maxRecDepth 20000 in
theorem gX0_takeNumber_X4_isIn_n121 : GoodIn wsX0_takeNumber (wsX4_isIn) := ggX0_takeNumber_X4_isIn
set_option maxRecDepth 20000 in
theorem ggX0_takeNumber_X0_fail : GoodIn wsX0_takeNumber wsX0_fail := goodIn_r _ [11, 1, 12, 26, 27, 28, 29, 30, 31, 32, 33, 34] (by decide +kernel) (by decide +kernel)
set_option maxRecDepth 20000 in
theorem gX0_takeNumber_X0_fail : GoodIn wsX0_takeNumber (wsV RX0 85 RX0 yX0_fail wsX0_fail) := goodIn_app (goodIn_of _ (by decide +kernel)) ggX0_takeNumber_X0_fail
set_option maxRecDepth 20000 in
theorem ggX0_takeNumber_X0_goToToken : GoodIn wsX0_takeNumber wsX0_goToToken := goodIn_r _ [16, 17, 18, 19, 12, 2, 3, 20, 21, 10, 22, 23, 24, 25, 26, 27, 28, 29, 30, 31, 32, 33, 34] (by decide +kernel) (by decide +kernel)
set_option maxRecDepth 20000 in
theorem gX0_takeNumber_X0_goToToken : GoodIn wsX0_takeNumber (wsV RX0 46 RX0 yX0_goToToken wsX0_goToToken) := goodIn_app (goodIn_of _ (by decide +kernel)) ggX0_takeNumber_X0_goToToken
theorem dX0_takeNumber_0 : decode cX0_takeNumber 0 = .ok (.aload_n 0, 1) := by decide +kernel
theorem dX0_takeNumber_1 : decode cX0_takeNumber 1 = .ok (.getfield 18, 3) := by decide +kernel
theorem dX0_takeNumber_4 : decode cX0_takeNumber 4 = .ok (.iconst (-1), 1) := by decide +kernel
theorem dX0_takeNumber_5 : decode cX0_takeNumber 5 = .ok (.if_icmp .ne 23, 3) := by decide +kernel
theorem dX0_takeNumber_8 : decode cX0_takeNumber 8 = .ok (.aload_n 0, 1) := by decide +kernel
theorem dX0_takeNumber_9 : decode cX0_takeNumber 9 = .ok (.getfield 49, 3) := by decide +kernel
theorem dX0_takeNumber_12 : decode cX0_takeNumber 12 = .ok (.iconst 2, 1) := by decide +kernel
theorem dX0_takeNumber_13 : decode cX0_takeNumber 13 = .ok (.if_icmp .ne 15, 3) := by decide +kernel
theorem dX0_takeNumber_16 : decode cX0_takeNumber 16 = .ok (.aload_n 0, 1) := by decide +kernel
theorem dX0_takeNumber_17 : decode cX0_takeNumber 17 = .ok (.getfield 118, 3) := by decide +kernel
theorem dX0_takeNumber_20 : decode cX0_takeNumber 20 = .ok (.iload_n 1, 1) := by decide +kernel
theorem dX0_takeNumber_21 : decode cX0_takeNumber 21 = .ok (.iload_n 2, 1) := by decide +kernel
theorem dX0_takeNumber_22 : decode cX0_takeNumber 22 = .ok (.invokestatic 121, 3) := by decide +kernel
theorem dX0_takeNumber_25 : decode cX0_takeNumber 25 = .ok (.ifCond .ne 9, 3) := by decide +kernel
theorem dX0_takeNumber_28 : decode cX0_takeNumber 28 = .ok (.aload_n 0, 1) := by decide +kernel
theorem dX0_takeNumber_29 : decode cX0_takeNumber 29 = .ok (.invokevirtual 85, 3) := by decide +kernel
theorem dX0_takeNumber_32 : decode cX0_takeNumber 32 = .ok (.iconst 0, 1) := by decide +kernel
theorem dX0_takeNumber_33 : decode cX0_takeNumber 33 = .ok (.ireturn, 1) := by decide +kernel
theorem dX0_takeNumber_34 : decode cX0_takeNumber 34 = .ok (.aload_n 0, 1) := by decide +kernel
theorem dX0_takeNumber_35 : decode cX0_takeNumber 35 = .ok (.getfield 118, 3) := by decide +kernel
theorem dX0_takeNumber_38 : decode cX0_takeNumber 38 = .ok (.istore_n 3, 1) := by decide +kernel
theorem dX0_takeNumber_39 : decode cX0_takeNumber 39 = .ok (.aload_n 0, 1) := by decide +kernel
theorem dX0_takeNumber_40 : decode cX0_takeNumber 40 = .ok (.invokevirtual 46, 3) := by decide +kernel
theorem dX0_takeNumber_43 : decode cX0_takeNumber 43 = .ok (.iload_n 3, 1) := by decide +kernel
theorem dX0_takeNumber_44 : decode cX0_takeNumber 44 = .ok (.ireturn, 1) := by decide +kernel
set_option maxRecDepth 20000 in
theorem ggX0_takeStop_X0_fail : GoodIn wsX0_takeStop wsX0_fail := goodIn_r _ [7, 1, 8, 23, 24, 25, 26, 27, 28, 29, 30, 31] (by decide +kernel) (by decide +kernel)
set_option maxRecDepth 20000 in
theorem gX0_takeStop_X0_fail : GoodIn wsX0_takeStop (wsV RX0 85 RX0 yX0_fail wsX0_fail) := goodIn_app (goodIn_of _ (by decide +kernel)) ggX0_takeStop_X0_fail
set_option maxRecDepth 20000 in
theorem ggX0_takeStop_X0_goToToken : GoodIn wsX0_takeStop wsX0_goToToken := goodIn_r _ [12, 13, 14, 15, 8, 2, 16, 17, 18, 6, 19, 20, 21, 22, 23, 24, 25, 26, 27, 28, 29, 30, 31] (by decide +kernel) (by decide +kernel)
set_option maxRecDepth 20000 in
theorem gX0_takeStop_X0_goToToken : GoodIn wsX0_takeStop (wsV RX0 46 RX0 yX0_goToToken wsX0_goToToken) := goodIn_app (goodIn_of _ (by decide +kernel)) ggX0_takeStop_X0_goToToken
theorem dX0_takeStop_0 : decode cX0_takeStop 0 = .ok (.aload_n 0, 1) := by decide +kernel
theorem dX0_takeStop_1 : decode cX0_takeStop 1 = .ok (.getfield 18, 3) := by decide +kernel
theorem dX0_takeStop_4 : decode cX0_takeStop 4 = .ok (.iconst (-1), 1) := by decide +kernel
theorem dX0_takeStop_5 : decode cX0_takeStop 5 = .ok (.if_icmp .ne 11, 3) := by decide +kernel
theorem dX0_takeStop_8 : decode cX0_takeStop 8 = .ok (.aload_n 0, 1) := by decide +kernel
theorem dX0_takeStop_9 : decode cX0_takeStop 9 = .ok (.getfield 49, 3) := by decide +kernel
theorem dX0_takeStop_12 : decode cX0_takeStop 12 = .ok (.iconst 3, 1) := by decide +kernel
theorem dX0_takeStop_13 : decode cX0_takeStop 13 = .ok (.if_icmp .eq 9, 3) := by decide +kernel
theorem dX0_takeStop_16 : decode cX0_takeStop 16 = .ok (.aload_n 0, 1) := by decide +kernel
theorem dX0_takeStop_17 : decode cX0_takeStop 17 = .ok (.invokevirtual 85, 3) := by decide +kernel
theorem dX0_takeStop_20 : decode cX0_takeStop 20 = .ok (.iconst 0, 1) := by decide +kernel
theorem dX0_takeStop_21 : decode cX0_takeStop 21 = .ok (.ireturn, 1) := by decide +kernel
theorem dX0_takeStop_22 : decode cX0_takeStop 22 = .ok (.aload_n 0, 1) := by decide +kernel
theorem dX0_takeStop_23 : decode cX0_takeStop 23 = .ok (.invokevirtual 46, 3) := by decide +kernel
theorem dX0_takeStop_26 : decode cX0_takeStop 26 = .ok (.iconst 1, 1) := by decide +kernel
theorem dX0_takeStop_27 : decode cX0_takeStop 27 = .ok (.ireturn, 1) := by decide +kernel
set_option maxRecDepth 20000 in
theorem ggX0_isWord_J0_length_8abf5 : GoodIn wsX0_isWord wsJ0_length_8abf5 := goodIn_r _ [9, 10, 11, 12, 13, 8, 14, 15, 16] (by decide +kernel) (by decide +kernel)
set_option maxRecDepth 20000 in
theorem gX0_isWord_J0_length_8abf5 : GoodIn wsX0_isWord (wsV RX0 125 RJ0 yJ0_length_8abf5 wsJ0_length_8abf5) := goodIn_app (goodIn_of _ (by decide +kernel)) ggX0_isWord_J0_length_8abf5
set_option maxRecDepth 20000 in
theorem ggX0_isWord_J0_charAt_5068e : GoodIn wsX0_isWord wsJ0_charAt_5068e := goodIn_r _ [20, 10, 21, 22, 23, 8, 24, 15, 16, 25, 26, 27, 28, 29, 30, 31, 32, 33, 34, 35, 36, 37, 38, 39, 40, 41, 42, 43, 44, 45, 46, 47, 48, 49, 50, 51, 52, 53] (by decide +kernel) (by decide +kernel)
set_option maxRecDepth 20000 in
theorem gX0_isWord_J0_charAt_5068e : GoodIn wsX0_isWord (wsV RX0 130 RJ0 yJ0_charAt_5068e wsJ0_charAt_5068e) := goodIn_app (goodIn_of _ (by decide +kernel)) ggX0_isWord_J0_charAt_5068e
theorem dX0_isWord_0 : decode cX0_isWord 0 = .ok (.aload_n 0, 1) := by decide +kernel
theorem dX0_isWord_1 : decode cX0_isWord 1 = .ok (.getfield 49, 3) := by decide +kernel
theorem dX0_isWord_4 : decode cX0_isWord 4 = .ok (.iconst 1, 1) := by decide +kernel
theorem dX0_isWord_5 : decode cX0_isWord 5 = .ok (.if_icmp .ne 19, 3) := by decide +kernel
theorem dX0_isWord_8 : decode cX0_isWord 8 = .ok (.aload_n 0, 1) := by decide +kernel
theorem dX0_isWord_9 : decode cX0_isWord 9 = .ok (.getfield 40, 3) := by decide +kernel
theorem dX0_isWord_12 : decode cX0_isWord 12 = .ok (.aload_n 0, 1) := by decide +kernel
theorem dX0_isWord_13 : decode cX0_isWord 13 = .ok (.getfield 99, 3) := by decide +kernel
theorem dX0_isWord_16 : decode cX0_isWord 16 = .ok (.isub, 1) := by decide +kernel
theorem dX0_isWord_17 : decode cX0_isWord 17 = .ok (.aload_n 1, 1) := by decide +kernel
theorem dX0_isWord_18 : decode cX0_isWord 18 = .ok (.invokevirtual 125, 3) := by decide +kernel
theorem dX0_isWord_21 : decode cX0_isWord 21 = .ok (.if_icmp .eq 5, 3) := by decide +kernel
theorem dX0_isWord_24 : decode cX0_isWord 24 = .ok (.iconst 0, 1) := by decide +kernel
theorem dX0_isWord_25 : decode cX0_isWord 25 = .ok (.ireturn, 1) := by decide +kernel
theorem dX0_isWord_26 : decode cX0_isWord 26 = .ok (.iconst 0, 1) := by decide +kernel
theorem dX0_isWord_27 : decode cX0_isWord 27 = .ok (.istore_n 2, 1) := by decide +kernel
theorem dX0_isWord_28 : decode cX0_isWord 28 = .ok (.iload_n 2, 1) := by decide +kernel
theorem dX0_isWord_29 : decode cX0_isWord 29 = .ok (.aload_n 1, 1) := by decide +kernel
theorem dX0_isWord_30 : decode cX0_isWord 30 = .ok (.invokevirtual 125, 3) := by decide +kernel
theorem dX0_isWord_33 : decode cX0_isWord 33 = .ok (.if_icmp .ge 30, 3) := by decide +kernel
theorem dX0_isWord_36 : decode cX0_isWord 36 = .ok (.aload_n 0, 1) := by decide +kernel
theorem dX0_isWord_37 : decode cX0_isWord 37 = .ok (.getfield 29, 3) := by decide +kernel
theorem dX0_isWord_40 : decode cX0_isWord 40 = .ok (.aload_n 0, 1) := by decide +kernel
theorem dX0_isWord_41 : decode cX0_isWord 41 = .ok (.getfield 99, 3) := by decide +kernel
theorem dX0_isWord_44 : decode cX0_isWord 44 = .ok (.iload_n 2, 1) := by decide +kernel
theorem dX0_isWord_45 : decode cX0_isWord 45 = .ok (.iadd, 1) := by decide +kernel
theorem dX0_isWord_46 : decode cX0_isWord 46 = .ok (.iaload, 1) := by decide +kernel
theorem dX0_isWord_47 : decode cX0_isWord 47 = .ok (.aload_n 1, 1) := by decide +kernel
theorem dX0_isWord_48 : decode cX0_isWord 48 = .ok (.iload_n 2, 1) := by decide +kernel
theorem dX0_isWord_49 : decode cX0_isWord 49 = .ok (.invokevirtual 130, 3) := by decide +kernel
theorem dX0_isWord_52 : decode cX0_isWord 52 = .ok (.if_icmp .eq 5, 3) := by decide +kernel
theorem dX0_isWord_55 : decode cX0_isWord 55 = .ok (.iconst 0, 1) := by decide +kernel
theorem dX0_isWord_56 : decode cX0_isWord 56 = .ok (.ireturn, 1) := by decide +kernel
theorem dX0_isWord_57 : decode cX0_isWord 57 = .ok (.iinc 2 1, 3) := by decide +kernel
theorem dX0_isWord_60 : decode cX0_isWord 60 = .ok (.goto (-32), 3) := by decide +kernel
theorem dX0_isWord_63 : decode cX0_isWord 63 = .ok (.iconst 1, 1) := by decide +kernel
theorem dX0_isWord_64 : decode cX0_isWord 64 = .ok (.ireturn, 1) := by decide +kernel
theorem dX0_isLetter_0 : decode cX0_isLetter 0 = .ok (.iload_n 0, 1) := by decide +kernel
theorem dX0_isLetter_1 : decode cX0_isLetter 1 = .ok (.bipush 97, 2) := by decide +kernel
theorem dX0_isLetter_3 : decode cX0_isLetter 3 = .ok (.if_icmp .lt 13, 3) := by decide +kernel
theorem dX0_isLetter_6 : decode cX0_isLetter 6 = .ok (.iload_n 0, 1) := by decide +kernel
theorem dX0_isLetter_7 : decode cX0_isLetter 7 = .ok (.bipush 122, 2) := by decide +kernel
theorem dX0_isLetter_9 : decode cX0_isLetter 9 = .ok (.if_icmp .gt 7, 3) := by decide +kernel
theorem dX0_isLetter_12 : decode cX0_isLetter 12 = .ok (.iconst 1, 1) := by decide +kernel
theorem dX0_isLetter_13 : decode cX0_isLetter 13 = .ok (.goto 4, 3) := by decide +kernel
theorem dX0_isLetter_16 : decode cX0_isLetter 16 = .ok (.iconst 0, 1) := by decide +kernel
theorem dX0_isLetter_17 : decode cX0_isLetter 17 = .ok (.ireturn, 1) := by decide +kernel
theorem dX0_isFigure_0 : decode cX0_isFigure 0 = .ok (.iload_n 0, 1) := by decide +kernel
theorem dX0_isFigure_1 : decode cX0_isFigure 1 = .ok (.bipush 48, 2) := by decide +kernel
theorem dX0_isFigure_3 : decode cX0_isFigure 3 = .ok (.if_icmp .lt 13, 3) := by decide +kernel
theorem dX0_isFigure_6 : decode cX0_isFigure 6 = .ok (.iload_n 0, 1) := by decide +kernel
theorem dX0_isFigure_7 : decode cX0_isFigure 7 = .ok (.bipush 57, 2) := by decide +kernel
theorem dX0_isFigure_9 : decode cX0_isFigure 9 = .ok (.if_icmp .gt 7, 3) := by decide +kernel
theorem dX0_isFigure_12 : decode cX0_isFigure 12 = .ok (.iconst 1, 1) := by decide +kernel
theorem dX0_isFigure_13 : decode cX0_isFigure 13 = .ok (.goto 4, 3) := by decide +kernel
theorem dX0_isFigure_16 : decode cX0_isFigure 16 = .ok (.iconst 0, 1) := by decide +kernel
theorem dX0_isFigure_17 : decode cX0_isFigure 17 = .ok (.ireturn, 1) := by decide +kernel
set_option maxRecDepth 20000 in
theorem ggX0_goToToken_X0_isLetter : GoodIn wsX0_goToToken wsX0_isLetter := goodIn_r _ [10] (by decide +kernel) (by decide +kernel)
set_option maxRecDepth 20000 in
theorem gX0_goToToken_X0_isLetter : GoodIn wsX0_goToToken (va_wsS RX0 134 yX0_isLetter wsX0_isLetter) := goodIn_app (goodIn_of _ (by decide +kernel)) ggX0_goToToken_X0_isLetter
set_option maxRecDepth 20000 in
theorem ggX0_goToToken_X0_isFigure : GoodIn wsX0_goToToken wsX0_isFigure := goodIn_r _ [13] (by decide +kernel) (by decide +kernel)
set_option maxRecDepth 20000 in
theorem gX0_goToToken_X0_isFigure : GoodIn wsX0_goToToken (va_wsS RX0 138 yX0_isFigure wsX0_isFigure) := goodIn_app (goodIn_of _ (by decide +kernel)) ggX0_goToToken_X0_isFigure
theorem dX0_goToToken_0 : decode cX0_goToToken 0 = .ok (.aload_n 0, 1) := by decide +kernel
theorem dX0_goToToken_1 : decode cX0_goToToken 1 = .ok (.getfield 40, 3) := by decide +kernel
theorem dX0_goToToken_4 : decode cX0_goToToken 4 = .ok (.aload_n 0, 1) := by decide +kernel
theorem dX0_goToToken_5 : decode cX0_goToToken 5 = .ok (.getfield 39, 3) := by decide +kernel
theorem dX0_goToToken_8 : decode cX0_goToToken 8 = .ok (.if_icmp .ge 30, 3) := by decide +kernel
theorem dX0_goToToken_11 : decode cX0_goToToken 11 = .ok (.aload_n 0, 1) := by decide +kernel
theorem dX0_goToToken_12 : decode cX0_goToToken 12 = .ok (.getfield 29, 3) := by decide +kernel
theorem dX0_goToToken_15 : decode cX0_goToToken 15 = .ok (.aload_n 0, 1) := by decide +kernel
theorem dX0_goToToken_16 : decode cX0_goToToken 16 = .ok (.getfield 40, 3) := by decide +kernel
theorem dX0_goToToken_19 : decode cX0_goToToken 19 = .ok (.iaload, 1) := by decide +kernel
theorem dX0_goToToken_20 : decode cX0_goToToken 20 = .ok (.bipush 32, 2) := by decide +kernel
theorem dX0_goToToken_22 : decode cX0_goToToken 22 = .ok (.if_icmp .ne 16, 3) := by decide +kernel
theorem dX0_goToToken_25 : decode cX0_goToToken 25 = .ok (.aload_n 0, 1) := by decide +kernel
theorem dX0_goToToken_26 : decode cX0_goToToken 26 = .ok (.dup, 1) := by decide +kernel
theorem dX0_goToToken_27 : decode cX0_goToToken 27 = .ok (.getfield 40, 3) := by decide +kernel
theorem dX0_goToToken_30 : decode cX0_goToToken 30 = .ok (.iconst 1, 1) := by decide +kernel
theorem dX0_goToToken_31 : decode cX0_goToToken 31 = .ok (.iadd, 1) := by decide +kernel
theorem dX0_goToToken_32 : decode cX0_goToToken 32 = .ok (.putfield 40, 3) := by decide +kernel
theorem dX0_goToToken_35 : decode cX0_goToToken 35 = .ok (.goto (-35), 3) := by decide +kernel
theorem dX0_goToToken_38 : decode cX0_goToToken 38 = .ok (.aload_n 0, 1) := by decide +kernel
theorem dX0_goToToken_39 : decode cX0_goToToken 39 = .ok (.aload_n 0, 1) := by decide +kernel
theorem dX0_goToToken_40 : decode cX0_goToToken 40 = .ok (.getfield 40, 3) := by decide +kernel
theorem dX0_goToToken_43 : decode cX0_goToToken 43 = .ok (.putfield 99, 3) := by decide +kernel
theorem dX0_goToToken_46 : decode cX0_goToToken 46 = .ok (.aload_n 0, 1) := by decide +kernel
theorem dX0_goToToken_47 : decode cX0_goToToken 47 = .ok (.getfield 40, 3) := by decide +kernel
theorem dX0_goToToken_50 : decode cX0_goToToken 50 = .ok (.aload_n 0, 1) := by decide +kernel
theorem dX0_goToToken_51 : decode cX0_goToToken 51 = .ok (.getfield 39, 3) := by decide +kernel
theorem dX0_goToToken_54 : decode cX0_goToToken 54 = .ok (.if_icmp .lt 11, 3) := by decide +kernel
theorem dX0_goToToken_57 : decode cX0_goToToken 57 = .ok (.aload_n 0, 1) := by decide +kernel
theorem dX0_goToToken_58 : decode cX0_goToToken 58 = .ok (.iconst 0, 1) := by decide +kernel
theorem dX0_goToToken_59 : decode cX0_goToToken 59 = .ok (.putfield 49, 3) := by decide +kernel
theorem dX0_goToToken_62 : decode cX0_goToToken 62 = .ok (.goto 200, 3) := by decide +kernel
theorem dX0_goToToken_65 : decode cX0_goToToken 65 = .ok (.aload_n 0, 1) := by decide +kernel
theorem dX0_goToToken_66 : decode cX0_goToToken 66 = .ok (.getfield 29, 3) := by decide +kernel
theorem dX0_goToToken_69 : decode cX0_goToToken 69 = .ok (.aload_n 0, 1) := by decide +kernel
theorem dX0_goToToken_70 : decode cX0_goToToken 70 = .ok (.getfield 40, 3) := by decide +kernel
theorem dX0_goToToken_73 : decode cX0_goToToken 73 = .ok (.iaload, 1) := by decide +kernel
theorem dX0_goToToken_74 : decode cX0_goToToken 74 = .ok (.invokestatic 134, 3) := by decide +kernel
theorem dX0_goToToken_77 : decode cX0_goToToken 77 = .ok (.ifCond .eq 47, 3) := by decide +kernel
theorem dX0_goToToken_80 : decode cX0_goToToken 80 = .ok (.aload_n 0, 1) := by decide +kernel
theorem dX0_goToToken_81 : decode cX0_goToToken 81 = .ok (.iconst 1, 1) := by decide +kernel
theorem dX0_goToToken_82 : decode cX0_goToToken 82 = .ok (.putfield 49, 3) := by decide +kernel
theorem dX0_goToToken_85 : decode cX0_goToToken 85 = .ok (.aload_n 0, 1) := by decide +kernel
theorem dX0_goToToken_86 : decode cX0_goToToken 86 = .ok (.getfield 40, 3) := by decide +kernel
theorem dX0_goToToken_89 : decode cX0_goToToken 89 = .ok (.aload_n 0, 1) := by decide +kernel
theorem dX0_goToToken_90 : decode cX0_goToToken 90 = .ok (.getfield 39, 3) := by decide +kernel
theorem dX0_goToToken_93 : decode cX0_goToToken 93 = .ok (.if_icmp .ge 169, 3) := by decide +kernel
theorem dX0_goToToken_96 : decode cX0_goToToken 96 = .ok (.aload_n 0, 1) := by decide +kernel
theorem dX0_goToToken_97 : decode cX0_goToToken 97 = .ok (.getfield 29, 3) := by decide +kernel
theorem dX0_goToToken_100 : decode cX0_goToToken 100 = .ok (.aload_n 0, 1) := by decide +kernel
theorem dX0_goToToken_101 : decode cX0_goToToken 101 = .ok (.getfield 40, 3) := by decide +kernel
theorem dX0_goToToken_104 : decode cX0_goToToken 104 = .ok (.iaload, 1) := by decide +kernel
theorem dX0_goToToken_105 : decode cX0_goToToken 105 = .ok (.invokestatic 134, 3) := by decide +kernel
theorem dX0_goToToken_108 : decode cX0_goToToken 108 = .ok (.ifCond .eq 154, 3) := by decide +kernel
theorem dX0_goToToken_111 : decode cX0_goToToken 111 = .ok (.aload_n 0, 1) := by decide +kernel
theorem dX0_goToToken_112 : decode cX0_goToToken 112 = .ok (.dup, 1) := by decide +kernel
theorem dX0_goToToken_113 : decode cX0_goToToken 113 = .ok (.getfield 40, 3) := by decide +kernel
theorem dX0_goToToken_116 : decode cX0_goToToken 116 = .ok (.iconst 1, 1) := by decide +kernel
theorem dX0_goToToken_117 : decode cX0_goToToken 117 = .ok (.iadd, 1) := by decide +kernel
theorem dX0_goToToken_118 : decode cX0_goToToken 118 = .ok (.putfield 40, 3) := by decide +kernel
theorem dX0_goToToken_121 : decode cX0_goToToken 121 = .ok (.goto (-36), 3) := by decide +kernel
theorem dX0_goToToken_124 : decode cX0_goToToken 124 = .ok (.aload_n 0, 1) := by decide +kernel
theorem dX0_goToToken_125 : decode cX0_goToToken 125 = .ok (.getfield 29, 3) := by decide +kernel
theorem dX0_goToToken_128 : decode cX0_goToToken 128 = .ok (.aload_n 0, 1) := by decide +kernel
theorem dX0_goToToken_129 : decode cX0_goToToken 129 = .ok (.getfield 40, 3) := by decide +kernel
theorem dX0_goToToken_132 : decode cX0_goToToken 132 = .ok (.iaload, 1) := by decide +kernel
theorem dX0_goToToken_133 : decode cX0_goToToken 133 = .ok (.invokestatic 138, 3) := by decide +kernel
theorem dX0_goToToken_136 : decode cX0_goToToken 136 = .ok (.ifCond .eq 93, 3) := by decide +kernel
theorem dX0_goToToken_139 : decode cX0_goToToken 139 = .ok (.aload_n 0, 1) := by decide +kernel
theorem dX0_goToToken_140 : decode cX0_goToToken 140 = .ok (.iconst 2, 1) := by decide +kernel
theorem dX0_goToToken_141 : decode cX0_goToToken 141 = .ok (.putfield 49, 3) := by decide +kernel
theorem dX0_goToToken_144 : decode cX0_goToToken 144 = .ok (.aload_n 0, 1) := by decide +kernel
theorem dX0_goToToken_145 : decode cX0_goToToken 145 = .ok (.iconst 0, 1) := by decide +kernel
theorem dX0_goToToken_146 : decode cX0_goToToken 146 = .ok (.putfield 118, 3) := by decide +kernel
theorem dX0_goToToken_149 : decode cX0_goToToken 149 = .ok (.aload_n 0, 1) := by decide +kernel
theorem dX0_goToToken_150 : decode cX0_goToToken 150 = .ok (.getfield 40, 3) := by decide +kernel
theorem dX0_goToToken_153 : decode cX0_goToToken 153 = .ok (.aload_n 0, 1) := by decide +kernel
theorem dX0_goToToken_154 : decode cX0_goToToken 154 = .ok (.getfield 39, 3) := by decide +kernel
theorem dX0_goToToken_157 : decode cX0_goToToken 157 = .ok (.if_icmp .ge 105, 3) := by decide +kernel
theorem dX0_goToToken_160 : decode cX0_goToToken 160 = .ok (.aload_n 0, 1) := by decide +kernel
theorem dX0_goToToken_161 : decode cX0_goToToken 161 = .ok (.getfield 29, 3) := by decide +kernel
theorem dX0_goToToken_164 : decode cX0_goToToken 164 = .ok (.aload_n 0, 1) := by decide +kernel
theorem dX0_goToToken_165 : decode cX0_goToToken 165 = .ok (.getfield 40, 3) := by decide +kernel
theorem dX0_goToToken_168 : decode cX0_goToToken 168 = .ok (.iaload, 1) := by decide +kernel
theorem dX0_goToToken_169 : decode cX0_goToToken 169 = .ok (.invokestatic 138, 3) := by decide +kernel
theorem dX0_goToToken_172 : decode cX0_goToToken 172 = .ok (.ifCond .eq 90, 3) := by decide +kernel
theorem dX0_goToToken_175 : decode cX0_goToToken 175 = .ok (.aload_n 0, 1) := by decide +kernel
theorem dX0_goToToken_176 : decode cX0_goToToken 176 = .ok (.aload_n 0, 1) := by decide +kernel
theorem dX0_goToToken_177 : decode cX0_goToToken 177 = .ok (.getfield 40, 3) := by decide +kernel
theorem dX0_goToToken_180 : decode cX0_goToToken 180 = .ok (.aload_n 0, 1) := by decide +kernel
theorem dX0_goToToken_181 : decode cX0_goToToken 181 = .ok (.getfield 99, 3) := by decide +kernel
theorem dX0_goToToken_184 : decode cX0_goToToken 184 = .ok (.isub, 1) := by decide +kernel
theorem dX0_goToToken_185 : decode cX0_goToToken 185 = .ok (.iconst 3, 1) := by decide +kernel
theorem dX0_goToToken_186 : decode cX0_goToToken 186 = .ok (.if_icmp .ge 26, 3) := by decide +kernel
theorem dX0_goToToken_189 : decode cX0_goToToken 189 = .ok (.bipush 10, 2) := by decide +kernel
theorem dX0_goToToken_191 : decode cX0_goToToken 191 = .ok (.aload_n 0, 1) := by decide +kernel
theorem dX0_goToToken_192 : decode cX0_goToToken 192 = .ok (.getfield 118, 3) := by decide +kernel
theorem dX0_goToToken_195 : decode cX0_goToToken 195 = .ok (.imul, 1) := by decide +kernel
theorem dX0_goToToken_196 : decode cX0_goToToken 196 = .ok (.aload_n 0, 1) := by decide +kernel
theorem dX0_goToToken_197 : decode cX0_goToToken 197 = .ok (.getfield 29, 3) := by decide +kernel
theorem dX0_goToToken_200 : decode cX0_goToToken 200 = .ok (.aload_n 0, 1) := by decide +kernel
theorem dX0_goToToken_201 : decode cX0_goToToken 201 = .ok (.getfield 40, 3) := by decide +kernel
theorem dX0_goToToken_204 : decode cX0_goToToken 204 = .ok (.iaload, 1) := by decide +kernel
theorem dX0_goToToken_205 : decode cX0_goToToken 205 = .ok (.iadd, 1) := by decide +kernel
theorem dX0_goToToken_206 : decode cX0_goToToken 206 = .ok (.bipush 48, 2) := by decide +kernel
theorem dX0_goToToken_208 : decode cX0_goToToken 208 = .ok (.isub, 1) := by decide +kernel
theorem dX0_goToToken_209 : decode cX0_goToToken 209 = .ok (.goto 4, 3) := by decide +kernel
theorem dX0_goToToken_212 : decode cX0_goToToken 212 = .ok (.iconst (-1), 1) := by decide +kernel
theorem dX0_goToToken_213 : decode cX0_goToToken 213 = .ok (.putfield 118, 3) := by decide +kernel
theorem dX0_goToToken_216 : decode cX0_goToToken 216 = .ok (.aload_n 0, 1) := by decide +kernel
theorem dX0_goToToken_217 : decode cX0_goToToken 217 = .ok (.dup, 1) := by decide +kernel
theorem dX0_goToToken_218 : decode cX0_goToToken 218 = .ok (.getfield 40, 3) := by decide +kernel
theorem dX0_goToToken_221 : decode cX0_goToToken 221 = .ok (.iconst 1, 1) := by decide +kernel
theorem dX0_goToToken_222 : decode cX0_goToToken 222 = .ok (.iadd, 1) := by decide +kernel
theorem dX0_goToToken_223 : decode cX0_goToToken 223 = .ok (.putfield 40, 3) := by decide +kernel
theorem dX0_goToToken_226 : decode cX0_goToToken 226 = .ok (.goto (-77), 3) := by decide +kernel
theorem dX0_goToToken_229 : decode cX0_goToToken 229 = .ok (.aload_n 0, 1) := by decide +kernel
theorem dX0_goToToken_230 : decode cX0_goToToken 230 = .ok (.aload_n 0, 1) := by decide +kernel
theorem dX0_goToToken_231 : decode cX0_goToToken 231 = .ok (.getfield 29, 3) := by decide +kernel
theorem dX0_goToToken_234 : decode cX0_goToToken 234 = .ok (.aload_n 0, 1) := by decide +kernel
theorem dX0_goToToken_235 : decode cX0_goToToken 235 = .ok (.getfield 40, 3) := by decide +kernel
theorem dX0_goToToken_238 : decode cX0_goToToken 238 = .ok (.iaload, 1) := by decide +kernel
theorem dX0_goToToken_239 : decode cX0_goToToken 239 = .ok (.bipush 59, 2) := by decide +kernel
theorem dX0_goToToken_241 : decode cX0_goToToken 241 = .ok (.if_icmp .ne 7, 3) := by decide +kernel
theorem dX0_goToToken_244 : decode cX0_goToToken 244 = .ok (.iconst 3, 1) := by decide +kernel
theorem dX0_goToToken_245 : decode cX0_goToToken 245 = .ok (.goto 4, 3) := by decide +kernel
theorem dX0_goToToken_248 : decode cX0_goToToken 248 = .ok (.iconst 4, 1) := by decide +kernel
theorem dX0_goToToken_249 : decode cX0_goToToken 249 = .ok (.putfield 49, 3) := by decide +kernel
theorem dX0_goToToken_252 : decode cX0_goToToken 252 = .ok (.aload_n 0, 1) := by decide +kernel
theorem dX0_goToToken_253 : decode cX0_goToToken 253 = .ok (.dup, 1) := by decide +kernel
theorem dX0_goToToken_254 : decode cX0_goToToken 254 = .ok (.getfield 40, 3) := by decide +kernel
theorem dX0_goToToken_257 : decode cX0_goToToken 257 = .ok (.iconst 1, 1) := by decide +kernel
theorem dX0_goToToken_258 : decode cX0_goToToken 258 = .ok (.iadd, 1) := by decide +kernel
theorem dX0_goToToken_259 : decode cX0_goToToken 259 = .ok (.putfield 40, 3) := by decide +kernel
theorem dX0_goToToken_262 : decode cX0_goToToken 262 = .ok (.return_, 1) := by decide +kernel
theorem dX1_init_0 : decode cX1_init 0 = .ok (.aload_n 0, 1) := by decide +kernel
theorem dX1_init_1 : decode cX1_init 1 = .ok (.invokespecial 3, 3) := by decide +kernel
theorem dX1_init_4 : decode cX1_init 4 = .ok (.aload_n 0, 1) := by decide +kernel
theorem dX1_init_5 : decode cX1_init 5 = .ok (.bipush 6, 2) := by decide +kernel
theorem dX1_init_7 : decode cX1_init 7 = .ok (.newarray .int, 2) := by decide +kernel
theorem dX1_init_9 : decode cX1_init 9 = .ok (.putfield 9, 3) := by decide +kernel
theorem dX1_init_12 : decode cX1_init 12 = .ok (.aload_n 0, 1) := by decide +kernel
theorem dX1_init_13 : decode cX1_init 13 = .ok (.bipush 6, 2) := by decide +kernel
theorem dX1_init_15 : decode cX1_init 15 = .ok (.newarray .int, 2) := by decide +kernel
theorem dX1_init_17 : decode cX1_init 17 = .ok (.putfield 15, 3) := by decide +kernel
theorem dX1_init_20 : decode cX1_init 20 = .ok (.aload_n 0, 1) := by decide +kernel
theorem dX1_init_21 : decode cX1_init 21 = .ok (.aload_n 1, 1) := by decide +kernel
theorem dX1_init_22 : decode cX1_init 22 = .ok (.putfield 18, 3) := by decide +kernel
theorem dX1_init_25 : decode cX1_init 25 = .ok (.aload_n 0, 1) := by decide +kernel
theorem dX1_init_26 : decode cX1_init 26 = .ok (.aload_n 2, 1) := by decide +kernel
theorem dX1_init_27 : decode cX1_init 27 = .ok (.putfield 22, 3) := by decide +kernel
theorem dX1_init_30 : decode cX1_init 30 = .ok (.return_, 1) := by decide +kernel
set_option maxRecDepth 20000 in
theorem ggX1_findCheapest_X1_expect : GoodIn wsX1_findCheapest wsX1_expect := goodIn_r _ [8, 9, 3, 10, 11, 89, 90, 91, 92, 93, 94, 95, 96, 97, 98, 99, 100] (by decide +kernel) (by decide +kernel)
set_option maxRecDepth 20000 in
theorem gX1_findCheapest_X1_expect : GoodIn wsX1_findCheapest (wsV RX1 34 RX1 yX1_expect wsX1_expect) := goodIn_app (goodIn_of _ (by decide +kernel)) ggX1_findCheapest_X1_expect
set_option maxRecDepth 20000 in
theorem ggX1_findCheapest_X1_goOn : GoodIn wsX1_findCheapest wsX1_goOn := goodIn_r _ [15, 16, 17, 9, 18, 2, 19, 20, 21, 22, 23, 7, 24, 10, 11, 25, 26, 27, 28, 1, 29, 30, 31, 32, 33, 34, 3, 35, 36, 37, 38, 39, 40, 41, 42, 43, 44, 45, 46, 47, 48, 49, 50, 51, 52, 53, 54, 55, 56, 57, 58, 59, 60, 61, 62, 63, 64, 65, 66, 67, 68, 69, 70, 71, 72, 73, 74, 75, 76, 77, 78, 79, 80, 81, 82, 83, 84, 85, 86, 87, 88, 12, 13, 14, 89, 90, 91, 92, 93, 94, 95, 96, 97, 98, 99, 100, 101, 102, 103, 104, 105, 106, 107, 108, 109, 110, 111, 112, 113, 114, 115, 116, 117, 118, 119, 120, 121, 122, 123] (by decide +kernel) (by decide +kernel)
set_option maxRecDepth 20000 in
theorem gX1_findCheapest_X1_goOn : GoodIn wsX1_findCheapest (wsV RX1 38 RX1 yX1_goOn wsX1_goOn) := goodIn_app (goodIn_of _ (by decide +kernel)) ggX1_findCheapest_X1_goOn
theorem dX1_findCheapest_0 : decode cX1_findCheapest 0 = .ok (.aload_n 0, 1) := by decide +kernel
theorem dX1_findCheapest_1 : decode cX1_findCheapest 1 = .ok (.iconst 0, 1) := by decide +kernel
theorem dX1_findCheapest_2 : decode cX1_findCheapest 2 = .ok (.putfield 26, 3) := by decide +kernel
theorem dX1_findCheapest_5 : decode cX1_findCheapest 5 = .ok (.aload_n 0, 1) := by decide +kernel
theorem dX1_findCheapest_6 : decode cX1_findCheapest 6 = .ok (.iload_n 3, 1) := by decide +kernel
theorem dX1_findCheapest_7 : decode cX1_findCheapest 7 = .ok (.putfield 30, 3) := by decide +kernel
theorem dX1_findCheapest_10 : decode cX1_findCheapest 10 = .ok (.aload_n 0, 1) := by decide +kernel
theorem dX1_findCheapest_11 : decode cX1_findCheapest 11 = .ok (.iload_n 1, 1) := by decide +kernel
theorem dX1_findCheapest_12 : decode cX1_findCheapest 12 = .ok (.iload_n 2, 1) := by decide +kernel
theorem dX1_findCheapest_13 : decode cX1_findCheapest 13 = .ok (.invokevirtual 34, 3) := by decide +kernel
theorem dX1_findCheapest_16 : decode cX1_findCheapest 16 = .ok (.aload_n 0, 1) := by decide +kernel
theorem dX1_findCheapest_17 : decode cX1_findCheapest 17 = .ok (.iconst 0, 1) := by decide +kernel
theorem dX1_findCheapest_18 : decode cX1_findCheapest 18 = .ok (.invokevirtual 38, 3) := by decide +kernel
theorem dX1_findCheapest_21 : decode cX1_findCheapest 21 = .ok (.aload_n 0, 1) := by decide +kernel
theorem dX1_findCheapest_22 : decode cX1_findCheapest 22 = .ok (.getfield 42, 3) := by decide +kernel
theorem dX1_findCheapest_25 : decode cX1_findCheapest 25 = .ok (.ireturn, 1) := by decide +kernel
set_option maxRecDepth 20000 in
theorem ggX1_findSoonest_X1_expect : GoodIn wsX1_findSoonest wsX1_expect := goodIn_r _ [8, 9, 3, 10, 11, 89, 90, 91, 92, 93, 94, 95, 96, 97, 98, 99, 100] (by decide +kernel) (by decide +kernel)
set_option maxRecDepth 20000 in
theorem gX1_findSoonest_X1_expect : GoodIn wsX1_findSoonest (wsV RX1 34 RX1 yX1_expect wsX1_expect) := goodIn_app (goodIn_of _ (by decide +kernel)) ggX1_findSoonest_X1_expect
set_option maxRecDepth 20000 in
theorem ggX1_findSoonest_X1_goOn : GoodIn wsX1_findSoonest wsX1_goOn := goodIn_r _ [15, 16, 17, 9, 18, 2, 19, 20, 21, 22, 23, 7, 24, 10, 11, 25, 26, 27, 28, 1, 29, 30, 31, 32, 33, 34, 3, 35, 36, 37, 38, 39, 40, 41, 42, 43, 44, 45, 46, 47, 48, 49, 50, 51, 52, 53, 54, 55, 56, 57, 58, 59, 60, 61, 62, 63, 64, 65, 66, 67, 68, 69, 70, 71, 72, 73, 74, 75, 76, 77, 78, 79, 80, 81, 82, 83, 84, 85, 86, 87, 88, 12, 13, 14, 89, 90, 91, 92, 93, 94, 95, 96, 97, 98, 99, 100, 101, 102, 103, 104, 105, 106, 107, 108, 109, 110, 111, 112, 113, 114, 115, 116, 117, 118, 119, 120, 121, 122, 123] (by decide +kernel) (by decide +kernel)
set_option maxRecDepth 20000 in
theorem gX1_findSoonest_X1_goOn : GoodIn wsX1_findSoonest (wsV RX1 38 RX1 yX1_goOn wsX1_goOn) := goodIn_app (goodIn_of _ (by decide +kernel)) ggX1_findSoonest_X1_goOn
theorem dX1_findSoonest_0 : decode cX1_findSoonest 0 = .ok (.aload_n 0, 1) := by decide +kernel
theorem dX1_findSoonest_1 : decode cX1_findSoonest 1 = .ok (.iconst 1, 1) := by decide +kernel
theorem dX1_findSoonest_2 : decode cX1_findSoonest 2 = .ok (.putfield 26, 3) := by decide +kernel
theorem dX1_findSoonest_5 : decode cX1_findSoonest 5 = .ok (.aload_n 0, 1) := by decide +kernel
theorem dX1_findSoonest_6 : decode cX1_findSoonest 6 = .ok (.iconst 0, 1) := by decide +kernel
theorem dX1_findSoonest_7 : decode cX1_findSoonest 7 = .ok (.putfield 30, 3) := by decide +kernel
theorem dX1_findSoonest_10 : decode cX1_findSoonest 10 = .ok (.aload_n 0, 1) := by decide +kernel
theorem dX1_findSoonest_11 : decode cX1_findSoonest 11 = .ok (.iload_n 1, 1) := by decide +kernel
theorem dX1_findSoonest_12 : decode cX1_findSoonest 12 = .ok (.sipush 240, 3) := by decide +kernel
theorem dX1_findSoonest_15 : decode cX1_findSoonest 15 = .ok (.invokevirtual 34, 3) := by decide +kernel
theorem dX1_findSoonest_18 : decode cX1_findSoonest 18 = .ok (.aload_n 0, 1) := by decide +kernel
theorem dX1_findSoonest_19 : decode cX1_findSoonest 19 = .ok (.iconst 0, 1) := by decide +kernel
theorem dX1_findSoonest_20 : decode cX1_findSoonest 20 = .ok (.invokevirtual 38, 3) := by decide +kernel
theorem dX1_findSoonest_23 : decode cX1_findSoonest 23 = .ok (.aload_n 0, 1) := by decide +kernel
theorem dX1_findSoonest_24 : decode cX1_findSoonest 24 = .ok (.getfield 42, 3) := by decide +kernel
theorem dX1_findSoonest_27 : decode cX1_findSoonest 27 = .ok (.ireturn, 1) := by decide +kernel
set_option maxRecDepth 20000 in
theorem ggX1_goodsToHave_X1_findCheapest : GoodIn wsX1_goodsToHave wsX1_findCheapest := goodIn_r _ [8, 9, 10, 11, 12, 13, 14, 7, 15, 16, 17, 18, 19, 20, 21, 22, 23, 24, 25, 1, 2, 26, 27, 28, 29, 30, 31, 32, 33, 34, 35, 36, 37, 38, 39, 40, 41, 42, 43, 44, 45, 46, 47, 48, 49, 50, 51, 52, 53, 54, 55, 56, 57, 58, 59, 60, 61, 62, 63, 64, 65, 66, 67, 68, 69, 70, 71, 72, 73, 74, 75, 76, 77, 78, 79, 80, 81, 82, 83, 84, 85, 86, 87, 88, 89, 90, 91, 92, 93, 94, 95, 96, 97, 98, 99, 100, 101, 102, 103, 104, 105, 122, 123, 124, 125, 126, 127, 128, 106, 107, 108, 109, 110, 111, 112, 113, 114, 115, 116, 117, 118, 119, 120, 121] (by decide +kernel) (by decide +kernel)
set_option maxRecDepth 20000 in
theorem gX1_goodsToHave_X1_findCheapest : GoodIn wsX1_goodsToHave (wsV RX1 53 RX1 yX1_findCheapest wsX1_findCheapest) := goodIn_app (goodIn_of _ (by decide +kernel)) ggX1_goodsToHave_X1_findCheapest
theorem dX1_goodsToHave_0 : decode cX1_goodsToHave 0 = .ok (.iconst 0, 1) := by decide +kernel
theorem dX1_goodsToHave_1 : decode cX1_goodsToHave 1 = .ok (.istore_n 2, 1) := by decide +kernel
theorem dX1_goodsToHave_2 : decode cX1_goodsToHave 2 = .ok (.iconst 0, 1) := by decide +kernel
theorem dX1_goodsToHave_3 : decode cX1_goodsToHave 3 = .ok (.istore_n 3, 1) := by decide +kernel
theorem dX1_goodsToHave_4 : decode cX1_goodsToHave 4 = .ok (.iload_n 3, 1) := by decide +kernel
theorem dX1_goodsToHave_5 : decode cX1_goodsToHave 5 = .ok (.aload_n 0, 1) := by decide +kernel
theorem dX1_goodsToHave_6 : decode cX1_goodsToHave 6 = .ok (.getfield 18, 3) := by decide +kernel
theorem dX1_goodsToHave_9 : decode cX1_goodsToHave 9 = .ok (.getfield 45, 3) := by decide +kernel
theorem dX1_goodsToHave_12 : decode cX1_goodsToHave 12 = .ok (.if_icmp .ge 33, 3) := by decide +kernel
theorem dX1_goodsToHave_15 : decode cX1_goodsToHave 15 = .ok (.aload_n 0, 1) := by decide +kernel
theorem dX1_goodsToHave_16 : decode cX1_goodsToHave 16 = .ok (.iconst 1, 1) := by decide +kernel
theorem dX1_goodsToHave_17 : decode cX1_goodsToHave 17 = .ok (.iload_n 3, 1) := by decide +kernel
theorem dX1_goodsToHave_18 : decode cX1_goodsToHave 18 = .ok (.ishl, 1) := by decide +kernel
theorem dX1_goodsToHave_19 : decode cX1_goodsToHave 19 = .ok (.aload_n 0, 1) := by decide +kernel
theorem dX1_goodsToHave_20 : decode cX1_goodsToHave 20 = .ok (.getfield 18, 3) := by decide +kernel
theorem dX1_goodsToHave_23 : decode cX1_goodsToHave 23 = .ok (.getfield 50, 3) := by decide +kernel
theorem dX1_goodsToHave_26 : decode cX1_goodsToHave 26 = .ok (.iload_n 1, 1) := by decide +kernel
theorem dX1_goodsToHave_27 : decode cX1_goodsToHave 27 = .ok (.invokevirtual 53, 3) := by decide +kernel
theorem dX1_goodsToHave_30 : decode cX1_goodsToHave 30 = .ok (.ifCond .eq 9, 3) := by decide +kernel
theorem dX1_goodsToHave_33 : decode cX1_goodsToHave 33 = .ok (.iload_n 2, 1) := by decide +kernel
theorem dX1_goodsToHave_34 : decode cX1_goodsToHave 34 = .ok (.iconst 1, 1) := by decide +kernel
theorem dX1_goodsToHave_35 : decode cX1_goodsToHave 35 = .ok (.iload_n 3, 1) := by decide +kernel
theorem dX1_goodsToHave_36 : decode cX1_goodsToHave 36 = .ok (.ishl, 1) := by decide +kernel
theorem dX1_goodsToHave_37 : decode cX1_goodsToHave 37 = .ok (.ior, 1) := by decide +kernel
theorem dX1_goodsToHave_38 : decode cX1_goodsToHave 38 = .ok (.istore_n 2, 1) := by decide +kernel
theorem dX1_goodsToHave_39 : decode cX1_goodsToHave 39 = .ok (.iinc 3 1, 3) := by decide +kernel
theorem dX1_goodsToHave_42 : decode cX1_goodsToHave 42 = .ok (.goto (-38), 3) := by decide +kernel
theorem dX1_goodsToHave_45 : decode cX1_goodsToHave 45 = .ok (.iload_n 2, 1) := by decide +kernel
theorem dX1_goodsToHave_46 : decode cX1_goodsToHave 46 = .ok (.ireturn, 1) := by decide +kernel
set_option maxRecDepth 20000 in
theorem ggX1_canHaveAll_X1_findCheapest : GoodIn wsX1_canHaveAll wsX1_findCheapest := goodIn_r _ [8, 9, 10, 11, 12, 13, 14, 7, 15, 16, 17, 18, 19, 20, 21, 22, 23, 24, 25, 1, 2, 26, 27, 28, 29, 30, 31, 32, 33, 34, 35, 36, 37, 38, 39, 40, 41, 42, 43, 44, 45, 46, 47, 48, 49, 50, 51, 52, 53, 54, 55, 56, 57, 58, 59, 60, 61, 62, 63, 64, 65, 66, 67, 68, 69, 70, 71, 72, 73, 74, 75, 76, 77, 78, 79, 80, 81, 82, 83, 84, 85, 86, 87, 88, 89, 90, 91, 92, 93, 94, 95, 96, 97, 98, 99, 100, 101, 102, 103, 104, 105, 122, 123, 124, 125, 126, 127, 128, 106, 107, 108, 109, 110, 111, 112, 113, 114, 115, 116, 117, 118, 119, 120, 121] (by decide +kernel) (by decide +kernel)
set_option maxRecDepth 20000 in
theorem gX1_canHaveAll_X1_findCheapest : GoodIn wsX1_canHaveAll (wsV RX1 53 RX1 yX1_findCheapest wsX1_findCheapest) := goodIn_app (goodIn_of _ (by decide +kernel)) ggX1_canHaveAll_X1_findCheapest
theorem dX1_canHaveAll_0 : decode cX1_canHaveAll 0 = .ok (.iconst 0, 1) := by decide +kernel
theorem dX1_canHaveAll_1 : decode cX1_canHaveAll 1 = .ok (.istore_n 3, 1) := by decide +kernel
theorem dX1_canHaveAll_2 : decode cX1_canHaveAll 2 = .ok (.iload_n 3, 1) := by decide +kernel
theorem dX1_canHaveAll_3 : decode cX1_canHaveAll 3 = .ok (.aload_n 0, 1) := by decide +kernel
theorem dX1_canHaveAll_4 : decode cX1_canHaveAll 4 = .ok (.getfield 18, 3) := by decide +kernel
theorem dX1_canHaveAll_7 : decode cX1_canHaveAll 7 = .ok (.getfield 45, 3) := by decide +kernel
theorem dX1_canHaveAll_10 : decode cX1_canHaveAll 10 = .ok (.if_icmp .ge 49, 3) := by decide +kernel
theorem dX1_canHaveAll_13 : decode cX1_canHaveAll 13 = .ok (.iload_n 1, 1) := by decide +kernel
theorem dX1_canHaveAll_14 : decode cX1_canHaveAll 14 = .ok (.iload_n 3, 1) := by decide +kernel
theorem dX1_canHaveAll_15 : decode cX1_canHaveAll 15 = .ok (.ishr, 1) := by decide +kernel
theorem dX1_canHaveAll_16 : decode cX1_canHaveAll 16 = .ok (.iconst 1, 1) := by decide +kernel
theorem dX1_canHaveAll_17 : decode cX1_canHaveAll 17 = .ok (.iand, 1) := by decide +kernel
theorem dX1_canHaveAll_18 : decode cX1_canHaveAll 18 = .ok (.ifCond .eq 7, 3) := by decide +kernel
theorem dX1_canHaveAll_21 : decode cX1_canHaveAll 21 = .ok (.iconst 1, 1) := by decide +kernel
theorem dX1_canHaveAll_22 : decode cX1_canHaveAll 22 = .ok (.goto 4, 3) := by decide +kernel
theorem dX1_canHaveAll_25 : decode cX1_canHaveAll 25 = .ok (.iconst 0, 1) := by decide +kernel
theorem dX1_canHaveAll_26 : decode cX1_canHaveAll 26 = .ok (.istore 4, 2) := by decide +kernel
theorem dX1_canHaveAll_28 : decode cX1_canHaveAll 28 = .ok (.iload 4, 2) := by decide +kernel
theorem dX1_canHaveAll_30 : decode cX1_canHaveAll 30 = .ok (.ifCond .eq 23, 3) := by decide +kernel
theorem dX1_canHaveAll_33 : decode cX1_canHaveAll 33 = .ok (.aload_n 0, 1) := by decide +kernel
theorem dX1_canHaveAll_34 : decode cX1_canHaveAll 34 = .ok (.iconst 1, 1) := by decide +kernel
theorem dX1_canHaveAll_35 : decode cX1_canHaveAll 35 = .ok (.iload_n 3, 1) := by decide +kernel
theorem dX1_canHaveAll_36 : decode cX1_canHaveAll 36 = .ok (.ishl, 1) := by decide +kernel
theorem dX1_canHaveAll_37 : decode cX1_canHaveAll 37 = .ok (.aload_n 0, 1) := by decide +kernel
theorem dX1_canHaveAll_38 : decode cX1_canHaveAll 38 = .ok (.getfield 18, 3) := by decide +kernel
theorem dX1_canHaveAll_41 : decode cX1_canHaveAll 41 = .ok (.getfield 50, 3) := by decide +kernel
theorem dX1_canHaveAll_44 : decode cX1_canHaveAll 44 = .ok (.iload_n 2, 1) := by decide +kernel
theorem dX1_canHaveAll_45 : decode cX1_canHaveAll 45 = .ok (.invokevirtual 53, 3) := by decide +kernel
theorem dX1_canHaveAll_48 : decode cX1_canHaveAll 48 = .ok (.ifCond .ne 5, 3) := by decide +kernel
theorem dX1_canHaveAll_51 : decode cX1_canHaveAll 51 = .ok (.iconst 0, 1) := by decide +kernel
theorem dX1_canHaveAll_52 : decode cX1_canHaveAll 52 = .ok (.ireturn, 1) := by decide +kernel
theorem dX1_canHaveAll_53 : decode cX1_canHaveAll 53 = .ok (.iinc 3 1, 3) := by decide +kernel
theorem dX1_canHaveAll_56 : decode cX1_canHaveAll 56 = .ok (.goto (-54), 3) := by decide +kernel
theorem dX1_canHaveAll_59 : decode cX1_canHaveAll 59 = .ok (.iconst 1, 1) := by decide +kernel
theorem dX1_canHaveAll_60 : decode cX1_canHaveAll 60 = .ok (.ireturn, 1) := by decide +kernel
theorem dX1_paidTo_0 : decode cX1_paidTo 0 = .ok (.iconst 0, 1) := by decide +kernel
theorem dX1_paidTo_1 : decode cX1_paidTo 1 = .ok (.istore_n 2, 1) := by decide +kernel
theorem dX1_paidTo_2 : decode cX1_paidTo 2 = .ok (.iload_n 2, 1) := by decide +kernel
theorem dX1_paidTo_3 : decode cX1_paidTo 3 = .ok (.aload_n 0, 1) := by decide +kernel
theorem dX1_paidTo_4 : decode cX1_paidTo 4 = .ok (.getfield 57, 3) := by decide +kernel
theorem dX1_paidTo_7 : decode cX1_paidTo 7 = .ok (.if_icmp .ge 32, 3) := by decide +kernel
theorem dX1_paidTo_10 : decode cX1_paidTo 10 = .ok (.iload_n 2, 1) := by decide +kernel
theorem dX1_paidTo_11 : decode cX1_paidTo 11 = .ok (.bipush 6, 2) := by decide +kernel
theorem dX1_paidTo_13 : decode cX1_paidTo 13 = .ok (.if_icmp .ge 26, 3) := by decide +kernel
theorem dX1_paidTo_16 : decode cX1_paidTo 16 = .ok (.aload_n 0, 1) := by decide +kernel
theorem dX1_paidTo_17 : decode cX1_paidTo 17 = .ok (.getfield 9, 3) := by decide +kernel
theorem dX1_paidTo_20 : decode cX1_paidTo 20 = .ok (.iload_n 2, 1) := by decide +kernel
theorem dX1_paidTo_21 : decode cX1_paidTo 21 = .ok (.iaload, 1) := by decide +kernel
theorem dX1_paidTo_22 : decode cX1_paidTo 22 = .ok (.iload_n 1, 1) := by decide +kernel
theorem dX1_paidTo_23 : decode cX1_paidTo 23 = .ok (.if_icmp .ne 10, 3) := by decide +kernel
theorem dX1_paidTo_26 : decode cX1_paidTo 26 = .ok (.aload_n 0, 1) := by decide +kernel
theorem dX1_paidTo_27 : decode cX1_paidTo 27 = .ok (.getfield 15, 3) := by decide +kernel
theorem dX1_paidTo_30 : decode cX1_paidTo 30 = .ok (.iload_n 2, 1) := by decide +kernel
theorem dX1_paidTo_31 : decode cX1_paidTo 31 = .ok (.iaload, 1) := by decide +kernel
theorem dX1_paidTo_32 : decode cX1_paidTo 32 = .ok (.ireturn, 1) := by decide +kernel
theorem dX1_paidTo_33 : decode cX1_paidTo 33 = .ok (.iinc 2 1, 3) := by decide +kernel
theorem dX1_paidTo_36 : decode cX1_paidTo 36 = .ok (.goto (-34), 3) := by decide +kernel
theorem dX1_paidTo_39 : decode cX1_paidTo 39 = .ok (.iconst 0, 1) := by decide +kernel
theorem dX1_paidTo_40 : decode cX1_paidTo 40 = .ok (.ireturn, 1) := by decide +kernel
theorem dX1_expect_0 : decode cX1_expect 0 = .ok (.aload_n 0, 1) := by decide +kernel
theorem dX1_expect_1 : decode cX1_expect 1 = .ok (.iload_n 1, 1) := by decide +kernel
theorem dX1_expect_2 : decode cX1_expect 2 = .ok (.putfield 60, 3) := by decide +kernel
theorem dX1_expect_5 : decode cX1_expect 5 = .ok (.aload_n 0, 1) := by decide +kernel
theorem dX1_expect_6 : decode cX1_expect 6 = .ok (.iconst 0, 1) := by decide +kernel
theorem dX1_expect_7 : decode cX1_expect 7 = .ok (.putfield 42, 3) := by decide +kernel
theorem dX1_expect_10 : decode cX1_expect 10 = .ok (.aload_n 0, 1) := by decide +kernel
theorem dX1_expect_11 : decode cX1_expect 11 = .ok (.iload_n 2, 1) := by decide +kernel
theorem dX1_expect_12 : decode cX1_expect 12 = .ok (.putfield 63, 3) := by decide +kernel
theorem dX1_expect_15 : decode cX1_expect 15 = .ok (.aload_n 0, 1) := by decide +kernel
theorem dX1_expect_16 : decode cX1_expect 16 = .ok (.bipush 7, 2) := by decide +kernel
theorem dX1_expect_18 : decode cX1_expect 18 = .ok (.putfield 57, 3) := by decide +kernel
theorem dX1_expect_21 : decode cX1_expect 21 = .ok (.return_, 1) := by decide +kernel
set_option maxRecDepth 20000 in
theorem ggX1_goOn_X1_isBetter : GoodIn wsX1_goOn wsX1_isBetter := goodIn_r _ [12, 13, 14, 15, 16, 17, 11, 18, 19, 1, 20, 21, 84, 85, 86, 87, 88, 89, 90, 91, 92, 93, 94, 95, 96, 97, 98, 99, 100, 101, 102] (by decide +kernel) (by decide +kernel)
set_option maxRecDepth 20000 in
theorem gX1_goOn_X1_isBetter : GoodIn wsX1_goOn (wsV RX1 66 RX1 yX1_isBetter wsX1_isBetter) := goodIn_app (goodIn_of _ (by decide +kernel)) ggX1_goOn_X1_isBetter
set_option maxRecDepth 20000 in
theorem ggX1_goOn_X1_keep : GoodIn wsX1_goOn wsX1_keep := goodIn_r _ [25, 26, 13, 14, 1, 21, 27, 20, 28, 29, 30, 31, 15, 16, 17, 11, 18, 19, 84, 85, 86, 87, 88, 89, 90, 91, 92, 93, 94, 95, 96, 97, 98, 99, 100, 101, 102] (by decide +kernel) (by decide +kernel)
set_option maxRecDepth 20000 in
theorem gX1_goOn_X1_keep : GoodIn wsX1_goOn (wsV RX1 75 RX1 yX1_keep wsX1_keep) := goodIn_app (goodIn_of _ (by decide +kernel)) ggX1_goOn_X1_keep
set_option maxRecDepth 20000 in
theorem ggX1_goOn_X3_waysOn : GoodIn wsX1_goOn wsX3_waysOn := goodIn_r _ [36, 37, 38, 39, 40, 96, 97, 98, 99, 100, 101, 102, 103, 104, 105, 106, 107, 108, 109, 110, 111, 112, 113, 114, 115, 116, 117, 118] (by decide +kernel) (by decide +kernel)
set_option maxRecDepth 20000 in
theorem gX1_goOn_X3_waysOn : GoodIn wsX1_goOn (wsV RX1 78 RX3 yX3_waysOn wsX3_waysOn) := goodIn_app (goodIn_of _ (by decide +kernel)) ggX1_goOn_X3_waysOn
set_option maxRecDepth 20000 in
theorem ggX1_goOn_X3_step : GoodIn wsX1_goOn wsX3_step := goodIn_r _ [44, 45, 46, 37, 47, 48, 49, 50, 51, 40, 52, 33, 34, 35, 36, 38, 39, 53, 54, 55, 56, 57, 58, 59, 60, 61, 62, 63, 64, 65, 66, 67, 68, 69, 70, 71, 72, 73, 74, 75, 76, 77, 78, 79, 80, 96, 97, 98, 99, 100, 101, 102, 103, 104, 105, 106, 107, 108, 109, 110, 111, 112, 113, 114, 115, 116, 117, 118] (by decide +kernel) (by decide +kernel)
set_option maxRecDepth 20000 in
theorem gX1_goOn_X3_step : GoodIn wsX1_goOn (wsV RX1 85 RX3 yX3_step wsX3_step) := goodIn_app (goodIn_of _ (by decide +kernel)) ggX1_goOn_X3_step
set_option maxRecDepth 20000 in
theorem ggX1_goOn_X1_goOn : GoodIn wsX1_goOn wsX1_goOn := goodIn_r _ [0, 1, 2, 3, 4, 5, 6, 7, 8, 9, 10, 11, 12, 13, 14, 15, 16, 17, 18, 19, 20, 21, 22, 23, 24, 25, 26, 27, 28, 29, 30, 31, 32, 33, 34, 35, 36, 37, 38, 39, 40, 41, 42, 43, 44, 45, 46, 47, 48, 49, 50, 51, 52, 53, 54, 55, 56, 57, 58, 59, 60, 61, 62, 63, 64, 65, 66, 67, 68, 69, 70, 71, 72, 73, 74, 75, 76, 77, 78, 79, 80, 81, 82, 83, 84, 85, 86, 87, 88, 89, 90, 91, 92, 93, 94, 95, 96, 97, 98, 99, 100, 101, 102, 103, 104, 105, 106, 107, 108, 109, 110, 111, 112, 113, 114, 115, 116, 117, 118] (by decide +kernel) (by decide +kernel)
set_option maxRecDepth 20000 in
theorem gX1_goOn_X1_goOn : GoodIn wsX1_goOn (wsV RX1 38 RX1 yX1_goOn wsX1_goOn) := goodIn_app (goodIn_of _ (by decide +kernel)) ggX1_goOn_X1_goOn
theorem dX1_goOn_0 : decode cX1_goOn 0 = .ok (.iload_n 1, 1) := by decide +kernel
theorem dX1_goOn_1 : decode cX1_goOn 1 = .ok (.bipush 6, 2) := by decide +kernel
theorem dX1_goOn_3 : decode cX1_goOn 3 = .ok (.if_icmp .gt 11, 3) := by decide +kernel
theorem dX1_goOn_6 : decode cX1_goOn 6 = .ok (.aload_n 0, 1) := by decide +kernel
theorem dX1_goOn_7 : decode cX1_goOn 7 = .ok (.iload_n 1, 1) := by decide +kernel
theorem dX1_goOn_8 : decode cX1_goOn 8 = .ok (.invokevirtual 66, 3) := by decide +kernel
theorem dX1_goOn_11 : decode cX1_goOn 11 = .ok (.ifCond .ne 4, 3) := by decide +kernel
theorem dX1_goOn_14 : decode cX1_goOn 14 = .ok (.return_, 1) := by decide +kernel
theorem dX1_goOn_15 : decode cX1_goOn 15 = .ok (.aload_n 0, 1) := by decide +kernel
theorem dX1_goOn_16 : decode cX1_goOn 16 = .ok (.getfield 22, 3) := by decide +kernel
theorem dX1_goOn_19 : decode cX1_goOn 19 = .ok (.getfield 70, 3) := by decide +kernel
theorem dX1_goOn_22 : decode cX1_goOn 22 = .ok (.iload_n 1, 1) := by decide +kernel
theorem dX1_goOn_23 : decode cX1_goOn 23 = .ok (.iaload, 1) := by decide +kernel
theorem dX1_goOn_24 : decode cX1_goOn 24 = .ok (.aload_n 0, 1) := by decide +kernel
theorem dX1_goOn_25 : decode cX1_goOn 25 = .ok (.getfield 60, 3) := by decide +kernel
theorem dX1_goOn_28 : decode cX1_goOn 28 = .ok (.iand, 1) := by decide +kernel
theorem dX1_goOn_29 : decode cX1_goOn 29 = .ok (.aload_n 0, 1) := by decide +kernel
theorem dX1_goOn_30 : decode cX1_goOn 30 = .ok (.getfield 60, 3) := by decide +kernel
theorem dX1_goOn_33 : decode cX1_goOn 33 = .ok (.if_icmp .ne 9, 3) := by decide +kernel
theorem dX1_goOn_36 : decode cX1_goOn 36 = .ok (.aload_n 0, 1) := by decide +kernel
theorem dX1_goOn_37 : decode cX1_goOn 37 = .ok (.iload_n 1, 1) := by decide +kernel
theorem dX1_goOn_38 : decode cX1_goOn 38 = .ok (.invokevirtual 75, 3) := by decide +kernel
theorem dX1_goOn_41 : decode cX1_goOn 41 = .ok (.return_, 1) := by decide +kernel
theorem dX1_goOn_42 : decode cX1_goOn 42 = .ok (.aload_n 0, 1) := by decide +kernel
theorem dX1_goOn_43 : decode cX1_goOn 43 = .ok (.getfield 22, 3) := by decide +kernel
theorem dX1_goOn_46 : decode cX1_goOn 46 = .ok (.iload_n 1, 1) := by decide +kernel
theorem dX1_goOn_47 : decode cX1_goOn 47 = .ok (.invokevirtual 78, 3) := by decide +kernel
theorem dX1_goOn_50 : decode cX1_goOn 50 = .ok (.aload_n 0, 1) := by decide +kernel
theorem dX1_goOn_51 : decode cX1_goOn 51 = .ok (.getfield 22, 3) := by decide +kernel
theorem dX1_goOn_54 : decode cX1_goOn 54 = .ok (.getfield 82, 3) := by decide +kernel
theorem dX1_goOn_57 : decode cX1_goOn 57 = .ok (.iload_n 1, 1) := by decide +kernel
theorem dX1_goOn_58 : decode cX1_goOn 58 = .ok (.iaload, 1) := by decide +kernel
theorem dX1_goOn_59 : decode cX1_goOn 59 = .ok (.iconst (-1), 1) := by decide +kernel
theorem dX1_goOn_60 : decode cX1_goOn 60 = .ok (.ixor, 1) := by decide +kernel
theorem dX1_goOn_61 : decode cX1_goOn 61 = .ok (.iand, 1) := by decide +kernel
theorem dX1_goOn_62 : decode cX1_goOn 62 = .ok (.aload_n 0, 1) := by decide +kernel
theorem dX1_goOn_63 : decode cX1_goOn 63 = .ok (.getfield 30, 3) := by decide +kernel
theorem dX1_goOn_66 : decode cX1_goOn 66 = .ok (.iconst (-1), 1) := by decide +kernel
theorem dX1_goOn_67 : decode cX1_goOn 67 = .ok (.ixor, 1) := by decide +kernel
theorem dX1_goOn_68 : decode cX1_goOn 68 = .ok (.iand, 1) := by decide +kernel
theorem dX1_goOn_69 : decode cX1_goOn 69 = .ok (.istore_n 2, 1) := by decide +kernel
theorem dX1_goOn_70 : decode cX1_goOn 70 = .ok (.iconst 0, 1) := by decide +kernel
theorem dX1_goOn_71 : decode cX1_goOn 71 = .ok (.istore_n 3, 1) := by decide +kernel
theorem dX1_goOn_72 : decode cX1_goOn 72 = .ok (.iload_n 3, 1) := by decide +kernel
theorem dX1_goOn_73 : decode cX1_goOn 73 = .ok (.aload_n 0, 1) := by decide +kernel
theorem dX1_goOn_74 : decode cX1_goOn 74 = .ok (.getfield 18, 3) := by decide +kernel
theorem dX1_goOn_77 : decode cX1_goOn 77 = .ok (.getfield 45, 3) := by decide +kernel
theorem dX1_goOn_80 : decode cX1_goOn 80 = .ok (.if_icmp .ge 36, 3) := by decide +kernel
theorem dX1_goOn_83 : decode cX1_goOn 83 = .ok (.iload_n 2, 1) := by decide +kernel
theorem dX1_goOn_84 : decode cX1_goOn 84 = .ok (.iload_n 3, 1) := by decide +kernel
theorem dX1_goOn_85 : decode cX1_goOn 85 = .ok (.ishr, 1) := by decide +kernel
theorem dX1_goOn_86 : decode cX1_goOn 86 = .ok (.iconst 1, 1) := by decide +kernel
theorem dX1_goOn_87 : decode cX1_goOn 87 = .ok (.iand, 1) := by decide +kernel
theorem dX1_goOn_88 : decode cX1_goOn 88 = .ok (.ifCond .eq 22, 3) := by decide +kernel
theorem dX1_goOn_91 : decode cX1_goOn 91 = .ok (.aload_n 0, 1) := by decide +kernel
theorem dX1_goOn_92 : decode cX1_goOn 92 = .ok (.getfield 22, 3) := by decide +kernel
theorem dX1_goOn_95 : decode cX1_goOn 95 = .ok (.iload_n 1, 1) := by decide +kernel
theorem dX1_goOn_96 : decode cX1_goOn 96 = .ok (.iload_n 3, 1) := by decide +kernel
theorem dX1_goOn_97 : decode cX1_goOn 97 = .ok (.invokevirtual 85, 3) := by decide +kernel
theorem dX1_goOn_100 : decode cX1_goOn 100 = .ok (.ifCond .ne 10, 3) := by decide +kernel
theorem dX1_goOn_103 : decode cX1_goOn 103 = .ok (.aload_n 0, 1) := by decide +kernel
theorem dX1_goOn_104 : decode cX1_goOn 104 = .ok (.iload_n 1, 1) := by decide +kernel
theorem dX1_goOn_105 : decode cX1_goOn 105 = .ok (.iconst 1, 1) := by decide +kernel
theorem dX1_goOn_106 : decode cX1_goOn 106 = .ok (.iadd, 1) := by decide +kernel
theorem dX1_goOn_107 : decode cX1_goOn 107 = .ok (.invokevirtual 38, 3) := by decide +kernel
theorem dX1_goOn_110 : decode cX1_goOn 110 = .ok (.iinc 3 1, 3) := by decide +kernel
theorem dX1_goOn_113 : decode cX1_goOn 113 = .ok (.goto (-41), 3) := by decide +kernel
theorem dX1_goOn_116 : decode cX1_goOn 116 = .ok (.return_, 1) := by decide +kernel
theorem dX1_score_0 : decode cX1_score 0 = .ok (.aload_n 0, 1) := by decide +kernel
theorem dX1_score_1 : decode cX1_score 1 = .ok (.getfield 26, 3) := by decide +kernel
theorem dX1_score_4 : decode cX1_score 4 = .ok (.ifCond .eq 15, 3) := by decide +kernel
theorem dX1_score_7 : decode cX1_score 7 = .ok (.aload_n 0, 1) := by decide +kernel
theorem dX1_score_8 : decode cX1_score 8 = .ok (.getfield 22, 3) := by decide +kernel
theorem dX1_score_11 : decode cX1_score 11 = .ok (.getfield 89, 3) := by decide +kernel
theorem dX1_score_14 : decode cX1_score 14 = .ok (.iload_n 1, 1) := by decide +kernel
theorem dX1_score_15 : decode cX1_score 15 = .ok (.iaload, 1) := by decide +kernel
theorem dX1_score_16 : decode cX1_score 16 = .ok (.goto 12, 3) := by decide +kernel
theorem dX1_score_19 : decode cX1_score 19 = .ok (.aload_n 0, 1) := by decide +kernel
theorem dX1_score_20 : decode cX1_score 20 = .ok (.getfield 22, 3) := by decide +kernel
theorem dX1_score_23 : decode cX1_score 23 = .ok (.getfield 92, 3) := by decide +kernel
theorem dX1_score_26 : decode cX1_score 26 = .ok (.iload_n 1, 1) := by decide +kernel
theorem dX1_score_27 : decode cX1_score 27 = .ok (.iaload, 1) := by decide +kernel
theorem dX1_score_28 : decode cX1_score 28 = .ok (.ireturn, 1) := by decide +kernel
set_option maxRecDepth 20000 in
theorem ggX1_isBetter_X1_score : GoodIn wsX1_isBetter wsX1_score := goodIn_r _ [7, 8, 9, 10, 11, 12, 13, 14, 15, 16, 17, 18, 19, 20, 21, 22, 23, 24, 25, 26, 27, 28, 29, 30] (by decide +kernel) (by decide +kernel)
set_option maxRecDepth 20000 in
theorem gX1_isBetter_X1_score : GoodIn wsX1_isBetter (wsV RX1 95 RX1 yX1_score wsX1_score) := goodIn_app (goodIn_of _ (by decide +kernel)) ggX1_isBetter_X1_score
theorem dX1_isBetter_0 : decode cX1_isBetter 0 = .ok (.aload_n 0, 1) := by decide +kernel
theorem dX1_isBetter_1 : decode cX1_isBetter 1 = .ok (.iload_n 1, 1) := by decide +kernel
theorem dX1_isBetter_2 : decode cX1_isBetter 2 = .ok (.invokevirtual 95, 3) := by decide +kernel
theorem dX1_isBetter_5 : decode cX1_isBetter 5 = .ok (.istore_n 2, 1) := by decide +kernel
theorem dX1_isBetter_6 : decode cX1_isBetter 6 = .ok (.iload_n 2, 1) := by decide +kernel
theorem dX1_isBetter_7 : decode cX1_isBetter 7 = .ok (.aload_n 0, 1) := by decide +kernel
theorem dX1_isBetter_8 : decode cX1_isBetter 8 = .ok (.getfield 63, 3) := by decide +kernel
theorem dX1_isBetter_11 : decode cX1_isBetter 11 = .ok (.if_icmp .lt 19, 3) := by decide +kernel
theorem dX1_isBetter_14 : decode cX1_isBetter 14 = .ok (.iload_n 2, 1) := by decide +kernel
theorem dX1_isBetter_15 : decode cX1_isBetter 15 = .ok (.aload_n 0, 1) := by decide +kernel
theorem dX1_isBetter_16 : decode cX1_isBetter 16 = .ok (.getfield 63, 3) := by decide +kernel
theorem dX1_isBetter_19 : decode cX1_isBetter 19 = .ok (.if_icmp .ne 15, 3) := by decide +kernel
theorem dX1_isBetter_22 : decode cX1_isBetter 22 = .ok (.iload_n 1, 1) := by decide +kernel
theorem dX1_isBetter_23 : decode cX1_isBetter 23 = .ok (.aload_n 0, 1) := by decide +kernel
theorem dX1_isBetter_24 : decode cX1_isBetter 24 = .ok (.getfield 57, 3) := by decide +kernel
theorem dX1_isBetter_27 : decode cX1_isBetter 27 = .ok (.if_icmp .ge 7, 3) := by decide +kernel
theorem dX1_isBetter_30 : decode cX1_isBetter 30 = .ok (.iconst 1, 1) := by decide +kernel
theorem dX1_isBetter_31 : decode cX1_isBetter 31 = .ok (.goto 4, 3) := by decide +kernel
theorem dX1_isBetter_34 : decode cX1_isBetter 34 = .ok (.iconst 0, 1) := by decide +kernel
theorem dX1_isBetter_35 : decode cX1_isBetter 35 = .ok (.ireturn, 1) := by decide +kernel
set_option maxRecDepth 20000 in
theorem ggX1_keep_X1_score : GoodIn wsX1_keep wsX1_score := goodIn_r _ [16, 17, 4, 7, 5, 18, 19, 20, 21, 22, 23, 24, 25, 26, 27, 28, 29, 30, 31, 32, 33, 34, 35, 36] (by decide +kernel) (by decide +kernel)
set_option maxRecDepth 20000 in
theorem gX1_keep_X1_score : GoodIn wsX1_keep (wsV RX1 95 RX1 yX1_score wsX1_score) := goodIn_app (goodIn_of _ (by decide +kernel)) ggX1_keep_X1_score
theorem dX1_keep_0 : decode cX1_keep 0 = .ok (.aload_n 0, 1) := by decide +kernel
theorem dX1_keep_1 : decode cX1_keep 1 = .ok (.iconst 1, 1) := by decide +kernel
theorem dX1_keep_2 : decode cX1_keep 2 = .ok (.putfield 42, 3) := by decide +kernel
theorem dX1_keep_5 : decode cX1_keep 5 = .ok (.aload_n 0, 1) := by decide +kernel
theorem dX1_keep_6 : decode cX1_keep 6 = .ok (.aload_n 0, 1) := by decide +kernel
theorem dX1_keep_7 : decode cX1_keep 7 = .ok (.iload_n 1, 1) := by decide +kernel
theorem dX1_keep_8 : decode cX1_keep 8 = .ok (.invokevirtual 95, 3) := by decide +kernel
theorem dX1_keep_11 : decode cX1_keep 11 = .ok (.putfield 63, 3) := by decide +kernel
theorem dX1_keep_14 : decode cX1_keep 14 = .ok (.aload_n 0, 1) := by decide +kernel
theorem dX1_keep_15 : decode cX1_keep 15 = .ok (.iload_n 1, 1) := by decide +kernel
theorem dX1_keep_16 : decode cX1_keep 16 = .ok (.putfield 57, 3) := by decide +kernel
theorem dX1_keep_19 : decode cX1_keep 19 = .ok (.aload_n 0, 1) := by decide +kernel
theorem dX1_keep_20 : decode cX1_keep 20 = .ok (.aload_n 0, 1) := by decide +kernel
theorem dX1_keep_21 : decode cX1_keep 21 = .ok (.getfield 22, 3) := by decide +kernel
theorem dX1_keep_24 : decode cX1_keep 24 = .ok (.getfield 92, 3) := by decide +kernel
theorem dX1_keep_27 : decode cX1_keep 27 = .ok (.iload_n 1, 1) := by decide +kernel
theorem dX1_keep_28 : decode cX1_keep 28 = .ok (.iaload, 1) := by decide +kernel
theorem dX1_keep_29 : decode cX1_keep 29 = .ok (.putfield 98, 3) := by decide +kernel
theorem dX1_keep_32 : decode cX1_keep 32 = .ok (.aload_n 0, 1) := by decide +kernel
theorem dX1_keep_33 : decode cX1_keep 33 = .ok (.aload_n 0, 1) := by decide +kernel
theorem dX1_keep_34 : decode cX1_keep 34 = .ok (.getfield 22, 3) := by decide +kernel
theorem dX1_keep_37 : decode cX1_keep 37 = .ok (.getfield 89, 3) := by decide +kernel
theorem dX1_keep_40 : decode cX1_keep 40 = .ok (.iload_n 1, 1) := by decide +kernel
theorem dX1_keep_41 : decode cX1_keep 41 = .ok (.iaload, 1) := by decide +kernel
theorem dX1_keep_42 : decode cX1_keep 42 = .ok (.putfield 101, 3) := by decide +kernel
theorem dX1_keep_45 : decode cX1_keep 45 = .ok (.iconst 0, 1) := by decide +kernel
theorem dX1_keep_46 : decode cX1_keep 46 = .ok (.istore_n 2, 1) := by decide +kernel
theorem dX1_keep_47 : decode cX1_keep 47 = .ok (.iload_n 2, 1) := by decide +kernel
theorem dX1_keep_48 : decode cX1_keep 48 = .ok (.iload_n 1, 1) := by decide +kernel
theorem dX1_keep_49 : decode cX1_keep 49 = .ok (.if_icmp .ge 51, 3) := by decide +kernel
theorem dX1_keep_52 : decode cX1_keep 52 = .ok (.aload_n 0, 1) := by decide +kernel
theorem dX1_keep_53 : decode cX1_keep 53 = .ok (.getfield 9, 3) := by decide +kernel
theorem dX1_keep_56 : decode cX1_keep 56 = .ok (.iload_n 2, 1) := by decide +kernel
theorem dX1_keep_57 : decode cX1_keep 57 = .ok (.aload_n 0, 1) := by decide +kernel
theorem dX1_keep_58 : decode cX1_keep 58 = .ok (.getfield 22, 3) := by decide +kernel
theorem dX1_keep_61 : decode cX1_keep 61 = .ok (.getfield 104, 3) := by decide +kernel
theorem dX1_keep_64 : decode cX1_keep 64 = .ok (.iload_n 2, 1) := by decide +kernel
theorem dX1_keep_65 : decode cX1_keep 65 = .ok (.iaload, 1) := by decide +kernel
theorem dX1_keep_66 : decode cX1_keep 66 = .ok (.iastore, 1) := by decide +kernel
theorem dX1_keep_67 : decode cX1_keep 67 = .ok (.aload_n 0, 1) := by decide +kernel
theorem dX1_keep_68 : decode cX1_keep 68 = .ok (.getfield 15, 3) := by decide +kernel
theorem dX1_keep_71 : decode cX1_keep 71 = .ok (.iload_n 2, 1) := by decide +kernel
theorem dX1_keep_72 : decode cX1_keep 72 = .ok (.aload_n 0, 1) := by decide +kernel
theorem dX1_keep_73 : decode cX1_keep 73 = .ok (.getfield 22, 3) := by decide +kernel
theorem dX1_keep_76 : decode cX1_keep 76 = .ok (.getfield 92, 3) := by decide +kernel
theorem dX1_keep_79 : decode cX1_keep 79 = .ok (.iload_n 2, 1) := by decide +kernel
theorem dX1_keep_80 : decode cX1_keep 80 = .ok (.iconst 1, 1) := by decide +kernel
theorem dX1_keep_81 : decode cX1_keep 81 = .ok (.iadd, 1) := by decide +kernel
theorem dX1_keep_82 : decode cX1_keep 82 = .ok (.iaload, 1) := by decide +kernel
theorem dX1_keep_83 : decode cX1_keep 83 = .ok (.aload_n 0, 1) := by decide +kernel
theorem dX1_keep_84 : decode cX1_keep 84 = .ok (.getfield 22, 3) := by decide +kernel
theorem dX1_keep_87 : decode cX1_keep 87 = .ok (.getfield 92, 3) := by decide +kernel
theorem dX1_keep_90 : decode cX1_keep 90 = .ok (.iload_n 2, 1) := by decide +kernel
theorem dX1_keep_91 : decode cX1_keep 91 = .ok (.iaload, 1) := by decide +kernel
theorem dX1_keep_92 : decode cX1_keep 92 = .ok (.isub, 1) := by decide +kernel
theorem dX1_keep_93 : decode cX1_keep 93 = .ok (.iastore, 1) := by decide +kernel
theorem dX1_keep_94 : decode cX1_keep 94 = .ok (.iinc 2 1, 3) := by decide +kernel
theorem dX1_keep_97 : decode cX1_keep 97 = .ok (.goto (-50), 3) := by decide +kernel
theorem dX1_keep_100 : decode cX1_keep 100 = .ok (.return_, 1) := by decide +kernel
theorem dX2_init_0 : decode cX2_init 0 = .ok (.aload_n 0, 1) := by decide +kernel
theorem dX2_init_1 : decode cX2_init 1 = .ok (.invokespecial 3, 3) := by decide +kernel
theorem dX2_init_4 : decode cX2_init 4 = .ok (.aload_n 0, 1) := by decide +kernel
theorem dX2_init_5 : decode cX2_init 5 = .ok (.bipush 6, 2) := by decide +kernel
theorem dX2_init_7 : decode cX2_init 7 = .ok (.newarray .int, 2) := by decide +kernel
theorem dX2_init_9 : decode cX2_init 9 = .ok (.putfield 9, 3) := by decide +kernel
theorem dX2_init_12 : decode cX2_init 12 = .ok (.aload_n 0, 1) := by decide +kernel
theorem dX2_init_13 : decode cX2_init 13 = .ok (.bipush 6, 2) := by decide +kernel
theorem dX2_init_15 : decode cX2_init 15 = .ok (.newarray .int, 2) := by decide +kernel
theorem dX2_init_17 : decode cX2_init 17 = .ok (.putfield 15, 3) := by decide +kernel
theorem dX2_init_20 : decode cX2_init 20 = .ok (.aload_n 0, 1) := by decide +kernel
theorem dX2_init_21 : decode cX2_init 21 = .ok (.bipush 6, 2) := by decide +kernel
theorem dX2_init_23 : decode cX2_init 23 = .ok (.newarray .int, 2) := by decide +kernel
theorem dX2_init_25 : decode cX2_init 25 = .ok (.putfield 18, 3) := by decide +kernel
theorem dX2_init_28 : decode cX2_init 28 = .ok (.aload_n 0, 1) := by decide +kernel
theorem dX2_init_29 : decode cX2_init 29 = .ok (.bipush 6, 2) := by decide +kernel
theorem dX2_init_31 : decode cX2_init 31 = .ok (.newarray .int, 2) := by decide +kernel
theorem dX2_init_33 : decode cX2_init 33 = .ok (.putfield 21, 3) := by decide +kernel
theorem dX2_init_36 : decode cX2_init 36 = .ok (.aload_n 0, 1) := by decide +kernel
theorem dX2_init_37 : decode cX2_init 37 = .ok (.bipush 6, 2) := by decide +kernel
theorem dX2_init_39 : decode cX2_init 39 = .ok (.newarray .int, 2) := by decide +kernel
theorem dX2_init_41 : decode cX2_init 41 = .ok (.putfield 24, 3) := by decide +kernel
theorem dX2_init_44 : decode cX2_init 44 = .ok (.aload_n 0, 1) := by decide +kernel
theorem dX2_init_45 : decode cX2_init 45 = .ok (.sipush 999, 3) := by decide +kernel
theorem dX2_init_48 : decode cX2_init 48 = .ok (.putfield 27, 3) := by decide +kernel
theorem dX2_init_51 : decode cX2_init 51 = .ok (.aload_n 0, 1) := by decide +kernel
theorem dX2_init_52 : decode cX2_init 52 = .ok (.bipush 6, 2) := by decide +kernel
theorem dX2_init_54 : decode cX2_init 54 = .ok (.putfield 31, 3) := by decide +kernel
theorem dX2_init_57 : decode cX2_init 57 = .ok (.aload_n 0, 1) := by decide +kernel
theorem dX2_init_58 : decode cX2_init 58 = .ok (.bipush 12, 2) := by decide +kernel
theorem dX2_init_60 : decode cX2_init 60 = .ok (.newarray .int, 2) := by decide +kernel
theorem dX2_init_62 : decode cX2_init 62 = .ok (.putfield 34, 3) := by decide +kernel
theorem dX2_init_65 : decode cX2_init 65 = .ok (.aload_n 0, 1) := by decide +kernel
theorem dX2_init_66 : decode cX2_init 66 = .ok (.sipush 200, 3) := by decide +kernel
theorem dX2_init_69 : decode cX2_init 69 = .ok (.newarray .int, 2) := by decide +kernel
theorem dX2_init_71 : decode cX2_init 71 = .ok (.putfield 37, 3) := by decide +kernel
theorem dX2_init_74 : decode cX2_init 74 = .ok (.aload_n 0, 1) := by decide +kernel
theorem dX2_init_75 : decode cX2_init 75 = .ok (.bipush 6, 2) := by decide +kernel
theorem dX2_init_77 : decode cX2_init 77 = .ok (.newarray .int, 2) := by decide +kernel
theorem dX2_init_79 : decode cX2_init 79 = .ok (.putfield 40, 3) := by decide +kernel
theorem dX2_init_82 : decode cX2_init 82 = .ok (.aload_n 0, 1) := by decide +kernel
theorem dX2_init_83 : decode cX2_init 83 = .ok (.bipush 6, 2) := by decide +kernel
theorem dX2_init_85 : decode cX2_init 85 = .ok (.newarray .int, 2) := by decide +kernel
theorem dX2_init_87 : decode cX2_init 87 = .ok (.putfield 43, 3) := by decide +kernel
theorem dX2_init_90 : decode cX2_init 90 = .ok (.return_, 1) := by decide +kernel
theorem dX2_hasShop_0 : decode cX2_hasShop 0 = .ok (.iload_n 1, 1) := by decide +kernel
theorem dX2_hasShop_1 : decode cX2_hasShop 1 = .ok (.ifCond .lt 15, 3) := by decide +kernel
theorem dX2_hasShop_4 : decode cX2_hasShop 4 = .ok (.iload_n 1, 1) := by decide +kernel
theorem dX2_hasShop_5 : decode cX2_hasShop 5 = .ok (.aload_n 0, 1) := by decide +kernel
theorem dX2_hasShop_6 : decode cX2_hasShop 6 = .ok (.getfield 46, 3) := by decide +kernel
theorem dX2_hasShop_9 : decode cX2_hasShop 9 = .ok (.if_icmp .ge 7, 3) := by decide +kernel
theorem dX2_hasShop_12 : decode cX2_hasShop 12 = .ok (.iconst 1, 1) := by decide +kernel
theorem dX2_hasShop_13 : decode cX2_hasShop 13 = .ok (.goto 4, 3) := by decide +kernel
theorem dX2_hasShop_16 : decode cX2_hasShop 16 = .ok (.iconst 0, 1) := by decide +kernel
theorem dX2_hasShop_17 : decode cX2_hasShop 17 = .ok (.ireturn, 1) := by decide +kernel
theorem dX2_areNear_0 : decode cX2_areNear 0 = .ok (.aload_n 0, 1) := by decide +kernel
theorem dX2_areNear_1 : decode cX2_areNear 1 = .ok (.getfield 24, 3) := by decide +kernel
theorem dX2_areNear_4 : decode cX2_areNear 4 = .ok (.iload_n 1, 1) := by decide +kernel
theorem dX2_areNear_5 : decode cX2_areNear 5 = .ok (.iaload, 1) := by decide +kernel
theorem dX2_areNear_6 : decode cX2_areNear 6 = .ok (.iload_n 2, 1) := by decide +kernel
theorem dX2_areNear_7 : decode cX2_areNear 7 = .ok (.ishr, 1) := by decide +kernel
theorem dX2_areNear_8 : decode cX2_areNear 8 = .ok (.iconst 1, 1) := by decide +kernel
theorem dX2_areNear_9 : decode cX2_areNear 9 = .ok (.iand, 1) := by decide +kernel
theorem dX2_areNear_10 : decode cX2_areNear 10 = .ok (.ifCond .eq 7, 3) := by decide +kernel
theorem dX2_areNear_13 : decode cX2_areNear 13 = .ok (.iconst 1, 1) := by decide +kernel
theorem dX2_areNear_14 : decode cX2_areNear 14 = .ok (.goto 4, 3) := by decide +kernel
theorem dX2_areNear_17 : decode cX2_areNear 17 = .ok (.iconst 0, 1) := by decide +kernel
theorem dX2_areNear_18 : decode cX2_areNear 18 = .ok (.ireturn, 1) := by decide +kernel
theorem dX2_isFree_0 : decode cX2_isFree 0 = .ok (.aload_n 0, 1) := by decide +kernel
theorem dX2_isFree_1 : decode cX2_isFree 1 = .ok (.getfield 49, 3) := by decide +kernel
theorem dX2_isFree_4 : decode cX2_isFree 4 = .ok (.iload_n 1, 1) := by decide +kernel
theorem dX2_isFree_5 : decode cX2_isFree 5 = .ok (.ishr, 1) := by decide +kernel
theorem dX2_isFree_6 : decode cX2_isFree 6 = .ok (.iconst 1, 1) := by decide +kernel
theorem dX2_isFree_7 : decode cX2_isFree 7 = .ok (.iand, 1) := by decide +kernel
theorem dX2_isFree_8 : decode cX2_isFree 8 = .ok (.ifCond .eq 7, 3) := by decide +kernel
theorem dX2_isFree_11 : decode cX2_isFree 11 = .ok (.iconst 1, 1) := by decide +kernel
theorem dX2_isFree_12 : decode cX2_isFree 12 = .ok (.goto 4, 3) := by decide +kernel
theorem dX2_isFree_15 : decode cX2_isFree 15 = .ok (.iconst 0, 1) := by decide +kernel
theorem dX2_isFree_16 : decode cX2_isFree 16 = .ok (.ireturn, 1) := by decide +kernel
theorem dX2_howMany_0 : decode cX2_howMany 0 = .ok (.iload_n 1, 1) := by decide +kernel
theorem dX2_howMany_1 : decode cX2_howMany 1 = .ok (.tableswitch 42 0 2 #[27, 32, 37], 27) := by decide +kernel
theorem dX2_howMany_28 : decode cX2_howMany 28 = .ok (.aload_n 0, 1) := by decide +kernel
theorem dX2_howMany_29 : decode cX2_howMany 29 = .ok (.getfield 46, 3) := by decide +kernel
theorem dX2_howMany_32 : decode cX2_howMany 32 = .ok (.ireturn, 1) := by decide +kernel
theorem dX2_howMany_33 : decode cX2_howMany 33 = .ok (.aload_n 0, 1) := by decide +kernel
theorem dX2_howMany_34 : decode cX2_howMany 34 = .ok (.getfield 52, 3) := by decide +kernel
theorem dX2_howMany_37 : decode cX2_howMany 37 = .ok (.ireturn, 1) := by decide +kernel
theorem dX2_howMany_38 : decode cX2_howMany 38 = .ok (.aload_n 0, 1) := by decide +kernel
theorem dX2_howMany_39 : decode cX2_howMany 39 = .ok (.getfield 55, 3) := by decide +kernel
theorem dX2_howMany_42 : decode cX2_howMany 42 = .ok (.ireturn, 1) := by decide +kernel
theorem dX2_howMany_43 : decode cX2_howMany 43 = .ok (.aload_n 0, 1) := by decide +kernel
theorem dX2_howMany_44 : decode cX2_howMany 44 = .ok (.getfield 58, 3) := by decide +kernel
theorem dX2_howMany_47 : decode cX2_howMany 47 = .ok (.ireturn, 1) := by decide +kernel
theorem dX2_addShop_0 : decode cX2_addShop 0 = .ok (.aload_n 0, 1) := by decide +kernel
theorem dX2_addShop_1 : decode cX2_addShop 1 = .ok (.getfield 46, 3) := by decide +kernel
theorem dX2_addShop_4 : decode cX2_addShop 4 = .ok (.bipush 6, 2) := by decide +kernel
theorem dX2_addShop_6 : decode cX2_addShop 6 = .ok (.if_icmp .ge 64, 3) := by decide +kernel
theorem dX2_addShop_9 : decode cX2_addShop 9 = .ok (.aload_n 0, 1) := by decide +kernel
theorem dX2_addShop_10 : decode cX2_addShop 10 = .ok (.getfield 9, 3) := by decide +kernel
theorem dX2_addShop_13 : decode cX2_addShop 13 = .ok (.aload_n 0, 1) := by decide +kernel
theorem dX2_addShop_14 : decode cX2_addShop 14 = .ok (.getfield 46, 3) := by decide +kernel
theorem dX2_addShop_17 : decode cX2_addShop 17 = .ok (.iload_n 1, 1) := by decide +kernel
theorem dX2_addShop_18 : decode cX2_addShop 18 = .ok (.iastore, 1) := by decide +kernel
theorem dX2_addShop_19 : decode cX2_addShop 19 = .ok (.aload_n 0, 1) := by decide +kernel
theorem dX2_addShop_20 : decode cX2_addShop 20 = .ok (.getfield 15, 3) := by decide +kernel
theorem dX2_addShop_23 : decode cX2_addShop 23 = .ok (.aload_n 0, 1) := by decide +kernel
theorem dX2_addShop_24 : decode cX2_addShop 24 = .ok (.getfield 46, 3) := by decide +kernel
theorem dX2_addShop_27 : decode cX2_addShop 27 = .ok (.iload_n 2, 1) := by decide +kernel
theorem dX2_addShop_28 : decode cX2_addShop 28 = .ok (.iastore, 1) := by decide +kernel
theorem dX2_addShop_29 : decode cX2_addShop 29 = .ok (.aload_n 0, 1) := by decide +kernel
theorem dX2_addShop_30 : decode cX2_addShop 30 = .ok (.getfield 18, 3) := by decide +kernel
theorem dX2_addShop_33 : decode cX2_addShop 33 = .ok (.aload_n 0, 1) := by decide +kernel
theorem dX2_addShop_34 : decode cX2_addShop 34 = .ok (.getfield 46, 3) := by decide +kernel
theorem dX2_addShop_37 : decode cX2_addShop 37 = .ok (.iload_n 3, 1) := by decide +kernel
theorem dX2_addShop_38 : decode cX2_addShop 38 = .ok (.iastore, 1) := by decide +kernel
theorem dX2_addShop_39 : decode cX2_addShop 39 = .ok (.aload_n 0, 1) := by decide +kernel
theorem dX2_addShop_40 : decode cX2_addShop 40 = .ok (.getfield 21, 3) := by decide +kernel
theorem dX2_addShop_43 : decode cX2_addShop 43 = .ok (.aload_n 0, 1) := by decide +kernel
theorem dX2_addShop_44 : decode cX2_addShop 44 = .ok (.getfield 46, 3) := by decide +kernel
theorem dX2_addShop_47 : decode cX2_addShop 47 = .ok (.iload 4, 2) := by decide +kernel
theorem dX2_addShop_49 : decode cX2_addShop 49 = .ok (.iastore, 1) := by decide +kernel
theorem dX2_addShop_50 : decode cX2_addShop 50 = .ok (.aload_n 0, 1) := by decide +kernel
theorem dX2_addShop_51 : decode cX2_addShop 51 = .ok (.getfield 24, 3) := by decide +kernel
theorem dX2_addShop_54 : decode cX2_addShop 54 = .ok (.aload_n 0, 1) := by decide +kernel
theorem dX2_addShop_55 : decode cX2_addShop 55 = .ok (.getfield 46, 3) := by decide +kernel
theorem dX2_addShop_58 : decode cX2_addShop 58 = .ok (.iconst 0, 1) := by decide +kernel
theorem dX2_addShop_59 : decode cX2_addShop 59 = .ok (.iastore, 1) := by decide +kernel
theorem dX2_addShop_60 : decode cX2_addShop 60 = .ok (.aload_n 0, 1) := by decide +kernel
theorem dX2_addShop_61 : decode cX2_addShop 61 = .ok (.dup, 1) := by decide +kernel
theorem dX2_addShop_62 : decode cX2_addShop 62 = .ok (.getfield 46, 3) := by decide +kernel
theorem dX2_addShop_65 : decode cX2_addShop 65 = .ok (.iconst 1, 1) := by decide +kernel
theorem dX2_addShop_66 : decode cX2_addShop 66 = .ok (.iadd, 1) := by decide +kernel
theorem dX2_addShop_67 : decode cX2_addShop 67 = .ok (.putfield 46, 3) := by decide +kernel
theorem dX2_addShop_70 : decode cX2_addShop 70 = .ok (.return_, 1) := by decide +kernel
theorem dX2_addBought_0 : decode cX2_addBought 0 = .ok (.aload_n 0, 1) := by decide +kernel
theorem dX2_addBought_1 : decode cX2_addBought 1 = .ok (.getfield 52, 3) := by decide +kernel
theorem dX2_addBought_4 : decode cX2_addBought 4 = .ok (.bipush 12, 2) := by decide +kernel
theorem dX2_addBought_6 : decode cX2_addBought 6 = .ok (.if_icmp .ge 23, 3) := by decide +kernel
theorem dX2_addBought_9 : decode cX2_addBought 9 = .ok (.aload_n 0, 1) := by decide +kernel
theorem dX2_addBought_10 : decode cX2_addBought 10 = .ok (.getfield 34, 3) := by decide +kernel
theorem dX2_addBought_13 : decode cX2_addBought 13 = .ok (.aload_n 0, 1) := by decide +kernel
theorem dX2_addBought_14 : decode cX2_addBought 14 = .ok (.getfield 52, 3) := by decide +kernel
theorem dX2_addBought_17 : decode cX2_addBought 17 = .ok (.iload_n 1, 1) := by decide +kernel
theorem dX2_addBought_18 : decode cX2_addBought 18 = .ok (.iastore, 1) := by decide +kernel
theorem dX2_addBought_19 : decode cX2_addBought 19 = .ok (.aload_n 0, 1) := by decide +kernel
theorem dX2_addBought_20 : decode cX2_addBought 20 = .ok (.dup, 1) := by decide +kernel
theorem dX2_addBought_21 : decode cX2_addBought 21 = .ok (.getfield 52, 3) := by decide +kernel
theorem dX2_addBought_24 : decode cX2_addBought 24 = .ok (.iconst 1, 1) := by decide +kernel
theorem dX2_addBought_25 : decode cX2_addBought 25 = .ok (.iadd, 1) := by decide +kernel
theorem dX2_addBought_26 : decode cX2_addBought 26 = .ok (.putfield 52, 3) := by decide +kernel
theorem dX2_addBought_29 : decode cX2_addBought 29 = .ok (.return_, 1) := by decide +kernel
theorem dX2_setNear_0 : decode cX2_setNear 0 = .ok (.aload_n 0, 1) := by decide +kernel
theorem dX2_setNear_1 : decode cX2_setNear 1 = .ok (.getfield 24, 3) := by decide +kernel
theorem dX2_setNear_4 : decode cX2_setNear 4 = .ok (.iload_n 1, 1) := by decide +kernel
theorem dX2_setNear_5 : decode cX2_setNear 5 = .ok (.iload_n 3, 1) := by decide +kernel
theorem dX2_setNear_6 : decode cX2_setNear 6 = .ok (.ifCond .eq 16, 3) := by decide +kernel
theorem dX2_setNear_9 : decode cX2_setNear 9 = .ok (.aload_n 0, 1) := by decide +kernel
theorem dX2_setNear_10 : decode cX2_setNear 10 = .ok (.getfield 24, 3) := by decide +kernel
theorem dX2_setNear_13 : decode cX2_setNear 13 = .ok (.iload_n 1, 1) := by decide +kernel
theorem dX2_setNear_14 : decode cX2_setNear 14 = .ok (.iaload, 1) := by decide +kernel
theorem dX2_setNear_15 : decode cX2_setNear 15 = .ok (.iconst 1, 1) := by decide +kernel
theorem dX2_setNear_16 : decode cX2_setNear 16 = .ok (.iload_n 2, 1) := by decide +kernel
theorem dX2_setNear_17 : decode cX2_setNear 17 = .ok (.ishl, 1) := by decide +kernel
theorem dX2_setNear_18 : decode cX2_setNear 18 = .ok (.ior, 1) := by decide +kernel
theorem dX2_setNear_19 : decode cX2_setNear 19 = .ok (.goto 15, 3) := by decide +kernel
theorem dX2_setNear_22 : decode cX2_setNear 22 = .ok (.aload_n 0, 1) := by decide +kernel
theorem dX2_setNear_23 : decode cX2_setNear 23 = .ok (.getfield 24, 3) := by decide +kernel
theorem dX2_setNear_26 : decode cX2_setNear 26 = .ok (.iload_n 1, 1) := by decide +kernel
theorem dX2_setNear_27 : decode cX2_setNear 27 = .ok (.iaload, 1) := by decide +kernel
theorem dX2_setNear_28 : decode cX2_setNear 28 = .ok (.iconst 1, 1) := by decide +kernel
theorem dX2_setNear_29 : decode cX2_setNear 29 = .ok (.iload_n 2, 1) := by decide +kernel
theorem dX2_setNear_30 : decode cX2_setNear 30 = .ok (.ishl, 1) := by decide +kernel
theorem dX2_setNear_31 : decode cX2_setNear 31 = .ok (.iconst (-1), 1) := by decide +kernel
theorem dX2_setNear_32 : decode cX2_setNear 32 = .ok (.ixor, 1) := by decide +kernel
theorem dX2_setNear_33 : decode cX2_setNear 33 = .ok (.iand, 1) := by decide +kernel
theorem dX2_setNear_34 : decode cX2_setNear 34 = .ok (.iastore, 1) := by decide +kernel
theorem dX2_setNear_35 : decode cX2_setNear 35 = .ok (.aload_n 0, 1) := by decide +kernel
theorem dX2_setNear_36 : decode cX2_setNear 36 = .ok (.getfield 24, 3) := by decide +kernel
theorem dX2_setNear_39 : decode cX2_setNear 39 = .ok (.iload_n 2, 1) := by decide +kernel
theorem dX2_setNear_40 : decode cX2_setNear 40 = .ok (.iload_n 3, 1) := by decide +kernel
theorem dX2_setNear_41 : decode cX2_setNear 41 = .ok (.ifCond .eq 16, 3) := by decide +kernel
theorem dX2_setNear_44 : decode cX2_setNear 44 = .ok (.aload_n 0, 1) := by decide +kernel
theorem dX2_setNear_45 : decode cX2_setNear 45 = .ok (.getfield 24, 3) := by decide +kernel
theorem dX2_setNear_48 : decode cX2_setNear 48 = .ok (.iload_n 2, 1) := by decide +kernel
theorem dX2_setNear_49 : decode cX2_setNear 49 = .ok (.iaload, 1) := by decide +kernel
theorem dX2_setNear_50 : decode cX2_setNear 50 = .ok (.iconst 1, 1) := by decide +kernel
theorem dX2_setNear_51 : decode cX2_setNear 51 = .ok (.iload_n 1, 1) := by decide +kernel
theorem dX2_setNear_52 : decode cX2_setNear 52 = .ok (.ishl, 1) := by decide +kernel
theorem dX2_setNear_53 : decode cX2_setNear 53 = .ok (.ior, 1) := by decide +kernel
theorem dX2_setNear_54 : decode cX2_setNear 54 = .ok (.goto 15, 3) := by decide +kernel
theorem dX2_setNear_57 : decode cX2_setNear 57 = .ok (.aload_n 0, 1) := by decide +kernel
theorem dX2_setNear_58 : decode cX2_setNear 58 = .ok (.getfield 24, 3) := by decide +kernel
theorem dX2_setNear_61 : decode cX2_setNear 61 = .ok (.iload_n 2, 1) := by decide +kernel
theorem dX2_setNear_62 : decode cX2_setNear 62 = .ok (.iaload, 1) := by decide +kernel
theorem dX2_setNear_63 : decode cX2_setNear 63 = .ok (.iconst 1, 1) := by decide +kernel
theorem dX2_setNear_64 : decode cX2_setNear 64 = .ok (.iload_n 1, 1) := by decide +kernel
theorem dX2_setNear_65 : decode cX2_setNear 65 = .ok (.ishl, 1) := by decide +kernel
theorem dX2_setNear_66 : decode cX2_setNear 66 = .ok (.iconst (-1), 1) := by decide +kernel
theorem dX2_setNear_67 : decode cX2_setNear 67 = .ok (.ixor, 1) := by decide +kernel
theorem dX2_setNear_68 : decode cX2_setNear 68 = .ok (.iand, 1) := by decide +kernel
theorem dX2_setNear_69 : decode cX2_setNear 69 = .ok (.iastore, 1) := by decide +kernel
theorem dX2_setNear_70 : decode cX2_setNear 70 = .ok (.return_, 1) := by decide +kernel
theorem dX2_setFree_0 : decode cX2_setFree 0 = .ok (.aload_n 0, 1) := by decide +kernel
theorem dX2_setFree_1 : decode cX2_setFree 1 = .ok (.iload_n 2, 1) := by decide +kernel
theorem dX2_setFree_2 : decode cX2_setFree 2 = .ok (.ifCond .eq 14, 3) := by decide +kernel
theorem dX2_setFree_5 : decode cX2_setFree 5 = .ok (.aload_n 0, 1) := by decide +kernel
theorem dX2_setFree_6 : decode cX2_setFree 6 = .ok (.getfield 49, 3) := by decide +kernel
theorem dX2_setFree_9 : decode cX2_setFree 9 = .ok (.iconst 1, 1) := by decide +kernel
theorem dX2_setFree_10 : decode cX2_setFree 10 = .ok (.iload_n 1, 1) := by decide +kernel
theorem dX2_setFree_11 : decode cX2_setFree 11 = .ok (.ishl, 1) := by decide +kernel
theorem dX2_setFree_12 : decode cX2_setFree 12 = .ok (.ior, 1) := by decide +kernel
theorem dX2_setFree_13 : decode cX2_setFree 13 = .ok (.goto 13, 3) := by decide +kernel
theorem dX2_setFree_16 : decode cX2_setFree 16 = .ok (.aload_n 0, 1) := by decide +kernel
theorem dX2_setFree_17 : decode cX2_setFree 17 = .ok (.getfield 49, 3) := by decide +kernel
theorem dX2_setFree_20 : decode cX2_setFree 20 = .ok (.iconst 1, 1) := by decide +kernel
theorem dX2_setFree_21 : decode cX2_setFree 21 = .ok (.iload_n 1, 1) := by decide +kernel
theorem dX2_setFree_22 : decode cX2_setFree 22 = .ok (.ishl, 1) := by decide +kernel
theorem dX2_setFree_23 : decode cX2_setFree 23 = .ok (.iconst (-1), 1) := by decide +kernel
theorem dX2_setFree_24 : decode cX2_setFree 24 = .ok (.ixor, 1) := by decide +kernel
theorem dX2_setFree_25 : decode cX2_setFree 25 = .ok (.iand, 1) := by decide +kernel
theorem dX2_setFree_26 : decode cX2_setFree 26 = .ok (.putfield 49, 3) := by decide +kernel
theorem dX2_setFree_29 : decode cX2_setFree 29 = .ok (.return_, 1) := by decide +kernel
theorem dX2_forgetShops_0 : decode cX2_forgetShops 0 = .ok (.aload_n 0, 1) := by decide +kernel
theorem dX2_forgetShops_1 : decode cX2_forgetShops 1 = .ok (.iconst 0, 1) := by decide +kernel
theorem dX2_forgetShops_2 : decode cX2_forgetShops 2 = .ok (.putfield 46, 3) := by decide +kernel
theorem dX2_forgetShops_5 : decode cX2_forgetShops 5 = .ok (.aload_n 0, 1) := by decide +kernel
theorem dX2_forgetShops_6 : decode cX2_forgetShops 6 = .ok (.iconst 0, 1) := by decide +kernel
theorem dX2_forgetShops_7 : decode cX2_forgetShops 7 = .ok (.putfield 49, 3) := by decide +kernel
theorem dX2_forgetShops_10 : decode cX2_forgetShops 10 = .ok (.aload_n 0, 1) := by decide +kernel
theorem dX2_forgetShops_11 : decode cX2_forgetShops 11 = .ok (.iconst 0, 1) := by decide +kernel
theorem dX2_forgetShops_12 : decode cX2_forgetShops 12 = .ok (.putfield 52, 3) := by decide +kernel
theorem dX2_forgetShops_15 : decode cX2_forgetShops 15 = .ok (.return_, 1) := by decide +kernel
theorem dX2_takeShopsOf_0 : decode cX2_takeShopsOf 0 = .ok (.aload_n 0, 1) := by decide +kernel
theorem dX2_takeShopsOf_1 : decode cX2_takeShopsOf 1 = .ok (.aload_n 1, 1) := by decide +kernel
theorem dX2_takeShopsOf_2 : decode cX2_takeShopsOf 2 = .ok (.getfield 46, 3) := by decide +kernel
theorem dX2_takeShopsOf_5 : decode cX2_takeShopsOf 5 = .ok (.putfield 46, 3) := by decide +kernel
theorem dX2_takeShopsOf_8 : decode cX2_takeShopsOf 8 = .ok (.aload_n 1, 1) := by decide +kernel
theorem dX2_takeShopsOf_9 : decode cX2_takeShopsOf 9 = .ok (.getfield 9, 3) := by decide +kernel
theorem dX2_takeShopsOf_12 : decode cX2_takeShopsOf 12 = .ok (.iconst 0, 1) := by decide +kernel
theorem dX2_takeShopsOf_13 : decode cX2_takeShopsOf 13 = .ok (.aload_n 0, 1) := by decide +kernel
theorem dX2_takeShopsOf_14 : decode cX2_takeShopsOf 14 = .ok (.getfield 9, 3) := by decide +kernel
theorem dX2_takeShopsOf_17 : decode cX2_takeShopsOf 17 = .ok (.iconst 0, 1) := by decide +kernel
theorem dX2_takeShopsOf_18 : decode cX2_takeShopsOf 18 = .ok (.bipush 6, 2) := by decide +kernel
theorem dX2_takeShopsOf_20 : decode cX2_takeShopsOf 20 = .ok (.invokestatic 61, 3) := by decide +kernel
theorem dX2_takeShopsOf_23 : decode cX2_takeShopsOf 23 = .ok (.aload_n 1, 1) := by decide +kernel
theorem dX2_takeShopsOf_24 : decode cX2_takeShopsOf 24 = .ok (.getfield 15, 3) := by decide +kernel
theorem dX2_takeShopsOf_27 : decode cX2_takeShopsOf 27 = .ok (.iconst 0, 1) := by decide +kernel
theorem dX2_takeShopsOf_28 : decode cX2_takeShopsOf 28 = .ok (.aload_n 0, 1) := by decide +kernel
theorem dX2_takeShopsOf_29 : decode cX2_takeShopsOf 29 = .ok (.getfield 15, 3) := by decide +kernel
theorem dX2_takeShopsOf_32 : decode cX2_takeShopsOf 32 = .ok (.iconst 0, 1) := by decide +kernel
theorem dX2_takeShopsOf_33 : decode cX2_takeShopsOf 33 = .ok (.bipush 6, 2) := by decide +kernel
theorem dX2_takeShopsOf_35 : decode cX2_takeShopsOf 35 = .ok (.invokestatic 61, 3) := by decide +kernel
theorem dX2_takeShopsOf_38 : decode cX2_takeShopsOf 38 = .ok (.aload_n 1, 1) := by decide +kernel
theorem dX2_takeShopsOf_39 : decode cX2_takeShopsOf 39 = .ok (.getfield 18, 3) := by decide +kernel
theorem dX2_takeShopsOf_42 : decode cX2_takeShopsOf 42 = .ok (.iconst 0, 1) := by decide +kernel
theorem dX2_takeShopsOf_43 : decode cX2_takeShopsOf 43 = .ok (.aload_n 0, 1) := by decide +kernel
theorem dX2_takeShopsOf_44 : decode cX2_takeShopsOf 44 = .ok (.getfield 18, 3) := by decide +kernel
theorem dX2_takeShopsOf_47 : decode cX2_takeShopsOf 47 = .ok (.iconst 0, 1) := by decide +kernel
theorem dX2_takeShopsOf_48 : decode cX2_takeShopsOf 48 = .ok (.bipush 6, 2) := by decide +kernel
theorem dX2_takeShopsOf_50 : decode cX2_takeShopsOf 50 = .ok (.invokestatic 61, 3) := by decide +kernel
theorem dX2_takeShopsOf_53 : decode cX2_takeShopsOf 53 = .ok (.aload_n 1, 1) := by decide +kernel
theorem dX2_takeShopsOf_54 : decode cX2_takeShopsOf 54 = .ok (.getfield 21, 3) := by decide +kernel
theorem dX2_takeShopsOf_57 : decode cX2_takeShopsOf 57 = .ok (.iconst 0, 1) := by decide +kernel
theorem dX2_takeShopsOf_58 : decode cX2_takeShopsOf 58 = .ok (.aload_n 0, 1) := by decide +kernel
theorem dX2_takeShopsOf_59 : decode cX2_takeShopsOf 59 = .ok (.getfield 21, 3) := by decide +kernel
theorem dX2_takeShopsOf_62 : decode cX2_takeShopsOf 62 = .ok (.iconst 0, 1) := by decide +kernel
theorem dX2_takeShopsOf_63 : decode cX2_takeShopsOf 63 = .ok (.bipush 6, 2) := by decide +kernel
theorem dX2_takeShopsOf_65 : decode cX2_takeShopsOf 65 = .ok (.invokestatic 61, 3) := by decide +kernel
theorem dX2_takeShopsOf_68 : decode cX2_takeShopsOf 68 = .ok (.aload_n 1, 1) := by decide +kernel
theorem dX2_takeShopsOf_69 : decode cX2_takeShopsOf 69 = .ok (.getfield 24, 3) := by decide +kernel
theorem dX2_takeShopsOf_72 : decode cX2_takeShopsOf 72 = .ok (.iconst 0, 1) := by decide +kernel
theorem dX2_takeShopsOf_73 : decode cX2_takeShopsOf 73 = .ok (.aload_n 0, 1) := by decide +kernel
theorem dX2_takeShopsOf_74 : decode cX2_takeShopsOf 74 = .ok (.getfield 24, 3) := by decide +kernel
theorem dX2_takeShopsOf_77 : decode cX2_takeShopsOf 77 = .ok (.iconst 0, 1) := by decide +kernel
theorem dX2_takeShopsOf_78 : decode cX2_takeShopsOf 78 = .ok (.bipush 6, 2) := by decide +kernel
theorem dX2_takeShopsOf_80 : decode cX2_takeShopsOf 80 = .ok (.invokestatic 61, 3) := by decide +kernel
theorem dX2_takeShopsOf_83 : decode cX2_takeShopsOf 83 = .ok (.aload_n 0, 1) := by decide +kernel
theorem dX2_takeShopsOf_84 : decode cX2_takeShopsOf 84 = .ok (.aload_n 1, 1) := by decide +kernel
theorem dX2_takeShopsOf_85 : decode cX2_takeShopsOf 85 = .ok (.getfield 49, 3) := by decide +kernel
theorem dX2_takeShopsOf_88 : decode cX2_takeShopsOf 88 = .ok (.putfield 49, 3) := by decide +kernel
theorem dX2_takeShopsOf_91 : decode cX2_takeShopsOf 91 = .ok (.aload_n 0, 1) := by decide +kernel
theorem dX2_takeShopsOf_92 : decode cX2_takeShopsOf 92 = .ok (.aload_n 1, 1) := by decide +kernel
theorem dX2_takeShopsOf_93 : decode cX2_takeShopsOf 93 = .ok (.getfield 52, 3) := by decide +kernel
theorem dX2_takeShopsOf_96 : decode cX2_takeShopsOf 96 = .ok (.putfield 52, 3) := by decide +kernel
theorem dX2_takeShopsOf_99 : decode cX2_takeShopsOf 99 = .ok (.aload_n 1, 1) := by decide +kernel
theorem dX2_takeShopsOf_100 : decode cX2_takeShopsOf 100 = .ok (.getfield 34, 3) := by decide +kernel
theorem dX2_takeShopsOf_103 : decode cX2_takeShopsOf 103 = .ok (.iconst 0, 1) := by decide +kernel
theorem dX2_takeShopsOf_104 : decode cX2_takeShopsOf 104 = .ok (.aload_n 0, 1) := by decide +kernel
theorem dX2_takeShopsOf_105 : decode cX2_takeShopsOf 105 = .ok (.getfield 34, 3) := by decide +kernel
theorem dX2_takeShopsOf_108 : decode cX2_takeShopsOf 108 = .ok (.iconst 0, 1) := by decide +kernel
theorem dX2_takeShopsOf_109 : decode cX2_takeShopsOf 109 = .ok (.bipush 12, 2) := by decide +kernel
theorem dX2_takeShopsOf_111 : decode cX2_takeShopsOf 111 = .ok (.invokestatic 61, 3) := by decide +kernel
theorem dX2_takeShopsOf_114 : decode cX2_takeShopsOf 114 = .ok (.return_, 1) := by decide +kernel
set_option maxRecDepth 20000 in
theorem ggX2_takeAllOf_X2_takeShopsOf : GoodIn wsX2_takeAllOf wsX2_takeShopsOf := goodIn_r _ [16, 17, 18, 5, 6, 7, 8, 19, 20, 21, 22, 23, 24, 25, 26, 27, 28, 29, 30, 31, 32, 33, 34, 35, 36, 37, 38, 39, 40, 41] (by decide +kernel) (by decide +kernel)
set_option maxRecDepth 20000 in
theorem gX2_takeAllOf_X2_takeShopsOf : GoodIn wsX2_takeAllOf (wsV RX2 67 RX2 yX2_takeShopsOf wsX2_takeShopsOf) := goodIn_app (goodIn_of _ (by decide +kernel)) ggX2_takeAllOf_X2_takeShopsOf
theorem dX2_takeAllOf_0 : decode cX2_takeAllOf 0 = .ok (.aload_n 0, 1) := by decide +kernel
theorem dX2_takeAllOf_1 : decode cX2_takeAllOf 1 = .ok (.aload_n 1, 1) := by decide +kernel
theorem dX2_takeAllOf_2 : decode cX2_takeAllOf 2 = .ok (.invokevirtual 67, 3) := by decide +kernel
theorem dX2_takeAllOf_5 : decode cX2_takeAllOf 5 = .ok (.aload_n 0, 1) := by decide +kernel
theorem dX2_takeAllOf_6 : decode cX2_takeAllOf 6 = .ok (.aload_n 1, 1) := by decide +kernel
theorem dX2_takeAllOf_7 : decode cX2_takeAllOf 7 = .ok (.getfield 27, 3) := by decide +kernel
theorem dX2_takeAllOf_10 : decode cX2_takeAllOf 10 = .ok (.putfield 27, 3) := by decide +kernel
theorem dX2_takeAllOf_13 : decode cX2_takeAllOf 13 = .ok (.aload_n 0, 1) := by decide +kernel
theorem dX2_takeAllOf_14 : decode cX2_takeAllOf 14 = .ok (.aload_n 1, 1) := by decide +kernel
theorem dX2_takeAllOf_15 : decode cX2_takeAllOf 15 = .ok (.getfield 31, 3) := by decide +kernel
theorem dX2_takeAllOf_18 : decode cX2_takeAllOf 18 = .ok (.putfield 31, 3) := by decide +kernel
theorem dX2_takeAllOf_21 : decode cX2_takeAllOf 21 = .ok (.aload_n 0, 1) := by decide +kernel
theorem dX2_takeAllOf_22 : decode cX2_takeAllOf 22 = .ok (.aload_n 1, 1) := by decide +kernel
theorem dX2_takeAllOf_23 : decode cX2_takeAllOf 23 = .ok (.getfield 55, 3) := by decide +kernel
theorem dX2_takeAllOf_26 : decode cX2_takeAllOf 26 = .ok (.putfield 55, 3) := by decide +kernel
theorem dX2_takeAllOf_29 : decode cX2_takeAllOf 29 = .ok (.aload_n 1, 1) := by decide +kernel
theorem dX2_takeAllOf_30 : decode cX2_takeAllOf 30 = .ok (.getfield 37, 3) := by decide +kernel
theorem dX2_takeAllOf_33 : decode cX2_takeAllOf 33 = .ok (.iconst 0, 1) := by decide +kernel
theorem dX2_takeAllOf_34 : decode cX2_takeAllOf 34 = .ok (.aload_n 0, 1) := by decide +kernel
theorem dX2_takeAllOf_35 : decode cX2_takeAllOf 35 = .ok (.getfield 37, 3) := by decide +kernel
theorem dX2_takeAllOf_38 : decode cX2_takeAllOf 38 = .ok (.iconst 0, 1) := by decide +kernel
theorem dX2_takeAllOf_39 : decode cX2_takeAllOf 39 = .ok (.sipush 200, 3) := by decide +kernel
theorem dX2_takeAllOf_42 : decode cX2_takeAllOf 42 = .ok (.invokestatic 61, 3) := by decide +kernel
theorem dX2_takeAllOf_45 : decode cX2_takeAllOf 45 = .ok (.aload_n 0, 1) := by decide +kernel
theorem dX2_takeAllOf_46 : decode cX2_takeAllOf 46 = .ok (.aload_n 1, 1) := by decide +kernel
theorem dX2_takeAllOf_47 : decode cX2_takeAllOf 47 = .ok (.getfield 58, 3) := by decide +kernel
theorem dX2_takeAllOf_50 : decode cX2_takeAllOf 50 = .ok (.putfield 58, 3) := by decide +kernel
theorem dX2_takeAllOf_53 : decode cX2_takeAllOf 53 = .ok (.aload_n 1, 1) := by decide +kernel
theorem dX2_takeAllOf_54 : decode cX2_takeAllOf 54 = .ok (.getfield 40, 3) := by decide +kernel
theorem dX2_takeAllOf_57 : decode cX2_takeAllOf 57 = .ok (.iconst 0, 1) := by decide +kernel
theorem dX2_takeAllOf_58 : decode cX2_takeAllOf 58 = .ok (.aload_n 0, 1) := by decide +kernel
theorem dX2_takeAllOf_59 : decode cX2_takeAllOf 59 = .ok (.getfield 40, 3) := by decide +kernel
theorem dX2_takeAllOf_62 : decode cX2_takeAllOf 62 = .ok (.iconst 0, 1) := by decide +kernel
theorem dX2_takeAllOf_63 : decode cX2_takeAllOf 63 = .ok (.bipush 6, 2) := by decide +kernel
theorem dX2_takeAllOf_65 : decode cX2_takeAllOf 65 = .ok (.invokestatic 61, 3) := by decide +kernel
theorem dX2_takeAllOf_68 : decode cX2_takeAllOf 68 = .ok (.aload_n 1, 1) := by decide +kernel
theorem dX2_takeAllOf_69 : decode cX2_takeAllOf 69 = .ok (.getfield 43, 3) := by decide +kernel
theorem dX2_takeAllOf_72 : decode cX2_takeAllOf 72 = .ok (.iconst 0, 1) := by decide +kernel
theorem dX2_takeAllOf_73 : decode cX2_takeAllOf 73 = .ok (.aload_n 0, 1) := by decide +kernel
theorem dX2_takeAllOf_74 : decode cX2_takeAllOf 74 = .ok (.getfield 43, 3) := by decide +kernel
theorem dX2_takeAllOf_77 : decode cX2_takeAllOf 77 = .ok (.iconst 0, 1) := by decide +kernel
theorem dX2_takeAllOf_78 : decode cX2_takeAllOf 78 = .ok (.bipush 6, 2) := by decide +kernel
theorem dX2_takeAllOf_80 : decode cX2_takeAllOf 80 = .ok (.invokestatic 61, 3) := by decide +kernel
theorem dX2_takeAllOf_83 : decode cX2_takeAllOf 83 = .ok (.return_, 1) := by decide +kernel
theorem dX2_goodTaken_0 : decode cX2_goodTaken 0 = .ok (.aload_n 0, 1) := by decide +kernel
theorem dX2_goodTaken_1 : decode cX2_goodTaken 1 = .ok (.getfield 9, 3) := by decide +kernel
theorem dX2_goodTaken_4 : decode cX2_goodTaken 4 = .ok (.iload_n 1, 1) := by decide +kernel
theorem dX2_goodTaken_5 : decode cX2_goodTaken 5 = .ok (.iaload, 1) := by decide +kernel
theorem dX2_goodTaken_6 : decode cX2_goodTaken 6 = .ok (.iconst 2, 1) := by decide +kernel
theorem dX2_goodTaken_7 : decode cX2_goodTaken 7 = .ok (.if_icmp .eq 15, 3) := by decide +kernel
theorem dX2_goodTaken_10 : decode cX2_goodTaken 10 = .ok (.aload_n 0, 1) := by decide +kernel
theorem dX2_goodTaken_11 : decode cX2_goodTaken 11 = .ok (.getfield 9, 3) := by decide +kernel
theorem dX2_goodTaken_14 : decode cX2_goodTaken 14 = .ok (.iload_n 1, 1) := by decide +kernel
theorem dX2_goodTaken_15 : decode cX2_goodTaken 15 = .ok (.iaload, 1) := by decide +kernel
theorem dX2_goodTaken_16 : decode cX2_goodTaken 16 = .ok (.iconst 4, 1) := by decide +kernel
theorem dX2_goodTaken_17 : decode cX2_goodTaken 17 = .ok (.if_icmp .eq 5, 3) := by decide +kernel
theorem dX2_goodTaken_20 : decode cX2_goodTaken 20 = .ok (.iconst (-1), 1) := by decide +kernel
theorem dX2_goodTaken_21 : decode cX2_goodTaken 21 = .ok (.ireturn, 1) := by decide +kernel
theorem dX2_goodTaken_22 : decode cX2_goodTaken 22 = .ok (.iload_n 1, 1) := by decide +kernel
theorem dX2_goodTaken_23 : decode cX2_goodTaken 23 = .ok (.ifCond .le 9, 3) := by decide +kernel
theorem dX2_goodTaken_26 : decode cX2_goodTaken 26 = .ok (.iload_n 1, 1) := by decide +kernel
theorem dX2_goodTaken_27 : decode cX2_goodTaken 27 = .ok (.iconst 1, 1) := by decide +kernel
theorem dX2_goodTaken_28 : decode cX2_goodTaken 28 = .ok (.isub, 1) := by decide +kernel
theorem dX2_goodTaken_29 : decode cX2_goodTaken 29 = .ok (.goto 9, 3) := by decide +kernel
theorem dX2_goodTaken_32 : decode cX2_goodTaken 32 = .ok (.aload_n 0, 1) := by decide +kernel
theorem dX2_goodTaken_33 : decode cX2_goodTaken 33 = .ok (.getfield 46, 3) := by decide +kernel
theorem dX2_goodTaken_36 : decode cX2_goodTaken 36 = .ok (.iconst 1, 1) := by decide +kernel
theorem dX2_goodTaken_37 : decode cX2_goodTaken 37 = .ok (.isub, 1) := by decide +kernel
theorem dX2_goodTaken_38 : decode cX2_goodTaken 38 = .ok (.istore_n 3, 1) := by decide +kernel
theorem dX2_goodTaken_39 : decode cX2_goodTaken 39 = .ok (.iload_n 2, 1) := by decide +kernel
theorem dX2_goodTaken_40 : decode cX2_goodTaken 40 = .ok (.iconst 1, 1) := by decide +kernel
theorem dX2_goodTaken_41 : decode cX2_goodTaken 41 = .ok (.iload_n 3, 1) := by decide +kernel
theorem dX2_goodTaken_42 : decode cX2_goodTaken 42 = .ok (.ishl, 1) := by decide +kernel
theorem dX2_goodTaken_43 : decode cX2_goodTaken 43 = .ok (.iand, 1) := by decide +kernel
theorem dX2_goodTaken_44 : decode cX2_goodTaken 44 = .ok (.ifCond .eq 7, 3) := by decide +kernel
theorem dX2_goodTaken_47 : decode cX2_goodTaken 47 = .ok (.iload_n 3, 1) := by decide +kernel
theorem dX2_goodTaken_48 : decode cX2_goodTaken 48 = .ok (.goto 4, 3) := by decide +kernel
theorem dX2_goodTaken_51 : decode cX2_goodTaken 51 = .ok (.iconst (-1), 1) := by decide +kernel
theorem dX2_goodTaken_52 : decode cX2_goodTaken 52 = .ok (.ireturn, 1) := by decide +kernel
theorem dX2_asked_0 : decode cX2_asked 0 = .ok (.aload_n 0, 1) := by decide +kernel
theorem dX2_asked_1 : decode cX2_asked 1 = .ok (.getfield 9, 3) := by decide +kernel
theorem dX2_asked_4 : decode cX2_asked 4 = .ok (.iload_n 1, 1) := by decide +kernel
theorem dX2_asked_5 : decode cX2_asked 5 = .ok (.iaload, 1) := by decide +kernel
theorem dX2_asked_6 : decode cX2_asked 6 = .ok (.iconst 4, 1) := by decide +kernel
theorem dX2_asked_7 : decode cX2_asked 7 = .ok (.if_icmp .ne 9, 3) := by decide +kernel
theorem dX2_asked_10 : decode cX2_asked 10 = .ok (.iload_n 2, 1) := by decide +kernel
theorem dX2_asked_11 : decode cX2_asked 11 = .ok (.ifCond .ne 5, 3) := by decide +kernel
theorem dX2_asked_14 : decode cX2_asked 14 = .ok (.iconst 0, 1) := by decide +kernel
theorem dX2_asked_15 : decode cX2_asked 15 = .ok (.ireturn, 1) := by decide +kernel
theorem dX2_asked_16 : decode cX2_asked 16 = .ok (.aload_n 0, 1) := by decide +kernel
theorem dX2_asked_17 : decode cX2_asked 17 = .ok (.getfield 15, 3) := by decide +kernel
theorem dX2_asked_20 : decode cX2_asked 20 = .ok (.iload_n 1, 1) := by decide +kernel
theorem dX2_asked_21 : decode cX2_asked 21 = .ok (.iaload, 1) := by decide +kernel
theorem dX2_asked_22 : decode cX2_asked 22 = .ok (.istore 4, 2) := by decide +kernel
theorem dX2_asked_24 : decode cX2_asked 24 = .ok (.aload_n 0, 1) := by decide +kernel
theorem dX2_asked_25 : decode cX2_asked 25 = .ok (.getfield 9, 3) := by decide +kernel
theorem dX2_asked_28 : decode cX2_asked 28 = .ok (.iload_n 1, 1) := by decide +kernel
theorem dX2_asked_29 : decode cX2_asked 29 = .ok (.iaload, 1) := by decide +kernel
theorem dX2_asked_30 : decode cX2_asked 30 = .ok (.iconst 1, 1) := by decide +kernel
theorem dX2_asked_31 : decode cX2_asked 31 = .ok (.if_icmp .eq 23, 3) := by decide +kernel
theorem dX2_asked_34 : decode cX2_asked 34 = .ok (.aload_n 0, 1) := by decide +kernel
theorem dX2_asked_35 : decode cX2_asked 35 = .ok (.getfield 9, 3) := by decide +kernel
theorem dX2_asked_38 : decode cX2_asked 38 = .ok (.iload_n 1, 1) := by decide +kernel
theorem dX2_asked_39 : decode cX2_asked 39 = .ok (.iaload, 1) := by decide +kernel
theorem dX2_asked_40 : decode cX2_asked 40 = .ok (.iconst 3, 1) := by decide +kernel
theorem dX2_asked_41 : decode cX2_asked 41 = .ok (.if_icmp .eq 13, 3) := by decide +kernel
theorem dX2_asked_44 : decode cX2_asked 44 = .ok (.aload_n 0, 1) := by decide +kernel
theorem dX2_asked_45 : decode cX2_asked 45 = .ok (.getfield 9, 3) := by decide +kernel
theorem dX2_asked_48 : decode cX2_asked 48 = .ok (.iload_n 1, 1) := by decide +kernel
theorem dX2_asked_49 : decode cX2_asked 49 = .ok (.iaload, 1) := by decide +kernel
theorem dX2_asked_50 : decode cX2_asked 50 = .ok (.iconst 5, 1) := by decide +kernel
theorem dX2_asked_51 : decode cX2_asked 51 = .ok (.if_icmp .ne 9, 3) := by decide +kernel
theorem dX2_asked_54 : decode cX2_asked 54 = .ok (.iload 4, 2) := by decide +kernel
theorem dX2_asked_56 : decode cX2_asked 56 = .ok (.iload_n 2, 1) := by decide +kernel
theorem dX2_asked_57 : decode cX2_asked 57 = .ok (.iadd, 1) := by decide +kernel
theorem dX2_asked_58 : decode cX2_asked 58 = .ok (.istore 4, 2) := by decide +kernel
theorem dX2_asked_60 : decode cX2_asked 60 = .ok (.iload_n 3, 1) := by decide +kernel
theorem dX2_asked_61 : decode cX2_asked 61 = .ok (.iconst (-1), 1) := by decide +kernel
theorem dX2_asked_62 : decode cX2_asked 62 = .ok (.if_icmp .eq 16, 3) := by decide +kernel
theorem dX2_asked_65 : decode cX2_asked 65 = .ok (.iload 4, 2) := by decide +kernel
theorem dX2_asked_67 : decode cX2_asked 67 = .ok (.aload_n 0, 1) := by decide +kernel
theorem dX2_asked_68 : decode cX2_asked 68 = .ok (.getfield 15, 3) := by decide +kernel
theorem dX2_asked_71 : decode cX2_asked 71 = .ok (.iload_n 3, 1) := by decide +kernel
theorem dX2_asked_72 : decode cX2_asked 72 = .ok (.iaload, 1) := by decide +kernel
theorem dX2_asked_73 : decode cX2_asked 73 = .ok (.iconst 2, 1) := by decide +kernel
theorem dX2_asked_74 : decode cX2_asked 74 = .ok (.idiv, 1) := by decide +kernel
theorem dX2_asked_75 : decode cX2_asked 75 = .ok (.isub, 1) := by decide +kernel
theorem dX2_asked_76 : decode cX2_asked 76 = .ok (.istore 4, 2) := by decide +kernel
theorem dX2_asked_78 : decode cX2_asked 78 = .ok (.iload 4, 2) := by decide +kernel
theorem dX2_asked_80 : decode cX2_asked 80 = .ok (.ifCond .ge 7, 3) := by decide +kernel
theorem dX2_asked_83 : decode cX2_asked 83 = .ok (.iconst 0, 1) := by decide +kernel
theorem dX2_asked_84 : decode cX2_asked 84 = .ok (.goto 5, 3) := by decide +kernel
theorem dX2_asked_87 : decode cX2_asked 87 = .ok (.iload 4, 2) := by decide +kernel
theorem dX2_asked_89 : decode cX2_asked 89 = .ok (.ireturn, 1) := by decide +kernel
theorem dX2_minutesTaken_0 : decode cX2_minutesTaken 0 = .ok (.aload_n 0, 1) := by decide +kernel
theorem dX2_minutesTaken_1 : decode cX2_minutesTaken 1 = .ok (.getfield 9, 3) := by decide +kernel
theorem dX2_minutesTaken_4 : decode cX2_minutesTaken 4 = .ok (.iload_n 1, 1) := by decide +kernel
theorem dX2_minutesTaken_5 : decode cX2_minutesTaken 5 = .ok (.iaload, 1) := by decide +kernel
theorem dX2_minutesTaken_6 : decode cX2_minutesTaken 6 = .ok (.iconst 3, 1) := by decide +kernel
theorem dX2_minutesTaken_7 : decode cX2_minutesTaken 7 = .ok (.if_icmp .ne 14, 3) := by decide +kernel
theorem dX2_minutesTaken_10 : decode cX2_minutesTaken 10 = .ok (.iconst 2, 1) := by decide +kernel
theorem dX2_minutesTaken_11 : decode cX2_minutesTaken 11 = .ok (.aload_n 0, 1) := by decide +kernel
theorem dX2_minutesTaken_12 : decode cX2_minutesTaken 12 = .ok (.getfield 18, 3) := by decide +kernel
theorem dX2_minutesTaken_15 : decode cX2_minutesTaken 15 = .ok (.iload_n 1, 1) := by decide +kernel
theorem dX2_minutesTaken_16 : decode cX2_minutesTaken 16 = .ok (.iaload, 1) := by decide +kernel
theorem dX2_minutesTaken_17 : decode cX2_minutesTaken 17 = .ok (.imul, 1) := by decide +kernel
theorem dX2_minutesTaken_18 : decode cX2_minutesTaken 18 = .ok (.goto 9, 3) := by decide +kernel
theorem dX2_minutesTaken_21 : decode cX2_minutesTaken 21 = .ok (.aload_n 0, 1) := by decide +kernel
theorem dX2_minutesTaken_22 : decode cX2_minutesTaken 22 = .ok (.getfield 18, 3) := by decide +kernel
theorem dX2_minutesTaken_25 : decode cX2_minutesTaken 25 = .ok (.iload_n 1, 1) := by decide +kernel
theorem dX2_minutesTaken_26 : decode cX2_minutesTaken 26 = .ok (.iaload, 1) := by decide +kernel
theorem dX2_minutesTaken_27 : decode cX2_minutesTaken 27 = .ok (.ireturn, 1) := by decide +kernel
theorem dX2_sellsTo_0 : decode cX2_sellsTo 0 = .ok (.aload_n 0, 1) := by decide +kernel
theorem dX2_sellsTo_1 : decode cX2_sellsTo 1 = .ok (.getfield 9, 3) := by decide +kernel
theorem dX2_sellsTo_4 : decode cX2_sellsTo 4 = .ok (.iload_n 1, 1) := by decide +kernel
theorem dX2_sellsTo_5 : decode cX2_sellsTo 5 = .ok (.iaload, 1) := by decide +kernel
theorem dX2_sellsTo_6 : decode cX2_sellsTo 6 = .ok (.iconst 5, 1) := by decide +kernel
theorem dX2_sellsTo_7 : decode cX2_sellsTo 7 = .ok (.if_icmp .ne 8, 3) := by decide +kernel
theorem dX2_sellsTo_10 : decode cX2_sellsTo 10 = .ok (.iload_n 2, 1) := by decide +kernel
theorem dX2_sellsTo_11 : decode cX2_sellsTo 11 = .ok (.iconst 2, 1) := by decide +kernel
theorem dX2_sellsTo_12 : decode cX2_sellsTo 12 = .ok (.if_icmp .lt 7, 3) := by decide +kernel
theorem dX2_sellsTo_15 : decode cX2_sellsTo 15 = .ok (.iconst 1, 1) := by decide +kernel
theorem dX2_sellsTo_16 : decode cX2_sellsTo 16 = .ok (.goto 4, 3) := by decide +kernel
theorem dX2_sellsTo_19 : decode cX2_sellsTo 19 = .ok (.iconst 0, 1) := by decide +kernel
theorem dX2_sellsTo_20 : decode cX2_sellsTo 20 = .ok (.ireturn, 1) := by decide +kernel
theorem dX3_init_0 : decode cX3_init 0 = .ok (.aload_n 0, 1) := by decide +kernel
theorem dX3_init_1 : decode cX3_init 1 = .ok (.invokespecial 3, 3) := by decide +kernel
theorem dX3_init_4 : decode cX3_init 4 = .ok (.aload_n 0, 1) := by decide +kernel
theorem dX3_init_5 : decode cX3_init 5 = .ok (.bipush 6, 2) := by decide +kernel
theorem dX3_init_7 : decode cX3_init 7 = .ok (.newarray .int, 2) := by decide +kernel
theorem dX3_init_9 : decode cX3_init 9 = .ok (.putfield 9, 3) := by decide +kernel
theorem dX3_init_12 : decode cX3_init 12 = .ok (.aload_n 0, 1) := by decide +kernel
theorem dX3_init_13 : decode cX3_init 13 = .ok (.bipush 7, 2) := by decide +kernel
theorem dX3_init_15 : decode cX3_init 15 = .ok (.newarray .int, 2) := by decide +kernel
theorem dX3_init_17 : decode cX3_init 17 = .ok (.putfield 15, 3) := by decide +kernel
theorem dX3_init_20 : decode cX3_init 20 = .ok (.aload_n 0, 1) := by decide +kernel
theorem dX3_init_21 : decode cX3_init 21 = .ok (.bipush 7, 2) := by decide +kernel
theorem dX3_init_23 : decode cX3_init 23 = .ok (.newarray .int, 2) := by decide +kernel
theorem dX3_init_25 : decode cX3_init 25 = .ok (.putfield 18, 3) := by decide +kernel
theorem dX3_init_28 : decode cX3_init 28 = .ok (.aload_n 0, 1) := by decide +kernel
theorem dX3_init_29 : decode cX3_init 29 = .ok (.bipush 7, 2) := by decide +kernel
theorem dX3_init_31 : decode cX3_init 31 = .ok (.newarray .int, 2) := by decide +kernel
theorem dX3_init_33 : decode cX3_init 33 = .ok (.putfield 21, 3) := by decide +kernel
theorem dX3_init_36 : decode cX3_init 36 = .ok (.aload_n 0, 1) := by decide +kernel
theorem dX3_init_37 : decode cX3_init 37 = .ok (.bipush 7, 2) := by decide +kernel
theorem dX3_init_39 : decode cX3_init 39 = .ok (.newarray .int, 2) := by decide +kernel
theorem dX3_init_41 : decode cX3_init 41 = .ok (.putfield 24, 3) := by decide +kernel
theorem dX3_init_44 : decode cX3_init 44 = .ok (.aload_n 0, 1) := by decide +kernel
theorem dX3_init_45 : decode cX3_init 45 = .ok (.aload_n 1, 1) := by decide +kernel
theorem dX3_init_46 : decode cX3_init 46 = .ok (.putfield 27, 3) := by decide +kernel
theorem dX3_init_49 : decode cX3_init 49 = .ok (.return_, 1) := by decide +kernel
set_option maxRecDepth 20000 in
theorem ggX3_goErrand_X3_step : GoodIn wsX3_goErrand wsX3_step := goodIn_r _ [9, 10, 11, 2, 12, 13, 14, 15, 16, 17, 18, 19, 20, 8, 21, 22, 23, 24, 25, 26, 27, 28, 29, 30, 31, 32, 33, 34, 35, 36, 37, 38, 39, 40, 41, 42, 43, 44, 45, 46, 47, 48, 49, 50, 51, 52, 53, 54, 55, 56, 57, 58, 59, 60, 61, 62, 63, 64, 65, 66, 67, 68, 69, 70, 71, 72, 73, 74] (by decide +kernel) (by decide +kernel)
set_option maxRecDepth 20000 in
theorem gX3_goErrand_X3_step : GoodIn wsX3_goErrand (wsV RX3 43 RX3 yX3_step wsX3_step) := goodIn_app (goodIn_of _ (by decide +kernel)) ggX3_goErrand_X3_step
theorem dX3_goErrand_0 : decode cX3_goErrand 0 = .ok (.aload_n 0, 1) := by decide +kernel
theorem dX3_goErrand_1 : decode cX3_goErrand 1 = .ok (.iconst 0, 1) := by decide +kernel
theorem dX3_goErrand_2 : decode cX3_goErrand 2 = .ok (.putfield 31, 3) := by decide +kernel
theorem dX3_goErrand_5 : decode cX3_goErrand 5 = .ok (.iconst 0, 1) := by decide +kernel
theorem dX3_goErrand_6 : decode cX3_goErrand 6 = .ok (.istore_n 1, 1) := by decide +kernel
theorem dX3_goErrand_7 : decode cX3_goErrand 7 = .ok (.iload_n 1, 1) := by decide +kernel
theorem dX3_goErrand_8 : decode cX3_goErrand 8 = .ok (.aload_n 0, 1) := by decide +kernel
theorem dX3_goErrand_9 : decode cX3_goErrand 9 = .ok (.getfield 27, 3) := by decide +kernel
theorem dX3_goErrand_12 : decode cX3_goErrand 12 = .ok (.getfield 35, 3) := by decide +kernel
theorem dX3_goErrand_15 : decode cX3_goErrand 15 = .ok (.if_icmp .ge 43, 3) := by decide +kernel
theorem dX3_goErrand_18 : decode cX3_goErrand 18 = .ok (.aload_n 0, 1) := by decide +kernel
theorem dX3_goErrand_19 : decode cX3_goErrand 19 = .ok (.aload_n 0, 1) := by decide +kernel
theorem dX3_goErrand_20 : decode cX3_goErrand 20 = .ok (.getfield 31, 3) := by decide +kernel
theorem dX3_goErrand_23 : decode cX3_goErrand 23 = .ok (.aload_n 0, 1) := by decide +kernel
theorem dX3_goErrand_24 : decode cX3_goErrand 24 = .ok (.getfield 27, 3) := by decide +kernel
theorem dX3_goErrand_27 : decode cX3_goErrand 27 = .ok (.getfield 40, 3) := by decide +kernel
theorem dX3_goErrand_30 : decode cX3_goErrand 30 = .ok (.iload_n 1, 1) := by decide +kernel
theorem dX3_goErrand_31 : decode cX3_goErrand 31 = .ok (.iaload, 1) := by decide +kernel
theorem dX3_goErrand_32 : decode cX3_goErrand 32 = .ok (.invokevirtual 43, 3) := by decide +kernel
theorem dX3_goErrand_35 : decode cX3_goErrand 35 = .ok (.istore_n 2, 1) := by decide +kernel
theorem dX3_goErrand_36 : decode cX3_goErrand 36 = .ok (.iload_n 2, 1) := by decide +kernel
theorem dX3_goErrand_37 : decode cX3_goErrand 37 = .ok (.ifCond .eq 5, 3) := by decide +kernel
theorem dX3_goErrand_40 : decode cX3_goErrand 40 = .ok (.iload_n 2, 1) := by decide +kernel
theorem dX3_goErrand_41 : decode cX3_goErrand 41 = .ok (.ireturn, 1) := by decide +kernel
theorem dX3_goErrand_42 : decode cX3_goErrand 42 = .ok (.aload_n 0, 1) := by decide +kernel
theorem dX3_goErrand_43 : decode cX3_goErrand 43 = .ok (.dup, 1) := by decide +kernel
theorem dX3_goErrand_44 : decode cX3_goErrand 44 = .ok (.getfield 31, 3) := by decide +kernel
theorem dX3_goErrand_47 : decode cX3_goErrand 47 = .ok (.iconst 1, 1) := by decide +kernel
theorem dX3_goErrand_48 : decode cX3_goErrand 48 = .ok (.iadd, 1) := by decide +kernel
theorem dX3_goErrand_49 : decode cX3_goErrand 49 = .ok (.putfield 31, 3) := by decide +kernel
theorem dX3_goErrand_52 : decode cX3_goErrand 52 = .ok (.iinc 1 1, 3) := by decide +kernel
theorem dX3_goErrand_55 : decode cX3_goErrand 55 = .ok (.goto (-48), 3) := by decide +kernel
theorem dX3_goErrand_58 : decode cX3_goErrand 58 = .ok (.iconst 0, 1) := by decide +kernel
theorem dX3_goErrand_59 : decode cX3_goErrand 59 = .ok (.ireturn, 1) := by decide +kernel
set_option maxRecDepth 20000 in
theorem ggX3_step_X3_waysOn : GoodIn wsX3_step wsX3_waysOn := goodIn_r _ [14, 3, 15, 16, 9, 45, 46, 47, 48, 49, 50, 51, 52, 53, 54, 55, 56, 57, 58, 59, 60, 61, 62, 63, 64, 65, 66, 67] (by decide +kernel) (by decide +kernel)
set_option maxRecDepth 20000 in
theorem gX3_step_X3_waysOn : GoodIn wsX3_step (wsV RX3 47 RX3 yX3_waysOn wsX3_waysOn) := goodIn_app (goodIn_of _ (by decide +kernel)) ggX3_step_X3_waysOn
set_option maxRecDepth 20000 in
theorem ggX3_step_J6_bitCount_0f7a4 : GoodIn wsX3_step wsJ6_bitCount_0f7a4 := goodIn_r _ [20, 21, 22, 23] (by decide +kernel) (by decide +kernel)
set_option maxRecDepth 20000 in
theorem gX3_step_J6_bitCount_0f7a4 : GoodIn wsX3_step (va_wsS RX3 51 yJ6_bitCount_0f7a4 wsJ6_bitCount_0f7a4) := goodIn_app (goodIn_of _ (by decide +kernel)) ggX3_step_J6_bitCount_0f7a4
