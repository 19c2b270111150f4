set_option maxRecDepth 20000 in
theorem ggX2_init_X0_init : GoodIn wsX2_init wsX0_init := goodIn_r _ [21, 22, 2, 3, 14, 23, 24, 32, 33] rfl (by decide +kernel)
set_option maxRecDepth 20000 in
theorem gX2_init_X0_init_n9 : GoodIn wsX2_init (wsX0_init) := ggX2_init_X0_init
set_option maxRecDepth 20000 in
theorem ggX2_init_X1_init : GoodIn wsX2_init wsX1_init := goodIn_r _ [27, 28, 2, 3, 14, 29, 30, 31, 43, 44, 45] rfl (by decide +kernel)
set_option maxRecDepth 20000 in
theorem gX2_init_X1_init : GoodIn wsX2_init (wsX1_init) := ggX2_init_X1_init
theorem dX2_init_0 : decode cX2_init 0 = .ok (.aload_n 0, 1) := by decide +kernel
theorem dX2_init_1 : decode cX2_init 1 = .ok (.invokespecial 1, 3) := by decide +kernel
theorem dX2_init_4 : decode cX2_init 4 = .ok (.aload_n 0, 1) := by decide +kernel
theorem dX2_init_5 : decode cX2_init 5 = .ok (.new 7, 3) := by decide +kernel
theorem dX2_init_8 : decode cX2_init 8 = .ok (.dup, 1) := by decide +kernel
theorem dX2_init_9 : decode cX2_init 9 = .ok (.invokespecial 9, 3) := by decide +kernel
theorem dX2_init_12 : decode cX2_init 12 = .ok (.putfield 10, 3) := by decide +kernel
theorem dX2_init_15 : decode cX2_init 15 = .ok (.aload_n 0, 1) := by decide +kernel
theorem dX2_init_16 : decode cX2_init 16 = .ok (.new 16, 3) := by decide +kernel
theorem dX2_init_19 : decode cX2_init 19 = .ok (.dup, 1) := by decide +kernel
theorem dX2_init_20 : decode cX2_init 20 = .ok (.invokespecial 18, 3) := by decide +kernel
theorem dX2_init_23 : decode cX2_init 23 = .ok (.putfield 19, 3) := by decide +kernel
theorem dX2_init_26 : decode cX2_init 26 = .ok (.aload_n 0, 1) := by decide +kernel
theorem dX2_init_27 : decode cX2_init 27 = .ok (.new 7, 3) := by decide +kernel
theorem dX2_init_30 : decode cX2_init 30 = .ok (.dup, 1) := by decide +kernel
theorem dX2_init_31 : decode cX2_init 31 = .ok (.invokespecial 9, 3) := by decide +kernel
theorem dX2_init_34 : decode cX2_init 34 = .ok (.putfield 23, 3) := by decide +kernel
theorem dX2_init_37 : decode cX2_init 37 = .ok (.aload_n 0, 1) := by decide +kernel
theorem dX2_init_38 : decode cX2_init 38 = .ok (.new 16, 3) := by decide +kernel
theorem dX2_init_41 : decode cX2_init 41 = .ok (.dup, 1) := by decide +kernel
theorem dX2_init_42 : decode cX2_init 42 = .ok (.invokespecial 18, 3) := by decide +kernel
theorem dX2_init_45 : decode cX2_init 45 = .ok (.putfield 26, 3) := by decide +kernel
theorem dX2_init_48 : decode cX2_init 48 = .ok (.aload_n 0, 1) := by decide +kernel
theorem dX2_init_49 : decode cX2_init 49 = .ok (.bipush 6, 2) := by decide +kernel
theorem dX2_init_51 : decode cX2_init 51 = .ok (.newarray .int, 2) := by decide +kernel
theorem dX2_init_53 : decode cX2_init 53 = .ok (.putfield 29, 3) := by decide +kernel
theorem dX2_init_56 : decode cX2_init 56 = .ok (.aload_n 0, 1) := by decide +kernel
theorem dX2_init_57 : decode cX2_init 57 = .ok (.bipush 6, 2) := by decide +kernel
theorem dX2_init_59 : decode cX2_init 59 = .ok (.newarray .int, 2) := by decide +kernel
theorem dX2_init_61 : decode cX2_init 61 = .ok (.putfield 33, 3) := by decide +kernel
theorem dX2_init_64 : decode cX2_init 64 = .ok (.aload_n 0, 1) := by decide +kernel
theorem dX2_init_65 : decode cX2_init 65 = .ok (.iconst 0, 1) := by decide +kernel
theorem dX2_init_66 : decode cX2_init 66 = .ok (.putfield 36, 3) := by decide +kernel
theorem dX2_init_69 : decode cX2_init 69 = .ok (.aload_n 0, 1) := by decide +kernel
theorem dX2_init_70 : decode cX2_init 70 = .ok (.iconst 0, 1) := by decide +kernel
theorem dX2_init_71 : decode cX2_init 71 = .ok (.putfield 40, 3) := by decide +kernel
theorem dX2_init_74 : decode cX2_init 74 = .ok (.aload_n 0, 1) := by decide +kernel
theorem dX2_init_75 : decode cX2_init 75 = .ok (.iconst 0, 1) := by decide +kernel
theorem dX2_init_76 : decode cX2_init 76 = .ok (.putfield 43, 3) := by decide +kernel
theorem dX2_init_79 : decode cX2_init 79 = .ok (.return_, 1) := by decide +kernel
set_option maxRecDepth 20000 in
theorem ggX2_come_X0_size : GoodIn wsX2_come wsX0_size := goodIn_r _ [8, 9, 108, 109] rfl (by decide +kernel)
set_option maxRecDepth 20000 in
theorem gX2_come_X0_size : GoodIn wsX2_come (wsV RX2 46 RX0 yX0_size wsX0_size) := goodIn_app (goodIn_of _ (by decide +kernel)) ggX2_come_X0_size
set_option maxRecDepth 20000 in
theorem ggX2_come_X0_grow : GoodIn wsX2_come wsX0_grow := goodIn_r _ [13, 9, 14, 15, 16, 7, 17, 18, 19, 20, 21, 22, 108, 109] rfl (by decide +kernel)
set_option maxRecDepth 20000 in
theorem gX2_come_X0_grow : GoodIn wsX2_come (wsV RX2 57 RX0 yX0_grow wsX0_grow) := goodIn_app (goodIn_of _ (by decide +kernel)) ggX2_come_X0_grow
set_option maxRecDepth 20000 in
theorem ggX2_come_X2_settleAll : GoodIn wsX2_come wsX2_settleAll := goodIn_r _ [27, 28, 3, 29, 30, 31, 32, 33, 34, 35, 36, 37, 5, 6, 7, 8, 9, 38, 39, 40, 41, 42, 43, 44, 45, 46, 47, 48, 49, 50, 51, 52, 18, 19, 20, 21, 22, 53, 54, 55, 56, 57, 58, 59, 26, 60, 61, 4, 62, 63, 64, 65, 66, 67, 68, 69, 70, 71, 72, 73, 74, 75, 76, 77, 78, 79, 80, 81, 82, 83, 84, 85, 86, 87, 88, 89, 90, 91, 92, 93, 94, 95, 96, 97, 98, 99, 100, 101, 102, 103, 104, 105, 106, 107, 110, 111, 112, 108, 109] rfl (by decide +kernel)
set_option maxRecDepth 20000 in
theorem gX2_come_X2_settleAll : GoodIn wsX2_come (wsV RX2 60 RX2 yX2_settleAll wsX2_settleAll) := goodIn_app (goodIn_of _ (by decide +kernel)) ggX2_come_X2_settleAll
theorem dX2_come_0 : decode cX2_come 0 = .ok (.aload_n 0, 1) := by decide +kernel
theorem dX2_come_1 : decode cX2_come 1 = .ok (.getfield 10, 3) := by decide +kernel
theorem dX2_come_4 : decode cX2_come 4 = .ok (.invokevirtual 46, 3) := by decide +kernel
theorem dX2_come_7 : decode cX2_come 7 = .ok (.bipush 6, 2) := by decide +kernel
theorem dX2_come_9 : decode cX2_come 9 = .ok (.if_icmp .lt 13, 3) := by decide +kernel
theorem dX2_come_12 : decode cX2_come 12 = .ok (.new 50, 3) := by decide +kernel
theorem dX2_come_15 : decode cX2_come 15 = .ok (.dup, 1) := by decide +kernel
theorem dX2_come_16 : decode cX2_come 16 = .ok (.ldc 52, 2) := by decide +kernel
theorem dX2_come_18 : decode cX2_come 18 = .ok (.invokespecial 54, 3) := by decide +kernel
theorem dX2_come_21 : decode cX2_come 21 = .ok (.athrow, 1) := by decide +kernel
theorem dX2_come_22 : decode cX2_come 22 = .ok (.aload_n 0, 1) := by decide +kernel
theorem dX2_come_23 : decode cX2_come 23 = .ok (.getfield 10, 3) := by decide +kernel
theorem dX2_come_26 : decode cX2_come 26 = .ok (.invokevirtual 57, 3) := by decide +kernel
theorem dX2_come_29 : decode cX2_come 29 = .ok (.aload_n 0, 1) := by decide +kernel
theorem dX2_come_30 : decode cX2_come 30 = .ok (.invokevirtual 60, 3) := by decide +kernel
theorem dX2_come_33 : decode cX2_come 33 = .ok (.aload_n 0, 1) := by decide +kernel
theorem dX2_come_34 : decode cX2_come 34 = .ok (.getfield 10, 3) := by decide +kernel
theorem dX2_come_37 : decode cX2_come 37 = .ok (.invokevirtual 46, 3) := by decide +kernel
theorem dX2_come_40 : decode cX2_come 40 = .ok (.iconst 1, 1) := by decide +kernel
theorem dX2_come_41 : decode cX2_come 41 = .ok (.isub, 1) := by decide +kernel
theorem dX2_come_42 : decode cX2_come 42 = .ok (.ireturn, 1) := by decide +kernel
set_option maxRecDepth 20000 in
theorem ggX2_bid_X0_has : GoodIn wsX2_bid wsX0_has := goodIn_r _ [10, 11, 106, 107] rfl (by decide +kernel)
set_option maxRecDepth 20000 in
theorem gX2_bid_X0_has : GoodIn wsX2_bid (wsV RX2 63 RX0 yX0_has wsX0_has) := goodIn_app (goodIn_of _ (by decide +kernel)) ggX2_bid_X0_has
set_option maxRecDepth 20000 in
theorem ggX2_bid_X0_of : GoodIn wsX2_bid wsX0_of := goodIn_r _ [15, 16, 17, 7, 8, 9, 10, 11, 106, 107] rfl (by decide +kernel)
set_option maxRecDepth 20000 in
theorem gX2_bid_X0_of : GoodIn wsX2_bid (wsV RX2 77 RX0 yX0_of wsX0_of) := goodIn_app (goodIn_of _ (by decide +kernel)) ggX2_bid_X0_of
set_option maxRecDepth 20000 in
theorem ggX2_bid_X0_set : GoodIn wsX2_bid wsX0_set := goodIn_r _ [21, 16, 17, 7, 8, 9, 10, 11, 106, 107] rfl (by decide +kernel)
set_option maxRecDepth 20000 in
theorem gX2_bid_X0_set : GoodIn wsX2_bid (wsV RX2 81 RX0 yX0_set wsX0_set) := goodIn_app (goodIn_of _ (by decide +kernel)) ggX2_bid_X0_set
set_option maxRecDepth 20000 in
theorem ggX2_bid_X2_settleAll : GoodIn wsX2_bid wsX2_settleAll := goodIn_r _ [26, 27, 5, 28, 29, 30, 31, 32, 33, 34, 35, 36, 37, 38, 9, 39, 11, 40, 41, 42, 43, 44, 45, 46, 47, 48, 49, 50, 51, 13, 14, 15, 16, 17, 7, 8, 10, 52, 53, 54, 55, 56, 57, 58, 25, 59, 60, 61, 62, 63, 64, 65, 66, 67, 68, 69, 70, 71, 72, 73, 6, 74, 75, 76, 77, 78, 79, 80, 81, 12, 82, 83, 84, 85, 86, 87, 88, 89, 90, 91, 92, 93, 94, 95, 96, 97, 98, 99, 100, 101, 102, 103, 104, 105, 108, 109, 110, 106, 107] rfl (by decide +kernel)
set_option maxRecDepth 20000 in
theorem gX2_bid_X2_settleAll : GoodIn wsX2_bid (wsV RX2 60 RX2 yX2_settleAll wsX2_settleAll) := goodIn_app (goodIn_of _ (by decide +kernel)) ggX2_bid_X2_settleAll
theorem dX2_bid_0 : decode cX2_bid 0 = .ok (.aload_n 0, 1) := by decide +kernel
theorem dX2_bid_1 : decode cX2_bid 1 = .ok (.getfield 10, 3) := by decide +kernel
theorem dX2_bid_4 : decode cX2_bid 4 = .ok (.iload_n 1, 1) := by decide +kernel
theorem dX2_bid_5 : decode cX2_bid 5 = .ok (.invokevirtual 63, 3) := by decide +kernel
theorem dX2_bid_8 : decode cX2_bid 8 = .ok (.ifCond .eq 14, 3) := by decide +kernel
theorem dX2_bid_11 : decode cX2_bid 11 = .ok (.aload_n 0, 1) := by decide +kernel
theorem dX2_bid_12 : decode cX2_bid 12 = .ok (.getfield 10, 3) := by decide +kernel
theorem dX2_bid_15 : decode cX2_bid 15 = .ok (.iload_n 2, 1) := by decide +kernel
theorem dX2_bid_16 : decode cX2_bid 16 = .ok (.invokevirtual 63, 3) := by decide +kernel
theorem dX2_bid_19 : decode cX2_bid 19 = .ok (.ifCond .ne 13, 3) := by decide +kernel
theorem dX2_bid_22 : decode cX2_bid 22 = .ok (.new 67, 3) := by decide +kernel
theorem dX2_bid_25 : decode cX2_bid 25 = .ok (.dup, 1) := by decide +kernel
theorem dX2_bid_26 : decode cX2_bid 26 = .ok (.ldc 69, 2) := by decide +kernel
theorem dX2_bid_28 : decode cX2_bid 28 = .ok (.invokespecial 71, 3) := by decide +kernel
theorem dX2_bid_31 : decode cX2_bid 31 = .ok (.athrow, 1) := by decide +kernel
theorem dX2_bid_32 : decode cX2_bid 32 = .ok (.iload_n 3, 1) := by decide +kernel
theorem dX2_bid_33 : decode cX2_bid 33 = .ok (.ifCond .lt 10, 3) := by decide +kernel
theorem dX2_bid_36 : decode cX2_bid 36 = .ok (.iload_n 3, 1) := by decide +kernel
theorem dX2_bid_37 : decode cX2_bid 37 = .ok (.sipush 999, 3) := by decide +kernel
theorem dX2_bid_40 : decode cX2_bid 40 = .ok (.if_icmp .le 13, 3) := by decide +kernel
theorem dX2_bid_43 : decode cX2_bid 43 = .ok (.new 72, 3) := by decide +kernel
theorem dX2_bid_46 : decode cX2_bid 46 = .ok (.dup, 1) := by decide +kernel
theorem dX2_bid_47 : decode cX2_bid 47 = .ok (.ldc 74, 2) := by decide +kernel
theorem dX2_bid_49 : decode cX2_bid 49 = .ok (.invokespecial 76, 3) := by decide +kernel
theorem dX2_bid_52 : decode cX2_bid 52 = .ok (.athrow, 1) := by decide +kernel
theorem dX2_bid_53 : decode cX2_bid 53 = .ok (.aload_n 0, 1) := by decide +kernel
theorem dX2_bid_54 : decode cX2_bid 54 = .ok (.getfield 10, 3) := by decide +kernel
theorem dX2_bid_57 : decode cX2_bid 57 = .ok (.iload_n 1, 1) := by decide +kernel
theorem dX2_bid_58 : decode cX2_bid 58 = .ok (.iload_n 2, 1) := by decide +kernel
theorem dX2_bid_59 : decode cX2_bid 59 = .ok (.invokevirtual 77, 3) := by decide +kernel
theorem dX2_bid_62 : decode cX2_bid 62 = .ok (.istore 4, 2) := by decide +kernel
theorem dX2_bid_64 : decode cX2_bid 64 = .ok (.aload_n 0, 1) := by decide +kernel
theorem dX2_bid_65 : decode cX2_bid 65 = .ok (.getfield 10, 3) := by decide +kernel
theorem dX2_bid_68 : decode cX2_bid 68 = .ok (.iload_n 1, 1) := by decide +kernel
theorem dX2_bid_69 : decode cX2_bid 69 = .ok (.iload_n 2, 1) := by decide +kernel
theorem dX2_bid_70 : decode cX2_bid 70 = .ok (.iload_n 3, 1) := by decide +kernel
theorem dX2_bid_71 : decode cX2_bid 71 = .ok (.invokevirtual 81, 3) := by decide +kernel
theorem dX2_bid_74 : decode cX2_bid 74 = .ok (.aload_n 0, 1) := by decide +kernel
theorem dX2_bid_75 : decode cX2_bid 75 = .ok (.invokevirtual 60, 3) := by decide +kernel
theorem dX2_bid_78 : decode cX2_bid 78 = .ok (.iload 4, 2) := by decide +kernel
theorem dX2_bid_80 : decode cX2_bid 80 = .ok (.ireturn, 1) := by decide +kernel
set_option maxRecDepth 20000 in
theorem ggX2_rent_X2_settleLeftOver : GoodIn wsX2_rent wsX2_settleLeftOver := goodIn_r _ [8, 9, 10, 3, 11, 12, 13, 14, 15, 16, 17, 18, 19, 20, 21, 22, 23, 24, 25, 26, 27, 7, 28, 29, 30, 31, 32, 33, 34, 35, 36, 37, 38, 39, 40, 41, 42, 43] rfl (by decide +kernel)
set_option maxRecDepth 20000 in
theorem gX2_rent_X2_settleLeftOver : GoodIn wsX2_rent (wsV RX2 87 RX2 yX2_settleLeftOver wsX2_settleLeftOver) := goodIn_app (goodIn_of _ (by decide +kernel)) ggX2_rent_X2_settleLeftOver
theorem dX2_rent_0 : decode cX2_rent 0 = .ok (.iload_n 1, 1) := by decide +kernel
theorem dX2_rent_1 : decode cX2_rent 1 = .ok (.ifCond .lt 10, 3) := by decide +kernel
theorem dX2_rent_4 : decode cX2_rent 4 = .ok (.iload_n 1, 1) := by decide +kernel
theorem dX2_rent_5 : decode cX2_rent 5 = .ok (.sipush 5999, 3) := by decide +kernel
theorem dX2_rent_8 : decode cX2_rent 8 = .ok (.if_icmp .le 13, 3) := by decide +kernel
theorem dX2_rent_11 : decode cX2_rent 11 = .ok (.new 72, 3) := by decide +kernel
theorem dX2_rent_14 : decode cX2_rent 14 = .ok (.dup, 1) := by decide +kernel
theorem dX2_rent_15 : decode cX2_rent 15 = .ok (.ldc 85, 2) := by decide +kernel
theorem dX2_rent_17 : decode cX2_rent 17 = .ok (.invokespecial 76, 3) := by decide +kernel
theorem dX2_rent_20 : decode cX2_rent 20 = .ok (.athrow, 1) := by decide +kernel
theorem dX2_rent_21 : decode cX2_rent 21 = .ok (.aload_n 0, 1) := by decide +kernel
theorem dX2_rent_22 : decode cX2_rent 22 = .ok (.getfield 36, 3) := by decide +kernel
theorem dX2_rent_25 : decode cX2_rent 25 = .ok (.istore_n 2, 1) := by decide +kernel
theorem dX2_rent_26 : decode cX2_rent 26 = .ok (.aload_n 0, 1) := by decide +kernel
theorem dX2_rent_27 : decode cX2_rent 27 = .ok (.iload_n 1, 1) := by decide +kernel
theorem dX2_rent_28 : decode cX2_rent 28 = .ok (.putfield 36, 3) := by decide +kernel
theorem dX2_rent_31 : decode cX2_rent 31 = .ok (.aload_n 0, 1) := by decide +kernel
theorem dX2_rent_32 : decode cX2_rent 32 = .ok (.invokevirtual 87, 3) := by decide +kernel
theorem dX2_rent_35 : decode cX2_rent 35 = .ok (.iload_n 2, 1) := by decide +kernel
theorem dX2_rent_36 : decode cX2_rent 36 = .ok (.ireturn, 1) := by decide +kernel
set_option maxRecDepth 20000 in
theorem ggX2_leave_X0_has : GoodIn wsX2_leave wsX0_has := goodIn_r _ [9, 10, 109, 110] rfl (by decide +kernel)
set_option maxRecDepth 20000 in
theorem gX2_leave_X0_has : GoodIn wsX2_leave (wsV RX2 63 RX0 yX0_has wsX0_has) := goodIn_app (goodIn_of _ (by decide +kernel)) ggX2_leave_X0_has
set_option maxRecDepth 20000 in
theorem ggX2_leave_X1_roomOf : GoodIn wsX2_leave wsX1_roomOf := goodIn_r _ [15, 16, 111, 112, 113] rfl (by decide +kernel)
set_option maxRecDepth 20000 in
theorem gX2_leave_X1_roomOf : GoodIn wsX2_leave (wsV RX2 92 RX1 yX1_roomOf wsX1_roomOf) := goodIn_app (goodIn_of _ (by decide +kernel)) ggX2_leave_X1_roomOf
set_option maxRecDepth 20000 in
theorem ggX2_leave_X0_shrink : GoodIn wsX2_leave wsX0_shrink := goodIn_r _ [20, 10, 21, 6, 7, 8, 9, 22, 23, 24, 25, 26, 27, 28, 29, 30, 109, 110] rfl (by decide +kernel)
set_option maxRecDepth 20000 in
theorem gX2_leave_X0_shrink : GoodIn wsX2_leave (wsV RX2 96 RX0 yX0_shrink wsX0_shrink) := goodIn_app (goodIn_of _ (by decide +kernel)) ggX2_leave_X0_shrink
set_option maxRecDepth 20000 in
theorem ggX2_leave_X2_settleAll : GoodIn wsX2_leave wsX2_settleAll := goodIn_r _ [35, 4, 3, 36, 37, 38, 14, 39, 40, 41, 16, 42, 43, 44, 8, 45, 10, 46, 47, 48, 49, 50, 51, 52, 53, 54, 55, 56, 57, 23, 24, 25, 26, 21, 6, 7, 9, 58, 59, 60, 61, 62, 63, 64, 34, 65, 66, 67, 68, 69, 70, 71, 72, 73, 74, 75, 76, 77, 78, 79, 5, 80, 81, 82, 83, 11, 12, 13, 15, 84, 85, 86, 87, 88, 89, 90, 91, 92, 93, 94, 95, 96, 97, 98, 99, 100, 101, 102, 103, 104, 105, 106, 107, 108, 111, 112, 113, 109, 110] rfl (by decide +kernel)
set_option maxRecDepth 20000 in
theorem gX2_leave_X2_settleAll : GoodIn wsX2_leave (wsV RX2 60 RX2 yX2_settleAll wsX2_settleAll) := goodIn_app (goodIn_of _ (by decide +kernel)) ggX2_leave_X2_settleAll
theorem dX2_leave_0 : decode cX2_leave 0 = .ok (.aload_n 0, 1) := by decide +kernel
theorem dX2_leave_1 : decode cX2_leave 1 = .ok (.getfield 10, 3) := by decide +kernel
theorem dX2_leave_4 : decode cX2_leave 4 = .ok (.iload_n 1, 1) := by decide +kernel
theorem dX2_leave_5 : decode cX2_leave 5 = .ok (.invokevirtual 63, 3) := by decide +kernel
theorem dX2_leave_8 : decode cX2_leave 8 = .ok (.ifCond .ne 13, 3) := by decide +kernel
theorem dX2_leave_11 : decode cX2_leave 11 = .ok (.new 67, 3) := by decide +kernel
theorem dX2_leave_14 : decode cX2_leave 14 = .ok (.dup, 1) := by decide +kernel
theorem dX2_leave_15 : decode cX2_leave 15 = .ok (.ldc 90, 2) := by decide +kernel
theorem dX2_leave_17 : decode cX2_leave 17 = .ok (.invokespecial 71, 3) := by decide +kernel
theorem dX2_leave_20 : decode cX2_leave 20 = .ok (.athrow, 1) := by decide +kernel
theorem dX2_leave_21 : decode cX2_leave 21 = .ok (.aload_n 0, 1) := by decide +kernel
theorem dX2_leave_22 : decode cX2_leave 22 = .ok (.getfield 19, 3) := by decide +kernel
theorem dX2_leave_25 : decode cX2_leave 25 = .ok (.iload_n 1, 1) := by decide +kernel
theorem dX2_leave_26 : decode cX2_leave 26 = .ok (.invokevirtual 92, 3) := by decide +kernel
theorem dX2_leave_29 : decode cX2_leave 29 = .ok (.istore_n 2, 1) := by decide +kernel
theorem dX2_leave_30 : decode cX2_leave 30 = .ok (.aload_n 0, 1) := by decide +kernel
theorem dX2_leave_31 : decode cX2_leave 31 = .ok (.getfield 10, 3) := by decide +kernel
theorem dX2_leave_34 : decode cX2_leave 34 = .ok (.iload_n 1, 1) := by decide +kernel
theorem dX2_leave_35 : decode cX2_leave 35 = .ok (.iload_n 2, 1) := by decide +kernel
theorem dX2_leave_36 : decode cX2_leave 36 = .ok (.invokevirtual 96, 3) := by decide +kernel
theorem dX2_leave_39 : decode cX2_leave 39 = .ok (.aload_n 0, 1) := by decide +kernel
theorem dX2_leave_40 : decode cX2_leave 40 = .ok (.invokevirtual 60, 3) := by decide +kernel
theorem dX2_leave_43 : decode cX2_leave 43 = .ok (.iload_n 2, 1) := by decide +kernel
theorem dX2_leave_44 : decode cX2_leave 44 = .ok (.ireturn, 1) := by decide +kernel
set_option maxRecDepth 20000 in
theorem ggX2_told_X0_has : GoodIn wsX2_told wsX0_has := goodIn_r _ [8, 9, 67, 68] rfl (by decide +kernel)
set_option maxRecDepth 20000 in
theorem gX2_told_X0_has : GoodIn wsX2_told (wsV RX2 63 RX0 yX0_has wsX0_has) := goodIn_app (goodIn_of _ (by decide +kernel)) ggX2_told_X0_has
set_option maxRecDepth 20000 in
theorem ggX2_told_X2_fact : GoodIn wsX2_told wsX2_fact := goodIn_r _ [14, 15, 16, 17, 18, 19, 20, 21, 22, 23, 24, 13, 25, 3, 26, 27, 28, 7, 29, 30, 31, 5, 6, 8, 9, 32, 33, 34, 35, 36, 37, 38, 39, 40, 41, 4, 42, 43, 44, 45, 46, 47, 48, 49, 50, 51, 52, 53, 54, 55, 56, 57, 58, 59, 60, 61, 62, 63, 64, 65, 66, 69, 70, 71, 67, 68] rfl (by decide +kernel)
set_option maxRecDepth 20000 in
theorem gX2_told_X2_fact : GoodIn wsX2_told (wsV RX2 102 RX2 yX2_fact wsX2_fact) := goodIn_app (goodIn_of _ (by decide +kernel)) ggX2_told_X2_fact
theorem dX2_told_0 : decode cX2_told 0 = .ok (.aload_n 0, 1) := by decide +kernel
theorem dX2_told_1 : decode cX2_told 1 = .ok (.getfield 10, 3) := by decide +kernel
theorem dX2_told_4 : decode cX2_told 4 = .ok (.iload_n 1, 1) := by decide +kernel
theorem dX2_told_5 : decode cX2_told 5 = .ok (.invokevirtual 63, 3) := by decide +kernel
theorem dX2_told_8 : decode cX2_told 8 = .ok (.ifCond .eq 13, 3) := by decide +kernel
theorem dX2_told_11 : decode cX2_told 11 = .ok (.iload_n 2, 1) := by decide +kernel
theorem dX2_told_12 : decode cX2_told 12 = .ok (.ifCond .lt 9, 3) := by decide +kernel
theorem dX2_told_15 : decode cX2_told 15 = .ok (.iload_n 2, 1) := by decide +kernel
theorem dX2_told_16 : decode cX2_told 16 = .ok (.bipush 6, 2) := by decide +kernel
theorem dX2_told_18 : decode cX2_told 18 = .ok (.if_icmp .lt 13, 3) := by decide +kernel
theorem dX2_told_21 : decode cX2_told 21 = .ok (.new 67, 3) := by decide +kernel
theorem dX2_told_24 : decode cX2_told 24 = .ok (.dup, 1) := by decide +kernel
theorem dX2_told_25 : decode cX2_told 25 = .ok (.ldc 100, 2) := by decide +kernel
theorem dX2_told_27 : decode cX2_told 27 = .ok (.invokespecial 71, 3) := by decide +kernel
theorem dX2_told_30 : decode cX2_told 30 = .ok (.athrow, 1) := by decide +kernel
theorem dX2_told_31 : decode cX2_told 31 = .ok (.aload_n 0, 1) := by decide +kernel
theorem dX2_told_32 : decode cX2_told 32 = .ok (.iload_n 1, 1) := by decide +kernel
theorem dX2_told_33 : decode cX2_told 33 = .ok (.iload_n 2, 1) := by decide +kernel
theorem dX2_told_34 : decode cX2_told 34 = .ok (.invokevirtual 102, 3) := by decide +kernel
theorem dX2_told_37 : decode cX2_told 37 = .ok (.ireturn, 1) := by decide +kernel
set_option maxRecDepth 20000 in
theorem ggX2_offer_X0_has : GoodIn wsX2_offer wsX0_has := goodIn_r _ [8, 9, 25, 26] rfl (by decide +kernel)
set_option maxRecDepth 20000 in
theorem gX2_offer_X0_has : GoodIn wsX2_offer (wsV RX2 63 RX0 yX0_has wsX0_has) := goodIn_app (goodIn_of _ (by decide +kernel)) ggX2_offer_X0_has
set_option maxRecDepth 20000 in
theorem ggX2_offer_X0_of : GoodIn wsX2_offer wsX0_of := goodIn_r _ [13, 14, 15, 5, 6, 7, 8, 9, 25, 26] rfl (by decide +kernel)
set_option maxRecDepth 20000 in
theorem gX2_offer_X0_of : GoodIn wsX2_offer (wsV RX2 77 RX0 yX0_of wsX0_of) := goodIn_app (goodIn_of _ (by decide +kernel)) ggX2_offer_X0_of
theorem dX2_offer_0 : decode cX2_offer 0 = .ok (.aload_n 0, 1) := by decide +kernel
theorem dX2_offer_1 : decode cX2_offer 1 = .ok (.getfield 10, 3) := by decide +kernel
theorem dX2_offer_4 : decode cX2_offer 4 = .ok (.iload_n 1, 1) := by decide +kernel
theorem dX2_offer_5 : decode cX2_offer 5 = .ok (.invokevirtual 63, 3) := by decide +kernel
theorem dX2_offer_8 : decode cX2_offer 8 = .ok (.ifCond .eq 14, 3) := by decide +kernel
theorem dX2_offer_11 : decode cX2_offer 11 = .ok (.aload_n 0, 1) := by decide +kernel
theorem dX2_offer_12 : decode cX2_offer 12 = .ok (.getfield 10, 3) := by decide +kernel
theorem dX2_offer_15 : decode cX2_offer 15 = .ok (.iload_n 2, 1) := by decide +kernel
theorem dX2_offer_16 : decode cX2_offer 16 = .ok (.invokevirtual 63, 3) := by decide +kernel
theorem dX2_offer_19 : decode cX2_offer 19 = .ok (.ifCond .ne 13, 3) := by decide +kernel
theorem dX2_offer_22 : decode cX2_offer 22 = .ok (.new 67, 3) := by decide +kernel
theorem dX2_offer_25 : decode cX2_offer 25 = .ok (.dup, 1) := by decide +kernel
theorem dX2_offer_26 : decode cX2_offer 26 = .ok (.ldc 69, 2) := by decide +kernel
theorem dX2_offer_28 : decode cX2_offer 28 = .ok (.invokespecial 71, 3) := by decide +kernel
theorem dX2_offer_31 : decode cX2_offer 31 = .ok (.athrow, 1) := by decide +kernel
theorem dX2_offer_32 : decode cX2_offer 32 = .ok (.aload_n 0, 1) := by decide +kernel
theorem dX2_offer_33 : decode cX2_offer 33 = .ok (.getfield 10, 3) := by decide +kernel
theorem dX2_offer_36 : decode cX2_offer 36 = .ok (.iload_n 1, 1) := by decide +kernel
theorem dX2_offer_37 : decode cX2_offer 37 = .ok (.iload_n 2, 1) := by decide +kernel
theorem dX2_offer_38 : decode cX2_offer 38 = .ok (.invokevirtual 77, 3) := by decide +kernel
theorem dX2_offer_41 : decode cX2_offer 41 = .ok (.ireturn, 1) := by decide +kernel
set_option maxRecDepth 20000 in
theorem ggX2_count_X2_total : GoodIn wsX2_count wsX2_total := goodIn_r _ [7, 8, 9, 10, 11, 12, 13, 14, 15, 16, 17, 18, 19, 20, 21, 22, 23, 24, 25, 26, 27, 6, 28, 29, 30, 31, 32, 33, 34, 35, 36, 37, 38, 39, 40, 41, 42, 43, 44, 45, 46, 47, 48, 49, 50, 51, 52, 53, 54, 55, 56, 57, 58, 59, 60, 61, 62, 63, 64, 65, 66, 67, 68, 69, 70, 71, 72, 73, 74, 75, 76, 77, 78, 79, 80, 81, 82, 83] rfl (by decide +kernel)
set_option maxRecDepth 20000 in
theorem gX2_count_X2_total : GoodIn wsX2_count (wsV RX2 107 RX2 yX2_total wsX2_total) := goodIn_app (goodIn_of _ (by decide +kernel)) ggX2_count_X2_total
theorem dX2_count_0 : decode cX2_count 0 = .ok (.iload_n 1, 1) := by decide +kernel
theorem dX2_count_1 : decode cX2_count 1 = .ok (.ifCond .lt 9, 3) := by decide +kernel
theorem dX2_count_4 : decode cX2_count 4 = .ok (.iload_n 1, 1) := by decide +kernel
theorem dX2_count_5 : decode cX2_count 5 = .ok (.bipush 7, 2) := by decide +kernel
theorem dX2_count_7 : decode cX2_count 7 = .ok (.if_icmp .lt 13, 3) := by decide +kernel
theorem dX2_count_10 : decode cX2_count 10 = .ok (.new 67, 3) := by decide +kernel
theorem dX2_count_13 : decode cX2_count 13 = .ok (.dup, 1) := by decide +kernel
theorem dX2_count_14 : decode cX2_count 14 = .ok (.ldc 105, 2) := by decide +kernel
theorem dX2_count_16 : decode cX2_count 16 = .ok (.invokespecial 71, 3) := by decide +kernel
theorem dX2_count_19 : decode cX2_count 19 = .ok (.athrow, 1) := by decide +kernel
theorem dX2_count_20 : decode cX2_count 20 = .ok (.aload_n 0, 1) := by decide +kernel
theorem dX2_count_21 : decode cX2_count 21 = .ok (.iload_n 1, 1) := by decide +kernel
theorem dX2_count_22 : decode cX2_count 22 = .ok (.invokevirtual 107, 3) := by decide +kernel
theorem dX2_count_25 : decode cX2_count 25 = .ok (.ireturn, 1) := by decide +kernel
set_option maxRecDepth 20000 in
theorem ggX2_envies_X0_has : GoodIn wsX2_envies wsX0_has := goodIn_r _ [8, 9, 41, 42] rfl (by decide +kernel)
set_option maxRecDepth 20000 in
theorem gX2_envies_X0_has : GoodIn wsX2_envies (wsV RX2 63 RX0 yX0_has wsX0_has) := goodIn_app (goodIn_of _ (by decide +kernel)) ggX2_envies_X0_has
set_option maxRecDepth 20000 in
theorem ggX2_envies_X2_wouldEnvy : GoodIn wsX2_envies wsX2_wouldEnvy := goodIn_r _ [14, 3, 15, 16, 17, 18, 19, 20, 21, 22, 23, 24, 7, 25, 26, 27, 5, 6, 8, 9, 28, 29, 30, 13, 31, 32, 33, 34, 35, 36, 37, 38, 39, 40, 43, 44, 45, 41, 42] rfl (by decide +kernel)
set_option maxRecDepth 20000 in
theorem gX2_envies_X2_wouldEnvy : GoodIn wsX2_envies (wsV RX2 110 RX2 yX2_wouldEnvy wsX2_wouldEnvy) := goodIn_app (goodIn_of _ (by decide +kernel)) ggX2_envies_X2_wouldEnvy
theorem dX2_envies_0 : decode cX2_envies 0 = .ok (.aload_n 0, 1) := by decide +kernel
theorem dX2_envies_1 : decode cX2_envies 1 = .ok (.getfield 10, 3) := by decide +kernel
theorem dX2_envies_4 : decode cX2_envies 4 = .ok (.iload_n 1, 1) := by decide +kernel
theorem dX2_envies_5 : decode cX2_envies 5 = .ok (.invokevirtual 63, 3) := by decide +kernel
theorem dX2_envies_8 : decode cX2_envies 8 = .ok (.ifCond .eq 14, 3) := by decide +kernel
theorem dX2_envies_11 : decode cX2_envies 11 = .ok (.aload_n 0, 1) := by decide +kernel
theorem dX2_envies_12 : decode cX2_envies 12 = .ok (.getfield 10, 3) := by decide +kernel
theorem dX2_envies_15 : decode cX2_envies 15 = .ok (.iload_n 2, 1) := by decide +kernel
theorem dX2_envies_16 : decode cX2_envies 16 = .ok (.invokevirtual 63, 3) := by decide +kernel
theorem dX2_envies_19 : decode cX2_envies 19 = .ok (.ifCond .ne 13, 3) := by decide +kernel
theorem dX2_envies_22 : decode cX2_envies 22 = .ok (.new 67, 3) := by decide +kernel
theorem dX2_envies_25 : decode cX2_envies 25 = .ok (.dup, 1) := by decide +kernel
theorem dX2_envies_26 : decode cX2_envies 26 = .ok (.ldc 90, 2) := by decide +kernel
theorem dX2_envies_28 : decode cX2_envies 28 = .ok (.invokespecial 71, 3) := by decide +kernel
theorem dX2_envies_31 : decode cX2_envies 31 = .ok (.athrow, 1) := by decide +kernel
theorem dX2_envies_32 : decode cX2_envies 32 = .ok (.aload_n 0, 1) := by decide +kernel
theorem dX2_envies_33 : decode cX2_envies 33 = .ok (.iload_n 1, 1) := by decide +kernel
theorem dX2_envies_34 : decode cX2_envies 34 = .ok (.iload_n 2, 1) := by decide +kernel
theorem dX2_envies_35 : decode cX2_envies 35 = .ok (.invokevirtual 110, 3) := by decide +kernel
theorem dX2_envies_38 : decode cX2_envies 38 = .ok (.ireturn, 1) := by decide +kernel
set_option maxRecDepth 20000 in
theorem ggX2_gap_X0_has : GoodIn wsX2_gap wsX0_has := goodIn_r _ [9, 10, 51, 52] rfl (by decide +kernel)
set_option maxRecDepth 20000 in
theorem gX2_gap_X0_has : GoodIn wsX2_gap (wsV RX2 63 RX0 yX0_has wsX0_has) := goodIn_app (goodIn_of _ (by decide +kernel)) ggX2_gap_X0_has
set_option maxRecDepth 20000 in
theorem ggX2_gap_X2_rebateOf : GoodIn wsX2_gap wsX2_rebateOf := goodIn_r _ [15, 16, 17, 18, 19, 14, 20, 3, 21, 5, 6, 7, 8, 9, 10, 42, 43, 44, 45, 46, 47, 48, 49, 50, 51, 52] rfl (by decide +kernel)
set_option maxRecDepth 20000 in
theorem gX2_gap_X2_rebateOf : GoodIn wsX2_gap (wsV RX2 114 RX2 yX2_rebateOf wsX2_rebateOf) := goodIn_app (goodIn_of _ (by decide +kernel)) ggX2_gap_X2_rebateOf
set_option maxRecDepth 20000 in
theorem ggX2_gap_X1_roomOf : GoodIn wsX2_gap wsX1_roomOf := goodIn_r _ [26, 27, 53, 54, 55] rfl (by decide +kernel)
set_option maxRecDepth 20000 in
theorem gX2_gap_X1_roomOf : GoodIn wsX2_gap (wsV RX2 92 RX1 yX1_roomOf wsX1_roomOf) := goodIn_app (goodIn_of _ (by decide +kernel)) ggX2_gap_X1_roomOf
set_option maxRecDepth 20000 in
theorem ggX2_gap_X0_of : GoodIn wsX2_gap wsX0_of := goodIn_r _ [31, 32, 33, 6, 7, 8, 9, 10, 51, 52] rfl (by decide +kernel)
set_option maxRecDepth 20000 in
theorem gX2_gap_X0_of : GoodIn wsX2_gap (wsV RX2 77 RX0 yX0_of wsX0_of) := goodIn_app (goodIn_of _ (by decide +kernel)) ggX2_gap_X0_of
set_option maxRecDepth 20000 in
theorem ggX2_gap_X2_payOf : GoodIn wsX2_gap wsX2_payOf := goodIn_r _ [37, 38, 39, 40, 14, 41, 3, 4, 22, 23, 24, 25, 26, 27, 28, 29, 30, 8, 31, 32, 33, 6, 7, 9, 10, 11, 12, 13, 15, 16, 17, 18, 19, 20, 21, 5, 42, 43, 44, 45, 46, 47, 48, 49, 50, 53, 54, 55, 51, 52] rfl (by decide +kernel)
set_option maxRecDepth 20000 in
theorem gX2_gap_X2_payOf : GoodIn wsX2_gap (wsV RX2 117 RX2 yX2_payOf wsX2_payOf) := goodIn_app (goodIn_of _ (by decide +kernel)) ggX2_gap_X2_payOf
theorem dX2_gap_0 : decode cX2_gap 0 = .ok (.aload_n 0, 1) := by decide +kernel
theorem dX2_gap_1 : decode cX2_gap 1 = .ok (.getfield 10, 3) := by decide +kernel
theorem dX2_gap_4 : decode cX2_gap 4 = .ok (.iload_n 1, 1) := by decide +kernel
theorem dX2_gap_5 : decode cX2_gap 5 = .ok (.invokevirtual 63, 3) := by decide +kernel
theorem dX2_gap_8 : decode cX2_gap 8 = .ok (.ifCond .eq 14, 3) := by decide +kernel
theorem dX2_gap_11 : decode cX2_gap 11 = .ok (.aload_n 0, 1) := by decide +kernel
theorem dX2_gap_12 : decode cX2_gap 12 = .ok (.getfield 10, 3) := by decide +kernel
theorem dX2_gap_15 : decode cX2_gap 15 = .ok (.iload_n 2, 1) := by decide +kernel
theorem dX2_gap_16 : decode cX2_gap 16 = .ok (.invokevirtual 63, 3) := by decide +kernel
theorem dX2_gap_19 : decode cX2_gap 19 = .ok (.ifCond .ne 13, 3) := by decide +kernel
theorem dX2_gap_22 : decode cX2_gap 22 = .ok (.new 67, 3) := by decide +kernel
theorem dX2_gap_25 : decode cX2_gap 25 = .ok (.dup, 1) := by decide +kernel
theorem dX2_gap_26 : decode cX2_gap 26 = .ok (.ldc 90, 2) := by decide +kernel
theorem dX2_gap_28 : decode cX2_gap 28 = .ok (.invokespecial 71, 3) := by decide +kernel
theorem dX2_gap_31 : decode cX2_gap 31 = .ok (.athrow, 1) := by decide +kernel
theorem dX2_gap_32 : decode cX2_gap 32 = .ok (.aload_n 0, 1) := by decide +kernel
theorem dX2_gap_33 : decode cX2_gap 33 = .ok (.iload_n 1, 1) := by decide +kernel
theorem dX2_gap_34 : decode cX2_gap 34 = .ok (.invokevirtual 114, 3) := by decide +kernel
theorem dX2_gap_37 : decode cX2_gap 37 = .ok (.aload_n 0, 1) := by decide +kernel
theorem dX2_gap_38 : decode cX2_gap 38 = .ok (.getfield 10, 3) := by decide +kernel
theorem dX2_gap_41 : decode cX2_gap 41 = .ok (.iload_n 1, 1) := by decide +kernel
theorem dX2_gap_42 : decode cX2_gap 42 = .ok (.aload_n 0, 1) := by decide +kernel
theorem dX2_gap_43 : decode cX2_gap 43 = .ok (.getfield 19, 3) := by decide +kernel
theorem dX2_gap_46 : decode cX2_gap 46 = .ok (.iload_n 2, 1) := by decide +kernel
theorem dX2_gap_47 : decode cX2_gap 47 = .ok (.invokevirtual 92, 3) := by decide +kernel
theorem dX2_gap_50 : decode cX2_gap 50 = .ok (.invokevirtual 77, 3) := by decide +kernel
theorem dX2_gap_53 : decode cX2_gap 53 = .ok (.aload_n 0, 1) := by decide +kernel
theorem dX2_gap_54 : decode cX2_gap 54 = .ok (.iload_n 2, 1) := by decide +kernel
theorem dX2_gap_55 : decode cX2_gap 55 = .ok (.invokevirtual 117, 3) := by decide +kernel
theorem dX2_gap_58 : decode cX2_gap 58 = .ok (.isub, 1) := by decide +kernel
theorem dX2_gap_59 : decode cX2_gap 59 = .ok (.isub, 1) := by decide +kernel
theorem dX2_gap_60 : decode cX2_gap 60 = .ok (.ireturn, 1) := by decide +kernel
set_option maxRecDepth 20000 in
theorem ggX2_chain_X0_size : GoodIn wsX2_chain wsX0_size := goodIn_r _ [11, 12, 51, 52] rfl (by decide +kernel)
set_option maxRecDepth 20000 in
theorem gX2_chain_X0_size : GoodIn wsX2_chain (wsV RX2 46 RX0 yX0_size wsX0_size) := goodIn_app (goodIn_of _ (by decide +kernel)) ggX2_chain_X0_size
set_option maxRecDepth 20000 in
theorem ggX2_chain_X2_longestChainFrom : GoodIn wsX2_chain wsX2_longestChainFrom := goodIn_r _ [17, 1, 2, 3, 4, 5, 6, 7, 8, 9, 10, 11, 12, 18, 19, 20, 16, 21, 22, 23, 24, 25, 26, 27, 28, 29, 30, 31, 32, 33, 34, 35, 36, 37, 38, 39, 40, 41, 42, 43, 44, 45, 46, 47, 48, 49, 50, 51, 52, 53, 54, 55] rfl (by decide +kernel)
set_option maxRecDepth 20000 in
theorem gX2_chain_X2_longestChainFrom : GoodIn wsX2_chain (wsV RX2 120 RX2 yX2_longestChainFrom wsX2_longestChainFrom) := goodIn_app (goodIn_of _ (by decide +kernel)) ggX2_chain_X2_longestChainFrom
theorem dX2_chain_0 : decode cX2_chain 0 = .ok (.aload_n 0, 1) := by decide +kernel
theorem dX2_chain_1 : decode cX2_chain 1 = .ok (.getfield 10, 3) := by decide +kernel
theorem dX2_chain_4 : decode cX2_chain 4 = .ok (.invokevirtual 46, 3) := by decide +kernel
theorem dX2_chain_7 : decode cX2_chain 7 = .ok (.istore_n 1, 1) := by decide +kernel
theorem dX2_chain_8 : decode cX2_chain 8 = .ok (.iconst 0, 1) := by decide +kernel
theorem dX2_chain_9 : decode cX2_chain 9 = .ok (.istore_n 2, 1) := by decide +kernel
theorem dX2_chain_10 : decode cX2_chain 10 = .ok (.iload_n 2, 1) := by decide +kernel
theorem dX2_chain_11 : decode cX2_chain 11 = .ok (.iload_n 1, 1) := by decide +kernel
theorem dX2_chain_12 : decode cX2_chain 12 = .ok (.if_icmp .ge 16, 3) := by decide +kernel
theorem dX2_chain_15 : decode cX2_chain 15 = .ok (.aload_n 0, 1) := by decide +kernel
theorem dX2_chain_16 : decode cX2_chain 16 = .ok (.getfield 33, 3) := by decide +kernel
theorem dX2_chain_19 : decode cX2_chain 19 = .ok (.iload_n 2, 1) := by decide +kernel
theorem dX2_chain_20 : decode cX2_chain 20 = .ok (.iconst 1, 1) := by decide +kernel
theorem dX2_chain_21 : decode cX2_chain 21 = .ok (.iastore, 1) := by decide +kernel
theorem dX2_chain_22 : decode cX2_chain 22 = .ok (.iinc 2 1, 3) := by decide +kernel
theorem dX2_chain_25 : decode cX2_chain 25 = .ok (.goto (-15), 3) := by decide +kernel
theorem dX2_chain_28 : decode cX2_chain 28 = .ok (.iconst 1, 1) := by decide +kernel
theorem dX2_chain_29 : decode cX2_chain 29 = .ok (.istore_n 2, 1) := by decide +kernel
theorem dX2_chain_30 : decode cX2_chain 30 = .ok (.iload_n 2, 1) := by decide +kernel
theorem dX2_chain_31 : decode cX2_chain 31 = .ok (.iload_n 1, 1) := by decide +kernel
theorem dX2_chain_32 : decode cX2_chain 32 = .ok (.if_icmp .ge 33, 3) := by decide +kernel
theorem dX2_chain_35 : decode cX2_chain 35 = .ok (.iconst 0, 1) := by decide +kernel
theorem dX2_chain_36 : decode cX2_chain 36 = .ok (.istore_n 3, 1) := by decide +kernel
theorem dX2_chain_37 : decode cX2_chain 37 = .ok (.iload_n 3, 1) := by decide +kernel
theorem dX2_chain_38 : decode cX2_chain 38 = .ok (.iload_n 1, 1) := by decide +kernel
theorem dX2_chain_39 : decode cX2_chain 39 = .ok (.if_icmp .ge 20, 3) := by decide +kernel
theorem dX2_chain_42 : decode cX2_chain 42 = .ok (.aload_n 0, 1) := by decide +kernel
theorem dX2_chain_43 : decode cX2_chain 43 = .ok (.getfield 33, 3) := by decide +kernel
theorem dX2_chain_46 : decode cX2_chain 46 = .ok (.iload_n 3, 1) := by decide +kernel
theorem dX2_chain_47 : decode cX2_chain 47 = .ok (.aload_n 0, 1) := by decide +kernel
theorem dX2_chain_48 : decode cX2_chain 48 = .ok (.iload_n 3, 1) := by decide +kernel
theorem dX2_chain_49 : decode cX2_chain 49 = .ok (.invokevirtual 120, 3) := by decide +kernel
theorem dX2_chain_52 : decode cX2_chain 52 = .ok (.iastore, 1) := by decide +kernel
theorem dX2_chain_53 : decode cX2_chain 53 = .ok (.iinc 3 1, 3) := by decide +kernel
theorem dX2_chain_56 : decode cX2_chain 56 = .ok (.goto (-19), 3) := by decide +kernel
theorem dX2_chain_59 : decode cX2_chain 59 = .ok (.iinc 2 1, 3) := by decide +kernel
theorem dX2_chain_62 : decode cX2_chain 62 = .ok (.goto (-32), 3) := by decide +kernel
theorem dX2_chain_65 : decode cX2_chain 65 = .ok (.iconst 0, 1) := by decide +kernel
theorem dX2_chain_66 : decode cX2_chain 66 = .ok (.istore_n 2, 1) := by decide +kernel
theorem dX2_chain_67 : decode cX2_chain 67 = .ok (.iconst 0, 1) := by decide +kernel
theorem dX2_chain_68 : decode cX2_chain 68 = .ok (.istore_n 3, 1) := by decide +kernel
theorem dX2_chain_69 : decode cX2_chain 69 = .ok (.iload_n 3, 1) := by decide +kernel
theorem dX2_chain_70 : decode cX2_chain 70 = .ok (.iload_n 1, 1) := by decide +kernel
theorem dX2_chain_71 : decode cX2_chain 71 = .ok (.if_icmp .ge 20, 3) := by decide +kernel
theorem dX2_chain_74 : decode cX2_chain 74 = .ok (.iload_n 2, 1) := by decide +kernel
theorem dX2_chain_75 : decode cX2_chain 75 = .ok (.aload_n 0, 1) := by decide +kernel
theorem dX2_chain_76 : decode cX2_chain 76 = .ok (.getfield 33, 3) := by decide +kernel
theorem dX2_chain_79 : decode cX2_chain 79 = .ok (.iload_n 3, 1) := by decide +kernel
theorem dX2_chain_80 : decode cX2_chain 80 = .ok (.iaload, 1) := by decide +kernel
theorem dX2_chain_81 : decode cX2_chain 81 = .ok (.invokestatic 123, 3) := by decide +kernel
theorem dX2_chain_84 : decode cX2_chain 84 = .ok (.istore_n 2, 1) := by decide +kernel
theorem dX2_chain_85 : decode cX2_chain 85 = .ok (.iinc 3 1, 3) := by decide +kernel
theorem dX2_chain_88 : decode cX2_chain 88 = .ok (.goto (-19), 3) := by decide +kernel
theorem dX2_chain_91 : decode cX2_chain 91 = .ok (.iload_n 2, 1) := by decide +kernel
theorem dX2_chain_92 : decode cX2_chain 92 = .ok (.ireturn, 1) := by decide +kernel
set_option maxRecDepth 20000 in
theorem ggX2_would_X0_has : GoodIn wsX2_would wsX0_has := goodIn_r _ [11, 12, 77, 78] rfl (by decide +kernel)
set_option maxRecDepth 20000 in
theorem gX2_would_X0_has : GoodIn wsX2_would (wsV RX2 63 RX0 yX0_has wsX0_has) := goodIn_app (goodIn_of _ (by decide +kernel)) ggX2_would_X0_has
set_option maxRecDepth 20000 in
theorem ggX2_would_X0_copy : GoodIn wsX2_would wsX0_copy := goodIn_r _ [16, 17, 18, 19, 20, 21, 12, 77, 78] rfl (by decide +kernel)
set_option maxRecDepth 20000 in
theorem gX2_would_X0_copy : GoodIn wsX2_would (wsV RX2 128 RX0 yX0_copy wsX0_copy) := goodIn_app (goodIn_of _ (by decide +kernel)) ggX2_would_X0_copy
set_option maxRecDepth 20000 in
theorem ggX2_would_X2_roomTried : GoodIn wsX2_would wsX2_roomTried := goodIn_r _ [26, 6, 27, 28, 29, 30, 10, 31, 17, 32, 8, 9, 11, 12, 33, 34, 35, 36, 37, 38, 39, 40, 41, 42, 43, 44, 45, 46, 47, 48, 49, 50, 51, 52, 53, 54, 55, 56, 57, 58, 59, 60, 61, 62, 63, 64, 65, 66, 67, 68, 69, 70, 71, 72, 73, 74, 75, 76, 77, 78, 79, 80, 81] rfl (by decide +kernel)
set_option maxRecDepth 20000 in
theorem gX2_would_X2_roomTried : GoodIn wsX2_would (wsV RX2 132 RX2 yX2_roomTried wsX2_roomTried) := goodIn_app (goodIn_of _ (by decide +kernel)) ggX2_would_X2_roomTried
theorem dX2_would_0 : decode cX2_would 0 = .ok (.aload_n 0, 1) := by decide +kernel
theorem dX2_would_1 : decode cX2_would 1 = .ok (.getfield 10, 3) := by decide +kernel
theorem dX2_would_4 : decode cX2_would 4 = .ok (.iload_n 1, 1) := by decide +kernel
theorem dX2_would_5 : decode cX2_would 5 = .ok (.invokevirtual 63, 3) := by decide +kernel
theorem dX2_would_8 : decode cX2_would 8 = .ok (.ifCond .eq 14, 3) := by decide +kernel
theorem dX2_would_11 : decode cX2_would 11 = .ok (.aload_n 0, 1) := by decide +kernel
theorem dX2_would_12 : decode cX2_would 12 = .ok (.getfield 10, 3) := by decide +kernel
theorem dX2_would_15 : decode cX2_would 15 = .ok (.iload_n 2, 1) := by decide +kernel
theorem dX2_would_16 : decode cX2_would 16 = .ok (.invokevirtual 63, 3) := by decide +kernel
theorem dX2_would_19 : decode cX2_would 19 = .ok (.ifCond .ne 13, 3) := by decide +kernel
theorem dX2_would_22 : decode cX2_would 22 = .ok (.new 67, 3) := by decide +kernel
theorem dX2_would_25 : decode cX2_would 25 = .ok (.dup, 1) := by decide +kernel
theorem dX2_would_26 : decode cX2_would 26 = .ok (.ldc 69, 2) := by decide +kernel
theorem dX2_would_28 : decode cX2_would 28 = .ok (.invokespecial 71, 3) := by decide +kernel
theorem dX2_would_31 : decode cX2_would 31 = .ok (.athrow, 1) := by decide +kernel
theorem dX2_would_32 : decode cX2_would 32 = .ok (.iload_n 3, 1) := by decide +kernel
theorem dX2_would_33 : decode cX2_would 33 = .ok (.ifCond .lt 10, 3) := by decide +kernel
theorem dX2_would_36 : decode cX2_would 36 = .ok (.iload_n 3, 1) := by decide +kernel
theorem dX2_would_37 : decode cX2_would 37 = .ok (.sipush 999, 3) := by decide +kernel
theorem dX2_would_40 : decode cX2_would 40 = .ok (.if_icmp .le 13, 3) := by decide +kernel
theorem dX2_would_43 : decode cX2_would 43 = .ok (.new 72, 3) := by decide +kernel
theorem dX2_would_46 : decode cX2_would 46 = .ok (.dup, 1) := by decide +kernel
theorem dX2_would_47 : decode cX2_would 47 = .ok (.ldc 74, 2) := by decide +kernel
theorem dX2_would_49 : decode cX2_would 49 = .ok (.invokespecial 76, 3) := by decide +kernel
theorem dX2_would_52 : decode cX2_would 52 = .ok (.athrow, 1) := by decide +kernel
theorem dX2_would_53 : decode cX2_would 53 = .ok (.aload_n 0, 1) := by decide +kernel
theorem dX2_would_54 : decode cX2_would 54 = .ok (.getfield 23, 3) := by decide +kernel
theorem dX2_would_57 : decode cX2_would 57 = .ok (.aload_n 0, 1) := by decide +kernel
theorem dX2_would_58 : decode cX2_would 58 = .ok (.getfield 10, 3) := by decide +kernel
theorem dX2_would_61 : decode cX2_would 61 = .ok (.invokevirtual 128, 3) := by decide +kernel
theorem dX2_would_64 : decode cX2_would 64 = .ok (.aload_n 0, 1) := by decide +kernel
theorem dX2_would_65 : decode cX2_would 65 = .ok (.iload_n 1, 1) := by decide +kernel
theorem dX2_would_66 : decode cX2_would 66 = .ok (.iload_n 2, 1) := by decide +kernel
theorem dX2_would_67 : decode cX2_would 67 = .ok (.iload_n 3, 1) := by decide +kernel
theorem dX2_would_68 : decode cX2_would 68 = .ok (.invokevirtual 132, 3) := by decide +kernel
theorem dX2_would_71 : decode cX2_would 71 = .ok (.ireturn, 1) := by decide +kernel
set_option maxRecDepth 20000 in
theorem ggX2_mean_X0_size : GoodIn wsX2_mean wsX0_size := goodIn_r _ [6, 7, 57, 58] rfl (by decide +kernel)
set_option maxRecDepth 20000 in
theorem gX2_mean_X0_size : GoodIn wsX2_mean (wsV RX2 46 RX0 yX0_size wsX0_size) := goodIn_app (goodIn_of _ (by decide +kernel)) ggX2_mean_X0_size
set_option maxRecDepth 20000 in
theorem ggX2_mean_X2_allPays : GoodIn wsX2_mean wsX2_allPays := goodIn_r _ [12, 1, 2, 3, 4, 5, 6, 7, 13, 14, 15, 11, 16, 17, 18, 19, 20, 21, 22, 23, 24, 25, 26, 27, 28, 29, 30, 31, 32, 33, 34, 35, 36, 37, 38, 39, 40, 41, 42, 43, 44, 45, 46, 47, 48, 49, 50, 51, 52, 53, 54, 55, 56, 57, 58, 59, 60, 61] rfl (by decide +kernel)
set_option maxRecDepth 20000 in
theorem gX2_mean_X2_allPays : GoodIn wsX2_mean (wsV RX2 142 RX2 yX2_allPays wsX2_allPays) := goodIn_app (goodIn_of _ (by decide +kernel)) ggX2_mean_X2_allPays
theorem dX2_mean_0 : decode cX2_mean 0 = .ok (.aload_n 0, 1) := by decide +kernel
theorem dX2_mean_1 : decode cX2_mean 1 = .ok (.getfield 10, 3) := by decide +kernel
theorem dX2_mean_4 : decode cX2_mean 4 = .ok (.invokevirtual 46, 3) := by decide +kernel
theorem dX2_mean_7 : decode cX2_mean 7 = .ok (.istore_n 1, 1) := by decide +kernel
theorem dX2_mean_8 : decode cX2_mean 8 = .ok (.iload_n 1, 1) := by decide +kernel
theorem dX2_mean_9 : decode cX2_mean 9 = .ok (.ifCond .ne 5, 3) := by decide +kernel
theorem dX2_mean_12 : decode cX2_mean 12 = .ok (.dconst 0, 1) := by decide +kernel
theorem dX2_mean_13 : decode cX2_mean 13 = .ok (.dreturn, 1) := by decide +kernel
theorem dX2_mean_14 : decode cX2_mean 14 = .ok (.aload_n 0, 1) := by decide +kernel
theorem dX2_mean_15 : decode cX2_mean 15 = .ok (.invokevirtual 142, 3) := by decide +kernel
theorem dX2_mean_18 : decode cX2_mean 18 = .ok (.i2d, 1) := by decide +kernel
theorem dX2_mean_19 : decode cX2_mean 19 = .ok (.iload_n 1, 1) := by decide +kernel
theorem dX2_mean_20 : decode cX2_mean 20 = .ok (.i2d, 1) := by decide +kernel
theorem dX2_mean_21 : decode cX2_mean 21 = .ok (.ddiv, 1) := by decide +kernel
theorem dX2_mean_22 : decode cX2_mean 22 = .ok (.dreturn, 1) := by decide +kernel
set_option maxRecDepth 20000 in
theorem ggX2_fact_X1_roomOf : GoodIn wsX2_fact wsX1_roomOf := goodIn_r _ [6, 7, 61, 62, 63] rfl (by decide +kernel)
set_option maxRecDepth 20000 in
theorem gX2_fact_X1_roomOf : GoodIn wsX2_fact (wsV RX2 92 RX1 yX1_roomOf wsX1_roomOf) := goodIn_app (goodIn_of _ (by decide +kernel)) ggX2_fact_X1_roomOf
set_option maxRecDepth 20000 in
theorem ggX2_fact_X2_ownBidOf : GoodIn wsX2_fact wsX2_ownBidOf := goodIn_r _ [12, 13, 1, 2, 3, 4, 5, 6, 7, 14, 15, 16, 17, 18, 19, 20, 21, 22, 23, 24, 52, 53, 54, 55, 56, 57, 58, 59, 60, 61, 62, 63, 64, 65] rfl (by decide +kernel)
set_option maxRecDepth 20000 in
theorem gX2_fact_X2_ownBidOf : GoodIn wsX2_fact (wsV RX2 149 RX2 yX2_ownBidOf wsX2_ownBidOf) := goodIn_app (goodIn_of _ (by decide +kernel)) ggX2_fact_X2_ownBidOf
set_option maxRecDepth 20000 in
theorem ggX2_fact_X2_rebateOf : GoodIn wsX2_fact wsX2_rebateOf := goodIn_r _ [28, 29, 30, 31, 32, 11, 33, 13, 34, 35, 21, 22, 17, 23, 24, 52, 53, 54, 55, 56, 57, 58, 59, 60, 64, 65] rfl (by decide +kernel)
set_option maxRecDepth 20000 in
theorem gX2_fact_X2_rebateOf : GoodIn wsX2_fact (wsV RX2 114 RX2 yX2_rebateOf wsX2_rebateOf) := goodIn_app (goodIn_of _ (by decide +kernel)) ggX2_fact_X2_rebateOf
set_option maxRecDepth 20000 in
theorem ggX2_fact_X2_payOf : GoodIn wsX2_fact wsX2_payOf := goodIn_r _ [39, 8, 9, 10, 11, 12, 13, 1, 2, 3, 4, 5, 6, 7, 14, 15, 16, 17, 18, 19, 20, 21, 22, 23, 24, 25, 26, 27, 28, 29, 30, 31, 32, 33, 34, 35, 52, 53, 54, 55, 56, 57, 58, 59, 60, 61, 62, 63, 64, 65] rfl (by decide +kernel)
set_option maxRecDepth 20000 in
theorem gX2_fact_X2_payOf : GoodIn wsX2_fact (wsV RX2 117 RX2 yX2_payOf wsX2_payOf) := goodIn_app (goodIn_of _ (by decide +kernel)) ggX2_fact_X2_payOf
set_option maxRecDepth 20000 in
theorem ggX2_fact_X2_firstRebateOf : GoodIn wsX2_fact wsX2_firstRebateOf := goodIn_r _ [33, 13, 34, 35, 21, 22, 17, 23, 24, 52, 53, 54, 55, 56, 57, 58, 59, 60, 64, 65] rfl (by decide +kernel)
set_option maxRecDepth 20000 in
theorem gX2_fact_X2_firstRebateOf : GoodIn wsX2_fact (wsV RX2 152 RX2 yX2_firstRebateOf wsX2_firstRebateOf) := goodIn_app (goodIn_of _ (by decide +kernel)) ggX2_fact_X2_firstRebateOf
set_option maxRecDepth 20000 in
theorem ggX2_fact_X2_enviedBy : GoodIn wsX2_fact wsX2_enviedBy := goodIn_r _ [43, 13, 44, 45, 46, 17, 47, 24, 48, 49, 50, 11, 51, 1, 2, 3, 4, 5, 6, 7, 14, 15, 16, 18, 19, 20, 21, 22, 23, 8, 9, 10, 12, 52, 53, 54, 55, 56, 57, 58, 59, 60, 64, 65, 61, 62, 63] rfl (by decide +kernel)
set_option maxRecDepth 20000 in
theorem gX2_fact_X2_enviedBy : GoodIn wsX2_fact (wsV RX2 155 RX2 yX2_enviedBy wsX2_enviedBy) := goodIn_app (goodIn_of _ (by decide +kernel)) ggX2_fact_X2_enviedBy
theorem dX2_fact_0 : decode cX2_fact 0 = .ok (.iload_n 2, 1) := by decide +kernel
theorem dX2_fact_1 : decode cX2_fact 1 = .ok (.tableswitch 68 0 4 #[35, 44, 50, 56, 62], 35) := by decide +kernel
theorem dX2_fact_36 : decode cX2_fact 36 = .ok (.aload_n 0, 1) := by decide +kernel
theorem dX2_fact_37 : decode cX2_fact 37 = .ok (.getfield 19, 3) := by decide +kernel
theorem dX2_fact_40 : decode cX2_fact 40 = .ok (.iload_n 1, 1) := by decide +kernel
theorem dX2_fact_41 : decode cX2_fact 41 = .ok (.invokevirtual 92, 3) := by decide +kernel
theorem dX2_fact_44 : decode cX2_fact 44 = .ok (.ireturn, 1) := by decide +kernel
theorem dX2_fact_45 : decode cX2_fact 45 = .ok (.aload_n 0, 1) := by decide +kernel
theorem dX2_fact_46 : decode cX2_fact 46 = .ok (.iload_n 1, 1) := by decide +kernel
theorem dX2_fact_47 : decode cX2_fact 47 = .ok (.invokevirtual 149, 3) := by decide +kernel
theorem dX2_fact_50 : decode cX2_fact 50 = .ok (.ireturn, 1) := by decide +kernel
theorem dX2_fact_51 : decode cX2_fact 51 = .ok (.aload_n 0, 1) := by decide +kernel
theorem dX2_fact_52 : decode cX2_fact 52 = .ok (.iload_n 1, 1) := by decide +kernel
theorem dX2_fact_53 : decode cX2_fact 53 = .ok (.invokevirtual 114, 3) := by decide +kernel
theorem dX2_fact_56 : decode cX2_fact 56 = .ok (.ireturn, 1) := by decide +kernel
theorem dX2_fact_57 : decode cX2_fact 57 = .ok (.aload_n 0, 1) := by decide +kernel
theorem dX2_fact_58 : decode cX2_fact 58 = .ok (.iload_n 1, 1) := by decide +kernel
theorem dX2_fact_59 : decode cX2_fact 59 = .ok (.invokevirtual 117, 3) := by decide +kernel
theorem dX2_fact_62 : decode cX2_fact 62 = .ok (.ireturn, 1) := by decide +kernel
theorem dX2_fact_63 : decode cX2_fact 63 = .ok (.aload_n 0, 1) := by decide +kernel
theorem dX2_fact_64 : decode cX2_fact 64 = .ok (.iload_n 1, 1) := by decide +kernel
theorem dX2_fact_65 : decode cX2_fact 65 = .ok (.invokevirtual 152, 3) := by decide +kernel
theorem dX2_fact_68 : decode cX2_fact 68 = .ok (.ireturn, 1) := by decide +kernel
theorem dX2_fact_69 : decode cX2_fact 69 = .ok (.aload_n 0, 1) := by decide +kernel
theorem dX2_fact_70 : decode cX2_fact 70 = .ok (.iload_n 1, 1) := by decide +kernel
theorem dX2_fact_71 : decode cX2_fact 71 = .ok (.invokevirtual 155, 3) := by decide +kernel
theorem dX2_fact_74 : decode cX2_fact 74 = .ok (.ireturn, 1) := by decide +kernel
set_option maxRecDepth 20000 in
theorem ggX2_total_X0_size : GoodIn wsX2_total wsX0_size := goodIn_r _ [10, 11, 73, 74] rfl (by decide +kernel)
set_option maxRecDepth 20000 in
theorem gX2_total_X0_size : GoodIn wsX2_total (wsV RX2 46 RX0 yX0_size wsX0_size) := goodIn_app (goodIn_of _ (by decide +kernel)) ggX2_total_X0_size
set_option maxRecDepth 20000 in
theorem ggX2_total_X1_worth : GoodIn wsX2_total wsX1_worth := goodIn_r _ [16, 17, 75, 76, 77] rfl (by decide +kernel)
set_option maxRecDepth 20000 in
theorem gX2_total_X1_worth : GoodIn wsX2_total (wsV RX2 139 RX1 yX1_worth wsX1_worth) := goodIn_app (goodIn_of _ (by decide +kernel)) ggX2_total_X1_worth
set_option maxRecDepth 20000 in
theorem ggX2_total_X2_allFirstRebates : GoodIn wsX2_total wsX2_allFirstRebates := goodIn_r _ [22, 1, 23, 6, 7, 8, 9, 10, 11, 64, 65, 66, 67, 68, 69, 70, 71, 72, 73, 74] rfl (by decide +kernel)
set_option maxRecDepth 20000 in
theorem gX2_total_X2_allFirstRebates : GoodIn wsX2_total (wsV RX2 158 RX2 yX2_allFirstRebates wsX2_allFirstRebates) := goodIn_app (goodIn_of _ (by decide +kernel)) ggX2_total_X2_allFirstRebates
set_option maxRecDepth 20000 in
theorem ggX2_total_X1_ways : GoodIn wsX2_total wsX1_ways := goodIn_r _ [27, 28, 75, 76, 77] rfl (by decide +kernel)
set_option maxRecDepth 20000 in
theorem gX2_total_X1_ways : GoodIn wsX2_total (wsV RX2 161 RX1 yX1_ways wsX1_ways) := goodIn_app (goodIn_of _ (by decide +kernel)) ggX2_total_X1_ways
set_option maxRecDepth 20000 in
theorem ggX2_total_X2_allPays : GoodIn wsX2_total wsX2_allPays := goodIn_r _ [32, 1, 6, 7, 8, 9, 10, 11, 33, 34, 35, 21, 36, 37, 38, 39, 40, 3, 41, 42, 43, 15, 44, 45, 46, 47, 48, 49, 50, 51, 52, 53, 54, 55, 56, 57, 58, 4, 59, 60, 61, 62, 23, 63, 64, 65, 66, 67, 68, 69, 70, 71, 72, 73, 74, 75, 76, 77] rfl (by decide +kernel)
set_option maxRecDepth 20000 in
theorem gX2_total_X2_allPays : GoodIn wsX2_total (wsV RX2 142 RX2 yX2_allPays wsX2_allPays) := goodIn_app (goodIn_of _ (by decide +kernel)) ggX2_total_X2_allPays
theorem dX2_total_0 : decode cX2_total 0 = .ok (.iload_n 1, 1) := by decide +kernel
theorem dX2_total_1 : decode cX2_total 1 = .ok (.tableswitch 91 0 5 #[39, 47, 52, 60, 78, 83], 39) := by decide +kernel
theorem dX2_total_40 : decode cX2_total 40 = .ok (.aload_n 0, 1) := by decide +kernel
theorem dX2_total_41 : decode cX2_total 41 = .ok (.getfield 10, 3) := by decide +kernel
theorem dX2_total_44 : decode cX2_total 44 = .ok (.invokevirtual 46, 3) := by decide +kernel
theorem dX2_total_47 : decode cX2_total 47 = .ok (.ireturn, 1) := by decide +kernel
theorem dX2_total_48 : decode cX2_total 48 = .ok (.aload_n 0, 1) := by decide +kernel
theorem dX2_total_49 : decode cX2_total 49 = .ok (.getfield 36, 3) := by decide +kernel
theorem dX2_total_52 : decode cX2_total 52 = .ok (.ireturn, 1) := by decide +kernel
theorem dX2_total_53 : decode cX2_total 53 = .ok (.aload_n 0, 1) := by decide +kernel
theorem dX2_total_54 : decode cX2_total 54 = .ok (.getfield 19, 3) := by decide +kernel
theorem dX2_total_57 : decode cX2_total 57 = .ok (.invokevirtual 139, 3) := by decide +kernel
theorem dX2_total_60 : decode cX2_total 60 = .ok (.ireturn, 1) := by decide +kernel
theorem dX2_total_61 : decode cX2_total 61 = .ok (.aload_n 0, 1) := by decide +kernel
theorem dX2_total_62 : decode cX2_total 62 = .ok (.invokevirtual 158, 3) := by decide +kernel
theorem dX2_total_65 : decode cX2_total 65 = .ok (.aload_n 0, 1) := by decide +kernel
theorem dX2_total_66 : decode cX2_total 66 = .ok (.getfield 40, 3) := by decide +kernel
theorem dX2_total_69 : decode cX2_total 69 = .ok (.aload_n 0, 1) := by decide +kernel
theorem dX2_total_70 : decode cX2_total 70 = .ok (.getfield 10, 3) := by decide +kernel
theorem dX2_total_73 : decode cX2_total 73 = .ok (.invokevirtual 46, 3) := by decide +kernel
theorem dX2_total_76 : decode cX2_total 76 = .ok (.imul, 1) := by decide +kernel
theorem dX2_total_77 : decode cX2_total 77 = .ok (.iadd, 1) := by decide +kernel
theorem dX2_total_78 : decode cX2_total 78 = .ok (.ireturn, 1) := by decide +kernel
theorem dX2_total_79 : decode cX2_total 79 = .ok (.aload_n 0, 1) := by decide +kernel
theorem dX2_total_80 : decode cX2_total 80 = .ok (.getfield 43, 3) := by decide +kernel
theorem dX2_total_83 : decode cX2_total 83 = .ok (.ireturn, 1) := by decide +kernel
theorem dX2_total_84 : decode cX2_total 84 = .ok (.aload_n 0, 1) := by decide +kernel
theorem dX2_total_85 : decode cX2_total 85 = .ok (.getfield 19, 3) := by decide +kernel
theorem dX2_total_88 : decode cX2_total 88 = .ok (.invokevirtual 161, 3) := by decide +kernel
theorem dX2_total_91 : decode cX2_total 91 = .ok (.ireturn, 1) := by decide +kernel
theorem dX2_total_92 : decode cX2_total 92 = .ok (.aload_n 0, 1) := by decide +kernel
theorem dX2_total_93 : decode cX2_total 93 = .ok (.invokevirtual 142, 3) := by decide +kernel
theorem dX2_total_96 : decode cX2_total 96 = .ok (.ireturn, 1) := by decide +kernel
set_option maxRecDepth 20000 in
theorem ggX2_ownBidOf_X1_roomOf : GoodIn wsX2_ownBidOf wsX1_roomOf := goodIn_r _ [7, 8, 29, 30, 31] rfl (by decide +kernel)
set_option maxRecDepth 20000 in
theorem gX2_ownBidOf_X1_roomOf : GoodIn wsX2_ownBidOf (wsV RX2 92 RX1 yX1_roomOf wsX1_roomOf) := goodIn_app (goodIn_of _ (by decide +kernel)) ggX2_ownBidOf_X1_roomOf
set_option maxRecDepth 20000 in
theorem ggX2_ownBidOf_X0_of : GoodIn wsX2_ownBidOf wsX0_of := goodIn_r _ [13, 14, 15, 16, 17, 12, 18, 19, 32, 33] rfl (by decide +kernel)
set_option maxRecDepth 20000 in
theorem gX2_ownBidOf_X0_of : GoodIn wsX2_ownBidOf (wsV RX2 77 RX0 yX0_of wsX0_of) := goodIn_app (goodIn_of _ (by decide +kernel)) ggX2_ownBidOf_X0_of
theorem dX2_ownBidOf_0 : decode cX2_ownBidOf 0 = .ok (.aload_n 0, 1) := by decide +kernel
theorem dX2_ownBidOf_1 : decode cX2_ownBidOf 1 = .ok (.getfield 10, 3) := by decide +kernel
theorem dX2_ownBidOf_4 : decode cX2_ownBidOf 4 = .ok (.iload_n 1, 1) := by decide +kernel
theorem dX2_ownBidOf_5 : decode cX2_ownBidOf 5 = .ok (.aload_n 0, 1) := by decide +kernel
theorem dX2_ownBidOf_6 : decode cX2_ownBidOf 6 = .ok (.getfield 19, 3) := by decide +kernel
theorem dX2_ownBidOf_9 : decode cX2_ownBidOf 9 = .ok (.iload_n 1, 1) := by decide +kernel
theorem dX2_ownBidOf_10 : decode cX2_ownBidOf 10 = .ok (.invokevirtual 92, 3) := by decide +kernel
theorem dX2_ownBidOf_13 : decode cX2_ownBidOf 13 = .ok (.invokevirtual 77, 3) := by decide +kernel
theorem dX2_ownBidOf_16 : decode cX2_ownBidOf 16 = .ok (.ireturn, 1) := by decide +kernel
set_option maxRecDepth 20000 in
theorem ggX2_firstRebateOf_X0_has : GoodIn wsX2_firstRebateOf wsX0_has := goodIn_r _ [7, 8, 18, 19] rfl (by decide +kernel)
set_option maxRecDepth 20000 in
theorem gX2_firstRebateOf_X0_has : GoodIn wsX2_firstRebateOf (wsV RX2 63 RX0 yX0_has wsX0_has) := goodIn_app (goodIn_of _ (by decide +kernel)) ggX2_firstRebateOf_X0_has
theorem dX2_firstRebateOf_0 : decode cX2_firstRebateOf 0 = .ok (.aload_n 0, 1) := by decide +kernel
theorem dX2_firstRebateOf_1 : decode cX2_firstRebateOf 1 = .ok (.getfield 10, 3) := by decide +kernel
theorem dX2_firstRebateOf_4 : decode cX2_firstRebateOf 4 = .ok (.iload_n 1, 1) := by decide +kernel
theorem dX2_firstRebateOf_5 : decode cX2_firstRebateOf 5 = .ok (.invokevirtual 63, 3) := by decide +kernel
theorem dX2_firstRebateOf_8 : decode cX2_firstRebateOf 8 = .ok (.ifCond .eq 12, 3) := by decide +kernel
theorem dX2_firstRebateOf_11 : decode cX2_firstRebateOf 11 = .ok (.aload_n 0, 1) := by decide +kernel
theorem dX2_firstRebateOf_12 : decode cX2_firstRebateOf 12 = .ok (.getfield 29, 3) := by decide +kernel
theorem dX2_firstRebateOf_15 : decode cX2_firstRebateOf 15 = .ok (.iload_n 1, 1) := by decide +kernel
theorem dX2_firstRebateOf_16 : decode cX2_firstRebateOf 16 = .ok (.iaload, 1) := by decide +kernel
theorem dX2_firstRebateOf_17 : decode cX2_firstRebateOf 17 = .ok (.goto 4, 3) := by decide +kernel
theorem dX2_firstRebateOf_20 : decode cX2_firstRebateOf 20 = .ok (.iconst 0, 1) := by decide +kernel
theorem dX2_firstRebateOf_21 : decode cX2_firstRebateOf 21 = .ok (.ireturn, 1) := by decide +kernel
set_option maxRecDepth 20000 in
theorem ggX2_rebateOf_X2_firstRebateOf : GoodIn wsX2_rebateOf wsX2_firstRebateOf := goodIn_r _ [6, 7, 8, 9, 10, 11, 12, 13, 14, 15, 16, 17, 18, 19, 20, 21, 22, 23, 24, 25] rfl (by decide +kernel)
set_option maxRecDepth 20000 in
theorem gX2_rebateOf_X2_firstRebateOf : GoodIn wsX2_rebateOf (wsV RX2 152 RX2 yX2_firstRebateOf wsX2_firstRebateOf) := goodIn_app (goodIn_of _ (by decide +kernel)) ggX2_rebateOf_X2_firstRebateOf
theorem dX2_rebateOf_0 : decode cX2_rebateOf 0 = .ok (.aload_n 0, 1) := by decide +kernel
theorem dX2_rebateOf_1 : decode cX2_rebateOf 1 = .ok (.iload_n 1, 1) := by decide +kernel
theorem dX2_rebateOf_2 : decode cX2_rebateOf 2 = .ok (.invokevirtual 152, 3) := by decide +kernel
theorem dX2_rebateOf_5 : decode cX2_rebateOf 5 = .ok (.aload_n 0, 1) := by decide +kernel
theorem dX2_rebateOf_6 : decode cX2_rebateOf 6 = .ok (.getfield 40, 3) := by decide +kernel
theorem dX2_rebateOf_9 : decode cX2_rebateOf 9 = .ok (.iadd, 1) := by decide +kernel
theorem dX2_rebateOf_10 : decode cX2_rebateOf 10 = .ok (.ireturn, 1) := by decide +kernel
set_option maxRecDepth 20000 in
theorem ggX2_payOf_X2_ownBidOf : GoodIn wsX2_payOf wsX2_ownBidOf := goodIn_r _ [5, 6, 7, 8, 9, 10, 11, 12, 13, 14, 15, 16, 17, 18, 19, 20, 21, 22, 23, 24, 36, 37, 38, 39, 40, 41, 42, 43, 44, 45, 46, 47, 48, 49] rfl (by decide +kernel)
set_option maxRecDepth 20000 in
theorem gX2_payOf_X2_ownBidOf : GoodIn wsX2_payOf (wsV RX2 149 RX2 yX2_ownBidOf wsX2_ownBidOf) := goodIn_app (goodIn_of _ (by decide +kernel)) ggX2_payOf_X2_ownBidOf
set_option maxRecDepth 20000 in
theorem ggX2_payOf_X2_rebateOf : GoodIn wsX2_payOf wsX2_rebateOf := goodIn_r _ [28, 29, 30, 31, 32, 4, 33, 6, 34, 35, 21, 22, 17, 23, 24, 36, 37, 38, 39, 40, 41, 42, 43, 44, 48, 49] rfl (by decide +kernel)
set_option maxRecDepth 20000 in
theorem gX2_payOf_X2_rebateOf : GoodIn wsX2_payOf (wsV RX2 114 RX2 yX2_rebateOf wsX2_rebateOf) := goodIn_app (goodIn_of _ (by decide +kernel)) ggX2_payOf_X2_rebateOf
theorem dX2_payOf_0 : decode cX2_payOf 0 = .ok (.aload_n 0, 1) := by decide +kernel
theorem dX2_payOf_1 : decode cX2_payOf 1 = .ok (.iload_n 1, 1) := by decide +kernel
theorem dX2_payOf_2 : decode cX2_payOf 2 = .ok (.invokevirtual 149, 3) := by decide +kernel
theorem dX2_payOf_5 : decode cX2_payOf 5 = .ok (.aload_n 0, 1) := by decide +kernel
theorem dX2_payOf_6 : decode cX2_payOf 6 = .ok (.iload_n 1, 1) := by decide +kernel
theorem dX2_payOf_7 : decode cX2_payOf 7 = .ok (.invokevirtual 114, 3) := by decide +kernel
theorem dX2_payOf_10 : decode cX2_payOf 10 = .ok (.isub, 1) := by decide +kernel
theorem dX2_payOf_11 : decode cX2_payOf 11 = .ok (.ireturn, 1) := by decide +kernel
set_option maxRecDepth 20000 in
theorem ggX2_allFirstRebates_X0_size : GoodIn wsX2_allFirstRebates wsX0_size := goodIn_r _ [7, 8, 18, 19] rfl (by decide +kernel)
set_option maxRecDepth 20000 in
theorem gX2_allFirstRebates_X0_size : GoodIn wsX2_allFirstRebates (wsV RX2 46 RX0 yX0_size wsX0_size) := goodIn_app (goodIn_of _ (by decide +kernel)) ggX2_allFirstRebates_X0_size
theorem dX2_allFirstRebates_0 : decode cX2_allFirstRebates 0 = .ok (.iconst 0, 1) := by decide +kernel
theorem dX2_allFirstRebates_1 : decode cX2_allFirstRebates 1 = .ok (.istore_n 1, 1) := by decide +kernel
theorem dX2_allFirstRebates_2 : decode cX2_allFirstRebates 2 = .ok (.iconst 0, 1) := by decide +kernel
theorem dX2_allFirstRebates_3 : decode cX2_allFirstRebates 3 = .ok (.istore_n 2, 1) := by decide +kernel
theorem dX2_allFirstRebates_4 : decode cX2_allFirstRebates 4 = .ok (.iload_n 2, 1) := by decide +kernel
theorem dX2_allFirstRebates_5 : decode cX2_allFirstRebates 5 = .ok (.aload_n 0, 1) := by decide +kernel
theorem dX2_allFirstRebates_6 : decode cX2_allFirstRebates 6 = .ok (.getfield 10, 3) := by decide +kernel
theorem dX2_allFirstRebates_9 : decode cX2_allFirstRebates 9 = .ok (.invokevirtual 46, 3) := by decide +kernel
theorem dX2_allFirstRebates_12 : decode cX2_allFirstRebates 12 = .ok (.if_icmp .ge 18, 3) := by decide +kernel
theorem dX2_allFirstRebates_15 : decode cX2_allFirstRebates 15 = .ok (.iload_n 1, 1) := by decide +kernel
theorem dX2_allFirstRebates_16 : decode cX2_allFirstRebates 16 = .ok (.aload_n 0, 1) := by decide +kernel
theorem dX2_allFirstRebates_17 : decode cX2_allFirstRebates 17 = .ok (.getfield 29, 3) := by decide +kernel
theorem dX2_allFirstRebates_20 : decode cX2_allFirstRebates 20 = .ok (.iload_n 2, 1) := by decide +kernel
theorem dX2_allFirstRebates_21 : decode cX2_allFirstRebates 21 = .ok (.iaload, 1) := by decide +kernel
theorem dX2_allFirstRebates_22 : decode cX2_allFirstRebates 22 = .ok (.iadd, 1) := by decide +kernel
theorem dX2_allFirstRebates_23 : decode cX2_allFirstRebates 23 = .ok (.istore_n 1, 1) := by decide +kernel
theorem dX2_allFirstRebates_24 : decode cX2_allFirstRebates 24 = .ok (.iinc 2 1, 3) := by decide +kernel
theorem dX2_allFirstRebates_27 : decode cX2_allFirstRebates 27 = .ok (.goto (-23), 3) := by decide +kernel
theorem dX2_allFirstRebates_30 : decode cX2_allFirstRebates 30 = .ok (.iload_n 1, 1) := by decide +kernel
theorem dX2_allFirstRebates_31 : decode cX2_allFirstRebates 31 = .ok (.ireturn, 1) := by decide +kernel
set_option maxRecDepth 20000 in
theorem ggX2_allPays_X0_size : GoodIn wsX2_allPays wsX0_size := goodIn_r _ [6, 7, 53, 54] rfl (by decide +kernel)
set_option maxRecDepth 20000 in
theorem gX2_allPays_X0_size : GoodIn wsX2_allPays (wsV RX2 46 RX0 yX0_size wsX0_size) := goodIn_app (goodIn_of _ (by decide +kernel)) ggX2_allPays_X0_size
set_option maxRecDepth 20000 in
theorem ggX2_allPays_X2_payOf : GoodIn wsX2_allPays wsX2_payOf := goodIn_r _ [12, 13, 14, 15, 11, 16, 1, 17, 18, 19, 20, 21, 22, 23, 24, 25, 26, 5, 27, 28, 29, 30, 31, 32, 7, 33, 34, 35, 36, 37, 38, 39, 40, 41, 42, 43, 44, 45, 46, 47, 48, 49, 50, 51, 52, 55, 56, 57, 53, 54] rfl (by decide +kernel)
set_option maxRecDepth 20000 in
theorem gX2_allPays_X2_payOf : GoodIn wsX2_allPays (wsV RX2 117 RX2 yX2_payOf wsX2_payOf) := goodIn_app (goodIn_of _ (by decide +kernel)) ggX2_allPays_X2_payOf
theorem dX2_allPays_0 : decode cX2_allPays 0 = .ok (.iconst 0, 1) := by decide +kernel
theorem dX2_allPays_1 : decode cX2_allPays 1 = .ok (.istore_n 1, 1) := by decide +kernel
theorem dX2_allPays_2 : decode cX2_allPays 2 = .ok (.iconst 0, 1) := by decide +kernel
theorem dX2_allPays_3 : decode cX2_allPays 3 = .ok (.istore_n 2, 1) := by decide +kernel
theorem dX2_allPays_4 : decode cX2_allPays 4 = .ok (.iload_n 2, 1) := by decide +kernel
theorem dX2_allPays_5 : decode cX2_allPays 5 = .ok (.aload_n 0, 1) := by decide +kernel
theorem dX2_allPays_6 : decode cX2_allPays 6 = .ok (.getfield 10, 3) := by decide +kernel
theorem dX2_allPays_9 : decode cX2_allPays 9 = .ok (.invokevirtual 46, 3) := by decide +kernel
theorem dX2_allPays_12 : decode cX2_allPays 12 = .ok (.if_icmp .ge 17, 3) := by decide +kernel
theorem dX2_allPays_15 : decode cX2_allPays 15 = .ok (.iload_n 1, 1) := by decide +kernel
theorem dX2_allPays_16 : decode cX2_allPays 16 = .ok (.aload_n 0, 1) := by decide +kernel
theorem dX2_allPays_17 : decode cX2_allPays 17 = .ok (.iload_n 2, 1) := by decide +kernel
theorem dX2_allPays_18 : decode cX2_allPays 18 = .ok (.invokevirtual 117, 3) := by decide +kernel
theorem dX2_allPays_21 : decode cX2_allPays 21 = .ok (.iadd, 1) := by decide +kernel
theorem dX2_allPays_22 : decode cX2_allPays 22 = .ok (.istore_n 1, 1) := by decide +kernel
theorem dX2_allPays_23 : decode cX2_allPays 23 = .ok (.iinc 2 1, 3) := by decide +kernel
theorem dX2_allPays_26 : decode cX2_allPays 26 = .ok (.goto (-22), 3) := by decide +kernel
theorem dX2_allPays_29 : decode cX2_allPays 29 = .ok (.iload_n 1, 1) := by decide +kernel
theorem dX2_allPays_30 : decode cX2_allPays 30 = .ok (.ireturn, 1) := by decide +kernel
set_option maxRecDepth 20000 in
theorem ggX2_wouldEnvy_X1_roomOf : GoodIn wsX2_wouldEnvy wsX1_roomOf := goodIn_r _ [7, 8, 34, 35, 36] rfl (by decide +kernel)
set_option maxRecDepth 20000 in
theorem gX2_wouldEnvy_X1_roomOf : GoodIn wsX2_wouldEnvy (wsV RX2 92 RX1 yX1_roomOf wsX1_roomOf) := goodIn_app (goodIn_of _ (by decide +kernel)) ggX2_wouldEnvy_X1_roomOf
set_option maxRecDepth 20000 in
theorem ggX2_wouldEnvy_X0_of : GoodIn wsX2_wouldEnvy wsX0_of := goodIn_r _ [13, 14, 15, 16, 17, 12, 18, 19, 37, 38] rfl (by decide +kernel)
set_option maxRecDepth 20000 in
theorem gX2_wouldEnvy_X0_of : GoodIn wsX2_wouldEnvy (wsV RX2 77 RX0 yX0_of wsX0_of) := goodIn_app (goodIn_of _ (by decide +kernel)) ggX2_wouldEnvy_X0_of
set_option maxRecDepth 20000 in
theorem ggX2_wouldEnvy_X2_ownBidOf : GoodIn wsX2_wouldEnvy wsX2_ownBidOf := goodIn_r _ [24, 1, 2, 3, 4, 5, 6, 7, 8, 9, 10, 11, 12, 13, 14, 15, 16, 17, 18, 19, 25, 26, 27, 28, 29, 30, 31, 32, 33, 34, 35, 36, 37, 38] rfl (by decide +kernel)
set_option maxRecDepth 20000 in
theorem gX2_wouldEnvy_X2_ownBidOf : GoodIn wsX2_wouldEnvy (wsV RX2 149 RX2 yX2_ownBidOf wsX2_ownBidOf) := goodIn_app (goodIn_of _ (by decide +kernel)) ggX2_wouldEnvy_X2_ownBidOf
theorem dX2_wouldEnvy_0 : decode cX2_wouldEnvy 0 = .ok (.aload_n 0, 1) := by decide +kernel
theorem dX2_wouldEnvy_1 : decode cX2_wouldEnvy 1 = .ok (.getfield 10, 3) := by decide +kernel
theorem dX2_wouldEnvy_4 : decode cX2_wouldEnvy 4 = .ok (.iload_n 1, 1) := by decide +kernel
theorem dX2_wouldEnvy_5 : decode cX2_wouldEnvy 5 = .ok (.aload_n 0, 1) := by decide +kernel
theorem dX2_wouldEnvy_6 : decode cX2_wouldEnvy 6 = .ok (.getfield 19, 3) := by decide +kernel
theorem dX2_wouldEnvy_9 : decode cX2_wouldEnvy 9 = .ok (.iload_n 2, 1) := by decide +kernel
theorem dX2_wouldEnvy_10 : decode cX2_wouldEnvy 10 = .ok (.invokevirtual 92, 3) := by decide +kernel
theorem dX2_wouldEnvy_13 : decode cX2_wouldEnvy 13 = .ok (.invokevirtual 77, 3) := by decide +kernel
theorem dX2_wouldEnvy_16 : decode cX2_wouldEnvy 16 = .ok (.aload_n 0, 1) := by decide +kernel
theorem dX2_wouldEnvy_17 : decode cX2_wouldEnvy 17 = .ok (.iload_n 1, 1) := by decide +kernel
theorem dX2_wouldEnvy_18 : decode cX2_wouldEnvy 18 = .ok (.invokevirtual 149, 3) := by decide +kernel
theorem dX2_wouldEnvy_21 : decode cX2_wouldEnvy 21 = .ok (.if_icmp .le 7, 3) := by decide +kernel
theorem dX2_wouldEnvy_24 : decode cX2_wouldEnvy 24 = .ok (.iconst 1, 1) := by decide +kernel
theorem dX2_wouldEnvy_25 : decode cX2_wouldEnvy 25 = .ok (.goto 4, 3) := by decide +kernel
theorem dX2_wouldEnvy_28 : decode cX2_wouldEnvy 28 = .ok (.iconst 0, 1) := by decide +kernel
theorem dX2_wouldEnvy_29 : decode cX2_wouldEnvy 29 = .ok (.ireturn, 1) := by decide +kernel
set_option maxRecDepth 20000 in
theorem ggX2_enviedBy_X0_size : GoodIn wsX2_enviedBy wsX0_size := goodIn_r _ [6, 7, 42, 43] rfl (by decide +kernel)
set_option maxRecDepth 20000 in
theorem gX2_enviedBy_X0_size : GoodIn wsX2_enviedBy (wsV RX2 46 RX0 yX0_size wsX0_size) := goodIn_app (goodIn_of _ (by decide +kernel)) ggX2_enviedBy_X0_size
set_option maxRecDepth 20000 in
theorem ggX2_enviedBy_X2_wouldEnvy : GoodIn wsX2_enviedBy wsX2_wouldEnvy := goodIn_r _ [12, 1, 13, 14, 15, 16, 17, 18, 19, 20, 21, 22, 5, 23, 24, 25, 26, 27, 28, 7, 29, 30, 31, 11, 32, 33, 34, 35, 36, 37, 38, 39, 40, 41, 44, 45, 46, 42, 43] rfl (by decide +kernel)
set_option maxRecDepth 20000 in
theorem gX2_enviedBy_X2_wouldEnvy : GoodIn wsX2_enviedBy (wsV RX2 110 RX2 yX2_wouldEnvy wsX2_wouldEnvy) := goodIn_app (goodIn_of _ (by decide +kernel)) ggX2_enviedBy_X2_wouldEnvy
theorem dX2_enviedBy_0 : decode cX2_enviedBy 0 = .ok (.iconst 0, 1) := by decide +kernel
theorem dX2_enviedBy_1 : decode cX2_enviedBy 1 = .ok (.istore_n 2, 1) := by decide +kernel
theorem dX2_enviedBy_2 : decode cX2_enviedBy 2 = .ok (.iconst 0, 1) := by decide +kernel
theorem dX2_enviedBy_3 : decode cX2_enviedBy 3 = .ok (.istore_n 3, 1) := by decide +kernel
theorem dX2_enviedBy_4 : decode cX2_enviedBy 4 = .ok (.iload_n 3, 1) := by decide +kernel
theorem dX2_enviedBy_5 : decode cX2_enviedBy 5 = .ok (.aload_n 0, 1) := by decide +kernel
theorem dX2_enviedBy_6 : decode cX2_enviedBy 6 = .ok (.getfield 10, 3) := by decide +kernel
theorem dX2_enviedBy_9 : decode cX2_enviedBy 9 = .ok (.invokevirtual 46, 3) := by decide +kernel
theorem dX2_enviedBy_12 : decode cX2_enviedBy 12 = .ok (.if_icmp .ge 21, 3) := by decide +kernel
theorem dX2_enviedBy_15 : decode cX2_enviedBy 15 = .ok (.aload_n 0, 1) := by decide +kernel
theorem dX2_enviedBy_16 : decode cX2_enviedBy 16 = .ok (.iload_n 1, 1) := by decide +kernel
theorem dX2_enviedBy_17 : decode cX2_enviedBy 17 = .ok (.iload_n 3, 1) := by decide +kernel
theorem dX2_enviedBy_18 : decode cX2_enviedBy 18 = .ok (.invokevirtual 110, 3) := by decide +kernel
theorem dX2_enviedBy_21 : decode cX2_enviedBy 21 = .ok (.ifCond .eq 6, 3) := by decide +kernel
theorem dX2_enviedBy_24 : decode cX2_enviedBy 24 = .ok (.iinc 2 1, 3) := by decide +kernel
theorem dX2_enviedBy_27 : decode cX2_enviedBy 27 = .ok (.iinc 3 1, 3) := by decide +kernel
theorem dX2_enviedBy_30 : decode cX2_enviedBy 30 = .ok (.goto (-26), 3) := by decide +kernel
theorem dX2_enviedBy_33 : decode cX2_enviedBy 33 = .ok (.iload_n 2, 1) := by decide +kernel
theorem dX2_enviedBy_34 : decode cX2_enviedBy 34 = .ok (.ireturn, 1) := by decide +kernel
set_option maxRecDepth 20000 in
theorem ggX2_longestChainFrom_X0_size : GoodIn wsX2_longestChainFrom wsX0_size := goodIn_r _ [11, 12, 47, 48] rfl (by decide +kernel)
set_option maxRecDepth 20000 in
theorem gX2_longestChainFrom_X0_size : GoodIn wsX2_longestChainFrom (wsV RX2 46 RX0 yX0_size wsX0_size) := goodIn_app (goodIn_of _ (by decide +kernel)) ggX2_longestChainFrom_X0_size
set_option maxRecDepth 20000 in
theorem ggX2_longestChainFrom_X2_wouldEnvy : GoodIn wsX2_longestChainFrom wsX2_wouldEnvy := goodIn_r _ [17, 1, 18, 19, 20, 21, 22, 23, 24, 25, 26, 27, 10, 28, 29, 30, 31, 32, 33, 12, 34, 35, 36, 16, 37, 38, 39, 40, 41, 42, 43, 44, 45, 46, 49, 50, 51, 47, 48] rfl (by decide +kernel)
set_option maxRecDepth 20000 in
theorem gX2_longestChainFrom_X2_wouldEnvy : GoodIn wsX2_longestChainFrom (wsV RX2 110 RX2 yX2_wouldEnvy wsX2_wouldEnvy) := goodIn_app (goodIn_of _ (by decide +kernel)) ggX2_longestChainFrom_X2_wouldEnvy
theorem dX2_longestChainFrom_0 : decode cX2_longestChainFrom 0 = .ok (.iconst 1, 1) := by decide +kernel
theorem dX2_longestChainFrom_1 : decode cX2_longestChainFrom 1 = .ok (.istore_n 2, 1) := by decide +kernel
theorem dX2_longestChainFrom_2 : decode cX2_longestChainFrom 2 = .ok (.iconst 0, 1) := by decide +kernel
theorem dX2_longestChainFrom_3 : decode cX2_longestChainFrom 3 = .ok (.istore_n 3, 1) := by decide +kernel
theorem dX2_longestChainFrom_4 : decode cX2_longestChainFrom 4 = .ok (.iload_n 3, 1) := by decide +kernel
theorem dX2_longestChainFrom_5 : decode cX2_longestChainFrom 5 = .ok (.aload_n 0, 1) := by decide +kernel
theorem dX2_longestChainFrom_6 : decode cX2_longestChainFrom 6 = .ok (.getfield 10, 3) := by decide +kernel
theorem dX2_longestChainFrom_9 : decode cX2_longestChainFrom 9 = .ok (.invokevirtual 46, 3) := by decide +kernel
theorem dX2_longestChainFrom_12 : decode cX2_longestChainFrom 12 = .ok (.if_icmp .ge 31, 3) := by decide +kernel
theorem dX2_longestChainFrom_15 : decode cX2_longestChainFrom 15 = .ok (.aload_n 0, 1) := by decide +kernel
theorem dX2_longestChainFrom_16 : decode cX2_longestChainFrom 16 = .ok (.iload_n 1, 1) := by decide +kernel
theorem dX2_longestChainFrom_17 : decode cX2_longestChainFrom 17 = .ok (.iload_n 3, 1) := by decide +kernel
theorem dX2_longestChainFrom_18 : decode cX2_longestChainFrom 18 = .ok (.invokevirtual 110, 3) := by decide +kernel
theorem dX2_longestChainFrom_21 : decode cX2_longestChainFrom 21 = .ok (.ifCond .eq 16, 3) := by decide +kernel
theorem dX2_longestChainFrom_24 : decode cX2_longestChainFrom 24 = .ok (.iload_n 2, 1) := by decide +kernel
theorem dX2_longestChainFrom_25 : decode cX2_longestChainFrom 25 = .ok (.aload_n 0, 1) := by decide +kernel
theorem dX2_longestChainFrom_26 : decode cX2_longestChainFrom 26 = .ok (.getfield 33, 3) := by decide +kernel
theorem dX2_longestChainFrom_29 : decode cX2_longestChainFrom 29 = .ok (.iload_n 3, 1) := by decide +kernel
theorem dX2_longestChainFrom_30 : decode cX2_longestChainFrom 30 = .ok (.iaload, 1) := by decide +kernel
theorem dX2_longestChainFrom_31 : decode cX2_longestChainFrom 31 = .ok (.iconst 1, 1) := by decide +kernel
theorem dX2_longestChainFrom_32 : decode cX2_longestChainFrom 32 = .ok (.iadd, 1) := by decide +kernel
theorem dX2_longestChainFrom_33 : decode cX2_longestChainFrom 33 = .ok (.invokestatic 123, 3) := by decide +kernel
theorem dX2_longestChainFrom_36 : decode cX2_longestChainFrom 36 = .ok (.istore_n 2, 1) := by decide +kernel
theorem dX2_longestChainFrom_37 : decode cX2_longestChainFrom 37 = .ok (.iinc 3 1, 3) := by decide +kernel
theorem dX2_longestChainFrom_40 : decode cX2_longestChainFrom 40 = .ok (.goto (-36), 3) := by decide +kernel
theorem dX2_longestChainFrom_43 : decode cX2_longestChainFrom 43 = .ok (.iload_n 2, 1) := by decide +kernel
theorem dX2_longestChainFrom_44 : decode cX2_longestChainFrom 44 = .ok (.ireturn, 1) := by decide +kernel
set_option maxRecDepth 20000 in
theorem ggX2_roomTried_X0_set : GoodIn wsX2_roomTried wsX0_set := goodIn_r _ [7, 8, 9, 10, 11, 6, 12, 13, 58, 59] rfl (by decide +kernel)
set_option maxRecDepth 20000 in
theorem gX2_roomTried_X0_set : GoodIn wsX2_roomTried (wsV RX2 81 RX0 yX0_set wsX0_set) := goodIn_app (goodIn_of _ (by decide +kernel)) ggX2_roomTried_X0_set
set_option maxRecDepth 20000 in
theorem ggX2_roomTried_X1_choose : GoodIn wsX2_roomTried wsX1_choose := goodIn_r _ [18, 19, 20, 21, 22, 23, 24, 6, 25, 13, 26, 27, 28, 17, 29, 30, 31, 32, 33, 34, 35, 36, 37, 38, 39, 40, 8, 9, 10, 11, 12, 41, 42, 43, 44, 60, 61, 62, 58, 59] rfl (by decide +kernel)
set_option maxRecDepth 20000 in
theorem gX2_roomTried_X1_choose : GoodIn wsX2_roomTried (wsV RX2 136 RX1 yX1_choose wsX1_choose) := goodIn_app (goodIn_of _ (by decide +kernel)) ggX2_roomTried_X1_choose
set_option maxRecDepth 20000 in
theorem ggX2_roomTried_X1_roomOf : GoodIn wsX2_roomTried wsX1_roomOf := goodIn_r _ [48, 21, 60, 61, 62] rfl (by decide +kernel)
set_option maxRecDepth 20000 in
theorem gX2_roomTried_X1_roomOf : GoodIn wsX2_roomTried (wsV RX2 92 RX1 yX1_roomOf wsX1_roomOf) := goodIn_app (goodIn_of _ (by decide +kernel)) ggX2_roomTried_X1_roomOf
theorem dX2_roomTried_0 : decode cX2_roomTried 0 = .ok (.aload_n 0, 1) := by decide +kernel
theorem dX2_roomTried_1 : decode cX2_roomTried 1 = .ok (.getfield 23, 3) := by decide +kernel
theorem dX2_roomTried_4 : decode cX2_roomTried 4 = .ok (.iload_n 1, 1) := by decide +kernel
theorem dX2_roomTried_5 : decode cX2_roomTried 5 = .ok (.iload_n 2, 1) := by decide +kernel
theorem dX2_roomTried_6 : decode cX2_roomTried 6 = .ok (.iload_n 3, 1) := by decide +kernel
theorem dX2_roomTried_7 : decode cX2_roomTried 7 = .ok (.invokevirtual 81, 3) := by decide +kernel
theorem dX2_roomTried_10 : decode cX2_roomTried 10 = .ok (.aload_n 0, 1) := by decide +kernel
theorem dX2_roomTried_11 : decode cX2_roomTried 11 = .ok (.getfield 26, 3) := by decide +kernel
theorem dX2_roomTried_14 : decode cX2_roomTried 14 = .ok (.aload_n 0, 1) := by decide +kernel
theorem dX2_roomTried_15 : decode cX2_roomTried 15 = .ok (.getfield 23, 3) := by decide +kernel
theorem dX2_roomTried_18 : decode cX2_roomTried 18 = .ok (.invokevirtual 136, 3) := by decide +kernel
theorem dX2_roomTried_21 : decode cX2_roomTried 21 = .ok (.aload_n 0, 1) := by decide +kernel
theorem dX2_roomTried_22 : decode cX2_roomTried 22 = .ok (.getfield 26, 3) := by decide +kernel
theorem dX2_roomTried_25 : decode cX2_roomTried 25 = .ok (.iload_n 1, 1) := by decide +kernel
theorem dX2_roomTried_26 : decode cX2_roomTried 26 = .ok (.invokevirtual 92, 3) := by decide +kernel
theorem dX2_roomTried_29 : decode cX2_roomTried 29 = .ok (.ireturn, 1) := by decide +kernel
set_option maxRecDepth 20000 in
theorem ggX2_settleAll_X1_choose : GoodIn wsX2_settleAll wsX1_choose := goodIn_r _ [7, 8, 9, 10, 11, 12, 13, 14, 15, 16, 17, 18, 19, 6, 20, 21, 22, 23, 24, 25, 26, 27, 28, 29, 30, 31, 32, 33, 34, 35, 36, 37, 38, 39, 40, 94, 95, 96, 97, 98] rfl (by decide +kernel)
set_option maxRecDepth 20000 in
theorem gX2_settleAll_X1_choose : GoodIn wsX2_settleAll (wsV RX2 136 RX1 yX1_choose wsX1_choose) := goodIn_app (goodIn_of _ (by decide +kernel)) ggX2_settleAll_X1_choose
set_option maxRecDepth 20000 in
theorem ggX2_settleAll_X2_settleFirstRebates : GoodIn wsX2_settleAll wsX2_settleFirstRebates := goodIn_r _ [45, 2, 46, 47, 12, 13, 14, 15, 16, 48, 49, 50, 44, 51, 1, 52, 53, 54, 55, 56, 57, 58, 59, 60, 34, 35, 36, 61, 62, 63, 64, 65, 66, 67, 6, 68, 10, 69, 29, 30, 31, 32, 33, 85, 86, 87, 88, 89, 90, 91, 92, 93, 97, 98, 94, 95, 96] rfl (by decide +kernel)
set_option maxRecDepth 20000 in
theorem gX2_settleAll_X2_settleFirstRebates : GoodIn wsX2_settleAll (wsV RX2 164 RX2 yX2_settleFirstRebates wsX2_settleFirstRebates) := goodIn_app (goodIn_of _ (by decide +kernel)) ggX2_settleAll_X2_settleFirstRebates
set_option maxRecDepth 20000 in
theorem ggX2_settleAll_X2_settleLeftOver : GoodIn wsX2_settleAll wsX2_settleLeftOver := goodIn_r _ [73, 2, 1, 74, 75, 76, 47, 12, 13, 14, 15, 16, 77, 78, 79, 6, 80, 8, 81, 82, 83, 44, 84, 46, 85, 86, 87, 88, 89, 90, 91, 92, 93, 97, 98, 94, 95, 96] rfl (by decide +kernel)
set_option maxRecDepth 20000 in
theorem gX2_settleAll_X2_settleLeftOver : GoodIn wsX2_settleAll (wsV RX2 87 RX2 yX2_settleLeftOver wsX2_settleLeftOver) := goodIn_app (goodIn_of _ (by decide +kernel)) ggX2_settleAll_X2_settleLeftOver
theorem dX2_settleAll_0 : decode cX2_settleAll 0 = .ok (.aload_n 0, 1) := by decide +kernel
theorem dX2_settleAll_1 : decode cX2_settleAll 1 = .ok (.getfield 19, 3) := by decide +kernel
theorem dX2_settleAll_4 : decode cX2_settleAll 4 = .ok (.aload_n 0, 1) := by decide +kernel
theorem dX2_settleAll_5 : decode cX2_settleAll 5 = .ok (.getfield 10, 3) := by decide +kernel
theorem dX2_settleAll_8 : decode cX2_settleAll 8 = .ok (.invokevirtual 136, 3) := by decide +kernel
theorem dX2_settleAll_11 : decode cX2_settleAll 11 = .ok (.aload_n 0, 1) := by decide +kernel
theorem dX2_settleAll_12 : decode cX2_settleAll 12 = .ok (.invokevirtual 164, 3) := by decide +kernel
theorem dX2_settleAll_15 : decode cX2_settleAll 15 = .ok (.aload_n 0, 1) := by decide +kernel
theorem dX2_settleAll_16 : decode cX2_settleAll 16 = .ok (.invokevirtual 87, 3) := by decide +kernel
theorem dX2_settleAll_19 : decode cX2_settleAll 19 = .ok (.return_, 1) := by decide +kernel
set_option maxRecDepth 20000 in
theorem ggX2_settleFirstRebates_X0_size : GoodIn wsX2_settleFirstRebates wsX0_size := goodIn_r _ [7, 8, 52, 53] rfl (by decide +kernel)
set_option maxRecDepth 20000 in
theorem gX2_settleFirstRebates_X0_size : GoodIn wsX2_settleFirstRebates (wsV RX2 46 RX0 yX0_size wsX0_size) := goodIn_app (goodIn_of _ (by decide +kernel)) ggX2_settleFirstRebates_X0_size
set_option maxRecDepth 20000 in
theorem ggX2_settleFirstRebates_X2_bestOfAllRooms : GoodIn wsX2_settleFirstRebates wsX2_bestOfAllRooms := goodIn_r _ [13, 1, 14, 15, 16, 17, 18, 19, 20, 21, 12, 22, 2, 23, 24, 25, 6, 26, 8, 3, 4, 5, 7, 27, 28, 29, 30, 31, 32, 33, 34, 35, 36, 37, 38, 39, 40, 41, 42, 43, 44, 45, 46, 47, 48, 49, 50, 51, 52, 53, 54, 55, 56] rfl (by decide +kernel)
set_option maxRecDepth 20000 in
theorem gX2_settleFirstRebates_X2_bestOfAllRooms : GoodIn wsX2_settleFirstRebates (wsV RX2 167 RX2 yX2_bestOfAllRooms wsX2_bestOfAllRooms) := goodIn_app (goodIn_of _ (by decide +kernel)) ggX2_settleFirstRebates_X2_bestOfAllRooms
theorem dX2_settleFirstRebates_0 : decode cX2_settleFirstRebates 0 = .ok (.aload_n 0, 1) := by decide +kernel
theorem dX2_settleFirstRebates_1 : decode cX2_settleFirstRebates 1 = .ok (.getfield 10, 3) := by decide +kernel
theorem dX2_settleFirstRebates_4 : decode cX2_settleFirstRebates 4 = .ok (.invokevirtual 46, 3) := by decide +kernel
theorem dX2_settleFirstRebates_7 : decode cX2_settleFirstRebates 7 = .ok (.istore_n 1, 1) := by decide +kernel
theorem dX2_settleFirstRebates_8 : decode cX2_settleFirstRebates 8 = .ok (.iconst 0, 1) := by decide +kernel
theorem dX2_settleFirstRebates_9 : decode cX2_settleFirstRebates 9 = .ok (.istore_n 2, 1) := by decide +kernel
theorem dX2_settleFirstRebates_10 : decode cX2_settleFirstRebates 10 = .ok (.iload_n 2, 1) := by decide +kernel
theorem dX2_settleFirstRebates_11 : decode cX2_settleFirstRebates 11 = .ok (.iload_n 1, 1) := by decide +kernel
theorem dX2_settleFirstRebates_12 : decode cX2_settleFirstRebates 12 = .ok (.if_icmp .ge 16, 3) := by decide +kernel
theorem dX2_settleFirstRebates_15 : decode cX2_settleFirstRebates 15 = .ok (.aload_n 0, 1) := by decide +kernel
theorem dX2_settleFirstRebates_16 : decode cX2_settleFirstRebates 16 = .ok (.getfield 29, 3) := by decide +kernel
theorem dX2_settleFirstRebates_19 : decode cX2_settleFirstRebates 19 = .ok (.iload_n 2, 1) := by decide +kernel
theorem dX2_settleFirstRebates_20 : decode cX2_settleFirstRebates 20 = .ok (.iconst 0, 1) := by decide +kernel
theorem dX2_settleFirstRebates_21 : decode cX2_settleFirstRebates 21 = .ok (.iastore, 1) := by decide +kernel
theorem dX2_settleFirstRebates_22 : decode cX2_settleFirstRebates 22 = .ok (.iinc 2 1, 3) := by decide +kernel
theorem dX2_settleFirstRebates_25 : decode cX2_settleFirstRebates 25 = .ok (.goto (-15), 3) := by decide +kernel
theorem dX2_settleFirstRebates_28 : decode cX2_settleFirstRebates 28 = .ok (.iconst 1, 1) := by decide +kernel
theorem dX2_settleFirstRebates_29 : decode cX2_settleFirstRebates 29 = .ok (.istore_n 2, 1) := by decide +kernel
theorem dX2_settleFirstRebates_30 : decode cX2_settleFirstRebates 30 = .ok (.iload_n 2, 1) := by decide +kernel
theorem dX2_settleFirstRebates_31 : decode cX2_settleFirstRebates 31 = .ok (.iload_n 1, 1) := by decide +kernel
theorem dX2_settleFirstRebates_32 : decode cX2_settleFirstRebates 32 = .ok (.if_icmp .ge 33, 3) := by decide +kernel
theorem dX2_settleFirstRebates_35 : decode cX2_settleFirstRebates 35 = .ok (.iconst 0, 1) := by decide +kernel
theorem dX2_settleFirstRebates_36 : decode cX2_settleFirstRebates 36 = .ok (.istore_n 3, 1) := by decide +kernel
theorem dX2_settleFirstRebates_37 : decode cX2_settleFirstRebates 37 = .ok (.iload_n 3, 1) := by decide +kernel
theorem dX2_settleFirstRebates_38 : decode cX2_settleFirstRebates 38 = .ok (.iload_n 1, 1) := by decide +kernel
theorem dX2_settleFirstRebates_39 : decode cX2_settleFirstRebates 39 = .ok (.if_icmp .ge 20, 3) := by decide +kernel
theorem dX2_settleFirstRebates_42 : decode cX2_settleFirstRebates 42 = .ok (.aload_n 0, 1) := by decide +kernel
theorem dX2_settleFirstRebates_43 : decode cX2_settleFirstRebates 43 = .ok (.getfield 29, 3) := by decide +kernel
theorem dX2_settleFirstRebates_46 : decode cX2_settleFirstRebates 46 = .ok (.iload_n 3, 1) := by decide +kernel
theorem dX2_settleFirstRebates_47 : decode cX2_settleFirstRebates 47 = .ok (.aload_n 0, 1) := by decide +kernel
theorem dX2_settleFirstRebates_48 : decode cX2_settleFirstRebates 48 = .ok (.iload_n 3, 1) := by decide +kernel
theorem dX2_settleFirstRebates_49 : decode cX2_settleFirstRebates 49 = .ok (.invokevirtual 167, 3) := by decide +kernel
theorem dX2_settleFirstRebates_52 : decode cX2_settleFirstRebates 52 = .ok (.iastore, 1) := by decide +kernel
theorem dX2_settleFirstRebates_53 : decode cX2_settleFirstRebates 53 = .ok (.iinc 3 1, 3) := by decide +kernel
theorem dX2_settleFirstRebates_56 : decode cX2_settleFirstRebates 56 = .ok (.goto (-19), 3) := by decide +kernel
theorem dX2_settleFirstRebates_59 : decode cX2_settleFirstRebates 59 = .ok (.iinc 2 1, 3) := by decide +kernel
theorem dX2_settleFirstRebates_62 : decode cX2_settleFirstRebates 62 = .ok (.goto (-32), 3) := by decide +kernel
theorem dX2_settleFirstRebates_65 : decode cX2_settleFirstRebates 65 = .ok (.return_, 1) := by decide +kernel
set_option maxRecDepth 20000 in
theorem ggX2_bestOfAllRooms_X2_firstRebateOf : GoodIn wsX2_bestOfAllRooms wsX2_firstRebateOf := goodIn_r _ [11, 1, 12, 13, 14, 15, 16, 17, 18, 39, 40, 41, 42, 43, 44, 45, 46, 47, 48, 49] rfl (by decide +kernel)
set_option maxRecDepth 20000 in
theorem gX2_bestOfAllRooms_X2_firstRebateOf : GoodIn wsX2_bestOfAllRooms (wsV RX2 152 RX2 yX2_firstRebateOf wsX2_firstRebateOf) := goodIn_app (goodIn_of _ (by decide +kernel)) ggX2_bestOfAllRooms_X2_firstRebateOf
set_option maxRecDepth 20000 in
theorem ggX2_bestOfAllRooms_X0_size : GoodIn wsX2_bestOfAllRooms wsX0_size := goodIn_r _ [22, 18, 48, 49] rfl (by decide +kernel)
set_option maxRecDepth 20000 in
theorem gX2_bestOfAllRooms_X0_size : GoodIn wsX2_bestOfAllRooms (wsV RX2 46 RX0 yX0_size wsX0_size) := goodIn_app (goodIn_of _ (by decide +kernel)) ggX2_bestOfAllRooms_X0_size
set_option maxRecDepth 20000 in
theorem ggX2_bestOfAllRooms_X2_ownBidOf : GoodIn wsX2_bestOfAllRooms wsX2_ownBidOf := goodIn_r _ [26, 1, 2, 27, 28, 29, 30, 31, 32, 33, 34, 35, 16, 36, 37, 38, 14, 15, 17, 18, 39, 40, 41, 42, 43, 44, 45, 46, 47, 50, 51, 52, 48, 49] rfl (by decide +kernel)
set_option maxRecDepth 20000 in
theorem gX2_bestOfAllRooms_X2_ownBidOf : GoodIn wsX2_bestOfAllRooms (wsV RX2 149 RX2 yX2_ownBidOf wsX2_ownBidOf) := goodIn_app (goodIn_of _ (by decide +kernel)) ggX2_bestOfAllRooms_X2_ownBidOf
set_option maxRecDepth 20000 in
theorem ggX2_bestOfAllRooms_X1_roomOf : GoodIn wsX2_bestOfAllRooms wsX1_roomOf := goodIn_r _ [31, 32, 50, 51, 52] rfl (by decide +kernel)
set_option maxRecDepth 20000 in
theorem gX2_bestOfAllRooms_X1_roomOf : GoodIn wsX2_bestOfAllRooms (wsV RX2 92 RX1 yX1_roomOf wsX1_roomOf) := goodIn_app (goodIn_of _ (by decide +kernel)) ggX2_bestOfAllRooms_X1_roomOf
set_option maxRecDepth 20000 in
theorem ggX2_bestOfAllRooms_X0_of : GoodIn wsX2_bestOfAllRooms wsX0_of := goodIn_r _ [36, 37, 38, 14, 15, 16, 17, 18, 48, 49] rfl (by decide +kernel)
set_option maxRecDepth 20000 in
theorem gX2_bestOfAllRooms_X0_of : GoodIn wsX2_bestOfAllRooms (wsV RX2 77 RX0 yX0_of wsX0_of) := goodIn_app (goodIn_of _ (by decide +kernel)) ggX2_bestOfAllRooms_X0_of
theorem dX2_bestOfAllRooms_0 : decode cX2_bestOfAllRooms 0 = .ok (.aload_n 0, 1) := by decide +kernel
theorem dX2_bestOfAllRooms_1 : decode cX2_bestOfAllRooms 1 = .ok (.iload_n 1, 1) := by decide +kernel
theorem dX2_bestOfAllRooms_2 : decode cX2_bestOfAllRooms 2 = .ok (.invokevirtual 152, 3) := by decide +kernel
theorem dX2_bestOfAllRooms_5 : decode cX2_bestOfAllRooms 5 = .ok (.istore_n 2, 1) := by decide +kernel
theorem dX2_bestOfAllRooms_6 : decode cX2_bestOfAllRooms 6 = .ok (.iconst 0, 1) := by decide +kernel
theorem dX2_bestOfAllRooms_7 : decode cX2_bestOfAllRooms 7 = .ok (.istore_n 3, 1) := by decide +kernel
theorem dX2_bestOfAllRooms_8 : decode cX2_bestOfAllRooms 8 = .ok (.iload_n 3, 1) := by decide +kernel
theorem dX2_bestOfAllRooms_9 : decode cX2_bestOfAllRooms 9 = .ok (.aload_n 0, 1) := by decide +kernel
theorem dX2_bestOfAllRooms_10 : decode cX2_bestOfAllRooms 10 = .ok (.getfield 10, 3) := by decide +kernel
theorem dX2_bestOfAllRooms_13 : decode cX2_bestOfAllRooms 13 = .ok (.invokevirtual 46, 3) := by decide +kernel
theorem dX2_bestOfAllRooms_16 : decode cX2_bestOfAllRooms 16 = .ok (.if_icmp .ge 46, 3) := by decide +kernel
theorem dX2_bestOfAllRooms_19 : decode cX2_bestOfAllRooms 19 = .ok (.aload_n 0, 1) := by decide +kernel
theorem dX2_bestOfAllRooms_20 : decode cX2_bestOfAllRooms 20 = .ok (.iload_n 3, 1) := by decide +kernel
theorem dX2_bestOfAllRooms_21 : decode cX2_bestOfAllRooms 21 = .ok (.invokevirtual 149, 3) := by decide +kernel
theorem dX2_bestOfAllRooms_24 : decode cX2_bestOfAllRooms 24 = .ok (.aload_n 0, 1) := by decide +kernel
theorem dX2_bestOfAllRooms_25 : decode cX2_bestOfAllRooms 25 = .ok (.iload_n 3, 1) := by decide +kernel
theorem dX2_bestOfAllRooms_26 : decode cX2_bestOfAllRooms 26 = .ok (.invokevirtual 152, 3) := by decide +kernel
theorem dX2_bestOfAllRooms_29 : decode cX2_bestOfAllRooms 29 = .ok (.isub, 1) := by decide +kernel
theorem dX2_bestOfAllRooms_30 : decode cX2_bestOfAllRooms 30 = .ok (.istore 4, 2) := by decide +kernel
theorem dX2_bestOfAllRooms_32 : decode cX2_bestOfAllRooms 32 = .ok (.iload_n 2, 1) := by decide +kernel
theorem dX2_bestOfAllRooms_33 : decode cX2_bestOfAllRooms 33 = .ok (.aload_n 0, 1) := by decide +kernel
theorem dX2_bestOfAllRooms_34 : decode cX2_bestOfAllRooms 34 = .ok (.getfield 10, 3) := by decide +kernel
theorem dX2_bestOfAllRooms_37 : decode cX2_bestOfAllRooms 37 = .ok (.iload_n 1, 1) := by decide +kernel
theorem dX2_bestOfAllRooms_38 : decode cX2_bestOfAllRooms 38 = .ok (.aload_n 0, 1) := by decide +kernel
theorem dX2_bestOfAllRooms_39 : decode cX2_bestOfAllRooms 39 = .ok (.getfield 19, 3) := by decide +kernel
theorem dX2_bestOfAllRooms_42 : decode cX2_bestOfAllRooms 42 = .ok (.iload_n 3, 1) := by decide +kernel
theorem dX2_bestOfAllRooms_43 : decode cX2_bestOfAllRooms 43 = .ok (.invokevirtual 92, 3) := by decide +kernel
theorem dX2_bestOfAllRooms_46 : decode cX2_bestOfAllRooms 46 = .ok (.invokevirtual 77, 3) := by decide +kernel
theorem dX2_bestOfAllRooms_49 : decode cX2_bestOfAllRooms 49 = .ok (.iload 4, 2) := by decide +kernel
theorem dX2_bestOfAllRooms_51 : decode cX2_bestOfAllRooms 51 = .ok (.isub, 1) := by decide +kernel
theorem dX2_bestOfAllRooms_52 : decode cX2_bestOfAllRooms 52 = .ok (.invokestatic 123, 3) := by decide +kernel
theorem dX2_bestOfAllRooms_55 : decode cX2_bestOfAllRooms 55 = .ok (.istore_n 2, 1) := by decide +kernel
theorem dX2_bestOfAllRooms_56 : decode cX2_bestOfAllRooms 56 = .ok (.iinc 3 1, 3) := by decide +kernel
theorem dX2_bestOfAllRooms_59 : decode cX2_bestOfAllRooms 59 = .ok (.goto (-51), 3) := by decide +kernel
theorem dX2_bestOfAllRooms_62 : decode cX2_bestOfAllRooms 62 = .ok (.iload_n 2, 1) := by decide +kernel
theorem dX2_bestOfAllRooms_63 : decode cX2_bestOfAllRooms 63 = .ok (.ireturn, 1) := by decide +kernel
set_option maxRecDepth 20000 in
theorem ggX2_settleLeftOver_X0_size : GoodIn wsX2_settleLeftOver wsX0_size := goodIn_r _ [10, 11, 33, 34] rfl (by decide +kernel)
set_option maxRecDepth 20000 in
theorem gX2_settleLeftOver_X0_size : GoodIn wsX2_settleLeftOver (wsV RX2 46 RX0 yX0_size wsX0_size) := goodIn_app (goodIn_of _ (by decide +kernel)) ggX2_settleLeftOver_X0_size
set_option maxRecDepth 20000 in
theorem ggX2_settleLeftOver_X1_worth : GoodIn wsX2_settleLeftOver wsX1_worth := goodIn_r _ [16, 17, 35, 36, 37] rfl (by decide +kernel)
set_option maxRecDepth 20000 in
theorem gX2_settleLeftOver_X1_worth : GoodIn wsX2_settleLeftOver (wsV RX2 139 RX1 yX1_worth wsX1_worth) := goodIn_app (goodIn_of _ (by decide +kernel)) ggX2_settleLeftOver_X1_worth
set_option maxRecDepth 20000 in
theorem ggX2_settleLeftOver_X2_allFirstRebates : GoodIn wsX2_settleLeftOver wsX2_allFirstRebates := goodIn_r _ [22, 1, 23, 6, 7, 8, 9, 10, 11, 24, 25, 26, 27, 28, 29, 30, 31, 32, 33, 34] rfl (by decide +kernel)
set_option maxRecDepth 20000 in
theorem gX2_settleLeftOver_X2_allFirstRebates : GoodIn wsX2_settleLeftOver (wsV RX2 158 RX2 yX2_allFirstRebates wsX2_allFirstRebates) := goodIn_app (goodIn_of _ (by decide +kernel)) ggX2_settleLeftOver_X2_allFirstRebates
theorem dX2_settleLeftOver_0 : decode cX2_settleLeftOver 0 = .ok (.aload_n 0, 1) := by decide +kernel
theorem dX2_settleLeftOver_1 : decode cX2_settleLeftOver 1 = .ok (.getfield 10, 3) := by decide +kernel
theorem dX2_settleLeftOver_4 : decode cX2_settleLeftOver 4 = .ok (.invokevirtual 46, 3) := by decide +kernel
theorem dX2_settleLeftOver_7 : decode cX2_settleLeftOver 7 = .ok (.istore_n 1, 1) := by decide +kernel
theorem dX2_settleLeftOver_8 : decode cX2_settleLeftOver 8 = .ok (.aload_n 0, 1) := by decide +kernel
theorem dX2_settleLeftOver_9 : decode cX2_settleLeftOver 9 = .ok (.getfield 19, 3) := by decide +kernel
theorem dX2_settleLeftOver_12 : decode cX2_settleLeftOver 12 = .ok (.invokevirtual 139, 3) := by decide +kernel
theorem dX2_settleLeftOver_15 : decode cX2_settleLeftOver 15 = .ok (.aload_n 0, 1) := by decide +kernel
theorem dX2_settleLeftOver_16 : decode cX2_settleLeftOver 16 = .ok (.getfield 36, 3) := by decide +kernel
theorem dX2_settleLeftOver_19 : decode cX2_settleLeftOver 19 = .ok (.isub, 1) := by decide +kernel
theorem dX2_settleLeftOver_20 : decode cX2_settleLeftOver 20 = .ok (.aload_n 0, 1) := by decide +kernel
theorem dX2_settleLeftOver_21 : decode cX2_settleLeftOver 21 = .ok (.invokevirtual 158, 3) := by decide +kernel
theorem dX2_settleLeftOver_24 : decode cX2_settleLeftOver 24 = .ok (.isub, 1) := by decide +kernel
theorem dX2_settleLeftOver_25 : decode cX2_settleLeftOver 25 = .ok (.istore_n 2, 1) := by decide +kernel
theorem dX2_settleLeftOver_26 : decode cX2_settleLeftOver 26 = .ok (.aload_n 0, 1) := by decide +kernel
theorem dX2_settleLeftOver_27 : decode cX2_settleLeftOver 27 = .ok (.iload_n 2, 1) := by decide +kernel
theorem dX2_settleLeftOver_28 : decode cX2_settleLeftOver 28 = .ok (.ifCond .le 13, 3) := by decide +kernel
theorem dX2_settleLeftOver_31 : decode cX2_settleLeftOver 31 = .ok (.iload_n 1, 1) := by decide +kernel
theorem dX2_settleLeftOver_32 : decode cX2_settleLeftOver 32 = .ok (.ifCond .le 9, 3) := by decide +kernel
theorem dX2_settleLeftOver_35 : decode cX2_settleLeftOver 35 = .ok (.iload_n 2, 1) := by decide +kernel
theorem dX2_settleLeftOver_36 : decode cX2_settleLeftOver 36 = .ok (.iload_n 1, 1) := by decide +kernel
theorem dX2_settleLeftOver_37 : decode cX2_settleLeftOver 37 = .ok (.idiv, 1) := by decide +kernel
theorem dX2_settleLeftOver_38 : decode cX2_settleLeftOver 38 = .ok (.goto 4, 3) := by decide +kernel
theorem dX2_settleLeftOver_41 : decode cX2_settleLeftOver 41 = .ok (.iconst 0, 1) := by decide +kernel
theorem dX2_settleLeftOver_42 : decode cX2_settleLeftOver 42 = .ok (.putfield 40, 3) := by decide +kernel
theorem dX2_settleLeftOver_45 : decode cX2_settleLeftOver 45 = .ok (.aload_n 0, 1) := by decide +kernel
theorem dX2_settleLeftOver_46 : decode cX2_settleLeftOver 46 = .ok (.iload_n 2, 1) := by decide +kernel
theorem dX2_settleLeftOver_47 : decode cX2_settleLeftOver 47 = .ok (.aload_n 0, 1) := by decide +kernel
theorem dX2_settleLeftOver_48 : decode cX2_settleLeftOver 48 = .ok (.getfield 40, 3) := by decide +kernel
theorem dX2_settleLeftOver_51 : decode cX2_settleLeftOver 51 = .ok (.iload_n 1, 1) := by decide +kernel
theorem dX2_settleLeftOver_52 : decode cX2_settleLeftOver 52 = .ok (.imul, 1) := by decide +kernel
theorem dX2_settleLeftOver_53 : decode cX2_settleLeftOver 53 = .ok (.isub, 1) := by decide +kernel
theorem dX2_settleLeftOver_54 : decode cX2_settleLeftOver 54 = .ok (.putfield 43, 3) := by decide +kernel
theorem dX2_settleLeftOver_57 : decode cX2_settleLeftOver 57 = .ok (.return_, 1) := by decide +kernel
