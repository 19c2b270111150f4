theorem dX1_init_0 : decode cX1_init 0 = .ok (.aload_n 0, 1) := by decide +kernel
theorem dX1_init_1 : decode cX1_init 1 = .ok (.invokespecial 3, 3) := by decide +kernel
theorem dX1_init_4 : decode cX1_init 4 = .ok (.aload_n 0, 1) := by decide +kernel
theorem dX1_init_5 : decode cX1_init 5 = .ok (.bipush 64, 2) := by decide +kernel
theorem dX1_init_7 : decode cX1_init 7 = .ok (.newarray .int, 2) := by decide +kernel
theorem dX1_init_9 : decode cX1_init 9 = .ok (.putfield 9, 3) := by decide +kernel
theorem dX1_init_12 : decode cX1_init 12 = .ok (.aload_n 0, 1) := by decide +kernel
theorem dX1_init_13 : decode cX1_init 13 = .ok (.bipush 64, 2) := by decide +kernel
theorem dX1_init_15 : decode cX1_init 15 = .ok (.newarray .int, 2) := by decide +kernel
theorem dX1_init_17 : decode cX1_init 17 = .ok (.putfield 15, 3) := by decide +kernel
theorem dX1_init_20 : decode cX1_init 20 = .ok (.aload_n 0, 1) := by decide +kernel
theorem dX1_init_21 : decode cX1_init 21 = .ok (.bipush 6, 2) := by decide +kernel
theorem dX1_init_23 : decode cX1_init 23 = .ok (.newarray .int, 2) := by decide +kernel
theorem dX1_init_25 : decode cX1_init 25 = .ok (.putfield 18, 3) := by decide +kernel
theorem dX1_init_28 : decode cX1_init 28 = .ok (.aload_n 0, 1) := by decide +kernel
theorem dX1_init_29 : decode cX1_init 29 = .ok (.getfield 15, 3) := by decide +kernel
theorem dX1_init_32 : decode cX1_init 32 = .ok (.iconst 0, 1) := by decide +kernel
theorem dX1_init_33 : decode cX1_init 33 = .ok (.iconst 1, 1) := by decide +kernel
theorem dX1_init_34 : decode cX1_init 34 = .ok (.iastore, 1) := by decide +kernel
theorem dX1_init_35 : decode cX1_init 35 = .ok (.return_, 1) := by decide +kernel
theorem dX1_worth_0 : decode cX1_worth 0 = .ok (.aload_n 0, 1) := by decide +kernel
theorem dX1_worth_1 : decode cX1_worth 1 = .ok (.getfield 9, 3) := by decide +kernel
theorem dX1_worth_4 : decode cX1_worth 4 = .ok (.iconst 0, 1) := by decide +kernel
theorem dX1_worth_5 : decode cX1_worth 5 = .ok (.iaload, 1) := by decide +kernel
theorem dX1_worth_6 : decode cX1_worth 6 = .ok (.ireturn, 1) := by decide +kernel
theorem dX1_ways_0 : decode cX1_ways 0 = .ok (.aload_n 0, 1) := by decide +kernel
theorem dX1_ways_1 : decode cX1_ways 1 = .ok (.getfield 15, 3) := by decide +kernel
theorem dX1_ways_4 : decode cX1_ways 4 = .ok (.iconst 0, 1) := by decide +kernel
theorem dX1_ways_5 : decode cX1_ways 5 = .ok (.iaload, 1) := by decide +kernel
theorem dX1_ways_6 : decode cX1_ways 6 = .ok (.ireturn, 1) := by decide +kernel
theorem dX1_roomOf_0 : decode cX1_roomOf 0 = .ok (.iload_n 1, 1) := by decide +kernel
theorem dX1_roomOf_1 : decode cX1_roomOf 1 = .ok (.ifCond .lt 21, 3) := by decide +kernel
theorem dX1_roomOf_4 : decode cX1_roomOf 4 = .ok (.iload_n 1, 1) := by decide +kernel
theorem dX1_roomOf_5 : decode cX1_roomOf 5 = .ok (.aload_n 0, 1) := by decide +kernel
theorem dX1_roomOf_6 : decode cX1_roomOf 6 = .ok (.getfield 18, 3) := by decide +kernel
theorem dX1_roomOf_9 : decode cX1_roomOf 9 = .ok (.arraylength, 1) := by decide +kernel
theorem dX1_roomOf_10 : decode cX1_roomOf 10 = .ok (.if_icmp .ge 12, 3) := by decide +kernel
theorem dX1_roomOf_13 : decode cX1_roomOf 13 = .ok (.aload_n 0, 1) := by decide +kernel
theorem dX1_roomOf_14 : decode cX1_roomOf 14 = .ok (.getfield 18, 3) := by decide +kernel
theorem dX1_roomOf_17 : decode cX1_roomOf 17 = .ok (.iload_n 1, 1) := by decide +kernel
theorem dX1_roomOf_18 : decode cX1_roomOf 18 = .ok (.iaload, 1) := by decide +kernel
theorem dX1_roomOf_19 : decode cX1_roomOf 19 = .ok (.goto 4, 3) := by decide +kernel
theorem dX1_roomOf_22 : decode cX1_roomOf 22 = .ok (.iconst 0, 1) := by decide +kernel
theorem dX1_roomOf_23 : decode cX1_roomOf 23 = .ok (.ireturn, 1) := by decide +kernel
set_option maxRecDepth 20000 in
theorem ggX1_choose_X0_size : GoodIn wsX1_choose wsX0_size := goodIn_r _ [8, 9, 38, 39] rfl (by decide +kernel)
set_option maxRecDepth 20000 in
theorem gX1_choose_X0_size : GoodIn wsX1_choose (wsV RX1 21 RX0 yX0_size wsX0_size) := goodIn_app (goodIn_of _ (by decide +kernel)) ggX1_choose_X0_size
set_option maxRecDepth 20000 in
theorem ggX1_choose_X1_weigh : GoodIn wsX1_choose wsX1_weigh := goodIn_r _ [14, 1, 2, 15, 16, 17, 18, 19, 20, 21, 4, 5, 6, 7, 8, 9, 22, 23, 24, 25, 26, 27, 28, 29, 30, 35, 36, 37, 38, 39] rfl (by decide +kernel)
set_option maxRecDepth 20000 in
theorem gX1_choose_X1_weigh : GoodIn wsX1_choose (wsV RX1 27 RX1 yX1_weigh wsX1_weigh) := goodIn_app (goodIn_of _ (by decide +kernel)) ggX1_choose_X1_weigh
set_option maxRecDepth 20000 in
theorem ggX1_choose_X1_firstBestRoom : GoodIn wsX1_choose wsX1_firstBestRoom := goodIn_r _ [34, 1, 4, 5, 6, 7, 8, 9, 22, 23, 24, 25, 26, 27, 28, 29, 30, 35, 36, 37, 38, 39] rfl (by decide +kernel)
set_option maxRecDepth 20000 in
theorem gX1_choose_X1_firstBestRoom : GoodIn wsX1_choose (wsV RX1 31 RX1 yX1_firstBestRoom wsX1_firstBestRoom) := goodIn_app (goodIn_of _ (by decide +kernel)) ggX1_choose_X1_firstBestRoom
theorem dX1_choose_0 : decode cX1_choose 0 = .ok (.iconst 1, 1) := by decide +kernel
theorem dX1_choose_1 : decode cX1_choose 1 = .ok (.aload_n 1, 1) := by decide +kernel
theorem dX1_choose_2 : decode cX1_choose 2 = .ok (.invokevirtual 21, 3) := by decide +kernel
theorem dX1_choose_5 : decode cX1_choose 5 = .ok (.ishl, 1) := by decide +kernel
theorem dX1_choose_6 : decode cX1_choose 6 = .ok (.iconst 1, 1) := by decide +kernel
theorem dX1_choose_7 : decode cX1_choose 7 = .ok (.isub, 1) := by decide +kernel
theorem dX1_choose_8 : decode cX1_choose 8 = .ok (.istore_n 2, 1) := by decide +kernel
theorem dX1_choose_9 : decode cX1_choose 9 = .ok (.aload_n 0, 1) := by decide +kernel
theorem dX1_choose_10 : decode cX1_choose 10 = .ok (.getfield 9, 3) := by decide +kernel
theorem dX1_choose_13 : decode cX1_choose 13 = .ok (.iload_n 2, 1) := by decide +kernel
theorem dX1_choose_14 : decode cX1_choose 14 = .ok (.iconst 0, 1) := by decide +kernel
theorem dX1_choose_15 : decode cX1_choose 15 = .ok (.iastore, 1) := by decide +kernel
theorem dX1_choose_16 : decode cX1_choose 16 = .ok (.aload_n 0, 1) := by decide +kernel
theorem dX1_choose_17 : decode cX1_choose 17 = .ok (.getfield 15, 3) := by decide +kernel
theorem dX1_choose_20 : decode cX1_choose 20 = .ok (.iload_n 2, 1) := by decide +kernel
theorem dX1_choose_21 : decode cX1_choose 21 = .ok (.iconst 1, 1) := by decide +kernel
theorem dX1_choose_22 : decode cX1_choose 22 = .ok (.iastore, 1) := by decide +kernel
theorem dX1_choose_23 : decode cX1_choose 23 = .ok (.iload_n 2, 1) := by decide +kernel
theorem dX1_choose_24 : decode cX1_choose 24 = .ok (.iconst 1, 1) := by decide +kernel
theorem dX1_choose_25 : decode cX1_choose 25 = .ok (.isub, 1) := by decide +kernel
theorem dX1_choose_26 : decode cX1_choose 26 = .ok (.istore_n 3, 1) := by decide +kernel
theorem dX1_choose_27 : decode cX1_choose 27 = .ok (.iload_n 3, 1) := by decide +kernel
theorem dX1_choose_28 : decode cX1_choose 28 = .ok (.ifCond .lt 15, 3) := by decide +kernel
theorem dX1_choose_31 : decode cX1_choose 31 = .ok (.aload_n 0, 1) := by decide +kernel
theorem dX1_choose_32 : decode cX1_choose 32 = .ok (.aload_n 1, 1) := by decide +kernel
theorem dX1_choose_33 : decode cX1_choose 33 = .ok (.iload_n 3, 1) := by decide +kernel
theorem dX1_choose_34 : decode cX1_choose 34 = .ok (.invokevirtual 27, 3) := by decide +kernel
theorem dX1_choose_37 : decode cX1_choose 37 = .ok (.iinc 3 (-1), 3) := by decide +kernel
theorem dX1_choose_40 : decode cX1_choose 40 = .ok (.goto (-13), 3) := by decide +kernel
theorem dX1_choose_43 : decode cX1_choose 43 = .ok (.iconst 0, 1) := by decide +kernel
theorem dX1_choose_44 : decode cX1_choose 44 = .ok (.istore_n 3, 1) := by decide +kernel
theorem dX1_choose_45 : decode cX1_choose 45 = .ok (.iconst 0, 1) := by decide +kernel
theorem dX1_choose_46 : decode cX1_choose 46 = .ok (.istore 4, 2) := by decide +kernel
theorem dX1_choose_48 : decode cX1_choose 48 = .ok (.iload 4, 2) := by decide +kernel
theorem dX1_choose_50 : decode cX1_choose 50 = .ok (.aload_n 1, 1) := by decide +kernel
theorem dX1_choose_51 : decode cX1_choose 51 = .ok (.invokevirtual 21, 3) := by decide +kernel
theorem dX1_choose_54 : decode cX1_choose 54 = .ok (.if_icmp .ge 36, 3) := by decide +kernel
theorem dX1_choose_57 : decode cX1_choose 57 = .ok (.aload_n 0, 1) := by decide +kernel
theorem dX1_choose_58 : decode cX1_choose 58 = .ok (.getfield 18, 3) := by decide +kernel
theorem dX1_choose_61 : decode cX1_choose 61 = .ok (.iload 4, 2) := by decide +kernel
theorem dX1_choose_63 : decode cX1_choose 63 = .ok (.aload_n 0, 1) := by decide +kernel
theorem dX1_choose_64 : decode cX1_choose 64 = .ok (.aload_n 1, 1) := by decide +kernel
theorem dX1_choose_65 : decode cX1_choose 65 = .ok (.iload 4, 2) := by decide +kernel
theorem dX1_choose_67 : decode cX1_choose 67 = .ok (.iload_n 3, 1) := by decide +kernel
theorem dX1_choose_68 : decode cX1_choose 68 = .ok (.invokevirtual 31, 3) := by decide +kernel
theorem dX1_choose_71 : decode cX1_choose 71 = .ok (.iastore, 1) := by decide +kernel
theorem dX1_choose_72 : decode cX1_choose 72 = .ok (.iload_n 3, 1) := by decide +kernel
theorem dX1_choose_73 : decode cX1_choose 73 = .ok (.iconst 1, 1) := by decide +kernel
theorem dX1_choose_74 : decode cX1_choose 74 = .ok (.aload_n 0, 1) := by decide +kernel
theorem dX1_choose_75 : decode cX1_choose 75 = .ok (.getfield 18, 3) := by decide +kernel
theorem dX1_choose_78 : decode cX1_choose 78 = .ok (.iload 4, 2) := by decide +kernel
theorem dX1_choose_80 : decode cX1_choose 80 = .ok (.iaload, 1) := by decide +kernel
theorem dX1_choose_81 : decode cX1_choose 81 = .ok (.ishl, 1) := by decide +kernel
theorem dX1_choose_82 : decode cX1_choose 82 = .ok (.ior, 1) := by decide +kernel
theorem dX1_choose_83 : decode cX1_choose 83 = .ok (.istore_n 3, 1) := by decide +kernel
theorem dX1_choose_84 : decode cX1_choose 84 = .ok (.iinc 4 1, 3) := by decide +kernel
theorem dX1_choose_87 : decode cX1_choose 87 = .ok (.goto (-39), 3) := by decide +kernel
theorem dX1_choose_90 : decode cX1_choose 90 = .ok (.return_, 1) := by decide +kernel
set_option maxRecDepth 20000 in
theorem ggX1_weigh_J6_bitCount_0f7a4 : GoodIn wsX1_weigh wsJ6_bitCount_0f7a4 := goodIn_r _ [6, 7, 8, 9] rfl (by decide +kernel)
set_option maxRecDepth 20000 in
theorem gX1_weigh_J6_bitCount_0f7a4 : GoodIn wsX1_weigh (va_wsS RX1 35 yJ6_bitCount_0f7a4 wsJ6_bitCount_0f7a4) := goodIn_app (goodIn_of _ (by decide +kernel)) ggX1_weigh_J6_bitCount_0f7a4
set_option maxRecDepth 20000 in
theorem ggX1_weigh_X0_size : GoodIn wsX1_weigh wsX0_size := goodIn_r _ [14, 15, 28, 29] rfl (by decide +kernel)
set_option maxRecDepth 20000 in
theorem gX1_weigh_X0_size : GoodIn wsX1_weigh (wsV RX1 21 RX0 yX0_size wsX0_size) := goodIn_app (goodIn_of _ (by decide +kernel)) ggX1_weigh_X0_size
set_option maxRecDepth 20000 in
theorem ggX1_weigh_X0_of : GoodIn wsX1_weigh wsX0_of := goodIn_r _ [19, 20, 21, 22, 23, 13, 24, 15, 28, 29] rfl (by decide +kernel)
set_option maxRecDepth 20000 in
theorem gX1_weigh_X0_of : GoodIn wsX1_weigh (wsV RX1 41 RX0 yX0_of wsX0_of) := goodIn_app (goodIn_of _ (by decide +kernel)) ggX1_weigh_X0_of
theorem dX1_weigh_0 : decode cX1_weigh 0 = .ok (.iload_n 2, 1) := by decide +kernel
theorem dX1_weigh_1 : decode cX1_weigh 1 = .ok (.invokestatic 35, 3) := by decide +kernel
theorem dX1_weigh_4 : decode cX1_weigh 4 = .ok (.istore_n 3, 1) := by decide +kernel
theorem dX1_weigh_5 : decode cX1_weigh 5 = .ok (.iconst (-1), 1) := by decide +kernel
theorem dX1_weigh_6 : decode cX1_weigh 6 = .ok (.istore 4, 2) := by decide +kernel
theorem dX1_weigh_8 : decode cX1_weigh 8 = .ok (.iconst 0, 1) := by decide +kernel
theorem dX1_weigh_9 : decode cX1_weigh 9 = .ok (.istore 5, 2) := by decide +kernel
theorem dX1_weigh_11 : decode cX1_weigh 11 = .ok (.iconst 0, 1) := by decide +kernel
theorem dX1_weigh_12 : decode cX1_weigh 12 = .ok (.istore 6, 2) := by decide +kernel
theorem dX1_weigh_14 : decode cX1_weigh 14 = .ok (.iload 6, 2) := by decide +kernel
theorem dX1_weigh_16 : decode cX1_weigh 16 = .ok (.aload_n 1, 1) := by decide +kernel
theorem dX1_weigh_17 : decode cX1_weigh 17 = .ok (.invokevirtual 21, 3) := by decide +kernel
theorem dX1_weigh_20 : decode cX1_weigh 20 = .ok (.if_icmp .ge 76, 3) := by decide +kernel
theorem dX1_weigh_23 : decode cX1_weigh 23 = .ok (.iload_n 2, 1) := by decide +kernel
theorem dX1_weigh_24 : decode cX1_weigh 24 = .ok (.iload 6, 2) := by decide +kernel
theorem dX1_weigh_26 : decode cX1_weigh 26 = .ok (.ishr, 1) := by decide +kernel
theorem dX1_weigh_27 : decode cX1_weigh 27 = .ok (.iconst 1, 1) := by decide +kernel
theorem dX1_weigh_28 : decode cX1_weigh 28 = .ok (.iand, 1) := by decide +kernel
theorem dX1_weigh_29 : decode cX1_weigh 29 = .ok (.ifCond .ne 61, 3) := by decide +kernel
theorem dX1_weigh_32 : decode cX1_weigh 32 = .ok (.iload_n 2, 1) := by decide +kernel
theorem dX1_weigh_33 : decode cX1_weigh 33 = .ok (.iconst 1, 1) := by decide +kernel
theorem dX1_weigh_34 : decode cX1_weigh 34 = .ok (.iload 6, 2) := by decide +kernel
theorem dX1_weigh_36 : decode cX1_weigh 36 = .ok (.ishl, 1) := by decide +kernel
theorem dX1_weigh_37 : decode cX1_weigh 37 = .ok (.ior, 1) := by decide +kernel
theorem dX1_weigh_38 : decode cX1_weigh 38 = .ok (.istore 7, 2) := by decide +kernel
theorem dX1_weigh_40 : decode cX1_weigh 40 = .ok (.aload_n 1, 1) := by decide +kernel
theorem dX1_weigh_41 : decode cX1_weigh 41 = .ok (.iload_n 3, 1) := by decide +kernel
theorem dX1_weigh_42 : decode cX1_weigh 42 = .ok (.iload 6, 2) := by decide +kernel
theorem dX1_weigh_44 : decode cX1_weigh 44 = .ok (.invokevirtual 41, 3) := by decide +kernel
theorem dX1_weigh_47 : decode cX1_weigh 47 = .ok (.aload_n 0, 1) := by decide +kernel
theorem dX1_weigh_48 : decode cX1_weigh 48 = .ok (.getfield 9, 3) := by decide +kernel
theorem dX1_weigh_51 : decode cX1_weigh 51 = .ok (.iload 7, 2) := by decide +kernel
theorem dX1_weigh_53 : decode cX1_weigh 53 = .ok (.iaload, 1) := by decide +kernel
theorem dX1_weigh_54 : decode cX1_weigh 54 = .ok (.iadd, 1) := by decide +kernel
theorem dX1_weigh_55 : decode cX1_weigh 55 = .ok (.istore 8, 2) := by decide +kernel
theorem dX1_weigh_57 : decode cX1_weigh 57 = .ok (.iload 8, 2) := by decide +kernel
theorem dX1_weigh_59 : decode cX1_weigh 59 = .ok (.iload 4, 2) := by decide +kernel
theorem dX1_weigh_61 : decode cX1_weigh 61 = .ok (.if_icmp .le 10, 3) := by decide +kernel
theorem dX1_weigh_64 : decode cX1_weigh 64 = .ok (.iload 8, 2) := by decide +kernel
theorem dX1_weigh_66 : decode cX1_weigh 66 = .ok (.istore 4, 2) := by decide +kernel
theorem dX1_weigh_68 : decode cX1_weigh 68 = .ok (.iconst 0, 1) := by decide +kernel
theorem dX1_weigh_69 : decode cX1_weigh 69 = .ok (.istore 5, 2) := by decide +kernel
theorem dX1_weigh_71 : decode cX1_weigh 71 = .ok (.iload 8, 2) := by decide +kernel
theorem dX1_weigh_73 : decode cX1_weigh 73 = .ok (.iload 4, 2) := by decide +kernel
theorem dX1_weigh_75 : decode cX1_weigh 75 = .ok (.if_icmp .ne 15, 3) := by decide +kernel
theorem dX1_weigh_78 : decode cX1_weigh 78 = .ok (.iload 5, 2) := by decide +kernel
theorem dX1_weigh_80 : decode cX1_weigh 80 = .ok (.aload_n 0, 1) := by decide +kernel
theorem dX1_weigh_81 : decode cX1_weigh 81 = .ok (.getfield 15, 3) := by decide +kernel
theorem dX1_weigh_84 : decode cX1_weigh 84 = .ok (.iload 7, 2) := by decide +kernel
theorem dX1_weigh_86 : decode cX1_weigh 86 = .ok (.iaload, 1) := by decide +kernel
theorem dX1_weigh_87 : decode cX1_weigh 87 = .ok (.iadd, 1) := by decide +kernel
theorem dX1_weigh_88 : decode cX1_weigh 88 = .ok (.istore 5, 2) := by decide +kernel
theorem dX1_weigh_90 : decode cX1_weigh 90 = .ok (.iinc 6 1, 3) := by decide +kernel
theorem dX1_weigh_93 : decode cX1_weigh 93 = .ok (.goto (-79), 3) := by decide +kernel
theorem dX1_weigh_96 : decode cX1_weigh 96 = .ok (.aload_n 0, 1) := by decide +kernel
theorem dX1_weigh_97 : decode cX1_weigh 97 = .ok (.getfield 9, 3) := by decide +kernel
theorem dX1_weigh_100 : decode cX1_weigh 100 = .ok (.iload_n 2, 1) := by decide +kernel
theorem dX1_weigh_101 : decode cX1_weigh 101 = .ok (.iload 4, 2) := by decide +kernel
theorem dX1_weigh_103 : decode cX1_weigh 103 = .ok (.iastore, 1) := by decide +kernel
theorem dX1_weigh_104 : decode cX1_weigh 104 = .ok (.aload_n 0, 1) := by decide +kernel
theorem dX1_weigh_105 : decode cX1_weigh 105 = .ok (.getfield 15, 3) := by decide +kernel
theorem dX1_weigh_108 : decode cX1_weigh 108 = .ok (.iload_n 2, 1) := by decide +kernel
theorem dX1_weigh_109 : decode cX1_weigh 109 = .ok (.iload 5, 2) := by decide +kernel
theorem dX1_weigh_111 : decode cX1_weigh 111 = .ok (.iastore, 1) := by decide +kernel
theorem dX1_weigh_112 : decode cX1_weigh 112 = .ok (.return_, 1) := by decide +kernel
set_option maxRecDepth 20000 in
theorem ggX1_firstBestRoom_X0_size : GoodIn wsX1_firstBestRoom wsX0_size := goodIn_r _ [6, 7, 20, 21] rfl (by decide +kernel)
set_option maxRecDepth 20000 in
theorem gX1_firstBestRoom_X0_size : GoodIn wsX1_firstBestRoom (wsV RX1 21 RX0 yX0_size wsX0_size) := goodIn_app (goodIn_of _ (by decide +kernel)) ggX1_firstBestRoom_X0_size
set_option maxRecDepth 20000 in
theorem ggX1_firstBestRoom_X0_of : GoodIn wsX1_firstBestRoom wsX0_of := goodIn_r _ [11, 12, 13, 14, 15, 5, 16, 7, 20, 21] rfl (by decide +kernel)
set_option maxRecDepth 20000 in
theorem gX1_firstBestRoom_X0_of : GoodIn wsX1_firstBestRoom (wsV RX1 41 RX0 yX0_of wsX0_of) := goodIn_app (goodIn_of _ (by decide +kernel)) ggX1_firstBestRoom_X0_of
theorem dX1_firstBestRoom_0 : decode cX1_firstBestRoom 0 = .ok (.iconst 0, 1) := by decide +kernel
theorem dX1_firstBestRoom_1 : decode cX1_firstBestRoom 1 = .ok (.istore 4, 2) := by decide +kernel
theorem dX1_firstBestRoom_3 : decode cX1_firstBestRoom 3 = .ok (.iload 4, 2) := by decide +kernel
theorem dX1_firstBestRoom_5 : decode cX1_firstBestRoom 5 = .ok (.aload_n 1, 1) := by decide +kernel
theorem dX1_firstBestRoom_6 : decode cX1_firstBestRoom 6 = .ok (.invokevirtual 21, 3) := by decide +kernel
theorem dX1_firstBestRoom_9 : decode cX1_firstBestRoom 9 = .ok (.if_icmp .ge 49, 3) := by decide +kernel
theorem dX1_firstBestRoom_12 : decode cX1_firstBestRoom 12 = .ok (.iload_n 3, 1) := by decide +kernel
theorem dX1_firstBestRoom_13 : decode cX1_firstBestRoom 13 = .ok (.iload 4, 2) := by decide +kernel
theorem dX1_firstBestRoom_15 : decode cX1_firstBestRoom 15 = .ok (.ishr, 1) := by decide +kernel
theorem dX1_firstBestRoom_16 : decode cX1_firstBestRoom 16 = .ok (.iconst 1, 1) := by decide +kernel
theorem dX1_firstBestRoom_17 : decode cX1_firstBestRoom 17 = .ok (.iand, 1) := by decide +kernel
theorem dX1_firstBestRoom_18 : decode cX1_firstBestRoom 18 = .ok (.ifCond .ne 34, 3) := by decide +kernel
theorem dX1_firstBestRoom_21 : decode cX1_firstBestRoom 21 = .ok (.aload_n 1, 1) := by decide +kernel
theorem dX1_firstBestRoom_22 : decode cX1_firstBestRoom 22 = .ok (.iload_n 2, 1) := by decide +kernel
theorem dX1_firstBestRoom_23 : decode cX1_firstBestRoom 23 = .ok (.iload 4, 2) := by decide +kernel
theorem dX1_firstBestRoom_25 : decode cX1_firstBestRoom 25 = .ok (.invokevirtual 41, 3) := by decide +kernel
theorem dX1_firstBestRoom_28 : decode cX1_firstBestRoom 28 = .ok (.aload_n 0, 1) := by decide +kernel
theorem dX1_firstBestRoom_29 : decode cX1_firstBestRoom 29 = .ok (.getfield 9, 3) := by decide +kernel
theorem dX1_firstBestRoom_32 : decode cX1_firstBestRoom 32 = .ok (.iload_n 3, 1) := by decide +kernel
theorem dX1_firstBestRoom_33 : decode cX1_firstBestRoom 33 = .ok (.iconst 1, 1) := by decide +kernel
theorem dX1_firstBestRoom_34 : decode cX1_firstBestRoom 34 = .ok (.iload 4, 2) := by decide +kernel
theorem dX1_firstBestRoom_36 : decode cX1_firstBestRoom 36 = .ok (.ishl, 1) := by decide +kernel
theorem dX1_firstBestRoom_37 : decode cX1_firstBestRoom 37 = .ok (.ior, 1) := by decide +kernel
theorem dX1_firstBestRoom_38 : decode cX1_firstBestRoom 38 = .ok (.iaload, 1) := by decide +kernel
theorem dX1_firstBestRoom_39 : decode cX1_firstBestRoom 39 = .ok (.iadd, 1) := by decide +kernel
theorem dX1_firstBestRoom_40 : decode cX1_firstBestRoom 40 = .ok (.aload_n 0, 1) := by decide +kernel
theorem dX1_firstBestRoom_41 : decode cX1_firstBestRoom 41 = .ok (.getfield 9, 3) := by decide +kernel
theorem dX1_firstBestRoom_44 : decode cX1_firstBestRoom 44 = .ok (.iload_n 3, 1) := by decide +kernel
theorem dX1_firstBestRoom_45 : decode cX1_firstBestRoom 45 = .ok (.iaload, 1) := by decide +kernel
theorem dX1_firstBestRoom_46 : decode cX1_firstBestRoom 46 = .ok (.if_icmp .ne 6, 3) := by decide +kernel
theorem dX1_firstBestRoom_49 : decode cX1_firstBestRoom 49 = .ok (.iload 4, 2) := by decide +kernel
theorem dX1_firstBestRoom_51 : decode cX1_firstBestRoom 51 = .ok (.ireturn, 1) := by decide +kernel
theorem dX1_firstBestRoom_52 : decode cX1_firstBestRoom 52 = .ok (.iinc 4 1, 3) := by decide +kernel
theorem dX1_firstBestRoom_55 : decode cX1_firstBestRoom 55 = .ok (.goto (-52), 3) := by decide +kernel
theorem dX1_firstBestRoom_58 : decode cX1_firstBestRoom 58 = .ok (.iconst 0, 1) := by decide +kernel
theorem dX1_firstBestRoom_59 : decode cX1_firstBestRoom 59 = .ok (.ireturn, 1) := by decide +kernel
