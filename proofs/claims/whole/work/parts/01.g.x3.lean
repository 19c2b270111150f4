theorem dX3_init_0 : decode cX3_init 0 = .ok (.aload_n 0, 1) := by decide +kernel
theorem dX3_init_1 : decode cX3_init 1 = .ok (.invokespecial 1, 3) := by decide +kernel
theorem dX3_init_4 : decode cX3_init 4 = .ok (.aload_n 0, 1) := by decide +kernel
theorem dX3_init_5 : decode cX3_init 5 = .ok (.bipush 36, 2) := by decide +kernel
theorem dX3_init_7 : decode cX3_init 7 = .ok (.newarray .int, 2) := by decide +kernel
theorem dX3_init_9 : decode cX3_init 9 = .ok (.putfield 9, 3) := by decide +kernel
theorem dX3_init_12 : decode cX3_init 12 = .ok (.aload_n 0, 1) := by decide +kernel
theorem dX3_init_13 : decode cX3_init 13 = .ok (.bipush 6, 2) := by decide +kernel
theorem dX3_init_15 : decode cX3_init 15 = .ok (.newarray .int, 2) := by decide +kernel
theorem dX3_init_17 : decode cX3_init 17 = .ok (.putfield 13, 3) := by decide +kernel
theorem dX3_init_20 : decode cX3_init 20 = .ok (.aload_n 0, 1) := by decide +kernel
theorem dX3_init_21 : decode cX3_init 21 = .ok (.bipush 6, 2) := by decide +kernel
theorem dX3_init_23 : decode cX3_init 23 = .ok (.newarray .int, 2) := by decide +kernel
theorem dX3_init_25 : decode cX3_init 25 = .ok (.putfield 16, 3) := by decide +kernel
theorem dX3_init_28 : decode cX3_init 28 = .ok (.aload_n 0, 1) := by decide +kernel
theorem dX3_init_29 : decode cX3_init 29 = .ok (.bipush 6, 2) := by decide +kernel
theorem dX3_init_31 : decode cX3_init 31 = .ok (.newarray .int, 2) := by decide +kernel
theorem dX3_init_33 : decode cX3_init 33 = .ok (.putfield 19, 3) := by decide +kernel
theorem dX3_init_36 : decode cX3_init 36 = .ok (.aload_n 0, 1) := by decide +kernel
theorem dX3_init_37 : decode cX3_init 37 = .ok (.bipush 6, 2) := by decide +kernel
theorem dX3_init_39 : decode cX3_init 39 = .ok (.newarray .int, 2) := by decide +kernel
theorem dX3_init_41 : decode cX3_init 41 = .ok (.putfield 22, 3) := by decide +kernel
theorem dX3_init_44 : decode cX3_init 44 = .ok (.aload_n 0, 1) := by decide +kernel
theorem dX3_init_45 : decode cX3_init 45 = .ok (.iconst (-1), 1) := by decide +kernel
theorem dX3_init_46 : decode cX3_init 46 = .ok (.putfield 25, 3) := by decide +kernel
theorem dX3_init_49 : decode cX3_init 49 = .ok (.aload_n 0, 1) := by decide +kernel
theorem dX3_init_50 : decode cX3_init 50 = .ok (.iconst (-1), 1) := by decide +kernel
theorem dX3_init_51 : decode cX3_init 51 = .ok (.putfield 29, 3) := by decide +kernel
theorem dX3_init_54 : decode cX3_init 54 = .ok (.aload_n 0, 1) := by decide +kernel
theorem dX3_init_55 : decode cX3_init 55 = .ok (.iconst (-1), 1) := by decide +kernel
theorem dX3_init_56 : decode cX3_init 56 = .ok (.putfield 32, 3) := by decide +kernel
theorem dX3_init_59 : decode cX3_init 59 = .ok (.return_, 1) := by decide +kernel
theorem dX3_thrown_0 : decode cX3_thrown 0 = .ok (.aload_n 0, 1) := by decide +kernel
theorem dX3_thrown_1 : decode cX3_thrown 1 = .ok (.getfield 35, 3) := by decide +kernel
theorem dX3_thrown_4 : decode cX3_thrown 4 = .ok (.ireturn, 1) := by decide +kernel
theorem dX3_fail_0 : decode cX3_fail 0 = .ok (.aload_n 0, 1) := by decide +kernel
theorem dX3_fail_1 : decode cX3_fail 1 = .ok (.iload_n 1, 1) := by decide +kernel
theorem dX3_fail_2 : decode cX3_fail 2 = .ok (.putfield 35, 3) := by decide +kernel
theorem dX3_fail_5 : decode cX3_fail 5 = .ok (.iconst 0, 1) := by decide +kernel
theorem dX3_fail_6 : decode cX3_fail 6 = .ok (.ireturn, 1) := by decide +kernel
theorem dX3_isIn_0 : decode cX3_isIn 0 = .ok (.iload_n 0, 1) := by decide +kernel
theorem dX3_isIn_1 : decode cX3_isIn 1 = .ok (.iload_n 1, 1) := by decide +kernel
theorem dX3_isIn_2 : decode cX3_isIn 2 = .ok (.if_icmp .lt 12, 3) := by decide +kernel
theorem dX3_isIn_5 : decode cX3_isIn 5 = .ok (.iload_n 0, 1) := by decide +kernel
theorem dX3_isIn_6 : decode cX3_isIn 6 = .ok (.iload_n 2, 1) := by decide +kernel
theorem dX3_isIn_7 : decode cX3_isIn 7 = .ok (.if_icmp .gt 7, 3) := by decide +kernel
theorem dX3_isIn_10 : decode cX3_isIn 10 = .ok (.iconst 1, 1) := by decide +kernel
theorem dX3_isIn_11 : decode cX3_isIn 11 = .ok (.goto 4, 3) := by decide +kernel
theorem dX3_isIn_14 : decode cX3_isIn 14 = .ok (.iconst 0, 1) := by decide +kernel
theorem dX3_isIn_15 : decode cX3_isIn 15 = .ok (.ireturn, 1) := by decide +kernel
set_option maxRecDepth 20000 in
theorem ggX3_isOne_X3_isIn : GoodIn wsX3_isOne wsX3_isIn := goodIn_r _ [5] rfl (by decide +kernel)
set_option maxRecDepth 20000 in
theorem gX3_isOne_X3_isIn : GoodIn wsX3_isOne (va_wsS RX3 41 yX3_isIn wsX3_isIn) := goodIn_app (goodIn_of _ (by decide +kernel)) ggX3_isOne_X3_isIn
theorem dX3_isOne_0 : decode cX3_isOne 0 = .ok (.iload_n 1, 1) := by decide +kernel
theorem dX3_isOne_1 : decode cX3_isOne 1 = .ok (.iconst 0, 1) := by decide +kernel
theorem dX3_isOne_2 : decode cX3_isOne 2 = .ok (.aload_n 0, 1) := by decide +kernel
theorem dX3_isOne_3 : decode cX3_isOne 3 = .ok (.getfield 38, 3) := by decide +kernel
theorem dX3_isOne_6 : decode cX3_isOne 6 = .ok (.iconst 1, 1) := by decide +kernel
theorem dX3_isOne_7 : decode cX3_isOne 7 = .ok (.isub, 1) := by decide +kernel
theorem dX3_isOne_8 : decode cX3_isOne 8 = .ok (.invokestatic 41, 3) := by decide +kernel
theorem dX3_isOne_11 : decode cX3_isOne 11 = .ok (.ireturn, 1) := by decide +kernel
theorem dX3_bi_0 : decode cX3_bi 0 = .ok (.aload_n 0, 1) := by decide +kernel
theorem dX3_bi_1 : decode cX3_bi 1 = .ok (.getfield 9, 3) := by decide +kernel
theorem dX3_bi_4 : decode cX3_bi 4 = .ok (.bipush 6, 2) := by decide +kernel
theorem dX3_bi_6 : decode cX3_bi 6 = .ok (.iload_n 1, 1) := by decide +kernel
theorem dX3_bi_7 : decode cX3_bi 7 = .ok (.imul, 1) := by decide +kernel
theorem dX3_bi_8 : decode cX3_bi 8 = .ok (.iload_n 2, 1) := by decide +kernel
theorem dX3_bi_9 : decode cX3_bi 9 = .ok (.iadd, 1) := by decide +kernel
theorem dX3_bi_10 : decode cX3_bi 10 = .ok (.iaload, 1) := by decide +kernel
theorem dX3_bi_11 : decode cX3_bi 11 = .ok (.ireturn, 1) := by decide +kernel
set_option maxRecDepth 20000 in
theorem ggX3_come_X3_fail : GoodIn wsX3_come wsX3_fail := goodIn_r _ [8, 1, 9, 10, 11, 12, 13, 14, 15, 16, 17, 18, 19, 20, 21, 22, 23] rfl (by decide +kernel)
set_option maxRecDepth 20000 in
theorem gX3_come_X3_fail : GoodIn wsX3_come (wsV RX3 45 RX3 yX3_fail wsX3_fail) := goodIn_app (goodIn_of _ (by decide +kernel)) ggX3_come_X3_fail
theorem dX3_come_0 : decode cX3_come 0 = .ok (.aload_n 0, 1) := by decide +kernel
theorem dX3_come_1 : decode cX3_come 1 = .ok (.iconst 0, 1) := by decide +kernel
theorem dX3_come_2 : decode cX3_come 2 = .ok (.putfield 35, 3) := by decide +kernel
theorem dX3_come_5 : decode cX3_come 5 = .ok (.aload_n 0, 1) := by decide +kernel
theorem dX3_come_6 : decode cX3_come 6 = .ok (.getfield 38, 3) := by decide +kernel
theorem dX3_come_9 : decode cX3_come 9 = .ok (.bipush 6, 2) := by decide +kernel
theorem dX3_come_11 : decode cX3_come 11 = .ok (.if_icmp .ne 9, 3) := by decide +kernel
theorem dX3_come_14 : decode cX3_come 14 = .ok (.aload_n 0, 1) := by decide +kernel
theorem dX3_come_15 : decode cX3_come 15 = .ok (.iconst 1, 1) := by decide +kernel
theorem dX3_come_16 : decode cX3_come 16 = .ok (.invokevirtual 45, 3) := by decide +kernel
theorem dX3_come_19 : decode cX3_come 19 = .ok (.ireturn, 1) := by decide +kernel
theorem dX3_come_20 : decode cX3_come 20 = .ok (.iconst 0, 1) := by decide +kernel
theorem dX3_come_21 : decode cX3_come 21 = .ok (.istore_n 1, 1) := by decide +kernel
theorem dX3_come_22 : decode cX3_come 22 = .ok (.iload_n 1, 1) := by decide +kernel
theorem dX3_come_23 : decode cX3_come 23 = .ok (.aload_n 0, 1) := by decide +kernel
theorem dX3_come_24 : decode cX3_come 24 = .ok (.getfield 38, 3) := by decide +kernel
theorem dX3_come_27 : decode cX3_come 27 = .ok (.if_icmp .gt 39, 3) := by decide +kernel
theorem dX3_come_30 : decode cX3_come 30 = .ok (.aload_n 0, 1) := by decide +kernel
theorem dX3_come_31 : decode cX3_come 31 = .ok (.getfield 9, 3) := by decide +kernel
theorem dX3_come_34 : decode cX3_come 34 = .ok (.bipush 6, 2) := by decide +kernel
theorem dX3_come_36 : decode cX3_come 36 = .ok (.iload_n 1, 1) := by decide +kernel
theorem dX3_come_37 : decode cX3_come 37 = .ok (.imul, 1) := by decide +kernel
theorem dX3_come_38 : decode cX3_come 38 = .ok (.aload_n 0, 1) := by decide +kernel
theorem dX3_come_39 : decode cX3_come 39 = .ok (.getfield 38, 3) := by decide +kernel
theorem dX3_come_42 : decode cX3_come 42 = .ok (.iadd, 1) := by decide +kernel
theorem dX3_come_43 : decode cX3_come 43 = .ok (.iconst 0, 1) := by decide +kernel
theorem dX3_come_44 : decode cX3_come 44 = .ok (.iastore, 1) := by decide +kernel
theorem dX3_come_45 : decode cX3_come 45 = .ok (.aload_n 0, 1) := by decide +kernel
theorem dX3_come_46 : decode cX3_come 46 = .ok (.getfield 9, 3) := by decide +kernel
theorem dX3_come_49 : decode cX3_come 49 = .ok (.bipush 6, 2) := by decide +kernel
theorem dX3_come_51 : decode cX3_come 51 = .ok (.aload_n 0, 1) := by decide +kernel
theorem dX3_come_52 : decode cX3_come 52 = .ok (.getfield 38, 3) := by decide +kernel
theorem dX3_come_55 : decode cX3_come 55 = .ok (.imul, 1) := by decide +kernel
theorem dX3_come_56 : decode cX3_come 56 = .ok (.iload_n 1, 1) := by decide +kernel
theorem dX3_come_57 : decode cX3_come 57 = .ok (.iadd, 1) := by decide +kernel
theorem dX3_come_58 : decode cX3_come 58 = .ok (.iconst 0, 1) := by decide +kernel
theorem dX3_come_59 : decode cX3_come 59 = .ok (.iastore, 1) := by decide +kernel
theorem dX3_come_60 : decode cX3_come 60 = .ok (.iinc 1 1, 3) := by decide +kernel
theorem dX3_come_63 : decode cX3_come 63 = .ok (.goto (-41), 3) := by decide +kernel
theorem dX3_come_66 : decode cX3_come 66 = .ok (.aload_n 0, 1) := by decide +kernel
theorem dX3_come_67 : decode cX3_come 67 = .ok (.dup, 1) := by decide +kernel
theorem dX3_come_68 : decode cX3_come 68 = .ok (.getfield 38, 3) := by decide +kernel
theorem dX3_come_71 : decode cX3_come 71 = .ok (.iconst 1, 1) := by decide +kernel
theorem dX3_come_72 : decode cX3_come 72 = .ok (.iadd, 1) := by decide +kernel
theorem dX3_come_73 : decode cX3_come 73 = .ok (.putfield 38, 3) := by decide +kernel
theorem dX3_come_76 : decode cX3_come 76 = .ok (.aload_n 0, 1) := by decide +kernel
theorem dX3_come_77 : decode cX3_come 77 = .ok (.getfield 38, 3) := by decide +kernel
theorem dX3_come_80 : decode cX3_come 80 = .ok (.iconst 1, 1) := by decide +kernel
theorem dX3_come_81 : decode cX3_come 81 = .ok (.isub, 1) := by decide +kernel
theorem dX3_come_82 : decode cX3_come 82 = .ok (.ireturn, 1) := by decide +kernel
set_option maxRecDepth 20000 in
theorem ggX3_bid_X3_isOne : GoodIn wsX3_bid wsX3_isOne := goodIn_r _ [7, 8, 9, 10, 6, 11, 20, 21, 22, 23, 24, 25, 26, 27, 28, 29, 30, 31, 32, 33, 34] rfl (by decide +kernel)
set_option maxRecDepth 20000 in
theorem gX3_bid_X3_isOne : GoodIn wsX3_bid (wsV RX3 49 RX3 yX3_isOne wsX3_isOne) := goodIn_app (goodIn_of _ (by decide +kernel)) ggX3_bid_X3_isOne
set_option maxRecDepth 20000 in
theorem ggX3_bid_X3_fail : GoodIn wsX3_bid wsX3_fail := goodIn_r _ [15, 1, 20, 21, 22, 23, 24, 25, 26, 27, 28, 29, 30, 31, 32, 33, 34] rfl (by decide +kernel)
set_option maxRecDepth 20000 in
theorem gX3_bid_X3_fail : GoodIn wsX3_bid (wsV RX3 45 RX3 yX3_fail wsX3_fail) := goodIn_app (goodIn_of _ (by decide +kernel)) ggX3_bid_X3_fail
set_option maxRecDepth 20000 in
theorem ggX3_bid_X3_isIn : GoodIn wsX3_bid wsX3_isIn := goodIn_r _ [11] rfl (by decide +kernel)
set_option maxRecDepth 20000 in
theorem gX3_bid_X3_isIn : GoodIn wsX3_bid (va_wsS RX3 41 yX3_isIn wsX3_isIn) := goodIn_app (goodIn_of _ (by decide +kernel)) ggX3_bid_X3_isIn
set_option maxRecDepth 20000 in
theorem ggX3_bid_X3_bi : GoodIn wsX3_bid wsX3_bi := goodIn_r _ [19, 2, 20, 21, 22, 23, 24, 25, 26, 27, 28, 29, 30, 31, 32, 33, 34] rfl (by decide +kernel)
set_option maxRecDepth 20000 in
theorem gX3_bid_X3_bi : GoodIn wsX3_bid (wsV RX3 53 RX3 yX3_bi wsX3_bi) := goodIn_app (goodIn_of _ (by decide +kernel)) ggX3_bid_X3_bi
theorem dX3_bid_0 : decode cX3_bid 0 = .ok (.aload_n 0, 1) := by decide +kernel
theorem dX3_bid_1 : decode cX3_bid 1 = .ok (.iconst 0, 1) := by decide +kernel
theorem dX3_bid_2 : decode cX3_bid 2 = .ok (.putfield 35, 3) := by decide +kernel
theorem dX3_bid_5 : decode cX3_bid 5 = .ok (.aload_n 0, 1) := by decide +kernel
theorem dX3_bid_6 : decode cX3_bid 6 = .ok (.iload_n 1, 1) := by decide +kernel
theorem dX3_bid_7 : decode cX3_bid 7 = .ok (.invokevirtual 49, 3) := by decide +kernel
theorem dX3_bid_10 : decode cX3_bid 10 = .ok (.ifCond .eq 11, 3) := by decide +kernel
theorem dX3_bid_13 : decode cX3_bid 13 = .ok (.aload_n 0, 1) := by decide +kernel
theorem dX3_bid_14 : decode cX3_bid 14 = .ok (.iload_n 2, 1) := by decide +kernel
theorem dX3_bid_15 : decode cX3_bid 15 = .ok (.invokevirtual 49, 3) := by decide +kernel
theorem dX3_bid_18 : decode cX3_bid 18 = .ok (.ifCond .ne 9, 3) := by decide +kernel
theorem dX3_bid_21 : decode cX3_bid 21 = .ok (.aload_n 0, 1) := by decide +kernel
theorem dX3_bid_22 : decode cX3_bid 22 = .ok (.iconst 1, 1) := by decide +kernel
theorem dX3_bid_23 : decode cX3_bid 23 = .ok (.invokevirtual 45, 3) := by decide +kernel
theorem dX3_bid_26 : decode cX3_bid 26 = .ok (.ireturn, 1) := by decide +kernel
theorem dX3_bid_27 : decode cX3_bid 27 = .ok (.iload_n 3, 1) := by decide +kernel
theorem dX3_bid_28 : decode cX3_bid 28 = .ok (.iconst 0, 1) := by decide +kernel
theorem dX3_bid_29 : decode cX3_bid 29 = .ok (.sipush 999, 3) := by decide +kernel
theorem dX3_bid_32 : decode cX3_bid 32 = .ok (.invokestatic 41, 3) := by decide +kernel
theorem dX3_bid_35 : decode cX3_bid 35 = .ok (.ifCond .ne 9, 3) := by decide +kernel
theorem dX3_bid_38 : decode cX3_bid 38 = .ok (.aload_n 0, 1) := by decide +kernel
theorem dX3_bid_39 : decode cX3_bid 39 = .ok (.iconst 2, 1) := by decide +kernel
theorem dX3_bid_40 : decode cX3_bid 40 = .ok (.invokevirtual 45, 3) := by decide +kernel
theorem dX3_bid_43 : decode cX3_bid 43 = .ok (.ireturn, 1) := by decide +kernel
theorem dX3_bid_44 : decode cX3_bid 44 = .ok (.aload_n 0, 1) := by decide +kernel
theorem dX3_bid_45 : decode cX3_bid 45 = .ok (.iload_n 1, 1) := by decide +kernel
theorem dX3_bid_46 : decode cX3_bid 46 = .ok (.iload_n 2, 1) := by decide +kernel
theorem dX3_bid_47 : decode cX3_bid 47 = .ok (.invokevirtual 53, 3) := by decide +kernel
theorem dX3_bid_50 : decode cX3_bid 50 = .ok (.istore 4, 2) := by decide +kernel
theorem dX3_bid_52 : decode cX3_bid 52 = .ok (.aload_n 0, 1) := by decide +kernel
theorem dX3_bid_53 : decode cX3_bid 53 = .ok (.getfield 9, 3) := by decide +kernel
theorem dX3_bid_56 : decode cX3_bid 56 = .ok (.bipush 6, 2) := by decide +kernel
theorem dX3_bid_58 : decode cX3_bid 58 = .ok (.iload_n 1, 1) := by decide +kernel
theorem dX3_bid_59 : decode cX3_bid 59 = .ok (.imul, 1) := by decide +kernel
theorem dX3_bid_60 : decode cX3_bid 60 = .ok (.iload_n 2, 1) := by decide +kernel
theorem dX3_bid_61 : decode cX3_bid 61 = .ok (.iadd, 1) := by decide +kernel
theorem dX3_bid_62 : decode cX3_bid 62 = .ok (.iload_n 3, 1) := by decide +kernel
theorem dX3_bid_63 : decode cX3_bid 63 = .ok (.iastore, 1) := by decide +kernel
theorem dX3_bid_64 : decode cX3_bid 64 = .ok (.iload 4, 2) := by decide +kernel
theorem dX3_bid_66 : decode cX3_bid 66 = .ok (.ireturn, 1) := by decide +kernel
set_option maxRecDepth 20000 in
theorem ggX3_rent_X3_isIn : GoodIn wsX3_rent wsX3_isIn := goodIn_r _ [6] rfl (by decide +kernel)
set_option maxRecDepth 20000 in
theorem gX3_rent_X3_isIn : GoodIn wsX3_rent (va_wsS RX3 41 yX3_isIn wsX3_isIn) := goodIn_app (goodIn_of _ (by decide +kernel)) ggX3_rent_X3_isIn
set_option maxRecDepth 20000 in
theorem ggX3_rent_X3_fail : GoodIn wsX3_rent wsX3_fail := goodIn_r _ [10, 1, 11, 12, 13, 14, 15, 16, 17, 18, 19, 20, 21, 22, 23, 24, 25] rfl (by decide +kernel)
set_option maxRecDepth 20000 in
theorem gX3_rent_X3_fail : GoodIn wsX3_rent (wsV RX3 45 RX3 yX3_fail wsX3_fail) := goodIn_app (goodIn_of _ (by decide +kernel)) ggX3_rent_X3_fail
theorem dX3_rent_0 : decode cX3_rent 0 = .ok (.aload_n 0, 1) := by decide +kernel
theorem dX3_rent_1 : decode cX3_rent 1 = .ok (.iconst 0, 1) := by decide +kernel
theorem dX3_rent_2 : decode cX3_rent 2 = .ok (.putfield 35, 3) := by decide +kernel
theorem dX3_rent_5 : decode cX3_rent 5 = .ok (.iload_n 1, 1) := by decide +kernel
theorem dX3_rent_6 : decode cX3_rent 6 = .ok (.iconst 0, 1) := by decide +kernel
theorem dX3_rent_7 : decode cX3_rent 7 = .ok (.sipush 5999, 3) := by decide +kernel
theorem dX3_rent_10 : decode cX3_rent 10 = .ok (.invokestatic 41, 3) := by decide +kernel
theorem dX3_rent_13 : decode cX3_rent 13 = .ok (.ifCond .ne 9, 3) := by decide +kernel
theorem dX3_rent_16 : decode cX3_rent 16 = .ok (.aload_n 0, 1) := by decide +kernel
theorem dX3_rent_17 : decode cX3_rent 17 = .ok (.iconst 1, 1) := by decide +kernel
theorem dX3_rent_18 : decode cX3_rent 18 = .ok (.invokevirtual 45, 3) := by decide +kernel
theorem dX3_rent_21 : decode cX3_rent 21 = .ok (.ireturn, 1) := by decide +kernel
theorem dX3_rent_22 : decode cX3_rent 22 = .ok (.aload_n 0, 1) := by decide +kernel
theorem dX3_rent_23 : decode cX3_rent 23 = .ok (.getfield 57, 3) := by decide +kernel
theorem dX3_rent_26 : decode cX3_rent 26 = .ok (.istore_n 2, 1) := by decide +kernel
theorem dX3_rent_27 : decode cX3_rent 27 = .ok (.aload_n 0, 1) := by decide +kernel
theorem dX3_rent_28 : decode cX3_rent 28 = .ok (.iload_n 1, 1) := by decide +kernel
theorem dX3_rent_29 : decode cX3_rent 29 = .ok (.putfield 57, 3) := by decide +kernel
theorem dX3_rent_32 : decode cX3_rent 32 = .ok (.iload_n 2, 1) := by decide +kernel
theorem dX3_rent_33 : decode cX3_rent 33 = .ok (.ireturn, 1) := by decide +kernel
theorem dX3_isTaken_0 : decode cX3_isTaken 0 = .ok (.iconst 0, 1) := by decide +kernel
theorem dX3_isTaken_1 : decode cX3_isTaken 1 = .ok (.istore_n 3, 1) := by decide +kernel
theorem dX3_isTaken_2 : decode cX3_isTaken 2 = .ok (.iload_n 3, 1) := by decide +kernel
theorem dX3_isTaken_3 : decode cX3_isTaken 3 = .ok (.iload_n 1, 1) := by decide +kernel
theorem dX3_isTaken_4 : decode cX3_isTaken 4 = .ok (.if_icmp .ge 21, 3) := by decide +kernel
theorem dX3_isTaken_7 : decode cX3_isTaken 7 = .ok (.aload_n 0, 1) := by decide +kernel
theorem dX3_isTaken_8 : decode cX3_isTaken 8 = .ok (.getfield 22, 3) := by decide +kernel
theorem dX3_isTaken_11 : decode cX3_isTaken 11 = .ok (.iload_n 3, 1) := by decide +kernel
theorem dX3_isTaken_12 : decode cX3_isTaken 12 = .ok (.iaload, 1) := by decide +kernel
theorem dX3_isTaken_13 : decode cX3_isTaken 13 = .ok (.iload_n 2, 1) := by decide +kernel
theorem dX3_isTaken_14 : decode cX3_isTaken 14 = .ok (.if_icmp .ne 5, 3) := by decide +kernel
theorem dX3_isTaken_17 : decode cX3_isTaken 17 = .ok (.iconst 1, 1) := by decide +kernel
theorem dX3_isTaken_18 : decode cX3_isTaken 18 = .ok (.ireturn, 1) := by decide +kernel
theorem dX3_isTaken_19 : decode cX3_isTaken 19 = .ok (.iinc 3 1, 3) := by decide +kernel
theorem dX3_isTaken_22 : decode cX3_isTaken 22 = .ok (.goto (-20), 3) := by decide +kernel
theorem dX3_isTaken_25 : decode cX3_isTaken 25 = .ok (.iload_n 1, 1) := by decide +kernel
theorem dX3_isTaken_26 : decode cX3_isTaken 26 = .ok (.aload_n 0, 1) := by decide +kernel
theorem dX3_isTaken_27 : decode cX3_isTaken 27 = .ok (.getfield 29, 3) := by decide +kernel
theorem dX3_isTaken_30 : decode cX3_isTaken 30 = .ok (.if_icmp .ne 27, 3) := by decide +kernel
theorem dX3_isTaken_33 : decode cX3_isTaken 33 = .ok (.aload_n 0, 1) := by decide +kernel
theorem dX3_isTaken_34 : decode cX3_isTaken 34 = .ok (.getfield 60, 3) := by decide +kernel
theorem dX3_isTaken_37 : decode cX3_isTaken 37 = .ok (.iload_n 2, 1) := by decide +kernel
theorem dX3_isTaken_38 : decode cX3_isTaken 38 = .ok (.aload_n 0, 1) := by decide +kernel
theorem dX3_isTaken_39 : decode cX3_isTaken 39 = .ok (.getfield 32, 3) := by decide +kernel
theorem dX3_isTaken_42 : decode cX3_isTaken 42 = .ok (.if_icmp .ne 7, 3) := by decide +kernel
theorem dX3_isTaken_45 : decode cX3_isTaken 45 = .ok (.iconst 1, 1) := by decide +kernel
theorem dX3_isTaken_46 : decode cX3_isTaken 46 = .ok (.goto 4, 3) := by decide +kernel
theorem dX3_isTaken_49 : decode cX3_isTaken 49 = .ok (.iconst 0, 1) := by decide +kernel
theorem dX3_isTaken_50 : decode cX3_isTaken 50 = .ok (.if_icmp .eq 7, 3) := by decide +kernel
theorem dX3_isTaken_53 : decode cX3_isTaken 53 = .ok (.iconst 1, 1) := by decide +kernel
theorem dX3_isTaken_54 : decode cX3_isTaken 54 = .ok (.goto 4, 3) := by decide +kernel
theorem dX3_isTaken_57 : decode cX3_isTaken 57 = .ok (.iconst 0, 1) := by decide +kernel
theorem dX3_isTaken_58 : decode cX3_isTaken 58 = .ok (.ireturn, 1) := by decide +kernel
set_option maxRecDepth 20000 in
theorem ggX3_tryFrom_X3_isTaken : GoodIn wsX3_tryFrom wsX3_isTaken := goodIn_r _ [15, 4, 16, 17, 18, 27, 28, 29, 30, 31, 32, 33, 34, 35, 36, 37, 38, 39, 40, 41] rfl (by decide +kernel)
set_option maxRecDepth 20000 in
theorem gX3_tryFrom_X3_isTaken : GoodIn wsX3_tryFrom (wsV RX3 76 RX3 yX3_isTaken wsX3_isTaken) := goodIn_app (goodIn_of _ (by decide +kernel)) ggX3_tryFrom_X3_isTaken
set_option maxRecDepth 20000 in
theorem ggX3_tryFrom_X3_bi : GoodIn wsX3_tryFrom wsX3_bi := goodIn_r _ [22, 23, 27, 28, 29, 30, 31, 32, 33, 34, 35, 36, 37, 38, 39, 40, 41] rfl (by decide +kernel)
set_option maxRecDepth 20000 in
theorem gX3_tryFrom_X3_bi : GoodIn wsX3_tryFrom (wsV RX3 53 RX3 yX3_bi wsX3_bi) := goodIn_app (goodIn_of _ (by decide +kernel)) ggX3_tryFrom_X3_bi
set_option maxRecDepth 20000 in
theorem ggX3_tryFrom_X3_tryFrom : GoodIn wsX3_tryFrom wsX3_tryFrom := goodIn_r _ [0, 1, 2, 3, 4, 5, 6, 7, 8, 9, 10, 11, 12, 13, 14, 15, 16, 17, 18, 19, 20, 21, 22, 23, 24, 25, 26, 27, 28, 29, 30, 31, 32, 33, 34, 35, 36, 37, 38, 39, 40, 41] rfl (by decide +kernel)
set_option maxRecDepth 20000 in
theorem gX3_tryFrom_X3_tryFrom : GoodIn wsX3_tryFrom (wsV RX3 80 RX3 yX3_tryFrom wsX3_tryFrom) := goodIn_app (goodIn_of _ (by decide +kernel)) ggX3_tryFrom_X3_tryFrom
theorem dX3_tryFrom_0 : decode cX3_tryFrom 0 = .ok (.iload_n 1, 1) := by decide +kernel
theorem dX3_tryFrom_1 : decode cX3_tryFrom 1 = .ok (.aload_n 0, 1) := by decide +kernel
theorem dX3_tryFrom_2 : decode cX3_tryFrom 2 = .ok (.getfield 38, 3) := by decide +kernel
theorem dX3_tryFrom_5 : decode cX3_tryFrom 5 = .ok (.if_icmp .ne 72, 3) := by decide +kernel
theorem dX3_tryFrom_8 : decode cX3_tryFrom 8 = .ok (.aload_n 0, 1) := by decide +kernel
theorem dX3_tryFrom_9 : decode cX3_tryFrom 9 = .ok (.iload_n 2, 1) := by decide +kernel
theorem dX3_tryFrom_10 : decode cX3_tryFrom 10 = .ok (.aload_n 0, 1) := by decide +kernel
theorem dX3_tryFrom_11 : decode cX3_tryFrom 11 = .ok (.getfield 64, 3) := by decide +kernel
theorem dX3_tryFrom_14 : decode cX3_tryFrom 14 = .ok (.if_icmp .le 7, 3) := by decide +kernel
theorem dX3_tryFrom_17 : decode cX3_tryFrom 17 = .ok (.iconst 1, 1) := by decide +kernel
theorem dX3_tryFrom_18 : decode cX3_tryFrom 18 = .ok (.goto 24, 3) := by decide +kernel
theorem dX3_tryFrom_21 : decode cX3_tryFrom 21 = .ok (.iload_n 2, 1) := by decide +kernel
theorem dX3_tryFrom_22 : decode cX3_tryFrom 22 = .ok (.aload_n 0, 1) := by decide +kernel
theorem dX3_tryFrom_23 : decode cX3_tryFrom 23 = .ok (.getfield 64, 3) := by decide +kernel
theorem dX3_tryFrom_26 : decode cX3_tryFrom 26 = .ok (.if_icmp .ne 12, 3) := by decide +kernel
theorem dX3_tryFrom_29 : decode cX3_tryFrom 29 = .ok (.aload_n 0, 1) := by decide +kernel
theorem dX3_tryFrom_30 : decode cX3_tryFrom 30 = .ok (.getfield 67, 3) := by decide +kernel
theorem dX3_tryFrom_33 : decode cX3_tryFrom 33 = .ok (.iconst 1, 1) := by decide +kernel
theorem dX3_tryFrom_34 : decode cX3_tryFrom 34 = .ok (.iadd, 1) := by decide +kernel
theorem dX3_tryFrom_35 : decode cX3_tryFrom 35 = .ok (.goto 7, 3) := by decide +kernel
theorem dX3_tryFrom_38 : decode cX3_tryFrom 38 = .ok (.aload_n 0, 1) := by decide +kernel
theorem dX3_tryFrom_39 : decode cX3_tryFrom 39 = .ok (.getfield 67, 3) := by decide +kernel
theorem dX3_tryFrom_42 : decode cX3_tryFrom 42 = .ok (.putfield 67, 3) := by decide +kernel
theorem dX3_tryFrom_45 : decode cX3_tryFrom 45 = .ok (.iload_n 2, 1) := by decide +kernel
theorem dX3_tryFrom_46 : decode cX3_tryFrom 46 = .ok (.aload_n 0, 1) := by decide +kernel
theorem dX3_tryFrom_47 : decode cX3_tryFrom 47 = .ok (.getfield 64, 3) := by decide +kernel
theorem dX3_tryFrom_50 : decode cX3_tryFrom 50 = .ok (.if_icmp .gt 4, 3) := by decide +kernel
theorem dX3_tryFrom_53 : decode cX3_tryFrom 53 = .ok (.return_, 1) := by decide +kernel
theorem dX3_tryFrom_54 : decode cX3_tryFrom 54 = .ok (.aload_n 0, 1) := by decide +kernel
theorem dX3_tryFrom_55 : decode cX3_tryFrom 55 = .ok (.iload_n 2, 1) := by decide +kernel
theorem dX3_tryFrom_56 : decode cX3_tryFrom 56 = .ok (.putfield 64, 3) := by decide +kernel
theorem dX3_tryFrom_59 : decode cX3_tryFrom 59 = .ok (.aload_n 0, 1) := by decide +kernel
theorem dX3_tryFrom_60 : decode cX3_tryFrom 60 = .ok (.getfield 22, 3) := by decide +kernel
theorem dX3_tryFrom_63 : decode cX3_tryFrom 63 = .ok (.iconst 0, 1) := by decide +kernel
theorem dX3_tryFrom_64 : decode cX3_tryFrom 64 = .ok (.aload_n 0, 1) := by decide +kernel
theorem dX3_tryFrom_65 : decode cX3_tryFrom 65 = .ok (.getfield 13, 3) := by decide +kernel
theorem dX3_tryFrom_68 : decode cX3_tryFrom 68 = .ok (.iconst 0, 1) := by decide +kernel
theorem dX3_tryFrom_69 : decode cX3_tryFrom 69 = .ok (.aload_n 0, 1) := by decide +kernel
theorem dX3_tryFrom_70 : decode cX3_tryFrom 70 = .ok (.getfield 38, 3) := by decide +kernel
theorem dX3_tryFrom_73 : decode cX3_tryFrom 73 = .ok (.invokestatic 70, 3) := by decide +kernel
theorem dX3_tryFrom_76 : decode cX3_tryFrom 76 = .ok (.return_, 1) := by decide +kernel
theorem dX3_tryFrom_77 : decode cX3_tryFrom 77 = .ok (.iconst 0, 1) := by decide +kernel
theorem dX3_tryFrom_78 : decode cX3_tryFrom 78 = .ok (.istore_n 3, 1) := by decide +kernel
theorem dX3_tryFrom_79 : decode cX3_tryFrom 79 = .ok (.iload_n 3, 1) := by decide +kernel
theorem dX3_tryFrom_80 : decode cX3_tryFrom 80 = .ok (.aload_n 0, 1) := by decide +kernel
theorem dX3_tryFrom_81 : decode cX3_tryFrom 81 = .ok (.getfield 38, 3) := by decide +kernel
theorem dX3_tryFrom_84 : decode cX3_tryFrom 84 = .ok (.if_icmp .ge 55, 3) := by decide +kernel
theorem dX3_tryFrom_87 : decode cX3_tryFrom 87 = .ok (.aload_n 0, 1) := by decide +kernel
theorem dX3_tryFrom_88 : decode cX3_tryFrom 88 = .ok (.iload_n 1, 1) := by decide +kernel
theorem dX3_tryFrom_89 : decode cX3_tryFrom 89 = .ok (.iload_n 3, 1) := by decide +kernel
theorem dX3_tryFrom_90 : decode cX3_tryFrom 90 = .ok (.invokevirtual 76, 3) := by decide +kernel
theorem dX3_tryFrom_93 : decode cX3_tryFrom 93 = .ok (.ifCond .eq 6, 3) := by decide +kernel
theorem dX3_tryFrom_96 : decode cX3_tryFrom 96 = .ok (.goto 37, 3) := by decide +kernel
theorem dX3_tryFrom_99 : decode cX3_tryFrom 99 = .ok (.aload_n 0, 1) := by decide +kernel
theorem dX3_tryFrom_100 : decode cX3_tryFrom 100 = .ok (.getfield 22, 3) := by decide +kernel
theorem dX3_tryFrom_103 : decode cX3_tryFrom 103 = .ok (.iload_n 1, 1) := by decide +kernel
theorem dX3_tryFrom_104 : decode cX3_tryFrom 104 = .ok (.iload_n 3, 1) := by decide +kernel
theorem dX3_tryFrom_105 : decode cX3_tryFrom 105 = .ok (.iastore, 1) := by decide +kernel
theorem dX3_tryFrom_106 : decode cX3_tryFrom 106 = .ok (.aload_n 0, 1) := by decide +kernel
theorem dX3_tryFrom_107 : decode cX3_tryFrom 107 = .ok (.iload_n 1, 1) := by decide +kernel
theorem dX3_tryFrom_108 : decode cX3_tryFrom 108 = .ok (.iconst 1, 1) := by decide +kernel
theorem dX3_tryFrom_109 : decode cX3_tryFrom 109 = .ok (.iadd, 1) := by decide +kernel
theorem dX3_tryFrom_110 : decode cX3_tryFrom 110 = .ok (.iload_n 2, 1) := by decide +kernel
theorem dX3_tryFrom_111 : decode cX3_tryFrom 111 = .ok (.iload_n 1, 1) := by decide +kernel
theorem dX3_tryFrom_112 : decode cX3_tryFrom 112 = .ok (.aload_n 0, 1) := by decide +kernel
theorem dX3_tryFrom_113 : decode cX3_tryFrom 113 = .ok (.getfield 25, 3) := by decide +kernel
theorem dX3_tryFrom_116 : decode cX3_tryFrom 116 = .ok (.if_icmp .ne 7, 3) := by decide +kernel
theorem dX3_tryFrom_119 : decode cX3_tryFrom 119 = .ok (.iconst 0, 1) := by decide +kernel
theorem dX3_tryFrom_120 : decode cX3_tryFrom 120 = .ok (.goto 9, 3) := by decide +kernel
theorem dX3_tryFrom_123 : decode cX3_tryFrom 123 = .ok (.aload_n 0, 1) := by decide +kernel
theorem dX3_tryFrom_124 : decode cX3_tryFrom 124 = .ok (.iload_n 1, 1) := by decide +kernel
theorem dX3_tryFrom_125 : decode cX3_tryFrom 125 = .ok (.iload_n 3, 1) := by decide +kernel
theorem dX3_tryFrom_126 : decode cX3_tryFrom 126 = .ok (.invokevirtual 53, 3) := by decide +kernel
theorem dX3_tryFrom_129 : decode cX3_tryFrom 129 = .ok (.iadd, 1) := by decide +kernel
theorem dX3_tryFrom_130 : decode cX3_tryFrom 130 = .ok (.invokevirtual 80, 3) := by decide +kernel
theorem dX3_tryFrom_133 : decode cX3_tryFrom 133 = .ok (.iinc 3 1, 3) := by decide +kernel
theorem dX3_tryFrom_136 : decode cX3_tryFrom 136 = .ok (.goto (-57), 3) := by decide +kernel
theorem dX3_tryFrom_139 : decode cX3_tryFrom 139 = .ok (.return_, 1) := by decide +kernel
set_option maxRecDepth 20000 in
theorem ggX3_give_X3_tryFrom : GoodIn wsX3_give wsX3_tryFrom := goodIn_r _ [7, 8, 1, 2, 9, 10, 11, 12, 13, 14, 15, 16, 17, 18, 6, 19, 20, 21, 22, 23, 24, 25, 26, 27, 3, 4, 5, 28, 29, 30, 31, 32, 33, 34, 35, 36, 37, 38, 39, 40, 41, 42] rfl (by decide +kernel)
set_option maxRecDepth 20000 in
theorem gX3_give_X3_tryFrom : GoodIn wsX3_give (wsV RX3 80 RX3 yX3_tryFrom wsX3_tryFrom) := goodIn_app (goodIn_of _ (by decide +kernel)) ggX3_give_X3_tryFrom
theorem dX3_give_0 : decode cX3_give 0 = .ok (.aload_n 0, 1) := by decide +kernel
theorem dX3_give_1 : decode cX3_give 1 = .ok (.iconst (-1), 1) := by decide +kernel
theorem dX3_give_2 : decode cX3_give 2 = .ok (.putfield 64, 3) := by decide +kernel
theorem dX3_give_5 : decode cX3_give 5 = .ok (.aload_n 0, 1) := by decide +kernel
theorem dX3_give_6 : decode cX3_give 6 = .ok (.iconst 0, 1) := by decide +kernel
theorem dX3_give_7 : decode cX3_give 7 = .ok (.putfield 67, 3) := by decide +kernel
theorem dX3_give_10 : decode cX3_give 10 = .ok (.aload_n 0, 1) := by decide +kernel
theorem dX3_give_11 : decode cX3_give 11 = .ok (.iconst 0, 1) := by decide +kernel
theorem dX3_give_12 : decode cX3_give 12 = .ok (.iconst 0, 1) := by decide +kernel
theorem dX3_give_13 : decode cX3_give 13 = .ok (.invokevirtual 80, 3) := by decide +kernel
theorem dX3_give_16 : decode cX3_give 16 = .ok (.aload_n 0, 1) := by decide +kernel
theorem dX3_give_17 : decode cX3_give 17 = .ok (.getfield 64, 3) := by decide +kernel
theorem dX3_give_20 : decode cX3_give 20 = .ok (.ireturn, 1) := by decide +kernel
set_option maxRecDepth 20000 in
theorem ggX3_of_X3_bi : GoodIn wsX3_of wsX3_bi := goodIn_r _ [7, 8, 9, 10, 11, 12, 13, 14, 15, 16, 17, 18, 19, 20, 21, 22, 23] rfl (by decide +kernel)
set_option maxRecDepth 20000 in
theorem gX3_of_X3_bi : GoodIn wsX3_of (wsV RX3 53 RX3 yX3_bi wsX3_bi) := goodIn_app (goodIn_of _ (by decide +kernel)) ggX3_of_X3_bi
theorem dX3_of_0 : decode cX3_of 0 = .ok (.aload_n 0, 1) := by decide +kernel
theorem dX3_of_1 : decode cX3_of 1 = .ok (.iload_n 1, 1) := by decide +kernel
theorem dX3_of_2 : decode cX3_of 2 = .ok (.aload_n 0, 1) := by decide +kernel
theorem dX3_of_3 : decode cX3_of 3 = .ok (.getfield 13, 3) := by decide +kernel
theorem dX3_of_6 : decode cX3_of 6 = .ok (.iload_n 2, 1) := by decide +kernel
theorem dX3_of_7 : decode cX3_of 7 = .ok (.iaload, 1) := by decide +kernel
theorem dX3_of_8 : decode cX3_of 8 = .ok (.invokevirtual 53, 3) := by decide +kernel
theorem dX3_of_11 : decode cX3_of 11 = .ok (.aload_n 0, 1) := by decide +kernel
theorem dX3_of_12 : decode cX3_of 12 = .ok (.iload_n 2, 1) := by decide +kernel
theorem dX3_of_13 : decode cX3_of 13 = .ok (.aload_n 0, 1) := by decide +kernel
theorem dX3_of_14 : decode cX3_of 14 = .ok (.getfield 13, 3) := by decide +kernel
theorem dX3_of_17 : decode cX3_of 17 = .ok (.iload_n 2, 1) := by decide +kernel
theorem dX3_of_18 : decode cX3_of 18 = .ok (.iaload, 1) := by decide +kernel
theorem dX3_of_19 : decode cX3_of 19 = .ok (.invokevirtual 53, 3) := by decide +kernel
theorem dX3_of_22 : decode cX3_of 22 = .ok (.isub, 1) := by decide +kernel
theorem dX3_of_23 : decode cX3_of 23 = .ok (.aload_n 0, 1) := by decide +kernel
theorem dX3_of_24 : decode cX3_of 24 = .ok (.getfield 16, 3) := by decide +kernel
theorem dX3_of_27 : decode cX3_of 27 = .ok (.iload_n 2, 1) := by decide +kernel
theorem dX3_of_28 : decode cX3_of 28 = .ok (.iaload, 1) := by decide +kernel
theorem dX3_of_29 : decode cX3_of 29 = .ok (.iadd, 1) := by decide +kernel
theorem dX3_of_30 : decode cX3_of 30 = .ok (.ireturn, 1) := by decide +kernel
set_option maxRecDepth 20000 in
theorem ggX3_isRaised_X3_of : GoodIn wsX3_isRaised wsX3_of := goodIn_r _ [7, 8, 2, 9, 10, 11, 6, 12, 13, 14, 15, 16, 17, 18, 19, 20, 21, 22, 23, 24, 25, 26, 27, 28] rfl (by decide +kernel)
set_option maxRecDepth 20000 in
theorem gX3_isRaised_X3_of : GoodIn wsX3_isRaised (wsV RX3 84 RX3 yX3_of wsX3_of) := goodIn_app (goodIn_of _ (by decide +kernel)) ggX3_isRaised_X3_of
theorem dX3_isRaised_0 : decode cX3_isRaised 0 = .ok (.iconst 0, 1) := by decide +kernel
theorem dX3_isRaised_1 : decode cX3_isRaised 1 = .ok (.istore_n 1, 1) := by decide +kernel
theorem dX3_isRaised_2 : decode cX3_isRaised 2 = .ok (.iconst 0, 1) := by decide +kernel
theorem dX3_isRaised_3 : decode cX3_isRaised 3 = .ok (.istore_n 2, 1) := by decide +kernel
theorem dX3_isRaised_4 : decode cX3_isRaised 4 = .ok (.iload_n 2, 1) := by decide +kernel
theorem dX3_isRaised_5 : decode cX3_isRaised 5 = .ok (.aload_n 0, 1) := by decide +kernel
theorem dX3_isRaised_6 : decode cX3_isRaised 6 = .ok (.getfield 38, 3) := by decide +kernel
theorem dX3_isRaised_9 : decode cX3_isRaised 9 = .ok (.if_icmp .ge 57, 3) := by decide +kernel
theorem dX3_isRaised_12 : decode cX3_isRaised 12 = .ok (.iconst 0, 1) := by decide +kernel
theorem dX3_isRaised_13 : decode cX3_isRaised 13 = .ok (.istore_n 3, 1) := by decide +kernel
theorem dX3_isRaised_14 : decode cX3_isRaised 14 = .ok (.iload_n 3, 1) := by decide +kernel
theorem dX3_isRaised_15 : decode cX3_isRaised 15 = .ok (.aload_n 0, 1) := by decide +kernel
theorem dX3_isRaised_16 : decode cX3_isRaised 16 = .ok (.getfield 38, 3) := by decide +kernel
theorem dX3_isRaised_19 : decode cX3_isRaised 19 = .ok (.if_icmp .ge 41, 3) := by decide +kernel
theorem dX3_isRaised_22 : decode cX3_isRaised 22 = .ok (.aload_n 0, 1) := by decide +kernel
theorem dX3_isRaised_23 : decode cX3_isRaised 23 = .ok (.iload_n 2, 1) := by decide +kernel
theorem dX3_isRaised_24 : decode cX3_isRaised 24 = .ok (.iload_n 3, 1) := by decide +kernel
theorem dX3_isRaised_25 : decode cX3_isRaised 25 = .ok (.invokevirtual 84, 3) := by decide +kernel
theorem dX3_isRaised_28 : decode cX3_isRaised 28 = .ok (.aload_n 0, 1) := by decide +kernel
theorem dX3_isRaised_29 : decode cX3_isRaised 29 = .ok (.getfield 16, 3) := by decide +kernel
theorem dX3_isRaised_32 : decode cX3_isRaised 32 = .ok (.iload_n 2, 1) := by decide +kernel
theorem dX3_isRaised_33 : decode cX3_isRaised 33 = .ok (.iaload, 1) := by decide +kernel
theorem dX3_isRaised_34 : decode cX3_isRaised 34 = .ok (.if_icmp .gt 6, 3) := by decide +kernel
theorem dX3_isRaised_37 : decode cX3_isRaised 37 = .ok (.goto 17, 3) := by decide +kernel
theorem dX3_isRaised_40 : decode cX3_isRaised 40 = .ok (.aload_n 0, 1) := by decide +kernel
theorem dX3_isRaised_41 : decode cX3_isRaised 41 = .ok (.getfield 16, 3) := by decide +kernel
theorem dX3_isRaised_44 : decode cX3_isRaised 44 = .ok (.iload_n 2, 1) := by decide +kernel
theorem dX3_isRaised_45 : decode cX3_isRaised 45 = .ok (.aload_n 0, 1) := by decide +kernel
theorem dX3_isRaised_46 : decode cX3_isRaised 46 = .ok (.iload_n 2, 1) := by decide +kernel
theorem dX3_isRaised_47 : decode cX3_isRaised 47 = .ok (.iload_n 3, 1) := by decide +kernel
theorem dX3_isRaised_48 : decode cX3_isRaised 48 = .ok (.invokevirtual 84, 3) := by decide +kernel
theorem dX3_isRaised_51 : decode cX3_isRaised 51 = .ok (.iastore, 1) := by decide +kernel
theorem dX3_isRaised_52 : decode cX3_isRaised 52 = .ok (.iconst 1, 1) := by decide +kernel
theorem dX3_isRaised_53 : decode cX3_isRaised 53 = .ok (.istore_n 1, 1) := by decide +kernel
theorem dX3_isRaised_54 : decode cX3_isRaised 54 = .ok (.iinc 3 1, 3) := by decide +kernel
theorem dX3_isRaised_57 : decode cX3_isRaised 57 = .ok (.goto (-43), 3) := by decide +kernel
theorem dX3_isRaised_60 : decode cX3_isRaised 60 = .ok (.iinc 2 1, 3) := by decide +kernel
theorem dX3_isRaised_63 : decode cX3_isRaised 63 = .ok (.goto (-59), 3) := by decide +kernel
theorem dX3_isRaised_66 : decode cX3_isRaised 66 = .ok (.iload_n 1, 1) := by decide +kernel
theorem dX3_isRaised_67 : decode cX3_isRaised 67 = .ok (.ireturn, 1) := by decide +kernel
set_option maxRecDepth 20000 in
theorem ggX3_settle_X3_give : GoodIn wsX3_settle wsX3_give := goodIn_r _ [11, 1, 12, 13, 14, 15, 10, 16, 3, 17, 18, 19, 20, 21, 22, 23, 24, 25, 26, 27, 28, 29, 30, 31, 32, 33, 34, 35, 44, 45, 46, 47, 48, 49, 50, 51, 52, 53, 54, 55, 56, 57, 58] rfl (by decide +kernel)
set_option maxRecDepth 20000 in
theorem gX3_settle_X3_give : GoodIn wsX3_settle (wsV RX3 87 RX3 yX3_give wsX3_give) := goodIn_app (goodIn_of _ (by decide +kernel)) ggX3_settle_X3_give
set_option maxRecDepth 20000 in
theorem ggX3_settle_X3_isRaised : GoodIn wsX3_settle wsX3_isRaised := goodIn_r _ [39, 3, 4, 40, 41, 42, 10, 43, 18, 31, 32, 33, 34, 35, 44, 45, 46, 47, 48, 49, 50, 51, 52, 53, 54, 55, 56, 57, 58] rfl (by decide +kernel)
set_option maxRecDepth 20000 in
theorem gX3_settle_X3_isRaised : GoodIn wsX3_settle (wsV RX3 91 RX3 yX3_isRaised wsX3_isRaised) := goodIn_app (goodIn_of _ (by decide +kernel)) ggX3_settle_X3_isRaised
theorem dX3_settle_0 : decode cX3_settle 0 = .ok (.aload_n 0, 1) := by decide +kernel
theorem dX3_settle_1 : decode cX3_settle 1 = .ok (.invokevirtual 87, 3) := by decide +kernel
theorem dX3_settle_4 : decode cX3_settle 4 = .ok (.pop, 1) := by decide +kernel
theorem dX3_settle_5 : decode cX3_settle 5 = .ok (.aload_n 0, 1) := by decide +kernel
theorem dX3_settle_6 : decode cX3_settle 6 = .ok (.getfield 64, 3) := by decide +kernel
theorem dX3_settle_9 : decode cX3_settle 9 = .ok (.aload_n 0, 1) := by decide +kernel
theorem dX3_settle_10 : decode cX3_settle 10 = .ok (.getfield 57, 3) := by decide +kernel
theorem dX3_settle_13 : decode cX3_settle 13 = .ok (.isub, 1) := by decide +kernel
theorem dX3_settle_14 : decode cX3_settle 14 = .ok (.istore_n 1, 1) := by decide +kernel
theorem dX3_settle_15 : decode cX3_settle 15 = .ok (.iconst 0, 1) := by decide +kernel
theorem dX3_settle_16 : decode cX3_settle 16 = .ok (.istore_n 2, 1) := by decide +kernel
theorem dX3_settle_17 : decode cX3_settle 17 = .ok (.iload_n 2, 1) := by decide +kernel
theorem dX3_settle_18 : decode cX3_settle 18 = .ok (.aload_n 0, 1) := by decide +kernel
theorem dX3_settle_19 : decode cX3_settle 19 = .ok (.getfield 38, 3) := by decide +kernel
theorem dX3_settle_22 : decode cX3_settle 22 = .ok (.if_icmp .ge 16, 3) := by decide +kernel
theorem dX3_settle_25 : decode cX3_settle 25 = .ok (.aload_n 0, 1) := by decide +kernel
theorem dX3_settle_26 : decode cX3_settle 26 = .ok (.getfield 16, 3) := by decide +kernel
theorem dX3_settle_29 : decode cX3_settle 29 = .ok (.iload_n 2, 1) := by decide +kernel
theorem dX3_settle_30 : decode cX3_settle 30 = .ok (.iconst 0, 1) := by decide +kernel
theorem dX3_settle_31 : decode cX3_settle 31 = .ok (.iastore, 1) := by decide +kernel
theorem dX3_settle_32 : decode cX3_settle 32 = .ok (.iinc 2 1, 3) := by decide +kernel
theorem dX3_settle_35 : decode cX3_settle 35 = .ok (.goto (-18), 3) := by decide +kernel
theorem dX3_settle_38 : decode cX3_settle 38 = .ok (.aload_n 0, 1) := by decide +kernel
theorem dX3_settle_39 : decode cX3_settle 39 = .ok (.invokevirtual 91, 3) := by decide +kernel
theorem dX3_settle_42 : decode cX3_settle 42 = .ok (.ifCond .eq 6, 3) := by decide +kernel
theorem dX3_settle_45 : decode cX3_settle 45 = .ok (.goto (-7), 3) := by decide +kernel
theorem dX3_settle_48 : decode cX3_settle 48 = .ok (.iconst 0, 1) := by decide +kernel
theorem dX3_settle_49 : decode cX3_settle 49 = .ok (.istore_n 2, 1) := by decide +kernel
theorem dX3_settle_50 : decode cX3_settle 50 = .ok (.iload_n 2, 1) := by decide +kernel
theorem dX3_settle_51 : decode cX3_settle 51 = .ok (.aload_n 0, 1) := by decide +kernel
theorem dX3_settle_52 : decode cX3_settle 52 = .ok (.getfield 38, 3) := by decide +kernel
theorem dX3_settle_55 : decode cX3_settle 55 = .ok (.if_icmp .ge 18, 3) := by decide +kernel
theorem dX3_settle_58 : decode cX3_settle 58 = .ok (.iload_n 1, 1) := by decide +kernel
theorem dX3_settle_59 : decode cX3_settle 59 = .ok (.aload_n 0, 1) := by decide +kernel
theorem dX3_settle_60 : decode cX3_settle 60 = .ok (.getfield 16, 3) := by decide +kernel
theorem dX3_settle_63 : decode cX3_settle 63 = .ok (.iload_n 2, 1) := by decide +kernel
theorem dX3_settle_64 : decode cX3_settle 64 = .ok (.iaload, 1) := by decide +kernel
theorem dX3_settle_65 : decode cX3_settle 65 = .ok (.isub, 1) := by decide +kernel
theorem dX3_settle_66 : decode cX3_settle 66 = .ok (.istore_n 1, 1) := by decide +kernel
theorem dX3_settle_67 : decode cX3_settle 67 = .ok (.iinc 2 1, 3) := by decide +kernel
theorem dX3_settle_70 : decode cX3_settle 70 = .ok (.goto (-20), 3) := by decide +kernel
theorem dX3_settle_73 : decode cX3_settle 73 = .ok (.aload_n 0, 1) := by decide +kernel
theorem dX3_settle_74 : decode cX3_settle 74 = .ok (.getfield 38, 3) := by decide +kernel
theorem dX3_settle_77 : decode cX3_settle 77 = .ok (.ifCond .le 16, 3) := by decide +kernel
theorem dX3_settle_80 : decode cX3_settle 80 = .ok (.iload_n 1, 1) := by decide +kernel
theorem dX3_settle_81 : decode cX3_settle 81 = .ok (.ifCond .le 12, 3) := by decide +kernel
theorem dX3_settle_84 : decode cX3_settle 84 = .ok (.iload_n 1, 1) := by decide +kernel
theorem dX3_settle_85 : decode cX3_settle 85 = .ok (.aload_n 0, 1) := by decide +kernel
theorem dX3_settle_86 : decode cX3_settle 86 = .ok (.getfield 38, 3) := by decide +kernel
theorem dX3_settle_89 : decode cX3_settle 89 = .ok (.idiv, 1) := by decide +kernel
theorem dX3_settle_90 : decode cX3_settle 90 = .ok (.goto 4, 3) := by decide +kernel
theorem dX3_settle_93 : decode cX3_settle 93 = .ok (.iconst 0, 1) := by decide +kernel
theorem dX3_settle_94 : decode cX3_settle 94 = .ok (.istore_n 2, 1) := by decide +kernel
theorem dX3_settle_95 : decode cX3_settle 95 = .ok (.iconst 0, 1) := by decide +kernel
theorem dX3_settle_96 : decode cX3_settle 96 = .ok (.istore_n 3, 1) := by decide +kernel
theorem dX3_settle_97 : decode cX3_settle 97 = .ok (.iload_n 3, 1) := by decide +kernel
theorem dX3_settle_98 : decode cX3_settle 98 = .ok (.aload_n 0, 1) := by decide +kernel
theorem dX3_settle_99 : decode cX3_settle 99 = .ok (.getfield 38, 3) := by decide +kernel
theorem dX3_settle_102 : decode cX3_settle 102 = .ok (.if_icmp .ge 23, 3) := by decide +kernel
theorem dX3_settle_105 : decode cX3_settle 105 = .ok (.aload_n 0, 1) := by decide +kernel
theorem dX3_settle_106 : decode cX3_settle 106 = .ok (.getfield 19, 3) := by decide +kernel
theorem dX3_settle_109 : decode cX3_settle 109 = .ok (.iload_n 3, 1) := by decide +kernel
theorem dX3_settle_110 : decode cX3_settle 110 = .ok (.aload_n 0, 1) := by decide +kernel
theorem dX3_settle_111 : decode cX3_settle 111 = .ok (.getfield 16, 3) := by decide +kernel
theorem dX3_settle_114 : decode cX3_settle 114 = .ok (.iload_n 3, 1) := by decide +kernel
theorem dX3_settle_115 : decode cX3_settle 115 = .ok (.iaload, 1) := by decide +kernel
theorem dX3_settle_116 : decode cX3_settle 116 = .ok (.iload_n 2, 1) := by decide +kernel
theorem dX3_settle_117 : decode cX3_settle 117 = .ok (.iadd, 1) := by decide +kernel
theorem dX3_settle_118 : decode cX3_settle 118 = .ok (.iastore, 1) := by decide +kernel
theorem dX3_settle_119 : decode cX3_settle 119 = .ok (.iinc 3 1, 3) := by decide +kernel
theorem dX3_settle_122 : decode cX3_settle 122 = .ok (.goto (-25), 3) := by decide +kernel
theorem dX3_settle_125 : decode cX3_settle 125 = .ok (.aload_n 0, 1) := by decide +kernel
theorem dX3_settle_126 : decode cX3_settle 126 = .ok (.iload_n 1, 1) := by decide +kernel
theorem dX3_settle_127 : decode cX3_settle 127 = .ok (.iload_n 2, 1) := by decide +kernel
theorem dX3_settle_128 : decode cX3_settle 128 = .ok (.aload_n 0, 1) := by decide +kernel
theorem dX3_settle_129 : decode cX3_settle 129 = .ok (.getfield 38, 3) := by decide +kernel
theorem dX3_settle_132 : decode cX3_settle 132 = .ok (.imul, 1) := by decide +kernel
theorem dX3_settle_133 : decode cX3_settle 133 = .ok (.isub, 1) := by decide +kernel
theorem dX3_settle_134 : decode cX3_settle 134 = .ok (.putfield 95, 3) := by decide +kernel
theorem dX3_settle_137 : decode cX3_settle 137 = .ok (.return_, 1) := by decide +kernel
set_option maxRecDepth 20000 in
theorem ggX3_pays_X3_bi : GoodIn wsX3_pays wsX3_bi := goodIn_r _ [7, 8, 9, 10, 11, 12, 13, 14, 15, 16, 17, 18, 19, 20, 21, 22, 23] rfl (by decide +kernel)
set_option maxRecDepth 20000 in
theorem gX3_pays_X3_bi : GoodIn wsX3_pays (wsV RX3 53 RX3 yX3_bi wsX3_bi) := goodIn_app (goodIn_of _ (by decide +kernel)) ggX3_pays_X3_bi
theorem dX3_pays_0 : decode cX3_pays 0 = .ok (.aload_n 0, 1) := by decide +kernel
theorem dX3_pays_1 : decode cX3_pays 1 = .ok (.iload_n 1, 1) := by decide +kernel
theorem dX3_pays_2 : decode cX3_pays 2 = .ok (.aload_n 0, 1) := by decide +kernel
theorem dX3_pays_3 : decode cX3_pays 3 = .ok (.getfield 13, 3) := by decide +kernel
theorem dX3_pays_6 : decode cX3_pays 6 = .ok (.iload_n 1, 1) := by decide +kernel
theorem dX3_pays_7 : decode cX3_pays 7 = .ok (.iaload, 1) := by decide +kernel
theorem dX3_pays_8 : decode cX3_pays 8 = .ok (.invokevirtual 53, 3) := by decide +kernel
theorem dX3_pays_11 : decode cX3_pays 11 = .ok (.aload_n 0, 1) := by decide +kernel
theorem dX3_pays_12 : decode cX3_pays 12 = .ok (.getfield 19, 3) := by decide +kernel
theorem dX3_pays_15 : decode cX3_pays 15 = .ok (.iload_n 1, 1) := by decide +kernel
theorem dX3_pays_16 : decode cX3_pays 16 = .ok (.iaload, 1) := by decide +kernel
theorem dX3_pays_17 : decode cX3_pays 17 = .ok (.isub, 1) := by decide +kernel
theorem dX3_pays_18 : decode cX3_pays 18 = .ok (.ireturn, 1) := by decide +kernel
set_option maxRecDepth 20000 in
theorem ggX3_isEnvy_X3_bi : GoodIn wsX3_isEnvy wsX3_bi := goodIn_r _ [6, 7, 8, 9, 10, 11, 12, 13, 14, 15, 16, 17, 18, 19, 20, 21, 22] rfl (by decide +kernel)
set_option maxRecDepth 20000 in
theorem gX3_isEnvy_X3_bi : GoodIn wsX3_isEnvy (wsV RX3 53 RX3 yX3_bi wsX3_bi) := goodIn_app (goodIn_of _ (by decide +kernel)) ggX3_isEnvy_X3_bi
theorem dX3_isEnvy_0 : decode cX3_isEnvy 0 = .ok (.aload_n 0, 1) := by decide +kernel
theorem dX3_isEnvy_1 : decode cX3_isEnvy 1 = .ok (.iload_n 1, 1) := by decide +kernel
theorem dX3_isEnvy_2 : decode cX3_isEnvy 2 = .ok (.aload_n 0, 1) := by decide +kernel
theorem dX3_isEnvy_3 : decode cX3_isEnvy 3 = .ok (.getfield 13, 3) := by decide +kernel
theorem dX3_isEnvy_6 : decode cX3_isEnvy 6 = .ok (.iload_n 2, 1) := by decide +kernel
theorem dX3_isEnvy_7 : decode cX3_isEnvy 7 = .ok (.iaload, 1) := by decide +kernel
theorem dX3_isEnvy_8 : decode cX3_isEnvy 8 = .ok (.invokevirtual 53, 3) := by decide +kernel
theorem dX3_isEnvy_11 : decode cX3_isEnvy 11 = .ok (.aload_n 0, 1) := by decide +kernel
theorem dX3_isEnvy_12 : decode cX3_isEnvy 12 = .ok (.iload_n 1, 1) := by decide +kernel
theorem dX3_isEnvy_13 : decode cX3_isEnvy 13 = .ok (.aload_n 0, 1) := by decide +kernel
theorem dX3_isEnvy_14 : decode cX3_isEnvy 14 = .ok (.getfield 13, 3) := by decide +kernel
theorem dX3_isEnvy_17 : decode cX3_isEnvy 17 = .ok (.iload_n 1, 1) := by decide +kernel
theorem dX3_isEnvy_18 : decode cX3_isEnvy 18 = .ok (.iaload, 1) := by decide +kernel
theorem dX3_isEnvy_19 : decode cX3_isEnvy 19 = .ok (.invokevirtual 53, 3) := by decide +kernel
theorem dX3_isEnvy_22 : decode cX3_isEnvy 22 = .ok (.if_icmp .le 7, 3) := by decide +kernel
theorem dX3_isEnvy_25 : decode cX3_isEnvy 25 = .ok (.iconst 1, 1) := by decide +kernel
theorem dX3_isEnvy_26 : decode cX3_isEnvy 26 = .ok (.goto 4, 3) := by decide +kernel
theorem dX3_isEnvy_29 : decode cX3_isEnvy 29 = .ok (.iconst 0, 1) := by decide +kernel
theorem dX3_isEnvy_30 : decode cX3_isEnvy 30 = .ok (.ireturn, 1) := by decide +kernel
set_option maxRecDepth 20000 in
theorem ggX3_leave_X3_isOne : GoodIn wsX3_leave wsX3_isOne := goodIn_r _ [9, 3, 10, 11, 8, 12, 60, 61, 62, 63, 64, 65, 66, 67, 68, 69, 70, 71, 72, 73, 74] rfl (by decide +kernel)
set_option maxRecDepth 20000 in
theorem gX3_leave_X3_isOne : GoodIn wsX3_leave (wsV RX3 49 RX3 yX3_isOne wsX3_isOne) := goodIn_app (goodIn_of _ (by decide +kernel)) ggX3_leave_X3_isOne
set_option maxRecDepth 20000 in
theorem ggX3_leave_X3_fail : GoodIn wsX3_leave wsX3_fail := goodIn_r _ [16, 1, 60, 61, 62, 63, 64, 65, 66, 67, 68, 69, 70, 71, 72, 73, 74] rfl (by decide +kernel)
set_option maxRecDepth 20000 in
theorem gX3_leave_X3_fail : GoodIn wsX3_leave (wsV RX3 45 RX3 yX3_fail wsX3_fail) := goodIn_app (goodIn_of _ (by decide +kernel)) ggX3_leave_X3_fail
set_option maxRecDepth 20000 in
theorem ggX3_leave_X3_settle : GoodIn wsX3_leave wsX3_settle := goodIn_r _ [20, 21, 22, 3, 23, 24, 25, 26, 27, 28, 8, 29, 30, 31, 32, 33, 34, 35, 2, 36, 37, 38, 39, 40, 41, 42, 43, 44, 45, 46, 47, 48, 49, 50, 51, 4, 52, 53, 54, 55, 56, 57, 58, 59, 60, 61, 62, 63, 64, 65, 66, 67, 68, 69, 70, 71, 72, 73, 74] rfl (by decide +kernel)
set_option maxRecDepth 20000 in
theorem gX3_leave_X3_settle : GoodIn wsX3_leave (wsV RX3 98 RX3 yX3_settle wsX3_settle) := goodIn_app (goodIn_of _ (by decide +kernel)) ggX3_leave_X3_settle
set_option maxRecDepth 20000 in
theorem ggX3_leave_X3_bi : GoodIn wsX3_leave wsX3_bi := goodIn_r _ [51, 4, 60, 61, 62, 63, 64, 65, 66, 67, 68, 69, 70, 71, 72, 73, 74] rfl (by decide +kernel)
set_option maxRecDepth 20000 in
theorem gX3_leave_X3_bi : GoodIn wsX3_leave (wsV RX3 53 RX3 yX3_bi wsX3_bi) := goodIn_app (goodIn_of _ (by decide +kernel)) ggX3_leave_X3_bi
theorem dX3_leave_0 : decode cX3_leave 0 = .ok (.aload_n 0, 1) := by decide +kernel
theorem dX3_leave_1 : decode cX3_leave 1 = .ok (.iconst 0, 1) := by decide +kernel
theorem dX3_leave_2 : decode cX3_leave 2 = .ok (.putfield 35, 3) := by decide +kernel
theorem dX3_leave_5 : decode cX3_leave 5 = .ok (.aload_n 0, 1) := by decide +kernel
theorem dX3_leave_6 : decode cX3_leave 6 = .ok (.iload_n 1, 1) := by decide +kernel
theorem dX3_leave_7 : decode cX3_leave 7 = .ok (.invokevirtual 49, 3) := by decide +kernel
theorem dX3_leave_10 : decode cX3_leave 10 = .ok (.ifCond .ne 9, 3) := by decide +kernel
theorem dX3_leave_13 : decode cX3_leave 13 = .ok (.aload_n 0, 1) := by decide +kernel
theorem dX3_leave_14 : decode cX3_leave 14 = .ok (.iconst 1, 1) := by decide +kernel
theorem dX3_leave_15 : decode cX3_leave 15 = .ok (.invokevirtual 45, 3) := by decide +kernel
theorem dX3_leave_18 : decode cX3_leave 18 = .ok (.ireturn, 1) := by decide +kernel
theorem dX3_leave_19 : decode cX3_leave 19 = .ok (.aload_n 0, 1) := by decide +kernel
theorem dX3_leave_20 : decode cX3_leave 20 = .ok (.invokevirtual 98, 3) := by decide +kernel
theorem dX3_leave_23 : decode cX3_leave 23 = .ok (.aload_n 0, 1) := by decide +kernel
theorem dX3_leave_24 : decode cX3_leave 24 = .ok (.getfield 13, 3) := by decide +kernel
theorem dX3_leave_27 : decode cX3_leave 27 = .ok (.iload_n 1, 1) := by decide +kernel
theorem dX3_leave_28 : decode cX3_leave 28 = .ok (.iaload, 1) := by decide +kernel
theorem dX3_leave_29 : decode cX3_leave 29 = .ok (.istore_n 2, 1) := by decide +kernel
theorem dX3_leave_30 : decode cX3_leave 30 = .ok (.iconst 0, 1) := by decide +kernel
theorem dX3_leave_31 : decode cX3_leave 31 = .ok (.istore_n 3, 1) := by decide +kernel
theorem dX3_leave_32 : decode cX3_leave 32 = .ok (.iload_n 3, 1) := by decide +kernel
theorem dX3_leave_33 : decode cX3_leave 33 = .ok (.aload_n 0, 1) := by decide +kernel
theorem dX3_leave_34 : decode cX3_leave 34 = .ok (.getfield 38, 3) := by decide +kernel
theorem dX3_leave_37 : decode cX3_leave 37 = .ok (.iconst 1, 1) := by decide +kernel
theorem dX3_leave_38 : decode cX3_leave 38 = .ok (.isub, 1) := by decide +kernel
theorem dX3_leave_39 : decode cX3_leave 39 = .ok (.if_icmp .ge 72, 3) := by decide +kernel
theorem dX3_leave_42 : decode cX3_leave 42 = .ok (.iconst 0, 1) := by decide +kernel
theorem dX3_leave_43 : decode cX3_leave 43 = .ok (.istore 4, 2) := by decide +kernel
theorem dX3_leave_45 : decode cX3_leave 45 = .ok (.iload 4, 2) := by decide +kernel
theorem dX3_leave_47 : decode cX3_leave 47 = .ok (.aload_n 0, 1) := by decide +kernel
theorem dX3_leave_48 : decode cX3_leave 48 = .ok (.getfield 38, 3) := by decide +kernel
theorem dX3_leave_51 : decode cX3_leave 51 = .ok (.iconst 1, 1) := by decide +kernel
theorem dX3_leave_52 : decode cX3_leave 52 = .ok (.isub, 1) := by decide +kernel
theorem dX3_leave_53 : decode cX3_leave 53 = .ok (.if_icmp .ge 52, 3) := by decide +kernel
theorem dX3_leave_56 : decode cX3_leave 56 = .ok (.aload_n 0, 1) := by decide +kernel
theorem dX3_leave_57 : decode cX3_leave 57 = .ok (.getfield 9, 3) := by decide +kernel
theorem dX3_leave_60 : decode cX3_leave 60 = .ok (.bipush 6, 2) := by decide +kernel
theorem dX3_leave_62 : decode cX3_leave 62 = .ok (.iload_n 3, 1) := by decide +kernel
theorem dX3_leave_63 : decode cX3_leave 63 = .ok (.imul, 1) := by decide +kernel
theorem dX3_leave_64 : decode cX3_leave 64 = .ok (.iload 4, 2) := by decide +kernel
theorem dX3_leave_66 : decode cX3_leave 66 = .ok (.iadd, 1) := by decide +kernel
theorem dX3_leave_67 : decode cX3_leave 67 = .ok (.aload_n 0, 1) := by decide +kernel
theorem dX3_leave_68 : decode cX3_leave 68 = .ok (.iload_n 3, 1) := by decide +kernel
theorem dX3_leave_69 : decode cX3_leave 69 = .ok (.iload_n 1, 1) := by decide +kernel
theorem dX3_leave_70 : decode cX3_leave 70 = .ok (.if_icmp .ge 7, 3) := by decide +kernel
theorem dX3_leave_73 : decode cX3_leave 73 = .ok (.iload_n 3, 1) := by decide +kernel
theorem dX3_leave_74 : decode cX3_leave 74 = .ok (.goto 6, 3) := by decide +kernel
theorem dX3_leave_77 : decode cX3_leave 77 = .ok (.iload_n 3, 1) := by decide +kernel
theorem dX3_leave_78 : decode cX3_leave 78 = .ok (.iconst 1, 1) := by decide +kernel
theorem dX3_leave_79 : decode cX3_leave 79 = .ok (.iadd, 1) := by decide +kernel
theorem dX3_leave_80 : decode cX3_leave 80 = .ok (.iload 4, 2) := by decide +kernel
theorem dX3_leave_82 : decode cX3_leave 82 = .ok (.iload_n 2, 1) := by decide +kernel
theorem dX3_leave_83 : decode cX3_leave 83 = .ok (.if_icmp .ge 8, 3) := by decide +kernel
theorem dX3_leave_86 : decode cX3_leave 86 = .ok (.iload 4, 2) := by decide +kernel
theorem dX3_leave_88 : decode cX3_leave 88 = .ok (.goto 7, 3) := by decide +kernel
theorem dX3_leave_91 : decode cX3_leave 91 = .ok (.iload 4, 2) := by decide +kernel
theorem dX3_leave_93 : decode cX3_leave 93 = .ok (.iconst 1, 1) := by decide +kernel
theorem dX3_leave_94 : decode cX3_leave 94 = .ok (.iadd, 1) := by decide +kernel
theorem dX3_leave_95 : decode cX3_leave 95 = .ok (.invokevirtual 53, 3) := by decide +kernel
theorem dX3_leave_98 : decode cX3_leave 98 = .ok (.iastore, 1) := by decide +kernel
theorem dX3_leave_99 : decode cX3_leave 99 = .ok (.iinc 4 1, 3) := by decide +kernel
theorem dX3_leave_102 : decode cX3_leave 102 = .ok (.goto (-57), 3) := by decide +kernel
theorem dX3_leave_105 : decode cX3_leave 105 = .ok (.iinc 3 1, 3) := by decide +kernel
theorem dX3_leave_108 : decode cX3_leave 108 = .ok (.goto (-76), 3) := by decide +kernel
theorem dX3_leave_111 : decode cX3_leave 111 = .ok (.aload_n 0, 1) := by decide +kernel
theorem dX3_leave_112 : decode cX3_leave 112 = .ok (.dup, 1) := by decide +kernel
theorem dX3_leave_113 : decode cX3_leave 113 = .ok (.getfield 38, 3) := by decide +kernel
theorem dX3_leave_116 : decode cX3_leave 116 = .ok (.iconst 1, 1) := by decide +kernel
theorem dX3_leave_117 : decode cX3_leave 117 = .ok (.isub, 1) := by decide +kernel
theorem dX3_leave_118 : decode cX3_leave 118 = .ok (.putfield 38, 3) := by decide +kernel
theorem dX3_leave_121 : decode cX3_leave 121 = .ok (.iload_n 2, 1) := by decide +kernel
theorem dX3_leave_122 : decode cX3_leave 122 = .ok (.ireturn, 1) := by decide +kernel
set_option maxRecDepth 20000 in
theorem ggX3_toldOf_X3_bi : GoodIn wsX3_toldOf wsX3_bi := goodIn_r _ [9, 10, 19, 20, 21, 22, 23, 24, 25, 26, 27, 28, 29, 30, 31, 32, 33] rfl (by decide +kernel)
set_option maxRecDepth 20000 in
theorem gX3_toldOf_X3_bi : GoodIn wsX3_toldOf (wsV RX3 53 RX3 yX3_bi wsX3_bi) := goodIn_app (goodIn_of _ (by decide +kernel)) ggX3_toldOf_X3_bi
set_option maxRecDepth 20000 in
theorem ggX3_toldOf_X3_pays : GoodIn wsX3_toldOf wsX3_pays := goodIn_r _ [14, 1, 2, 5, 6, 7, 8, 9, 10, 19, 20, 21, 22, 23, 24, 25, 26, 27, 28, 29, 30, 31, 32, 33] rfl (by decide +kernel)
set_option maxRecDepth 20000 in
theorem gX3_toldOf_X3_pays : GoodIn wsX3_toldOf (wsV RX3 101 RX3 yX3_pays wsX3_pays) := goodIn_app (goodIn_of _ (by decide +kernel)) ggX3_toldOf_X3_pays
set_option maxRecDepth 20000 in
theorem ggX3_toldOf_X3_isEnvy : GoodIn wsX3_toldOf wsX3_isEnvy := goodIn_r _ [18, 1, 5, 6, 7, 8, 9, 10, 19, 20, 21, 22, 23, 24, 25, 26, 27, 28, 29, 30, 31, 32, 33] rfl (by decide +kernel)
set_option maxRecDepth 20000 in
theorem gX3_toldOf_X3_isEnvy : GoodIn wsX3_toldOf (wsV RX3 104 RX3 yX3_isEnvy wsX3_isEnvy) := goodIn_app (goodIn_of _ (by decide +kernel)) ggX3_toldOf_X3_isEnvy
theorem dX3_toldOf_0 : decode cX3_toldOf 0 = .ok (.iload_n 2, 1) := by decide +kernel
theorem dX3_toldOf_1 : decode cX3_toldOf 1 = .ok (.tableswitch 74 0 4 #[35, 42, 54, 61, 67], 35) := by decide +kernel
theorem dX3_toldOf_36 : decode cX3_toldOf 36 = .ok (.aload_n 0, 1) := by decide +kernel
theorem dX3_toldOf_37 : decode cX3_toldOf 37 = .ok (.getfield 13, 3) := by decide +kernel
theorem dX3_toldOf_40 : decode cX3_toldOf 40 = .ok (.iload_n 1, 1) := by decide +kernel
theorem dX3_toldOf_41 : decode cX3_toldOf 41 = .ok (.iaload, 1) := by decide +kernel
theorem dX3_toldOf_42 : decode cX3_toldOf 42 = .ok (.ireturn, 1) := by decide +kernel
theorem dX3_toldOf_43 : decode cX3_toldOf 43 = .ok (.aload_n 0, 1) := by decide +kernel
theorem dX3_toldOf_44 : decode cX3_toldOf 44 = .ok (.iload_n 1, 1) := by decide +kernel
theorem dX3_toldOf_45 : decode cX3_toldOf 45 = .ok (.aload_n 0, 1) := by decide +kernel
theorem dX3_toldOf_46 : decode cX3_toldOf 46 = .ok (.getfield 13, 3) := by decide +kernel
theorem dX3_toldOf_49 : decode cX3_toldOf 49 = .ok (.iload_n 1, 1) := by decide +kernel
theorem dX3_toldOf_50 : decode cX3_toldOf 50 = .ok (.iaload, 1) := by decide +kernel
theorem dX3_toldOf_51 : decode cX3_toldOf 51 = .ok (.invokevirtual 53, 3) := by decide +kernel
theorem dX3_toldOf_54 : decode cX3_toldOf 54 = .ok (.ireturn, 1) := by decide +kernel
theorem dX3_toldOf_55 : decode cX3_toldOf 55 = .ok (.aload_n 0, 1) := by decide +kernel
theorem dX3_toldOf_56 : decode cX3_toldOf 56 = .ok (.getfield 19, 3) := by decide +kernel
theorem dX3_toldOf_59 : decode cX3_toldOf 59 = .ok (.iload_n 1, 1) := by decide +kernel
theorem dX3_toldOf_60 : decode cX3_toldOf 60 = .ok (.iaload, 1) := by decide +kernel
theorem dX3_toldOf_61 : decode cX3_toldOf 61 = .ok (.ireturn, 1) := by decide +kernel
theorem dX3_toldOf_62 : decode cX3_toldOf 62 = .ok (.aload_n 0, 1) := by decide +kernel
theorem dX3_toldOf_63 : decode cX3_toldOf 63 = .ok (.iload_n 1, 1) := by decide +kernel
theorem dX3_toldOf_64 : decode cX3_toldOf 64 = .ok (.invokevirtual 101, 3) := by decide +kernel
theorem dX3_toldOf_67 : decode cX3_toldOf 67 = .ok (.ireturn, 1) := by decide +kernel
theorem dX3_toldOf_68 : decode cX3_toldOf 68 = .ok (.aload_n 0, 1) := by decide +kernel
theorem dX3_toldOf_69 : decode cX3_toldOf 69 = .ok (.getfield 16, 3) := by decide +kernel
theorem dX3_toldOf_72 : decode cX3_toldOf 72 = .ok (.iload_n 1, 1) := by decide +kernel
theorem dX3_toldOf_73 : decode cX3_toldOf 73 = .ok (.iaload, 1) := by decide +kernel
theorem dX3_toldOf_74 : decode cX3_toldOf 74 = .ok (.ireturn, 1) := by decide +kernel
theorem dX3_toldOf_75 : decode cX3_toldOf 75 = .ok (.iconst 0, 1) := by decide +kernel
theorem dX3_toldOf_76 : decode cX3_toldOf 76 = .ok (.istore_n 3, 1) := by decide +kernel
theorem dX3_toldOf_77 : decode cX3_toldOf 77 = .ok (.iconst 0, 1) := by decide +kernel
theorem dX3_toldOf_78 : decode cX3_toldOf 78 = .ok (.istore 4, 2) := by decide +kernel
theorem dX3_toldOf_80 : decode cX3_toldOf 80 = .ok (.iload 4, 2) := by decide +kernel
theorem dX3_toldOf_82 : decode cX3_toldOf 82 = .ok (.aload_n 0, 1) := by decide +kernel
theorem dX3_toldOf_83 : decode cX3_toldOf 83 = .ok (.getfield 38, 3) := by decide +kernel
theorem dX3_toldOf_86 : decode cX3_toldOf 86 = .ok (.if_icmp .ge 27, 3) := by decide +kernel
theorem dX3_toldOf_89 : decode cX3_toldOf 89 = .ok (.iload_n 3, 1) := by decide +kernel
theorem dX3_toldOf_90 : decode cX3_toldOf 90 = .ok (.aload_n 0, 1) := by decide +kernel
theorem dX3_toldOf_91 : decode cX3_toldOf 91 = .ok (.iload_n 1, 1) := by decide +kernel
theorem dX3_toldOf_92 : decode cX3_toldOf 92 = .ok (.iload 4, 2) := by decide +kernel
theorem dX3_toldOf_94 : decode cX3_toldOf 94 = .ok (.invokevirtual 104, 3) := by decide +kernel
theorem dX3_toldOf_97 : decode cX3_toldOf 97 = .ok (.ifCond .eq 7, 3) := by decide +kernel
theorem dX3_toldOf_100 : decode cX3_toldOf 100 = .ok (.iconst 1, 1) := by decide +kernel
theorem dX3_toldOf_101 : decode cX3_toldOf 101 = .ok (.goto 4, 3) := by decide +kernel
theorem dX3_toldOf_104 : decode cX3_toldOf 104 = .ok (.iconst 0, 1) := by decide +kernel
theorem dX3_toldOf_105 : decode cX3_toldOf 105 = .ok (.iadd, 1) := by decide +kernel
theorem dX3_toldOf_106 : decode cX3_toldOf 106 = .ok (.istore_n 3, 1) := by decide +kernel
theorem dX3_toldOf_107 : decode cX3_toldOf 107 = .ok (.iinc 4 1, 3) := by decide +kernel
theorem dX3_toldOf_110 : decode cX3_toldOf 110 = .ok (.goto (-30), 3) := by decide +kernel
theorem dX3_toldOf_113 : decode cX3_toldOf 113 = .ok (.iload_n 3, 1) := by decide +kernel
theorem dX3_toldOf_114 : decode cX3_toldOf 114 = .ok (.ireturn, 1) := by decide +kernel
set_option maxRecDepth 20000 in
theorem ggX3_told_X3_isOne : GoodIn wsX3_told wsX3_isOne := goodIn_r _ [6, 7, 8, 9, 5, 10, 72, 73, 74, 75, 76, 77, 78, 79, 80, 81, 82, 83, 84, 85, 86] rfl (by decide +kernel)
set_option maxRecDepth 20000 in
theorem gX3_told_X3_isOne : GoodIn wsX3_told (wsV RX3 49 RX3 yX3_isOne wsX3_isOne) := goodIn_app (goodIn_of _ (by decide +kernel)) ggX3_told_X3_isOne
set_option maxRecDepth 20000 in
theorem ggX3_told_X3_isIn : GoodIn wsX3_told wsX3_isIn := goodIn_r _ [10] rfl (by decide +kernel)
set_option maxRecDepth 20000 in
theorem gX3_told_X3_isIn : GoodIn wsX3_told (va_wsS RX3 41 yX3_isIn wsX3_isIn) := goodIn_app (goodIn_of _ (by decide +kernel)) ggX3_told_X3_isIn
set_option maxRecDepth 20000 in
theorem ggX3_told_X3_fail : GoodIn wsX3_told wsX3_fail := goodIn_r _ [14, 1, 72, 73, 74, 75, 76, 77, 78, 79, 80, 81, 82, 83, 84, 85, 86] rfl (by decide +kernel)
set_option maxRecDepth 20000 in
theorem gX3_told_X3_fail : GoodIn wsX3_told (wsV RX3 45 RX3 yX3_fail wsX3_fail) := goodIn_app (goodIn_of _ (by decide +kernel)) ggX3_told_X3_fail
set_option maxRecDepth 20000 in
theorem ggX3_told_X3_settle : GoodIn wsX3_told wsX3_settle := goodIn_r _ [18, 19, 20, 7, 21, 22, 23, 24, 25, 26, 5, 27, 28, 29, 30, 31, 32, 33, 34, 35, 36, 37, 38, 39, 40, 41, 42, 43, 44, 45, 46, 47, 48, 49, 50, 51, 52, 53, 54, 55, 56, 57, 58, 59, 72, 73, 74, 75, 76, 77, 78, 79, 80, 81, 82, 83, 84, 85, 86] rfl (by decide +kernel)
set_option maxRecDepth 20000 in
theorem gX3_told_X3_settle : GoodIn wsX3_told (wsV RX3 98 RX3 yX3_settle wsX3_settle) := goodIn_app (goodIn_of _ (by decide +kernel)) ggX3_told_X3_settle
set_option maxRecDepth 20000 in
theorem ggX3_told_X3_toldOf : GoodIn wsX3_told wsX3_toldOf := goodIn_r _ [63, 34, 22, 21, 7, 47, 48, 49, 5, 50, 51, 64, 65, 66, 67, 68, 69, 70, 71, 72, 73, 74, 75, 76, 77, 78, 79, 80, 81, 82, 83, 84, 85, 86] rfl (by decide +kernel)
set_option maxRecDepth 20000 in
theorem gX3_told_X3_toldOf : GoodIn wsX3_told (wsV RX3 107 RX3 yX3_toldOf wsX3_toldOf) := goodIn_app (goodIn_of _ (by decide +kernel)) ggX3_told_X3_toldOf
theorem dX3_told_0 : decode cX3_told 0 = .ok (.aload_n 0, 1) := by decide +kernel
theorem dX3_told_1 : decode cX3_told 1 = .ok (.iconst 0, 1) := by decide +kernel
theorem dX3_told_2 : decode cX3_told 2 = .ok (.putfield 35, 3) := by decide +kernel
theorem dX3_told_5 : decode cX3_told 5 = .ok (.aload_n 0, 1) := by decide +kernel
theorem dX3_told_6 : decode cX3_told 6 = .ok (.iload_n 1, 1) := by decide +kernel
theorem dX3_told_7 : decode cX3_told 7 = .ok (.invokevirtual 49, 3) := by decide +kernel
theorem dX3_told_10 : decode cX3_told 10 = .ok (.ifCond .eq 12, 3) := by decide +kernel
theorem dX3_told_13 : decode cX3_told 13 = .ok (.iload_n 2, 1) := by decide +kernel
theorem dX3_told_14 : decode cX3_told 14 = .ok (.iconst 0, 1) := by decide +kernel
theorem dX3_told_15 : decode cX3_told 15 = .ok (.iconst 5, 1) := by decide +kernel
theorem dX3_told_16 : decode cX3_told 16 = .ok (.invokestatic 41, 3) := by decide +kernel
theorem dX3_told_19 : decode cX3_told 19 = .ok (.ifCond .ne 9, 3) := by decide +kernel
theorem dX3_told_22 : decode cX3_told 22 = .ok (.aload_n 0, 1) := by decide +kernel
theorem dX3_told_23 : decode cX3_told 23 = .ok (.iconst 1, 1) := by decide +kernel
theorem dX3_told_24 : decode cX3_told 24 = .ok (.invokevirtual 45, 3) := by decide +kernel
theorem dX3_told_27 : decode cX3_told 27 = .ok (.ireturn, 1) := by decide +kernel
theorem dX3_told_28 : decode cX3_told 28 = .ok (.aload_n 0, 1) := by decide +kernel
theorem dX3_told_29 : decode cX3_told 29 = .ok (.invokevirtual 98, 3) := by decide +kernel
theorem dX3_told_32 : decode cX3_told 32 = .ok (.aload_n 0, 1) := by decide +kernel
theorem dX3_told_33 : decode cX3_told 33 = .ok (.iload_n 1, 1) := by decide +kernel
theorem dX3_told_34 : decode cX3_told 34 = .ok (.iload_n 2, 1) := by decide +kernel
theorem dX3_told_35 : decode cX3_told 35 = .ok (.invokevirtual 107, 3) := by decide +kernel
theorem dX3_told_38 : decode cX3_told 38 = .ok (.ireturn, 1) := by decide +kernel
set_option maxRecDepth 20000 in
theorem ggX3_offer_X3_isOne : GoodIn wsX3_offer wsX3_isOne := goodIn_r _ [6, 7, 8, 9, 5, 10, 20, 21, 22, 23, 24, 25, 26, 27, 28, 29, 30, 31, 32, 33, 34] rfl (by decide +kernel)
set_option maxRecDepth 20000 in
theorem gX3_offer_X3_isOne : GoodIn wsX3_offer (wsV RX3 49 RX3 yX3_isOne wsX3_isOne) := goodIn_app (goodIn_of _ (by decide +kernel)) ggX3_offer_X3_isOne
set_option maxRecDepth 20000 in
theorem ggX3_offer_X3_bi : GoodIn wsX3_offer wsX3_bi := goodIn_r _ [14, 15, 20, 21, 22, 23, 24, 25, 26, 27, 28, 29, 30, 31, 32, 33, 34] rfl (by decide +kernel)
set_option maxRecDepth 20000 in
theorem gX3_offer_X3_bi : GoodIn wsX3_offer (wsV RX3 53 RX3 yX3_bi wsX3_bi) := goodIn_app (goodIn_of _ (by decide +kernel)) ggX3_offer_X3_bi
set_option maxRecDepth 20000 in
theorem ggX3_offer_X3_fail : GoodIn wsX3_offer wsX3_fail := goodIn_r _ [19, 1, 20, 21, 22, 23, 24, 25, 26, 27, 28, 29, 30, 31, 32, 33, 34] rfl (by decide +kernel)
set_option maxRecDepth 20000 in
theorem gX3_offer_X3_fail : GoodIn wsX3_offer (wsV RX3 45 RX3 yX3_fail wsX3_fail) := goodIn_app (goodIn_of _ (by decide +kernel)) ggX3_offer_X3_fail
theorem dX3_offer_0 : decode cX3_offer 0 = .ok (.aload_n 0, 1) := by decide +kernel
theorem dX3_offer_1 : decode cX3_offer 1 = .ok (.iconst 0, 1) := by decide +kernel
theorem dX3_offer_2 : decode cX3_offer 2 = .ok (.putfield 35, 3) := by decide +kernel
theorem dX3_offer_5 : decode cX3_offer 5 = .ok (.aload_n 0, 1) := by decide +kernel
theorem dX3_offer_6 : decode cX3_offer 6 = .ok (.iload_n 1, 1) := by decide +kernel
theorem dX3_offer_7 : decode cX3_offer 7 = .ok (.invokevirtual 49, 3) := by decide +kernel
theorem dX3_offer_10 : decode cX3_offer 10 = .ok (.ifCond .eq 20, 3) := by decide +kernel
theorem dX3_offer_13 : decode cX3_offer 13 = .ok (.aload_n 0, 1) := by decide +kernel
theorem dX3_offer_14 : decode cX3_offer 14 = .ok (.iload_n 2, 1) := by decide +kernel
theorem dX3_offer_15 : decode cX3_offer 15 = .ok (.invokevirtual 49, 3) := by decide +kernel
theorem dX3_offer_18 : decode cX3_offer 18 = .ok (.ifCond .eq 12, 3) := by decide +kernel
theorem dX3_offer_21 : decode cX3_offer 21 = .ok (.aload_n 0, 1) := by decide +kernel
theorem dX3_offer_22 : decode cX3_offer 22 = .ok (.iload_n 1, 1) := by decide +kernel
theorem dX3_offer_23 : decode cX3_offer 23 = .ok (.iload_n 2, 1) := by decide +kernel
theorem dX3_offer_24 : decode cX3_offer 24 = .ok (.invokevirtual 53, 3) := by decide +kernel
theorem dX3_offer_27 : decode cX3_offer 27 = .ok (.goto 8, 3) := by decide +kernel
theorem dX3_offer_30 : decode cX3_offer 30 = .ok (.aload_n 0, 1) := by decide +kernel
theorem dX3_offer_31 : decode cX3_offer 31 = .ok (.iconst 1, 1) := by decide +kernel
theorem dX3_offer_32 : decode cX3_offer 32 = .ok (.invokevirtual 45, 3) := by decide +kernel
theorem dX3_offer_35 : decode cX3_offer 35 = .ok (.ireturn, 1) := by decide +kernel
set_option maxRecDepth 20000 in
theorem ggX3_counted_X3_settle : GoodIn wsX3_counted wsX3_settle := goodIn_r _ [11, 3, 2, 1, 12, 4, 5, 13, 14, 15, 10, 16, 6, 17, 18, 19, 20, 21, 22, 23, 24, 25, 26, 27, 28, 29, 30, 31, 32, 33, 34, 35, 36, 37, 38, 39, 40, 41, 42, 43, 44, 45, 46, 47, 52, 53, 54, 55, 56, 57, 58, 59, 60, 61, 62, 63, 64, 65, 66] rfl (by decide +kernel)
set_option maxRecDepth 20000 in
theorem gX3_counted_X3_settle : GoodIn wsX3_counted (wsV RX3 98 RX3 yX3_settle wsX3_settle) := goodIn_app (goodIn_of _ (by decide +kernel)) ggX3_counted_X3_settle
set_option maxRecDepth 20000 in
theorem ggX3_counted_X3_pays : GoodIn wsX3_counted wsX3_pays := goodIn_r _ [51, 22, 4, 35, 36, 37, 10, 38, 39, 52, 53, 54, 55, 56, 57, 58, 59, 60, 61, 62, 63, 64, 65, 66] rfl (by decide +kernel)
set_option maxRecDepth 20000 in
theorem gX3_counted_X3_pays : GoodIn wsX3_counted (wsV RX3 101 RX3 yX3_pays wsX3_pays) := goodIn_app (goodIn_of _ (by decide +kernel)) ggX3_counted_X3_pays
theorem dX3_counted_0 : decode cX3_counted 0 = .ok (.aload_n 0, 1) := by decide +kernel
theorem dX3_counted_1 : decode cX3_counted 1 = .ok (.invokevirtual 98, 3) := by decide +kernel
theorem dX3_counted_4 : decode cX3_counted 4 = .ok (.iconst 0, 1) := by decide +kernel
theorem dX3_counted_5 : decode cX3_counted 5 = .ok (.istore_n 2, 1) := by decide +kernel
theorem dX3_counted_6 : decode cX3_counted 6 = .ok (.iload_n 1, 1) := by decide +kernel
theorem dX3_counted_7 : decode cX3_counted 7 = .ok (.tableswitch 89 0 5 #[37, 42, 47, 52, 79, 84], 37) := by decide +kernel
theorem dX3_counted_44 : decode cX3_counted 44 = .ok (.aload_n 0, 1) := by decide +kernel
theorem dX3_counted_45 : decode cX3_counted 45 = .ok (.getfield 38, 3) := by decide +kernel
theorem dX3_counted_48 : decode cX3_counted 48 = .ok (.ireturn, 1) := by decide +kernel
theorem dX3_counted_49 : decode cX3_counted 49 = .ok (.aload_n 0, 1) := by decide +kernel
theorem dX3_counted_50 : decode cX3_counted 50 = .ok (.getfield 57, 3) := by decide +kernel
theorem dX3_counted_53 : decode cX3_counted 53 = .ok (.ireturn, 1) := by decide +kernel
theorem dX3_counted_54 : decode cX3_counted 54 = .ok (.aload_n 0, 1) := by decide +kernel
theorem dX3_counted_55 : decode cX3_counted 55 = .ok (.getfield 64, 3) := by decide +kernel
theorem dX3_counted_58 : decode cX3_counted 58 = .ok (.ireturn, 1) := by decide +kernel
theorem dX3_counted_59 : decode cX3_counted 59 = .ok (.iconst 0, 1) := by decide +kernel
theorem dX3_counted_60 : decode cX3_counted 60 = .ok (.istore_n 3, 1) := by decide +kernel
theorem dX3_counted_61 : decode cX3_counted 61 = .ok (.iload_n 3, 1) := by decide +kernel
theorem dX3_counted_62 : decode cX3_counted 62 = .ok (.aload_n 0, 1) := by decide +kernel
theorem dX3_counted_63 : decode cX3_counted 63 = .ok (.getfield 38, 3) := by decide +kernel
theorem dX3_counted_66 : decode cX3_counted 66 = .ok (.if_icmp .ge 18, 3) := by decide +kernel
theorem dX3_counted_69 : decode cX3_counted 69 = .ok (.iload_n 2, 1) := by decide +kernel
theorem dX3_counted_70 : decode cX3_counted 70 = .ok (.aload_n 0, 1) := by decide +kernel
theorem dX3_counted_71 : decode cX3_counted 71 = .ok (.getfield 19, 3) := by decide +kernel
theorem dX3_counted_74 : decode cX3_counted 74 = .ok (.iload_n 3, 1) := by decide +kernel
theorem dX3_counted_75 : decode cX3_counted 75 = .ok (.iaload, 1) := by decide +kernel
theorem dX3_counted_76 : decode cX3_counted 76 = .ok (.iadd, 1) := by decide +kernel
theorem dX3_counted_77 : decode cX3_counted 77 = .ok (.istore_n 2, 1) := by decide +kernel
theorem dX3_counted_78 : decode cX3_counted 78 = .ok (.iinc 3 1, 3) := by decide +kernel
theorem dX3_counted_81 : decode cX3_counted 81 = .ok (.goto (-20), 3) := by decide +kernel
theorem dX3_counted_84 : decode cX3_counted 84 = .ok (.iload_n 2, 1) := by decide +kernel
theorem dX3_counted_85 : decode cX3_counted 85 = .ok (.ireturn, 1) := by decide +kernel
theorem dX3_counted_86 : decode cX3_counted 86 = .ok (.aload_n 0, 1) := by decide +kernel
theorem dX3_counted_87 : decode cX3_counted 87 = .ok (.getfield 95, 3) := by decide +kernel
theorem dX3_counted_90 : decode cX3_counted 90 = .ok (.ireturn, 1) := by decide +kernel
theorem dX3_counted_91 : decode cX3_counted 91 = .ok (.aload_n 0, 1) := by decide +kernel
theorem dX3_counted_92 : decode cX3_counted 92 = .ok (.getfield 67, 3) := by decide +kernel
theorem dX3_counted_95 : decode cX3_counted 95 = .ok (.ireturn, 1) := by decide +kernel
theorem dX3_counted_96 : decode cX3_counted 96 = .ok (.iconst 0, 1) := by decide +kernel
theorem dX3_counted_97 : decode cX3_counted 97 = .ok (.istore_n 3, 1) := by decide +kernel
theorem dX3_counted_98 : decode cX3_counted 98 = .ok (.iload_n 3, 1) := by decide +kernel
theorem dX3_counted_99 : decode cX3_counted 99 = .ok (.aload_n 0, 1) := by decide +kernel
theorem dX3_counted_100 : decode cX3_counted 100 = .ok (.getfield 38, 3) := by decide +kernel
theorem dX3_counted_103 : decode cX3_counted 103 = .ok (.if_icmp .ge 17, 3) := by decide +kernel
theorem dX3_counted_106 : decode cX3_counted 106 = .ok (.iload_n 2, 1) := by decide +kernel
theorem dX3_counted_107 : decode cX3_counted 107 = .ok (.aload_n 0, 1) := by decide +kernel
theorem dX3_counted_108 : decode cX3_counted 108 = .ok (.iload_n 3, 1) := by decide +kernel
theorem dX3_counted_109 : decode cX3_counted 109 = .ok (.invokevirtual 101, 3) := by decide +kernel
theorem dX3_counted_112 : decode cX3_counted 112 = .ok (.iadd, 1) := by decide +kernel
theorem dX3_counted_113 : decode cX3_counted 113 = .ok (.istore_n 2, 1) := by decide +kernel
theorem dX3_counted_114 : decode cX3_counted 114 = .ok (.iinc 3 1, 3) := by decide +kernel
theorem dX3_counted_117 : decode cX3_counted 117 = .ok (.goto (-19), 3) := by decide +kernel
theorem dX3_counted_120 : decode cX3_counted 120 = .ok (.iload_n 2, 1) := by decide +kernel
theorem dX3_counted_121 : decode cX3_counted 121 = .ok (.ireturn, 1) := by decide +kernel
set_option maxRecDepth 20000 in
theorem ggX3_count_X3_isIn : GoodIn wsX3_count wsX3_isIn := goodIn_r _ [5] rfl (by decide +kernel)
set_option maxRecDepth 20000 in
theorem gX3_count_X3_isIn : GoodIn wsX3_count (va_wsS RX3 41 yX3_isIn wsX3_isIn) := goodIn_app (goodIn_of _ (by decide +kernel)) ggX3_count_X3_isIn
set_option maxRecDepth 20000 in
theorem ggX3_count_X3_counted : GoodIn wsX3_count wsX3_counted := goodIn_r _ [9, 10, 11, 12, 13, 14, 15, 16, 17, 18, 4, 19, 20, 21, 22, 23, 24, 25, 26, 27, 28, 29, 30, 31, 32, 33, 34, 35, 36, 37, 38, 39, 40, 41, 42, 43, 44, 45, 46, 47, 48, 49, 50, 51, 52, 53, 54, 55, 56, 57, 58, 59, 64, 65, 66, 67, 68, 69, 70, 71, 72, 73, 74, 75, 76, 77, 78] rfl (by decide +kernel)
set_option maxRecDepth 20000 in
theorem gX3_count_X3_counted : GoodIn wsX3_count (wsV RX3 110 RX3 yX3_counted wsX3_counted) := goodIn_app (goodIn_of _ (by decide +kernel)) ggX3_count_X3_counted
set_option maxRecDepth 20000 in
theorem ggX3_count_X3_fail : GoodIn wsX3_count wsX3_fail := goodIn_r _ [63, 1, 64, 65, 66, 67, 68, 69, 70, 71, 72, 73, 74, 75, 76, 77, 78] rfl (by decide +kernel)
set_option maxRecDepth 20000 in
theorem gX3_count_X3_fail : GoodIn wsX3_count (wsV RX3 45 RX3 yX3_fail wsX3_fail) := goodIn_app (goodIn_of _ (by decide +kernel)) ggX3_count_X3_fail
theorem dX3_count_0 : decode cX3_count 0 = .ok (.aload_n 0, 1) := by decide +kernel
theorem dX3_count_1 : decode cX3_count 1 = .ok (.iconst 0, 1) := by decide +kernel
theorem dX3_count_2 : decode cX3_count 2 = .ok (.putfield 35, 3) := by decide +kernel
theorem dX3_count_5 : decode cX3_count 5 = .ok (.iload_n 1, 1) := by decide +kernel
theorem dX3_count_6 : decode cX3_count 6 = .ok (.iconst 0, 1) := by decide +kernel
theorem dX3_count_7 : decode cX3_count 7 = .ok (.bipush 6, 2) := by decide +kernel
theorem dX3_count_9 : decode cX3_count 9 = .ok (.invokestatic 41, 3) := by decide +kernel
theorem dX3_count_12 : decode cX3_count 12 = .ok (.ifCond .eq 11, 3) := by decide +kernel
theorem dX3_count_15 : decode cX3_count 15 = .ok (.aload_n 0, 1) := by decide +kernel
theorem dX3_count_16 : decode cX3_count 16 = .ok (.iload_n 1, 1) := by decide +kernel
theorem dX3_count_17 : decode cX3_count 17 = .ok (.invokevirtual 110, 3) := by decide +kernel
theorem dX3_count_20 : decode cX3_count 20 = .ok (.goto 8, 3) := by decide +kernel
theorem dX3_count_23 : decode cX3_count 23 = .ok (.aload_n 0, 1) := by decide +kernel
theorem dX3_count_24 : decode cX3_count 24 = .ok (.iconst 1, 1) := by decide +kernel
theorem dX3_count_25 : decode cX3_count 25 = .ok (.invokevirtual 45, 3) := by decide +kernel
theorem dX3_count_28 : decode cX3_count 28 = .ok (.ireturn, 1) := by decide +kernel
set_option maxRecDepth 20000 in
theorem ggX3_envies_X3_isOne : GoodIn wsX3_envies wsX3_isOne := goodIn_r _ [6, 7, 8, 9, 5, 10, 44, 45, 46, 47, 48, 49, 50, 51, 52, 53, 54, 55, 56, 57, 58] rfl (by decide +kernel)
set_option maxRecDepth 20000 in
theorem gX3_envies_X3_isOne : GoodIn wsX3_envies (wsV RX3 49 RX3 yX3_isOne wsX3_isOne) := goodIn_app (goodIn_of _ (by decide +kernel)) ggX3_envies_X3_isOne
set_option maxRecDepth 20000 in
theorem ggX3_envies_X3_give : GoodIn wsX3_envies wsX3_give := goodIn_r _ [14, 15, 16, 17, 18, 19, 5, 20, 7, 21, 22, 23, 24, 25, 26, 27, 28, 29, 30, 31, 32, 33, 34, 35, 36, 37, 38, 39, 44, 45, 46, 47, 48, 49, 50, 51, 52, 53, 54, 55, 56, 57, 58] rfl (by decide +kernel)
set_option maxRecDepth 20000 in
theorem gX3_envies_X3_give : GoodIn wsX3_envies (wsV RX3 87 RX3 yX3_give wsX3_give) := goodIn_app (goodIn_of _ (by decide +kernel)) ggX3_envies_X3_give
set_option maxRecDepth 20000 in
theorem ggX3_envies_X3_isEnvy : GoodIn wsX3_envies wsX3_isEnvy := goodIn_r _ [43, 22, 35, 36, 37, 5, 38, 39, 44, 45, 46, 47, 48, 49, 50, 51, 52, 53, 54, 55, 56, 57, 58] rfl (by decide +kernel)
set_option maxRecDepth 20000 in
theorem gX3_envies_X3_isEnvy : GoodIn wsX3_envies (wsV RX3 104 RX3 yX3_isEnvy wsX3_isEnvy) := goodIn_app (goodIn_of _ (by decide +kernel)) ggX3_envies_X3_isEnvy
theorem dX3_envies_0 : decode cX3_envies 0 = .ok (.aload_n 0, 1) := by decide +kernel
theorem dX3_envies_1 : decode cX3_envies 1 = .ok (.aload_n 0, 1) := by decide +kernel
theorem dX3_envies_2 : decode cX3_envies 2 = .ok (.iload_n 1, 1) := by decide +kernel
theorem dX3_envies_3 : decode cX3_envies 3 = .ok (.invokevirtual 49, 3) := by decide +kernel
theorem dX3_envies_6 : decode cX3_envies 6 = .ok (.ifCond .eq 15, 3) := by decide +kernel
theorem dX3_envies_9 : decode cX3_envies 9 = .ok (.aload_n 0, 1) := by decide +kernel
theorem dX3_envies_10 : decode cX3_envies 10 = .ok (.iload_n 2, 1) := by decide +kernel
theorem dX3_envies_11 : decode cX3_envies 11 = .ok (.invokevirtual 49, 3) := by decide +kernel
theorem dX3_envies_14 : decode cX3_envies 14 = .ok (.ifCond .eq 7, 3) := by decide +kernel
theorem dX3_envies_17 : decode cX3_envies 17 = .ok (.iconst 0, 1) := by decide +kernel
theorem dX3_envies_18 : decode cX3_envies 18 = .ok (.goto 4, 3) := by decide +kernel
theorem dX3_envies_21 : decode cX3_envies 21 = .ok (.iconst 1, 1) := by decide +kernel
theorem dX3_envies_22 : decode cX3_envies 22 = .ok (.putfield 35, 3) := by decide +kernel
theorem dX3_envies_25 : decode cX3_envies 25 = .ok (.aload_n 0, 1) := by decide +kernel
theorem dX3_envies_26 : decode cX3_envies 26 = .ok (.getfield 35, 3) := by decide +kernel
theorem dX3_envies_29 : decode cX3_envies 29 = .ok (.ifCond .eq 5, 3) := by decide +kernel
theorem dX3_envies_32 : decode cX3_envies 32 = .ok (.iconst 0, 1) := by decide +kernel
theorem dX3_envies_33 : decode cX3_envies 33 = .ok (.ireturn, 1) := by decide +kernel
theorem dX3_envies_34 : decode cX3_envies 34 = .ok (.aload_n 0, 1) := by decide +kernel
theorem dX3_envies_35 : decode cX3_envies 35 = .ok (.invokevirtual 87, 3) := by decide +kernel
theorem dX3_envies_38 : decode cX3_envies 38 = .ok (.pop, 1) := by decide +kernel
theorem dX3_envies_39 : decode cX3_envies 39 = .ok (.aload_n 0, 1) := by decide +kernel
theorem dX3_envies_40 : decode cX3_envies 40 = .ok (.iload_n 1, 1) := by decide +kernel
theorem dX3_envies_41 : decode cX3_envies 41 = .ok (.iload_n 2, 1) := by decide +kernel
theorem dX3_envies_42 : decode cX3_envies 42 = .ok (.invokevirtual 104, 3) := by decide +kernel
theorem dX3_envies_45 : decode cX3_envies 45 = .ok (.ireturn, 1) := by decide +kernel
set_option maxRecDepth 20000 in
theorem ggX3_gap_X3_isOne : GoodIn wsX3_gap wsX3_isOne := goodIn_r _ [8, 9, 10, 11, 7, 12, 64, 65, 66, 67, 68, 69, 70, 71, 72, 73, 74, 75, 76, 77, 78] rfl (by decide +kernel)
set_option maxRecDepth 20000 in
theorem gX3_gap_X3_isOne : GoodIn wsX3_gap (wsV RX3 49 RX3 yX3_isOne wsX3_isOne) := goodIn_app (goodIn_of _ (by decide +kernel)) ggX3_gap_X3_isOne
set_option maxRecDepth 20000 in
theorem ggX3_gap_X3_fail : GoodIn wsX3_gap wsX3_fail := goodIn_r _ [16, 1, 64, 65, 66, 67, 68, 69, 70, 71, 72, 73, 74, 75, 76, 77, 78] rfl (by decide +kernel)
set_option maxRecDepth 20000 in
theorem gX3_gap_X3_fail : GoodIn wsX3_gap (wsV RX3 45 RX3 yX3_fail wsX3_fail) := goodIn_app (goodIn_of _ (by decide +kernel)) ggX3_gap_X3_fail
set_option maxRecDepth 20000 in
theorem ggX3_gap_X3_settle : GoodIn wsX3_gap wsX3_settle := goodIn_r _ [20, 21, 22, 9, 23, 2, 24, 25, 26, 27, 7, 28, 29, 30, 31, 32, 33, 34, 3, 35, 36, 37, 38, 39, 40, 41, 42, 43, 44, 45, 46, 47, 48, 49, 50, 51, 52, 53, 54, 55, 56, 57, 58, 59, 64, 65, 66, 67, 68, 69, 70, 71, 72, 73, 74, 75, 76, 77, 78] rfl (by decide +kernel)
set_option maxRecDepth 20000 in
theorem gX3_gap_X3_settle : GoodIn wsX3_gap (wsV RX3 98 RX3 yX3_settle wsX3_settle) := goodIn_app (goodIn_of _ (by decide +kernel)) ggX3_gap_X3_settle
set_option maxRecDepth 20000 in
theorem ggX3_gap_X3_bi : GoodIn wsX3_gap wsX3_bi := goodIn_r _ [50, 51, 64, 65, 66, 67, 68, 69, 70, 71, 72, 73, 74, 75, 76, 77, 78] rfl (by decide +kernel)
set_option maxRecDepth 20000 in
theorem gX3_gap_X3_bi : GoodIn wsX3_gap (wsV RX3 53 RX3 yX3_bi wsX3_bi) := goodIn_app (goodIn_of _ (by decide +kernel)) ggX3_gap_X3_bi
set_option maxRecDepth 20000 in
theorem ggX3_gap_X3_pays : GoodIn wsX3_gap wsX3_pays := goodIn_r _ [63, 3, 2, 47, 48, 49, 7, 50, 51, 64, 65, 66, 67, 68, 69, 70, 71, 72, 73, 74, 75, 76, 77, 78] rfl (by decide +kernel)
set_option maxRecDepth 20000 in
theorem gX3_gap_X3_pays : GoodIn wsX3_gap (wsV RX3 101 RX3 yX3_pays wsX3_pays) := goodIn_app (goodIn_of _ (by decide +kernel)) ggX3_gap_X3_pays
theorem dX3_gap_0 : decode cX3_gap 0 = .ok (.aload_n 0, 1) := by decide +kernel
theorem dX3_gap_1 : decode cX3_gap 1 = .ok (.iconst 0, 1) := by decide +kernel
theorem dX3_gap_2 : decode cX3_gap 2 = .ok (.putfield 35, 3) := by decide +kernel
theorem dX3_gap_5 : decode cX3_gap 5 = .ok (.aload_n 0, 1) := by decide +kernel
theorem dX3_gap_6 : decode cX3_gap 6 = .ok (.iload_n 1, 1) := by decide +kernel
theorem dX3_gap_7 : decode cX3_gap 7 = .ok (.invokevirtual 49, 3) := by decide +kernel
theorem dX3_gap_10 : decode cX3_gap 10 = .ok (.ifCond .eq 11, 3) := by decide +kernel
theorem dX3_gap_13 : decode cX3_gap 13 = .ok (.aload_n 0, 1) := by decide +kernel
theorem dX3_gap_14 : decode cX3_gap 14 = .ok (.iload_n 2, 1) := by decide +kernel
theorem dX3_gap_15 : decode cX3_gap 15 = .ok (.invokevirtual 49, 3) := by decide +kernel
theorem dX3_gap_18 : decode cX3_gap 18 = .ok (.ifCond .ne 9, 3) := by decide +kernel
theorem dX3_gap_21 : decode cX3_gap 21 = .ok (.aload_n 0, 1) := by decide +kernel
theorem dX3_gap_22 : decode cX3_gap 22 = .ok (.iconst 1, 1) := by decide +kernel
theorem dX3_gap_23 : decode cX3_gap 23 = .ok (.invokevirtual 45, 3) := by decide +kernel
theorem dX3_gap_26 : decode cX3_gap 26 = .ok (.ireturn, 1) := by decide +kernel
theorem dX3_gap_27 : decode cX3_gap 27 = .ok (.aload_n 0, 1) := by decide +kernel
theorem dX3_gap_28 : decode cX3_gap 28 = .ok (.invokevirtual 98, 3) := by decide +kernel
theorem dX3_gap_31 : decode cX3_gap 31 = .ok (.aload_n 0, 1) := by decide +kernel
theorem dX3_gap_32 : decode cX3_gap 32 = .ok (.getfield 19, 3) := by decide +kernel
theorem dX3_gap_35 : decode cX3_gap 35 = .ok (.iload_n 1, 1) := by decide +kernel
theorem dX3_gap_36 : decode cX3_gap 36 = .ok (.iaload, 1) := by decide +kernel
theorem dX3_gap_37 : decode cX3_gap 37 = .ok (.aload_n 0, 1) := by decide +kernel
theorem dX3_gap_38 : decode cX3_gap 38 = .ok (.iload_n 1, 1) := by decide +kernel
theorem dX3_gap_39 : decode cX3_gap 39 = .ok (.aload_n 0, 1) := by decide +kernel
theorem dX3_gap_40 : decode cX3_gap 40 = .ok (.getfield 13, 3) := by decide +kernel
theorem dX3_gap_43 : decode cX3_gap 43 = .ok (.iload_n 2, 1) := by decide +kernel
theorem dX3_gap_44 : decode cX3_gap 44 = .ok (.iaload, 1) := by decide +kernel
theorem dX3_gap_45 : decode cX3_gap 45 = .ok (.invokevirtual 53, 3) := by decide +kernel
theorem dX3_gap_48 : decode cX3_gap 48 = .ok (.aload_n 0, 1) := by decide +kernel
theorem dX3_gap_49 : decode cX3_gap 49 = .ok (.iload_n 2, 1) := by decide +kernel
theorem dX3_gap_50 : decode cX3_gap 50 = .ok (.invokevirtual 101, 3) := by decide +kernel
theorem dX3_gap_53 : decode cX3_gap 53 = .ok (.isub, 1) := by decide +kernel
theorem dX3_gap_54 : decode cX3_gap 54 = .ok (.isub, 1) := by decide +kernel
theorem dX3_gap_55 : decode cX3_gap 55 = .ok (.ireturn, 1) := by decide +kernel
set_option maxRecDepth 20000 in
theorem ggX3_chainFrom_X3_isEnvy : GoodIn wsX3_chainFrom wsX3_isEnvy := goodIn_r _ [10, 11, 12, 13, 14, 9, 15, 16, 20, 21, 22, 23, 24, 25, 26, 27, 28, 29, 30, 31, 32, 33, 34] rfl (by decide +kernel)
set_option maxRecDepth 20000 in
theorem gX3_chainFrom_X3_isEnvy : GoodIn wsX3_chainFrom (wsV RX3 104 RX3 yX3_isEnvy wsX3_isEnvy) := goodIn_app (goodIn_of _ (by decide +kernel)) ggX3_chainFrom_X3_isEnvy
set_option maxRecDepth 20000 in
theorem ggX3_chainFrom_X3_chainFrom : GoodIn wsX3_chainFrom wsX3_chainFrom := goodIn_r _ [0, 1, 2, 3, 4, 5, 6, 7, 8, 9, 10, 11, 12, 13, 14, 15, 16, 17, 18, 19, 20, 21, 22, 23, 24, 25, 26, 27, 28, 29, 30, 31, 32, 33, 34] rfl (by decide +kernel)
set_option maxRecDepth 20000 in
theorem gX3_chainFrom_X3_chainFrom : GoodIn wsX3_chainFrom (wsV RX3 113 RX3 yX3_chainFrom wsX3_chainFrom) := goodIn_app (goodIn_of _ (by decide +kernel)) ggX3_chainFrom_X3_chainFrom
theorem dX3_chainFrom_0 : decode cX3_chainFrom 0 = .ok (.iconst 0, 1) := by decide +kernel
theorem dX3_chainFrom_1 : decode cX3_chainFrom 1 = .ok (.istore_n 2, 1) := by decide +kernel
theorem dX3_chainFrom_2 : decode cX3_chainFrom 2 = .ok (.iconst 0, 1) := by decide +kernel
theorem dX3_chainFrom_3 : decode cX3_chainFrom 3 = .ok (.istore_n 3, 1) := by decide +kernel
theorem dX3_chainFrom_4 : decode cX3_chainFrom 4 = .ok (.iload_n 3, 1) := by decide +kernel
theorem dX3_chainFrom_5 : decode cX3_chainFrom 5 = .ok (.aload_n 0, 1) := by decide +kernel
theorem dX3_chainFrom_6 : decode cX3_chainFrom 6 = .ok (.getfield 38, 3) := by decide +kernel
theorem dX3_chainFrom_9 : decode cX3_chainFrom 9 = .ok (.if_icmp .ge 28, 3) := by decide +kernel
theorem dX3_chainFrom_12 : decode cX3_chainFrom 12 = .ok (.aload_n 0, 1) := by decide +kernel
theorem dX3_chainFrom_13 : decode cX3_chainFrom 13 = .ok (.iload_n 1, 1) := by decide +kernel
theorem dX3_chainFrom_14 : decode cX3_chainFrom 14 = .ok (.iload_n 3, 1) := by decide +kernel
theorem dX3_chainFrom_15 : decode cX3_chainFrom 15 = .ok (.invokevirtual 104, 3) := by decide +kernel
theorem dX3_chainFrom_18 : decode cX3_chainFrom 18 = .ok (.ifCond .eq 13, 3) := by decide +kernel
theorem dX3_chainFrom_21 : decode cX3_chainFrom 21 = .ok (.iload_n 2, 1) := by decide +kernel
theorem dX3_chainFrom_22 : decode cX3_chainFrom 22 = .ok (.aload_n 0, 1) := by decide +kernel
theorem dX3_chainFrom_23 : decode cX3_chainFrom 23 = .ok (.iload_n 3, 1) := by decide +kernel
theorem dX3_chainFrom_24 : decode cX3_chainFrom 24 = .ok (.invokevirtual 113, 3) := by decide +kernel
theorem dX3_chainFrom_27 : decode cX3_chainFrom 27 = .ok (.invokestatic 116, 3) := by decide +kernel
theorem dX3_chainFrom_30 : decode cX3_chainFrom 30 = .ok (.istore_n 2, 1) := by decide +kernel
theorem dX3_chainFrom_31 : decode cX3_chainFrom 31 = .ok (.iinc 3 1, 3) := by decide +kernel
theorem dX3_chainFrom_34 : decode cX3_chainFrom 34 = .ok (.goto (-30), 3) := by decide +kernel
theorem dX3_chainFrom_37 : decode cX3_chainFrom 37 = .ok (.iload_n 2, 1) := by decide +kernel
theorem dX3_chainFrom_38 : decode cX3_chainFrom 38 = .ok (.iconst 1, 1) := by decide +kernel
theorem dX3_chainFrom_39 : decode cX3_chainFrom 39 = .ok (.iadd, 1) := by decide +kernel
theorem dX3_chainFrom_40 : decode cX3_chainFrom 40 = .ok (.ireturn, 1) := by decide +kernel
set_option maxRecDepth 20000 in
theorem ggX3_chain_X3_give : GoodIn wsX3_chain wsX3_give := goodIn_r _ [11, 12, 13, 14, 15, 16, 10, 17, 2, 18, 19, 20, 21, 22, 23, 24, 25, 26, 27, 28, 29, 30, 31, 32, 33, 34, 35, 36, 45, 46, 47, 48, 49, 50, 51, 52, 53, 54, 55, 56, 57, 58, 59] rfl (by decide +kernel)
set_option maxRecDepth 20000 in
theorem gX3_chain_X3_give : GoodIn wsX3_chain (wsV RX3 87 RX3 yX3_give wsX3_give) := goodIn_app (goodIn_of _ (by decide +kernel)) ggX3_chain_X3_give
set_option maxRecDepth 20000 in
theorem ggX3_chain_X3_chainFrom : GoodIn wsX3_chain wsX3_chainFrom := goodIn_r _ [40, 2, 3, 4, 5, 6, 41, 42, 43, 10, 44, 19, 32, 33, 34, 35, 36, 37, 38, 39, 45, 46, 47, 48, 49, 50, 51, 52, 53, 54, 55, 56, 57, 58, 59] rfl (by decide +kernel)
set_option maxRecDepth 20000 in
theorem gX3_chain_X3_chainFrom : GoodIn wsX3_chain (wsV RX3 113 RX3 yX3_chainFrom wsX3_chainFrom) := goodIn_app (goodIn_of _ (by decide +kernel)) ggX3_chain_X3_chainFrom
theorem dX3_chain_0 : decode cX3_chain 0 = .ok (.aload_n 0, 1) := by decide +kernel
theorem dX3_chain_1 : decode cX3_chain 1 = .ok (.iconst 0, 1) := by decide +kernel
theorem dX3_chain_2 : decode cX3_chain 2 = .ok (.putfield 35, 3) := by decide +kernel
theorem dX3_chain_5 : decode cX3_chain 5 = .ok (.aload_n 0, 1) := by decide +kernel
theorem dX3_chain_6 : decode cX3_chain 6 = .ok (.invokevirtual 87, 3) := by decide +kernel
theorem dX3_chain_9 : decode cX3_chain 9 = .ok (.pop, 1) := by decide +kernel
theorem dX3_chain_10 : decode cX3_chain 10 = .ok (.iconst 0, 1) := by decide +kernel
theorem dX3_chain_11 : decode cX3_chain 11 = .ok (.istore_n 1, 1) := by decide +kernel
theorem dX3_chain_12 : decode cX3_chain 12 = .ok (.iconst 0, 1) := by decide +kernel
theorem dX3_chain_13 : decode cX3_chain 13 = .ok (.istore_n 2, 1) := by decide +kernel
theorem dX3_chain_14 : decode cX3_chain 14 = .ok (.iload_n 2, 1) := by decide +kernel
theorem dX3_chain_15 : decode cX3_chain 15 = .ok (.aload_n 0, 1) := by decide +kernel
theorem dX3_chain_16 : decode cX3_chain 16 = .ok (.getfield 38, 3) := by decide +kernel
theorem dX3_chain_19 : decode cX3_chain 19 = .ok (.if_icmp .ge 19, 3) := by decide +kernel
theorem dX3_chain_22 : decode cX3_chain 22 = .ok (.iload_n 1, 1) := by decide +kernel
theorem dX3_chain_23 : decode cX3_chain 23 = .ok (.aload_n 0, 1) := by decide +kernel
theorem dX3_chain_24 : decode cX3_chain 24 = .ok (.iload_n 2, 1) := by decide +kernel
theorem dX3_chain_25 : decode cX3_chain 25 = .ok (.invokevirtual 113, 3) := by decide +kernel
theorem dX3_chain_28 : decode cX3_chain 28 = .ok (.invokestatic 116, 3) := by decide +kernel
theorem dX3_chain_31 : decode cX3_chain 31 = .ok (.istore_n 1, 1) := by decide +kernel
theorem dX3_chain_32 : decode cX3_chain 32 = .ok (.iinc 2 1, 3) := by decide +kernel
theorem dX3_chain_35 : decode cX3_chain 35 = .ok (.goto (-21), 3) := by decide +kernel
theorem dX3_chain_38 : decode cX3_chain 38 = .ok (.iload_n 1, 1) := by decide +kernel
theorem dX3_chain_39 : decode cX3_chain 39 = .ok (.ireturn, 1) := by decide +kernel
set_option maxRecDepth 20000 in
theorem ggX3_roomWith_X3_bi : GoodIn wsX3_roomWith wsX3_bi := goodIn_r _ [7, 1, 32, 33, 34, 35, 36, 37, 38, 39, 40, 41, 42, 43, 44, 45, 46] rfl (by decide +kernel)
set_option maxRecDepth 20000 in
theorem gX3_roomWith_X3_bi : GoodIn wsX3_roomWith (wsV RX3 53 RX3 yX3_bi wsX3_bi) := goodIn_app (goodIn_of _ (by decide +kernel)) ggX3_roomWith_X3_bi
set_option maxRecDepth 20000 in
theorem ggX3_roomWith_X3_give : GoodIn wsX3_roomWith wsX3_give := goodIn_r _ [11, 12, 13, 14, 15, 16, 6, 17, 18, 19, 2, 20, 21, 22, 23, 24, 25, 26, 27, 28, 29, 30, 31, 3, 4, 5, 7, 1, 32, 33, 34, 35, 36, 37, 38, 39, 40, 41, 42, 43, 44, 45, 46] rfl (by decide +kernel)
set_option maxRecDepth 20000 in
theorem gX3_roomWith_X3_give : GoodIn wsX3_roomWith (wsV RX3 87 RX3 yX3_give wsX3_give) := goodIn_app (goodIn_of _ (by decide +kernel)) ggX3_roomWith_X3_give
theorem dX3_roomWith_0 : decode cX3_roomWith 0 = .ok (.aload_n 0, 1) := by decide +kernel
theorem dX3_roomWith_1 : decode cX3_roomWith 1 = .ok (.iload_n 1, 1) := by decide +kernel
theorem dX3_roomWith_2 : decode cX3_roomWith 2 = .ok (.iload_n 2, 1) := by decide +kernel
theorem dX3_roomWith_3 : decode cX3_roomWith 3 = .ok (.invokevirtual 53, 3) := by decide +kernel
theorem dX3_roomWith_6 : decode cX3_roomWith 6 = .ok (.istore 4, 2) := by decide +kernel
theorem dX3_roomWith_8 : decode cX3_roomWith 8 = .ok (.aload_n 0, 1) := by decide +kernel
theorem dX3_roomWith_9 : decode cX3_roomWith 9 = .ok (.getfield 9, 3) := by decide +kernel
theorem dX3_roomWith_12 : decode cX3_roomWith 12 = .ok (.bipush 6, 2) := by decide +kernel
theorem dX3_roomWith_14 : decode cX3_roomWith 14 = .ok (.iload_n 1, 1) := by decide +kernel
theorem dX3_roomWith_15 : decode cX3_roomWith 15 = .ok (.imul, 1) := by decide +kernel
theorem dX3_roomWith_16 : decode cX3_roomWith 16 = .ok (.iload_n 2, 1) := by decide +kernel
theorem dX3_roomWith_17 : decode cX3_roomWith 17 = .ok (.iadd, 1) := by decide +kernel
theorem dX3_roomWith_18 : decode cX3_roomWith 18 = .ok (.iload_n 3, 1) := by decide +kernel
theorem dX3_roomWith_19 : decode cX3_roomWith 19 = .ok (.iastore, 1) := by decide +kernel
theorem dX3_roomWith_20 : decode cX3_roomWith 20 = .ok (.aload_n 0, 1) := by decide +kernel
theorem dX3_roomWith_21 : decode cX3_roomWith 21 = .ok (.invokevirtual 87, 3) := by decide +kernel
theorem dX3_roomWith_24 : decode cX3_roomWith 24 = .ok (.pop, 1) := by decide +kernel
theorem dX3_roomWith_25 : decode cX3_roomWith 25 = .ok (.aload_n 0, 1) := by decide +kernel
theorem dX3_roomWith_26 : decode cX3_roomWith 26 = .ok (.getfield 9, 3) := by decide +kernel
theorem dX3_roomWith_29 : decode cX3_roomWith 29 = .ok (.bipush 6, 2) := by decide +kernel
theorem dX3_roomWith_31 : decode cX3_roomWith 31 = .ok (.iload_n 1, 1) := by decide +kernel
theorem dX3_roomWith_32 : decode cX3_roomWith 32 = .ok (.imul, 1) := by decide +kernel
theorem dX3_roomWith_33 : decode cX3_roomWith 33 = .ok (.iload_n 2, 1) := by decide +kernel
theorem dX3_roomWith_34 : decode cX3_roomWith 34 = .ok (.iadd, 1) := by decide +kernel
theorem dX3_roomWith_35 : decode cX3_roomWith 35 = .ok (.iload 4, 2) := by decide +kernel
theorem dX3_roomWith_37 : decode cX3_roomWith 37 = .ok (.iastore, 1) := by decide +kernel
theorem dX3_roomWith_38 : decode cX3_roomWith 38 = .ok (.aload_n 0, 1) := by decide +kernel
theorem dX3_roomWith_39 : decode cX3_roomWith 39 = .ok (.getfield 13, 3) := by decide +kernel
theorem dX3_roomWith_42 : decode cX3_roomWith 42 = .ok (.iload_n 1, 1) := by decide +kernel
theorem dX3_roomWith_43 : decode cX3_roomWith 43 = .ok (.iaload, 1) := by decide +kernel
theorem dX3_roomWith_44 : decode cX3_roomWith 44 = .ok (.ireturn, 1) := by decide +kernel
set_option maxRecDepth 20000 in
theorem ggX3_would_X3_isOne : GoodIn wsX3_would wsX3_isOne := goodIn_r _ [6, 7, 8, 9, 5, 10, 48, 49, 50, 51, 52, 53, 54, 55, 56, 57, 58, 59, 60, 61, 62] rfl (by decide +kernel)
set_option maxRecDepth 20000 in
theorem gX3_would_X3_isOne : GoodIn wsX3_would (wsV RX3 49 RX3 yX3_isOne wsX3_isOne) := goodIn_app (goodIn_of _ (by decide +kernel)) ggX3_would_X3_isOne
set_option maxRecDepth 20000 in
theorem ggX3_would_X3_fail : GoodIn wsX3_would wsX3_fail := goodIn_r _ [14, 1, 48, 49, 50, 51, 52, 53, 54, 55, 56, 57, 58, 59, 60, 61, 62] rfl (by decide +kernel)
set_option maxRecDepth 20000 in
theorem gX3_would_X3_fail : GoodIn wsX3_would (wsV RX3 45 RX3 yX3_fail wsX3_fail) := goodIn_app (goodIn_of _ (by decide +kernel)) ggX3_would_X3_fail
set_option maxRecDepth 20000 in
theorem ggX3_would_X3_isIn : GoodIn wsX3_would wsX3_isIn := goodIn_r _ [10] rfl (by decide +kernel)
set_option maxRecDepth 20000 in
theorem gX3_would_X3_isIn : GoodIn wsX3_would (va_wsS RX3 41 yX3_isIn wsX3_isIn) := goodIn_app (goodIn_of _ (by decide +kernel)) ggX3_would_X3_isIn
set_option maxRecDepth 20000 in
theorem ggX3_would_X3_roomWith : GoodIn wsX3_would wsX3_roomWith := goodIn_r _ [18, 19, 20, 21, 22, 23, 5, 24, 25, 26, 27, 28, 29, 30, 31, 32, 33, 34, 7, 35, 36, 37, 38, 39, 40, 41, 42, 43, 44, 45, 46, 47, 48, 49, 50, 51, 52, 53, 54, 55, 56, 57, 58, 59, 60, 61, 62] rfl (by decide +kernel)
set_option maxRecDepth 20000 in
theorem gX3_would_X3_roomWith : GoodIn wsX3_would (wsV RX3 121 RX3 yX3_roomWith wsX3_roomWith) := goodIn_app (goodIn_of _ (by decide +kernel)) ggX3_would_X3_roomWith
theorem dX3_would_0 : decode cX3_would 0 = .ok (.aload_n 0, 1) := by decide +kernel
theorem dX3_would_1 : decode cX3_would 1 = .ok (.iconst 0, 1) := by decide +kernel
theorem dX3_would_2 : decode cX3_would 2 = .ok (.putfield 35, 3) := by decide +kernel
theorem dX3_would_5 : decode cX3_would 5 = .ok (.aload_n 0, 1) := by decide +kernel
theorem dX3_would_6 : decode cX3_would 6 = .ok (.iload_n 1, 1) := by decide +kernel
theorem dX3_would_7 : decode cX3_would 7 = .ok (.invokevirtual 49, 3) := by decide +kernel
theorem dX3_would_10 : decode cX3_would 10 = .ok (.ifCond .eq 11, 3) := by decide +kernel
theorem dX3_would_13 : decode cX3_would 13 = .ok (.aload_n 0, 1) := by decide +kernel
theorem dX3_would_14 : decode cX3_would 14 = .ok (.iload_n 2, 1) := by decide +kernel
theorem dX3_would_15 : decode cX3_would 15 = .ok (.invokevirtual 49, 3) := by decide +kernel
theorem dX3_would_18 : decode cX3_would 18 = .ok (.ifCond .ne 9, 3) := by decide +kernel
theorem dX3_would_21 : decode cX3_would 21 = .ok (.aload_n 0, 1) := by decide +kernel
theorem dX3_would_22 : decode cX3_would 22 = .ok (.iconst 1, 1) := by decide +kernel
theorem dX3_would_23 : decode cX3_would 23 = .ok (.invokevirtual 45, 3) := by decide +kernel
theorem dX3_would_26 : decode cX3_would 26 = .ok (.ireturn, 1) := by decide +kernel
theorem dX3_would_27 : decode cX3_would 27 = .ok (.iload_n 3, 1) := by decide +kernel
theorem dX3_would_28 : decode cX3_would 28 = .ok (.iconst 0, 1) := by decide +kernel
theorem dX3_would_29 : decode cX3_would 29 = .ok (.sipush 999, 3) := by decide +kernel
theorem dX3_would_32 : decode cX3_would 32 = .ok (.invokestatic 41, 3) := by decide +kernel
theorem dX3_would_35 : decode cX3_would 35 = .ok (.ifCond .eq 13, 3) := by decide +kernel
theorem dX3_would_38 : decode cX3_would 38 = .ok (.aload_n 0, 1) := by decide +kernel
theorem dX3_would_39 : decode cX3_would 39 = .ok (.iload_n 1, 1) := by decide +kernel
theorem dX3_would_40 : decode cX3_would 40 = .ok (.iload_n 2, 1) := by decide +kernel
theorem dX3_would_41 : decode cX3_would 41 = .ok (.iload_n 3, 1) := by decide +kernel
theorem dX3_would_42 : decode cX3_would 42 = .ok (.invokevirtual 121, 3) := by decide +kernel
theorem dX3_would_45 : decode cX3_would 45 = .ok (.goto 8, 3) := by decide +kernel
theorem dX3_would_48 : decode cX3_would 48 = .ok (.aload_n 0, 1) := by decide +kernel
theorem dX3_would_49 : decode cX3_would 49 = .ok (.iconst 2, 1) := by decide +kernel
theorem dX3_would_50 : decode cX3_would 50 = .ok (.invokevirtual 45, 3) := by decide +kernel
theorem dX3_would_53 : decode cX3_would 53 = .ok (.ireturn, 1) := by decide +kernel
set_option maxRecDepth 20000 in
theorem ggX3_worthWith_X3_give : GoodIn wsX3_worthWith wsX3_give := goodIn_r _ [9, 10, 11, 12, 13, 14, 8, 15, 16, 17, 18, 19, 20, 21, 22, 4, 23, 24, 25, 26, 1, 3, 2, 27, 28, 29, 30, 31, 32, 33, 34, 35, 36, 37, 38, 39, 40, 41, 42, 43, 44, 45, 46] rfl (by decide +kernel)
set_option maxRecDepth 20000 in
theorem gX3_worthWith_X3_give : GoodIn wsX3_worthWith (wsV RX3 87 RX3 yX3_give wsX3_give) := goodIn_app (goodIn_of _ (by decide +kernel)) ggX3_worthWith_X3_give
theorem dX3_worthWith_0 : decode cX3_worthWith 0 = .ok (.aload_n 0, 1) := by decide +kernel
theorem dX3_worthWith_1 : decode cX3_worthWith 1 = .ok (.iload_n 1, 1) := by decide +kernel
theorem dX3_worthWith_2 : decode cX3_worthWith 2 = .ok (.putfield 29, 3) := by decide +kernel
theorem dX3_worthWith_5 : decode cX3_worthWith 5 = .ok (.aload_n 0, 1) := by decide +kernel
theorem dX3_worthWith_6 : decode cX3_worthWith 6 = .ok (.iload_n 2, 1) := by decide +kernel
theorem dX3_worthWith_7 : decode cX3_worthWith 7 = .ok (.putfield 32, 3) := by decide +kernel
theorem dX3_worthWith_10 : decode cX3_worthWith 10 = .ok (.aload_n 0, 1) := by decide +kernel
theorem dX3_worthWith_11 : decode cX3_worthWith 11 = .ok (.iload_n 3, 1) := by decide +kernel
theorem dX3_worthWith_12 : decode cX3_worthWith 12 = .ok (.putfield 60, 3) := by decide +kernel
theorem dX3_worthWith_15 : decode cX3_worthWith 15 = .ok (.aload_n 0, 1) := by decide +kernel
theorem dX3_worthWith_16 : decode cX3_worthWith 16 = .ok (.iload 4, 2) := by decide +kernel
theorem dX3_worthWith_18 : decode cX3_worthWith 18 = .ok (.ifCond .eq 7, 3) := by decide +kernel
theorem dX3_worthWith_21 : decode cX3_worthWith 21 = .ok (.iload_n 1, 1) := by decide +kernel
theorem dX3_worthWith_22 : decode cX3_worthWith 22 = .ok (.goto 4, 3) := by decide +kernel
theorem dX3_worthWith_25 : decode cX3_worthWith 25 = .ok (.iconst (-1), 1) := by decide +kernel
theorem dX3_worthWith_26 : decode cX3_worthWith 26 = .ok (.putfield 25, 3) := by decide +kernel
theorem dX3_worthWith_29 : decode cX3_worthWith 29 = .ok (.aload_n 0, 1) := by decide +kernel
theorem dX3_worthWith_30 : decode cX3_worthWith 30 = .ok (.invokevirtual 87, 3) := by decide +kernel
theorem dX3_worthWith_33 : decode cX3_worthWith 33 = .ok (.istore 5, 2) := by decide +kernel
theorem dX3_worthWith_35 : decode cX3_worthWith 35 = .ok (.aload_n 0, 1) := by decide +kernel
theorem dX3_worthWith_36 : decode cX3_worthWith 36 = .ok (.iconst (-1), 1) := by decide +kernel
theorem dX3_worthWith_37 : decode cX3_worthWith 37 = .ok (.putfield 29, 3) := by decide +kernel
theorem dX3_worthWith_40 : decode cX3_worthWith 40 = .ok (.aload_n 0, 1) := by decide +kernel
theorem dX3_worthWith_41 : decode cX3_worthWith 41 = .ok (.iconst (-1), 1) := by decide +kernel
theorem dX3_worthWith_42 : decode cX3_worthWith 42 = .ok (.putfield 32, 3) := by decide +kernel
theorem dX3_worthWith_45 : decode cX3_worthWith 45 = .ok (.aload_n 0, 1) := by decide +kernel
theorem dX3_worthWith_46 : decode cX3_worthWith 46 = .ok (.iconst (-1), 1) := by decide +kernel
theorem dX3_worthWith_47 : decode cX3_worthWith 47 = .ok (.putfield 25, 3) := by decide +kernel
theorem dX3_worthWith_50 : decode cX3_worthWith 50 = .ok (.iload 5, 2) := by decide +kernel
theorem dX3_worthWith_52 : decode cX3_worthWith 52 = .ok (.ireturn, 1) := by decide +kernel
set_option maxRecDepth 20000 in
theorem ggX3_needs_X3_isOne : GoodIn wsX3_needs wsX3_isOne := goodIn_r _ [13, 14, 15, 16, 12, 17, 59, 60, 61, 62, 63, 64, 65, 66, 67, 68, 69, 70, 71, 72, 73] rfl (by decide +kernel)
set_option maxRecDepth 20000 in
theorem gX3_needs_X3_isOne : GoodIn wsX3_needs (wsV RX3 49 RX3 yX3_isOne wsX3_isOne) := goodIn_app (goodIn_of _ (by decide +kernel)) ggX3_needs_X3_isOne
set_option maxRecDepth 20000 in
theorem ggX3_needs_X3_fail : GoodIn wsX3_needs wsX3_fail := goodIn_r _ [21, 1, 59, 60, 61, 62, 63, 64, 65, 66, 67, 68, 69, 70, 71, 72, 73] rfl (by decide +kernel)
set_option maxRecDepth 20000 in
theorem gX3_needs_X3_fail : GoodIn wsX3_needs (wsV RX3 45 RX3 yX3_fail wsX3_fail) := goodIn_app (goodIn_of _ (by decide +kernel)) ggX3_needs_X3_fail
set_option maxRecDepth 20000 in
theorem ggX3_needs_X3_worthWith : GoodIn wsX3_needs wsX3_worthWith := goodIn_r _ [25, 26, 27, 28, 29, 30, 31, 32, 12, 33, 34, 35, 36, 37, 38, 39, 14, 40, 41, 42, 43, 44, 45, 46, 47, 48, 49, 50, 51, 52, 53, 54, 59, 60, 61, 62, 63, 64, 65, 66, 67, 68, 69, 70, 71, 72, 73] rfl (by decide +kernel)
set_option maxRecDepth 20000 in
theorem gX3_needs_X3_worthWith : GoodIn wsX3_needs (wsV RX3 125 RX3 yX3_worthWith wsX3_worthWith) := goodIn_app (goodIn_of _ (by decide +kernel)) ggX3_needs_X3_worthWith
set_option maxRecDepth 20000 in
theorem ggX3_needs_X3_roomWith : GoodIn wsX3_needs wsX3_roomWith := goodIn_r _ [58, 54, 41, 50, 51, 52, 12, 53, 30, 31, 32, 33, 34, 35, 36, 37, 38, 39, 14, 40, 42, 43, 44, 45, 29, 46, 47, 48, 49, 26, 28, 27, 59, 60, 61, 62, 63, 64, 65, 66, 67, 68, 69, 70, 71, 72, 73] rfl (by decide +kernel)
set_option maxRecDepth 20000 in
theorem gX3_needs_X3_roomWith : GoodIn wsX3_needs (wsV RX3 121 RX3 yX3_roomWith wsX3_roomWith) := goodIn_app (goodIn_of _ (by decide +kernel)) ggX3_needs_X3_roomWith
theorem dX3_needs_0 : decode cX3_needs 0 = .ok (.aload_n 0, 1) := by decide +kernel
theorem dX3_needs_1 : decode cX3_needs 1 = .ok (.iconst 0, 1) := by decide +kernel
theorem dX3_needs_2 : decode cX3_needs 2 = .ok (.putfield 35, 3) := by decide +kernel
theorem dX3_needs_5 : decode cX3_needs 5 = .ok (.aload_n 0, 1) := by decide +kernel
theorem dX3_needs_6 : decode cX3_needs 6 = .ok (.iload_n 1, 1) := by decide +kernel
theorem dX3_needs_7 : decode cX3_needs 7 = .ok (.invokevirtual 49, 3) := by decide +kernel
theorem dX3_needs_10 : decode cX3_needs 10 = .ok (.ifCond .eq 11, 3) := by decide +kernel
theorem dX3_needs_13 : decode cX3_needs 13 = .ok (.aload_n 0, 1) := by decide +kernel
theorem dX3_needs_14 : decode cX3_needs 14 = .ok (.iload_n 2, 1) := by decide +kernel
theorem dX3_needs_15 : decode cX3_needs 15 = .ok (.invokevirtual 49, 3) := by decide +kernel
theorem dX3_needs_18 : decode cX3_needs 18 = .ok (.ifCond .ne 9, 3) := by decide +kernel
theorem dX3_needs_21 : decode cX3_needs 21 = .ok (.aload_n 0, 1) := by decide +kernel
theorem dX3_needs_22 : decode cX3_needs 22 = .ok (.iconst 1, 1) := by decide +kernel
theorem dX3_needs_23 : decode cX3_needs 23 = .ok (.invokevirtual 45, 3) := by decide +kernel
theorem dX3_needs_26 : decode cX3_needs 26 = .ok (.ireturn, 1) := by decide +kernel
theorem dX3_needs_27 : decode cX3_needs 27 = .ok (.aload_n 0, 1) := by decide +kernel
theorem dX3_needs_28 : decode cX3_needs 28 = .ok (.iload_n 1, 1) := by decide +kernel
theorem dX3_needs_29 : decode cX3_needs 29 = .ok (.iload_n 2, 1) := by decide +kernel
theorem dX3_needs_30 : decode cX3_needs 30 = .ok (.iconst 1, 1) := by decide +kernel
theorem dX3_needs_31 : decode cX3_needs 31 = .ok (.iconst 1, 1) := by decide +kernel
theorem dX3_needs_32 : decode cX3_needs 32 = .ok (.invokevirtual 125, 3) := by decide +kernel
theorem dX3_needs_35 : decode cX3_needs 35 = .ok (.istore_n 3, 1) := by decide +kernel
theorem dX3_needs_36 : decode cX3_needs 36 = .ok (.aload_n 0, 1) := by decide +kernel
theorem dX3_needs_37 : decode cX3_needs 37 = .ok (.iload_n 1, 1) := by decide +kernel
theorem dX3_needs_38 : decode cX3_needs 38 = .ok (.iload_n 2, 1) := by decide +kernel
theorem dX3_needs_39 : decode cX3_needs 39 = .ok (.iconst 0, 1) := by decide +kernel
theorem dX3_needs_40 : decode cX3_needs 40 = .ok (.iconst 0, 1) := by decide +kernel
theorem dX3_needs_41 : decode cX3_needs 41 = .ok (.invokevirtual 125, 3) := by decide +kernel
theorem dX3_needs_44 : decode cX3_needs 44 = .ok (.istore 4, 2) := by decide +kernel
theorem dX3_needs_46 : decode cX3_needs 46 = .ok (.iconst 0, 1) := by decide +kernel
theorem dX3_needs_47 : decode cX3_needs 47 = .ok (.iload 4, 2) := by decide +kernel
theorem dX3_needs_49 : decode cX3_needs 49 = .ok (.iload_n 3, 1) := by decide +kernel
theorem dX3_needs_50 : decode cX3_needs 50 = .ok (.isub, 1) := by decide +kernel
theorem dX3_needs_51 : decode cX3_needs 51 = .ok (.invokestatic 116, 3) := by decide +kernel
theorem dX3_needs_54 : decode cX3_needs 54 = .ok (.istore 5, 2) := by decide +kernel
theorem dX3_needs_56 : decode cX3_needs 56 = .ok (.iload 5, 2) := by decide +kernel
theorem dX3_needs_58 : decode cX3_needs 58 = .ok (.istore 6, 2) := by decide +kernel
theorem dX3_needs_60 : decode cX3_needs 60 = .ok (.iload 6, 2) := by decide +kernel
theorem dX3_needs_62 : decode cX3_needs 62 = .ok (.sipush 999, 3) := by decide +kernel
theorem dX3_needs_65 : decode cX3_needs 65 = .ok (.iload 5, 2) := by decide +kernel
theorem dX3_needs_67 : decode cX3_needs 67 = .ok (.iconst 1, 1) := by decide +kernel
theorem dX3_needs_68 : decode cX3_needs 68 = .ok (.iadd, 1) := by decide +kernel
theorem dX3_needs_69 : decode cX3_needs 69 = .ok (.invokestatic 129, 3) := by decide +kernel
theorem dX3_needs_72 : decode cX3_needs 72 = .ok (.if_icmp .gt 24, 3) := by decide +kernel
theorem dX3_needs_75 : decode cX3_needs 75 = .ok (.aload_n 0, 1) := by decide +kernel
theorem dX3_needs_76 : decode cX3_needs 76 = .ok (.iload_n 1, 1) := by decide +kernel
theorem dX3_needs_77 : decode cX3_needs 77 = .ok (.iload_n 2, 1) := by decide +kernel
theorem dX3_needs_78 : decode cX3_needs 78 = .ok (.iload 6, 2) := by decide +kernel
theorem dX3_needs_80 : decode cX3_needs 80 = .ok (.invokevirtual 121, 3) := by decide +kernel
theorem dX3_needs_83 : decode cX3_needs 83 = .ok (.iload_n 2, 1) := by decide +kernel
theorem dX3_needs_84 : decode cX3_needs 84 = .ok (.if_icmp .ne 6, 3) := by decide +kernel
theorem dX3_needs_87 : decode cX3_needs 87 = .ok (.iload 6, 2) := by decide +kernel
theorem dX3_needs_89 : decode cX3_needs 89 = .ok (.ireturn, 1) := by decide +kernel
theorem dX3_needs_90 : decode cX3_needs 90 = .ok (.iinc 6 1, 3) := by decide +kernel
theorem dX3_needs_93 : decode cX3_needs 93 = .ok (.goto (-33), 3) := by decide +kernel
theorem dX3_needs_96 : decode cX3_needs 96 = .ok (.iconst (-1), 1) := by decide +kernel
theorem dX3_needs_97 : decode cX3_needs 97 = .ok (.ireturn, 1) := by decide +kernel
set_option maxRecDepth 20000 in
theorem ggX3_without_X3_isOne : GoodIn wsX3_without wsX3_isOne := goodIn_r _ [7, 8, 9, 10, 6, 11, 44, 45, 46, 47, 48, 49, 50, 51, 52, 53, 54, 55, 56, 57, 58] rfl (by decide +kernel)
set_option maxRecDepth 20000 in
theorem gX3_without_X3_isOne : GoodIn wsX3_without (wsV RX3 49 RX3 yX3_isOne wsX3_isOne) := goodIn_app (goodIn_of _ (by decide +kernel)) ggX3_without_X3_isOne
set_option maxRecDepth 20000 in
theorem ggX3_without_X3_fail : GoodIn wsX3_without wsX3_fail := goodIn_r _ [15, 1, 44, 45, 46, 47, 48, 49, 50, 51, 52, 53, 54, 55, 56, 57, 58] rfl (by decide +kernel)
set_option maxRecDepth 20000 in
theorem gX3_without_X3_fail : GoodIn wsX3_without (wsV RX3 45 RX3 yX3_fail wsX3_fail) := goodIn_app (goodIn_of _ (by decide +kernel)) ggX3_without_X3_fail
set_option maxRecDepth 20000 in
theorem ggX3_without_X3_give : GoodIn wsX3_without wsX3_give := goodIn_r _ [19, 20, 21, 22, 23, 24, 6, 25, 8, 26, 27, 28, 29, 30, 31, 2, 32, 33, 34, 35, 36, 37, 38, 39, 40, 41, 42, 43, 44, 45, 46, 47, 48, 49, 50, 51, 52, 53, 54, 55, 56, 57, 58] rfl (by decide +kernel)
set_option maxRecDepth 20000 in
theorem gX3_without_X3_give : GoodIn wsX3_without (wsV RX3 87 RX3 yX3_give wsX3_give) := goodIn_app (goodIn_of _ (by decide +kernel)) ggX3_without_X3_give
theorem dX3_without_0 : decode cX3_without 0 = .ok (.aload_n 0, 1) := by decide +kernel
theorem dX3_without_1 : decode cX3_without 1 = .ok (.iconst 0, 1) := by decide +kernel
theorem dX3_without_2 : decode cX3_without 2 = .ok (.putfield 35, 3) := by decide +kernel
theorem dX3_without_5 : decode cX3_without 5 = .ok (.aload_n 0, 1) := by decide +kernel
theorem dX3_without_6 : decode cX3_without 6 = .ok (.iload_n 1, 1) := by decide +kernel
theorem dX3_without_7 : decode cX3_without 7 = .ok (.invokevirtual 49, 3) := by decide +kernel
theorem dX3_without_10 : decode cX3_without 10 = .ok (.ifCond .ne 9, 3) := by decide +kernel
theorem dX3_without_13 : decode cX3_without 13 = .ok (.aload_n 0, 1) := by decide +kernel
theorem dX3_without_14 : decode cX3_without 14 = .ok (.iconst 1, 1) := by decide +kernel
theorem dX3_without_15 : decode cX3_without 15 = .ok (.invokevirtual 45, 3) := by decide +kernel
theorem dX3_without_18 : decode cX3_without 18 = .ok (.ireturn, 1) := by decide +kernel
theorem dX3_without_19 : decode cX3_without 19 = .ok (.aload_n 0, 1) := by decide +kernel
theorem dX3_without_20 : decode cX3_without 20 = .ok (.iload_n 1, 1) := by decide +kernel
theorem dX3_without_21 : decode cX3_without 21 = .ok (.putfield 25, 3) := by decide +kernel
theorem dX3_without_24 : decode cX3_without 24 = .ok (.aload_n 0, 1) := by decide +kernel
theorem dX3_without_25 : decode cX3_without 25 = .ok (.invokevirtual 87, 3) := by decide +kernel
theorem dX3_without_28 : decode cX3_without 28 = .ok (.istore_n 2, 1) := by decide +kernel
theorem dX3_without_29 : decode cX3_without 29 = .ok (.aload_n 0, 1) := by decide +kernel
theorem dX3_without_30 : decode cX3_without 30 = .ok (.iconst (-1), 1) := by decide +kernel
theorem dX3_without_31 : decode cX3_without 31 = .ok (.putfield 25, 3) := by decide +kernel
theorem dX3_without_34 : decode cX3_without 34 = .ok (.iload_n 2, 1) := by decide +kernel
theorem dX3_without_35 : decode cX3_without 35 = .ok (.ireturn, 1) := by decide +kernel
set_option maxRecDepth 20000 in
theorem ggX3_mean_X3_counted : GoodIn wsX3_mean wsX3_counted := goodIn_r _ [7, 2, 8, 9, 10, 11, 12, 13, 14, 15, 6, 16, 17, 18, 19, 20, 21, 22, 23, 24, 25, 26, 27, 28, 29, 30, 31, 32, 33, 34, 35, 36, 37, 38, 39, 40, 41, 42, 43, 44, 45, 46, 47, 48, 49, 50, 51, 52, 53, 54, 55, 56, 57, 58, 59, 60, 61, 62, 63, 64, 65, 66, 67, 68, 69, 70, 71] rfl (by decide +kernel)
set_option maxRecDepth 20000 in
theorem gX3_mean_X3_counted : GoodIn wsX3_mean (wsV RX3 110 RX3 yX3_counted wsX3_counted) := goodIn_app (goodIn_of _ (by decide +kernel)) ggX3_mean_X3_counted
theorem dX3_mean_0 : decode cX3_mean 0 = .ok (.aload_n 0, 1) := by decide +kernel
theorem dX3_mean_1 : decode cX3_mean 1 = .ok (.iconst 0, 1) := by decide +kernel
theorem dX3_mean_2 : decode cX3_mean 2 = .ok (.putfield 35, 3) := by decide +kernel
theorem dX3_mean_5 : decode cX3_mean 5 = .ok (.aload_n 0, 1) := by decide +kernel
theorem dX3_mean_6 : decode cX3_mean 6 = .ok (.bipush 6, 2) := by decide +kernel
theorem dX3_mean_8 : decode cX3_mean 8 = .ok (.invokevirtual 110, 3) := by decide +kernel
theorem dX3_mean_11 : decode cX3_mean 11 = .ok (.istore_n 1, 1) := by decide +kernel
theorem dX3_mean_12 : decode cX3_mean 12 = .ok (.aload_n 0, 1) := by decide +kernel
theorem dX3_mean_13 : decode cX3_mean 13 = .ok (.getfield 38, 3) := by decide +kernel
theorem dX3_mean_16 : decode cX3_mean 16 = .ok (.ifCond .ne 7, 3) := by decide +kernel
theorem dX3_mean_19 : decode cX3_mean 19 = .ok (.dconst 0, 1) := by decide +kernel
theorem dX3_mean_20 : decode cX3_mean 20 = .ok (.goto 11, 3) := by decide +kernel
theorem dX3_mean_23 : decode cX3_mean 23 = .ok (.iload_n 1, 1) := by decide +kernel
theorem dX3_mean_24 : decode cX3_mean 24 = .ok (.i2d, 1) := by decide +kernel
theorem dX3_mean_25 : decode cX3_mean 25 = .ok (.aload_n 0, 1) := by decide +kernel
theorem dX3_mean_26 : decode cX3_mean 26 = .ok (.getfield 38, 3) := by decide +kernel
theorem dX3_mean_29 : decode cX3_mean 29 = .ok (.i2d, 1) := by decide +kernel
theorem dX3_mean_30 : decode cX3_mean 30 = .ok (.ddiv, 1) := by decide +kernel
theorem dX3_mean_31 : decode cX3_mean 31 = .ok (.dreturn, 1) := by decide +kernel
set_option maxRecDepth 20000 in
theorem ggX3_digest_X3_counted : GoodIn wsX3_digest wsX3_counted := goodIn_r _ [9, 4, 10, 11, 12, 13, 14, 15, 16, 17, 8, 18, 19, 20, 21, 22, 23, 24, 25, 26, 27, 28, 29, 30, 31, 32, 33, 34, 35, 36, 37, 38, 39, 40, 41, 42, 43, 44, 45, 46, 47, 48, 49, 50, 51, 52, 53, 54, 55, 56, 57, 58, 67, 68, 69, 70, 71, 72, 73, 74, 75, 76, 77, 78, 79, 80, 81] rfl (by decide +kernel)
set_option maxRecDepth 20000 in
theorem gX3_digest_X3_counted : GoodIn wsX3_digest (wsV RX3 110 RX3 yX3_counted wsX3_counted) := goodIn_app (goodIn_of _ (by decide +kernel)) ggX3_digest_X3_counted
set_option maxRecDepth 20000 in
theorem ggX3_digest_X3_toldOf : GoodIn wsX3_digest wsX3_toldOf := goodIn_r _ [62, 29, 12, 19, 4, 42, 43, 44, 8, 45, 46, 55, 56, 57, 58, 63, 64, 65, 66, 67, 68, 69, 70, 71, 72, 73, 74, 75, 76, 77, 78, 79, 80, 81] rfl (by decide +kernel)
set_option maxRecDepth 20000 in
theorem gX3_digest_X3_toldOf : GoodIn wsX3_digest (wsV RX3 107 RX3 yX3_toldOf wsX3_toldOf) := goodIn_app (goodIn_of _ (by decide +kernel)) ggX3_digest_X3_toldOf
set_option maxRecDepth 20000 in
theorem ggX3_digest_X3_bi : GoodIn wsX3_digest wsX3_bi := goodIn_r _ [45, 46, 67, 68, 69, 70, 71, 72, 73, 74, 75, 76, 77, 78, 79, 80, 81] rfl (by decide +kernel)
set_option maxRecDepth 20000 in
theorem gX3_digest_X3_bi : GoodIn wsX3_digest (wsV RX3 53 RX3 yX3_bi wsX3_bi) := goodIn_app (goodIn_of _ (by decide +kernel)) ggX3_digest_X3_bi
theorem dX3_digest_0 : decode cX3_digest 0 = .ok (.aload_n 0, 1) := by decide +kernel
theorem dX3_digest_1 : decode cX3_digest 1 = .ok (.iconst 0, 1) := by decide +kernel
theorem dX3_digest_2 : decode cX3_digest 2 = .ok (.putfield 35, 3) := by decide +kernel
theorem dX3_digest_5 : decode cX3_digest 5 = .ok (.ldc2_w 132, 3) := by decide +kernel
theorem dX3_digest_8 : decode cX3_digest 8 = .ok (.lstore_n 1, 1) := by decide +kernel
theorem dX3_digest_9 : decode cX3_digest 9 = .ok (.iconst 0, 1) := by decide +kernel
theorem dX3_digest_10 : decode cX3_digest 10 = .ok (.istore_n 3, 1) := by decide +kernel
theorem dX3_digest_11 : decode cX3_digest 11 = .ok (.iload_n 3, 1) := by decide +kernel
theorem dX3_digest_12 : decode cX3_digest 12 = .ok (.bipush 7, 2) := by decide +kernel
theorem dX3_digest_14 : decode cX3_digest 14 = .ok (.if_icmp .ge 22, 3) := by decide +kernel
theorem dX3_digest_17 : decode cX3_digest 17 = .ok (.lload_n 1, 1) := by decide +kernel
theorem dX3_digest_18 : decode cX3_digest 18 = .ok (.ldc2_w 134, 3) := by decide +kernel
theorem dX3_digest_21 : decode cX3_digest 21 = .ok (.lmul, 1) := by decide +kernel
theorem dX3_digest_22 : decode cX3_digest 22 = .ok (.aload_n 0, 1) := by decide +kernel
theorem dX3_digest_23 : decode cX3_digest 23 = .ok (.iload_n 3, 1) := by decide +kernel
theorem dX3_digest_24 : decode cX3_digest 24 = .ok (.invokevirtual 110, 3) := by decide +kernel
theorem dX3_digest_27 : decode cX3_digest 27 = .ok (.i2l, 1) := by decide +kernel
theorem dX3_digest_28 : decode cX3_digest 28 = .ok (.ladd, 1) := by decide +kernel
theorem dX3_digest_29 : decode cX3_digest 29 = .ok (.lstore_n 1, 1) := by decide +kernel
theorem dX3_digest_30 : decode cX3_digest 30 = .ok (.iinc 3 1, 3) := by decide +kernel
theorem dX3_digest_33 : decode cX3_digest 33 = .ok (.goto (-22), 3) := by decide +kernel
theorem dX3_digest_36 : decode cX3_digest 36 = .ok (.iconst 0, 1) := by decide +kernel
theorem dX3_digest_37 : decode cX3_digest 37 = .ok (.istore_n 3, 1) := by decide +kernel
theorem dX3_digest_38 : decode cX3_digest 38 = .ok (.iload_n 3, 1) := by decide +kernel
theorem dX3_digest_39 : decode cX3_digest 39 = .ok (.aload_n 0, 1) := by decide +kernel
theorem dX3_digest_40 : decode cX3_digest 40 = .ok (.getfield 38, 3) := by decide +kernel
theorem dX3_digest_43 : decode cX3_digest 43 = .ok (.if_icmp .ge 73, 3) := by decide +kernel
theorem dX3_digest_46 : decode cX3_digest 46 = .ok (.iconst 0, 1) := by decide +kernel
theorem dX3_digest_47 : decode cX3_digest 47 = .ok (.istore 4, 2) := by decide +kernel
theorem dX3_digest_49 : decode cX3_digest 49 = .ok (.iload 4, 2) := by decide +kernel
theorem dX3_digest_51 : decode cX3_digest 51 = .ok (.bipush 6, 2) := by decide +kernel
theorem dX3_digest_53 : decode cX3_digest 53 = .ok (.if_icmp .ge 24, 3) := by decide +kernel
theorem dX3_digest_56 : decode cX3_digest 56 = .ok (.lload_n 1, 1) := by decide +kernel
theorem dX3_digest_57 : decode cX3_digest 57 = .ok (.ldc2_w 134, 3) := by decide +kernel
theorem dX3_digest_60 : decode cX3_digest 60 = .ok (.lmul, 1) := by decide +kernel
theorem dX3_digest_61 : decode cX3_digest 61 = .ok (.aload_n 0, 1) := by decide +kernel
theorem dX3_digest_62 : decode cX3_digest 62 = .ok (.iload_n 3, 1) := by decide +kernel
theorem dX3_digest_63 : decode cX3_digest 63 = .ok (.iload 4, 2) := by decide +kernel
theorem dX3_digest_65 : decode cX3_digest 65 = .ok (.invokevirtual 107, 3) := by decide +kernel
theorem dX3_digest_68 : decode cX3_digest 68 = .ok (.i2l, 1) := by decide +kernel
theorem dX3_digest_69 : decode cX3_digest 69 = .ok (.ladd, 1) := by decide +kernel
theorem dX3_digest_70 : decode cX3_digest 70 = .ok (.lstore_n 1, 1) := by decide +kernel
theorem dX3_digest_71 : decode cX3_digest 71 = .ok (.iinc 4 1, 3) := by decide +kernel
theorem dX3_digest_74 : decode cX3_digest 74 = .ok (.goto (-25), 3) := by decide +kernel
theorem dX3_digest_77 : decode cX3_digest 77 = .ok (.iconst 0, 1) := by decide +kernel
theorem dX3_digest_78 : decode cX3_digest 78 = .ok (.istore 4, 2) := by decide +kernel
theorem dX3_digest_80 : decode cX3_digest 80 = .ok (.iload 4, 2) := by decide +kernel
theorem dX3_digest_82 : decode cX3_digest 82 = .ok (.aload_n 0, 1) := by decide +kernel
theorem dX3_digest_83 : decode cX3_digest 83 = .ok (.getfield 38, 3) := by decide +kernel
theorem dX3_digest_86 : decode cX3_digest 86 = .ok (.if_icmp .ge 24, 3) := by decide +kernel
theorem dX3_digest_89 : decode cX3_digest 89 = .ok (.lload_n 1, 1) := by decide +kernel
theorem dX3_digest_90 : decode cX3_digest 90 = .ok (.ldc2_w 134, 3) := by decide +kernel
theorem dX3_digest_93 : decode cX3_digest 93 = .ok (.lmul, 1) := by decide +kernel
theorem dX3_digest_94 : decode cX3_digest 94 = .ok (.aload_n 0, 1) := by decide +kernel
theorem dX3_digest_95 : decode cX3_digest 95 = .ok (.iload_n 3, 1) := by decide +kernel
theorem dX3_digest_96 : decode cX3_digest 96 = .ok (.iload 4, 2) := by decide +kernel
theorem dX3_digest_98 : decode cX3_digest 98 = .ok (.invokevirtual 53, 3) := by decide +kernel
theorem dX3_digest_101 : decode cX3_digest 101 = .ok (.i2l, 1) := by decide +kernel
theorem dX3_digest_102 : decode cX3_digest 102 = .ok (.ladd, 1) := by decide +kernel
theorem dX3_digest_103 : decode cX3_digest 103 = .ok (.lstore_n 1, 1) := by decide +kernel
theorem dX3_digest_104 : decode cX3_digest 104 = .ok (.iinc 4 1, 3) := by decide +kernel
theorem dX3_digest_107 : decode cX3_digest 107 = .ok (.goto (-27), 3) := by decide +kernel
theorem dX3_digest_110 : decode cX3_digest 110 = .ok (.iinc 3 1, 3) := by decide +kernel
theorem dX3_digest_113 : decode cX3_digest 113 = .ok (.goto (-75), 3) := by decide +kernel
theorem dX3_digest_116 : decode cX3_digest 116 = .ok (.lload_n 1, 1) := by decide +kernel
theorem dX3_digest_117 : decode cX3_digest 117 = .ok (.lreturn, 1) := by decide +kernel
