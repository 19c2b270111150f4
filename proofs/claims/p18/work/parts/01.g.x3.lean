theorem dX3_init_0 : decode cX3_init 0 = .ok (.aload_n 0, 1) := by decide +kernel
theorem dX3_init_1 : decode cX3_init 1 = .ok (.invokespecial 1, 3) := by decide +kernel
theorem dX3_init_4 : decode cX3_init 4 = .ok (.aload_n 0, 1) := by decide +kernel
theorem dX3_init_5 : decode cX3_init 5 = .ok (.iconst 0, 1) := by decide +kernel
theorem dX3_init_6 : decode cX3_init 6 = .ok (.anewarray 7, 3) := by decide +kernel
theorem dX3_init_9 : decode cX3_init 9 = .ok (.putfield 9, 3) := by decide +kernel
theorem dX3_init_12 : decode cX3_init 12 = .ok (.return_, 1) := by decide +kernel
theorem dX3_n_0 : decode cX3_n 0 = .ok (.aload_n 0, 1) := by decide +kernel
theorem dX3_n_1 : decode cX3_n 1 = .ok (.getfield 9, 3) := by decide +kernel
theorem dX3_n_4 : decode cX3_n 4 = .ok (.arraylength, 1) := by decide +kernel
theorem dX3_n_5 : decode cX3_n 5 = .ok (.ireturn, 1) := by decide +kernel
set_option maxRecDepth 20000 in
theorem ggX3_come_X3_n : GoodIn wsX3_come wsX3_n := goodIn_r _ [8, 3, 9, 10, 11, 12, 13, 14, 15, 16] rfl (by decide +kernel)
set_option maxRecDepth 20000 in
theorem gX3_come_X3_n : GoodIn wsX3_come (wsV RX3 15 RX3 yX3_n wsX3_n) := goodIn_app (goodIn_of _ (by decide +kernel)) ggX3_come_X3_n
theorem dX3_come_0 : decode cX3_come 0 = .ok (.aload_n 0, 1) := by decide +kernel
theorem dX3_come_1 : decode cX3_come 1 = .ok (.invokevirtual 15, 3) := by decide +kernel
theorem dX3_come_4 : decode cX3_come 4 = .ok (.istore_n 1, 1) := by decide +kernel
theorem dX3_come_5 : decode cX3_come 5 = .ok (.iload_n 1, 1) := by decide +kernel
theorem dX3_come_6 : decode cX3_come 6 = .ok (.iconst 1, 1) := by decide +kernel
theorem dX3_come_7 : decode cX3_come 7 = .ok (.iadd, 1) := by decide +kernel
theorem dX3_come_8 : decode cX3_come 8 = .ok (.iload_n 1, 1) := by decide +kernel
theorem dX3_come_9 : decode cX3_come 9 = .ok (.iconst 1, 1) := by decide +kernel
theorem dX3_come_10 : decode cX3_come 10 = .ok (.iadd, 1) := by decide +kernel
theorem dX3_come_11 : decode cX3_come 11 = .ok (.multianewarray 19 2, 4) := by decide +kernel
theorem dX3_come_15 : decode cX3_come 15 = .ok (.astore_n 2, 1) := by decide +kernel
theorem dX3_come_16 : decode cX3_come 16 = .ok (.iconst 0, 1) := by decide +kernel
theorem dX3_come_17 : decode cX3_come 17 = .ok (.istore_n 3, 1) := by decide +kernel
theorem dX3_come_18 : decode cX3_come 18 = .ok (.iload_n 3, 1) := by decide +kernel
theorem dX3_come_19 : decode cX3_come 19 = .ok (.iload_n 1, 1) := by decide +kernel
theorem dX3_come_20 : decode cX3_come 20 = .ok (.if_icmp .ge 39, 3) := by decide +kernel
theorem dX3_come_23 : decode cX3_come 23 = .ok (.iconst 0, 1) := by decide +kernel
theorem dX3_come_24 : decode cX3_come 24 = .ok (.istore 4, 2) := by decide +kernel
theorem dX3_come_26 : decode cX3_come 26 = .ok (.iload 4, 2) := by decide +kernel
theorem dX3_come_28 : decode cX3_come 28 = .ok (.iload_n 1, 1) := by decide +kernel
theorem dX3_come_29 : decode cX3_come 29 = .ok (.if_icmp .ge 24, 3) := by decide +kernel
theorem dX3_come_32 : decode cX3_come 32 = .ok (.aload_n 2, 1) := by decide +kernel
theorem dX3_come_33 : decode cX3_come 33 = .ok (.iload_n 3, 1) := by decide +kernel
theorem dX3_come_34 : decode cX3_come 34 = .ok (.aaload, 1) := by decide +kernel
theorem dX3_come_35 : decode cX3_come 35 = .ok (.iload 4, 2) := by decide +kernel
theorem dX3_come_37 : decode cX3_come 37 = .ok (.aload_n 0, 1) := by decide +kernel
theorem dX3_come_38 : decode cX3_come 38 = .ok (.getfield 9, 3) := by decide +kernel
theorem dX3_come_41 : decode cX3_come 41 = .ok (.iload_n 3, 1) := by decide +kernel
theorem dX3_come_42 : decode cX3_come 42 = .ok (.aaload, 1) := by decide +kernel
theorem dX3_come_43 : decode cX3_come 43 = .ok (.iload 4, 2) := by decide +kernel
theorem dX3_come_45 : decode cX3_come 45 = .ok (.iaload, 1) := by decide +kernel
theorem dX3_come_46 : decode cX3_come 46 = .ok (.iastore, 1) := by decide +kernel
theorem dX3_come_47 : decode cX3_come 47 = .ok (.iinc 4 1, 3) := by decide +kernel
theorem dX3_come_50 : decode cX3_come 50 = .ok (.goto (-24), 3) := by decide +kernel
theorem dX3_come_53 : decode cX3_come 53 = .ok (.iinc 3 1, 3) := by decide +kernel
theorem dX3_come_56 : decode cX3_come 56 = .ok (.goto (-38), 3) := by decide +kernel
theorem dX3_come_59 : decode cX3_come 59 = .ok (.aload_n 0, 1) := by decide +kernel
theorem dX3_come_60 : decode cX3_come 60 = .ok (.aload_n 2, 1) := by decide +kernel
theorem dX3_come_61 : decode cX3_come 61 = .ok (.putfield 9, 3) := by decide +kernel
theorem dX3_come_64 : decode cX3_come 64 = .ok (.return_, 1) := by decide +kernel
theorem dX3_next_0 : decode cX3_next 0 = .ok (.aload_n 0, 1) := by decide +kernel
theorem dX3_next_1 : decode cX3_next 1 = .ok (.arraylength, 1) := by decide +kernel
theorem dX3_next_2 : decode cX3_next 2 = .ok (.iconst 2, 1) := by decide +kernel
theorem dX3_next_3 : decode cX3_next 3 = .ok (.isub, 1) := by decide +kernel
theorem dX3_next_4 : decode cX3_next 4 = .ok (.istore_n 1, 1) := by decide +kernel
theorem dX3_next_5 : decode cX3_next 5 = .ok (.iload_n 1, 1) := by decide +kernel
theorem dX3_next_6 : decode cX3_next 6 = .ok (.ifCond .lt 20, 3) := by decide +kernel
theorem dX3_next_9 : decode cX3_next 9 = .ok (.aload_n 0, 1) := by decide +kernel
theorem dX3_next_10 : decode cX3_next 10 = .ok (.iload_n 1, 1) := by decide +kernel
theorem dX3_next_11 : decode cX3_next 11 = .ok (.iaload, 1) := by decide +kernel
theorem dX3_next_12 : decode cX3_next 12 = .ok (.aload_n 0, 1) := by decide +kernel
theorem dX3_next_13 : decode cX3_next 13 = .ok (.iload_n 1, 1) := by decide +kernel
theorem dX3_next_14 : decode cX3_next 14 = .ok (.iconst 1, 1) := by decide +kernel
theorem dX3_next_15 : decode cX3_next 15 = .ok (.iadd, 1) := by decide +kernel
theorem dX3_next_16 : decode cX3_next 16 = .ok (.iaload, 1) := by decide +kernel
theorem dX3_next_17 : decode cX3_next 17 = .ok (.if_icmp .le 9, 3) := by decide +kernel
theorem dX3_next_20 : decode cX3_next 20 = .ok (.iinc 1 (-1), 3) := by decide +kernel
theorem dX3_next_23 : decode cX3_next 23 = .ok (.goto (-18), 3) := by decide +kernel
theorem dX3_next_26 : decode cX3_next 26 = .ok (.iload_n 1, 1) := by decide +kernel
theorem dX3_next_27 : decode cX3_next 27 = .ok (.ifCond .ge 5, 3) := by decide +kernel
theorem dX3_next_30 : decode cX3_next 30 = .ok (.aconst_null, 1) := by decide +kernel
theorem dX3_next_31 : decode cX3_next 31 = .ok (.areturn, 1) := by decide +kernel
theorem dX3_next_32 : decode cX3_next 32 = .ok (.aload_n 0, 1) := by decide +kernel
theorem dX3_next_33 : decode cX3_next 33 = .ok (.invokevirtual 20, 3) := by decide +kernel
theorem dX3_next_36 : decode cX3_next 36 = .ok (.checkcast 7, 3) := by decide +kernel
theorem dX3_next_39 : decode cX3_next 39 = .ok (.astore_n 2, 1) := by decide +kernel
theorem dX3_next_40 : decode cX3_next 40 = .ok (.aload_n 0, 1) := by decide +kernel
theorem dX3_next_41 : decode cX3_next 41 = .ok (.arraylength, 1) := by decide +kernel
theorem dX3_next_42 : decode cX3_next 42 = .ok (.iconst 1, 1) := by decide +kernel
theorem dX3_next_43 : decode cX3_next 43 = .ok (.isub, 1) := by decide +kernel
theorem dX3_next_44 : decode cX3_next 44 = .ok (.istore_n 3, 1) := by decide +kernel
theorem dX3_next_45 : decode cX3_next 45 = .ok (.aload_n 0, 1) := by decide +kernel
theorem dX3_next_46 : decode cX3_next 46 = .ok (.iload_n 3, 1) := by decide +kernel
theorem dX3_next_47 : decode cX3_next 47 = .ok (.iaload, 1) := by decide +kernel
theorem dX3_next_48 : decode cX3_next 48 = .ok (.aload_n 0, 1) := by decide +kernel
theorem dX3_next_49 : decode cX3_next 49 = .ok (.iload_n 1, 1) := by decide +kernel
theorem dX3_next_50 : decode cX3_next 50 = .ok (.iaload, 1) := by decide +kernel
theorem dX3_next_51 : decode cX3_next 51 = .ok (.if_icmp .ge 9, 3) := by decide +kernel
theorem dX3_next_54 : decode cX3_next 54 = .ok (.iinc 3 (-1), 3) := by decide +kernel
theorem dX3_next_57 : decode cX3_next 57 = .ok (.goto (-12), 3) := by decide +kernel
theorem dX3_next_60 : decode cX3_next 60 = .ok (.aload_n 2, 1) := by decide +kernel
theorem dX3_next_61 : decode cX3_next 61 = .ok (.iload_n 1, 1) := by decide +kernel
theorem dX3_next_62 : decode cX3_next 62 = .ok (.aload_n 0, 1) := by decide +kernel
theorem dX3_next_63 : decode cX3_next 63 = .ok (.iload_n 3, 1) := by decide +kernel
theorem dX3_next_64 : decode cX3_next 64 = .ok (.iaload, 1) := by decide +kernel
theorem dX3_next_65 : decode cX3_next 65 = .ok (.iastore, 1) := by decide +kernel
theorem dX3_next_66 : decode cX3_next 66 = .ok (.aload_n 2, 1) := by decide +kernel
theorem dX3_next_67 : decode cX3_next 67 = .ok (.iload_n 3, 1) := by decide +kernel
theorem dX3_next_68 : decode cX3_next 68 = .ok (.aload_n 0, 1) := by decide +kernel
theorem dX3_next_69 : decode cX3_next 69 = .ok (.iload_n 1, 1) := by decide +kernel
theorem dX3_next_70 : decode cX3_next 70 = .ok (.iaload, 1) := by decide +kernel
theorem dX3_next_71 : decode cX3_next 71 = .ok (.iastore, 1) := by decide +kernel
theorem dX3_next_72 : decode cX3_next 72 = .ok (.aload_n 2, 1) := by decide +kernel
theorem dX3_next_73 : decode cX3_next 73 = .ok (.invokevirtual 20, 3) := by decide +kernel
theorem dX3_next_76 : decode cX3_next 76 = .ok (.checkcast 7, 3) := by decide +kernel
theorem dX3_next_79 : decode cX3_next 79 = .ok (.astore 4, 2) := by decide +kernel
theorem dX3_next_81 : decode cX3_next 81 = .ok (.iload_n 1, 1) := by decide +kernel
theorem dX3_next_82 : decode cX3_next 82 = .ok (.iconst 1, 1) := by decide +kernel
theorem dX3_next_83 : decode cX3_next 83 = .ok (.iadd, 1) := by decide +kernel
theorem dX3_next_84 : decode cX3_next 84 = .ok (.istore 5, 2) := by decide +kernel
theorem dX3_next_86 : decode cX3_next 86 = .ok (.iload 5, 2) := by decide +kernel
theorem dX3_next_88 : decode cX3_next 88 = .ok (.aload_n 0, 1) := by decide +kernel
theorem dX3_next_89 : decode cX3_next 89 = .ok (.arraylength, 1) := by decide +kernel
theorem dX3_next_90 : decode cX3_next 90 = .ok (.if_icmp .ge 23, 3) := by decide +kernel
theorem dX3_next_93 : decode cX3_next 93 = .ok (.aload 4, 2) := by decide +kernel
theorem dX3_next_95 : decode cX3_next 95 = .ok (.iload 5, 2) := by decide +kernel
theorem dX3_next_97 : decode cX3_next 97 = .ok (.aload_n 2, 1) := by decide +kernel
theorem dX3_next_98 : decode cX3_next 98 = .ok (.aload_n 0, 1) := by decide +kernel
theorem dX3_next_99 : decode cX3_next 99 = .ok (.arraylength, 1) := by decide +kernel
theorem dX3_next_100 : decode cX3_next 100 = .ok (.iload_n 1, 1) := by decide +kernel
theorem dX3_next_101 : decode cX3_next 101 = .ok (.iadd, 1) := by decide +kernel
theorem dX3_next_102 : decode cX3_next 102 = .ok (.iload 5, 2) := by decide +kernel
theorem dX3_next_104 : decode cX3_next 104 = .ok (.isub, 1) := by decide +kernel
theorem dX3_next_105 : decode cX3_next 105 = .ok (.iaload, 1) := by decide +kernel
theorem dX3_next_106 : decode cX3_next 106 = .ok (.iastore, 1) := by decide +kernel
theorem dX3_next_107 : decode cX3_next 107 = .ok (.iinc 5 1, 3) := by decide +kernel
theorem dX3_next_110 : decode cX3_next 110 = .ok (.goto (-24), 3) := by decide +kernel
theorem dX3_next_113 : decode cX3_next 113 = .ok (.aload 4, 2) := by decide +kernel
theorem dX3_next_115 : decode cX3_next 115 = .ok (.areturn, 1) := by decide +kernel
set_option maxRecDepth 20000 in
theorem ggX3_first_X3_n : GoodIn wsX3_first wsX3_n := goodIn_r _ [6, 7, 8, 9, 10, 11, 12, 13, 14, 15] rfl (by decide +kernel)
set_option maxRecDepth 20000 in
theorem gX3_first_X3_n : GoodIn wsX3_first (wsV RX3 15 RX3 yX3_n wsX3_n) := goodIn_app (goodIn_of _ (by decide +kernel)) ggX3_first_X3_n
theorem dX3_first_0 : decode cX3_first 0 = .ok (.aload_n 0, 1) := by decide +kernel
theorem dX3_first_1 : decode cX3_first 1 = .ok (.invokevirtual 15, 3) := by decide +kernel
theorem dX3_first_4 : decode cX3_first 4 = .ok (.newarray .int, 2) := by decide +kernel
theorem dX3_first_6 : decode cX3_first 6 = .ok (.astore_n 1, 1) := by decide +kernel
theorem dX3_first_7 : decode cX3_first 7 = .ok (.iconst 0, 1) := by decide +kernel
theorem dX3_first_8 : decode cX3_first 8 = .ok (.istore_n 2, 1) := by decide +kernel
theorem dX3_first_9 : decode cX3_first 9 = .ok (.iload_n 2, 1) := by decide +kernel
theorem dX3_first_10 : decode cX3_first 10 = .ok (.aload_n 1, 1) := by decide +kernel
theorem dX3_first_11 : decode cX3_first 11 = .ok (.arraylength, 1) := by decide +kernel
theorem dX3_first_12 : decode cX3_first 12 = .ok (.if_icmp .ge 13, 3) := by decide +kernel
theorem dX3_first_15 : decode cX3_first 15 = .ok (.aload_n 1, 1) := by decide +kernel
theorem dX3_first_16 : decode cX3_first 16 = .ok (.iload_n 2, 1) := by decide +kernel
theorem dX3_first_17 : decode cX3_first 17 = .ok (.iload_n 2, 1) := by decide +kernel
theorem dX3_first_18 : decode cX3_first 18 = .ok (.iastore, 1) := by decide +kernel
theorem dX3_first_19 : decode cX3_first 19 = .ok (.iinc 2 1, 3) := by decide +kernel
theorem dX3_first_22 : decode cX3_first 22 = .ok (.goto (-13), 3) := by decide +kernel
theorem dX3_first_25 : decode cX3_first 25 = .ok (.aload_n 1, 1) := by decide +kernel
theorem dX3_first_26 : decode cX3_first 26 = .ok (.areturn, 1) := by decide +kernel
theorem dX3_sum_0 : decode cX3_sum 0 = .ok (.iconst 0, 1) := by decide +kernel
theorem dX3_sum_1 : decode cX3_sum 1 = .ok (.istore_n 2, 1) := by decide +kernel
theorem dX3_sum_2 : decode cX3_sum 2 = .ok (.iconst 0, 1) := by decide +kernel
theorem dX3_sum_3 : decode cX3_sum 3 = .ok (.istore_n 3, 1) := by decide +kernel
theorem dX3_sum_4 : decode cX3_sum 4 = .ok (.iload_n 3, 1) := by decide +kernel
theorem dX3_sum_5 : decode cX3_sum 5 = .ok (.aload_n 1, 1) := by decide +kernel
theorem dX3_sum_6 : decode cX3_sum 6 = .ok (.arraylength, 1) := by decide +kernel
theorem dX3_sum_7 : decode cX3_sum 7 = .ok (.if_icmp .ge 22, 3) := by decide +kernel
theorem dX3_sum_10 : decode cX3_sum 10 = .ok (.iload_n 2, 1) := by decide +kernel
theorem dX3_sum_11 : decode cX3_sum 11 = .ok (.aload_n 0, 1) := by decide +kernel
theorem dX3_sum_12 : decode cX3_sum 12 = .ok (.getfield 9, 3) := by decide +kernel
theorem dX3_sum_15 : decode cX3_sum 15 = .ok (.iload_n 3, 1) := by decide +kernel
theorem dX3_sum_16 : decode cX3_sum 16 = .ok (.aaload, 1) := by decide +kernel
theorem dX3_sum_17 : decode cX3_sum 17 = .ok (.aload_n 1, 1) := by decide +kernel
theorem dX3_sum_18 : decode cX3_sum 18 = .ok (.iload_n 3, 1) := by decide +kernel
theorem dX3_sum_19 : decode cX3_sum 19 = .ok (.iaload, 1) := by decide +kernel
theorem dX3_sum_20 : decode cX3_sum 20 = .ok (.iaload, 1) := by decide +kernel
theorem dX3_sum_21 : decode cX3_sum 21 = .ok (.iadd, 1) := by decide +kernel
theorem dX3_sum_22 : decode cX3_sum 22 = .ok (.istore_n 2, 1) := by decide +kernel
theorem dX3_sum_23 : decode cX3_sum 23 = .ok (.iinc 3 1, 3) := by decide +kernel
theorem dX3_sum_26 : decode cX3_sum 26 = .ok (.goto (-22), 3) := by decide +kernel
theorem dX3_sum_29 : decode cX3_sum 29 = .ok (.iload_n 2, 1) := by decide +kernel
theorem dX3_sum_30 : decode cX3_sum 30 = .ok (.ireturn, 1) := by decide +kernel
set_option maxRecDepth 20000 in
theorem ggX3_give_X3_first : GoodIn wsX3_give wsX3_first := goodIn_r _ [8, 9, 10, 11, 12, 7, 13, 14, 28, 29, 30, 31, 32, 33, 34, 35] rfl (by decide +kernel)
set_option maxRecDepth 20000 in
theorem gX3_give_X3_first : GoodIn wsX3_give (wsV RX3 28 RX3 yX3_first wsX3_first) := goodIn_app (goodIn_of _ (by decide +kernel)) ggX3_give_X3_first
set_option maxRecDepth 20000 in
theorem ggX3_give_X3_sum : GoodIn wsX3_give wsX3_sum := goodIn_r _ [18, 14, 28, 29, 30, 31, 32, 33, 34, 35] rfl (by decide +kernel)
set_option maxRecDepth 20000 in
theorem gX3_give_X3_sum : GoodIn wsX3_give (wsV RX3 32 RX3 yX3_sum wsX3_sum) := goodIn_app (goodIn_of _ (by decide +kernel)) ggX3_give_X3_sum
set_option maxRecDepth 20000 in
theorem ggX3_give_X3_next : GoodIn wsX3_give wsX3_next := goodIn_r _ [21, 22, 23, 24, 25, 26, 27] rfl (by decide +kernel)
set_option maxRecDepth 20000 in
theorem gX3_give_X3_next : GoodIn wsX3_give (va_wsS RX3 42 yX3_next wsX3_next) := goodIn_app (goodIn_of _ (by decide +kernel)) ggX3_give_X3_next
theorem dX3_give_0 : decode cX3_give 0 = .ok (.aload_n 0, 1) := by decide +kernel
theorem dX3_give_1 : decode cX3_give 1 = .ok (.iconst (-1), 1) := by decide +kernel
theorem dX3_give_2 : decode cX3_give 2 = .ok (.putfield 24, 3) := by decide +kernel
theorem dX3_give_5 : decode cX3_give 5 = .ok (.aload_n 0, 1) := by decide +kernel
theorem dX3_give_6 : decode cX3_give 6 = .ok (.invokevirtual 28, 3) := by decide +kernel
theorem dX3_give_9 : decode cX3_give 9 = .ok (.astore_n 1, 1) := by decide +kernel
theorem dX3_give_10 : decode cX3_give 10 = .ok (.aload_n 1, 1) := by decide +kernel
theorem dX3_give_11 : decode cX3_give 11 = .ok (.ifnull 61, 3) := by decide +kernel
theorem dX3_give_14 : decode cX3_give 14 = .ok (.aload_n 0, 1) := by decide +kernel
theorem dX3_give_15 : decode cX3_give 15 = .ok (.aload_n 1, 1) := by decide +kernel
theorem dX3_give_16 : decode cX3_give 16 = .ok (.invokevirtual 32, 3) := by decide +kernel
theorem dX3_give_19 : decode cX3_give 19 = .ok (.istore_n 2, 1) := by decide +kernel
theorem dX3_give_20 : decode cX3_give 20 = .ok (.iload_n 2, 1) := by decide +kernel
theorem dX3_give_21 : decode cX3_give 21 = .ok (.aload_n 0, 1) := by decide +kernel
theorem dX3_give_22 : decode cX3_give 22 = .ok (.getfield 24, 3) := by decide +kernel
theorem dX3_give_25 : decode cX3_give 25 = .ok (.if_icmp .ne 13, 3) := by decide +kernel
theorem dX3_give_28 : decode cX3_give 28 = .ok (.aload_n 0, 1) := by decide +kernel
theorem dX3_give_29 : decode cX3_give 29 = .ok (.dup, 1) := by decide +kernel
theorem dX3_give_30 : decode cX3_give 30 = .ok (.getfield 36, 3) := by decide +kernel
theorem dX3_give_33 : decode cX3_give 33 = .ok (.iconst 1, 1) := by decide +kernel
theorem dX3_give_34 : decode cX3_give 34 = .ok (.iadd, 1) := by decide +kernel
theorem dX3_give_35 : decode cX3_give 35 = .ok (.putfield 36, 3) := by decide +kernel
theorem dX3_give_38 : decode cX3_give 38 = .ok (.iload_n 2, 1) := by decide +kernel
theorem dX3_give_39 : decode cX3_give 39 = .ok (.aload_n 0, 1) := by decide +kernel
theorem dX3_give_40 : decode cX3_give 40 = .ok (.getfield 24, 3) := by decide +kernel
theorem dX3_give_43 : decode cX3_give 43 = .ok (.if_icmp .gt 6, 3) := by decide +kernel
theorem dX3_give_46 : decode cX3_give 46 = .ok (.goto 18, 3) := by decide +kernel
theorem dX3_give_49 : decode cX3_give 49 = .ok (.aload_n 0, 1) := by decide +kernel
theorem dX3_give_50 : decode cX3_give 50 = .ok (.iload_n 2, 1) := by decide +kernel
theorem dX3_give_51 : decode cX3_give 51 = .ok (.putfield 24, 3) := by decide +kernel
theorem dX3_give_54 : decode cX3_give 54 = .ok (.aload_n 0, 1) := by decide +kernel
theorem dX3_give_55 : decode cX3_give 55 = .ok (.iconst 1, 1) := by decide +kernel
theorem dX3_give_56 : decode cX3_give 56 = .ok (.putfield 36, 3) := by decide +kernel
theorem dX3_give_59 : decode cX3_give 59 = .ok (.aload_n 0, 1) := by decide +kernel
theorem dX3_give_60 : decode cX3_give 60 = .ok (.aload_n 1, 1) := by decide +kernel
theorem dX3_give_61 : decode cX3_give 61 = .ok (.putfield 39, 3) := by decide +kernel
theorem dX3_give_64 : decode cX3_give 64 = .ok (.aload_n 1, 1) := by decide +kernel
theorem dX3_give_65 : decode cX3_give 65 = .ok (.invokestatic 42, 3) := by decide +kernel
theorem dX3_give_68 : decode cX3_give 68 = .ok (.astore_n 1, 1) := by decide +kernel
theorem dX3_give_69 : decode cX3_give 69 = .ok (.goto (-59), 3) := by decide +kernel
theorem dX3_give_72 : decode cX3_give 72 = .ok (.aload_n 0, 1) := by decide +kernel
theorem dX3_give_73 : decode cX3_give 73 = .ok (.areturn, 1) := by decide +kernel
set_option maxRecDepth 20000 in
theorem ggX3_settle_X3_give : GoodIn wsX3_settle wsX3_give := goodIn_r _ [18, 11, 19, 4, 20, 21, 22, 17, 23, 2, 24, 25, 26, 27, 3, 28, 29, 30, 31, 32, 33, 34, 35, 36, 37, 38, 39, 40, 41, 42, 43, 44, 45, 46, 47, 48] rfl (by decide +kernel)
set_option maxRecDepth 20000 in
theorem gX3_settle_X3_give : GoodIn wsX3_settle (wsV RX3 46 RX3 yX3_give wsX3_give) := goodIn_app (goodIn_of _ (by decide +kernel)) ggX3_settle_X3_give
set_option maxRecDepth 20000 in
theorem ggX3_settle_X3_n : GoodIn wsX3_settle wsX3_n := goodIn_r _ [27, 3, 41, 42, 43, 44, 45, 46, 47, 48] rfl (by decide +kernel)
set_option maxRecDepth 20000 in
theorem gX3_settle_X3_n : GoodIn wsX3_settle (wsV RX3 15 RX3 yX3_n wsX3_n) := goodIn_app (goodIn_of _ (by decide +kernel)) ggX3_settle_X3_n
theorem dX3_settle_0 : decode cX3_settle 0 = .ok (.aload_n 0, 1) := by decide +kernel
theorem dX3_settle_1 : decode cX3_settle 1 = .ok (.invokevirtual 46, 3) := by decide +kernel
theorem dX3_settle_4 : decode cX3_settle 4 = .ok (.pop, 1) := by decide +kernel
theorem dX3_settle_5 : decode cX3_settle 5 = .ok (.aload_n 0, 1) := by decide +kernel
theorem dX3_settle_6 : decode cX3_settle 6 = .ok (.invokevirtual 15, 3) := by decide +kernel
theorem dX3_settle_9 : decode cX3_settle 9 = .ok (.istore_n 1, 1) := by decide +kernel
theorem dX3_settle_10 : decode cX3_settle 10 = .ok (.iload_n 1, 1) := by decide +kernel
theorem dX3_settle_11 : decode cX3_settle 11 = .ok (.iload_n 1, 1) := by decide +kernel
theorem dX3_settle_12 : decode cX3_settle 12 = .ok (.multianewarray 19 2, 4) := by decide +kernel
theorem dX3_settle_16 : decode cX3_settle 16 = .ok (.astore_n 2, 1) := by decide +kernel
theorem dX3_settle_17 : decode cX3_settle 17 = .ok (.iconst 0, 1) := by decide +kernel
theorem dX3_settle_18 : decode cX3_settle 18 = .ok (.istore_n 3, 1) := by decide +kernel
theorem dX3_settle_19 : decode cX3_settle 19 = .ok (.iload_n 3, 1) := by decide +kernel
theorem dX3_settle_20 : decode cX3_settle 20 = .ok (.iload_n 1, 1) := by decide +kernel
theorem dX3_settle_21 : decode cX3_settle 21 = .ok (.if_icmp .ge 60, 3) := by decide +kernel
theorem dX3_settle_24 : decode cX3_settle 24 = .ok (.iconst 0, 1) := by decide +kernel
theorem dX3_settle_25 : decode cX3_settle 25 = .ok (.istore 4, 2) := by decide +kernel
theorem dX3_settle_27 : decode cX3_settle 27 = .ok (.iload 4, 2) := by decide +kernel
theorem dX3_settle_29 : decode cX3_settle 29 = .ok (.iload_n 1, 1) := by decide +kernel
theorem dX3_settle_30 : decode cX3_settle 30 = .ok (.if_icmp .ge 45, 3) := by decide +kernel
theorem dX3_settle_33 : decode cX3_settle 33 = .ok (.aload_n 2, 1) := by decide +kernel
theorem dX3_settle_34 : decode cX3_settle 34 = .ok (.iload_n 3, 1) := by decide +kernel
theorem dX3_settle_35 : decode cX3_settle 35 = .ok (.aaload, 1) := by decide +kernel
theorem dX3_settle_36 : decode cX3_settle 36 = .ok (.iload 4, 2) := by decide +kernel
theorem dX3_settle_38 : decode cX3_settle 38 = .ok (.aload_n 0, 1) := by decide +kernel
theorem dX3_settle_39 : decode cX3_settle 39 = .ok (.getfield 9, 3) := by decide +kernel
theorem dX3_settle_42 : decode cX3_settle 42 = .ok (.iload_n 3, 1) := by decide +kernel
theorem dX3_settle_43 : decode cX3_settle 43 = .ok (.aaload, 1) := by decide +kernel
theorem dX3_settle_44 : decode cX3_settle 44 = .ok (.aload_n 0, 1) := by decide +kernel
theorem dX3_settle_45 : decode cX3_settle 45 = .ok (.getfield 39, 3) := by decide +kernel
theorem dX3_settle_48 : decode cX3_settle 48 = .ok (.iload 4, 2) := by decide +kernel
theorem dX3_settle_50 : decode cX3_settle 50 = .ok (.iaload, 1) := by decide +kernel
theorem dX3_settle_51 : decode cX3_settle 51 = .ok (.iaload, 1) := by decide +kernel
theorem dX3_settle_52 : decode cX3_settle 52 = .ok (.aload_n 0, 1) := by decide +kernel
theorem dX3_settle_53 : decode cX3_settle 53 = .ok (.getfield 9, 3) := by decide +kernel
theorem dX3_settle_56 : decode cX3_settle 56 = .ok (.iload 4, 2) := by decide +kernel
theorem dX3_settle_58 : decode cX3_settle 58 = .ok (.aaload, 1) := by decide +kernel
theorem dX3_settle_59 : decode cX3_settle 59 = .ok (.aload_n 0, 1) := by decide +kernel
theorem dX3_settle_60 : decode cX3_settle 60 = .ok (.getfield 39, 3) := by decide +kernel
theorem dX3_settle_63 : decode cX3_settle 63 = .ok (.iload 4, 2) := by decide +kernel
theorem dX3_settle_65 : decode cX3_settle 65 = .ok (.iaload, 1) := by decide +kernel
theorem dX3_settle_66 : decode cX3_settle 66 = .ok (.iaload, 1) := by decide +kernel
theorem dX3_settle_67 : decode cX3_settle 67 = .ok (.isub, 1) := by decide +kernel
theorem dX3_settle_68 : decode cX3_settle 68 = .ok (.iastore, 1) := by decide +kernel
theorem dX3_settle_69 : decode cX3_settle 69 = .ok (.iinc 4 1, 3) := by decide +kernel
theorem dX3_settle_72 : decode cX3_settle 72 = .ok (.goto (-45), 3) := by decide +kernel
theorem dX3_settle_75 : decode cX3_settle 75 = .ok (.iinc 3 1, 3) := by decide +kernel
theorem dX3_settle_78 : decode cX3_settle 78 = .ok (.goto (-59), 3) := by decide +kernel
theorem dX3_settle_81 : decode cX3_settle 81 = .ok (.iconst 0, 1) := by decide +kernel
theorem dX3_settle_82 : decode cX3_settle 82 = .ok (.istore_n 3, 1) := by decide +kernel
theorem dX3_settle_83 : decode cX3_settle 83 = .ok (.iload_n 3, 1) := by decide +kernel
theorem dX3_settle_84 : decode cX3_settle 84 = .ok (.iload_n 1, 1) := by decide +kernel
theorem dX3_settle_85 : decode cX3_settle 85 = .ok (.if_icmp .ge 69, 3) := by decide +kernel
theorem dX3_settle_88 : decode cX3_settle 88 = .ok (.iconst 0, 1) := by decide +kernel
theorem dX3_settle_89 : decode cX3_settle 89 = .ok (.istore 4, 2) := by decide +kernel
theorem dX3_settle_91 : decode cX3_settle 91 = .ok (.iload 4, 2) := by decide +kernel
theorem dX3_settle_93 : decode cX3_settle 93 = .ok (.iload_n 1, 1) := by decide +kernel
theorem dX3_settle_94 : decode cX3_settle 94 = .ok (.if_icmp .ge 54, 3) := by decide +kernel
theorem dX3_settle_97 : decode cX3_settle 97 = .ok (.iconst 0, 1) := by decide +kernel
theorem dX3_settle_98 : decode cX3_settle 98 = .ok (.istore 5, 2) := by decide +kernel
theorem dX3_settle_100 : decode cX3_settle 100 = .ok (.iload 5, 2) := by decide +kernel
theorem dX3_settle_102 : decode cX3_settle 102 = .ok (.iload_n 1, 1) := by decide +kernel
theorem dX3_settle_103 : decode cX3_settle 103 = .ok (.if_icmp .ge 39, 3) := by decide +kernel
theorem dX3_settle_106 : decode cX3_settle 106 = .ok (.aload_n 2, 1) := by decide +kernel
theorem dX3_settle_107 : decode cX3_settle 107 = .ok (.iload 4, 2) := by decide +kernel
theorem dX3_settle_109 : decode cX3_settle 109 = .ok (.aaload, 1) := by decide +kernel
theorem dX3_settle_110 : decode cX3_settle 110 = .ok (.iload 5, 2) := by decide +kernel
theorem dX3_settle_112 : decode cX3_settle 112 = .ok (.aload_n 2, 1) := by decide +kernel
theorem dX3_settle_113 : decode cX3_settle 113 = .ok (.iload 4, 2) := by decide +kernel
theorem dX3_settle_115 : decode cX3_settle 115 = .ok (.aaload, 1) := by decide +kernel
theorem dX3_settle_116 : decode cX3_settle 116 = .ok (.iload 5, 2) := by decide +kernel
theorem dX3_settle_118 : decode cX3_settle 118 = .ok (.iaload, 1) := by decide +kernel
theorem dX3_settle_119 : decode cX3_settle 119 = .ok (.aload_n 2, 1) := by decide +kernel
theorem dX3_settle_120 : decode cX3_settle 120 = .ok (.iload 4, 2) := by decide +kernel
theorem dX3_settle_122 : decode cX3_settle 122 = .ok (.aaload, 1) := by decide +kernel
theorem dX3_settle_123 : decode cX3_settle 123 = .ok (.iload_n 3, 1) := by decide +kernel
theorem dX3_settle_124 : decode cX3_settle 124 = .ok (.iaload, 1) := by decide +kernel
theorem dX3_settle_125 : decode cX3_settle 125 = .ok (.aload_n 2, 1) := by decide +kernel
theorem dX3_settle_126 : decode cX3_settle 126 = .ok (.iload_n 3, 1) := by decide +kernel
theorem dX3_settle_127 : decode cX3_settle 127 = .ok (.aaload, 1) := by decide +kernel
theorem dX3_settle_128 : decode cX3_settle 128 = .ok (.iload 5, 2) := by decide +kernel
theorem dX3_settle_130 : decode cX3_settle 130 = .ok (.iaload, 1) := by decide +kernel
theorem dX3_settle_131 : decode cX3_settle 131 = .ok (.iadd, 1) := by decide +kernel
theorem dX3_settle_132 : decode cX3_settle 132 = .ok (.invokestatic 50, 3) := by decide +kernel
theorem dX3_settle_135 : decode cX3_settle 135 = .ok (.iastore, 1) := by decide +kernel
theorem dX3_settle_136 : decode cX3_settle 136 = .ok (.iinc 5 1, 3) := by decide +kernel
theorem dX3_settle_139 : decode cX3_settle 139 = .ok (.goto (-39), 3) := by decide +kernel
theorem dX3_settle_142 : decode cX3_settle 142 = .ok (.iinc 4 1, 3) := by decide +kernel
theorem dX3_settle_145 : decode cX3_settle 145 = .ok (.goto (-54), 3) := by decide +kernel
theorem dX3_settle_148 : decode cX3_settle 148 = .ok (.iinc 3 1, 3) := by decide +kernel
theorem dX3_settle_151 : decode cX3_settle 151 = .ok (.goto (-68), 3) := by decide +kernel
theorem dX3_settle_154 : decode cX3_settle 154 = .ok (.aload_n 0, 1) := by decide +kernel
theorem dX3_settle_155 : decode cX3_settle 155 = .ok (.iload_n 1, 1) := by decide +kernel
theorem dX3_settle_156 : decode cX3_settle 156 = .ok (.newarray .int, 2) := by decide +kernel
theorem dX3_settle_158 : decode cX3_settle 158 = .ok (.putfield 56, 3) := by decide +kernel
theorem dX3_settle_161 : decode cX3_settle 161 = .ok (.aload_n 0, 1) := by decide +kernel
theorem dX3_settle_162 : decode cX3_settle 162 = .ok (.iload_n 1, 1) := by decide +kernel
theorem dX3_settle_163 : decode cX3_settle 163 = .ok (.newarray .int, 2) := by decide +kernel
theorem dX3_settle_165 : decode cX3_settle 165 = .ok (.putfield 59, 3) := by decide +kernel
theorem dX3_settle_168 : decode cX3_settle 168 = .ok (.aload_n 0, 1) := by decide +kernel
theorem dX3_settle_169 : decode cX3_settle 169 = .ok (.aload_n 0, 1) := by decide +kernel
theorem dX3_settle_170 : decode cX3_settle 170 = .ok (.getfield 24, 3) := by decide +kernel
theorem dX3_settle_173 : decode cX3_settle 173 = .ok (.aload_n 0, 1) := by decide +kernel
theorem dX3_settle_174 : decode cX3_settle 174 = .ok (.getfield 62, 3) := by decide +kernel
theorem dX3_settle_177 : decode cX3_settle 177 = .ok (.isub, 1) := by decide +kernel
theorem dX3_settle_178 : decode cX3_settle 178 = .ok (.putfield 65, 3) := by decide +kernel
theorem dX3_settle_181 : decode cX3_settle 181 = .ok (.iconst 0, 1) := by decide +kernel
theorem dX3_settle_182 : decode cX3_settle 182 = .ok (.istore_n 3, 1) := by decide +kernel
theorem dX3_settle_183 : decode cX3_settle 183 = .ok (.iload_n 3, 1) := by decide +kernel
theorem dX3_settle_184 : decode cX3_settle 184 = .ok (.iload_n 1, 1) := by decide +kernel
theorem dX3_settle_185 : decode cX3_settle 185 = .ok (.if_icmp .ge 60, 3) := by decide +kernel
theorem dX3_settle_188 : decode cX3_settle 188 = .ok (.iconst 0, 1) := by decide +kernel
theorem dX3_settle_189 : decode cX3_settle 189 = .ok (.istore 4, 2) := by decide +kernel
theorem dX3_settle_191 : decode cX3_settle 191 = .ok (.iload 4, 2) := by decide +kernel
theorem dX3_settle_193 : decode cX3_settle 193 = .ok (.iload_n 1, 1) := by decide +kernel
theorem dX3_settle_194 : decode cX3_settle 194 = .ok (.if_icmp .ge 30, 3) := by decide +kernel
theorem dX3_settle_197 : decode cX3_settle 197 = .ok (.aload_n 0, 1) := by decide +kernel
theorem dX3_settle_198 : decode cX3_settle 198 = .ok (.getfield 56, 3) := by decide +kernel
theorem dX3_settle_201 : decode cX3_settle 201 = .ok (.iload_n 3, 1) := by decide +kernel
theorem dX3_settle_202 : decode cX3_settle 202 = .ok (.aload_n 0, 1) := by decide +kernel
theorem dX3_settle_203 : decode cX3_settle 203 = .ok (.getfield 56, 3) := by decide +kernel
theorem dX3_settle_206 : decode cX3_settle 206 = .ok (.iload_n 3, 1) := by decide +kernel
theorem dX3_settle_207 : decode cX3_settle 207 = .ok (.iaload, 1) := by decide +kernel
theorem dX3_settle_208 : decode cX3_settle 208 = .ok (.aload_n 2, 1) := by decide +kernel
theorem dX3_settle_209 : decode cX3_settle 209 = .ok (.iload_n 3, 1) := by decide +kernel
theorem dX3_settle_210 : decode cX3_settle 210 = .ok (.aaload, 1) := by decide +kernel
theorem dX3_settle_211 : decode cX3_settle 211 = .ok (.iload 4, 2) := by decide +kernel
theorem dX3_settle_213 : decode cX3_settle 213 = .ok (.iaload, 1) := by decide +kernel
theorem dX3_settle_214 : decode cX3_settle 214 = .ok (.invokestatic 50, 3) := by decide +kernel
theorem dX3_settle_217 : decode cX3_settle 217 = .ok (.iastore, 1) := by decide +kernel
theorem dX3_settle_218 : decode cX3_settle 218 = .ok (.iinc 4 1, 3) := by decide +kernel
theorem dX3_settle_221 : decode cX3_settle 221 = .ok (.goto (-30), 3) := by decide +kernel
theorem dX3_settle_224 : decode cX3_settle 224 = .ok (.aload_n 0, 1) := by decide +kernel
theorem dX3_settle_225 : decode cX3_settle 225 = .ok (.dup, 1) := by decide +kernel
theorem dX3_settle_226 : decode cX3_settle 226 = .ok (.getfield 65, 3) := by decide +kernel
theorem dX3_settle_229 : decode cX3_settle 229 = .ok (.aload_n 0, 1) := by decide +kernel
theorem dX3_settle_230 : decode cX3_settle 230 = .ok (.getfield 56, 3) := by decide +kernel
theorem dX3_settle_233 : decode cX3_settle 233 = .ok (.iload_n 3, 1) := by decide +kernel
theorem dX3_settle_234 : decode cX3_settle 234 = .ok (.iaload, 1) := by decide +kernel
theorem dX3_settle_235 : decode cX3_settle 235 = .ok (.isub, 1) := by decide +kernel
theorem dX3_settle_236 : decode cX3_settle 236 = .ok (.putfield 65, 3) := by decide +kernel
theorem dX3_settle_239 : decode cX3_settle 239 = .ok (.iinc 3 1, 3) := by decide +kernel
theorem dX3_settle_242 : decode cX3_settle 242 = .ok (.goto (-59), 3) := by decide +kernel
theorem dX3_settle_245 : decode cX3_settle 245 = .ok (.iload_n 1, 1) := by decide +kernel
theorem dX3_settle_246 : decode cX3_settle 246 = .ok (.ifCond .eq 10, 3) := by decide +kernel
theorem dX3_settle_249 : decode cX3_settle 249 = .ok (.aload_n 0, 1) := by decide +kernel
theorem dX3_settle_250 : decode cX3_settle 250 = .ok (.getfield 65, 3) := by decide +kernel
theorem dX3_settle_253 : decode cX3_settle 253 = .ok (.ifCond .ge 7, 3) := by decide +kernel
theorem dX3_settle_256 : decode cX3_settle 256 = .ok (.iconst 0, 1) := by decide +kernel
theorem dX3_settle_257 : decode cX3_settle 257 = .ok (.goto 9, 3) := by decide +kernel
theorem dX3_settle_260 : decode cX3_settle 260 = .ok (.aload_n 0, 1) := by decide +kernel
theorem dX3_settle_261 : decode cX3_settle 261 = .ok (.getfield 65, 3) := by decide +kernel
theorem dX3_settle_264 : decode cX3_settle 264 = .ok (.iload_n 1, 1) := by decide +kernel
theorem dX3_settle_265 : decode cX3_settle 265 = .ok (.idiv, 1) := by decide +kernel
theorem dX3_settle_266 : decode cX3_settle 266 = .ok (.istore_n 3, 1) := by decide +kernel
theorem dX3_settle_267 : decode cX3_settle 267 = .ok (.iconst 0, 1) := by decide +kernel
theorem dX3_settle_268 : decode cX3_settle 268 = .ok (.istore 4, 2) := by decide +kernel
theorem dX3_settle_270 : decode cX3_settle 270 = .ok (.iload 4, 2) := by decide +kernel
theorem dX3_settle_272 : decode cX3_settle 272 = .ok (.iload_n 1, 1) := by decide +kernel
theorem dX3_settle_273 : decode cX3_settle 273 = .ok (.if_icmp .ge 35, 3) := by decide +kernel
theorem dX3_settle_276 : decode cX3_settle 276 = .ok (.aload_n 0, 1) := by decide +kernel
theorem dX3_settle_277 : decode cX3_settle 277 = .ok (.getfield 59, 3) := by decide +kernel
theorem dX3_settle_280 : decode cX3_settle 280 = .ok (.iload 4, 2) := by decide +kernel
theorem dX3_settle_282 : decode cX3_settle 282 = .ok (.aload_n 0, 1) := by decide +kernel
theorem dX3_settle_283 : decode cX3_settle 283 = .ok (.getfield 56, 3) := by decide +kernel
theorem dX3_settle_286 : decode cX3_settle 286 = .ok (.iload 4, 2) := by decide +kernel
theorem dX3_settle_288 : decode cX3_settle 288 = .ok (.iaload, 1) := by decide +kernel
theorem dX3_settle_289 : decode cX3_settle 289 = .ok (.iload_n 3, 1) := by decide +kernel
theorem dX3_settle_290 : decode cX3_settle 290 = .ok (.iadd, 1) := by decide +kernel
theorem dX3_settle_291 : decode cX3_settle 291 = .ok (.iastore, 1) := by decide +kernel
theorem dX3_settle_292 : decode cX3_settle 292 = .ok (.aload_n 0, 1) := by decide +kernel
theorem dX3_settle_293 : decode cX3_settle 293 = .ok (.dup, 1) := by decide +kernel
theorem dX3_settle_294 : decode cX3_settle 294 = .ok (.getfield 65, 3) := by decide +kernel
theorem dX3_settle_297 : decode cX3_settle 297 = .ok (.iload_n 3, 1) := by decide +kernel
theorem dX3_settle_298 : decode cX3_settle 298 = .ok (.isub, 1) := by decide +kernel
theorem dX3_settle_299 : decode cX3_settle 299 = .ok (.putfield 65, 3) := by decide +kernel
theorem dX3_settle_302 : decode cX3_settle 302 = .ok (.iinc 4 1, 3) := by decide +kernel
theorem dX3_settle_305 : decode cX3_settle 305 = .ok (.goto (-35), 3) := by decide +kernel
theorem dX3_settle_308 : decode cX3_settle 308 = .ok (.aload_n 0, 1) := by decide +kernel
theorem dX3_settle_309 : decode cX3_settle 309 = .ok (.areturn, 1) := by decide +kernel
theorem dX3_pays_0 : decode cX3_pays 0 = .ok (.aload_n 0, 1) := by decide +kernel
theorem dX3_pays_1 : decode cX3_pays 1 = .ok (.getfield 9, 3) := by decide +kernel
theorem dX3_pays_4 : decode cX3_pays 4 = .ok (.iload_n 1, 1) := by decide +kernel
theorem dX3_pays_5 : decode cX3_pays 5 = .ok (.aaload, 1) := by decide +kernel
theorem dX3_pays_6 : decode cX3_pays 6 = .ok (.aload_n 0, 1) := by decide +kernel
theorem dX3_pays_7 : decode cX3_pays 7 = .ok (.getfield 39, 3) := by decide +kernel
theorem dX3_pays_10 : decode cX3_pays 10 = .ok (.iload_n 1, 1) := by decide +kernel
theorem dX3_pays_11 : decode cX3_pays 11 = .ok (.iaload, 1) := by decide +kernel
theorem dX3_pays_12 : decode cX3_pays 12 = .ok (.iaload, 1) := by decide +kernel
theorem dX3_pays_13 : decode cX3_pays 13 = .ok (.aload_n 0, 1) := by decide +kernel
theorem dX3_pays_14 : decode cX3_pays 14 = .ok (.getfield 59, 3) := by decide +kernel
theorem dX3_pays_17 : decode cX3_pays 17 = .ok (.iload_n 1, 1) := by decide +kernel
theorem dX3_pays_18 : decode cX3_pays 18 = .ok (.iaload, 1) := by decide +kernel
theorem dX3_pays_19 : decode cX3_pays 19 = .ok (.isub, 1) := by decide +kernel
theorem dX3_pays_20 : decode cX3_pays 20 = .ok (.ireturn, 1) := by decide +kernel
theorem dX3_envies_0 : decode cX3_envies 0 = .ok (.aload_n 0, 1) := by decide +kernel
theorem dX3_envies_1 : decode cX3_envies 1 = .ok (.getfield 9, 3) := by decide +kernel
theorem dX3_envies_4 : decode cX3_envies 4 = .ok (.iload_n 1, 1) := by decide +kernel
theorem dX3_envies_5 : decode cX3_envies 5 = .ok (.aaload, 1) := by decide +kernel
theorem dX3_envies_6 : decode cX3_envies 6 = .ok (.aload_n 0, 1) := by decide +kernel
theorem dX3_envies_7 : decode cX3_envies 7 = .ok (.getfield 39, 3) := by decide +kernel
theorem dX3_envies_10 : decode cX3_envies 10 = .ok (.iload_n 2, 1) := by decide +kernel
theorem dX3_envies_11 : decode cX3_envies 11 = .ok (.iaload, 1) := by decide +kernel
theorem dX3_envies_12 : decode cX3_envies 12 = .ok (.iaload, 1) := by decide +kernel
theorem dX3_envies_13 : decode cX3_envies 13 = .ok (.aload_n 0, 1) := by decide +kernel
theorem dX3_envies_14 : decode cX3_envies 14 = .ok (.getfield 9, 3) := by decide +kernel
theorem dX3_envies_17 : decode cX3_envies 17 = .ok (.iload_n 1, 1) := by decide +kernel
theorem dX3_envies_18 : decode cX3_envies 18 = .ok (.aaload, 1) := by decide +kernel
theorem dX3_envies_19 : decode cX3_envies 19 = .ok (.aload_n 0, 1) := by decide +kernel
theorem dX3_envies_20 : decode cX3_envies 20 = .ok (.getfield 39, 3) := by decide +kernel
theorem dX3_envies_23 : decode cX3_envies 23 = .ok (.iload_n 1, 1) := by decide +kernel
theorem dX3_envies_24 : decode cX3_envies 24 = .ok (.iaload, 1) := by decide +kernel
theorem dX3_envies_25 : decode cX3_envies 25 = .ok (.iaload, 1) := by decide +kernel
theorem dX3_envies_26 : decode cX3_envies 26 = .ok (.if_icmp .le 7, 3) := by decide +kernel
theorem dX3_envies_29 : decode cX3_envies 29 = .ok (.iconst 1, 1) := by decide +kernel
theorem dX3_envies_30 : decode cX3_envies 30 = .ok (.goto 4, 3) := by decide +kernel
theorem dX3_envies_33 : decode cX3_envies 33 = .ok (.iconst 0, 1) := by decide +kernel
theorem dX3_envies_34 : decode cX3_envies 34 = .ok (.ireturn, 1) := by decide +kernel
set_option maxRecDepth 20000 in
theorem ggX3_leave_X3_give : GoodIn wsX3_leave wsX3_give := goodIn_r _ [9, 10, 11, 1, 12, 13, 14, 8, 15, 3, 16, 17, 18, 19, 4, 20, 21, 22, 23, 24, 25, 26, 27, 28, 29, 30, 31, 32, 33, 34, 35, 36, 37, 38, 39, 40] rfl (by decide +kernel)
set_option maxRecDepth 20000 in
theorem gX3_leave_X3_give : GoodIn wsX3_leave (wsV RX3 46 RX3 yX3_give wsX3_give) := goodIn_app (goodIn_of _ (by decide +kernel)) ggX3_leave_X3_give
set_option maxRecDepth 20000 in
theorem ggX3_leave_X3_n : GoodIn wsX3_leave wsX3_n := goodIn_r _ [19, 4, 33, 34, 35, 36, 37, 38, 39, 40] rfl (by decide +kernel)
set_option maxRecDepth 20000 in
theorem gX3_leave_X3_n : GoodIn wsX3_leave (wsV RX3 15 RX3 yX3_n wsX3_n) := goodIn_app (goodIn_of _ (by decide +kernel)) ggX3_leave_X3_n
theorem dX3_leave_0 : decode cX3_leave 0 = .ok (.aload_n 0, 1) := by decide +kernel
theorem dX3_leave_1 : decode cX3_leave 1 = .ok (.invokevirtual 46, 3) := by decide +kernel
theorem dX3_leave_4 : decode cX3_leave 4 = .ok (.pop, 1) := by decide +kernel
theorem dX3_leave_5 : decode cX3_leave 5 = .ok (.aload_n 0, 1) := by decide +kernel
theorem dX3_leave_6 : decode cX3_leave 6 = .ok (.invokevirtual 15, 3) := by decide +kernel
theorem dX3_leave_9 : decode cX3_leave 9 = .ok (.istore_n 2, 1) := by decide +kernel
theorem dX3_leave_10 : decode cX3_leave 10 = .ok (.aload_n 0, 1) := by decide +kernel
theorem dX3_leave_11 : decode cX3_leave 11 = .ok (.getfield 39, 3) := by decide +kernel
theorem dX3_leave_14 : decode cX3_leave 14 = .ok (.iload_n 1, 1) := by decide +kernel
theorem dX3_leave_15 : decode cX3_leave 15 = .ok (.iaload, 1) := by decide +kernel
theorem dX3_leave_16 : decode cX3_leave 16 = .ok (.istore_n 3, 1) := by decide +kernel
theorem dX3_leave_17 : decode cX3_leave 17 = .ok (.iload_n 2, 1) := by decide +kernel
theorem dX3_leave_18 : decode cX3_leave 18 = .ok (.iconst 1, 1) := by decide +kernel
theorem dX3_leave_19 : decode cX3_leave 19 = .ok (.isub, 1) := by decide +kernel
theorem dX3_leave_20 : decode cX3_leave 20 = .ok (.iload_n 2, 1) := by decide +kernel
theorem dX3_leave_21 : decode cX3_leave 21 = .ok (.iconst 1, 1) := by decide +kernel
theorem dX3_leave_22 : decode cX3_leave 22 = .ok (.isub, 1) := by decide +kernel
theorem dX3_leave_23 : decode cX3_leave 23 = .ok (.multianewarray 19 2, 4) := by decide +kernel
theorem dX3_leave_27 : decode cX3_leave 27 = .ok (.astore 4, 2) := by decide +kernel
theorem dX3_leave_29 : decode cX3_leave 29 = .ok (.iconst 0, 1) := by decide +kernel
theorem dX3_leave_30 : decode cX3_leave 30 = .ok (.istore 5, 2) := by decide +kernel
theorem dX3_leave_32 : decode cX3_leave 32 = .ok (.iload 5, 2) := by decide +kernel
theorem dX3_leave_34 : decode cX3_leave 34 = .ok (.iload_n 2, 1) := by decide +kernel
theorem dX3_leave_35 : decode cX3_leave 35 = .ok (.if_icmp .ge 83, 3) := by decide +kernel
theorem dX3_leave_38 : decode cX3_leave 38 = .ok (.iconst 0, 1) := by decide +kernel
theorem dX3_leave_39 : decode cX3_leave 39 = .ok (.istore 6, 2) := by decide +kernel
theorem dX3_leave_41 : decode cX3_leave 41 = .ok (.iload 6, 2) := by decide +kernel
theorem dX3_leave_43 : decode cX3_leave 43 = .ok (.iload_n 2, 1) := by decide +kernel
theorem dX3_leave_44 : decode cX3_leave 44 = .ok (.if_icmp .ge 68, 3) := by decide +kernel
theorem dX3_leave_47 : decode cX3_leave 47 = .ok (.iload 5, 2) := by decide +kernel
theorem dX3_leave_49 : decode cX3_leave 49 = .ok (.iload_n 1, 1) := by decide +kernel
theorem dX3_leave_50 : decode cX3_leave 50 = .ok (.if_icmp .eq 56, 3) := by decide +kernel
theorem dX3_leave_53 : decode cX3_leave 53 = .ok (.iload 6, 2) := by decide +kernel
theorem dX3_leave_55 : decode cX3_leave 55 = .ok (.iload_n 3, 1) := by decide +kernel
theorem dX3_leave_56 : decode cX3_leave 56 = .ok (.if_icmp .ne 6, 3) := by decide +kernel
theorem dX3_leave_59 : decode cX3_leave 59 = .ok (.goto 47, 3) := by decide +kernel
theorem dX3_leave_62 : decode cX3_leave 62 = .ok (.aload 4, 2) := by decide +kernel
theorem dX3_leave_64 : decode cX3_leave 64 = .ok (.iload 5, 2) := by decide +kernel
theorem dX3_leave_66 : decode cX3_leave 66 = .ok (.iload_n 1, 1) := by decide +kernel
theorem dX3_leave_67 : decode cX3_leave 67 = .ok (.if_icmp .le 10, 3) := by decide +kernel
theorem dX3_leave_70 : decode cX3_leave 70 = .ok (.iload 5, 2) := by decide +kernel
theorem dX3_leave_72 : decode cX3_leave 72 = .ok (.iconst 1, 1) := by decide +kernel
theorem dX3_leave_73 : decode cX3_leave 73 = .ok (.isub, 1) := by decide +kernel
theorem dX3_leave_74 : decode cX3_leave 74 = .ok (.goto 5, 3) := by decide +kernel
theorem dX3_leave_77 : decode cX3_leave 77 = .ok (.iload 5, 2) := by decide +kernel
theorem dX3_leave_79 : decode cX3_leave 79 = .ok (.aaload, 1) := by decide +kernel
theorem dX3_leave_80 : decode cX3_leave 80 = .ok (.iload 6, 2) := by decide +kernel
theorem dX3_leave_82 : decode cX3_leave 82 = .ok (.iload_n 3, 1) := by decide +kernel
theorem dX3_leave_83 : decode cX3_leave 83 = .ok (.if_icmp .le 10, 3) := by decide +kernel
theorem dX3_leave_86 : decode cX3_leave 86 = .ok (.iload 6, 2) := by decide +kernel
theorem dX3_leave_88 : decode cX3_leave 88 = .ok (.iconst 1, 1) := by decide +kernel
theorem dX3_leave_89 : decode cX3_leave 89 = .ok (.isub, 1) := by decide +kernel
theorem dX3_leave_90 : decode cX3_leave 90 = .ok (.goto 5, 3) := by decide +kernel
theorem dX3_leave_93 : decode cX3_leave 93 = .ok (.iload 6, 2) := by decide +kernel
theorem dX3_leave_95 : decode cX3_leave 95 = .ok (.aload_n 0, 1) := by decide +kernel
theorem dX3_leave_96 : decode cX3_leave 96 = .ok (.getfield 9, 3) := by decide +kernel
theorem dX3_leave_99 : decode cX3_leave 99 = .ok (.iload 5, 2) := by decide +kernel
theorem dX3_leave_101 : decode cX3_leave 101 = .ok (.aaload, 1) := by decide +kernel
theorem dX3_leave_102 : decode cX3_leave 102 = .ok (.iload 6, 2) := by decide +kernel
theorem dX3_leave_104 : decode cX3_leave 104 = .ok (.iaload, 1) := by decide +kernel
theorem dX3_leave_105 : decode cX3_leave 105 = .ok (.iastore, 1) := by decide +kernel
theorem dX3_leave_106 : decode cX3_leave 106 = .ok (.iinc 6 1, 3) := by decide +kernel
theorem dX3_leave_109 : decode cX3_leave 109 = .ok (.goto (-68), 3) := by decide +kernel
theorem dX3_leave_112 : decode cX3_leave 112 = .ok (.iinc 5 1, 3) := by decide +kernel
theorem dX3_leave_115 : decode cX3_leave 115 = .ok (.goto (-83), 3) := by decide +kernel
theorem dX3_leave_118 : decode cX3_leave 118 = .ok (.aload_n 0, 1) := by decide +kernel
theorem dX3_leave_119 : decode cX3_leave 119 = .ok (.aload 4, 2) := by decide +kernel
theorem dX3_leave_121 : decode cX3_leave 121 = .ok (.putfield 9, 3) := by decide +kernel
theorem dX3_leave_124 : decode cX3_leave 124 = .ok (.iload_n 3, 1) := by decide +kernel
theorem dX3_leave_125 : decode cX3_leave 125 = .ok (.ireturn, 1) := by decide +kernel
set_option maxRecDepth 20000 in
theorem ggX3_chain_X3_n : GoodIn wsX3_chain wsX3_n := goodIn_r _ [10, 11, 17, 18, 19, 20, 21, 22, 23, 24] rfl (by decide +kernel)
set_option maxRecDepth 20000 in
theorem gX3_chain_X3_n : GoodIn wsX3_chain (wsV RX3 15 RX3 yX3_n wsX3_n) := goodIn_app (goodIn_of _ (by decide +kernel)) ggX3_chain_X3_n
set_option maxRecDepth 20000 in
theorem ggX3_chain_X3_envies : GoodIn wsX3_chain wsX3_envies := goodIn_r _ [15, 11, 16, 17, 18, 19, 20, 21, 22, 23, 24] rfl (by decide +kernel)
set_option maxRecDepth 20000 in
theorem gX3_chain_X3_envies : GoodIn wsX3_chain (wsV RX3 68 RX3 yX3_envies wsX3_envies) := goodIn_app (goodIn_of _ (by decide +kernel)) ggX3_chain_X3_envies
theorem dX3_chain_0 : decode cX3_chain 0 = .ok (.aload_n 0, 1) := by decide +kernel
theorem dX3_chain_1 : decode cX3_chain 1 = .ok (.invokevirtual 15, 3) := by decide +kernel
theorem dX3_chain_4 : decode cX3_chain 4 = .ok (.istore_n 1, 1) := by decide +kernel
theorem dX3_chain_5 : decode cX3_chain 5 = .ok (.iload_n 1, 1) := by decide +kernel
theorem dX3_chain_6 : decode cX3_chain 6 = .ok (.newarray .int, 2) := by decide +kernel
theorem dX3_chain_8 : decode cX3_chain 8 = .ok (.astore_n 2, 1) := by decide +kernel
theorem dX3_chain_9 : decode cX3_chain 9 = .ok (.iconst 0, 1) := by decide +kernel
theorem dX3_chain_10 : decode cX3_chain 10 = .ok (.istore_n 3, 1) := by decide +kernel
theorem dX3_chain_11 : decode cX3_chain 11 = .ok (.iconst 0, 1) := by decide +kernel
theorem dX3_chain_12 : decode cX3_chain 12 = .ok (.istore 4, 2) := by decide +kernel
theorem dX3_chain_14 : decode cX3_chain 14 = .ok (.iload 4, 2) := by decide +kernel
theorem dX3_chain_16 : decode cX3_chain 16 = .ok (.iload_n 1, 1) := by decide +kernel
theorem dX3_chain_17 : decode cX3_chain 17 = .ok (.if_icmp .ge 72, 3) := by decide +kernel
theorem dX3_chain_20 : decode cX3_chain 20 = .ok (.iconst 0, 1) := by decide +kernel
theorem dX3_chain_21 : decode cX3_chain 21 = .ok (.istore 5, 2) := by decide +kernel
theorem dX3_chain_23 : decode cX3_chain 23 = .ok (.iload 5, 2) := by decide +kernel
theorem dX3_chain_25 : decode cX3_chain 25 = .ok (.iload_n 1, 1) := by decide +kernel
theorem dX3_chain_26 : decode cX3_chain 26 = .ok (.if_icmp .ge 57, 3) := by decide +kernel
theorem dX3_chain_29 : decode cX3_chain 29 = .ok (.iconst 0, 1) := by decide +kernel
theorem dX3_chain_30 : decode cX3_chain 30 = .ok (.istore 6, 2) := by decide +kernel
theorem dX3_chain_32 : decode cX3_chain 32 = .ok (.iconst 0, 1) := by decide +kernel
theorem dX3_chain_33 : decode cX3_chain 33 = .ok (.istore 7, 2) := by decide +kernel
theorem dX3_chain_35 : decode cX3_chain 35 = .ok (.iload 7, 2) := by decide +kernel
theorem dX3_chain_37 : decode cX3_chain 37 = .ok (.iload_n 1, 1) := by decide +kernel
theorem dX3_chain_38 : decode cX3_chain 38 = .ok (.if_icmp .ge 31, 3) := by decide +kernel
theorem dX3_chain_41 : decode cX3_chain 41 = .ok (.aload_n 0, 1) := by decide +kernel
theorem dX3_chain_42 : decode cX3_chain 42 = .ok (.iload 5, 2) := by decide +kernel
theorem dX3_chain_44 : decode cX3_chain 44 = .ok (.iload 7, 2) := by decide +kernel
theorem dX3_chain_46 : decode cX3_chain 46 = .ok (.invokevirtual 68, 3) := by decide +kernel
theorem dX3_chain_49 : decode cX3_chain 49 = .ok (.ifCond .eq 14, 3) := by decide +kernel
theorem dX3_chain_52 : decode cX3_chain 52 = .ok (.iload 6, 2) := by decide +kernel
theorem dX3_chain_54 : decode cX3_chain 54 = .ok (.aload_n 2, 1) := by decide +kernel
theorem dX3_chain_55 : decode cX3_chain 55 = .ok (.iload 7, 2) := by decide +kernel
theorem dX3_chain_57 : decode cX3_chain 57 = .ok (.iaload, 1) := by decide +kernel
theorem dX3_chain_58 : decode cX3_chain 58 = .ok (.invokestatic 50, 3) := by decide +kernel
theorem dX3_chain_61 : decode cX3_chain 61 = .ok (.istore 6, 2) := by decide +kernel
theorem dX3_chain_63 : decode cX3_chain 63 = .ok (.iinc 7 1, 3) := by decide +kernel
theorem dX3_chain_66 : decode cX3_chain 66 = .ok (.goto (-31), 3) := by decide +kernel
theorem dX3_chain_69 : decode cX3_chain 69 = .ok (.aload_n 2, 1) := by decide +kernel
theorem dX3_chain_70 : decode cX3_chain 70 = .ok (.iload 5, 2) := by decide +kernel
theorem dX3_chain_72 : decode cX3_chain 72 = .ok (.iload 6, 2) := by decide +kernel
theorem dX3_chain_74 : decode cX3_chain 74 = .ok (.iconst 1, 1) := by decide +kernel
theorem dX3_chain_75 : decode cX3_chain 75 = .ok (.iadd, 1) := by decide +kernel
theorem dX3_chain_76 : decode cX3_chain 76 = .ok (.iastore, 1) := by decide +kernel
theorem dX3_chain_77 : decode cX3_chain 77 = .ok (.iinc 5 1, 3) := by decide +kernel
theorem dX3_chain_80 : decode cX3_chain 80 = .ok (.goto (-57), 3) := by decide +kernel
theorem dX3_chain_83 : decode cX3_chain 83 = .ok (.iinc 4 1, 3) := by decide +kernel
theorem dX3_chain_86 : decode cX3_chain 86 = .ok (.goto (-72), 3) := by decide +kernel
theorem dX3_chain_89 : decode cX3_chain 89 = .ok (.aload_n 2, 1) := by decide +kernel
theorem dX3_chain_90 : decode cX3_chain 90 = .ok (.astore 4, 2) := by decide +kernel
theorem dX3_chain_92 : decode cX3_chain 92 = .ok (.aload 4, 2) := by decide +kernel
theorem dX3_chain_94 : decode cX3_chain 94 = .ok (.arraylength, 1) := by decide +kernel
theorem dX3_chain_95 : decode cX3_chain 95 = .ok (.istore 5, 2) := by decide +kernel
theorem dX3_chain_97 : decode cX3_chain 97 = .ok (.iconst 0, 1) := by decide +kernel
theorem dX3_chain_98 : decode cX3_chain 98 = .ok (.istore 6, 2) := by decide +kernel
theorem dX3_chain_100 : decode cX3_chain 100 = .ok (.iload 6, 2) := by decide +kernel
theorem dX3_chain_102 : decode cX3_chain 102 = .ok (.iload 5, 2) := by decide +kernel
theorem dX3_chain_104 : decode cX3_chain 104 = .ok (.if_icmp .ge 23, 3) := by decide +kernel
theorem dX3_chain_107 : decode cX3_chain 107 = .ok (.aload 4, 2) := by decide +kernel
theorem dX3_chain_109 : decode cX3_chain 109 = .ok (.iload 6, 2) := by decide +kernel
theorem dX3_chain_111 : decode cX3_chain 111 = .ok (.iaload, 1) := by decide +kernel
theorem dX3_chain_112 : decode cX3_chain 112 = .ok (.istore 7, 2) := by decide +kernel
theorem dX3_chain_114 : decode cX3_chain 114 = .ok (.iload_n 3, 1) := by decide +kernel
theorem dX3_chain_115 : decode cX3_chain 115 = .ok (.iload 7, 2) := by decide +kernel
theorem dX3_chain_117 : decode cX3_chain 117 = .ok (.invokestatic 50, 3) := by decide +kernel
theorem dX3_chain_120 : decode cX3_chain 120 = .ok (.istore_n 3, 1) := by decide +kernel
theorem dX3_chain_121 : decode cX3_chain 121 = .ok (.iinc 6 1, 3) := by decide +kernel
theorem dX3_chain_124 : decode cX3_chain 124 = .ok (.goto (-24), 3) := by decide +kernel
theorem dX3_chain_127 : decode cX3_chain 127 = .ok (.iload_n 3, 1) := by decide +kernel
theorem dX3_chain_128 : decode cX3_chain 128 = .ok (.ireturn, 1) := by decide +kernel
set_option maxRecDepth 20000 in
theorem ggX3_isSame_X3_settle : GoodIn wsX3_isSame wsX3_settle := goodIn_r _ [14, 15, 3, 1, 2, 16, 17, 18, 19, 5, 4, 7, 6, 8, 20, 21, 22, 13, 23, 9, 24, 25, 26, 27, 28, 29, 30, 31, 32, 33, 34, 35, 36, 37, 38, 39, 40, 41, 42, 43, 44, 172, 173, 174, 175, 176, 177, 178, 179] rfl (by decide +kernel)
set_option maxRecDepth 20000 in
theorem gX3_isSame_X3_settle : GoodIn wsX3_isSame (wsV RX3 72 RX3 yX3_settle wsX3_settle) := goodIn_app (goodIn_of _ (by decide +kernel)) ggX3_isSame_X3_settle
set_option maxRecDepth 20000 in
theorem ggX3_isSame_X3_n : GoodIn wsX3_isSame wsX3_n := goodIn_r _ [31, 1, 172, 173, 174, 175, 176, 177, 178, 179] rfl (by decide +kernel)
set_option maxRecDepth 20000 in
theorem gX3_isSame_X3_n : GoodIn wsX3_isSame (wsV RX3 15 RX3 yX3_n wsX3_n) := goodIn_app (goodIn_of _ (by decide +kernel)) ggX3_isSame_X3_n
set_option maxRecDepth 20000 in
theorem ggX3_isSame_X3_envies : GoodIn wsX3_isSame wsX3_envies := goodIn_r _ [48, 1, 2, 172, 173, 174, 175, 176, 177, 178, 179] rfl (by decide +kernel)
set_option maxRecDepth 20000 in
theorem gX3_isSame_X3_envies : GoodIn wsX3_isSame (wsV RX3 68 RX3 yX3_envies wsX3_envies) := goodIn_app (goodIn_of _ (by decide +kernel)) ggX3_isSame_X3_envies
set_option maxRecDepth 20000 in
theorem ggX3_isSame_X2_envies : GoodIn wsX3_isSame wsX2_envies := goodIn_ca (goodIn_r _ [53, 54, 55, 56, 57, 58, 59, 60, 61, 62, 63, 64, 65, 52, 66, 67, 68, 69, 70, 71, 72, 73, 74, 75, 76, 77, 78, 79, 80, 81, 82, 83, 180, 181, 182, 183, 184, 185, 186, 187, 188, 189, 190, 191, 192, 193] rfl (by decide +kernel)) (goodIn_sub (fun _ h => List.mem_cons_of_mem _ (List.mem_append_right _ h)) (by decide +kernel))
set_option maxRecDepth 20000 in
theorem gX3_isSame_X2_envies : GoodIn wsX3_isSame (wsV RX3 75 RX2 yX2_envies wsX2_envies) := goodIn_app (goodIn_of _ (by decide +kernel)) ggX3_isSame_X2_envies
set_option maxRecDepth 20000 in
theorem ggX3_isSame_X2_offer : GoodIn wsX3_isSame wsX2_offer := goodIn_ca (goodIn_r _ [87, 54, 55, 56, 57, 58, 59, 60, 61, 62, 74, 75, 76, 77, 78, 79, 180, 181, 182, 183, 184, 185, 186, 187, 188, 189, 190] rfl (by decide +kernel)) (goodIn_sub (fun _ h => List.mem_cons_of_mem _ (List.mem_append_right _ h)) (by decide +kernel))
set_option maxRecDepth 20000 in
theorem gX3_isSame_X2_offer : GoodIn wsX3_isSame (wsV RX3 78 RX2 yX2_offer wsX2_offer) := goodIn_app (goodIn_of _ (by decide +kernel)) ggX3_isSame_X2_offer
set_option maxRecDepth 20000 in
theorem ggX3_isSame_X2_gap : GoodIn wsX3_isSame wsX2_gap := goodIn_ca (goodIn_r _ [91, 54, 55, 56, 67, 57, 58, 59, 60, 61, 62, 92, 93, 94, 52, 95, 96, 97, 98, 99, 100, 101, 68, 69, 70, 71, 72, 73, 74, 75, 76, 77, 78, 79, 102, 103, 104, 105, 80, 81, 82, 83, 180, 181, 182, 183, 184, 185, 186, 187, 188, 189, 190, 191, 192, 193] rfl (by decide +kernel)) (goodIn_sub (fun _ h => List.mem_cons_of_mem _ (List.mem_append_right _ h)) (by decide +kernel))
set_option maxRecDepth 20000 in
theorem gX3_isSame_X2_gap : GoodIn wsX3_isSame (wsV RX3 81 RX2 yX2_gap wsX2_gap) := goodIn_app (goodIn_of _ (by decide +kernel)) ggX3_isSame_X2_gap
set_option maxRecDepth 20000 in
theorem ggX3_isSame_X3_pays : GoodIn wsX3_isSame wsX3_pays := goodIn_r _ [109, 1, 2, 4, 172, 173, 174, 175, 176, 177, 178, 179] rfl (by decide +kernel)
set_option maxRecDepth 20000 in
theorem gX3_isSame_X3_pays : GoodIn wsX3_isSame (wsV RX3 84 RX3 yX3_pays wsX3_pays) := goodIn_app (goodIn_of _ (by decide +kernel)) ggX3_isSame_X3_pays
set_option maxRecDepth 20000 in
theorem ggX3_isSame_X2_told : GoodIn wsX3_isSame wsX2_told := goodIn_ca (goodIn_r _ [113, 54, 55, 56, 57, 58, 59, 60, 61, 62, 114, 115, 116, 52, 117, 67, 68, 69, 70, 71, 72, 73, 80, 81, 82, 83, 74, 75, 76, 77, 78, 79, 92, 93, 94, 95, 96, 97, 98, 99, 100, 101, 102, 103, 104, 105, 118, 119, 120, 121, 122, 123, 124, 125, 63, 64, 65, 66, 180, 181, 182, 183, 184, 185, 186, 187, 188, 189, 190, 191, 192, 193] rfl (by decide +kernel)) (goodIn_sub (fun _ h => List.mem_cons_of_mem _ (List.mem_append_right _ h)) (by decide +kernel))
set_option maxRecDepth 20000 in
theorem gX3_isSame_X2_told : GoodIn wsX3_isSame (wsV RX3 88 RX2 yX2_told wsX2_told) := goodIn_app (goodIn_of _ (by decide +kernel)) ggX3_isSame_X2_told
set_option maxRecDepth 20000 in
theorem ggX3_isSame_X2_count : GoodIn wsX3_isSame wsX2_count := goodIn_ca (goodIn_r _ [129, 54, 55, 130, 131, 132, 52, 133, 56, 134, 67, 96, 135, 122, 123, 124, 60, 125, 62, 136, 137, 138, 71, 139, 140, 141, 142, 143, 144, 101, 145, 146, 147, 148, 149, 150, 151, 152, 153, 102, 103, 104, 105, 80, 81, 82, 83, 68, 69, 70, 72, 73, 74, 75, 76, 77, 78, 79, 58, 59, 61, 92, 93, 94, 95, 97, 98, 99, 100, 57, 180, 181, 182, 183, 184, 185, 186, 187, 188, 189, 190, 191, 192, 193] rfl (by decide +kernel)) (goodIn_sub (fun _ h => List.mem_cons_of_mem _ (List.mem_append_right _ h)) (by decide +kernel))
set_option maxRecDepth 20000 in
theorem gX3_isSame_X2_count : GoodIn wsX3_isSame (wsV RX3 91 RX2 yX2_count wsX2_count) := goodIn_app (goodIn_of _ (by decide +kernel)) ggX3_isSame_X2_count
set_option maxRecDepth 20000 in
theorem ggX3_isSame_X2_chain : GoodIn wsX3_isSame wsX2_chain := goodIn_r _ [157, 56, 158, 159, 17, 18, 19, 122, 123, 124, 60, 125, 62, 160, 161, 162, 52, 163, 63, 64, 65, 66, 67, 68, 69, 70, 71, 72, 73, 74, 75, 76, 77, 78, 79, 58, 59, 61, 80, 81, 82, 83, 180, 181, 182, 183, 184, 185, 186, 187, 188, 189, 190, 191, 192, 193] rfl (by decide +kernel)
set_option maxRecDepth 20000 in
theorem gX3_isSame_X2_chain : GoodIn wsX3_isSame (wsV RX3 94 RX2 yX2_chain wsX2_chain) := goodIn_app (goodIn_of _ (by decide +kernel)) ggX3_isSame_X2_chain
set_option maxRecDepth 20000 in
theorem ggX3_isSame_X3_chain : GoodIn wsX3_isSame wsX3_chain := goodIn_r _ [167, 3, 16, 17, 18, 19, 28, 29, 30, 13, 31, 1, 45, 46, 47, 48, 2, 172, 173, 174, 175, 176, 177, 178, 179] rfl (by decide +kernel)
set_option maxRecDepth 20000 in
theorem gX3_isSame_X3_chain : GoodIn wsX3_isSame (wsV RX3 97 RX3 yX3_chain wsX3_chain) := goodIn_app (goodIn_of _ (by decide +kernel)) ggX3_isSame_X3_chain
set_option maxRecDepth 20000 in
theorem ggX3_isSame_X2_mean : GoodIn wsX3_isSame wsX2_mean := goodIn_r _ [171, 56, 122, 123, 124, 60, 125, 62, 150, 151, 152, 52, 153, 102, 103, 104, 105, 80, 81, 82, 83, 67, 68, 69, 70, 71, 72, 73, 74, 75, 76, 77, 78, 79, 58, 59, 61, 92, 93, 94, 95, 96, 97, 98, 99, 100, 101, 57, 180, 181, 182, 183, 184, 185, 186, 187, 188, 189, 190, 191, 192, 193] rfl (by decide +kernel)
set_option maxRecDepth 20000 in
theorem gX3_isSame_X2_mean : GoodIn wsX3_isSame (wsV RX3 98 RX2 yX2_mean wsX2_mean) := goodIn_app (goodIn_of _ (by decide +kernel)) ggX3_isSame_X2_mean
theorem dX3_isSame_0 : decode cX3_isSame 0 = .ok (.aload_n 0, 1) := by decide +kernel
theorem dX3_isSame_1 : decode cX3_isSame 1 = .ok (.invokevirtual 72, 3) := by decide +kernel
theorem dX3_isSame_4 : decode cX3_isSame 4 = .ok (.pop, 1) := by decide +kernel
theorem dX3_isSame_5 : decode cX3_isSame 5 = .ok (.aload_n 0, 1) := by decide +kernel
theorem dX3_isSame_6 : decode cX3_isSame 6 = .ok (.invokevirtual 15, 3) := by decide +kernel
theorem dX3_isSame_9 : decode cX3_isSame 9 = .ok (.istore_n 2, 1) := by decide +kernel
theorem dX3_isSame_10 : decode cX3_isSame 10 = .ok (.iconst 0, 1) := by decide +kernel
theorem dX3_isSame_11 : decode cX3_isSame 11 = .ok (.istore_n 3, 1) := by decide +kernel
theorem dX3_isSame_12 : decode cX3_isSame 12 = .ok (.iconst 0, 1) := by decide +kernel
theorem dX3_isSame_13 : decode cX3_isSame 13 = .ok (.istore 4, 2) := by decide +kernel
theorem dX3_isSame_15 : decode cX3_isSame 15 = .ok (.iconst 0, 1) := by decide +kernel
theorem dX3_isSame_16 : decode cX3_isSame 16 = .ok (.istore 5, 2) := by decide +kernel
theorem dX3_isSame_18 : decode cX3_isSame 18 = .ok (.iload 5, 2) := by decide +kernel
theorem dX3_isSame_20 : decode cX3_isSame 20 = .ok (.iload_n 2, 1) := by decide +kernel
theorem dX3_isSame_21 : decode cX3_isSame 21 = .ok (.if_icmp .ge 271, 3) := by decide +kernel
theorem dX3_isSame_24 : decode cX3_isSame 24 = .ok (.iconst 0, 1) := by decide +kernel
theorem dX3_isSame_25 : decode cX3_isSame 25 = .ok (.istore 6, 2) := by decide +kernel
theorem dX3_isSame_27 : decode cX3_isSame 27 = .ok (.iconst 0, 1) := by decide +kernel
theorem dX3_isSame_28 : decode cX3_isSame 28 = .ok (.istore 7, 2) := by decide +kernel
theorem dX3_isSame_30 : decode cX3_isSame 30 = .ok (.iload 7, 2) := by decide +kernel
theorem dX3_isSame_32 : decode cX3_isSame 32 = .ok (.iload_n 2, 1) := by decide +kernel
theorem dX3_isSame_33 : decode cX3_isSame 33 = .ok (.if_icmp .ge 130, 3) := by decide +kernel
theorem dX3_isSame_36 : decode cX3_isSame 36 = .ok (.iload 6, 2) := by decide +kernel
theorem dX3_isSame_38 : decode cX3_isSame 38 = .ok (.aload_n 0, 1) := by decide +kernel
theorem dX3_isSame_39 : decode cX3_isSame 39 = .ok (.iload 5, 2) := by decide +kernel
theorem dX3_isSame_41 : decode cX3_isSame 41 = .ok (.iload 7, 2) := by decide +kernel
theorem dX3_isSame_43 : decode cX3_isSame 43 = .ok (.invokevirtual 68, 3) := by decide +kernel
theorem dX3_isSame_46 : decode cX3_isSame 46 = .ok (.ifCond .eq 7, 3) := by decide +kernel
theorem dX3_isSame_49 : decode cX3_isSame 49 = .ok (.iconst 1, 1) := by decide +kernel
theorem dX3_isSame_50 : decode cX3_isSame 50 = .ok (.goto 4, 3) := by decide +kernel
theorem dX3_isSame_53 : decode cX3_isSame 53 = .ok (.iconst 0, 1) := by decide +kernel
theorem dX3_isSame_54 : decode cX3_isSame 54 = .ok (.iadd, 1) := by decide +kernel
theorem dX3_isSame_55 : decode cX3_isSame 55 = .ok (.istore 6, 2) := by decide +kernel
theorem dX3_isSame_57 : decode cX3_isSame 57 = .ok (.aload_n 1, 1) := by decide +kernel
theorem dX3_isSame_58 : decode cX3_isSame 58 = .ok (.iload 5, 2) := by decide +kernel
theorem dX3_isSame_60 : decode cX3_isSame 60 = .ok (.iload 7, 2) := by decide +kernel
theorem dX3_isSame_62 : decode cX3_isSame 62 = .ok (.invokevirtual 75, 3) := by decide +kernel
theorem dX3_isSame_65 : decode cX3_isSame 65 = .ok (.aload_n 0, 1) := by decide +kernel
theorem dX3_isSame_66 : decode cX3_isSame 66 = .ok (.iload 5, 2) := by decide +kernel
theorem dX3_isSame_68 : decode cX3_isSame 68 = .ok (.iload 7, 2) := by decide +kernel
theorem dX3_isSame_70 : decode cX3_isSame 70 = .ok (.invokevirtual 68, 3) := by decide +kernel
theorem dX3_isSame_73 : decode cX3_isSame 73 = .ok (.if_icmp .ne 24, 3) := by decide +kernel
theorem dX3_isSame_76 : decode cX3_isSame 76 = .ok (.aload_n 1, 1) := by decide +kernel
theorem dX3_isSame_77 : decode cX3_isSame 77 = .ok (.iload 5, 2) := by decide +kernel
theorem dX3_isSame_79 : decode cX3_isSame 79 = .ok (.iload 7, 2) := by decide +kernel
theorem dX3_isSame_81 : decode cX3_isSame 81 = .ok (.invokevirtual 78, 3) := by decide +kernel
theorem dX3_isSame_84 : decode cX3_isSame 84 = .ok (.aload_n 0, 1) := by decide +kernel
theorem dX3_isSame_85 : decode cX3_isSame 85 = .ok (.getfield 9, 3) := by decide +kernel
theorem dX3_isSame_88 : decode cX3_isSame 88 = .ok (.iload 5, 2) := by decide +kernel
theorem dX3_isSame_90 : decode cX3_isSame 90 = .ok (.aaload, 1) := by decide +kernel
theorem dX3_isSame_91 : decode cX3_isSame 91 = .ok (.iload 7, 2) := by decide +kernel
theorem dX3_isSame_93 : decode cX3_isSame 93 = .ok (.iaload, 1) := by decide +kernel
theorem dX3_isSame_94 : decode cX3_isSame 94 = .ok (.if_icmp .eq 5, 3) := by decide +kernel
theorem dX3_isSame_97 : decode cX3_isSame 97 = .ok (.iconst 0, 1) := by decide +kernel
theorem dX3_isSame_98 : decode cX3_isSame 98 = .ok (.ireturn, 1) := by decide +kernel
theorem dX3_isSame_99 : decode cX3_isSame 99 = .ok (.aload_n 1, 1) := by decide +kernel
theorem dX3_isSame_100 : decode cX3_isSame 100 = .ok (.iload 5, 2) := by decide +kernel
theorem dX3_isSame_102 : decode cX3_isSame 102 = .ok (.iload 7, 2) := by decide +kernel
theorem dX3_isSame_104 : decode cX3_isSame 104 = .ok (.invokevirtual 81, 3) := by decide +kernel
theorem dX3_isSame_107 : decode cX3_isSame 107 = .ok (.aload_n 0, 1) := by decide +kernel
theorem dX3_isSame_108 : decode cX3_isSame 108 = .ok (.getfield 9, 3) := by decide +kernel
theorem dX3_isSame_111 : decode cX3_isSame 111 = .ok (.iload 5, 2) := by decide +kernel
theorem dX3_isSame_113 : decode cX3_isSame 113 = .ok (.aaload, 1) := by decide +kernel
theorem dX3_isSame_114 : decode cX3_isSame 114 = .ok (.aload_n 0, 1) := by decide +kernel
theorem dX3_isSame_115 : decode cX3_isSame 115 = .ok (.getfield 39, 3) := by decide +kernel
theorem dX3_isSame_118 : decode cX3_isSame 118 = .ok (.iload 5, 2) := by decide +kernel
theorem dX3_isSame_120 : decode cX3_isSame 120 = .ok (.iaload, 1) := by decide +kernel
theorem dX3_isSame_121 : decode cX3_isSame 121 = .ok (.iaload, 1) := by decide +kernel
theorem dX3_isSame_122 : decode cX3_isSame 122 = .ok (.aload_n 0, 1) := by decide +kernel
theorem dX3_isSame_123 : decode cX3_isSame 123 = .ok (.iload 5, 2) := by decide +kernel
theorem dX3_isSame_125 : decode cX3_isSame 125 = .ok (.invokevirtual 84, 3) := by decide +kernel
theorem dX3_isSame_128 : decode cX3_isSame 128 = .ok (.isub, 1) := by decide +kernel
theorem dX3_isSame_129 : decode cX3_isSame 129 = .ok (.aload_n 0, 1) := by decide +kernel
theorem dX3_isSame_130 : decode cX3_isSame 130 = .ok (.getfield 9, 3) := by decide +kernel
theorem dX3_isSame_133 : decode cX3_isSame 133 = .ok (.iload 5, 2) := by decide +kernel
theorem dX3_isSame_135 : decode cX3_isSame 135 = .ok (.aaload, 1) := by decide +kernel
theorem dX3_isSame_136 : decode cX3_isSame 136 = .ok (.aload_n 0, 1) := by decide +kernel
theorem dX3_isSame_137 : decode cX3_isSame 137 = .ok (.getfield 39, 3) := by decide +kernel
theorem dX3_isSame_140 : decode cX3_isSame 140 = .ok (.iload 7, 2) := by decide +kernel
theorem dX3_isSame_142 : decode cX3_isSame 142 = .ok (.iaload, 1) := by decide +kernel
theorem dX3_isSame_143 : decode cX3_isSame 143 = .ok (.iaload, 1) := by decide +kernel
theorem dX3_isSame_144 : decode cX3_isSame 144 = .ok (.isub, 1) := by decide +kernel
theorem dX3_isSame_145 : decode cX3_isSame 145 = .ok (.aload_n 0, 1) := by decide +kernel
theorem dX3_isSame_146 : decode cX3_isSame 146 = .ok (.iload 7, 2) := by decide +kernel
theorem dX3_isSame_148 : decode cX3_isSame 148 = .ok (.invokevirtual 84, 3) := by decide +kernel
theorem dX3_isSame_151 : decode cX3_isSame 151 = .ok (.iadd, 1) := by decide +kernel
theorem dX3_isSame_152 : decode cX3_isSame 152 = .ok (.if_icmp .eq 5, 3) := by decide +kernel
theorem dX3_isSame_155 : decode cX3_isSame 155 = .ok (.iconst 0, 1) := by decide +kernel
theorem dX3_isSame_156 : decode cX3_isSame 156 = .ok (.ireturn, 1) := by decide +kernel
theorem dX3_isSame_157 : decode cX3_isSame 157 = .ok (.iinc 7 1, 3) := by decide +kernel
theorem dX3_isSame_160 : decode cX3_isSame 160 = .ok (.goto (-130), 3) := by decide +kernel
theorem dX3_isSame_163 : decode cX3_isSame 163 = .ok (.bipush 6, 2) := by decide +kernel
theorem dX3_isSame_165 : decode cX3_isSame 165 = .ok (.newarray .int, 2) := by decide +kernel
theorem dX3_isSame_167 : decode cX3_isSame 167 = .ok (.dup, 1) := by decide +kernel
theorem dX3_isSame_168 : decode cX3_isSame 168 = .ok (.iconst 0, 1) := by decide +kernel
theorem dX3_isSame_169 : decode cX3_isSame 169 = .ok (.aload_n 0, 1) := by decide +kernel
theorem dX3_isSame_170 : decode cX3_isSame 170 = .ok (.getfield 39, 3) := by decide +kernel
theorem dX3_isSame_173 : decode cX3_isSame 173 = .ok (.iload 5, 2) := by decide +kernel
theorem dX3_isSame_175 : decode cX3_isSame 175 = .ok (.iaload, 1) := by decide +kernel
theorem dX3_isSame_176 : decode cX3_isSame 176 = .ok (.iastore, 1) := by decide +kernel
theorem dX3_isSame_177 : decode cX3_isSame 177 = .ok (.dup, 1) := by decide +kernel
theorem dX3_isSame_178 : decode cX3_isSame 178 = .ok (.iconst 1, 1) := by decide +kernel
theorem dX3_isSame_179 : decode cX3_isSame 179 = .ok (.aload_n 0, 1) := by decide +kernel
theorem dX3_isSame_180 : decode cX3_isSame 180 = .ok (.getfield 9, 3) := by decide +kernel
theorem dX3_isSame_183 : decode cX3_isSame 183 = .ok (.iload 5, 2) := by decide +kernel
theorem dX3_isSame_185 : decode cX3_isSame 185 = .ok (.aaload, 1) := by decide +kernel
theorem dX3_isSame_186 : decode cX3_isSame 186 = .ok (.aload_n 0, 1) := by decide +kernel
theorem dX3_isSame_187 : decode cX3_isSame 187 = .ok (.getfield 39, 3) := by decide +kernel
theorem dX3_isSame_190 : decode cX3_isSame 190 = .ok (.iload 5, 2) := by decide +kernel
theorem dX3_isSame_192 : decode cX3_isSame 192 = .ok (.iaload, 1) := by decide +kernel
theorem dX3_isSame_193 : decode cX3_isSame 193 = .ok (.iaload, 1) := by decide +kernel
theorem dX3_isSame_194 : decode cX3_isSame 194 = .ok (.iastore, 1) := by decide +kernel
theorem dX3_isSame_195 : decode cX3_isSame 195 = .ok (.dup, 1) := by decide +kernel
theorem dX3_isSame_196 : decode cX3_isSame 196 = .ok (.iconst 2, 1) := by decide +kernel
theorem dX3_isSame_197 : decode cX3_isSame 197 = .ok (.aload_n 0, 1) := by decide +kernel
theorem dX3_isSame_198 : decode cX3_isSame 198 = .ok (.getfield 59, 3) := by decide +kernel
theorem dX3_isSame_201 : decode cX3_isSame 201 = .ok (.iload 5, 2) := by decide +kernel
theorem dX3_isSame_203 : decode cX3_isSame 203 = .ok (.iaload, 1) := by decide +kernel
theorem dX3_isSame_204 : decode cX3_isSame 204 = .ok (.iastore, 1) := by decide +kernel
theorem dX3_isSame_205 : decode cX3_isSame 205 = .ok (.dup, 1) := by decide +kernel
theorem dX3_isSame_206 : decode cX3_isSame 206 = .ok (.iconst 3, 1) := by decide +kernel
theorem dX3_isSame_207 : decode cX3_isSame 207 = .ok (.aload_n 0, 1) := by decide +kernel
theorem dX3_isSame_208 : decode cX3_isSame 208 = .ok (.iload 5, 2) := by decide +kernel
theorem dX3_isSame_210 : decode cX3_isSame 210 = .ok (.invokevirtual 84, 3) := by decide +kernel
theorem dX3_isSame_213 : decode cX3_isSame 213 = .ok (.iastore, 1) := by decide +kernel
theorem dX3_isSame_214 : decode cX3_isSame 214 = .ok (.dup, 1) := by decide +kernel
theorem dX3_isSame_215 : decode cX3_isSame 215 = .ok (.iconst 4, 1) := by decide +kernel
theorem dX3_isSame_216 : decode cX3_isSame 216 = .ok (.aload_n 0, 1) := by decide +kernel
theorem dX3_isSame_217 : decode cX3_isSame 217 = .ok (.getfield 56, 3) := by decide +kernel
theorem dX3_isSame_220 : decode cX3_isSame 220 = .ok (.iload 5, 2) := by decide +kernel
theorem dX3_isSame_222 : decode cX3_isSame 222 = .ok (.iaload, 1) := by decide +kernel
theorem dX3_isSame_223 : decode cX3_isSame 223 = .ok (.iastore, 1) := by decide +kernel
theorem dX3_isSame_224 : decode cX3_isSame 224 = .ok (.dup, 1) := by decide +kernel
theorem dX3_isSame_225 : decode cX3_isSame 225 = .ok (.iconst 5, 1) := by decide +kernel
theorem dX3_isSame_226 : decode cX3_isSame 226 = .ok (.iload 6, 2) := by decide +kernel
theorem dX3_isSame_228 : decode cX3_isSame 228 = .ok (.iastore, 1) := by decide +kernel
theorem dX3_isSame_229 : decode cX3_isSame 229 = .ok (.astore 7, 2) := by decide +kernel
theorem dX3_isSame_231 : decode cX3_isSame 231 = .ok (.iconst 0, 1) := by decide +kernel
theorem dX3_isSame_232 : decode cX3_isSame 232 = .ok (.istore 8, 2) := by decide +kernel
theorem dX3_isSame_234 : decode cX3_isSame 234 = .ok (.iload 8, 2) := by decide +kernel
theorem dX3_isSame_236 : decode cX3_isSame 236 = .ok (.bipush 6, 2) := by decide +kernel
theorem dX3_isSame_238 : decode cX3_isSame 238 = .ok (.if_icmp .ge 27, 3) := by decide +kernel
theorem dX3_isSame_241 : decode cX3_isSame 241 = .ok (.aload_n 1, 1) := by decide +kernel
theorem dX3_isSame_242 : decode cX3_isSame 242 = .ok (.iload 5, 2) := by decide +kernel
theorem dX3_isSame_244 : decode cX3_isSame 244 = .ok (.iload 8, 2) := by decide +kernel
theorem dX3_isSame_246 : decode cX3_isSame 246 = .ok (.invokevirtual 88, 3) := by decide +kernel
theorem dX3_isSame_249 : decode cX3_isSame 249 = .ok (.aload 7, 2) := by decide +kernel
theorem dX3_isSame_251 : decode cX3_isSame 251 = .ok (.iload 8, 2) := by decide +kernel
theorem dX3_isSame_253 : decode cX3_isSame 253 = .ok (.iaload, 1) := by decide +kernel
theorem dX3_isSame_254 : decode cX3_isSame 254 = .ok (.if_icmp .eq 5, 3) := by decide +kernel
theorem dX3_isSame_257 : decode cX3_isSame 257 = .ok (.iconst 0, 1) := by decide +kernel
theorem dX3_isSame_258 : decode cX3_isSame 258 = .ok (.ireturn, 1) := by decide +kernel
theorem dX3_isSame_259 : decode cX3_isSame 259 = .ok (.iinc 8 1, 3) := by decide +kernel
theorem dX3_isSame_262 : decode cX3_isSame 262 = .ok (.goto (-28), 3) := by decide +kernel
theorem dX3_isSame_265 : decode cX3_isSame 265 = .ok (.iload_n 3, 1) := by decide +kernel
theorem dX3_isSame_266 : decode cX3_isSame 266 = .ok (.aload_n 0, 1) := by decide +kernel
theorem dX3_isSame_267 : decode cX3_isSame 267 = .ok (.getfield 59, 3) := by decide +kernel
theorem dX3_isSame_270 : decode cX3_isSame 270 = .ok (.iload 5, 2) := by decide +kernel
theorem dX3_isSame_272 : decode cX3_isSame 272 = .ok (.iaload, 1) := by decide +kernel
theorem dX3_isSame_273 : decode cX3_isSame 273 = .ok (.iadd, 1) := by decide +kernel
theorem dX3_isSame_274 : decode cX3_isSame 274 = .ok (.istore_n 3, 1) := by decide +kernel
theorem dX3_isSame_275 : decode cX3_isSame 275 = .ok (.iload 4, 2) := by decide +kernel
theorem dX3_isSame_277 : decode cX3_isSame 277 = .ok (.aload_n 0, 1) := by decide +kernel
theorem dX3_isSame_278 : decode cX3_isSame 278 = .ok (.iload 5, 2) := by decide +kernel
theorem dX3_isSame_280 : decode cX3_isSame 280 = .ok (.invokevirtual 84, 3) := by decide +kernel
theorem dX3_isSame_283 : decode cX3_isSame 283 = .ok (.iadd, 1) := by decide +kernel
theorem dX3_isSame_284 : decode cX3_isSame 284 = .ok (.istore 4, 2) := by decide +kernel
theorem dX3_isSame_286 : decode cX3_isSame 286 = .ok (.iinc 5 1, 3) := by decide +kernel
theorem dX3_isSame_289 : decode cX3_isSame 289 = .ok (.goto (-271), 3) := by decide +kernel
theorem dX3_isSame_292 : decode cX3_isSame 292 = .ok (.bipush 7, 2) := by decide +kernel
theorem dX3_isSame_294 : decode cX3_isSame 294 = .ok (.newarray .int, 2) := by decide +kernel
theorem dX3_isSame_296 : decode cX3_isSame 296 = .ok (.dup, 1) := by decide +kernel
theorem dX3_isSame_297 : decode cX3_isSame 297 = .ok (.iconst 0, 1) := by decide +kernel
theorem dX3_isSame_298 : decode cX3_isSame 298 = .ok (.iload_n 2, 1) := by decide +kernel
theorem dX3_isSame_299 : decode cX3_isSame 299 = .ok (.iastore, 1) := by decide +kernel
theorem dX3_isSame_300 : decode cX3_isSame 300 = .ok (.dup, 1) := by decide +kernel
theorem dX3_isSame_301 : decode cX3_isSame 301 = .ok (.iconst 1, 1) := by decide +kernel
theorem dX3_isSame_302 : decode cX3_isSame 302 = .ok (.aload_n 0, 1) := by decide +kernel
theorem dX3_isSame_303 : decode cX3_isSame 303 = .ok (.getfield 62, 3) := by decide +kernel
theorem dX3_isSame_306 : decode cX3_isSame 306 = .ok (.iastore, 1) := by decide +kernel
theorem dX3_isSame_307 : decode cX3_isSame 307 = .ok (.dup, 1) := by decide +kernel
theorem dX3_isSame_308 : decode cX3_isSame 308 = .ok (.iconst 2, 1) := by decide +kernel
theorem dX3_isSame_309 : decode cX3_isSame 309 = .ok (.aload_n 0, 1) := by decide +kernel
theorem dX3_isSame_310 : decode cX3_isSame 310 = .ok (.getfield 24, 3) := by decide +kernel
theorem dX3_isSame_313 : decode cX3_isSame 313 = .ok (.iastore, 1) := by decide +kernel
theorem dX3_isSame_314 : decode cX3_isSame 314 = .ok (.dup, 1) := by decide +kernel
theorem dX3_isSame_315 : decode cX3_isSame 315 = .ok (.iconst 3, 1) := by decide +kernel
theorem dX3_isSame_316 : decode cX3_isSame 316 = .ok (.iload_n 3, 1) := by decide +kernel
theorem dX3_isSame_317 : decode cX3_isSame 317 = .ok (.iastore, 1) := by decide +kernel
theorem dX3_isSame_318 : decode cX3_isSame 318 = .ok (.dup, 1) := by decide +kernel
theorem dX3_isSame_319 : decode cX3_isSame 319 = .ok (.iconst 4, 1) := by decide +kernel
theorem dX3_isSame_320 : decode cX3_isSame 320 = .ok (.aload_n 0, 1) := by decide +kernel
theorem dX3_isSame_321 : decode cX3_isSame 321 = .ok (.getfield 65, 3) := by decide +kernel
theorem dX3_isSame_324 : decode cX3_isSame 324 = .ok (.iastore, 1) := by decide +kernel
theorem dX3_isSame_325 : decode cX3_isSame 325 = .ok (.dup, 1) := by decide +kernel
theorem dX3_isSame_326 : decode cX3_isSame 326 = .ok (.iconst 5, 1) := by decide +kernel
theorem dX3_isSame_327 : decode cX3_isSame 327 = .ok (.aload_n 0, 1) := by decide +kernel
theorem dX3_isSame_328 : decode cX3_isSame 328 = .ok (.getfield 36, 3) := by decide +kernel
theorem dX3_isSame_331 : decode cX3_isSame 331 = .ok (.iastore, 1) := by decide +kernel
theorem dX3_isSame_332 : decode cX3_isSame 332 = .ok (.dup, 1) := by decide +kernel
theorem dX3_isSame_333 : decode cX3_isSame 333 = .ok (.bipush 6, 2) := by decide +kernel
theorem dX3_isSame_335 : decode cX3_isSame 335 = .ok (.iload 4, 2) := by decide +kernel
theorem dX3_isSame_337 : decode cX3_isSame 337 = .ok (.iastore, 1) := by decide +kernel
theorem dX3_isSame_338 : decode cX3_isSame 338 = .ok (.astore 5, 2) := by decide +kernel
theorem dX3_isSame_340 : decode cX3_isSame 340 = .ok (.iconst 0, 1) := by decide +kernel
theorem dX3_isSame_341 : decode cX3_isSame 341 = .ok (.istore 6, 2) := by decide +kernel
theorem dX3_isSame_343 : decode cX3_isSame 343 = .ok (.iload 6, 2) := by decide +kernel
theorem dX3_isSame_345 : decode cX3_isSame 345 = .ok (.bipush 7, 2) := by decide +kernel
theorem dX3_isSame_347 : decode cX3_isSame 347 = .ok (.if_icmp .ge 25, 3) := by decide +kernel
theorem dX3_isSame_350 : decode cX3_isSame 350 = .ok (.aload_n 1, 1) := by decide +kernel
theorem dX3_isSame_351 : decode cX3_isSame 351 = .ok (.iload 6, 2) := by decide +kernel
theorem dX3_isSame_353 : decode cX3_isSame 353 = .ok (.invokevirtual 91, 3) := by decide +kernel
theorem dX3_isSame_356 : decode cX3_isSame 356 = .ok (.aload 5, 2) := by decide +kernel
theorem dX3_isSame_358 : decode cX3_isSame 358 = .ok (.iload 6, 2) := by decide +kernel
theorem dX3_isSame_360 : decode cX3_isSame 360 = .ok (.iaload, 1) := by decide +kernel
theorem dX3_isSame_361 : decode cX3_isSame 361 = .ok (.if_icmp .eq 5, 3) := by decide +kernel
theorem dX3_isSame_364 : decode cX3_isSame 364 = .ok (.iconst 0, 1) := by decide +kernel
theorem dX3_isSame_365 : decode cX3_isSame 365 = .ok (.ireturn, 1) := by decide +kernel
theorem dX3_isSame_366 : decode cX3_isSame 366 = .ok (.iinc 6 1, 3) := by decide +kernel
theorem dX3_isSame_369 : decode cX3_isSame 369 = .ok (.goto (-26), 3) := by decide +kernel
theorem dX3_isSame_372 : decode cX3_isSame 372 = .ok (.aload_n 1, 1) := by decide +kernel
theorem dX3_isSame_373 : decode cX3_isSame 373 = .ok (.invokevirtual 94, 3) := by decide +kernel
theorem dX3_isSame_376 : decode cX3_isSame 376 = .ok (.aload_n 0, 1) := by decide +kernel
theorem dX3_isSame_377 : decode cX3_isSame 377 = .ok (.invokevirtual 97, 3) := by decide +kernel
theorem dX3_isSame_380 : decode cX3_isSame 380 = .ok (.if_icmp .ne 29, 3) := by decide +kernel
theorem dX3_isSame_383 : decode cX3_isSame 383 = .ok (.aload_n 1, 1) := by decide +kernel
theorem dX3_isSame_384 : decode cX3_isSame 384 = .ok (.invokevirtual 98, 3) := by decide +kernel
theorem dX3_isSame_387 : decode cX3_isSame 387 = .ok (.iload_n 2, 1) := by decide +kernel
theorem dX3_isSame_388 : decode cX3_isSame 388 = .ok (.ifCond .ne 7, 3) := by decide +kernel
theorem dX3_isSame_391 : decode cX3_isSame 391 = .ok (.dconst 0, 1) := by decide +kernel
theorem dX3_isSame_392 : decode cX3_isSame 392 = .ok (.goto 9, 3) := by decide +kernel
theorem dX3_isSame_395 : decode cX3_isSame 395 = .ok (.iload 4, 2) := by decide +kernel
theorem dX3_isSame_397 : decode cX3_isSame 397 = .ok (.i2d, 1) := by decide +kernel
theorem dX3_isSame_398 : decode cX3_isSame 398 = .ok (.iload_n 2, 1) := by decide +kernel
theorem dX3_isSame_399 : decode cX3_isSame 399 = .ok (.i2d, 1) := by decide +kernel
theorem dX3_isSame_400 : decode cX3_isSame 400 = .ok (.ddiv, 1) := by decide +kernel
theorem dX3_isSame_401 : decode cX3_isSame 401 = .ok (.dcmp .l, 1) := by decide +kernel
theorem dX3_isSame_402 : decode cX3_isSame 402 = .ok (.ifCond .ne 7, 3) := by decide +kernel
theorem dX3_isSame_405 : decode cX3_isSame 405 = .ok (.iconst 1, 1) := by decide +kernel
theorem dX3_isSame_406 : decode cX3_isSame 406 = .ok (.goto 4, 3) := by decide +kernel
theorem dX3_isSame_409 : decode cX3_isSame 409 = .ok (.iconst 0, 1) := by decide +kernel
theorem dX3_isSame_410 : decode cX3_isSame 410 = .ok (.ireturn, 1) := by decide +kernel
