theorem dX0_init_0 : decode cX0_init 0 = .ok (.aload_n 0, 1) := by decide +kernel
theorem dX0_init_1 : decode cX0_init 1 = .ok (.invokespecial 3, 3) := by decide +kernel
theorem dX0_init_4 : decode cX0_init 4 = .ok (.aload_n 0, 1) := by decide +kernel
theorem dX0_init_5 : decode cX0_init 5 = .ok (.bipush 36, 2) := by decide +kernel
theorem dX0_init_7 : decode cX0_init 7 = .ok (.newarray .int, 2) := by decide +kernel
theorem dX0_init_9 : decode cX0_init 9 = .ok (.putfield 9, 3) := by decide +kernel
theorem dX0_init_12 : decode cX0_init 12 = .ok (.aload_n 0, 1) := by decide +kernel
theorem dX0_init_13 : decode cX0_init 13 = .ok (.iconst 0, 1) := by decide +kernel
theorem dX0_init_14 : decode cX0_init 14 = .ok (.putfield 15, 3) := by decide +kernel
theorem dX0_init_17 : decode cX0_init 17 = .ok (.return_, 1) := by decide +kernel
theorem dX0_size_0 : decode cX0_size 0 = .ok (.aload_n 0, 1) := by decide +kernel
theorem dX0_size_1 : decode cX0_size 1 = .ok (.getfield 15, 3) := by decide +kernel
theorem dX0_size_4 : decode cX0_size 4 = .ok (.ireturn, 1) := by decide +kernel
theorem dX0_has_0 : decode cX0_has 0 = .ok (.iload_n 1, 1) := by decide +kernel
theorem dX0_has_1 : decode cX0_has 1 = .ok (.ifCond .lt 15, 3) := by decide +kernel
theorem dX0_has_4 : decode cX0_has 4 = .ok (.iload_n 1, 1) := by decide +kernel
theorem dX0_has_5 : decode cX0_has 5 = .ok (.aload_n 0, 1) := by decide +kernel
theorem dX0_has_6 : decode cX0_has 6 = .ok (.getfield 15, 3) := by decide +kernel
theorem dX0_has_9 : decode cX0_has 9 = .ok (.if_icmp .ge 7, 3) := by decide +kernel
theorem dX0_has_12 : decode cX0_has 12 = .ok (.iconst 1, 1) := by decide +kernel
theorem dX0_has_13 : decode cX0_has 13 = .ok (.goto 4, 3) := by decide +kernel
theorem dX0_has_16 : decode cX0_has 16 = .ok (.iconst 0, 1) := by decide +kernel
theorem dX0_has_17 : decode cX0_has 17 = .ok (.ireturn, 1) := by decide +kernel
set_option maxRecDepth 20000 in
theorem ggX0_of_X0_has : GoodIn wsX0_of wsX0_has := goodIn_r _ [6, 7, 8, 9] rfl (by decide +kernel)
set_option maxRecDepth 20000 in
theorem gX0_of_X0_has : GoodIn wsX0_of (wsV RX0 19 RX0 yX0_has wsX0_has) := goodIn_app (goodIn_of _ (by decide +kernel)) ggX0_of_X0_has
theorem dX0_of_0 : decode cX0_of 0 = .ok (.aload_n 0, 1) := by decide +kernel
theorem dX0_of_1 : decode cX0_of 1 = .ok (.iload_n 1, 1) := by decide +kernel
theorem dX0_of_2 : decode cX0_of 2 = .ok (.invokevirtual 19, 3) := by decide +kernel
theorem dX0_of_5 : decode cX0_of 5 = .ok (.ifCond .eq 25, 3) := by decide +kernel
theorem dX0_of_8 : decode cX0_of 8 = .ok (.aload_n 0, 1) := by decide +kernel
theorem dX0_of_9 : decode cX0_of 9 = .ok (.iload_n 2, 1) := by decide +kernel
theorem dX0_of_10 : decode cX0_of 10 = .ok (.invokevirtual 19, 3) := by decide +kernel
theorem dX0_of_13 : decode cX0_of 13 = .ok (.ifCond .eq 17, 3) := by decide +kernel
theorem dX0_of_16 : decode cX0_of 16 = .ok (.aload_n 0, 1) := by decide +kernel
theorem dX0_of_17 : decode cX0_of 17 = .ok (.getfield 9, 3) := by decide +kernel
theorem dX0_of_20 : decode cX0_of 20 = .ok (.iload_n 1, 1) := by decide +kernel
theorem dX0_of_21 : decode cX0_of 21 = .ok (.bipush 6, 2) := by decide +kernel
theorem dX0_of_23 : decode cX0_of 23 = .ok (.imul, 1) := by decide +kernel
theorem dX0_of_24 : decode cX0_of 24 = .ok (.iload_n 2, 1) := by decide +kernel
theorem dX0_of_25 : decode cX0_of 25 = .ok (.iadd, 1) := by decide +kernel
theorem dX0_of_26 : decode cX0_of 26 = .ok (.iaload, 1) := by decide +kernel
theorem dX0_of_27 : decode cX0_of 27 = .ok (.goto 4, 3) := by decide +kernel
theorem dX0_of_30 : decode cX0_of 30 = .ok (.iconst 0, 1) := by decide +kernel
theorem dX0_of_31 : decode cX0_of 31 = .ok (.ireturn, 1) := by decide +kernel
set_option maxRecDepth 20000 in
theorem ggX0_set_X0_has : GoodIn wsX0_set wsX0_has := goodIn_r _ [6, 7, 8, 9] rfl (by decide +kernel)
set_option maxRecDepth 20000 in
theorem gX0_set_X0_has : GoodIn wsX0_set (wsV RX0 19 RX0 yX0_has wsX0_has) := goodIn_app (goodIn_of _ (by decide +kernel)) ggX0_set_X0_has
theorem dX0_set_0 : decode cX0_set 0 = .ok (.aload_n 0, 1) := by decide +kernel
theorem dX0_set_1 : decode cX0_set 1 = .ok (.iload_n 1, 1) := by decide +kernel
theorem dX0_set_2 : decode cX0_set 2 = .ok (.invokevirtual 19, 3) := by decide +kernel
theorem dX0_set_5 : decode cX0_set 5 = .ok (.ifCond .eq 23, 3) := by decide +kernel
theorem dX0_set_8 : decode cX0_set 8 = .ok (.aload_n 0, 1) := by decide +kernel
theorem dX0_set_9 : decode cX0_set 9 = .ok (.iload_n 2, 1) := by decide +kernel
theorem dX0_set_10 : decode cX0_set 10 = .ok (.invokevirtual 19, 3) := by decide +kernel
theorem dX0_set_13 : decode cX0_set 13 = .ok (.ifCond .eq 15, 3) := by decide +kernel
theorem dX0_set_16 : decode cX0_set 16 = .ok (.aload_n 0, 1) := by decide +kernel
theorem dX0_set_17 : decode cX0_set 17 = .ok (.getfield 9, 3) := by decide +kernel
theorem dX0_set_20 : decode cX0_set 20 = .ok (.iload_n 1, 1) := by decide +kernel
theorem dX0_set_21 : decode cX0_set 21 = .ok (.bipush 6, 2) := by decide +kernel
theorem dX0_set_23 : decode cX0_set 23 = .ok (.imul, 1) := by decide +kernel
theorem dX0_set_24 : decode cX0_set 24 = .ok (.iload_n 2, 1) := by decide +kernel
theorem dX0_set_25 : decode cX0_set 25 = .ok (.iadd, 1) := by decide +kernel
theorem dX0_set_26 : decode cX0_set 26 = .ok (.iload_n 3, 1) := by decide +kernel
theorem dX0_set_27 : decode cX0_set 27 = .ok (.iastore, 1) := by decide +kernel
theorem dX0_set_28 : decode cX0_set 28 = .ok (.return_, 1) := by decide +kernel
theorem dX0_copy_0 : decode cX0_copy 0 = .ok (.aload_n 1, 1) := by decide +kernel
theorem dX0_copy_1 : decode cX0_copy 1 = .ok (.getfield 9, 3) := by decide +kernel
theorem dX0_copy_4 : decode cX0_copy 4 = .ok (.iconst 0, 1) := by decide +kernel
theorem dX0_copy_5 : decode cX0_copy 5 = .ok (.aload_n 0, 1) := by decide +kernel
theorem dX0_copy_6 : decode cX0_copy 6 = .ok (.getfield 9, 3) := by decide +kernel
theorem dX0_copy_9 : decode cX0_copy 9 = .ok (.iconst 0, 1) := by decide +kernel
theorem dX0_copy_10 : decode cX0_copy 10 = .ok (.aload_n 0, 1) := by decide +kernel
theorem dX0_copy_11 : decode cX0_copy 11 = .ok (.getfield 9, 3) := by decide +kernel
theorem dX0_copy_14 : decode cX0_copy 14 = .ok (.arraylength, 1) := by decide +kernel
theorem dX0_copy_15 : decode cX0_copy 15 = .ok (.invokestatic 23, 3) := by decide +kernel
theorem dX0_copy_18 : decode cX0_copy 18 = .ok (.aload_n 0, 1) := by decide +kernel
theorem dX0_copy_19 : decode cX0_copy 19 = .ok (.aload_n 1, 1) := by decide +kernel
theorem dX0_copy_20 : decode cX0_copy 20 = .ok (.getfield 15, 3) := by decide +kernel
theorem dX0_copy_23 : decode cX0_copy 23 = .ok (.putfield 15, 3) := by decide +kernel
theorem dX0_copy_26 : decode cX0_copy 26 = .ok (.return_, 1) := by decide +kernel
set_option maxRecDepth 20000 in
theorem ggX0_grow_X0_set : GoodIn wsX0_grow wsX0_set := goodIn_r _ [6, 7, 8, 9, 10, 5, 11, 1, 12, 13] rfl (by decide +kernel)
set_option maxRecDepth 20000 in
theorem gX0_grow_X0_set : GoodIn wsX0_grow (wsV RX0 29 RX0 yX0_set wsX0_set) := goodIn_app (goodIn_of _ (by decide +kernel)) ggX0_grow_X0_set
theorem dX0_grow_0 : decode cX0_grow 0 = .ok (.aload_n 0, 1) := by decide +kernel
theorem dX0_grow_1 : decode cX0_grow 1 = .ok (.getfield 15, 3) := by decide +kernel
theorem dX0_grow_4 : decode cX0_grow 4 = .ok (.bipush 6, 2) := by decide +kernel
theorem dX0_grow_6 : decode cX0_grow 6 = .ok (.if_icmp .lt 4, 3) := by decide +kernel
theorem dX0_grow_9 : decode cX0_grow 9 = .ok (.return_, 1) := by decide +kernel
theorem dX0_grow_10 : decode cX0_grow 10 = .ok (.aload_n 0, 1) := by decide +kernel
theorem dX0_grow_11 : decode cX0_grow 11 = .ok (.dup, 1) := by decide +kernel
theorem dX0_grow_12 : decode cX0_grow 12 = .ok (.getfield 15, 3) := by decide +kernel
theorem dX0_grow_15 : decode cX0_grow 15 = .ok (.iconst 1, 1) := by decide +kernel
theorem dX0_grow_16 : decode cX0_grow 16 = .ok (.iadd, 1) := by decide +kernel
theorem dX0_grow_17 : decode cX0_grow 17 = .ok (.putfield 15, 3) := by decide +kernel
theorem dX0_grow_20 : decode cX0_grow 20 = .ok (.iconst 0, 1) := by decide +kernel
theorem dX0_grow_21 : decode cX0_grow 21 = .ok (.istore_n 1, 1) := by decide +kernel
theorem dX0_grow_22 : decode cX0_grow 22 = .ok (.iload_n 1, 1) := by decide +kernel
theorem dX0_grow_23 : decode cX0_grow 23 = .ok (.aload_n 0, 1) := by decide +kernel
theorem dX0_grow_24 : decode cX0_grow 24 = .ok (.getfield 15, 3) := by decide +kernel
theorem dX0_grow_27 : decode cX0_grow 27 = .ok (.if_icmp .ge 33, 3) := by decide +kernel
theorem dX0_grow_30 : decode cX0_grow 30 = .ok (.aload_n 0, 1) := by decide +kernel
theorem dX0_grow_31 : decode cX0_grow 31 = .ok (.aload_n 0, 1) := by decide +kernel
theorem dX0_grow_32 : decode cX0_grow 32 = .ok (.getfield 15, 3) := by decide +kernel
theorem dX0_grow_35 : decode cX0_grow 35 = .ok (.iconst 1, 1) := by decide +kernel
theorem dX0_grow_36 : decode cX0_grow 36 = .ok (.isub, 1) := by decide +kernel
theorem dX0_grow_37 : decode cX0_grow 37 = .ok (.iload_n 1, 1) := by decide +kernel
theorem dX0_grow_38 : decode cX0_grow 38 = .ok (.iconst 0, 1) := by decide +kernel
theorem dX0_grow_39 : decode cX0_grow 39 = .ok (.invokevirtual 29, 3) := by decide +kernel
theorem dX0_grow_42 : decode cX0_grow 42 = .ok (.aload_n 0, 1) := by decide +kernel
theorem dX0_grow_43 : decode cX0_grow 43 = .ok (.iload_n 1, 1) := by decide +kernel
theorem dX0_grow_44 : decode cX0_grow 44 = .ok (.aload_n 0, 1) := by decide +kernel
theorem dX0_grow_45 : decode cX0_grow 45 = .ok (.getfield 15, 3) := by decide +kernel
theorem dX0_grow_48 : decode cX0_grow 48 = .ok (.iconst 1, 1) := by decide +kernel
theorem dX0_grow_49 : decode cX0_grow 49 = .ok (.isub, 1) := by decide +kernel
theorem dX0_grow_50 : decode cX0_grow 50 = .ok (.iconst 0, 1) := by decide +kernel
theorem dX0_grow_51 : decode cX0_grow 51 = .ok (.invokevirtual 29, 3) := by decide +kernel
theorem dX0_grow_54 : decode cX0_grow 54 = .ok (.iinc 1 1, 3) := by decide +kernel
theorem dX0_grow_57 : decode cX0_grow 57 = .ok (.goto (-35), 3) := by decide +kernel
theorem dX0_grow_60 : decode cX0_grow 60 = .ok (.return_, 1) := by decide +kernel
set_option maxRecDepth 20000 in
theorem ggX0_shrink_X0_has : GoodIn wsX0_shrink wsX0_has := goodIn_r _ [6, 1, 16, 17] rfl (by decide +kernel)
set_option maxRecDepth 20000 in
theorem gX0_shrink_X0_has : GoodIn wsX0_shrink (wsV RX0 19 RX0 yX0_has wsX0_has) := goodIn_app (goodIn_of _ (by decide +kernel)) ggX0_shrink_X0_has
set_option maxRecDepth 20000 in
theorem ggX0_shrink_X0_of : GoodIn wsX0_shrink wsX0_of := goodIn_r _ [10, 11, 2, 3, 4, 5, 6, 1, 16, 17] rfl (by decide +kernel)
set_option maxRecDepth 20000 in
theorem gX0_shrink_X0_of : GoodIn wsX0_shrink (wsV RX0 33 RX0 yX0_of wsX0_of) := goodIn_app (goodIn_of _ (by decide +kernel)) ggX0_shrink_X0_of
set_option maxRecDepth 20000 in
theorem ggX0_shrink_X0_set : GoodIn wsX0_shrink wsX0_set := goodIn_r _ [15, 11, 2, 3, 4, 5, 6, 1, 16, 17] rfl (by decide +kernel)
set_option maxRecDepth 20000 in
theorem gX0_shrink_X0_set : GoodIn wsX0_shrink (wsV RX0 29 RX0 yX0_set wsX0_set) := goodIn_app (goodIn_of _ (by decide +kernel)) ggX0_shrink_X0_set
theorem dX0_shrink_0 : decode cX0_shrink 0 = .ok (.aload_n 0, 1) := by decide +kernel
theorem dX0_shrink_1 : decode cX0_shrink 1 = .ok (.iload_n 1, 1) := by decide +kernel
theorem dX0_shrink_2 : decode cX0_shrink 2 = .ok (.invokevirtual 19, 3) := by decide +kernel
theorem dX0_shrink_5 : decode cX0_shrink 5 = .ok (.ifCond .eq 11, 3) := by decide +kernel
theorem dX0_shrink_8 : decode cX0_shrink 8 = .ok (.aload_n 0, 1) := by decide +kernel
theorem dX0_shrink_9 : decode cX0_shrink 9 = .ok (.iload_n 2, 1) := by decide +kernel
theorem dX0_shrink_10 : decode cX0_shrink 10 = .ok (.invokevirtual 19, 3) := by decide +kernel
theorem dX0_shrink_13 : decode cX0_shrink 13 = .ok (.ifCond .ne 4, 3) := by decide +kernel
theorem dX0_shrink_16 : decode cX0_shrink 16 = .ok (.return_, 1) := by decide +kernel
theorem dX0_shrink_17 : decode cX0_shrink 17 = .ok (.iconst 0, 1) := by decide +kernel
theorem dX0_shrink_18 : decode cX0_shrink 18 = .ok (.istore_n 3, 1) := by decide +kernel
theorem dX0_shrink_19 : decode cX0_shrink 19 = .ok (.iload_n 3, 1) := by decide +kernel
theorem dX0_shrink_20 : decode cX0_shrink 20 = .ok (.aload_n 0, 1) := by decide +kernel
theorem dX0_shrink_21 : decode cX0_shrink 21 = .ok (.getfield 15, 3) := by decide +kernel
theorem dX0_shrink_24 : decode cX0_shrink 24 = .ok (.iconst 1, 1) := by decide +kernel
theorem dX0_shrink_25 : decode cX0_shrink 25 = .ok (.isub, 1) := by decide +kernel
theorem dX0_shrink_26 : decode cX0_shrink 26 = .ok (.if_icmp .ge 67, 3) := by decide +kernel
theorem dX0_shrink_29 : decode cX0_shrink 29 = .ok (.iconst 0, 1) := by decide +kernel
theorem dX0_shrink_30 : decode cX0_shrink 30 = .ok (.istore 4, 2) := by decide +kernel
theorem dX0_shrink_32 : decode cX0_shrink 32 = .ok (.iload 4, 2) := by decide +kernel
theorem dX0_shrink_34 : decode cX0_shrink 34 = .ok (.aload_n 0, 1) := by decide +kernel
theorem dX0_shrink_35 : decode cX0_shrink 35 = .ok (.getfield 15, 3) := by decide +kernel
theorem dX0_shrink_38 : decode cX0_shrink 38 = .ok (.iconst 1, 1) := by decide +kernel
theorem dX0_shrink_39 : decode cX0_shrink 39 = .ok (.isub, 1) := by decide +kernel
theorem dX0_shrink_40 : decode cX0_shrink 40 = .ok (.if_icmp .ge 47, 3) := by decide +kernel
theorem dX0_shrink_43 : decode cX0_shrink 43 = .ok (.aload_n 0, 1) := by decide +kernel
theorem dX0_shrink_44 : decode cX0_shrink 44 = .ok (.iload_n 3, 1) := by decide +kernel
theorem dX0_shrink_45 : decode cX0_shrink 45 = .ok (.iload 4, 2) := by decide +kernel
theorem dX0_shrink_47 : decode cX0_shrink 47 = .ok (.aload_n 0, 1) := by decide +kernel
theorem dX0_shrink_48 : decode cX0_shrink 48 = .ok (.iload_n 3, 1) := by decide +kernel
theorem dX0_shrink_49 : decode cX0_shrink 49 = .ok (.iload_n 1, 1) := by decide +kernel
theorem dX0_shrink_50 : decode cX0_shrink 50 = .ok (.if_icmp .ge 7, 3) := by decide +kernel
theorem dX0_shrink_53 : decode cX0_shrink 53 = .ok (.iload_n 3, 1) := by decide +kernel
theorem dX0_shrink_54 : decode cX0_shrink 54 = .ok (.goto 6, 3) := by decide +kernel
theorem dX0_shrink_57 : decode cX0_shrink 57 = .ok (.iload_n 3, 1) := by decide +kernel
theorem dX0_shrink_58 : decode cX0_shrink 58 = .ok (.iconst 1, 1) := by decide +kernel
theorem dX0_shrink_59 : decode cX0_shrink 59 = .ok (.iadd, 1) := by decide +kernel
theorem dX0_shrink_60 : decode cX0_shrink 60 = .ok (.iload 4, 2) := by decide +kernel
theorem dX0_shrink_62 : decode cX0_shrink 62 = .ok (.iload_n 2, 1) := by decide +kernel
theorem dX0_shrink_63 : decode cX0_shrink 63 = .ok (.if_icmp .ge 8, 3) := by decide +kernel
theorem dX0_shrink_66 : decode cX0_shrink 66 = .ok (.iload 4, 2) := by decide +kernel
theorem dX0_shrink_68 : decode cX0_shrink 68 = .ok (.goto 7, 3) := by decide +kernel
theorem dX0_shrink_71 : decode cX0_shrink 71 = .ok (.iload 4, 2) := by decide +kernel
theorem dX0_shrink_73 : decode cX0_shrink 73 = .ok (.iconst 1, 1) := by decide +kernel
theorem dX0_shrink_74 : decode cX0_shrink 74 = .ok (.iadd, 1) := by decide +kernel
theorem dX0_shrink_75 : decode cX0_shrink 75 = .ok (.invokevirtual 33, 3) := by decide +kernel
theorem dX0_shrink_78 : decode cX0_shrink 78 = .ok (.invokevirtual 29, 3) := by decide +kernel
theorem dX0_shrink_81 : decode cX0_shrink 81 = .ok (.iinc 4 1, 3) := by decide +kernel
theorem dX0_shrink_84 : decode cX0_shrink 84 = .ok (.goto (-52), 3) := by decide +kernel
theorem dX0_shrink_87 : decode cX0_shrink 87 = .ok (.iinc 3 1, 3) := by decide +kernel
theorem dX0_shrink_90 : decode cX0_shrink 90 = .ok (.goto (-71), 3) := by decide +kernel
theorem dX0_shrink_93 : decode cX0_shrink 93 = .ok (.aload_n 0, 1) := by decide +kernel
theorem dX0_shrink_94 : decode cX0_shrink 94 = .ok (.dup, 1) := by decide +kernel
theorem dX0_shrink_95 : decode cX0_shrink 95 = .ok (.getfield 15, 3) := by decide +kernel
theorem dX0_shrink_98 : decode cX0_shrink 98 = .ok (.iconst 1, 1) := by decide +kernel
theorem dX0_shrink_99 : decode cX0_shrink 99 = .ok (.isub, 1) := by decide +kernel
theorem dX0_shrink_100 : decode cX0_shrink 100 = .ok (.putfield 15, 3) := by decide +kernel
theorem dX0_shrink_103 : decode cX0_shrink 103 = .ok (.return_, 1) := by decide +kernel
