theorem dX0_init_0 : decode cX0_init 0 = .ok (.aload_n 0, 1) := by decide +kernel
theorem dX0_init_1 : decode cX0_init 1 = .ok (.invokespecial 1, 3) := by decide +kernel
theorem dX0_init_4 : decode cX0_init 4 = .ok (.aload_n 0, 1) := by decide +kernel
theorem dX0_init_5 : decode cX0_init 5 = .ok (.bipush 32, 2) := by decide +kernel
theorem dX0_init_7 : decode cX0_init 7 = .ok (.newarray .int, 2) := by decide +kernel
theorem dX0_init_9 : decode cX0_init 9 = .ok (.putfield 9, 3) := by decide +kernel
theorem dX0_init_12 : decode cX0_init 12 = .ok (.aload_n 0, 1) := by decide +kernel
theorem dX0_init_13 : decode cX0_init 13 = .ok (.iconst 0, 1) := by decide +kernel
theorem dX0_init_14 : decode cX0_init 14 = .ok (.putfield 15, 3) := by decide +kernel
theorem dX0_init_17 : decode cX0_init 17 = .ok (.aload_n 0, 1) := by decide +kernel
theorem dX0_init_18 : decode cX0_init 18 = .ok (.iconst 0, 1) := by decide +kernel
theorem dX0_init_19 : decode cX0_init 19 = .ok (.putfield 19, 3) := by decide +kernel
theorem dX0_init_22 : decode cX0_init 22 = .ok (.aload_n 0, 1) := by decide +kernel
theorem dX0_init_23 : decode cX0_init 23 = .ok (.iconst 0, 1) := by decide +kernel
theorem dX0_init_24 : decode cX0_init 24 = .ok (.putfield 22, 3) := by decide +kernel
theorem dX0_init_27 : decode cX0_init 27 = .ok (.return_, 1) := by decide +kernel
set_option maxRecDepth 20000 in
theorem ggX0_search_J7_fill_53178 : GoodIn wsX0_search wsJ7_fill_53178 := goodIn_r _ [10] (by decide +kernel) (by decide +kernel)
set_option maxRecDepth 20000 in
theorem gX0_search_J7_fill_53178 : GoodIn wsX0_search (va_wsS RX0 25 yJ7_fill_53178 wsJ7_fill_53178) := goodIn_app (goodIn_of _ (by decide +kernel)) ggX0_search_J7_fill_53178
set_option maxRecDepth 20000 in
theorem ggX0_search_X0_mark : GoodIn wsX0_search wsX0_mark := goodIn_r _ [15, 1, 49, 50, 51, 52] (by decide +kernel) (by decide +kernel)
set_option maxRecDepth 20000 in
theorem gX0_search_X0_mark : GoodIn wsX0_search (wsV RX0 34 RX0 yX0_mark wsX0_mark) := goodIn_app (goodIn_of _ (by decide +kernel)) ggX0_search_X0_mark
set_option maxRecDepth 20000 in
theorem ggX0_search_X0_isMarked : GoodIn wsX0_search wsX0_isMarked := goodIn_r _ [19, 1, 20, 21, 22, 49, 50, 51, 52] (by decide +kernel) (by decide +kernel)
set_option maxRecDepth 20000 in
theorem gX0_search_X0_isMarked : GoodIn wsX0_search (wsV RX0 41 RX0 yX0_isMarked wsX0_isMarked) := goodIn_app (goodIn_of _ (by decide +kernel)) ggX0_search_X0_isMarked
set_option maxRecDepth 20000 in
theorem ggX0_search_X0_count : GoodIn wsX0_search wsX0_count := goodIn_r _ [26, 2, 3, 27, 28, 29, 30, 4, 31, 32, 33, 34, 35, 36, 37, 49, 50, 51, 52] (by decide +kernel) (by decide +kernel)
set_option maxRecDepth 20000 in
theorem gX0_search_X0_count : GoodIn wsX0_search (wsV RX0 45 RX0 yX0_count wsX0_count) := goodIn_app (goodIn_of _ (by decide +kernel)) ggX0_search_X0_count
set_option maxRecDepth 20000 in
theorem ggX0_search_X0_markNextOf : GoodIn wsX0_search wsX0_markNextOf := goodIn_r _ [41, 6, 42, 43, 44, 45, 46, 47, 48, 20, 21, 22, 11, 12, 13, 14, 15, 1, 53, 54, 55, 56, 57, 58, 59, 60, 61, 49, 50, 51, 52] (by decide +kernel) (by decide +kernel)
set_option maxRecDepth 20000 in
theorem gX0_search_X0_markNextOf : GoodIn wsX0_search (wsV RX0 47 RX0 yX0_markNextOf wsX0_markNextOf) := goodIn_app (goodIn_of _ (by decide +kernel)) ggX0_search_X0_markNextOf
theorem dX0_search_0 : decode cX0_search 0 = .ok (.aload_n 0, 1) := by decide +kernel
theorem dX0_search_1 : decode cX0_search 1 = .ok (.getfield 9, 3) := by decide +kernel
theorem dX0_search_4 : decode cX0_search 4 = .ok (.iconst 0, 1) := by decide +kernel
theorem dX0_search_5 : decode cX0_search 5 = .ok (.invokestatic 25, 3) := by decide +kernel
theorem dX0_search_8 : decode cX0_search 8 = .ok (.aload_n 0, 1) := by decide +kernel
theorem dX0_search_9 : decode cX0_search 9 = .ok (.iconst 0, 1) := by decide +kernel
theorem dX0_search_10 : decode cX0_search 10 = .ok (.putfield 15, 3) := by decide +kernel
theorem dX0_search_13 : decode cX0_search 13 = .ok (.aload_n 0, 1) := by decide +kernel
theorem dX0_search_14 : decode cX0_search 14 = .ok (.iconst 0, 1) := by decide +kernel
theorem dX0_search_15 : decode cX0_search 15 = .ok (.putfield 19, 3) := by decide +kernel
theorem dX0_search_18 : decode cX0_search 18 = .ok (.aload_n 0, 1) := by decide +kernel
theorem dX0_search_19 : decode cX0_search 19 = .ok (.iconst 0, 1) := by decide +kernel
theorem dX0_search_20 : decode cX0_search 20 = .ok (.putfield 22, 3) := by decide +kernel
theorem dX0_search_23 : decode cX0_search 23 = .ok (.aload_n 0, 1) := by decide +kernel
theorem dX0_search_24 : decode cX0_search 24 = .ok (.aload_n 1, 1) := by decide +kernel
theorem dX0_search_25 : decode cX0_search 25 = .ok (.getfield 31, 3) := by decide +kernel
theorem dX0_search_28 : decode cX0_search 28 = .ok (.invokevirtual 34, 3) := by decide +kernel
theorem dX0_search_31 : decode cX0_search 31 = .ok (.aload_n 1, 1) := by decide +kernel
theorem dX0_search_32 : decode cX0_search 32 = .ok (.getfield 31, 3) := by decide +kernel
theorem dX0_search_35 : decode cX0_search 35 = .ok (.istore_n 3, 1) := by decide +kernel
theorem dX0_search_36 : decode cX0_search 36 = .ok (.iload_n 3, 1) := by decide +kernel
theorem dX0_search_37 : decode cX0_search 37 = .ok (.iconst 1, 1) := by decide +kernel
theorem dX0_search_38 : decode cX0_search 38 = .ok (.aload_n 1, 1) := by decide +kernel
theorem dX0_search_39 : decode cX0_search 39 = .ok (.getfield 38, 3) := by decide +kernel
theorem dX0_search_42 : decode cX0_search 42 = .ok (.ishl, 1) := by decide +kernel
theorem dX0_search_43 : decode cX0_search 43 = .ok (.if_icmp .ge 29, 3) := by decide +kernel
theorem dX0_search_46 : decode cX0_search 46 = .ok (.aload_n 0, 1) := by decide +kernel
theorem dX0_search_47 : decode cX0_search 47 = .ok (.iload_n 3, 1) := by decide +kernel
theorem dX0_search_48 : decode cX0_search 48 = .ok (.invokevirtual 41, 3) := by decide +kernel
theorem dX0_search_51 : decode cX0_search 51 = .ok (.ifCond .eq 15, 3) := by decide +kernel
theorem dX0_search_54 : decode cX0_search 54 = .ok (.aload_n 0, 1) := by decide +kernel
theorem dX0_search_55 : decode cX0_search 55 = .ok (.iload_n 3, 1) := by decide +kernel
theorem dX0_search_56 : decode cX0_search 56 = .ok (.invokevirtual 45, 3) := by decide +kernel
theorem dX0_search_59 : decode cX0_search 59 = .ok (.aload_n 0, 1) := by decide +kernel
theorem dX0_search_60 : decode cX0_search 60 = .ok (.iload_n 3, 1) := by decide +kernel
theorem dX0_search_61 : decode cX0_search 61 = .ok (.aload_n 1, 1) := by decide +kernel
theorem dX0_search_62 : decode cX0_search 62 = .ok (.iload_n 2, 1) := by decide +kernel
theorem dX0_search_63 : decode cX0_search 63 = .ok (.invokevirtual 47, 3) := by decide +kernel
theorem dX0_search_66 : decode cX0_search 66 = .ok (.iinc 3 1, 3) := by decide +kernel
theorem dX0_search_69 : decode cX0_search 69 = .ok (.goto (-33), 3) := by decide +kernel
theorem dX0_search_72 : decode cX0_search 72 = .ok (.return_, 1) := by decide +kernel
set_option maxRecDepth 20000 in
theorem ggX0_count_J6_bitCount_0f7a4 : GoodIn wsX0_count wsJ6_bitCount_0f7a4 := goodIn_r _ [11, 12, 13, 14] (by decide +kernel) (by decide +kernel)
set_option maxRecDepth 20000 in
theorem gX0_count_J6_bitCount_0f7a4 : GoodIn wsX0_count (va_wsS RX0 51 yJ6_bitCount_0f7a4 wsJ6_bitCount_0f7a4) := goodIn_app (goodIn_of _ (by decide +kernel)) ggX0_count_J6_bitCount_0f7a4
theorem dX0_count_0 : decode cX0_count 0 = .ok (.aload_n 0, 1) := by decide +kernel
theorem dX0_count_1 : decode cX0_count 1 = .ok (.dup, 1) := by decide +kernel
theorem dX0_count_2 : decode cX0_count 2 = .ok (.getfield 15, 3) := by decide +kernel
theorem dX0_count_5 : decode cX0_count 5 = .ok (.iconst 1, 1) := by decide +kernel
theorem dX0_count_6 : decode cX0_count 6 = .ok (.iadd, 1) := by decide +kernel
theorem dX0_count_7 : decode cX0_count 7 = .ok (.putfield 15, 3) := by decide +kernel
theorem dX0_count_10 : decode cX0_count 10 = .ok (.aload_n 0, 1) := by decide +kernel
theorem dX0_count_11 : decode cX0_count 11 = .ok (.aload_n 0, 1) := by decide +kernel
theorem dX0_count_12 : decode cX0_count 12 = .ok (.getfield 19, 3) := by decide +kernel
theorem dX0_count_15 : decode cX0_count 15 = .ok (.iload_n 1, 1) := by decide +kernel
theorem dX0_count_16 : decode cX0_count 16 = .ok (.invokestatic 51, 3) := by decide +kernel
theorem dX0_count_19 : decode cX0_count 19 = .ok (.invokestatic 57, 3) := by decide +kernel
theorem dX0_count_22 : decode cX0_count 22 = .ok (.putfield 19, 3) := by decide +kernel
theorem dX0_count_25 : decode cX0_count 25 = .ok (.aload_n 0, 1) := by decide +kernel
theorem dX0_count_26 : decode cX0_count 26 = .ok (.dup, 1) := by decide +kernel
theorem dX0_count_27 : decode cX0_count 27 = .ok (.getfield 22, 3) := by decide +kernel
theorem dX0_count_30 : decode cX0_count 30 = .ok (.iload_n 1, 1) := by decide +kernel
theorem dX0_count_31 : decode cX0_count 31 = .ok (.ior, 1) := by decide +kernel
theorem dX0_count_32 : decode cX0_count 32 = .ok (.putfield 22, 3) := by decide +kernel
theorem dX0_count_35 : decode cX0_count 35 = .ok (.return_, 1) := by decide +kernel
set_option maxRecDepth 20000 in
theorem ggX0_markNextOf_X2_mayRise : GoodIn wsX0_markNextOf wsX2_mayRise := goodIn_r _ [6, 7, 8, 9, 10, 11, 18, 19, 20, 21, 22, 23, 24, 25, 26] (by decide +kernel) (by decide +kernel)
set_option maxRecDepth 20000 in
theorem gX0_markNextOf_X2_mayRise : GoodIn wsX0_markNextOf (wsV RX0 63 RX2 yX2_mayRise wsX2_mayRise) := goodIn_app (goodIn_of _ (by decide +kernel)) ggX0_markNextOf_X2_mayRise
set_option maxRecDepth 20000 in
theorem ggX0_markNextOf_X0_mark : GoodIn wsX0_markNextOf wsX0_mark := goodIn_r _ [16, 17, 27, 28, 29, 30] (by decide +kernel) (by decide +kernel)
set_option maxRecDepth 20000 in
theorem gX0_markNextOf_X0_mark : GoodIn wsX0_markNextOf (wsV RX0 34 RX0 yX0_mark wsX0_mark) := goodIn_app (goodIn_of _ (by decide +kernel)) ggX0_markNextOf_X0_mark
theorem dX0_markNextOf_0 : decode cX0_markNextOf 0 = .ok (.iconst 0, 1) := by decide +kernel
theorem dX0_markNextOf_1 : decode cX0_markNextOf 1 = .ok (.istore 4, 2) := by decide +kernel
theorem dX0_markNextOf_3 : decode cX0_markNextOf 3 = .ok (.iload 4, 2) := by decide +kernel
theorem dX0_markNextOf_5 : decode cX0_markNextOf 5 = .ok (.aload_n 2, 1) := by decide +kernel
theorem dX0_markNextOf_6 : decode cX0_markNextOf 6 = .ok (.getfield 38, 3) := by decide +kernel
theorem dX0_markNextOf_9 : decode cX0_markNextOf 9 = .ok (.if_icmp .ge 30, 3) := by decide +kernel
theorem dX0_markNextOf_12 : decode cX0_markNextOf 12 = .ok (.aload_n 2, 1) := by decide +kernel
theorem dX0_markNextOf_13 : decode cX0_markNextOf 13 = .ok (.iload 4, 2) := by decide +kernel
theorem dX0_markNextOf_15 : decode cX0_markNextOf 15 = .ok (.iload_n 1, 1) := by decide +kernel
theorem dX0_markNextOf_16 : decode cX0_markNextOf 16 = .ok (.iload_n 3, 1) := by decide +kernel
theorem dX0_markNextOf_17 : decode cX0_markNextOf 17 = .ok (.invokevirtual 63, 3) := by decide +kernel
theorem dX0_markNextOf_20 : decode cX0_markNextOf 20 = .ok (.ifCond .eq 13, 3) := by decide +kernel
theorem dX0_markNextOf_23 : decode cX0_markNextOf 23 = .ok (.aload_n 0, 1) := by decide +kernel
theorem dX0_markNextOf_24 : decode cX0_markNextOf 24 = .ok (.iload_n 1, 1) := by decide +kernel
theorem dX0_markNextOf_25 : decode cX0_markNextOf 25 = .ok (.iconst 1, 1) := by decide +kernel
theorem dX0_markNextOf_26 : decode cX0_markNextOf 26 = .ok (.iload 4, 2) := by decide +kernel
theorem dX0_markNextOf_28 : decode cX0_markNextOf 28 = .ok (.ishl, 1) := by decide +kernel
theorem dX0_markNextOf_29 : decode cX0_markNextOf 29 = .ok (.ior, 1) := by decide +kernel
theorem dX0_markNextOf_30 : decode cX0_markNextOf 30 = .ok (.invokevirtual 34, 3) := by decide +kernel
theorem dX0_markNextOf_33 : decode cX0_markNextOf 33 = .ok (.iinc 4 1, 3) := by decide +kernel
theorem dX0_markNextOf_36 : decode cX0_markNextOf 36 = .ok (.goto (-33), 3) := by decide +kernel
theorem dX0_markNextOf_39 : decode cX0_markNextOf 39 = .ok (.return_, 1) := by decide +kernel
theorem dX0_mark_0 : decode cX0_mark 0 = .ok (.aload_n 0, 1) := by decide +kernel
theorem dX0_mark_1 : decode cX0_mark 1 = .ok (.getfield 9, 3) := by decide +kernel
theorem dX0_mark_4 : decode cX0_mark 4 = .ok (.iload_n 1, 1) := by decide +kernel
theorem dX0_mark_5 : decode cX0_mark 5 = .ok (.iconst 5, 1) := by decide +kernel
theorem dX0_mark_6 : decode cX0_mark 6 = .ok (.ishr, 1) := by decide +kernel
theorem dX0_mark_7 : decode cX0_mark 7 = .ok (.dup2, 1) := by decide +kernel
theorem dX0_mark_8 : decode cX0_mark 8 = .ok (.iaload, 1) := by decide +kernel
theorem dX0_mark_9 : decode cX0_mark 9 = .ok (.iconst 1, 1) := by decide +kernel
theorem dX0_mark_10 : decode cX0_mark 10 = .ok (.iload_n 1, 1) := by decide +kernel
theorem dX0_mark_11 : decode cX0_mark 11 = .ok (.bipush 31, 2) := by decide +kernel
theorem dX0_mark_13 : decode cX0_mark 13 = .ok (.iand, 1) := by decide +kernel
theorem dX0_mark_14 : decode cX0_mark 14 = .ok (.ishl, 1) := by decide +kernel
theorem dX0_mark_15 : decode cX0_mark 15 = .ok (.ior, 1) := by decide +kernel
theorem dX0_mark_16 : decode cX0_mark 16 = .ok (.iastore, 1) := by decide +kernel
theorem dX0_mark_17 : decode cX0_mark 17 = .ok (.return_, 1) := by decide +kernel
set_option maxRecDepth 20000 in
theorem ggX0_isMarked_X4_isIn : GoodIn wsX0_isMarked wsX4_isIn := goodIn_r _ [4] (by decide +kernel) (by decide +kernel)
set_option maxRecDepth 20000 in
theorem gX0_isMarked_X4_isIn_n67 : GoodIn wsX0_isMarked (wsX4_isIn) := ggX0_isMarked_X4_isIn
theorem dX0_isMarked_0 : decode cX0_isMarked 0 = .ok (.aload_n 0, 1) := by decide +kernel
theorem dX0_isMarked_1 : decode cX0_isMarked 1 = .ok (.getfield 9, 3) := by decide +kernel
theorem dX0_isMarked_4 : decode cX0_isMarked 4 = .ok (.iload_n 1, 1) := by decide +kernel
theorem dX0_isMarked_5 : decode cX0_isMarked 5 = .ok (.iconst 5, 1) := by decide +kernel
theorem dX0_isMarked_6 : decode cX0_isMarked 6 = .ok (.ishr, 1) := by decide +kernel
theorem dX0_isMarked_7 : decode cX0_isMarked 7 = .ok (.iaload, 1) := by decide +kernel
theorem dX0_isMarked_8 : decode cX0_isMarked 8 = .ok (.iload_n 1, 1) := by decide +kernel
theorem dX0_isMarked_9 : decode cX0_isMarked 9 = .ok (.bipush 31, 2) := by decide +kernel
theorem dX0_isMarked_11 : decode cX0_isMarked 11 = .ok (.iand, 1) := by decide +kernel
theorem dX0_isMarked_12 : decode cX0_isMarked 12 = .ok (.invokestatic 67, 3) := by decide +kernel
theorem dX0_isMarked_15 : decode cX0_isMarked 15 = .ok (.ireturn, 1) := by decide +kernel
theorem dX1_init_0 : decode cX1_init 0 = .ok (.aload_n 0, 1) := by decide +kernel
theorem dX1_init_1 : decode cX1_init 1 = .ok (.invokespecial 3, 3) := by decide +kernel
theorem dX1_init_4 : decode cX1_init 4 = .ok (.aload_n 0, 1) := by decide +kernel
theorem dX1_init_5 : decode cX1_init 5 = .ok (.bipush 50, 2) := by decide +kernel
theorem dX1_init_7 : decode cX1_init 7 = .ok (.newarray .int, 2) := by decide +kernel
theorem dX1_init_9 : decode cX1_init 9 = .ok (.putfield 11, 3) := by decide +kernel
theorem dX1_init_12 : decode cX1_init 12 = .ok (.aload_n 0, 1) := by decide +kernel
theorem dX1_init_13 : decode cX1_init 13 = .ok (.iconst (-1), 1) := by decide +kernel
theorem dX1_init_14 : decode cX1_init 14 = .ok (.putfield 15, 3) := by decide +kernel
theorem dX1_init_17 : decode cX1_init 17 = .ok (.aload_n 0, 1) := by decide +kernel
theorem dX1_init_18 : decode cX1_init 18 = .ok (.iconst 0, 1) := by decide +kernel
theorem dX1_init_19 : decode cX1_init 19 = .ok (.putfield 19, 3) := by decide +kernel
theorem dX1_init_22 : decode cX1_init 22 = .ok (.return_, 1) := by decide +kernel
set_option maxRecDepth 20000 in
theorem ggX1_isLane_X4_isWithin : GoodIn wsX1_isLane wsX4_isWithin := goodIn_r _ [3] (by decide +kernel) (by decide +kernel)
set_option maxRecDepth 20000 in
theorem gX1_isLane_X4_isWithin_n22 : GoodIn wsX1_isLane (wsX4_isWithin) := ggX1_isLane_X4_isWithin
theorem dX1_isLane_0 : decode cX1_isLane 0 = .ok (.iload_n 0, 1) := by decide +kernel
theorem dX1_isLane_1 : decode cX1_isLane 1 = .ok (.iconst 0, 1) := by decide +kernel
theorem dX1_isLane_2 : decode cX1_isLane 2 = .ok (.iconst 2, 1) := by decide +kernel
theorem dX1_isLane_3 : decode cX1_isLane 3 = .ok (.invokestatic 22, 3) := by decide +kernel
theorem dX1_isLane_6 : decode cX1_isLane 6 = .ok (.ireturn, 1) := by decide +kernel
theorem dX1_hasNothing_0 : decode cX1_hasNothing 0 = .ok (.aload_n 0, 1) := by decide +kernel
theorem dX1_hasNothing_1 : decode cX1_hasNothing 1 = .ok (.getfield 15, 3) := by decide +kernel
theorem dX1_hasNothing_4 : decode cX1_hasNothing 4 = .ok (.iconst (-1), 1) := by decide +kernel
theorem dX1_hasNothing_5 : decode cX1_hasNothing 5 = .ok (.if_icmp .ne 7, 3) := by decide +kernel
theorem dX1_hasNothing_8 : decode cX1_hasNothing 8 = .ok (.iconst 1, 1) := by decide +kernel
theorem dX1_hasNothing_9 : decode cX1_hasNothing 9 = .ok (.goto 4, 3) := by decide +kernel
theorem dX1_hasNothing_12 : decode cX1_hasNothing 12 = .ok (.iconst 0, 1) := by decide +kernel
theorem dX1_hasNothing_13 : decode cX1_hasNothing 13 = .ok (.ireturn, 1) := by decide +kernel
theorem dX1_empty_0 : decode cX1_empty 0 = .ok (.aload_n 0, 1) := by decide +kernel
theorem dX1_empty_1 : decode cX1_empty 1 = .ok (.iconst (-1), 1) := by decide +kernel
theorem dX1_empty_2 : decode cX1_empty 2 = .ok (.putfield 15, 3) := by decide +kernel
theorem dX1_empty_5 : decode cX1_empty 5 = .ok (.aload_n 0, 1) := by decide +kernel
theorem dX1_empty_6 : decode cX1_empty 6 = .ok (.iconst 0, 1) := by decide +kernel
theorem dX1_empty_7 : decode cX1_empty 7 = .ok (.putfield 19, 3) := by decide +kernel
theorem dX1_empty_10 : decode cX1_empty 10 = .ok (.return_, 1) := by decide +kernel
set_option maxRecDepth 20000 in
theorem ggX1_renew_J7_fill_53178 : GoodIn wsX1_renew wsJ7_fill_53178 := goodIn_r _ [7] (by decide +kernel) (by decide +kernel)
set_option maxRecDepth 20000 in
theorem gX1_renew_J7_fill_53178 : GoodIn wsX1_renew (va_wsS RX1 26 yJ7_fill_53178 wsJ7_fill_53178) := goodIn_app (goodIn_of _ (by decide +kernel)) ggX1_renew_J7_fill_53178
theorem dX1_renew_0 : decode cX1_renew 0 = .ok (.aload_n 0, 1) := by decide +kernel
theorem dX1_renew_1 : decode cX1_renew 1 = .ok (.iload_n 1, 1) := by decide +kernel
theorem dX1_renew_2 : decode cX1_renew 2 = .ok (.putfield 15, 3) := by decide +kernel
theorem dX1_renew_5 : decode cX1_renew 5 = .ok (.aload_n 0, 1) := by decide +kernel
theorem dX1_renew_6 : decode cX1_renew 6 = .ok (.iload_n 2, 1) := by decide +kernel
theorem dX1_renew_7 : decode cX1_renew 7 = .ok (.putfield 19, 3) := by decide +kernel
theorem dX1_renew_10 : decode cX1_renew 10 = .ok (.aload_n 0, 1) := by decide +kernel
theorem dX1_renew_11 : decode cX1_renew 11 = .ok (.getfield 11, 3) := by decide +kernel
theorem dX1_renew_14 : decode cX1_renew 14 = .ok (.iconst 0, 1) := by decide +kernel
theorem dX1_renew_15 : decode cX1_renew 15 = .ok (.invokestatic 26, 3) := by decide +kernel
theorem dX1_renew_18 : decode cX1_renew 18 = .ok (.return_, 1) := by decide +kernel
theorem dX1_hasCells_0 : decode cX1_hasCells 0 = .ok (.iload_n 1, 1) := by decide +kernel
theorem dX1_hasCells_1 : decode cX1_hasCells 1 = .ok (.ifCond .lt 21, 3) := by decide +kernel
theorem dX1_hasCells_4 : decode cX1_hasCells 4 = .ok (.iload_n 2, 1) := by decide +kernel
theorem dX1_hasCells_5 : decode cX1_hasCells 5 = .ok (.ifCond .lt 17, 3) := by decide +kernel
theorem dX1_hasCells_8 : decode cX1_hasCells 8 = .ok (.iload_n 2, 1) := by decide +kernel
theorem dX1_hasCells_9 : decode cX1_hasCells 9 = .ok (.aload_n 0, 1) := by decide +kernel
theorem dX1_hasCells_10 : decode cX1_hasCells 10 = .ok (.getfield 19, 3) := by decide +kernel
theorem dX1_hasCells_13 : decode cX1_hasCells 13 = .ok (.iload_n 1, 1) := by decide +kernel
theorem dX1_hasCells_14 : decode cX1_hasCells 14 = .ok (.isub, 1) := by decide +kernel
theorem dX1_hasCells_15 : decode cX1_hasCells 15 = .ok (.if_icmp .gt 7, 3) := by decide +kernel
theorem dX1_hasCells_18 : decode cX1_hasCells 18 = .ok (.iconst 1, 1) := by decide +kernel
theorem dX1_hasCells_19 : decode cX1_hasCells 19 = .ok (.goto 4, 3) := by decide +kernel
theorem dX1_hasCells_22 : decode cX1_hasCells 22 = .ok (.iconst 0, 1) := by decide +kernel
theorem dX1_hasCells_23 : decode cX1_hasCells 23 = .ok (.ireturn, 1) := by decide +kernel
set_option maxRecDepth 20000 in
theorem ggX1_faultAsLane_X1_hasNothing : GoodIn wsX1_faultAsLane wsX1_hasNothing := goodIn_r _ [6, 1, 7, 8, 9] (by decide +kernel) (by decide +kernel)
set_option maxRecDepth 20000 in
theorem gX1_faultAsLane_X1_hasNothing : GoodIn wsX1_faultAsLane (wsV RX1 32 RX1 yX1_hasNothing wsX1_hasNothing) := goodIn_app (goodIn_of _ (by decide +kernel)) ggX1_faultAsLane_X1_hasNothing
theorem dX1_faultAsLane_0 : decode cX1_faultAsLane 0 = .ok (.aload_n 0, 1) := by decide +kernel
theorem dX1_faultAsLane_1 : decode cX1_faultAsLane 1 = .ok (.invokevirtual 32, 3) := by decide +kernel
theorem dX1_faultAsLane_4 : decode cX1_faultAsLane 4 = .ok (.ifCond .eq 5, 3) := by decide +kernel
theorem dX1_faultAsLane_7 : decode cX1_faultAsLane 7 = .ok (.iconst 1, 1) := by decide +kernel
theorem dX1_faultAsLane_8 : decode cX1_faultAsLane 8 = .ok (.ireturn, 1) := by decide +kernel
theorem dX1_faultAsLane_9 : decode cX1_faultAsLane 9 = .ok (.aload_n 0, 1) := by decide +kernel
theorem dX1_faultAsLane_10 : decode cX1_faultAsLane 10 = .ok (.getfield 15, 3) := by decide +kernel
theorem dX1_faultAsLane_13 : decode cX1_faultAsLane 13 = .ok (.iload_n 1, 1) := by decide +kernel
theorem dX1_faultAsLane_14 : decode cX1_faultAsLane 14 = .ok (.if_icmp .eq 7, 3) := by decide +kernel
theorem dX1_faultAsLane_17 : decode cX1_faultAsLane 17 = .ok (.iconst 2, 1) := by decide +kernel
theorem dX1_faultAsLane_18 : decode cX1_faultAsLane 18 = .ok (.goto 4, 3) := by decide +kernel
theorem dX1_faultAsLane_21 : decode cX1_faultAsLane 21 = .ok (.iconst 0, 1) := by decide +kernel
theorem dX1_faultAsLane_22 : decode cX1_faultAsLane 22 = .ok (.ireturn, 1) := by decide +kernel
theorem dX1_cutToLane_0 : decode cX1_cutToLane 0 = .ok (.aload_n 0, 1) := by decide +kernel
theorem dX1_cutToLane_1 : decode cX1_cutToLane 1 = .ok (.getfield 15, 3) := by decide +kernel
theorem dX1_cutToLane_4 : decode cX1_cutToLane 4 = .ok (.lookupswitch 34 #[(0, 28), (1, 31)], 28) := by decide +kernel
theorem dX1_cutToLane_32 : decode cX1_cutToLane 32 = .ok (.iload_n 1, 1) := by decide +kernel
theorem dX1_cutToLane_33 : decode cX1_cutToLane 33 = .ok (.i2b, 1) := by decide +kernel
theorem dX1_cutToLane_34 : decode cX1_cutToLane 34 = .ok (.ireturn, 1) := by decide +kernel
theorem dX1_cutToLane_35 : decode cX1_cutToLane 35 = .ok (.iload_n 1, 1) := by decide +kernel
theorem dX1_cutToLane_36 : decode cX1_cutToLane 36 = .ok (.i2s, 1) := by decide +kernel
theorem dX1_cutToLane_37 : decode cX1_cutToLane 37 = .ok (.ireturn, 1) := by decide +kernel
theorem dX1_cutToLane_38 : decode cX1_cutToLane 38 = .ok (.iload_n 1, 1) := by decide +kernel
theorem dX1_cutToLane_39 : decode cX1_cutToLane 39 = .ok (.ireturn, 1) := by decide +kernel
theorem dX2_init_0 : decode cX2_init 0 = .ok (.aload_n 0, 1) := by decide +kernel
theorem dX2_init_1 : decode cX2_init 1 = .ok (.invokespecial 3, 3) := by decide +kernel
theorem dX2_init_4 : decode cX2_init 4 = .ok (.aload_n 0, 1) := by decide +kernel
theorem dX2_init_5 : decode cX2_init 5 = .ok (.bipush 10, 2) := by decide +kernel
theorem dX2_init_7 : decode cX2_init 7 = .ok (.newarray .int, 2) := by decide +kernel
theorem dX2_init_9 : decode cX2_init 9 = .ok (.putfield 11, 3) := by decide +kernel
theorem dX2_init_12 : decode cX2_init 12 = .ok (.aload_n 0, 1) := by decide +kernel
theorem dX2_init_13 : decode cX2_init 13 = .ok (.bipush 10, 2) := by decide +kernel
theorem dX2_init_15 : decode cX2_init 15 = .ok (.newarray .int, 2) := by decide +kernel
theorem dX2_init_17 : decode cX2_init 17 = .ok (.putfield 15, 3) := by decide +kernel
theorem dX2_init_20 : decode cX2_init 20 = .ok (.aload_n 0, 1) := by decide +kernel
theorem dX2_init_21 : decode cX2_init 21 = .ok (.bipush 10, 2) := by decide +kernel
theorem dX2_init_23 : decode cX2_init 23 = .ok (.newarray .int, 2) := by decide +kernel
theorem dX2_init_25 : decode cX2_init 25 = .ok (.putfield 18, 3) := by decide +kernel
theorem dX2_init_28 : decode cX2_init 28 = .ok (.aload_n 0, 1) := by decide +kernel
theorem dX2_init_29 : decode cX2_init 29 = .ok (.bipush 10, 2) := by decide +kernel
theorem dX2_init_31 : decode cX2_init 31 = .ok (.newarray .int, 2) := by decide +kernel
theorem dX2_init_33 : decode cX2_init 33 = .ok (.putfield 21, 3) := by decide +kernel
theorem dX2_init_36 : decode cX2_init 36 = .ok (.aload_n 0, 1) := by decide +kernel
theorem dX2_init_37 : decode cX2_init 37 = .ok (.bipush 10, 2) := by decide +kernel
theorem dX2_init_39 : decode cX2_init 39 = .ok (.newarray .int, 2) := by decide +kernel
theorem dX2_init_41 : decode cX2_init 41 = .ok (.putfield 24, 3) := by decide +kernel
theorem dX2_init_44 : decode cX2_init 44 = .ok (.aload_n 0, 1) := by decide +kernel
theorem dX2_init_45 : decode cX2_init 45 = .ok (.bipush 10, 2) := by decide +kernel
theorem dX2_init_47 : decode cX2_init 47 = .ok (.newarray .int, 2) := by decide +kernel
theorem dX2_init_49 : decode cX2_init 49 = .ok (.putfield 27, 3) := by decide +kernel
theorem dX2_init_52 : decode cX2_init 52 = .ok (.aload_n 0, 1) := by decide +kernel
theorem dX2_init_53 : decode cX2_init 53 = .ok (.bipush 10, 2) := by decide +kernel
theorem dX2_init_55 : decode cX2_init 55 = .ok (.newarray .int, 2) := by decide +kernel
theorem dX2_init_57 : decode cX2_init 57 = .ok (.putfield 30, 3) := by decide +kernel
theorem dX2_init_60 : decode cX2_init 60 = .ok (.aload_n 0, 1) := by decide +kernel
theorem dX2_init_61 : decode cX2_init 61 = .ok (.iconst 0, 1) := by decide +kernel
theorem dX2_init_62 : decode cX2_init 62 = .ok (.putfield 33, 3) := by decide +kernel
theorem dX2_init_65 : decode cX2_init 65 = .ok (.aload_n 0, 1) := by decide +kernel
theorem dX2_init_66 : decode cX2_init 66 = .ok (.iconst 0, 1) := by decide +kernel
theorem dX2_init_67 : decode cX2_init 67 = .ok (.putfield 37, 3) := by decide +kernel
theorem dX2_init_70 : decode cX2_init 70 = .ok (.return_, 1) := by decide +kernel
theorem dX2_has_0 : decode cX2_has 0 = .ok (.iload_n 1, 1) := by decide +kernel
theorem dX2_has_1 : decode cX2_has 1 = .ok (.ifCond .lt 15, 3) := by decide +kernel
theorem dX2_has_4 : decode cX2_has 4 = .ok (.iload_n 1, 1) := by decide +kernel
theorem dX2_has_5 : decode cX2_has 5 = .ok (.aload_n 0, 1) := by decide +kernel
theorem dX2_has_6 : decode cX2_has 6 = .ok (.getfield 33, 3) := by decide +kernel
theorem dX2_has_9 : decode cX2_has 9 = .ok (.if_icmp .ge 7, 3) := by decide +kernel
theorem dX2_has_12 : decode cX2_has 12 = .ok (.iconst 1, 1) := by decide +kernel
theorem dX2_has_13 : decode cX2_has 13 = .ok (.goto 4, 3) := by decide +kernel
theorem dX2_has_16 : decode cX2_has 16 = .ok (.iconst 0, 1) := by decide +kernel
theorem dX2_has_17 : decode cX2_has 17 = .ok (.ireturn, 1) := by decide +kernel
set_option maxRecDepth 20000 in
theorem ggX2_add_X2_coverSomeLengthTogether : GoodIn wsX2_add wsX2_coverSomeLengthTogether := goodIn_r _ [12, 13, 14, 15, 16, 17, 18, 19, 20, 21, 22, 11, 23, 3, 6, 4, 24, 25, 26, 27, 33, 34, 35, 36, 37, 38, 39, 40, 41] (by decide +kernel) (by decide +kernel)
set_option maxRecDepth 20000 in
theorem gX2_add_X2_coverSomeLengthTogether : GoodIn wsX2_add (wsV RX2 40 RX2 yX2_coverSomeLengthTogether wsX2_coverSomeLengthTogether) := goodIn_app (goodIn_of _ (by decide +kernel)) ggX2_add_X2_coverSomeLengthTogether
set_option maxRecDepth 20000 in
theorem ggX2_add_X2_noteFootWithin : GoodIn wsX2_add wsX2_noteFootWithin := goodIn_r _ [31, 3, 32, 20, 21, 22, 11, 23, 6, 4, 17, 18, 15, 19, 24, 25, 26, 27, 13, 14, 16, 33, 34, 35, 36, 37, 38, 39, 40, 41] (by decide +kernel) (by decide +kernel)
set_option maxRecDepth 20000 in
theorem gX2_add_X2_noteFootWithin : GoodIn wsX2_add (wsV RX2 44 RX2 yX2_noteFootWithin wsX2_noteFootWithin) := goodIn_app (goodIn_of _ (by decide +kernel)) ggX2_add_X2_noteFootWithin
theorem dX2_add_0 : decode cX2_add 0 = .ok (.aload_n 0, 1) := by decide +kernel
theorem dX2_add_1 : decode cX2_add 1 = .ok (.getfield 33, 3) := by decide +kernel
theorem dX2_add_4 : decode cX2_add 4 = .ok (.bipush 10, 2) := by decide +kernel
theorem dX2_add_6 : decode cX2_add 6 = .ok (.if_icmp .lt 6, 3) := by decide +kernel
theorem dX2_add_9 : decode cX2_add 9 = .ok (.bipush (-4), 2) := by decide +kernel
theorem dX2_add_11 : decode cX2_add 11 = .ok (.ireturn, 1) := by decide +kernel
theorem dX2_add_12 : decode cX2_add 12 = .ok (.aload_n 0, 1) := by decide +kernel
theorem dX2_add_13 : decode cX2_add 13 = .ok (.getfield 33, 3) := by decide +kernel
theorem dX2_add_16 : decode cX2_add 16 = .ok (.istore 6, 2) := by decide +kernel
theorem dX2_add_18 : decode cX2_add 18 = .ok (.aload_n 0, 1) := by decide +kernel
theorem dX2_add_19 : decode cX2_add 19 = .ok (.getfield 11, 3) := by decide +kernel
theorem dX2_add_22 : decode cX2_add 22 = .ok (.iload 6, 2) := by decide +kernel
theorem dX2_add_24 : decode cX2_add 24 = .ok (.iload_n 1, 1) := by decide +kernel
theorem dX2_add_25 : decode cX2_add 25 = .ok (.iastore, 1) := by decide +kernel
theorem dX2_add_26 : decode cX2_add 26 = .ok (.aload_n 0, 1) := by decide +kernel
theorem dX2_add_27 : decode cX2_add 27 = .ok (.getfield 15, 3) := by decide +kernel
theorem dX2_add_30 : decode cX2_add 30 = .ok (.iload 6, 2) := by decide +kernel
theorem dX2_add_32 : decode cX2_add 32 = .ok (.iload_n 2, 1) := by decide +kernel
theorem dX2_add_33 : decode cX2_add 33 = .ok (.iastore, 1) := by decide +kernel
theorem dX2_add_34 : decode cX2_add 34 = .ok (.aload_n 0, 1) := by decide +kernel
theorem dX2_add_35 : decode cX2_add 35 = .ok (.getfield 18, 3) := by decide +kernel
theorem dX2_add_38 : decode cX2_add 38 = .ok (.iload 6, 2) := by decide +kernel
theorem dX2_add_40 : decode cX2_add 40 = .ok (.iload_n 3, 1) := by decide +kernel
theorem dX2_add_41 : decode cX2_add 41 = .ok (.iastore, 1) := by decide +kernel
theorem dX2_add_42 : decode cX2_add 42 = .ok (.aload_n 0, 1) := by decide +kernel
theorem dX2_add_43 : decode cX2_add 43 = .ok (.getfield 21, 3) := by decide +kernel
theorem dX2_add_46 : decode cX2_add 46 = .ok (.iload 6, 2) := by decide +kernel
theorem dX2_add_48 : decode cX2_add 48 = .ok (.iload 4, 2) := by decide +kernel
theorem dX2_add_50 : decode cX2_add 50 = .ok (.iastore, 1) := by decide +kernel
theorem dX2_add_51 : decode cX2_add 51 = .ok (.aload_n 0, 1) := by decide +kernel
theorem dX2_add_52 : decode cX2_add 52 = .ok (.getfield 24, 3) := by decide +kernel
theorem dX2_add_55 : decode cX2_add 55 = .ok (.iload 6, 2) := by decide +kernel
theorem dX2_add_57 : decode cX2_add 57 = .ok (.iload 5, 2) := by decide +kernel
theorem dX2_add_59 : decode cX2_add 59 = .ok (.iastore, 1) := by decide +kernel
theorem dX2_add_60 : decode cX2_add 60 = .ok (.iconst 0, 1) := by decide +kernel
theorem dX2_add_61 : decode cX2_add 61 = .ok (.istore 7, 2) := by decide +kernel
theorem dX2_add_63 : decode cX2_add 63 = .ok (.iload 7, 2) := by decide +kernel
theorem dX2_add_65 : decode cX2_add 65 = .ok (.iload 6, 2) := by decide +kernel
theorem dX2_add_67 : decode cX2_add 67 = .ok (.if_icmp .ge 50, 3) := by decide +kernel
theorem dX2_add_70 : decode cX2_add 70 = .ok (.aload_n 0, 1) := by decide +kernel
theorem dX2_add_71 : decode cX2_add 71 = .ok (.iload 7, 2) := by decide +kernel
theorem dX2_add_73 : decode cX2_add 73 = .ok (.iload 6, 2) := by decide +kernel
theorem dX2_add_75 : decode cX2_add 75 = .ok (.invokevirtual 40, 3) := by decide +kernel
theorem dX2_add_78 : decode cX2_add 78 = .ok (.ifCond .eq 17, 3) := by decide +kernel
theorem dX2_add_81 : decode cX2_add 81 = .ok (.aload_n 0, 1) := by decide +kernel
theorem dX2_add_82 : decode cX2_add 82 = .ok (.getfield 27, 3) := by decide +kernel
theorem dX2_add_85 : decode cX2_add 85 = .ok (.iload 7, 2) := by decide +kernel
theorem dX2_add_87 : decode cX2_add 87 = .ok (.dup2, 1) := by decide +kernel
theorem dX2_add_88 : decode cX2_add 88 = .ok (.iaload, 1) := by decide +kernel
theorem dX2_add_89 : decode cX2_add 89 = .ok (.iconst 1, 1) := by decide +kernel
theorem dX2_add_90 : decode cX2_add 90 = .ok (.iload 6, 2) := by decide +kernel
theorem dX2_add_92 : decode cX2_add 92 = .ok (.ishl, 1) := by decide +kernel
theorem dX2_add_93 : decode cX2_add 93 = .ok (.ior, 1) := by decide +kernel
theorem dX2_add_94 : decode cX2_add 94 = .ok (.iastore, 1) := by decide +kernel
theorem dX2_add_95 : decode cX2_add 95 = .ok (.aload_n 0, 1) := by decide +kernel
theorem dX2_add_96 : decode cX2_add 96 = .ok (.iload 7, 2) := by decide +kernel
theorem dX2_add_98 : decode cX2_add 98 = .ok (.iload 6, 2) := by decide +kernel
theorem dX2_add_100 : decode cX2_add 100 = .ok (.invokevirtual 44, 3) := by decide +kernel
theorem dX2_add_103 : decode cX2_add 103 = .ok (.aload_n 0, 1) := by decide +kernel
theorem dX2_add_104 : decode cX2_add 104 = .ok (.iload 6, 2) := by decide +kernel
theorem dX2_add_106 : decode cX2_add 106 = .ok (.iload 7, 2) := by decide +kernel
theorem dX2_add_108 : decode cX2_add 108 = .ok (.invokevirtual 44, 3) := by decide +kernel
theorem dX2_add_111 : decode cX2_add 111 = .ok (.iinc 7 1, 3) := by decide +kernel
theorem dX2_add_114 : decode cX2_add 114 = .ok (.goto (-51), 3) := by decide +kernel
theorem dX2_add_117 : decode cX2_add 117 = .ok (.aload_n 0, 1) := by decide +kernel
theorem dX2_add_118 : decode cX2_add 118 = .ok (.dup, 1) := by decide +kernel
theorem dX2_add_119 : decode cX2_add 119 = .ok (.getfield 33, 3) := by decide +kernel
theorem dX2_add_122 : decode cX2_add 122 = .ok (.iconst 1, 1) := by decide +kernel
theorem dX2_add_123 : decode cX2_add 123 = .ok (.iadd, 1) := by decide +kernel
theorem dX2_add_124 : decode cX2_add 124 = .ok (.putfield 33, 3) := by decide +kernel
theorem dX2_add_127 : decode cX2_add 127 = .ok (.iload 6, 2) := by decide +kernel
theorem dX2_add_129 : decode cX2_add 129 = .ok (.ireturn, 1) := by decide +kernel
set_option maxRecDepth 20000 in
theorem ggX2_noteFootWithin_X2_low : GoodIn wsX2_noteFootWithin wsX2_low := goodIn_r _ [7, 1, 8, 9, 10, 11, 12, 13, 21, 22, 23, 24, 25, 26, 27, 28, 29] (by decide +kernel) (by decide +kernel)
set_option maxRecDepth 20000 in
theorem gX2_noteFootWithin_X2_low : GoodIn wsX2_noteFootWithin (wsV RX2 48 RX2 yX2_low wsX2_low) := goodIn_app (goodIn_of _ (by decide +kernel)) ggX2_noteFootWithin_X2_low
set_option maxRecDepth 20000 in
theorem ggX2_noteFootWithin_X2_high : GoodIn wsX2_noteFootWithin wsX2_high := goodIn_r _ [17, 1, 8, 9, 18, 19, 12, 20, 21, 22, 23, 24, 25, 26, 27, 28, 29] (by decide +kernel) (by decide +kernel)
set_option maxRecDepth 20000 in
theorem gX2_noteFootWithin_X2_high : GoodIn wsX2_noteFootWithin (wsV RX2 52 RX2 yX2_high wsX2_high) := goodIn_app (goodIn_of _ (by decide +kernel)) ggX2_noteFootWithin_X2_high
theorem dX2_noteFootWithin_0 : decode cX2_noteFootWithin 0 = .ok (.aload_n 0, 1) := by decide +kernel
theorem dX2_noteFootWithin_1 : decode cX2_noteFootWithin 1 = .ok (.iload_n 1, 1) := by decide +kernel
theorem dX2_noteFootWithin_2 : decode cX2_noteFootWithin 2 = .ok (.invokevirtual 48, 3) := by decide +kernel
theorem dX2_noteFootWithin_5 : decode cX2_noteFootWithin 5 = .ok (.aload_n 0, 1) := by decide +kernel
theorem dX2_noteFootWithin_6 : decode cX2_noteFootWithin 6 = .ok (.getfield 15, 3) := by decide +kernel
theorem dX2_noteFootWithin_9 : decode cX2_noteFootWithin 9 = .ok (.iload_n 2, 1) := by decide +kernel
theorem dX2_noteFootWithin_10 : decode cX2_noteFootWithin 10 = .ok (.iaload, 1) := by decide +kernel
theorem dX2_noteFootWithin_11 : decode cX2_noteFootWithin 11 = .ok (.if_icmp .ge 29, 3) := by decide +kernel
theorem dX2_noteFootWithin_14 : decode cX2_noteFootWithin 14 = .ok (.aload_n 0, 1) := by decide +kernel
theorem dX2_noteFootWithin_15 : decode cX2_noteFootWithin 15 = .ok (.getfield 15, 3) := by decide +kernel
theorem dX2_noteFootWithin_18 : decode cX2_noteFootWithin 18 = .ok (.iload_n 2, 1) := by decide +kernel
theorem dX2_noteFootWithin_19 : decode cX2_noteFootWithin 19 = .ok (.iaload, 1) := by decide +kernel
theorem dX2_noteFootWithin_20 : decode cX2_noteFootWithin 20 = .ok (.aload_n 0, 1) := by decide +kernel
theorem dX2_noteFootWithin_21 : decode cX2_noteFootWithin 21 = .ok (.iload_n 1, 1) := by decide +kernel
theorem dX2_noteFootWithin_22 : decode cX2_noteFootWithin 22 = .ok (.invokevirtual 52, 3) := by decide +kernel
theorem dX2_noteFootWithin_25 : decode cX2_noteFootWithin 25 = .ok (.if_icmp .ge 15, 3) := by decide +kernel
theorem dX2_noteFootWithin_28 : decode cX2_noteFootWithin 28 = .ok (.aload_n 0, 1) := by decide +kernel
theorem dX2_noteFootWithin_29 : decode cX2_noteFootWithin 29 = .ok (.getfield 30, 3) := by decide +kernel
theorem dX2_noteFootWithin_32 : decode cX2_noteFootWithin 32 = .ok (.iload_n 1, 1) := by decide +kernel
theorem dX2_noteFootWithin_33 : decode cX2_noteFootWithin 33 = .ok (.dup2, 1) := by decide +kernel
theorem dX2_noteFootWithin_34 : decode cX2_noteFootWithin 34 = .ok (.iaload, 1) := by decide +kernel
theorem dX2_noteFootWithin_35 : decode cX2_noteFootWithin 35 = .ok (.iconst 1, 1) := by decide +kernel
theorem dX2_noteFootWithin_36 : decode cX2_noteFootWithin 36 = .ok (.iload_n 2, 1) := by decide +kernel
theorem dX2_noteFootWithin_37 : decode cX2_noteFootWithin 37 = .ok (.ishl, 1) := by decide +kernel
theorem dX2_noteFootWithin_38 : decode cX2_noteFootWithin 38 = .ok (.ior, 1) := by decide +kernel
theorem dX2_noteFootWithin_39 : decode cX2_noteFootWithin 39 = .ok (.iastore, 1) := by decide +kernel
theorem dX2_noteFootWithin_40 : decode cX2_noteFootWithin 40 = .ok (.return_, 1) := by decide +kernel
set_option maxRecDepth 20000 in
theorem ggX2_coverSomeLengthTogether_X2_low : GoodIn wsX2_coverSomeLengthTogether wsX2_low := goodIn_r _ [12, 13, 14, 15, 5, 6, 3, 7, 20, 21, 22, 23, 24, 25, 26, 27, 28] (by decide +kernel) (by decide +kernel)
set_option maxRecDepth 20000 in
theorem gX2_coverSomeLengthTogether_X2_low : GoodIn wsX2_coverSomeLengthTogether (wsV RX2 48 RX2 yX2_low wsX2_low) := goodIn_app (goodIn_of _ (by decide +kernel)) ggX2_coverSomeLengthTogether_X2_low
set_option maxRecDepth 20000 in
theorem ggX2_coverSomeLengthTogether_X2_high : GoodIn wsX2_coverSomeLengthTogether wsX2_high := goodIn_r _ [19, 13, 14, 15, 1, 2, 3, 4, 20, 21, 22, 23, 24, 25, 26, 27, 28] (by decide +kernel) (by decide +kernel)
set_option maxRecDepth 20000 in
theorem gX2_coverSomeLengthTogether_X2_high : GoodIn wsX2_coverSomeLengthTogether (wsV RX2 52 RX2 yX2_high wsX2_high) := goodIn_app (goodIn_of _ (by decide +kernel)) ggX2_coverSomeLengthTogether_X2_high
theorem dX2_coverSomeLengthTogether_0 : decode cX2_coverSomeLengthTogether 0 = .ok (.aload_n 0, 1) := by decide +kernel
theorem dX2_coverSomeLengthTogether_1 : decode cX2_coverSomeLengthTogether 1 = .ok (.iload_n 1, 1) := by decide +kernel
theorem dX2_coverSomeLengthTogether_2 : decode cX2_coverSomeLengthTogether 2 = .ok (.invokevirtual 48, 3) := by decide +kernel
theorem dX2_coverSomeLengthTogether_5 : decode cX2_coverSomeLengthTogether 5 = .ok (.aload_n 0, 1) := by decide +kernel
theorem dX2_coverSomeLengthTogether_6 : decode cX2_coverSomeLengthTogether 6 = .ok (.iload_n 2, 1) := by decide +kernel
theorem dX2_coverSomeLengthTogether_7 : decode cX2_coverSomeLengthTogether 7 = .ok (.invokevirtual 48, 3) := by decide +kernel
theorem dX2_coverSomeLengthTogether_10 : decode cX2_coverSomeLengthTogether 10 = .ok (.invokestatic 55, 3) := by decide +kernel
theorem dX2_coverSomeLengthTogether_13 : decode cX2_coverSomeLengthTogether 13 = .ok (.aload_n 0, 1) := by decide +kernel
theorem dX2_coverSomeLengthTogether_14 : decode cX2_coverSomeLengthTogether 14 = .ok (.iload_n 1, 1) := by decide +kernel
theorem dX2_coverSomeLengthTogether_15 : decode cX2_coverSomeLengthTogether 15 = .ok (.invokevirtual 52, 3) := by decide +kernel
theorem dX2_coverSomeLengthTogether_18 : decode cX2_coverSomeLengthTogether 18 = .ok (.aload_n 0, 1) := by decide +kernel
theorem dX2_coverSomeLengthTogether_19 : decode cX2_coverSomeLengthTogether 19 = .ok (.iload_n 2, 1) := by decide +kernel
theorem dX2_coverSomeLengthTogether_20 : decode cX2_coverSomeLengthTogether 20 = .ok (.invokevirtual 52, 3) := by decide +kernel
theorem dX2_coverSomeLengthTogether_23 : decode cX2_coverSomeLengthTogether 23 = .ok (.invokestatic 61, 3) := by decide +kernel
theorem dX2_coverSomeLengthTogether_26 : decode cX2_coverSomeLengthTogether 26 = .ok (.if_icmp .ge 7, 3) := by decide +kernel
theorem dX2_coverSomeLengthTogether_29 : decode cX2_coverSomeLengthTogether 29 = .ok (.iconst 1, 1) := by decide +kernel
theorem dX2_coverSomeLengthTogether_30 : decode cX2_coverSomeLengthTogether 30 = .ok (.goto 4, 3) := by decide +kernel
theorem dX2_coverSomeLengthTogether_33 : decode cX2_coverSomeLengthTogether 33 = .ok (.iconst 0, 1) := by decide +kernel
theorem dX2_coverSomeLengthTogether_34 : decode cX2_coverSomeLengthTogether 34 = .ok (.ireturn, 1) := by decide +kernel
theorem dX2_low_0 : decode cX2_low 0 = .ok (.aload_n 0, 1) := by decide +kernel
theorem dX2_low_1 : decode cX2_low 1 = .ok (.getfield 15, 3) := by decide +kernel
theorem dX2_low_4 : decode cX2_low 4 = .ok (.iload_n 1, 1) := by decide +kernel
theorem dX2_low_5 : decode cX2_low 5 = .ok (.iaload, 1) := by decide +kernel
theorem dX2_low_6 : decode cX2_low 6 = .ok (.aload_n 0, 1) := by decide +kernel
theorem dX2_low_7 : decode cX2_low 7 = .ok (.getfield 15, 3) := by decide +kernel
theorem dX2_low_10 : decode cX2_low 10 = .ok (.iload_n 1, 1) := by decide +kernel
theorem dX2_low_11 : decode cX2_low 11 = .ok (.iaload, 1) := by decide +kernel
theorem dX2_low_12 : decode cX2_low 12 = .ok (.aload_n 0, 1) := by decide +kernel
theorem dX2_low_13 : decode cX2_low 13 = .ok (.getfield 24, 3) := by decide +kernel
theorem dX2_low_16 : decode cX2_low 16 = .ok (.iload_n 1, 1) := by decide +kernel
theorem dX2_low_17 : decode cX2_low 17 = .ok (.iaload, 1) := by decide +kernel
theorem dX2_low_18 : decode cX2_low 18 = .ok (.aload_n 0, 1) := by decide +kernel
theorem dX2_low_19 : decode cX2_low 19 = .ok (.getfield 18, 3) := by decide +kernel
theorem dX2_low_22 : decode cX2_low 22 = .ok (.iload_n 1, 1) := by decide +kernel
theorem dX2_low_23 : decode cX2_low 23 = .ok (.iaload, 1) := by decide +kernel
theorem dX2_low_24 : decode cX2_low 24 = .ok (.imul, 1) := by decide +kernel
theorem dX2_low_25 : decode cX2_low 25 = .ok (.iadd, 1) := by decide +kernel
theorem dX2_low_26 : decode cX2_low 26 = .ok (.invokestatic 61, 3) := by decide +kernel
theorem dX2_low_29 : decode cX2_low 29 = .ok (.ireturn, 1) := by decide +kernel
theorem dX2_high_0 : decode cX2_high 0 = .ok (.aload_n 0, 1) := by decide +kernel
theorem dX2_high_1 : decode cX2_high 1 = .ok (.getfield 15, 3) := by decide +kernel
theorem dX2_high_4 : decode cX2_high 4 = .ok (.iload_n 1, 1) := by decide +kernel
theorem dX2_high_5 : decode cX2_high 5 = .ok (.iaload, 1) := by decide +kernel
theorem dX2_high_6 : decode cX2_high 6 = .ok (.aload_n 0, 1) := by decide +kernel
theorem dX2_high_7 : decode cX2_high 7 = .ok (.getfield 15, 3) := by decide +kernel
theorem dX2_high_10 : decode cX2_high 10 = .ok (.iload_n 1, 1) := by decide +kernel
theorem dX2_high_11 : decode cX2_high 11 = .ok (.iaload, 1) := by decide +kernel
theorem dX2_high_12 : decode cX2_high 12 = .ok (.aload_n 0, 1) := by decide +kernel
theorem dX2_high_13 : decode cX2_high 13 = .ok (.getfield 24, 3) := by decide +kernel
theorem dX2_high_16 : decode cX2_high 16 = .ok (.iload_n 1, 1) := by decide +kernel
theorem dX2_high_17 : decode cX2_high 17 = .ok (.iaload, 1) := by decide +kernel
theorem dX2_high_18 : decode cX2_high 18 = .ok (.aload_n 0, 1) := by decide +kernel
theorem dX2_high_19 : decode cX2_high 19 = .ok (.getfield 18, 3) := by decide +kernel
theorem dX2_high_22 : decode cX2_high 22 = .ok (.iload_n 1, 1) := by decide +kernel
theorem dX2_high_23 : decode cX2_high 23 = .ok (.iaload, 1) := by decide +kernel
theorem dX2_high_24 : decode cX2_high 24 = .ok (.imul, 1) := by decide +kernel
theorem dX2_high_25 : decode cX2_high 25 = .ok (.iadd, 1) := by decide +kernel
theorem dX2_high_26 : decode cX2_high 26 = .ok (.invokestatic 55, 3) := by decide +kernel
theorem dX2_high_29 : decode cX2_high 29 = .ok (.ireturn, 1) := by decide +kernel
theorem dX2_lying_0 : decode cX2_lying 0 = .ok (.iconst 1, 1) := by decide +kernel
theorem dX2_lying_1 : decode cX2_lying 1 = .ok (.aload_n 0, 1) := by decide +kernel
theorem dX2_lying_2 : decode cX2_lying 2 = .ok (.getfield 33, 3) := by decide +kernel
theorem dX2_lying_5 : decode cX2_lying 5 = .ok (.ishl, 1) := by decide +kernel
theorem dX2_lying_6 : decode cX2_lying 6 = .ok (.iconst 1, 1) := by decide +kernel
theorem dX2_lying_7 : decode cX2_lying 7 = .ok (.isub, 1) := by decide +kernel
theorem dX2_lying_8 : decode cX2_lying 8 = .ok (.aload_n 0, 1) := by decide +kernel
theorem dX2_lying_9 : decode cX2_lying 9 = .ok (.getfield 37, 3) := by decide +kernel
theorem dX2_lying_12 : decode cX2_lying 12 = .ok (.iconst (-1), 1) := by decide +kernel
theorem dX2_lying_13 : decode cX2_lying 13 = .ok (.ixor, 1) := by decide +kernel
theorem dX2_lying_14 : decode cX2_lying 14 = .ok (.iand, 1) := by decide +kernel
theorem dX2_lying_15 : decode cX2_lying 15 = .ok (.ireturn, 1) := by decide +kernel
set_option maxRecDepth 20000 in
theorem ggX2_isUp_X4_isIn : GoodIn wsX2_isUp wsX4_isIn := goodIn_r _ [4] (by decide +kernel) (by decide +kernel)
set_option maxRecDepth 20000 in
theorem gX2_isUp_X4_isIn_n64 : GoodIn wsX2_isUp (wsX4_isIn) := ggX2_isUp_X4_isIn
theorem dX2_isUp_0 : decode cX2_isUp 0 = .ok (.aload_n 0, 1) := by decide +kernel
theorem dX2_isUp_1 : decode cX2_isUp 1 = .ok (.getfield 37, 3) := by decide +kernel
theorem dX2_isUp_4 : decode cX2_isUp 4 = .ok (.iload_n 1, 1) := by decide +kernel
theorem dX2_isUp_5 : decode cX2_isUp 5 = .ok (.invokestatic 64, 3) := by decide +kernel
theorem dX2_isUp_8 : decode cX2_isUp 8 = .ok (.ireturn, 1) := by decide +kernel
theorem dX2_greatestFoot_0 : decode cX2_greatestFoot 0 = .ok (.iconst 0, 1) := by decide +kernel
theorem dX2_greatestFoot_1 : decode cX2_greatestFoot 1 = .ok (.istore_n 1, 1) := by decide +kernel
theorem dX2_greatestFoot_2 : decode cX2_greatestFoot 2 = .ok (.iconst 0, 1) := by decide +kernel
theorem dX2_greatestFoot_3 : decode cX2_greatestFoot 3 = .ok (.istore_n 2, 1) := by decide +kernel
theorem dX2_greatestFoot_4 : decode cX2_greatestFoot 4 = .ok (.iload_n 2, 1) := by decide +kernel
theorem dX2_greatestFoot_5 : decode cX2_greatestFoot 5 = .ok (.aload_n 0, 1) := by decide +kernel
theorem dX2_greatestFoot_6 : decode cX2_greatestFoot 6 = .ok (.getfield 33, 3) := by decide +kernel
theorem dX2_greatestFoot_9 : decode cX2_greatestFoot 9 = .ok (.if_icmp .ge 20, 3) := by decide +kernel
theorem dX2_greatestFoot_12 : decode cX2_greatestFoot 12 = .ok (.iload_n 1, 1) := by decide +kernel
theorem dX2_greatestFoot_13 : decode cX2_greatestFoot 13 = .ok (.aload_n 0, 1) := by decide +kernel
theorem dX2_greatestFoot_14 : decode cX2_greatestFoot 14 = .ok (.getfield 15, 3) := by decide +kernel
theorem dX2_greatestFoot_17 : decode cX2_greatestFoot 17 = .ok (.iload_n 2, 1) := by decide +kernel
theorem dX2_greatestFoot_18 : decode cX2_greatestFoot 18 = .ok (.iaload, 1) := by decide +kernel
theorem dX2_greatestFoot_19 : decode cX2_greatestFoot 19 = .ok (.invokestatic 55, 3) := by decide +kernel
theorem dX2_greatestFoot_22 : decode cX2_greatestFoot 22 = .ok (.istore_n 1, 1) := by decide +kernel
theorem dX2_greatestFoot_23 : decode cX2_greatestFoot 23 = .ok (.iinc 2 1, 3) := by decide +kernel
theorem dX2_greatestFoot_26 : decode cX2_greatestFoot 26 = .ok (.goto (-22), 3) := by decide +kernel
theorem dX2_greatestFoot_29 : decode cX2_greatestFoot 29 = .ok (.iload_n 1, 1) := by decide +kernel
theorem dX2_greatestFoot_30 : decode cX2_greatestFoot 30 = .ok (.ireturn, 1) := by decide +kernel
set_option maxRecDepth 20000 in
theorem ggX2_thickAt_X2_isUp : GoodIn wsX2_thickAt wsX2_isUp := goodIn_r _ [7, 8, 9, 10, 11, 30, 31, 32, 33, 34, 35, 36, 37, 38] (by decide +kernel) (by decide +kernel)
set_option maxRecDepth 20000 in
theorem gX2_thickAt_X2_isUp : GoodIn wsX2_thickAt (wsV RX2 67 RX2 yX2_isUp wsX2_isUp) := goodIn_app (goodIn_of _ (by decide +kernel)) ggX2_thickAt_X2_isUp
set_option maxRecDepth 20000 in
theorem ggX2_thickAt_X2_low : GoodIn wsX2_thickAt wsX2_low := goodIn_r _ [15, 16, 17, 18, 19, 20, 21, 22, 30, 31, 32, 33, 34, 35, 36, 37, 38] (by decide +kernel) (by decide +kernel)
set_option maxRecDepth 20000 in
theorem gX2_thickAt_X2_low : GoodIn wsX2_thickAt (wsV RX2 48 RX2 yX2_low wsX2_low) := goodIn_app (goodIn_of _ (by decide +kernel)) ggX2_thickAt_X2_low
set_option maxRecDepth 20000 in
theorem ggX2_thickAt_X2_high : GoodIn wsX2_thickAt wsX2_high := goodIn_r _ [26, 16, 17, 18, 27, 28, 21, 29, 30, 31, 32, 33, 34, 35, 36, 37, 38] (by decide +kernel) (by decide +kernel)
set_option maxRecDepth 20000 in
theorem gX2_thickAt_X2_high : GoodIn wsX2_thickAt (wsV RX2 52 RX2 yX2_high wsX2_high) := goodIn_app (goodIn_of _ (by decide +kernel)) ggX2_thickAt_X2_high
theorem dX2_thickAt_0 : decode cX2_thickAt 0 = .ok (.iconst 0, 1) := by decide +kernel
theorem dX2_thickAt_1 : decode cX2_thickAt 1 = .ok (.istore_n 2, 1) := by decide +kernel
theorem dX2_thickAt_2 : decode cX2_thickAt 2 = .ok (.iconst 0, 1) := by decide +kernel
theorem dX2_thickAt_3 : decode cX2_thickAt 3 = .ok (.istore_n 3, 1) := by decide +kernel
theorem dX2_thickAt_4 : decode cX2_thickAt 4 = .ok (.iload_n 3, 1) := by decide +kernel
theorem dX2_thickAt_5 : decode cX2_thickAt 5 = .ok (.aload_n 0, 1) := by decide +kernel
theorem dX2_thickAt_6 : decode cX2_thickAt 6 = .ok (.getfield 33, 3) := by decide +kernel
theorem dX2_thickAt_9 : decode cX2_thickAt 9 = .ok (.if_icmp .ge 44, 3) := by decide +kernel
theorem dX2_thickAt_12 : decode cX2_thickAt 12 = .ok (.aload_n 0, 1) := by decide +kernel
theorem dX2_thickAt_13 : decode cX2_thickAt 13 = .ok (.iload_n 3, 1) := by decide +kernel
theorem dX2_thickAt_14 : decode cX2_thickAt 14 = .ok (.invokevirtual 67, 3) := by decide +kernel
theorem dX2_thickAt_17 : decode cX2_thickAt 17 = .ok (.ifCond .ne 30, 3) := by decide +kernel
theorem dX2_thickAt_20 : decode cX2_thickAt 20 = .ok (.aload_n 0, 1) := by decide +kernel
theorem dX2_thickAt_21 : decode cX2_thickAt 21 = .ok (.iload_n 3, 1) := by decide +kernel
theorem dX2_thickAt_22 : decode cX2_thickAt 22 = .ok (.invokevirtual 48, 3) := by decide +kernel
theorem dX2_thickAt_25 : decode cX2_thickAt 25 = .ok (.iload_n 1, 1) := by decide +kernel
theorem dX2_thickAt_26 : decode cX2_thickAt 26 = .ok (.if_icmp .gt 21, 3) := by decide +kernel
theorem dX2_thickAt_29 : decode cX2_thickAt 29 = .ok (.iload_n 1, 1) := by decide +kernel
theorem dX2_thickAt_30 : decode cX2_thickAt 30 = .ok (.aload_n 0, 1) := by decide +kernel
theorem dX2_thickAt_31 : decode cX2_thickAt 31 = .ok (.iload_n 3, 1) := by decide +kernel
theorem dX2_thickAt_32 : decode cX2_thickAt 32 = .ok (.invokevirtual 52, 3) := by decide +kernel
theorem dX2_thickAt_35 : decode cX2_thickAt 35 = .ok (.if_icmp .ge 12, 3) := by decide +kernel
theorem dX2_thickAt_38 : decode cX2_thickAt 38 = .ok (.iload_n 2, 1) := by decide +kernel
theorem dX2_thickAt_39 : decode cX2_thickAt 39 = .ok (.aload_n 0, 1) := by decide +kernel
theorem dX2_thickAt_40 : decode cX2_thickAt 40 = .ok (.getfield 21, 3) := by decide +kernel
theorem dX2_thickAt_43 : decode cX2_thickAt 43 = .ok (.iload_n 3, 1) := by decide +kernel
theorem dX2_thickAt_44 : decode cX2_thickAt 44 = .ok (.iaload, 1) := by decide +kernel
theorem dX2_thickAt_45 : decode cX2_thickAt 45 = .ok (.iadd, 1) := by decide +kernel
theorem dX2_thickAt_46 : decode cX2_thickAt 46 = .ok (.istore_n 2, 1) := by decide +kernel
theorem dX2_thickAt_47 : decode cX2_thickAt 47 = .ok (.iinc 3 1, 3) := by decide +kernel
theorem dX2_thickAt_50 : decode cX2_thickAt 50 = .ok (.goto (-46), 3) := by decide +kernel
theorem dX2_thickAt_53 : decode cX2_thickAt 53 = .ok (.iload_n 2, 1) := by decide +kernel
theorem dX2_thickAt_54 : decode cX2_thickAt 54 = .ok (.ireturn, 1) := by decide +kernel
set_option maxRecDepth 20000 in
theorem ggX2_greatestThick_X2_isUp : GoodIn wsX2_greatestThick wsX2_isUp := goodIn_r _ [10, 11, 12, 13, 14, 34, 35, 36, 37, 38, 39, 40, 41, 42] (by decide +kernel) (by decide +kernel)
set_option maxRecDepth 20000 in
theorem gX2_greatestThick_X2_isUp : GoodIn wsX2_greatestThick (wsV RX2 67 RX2 yX2_isUp wsX2_isUp) := goodIn_app (goodIn_of _ (by decide +kernel)) ggX2_greatestThick_X2_isUp
set_option maxRecDepth 20000 in
theorem ggX2_greatestThick_X2_low : GoodIn wsX2_greatestThick wsX2_low := goodIn_r _ [18, 19, 20, 21, 22, 23, 4, 24, 34, 35, 36, 37, 38, 39, 40, 41, 42] (by decide +kernel) (by decide +kernel)
set_option maxRecDepth 20000 in
theorem gX2_greatestThick_X2_low : GoodIn wsX2_greatestThick (wsV RX2 48 RX2 yX2_low wsX2_low) := goodIn_app (goodIn_of _ (by decide +kernel)) ggX2_greatestThick_X2_low
set_option maxRecDepth 20000 in
theorem ggX2_greatestThick_X2_thickAt : GoodIn wsX2_greatestThick wsX2_thickAt := goodIn_r _ [28, 1, 29, 6, 7, 8, 9, 10, 11, 12, 13, 14, 15, 16, 17, 18, 19, 20, 21, 22, 23, 4, 24, 30, 31, 32, 33, 2, 3, 5, 34, 35, 36, 37, 38, 39, 40, 41, 42] (by decide +kernel) (by decide +kernel)
set_option maxRecDepth 20000 in
theorem gX2_greatestThick_X2_thickAt : GoodIn wsX2_greatestThick (wsV RX2 71 RX2 yX2_thickAt wsX2_thickAt) := goodIn_app (goodIn_of _ (by decide +kernel)) ggX2_greatestThick_X2_thickAt
theorem dX2_greatestThick_0 : decode cX2_greatestThick 0 = .ok (.iconst 0, 1) := by decide +kernel
theorem dX2_greatestThick_1 : decode cX2_greatestThick 1 = .ok (.istore_n 1, 1) := by decide +kernel
theorem dX2_greatestThick_2 : decode cX2_greatestThick 2 = .ok (.iconst 0, 1) := by decide +kernel
theorem dX2_greatestThick_3 : decode cX2_greatestThick 3 = .ok (.istore_n 2, 1) := by decide +kernel
theorem dX2_greatestThick_4 : decode cX2_greatestThick 4 = .ok (.iload_n 2, 1) := by decide +kernel
theorem dX2_greatestThick_5 : decode cX2_greatestThick 5 = .ok (.aload_n 0, 1) := by decide +kernel
theorem dX2_greatestThick_6 : decode cX2_greatestThick 6 = .ok (.getfield 33, 3) := by decide +kernel
theorem dX2_greatestThick_9 : decode cX2_greatestThick 9 = .ok (.if_icmp .ge 31, 3) := by decide +kernel
theorem dX2_greatestThick_12 : decode cX2_greatestThick 12 = .ok (.aload_n 0, 1) := by decide +kernel
theorem dX2_greatestThick_13 : decode cX2_greatestThick 13 = .ok (.iload_n 2, 1) := by decide +kernel
theorem dX2_greatestThick_14 : decode cX2_greatestThick 14 = .ok (.invokevirtual 67, 3) := by decide +kernel
theorem dX2_greatestThick_17 : decode cX2_greatestThick 17 = .ok (.ifCond .ne 17, 3) := by decide +kernel
theorem dX2_greatestThick_20 : decode cX2_greatestThick 20 = .ok (.iload_n 1, 1) := by decide +kernel
theorem dX2_greatestThick_21 : decode cX2_greatestThick 21 = .ok (.aload_n 0, 1) := by decide +kernel
theorem dX2_greatestThick_22 : decode cX2_greatestThick 22 = .ok (.aload_n 0, 1) := by decide +kernel
theorem dX2_greatestThick_23 : decode cX2_greatestThick 23 = .ok (.iload_n 2, 1) := by decide +kernel
theorem dX2_greatestThick_24 : decode cX2_greatestThick 24 = .ok (.invokevirtual 48, 3) := by decide +kernel
theorem dX2_greatestThick_27 : decode cX2_greatestThick 27 = .ok (.invokevirtual 71, 3) := by decide +kernel
theorem dX2_greatestThick_30 : decode cX2_greatestThick 30 = .ok (.invokestatic 55, 3) := by decide +kernel
theorem dX2_greatestThick_33 : decode cX2_greatestThick 33 = .ok (.istore_n 1, 1) := by decide +kernel
theorem dX2_greatestThick_34 : decode cX2_greatestThick 34 = .ok (.iinc 2 1, 3) := by decide +kernel
theorem dX2_greatestThick_37 : decode cX2_greatestThick 37 = .ok (.goto (-33), 3) := by decide +kernel
theorem dX2_greatestThick_40 : decode cX2_greatestThick 40 = .ok (.iload_n 1, 1) := by decide +kernel
theorem dX2_greatestThick_41 : decode cX2_greatestThick 41 = .ok (.ireturn, 1) := by decide +kernel
set_option maxRecDepth 20000 in
theorem ggX2_mayRise_X4_isIn : GoodIn wsX2_mayRise wsX4_isIn := goodIn_r _ [5] (by decide +kernel) (by decide +kernel)
set_option maxRecDepth 20000 in
theorem gX2_mayRise_X4_isIn_n64 : GoodIn wsX2_mayRise (wsX4_isIn) := ggX2_mayRise_X4_isIn
theorem dX2_mayRise_0 : decode cX2_mayRise 0 = .ok (.iload_n 2, 1) := by decide +kernel
theorem dX2_mayRise_1 : decode cX2_mayRise 1 = .ok (.iload_n 1, 1) := by decide +kernel
theorem dX2_mayRise_2 : decode cX2_mayRise 2 = .ok (.invokestatic 64, 3) := by decide +kernel
theorem dX2_mayRise_5 : decode cX2_mayRise 5 = .ok (.ifCond .ne 39, 3) := by decide +kernel
theorem dX2_mayRise_8 : decode cX2_mayRise 8 = .ok (.iload_n 3, 1) := by decide +kernel
theorem dX2_mayRise_9 : decode cX2_mayRise 9 = .ok (.iload_n 1, 1) := by decide +kernel
theorem dX2_mayRise_10 : decode cX2_mayRise 10 = .ok (.invokestatic 64, 3) := by decide +kernel
theorem dX2_mayRise_13 : decode cX2_mayRise 13 = .ok (.ifCond .eq 31, 3) := by decide +kernel
theorem dX2_mayRise_16 : decode cX2_mayRise 16 = .ok (.aload_n 0, 1) := by decide +kernel
theorem dX2_mayRise_17 : decode cX2_mayRise 17 = .ok (.getfield 27, 3) := by decide +kernel
theorem dX2_mayRise_20 : decode cX2_mayRise 20 = .ok (.iload_n 1, 1) := by decide +kernel
theorem dX2_mayRise_21 : decode cX2_mayRise 21 = .ok (.iaload, 1) := by decide +kernel
theorem dX2_mayRise_22 : decode cX2_mayRise 22 = .ok (.iload_n 2, 1) := by decide +kernel
theorem dX2_mayRise_23 : decode cX2_mayRise 23 = .ok (.iconst (-1), 1) := by decide +kernel
theorem dX2_mayRise_24 : decode cX2_mayRise 24 = .ok (.ixor, 1) := by decide +kernel
theorem dX2_mayRise_25 : decode cX2_mayRise 25 = .ok (.iand, 1) := by decide +kernel
theorem dX2_mayRise_26 : decode cX2_mayRise 26 = .ok (.ifCond .ne 18, 3) := by decide +kernel
theorem dX2_mayRise_29 : decode cX2_mayRise 29 = .ok (.aload_n 0, 1) := by decide +kernel
theorem dX2_mayRise_30 : decode cX2_mayRise 30 = .ok (.getfield 30, 3) := by decide +kernel
theorem dX2_mayRise_33 : decode cX2_mayRise 33 = .ok (.iload_n 1, 1) := by decide +kernel
theorem dX2_mayRise_34 : decode cX2_mayRise 34 = .ok (.iaload, 1) := by decide +kernel
theorem dX2_mayRise_35 : decode cX2_mayRise 35 = .ok (.iload_n 2, 1) := by decide +kernel
theorem dX2_mayRise_36 : decode cX2_mayRise 36 = .ok (.iand, 1) := by decide +kernel
theorem dX2_mayRise_37 : decode cX2_mayRise 37 = .ok (.ifCond .ne 7, 3) := by decide +kernel
theorem dX2_mayRise_40 : decode cX2_mayRise 40 = .ok (.iconst 1, 1) := by decide +kernel
theorem dX2_mayRise_41 : decode cX2_mayRise 41 = .ok (.goto 4, 3) := by decide +kernel
theorem dX2_mayRise_44 : decode cX2_mayRise 44 = .ok (.iconst 0, 1) := by decide +kernel
theorem dX2_mayRise_45 : decode cX2_mayRise 45 = .ok (.ireturn, 1) := by decide +kernel
set_option maxRecDepth 20000 in
theorem ggX2_mayBeLaid_X2_isUp : GoodIn wsX2_mayBeLaid wsX2_isUp := goodIn_r _ [8, 2, 9, 10, 11, 17, 18, 19, 20, 21, 22, 23, 24, 25] (by decide +kernel) (by decide +kernel)
set_option maxRecDepth 20000 in
theorem gX2_mayBeLaid_X2_isUp : GoodIn wsX2_mayBeLaid (wsV RX2 67 RX2 yX2_isUp wsX2_isUp) := goodIn_app (goodIn_of _ (by decide +kernel)) ggX2_mayBeLaid_X2_isUp
set_option maxRecDepth 20000 in
theorem ggX2_mayBeLaid_X2_lying : GoodIn wsX2_mayBeLaid wsX2_lying := goodIn_r _ [15, 16, 2, 17, 18, 19, 20, 21, 22, 23, 24, 25] (by decide +kernel) (by decide +kernel)
set_option maxRecDepth 20000 in
theorem gX2_mayBeLaid_X2_lying : GoodIn wsX2_mayBeLaid (wsV RX2 74 RX2 yX2_lying wsX2_lying) := goodIn_app (goodIn_of _ (by decide +kernel)) ggX2_mayBeLaid_X2_lying
theorem dX2_mayBeLaid_0 : decode cX2_mayBeLaid 0 = .ok (.aload_n 0, 1) := by decide +kernel
theorem dX2_mayBeLaid_1 : decode cX2_mayBeLaid 1 = .ok (.iload_n 1, 1) := by decide +kernel
theorem dX2_mayBeLaid_2 : decode cX2_mayBeLaid 2 = .ok (.invokevirtual 67, 3) := by decide +kernel
theorem dX2_mayBeLaid_5 : decode cX2_mayBeLaid 5 = .ok (.ifCond .eq 35, 3) := by decide +kernel
theorem dX2_mayBeLaid_8 : decode cX2_mayBeLaid 8 = .ok (.aload_n 0, 1) := by decide +kernel
theorem dX2_mayBeLaid_9 : decode cX2_mayBeLaid 9 = .ok (.getfield 30, 3) := by decide +kernel
theorem dX2_mayBeLaid_12 : decode cX2_mayBeLaid 12 = .ok (.iload_n 1, 1) := by decide +kernel
theorem dX2_mayBeLaid_13 : decode cX2_mayBeLaid 13 = .ok (.iaload, 1) := by decide +kernel
theorem dX2_mayBeLaid_14 : decode cX2_mayBeLaid 14 = .ok (.aload_n 0, 1) := by decide +kernel
theorem dX2_mayBeLaid_15 : decode cX2_mayBeLaid 15 = .ok (.getfield 37, 3) := by decide +kernel
theorem dX2_mayBeLaid_18 : decode cX2_mayBeLaid 18 = .ok (.iand, 1) := by decide +kernel
theorem dX2_mayBeLaid_19 : decode cX2_mayBeLaid 19 = .ok (.ifCond .ne 21, 3) := by decide +kernel
theorem dX2_mayBeLaid_22 : decode cX2_mayBeLaid 22 = .ok (.aload_n 0, 1) := by decide +kernel
theorem dX2_mayBeLaid_23 : decode cX2_mayBeLaid 23 = .ok (.getfield 27, 3) := by decide +kernel
theorem dX2_mayBeLaid_26 : decode cX2_mayBeLaid 26 = .ok (.iload_n 1, 1) := by decide +kernel
theorem dX2_mayBeLaid_27 : decode cX2_mayBeLaid 27 = .ok (.iaload, 1) := by decide +kernel
theorem dX2_mayBeLaid_28 : decode cX2_mayBeLaid 28 = .ok (.aload_n 0, 1) := by decide +kernel
theorem dX2_mayBeLaid_29 : decode cX2_mayBeLaid 29 = .ok (.invokevirtual 74, 3) := by decide +kernel
theorem dX2_mayBeLaid_32 : decode cX2_mayBeLaid 32 = .ok (.iand, 1) := by decide +kernel
theorem dX2_mayBeLaid_33 : decode cX2_mayBeLaid 33 = .ok (.ifCond .ne 7, 3) := by decide +kernel
theorem dX2_mayBeLaid_36 : decode cX2_mayBeLaid 36 = .ok (.iconst 1, 1) := by decide +kernel
theorem dX2_mayBeLaid_37 : decode cX2_mayBeLaid 37 = .ok (.goto 4, 3) := by decide +kernel
theorem dX2_mayBeLaid_40 : decode cX2_mayBeLaid 40 = .ok (.iconst 0, 1) := by decide +kernel
theorem dX2_mayBeLaid_41 : decode cX2_mayBeLaid 41 = .ok (.ireturn, 1) := by decide +kernel
set_option maxRecDepth 20000 in
theorem ggX2_nextOfOrder_X2_mayRise : GoodIn wsX2_nextOfOrder wsX2_mayRise := goodIn_r _ [6, 7, 8, 9, 10, 11, 12, 13, 14, 15, 16, 17, 18, 19, 20] (by decide +kernel) (by decide +kernel)
set_option maxRecDepth 20000 in
theorem gX2_nextOfOrder_X2_mayRise : GoodIn wsX2_nextOfOrder (wsV RX2 78 RX2 yX2_mayRise wsX2_mayRise) := goodIn_app (goodIn_of _ (by decide +kernel)) ggX2_nextOfOrder_X2_mayRise
theorem dX2_nextOfOrder_0 : decode cX2_nextOfOrder 0 = .ok (.iconst 0, 1) := by decide +kernel
theorem dX2_nextOfOrder_1 : decode cX2_nextOfOrder 1 = .ok (.istore_n 3, 1) := by decide +kernel
theorem dX2_nextOfOrder_2 : decode cX2_nextOfOrder 2 = .ok (.iload_n 3, 1) := by decide +kernel
theorem dX2_nextOfOrder_3 : decode cX2_nextOfOrder 3 = .ok (.aload_n 0, 1) := by decide +kernel
theorem dX2_nextOfOrder_4 : decode cX2_nextOfOrder 4 = .ok (.getfield 33, 3) := by decide +kernel
theorem dX2_nextOfOrder_7 : decode cX2_nextOfOrder 7 = .ok (.if_icmp .ge 21, 3) := by decide +kernel
theorem dX2_nextOfOrder_10 : decode cX2_nextOfOrder 10 = .ok (.aload_n 0, 1) := by decide +kernel
theorem dX2_nextOfOrder_11 : decode cX2_nextOfOrder 11 = .ok (.iload_n 3, 1) := by decide +kernel
theorem dX2_nextOfOrder_12 : decode cX2_nextOfOrder 12 = .ok (.iload_n 1, 1) := by decide +kernel
theorem dX2_nextOfOrder_13 : decode cX2_nextOfOrder 13 = .ok (.iload_n 2, 1) := by decide +kernel
theorem dX2_nextOfOrder_14 : decode cX2_nextOfOrder 14 = .ok (.invokevirtual 78, 3) := by decide +kernel
theorem dX2_nextOfOrder_17 : decode cX2_nextOfOrder 17 = .ok (.ifCond .eq 5, 3) := by decide +kernel
theorem dX2_nextOfOrder_20 : decode cX2_nextOfOrder 20 = .ok (.iload_n 3, 1) := by decide +kernel
theorem dX2_nextOfOrder_21 : decode cX2_nextOfOrder 21 = .ok (.ireturn, 1) := by decide +kernel
theorem dX2_nextOfOrder_22 : decode cX2_nextOfOrder 22 = .ok (.iinc 3 1, 3) := by decide +kernel
theorem dX2_nextOfOrder_25 : decode cX2_nextOfOrder 25 = .ok (.goto (-23), 3) := by decide +kernel
theorem dX2_nextOfOrder_28 : decode cX2_nextOfOrder 28 = .ok (.bipush (-9), 2) := by decide +kernel
theorem dX2_nextOfOrder_30 : decode cX2_nextOfOrder 30 = .ok (.ireturn, 1) := by decide +kernel
theorem dX3_init_0 : decode cX3_init 0 = .ok (.aload_n 0, 1) := by decide +kernel
theorem dX3_init_1 : decode cX3_init 1 = .ok (.invokespecial 3, 3) := by decide +kernel
theorem dX3_init_4 : decode cX3_init 4 = .ok (.aload_n 0, 1) := by decide +kernel
theorem dX3_init_5 : decode cX3_init 5 = .ok (.bipush 16, 2) := by decide +kernel
theorem dX3_init_7 : decode cX3_init 7 = .ok (.newarray .int, 2) := by decide +kernel
theorem dX3_init_9 : decode cX3_init 9 = .ok (.putfield 11, 3) := by decide +kernel
theorem dX3_init_12 : decode cX3_init 12 = .ok (.aload_n 0, 1) := by decide +kernel
theorem dX3_init_13 : decode cX3_init 13 = .ok (.bipush 16, 2) := by decide +kernel
theorem dX3_init_15 : decode cX3_init 15 = .ok (.newarray .int, 2) := by decide +kernel
theorem dX3_init_17 : decode cX3_init 17 = .ok (.putfield 15, 3) := by decide +kernel
theorem dX3_init_20 : decode cX3_init 20 = .ok (.aload_n 0, 1) := by decide +kernel
theorem dX3_init_21 : decode cX3_init 21 = .ok (.bipush 16, 2) := by decide +kernel
theorem dX3_init_23 : decode cX3_init 23 = .ok (.newarray .int, 2) := by decide +kernel
theorem dX3_init_25 : decode cX3_init 25 = .ok (.putfield 18, 3) := by decide +kernel
theorem dX3_init_28 : decode cX3_init 28 = .ok (.aload_n 0, 1) := by decide +kernel
theorem dX3_init_29 : decode cX3_init 29 = .ok (.bipush 16, 2) := by decide +kernel
theorem dX3_init_31 : decode cX3_init 31 = .ok (.newarray .int, 2) := by decide +kernel
theorem dX3_init_33 : decode cX3_init 33 = .ok (.putfield 21, 3) := by decide +kernel
theorem dX3_init_36 : decode cX3_init 36 = .ok (.aload_n 0, 1) := by decide +kernel
theorem dX3_init_37 : decode cX3_init 37 = .ok (.bipush 16, 2) := by decide +kernel
theorem dX3_init_39 : decode cX3_init 39 = .ok (.newarray .int, 2) := by decide +kernel
theorem dX3_init_41 : decode cX3_init 41 = .ok (.putfield 24, 3) := by decide +kernel
theorem dX3_init_44 : decode cX3_init 44 = .ok (.aload_n 0, 1) := by decide +kernel
theorem dX3_init_45 : decode cX3_init 45 = .ok (.iconst 0, 1) := by decide +kernel
theorem dX3_init_46 : decode cX3_init 46 = .ok (.putfield 27, 3) := by decide +kernel
theorem dX3_init_49 : decode cX3_init 49 = .ok (.aload_n 0, 1) := by decide +kernel
theorem dX3_init_50 : decode cX3_init 50 = .ok (.iconst 0, 1) := by decide +kernel
theorem dX3_init_51 : decode cX3_init 51 = .ok (.putfield 31, 3) := by decide +kernel
theorem dX3_init_54 : decode cX3_init 54 = .ok (.aload_n 0, 1) := by decide +kernel
theorem dX3_init_55 : decode cX3_init 55 = .ok (.iconst 0, 1) := by decide +kernel
theorem dX3_init_56 : decode cX3_init 56 = .ok (.putfield 34, 3) := by decide +kernel
theorem dX3_init_59 : decode cX3_init 59 = .ok (.return_, 1) := by decide +kernel
theorem dX3_has_0 : decode cX3_has 0 = .ok (.iload_n 1, 1) := by decide +kernel
theorem dX3_has_1 : decode cX3_has 1 = .ok (.ifCond .lt 15, 3) := by decide +kernel
theorem dX3_has_4 : decode cX3_has 4 = .ok (.iload_n 1, 1) := by decide +kernel
theorem dX3_has_5 : decode cX3_has 5 = .ok (.aload_n 0, 1) := by decide +kernel
theorem dX3_has_6 : decode cX3_has 6 = .ok (.getfield 34, 3) := by decide +kernel
theorem dX3_has_9 : decode cX3_has 9 = .ok (.if_icmp .ge 7, 3) := by decide +kernel
theorem dX3_has_12 : decode cX3_has 12 = .ok (.iconst 1, 1) := by decide +kernel
theorem dX3_has_13 : decode cX3_has 13 = .ok (.goto 4, 3) := by decide +kernel
theorem dX3_has_16 : decode cX3_has 16 = .ok (.iconst 0, 1) := by decide +kernel
theorem dX3_has_17 : decode cX3_has 17 = .ok (.ireturn, 1) := by decide +kernel
set_option maxRecDepth 20000 in
theorem ggX3_add_X3_haveInnerPointInCommon : GoodIn wsX3_add wsX3_haveInnerPointInCommon := goodIn_r _ [13, 2, 5, 4, 14, 15, 16, 12, 17, 18, 19, 20, 21, 22, 23, 24, 25, 26, 27, 28] (by decide +kernel) (by decide +kernel)
set_option maxRecDepth 20000 in
theorem gX3_add_X3_haveInnerPointInCommon : GoodIn wsX3_add (wsV RX3 37 RX3 yX3_haveInnerPointInCommon wsX3_haveInnerPointInCommon) := goodIn_app (goodIn_of _ (by decide +kernel)) ggX3_add_X3_haveInnerPointInCommon
theorem dX3_add_0 : decode cX3_add 0 = .ok (.aload_n 0, 1) := by decide +kernel
theorem dX3_add_1 : decode cX3_add 1 = .ok (.getfield 34, 3) := by decide +kernel
theorem dX3_add_4 : decode cX3_add 4 = .ok (.bipush 16, 2) := by decide +kernel
theorem dX3_add_6 : decode cX3_add 6 = .ok (.if_icmp .lt 6, 3) := by decide +kernel
theorem dX3_add_9 : decode cX3_add 9 = .ok (.bipush (-4), 2) := by decide +kernel
theorem dX3_add_11 : decode cX3_add 11 = .ok (.ireturn, 1) := by decide +kernel
theorem dX3_add_12 : decode cX3_add 12 = .ok (.aload_n 0, 1) := by decide +kernel
theorem dX3_add_13 : decode cX3_add 13 = .ok (.getfield 34, 3) := by decide +kernel
theorem dX3_add_16 : decode cX3_add 16 = .ok (.istore 6, 2) := by decide +kernel
theorem dX3_add_18 : decode cX3_add 18 = .ok (.aload_n 0, 1) := by decide +kernel
theorem dX3_add_19 : decode cX3_add 19 = .ok (.getfield 11, 3) := by decide +kernel
theorem dX3_add_22 : decode cX3_add 22 = .ok (.iload 6, 2) := by decide +kernel
theorem dX3_add_24 : decode cX3_add 24 = .ok (.iload_n 1, 1) := by decide +kernel
theorem dX3_add_25 : decode cX3_add 25 = .ok (.iastore, 1) := by decide +kernel
theorem dX3_add_26 : decode cX3_add 26 = .ok (.aload_n 0, 1) := by decide +kernel
theorem dX3_add_27 : decode cX3_add 27 = .ok (.getfield 15, 3) := by decide +kernel
theorem dX3_add_30 : decode cX3_add 30 = .ok (.iload 6, 2) := by decide +kernel
theorem dX3_add_32 : decode cX3_add 32 = .ok (.iload_n 2, 1) := by decide +kernel
theorem dX3_add_33 : decode cX3_add 33 = .ok (.iastore, 1) := by decide +kernel
theorem dX3_add_34 : decode cX3_add 34 = .ok (.aload_n 0, 1) := by decide +kernel
theorem dX3_add_35 : decode cX3_add 35 = .ok (.getfield 18, 3) := by decide +kernel
theorem dX3_add_38 : decode cX3_add 38 = .ok (.iload 6, 2) := by decide +kernel
theorem dX3_add_40 : decode cX3_add 40 = .ok (.iload_n 3, 1) := by decide +kernel
theorem dX3_add_41 : decode cX3_add 41 = .ok (.iastore, 1) := by decide +kernel
theorem dX3_add_42 : decode cX3_add 42 = .ok (.aload_n 0, 1) := by decide +kernel
theorem dX3_add_43 : decode cX3_add 43 = .ok (.getfield 21, 3) := by decide +kernel
theorem dX3_add_46 : decode cX3_add 46 = .ok (.iload 6, 2) := by decide +kernel
theorem dX3_add_48 : decode cX3_add 48 = .ok (.iload 4, 2) := by decide +kernel
theorem dX3_add_50 : decode cX3_add 50 = .ok (.iastore, 1) := by decide +kernel
theorem dX3_add_51 : decode cX3_add 51 = .ok (.iconst 0, 1) := by decide +kernel
theorem dX3_add_52 : decode cX3_add 52 = .ok (.istore 7, 2) := by decide +kernel
theorem dX3_add_54 : decode cX3_add 54 = .ok (.iload 7, 2) := by decide +kernel
theorem dX3_add_56 : decode cX3_add 56 = .ok (.iload 6, 2) := by decide +kernel
theorem dX3_add_58 : decode cX3_add 58 = .ok (.if_icmp .ge 48, 3) := by decide +kernel
theorem dX3_add_61 : decode cX3_add 61 = .ok (.aload_n 0, 1) := by decide +kernel
theorem dX3_add_62 : decode cX3_add 62 = .ok (.iload 7, 2) := by decide +kernel
theorem dX3_add_64 : decode cX3_add 64 = .ok (.iload 6, 2) := by decide +kernel
theorem dX3_add_66 : decode cX3_add 66 = .ok (.invokevirtual 37, 3) := by decide +kernel
theorem dX3_add_69 : decode cX3_add 69 = .ok (.ifCond .eq 31, 3) := by decide +kernel
theorem dX3_add_72 : decode cX3_add 72 = .ok (.aload_n 0, 1) := by decide +kernel
theorem dX3_add_73 : decode cX3_add 73 = .ok (.getfield 24, 3) := by decide +kernel
theorem dX3_add_76 : decode cX3_add 76 = .ok (.iload 7, 2) := by decide +kernel
theorem dX3_add_78 : decode cX3_add 78 = .ok (.dup2, 1) := by decide +kernel
theorem dX3_add_79 : decode cX3_add 79 = .ok (.iaload, 1) := by decide +kernel
theorem dX3_add_80 : decode cX3_add 80 = .ok (.iconst 1, 1) := by decide +kernel
theorem dX3_add_81 : decode cX3_add 81 = .ok (.iload 6, 2) := by decide +kernel
theorem dX3_add_83 : decode cX3_add 83 = .ok (.ishl, 1) := by decide +kernel
theorem dX3_add_84 : decode cX3_add 84 = .ok (.ior, 1) := by decide +kernel
theorem dX3_add_85 : decode cX3_add 85 = .ok (.iastore, 1) := by decide +kernel
theorem dX3_add_86 : decode cX3_add 86 = .ok (.aload_n 0, 1) := by decide +kernel
theorem dX3_add_87 : decode cX3_add 87 = .ok (.getfield 24, 3) := by decide +kernel
theorem dX3_add_90 : decode cX3_add 90 = .ok (.iload 6, 2) := by decide +kernel
theorem dX3_add_92 : decode cX3_add 92 = .ok (.dup2, 1) := by decide +kernel
theorem dX3_add_93 : decode cX3_add 93 = .ok (.iaload, 1) := by decide +kernel
theorem dX3_add_94 : decode cX3_add 94 = .ok (.iconst 1, 1) := by decide +kernel
theorem dX3_add_95 : decode cX3_add 95 = .ok (.iload 7, 2) := by decide +kernel
theorem dX3_add_97 : decode cX3_add 97 = .ok (.ishl, 1) := by decide +kernel
theorem dX3_add_98 : decode cX3_add 98 = .ok (.ior, 1) := by decide +kernel
theorem dX3_add_99 : decode cX3_add 99 = .ok (.iastore, 1) := by decide +kernel
theorem dX3_add_100 : decode cX3_add 100 = .ok (.iinc 7 1, 3) := by decide +kernel
theorem dX3_add_103 : decode cX3_add 103 = .ok (.goto (-49), 3) := by decide +kernel
theorem dX3_add_106 : decode cX3_add 106 = .ok (.aload_n 0, 1) := by decide +kernel
theorem dX3_add_107 : decode cX3_add 107 = .ok (.dup, 1) := by decide +kernel
theorem dX3_add_108 : decode cX3_add 108 = .ok (.getfield 31, 3) := by decide +kernel
theorem dX3_add_111 : decode cX3_add 111 = .ok (.iconst 1, 1) := by decide +kernel
theorem dX3_add_112 : decode cX3_add 112 = .ok (.iload 6, 2) := by decide +kernel
theorem dX3_add_114 : decode cX3_add 114 = .ok (.ishl, 1) := by decide +kernel
theorem dX3_add_115 : decode cX3_add 115 = .ok (.ior, 1) := by decide +kernel
theorem dX3_add_116 : decode cX3_add 116 = .ok (.putfield 31, 3) := by decide +kernel
theorem dX3_add_119 : decode cX3_add 119 = .ok (.iload 5, 2) := by decide +kernel
theorem dX3_add_121 : decode cX3_add 121 = .ok (.ifCond .eq 16, 3) := by decide +kernel
theorem dX3_add_124 : decode cX3_add 124 = .ok (.aload_n 0, 1) := by decide +kernel
theorem dX3_add_125 : decode cX3_add 125 = .ok (.dup, 1) := by decide +kernel
theorem dX3_add_126 : decode cX3_add 126 = .ok (.getfield 27, 3) := by decide +kernel
theorem dX3_add_129 : decode cX3_add 129 = .ok (.iconst 1, 1) := by decide +kernel
theorem dX3_add_130 : decode cX3_add 130 = .ok (.iload 6, 2) := by decide +kernel
theorem dX3_add_132 : decode cX3_add 132 = .ok (.ishl, 1) := by decide +kernel
theorem dX3_add_133 : decode cX3_add 133 = .ok (.ior, 1) := by decide +kernel
theorem dX3_add_134 : decode cX3_add 134 = .ok (.putfield 27, 3) := by decide +kernel
theorem dX3_add_137 : decode cX3_add 137 = .ok (.aload_n 0, 1) := by decide +kernel
theorem dX3_add_138 : decode cX3_add 138 = .ok (.dup, 1) := by decide +kernel
theorem dX3_add_139 : decode cX3_add 139 = .ok (.getfield 34, 3) := by decide +kernel
theorem dX3_add_142 : decode cX3_add 142 = .ok (.iconst 1, 1) := by decide +kernel
theorem dX3_add_143 : decode cX3_add 143 = .ok (.iadd, 1) := by decide +kernel
theorem dX3_add_144 : decode cX3_add 144 = .ok (.putfield 34, 3) := by decide +kernel
theorem dX3_add_147 : decode cX3_add 147 = .ok (.iload 6, 2) := by decide +kernel
theorem dX3_add_149 : decode cX3_add 149 = .ok (.ireturn, 1) := by decide +kernel
set_option maxRecDepth 20000 in
theorem ggX3_haveInnerPointInCommon_X3_sideOf : GoodIn wsX3_haveInnerPointInCommon wsX3_sideOf := goodIn_r _ [8, 2, 1, 3, 12, 13, 14, 15, 16, 17, 18, 19] (by decide +kernel) (by decide +kernel)
set_option maxRecDepth 20000 in
theorem gX3_haveInnerPointInCommon_X3_sideOf : GoodIn wsX3_haveInnerPointInCommon (wsV RX3 41 RX3 yX3_sideOf wsX3_sideOf) := goodIn_app (goodIn_of _ (by decide +kernel)) ggX3_haveInnerPointInCommon_X3_sideOf
set_option maxRecDepth 20000 in
theorem ggX3_haveInnerPointInCommon_X3_areApart : GoodIn wsX3_haveInnerPointInCommon wsX3_areApart := goodIn_r _ [11] (by decide +kernel) (by decide +kernel)
set_option maxRecDepth 20000 in
theorem gX3_haveInnerPointInCommon_X3_areApart : GoodIn wsX3_haveInnerPointInCommon (va_wsS RX3 45 yX3_areApart wsX3_areApart) := goodIn_app (goodIn_of _ (by decide +kernel)) ggX3_haveInnerPointInCommon_X3_areApart
theorem dX3_haveInnerPointInCommon_0 : decode cX3_haveInnerPointInCommon 0 = .ok (.aload_n 0, 1) := by decide +kernel
theorem dX3_haveInnerPointInCommon_1 : decode cX3_haveInnerPointInCommon 1 = .ok (.iload_n 1, 1) := by decide +kernel
theorem dX3_haveInnerPointInCommon_2 : decode cX3_haveInnerPointInCommon 2 = .ok (.aload_n 0, 1) := by decide +kernel
theorem dX3_haveInnerPointInCommon_3 : decode cX3_haveInnerPointInCommon 3 = .ok (.getfield 11, 3) := by decide +kernel
theorem dX3_haveInnerPointInCommon_6 : decode cX3_haveInnerPointInCommon 6 = .ok (.iload_n 2, 1) := by decide +kernel
theorem dX3_haveInnerPointInCommon_7 : decode cX3_haveInnerPointInCommon 7 = .ok (.iaload, 1) := by decide +kernel
theorem dX3_haveInnerPointInCommon_8 : decode cX3_haveInnerPointInCommon 8 = .ok (.iconst 0, 1) := by decide +kernel
theorem dX3_haveInnerPointInCommon_9 : decode cX3_haveInnerPointInCommon 9 = .ok (.invokevirtual 41, 3) := by decide +kernel
theorem dX3_haveInnerPointInCommon_12 : decode cX3_haveInnerPointInCommon 12 = .ok (.istore_n 3, 1) := by decide +kernel
theorem dX3_haveInnerPointInCommon_13 : decode cX3_haveInnerPointInCommon 13 = .ok (.aload_n 0, 1) := by decide +kernel
theorem dX3_haveInnerPointInCommon_14 : decode cX3_haveInnerPointInCommon 14 = .ok (.iload_n 1, 1) := by decide +kernel
theorem dX3_haveInnerPointInCommon_15 : decode cX3_haveInnerPointInCommon 15 = .ok (.aload_n 0, 1) := by decide +kernel
theorem dX3_haveInnerPointInCommon_16 : decode cX3_haveInnerPointInCommon 16 = .ok (.getfield 21, 3) := by decide +kernel
theorem dX3_haveInnerPointInCommon_19 : decode cX3_haveInnerPointInCommon 19 = .ok (.iload_n 2, 1) := by decide +kernel
theorem dX3_haveInnerPointInCommon_20 : decode cX3_haveInnerPointInCommon 20 = .ok (.iaload, 1) := by decide +kernel
theorem dX3_haveInnerPointInCommon_21 : decode cX3_haveInnerPointInCommon 21 = .ok (.aload_n 0, 1) := by decide +kernel
theorem dX3_haveInnerPointInCommon_22 : decode cX3_haveInnerPointInCommon 22 = .ok (.getfield 18, 3) := by decide +kernel
theorem dX3_haveInnerPointInCommon_25 : decode cX3_haveInnerPointInCommon 25 = .ok (.iload_n 2, 1) := by decide +kernel
theorem dX3_haveInnerPointInCommon_26 : decode cX3_haveInnerPointInCommon 26 = .ok (.iaload, 1) := by decide +kernel
theorem dX3_haveInnerPointInCommon_27 : decode cX3_haveInnerPointInCommon 27 = .ok (.invokevirtual 41, 3) := by decide +kernel
theorem dX3_haveInnerPointInCommon_30 : decode cX3_haveInnerPointInCommon 30 = .ok (.istore 4, 2) := by decide +kernel
theorem dX3_haveInnerPointInCommon_32 : decode cX3_haveInnerPointInCommon 32 = .ok (.iload_n 3, 1) := by decide +kernel
theorem dX3_haveInnerPointInCommon_33 : decode cX3_haveInnerPointInCommon 33 = .ok (.ifCond .ne 10, 3) := by decide +kernel
theorem dX3_haveInnerPointInCommon_36 : decode cX3_haveInnerPointInCommon 36 = .ok (.iload 4, 2) := by decide +kernel
theorem dX3_haveInnerPointInCommon_38 : decode cX3_haveInnerPointInCommon 38 = .ok (.ifCond .ne 5, 3) := by decide +kernel
theorem dX3_haveInnerPointInCommon_41 : decode cX3_haveInnerPointInCommon 41 = .ok (.iconst 1, 1) := by decide +kernel
theorem dX3_haveInnerPointInCommon_42 : decode cX3_haveInnerPointInCommon 42 = .ok (.ireturn, 1) := by decide +kernel
theorem dX3_haveInnerPointInCommon_43 : decode cX3_haveInnerPointInCommon 43 = .ok (.iload_n 3, 1) := by decide +kernel
theorem dX3_haveInnerPointInCommon_44 : decode cX3_haveInnerPointInCommon 44 = .ok (.iload 4, 2) := by decide +kernel
theorem dX3_haveInnerPointInCommon_46 : decode cX3_haveInnerPointInCommon 46 = .ok (.invokestatic 45, 3) := by decide +kernel
theorem dX3_haveInnerPointInCommon_49 : decode cX3_haveInnerPointInCommon 49 = .ok (.ifCond .eq 42, 3) := by decide +kernel
theorem dX3_haveInnerPointInCommon_52 : decode cX3_haveInnerPointInCommon 52 = .ok (.aload_n 0, 1) := by decide +kernel
theorem dX3_haveInnerPointInCommon_53 : decode cX3_haveInnerPointInCommon 53 = .ok (.iload_n 2, 1) := by decide +kernel
theorem dX3_haveInnerPointInCommon_54 : decode cX3_haveInnerPointInCommon 54 = .ok (.aload_n 0, 1) := by decide +kernel
theorem dX3_haveInnerPointInCommon_55 : decode cX3_haveInnerPointInCommon 55 = .ok (.getfield 11, 3) := by decide +kernel
theorem dX3_haveInnerPointInCommon_58 : decode cX3_haveInnerPointInCommon 58 = .ok (.iload_n 1, 1) := by decide +kernel
theorem dX3_haveInnerPointInCommon_59 : decode cX3_haveInnerPointInCommon 59 = .ok (.iaload, 1) := by decide +kernel
theorem dX3_haveInnerPointInCommon_60 : decode cX3_haveInnerPointInCommon 60 = .ok (.iconst 0, 1) := by decide +kernel
theorem dX3_haveInnerPointInCommon_61 : decode cX3_haveInnerPointInCommon 61 = .ok (.invokevirtual 41, 3) := by decide +kernel
theorem dX3_haveInnerPointInCommon_64 : decode cX3_haveInnerPointInCommon 64 = .ok (.aload_n 0, 1) := by decide +kernel
theorem dX3_haveInnerPointInCommon_65 : decode cX3_haveInnerPointInCommon 65 = .ok (.iload_n 2, 1) := by decide +kernel
theorem dX3_haveInnerPointInCommon_66 : decode cX3_haveInnerPointInCommon 66 = .ok (.aload_n 0, 1) := by decide +kernel
theorem dX3_haveInnerPointInCommon_67 : decode cX3_haveInnerPointInCommon 67 = .ok (.getfield 21, 3) := by decide +kernel
theorem dX3_haveInnerPointInCommon_70 : decode cX3_haveInnerPointInCommon 70 = .ok (.iload_n 1, 1) := by decide +kernel
theorem dX3_haveInnerPointInCommon_71 : decode cX3_haveInnerPointInCommon 71 = .ok (.iaload, 1) := by decide +kernel
theorem dX3_haveInnerPointInCommon_72 : decode cX3_haveInnerPointInCommon 72 = .ok (.aload_n 0, 1) := by decide +kernel
theorem dX3_haveInnerPointInCommon_73 : decode cX3_haveInnerPointInCommon 73 = .ok (.getfield 18, 3) := by decide +kernel
theorem dX3_haveInnerPointInCommon_76 : decode cX3_haveInnerPointInCommon 76 = .ok (.iload_n 1, 1) := by decide +kernel
theorem dX3_haveInnerPointInCommon_77 : decode cX3_haveInnerPointInCommon 77 = .ok (.iaload, 1) := by decide +kernel
theorem dX3_haveInnerPointInCommon_78 : decode cX3_haveInnerPointInCommon 78 = .ok (.invokevirtual 41, 3) := by decide +kernel
theorem dX3_haveInnerPointInCommon_81 : decode cX3_haveInnerPointInCommon 81 = .ok (.invokestatic 45, 3) := by decide +kernel
theorem dX3_haveInnerPointInCommon_84 : decode cX3_haveInnerPointInCommon 84 = .ok (.ifCond .eq 7, 3) := by decide +kernel
theorem dX3_haveInnerPointInCommon_87 : decode cX3_haveInnerPointInCommon 87 = .ok (.iconst 1, 1) := by decide +kernel
theorem dX3_haveInnerPointInCommon_88 : decode cX3_haveInnerPointInCommon 88 = .ok (.goto 4, 3) := by decide +kernel
theorem dX3_haveInnerPointInCommon_91 : decode cX3_haveInnerPointInCommon 91 = .ok (.iconst 0, 1) := by decide +kernel
theorem dX3_haveInnerPointInCommon_92 : decode cX3_haveInnerPointInCommon 92 = .ok (.ireturn, 1) := by decide +kernel
theorem dX3_sideOf_0 : decode cX3_sideOf 0 = .ok (.aload_n 0, 1) := by decide +kernel
theorem dX3_sideOf_1 : decode cX3_sideOf 1 = .ok (.getfield 21, 3) := by decide +kernel
theorem dX3_sideOf_4 : decode cX3_sideOf 4 = .ok (.iload_n 1, 1) := by decide +kernel
theorem dX3_sideOf_5 : decode cX3_sideOf 5 = .ok (.iaload, 1) := by decide +kernel
theorem dX3_sideOf_6 : decode cX3_sideOf 6 = .ok (.aload_n 0, 1) := by decide +kernel
theorem dX3_sideOf_7 : decode cX3_sideOf 7 = .ok (.getfield 11, 3) := by decide +kernel
theorem dX3_sideOf_10 : decode cX3_sideOf 10 = .ok (.iload_n 1, 1) := by decide +kernel
theorem dX3_sideOf_11 : decode cX3_sideOf 11 = .ok (.iaload, 1) := by decide +kernel
theorem dX3_sideOf_12 : decode cX3_sideOf 12 = .ok (.isub, 1) := by decide +kernel
theorem dX3_sideOf_13 : decode cX3_sideOf 13 = .ok (.iload_n 3, 1) := by decide +kernel
theorem dX3_sideOf_14 : decode cX3_sideOf 14 = .ok (.imul, 1) := by decide +kernel
theorem dX3_sideOf_15 : decode cX3_sideOf 15 = .ok (.aload_n 0, 1) := by decide +kernel
theorem dX3_sideOf_16 : decode cX3_sideOf 16 = .ok (.getfield 18, 3) := by decide +kernel
theorem dX3_sideOf_19 : decode cX3_sideOf 19 = .ok (.iload_n 1, 1) := by decide +kernel
theorem dX3_sideOf_20 : decode cX3_sideOf 20 = .ok (.iaload, 1) := by decide +kernel
theorem dX3_sideOf_21 : decode cX3_sideOf 21 = .ok (.iload_n 2, 1) := by decide +kernel
theorem dX3_sideOf_22 : decode cX3_sideOf 22 = .ok (.aload_n 0, 1) := by decide +kernel
theorem dX3_sideOf_23 : decode cX3_sideOf 23 = .ok (.getfield 11, 3) := by decide +kernel
theorem dX3_sideOf_26 : decode cX3_sideOf 26 = .ok (.iload_n 1, 1) := by decide +kernel
theorem dX3_sideOf_27 : decode cX3_sideOf 27 = .ok (.iaload, 1) := by decide +kernel
theorem dX3_sideOf_28 : decode cX3_sideOf 28 = .ok (.isub, 1) := by decide +kernel
theorem dX3_sideOf_29 : decode cX3_sideOf 29 = .ok (.imul, 1) := by decide +kernel
theorem dX3_sideOf_30 : decode cX3_sideOf 30 = .ok (.isub, 1) := by decide +kernel
theorem dX3_sideOf_31 : decode cX3_sideOf 31 = .ok (.ireturn, 1) := by decide +kernel
theorem dX3_areApart_0 : decode cX3_areApart 0 = .ok (.iload_n 0, 1) := by decide +kernel
theorem dX3_areApart_1 : decode cX3_areApart 1 = .ok (.ifCond .ge 7, 3) := by decide +kernel
theorem dX3_areApart_4 : decode cX3_areApart 4 = .ok (.iload_n 1, 1) := by decide +kernel
theorem dX3_areApart_5 : decode cX3_areApart 5 = .ok (.ifCond .gt 11, 3) := by decide +kernel
theorem dX3_areApart_8 : decode cX3_areApart 8 = .ok (.iload_n 0, 1) := by decide +kernel
theorem dX3_areApart_9 : decode cX3_areApart 9 = .ok (.ifCond .le 11, 3) := by decide +kernel
theorem dX3_areApart_12 : decode cX3_areApart 12 = .ok (.iload_n 1, 1) := by decide +kernel
theorem dX3_areApart_13 : decode cX3_areApart 13 = .ok (.ifCond .ge 7, 3) := by decide +kernel
theorem dX3_areApart_16 : decode cX3_areApart 16 = .ok (.iconst 1, 1) := by decide +kernel
theorem dX3_areApart_17 : decode cX3_areApart 17 = .ok (.goto 4, 3) := by decide +kernel
theorem dX3_areApart_20 : decode cX3_areApart 20 = .ok (.iconst 0, 1) := by decide +kernel
theorem dX3_areApart_21 : decode cX3_areApart 21 = .ok (.ireturn, 1) := by decide +kernel
theorem dX3_raising_0 : decode cX3_raising 0 = .ok (.aload_n 0, 1) := by decide +kernel
theorem dX3_raising_1 : decode cX3_raising 1 = .ok (.getfield 31, 3) := by decide +kernel
theorem dX3_raising_4 : decode cX3_raising 4 = .ok (.aload_n 0, 1) := by decide +kernel
theorem dX3_raising_5 : decode cX3_raising 5 = .ok (.getfield 27, 3) := by decide +kernel
theorem dX3_raising_8 : decode cX3_raising 8 = .ok (.iand, 1) := by decide +kernel
theorem dX3_raising_9 : decode cX3_raising 9 = .ok (.ireturn, 1) := by decide +kernel
set_option maxRecDepth 20000 in
theorem ggX3_raisersOf_X3_raising : GoodIn wsX3_raisersOf wsX3_raising := goodIn_r _ [7, 8, 9, 10, 11, 12, 13, 14, 15, 16, 17] (by decide +kernel) (by decide +kernel)
set_option maxRecDepth 20000 in
theorem gX3_raisersOf_X3_raising : GoodIn wsX3_raisersOf (wsV RX3 48 RX3 yX3_raising wsX3_raising) := goodIn_app (goodIn_of _ (by decide +kernel)) ggX3_raisersOf_X3_raising
theorem dX3_raisersOf_0 : decode cX3_raisersOf 0 = .ok (.iconst 0, 1) := by decide +kernel
theorem dX3_raisersOf_1 : decode cX3_raisersOf 1 = .ok (.istore_n 2, 1) := by decide +kernel
theorem dX3_raisersOf_2 : decode cX3_raisersOf 2 = .ok (.iconst 0, 1) := by decide +kernel
theorem dX3_raisersOf_3 : decode cX3_raisersOf 3 = .ok (.istore_n 3, 1) := by decide +kernel
theorem dX3_raisersOf_4 : decode cX3_raisersOf 4 = .ok (.iload_n 3, 1) := by decide +kernel
theorem dX3_raisersOf_5 : decode cX3_raisersOf 5 = .ok (.aload_n 0, 1) := by decide +kernel
theorem dX3_raisersOf_6 : decode cX3_raisersOf 6 = .ok (.getfield 34, 3) := by decide +kernel
theorem dX3_raisersOf_9 : decode cX3_raisersOf 9 = .ok (.if_icmp .ge 25, 3) := by decide +kernel
theorem dX3_raisersOf_12 : decode cX3_raisersOf 12 = .ok (.aload_n 0, 1) := by decide +kernel
theorem dX3_raisersOf_13 : decode cX3_raisersOf 13 = .ok (.getfield 15, 3) := by decide +kernel
theorem dX3_raisersOf_16 : decode cX3_raisersOf 16 = .ok (.iload_n 3, 1) := by decide +kernel
theorem dX3_raisersOf_17 : decode cX3_raisersOf 17 = .ok (.iaload, 1) := by decide +kernel
theorem dX3_raisersOf_18 : decode cX3_raisersOf 18 = .ok (.iload_n 1, 1) := by decide +kernel
theorem dX3_raisersOf_19 : decode cX3_raisersOf 19 = .ok (.if_icmp .ne 9, 3) := by decide +kernel
theorem dX3_raisersOf_22 : decode cX3_raisersOf 22 = .ok (.iload_n 2, 1) := by decide +kernel
theorem dX3_raisersOf_23 : decode cX3_raisersOf 23 = .ok (.iconst 1, 1) := by decide +kernel
theorem dX3_raisersOf_24 : decode cX3_raisersOf 24 = .ok (.iload_n 3, 1) := by decide +kernel
theorem dX3_raisersOf_25 : decode cX3_raisersOf 25 = .ok (.ishl, 1) := by decide +kernel
theorem dX3_raisersOf_26 : decode cX3_raisersOf 26 = .ok (.ior, 1) := by decide +kernel
theorem dX3_raisersOf_27 : decode cX3_raisersOf 27 = .ok (.istore_n 2, 1) := by decide +kernel
theorem dX3_raisersOf_28 : decode cX3_raisersOf 28 = .ok (.iinc 3 1, 3) := by decide +kernel
theorem dX3_raisersOf_31 : decode cX3_raisersOf 31 = .ok (.goto (-27), 3) := by decide +kernel
theorem dX3_raisersOf_34 : decode cX3_raisersOf 34 = .ok (.iload_n 2, 1) := by decide +kernel
theorem dX3_raisersOf_35 : decode cX3_raisersOf 35 = .ok (.aload_n 0, 1) := by decide +kernel
theorem dX3_raisersOf_36 : decode cX3_raisersOf 36 = .ok (.invokevirtual 48, 3) := by decide +kernel
theorem dX3_raisersOf_39 : decode cX3_raisersOf 39 = .ok (.iand, 1) := by decide +kernel
theorem dX3_raisersOf_40 : decode cX3_raisersOf 40 = .ok (.ireturn, 1) := by decide +kernel
set_option maxRecDepth 20000 in
theorem ggX3_raised_X3_raising : GoodIn wsX3_raised wsX3_raising := goodIn_r _ [7, 8, 9, 13, 14, 15, 16, 17, 18, 19, 20] (by decide +kernel) (by decide +kernel)
set_option maxRecDepth 20000 in
theorem gX3_raised_X3_raising : GoodIn wsX3_raised (wsV RX3 48 RX3 yX3_raising wsX3_raising) := goodIn_app (goodIn_of _ (by decide +kernel)) ggX3_raised_X3_raising
set_option maxRecDepth 20000 in
theorem ggX3_raised_X4_isIn : GoodIn wsX3_raised wsX4_isIn := goodIn_r _ [12] (by decide +kernel) (by decide +kernel)
set_option maxRecDepth 20000 in
theorem gX3_raised_X4_isIn_n52 : GoodIn wsX3_raised (wsX4_isIn) := ggX3_raised_X4_isIn
theorem dX3_raised_0 : decode cX3_raised 0 = .ok (.iconst 0, 1) := by decide +kernel
theorem dX3_raised_1 : decode cX3_raised 1 = .ok (.istore_n 1, 1) := by decide +kernel
theorem dX3_raised_2 : decode cX3_raised 2 = .ok (.iconst 0, 1) := by decide +kernel
theorem dX3_raised_3 : decode cX3_raised 3 = .ok (.istore_n 2, 1) := by decide +kernel
theorem dX3_raised_4 : decode cX3_raised 4 = .ok (.iload_n 2, 1) := by decide +kernel
theorem dX3_raised_5 : decode cX3_raised 5 = .ok (.aload_n 0, 1) := by decide +kernel
theorem dX3_raised_6 : decode cX3_raised 6 = .ok (.getfield 34, 3) := by decide +kernel
theorem dX3_raised_9 : decode cX3_raised 9 = .ok (.if_icmp .ge 31, 3) := by decide +kernel
theorem dX3_raised_12 : decode cX3_raised 12 = .ok (.aload_n 0, 1) := by decide +kernel
theorem dX3_raised_13 : decode cX3_raised 13 = .ok (.invokevirtual 48, 3) := by decide +kernel
theorem dX3_raised_16 : decode cX3_raised 16 = .ok (.iload_n 2, 1) := by decide +kernel
theorem dX3_raised_17 : decode cX3_raised 17 = .ok (.invokestatic 52, 3) := by decide +kernel
theorem dX3_raised_20 : decode cX3_raised 20 = .ok (.ifCond .eq 14, 3) := by decide +kernel
theorem dX3_raised_23 : decode cX3_raised 23 = .ok (.iload_n 1, 1) := by decide +kernel
theorem dX3_raised_24 : decode cX3_raised 24 = .ok (.iconst 1, 1) := by decide +kernel
theorem dX3_raised_25 : decode cX3_raised 25 = .ok (.aload_n 0, 1) := by decide +kernel
theorem dX3_raised_26 : decode cX3_raised 26 = .ok (.getfield 15, 3) := by decide +kernel
theorem dX3_raised_29 : decode cX3_raised 29 = .ok (.iload_n 2, 1) := by decide +kernel
theorem dX3_raised_30 : decode cX3_raised 30 = .ok (.iaload, 1) := by decide +kernel
theorem dX3_raised_31 : decode cX3_raised 31 = .ok (.ishl, 1) := by decide +kernel
theorem dX3_raised_32 : decode cX3_raised 32 = .ok (.ior, 1) := by decide +kernel
theorem dX3_raised_33 : decode cX3_raised 33 = .ok (.istore_n 1, 1) := by decide +kernel
theorem dX3_raised_34 : decode cX3_raised 34 = .ok (.iinc 2 1, 3) := by decide +kernel
theorem dX3_raised_37 : decode cX3_raised 37 = .ok (.goto (-33), 3) := by decide +kernel
theorem dX3_raised_40 : decode cX3_raised 40 = .ok (.iload_n 1, 1) := by decide +kernel
theorem dX3_raised_41 : decode cX3_raised 41 = .ok (.ireturn, 1) := by decide +kernel
theorem dX3_greatestHole_0 : decode cX3_greatestHole 0 = .ok (.bipush (-20), 2) := by decide +kernel
theorem dX3_greatestHole_2 : decode cX3_greatestHole 2 = .ok (.istore_n 1, 1) := by decide +kernel
theorem dX3_greatestHole_3 : decode cX3_greatestHole 3 = .ok (.iconst 0, 1) := by decide +kernel
theorem dX3_greatestHole_4 : decode cX3_greatestHole 4 = .ok (.istore_n 2, 1) := by decide +kernel
theorem dX3_greatestHole_5 : decode cX3_greatestHole 5 = .ok (.iload_n 2, 1) := by decide +kernel
theorem dX3_greatestHole_6 : decode cX3_greatestHole 6 = .ok (.aload_n 0, 1) := by decide +kernel
theorem dX3_greatestHole_7 : decode cX3_greatestHole 7 = .ok (.getfield 34, 3) := by decide +kernel
theorem dX3_greatestHole_10 : decode cX3_greatestHole 10 = .ok (.if_icmp .ge 20, 3) := by decide +kernel
theorem dX3_greatestHole_13 : decode cX3_greatestHole 13 = .ok (.iload_n 1, 1) := by decide +kernel
theorem dX3_greatestHole_14 : decode cX3_greatestHole 14 = .ok (.aload_n 0, 1) := by decide +kernel
theorem dX3_greatestHole_15 : decode cX3_greatestHole 15 = .ok (.getfield 11, 3) := by decide +kernel
theorem dX3_greatestHole_18 : decode cX3_greatestHole 18 = .ok (.iload_n 2, 1) := by decide +kernel
theorem dX3_greatestHole_19 : decode cX3_greatestHole 19 = .ok (.iaload, 1) := by decide +kernel
theorem dX3_greatestHole_20 : decode cX3_greatestHole 20 = .ok (.invokestatic 55, 3) := by decide +kernel
theorem dX3_greatestHole_23 : decode cX3_greatestHole 23 = .ok (.istore_n 1, 1) := by decide +kernel
theorem dX3_greatestHole_24 : decode cX3_greatestHole 24 = .ok (.iinc 2 1, 3) := by decide +kernel
theorem dX3_greatestHole_27 : decode cX3_greatestHole 27 = .ok (.goto (-22), 3) := by decide +kernel
theorem dX3_greatestHole_30 : decode cX3_greatestHole 30 = .ok (.iload_n 1, 1) := by decide +kernel
theorem dX3_greatestHole_31 : decode cX3_greatestHole 31 = .ok (.ireturn, 1) := by decide +kernel
set_option maxRecDepth 20000 in
theorem ggX3_wholePairsThatCross_X4_isIn : GoodIn wsX3_wholePairsThatCross wsX4_isIn := goodIn_r _ [6] (by decide +kernel) (by decide +kernel)
set_option maxRecDepth 20000 in
theorem gX3_wholePairsThatCross_X4_isIn_n52 : GoodIn wsX3_wholePairsThatCross (wsX4_isIn) := ggX3_wholePairsThatCross_X4_isIn
set_option maxRecDepth 20000 in
theorem ggX3_wholePairsThatCross_J6_bitCount_0f7a4 : GoodIn wsX3_wholePairsThatCross wsJ6_bitCount_0f7a4 := goodIn_r _ [10, 11, 12, 13] (by decide +kernel) (by decide +kernel)
set_option maxRecDepth 20000 in
theorem gX3_wholePairsThatCross_J6_bitCount_0f7a4 : GoodIn wsX3_wholePairsThatCross (va_wsS RX3 61 yJ6_bitCount_0f7a4 wsJ6_bitCount_0f7a4) := goodIn_app (goodIn_of _ (by decide +kernel)) ggX3_wholePairsThatCross_J6_bitCount_0f7a4
theorem dX3_wholePairsThatCross_0 : decode cX3_wholePairsThatCross 0 = .ok (.iconst 0, 1) := by decide +kernel
theorem dX3_wholePairsThatCross_1 : decode cX3_wholePairsThatCross 1 = .ok (.istore_n 1, 1) := by decide +kernel
theorem dX3_wholePairsThatCross_2 : decode cX3_wholePairsThatCross 2 = .ok (.iconst 0, 1) := by decide +kernel
theorem dX3_wholePairsThatCross_3 : decode cX3_wholePairsThatCross 3 = .ok (.istore_n 2, 1) := by decide +kernel
theorem dX3_wholePairsThatCross_4 : decode cX3_wholePairsThatCross 4 = .ok (.iload_n 2, 1) := by decide +kernel
theorem dX3_wholePairsThatCross_5 : decode cX3_wholePairsThatCross 5 = .ok (.aload_n 0, 1) := by decide +kernel
theorem dX3_wholePairsThatCross_6 : decode cX3_wholePairsThatCross 6 = .ok (.getfield 34, 3) := by decide +kernel
theorem dX3_wholePairsThatCross_9 : decode cX3_wholePairsThatCross 9 = .ok (.if_icmp .ge 37, 3) := by decide +kernel
theorem dX3_wholePairsThatCross_12 : decode cX3_wholePairsThatCross 12 = .ok (.aload_n 0, 1) := by decide +kernel
theorem dX3_wholePairsThatCross_13 : decode cX3_wholePairsThatCross 13 = .ok (.getfield 31, 3) := by decide +kernel
theorem dX3_wholePairsThatCross_16 : decode cX3_wholePairsThatCross 16 = .ok (.iload_n 2, 1) := by decide +kernel
theorem dX3_wholePairsThatCross_17 : decode cX3_wholePairsThatCross 17 = .ok (.invokestatic 52, 3) := by decide +kernel
theorem dX3_wholePairsThatCross_20 : decode cX3_wholePairsThatCross 20 = .ok (.ifCond .eq 20, 3) := by decide +kernel
theorem dX3_wholePairsThatCross_23 : decode cX3_wholePairsThatCross 23 = .ok (.iload_n 1, 1) := by decide +kernel
theorem dX3_wholePairsThatCross_24 : decode cX3_wholePairsThatCross 24 = .ok (.aload_n 0, 1) := by decide +kernel
theorem dX3_wholePairsThatCross_25 : decode cX3_wholePairsThatCross 25 = .ok (.getfield 24, 3) := by decide +kernel
theorem dX3_wholePairsThatCross_28 : decode cX3_wholePairsThatCross 28 = .ok (.iload_n 2, 1) := by decide +kernel
theorem dX3_wholePairsThatCross_29 : decode cX3_wholePairsThatCross 29 = .ok (.iaload, 1) := by decide +kernel
theorem dX3_wholePairsThatCross_30 : decode cX3_wholePairsThatCross 30 = .ok (.aload_n 0, 1) := by decide +kernel
theorem dX3_wholePairsThatCross_31 : decode cX3_wholePairsThatCross 31 = .ok (.getfield 31, 3) := by decide +kernel
theorem dX3_wholePairsThatCross_34 : decode cX3_wholePairsThatCross 34 = .ok (.iand, 1) := by decide +kernel
theorem dX3_wholePairsThatCross_35 : decode cX3_wholePairsThatCross 35 = .ok (.invokestatic 61, 3) := by decide +kernel
theorem dX3_wholePairsThatCross_38 : decode cX3_wholePairsThatCross 38 = .ok (.iadd, 1) := by decide +kernel
theorem dX3_wholePairsThatCross_39 : decode cX3_wholePairsThatCross 39 = .ok (.istore_n 1, 1) := by decide +kernel
theorem dX3_wholePairsThatCross_40 : decode cX3_wholePairsThatCross 40 = .ok (.iinc 2 1, 3) := by decide +kernel
theorem dX3_wholePairsThatCross_43 : decode cX3_wholePairsThatCross 43 = .ok (.goto (-39), 3) := by decide +kernel
theorem dX3_wholePairsThatCross_46 : decode cX3_wholePairsThatCross 46 = .ok (.iload_n 1, 1) := by decide +kernel
theorem dX3_wholePairsThatCross_47 : decode cX3_wholePairsThatCross 47 = .ok (.iconst 2, 1) := by decide +kernel
theorem dX3_wholePairsThatCross_48 : decode cX3_wholePairsThatCross 48 = .ok (.idiv, 1) := by decide +kernel
theorem dX3_wholePairsThatCross_49 : decode cX3_wholePairsThatCross 49 = .ok (.ireturn, 1) := by decide +kernel
set_option maxRecDepth 20000 in
theorem ggX4_init_X2_init : GoodIn wsX4_init wsX2_init := goodIn_r _ [25, 26, 2, 3, 4, 27, 28, 29, 30, 31, 32, 33, 34, 35, 67, 68, 69, 70, 71, 72, 73, 74, 75] (by decide +kernel) (by decide +kernel)
set_option maxRecDepth 20000 in
theorem gX4_init_X2_init_n17 : GoodIn wsX4_init (wsX2_init) := ggX4_init_X2_init
set_option maxRecDepth 20000 in
theorem ggX4_init_X3_init : GoodIn wsX4_init wsX3_init := goodIn_r _ [37, 38, 2, 3, 4, 39, 40, 41, 42, 43, 44, 45, 46, 76, 77, 78, 79, 80, 81, 82, 83] (by decide +kernel) (by decide +kernel)
set_option maxRecDepth 20000 in
theorem gX4_init_X3_init_n24 : GoodIn wsX4_init (wsX3_init) := ggX4_init_X3_init
set_option maxRecDepth 20000 in
theorem ggX4_init_X1_init : GoodIn wsX4_init wsX1_init := goodIn_r _ [48, 49, 2, 3, 4, 50, 51, 52, 84, 85, 86] (by decide +kernel) (by decide +kernel)
set_option maxRecDepth 20000 in
theorem gX4_init_X1_init_n31 : GoodIn wsX4_init (wsX1_init) := ggX4_init_X1_init
set_option maxRecDepth 20000 in
theorem ggX4_init_X0_init : GoodIn wsX4_init wsX0_init := goodIn_r _ [54, 55, 2, 3, 4, 56, 57, 58, 59, 87, 88, 89, 90] (by decide +kernel) (by decide +kernel)
set_option maxRecDepth 20000 in
theorem gX4_init_X0_init_n38 : GoodIn wsX4_init (wsX0_init) := ggX4_init_X0_init
