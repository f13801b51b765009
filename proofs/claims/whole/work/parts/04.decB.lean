theorem dX4_init_0 : decode cX4_init 0 = .ok (.aload_n 0, 1) := by decide +kernel
theorem dX4_init_1 : decode cX4_init 1 = .ok (.invokespecial 3, 3) := by decide +kernel
theorem dX4_init_4 : decode cX4_init 4 = .ok (.aload_n 0, 1) := by decide +kernel
theorem dX4_init_5 : decode cX4_init 5 = .ok (.iconst 5, 1) := by decide +kernel
theorem dX4_init_6 : decode cX4_init 6 = .ok (.newarray .int, 2) := by decide +kernel
theorem dX4_init_8 : decode cX4_init 8 = .ok (.dup, 1) := by decide +kernel
theorem dX4_init_9 : decode cX4_init 9 = .ok (.iconst 0, 1) := by decide +kernel
theorem dX4_init_10 : decode cX4_init 10 = .ok (.bipush 50, 2) := by decide +kernel
theorem dX4_init_12 : decode cX4_init 12 = .ok (.iastore, 1) := by decide +kernel
theorem dX4_init_13 : decode cX4_init 13 = .ok (.dup, 1) := by decide +kernel
theorem dX4_init_14 : decode cX4_init 14 = .ok (.iconst 1, 1) := by decide +kernel
theorem dX4_init_15 : decode cX4_init 15 = .ok (.bipush 10, 2) := by decide +kernel
theorem dX4_init_17 : decode cX4_init 17 = .ok (.iastore, 1) := by decide +kernel
theorem dX4_init_18 : decode cX4_init 18 = .ok (.dup, 1) := by decide +kernel
theorem dX4_init_19 : decode cX4_init 19 = .ok (.iconst 2, 1) := by decide +kernel
theorem dX4_init_20 : decode cX4_init 20 = .ok (.iconst 5, 1) := by decide +kernel
theorem dX4_init_21 : decode cX4_init 21 = .ok (.iastore, 1) := by decide +kernel
theorem dX4_init_22 : decode cX4_init 22 = .ok (.dup, 1) := by decide +kernel
theorem dX4_init_23 : decode cX4_init 23 = .ok (.iconst 3, 1) := by decide +kernel
theorem dX4_init_24 : decode cX4_init 24 = .ok (.bipush 20, 2) := by decide +kernel
theorem dX4_init_26 : decode cX4_init 26 = .ok (.iastore, 1) := by decide +kernel
theorem dX4_init_27 : decode cX4_init 27 = .ok (.dup, 1) := by decide +kernel
theorem dX4_init_28 : decode cX4_init 28 = .ok (.iconst 4, 1) := by decide +kernel
theorem dX4_init_29 : decode cX4_init 29 = .ok (.bipush 20, 2) := by decide +kernel
theorem dX4_init_31 : decode cX4_init 31 = .ok (.iastore, 1) := by decide +kernel
theorem dX4_init_32 : decode cX4_init 32 = .ok (.putfield 9, 3) := by decide +kernel
theorem dX4_init_35 : decode cX4_init 35 = .ok (.aload_n 0, 1) := by decide +kernel
theorem dX4_init_36 : decode cX4_init 36 = .ok (.new 15, 3) := by decide +kernel
theorem dX4_init_39 : decode cX4_init 39 = .ok (.dup, 1) := by decide +kernel
theorem dX4_init_40 : decode cX4_init 40 = .ok (.invokespecial 17, 3) := by decide +kernel
theorem dX4_init_43 : decode cX4_init 43 = .ok (.putfield 18, 3) := by decide +kernel
theorem dX4_init_46 : decode cX4_init 46 = .ok (.aload_n 0, 1) := by decide +kernel
theorem dX4_init_47 : decode cX4_init 47 = .ok (.new 22, 3) := by decide +kernel
theorem dX4_init_50 : decode cX4_init 50 = .ok (.dup, 1) := by decide +kernel
theorem dX4_init_51 : decode cX4_init 51 = .ok (.invokespecial 24, 3) := by decide +kernel
theorem dX4_init_54 : decode cX4_init 54 = .ok (.putfield 25, 3) := by decide +kernel
theorem dX4_init_57 : decode cX4_init 57 = .ok (.aload_n 0, 1) := by decide +kernel
theorem dX4_init_58 : decode cX4_init 58 = .ok (.iconst 4, 1) := by decide +kernel
theorem dX4_init_59 : decode cX4_init 59 = .ok (.anewarray 29, 3) := by decide +kernel
theorem dX4_init_62 : decode cX4_init 62 = .ok (.dup, 1) := by decide +kernel
theorem dX4_init_63 : decode cX4_init 63 = .ok (.iconst 0, 1) := by decide +kernel
theorem dX4_init_64 : decode cX4_init 64 = .ok (.new 29, 3) := by decide +kernel
theorem dX4_init_67 : decode cX4_init 67 = .ok (.dup, 1) := by decide +kernel
theorem dX4_init_68 : decode cX4_init 68 = .ok (.invokespecial 31, 3) := by decide +kernel
theorem dX4_init_71 : decode cX4_init 71 = .ok (.aastore, 1) := by decide +kernel
theorem dX4_init_72 : decode cX4_init 72 = .ok (.dup, 1) := by decide +kernel
theorem dX4_init_73 : decode cX4_init 73 = .ok (.iconst 1, 1) := by decide +kernel
theorem dX4_init_74 : decode cX4_init 74 = .ok (.new 29, 3) := by decide +kernel
theorem dX4_init_77 : decode cX4_init 77 = .ok (.dup, 1) := by decide +kernel
theorem dX4_init_78 : decode cX4_init 78 = .ok (.invokespecial 31, 3) := by decide +kernel
theorem dX4_init_81 : decode cX4_init 81 = .ok (.aastore, 1) := by decide +kernel
theorem dX4_init_82 : decode cX4_init 82 = .ok (.dup, 1) := by decide +kernel
theorem dX4_init_83 : decode cX4_init 83 = .ok (.iconst 2, 1) := by decide +kernel
theorem dX4_init_84 : decode cX4_init 84 = .ok (.new 29, 3) := by decide +kernel
theorem dX4_init_87 : decode cX4_init 87 = .ok (.dup, 1) := by decide +kernel
theorem dX4_init_88 : decode cX4_init 88 = .ok (.invokespecial 31, 3) := by decide +kernel
theorem dX4_init_91 : decode cX4_init 91 = .ok (.aastore, 1) := by decide +kernel
theorem dX4_init_92 : decode cX4_init 92 = .ok (.dup, 1) := by decide +kernel
theorem dX4_init_93 : decode cX4_init 93 = .ok (.iconst 3, 1) := by decide +kernel
theorem dX4_init_94 : decode cX4_init 94 = .ok (.new 29, 3) := by decide +kernel
theorem dX4_init_97 : decode cX4_init 97 = .ok (.dup, 1) := by decide +kernel
theorem dX4_init_98 : decode cX4_init 98 = .ok (.invokespecial 31, 3) := by decide +kernel
theorem dX4_init_101 : decode cX4_init 101 = .ok (.aastore, 1) := by decide +kernel
theorem dX4_init_102 : decode cX4_init 102 = .ok (.putfield 32, 3) := by decide +kernel
theorem dX4_init_105 : decode cX4_init 105 = .ok (.aload_n 0, 1) := by decide +kernel
theorem dX4_init_106 : decode cX4_init 106 = .ok (.new 36, 3) := by decide +kernel
theorem dX4_init_109 : decode cX4_init 109 = .ok (.dup, 1) := by decide +kernel
theorem dX4_init_110 : decode cX4_init 110 = .ok (.invokespecial 38, 3) := by decide +kernel
theorem dX4_init_113 : decode cX4_init 113 = .ok (.putfield 39, 3) := by decide +kernel
theorem dX4_init_116 : decode cX4_init 116 = .ok (.aload_n 0, 1) := by decide +kernel
theorem dX4_init_117 : decode cX4_init 117 = .ok (.iconst 0, 1) := by decide +kernel
theorem dX4_init_118 : decode cX4_init 118 = .ok (.putfield 43, 3) := by decide +kernel
theorem dX4_init_121 : decode cX4_init 121 = .ok (.aload_n 0, 1) := by decide +kernel
theorem dX4_init_122 : decode cX4_init 122 = .ok (.iconst 0, 1) := by decide +kernel
theorem dX4_init_123 : decode cX4_init 123 = .ok (.putfield 47, 3) := by decide +kernel
theorem dX4_init_126 : decode cX4_init 126 = .ok (.return_, 1) := by decide +kernel
set_option maxRecDepth 20000 in
theorem ggX4_rule_X4_isWithin : GoodIn wsX4_rule wsX4_isWithin := goodIn_r _ [6] (by decide +kernel) (by decide +kernel)
set_option maxRecDepth 20000 in
theorem gX4_rule_X4_isWithin : GoodIn wsX4_rule (va_wsS RX4 53 yX4_isWithin wsX4_isWithin) := goodIn_app (goodIn_of _ (by decide +kernel)) ggX4_rule_X4_isWithin
set_option maxRecDepth 20000 in
theorem ggX4_rule_X4_isTooShort : GoodIn wsX4_rule wsX4_isTooShort := goodIn_r _ [10, 11, 12, 13, 14, 15, 16, 17, 18, 19, 20, 21, 22, 23, 24, 25, 26, 27, 28, 29, 30, 31, 32, 33, 34, 35, 36, 37, 38, 39, 40, 41, 42, 43, 44, 45, 46, 47, 48, 49, 50, 51, 52, 53, 54, 55] (by decide +kernel) (by decide +kernel)
set_option maxRecDepth 20000 in
theorem gX4_rule_X4_isTooShort : GoodIn wsX4_rule (wsV RX4 57 RX4 yX4_isTooShort wsX4_isTooShort) := goodIn_app (goodIn_of _ (by decide +kernel)) ggX4_rule_X4_isTooShort
theorem dX4_rule_0 : decode cX4_rule 0 = .ok (.iload_n 1, 1) := by decide +kernel
theorem dX4_rule_1 : decode cX4_rule 1 = .ok (.ifCond .lt 8, 3) := by decide +kernel
theorem dX4_rule_4 : decode cX4_rule 4 = .ok (.iload_n 1, 1) := by decide +kernel
theorem dX4_rule_5 : decode cX4_rule 5 = .ok (.iconst 4, 1) := by decide +kernel
theorem dX4_rule_6 : decode cX4_rule 6 = .ok (.if_icmp .le 5, 3) := by decide +kernel
theorem dX4_rule_9 : decode cX4_rule 9 = .ok (.iconst (-1), 1) := by decide +kernel
theorem dX4_rule_10 : decode cX4_rule 10 = .ok (.ireturn, 1) := by decide +kernel
theorem dX4_rule_11 : decode cX4_rule 11 = .ok (.iload_n 2, 1) := by decide +kernel
theorem dX4_rule_12 : decode cX4_rule 12 = .ok (.iconst 1, 1) := by decide +kernel
theorem dX4_rule_13 : decode cX4_rule 13 = .ok (.getstatic 50, 3) := by decide +kernel
theorem dX4_rule_16 : decode cX4_rule 16 = .ok (.iload_n 1, 1) := by decide +kernel
theorem dX4_rule_17 : decode cX4_rule 17 = .ok (.iaload, 1) := by decide +kernel
theorem dX4_rule_18 : decode cX4_rule 18 = .ok (.invokestatic 53, 3) := by decide +kernel
theorem dX4_rule_21 : decode cX4_rule 21 = .ok (.ifCond .ne 6, 3) := by decide +kernel
theorem dX4_rule_24 : decode cX4_rule 24 = .ok (.bipush (-2), 2) := by decide +kernel
theorem dX4_rule_26 : decode cX4_rule 26 = .ok (.ireturn, 1) := by decide +kernel
theorem dX4_rule_27 : decode cX4_rule 27 = .ok (.iload_n 1, 1) := by decide +kernel
theorem dX4_rule_28 : decode cX4_rule 28 = .ok (.ifCond .ne 14, 3) := by decide +kernel
theorem dX4_rule_31 : decode cX4_rule 31 = .ok (.aload_n 0, 1) := by decide +kernel
theorem dX4_rule_32 : decode cX4_rule 32 = .ok (.iload_n 2, 1) := by decide +kernel
theorem dX4_rule_33 : decode cX4_rule 33 = .ok (.invokevirtual 57, 3) := by decide +kernel
theorem dX4_rule_36 : decode cX4_rule 36 = .ok (.ifCond .eq 6, 3) := by decide +kernel
theorem dX4_rule_39 : decode cX4_rule 39 = .ok (.bipush (-3), 2) := by decide +kernel
theorem dX4_rule_41 : decode cX4_rule 41 = .ok (.ireturn, 1) := by decide +kernel
theorem dX4_rule_42 : decode cX4_rule 42 = .ok (.aload_n 0, 1) := by decide +kernel
theorem dX4_rule_43 : decode cX4_rule 43 = .ok (.getfield 9, 3) := by decide +kernel
theorem dX4_rule_46 : decode cX4_rule 46 = .ok (.iload_n 1, 1) := by decide +kernel
theorem dX4_rule_47 : decode cX4_rule 47 = .ok (.iaload, 1) := by decide +kernel
theorem dX4_rule_48 : decode cX4_rule 48 = .ok (.istore_n 3, 1) := by decide +kernel
theorem dX4_rule_49 : decode cX4_rule 49 = .ok (.aload_n 0, 1) := by decide +kernel
theorem dX4_rule_50 : decode cX4_rule 50 = .ok (.getfield 9, 3) := by decide +kernel
theorem dX4_rule_53 : decode cX4_rule 53 = .ok (.iload_n 1, 1) := by decide +kernel
theorem dX4_rule_54 : decode cX4_rule 54 = .ok (.iload_n 2, 1) := by decide +kernel
theorem dX4_rule_55 : decode cX4_rule 55 = .ok (.iastore, 1) := by decide +kernel
theorem dX4_rule_56 : decode cX4_rule 56 = .ok (.iload_n 3, 1) := by decide +kernel
theorem dX4_rule_57 : decode cX4_rule 57 = .ok (.ireturn, 1) := by decide +kernel
set_option maxRecDepth 20000 in
theorem ggX4_spar_X4_refusalOfSpar : GoodIn wsX4_spar wsX4_refusalOfSpar := goodIn_r _ [7, 8, 9, 10, 6, 11, 48, 49, 50, 51, 52, 53, 54] (by decide +kernel) (by decide +kernel)
set_option maxRecDepth 20000 in
theorem gX4_spar_X4_refusalOfSpar : GoodIn wsX4_spar (wsV RX4 64 RX4 yX4_refusalOfSpar wsX4_refusalOfSpar) := goodIn_app (goodIn_of _ (by decide +kernel)) ggX4_spar_X4_refusalOfSpar
set_option maxRecDepth 20000 in
theorem ggX4_spar_X2_add : GoodIn wsX4_spar wsX2_add := goodIn_r _ [16, 17, 18, 19, 20, 21, 22, 23, 24, 25, 26, 15, 27, 28, 29, 30, 31, 32, 33, 34, 35, 36, 37, 38, 39, 40, 41, 42, 43, 44, 45, 46, 47, 55, 56, 57, 58, 59, 60, 61, 62, 63] (by decide +kernel) (by decide +kernel)
set_option maxRecDepth 20000 in
theorem gX4_spar_X2_add : GoodIn wsX4_spar (wsV RX4 68 RX2 yX2_add wsX2_add) := goodIn_app (goodIn_of _ (by decide +kernel)) ggX4_spar_X2_add
theorem dX4_spar_0 : decode cX4_spar 0 = .ok (.aload_n 0, 1) := by decide +kernel
theorem dX4_spar_1 : decode cX4_spar 1 = .ok (.iload_n 1, 1) := by decide +kernel
theorem dX4_spar_2 : decode cX4_spar 2 = .ok (.iload_n 2, 1) := by decide +kernel
theorem dX4_spar_3 : decode cX4_spar 3 = .ok (.iload_n 3, 1) := by decide +kernel
theorem dX4_spar_4 : decode cX4_spar 4 = .ok (.iload 4, 2) := by decide +kernel
theorem dX4_spar_6 : decode cX4_spar 6 = .ok (.iload 5, 2) := by decide +kernel
theorem dX4_spar_8 : decode cX4_spar 8 = .ok (.aload_n 0, 1) := by decide +kernel
theorem dX4_spar_9 : decode cX4_spar 9 = .ok (.getfield 18, 3) := by decide +kernel
theorem dX4_spar_12 : decode cX4_spar 12 = .ok (.getfield 61, 3) := by decide +kernel
theorem dX4_spar_15 : decode cX4_spar 15 = .ok (.invokevirtual 64, 3) := by decide +kernel
theorem dX4_spar_18 : decode cX4_spar 18 = .ok (.istore 6, 2) := by decide +kernel
theorem dX4_spar_20 : decode cX4_spar 20 = .ok (.iload 6, 2) := by decide +kernel
theorem dX4_spar_22 : decode cX4_spar 22 = .ok (.ifCond .eq 6, 3) := by decide +kernel
theorem dX4_spar_25 : decode cX4_spar 25 = .ok (.iload 6, 2) := by decide +kernel
theorem dX4_spar_27 : decode cX4_spar 27 = .ok (.ireturn, 1) := by decide +kernel
theorem dX4_spar_28 : decode cX4_spar 28 = .ok (.aload_n 0, 1) := by decide +kernel
theorem dX4_spar_29 : decode cX4_spar 29 = .ok (.getfield 18, 3) := by decide +kernel
theorem dX4_spar_32 : decode cX4_spar 32 = .ok (.iload_n 1, 1) := by decide +kernel
theorem dX4_spar_33 : decode cX4_spar 33 = .ok (.iload_n 2, 1) := by decide +kernel
theorem dX4_spar_34 : decode cX4_spar 34 = .ok (.iload_n 3, 1) := by decide +kernel
theorem dX4_spar_35 : decode cX4_spar 35 = .ok (.iload 4, 2) := by decide +kernel
theorem dX4_spar_37 : decode cX4_spar 37 = .ok (.iload 5, 2) := by decide +kernel
theorem dX4_spar_39 : decode cX4_spar 39 = .ok (.invokevirtual 68, 3) := by decide +kernel
theorem dX4_spar_42 : decode cX4_spar 42 = .ok (.ireturn, 1) := by decide +kernel
set_option maxRecDepth 20000 in
theorem ggX4_plan_X4_isSheet : GoodIn wsX4_plan wsX4_isSheet := goodIn_r _ [10, 2, 88, 89, 90, 91, 92, 93, 94] (by decide +kernel) (by decide +kernel)
set_option maxRecDepth 20000 in
theorem gX4_plan_X4_isSheet : GoodIn wsX4_plan (wsV RX4 72 RX4 yX4_isSheet wsX4_isSheet) := goodIn_app (goodIn_of _ (by decide +kernel)) ggX4_plan_X4_isSheet
set_option maxRecDepth 20000 in
theorem ggX4_plan_X1_isLane : GoodIn wsX4_plan wsX1_isLane := goodIn_r _ [14, 15, 9, 16] (by decide +kernel) (by decide +kernel)
set_option maxRecDepth 20000 in
theorem gX4_plan_X1_isLane : GoodIn wsX4_plan (va_wsS RX4 75 yX1_isLane wsX1_isLane) := goodIn_app (goodIn_of _ (by decide +kernel)) ggX4_plan_X1_isLane
set_option maxRecDepth 20000 in
theorem ggX4_plan_X4_faultOfPlan : GoodIn wsX4_plan wsX4_faultOfPlan := goodIn_r _ [19, 20, 21, 22, 13, 23, 24, 25, 26, 27, 28, 29, 30, 31, 32, 33, 95, 96, 97] (by decide +kernel) (by decide +kernel)
set_option maxRecDepth 20000 in
theorem gX4_plan_X4_faultOfPlan : GoodIn wsX4_plan (va_wsS RX4 78 yX4_faultOfPlan wsX4_faultOfPlan) := goodIn_app (goodIn_of _ (by decide +kernel)) ggX4_plan_X4_faultOfPlan
set_option maxRecDepth 20000 in
theorem ggX4_plan_X4_failed : GoodIn wsX4_plan wsX4_failed := goodIn_r _ [37, 1, 88, 89, 90, 91, 92, 93, 94] (by decide +kernel) (by decide +kernel)
set_option maxRecDepth 20000 in
theorem gX4_plan_X4_failed : GoodIn wsX4_plan (wsV RX4 82 RX4 yX4_failed wsX4_failed) := goodIn_app (goodIn_of _ (by decide +kernel)) ggX4_plan_X4_failed
set_option maxRecDepth 20000 in
theorem ggX4_plan_X4_refusalOfPlanned : GoodIn wsX4_plan wsX4_refusalOfPlanned := goodIn_r _ [41, 42, 43, 44, 9, 45, 46, 47, 15, 16, 88, 89, 90, 91, 92, 93, 94] (by decide +kernel) (by decide +kernel)
set_option maxRecDepth 20000 in
theorem gX4_plan_X4_refusalOfPlanned : GoodIn wsX4_plan (wsV RX4 89 RX4 yX4_refusalOfPlanned wsX4_refusalOfPlanned) := goodIn_app (goodIn_of _ (by decide +kernel)) ggX4_plan_X4_refusalOfPlanned
set_option maxRecDepth 20000 in
theorem ggX4_plan_X4_addPlanned : GoodIn wsX4_plan wsX4_addPlanned := goodIn_r _ [51, 4, 52, 53, 54, 55, 56, 57, 58, 59, 60, 61, 62, 63, 64, 65, 66, 67, 68, 69, 70, 71, 72, 73, 74, 75, 76, 77, 78, 79, 80, 81, 82, 83, 84, 85, 86, 87, 88, 89, 90, 91, 92, 93, 94, 98, 99, 100, 101, 102, 103, 104, 105, 106] (by decide +kernel) (by decide +kernel)
set_option maxRecDepth 20000 in
theorem gX4_plan_X4_addPlanned : GoodIn wsX4_plan (wsV RX4 93 RX4 yX4_addPlanned wsX4_addPlanned) := goodIn_app (goodIn_of _ (by decide +kernel)) ggX4_plan_X4_addPlanned
theorem dX4_plan_0 : decode cX4_plan 0 = .ok (.aload_n 0, 1) := by decide +kernel
theorem dX4_plan_1 : decode cX4_plan 1 = .ok (.iconst 0, 1) := by decide +kernel
theorem dX4_plan_2 : decode cX4_plan 2 = .ok (.putfield 47, 3) := by decide +kernel
theorem dX4_plan_5 : decode cX4_plan 5 = .ok (.aload_n 0, 1) := by decide +kernel
theorem dX4_plan_6 : decode cX4_plan 6 = .ok (.iload_n 1, 1) := by decide +kernel
theorem dX4_plan_7 : decode cX4_plan 7 = .ok (.invokevirtual 72, 3) := by decide +kernel
theorem dX4_plan_10 : decode cX4_plan 10 = .ok (.ifCond .ne 5, 3) := by decide +kernel
theorem dX4_plan_13 : decode cX4_plan 13 = .ok (.iconst (-1), 1) := by decide +kernel
theorem dX4_plan_14 : decode cX4_plan 14 = .ok (.ireturn, 1) := by decide +kernel
theorem dX4_plan_15 : decode cX4_plan 15 = .ok (.iload_n 2, 1) := by decide +kernel
theorem dX4_plan_16 : decode cX4_plan 16 = .ok (.invokestatic 75, 3) := by decide +kernel
theorem dX4_plan_19 : decode cX4_plan 19 = .ok (.ifCond .ne 6, 3) := by decide +kernel
theorem dX4_plan_22 : decode cX4_plan 22 = .ok (.bipush (-2), 2) := by decide +kernel
theorem dX4_plan_24 : decode cX4_plan 24 = .ok (.ireturn, 1) := by decide +kernel
theorem dX4_plan_25 : decode cX4_plan 25 = .ok (.aload_n 0, 1) := by decide +kernel
theorem dX4_plan_26 : decode cX4_plan 26 = .ok (.getfield 32, 3) := by decide +kernel
theorem dX4_plan_29 : decode cX4_plan 29 = .ok (.iload_n 1, 1) := by decide +kernel
theorem dX4_plan_30 : decode cX4_plan 30 = .ok (.aaload, 1) := by decide +kernel
theorem dX4_plan_31 : decode cX4_plan 31 = .ok (.astore 5, 2) := by decide +kernel
theorem dX4_plan_33 : decode cX4_plan 33 = .ok (.aload 5, 2) := by decide +kernel
theorem dX4_plan_35 : decode cX4_plan 35 = .ok (.iload_n 2, 1) := by decide +kernel
theorem dX4_plan_36 : decode cX4_plan 36 = .ok (.iload_n 3, 1) := by decide +kernel
theorem dX4_plan_37 : decode cX4_plan 37 = .ok (.iload 4, 2) := by decide +kernel
theorem dX4_plan_39 : decode cX4_plan 39 = .ok (.invokestatic 78, 3) := by decide +kernel
theorem dX4_plan_42 : decode cX4_plan 42 = .ok (.istore 6, 2) := by decide +kernel
theorem dX4_plan_44 : decode cX4_plan 44 = .ok (.iload 6, 2) := by decide +kernel
theorem dX4_plan_46 : decode cX4_plan 46 = .ok (.ifCond .eq 10, 3) := by decide +kernel
theorem dX4_plan_49 : decode cX4_plan 49 = .ok (.aload_n 0, 1) := by decide +kernel
theorem dX4_plan_50 : decode cX4_plan 50 = .ok (.iload 6, 2) := by decide +kernel
theorem dX4_plan_52 : decode cX4_plan 52 = .ok (.invokevirtual 82, 3) := by decide +kernel
theorem dX4_plan_55 : decode cX4_plan 55 = .ok (.ireturn, 1) := by decide +kernel
theorem dX4_plan_56 : decode cX4_plan 56 = .ok (.iconst 0, 1) := by decide +kernel
theorem dX4_plan_57 : decode cX4_plan 57 = .ok (.istore 7, 2) := by decide +kernel
theorem dX4_plan_59 : decode cX4_plan 59 = .ok (.iload 7, 2) := by decide +kernel
theorem dX4_plan_61 : decode cX4_plan 61 = .ok (.iload 4, 2) := by decide +kernel
theorem dX4_plan_63 : decode cX4_plan 63 = .ok (.if_icmp .ge 44, 3) := by decide +kernel
theorem dX4_plan_66 : decode cX4_plan 66 = .ok (.aload_n 0, 1) := by decide +kernel
theorem dX4_plan_67 : decode cX4_plan 67 = .ok (.aload 5, 2) := by decide +kernel
theorem dX4_plan_69 : decode cX4_plan 69 = .ok (.getfield 86, 3) := by decide +kernel
theorem dX4_plan_72 : decode cX4_plan 72 = .ok (.iload_n 3, 1) := by decide +kernel
theorem dX4_plan_73 : decode cX4_plan 73 = .ok (.iconst 5, 1) := by decide +kernel
theorem dX4_plan_74 : decode cX4_plan 74 = .ok (.iload 7, 2) := by decide +kernel
theorem dX4_plan_76 : decode cX4_plan 76 = .ok (.imul, 1) := by decide +kernel
theorem dX4_plan_77 : decode cX4_plan 77 = .ok (.iadd, 1) := by decide +kernel
theorem dX4_plan_78 : decode cX4_plan 78 = .ok (.aload_n 0, 1) := by decide +kernel
theorem dX4_plan_79 : decode cX4_plan 79 = .ok (.getfield 18, 3) := by decide +kernel
theorem dX4_plan_82 : decode cX4_plan 82 = .ok (.getfield 61, 3) := by decide +kernel
theorem dX4_plan_85 : decode cX4_plan 85 = .ok (.iload 7, 2) := by decide +kernel
theorem dX4_plan_87 : decode cX4_plan 87 = .ok (.iadd, 1) := by decide +kernel
theorem dX4_plan_88 : decode cX4_plan 88 = .ok (.invokevirtual 89, 3) := by decide +kernel
theorem dX4_plan_91 : decode cX4_plan 91 = .ok (.istore 8, 2) := by decide +kernel
theorem dX4_plan_93 : decode cX4_plan 93 = .ok (.iload 8, 2) := by decide +kernel
theorem dX4_plan_95 : decode cX4_plan 95 = .ok (.ifCond .eq 6, 3) := by decide +kernel
theorem dX4_plan_98 : decode cX4_plan 98 = .ok (.iload 8, 2) := by decide +kernel
theorem dX4_plan_100 : decode cX4_plan 100 = .ok (.ireturn, 1) := by decide +kernel
theorem dX4_plan_101 : decode cX4_plan 101 = .ok (.iinc 7 1, 3) := by decide +kernel
theorem dX4_plan_104 : decode cX4_plan 104 = .ok (.goto (-45), 3) := by decide +kernel
theorem dX4_plan_107 : decode cX4_plan 107 = .ok (.iconst 0, 1) := by decide +kernel
theorem dX4_plan_108 : decode cX4_plan 108 = .ok (.istore 7, 2) := by decide +kernel
theorem dX4_plan_110 : decode cX4_plan 110 = .ok (.iload 7, 2) := by decide +kernel
theorem dX4_plan_112 : decode cX4_plan 112 = .ok (.iload 4, 2) := by decide +kernel
theorem dX4_plan_114 : decode cX4_plan 114 = .ok (.if_icmp .ge 24, 3) := by decide +kernel
theorem dX4_plan_117 : decode cX4_plan 117 = .ok (.aload_n 0, 1) := by decide +kernel
theorem dX4_plan_118 : decode cX4_plan 118 = .ok (.aload 5, 2) := by decide +kernel
theorem dX4_plan_120 : decode cX4_plan 120 = .ok (.getfield 86, 3) := by decide +kernel
theorem dX4_plan_123 : decode cX4_plan 123 = .ok (.iload_n 3, 1) := by decide +kernel
theorem dX4_plan_124 : decode cX4_plan 124 = .ok (.iconst 5, 1) := by decide +kernel
theorem dX4_plan_125 : decode cX4_plan 125 = .ok (.iload 7, 2) := by decide +kernel
theorem dX4_plan_127 : decode cX4_plan 127 = .ok (.imul, 1) := by decide +kernel
theorem dX4_plan_128 : decode cX4_plan 128 = .ok (.iadd, 1) := by decide +kernel
theorem dX4_plan_129 : decode cX4_plan 129 = .ok (.invokevirtual 93, 3) := by decide +kernel
theorem dX4_plan_132 : decode cX4_plan 132 = .ok (.iinc 7 1, 3) := by decide +kernel
theorem dX4_plan_135 : decode cX4_plan 135 = .ok (.goto (-25), 3) := by decide +kernel
theorem dX4_plan_138 : decode cX4_plan 138 = .ok (.aload_n 0, 1) := by decide +kernel
theorem dX4_plan_139 : decode cX4_plan 139 = .ok (.getfield 18, 3) := by decide +kernel
theorem dX4_plan_142 : decode cX4_plan 142 = .ok (.getfield 61, 3) := by decide +kernel
theorem dX4_plan_145 : decode cX4_plan 145 = .ok (.ireturn, 1) := by decide +kernel
set_option maxRecDepth 20000 in
theorem ggX4_about_X2_has : GoodIn wsX4_about wsX2_has := goodIn_r _ [14, 15, 68, 69, 70, 71, 72, 73, 74, 75, 76] (by decide +kernel) (by decide +kernel)
set_option maxRecDepth 20000 in
theorem gX4_about_X2_has : GoodIn wsX4_about (wsV RX4 97 RX2 yX2_has wsX2_has) := goodIn_app (goodIn_of _ (by decide +kernel)) ggX4_about_X2_has
set_option maxRecDepth 20000 in
theorem ggX4_about_X2_isUp : GoodIn wsX4_about wsX2_isUp := goodIn_r _ [19, 20, 21, 22, 23, 68, 69, 70, 71, 72, 73, 74, 75, 76] (by decide +kernel) (by decide +kernel)
set_option maxRecDepth 20000 in
theorem gX4_about_X2_isUp : GoodIn wsX4_about (wsV RX4 115 RX2 yX2_isUp wsX2_isUp) := goodIn_app (goodIn_of _ (by decide +kernel)) ggX4_about_X2_isUp
set_option maxRecDepth 20000 in
theorem ggX4_about_X4_oneIf : GoodIn wsX4_about wsX4_oneIf := goodIn_r _ [26] (by decide +kernel) (by decide +kernel)
set_option maxRecDepth 20000 in
theorem gX4_about_X4_oneIf : GoodIn wsX4_about (va_wsS RX4 118 yX4_oneIf wsX4_oneIf) := goodIn_app (goodIn_of _ (by decide +kernel)) ggX4_about_X4_oneIf
set_option maxRecDepth 20000 in
theorem ggX4_about_X3_raisersOf : GoodIn wsX4_about wsX3_raisersOf := goodIn_r _ [31, 32, 33, 34, 35, 36, 30, 37, 38, 39, 77, 78, 79, 80, 81, 82, 83, 84] (by decide +kernel) (by decide +kernel)
set_option maxRecDepth 20000 in
theorem gX4_about_X3_raisersOf : GoodIn wsX4_about (wsV RX4 122 RX3 yX3_raisersOf wsX3_raisersOf) := goodIn_app (goodIn_of _ (by decide +kernel)) ggX4_about_X3_raisersOf
set_option maxRecDepth 20000 in
theorem ggX4_about_X3_raised : GoodIn wsX4_about wsX3_raised := goodIn_r _ [43, 32, 33, 34, 35, 36, 30, 37, 38, 39, 21, 22, 23, 77, 78, 79, 80, 81, 82, 83, 84] (by decide +kernel) (by decide +kernel)
set_option maxRecDepth 20000 in
theorem gX4_about_X3_raised : GoodIn wsX4_about (wsV RX4 128 RX3 yX3_raised wsX3_raised) := goodIn_app (goodIn_of _ (by decide +kernel)) ggX4_about_X3_raised
set_option maxRecDepth 20000 in
theorem ggX4_about_X2_mayRise : GoodIn wsX4_about wsX2_mayRise := goodIn_r _ [47, 48, 49, 21, 22, 23, 68, 69, 70, 71, 72, 73, 74, 75, 76] (by decide +kernel) (by decide +kernel)
set_option maxRecDepth 20000 in
theorem gX4_about_X2_mayRise : GoodIn wsX4_about (wsV RX4 132 RX2 yX2_mayRise wsX2_mayRise) := goodIn_app (goodIn_of _ (by decide +kernel)) ggX4_about_X2_mayRise
set_option maxRecDepth 20000 in
theorem ggX4_about_J6_bitCount_0f7a4 : GoodIn wsX4_about wsJ6_bitCount_0f7a4 := goodIn_r _ [53, 54, 55, 56] (by decide +kernel) (by decide +kernel)
set_option maxRecDepth 20000 in
theorem gX4_about_J6_bitCount_0f7a4 : GoodIn wsX4_about (va_wsS RX4 135 yJ6_bitCount_0f7a4 wsJ6_bitCount_0f7a4) := goodIn_app (goodIn_of _ (by decide +kernel)) ggX4_about_J6_bitCount_0f7a4
set_option maxRecDepth 20000 in
theorem ggX4_about_X2_lying : GoodIn wsX4_about wsX2_lying := goodIn_r _ [60, 15, 20, 68, 69, 70, 71, 72, 73, 74, 75, 76] (by decide +kernel) (by decide +kernel)
set_option maxRecDepth 20000 in
theorem gX4_about_X2_lying : GoodIn wsX4_about (wsV RX4 143 RX2 yX2_lying wsX2_lying) := goodIn_app (goodIn_of _ (by decide +kernel)) ggX4_about_X2_lying
theorem dX4_about_0 : decode cX4_about 0 = .ok (.aload_n 0, 1) := by decide +kernel
theorem dX4_about_1 : decode cX4_about 1 = .ok (.getfield 18, 3) := by decide +kernel
theorem dX4_about_4 : decode cX4_about 4 = .ok (.iload_n 1, 1) := by decide +kernel
theorem dX4_about_5 : decode cX4_about 5 = .ok (.invokevirtual 97, 3) := by decide +kernel
theorem dX4_about_8 : decode cX4_about 8 = .ok (.ifCond .ne 5, 3) := by decide +kernel
theorem dX4_about_11 : decode cX4_about 11 = .ok (.iconst (-1), 1) := by decide +kernel
theorem dX4_about_12 : decode cX4_about 12 = .ok (.ireturn, 1) := by decide +kernel
theorem dX4_about_13 : decode cX4_about 13 = .ok (.iload_n 2, 1) := by decide +kernel
theorem dX4_about_14 : decode cX4_about 14 = .ok (.tableswitch 206 0 9 #[54, 64, 74, 84, 94, 104, 116, 147, 173, 185], 54) := by decide +kernel
theorem dX4_about_68 : decode cX4_about 68 = .ok (.aload_n 0, 1) := by decide +kernel
theorem dX4_about_69 : decode cX4_about 69 = .ok (.getfield 18, 3) := by decide +kernel
theorem dX4_about_72 : decode cX4_about 72 = .ok (.getfield 100, 3) := by decide +kernel
theorem dX4_about_75 : decode cX4_about 75 = .ok (.iload_n 1, 1) := by decide +kernel
theorem dX4_about_76 : decode cX4_about 76 = .ok (.iaload, 1) := by decide +kernel
theorem dX4_about_77 : decode cX4_about 77 = .ok (.ireturn, 1) := by decide +kernel
theorem dX4_about_78 : decode cX4_about 78 = .ok (.aload_n 0, 1) := by decide +kernel
theorem dX4_about_79 : decode cX4_about 79 = .ok (.getfield 18, 3) := by decide +kernel
theorem dX4_about_82 : decode cX4_about 82 = .ok (.getfield 103, 3) := by decide +kernel
theorem dX4_about_85 : decode cX4_about 85 = .ok (.iload_n 1, 1) := by decide +kernel
theorem dX4_about_86 : decode cX4_about 86 = .ok (.iaload, 1) := by decide +kernel
theorem dX4_about_87 : decode cX4_about 87 = .ok (.ireturn, 1) := by decide +kernel
theorem dX4_about_88 : decode cX4_about 88 = .ok (.aload_n 0, 1) := by decide +kernel
theorem dX4_about_89 : decode cX4_about 89 = .ok (.getfield 18, 3) := by decide +kernel
theorem dX4_about_92 : decode cX4_about 92 = .ok (.getfield 106, 3) := by decide +kernel
theorem dX4_about_95 : decode cX4_about 95 = .ok (.iload_n 1, 1) := by decide +kernel
theorem dX4_about_96 : decode cX4_about 96 = .ok (.iaload, 1) := by decide +kernel
theorem dX4_about_97 : decode cX4_about 97 = .ok (.ireturn, 1) := by decide +kernel
theorem dX4_about_98 : decode cX4_about 98 = .ok (.aload_n 0, 1) := by decide +kernel
theorem dX4_about_99 : decode cX4_about 99 = .ok (.getfield 18, 3) := by decide +kernel
theorem dX4_about_102 : decode cX4_about 102 = .ok (.getfield 109, 3) := by decide +kernel
theorem dX4_about_105 : decode cX4_about 105 = .ok (.iload_n 1, 1) := by decide +kernel
theorem dX4_about_106 : decode cX4_about 106 = .ok (.iaload, 1) := by decide +kernel
theorem dX4_about_107 : decode cX4_about 107 = .ok (.ireturn, 1) := by decide +kernel
theorem dX4_about_108 : decode cX4_about 108 = .ok (.aload_n 0, 1) := by decide +kernel
theorem dX4_about_109 : decode cX4_about 109 = .ok (.getfield 18, 3) := by decide +kernel
theorem dX4_about_112 : decode cX4_about 112 = .ok (.getfield 112, 3) := by decide +kernel
theorem dX4_about_115 : decode cX4_about 115 = .ok (.iload_n 1, 1) := by decide +kernel
theorem dX4_about_116 : decode cX4_about 116 = .ok (.iaload, 1) := by decide +kernel
theorem dX4_about_117 : decode cX4_about 117 = .ok (.ireturn, 1) := by decide +kernel
theorem dX4_about_118 : decode cX4_about 118 = .ok (.aload_n 0, 1) := by decide +kernel
theorem dX4_about_119 : decode cX4_about 119 = .ok (.getfield 18, 3) := by decide +kernel
theorem dX4_about_122 : decode cX4_about 122 = .ok (.iload_n 1, 1) := by decide +kernel
theorem dX4_about_123 : decode cX4_about 123 = .ok (.invokevirtual 115, 3) := by decide +kernel
theorem dX4_about_126 : decode cX4_about 126 = .ok (.invokestatic 118, 3) := by decide +kernel
theorem dX4_about_129 : decode cX4_about 129 = .ok (.ireturn, 1) := by decide +kernel
theorem dX4_about_130 : decode cX4_about 130 = .ok (.aload_n 0, 1) := by decide +kernel
theorem dX4_about_131 : decode cX4_about 131 = .ok (.getfield 18, 3) := by decide +kernel
theorem dX4_about_134 : decode cX4_about 134 = .ok (.iload_n 1, 1) := by decide +kernel
theorem dX4_about_135 : decode cX4_about 135 = .ok (.invokevirtual 115, 3) := by decide +kernel
theorem dX4_about_138 : decode cX4_about 138 = .ok (.ifCond .eq 18, 3) := by decide +kernel
theorem dX4_about_141 : decode cX4_about 141 = .ok (.aload_n 0, 1) := by decide +kernel
theorem dX4_about_142 : decode cX4_about 142 = .ok (.getfield 25, 3) := by decide +kernel
theorem dX4_about_145 : decode cX4_about 145 = .ok (.iload_n 1, 1) := by decide +kernel
theorem dX4_about_146 : decode cX4_about 146 = .ok (.invokevirtual 122, 3) := by decide +kernel
theorem dX4_about_149 : decode cX4_about 149 = .ok (.ifCond .eq 7, 3) := by decide +kernel
theorem dX4_about_152 : decode cX4_about 152 = .ok (.iconst 1, 1) := by decide +kernel
theorem dX4_about_153 : decode cX4_about 153 = .ok (.goto 4, 3) := by decide +kernel
theorem dX4_about_156 : decode cX4_about 156 = .ok (.iconst 0, 1) := by decide +kernel
theorem dX4_about_157 : decode cX4_about 157 = .ok (.invokestatic 118, 3) := by decide +kernel
theorem dX4_about_160 : decode cX4_about 160 = .ok (.ireturn, 1) := by decide +kernel
theorem dX4_about_161 : decode cX4_about 161 = .ok (.aload_n 0, 1) := by decide +kernel
theorem dX4_about_162 : decode cX4_about 162 = .ok (.getfield 18, 3) := by decide +kernel
theorem dX4_about_165 : decode cX4_about 165 = .ok (.iload_n 1, 1) := by decide +kernel
theorem dX4_about_166 : decode cX4_about 166 = .ok (.aload_n 0, 1) := by decide +kernel
theorem dX4_about_167 : decode cX4_about 167 = .ok (.getfield 18, 3) := by decide +kernel
theorem dX4_about_170 : decode cX4_about 170 = .ok (.getfield 125, 3) := by decide +kernel
theorem dX4_about_173 : decode cX4_about 173 = .ok (.aload_n 0, 1) := by decide +kernel
theorem dX4_about_174 : decode cX4_about 174 = .ok (.getfield 25, 3) := by decide +kernel
theorem dX4_about_177 : decode cX4_about 177 = .ok (.invokevirtual 128, 3) := by decide +kernel
theorem dX4_about_180 : decode cX4_about 180 = .ok (.invokevirtual 132, 3) := by decide +kernel
theorem dX4_about_183 : decode cX4_about 183 = .ok (.invokestatic 118, 3) := by decide +kernel
theorem dX4_about_186 : decode cX4_about 186 = .ok (.ireturn, 1) := by decide +kernel
theorem dX4_about_187 : decode cX4_about 187 = .ok (.aload_n 0, 1) := by decide +kernel
theorem dX4_about_188 : decode cX4_about 188 = .ok (.getfield 25, 3) := by decide +kernel
theorem dX4_about_191 : decode cX4_about 191 = .ok (.iload_n 1, 1) := by decide +kernel
theorem dX4_about_192 : decode cX4_about 192 = .ok (.invokevirtual 122, 3) := by decide +kernel
theorem dX4_about_195 : decode cX4_about 195 = .ok (.invokestatic 135, 3) := by decide +kernel
theorem dX4_about_198 : decode cX4_about 198 = .ok (.ireturn, 1) := by decide +kernel
theorem dX4_about_199 : decode cX4_about 199 = .ok (.aload_n 0, 1) := by decide +kernel
theorem dX4_about_200 : decode cX4_about 200 = .ok (.getfield 18, 3) := by decide +kernel
theorem dX4_about_203 : decode cX4_about 203 = .ok (.getfield 140, 3) := by decide +kernel
theorem dX4_about_206 : decode cX4_about 206 = .ok (.iload_n 1, 1) := by decide +kernel
theorem dX4_about_207 : decode cX4_about 207 = .ok (.iaload, 1) := by decide +kernel
theorem dX4_about_208 : decode cX4_about 208 = .ok (.aload_n 0, 1) := by decide +kernel
theorem dX4_about_209 : decode cX4_about 209 = .ok (.getfield 18, 3) := by decide +kernel
theorem dX4_about_212 : decode cX4_about 212 = .ok (.invokevirtual 143, 3) := by decide +kernel
theorem dX4_about_215 : decode cX4_about 215 = .ok (.iand, 1) := by decide +kernel
theorem dX4_about_216 : decode cX4_about 216 = .ok (.invokestatic 135, 3) := by decide +kernel
theorem dX4_about_219 : decode cX4_about 219 = .ok (.ireturn, 1) := by decide +kernel
theorem dX4_about_220 : decode cX4_about 220 = .ok (.bipush (-2), 2) := by decide +kernel
theorem dX4_about_222 : decode cX4_about 222 = .ok (.ireturn, 1) := by decide +kernel
set_option maxRecDepth 20000 in
theorem ggX4_over_X2_has : GoodIn wsX4_over wsX2_has := goodIn_r _ [7, 8, 23, 24, 25, 26, 27, 28, 29, 30, 31] (by decide +kernel) (by decide +kernel)
set_option maxRecDepth 20000 in
theorem gX4_over_X2_has : GoodIn wsX4_over (wsV RX4 97 RX2 yX2_has wsX2_has) := goodIn_app (goodIn_of _ (by decide +kernel)) ggX4_over_X2_has
set_option maxRecDepth 20000 in
theorem ggX4_over_X4_isIn : GoodIn wsX4_over wsX4_isIn := goodIn_r _ [12] (by decide +kernel) (by decide +kernel)
set_option maxRecDepth 20000 in
theorem gX4_over_X4_isIn : GoodIn wsX4_over (va_wsS RX4 146 yX4_isIn wsX4_isIn) := goodIn_app (goodIn_of _ (by decide +kernel)) ggX4_over_X4_isIn
set_option maxRecDepth 20000 in
theorem ggX4_over_X4_oneIf : GoodIn wsX4_over wsX4_oneIf := goodIn_r _ [15] (by decide +kernel) (by decide +kernel)
set_option maxRecDepth 20000 in
theorem gX4_over_X4_oneIf : GoodIn wsX4_over (va_wsS RX4 118 yX4_oneIf wsX4_oneIf) := goodIn_app (goodIn_of _ (by decide +kernel)) ggX4_over_X4_oneIf
theorem dX4_over_0 : decode cX4_over 0 = .ok (.aload_n 0, 1) := by decide +kernel
theorem dX4_over_1 : decode cX4_over 1 = .ok (.getfield 18, 3) := by decide +kernel
theorem dX4_over_4 : decode cX4_over 4 = .ok (.iload_n 1, 1) := by decide +kernel
theorem dX4_over_5 : decode cX4_over 5 = .ok (.invokevirtual 97, 3) := by decide +kernel
theorem dX4_over_8 : decode cX4_over 8 = .ok (.ifCond .eq 14, 3) := by decide +kernel
theorem dX4_over_11 : decode cX4_over 11 = .ok (.aload_n 0, 1) := by decide +kernel
theorem dX4_over_12 : decode cX4_over 12 = .ok (.getfield 18, 3) := by decide +kernel
theorem dX4_over_15 : decode cX4_over 15 = .ok (.iload_n 2, 1) := by decide +kernel
theorem dX4_over_16 : decode cX4_over 16 = .ok (.invokevirtual 97, 3) := by decide +kernel
theorem dX4_over_19 : decode cX4_over 19 = .ok (.ifCond .ne 5, 3) := by decide +kernel
theorem dX4_over_22 : decode cX4_over 22 = .ok (.iconst (-1), 1) := by decide +kernel
theorem dX4_over_23 : decode cX4_over 23 = .ok (.ireturn, 1) := by decide +kernel
theorem dX4_over_24 : decode cX4_over 24 = .ok (.aload_n 0, 1) := by decide +kernel
theorem dX4_over_25 : decode cX4_over 25 = .ok (.getfield 18, 3) := by decide +kernel
theorem dX4_over_28 : decode cX4_over 28 = .ok (.getfield 140, 3) := by decide +kernel
theorem dX4_over_31 : decode cX4_over 31 = .ok (.iload_n 1, 1) := by decide +kernel
theorem dX4_over_32 : decode cX4_over 32 = .ok (.iaload, 1) := by decide +kernel
theorem dX4_over_33 : decode cX4_over 33 = .ok (.iload_n 2, 1) := by decide +kernel
theorem dX4_over_34 : decode cX4_over 34 = .ok (.invokestatic 146, 3) := by decide +kernel
theorem dX4_over_37 : decode cX4_over 37 = .ok (.invokestatic 118, 3) := by decide +kernel
theorem dX4_over_40 : decode cX4_over 40 = .ok (.ireturn, 1) := by decide +kernel
set_option maxRecDepth 20000 in
theorem ggX4_stack_X4_isWithin : GoodIn wsX4_stack wsX4_isWithin := goodIn_r _ [6] (by decide +kernel) (by decide +kernel)
set_option maxRecDepth 20000 in
theorem gX4_stack_X4_isWithin : GoodIn wsX4_stack (va_wsS RX4 53 yX4_isWithin wsX4_isWithin) := goodIn_app (goodIn_of _ (by decide +kernel)) ggX4_stack_X4_isWithin
set_option maxRecDepth 20000 in
theorem ggX4_stack_X2_thickAt : GoodIn wsX4_stack wsX2_thickAt := goodIn_r _ [11, 12, 13, 14, 15, 16, 10, 17, 18, 19, 5, 20, 21, 22, 23, 24, 25, 26, 27, 28, 29, 30, 31, 32, 33, 34, 35, 36, 37, 38, 46, 47, 48, 49, 50, 51, 52, 53, 54] (by decide +kernel) (by decide +kernel)
set_option maxRecDepth 20000 in
theorem gX4_stack_X2_thickAt : GoodIn wsX4_stack (wsV RX4 150 RX2 yX2_thickAt wsX2_thickAt) := goodIn_app (goodIn_of _ (by decide +kernel)) ggX4_stack_X2_thickAt
theorem dX4_stack_0 : decode cX4_stack 0 = .ok (.iload_n 1, 1) := by decide +kernel
theorem dX4_stack_1 : decode cX4_stack 1 = .ok (.bipush (-100), 2) := by decide +kernel
theorem dX4_stack_3 : decode cX4_stack 3 = .ok (.sipush 200, 3) := by decide +kernel
theorem dX4_stack_6 : decode cX4_stack 6 = .ok (.invokestatic 53, 3) := by decide +kernel
theorem dX4_stack_9 : decode cX4_stack 9 = .ok (.ifCond .ne 6, 3) := by decide +kernel
theorem dX4_stack_12 : decode cX4_stack 12 = .ok (.bipush (-2), 2) := by decide +kernel
theorem dX4_stack_14 : decode cX4_stack 14 = .ok (.ireturn, 1) := by decide +kernel
theorem dX4_stack_15 : decode cX4_stack 15 = .ok (.aload_n 0, 1) := by decide +kernel
theorem dX4_stack_16 : decode cX4_stack 16 = .ok (.getfield 9, 3) := by decide +kernel
theorem dX4_stack_19 : decode cX4_stack 19 = .ok (.iconst 2, 1) := by decide +kernel
theorem dX4_stack_20 : decode cX4_stack 20 = .ok (.iaload, 1) := by decide +kernel
theorem dX4_stack_21 : decode cX4_stack 21 = .ok (.aload_n 0, 1) := by decide +kernel
theorem dX4_stack_22 : decode cX4_stack 22 = .ok (.getfield 18, 3) := by decide +kernel
theorem dX4_stack_25 : decode cX4_stack 25 = .ok (.iload_n 1, 1) := by decide +kernel
theorem dX4_stack_26 : decode cX4_stack 26 = .ok (.invokevirtual 150, 3) := by decide +kernel
theorem dX4_stack_29 : decode cX4_stack 29 = .ok (.iadd, 1) := by decide +kernel
theorem dX4_stack_30 : decode cX4_stack 30 = .ok (.ireturn, 1) := by decide +kernel
set_option maxRecDepth 20000 in
theorem ggX4_fits_X2_greatestThick : GoodIn wsX4_fits wsX2_greatestThick := goodIn_r _ [7, 8, 9, 10, 11, 12, 13, 14, 15, 6, 16, 17, 18, 19, 20, 21, 22, 23, 24, 25, 26, 27, 28, 29, 30, 31, 32, 33, 34, 35, 36, 37, 38, 39, 55, 56, 57, 58, 59, 60, 61, 62, 63] (by decide +kernel) (by decide +kernel)
set_option maxRecDepth 20000 in
theorem gX4_fits_X2_greatestThick : GoodIn wsX4_fits (wsV RX4 153 RX2 yX2_greatestThick wsX2_greatestThick) := goodIn_app (goodIn_of _ (by decide +kernel)) ggX4_fits_X2_greatestThick
set_option maxRecDepth 20000 in
theorem ggX4_fits_X4_oneIf : GoodIn wsX4_fits wsX4_oneIf := goodIn_r _ [42] (by decide +kernel) (by decide +kernel)
set_option maxRecDepth 20000 in
theorem gX4_fits_X4_oneIf : GoodIn wsX4_fits (va_wsS RX4 118 yX4_oneIf wsX4_oneIf) := goodIn_app (goodIn_of _ (by decide +kernel)) ggX4_fits_X4_oneIf
set_option maxRecDepth 20000 in
theorem ggX4_fits_X4_slices : GoodIn wsX4_fits wsX4_slices := goodIn_r _ [46, 1, 47, 10, 11, 12, 48, 49, 50, 51, 52, 53, 54] (by decide +kernel) (by decide +kernel)
set_option maxRecDepth 20000 in
theorem gX4_fits_X4_slices : GoodIn wsX4_fits (wsV RX4 156 RX4 yX4_slices wsX4_slices) := goodIn_app (goodIn_of _ (by decide +kernel)) ggX4_fits_X4_slices
theorem dX4_fits_0 : decode cX4_fits 0 = .ok (.aload_n 0, 1) := by decide +kernel
theorem dX4_fits_1 : decode cX4_fits 1 = .ok (.getfield 9, 3) := by decide +kernel
theorem dX4_fits_4 : decode cX4_fits 4 = .ok (.iconst 2, 1) := by decide +kernel
theorem dX4_fits_5 : decode cX4_fits 5 = .ok (.iaload, 1) := by decide +kernel
theorem dX4_fits_6 : decode cX4_fits 6 = .ok (.aload_n 0, 1) := by decide +kernel
theorem dX4_fits_7 : decode cX4_fits 7 = .ok (.getfield 18, 3) := by decide +kernel
theorem dX4_fits_10 : decode cX4_fits 10 = .ok (.invokevirtual 153, 3) := by decide +kernel
theorem dX4_fits_13 : decode cX4_fits 13 = .ok (.iadd, 1) := by decide +kernel
theorem dX4_fits_14 : decode cX4_fits 14 = .ok (.istore_n 2, 1) := by decide +kernel
theorem dX4_fits_15 : decode cX4_fits 15 = .ok (.iload_n 1, 1) := by decide +kernel
theorem dX4_fits_16 : decode cX4_fits 16 = .ok (.tableswitch 69 0 2 #[28, 62, 64], 28) := by decide +kernel
theorem dX4_fits_44 : decode cX4_fits 44 = .ok (.iload_n 2, 1) := by decide +kernel
theorem dX4_fits_45 : decode cX4_fits 45 = .ok (.aload_n 0, 1) := by decide +kernel
theorem dX4_fits_46 : decode cX4_fits 46 = .ok (.getfield 9, 3) := by decide +kernel
theorem dX4_fits_49 : decode cX4_fits 49 = .ok (.iconst 4, 1) := by decide +kernel
theorem dX4_fits_50 : decode cX4_fits 50 = .ok (.iaload, 1) := by decide +kernel
theorem dX4_fits_51 : decode cX4_fits 51 = .ok (.if_icmp .gt 22, 3) := by decide +kernel
theorem dX4_fits_54 : decode cX4_fits 54 = .ok (.aload_n 0, 1) := by decide +kernel
theorem dX4_fits_55 : decode cX4_fits 55 = .ok (.getfield 9, 3) := by decide +kernel
theorem dX4_fits_58 : decode cX4_fits 58 = .ok (.iconst 1, 1) := by decide +kernel
theorem dX4_fits_59 : decode cX4_fits 59 = .ok (.iaload, 1) := by decide +kernel
theorem dX4_fits_60 : decode cX4_fits 60 = .ok (.aload_n 0, 1) := by decide +kernel
theorem dX4_fits_61 : decode cX4_fits 61 = .ok (.getfield 9, 3) := by decide +kernel
theorem dX4_fits_64 : decode cX4_fits 64 = .ok (.iconst 3, 1) := by decide +kernel
theorem dX4_fits_65 : decode cX4_fits 65 = .ok (.iaload, 1) := by decide +kernel
theorem dX4_fits_66 : decode cX4_fits 66 = .ok (.if_icmp .gt 7, 3) := by decide +kernel
theorem dX4_fits_69 : decode cX4_fits 69 = .ok (.iconst 1, 1) := by decide +kernel
theorem dX4_fits_70 : decode cX4_fits 70 = .ok (.goto 4, 3) := by decide +kernel
theorem dX4_fits_73 : decode cX4_fits 73 = .ok (.iconst 0, 1) := by decide +kernel
theorem dX4_fits_74 : decode cX4_fits 74 = .ok (.invokestatic 118, 3) := by decide +kernel
theorem dX4_fits_77 : decode cX4_fits 77 = .ok (.ireturn, 1) := by decide +kernel
theorem dX4_fits_78 : decode cX4_fits 78 = .ok (.iload_n 2, 1) := by decide +kernel
theorem dX4_fits_79 : decode cX4_fits 79 = .ok (.ireturn, 1) := by decide +kernel
theorem dX4_fits_80 : decode cX4_fits 80 = .ok (.aload_n 0, 1) := by decide +kernel
theorem dX4_fits_81 : decode cX4_fits 81 = .ok (.invokevirtual 156, 3) := by decide +kernel
theorem dX4_fits_84 : decode cX4_fits 84 = .ok (.ireturn, 1) := by decide +kernel
theorem dX4_fits_85 : decode cX4_fits 85 = .ok (.bipush (-2), 2) := by decide +kernel
theorem dX4_fits_87 : decode cX4_fits 87 = .ok (.ireturn, 1) := by decide +kernel
set_option maxRecDepth 20000 in
theorem ggX4_thread_X2_has : GoodIn wsX4_thread wsX2_has := goodIn_r _ [11, 12, 48, 49, 50, 51, 52, 53, 54, 55, 56] (by decide +kernel) (by decide +kernel)
set_option maxRecDepth 20000 in
theorem gX4_thread_X2_has : GoodIn wsX4_thread (wsV RX4 97 RX2 yX2_has wsX2_has) := goodIn_app (goodIn_of _ (by decide +kernel)) ggX4_thread_X2_has
set_option maxRecDepth 20000 in
theorem ggX4_thread_X4_isWithin : GoodIn wsX4_thread wsX4_isWithin := goodIn_r _ [16] (by decide +kernel) (by decide +kernel)
set_option maxRecDepth 20000 in
theorem gX4_thread_X4_isWithin : GoodIn wsX4_thread (va_wsS RX4 53 yX4_isWithin wsX4_isWithin) := goodIn_app (goodIn_of _ (by decide +kernel)) ggX4_thread_X4_isWithin
set_option maxRecDepth 20000 in
theorem ggX4_thread_X3_add : GoodIn wsX4_thread wsX3_add := goodIn_r _ [21, 22, 23, 24, 25, 26, 27, 28, 29, 30, 31, 32, 20, 33, 34, 35, 36, 37, 38, 39, 40, 57, 58, 59, 60, 61, 62, 63, 64] (by decide +kernel) (by decide +kernel)
set_option maxRecDepth 20000 in
theorem gX4_thread_X3_add : GoodIn wsX4_thread (wsV RX4 159 RX3 yX3_add wsX3_add) := goodIn_app (goodIn_of _ (by decide +kernel)) ggX4_thread_X3_add
theorem dX4_thread_0 : decode cX4_thread 0 = .ok (.aload_n 0, 1) := by decide +kernel
theorem dX4_thread_1 : decode cX4_thread 1 = .ok (.getfield 18, 3) := by decide +kernel
theorem dX4_thread_4 : decode cX4_thread 4 = .ok (.iload_n 2, 1) := by decide +kernel
theorem dX4_thread_5 : decode cX4_thread 5 = .ok (.invokevirtual 97, 3) := by decide +kernel
theorem dX4_thread_8 : decode cX4_thread 8 = .ok (.ifCond .ne 5, 3) := by decide +kernel
theorem dX4_thread_11 : decode cX4_thread 11 = .ok (.iconst (-1), 1) := by decide +kernel
theorem dX4_thread_12 : decode cX4_thread 12 = .ok (.ireturn, 1) := by decide +kernel
theorem dX4_thread_13 : decode cX4_thread 13 = .ok (.iload_n 1, 1) := by decide +kernel
theorem dX4_thread_14 : decode cX4_thread 14 = .ok (.bipush (-20), 2) := by decide +kernel
theorem dX4_thread_16 : decode cX4_thread 16 = .ok (.aload_n 0, 1) := by decide +kernel
theorem dX4_thread_17 : decode cX4_thread 17 = .ok (.getfield 9, 3) := by decide +kernel
theorem dX4_thread_20 : decode cX4_thread 20 = .ok (.iconst 0, 1) := by decide +kernel
theorem dX4_thread_21 : decode cX4_thread 21 = .ok (.iaload, 1) := by decide +kernel
theorem dX4_thread_22 : decode cX4_thread 22 = .ok (.bipush 20, 2) := by decide +kernel
theorem dX4_thread_24 : decode cX4_thread 24 = .ok (.iadd, 1) := by decide +kernel
theorem dX4_thread_25 : decode cX4_thread 25 = .ok (.invokestatic 53, 3) := by decide +kernel
theorem dX4_thread_28 : decode cX4_thread 28 = .ok (.ifCond .eq 20, 3) := by decide +kernel
theorem dX4_thread_31 : decode cX4_thread 31 = .ok (.iload_n 3, 1) := by decide +kernel
theorem dX4_thread_32 : decode cX4_thread 32 = .ok (.iconst 1, 1) := by decide +kernel
theorem dX4_thread_33 : decode cX4_thread 33 = .ok (.aload_n 0, 1) := by decide +kernel
theorem dX4_thread_34 : decode cX4_thread 34 = .ok (.getfield 18, 3) := by decide +kernel
theorem dX4_thread_37 : decode cX4_thread 37 = .ok (.getfield 106, 3) := by decide +kernel
theorem dX4_thread_40 : decode cX4_thread 40 = .ok (.iload_n 2, 1) := by decide +kernel
theorem dX4_thread_41 : decode cX4_thread 41 = .ok (.iaload, 1) := by decide +kernel
theorem dX4_thread_42 : decode cX4_thread 42 = .ok (.invokestatic 53, 3) := by decide +kernel
theorem dX4_thread_45 : decode cX4_thread 45 = .ok (.ifCond .ne 6, 3) := by decide +kernel
theorem dX4_thread_48 : decode cX4_thread 48 = .ok (.bipush (-2), 2) := by decide +kernel
theorem dX4_thread_50 : decode cX4_thread 50 = .ok (.ireturn, 1) := by decide +kernel
theorem dX4_thread_51 : decode cX4_thread 51 = .ok (.iload_n 1, 1) := by decide +kernel
theorem dX4_thread_52 : decode cX4_thread 52 = .ok (.aload_n 0, 1) := by decide +kernel
theorem dX4_thread_53 : decode cX4_thread 53 = .ok (.getfield 18, 3) := by decide +kernel
theorem dX4_thread_56 : decode cX4_thread 56 = .ok (.getfield 103, 3) := by decide +kernel
theorem dX4_thread_59 : decode cX4_thread 59 = .ok (.iload_n 2, 1) := by decide +kernel
theorem dX4_thread_60 : decode cX4_thread 60 = .ok (.iaload, 1) := by decide +kernel
theorem dX4_thread_61 : decode cX4_thread 61 = .ok (.isub, 1) := by decide +kernel
theorem dX4_thread_62 : decode cX4_thread 62 = .ok (.aload_n 0, 1) := by decide +kernel
theorem dX4_thread_63 : decode cX4_thread 63 = .ok (.getfield 18, 3) := by decide +kernel
theorem dX4_thread_66 : decode cX4_thread 66 = .ok (.getfield 112, 3) := by decide +kernel
theorem dX4_thread_69 : decode cX4_thread 69 = .ok (.iload_n 2, 1) := by decide +kernel
theorem dX4_thread_70 : decode cX4_thread 70 = .ok (.iaload, 1) := by decide +kernel
theorem dX4_thread_71 : decode cX4_thread 71 = .ok (.imul, 1) := by decide +kernel
theorem dX4_thread_72 : decode cX4_thread 72 = .ok (.ifCond .ge 7, 3) := by decide +kernel
theorem dX4_thread_75 : decode cX4_thread 75 = .ok (.iconst 1, 1) := by decide +kernel
theorem dX4_thread_76 : decode cX4_thread 76 = .ok (.goto 4, 3) := by decide +kernel
theorem dX4_thread_79 : decode cX4_thread 79 = .ok (.iconst 0, 1) := by decide +kernel
theorem dX4_thread_80 : decode cX4_thread 80 = .ok (.istore 4, 2) := by decide +kernel
theorem dX4_thread_82 : decode cX4_thread 82 = .ok (.aload_n 0, 1) := by decide +kernel
theorem dX4_thread_83 : decode cX4_thread 83 = .ok (.getfield 25, 3) := by decide +kernel
theorem dX4_thread_86 : decode cX4_thread 86 = .ok (.iload_n 1, 1) := by decide +kernel
theorem dX4_thread_87 : decode cX4_thread 87 = .ok (.iload_n 2, 1) := by decide +kernel
theorem dX4_thread_88 : decode cX4_thread 88 = .ok (.iload_n 3, 1) := by decide +kernel
theorem dX4_thread_89 : decode cX4_thread 89 = .ok (.aload_n 0, 1) := by decide +kernel
theorem dX4_thread_90 : decode cX4_thread 90 = .ok (.getfield 18, 3) := by decide +kernel
theorem dX4_thread_93 : decode cX4_thread 93 = .ok (.getfield 103, 3) := by decide +kernel
theorem dX4_thread_96 : decode cX4_thread 96 = .ok (.iload_n 2, 1) := by decide +kernel
theorem dX4_thread_97 : decode cX4_thread 97 = .ok (.iaload, 1) := by decide +kernel
theorem dX4_thread_98 : decode cX4_thread 98 = .ok (.iload 4, 2) := by decide +kernel
theorem dX4_thread_100 : decode cX4_thread 100 = .ok (.invokevirtual 159, 3) := by decide +kernel
theorem dX4_thread_103 : decode cX4_thread 103 = .ok (.ireturn, 1) := by decide +kernel
set_option maxRecDepth 20000 in
theorem ggX4_cut_X3_has : GoodIn wsX4_cut wsX3_has := goodIn_r _ [7, 8, 23, 24, 25, 26, 27, 28, 29, 30] (by decide +kernel) (by decide +kernel)
set_option maxRecDepth 20000 in
theorem gX4_cut_X3_has : GoodIn wsX4_cut (wsV RX4 162 RX3 yX3_has wsX3_has) := goodIn_app (goodIn_of _ (by decide +kernel)) ggX4_cut_X3_has
set_option maxRecDepth 20000 in
theorem ggX4_cut_X4_isIn : GoodIn wsX4_cut wsX4_isIn := goodIn_r _ [12] (by decide +kernel) (by decide +kernel)
set_option maxRecDepth 20000 in
theorem gX4_cut_X4_isIn : GoodIn wsX4_cut (va_wsS RX4 146 yX4_isIn wsX4_isIn) := goodIn_app (goodIn_of _ (by decide +kernel)) ggX4_cut_X4_isIn
set_option maxRecDepth 20000 in
theorem ggX4_cut_X4_oneIf : GoodIn wsX4_cut wsX4_oneIf := goodIn_r _ [15] (by decide +kernel) (by decide +kernel)
set_option maxRecDepth 20000 in
theorem gX4_cut_X4_oneIf : GoodIn wsX4_cut (va_wsS RX4 118 yX4_oneIf wsX4_oneIf) := goodIn_app (goodIn_of _ (by decide +kernel)) ggX4_cut_X4_oneIf
theorem dX4_cut_0 : decode cX4_cut 0 = .ok (.aload_n 0, 1) := by decide +kernel
theorem dX4_cut_1 : decode cX4_cut 1 = .ok (.getfield 25, 3) := by decide +kernel
theorem dX4_cut_4 : decode cX4_cut 4 = .ok (.iload_n 1, 1) := by decide +kernel
theorem dX4_cut_5 : decode cX4_cut 5 = .ok (.invokevirtual 162, 3) := by decide +kernel
theorem dX4_cut_8 : decode cX4_cut 8 = .ok (.ifCond .ne 5, 3) := by decide +kernel
theorem dX4_cut_11 : decode cX4_cut 11 = .ok (.iconst (-1), 1) := by decide +kernel
theorem dX4_cut_12 : decode cX4_cut 12 = .ok (.ireturn, 1) := by decide +kernel
theorem dX4_cut_13 : decode cX4_cut 13 = .ok (.aload_n 0, 1) := by decide +kernel
theorem dX4_cut_14 : decode cX4_cut 14 = .ok (.getfield 25, 3) := by decide +kernel
theorem dX4_cut_17 : decode cX4_cut 17 = .ok (.getfield 163, 3) := by decide +kernel
theorem dX4_cut_20 : decode cX4_cut 20 = .ok (.iload_n 1, 1) := by decide +kernel
theorem dX4_cut_21 : decode cX4_cut 21 = .ok (.invokestatic 146, 3) := by decide +kernel
theorem dX4_cut_24 : decode cX4_cut 24 = .ok (.invokestatic 118, 3) := by decide +kernel
theorem dX4_cut_27 : decode cX4_cut 27 = .ok (.istore_n 2, 1) := by decide +kernel
theorem dX4_cut_28 : decode cX4_cut 28 = .ok (.aload_n 0, 1) := by decide +kernel
theorem dX4_cut_29 : decode cX4_cut 29 = .ok (.getfield 25, 3) := by decide +kernel
theorem dX4_cut_32 : decode cX4_cut 32 = .ok (.dup, 1) := by decide +kernel
theorem dX4_cut_33 : decode cX4_cut 33 = .ok (.getfield 163, 3) := by decide +kernel
theorem dX4_cut_36 : decode cX4_cut 36 = .ok (.iconst 1, 1) := by decide +kernel
theorem dX4_cut_37 : decode cX4_cut 37 = .ok (.iload_n 1, 1) := by decide +kernel
theorem dX4_cut_38 : decode cX4_cut 38 = .ok (.ishl, 1) := by decide +kernel
theorem dX4_cut_39 : decode cX4_cut 39 = .ok (.iconst (-1), 1) := by decide +kernel
theorem dX4_cut_40 : decode cX4_cut 40 = .ok (.ixor, 1) := by decide +kernel
theorem dX4_cut_41 : decode cX4_cut 41 = .ok (.iand, 1) := by decide +kernel
theorem dX4_cut_42 : decode cX4_cut 42 = .ok (.putfield 163, 3) := by decide +kernel
theorem dX4_cut_45 : decode cX4_cut 45 = .ok (.iload_n 2, 1) := by decide +kernel
theorem dX4_cut_46 : decode cX4_cut 46 = .ok (.ireturn, 1) := by decide +kernel
set_option maxRecDepth 20000 in
theorem ggX4_threaded_X3_has : GoodIn wsX4_threaded wsX3_has := goodIn_r _ [11, 12, 40, 41, 42, 43, 44, 45, 46, 47] (by decide +kernel) (by decide +kernel)
set_option maxRecDepth 20000 in
theorem gX4_threaded_X3_has : GoodIn wsX4_threaded (wsV RX4 162 RX3 yX3_has wsX3_has) := goodIn_app (goodIn_of _ (by decide +kernel)) ggX4_threaded_X3_has
set_option maxRecDepth 20000 in
theorem ggX4_threaded_X4_isIn : GoodIn wsX4_threaded wsX4_isIn := goodIn_r _ [16] (by decide +kernel) (by decide +kernel)
set_option maxRecDepth 20000 in
theorem gX4_threaded_X4_isIn : GoodIn wsX4_threaded (va_wsS RX4 146 yX4_isIn wsX4_isIn) := goodIn_app (goodIn_of _ (by decide +kernel)) ggX4_threaded_X4_isIn
set_option maxRecDepth 20000 in
theorem ggX4_threaded_X4_oneIf : GoodIn wsX4_threaded wsX4_oneIf := goodIn_r _ [19] (by decide +kernel) (by decide +kernel)
set_option maxRecDepth 20000 in
theorem gX4_threaded_X4_oneIf : GoodIn wsX4_threaded (va_wsS RX4 118 yX4_oneIf wsX4_oneIf) := goodIn_app (goodIn_of _ (by decide +kernel)) ggX4_threaded_X4_oneIf
set_option maxRecDepth 20000 in
theorem ggX4_threaded_X3_raising : GoodIn wsX4_threaded wsX3_raising := goodIn_r _ [23, 24, 25, 40, 41, 42, 43, 44, 45, 46, 47] (by decide +kernel) (by decide +kernel)
set_option maxRecDepth 20000 in
theorem gX4_threaded_X3_raising : GoodIn wsX4_threaded (wsV RX4 175 RX3 yX3_raising wsX3_raising) := goodIn_app (goodIn_of _ (by decide +kernel)) ggX4_threaded_X3_raising
set_option maxRecDepth 20000 in
theorem ggX4_threaded_J6_bitCount_0f7a4 : GoodIn wsX4_threaded wsJ6_bitCount_0f7a4 := goodIn_r _ [29, 30, 31, 32] (by decide +kernel) (by decide +kernel)
set_option maxRecDepth 20000 in
theorem gX4_threaded_J6_bitCount_0f7a4 : GoodIn wsX4_threaded (va_wsS RX4 135 yJ6_bitCount_0f7a4 wsJ6_bitCount_0f7a4) := goodIn_app (goodIn_of _ (by decide +kernel)) ggX4_threaded_J6_bitCount_0f7a4
theorem dX4_threaded_0 : decode cX4_threaded 0 = .ok (.aload_n 0, 1) := by decide +kernel
theorem dX4_threaded_1 : decode cX4_threaded 1 = .ok (.getfield 25, 3) := by decide +kernel
theorem dX4_threaded_4 : decode cX4_threaded 4 = .ok (.iload_n 1, 1) := by decide +kernel
theorem dX4_threaded_5 : decode cX4_threaded 5 = .ok (.invokevirtual 162, 3) := by decide +kernel
theorem dX4_threaded_8 : decode cX4_threaded 8 = .ok (.ifCond .ne 5, 3) := by decide +kernel
theorem dX4_threaded_11 : decode cX4_threaded 11 = .ok (.iconst (-1), 1) := by decide +kernel
theorem dX4_threaded_12 : decode cX4_threaded 12 = .ok (.ireturn, 1) := by decide +kernel
theorem dX4_threaded_13 : decode cX4_threaded 13 = .ok (.iload_n 2, 1) := by decide +kernel
theorem dX4_threaded_14 : decode cX4_threaded 14 = .ok (.tableswitch 119 0 5 #[38, 48, 58, 68, 83, 98], 38) := by decide +kernel
theorem dX4_threaded_52 : decode cX4_threaded 52 = .ok (.aload_n 0, 1) := by decide +kernel
theorem dX4_threaded_53 : decode cX4_threaded 53 = .ok (.getfield 25, 3) := by decide +kernel
theorem dX4_threaded_56 : decode cX4_threaded 56 = .ok (.getfield 166, 3) := by decide +kernel
theorem dX4_threaded_59 : decode cX4_threaded 59 = .ok (.iload_n 1, 1) := by decide +kernel
theorem dX4_threaded_60 : decode cX4_threaded 60 = .ok (.iaload, 1) := by decide +kernel
theorem dX4_threaded_61 : decode cX4_threaded 61 = .ok (.ireturn, 1) := by decide +kernel
theorem dX4_threaded_62 : decode cX4_threaded 62 = .ok (.aload_n 0, 1) := by decide +kernel
theorem dX4_threaded_63 : decode cX4_threaded 63 = .ok (.getfield 25, 3) := by decide +kernel
theorem dX4_threaded_66 : decode cX4_threaded 66 = .ok (.getfield 169, 3) := by decide +kernel
theorem dX4_threaded_69 : decode cX4_threaded 69 = .ok (.iload_n 1, 1) := by decide +kernel
theorem dX4_threaded_70 : decode cX4_threaded 70 = .ok (.iaload, 1) := by decide +kernel
theorem dX4_threaded_71 : decode cX4_threaded 71 = .ok (.ireturn, 1) := by decide +kernel
theorem dX4_threaded_72 : decode cX4_threaded 72 = .ok (.aload_n 0, 1) := by decide +kernel
theorem dX4_threaded_73 : decode cX4_threaded 73 = .ok (.getfield 25, 3) := by decide +kernel
theorem dX4_threaded_76 : decode cX4_threaded 76 = .ok (.getfield 172, 3) := by decide +kernel
theorem dX4_threaded_79 : decode cX4_threaded 79 = .ok (.iload_n 1, 1) := by decide +kernel
theorem dX4_threaded_80 : decode cX4_threaded 80 = .ok (.iaload, 1) := by decide +kernel
theorem dX4_threaded_81 : decode cX4_threaded 81 = .ok (.ireturn, 1) := by decide +kernel
theorem dX4_threaded_82 : decode cX4_threaded 82 = .ok (.aload_n 0, 1) := by decide +kernel
theorem dX4_threaded_83 : decode cX4_threaded 83 = .ok (.getfield 25, 3) := by decide +kernel
theorem dX4_threaded_86 : decode cX4_threaded 86 = .ok (.getfield 163, 3) := by decide +kernel
theorem dX4_threaded_89 : decode cX4_threaded 89 = .ok (.iload_n 1, 1) := by decide +kernel
theorem dX4_threaded_90 : decode cX4_threaded 90 = .ok (.invokestatic 146, 3) := by decide +kernel
theorem dX4_threaded_93 : decode cX4_threaded 93 = .ok (.invokestatic 118, 3) := by decide +kernel
theorem dX4_threaded_96 : decode cX4_threaded 96 = .ok (.ireturn, 1) := by decide +kernel
theorem dX4_threaded_97 : decode cX4_threaded 97 = .ok (.aload_n 0, 1) := by decide +kernel
theorem dX4_threaded_98 : decode cX4_threaded 98 = .ok (.getfield 25, 3) := by decide +kernel
theorem dX4_threaded_101 : decode cX4_threaded 101 = .ok (.invokevirtual 175, 3) := by decide +kernel
theorem dX4_threaded_104 : decode cX4_threaded 104 = .ok (.iload_n 1, 1) := by decide +kernel
theorem dX4_threaded_105 : decode cX4_threaded 105 = .ok (.invokestatic 146, 3) := by decide +kernel
theorem dX4_threaded_108 : decode cX4_threaded 108 = .ok (.invokestatic 118, 3) := by decide +kernel
theorem dX4_threaded_111 : decode cX4_threaded 111 = .ok (.ireturn, 1) := by decide +kernel
theorem dX4_threaded_112 : decode cX4_threaded 112 = .ok (.aload_n 0, 1) := by decide +kernel
theorem dX4_threaded_113 : decode cX4_threaded 113 = .ok (.getfield 25, 3) := by decide +kernel
theorem dX4_threaded_116 : decode cX4_threaded 116 = .ok (.getfield 178, 3) := by decide +kernel
theorem dX4_threaded_119 : decode cX4_threaded 119 = .ok (.iload_n 1, 1) := by decide +kernel
theorem dX4_threaded_120 : decode cX4_threaded 120 = .ok (.iaload, 1) := by decide +kernel
theorem dX4_threaded_121 : decode cX4_threaded 121 = .ok (.aload_n 0, 1) := by decide +kernel
theorem dX4_threaded_122 : decode cX4_threaded 122 = .ok (.getfield 25, 3) := by decide +kernel
theorem dX4_threaded_125 : decode cX4_threaded 125 = .ok (.getfield 163, 3) := by decide +kernel
theorem dX4_threaded_128 : decode cX4_threaded 128 = .ok (.iand, 1) := by decide +kernel
theorem dX4_threaded_129 : decode cX4_threaded 129 = .ok (.invokestatic 135, 3) := by decide +kernel
theorem dX4_threaded_132 : decode cX4_threaded 132 = .ok (.ireturn, 1) := by decide +kernel
theorem dX4_threaded_133 : decode cX4_threaded 133 = .ok (.bipush (-2), 2) := by decide +kernel
theorem dX4_threaded_135 : decode cX4_threaded 135 = .ok (.ireturn, 1) := by decide +kernel
set_option maxRecDepth 20000 in
theorem ggX4_cross_X3_has : GoodIn wsX4_cross wsX3_has := goodIn_r _ [7, 8, 23, 24, 25, 26, 27, 28, 29, 30] (by decide +kernel) (by decide +kernel)
set_option maxRecDepth 20000 in
theorem gX4_cross_X3_has : GoodIn wsX4_cross (wsV RX4 162 RX3 yX3_has wsX3_has) := goodIn_app (goodIn_of _ (by decide +kernel)) ggX4_cross_X3_has
set_option maxRecDepth 20000 in
theorem ggX4_cross_X4_isIn : GoodIn wsX4_cross wsX4_isIn := goodIn_r _ [12] (by decide +kernel) (by decide +kernel)
set_option maxRecDepth 20000 in
theorem gX4_cross_X4_isIn : GoodIn wsX4_cross (va_wsS RX4 146 yX4_isIn wsX4_isIn) := goodIn_app (goodIn_of _ (by decide +kernel)) ggX4_cross_X4_isIn
set_option maxRecDepth 20000 in
theorem ggX4_cross_X4_oneIf : GoodIn wsX4_cross wsX4_oneIf := goodIn_r _ [15] (by decide +kernel) (by decide +kernel)
set_option maxRecDepth 20000 in
theorem gX4_cross_X4_oneIf : GoodIn wsX4_cross (va_wsS RX4 118 yX4_oneIf wsX4_oneIf) := goodIn_app (goodIn_of _ (by decide +kernel)) ggX4_cross_X4_oneIf
theorem dX4_cross_0 : decode cX4_cross 0 = .ok (.aload_n 0, 1) := by decide +kernel
theorem dX4_cross_1 : decode cX4_cross 1 = .ok (.getfield 25, 3) := by decide +kernel
theorem dX4_cross_4 : decode cX4_cross 4 = .ok (.iload_n 1, 1) := by decide +kernel
theorem dX4_cross_5 : decode cX4_cross 5 = .ok (.invokevirtual 162, 3) := by decide +kernel
theorem dX4_cross_8 : decode cX4_cross 8 = .ok (.ifCond .eq 14, 3) := by decide +kernel
theorem dX4_cross_11 : decode cX4_cross 11 = .ok (.aload_n 0, 1) := by decide +kernel
theorem dX4_cross_12 : decode cX4_cross 12 = .ok (.getfield 25, 3) := by decide +kernel
theorem dX4_cross_15 : decode cX4_cross 15 = .ok (.iload_n 2, 1) := by decide +kernel
theorem dX4_cross_16 : decode cX4_cross 16 = .ok (.invokevirtual 162, 3) := by decide +kernel
theorem dX4_cross_19 : decode cX4_cross 19 = .ok (.ifCond .ne 5, 3) := by decide +kernel
theorem dX4_cross_22 : decode cX4_cross 22 = .ok (.iconst (-1), 1) := by decide +kernel
theorem dX4_cross_23 : decode cX4_cross 23 = .ok (.ireturn, 1) := by decide +kernel
theorem dX4_cross_24 : decode cX4_cross 24 = .ok (.aload_n 0, 1) := by decide +kernel
theorem dX4_cross_25 : decode cX4_cross 25 = .ok (.getfield 25, 3) := by decide +kernel
theorem dX4_cross_28 : decode cX4_cross 28 = .ok (.getfield 178, 3) := by decide +kernel
theorem dX4_cross_31 : decode cX4_cross 31 = .ok (.iload_n 1, 1) := by decide +kernel
theorem dX4_cross_32 : decode cX4_cross 32 = .ok (.iaload, 1) := by decide +kernel
theorem dX4_cross_33 : decode cX4_cross 33 = .ok (.iload_n 2, 1) := by decide +kernel
theorem dX4_cross_34 : decode cX4_cross 34 = .ok (.invokestatic 146, 3) := by decide +kernel
theorem dX4_cross_37 : decode cX4_cross 37 = .ok (.invokestatic 118, 3) := by decide +kernel
theorem dX4_cross_40 : decode cX4_cross 40 = .ok (.ireturn, 1) := by decide +kernel
set_option maxRecDepth 20000 in
theorem ggX4_raise_X2_has : GoodIn wsX4_raise wsX2_has := goodIn_r _ [8, 9, 46, 47, 48, 49, 50, 51, 52, 53, 54] (by decide +kernel) (by decide +kernel)
set_option maxRecDepth 20000 in
theorem gX4_raise_X2_has : GoodIn wsX4_raise (wsV RX4 97 RX2 yX2_has wsX2_has) := goodIn_app (goodIn_of _ (by decide +kernel)) ggX4_raise_X2_has
set_option maxRecDepth 20000 in
theorem ggX4_raise_X3_raised : GoodIn wsX4_raise wsX3_raised := goodIn_r _ [14, 15, 16, 17, 18, 19, 13, 20, 21, 22, 23, 24, 25, 55, 56, 57, 58, 59, 60, 61, 62] (by decide +kernel) (by decide +kernel)
set_option maxRecDepth 20000 in
theorem gX4_raise_X3_raised : GoodIn wsX4_raise (wsV RX4 128 RX3 yX3_raised wsX3_raised) := goodIn_app (goodIn_of _ (by decide +kernel)) ggX4_raise_X3_raised
set_option maxRecDepth 20000 in
theorem ggX4_raise_X2_mayRise : GoodIn wsX4_raise wsX2_mayRise := goodIn_r _ [29, 30, 31, 23, 24, 25, 46, 47, 48, 49, 50, 51, 52, 53, 54] (by decide +kernel) (by decide +kernel)
set_option maxRecDepth 20000 in
theorem gX4_raise_X2_mayRise : GoodIn wsX4_raise (wsV RX4 132 RX2 yX2_mayRise wsX2_mayRise) := goodIn_app (goodIn_of _ (by decide +kernel)) ggX4_raise_X2_mayRise
set_option maxRecDepth 20000 in
theorem ggX4_raise_J6_bitCount_0f7a4 : GoodIn wsX4_raise wsJ6_bitCount_0f7a4 := goodIn_r _ [35, 36, 37, 38] (by decide +kernel) (by decide +kernel)
set_option maxRecDepth 20000 in
theorem gX4_raise_J6_bitCount_0f7a4 : GoodIn wsX4_raise (va_wsS RX4 135 yJ6_bitCount_0f7a4 wsJ6_bitCount_0f7a4) := goodIn_app (goodIn_of _ (by decide +kernel)) ggX4_raise_J6_bitCount_0f7a4
theorem dX4_raise_0 : decode cX4_raise 0 = .ok (.aload_n 0, 1) := by decide +kernel
theorem dX4_raise_1 : decode cX4_raise 1 = .ok (.getfield 18, 3) := by decide +kernel
theorem dX4_raise_4 : decode cX4_raise 4 = .ok (.iload_n 1, 1) := by decide +kernel
theorem dX4_raise_5 : decode cX4_raise 5 = .ok (.invokevirtual 97, 3) := by decide +kernel
theorem dX4_raise_8 : decode cX4_raise 8 = .ok (.ifCond .ne 5, 3) := by decide +kernel
theorem dX4_raise_11 : decode cX4_raise 11 = .ok (.iconst (-1), 1) := by decide +kernel
theorem dX4_raise_12 : decode cX4_raise 12 = .ok (.ireturn, 1) := by decide +kernel
theorem dX4_raise_13 : decode cX4_raise 13 = .ok (.aload_n 0, 1) := by decide +kernel
theorem dX4_raise_14 : decode cX4_raise 14 = .ok (.getfield 18, 3) := by decide +kernel
theorem dX4_raise_17 : decode cX4_raise 17 = .ok (.iload_n 1, 1) := by decide +kernel
theorem dX4_raise_18 : decode cX4_raise 18 = .ok (.aload_n 0, 1) := by decide +kernel
theorem dX4_raise_19 : decode cX4_raise 19 = .ok (.getfield 18, 3) := by decide +kernel
theorem dX4_raise_22 : decode cX4_raise 22 = .ok (.getfield 125, 3) := by decide +kernel
theorem dX4_raise_25 : decode cX4_raise 25 = .ok (.aload_n 0, 1) := by decide +kernel
theorem dX4_raise_26 : decode cX4_raise 26 = .ok (.getfield 25, 3) := by decide +kernel
theorem dX4_raise_29 : decode cX4_raise 29 = .ok (.invokevirtual 128, 3) := by decide +kernel
theorem dX4_raise_32 : decode cX4_raise 32 = .ok (.invokevirtual 132, 3) := by decide +kernel
theorem dX4_raise_35 : decode cX4_raise 35 = .ok (.ifCond .ne 6, 3) := by decide +kernel
theorem dX4_raise_38 : decode cX4_raise 38 = .ok (.bipush (-3), 2) := by decide +kernel
theorem dX4_raise_40 : decode cX4_raise 40 = .ok (.ireturn, 1) := by decide +kernel
theorem dX4_raise_41 : decode cX4_raise 41 = .ok (.aload_n 0, 1) := by decide +kernel
theorem dX4_raise_42 : decode cX4_raise 42 = .ok (.getfield 18, 3) := by decide +kernel
theorem dX4_raise_45 : decode cX4_raise 45 = .ok (.dup, 1) := by decide +kernel
theorem dX4_raise_46 : decode cX4_raise 46 = .ok (.getfield 125, 3) := by decide +kernel
theorem dX4_raise_49 : decode cX4_raise 49 = .ok (.iconst 1, 1) := by decide +kernel
theorem dX4_raise_50 : decode cX4_raise 50 = .ok (.iload_n 1, 1) := by decide +kernel
theorem dX4_raise_51 : decode cX4_raise 51 = .ok (.ishl, 1) := by decide +kernel
theorem dX4_raise_52 : decode cX4_raise 52 = .ok (.ior, 1) := by decide +kernel
theorem dX4_raise_53 : decode cX4_raise 53 = .ok (.putfield 125, 3) := by decide +kernel
theorem dX4_raise_56 : decode cX4_raise 56 = .ok (.aload_n 0, 1) := by decide +kernel
theorem dX4_raise_57 : decode cX4_raise 57 = .ok (.getfield 18, 3) := by decide +kernel
theorem dX4_raise_60 : decode cX4_raise 60 = .ok (.getfield 125, 3) := by decide +kernel
theorem dX4_raise_63 : decode cX4_raise 63 = .ok (.invokestatic 135, 3) := by decide +kernel
theorem dX4_raise_66 : decode cX4_raise 66 = .ok (.ireturn, 1) := by decide +kernel
set_option maxRecDepth 20000 in
theorem ggX4_lay_X2_has : GoodIn wsX4_lay wsX2_has := goodIn_r _ [7, 8, 42, 43, 44, 45, 46, 47, 48, 49, 50] (by decide +kernel) (by decide +kernel)
set_option maxRecDepth 20000 in
theorem gX4_lay_X2_has : GoodIn wsX4_lay (wsV RX4 97 RX2 yX2_has wsX2_has) := goodIn_app (goodIn_of _ (by decide +kernel)) ggX4_lay_X2_has
set_option maxRecDepth 20000 in
theorem ggX4_lay_X2_mayBeLaid : GoodIn wsX4_lay wsX2_mayBeLaid := goodIn_r _ [12, 13, 14, 15, 16, 17, 18, 6, 19, 20, 21, 22, 23, 24, 25, 26, 8, 42, 43, 44, 45, 46, 47, 48, 49, 50] (by decide +kernel) (by decide +kernel)
set_option maxRecDepth 20000 in
theorem gX4_lay_X2_mayBeLaid : GoodIn wsX4_lay (wsV RX4 181 RX2 yX2_mayBeLaid wsX2_mayBeLaid) := goodIn_app (goodIn_of _ (by decide +kernel)) ggX4_lay_X2_mayBeLaid
set_option maxRecDepth 20000 in
theorem ggX4_lay_X2_lying : GoodIn wsX4_lay wsX2_lying := goodIn_r _ [26, 8, 14, 42, 43, 44, 45, 46, 47, 48, 49, 50] (by decide +kernel) (by decide +kernel)
set_option maxRecDepth 20000 in
theorem gX4_lay_X2_lying : GoodIn wsX4_lay (wsV RX4 143 RX2 yX2_lying wsX2_lying) := goodIn_app (goodIn_of _ (by decide +kernel)) ggX4_lay_X2_lying
set_option maxRecDepth 20000 in
theorem ggX4_lay_J6_bitCount_0f7a4 : GoodIn wsX4_lay wsJ6_bitCount_0f7a4 := goodIn_r _ [31, 32, 33, 34] (by decide +kernel) (by decide +kernel)
set_option maxRecDepth 20000 in
theorem gX4_lay_J6_bitCount_0f7a4 : GoodIn wsX4_lay (va_wsS RX4 135 yJ6_bitCount_0f7a4 wsJ6_bitCount_0f7a4) := goodIn_app (goodIn_of _ (by decide +kernel)) ggX4_lay_J6_bitCount_0f7a4
theorem dX4_lay_0 : decode cX4_lay 0 = .ok (.aload_n 0, 1) := by decide +kernel
theorem dX4_lay_1 : decode cX4_lay 1 = .ok (.getfield 18, 3) := by decide +kernel
theorem dX4_lay_4 : decode cX4_lay 4 = .ok (.iload_n 1, 1) := by decide +kernel
theorem dX4_lay_5 : decode cX4_lay 5 = .ok (.invokevirtual 97, 3) := by decide +kernel
theorem dX4_lay_8 : decode cX4_lay 8 = .ok (.ifCond .ne 5, 3) := by decide +kernel
theorem dX4_lay_11 : decode cX4_lay 11 = .ok (.iconst (-1), 1) := by decide +kernel
theorem dX4_lay_12 : decode cX4_lay 12 = .ok (.ireturn, 1) := by decide +kernel
theorem dX4_lay_13 : decode cX4_lay 13 = .ok (.aload_n 0, 1) := by decide +kernel
theorem dX4_lay_14 : decode cX4_lay 14 = .ok (.getfield 18, 3) := by decide +kernel
theorem dX4_lay_17 : decode cX4_lay 17 = .ok (.iload_n 1, 1) := by decide +kernel
theorem dX4_lay_18 : decode cX4_lay 18 = .ok (.invokevirtual 181, 3) := by decide +kernel
theorem dX4_lay_21 : decode cX4_lay 21 = .ok (.ifCond .ne 6, 3) := by decide +kernel
theorem dX4_lay_24 : decode cX4_lay 24 = .ok (.bipush (-3), 2) := by decide +kernel
theorem dX4_lay_26 : decode cX4_lay 26 = .ok (.ireturn, 1) := by decide +kernel
theorem dX4_lay_27 : decode cX4_lay 27 = .ok (.aload_n 0, 1) := by decide +kernel
theorem dX4_lay_28 : decode cX4_lay 28 = .ok (.getfield 18, 3) := by decide +kernel
theorem dX4_lay_31 : decode cX4_lay 31 = .ok (.dup, 1) := by decide +kernel
theorem dX4_lay_32 : decode cX4_lay 32 = .ok (.getfield 125, 3) := by decide +kernel
theorem dX4_lay_35 : decode cX4_lay 35 = .ok (.iconst 1, 1) := by decide +kernel
theorem dX4_lay_36 : decode cX4_lay 36 = .ok (.iload_n 1, 1) := by decide +kernel
theorem dX4_lay_37 : decode cX4_lay 37 = .ok (.ishl, 1) := by decide +kernel
theorem dX4_lay_38 : decode cX4_lay 38 = .ok (.iconst (-1), 1) := by decide +kernel
theorem dX4_lay_39 : decode cX4_lay 39 = .ok (.ixor, 1) := by decide +kernel
theorem dX4_lay_40 : decode cX4_lay 40 = .ok (.iand, 1) := by decide +kernel
theorem dX4_lay_41 : decode cX4_lay 41 = .ok (.putfield 125, 3) := by decide +kernel
theorem dX4_lay_44 : decode cX4_lay 44 = .ok (.aload_n 0, 1) := by decide +kernel
theorem dX4_lay_45 : decode cX4_lay 45 = .ok (.getfield 18, 3) := by decide +kernel
theorem dX4_lay_48 : decode cX4_lay 48 = .ok (.invokevirtual 143, 3) := by decide +kernel
theorem dX4_lay_51 : decode cX4_lay 51 = .ok (.invokestatic 135, 3) := by decide +kernel
theorem dX4_lay_54 : decode cX4_lay 54 = .ok (.ireturn, 1) := by decide +kernel
set_option maxRecDepth 20000 in
theorem ggX4_settle_X3_raised : GoodIn wsX4_settle wsX3_raised := goodIn_r _ [8, 9, 10, 11, 12, 13, 7, 14, 15, 16, 17, 18, 19, 43, 44, 45, 46, 47, 48, 49, 50] (by decide +kernel) (by decide +kernel)
set_option maxRecDepth 20000 in
theorem gX4_settle_X3_raised : GoodIn wsX4_settle (wsV RX4 128 RX3 yX3_raised wsX3_raised) := goodIn_app (goodIn_of _ (by decide +kernel)) ggX4_settle_X3_raised
set_option maxRecDepth 20000 in
theorem ggX4_settle_J6_bitCount_0f7a4 : GoodIn wsX4_settle wsJ6_bitCount_0f7a4 := goodIn_r _ [23, 24, 25, 26] (by decide +kernel) (by decide +kernel)
set_option maxRecDepth 20000 in
theorem gX4_settle_J6_bitCount_0f7a4 : GoodIn wsX4_settle (va_wsS RX4 135 yJ6_bitCount_0f7a4 wsJ6_bitCount_0f7a4) := goodIn_app (goodIn_of _ (by decide +kernel)) ggX4_settle_J6_bitCount_0f7a4
theorem dX4_settle_0 : decode cX4_settle 0 = .ok (.aload_n 0, 1) := by decide +kernel
theorem dX4_settle_1 : decode cX4_settle 1 = .ok (.getfield 18, 3) := by decide +kernel
theorem dX4_settle_4 : decode cX4_settle 4 = .ok (.getfield 125, 3) := by decide +kernel
theorem dX4_settle_7 : decode cX4_settle 7 = .ok (.aload_n 0, 1) := by decide +kernel
theorem dX4_settle_8 : decode cX4_settle 8 = .ok (.getfield 25, 3) := by decide +kernel
theorem dX4_settle_11 : decode cX4_settle 11 = .ok (.invokevirtual 128, 3) := by decide +kernel
theorem dX4_settle_14 : decode cX4_settle 14 = .ok (.iconst (-1), 1) := by decide +kernel
theorem dX4_settle_15 : decode cX4_settle 15 = .ok (.ixor, 1) := by decide +kernel
theorem dX4_settle_16 : decode cX4_settle 16 = .ok (.iand, 1) := by decide +kernel
theorem dX4_settle_17 : decode cX4_settle 17 = .ok (.istore_n 1, 1) := by decide +kernel
theorem dX4_settle_18 : decode cX4_settle 18 = .ok (.aload_n 0, 1) := by decide +kernel
theorem dX4_settle_19 : decode cX4_settle 19 = .ok (.getfield 18, 3) := by decide +kernel
theorem dX4_settle_22 : decode cX4_settle 22 = .ok (.dup, 1) := by decide +kernel
theorem dX4_settle_23 : decode cX4_settle 23 = .ok (.getfield 125, 3) := by decide +kernel
theorem dX4_settle_26 : decode cX4_settle 26 = .ok (.iload_n 1, 1) := by decide +kernel
theorem dX4_settle_27 : decode cX4_settle 27 = .ok (.iconst (-1), 1) := by decide +kernel
theorem dX4_settle_28 : decode cX4_settle 28 = .ok (.ixor, 1) := by decide +kernel
theorem dX4_settle_29 : decode cX4_settle 29 = .ok (.iand, 1) := by decide +kernel
theorem dX4_settle_30 : decode cX4_settle 30 = .ok (.putfield 125, 3) := by decide +kernel
theorem dX4_settle_33 : decode cX4_settle 33 = .ok (.iload_n 1, 1) := by decide +kernel
theorem dX4_settle_34 : decode cX4_settle 34 = .ok (.invokestatic 135, 3) := by decide +kernel
theorem dX4_settle_37 : decode cX4_settle 37 = .ok (.ireturn, 1) := by decide +kernel
set_option maxRecDepth 20000 in
theorem ggX4_order_X2_lying : GoodIn wsX4_order wsX2_lying := goodIn_r _ [8, 9, 10, 51, 52, 53, 54, 55, 56, 57, 58, 59] (by decide +kernel) (by decide +kernel)
set_option maxRecDepth 20000 in
theorem gX4_order_X2_lying : GoodIn wsX4_order (wsV RX4 143 RX2 yX2_lying wsX2_lying) := goodIn_app (goodIn_of _ (by decide +kernel)) ggX4_order_X2_lying
set_option maxRecDepth 20000 in
theorem ggX4_order_J6_bitCount_0f7a4 : GoodIn wsX4_order wsJ6_bitCount_0f7a4 := goodIn_r _ [14, 15, 16, 17] (by decide +kernel) (by decide +kernel)
set_option maxRecDepth 20000 in
theorem gX4_order_J6_bitCount_0f7a4 : GoodIn wsX4_order (va_wsS RX4 135 yJ6_bitCount_0f7a4 wsJ6_bitCount_0f7a4) := goodIn_app (goodIn_of _ (by decide +kernel)) ggX4_order_J6_bitCount_0f7a4
set_option maxRecDepth 20000 in
theorem ggX4_order_X3_raised : GoodIn wsX4_order wsX3_raised := goodIn_r _ [22, 23, 24, 25, 26, 27, 21, 28, 29, 30, 31, 32, 33, 60, 61, 62, 63, 64, 65, 66, 67] (by decide +kernel) (by decide +kernel)
set_option maxRecDepth 20000 in
theorem gX4_order_X3_raised : GoodIn wsX4_order (wsV RX4 128 RX3 yX3_raised wsX3_raised) := goodIn_app (goodIn_of _ (by decide +kernel)) ggX4_order_X3_raised
set_option maxRecDepth 20000 in
theorem ggX4_order_X2_nextOfOrder : GoodIn wsX4_order wsX2_nextOfOrder := goodIn_r _ [37, 9, 38, 39, 40, 7, 41, 42, 43, 31, 32, 33, 51, 52, 53, 54, 55, 56, 57, 58, 59] (by decide +kernel) (by decide +kernel)
set_option maxRecDepth 20000 in
theorem gX4_order_X2_nextOfOrder : GoodIn wsX4_order (wsV RX4 184 RX2 yX2_nextOfOrder wsX2_nextOfOrder) := goodIn_app (goodIn_of _ (by decide +kernel)) ggX4_order_X2_nextOfOrder
theorem dX4_order_0 : decode cX4_order 0 = .ok (.aload_n 0, 1) := by decide +kernel
theorem dX4_order_1 : decode cX4_order 1 = .ok (.getfield 18, 3) := by decide +kernel
theorem dX4_order_4 : decode cX4_order 4 = .ok (.invokevirtual 143, 3) := by decide +kernel
theorem dX4_order_7 : decode cX4_order 7 = .ok (.invokestatic 135, 3) := by decide +kernel
theorem dX4_order_10 : decode cX4_order 10 = .ok (.istore_n 2, 1) := by decide +kernel
theorem dX4_order_11 : decode cX4_order 11 = .ok (.iload_n 1, 1) := by decide +kernel
theorem dX4_order_12 : decode cX4_order 12 = .ok (.ifCond .lt 8, 3) := by decide +kernel
theorem dX4_order_15 : decode cX4_order 15 = .ok (.iload_n 1, 1) := by decide +kernel
theorem dX4_order_16 : decode cX4_order 16 = .ok (.iload_n 2, 1) := by decide +kernel
theorem dX4_order_17 : decode cX4_order 17 = .ok (.if_icmp .lt 5, 3) := by decide +kernel
theorem dX4_order_20 : decode cX4_order 20 = .ok (.iconst (-1), 1) := by decide +kernel
theorem dX4_order_21 : decode cX4_order 21 = .ok (.ireturn, 1) := by decide +kernel
theorem dX4_order_22 : decode cX4_order 22 = .ok (.aload_n 0, 1) := by decide +kernel
theorem dX4_order_23 : decode cX4_order 23 = .ok (.getfield 18, 3) := by decide +kernel
theorem dX4_order_26 : decode cX4_order 26 = .ok (.getfield 125, 3) := by decide +kernel
theorem dX4_order_29 : decode cX4_order 29 = .ok (.istore_n 3, 1) := by decide +kernel
theorem dX4_order_30 : decode cX4_order 30 = .ok (.aload_n 0, 1) := by decide +kernel
theorem dX4_order_31 : decode cX4_order 31 = .ok (.getfield 25, 3) := by decide +kernel
theorem dX4_order_34 : decode cX4_order 34 = .ok (.invokevirtual 128, 3) := by decide +kernel
theorem dX4_order_37 : decode cX4_order 37 = .ok (.istore 4, 2) := by decide +kernel
theorem dX4_order_39 : decode cX4_order 39 = .ok (.bipush (-9), 2) := by decide +kernel
theorem dX4_order_41 : decode cX4_order 41 = .ok (.istore 5, 2) := by decide +kernel
theorem dX4_order_43 : decode cX4_order 43 = .ok (.iconst 0, 1) := by decide +kernel
theorem dX4_order_44 : decode cX4_order 44 = .ok (.istore 6, 2) := by decide +kernel
theorem dX4_order_46 : decode cX4_order 46 = .ok (.iload 6, 2) := by decide +kernel
theorem dX4_order_48 : decode cX4_order 48 = .ok (.iload_n 2, 1) := by decide +kernel
theorem dX4_order_49 : decode cX4_order 49 = .ok (.if_icmp .ge 48, 3) := by decide +kernel
theorem dX4_order_52 : decode cX4_order 52 = .ok (.aload_n 0, 1) := by decide +kernel
theorem dX4_order_53 : decode cX4_order 53 = .ok (.getfield 18, 3) := by decide +kernel
theorem dX4_order_56 : decode cX4_order 56 = .ok (.iload_n 3, 1) := by decide +kernel
theorem dX4_order_57 : decode cX4_order 57 = .ok (.iload 4, 2) := by decide +kernel
theorem dX4_order_59 : decode cX4_order 59 = .ok (.invokevirtual 184, 3) := by decide +kernel
theorem dX4_order_62 : decode cX4_order 62 = .ok (.istore 7, 2) := by decide +kernel
theorem dX4_order_64 : decode cX4_order 64 = .ok (.iload 7, 2) := by decide +kernel
theorem dX4_order_66 : decode cX4_order 66 = .ok (.bipush (-9), 2) := by decide +kernel
theorem dX4_order_68 : decode cX4_order 68 = .ok (.if_icmp .ne 6, 3) := by decide +kernel
theorem dX4_order_71 : decode cX4_order 71 = .ok (.bipush (-9), 2) := by decide +kernel
theorem dX4_order_73 : decode cX4_order 73 = .ok (.ireturn, 1) := by decide +kernel
theorem dX4_order_74 : decode cX4_order 74 = .ok (.iload 6, 2) := by decide +kernel
theorem dX4_order_76 : decode cX4_order 76 = .ok (.iload_n 1, 1) := by decide +kernel
theorem dX4_order_77 : decode cX4_order 77 = .ok (.if_icmp .ne 7, 3) := by decide +kernel
theorem dX4_order_80 : decode cX4_order 80 = .ok (.iload 7, 2) := by decide +kernel
theorem dX4_order_82 : decode cX4_order 82 = .ok (.istore 5, 2) := by decide +kernel
theorem dX4_order_84 : decode cX4_order 84 = .ok (.iload_n 3, 1) := by decide +kernel
theorem dX4_order_85 : decode cX4_order 85 = .ok (.iconst 1, 1) := by decide +kernel
theorem dX4_order_86 : decode cX4_order 86 = .ok (.iload 7, 2) := by decide +kernel
theorem dX4_order_88 : decode cX4_order 88 = .ok (.ishl, 1) := by decide +kernel
theorem dX4_order_89 : decode cX4_order 89 = .ok (.ior, 1) := by decide +kernel
theorem dX4_order_90 : decode cX4_order 90 = .ok (.istore_n 3, 1) := by decide +kernel
theorem dX4_order_91 : decode cX4_order 91 = .ok (.iinc 6 1, 3) := by decide +kernel
theorem dX4_order_94 : decode cX4_order 94 = .ok (.goto (-48), 3) := by decide +kernel
theorem dX4_order_97 : decode cX4_order 97 = .ok (.iload 5, 2) := by decide +kernel
theorem dX4_order_99 : decode cX4_order 99 = .ok (.ireturn, 1) := by decide +kernel
set_option maxRecDepth 20000 in
theorem ggX4_rising_X3_raised : GoodIn wsX4_rising wsX3_raised := goodIn_r _ [11, 12, 13, 14, 15, 16, 10, 17, 18, 19, 20, 21, 22, 83, 84, 85, 86, 87, 88, 89, 90] (by decide +kernel) (by decide +kernel)
set_option maxRecDepth 20000 in
theorem gX4_rising_X3_raised : GoodIn wsX4_rising (wsV RX4 128 RX3 yX3_raised wsX3_raised) := goodIn_app (goodIn_of _ (by decide +kernel)) ggX4_rising_X3_raised
set_option maxRecDepth 20000 in
theorem ggX4_rising_X0_search : GoodIn wsX4_rising wsX0_search := goodIn_r _ [27, 28, 29, 30, 31, 32, 33, 34, 35, 36, 37, 38, 39, 40, 26, 41, 42, 43, 44, 45, 20, 21, 22, 46, 47, 48, 49, 50, 51, 52, 53, 54, 55, 56, 57, 58, 59, 60, 61, 62, 63, 64, 65, 66, 67, 68, 69, 70, 71, 79, 80, 81, 82, 91, 92, 93, 94, 95, 96, 97, 98, 99] (by decide +kernel) (by decide +kernel)
set_option maxRecDepth 20000 in
theorem gX4_rising_X0_search : GoodIn wsX4_rising (wsV RX4 188 RX0 yX0_search wsX0_search) := goodIn_app (goodIn_of _ (by decide +kernel)) ggX4_rising_X0_search
theorem dX4_rising_0 : decode cX4_rising 0 = .ok (.iload_n 1, 1) := by decide +kernel
theorem dX4_rising_1 : decode cX4_rising 1 = .ok (.ifCond .lt 8, 3) := by decide +kernel
theorem dX4_rising_4 : decode cX4_rising 4 = .ok (.iload_n 1, 1) := by decide +kernel
theorem dX4_rising_5 : decode cX4_rising 5 = .ok (.iconst 2, 1) := by decide +kernel
theorem dX4_rising_6 : decode cX4_rising 6 = .ok (.if_icmp .le 6, 3) := by decide +kernel
theorem dX4_rising_9 : decode cX4_rising 9 = .ok (.bipush (-2), 2) := by decide +kernel
theorem dX4_rising_11 : decode cX4_rising 11 = .ok (.ireturn, 1) := by decide +kernel
theorem dX4_rising_12 : decode cX4_rising 12 = .ok (.aload_n 0, 1) := by decide +kernel
theorem dX4_rising_13 : decode cX4_rising 13 = .ok (.getfield 39, 3) := by decide +kernel
theorem dX4_rising_16 : decode cX4_rising 16 = .ok (.aload_n 0, 1) := by decide +kernel
theorem dX4_rising_17 : decode cX4_rising 17 = .ok (.getfield 18, 3) := by decide +kernel
theorem dX4_rising_20 : decode cX4_rising 20 = .ok (.aload_n 0, 1) := by decide +kernel
theorem dX4_rising_21 : decode cX4_rising 21 = .ok (.getfield 25, 3) := by decide +kernel
theorem dX4_rising_24 : decode cX4_rising 24 = .ok (.invokevirtual 128, 3) := by decide +kernel
theorem dX4_rising_27 : decode cX4_rising 27 = .ok (.invokevirtual 188, 3) := by decide +kernel
theorem dX4_rising_30 : decode cX4_rising 30 = .ok (.iload_n 1, 1) := by decide +kernel
theorem dX4_rising_31 : decode cX4_rising 31 = .ok (.lookupswitch 41 #[(0, 25), (1, 33)], 25) := by decide +kernel
theorem dX4_rising_56 : decode cX4_rising 56 = .ok (.aload_n 0, 1) := by decide +kernel
theorem dX4_rising_57 : decode cX4_rising 57 = .ok (.getfield 39, 3) := by decide +kernel
theorem dX4_rising_60 : decode cX4_rising 60 = .ok (.getfield 192, 3) := by decide +kernel
theorem dX4_rising_63 : decode cX4_rising 63 = .ok (.ireturn, 1) := by decide +kernel
theorem dX4_rising_64 : decode cX4_rising 64 = .ok (.aload_n 0, 1) := by decide +kernel
theorem dX4_rising_65 : decode cX4_rising 65 = .ok (.getfield 39, 3) := by decide +kernel
theorem dX4_rising_68 : decode cX4_rising 68 = .ok (.getfield 195, 3) := by decide +kernel
theorem dX4_rising_71 : decode cX4_rising 71 = .ok (.ireturn, 1) := by decide +kernel
theorem dX4_rising_72 : decode cX4_rising 72 = .ok (.aload_n 0, 1) := by decide +kernel
theorem dX4_rising_73 : decode cX4_rising 73 = .ok (.getfield 39, 3) := by decide +kernel
theorem dX4_rising_76 : decode cX4_rising 76 = .ok (.getfield 198, 3) := by decide +kernel
theorem dX4_rising_79 : decode cX4_rising 79 = .ok (.ireturn, 1) := by decide +kernel
set_option maxRecDepth 20000 in
theorem ggX4_rig_X4_leastRig : GoodIn wsX4_rig wsX4_leastRig := goodIn_r _ [7, 8, 9, 10, 11, 12, 13, 14, 15, 16, 17, 18, 19, 20, 21, 22, 23, 24, 6, 25, 4, 5, 42, 43, 44, 45, 46, 47, 48, 49] (by decide +kernel) (by decide +kernel)
set_option maxRecDepth 20000 in
theorem gX4_rig_X4_leastRig : GoodIn wsX4_rig (va_wsS RX4 201 yX4_leastRig wsX4_leastRig) := goodIn_app (goodIn_of _ (by decide +kernel)) ggX4_rig_X4_leastRig
theorem dX4_rig_0 : decode cX4_rig 0 = .ok (.aload_n 0, 1) := by decide +kernel
theorem dX4_rig_1 : decode cX4_rig 1 = .ok (.getfield 18, 3) := by decide +kernel
theorem dX4_rig_4 : decode cX4_rig 4 = .ok (.getfield 61, 3) := by decide +kernel
theorem dX4_rig_7 : decode cX4_rig 7 = .ok (.ifCond .ne 6, 3) := by decide +kernel
theorem dX4_rig_10 : decode cX4_rig 10 = .ok (.bipush (-3), 2) := by decide +kernel
theorem dX4_rig_12 : decode cX4_rig 12 = .ok (.ireturn, 1) := by decide +kernel
theorem dX4_rig_13 : decode cX4_rig 13 = .ok (.aload_n 0, 1) := by decide +kernel
theorem dX4_rig_14 : decode cX4_rig 14 = .ok (.getfield 25, 3) := by decide +kernel
theorem dX4_rig_17 : decode cX4_rig 17 = .ok (.aload_n 0, 1) := by decide +kernel
theorem dX4_rig_18 : decode cX4_rig 18 = .ok (.getfield 18, 3) := by decide +kernel
theorem dX4_rig_21 : decode cX4_rig 21 = .ok (.getfield 61, 3) := by decide +kernel
theorem dX4_rig_24 : decode cX4_rig 24 = .ok (.iconst 0, 1) := by decide +kernel
theorem dX4_rig_25 : decode cX4_rig 25 = .ok (.iconst 0, 1) := by decide +kernel
theorem dX4_rig_26 : decode cX4_rig 26 = .ok (.invokestatic 201, 3) := by decide +kernel
theorem dX4_rig_29 : decode cX4_rig 29 = .ok (.ireturn, 1) := by decide +kernel
set_option maxRecDepth 20000 in
theorem ggX4_sheet_X4_isSheet : GoodIn wsX4_sheet wsX4_isSheet := goodIn_r _ [7, 2, 29, 30, 31, 32, 33, 34, 35] (by decide +kernel) (by decide +kernel)
set_option maxRecDepth 20000 in
theorem gX4_sheet_X4_isSheet : GoodIn wsX4_sheet (wsV RX4 72 RX4 yX4_isSheet wsX4_isSheet) := goodIn_app (goodIn_of _ (by decide +kernel)) ggX4_sheet_X4_isSheet
set_option maxRecDepth 20000 in
theorem ggX4_sheet_X1_isLane : GoodIn wsX4_sheet wsX1_isLane := goodIn_r _ [11, 12, 6, 13] (by decide +kernel) (by decide +kernel)
set_option maxRecDepth 20000 in
theorem gX4_sheet_X1_isLane : GoodIn wsX4_sheet (va_wsS RX4 75 yX1_isLane wsX1_isLane) := goodIn_app (goodIn_of _ (by decide +kernel)) ggX4_sheet_X1_isLane
set_option maxRecDepth 20000 in
theorem ggX4_sheet_X4_failed : GoodIn wsX4_sheet wsX4_failed := goodIn_r _ [17, 1, 29, 30, 31, 32, 33, 34, 35] (by decide +kernel) (by decide +kernel)
set_option maxRecDepth 20000 in
theorem gX4_sheet_X4_failed : GoodIn wsX4_sheet (wsV RX4 82 RX4 yX4_failed wsX4_failed) := goodIn_app (goodIn_of _ (by decide +kernel)) ggX4_sheet_X4_failed
set_option maxRecDepth 20000 in
theorem ggX4_sheet_X1_renew : GoodIn wsX4_sheet wsX1_renew := goodIn_r _ [21, 22, 23, 24, 25, 26, 27, 28, 36, 37, 38] (by decide +kernel) (by decide +kernel)
set_option maxRecDepth 20000 in
theorem gX4_sheet_X1_renew : GoodIn wsX4_sheet (wsV RX4 205 RX1 yX1_renew wsX1_renew) := goodIn_app (goodIn_of _ (by decide +kernel)) ggX4_sheet_X1_renew
theorem dX4_sheet_0 : decode cX4_sheet 0 = .ok (.aload_n 0, 1) := by decide +kernel
theorem dX4_sheet_1 : decode cX4_sheet 1 = .ok (.iconst 0, 1) := by decide +kernel
theorem dX4_sheet_2 : decode cX4_sheet 2 = .ok (.putfield 47, 3) := by decide +kernel
theorem dX4_sheet_5 : decode cX4_sheet 5 = .ok (.aload_n 0, 1) := by decide +kernel
theorem dX4_sheet_6 : decode cX4_sheet 6 = .ok (.iload_n 1, 1) := by decide +kernel
theorem dX4_sheet_7 : decode cX4_sheet 7 = .ok (.invokevirtual 72, 3) := by decide +kernel
theorem dX4_sheet_10 : decode cX4_sheet 10 = .ok (.ifCond .ne 5, 3) := by decide +kernel
theorem dX4_sheet_13 : decode cX4_sheet 13 = .ok (.iconst (-1), 1) := by decide +kernel
theorem dX4_sheet_14 : decode cX4_sheet 14 = .ok (.ireturn, 1) := by decide +kernel
theorem dX4_sheet_15 : decode cX4_sheet 15 = .ok (.iload_n 2, 1) := by decide +kernel
theorem dX4_sheet_16 : decode cX4_sheet 16 = .ok (.invokestatic 75, 3) := by decide +kernel
theorem dX4_sheet_19 : decode cX4_sheet 19 = .ok (.ifCond .eq 9, 3) := by decide +kernel
theorem dX4_sheet_22 : decode cX4_sheet 22 = .ok (.iload_n 3, 1) := by decide +kernel
theorem dX4_sheet_23 : decode cX4_sheet 23 = .ok (.bipush 50, 2) := by decide +kernel
theorem dX4_sheet_25 : decode cX4_sheet 25 = .ok (.if_icmp .le 6, 3) := by decide +kernel
theorem dX4_sheet_28 : decode cX4_sheet 28 = .ok (.bipush (-2), 2) := by decide +kernel
theorem dX4_sheet_30 : decode cX4_sheet 30 = .ok (.ireturn, 1) := by decide +kernel
theorem dX4_sheet_31 : decode cX4_sheet 31 = .ok (.iload_n 3, 1) := by decide +kernel
theorem dX4_sheet_32 : decode cX4_sheet 32 = .ok (.ifCond .ge 9, 3) := by decide +kernel
theorem dX4_sheet_35 : decode cX4_sheet 35 = .ok (.aload_n 0, 1) := by decide +kernel
theorem dX4_sheet_36 : decode cX4_sheet 36 = .ok (.iconst 4, 1) := by decide +kernel
theorem dX4_sheet_37 : decode cX4_sheet 37 = .ok (.invokevirtual 82, 3) := by decide +kernel
theorem dX4_sheet_40 : decode cX4_sheet 40 = .ok (.ireturn, 1) := by decide +kernel
theorem dX4_sheet_41 : decode cX4_sheet 41 = .ok (.aload_n 0, 1) := by decide +kernel
theorem dX4_sheet_42 : decode cX4_sheet 42 = .ok (.getfield 32, 3) := by decide +kernel
theorem dX4_sheet_45 : decode cX4_sheet 45 = .ok (.iload_n 1, 1) := by decide +kernel
theorem dX4_sheet_46 : decode cX4_sheet 46 = .ok (.aaload, 1) := by decide +kernel
theorem dX4_sheet_47 : decode cX4_sheet 47 = .ok (.iload_n 2, 1) := by decide +kernel
theorem dX4_sheet_48 : decode cX4_sheet 48 = .ok (.iload_n 3, 1) := by decide +kernel
theorem dX4_sheet_49 : decode cX4_sheet 49 = .ok (.invokevirtual 205, 3) := by decide +kernel
theorem dX4_sheet_52 : decode cX4_sheet 52 = .ok (.iconst 1, 1) := by decide +kernel
theorem dX4_sheet_53 : decode cX4_sheet 53 = .ok (.ireturn, 1) := by decide +kernel
set_option maxRecDepth 20000 in
theorem ggX4_lose_X4_isSheet : GoodIn wsX4_lose wsX4_isSheet := goodIn_r _ [6, 1, 21, 22, 23, 24, 25, 26, 27] (by decide +kernel) (by decide +kernel)
set_option maxRecDepth 20000 in
theorem gX4_lose_X4_isSheet : GoodIn wsX4_lose (wsV RX4 72 RX4 yX4_isSheet wsX4_isSheet) := goodIn_app (goodIn_of _ (by decide +kernel)) ggX4_lose_X4_isSheet
set_option maxRecDepth 20000 in
theorem ggX4_lose_X1_hasNothing : GoodIn wsX4_lose wsX1_hasNothing := goodIn_r _ [11, 12, 28, 29, 30] (by decide +kernel) (by decide +kernel)
set_option maxRecDepth 20000 in
theorem gX4_lose_X1_hasNothing : GoodIn wsX4_lose (wsV RX4 209 RX1 yX1_hasNothing wsX1_hasNothing) := goodIn_app (goodIn_of _ (by decide +kernel)) ggX4_lose_X1_hasNothing
set_option maxRecDepth 20000 in
theorem ggX4_lose_X4_oneIf : GoodIn wsX4_lose wsX4_oneIf := goodIn_r _ [15] (by decide +kernel) (by decide +kernel)
set_option maxRecDepth 20000 in
theorem gX4_lose_X4_oneIf : GoodIn wsX4_lose (va_wsS RX4 118 yX4_oneIf wsX4_oneIf) := goodIn_app (goodIn_of _ (by decide +kernel)) ggX4_lose_X4_oneIf
set_option maxRecDepth 20000 in
theorem ggX4_lose_X1_empty : GoodIn wsX4_lose wsX1_empty := goodIn_r _ [19, 12, 20, 28, 29, 30] (by decide +kernel) (by decide +kernel)
set_option maxRecDepth 20000 in
theorem gX4_lose_X1_empty : GoodIn wsX4_lose (wsV RX4 213 RX1 yX1_empty wsX1_empty) := goodIn_app (goodIn_of _ (by decide +kernel)) ggX4_lose_X1_empty
theorem dX4_lose_0 : decode cX4_lose 0 = .ok (.aload_n 0, 1) := by decide +kernel
theorem dX4_lose_1 : decode cX4_lose 1 = .ok (.iload_n 1, 1) := by decide +kernel
theorem dX4_lose_2 : decode cX4_lose 2 = .ok (.invokevirtual 72, 3) := by decide +kernel
theorem dX4_lose_5 : decode cX4_lose 5 = .ok (.ifCond .ne 5, 3) := by decide +kernel
theorem dX4_lose_8 : decode cX4_lose 8 = .ok (.iconst (-1), 1) := by decide +kernel
theorem dX4_lose_9 : decode cX4_lose 9 = .ok (.ireturn, 1) := by decide +kernel
theorem dX4_lose_10 : decode cX4_lose 10 = .ok (.aload_n 0, 1) := by decide +kernel
theorem dX4_lose_11 : decode cX4_lose 11 = .ok (.getfield 32, 3) := by decide +kernel
theorem dX4_lose_14 : decode cX4_lose 14 = .ok (.iload_n 1, 1) := by decide +kernel
theorem dX4_lose_15 : decode cX4_lose 15 = .ok (.aaload, 1) := by decide +kernel
theorem dX4_lose_16 : decode cX4_lose 16 = .ok (.invokevirtual 209, 3) := by decide +kernel
theorem dX4_lose_19 : decode cX4_lose 19 = .ok (.ifCond .ne 7, 3) := by decide +kernel
theorem dX4_lose_22 : decode cX4_lose 22 = .ok (.iconst 1, 1) := by decide +kernel
theorem dX4_lose_23 : decode cX4_lose 23 = .ok (.goto 4, 3) := by decide +kernel
theorem dX4_lose_26 : decode cX4_lose 26 = .ok (.iconst 0, 1) := by decide +kernel
theorem dX4_lose_27 : decode cX4_lose 27 = .ok (.invokestatic 118, 3) := by decide +kernel
theorem dX4_lose_30 : decode cX4_lose 30 = .ok (.istore_n 2, 1) := by decide +kernel
theorem dX4_lose_31 : decode cX4_lose 31 = .ok (.aload_n 0, 1) := by decide +kernel
theorem dX4_lose_32 : decode cX4_lose 32 = .ok (.getfield 32, 3) := by decide +kernel
theorem dX4_lose_35 : decode cX4_lose 35 = .ok (.iload_n 1, 1) := by decide +kernel
theorem dX4_lose_36 : decode cX4_lose 36 = .ok (.aaload, 1) := by decide +kernel
theorem dX4_lose_37 : decode cX4_lose 37 = .ok (.invokevirtual 213, 3) := by decide +kernel
theorem dX4_lose_40 : decode cX4_lose 40 = .ok (.iload_n 2, 1) := by decide +kernel
theorem dX4_lose_41 : decode cX4_lose 41 = .ok (.ireturn, 1) := by decide +kernel
set_option maxRecDepth 20000 in
theorem ggX4_put_X4_isSheet : GoodIn wsX4_put wsX4_isSheet := goodIn_r _ [8, 2, 28, 29, 30, 31, 32, 33, 34] (by decide +kernel) (by decide +kernel)
set_option maxRecDepth 20000 in
theorem gX4_put_X4_isSheet : GoodIn wsX4_put (wsV RX4 72 RX4 yX4_isSheet wsX4_isSheet) := goodIn_app (goodIn_of _ (by decide +kernel)) ggX4_put_X4_isSheet
set_option maxRecDepth 20000 in
theorem ggX4_put_X1_hasNothing : GoodIn wsX4_put wsX1_hasNothing := goodIn_r _ [13, 14, 35, 36, 37] (by decide +kernel) (by decide +kernel)
set_option maxRecDepth 20000 in
theorem gX4_put_X1_hasNothing : GoodIn wsX4_put (wsV RX4 209 RX1 yX1_hasNothing wsX1_hasNothing) := goodIn_app (goodIn_of _ (by decide +kernel)) ggX4_put_X1_hasNothing
set_option maxRecDepth 20000 in
theorem ggX4_put_X4_failed : GoodIn wsX4_put wsX4_failed := goodIn_r _ [18, 1, 28, 29, 30, 31, 32, 33, 34] (by decide +kernel) (by decide +kernel)
set_option maxRecDepth 20000 in
theorem gX4_put_X4_failed : GoodIn wsX4_put (wsV RX4 82 RX4 yX4_failed wsX4_failed) := goodIn_app (goodIn_of _ (by decide +kernel)) ggX4_put_X4_failed
set_option maxRecDepth 20000 in
theorem ggX4_put_X1_hasCells : GoodIn wsX4_put wsX1_hasCells := goodIn_r _ [22, 23, 35, 36, 37] (by decide +kernel) (by decide +kernel)
set_option maxRecDepth 20000 in
theorem gX4_put_X1_hasCells : GoodIn wsX4_put (wsV RX4 216 RX1 yX1_hasCells wsX1_hasCells) := goodIn_app (goodIn_of _ (by decide +kernel)) ggX4_put_X1_hasCells
set_option maxRecDepth 20000 in
theorem ggX4_put_X1_cutToLane : GoodIn wsX4_put wsX1_cutToLane := goodIn_r _ [27, 14, 35, 36, 37] (by decide +kernel) (by decide +kernel)
set_option maxRecDepth 20000 in
theorem gX4_put_X1_cutToLane : GoodIn wsX4_put (wsV RX4 219 RX1 yX1_cutToLane wsX1_cutToLane) := goodIn_app (goodIn_of _ (by decide +kernel)) ggX4_put_X1_cutToLane
theorem dX4_put_0 : decode cX4_put 0 = .ok (.aload_n 0, 1) := by decide +kernel
theorem dX4_put_1 : decode cX4_put 1 = .ok (.iconst 0, 1) := by decide +kernel
theorem dX4_put_2 : decode cX4_put 2 = .ok (.putfield 47, 3) := by decide +kernel
theorem dX4_put_5 : decode cX4_put 5 = .ok (.aload_n 0, 1) := by decide +kernel
theorem dX4_put_6 : decode cX4_put 6 = .ok (.iload_n 1, 1) := by decide +kernel
theorem dX4_put_7 : decode cX4_put 7 = .ok (.invokevirtual 72, 3) := by decide +kernel
theorem dX4_put_10 : decode cX4_put 10 = .ok (.ifCond .ne 5, 3) := by decide +kernel
theorem dX4_put_13 : decode cX4_put 13 = .ok (.iconst (-1), 1) := by decide +kernel
theorem dX4_put_14 : decode cX4_put 14 = .ok (.ireturn, 1) := by decide +kernel
theorem dX4_put_15 : decode cX4_put 15 = .ok (.aload_n 0, 1) := by decide +kernel
theorem dX4_put_16 : decode cX4_put 16 = .ok (.getfield 32, 3) := by decide +kernel
theorem dX4_put_19 : decode cX4_put 19 = .ok (.iload_n 1, 1) := by decide +kernel
theorem dX4_put_20 : decode cX4_put 20 = .ok (.aaload, 1) := by decide +kernel
theorem dX4_put_21 : decode cX4_put 21 = .ok (.astore 4, 2) := by decide +kernel
theorem dX4_put_23 : decode cX4_put 23 = .ok (.aload 4, 2) := by decide +kernel
theorem dX4_put_25 : decode cX4_put 25 = .ok (.invokevirtual 209, 3) := by decide +kernel
theorem dX4_put_28 : decode cX4_put 28 = .ok (.ifCond .eq 9, 3) := by decide +kernel
theorem dX4_put_31 : decode cX4_put 31 = .ok (.aload_n 0, 1) := by decide +kernel
theorem dX4_put_32 : decode cX4_put 32 = .ok (.iconst 1, 1) := by decide +kernel
theorem dX4_put_33 : decode cX4_put 33 = .ok (.invokevirtual 82, 3) := by decide +kernel
theorem dX4_put_36 : decode cX4_put 36 = .ok (.ireturn, 1) := by decide +kernel
theorem dX4_put_37 : decode cX4_put 37 = .ok (.aload 4, 2) := by decide +kernel
theorem dX4_put_39 : decode cX4_put 39 = .ok (.iload_n 2, 1) := by decide +kernel
theorem dX4_put_40 : decode cX4_put 40 = .ok (.iconst 1, 1) := by decide +kernel
theorem dX4_put_41 : decode cX4_put 41 = .ok (.invokevirtual 216, 3) := by decide +kernel
theorem dX4_put_44 : decode cX4_put 44 = .ok (.ifCond .ne 9, 3) := by decide +kernel
theorem dX4_put_47 : decode cX4_put 47 = .ok (.aload_n 0, 1) := by decide +kernel
theorem dX4_put_48 : decode cX4_put 48 = .ok (.iconst 3, 1) := by decide +kernel
theorem dX4_put_49 : decode cX4_put 49 = .ok (.invokevirtual 82, 3) := by decide +kernel
theorem dX4_put_52 : decode cX4_put 52 = .ok (.ireturn, 1) := by decide +kernel
theorem dX4_put_53 : decode cX4_put 53 = .ok (.aload 4, 2) := by decide +kernel
theorem dX4_put_55 : decode cX4_put 55 = .ok (.getfield 86, 3) := by decide +kernel
theorem dX4_put_58 : decode cX4_put 58 = .ok (.iload_n 2, 1) := by decide +kernel
theorem dX4_put_59 : decode cX4_put 59 = .ok (.aload 4, 2) := by decide +kernel
theorem dX4_put_61 : decode cX4_put 61 = .ok (.iload_n 3, 1) := by decide +kernel
theorem dX4_put_62 : decode cX4_put 62 = .ok (.invokevirtual 219, 3) := by decide +kernel
theorem dX4_put_65 : decode cX4_put 65 = .ok (.iastore, 1) := by decide +kernel
theorem dX4_put_66 : decode cX4_put 66 = .ok (.iconst 1, 1) := by decide +kernel
theorem dX4_put_67 : decode cX4_put 67 = .ok (.ireturn, 1) := by decide +kernel
set_option maxRecDepth 20000 in
theorem ggX4_cell_X4_isSheet : GoodIn wsX4_cell wsX4_isSheet := goodIn_r _ [9, 3, 30, 31, 32, 33, 34, 35, 36] (by decide +kernel) (by decide +kernel)
set_option maxRecDepth 20000 in
theorem gX4_cell_X4_isSheet : GoodIn wsX4_cell (wsV RX4 72 RX4 yX4_isSheet wsX4_isSheet) := goodIn_app (goodIn_of _ (by decide +kernel)) ggX4_cell_X4_isSheet
set_option maxRecDepth 20000 in
theorem ggX4_cell_X1_isLane : GoodIn wsX4_cell wsX1_isLane := goodIn_r _ [13, 14, 8, 15] (by decide +kernel) (by decide +kernel)
set_option maxRecDepth 20000 in
theorem gX4_cell_X1_isLane : GoodIn wsX4_cell (va_wsS RX4 75 yX1_isLane wsX1_isLane) := goodIn_app (goodIn_of _ (by decide +kernel)) ggX4_cell_X1_isLane
set_option maxRecDepth 20000 in
theorem ggX4_cell_X1_faultAsLane : GoodIn wsX4_cell wsX1_faultAsLane := goodIn_r _ [19, 20, 21, 22, 23, 12, 24, 37, 38, 39] (by decide +kernel) (by decide +kernel)
set_option maxRecDepth 20000 in
theorem gX4_cell_X1_faultAsLane : GoodIn wsX4_cell (wsV RX4 224 RX1 yX1_faultAsLane wsX1_faultAsLane) := goodIn_app (goodIn_of _ (by decide +kernel)) ggX4_cell_X1_faultAsLane
set_option maxRecDepth 20000 in
theorem ggX4_cell_X1_hasCells : GoodIn wsX4_cell wsX1_hasCells := goodIn_r _ [28, 29, 37, 38, 39] (by decide +kernel) (by decide +kernel)
set_option maxRecDepth 20000 in
theorem gX4_cell_X1_hasCells : GoodIn wsX4_cell (wsV RX4 216 RX1 yX1_hasCells wsX1_hasCells) := goodIn_app (goodIn_of _ (by decide +kernel)) ggX4_cell_X1_hasCells
theorem dX4_cell_0 : decode cX4_cell 0 = .ok (.aload_n 0, 1) := by decide +kernel
theorem dX4_cell_1 : decode cX4_cell 1 = .ok (.iconst 0, 1) := by decide +kernel
theorem dX4_cell_2 : decode cX4_cell 2 = .ok (.putfield 47, 3) := by decide +kernel
theorem dX4_cell_5 : decode cX4_cell 5 = .ok (.aload_n 0, 1) := by decide +kernel
theorem dX4_cell_6 : decode cX4_cell 6 = .ok (.iload_n 1, 1) := by decide +kernel
theorem dX4_cell_7 : decode cX4_cell 7 = .ok (.invokevirtual 72, 3) := by decide +kernel
theorem dX4_cell_10 : decode cX4_cell 10 = .ok (.ifCond .eq 10, 3) := by decide +kernel
theorem dX4_cell_13 : decode cX4_cell 13 = .ok (.iload_n 3, 1) := by decide +kernel
theorem dX4_cell_14 : decode cX4_cell 14 = .ok (.invokestatic 75, 3) := by decide +kernel
theorem dX4_cell_17 : decode cX4_cell 17 = .ok (.ifCond .ne 7, 3) := by decide +kernel
theorem dX4_cell_20 : decode cX4_cell 20 = .ok (.ldc2_w 222, 3) := by decide +kernel
theorem dX4_cell_23 : decode cX4_cell 23 = .ok (.lreturn, 1) := by decide +kernel
theorem dX4_cell_24 : decode cX4_cell 24 = .ok (.aload_n 0, 1) := by decide +kernel
theorem dX4_cell_25 : decode cX4_cell 25 = .ok (.getfield 32, 3) := by decide +kernel
theorem dX4_cell_28 : decode cX4_cell 28 = .ok (.iload_n 1, 1) := by decide +kernel
theorem dX4_cell_29 : decode cX4_cell 29 = .ok (.aaload, 1) := by decide +kernel
theorem dX4_cell_30 : decode cX4_cell 30 = .ok (.astore 4, 2) := by decide +kernel
theorem dX4_cell_32 : decode cX4_cell 32 = .ok (.aload 4, 2) := by decide +kernel
theorem dX4_cell_34 : decode cX4_cell 34 = .ok (.iload_n 3, 1) := by decide +kernel
theorem dX4_cell_35 : decode cX4_cell 35 = .ok (.invokevirtual 224, 3) := by decide +kernel
theorem dX4_cell_38 : decode cX4_cell 38 = .ok (.istore 5, 2) := by decide +kernel
theorem dX4_cell_40 : decode cX4_cell 40 = .ok (.iload 5, 2) := by decide +kernel
theorem dX4_cell_42 : decode cX4_cell 42 = .ok (.ifCond .ne 16, 3) := by decide +kernel
theorem dX4_cell_45 : decode cX4_cell 45 = .ok (.aload 4, 2) := by decide +kernel
theorem dX4_cell_47 : decode cX4_cell 47 = .ok (.iload_n 2, 1) := by decide +kernel
theorem dX4_cell_48 : decode cX4_cell 48 = .ok (.iconst 1, 1) := by decide +kernel
theorem dX4_cell_49 : decode cX4_cell 49 = .ok (.invokevirtual 216, 3) := by decide +kernel
theorem dX4_cell_52 : decode cX4_cell 52 = .ok (.ifCond .ne 6, 3) := by decide +kernel
theorem dX4_cell_55 : decode cX4_cell 55 = .ok (.iconst 3, 1) := by decide +kernel
theorem dX4_cell_56 : decode cX4_cell 56 = .ok (.istore 5, 2) := by decide +kernel
theorem dX4_cell_58 : decode cX4_cell 58 = .ok (.iload 5, 2) := by decide +kernel
theorem dX4_cell_60 : decode cX4_cell 60 = .ok (.ifCond .eq 13, 3) := by decide +kernel
theorem dX4_cell_63 : decode cX4_cell 63 = .ok (.aload_n 0, 1) := by decide +kernel
theorem dX4_cell_64 : decode cX4_cell 64 = .ok (.iload 5, 2) := by decide +kernel
theorem dX4_cell_66 : decode cX4_cell 66 = .ok (.putfield 47, 3) := by decide +kernel
theorem dX4_cell_69 : decode cX4_cell 69 = .ok (.ldc2_w 222, 3) := by decide +kernel
theorem dX4_cell_72 : decode cX4_cell 72 = .ok (.lreturn, 1) := by decide +kernel
theorem dX4_cell_73 : decode cX4_cell 73 = .ok (.aload 4, 2) := by decide +kernel
theorem dX4_cell_75 : decode cX4_cell 75 = .ok (.getfield 86, 3) := by decide +kernel
theorem dX4_cell_78 : decode cX4_cell 78 = .ok (.iload_n 2, 1) := by decide +kernel
theorem dX4_cell_79 : decode cX4_cell 79 = .ok (.iaload, 1) := by decide +kernel
theorem dX4_cell_80 : decode cX4_cell 80 = .ok (.i2l, 1) := by decide +kernel
theorem dX4_cell_81 : decode cX4_cell 81 = .ok (.lreturn, 1) := by decide +kernel
set_option maxRecDepth 20000 in
theorem ggX4_copy_X4_isSheet : GoodIn wsX4_copy wsX4_isSheet := goodIn_r _ [13, 2, 29, 30, 31, 32, 33, 34, 35] (by decide +kernel) (by decide +kernel)
set_option maxRecDepth 20000 in
theorem gX4_copy_X4_isSheet : GoodIn wsX4_copy (wsV RX4 72 RX4 yX4_isSheet wsX4_isSheet) := goodIn_app (goodIn_of _ (by decide +kernel)) ggX4_copy_X4_isSheet
set_option maxRecDepth 20000 in
theorem ggX4_copy_X1_hasNothing : GoodIn wsX4_copy wsX1_hasNothing := goodIn_r _ [18, 19, 36, 37, 38] (by decide +kernel) (by decide +kernel)
set_option maxRecDepth 20000 in
theorem gX4_copy_X1_hasNothing : GoodIn wsX4_copy (wsV RX4 209 RX1 yX1_hasNothing wsX1_hasNothing) := goodIn_app (goodIn_of _ (by decide +kernel)) ggX4_copy_X1_hasNothing
set_option maxRecDepth 20000 in
theorem ggX4_copy_X4_failed : GoodIn wsX4_copy wsX4_failed := goodIn_r _ [23, 1, 29, 30, 31, 32, 33, 34, 35] (by decide +kernel) (by decide +kernel)
set_option maxRecDepth 20000 in
theorem gX4_copy_X4_failed : GoodIn wsX4_copy (wsV RX4 82 RX4 yX4_failed wsX4_failed) := goodIn_app (goodIn_of _ (by decide +kernel)) ggX4_copy_X4_failed
set_option maxRecDepth 20000 in
theorem ggX4_copy_X1_hasCells : GoodIn wsX4_copy wsX1_hasCells := goodIn_r _ [27, 28, 36, 37, 38] (by decide +kernel) (by decide +kernel)
set_option maxRecDepth 20000 in
theorem gX4_copy_X1_hasCells : GoodIn wsX4_copy (wsV RX4 216 RX1 yX1_hasCells wsX1_hasCells) := goodIn_app (goodIn_of _ (by decide +kernel)) ggX4_copy_X1_hasCells
theorem dX4_copy_0 : decode cX4_copy 0 = .ok (.aload_n 0, 1) := by decide +kernel
theorem dX4_copy_1 : decode cX4_copy 1 = .ok (.iconst 0, 1) := by decide +kernel
theorem dX4_copy_2 : decode cX4_copy 2 = .ok (.putfield 47, 3) := by decide +kernel
theorem dX4_copy_5 : decode cX4_copy 5 = .ok (.aload_n 0, 1) := by decide +kernel
theorem dX4_copy_6 : decode cX4_copy 6 = .ok (.iload_n 1, 1) := by decide +kernel
theorem dX4_copy_7 : decode cX4_copy 7 = .ok (.invokevirtual 72, 3) := by decide +kernel
theorem dX4_copy_10 : decode cX4_copy 10 = .ok (.ifCond .eq 11, 3) := by decide +kernel
theorem dX4_copy_13 : decode cX4_copy 13 = .ok (.aload_n 0, 1) := by decide +kernel
theorem dX4_copy_14 : decode cX4_copy 14 = .ok (.iload_n 3, 1) := by decide +kernel
theorem dX4_copy_15 : decode cX4_copy 15 = .ok (.invokevirtual 72, 3) := by decide +kernel
theorem dX4_copy_18 : decode cX4_copy 18 = .ok (.ifCond .ne 5, 3) := by decide +kernel
theorem dX4_copy_21 : decode cX4_copy 21 = .ok (.iconst (-1), 1) := by decide +kernel
theorem dX4_copy_22 : decode cX4_copy 22 = .ok (.ireturn, 1) := by decide +kernel
theorem dX4_copy_23 : decode cX4_copy 23 = .ok (.aload_n 0, 1) := by decide +kernel
theorem dX4_copy_24 : decode cX4_copy 24 = .ok (.getfield 32, 3) := by decide +kernel
theorem dX4_copy_27 : decode cX4_copy 27 = .ok (.iload_n 1, 1) := by decide +kernel
theorem dX4_copy_28 : decode cX4_copy 28 = .ok (.aaload, 1) := by decide +kernel
theorem dX4_copy_29 : decode cX4_copy 29 = .ok (.astore 6, 2) := by decide +kernel
theorem dX4_copy_31 : decode cX4_copy 31 = .ok (.aload_n 0, 1) := by decide +kernel
theorem dX4_copy_32 : decode cX4_copy 32 = .ok (.getfield 32, 3) := by decide +kernel
theorem dX4_copy_35 : decode cX4_copy 35 = .ok (.iload_n 3, 1) := by decide +kernel
theorem dX4_copy_36 : decode cX4_copy 36 = .ok (.aaload, 1) := by decide +kernel
theorem dX4_copy_37 : decode cX4_copy 37 = .ok (.astore 7, 2) := by decide +kernel
theorem dX4_copy_39 : decode cX4_copy 39 = .ok (.aload 6, 2) := by decide +kernel
theorem dX4_copy_41 : decode cX4_copy 41 = .ok (.invokevirtual 209, 3) := by decide +kernel
theorem dX4_copy_44 : decode cX4_copy 44 = .ok (.ifCond .ne 11, 3) := by decide +kernel
theorem dX4_copy_47 : decode cX4_copy 47 = .ok (.aload 7, 2) := by decide +kernel
theorem dX4_copy_49 : decode cX4_copy 49 = .ok (.invokevirtual 209, 3) := by decide +kernel
theorem dX4_copy_52 : decode cX4_copy 52 = .ok (.ifCond .eq 9, 3) := by decide +kernel
theorem dX4_copy_55 : decode cX4_copy 55 = .ok (.aload_n 0, 1) := by decide +kernel
theorem dX4_copy_56 : decode cX4_copy 56 = .ok (.iconst 1, 1) := by decide +kernel
theorem dX4_copy_57 : decode cX4_copy 57 = .ok (.invokevirtual 82, 3) := by decide +kernel
theorem dX4_copy_60 : decode cX4_copy 60 = .ok (.ireturn, 1) := by decide +kernel
theorem dX4_copy_61 : decode cX4_copy 61 = .ok (.aload 6, 2) := by decide +kernel
theorem dX4_copy_63 : decode cX4_copy 63 = .ok (.getfield 227, 3) := by decide +kernel
theorem dX4_copy_66 : decode cX4_copy 66 = .ok (.aload 7, 2) := by decide +kernel
theorem dX4_copy_68 : decode cX4_copy 68 = .ok (.getfield 227, 3) := by decide +kernel
theorem dX4_copy_71 : decode cX4_copy 71 = .ok (.if_icmp .eq 9, 3) := by decide +kernel
theorem dX4_copy_74 : decode cX4_copy 74 = .ok (.aload_n 0, 1) := by decide +kernel
theorem dX4_copy_75 : decode cX4_copy 75 = .ok (.iconst 2, 1) := by decide +kernel
theorem dX4_copy_76 : decode cX4_copy 76 = .ok (.invokevirtual 82, 3) := by decide +kernel
theorem dX4_copy_79 : decode cX4_copy 79 = .ok (.ireturn, 1) := by decide +kernel
theorem dX4_copy_80 : decode cX4_copy 80 = .ok (.aload 6, 2) := by decide +kernel
theorem dX4_copy_82 : decode cX4_copy 82 = .ok (.iload_n 2, 1) := by decide +kernel
theorem dX4_copy_83 : decode cX4_copy 83 = .ok (.iload 5, 2) := by decide +kernel
theorem dX4_copy_85 : decode cX4_copy 85 = .ok (.invokevirtual 216, 3) := by decide +kernel
theorem dX4_copy_88 : decode cX4_copy 88 = .ok (.ifCond .eq 15, 3) := by decide +kernel
theorem dX4_copy_91 : decode cX4_copy 91 = .ok (.aload 7, 2) := by decide +kernel
theorem dX4_copy_93 : decode cX4_copy 93 = .ok (.iload 4, 2) := by decide +kernel
theorem dX4_copy_95 : decode cX4_copy 95 = .ok (.iload 5, 2) := by decide +kernel
theorem dX4_copy_97 : decode cX4_copy 97 = .ok (.invokevirtual 216, 3) := by decide +kernel
theorem dX4_copy_100 : decode cX4_copy 100 = .ok (.ifCond .ne 9, 3) := by decide +kernel
theorem dX4_copy_103 : decode cX4_copy 103 = .ok (.aload_n 0, 1) := by decide +kernel
theorem dX4_copy_104 : decode cX4_copy 104 = .ok (.iconst 3, 1) := by decide +kernel
theorem dX4_copy_105 : decode cX4_copy 105 = .ok (.invokevirtual 82, 3) := by decide +kernel
theorem dX4_copy_108 : decode cX4_copy 108 = .ok (.ireturn, 1) := by decide +kernel
theorem dX4_copy_109 : decode cX4_copy 109 = .ok (.aload 6, 2) := by decide +kernel
theorem dX4_copy_111 : decode cX4_copy 111 = .ok (.getfield 86, 3) := by decide +kernel
theorem dX4_copy_114 : decode cX4_copy 114 = .ok (.iload_n 2, 1) := by decide +kernel
theorem dX4_copy_115 : decode cX4_copy 115 = .ok (.aload 7, 2) := by decide +kernel
theorem dX4_copy_117 : decode cX4_copy 117 = .ok (.getfield 86, 3) := by decide +kernel
theorem dX4_copy_120 : decode cX4_copy 120 = .ok (.iload 4, 2) := by decide +kernel
theorem dX4_copy_122 : decode cX4_copy 122 = .ok (.iload 5, 2) := by decide +kernel
theorem dX4_copy_124 : decode cX4_copy 124 = .ok (.invokestatic 230, 3) := by decide +kernel
theorem dX4_copy_127 : decode cX4_copy 127 = .ok (.iload 5, 2) := by decide +kernel
theorem dX4_copy_129 : decode cX4_copy 129 = .ok (.ireturn, 1) := by decide +kernel
set_option maxRecDepth 20000 in
theorem ggX4_tell_X2_has : GoodIn wsX4_tell wsX2_has := goodIn_r _ [7, 8, 37, 38, 39, 40, 41, 42, 43, 44, 45] (by decide +kernel) (by decide +kernel)
set_option maxRecDepth 20000 in
theorem gX4_tell_X2_has : GoodIn wsX4_tell (wsV RX4 97 RX2 yX2_has wsX2_has) := goodIn_app (goodIn_of _ (by decide +kernel)) ggX4_tell_X2_has
set_option maxRecDepth 20000 in
theorem ggX4_tell_X4_mastBody : GoodIn wsX4_tell wsX4_mastBody := goodIn_r _ [13, 1, 14, 15, 16, 17, 12, 18, 19, 20, 21, 22, 23, 24, 30, 31, 32, 33, 34, 35, 36, 37, 38, 39, 40, 41, 42, 43, 44, 45] (by decide +kernel) (by decide +kernel)
set_option maxRecDepth 20000 in
theorem gX4_tell_X4_mastBody : GoodIn wsX4_tell (wsV RX4 236 RX4 yX4_mastBody wsX4_mastBody) := goodIn_app (goodIn_of _ (by decide +kernel)) ggX4_tell_X4_mastBody
set_option maxRecDepth 20000 in
theorem ggX4_tell_X4_bowspritBody : GoodIn wsX4_tell wsX4_bowspritBody := goodIn_r _ [28, 1, 29, 15, 16, 17, 12, 18, 19, 20, 21, 22, 23, 24, 30, 31, 32, 33, 34, 35, 36, 37, 38, 39, 40, 41, 42, 43, 44, 45] (by decide +kernel) (by decide +kernel)
set_option maxRecDepth 20000 in
theorem gX4_tell_X4_bowspritBody : GoodIn wsX4_tell (wsV RX4 239 RX4 yX4_bowspritBody wsX4_bowspritBody) := goodIn_app (goodIn_of _ (by decide +kernel)) ggX4_tell_X4_bowspritBody
set_option maxRecDepth 20000 in
theorem ggX4_tell_X4_sparBody : GoodIn wsX4_tell wsX4_sparBody := goodIn_r _ [23, 1, 24, 15, 16, 17, 12, 18, 19, 30, 31, 32, 33, 34, 35, 36, 37, 38, 39, 40, 41, 42, 43, 44, 45] (by decide +kernel) (by decide +kernel)
set_option maxRecDepth 20000 in
theorem gX4_tell_X4_sparBody : GoodIn wsX4_tell (wsV RX4 242 RX4 yX4_sparBody wsX4_sparBody) := goodIn_app (goodIn_of _ (by decide +kernel)) ggX4_tell_X4_sparBody
theorem dX4_tell_0 : decode cX4_tell 0 = .ok (.aload_n 0, 1) := by decide +kernel
theorem dX4_tell_1 : decode cX4_tell 1 = .ok (.getfield 18, 3) := by decide +kernel
theorem dX4_tell_4 : decode cX4_tell 4 = .ok (.iload_n 1, 1) := by decide +kernel
theorem dX4_tell_5 : decode cX4_tell 5 = .ok (.invokevirtual 97, 3) := by decide +kernel
theorem dX4_tell_8 : decode cX4_tell 8 = .ok (.ifCond .ne 5, 3) := by decide +kernel
theorem dX4_tell_11 : decode cX4_tell 11 = .ok (.iconst (-1), 1) := by decide +kernel
theorem dX4_tell_12 : decode cX4_tell 12 = .ok (.ireturn, 1) := by decide +kernel
theorem dX4_tell_13 : decode cX4_tell 13 = .ok (.aload_n 0, 1) := by decide +kernel
theorem dX4_tell_14 : decode cX4_tell 14 = .ok (.getfield 18, 3) := by decide +kernel
theorem dX4_tell_17 : decode cX4_tell 17 = .ok (.getfield 100, 3) := by decide +kernel
theorem dX4_tell_20 : decode cX4_tell 20 = .ok (.iload_n 1, 1) := by decide +kernel
theorem dX4_tell_21 : decode cX4_tell 21 = .ok (.iaload, 1) := by decide +kernel
theorem dX4_tell_22 : decode cX4_tell 22 = .ok (.lookupswitch 38 #[(1, 26), (2, 32)], 26) := by decide +kernel
theorem dX4_tell_48 : decode cX4_tell 48 = .ok (.aload_n 0, 1) := by decide +kernel
theorem dX4_tell_49 : decode cX4_tell 49 = .ok (.iload_n 1, 1) := by decide +kernel
theorem dX4_tell_50 : decode cX4_tell 50 = .ok (.invokevirtual 236, 3) := by decide +kernel
theorem dX4_tell_53 : decode cX4_tell 53 = .ok (.ireturn, 1) := by decide +kernel
theorem dX4_tell_54 : decode cX4_tell 54 = .ok (.aload_n 0, 1) := by decide +kernel
theorem dX4_tell_55 : decode cX4_tell 55 = .ok (.iload_n 1, 1) := by decide +kernel
theorem dX4_tell_56 : decode cX4_tell 56 = .ok (.invokevirtual 239, 3) := by decide +kernel
theorem dX4_tell_59 : decode cX4_tell 59 = .ok (.ireturn, 1) := by decide +kernel
theorem dX4_tell_60 : decode cX4_tell 60 = .ok (.aload_n 0, 1) := by decide +kernel
theorem dX4_tell_61 : decode cX4_tell 61 = .ok (.iload_n 1, 1) := by decide +kernel
theorem dX4_tell_62 : decode cX4_tell 62 = .ok (.invokevirtual 242, 3) := by decide +kernel
theorem dX4_tell_65 : decode cX4_tell 65 = .ok (.ireturn, 1) := by decide +kernel
set_option maxRecDepth 20000 in
theorem ggX4_name_X2_has : GoodIn wsX4_name wsX2_has := goodIn_r _ [7, 8, 31, 32, 33, 34, 35, 36, 37, 38, 39] (by decide +kernel) (by decide +kernel)
set_option maxRecDepth 20000 in
theorem gX4_name_X2_has : GoodIn wsX4_name (wsV RX4 97 RX2 yX2_has wsX2_has) := goodIn_app (goodIn_of _ (by decide +kernel)) ggX4_name_X2_has
set_option maxRecDepth 20000 in
theorem ggX4_name_X4_bowspritNameBody : GoodIn wsX4_name wsX4_bowspritNameBody := goodIn_r _ [13, 14, 15, 16, 12, 17, 18, 24, 25, 26, 27, 28, 29, 30] (by decide +kernel) (by decide +kernel)
set_option maxRecDepth 20000 in
theorem gX4_name_X4_bowspritNameBody : GoodIn wsX4_name (wsV RX4 245 RX4 yX4_bowspritNameBody wsX4_bowspritNameBody) := goodIn_app (goodIn_of _ (by decide +kernel)) ggX4_name_X4_bowspritNameBody
set_option maxRecDepth 20000 in
theorem ggX4_name_X4_lentNameBody : GoodIn wsX4_name wsX4_lentNameBody := goodIn_r _ [22, 1, 23, 14, 15, 16, 12, 17, 18, 24, 25, 26, 27, 28, 29, 30, 31, 32, 33, 34, 35, 36, 37, 38, 39] (by decide +kernel) (by decide +kernel)
set_option maxRecDepth 20000 in
theorem gX4_name_X4_lentNameBody : GoodIn wsX4_name (wsV RX4 248 RX4 yX4_lentNameBody wsX4_lentNameBody) := goodIn_app (goodIn_of _ (by decide +kernel)) ggX4_name_X4_lentNameBody
theorem dX4_name_0 : decode cX4_name 0 = .ok (.aload_n 0, 1) := by decide +kernel
theorem dX4_name_1 : decode cX4_name 1 = .ok (.getfield 18, 3) := by decide +kernel
theorem dX4_name_4 : decode cX4_name 4 = .ok (.iload_n 1, 1) := by decide +kernel
theorem dX4_name_5 : decode cX4_name 5 = .ok (.invokevirtual 97, 3) := by decide +kernel
theorem dX4_name_8 : decode cX4_name 8 = .ok (.ifCond .ne 5, 3) := by decide +kernel
theorem dX4_name_11 : decode cX4_name 11 = .ok (.iconst (-1), 1) := by decide +kernel
theorem dX4_name_12 : decode cX4_name 12 = .ok (.ireturn, 1) := by decide +kernel
theorem dX4_name_13 : decode cX4_name 13 = .ok (.aload_n 0, 1) := by decide +kernel
theorem dX4_name_14 : decode cX4_name 14 = .ok (.getfield 18, 3) := by decide +kernel
theorem dX4_name_17 : decode cX4_name 17 = .ok (.getfield 100, 3) := by decide +kernel
theorem dX4_name_20 : decode cX4_name 20 = .ok (.iload_n 1, 1) := by decide +kernel
theorem dX4_name_21 : decode cX4_name 21 = .ok (.iaload, 1) := by decide +kernel
theorem dX4_name_22 : decode cX4_name 22 = .ok (.iconst 2, 1) := by decide +kernel
theorem dX4_name_23 : decode cX4_name 23 = .ok (.if_icmp .ne 10, 3) := by decide +kernel
theorem dX4_name_26 : decode cX4_name 26 = .ok (.aload_n 0, 1) := by decide +kernel
theorem dX4_name_27 : decode cX4_name 27 = .ok (.invokevirtual 245, 3) := by decide +kernel
theorem dX4_name_30 : decode cX4_name 30 = .ok (.goto 8, 3) := by decide +kernel
theorem dX4_name_33 : decode cX4_name 33 = .ok (.aload_n 0, 1) := by decide +kernel
theorem dX4_name_34 : decode cX4_name 34 = .ok (.iload_n 1, 1) := by decide +kernel
theorem dX4_name_35 : decode cX4_name 35 = .ok (.invokevirtual 248, 3) := by decide +kernel
theorem dX4_name_38 : decode cX4_name 38 = .ok (.ireturn, 1) := by decide +kernel
set_option maxRecDepth 20000 in
theorem ggX4_as_X2_has : GoodIn wsX4_as wsX2_has := goodIn_r _ [8, 9, 25, 26, 27, 28, 29, 30, 31, 32, 33] (by decide +kernel) (by decide +kernel)
set_option maxRecDepth 20000 in
theorem gX4_as_X2_has : GoodIn wsX4_as (wsV RX4 97 RX2 yX2_has wsX2_has) := goodIn_app (goodIn_of _ (by decide +kernel)) ggX4_as_X2_has
set_option maxRecDepth 20000 in
theorem ggX4_as_X4_isWithin : GoodIn wsX4_as wsX4_isWithin := goodIn_r _ [13] (by decide +kernel) (by decide +kernel)
set_option maxRecDepth 20000 in
theorem gX4_as_X4_isWithin : GoodIn wsX4_as (va_wsS RX4 53 yX4_isWithin wsX4_isWithin) := goodIn_app (goodIn_of _ (by decide +kernel)) ggX4_as_X4_isWithin
set_option maxRecDepth 20000 in
theorem ggX4_as_X4_failed : GoodIn wsX4_as wsX4_failed := goodIn_r _ [17, 1, 18, 19, 20, 21, 22, 23, 24] (by decide +kernel) (by decide +kernel)
set_option maxRecDepth 20000 in
theorem gX4_as_X4_failed : GoodIn wsX4_as (wsV RX4 82 RX4 yX4_failed wsX4_failed) := goodIn_app (goodIn_of _ (by decide +kernel)) ggX4_as_X4_failed
theorem dX4_as_0 : decode cX4_as 0 = .ok (.aload_n 0, 1) := by decide +kernel
theorem dX4_as_1 : decode cX4_as 1 = .ok (.iconst 0, 1) := by decide +kernel
theorem dX4_as_2 : decode cX4_as 2 = .ok (.putfield 47, 3) := by decide +kernel
theorem dX4_as_5 : decode cX4_as 5 = .ok (.aload_n 0, 1) := by decide +kernel
theorem dX4_as_6 : decode cX4_as 6 = .ok (.getfield 18, 3) := by decide +kernel
theorem dX4_as_9 : decode cX4_as 9 = .ok (.iload_n 1, 1) := by decide +kernel
theorem dX4_as_10 : decode cX4_as 10 = .ok (.invokevirtual 97, 3) := by decide +kernel
theorem dX4_as_13 : decode cX4_as 13 = .ok (.ifCond .ne 5, 3) := by decide +kernel
theorem dX4_as_16 : decode cX4_as 16 = .ok (.iconst (-1), 1) := by decide +kernel
theorem dX4_as_17 : decode cX4_as 17 = .ok (.ireturn, 1) := by decide +kernel
theorem dX4_as_18 : decode cX4_as 18 = .ok (.iload_n 2, 1) := by decide +kernel
theorem dX4_as_19 : decode cX4_as 19 = .ok (.iconst 0, 1) := by decide +kernel
theorem dX4_as_20 : decode cX4_as 20 = .ok (.iconst 2, 1) := by decide +kernel
theorem dX4_as_21 : decode cX4_as 21 = .ok (.invokestatic 53, 3) := by decide +kernel
theorem dX4_as_24 : decode cX4_as 24 = .ok (.ifCond .ne 6, 3) := by decide +kernel
theorem dX4_as_27 : decode cX4_as 27 = .ok (.bipush (-2), 2) := by decide +kernel
theorem dX4_as_29 : decode cX4_as 29 = .ok (.ireturn, 1) := by decide +kernel
theorem dX4_as_30 : decode cX4_as 30 = .ok (.aload_n 0, 1) := by decide +kernel
theorem dX4_as_31 : decode cX4_as 31 = .ok (.getfield 18, 3) := by decide +kernel
theorem dX4_as_34 : decode cX4_as 34 = .ok (.getfield 100, 3) := by decide +kernel
theorem dX4_as_37 : decode cX4_as 37 = .ok (.iload_n 1, 1) := by decide +kernel
theorem dX4_as_38 : decode cX4_as 38 = .ok (.iaload, 1) := by decide +kernel
theorem dX4_as_39 : decode cX4_as 39 = .ok (.iload_n 2, 1) := by decide +kernel
theorem dX4_as_40 : decode cX4_as 40 = .ok (.if_icmp .ge 11, 3) := by decide +kernel
theorem dX4_as_43 : decode cX4_as 43 = .ok (.aload_n 0, 1) := by decide +kernel
theorem dX4_as_44 : decode cX4_as 44 = .ok (.iconst 2, 1) := by decide +kernel
theorem dX4_as_45 : decode cX4_as 45 = .ok (.invokevirtual 82, 3) := by decide +kernel
theorem dX4_as_48 : decode cX4_as 48 = .ok (.goto 4, 3) := by decide +kernel
theorem dX4_as_51 : decode cX4_as 51 = .ok (.iconst 1, 1) := by decide +kernel
theorem dX4_as_52 : decode cX4_as 52 = .ok (.ireturn, 1) := by decide +kernel
theorem dX4_trace_0 : decode cX4_trace 0 = .ok (.aload_n 0, 1) := by decide +kernel
theorem dX4_trace_1 : decode cX4_trace 1 = .ok (.getfield 43, 3) := by decide +kernel
theorem dX4_trace_4 : decode cX4_trace 4 = .ok (.ireturn, 1) := by decide +kernel
theorem dX4_fault_0 : decode cX4_fault 0 = .ok (.aload_n 0, 1) := by decide +kernel
theorem dX4_fault_1 : decode cX4_fault 1 = .ok (.getfield 47, 3) := by decide +kernel
theorem dX4_fault_4 : decode cX4_fault 4 = .ok (.ireturn, 1) := by decide +kernel
set_option maxRecDepth 20000 in
theorem ggX4_told_J6_bitCount_0f7a4 : GoodIn wsX4_told wsJ6_bitCount_0f7a4 := goodIn_r _ [10, 11, 12, 13] (by decide +kernel) (by decide +kernel)
set_option maxRecDepth 20000 in
theorem gX4_told_J6_bitCount_0f7a4 : GoodIn wsX4_told (va_wsS RX4 135 yJ6_bitCount_0f7a4 wsJ6_bitCount_0f7a4) := goodIn_app (goodIn_of _ (by decide +kernel)) ggX4_told_J6_bitCount_0f7a4
set_option maxRecDepth 20000 in
theorem ggX4_told_X3_raised : GoodIn wsX4_told wsX3_raised := goodIn_r _ [18, 19, 20, 21, 22, 23, 17, 24, 25, 26, 27, 28, 29, 52, 53, 54, 55, 56, 57, 58, 59] (by decide +kernel) (by decide +kernel)
set_option maxRecDepth 20000 in
theorem gX4_told_X3_raised : GoodIn wsX4_told (wsV RX4 128 RX3 yX3_raised wsX3_raised) := goodIn_app (goodIn_of _ (by decide +kernel)) ggX4_told_X3_raised
set_option maxRecDepth 20000 in
theorem ggX4_told_X3_wholePairsThatCross : GoodIn wsX4_told wsX3_wholePairsThatCross := goodIn_r _ [33, 19, 25, 34, 27, 28, 29, 35, 8, 9, 10, 11, 12, 13, 52, 53, 54, 55, 56, 57, 58, 59] (by decide +kernel) (by decide +kernel)
set_option maxRecDepth 20000 in
theorem gX4_told_X3_wholePairsThatCross : GoodIn wsX4_told (wsV RX4 252 RX3 yX3_wholePairsThatCross wsX3_wholePairsThatCross) := goodIn_app (goodIn_of _ (by decide +kernel)) ggX4_told_X3_wholePairsThatCross
theorem dX4_told_0 : decode cX4_told 0 = .ok (.iload_n 1, 1) := by decide +kernel
theorem dX4_told_1 : decode cX4_told 1 = .ok (.tableswitch 104 0 5 #[39, 47, 55, 66, 85, 96], 39) := by decide +kernel
theorem dX4_told_40 : decode cX4_told 40 = .ok (.aload_n 0, 1) := by decide +kernel
theorem dX4_told_41 : decode cX4_told 41 = .ok (.getfield 18, 3) := by decide +kernel
theorem dX4_told_44 : decode cX4_told 44 = .ok (.getfield 61, 3) := by decide +kernel
theorem dX4_told_47 : decode cX4_told 47 = .ok (.ireturn, 1) := by decide +kernel
theorem dX4_told_48 : decode cX4_told 48 = .ok (.aload_n 0, 1) := by decide +kernel
theorem dX4_told_49 : decode cX4_told 49 = .ok (.getfield 25, 3) := by decide +kernel
theorem dX4_told_52 : decode cX4_told 52 = .ok (.getfield 251, 3) := by decide +kernel
theorem dX4_told_55 : decode cX4_told 55 = .ok (.ireturn, 1) := by decide +kernel
theorem dX4_told_56 : decode cX4_told 56 = .ok (.aload_n 0, 1) := by decide +kernel
theorem dX4_told_57 : decode cX4_told 57 = .ok (.getfield 18, 3) := by decide +kernel
theorem dX4_told_60 : decode cX4_told 60 = .ok (.getfield 125, 3) := by decide +kernel
theorem dX4_told_63 : decode cX4_told 63 = .ok (.invokestatic 135, 3) := by decide +kernel
theorem dX4_told_66 : decode cX4_told 66 = .ok (.ireturn, 1) := by decide +kernel
theorem dX4_told_67 : decode cX4_told 67 = .ok (.aload_n 0, 1) := by decide +kernel
theorem dX4_told_68 : decode cX4_told 68 = .ok (.getfield 18, 3) := by decide +kernel
theorem dX4_told_71 : decode cX4_told 71 = .ok (.getfield 125, 3) := by decide +kernel
theorem dX4_told_74 : decode cX4_told 74 = .ok (.aload_n 0, 1) := by decide +kernel
theorem dX4_told_75 : decode cX4_told 75 = .ok (.getfield 25, 3) := by decide +kernel
theorem dX4_told_78 : decode cX4_told 78 = .ok (.invokevirtual 128, 3) := by decide +kernel
theorem dX4_told_81 : decode cX4_told 81 = .ok (.iand, 1) := by decide +kernel
theorem dX4_told_82 : decode cX4_told 82 = .ok (.invokestatic 135, 3) := by decide +kernel
theorem dX4_told_85 : decode cX4_told 85 = .ok (.ireturn, 1) := by decide +kernel
theorem dX4_told_86 : decode cX4_told 86 = .ok (.aload_n 0, 1) := by decide +kernel
theorem dX4_told_87 : decode cX4_told 87 = .ok (.getfield 25, 3) := by decide +kernel
theorem dX4_told_90 : decode cX4_told 90 = .ok (.getfield 163, 3) := by decide +kernel
theorem dX4_told_93 : decode cX4_told 93 = .ok (.invokestatic 135, 3) := by decide +kernel
theorem dX4_told_96 : decode cX4_told 96 = .ok (.ireturn, 1) := by decide +kernel
theorem dX4_told_97 : decode cX4_told 97 = .ok (.aload_n 0, 1) := by decide +kernel
theorem dX4_told_98 : decode cX4_told 98 = .ok (.getfield 25, 3) := by decide +kernel
theorem dX4_told_101 : decode cX4_told 101 = .ok (.invokevirtual 252, 3) := by decide +kernel
theorem dX4_told_104 : decode cX4_told 104 = .ok (.ireturn, 1) := by decide +kernel
theorem dX4_told_105 : decode cX4_told 105 = .ok (.bipush (-2), 2) := by decide +kernel
theorem dX4_told_107 : decode cX4_told 107 = .ok (.ireturn, 1) := by decide +kernel
theorem dX4_oneIf_0 : decode cX4_oneIf 0 = .ok (.iload_n 0, 1) := by decide +kernel
theorem dX4_oneIf_1 : decode cX4_oneIf 1 = .ok (.ifCond .eq 7, 3) := by decide +kernel
theorem dX4_oneIf_4 : decode cX4_oneIf 4 = .ok (.iconst 1, 1) := by decide +kernel
theorem dX4_oneIf_5 : decode cX4_oneIf 5 = .ok (.goto 4, 3) := by decide +kernel
theorem dX4_oneIf_8 : decode cX4_oneIf 8 = .ok (.iconst 0, 1) := by decide +kernel
theorem dX4_oneIf_9 : decode cX4_oneIf 9 = .ok (.ireturn, 1) := by decide +kernel
theorem dX4_isWithin_0 : decode cX4_isWithin 0 = .ok (.iload_n 0, 1) := by decide +kernel
theorem dX4_isWithin_1 : decode cX4_isWithin 1 = .ok (.iload_n 1, 1) := by decide +kernel
theorem dX4_isWithin_2 : decode cX4_isWithin 2 = .ok (.if_icmp .lt 12, 3) := by decide +kernel
theorem dX4_isWithin_5 : decode cX4_isWithin 5 = .ok (.iload_n 0, 1) := by decide +kernel
theorem dX4_isWithin_6 : decode cX4_isWithin 6 = .ok (.iload_n 2, 1) := by decide +kernel
theorem dX4_isWithin_7 : decode cX4_isWithin 7 = .ok (.if_icmp .gt 7, 3) := by decide +kernel
theorem dX4_isWithin_10 : decode cX4_isWithin 10 = .ok (.iconst 1, 1) := by decide +kernel
theorem dX4_isWithin_11 : decode cX4_isWithin 11 = .ok (.goto 4, 3) := by decide +kernel
theorem dX4_isWithin_14 : decode cX4_isWithin 14 = .ok (.iconst 0, 1) := by decide +kernel
theorem dX4_isWithin_15 : decode cX4_isWithin 15 = .ok (.ireturn, 1) := by decide +kernel
theorem dX4_isIn_0 : decode cX4_isIn 0 = .ok (.iload_n 0, 1) := by decide +kernel
theorem dX4_isIn_1 : decode cX4_isIn 1 = .ok (.iload_n 1, 1) := by decide +kernel
theorem dX4_isIn_2 : decode cX4_isIn 2 = .ok (.ishr, 1) := by decide +kernel
theorem dX4_isIn_3 : decode cX4_isIn 3 = .ok (.iconst 1, 1) := by decide +kernel
theorem dX4_isIn_4 : decode cX4_isIn 4 = .ok (.iand, 1) := by decide +kernel
theorem dX4_isIn_5 : decode cX4_isIn 5 = .ok (.iconst 1, 1) := by decide +kernel
theorem dX4_isIn_6 : decode cX4_isIn 6 = .ok (.if_icmp .ne 7, 3) := by decide +kernel
theorem dX4_isIn_9 : decode cX4_isIn 9 = .ok (.iconst 1, 1) := by decide +kernel
theorem dX4_isIn_10 : decode cX4_isIn 10 = .ok (.goto 4, 3) := by decide +kernel
theorem dX4_isIn_13 : decode cX4_isIn 13 = .ok (.iconst 0, 1) := by decide +kernel
theorem dX4_isIn_14 : decode cX4_isIn 14 = .ok (.ireturn, 1) := by decide +kernel
theorem dX4_isSheet_0 : decode cX4_isSheet 0 = .ok (.iload_n 1, 1) := by decide +kernel
theorem dX4_isSheet_1 : decode cX4_isSheet 1 = .ok (.ifCond .lt 16, 3) := by decide +kernel
theorem dX4_isSheet_4 : decode cX4_isSheet 4 = .ok (.iload_n 1, 1) := by decide +kernel
theorem dX4_isSheet_5 : decode cX4_isSheet 5 = .ok (.aload_n 0, 1) := by decide +kernel
theorem dX4_isSheet_6 : decode cX4_isSheet 6 = .ok (.getfield 32, 3) := by decide +kernel
theorem dX4_isSheet_9 : decode cX4_isSheet 9 = .ok (.arraylength, 1) := by decide +kernel
theorem dX4_isSheet_10 : decode cX4_isSheet 10 = .ok (.if_icmp .ge 7, 3) := by decide +kernel
theorem dX4_isSheet_13 : decode cX4_isSheet 13 = .ok (.iconst 1, 1) := by decide +kernel
theorem dX4_isSheet_14 : decode cX4_isSheet 14 = .ok (.goto 4, 3) := by decide +kernel
theorem dX4_isSheet_17 : decode cX4_isSheet 17 = .ok (.iconst 0, 1) := by decide +kernel
theorem dX4_isSheet_18 : decode cX4_isSheet 18 = .ok (.ireturn, 1) := by decide +kernel
theorem dX4_failed_0 : decode cX4_failed 0 = .ok (.aload_n 0, 1) := by decide +kernel
theorem dX4_failed_1 : decode cX4_failed 1 = .ok (.iload_n 1, 1) := by decide +kernel
theorem dX4_failed_2 : decode cX4_failed 2 = .ok (.putfield 47, 3) := by decide +kernel
theorem dX4_failed_5 : decode cX4_failed 5 = .ok (.bipush (-10), 2) := by decide +kernel
theorem dX4_failed_7 : decode cX4_failed 7 = .ok (.iload_n 1, 1) := by decide +kernel
theorem dX4_failed_8 : decode cX4_failed 8 = .ok (.isub, 1) := by decide +kernel
theorem dX4_failed_9 : decode cX4_failed 9 = .ok (.ireturn, 1) := by decide +kernel
set_option maxRecDepth 20000 in
theorem ggX4_isTooShort_X2_greatestFoot : GoodIn wsX4_isTooShort wsX2_greatestFoot := goodIn_r _ [7, 8, 9, 10, 11, 12, 13, 29, 30, 31, 32, 33, 34, 35, 36, 37] (by decide +kernel) (by decide +kernel)
set_option maxRecDepth 20000 in
theorem gX4_isTooShort_X2_greatestFoot : GoodIn wsX4_isTooShort (wsV RX4 255 RX2 yX2_greatestFoot wsX2_greatestFoot) := goodIn_app (goodIn_of _ (by decide +kernel)) ggX4_isTooShort_X2_greatestFoot
set_option maxRecDepth 20000 in
theorem ggX4_isTooShort_X3_greatestHole : GoodIn wsX4_isTooShort wsX3_greatestHole := goodIn_r _ [18, 19, 20, 21, 11, 12, 13, 38, 39, 40, 41, 42, 43, 44, 45] (by decide +kernel) (by decide +kernel)
set_option maxRecDepth 20000 in
theorem gX4_isTooShort_X3_greatestHole : GoodIn wsX4_isTooShort (wsV RX4 258 RX3 yX3_greatestHole wsX3_greatestHole) := goodIn_app (goodIn_of _ (by decide +kernel)) ggX4_isTooShort_X3_greatestHole
theorem dX4_isTooShort_0 : decode cX4_isTooShort 0 = .ok (.iload_n 1, 1) := by decide +kernel
theorem dX4_isTooShort_1 : decode cX4_isTooShort 1 = .ok (.aload_n 0, 1) := by decide +kernel
theorem dX4_isTooShort_2 : decode cX4_isTooShort 2 = .ok (.getfield 18, 3) := by decide +kernel
theorem dX4_isTooShort_5 : decode cX4_isTooShort 5 = .ok (.invokevirtual 255, 3) := by decide +kernel
theorem dX4_isTooShort_8 : decode cX4_isTooShort 8 = .ok (.if_icmp .lt 17, 3) := by decide +kernel
theorem dX4_isTooShort_11 : decode cX4_isTooShort 11 = .ok (.iload_n 1, 1) := by decide +kernel
theorem dX4_isTooShort_12 : decode cX4_isTooShort 12 = .ok (.bipush 20, 2) := by decide +kernel
theorem dX4_isTooShort_14 : decode cX4_isTooShort 14 = .ok (.iadd, 1) := by decide +kernel
theorem dX4_isTooShort_15 : decode cX4_isTooShort 15 = .ok (.aload_n 0, 1) := by decide +kernel
theorem dX4_isTooShort_16 : decode cX4_isTooShort 16 = .ok (.getfield 25, 3) := by decide +kernel
theorem dX4_isTooShort_19 : decode cX4_isTooShort 19 = .ok (.invokevirtual 258, 3) := by decide +kernel
theorem dX4_isTooShort_22 : decode cX4_isTooShort 22 = .ok (.if_icmp .ge 7, 3) := by decide +kernel
theorem dX4_isTooShort_25 : decode cX4_isTooShort 25 = .ok (.iconst 1, 1) := by decide +kernel
theorem dX4_isTooShort_26 : decode cX4_isTooShort 26 = .ok (.goto 4, 3) := by decide +kernel
theorem dX4_isTooShort_29 : decode cX4_isTooShort 29 = .ok (.iconst 0, 1) := by decide +kernel
theorem dX4_isTooShort_30 : decode cX4_isTooShort 30 = .ok (.ireturn, 1) := by decide +kernel
set_option maxRecDepth 20000 in
theorem ggX4_refusalOfSpar_X4_isWithin : GoodIn wsX4_refusalOfSpar wsX4_isWithin := goodIn_r _ [5] (by decide +kernel) (by decide +kernel)
set_option maxRecDepth 20000 in
theorem gX4_refusalOfSpar_X4_isWithin : GoodIn wsX4_refusalOfSpar (va_wsS RX4 53 yX4_isWithin wsX4_isWithin) := goodIn_app (goodIn_of _ (by decide +kernel)) ggX4_refusalOfSpar_X4_isWithin
theorem dX4_refusalOfSpar_0 : decode cX4_refusalOfSpar 0 = .ok (.iload_n 1, 1) := by decide +kernel
theorem dX4_refusalOfSpar_1 : decode cX4_refusalOfSpar 1 = .ok (.iconst 0, 1) := by decide +kernel
theorem dX4_refusalOfSpar_2 : decode cX4_refusalOfSpar 2 = .ok (.iconst 2, 1) := by decide +kernel
theorem dX4_refusalOfSpar_3 : decode cX4_refusalOfSpar 3 = .ok (.invokestatic 53, 3) := by decide +kernel
theorem dX4_refusalOfSpar_6 : decode cX4_refusalOfSpar 6 = .ok (.ifCond .eq 54, 3) := by decide +kernel
theorem dX4_refusalOfSpar_9 : decode cX4_refusalOfSpar 9 = .ok (.iload_n 2, 1) := by decide +kernel
theorem dX4_refusalOfSpar_10 : decode cX4_refusalOfSpar 10 = .ok (.iconst 0, 1) := by decide +kernel
theorem dX4_refusalOfSpar_11 : decode cX4_refusalOfSpar 11 = .ok (.aload_n 0, 1) := by decide +kernel
theorem dX4_refusalOfSpar_12 : decode cX4_refusalOfSpar 12 = .ok (.getfield 9, 3) := by decide +kernel
theorem dX4_refusalOfSpar_15 : decode cX4_refusalOfSpar 15 = .ok (.iconst 0, 1) := by decide +kernel
theorem dX4_refusalOfSpar_16 : decode cX4_refusalOfSpar 16 = .ok (.iaload, 1) := by decide +kernel
theorem dX4_refusalOfSpar_17 : decode cX4_refusalOfSpar 17 = .ok (.invokestatic 53, 3) := by decide +kernel
theorem dX4_refusalOfSpar_20 : decode cX4_refusalOfSpar 20 = .ok (.ifCond .eq 40, 3) := by decide +kernel
theorem dX4_refusalOfSpar_23 : decode cX4_refusalOfSpar 23 = .ok (.iload_n 3, 1) := by decide +kernel
theorem dX4_refusalOfSpar_24 : decode cX4_refusalOfSpar 24 = .ok (.iconst 1, 1) := by decide +kernel
theorem dX4_refusalOfSpar_25 : decode cX4_refusalOfSpar 25 = .ok (.bipush 60, 2) := by decide +kernel
theorem dX4_refusalOfSpar_27 : decode cX4_refusalOfSpar 27 = .ok (.invokestatic 53, 3) := by decide +kernel
theorem dX4_refusalOfSpar_30 : decode cX4_refusalOfSpar 30 = .ok (.ifCond .eq 30, 3) := by decide +kernel
theorem dX4_refusalOfSpar_33 : decode cX4_refusalOfSpar 33 = .ok (.iload 4, 2) := by decide +kernel
theorem dX4_refusalOfSpar_35 : decode cX4_refusalOfSpar 35 = .ok (.iconst 1, 1) := by decide +kernel
theorem dX4_refusalOfSpar_36 : decode cX4_refusalOfSpar 36 = .ok (.bipush 9, 2) := by decide +kernel
theorem dX4_refusalOfSpar_38 : decode cX4_refusalOfSpar 38 = .ok (.invokestatic 53, 3) := by decide +kernel
theorem dX4_refusalOfSpar_41 : decode cX4_refusalOfSpar 41 = .ok (.ifCond .eq 19, 3) := by decide +kernel
theorem dX4_refusalOfSpar_44 : decode cX4_refusalOfSpar 44 = .ok (.iload 5, 2) := by decide +kernel
theorem dX4_refusalOfSpar_46 : decode cX4_refusalOfSpar 46 = .ok (.iconst 1, 1) := by decide +kernel
theorem dX4_refusalOfSpar_47 : decode cX4_refusalOfSpar 47 = .ok (.if_icmp .eq 9, 3) := by decide +kernel
theorem dX4_refusalOfSpar_50 : decode cX4_refusalOfSpar 50 = .ok (.iload 5, 2) := by decide +kernel
theorem dX4_refusalOfSpar_52 : decode cX4_refusalOfSpar 52 = .ok (.iconst (-1), 1) := by decide +kernel
theorem dX4_refusalOfSpar_53 : decode cX4_refusalOfSpar 53 = .ok (.if_icmp .ne 7, 3) := by decide +kernel
theorem dX4_refusalOfSpar_56 : decode cX4_refusalOfSpar 56 = .ok (.iconst 1, 1) := by decide +kernel
theorem dX4_refusalOfSpar_57 : decode cX4_refusalOfSpar 57 = .ok (.goto 4, 3) := by decide +kernel
theorem dX4_refusalOfSpar_60 : decode cX4_refusalOfSpar 60 = .ok (.iconst 0, 1) := by decide +kernel
theorem dX4_refusalOfSpar_61 : decode cX4_refusalOfSpar 61 = .ok (.istore 7, 2) := by decide +kernel
theorem dX4_refusalOfSpar_63 : decode cX4_refusalOfSpar 63 = .ok (.iload 7, 2) := by decide +kernel
theorem dX4_refusalOfSpar_65 : decode cX4_refusalOfSpar 65 = .ok (.ifCond .ne 6, 3) := by decide +kernel
theorem dX4_refusalOfSpar_68 : decode cX4_refusalOfSpar 68 = .ok (.bipush (-2), 2) := by decide +kernel
theorem dX4_refusalOfSpar_70 : decode cX4_refusalOfSpar 70 = .ok (.ireturn, 1) := by decide +kernel
theorem dX4_refusalOfSpar_71 : decode cX4_refusalOfSpar 71 = .ok (.iload 6, 2) := by decide +kernel
theorem dX4_refusalOfSpar_73 : decode cX4_refusalOfSpar 73 = .ok (.bipush 10, 2) := by decide +kernel
theorem dX4_refusalOfSpar_75 : decode cX4_refusalOfSpar 75 = .ok (.if_icmp .lt 8, 3) := by decide +kernel
theorem dX4_refusalOfSpar_78 : decode cX4_refusalOfSpar 78 = .ok (.bipush (-4), 2) := by decide +kernel
theorem dX4_refusalOfSpar_80 : decode cX4_refusalOfSpar 80 = .ok (.goto 4, 3) := by decide +kernel
theorem dX4_refusalOfSpar_83 : decode cX4_refusalOfSpar 83 = .ok (.iconst 0, 1) := by decide +kernel
theorem dX4_refusalOfSpar_84 : decode cX4_refusalOfSpar 84 = .ok (.ireturn, 1) := by decide +kernel
set_option maxRecDepth 20000 in
theorem ggX4_faultOfPlan_X1_faultAsLane : GoodIn wsX4_faultOfPlan wsX1_faultAsLane := goodIn_r _ [5, 6, 7, 8, 9, 4, 10, 16, 17, 18] (by decide +kernel) (by decide +kernel)
set_option maxRecDepth 20000 in
theorem gX4_faultOfPlan_X1_faultAsLane : GoodIn wsX4_faultOfPlan (wsV RX4 224 RX1 yX1_faultAsLane wsX1_faultAsLane) := goodIn_app (goodIn_of _ (by decide +kernel)) ggX4_faultOfPlan_X1_faultAsLane
set_option maxRecDepth 20000 in
theorem ggX4_faultOfPlan_X1_hasCells : GoodIn wsX4_faultOfPlan wsX1_hasCells := goodIn_r _ [14, 15, 16, 17, 18] (by decide +kernel) (by decide +kernel)
set_option maxRecDepth 20000 in
theorem gX4_faultOfPlan_X1_hasCells : GoodIn wsX4_faultOfPlan (wsV RX4 216 RX1 yX1_hasCells wsX1_hasCells) := goodIn_app (goodIn_of _ (by decide +kernel)) ggX4_faultOfPlan_X1_hasCells
theorem dX4_faultOfPlan_0 : decode cX4_faultOfPlan 0 = .ok (.aload_n 0, 1) := by decide +kernel
theorem dX4_faultOfPlan_1 : decode cX4_faultOfPlan 1 = .ok (.iload_n 1, 1) := by decide +kernel
theorem dX4_faultOfPlan_2 : decode cX4_faultOfPlan 2 = .ok (.invokevirtual 224, 3) := by decide +kernel
theorem dX4_faultOfPlan_5 : decode cX4_faultOfPlan 5 = .ok (.istore 4, 2) := by decide +kernel
theorem dX4_faultOfPlan_7 : decode cX4_faultOfPlan 7 = .ok (.iload 4, 2) := by decide +kernel
theorem dX4_faultOfPlan_9 : decode cX4_faultOfPlan 9 = .ok (.ifCond .eq 6, 3) := by decide +kernel
theorem dX4_faultOfPlan_12 : decode cX4_faultOfPlan 12 = .ok (.iload 4, 2) := by decide +kernel
theorem dX4_faultOfPlan_14 : decode cX4_faultOfPlan 14 = .ok (.ireturn, 1) := by decide +kernel
theorem dX4_faultOfPlan_15 : decode cX4_faultOfPlan 15 = .ok (.iload_n 3, 1) := by decide +kernel
theorem dX4_faultOfPlan_16 : decode cX4_faultOfPlan 16 = .ok (.ifCond .ge 5, 3) := by decide +kernel
theorem dX4_faultOfPlan_19 : decode cX4_faultOfPlan 19 = .ok (.iconst 4, 1) := by decide +kernel
theorem dX4_faultOfPlan_20 : decode cX4_faultOfPlan 20 = .ok (.ireturn, 1) := by decide +kernel
theorem dX4_faultOfPlan_21 : decode cX4_faultOfPlan 21 = .ok (.iload_n 3, 1) := by decide +kernel
theorem dX4_faultOfPlan_22 : decode cX4_faultOfPlan 22 = .ok (.bipush 50, 2) := by decide +kernel
theorem dX4_faultOfPlan_24 : decode cX4_faultOfPlan 24 = .ok (.if_icmp .gt 14, 3) := by decide +kernel
theorem dX4_faultOfPlan_27 : decode cX4_faultOfPlan 27 = .ok (.aload_n 0, 1) := by decide +kernel
theorem dX4_faultOfPlan_28 : decode cX4_faultOfPlan 28 = .ok (.iload_n 2, 1) := by decide +kernel
theorem dX4_faultOfPlan_29 : decode cX4_faultOfPlan 29 = .ok (.iconst 5, 1) := by decide +kernel
theorem dX4_faultOfPlan_30 : decode cX4_faultOfPlan 30 = .ok (.iload_n 3, 1) := by decide +kernel
theorem dX4_faultOfPlan_31 : decode cX4_faultOfPlan 31 = .ok (.imul, 1) := by decide +kernel
theorem dX4_faultOfPlan_32 : decode cX4_faultOfPlan 32 = .ok (.invokevirtual 216, 3) := by decide +kernel
theorem dX4_faultOfPlan_35 : decode cX4_faultOfPlan 35 = .ok (.ifCond .ne 7, 3) := by decide +kernel
theorem dX4_faultOfPlan_38 : decode cX4_faultOfPlan 38 = .ok (.iconst 3, 1) := by decide +kernel
theorem dX4_faultOfPlan_39 : decode cX4_faultOfPlan 39 = .ok (.goto 4, 3) := by decide +kernel
theorem dX4_faultOfPlan_42 : decode cX4_faultOfPlan 42 = .ok (.iconst 0, 1) := by decide +kernel
theorem dX4_faultOfPlan_43 : decode cX4_faultOfPlan 43 = .ok (.ireturn, 1) := by decide +kernel
set_option maxRecDepth 20000 in
theorem ggX4_refusalOfPlanned_X4_refusalOfSpar : GoodIn wsX4_refusalOfPlanned wsX4_refusalOfSpar := goodIn_r _ [5, 6, 7, 8, 4, 9, 10, 11, 12, 13, 14, 15, 16] (by decide +kernel) (by decide +kernel)
set_option maxRecDepth 20000 in
theorem gX4_refusalOfPlanned_X4_refusalOfSpar : GoodIn wsX4_refusalOfPlanned (wsV RX4 64 RX4 yX4_refusalOfSpar wsX4_refusalOfSpar) := goodIn_app (goodIn_of _ (by decide +kernel)) ggX4_refusalOfPlanned_X4_refusalOfSpar
theorem dX4_refusalOfPlanned_0 : decode cX4_refusalOfPlanned 0 = .ok (.aload_n 0, 1) := by decide +kernel
theorem dX4_refusalOfPlanned_1 : decode cX4_refusalOfPlanned 1 = .ok (.aload_n 1, 1) := by decide +kernel
theorem dX4_refusalOfPlanned_2 : decode cX4_refusalOfPlanned 2 = .ok (.iload_n 2, 1) := by decide +kernel
theorem dX4_refusalOfPlanned_3 : decode cX4_refusalOfPlanned 3 = .ok (.iaload, 1) := by decide +kernel
theorem dX4_refusalOfPlanned_4 : decode cX4_refusalOfPlanned 4 = .ok (.aload_n 1, 1) := by decide +kernel
theorem dX4_refusalOfPlanned_5 : decode cX4_refusalOfPlanned 5 = .ok (.iload_n 2, 1) := by decide +kernel
theorem dX4_refusalOfPlanned_6 : decode cX4_refusalOfPlanned 6 = .ok (.iconst 1, 1) := by decide +kernel
theorem dX4_refusalOfPlanned_7 : decode cX4_refusalOfPlanned 7 = .ok (.iadd, 1) := by decide +kernel
theorem dX4_refusalOfPlanned_8 : decode cX4_refusalOfPlanned 8 = .ok (.iaload, 1) := by decide +kernel
theorem dX4_refusalOfPlanned_9 : decode cX4_refusalOfPlanned 9 = .ok (.aload_n 1, 1) := by decide +kernel
theorem dX4_refusalOfPlanned_10 : decode cX4_refusalOfPlanned 10 = .ok (.iload_n 2, 1) := by decide +kernel
theorem dX4_refusalOfPlanned_11 : decode cX4_refusalOfPlanned 11 = .ok (.iconst 2, 1) := by decide +kernel
theorem dX4_refusalOfPlanned_12 : decode cX4_refusalOfPlanned 12 = .ok (.iadd, 1) := by decide +kernel
theorem dX4_refusalOfPlanned_13 : decode cX4_refusalOfPlanned 13 = .ok (.iaload, 1) := by decide +kernel
theorem dX4_refusalOfPlanned_14 : decode cX4_refusalOfPlanned 14 = .ok (.aload_n 1, 1) := by decide +kernel
theorem dX4_refusalOfPlanned_15 : decode cX4_refusalOfPlanned 15 = .ok (.iload_n 2, 1) := by decide +kernel
theorem dX4_refusalOfPlanned_16 : decode cX4_refusalOfPlanned 16 = .ok (.iconst 3, 1) := by decide +kernel
theorem dX4_refusalOfPlanned_17 : decode cX4_refusalOfPlanned 17 = .ok (.iadd, 1) := by decide +kernel
theorem dX4_refusalOfPlanned_18 : decode cX4_refusalOfPlanned 18 = .ok (.iaload, 1) := by decide +kernel
theorem dX4_refusalOfPlanned_19 : decode cX4_refusalOfPlanned 19 = .ok (.aload_n 1, 1) := by decide +kernel
theorem dX4_refusalOfPlanned_20 : decode cX4_refusalOfPlanned 20 = .ok (.iload_n 2, 1) := by decide +kernel
theorem dX4_refusalOfPlanned_21 : decode cX4_refusalOfPlanned 21 = .ok (.iconst 4, 1) := by decide +kernel
theorem dX4_refusalOfPlanned_22 : decode cX4_refusalOfPlanned 22 = .ok (.iadd, 1) := by decide +kernel
theorem dX4_refusalOfPlanned_23 : decode cX4_refusalOfPlanned 23 = .ok (.iaload, 1) := by decide +kernel
theorem dX4_refusalOfPlanned_24 : decode cX4_refusalOfPlanned 24 = .ok (.iload_n 3, 1) := by decide +kernel
theorem dX4_refusalOfPlanned_25 : decode cX4_refusalOfPlanned 25 = .ok (.invokevirtual 64, 3) := by decide +kernel
theorem dX4_refusalOfPlanned_28 : decode cX4_refusalOfPlanned 28 = .ok (.ireturn, 1) := by decide +kernel
set_option maxRecDepth 20000 in
theorem ggX4_addPlanned_X2_add : GoodIn wsX4_addPlanned wsX2_add := goodIn_r _ [6, 7, 8, 9, 10, 11, 12, 13, 14, 15, 16, 5, 17, 18, 19, 20, 21, 22, 23, 24, 25, 26, 27, 28, 29, 30, 31, 32, 33, 34, 35, 36, 37, 45, 46, 47, 48, 49, 50, 51, 52, 53] (by decide +kernel) (by decide +kernel)
set_option maxRecDepth 20000 in
theorem gX4_addPlanned_X2_add : GoodIn wsX4_addPlanned (wsV RX4 68 RX2 yX2_add wsX2_add) := goodIn_app (goodIn_of _ (by decide +kernel)) ggX4_addPlanned_X2_add
theorem dX4_addPlanned_0 : decode cX4_addPlanned 0 = .ok (.aload_n 0, 1) := by decide +kernel
theorem dX4_addPlanned_1 : decode cX4_addPlanned 1 = .ok (.getfield 18, 3) := by decide +kernel
theorem dX4_addPlanned_4 : decode cX4_addPlanned 4 = .ok (.aload_n 1, 1) := by decide +kernel
theorem dX4_addPlanned_5 : decode cX4_addPlanned 5 = .ok (.iload_n 2, 1) := by decide +kernel
theorem dX4_addPlanned_6 : decode cX4_addPlanned 6 = .ok (.iaload, 1) := by decide +kernel
theorem dX4_addPlanned_7 : decode cX4_addPlanned 7 = .ok (.aload_n 1, 1) := by decide +kernel
theorem dX4_addPlanned_8 : decode cX4_addPlanned 8 = .ok (.iload_n 2, 1) := by decide +kernel
theorem dX4_addPlanned_9 : decode cX4_addPlanned 9 = .ok (.iconst 1, 1) := by decide +kernel
theorem dX4_addPlanned_10 : decode cX4_addPlanned 10 = .ok (.iadd, 1) := by decide +kernel
theorem dX4_addPlanned_11 : decode cX4_addPlanned 11 = .ok (.iaload, 1) := by decide +kernel
theorem dX4_addPlanned_12 : decode cX4_addPlanned 12 = .ok (.aload_n 1, 1) := by decide +kernel
theorem dX4_addPlanned_13 : decode cX4_addPlanned 13 = .ok (.iload_n 2, 1) := by decide +kernel
theorem dX4_addPlanned_14 : decode cX4_addPlanned 14 = .ok (.iconst 2, 1) := by decide +kernel
theorem dX4_addPlanned_15 : decode cX4_addPlanned 15 = .ok (.iadd, 1) := by decide +kernel
theorem dX4_addPlanned_16 : decode cX4_addPlanned 16 = .ok (.iaload, 1) := by decide +kernel
theorem dX4_addPlanned_17 : decode cX4_addPlanned 17 = .ok (.aload_n 1, 1) := by decide +kernel
theorem dX4_addPlanned_18 : decode cX4_addPlanned 18 = .ok (.iload_n 2, 1) := by decide +kernel
theorem dX4_addPlanned_19 : decode cX4_addPlanned 19 = .ok (.iconst 3, 1) := by decide +kernel
theorem dX4_addPlanned_20 : decode cX4_addPlanned 20 = .ok (.iadd, 1) := by decide +kernel
theorem dX4_addPlanned_21 : decode cX4_addPlanned 21 = .ok (.iaload, 1) := by decide +kernel
theorem dX4_addPlanned_22 : decode cX4_addPlanned 22 = .ok (.aload_n 1, 1) := by decide +kernel
theorem dX4_addPlanned_23 : decode cX4_addPlanned 23 = .ok (.iload_n 2, 1) := by decide +kernel
theorem dX4_addPlanned_24 : decode cX4_addPlanned 24 = .ok (.iconst 4, 1) := by decide +kernel
theorem dX4_addPlanned_25 : decode cX4_addPlanned 25 = .ok (.iadd, 1) := by decide +kernel
theorem dX4_addPlanned_26 : decode cX4_addPlanned 26 = .ok (.iaload, 1) := by decide +kernel
theorem dX4_addPlanned_27 : decode cX4_addPlanned 27 = .ok (.invokevirtual 68, 3) := by decide +kernel
theorem dX4_addPlanned_30 : decode cX4_addPlanned 30 = .ok (.pop, 1) := by decide +kernel
theorem dX4_addPlanned_31 : decode cX4_addPlanned 31 = .ok (.return_, 1) := by decide +kernel
theorem dX4_slices_0 : decode cX4_slices 0 = .ok (.iconst 1, 1) := by decide +kernel
theorem dX4_slices_1 : decode cX4_slices 1 = .ok (.aload_n 0, 1) := by decide +kernel
theorem dX4_slices_2 : decode cX4_slices 2 = .ok (.getfield 9, 3) := by decide +kernel
theorem dX4_slices_5 : decode cX4_slices 5 = .ok (.iconst 3, 1) := by decide +kernel
theorem dX4_slices_6 : decode cX4_slices 6 = .ok (.iaload, 1) := by decide +kernel
theorem dX4_slices_7 : decode cX4_slices 7 = .ok (.invokestatic 261, 3) := by decide +kernel
theorem dX4_slices_10 : decode cX4_slices 10 = .ok (.istore_n 1, 1) := by decide +kernel
theorem dX4_slices_11 : decode cX4_slices 11 = .ok (.aload_n 0, 1) := by decide +kernel
theorem dX4_slices_12 : decode cX4_slices 12 = .ok (.getfield 9, 3) := by decide +kernel
theorem dX4_slices_15 : decode cX4_slices 15 = .ok (.iconst 1, 1) := by decide +kernel
theorem dX4_slices_16 : decode cX4_slices 16 = .ok (.iaload, 1) := by decide +kernel
theorem dX4_slices_17 : decode cX4_slices 17 = .ok (.iload_n 1, 1) := by decide +kernel
theorem dX4_slices_18 : decode cX4_slices 18 = .ok (.iadd, 1) := by decide +kernel
theorem dX4_slices_19 : decode cX4_slices 19 = .ok (.iconst 1, 1) := by decide +kernel
theorem dX4_slices_20 : decode cX4_slices 20 = .ok (.isub, 1) := by decide +kernel
theorem dX4_slices_21 : decode cX4_slices 21 = .ok (.iload_n 1, 1) := by decide +kernel
theorem dX4_slices_22 : decode cX4_slices 22 = .ok (.idiv, 1) := by decide +kernel
theorem dX4_slices_23 : decode cX4_slices 23 = .ok (.ireturn, 1) := by decide +kernel
set_option maxRecDepth 20000 in
theorem ggX4_leastRig_X3_raisersOf : GoodIn wsX4_leastRig wsX3_raisersOf := goodIn_r _ [7, 8, 9, 10, 11, 12, 6, 13, 14, 15, 22, 23, 24, 25, 26, 27, 28, 29] (by decide +kernel) (by decide +kernel)
set_option maxRecDepth 20000 in
theorem gX4_leastRig_X3_raisersOf : GoodIn wsX4_leastRig (wsV RX4 122 RX3 yX3_raisersOf wsX3_raisersOf) := goodIn_app (goodIn_of _ (by decide +kernel)) ggX4_leastRig_X3_raisersOf
set_option maxRecDepth 20000 in
theorem ggX4_leastRig_X4_isIn : GoodIn wsX4_leastRig wsX4_isIn := goodIn_r _ [19] (by decide +kernel) (by decide +kernel)
set_option maxRecDepth 20000 in
theorem gX4_leastRig_X4_isIn : GoodIn wsX4_leastRig (va_wsS RX4 146 yX4_isIn wsX4_isIn) := goodIn_app (goodIn_of _ (by decide +kernel)) ggX4_leastRig_X4_isIn
set_option maxRecDepth 20000 in
theorem ggX4_leastRig_X4_leastRig : GoodIn wsX4_leastRig wsX4_leastRig := goodIn_r _ [0, 1, 2, 3, 4, 5, 6, 7, 8, 9, 10, 11, 12, 13, 14, 15, 16, 17, 18, 19, 20, 21, 22, 23, 24, 25, 26, 27, 28, 29] (by decide +kernel) (by decide +kernel)
set_option maxRecDepth 20000 in
theorem gX4_leastRig_X4_leastRig : GoodIn wsX4_leastRig (va_wsS RX4 201 yX4_leastRig wsX4_leastRig) := goodIn_app (goodIn_of _ (by decide +kernel)) ggX4_leastRig_X4_leastRig
theorem dX4_leastRig_0 : decode cX4_leastRig 0 = .ok (.iload_n 2, 1) := by decide +kernel
theorem dX4_leastRig_1 : decode cX4_leastRig 1 = .ok (.iload_n 1, 1) := by decide +kernel
theorem dX4_leastRig_2 : decode cX4_leastRig 2 = .ok (.if_icmp .lt 5, 3) := by decide +kernel
theorem dX4_leastRig_5 : decode cX4_leastRig 5 = .ok (.iload_n 3, 1) := by decide +kernel
theorem dX4_leastRig_6 : decode cX4_leastRig 6 = .ok (.ireturn, 1) := by decide +kernel
theorem dX4_leastRig_7 : decode cX4_leastRig 7 = .ok (.aload_n 0, 1) := by decide +kernel
theorem dX4_leastRig_8 : decode cX4_leastRig 8 = .ok (.iload_n 2, 1) := by decide +kernel
theorem dX4_leastRig_9 : decode cX4_leastRig 9 = .ok (.invokevirtual 122, 3) := by decide +kernel
theorem dX4_leastRig_12 : decode cX4_leastRig 12 = .ok (.istore 4, 2) := by decide +kernel
theorem dX4_leastRig_14 : decode cX4_leastRig 14 = .ok (.bipush (-9), 2) := by decide +kernel
theorem dX4_leastRig_16 : decode cX4_leastRig 16 = .ok (.istore 5, 2) := by decide +kernel
theorem dX4_leastRig_18 : decode cX4_leastRig 18 = .ok (.iconst 0, 1) := by decide +kernel
theorem dX4_leastRig_19 : decode cX4_leastRig 19 = .ok (.istore 6, 2) := by decide +kernel
theorem dX4_leastRig_21 : decode cX4_leastRig 21 = .ok (.iload 6, 2) := by decide +kernel
theorem dX4_leastRig_23 : decode cX4_leastRig 23 = .ok (.aload_n 0, 1) := by decide +kernel
theorem dX4_leastRig_24 : decode cX4_leastRig 24 = .ok (.getfield 251, 3) := by decide +kernel
theorem dX4_leastRig_27 : decode cX4_leastRig 27 = .ok (.if_icmp .ge 72, 3) := by decide +kernel
theorem dX4_leastRig_30 : decode cX4_leastRig 30 = .ok (.iload 4, 2) := by decide +kernel
theorem dX4_leastRig_32 : decode cX4_leastRig 32 = .ok (.iload 6, 2) := by decide +kernel
theorem dX4_leastRig_34 : decode cX4_leastRig 34 = .ok (.invokestatic 146, 3) := by decide +kernel
theorem dX4_leastRig_37 : decode cX4_leastRig 37 = .ok (.ifCond .eq 56, 3) := by decide +kernel
theorem dX4_leastRig_40 : decode cX4_leastRig 40 = .ok (.aload_n 0, 1) := by decide +kernel
theorem dX4_leastRig_41 : decode cX4_leastRig 41 = .ok (.getfield 178, 3) := by decide +kernel
theorem dX4_leastRig_44 : decode cX4_leastRig 44 = .ok (.iload 6, 2) := by decide +kernel
theorem dX4_leastRig_46 : decode cX4_leastRig 46 = .ok (.iaload, 1) := by decide +kernel
theorem dX4_leastRig_47 : decode cX4_leastRig 47 = .ok (.iload_n 3, 1) := by decide +kernel
theorem dX4_leastRig_48 : decode cX4_leastRig 48 = .ok (.iand, 1) := by decide +kernel
theorem dX4_leastRig_49 : decode cX4_leastRig 49 = .ok (.ifCond .ne 44, 3) := by decide +kernel
theorem dX4_leastRig_52 : decode cX4_leastRig 52 = .ok (.aload_n 0, 1) := by decide +kernel
theorem dX4_leastRig_53 : decode cX4_leastRig 53 = .ok (.iload_n 1, 1) := by decide +kernel
theorem dX4_leastRig_54 : decode cX4_leastRig 54 = .ok (.iload_n 2, 1) := by decide +kernel
theorem dX4_leastRig_55 : decode cX4_leastRig 55 = .ok (.iconst 1, 1) := by decide +kernel
theorem dX4_leastRig_56 : decode cX4_leastRig 56 = .ok (.iadd, 1) := by decide +kernel
theorem dX4_leastRig_57 : decode cX4_leastRig 57 = .ok (.iload_n 3, 1) := by decide +kernel
theorem dX4_leastRig_58 : decode cX4_leastRig 58 = .ok (.iconst 1, 1) := by decide +kernel
theorem dX4_leastRig_59 : decode cX4_leastRig 59 = .ok (.iload 6, 2) := by decide +kernel
theorem dX4_leastRig_61 : decode cX4_leastRig 61 = .ok (.ishl, 1) := by decide +kernel
theorem dX4_leastRig_62 : decode cX4_leastRig 62 = .ok (.ior, 1) := by decide +kernel
theorem dX4_leastRig_63 : decode cX4_leastRig 63 = .ok (.invokestatic 201, 3) := by decide +kernel
theorem dX4_leastRig_66 : decode cX4_leastRig 66 = .ok (.istore 7, 2) := by decide +kernel
theorem dX4_leastRig_68 : decode cX4_leastRig 68 = .ok (.iload 7, 2) := by decide +kernel
theorem dX4_leastRig_70 : decode cX4_leastRig 70 = .ok (.bipush (-9), 2) := by decide +kernel
theorem dX4_leastRig_72 : decode cX4_leastRig 72 = .ok (.if_icmp .eq 21, 3) := by decide +kernel
theorem dX4_leastRig_75 : decode cX4_leastRig 75 = .ok (.iload 5, 2) := by decide +kernel
theorem dX4_leastRig_77 : decode cX4_leastRig 77 = .ok (.bipush (-9), 2) := by decide +kernel
theorem dX4_leastRig_79 : decode cX4_leastRig 79 = .ok (.if_icmp .eq 10, 3) := by decide +kernel
theorem dX4_leastRig_82 : decode cX4_leastRig 82 = .ok (.iload 7, 2) := by decide +kernel
theorem dX4_leastRig_84 : decode cX4_leastRig 84 = .ok (.iload 5, 2) := by decide +kernel
theorem dX4_leastRig_86 : decode cX4_leastRig 86 = .ok (.if_icmp .ge 7, 3) := by decide +kernel
theorem dX4_leastRig_89 : decode cX4_leastRig 89 = .ok (.iload 7, 2) := by decide +kernel
theorem dX4_leastRig_91 : decode cX4_leastRig 91 = .ok (.istore 5, 2) := by decide +kernel
theorem dX4_leastRig_93 : decode cX4_leastRig 93 = .ok (.iinc 6 1, 3) := by decide +kernel
theorem dX4_leastRig_96 : decode cX4_leastRig 96 = .ok (.goto (-75), 3) := by decide +kernel
theorem dX4_leastRig_99 : decode cX4_leastRig 99 = .ok (.iload 5, 2) := by decide +kernel
theorem dX4_leastRig_101 : decode cX4_leastRig 101 = .ok (.ireturn, 1) := by decide +kernel
theorem dX4_beginBody_0 : decode cX4_beginBody 0 = .ok (.aload_n 0, 1) := by decide +kernel
theorem dX4_beginBody_1 : decode cX4_beginBody 1 = .ok (.bipush 31, 2) := by decide +kernel
theorem dX4_beginBody_3 : decode cX4_beginBody 3 = .ok (.aload_n 0, 1) := by decide +kernel
theorem dX4_beginBody_4 : decode cX4_beginBody 4 = .ok (.getfield 43, 3) := by decide +kernel
theorem dX4_beginBody_7 : decode cX4_beginBody 7 = .ok (.imul, 1) := by decide +kernel
theorem dX4_beginBody_8 : decode cX4_beginBody 8 = .ok (.iload_n 1, 1) := by decide +kernel
theorem dX4_beginBody_9 : decode cX4_beginBody 9 = .ok (.iadd, 1) := by decide +kernel
theorem dX4_beginBody_10 : decode cX4_beginBody 10 = .ok (.putfield 43, 3) := by decide +kernel
theorem dX4_beginBody_13 : decode cX4_beginBody 13 = .ok (.return_, 1) := by decide +kernel
set_option maxRecDepth 20000 in
theorem ggX4_sparBody_X4_beginBody : GoodIn wsX4_sparBody wsX4_beginBody := goodIn_r _ [7, 8, 9, 10, 11, 12, 13, 14, 15] (by decide +kernel) (by decide +kernel)
set_option maxRecDepth 20000 in
theorem gX4_sparBody_X4_beginBody : GoodIn wsX4_sparBody (wsV RX4 266 RX4 yX4_beginBody wsX4_beginBody) := goodIn_app (goodIn_of _ (by decide +kernel)) ggX4_sparBody_X4_beginBody
theorem dX4_sparBody_0 : decode cX4_sparBody 0 = .ok (.aload_n 0, 1) := by decide +kernel
theorem dX4_sparBody_1 : decode cX4_sparBody 1 = .ok (.iconst 1, 1) := by decide +kernel
theorem dX4_sparBody_2 : decode cX4_sparBody 2 = .ok (.invokevirtual 266, 3) := by decide +kernel
theorem dX4_sparBody_5 : decode cX4_sparBody 5 = .ok (.aload_n 0, 1) := by decide +kernel
theorem dX4_sparBody_6 : decode cX4_sparBody 6 = .ok (.getfield 18, 3) := by decide +kernel
theorem dX4_sparBody_9 : decode cX4_sparBody 9 = .ok (.getfield 106, 3) := by decide +kernel
theorem dX4_sparBody_12 : decode cX4_sparBody 12 = .ok (.iload_n 1, 1) := by decide +kernel
theorem dX4_sparBody_13 : decode cX4_sparBody 13 = .ok (.iaload, 1) := by decide +kernel
theorem dX4_sparBody_14 : decode cX4_sparBody 14 = .ok (.ireturn, 1) := by decide +kernel
set_option maxRecDepth 20000 in
theorem ggX4_mastBody_X4_beginBody : GoodIn wsX4_mastBody wsX4_beginBody := goodIn_r _ [7, 8, 14, 15, 16, 17, 18, 19, 20] (by decide +kernel) (by decide +kernel)
set_option maxRecDepth 20000 in
theorem gX4_mastBody_X4_beginBody : GoodIn wsX4_mastBody (wsV RX4 266 RX4 yX4_beginBody wsX4_beginBody) := goodIn_app (goodIn_of _ (by decide +kernel)) ggX4_mastBody_X4_beginBody
set_option maxRecDepth 20000 in
theorem ggX4_mastBody_X4_sparBody : GoodIn wsX4_mastBody wsX4_sparBody := goodIn_r _ [12, 1, 13, 3, 4, 5, 6, 7, 8, 14, 15, 16, 17, 18, 19, 20, 21, 22, 23, 24, 25, 26, 27, 28, 29] (by decide +kernel) (by decide +kernel)
set_option maxRecDepth 20000 in
theorem gX4_mastBody_X4_sparBody : GoodIn wsX4_mastBody (wsV RX4 242 RX4 yX4_sparBody wsX4_sparBody) := goodIn_app (goodIn_of _ (by decide +kernel)) ggX4_mastBody_X4_sparBody
theorem dX4_mastBody_0 : decode cX4_mastBody 0 = .ok (.aload_n 0, 1) := by decide +kernel
theorem dX4_mastBody_1 : decode cX4_mastBody 1 = .ok (.iconst 2, 1) := by decide +kernel
theorem dX4_mastBody_2 : decode cX4_mastBody 2 = .ok (.invokevirtual 266, 3) := by decide +kernel
theorem dX4_mastBody_5 : decode cX4_mastBody 5 = .ok (.aload_n 0, 1) := by decide +kernel
theorem dX4_mastBody_6 : decode cX4_mastBody 6 = .ok (.iload_n 1, 1) := by decide +kernel
theorem dX4_mastBody_7 : decode cX4_mastBody 7 = .ok (.invokevirtual 242, 3) := by decide +kernel
theorem dX4_mastBody_10 : decode cX4_mastBody 10 = .ok (.aload_n 0, 1) := by decide +kernel
theorem dX4_mastBody_11 : decode cX4_mastBody 11 = .ok (.getfield 18, 3) := by decide +kernel
theorem dX4_mastBody_14 : decode cX4_mastBody 14 = .ok (.getfield 103, 3) := by decide +kernel
theorem dX4_mastBody_17 : decode cX4_mastBody 17 = .ok (.iload_n 1, 1) := by decide +kernel
theorem dX4_mastBody_18 : decode cX4_mastBody 18 = .ok (.iaload, 1) := by decide +kernel
theorem dX4_mastBody_19 : decode cX4_mastBody 19 = .ok (.iadd, 1) := by decide +kernel
theorem dX4_mastBody_20 : decode cX4_mastBody 20 = .ok (.ireturn, 1) := by decide +kernel
set_option maxRecDepth 20000 in
theorem ggX4_bowspritBody_X4_beginBody : GoodIn wsX4_bowspritBody wsX4_beginBody := goodIn_r _ [7, 8, 14, 15, 16, 17, 18, 19, 20] (by decide +kernel) (by decide +kernel)
set_option maxRecDepth 20000 in
theorem gX4_bowspritBody_X4_beginBody : GoodIn wsX4_bowspritBody (wsV RX4 266 RX4 yX4_beginBody wsX4_beginBody) := goodIn_app (goodIn_of _ (by decide +kernel)) ggX4_bowspritBody_X4_beginBody
set_option maxRecDepth 20000 in
theorem ggX4_bowspritBody_X4_sparBody : GoodIn wsX4_bowspritBody wsX4_sparBody := goodIn_r _ [12, 1, 13, 3, 4, 5, 6, 7, 8, 14, 15, 16, 17, 18, 19, 20, 21, 22, 23, 24, 25, 26, 27, 28, 29] (by decide +kernel) (by decide +kernel)
set_option maxRecDepth 20000 in
theorem gX4_bowspritBody_X4_sparBody : GoodIn wsX4_bowspritBody (wsV RX4 242 RX4 yX4_sparBody wsX4_sparBody) := goodIn_app (goodIn_of _ (by decide +kernel)) ggX4_bowspritBody_X4_sparBody
theorem dX4_bowspritBody_0 : decode cX4_bowspritBody 0 = .ok (.aload_n 0, 1) := by decide +kernel
theorem dX4_bowspritBody_1 : decode cX4_bowspritBody 1 = .ok (.iconst 3, 1) := by decide +kernel
theorem dX4_bowspritBody_2 : decode cX4_bowspritBody 2 = .ok (.invokevirtual 266, 3) := by decide +kernel
theorem dX4_bowspritBody_5 : decode cX4_bowspritBody 5 = .ok (.aload_n 0, 1) := by decide +kernel
theorem dX4_bowspritBody_6 : decode cX4_bowspritBody 6 = .ok (.iload_n 1, 1) := by decide +kernel
theorem dX4_bowspritBody_7 : decode cX4_bowspritBody 7 = .ok (.invokevirtual 242, 3) := by decide +kernel
theorem dX4_bowspritBody_10 : decode cX4_bowspritBody 10 = .ok (.aload_n 0, 1) := by decide +kernel
theorem dX4_bowspritBody_11 : decode cX4_bowspritBody 11 = .ok (.getfield 18, 3) := by decide +kernel
theorem dX4_bowspritBody_14 : decode cX4_bowspritBody 14 = .ok (.getfield 112, 3) := by decide +kernel
theorem dX4_bowspritBody_17 : decode cX4_bowspritBody 17 = .ok (.iload_n 1, 1) := by decide +kernel
theorem dX4_bowspritBody_18 : decode cX4_bowspritBody 18 = .ok (.iaload, 1) := by decide +kernel
theorem dX4_bowspritBody_19 : decode cX4_bowspritBody 19 = .ok (.imul, 1) := by decide +kernel
theorem dX4_bowspritBody_20 : decode cX4_bowspritBody 20 = .ok (.ireturn, 1) := by decide +kernel
set_option maxRecDepth 20000 in
theorem ggX4_lentNameBody_X4_beginBody : GoodIn wsX4_lentNameBody wsX4_beginBody := goodIn_r _ [7, 8, 9, 10, 11, 12, 13, 14, 15] (by decide +kernel) (by decide +kernel)
set_option maxRecDepth 20000 in
theorem gX4_lentNameBody_X4_beginBody : GoodIn wsX4_lentNameBody (wsV RX4 266 RX4 yX4_beginBody wsX4_beginBody) := goodIn_app (goodIn_of _ (by decide +kernel)) ggX4_lentNameBody_X4_beginBody
theorem dX4_lentNameBody_0 : decode cX4_lentNameBody 0 = .ok (.aload_n 0, 1) := by decide +kernel
theorem dX4_lentNameBody_1 : decode cX4_lentNameBody 1 = .ok (.iconst 4, 1) := by decide +kernel
theorem dX4_lentNameBody_2 : decode cX4_lentNameBody 2 = .ok (.invokevirtual 266, 3) := by decide +kernel
theorem dX4_lentNameBody_5 : decode cX4_lentNameBody 5 = .ok (.iload_n 1, 1) := by decide +kernel
theorem dX4_lentNameBody_6 : decode cX4_lentNameBody 6 = .ok (.bipush 10, 2) := by decide +kernel
theorem dX4_lentNameBody_8 : decode cX4_lentNameBody 8 = .ok (.aload_n 0, 1) := by decide +kernel
theorem dX4_lentNameBody_9 : decode cX4_lentNameBody 9 = .ok (.getfield 18, 3) := by decide +kernel
theorem dX4_lentNameBody_12 : decode cX4_lentNameBody 12 = .ok (.getfield 109, 3) := by decide +kernel
theorem dX4_lentNameBody_15 : decode cX4_lentNameBody 15 = .ok (.iload_n 1, 1) := by decide +kernel
theorem dX4_lentNameBody_16 : decode cX4_lentNameBody 16 = .ok (.iaload, 1) := by decide +kernel
theorem dX4_lentNameBody_17 : decode cX4_lentNameBody 17 = .ok (.imul, 1) := by decide +kernel
theorem dX4_lentNameBody_18 : decode cX4_lentNameBody 18 = .ok (.iadd, 1) := by decide +kernel
theorem dX4_lentNameBody_19 : decode cX4_lentNameBody 19 = .ok (.ireturn, 1) := by decide +kernel
set_option maxRecDepth 20000 in
theorem ggX4_bowspritNameBody_X4_beginBody : GoodIn wsX4_bowspritNameBody wsX4_beginBody := goodIn_r _ [5, 6, 7, 8, 9, 10, 11, 12, 13] (by decide +kernel) (by decide +kernel)
set_option maxRecDepth 20000 in
theorem gX4_bowspritNameBody_X4_beginBody : GoodIn wsX4_bowspritNameBody (wsV RX4 266 RX4 yX4_beginBody wsX4_beginBody) := goodIn_app (goodIn_of _ (by decide +kernel)) ggX4_bowspritNameBody_X4_beginBody
theorem dX4_bowspritNameBody_0 : decode cX4_bowspritNameBody 0 = .ok (.aload_n 0, 1) := by decide +kernel
theorem dX4_bowspritNameBody_1 : decode cX4_bowspritNameBody 1 = .ok (.iconst 5, 1) := by decide +kernel
theorem dX4_bowspritNameBody_2 : decode cX4_bowspritNameBody 2 = .ok (.invokevirtual 266, 3) := by decide +kernel
theorem dX4_bowspritNameBody_5 : decode cX4_bowspritNameBody 5 = .ok (.bipush 40, 2) := by decide +kernel
theorem dX4_bowspritNameBody_7 : decode cX4_bowspritNameBody 7 = .ok (.ireturn, 1) := by decide +kernel
