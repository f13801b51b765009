theorem dX5_init_0 : decode cX5_init 0 = .ok (.aload_n 0, 1) := by decide +kernel
theorem dX5_init_1 : decode cX5_init 1 = .ok (.invokespecial 1, 3) := by decide +kernel
theorem dX5_init_4 : decode cX5_init 4 = .ok (.aload_n 0, 1) := by decide +kernel
theorem dX5_init_5 : decode cX5_init 5 = .ok (.iconst 5, 1) := by decide +kernel
theorem dX5_init_6 : decode cX5_init 6 = .ok (.newarray .int, 2) := by decide +kernel
theorem dX5_init_8 : decode cX5_init 8 = .ok (.putfield 7, 3) := by decide +kernel
theorem dX5_init_11 : decode cX5_init 11 = .ok (.aload_n 0, 1) := by decide +kernel
theorem dX5_init_12 : decode cX5_init 12 = .ok (.bipush 10, 2) := by decide +kernel
theorem dX5_init_14 : decode cX5_init 14 = .ok (.newarray .int, 2) := by decide +kernel
theorem dX5_init_16 : decode cX5_init 16 = .ok (.putfield 13, 3) := by decide +kernel
theorem dX5_init_19 : decode cX5_init 19 = .ok (.aload_n 0, 1) := by decide +kernel
theorem dX5_init_20 : decode cX5_init 20 = .ok (.bipush 10, 2) := by decide +kernel
theorem dX5_init_22 : decode cX5_init 22 = .ok (.newarray .int, 2) := by decide +kernel
theorem dX5_init_24 : decode cX5_init 24 = .ok (.putfield 16, 3) := by decide +kernel
theorem dX5_init_27 : decode cX5_init 27 = .ok (.aload_n 0, 1) := by decide +kernel
theorem dX5_init_28 : decode cX5_init 28 = .ok (.bipush 10, 2) := by decide +kernel
theorem dX5_init_30 : decode cX5_init 30 = .ok (.newarray .int, 2) := by decide +kernel
theorem dX5_init_32 : decode cX5_init 32 = .ok (.putfield 19, 3) := by decide +kernel
theorem dX5_init_35 : decode cX5_init 35 = .ok (.aload_n 0, 1) := by decide +kernel
theorem dX5_init_36 : decode cX5_init 36 = .ok (.bipush 10, 2) := by decide +kernel
theorem dX5_init_38 : decode cX5_init 38 = .ok (.newarray .int, 2) := by decide +kernel
theorem dX5_init_40 : decode cX5_init 40 = .ok (.putfield 22, 3) := by decide +kernel
theorem dX5_init_43 : decode cX5_init 43 = .ok (.aload_n 0, 1) := by decide +kernel
theorem dX5_init_44 : decode cX5_init 44 = .ok (.bipush 10, 2) := by decide +kernel
theorem dX5_init_46 : decode cX5_init 46 = .ok (.newarray .int, 2) := by decide +kernel
theorem dX5_init_48 : decode cX5_init 48 = .ok (.putfield 25, 3) := by decide +kernel
theorem dX5_init_51 : decode cX5_init 51 = .ok (.aload_n 0, 1) := by decide +kernel
theorem dX5_init_52 : decode cX5_init 52 = .ok (.bipush 16, 2) := by decide +kernel
theorem dX5_init_54 : decode cX5_init 54 = .ok (.newarray .int, 2) := by decide +kernel
theorem dX5_init_56 : decode cX5_init 56 = .ok (.putfield 28, 3) := by decide +kernel
theorem dX5_init_59 : decode cX5_init 59 = .ok (.aload_n 0, 1) := by decide +kernel
theorem dX5_init_60 : decode cX5_init 60 = .ok (.bipush 16, 2) := by decide +kernel
theorem dX5_init_62 : decode cX5_init 62 = .ok (.newarray .int, 2) := by decide +kernel
theorem dX5_init_64 : decode cX5_init 64 = .ok (.putfield 31, 3) := by decide +kernel
theorem dX5_init_67 : decode cX5_init 67 = .ok (.aload_n 0, 1) := by decide +kernel
theorem dX5_init_68 : decode cX5_init 68 = .ok (.bipush 16, 2) := by decide +kernel
theorem dX5_init_70 : decode cX5_init 70 = .ok (.newarray .int, 2) := by decide +kernel
theorem dX5_init_72 : decode cX5_init 72 = .ok (.putfield 34, 3) := by decide +kernel
theorem dX5_init_75 : decode cX5_init 75 = .ok (.aload_n 0, 1) := by decide +kernel
theorem dX5_init_76 : decode cX5_init 76 = .ok (.bipush 16, 2) := by decide +kernel
theorem dX5_init_78 : decode cX5_init 78 = .ok (.newarray .boolean, 2) := by decide +kernel
theorem dX5_init_80 : decode cX5_init 80 = .ok (.putfield 37, 3) := by decide +kernel
theorem dX5_init_83 : decode cX5_init 83 = .ok (.aload_n 0, 1) := by decide +kernel
theorem dX5_init_84 : decode cX5_init 84 = .ok (.sipush 1024, 3) := by decide +kernel
theorem dX5_init_87 : decode cX5_init 87 = .ok (.newarray .boolean, 2) := by decide +kernel
theorem dX5_init_89 : decode cX5_init 89 = .ok (.putfield 41, 3) := by decide +kernel
theorem dX5_init_92 : decode cX5_init 92 = .ok (.aload_n 0, 1) := by decide +kernel
theorem dX5_init_93 : decode cX5_init 93 = .ok (.sipush 1024, 3) := by decide +kernel
theorem dX5_init_96 : decode cX5_init 96 = .ok (.newarray .boolean, 2) := by decide +kernel
theorem dX5_init_98 : decode cX5_init 98 = .ok (.putfield 44, 3) := by decide +kernel
theorem dX5_init_101 : decode cX5_init 101 = .ok (.aload_n 0, 1) := by decide +kernel
theorem dX5_init_102 : decode cX5_init 102 = .ok (.bipush 16, 2) := by decide +kernel
theorem dX5_init_104 : decode cX5_init 104 = .ok (.newarray .int, 2) := by decide +kernel
theorem dX5_init_106 : decode cX5_init 106 = .ok (.putfield 47, 3) := by decide +kernel
theorem dX5_init_109 : decode cX5_init 109 = .ok (.aload_n 0, 1) := by decide +kernel
theorem dX5_init_110 : decode cX5_init 110 = .ok (.iconst 4, 1) := by decide +kernel
theorem dX5_init_111 : decode cX5_init 111 = .ok (.newarray .int, 2) := by decide +kernel
theorem dX5_init_113 : decode cX5_init 113 = .ok (.putfield 50, 3) := by decide +kernel
theorem dX5_init_116 : decode cX5_init 116 = .ok (.aload_n 0, 1) := by decide +kernel
theorem dX5_init_117 : decode cX5_init 117 = .ok (.iconst 4, 1) := by decide +kernel
theorem dX5_init_118 : decode cX5_init 118 = .ok (.newarray .int, 2) := by decide +kernel
theorem dX5_init_120 : decode cX5_init 120 = .ok (.putfield 53, 3) := by decide +kernel
theorem dX5_init_123 : decode cX5_init 123 = .ok (.aload_n 0, 1) := by decide +kernel
theorem dX5_init_124 : decode cX5_init 124 = .ok (.sipush 200, 3) := by decide +kernel
theorem dX5_init_127 : decode cX5_init 127 = .ok (.newarray .int, 2) := by decide +kernel
theorem dX5_init_129 : decode cX5_init 129 = .ok (.putfield 56, 3) := by decide +kernel
theorem dX5_init_132 : decode cX5_init 132 = .ok (.aload_n 0, 1) := by decide +kernel
theorem dX5_init_133 : decode cX5_init 133 = .ok (.bipush 50, 2) := by decide +kernel
theorem dX5_init_135 : decode cX5_init 135 = .ok (.newarray .int, 2) := by decide +kernel
theorem dX5_init_137 : decode cX5_init 137 = .ok (.putfield 59, 3) := by decide +kernel
theorem dX5_init_140 : decode cX5_init 140 = .ok (.aload_n 0, 1) := by decide +kernel
theorem dX5_init_141 : decode cX5_init 141 = .ok (.getfield 7, 3) := by decide +kernel
theorem dX5_init_144 : decode cX5_init 144 = .ok (.iconst 0, 1) := by decide +kernel
theorem dX5_init_145 : decode cX5_init 145 = .ok (.bipush 50, 2) := by decide +kernel
theorem dX5_init_147 : decode cX5_init 147 = .ok (.iastore, 1) := by decide +kernel
theorem dX5_init_148 : decode cX5_init 148 = .ok (.aload_n 0, 1) := by decide +kernel
theorem dX5_init_149 : decode cX5_init 149 = .ok (.getfield 7, 3) := by decide +kernel
theorem dX5_init_152 : decode cX5_init 152 = .ok (.iconst 1, 1) := by decide +kernel
theorem dX5_init_153 : decode cX5_init 153 = .ok (.bipush 10, 2) := by decide +kernel
theorem dX5_init_155 : decode cX5_init 155 = .ok (.iastore, 1) := by decide +kernel
theorem dX5_init_156 : decode cX5_init 156 = .ok (.aload_n 0, 1) := by decide +kernel
theorem dX5_init_157 : decode cX5_init 157 = .ok (.getfield 7, 3) := by decide +kernel
theorem dX5_init_160 : decode cX5_init 160 = .ok (.iconst 2, 1) := by decide +kernel
theorem dX5_init_161 : decode cX5_init 161 = .ok (.iconst 5, 1) := by decide +kernel
theorem dX5_init_162 : decode cX5_init 162 = .ok (.iastore, 1) := by decide +kernel
theorem dX5_init_163 : decode cX5_init 163 = .ok (.aload_n 0, 1) := by decide +kernel
theorem dX5_init_164 : decode cX5_init 164 = .ok (.getfield 7, 3) := by decide +kernel
theorem dX5_init_167 : decode cX5_init 167 = .ok (.iconst 3, 1) := by decide +kernel
theorem dX5_init_168 : decode cX5_init 168 = .ok (.bipush 20, 2) := by decide +kernel
theorem dX5_init_170 : decode cX5_init 170 = .ok (.iastore, 1) := by decide +kernel
theorem dX5_init_171 : decode cX5_init 171 = .ok (.aload_n 0, 1) := by decide +kernel
theorem dX5_init_172 : decode cX5_init 172 = .ok (.getfield 7, 3) := by decide +kernel
theorem dX5_init_175 : decode cX5_init 175 = .ok (.iconst 4, 1) := by decide +kernel
theorem dX5_init_176 : decode cX5_init 176 = .ok (.bipush 20, 2) := by decide +kernel
theorem dX5_init_178 : decode cX5_init 178 = .ok (.iastore, 1) := by decide +kernel
theorem dX5_init_179 : decode cX5_init 179 = .ok (.iconst 0, 1) := by decide +kernel
theorem dX5_init_180 : decode cX5_init 180 = .ok (.istore_n 1, 1) := by decide +kernel
theorem dX5_init_181 : decode cX5_init 181 = .ok (.iload_n 1, 1) := by decide +kernel
theorem dX5_init_182 : decode cX5_init 182 = .ok (.iconst 4, 1) := by decide +kernel
theorem dX5_init_183 : decode cX5_init 183 = .ok (.if_icmp .ge 16, 3) := by decide +kernel
theorem dX5_init_186 : decode cX5_init 186 = .ok (.aload_n 0, 1) := by decide +kernel
theorem dX5_init_187 : decode cX5_init 187 = .ok (.getfield 50, 3) := by decide +kernel
theorem dX5_init_190 : decode cX5_init 190 = .ok (.iload_n 1, 1) := by decide +kernel
theorem dX5_init_191 : decode cX5_init 191 = .ok (.iconst (-1), 1) := by decide +kernel
theorem dX5_init_192 : decode cX5_init 192 = .ok (.iastore, 1) := by decide +kernel
theorem dX5_init_193 : decode cX5_init 193 = .ok (.iinc 1 1, 3) := by decide +kernel
theorem dX5_init_196 : decode cX5_init 196 = .ok (.goto (-15), 3) := by decide +kernel
theorem dX5_init_199 : decode cX5_init 199 = .ok (.return_, 1) := by decide +kernel
theorem dX5_in_0 : decode cX5_in 0 = .ok (.lload_n 0, 1) := by decide +kernel
theorem dX5_in_1 : decode cX5_in 1 = .ok (.lload_n 2, 1) := by decide +kernel
theorem dX5_in_2 : decode cX5_in 2 = .ok (.lcmp, 1) := by decide +kernel
theorem dX5_in_3 : decode cX5_in 3 = .ok (.ifCond .lt 14, 3) := by decide +kernel
theorem dX5_in_6 : decode cX5_in 6 = .ok (.lload_n 0, 1) := by decide +kernel
theorem dX5_in_7 : decode cX5_in 7 = .ok (.lload 4, 2) := by decide +kernel
theorem dX5_in_9 : decode cX5_in 9 = .ok (.lcmp, 1) := by decide +kernel
theorem dX5_in_10 : decode cX5_in 10 = .ok (.ifCond .gt 7, 3) := by decide +kernel
theorem dX5_in_13 : decode cX5_in 13 = .ok (.iconst 1, 1) := by decide +kernel
theorem dX5_in_14 : decode cX5_in 14 = .ok (.goto 4, 3) := by decide +kernel
theorem dX5_in_17 : decode cX5_in 17 = .ok (.iconst 0, 1) := by decide +kernel
theorem dX5_in_18 : decode cX5_in 18 = .ok (.ireturn, 1) := by decide +kernel
theorem dX5_lost_0 : decode cX5_lost 0 = .ok (.ldc2_w 62, 3) := by decide +kernel
theorem dX5_lost_3 : decode cX5_lost 3 = .ok (.lreturn, 1) := by decide +kernel
theorem dX5_refused_0 : decode cX5_refused 0 = .ok (.aload_n 0, 1) := by decide +kernel
theorem dX5_refused_1 : decode cX5_refused 1 = .ok (.iconst 0, 1) := by decide +kernel
theorem dX5_refused_2 : decode cX5_refused 2 = .ok (.putfield 64, 3) := by decide +kernel
theorem dX5_refused_5 : decode cX5_refused 5 = .ok (.iload_n 1, 1) := by decide +kernel
theorem dX5_refused_6 : decode cX5_refused 6 = .ok (.ireturn, 1) := by decide +kernel
theorem dX5_failed_0 : decode cX5_failed 0 = .ok (.aload_n 0, 1) := by decide +kernel
theorem dX5_failed_1 : decode cX5_failed 1 = .ok (.iload_n 1, 1) := by decide +kernel
theorem dX5_failed_2 : decode cX5_failed 2 = .ok (.putfield 64, 3) := by decide +kernel
theorem dX5_failed_5 : decode cX5_failed 5 = .ok (.bipush (-10), 2) := by decide +kernel
theorem dX5_failed_7 : decode cX5_failed 7 = .ok (.iload_n 1, 1) := by decide +kernel
theorem dX5_failed_8 : decode cX5_failed 8 = .ok (.isub, 1) := by decide +kernel
theorem dX5_failed_9 : decode cX5_failed 9 = .ok (.ireturn, 1) := by decide +kernel
set_option maxRecDepth 20000 in
theorem ggX5_failedLong_X5_lost : GoodIn wsX5_failedLong wsX5_lost := goodIn_r _ [5, 6] (by decide +kernel) (by decide +kernel)
set_option maxRecDepth 20000 in
theorem gX5_failedLong_X5_lost : GoodIn wsX5_failedLong (va_wsS RX5 68 yX5_lost wsX5_lost) := goodIn_app (goodIn_of _ (by decide +kernel)) ggX5_failedLong_X5_lost
theorem dX5_failedLong_0 : decode cX5_failedLong 0 = .ok (.aload_n 0, 1) := by decide +kernel
theorem dX5_failedLong_1 : decode cX5_failedLong 1 = .ok (.iload_n 1, 1) := by decide +kernel
theorem dX5_failedLong_2 : decode cX5_failedLong 2 = .ok (.putfield 64, 3) := by decide +kernel
theorem dX5_failedLong_5 : decode cX5_failedLong 5 = .ok (.invokestatic 68, 3) := by decide +kernel
theorem dX5_failedLong_8 : decode cX5_failedLong 8 = .ok (.lreturn, 1) := by decide +kernel
theorem dX5_lesser_0 : decode cX5_lesser 0 = .ok (.iload_n 0, 1) := by decide +kernel
theorem dX5_lesser_1 : decode cX5_lesser 1 = .ok (.iload_n 1, 1) := by decide +kernel
theorem dX5_lesser_2 : decode cX5_lesser 2 = .ok (.if_icmp .ge 7, 3) := by decide +kernel
theorem dX5_lesser_5 : decode cX5_lesser 5 = .ok (.iload_n 0, 1) := by decide +kernel
theorem dX5_lesser_6 : decode cX5_lesser 6 = .ok (.goto 4, 3) := by decide +kernel
theorem dX5_lesser_9 : decode cX5_lesser 9 = .ok (.iload_n 1, 1) := by decide +kernel
theorem dX5_lesser_10 : decode cX5_lesser 10 = .ok (.ireturn, 1) := by decide +kernel
theorem dX5_greater_0 : decode cX5_greater 0 = .ok (.iload_n 0, 1) := by decide +kernel
theorem dX5_greater_1 : decode cX5_greater 1 = .ok (.iload_n 1, 1) := by decide +kernel
theorem dX5_greater_2 : decode cX5_greater 2 = .ok (.if_icmp .le 7, 3) := by decide +kernel
theorem dX5_greater_5 : decode cX5_greater 5 = .ok (.iload_n 0, 1) := by decide +kernel
theorem dX5_greater_6 : decode cX5_greater 6 = .ok (.goto 4, 3) := by decide +kernel
theorem dX5_greater_9 : decode cX5_greater 9 = .ok (.iload_n 1, 1) := by decide +kernel
theorem dX5_greater_10 : decode cX5_greater 10 = .ok (.ireturn, 1) := by decide +kernel
set_option maxRecDepth 20000 in
theorem ggX5_noSpar_X5_in : GoodIn wsX5_noSpar wsX5_in := goodIn_r _ [5] (by decide +kernel) (by decide +kernel)
set_option maxRecDepth 20000 in
theorem gX5_noSpar_X5_in : GoodIn wsX5_noSpar (va_wsS RX5 75 yX5_in wsX5_in) := goodIn_app (goodIn_of _ (by decide +kernel)) ggX5_noSpar_X5_in
theorem dX5_noSpar_0 : decode cX5_noSpar 0 = .ok (.iload_n 1, 1) := by decide +kernel
theorem dX5_noSpar_1 : decode cX5_noSpar 1 = .ok (.i2l, 1) := by decide +kernel
theorem dX5_noSpar_2 : decode cX5_noSpar 2 = .ok (.lconst 0, 1) := by decide +kernel
theorem dX5_noSpar_3 : decode cX5_noSpar 3 = .ok (.aload_n 0, 1) := by decide +kernel
theorem dX5_noSpar_4 : decode cX5_noSpar 4 = .ok (.getfield 72, 3) := by decide +kernel
theorem dX5_noSpar_7 : decode cX5_noSpar 7 = .ok (.i2l, 1) := by decide +kernel
theorem dX5_noSpar_8 : decode cX5_noSpar 8 = .ok (.lconst 1, 1) := by decide +kernel
theorem dX5_noSpar_9 : decode cX5_noSpar 9 = .ok (.lsub, 1) := by decide +kernel
theorem dX5_noSpar_10 : decode cX5_noSpar 10 = .ok (.invokestatic 75, 3) := by decide +kernel
theorem dX5_noSpar_13 : decode cX5_noSpar 13 = .ok (.ifCond .ne 7, 3) := by decide +kernel
theorem dX5_noSpar_16 : decode cX5_noSpar 16 = .ok (.iconst 1, 1) := by decide +kernel
theorem dX5_noSpar_17 : decode cX5_noSpar 17 = .ok (.goto 4, 3) := by decide +kernel
theorem dX5_noSpar_20 : decode cX5_noSpar 20 = .ok (.iconst 0, 1) := by decide +kernel
theorem dX5_noSpar_21 : decode cX5_noSpar 21 = .ok (.ireturn, 1) := by decide +kernel
theorem dX5_isUp_0 : decode cX5_isUp 0 = .ok (.iload_n 1, 1) := by decide +kernel
theorem dX5_isUp_1 : decode cX5_isUp 1 = .ok (.iload_n 2, 1) := by decide +kernel
theorem dX5_isUp_2 : decode cX5_isUp 2 = .ok (.ishr, 1) := by decide +kernel
theorem dX5_isUp_3 : decode cX5_isUp 3 = .ok (.iconst 1, 1) := by decide +kernel
theorem dX5_isUp_4 : decode cX5_isUp 4 = .ok (.iand, 1) := by decide +kernel
theorem dX5_isUp_5 : decode cX5_isUp 5 = .ok (.iconst 1, 1) := by decide +kernel
theorem dX5_isUp_6 : decode cX5_isUp 6 = .ok (.if_icmp .ne 7, 3) := by decide +kernel
theorem dX5_isUp_9 : decode cX5_isUp 9 = .ok (.iconst 1, 1) := by decide +kernel
theorem dX5_isUp_10 : decode cX5_isUp 10 = .ok (.goto 4, 3) := by decide +kernel
theorem dX5_isUp_13 : decode cX5_isUp 13 = .ok (.iconst 0, 1) := by decide +kernel
theorem dX5_isUp_14 : decode cX5_isUp 14 = .ok (.ireturn, 1) := by decide +kernel
theorem dX5_count_0 : decode cX5_count 0 = .ok (.iconst 0, 1) := by decide +kernel
theorem dX5_count_1 : decode cX5_count 1 = .ok (.istore_n 1, 1) := by decide +kernel
theorem dX5_count_2 : decode cX5_count 2 = .ok (.iconst 0, 1) := by decide +kernel
theorem dX5_count_3 : decode cX5_count 3 = .ok (.istore_n 2, 1) := by decide +kernel
theorem dX5_count_4 : decode cX5_count 4 = .ok (.iload_n 2, 1) := by decide +kernel
theorem dX5_count_5 : decode cX5_count 5 = .ok (.bipush 16, 2) := by decide +kernel
theorem dX5_count_7 : decode cX5_count 7 = .ok (.if_icmp .ge 17, 3) := by decide +kernel
theorem dX5_count_10 : decode cX5_count 10 = .ok (.iload_n 1, 1) := by decide +kernel
theorem dX5_count_11 : decode cX5_count 11 = .ok (.iload_n 0, 1) := by decide +kernel
theorem dX5_count_12 : decode cX5_count 12 = .ok (.iload_n 2, 1) := by decide +kernel
theorem dX5_count_13 : decode cX5_count 13 = .ok (.ishr, 1) := by decide +kernel
theorem dX5_count_14 : decode cX5_count 14 = .ok (.iconst 1, 1) := by decide +kernel
theorem dX5_count_15 : decode cX5_count 15 = .ok (.iand, 1) := by decide +kernel
theorem dX5_count_16 : decode cX5_count 16 = .ok (.iadd, 1) := by decide +kernel
theorem dX5_count_17 : decode cX5_count 17 = .ok (.istore_n 1, 1) := by decide +kernel
theorem dX5_count_18 : decode cX5_count 18 = .ok (.iinc 2 1, 3) := by decide +kernel
theorem dX5_count_21 : decode cX5_count 21 = .ok (.goto (-17), 3) := by decide +kernel
theorem dX5_count_24 : decode cX5_count 24 = .ok (.iload_n 1, 1) := by decide +kernel
theorem dX5_count_25 : decode cX5_count 25 = .ok (.ireturn, 1) := by decide +kernel
theorem dX5_isTooShort_0 : decode cX5_isTooShort 0 = .ok (.iconst 0, 1) := by decide +kernel
theorem dX5_isTooShort_1 : decode cX5_isTooShort 1 = .ok (.istore_n 2, 1) := by decide +kernel
theorem dX5_isTooShort_2 : decode cX5_isTooShort 2 = .ok (.iconst 0, 1) := by decide +kernel
theorem dX5_isTooShort_3 : decode cX5_isTooShort 3 = .ok (.istore_n 3, 1) := by decide +kernel
theorem dX5_isTooShort_4 : decode cX5_isTooShort 4 = .ok (.iload_n 3, 1) := by decide +kernel
theorem dX5_isTooShort_5 : decode cX5_isTooShort 5 = .ok (.aload_n 0, 1) := by decide +kernel
theorem dX5_isTooShort_6 : decode cX5_isTooShort 6 = .ok (.getfield 72, 3) := by decide +kernel
theorem dX5_isTooShort_9 : decode cX5_isTooShort 9 = .ok (.if_icmp .ge 29, 3) := by decide +kernel
theorem dX5_isTooShort_12 : decode cX5_isTooShort 12 = .ok (.iload_n 2, 1) := by decide +kernel
theorem dX5_isTooShort_13 : decode cX5_isTooShort 13 = .ok (.ifCond .ne 13, 3) := by decide +kernel
theorem dX5_isTooShort_16 : decode cX5_isTooShort 16 = .ok (.aload_n 0, 1) := by decide +kernel
theorem dX5_isTooShort_17 : decode cX5_isTooShort 17 = .ok (.getfield 16, 3) := by decide +kernel
theorem dX5_isTooShort_20 : decode cX5_isTooShort 20 = .ok (.iload_n 3, 1) := by decide +kernel
theorem dX5_isTooShort_21 : decode cX5_isTooShort 21 = .ok (.iaload, 1) := by decide +kernel
theorem dX5_isTooShort_22 : decode cX5_isTooShort 22 = .ok (.iload_n 1, 1) := by decide +kernel
theorem dX5_isTooShort_23 : decode cX5_isTooShort 23 = .ok (.if_icmp .le 7, 3) := by decide +kernel
theorem dX5_isTooShort_26 : decode cX5_isTooShort 26 = .ok (.iconst 1, 1) := by decide +kernel
theorem dX5_isTooShort_27 : decode cX5_isTooShort 27 = .ok (.goto 4, 3) := by decide +kernel
theorem dX5_isTooShort_30 : decode cX5_isTooShort 30 = .ok (.iconst 0, 1) := by decide +kernel
theorem dX5_isTooShort_31 : decode cX5_isTooShort 31 = .ok (.istore_n 2, 1) := by decide +kernel
theorem dX5_isTooShort_32 : decode cX5_isTooShort 32 = .ok (.iinc 3 1, 3) := by decide +kernel
theorem dX5_isTooShort_35 : decode cX5_isTooShort 35 = .ok (.goto (-31), 3) := by decide +kernel
theorem dX5_isTooShort_38 : decode cX5_isTooShort 38 = .ok (.iconst 0, 1) := by decide +kernel
theorem dX5_isTooShort_39 : decode cX5_isTooShort 39 = .ok (.istore_n 3, 1) := by decide +kernel
theorem dX5_isTooShort_40 : decode cX5_isTooShort 40 = .ok (.iload_n 3, 1) := by decide +kernel
theorem dX5_isTooShort_41 : decode cX5_isTooShort 41 = .ok (.aload_n 0, 1) := by decide +kernel
theorem dX5_isTooShort_42 : decode cX5_isTooShort 42 = .ok (.getfield 79, 3) := by decide +kernel
theorem dX5_isTooShort_45 : decode cX5_isTooShort 45 = .ok (.if_icmp .ge 32, 3) := by decide +kernel
theorem dX5_isTooShort_48 : decode cX5_isTooShort 48 = .ok (.iload_n 2, 1) := by decide +kernel
theorem dX5_isTooShort_49 : decode cX5_isTooShort 49 = .ok (.ifCond .ne 16, 3) := by decide +kernel
theorem dX5_isTooShort_52 : decode cX5_isTooShort 52 = .ok (.aload_n 0, 1) := by decide +kernel
theorem dX5_isTooShort_53 : decode cX5_isTooShort 53 = .ok (.getfield 28, 3) := by decide +kernel
theorem dX5_isTooShort_56 : decode cX5_isTooShort 56 = .ok (.iload_n 3, 1) := by decide +kernel
theorem dX5_isTooShort_57 : decode cX5_isTooShort 57 = .ok (.iaload, 1) := by decide +kernel
theorem dX5_isTooShort_58 : decode cX5_isTooShort 58 = .ok (.iload_n 1, 1) := by decide +kernel
theorem dX5_isTooShort_59 : decode cX5_isTooShort 59 = .ok (.bipush 20, 2) := by decide +kernel
theorem dX5_isTooShort_61 : decode cX5_isTooShort 61 = .ok (.iadd, 1) := by decide +kernel
theorem dX5_isTooShort_62 : decode cX5_isTooShort 62 = .ok (.if_icmp .le 7, 3) := by decide +kernel
theorem dX5_isTooShort_65 : decode cX5_isTooShort 65 = .ok (.iconst 1, 1) := by decide +kernel
theorem dX5_isTooShort_66 : decode cX5_isTooShort 66 = .ok (.goto 4, 3) := by decide +kernel
theorem dX5_isTooShort_69 : decode cX5_isTooShort 69 = .ok (.iconst 0, 1) := by decide +kernel
theorem dX5_isTooShort_70 : decode cX5_isTooShort 70 = .ok (.istore_n 2, 1) := by decide +kernel
theorem dX5_isTooShort_71 : decode cX5_isTooShort 71 = .ok (.iinc 3 1, 3) := by decide +kernel
theorem dX5_isTooShort_74 : decode cX5_isTooShort 74 = .ok (.goto (-34), 3) := by decide +kernel
theorem dX5_isTooShort_77 : decode cX5_isTooShort 77 = .ok (.iload_n 2, 1) := by decide +kernel
theorem dX5_isTooShort_78 : decode cX5_isTooShort 78 = .ok (.ireturn, 1) := by decide +kernel
set_option maxRecDepth 20000 in
theorem ggX5_rule_X5_in : GoodIn wsX5_rule wsX5_in := goodIn_r _ [8] (by decide +kernel) (by decide +kernel)
set_option maxRecDepth 20000 in
theorem gX5_rule_X5_in : GoodIn wsX5_rule (va_wsS RX5 75 yX5_in wsX5_in) := goodIn_app (goodIn_of _ (by decide +kernel)) ggX5_rule_X5_in
set_option maxRecDepth 20000 in
theorem ggX5_rule_X5_isTooShort : GoodIn wsX5_rule wsX5_isTooShort := goodIn_r _ [12, 13, 14, 15, 16, 17, 18, 19, 20, 21, 22, 23, 24, 25, 26, 27, 28, 29, 30, 31, 32, 33, 34, 35, 36, 37, 38] (by decide +kernel) (by decide +kernel)
set_option maxRecDepth 20000 in
theorem gX5_rule_X5_isTooShort : GoodIn wsX5_rule (wsV RX5 88 RX5 yX5_isTooShort wsX5_isTooShort) := goodIn_app (goodIn_of _ (by decide +kernel)) ggX5_rule_X5_isTooShort
theorem dX5_rule_0 : decode cX5_rule 0 = .ok (.iload_n 1, 1) := by decide +kernel
theorem dX5_rule_1 : decode cX5_rule 1 = .ok (.i2l, 1) := by decide +kernel
theorem dX5_rule_2 : decode cX5_rule 2 = .ok (.lconst 0, 1) := by decide +kernel
theorem dX5_rule_3 : decode cX5_rule 3 = .ok (.ldc2_w 82, 3) := by decide +kernel
theorem dX5_rule_6 : decode cX5_rule 6 = .ok (.invokestatic 75, 3) := by decide +kernel
theorem dX5_rule_9 : decode cX5_rule 9 = .ok (.ifCond .ne 5, 3) := by decide +kernel
theorem dX5_rule_12 : decode cX5_rule 12 = .ok (.iconst (-1), 1) := by decide +kernel
theorem dX5_rule_13 : decode cX5_rule 13 = .ok (.ireturn, 1) := by decide +kernel
theorem dX5_rule_14 : decode cX5_rule 14 = .ok (.iload_n 2, 1) := by decide +kernel
theorem dX5_rule_15 : decode cX5_rule 15 = .ok (.i2l, 1) := by decide +kernel
theorem dX5_rule_16 : decode cX5_rule 16 = .ok (.lconst 1, 1) := by decide +kernel
theorem dX5_rule_17 : decode cX5_rule 17 = .ok (.iload_n 1, 1) := by decide +kernel
theorem dX5_rule_18 : decode cX5_rule 18 = .ok (.ifCond .ne 9, 3) := by decide +kernel
theorem dX5_rule_21 : decode cX5_rule 21 = .ok (.ldc2_w 84, 3) := by decide +kernel
theorem dX5_rule_24 : decode cX5_rule 24 = .ok (.goto 6, 3) := by decide +kernel
theorem dX5_rule_27 : decode cX5_rule 27 = .ok (.ldc2_w 86, 3) := by decide +kernel
theorem dX5_rule_30 : decode cX5_rule 30 = .ok (.invokestatic 75, 3) := by decide +kernel
theorem dX5_rule_33 : decode cX5_rule 33 = .ok (.ifCond .ne 6, 3) := by decide +kernel
theorem dX5_rule_36 : decode cX5_rule 36 = .ok (.bipush (-2), 2) := by decide +kernel
theorem dX5_rule_38 : decode cX5_rule 38 = .ok (.ireturn, 1) := by decide +kernel
theorem dX5_rule_39 : decode cX5_rule 39 = .ok (.iload_n 1, 1) := by decide +kernel
theorem dX5_rule_40 : decode cX5_rule 40 = .ok (.ifCond .ne 14, 3) := by decide +kernel
theorem dX5_rule_43 : decode cX5_rule 43 = .ok (.aload_n 0, 1) := by decide +kernel
theorem dX5_rule_44 : decode cX5_rule 44 = .ok (.iload_n 2, 1) := by decide +kernel
theorem dX5_rule_45 : decode cX5_rule 45 = .ok (.invokevirtual 88, 3) := by decide +kernel
theorem dX5_rule_48 : decode cX5_rule 48 = .ok (.ifCond .eq 6, 3) := by decide +kernel
theorem dX5_rule_51 : decode cX5_rule 51 = .ok (.bipush (-3), 2) := by decide +kernel
theorem dX5_rule_53 : decode cX5_rule 53 = .ok (.ireturn, 1) := by decide +kernel
theorem dX5_rule_54 : decode cX5_rule 54 = .ok (.aload_n 0, 1) := by decide +kernel
theorem dX5_rule_55 : decode cX5_rule 55 = .ok (.getfield 7, 3) := by decide +kernel
theorem dX5_rule_58 : decode cX5_rule 58 = .ok (.iload_n 1, 1) := by decide +kernel
theorem dX5_rule_59 : decode cX5_rule 59 = .ok (.iaload, 1) := by decide +kernel
theorem dX5_rule_60 : decode cX5_rule 60 = .ok (.istore_n 3, 1) := by decide +kernel
theorem dX5_rule_61 : decode cX5_rule 61 = .ok (.aload_n 0, 1) := by decide +kernel
theorem dX5_rule_62 : decode cX5_rule 62 = .ok (.getfield 7, 3) := by decide +kernel
theorem dX5_rule_65 : decode cX5_rule 65 = .ok (.iload_n 1, 1) := by decide +kernel
theorem dX5_rule_66 : decode cX5_rule 66 = .ok (.iload_n 2, 1) := by decide +kernel
theorem dX5_rule_67 : decode cX5_rule 67 = .ok (.iastore, 1) := by decide +kernel
theorem dX5_rule_68 : decode cX5_rule 68 = .ok (.iload_n 3, 1) := by decide +kernel
theorem dX5_rule_69 : decode cX5_rule 69 = .ok (.ireturn, 1) := by decide +kernel
set_option maxRecDepth 20000 in
theorem ggX5_isSpar_X5_in : GoodIn wsX5_isSpar wsX5_in := goodIn_r _ [8] (by decide +kernel) (by decide +kernel)
set_option maxRecDepth 20000 in
theorem gX5_isSpar_X5_in : GoodIn wsX5_isSpar (va_wsS RX5 75 yX5_in wsX5_in) := goodIn_app (goodIn_of _ (by decide +kernel)) ggX5_isSpar_X5_in
theorem dX5_isSpar_0 : decode cX5_isSpar 0 = .ok (.iload_n 1, 1) := by decide +kernel
theorem dX5_isSpar_1 : decode cX5_isSpar 1 = .ok (.i2l, 1) := by decide +kernel
theorem dX5_isSpar_2 : decode cX5_isSpar 2 = .ok (.lconst 0, 1) := by decide +kernel
theorem dX5_isSpar_3 : decode cX5_isSpar 3 = .ok (.ldc2_w 92, 3) := by decide +kernel
theorem dX5_isSpar_6 : decode cX5_isSpar 6 = .ok (.invokestatic 75, 3) := by decide +kernel
theorem dX5_isSpar_9 : decode cX5_isSpar 9 = .ok (.ifCond .eq 60, 3) := by decide +kernel
theorem dX5_isSpar_12 : decode cX5_isSpar 12 = .ok (.iload_n 2, 1) := by decide +kernel
theorem dX5_isSpar_13 : decode cX5_isSpar 13 = .ok (.i2l, 1) := by decide +kernel
theorem dX5_isSpar_14 : decode cX5_isSpar 14 = .ok (.lconst 0, 1) := by decide +kernel
theorem dX5_isSpar_15 : decode cX5_isSpar 15 = .ok (.aload_n 0, 1) := by decide +kernel
theorem dX5_isSpar_16 : decode cX5_isSpar 16 = .ok (.getfield 7, 3) := by decide +kernel
theorem dX5_isSpar_19 : decode cX5_isSpar 19 = .ok (.iconst 0, 1) := by decide +kernel
theorem dX5_isSpar_20 : decode cX5_isSpar 20 = .ok (.iaload, 1) := by decide +kernel
theorem dX5_isSpar_21 : decode cX5_isSpar 21 = .ok (.i2l, 1) := by decide +kernel
theorem dX5_isSpar_22 : decode cX5_isSpar 22 = .ok (.invokestatic 75, 3) := by decide +kernel
theorem dX5_isSpar_25 : decode cX5_isSpar 25 = .ok (.ifCond .eq 44, 3) := by decide +kernel
theorem dX5_isSpar_28 : decode cX5_isSpar 28 = .ok (.iload_n 3, 1) := by decide +kernel
theorem dX5_isSpar_29 : decode cX5_isSpar 29 = .ok (.i2l, 1) := by decide +kernel
theorem dX5_isSpar_30 : decode cX5_isSpar 30 = .ok (.lconst 1, 1) := by decide +kernel
theorem dX5_isSpar_31 : decode cX5_isSpar 31 = .ok (.ldc2_w 86, 3) := by decide +kernel
theorem dX5_isSpar_34 : decode cX5_isSpar 34 = .ok (.invokestatic 75, 3) := by decide +kernel
theorem dX5_isSpar_37 : decode cX5_isSpar 37 = .ok (.ifCond .eq 32, 3) := by decide +kernel
theorem dX5_isSpar_40 : decode cX5_isSpar 40 = .ok (.iload 4, 2) := by decide +kernel
theorem dX5_isSpar_42 : decode cX5_isSpar 42 = .ok (.i2l, 1) := by decide +kernel
theorem dX5_isSpar_43 : decode cX5_isSpar 43 = .ok (.lconst 1, 1) := by decide +kernel
theorem dX5_isSpar_44 : decode cX5_isSpar 44 = .ok (.ldc2_w 94, 3) := by decide +kernel
theorem dX5_isSpar_47 : decode cX5_isSpar 47 = .ok (.invokestatic 75, 3) := by decide +kernel
theorem dX5_isSpar_50 : decode cX5_isSpar 50 = .ok (.ifCond .eq 19, 3) := by decide +kernel
theorem dX5_isSpar_53 : decode cX5_isSpar 53 = .ok (.iload 5, 2) := by decide +kernel
theorem dX5_isSpar_55 : decode cX5_isSpar 55 = .ok (.iconst 1, 1) := by decide +kernel
theorem dX5_isSpar_56 : decode cX5_isSpar 56 = .ok (.if_icmp .eq 9, 3) := by decide +kernel
theorem dX5_isSpar_59 : decode cX5_isSpar 59 = .ok (.iload 5, 2) := by decide +kernel
theorem dX5_isSpar_61 : decode cX5_isSpar 61 = .ok (.iconst (-1), 1) := by decide +kernel
theorem dX5_isSpar_62 : decode cX5_isSpar 62 = .ok (.if_icmp .ne 7, 3) := by decide +kernel
theorem dX5_isSpar_65 : decode cX5_isSpar 65 = .ok (.iconst 1, 1) := by decide +kernel
theorem dX5_isSpar_66 : decode cX5_isSpar 66 = .ok (.goto 4, 3) := by decide +kernel
theorem dX5_isSpar_69 : decode cX5_isSpar 69 = .ok (.iconst 0, 1) := by decide +kernel
theorem dX5_isSpar_70 : decode cX5_isSpar 70 = .ok (.ireturn, 1) := by decide +kernel
theorem dX5_addSpar_0 : decode cX5_addSpar 0 = .ok (.aload_n 0, 1) := by decide +kernel
theorem dX5_addSpar_1 : decode cX5_addSpar 1 = .ok (.getfield 13, 3) := by decide +kernel
theorem dX5_addSpar_4 : decode cX5_addSpar 4 = .ok (.aload_n 0, 1) := by decide +kernel
theorem dX5_addSpar_5 : decode cX5_addSpar 5 = .ok (.getfield 72, 3) := by decide +kernel
theorem dX5_addSpar_8 : decode cX5_addSpar 8 = .ok (.iload_n 1, 1) := by decide +kernel
theorem dX5_addSpar_9 : decode cX5_addSpar 9 = .ok (.iastore, 1) := by decide +kernel
theorem dX5_addSpar_10 : decode cX5_addSpar 10 = .ok (.aload_n 0, 1) := by decide +kernel
theorem dX5_addSpar_11 : decode cX5_addSpar 11 = .ok (.getfield 16, 3) := by decide +kernel
theorem dX5_addSpar_14 : decode cX5_addSpar 14 = .ok (.aload_n 0, 1) := by decide +kernel
theorem dX5_addSpar_15 : decode cX5_addSpar 15 = .ok (.getfield 72, 3) := by decide +kernel
theorem dX5_addSpar_18 : decode cX5_addSpar 18 = .ok (.iload_n 2, 1) := by decide +kernel
theorem dX5_addSpar_19 : decode cX5_addSpar 19 = .ok (.iastore, 1) := by decide +kernel
theorem dX5_addSpar_20 : decode cX5_addSpar 20 = .ok (.aload_n 0, 1) := by decide +kernel
theorem dX5_addSpar_21 : decode cX5_addSpar 21 = .ok (.getfield 19, 3) := by decide +kernel
theorem dX5_addSpar_24 : decode cX5_addSpar 24 = .ok (.aload_n 0, 1) := by decide +kernel
theorem dX5_addSpar_25 : decode cX5_addSpar 25 = .ok (.getfield 72, 3) := by decide +kernel
theorem dX5_addSpar_28 : decode cX5_addSpar 28 = .ok (.iload_n 3, 1) := by decide +kernel
theorem dX5_addSpar_29 : decode cX5_addSpar 29 = .ok (.iastore, 1) := by decide +kernel
theorem dX5_addSpar_30 : decode cX5_addSpar 30 = .ok (.aload_n 0, 1) := by decide +kernel
theorem dX5_addSpar_31 : decode cX5_addSpar 31 = .ok (.getfield 22, 3) := by decide +kernel
theorem dX5_addSpar_34 : decode cX5_addSpar 34 = .ok (.aload_n 0, 1) := by decide +kernel
theorem dX5_addSpar_35 : decode cX5_addSpar 35 = .ok (.getfield 72, 3) := by decide +kernel
theorem dX5_addSpar_38 : decode cX5_addSpar 38 = .ok (.iload 4, 2) := by decide +kernel
theorem dX5_addSpar_40 : decode cX5_addSpar 40 = .ok (.iastore, 1) := by decide +kernel
theorem dX5_addSpar_41 : decode cX5_addSpar 41 = .ok (.aload_n 0, 1) := by decide +kernel
theorem dX5_addSpar_42 : decode cX5_addSpar 42 = .ok (.getfield 25, 3) := by decide +kernel
theorem dX5_addSpar_45 : decode cX5_addSpar 45 = .ok (.aload_n 0, 1) := by decide +kernel
theorem dX5_addSpar_46 : decode cX5_addSpar 46 = .ok (.getfield 72, 3) := by decide +kernel
theorem dX5_addSpar_49 : decode cX5_addSpar 49 = .ok (.iload 5, 2) := by decide +kernel
theorem dX5_addSpar_51 : decode cX5_addSpar 51 = .ok (.iastore, 1) := by decide +kernel
theorem dX5_addSpar_52 : decode cX5_addSpar 52 = .ok (.aload_n 0, 1) := by decide +kernel
theorem dX5_addSpar_53 : decode cX5_addSpar 53 = .ok (.dup, 1) := by decide +kernel
theorem dX5_addSpar_54 : decode cX5_addSpar 54 = .ok (.getfield 72, 3) := by decide +kernel
theorem dX5_addSpar_57 : decode cX5_addSpar 57 = .ok (.iconst 1, 1) := by decide +kernel
theorem dX5_addSpar_58 : decode cX5_addSpar 58 = .ok (.iadd, 1) := by decide +kernel
theorem dX5_addSpar_59 : decode cX5_addSpar 59 = .ok (.putfield 72, 3) := by decide +kernel
theorem dX5_addSpar_62 : decode cX5_addSpar 62 = .ok (.return_, 1) := by decide +kernel
set_option maxRecDepth 20000 in
theorem ggX5_spar_X5_isSpar : GoodIn wsX5_spar wsX5_isSpar := goodIn_r _ [6, 7, 8, 9, 10, 11, 12, 5, 13, 23, 24, 25, 26, 27, 28, 29, 30, 31, 32, 33, 34, 35, 36, 37, 38, 39, 40, 41, 42, 43, 44] (by decide +kernel) (by decide +kernel)
set_option maxRecDepth 20000 in
theorem gX5_spar_X5_isSpar : GoodIn wsX5_spar (wsV RX5 96 RX5 yX5_isSpar wsX5_isSpar) := goodIn_app (goodIn_of _ (by decide +kernel)) ggX5_spar_X5_isSpar
set_option maxRecDepth 20000 in
theorem ggX5_spar_X5_addSpar : GoodIn wsX5_spar wsX5_addSpar := goodIn_r _ [17, 18, 1, 19, 20, 21, 22, 23, 24, 25, 26, 27, 28, 29, 30, 31, 32, 33, 34, 35, 36, 37, 38, 39, 40, 41, 42, 43, 44] (by decide +kernel) (by decide +kernel)
set_option maxRecDepth 20000 in
theorem gX5_spar_X5_addSpar : GoodIn wsX5_spar (wsV RX5 100 RX5 yX5_addSpar wsX5_addSpar) := goodIn_app (goodIn_of _ (by decide +kernel)) ggX5_spar_X5_addSpar
theorem dX5_spar_0 : decode cX5_spar 0 = .ok (.aload_n 0, 1) := by decide +kernel
theorem dX5_spar_1 : decode cX5_spar 1 = .ok (.iload_n 1, 1) := by decide +kernel
theorem dX5_spar_2 : decode cX5_spar 2 = .ok (.iload_n 2, 1) := by decide +kernel
theorem dX5_spar_3 : decode cX5_spar 3 = .ok (.iload_n 3, 1) := by decide +kernel
theorem dX5_spar_4 : decode cX5_spar 4 = .ok (.iload 4, 2) := by decide +kernel
theorem dX5_spar_6 : decode cX5_spar 6 = .ok (.iload 5, 2) := by decide +kernel
theorem dX5_spar_8 : decode cX5_spar 8 = .ok (.invokevirtual 96, 3) := by decide +kernel
theorem dX5_spar_11 : decode cX5_spar 11 = .ok (.ifCond .ne 6, 3) := by decide +kernel
theorem dX5_spar_14 : decode cX5_spar 14 = .ok (.bipush (-2), 2) := by decide +kernel
theorem dX5_spar_16 : decode cX5_spar 16 = .ok (.ireturn, 1) := by decide +kernel
theorem dX5_spar_17 : decode cX5_spar 17 = .ok (.aload_n 0, 1) := by decide +kernel
theorem dX5_spar_18 : decode cX5_spar 18 = .ok (.getfield 72, 3) := by decide +kernel
theorem dX5_spar_21 : decode cX5_spar 21 = .ok (.bipush 10, 2) := by decide +kernel
theorem dX5_spar_23 : decode cX5_spar 23 = .ok (.if_icmp .ne 6, 3) := by decide +kernel
theorem dX5_spar_26 : decode cX5_spar 26 = .ok (.bipush (-4), 2) := by decide +kernel
theorem dX5_spar_28 : decode cX5_spar 28 = .ok (.ireturn, 1) := by decide +kernel
theorem dX5_spar_29 : decode cX5_spar 29 = .ok (.aload_n 0, 1) := by decide +kernel
theorem dX5_spar_30 : decode cX5_spar 30 = .ok (.iload_n 1, 1) := by decide +kernel
theorem dX5_spar_31 : decode cX5_spar 31 = .ok (.iload_n 2, 1) := by decide +kernel
theorem dX5_spar_32 : decode cX5_spar 32 = .ok (.iload_n 3, 1) := by decide +kernel
theorem dX5_spar_33 : decode cX5_spar 33 = .ok (.iload 4, 2) := by decide +kernel
theorem dX5_spar_35 : decode cX5_spar 35 = .ok (.iload 5, 2) := by decide +kernel
theorem dX5_spar_37 : decode cX5_spar 37 = .ok (.invokevirtual 100, 3) := by decide +kernel
theorem dX5_spar_40 : decode cX5_spar 40 = .ok (.aload_n 0, 1) := by decide +kernel
theorem dX5_spar_41 : decode cX5_spar 41 = .ok (.getfield 72, 3) := by decide +kernel
theorem dX5_spar_44 : decode cX5_spar 44 = .ok (.iconst 1, 1) := by decide +kernel
theorem dX5_spar_45 : decode cX5_spar 45 = .ok (.isub, 1) := by decide +kernel
theorem dX5_spar_46 : decode cX5_spar 46 = .ok (.ireturn, 1) := by decide +kernel
theorem dX5_from_0 : decode cX5_from 0 = .ok (.aload_n 0, 1) := by decide +kernel
theorem dX5_from_1 : decode cX5_from 1 = .ok (.getfield 25, 3) := by decide +kernel
theorem dX5_from_4 : decode cX5_from 4 = .ok (.iload_n 1, 1) := by decide +kernel
theorem dX5_from_5 : decode cX5_from 5 = .ok (.iaload, 1) := by decide +kernel
theorem dX5_from_6 : decode cX5_from 6 = .ok (.ifCond .le 12, 3) := by decide +kernel
theorem dX5_from_9 : decode cX5_from 9 = .ok (.aload_n 0, 1) := by decide +kernel
theorem dX5_from_10 : decode cX5_from 10 = .ok (.getfield 16, 3) := by decide +kernel
theorem dX5_from_13 : decode cX5_from 13 = .ok (.iload_n 1, 1) := by decide +kernel
theorem dX5_from_14 : decode cX5_from 14 = .ok (.iaload, 1) := by decide +kernel
theorem dX5_from_15 : decode cX5_from 15 = .ok (.goto 16, 3) := by decide +kernel
theorem dX5_from_18 : decode cX5_from 18 = .ok (.aload_n 0, 1) := by decide +kernel
theorem dX5_from_19 : decode cX5_from 19 = .ok (.getfield 16, 3) := by decide +kernel
theorem dX5_from_22 : decode cX5_from 22 = .ok (.iload_n 1, 1) := by decide +kernel
theorem dX5_from_23 : decode cX5_from 23 = .ok (.iaload, 1) := by decide +kernel
theorem dX5_from_24 : decode cX5_from 24 = .ok (.aload_n 0, 1) := by decide +kernel
theorem dX5_from_25 : decode cX5_from 25 = .ok (.getfield 19, 3) := by decide +kernel
theorem dX5_from_28 : decode cX5_from 28 = .ok (.iload_n 1, 1) := by decide +kernel
theorem dX5_from_29 : decode cX5_from 29 = .ok (.iaload, 1) := by decide +kernel
theorem dX5_from_30 : decode cX5_from 30 = .ok (.isub, 1) := by decide +kernel
theorem dX5_from_31 : decode cX5_from 31 = .ok (.ireturn, 1) := by decide +kernel
theorem dX5_to_0 : decode cX5_to 0 = .ok (.aload_n 0, 1) := by decide +kernel
theorem dX5_to_1 : decode cX5_to 1 = .ok (.getfield 25, 3) := by decide +kernel
theorem dX5_to_4 : decode cX5_to 4 = .ok (.iload_n 1, 1) := by decide +kernel
theorem dX5_to_5 : decode cX5_to 5 = .ok (.iaload, 1) := by decide +kernel
theorem dX5_to_6 : decode cX5_to 6 = .ok (.ifCond .le 19, 3) := by decide +kernel
theorem dX5_to_9 : decode cX5_to 9 = .ok (.aload_n 0, 1) := by decide +kernel
theorem dX5_to_10 : decode cX5_to 10 = .ok (.getfield 16, 3) := by decide +kernel
theorem dX5_to_13 : decode cX5_to 13 = .ok (.iload_n 1, 1) := by decide +kernel
theorem dX5_to_14 : decode cX5_to 14 = .ok (.iaload, 1) := by decide +kernel
theorem dX5_to_15 : decode cX5_to 15 = .ok (.aload_n 0, 1) := by decide +kernel
theorem dX5_to_16 : decode cX5_to 16 = .ok (.getfield 19, 3) := by decide +kernel
theorem dX5_to_19 : decode cX5_to 19 = .ok (.iload_n 1, 1) := by decide +kernel
theorem dX5_to_20 : decode cX5_to 20 = .ok (.iaload, 1) := by decide +kernel
theorem dX5_to_21 : decode cX5_to 21 = .ok (.iadd, 1) := by decide +kernel
theorem dX5_to_22 : decode cX5_to 22 = .ok (.goto 9, 3) := by decide +kernel
theorem dX5_to_25 : decode cX5_to 25 = .ok (.aload_n 0, 1) := by decide +kernel
theorem dX5_to_26 : decode cX5_to 26 = .ok (.getfield 16, 3) := by decide +kernel
theorem dX5_to_29 : decode cX5_to 29 = .ok (.iload_n 1, 1) := by decide +kernel
theorem dX5_to_30 : decode cX5_to 30 = .ok (.iaload, 1) := by decide +kernel
theorem dX5_to_31 : decode cX5_to 31 = .ok (.ireturn, 1) := by decide +kernel
set_option maxRecDepth 20000 in
theorem ggX5_isOver_X5_to : GoodIn wsX5_isOver wsX5_to := goodIn_r _ [5, 6, 7, 8, 19, 20, 21, 22, 23, 24, 25, 26, 27, 28, 29, 30, 31, 32, 33, 34, 35, 36, 37, 38, 39, 40] (by decide +kernel) (by decide +kernel)
set_option maxRecDepth 20000 in
theorem gX5_isOver_X5_to : GoodIn wsX5_isOver (wsV RX5 104 RX5 yX5_to wsX5_to) := goodIn_app (goodIn_of _ (by decide +kernel)) ggX5_isOver_X5_to
set_option maxRecDepth 20000 in
theorem ggX5_isOver_X5_lesser : GoodIn wsX5_isOver wsX5_lesser := goodIn_r _ [11] (by decide +kernel) (by decide +kernel)
set_option maxRecDepth 20000 in
theorem gX5_isOver_X5_lesser : GoodIn wsX5_isOver (va_wsS RX5 108 yX5_lesser wsX5_lesser) := goodIn_app (goodIn_of _ (by decide +kernel)) ggX5_isOver_X5_lesser
set_option maxRecDepth 20000 in
theorem ggX5_isOver_X5_from : GoodIn wsX5_isOver wsX5_from := goodIn_r _ [15, 6, 7, 8, 19, 20, 21, 22, 23, 24, 25, 26, 27, 28, 29, 30, 31, 32, 33, 34, 35, 36, 37, 38, 39, 40] (by decide +kernel) (by decide +kernel)
set_option maxRecDepth 20000 in
theorem gX5_isOver_X5_from : GoodIn wsX5_isOver (wsV RX5 112 RX5 yX5_from wsX5_from) := goodIn_app (goodIn_of _ (by decide +kernel)) ggX5_isOver_X5_from
set_option maxRecDepth 20000 in
theorem ggX5_isOver_X5_greater : GoodIn wsX5_isOver wsX5_greater := goodIn_r _ [18] (by decide +kernel) (by decide +kernel)
set_option maxRecDepth 20000 in
theorem gX5_isOver_X5_greater : GoodIn wsX5_isOver (va_wsS RX5 115 yX5_greater wsX5_greater) := goodIn_app (goodIn_of _ (by decide +kernel)) ggX5_isOver_X5_greater
theorem dX5_isOver_0 : decode cX5_isOver 0 = .ok (.iload_n 2, 1) := by decide +kernel
theorem dX5_isOver_1 : decode cX5_isOver 1 = .ok (.iload_n 1, 1) := by decide +kernel
theorem dX5_isOver_2 : decode cX5_isOver 2 = .ok (.if_icmp .le 36, 3) := by decide +kernel
theorem dX5_isOver_5 : decode cX5_isOver 5 = .ok (.aload_n 0, 1) := by decide +kernel
theorem dX5_isOver_6 : decode cX5_isOver 6 = .ok (.iload_n 1, 1) := by decide +kernel
theorem dX5_isOver_7 : decode cX5_isOver 7 = .ok (.invokevirtual 104, 3) := by decide +kernel
theorem dX5_isOver_10 : decode cX5_isOver 10 = .ok (.aload_n 0, 1) := by decide +kernel
theorem dX5_isOver_11 : decode cX5_isOver 11 = .ok (.iload_n 2, 1) := by decide +kernel
theorem dX5_isOver_12 : decode cX5_isOver 12 = .ok (.invokevirtual 104, 3) := by decide +kernel
theorem dX5_isOver_15 : decode cX5_isOver 15 = .ok (.invokestatic 108, 3) := by decide +kernel
theorem dX5_isOver_18 : decode cX5_isOver 18 = .ok (.aload_n 0, 1) := by decide +kernel
theorem dX5_isOver_19 : decode cX5_isOver 19 = .ok (.iload_n 1, 1) := by decide +kernel
theorem dX5_isOver_20 : decode cX5_isOver 20 = .ok (.invokevirtual 112, 3) := by decide +kernel
theorem dX5_isOver_23 : decode cX5_isOver 23 = .ok (.aload_n 0, 1) := by decide +kernel
theorem dX5_isOver_24 : decode cX5_isOver 24 = .ok (.iload_n 2, 1) := by decide +kernel
theorem dX5_isOver_25 : decode cX5_isOver 25 = .ok (.invokevirtual 112, 3) := by decide +kernel
theorem dX5_isOver_28 : decode cX5_isOver 28 = .ok (.invokestatic 115, 3) := by decide +kernel
theorem dX5_isOver_31 : decode cX5_isOver 31 = .ok (.if_icmp .le 7, 3) := by decide +kernel
theorem dX5_isOver_34 : decode cX5_isOver 34 = .ok (.iconst 1, 1) := by decide +kernel
theorem dX5_isOver_35 : decode cX5_isOver 35 = .ok (.goto 4, 3) := by decide +kernel
theorem dX5_isOver_38 : decode cX5_isOver 38 = .ok (.iconst 0, 1) := by decide +kernel
theorem dX5_isOver_39 : decode cX5_isOver 39 = .ok (.ireturn, 1) := by decide +kernel
set_option maxRecDepth 20000 in
theorem ggX5_over_X5_noSpar : GoodIn wsX5_over wsX5_noSpar := goodIn_r _ [5, 6, 7, 8, 4, 9, 31, 32, 33, 34, 35, 36, 37, 38, 39, 40, 41, 42, 43, 44, 45, 46, 47, 48, 49, 50, 51, 52] (by decide +kernel) (by decide +kernel)
set_option maxRecDepth 20000 in
theorem gX5_over_X5_noSpar : GoodIn wsX5_over (wsV RX5 118 RX5 yX5_noSpar wsX5_noSpar) := goodIn_app (goodIn_of _ (by decide +kernel)) ggX5_over_X5_noSpar
set_option maxRecDepth 20000 in
theorem ggX5_over_X5_isOver : GoodIn wsX5_over wsX5_isOver := goodIn_r _ [13, 14, 15, 16, 4, 17, 18, 19, 20, 21, 22, 23, 24, 25, 26, 27, 28, 29, 30, 31, 32, 33, 34, 35, 36, 37, 38, 39, 40, 41, 42, 43, 44, 45, 46, 47, 48, 49, 50, 51, 52] (by decide +kernel) (by decide +kernel)
set_option maxRecDepth 20000 in
theorem gX5_over_X5_isOver : GoodIn wsX5_over (wsV RX5 121 RX5 yX5_isOver wsX5_isOver) := goodIn_app (goodIn_of _ (by decide +kernel)) ggX5_over_X5_isOver
theorem dX5_over_0 : decode cX5_over 0 = .ok (.aload_n 0, 1) := by decide +kernel
theorem dX5_over_1 : decode cX5_over 1 = .ok (.iload_n 1, 1) := by decide +kernel
theorem dX5_over_2 : decode cX5_over 2 = .ok (.invokevirtual 118, 3) := by decide +kernel
theorem dX5_over_5 : decode cX5_over 5 = .ok (.ifCond .ne 11, 3) := by decide +kernel
theorem dX5_over_8 : decode cX5_over 8 = .ok (.aload_n 0, 1) := by decide +kernel
theorem dX5_over_9 : decode cX5_over 9 = .ok (.iload_n 2, 1) := by decide +kernel
theorem dX5_over_10 : decode cX5_over 10 = .ok (.invokevirtual 118, 3) := by decide +kernel
theorem dX5_over_13 : decode cX5_over 13 = .ok (.ifCond .eq 7, 3) := by decide +kernel
theorem dX5_over_16 : decode cX5_over 16 = .ok (.iconst (-1), 1) := by decide +kernel
theorem dX5_over_17 : decode cX5_over 17 = .ok (.goto 17, 3) := by decide +kernel
theorem dX5_over_20 : decode cX5_over 20 = .ok (.aload_n 0, 1) := by decide +kernel
theorem dX5_over_21 : decode cX5_over 21 = .ok (.iload_n 1, 1) := by decide +kernel
theorem dX5_over_22 : decode cX5_over 22 = .ok (.iload_n 2, 1) := by decide +kernel
theorem dX5_over_23 : decode cX5_over 23 = .ok (.invokevirtual 121, 3) := by decide +kernel
theorem dX5_over_26 : decode cX5_over 26 = .ok (.ifCond .eq 7, 3) := by decide +kernel
theorem dX5_over_29 : decode cX5_over 29 = .ok (.iconst 1, 1) := by decide +kernel
theorem dX5_over_30 : decode cX5_over 30 = .ok (.goto 4, 3) := by decide +kernel
theorem dX5_over_33 : decode cX5_over 33 = .ok (.iconst 0, 1) := by decide +kernel
theorem dX5_over_34 : decode cX5_over 34 = .ok (.ireturn, 1) := by decide +kernel
set_option maxRecDepth 20000 in
theorem ggX5_stackAt_X5_isUp : GoodIn wsX5_stackAt wsX5_isUp := goodIn_r _ [9] (by decide +kernel) (by decide +kernel)
set_option maxRecDepth 20000 in
theorem gX5_stackAt_X5_isUp : GoodIn wsX5_stackAt (wsV RX5 128 RX5 yX5_isUp wsX5_isUp) := goodIn_app (goodIn_of _ (by decide +kernel)) ggX5_stackAt_X5_isUp
set_option maxRecDepth 20000 in
theorem ggX5_stackAt_X5_from : GoodIn wsX5_stackAt wsX5_from := goodIn_r _ [13, 14, 15, 16, 21, 22, 23, 24, 25, 26, 27, 28, 29, 30, 31, 32, 33, 34, 35, 36, 37, 38, 39, 40, 41, 42] (by decide +kernel) (by decide +kernel)
set_option maxRecDepth 20000 in
theorem gX5_stackAt_X5_from : GoodIn wsX5_stackAt (wsV RX5 112 RX5 yX5_from wsX5_from) := goodIn_app (goodIn_of _ (by decide +kernel)) ggX5_stackAt_X5_from
set_option maxRecDepth 20000 in
theorem ggX5_stackAt_X5_to : GoodIn wsX5_stackAt wsX5_to := goodIn_r _ [20, 14, 15, 16, 21, 22, 23, 24, 25, 26, 27, 28, 29, 30, 31, 32, 33, 34, 35, 36, 37, 38, 39, 40, 41, 42] (by decide +kernel) (by decide +kernel)
set_option maxRecDepth 20000 in
theorem gX5_stackAt_X5_to : GoodIn wsX5_stackAt (wsV RX5 104 RX5 yX5_to wsX5_to) := goodIn_app (goodIn_of _ (by decide +kernel)) ggX5_stackAt_X5_to
theorem dX5_stackAt_0 : decode cX5_stackAt 0 = .ok (.aload_n 0, 1) := by decide +kernel
theorem dX5_stackAt_1 : decode cX5_stackAt 1 = .ok (.getfield 7, 3) := by decide +kernel
theorem dX5_stackAt_4 : decode cX5_stackAt 4 = .ok (.iconst 2, 1) := by decide +kernel
theorem dX5_stackAt_5 : decode cX5_stackAt 5 = .ok (.iaload, 1) := by decide +kernel
theorem dX5_stackAt_6 : decode cX5_stackAt 6 = .ok (.istore_n 2, 1) := by decide +kernel
theorem dX5_stackAt_7 : decode cX5_stackAt 7 = .ok (.iconst 0, 1) := by decide +kernel
theorem dX5_stackAt_8 : decode cX5_stackAt 8 = .ok (.istore_n 3, 1) := by decide +kernel
theorem dX5_stackAt_9 : decode cX5_stackAt 9 = .ok (.iload_n 3, 1) := by decide +kernel
theorem dX5_stackAt_10 : decode cX5_stackAt 10 = .ok (.aload_n 0, 1) := by decide +kernel
theorem dX5_stackAt_11 : decode cX5_stackAt 11 = .ok (.getfield 72, 3) := by decide +kernel
theorem dX5_stackAt_14 : decode cX5_stackAt 14 = .ok (.if_icmp .ge 52, 3) := by decide +kernel
theorem dX5_stackAt_17 : decode cX5_stackAt 17 = .ok (.iload_n 2, 1) := by decide +kernel
theorem dX5_stackAt_18 : decode cX5_stackAt 18 = .ok (.aload_n 0, 1) := by decide +kernel
theorem dX5_stackAt_19 : decode cX5_stackAt 19 = .ok (.aload_n 0, 1) := by decide +kernel
theorem dX5_stackAt_20 : decode cX5_stackAt 20 = .ok (.getfield 125, 3) := by decide +kernel
theorem dX5_stackAt_23 : decode cX5_stackAt 23 = .ok (.iload_n 3, 1) := by decide +kernel
theorem dX5_stackAt_24 : decode cX5_stackAt 24 = .ok (.invokevirtual 128, 3) := by decide +kernel
theorem dX5_stackAt_27 : decode cX5_stackAt 27 = .ok (.ifCond .ne 30, 3) := by decide +kernel
theorem dX5_stackAt_30 : decode cX5_stackAt 30 = .ok (.aload_n 0, 1) := by decide +kernel
theorem dX5_stackAt_31 : decode cX5_stackAt 31 = .ok (.iload_n 3, 1) := by decide +kernel
theorem dX5_stackAt_32 : decode cX5_stackAt 32 = .ok (.invokevirtual 112, 3) := by decide +kernel
theorem dX5_stackAt_35 : decode cX5_stackAt 35 = .ok (.iload_n 1, 1) := by decide +kernel
theorem dX5_stackAt_36 : decode cX5_stackAt 36 = .ok (.if_icmp .gt 21, 3) := by decide +kernel
theorem dX5_stackAt_39 : decode cX5_stackAt 39 = .ok (.iload_n 1, 1) := by decide +kernel
theorem dX5_stackAt_40 : decode cX5_stackAt 40 = .ok (.aload_n 0, 1) := by decide +kernel
theorem dX5_stackAt_41 : decode cX5_stackAt 41 = .ok (.iload_n 3, 1) := by decide +kernel
theorem dX5_stackAt_42 : decode cX5_stackAt 42 = .ok (.invokevirtual 104, 3) := by decide +kernel
theorem dX5_stackAt_45 : decode cX5_stackAt 45 = .ok (.if_icmp .ge 12, 3) := by decide +kernel
theorem dX5_stackAt_48 : decode cX5_stackAt 48 = .ok (.aload_n 0, 1) := by decide +kernel
theorem dX5_stackAt_49 : decode cX5_stackAt 49 = .ok (.getfield 22, 3) := by decide +kernel
theorem dX5_stackAt_52 : decode cX5_stackAt 52 = .ok (.iload_n 3, 1) := by decide +kernel
theorem dX5_stackAt_53 : decode cX5_stackAt 53 = .ok (.iaload, 1) := by decide +kernel
theorem dX5_stackAt_54 : decode cX5_stackAt 54 = .ok (.goto 4, 3) := by decide +kernel
theorem dX5_stackAt_57 : decode cX5_stackAt 57 = .ok (.iconst 0, 1) := by decide +kernel
theorem dX5_stackAt_58 : decode cX5_stackAt 58 = .ok (.iadd, 1) := by decide +kernel
theorem dX5_stackAt_59 : decode cX5_stackAt 59 = .ok (.istore_n 2, 1) := by decide +kernel
theorem dX5_stackAt_60 : decode cX5_stackAt 60 = .ok (.iinc 3 1, 3) := by decide +kernel
theorem dX5_stackAt_63 : decode cX5_stackAt 63 = .ok (.goto (-54), 3) := by decide +kernel
theorem dX5_stackAt_66 : decode cX5_stackAt 66 = .ok (.iload_n 2, 1) := by decide +kernel
theorem dX5_stackAt_67 : decode cX5_stackAt 67 = .ok (.ireturn, 1) := by decide +kernel
set_option maxRecDepth 20000 in
theorem ggX5_stack_X5_in : GoodIn wsX5_stack wsX5_in := goodIn_r _ [6] (by decide +kernel) (by decide +kernel)
set_option maxRecDepth 20000 in
theorem gX5_stack_X5_in : GoodIn wsX5_stack (va_wsS RX5 75 yX5_in wsX5_in) := goodIn_app (goodIn_of _ (by decide +kernel)) ggX5_stack_X5_in
set_option maxRecDepth 20000 in
theorem ggX5_stack_X5_stackAt : GoodIn wsX5_stack wsX5_stackAt := goodIn_r _ [10, 11, 12, 13, 14, 15, 16, 17, 5, 18, 19, 20, 21, 22, 23, 24, 25, 26, 27, 28, 29, 30, 31, 32, 33, 34, 35, 36, 37, 38, 39, 40, 41, 42, 43, 44, 45, 46, 47, 48, 49, 50, 51] (by decide +kernel) (by decide +kernel)
set_option maxRecDepth 20000 in
theorem gX5_stack_X5_stackAt : GoodIn wsX5_stack (wsV RX5 135 RX5 yX5_stackAt wsX5_stackAt) := goodIn_app (goodIn_of _ (by decide +kernel)) ggX5_stack_X5_stackAt
theorem dX5_stack_0 : decode cX5_stack 0 = .ok (.iload_n 1, 1) := by decide +kernel
theorem dX5_stack_1 : decode cX5_stack 1 = .ok (.i2l, 1) := by decide +kernel
theorem dX5_stack_2 : decode cX5_stack 2 = .ok (.ldc2_w 131, 3) := by decide +kernel
theorem dX5_stack_5 : decode cX5_stack 5 = .ok (.ldc2_w 133, 3) := by decide +kernel
theorem dX5_stack_8 : decode cX5_stack 8 = .ok (.invokestatic 75, 3) := by decide +kernel
theorem dX5_stack_11 : decode cX5_stack 11 = .ok (.ifCond .eq 11, 3) := by decide +kernel
theorem dX5_stack_14 : decode cX5_stack 14 = .ok (.aload_n 0, 1) := by decide +kernel
theorem dX5_stack_15 : decode cX5_stack 15 = .ok (.iload_n 1, 1) := by decide +kernel
theorem dX5_stack_16 : decode cX5_stack 16 = .ok (.invokevirtual 135, 3) := by decide +kernel
theorem dX5_stack_19 : decode cX5_stack 19 = .ok (.goto 5, 3) := by decide +kernel
theorem dX5_stack_22 : decode cX5_stack 22 = .ok (.bipush (-2), 2) := by decide +kernel
theorem dX5_stack_24 : decode cX5_stack 24 = .ok (.ireturn, 1) := by decide +kernel
set_option maxRecDepth 20000 in
theorem ggX5_fits_X5_stackAt : GoodIn wsX5_fits wsX5_stackAt := goodIn_r _ [6, 1, 7, 8, 9, 10, 11, 12, 5, 13, 14, 15, 16, 17, 18, 19, 20, 21, 22, 23, 24, 28, 29, 30, 31, 32, 33, 34, 35, 36, 37, 38, 39, 40, 41, 42, 43, 44, 45, 46, 47, 48, 49] (by decide +kernel) (by decide +kernel)
set_option maxRecDepth 20000 in
theorem gX5_fits_X5_stackAt : GoodIn wsX5_fits (wsV RX5 135 RX5 yX5_stackAt wsX5_stackAt) := goodIn_app (goodIn_of _ (by decide +kernel)) ggX5_fits_X5_stackAt
set_option maxRecDepth 20000 in
theorem ggX5_fits_X5_greater : GoodIn wsX5_fits wsX5_greater := goodIn_r _ [27] (by decide +kernel) (by decide +kernel)
set_option maxRecDepth 20000 in
theorem gX5_fits_X5_greater : GoodIn wsX5_fits (va_wsS RX5 115 yX5_greater wsX5_greater) := goodIn_app (goodIn_of _ (by decide +kernel)) ggX5_fits_X5_greater
theorem dX5_fits_0 : decode cX5_fits 0 = .ok (.iconst 0, 1) := by decide +kernel
theorem dX5_fits_1 : decode cX5_fits 1 = .ok (.istore_n 2, 1) := by decide +kernel
theorem dX5_fits_2 : decode cX5_fits 2 = .ok (.bipush (-100), 2) := by decide +kernel
theorem dX5_fits_4 : decode cX5_fits 4 = .ok (.istore_n 3, 1) := by decide +kernel
theorem dX5_fits_5 : decode cX5_fits 5 = .ok (.iload_n 3, 1) := by decide +kernel
theorem dX5_fits_6 : decode cX5_fits 6 = .ok (.sipush 200, 3) := by decide +kernel
theorem dX5_fits_9 : decode cX5_fits 9 = .ok (.if_icmp .gt 19, 3) := by decide +kernel
theorem dX5_fits_12 : decode cX5_fits 12 = .ok (.iload_n 2, 1) := by decide +kernel
theorem dX5_fits_13 : decode cX5_fits 13 = .ok (.aload_n 0, 1) := by decide +kernel
theorem dX5_fits_14 : decode cX5_fits 14 = .ok (.iload_n 3, 1) := by decide +kernel
theorem dX5_fits_15 : decode cX5_fits 15 = .ok (.invokevirtual 135, 3) := by decide +kernel
theorem dX5_fits_18 : decode cX5_fits 18 = .ok (.invokestatic 115, 3) := by decide +kernel
theorem dX5_fits_21 : decode cX5_fits 21 = .ok (.istore_n 2, 1) := by decide +kernel
theorem dX5_fits_22 : decode cX5_fits 22 = .ok (.iinc 3 1, 3) := by decide +kernel
theorem dX5_fits_25 : decode cX5_fits 25 = .ok (.goto (-20), 3) := by decide +kernel
theorem dX5_fits_28 : decode cX5_fits 28 = .ok (.iload_n 1, 1) := by decide +kernel
theorem dX5_fits_29 : decode cX5_fits 29 = .ok (.tableswitch 83 0 2 #[27, 58, 60], 27) := by decide +kernel
theorem dX5_fits_56 : decode cX5_fits 56 = .ok (.iload_n 2, 1) := by decide +kernel
theorem dX5_fits_57 : decode cX5_fits 57 = .ok (.aload_n 0, 1) := by decide +kernel
theorem dX5_fits_58 : decode cX5_fits 58 = .ok (.getfield 7, 3) := by decide +kernel
theorem dX5_fits_61 : decode cX5_fits 61 = .ok (.iconst 4, 1) := by decide +kernel
theorem dX5_fits_62 : decode cX5_fits 62 = .ok (.iaload, 1) := by decide +kernel
theorem dX5_fits_63 : decode cX5_fits 63 = .ok (.if_icmp .gt 22, 3) := by decide +kernel
theorem dX5_fits_66 : decode cX5_fits 66 = .ok (.aload_n 0, 1) := by decide +kernel
theorem dX5_fits_67 : decode cX5_fits 67 = .ok (.getfield 7, 3) := by decide +kernel
theorem dX5_fits_70 : decode cX5_fits 70 = .ok (.iconst 1, 1) := by decide +kernel
theorem dX5_fits_71 : decode cX5_fits 71 = .ok (.iaload, 1) := by decide +kernel
theorem dX5_fits_72 : decode cX5_fits 72 = .ok (.aload_n 0, 1) := by decide +kernel
theorem dX5_fits_73 : decode cX5_fits 73 = .ok (.getfield 7, 3) := by decide +kernel
theorem dX5_fits_76 : decode cX5_fits 76 = .ok (.iconst 3, 1) := by decide +kernel
theorem dX5_fits_77 : decode cX5_fits 77 = .ok (.iaload, 1) := by decide +kernel
theorem dX5_fits_78 : decode cX5_fits 78 = .ok (.if_icmp .gt 7, 3) := by decide +kernel
theorem dX5_fits_81 : decode cX5_fits 81 = .ok (.iconst 1, 1) := by decide +kernel
theorem dX5_fits_82 : decode cX5_fits 82 = .ok (.goto 4, 3) := by decide +kernel
theorem dX5_fits_85 : decode cX5_fits 85 = .ok (.iconst 0, 1) := by decide +kernel
theorem dX5_fits_86 : decode cX5_fits 86 = .ok (.ireturn, 1) := by decide +kernel
theorem dX5_fits_87 : decode cX5_fits 87 = .ok (.iload_n 2, 1) := by decide +kernel
theorem dX5_fits_88 : decode cX5_fits 88 = .ok (.ireturn, 1) := by decide +kernel
theorem dX5_fits_89 : decode cX5_fits 89 = .ok (.aload_n 0, 1) := by decide +kernel
theorem dX5_fits_90 : decode cX5_fits 90 = .ok (.getfield 7, 3) := by decide +kernel
theorem dX5_fits_93 : decode cX5_fits 93 = .ok (.iconst 1, 1) := by decide +kernel
theorem dX5_fits_94 : decode cX5_fits 94 = .ok (.iaload, 1) := by decide +kernel
theorem dX5_fits_95 : decode cX5_fits 95 = .ok (.aload_n 0, 1) := by decide +kernel
theorem dX5_fits_96 : decode cX5_fits 96 = .ok (.getfield 7, 3) := by decide +kernel
theorem dX5_fits_99 : decode cX5_fits 99 = .ok (.iconst 3, 1) := by decide +kernel
theorem dX5_fits_100 : decode cX5_fits 100 = .ok (.iaload, 1) := by decide +kernel
theorem dX5_fits_101 : decode cX5_fits 101 = .ok (.iadd, 1) := by decide +kernel
theorem dX5_fits_102 : decode cX5_fits 102 = .ok (.iconst 1, 1) := by decide +kernel
theorem dX5_fits_103 : decode cX5_fits 103 = .ok (.isub, 1) := by decide +kernel
theorem dX5_fits_104 : decode cX5_fits 104 = .ok (.aload_n 0, 1) := by decide +kernel
theorem dX5_fits_105 : decode cX5_fits 105 = .ok (.getfield 7, 3) := by decide +kernel
theorem dX5_fits_108 : decode cX5_fits 108 = .ok (.iconst 3, 1) := by decide +kernel
theorem dX5_fits_109 : decode cX5_fits 109 = .ok (.iaload, 1) := by decide +kernel
theorem dX5_fits_110 : decode cX5_fits 110 = .ok (.idiv, 1) := by decide +kernel
theorem dX5_fits_111 : decode cX5_fits 111 = .ok (.ireturn, 1) := by decide +kernel
theorem dX5_fits_112 : decode cX5_fits 112 = .ok (.bipush (-2), 2) := by decide +kernel
theorem dX5_fits_114 : decode cX5_fits 114 = .ok (.ireturn, 1) := by decide +kernel
set_option maxRecDepth 20000 in
theorem ggX5_noThread_X5_in : GoodIn wsX5_noThread wsX5_in := goodIn_r _ [5] (by decide +kernel) (by decide +kernel)
set_option maxRecDepth 20000 in
theorem gX5_noThread_X5_in : GoodIn wsX5_noThread (va_wsS RX5 75 yX5_in wsX5_in) := goodIn_app (goodIn_of _ (by decide +kernel)) ggX5_noThread_X5_in
theorem dX5_noThread_0 : decode cX5_noThread 0 = .ok (.iload_n 1, 1) := by decide +kernel
theorem dX5_noThread_1 : decode cX5_noThread 1 = .ok (.i2l, 1) := by decide +kernel
theorem dX5_noThread_2 : decode cX5_noThread 2 = .ok (.lconst 0, 1) := by decide +kernel
theorem dX5_noThread_3 : decode cX5_noThread 3 = .ok (.aload_n 0, 1) := by decide +kernel
theorem dX5_noThread_4 : decode cX5_noThread 4 = .ok (.getfield 79, 3) := by decide +kernel
theorem dX5_noThread_7 : decode cX5_noThread 7 = .ok (.i2l, 1) := by decide +kernel
theorem dX5_noThread_8 : decode cX5_noThread 8 = .ok (.lconst 1, 1) := by decide +kernel
theorem dX5_noThread_9 : decode cX5_noThread 9 = .ok (.lsub, 1) := by decide +kernel
theorem dX5_noThread_10 : decode cX5_noThread 10 = .ok (.invokestatic 75, 3) := by decide +kernel
theorem dX5_noThread_13 : decode cX5_noThread 13 = .ok (.ifCond .ne 7, 3) := by decide +kernel
theorem dX5_noThread_16 : decode cX5_noThread 16 = .ok (.iconst 1, 1) := by decide +kernel
theorem dX5_noThread_17 : decode cX5_noThread 17 = .ok (.goto 4, 3) := by decide +kernel
theorem dX5_noThread_20 : decode cX5_noThread 20 = .ok (.iconst 0, 1) := by decide +kernel
theorem dX5_noThread_21 : decode cX5_noThread 21 = .ok (.ireturn, 1) := by decide +kernel
set_option maxRecDepth 20000 in
theorem ggX5_thread_X5_noSpar : GoodIn wsX5_thread wsX5_noSpar := goodIn_r _ [14, 15, 16, 17, 13, 18, 19, 20, 21, 22, 23, 24, 25, 26, 27, 28, 29, 30, 31, 32, 33, 34, 35, 36, 37, 38, 39, 40] (by decide +kernel) (by decide +kernel)
set_option maxRecDepth 20000 in
theorem gX5_thread_X5_noSpar : GoodIn wsX5_thread (wsV RX5 118 RX5 yX5_noSpar wsX5_noSpar) := goodIn_app (goodIn_of _ (by decide +kernel)) ggX5_thread_X5_noSpar
set_option maxRecDepth 20000 in
theorem ggX5_thread_X5_in : GoodIn wsX5_thread wsX5_in := goodIn_r _ [18] (by decide +kernel) (by decide +kernel)
set_option maxRecDepth 20000 in
theorem gX5_thread_X5_in : GoodIn wsX5_thread (va_wsS RX5 75 yX5_in wsX5_in) := goodIn_app (goodIn_of _ (by decide +kernel)) ggX5_thread_X5_in
theorem dX5_thread_0 : decode cX5_thread 0 = .ok (.aload_n 0, 1) := by decide +kernel
theorem dX5_thread_1 : decode cX5_thread 1 = .ok (.iload_n 2, 1) := by decide +kernel
theorem dX5_thread_2 : decode cX5_thread 2 = .ok (.invokevirtual 118, 3) := by decide +kernel
theorem dX5_thread_5 : decode cX5_thread 5 = .ok (.ifCond .eq 5, 3) := by decide +kernel
theorem dX5_thread_8 : decode cX5_thread 8 = .ok (.iconst (-1), 1) := by decide +kernel
theorem dX5_thread_9 : decode cX5_thread 9 = .ok (.ireturn, 1) := by decide +kernel
theorem dX5_thread_10 : decode cX5_thread 10 = .ok (.iload_n 1, 1) := by decide +kernel
theorem dX5_thread_11 : decode cX5_thread 11 = .ok (.i2l, 1) := by decide +kernel
theorem dX5_thread_12 : decode cX5_thread 12 = .ok (.ldc2_w 138, 3) := by decide +kernel
theorem dX5_thread_15 : decode cX5_thread 15 = .ok (.aload_n 0, 1) := by decide +kernel
theorem dX5_thread_16 : decode cX5_thread 16 = .ok (.getfield 7, 3) := by decide +kernel
theorem dX5_thread_19 : decode cX5_thread 19 = .ok (.iconst 0, 1) := by decide +kernel
theorem dX5_thread_20 : decode cX5_thread 20 = .ok (.iaload, 1) := by decide +kernel
theorem dX5_thread_21 : decode cX5_thread 21 = .ok (.i2l, 1) := by decide +kernel
theorem dX5_thread_22 : decode cX5_thread 22 = .ok (.ldc2_w 140, 3) := by decide +kernel
theorem dX5_thread_25 : decode cX5_thread 25 = .ok (.ladd, 1) := by decide +kernel
theorem dX5_thread_26 : decode cX5_thread 26 = .ok (.invokestatic 75, 3) := by decide +kernel
theorem dX5_thread_29 : decode cX5_thread 29 = .ok (.ifCond .eq 19, 3) := by decide +kernel
theorem dX5_thread_32 : decode cX5_thread 32 = .ok (.iload_n 3, 1) := by decide +kernel
theorem dX5_thread_33 : decode cX5_thread 33 = .ok (.i2l, 1) := by decide +kernel
theorem dX5_thread_34 : decode cX5_thread 34 = .ok (.lconst 1, 1) := by decide +kernel
theorem dX5_thread_35 : decode cX5_thread 35 = .ok (.aload_n 0, 1) := by decide +kernel
theorem dX5_thread_36 : decode cX5_thread 36 = .ok (.getfield 19, 3) := by decide +kernel
theorem dX5_thread_39 : decode cX5_thread 39 = .ok (.iload_n 2, 1) := by decide +kernel
theorem dX5_thread_40 : decode cX5_thread 40 = .ok (.iaload, 1) := by decide +kernel
theorem dX5_thread_41 : decode cX5_thread 41 = .ok (.i2l, 1) := by decide +kernel
theorem dX5_thread_42 : decode cX5_thread 42 = .ok (.invokestatic 75, 3) := by decide +kernel
theorem dX5_thread_45 : decode cX5_thread 45 = .ok (.ifCond .ne 6, 3) := by decide +kernel
theorem dX5_thread_48 : decode cX5_thread 48 = .ok (.bipush (-2), 2) := by decide +kernel
theorem dX5_thread_50 : decode cX5_thread 50 = .ok (.ireturn, 1) := by decide +kernel
theorem dX5_thread_51 : decode cX5_thread 51 = .ok (.aload_n 0, 1) := by decide +kernel
theorem dX5_thread_52 : decode cX5_thread 52 = .ok (.getfield 79, 3) := by decide +kernel
theorem dX5_thread_55 : decode cX5_thread 55 = .ok (.bipush 16, 2) := by decide +kernel
theorem dX5_thread_57 : decode cX5_thread 57 = .ok (.if_icmp .ne 6, 3) := by decide +kernel
theorem dX5_thread_60 : decode cX5_thread 60 = .ok (.bipush (-4), 2) := by decide +kernel
theorem dX5_thread_62 : decode cX5_thread 62 = .ok (.ireturn, 1) := by decide +kernel
theorem dX5_thread_63 : decode cX5_thread 63 = .ok (.aload_n 0, 1) := by decide +kernel
theorem dX5_thread_64 : decode cX5_thread 64 = .ok (.getfield 28, 3) := by decide +kernel
theorem dX5_thread_67 : decode cX5_thread 67 = .ok (.aload_n 0, 1) := by decide +kernel
theorem dX5_thread_68 : decode cX5_thread 68 = .ok (.getfield 79, 3) := by decide +kernel
theorem dX5_thread_71 : decode cX5_thread 71 = .ok (.iload_n 1, 1) := by decide +kernel
theorem dX5_thread_72 : decode cX5_thread 72 = .ok (.iastore, 1) := by decide +kernel
theorem dX5_thread_73 : decode cX5_thread 73 = .ok (.aload_n 0, 1) := by decide +kernel
theorem dX5_thread_74 : decode cX5_thread 74 = .ok (.getfield 31, 3) := by decide +kernel
theorem dX5_thread_77 : decode cX5_thread 77 = .ok (.aload_n 0, 1) := by decide +kernel
theorem dX5_thread_78 : decode cX5_thread 78 = .ok (.getfield 79, 3) := by decide +kernel
theorem dX5_thread_81 : decode cX5_thread 81 = .ok (.iload_n 2, 1) := by decide +kernel
theorem dX5_thread_82 : decode cX5_thread 82 = .ok (.iastore, 1) := by decide +kernel
theorem dX5_thread_83 : decode cX5_thread 83 = .ok (.aload_n 0, 1) := by decide +kernel
theorem dX5_thread_84 : decode cX5_thread 84 = .ok (.getfield 34, 3) := by decide +kernel
theorem dX5_thread_87 : decode cX5_thread 87 = .ok (.aload_n 0, 1) := by decide +kernel
theorem dX5_thread_88 : decode cX5_thread 88 = .ok (.getfield 79, 3) := by decide +kernel
theorem dX5_thread_91 : decode cX5_thread 91 = .ok (.iload_n 3, 1) := by decide +kernel
theorem dX5_thread_92 : decode cX5_thread 92 = .ok (.iastore, 1) := by decide +kernel
theorem dX5_thread_93 : decode cX5_thread 93 = .ok (.aload_n 0, 1) := by decide +kernel
theorem dX5_thread_94 : decode cX5_thread 94 = .ok (.getfield 37, 3) := by decide +kernel
theorem dX5_thread_97 : decode cX5_thread 97 = .ok (.aload_n 0, 1) := by decide +kernel
theorem dX5_thread_98 : decode cX5_thread 98 = .ok (.getfield 79, 3) := by decide +kernel
theorem dX5_thread_101 : decode cX5_thread 101 = .ok (.iconst 0, 1) := by decide +kernel
theorem dX5_thread_102 : decode cX5_thread 102 = .ok (.bastore, 1) := by decide +kernel
theorem dX5_thread_103 : decode cX5_thread 103 = .ok (.aload_n 0, 1) := by decide +kernel
theorem dX5_thread_104 : decode cX5_thread 104 = .ok (.dup, 1) := by decide +kernel
theorem dX5_thread_105 : decode cX5_thread 105 = .ok (.getfield 79, 3) := by decide +kernel
theorem dX5_thread_108 : decode cX5_thread 108 = .ok (.iconst 1, 1) := by decide +kernel
theorem dX5_thread_109 : decode cX5_thread 109 = .ok (.iadd, 1) := by decide +kernel
theorem dX5_thread_110 : decode cX5_thread 110 = .ok (.putfield 79, 3) := by decide +kernel
theorem dX5_thread_113 : decode cX5_thread 113 = .ok (.aload_n 0, 1) := by decide +kernel
theorem dX5_thread_114 : decode cX5_thread 114 = .ok (.getfield 79, 3) := by decide +kernel
theorem dX5_thread_117 : decode cX5_thread 117 = .ok (.iconst 1, 1) := by decide +kernel
theorem dX5_thread_118 : decode cX5_thread 118 = .ok (.isub, 1) := by decide +kernel
theorem dX5_thread_119 : decode cX5_thread 119 = .ok (.ireturn, 1) := by decide +kernel
set_option maxRecDepth 20000 in
theorem ggX5_cut_X5_noThread : GoodIn wsX5_cut wsX5_noThread := goodIn_r _ [6, 7, 8, 9, 5, 10, 11, 12, 13, 14, 15, 16, 17, 18, 19, 20, 21, 22, 23, 24, 25, 26, 27, 28, 29, 30, 31, 32] (by decide +kernel) (by decide +kernel)
set_option maxRecDepth 20000 in
theorem gX5_cut_X5_noThread : GoodIn wsX5_cut (wsV RX5 142 RX5 yX5_noThread wsX5_noThread) := goodIn_app (goodIn_of _ (by decide +kernel)) ggX5_cut_X5_noThread
theorem dX5_cut_0 : decode cX5_cut 0 = .ok (.aload_n 0, 1) := by decide +kernel
theorem dX5_cut_1 : decode cX5_cut 1 = .ok (.iload_n 1, 1) := by decide +kernel
theorem dX5_cut_2 : decode cX5_cut 2 = .ok (.invokevirtual 142, 3) := by decide +kernel
theorem dX5_cut_5 : decode cX5_cut 5 = .ok (.ifCond .eq 5, 3) := by decide +kernel
theorem dX5_cut_8 : decode cX5_cut 8 = .ok (.iconst (-1), 1) := by decide +kernel
theorem dX5_cut_9 : decode cX5_cut 9 = .ok (.ireturn, 1) := by decide +kernel
theorem dX5_cut_10 : decode cX5_cut 10 = .ok (.aload_n 0, 1) := by decide +kernel
theorem dX5_cut_11 : decode cX5_cut 11 = .ok (.getfield 37, 3) := by decide +kernel
theorem dX5_cut_14 : decode cX5_cut 14 = .ok (.iload_n 1, 1) := by decide +kernel
theorem dX5_cut_15 : decode cX5_cut 15 = .ok (.baload, 1) := by decide +kernel
theorem dX5_cut_16 : decode cX5_cut 16 = .ok (.ifCond .eq 7, 3) := by decide +kernel
theorem dX5_cut_19 : decode cX5_cut 19 = .ok (.iconst 0, 1) := by decide +kernel
theorem dX5_cut_20 : decode cX5_cut 20 = .ok (.goto 4, 3) := by decide +kernel
theorem dX5_cut_23 : decode cX5_cut 23 = .ok (.iconst 1, 1) := by decide +kernel
theorem dX5_cut_24 : decode cX5_cut 24 = .ok (.istore_n 2, 1) := by decide +kernel
theorem dX5_cut_25 : decode cX5_cut 25 = .ok (.aload_n 0, 1) := by decide +kernel
theorem dX5_cut_26 : decode cX5_cut 26 = .ok (.getfield 37, 3) := by decide +kernel
theorem dX5_cut_29 : decode cX5_cut 29 = .ok (.iload_n 1, 1) := by decide +kernel
theorem dX5_cut_30 : decode cX5_cut 30 = .ok (.iconst 1, 1) := by decide +kernel
theorem dX5_cut_31 : decode cX5_cut 31 = .ok (.bastore, 1) := by decide +kernel
theorem dX5_cut_32 : decode cX5_cut 32 = .ok (.iload_n 2, 1) := by decide +kernel
theorem dX5_cut_33 : decode cX5_cut 33 = .ok (.ireturn, 1) := by decide +kernel
theorem dX5_raises_0 : decode cX5_raises 0 = .ok (.aload_n 0, 1) := by decide +kernel
theorem dX5_raises_1 : decode cX5_raises 1 = .ok (.getfield 31, 3) := by decide +kernel
theorem dX5_raises_4 : decode cX5_raises 4 = .ok (.iload_n 1, 1) := by decide +kernel
theorem dX5_raises_5 : decode cX5_raises 5 = .ok (.iaload, 1) := by decide +kernel
theorem dX5_raises_6 : decode cX5_raises 6 = .ok (.istore_n 2, 1) := by decide +kernel
theorem dX5_raises_7 : decode cX5_raises 7 = .ok (.aload_n 0, 1) := by decide +kernel
theorem dX5_raises_8 : decode cX5_raises 8 = .ok (.getfield 37, 3) := by decide +kernel
theorem dX5_raises_11 : decode cX5_raises 11 = .ok (.iload_n 1, 1) := by decide +kernel
theorem dX5_raises_12 : decode cX5_raises 12 = .ok (.baload, 1) := by decide +kernel
theorem dX5_raises_13 : decode cX5_raises 13 = .ok (.ifCond .ne 30, 3) := by decide +kernel
theorem dX5_raises_16 : decode cX5_raises 16 = .ok (.aload_n 0, 1) := by decide +kernel
theorem dX5_raises_17 : decode cX5_raises 17 = .ok (.getfield 28, 3) := by decide +kernel
theorem dX5_raises_20 : decode cX5_raises 20 = .ok (.iload_n 1, 1) := by decide +kernel
theorem dX5_raises_21 : decode cX5_raises 21 = .ok (.iaload, 1) := by decide +kernel
theorem dX5_raises_22 : decode cX5_raises 22 = .ok (.aload_n 0, 1) := by decide +kernel
theorem dX5_raises_23 : decode cX5_raises 23 = .ok (.getfield 16, 3) := by decide +kernel
theorem dX5_raises_26 : decode cX5_raises 26 = .ok (.iload_n 2, 1) := by decide +kernel
theorem dX5_raises_27 : decode cX5_raises 27 = .ok (.iaload, 1) := by decide +kernel
theorem dX5_raises_28 : decode cX5_raises 28 = .ok (.isub, 1) := by decide +kernel
theorem dX5_raises_29 : decode cX5_raises 29 = .ok (.aload_n 0, 1) := by decide +kernel
theorem dX5_raises_30 : decode cX5_raises 30 = .ok (.getfield 25, 3) := by decide +kernel
theorem dX5_raises_33 : decode cX5_raises 33 = .ok (.iload_n 2, 1) := by decide +kernel
theorem dX5_raises_34 : decode cX5_raises 34 = .ok (.iaload, 1) := by decide +kernel
theorem dX5_raises_35 : decode cX5_raises 35 = .ok (.imul, 1) := by decide +kernel
theorem dX5_raises_36 : decode cX5_raises 36 = .ok (.ifCond .ge 7, 3) := by decide +kernel
theorem dX5_raises_39 : decode cX5_raises 39 = .ok (.iconst 1, 1) := by decide +kernel
theorem dX5_raises_40 : decode cX5_raises 40 = .ok (.goto 4, 3) := by decide +kernel
theorem dX5_raises_43 : decode cX5_raises 43 = .ok (.iconst 0, 1) := by decide +kernel
theorem dX5_raises_44 : decode cX5_raises 44 = .ok (.ireturn, 1) := by decide +kernel
set_option maxRecDepth 20000 in
theorem ggX5_raisers_X5_raises : GoodIn wsX5_raisers wsX5_raises := goodIn_r _ [7, 2, 8, 9, 10, 11, 12, 13, 14, 15, 16, 17, 18, 19, 20, 21, 22, 23, 24, 25, 26, 27, 28, 29, 30, 31, 32, 33] (by decide +kernel) (by decide +kernel)
set_option maxRecDepth 20000 in
theorem gX5_raisers_X5_raises : GoodIn wsX5_raisers (wsV RX5 145 RX5 yX5_raises wsX5_raises) := goodIn_app (goodIn_of _ (by decide +kernel)) ggX5_raisers_X5_raises
theorem dX5_raisers_0 : decode cX5_raisers 0 = .ok (.iconst 0, 1) := by decide +kernel
theorem dX5_raisers_1 : decode cX5_raisers 1 = .ok (.istore_n 2, 1) := by decide +kernel
theorem dX5_raisers_2 : decode cX5_raisers 2 = .ok (.iconst 0, 1) := by decide +kernel
theorem dX5_raisers_3 : decode cX5_raisers 3 = .ok (.istore_n 3, 1) := by decide +kernel
theorem dX5_raisers_4 : decode cX5_raisers 4 = .ok (.iload_n 3, 1) := by decide +kernel
theorem dX5_raisers_5 : decode cX5_raisers 5 = .ok (.aload_n 0, 1) := by decide +kernel
theorem dX5_raisers_6 : decode cX5_raisers 6 = .ok (.getfield 79, 3) := by decide +kernel
theorem dX5_raisers_9 : decode cX5_raisers 9 = .ok (.if_icmp .ge 35, 3) := by decide +kernel
theorem dX5_raisers_12 : decode cX5_raisers 12 = .ok (.iload_n 2, 1) := by decide +kernel
theorem dX5_raisers_13 : decode cX5_raisers 13 = .ok (.aload_n 0, 1) := by decide +kernel
theorem dX5_raisers_14 : decode cX5_raisers 14 = .ok (.getfield 31, 3) := by decide +kernel
theorem dX5_raisers_17 : decode cX5_raisers 17 = .ok (.iload_n 3, 1) := by decide +kernel
theorem dX5_raisers_18 : decode cX5_raisers 18 = .ok (.iaload, 1) := by decide +kernel
theorem dX5_raisers_19 : decode cX5_raisers 19 = .ok (.iload_n 1, 1) := by decide +kernel
theorem dX5_raisers_20 : decode cX5_raisers 20 = .ok (.if_icmp .ne 15, 3) := by decide +kernel
theorem dX5_raisers_23 : decode cX5_raisers 23 = .ok (.aload_n 0, 1) := by decide +kernel
theorem dX5_raisers_24 : decode cX5_raisers 24 = .ok (.iload_n 3, 1) := by decide +kernel
theorem dX5_raisers_25 : decode cX5_raisers 25 = .ok (.invokevirtual 145, 3) := by decide +kernel
theorem dX5_raisers_28 : decode cX5_raisers 28 = .ok (.ifCond .eq 7, 3) := by decide +kernel
theorem dX5_raisers_31 : decode cX5_raisers 31 = .ok (.iconst 1, 1) := by decide +kernel
theorem dX5_raisers_32 : decode cX5_raisers 32 = .ok (.goto 4, 3) := by decide +kernel
theorem dX5_raisers_35 : decode cX5_raisers 35 = .ok (.iconst 0, 1) := by decide +kernel
theorem dX5_raisers_36 : decode cX5_raisers 36 = .ok (.iadd, 1) := by decide +kernel
theorem dX5_raisers_37 : decode cX5_raisers 37 = .ok (.istore_n 2, 1) := by decide +kernel
theorem dX5_raisers_38 : decode cX5_raisers 38 = .ok (.iinc 3 1, 3) := by decide +kernel
theorem dX5_raisers_41 : decode cX5_raisers 41 = .ok (.goto (-37), 3) := by decide +kernel
theorem dX5_raisers_44 : decode cX5_raisers 44 = .ok (.iload_n 2, 1) := by decide +kernel
theorem dX5_raisers_45 : decode cX5_raisers 45 = .ok (.ireturn, 1) := by decide +kernel
set_option maxRecDepth 20000 in
theorem ggX5_doCross_X5_lesser : GoodIn wsX5_doCross wsX5_lesser := goodIn_r _ [8] (by decide +kernel) (by decide +kernel)
set_option maxRecDepth 20000 in
theorem gX5_doCross_X5_lesser : GoodIn wsX5_doCross (va_wsS RX5 108 yX5_lesser wsX5_lesser) := goodIn_app (goodIn_of _ (by decide +kernel)) ggX5_doCross_X5_lesser
theorem dX5_doCross_0 : decode cX5_doCross 0 = .ok (.iload_n 1, 1) := by decide +kernel
theorem dX5_doCross_1 : decode cX5_doCross 1 = .ok (.iload_n 2, 1) := by decide +kernel
theorem dX5_doCross_2 : decode cX5_doCross 2 = .ok (.if_icmp .ne 5, 3) := by decide +kernel
theorem dX5_doCross_5 : decode cX5_doCross 5 = .ok (.iconst 0, 1) := by decide +kernel
theorem dX5_doCross_6 : decode cX5_doCross 6 = .ok (.ireturn, 1) := by decide +kernel
theorem dX5_doCross_7 : decode cX5_doCross 7 = .ok (.aload_n 0, 1) := by decide +kernel
theorem dX5_doCross_8 : decode cX5_doCross 8 = .ok (.getfield 16, 3) := by decide +kernel
theorem dX5_doCross_11 : decode cX5_doCross 11 = .ok (.aload_n 0, 1) := by decide +kernel
theorem dX5_doCross_12 : decode cX5_doCross 12 = .ok (.getfield 31, 3) := by decide +kernel
theorem dX5_doCross_15 : decode cX5_doCross 15 = .ok (.iload_n 1, 1) := by decide +kernel
theorem dX5_doCross_16 : decode cX5_doCross 16 = .ok (.iaload, 1) := by decide +kernel
theorem dX5_doCross_17 : decode cX5_doCross 17 = .ok (.iaload, 1) := by decide +kernel
theorem dX5_doCross_18 : decode cX5_doCross 18 = .ok (.istore_n 3, 1) := by decide +kernel
theorem dX5_doCross_19 : decode cX5_doCross 19 = .ok (.aload_n 0, 1) := by decide +kernel
theorem dX5_doCross_20 : decode cX5_doCross 20 = .ok (.getfield 16, 3) := by decide +kernel
theorem dX5_doCross_23 : decode cX5_doCross 23 = .ok (.aload_n 0, 1) := by decide +kernel
theorem dX5_doCross_24 : decode cX5_doCross 24 = .ok (.getfield 31, 3) := by decide +kernel
theorem dX5_doCross_27 : decode cX5_doCross 27 = .ok (.iload_n 2, 1) := by decide +kernel
theorem dX5_doCross_28 : decode cX5_doCross 28 = .ok (.iaload, 1) := by decide +kernel
theorem dX5_doCross_29 : decode cX5_doCross 29 = .ok (.iaload, 1) := by decide +kernel
theorem dX5_doCross_30 : decode cX5_doCross 30 = .ok (.istore 4, 2) := by decide +kernel
theorem dX5_doCross_32 : decode cX5_doCross 32 = .ok (.aload_n 0, 1) := by decide +kernel
theorem dX5_doCross_33 : decode cX5_doCross 33 = .ok (.getfield 34, 3) := by decide +kernel
theorem dX5_doCross_36 : decode cX5_doCross 36 = .ok (.iload_n 1, 1) := by decide +kernel
theorem dX5_doCross_37 : decode cX5_doCross 37 = .ok (.iaload, 1) := by decide +kernel
theorem dX5_doCross_38 : decode cX5_doCross 38 = .ok (.istore 5, 2) := by decide +kernel
theorem dX5_doCross_40 : decode cX5_doCross 40 = .ok (.aload_n 0, 1) := by decide +kernel
theorem dX5_doCross_41 : decode cX5_doCross 41 = .ok (.getfield 34, 3) := by decide +kernel
theorem dX5_doCross_44 : decode cX5_doCross 44 = .ok (.iload_n 2, 1) := by decide +kernel
theorem dX5_doCross_45 : decode cX5_doCross 45 = .ok (.iaload, 1) := by decide +kernel
theorem dX5_doCross_46 : decode cX5_doCross 46 = .ok (.istore 6, 2) := by decide +kernel
theorem dX5_doCross_48 : decode cX5_doCross 48 = .ok (.iload 5, 2) := by decide +kernel
theorem dX5_doCross_50 : decode cX5_doCross 50 = .ok (.iload 6, 2) := by decide +kernel
theorem dX5_doCross_52 : decode cX5_doCross 52 = .ok (.invokestatic 108, 3) := by decide +kernel
theorem dX5_doCross_55 : decode cX5_doCross 55 = .ok (.istore 7, 2) := by decide +kernel
theorem dX5_doCross_57 : decode cX5_doCross 57 = .ok (.aload_n 0, 1) := by decide +kernel
theorem dX5_doCross_58 : decode cX5_doCross 58 = .ok (.getfield 28, 3) := by decide +kernel
theorem dX5_doCross_61 : decode cX5_doCross 61 = .ok (.iload_n 1, 1) := by decide +kernel
theorem dX5_doCross_62 : decode cX5_doCross 62 = .ok (.iaload, 1) := by decide +kernel
theorem dX5_doCross_63 : decode cX5_doCross 63 = .ok (.aload_n 0, 1) := by decide +kernel
theorem dX5_doCross_64 : decode cX5_doCross 64 = .ok (.getfield 28, 3) := by decide +kernel
theorem dX5_doCross_67 : decode cX5_doCross 67 = .ok (.iload_n 2, 1) := by decide +kernel
theorem dX5_doCross_68 : decode cX5_doCross 68 = .ok (.iaload, 1) := by decide +kernel
theorem dX5_doCross_69 : decode cX5_doCross 69 = .ok (.isub, 1) := by decide +kernel
theorem dX5_doCross_70 : decode cX5_doCross 70 = .ok (.istore 8, 2) := by decide +kernel
theorem dX5_doCross_72 : decode cX5_doCross 72 = .ok (.iload 8, 2) := by decide +kernel
theorem dX5_doCross_74 : decode cX5_doCross 74 = .ok (.iload 5, 2) := by decide +kernel
theorem dX5_doCross_76 : decode cX5_doCross 76 = .ok (.imul, 1) := by decide +kernel
theorem dX5_doCross_77 : decode cX5_doCross 77 = .ok (.iload 6, 2) := by decide +kernel
theorem dX5_doCross_79 : decode cX5_doCross 79 = .ok (.imul, 1) := by decide +kernel
theorem dX5_doCross_80 : decode cX5_doCross 80 = .ok (.iload_n 3, 1) := by decide +kernel
theorem dX5_doCross_81 : decode cX5_doCross 81 = .ok (.aload_n 0, 1) := by decide +kernel
theorem dX5_doCross_82 : decode cX5_doCross 82 = .ok (.getfield 28, 3) := by decide +kernel
theorem dX5_doCross_85 : decode cX5_doCross 85 = .ok (.iload_n 1, 1) := by decide +kernel
theorem dX5_doCross_86 : decode cX5_doCross 86 = .ok (.iaload, 1) := by decide +kernel
theorem dX5_doCross_87 : decode cX5_doCross 87 = .ok (.isub, 1) := by decide +kernel
theorem dX5_doCross_88 : decode cX5_doCross 88 = .ok (.iload 7, 2) := by decide +kernel
theorem dX5_doCross_90 : decode cX5_doCross 90 = .ok (.imul, 1) := by decide +kernel
theorem dX5_doCross_91 : decode cX5_doCross 91 = .ok (.iload 6, 2) := by decide +kernel
theorem dX5_doCross_93 : decode cX5_doCross 93 = .ok (.imul, 1) := by decide +kernel
theorem dX5_doCross_94 : decode cX5_doCross 94 = .ok (.iadd, 1) := by decide +kernel
theorem dX5_doCross_95 : decode cX5_doCross 95 = .ok (.iload 4, 2) := by decide +kernel
theorem dX5_doCross_97 : decode cX5_doCross 97 = .ok (.aload_n 0, 1) := by decide +kernel
theorem dX5_doCross_98 : decode cX5_doCross 98 = .ok (.getfield 28, 3) := by decide +kernel
theorem dX5_doCross_101 : decode cX5_doCross 101 = .ok (.iload_n 2, 1) := by decide +kernel
theorem dX5_doCross_102 : decode cX5_doCross 102 = .ok (.iaload, 1) := by decide +kernel
theorem dX5_doCross_103 : decode cX5_doCross 103 = .ok (.isub, 1) := by decide +kernel
theorem dX5_doCross_104 : decode cX5_doCross 104 = .ok (.iload 7, 2) := by decide +kernel
theorem dX5_doCross_106 : decode cX5_doCross 106 = .ok (.imul, 1) := by decide +kernel
theorem dX5_doCross_107 : decode cX5_doCross 107 = .ok (.iload 5, 2) := by decide +kernel
theorem dX5_doCross_109 : decode cX5_doCross 109 = .ok (.imul, 1) := by decide +kernel
theorem dX5_doCross_110 : decode cX5_doCross 110 = .ok (.isub, 1) := by decide +kernel
theorem dX5_doCross_111 : decode cX5_doCross 111 = .ok (.istore 9, 2) := by decide +kernel
theorem dX5_doCross_113 : decode cX5_doCross 113 = .ok (.iload 8, 2) := by decide +kernel
theorem dX5_doCross_115 : decode cX5_doCross 115 = .ok (.ifCond .ne 8, 3) := by decide +kernel
theorem dX5_doCross_118 : decode cX5_doCross 118 = .ok (.iload 9, 2) := by decide +kernel
theorem dX5_doCross_120 : decode cX5_doCross 120 = .ok (.ifCond .eq 23, 3) := by decide +kernel
theorem dX5_doCross_123 : decode cX5_doCross 123 = .ok (.iload 8, 2) := by decide +kernel
theorem dX5_doCross_125 : decode cX5_doCross 125 = .ok (.ifCond .ge 8, 3) := by decide +kernel
theorem dX5_doCross_128 : decode cX5_doCross 128 = .ok (.iload 9, 2) := by decide +kernel
theorem dX5_doCross_130 : decode cX5_doCross 130 = .ok (.ifCond .gt 13, 3) := by decide +kernel
theorem dX5_doCross_133 : decode cX5_doCross 133 = .ok (.iload 8, 2) := by decide +kernel
theorem dX5_doCross_135 : decode cX5_doCross 135 = .ok (.ifCond .le 12, 3) := by decide +kernel
theorem dX5_doCross_138 : decode cX5_doCross 138 = .ok (.iload 9, 2) := by decide +kernel
theorem dX5_doCross_140 : decode cX5_doCross 140 = .ok (.ifCond .ge 7, 3) := by decide +kernel
theorem dX5_doCross_143 : decode cX5_doCross 143 = .ok (.iconst 1, 1) := by decide +kernel
theorem dX5_doCross_144 : decode cX5_doCross 144 = .ok (.goto 4, 3) := by decide +kernel
theorem dX5_doCross_147 : decode cX5_doCross 147 = .ok (.iconst 0, 1) := by decide +kernel
theorem dX5_doCross_148 : decode cX5_doCross 148 = .ok (.ireturn, 1) := by decide +kernel
set_option maxRecDepth 20000 in
theorem ggX5_crossers_X5_doCross : GoodIn wsX5_crossers wsX5_doCross := goodIn_r _ [7, 8, 9, 10, 11, 12, 13, 6, 14, 15, 16, 17, 18, 19, 20, 21, 22, 23, 24, 25, 26, 27, 28, 29, 30, 31, 32, 33, 34, 35, 36] (by decide +kernel) (by decide +kernel)
set_option maxRecDepth 20000 in
theorem gX5_crossers_X5_doCross : GoodIn wsX5_crossers (wsV RX5 148 RX5 yX5_doCross wsX5_doCross) := goodIn_app (goodIn_of _ (by decide +kernel)) ggX5_crossers_X5_doCross
theorem dX5_crossers_0 : decode cX5_crossers 0 = .ok (.iconst 0, 1) := by decide +kernel
theorem dX5_crossers_1 : decode cX5_crossers 1 = .ok (.istore_n 2, 1) := by decide +kernel
theorem dX5_crossers_2 : decode cX5_crossers 2 = .ok (.iconst 0, 1) := by decide +kernel
theorem dX5_crossers_3 : decode cX5_crossers 3 = .ok (.istore_n 3, 1) := by decide +kernel
theorem dX5_crossers_4 : decode cX5_crossers 4 = .ok (.iload_n 3, 1) := by decide +kernel
theorem dX5_crossers_5 : decode cX5_crossers 5 = .ok (.aload_n 0, 1) := by decide +kernel
theorem dX5_crossers_6 : decode cX5_crossers 6 = .ok (.getfield 79, 3) := by decide +kernel
theorem dX5_crossers_9 : decode cX5_crossers 9 = .ok (.if_icmp .ge 35, 3) := by decide +kernel
theorem dX5_crossers_12 : decode cX5_crossers 12 = .ok (.iload_n 2, 1) := by decide +kernel
theorem dX5_crossers_13 : decode cX5_crossers 13 = .ok (.aload_n 0, 1) := by decide +kernel
theorem dX5_crossers_14 : decode cX5_crossers 14 = .ok (.getfield 37, 3) := by decide +kernel
theorem dX5_crossers_17 : decode cX5_crossers 17 = .ok (.iload_n 3, 1) := by decide +kernel
theorem dX5_crossers_18 : decode cX5_crossers 18 = .ok (.baload, 1) := by decide +kernel
theorem dX5_crossers_19 : decode cX5_crossers 19 = .ok (.ifCond .ne 16, 3) := by decide +kernel
theorem dX5_crossers_22 : decode cX5_crossers 22 = .ok (.aload_n 0, 1) := by decide +kernel
theorem dX5_crossers_23 : decode cX5_crossers 23 = .ok (.iload_n 1, 1) := by decide +kernel
theorem dX5_crossers_24 : decode cX5_crossers 24 = .ok (.iload_n 3, 1) := by decide +kernel
theorem dX5_crossers_25 : decode cX5_crossers 25 = .ok (.invokevirtual 148, 3) := by decide +kernel
theorem dX5_crossers_28 : decode cX5_crossers 28 = .ok (.ifCond .eq 7, 3) := by decide +kernel
theorem dX5_crossers_31 : decode cX5_crossers 31 = .ok (.iconst 1, 1) := by decide +kernel
theorem dX5_crossers_32 : decode cX5_crossers 32 = .ok (.goto 4, 3) := by decide +kernel
theorem dX5_crossers_35 : decode cX5_crossers 35 = .ok (.iconst 0, 1) := by decide +kernel
theorem dX5_crossers_36 : decode cX5_crossers 36 = .ok (.iadd, 1) := by decide +kernel
theorem dX5_crossers_37 : decode cX5_crossers 37 = .ok (.istore_n 2, 1) := by decide +kernel
theorem dX5_crossers_38 : decode cX5_crossers 38 = .ok (.iinc 3 1, 3) := by decide +kernel
theorem dX5_crossers_41 : decode cX5_crossers 41 = .ok (.goto (-37), 3) := by decide +kernel
theorem dX5_crossers_44 : decode cX5_crossers 44 = .ok (.iload_n 2, 1) := by decide +kernel
theorem dX5_crossers_45 : decode cX5_crossers 45 = .ok (.ireturn, 1) := by decide +kernel
set_option maxRecDepth 20000 in
theorem ggX5_threaded_X5_noThread : GoodIn wsX5_threaded wsX5_noThread := goodIn_r _ [9, 10, 11, 12, 8, 13, 31, 32, 33, 34, 35, 36, 37, 38, 39, 40, 41, 42, 43, 44, 45, 46, 47, 48, 49, 50, 51, 52] (by decide +kernel) (by decide +kernel)
set_option maxRecDepth 20000 in
theorem gX5_threaded_X5_noThread : GoodIn wsX5_threaded (wsV RX5 142 RX5 yX5_noThread wsX5_noThread) := goodIn_app (goodIn_of _ (by decide +kernel)) ggX5_threaded_X5_noThread
set_option maxRecDepth 20000 in
theorem ggX5_threaded_X5_raises : GoodIn wsX5_threaded wsX5_raises := goodIn_r _ [17, 2, 4, 1, 18, 19, 31, 32, 33, 34, 35, 36, 37, 38, 39, 40, 41, 42, 43, 44, 45, 46, 47, 48, 49, 50, 51, 52] (by decide +kernel) (by decide +kernel)
set_option maxRecDepth 20000 in
theorem gX5_threaded_X5_raises : GoodIn wsX5_threaded (wsV RX5 145 RX5 yX5_raises wsX5_raises) := goodIn_app (goodIn_of _ (by decide +kernel)) ggX5_threaded_X5_raises
set_option maxRecDepth 20000 in
theorem ggX5_threaded_X5_crossers : GoodIn wsX5_threaded wsX5_crossers := goodIn_r _ [23, 10, 4, 24, 25, 26, 8, 27, 18, 2, 3, 1, 28, 29, 30, 31, 32, 33, 34, 35, 36, 37, 38, 39, 40, 41, 42, 43, 44, 45, 46, 47, 48, 49, 50, 51, 52] (by decide +kernel) (by decide +kernel)
set_option maxRecDepth 20000 in
theorem gX5_threaded_X5_crossers : GoodIn wsX5_threaded (wsV RX5 151 RX5 yX5_crossers wsX5_crossers) := goodIn_app (goodIn_of _ (by decide +kernel)) ggX5_threaded_X5_crossers
theorem dX5_threaded_0 : decode cX5_threaded 0 = .ok (.aload_n 0, 1) := by decide +kernel
theorem dX5_threaded_1 : decode cX5_threaded 1 = .ok (.iload_n 1, 1) := by decide +kernel
theorem dX5_threaded_2 : decode cX5_threaded 2 = .ok (.invokevirtual 142, 3) := by decide +kernel
theorem dX5_threaded_5 : decode cX5_threaded 5 = .ok (.ifCond .eq 5, 3) := by decide +kernel
theorem dX5_threaded_8 : decode cX5_threaded 8 = .ok (.iconst (-1), 1) := by decide +kernel
theorem dX5_threaded_9 : decode cX5_threaded 9 = .ok (.ireturn, 1) := by decide +kernel
theorem dX5_threaded_10 : decode cX5_threaded 10 = .ok (.iload_n 2, 1) := by decide +kernel
theorem dX5_threaded_11 : decode cX5_threaded 11 = .ok (.tableswitch 93 0 5 #[37, 44, 51, 58, 73, 87], 37) := by decide +kernel
theorem dX5_threaded_48 : decode cX5_threaded 48 = .ok (.aload_n 0, 1) := by decide +kernel
theorem dX5_threaded_49 : decode cX5_threaded 49 = .ok (.getfield 28, 3) := by decide +kernel
theorem dX5_threaded_52 : decode cX5_threaded 52 = .ok (.iload_n 1, 1) := by decide +kernel
theorem dX5_threaded_53 : decode cX5_threaded 53 = .ok (.iaload, 1) := by decide +kernel
theorem dX5_threaded_54 : decode cX5_threaded 54 = .ok (.ireturn, 1) := by decide +kernel
theorem dX5_threaded_55 : decode cX5_threaded 55 = .ok (.aload_n 0, 1) := by decide +kernel
theorem dX5_threaded_56 : decode cX5_threaded 56 = .ok (.getfield 31, 3) := by decide +kernel
theorem dX5_threaded_59 : decode cX5_threaded 59 = .ok (.iload_n 1, 1) := by decide +kernel
theorem dX5_threaded_60 : decode cX5_threaded 60 = .ok (.iaload, 1) := by decide +kernel
theorem dX5_threaded_61 : decode cX5_threaded 61 = .ok (.ireturn, 1) := by decide +kernel
theorem dX5_threaded_62 : decode cX5_threaded 62 = .ok (.aload_n 0, 1) := by decide +kernel
theorem dX5_threaded_63 : decode cX5_threaded 63 = .ok (.getfield 34, 3) := by decide +kernel
theorem dX5_threaded_66 : decode cX5_threaded 66 = .ok (.iload_n 1, 1) := by decide +kernel
theorem dX5_threaded_67 : decode cX5_threaded 67 = .ok (.iaload, 1) := by decide +kernel
theorem dX5_threaded_68 : decode cX5_threaded 68 = .ok (.ireturn, 1) := by decide +kernel
theorem dX5_threaded_69 : decode cX5_threaded 69 = .ok (.aload_n 0, 1) := by decide +kernel
theorem dX5_threaded_70 : decode cX5_threaded 70 = .ok (.getfield 37, 3) := by decide +kernel
theorem dX5_threaded_73 : decode cX5_threaded 73 = .ok (.iload_n 1, 1) := by decide +kernel
theorem dX5_threaded_74 : decode cX5_threaded 74 = .ok (.baload, 1) := by decide +kernel
theorem dX5_threaded_75 : decode cX5_threaded 75 = .ok (.ifCond .eq 7, 3) := by decide +kernel
theorem dX5_threaded_78 : decode cX5_threaded 78 = .ok (.iconst 0, 1) := by decide +kernel
theorem dX5_threaded_79 : decode cX5_threaded 79 = .ok (.goto 4, 3) := by decide +kernel
theorem dX5_threaded_82 : decode cX5_threaded 82 = .ok (.iconst 1, 1) := by decide +kernel
theorem dX5_threaded_83 : decode cX5_threaded 83 = .ok (.ireturn, 1) := by decide +kernel
theorem dX5_threaded_84 : decode cX5_threaded 84 = .ok (.aload_n 0, 1) := by decide +kernel
theorem dX5_threaded_85 : decode cX5_threaded 85 = .ok (.iload_n 1, 1) := by decide +kernel
theorem dX5_threaded_86 : decode cX5_threaded 86 = .ok (.invokevirtual 145, 3) := by decide +kernel
theorem dX5_threaded_89 : decode cX5_threaded 89 = .ok (.ifCond .eq 7, 3) := by decide +kernel
theorem dX5_threaded_92 : decode cX5_threaded 92 = .ok (.iconst 1, 1) := by decide +kernel
theorem dX5_threaded_93 : decode cX5_threaded 93 = .ok (.goto 4, 3) := by decide +kernel
theorem dX5_threaded_96 : decode cX5_threaded 96 = .ok (.iconst 0, 1) := by decide +kernel
theorem dX5_threaded_97 : decode cX5_threaded 97 = .ok (.ireturn, 1) := by decide +kernel
theorem dX5_threaded_98 : decode cX5_threaded 98 = .ok (.aload_n 0, 1) := by decide +kernel
theorem dX5_threaded_99 : decode cX5_threaded 99 = .ok (.iload_n 1, 1) := by decide +kernel
theorem dX5_threaded_100 : decode cX5_threaded 100 = .ok (.invokevirtual 151, 3) := by decide +kernel
theorem dX5_threaded_103 : decode cX5_threaded 103 = .ok (.ireturn, 1) := by decide +kernel
theorem dX5_threaded_104 : decode cX5_threaded 104 = .ok (.bipush (-2), 2) := by decide +kernel
theorem dX5_threaded_106 : decode cX5_threaded 106 = .ok (.ireturn, 1) := by decide +kernel
set_option maxRecDepth 20000 in
theorem ggX5_cross_X5_noThread : GoodIn wsX5_cross wsX5_noThread := goodIn_r _ [5, 6, 7, 8, 4, 9, 21, 22, 23, 24, 25, 26, 27, 28, 29, 30, 31, 32, 33, 34, 35, 36, 37, 38, 39, 40, 41, 42] (by decide +kernel) (by decide +kernel)
set_option maxRecDepth 20000 in
theorem gX5_cross_X5_noThread : GoodIn wsX5_cross (wsV RX5 142 RX5 yX5_noThread wsX5_noThread) := goodIn_app (goodIn_of _ (by decide +kernel)) ggX5_cross_X5_noThread
set_option maxRecDepth 20000 in
theorem ggX5_cross_X5_doCross : GoodIn wsX5_cross wsX5_doCross := goodIn_r _ [13, 14, 15, 16, 17, 18, 19, 4, 20, 21, 22, 23, 24, 25, 26, 27, 28, 29, 30, 31, 32, 33, 34, 35, 36, 37, 38, 39, 40, 41, 42] (by decide +kernel) (by decide +kernel)
set_option maxRecDepth 20000 in
theorem gX5_cross_X5_doCross : GoodIn wsX5_cross (wsV RX5 148 RX5 yX5_doCross wsX5_doCross) := goodIn_app (goodIn_of _ (by decide +kernel)) ggX5_cross_X5_doCross
theorem dX5_cross_0 : decode cX5_cross 0 = .ok (.aload_n 0, 1) := by decide +kernel
theorem dX5_cross_1 : decode cX5_cross 1 = .ok (.iload_n 1, 1) := by decide +kernel
theorem dX5_cross_2 : decode cX5_cross 2 = .ok (.invokevirtual 142, 3) := by decide +kernel
theorem dX5_cross_5 : decode cX5_cross 5 = .ok (.ifCond .ne 11, 3) := by decide +kernel
theorem dX5_cross_8 : decode cX5_cross 8 = .ok (.aload_n 0, 1) := by decide +kernel
theorem dX5_cross_9 : decode cX5_cross 9 = .ok (.iload_n 2, 1) := by decide +kernel
theorem dX5_cross_10 : decode cX5_cross 10 = .ok (.invokevirtual 142, 3) := by decide +kernel
theorem dX5_cross_13 : decode cX5_cross 13 = .ok (.ifCond .eq 7, 3) := by decide +kernel
theorem dX5_cross_16 : decode cX5_cross 16 = .ok (.iconst (-1), 1) := by decide +kernel
theorem dX5_cross_17 : decode cX5_cross 17 = .ok (.goto 17, 3) := by decide +kernel
theorem dX5_cross_20 : decode cX5_cross 20 = .ok (.aload_n 0, 1) := by decide +kernel
theorem dX5_cross_21 : decode cX5_cross 21 = .ok (.iload_n 1, 1) := by decide +kernel
theorem dX5_cross_22 : decode cX5_cross 22 = .ok (.iload_n 2, 1) := by decide +kernel
theorem dX5_cross_23 : decode cX5_cross 23 = .ok (.invokevirtual 148, 3) := by decide +kernel
theorem dX5_cross_26 : decode cX5_cross 26 = .ok (.ifCond .eq 7, 3) := by decide +kernel
theorem dX5_cross_29 : decode cX5_cross 29 = .ok (.iconst 1, 1) := by decide +kernel
theorem dX5_cross_30 : decode cX5_cross 30 = .ok (.goto 4, 3) := by decide +kernel
theorem dX5_cross_33 : decode cX5_cross 33 = .ok (.iconst 0, 1) := by decide +kernel
theorem dX5_cross_34 : decode cX5_cross 34 = .ok (.ireturn, 1) := by decide +kernel
set_option maxRecDepth 20000 in
theorem ggX5_isBarred_X5_isUp : GoodIn wsX5_isBarred wsX5_isUp := goodIn_r _ [7] (by decide +kernel) (by decide +kernel)
set_option maxRecDepth 20000 in
theorem gX5_isBarred_X5_isUp : GoodIn wsX5_isBarred (wsV RX5 128 RX5 yX5_isUp wsX5_isUp) := goodIn_app (goodIn_of _ (by decide +kernel)) ggX5_isBarred_X5_isUp
set_option maxRecDepth 20000 in
theorem ggX5_isBarred_X5_from : GoodIn wsX5_isBarred wsX5_from := goodIn_r _ [11, 12, 2, 13, 18, 19, 20, 21, 22, 23, 24, 25, 26, 27, 28, 29, 30, 31, 32, 33, 34, 35, 36, 37, 38, 39] (by decide +kernel) (by decide +kernel)
set_option maxRecDepth 20000 in
theorem gX5_isBarred_X5_from : GoodIn wsX5_isBarred (wsV RX5 112 RX5 yX5_from wsX5_from) := goodIn_app (goodIn_of _ (by decide +kernel)) ggX5_isBarred_X5_from
set_option maxRecDepth 20000 in
theorem ggX5_isBarred_X5_to : GoodIn wsX5_isBarred wsX5_to := goodIn_r _ [17, 12, 2, 13, 18, 19, 20, 21, 22, 23, 24, 25, 26, 27, 28, 29, 30, 31, 32, 33, 34, 35, 36, 37, 38, 39] (by decide +kernel) (by decide +kernel)
set_option maxRecDepth 20000 in
theorem gX5_isBarred_X5_to : GoodIn wsX5_isBarred (wsV RX5 104 RX5 yX5_to wsX5_to) := goodIn_app (goodIn_of _ (by decide +kernel)) ggX5_isBarred_X5_to
theorem dX5_isBarred_0 : decode cX5_isBarred 0 = .ok (.iconst 0, 1) := by decide +kernel
theorem dX5_isBarred_1 : decode cX5_isBarred 1 = .ok (.istore_n 3, 1) := by decide +kernel
theorem dX5_isBarred_2 : decode cX5_isBarred 2 = .ok (.iconst 0, 1) := by decide +kernel
theorem dX5_isBarred_3 : decode cX5_isBarred 3 = .ok (.istore 4, 2) := by decide +kernel
theorem dX5_isBarred_5 : decode cX5_isBarred 5 = .ok (.iload 4, 2) := by decide +kernel
theorem dX5_isBarred_7 : decode cX5_isBarred 7 = .ok (.aload_n 0, 1) := by decide +kernel
theorem dX5_isBarred_8 : decode cX5_isBarred 8 = .ok (.getfield 72, 3) := by decide +kernel
theorem dX5_isBarred_11 : decode cX5_isBarred 11 = .ok (.if_icmp .ge 59, 3) := by decide +kernel
theorem dX5_isBarred_14 : decode cX5_isBarred 14 = .ok (.iload_n 3, 1) := by decide +kernel
theorem dX5_isBarred_15 : decode cX5_isBarred 15 = .ok (.ifCond .ne 43, 3) := by decide +kernel
theorem dX5_isBarred_18 : decode cX5_isBarred 18 = .ok (.aload_n 0, 1) := by decide +kernel
theorem dX5_isBarred_19 : decode cX5_isBarred 19 = .ok (.iload_n 1, 1) := by decide +kernel
theorem dX5_isBarred_20 : decode cX5_isBarred 20 = .ok (.iload 4, 2) := by decide +kernel
theorem dX5_isBarred_22 : decode cX5_isBarred 22 = .ok (.invokevirtual 128, 3) := by decide +kernel
theorem dX5_isBarred_25 : decode cX5_isBarred 25 = .ok (.ifCond .eq 37, 3) := by decide +kernel
theorem dX5_isBarred_28 : decode cX5_isBarred 28 = .ok (.aload_n 0, 1) := by decide +kernel
theorem dX5_isBarred_29 : decode cX5_isBarred 29 = .ok (.getfield 16, 3) := by decide +kernel
theorem dX5_isBarred_32 : decode cX5_isBarred 32 = .ok (.iload 4, 2) := by decide +kernel
theorem dX5_isBarred_34 : decode cX5_isBarred 34 = .ok (.iaload, 1) := by decide +kernel
theorem dX5_isBarred_35 : decode cX5_isBarred 35 = .ok (.aload_n 0, 1) := by decide +kernel
theorem dX5_isBarred_36 : decode cX5_isBarred 36 = .ok (.iload_n 2, 1) := by decide +kernel
theorem dX5_isBarred_37 : decode cX5_isBarred 37 = .ok (.invokevirtual 112, 3) := by decide +kernel
theorem dX5_isBarred_40 : decode cX5_isBarred 40 = .ok (.if_icmp .le 22, 3) := by decide +kernel
theorem dX5_isBarred_43 : decode cX5_isBarred 43 = .ok (.aload_n 0, 1) := by decide +kernel
theorem dX5_isBarred_44 : decode cX5_isBarred 44 = .ok (.getfield 16, 3) := by decide +kernel
theorem dX5_isBarred_47 : decode cX5_isBarred 47 = .ok (.iload 4, 2) := by decide +kernel
theorem dX5_isBarred_49 : decode cX5_isBarred 49 = .ok (.iaload, 1) := by decide +kernel
theorem dX5_isBarred_50 : decode cX5_isBarred 50 = .ok (.aload_n 0, 1) := by decide +kernel
theorem dX5_isBarred_51 : decode cX5_isBarred 51 = .ok (.iload_n 2, 1) := by decide +kernel
theorem dX5_isBarred_52 : decode cX5_isBarred 52 = .ok (.invokevirtual 104, 3) := by decide +kernel
theorem dX5_isBarred_55 : decode cX5_isBarred 55 = .ok (.if_icmp .ge 7, 3) := by decide +kernel
theorem dX5_isBarred_58 : decode cX5_isBarred 58 = .ok (.iconst 1, 1) := by decide +kernel
theorem dX5_isBarred_59 : decode cX5_isBarred 59 = .ok (.goto 4, 3) := by decide +kernel
theorem dX5_isBarred_62 : decode cX5_isBarred 62 = .ok (.iconst 0, 1) := by decide +kernel
theorem dX5_isBarred_63 : decode cX5_isBarred 63 = .ok (.istore_n 3, 1) := by decide +kernel
theorem dX5_isBarred_64 : decode cX5_isBarred 64 = .ok (.iinc 4 1, 3) := by decide +kernel
theorem dX5_isBarred_67 : decode cX5_isBarred 67 = .ok (.goto (-62), 3) := by decide +kernel
theorem dX5_isBarred_70 : decode cX5_isBarred 70 = .ok (.iload_n 3, 1) := by decide +kernel
theorem dX5_isBarred_71 : decode cX5_isBarred 71 = .ok (.ireturn, 1) := by decide +kernel
set_option maxRecDepth 20000 in
theorem ggX5_overThatLie_X5_isUp : GoodIn wsX5_overThatLie wsX5_isUp := goodIn_r _ [6] (by decide +kernel) (by decide +kernel)
set_option maxRecDepth 20000 in
theorem gX5_overThatLie_X5_isUp : GoodIn wsX5_overThatLie (wsV RX5 128 RX5 yX5_isUp wsX5_isUp) := goodIn_app (goodIn_of _ (by decide +kernel)) ggX5_overThatLie_X5_isUp
set_option maxRecDepth 20000 in
theorem ggX5_overThatLie_X5_isOver : GoodIn wsX5_overThatLie wsX5_isOver := goodIn_r _ [10, 11, 12, 13, 5, 14, 15, 16, 17, 18, 19, 20, 21, 22, 23, 24, 25, 26, 27, 28, 29, 30, 31, 32, 33, 34, 35, 36, 37, 38, 39, 40, 41, 42, 43, 44, 45, 46, 47, 48, 49] (by decide +kernel) (by decide +kernel)
set_option maxRecDepth 20000 in
theorem gX5_overThatLie_X5_isOver : GoodIn wsX5_overThatLie (wsV RX5 121 RX5 yX5_isOver wsX5_isOver) := goodIn_app (goodIn_of _ (by decide +kernel)) ggX5_overThatLie_X5_isOver
theorem dX5_overThatLie_0 : decode cX5_overThatLie 0 = .ok (.iconst 0, 1) := by decide +kernel
theorem dX5_overThatLie_1 : decode cX5_overThatLie 1 = .ok (.istore_n 3, 1) := by decide +kernel
theorem dX5_overThatLie_2 : decode cX5_overThatLie 2 = .ok (.iconst 0, 1) := by decide +kernel
theorem dX5_overThatLie_3 : decode cX5_overThatLie 3 = .ok (.istore 4, 2) := by decide +kernel
theorem dX5_overThatLie_5 : decode cX5_overThatLie 5 = .ok (.iload 4, 2) := by decide +kernel
theorem dX5_overThatLie_7 : decode cX5_overThatLie 7 = .ok (.aload_n 0, 1) := by decide +kernel
theorem dX5_overThatLie_8 : decode cX5_overThatLie 8 = .ok (.getfield 72, 3) := by decide +kernel
theorem dX5_overThatLie_11 : decode cX5_overThatLie 11 = .ok (.if_icmp .ge 37, 3) := by decide +kernel
theorem dX5_overThatLie_14 : decode cX5_overThatLie 14 = .ok (.iload_n 3, 1) := by decide +kernel
theorem dX5_overThatLie_15 : decode cX5_overThatLie 15 = .ok (.aload_n 0, 1) := by decide +kernel
theorem dX5_overThatLie_16 : decode cX5_overThatLie 16 = .ok (.iload_n 1, 1) := by decide +kernel
theorem dX5_overThatLie_17 : decode cX5_overThatLie 17 = .ok (.iload 4, 2) := by decide +kernel
theorem dX5_overThatLie_19 : decode cX5_overThatLie 19 = .ok (.invokevirtual 128, 3) := by decide +kernel
theorem dX5_overThatLie_22 : decode cX5_overThatLie 22 = .ok (.ifCond .ne 17, 3) := by decide +kernel
theorem dX5_overThatLie_25 : decode cX5_overThatLie 25 = .ok (.aload_n 0, 1) := by decide +kernel
theorem dX5_overThatLie_26 : decode cX5_overThatLie 26 = .ok (.iload_n 2, 1) := by decide +kernel
theorem dX5_overThatLie_27 : decode cX5_overThatLie 27 = .ok (.iload 4, 2) := by decide +kernel
theorem dX5_overThatLie_29 : decode cX5_overThatLie 29 = .ok (.invokevirtual 121, 3) := by decide +kernel
theorem dX5_overThatLie_32 : decode cX5_overThatLie 32 = .ok (.ifCond .eq 7, 3) := by decide +kernel
theorem dX5_overThatLie_35 : decode cX5_overThatLie 35 = .ok (.iconst 1, 1) := by decide +kernel
theorem dX5_overThatLie_36 : decode cX5_overThatLie 36 = .ok (.goto 4, 3) := by decide +kernel
theorem dX5_overThatLie_39 : decode cX5_overThatLie 39 = .ok (.iconst 0, 1) := by decide +kernel
theorem dX5_overThatLie_40 : decode cX5_overThatLie 40 = .ok (.iadd, 1) := by decide +kernel
theorem dX5_overThatLie_41 : decode cX5_overThatLie 41 = .ok (.istore_n 3, 1) := by decide +kernel
theorem dX5_overThatLie_42 : decode cX5_overThatLie 42 = .ok (.iinc 4 1, 3) := by decide +kernel
theorem dX5_overThatLie_45 : decode cX5_overThatLie 45 = .ok (.goto (-40), 3) := by decide +kernel
theorem dX5_overThatLie_48 : decode cX5_overThatLie 48 = .ok (.iload_n 3, 1) := by decide +kernel
theorem dX5_overThatLie_49 : decode cX5_overThatLie 49 = .ok (.ireturn, 1) := by decide +kernel
set_option maxRecDepth 20000 in
theorem ggX5_mayRise_X5_isUp : GoodIn wsX5_mayRise wsX5_isUp := goodIn_r _ [5] (by decide +kernel) (by decide +kernel)
set_option maxRecDepth 20000 in
theorem gX5_mayRise_X5_isUp : GoodIn wsX5_mayRise (wsV RX5 128 RX5 yX5_isUp wsX5_isUp) := goodIn_app (goodIn_of _ (by decide +kernel)) ggX5_mayRise_X5_isUp
set_option maxRecDepth 20000 in
theorem ggX5_mayRise_X5_raisers : GoodIn wsX5_mayRise wsX5_raisers := goodIn_r _ [9, 10, 11, 12, 13, 14, 4, 15, 16, 17, 18, 19, 48, 49, 50, 51, 52, 53, 54, 55, 56, 57, 58, 59, 60, 61, 62, 63, 64, 65, 66, 67, 68, 69] (by decide +kernel) (by decide +kernel)
set_option maxRecDepth 20000 in
theorem gX5_mayRise_X5_raisers : GoodIn wsX5_mayRise (wsV RX5 154 RX5 yX5_raisers wsX5_raisers) := goodIn_app (goodIn_of _ (by decide +kernel)) ggX5_mayRise_X5_raisers
set_option maxRecDepth 20000 in
theorem ggX5_mayRise_X5_overThatLie : GoodIn wsX5_mayRise wsX5_overThatLie := goodIn_r _ [23, 24, 1, 2, 3, 4, 5, 25, 26, 27, 28, 29, 30, 31, 32, 19, 18, 33, 34, 35, 36, 37, 38, 39, 40, 41, 42, 43, 48, 49, 50, 51, 52, 53, 54, 55, 56, 57, 58, 59, 60, 61, 62, 63, 64, 65, 66, 67, 68, 69] (by decide +kernel) (by decide +kernel)
set_option maxRecDepth 20000 in
theorem gX5_mayRise_X5_overThatLie : GoodIn wsX5_mayRise (wsV RX5 157 RX5 yX5_overThatLie wsX5_overThatLie) := goodIn_app (goodIn_of _ (by decide +kernel)) ggX5_mayRise_X5_overThatLie
set_option maxRecDepth 20000 in
theorem ggX5_mayRise_X5_isBarred : GoodIn wsX5_mayRise wsX5_isBarred := goodIn_r _ [47, 24, 18, 1, 2, 3, 4, 5, 37, 38, 39, 40, 19, 33, 29, 30, 31, 32, 48, 49, 50, 51, 52, 53, 54, 55, 56, 57, 58, 59, 60, 61, 62, 63, 64, 65, 66, 67, 68, 69] (by decide +kernel) (by decide +kernel)
set_option maxRecDepth 20000 in
theorem gX5_mayRise_X5_isBarred : GoodIn wsX5_mayRise (wsV RX5 160 RX5 yX5_isBarred wsX5_isBarred) := goodIn_app (goodIn_of _ (by decide +kernel)) ggX5_mayRise_X5_isBarred
theorem dX5_mayRise_0 : decode cX5_mayRise 0 = .ok (.aload_n 0, 1) := by decide +kernel
theorem dX5_mayRise_1 : decode cX5_mayRise 1 = .ok (.iload_n 1, 1) := by decide +kernel
theorem dX5_mayRise_2 : decode cX5_mayRise 2 = .ok (.iload_n 2, 1) := by decide +kernel
theorem dX5_mayRise_3 : decode cX5_mayRise 3 = .ok (.invokevirtual 128, 3) := by decide +kernel
theorem dX5_mayRise_6 : decode cX5_mayRise 6 = .ok (.ifCond .ne 33, 3) := by decide +kernel
theorem dX5_mayRise_9 : decode cX5_mayRise 9 = .ok (.aload_n 0, 1) := by decide +kernel
theorem dX5_mayRise_10 : decode cX5_mayRise 10 = .ok (.iload_n 2, 1) := by decide +kernel
theorem dX5_mayRise_11 : decode cX5_mayRise 11 = .ok (.invokevirtual 154, 3) := by decide +kernel
theorem dX5_mayRise_14 : decode cX5_mayRise 14 = .ok (.ifCond .le 25, 3) := by decide +kernel
theorem dX5_mayRise_17 : decode cX5_mayRise 17 = .ok (.aload_n 0, 1) := by decide +kernel
theorem dX5_mayRise_18 : decode cX5_mayRise 18 = .ok (.iload_n 1, 1) := by decide +kernel
theorem dX5_mayRise_19 : decode cX5_mayRise 19 = .ok (.iload_n 2, 1) := by decide +kernel
theorem dX5_mayRise_20 : decode cX5_mayRise 20 = .ok (.invokevirtual 157, 3) := by decide +kernel
theorem dX5_mayRise_23 : decode cX5_mayRise 23 = .ok (.ifCond .ne 16, 3) := by decide +kernel
theorem dX5_mayRise_26 : decode cX5_mayRise 26 = .ok (.aload_n 0, 1) := by decide +kernel
theorem dX5_mayRise_27 : decode cX5_mayRise 27 = .ok (.iload_n 1, 1) := by decide +kernel
theorem dX5_mayRise_28 : decode cX5_mayRise 28 = .ok (.iload_n 2, 1) := by decide +kernel
theorem dX5_mayRise_29 : decode cX5_mayRise 29 = .ok (.invokevirtual 160, 3) := by decide +kernel
theorem dX5_mayRise_32 : decode cX5_mayRise 32 = .ok (.ifCond .ne 7, 3) := by decide +kernel
theorem dX5_mayRise_35 : decode cX5_mayRise 35 = .ok (.iconst 1, 1) := by decide +kernel
theorem dX5_mayRise_36 : decode cX5_mayRise 36 = .ok (.goto 4, 3) := by decide +kernel
theorem dX5_mayRise_39 : decode cX5_mayRise 39 = .ok (.iconst 0, 1) := by decide +kernel
theorem dX5_mayRise_40 : decode cX5_mayRise 40 = .ok (.ireturn, 1) := by decide +kernel
set_option maxRecDepth 20000 in
theorem ggX5_about_X5_noSpar : GoodIn wsX5_about wsX5_noSpar := goodIn_r _ [11, 12, 13, 14, 10, 15, 62, 63, 64, 65, 66, 67, 68, 69, 70, 71, 72, 73, 74, 75, 76, 77, 78, 79, 80, 81, 82, 83] (by decide +kernel) (by decide +kernel)
set_option maxRecDepth 20000 in
theorem gX5_about_X5_noSpar : GoodIn wsX5_about (wsV RX5 118 RX5 yX5_noSpar wsX5_noSpar) := goodIn_app (goodIn_of _ (by decide +kernel)) ggX5_about_X5_noSpar
set_option maxRecDepth 20000 in
theorem ggX5_about_X5_isUp : GoodIn wsX5_about wsX5_isUp := goodIn_r _ [19] (by decide +kernel) (by decide +kernel)
set_option maxRecDepth 20000 in
theorem gX5_about_X5_isUp : GoodIn wsX5_about (wsV RX5 128 RX5 yX5_isUp wsX5_isUp) := goodIn_app (goodIn_of _ (by decide +kernel)) ggX5_about_X5_isUp
set_option maxRecDepth 20000 in
theorem ggX5_about_X5_raisers : GoodIn wsX5_about wsX5_raisers := goodIn_r _ [23, 24, 25, 26, 27, 28, 10, 29, 30, 31, 2, 5, 62, 63, 64, 65, 66, 67, 68, 69, 70, 71, 72, 73, 74, 75, 76, 77, 78, 79, 80, 81, 82, 83] (by decide +kernel) (by decide +kernel)
set_option maxRecDepth 20000 in
theorem gX5_about_X5_raisers : GoodIn wsX5_about (wsV RX5 154 RX5 yX5_raisers wsX5_raisers) := goodIn_app (goodIn_of _ (by decide +kernel)) ggX5_about_X5_raisers
set_option maxRecDepth 20000 in
theorem ggX5_about_X5_mayRise : GoodIn wsX5_about wsX5_mayRise := goodIn_r _ [35, 16, 17, 18, 10, 19, 20, 21, 22, 23, 24, 25, 26, 27, 28, 29, 30, 31, 2, 5, 36, 37, 38, 39, 12, 40, 41, 42, 43, 44, 45, 46, 47, 3, 48, 49, 50, 51, 52, 53, 54, 55, 56, 57, 58, 59, 60, 61, 62, 63, 64, 65, 66, 67, 68, 69, 70, 71, 72, 73, 74, 75, 76, 77, 78, 79, 80, 81, 82, 83] (by decide +kernel) (by decide +kernel)
set_option maxRecDepth 20000 in
theorem gX5_about_X5_mayRise : GoodIn wsX5_about (wsV RX5 163 RX5 yX5_mayRise wsX5_mayRise) := goodIn_app (goodIn_of _ (by decide +kernel)) ggX5_about_X5_mayRise
set_option maxRecDepth 20000 in
theorem ggX5_about_X5_overThatLie : GoodIn wsX5_about wsX5_overThatLie := goodIn_r _ [39, 12, 16, 17, 18, 10, 19, 40, 41, 42, 43, 44, 45, 46, 47, 5, 2, 3, 48, 49, 50, 51, 52, 53, 54, 55, 56, 57, 62, 63, 64, 65, 66, 67, 68, 69, 70, 71, 72, 73, 74, 75, 76, 77, 78, 79, 80, 81, 82, 83] (by decide +kernel) (by decide +kernel)
set_option maxRecDepth 20000 in
theorem gX5_about_X5_overThatLie : GoodIn wsX5_about (wsV RX5 157 RX5 yX5_overThatLie wsX5_overThatLie) := goodIn_app (goodIn_of _ (by decide +kernel)) ggX5_about_X5_overThatLie
theorem dX5_about_0 : decode cX5_about 0 = .ok (.aload_n 0, 1) := by decide +kernel
theorem dX5_about_1 : decode cX5_about 1 = .ok (.iload_n 1, 1) := by decide +kernel
theorem dX5_about_2 : decode cX5_about 2 = .ok (.invokevirtual 118, 3) := by decide +kernel
theorem dX5_about_5 : decode cX5_about 5 = .ok (.ifCond .eq 5, 3) := by decide +kernel
theorem dX5_about_8 : decode cX5_about 8 = .ok (.iconst (-1), 1) := by decide +kernel
theorem dX5_about_9 : decode cX5_about 9 = .ok (.ireturn, 1) := by decide +kernel
theorem dX5_about_10 : decode cX5_about 10 = .ok (.iload_n 2, 1) := by decide +kernel
theorem dX5_about_11 : decode cX5_about 11 = .ok (.tableswitch 166 0 9 #[53, 60, 67, 74, 81, 88, 106, 132, 150, 156], 53) := by decide +kernel
theorem dX5_about_64 : decode cX5_about 64 = .ok (.aload_n 0, 1) := by decide +kernel
theorem dX5_about_65 : decode cX5_about 65 = .ok (.getfield 13, 3) := by decide +kernel
theorem dX5_about_68 : decode cX5_about 68 = .ok (.iload_n 1, 1) := by decide +kernel
theorem dX5_about_69 : decode cX5_about 69 = .ok (.iaload, 1) := by decide +kernel
theorem dX5_about_70 : decode cX5_about 70 = .ok (.ireturn, 1) := by decide +kernel
theorem dX5_about_71 : decode cX5_about 71 = .ok (.aload_n 0, 1) := by decide +kernel
theorem dX5_about_72 : decode cX5_about 72 = .ok (.getfield 16, 3) := by decide +kernel
theorem dX5_about_75 : decode cX5_about 75 = .ok (.iload_n 1, 1) := by decide +kernel
theorem dX5_about_76 : decode cX5_about 76 = .ok (.iaload, 1) := by decide +kernel
theorem dX5_about_77 : decode cX5_about 77 = .ok (.ireturn, 1) := by decide +kernel
theorem dX5_about_78 : decode cX5_about 78 = .ok (.aload_n 0, 1) := by decide +kernel
theorem dX5_about_79 : decode cX5_about 79 = .ok (.getfield 19, 3) := by decide +kernel
theorem dX5_about_82 : decode cX5_about 82 = .ok (.iload_n 1, 1) := by decide +kernel
theorem dX5_about_83 : decode cX5_about 83 = .ok (.iaload, 1) := by decide +kernel
theorem dX5_about_84 : decode cX5_about 84 = .ok (.ireturn, 1) := by decide +kernel
theorem dX5_about_85 : decode cX5_about 85 = .ok (.aload_n 0, 1) := by decide +kernel
theorem dX5_about_86 : decode cX5_about 86 = .ok (.getfield 22, 3) := by decide +kernel
theorem dX5_about_89 : decode cX5_about 89 = .ok (.iload_n 1, 1) := by decide +kernel
theorem dX5_about_90 : decode cX5_about 90 = .ok (.iaload, 1) := by decide +kernel
theorem dX5_about_91 : decode cX5_about 91 = .ok (.ireturn, 1) := by decide +kernel
theorem dX5_about_92 : decode cX5_about 92 = .ok (.aload_n 0, 1) := by decide +kernel
theorem dX5_about_93 : decode cX5_about 93 = .ok (.getfield 25, 3) := by decide +kernel
theorem dX5_about_96 : decode cX5_about 96 = .ok (.iload_n 1, 1) := by decide +kernel
theorem dX5_about_97 : decode cX5_about 97 = .ok (.iaload, 1) := by decide +kernel
theorem dX5_about_98 : decode cX5_about 98 = .ok (.ireturn, 1) := by decide +kernel
theorem dX5_about_99 : decode cX5_about 99 = .ok (.aload_n 0, 1) := by decide +kernel
theorem dX5_about_100 : decode cX5_about 100 = .ok (.aload_n 0, 1) := by decide +kernel
theorem dX5_about_101 : decode cX5_about 101 = .ok (.getfield 125, 3) := by decide +kernel
theorem dX5_about_104 : decode cX5_about 104 = .ok (.iload_n 1, 1) := by decide +kernel
theorem dX5_about_105 : decode cX5_about 105 = .ok (.invokevirtual 128, 3) := by decide +kernel
theorem dX5_about_108 : decode cX5_about 108 = .ok (.ifCond .eq 7, 3) := by decide +kernel
theorem dX5_about_111 : decode cX5_about 111 = .ok (.iconst 1, 1) := by decide +kernel
theorem dX5_about_112 : decode cX5_about 112 = .ok (.goto 4, 3) := by decide +kernel
theorem dX5_about_115 : decode cX5_about 115 = .ok (.iconst 0, 1) := by decide +kernel
theorem dX5_about_116 : decode cX5_about 116 = .ok (.ireturn, 1) := by decide +kernel
theorem dX5_about_117 : decode cX5_about 117 = .ok (.aload_n 0, 1) := by decide +kernel
theorem dX5_about_118 : decode cX5_about 118 = .ok (.aload_n 0, 1) := by decide +kernel
theorem dX5_about_119 : decode cX5_about 119 = .ok (.getfield 125, 3) := by decide +kernel
theorem dX5_about_122 : decode cX5_about 122 = .ok (.iload_n 1, 1) := by decide +kernel
theorem dX5_about_123 : decode cX5_about 123 = .ok (.invokevirtual 128, 3) := by decide +kernel
theorem dX5_about_126 : decode cX5_about 126 = .ok (.ifCond .eq 15, 3) := by decide +kernel
theorem dX5_about_129 : decode cX5_about 129 = .ok (.aload_n 0, 1) := by decide +kernel
theorem dX5_about_130 : decode cX5_about 130 = .ok (.iload_n 1, 1) := by decide +kernel
theorem dX5_about_131 : decode cX5_about 131 = .ok (.invokevirtual 154, 3) := by decide +kernel
theorem dX5_about_134 : decode cX5_about 134 = .ok (.ifCond .le 7, 3) := by decide +kernel
theorem dX5_about_137 : decode cX5_about 137 = .ok (.iconst 1, 1) := by decide +kernel
theorem dX5_about_138 : decode cX5_about 138 = .ok (.goto 4, 3) := by decide +kernel
theorem dX5_about_141 : decode cX5_about 141 = .ok (.iconst 0, 1) := by decide +kernel
theorem dX5_about_142 : decode cX5_about 142 = .ok (.ireturn, 1) := by decide +kernel
theorem dX5_about_143 : decode cX5_about 143 = .ok (.aload_n 0, 1) := by decide +kernel
theorem dX5_about_144 : decode cX5_about 144 = .ok (.aload_n 0, 1) := by decide +kernel
theorem dX5_about_145 : decode cX5_about 145 = .ok (.getfield 125, 3) := by decide +kernel
theorem dX5_about_148 : decode cX5_about 148 = .ok (.iload_n 1, 1) := by decide +kernel
theorem dX5_about_149 : decode cX5_about 149 = .ok (.invokevirtual 163, 3) := by decide +kernel
theorem dX5_about_152 : decode cX5_about 152 = .ok (.ifCond .eq 7, 3) := by decide +kernel
theorem dX5_about_155 : decode cX5_about 155 = .ok (.iconst 1, 1) := by decide +kernel
theorem dX5_about_156 : decode cX5_about 156 = .ok (.goto 4, 3) := by decide +kernel
theorem dX5_about_159 : decode cX5_about 159 = .ok (.iconst 0, 1) := by decide +kernel
theorem dX5_about_160 : decode cX5_about 160 = .ok (.ireturn, 1) := by decide +kernel
theorem dX5_about_161 : decode cX5_about 161 = .ok (.aload_n 0, 1) := by decide +kernel
theorem dX5_about_162 : decode cX5_about 162 = .ok (.iload_n 1, 1) := by decide +kernel
theorem dX5_about_163 : decode cX5_about 163 = .ok (.invokevirtual 154, 3) := by decide +kernel
theorem dX5_about_166 : decode cX5_about 166 = .ok (.ireturn, 1) := by decide +kernel
theorem dX5_about_167 : decode cX5_about 167 = .ok (.aload_n 0, 1) := by decide +kernel
theorem dX5_about_168 : decode cX5_about 168 = .ok (.aload_n 0, 1) := by decide +kernel
theorem dX5_about_169 : decode cX5_about 169 = .ok (.getfield 125, 3) := by decide +kernel
theorem dX5_about_172 : decode cX5_about 172 = .ok (.iload_n 1, 1) := by decide +kernel
theorem dX5_about_173 : decode cX5_about 173 = .ok (.invokevirtual 157, 3) := by decide +kernel
theorem dX5_about_176 : decode cX5_about 176 = .ok (.ireturn, 1) := by decide +kernel
theorem dX5_about_177 : decode cX5_about 177 = .ok (.bipush (-2), 2) := by decide +kernel
theorem dX5_about_179 : decode cX5_about 179 = .ok (.ireturn, 1) := by decide +kernel
set_option maxRecDepth 20000 in
theorem ggX5_raise_X5_noSpar : GoodIn wsX5_raise wsX5_noSpar := goodIn_r _ [6, 7, 8, 9, 5, 10, 63, 64, 65, 66, 67, 68, 69, 70, 71, 72, 73, 74, 75, 76, 77, 78, 79, 80, 81, 82, 83, 84] (by decide +kernel) (by decide +kernel)
set_option maxRecDepth 20000 in
theorem gX5_raise_X5_noSpar : GoodIn wsX5_raise (wsV RX5 118 RX5 yX5_noSpar wsX5_noSpar) := goodIn_app (goodIn_of _ (by decide +kernel)) ggX5_raise_X5_noSpar
set_option maxRecDepth 20000 in
theorem ggX5_raise_X5_mayRise : GoodIn wsX5_raise wsX5_mayRise := goodIn_r _ [14, 15, 16, 17, 5, 18, 19, 20, 21, 22, 23, 24, 25, 26, 27, 28, 29, 30, 31, 32, 33, 34, 35, 36, 7, 37, 38, 39, 40, 41, 42, 43, 44, 45, 46, 47, 48, 49, 50, 51, 52, 53, 54, 55, 56, 57, 58, 59, 63, 64, 65, 66, 67, 68, 69, 70, 71, 72, 73, 74, 75, 76, 77, 78, 79, 80, 81, 82, 83, 84] (by decide +kernel) (by decide +kernel)
set_option maxRecDepth 20000 in
theorem gX5_raise_X5_mayRise : GoodIn wsX5_raise (wsV RX5 163 RX5 yX5_mayRise wsX5_mayRise) := goodIn_app (goodIn_of _ (by decide +kernel)) ggX5_raise_X5_mayRise
set_option maxRecDepth 20000 in
theorem ggX5_raise_X5_count : GoodIn wsX5_raise wsX5_count := goodIn_r _ [62] (by decide +kernel) (by decide +kernel)
set_option maxRecDepth 20000 in
theorem gX5_raise_X5_count : GoodIn wsX5_raise (va_wsS RX5 166 yX5_count wsX5_count) := goodIn_app (goodIn_of _ (by decide +kernel)) ggX5_raise_X5_count
theorem dX5_raise_0 : decode cX5_raise 0 = .ok (.aload_n 0, 1) := by decide +kernel
theorem dX5_raise_1 : decode cX5_raise 1 = .ok (.iload_n 1, 1) := by decide +kernel
theorem dX5_raise_2 : decode cX5_raise 2 = .ok (.invokevirtual 118, 3) := by decide +kernel
theorem dX5_raise_5 : decode cX5_raise 5 = .ok (.ifCond .eq 5, 3) := by decide +kernel
theorem dX5_raise_8 : decode cX5_raise 8 = .ok (.iconst (-1), 1) := by decide +kernel
theorem dX5_raise_9 : decode cX5_raise 9 = .ok (.ireturn, 1) := by decide +kernel
theorem dX5_raise_10 : decode cX5_raise 10 = .ok (.aload_n 0, 1) := by decide +kernel
theorem dX5_raise_11 : decode cX5_raise 11 = .ok (.aload_n 0, 1) := by decide +kernel
theorem dX5_raise_12 : decode cX5_raise 12 = .ok (.getfield 125, 3) := by decide +kernel
theorem dX5_raise_15 : decode cX5_raise 15 = .ok (.iload_n 1, 1) := by decide +kernel
theorem dX5_raise_16 : decode cX5_raise 16 = .ok (.invokevirtual 163, 3) := by decide +kernel
theorem dX5_raise_19 : decode cX5_raise 19 = .ok (.ifCond .ne 6, 3) := by decide +kernel
theorem dX5_raise_22 : decode cX5_raise 22 = .ok (.bipush (-3), 2) := by decide +kernel
theorem dX5_raise_24 : decode cX5_raise 24 = .ok (.ireturn, 1) := by decide +kernel
theorem dX5_raise_25 : decode cX5_raise 25 = .ok (.aload_n 0, 1) := by decide +kernel
theorem dX5_raise_26 : decode cX5_raise 26 = .ok (.dup, 1) := by decide +kernel
theorem dX5_raise_27 : decode cX5_raise 27 = .ok (.getfield 125, 3) := by decide +kernel
theorem dX5_raise_30 : decode cX5_raise 30 = .ok (.iconst 1, 1) := by decide +kernel
theorem dX5_raise_31 : decode cX5_raise 31 = .ok (.iload_n 1, 1) := by decide +kernel
theorem dX5_raise_32 : decode cX5_raise 32 = .ok (.ishl, 1) := by decide +kernel
theorem dX5_raise_33 : decode cX5_raise 33 = .ok (.ior, 1) := by decide +kernel
theorem dX5_raise_34 : decode cX5_raise 34 = .ok (.putfield 125, 3) := by decide +kernel
theorem dX5_raise_37 : decode cX5_raise 37 = .ok (.aload_n 0, 1) := by decide +kernel
theorem dX5_raise_38 : decode cX5_raise 38 = .ok (.getfield 125, 3) := by decide +kernel
theorem dX5_raise_41 : decode cX5_raise 41 = .ok (.invokestatic 166, 3) := by decide +kernel
theorem dX5_raise_44 : decode cX5_raise 44 = .ok (.ireturn, 1) := by decide +kernel
set_option maxRecDepth 20000 in
theorem ggX5_lay_X5_noSpar : GoodIn wsX5_lay wsX5_noSpar := goodIn_r _ [7, 2, 8, 9, 6, 10, 47, 48, 49, 50, 51, 52, 53, 54, 55, 56, 57, 58, 59, 60, 61, 62, 63, 64, 65, 66, 67, 68] (by decide +kernel) (by decide +kernel)
set_option maxRecDepth 20000 in
theorem gX5_lay_X5_noSpar : GoodIn wsX5_lay (wsV RX5 118 RX5 yX5_noSpar wsX5_noSpar) := goodIn_app (goodIn_of _ (by decide +kernel)) ggX5_lay_X5_noSpar
set_option maxRecDepth 20000 in
theorem ggX5_lay_X5_isUp : GoodIn wsX5_lay wsX5_isUp := goodIn_r _ [14] (by decide +kernel) (by decide +kernel)
set_option maxRecDepth 20000 in
theorem gX5_lay_X5_isUp : GoodIn wsX5_lay (wsV RX5 128 RX5 yX5_isUp wsX5_isUp) := goodIn_app (goodIn_of _ (by decide +kernel)) ggX5_lay_X5_isUp
set_option maxRecDepth 20000 in
theorem ggX5_lay_X5_isBarred : GoodIn wsX5_lay wsX5_isBarred := goodIn_r _ [18, 2, 19, 11, 12, 13, 6, 14, 20, 21, 22, 23, 24, 25, 26, 27, 28, 29, 47, 48, 49, 50, 51, 52, 53, 54, 55, 56, 57, 58, 59, 60, 61, 62, 63, 64, 65, 66, 67, 68] (by decide +kernel) (by decide +kernel)
set_option maxRecDepth 20000 in
theorem gX5_lay_X5_isBarred : GoodIn wsX5_lay (wsV RX5 160 RX5 yX5_isBarred wsX5_isBarred) := goodIn_app (goodIn_of _ (by decide +kernel)) ggX5_lay_X5_isBarred
set_option maxRecDepth 20000 in
theorem ggX5_lay_X5_overThatLie : GoodIn wsX5_lay wsX5_overThatLie := goodIn_r _ [33, 2, 11, 12, 13, 6, 14, 34, 35, 36, 37, 26, 27, 28, 29, 24, 19, 25, 38, 39, 40, 20, 21, 22, 23, 41, 42, 43, 47, 48, 49, 50, 51, 52, 53, 54, 55, 56, 57, 58, 59, 60, 61, 62, 63, 64, 65, 66, 67, 68] (by decide +kernel) (by decide +kernel)
set_option maxRecDepth 20000 in
theorem gX5_lay_X5_overThatLie : GoodIn wsX5_lay (wsV RX5 157 RX5 yX5_overThatLie wsX5_overThatLie) := goodIn_app (goodIn_of _ (by decide +kernel)) ggX5_lay_X5_overThatLie
set_option maxRecDepth 20000 in
theorem ggX5_lay_X5_count : GoodIn wsX5_lay wsX5_count := goodIn_r _ [46] (by decide +kernel) (by decide +kernel)
set_option maxRecDepth 20000 in
theorem gX5_lay_X5_count : GoodIn wsX5_lay (va_wsS RX5 166 yX5_count wsX5_count) := goodIn_app (goodIn_of _ (by decide +kernel)) ggX5_lay_X5_count
theorem dX5_lay_0 : decode cX5_lay 0 = .ok (.aload_n 0, 1) := by decide +kernel
theorem dX5_lay_1 : decode cX5_lay 1 = .ok (.iload_n 1, 1) := by decide +kernel
theorem dX5_lay_2 : decode cX5_lay 2 = .ok (.invokevirtual 118, 3) := by decide +kernel
theorem dX5_lay_5 : decode cX5_lay 5 = .ok (.ifCond .eq 5, 3) := by decide +kernel
theorem dX5_lay_8 : decode cX5_lay 8 = .ok (.iconst (-1), 1) := by decide +kernel
theorem dX5_lay_9 : decode cX5_lay 9 = .ok (.ireturn, 1) := by decide +kernel
theorem dX5_lay_10 : decode cX5_lay 10 = .ok (.aload_n 0, 1) := by decide +kernel
theorem dX5_lay_11 : decode cX5_lay 11 = .ok (.aload_n 0, 1) := by decide +kernel
theorem dX5_lay_12 : decode cX5_lay 12 = .ok (.getfield 125, 3) := by decide +kernel
theorem dX5_lay_15 : decode cX5_lay 15 = .ok (.iload_n 1, 1) := by decide +kernel
theorem dX5_lay_16 : decode cX5_lay 16 = .ok (.invokevirtual 128, 3) := by decide +kernel
theorem dX5_lay_19 : decode cX5_lay 19 = .ok (.ifCond .eq 27, 3) := by decide +kernel
theorem dX5_lay_22 : decode cX5_lay 22 = .ok (.aload_n 0, 1) := by decide +kernel
theorem dX5_lay_23 : decode cX5_lay 23 = .ok (.aload_n 0, 1) := by decide +kernel
theorem dX5_lay_24 : decode cX5_lay 24 = .ok (.getfield 125, 3) := by decide +kernel
theorem dX5_lay_27 : decode cX5_lay 27 = .ok (.iload_n 1, 1) := by decide +kernel
theorem dX5_lay_28 : decode cX5_lay 28 = .ok (.invokevirtual 160, 3) := by decide +kernel
theorem dX5_lay_31 : decode cX5_lay 31 = .ok (.ifCond .ne 15, 3) := by decide +kernel
theorem dX5_lay_34 : decode cX5_lay 34 = .ok (.aload_n 0, 1) := by decide +kernel
theorem dX5_lay_35 : decode cX5_lay 35 = .ok (.aload_n 0, 1) := by decide +kernel
theorem dX5_lay_36 : decode cX5_lay 36 = .ok (.getfield 125, 3) := by decide +kernel
theorem dX5_lay_39 : decode cX5_lay 39 = .ok (.iload_n 1, 1) := by decide +kernel
theorem dX5_lay_40 : decode cX5_lay 40 = .ok (.invokevirtual 157, 3) := by decide +kernel
theorem dX5_lay_43 : decode cX5_lay 43 = .ok (.ifCond .le 6, 3) := by decide +kernel
theorem dX5_lay_46 : decode cX5_lay 46 = .ok (.bipush (-3), 2) := by decide +kernel
theorem dX5_lay_48 : decode cX5_lay 48 = .ok (.ireturn, 1) := by decide +kernel
theorem dX5_lay_49 : decode cX5_lay 49 = .ok (.aload_n 0, 1) := by decide +kernel
theorem dX5_lay_50 : decode cX5_lay 50 = .ok (.dup, 1) := by decide +kernel
theorem dX5_lay_51 : decode cX5_lay 51 = .ok (.getfield 125, 3) := by decide +kernel
theorem dX5_lay_54 : decode cX5_lay 54 = .ok (.iconst 1, 1) := by decide +kernel
theorem dX5_lay_55 : decode cX5_lay 55 = .ok (.iload_n 1, 1) := by decide +kernel
theorem dX5_lay_56 : decode cX5_lay 56 = .ok (.ishl, 1) := by decide +kernel
theorem dX5_lay_57 : decode cX5_lay 57 = .ok (.iconst (-1), 1) := by decide +kernel
theorem dX5_lay_58 : decode cX5_lay 58 = .ok (.ixor, 1) := by decide +kernel
theorem dX5_lay_59 : decode cX5_lay 59 = .ok (.iand, 1) := by decide +kernel
theorem dX5_lay_60 : decode cX5_lay 60 = .ok (.putfield 125, 3) := by decide +kernel
theorem dX5_lay_63 : decode cX5_lay 63 = .ok (.aload_n 0, 1) := by decide +kernel
theorem dX5_lay_64 : decode cX5_lay 64 = .ok (.getfield 72, 3) := by decide +kernel
theorem dX5_lay_67 : decode cX5_lay 67 = .ok (.aload_n 0, 1) := by decide +kernel
theorem dX5_lay_68 : decode cX5_lay 68 = .ok (.getfield 125, 3) := by decide +kernel
theorem dX5_lay_71 : decode cX5_lay 71 = .ok (.invokestatic 166, 3) := by decide +kernel
theorem dX5_lay_74 : decode cX5_lay 74 = .ok (.isub, 1) := by decide +kernel
theorem dX5_lay_75 : decode cX5_lay 75 = .ok (.ireturn, 1) := by decide +kernel
set_option maxRecDepth 20000 in
theorem ggX5_settle_X5_isUp : GoodIn wsX5_settle wsX5_isUp := goodIn_r _ [7] (by decide +kernel) (by decide +kernel)
set_option maxRecDepth 20000 in
theorem gX5_settle_X5_isUp : GoodIn wsX5_settle (wsV RX5 128 RX5 yX5_isUp wsX5_isUp) := goodIn_app (goodIn_of _ (by decide +kernel)) ggX5_settle_X5_isUp
set_option maxRecDepth 20000 in
theorem ggX5_settle_X5_raisers : GoodIn wsX5_settle wsX5_raisers := goodIn_r _ [11, 12, 13, 14, 15, 16, 6, 17, 18, 19, 20, 21, 25, 26, 27, 28, 29, 30, 31, 32, 33, 34, 35, 36, 37, 38, 39, 40, 41, 42, 43, 44, 45, 46] (by decide +kernel) (by decide +kernel)
set_option maxRecDepth 20000 in
theorem gX5_settle_X5_raisers : GoodIn wsX5_settle (wsV RX5 154 RX5 yX5_raisers wsX5_raisers) := goodIn_app (goodIn_of _ (by decide +kernel)) ggX5_settle_X5_raisers
set_option maxRecDepth 20000 in
theorem ggX5_settle_X5_count : GoodIn wsX5_settle wsX5_count := goodIn_r _ [24] (by decide +kernel) (by decide +kernel)
set_option maxRecDepth 20000 in
theorem gX5_settle_X5_count : GoodIn wsX5_settle (va_wsS RX5 166 yX5_count wsX5_count) := goodIn_app (goodIn_of _ (by decide +kernel)) ggX5_settle_X5_count
theorem dX5_settle_0 : decode cX5_settle 0 = .ok (.iconst 0, 1) := by decide +kernel
theorem dX5_settle_1 : decode cX5_settle 1 = .ok (.istore_n 1, 1) := by decide +kernel
theorem dX5_settle_2 : decode cX5_settle 2 = .ok (.iconst 0, 1) := by decide +kernel
theorem dX5_settle_3 : decode cX5_settle 3 = .ok (.istore_n 2, 1) := by decide +kernel
theorem dX5_settle_4 : decode cX5_settle 4 = .ok (.iload_n 2, 1) := by decide +kernel
theorem dX5_settle_5 : decode cX5_settle 5 = .ok (.aload_n 0, 1) := by decide +kernel
theorem dX5_settle_6 : decode cX5_settle 6 = .ok (.getfield 72, 3) := by decide +kernel
theorem dX5_settle_9 : decode cX5_settle 9 = .ok (.if_icmp .ge 39, 3) := by decide +kernel
theorem dX5_settle_12 : decode cX5_settle 12 = .ok (.iload_n 1, 1) := by decide +kernel
theorem dX5_settle_13 : decode cX5_settle 13 = .ok (.aload_n 0, 1) := by decide +kernel
theorem dX5_settle_14 : decode cX5_settle 14 = .ok (.aload_n 0, 1) := by decide +kernel
theorem dX5_settle_15 : decode cX5_settle 15 = .ok (.getfield 125, 3) := by decide +kernel
theorem dX5_settle_18 : decode cX5_settle 18 = .ok (.iload_n 2, 1) := by decide +kernel
theorem dX5_settle_19 : decode cX5_settle 19 = .ok (.invokevirtual 128, 3) := by decide +kernel
theorem dX5_settle_22 : decode cX5_settle 22 = .ok (.ifCond .eq 17, 3) := by decide +kernel
theorem dX5_settle_25 : decode cX5_settle 25 = .ok (.aload_n 0, 1) := by decide +kernel
theorem dX5_settle_26 : decode cX5_settle 26 = .ok (.iload_n 2, 1) := by decide +kernel
theorem dX5_settle_27 : decode cX5_settle 27 = .ok (.invokevirtual 154, 3) := by decide +kernel
theorem dX5_settle_30 : decode cX5_settle 30 = .ok (.ifCond .ne 9, 3) := by decide +kernel
theorem dX5_settle_33 : decode cX5_settle 33 = .ok (.iconst 1, 1) := by decide +kernel
theorem dX5_settle_34 : decode cX5_settle 34 = .ok (.iload_n 2, 1) := by decide +kernel
theorem dX5_settle_35 : decode cX5_settle 35 = .ok (.ishl, 1) := by decide +kernel
theorem dX5_settle_36 : decode cX5_settle 36 = .ok (.goto 4, 3) := by decide +kernel
theorem dX5_settle_39 : decode cX5_settle 39 = .ok (.iconst 0, 1) := by decide +kernel
theorem dX5_settle_40 : decode cX5_settle 40 = .ok (.ior, 1) := by decide +kernel
theorem dX5_settle_41 : decode cX5_settle 41 = .ok (.istore_n 1, 1) := by decide +kernel
theorem dX5_settle_42 : decode cX5_settle 42 = .ok (.iinc 2 1, 3) := by decide +kernel
theorem dX5_settle_45 : decode cX5_settle 45 = .ok (.goto (-41), 3) := by decide +kernel
theorem dX5_settle_48 : decode cX5_settle 48 = .ok (.aload_n 0, 1) := by decide +kernel
theorem dX5_settle_49 : decode cX5_settle 49 = .ok (.dup, 1) := by decide +kernel
theorem dX5_settle_50 : decode cX5_settle 50 = .ok (.getfield 125, 3) := by decide +kernel
theorem dX5_settle_53 : decode cX5_settle 53 = .ok (.iload_n 1, 1) := by decide +kernel
theorem dX5_settle_54 : decode cX5_settle 54 = .ok (.iconst (-1), 1) := by decide +kernel
theorem dX5_settle_55 : decode cX5_settle 55 = .ok (.ixor, 1) := by decide +kernel
theorem dX5_settle_56 : decode cX5_settle 56 = .ok (.iand, 1) := by decide +kernel
theorem dX5_settle_57 : decode cX5_settle 57 = .ok (.putfield 125, 3) := by decide +kernel
theorem dX5_settle_60 : decode cX5_settle 60 = .ok (.iload_n 1, 1) := by decide +kernel
theorem dX5_settle_61 : decode cX5_settle 61 = .ok (.invokestatic 166, 3) := by decide +kernel
theorem dX5_settle_64 : decode cX5_settle 64 = .ok (.ireturn, 1) := by decide +kernel
set_option maxRecDepth 20000 in
theorem ggX5_findLeads_X5_mayRise : GoodIn wsX5_findLeads wsX5_mayRise := goodIn_r _ [7, 8, 9, 10, 6, 11, 12, 13, 14, 15, 16, 17, 18, 19, 20, 21, 22, 23, 24, 25, 26, 27, 28, 29, 1, 30, 31, 32, 33, 34, 35, 36, 37, 38, 39, 40, 41, 42, 43, 44, 45, 46, 47, 48, 49, 50, 51, 52, 53, 54, 55, 56, 57, 58, 59, 60, 61, 62, 63, 64, 65, 66, 67, 68, 69, 70, 71, 72, 73, 74] (by decide +kernel) (by decide +kernel)
set_option maxRecDepth 20000 in
theorem gX5_findLeads_X5_mayRise : GoodIn wsX5_findLeads (wsV RX5 163 RX5 yX5_mayRise wsX5_mayRise) := goodIn_app (goodIn_of _ (by decide +kernel)) ggX5_findLeads_X5_mayRise
theorem dX5_findLeads_0 : decode cX5_findLeads 0 = .ok (.iconst 1, 1) := by decide +kernel
theorem dX5_findLeads_1 : decode cX5_findLeads 1 = .ok (.aload_n 0, 1) := by decide +kernel
theorem dX5_findLeads_2 : decode cX5_findLeads 2 = .ok (.getfield 72, 3) := by decide +kernel
theorem dX5_findLeads_5 : decode cX5_findLeads 5 = .ok (.ishl, 1) := by decide +kernel
theorem dX5_findLeads_6 : decode cX5_findLeads 6 = .ok (.iconst 1, 1) := by decide +kernel
theorem dX5_findLeads_7 : decode cX5_findLeads 7 = .ok (.isub, 1) := by decide +kernel
theorem dX5_findLeads_8 : decode cX5_findLeads 8 = .ok (.istore_n 1, 1) := by decide +kernel
theorem dX5_findLeads_9 : decode cX5_findLeads 9 = .ok (.iload_n 1, 1) := by decide +kernel
theorem dX5_findLeads_10 : decode cX5_findLeads 10 = .ok (.istore_n 2, 1) := by decide +kernel
theorem dX5_findLeads_11 : decode cX5_findLeads 11 = .ok (.iload_n 2, 1) := by decide +kernel
theorem dX5_findLeads_12 : decode cX5_findLeads 12 = .ok (.ifCond .lt 83, 3) := by decide +kernel
theorem dX5_findLeads_15 : decode cX5_findLeads 15 = .ok (.aload_n 0, 1) := by decide +kernel
theorem dX5_findLeads_16 : decode cX5_findLeads 16 = .ok (.getfield 41, 3) := by decide +kernel
theorem dX5_findLeads_19 : decode cX5_findLeads 19 = .ok (.iload_n 2, 1) := by decide +kernel
theorem dX5_findLeads_20 : decode cX5_findLeads 20 = .ok (.iload_n 2, 1) := by decide +kernel
theorem dX5_findLeads_21 : decode cX5_findLeads 21 = .ok (.iload_n 1, 1) := by decide +kernel
theorem dX5_findLeads_22 : decode cX5_findLeads 22 = .ok (.if_icmp .ne 7, 3) := by decide +kernel
theorem dX5_findLeads_25 : decode cX5_findLeads 25 = .ok (.iconst 1, 1) := by decide +kernel
theorem dX5_findLeads_26 : decode cX5_findLeads 26 = .ok (.goto 4, 3) := by decide +kernel
theorem dX5_findLeads_29 : decode cX5_findLeads 29 = .ok (.iconst 0, 1) := by decide +kernel
theorem dX5_findLeads_30 : decode cX5_findLeads 30 = .ok (.bastore, 1) := by decide +kernel
theorem dX5_findLeads_31 : decode cX5_findLeads 31 = .ok (.iconst 0, 1) := by decide +kernel
theorem dX5_findLeads_32 : decode cX5_findLeads 32 = .ok (.istore_n 3, 1) := by decide +kernel
theorem dX5_findLeads_33 : decode cX5_findLeads 33 = .ok (.iload_n 3, 1) := by decide +kernel
theorem dX5_findLeads_34 : decode cX5_findLeads 34 = .ok (.aload_n 0, 1) := by decide +kernel
theorem dX5_findLeads_35 : decode cX5_findLeads 35 = .ok (.getfield 72, 3) := by decide +kernel
theorem dX5_findLeads_38 : decode cX5_findLeads 38 = .ok (.if_icmp .ge 51, 3) := by decide +kernel
theorem dX5_findLeads_41 : decode cX5_findLeads 41 = .ok (.aload_n 0, 1) := by decide +kernel
theorem dX5_findLeads_42 : decode cX5_findLeads 42 = .ok (.getfield 41, 3) := by decide +kernel
theorem dX5_findLeads_45 : decode cX5_findLeads 45 = .ok (.iload_n 2, 1) := by decide +kernel
theorem dX5_findLeads_46 : decode cX5_findLeads 46 = .ok (.baload, 1) := by decide +kernel
theorem dX5_findLeads_47 : decode cX5_findLeads 47 = .ok (.ifCond .ne 42, 3) := by decide +kernel
theorem dX5_findLeads_50 : decode cX5_findLeads 50 = .ok (.aload_n 0, 1) := by decide +kernel
theorem dX5_findLeads_51 : decode cX5_findLeads 51 = .ok (.getfield 41, 3) := by decide +kernel
theorem dX5_findLeads_54 : decode cX5_findLeads 54 = .ok (.iload_n 2, 1) := by decide +kernel
theorem dX5_findLeads_55 : decode cX5_findLeads 55 = .ok (.aload_n 0, 1) := by decide +kernel
theorem dX5_findLeads_56 : decode cX5_findLeads 56 = .ok (.iload_n 2, 1) := by decide +kernel
theorem dX5_findLeads_57 : decode cX5_findLeads 57 = .ok (.iload_n 3, 1) := by decide +kernel
theorem dX5_findLeads_58 : decode cX5_findLeads 58 = .ok (.invokevirtual 163, 3) := by decide +kernel
theorem dX5_findLeads_61 : decode cX5_findLeads 61 = .ok (.ifCond .eq 20, 3) := by decide +kernel
theorem dX5_findLeads_64 : decode cX5_findLeads 64 = .ok (.aload_n 0, 1) := by decide +kernel
theorem dX5_findLeads_65 : decode cX5_findLeads 65 = .ok (.getfield 41, 3) := by decide +kernel
theorem dX5_findLeads_68 : decode cX5_findLeads 68 = .ok (.iload_n 2, 1) := by decide +kernel
theorem dX5_findLeads_69 : decode cX5_findLeads 69 = .ok (.iconst 1, 1) := by decide +kernel
theorem dX5_findLeads_70 : decode cX5_findLeads 70 = .ok (.iload_n 3, 1) := by decide +kernel
theorem dX5_findLeads_71 : decode cX5_findLeads 71 = .ok (.ishl, 1) := by decide +kernel
theorem dX5_findLeads_72 : decode cX5_findLeads 72 = .ok (.ior, 1) := by decide +kernel
theorem dX5_findLeads_73 : decode cX5_findLeads 73 = .ok (.baload, 1) := by decide +kernel
theorem dX5_findLeads_74 : decode cX5_findLeads 74 = .ok (.ifCond .eq 7, 3) := by decide +kernel
theorem dX5_findLeads_77 : decode cX5_findLeads 77 = .ok (.iconst 1, 1) := by decide +kernel
theorem dX5_findLeads_78 : decode cX5_findLeads 78 = .ok (.goto 4, 3) := by decide +kernel
theorem dX5_findLeads_81 : decode cX5_findLeads 81 = .ok (.iconst 0, 1) := by decide +kernel
theorem dX5_findLeads_82 : decode cX5_findLeads 82 = .ok (.bastore, 1) := by decide +kernel
theorem dX5_findLeads_83 : decode cX5_findLeads 83 = .ok (.iinc 3 1, 3) := by decide +kernel
theorem dX5_findLeads_86 : decode cX5_findLeads 86 = .ok (.goto (-53), 3) := by decide +kernel
theorem dX5_findLeads_89 : decode cX5_findLeads 89 = .ok (.iinc 2 (-1), 3) := by decide +kernel
theorem dX5_findLeads_92 : decode cX5_findLeads 92 = .ok (.goto (-81), 3) := by decide +kernel
theorem dX5_findLeads_95 : decode cX5_findLeads 95 = .ok (.return_, 1) := by decide +kernel
set_option maxRecDepth 20000 in
theorem ggX5_order_X5_count : GoodIn wsX5_order wsX5_count := goodIn_r _ [7] (by decide +kernel) (by decide +kernel)
set_option maxRecDepth 20000 in
theorem gX5_order_X5_count : GoodIn wsX5_order (va_wsS RX5 166 yX5_count wsX5_count) := goodIn_app (goodIn_of _ (by decide +kernel)) ggX5_order_X5_count
set_option maxRecDepth 20000 in
theorem ggX5_order_X5_in : GoodIn wsX5_order wsX5_in := goodIn_r _ [10] (by decide +kernel) (by decide +kernel)
set_option maxRecDepth 20000 in
theorem gX5_order_X5_in : GoodIn wsX5_order (va_wsS RX5 75 yX5_in wsX5_in) := goodIn_app (goodIn_of _ (by decide +kernel)) ggX5_order_X5_in
set_option maxRecDepth 20000 in
theorem ggX5_order_X5_findLeads : GoodIn wsX5_order wsX5_findLeads := goodIn_r _ [14, 1, 3, 15, 16, 17, 6, 18, 19, 20, 21, 22, 23, 24, 25, 26, 27, 28, 29, 30, 31, 32, 33, 34, 35, 36, 37, 38, 39, 40, 41, 42, 43, 44, 45, 46, 47, 48, 49, 50, 51, 52, 53, 54, 55, 56, 57, 58, 59, 60, 61, 62, 63, 64, 65, 66, 67, 68, 69, 70, 71, 72, 73, 74, 75, 76, 77, 78, 79, 80, 81, 82, 83, 84, 85] (by decide +kernel) (by decide +kernel)
set_option maxRecDepth 20000 in
theorem gX5_order_X5_findLeads : GoodIn wsX5_order (wsV RX5 169 RX5 yX5_findLeads wsX5_findLeads) := goodIn_app (goodIn_of _ (by decide +kernel)) ggX5_order_X5_findLeads
set_option maxRecDepth 20000 in
theorem ggX5_order_X5_mayRise : GoodIn wsX5_order wsX5_mayRise := goodIn_r _ [18, 19, 20, 21, 6, 22, 23, 24, 25, 26, 27, 28, 29, 30, 31, 32, 33, 34, 35, 36, 37, 38, 39, 40, 1, 41, 42, 43, 44, 45, 46, 47, 48, 49, 50, 51, 52, 53, 54, 55, 56, 57, 58, 59, 60, 61, 62, 63, 64, 65, 66, 67, 68, 69, 70, 71, 72, 73, 74, 75, 76, 77, 78, 79, 80, 81, 82, 83, 84, 85] (by decide +kernel) (by decide +kernel)
set_option maxRecDepth 20000 in
theorem gX5_order_X5_mayRise : GoodIn wsX5_order (wsV RX5 163 RX5 yX5_mayRise wsX5_mayRise) := goodIn_app (goodIn_of _ (by decide +kernel)) ggX5_order_X5_mayRise
theorem dX5_order_0 : decode cX5_order 0 = .ok (.iload_n 1, 1) := by decide +kernel
theorem dX5_order_1 : decode cX5_order 1 = .ok (.i2l, 1) := by decide +kernel
theorem dX5_order_2 : decode cX5_order 2 = .ok (.lconst 0, 1) := by decide +kernel
theorem dX5_order_3 : decode cX5_order 3 = .ok (.aload_n 0, 1) := by decide +kernel
theorem dX5_order_4 : decode cX5_order 4 = .ok (.getfield 72, 3) := by decide +kernel
theorem dX5_order_7 : decode cX5_order 7 = .ok (.aload_n 0, 1) := by decide +kernel
theorem dX5_order_8 : decode cX5_order 8 = .ok (.getfield 125, 3) := by decide +kernel
theorem dX5_order_11 : decode cX5_order 11 = .ok (.invokestatic 166, 3) := by decide +kernel
theorem dX5_order_14 : decode cX5_order 14 = .ok (.isub, 1) := by decide +kernel
theorem dX5_order_15 : decode cX5_order 15 = .ok (.i2l, 1) := by decide +kernel
theorem dX5_order_16 : decode cX5_order 16 = .ok (.lconst 1, 1) := by decide +kernel
theorem dX5_order_17 : decode cX5_order 17 = .ok (.lsub, 1) := by decide +kernel
theorem dX5_order_18 : decode cX5_order 18 = .ok (.invokestatic 75, 3) := by decide +kernel
theorem dX5_order_21 : decode cX5_order 21 = .ok (.ifCond .ne 5, 3) := by decide +kernel
theorem dX5_order_24 : decode cX5_order 24 = .ok (.iconst (-1), 1) := by decide +kernel
theorem dX5_order_25 : decode cX5_order 25 = .ok (.ireturn, 1) := by decide +kernel
theorem dX5_order_26 : decode cX5_order 26 = .ok (.aload_n 0, 1) := by decide +kernel
theorem dX5_order_27 : decode cX5_order 27 = .ok (.invokevirtual 169, 3) := by decide +kernel
theorem dX5_order_30 : decode cX5_order 30 = .ok (.aload_n 0, 1) := by decide +kernel
theorem dX5_order_31 : decode cX5_order 31 = .ok (.getfield 41, 3) := by decide +kernel
theorem dX5_order_34 : decode cX5_order 34 = .ok (.aload_n 0, 1) := by decide +kernel
theorem dX5_order_35 : decode cX5_order 35 = .ok (.getfield 125, 3) := by decide +kernel
theorem dX5_order_38 : decode cX5_order 38 = .ok (.baload, 1) := by decide +kernel
theorem dX5_order_39 : decode cX5_order 39 = .ok (.ifCond .ne 6, 3) := by decide +kernel
theorem dX5_order_42 : decode cX5_order 42 = .ok (.bipush (-9), 2) := by decide +kernel
theorem dX5_order_44 : decode cX5_order 44 = .ok (.ireturn, 1) := by decide +kernel
theorem dX5_order_45 : decode cX5_order 45 = .ok (.aload_n 0, 1) := by decide +kernel
theorem dX5_order_46 : decode cX5_order 46 = .ok (.getfield 125, 3) := by decide +kernel
theorem dX5_order_49 : decode cX5_order 49 = .ok (.istore_n 2, 1) := by decide +kernel
theorem dX5_order_50 : decode cX5_order 50 = .ok (.iconst (-1), 1) := by decide +kernel
theorem dX5_order_51 : decode cX5_order 51 = .ok (.istore_n 3, 1) := by decide +kernel
theorem dX5_order_52 : decode cX5_order 52 = .ok (.iconst 0, 1) := by decide +kernel
theorem dX5_order_53 : decode cX5_order 53 = .ok (.istore 4, 2) := by decide +kernel
theorem dX5_order_55 : decode cX5_order 55 = .ok (.iload 4, 2) := by decide +kernel
theorem dX5_order_57 : decode cX5_order 57 = .ok (.iload_n 1, 1) := by decide +kernel
theorem dX5_order_58 : decode cX5_order 58 = .ok (.if_icmp .gt 45, 3) := by decide +kernel
theorem dX5_order_61 : decode cX5_order 61 = .ok (.iconst 0, 1) := by decide +kernel
theorem dX5_order_62 : decode cX5_order 62 = .ok (.istore_n 3, 1) := by decide +kernel
theorem dX5_order_63 : decode cX5_order 63 = .ok (.aload_n 0, 1) := by decide +kernel
theorem dX5_order_64 : decode cX5_order 64 = .ok (.iload_n 2, 1) := by decide +kernel
theorem dX5_order_65 : decode cX5_order 65 = .ok (.iload_n 3, 1) := by decide +kernel
theorem dX5_order_66 : decode cX5_order 66 = .ok (.invokevirtual 163, 3) := by decide +kernel
theorem dX5_order_69 : decode cX5_order 69 = .ok (.ifCond .eq 16, 3) := by decide +kernel
theorem dX5_order_72 : decode cX5_order 72 = .ok (.aload_n 0, 1) := by decide +kernel
theorem dX5_order_73 : decode cX5_order 73 = .ok (.getfield 41, 3) := by decide +kernel
theorem dX5_order_76 : decode cX5_order 76 = .ok (.iload_n 2, 1) := by decide +kernel
theorem dX5_order_77 : decode cX5_order 77 = .ok (.iconst 1, 1) := by decide +kernel
theorem dX5_order_78 : decode cX5_order 78 = .ok (.iload_n 3, 1) := by decide +kernel
theorem dX5_order_79 : decode cX5_order 79 = .ok (.ishl, 1) := by decide +kernel
theorem dX5_order_80 : decode cX5_order 80 = .ok (.ior, 1) := by decide +kernel
theorem dX5_order_81 : decode cX5_order 81 = .ok (.baload, 1) := by decide +kernel
theorem dX5_order_82 : decode cX5_order 82 = .ok (.ifCond .ne 9, 3) := by decide +kernel
theorem dX5_order_85 : decode cX5_order 85 = .ok (.iinc 3 1, 3) := by decide +kernel
theorem dX5_order_88 : decode cX5_order 88 = .ok (.goto (-25), 3) := by decide +kernel
theorem dX5_order_91 : decode cX5_order 91 = .ok (.iload_n 2, 1) := by decide +kernel
theorem dX5_order_92 : decode cX5_order 92 = .ok (.iconst 1, 1) := by decide +kernel
theorem dX5_order_93 : decode cX5_order 93 = .ok (.iload_n 3, 1) := by decide +kernel
theorem dX5_order_94 : decode cX5_order 94 = .ok (.ishl, 1) := by decide +kernel
theorem dX5_order_95 : decode cX5_order 95 = .ok (.ior, 1) := by decide +kernel
theorem dX5_order_96 : decode cX5_order 96 = .ok (.istore_n 2, 1) := by decide +kernel
theorem dX5_order_97 : decode cX5_order 97 = .ok (.iinc 4 1, 3) := by decide +kernel
theorem dX5_order_100 : decode cX5_order 100 = .ok (.goto (-45), 3) := by decide +kernel
theorem dX5_order_103 : decode cX5_order 103 = .ok (.iload_n 3, 1) := by decide +kernel
theorem dX5_order_104 : decode cX5_order 104 = .ok (.ireturn, 1) := by decide +kernel
set_option maxRecDepth 20000 in
theorem ggX5_rising_X5_in : GoodIn wsX5_rising wsX5_in := goodIn_r _ [8] (by decide +kernel) (by decide +kernel)
set_option maxRecDepth 20000 in
theorem gX5_rising_X5_in : GoodIn wsX5_rising (va_wsS RX5 75 yX5_in wsX5_in) := goodIn_app (goodIn_of _ (by decide +kernel)) ggX5_rising_X5_in
set_option maxRecDepth 20000 in
theorem ggX5_rising_X5_count : GoodIn wsX5_rising wsX5_count := goodIn_r _ [11] (by decide +kernel) (by decide +kernel)
set_option maxRecDepth 20000 in
theorem gX5_rising_X5_count : GoodIn wsX5_rising (va_wsS RX5 166 yX5_count wsX5_count) := goodIn_app (goodIn_of _ (by decide +kernel)) ggX5_rising_X5_count
set_option maxRecDepth 20000 in
theorem ggX5_rising_X5_greater : GoodIn wsX5_rising wsX5_greater := goodIn_r _ [14] (by decide +kernel) (by decide +kernel)
set_option maxRecDepth 20000 in
theorem gX5_rising_X5_greater : GoodIn wsX5_rising (va_wsS RX5 115 yX5_greater wsX5_greater) := goodIn_app (goodIn_of _ (by decide +kernel)) ggX5_rising_X5_greater
set_option maxRecDepth 20000 in
theorem ggX5_rising_X5_mayRise : GoodIn wsX5_rising wsX5_mayRise := goodIn_r _ [18, 19, 20, 21, 7, 22, 23, 24, 25, 26, 27, 28, 29, 30, 31, 32, 33, 34, 35, 36, 37, 38, 39, 40, 2, 41, 42, 43, 44, 45, 46, 47, 48, 49, 50, 51, 52, 53, 54, 55, 56, 12, 13, 14, 57, 58, 59, 60, 61, 62, 63, 64, 65, 66, 67, 68, 69, 70, 71, 72, 73, 74, 75, 76, 77, 78, 79, 80, 81, 82] (by decide +kernel) (by decide +kernel)
set_option maxRecDepth 20000 in
theorem gX5_rising_X5_mayRise : GoodIn wsX5_rising (wsV RX5 163 RX5 yX5_mayRise wsX5_mayRise) := goodIn_app (goodIn_of _ (by decide +kernel)) ggX5_rising_X5_mayRise
theorem dX5_rising_0 : decode cX5_rising 0 = .ok (.iload_n 1, 1) := by decide +kernel
theorem dX5_rising_1 : decode cX5_rising 1 = .ok (.i2l, 1) := by decide +kernel
theorem dX5_rising_2 : decode cX5_rising 2 = .ok (.lconst 0, 1) := by decide +kernel
theorem dX5_rising_3 : decode cX5_rising 3 = .ok (.ldc2_w 92, 3) := by decide +kernel
theorem dX5_rising_6 : decode cX5_rising 6 = .ok (.invokestatic 75, 3) := by decide +kernel
theorem dX5_rising_9 : decode cX5_rising 9 = .ok (.ifCond .ne 6, 3) := by decide +kernel
theorem dX5_rising_12 : decode cX5_rising 12 = .ok (.bipush (-2), 2) := by decide +kernel
theorem dX5_rising_14 : decode cX5_rising 14 = .ok (.ireturn, 1) := by decide +kernel
theorem dX5_rising_15 : decode cX5_rising 15 = .ok (.iconst 1, 1) := by decide +kernel
theorem dX5_rising_16 : decode cX5_rising 16 = .ok (.aload_n 0, 1) := by decide +kernel
theorem dX5_rising_17 : decode cX5_rising 17 = .ok (.getfield 72, 3) := by decide +kernel
theorem dX5_rising_20 : decode cX5_rising 20 = .ok (.ishl, 1) := by decide +kernel
theorem dX5_rising_21 : decode cX5_rising 21 = .ok (.iconst 1, 1) := by decide +kernel
theorem dX5_rising_22 : decode cX5_rising 22 = .ok (.isub, 1) := by decide +kernel
theorem dX5_rising_23 : decode cX5_rising 23 = .ok (.istore_n 2, 1) := by decide +kernel
theorem dX5_rising_24 : decode cX5_rising 24 = .ok (.iconst 0, 1) := by decide +kernel
theorem dX5_rising_25 : decode cX5_rising 25 = .ok (.istore_n 3, 1) := by decide +kernel
theorem dX5_rising_26 : decode cX5_rising 26 = .ok (.iconst 0, 1) := by decide +kernel
theorem dX5_rising_27 : decode cX5_rising 27 = .ok (.istore 4, 2) := by decide +kernel
theorem dX5_rising_29 : decode cX5_rising 29 = .ok (.iconst 0, 1) := by decide +kernel
theorem dX5_rising_30 : decode cX5_rising 30 = .ok (.istore 5, 2) := by decide +kernel
theorem dX5_rising_32 : decode cX5_rising 32 = .ok (.iconst 0, 1) := by decide +kernel
theorem dX5_rising_33 : decode cX5_rising 33 = .ok (.istore 6, 2) := by decide +kernel
theorem dX5_rising_35 : decode cX5_rising 35 = .ok (.iload 6, 2) := by decide +kernel
theorem dX5_rising_37 : decode cX5_rising 37 = .ok (.iload_n 2, 1) := by decide +kernel
theorem dX5_rising_38 : decode cX5_rising 38 = .ok (.if_icmp .gt 30, 3) := by decide +kernel
theorem dX5_rising_41 : decode cX5_rising 41 = .ok (.aload_n 0, 1) := by decide +kernel
theorem dX5_rising_42 : decode cX5_rising 42 = .ok (.getfield 44, 3) := by decide +kernel
theorem dX5_rising_45 : decode cX5_rising 45 = .ok (.iload 6, 2) := by decide +kernel
theorem dX5_rising_47 : decode cX5_rising 47 = .ok (.iload 6, 2) := by decide +kernel
theorem dX5_rising_49 : decode cX5_rising 49 = .ok (.aload_n 0, 1) := by decide +kernel
theorem dX5_rising_50 : decode cX5_rising 50 = .ok (.getfield 125, 3) := by decide +kernel
theorem dX5_rising_53 : decode cX5_rising 53 = .ok (.if_icmp .ne 7, 3) := by decide +kernel
theorem dX5_rising_56 : decode cX5_rising 56 = .ok (.iconst 1, 1) := by decide +kernel
theorem dX5_rising_57 : decode cX5_rising 57 = .ok (.goto 4, 3) := by decide +kernel
theorem dX5_rising_60 : decode cX5_rising 60 = .ok (.iconst 0, 1) := by decide +kernel
theorem dX5_rising_61 : decode cX5_rising 61 = .ok (.bastore, 1) := by decide +kernel
theorem dX5_rising_62 : decode cX5_rising 62 = .ok (.iinc 6 1, 3) := by decide +kernel
theorem dX5_rising_65 : decode cX5_rising 65 = .ok (.goto (-30), 3) := by decide +kernel
theorem dX5_rising_68 : decode cX5_rising 68 = .ok (.aload_n 0, 1) := by decide +kernel
theorem dX5_rising_69 : decode cX5_rising 69 = .ok (.getfield 125, 3) := by decide +kernel
theorem dX5_rising_72 : decode cX5_rising 72 = .ok (.istore 6, 2) := by decide +kernel
theorem dX5_rising_74 : decode cX5_rising 74 = .ok (.iload 6, 2) := by decide +kernel
theorem dX5_rising_76 : decode cX5_rising 76 = .ok (.iload_n 2, 1) := by decide +kernel
theorem dX5_rising_77 : decode cX5_rising 77 = .ok (.if_icmp .gt 83, 3) := by decide +kernel
theorem dX5_rising_80 : decode cX5_rising 80 = .ok (.aload_n 0, 1) := by decide +kernel
theorem dX5_rising_81 : decode cX5_rising 81 = .ok (.getfield 44, 3) := by decide +kernel
theorem dX5_rising_84 : decode cX5_rising 84 = .ok (.iload 6, 2) := by decide +kernel
theorem dX5_rising_86 : decode cX5_rising 86 = .ok (.baload, 1) := by decide +kernel
theorem dX5_rising_87 : decode cX5_rising 87 = .ok (.ifCond .eq 67, 3) := by decide +kernel
theorem dX5_rising_90 : decode cX5_rising 90 = .ok (.iinc 3 1, 3) := by decide +kernel
theorem dX5_rising_93 : decode cX5_rising 93 = .ok (.iload 4, 2) := by decide +kernel
theorem dX5_rising_95 : decode cX5_rising 95 = .ok (.iload 6, 2) := by decide +kernel
theorem dX5_rising_97 : decode cX5_rising 97 = .ok (.invokestatic 166, 3) := by decide +kernel
theorem dX5_rising_100 : decode cX5_rising 100 = .ok (.invokestatic 115, 3) := by decide +kernel
theorem dX5_rising_103 : decode cX5_rising 103 = .ok (.istore 4, 2) := by decide +kernel
theorem dX5_rising_105 : decode cX5_rising 105 = .ok (.iload 5, 2) := by decide +kernel
theorem dX5_rising_107 : decode cX5_rising 107 = .ok (.iload 6, 2) := by decide +kernel
theorem dX5_rising_109 : decode cX5_rising 109 = .ok (.ior, 1) := by decide +kernel
theorem dX5_rising_110 : decode cX5_rising 110 = .ok (.istore 5, 2) := by decide +kernel
theorem dX5_rising_112 : decode cX5_rising 112 = .ok (.iconst 0, 1) := by decide +kernel
theorem dX5_rising_113 : decode cX5_rising 113 = .ok (.istore 7, 2) := by decide +kernel
theorem dX5_rising_115 : decode cX5_rising 115 = .ok (.iload 7, 2) := by decide +kernel
theorem dX5_rising_117 : decode cX5_rising 117 = .ok (.aload_n 0, 1) := by decide +kernel
theorem dX5_rising_118 : decode cX5_rising 118 = .ok (.getfield 72, 3) := by decide +kernel
theorem dX5_rising_121 : decode cX5_rising 121 = .ok (.if_icmp .ge 33, 3) := by decide +kernel
theorem dX5_rising_124 : decode cX5_rising 124 = .ok (.aload_n 0, 1) := by decide +kernel
theorem dX5_rising_125 : decode cX5_rising 125 = .ok (.iload 6, 2) := by decide +kernel
theorem dX5_rising_127 : decode cX5_rising 127 = .ok (.iload 7, 2) := by decide +kernel
theorem dX5_rising_129 : decode cX5_rising 129 = .ok (.invokevirtual 163, 3) := by decide +kernel
theorem dX5_rising_132 : decode cX5_rising 132 = .ok (.ifCond .eq 16, 3) := by decide +kernel
theorem dX5_rising_135 : decode cX5_rising 135 = .ok (.aload_n 0, 1) := by decide +kernel
theorem dX5_rising_136 : decode cX5_rising 136 = .ok (.getfield 44, 3) := by decide +kernel
theorem dX5_rising_139 : decode cX5_rising 139 = .ok (.iload 6, 2) := by decide +kernel
theorem dX5_rising_141 : decode cX5_rising 141 = .ok (.iconst 1, 1) := by decide +kernel
theorem dX5_rising_142 : decode cX5_rising 142 = .ok (.iload 7, 2) := by decide +kernel
theorem dX5_rising_144 : decode cX5_rising 144 = .ok (.ishl, 1) := by decide +kernel
theorem dX5_rising_145 : decode cX5_rising 145 = .ok (.ior, 1) := by decide +kernel
theorem dX5_rising_146 : decode cX5_rising 146 = .ok (.iconst 1, 1) := by decide +kernel
theorem dX5_rising_147 : decode cX5_rising 147 = .ok (.bastore, 1) := by decide +kernel
theorem dX5_rising_148 : decode cX5_rising 148 = .ok (.iinc 7 1, 3) := by decide +kernel
theorem dX5_rising_151 : decode cX5_rising 151 = .ok (.goto (-36), 3) := by decide +kernel
theorem dX5_rising_154 : decode cX5_rising 154 = .ok (.iinc 6 1, 3) := by decide +kernel
theorem dX5_rising_157 : decode cX5_rising 157 = .ok (.goto (-83), 3) := by decide +kernel
theorem dX5_rising_160 : decode cX5_rising 160 = .ok (.iload_n 1, 1) := by decide +kernel
theorem dX5_rising_161 : decode cX5_rising 161 = .ok (.ifCond .ne 7, 3) := by decide +kernel
theorem dX5_rising_164 : decode cX5_rising 164 = .ok (.iload_n 3, 1) := by decide +kernel
theorem dX5_rising_165 : decode cX5_rising 165 = .ok (.goto 15, 3) := by decide +kernel
theorem dX5_rising_168 : decode cX5_rising 168 = .ok (.iload_n 1, 1) := by decide +kernel
theorem dX5_rising_169 : decode cX5_rising 169 = .ok (.iconst 1, 1) := by decide +kernel
theorem dX5_rising_170 : decode cX5_rising 170 = .ok (.if_icmp .ne 8, 3) := by decide +kernel
theorem dX5_rising_173 : decode cX5_rising 173 = .ok (.iload 4, 2) := by decide +kernel
theorem dX5_rising_175 : decode cX5_rising 175 = .ok (.goto 5, 3) := by decide +kernel
theorem dX5_rising_178 : decode cX5_rising 178 = .ok (.iload 5, 2) := by decide +kernel
theorem dX5_rising_180 : decode cX5_rising 180 = .ok (.ireturn, 1) := by decide +kernel
set_option maxRecDepth 20000 in
theorem ggX5_isRig_X5_raises : GoodIn wsX5_isRig wsX5_raises := goodIn_r _ [9, 3, 10, 11, 12, 13, 14, 15, 16, 17, 18, 19, 20, 21, 22, 23, 24, 25, 26, 27, 28, 29, 30, 31, 32, 33, 34, 35] (by decide +kernel) (by decide +kernel)
set_option maxRecDepth 20000 in
theorem gX5_isRig_X5_raises : GoodIn wsX5_isRig (wsV RX5 145 RX5 yX5_raises wsX5_raises) := goodIn_app (goodIn_of _ (by decide +kernel)) ggX5_isRig_X5_raises
theorem dX5_isRig_0 : decode cX5_isRig 0 = .ok (.iconst 0, 1) := by decide +kernel
theorem dX5_isRig_1 : decode cX5_isRig 1 = .ok (.istore_n 2, 1) := by decide +kernel
theorem dX5_isRig_2 : decode cX5_isRig 2 = .ok (.iconst 0, 1) := by decide +kernel
theorem dX5_isRig_3 : decode cX5_isRig 3 = .ok (.istore_n 3, 1) := by decide +kernel
theorem dX5_isRig_4 : decode cX5_isRig 4 = .ok (.iload_n 3, 1) := by decide +kernel
theorem dX5_isRig_5 : decode cX5_isRig 5 = .ok (.aload_n 0, 1) := by decide +kernel
theorem dX5_isRig_6 : decode cX5_isRig 6 = .ok (.getfield 79, 3) := by decide +kernel
theorem dX5_isRig_9 : decode cX5_isRig 9 = .ok (.if_icmp .ge 64, 3) := by decide +kernel
theorem dX5_isRig_12 : decode cX5_isRig 12 = .ok (.iload_n 1, 1) := by decide +kernel
theorem dX5_isRig_13 : decode cX5_isRig 13 = .ok (.iload_n 3, 1) := by decide +kernel
theorem dX5_isRig_14 : decode cX5_isRig 14 = .ok (.ishr, 1) := by decide +kernel
theorem dX5_isRig_15 : decode cX5_isRig 15 = .ok (.iconst 1, 1) := by decide +kernel
theorem dX5_isRig_16 : decode cX5_isRig 16 = .ok (.iand, 1) := by decide +kernel
theorem dX5_isRig_17 : decode cX5_isRig 17 = .ok (.iconst 1, 1) := by decide +kernel
theorem dX5_isRig_18 : decode cX5_isRig 18 = .ok (.if_icmp .ne 49, 3) := by decide +kernel
theorem dX5_isRig_21 : decode cX5_isRig 21 = .ok (.aload_n 0, 1) := by decide +kernel
theorem dX5_isRig_22 : decode cX5_isRig 22 = .ok (.iload_n 3, 1) := by decide +kernel
theorem dX5_isRig_23 : decode cX5_isRig 23 = .ok (.invokevirtual 145, 3) := by decide +kernel
theorem dX5_isRig_26 : decode cX5_isRig 26 = .ok (.ifCond .eq 28, 3) := by decide +kernel
theorem dX5_isRig_29 : decode cX5_isRig 29 = .ok (.aload_n 0, 1) := by decide +kernel
theorem dX5_isRig_30 : decode cX5_isRig 30 = .ok (.getfield 47, 3) := by decide +kernel
theorem dX5_isRig_33 : decode cX5_isRig 33 = .ok (.iload_n 3, 1) := by decide +kernel
theorem dX5_isRig_34 : decode cX5_isRig 34 = .ok (.iaload, 1) := by decide +kernel
theorem dX5_isRig_35 : decode cX5_isRig 35 = .ok (.iload_n 1, 1) := by decide +kernel
theorem dX5_isRig_36 : decode cX5_isRig 36 = .ok (.iand, 1) := by decide +kernel
theorem dX5_isRig_37 : decode cX5_isRig 37 = .ok (.ifCond .ne 17, 3) := by decide +kernel
theorem dX5_isRig_40 : decode cX5_isRig 40 = .ok (.iload_n 2, 1) := by decide +kernel
theorem dX5_isRig_41 : decode cX5_isRig 41 = .ok (.aload_n 0, 1) := by decide +kernel
theorem dX5_isRig_42 : decode cX5_isRig 42 = .ok (.getfield 31, 3) := by decide +kernel
theorem dX5_isRig_45 : decode cX5_isRig 45 = .ok (.iload_n 3, 1) := by decide +kernel
theorem dX5_isRig_46 : decode cX5_isRig 46 = .ok (.iaload, 1) := by decide +kernel
theorem dX5_isRig_47 : decode cX5_isRig 47 = .ok (.ishr, 1) := by decide +kernel
theorem dX5_isRig_48 : decode cX5_isRig 48 = .ok (.iconst 1, 1) := by decide +kernel
theorem dX5_isRig_49 : decode cX5_isRig 49 = .ok (.iand, 1) := by decide +kernel
theorem dX5_isRig_50 : decode cX5_isRig 50 = .ok (.iconst 1, 1) := by decide +kernel
theorem dX5_isRig_51 : decode cX5_isRig 51 = .ok (.if_icmp .ne 5, 3) := by decide +kernel
theorem dX5_isRig_54 : decode cX5_isRig 54 = .ok (.iconst 0, 1) := by decide +kernel
theorem dX5_isRig_55 : decode cX5_isRig 55 = .ok (.ireturn, 1) := by decide +kernel
theorem dX5_isRig_56 : decode cX5_isRig 56 = .ok (.iload_n 2, 1) := by decide +kernel
theorem dX5_isRig_57 : decode cX5_isRig 57 = .ok (.iconst 1, 1) := by decide +kernel
theorem dX5_isRig_58 : decode cX5_isRig 58 = .ok (.aload_n 0, 1) := by decide +kernel
theorem dX5_isRig_59 : decode cX5_isRig 59 = .ok (.getfield 31, 3) := by decide +kernel
theorem dX5_isRig_62 : decode cX5_isRig 62 = .ok (.iload_n 3, 1) := by decide +kernel
theorem dX5_isRig_63 : decode cX5_isRig 63 = .ok (.iaload, 1) := by decide +kernel
theorem dX5_isRig_64 : decode cX5_isRig 64 = .ok (.ishl, 1) := by decide +kernel
theorem dX5_isRig_65 : decode cX5_isRig 65 = .ok (.ior, 1) := by decide +kernel
theorem dX5_isRig_66 : decode cX5_isRig 66 = .ok (.istore_n 2, 1) := by decide +kernel
theorem dX5_isRig_67 : decode cX5_isRig 67 = .ok (.iinc 3 1, 3) := by decide +kernel
theorem dX5_isRig_70 : decode cX5_isRig 70 = .ok (.goto (-66), 3) := by decide +kernel
theorem dX5_isRig_73 : decode cX5_isRig 73 = .ok (.iload_n 2, 1) := by decide +kernel
theorem dX5_isRig_74 : decode cX5_isRig 74 = .ok (.iconst 1, 1) := by decide +kernel
theorem dX5_isRig_75 : decode cX5_isRig 75 = .ok (.aload_n 0, 1) := by decide +kernel
theorem dX5_isRig_76 : decode cX5_isRig 76 = .ok (.getfield 72, 3) := by decide +kernel
theorem dX5_isRig_79 : decode cX5_isRig 79 = .ok (.ishl, 1) := by decide +kernel
theorem dX5_isRig_80 : decode cX5_isRig 80 = .ok (.iconst 1, 1) := by decide +kernel
theorem dX5_isRig_81 : decode cX5_isRig 81 = .ok (.isub, 1) := by decide +kernel
theorem dX5_isRig_82 : decode cX5_isRig 82 = .ok (.if_icmp .ne 7, 3) := by decide +kernel
theorem dX5_isRig_85 : decode cX5_isRig 85 = .ok (.iconst 1, 1) := by decide +kernel
theorem dX5_isRig_86 : decode cX5_isRig 86 = .ok (.goto 4, 3) := by decide +kernel
theorem dX5_isRig_89 : decode cX5_isRig 89 = .ok (.iconst 0, 1) := by decide +kernel
theorem dX5_isRig_90 : decode cX5_isRig 90 = .ok (.ireturn, 1) := by decide +kernel
set_option maxRecDepth 20000 in
theorem ggX5_rig_X5_doCross : GoodIn wsX5_rig wsX5_doCross := goodIn_r _ [8, 9, 10, 11, 12, 13, 14, 7, 15, 26, 27, 28, 29, 30, 31, 32, 33, 34, 35, 36, 37, 38, 39, 40, 41, 42, 43, 44, 45, 46, 47] (by decide +kernel) (by decide +kernel)
set_option maxRecDepth 20000 in
theorem gX5_rig_X5_doCross : GoodIn wsX5_rig (wsV RX5 148 RX5 yX5_doCross wsX5_doCross) := goodIn_app (goodIn_of _ (by decide +kernel)) ggX5_rig_X5_doCross
set_option maxRecDepth 20000 in
theorem ggX5_rig_X5_isRig : GoodIn wsX5_rig wsX5_isRig := goodIn_r _ [19, 2, 3, 10, 1, 20, 21, 22, 7, 23, 24, 12, 9, 25, 26, 27, 28, 29, 30, 31, 32, 33, 34, 35, 36, 37, 38, 39, 40, 41, 42, 43, 44, 45, 46, 47] (by decide +kernel) (by decide +kernel)
set_option maxRecDepth 20000 in
theorem gX5_rig_X5_isRig : GoodIn wsX5_rig (wsV RX5 172 RX5 yX5_isRig wsX5_isRig) := goodIn_app (goodIn_of _ (by decide +kernel)) ggX5_rig_X5_isRig
theorem dX5_rig_0 : decode cX5_rig 0 = .ok (.aload_n 0, 1) := by decide +kernel
theorem dX5_rig_1 : decode cX5_rig 1 = .ok (.getfield 72, 3) := by decide +kernel
theorem dX5_rig_4 : decode cX5_rig 4 = .ok (.ifCond .ne 6, 3) := by decide +kernel
theorem dX5_rig_7 : decode cX5_rig 7 = .ok (.bipush (-3), 2) := by decide +kernel
theorem dX5_rig_9 : decode cX5_rig 9 = .ok (.ireturn, 1) := by decide +kernel
theorem dX5_rig_10 : decode cX5_rig 10 = .ok (.iconst 0, 1) := by decide +kernel
theorem dX5_rig_11 : decode cX5_rig 11 = .ok (.istore_n 1, 1) := by decide +kernel
theorem dX5_rig_12 : decode cX5_rig 12 = .ok (.iload_n 1, 1) := by decide +kernel
theorem dX5_rig_13 : decode cX5_rig 13 = .ok (.aload_n 0, 1) := by decide +kernel
theorem dX5_rig_14 : decode cX5_rig 14 = .ok (.getfield 79, 3) := by decide +kernel
theorem dX5_rig_17 : decode cX5_rig 17 = .ok (.if_icmp .ge 57, 3) := by decide +kernel
theorem dX5_rig_20 : decode cX5_rig 20 = .ok (.aload_n 0, 1) := by decide +kernel
theorem dX5_rig_21 : decode cX5_rig 21 = .ok (.getfield 47, 3) := by decide +kernel
theorem dX5_rig_24 : decode cX5_rig 24 = .ok (.iload_n 1, 1) := by decide +kernel
theorem dX5_rig_25 : decode cX5_rig 25 = .ok (.iconst 0, 1) := by decide +kernel
theorem dX5_rig_26 : decode cX5_rig 26 = .ok (.iastore, 1) := by decide +kernel
theorem dX5_rig_27 : decode cX5_rig 27 = .ok (.iconst 0, 1) := by decide +kernel
theorem dX5_rig_28 : decode cX5_rig 28 = .ok (.istore_n 2, 1) := by decide +kernel
theorem dX5_rig_29 : decode cX5_rig 29 = .ok (.iload_n 2, 1) := by decide +kernel
theorem dX5_rig_30 : decode cX5_rig 30 = .ok (.aload_n 0, 1) := by decide +kernel
theorem dX5_rig_31 : decode cX5_rig 31 = .ok (.getfield 79, 3) := by decide +kernel
theorem dX5_rig_34 : decode cX5_rig 34 = .ok (.if_icmp .ge 34, 3) := by decide +kernel
theorem dX5_rig_37 : decode cX5_rig 37 = .ok (.aload_n 0, 1) := by decide +kernel
theorem dX5_rig_38 : decode cX5_rig 38 = .ok (.getfield 47, 3) := by decide +kernel
theorem dX5_rig_41 : decode cX5_rig 41 = .ok (.iload_n 1, 1) := by decide +kernel
theorem dX5_rig_42 : decode cX5_rig 42 = .ok (.dup2, 1) := by decide +kernel
theorem dX5_rig_43 : decode cX5_rig 43 = .ok (.iaload, 1) := by decide +kernel
theorem dX5_rig_44 : decode cX5_rig 44 = .ok (.aload_n 0, 1) := by decide +kernel
theorem dX5_rig_45 : decode cX5_rig 45 = .ok (.iload_n 1, 1) := by decide +kernel
theorem dX5_rig_46 : decode cX5_rig 46 = .ok (.iload_n 2, 1) := by decide +kernel
theorem dX5_rig_47 : decode cX5_rig 47 = .ok (.invokevirtual 148, 3) := by decide +kernel
theorem dX5_rig_50 : decode cX5_rig 50 = .ok (.ifCond .eq 9, 3) := by decide +kernel
theorem dX5_rig_53 : decode cX5_rig 53 = .ok (.iconst 1, 1) := by decide +kernel
theorem dX5_rig_54 : decode cX5_rig 54 = .ok (.iload_n 2, 1) := by decide +kernel
theorem dX5_rig_55 : decode cX5_rig 55 = .ok (.ishl, 1) := by decide +kernel
theorem dX5_rig_56 : decode cX5_rig 56 = .ok (.goto 4, 3) := by decide +kernel
theorem dX5_rig_59 : decode cX5_rig 59 = .ok (.iconst 0, 1) := by decide +kernel
theorem dX5_rig_60 : decode cX5_rig 60 = .ok (.ior, 1) := by decide +kernel
theorem dX5_rig_61 : decode cX5_rig 61 = .ok (.iastore, 1) := by decide +kernel
theorem dX5_rig_62 : decode cX5_rig 62 = .ok (.iinc 2 1, 3) := by decide +kernel
theorem dX5_rig_65 : decode cX5_rig 65 = .ok (.goto (-36), 3) := by decide +kernel
theorem dX5_rig_68 : decode cX5_rig 68 = .ok (.iinc 1 1, 3) := by decide +kernel
theorem dX5_rig_71 : decode cX5_rig 71 = .ok (.goto (-59), 3) := by decide +kernel
theorem dX5_rig_74 : decode cX5_rig 74 = .ok (.iconst 0, 1) := by decide +kernel
theorem dX5_rig_75 : decode cX5_rig 75 = .ok (.istore_n 1, 1) := by decide +kernel
theorem dX5_rig_76 : decode cX5_rig 76 = .ok (.iload_n 1, 1) := by decide +kernel
theorem dX5_rig_77 : decode cX5_rig 77 = .ok (.iconst 1, 1) := by decide +kernel
theorem dX5_rig_78 : decode cX5_rig 78 = .ok (.aload_n 0, 1) := by decide +kernel
theorem dX5_rig_79 : decode cX5_rig 79 = .ok (.getfield 79, 3) := by decide +kernel
theorem dX5_rig_82 : decode cX5_rig 82 = .ok (.ishl, 1) := by decide +kernel
theorem dX5_rig_83 : decode cX5_rig 83 = .ok (.if_icmp .ge 19, 3) := by decide +kernel
theorem dX5_rig_86 : decode cX5_rig 86 = .ok (.aload_n 0, 1) := by decide +kernel
theorem dX5_rig_87 : decode cX5_rig 87 = .ok (.iload_n 1, 1) := by decide +kernel
theorem dX5_rig_88 : decode cX5_rig 88 = .ok (.invokevirtual 172, 3) := by decide +kernel
theorem dX5_rig_91 : decode cX5_rig 91 = .ok (.ifCond .eq 5, 3) := by decide +kernel
theorem dX5_rig_94 : decode cX5_rig 94 = .ok (.iload_n 1, 1) := by decide +kernel
theorem dX5_rig_95 : decode cX5_rig 95 = .ok (.ireturn, 1) := by decide +kernel
theorem dX5_rig_96 : decode cX5_rig 96 = .ok (.iinc 1 1, 3) := by decide +kernel
theorem dX5_rig_99 : decode cX5_rig 99 = .ok (.goto (-23), 3) := by decide +kernel
theorem dX5_rig_102 : decode cX5_rig 102 = .ok (.bipush (-9), 2) := by decide +kernel
theorem dX5_rig_104 : decode cX5_rig 104 = .ok (.ireturn, 1) := by decide +kernel
set_option maxRecDepth 20000 in
theorem ggX5_noSheet_X5_in : GoodIn wsX5_noSheet wsX5_in := goodIn_r _ [5] (by decide +kernel) (by decide +kernel)
set_option maxRecDepth 20000 in
theorem gX5_noSheet_X5_in : GoodIn wsX5_noSheet (va_wsS RX5 75 yX5_in wsX5_in) := goodIn_app (goodIn_of _ (by decide +kernel)) ggX5_noSheet_X5_in
theorem dX5_noSheet_0 : decode cX5_noSheet 0 = .ok (.iload_n 0, 1) := by decide +kernel
theorem dX5_noSheet_1 : decode cX5_noSheet 1 = .ok (.i2l, 1) := by decide +kernel
theorem dX5_noSheet_2 : decode cX5_noSheet 2 = .ok (.lconst 0, 1) := by decide +kernel
theorem dX5_noSheet_3 : decode cX5_noSheet 3 = .ok (.ldc2_w 175, 3) := by decide +kernel
theorem dX5_noSheet_6 : decode cX5_noSheet 6 = .ok (.invokestatic 75, 3) := by decide +kernel
theorem dX5_noSheet_9 : decode cX5_noSheet 9 = .ok (.ifCond .ne 7, 3) := by decide +kernel
theorem dX5_noSheet_12 : decode cX5_noSheet 12 = .ok (.iconst 1, 1) := by decide +kernel
theorem dX5_noSheet_13 : decode cX5_noSheet 13 = .ok (.goto 4, 3) := by decide +kernel
theorem dX5_noSheet_16 : decode cX5_noSheet 16 = .ok (.iconst 0, 1) := by decide +kernel
theorem dX5_noSheet_17 : decode cX5_noSheet 17 = .ok (.ireturn, 1) := by decide +kernel
set_option maxRecDepth 20000 in
theorem ggX5_sheet_X5_noSheet : GoodIn wsX5_sheet wsX5_noSheet := goodIn_r _ [8, 9, 10, 11, 7, 12] (by decide +kernel) (by decide +kernel)
set_option maxRecDepth 20000 in
theorem gX5_sheet_X5_noSheet : GoodIn wsX5_sheet (va_wsS RX5 177 yX5_noSheet wsX5_noSheet) := goodIn_app (goodIn_of _ (by decide +kernel)) ggX5_sheet_X5_noSheet
set_option maxRecDepth 20000 in
theorem ggX5_sheet_X5_refused : GoodIn wsX5_sheet wsX5_refused := goodIn_r _ [16, 17, 22, 23, 24, 25, 26, 27, 28, 29, 30, 31, 32, 33, 34, 35, 36, 37, 38, 39, 40, 41, 42, 43] (by decide +kernel) (by decide +kernel)
set_option maxRecDepth 20000 in
theorem gX5_sheet_X5_refused : GoodIn wsX5_sheet (wsV RX5 180 RX5 yX5_refused wsX5_refused) := goodIn_app (goodIn_of _ (by decide +kernel)) ggX5_sheet_X5_refused
set_option maxRecDepth 20000 in
theorem ggX5_sheet_X5_in : GoodIn wsX5_sheet wsX5_in := goodIn_r _ [12] (by decide +kernel) (by decide +kernel)
set_option maxRecDepth 20000 in
theorem gX5_sheet_X5_in : GoodIn wsX5_sheet (va_wsS RX5 75 yX5_in wsX5_in) := goodIn_app (goodIn_of _ (by decide +kernel)) ggX5_sheet_X5_in
set_option maxRecDepth 20000 in
theorem ggX5_sheet_X5_failed : GoodIn wsX5_sheet wsX5_failed := goodIn_r _ [21, 17, 22, 23, 24, 25, 26, 27, 28, 29, 30, 31, 32, 33, 34, 35, 36, 37, 38, 39, 40, 41, 42, 43] (by decide +kernel) (by decide +kernel)
set_option maxRecDepth 20000 in
theorem gX5_sheet_X5_failed : GoodIn wsX5_sheet (wsV RX5 183 RX5 yX5_failed wsX5_failed) := goodIn_app (goodIn_of _ (by decide +kernel)) ggX5_sheet_X5_failed
theorem dX5_sheet_0 : decode cX5_sheet 0 = .ok (.iload_n 1, 1) := by decide +kernel
theorem dX5_sheet_1 : decode cX5_sheet 1 = .ok (.invokestatic 177, 3) := by decide +kernel
theorem dX5_sheet_4 : decode cX5_sheet 4 = .ok (.ifCond .eq 9, 3) := by decide +kernel
theorem dX5_sheet_7 : decode cX5_sheet 7 = .ok (.aload_n 0, 1) := by decide +kernel
theorem dX5_sheet_8 : decode cX5_sheet 8 = .ok (.iconst (-1), 1) := by decide +kernel
theorem dX5_sheet_9 : decode cX5_sheet 9 = .ok (.invokevirtual 180, 3) := by decide +kernel
theorem dX5_sheet_12 : decode cX5_sheet 12 = .ok (.ireturn, 1) := by decide +kernel
theorem dX5_sheet_13 : decode cX5_sheet 13 = .ok (.iload_n 2, 1) := by decide +kernel
theorem dX5_sheet_14 : decode cX5_sheet 14 = .ok (.i2l, 1) := by decide +kernel
theorem dX5_sheet_15 : decode cX5_sheet 15 = .ok (.lconst 0, 1) := by decide +kernel
theorem dX5_sheet_16 : decode cX5_sheet 16 = .ok (.ldc2_w 92, 3) := by decide +kernel
theorem dX5_sheet_19 : decode cX5_sheet 19 = .ok (.invokestatic 75, 3) := by decide +kernel
theorem dX5_sheet_22 : decode cX5_sheet 22 = .ok (.ifCond .eq 9, 3) := by decide +kernel
theorem dX5_sheet_25 : decode cX5_sheet 25 = .ok (.iload_n 3, 1) := by decide +kernel
theorem dX5_sheet_26 : decode cX5_sheet 26 = .ok (.bipush 50, 2) := by decide +kernel
theorem dX5_sheet_28 : decode cX5_sheet 28 = .ok (.if_icmp .le 10, 3) := by decide +kernel
theorem dX5_sheet_31 : decode cX5_sheet 31 = .ok (.aload_n 0, 1) := by decide +kernel
theorem dX5_sheet_32 : decode cX5_sheet 32 = .ok (.bipush (-2), 2) := by decide +kernel
theorem dX5_sheet_34 : decode cX5_sheet 34 = .ok (.invokevirtual 180, 3) := by decide +kernel
theorem dX5_sheet_37 : decode cX5_sheet 37 = .ok (.ireturn, 1) := by decide +kernel
theorem dX5_sheet_38 : decode cX5_sheet 38 = .ok (.iload_n 3, 1) := by decide +kernel
theorem dX5_sheet_39 : decode cX5_sheet 39 = .ok (.ifCond .ge 9, 3) := by decide +kernel
theorem dX5_sheet_42 : decode cX5_sheet 42 = .ok (.aload_n 0, 1) := by decide +kernel
theorem dX5_sheet_43 : decode cX5_sheet 43 = .ok (.iconst 4, 1) := by decide +kernel
theorem dX5_sheet_44 : decode cX5_sheet 44 = .ok (.invokevirtual 183, 3) := by decide +kernel
theorem dX5_sheet_47 : decode cX5_sheet 47 = .ok (.ireturn, 1) := by decide +kernel
theorem dX5_sheet_48 : decode cX5_sheet 48 = .ok (.aload_n 0, 1) := by decide +kernel
theorem dX5_sheet_49 : decode cX5_sheet 49 = .ok (.getfield 50, 3) := by decide +kernel
theorem dX5_sheet_52 : decode cX5_sheet 52 = .ok (.iload_n 1, 1) := by decide +kernel
theorem dX5_sheet_53 : decode cX5_sheet 53 = .ok (.iload_n 3, 1) := by decide +kernel
theorem dX5_sheet_54 : decode cX5_sheet 54 = .ok (.iastore, 1) := by decide +kernel
theorem dX5_sheet_55 : decode cX5_sheet 55 = .ok (.aload_n 0, 1) := by decide +kernel
theorem dX5_sheet_56 : decode cX5_sheet 56 = .ok (.getfield 53, 3) := by decide +kernel
theorem dX5_sheet_59 : decode cX5_sheet 59 = .ok (.iload_n 1, 1) := by decide +kernel
theorem dX5_sheet_60 : decode cX5_sheet 60 = .ok (.iload_n 2, 1) := by decide +kernel
theorem dX5_sheet_61 : decode cX5_sheet 61 = .ok (.iastore, 1) := by decide +kernel
theorem dX5_sheet_62 : decode cX5_sheet 62 = .ok (.iconst 0, 1) := by decide +kernel
theorem dX5_sheet_63 : decode cX5_sheet 63 = .ok (.istore 4, 2) := by decide +kernel
theorem dX5_sheet_65 : decode cX5_sheet 65 = .ok (.iload 4, 2) := by decide +kernel
theorem dX5_sheet_67 : decode cX5_sheet 67 = .ok (.iload_n 3, 1) := by decide +kernel
theorem dX5_sheet_68 : decode cX5_sheet 68 = .ok (.if_icmp .ge 22, 3) := by decide +kernel
theorem dX5_sheet_71 : decode cX5_sheet 71 = .ok (.aload_n 0, 1) := by decide +kernel
theorem dX5_sheet_72 : decode cX5_sheet 72 = .ok (.getfield 56, 3) := by decide +kernel
theorem dX5_sheet_75 : decode cX5_sheet 75 = .ok (.bipush 50, 2) := by decide +kernel
theorem dX5_sheet_77 : decode cX5_sheet 77 = .ok (.iload_n 1, 1) := by decide +kernel
theorem dX5_sheet_78 : decode cX5_sheet 78 = .ok (.imul, 1) := by decide +kernel
theorem dX5_sheet_79 : decode cX5_sheet 79 = .ok (.iload 4, 2) := by decide +kernel
theorem dX5_sheet_81 : decode cX5_sheet 81 = .ok (.iadd, 1) := by decide +kernel
theorem dX5_sheet_82 : decode cX5_sheet 82 = .ok (.iconst 0, 1) := by decide +kernel
theorem dX5_sheet_83 : decode cX5_sheet 83 = .ok (.iastore, 1) := by decide +kernel
theorem dX5_sheet_84 : decode cX5_sheet 84 = .ok (.iinc 4 1, 3) := by decide +kernel
theorem dX5_sheet_87 : decode cX5_sheet 87 = .ok (.goto (-22), 3) := by decide +kernel
theorem dX5_sheet_90 : decode cX5_sheet 90 = .ok (.aload_n 0, 1) := by decide +kernel
theorem dX5_sheet_91 : decode cX5_sheet 91 = .ok (.iconst 1, 1) := by decide +kernel
theorem dX5_sheet_92 : decode cX5_sheet 92 = .ok (.invokevirtual 180, 3) := by decide +kernel
theorem dX5_sheet_95 : decode cX5_sheet 95 = .ok (.ireturn, 1) := by decide +kernel
set_option maxRecDepth 20000 in
theorem ggX5_lose_X5_noSheet : GoodIn wsX5_lose wsX5_noSheet := goodIn_r _ [5, 6, 7, 8, 4, 9] (by decide +kernel) (by decide +kernel)
set_option maxRecDepth 20000 in
theorem gX5_lose_X5_noSheet : GoodIn wsX5_lose (va_wsS RX5 177 yX5_noSheet wsX5_noSheet) := goodIn_app (goodIn_of _ (by decide +kernel)) ggX5_lose_X5_noSheet
theorem dX5_lose_0 : decode cX5_lose 0 = .ok (.iload_n 1, 1) := by decide +kernel
theorem dX5_lose_1 : decode cX5_lose 1 = .ok (.invokestatic 177, 3) := by decide +kernel
theorem dX5_lose_4 : decode cX5_lose 4 = .ok (.ifCond .eq 5, 3) := by decide +kernel
theorem dX5_lose_7 : decode cX5_lose 7 = .ok (.iconst (-1), 1) := by decide +kernel
theorem dX5_lose_8 : decode cX5_lose 8 = .ok (.ireturn, 1) := by decide +kernel
theorem dX5_lose_9 : decode cX5_lose 9 = .ok (.aload_n 0, 1) := by decide +kernel
theorem dX5_lose_10 : decode cX5_lose 10 = .ok (.getfield 50, 3) := by decide +kernel
theorem dX5_lose_13 : decode cX5_lose 13 = .ok (.iload_n 1, 1) := by decide +kernel
theorem dX5_lose_14 : decode cX5_lose 14 = .ok (.iaload, 1) := by decide +kernel
theorem dX5_lose_15 : decode cX5_lose 15 = .ok (.ifCond .ge 7, 3) := by decide +kernel
theorem dX5_lose_18 : decode cX5_lose 18 = .ok (.iconst 0, 1) := by decide +kernel
theorem dX5_lose_19 : decode cX5_lose 19 = .ok (.goto 4, 3) := by decide +kernel
theorem dX5_lose_22 : decode cX5_lose 22 = .ok (.iconst 1, 1) := by decide +kernel
theorem dX5_lose_23 : decode cX5_lose 23 = .ok (.istore_n 2, 1) := by decide +kernel
theorem dX5_lose_24 : decode cX5_lose 24 = .ok (.aload_n 0, 1) := by decide +kernel
theorem dX5_lose_25 : decode cX5_lose 25 = .ok (.getfield 50, 3) := by decide +kernel
theorem dX5_lose_28 : decode cX5_lose 28 = .ok (.iload_n 1, 1) := by decide +kernel
theorem dX5_lose_29 : decode cX5_lose 29 = .ok (.iconst (-1), 1) := by decide +kernel
theorem dX5_lose_30 : decode cX5_lose 30 = .ok (.iastore, 1) := by decide +kernel
theorem dX5_lose_31 : decode cX5_lose 31 = .ok (.iload_n 2, 1) := by decide +kernel
theorem dX5_lose_32 : decode cX5_lose 32 = .ok (.ireturn, 1) := by decide +kernel
set_option maxRecDepth 20000 in
theorem ggX5_noCell_X5_in : GoodIn wsX5_noCell wsX5_in := goodIn_r _ [5] (by decide +kernel) (by decide +kernel)
set_option maxRecDepth 20000 in
theorem gX5_noCell_X5_in : GoodIn wsX5_noCell (va_wsS RX5 75 yX5_in wsX5_in) := goodIn_app (goodIn_of _ (by decide +kernel)) ggX5_noCell_X5_in
theorem dX5_noCell_0 : decode cX5_noCell 0 = .ok (.aload_n 0, 1) := by decide +kernel
theorem dX5_noCell_1 : decode cX5_noCell 1 = .ok (.getfield 50, 3) := by decide +kernel
theorem dX5_noCell_4 : decode cX5_noCell 4 = .ok (.iload_n 1, 1) := by decide +kernel
theorem dX5_noCell_5 : decode cX5_noCell 5 = .ok (.iaload, 1) := by decide +kernel
theorem dX5_noCell_6 : decode cX5_noCell 6 = .ok (.ifCond .ge 7, 3) := by decide +kernel
theorem dX5_noCell_9 : decode cX5_noCell 9 = .ok (.iconst 1, 1) := by decide +kernel
theorem dX5_noCell_10 : decode cX5_noCell 10 = .ok (.goto 26, 3) := by decide +kernel
theorem dX5_noCell_13 : decode cX5_noCell 13 = .ok (.iload_n 2, 1) := by decide +kernel
theorem dX5_noCell_14 : decode cX5_noCell 14 = .ok (.i2l, 1) := by decide +kernel
theorem dX5_noCell_15 : decode cX5_noCell 15 = .ok (.lconst 0, 1) := by decide +kernel
theorem dX5_noCell_16 : decode cX5_noCell 16 = .ok (.aload_n 0, 1) := by decide +kernel
theorem dX5_noCell_17 : decode cX5_noCell 17 = .ok (.getfield 50, 3) := by decide +kernel
theorem dX5_noCell_20 : decode cX5_noCell 20 = .ok (.iload_n 1, 1) := by decide +kernel
theorem dX5_noCell_21 : decode cX5_noCell 21 = .ok (.iaload, 1) := by decide +kernel
theorem dX5_noCell_22 : decode cX5_noCell 22 = .ok (.i2l, 1) := by decide +kernel
theorem dX5_noCell_23 : decode cX5_noCell 23 = .ok (.lconst 1, 1) := by decide +kernel
theorem dX5_noCell_24 : decode cX5_noCell 24 = .ok (.lsub, 1) := by decide +kernel
theorem dX5_noCell_25 : decode cX5_noCell 25 = .ok (.invokestatic 75, 3) := by decide +kernel
theorem dX5_noCell_28 : decode cX5_noCell 28 = .ok (.ifCond .eq 7, 3) := by decide +kernel
theorem dX5_noCell_31 : decode cX5_noCell 31 = .ok (.iconst 0, 1) := by decide +kernel
theorem dX5_noCell_32 : decode cX5_noCell 32 = .ok (.goto 4, 3) := by decide +kernel
theorem dX5_noCell_35 : decode cX5_noCell 35 = .ok (.iconst 3, 1) := by decide +kernel
theorem dX5_noCell_36 : decode cX5_noCell 36 = .ok (.ireturn, 1) := by decide +kernel
set_option maxRecDepth 20000 in
theorem ggX5_put_X5_noSheet : GoodIn wsX5_put wsX5_noSheet := goodIn_r _ [6, 7, 8, 9, 5, 10] (by decide +kernel) (by decide +kernel)
set_option maxRecDepth 20000 in
theorem gX5_put_X5_noSheet : GoodIn wsX5_put (va_wsS RX5 177 yX5_noSheet wsX5_noSheet) := goodIn_app (goodIn_of _ (by decide +kernel)) ggX5_put_X5_noSheet
set_option maxRecDepth 20000 in
theorem ggX5_put_X5_refused : GoodIn wsX5_put wsX5_refused := goodIn_r _ [14, 15, 25, 26, 27, 28, 29, 30, 31, 32, 33, 34, 35, 36, 37, 38, 39, 40, 41, 42, 43, 44, 45, 46] (by decide +kernel) (by decide +kernel)
set_option maxRecDepth 20000 in
theorem gX5_put_X5_refused : GoodIn wsX5_put (wsV RX5 180 RX5 yX5_refused wsX5_refused) := goodIn_app (goodIn_of _ (by decide +kernel)) ggX5_put_X5_refused
set_option maxRecDepth 20000 in
theorem ggX5_put_X5_noCell : GoodIn wsX5_put wsX5_noCell := goodIn_r _ [19, 20, 8, 9, 5, 10, 25, 26, 27, 28, 29, 30, 31, 32, 33, 34, 35, 36, 37, 38, 39, 40, 41, 42, 43, 44, 45, 46] (by decide +kernel) (by decide +kernel)
set_option maxRecDepth 20000 in
theorem gX5_put_X5_noCell : GoodIn wsX5_put (wsV RX5 186 RX5 yX5_noCell wsX5_noCell) := goodIn_app (goodIn_of _ (by decide +kernel)) ggX5_put_X5_noCell
set_option maxRecDepth 20000 in
theorem ggX5_put_X5_failed : GoodIn wsX5_put wsX5_failed := goodIn_r _ [24, 15, 25, 26, 27, 28, 29, 30, 31, 32, 33, 34, 35, 36, 37, 38, 39, 40, 41, 42, 43, 44, 45, 46] (by decide +kernel) (by decide +kernel)
set_option maxRecDepth 20000 in
theorem gX5_put_X5_failed : GoodIn wsX5_put (wsV RX5 183 RX5 yX5_failed wsX5_failed) := goodIn_app (goodIn_of _ (by decide +kernel)) ggX5_put_X5_failed
theorem dX5_put_0 : decode cX5_put 0 = .ok (.iload_n 1, 1) := by decide +kernel
theorem dX5_put_1 : decode cX5_put 1 = .ok (.invokestatic 177, 3) := by decide +kernel
theorem dX5_put_4 : decode cX5_put 4 = .ok (.ifCond .eq 9, 3) := by decide +kernel
theorem dX5_put_7 : decode cX5_put 7 = .ok (.aload_n 0, 1) := by decide +kernel
theorem dX5_put_8 : decode cX5_put 8 = .ok (.iconst (-1), 1) := by decide +kernel
theorem dX5_put_9 : decode cX5_put 9 = .ok (.invokevirtual 180, 3) := by decide +kernel
theorem dX5_put_12 : decode cX5_put 12 = .ok (.ireturn, 1) := by decide +kernel
theorem dX5_put_13 : decode cX5_put 13 = .ok (.aload_n 0, 1) := by decide +kernel
theorem dX5_put_14 : decode cX5_put 14 = .ok (.iload_n 1, 1) := by decide +kernel
theorem dX5_put_15 : decode cX5_put 15 = .ok (.iload_n 2, 1) := by decide +kernel
theorem dX5_put_16 : decode cX5_put 16 = .ok (.invokevirtual 186, 3) := by decide +kernel
theorem dX5_put_19 : decode cX5_put 19 = .ok (.ifCond .le 14, 3) := by decide +kernel
theorem dX5_put_22 : decode cX5_put 22 = .ok (.aload_n 0, 1) := by decide +kernel
theorem dX5_put_23 : decode cX5_put 23 = .ok (.aload_n 0, 1) := by decide +kernel
theorem dX5_put_24 : decode cX5_put 24 = .ok (.iload_n 1, 1) := by decide +kernel
theorem dX5_put_25 : decode cX5_put 25 = .ok (.iload_n 2, 1) := by decide +kernel
theorem dX5_put_26 : decode cX5_put 26 = .ok (.invokevirtual 186, 3) := by decide +kernel
theorem dX5_put_29 : decode cX5_put 29 = .ok (.invokevirtual 183, 3) := by decide +kernel
theorem dX5_put_32 : decode cX5_put 32 = .ok (.ireturn, 1) := by decide +kernel
theorem dX5_put_33 : decode cX5_put 33 = .ok (.aload_n 0, 1) := by decide +kernel
theorem dX5_put_34 : decode cX5_put 34 = .ok (.getfield 56, 3) := by decide +kernel
theorem dX5_put_37 : decode cX5_put 37 = .ok (.bipush 50, 2) := by decide +kernel
theorem dX5_put_39 : decode cX5_put 39 = .ok (.iload_n 1, 1) := by decide +kernel
theorem dX5_put_40 : decode cX5_put 40 = .ok (.imul, 1) := by decide +kernel
theorem dX5_put_41 : decode cX5_put 41 = .ok (.iload_n 2, 1) := by decide +kernel
theorem dX5_put_42 : decode cX5_put 42 = .ok (.iadd, 1) := by decide +kernel
theorem dX5_put_43 : decode cX5_put 43 = .ok (.aload_n 0, 1) := by decide +kernel
theorem dX5_put_44 : decode cX5_put 44 = .ok (.getfield 53, 3) := by decide +kernel
theorem dX5_put_47 : decode cX5_put 47 = .ok (.iload_n 1, 1) := by decide +kernel
theorem dX5_put_48 : decode cX5_put 48 = .ok (.iaload, 1) := by decide +kernel
theorem dX5_put_49 : decode cX5_put 49 = .ok (.ifCond .ne 8, 3) := by decide +kernel
theorem dX5_put_52 : decode cX5_put 52 = .ok (.iload_n 3, 1) := by decide +kernel
theorem dX5_put_53 : decode cX5_put 53 = .ok (.i2b, 1) := by decide +kernel
theorem dX5_put_54 : decode cX5_put 54 = .ok (.goto 19, 3) := by decide +kernel
theorem dX5_put_57 : decode cX5_put 57 = .ok (.aload_n 0, 1) := by decide +kernel
theorem dX5_put_58 : decode cX5_put 58 = .ok (.getfield 53, 3) := by decide +kernel
theorem dX5_put_61 : decode cX5_put 61 = .ok (.iload_n 1, 1) := by decide +kernel
theorem dX5_put_62 : decode cX5_put 62 = .ok (.iaload, 1) := by decide +kernel
theorem dX5_put_63 : decode cX5_put 63 = .ok (.iconst 1, 1) := by decide +kernel
theorem dX5_put_64 : decode cX5_put 64 = .ok (.if_icmp .ne 8, 3) := by decide +kernel
theorem dX5_put_67 : decode cX5_put 67 = .ok (.iload_n 3, 1) := by decide +kernel
theorem dX5_put_68 : decode cX5_put 68 = .ok (.i2s, 1) := by decide +kernel
theorem dX5_put_69 : decode cX5_put 69 = .ok (.goto 4, 3) := by decide +kernel
theorem dX5_put_72 : decode cX5_put 72 = .ok (.iload_n 3, 1) := by decide +kernel
theorem dX5_put_73 : decode cX5_put 73 = .ok (.iastore, 1) := by decide +kernel
theorem dX5_put_74 : decode cX5_put 74 = .ok (.aload_n 0, 1) := by decide +kernel
theorem dX5_put_75 : decode cX5_put 75 = .ok (.iconst 1, 1) := by decide +kernel
theorem dX5_put_76 : decode cX5_put 76 = .ok (.invokevirtual 180, 3) := by decide +kernel
theorem dX5_put_79 : decode cX5_put 79 = .ok (.ireturn, 1) := by decide +kernel
set_option maxRecDepth 20000 in
theorem ggX5_cell_X5_noSheet : GoodIn wsX5_cell wsX5_noSheet := goodIn_r _ [9, 10, 11, 12, 8, 13] (by decide +kernel) (by decide +kernel)
set_option maxRecDepth 20000 in
theorem gX5_cell_X5_noSheet : GoodIn wsX5_cell (va_wsS RX5 177 yX5_noSheet wsX5_noSheet) := goodIn_app (goodIn_of _ (by decide +kernel)) ggX5_cell_X5_noSheet
set_option maxRecDepth 20000 in
theorem ggX5_cell_X5_in : GoodIn wsX5_cell wsX5_in := goodIn_r _ [13] (by decide +kernel) (by decide +kernel)
set_option maxRecDepth 20000 in
theorem gX5_cell_X5_in : GoodIn wsX5_cell (va_wsS RX5 75 yX5_in wsX5_in) := goodIn_app (goodIn_of _ (by decide +kernel)) ggX5_cell_X5_in
set_option maxRecDepth 20000 in
theorem ggX5_cell_X5_lost : GoodIn wsX5_cell wsX5_lost := goodIn_r _ [16, 17] (by decide +kernel) (by decide +kernel)
set_option maxRecDepth 20000 in
theorem gX5_cell_X5_lost : GoodIn wsX5_cell (va_wsS RX5 68 yX5_lost wsX5_lost) := goodIn_app (goodIn_of _ (by decide +kernel)) ggX5_cell_X5_lost
set_option maxRecDepth 20000 in
theorem ggX5_cell_X5_failedLong : GoodIn wsX5_cell wsX5_failedLong := goodIn_r _ [21, 1, 14, 15, 8, 16, 17, 26, 27, 28, 29, 30, 31, 32, 33, 34, 35, 36, 37, 38, 39, 40, 41, 42, 43, 44, 45, 46, 47] (by decide +kernel) (by decide +kernel)
set_option maxRecDepth 20000 in
theorem gX5_cell_X5_failedLong : GoodIn wsX5_cell (wsV RX5 189 RX5 yX5_failedLong wsX5_failedLong) := goodIn_app (goodIn_of _ (by decide +kernel)) ggX5_cell_X5_failedLong
set_option maxRecDepth 20000 in
theorem ggX5_cell_X5_noCell : GoodIn wsX5_cell wsX5_noCell := goodIn_r _ [25, 3, 11, 12, 8, 13, 26, 27, 28, 29, 30, 31, 32, 33, 34, 35, 36, 37, 38, 39, 40, 41, 42, 43, 44, 45, 46, 47] (by decide +kernel) (by decide +kernel)
set_option maxRecDepth 20000 in
theorem gX5_cell_X5_noCell : GoodIn wsX5_cell (wsV RX5 186 RX5 yX5_noCell wsX5_noCell) := goodIn_app (goodIn_of _ (by decide +kernel)) ggX5_cell_X5_noCell
theorem dX5_cell_0 : decode cX5_cell 0 = .ok (.aload_n 0, 1) := by decide +kernel
theorem dX5_cell_1 : decode cX5_cell 1 = .ok (.iconst 0, 1) := by decide +kernel
theorem dX5_cell_2 : decode cX5_cell 2 = .ok (.putfield 64, 3) := by decide +kernel
theorem dX5_cell_5 : decode cX5_cell 5 = .ok (.iload_n 1, 1) := by decide +kernel
theorem dX5_cell_6 : decode cX5_cell 6 = .ok (.invokestatic 177, 3) := by decide +kernel
theorem dX5_cell_9 : decode cX5_cell 9 = .ok (.ifCond .ne 15, 3) := by decide +kernel
theorem dX5_cell_12 : decode cX5_cell 12 = .ok (.iload_n 3, 1) := by decide +kernel
theorem dX5_cell_13 : decode cX5_cell 13 = .ok (.i2l, 1) := by decide +kernel
theorem dX5_cell_14 : decode cX5_cell 14 = .ok (.lconst 0, 1) := by decide +kernel
theorem dX5_cell_15 : decode cX5_cell 15 = .ok (.ldc2_w 92, 3) := by decide +kernel
theorem dX5_cell_18 : decode cX5_cell 18 = .ok (.invokestatic 75, 3) := by decide +kernel
theorem dX5_cell_21 : decode cX5_cell 21 = .ok (.ifCond .ne 7, 3) := by decide +kernel
theorem dX5_cell_24 : decode cX5_cell 24 = .ok (.invokestatic 68, 3) := by decide +kernel
theorem dX5_cell_27 : decode cX5_cell 27 = .ok (.lreturn, 1) := by decide +kernel
theorem dX5_cell_28 : decode cX5_cell 28 = .ok (.aload_n 0, 1) := by decide +kernel
theorem dX5_cell_29 : decode cX5_cell 29 = .ok (.getfield 50, 3) := by decide +kernel
theorem dX5_cell_32 : decode cX5_cell 32 = .ok (.iload_n 1, 1) := by decide +kernel
theorem dX5_cell_33 : decode cX5_cell 33 = .ok (.iaload, 1) := by decide +kernel
theorem dX5_cell_34 : decode cX5_cell 34 = .ok (.ifCond .lt 19, 3) := by decide +kernel
theorem dX5_cell_37 : decode cX5_cell 37 = .ok (.aload_n 0, 1) := by decide +kernel
theorem dX5_cell_38 : decode cX5_cell 38 = .ok (.getfield 53, 3) := by decide +kernel
theorem dX5_cell_41 : decode cX5_cell 41 = .ok (.iload_n 1, 1) := by decide +kernel
theorem dX5_cell_42 : decode cX5_cell 42 = .ok (.iaload, 1) := by decide +kernel
theorem dX5_cell_43 : decode cX5_cell 43 = .ok (.iload_n 3, 1) := by decide +kernel
theorem dX5_cell_44 : decode cX5_cell 44 = .ok (.if_icmp .eq 9, 3) := by decide +kernel
theorem dX5_cell_47 : decode cX5_cell 47 = .ok (.aload_n 0, 1) := by decide +kernel
theorem dX5_cell_48 : decode cX5_cell 48 = .ok (.iconst 2, 1) := by decide +kernel
theorem dX5_cell_49 : decode cX5_cell 49 = .ok (.invokevirtual 189, 3) := by decide +kernel
theorem dX5_cell_52 : decode cX5_cell 52 = .ok (.lreturn, 1) := by decide +kernel
theorem dX5_cell_53 : decode cX5_cell 53 = .ok (.aload_n 0, 1) := by decide +kernel
theorem dX5_cell_54 : decode cX5_cell 54 = .ok (.iload_n 1, 1) := by decide +kernel
theorem dX5_cell_55 : decode cX5_cell 55 = .ok (.iload_n 2, 1) := by decide +kernel
theorem dX5_cell_56 : decode cX5_cell 56 = .ok (.invokevirtual 186, 3) := by decide +kernel
theorem dX5_cell_59 : decode cX5_cell 59 = .ok (.ifCond .le 16, 3) := by decide +kernel
theorem dX5_cell_62 : decode cX5_cell 62 = .ok (.aload_n 0, 1) := by decide +kernel
theorem dX5_cell_63 : decode cX5_cell 63 = .ok (.aload_n 0, 1) := by decide +kernel
theorem dX5_cell_64 : decode cX5_cell 64 = .ok (.iload_n 1, 1) := by decide +kernel
theorem dX5_cell_65 : decode cX5_cell 65 = .ok (.iload_n 2, 1) := by decide +kernel
theorem dX5_cell_66 : decode cX5_cell 66 = .ok (.invokevirtual 186, 3) := by decide +kernel
theorem dX5_cell_69 : decode cX5_cell 69 = .ok (.invokevirtual 189, 3) := by decide +kernel
theorem dX5_cell_72 : decode cX5_cell 72 = .ok (.goto 15, 3) := by decide +kernel
theorem dX5_cell_75 : decode cX5_cell 75 = .ok (.aload_n 0, 1) := by decide +kernel
theorem dX5_cell_76 : decode cX5_cell 76 = .ok (.getfield 56, 3) := by decide +kernel
theorem dX5_cell_79 : decode cX5_cell 79 = .ok (.bipush 50, 2) := by decide +kernel
theorem dX5_cell_81 : decode cX5_cell 81 = .ok (.iload_n 1, 1) := by decide +kernel
theorem dX5_cell_82 : decode cX5_cell 82 = .ok (.imul, 1) := by decide +kernel
theorem dX5_cell_83 : decode cX5_cell 83 = .ok (.iload_n 2, 1) := by decide +kernel
theorem dX5_cell_84 : decode cX5_cell 84 = .ok (.iadd, 1) := by decide +kernel
theorem dX5_cell_85 : decode cX5_cell 85 = .ok (.iaload, 1) := by decide +kernel
theorem dX5_cell_86 : decode cX5_cell 86 = .ok (.i2l, 1) := by decide +kernel
theorem dX5_cell_87 : decode cX5_cell 87 = .ok (.lreturn, 1) := by decide +kernel
theorem dX5_isBeyond_0 : decode cX5_isBeyond 0 = .ok (.iload_n 0, 1) := by decide +kernel
theorem dX5_isBeyond_1 : decode cX5_isBeyond 1 = .ok (.ifCond .lt 19, 3) := by decide +kernel
theorem dX5_isBeyond_4 : decode cX5_isBeyond 4 = .ok (.lload_n 1, 1) := by decide +kernel
theorem dX5_isBeyond_5 : decode cX5_isBeyond 5 = .ok (.lconst 0, 1) := by decide +kernel
theorem dX5_isBeyond_6 : decode cX5_isBeyond 6 = .ok (.lcmp, 1) := by decide +kernel
theorem dX5_isBeyond_7 : decode cX5_isBeyond 7 = .ok (.ifCond .lt 13, 3) := by decide +kernel
theorem dX5_isBeyond_10 : decode cX5_isBeyond 10 = .ok (.iload_n 0, 1) := by decide +kernel
theorem dX5_isBeyond_11 : decode cX5_isBeyond 11 = .ok (.i2l, 1) := by decide +kernel
theorem dX5_isBeyond_12 : decode cX5_isBeyond 12 = .ok (.lload_n 1, 1) := by decide +kernel
theorem dX5_isBeyond_13 : decode cX5_isBeyond 13 = .ok (.ladd, 1) := by decide +kernel
theorem dX5_isBeyond_14 : decode cX5_isBeyond 14 = .ok (.iload_n 3, 1) := by decide +kernel
theorem dX5_isBeyond_15 : decode cX5_isBeyond 15 = .ok (.i2l, 1) := by decide +kernel
theorem dX5_isBeyond_16 : decode cX5_isBeyond 16 = .ok (.lcmp, 1) := by decide +kernel
theorem dX5_isBeyond_17 : decode cX5_isBeyond 17 = .ok (.ifCond .le 7, 3) := by decide +kernel
theorem dX5_isBeyond_20 : decode cX5_isBeyond 20 = .ok (.iconst 1, 1) := by decide +kernel
theorem dX5_isBeyond_21 : decode cX5_isBeyond 21 = .ok (.goto 4, 3) := by decide +kernel
theorem dX5_isBeyond_24 : decode cX5_isBeyond 24 = .ok (.iconst 0, 1) := by decide +kernel
theorem dX5_isBeyond_25 : decode cX5_isBeyond 25 = .ok (.ireturn, 1) := by decide +kernel
set_option maxRecDepth 20000 in
theorem ggX5_copy_X5_noSheet : GoodIn wsX5_copy wsX5_noSheet := goodIn_r _ [8, 9, 10, 11, 7, 12] (by decide +kernel) (by decide +kernel)
set_option maxRecDepth 20000 in
theorem gX5_copy_X5_noSheet : GoodIn wsX5_copy (va_wsS RX5 177 yX5_noSheet wsX5_noSheet) := goodIn_app (goodIn_of _ (by decide +kernel)) ggX5_copy_X5_noSheet
set_option maxRecDepth 20000 in
theorem ggX5_copy_X5_refused : GoodIn wsX5_copy wsX5_refused := goodIn_r _ [16, 17, 25, 26, 27, 28, 29, 30, 31, 32, 33, 34, 35, 36, 37, 38, 39, 40, 41, 42, 43, 44, 45, 46] (by decide +kernel) (by decide +kernel)
set_option maxRecDepth 20000 in
theorem gX5_copy_X5_refused : GoodIn wsX5_copy (wsV RX5 180 RX5 yX5_refused wsX5_refused) := goodIn_app (goodIn_of _ (by decide +kernel)) ggX5_copy_X5_refused
set_option maxRecDepth 20000 in
theorem ggX5_copy_X5_failed : GoodIn wsX5_copy wsX5_failed := goodIn_r _ [21, 17, 25, 26, 27, 28, 29, 30, 31, 32, 33, 34, 35, 36, 37, 38, 39, 40, 41, 42, 43, 44, 45, 46] (by decide +kernel) (by decide +kernel)
set_option maxRecDepth 20000 in
theorem gX5_copy_X5_failed : GoodIn wsX5_copy (wsV RX5 183 RX5 yX5_failed wsX5_failed) := goodIn_app (goodIn_of _ (by decide +kernel)) ggX5_copy_X5_failed
set_option maxRecDepth 20000 in
theorem ggX5_copy_X5_isBeyond : GoodIn wsX5_copy wsX5_isBeyond := goodIn_r _ [24] (by decide +kernel) (by decide +kernel)
set_option maxRecDepth 20000 in
theorem gX5_copy_X5_isBeyond : GoodIn wsX5_copy (va_wsS RX5 193 yX5_isBeyond wsX5_isBeyond) := goodIn_app (goodIn_of _ (by decide +kernel)) ggX5_copy_X5_isBeyond
theorem dX5_copy_0 : decode cX5_copy 0 = .ok (.iload_n 1, 1) := by decide +kernel
theorem dX5_copy_1 : decode cX5_copy 1 = .ok (.invokestatic 177, 3) := by decide +kernel
theorem dX5_copy_4 : decode cX5_copy 4 = .ok (.ifCond .ne 10, 3) := by decide +kernel
theorem dX5_copy_7 : decode cX5_copy 7 = .ok (.iload_n 3, 1) := by decide +kernel
theorem dX5_copy_8 : decode cX5_copy 8 = .ok (.invokestatic 177, 3) := by decide +kernel
theorem dX5_copy_11 : decode cX5_copy 11 = .ok (.ifCond .eq 9, 3) := by decide +kernel
theorem dX5_copy_14 : decode cX5_copy 14 = .ok (.aload_n 0, 1) := by decide +kernel
theorem dX5_copy_15 : decode cX5_copy 15 = .ok (.iconst (-1), 1) := by decide +kernel
theorem dX5_copy_16 : decode cX5_copy 16 = .ok (.invokevirtual 180, 3) := by decide +kernel
theorem dX5_copy_19 : decode cX5_copy 19 = .ok (.ireturn, 1) := by decide +kernel
theorem dX5_copy_20 : decode cX5_copy 20 = .ok (.aload_n 0, 1) := by decide +kernel
theorem dX5_copy_21 : decode cX5_copy 21 = .ok (.getfield 50, 3) := by decide +kernel
theorem dX5_copy_24 : decode cX5_copy 24 = .ok (.iload_n 1, 1) := by decide +kernel
theorem dX5_copy_25 : decode cX5_copy 25 = .ok (.iaload, 1) := by decide +kernel
theorem dX5_copy_26 : decode cX5_copy 26 = .ok (.ifCond .lt 12, 3) := by decide +kernel
theorem dX5_copy_29 : decode cX5_copy 29 = .ok (.aload_n 0, 1) := by decide +kernel
theorem dX5_copy_30 : decode cX5_copy 30 = .ok (.getfield 50, 3) := by decide +kernel
theorem dX5_copy_33 : decode cX5_copy 33 = .ok (.iload_n 3, 1) := by decide +kernel
theorem dX5_copy_34 : decode cX5_copy 34 = .ok (.iaload, 1) := by decide +kernel
theorem dX5_copy_35 : decode cX5_copy 35 = .ok (.ifCond .ge 9, 3) := by decide +kernel
theorem dX5_copy_38 : decode cX5_copy 38 = .ok (.aload_n 0, 1) := by decide +kernel
theorem dX5_copy_39 : decode cX5_copy 39 = .ok (.iconst 1, 1) := by decide +kernel
theorem dX5_copy_40 : decode cX5_copy 40 = .ok (.invokevirtual 183, 3) := by decide +kernel
theorem dX5_copy_43 : decode cX5_copy 43 = .ok (.ireturn, 1) := by decide +kernel
theorem dX5_copy_44 : decode cX5_copy 44 = .ok (.aload_n 0, 1) := by decide +kernel
theorem dX5_copy_45 : decode cX5_copy 45 = .ok (.getfield 53, 3) := by decide +kernel
theorem dX5_copy_48 : decode cX5_copy 48 = .ok (.iload_n 1, 1) := by decide +kernel
theorem dX5_copy_49 : decode cX5_copy 49 = .ok (.iaload, 1) := by decide +kernel
theorem dX5_copy_50 : decode cX5_copy 50 = .ok (.aload_n 0, 1) := by decide +kernel
theorem dX5_copy_51 : decode cX5_copy 51 = .ok (.getfield 53, 3) := by decide +kernel
theorem dX5_copy_54 : decode cX5_copy 54 = .ok (.iload_n 3, 1) := by decide +kernel
theorem dX5_copy_55 : decode cX5_copy 55 = .ok (.iaload, 1) := by decide +kernel
theorem dX5_copy_56 : decode cX5_copy 56 = .ok (.if_icmp .eq 9, 3) := by decide +kernel
theorem dX5_copy_59 : decode cX5_copy 59 = .ok (.aload_n 0, 1) := by decide +kernel
theorem dX5_copy_60 : decode cX5_copy 60 = .ok (.iconst 2, 1) := by decide +kernel
theorem dX5_copy_61 : decode cX5_copy 61 = .ok (.invokevirtual 183, 3) := by decide +kernel
theorem dX5_copy_64 : decode cX5_copy 64 = .ok (.ireturn, 1) := by decide +kernel
theorem dX5_copy_65 : decode cX5_copy 65 = .ok (.iload_n 2, 1) := by decide +kernel
theorem dX5_copy_66 : decode cX5_copy 66 = .ok (.iload 5, 2) := by decide +kernel
theorem dX5_copy_68 : decode cX5_copy 68 = .ok (.i2l, 1) := by decide +kernel
theorem dX5_copy_69 : decode cX5_copy 69 = .ok (.aload_n 0, 1) := by decide +kernel
theorem dX5_copy_70 : decode cX5_copy 70 = .ok (.getfield 50, 3) := by decide +kernel
theorem dX5_copy_73 : decode cX5_copy 73 = .ok (.iload_n 1, 1) := by decide +kernel
theorem dX5_copy_74 : decode cX5_copy 74 = .ok (.iaload, 1) := by decide +kernel
theorem dX5_copy_75 : decode cX5_copy 75 = .ok (.invokestatic 193, 3) := by decide +kernel
theorem dX5_copy_78 : decode cX5_copy 78 = .ok (.ifCond .ne 20, 3) := by decide +kernel
theorem dX5_copy_81 : decode cX5_copy 81 = .ok (.iload 4, 2) := by decide +kernel
theorem dX5_copy_83 : decode cX5_copy 83 = .ok (.iload 5, 2) := by decide +kernel
theorem dX5_copy_85 : decode cX5_copy 85 = .ok (.i2l, 1) := by decide +kernel
theorem dX5_copy_86 : decode cX5_copy 86 = .ok (.aload_n 0, 1) := by decide +kernel
theorem dX5_copy_87 : decode cX5_copy 87 = .ok (.getfield 50, 3) := by decide +kernel
theorem dX5_copy_90 : decode cX5_copy 90 = .ok (.iload_n 3, 1) := by decide +kernel
theorem dX5_copy_91 : decode cX5_copy 91 = .ok (.iaload, 1) := by decide +kernel
theorem dX5_copy_92 : decode cX5_copy 92 = .ok (.invokestatic 193, 3) := by decide +kernel
theorem dX5_copy_95 : decode cX5_copy 95 = .ok (.ifCond .eq 9, 3) := by decide +kernel
theorem dX5_copy_98 : decode cX5_copy 98 = .ok (.aload_n 0, 1) := by decide +kernel
theorem dX5_copy_99 : decode cX5_copy 99 = .ok (.iconst 3, 1) := by decide +kernel
theorem dX5_copy_100 : decode cX5_copy 100 = .ok (.invokevirtual 183, 3) := by decide +kernel
theorem dX5_copy_103 : decode cX5_copy 103 = .ok (.ireturn, 1) := by decide +kernel
theorem dX5_copy_104 : decode cX5_copy 104 = .ok (.iconst 0, 1) := by decide +kernel
theorem dX5_copy_105 : decode cX5_copy 105 = .ok (.istore 6, 2) := by decide +kernel
theorem dX5_copy_107 : decode cX5_copy 107 = .ok (.iload 6, 2) := by decide +kernel
theorem dX5_copy_109 : decode cX5_copy 109 = .ok (.iload 5, 2) := by decide +kernel
theorem dX5_copy_111 : decode cX5_copy 111 = .ok (.if_icmp .ge 30, 3) := by decide +kernel
theorem dX5_copy_114 : decode cX5_copy 114 = .ok (.aload_n 0, 1) := by decide +kernel
theorem dX5_copy_115 : decode cX5_copy 115 = .ok (.getfield 59, 3) := by decide +kernel
theorem dX5_copy_118 : decode cX5_copy 118 = .ok (.iload 6, 2) := by decide +kernel
theorem dX5_copy_120 : decode cX5_copy 120 = .ok (.aload_n 0, 1) := by decide +kernel
theorem dX5_copy_121 : decode cX5_copy 121 = .ok (.getfield 56, 3) := by decide +kernel
theorem dX5_copy_124 : decode cX5_copy 124 = .ok (.bipush 50, 2) := by decide +kernel
theorem dX5_copy_126 : decode cX5_copy 126 = .ok (.iload_n 1, 1) := by decide +kernel
theorem dX5_copy_127 : decode cX5_copy 127 = .ok (.imul, 1) := by decide +kernel
theorem dX5_copy_128 : decode cX5_copy 128 = .ok (.iload_n 2, 1) := by decide +kernel
theorem dX5_copy_129 : decode cX5_copy 129 = .ok (.iadd, 1) := by decide +kernel
theorem dX5_copy_130 : decode cX5_copy 130 = .ok (.iload 6, 2) := by decide +kernel
theorem dX5_copy_132 : decode cX5_copy 132 = .ok (.iadd, 1) := by decide +kernel
theorem dX5_copy_133 : decode cX5_copy 133 = .ok (.iaload, 1) := by decide +kernel
theorem dX5_copy_134 : decode cX5_copy 134 = .ok (.iastore, 1) := by decide +kernel
theorem dX5_copy_135 : decode cX5_copy 135 = .ok (.iinc 6 1, 3) := by decide +kernel
theorem dX5_copy_138 : decode cX5_copy 138 = .ok (.goto (-31), 3) := by decide +kernel
theorem dX5_copy_141 : decode cX5_copy 141 = .ok (.iconst 0, 1) := by decide +kernel
theorem dX5_copy_142 : decode cX5_copy 142 = .ok (.istore 6, 2) := by decide +kernel
theorem dX5_copy_144 : decode cX5_copy 144 = .ok (.iload 6, 2) := by decide +kernel
theorem dX5_copy_146 : decode cX5_copy 146 = .ok (.iload 5, 2) := by decide +kernel
theorem dX5_copy_148 : decode cX5_copy 148 = .ok (.if_icmp .ge 31, 3) := by decide +kernel
theorem dX5_copy_151 : decode cX5_copy 151 = .ok (.aload_n 0, 1) := by decide +kernel
theorem dX5_copy_152 : decode cX5_copy 152 = .ok (.getfield 56, 3) := by decide +kernel
theorem dX5_copy_155 : decode cX5_copy 155 = .ok (.bipush 50, 2) := by decide +kernel
theorem dX5_copy_157 : decode cX5_copy 157 = .ok (.iload_n 3, 1) := by decide +kernel
theorem dX5_copy_158 : decode cX5_copy 158 = .ok (.imul, 1) := by decide +kernel
theorem dX5_copy_159 : decode cX5_copy 159 = .ok (.iload 4, 2) := by decide +kernel
theorem dX5_copy_161 : decode cX5_copy 161 = .ok (.iadd, 1) := by decide +kernel
theorem dX5_copy_162 : decode cX5_copy 162 = .ok (.iload 6, 2) := by decide +kernel
theorem dX5_copy_164 : decode cX5_copy 164 = .ok (.iadd, 1) := by decide +kernel
theorem dX5_copy_165 : decode cX5_copy 165 = .ok (.aload_n 0, 1) := by decide +kernel
theorem dX5_copy_166 : decode cX5_copy 166 = .ok (.getfield 59, 3) := by decide +kernel
theorem dX5_copy_169 : decode cX5_copy 169 = .ok (.iload 6, 2) := by decide +kernel
theorem dX5_copy_171 : decode cX5_copy 171 = .ok (.iaload, 1) := by decide +kernel
theorem dX5_copy_172 : decode cX5_copy 172 = .ok (.iastore, 1) := by decide +kernel
theorem dX5_copy_173 : decode cX5_copy 173 = .ok (.iinc 6 1, 3) := by decide +kernel
theorem dX5_copy_176 : decode cX5_copy 176 = .ok (.goto (-32), 3) := by decide +kernel
theorem dX5_copy_179 : decode cX5_copy 179 = .ok (.aload_n 0, 1) := by decide +kernel
theorem dX5_copy_180 : decode cX5_copy 180 = .ok (.iload 5, 2) := by decide +kernel
theorem dX5_copy_182 : decode cX5_copy 182 = .ok (.invokevirtual 180, 3) := by decide +kernel
theorem dX5_copy_185 : decode cX5_copy 185 = .ok (.ireturn, 1) := by decide +kernel
set_option maxRecDepth 20000 in
theorem ggX5_plan_X5_noSheet : GoodIn wsX5_plan wsX5_noSheet := goodIn_r _ [10, 11, 12, 13, 9, 14] (by decide +kernel) (by decide +kernel)
set_option maxRecDepth 20000 in
theorem gX5_plan_X5_noSheet : GoodIn wsX5_plan (va_wsS RX5 177 yX5_noSheet wsX5_noSheet) := goodIn_app (goodIn_of _ (by decide +kernel)) ggX5_plan_X5_noSheet
set_option maxRecDepth 20000 in
theorem ggX5_plan_X5_refused : GoodIn wsX5_plan wsX5_refused := goodIn_r _ [18, 19, 43, 44, 45, 46, 47, 48, 49, 50, 51, 52, 53, 54, 55, 56, 57, 58, 59, 60, 61, 62, 63, 64] (by decide +kernel) (by decide +kernel)
set_option maxRecDepth 20000 in
theorem gX5_plan_X5_refused : GoodIn wsX5_plan (wsV RX5 180 RX5 yX5_refused wsX5_refused) := goodIn_app (goodIn_of _ (by decide +kernel)) ggX5_plan_X5_refused
set_option maxRecDepth 20000 in
theorem ggX5_plan_X5_in : GoodIn wsX5_plan wsX5_in := goodIn_r _ [14] (by decide +kernel) (by decide +kernel)
set_option maxRecDepth 20000 in
theorem gX5_plan_X5_in : GoodIn wsX5_plan (va_wsS RX5 75 yX5_in wsX5_in) := goodIn_app (goodIn_of _ (by decide +kernel)) ggX5_plan_X5_in
set_option maxRecDepth 20000 in
theorem ggX5_plan_X5_failed : GoodIn wsX5_plan wsX5_failed := goodIn_r _ [23, 19, 43, 44, 45, 46, 47, 48, 49, 50, 51, 52, 53, 54, 55, 56, 57, 58, 59, 60, 61, 62, 63, 64] (by decide +kernel) (by decide +kernel)
set_option maxRecDepth 20000 in
theorem gX5_plan_X5_failed : GoodIn wsX5_plan (wsV RX5 183 RX5 yX5_failed wsX5_failed) := goodIn_app (goodIn_of _ (by decide +kernel)) ggX5_plan_X5_failed
set_option maxRecDepth 20000 in
theorem ggX5_plan_X5_isBeyond : GoodIn wsX5_plan wsX5_isBeyond := goodIn_r _ [26] (by decide +kernel) (by decide +kernel)
set_option maxRecDepth 20000 in
theorem gX5_plan_X5_isBeyond : GoodIn wsX5_plan (va_wsS RX5 193 yX5_isBeyond wsX5_isBeyond) := goodIn_app (goodIn_of _ (by decide +kernel)) ggX5_plan_X5_isBeyond
set_option maxRecDepth 20000 in
theorem ggX5_plan_X5_isSpar : GoodIn wsX5_plan wsX5_isSpar := goodIn_r _ [30, 1, 31, 32, 33, 12, 13, 9, 14, 43, 44, 45, 46, 47, 48, 49, 50, 51, 52, 53, 54, 55, 56, 57, 58, 59, 60, 61, 62, 63, 64] (by decide +kernel) (by decide +kernel)
set_option maxRecDepth 20000 in
theorem gX5_plan_X5_isSpar : GoodIn wsX5_plan (wsV RX5 96 RX5 yX5_isSpar wsX5_isSpar) := goodIn_app (goodIn_of _ (by decide +kernel)) ggX5_plan_X5_isSpar
set_option maxRecDepth 20000 in
theorem ggX5_plan_X5_addSpar : GoodIn wsX5_plan wsX5_addSpar := goodIn_r _ [37, 38, 6, 39, 40, 41, 42, 43, 44, 45, 46, 47, 48, 49, 50, 51, 52, 53, 54, 55, 56, 57, 58, 59, 60, 61, 62, 63, 64] (by decide +kernel) (by decide +kernel)
set_option maxRecDepth 20000 in
theorem gX5_plan_X5_addSpar : GoodIn wsX5_plan (wsV RX5 100 RX5 yX5_addSpar wsX5_addSpar) := goodIn_app (goodIn_of _ (by decide +kernel)) ggX5_plan_X5_addSpar
theorem dX5_plan_0 : decode cX5_plan 0 = .ok (.iload_n 1, 1) := by decide +kernel
theorem dX5_plan_1 : decode cX5_plan 1 = .ok (.invokestatic 177, 3) := by decide +kernel
theorem dX5_plan_4 : decode cX5_plan 4 = .ok (.ifCond .eq 9, 3) := by decide +kernel
theorem dX5_plan_7 : decode cX5_plan 7 = .ok (.aload_n 0, 1) := by decide +kernel
theorem dX5_plan_8 : decode cX5_plan 8 = .ok (.iconst (-1), 1) := by decide +kernel
theorem dX5_plan_9 : decode cX5_plan 9 = .ok (.invokevirtual 180, 3) := by decide +kernel
theorem dX5_plan_12 : decode cX5_plan 12 = .ok (.ireturn, 1) := by decide +kernel
theorem dX5_plan_13 : decode cX5_plan 13 = .ok (.iload_n 2, 1) := by decide +kernel
theorem dX5_plan_14 : decode cX5_plan 14 = .ok (.i2l, 1) := by decide +kernel
theorem dX5_plan_15 : decode cX5_plan 15 = .ok (.lconst 0, 1) := by decide +kernel
theorem dX5_plan_16 : decode cX5_plan 16 = .ok (.ldc2_w 92, 3) := by decide +kernel
theorem dX5_plan_19 : decode cX5_plan 19 = .ok (.invokestatic 75, 3) := by decide +kernel
theorem dX5_plan_22 : decode cX5_plan 22 = .ok (.ifCond .ne 10, 3) := by decide +kernel
theorem dX5_plan_25 : decode cX5_plan 25 = .ok (.aload_n 0, 1) := by decide +kernel
theorem dX5_plan_26 : decode cX5_plan 26 = .ok (.bipush (-2), 2) := by decide +kernel
theorem dX5_plan_28 : decode cX5_plan 28 = .ok (.invokevirtual 180, 3) := by decide +kernel
theorem dX5_plan_31 : decode cX5_plan 31 = .ok (.ireturn, 1) := by decide +kernel
theorem dX5_plan_32 : decode cX5_plan 32 = .ok (.aload_n 0, 1) := by decide +kernel
theorem dX5_plan_33 : decode cX5_plan 33 = .ok (.getfield 50, 3) := by decide +kernel
theorem dX5_plan_36 : decode cX5_plan 36 = .ok (.iload_n 1, 1) := by decide +kernel
theorem dX5_plan_37 : decode cX5_plan 37 = .ok (.iaload, 1) := by decide +kernel
theorem dX5_plan_38 : decode cX5_plan 38 = .ok (.ifCond .lt 19, 3) := by decide +kernel
theorem dX5_plan_41 : decode cX5_plan 41 = .ok (.aload_n 0, 1) := by decide +kernel
theorem dX5_plan_42 : decode cX5_plan 42 = .ok (.getfield 53, 3) := by decide +kernel
theorem dX5_plan_45 : decode cX5_plan 45 = .ok (.iload_n 1, 1) := by decide +kernel
theorem dX5_plan_46 : decode cX5_plan 46 = .ok (.iaload, 1) := by decide +kernel
theorem dX5_plan_47 : decode cX5_plan 47 = .ok (.iload_n 2, 1) := by decide +kernel
theorem dX5_plan_48 : decode cX5_plan 48 = .ok (.if_icmp .eq 9, 3) := by decide +kernel
theorem dX5_plan_51 : decode cX5_plan 51 = .ok (.aload_n 0, 1) := by decide +kernel
theorem dX5_plan_52 : decode cX5_plan 52 = .ok (.iconst 2, 1) := by decide +kernel
theorem dX5_plan_53 : decode cX5_plan 53 = .ok (.invokevirtual 183, 3) := by decide +kernel
theorem dX5_plan_56 : decode cX5_plan 56 = .ok (.ireturn, 1) := by decide +kernel
theorem dX5_plan_57 : decode cX5_plan 57 = .ok (.aload_n 0, 1) := by decide +kernel
theorem dX5_plan_58 : decode cX5_plan 58 = .ok (.getfield 50, 3) := by decide +kernel
theorem dX5_plan_61 : decode cX5_plan 61 = .ok (.iload_n 1, 1) := by decide +kernel
theorem dX5_plan_62 : decode cX5_plan 62 = .ok (.iaload, 1) := by decide +kernel
theorem dX5_plan_63 : decode cX5_plan 63 = .ok (.ifCond .ge 9, 3) := by decide +kernel
theorem dX5_plan_66 : decode cX5_plan 66 = .ok (.aload_n 0, 1) := by decide +kernel
theorem dX5_plan_67 : decode cX5_plan 67 = .ok (.iconst 1, 1) := by decide +kernel
theorem dX5_plan_68 : decode cX5_plan 68 = .ok (.invokevirtual 183, 3) := by decide +kernel
theorem dX5_plan_71 : decode cX5_plan 71 = .ok (.ireturn, 1) := by decide +kernel
theorem dX5_plan_72 : decode cX5_plan 72 = .ok (.iload 4, 2) := by decide +kernel
theorem dX5_plan_74 : decode cX5_plan 74 = .ok (.ifCond .ge 9, 3) := by decide +kernel
theorem dX5_plan_77 : decode cX5_plan 77 = .ok (.aload_n 0, 1) := by decide +kernel
theorem dX5_plan_78 : decode cX5_plan 78 = .ok (.iconst 4, 1) := by decide +kernel
theorem dX5_plan_79 : decode cX5_plan 79 = .ok (.invokevirtual 183, 3) := by decide +kernel
theorem dX5_plan_82 : decode cX5_plan 82 = .ok (.ireturn, 1) := by decide +kernel
theorem dX5_plan_83 : decode cX5_plan 83 = .ok (.iload_n 3, 1) := by decide +kernel
theorem dX5_plan_84 : decode cX5_plan 84 = .ok (.ldc2_w 197, 3) := by decide +kernel
theorem dX5_plan_87 : decode cX5_plan 87 = .ok (.iload 4, 2) := by decide +kernel
theorem dX5_plan_89 : decode cX5_plan 89 = .ok (.i2l, 1) := by decide +kernel
theorem dX5_plan_90 : decode cX5_plan 90 = .ok (.lmul, 1) := by decide +kernel
theorem dX5_plan_91 : decode cX5_plan 91 = .ok (.aload_n 0, 1) := by decide +kernel
theorem dX5_plan_92 : decode cX5_plan 92 = .ok (.getfield 50, 3) := by decide +kernel
theorem dX5_plan_95 : decode cX5_plan 95 = .ok (.iload_n 1, 1) := by decide +kernel
theorem dX5_plan_96 : decode cX5_plan 96 = .ok (.iaload, 1) := by decide +kernel
theorem dX5_plan_97 : decode cX5_plan 97 = .ok (.invokestatic 193, 3) := by decide +kernel
theorem dX5_plan_100 : decode cX5_plan 100 = .ok (.ifCond .eq 9, 3) := by decide +kernel
theorem dX5_plan_103 : decode cX5_plan 103 = .ok (.aload_n 0, 1) := by decide +kernel
theorem dX5_plan_104 : decode cX5_plan 104 = .ok (.iconst 3, 1) := by decide +kernel
theorem dX5_plan_105 : decode cX5_plan 105 = .ok (.invokevirtual 183, 3) := by decide +kernel
theorem dX5_plan_108 : decode cX5_plan 108 = .ok (.ireturn, 1) := by decide +kernel
theorem dX5_plan_109 : decode cX5_plan 109 = .ok (.bipush 50, 2) := by decide +kernel
theorem dX5_plan_111 : decode cX5_plan 111 = .ok (.iload_n 1, 1) := by decide +kernel
theorem dX5_plan_112 : decode cX5_plan 112 = .ok (.imul, 1) := by decide +kernel
theorem dX5_plan_113 : decode cX5_plan 113 = .ok (.iload_n 3, 1) := by decide +kernel
theorem dX5_plan_114 : decode cX5_plan 114 = .ok (.iadd, 1) := by decide +kernel
theorem dX5_plan_115 : decode cX5_plan 115 = .ok (.istore 5, 2) := by decide +kernel
theorem dX5_plan_117 : decode cX5_plan 117 = .ok (.iconst 0, 1) := by decide +kernel
theorem dX5_plan_118 : decode cX5_plan 118 = .ok (.istore 6, 2) := by decide +kernel
theorem dX5_plan_120 : decode cX5_plan 120 = .ok (.iload 6, 2) := by decide +kernel
theorem dX5_plan_122 : decode cX5_plan 122 = .ok (.iload 4, 2) := by decide +kernel
theorem dX5_plan_124 : decode cX5_plan 124 = .ok (.if_icmp .ge 94, 3) := by decide +kernel
theorem dX5_plan_127 : decode cX5_plan 127 = .ok (.iload 5, 2) := by decide +kernel
theorem dX5_plan_129 : decode cX5_plan 129 = .ok (.iconst 5, 1) := by decide +kernel
theorem dX5_plan_130 : decode cX5_plan 130 = .ok (.iload 6, 2) := by decide +kernel
theorem dX5_plan_132 : decode cX5_plan 132 = .ok (.imul, 1) := by decide +kernel
theorem dX5_plan_133 : decode cX5_plan 133 = .ok (.iadd, 1) := by decide +kernel
theorem dX5_plan_134 : decode cX5_plan 134 = .ok (.istore 7, 2) := by decide +kernel
theorem dX5_plan_136 : decode cX5_plan 136 = .ok (.aload_n 0, 1) := by decide +kernel
theorem dX5_plan_137 : decode cX5_plan 137 = .ok (.aload_n 0, 1) := by decide +kernel
theorem dX5_plan_138 : decode cX5_plan 138 = .ok (.getfield 56, 3) := by decide +kernel
theorem dX5_plan_141 : decode cX5_plan 141 = .ok (.iload 7, 2) := by decide +kernel
theorem dX5_plan_143 : decode cX5_plan 143 = .ok (.iaload, 1) := by decide +kernel
theorem dX5_plan_144 : decode cX5_plan 144 = .ok (.aload_n 0, 1) := by decide +kernel
theorem dX5_plan_145 : decode cX5_plan 145 = .ok (.getfield 56, 3) := by decide +kernel
theorem dX5_plan_148 : decode cX5_plan 148 = .ok (.iload 7, 2) := by decide +kernel
theorem dX5_plan_150 : decode cX5_plan 150 = .ok (.iconst 1, 1) := by decide +kernel
theorem dX5_plan_151 : decode cX5_plan 151 = .ok (.iadd, 1) := by decide +kernel
theorem dX5_plan_152 : decode cX5_plan 152 = .ok (.iaload, 1) := by decide +kernel
theorem dX5_plan_153 : decode cX5_plan 153 = .ok (.aload_n 0, 1) := by decide +kernel
theorem dX5_plan_154 : decode cX5_plan 154 = .ok (.getfield 56, 3) := by decide +kernel
theorem dX5_plan_157 : decode cX5_plan 157 = .ok (.iload 7, 2) := by decide +kernel
theorem dX5_plan_159 : decode cX5_plan 159 = .ok (.iconst 2, 1) := by decide +kernel
theorem dX5_plan_160 : decode cX5_plan 160 = .ok (.iadd, 1) := by decide +kernel
theorem dX5_plan_161 : decode cX5_plan 161 = .ok (.iaload, 1) := by decide +kernel
theorem dX5_plan_162 : decode cX5_plan 162 = .ok (.aload_n 0, 1) := by decide +kernel
theorem dX5_plan_163 : decode cX5_plan 163 = .ok (.getfield 56, 3) := by decide +kernel
theorem dX5_plan_166 : decode cX5_plan 166 = .ok (.iload 7, 2) := by decide +kernel
theorem dX5_plan_168 : decode cX5_plan 168 = .ok (.iconst 3, 1) := by decide +kernel
theorem dX5_plan_169 : decode cX5_plan 169 = .ok (.iadd, 1) := by decide +kernel
theorem dX5_plan_170 : decode cX5_plan 170 = .ok (.iaload, 1) := by decide +kernel
theorem dX5_plan_171 : decode cX5_plan 171 = .ok (.aload_n 0, 1) := by decide +kernel
theorem dX5_plan_172 : decode cX5_plan 172 = .ok (.getfield 56, 3) := by decide +kernel
theorem dX5_plan_175 : decode cX5_plan 175 = .ok (.iload 7, 2) := by decide +kernel
theorem dX5_plan_177 : decode cX5_plan 177 = .ok (.iconst 4, 1) := by decide +kernel
theorem dX5_plan_178 : decode cX5_plan 178 = .ok (.iadd, 1) := by decide +kernel
theorem dX5_plan_179 : decode cX5_plan 179 = .ok (.iaload, 1) := by decide +kernel
theorem dX5_plan_180 : decode cX5_plan 180 = .ok (.invokevirtual 96, 3) := by decide +kernel
theorem dX5_plan_183 : decode cX5_plan 183 = .ok (.ifCond .ne 10, 3) := by decide +kernel
theorem dX5_plan_186 : decode cX5_plan 186 = .ok (.aload_n 0, 1) := by decide +kernel
theorem dX5_plan_187 : decode cX5_plan 187 = .ok (.bipush (-2), 2) := by decide +kernel
theorem dX5_plan_189 : decode cX5_plan 189 = .ok (.invokevirtual 180, 3) := by decide +kernel
theorem dX5_plan_192 : decode cX5_plan 192 = .ok (.ireturn, 1) := by decide +kernel
theorem dX5_plan_193 : decode cX5_plan 193 = .ok (.aload_n 0, 1) := by decide +kernel
theorem dX5_plan_194 : decode cX5_plan 194 = .ok (.getfield 72, 3) := by decide +kernel
theorem dX5_plan_197 : decode cX5_plan 197 = .ok (.iload 6, 2) := by decide +kernel
theorem dX5_plan_199 : decode cX5_plan 199 = .ok (.iadd, 1) := by decide +kernel
theorem dX5_plan_200 : decode cX5_plan 200 = .ok (.bipush 10, 2) := by decide +kernel
theorem dX5_plan_202 : decode cX5_plan 202 = .ok (.if_icmp .lt 10, 3) := by decide +kernel
theorem dX5_plan_205 : decode cX5_plan 205 = .ok (.aload_n 0, 1) := by decide +kernel
theorem dX5_plan_206 : decode cX5_plan 206 = .ok (.bipush (-4), 2) := by decide +kernel
theorem dX5_plan_208 : decode cX5_plan 208 = .ok (.invokevirtual 180, 3) := by decide +kernel
theorem dX5_plan_211 : decode cX5_plan 211 = .ok (.ireturn, 1) := by decide +kernel
theorem dX5_plan_212 : decode cX5_plan 212 = .ok (.iinc 6 1, 3) := by decide +kernel
theorem dX5_plan_215 : decode cX5_plan 215 = .ok (.goto (-95), 3) := by decide +kernel
theorem dX5_plan_218 : decode cX5_plan 218 = .ok (.iconst 0, 1) := by decide +kernel
theorem dX5_plan_219 : decode cX5_plan 219 = .ok (.istore 6, 2) := by decide +kernel
theorem dX5_plan_221 : decode cX5_plan 221 = .ok (.iload 6, 2) := by decide +kernel
theorem dX5_plan_223 : decode cX5_plan 223 = .ok (.iload 4, 2) := by decide +kernel
theorem dX5_plan_225 : decode cX5_plan 225 = .ok (.if_icmp .ge 65, 3) := by decide +kernel
theorem dX5_plan_228 : decode cX5_plan 228 = .ok (.iload 5, 2) := by decide +kernel
theorem dX5_plan_230 : decode cX5_plan 230 = .ok (.iconst 5, 1) := by decide +kernel
theorem dX5_plan_231 : decode cX5_plan 231 = .ok (.iload 6, 2) := by decide +kernel
theorem dX5_plan_233 : decode cX5_plan 233 = .ok (.imul, 1) := by decide +kernel
theorem dX5_plan_234 : decode cX5_plan 234 = .ok (.iadd, 1) := by decide +kernel
theorem dX5_plan_235 : decode cX5_plan 235 = .ok (.istore 7, 2) := by decide +kernel
theorem dX5_plan_237 : decode cX5_plan 237 = .ok (.aload_n 0, 1) := by decide +kernel
theorem dX5_plan_238 : decode cX5_plan 238 = .ok (.aload_n 0, 1) := by decide +kernel
theorem dX5_plan_239 : decode cX5_plan 239 = .ok (.getfield 56, 3) := by decide +kernel
theorem dX5_plan_242 : decode cX5_plan 242 = .ok (.iload 7, 2) := by decide +kernel
theorem dX5_plan_244 : decode cX5_plan 244 = .ok (.iaload, 1) := by decide +kernel
theorem dX5_plan_245 : decode cX5_plan 245 = .ok (.aload_n 0, 1) := by decide +kernel
theorem dX5_plan_246 : decode cX5_plan 246 = .ok (.getfield 56, 3) := by decide +kernel
theorem dX5_plan_249 : decode cX5_plan 249 = .ok (.iload 7, 2) := by decide +kernel
theorem dX5_plan_251 : decode cX5_plan 251 = .ok (.iconst 1, 1) := by decide +kernel
theorem dX5_plan_252 : decode cX5_plan 252 = .ok (.iadd, 1) := by decide +kernel
theorem dX5_plan_253 : decode cX5_plan 253 = .ok (.iaload, 1) := by decide +kernel
theorem dX5_plan_254 : decode cX5_plan 254 = .ok (.aload_n 0, 1) := by decide +kernel
theorem dX5_plan_255 : decode cX5_plan 255 = .ok (.getfield 56, 3) := by decide +kernel
theorem dX5_plan_258 : decode cX5_plan 258 = .ok (.iload 7, 2) := by decide +kernel
theorem dX5_plan_260 : decode cX5_plan 260 = .ok (.iconst 2, 1) := by decide +kernel
theorem dX5_plan_261 : decode cX5_plan 261 = .ok (.iadd, 1) := by decide +kernel
theorem dX5_plan_262 : decode cX5_plan 262 = .ok (.iaload, 1) := by decide +kernel
theorem dX5_plan_263 : decode cX5_plan 263 = .ok (.aload_n 0, 1) := by decide +kernel
theorem dX5_plan_264 : decode cX5_plan 264 = .ok (.getfield 56, 3) := by decide +kernel
theorem dX5_plan_267 : decode cX5_plan 267 = .ok (.iload 7, 2) := by decide +kernel
theorem dX5_plan_269 : decode cX5_plan 269 = .ok (.iconst 3, 1) := by decide +kernel
theorem dX5_plan_270 : decode cX5_plan 270 = .ok (.iadd, 1) := by decide +kernel
theorem dX5_plan_271 : decode cX5_plan 271 = .ok (.iaload, 1) := by decide +kernel
theorem dX5_plan_272 : decode cX5_plan 272 = .ok (.aload_n 0, 1) := by decide +kernel
theorem dX5_plan_273 : decode cX5_plan 273 = .ok (.getfield 56, 3) := by decide +kernel
theorem dX5_plan_276 : decode cX5_plan 276 = .ok (.iload 7, 2) := by decide +kernel
theorem dX5_plan_278 : decode cX5_plan 278 = .ok (.iconst 4, 1) := by decide +kernel
theorem dX5_plan_279 : decode cX5_plan 279 = .ok (.iadd, 1) := by decide +kernel
theorem dX5_plan_280 : decode cX5_plan 280 = .ok (.iaload, 1) := by decide +kernel
theorem dX5_plan_281 : decode cX5_plan 281 = .ok (.invokevirtual 100, 3) := by decide +kernel
theorem dX5_plan_284 : decode cX5_plan 284 = .ok (.iinc 6 1, 3) := by decide +kernel
theorem dX5_plan_287 : decode cX5_plan 287 = .ok (.goto (-66), 3) := by decide +kernel
theorem dX5_plan_290 : decode cX5_plan 290 = .ok (.aload_n 0, 1) := by decide +kernel
theorem dX5_plan_291 : decode cX5_plan 291 = .ok (.aload_n 0, 1) := by decide +kernel
theorem dX5_plan_292 : decode cX5_plan 292 = .ok (.getfield 72, 3) := by decide +kernel
theorem dX5_plan_295 : decode cX5_plan 295 = .ok (.invokevirtual 180, 3) := by decide +kernel
theorem dX5_plan_298 : decode cX5_plan 298 = .ok (.ireturn, 1) := by decide +kernel
theorem dX5_traced_0 : decode cX5_traced 0 = .ok (.aload_n 0, 1) := by decide +kernel
theorem dX5_traced_1 : decode cX5_traced 1 = .ok (.bipush 31, 2) := by decide +kernel
theorem dX5_traced_3 : decode cX5_traced 3 = .ok (.aload_n 0, 1) := by decide +kernel
theorem dX5_traced_4 : decode cX5_traced 4 = .ok (.getfield 199, 3) := by decide +kernel
theorem dX5_traced_7 : decode cX5_traced 7 = .ok (.imul, 1) := by decide +kernel
theorem dX5_traced_8 : decode cX5_traced 8 = .ok (.iload_n 1, 1) := by decide +kernel
theorem dX5_traced_9 : decode cX5_traced 9 = .ok (.iadd, 1) := by decide +kernel
theorem dX5_traced_10 : decode cX5_traced 10 = .ok (.putfield 199, 3) := by decide +kernel
theorem dX5_traced_13 : decode cX5_traced 13 = .ok (.return_, 1) := by decide +kernel
set_option maxRecDepth 20000 in
theorem ggX5_tell_X5_noSpar : GoodIn wsX5_tell wsX5_noSpar := goodIn_r _ [9, 10, 11, 12, 8, 13, 19, 20, 21, 22, 23, 24, 25, 26, 27, 28, 29, 30, 31, 32, 33, 34, 35, 36, 37, 38, 39, 40] (by decide +kernel) (by decide +kernel)
set_option maxRecDepth 20000 in
theorem gX5_tell_X5_noSpar : GoodIn wsX5_tell (wsV RX5 118 RX5 yX5_noSpar wsX5_noSpar) := goodIn_app (goodIn_of _ (by decide +kernel)) ggX5_tell_X5_noSpar
set_option maxRecDepth 20000 in
theorem ggX5_tell_X5_traced : GoodIn wsX5_tell wsX5_traced := goodIn_r _ [17, 18, 19, 20, 21, 22, 23, 24, 25, 26, 27, 28, 29, 30, 31, 32, 33, 34, 35, 36, 37, 38, 39, 40] (by decide +kernel) (by decide +kernel)
set_option maxRecDepth 20000 in
theorem gX5_tell_X5_traced : GoodIn wsX5_tell (wsV RX5 202 RX5 yX5_traced wsX5_traced) := goodIn_app (goodIn_of _ (by decide +kernel)) ggX5_tell_X5_traced
theorem dX5_tell_0 : decode cX5_tell 0 = .ok (.aload_n 0, 1) := by decide +kernel
theorem dX5_tell_1 : decode cX5_tell 1 = .ok (.iload_n 1, 1) := by decide +kernel
theorem dX5_tell_2 : decode cX5_tell 2 = .ok (.invokevirtual 118, 3) := by decide +kernel
theorem dX5_tell_5 : decode cX5_tell 5 = .ok (.ifCond .eq 5, 3) := by decide +kernel
theorem dX5_tell_8 : decode cX5_tell 8 = .ok (.iconst (-1), 1) := by decide +kernel
theorem dX5_tell_9 : decode cX5_tell 9 = .ok (.ireturn, 1) := by decide +kernel
theorem dX5_tell_10 : decode cX5_tell 10 = .ok (.aload_n 0, 1) := by decide +kernel
theorem dX5_tell_11 : decode cX5_tell 11 = .ok (.getfield 13, 3) := by decide +kernel
theorem dX5_tell_14 : decode cX5_tell 14 = .ok (.iload_n 1, 1) := by decide +kernel
theorem dX5_tell_15 : decode cX5_tell 15 = .ok (.iaload, 1) := by decide +kernel
theorem dX5_tell_16 : decode cX5_tell 16 = .ok (.ifCond .le 15, 3) := by decide +kernel
theorem dX5_tell_19 : decode cX5_tell 19 = .ok (.aload_n 0, 1) := by decide +kernel
theorem dX5_tell_20 : decode cX5_tell 20 = .ok (.aload_n 0, 1) := by decide +kernel
theorem dX5_tell_21 : decode cX5_tell 21 = .ok (.getfield 13, 3) := by decide +kernel
theorem dX5_tell_24 : decode cX5_tell 24 = .ok (.iload_n 1, 1) := by decide +kernel
theorem dX5_tell_25 : decode cX5_tell 25 = .ok (.iaload, 1) := by decide +kernel
theorem dX5_tell_26 : decode cX5_tell 26 = .ok (.iconst 1, 1) := by decide +kernel
theorem dX5_tell_27 : decode cX5_tell 27 = .ok (.iadd, 1) := by decide +kernel
theorem dX5_tell_28 : decode cX5_tell 28 = .ok (.invokevirtual 202, 3) := by decide +kernel
theorem dX5_tell_31 : decode cX5_tell 31 = .ok (.aload_n 0, 1) := by decide +kernel
theorem dX5_tell_32 : decode cX5_tell 32 = .ok (.iconst 1, 1) := by decide +kernel
theorem dX5_tell_33 : decode cX5_tell 33 = .ok (.invokevirtual 202, 3) := by decide +kernel
theorem dX5_tell_36 : decode cX5_tell 36 = .ok (.aload_n 0, 1) := by decide +kernel
theorem dX5_tell_37 : decode cX5_tell 37 = .ok (.getfield 13, 3) := by decide +kernel
theorem dX5_tell_40 : decode cX5_tell 40 = .ok (.iload_n 1, 1) := by decide +kernel
theorem dX5_tell_41 : decode cX5_tell 41 = .ok (.iaload, 1) := by decide +kernel
theorem dX5_tell_42 : decode cX5_tell 42 = .ok (.ifCond .ne 12, 3) := by decide +kernel
theorem dX5_tell_45 : decode cX5_tell 45 = .ok (.aload_n 0, 1) := by decide +kernel
theorem dX5_tell_46 : decode cX5_tell 46 = .ok (.getfield 19, 3) := by decide +kernel
theorem dX5_tell_49 : decode cX5_tell 49 = .ok (.iload_n 1, 1) := by decide +kernel
theorem dX5_tell_50 : decode cX5_tell 50 = .ok (.iaload, 1) := by decide +kernel
theorem dX5_tell_51 : decode cX5_tell 51 = .ok (.goto 42, 3) := by decide +kernel
theorem dX5_tell_54 : decode cX5_tell 54 = .ok (.aload_n 0, 1) := by decide +kernel
theorem dX5_tell_55 : decode cX5_tell 55 = .ok (.getfield 13, 3) := by decide +kernel
theorem dX5_tell_58 : decode cX5_tell 58 = .ok (.iload_n 1, 1) := by decide +kernel
theorem dX5_tell_59 : decode cX5_tell 59 = .ok (.iaload, 1) := by decide +kernel
theorem dX5_tell_60 : decode cX5_tell 60 = .ok (.iconst 1, 1) := by decide +kernel
theorem dX5_tell_61 : decode cX5_tell 61 = .ok (.if_icmp .ne 19, 3) := by decide +kernel
theorem dX5_tell_64 : decode cX5_tell 64 = .ok (.aload_n 0, 1) := by decide +kernel
theorem dX5_tell_65 : decode cX5_tell 65 = .ok (.getfield 19, 3) := by decide +kernel
theorem dX5_tell_68 : decode cX5_tell 68 = .ok (.iload_n 1, 1) := by decide +kernel
theorem dX5_tell_69 : decode cX5_tell 69 = .ok (.iaload, 1) := by decide +kernel
theorem dX5_tell_70 : decode cX5_tell 70 = .ok (.aload_n 0, 1) := by decide +kernel
theorem dX5_tell_71 : decode cX5_tell 71 = .ok (.getfield 16, 3) := by decide +kernel
theorem dX5_tell_74 : decode cX5_tell 74 = .ok (.iload_n 1, 1) := by decide +kernel
theorem dX5_tell_75 : decode cX5_tell 75 = .ok (.iaload, 1) := by decide +kernel
theorem dX5_tell_76 : decode cX5_tell 76 = .ok (.iadd, 1) := by decide +kernel
theorem dX5_tell_77 : decode cX5_tell 77 = .ok (.goto 16, 3) := by decide +kernel
theorem dX5_tell_80 : decode cX5_tell 80 = .ok (.aload_n 0, 1) := by decide +kernel
theorem dX5_tell_81 : decode cX5_tell 81 = .ok (.getfield 19, 3) := by decide +kernel
theorem dX5_tell_84 : decode cX5_tell 84 = .ok (.iload_n 1, 1) := by decide +kernel
theorem dX5_tell_85 : decode cX5_tell 85 = .ok (.iaload, 1) := by decide +kernel
theorem dX5_tell_86 : decode cX5_tell 86 = .ok (.aload_n 0, 1) := by decide +kernel
theorem dX5_tell_87 : decode cX5_tell 87 = .ok (.getfield 25, 3) := by decide +kernel
theorem dX5_tell_90 : decode cX5_tell 90 = .ok (.iload_n 1, 1) := by decide +kernel
theorem dX5_tell_91 : decode cX5_tell 91 = .ok (.iaload, 1) := by decide +kernel
theorem dX5_tell_92 : decode cX5_tell 92 = .ok (.imul, 1) := by decide +kernel
theorem dX5_tell_93 : decode cX5_tell 93 = .ok (.ireturn, 1) := by decide +kernel
set_option maxRecDepth 20000 in
theorem ggX5_name_X5_noSpar : GoodIn wsX5_name wsX5_noSpar := goodIn_r _ [7, 8, 9, 10, 6, 11, 17, 18, 19, 20, 21, 22, 23, 24, 25, 26, 27, 28, 29, 30, 31, 32, 33, 34, 35, 36, 37, 38] (by decide +kernel) (by decide +kernel)
set_option maxRecDepth 20000 in
theorem gX5_name_X5_noSpar : GoodIn wsX5_name (wsV RX5 118 RX5 yX5_noSpar wsX5_noSpar) := goodIn_app (goodIn_of _ (by decide +kernel)) ggX5_name_X5_noSpar
set_option maxRecDepth 20000 in
theorem ggX5_name_X5_traced : GoodIn wsX5_name wsX5_traced := goodIn_r _ [15, 16, 17, 18, 19, 20, 21, 22, 23, 24, 25, 26, 27, 28, 29, 30, 31, 32, 33, 34, 35, 36, 37, 38] (by decide +kernel) (by decide +kernel)
set_option maxRecDepth 20000 in
theorem gX5_name_X5_traced : GoodIn wsX5_name (wsV RX5 202 RX5 yX5_traced wsX5_traced) := goodIn_app (goodIn_of _ (by decide +kernel)) ggX5_name_X5_traced
theorem dX5_name_0 : decode cX5_name 0 = .ok (.aload_n 0, 1) := by decide +kernel
theorem dX5_name_1 : decode cX5_name 1 = .ok (.iload_n 1, 1) := by decide +kernel
theorem dX5_name_2 : decode cX5_name 2 = .ok (.invokevirtual 118, 3) := by decide +kernel
theorem dX5_name_5 : decode cX5_name 5 = .ok (.ifCond .eq 5, 3) := by decide +kernel
theorem dX5_name_8 : decode cX5_name 8 = .ok (.iconst (-1), 1) := by decide +kernel
theorem dX5_name_9 : decode cX5_name 9 = .ok (.ireturn, 1) := by decide +kernel
theorem dX5_name_10 : decode cX5_name 10 = .ok (.aload_n 0, 1) := by decide +kernel
theorem dX5_name_11 : decode cX5_name 11 = .ok (.aload_n 0, 1) := by decide +kernel
theorem dX5_name_12 : decode cX5_name 12 = .ok (.getfield 13, 3) := by decide +kernel
theorem dX5_name_15 : decode cX5_name 15 = .ok (.iload_n 1, 1) := by decide +kernel
theorem dX5_name_16 : decode cX5_name 16 = .ok (.iaload, 1) := by decide +kernel
theorem dX5_name_17 : decode cX5_name 17 = .ok (.iconst 2, 1) := by decide +kernel
theorem dX5_name_18 : decode cX5_name 18 = .ok (.if_icmp .ne 7, 3) := by decide +kernel
theorem dX5_name_21 : decode cX5_name 21 = .ok (.iconst 5, 1) := by decide +kernel
theorem dX5_name_22 : decode cX5_name 22 = .ok (.goto 4, 3) := by decide +kernel
theorem dX5_name_25 : decode cX5_name 25 = .ok (.iconst 4, 1) := by decide +kernel
theorem dX5_name_26 : decode cX5_name 26 = .ok (.invokevirtual 202, 3) := by decide +kernel
theorem dX5_name_29 : decode cX5_name 29 = .ok (.aload_n 0, 1) := by decide +kernel
theorem dX5_name_30 : decode cX5_name 30 = .ok (.getfield 13, 3) := by decide +kernel
theorem dX5_name_33 : decode cX5_name 33 = .ok (.iload_n 1, 1) := by decide +kernel
theorem dX5_name_34 : decode cX5_name 34 = .ok (.iaload, 1) := by decide +kernel
theorem dX5_name_35 : decode cX5_name 35 = .ok (.iconst 2, 1) := by decide +kernel
theorem dX5_name_36 : decode cX5_name 36 = .ok (.if_icmp .ne 8, 3) := by decide +kernel
theorem dX5_name_39 : decode cX5_name 39 = .ok (.bipush 40, 2) := by decide +kernel
theorem dX5_name_41 : decode cX5_name 41 = .ok (.goto 14, 3) := by decide +kernel
theorem dX5_name_44 : decode cX5_name 44 = .ok (.iload_n 1, 1) := by decide +kernel
theorem dX5_name_45 : decode cX5_name 45 = .ok (.bipush 10, 2) := by decide +kernel
theorem dX5_name_47 : decode cX5_name 47 = .ok (.aload_n 0, 1) := by decide +kernel
theorem dX5_name_48 : decode cX5_name 48 = .ok (.getfield 22, 3) := by decide +kernel
theorem dX5_name_51 : decode cX5_name 51 = .ok (.iload_n 1, 1) := by decide +kernel
theorem dX5_name_52 : decode cX5_name 52 = .ok (.iaload, 1) := by decide +kernel
theorem dX5_name_53 : decode cX5_name 53 = .ok (.imul, 1) := by decide +kernel
theorem dX5_name_54 : decode cX5_name 54 = .ok (.iadd, 1) := by decide +kernel
theorem dX5_name_55 : decode cX5_name 55 = .ok (.ireturn, 1) := by decide +kernel
set_option maxRecDepth 20000 in
theorem ggX5_as_X5_noSpar : GoodIn wsX5_as wsX5_noSpar := goodIn_r _ [7, 8, 9, 10, 6, 11, 21, 22, 23, 24, 25, 26, 27, 28, 29, 30, 31, 32, 33, 34, 35, 36, 37, 38, 39, 40, 41, 42] (by decide +kernel) (by decide +kernel)
set_option maxRecDepth 20000 in
theorem gX5_as_X5_noSpar : GoodIn wsX5_as (wsV RX5 118 RX5 yX5_noSpar wsX5_noSpar) := goodIn_app (goodIn_of _ (by decide +kernel)) ggX5_as_X5_noSpar
set_option maxRecDepth 20000 in
theorem ggX5_as_X5_refused : GoodIn wsX5_as wsX5_refused := goodIn_r _ [15, 16, 21, 22, 23, 24, 25, 26, 27, 28, 29, 30, 31, 32, 33, 34, 35, 36, 37, 38, 39, 40, 41, 42] (by decide +kernel) (by decide +kernel)
set_option maxRecDepth 20000 in
theorem gX5_as_X5_refused : GoodIn wsX5_as (wsV RX5 180 RX5 yX5_refused wsX5_refused) := goodIn_app (goodIn_of _ (by decide +kernel)) ggX5_as_X5_refused
set_option maxRecDepth 20000 in
theorem ggX5_as_X5_in : GoodIn wsX5_as wsX5_in := goodIn_r _ [11] (by decide +kernel) (by decide +kernel)
set_option maxRecDepth 20000 in
theorem gX5_as_X5_in : GoodIn wsX5_as (va_wsS RX5 75 yX5_in wsX5_in) := goodIn_app (goodIn_of _ (by decide +kernel)) ggX5_as_X5_in
set_option maxRecDepth 20000 in
theorem ggX5_as_X5_failed : GoodIn wsX5_as wsX5_failed := goodIn_r _ [20, 16, 21, 22, 23, 24, 25, 26, 27, 28, 29, 30, 31, 32, 33, 34, 35, 36, 37, 38, 39, 40, 41, 42] (by decide +kernel) (by decide +kernel)
set_option maxRecDepth 20000 in
theorem gX5_as_X5_failed : GoodIn wsX5_as (wsV RX5 183 RX5 yX5_failed wsX5_failed) := goodIn_app (goodIn_of _ (by decide +kernel)) ggX5_as_X5_failed
theorem dX5_as_0 : decode cX5_as 0 = .ok (.aload_n 0, 1) := by decide +kernel
theorem dX5_as_1 : decode cX5_as 1 = .ok (.iload_n 1, 1) := by decide +kernel
theorem dX5_as_2 : decode cX5_as 2 = .ok (.invokevirtual 118, 3) := by decide +kernel
theorem dX5_as_5 : decode cX5_as 5 = .ok (.ifCond .eq 9, 3) := by decide +kernel
theorem dX5_as_8 : decode cX5_as 8 = .ok (.aload_n 0, 1) := by decide +kernel
theorem dX5_as_9 : decode cX5_as 9 = .ok (.iconst (-1), 1) := by decide +kernel
theorem dX5_as_10 : decode cX5_as 10 = .ok (.invokevirtual 180, 3) := by decide +kernel
theorem dX5_as_13 : decode cX5_as 13 = .ok (.ireturn, 1) := by decide +kernel
theorem dX5_as_14 : decode cX5_as 14 = .ok (.iload_n 2, 1) := by decide +kernel
theorem dX5_as_15 : decode cX5_as 15 = .ok (.i2l, 1) := by decide +kernel
theorem dX5_as_16 : decode cX5_as 16 = .ok (.lconst 0, 1) := by decide +kernel
theorem dX5_as_17 : decode cX5_as 17 = .ok (.ldc2_w 92, 3) := by decide +kernel
theorem dX5_as_20 : decode cX5_as 20 = .ok (.invokestatic 75, 3) := by decide +kernel
theorem dX5_as_23 : decode cX5_as 23 = .ok (.ifCond .ne 10, 3) := by decide +kernel
theorem dX5_as_26 : decode cX5_as 26 = .ok (.aload_n 0, 1) := by decide +kernel
theorem dX5_as_27 : decode cX5_as 27 = .ok (.bipush (-2), 2) := by decide +kernel
theorem dX5_as_29 : decode cX5_as 29 = .ok (.invokevirtual 180, 3) := by decide +kernel
theorem dX5_as_32 : decode cX5_as 32 = .ok (.ireturn, 1) := by decide +kernel
theorem dX5_as_33 : decode cX5_as 33 = .ok (.aload_n 0, 1) := by decide +kernel
theorem dX5_as_34 : decode cX5_as 34 = .ok (.getfield 13, 3) := by decide +kernel
theorem dX5_as_37 : decode cX5_as 37 = .ok (.iload_n 1, 1) := by decide +kernel
theorem dX5_as_38 : decode cX5_as 38 = .ok (.iaload, 1) := by decide +kernel
theorem dX5_as_39 : decode cX5_as 39 = .ok (.iload_n 2, 1) := by decide +kernel
theorem dX5_as_40 : decode cX5_as 40 = .ok (.if_icmp .lt 11, 3) := by decide +kernel
theorem dX5_as_43 : decode cX5_as 43 = .ok (.aload_n 0, 1) := by decide +kernel
theorem dX5_as_44 : decode cX5_as 44 = .ok (.iconst 1, 1) := by decide +kernel
theorem dX5_as_45 : decode cX5_as 45 = .ok (.invokevirtual 180, 3) := by decide +kernel
theorem dX5_as_48 : decode cX5_as 48 = .ok (.goto 8, 3) := by decide +kernel
theorem dX5_as_51 : decode cX5_as 51 = .ok (.aload_n 0, 1) := by decide +kernel
theorem dX5_as_52 : decode cX5_as 52 = .ok (.iconst 2, 1) := by decide +kernel
theorem dX5_as_53 : decode cX5_as 53 = .ok (.invokevirtual 183, 3) := by decide +kernel
theorem dX5_as_56 : decode cX5_as 56 = .ok (.ireturn, 1) := by decide +kernel
theorem dX5_trace_0 : decode cX5_trace 0 = .ok (.aload_n 0, 1) := by decide +kernel
theorem dX5_trace_1 : decode cX5_trace 1 = .ok (.getfield 199, 3) := by decide +kernel
theorem dX5_trace_4 : decode cX5_trace 4 = .ok (.ireturn, 1) := by decide +kernel
theorem dX5_fault_0 : decode cX5_fault 0 = .ok (.aload_n 0, 1) := by decide +kernel
theorem dX5_fault_1 : decode cX5_fault 1 = .ok (.getfield 64, 3) := by decide +kernel
theorem dX5_fault_4 : decode cX5_fault 4 = .ok (.ireturn, 1) := by decide +kernel
set_option maxRecDepth 20000 in
theorem ggX5_told_X5_isUp : GoodIn wsX5_told wsX5_isUp := goodIn_r _ [9] (by decide +kernel) (by decide +kernel)
set_option maxRecDepth 20000 in
theorem gX5_told_X5_isUp : GoodIn wsX5_told (wsV RX5 128 RX5 yX5_isUp wsX5_isUp) := goodIn_app (goodIn_of _ (by decide +kernel)) ggX5_told_X5_isUp
set_option maxRecDepth 20000 in
theorem ggX5_told_X5_raisers : GoodIn wsX5_told wsX5_raisers := goodIn_r _ [13, 3, 14, 15, 16, 17, 8, 18, 4, 19, 20, 21, 37, 38, 39, 40, 41, 42, 43, 44, 45, 46, 47, 48, 49, 50, 51, 52, 53, 54, 55, 56, 57, 58] (by decide +kernel) (by decide +kernel)
set_option maxRecDepth 20000 in
theorem gX5_told_X5_raisers : GoodIn wsX5_told (wsV RX5 154 RX5 yX5_raisers wsX5_raisers) := goodIn_app (goodIn_of _ (by decide +kernel)) ggX5_told_X5_raisers
set_option maxRecDepth 20000 in
theorem ggX5_told_X5_crossers : GoodIn wsX5_told wsX5_crossers := goodIn_r _ [25, 3, 4, 26, 27, 28, 8, 29, 20, 14, 30, 19, 31, 32, 33, 37, 38, 39, 40, 41, 42, 43, 44, 45, 46, 47, 48, 49, 50, 51, 52, 53, 54, 55, 56, 57, 58] (by decide +kernel) (by decide +kernel)
set_option maxRecDepth 20000 in
theorem gX5_told_X5_crossers : GoodIn wsX5_told (wsV RX5 151 RX5 yX5_crossers wsX5_crossers) := goodIn_app (goodIn_of _ (by decide +kernel)) ggX5_told_X5_crossers
set_option maxRecDepth 20000 in
theorem ggX5_told_X5_count : GoodIn wsX5_told wsX5_count := goodIn_r _ [36] (by decide +kernel) (by decide +kernel)
set_option maxRecDepth 20000 in
theorem gX5_told_X5_count : GoodIn wsX5_told (va_wsS RX5 166 yX5_count wsX5_count) := goodIn_app (goodIn_of _ (by decide +kernel)) ggX5_told_X5_count
theorem dX5_told_0 : decode cX5_told 0 = .ok (.iconst 0, 1) := by decide +kernel
theorem dX5_told_1 : decode cX5_told 1 = .ok (.istore_n 2, 1) := by decide +kernel
theorem dX5_told_2 : decode cX5_told 2 = .ok (.iconst 0, 1) := by decide +kernel
theorem dX5_told_3 : decode cX5_told 3 = .ok (.istore_n 3, 1) := by decide +kernel
theorem dX5_told_4 : decode cX5_told 4 = .ok (.iconst 0, 1) := by decide +kernel
theorem dX5_told_5 : decode cX5_told 5 = .ok (.istore 4, 2) := by decide +kernel
theorem dX5_told_7 : decode cX5_told 7 = .ok (.iconst 0, 1) := by decide +kernel
theorem dX5_told_8 : decode cX5_told 8 = .ok (.istore 5, 2) := by decide +kernel
theorem dX5_told_10 : decode cX5_told 10 = .ok (.iload 5, 2) := by decide +kernel
theorem dX5_told_12 : decode cX5_told 12 = .ok (.aload_n 0, 1) := by decide +kernel
theorem dX5_told_13 : decode cX5_told 13 = .ok (.getfield 72, 3) := by decide +kernel
theorem dX5_told_16 : decode cX5_told 16 = .ok (.if_icmp .ge 39, 3) := by decide +kernel
theorem dX5_told_19 : decode cX5_told 19 = .ok (.iload_n 2, 1) := by decide +kernel
theorem dX5_told_20 : decode cX5_told 20 = .ok (.aload_n 0, 1) := by decide +kernel
theorem dX5_told_21 : decode cX5_told 21 = .ok (.aload_n 0, 1) := by decide +kernel
theorem dX5_told_22 : decode cX5_told 22 = .ok (.getfield 125, 3) := by decide +kernel
theorem dX5_told_25 : decode cX5_told 25 = .ok (.iload 5, 2) := by decide +kernel
theorem dX5_told_27 : decode cX5_told 27 = .ok (.invokevirtual 128, 3) := by decide +kernel
theorem dX5_told_30 : decode cX5_told 30 = .ok (.ifCond .eq 16, 3) := by decide +kernel
theorem dX5_told_33 : decode cX5_told 33 = .ok (.aload_n 0, 1) := by decide +kernel
theorem dX5_told_34 : decode cX5_told 34 = .ok (.iload 5, 2) := by decide +kernel
theorem dX5_told_36 : decode cX5_told 36 = .ok (.invokevirtual 154, 3) := by decide +kernel
theorem dX5_told_39 : decode cX5_told 39 = .ok (.ifCond .le 7, 3) := by decide +kernel
theorem dX5_told_42 : decode cX5_told 42 = .ok (.iconst 1, 1) := by decide +kernel
theorem dX5_told_43 : decode cX5_told 43 = .ok (.goto 4, 3) := by decide +kernel
theorem dX5_told_46 : decode cX5_told 46 = .ok (.iconst 0, 1) := by decide +kernel
theorem dX5_told_47 : decode cX5_told 47 = .ok (.iadd, 1) := by decide +kernel
theorem dX5_told_48 : decode cX5_told 48 = .ok (.istore_n 2, 1) := by decide +kernel
theorem dX5_told_49 : decode cX5_told 49 = .ok (.iinc 5 1, 3) := by decide +kernel
theorem dX5_told_52 : decode cX5_told 52 = .ok (.goto (-42), 3) := by decide +kernel
theorem dX5_told_55 : decode cX5_told 55 = .ok (.iconst 0, 1) := by decide +kernel
theorem dX5_told_56 : decode cX5_told 56 = .ok (.istore 5, 2) := by decide +kernel
theorem dX5_told_58 : decode cX5_told 58 = .ok (.iload 5, 2) := by decide +kernel
theorem dX5_told_60 : decode cX5_told 60 = .ok (.aload_n 0, 1) := by decide +kernel
theorem dX5_told_61 : decode cX5_told 61 = .ok (.getfield 79, 3) := by decide +kernel
theorem dX5_told_64 : decode cX5_told 64 = .ok (.if_icmp .ge 52, 3) := by decide +kernel
theorem dX5_told_67 : decode cX5_told 67 = .ok (.iload_n 3, 1) := by decide +kernel
theorem dX5_told_68 : decode cX5_told 68 = .ok (.aload_n 0, 1) := by decide +kernel
theorem dX5_told_69 : decode cX5_told 69 = .ok (.getfield 37, 3) := by decide +kernel
theorem dX5_told_72 : decode cX5_told 72 = .ok (.iload 5, 2) := by decide +kernel
theorem dX5_told_74 : decode cX5_told 74 = .ok (.baload, 1) := by decide +kernel
theorem dX5_told_75 : decode cX5_told 75 = .ok (.ifCond .eq 7, 3) := by decide +kernel
theorem dX5_told_78 : decode cX5_told 78 = .ok (.iconst 0, 1) := by decide +kernel
theorem dX5_told_79 : decode cX5_told 79 = .ok (.goto 4, 3) := by decide +kernel
theorem dX5_told_82 : decode cX5_told 82 = .ok (.iconst 1, 1) := by decide +kernel
theorem dX5_told_83 : decode cX5_told 83 = .ok (.iadd, 1) := by decide +kernel
theorem dX5_told_84 : decode cX5_told 84 = .ok (.istore_n 3, 1) := by decide +kernel
theorem dX5_told_85 : decode cX5_told 85 = .ok (.iload 4, 2) := by decide +kernel
theorem dX5_told_87 : decode cX5_told 87 = .ok (.aload_n 0, 1) := by decide +kernel
theorem dX5_told_88 : decode cX5_told 88 = .ok (.getfield 37, 3) := by decide +kernel
theorem dX5_told_91 : decode cX5_told 91 = .ok (.iload 5, 2) := by decide +kernel
theorem dX5_told_93 : decode cX5_told 93 = .ok (.baload, 1) := by decide +kernel
theorem dX5_told_94 : decode cX5_told 94 = .ok (.ifCond .eq 7, 3) := by decide +kernel
theorem dX5_told_97 : decode cX5_told 97 = .ok (.iconst 0, 1) := by decide +kernel
theorem dX5_told_98 : decode cX5_told 98 = .ok (.goto 9, 3) := by decide +kernel
theorem dX5_told_101 : decode cX5_told 101 = .ok (.aload_n 0, 1) := by decide +kernel
theorem dX5_told_102 : decode cX5_told 102 = .ok (.iload 5, 2) := by decide +kernel
theorem dX5_told_104 : decode cX5_told 104 = .ok (.invokevirtual 151, 3) := by decide +kernel
theorem dX5_told_107 : decode cX5_told 107 = .ok (.iadd, 1) := by decide +kernel
theorem dX5_told_108 : decode cX5_told 108 = .ok (.istore 4, 2) := by decide +kernel
theorem dX5_told_110 : decode cX5_told 110 = .ok (.iinc 5 1, 3) := by decide +kernel
theorem dX5_told_113 : decode cX5_told 113 = .ok (.goto (-55), 3) := by decide +kernel
theorem dX5_told_116 : decode cX5_told 116 = .ok (.iload_n 1, 1) := by decide +kernel
theorem dX5_told_117 : decode cX5_told 117 = .ok (.tableswitch 66 0 5 #[39, 44, 49, 57, 59, 61], 39) := by decide +kernel
theorem dX5_told_156 : decode cX5_told 156 = .ok (.aload_n 0, 1) := by decide +kernel
theorem dX5_told_157 : decode cX5_told 157 = .ok (.getfield 72, 3) := by decide +kernel
theorem dX5_told_160 : decode cX5_told 160 = .ok (.ireturn, 1) := by decide +kernel
theorem dX5_told_161 : decode cX5_told 161 = .ok (.aload_n 0, 1) := by decide +kernel
theorem dX5_told_162 : decode cX5_told 162 = .ok (.getfield 79, 3) := by decide +kernel
theorem dX5_told_165 : decode cX5_told 165 = .ok (.ireturn, 1) := by decide +kernel
theorem dX5_told_166 : decode cX5_told 166 = .ok (.aload_n 0, 1) := by decide +kernel
theorem dX5_told_167 : decode cX5_told 167 = .ok (.getfield 125, 3) := by decide +kernel
theorem dX5_told_170 : decode cX5_told 170 = .ok (.invokestatic 166, 3) := by decide +kernel
theorem dX5_told_173 : decode cX5_told 173 = .ok (.ireturn, 1) := by decide +kernel
theorem dX5_told_174 : decode cX5_told 174 = .ok (.iload_n 2, 1) := by decide +kernel
theorem dX5_told_175 : decode cX5_told 175 = .ok (.ireturn, 1) := by decide +kernel
theorem dX5_told_176 : decode cX5_told 176 = .ok (.iload_n 3, 1) := by decide +kernel
theorem dX5_told_177 : decode cX5_told 177 = .ok (.ireturn, 1) := by decide +kernel
theorem dX5_told_178 : decode cX5_told 178 = .ok (.iload 4, 2) := by decide +kernel
theorem dX5_told_180 : decode cX5_told 180 = .ok (.iconst 2, 1) := by decide +kernel
theorem dX5_told_181 : decode cX5_told 181 = .ok (.idiv, 1) := by decide +kernel
theorem dX5_told_182 : decode cX5_told 182 = .ok (.ireturn, 1) := by decide +kernel
theorem dX5_told_183 : decode cX5_told 183 = .ok (.bipush (-2), 2) := by decide +kernel
theorem dX5_told_185 : decode cX5_told 185 = .ok (.ireturn, 1) := by decide +kernel
