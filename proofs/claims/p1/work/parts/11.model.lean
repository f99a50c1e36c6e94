theorem dX4_init_0 : decode cX4_init 0 = .ok (.aload_n 0, 1) := by decide +kernel
theorem dX4_init_1 : decode cX4_init 1 = .ok (.invokespecial 1, 3) := by decide +kernel
theorem dX4_init_4 : decode cX4_init 4 = .ok (.aload_n 0, 1) := by decide +kernel
theorem dX4_init_5 : decode cX4_init 5 = .ok (.iconst 5, 1) := by decide +kernel
theorem dX4_init_6 : decode cX4_init 6 = .ok (.newarray .int, 2) := by decide +kernel
theorem dX4_init_8 : decode cX4_init 8 = .ok (.putfield 7, 3) := by decide +kernel
theorem dX4_init_11 : decode cX4_init 11 = .ok (.aload_n 0, 1) := by decide +kernel
theorem dX4_init_12 : decode cX4_init 12 = .ok (.iconst 5, 1) := by decide +kernel
theorem dX4_init_13 : decode cX4_init 13 = .ok (.newarray .int, 2) := by decide +kernel
theorem dX4_init_15 : decode cX4_init 15 = .ok (.putfield 13, 3) := by decide +kernel
theorem dX4_init_18 : decode cX4_init 18 = .ok (.aload_n 0, 1) := by decide +kernel
theorem dX4_init_19 : decode cX4_init 19 = .ok (.bipush 7, 2) := by decide +kernel
theorem dX4_init_21 : decode cX4_init 21 = .ok (.newarray .int, 2) := by decide +kernel
theorem dX4_init_23 : decode cX4_init 23 = .ok (.putfield 16, 3) := by decide +kernel
theorem dX4_init_26 : decode cX4_init 26 = .ok (.aload_n 0, 1) := by decide +kernel
theorem dX4_init_27 : decode cX4_init 27 = .ok (.bipush 96, 2) := by decide +kernel
theorem dX4_init_29 : decode cX4_init 29 = .ok (.newarray .int, 2) := by decide +kernel
theorem dX4_init_31 : decode cX4_init 31 = .ok (.putfield 19, 3) := by decide +kernel
theorem dX4_init_34 : decode cX4_init 34 = .ok (.aload_n 0, 1) := by decide +kernel
theorem dX4_init_35 : decode cX4_init 35 = .ok (.iconst 5, 1) := by decide +kernel
theorem dX4_init_36 : decode cX4_init 36 = .ok (.newarray .int, 2) := by decide +kernel
theorem dX4_init_38 : decode cX4_init 38 = .ok (.putfield 22, 3) := by decide +kernel
theorem dX4_init_41 : decode cX4_init 41 = .ok (.aload_n 0, 1) := by decide +kernel
theorem dX4_init_42 : decode cX4_init 42 = .ok (.iconst 5, 1) := by decide +kernel
theorem dX4_init_43 : decode cX4_init 43 = .ok (.newarray .int, 2) := by decide +kernel
theorem dX4_init_45 : decode cX4_init 45 = .ok (.putfield 25, 3) := by decide +kernel
theorem dX4_init_48 : decode cX4_init 48 = .ok (.aload_n 0, 1) := by decide +kernel
theorem dX4_init_49 : decode cX4_init 49 = .ok (.iconst 5, 1) := by decide +kernel
theorem dX4_init_50 : decode cX4_init 50 = .ok (.newarray .int, 2) := by decide +kernel
theorem dX4_init_52 : decode cX4_init 52 = .ok (.putfield 28, 3) := by decide +kernel
theorem dX4_init_55 : decode cX4_init 55 = .ok (.aload_n 0, 1) := by decide +kernel
theorem dX4_init_56 : decode cX4_init 56 = .ok (.bipush 30, 2) := by decide +kernel
theorem dX4_init_58 : decode cX4_init 58 = .ok (.newarray .int, 2) := by decide +kernel
theorem dX4_init_60 : decode cX4_init 60 = .ok (.putfield 31, 3) := by decide +kernel
theorem dX4_init_63 : decode cX4_init 63 = .ok (.aload_n 0, 1) := by decide +kernel
theorem dX4_init_64 : decode cX4_init 64 = .ok (.bipush 64, 2) := by decide +kernel
theorem dX4_init_66 : decode cX4_init 66 = .ok (.newarray .int, 2) := by decide +kernel
theorem dX4_init_68 : decode cX4_init 68 = .ok (.putfield 34, 3) := by decide +kernel
theorem dX4_init_71 : decode cX4_init 71 = .ok (.aload_n 0, 1) := by decide +kernel
theorem dX4_init_72 : decode cX4_init 72 = .ok (.iconst 5, 1) := by decide +kernel
theorem dX4_init_73 : decode cX4_init 73 = .ok (.newarray .int, 2) := by decide +kernel
theorem dX4_init_75 : decode cX4_init 75 = .ok (.putfield 37, 3) := by decide +kernel
theorem dX4_init_78 : decode cX4_init 78 = .ok (.aload_n 0, 1) := by decide +kernel
theorem dX4_init_79 : decode cX4_init 79 = .ok (.iconst 5, 1) := by decide +kernel
theorem dX4_init_80 : decode cX4_init 80 = .ok (.newarray .int, 2) := by decide +kernel
theorem dX4_init_82 : decode cX4_init 82 = .ok (.putfield 40, 3) := by decide +kernel
theorem dX4_init_85 : decode cX4_init 85 = .ok (.aload_n 0, 1) := by decide +kernel
theorem dX4_init_86 : decode cX4_init 86 = .ok (.iconst 5, 1) := by decide +kernel
theorem dX4_init_87 : decode cX4_init 87 = .ok (.newarray .int, 2) := by decide +kernel
theorem dX4_init_89 : decode cX4_init 89 = .ok (.putfield 43, 3) := by decide +kernel
theorem dX4_init_92 : decode cX4_init 92 = .ok (.aload_n 0, 1) := by decide +kernel
theorem dX4_init_93 : decode cX4_init 93 = .ok (.sipush 672, 3) := by decide +kernel
theorem dX4_init_96 : decode cX4_init 96 = .ok (.newarray .int, 2) := by decide +kernel
theorem dX4_init_98 : decode cX4_init 98 = .ok (.putfield 46, 3) := by decide +kernel
theorem dX4_init_101 : decode cX4_init 101 = .ok (.aload_n 0, 1) := by decide +kernel
theorem dX4_init_102 : decode cX4_init 102 = .ok (.bipush 64, 2) := by decide +kernel
theorem dX4_init_104 : decode cX4_init 104 = .ok (.newarray .int, 2) := by decide +kernel
theorem dX4_init_106 : decode cX4_init 106 = .ok (.putfield 49, 3) := by decide +kernel
theorem dX4_init_109 : decode cX4_init 109 = .ok (.aload_n 0, 1) := by decide +kernel
theorem dX4_init_110 : decode cX4_init 110 = .ok (.bipush 6, 2) := by decide +kernel
theorem dX4_init_112 : decode cX4_init 112 = .ok (.newarray .int, 2) := by decide +kernel
theorem dX4_init_114 : decode cX4_init 114 = .ok (.putfield 52, 3) := by decide +kernel
theorem dX4_init_117 : decode cX4_init 117 = .ok (.aload_n 0, 1) := by decide +kernel
theorem dX4_init_118 : decode cX4_init 118 = .ok (.bipush 6, 2) := by decide +kernel
theorem dX4_init_120 : decode cX4_init 120 = .ok (.newarray .int, 2) := by decide +kernel
theorem dX4_init_122 : decode cX4_init 122 = .ok (.putfield 55, 3) := by decide +kernel
theorem dX4_init_125 : decode cX4_init 125 = .ok (.aload_n 0, 1) := by decide +kernel
theorem dX4_init_126 : decode cX4_init 126 = .ok (.bipush 6, 2) := by decide +kernel
theorem dX4_init_128 : decode cX4_init 128 = .ok (.newarray .int, 2) := by decide +kernel
theorem dX4_init_130 : decode cX4_init 130 = .ok (.putfield 58, 3) := by decide +kernel
theorem dX4_init_133 : decode cX4_init 133 = .ok (.aload_n 0, 1) := by decide +kernel
theorem dX4_init_134 : decode cX4_init 134 = .ok (.iconst 2, 1) := by decide +kernel
theorem dX4_init_135 : decode cX4_init 135 = .ok (.newarray .boolean, 2) := by decide +kernel
theorem dX4_init_137 : decode cX4_init 137 = .ok (.putfield 61, 3) := by decide +kernel
theorem dX4_init_140 : decode cX4_init 140 = .ok (.aload_n 0, 1) := by decide +kernel
theorem dX4_init_141 : decode cX4_init 141 = .ok (.bipush 96, 2) := by decide +kernel
theorem dX4_init_143 : decode cX4_init 143 = .ok (.newarray .int, 2) := by decide +kernel
theorem dX4_init_145 : decode cX4_init 145 = .ok (.putfield 65, 3) := by decide +kernel
theorem dX4_init_148 : decode cX4_init 148 = .ok (.aload_n 0, 1) := by decide +kernel
theorem dX4_init_149 : decode cX4_init 149 = .ok (.iconst 0, 1) := by decide +kernel
theorem dX4_init_150 : decode cX4_init 150 = .ok (.putfield 68, 3) := by decide +kernel
theorem dX4_init_153 : decode cX4_init 153 = .ok (.return_, 1) := by decide +kernel
theorem dX4_goneNow_0 : decode cX4_goneNow 0 = .ok (.iconst 0, 1) := by decide +kernel
theorem dX4_goneNow_1 : decode cX4_goneNow 1 = .ok (.istore_n 1, 1) := by decide +kernel
theorem dX4_goneNow_2 : decode cX4_goneNow 2 = .ok (.iconst 0, 1) := by decide +kernel
theorem dX4_goneNow_3 : decode cX4_goneNow 3 = .ok (.istore_n 2, 1) := by decide +kernel
theorem dX4_goneNow_4 : decode cX4_goneNow 4 = .ok (.iload_n 2, 1) := by decide +kernel
theorem dX4_goneNow_5 : decode cX4_goneNow 5 = .ok (.aload_n 0, 1) := by decide +kernel
theorem dX4_goneNow_6 : decode cX4_goneNow 6 = .ok (.getfield 101, 3) := by decide +kernel
theorem dX4_goneNow_9 : decode cX4_goneNow 9 = .ok (.if_icmp .ge 27, 3) := by decide +kernel
theorem dX4_goneNow_36 : decode cX4_goneNow 36 = .ok (.iload_n 1, 1) := by decide +kernel
theorem dX4_goneNow_37 : decode cX4_goneNow 37 = .ok (.ireturn, 1) := by decide +kernel
theorem dX4_isDouble_0 : decode cX4_isDouble 0 = .ok (.iconst 0, 1) := by decide +kernel
theorem dX4_isDouble_1 : decode cX4_isDouble 1 = .ok (.istore_n 2, 1) := by decide +kernel
theorem dX4_isDouble_2 : decode cX4_isDouble 2 = .ok (.iconst 0, 1) := by decide +kernel
theorem dX4_isDouble_3 : decode cX4_isDouble 3 = .ok (.istore_n 3, 1) := by decide +kernel
theorem dX4_isDouble_4 : decode cX4_isDouble 4 = .ok (.iload_n 3, 1) := by decide +kernel
theorem dX4_isDouble_5 : decode cX4_isDouble 5 = .ok (.aload_n 0, 1) := by decide +kernel
theorem dX4_isDouble_6 : decode cX4_isDouble 6 = .ok (.getfield 68, 3) := by decide +kernel
theorem dX4_isDouble_9 : decode cX4_isDouble 9 = .ok (.if_icmp .ge 71, 3) := by decide +kernel
theorem dX4_isDouble_80 : decode cX4_isDouble 80 = .ok (.iload_n 2, 1) := by decide +kernel
theorem dX4_isDouble_81 : decode cX4_isDouble 81 = .ok (.ireturn, 1) := by decide +kernel
theorem dX4_keepAct_0 : decode cX4_keepAct 0 = .ok (.iconst 0, 1) := by decide +kernel
theorem dX4_keepAct_1 : decode cX4_keepAct 1 = .ok (.istore_n 1, 1) := by decide +kernel
theorem dX4_keepAct_2 : decode cX4_keepAct 2 = .ok (.iload_n 1, 1) := by decide +kernel
theorem dX4_keepAct_3 : decode cX4_keepAct 3 = .ok (.bipush 48, 2) := by decide +kernel
theorem dX4_keepAct_5 : decode cX4_keepAct 5 = .ok (.if_icmp .ge 29, 3) := by decide +kernel
theorem dX4_keepAct_8 : decode cX4_keepAct 8 = .ok (.aload_n 0, 1) := by decide +kernel
theorem dX4_keepAct_9 : decode cX4_keepAct 9 = .ok (.getfield 46, 3) := by decide +kernel
theorem dX4_keepAct_12 : decode cX4_keepAct 12 = .ok (.bipush 48, 2) := by decide +kernel
theorem dX4_keepAct_14 : decode cX4_keepAct 14 = .ok (.aload_n 0, 1) := by decide +kernel
theorem dX4_keepAct_15 : decode cX4_keepAct 15 = .ok (.getfield 137, 3) := by decide +kernel
theorem dX4_keepAct_18 : decode cX4_keepAct 18 = .ok (.imul, 1) := by decide +kernel
theorem dX4_keepAct_19 : decode cX4_keepAct 19 = .ok (.iload_n 1, 1) := by decide +kernel
theorem dX4_keepAct_20 : decode cX4_keepAct 20 = .ok (.iadd, 1) := by decide +kernel
theorem dX4_keepAct_21 : decode cX4_keepAct 21 = .ok (.aload_n 0, 1) := by decide +kernel
theorem dX4_keepAct_22 : decode cX4_keepAct 22 = .ok (.getfield 19, 3) := by decide +kernel
theorem dX4_keepAct_25 : decode cX4_keepAct 25 = .ok (.iload_n 1, 1) := by decide +kernel
theorem dX4_keepAct_26 : decode cX4_keepAct 26 = .ok (.iaload, 1) := by decide +kernel
theorem dX4_keepAct_27 : decode cX4_keepAct 27 = .ok (.iastore, 1) := by decide +kernel
theorem dX4_keepAct_28 : decode cX4_keepAct 28 = .ok (.iinc 1 1, 3) := by decide +kernel
theorem dX4_keepAct_31 : decode cX4_keepAct 31 = .ok (.goto (-29), 3) := by decide +kernel
theorem dX4_keepAct_34 : decode cX4_keepAct 34 = .ok (.aload_n 0, 1) := by decide +kernel
theorem dX4_keepAct_35 : decode cX4_keepAct 35 = .ok (.aload_n 0, 1) := by decide +kernel
theorem dX4_keepAct_36 : decode cX4_keepAct 36 = .ok (.getfield 137, 3) := by decide +kernel
theorem dX4_keepAct_39 : decode cX4_keepAct 39 = .ok (.iconst 1, 1) := by decide +kernel
theorem dX4_keepAct_40 : decode cX4_keepAct 40 = .ok (.iadd, 1) := by decide +kernel
theorem dX4_keepAct_41 : decode cX4_keepAct 41 = .ok (.bipush 14, 2) := by decide +kernel
theorem dX4_keepAct_43 : decode cX4_keepAct 43 = .ok (.irem, 1) := by decide +kernel
theorem dX4_keepAct_44 : decode cX4_keepAct 44 = .ok (.putfield 137, 3) := by decide +kernel
theorem dX4_keepAct_47 : decode cX4_keepAct 47 = .ok (.aload_n 0, 1) := by decide +kernel
theorem dX4_keepAct_48 : decode cX4_keepAct 48 = .ok (.aload_n 0, 1) := by decide +kernel
theorem dX4_keepAct_49 : decode cX4_keepAct 49 = .ok (.getfield 104, 3) := by decide +kernel
theorem dX4_keepAct_52 : decode cX4_keepAct 52 = .ok (.bipush 14, 2) := by decide +kernel
theorem dX4_keepAct_54 : decode cX4_keepAct 54 = .ok (.if_icmp .ge 12, 3) := by decide +kernel
theorem dX4_keepAct_57 : decode cX4_keepAct 57 = .ok (.aload_n 0, 1) := by decide +kernel
theorem dX4_keepAct_58 : decode cX4_keepAct 58 = .ok (.getfield 104, 3) := by decide +kernel
theorem dX4_keepAct_61 : decode cX4_keepAct 61 = .ok (.iconst 1, 1) := by decide +kernel
theorem dX4_keepAct_62 : decode cX4_keepAct 62 = .ok (.iadd, 1) := by decide +kernel
theorem dX4_keepAct_63 : decode cX4_keepAct 63 = .ok (.goto 5, 3) := by decide +kernel
theorem dX4_keepAct_66 : decode cX4_keepAct 66 = .ok (.bipush 14, 2) := by decide +kernel
theorem dX4_keepAct_68 : decode cX4_keepAct 68 = .ok (.putfield 104, 3) := by decide +kernel
theorem dX4_keepAct_71 : decode cX4_keepAct 71 = .ok (.return_, 1) := by decide +kernel
set_option maxRecDepth 20000 in
theorem ggX4_day_X4_keepAct : GoodIn wsX4_day wsX4_keepAct := goodIn_r _ [7, 8, 9, 1, 10, 28, 29, 30, 31, 32, 33, 34, 35, 36, 37, 38, 39, 40, 41, 42, 43, 44, 45, 46, 47, 48, 49, 50, 51, 52, 53, 54, 55, 56, 57] (by decide +kernel) (by decide +kernel)
set_option maxRecDepth 20000 in
theorem gX4_day_X4_keepAct : GoodIn wsX4_day (wsV RX4 140 RX4 yX4_keepAct wsX4_keepAct) := goodIn_app (goodIn_of _ (by decide +kernel)) ggX4_day_X4_keepAct
set_option maxRecDepth 20000 in
theorem ggX4_day_X4_pass : GoodIn wsX4_day wsX4_pass := goodIn_r _ [14, 15, 16, 1, 17, 18, 19, 20, 21, 6, 22, 23, 24, 25, 26, 27, 28, 29, 30, 31, 32, 33, 34, 35, 36, 37, 38, 39, 40, 41, 42, 43, 44, 45, 46, 47, 48, 49, 50, 51, 52, 53, 54, 55, 56, 57] (by decide +kernel) (by decide +kernel)
set_option maxRecDepth 20000 in
theorem gX4_day_X4_pass : GoodIn wsX4_day (wsV RX4 143 RX4 yX4_pass wsX4_pass) := goodIn_app (goodIn_of _ (by decide +kernel)) ggX4_day_X4_pass
theorem dX4_day_0 : decode cX4_day 0 = .ok (.aload_n 0, 1) := by decide +kernel
theorem dX4_day_1 : decode cX4_day 1 = .ok (.getfield 19, 3) := by decide +kernel
theorem dX4_day_4 : decode cX4_day 4 = .ok (.iconst 0, 1) := by decide +kernel
theorem dX4_day_5 : decode cX4_day 5 = .ok (.iaload, 1) := by decide +kernel
theorem dX4_day_6 : decode cX4_day 6 = .ok (.bipush 10, 2) := by decide +kernel
theorem dX4_day_8 : decode cX4_day 8 = .ok (.if_icmp .ne 6, 3) := by decide +kernel
theorem dX4_day_14 : decode cX4_day 14 = .ok (.aload_n 0, 1) := by decide +kernel
theorem dX4_day_15 : decode cX4_day 15 = .ok (.invokevirtual 140, 3) := by decide +kernel
theorem dX4_day_18 : decode cX4_day 18 = .ok (.aload_n 0, 1) := by decide +kernel
theorem dX4_day_19 : decode cX4_day 19 = .ok (.iconst 0, 1) := by decide +kernel
theorem dX4_day_20 : decode cX4_day 20 = .ok (.aload_n 0, 1) := by decide +kernel
theorem dX4_day_21 : decode cX4_day 21 = .ok (.getfield 101, 3) := by decide +kernel
theorem dX4_day_24 : decode cX4_day 24 = .ok (.invokevirtual 143, 3) := by decide +kernel
theorem dX4_day_27 : decode cX4_day 27 = .ok (.ireturn, 1) := by decide +kernel
set_option maxRecDepth 20000 in
theorem ggX4_twoSeats_X4_layTrial : GoodIn wsX4_twoSeats wsX4_layTrial := goodIn_r _ [7, 1, 37, 38, 39, 40, 41, 42, 43, 44, 45, 46, 47, 48, 49, 50, 51, 52, 53, 54, 55, 56, 57, 58, 59, 60, 61, 62, 63, 64, 65, 66] (by decide +kernel) (by decide +kernel)
set_option maxRecDepth 20000 in
theorem gX4_twoSeats_X4_layTrial : GoodIn wsX4_twoSeats (wsV RX4 157 RX4 yX4_layTrial wsX4_layTrial) := goodIn_app (goodIn_of _ (by decide +kernel)) ggX4_twoSeats_X4_layTrial
set_option maxRecDepth 20000 in
theorem ggX4_twoSeats_X4_pass : GoodIn wsX4_twoSeats wsX4_pass := goodIn_r _ [11, 12, 13, 1, 14, 15, 16, 17, 18, 6, 19, 20, 21, 22, 23, 24, 37, 38, 39, 40, 41, 42, 43, 44, 45, 46, 47, 48, 49, 50, 51, 52, 53, 54, 55, 56, 57, 58, 59, 60, 61, 62, 63, 64, 65, 66] (by decide +kernel) (by decide +kernel)
set_option maxRecDepth 20000 in
theorem gX4_twoSeats_X4_pass : GoodIn wsX4_twoSeats (wsV RX4 143 RX4 yX4_pass wsX4_pass) := goodIn_app (goodIn_of _ (by decide +kernel)) ggX4_twoSeats_X4_pass
set_option maxRecDepth 20000 in
theorem ggX4_twoSeats_X4_isDouble : GoodIn wsX4_twoSeats wsX4_isDouble := goodIn_r _ [28, 12, 29, 13, 30, 31, 32, 6, 33, 14, 15, 34, 35, 36, 37, 38, 39, 40, 41, 42, 43, 44, 45, 46, 47, 48, 49, 50, 51, 52, 53, 54, 55, 56, 57, 58, 59, 60, 61, 62, 63, 64, 65, 66] (by decide +kernel) (by decide +kernel)
set_option maxRecDepth 20000 in
theorem gX4_twoSeats_X4_isDouble : GoodIn wsX4_twoSeats (wsV RX4 163 RX4 yX4_isDouble wsX4_isDouble) := goodIn_app (goodIn_of _ (by decide +kernel)) ggX4_twoSeats_X4_isDouble
theorem dX4_twoSeats_0 : decode cX4_twoSeats 0 = .ok (.aload_n 0, 1) := by decide +kernel
theorem dX4_twoSeats_1 : decode cX4_twoSeats 1 = .ok (.invokevirtual 157, 3) := by decide +kernel
theorem dX4_twoSeats_4 : decode cX4_twoSeats 4 = .ok (.aload_n 0, 1) := by decide +kernel
theorem dX4_twoSeats_5 : decode cX4_twoSeats 5 = .ok (.getfield 19, 3) := by decide +kernel
theorem dX4_twoSeats_8 : decode cX4_twoSeats 8 = .ok (.bipush 48, 2) := by decide +kernel
theorem dX4_twoSeats_10 : decode cX4_twoSeats 10 = .ok (.iaload, 1) := by decide +kernel
theorem dX4_twoSeats_11 : decode cX4_twoSeats 11 = .ok (.bipush 10, 2) := by decide +kernel
theorem dX4_twoSeats_13 : decode cX4_twoSeats 13 = .ok (.if_icmp .ge 29, 3) := by decide +kernel
theorem dX4_twoSeats_16 : decode cX4_twoSeats 16 = .ok (.aload_n 0, 1) := by decide +kernel
theorem dX4_twoSeats_17 : decode cX4_twoSeats 17 = .ok (.aload_n 0, 1) := by decide +kernel
theorem dX4_twoSeats_18 : decode cX4_twoSeats 18 = .ok (.iconst 1, 1) := by decide +kernel
theorem dX4_twoSeats_19 : decode cX4_twoSeats 19 = .ok (.aload_n 0, 1) := by decide +kernel
theorem dX4_twoSeats_20 : decode cX4_twoSeats 20 = .ok (.getfield 101, 3) := by decide +kernel
theorem dX4_twoSeats_23 : decode cX4_twoSeats 23 = .ok (.invokevirtual 143, 3) := by decide +kernel
theorem dX4_twoSeats_26 : decode cX4_twoSeats 26 = .ok (.invokevirtual 163, 3) := by decide +kernel
theorem dX4_twoSeats_29 : decode cX4_twoSeats 29 = .ok (.ifCond .eq (-25), 3) := by decide +kernel
theorem dX4_twoSeats_42 : decode cX4_twoSeats 42 = .ok (.bipush (-9), 2) := by decide +kernel
theorem dX4_twoSeats_44 : decode cX4_twoSeats 44 = .ok (.ireturn, 1) := by decide +kernel
set_option maxRecDepth 20000 in
theorem ggX4_glad_X4_gladWithout : GoodIn wsX4_glad wsX4_gladWithout := goodIn_r _ [5, 6, 7, 8, 9, 4, 10, 11, 12, 13, 14, 15, 16, 17, 18, 19, 20, 21, 22, 23, 24, 25, 26, 27, 28, 29, 30, 31, 32, 33, 34, 35, 36, 37, 38, 39, 40, 41, 42, 43, 44, 45, 46, 47, 48, 49, 50, 51, 52, 53, 54, 55, 56, 57, 58, 59, 60, 61, 62, 63, 64, 65, 66, 67, 68, 69, 70, 71, 72, 73, 74] (by decide +kernel) (by decide +kernel)
set_option maxRecDepth 20000 in
theorem gX4_glad_X4_gladWithout : GoodIn wsX4_glad (wsV RX4 179 RX4 yX4_gladWithout wsX4_gladWithout) := goodIn_app (goodIn_of _ (by decide +kernel)) ggX4_glad_X4_gladWithout
theorem dX4_glad_0 : decode cX4_glad 0 = .ok (.aload_n 0, 1) := by decide +kernel
theorem dX4_glad_1 : decode cX4_glad 1 = .ok (.iconst 0, 1) := by decide +kernel
theorem dX4_glad_2 : decode cX4_glad 2 = .ok (.invokevirtual 179, 3) := by decide +kernel
theorem dX4_glad_5 : decode cX4_glad 5 = .ok (.ireturn, 1) := by decide +kernel
set_option maxRecDepth 20000 in
theorem ggX4_bestChange_X4_glad : GoodIn wsX4_bestChange wsX4_glad := goodIn_r _ [6, 7, 8, 9, 5, 10, 1, 11, 12, 13, 14, 15, 16, 17, 18, 19, 20, 21, 22, 23, 24, 25, 26, 27, 28, 29, 30, 31, 32, 33, 34, 35, 36, 37, 38, 39, 40, 41, 42, 43, 44, 45, 46, 47, 48, 65, 66, 67, 68, 69, 70, 71, 72, 73, 74, 75, 76, 77, 78, 79, 80, 81, 82, 83, 84, 85, 86, 87, 88, 89, 90, 91, 92, 93, 94] (by decide +kernel) (by decide +kernel)
set_option maxRecDepth 20000 in
theorem gX4_bestChange_X4_glad : GoodIn wsX4_bestChange (wsV RX4 182 RX4 yX4_glad wsX4_glad) := goodIn_app (goodIn_of _ (by decide +kernel)) ggX4_bestChange_X4_glad
theorem dX4_bestChange_0 : decode cX4_bestChange 0 = .ok (.aload_n 0, 1) := by decide +kernel
theorem dX4_bestChange_1 : decode cX4_bestChange 1 = .ok (.invokevirtual 182, 3) := by decide +kernel
theorem dX4_bestChange_4 : decode cX4_bestChange 4 = .ok (.istore_n 1, 1) := by decide +kernel
theorem dX4_bestChange_5 : decode cX4_bestChange 5 = .ok (.bipush (-9), 2) := by decide +kernel
theorem dX4_bestChange_7 : decode cX4_bestChange 7 = .ok (.istore_n 2, 1) := by decide +kernel
theorem dX4_bestChange_8 : decode cX4_bestChange 8 = .ok (.iconst 0, 1) := by decide +kernel
theorem dX4_bestChange_9 : decode cX4_bestChange 9 = .ok (.istore_n 3, 1) := by decide +kernel
theorem dX4_bestChange_10 : decode cX4_bestChange 10 = .ok (.iload_n 3, 1) := by decide +kernel
theorem dX4_bestChange_11 : decode cX4_bestChange 11 = .ok (.aload_n 0, 1) := by decide +kernel
theorem dX4_bestChange_12 : decode cX4_bestChange 12 = .ok (.getfield 101, 3) := by decide +kernel
theorem dX4_bestChange_15 : decode cX4_bestChange 15 = .ok (.if_icmp .ge 97, 3) := by decide +kernel
theorem dX4_bestChange_112 : decode cX4_bestChange 112 = .ok (.iload_n 2, 1) := by decide +kernel
theorem dX4_bestChange_113 : decode cX4_bestChange 113 = .ok (.ireturn, 1) := by decide +kernel
set_option maxRecDepth 20000 in
theorem ggX4_years_X4_in : GoodIn wsX4_years wsX4_in := goodIn_r _ [9] (by decide +kernel) (by decide +kernel)
set_option maxRecDepth 20000 in
theorem gX4_years_X4_in : GoodIn wsX4_years (va_wsS RX4 74 yX4_in wsX4_in) := goodIn_app (goodIn_of _ (by decide +kernel)) ggX4_years_X4_in
set_option maxRecDepth 20000 in
theorem ggX4_years_X4_gladWithout : GoodIn wsX4_years wsX4_gladWithout := goodIn_r _ [13, 14, 15, 16, 17, 8, 18, 19, 20, 21, 22, 23, 24, 25, 26, 27, 28, 29, 30, 31, 32, 33, 34, 35, 36, 37, 38, 39, 40, 41, 42, 43, 44, 45, 46, 47, 48, 49, 50, 51, 52, 53, 54, 55, 56, 57, 58, 59, 60, 61, 62, 63, 64, 65, 66, 67, 68, 69, 70, 71, 72, 73, 74, 75, 76, 77, 78, 79, 80, 81, 82] (by decide +kernel) (by decide +kernel)
set_option maxRecDepth 20000 in
theorem gX4_years_X4_gladWithout : GoodIn wsX4_years (wsV RX4 179 RX4 yX4_gladWithout wsX4_gladWithout) := goodIn_app (goodIn_of _ (by decide +kernel)) ggX4_years_X4_gladWithout
theorem dX4_years_0 : decode cX4_years 0 = .ok (.iload_n 1, 1) := by decide +kernel
theorem dX4_years_1 : decode cX4_years 1 = .ok (.i2l, 1) := by decide +kernel
theorem dX4_years_2 : decode cX4_years 2 = .ok (.lconst 1, 1) := by decide +kernel
theorem dX4_years_3 : decode cX4_years 3 = .ok (.ldc2_w 210, 3) := by decide +kernel
theorem dX4_years_6 : decode cX4_years 6 = .ok (.invokestatic 74, 3) := by decide +kernel
theorem dX4_years_9 : decode cX4_years 9 = .ok (.ifCond .ne 6, 3) := by decide +kernel
theorem dX4_years_12 : decode cX4_years 12 = .ok (.bipush (-2), 2) := by decide +kernel
theorem dX4_years_14 : decode cX4_years 14 = .ok (.ireturn, 1) := by decide +kernel
theorem dX4_years_15 : decode cX4_years 15 = .ok (.iconst 0, 1) := by decide +kernel
theorem dX4_years_16 : decode cX4_years 16 = .ok (.istore_n 2, 1) := by decide +kernel
theorem dX4_years_17 : decode cX4_years 17 = .ok (.iconst 0, 1) := by decide +kernel
theorem dX4_years_18 : decode cX4_years 18 = .ok (.istore_n 3, 1) := by decide +kernel
theorem dX4_years_19 : decode cX4_years 19 = .ok (.iload_n 3, 1) := by decide +kernel
theorem dX4_years_20 : decode cX4_years 20 = .ok (.iload_n 1, 1) := by decide +kernel
theorem dX4_years_21 : decode cX4_years 21 = .ok (.if_icmp .ge 44, 3) := by decide +kernel
theorem dX4_years_24 : decode cX4_years 24 = .ok (.aload_n 0, 1) := by decide +kernel
theorem dX4_years_25 : decode cX4_years 25 = .ok (.aload_n 0, 1) := by decide +kernel
theorem dX4_years_26 : decode cX4_years 26 = .ok (.getfield 206, 3) := by decide +kernel
theorem dX4_years_29 : decode cX4_years 29 = .ok (.ldc2_w 212, 3) := by decide +kernel
theorem dX4_years_32 : decode cX4_years 32 = .ok (.lmul, 1) := by decide +kernel
theorem dX4_years_33 : decode cX4_years 33 = .ok (.ldc2_w 214, 3) := by decide +kernel
theorem dX4_years_36 : decode cX4_years 36 = .ok (.ladd, 1) := by decide +kernel
theorem dX4_years_37 : decode cX4_years 37 = .ok (.putfield 206, 3) := by decide +kernel
theorem dX4_years_40 : decode cX4_years 40 = .ok (.iload_n 2, 1) := by decide +kernel
theorem dX4_years_41 : decode cX4_years 41 = .ok (.aload_n 0, 1) := by decide +kernel
theorem dX4_years_42 : decode cX4_years 42 = .ok (.aload_n 0, 1) := by decide +kernel
theorem dX4_years_43 : decode cX4_years 43 = .ok (.getfield 206, 3) := by decide +kernel
theorem dX4_years_46 : decode cX4_years 46 = .ok (.bipush 33, 2) := by decide +kernel
theorem dX4_years_48 : decode cX4_years 48 = .ok (.lushr, 1) := by decide +kernel
theorem dX4_years_49 : decode cX4_years 49 = .ok (.ldc2_w 216, 3) := by decide +kernel
theorem dX4_years_52 : decode cX4_years 52 = .ok (.lrem, 1) := by decide +kernel
theorem dX4_years_53 : decode cX4_years 53 = .ok (.l2i, 1) := by decide +kernel
theorem dX4_years_54 : decode cX4_years 54 = .ok (.invokevirtual 179, 3) := by decide +kernel
theorem dX4_years_57 : decode cX4_years 57 = .ok (.iadd, 1) := by decide +kernel
theorem dX4_years_58 : decode cX4_years 58 = .ok (.istore_n 2, 1) := by decide +kernel
theorem dX4_years_59 : decode cX4_years 59 = .ok (.iinc 3 1, 3) := by decide +kernel
theorem dX4_years_62 : decode cX4_years 62 = .ok (.goto (-43), 3) := by decide +kernel
theorem dX4_years_65 : decode cX4_years 65 = .ok (.iload_n 2, 1) := by decide +kernel
theorem dX4_years_66 : decode cX4_years 66 = .ok (.ireturn, 1) := by decide +kernel
set_option maxRecDepth 20000 in
theorem ggX4_keep_X4_in : GoodIn wsX4_keep wsX4_in := goodIn_r _ [7] (by decide +kernel) (by decide +kernel)
set_option maxRecDepth 20000 in
theorem gX4_keep_X4_in : GoodIn wsX4_keep (va_wsS RX4 74 yX4_in wsX4_in) := goodIn_app (goodIn_of _ (by decide +kernel)) ggX4_keep_X4_in
theorem dX4_keep_0 : decode cX4_keep 0 = .ok (.iload_n 1, 1) := by decide +kernel
theorem dX4_keep_1 : decode cX4_keep 1 = .ok (.i2l, 1) := by decide +kernel
theorem dX4_keep_2 : decode cX4_keep 2 = .ok (.lconst 0, 1) := by decide +kernel
theorem dX4_keep_3 : decode cX4_keep 3 = .ok (.lconst 1, 1) := by decide +kernel
theorem dX4_keep_4 : decode cX4_keep 4 = .ok (.invokestatic 74, 3) := by decide +kernel
theorem dX4_keep_7 : decode cX4_keep 7 = .ok (.ifCond .ne 5, 3) := by decide +kernel
theorem dX4_keep_10 : decode cX4_keep 10 = .ok (.iconst (-1), 1) := by decide +kernel
theorem dX4_keep_11 : decode cX4_keep 11 = .ok (.ireturn, 1) := by decide +kernel
theorem dX4_keep_12 : decode cX4_keep 12 = .ok (.aload_n 0, 1) := by decide +kernel
theorem dX4_keep_13 : decode cX4_keep 13 = .ok (.getfield 61, 3) := by decide +kernel
theorem dX4_keep_16 : decode cX4_keep 16 = .ok (.iload_n 1, 1) := by decide +kernel
theorem dX4_keep_17 : decode cX4_keep 17 = .ok (.iconst 1, 1) := by decide +kernel
theorem dX4_keep_18 : decode cX4_keep 18 = .ok (.bastore, 1) := by decide +kernel
theorem dX4_keep_19 : decode cX4_keep 19 = .ok (.iconst 0, 1) := by decide +kernel
theorem dX4_keep_20 : decode cX4_keep 20 = .ok (.istore_n 2, 1) := by decide +kernel
theorem dX4_keep_21 : decode cX4_keep 21 = .ok (.iload_n 2, 1) := by decide +kernel
theorem dX4_keep_22 : decode cX4_keep 22 = .ok (.bipush 48, 2) := by decide +kernel
theorem dX4_keep_24 : decode cX4_keep 24 = .ok (.if_icmp .ge 26, 3) := by decide +kernel
theorem dX4_keep_27 : decode cX4_keep 27 = .ok (.aload_n 0, 1) := by decide +kernel
theorem dX4_keep_28 : decode cX4_keep 28 = .ok (.getfield 65, 3) := by decide +kernel
theorem dX4_keep_31 : decode cX4_keep 31 = .ok (.bipush 48, 2) := by decide +kernel
theorem dX4_keep_33 : decode cX4_keep 33 = .ok (.iload_n 1, 1) := by decide +kernel
theorem dX4_keep_34 : decode cX4_keep 34 = .ok (.imul, 1) := by decide +kernel
theorem dX4_keep_35 : decode cX4_keep 35 = .ok (.iload_n 2, 1) := by decide +kernel
theorem dX4_keep_36 : decode cX4_keep 36 = .ok (.iadd, 1) := by decide +kernel
theorem dX4_keep_37 : decode cX4_keep 37 = .ok (.aload_n 0, 1) := by decide +kernel
theorem dX4_keep_38 : decode cX4_keep 38 = .ok (.getfield 19, 3) := by decide +kernel
theorem dX4_keep_41 : decode cX4_keep 41 = .ok (.iload_n 2, 1) := by decide +kernel
theorem dX4_keep_42 : decode cX4_keep 42 = .ok (.iaload, 1) := by decide +kernel
theorem dX4_keep_43 : decode cX4_keep 43 = .ok (.iastore, 1) := by decide +kernel
theorem dX4_keep_44 : decode cX4_keep 44 = .ok (.iinc 2 1, 3) := by decide +kernel
theorem dX4_keep_47 : decode cX4_keep 47 = .ok (.goto (-26), 3) := by decide +kernel
theorem dX4_keep_50 : decode cX4_keep 50 = .ok (.aload_n 0, 1) := by decide +kernel
theorem dX4_keep_51 : decode cX4_keep 51 = .ok (.getfield 19, 3) := by decide +kernel
theorem dX4_keep_54 : decode cX4_keep 54 = .ok (.iconst 0, 1) := by decide +kernel
theorem dX4_keep_55 : decode cX4_keep 55 = .ok (.iaload, 1) := by decide +kernel
theorem dX4_keep_56 : decode cX4_keep 56 = .ok (.ireturn, 1) := by decide +kernel
set_option maxRecDepth 20000 in
theorem ggX4_again_X4_in : GoodIn wsX4_again wsX4_in := goodIn_r _ [8] (by decide +kernel) (by decide +kernel)
set_option maxRecDepth 20000 in
theorem gX4_again_X4_in : GoodIn wsX4_again (va_wsS RX4 74 yX4_in wsX4_in) := goodIn_app (goodIn_of _ (by decide +kernel)) ggX4_again_X4_in
theorem dX4_again_0 : decode cX4_again 0 = .ok (.iload_n 1, 1) := by decide +kernel
theorem dX4_again_1 : decode cX4_again 1 = .ok (.i2l, 1) := by decide +kernel
theorem dX4_again_2 : decode cX4_again 2 = .ok (.lconst 0, 1) := by decide +kernel
theorem dX4_again_3 : decode cX4_again 3 = .ok (.lconst 1, 1) := by decide +kernel
theorem dX4_again_4 : decode cX4_again 4 = .ok (.invokestatic 74, 3) := by decide +kernel
theorem dX4_again_7 : decode cX4_again 7 = .ok (.ifCond .ne 5, 3) := by decide +kernel
theorem dX4_again_10 : decode cX4_again 10 = .ok (.iconst (-1), 1) := by decide +kernel
theorem dX4_again_11 : decode cX4_again 11 = .ok (.ireturn, 1) := by decide +kernel
theorem dX4_again_12 : decode cX4_again 12 = .ok (.aload_n 0, 1) := by decide +kernel
theorem dX4_again_13 : decode cX4_again 13 = .ok (.getfield 61, 3) := by decide +kernel
theorem dX4_again_16 : decode cX4_again 16 = .ok (.iload_n 1, 1) := by decide +kernel
theorem dX4_again_17 : decode cX4_again 17 = .ok (.baload, 1) := by decide +kernel
theorem dX4_again_18 : decode cX4_again 18 = .ok (.ifCond .ne 6, 3) := by decide +kernel
theorem dX4_again_21 : decode cX4_again 21 = .ok (.bipush (-3), 2) := by decide +kernel
theorem dX4_again_23 : decode cX4_again 23 = .ok (.ireturn, 1) := by decide +kernel
set_option maxRecDepth 20000 in
theorem ggX4_count_X4_goneNow : GoodIn wsX4_count wsX4_goneNow := goodIn_r _ [12, 5, 13, 14, 15, 11, 16, 2, 17, 18, 19, 20, 21, 22, 23, 24, 25, 26, 27, 28, 29, 30, 31, 32, 33, 34, 35, 36, 37, 38, 39, 40, 41, 42, 43, 44, 45, 46] (by decide +kernel) (by decide +kernel)
set_option maxRecDepth 20000 in
theorem gX4_count_X4_goneNow : GoodIn wsX4_count (wsV RX4 185 RX4 yX4_goneNow wsX4_goneNow) := goodIn_app (goodIn_of _ (by decide +kernel)) ggX4_count_X4_goneNow
theorem dX4_count_0 : decode cX4_count 0 = .ok (.iconst 0, 1) := by decide +kernel
theorem dX4_count_1 : decode cX4_count 1 = .ok (.istore_n 2, 1) := by decide +kernel
theorem dX4_count_2 : decode cX4_count 2 = .ok (.iconst 0, 1) := by decide +kernel
theorem dX4_count_3 : decode cX4_count 3 = .ok (.istore_n 3, 1) := by decide +kernel
theorem dX4_count_4 : decode cX4_count 4 = .ok (.iload_n 3, 1) := by decide +kernel
theorem dX4_count_5 : decode cX4_count 5 = .ok (.aload_n 0, 1) := by decide +kernel
theorem dX4_count_6 : decode cX4_count 6 = .ok (.getfield 68, 3) := by decide +kernel
theorem dX4_count_9 : decode cX4_count 9 = .ok (.if_icmp .ge 34, 3) := by decide +kernel
theorem dX4_count_43 : decode cX4_count 43 = .ok (.iload_n 1, 1) := by decide +kernel
theorem dX4_count_44 : decode cX4_count 44 = .ok (.tableswitch 87 0 7 #[48, 53, 58, 63, 70, 75, 77, 82], 48) := by decide +kernel
theorem dX4_count_92 : decode cX4_count 92 = .ok (.aload_n 0, 1) := by decide +kernel
theorem dX4_count_93 : decode cX4_count 93 = .ok (.getfield 78, 3) := by decide +kernel
theorem dX4_count_96 : decode cX4_count 96 = .ok (.ireturn, 1) := by decide +kernel
theorem dX4_count_97 : decode cX4_count 97 = .ok (.aload_n 0, 1) := by decide +kernel
theorem dX4_count_98 : decode cX4_count 98 = .ok (.getfield 68, 3) := by decide +kernel
theorem dX4_count_101 : decode cX4_count 101 = .ok (.ireturn, 1) := by decide +kernel
theorem dX4_count_102 : decode cX4_count 102 = .ok (.aload_n 0, 1) := by decide +kernel
theorem dX4_count_103 : decode cX4_count 103 = .ok (.getfield 101, 3) := by decide +kernel
theorem dX4_count_106 : decode cX4_count 106 = .ok (.ireturn, 1) := by decide +kernel
theorem dX4_count_107 : decode cX4_count 107 = .ok (.aload_n 0, 1) := by decide +kernel
theorem dX4_count_108 : decode cX4_count 108 = .ok (.getfield 19, 3) := by decide +kernel
theorem dX4_count_111 : decode cX4_count 111 = .ok (.iconst 0, 1) := by decide +kernel
theorem dX4_count_112 : decode cX4_count 112 = .ok (.iaload, 1) := by decide +kernel
theorem dX4_count_113 : decode cX4_count 113 = .ok (.ireturn, 1) := by decide +kernel
theorem dX4_count_114 : decode cX4_count 114 = .ok (.aload_n 0, 1) := by decide +kernel
theorem dX4_count_115 : decode cX4_count 115 = .ok (.invokevirtual 185, 3) := by decide +kernel
theorem dX4_count_118 : decode cX4_count 118 = .ok (.ireturn, 1) := by decide +kernel
theorem dX4_count_119 : decode cX4_count 119 = .ok (.iload_n 2, 1) := by decide +kernel
theorem dX4_count_120 : decode cX4_count 120 = .ok (.ireturn, 1) := by decide +kernel
theorem dX4_count_121 : decode cX4_count 121 = .ok (.aload_n 0, 1) := by decide +kernel
theorem dX4_count_122 : decode cX4_count 122 = .ok (.getfield 104, 3) := by decide +kernel
theorem dX4_count_125 : decode cX4_count 125 = .ok (.ireturn, 1) := by decide +kernel
theorem dX4_count_126 : decode cX4_count 126 = .ok (.aload_n 0, 1) := by decide +kernel
theorem dX4_count_127 : decode cX4_count 127 = .ok (.getfield 199, 3) := by decide +kernel
theorem dX4_count_130 : decode cX4_count 130 = .ok (.ireturn, 1) := by decide +kernel
theorem dX4_count_131 : decode cX4_count 131 = .ok (.bipush (-2), 2) := by decide +kernel
theorem dX4_count_133 : decode cX4_count 133 = .ok (.ireturn, 1) := by decide +kernel
set_option maxHeartbeats 600000 in
set_option maxRecDepth 100000 in
theorem c_X4_isDouble0 (l : Launch) (D : va_G) (cI cZ cM : ClassId) (h0 : Nat) (n : Int32) (ytk : Int32) (ywi : Nat) (yki : Nat) (yse : Nat) (yno : Nat) (yrh : Nat) (yrw : Nat) (yrk : Nat) (yrt : Nat) (yrp : Int32) (yrq : Int32) (ytx : Nat) (yle : Int32) (yat : Int32) (yfa : Int32) (yby : Nat) (ylo : Nat) (yhi : Nat) (yac : Int32) (ynx : Int32) (yro : Nat) (ygl : Nat) (ysn : Int32) (yso : Nat) (ysp : Nat) (ysw : Nat) (ysd : Int64) (yik : Nat) (ykp : Nat) (sz : Nat)  : Ci l yX4_isDouble wsX4_isDouble ({ frames := 0, cells := 0, slots := 0, locals := 0 } : Room) D cI cZ cM [.ref h0, .int n] [(h0, .inr (4, [.int 0, .int ytk, .ref ywi, .ref yki, .ref yse, .ref yno, .ref yrh, .ref yrw, .ref yrk, .ref yrt, .int yrp, .int yrq, .ref ytx, .int yle, .int yat, .int yfa, .ref yby, .ref ylo, .ref yhi, .int yac, .int ynx, .ref yro, .ref ygl, .int ysn, .ref yso, .ref ysp, .ref ysw, .long ysd, .ref yik, .ref ykp]))] sz (fun (r : Int32) (u : Unit) => r.toInt = 0) (fun u => [(h0, .inr (4, [.int 0, .int ytk, .ref ywi, .ref yki, .ref yse, .ref yno, .ref yrh, .ref yrw, .ref yrk, .ref yrt, .int yrp, .int yrq, .ref ytx, .int yle, .int yat, .int yfa, .ref yby, .ref ylo, .ref yhi, .int yac, .int ynx, .ref yro, .ref ygl, .int ysn, .ref yso, .ref ysp, .ref ysw, .long ysd, .ref yik, .ref ykp]))]) 0 0 := by
  refine begins (l := l) (y := yX4_isDouble) (ws := wsX4_isDouble) (av := [.ref h0, .int n]) (Qc := fun A => va_Qi (fun (r : Int32) (u : Unit) => r.toInt = 0) (fun u => Wd D cI cZ cM A ((fun u => [(h0, .inr (4, [.int 0, .int ytk, .ref ywi, .ref yki, .ref yse, .ref yno, .ref yrh, .ref yrw, .ref yrk, .ref yrt, .int yrp, .int yrq, .ref ytx, .int yle, .int yat, .int yfa, .ref yby, .ref ylo, .ref yhi, .int yac, .int ynx, .ref yro, .ref ygl, .int ysn, .ref yso, .ref ysp, .ref ysw, .long ysd, .ref yik, .ref ykp]))]) u)) A) cX4_isDouble 5 (some .boolean) (by decide) rfl (Nat.le_of_ble_eq_true rfl) ?_
  intro p e s m args below meth c R Q A ls hBd hR hQ hA hS hK hP hD hl
  obtain ⟨hx, hb, hr, hts, hown, hlocks, hin, hml⟩ := hBd
  have hl : lv_has ls 5 [(0, .ref h0), (1, .int n)] := hl
  have iX4 : ∀ w ∈ wsX40, w ∈ wsX4_isDouble := fun _ h => List.mem_cons_of_mem _ (List.mem_append_right _ h)
  refine lv_iconst (v := 0) hx hb dX4_isDouble_0 (by decide) ?_
  refine lv_istore_n (lv' := [(2, .int 0), (0, .ref h0), (1, .int n)]) hx hb dX4_isDouble_1 rfl hl (by decide) rfl (fun ls hl => ?_)
  refine lv_iconst (v := 0) hx hb dX4_isDouble_2 (by decide) ?_
  refine lv_istore_n (lv' := [(3, .int 0), (2, .int 0), (0, .ref h0), (1, .int n)]) hx hb dX4_isDouble_3 rfl hl (by decide) rfl (fun ls hl => ?_)
  refine lv_iload_n hx hb dX4_isDouble_4 rfl (lv_at hl 0 rfl) ?_
  refine lv_aload_n hx hb dX4_isDouble_5 rfl (lv_at hl 2 rfl) ?_
  refine va_get (D := D) (ci := 4) (v := .int 0) (C := RX4) (T := TX4) (N := 30) hx hb hts iX4 hown hK hP 0 rfl rfl 0 (by decide) (hts (.fieldLink RX4 68 "PunchedTicketModel" "people" "I") (List.mem_of_getElem? (i := 1) rfl)) (fun _ h9 => h9) rfl dX4_isDouble_6 ?_
  refine lv_icmp_ge (tgt := 80) hx hb dX4_isDouble_9 (by decide) (fun c_1 => ?_) (fun c_1 => ?_)
  · have tc_1 := b_le (show (0 : Int32).toInt = 0 by decide) (show (0 : Int32).toInt = 0 by decide) c_1
    refine lv_iload_n hx hb dX4_isDouble_80 rfl (lv_at hl 1 rfl) ?_
    exact ret_i (post := (fun (r : Int32) (u : Unit) => r.toInt = 0)) (W1 := (fun u => [(h0, .inr (4, [.int 0, .int ytk, .ref ywi, .ref yki, .ref yse, .ref yno, .ref yrh, .ref yrw, .ref yrk, .ref yrt, .int yrp, .int yrq, .ref ytx, .int yle, .int yat, .int yfa, .ref yby, .ref ylo, .ref yhi, .int yac, .int ynx, .ref yro, .ref ygl, .int ysn, .ref yso, .ref ysp, .ref ysw, .long ysd, .ref yik, .ref ykp]))])) () hx hb hr hlocks rfl hQ hK hP hD hS ⟨by decide, by decide⟩ dX4_isDouble_81 (show (0 : Int) = 0 by omega)
  · have tc_1 := b_nle (show (0 : Int32).toInt = 0 by decide) (show (0 : Int32).toInt = 0 by decide) c_1
    exfalso; omega

set_option maxHeartbeats 600000 in
set_option maxRecDepth 100000 in
theorem c_X4_twoSeats0 (l : Launch) (D : va_G) (cI cZ cM : ClassId) (h0 : Nat) (ytk : Int32) (ywi : Nat) (yki : Nat) (yse : Nat) (yno : Nat) (yrh : Nat) (yrw : Nat) (yrk : Nat) (yrt : Nat) (yrp : Int32) (yrq : Int32) (ytx : Nat) (yle : Int32) (yat : Int32) (yfa : Int32) (yby : Nat) (ylo : Nat) (yhi : Nat) (yac : Int32) (ynx : Int32) (yro : Nat) (ygl : Nat) (ysn : Int32) (yso : Nat) (ysp : Nat) (ysw : Nat) (ysd : Int64) (yik : Nat) (ykp : Nat) (Fno : Nat → Int32) (sz : Nat) (h_f : 0 ≤ (Fno 0).toInt ∧ (Fno 0).toInt ≤ 10) : Ci l yX4_twoSeats wsX4_twoSeats ({ frames := 1, cells := 0, slots := 0, locals := 28 } : Room) D cI cZ cM [.ref h0] [(h0, .inr (4, [.int 0, .int ytk, .ref ywi, .ref yki, .ref yse, .ref yno, .ref yrh, .ref yrw, .ref yrk, .ref yrt, .int yrp, .int yrq, .ref ytx, .int yle, .int yat, .int yfa, .ref yby, .ref ylo, .ref yhi, .int yac, .int ynx, .ref yro, .ref ygl, .int ysn, .ref yso, .ref ysp, .ref ysw, .long ysd, .ref yik, .ref ykp])), (yno, .inl (cI, 96, .inl Fno))] sz (fun (r : Int32) (u : Unit) => r.toInt = -9) (fun u => [(h0, .inr (4, [.int 0, .int ytk, .ref ywi, .ref yki, .ref yse, .ref yno, .ref yrh, .ref yrw, .ref yrk, .ref yrt, .int yrp, .int yrq, .ref ytx, .int yle, .int yat, .int yfa, .ref yby, .ref ylo, .ref yhi, .int yac, .int ynx, .ref yro, .ref ygl, .int ysn, .ref yso, .ref ysp, .ref ysw, .long ysd, .ref yik, .ref ykp]))]) 0 0 := by
  refine begins (l := l) (y := yX4_twoSeats) (ws := wsX4_twoSeats) (av := [.ref h0]) (Qc := fun A => va_Qi (fun (r : Int32) (u : Unit) => r.toInt = -9) (fun u => Wd D cI cZ cM A ((fun u => [(h0, .inr (4, [.int 0, .int ytk, .ref ywi, .ref yki, .ref yse, .ref yno, .ref yrh, .ref yrw, .ref yrk, .ref yrt, .int yrp, .int yrq, .ref ytx, .int yle, .int yat, .int yfa, .ref yby, .ref ylo, .ref yhi, .int yac, .int ynx, .ref yro, .ref ygl, .int ysn, .ref yso, .ref ysp, .ref ysw, .long ysd, .ref yik, .ref ykp]))]) u)) A) cX4_twoSeats 1 (some .int) (by decide) rfl (Nat.le_of_ble_eq_true rfl) ?_
  intro p e s m args below meth c R Q A ls hBd hR hQ hA hS hK hP hD hl
  obtain ⟨hx, hb, hr, hts, hown, hlocks, hin, hml⟩ := hBd
  have hl : lv_has ls 1 [(0, .ref h0)] := hl
  have iX4 : ∀ w ∈ wsX40, w ∈ wsX4_twoSeats := fun _ h => List.mem_cons_of_mem _ (List.mem_append_right _ h)
  obtain ⟨h_fa, h_fb⟩ := h_f
  refine lv_aload_n hx hb dX4_twoSeats_0 rfl (lv_at hl 0 rfl) ?_
  refine cV_v (As := []) (rest := []) ⟨hx, hb, hml, hown, hts⟩ (c_X4_layTrial l D cI cZ cM h0 0 ytk ywi yki yse yno yrh yrw yrk yrt yrp yrq ytx yle yat yfa yby ylo yhi yac ynx yro ygl ysn yso ysp ysw ysd yik ykp Fno _ ) (cwV 0 hts gX4_twoSeats_X4_layTrial rfl rfl rfl (by decide +kernel) ⟨by rw [hR]; decide, by rw [hR]; decide⟩) hK hP hD hS hA [0, 1] [] rfl rfl (by decide) (by decide) (by decide) rfl 0 rfl hl.1 rfl rfl (Nat.le_of_ble_eq_true rfl) dX4_twoSeats_1 ⟨by rw [hR]; decide, by rw [hR]; decide⟩ (fun u_3 H locs hw hP hD hS => ?_)
  obtain ⟨Gno_1, rfl⟩ : ∃ z, z = u_3 := ⟨_, rfl⟩
  have hP : va_P D vwCl [(h0, .inr (4, [.int 0, .int ytk, .ref ywi, .ref yki, .ref yse, .ref yno, .ref yrh, .ref yrw, .ref yrk, .ref yrt, .int yrp, .int yrq, .ref ytx, .int yle, .int yat, .int yfa, .ref yby, .ref ylo, .ref yhi, .int yac, .int ynx, .ref yro, .ref ygl, .int ysn, .ref yso, .ref ysp, .ref ysw, .long ysd, .ref yik, .ref ykp])), (yno, .inl (cI, 96, .inl Gno_1))] H := hP.sub [0, 1] rfl
  have hD : va_D A [(h0, .inr (4, [.int 0, .int ytk, .ref ywi, .ref yki, .ref yse, .ref yno, .ref yrh, .ref yrw, .ref yrk, .ref yrt, .int yrp, .int yrq, .ref ytx, .int yle, .int yat, .int yfa, .ref yby, .ref ylo, .ref yhi, .int yac, .int ynx, .ref yro, .ref ygl, .int ysn, .ref yso, .ref ysp, .ref ysw, .long ysd, .ref yik, .ref ykp])), (yno, .inl (cI, 96, .inl Gno_1))] := hD.sub [0, 1] (by decide) rfl
  refine W.widen (k := 0) (n := 0) (Nat.le_refl _) (Nat.le_refl _) ?_
  have hw : (Gno_1 48).toInt = (Fno 0).toInt ∧ (Gno_1 0).toInt = (Fno 0).toInt := hw
  have hw_4 := hw
  obtain ⟨hw_4a, hw_4b⟩ := hw_4
  have LOOP_5 : ∀ (fu : Nat) (gn : Nat → Int32) (H : Heap) (locs : List Loc) (ls : Array Slot), (10 - (gn 48).toInt).toNat < fu → (0 ≤ (gn 48).toInt ∧ (gn 48).toInt ≤ 10) → va_P D vwCl [(h0, .inr (4, [.int 0, .int ytk, .ref ywi, .ref yki, .ref yse, .ref yno, .ref yrh, .ref yrw, .ref yrk, .ref yrt, .int yrp, .int yrq, .ref ytx, .int yle, .int yat, .int yfa, .ref yby, .ref ylo, .ref yhi, .int yac, .int ynx, .ref yro, .ref ygl, .int ysn, .ref yso, .ref ysp, .ref ysw, .long ysd, .ref yik, .ref ykp])), (yno, .inl (cI, 96, .inl gn))] H → va_D A [(h0, .inr (4, [.int 0, .int ytk, .ref ywi, .ref yki, .ref yse, .ref yno, .ref yrh, .ref yrw, .ref yrk, .ref yrt, .int yrp, .int yrq, .ref ytx, .int yle, .int yat, .int yfa, .ref yby, .ref ylo, .ref yhi, .int yac, .int ynx, .ref yro, .ref ygl, .int ysn, .ref yso, .ref ysp, .ref ysw, .long ysd, .ref yik, .ref ykp])), (yno, .inl (cI, 96, .inl gn))] → va_S A s.heap H locs → lv_has ls 1 [(0, .ref h0)] → W p l e R s m args below meth c H locs 0 0 Q (F0 m 4 ls []) := by
    intro fu
    induction fu with
    | zero => intro gn H locs ls hmu; exact absurd hmu (Nat.not_lt_zero _)
    | succ fu ih =>
      intro gn H locs ls hmu h_g hP hD hS hl
      obtain ⟨h_ga, h_gb⟩ := h_g
      have ih_6 := ih
      clear ih
      refine lv_aload_n hx hb dX4_twoSeats_4 rfl (lv_at hl 0 rfl) ?_
      refine va_get (D := D) (ci := 4) (v := .ref yno) (C := RX4) (T := TX4) (N := 30) hx hb hts iX4 hown hK hP 0 rfl rfl 5 (by decide) (hts (.fieldLink RX4 19 "PunchedTicketModel" "now" "[I") (List.mem_of_getElem? (i := 1) rfl)) (fun _ h9 => h9) rfl dX4_twoSeats_5 ?_
      refine lv_bipush (v := 48) hx hb dX4_twoSeats_8 (by decide) ?_
      refine va_iald hx hb hK hP 1 0 rfl rfl (vp_in_iff.mpr (by decide)) dX4_twoSeats_10 ?_
      refine lv_topi (fun v_7 ev_7 => ?_)
      have tv_7 : v_7.toInt = (gn 48).toInt := by rw [ev_7]; rfl
      refine lv_bipush (v := 10) hx hb dX4_twoSeats_11 (by decide) ?_
      refine lv_icmp_ge (tgt := 42) hx hb dX4_twoSeats_13 (by decide) (fun c_8 => ?_) (fun c_8 => ?_)
      · have tc_8 := b_le (show (10 : Int32).toInt = 10 by decide) rfl c_8
        refine lv_bipush (v := (-9)) hx hb dX4_twoSeats_42 (by decide) ?_
        exact ret_i (post := (fun (r : Int32) (u : Unit) => r.toInt = -9)) (W1 := (fun u => [(h0, .inr (4, [.int 0, .int ytk, .ref ywi, .ref yki, .ref yse, .ref yno, .ref yrh, .ref yrw, .ref yrk, .ref yrt, .int yrp, .int yrq, .ref ytx, .int yle, .int yat, .int yfa, .ref yby, .ref ylo, .ref yhi, .int yac, .int ynx, .ref yro, .ref ygl, .int ysn, .ref yso, .ref ysp, .ref ysw, .long ysd, .ref yik, .ref ykp]))])) () hx hb hr hlocks rfl hQ hK (hP.sub [0] rfl) (hD.sub [0] (by decide) rfl) hS ⟨by decide, by decide⟩ dX4_twoSeats_44 (show (-9 : Int) = -9 by omega)
      · have tc_8 := b_nle (show (10 : Int32).toInt = 10 by decide) rfl c_8
        refine lv_aload_n hx hb dX4_twoSeats_16 rfl (lv_at hl 0 rfl) ?_
        refine lv_aload_n hx hb dX4_twoSeats_17 rfl (lv_at hl 0 rfl) ?_
        refine lv_iconst (v := 1) hx hb dX4_twoSeats_18 (by decide) ?_
        refine lv_aload_n hx hb dX4_twoSeats_19 rfl (lv_at hl 0 rfl) ?_
        refine va_get (D := D) (ci := 4) (v := .int ytk) (C := RX4) (T := TX4) (N := 30) hx hb hts iX4 hown hK hP 0 rfl rfl 1 (by decide) (hts (.fieldLink RX4 101 "PunchedTicketModel" "tickets" "I") (List.mem_of_getElem? (i := 2) rfl)) (fun _ h9 => h9) rfl dX4_twoSeats_20 ?_
        refine cV_i (As := [.int 1, .int ytk]) (rest := [.ref h0]) ⟨hx, hb, hml, hown, hts⟩ (c_X4_pass1 l D cI cZ cM h0 ytk ytk ywi yki yse yno yrh yrw yrk yrt yrp yrq ytx yle yat yfa yby ylo yhi yac ynx yro ygl ysn yso ysp ysw ysd yik ykp gn _ (show 0 ≤ (gn 48).toInt ∧ (gn 48).toInt ≤ 9 by omega)) (cwV 2 hts gX4_twoSeats_X4_pass rfl rfl rfl (by decide +kernel) ⟨by rw [hR]; decide, by rw [hR]; decide⟩) hK hP hD hS hA [0, 1] [] rfl rfl (by decide) (by decide) (by decide) rfl 0 rfl hl.1 rfl rfl (Nat.le_of_ble_eq_true rfl) dX4_twoSeats_23 ⟨by rw [hR]; decide, by rw [hR]; decide⟩ (fun r_10 u_11 H locs hw hP hD hS => ?_)
        obtain ⟨Gno_9, rfl⟩ : ∃ z, z = u_11 := ⟨_, rfl⟩
        have hP : va_P D vwCl [(h0, .inr (4, [.int 0, .int ytk, .ref ywi, .ref yki, .ref yse, .ref yno, .ref yrh, .ref yrw, .ref yrk, .ref yrt, .int yrp, .int yrq, .ref ytx, .int yle, .int yat, .int yfa, .ref yby, .ref ylo, .ref yhi, .int yac, .int ynx, .ref yro, .ref ygl, .int ysn, .ref yso, .ref ysp, .ref ysw, .long ysd, .ref yik, .ref ykp])), (yno, .inl (cI, 96, .inl Gno_9))] H := hP.sub [0, 1] rfl
        have hD : va_D A [(h0, .inr (4, [.int 0, .int ytk, .ref ywi, .ref yki, .ref yse, .ref yno, .ref yrh, .ref yrw, .ref yrk, .ref yrt, .int yrp, .int yrq, .ref ytx, .int yle, .int yat, .int yfa, .ref yby, .ref ylo, .ref yhi, .int yac, .int ynx, .ref yro, .ref ygl, .int ysn, .ref yso, .ref ysp, .ref ysw, .long ysd, .ref yik, .ref ykp])), (yno, .inl (cI, 96, .inl Gno_9))] := hD.sub [0, 1] (by decide) rfl
        refine W.widen (k := 0) (n := 0) (Nat.le_refl _) (Nat.le_refl _) ?_
        have hw : r_10.toInt = 0 ∧ (Gno_9 48).toInt = (gn 48).toInt + 1 ∧ (Gno_9 0).toInt = (gn 0).toInt := hw
        have hw_12 := hw
        obtain ⟨hw_12a, hw_12b, hw_12c⟩ := hw_12
        refine cV_i (As := [.int r_10]) (rest := []) ⟨hx, hb, hml, hown, hts⟩ (c_X4_isDouble0 l D cI cZ cM h0 r_10 ytk ywi yki yse yno yrh yrw yrk yrt yrp yrq ytx yle yat yfa yby ylo yhi yac ynx yro ygl ysn yso ysp ysw ysd yik ykp _ ) (cwV 1 hts gX4_twoSeats_X4_isDouble rfl rfl rfl (by decide +kernel) ⟨by rw [hR]; decide, by rw [hR]; decide⟩) hK hP hD hS hA [0] [1] rfl rfl (by decide) (by decide) (by decide) rfl 0 rfl hl.1 rfl rfl (Nat.le_of_ble_eq_true rfl) dX4_twoSeats_26 ⟨by rw [hR]; decide, by rw [hR]; decide⟩ (fun r_13 u_14 H locs hw hP hD hS => ?_)
        have hP : va_P D vwCl [(h0, .inr (4, [.int 0, .int ytk, .ref ywi, .ref yki, .ref yse, .ref yno, .ref yrh, .ref yrw, .ref yrk, .ref yrt, .int yrp, .int yrq, .ref ytx, .int yle, .int yat, .int yfa, .ref yby, .ref ylo, .ref yhi, .int yac, .int ynx, .ref yro, .ref ygl, .int ysn, .ref yso, .ref ysp, .ref ysw, .long ysd, .ref yik, .ref ykp])), (yno, .inl (cI, 96, .inl Gno_9))] H := hP.sub [1, 0] rfl
        have hD : va_D A [(h0, .inr (4, [.int 0, .int ytk, .ref ywi, .ref yki, .ref yse, .ref yno, .ref yrh, .ref yrw, .ref yrk, .ref yrt, .int yrp, .int yrq, .ref ytx, .int yle, .int yat, .int yfa, .ref yby, .ref ylo, .ref yhi, .int yac, .int ynx, .ref yro, .ref ygl, .int ysn, .ref yso, .ref ysp, .ref ysw, .long ysd, .ref yik, .ref ykp])), (yno, .inl (cI, 96, .inl Gno_9))] := hD.sub [1, 0] (by decide) rfl
        refine W.widen (k := 0) (n := 0) (Nat.le_refl _) (Nat.le_refl _) ?_
        have hw : r_13.toInt = 0 := hw
        have hw_15 := hw
        refine lv_if_eq (tgt := 4) hx hb dX4_twoSeats_29 (by decide) (fun c_16 => ?_) (fun c_16 => ?_)
        · have tc_16 := b_eq rfl (show (0 : Int32).toInt = 0 by decide) c_16
          exact ih_6 Gno_9 _ _ _ (show (10 - (Gno_9 48).toInt).toNat < fu by omega) (show 0 ≤ (Gno_9 48).toInt ∧ (Gno_9 48).toInt ≤ 10 by omega) hP hD hS (lv_sub hl [0] rfl)
        · have tc_16 := b_ne rfl (show (0 : Int32).toInt = 0 by decide) c_16
          exfalso; omega
  exact LOOP_5 _ Gno_1 _ _ _ (Nat.lt_succ_self _) (show 0 ≤ (Gno_1 48).toInt ∧ (Gno_1 48).toInt ≤ 10 by omega) hP hD hS (lv_sub hl [0] rfl)

set_option maxHeartbeats 600000 in
set_option maxRecDepth 100000 in
theorem c_X4_glad0 (l : Launch) (D : va_G) (cI cZ cM : ClassId) (h0 : Nat) (ywi : Nat) (yki : Nat) (yse : Nat) (yno : Nat) (yrh : Nat) (yrw : Nat) (yrk : Nat) (yrt : Nat) (yrp : Int32) (yrq : Int32) (ytx : Nat) (yle : Int32) (yat : Int32) (yfa : Int32) (yby : Nat) (ylo : Nat) (yhi : Nat) (yac : Int32) (ynx : Int32) (yro : Nat) (ygl : Nat) (ysn : Int32) (yso : Nat) (ysp : Nat) (ysw : Nat) (ysd : Int64) (yik : Nat) (ykp : Nat) (Fno : Nat → Int32) (sz : Nat) (h_f : 0 ≤ (Fno 0).toInt ∧ (Fno 0).toInt ≤ 10) : Ci l yX4_glad wsX4_glad ({ frames := 3, cells := 0, slots := 0, locals := 71 } : Room) D cI cZ cM [.ref h0] [(h0, .inr (4, [.int 0, .int 0, .ref ywi, .ref yki, .ref yse, .ref yno, .ref yrh, .ref yrw, .ref yrk, .ref yrt, .int yrp, .int yrq, .ref ytx, .int yle, .int yat, .int yfa, .ref yby, .ref ylo, .ref yhi, .int yac, .int ynx, .ref yro, .ref ygl, .int ysn, .ref yso, .ref ysp, .ref ysw, .long ysd, .ref yik, .ref ykp])), (yno, .inl (cI, 96, .inl Fno))] sz (fun (r : Int32) (u : (Nat → Int32)) => r.toInt = 0) (fun u => [(h0, .inr (4, [.int 0, .int 0, .ref ywi, .ref yki, .ref yse, .ref yno, .ref yrh, .ref yrw, .ref yrk, .ref yrt, .int yrp, .int yrq, .ref ytx, .int yle, .int yat, .int yfa, .ref yby, .ref ylo, .ref yhi, .int yac, .int ynx, .ref yro, .ref ygl, .int ysn, .ref yso, .ref ysp, .ref ysw, .long ysd, .ref yik, .ref ykp])), (yno, .inl (cI, 96, .inl u))]) 0 0 := by
  refine begins (l := l) (y := yX4_glad) (ws := wsX4_glad) (av := [.ref h0]) (Qc := fun A => va_Qi (fun (r : Int32) (u : (Nat → Int32)) => r.toInt = 0) (fun u => Wd D cI cZ cM A ((fun u => [(h0, .inr (4, [.int 0, .int 0, .ref ywi, .ref yki, .ref yse, .ref yno, .ref yrh, .ref yrw, .ref yrk, .ref yrt, .int yrp, .int yrq, .ref ytx, .int yle, .int yat, .int yfa, .ref yby, .ref ylo, .ref yhi, .int yac, .int ynx, .ref yro, .ref ygl, .int ysn, .ref yso, .ref ysp, .ref ysw, .long ysd, .ref yik, .ref ykp])), (yno, .inl (cI, 96, .inl u))]) u)) A) cX4_glad 1 (some .int) (by decide) rfl (Nat.le_of_ble_eq_true rfl) ?_
  intro p e s m args below meth c R Q A ls hBd hR hQ hA hS hK hP hD hl
  obtain ⟨hx, hb, hr, hts, hown, hlocks, hin, hml⟩ := hBd
  have hl : lv_has ls 1 [(0, .ref h0)] := hl
  have iX4 : ∀ w ∈ wsX40, w ∈ wsX4_glad := fun _ h => List.mem_cons_of_mem _ (List.mem_append_right _ h)
  obtain ⟨h_fa, h_fb⟩ := h_f
  refine lv_aload_n hx hb dX4_glad_0 rfl (lv_at hl 0 rfl) ?_
  refine lv_iconst (v := 0) hx hb dX4_glad_1 (by decide) ?_
  refine cV_i (As := [.int 0]) (rest := []) ⟨hx, hb, hml, hown, hts⟩ (c_X4_gladWithout0 l D cI cZ cM h0 0 ywi yki yse yno yrh yrw yrk yrt yrp yrq ytx yle yat yfa yby ylo yhi yac ynx yro ygl ysn yso ysp ysw ysd yik ykp Fno _ (show 0 ≤ (Fno 0).toInt ∧ (Fno 0).toInt ≤ 10 by omega)) (cwV 1 hts gX4_glad_X4_gladWithout rfl rfl rfl (by decide +kernel) ⟨by rw [hR]; decide, by rw [hR]; decide⟩) hK hP hD hS hA [0, 1] [] rfl rfl (by decide) (by decide) (by decide) rfl 0 rfl hl.1 rfl rfl (Nat.le_of_ble_eq_true rfl) dX4_glad_2 ⟨by rw [hR]; decide, by rw [hR]; decide⟩ (fun r_2 u_3 H locs hw hP hD hS => ?_)
  obtain ⟨Gno_1, rfl⟩ : ∃ z, z = u_3 := ⟨_, rfl⟩
  have hP : va_P D vwCl [(h0, .inr (4, [.int 0, .int 0, .ref ywi, .ref yki, .ref yse, .ref yno, .ref yrh, .ref yrw, .ref yrk, .ref yrt, .int yrp, .int yrq, .ref ytx, .int yle, .int yat, .int yfa, .ref yby, .ref ylo, .ref yhi, .int yac, .int ynx, .ref yro, .ref ygl, .int ysn, .ref yso, .ref ysp, .ref ysw, .long ysd, .ref yik, .ref ykp])), (yno, .inl (cI, 96, .inl Gno_1))] H := hP.sub [0, 1] rfl
  have hD : va_D A [(h0, .inr (4, [.int 0, .int 0, .ref ywi, .ref yki, .ref yse, .ref yno, .ref yrh, .ref yrw, .ref yrk, .ref yrt, .int yrp, .int yrq, .ref ytx, .int yle, .int yat, .int yfa, .ref yby, .ref ylo, .ref yhi, .int yac, .int ynx, .ref yro, .ref ygl, .int ysn, .ref yso, .ref ysp, .ref ysw, .long ysd, .ref yik, .ref ykp])), (yno, .inl (cI, 96, .inl Gno_1))] := hD.sub [0, 1] (by decide) rfl
  refine W.widen (k := 0) (n := 0) (Nat.le_refl _) (Nat.le_refl _) ?_
  have hw : r_2.toInt = 0 ∧ (0 ≤ (Gno_1 0).toInt ∧ (Gno_1 0).toInt ≤ 10) := hw
  have hw_4 := hw
  obtain ⟨hw_4a, hw_4b, hw_4c⟩ := hw_4
  exact ret_i (post := (fun (r : Int32) (u : (Nat → Int32)) => r.toInt = 0)) (W1 := (fun u => [(h0, .inr (4, [.int 0, .int 0, .ref ywi, .ref yki, .ref yse, .ref yno, .ref yrh, .ref yrw, .ref yrk, .ref yrt, .int yrp, .int yrq, .ref ytx, .int yle, .int yat, .int yfa, .ref yby, .ref ylo, .ref yhi, .int yac, .int ynx, .ref yro, .ref ygl, .int ysn, .ref yso, .ref ysp, .ref ysw, .long ysd, .ref yik, .ref ykp])), (yno, .inl (cI, 96, .inl u))])) Gno_1 hx hb hr hlocks rfl hQ hK hP hD hS ⟨by decide, by decide⟩ dX4_glad_5 (show r_2.toInt = 0 by omega)

set_option maxHeartbeats 600000 in
set_option maxRecDepth 100000 in
theorem c_X4_bestChange0 (l : Launch) (D : va_G) (cI cZ cM : ClassId) (h0 : Nat) (ywi : Nat) (yki : Nat) (yse : Nat) (yno : Nat) (yrh : Nat) (yrw : Nat) (yrk : Nat) (yrt : Nat) (yrp : Int32) (yrq : Int32) (ytx : Nat) (yle : Int32) (yat : Int32) (yfa : Int32) (yby : Nat) (ylo : Nat) (yhi : Nat) (yac : Int32) (ynx : Int32) (yro : Nat) (ygl : Nat) (ysn : Int32) (yso : Nat) (ysp : Nat) (ysw : Nat) (ysd : Int64) (yik : Nat) (ykp : Nat) (Fno : Nat → Int32) (sz : Nat) (h_f : 0 ≤ (Fno 0).toInt ∧ (Fno 0).toInt ≤ 10) : Ci l yX4_bestChange wsX4_bestChange ({ frames := 4, cells := 0, slots := 0, locals := 91 } : Room) D cI cZ cM [.ref h0] [(h0, .inr (4, [.int 0, .int 0, .ref ywi, .ref yki, .ref yse, .ref yno, .ref yrh, .ref yrw, .ref yrk, .ref yrt, .int yrp, .int yrq, .ref ytx, .int yle, .int yat, .int yfa, .ref yby, .ref ylo, .ref yhi, .int yac, .int ynx, .ref yro, .ref ygl, .int ysn, .ref yso, .ref ysp, .ref ysw, .long ysd, .ref yik, .ref ykp])), (yno, .inl (cI, 96, .inl Fno))] sz (fun (r : Int32) (u : Unit) => r.toInt = -9) (fun u => [(h0, .inr (4, [.int 0, .int 0, .ref ywi, .ref yki, .ref yse, .ref yno, .ref yrh, .ref yrw, .ref yrk, .ref yrt, .int yrp, .int yrq, .ref ytx, .int yle, .int yat, .int yfa, .ref yby, .ref ylo, .ref yhi, .int yac, .int ynx, .ref yro, .ref ygl, .int ysn, .ref yso, .ref ysp, .ref ysw, .long ysd, .ref yik, .ref ykp]))]) 0 0 := by
  refine begins (l := l) (y := yX4_bestChange) (ws := wsX4_bestChange) (av := [.ref h0]) (Qc := fun A => va_Qi (fun (r : Int32) (u : Unit) => r.toInt = -9) (fun u => Wd D cI cZ cM A ((fun u => [(h0, .inr (4, [.int 0, .int 0, .ref ywi, .ref yki, .ref yse, .ref yno, .ref yrh, .ref yrw, .ref yrk, .ref yrt, .int yrp, .int yrq, .ref ytx, .int yle, .int yat, .int yfa, .ref yby, .ref ylo, .ref yhi, .int yac, .int ynx, .ref yro, .ref ygl, .int ysn, .ref yso, .ref ysp, .ref ysw, .long ysd, .ref yik, .ref ykp]))]) u)) A) cX4_bestChange 5 (some .int) (by decide) rfl (Nat.le_of_ble_eq_true rfl) ?_
  intro p e s m args below meth c R Q A ls hBd hR hQ hA hS hK hP hD hl
  obtain ⟨hx, hb, hr, hts, hown, hlocks, hin, hml⟩ := hBd
  have hl : lv_has ls 5 [(0, .ref h0)] := hl
  have iX4 : ∀ w ∈ wsX40, w ∈ wsX4_bestChange := fun _ h => List.mem_cons_of_mem _ (List.mem_append_right _ h)
  obtain ⟨h_fa, h_fb⟩ := h_f
  refine lv_aload_n hx hb dX4_bestChange_0 rfl (lv_at hl 0 rfl) ?_
  refine cV_i (As := []) (rest := []) ⟨hx, hb, hml, hown, hts⟩ (c_X4_glad0 l D cI cZ cM h0 ywi yki yse yno yrh yrw yrk yrt yrp yrq ytx yle yat yfa yby ylo yhi yac ynx yro ygl ysn yso ysp ysw ysd yik ykp Fno _ (show 0 ≤ (Fno 0).toInt ∧ (Fno 0).toInt ≤ 10 by omega)) (cwV 0 hts gX4_bestChange_X4_glad rfl rfl rfl (by decide +kernel) ⟨by rw [hR]; decide, by rw [hR]; decide⟩) hK hP hD hS hA [0, 1] [] rfl rfl (by decide) (by decide) (by decide) rfl 0 rfl hl.1 rfl rfl (Nat.le_of_ble_eq_true rfl) dX4_bestChange_1 ⟨by rw [hR]; decide, by rw [hR]; decide⟩ (fun r_2 u_3 H locs hw hP hD hS => ?_)
  obtain ⟨Gno_1, rfl⟩ : ∃ z, z = u_3 := ⟨_, rfl⟩
  have hP : va_P D vwCl [(h0, .inr (4, [.int 0, .int 0, .ref ywi, .ref yki, .ref yse, .ref yno, .ref yrh, .ref yrw, .ref yrk, .ref yrt, .int yrp, .int yrq, .ref ytx, .int yle, .int yat, .int yfa, .ref yby, .ref ylo, .ref yhi, .int yac, .int ynx, .ref yro, .ref ygl, .int ysn, .ref yso, .ref ysp, .ref ysw, .long ysd, .ref yik, .ref ykp])), (yno, .inl (cI, 96, .inl Gno_1))] H := hP.sub [0, 1] rfl
  have hD : va_D A [(h0, .inr (4, [.int 0, .int 0, .ref ywi, .ref yki, .ref yse, .ref yno, .ref yrh, .ref yrw, .ref yrk, .ref yrt, .int yrp, .int yrq, .ref ytx, .int yle, .int yat, .int yfa, .ref yby, .ref ylo, .ref yhi, .int yac, .int ynx, .ref yro, .ref ygl, .int ysn, .ref yso, .ref ysp, .ref ysw, .long ysd, .ref yik, .ref ykp])), (yno, .inl (cI, 96, .inl Gno_1))] := hD.sub [0, 1] (by decide) rfl
  refine W.widen (k := 0) (n := 0) (Nat.le_refl _) (Nat.le_refl _) ?_
  have hw : r_2.toInt = 0 := hw
  have hw_4 := hw
  refine lv_istore_n (lv' := [(1, .int r_2), (0, .ref h0)]) hx hb dX4_bestChange_4 rfl hl (by decide) rfl (fun ls hl => ?_)
  refine lv_bipush (v := (-9)) hx hb dX4_bestChange_5 (by decide) ?_
  refine lv_istore_n (lv' := [(2, .int (-9)), (1, .int r_2), (0, .ref h0)]) hx hb dX4_bestChange_7 rfl hl (by decide) rfl (fun ls hl => ?_)
  refine lv_iconst (v := 0) hx hb dX4_bestChange_8 (by decide) ?_
  refine lv_istore_n (lv' := [(3, .int 0), (2, .int (-9)), (1, .int r_2), (0, .ref h0)]) hx hb dX4_bestChange_9 rfl hl (by decide) rfl (fun ls hl => ?_)
  refine lv_iload_n hx hb dX4_bestChange_10 rfl (lv_at hl 0 rfl) ?_
  refine lv_aload_n hx hb dX4_bestChange_11 rfl (lv_at hl 3 rfl) ?_
  refine va_get (D := D) (ci := 4) (v := .int 0) (C := RX4) (T := TX4) (N := 30) hx hb hts iX4 hown hK hP 0 rfl rfl 1 (by decide) (hts (.fieldLink RX4 101 "PunchedTicketModel" "tickets" "I") (List.mem_of_getElem? (i := 1) rfl)) (fun _ h9 => h9) rfl dX4_bestChange_12 ?_
  refine lv_icmp_ge (tgt := 112) hx hb dX4_bestChange_15 (by decide) (fun c_5 => ?_) (fun c_5 => ?_)
  · have tc_5 := b_le (show (0 : Int32).toInt = 0 by decide) (show (0 : Int32).toInt = 0 by decide) c_5
    refine lv_iload_n hx hb dX4_bestChange_112 rfl (lv_at hl 1 rfl) ?_
    exact ret_i (post := (fun (r : Int32) (u : Unit) => r.toInt = -9)) (W1 := (fun u => [(h0, .inr (4, [.int 0, .int 0, .ref ywi, .ref yki, .ref yse, .ref yno, .ref yrh, .ref yrw, .ref yrk, .ref yrt, .int yrp, .int yrq, .ref ytx, .int yle, .int yat, .int yfa, .ref yby, .ref ylo, .ref yhi, .int yac, .int ynx, .ref yro, .ref ygl, .int ysn, .ref yso, .ref ysp, .ref ysw, .long ysd, .ref yik, .ref ykp]))])) () hx hb hr hlocks rfl hQ hK (hP.sub [0] rfl) (hD.sub [0] (by decide) rfl) hS ⟨by decide, by decide⟩ dX4_bestChange_113 (show (-9 : Int) = -9 by omega)
  · have tc_5 := b_nle (show (0 : Int32).toInt = 0 by decide) (show (0 : Int32).toInt = 0 by decide) c_5
    exfalso; omega

set_option maxHeartbeats 600000 in
set_option maxRecDepth 100000 in
theorem c_X4_years0 (l : Launch) (D : va_G) (cI cZ cM : ClassId) (h0 : Nat) (n : Int32) (ywi : Nat) (yki : Nat) (yse : Nat) (yno : Nat) (yrh : Nat) (yrw : Nat) (yrk : Nat) (yrt : Nat) (yrp : Int32) (yrq : Int32) (ytx : Nat) (yle : Int32) (yat : Int32) (yfa : Int32) (yby : Nat) (ylo : Nat) (yhi : Nat) (yac : Int32) (ynx : Int32) (yro : Nat) (ygl : Nat) (ysn : Int32) (yso : Nat) (ysp : Nat) (ysw : Nat) (ysd : Int64) (yik : Nat) (ykp : Nat) (Fno : Nat → Int32) (sz : Nat) (h_f : 0 ≤ (Fno 0).toInt ∧ (Fno 0).toInt ≤ 10) : Ci l yX4_years wsX4_years ({ frames := 3, cells := 0, slots := 0, locals := 71 } : Room) D cI cZ cM [.ref h0, .int n] [(h0, .inr (4, [.int 0, .int 0, .ref ywi, .ref yki, .ref yse, .ref yno, .ref yrh, .ref yrw, .ref yrk, .ref yrt, .int yrp, .int yrq, .ref ytx, .int yle, .int yat, .int yfa, .ref yby, .ref ylo, .ref yhi, .int yac, .int ynx, .ref yro, .ref ygl, .int ysn, .ref yso, .ref ysp, .ref ysw, .long ysd, .ref yik, .ref ykp])), (yno, .inl (cI, 96, .inl Fno))] sz (fun (r : Int32) (u : Int64) => ((n.toInt < 1 ∨ 30 < n.toInt) ∧ r.toInt = -2) ∨ (1 ≤ n.toInt ∧ n.toInt ≤ 30 ∧ r.toInt = 0)) (fun u => [(h0, .inr (4, [.int 0, .int 0, .ref ywi, .ref yki, .ref yse, .ref yno, .ref yrh, .ref yrw, .ref yrk, .ref yrt, .int yrp, .int yrq, .ref ytx, .int yle, .int yat, .int yfa, .ref yby, .ref ylo, .ref yhi, .int yac, .int ynx, .ref yro, .ref ygl, .int ysn, .ref yso, .ref ysp, .ref ysw, .long u, .ref yik, .ref ykp]))]) 0 0 := by
  refine begins (l := l) (y := yX4_years) (ws := wsX4_years) (av := [.ref h0, .int n]) (Qc := fun A => va_Qi (fun (r : Int32) (u : Int64) => ((n.toInt < 1 ∨ 30 < n.toInt) ∧ r.toInt = -2) ∨ (1 ≤ n.toInt ∧ n.toInt ≤ 30 ∧ r.toInt = 0)) (fun u => Wd D cI cZ cM A ((fun u => [(h0, .inr (4, [.int 0, .int 0, .ref ywi, .ref yki, .ref yse, .ref yno, .ref yrh, .ref yrw, .ref yrk, .ref yrt, .int yrp, .int yrq, .ref ytx, .int yle, .int yat, .int yfa, .ref yby, .ref ylo, .ref yhi, .int yac, .int ynx, .ref yro, .ref ygl, .int ysn, .ref yso, .ref ysp, .ref ysw, .long u, .ref yik, .ref ykp]))]) u)) A) cX4_years 4 (some .int) (by decide) rfl (Nat.le_of_ble_eq_true rfl) ?_
  intro p e s m args below meth c R Q A ls hBd hR hQ hA hS hK hP hD hl
  obtain ⟨hx, hb, hr, hts, hown, hlocks, hin, hml⟩ := hBd
  have hl : lv_has ls 4 [(0, .ref h0), (1, .int n)] := hl
  have iX4 : ∀ w ∈ wsX40, w ∈ wsX4_years := fun _ h => List.mem_cons_of_mem _ (List.mem_append_right _ h)
  obtain ⟨h_fa, h_fb⟩ := h_f
  refine lv_iload_n hx hb dX4_years_0 rfl (lv_at hl 1 rfl) ?_
  obtain ⟨w_1, ew_1⟩ : ∃ z : Int64, n.toInt64 = z := ⟨_, rfl⟩
  have tw_1 : w_1.toInt = n.toInt := by rw [← ew_1, Int32.toInt_toInt64]
  refine lv_i2l hx hb dX4_years_1 ew_1 ?_
  refine lv_lconst (v := 1) hx hb dX4_years_2 (by decide) ?_
  refine lv_ldc2 (v := (30)) hx hb hown (hts (.constantLong RX4 210 (30)) (List.mem_of_getElem? (i := 1) rfl)) dX4_years_3 ?_
  refine cS_i (As := [.long w_1, .long 1, .long (30)]) (rest := []) ⟨hx, hb, hml, hown, hts⟩ (c_X4_in l D cI cZ cM w_1 1 (30) _ ) (va_cwS 3 hts gX4_years_X4_in rfl rfl rfl (by decide +kernel) ⟨by rw [hR]; decide, by rw [hR]; decide⟩) hK hP hD hS hA [] [0, 1] rfl rfl (by decide) (by decide) (by decide) hl.1 rfl rfl (Nat.le_of_ble_eq_true rfl) dX4_years_6 ⟨by rw [hR]; decide, by rw [hR]; decide⟩ (fun r_2 u_3 H locs hw hP hD hS => ?_)
  have hP : va_P D vwCl [(h0, .inr (4, [.int 0, .int 0, .ref ywi, .ref yki, .ref yse, .ref yno, .ref yrh, .ref yrw, .ref yrk, .ref yrt, .int yrp, .int yrq, .ref ytx, .int yle, .int yat, .int yfa, .ref yby, .ref ylo, .ref yhi, .int yac, .int ynx, .ref yro, .ref ygl, .int ysn, .ref yso, .ref ysp, .ref ysw, .long ysd, .ref yik, .ref ykp])), (yno, .inl (cI, 96, .inl Fno))] H := hP.sub [0, 1] rfl
  have hD : va_D A [(h0, .inr (4, [.int 0, .int 0, .ref ywi, .ref yki, .ref yse, .ref yno, .ref yrh, .ref yrw, .ref yrk, .ref yrt, .int yrp, .int yrq, .ref ytx, .int yle, .int yat, .int yfa, .ref yby, .ref ylo, .ref yhi, .int yac, .int ynx, .ref yro, .ref ygl, .int ysn, .ref yso, .ref ysp, .ref ysw, .long ysd, .ref yik, .ref ykp])), (yno, .inl (cI, 96, .inl Fno))] := hD.sub [0, 1] (by decide) rfl
  refine W.widen (k := 0) (n := 0) (Nat.le_refl _) (Nat.le_refl _) ?_
  have hw : (r_2.toInt = 1 ∧ (1 : Int) ≤ w_1.toInt ∧ w_1.toInt ≤ (30 : Int)) ∨ (r_2.toInt = 0 ∧ (w_1.toInt < (1 : Int) ∨ (30 : Int) < w_1.toInt)) := hw
  have hw_4 := hw
  refine lv_if_ne (tgt := 15) hx hb dX4_years_9 (by decide) (fun c_5 => ?_) (fun c_5 => ?_)
  · have tc_5 := b_ne rfl (show (0 : Int32).toInt = 0 by decide) c_5
    have hn1 : 1 ≤ n.toInt := by omega
    have hn2 : n.toInt ≤ 30 := by omega
    refine lv_iconst (v := 0) hx hb dX4_years_15 (by decide) ?_
    refine lv_istore_n (lv' := [(2, .int 0), (0, .ref h0), (1, .int n)]) hx hb dX4_years_16 rfl hl (by decide) rfl (fun ls hl => ?_)
    refine lv_iconst (v := 0) hx hb dX4_years_17 (by decide) ?_
    refine lv_istore_n (lv' := [(3, .int 0), (2, .int 0), (0, .ref h0), (1, .int n)]) hx hb dX4_years_18 rfl hl (by decide) rfl (fun ls hl => ?_)
    have LOOP_6 : ∀ (fu : Nat) (w2 : Int32) (x3 : Int32) (ns : Int64) (gn : Nat → Int32) (H : Heap) (locs : List Loc) (ls : Array Slot), (30 - x3.toInt).toNat < fu → (0 ≤ x3.toInt ∧ x3.toInt ≤ 30) → (0 ≤ w2.toInt ∧ w2.toInt ≤ 0) → (0 ≤ (gn 0).toInt ∧ (gn 0).toInt ≤ 10) → va_P D vwCl [(h0, .inr (4, [.int 0, .int 0, .ref ywi, .ref yki, .ref yse, .ref yno, .ref yrh, .ref yrw, .ref yrk, .ref yrt, .int yrp, .int yrq, .ref ytx, .int yle, .int yat, .int yfa, .ref yby, .ref ylo, .ref yhi, .int yac, .int ynx, .ref yro, .ref ygl, .int ysn, .ref yso, .ref ysp, .ref ysw, .long ns, .ref yik, .ref ykp])), (yno, .inl (cI, 96, .inl gn))] H → va_D A [(h0, .inr (4, [.int 0, .int 0, .ref ywi, .ref yki, .ref yse, .ref yno, .ref yrh, .ref yrw, .ref yrk, .ref yrt, .int yrp, .int yrq, .ref ytx, .int yle, .int yat, .int yfa, .ref yby, .ref ylo, .ref yhi, .int yac, .int ynx, .ref yro, .ref ygl, .int ysn, .ref yso, .ref ysp, .ref ysw, .long ns, .ref yik, .ref ykp])), (yno, .inl (cI, 96, .inl gn))] → va_S A s.heap H locs → lv_has ls 4 [(0, .ref h0), (1, .int n), (2, .int w2), (3, .int x3)] → W p l e R s m args below meth c H locs 0 0 Q (F0 m 19 ls []) := by
      intro fu
      induction fu with
      | zero => intro w2 x3 ns gn H locs ls hmu; exact absurd hmu (Nat.not_lt_zero _)
      | succ fu ih =>
        intro w2 x3 ns gn H locs ls hmu h_x3 h_w2 h_g hP hD hS hl
        obtain ⟨h_x3a, h_x3b⟩ := h_x3
        obtain ⟨h_w2a, h_w2b⟩ := h_w2
        obtain ⟨h_ga, h_gb⟩ := h_g
        have ih_7 := ih
        clear ih
        refine lv_iload_n hx hb dX4_years_19 rfl (lv_at hl 3 rfl) ?_
        refine lv_iload_n hx hb dX4_years_20 rfl (lv_at hl 1 rfl) ?_
        refine lv_icmp_ge (tgt := 65) hx hb dX4_years_21 (by decide) (fun c_8 => ?_) (fun c_8 => ?_)
        · have tc_8 := b_le rfl rfl c_8
          refine lv_iload_n hx hb dX4_years_65 rfl (lv_at hl 2 rfl) ?_
          exact ret_i (post := (fun (r : Int32) (u : Int64) => ((n.toInt < 1 ∨ 30 < n.toInt) ∧ r.toInt = -2) ∨ (1 ≤ n.toInt ∧ n.toInt ≤ 30 ∧ r.toInt = 0))) (W1 := (fun u => [(h0, .inr (4, [.int 0, .int 0, .ref ywi, .ref yki, .ref yse, .ref yno, .ref yrh, .ref yrw, .ref yrk, .ref yrt, .int yrp, .int yrq, .ref ytx, .int yle, .int yat, .int yfa, .ref yby, .ref ylo, .ref yhi, .int yac, .int ynx, .ref yro, .ref ygl, .int ysn, .ref yso, .ref ysp, .ref ysw, .long u, .ref yik, .ref ykp]))])) ns hx hb hr hlocks rfl hQ hK (hP.sub [0] rfl) (hD.sub [0] (by decide) rfl) hS ⟨by decide, by decide⟩ dX4_years_66 (show ((n.toInt < 1 ∨ 30 < n.toInt) ∧ w2.toInt = -2) ∨ (1 ≤ n.toInt ∧ n.toInt ≤ 30 ∧ w2.toInt = 0) by omega)
        · have tc_8 := b_nle rfl rfl c_8
          refine lv_aload_n hx hb dX4_years_24 rfl (lv_at hl 0 rfl) ?_
          refine lv_aload_n hx hb dX4_years_25 rfl (lv_at hl 0 rfl) ?_
          refine va_get (D := D) (ci := 4) (v := .long ns) (C := RX4) (T := TX4) (N := 30) hx hb hts iX4 hown hK hP 0 rfl rfl 27 (by decide) (hts (.fieldLink RX4 206 "PunchedTicketModel" "seed" "J") (List.mem_of_getElem? (i := 2) rfl)) (fun _ h9 => h9) rfl dX4_years_26 ?_
          refine lv_ldc2 (v := (6364136223846793005)) hx hb hown (hts (.constantLong RX4 212 (6364136223846793005)) (List.mem_of_getElem? (i := 3) rfl)) dX4_years_29 ?_
          refine lv_lmul hx hb dX4_years_32 ?_
          refine lv_topl (fun w_9 ew_9 => ?_)
          refine lv_ldc2 (v := (1442695040888963407)) hx hb hown (hts (.constantLong RX4 214 (1442695040888963407)) (List.mem_of_getElem? (i := 4) rfl)) dX4_years_33 ?_
          refine lv_ladd hx hb dX4_years_36 ?_
          refine lv_topl (fun w_10 ew_10 => ?_)
          refine va_put (D := D) (ci := 4) (v := .long w_10) (ty := .long) (C := RX4) (T := TX4) (N := 30) hx hb hts iX4 tyX4 tyX4_ok nmX4 hown hK hP hD hS 0 rfl rfl 27 (by decide) (hts (.fieldLink RX4 206 "PunchedTicketModel" "seed" "J") (List.mem_of_getElem? (i := 2) rfl)) (fun _ h9 => h9) rfl (by decide +kernel) rfl rfl (Nat.le_of_ble_eq_true rfl) dX4_years_37 (fun H locs hP hD hS => ?_)
          have hP : va_P D vwCl [(h0, .inr (4, [.int 0, .int 0, .ref ywi, .ref yki, .ref yse, .ref yno, .ref yrh, .ref yrw, .ref yrk, .ref yrt, .int yrp, .int yrq, .ref ytx, .int yle, .int yat, .int yfa, .ref yby, .ref ylo, .ref yhi, .int yac, .int ynx, .ref yro, .ref ygl, .int ysn, .ref yso, .ref ysp, .ref ysw, .long w_10, .ref yik, .ref ykp])), (yno, .inl (cI, 96, .inl gn))] H := hP
          have hD : va_D A [(h0, .inr (4, [.int 0, .int 0, .ref ywi, .ref yki, .ref yse, .ref yno, .ref yrh, .ref yrw, .ref yrk, .ref yrt, .int yrp, .int yrq, .ref ytx, .int yle, .int yat, .int yfa, .ref yby, .ref ylo, .ref yhi, .int yac, .int ynx, .ref yro, .ref ygl, .int ysn, .ref yso, .ref ysp, .ref ysw, .long w_10, .ref yik, .ref ykp])), (yno, .inl (cI, 96, .inl gn))] := hD
          refine lv_iload_n hx hb dX4_years_40 rfl (lv_at hl 2 rfl) ?_
          refine lv_aload_n hx hb dX4_years_41 rfl (lv_at hl 0 rfl) ?_
          refine lv_aload_n hx hb dX4_years_42 rfl (lv_at hl 0 rfl) ?_
          refine va_get (D := D) (ci := 4) (v := .long w_10) (C := RX4) (T := TX4) (N := 30) hx hb hts iX4 hown hK hP 0 rfl rfl 27 (by decide) (hts (.fieldLink RX4 206 "PunchedTicketModel" "seed" "J") (List.mem_of_getElem? (i := 2) rfl)) (fun _ h9 => h9) rfl dX4_years_43 ?_
          refine lv_bipush (v := 33) hx hb dX4_years_46 (by decide) ?_
          obtain ⟨w_11, ew_11⟩ : ∃ z : Int64, (w_10.toUInt64 >>> ((33 : Int32).toInt64.toUInt64 &&& Int64.toUInt64 63)).toInt64 = z := ⟨_, rfl⟩
          refine lv_lushr hx hb dX4_years_48 ew_11 ?_
          refine lv_ldc2 (v := (64)) hx hb hown (hts (.constantLong RX4 216 (64)) (List.mem_of_getElem? (i := 5) rfl)) dX4_years_49 ?_
          refine lv_lrem hx hb dX4_years_52 (by decide) ?_
          refine lv_topl (fun w_12 ew_12 => ?_)
          obtain ⟨v_13, ev_13⟩ : ∃ z : Int32, w_12.toInt32 = z := ⟨_, rfl⟩
          refine lv_l2i hx hb dX4_years_53 ev_13 ?_
          refine cV_i (As := [.int v_13]) (rest := [.int w2]) ⟨hx, hb, hml, hown, hts⟩ (c_X4_gladWithout0 l D cI cZ cM h0 v_13 ywi yki yse yno yrh yrw yrk yrt yrp yrq ytx yle yat yfa yby ylo yhi yac ynx yro ygl ysn yso ysp ysw w_10 yik ykp gn _ (show 0 ≤ (gn 0).toInt ∧ (gn 0).toInt ≤ 10 by omega)) (cwV 1 hts gX4_years_X4_gladWithout rfl rfl rfl (by decide +kernel) ⟨by rw [hR]; decide, by rw [hR]; decide⟩) hK hP hD hS hA [0, 1] [] rfl rfl (by decide) (by decide) (by decide) rfl 0 rfl hl.1 rfl rfl (Nat.le_of_ble_eq_true rfl) dX4_years_54 ⟨by rw [hR]; decide, by rw [hR]; decide⟩ (fun r_15 u_16 H locs hw hP hD hS => ?_)
          obtain ⟨Gno_14, rfl⟩ : ∃ z, z = u_16 := ⟨_, rfl⟩
          have hP : va_P D vwCl [(h0, .inr (4, [.int 0, .int 0, .ref ywi, .ref yki, .ref yse, .ref yno, .ref yrh, .ref yrw, .ref yrk, .ref yrt, .int yrp, .int yrq, .ref ytx, .int yle, .int yat, .int yfa, .ref yby, .ref ylo, .ref yhi, .int yac, .int ynx, .ref yro, .ref ygl, .int ysn, .ref yso, .ref ysp, .ref ysw, .long w_10, .ref yik, .ref ykp])), (yno, .inl (cI, 96, .inl Gno_14))] H := hP.sub [0, 1] rfl
          have hD : va_D A [(h0, .inr (4, [.int 0, .int 0, .ref ywi, .ref yki, .ref yse, .ref yno, .ref yrh, .ref yrw, .ref yrk, .ref yrt, .int yrp, .int yrq, .ref ytx, .int yle, .int yat, .int yfa, .ref yby, .ref ylo, .ref yhi, .int yac, .int ynx, .ref yro, .ref ygl, .int ysn, .ref yso, .ref ysp, .ref ysw, .long w_10, .ref yik, .ref ykp])), (yno, .inl (cI, 96, .inl Gno_14))] := hD.sub [0, 1] (by decide) rfl
          refine W.widen (k := 0) (n := 0) (Nat.le_refl _) (Nat.le_refl _) ?_
          have hw : r_15.toInt = 0 ∧ (0 ≤ (Gno_14 0).toInt ∧ (Gno_14 0).toInt ≤ 10) := hw
          have hw_17 := hw
          obtain ⟨hw_17a, hw_17b, hw_17c⟩ := hw_17
          refine lv_iadd hx hb dX4_years_57 ?_
          refine lv_topi (fun v_18 ev_18 => ?_)
          have tv_18 : v_18.toInt = w2.toInt + r_15.toInt := by rw [ev_18]; exact ti_add (x := w2) (y := r_15) (show -2147483648 ≤ w2.toInt + r_15.toInt by omega) (show w2.toInt + r_15.toInt < 2147483648 by omega)
          refine lv_istore_n (lv' := [(2, .int v_18), (0, .ref h0), (1, .int n), (3, .int x3)]) hx hb dX4_years_58 rfl hl (by decide) rfl (fun ls hl => ?_)
          obtain ⟨v_19, ev_19⟩ : ∃ z : Int32, z = x3 + 1 := ⟨_, rfl⟩
          have tv_19 : v_19.toInt = x3.toInt + 1 := by rw [ev_19]; exact ti_add (x := x3) (y := 1) (show -2147483648 ≤ x3.toInt + 1 by omega) (show x3.toInt + 1 < 2147483648 by omega)
          refine lv_iinc (v := v_19) (lv' := [(3, .int v_19), (2, .int v_18), (0, .ref h0), (1, .int n)]) hx hb dX4_years_59 hl (k := 3) rfl (by rw [ev_19]; rfl) (by decide) rfl (fun ls hl => ?_)
          refine lv_goto (tgt := 19) hx hb dX4_years_62 (by decide) ?_
          exact ih_7 v_18 v_19 w_10 Gno_14 _ _ _ (show (30 - v_19.toInt).toNat < fu by omega) (show 0 ≤ v_19.toInt ∧ v_19.toInt ≤ 30 by omega) (show 0 ≤ v_18.toInt ∧ v_18.toInt ≤ 0 by omega) (show 0 ≤ (Gno_14 0).toInt ∧ (Gno_14 0).toInt ≤ 10 by omega) hP hD hS (lv_sub hl [2, 3, 1, 0] rfl)
    exact LOOP_6 _ 0 0 ysd Fno _ _ _ (Nat.lt_succ_self _) (by decide) (by decide) (show 0 ≤ (Fno 0).toInt ∧ (Fno 0).toInt ≤ 10 by omega) hP hD hS (lv_sub hl [2, 3, 1, 0] rfl)
  · have tc_5 := b_eq rfl (show (0 : Int32).toInt = 0 by decide) c_5
    refine lv_bipush (v := (-2)) hx hb dX4_years_12 (by decide) ?_
    exact ret_i (post := (fun (r : Int32) (u : Int64) => ((n.toInt < 1 ∨ 30 < n.toInt) ∧ r.toInt = -2) ∨ (1 ≤ n.toInt ∧ n.toInt ≤ 30 ∧ r.toInt = 0))) (W1 := (fun u => [(h0, .inr (4, [.int 0, .int 0, .ref ywi, .ref yki, .ref yse, .ref yno, .ref yrh, .ref yrw, .ref yrk, .ref yrt, .int yrp, .int yrq, .ref ytx, .int yle, .int yat, .int yfa, .ref yby, .ref ylo, .ref yhi, .int yac, .int ynx, .ref yro, .ref ygl, .int ysn, .ref yso, .ref ysp, .ref ysw, .long u, .ref yik, .ref ykp]))])) ysd hx hb hr hlocks rfl hQ hK (hP.sub [0] rfl) (hD.sub [0] (by decide) rfl) hS ⟨by decide, by decide⟩ dX4_years_14 (show ((n.toInt < 1 ∨ 30 < n.toInt) ∧ (-2 : Int) = -2) ∨ (1 ≤ n.toInt ∧ n.toInt ≤ 30 ∧ (-2 : Int) = 0) by omega)

set_option maxHeartbeats 600000 in
set_option maxRecDepth 100000 in
theorem c_X4_keepAct0 (l : Launch) (D : va_G) (cI cZ cM : ClassId) (h0 : Nat) (ype : Int32) (ytk : Int32) (ywi : Nat) (yki : Nat) (yse : Nat) (yno : Nat) (yrh : Nat) (yrw : Nat) (yrk : Nat) (yrt : Nat) (yrp : Int32) (yrq : Int32) (ytx : Nat) (yle : Int32) (yat : Int32) (yfa : Int32) (yby : Nat) (ylo : Nat) (yhi : Nat) (yac : Int32) (yro : Nat) (ygl : Nat) (ysn : Int32) (yso : Nat) (ysp : Nat) (ysw : Nat) (ysd : Int64) (yik : Nat) (ykp : Nat) (Fno : Nat → Int32) (Fro : Nat → Int32) (sz : Nat) (h_yac : 0 ≤ yac.toInt ∧ yac.toInt ≤ 14) : Cv l yX4_keepAct wsX4_keepAct ({ frames := 0, cells := 0, slots := 0, locals := 0 } : Room) D cI cZ cM [.ref h0] [(h0, .inr (4, [.int ype, .int ytk, .ref ywi, .ref yki, .ref yse, .ref yno, .ref yrh, .ref yrw, .ref yrk, .ref yrt, .int yrp, .int yrq, .ref ytx, .int yle, .int yat, .int yfa, .ref yby, .ref ylo, .ref yhi, .int yac, .int 0, .ref yro, .ref ygl, .int ysn, .ref yso, .ref ysp, .ref ysw, .long ysd, .ref yik, .ref ykp])), (yno, .inl (cI, 96, .inl Fno)), (yro, .inl (cI, 672, .inl Fro))] sz (fun (u : Int32 × Int32 × (Nat → Int32)) => True) (fun u => [(h0, .inr (4, [.int ype, .int ytk, .ref ywi, .ref yki, .ref yse, .ref yno, .ref yrh, .ref yrw, .ref yrk, .ref yrt, .int yrp, .int yrq, .ref ytx, .int yle, .int yat, .int yfa, .ref yby, .ref ylo, .ref yhi, .int u.1, .int u.2.1, .ref yro, .ref ygl, .int ysn, .ref yso, .ref ysp, .ref ysw, .long ysd, .ref yik, .ref ykp])), (yno, .inl (cI, 96, .inl Fno)), (yro, .inl (cI, 672, .inl u.2.2))]) 0 0 := by
  refine begins (l := l) (y := yX4_keepAct) (ws := wsX4_keepAct) (av := [.ref h0]) (Qc := fun A => va_Qv (fun (u : Int32 × Int32 × (Nat → Int32)) => True) (fun u => Wd D cI cZ cM A ((fun u => [(h0, .inr (4, [.int ype, .int ytk, .ref ywi, .ref yki, .ref yse, .ref yno, .ref yrh, .ref yrw, .ref yrk, .ref yrt, .int yrp, .int yrq, .ref ytx, .int yle, .int yat, .int yfa, .ref yby, .ref ylo, .ref yhi, .int u.1, .int u.2.1, .ref yro, .ref ygl, .int ysn, .ref yso, .ref ysp, .ref ysw, .long ysd, .ref yik, .ref ykp])), (yno, .inl (cI, 96, .inl Fno)), (yro, .inl (cI, 672, .inl u.2.2))]) u)) A) cX4_keepAct 2 none (by decide) rfl (Nat.le_of_ble_eq_true rfl) ?_
  intro p e s m args below meth c R Q A ls hBd hR hQ hA hS hK hP hD hl
  obtain ⟨hx, hb, hr, hts, hown, hlocks, hin, hml⟩ := hBd
  have hl : lv_has ls 2 [(0, .ref h0)] := hl
  have iX4 : ∀ w ∈ wsX40, w ∈ wsX4_keepAct := fun _ h => List.mem_cons_of_mem _ (List.mem_append_right _ h)
  obtain ⟨h_yaca, h_yacb⟩ := h_yac
  refine lv_iconst (v := 0) hx hb dX4_keepAct_0 (by decide) ?_
  refine lv_istore_n (lv' := [(1, .int 0), (0, .ref h0)]) hx hb dX4_keepAct_1 rfl hl (by decide) rfl (fun ls hl => ?_)
  have LOOP_1 : ∀ (fu : Nat) (x1 : Int32) (gr : Nat → Int32) (H : Heap) (locs : List Loc) (ls : Array Slot), (48 - x1.toInt).toNat < fu → (0 ≤ x1.toInt ∧ x1.toInt ≤ 48) → va_P D vwCl [(h0, .inr (4, [.int ype, .int ytk, .ref ywi, .ref yki, .ref yse, .ref yno, .ref yrh, .ref yrw, .ref yrk, .ref yrt, .int yrp, .int yrq, .ref ytx, .int yle, .int yat, .int yfa, .ref yby, .ref ylo, .ref yhi, .int yac, .int 0, .ref yro, .ref ygl, .int ysn, .ref yso, .ref ysp, .ref ysw, .long ysd, .ref yik, .ref ykp])), (yno, .inl (cI, 96, .inl Fno)), (yro, .inl (cI, 672, .inl gr))] H → va_D A [(h0, .inr (4, [.int ype, .int ytk, .ref ywi, .ref yki, .ref yse, .ref yno, .ref yrh, .ref yrw, .ref yrk, .ref yrt, .int yrp, .int yrq, .ref ytx, .int yle, .int yat, .int yfa, .ref yby, .ref ylo, .ref yhi, .int yac, .int 0, .ref yro, .ref ygl, .int ysn, .ref yso, .ref ysp, .ref ysw, .long ysd, .ref yik, .ref ykp])), (yno, .inl (cI, 96, .inl Fno)), (yro, .inl (cI, 672, .inl gr))] → va_S A s.heap H locs → lv_has ls 2 [(0, .ref h0), (1, .int x1)] → W p l e R s m args below meth c H locs 0 0 Q (F0 m 2 ls []) := by
    intro fu
    induction fu with
    | zero => intro x1 gr H locs ls hmu; exact absurd hmu (Nat.not_lt_zero _)
    | succ fu ih =>
      intro x1 gr H locs ls hmu h_x1 hP hD hS hl
      obtain ⟨h_x1a, h_x1b⟩ := h_x1
      have ih_2 := ih
      clear ih
      refine lv_iload_n hx hb dX4_keepAct_2 rfl (lv_at hl 1 rfl) ?_
      refine lv_bipush (v := 48) hx hb dX4_keepAct_3 (by decide) ?_
      refine lv_icmp_ge (tgt := 34) hx hb dX4_keepAct_5 (by decide) (fun c_3 => ?_) (fun c_3 => ?_)
      · have tc_3 := b_le (show (48 : Int32).toInt = 48 by decide) rfl c_3
        refine lv_aload_n hx hb dX4_keepAct_34 rfl (lv_at hl 0 rfl) ?_
        refine lv_aload_n hx hb dX4_keepAct_35 rfl (lv_at hl 0 rfl) ?_
        refine va_get (D := D) (ci := 4) (v := .int 0) (C := RX4) (T := TX4) (N := 30) hx hb hts iX4 hown hK hP 0 rfl rfl 20 (by decide) (hts (.fieldLink RX4 137 "PunchedTicketModel" "next" "I") (List.mem_of_getElem? (i := 2) rfl)) (fun _ h9 => h9) rfl dX4_keepAct_36 ?_
        refine lv_iconst (v := 1) hx hb dX4_keepAct_39 (by decide) ?_
        refine lv_iadd hx hb dX4_keepAct_40 ?_
        refine lv_topc (y := 1) (by decide) ?_
        refine lv_bipush (v := 14) hx hb dX4_keepAct_41 (by decide) ?_
        refine lv_irem hx hb dX4_keepAct_43 (by decide) ?_
        refine lv_topc (y := 1) (by decide) ?_
        refine va_put (D := D) (ci := 4) (v := .int 1) (ty := .int) (C := RX4) (T := TX4) (N := 30) hx hb hts iX4 tyX4 tyX4_ok nmX4 hown hK hP hD hS 0 rfl rfl 20 (by decide) (hts (.fieldLink RX4 137 "PunchedTicketModel" "next" "I") (List.mem_of_getElem? (i := 2) rfl)) (fun _ h9 => h9) rfl (by decide +kernel) rfl rfl (Nat.le_of_ble_eq_true rfl) dX4_keepAct_44 (fun H locs hP hD hS => ?_)
        have hP : va_P D vwCl [(h0, .inr (4, [.int ype, .int ytk, .ref ywi, .ref yki, .ref yse, .ref yno, .ref yrh, .ref yrw, .ref yrk, .ref yrt, .int yrp, .int yrq, .ref ytx, .int yle, .int yat, .int yfa, .ref yby, .ref ylo, .ref yhi, .int yac, .int 1, .ref yro, .ref ygl, .int ysn, .ref yso, .ref ysp, .ref ysw, .long ysd, .ref yik, .ref ykp])), (yno, .inl (cI, 96, .inl Fno)), (yro, .inl (cI, 672, .inl gr))] H := hP
        have hD : va_D A [(h0, .inr (4, [.int ype, .int ytk, .ref ywi, .ref yki, .ref yse, .ref yno, .ref yrh, .ref yrw, .ref yrk, .ref yrt, .int yrp, .int yrq, .ref ytx, .int yle, .int yat, .int yfa, .ref yby, .ref ylo, .ref yhi, .int yac, .int 1, .ref yro, .ref ygl, .int ysn, .ref yso, .ref ysp, .ref ysw, .long ysd, .ref yik, .ref ykp])), (yno, .inl (cI, 96, .inl Fno)), (yro, .inl (cI, 672, .inl gr))] := hD
        refine lv_aload_n hx hb dX4_keepAct_47 rfl (lv_at hl 0 rfl) ?_
        refine lv_aload_n hx hb dX4_keepAct_48 rfl (lv_at hl 0 rfl) ?_
        refine va_get (D := D) (ci := 4) (v := .int yac) (C := RX4) (T := TX4) (N := 30) hx hb hts iX4 hown hK hP 0 rfl rfl 19 (by decide) (hts (.fieldLink RX4 104 "PunchedTicketModel" "acts" "I") (List.mem_of_getElem? (i := 4) rfl)) (fun _ h9 => h9) rfl dX4_keepAct_49 ?_
        refine lv_bipush (v := 14) hx hb dX4_keepAct_52 (by decide) ?_
        refine lv_icmp_ge (tgt := 66) hx hb dX4_keepAct_54 (by decide) (fun c_4 => ?_) (fun c_4 => ?_)
        · have tc_4 := b_le (show (14 : Int32).toInt = 14 by decide) rfl c_4
          refine lv_bipush (v := 14) hx hb dX4_keepAct_66 (by decide) ?_
          refine va_put (D := D) (ci := 4) (v := .int 14) (ty := .int) (C := RX4) (T := TX4) (N := 30) hx hb hts iX4 tyX4 tyX4_ok nmX4 hown hK hP hD hS 0 rfl rfl 19 (by decide) (hts (.fieldLink RX4 104 "PunchedTicketModel" "acts" "I") (List.mem_of_getElem? (i := 4) rfl)) (fun _ h9 => h9) rfl (by decide +kernel) rfl rfl (Nat.le_of_ble_eq_true rfl) dX4_keepAct_68 (fun H locs hP hD hS => ?_)
          have hP : va_P D vwCl [(h0, .inr (4, [.int ype, .int ytk, .ref ywi, .ref yki, .ref yse, .ref yno, .ref yrh, .ref yrw, .ref yrk, .ref yrt, .int yrp, .int yrq, .ref ytx, .int yle, .int yat, .int yfa, .ref yby, .ref ylo, .ref yhi, .int 14, .int 1, .ref yro, .ref ygl, .int ysn, .ref yso, .ref ysp, .ref ysw, .long ysd, .ref yik, .ref ykp])), (yno, .inl (cI, 96, .inl Fno)), (yro, .inl (cI, 672, .inl gr))] H := hP
          have hD : va_D A [(h0, .inr (4, [.int ype, .int ytk, .ref ywi, .ref yki, .ref yse, .ref yno, .ref yrh, .ref yrw, .ref yrk, .ref yrt, .int yrp, .int yrq, .ref ytx, .int yle, .int yat, .int yfa, .ref yby, .ref ylo, .ref yhi, .int 14, .int 1, .ref yro, .ref ygl, .int ysn, .ref yso, .ref ysp, .ref ysw, .long ysd, .ref yik, .ref ykp])), (yno, .inl (cI, 96, .inl Fno)), (yro, .inl (cI, 672, .inl gr))] := hD
          exact ret_v (post := (fun (u : Int32 × Int32 × (Nat → Int32)) => True)) (W1 := (fun u => [(h0, .inr (4, [.int ype, .int ytk, .ref ywi, .ref yki, .ref yse, .ref yno, .ref yrh, .ref yrw, .ref yrk, .ref yrt, .int yrp, .int yrq, .ref ytx, .int yle, .int yat, .int yfa, .ref yby, .ref ylo, .ref yhi, .int u.1, .int u.2.1, .ref yro, .ref ygl, .int ysn, .ref yso, .ref ysp, .ref ysw, .long ysd, .ref yik, .ref ykp])), (yno, .inl (cI, 96, .inl Fno)), (yro, .inl (cI, 672, .inl u.2.2))])) (14, 1, gr) hx hb hr hlocks hQ hK hP hD hS ⟨by decide, by decide⟩ dX4_keepAct_71 trivial
        · have tc_4 := b_nle (show (14 : Int32).toInt = 14 by decide) rfl c_4
          refine lv_aload_n hx hb dX4_keepAct_57 rfl (lv_at hl 0 rfl) ?_
          refine va_get (D := D) (ci := 4) (v := .int yac) (C := RX4) (T := TX4) (N := 30) hx hb hts iX4 hown hK hP 0 rfl rfl 19 (by decide) (hts (.fieldLink RX4 104 "PunchedTicketModel" "acts" "I") (List.mem_of_getElem? (i := 4) rfl)) (fun _ h9 => h9) rfl dX4_keepAct_58 ?_
          refine lv_iconst (v := 1) hx hb dX4_keepAct_61 (by decide) ?_
          refine lv_iadd hx hb dX4_keepAct_62 ?_
          refine lv_topi (fun v_5 ev_5 => ?_)
          have tv_5 : v_5.toInt = yac.toInt + (1 : Int) := by rw [ev_5]; exact ti_add (x := yac) (y := 1) (show -2147483648 ≤ yac.toInt + (1 : Int) by omega) (show yac.toInt + (1 : Int) < 2147483648 by omega)
          refine lv_goto (tgt := 68) hx hb dX4_keepAct_63 (by decide) ?_
          refine va_put (D := D) (ci := 4) (v := .int v_5) (ty := .int) (C := RX4) (T := TX4) (N := 30) hx hb hts iX4 tyX4 tyX4_ok nmX4 hown hK hP hD hS 0 rfl rfl 19 (by decide) (hts (.fieldLink RX4 104 "PunchedTicketModel" "acts" "I") (List.mem_of_getElem? (i := 4) rfl)) (fun _ h9 => h9) rfl (by decide +kernel) rfl rfl (Nat.le_of_ble_eq_true rfl) dX4_keepAct_68 (fun H locs hP hD hS => ?_)
          have hP : va_P D vwCl [(h0, .inr (4, [.int ype, .int ytk, .ref ywi, .ref yki, .ref yse, .ref yno, .ref yrh, .ref yrw, .ref yrk, .ref yrt, .int yrp, .int yrq, .ref ytx, .int yle, .int yat, .int yfa, .ref yby, .ref ylo, .ref yhi, .int v_5, .int 1, .ref yro, .ref ygl, .int ysn, .ref yso, .ref ysp, .ref ysw, .long ysd, .ref yik, .ref ykp])), (yno, .inl (cI, 96, .inl Fno)), (yro, .inl (cI, 672, .inl gr))] H := hP
          have hD : va_D A [(h0, .inr (4, [.int ype, .int ytk, .ref ywi, .ref yki, .ref yse, .ref yno, .ref yrh, .ref yrw, .ref yrk, .ref yrt, .int yrp, .int yrq, .ref ytx, .int yle, .int yat, .int yfa, .ref yby, .ref ylo, .ref yhi, .int v_5, .int 1, .ref yro, .ref ygl, .int ysn, .ref yso, .ref ysp, .ref ysw, .long ysd, .ref yik, .ref ykp])), (yno, .inl (cI, 96, .inl Fno)), (yro, .inl (cI, 672, .inl gr))] := hD
          exact ret_v (post := (fun (u : Int32 × Int32 × (Nat → Int32)) => True)) (W1 := (fun u => [(h0, .inr (4, [.int ype, .int ytk, .ref ywi, .ref yki, .ref yse, .ref yno, .ref yrh, .ref yrw, .ref yrk, .ref yrt, .int yrp, .int yrq, .ref ytx, .int yle, .int yat, .int yfa, .ref yby, .ref ylo, .ref yhi, .int u.1, .int u.2.1, .ref yro, .ref ygl, .int ysn, .ref yso, .ref ysp, .ref ysw, .long ysd, .ref yik, .ref ykp])), (yno, .inl (cI, 96, .inl Fno)), (yro, .inl (cI, 672, .inl u.2.2))])) (v_5, 1, gr) hx hb hr hlocks hQ hK hP hD hS ⟨by decide, by decide⟩ dX4_keepAct_71 trivial
      · have tc_3 := b_nle (show (48 : Int32).toInt = 48 by decide) rfl c_3
        refine lv_aload_n hx hb dX4_keepAct_8 rfl (lv_at hl 0 rfl) ?_
        refine va_get (D := D) (ci := 4) (v := .ref yro) (C := RX4) (T := TX4) (N := 30) hx hb hts iX4 hown hK hP 0 rfl rfl 21 (by decide) (hts (.fieldLink RX4 46 "PunchedTicketModel" "row" "[I") (List.mem_of_getElem? (i := 1) rfl)) (fun _ h9 => h9) rfl dX4_keepAct_9 ?_
        refine lv_bipush (v := 48) hx hb dX4_keepAct_12 (by decide) ?_
        refine lv_aload_n hx hb dX4_keepAct_14 rfl (lv_at hl 0 rfl) ?_
        refine va_get (D := D) (ci := 4) (v := .int 0) (C := RX4) (T := TX4) (N := 30) hx hb hts iX4 hown hK hP 0 rfl rfl 20 (by decide) (hts (.fieldLink RX4 137 "PunchedTicketModel" "next" "I") (List.mem_of_getElem? (i := 2) rfl)) (fun _ h9 => h9) rfl dX4_keepAct_15 ?_
        refine lv_imul hx hb dX4_keepAct_18 ?_
        refine lv_topc (y := 0) (by decide) ?_
        refine lv_iload_n hx hb dX4_keepAct_19 rfl (lv_at hl 1 rfl) ?_
        refine lv_iadd hx hb dX4_keepAct_20 ?_
        refine lv_topi (fun v_6 ev_6 => ?_)
        have tv_6 : v_6.toInt = (0 : Int) + x1.toInt := by rw [ev_6]; exact ti_add (x := 0) (y := x1) (show -2147483648 ≤ (0 : Int) + x1.toInt by omega) (show (0 : Int) + x1.toInt < 2147483648 by omega)
        refine lv_aload_n hx hb dX4_keepAct_21 rfl (lv_at hl 0 rfl) ?_
        refine va_get (D := D) (ci := 4) (v := .ref yno) (C := RX4) (T := TX4) (N := 30) hx hb hts iX4 hown hK hP 0 rfl rfl 5 (by decide) (hts (.fieldLink RX4 19 "PunchedTicketModel" "now" "[I") (List.mem_of_getElem? (i := 3) rfl)) (fun _ h9 => h9) rfl dX4_keepAct_22 ?_
        refine lv_iload_n hx hb dX4_keepAct_25 rfl (lv_at hl 1 rfl) ?_
        refine va_iald hx hb hK hP 1 0 rfl rfl (vp_in_iff.mpr ⟨by omega, by omega⟩) dX4_keepAct_26 ?_
        refine lv_topi (fun v_7 ev_7 => ?_)
        refine va_iast hx hb hK hP hD hS 2 0 rfl rfl (vp_in_iff.mpr ⟨by omega, by omega⟩) dX4_keepAct_27 (fun H locs hP hD hS => ?_)
        obtain ⟨f_8, ef_8⟩ : ∃ g : Nat → Int32, upd gr (v_6 : Int32).toNatClampNeg v_7 = g := ⟨_, rfl⟩
        rw [ef_8] at hP hD
        have hP : va_P D vwCl [(h0, .inr (4, [.int ype, .int ytk, .ref ywi, .ref yki, .ref yse, .ref yno, .ref yrh, .ref yrw, .ref yrk, .ref yrt, .int yrp, .int yrq, .ref ytx, .int yle, .int yat, .int yfa, .ref yby, .ref ylo, .ref yhi, .int yac, .int 0, .ref yro, .ref ygl, .int ysn, .ref yso, .ref ysp, .ref ysw, .long ysd, .ref yik, .ref ykp])), (yno, .inl (cI, 96, .inl Fno)), (yro, .inl (cI, 672, .inl f_8))] H := hP
        have hD : va_D A [(h0, .inr (4, [.int ype, .int ytk, .ref ywi, .ref yki, .ref yse, .ref yno, .ref yrh, .ref yrw, .ref yrk, .ref yrt, .int yrp, .int yrq, .ref ytx, .int yle, .int yat, .int yfa, .ref yby, .ref ylo, .ref yhi, .int yac, .int 0, .ref yro, .ref ygl, .int ysn, .ref yso, .ref ysp, .ref ysw, .long ysd, .ref yik, .ref ykp])), (yno, .inl (cI, 96, .inl Fno)), (yro, .inl (cI, 672, .inl f_8))] := hD
        obtain ⟨v_9, ev_9⟩ : ∃ z : Int32, z = x1 + 1 := ⟨_, rfl⟩
        have tv_9 : v_9.toInt = x1.toInt + 1 := by rw [ev_9]; exact ti_add (x := x1) (y := 1) (show -2147483648 ≤ x1.toInt + 1 by omega) (show x1.toInt + 1 < 2147483648 by omega)
        refine lv_iinc (v := v_9) (lv' := [(1, .int v_9), (0, .ref h0)]) hx hb dX4_keepAct_28 hl (k := 1) rfl (by rw [ev_9]; rfl) (by decide) rfl (fun ls hl => ?_)
        refine lv_goto (tgt := 2) hx hb dX4_keepAct_31 (by decide) ?_
        exact ih_2 v_9 f_8 _ _ _ (show (48 - v_9.toInt).toNat < fu by omega) (show 0 ≤ v_9.toInt ∧ v_9.toInt ≤ 48 by omega) hP hD hS (lv_sub hl [1, 0] rfl)
  exact LOOP_1 _ 0 Fro _ _ _ (Nat.lt_succ_self _) (by decide) hP hD hS (lv_sub hl [1, 0] rfl)

set_option maxHeartbeats 600000 in
set_option maxRecDepth 100000 in
theorem c_X4_day0 (l : Launch) (D : va_G) (cI cZ cM : ClassId) (h0 : Nat) (ytk : Int32) (ywi : Nat) (yki : Nat) (yse : Nat) (yno : Nat) (yrh : Nat) (yrw : Nat) (yrk : Nat) (yrt : Nat) (yrp : Int32) (yrq : Int32) (ytx : Nat) (yle : Int32) (yat : Int32) (yfa : Int32) (yby : Nat) (ylo : Nat) (yhi : Nat) (yac : Int32) (yro : Nat) (ygl : Nat) (ysn : Int32) (yso : Nat) (ysp : Nat) (ysw : Nat) (ysd : Int64) (yik : Nat) (ykp : Nat) (Fno : Nat → Int32) (Fro : Nat → Int32) (sz : Nat) (h_f : (Fno 0).toInt = 0) (h_yac : 0 ≤ yac.toInt ∧ yac.toInt ≤ 14) : Ci l yX4_day wsX4_day ({ frames := 1, cells := 0, slots := 0, locals := 28 } : Room) D cI cZ cM [.ref h0] [(h0, .inr (4, [.int 0, .int ytk, .ref ywi, .ref yki, .ref yse, .ref yno, .ref yrh, .ref yrw, .ref yrk, .ref yrt, .int yrp, .int yrq, .ref ytx, .int yle, .int yat, .int yfa, .ref yby, .ref ylo, .ref yhi, .int yac, .int 0, .ref yro, .ref ygl, .int ysn, .ref yso, .ref ysp, .ref ysw, .long ysd, .ref yik, .ref ykp])), (yno, .inl (cI, 96, .inl Fno)), (yro, .inl (cI, 672, .inl Fro))] sz (fun (r : Int32) (u : Int32 × Int32) => r.toInt = 0) (fun u => [(h0, .inr (4, [.int 0, .int ytk, .ref ywi, .ref yki, .ref yse, .ref yno, .ref yrh, .ref yrw, .ref yrk, .ref yrt, .int yrp, .int yrq, .ref ytx, .int yle, .int yat, .int yfa, .ref yby, .ref ylo, .ref yhi, .int u.1, .int u.2, .ref yro, .ref ygl, .int ysn, .ref yso, .ref ysp, .ref ysw, .long ysd, .ref yik, .ref ykp]))]) 0 0 := by
  refine begins (l := l) (y := yX4_day) (ws := wsX4_day) (av := [.ref h0]) (Qc := fun A => va_Qi (fun (r : Int32) (u : Int32 × Int32) => r.toInt = 0) (fun u => Wd D cI cZ cM A ((fun u => [(h0, .inr (4, [.int 0, .int ytk, .ref ywi, .ref yki, .ref yse, .ref yno, .ref yrh, .ref yrw, .ref yrk, .ref yrt, .int yrp, .int yrq, .ref ytx, .int yle, .int yat, .int yfa, .ref yby, .ref ylo, .ref yhi, .int u.1, .int u.2, .ref yro, .ref ygl, .int ysn, .ref yso, .ref ysp, .ref ysw, .long ysd, .ref yik, .ref ykp]))]) u)) A) cX4_day 1 (some .int) (by decide) rfl (Nat.le_of_ble_eq_true rfl) ?_
  intro p e s m args below meth c R Q A ls hBd hR hQ hA hS hK hP hD hl
  obtain ⟨hx, hb, hr, hts, hown, hlocks, hin, hml⟩ := hBd
  have hl : lv_has ls 1 [(0, .ref h0)] := hl
  have iX4 : ∀ w ∈ wsX40, w ∈ wsX4_day := fun _ h => List.mem_cons_of_mem _ (List.mem_append_right _ h)
  obtain ⟨h_yaca, h_yacb⟩ := h_yac
  refine lv_aload_n hx hb dX4_day_0 rfl (lv_at hl 0 rfl) ?_
  refine va_get (D := D) (ci := 4) (v := .ref yno) (C := RX4) (T := TX4) (N := 30) hx hb hts iX4 hown hK hP 0 rfl rfl 5 (by decide) (hts (.fieldLink RX4 19 "PunchedTicketModel" "now" "[I") (List.mem_of_getElem? (i := 1) rfl)) (fun _ h9 => h9) rfl dX4_day_1 ?_
  refine lv_iconst (v := 0) hx hb dX4_day_4 (by decide) ?_
  refine va_iald hx hb hK hP 1 0 rfl rfl (vp_in_iff.mpr (by decide)) dX4_day_5 ?_
  refine lv_topi (fun v_1 ev_1 => ?_)
  have tv_1 : v_1.toInt = 0 := by rw [ev_1]; exact h_f
  refine lv_bipush (v := 10) hx hb dX4_day_6 (by decide) ?_
  refine lv_icmp_ne (tgt := 14) hx hb dX4_day_8 (by decide) (fun c_2 => ?_) (fun c_2 => ?_)
  · have tc_2 := b_ne rfl (show (10 : Int32).toInt = 10 by decide) c_2
    refine lv_aload_n hx hb dX4_day_14 rfl (lv_at hl 0 rfl) ?_
    refine cV_v (As := []) (rest := []) ⟨hx, hb, hml, hown, hts⟩ (c_X4_keepAct0 l D cI cZ cM h0 0 ytk ywi yki yse yno yrh yrw yrk yrt yrp yrq ytx yle yat yfa yby ylo yhi yac yro ygl ysn yso ysp ysw ysd yik ykp Fno Fro _ (show 0 ≤ yac.toInt ∧ yac.toInt ≤ 14 by omega)) (cwV 0 hts gX4_day_X4_keepAct rfl rfl rfl (by decide +kernel) ⟨by rw [hR]; decide, by rw [hR]; decide⟩) hK hP hD hS hA [0, 1, 2] [] rfl rfl (by decide) (by decide) (by decide) rfl 0 rfl hl.1 rfl rfl (Nat.le_of_ble_eq_true rfl) dX4_day_15 ⟨by rw [hR]; decide, by rw [hR]; decide⟩ (fun u_7 H locs hw hP hD hS => ?_)
    obtain ⟨ac1_3, nx1_4, Gro_5⟩ := u_7
    have hP : va_P D vwCl [(h0, .inr (4, [.int 0, .int ytk, .ref ywi, .ref yki, .ref yse, .ref yno, .ref yrh, .ref yrw, .ref yrk, .ref yrt, .int yrp, .int yrq, .ref ytx, .int yle, .int yat, .int yfa, .ref yby, .ref ylo, .ref yhi, .int ac1_3, .int nx1_4, .ref yro, .ref ygl, .int ysn, .ref yso, .ref ysp, .ref ysw, .long ysd, .ref yik, .ref ykp])), (yno, .inl (cI, 96, .inl Fno)), (yro, .inl (cI, 672, .inl Gro_5))] H := hP.sub [0, 1, 2] rfl
    have hD : va_D A [(h0, .inr (4, [.int 0, .int ytk, .ref ywi, .ref yki, .ref yse, .ref yno, .ref yrh, .ref yrw, .ref yrk, .ref yrt, .int yrp, .int yrq, .ref ytx, .int yle, .int yat, .int yfa, .ref yby, .ref ylo, .ref yhi, .int ac1_3, .int nx1_4, .ref yro, .ref ygl, .int ysn, .ref yso, .ref ysp, .ref ysw, .long ysd, .ref yik, .ref ykp])), (yno, .inl (cI, 96, .inl Fno)), (yro, .inl (cI, 672, .inl Gro_5))] := hD.sub [0, 1, 2] (by decide) rfl
    refine W.widen (k := 0) (n := 0) (Nat.le_refl _) (Nat.le_refl _) ?_
    refine lv_aload_n hx hb dX4_day_18 rfl (lv_at hl 0 rfl) ?_
    refine lv_iconst (v := 0) hx hb dX4_day_19 (by decide) ?_
    refine lv_aload_n hx hb dX4_day_20 rfl (lv_at hl 0 rfl) ?_
    refine va_get (D := D) (ci := 4) (v := .int ytk) (C := RX4) (T := TX4) (N := 30) hx hb hts iX4 hown hK hP 0 rfl rfl 1 (by decide) (hts (.fieldLink RX4 101 "PunchedTicketModel" "tickets" "I") (List.mem_of_getElem? (i := 2) rfl)) (fun _ h9 => h9) rfl dX4_day_21 ?_
    refine cV_i (As := [.int 0, .int ytk]) (rest := []) ⟨hx, hb, hml, hown, hts⟩ (c_X4_pass0 l D cI cZ cM h0 ytk ytk ywi yki yse yno yrh yrw yrk yrt yrp yrq ytx yle yat yfa yby ylo yhi ac1_3 nx1_4 yro ygl ysn yso ysp ysw ysd yik ykp Fno _ (show 0 ≤ (Fno 0).toInt ∧ (Fno 0).toInt ≤ 9 by omega)) (cwV 2 hts gX4_day_X4_pass rfl rfl rfl (by decide +kernel) ⟨by rw [hR]; decide, by rw [hR]; decide⟩) hK hP hD hS hA [0, 1] [2] rfl rfl (by decide) (by decide) (by decide) rfl 0 rfl hl.1 rfl rfl (Nat.le_of_ble_eq_true rfl) dX4_day_24 ⟨by rw [hR]; decide, by rw [hR]; decide⟩ (fun r_9 u_10 H locs hw hP hD hS => ?_)
    obtain ⟨Gno_8, rfl⟩ : ∃ z, z = u_10 := ⟨_, rfl⟩
    have hP : va_P D vwCl [(h0, .inr (4, [.int 0, .int ytk, .ref ywi, .ref yki, .ref yse, .ref yno, .ref yrh, .ref yrw, .ref yrk, .ref yrt, .int yrp, .int yrq, .ref ytx, .int yle, .int yat, .int yfa, .ref yby, .ref ylo, .ref yhi, .int ac1_3, .int nx1_4, .ref yro, .ref ygl, .int ysn, .ref yso, .ref ysp, .ref ysw, .long ysd, .ref yik, .ref ykp])), (yno, .inl (cI, 96, .inl Gno_8)), (yro, .inl (cI, 672, .inl Gro_5))] H := hP.sub [1, 2, 0] rfl
    have hD : va_D A [(h0, .inr (4, [.int 0, .int ytk, .ref ywi, .ref yki, .ref yse, .ref yno, .ref yrh, .ref yrw, .ref yrk, .ref yrt, .int yrp, .int yrq, .ref ytx, .int yle, .int yat, .int yfa, .ref yby, .ref ylo, .ref yhi, .int ac1_3, .int nx1_4, .ref yro, .ref ygl, .int ysn, .ref yso, .ref ysp, .ref ysw, .long ysd, .ref yik, .ref ykp])), (yno, .inl (cI, 96, .inl Gno_8)), (yro, .inl (cI, 672, .inl Gro_5))] := hD.sub [1, 2, 0] (by decide) rfl
    refine W.widen (k := 0) (n := 0) (Nat.le_refl _) (Nat.le_refl _) ?_
    have hw : r_9.toInt = 0 ∧ (Gno_8 0).toInt = (Fno 0).toInt + 1 := hw
    have hw_11 := hw
    obtain ⟨hw_11a, hw_11b⟩ := hw_11
    exact ret_i (post := (fun (r : Int32) (u : Int32 × Int32) => r.toInt = 0)) (W1 := (fun u => [(h0, .inr (4, [.int 0, .int ytk, .ref ywi, .ref yki, .ref yse, .ref yno, .ref yrh, .ref yrw, .ref yrk, .ref yrt, .int yrp, .int yrq, .ref ytx, .int yle, .int yat, .int yfa, .ref yby, .ref ylo, .ref yhi, .int u.1, .int u.2, .ref yro, .ref ygl, .int ysn, .ref yso, .ref ysp, .ref ysw, .long ysd, .ref yik, .ref ykp]))])) (ac1_3, nx1_4) hx hb hr hlocks rfl hQ hK (hP.sub [0] rfl) (hD.sub [0] (by decide) rfl) hS ⟨by decide, by decide⟩ dX4_day_27 (show r_9.toInt = 0 by omega)
  · have tc_2 := b_eq rfl (show (10 : Int32).toInt = 10 by decide) c_2
    exfalso; omega

set_option maxHeartbeats 600000 in
set_option maxRecDepth 100000 in
theorem c_X4_keep0 (l : Launch) (D : va_G) (cI cZ cM : ClassId) (h0 : Nat) (n : Int32) (ype : Int32) (ytk : Int32) (ywi : Nat) (yki : Nat) (yse : Nat) (yno : Nat) (yrh : Nat) (yrw : Nat) (yrk : Nat) (yrt : Nat) (yrp : Int32) (yrq : Int32) (ytx : Nat) (yle : Int32) (yat : Int32) (yfa : Int32) (yby : Nat) (ylo : Nat) (yhi : Nat) (yac : Int32) (ynx : Int32) (yro : Nat) (ygl : Nat) (ysn : Int32) (yso : Nat) (ysp : Nat) (ysw : Nat) (ysd : Int64) (yik : Nat) (ykp : Nat) (Fno : Nat → Int32) (Fkp : Nat → Int32) (Fik : Nat → Int32) (sz : Nat) (h_f : (Fno 0).toInt = 0) : Ci l yX4_keep wsX4_keep ({ frames := 1, cells := 0, slots := 0, locals := 25 } : Room) D cI cZ cM [.ref h0, .int n] [(h0, .inr (4, [.int ype, .int ytk, .ref ywi, .ref yki, .ref yse, .ref yno, .ref yrh, .ref yrw, .ref yrk, .ref yrt, .int yrp, .int yrq, .ref ytx, .int yle, .int yat, .int yfa, .ref yby, .ref ylo, .ref yhi, .int yac, .int ynx, .ref yro, .ref ygl, .int ysn, .ref yso, .ref ysp, .ref ysw, .long ysd, .ref yik, .ref ykp])), (yno, .inl (cI, 96, .inl Fno)), (ykp, .inl (cI, 96, .inl Fkp)), (yik, .inl (cZ, 2, .inl Fik))] sz (fun (r : Int32) (u : Unit) => ((n.toInt < 0 ∨ 2 ≤ n.toInt) ∧ r.toInt = -1) ∨ (0 ≤ n.toInt ∧ n.toInt < 2 ∧ r.toInt = 0)) (fun u => [(h0, .inr (4, [.int ype, .int ytk, .ref ywi, .ref yki, .ref yse, .ref yno, .ref yrh, .ref yrw, .ref yrk, .ref yrt, .int yrp, .int yrq, .ref ytx, .int yle, .int yat, .int yfa, .ref yby, .ref ylo, .ref yhi, .int yac, .int ynx, .ref yro, .ref ygl, .int ysn, .ref yso, .ref ysp, .ref ysw, .long ysd, .ref yik, .ref ykp]))]) 0 0 := by
  refine begins (l := l) (y := yX4_keep) (ws := wsX4_keep) (av := [.ref h0, .int n]) (Qc := fun A => va_Qi (fun (r : Int32) (u : Unit) => ((n.toInt < 0 ∨ 2 ≤ n.toInt) ∧ r.toInt = -1) ∨ (0 ≤ n.toInt ∧ n.toInt < 2 ∧ r.toInt = 0)) (fun u => Wd D cI cZ cM A ((fun u => [(h0, .inr (4, [.int ype, .int ytk, .ref ywi, .ref yki, .ref yse, .ref yno, .ref yrh, .ref yrw, .ref yrk, .ref yrt, .int yrp, .int yrq, .ref ytx, .int yle, .int yat, .int yfa, .ref yby, .ref ylo, .ref yhi, .int yac, .int ynx, .ref yro, .ref ygl, .int ysn, .ref yso, .ref ysp, .ref ysw, .long ysd, .ref yik, .ref ykp]))]) u)) A) cX4_keep 3 (some .int) (by decide) rfl (Nat.le_of_ble_eq_true rfl) ?_
  intro p e s m args below meth c R Q A ls hBd hR hQ hA hS hK hP hD hl
  obtain ⟨hx, hb, hr, hts, hown, hlocks, hin, hml⟩ := hBd
  have hl : lv_has ls 3 [(0, .ref h0), (1, .int n)] := hl
  have iX4 : ∀ w ∈ wsX40, w ∈ wsX4_keep := fun _ h => List.mem_cons_of_mem _ (List.mem_append_right _ h)
  refine lv_iload_n hx hb dX4_keep_0 rfl (lv_at hl 1 rfl) ?_
  obtain ⟨w_1, ew_1⟩ : ∃ z : Int64, n.toInt64 = z := ⟨_, rfl⟩
  have tw_1 : w_1.toInt = n.toInt := by rw [← ew_1, Int32.toInt_toInt64]
  refine lv_i2l hx hb dX4_keep_1 ew_1 ?_
  refine lv_lconst (v := 0) hx hb dX4_keep_2 (by decide) ?_
  refine lv_lconst (v := 1) hx hb dX4_keep_3 (by decide) ?_
  refine cS_i (As := [.long w_1, .long 0, .long 1]) (rest := []) ⟨hx, hb, hml, hown, hts⟩ (c_X4_in l D cI cZ cM w_1 0 1 _ ) (va_cwS 3 hts gX4_keep_X4_in rfl rfl rfl (by decide +kernel) ⟨by rw [hR]; decide, by rw [hR]; decide⟩) hK hP hD hS hA [] [0, 1, 2, 3] rfl rfl (by decide) (by decide) (by decide) hl.1 rfl rfl (Nat.le_of_ble_eq_true rfl) dX4_keep_4 ⟨by rw [hR]; decide, by rw [hR]; decide⟩ (fun r_2 u_3 H locs hw hP hD hS => ?_)
  have hP : va_P D vwCl [(h0, .inr (4, [.int ype, .int ytk, .ref ywi, .ref yki, .ref yse, .ref yno, .ref yrh, .ref yrw, .ref yrk, .ref yrt, .int yrp, .int yrq, .ref ytx, .int yle, .int yat, .int yfa, .ref yby, .ref ylo, .ref yhi, .int yac, .int ynx, .ref yro, .ref ygl, .int ysn, .ref yso, .ref ysp, .ref ysw, .long ysd, .ref yik, .ref ykp])), (yno, .inl (cI, 96, .inl Fno)), (ykp, .inl (cI, 96, .inl Fkp)), (yik, .inl (cZ, 2, .inl Fik))] H := hP.sub [0, 1, 2, 3] rfl
  have hD : va_D A [(h0, .inr (4, [.int ype, .int ytk, .ref ywi, .ref yki, .ref yse, .ref yno, .ref yrh, .ref yrw, .ref yrk, .ref yrt, .int yrp, .int yrq, .ref ytx, .int yle, .int yat, .int yfa, .ref yby, .ref ylo, .ref yhi, .int yac, .int ynx, .ref yro, .ref ygl, .int ysn, .ref yso, .ref ysp, .ref ysw, .long ysd, .ref yik, .ref ykp])), (yno, .inl (cI, 96, .inl Fno)), (ykp, .inl (cI, 96, .inl Fkp)), (yik, .inl (cZ, 2, .inl Fik))] := hD.sub [0, 1, 2, 3] (by decide) rfl
  refine W.widen (k := 0) (n := 0) (Nat.le_refl _) (Nat.le_refl _) ?_
  have hw : (r_2.toInt = 1 ∧ (0 : Int) ≤ w_1.toInt ∧ w_1.toInt ≤ (1 : Int)) ∨ (r_2.toInt = 0 ∧ (w_1.toInt < (0 : Int) ∨ (1 : Int) < w_1.toInt)) := hw
  have hw_4 := hw
  refine lv_if_ne (tgt := 12) hx hb dX4_keep_7 (by decide) (fun c_5 => ?_) (fun c_5 => ?_)
  · have tc_5 := b_ne rfl (show (0 : Int32).toInt = 0 by decide) c_5
    have hn1 : 0 ≤ n.toInt := by omega
    have hn2 : n.toInt ≤ 1 := by omega
    refine lv_aload_n hx hb dX4_keep_12 rfl (lv_at hl 0 rfl) ?_
    refine va_get (D := D) (ci := 4) (v := .ref yik) (C := RX4) (T := TX4) (N := 30) hx hb hts iX4 hown hK hP 0 rfl rfl 28 (by decide) (hts (.fieldLink RX4 61 "PunchedTicketModel" "isKept" "[Z") (List.mem_of_getElem? (i := 1) rfl)) (fun _ h9 => h9) rfl dX4_keep_13 ?_
    refine lv_iload_n hx hb dX4_keep_16 rfl (lv_at hl 1 rfl) ?_
    refine lv_iconst (v := 1) hx hb dX4_keep_17 (by decide) ?_
    refine va_zast hx hb hK hP hD hS 3 1 rfl rfl (vp_in_iff.mpr ⟨by omega, by omega⟩) dX4_keep_18 (fun H locs hP hD hS => ?_)
    obtain ⟨f_6, ef_6⟩ : ∃ g : Nat → Int32, upd Fik (n : Int32).toNatClampNeg (vp_nar .boolean 1) = g := ⟨_, rfl⟩
    rw [ef_6] at hP hD
    have hP : va_P D vwCl [(h0, .inr (4, [.int ype, .int ytk, .ref ywi, .ref yki, .ref yse, .ref yno, .ref yrh, .ref yrw, .ref yrk, .ref yrt, .int yrp, .int yrq, .ref ytx, .int yle, .int yat, .int yfa, .ref yby, .ref ylo, .ref yhi, .int yac, .int ynx, .ref yro, .ref ygl, .int ysn, .ref yso, .ref ysp, .ref ysw, .long ysd, .ref yik, .ref ykp])), (yno, .inl (cI, 96, .inl Fno)), (ykp, .inl (cI, 96, .inl Fkp)), (yik, .inl (cZ, 2, .inl f_6))] H := hP
    have hD : va_D A [(h0, .inr (4, [.int ype, .int ytk, .ref ywi, .ref yki, .ref yse, .ref yno, .ref yrh, .ref yrw, .ref yrk, .ref yrt, .int yrp, .int yrq, .ref ytx, .int yle, .int yat, .int yfa, .ref yby, .ref ylo, .ref yhi, .int yac, .int ynx, .ref yro, .ref ygl, .int ysn, .ref yso, .ref ysp, .ref ysw, .long ysd, .ref yik, .ref ykp])), (yno, .inl (cI, 96, .inl Fno)), (ykp, .inl (cI, 96, .inl Fkp)), (yik, .inl (cZ, 2, .inl f_6))] := hD
    refine lv_iconst (v := 0) hx hb dX4_keep_19 (by decide) ?_
    refine lv_istore_n (lv' := [(2, .int 0), (0, .ref h0), (1, .int n)]) hx hb dX4_keep_20 rfl hl (by decide) rfl (fun ls hl => ?_)
    have LOOP_7 : ∀ (fu : Nat) (x2 : Int32) (gk : Nat → Int32) (H : Heap) (locs : List Loc) (ls : Array Slot), (48 - x2.toInt).toNat < fu → (0 ≤ x2.toInt ∧ x2.toInt ≤ 48) → va_P D vwCl [(h0, .inr (4, [.int ype, .int ytk, .ref ywi, .ref yki, .ref yse, .ref yno, .ref yrh, .ref yrw, .ref yrk, .ref yrt, .int yrp, .int yrq, .ref ytx, .int yle, .int yat, .int yfa, .ref yby, .ref ylo, .ref yhi, .int yac, .int ynx, .ref yro, .ref ygl, .int ysn, .ref yso, .ref ysp, .ref ysw, .long ysd, .ref yik, .ref ykp])), (yno, .inl (cI, 96, .inl Fno)), (ykp, .inl (cI, 96, .inl gk)), (yik, .inl (cZ, 2, .inl f_6))] H → va_D A [(h0, .inr (4, [.int ype, .int ytk, .ref ywi, .ref yki, .ref yse, .ref yno, .ref yrh, .ref yrw, .ref yrk, .ref yrt, .int yrp, .int yrq, .ref ytx, .int yle, .int yat, .int yfa, .ref yby, .ref ylo, .ref yhi, .int yac, .int ynx, .ref yro, .ref ygl, .int ysn, .ref yso, .ref ysp, .ref ysw, .long ysd, .ref yik, .ref ykp])), (yno, .inl (cI, 96, .inl Fno)), (ykp, .inl (cI, 96, .inl gk)), (yik, .inl (cZ, 2, .inl f_6))] → va_S A s.heap H locs → lv_has ls 3 [(0, .ref h0), (1, .int n), (2, .int x2)] → W p l e R s m args below meth c H locs 0 0 Q (F0 m 21 ls []) := by
      intro fu
      induction fu with
      | zero => intro x2 gk H locs ls hmu; exact absurd hmu (Nat.not_lt_zero _)
      | succ fu ih =>
        intro x2 gk H locs ls hmu h_x2 hP hD hS hl
        obtain ⟨h_x2a, h_x2b⟩ := h_x2
        have ih_8 := ih
        clear ih
        refine lv_iload_n hx hb dX4_keep_21 rfl (lv_at hl 2 rfl) ?_
        refine lv_bipush (v := 48) hx hb dX4_keep_22 (by decide) ?_
        refine lv_icmp_ge (tgt := 50) hx hb dX4_keep_24 (by decide) (fun c_9 => ?_) (fun c_9 => ?_)
        · have tc_9 := b_le (show (48 : Int32).toInt = 48 by decide) rfl c_9
          refine lv_aload_n hx hb dX4_keep_50 rfl (lv_at hl 0 rfl) ?_
          refine va_get (D := D) (ci := 4) (v := .ref yno) (C := RX4) (T := TX4) (N := 30) hx hb hts iX4 hown hK hP 0 rfl rfl 5 (by decide) (hts (.fieldLink RX4 19 "PunchedTicketModel" "now" "[I") (List.mem_of_getElem? (i := 3) rfl)) (fun _ h9 => h9) rfl dX4_keep_51 ?_
          refine lv_iconst (v := 0) hx hb dX4_keep_54 (by decide) ?_
          refine va_iald hx hb hK hP 1 0 rfl rfl (vp_in_iff.mpr (by decide)) dX4_keep_55 ?_
          refine lv_topi (fun v_10 ev_10 => ?_)
          have tv_10 : v_10.toInt = 0 := by rw [ev_10]; exact h_f
          exact ret_i (post := (fun (r : Int32) (u : Unit) => ((n.toInt < 0 ∨ 2 ≤ n.toInt) ∧ r.toInt = -1) ∨ (0 ≤ n.toInt ∧ n.toInt < 2 ∧ r.toInt = 0))) (W1 := (fun u => [(h0, .inr (4, [.int ype, .int ytk, .ref ywi, .ref yki, .ref yse, .ref yno, .ref yrh, .ref yrw, .ref yrk, .ref yrt, .int yrp, .int yrq, .ref ytx, .int yle, .int yat, .int yfa, .ref yby, .ref ylo, .ref yhi, .int yac, .int ynx, .ref yro, .ref ygl, .int ysn, .ref yso, .ref ysp, .ref ysw, .long ysd, .ref yik, .ref ykp]))])) () hx hb hr hlocks rfl hQ hK (hP.sub [0] rfl) (hD.sub [0] (by decide) rfl) hS ⟨by decide, by decide⟩ dX4_keep_56 (show ((n.toInt < 0 ∨ 2 ≤ n.toInt) ∧ v_10.toInt = -1) ∨ (0 ≤ n.toInt ∧ n.toInt < 2 ∧ v_10.toInt = 0) by omega)
        · have tc_9 := b_nle (show (48 : Int32).toInt = 48 by decide) rfl c_9
          refine lv_aload_n hx hb dX4_keep_27 rfl (lv_at hl 0 rfl) ?_
          refine va_get (D := D) (ci := 4) (v := .ref ykp) (C := RX4) (T := TX4) (N := 30) hx hb hts iX4 hown hK hP 0 rfl rfl 29 (by decide) (hts (.fieldLink RX4 65 "PunchedTicketModel" "kept" "[I") (List.mem_of_getElem? (i := 2) rfl)) (fun _ h9 => h9) rfl dX4_keep_28 ?_
          refine lv_bipush (v := 48) hx hb dX4_keep_31 (by decide) ?_
          refine lv_iload_n hx hb dX4_keep_33 rfl (lv_at hl 1 rfl) ?_
          refine lv_imul hx hb dX4_keep_34 ?_
          refine lv_topi (fun v_11 ev_11 => ?_)
          have tv_11 : v_11.toInt = (48 : Int) * n.toInt := by rw [ev_11]; exact ti_mul (x := 48) (y := n) (show -2147483648 ≤ (48 : Int) * n.toInt by omega) (show (48 : Int) * n.toInt < 2147483648 by omega)
          refine lv_iload_n hx hb dX4_keep_35 rfl (lv_at hl 2 rfl) ?_
          refine lv_iadd hx hb dX4_keep_36 ?_
          refine lv_topi (fun v_12 ev_12 => ?_)
          have tv_12 : v_12.toInt = v_11.toInt + x2.toInt := by rw [ev_12]; exact ti_add (x := v_11) (y := x2) (show -2147483648 ≤ v_11.toInt + x2.toInt by omega) (show v_11.toInt + x2.toInt < 2147483648 by omega)
          refine lv_aload_n hx hb dX4_keep_37 rfl (lv_at hl 0 rfl) ?_
          refine va_get (D := D) (ci := 4) (v := .ref yno) (C := RX4) (T := TX4) (N := 30) hx hb hts iX4 hown hK hP 0 rfl rfl 5 (by decide) (hts (.fieldLink RX4 19 "PunchedTicketModel" "now" "[I") (List.mem_of_getElem? (i := 3) rfl)) (fun _ h9 => h9) rfl dX4_keep_38 ?_
          refine lv_iload_n hx hb dX4_keep_41 rfl (lv_at hl 2 rfl) ?_
          refine va_iald hx hb hK hP 1 0 rfl rfl (vp_in_iff.mpr ⟨by omega, by omega⟩) dX4_keep_42 ?_
          refine lv_topi (fun v_13 ev_13 => ?_)
          refine va_iast hx hb hK hP hD hS 2 0 rfl rfl (vp_in_iff.mpr ⟨by omega, by omega⟩) dX4_keep_43 (fun H locs hP hD hS => ?_)
          obtain ⟨f_14, ef_14⟩ : ∃ g : Nat → Int32, upd gk (v_12 : Int32).toNatClampNeg v_13 = g := ⟨_, rfl⟩
          rw [ef_14] at hP hD
          have hP : va_P D vwCl [(h0, .inr (4, [.int ype, .int ytk, .ref ywi, .ref yki, .ref yse, .ref yno, .ref yrh, .ref yrw, .ref yrk, .ref yrt, .int yrp, .int yrq, .ref ytx, .int yle, .int yat, .int yfa, .ref yby, .ref ylo, .ref yhi, .int yac, .int ynx, .ref yro, .ref ygl, .int ysn, .ref yso, .ref ysp, .ref ysw, .long ysd, .ref yik, .ref ykp])), (yno, .inl (cI, 96, .inl Fno)), (ykp, .inl (cI, 96, .inl f_14)), (yik, .inl (cZ, 2, .inl f_6))] H := hP
          have hD : va_D A [(h0, .inr (4, [.int ype, .int ytk, .ref ywi, .ref yki, .ref yse, .ref yno, .ref yrh, .ref yrw, .ref yrk, .ref yrt, .int yrp, .int yrq, .ref ytx, .int yle, .int yat, .int yfa, .ref yby, .ref ylo, .ref yhi, .int yac, .int ynx, .ref yro, .ref ygl, .int ysn, .ref yso, .ref ysp, .ref ysw, .long ysd, .ref yik, .ref ykp])), (yno, .inl (cI, 96, .inl Fno)), (ykp, .inl (cI, 96, .inl f_14)), (yik, .inl (cZ, 2, .inl f_6))] := hD
          obtain ⟨v_15, ev_15⟩ : ∃ z : Int32, z = x2 + 1 := ⟨_, rfl⟩
          have tv_15 : v_15.toInt = x2.toInt + 1 := by rw [ev_15]; exact ti_add (x := x2) (y := 1) (show -2147483648 ≤ x2.toInt + 1 by omega) (show x2.toInt + 1 < 2147483648 by omega)
          refine lv_iinc (v := v_15) (lv' := [(2, .int v_15), (0, .ref h0), (1, .int n)]) hx hb dX4_keep_44 hl (k := 2) rfl (by rw [ev_15]; rfl) (by decide) rfl (fun ls hl => ?_)
          refine lv_goto (tgt := 21) hx hb dX4_keep_47 (by decide) ?_
          exact ih_8 v_15 f_14 _ _ _ (show (48 - v_15.toInt).toNat < fu by omega) (show 0 ≤ v_15.toInt ∧ v_15.toInt ≤ 48 by omega) hP hD hS (lv_sub hl [1, 2, 0] rfl)
    exact LOOP_7 _ 0 Fkp _ _ _ (Nat.lt_succ_self _) (by decide) hP hD hS (lv_sub hl [1, 2, 0] rfl)
  · have tc_5 := b_eq rfl (show (0 : Int32).toInt = 0 by decide) c_5
    refine lv_iconst (v := (-1)) hx hb dX4_keep_10 (by decide) ?_
    exact ret_i (post := (fun (r : Int32) (u : Unit) => ((n.toInt < 0 ∨ 2 ≤ n.toInt) ∧ r.toInt = -1) ∨ (0 ≤ n.toInt ∧ n.toInt < 2 ∧ r.toInt = 0))) (W1 := (fun u => [(h0, .inr (4, [.int ype, .int ytk, .ref ywi, .ref yki, .ref yse, .ref yno, .ref yrh, .ref yrw, .ref yrk, .ref yrt, .int yrp, .int yrq, .ref ytx, .int yle, .int yat, .int yfa, .ref yby, .ref ylo, .ref yhi, .int yac, .int ynx, .ref yro, .ref ygl, .int ysn, .ref yso, .ref ysp, .ref ysw, .long ysd, .ref yik, .ref ykp]))])) () hx hb hr hlocks rfl hQ hK (hP.sub [0] rfl) (hD.sub [0] (by decide) rfl) hS ⟨by decide, by decide⟩ dX4_keep_11 (show ((n.toInt < 0 ∨ 2 ≤ n.toInt) ∧ (-1 : Int) = -1) ∨ (0 ≤ n.toInt ∧ n.toInt < 2 ∧ (-1 : Int) = 0) by omega)

set_option maxHeartbeats 600000 in
set_option maxRecDepth 100000 in
theorem c_X4_again0 (l : Launch) (D : va_G) (cI cZ cM : ClassId) (h0 : Nat) (n : Int32) (ype : Int32) (ytk : Int32) (ywi : Nat) (yki : Nat) (yse : Nat) (yno : Nat) (yrh : Nat) (yrw : Nat) (yrk : Nat) (yrt : Nat) (yrp : Int32) (yrq : Int32) (ytx : Nat) (yle : Int32) (yat : Int32) (yfa : Int32) (yby : Nat) (ylo : Nat) (yhi : Nat) (yac : Int32) (ynx : Int32) (yro : Nat) (ygl : Nat) (ysn : Int32) (yso : Nat) (ysp : Nat) (ysw : Nat) (ysd : Int64) (yik : Nat) (ykp : Nat) (sz : Nat)  : Ci l yX4_again wsX4_again ({ frames := 1, cells := 0, slots := 0, locals := 25 } : Room) D cI cZ cM [.ref h0, .int n] [(h0, .inr (4, [.int ype, .int ytk, .ref ywi, .ref yki, .ref yse, .ref yno, .ref yrh, .ref yrw, .ref yrk, .ref yrt, .int yrp, .int yrq, .ref ytx, .int yle, .int yat, .int yfa, .ref yby, .ref ylo, .ref yhi, .int yac, .int ynx, .ref yro, .ref ygl, .int ysn, .ref yso, .ref ysp, .ref ysw, .long ysd, .ref yik, .ref ykp])), (yik, .inl (cZ, 2, .inl (fun _ => 0)))] sz (fun (r : Int32) (u : Unit) => ((n.toInt < 0 ∨ 2 ≤ n.toInt) ∧ r.toInt = -1) ∨ (0 ≤ n.toInt ∧ n.toInt < 2 ∧ r.toInt = -3)) (fun u => [(h0, .inr (4, [.int ype, .int ytk, .ref ywi, .ref yki, .ref yse, .ref yno, .ref yrh, .ref yrw, .ref yrk, .ref yrt, .int yrp, .int yrq, .ref ytx, .int yle, .int yat, .int yfa, .ref yby, .ref ylo, .ref yhi, .int yac, .int ynx, .ref yro, .ref ygl, .int ysn, .ref yso, .ref ysp, .ref ysw, .long ysd, .ref yik, .ref ykp]))]) 0 0 := by
  refine begins (l := l) (y := yX4_again) (ws := wsX4_again) (av := [.ref h0, .int n]) (Qc := fun A => va_Qi (fun (r : Int32) (u : Unit) => ((n.toInt < 0 ∨ 2 ≤ n.toInt) ∧ r.toInt = -1) ∨ (0 ≤ n.toInt ∧ n.toInt < 2 ∧ r.toInt = -3)) (fun u => Wd D cI cZ cM A ((fun u => [(h0, .inr (4, [.int ype, .int ytk, .ref ywi, .ref yki, .ref yse, .ref yno, .ref yrh, .ref yrw, .ref yrk, .ref yrt, .int yrp, .int yrq, .ref ytx, .int yle, .int yat, .int yfa, .ref yby, .ref ylo, .ref yhi, .int yac, .int ynx, .ref yro, .ref ygl, .int ysn, .ref yso, .ref ysp, .ref ysw, .long ysd, .ref yik, .ref ykp]))]) u)) A) cX4_again 3 (some .int) (by decide) rfl (Nat.le_of_ble_eq_true rfl) ?_
  intro p e s m args below meth c R Q A ls hBd hR hQ hA hS hK hP hD hl
  obtain ⟨hx, hb, hr, hts, hown, hlocks, hin, hml⟩ := hBd
  have hl : lv_has ls 3 [(0, .ref h0), (1, .int n)] := hl
  have iX4 : ∀ w ∈ wsX40, w ∈ wsX4_again := fun _ h => List.mem_cons_of_mem _ (List.mem_append_right _ h)
  refine lv_iload_n hx hb dX4_again_0 rfl (lv_at hl 1 rfl) ?_
  obtain ⟨w_1, ew_1⟩ : ∃ z : Int64, n.toInt64 = z := ⟨_, rfl⟩
  have tw_1 : w_1.toInt = n.toInt := by rw [← ew_1, Int32.toInt_toInt64]
  refine lv_i2l hx hb dX4_again_1 ew_1 ?_
  refine lv_lconst (v := 0) hx hb dX4_again_2 (by decide) ?_
  refine lv_lconst (v := 1) hx hb dX4_again_3 (by decide) ?_
  refine cS_i (As := [.long w_1, .long 0, .long 1]) (rest := []) ⟨hx, hb, hml, hown, hts⟩ (c_X4_in l D cI cZ cM w_1 0 1 _ ) (va_cwS 3 hts gX4_again_X4_in rfl rfl rfl (by decide +kernel) ⟨by rw [hR]; decide, by rw [hR]; decide⟩) hK hP hD hS hA [] [0, 1] rfl rfl (by decide) (by decide) (by decide) hl.1 rfl rfl (Nat.le_of_ble_eq_true rfl) dX4_again_4 ⟨by rw [hR]; decide, by rw [hR]; decide⟩ (fun r_2 u_3 H locs hw hP hD hS => ?_)
  have hP : va_P D vwCl [(h0, .inr (4, [.int ype, .int ytk, .ref ywi, .ref yki, .ref yse, .ref yno, .ref yrh, .ref yrw, .ref yrk, .ref yrt, .int yrp, .int yrq, .ref ytx, .int yle, .int yat, .int yfa, .ref yby, .ref ylo, .ref yhi, .int yac, .int ynx, .ref yro, .ref ygl, .int ysn, .ref yso, .ref ysp, .ref ysw, .long ysd, .ref yik, .ref ykp])), (yik, .inl (cZ, 2, .inl (fun _ => 0)))] H := hP.sub [0, 1] rfl
  have hD : va_D A [(h0, .inr (4, [.int ype, .int ytk, .ref ywi, .ref yki, .ref yse, .ref yno, .ref yrh, .ref yrw, .ref yrk, .ref yrt, .int yrp, .int yrq, .ref ytx, .int yle, .int yat, .int yfa, .ref yby, .ref ylo, .ref yhi, .int yac, .int ynx, .ref yro, .ref ygl, .int ysn, .ref yso, .ref ysp, .ref ysw, .long ysd, .ref yik, .ref ykp])), (yik, .inl (cZ, 2, .inl (fun _ => 0)))] := hD.sub [0, 1] (by decide) rfl
  refine W.widen (k := 0) (n := 0) (Nat.le_refl _) (Nat.le_refl _) ?_
  have hw : (r_2.toInt = 1 ∧ (0 : Int) ≤ w_1.toInt ∧ w_1.toInt ≤ (1 : Int)) ∨ (r_2.toInt = 0 ∧ (w_1.toInt < (0 : Int) ∨ (1 : Int) < w_1.toInt)) := hw
  have hw_4 := hw
  refine lv_if_ne (tgt := 12) hx hb dX4_again_7 (by decide) (fun c_5 => ?_) (fun c_5 => ?_)
  · have tc_5 := b_ne rfl (show (0 : Int32).toInt = 0 by decide) c_5
    have hn1 : 0 ≤ n.toInt := by omega
    have hn2 : n.toInt ≤ 1 := by omega
    refine lv_aload_n hx hb dX4_again_12 rfl (lv_at hl 0 rfl) ?_
    refine va_get (D := D) (ci := 4) (v := .ref yik) (C := RX4) (T := TX4) (N := 30) hx hb hts iX4 hown hK hP 0 rfl rfl 28 (by decide) (hts (.fieldLink RX4 61 "PunchedTicketModel" "isKept" "[Z") (List.mem_of_getElem? (i := 1) rfl)) (fun _ h9 => h9) rfl dX4_again_13 ?_
    refine lv_iload_n hx hb dX4_again_16 rfl (lv_at hl 1 rfl) ?_
    refine va_zald hx hb hK hP 1 1 rfl rfl (vp_in_iff.mpr ⟨by omega, by omega⟩) dX4_again_17 ?_
    refine lv_topi (fun v_6 ev_6 => ?_)
    have tv_6 : v_6.toInt = 0 := by rw [ev_6]; rfl
    refine lv_if_ne (tgt := 24) hx hb dX4_again_18 (by decide) (fun c_7 => ?_) (fun c_7 => ?_)
    · have tc_7 := b_ne rfl (show (0 : Int32).toInt = 0 by decide) c_7
      exfalso; omega
    · have tc_7 := b_eq rfl (show (0 : Int32).toInt = 0 by decide) c_7
      refine lv_bipush (v := (-3)) hx hb dX4_again_21 (by decide) ?_
      exact ret_i (post := (fun (r : Int32) (u : Unit) => ((n.toInt < 0 ∨ 2 ≤ n.toInt) ∧ r.toInt = -1) ∨ (0 ≤ n.toInt ∧ n.toInt < 2 ∧ r.toInt = -3))) (W1 := (fun u => [(h0, .inr (4, [.int ype, .int ytk, .ref ywi, .ref yki, .ref yse, .ref yno, .ref yrh, .ref yrw, .ref yrk, .ref yrt, .int yrp, .int yrq, .ref ytx, .int yle, .int yat, .int yfa, .ref yby, .ref ylo, .ref yhi, .int yac, .int ynx, .ref yro, .ref ygl, .int ysn, .ref yso, .ref ysp, .ref ysw, .long ysd, .ref yik, .ref ykp]))])) () hx hb hr hlocks rfl hQ hK (hP.sub [0] rfl) (hD.sub [0] (by decide) rfl) hS ⟨by decide, by decide⟩ dX4_again_23 (show ((n.toInt < 0 ∨ 2 ≤ n.toInt) ∧ (-3 : Int) = -1) ∨ (0 ≤ n.toInt ∧ n.toInt < 2 ∧ (-3 : Int) = -3) by omega)
  · have tc_5 := b_eq rfl (show (0 : Int32).toInt = 0 by decide) c_5
    refine lv_iconst (v := (-1)) hx hb dX4_again_10 (by decide) ?_
    exact ret_i (post := (fun (r : Int32) (u : Unit) => ((n.toInt < 0 ∨ 2 ≤ n.toInt) ∧ r.toInt = -1) ∨ (0 ≤ n.toInt ∧ n.toInt < 2 ∧ r.toInt = -3))) (W1 := (fun u => [(h0, .inr (4, [.int ype, .int ytk, .ref ywi, .ref yki, .ref yse, .ref yno, .ref yrh, .ref yrw, .ref yrk, .ref yrt, .int yrp, .int yrq, .ref ytx, .int yle, .int yat, .int yfa, .ref yby, .ref ylo, .ref yhi, .int yac, .int ynx, .ref yro, .ref ygl, .int ysn, .ref yso, .ref ysp, .ref ysw, .long ysd, .ref yik, .ref ykp]))])) () hx hb hr hlocks rfl hQ hK (hP.sub [0] rfl) (hD.sub [0] (by decide) rfl) hS ⟨by decide, by decide⟩ dX4_again_11 (show ((n.toInt < 0 ∨ 2 ≤ n.toInt) ∧ (-1 : Int) = -1) ∨ (0 ≤ n.toInt ∧ n.toInt < 2 ∧ (-1 : Int) = -3) by omega)

set_option maxHeartbeats 600000 in
set_option maxRecDepth 100000 in
theorem c_X4_goneNow0 (l : Launch) (D : va_G) (cI cZ cM : ClassId) (h0 : Nat) (ype : Int32) (ywi : Nat) (yki : Nat) (yse : Nat) (yno : Nat) (yrh : Nat) (yrw : Nat) (yrk : Nat) (yrt : Nat) (yrp : Int32) (yrq : Int32) (ytx : Nat) (yle : Int32) (yat : Int32) (yfa : Int32) (yby : Nat) (ylo : Nat) (yhi : Nat) (yac : Int32) (ynx : Int32) (yro : Nat) (ygl : Nat) (ysn : Int32) (yso : Nat) (ysp : Nat) (ysw : Nat) (ysd : Int64) (yik : Nat) (ykp : Nat) (sz : Nat)  : Ci l yX4_goneNow wsX4_goneNow ({ frames := 0, cells := 0, slots := 0, locals := 0 } : Room) D cI cZ cM [.ref h0] [(h0, .inr (4, [.int ype, .int 0, .ref ywi, .ref yki, .ref yse, .ref yno, .ref yrh, .ref yrw, .ref yrk, .ref yrt, .int yrp, .int yrq, .ref ytx, .int yle, .int yat, .int yfa, .ref yby, .ref ylo, .ref yhi, .int yac, .int ynx, .ref yro, .ref ygl, .int ysn, .ref yso, .ref ysp, .ref ysw, .long ysd, .ref yik, .ref ykp]))] sz (fun (r : Int32) (u : Unit) => r.toInt = 0) (fun u => [(h0, .inr (4, [.int ype, .int 0, .ref ywi, .ref yki, .ref yse, .ref yno, .ref yrh, .ref yrw, .ref yrk, .ref yrt, .int yrp, .int yrq, .ref ytx, .int yle, .int yat, .int yfa, .ref yby, .ref ylo, .ref yhi, .int yac, .int ynx, .ref yro, .ref ygl, .int ysn, .ref yso, .ref ysp, .ref ysw, .long ysd, .ref yik, .ref ykp]))]) 0 0 := by
  refine begins (l := l) (y := yX4_goneNow) (ws := wsX4_goneNow) (av := [.ref h0]) (Qc := fun A => va_Qi (fun (r : Int32) (u : Unit) => r.toInt = 0) (fun u => Wd D cI cZ cM A ((fun u => [(h0, .inr (4, [.int ype, .int 0, .ref ywi, .ref yki, .ref yse, .ref yno, .ref yrh, .ref yrw, .ref yrk, .ref yrt, .int yrp, .int yrq, .ref ytx, .int yle, .int yat, .int yfa, .ref yby, .ref ylo, .ref yhi, .int yac, .int ynx, .ref yro, .ref ygl, .int ysn, .ref yso, .ref ysp, .ref ysw, .long ysd, .ref yik, .ref ykp]))]) u)) A) cX4_goneNow 3 (some .int) (by decide) rfl (Nat.le_of_ble_eq_true rfl) ?_
  intro p e s m args below meth c R Q A ls hBd hR hQ hA hS hK hP hD hl
  obtain ⟨hx, hb, hr, hts, hown, hlocks, hin, hml⟩ := hBd
  have hl : lv_has ls 3 [(0, .ref h0)] := hl
  have iX4 : ∀ w ∈ wsX40, w ∈ wsX4_goneNow := fun _ h => List.mem_cons_of_mem _ (List.mem_append_right _ h)
  refine lv_iconst (v := 0) hx hb dX4_goneNow_0 (by decide) ?_
  refine lv_istore_n (lv' := [(1, .int 0), (0, .ref h0)]) hx hb dX4_goneNow_1 rfl hl (by decide) rfl (fun ls hl => ?_)
  refine lv_iconst (v := 0) hx hb dX4_goneNow_2 (by decide) ?_
  refine lv_istore_n (lv' := [(2, .int 0), (1, .int 0), (0, .ref h0)]) hx hb dX4_goneNow_3 rfl hl (by decide) rfl (fun ls hl => ?_)
  refine lv_iload_n hx hb dX4_goneNow_4 rfl (lv_at hl 0 rfl) ?_
  refine lv_aload_n hx hb dX4_goneNow_5 rfl (lv_at hl 2 rfl) ?_
  refine va_get (D := D) (ci := 4) (v := .int 0) (C := RX4) (T := TX4) (N := 30) hx hb hts iX4 hown hK hP 0 rfl rfl 1 (by decide) (hts (.fieldLink RX4 101 "PunchedTicketModel" "tickets" "I") (List.mem_of_getElem? (i := 1) rfl)) (fun _ h9 => h9) rfl dX4_goneNow_6 ?_
  refine lv_icmp_ge (tgt := 36) hx hb dX4_goneNow_9 (by decide) (fun c_1 => ?_) (fun c_1 => ?_)
  · have tc_1 := b_le (show (0 : Int32).toInt = 0 by decide) (show (0 : Int32).toInt = 0 by decide) c_1
    refine lv_iload_n hx hb dX4_goneNow_36 rfl (lv_at hl 1 rfl) ?_
    exact ret_i (post := (fun (r : Int32) (u : Unit) => r.toInt = 0)) (W1 := (fun u => [(h0, .inr (4, [.int ype, .int 0, .ref ywi, .ref yki, .ref yse, .ref yno, .ref yrh, .ref yrw, .ref yrk, .ref yrt, .int yrp, .int yrq, .ref ytx, .int yle, .int yat, .int yfa, .ref yby, .ref ylo, .ref yhi, .int yac, .int ynx, .ref yro, .ref ygl, .int ysn, .ref yso, .ref ysp, .ref ysw, .long ysd, .ref yik, .ref ykp]))])) () hx hb hr hlocks rfl hQ hK hP hD hS ⟨by decide, by decide⟩ dX4_goneNow_37 (show (0 : Int) = 0 by omega)
  · have tc_1 := b_nle (show (0 : Int32).toInt = 0 by decide) (show (0 : Int32).toInt = 0 by decide) c_1
    exfalso; omega

set_option maxHeartbeats 600000 in
set_option maxRecDepth 100000 in
theorem c_X4_count0 (l : Launch) (D : va_G) (cI cZ cM : ClassId) (h0 : Nat) (n : Int32) (ywi : Nat) (yki : Nat) (yse : Nat) (yno : Nat) (yrh : Nat) (yrw : Nat) (yrk : Nat) (yrt : Nat) (yrp : Int32) (yrq : Int32) (ytx : Nat) (yat : Int32) (yfa : Int32) (yby : Nat) (ylo : Nat) (yhi : Nat) (ynx : Int32) (yro : Nat) (ygl : Nat) (yso : Nat) (ysp : Nat) (ysw : Nat) (ysd : Int64) (yik : Nat) (ykp : Nat) (Fno : Nat → Int32) (sz : Nat) (h_f : (Fno 0).toInt = 0) : Ci l yX4_count wsX4_count ({ frames := 1, cells := 0, slots := 0, locals := 22 } : Room) D cI cZ cM [.ref h0, .int n] [(h0, .inr (4, [.int 0, .int 0, .ref ywi, .ref yki, .ref yse, .ref yno, .ref yrh, .ref yrw, .ref yrk, .ref yrt, .int yrp, .int yrq, .ref ytx, .int 0, .int yat, .int yfa, .ref yby, .ref ylo, .ref yhi, .int 0, .int ynx, .ref yro, .ref ygl, .int 0, .ref yso, .ref ysp, .ref ysw, .long ysd, .ref yik, .ref ykp])), (yno, .inl (cI, 96, .inl Fno))] sz (fun (r : Int32) (u : Unit) => ((n.toInt < 0 ∨ 7 < n.toInt) ∧ r.toInt = -2) ∨ (0 ≤ n.toInt ∧ n.toInt ≤ 7 ∧ r.toInt = 0)) (fun u => [(h0, .inr (4, [.int 0, .int 0, .ref ywi, .ref yki, .ref yse, .ref yno, .ref yrh, .ref yrw, .ref yrk, .ref yrt, .int yrp, .int yrq, .ref ytx, .int 0, .int yat, .int yfa, .ref yby, .ref ylo, .ref yhi, .int 0, .int ynx, .ref yro, .ref ygl, .int 0, .ref yso, .ref ysp, .ref ysw, .long ysd, .ref yik, .ref ykp])), (yno, .inl (cI, 96, .inl Fno))]) 0 0 := by
  refine begins (l := l) (y := yX4_count) (ws := wsX4_count) (av := [.ref h0, .int n]) (Qc := fun A => va_Qi (fun (r : Int32) (u : Unit) => ((n.toInt < 0 ∨ 7 < n.toInt) ∧ r.toInt = -2) ∨ (0 ≤ n.toInt ∧ n.toInt ≤ 7 ∧ r.toInt = 0)) (fun u => Wd D cI cZ cM A ((fun u => [(h0, .inr (4, [.int 0, .int 0, .ref ywi, .ref yki, .ref yse, .ref yno, .ref yrh, .ref yrw, .ref yrk, .ref yrt, .int yrp, .int yrq, .ref ytx, .int 0, .int yat, .int yfa, .ref yby, .ref ylo, .ref yhi, .int 0, .int ynx, .ref yro, .ref ygl, .int 0, .ref yso, .ref ysp, .ref ysw, .long ysd, .ref yik, .ref ykp])), (yno, .inl (cI, 96, .inl Fno))]) u)) A) cX4_count 4 (some .int) (by decide) rfl (Nat.le_of_ble_eq_true rfl) ?_
  intro p e s m args below meth c R Q A ls hBd hR hQ hA hS hK hP hD hl
  obtain ⟨hx, hb, hr, hts, hown, hlocks, hin, hml⟩ := hBd
  have hl : lv_has ls 4 [(0, .ref h0), (1, .int n)] := hl
  have iX4 : ∀ w ∈ wsX40, w ∈ wsX4_count := fun _ h => List.mem_cons_of_mem _ (List.mem_append_right _ h)
  refine lv_iconst (v := 0) hx hb dX4_count_0 (by decide) ?_
  refine lv_istore_n (lv' := [(2, .int 0), (0, .ref h0), (1, .int n)]) hx hb dX4_count_1 rfl hl (by decide) rfl (fun ls hl => ?_)
  refine lv_iconst (v := 0) hx hb dX4_count_2 (by decide) ?_
  refine lv_istore_n (lv' := [(3, .int 0), (2, .int 0), (0, .ref h0), (1, .int n)]) hx hb dX4_count_3 rfl hl (by decide) rfl (fun ls hl => ?_)
  refine lv_iload_n hx hb dX4_count_4 rfl (lv_at hl 0 rfl) ?_
  refine lv_aload_n hx hb dX4_count_5 rfl (lv_at hl 2 rfl) ?_
  refine va_get (D := D) (ci := 4) (v := .int 0) (C := RX4) (T := TX4) (N := 30) hx hb hts iX4 hown hK hP 0 rfl rfl 0 (by decide) (hts (.fieldLink RX4 68 "PunchedTicketModel" "people" "I") (List.mem_of_getElem? (i := 1) rfl)) (fun _ h9 => h9) rfl dX4_count_6 ?_
  refine lv_icmp_ge (tgt := 43) hx hb dX4_count_9 (by decide) (fun c_1 => ?_) (fun c_1 => ?_)
  · have tc_1 := b_le (show (0 : Int32).toInt = 0 by decide) (show (0 : Int32).toInt = 0 by decide) c_1
    refine lv_iload_n hx hb dX4_count_43 rfl (lv_at hl 3 rfl) ?_
    by_cases c_2 : n.toInt < 0 ∨ 7 < n.toInt
    · refine lv_tableOut (tgt := 131) hx hb dX4_count_44 c_2 (by decide) ?_
      refine lv_bipush (v := (-2)) hx hb dX4_count_131 (by decide) ?_
      exact ret_i (post := (fun (r : Int32) (u : Unit) => ((n.toInt < 0 ∨ 7 < n.toInt) ∧ r.toInt = -2) ∨ (0 ≤ n.toInt ∧ n.toInt ≤ 7 ∧ r.toInt = 0))) (W1 := (fun u => [(h0, .inr (4, [.int 0, .int 0, .ref ywi, .ref yki, .ref yse, .ref yno, .ref yrh, .ref yrw, .ref yrk, .ref yrt, .int yrp, .int yrq, .ref ytx, .int 0, .int yat, .int yfa, .ref yby, .ref ylo, .ref yhi, .int 0, .int ynx, .ref yro, .ref ygl, .int 0, .ref yso, .ref ysp, .ref ysw, .long ysd, .ref yik, .ref ykp])), (yno, .inl (cI, 96, .inl Fno))])) () hx hb hr hlocks rfl hQ hK hP hD hS ⟨by decide, by decide⟩ dX4_count_133 (show ((n.toInt < 0 ∨ 7 < n.toInt) ∧ (-2 : Int) = -2) ∨ (0 ≤ n.toInt ∧ n.toInt ≤ 7 ∧ (-2 : Int) = 0) by omega)
    · rcases (show n.toInt = 0 ∨ n.toInt = 1 ∨ n.toInt = 2 ∨ n.toInt = 3 ∨ n.toInt = 4 ∨ n.toInt = 5 ∨ n.toInt = 6 ∨ n.toInt = 7 by omega) with c_2i | c_2i | c_2i | c_2i | c_2i | c_2i | c_2i | c_2i
      · refine lv_tableIn (tgt := 92) (off := 48) hx hb dX4_count_44 (by omega) (by omega) (by rw [c_2i]; rfl) (by decide) ?_
        refine lv_aload_n hx hb dX4_count_92 rfl (lv_at hl 2 rfl) ?_
        refine va_get (D := D) (ci := 4) (v := .int 0) (C := RX4) (T := TX4) (N := 30) hx hb hts iX4 hown hK hP 0 rfl rfl 13 (by decide) (hts (.fieldLink RX4 78 "PunchedTicketModel" "length" "I") (List.mem_of_getElem? (i := 4) rfl)) (fun _ h9 => h9) rfl dX4_count_93 ?_
        exact ret_i (post := (fun (r : Int32) (u : Unit) => ((n.toInt < 0 ∨ 7 < n.toInt) ∧ r.toInt = -2) ∨ (0 ≤ n.toInt ∧ n.toInt ≤ 7 ∧ r.toInt = 0))) (W1 := (fun u => [(h0, .inr (4, [.int 0, .int 0, .ref ywi, .ref yki, .ref yse, .ref yno, .ref yrh, .ref yrw, .ref yrk, .ref yrt, .int yrp, .int yrq, .ref ytx, .int 0, .int yat, .int yfa, .ref yby, .ref ylo, .ref yhi, .int 0, .int ynx, .ref yro, .ref ygl, .int 0, .ref yso, .ref ysp, .ref ysw, .long ysd, .ref yik, .ref ykp])), (yno, .inl (cI, 96, .inl Fno))])) () hx hb hr hlocks rfl hQ hK hP hD hS ⟨by decide, by decide⟩ dX4_count_96 (show ((n.toInt < 0 ∨ 7 < n.toInt) ∧ (0 : Int) = -2) ∨ (0 ≤ n.toInt ∧ n.toInt ≤ 7 ∧ (0 : Int) = 0) by omega)
      · refine lv_tableIn (tgt := 97) (off := 53) hx hb dX4_count_44 (by omega) (by omega) (by rw [c_2i]; rfl) (by decide) ?_
        refine lv_aload_n hx hb dX4_count_97 rfl (lv_at hl 2 rfl) ?_
        refine va_get (D := D) (ci := 4) (v := .int 0) (C := RX4) (T := TX4) (N := 30) hx hb hts iX4 hown hK hP 0 rfl rfl 0 (by decide) (hts (.fieldLink RX4 68 "PunchedTicketModel" "people" "I") (List.mem_of_getElem? (i := 1) rfl)) (fun _ h9 => h9) rfl dX4_count_98 ?_
        exact ret_i (post := (fun (r : Int32) (u : Unit) => ((n.toInt < 0 ∨ 7 < n.toInt) ∧ r.toInt = -2) ∨ (0 ≤ n.toInt ∧ n.toInt ≤ 7 ∧ r.toInt = 0))) (W1 := (fun u => [(h0, .inr (4, [.int 0, .int 0, .ref ywi, .ref yki, .ref yse, .ref yno, .ref yrh, .ref yrw, .ref yrk, .ref yrt, .int yrp, .int yrq, .ref ytx, .int 0, .int yat, .int yfa, .ref yby, .ref ylo, .ref yhi, .int 0, .int ynx, .ref yro, .ref ygl, .int 0, .ref yso, .ref ysp, .ref ysw, .long ysd, .ref yik, .ref ykp])), (yno, .inl (cI, 96, .inl Fno))])) () hx hb hr hlocks rfl hQ hK hP hD hS ⟨by decide, by decide⟩ dX4_count_101 (show ((n.toInt < 0 ∨ 7 < n.toInt) ∧ (0 : Int) = -2) ∨ (0 ≤ n.toInt ∧ n.toInt ≤ 7 ∧ (0 : Int) = 0) by omega)
      · refine lv_tableIn (tgt := 102) (off := 58) hx hb dX4_count_44 (by omega) (by omega) (by rw [c_2i]; rfl) (by decide) ?_
        refine lv_aload_n hx hb dX4_count_102 rfl (lv_at hl 2 rfl) ?_
        refine va_get (D := D) (ci := 4) (v := .int 0) (C := RX4) (T := TX4) (N := 30) hx hb hts iX4 hown hK hP 0 rfl rfl 1 (by decide) (hts (.fieldLink RX4 101 "PunchedTicketModel" "tickets" "I") (List.mem_of_getElem? (i := 5) rfl)) (fun _ h9 => h9) rfl dX4_count_103 ?_
        exact ret_i (post := (fun (r : Int32) (u : Unit) => ((n.toInt < 0 ∨ 7 < n.toInt) ∧ r.toInt = -2) ∨ (0 ≤ n.toInt ∧ n.toInt ≤ 7 ∧ r.toInt = 0))) (W1 := (fun u => [(h0, .inr (4, [.int 0, .int 0, .ref ywi, .ref yki, .ref yse, .ref yno, .ref yrh, .ref yrw, .ref yrk, .ref yrt, .int yrp, .int yrq, .ref ytx, .int 0, .int yat, .int yfa, .ref yby, .ref ylo, .ref yhi, .int 0, .int ynx, .ref yro, .ref ygl, .int 0, .ref yso, .ref ysp, .ref ysw, .long ysd, .ref yik, .ref ykp])), (yno, .inl (cI, 96, .inl Fno))])) () hx hb hr hlocks rfl hQ hK hP hD hS ⟨by decide, by decide⟩ dX4_count_106 (show ((n.toInt < 0 ∨ 7 < n.toInt) ∧ (0 : Int) = -2) ∨ (0 ≤ n.toInt ∧ n.toInt ≤ 7 ∧ (0 : Int) = 0) by omega)
      · refine lv_tableIn (tgt := 107) (off := 63) hx hb dX4_count_44 (by omega) (by omega) (by rw [c_2i]; rfl) (by decide) ?_
        refine lv_aload_n hx hb dX4_count_107 rfl (lv_at hl 2 rfl) ?_
        refine va_get (D := D) (ci := 4) (v := .ref yno) (C := RX4) (T := TX4) (N := 30) hx hb hts iX4 hown hK hP 0 rfl rfl 5 (by decide) (hts (.fieldLink RX4 19 "PunchedTicketModel" "now" "[I") (List.mem_of_getElem? (i := 2) rfl)) (fun _ h9 => h9) rfl dX4_count_108 ?_
        refine lv_iconst (v := 0) hx hb dX4_count_111 (by decide) ?_
        refine va_iald hx hb hK hP 1 0 rfl rfl (vp_in_iff.mpr (by decide)) dX4_count_112 ?_
        refine lv_topi (fun v_3 ev_3 => ?_)
        have tv_3 : v_3.toInt = 0 := by rw [ev_3]; exact h_f
        exact ret_i (post := (fun (r : Int32) (u : Unit) => ((n.toInt < 0 ∨ 7 < n.toInt) ∧ r.toInt = -2) ∨ (0 ≤ n.toInt ∧ n.toInt ≤ 7 ∧ r.toInt = 0))) (W1 := (fun u => [(h0, .inr (4, [.int 0, .int 0, .ref ywi, .ref yki, .ref yse, .ref yno, .ref yrh, .ref yrw, .ref yrk, .ref yrt, .int yrp, .int yrq, .ref ytx, .int 0, .int yat, .int yfa, .ref yby, .ref ylo, .ref yhi, .int 0, .int ynx, .ref yro, .ref ygl, .int 0, .ref yso, .ref ysp, .ref ysw, .long ysd, .ref yik, .ref ykp])), (yno, .inl (cI, 96, .inl Fno))])) () hx hb hr hlocks rfl hQ hK hP hD hS ⟨by decide, by decide⟩ dX4_count_113 (show ((n.toInt < 0 ∨ 7 < n.toInt) ∧ v_3.toInt = -2) ∨ (0 ≤ n.toInt ∧ n.toInt ≤ 7 ∧ v_3.toInt = 0) by omega)
      · refine lv_tableIn (tgt := 114) (off := 70) hx hb dX4_count_44 (by omega) (by omega) (by rw [c_2i]; rfl) (by decide) ?_
        refine lv_aload_n hx hb dX4_count_114 rfl (lv_at hl 2 rfl) ?_
        refine cV_i (As := []) (rest := []) ⟨hx, hb, hml, hown, hts⟩ (c_X4_goneNow0 l D cI cZ cM h0 0 ywi yki yse yno yrh yrw yrk yrt yrp yrq ytx 0 yat yfa yby ylo yhi 0 ynx yro ygl 0 yso ysp ysw ysd yik ykp _ ) (cwV 0 hts gX4_count_X4_goneNow rfl rfl rfl (by decide +kernel) ⟨by rw [hR]; decide, by rw [hR]; decide⟩) hK hP hD hS hA [0] [1] rfl rfl (by decide) (by decide) (by decide) rfl 0 rfl hl.1 rfl rfl (Nat.le_of_ble_eq_true rfl) dX4_count_115 ⟨by rw [hR]; decide, by rw [hR]; decide⟩ (fun r_4 u_5 H locs hw hP hD hS => ?_)
        have hP : va_P D vwCl [(h0, .inr (4, [.int 0, .int 0, .ref ywi, .ref yki, .ref yse, .ref yno, .ref yrh, .ref yrw, .ref yrk, .ref yrt, .int yrp, .int yrq, .ref ytx, .int 0, .int yat, .int yfa, .ref yby, .ref ylo, .ref yhi, .int 0, .int ynx, .ref yro, .ref ygl, .int 0, .ref yso, .ref ysp, .ref ysw, .long ysd, .ref yik, .ref ykp])), (yno, .inl (cI, 96, .inl Fno))] H := hP.sub [1, 0] rfl
        have hD : va_D A [(h0, .inr (4, [.int 0, .int 0, .ref ywi, .ref yki, .ref yse, .ref yno, .ref yrh, .ref yrw, .ref yrk, .ref yrt, .int yrp, .int yrq, .ref ytx, .int 0, .int yat, .int yfa, .ref yby, .ref ylo, .ref yhi, .int 0, .int ynx, .ref yro, .ref ygl, .int 0, .ref yso, .ref ysp, .ref ysw, .long ysd, .ref yik, .ref ykp])), (yno, .inl (cI, 96, .inl Fno))] := hD.sub [1, 0] (by decide) rfl
        refine W.widen (k := 0) (n := 0) (Nat.le_refl _) (Nat.le_refl _) ?_
        have hw : r_4.toInt = 0 := hw
        have hw_6 := hw
        exact ret_i (post := (fun (r : Int32) (u : Unit) => ((n.toInt < 0 ∨ 7 < n.toInt) ∧ r.toInt = -2) ∨ (0 ≤ n.toInt ∧ n.toInt ≤ 7 ∧ r.toInt = 0))) (W1 := (fun u => [(h0, .inr (4, [.int 0, .int 0, .ref ywi, .ref yki, .ref yse, .ref yno, .ref yrh, .ref yrw, .ref yrk, .ref yrt, .int yrp, .int yrq, .ref ytx, .int 0, .int yat, .int yfa, .ref yby, .ref ylo, .ref yhi, .int 0, .int ynx, .ref yro, .ref ygl, .int 0, .ref yso, .ref ysp, .ref ysw, .long ysd, .ref yik, .ref ykp])), (yno, .inl (cI, 96, .inl Fno))])) () hx hb hr hlocks rfl hQ hK hP hD hS ⟨by decide, by decide⟩ dX4_count_118 (show ((n.toInt < 0 ∨ 7 < n.toInt) ∧ r_4.toInt = -2) ∨ (0 ≤ n.toInt ∧ n.toInt ≤ 7 ∧ r_4.toInt = 0) by omega)
      · refine lv_tableIn (tgt := 119) (off := 75) hx hb dX4_count_44 (by omega) (by omega) (by rw [c_2i]; rfl) (by decide) ?_
        refine lv_iload_n hx hb dX4_count_119 rfl (lv_at hl 1 rfl) ?_
        exact ret_i (post := (fun (r : Int32) (u : Unit) => ((n.toInt < 0 ∨ 7 < n.toInt) ∧ r.toInt = -2) ∨ (0 ≤ n.toInt ∧ n.toInt ≤ 7 ∧ r.toInt = 0))) (W1 := (fun u => [(h0, .inr (4, [.int 0, .int 0, .ref ywi, .ref yki, .ref yse, .ref yno, .ref yrh, .ref yrw, .ref yrk, .ref yrt, .int yrp, .int yrq, .ref ytx, .int 0, .int yat, .int yfa, .ref yby, .ref ylo, .ref yhi, .int 0, .int ynx, .ref yro, .ref ygl, .int 0, .ref yso, .ref ysp, .ref ysw, .long ysd, .ref yik, .ref ykp])), (yno, .inl (cI, 96, .inl Fno))])) () hx hb hr hlocks rfl hQ hK hP hD hS ⟨by decide, by decide⟩ dX4_count_120 (show ((n.toInt < 0 ∨ 7 < n.toInt) ∧ (0 : Int) = -2) ∨ (0 ≤ n.toInt ∧ n.toInt ≤ 7 ∧ (0 : Int) = 0) by omega)
      · refine lv_tableIn (tgt := 121) (off := 77) hx hb dX4_count_44 (by omega) (by omega) (by rw [c_2i]; rfl) (by decide) ?_
        refine lv_aload_n hx hb dX4_count_121 rfl (lv_at hl 2 rfl) ?_
        refine va_get (D := D) (ci := 4) (v := .int 0) (C := RX4) (T := TX4) (N := 30) hx hb hts iX4 hown hK hP 0 rfl rfl 19 (by decide) (hts (.fieldLink RX4 104 "PunchedTicketModel" "acts" "I") (List.mem_of_getElem? (i := 6) rfl)) (fun _ h9 => h9) rfl dX4_count_122 ?_
        exact ret_i (post := (fun (r : Int32) (u : Unit) => ((n.toInt < 0 ∨ 7 < n.toInt) ∧ r.toInt = -2) ∨ (0 ≤ n.toInt ∧ n.toInt ≤ 7 ∧ r.toInt = 0))) (W1 := (fun u => [(h0, .inr (4, [.int 0, .int 0, .ref ywi, .ref yki, .ref yse, .ref yno, .ref yrh, .ref yrw, .ref yrk, .ref yrt, .int yrp, .int yrq, .ref ytx, .int 0, .int yat, .int yfa, .ref yby, .ref ylo, .ref yhi, .int 0, .int ynx, .ref yro, .ref ygl, .int 0, .ref yso, .ref ysp, .ref ysw, .long ysd, .ref yik, .ref ykp])), (yno, .inl (cI, 96, .inl Fno))])) () hx hb hr hlocks rfl hQ hK hP hD hS ⟨by decide, by decide⟩ dX4_count_125 (show ((n.toInt < 0 ∨ 7 < n.toInt) ∧ (0 : Int) = -2) ∨ (0 ≤ n.toInt ∧ n.toInt ≤ 7 ∧ (0 : Int) = 0) by omega)
      · refine lv_tableIn (tgt := 126) (off := 82) hx hb dX4_count_44 (by omega) (by omega) (by rw [c_2i]; rfl) (by decide) ?_
        refine lv_aload_n hx hb dX4_count_126 rfl (lv_at hl 2 rfl) ?_
        refine va_get (D := D) (ci := 4) (v := .int 0) (C := RX4) (T := TX4) (N := 30) hx hb hts iX4 hown hK hP 0 rfl rfl 23 (by decide) (hts (.fieldLink RX4 199 "PunchedTicketModel" "seen" "I") (List.mem_of_getElem? (i := 7) rfl)) (fun _ h9 => h9) rfl dX4_count_127 ?_
        exact ret_i (post := (fun (r : Int32) (u : Unit) => ((n.toInt < 0 ∨ 7 < n.toInt) ∧ r.toInt = -2) ∨ (0 ≤ n.toInt ∧ n.toInt ≤ 7 ∧ r.toInt = 0))) (W1 := (fun u => [(h0, .inr (4, [.int 0, .int 0, .ref ywi, .ref yki, .ref yse, .ref yno, .ref yrh, .ref yrw, .ref yrk, .ref yrt, .int yrp, .int yrq, .ref ytx, .int 0, .int yat, .int yfa, .ref yby, .ref ylo, .ref yhi, .int 0, .int ynx, .ref yro, .ref ygl, .int 0, .ref yso, .ref ysp, .ref ysw, .long ysd, .ref yik, .ref ykp])), (yno, .inl (cI, 96, .inl Fno))])) () hx hb hr hlocks rfl hQ hK hP hD hS ⟨by decide, by decide⟩ dX4_count_130 (show ((n.toInt < 0 ∨ 7 < n.toInt) ∧ (0 : Int) = -2) ∨ (0 ≤ n.toInt ∧ n.toInt ≤ 7 ∧ (0 : Int) = 0) by omega)
  · have tc_1 := b_nle (show (0 : Int32).toInt = 0 by decide) (show (0 : Int32).toInt = 0 by decide) c_1
    exfalso; omega

set_option maxHeartbeats 600000 in
set_option maxRecDepth 100000 in
theorem c_X4_init (l : Launch) (D : va_G) (cI cZ cM : ClassId) (h0 : Nat) (sz : Nat)  : Cv l yX4_init wsX4_init ({ frames := 1, cells := 19, slots := 1089, locals := 12 } : Room) D cI cZ cM [.ref h0] [(h0, .inr (4, [.int 0, .int 0, .null, .null, .null, .null, .null, .null, .null, .null, .int 0, .int 0, .null, .int 0, .int 0, .int 0, .null, .null, .null, .int 0, .int 0, .null, .null, .int 0, .null, .null, .null, .long 0, .null, .null]))] sz (fun (u : Nat × Nat × Nat × Nat × Nat × Nat × Nat × Nat × Nat × Nat × Nat × Nat × Nat × Nat × Nat × Nat × Nat × Nat × Nat) => True) (fun u => [(h0, .inr (4, [.int 0, .int 0, .ref u.1, .ref u.2.1, .ref u.2.2.1, .ref u.2.2.2.1, .ref u.2.2.2.2.1, .ref u.2.2.2.2.2.1, .ref u.2.2.2.2.2.2.1, .ref u.2.2.2.2.2.2.2.1, .int 0, .int 0, .ref u.2.2.2.2.2.2.2.2.1, .int 0, .int 0, .int 0, .ref u.2.2.2.2.2.2.2.2.2.1, .ref u.2.2.2.2.2.2.2.2.2.2.1, .ref u.2.2.2.2.2.2.2.2.2.2.2.1, .int 0, .int 0, .ref u.2.2.2.2.2.2.2.2.2.2.2.2.1, .ref u.2.2.2.2.2.2.2.2.2.2.2.2.2.1, .int 0, .ref u.2.2.2.2.2.2.2.2.2.2.2.2.2.2.1, .ref u.2.2.2.2.2.2.2.2.2.2.2.2.2.2.2.1, .ref u.2.2.2.2.2.2.2.2.2.2.2.2.2.2.2.2.1, .long 0, .ref u.2.2.2.2.2.2.2.2.2.2.2.2.2.2.2.2.2.1, .ref u.2.2.2.2.2.2.2.2.2.2.2.2.2.2.2.2.2.2])), (u.1, .inl (cI, 5, .inl (fun _ => 0))), (u.2.1, .inl (cI, 5, .inl (fun _ => 0))), (u.2.2.1, .inl (cI, 7, .inl (fun _ => 0))), (u.2.2.2.1, .inl (cI, 96, .inl (fun _ => 0))), (u.2.2.2.2.1, .inl (cI, 5, .inl (fun _ => 0))), (u.2.2.2.2.2.1, .inl (cI, 5, .inl (fun _ => 0))), (u.2.2.2.2.2.2.1, .inl (cI, 5, .inl (fun _ => 0))), (u.2.2.2.2.2.2.2.1, .inl (cI, 30, .inl (fun _ => 0))), (u.2.2.2.2.2.2.2.2.1, .inl (cI, 64, .inl (fun _ => 0))), (u.2.2.2.2.2.2.2.2.2.1, .inl (cI, 5, .inl (fun _ => 0))), (u.2.2.2.2.2.2.2.2.2.2.1, .inl (cI, 5, .inl (fun _ => 0))), (u.2.2.2.2.2.2.2.2.2.2.2.1, .inl (cI, 5, .inl (fun _ => 0))), (u.2.2.2.2.2.2.2.2.2.2.2.2.1, .inl (cI, 672, .inl (fun _ => 0))), (u.2.2.2.2.2.2.2.2.2.2.2.2.2.1, .inl (cI, 64, .inl (fun _ => 0))), (u.2.2.2.2.2.2.2.2.2.2.2.2.2.2.1, .inl (cI, 6, .inl (fun _ => 0))), (u.2.2.2.2.2.2.2.2.2.2.2.2.2.2.2.1, .inl (cI, 6, .inl (fun _ => 0))), (u.2.2.2.2.2.2.2.2.2.2.2.2.2.2.2.2.1, .inl (cI, 6, .inl (fun _ => 0))), (u.2.2.2.2.2.2.2.2.2.2.2.2.2.2.2.2.2.1, .inl (cZ, 2, .inl (fun _ => 0))), (u.2.2.2.2.2.2.2.2.2.2.2.2.2.2.2.2.2.2, .inl (cI, 96, .inl (fun _ => 0)))]) 19 1089 := by
  refine begins (l := l) (y := yX4_init) (ws := wsX4_init) (av := [.ref h0]) (Qc := fun A => va_Qv (fun (u : Nat × Nat × Nat × Nat × Nat × Nat × Nat × Nat × Nat × Nat × Nat × Nat × Nat × Nat × Nat × Nat × Nat × Nat × Nat) => True) (fun u => Wd D cI cZ cM A ((fun u => [(h0, .inr (4, [.int 0, .int 0, .ref u.1, .ref u.2.1, .ref u.2.2.1, .ref u.2.2.2.1, .ref u.2.2.2.2.1, .ref u.2.2.2.2.2.1, .ref u.2.2.2.2.2.2.1, .ref u.2.2.2.2.2.2.2.1, .int 0, .int 0, .ref u.2.2.2.2.2.2.2.2.1, .int 0, .int 0, .int 0, .ref u.2.2.2.2.2.2.2.2.2.1, .ref u.2.2.2.2.2.2.2.2.2.2.1, .ref u.2.2.2.2.2.2.2.2.2.2.2.1, .int 0, .int 0, .ref u.2.2.2.2.2.2.2.2.2.2.2.2.1, .ref u.2.2.2.2.2.2.2.2.2.2.2.2.2.1, .int 0, .ref u.2.2.2.2.2.2.2.2.2.2.2.2.2.2.1, .ref u.2.2.2.2.2.2.2.2.2.2.2.2.2.2.2.1, .ref u.2.2.2.2.2.2.2.2.2.2.2.2.2.2.2.2.1, .long 0, .ref u.2.2.2.2.2.2.2.2.2.2.2.2.2.2.2.2.2.1, .ref u.2.2.2.2.2.2.2.2.2.2.2.2.2.2.2.2.2.2])), (u.1, .inl (cI, 5, .inl (fun _ => 0))), (u.2.1, .inl (cI, 5, .inl (fun _ => 0))), (u.2.2.1, .inl (cI, 7, .inl (fun _ => 0))), (u.2.2.2.1, .inl (cI, 96, .inl (fun _ => 0))), (u.2.2.2.2.1, .inl (cI, 5, .inl (fun _ => 0))), (u.2.2.2.2.2.1, .inl (cI, 5, .inl (fun _ => 0))), (u.2.2.2.2.2.2.1, .inl (cI, 5, .inl (fun _ => 0))), (u.2.2.2.2.2.2.2.1, .inl (cI, 30, .inl (fun _ => 0))), (u.2.2.2.2.2.2.2.2.1, .inl (cI, 64, .inl (fun _ => 0))), (u.2.2.2.2.2.2.2.2.2.1, .inl (cI, 5, .inl (fun _ => 0))), (u.2.2.2.2.2.2.2.2.2.2.1, .inl (cI, 5, .inl (fun _ => 0))), (u.2.2.2.2.2.2.2.2.2.2.2.1, .inl (cI, 5, .inl (fun _ => 0))), (u.2.2.2.2.2.2.2.2.2.2.2.2.1, .inl (cI, 672, .inl (fun _ => 0))), (u.2.2.2.2.2.2.2.2.2.2.2.2.2.1, .inl (cI, 64, .inl (fun _ => 0))), (u.2.2.2.2.2.2.2.2.2.2.2.2.2.2.1, .inl (cI, 6, .inl (fun _ => 0))), (u.2.2.2.2.2.2.2.2.2.2.2.2.2.2.2.1, .inl (cI, 6, .inl (fun _ => 0))), (u.2.2.2.2.2.2.2.2.2.2.2.2.2.2.2.2.1, .inl (cI, 6, .inl (fun _ => 0))), (u.2.2.2.2.2.2.2.2.2.2.2.2.2.2.2.2.2.1, .inl (cZ, 2, .inl (fun _ => 0))), (u.2.2.2.2.2.2.2.2.2.2.2.2.2.2.2.2.2.2, .inl (cI, 96, .inl (fun _ => 0)))]) u)) A) cX4_init 1 none (by decide) rfl (Nat.le_of_ble_eq_true rfl) ?_
  intro p e s m args below meth c R Q A ls hBd hR hQ hA hS hK hP hD hl
  obtain ⟨hx, hb, hr, hts, hown, hlocks, hin, hml⟩ := hBd
  have hl : lv_has ls 1 [(0, .ref h0)] := hl
  have iX4 : ∀ w ∈ wsX40, w ∈ wsX4_init := fun _ h => List.mem_cons_of_mem _ (List.mem_append_right _ h)
  refine lv_aload_n hx hb dX4_init_0 rfl (lv_at hl 0 rfl) ?_
  refine W.objInit hx hb hown (hts (.methodLink RX4 1 objectInit) (List.mem_of_getElem? (i := 1) rfl)) (hts (.instanceMethod objectInit) (List.mem_of_getElem? (i := 2) rfl)) (hts (.code objectInit ⟨#[0xb1]⟩ 1 none) (List.mem_of_getElem? (i := 3) rfl)) rfl (by rw [hml]; exact hl.1) rfl dX4_init_1 (by rw [hR]; exact Nat.le_of_ble_eq_true rfl) (by rw [hR]; exact Nat.le_of_ble_eq_true rfl) ?_
  refine W.eq (g2 := F0 m 4 ls []) rfl ?_
  refine lv_aload_n hx hb dX4_init_4 rfl (lv_at hl 0 rfl) ?_
  refine lv_iconst (v := 5) hx hb dX4_init_5 (by decide) ?_
  refine newI hx hb (hts (.arrayClass .int) (List.mem_of_getElem? (i := 4) rfl)) hK hP hD hS hA 5 (by decide) (by decide) (by decide) (by rw [hR]; exact Nat.le_of_ble_eq_true rfl) (by rw [hR]; exact Nat.le_of_ble_eq_true rfl) dX4_init_6 (fun q_1 H hP hD hS => ?_)
  have hP : va_P D vwCl [(h0, .inr (4, [.int 0, .int 0, .null, .null, .null, .null, .null, .null, .null, .null, .int 0, .int 0, .null, .int 0, .int 0, .int 0, .null, .null, .null, .int 0, .int 0, .null, .null, .int 0, .null, .null, .null, .long 0, .null, .null])), (q_1, .inl (cI, 5, .inl (fun _ => 0)))] H := hP
  have hD : va_D A [(h0, .inr (4, [.int 0, .int 0, .null, .null, .null, .null, .null, .null, .null, .null, .int 0, .int 0, .null, .int 0, .int 0, .int 0, .null, .null, .null, .int 0, .int 0, .null, .null, .int 0, .null, .null, .null, .long 0, .null, .null])), (q_1, .inl (cI, 5, .inl (fun _ => 0)))] := hD
  refine W.widen (k := 1) (n := 5) (by omega) (by omega) ?_
  refine va_putF (D := D) (ci := 4) (v := .ref q_1) (ty := (.array .int)) (C := RX4) (T := TX4) (N := 30) hx hb hts iX4 tyX4 tyX4_ok nmX4 hown hK hP hD hS 0 rfl rfl 2 (by decide) (hts (.fieldLink RX4 7 "PunchedTicketModel" "wish" "[I") (List.mem_of_getElem? (i := 5) rfl)) (fun _ h9 => h9) rfl hin rfl (by decide +kernel) rfl rfl (Nat.le_of_ble_eq_true rfl) dX4_init_8 (fun H locs hP hD hS => ?_)
  have hP : va_P D vwCl [(h0, .inr (4, [.int 0, .int 0, .ref q_1, .null, .null, .null, .null, .null, .null, .null, .int 0, .int 0, .null, .int 0, .int 0, .int 0, .null, .null, .null, .int 0, .int 0, .null, .null, .int 0, .null, .null, .null, .long 0, .null, .null])), (q_1, .inl (cI, 5, .inl (fun _ => 0)))] H := hP
  have hD : va_D A [(h0, .inr (4, [.int 0, .int 0, .ref q_1, .null, .null, .null, .null, .null, .null, .null, .int 0, .int 0, .null, .int 0, .int 0, .int 0, .null, .null, .null, .int 0, .int 0, .null, .null, .int 0, .null, .null, .null, .long 0, .null, .null])), (q_1, .inl (cI, 5, .inl (fun _ => 0)))] := hD
  refine lv_aload_n hx hb dX4_init_11 rfl (lv_at hl 0 rfl) ?_
  refine lv_iconst (v := 5) hx hb dX4_init_12 (by decide) ?_
  refine newI hx hb (hts (.arrayClass .int) (List.mem_of_getElem? (i := 4) rfl)) hK hP hD hS hA 5 (by decide) (by decide) (by decide) (by rw [hR]; exact Nat.le_of_ble_eq_true rfl) (by rw [hR]; exact Nat.le_of_ble_eq_true rfl) dX4_init_13 (fun q_2 H hP hD hS => ?_)
  have hP : va_P D vwCl [(h0, .inr (4, [.int 0, .int 0, .ref q_1, .null, .null, .null, .null, .null, .null, .null, .int 0, .int 0, .null, .int 0, .int 0, .int 0, .null, .null, .null, .int 0, .int 0, .null, .null, .int 0, .null, .null, .null, .long 0, .null, .null])), (q_1, .inl (cI, 5, .inl (fun _ => 0))), (q_2, .inl (cI, 5, .inl (fun _ => 0)))] H := hP
  have hD : va_D A [(h0, .inr (4, [.int 0, .int 0, .ref q_1, .null, .null, .null, .null, .null, .null, .null, .int 0, .int 0, .null, .int 0, .int 0, .int 0, .null, .null, .null, .int 0, .int 0, .null, .null, .int 0, .null, .null, .null, .long 0, .null, .null])), (q_1, .inl (cI, 5, .inl (fun _ => 0))), (q_2, .inl (cI, 5, .inl (fun _ => 0)))] := hD
  refine W.widen (k := 2) (n := 10) (by omega) (by omega) ?_
  refine va_putF (D := D) (ci := 4) (v := .ref q_2) (ty := (.array .int)) (C := RX4) (T := TX4) (N := 30) hx hb hts iX4 tyX4 tyX4_ok nmX4 hown hK hP hD hS 0 rfl rfl 3 (by decide) (hts (.fieldLink RX4 13 "PunchedTicketModel" "kind" "[I") (List.mem_of_getElem? (i := 6) rfl)) (fun _ h9 => h9) rfl hin rfl (by decide +kernel) rfl rfl (Nat.le_of_ble_eq_true rfl) dX4_init_15 (fun H locs hP hD hS => ?_)
  have hP : va_P D vwCl [(h0, .inr (4, [.int 0, .int 0, .ref q_1, .ref q_2, .null, .null, .null, .null, .null, .null, .int 0, .int 0, .null, .int 0, .int 0, .int 0, .null, .null, .null, .int 0, .int 0, .null, .null, .int 0, .null, .null, .null, .long 0, .null, .null])), (q_1, .inl (cI, 5, .inl (fun _ => 0))), (q_2, .inl (cI, 5, .inl (fun _ => 0)))] H := hP
  have hD : va_D A [(h0, .inr (4, [.int 0, .int 0, .ref q_1, .ref q_2, .null, .null, .null, .null, .null, .null, .int 0, .int 0, .null, .int 0, .int 0, .int 0, .null, .null, .null, .int 0, .int 0, .null, .null, .int 0, .null, .null, .null, .long 0, .null, .null])), (q_1, .inl (cI, 5, .inl (fun _ => 0))), (q_2, .inl (cI, 5, .inl (fun _ => 0)))] := hD
  refine lv_aload_n hx hb dX4_init_18 rfl (lv_at hl 0 rfl) ?_
  refine lv_bipush (v := 7) hx hb dX4_init_19 (by decide) ?_
  refine newI hx hb (hts (.arrayClass .int) (List.mem_of_getElem? (i := 4) rfl)) hK hP hD hS hA 7 (by decide) (by decide) (by decide) (by rw [hR]; exact Nat.le_of_ble_eq_true rfl) (by rw [hR]; exact Nat.le_of_ble_eq_true rfl) dX4_init_21 (fun q_3 H hP hD hS => ?_)
  have hP : va_P D vwCl [(h0, .inr (4, [.int 0, .int 0, .ref q_1, .ref q_2, .null, .null, .null, .null, .null, .null, .int 0, .int 0, .null, .int 0, .int 0, .int 0, .null, .null, .null, .int 0, .int 0, .null, .null, .int 0, .null, .null, .null, .long 0, .null, .null])), (q_1, .inl (cI, 5, .inl (fun _ => 0))), (q_2, .inl (cI, 5, .inl (fun _ => 0))), (q_3, .inl (cI, 7, .inl (fun _ => 0)))] H := hP
  have hD : va_D A [(h0, .inr (4, [.int 0, .int 0, .ref q_1, .ref q_2, .null, .null, .null, .null, .null, .null, .int 0, .int 0, .null, .int 0, .int 0, .int 0, .null, .null, .null, .int 0, .int 0, .null, .null, .int 0, .null, .null, .null, .long 0, .null, .null])), (q_1, .inl (cI, 5, .inl (fun _ => 0))), (q_2, .inl (cI, 5, .inl (fun _ => 0))), (q_3, .inl (cI, 7, .inl (fun _ => 0)))] := hD
  refine W.widen (k := 3) (n := 17) (by omega) (by omega) ?_
  refine va_putF (D := D) (ci := 4) (v := .ref q_3) (ty := (.array .int)) (C := RX4) (T := TX4) (N := 30) hx hb hts iX4 tyX4 tyX4_ok nmX4 hown hK hP hD hS 0 rfl rfl 4 (by decide) (hts (.fieldLink RX4 16 "PunchedTicketModel" "seat" "[I") (List.mem_of_getElem? (i := 7) rfl)) (fun _ h9 => h9) rfl hin rfl (by decide +kernel) rfl rfl (Nat.le_of_ble_eq_true rfl) dX4_init_23 (fun H locs hP hD hS => ?_)
  have hP : va_P D vwCl [(h0, .inr (4, [.int 0, .int 0, .ref q_1, .ref q_2, .ref q_3, .null, .null, .null, .null, .null, .int 0, .int 0, .null, .int 0, .int 0, .int 0, .null, .null, .null, .int 0, .int 0, .null, .null, .int 0, .null, .null, .null, .long 0, .null, .null])), (q_1, .inl (cI, 5, .inl (fun _ => 0))), (q_2, .inl (cI, 5, .inl (fun _ => 0))), (q_3, .inl (cI, 7, .inl (fun _ => 0)))] H := hP
  have hD : va_D A [(h0, .inr (4, [.int 0, .int 0, .ref q_1, .ref q_2, .ref q_3, .null, .null, .null, .null, .null, .int 0, .int 0, .null, .int 0, .int 0, .int 0, .null, .null, .null, .int 0, .int 0, .null, .null, .int 0, .null, .null, .null, .long 0, .null, .null])), (q_1, .inl (cI, 5, .inl (fun _ => 0))), (q_2, .inl (cI, 5, .inl (fun _ => 0))), (q_3, .inl (cI, 7, .inl (fun _ => 0)))] := hD
  refine lv_aload_n hx hb dX4_init_26 rfl (lv_at hl 0 rfl) ?_
  refine lv_bipush (v := 96) hx hb dX4_init_27 (by decide) ?_
  refine newI hx hb (hts (.arrayClass .int) (List.mem_of_getElem? (i := 4) rfl)) hK hP hD hS hA 96 (by decide) (by decide) (by decide) (by rw [hR]; exact Nat.le_of_ble_eq_true rfl) (by rw [hR]; exact Nat.le_of_ble_eq_true rfl) dX4_init_29 (fun q_4 H hP hD hS => ?_)
  have hP : va_P D vwCl [(h0, .inr (4, [.int 0, .int 0, .ref q_1, .ref q_2, .ref q_3, .null, .null, .null, .null, .null, .int 0, .int 0, .null, .int 0, .int 0, .int 0, .null, .null, .null, .int 0, .int 0, .null, .null, .int 0, .null, .null, .null, .long 0, .null, .null])), (q_1, .inl (cI, 5, .inl (fun _ => 0))), (q_2, .inl (cI, 5, .inl (fun _ => 0))), (q_3, .inl (cI, 7, .inl (fun _ => 0))), (q_4, .inl (cI, 96, .inl (fun _ => 0)))] H := hP
  have hD : va_D A [(h0, .inr (4, [.int 0, .int 0, .ref q_1, .ref q_2, .ref q_3, .null, .null, .null, .null, .null, .int 0, .int 0, .null, .int 0, .int 0, .int 0, .null, .null, .null, .int 0, .int 0, .null, .null, .int 0, .null, .null, .null, .long 0, .null, .null])), (q_1, .inl (cI, 5, .inl (fun _ => 0))), (q_2, .inl (cI, 5, .inl (fun _ => 0))), (q_3, .inl (cI, 7, .inl (fun _ => 0))), (q_4, .inl (cI, 96, .inl (fun _ => 0)))] := hD
  refine W.widen (k := 4) (n := 113) (by omega) (by omega) ?_
  refine va_putF (D := D) (ci := 4) (v := .ref q_4) (ty := (.array .int)) (C := RX4) (T := TX4) (N := 30) hx hb hts iX4 tyX4 tyX4_ok nmX4 hown hK hP hD hS 0 rfl rfl 5 (by decide) (hts (.fieldLink RX4 19 "PunchedTicketModel" "now" "[I") (List.mem_of_getElem? (i := 8) rfl)) (fun _ h9 => h9) rfl hin rfl (by decide +kernel) rfl rfl (Nat.le_of_ble_eq_true rfl) dX4_init_31 (fun H locs hP hD hS => ?_)
  have hP : va_P D vwCl [(h0, .inr (4, [.int 0, .int 0, .ref q_1, .ref q_2, .ref q_3, .ref q_4, .null, .null, .null, .null, .int 0, .int 0, .null, .int 0, .int 0, .int 0, .null, .null, .null, .int 0, .int 0, .null, .null, .int 0, .null, .null, .null, .long 0, .null, .null])), (q_1, .inl (cI, 5, .inl (fun _ => 0))), (q_2, .inl (cI, 5, .inl (fun _ => 0))), (q_3, .inl (cI, 7, .inl (fun _ => 0))), (q_4, .inl (cI, 96, .inl (fun _ => 0)))] H := hP
  have hD : va_D A [(h0, .inr (4, [.int 0, .int 0, .ref q_1, .ref q_2, .ref q_3, .ref q_4, .null, .null, .null, .null, .int 0, .int 0, .null, .int 0, .int 0, .int 0, .null, .null, .null, .int 0, .int 0, .null, .null, .int 0, .null, .null, .null, .long 0, .null, .null])), (q_1, .inl (cI, 5, .inl (fun _ => 0))), (q_2, .inl (cI, 5, .inl (fun _ => 0))), (q_3, .inl (cI, 7, .inl (fun _ => 0))), (q_4, .inl (cI, 96, .inl (fun _ => 0)))] := hD
  refine lv_aload_n hx hb dX4_init_34 rfl (lv_at hl 0 rfl) ?_
  refine lv_iconst (v := 5) hx hb dX4_init_35 (by decide) ?_
  refine newI hx hb (hts (.arrayClass .int) (List.mem_of_getElem? (i := 4) rfl)) hK hP hD hS hA 5 (by decide) (by decide) (by decide) (by rw [hR]; exact Nat.le_of_ble_eq_true rfl) (by rw [hR]; exact Nat.le_of_ble_eq_true rfl) dX4_init_36 (fun q_5 H hP hD hS => ?_)
  have hP : va_P D vwCl [(h0, .inr (4, [.int 0, .int 0, .ref q_1, .ref q_2, .ref q_3, .ref q_4, .null, .null, .null, .null, .int 0, .int 0, .null, .int 0, .int 0, .int 0, .null, .null, .null, .int 0, .int 0, .null, .null, .int 0, .null, .null, .null, .long 0, .null, .null])), (q_1, .inl (cI, 5, .inl (fun _ => 0))), (q_2, .inl (cI, 5, .inl (fun _ => 0))), (q_3, .inl (cI, 7, .inl (fun _ => 0))), (q_4, .inl (cI, 96, .inl (fun _ => 0))), (q_5, .inl (cI, 5, .inl (fun _ => 0)))] H := hP
  have hD : va_D A [(h0, .inr (4, [.int 0, .int 0, .ref q_1, .ref q_2, .ref q_3, .ref q_4, .null, .null, .null, .null, .int 0, .int 0, .null, .int 0, .int 0, .int 0, .null, .null, .null, .int 0, .int 0, .null, .null, .int 0, .null, .null, .null, .long 0, .null, .null])), (q_1, .inl (cI, 5, .inl (fun _ => 0))), (q_2, .inl (cI, 5, .inl (fun _ => 0))), (q_3, .inl (cI, 7, .inl (fun _ => 0))), (q_4, .inl (cI, 96, .inl (fun _ => 0))), (q_5, .inl (cI, 5, .inl (fun _ => 0)))] := hD
  refine W.widen (k := 5) (n := 118) (by omega) (by omega) ?_
  refine va_putF (D := D) (ci := 4) (v := .ref q_5) (ty := (.array .int)) (C := RX4) (T := TX4) (N := 30) hx hb hts iX4 tyX4 tyX4_ok nmX4 hown hK hP hD hS 0 rfl rfl 6 (by decide) (hts (.fieldLink RX4 22 "PunchedTicketModel" "readHome" "[I") (List.mem_of_getElem? (i := 9) rfl)) (fun _ h9 => h9) rfl hin rfl (by decide +kernel) rfl rfl (Nat.le_of_ble_eq_true rfl) dX4_init_38 (fun H locs hP hD hS => ?_)
  have hP : va_P D vwCl [(h0, .inr (4, [.int 0, .int 0, .ref q_1, .ref q_2, .ref q_3, .ref q_4, .ref q_5, .null, .null, .null, .int 0, .int 0, .null, .int 0, .int 0, .int 0, .null, .null, .null, .int 0, .int 0, .null, .null, .int 0, .null, .null, .null, .long 0, .null, .null])), (q_1, .inl (cI, 5, .inl (fun _ => 0))), (q_2, .inl (cI, 5, .inl (fun _ => 0))), (q_3, .inl (cI, 7, .inl (fun _ => 0))), (q_4, .inl (cI, 96, .inl (fun _ => 0))), (q_5, .inl (cI, 5, .inl (fun _ => 0)))] H := hP
  have hD : va_D A [(h0, .inr (4, [.int 0, .int 0, .ref q_1, .ref q_2, .ref q_3, .ref q_4, .ref q_5, .null, .null, .null, .int 0, .int 0, .null, .int 0, .int 0, .int 0, .null, .null, .null, .int 0, .int 0, .null, .null, .int 0, .null, .null, .null, .long 0, .null, .null])), (q_1, .inl (cI, 5, .inl (fun _ => 0))), (q_2, .inl (cI, 5, .inl (fun _ => 0))), (q_3, .inl (cI, 7, .inl (fun _ => 0))), (q_4, .inl (cI, 96, .inl (fun _ => 0))), (q_5, .inl (cI, 5, .inl (fun _ => 0)))] := hD
  refine lv_aload_n hx hb dX4_init_41 rfl (lv_at hl 0 rfl) ?_
  refine lv_iconst (v := 5) hx hb dX4_init_42 (by decide) ?_
  refine newI hx hb (hts (.arrayClass .int) (List.mem_of_getElem? (i := 4) rfl)) hK hP hD hS hA 5 (by decide) (by decide) (by decide) (by rw [hR]; exact Nat.le_of_ble_eq_true rfl) (by rw [hR]; exact Nat.le_of_ble_eq_true rfl) dX4_init_43 (fun q_6 H hP hD hS => ?_)
  have hP : va_P D vwCl [(h0, .inr (4, [.int 0, .int 0, .ref q_1, .ref q_2, .ref q_3, .ref q_4, .ref q_5, .null, .null, .null, .int 0, .int 0, .null, .int 0, .int 0, .int 0, .null, .null, .null, .int 0, .int 0, .null, .null, .int 0, .null, .null, .null, .long 0, .null, .null])), (q_1, .inl (cI, 5, .inl (fun _ => 0))), (q_2, .inl (cI, 5, .inl (fun _ => 0))), (q_3, .inl (cI, 7, .inl (fun _ => 0))), (q_4, .inl (cI, 96, .inl (fun _ => 0))), (q_5, .inl (cI, 5, .inl (fun _ => 0))), (q_6, .inl (cI, 5, .inl (fun _ => 0)))] H := hP
  have hD : va_D A [(h0, .inr (4, [.int 0, .int 0, .ref q_1, .ref q_2, .ref q_3, .ref q_4, .ref q_5, .null, .null, .null, .int 0, .int 0, .null, .int 0, .int 0, .int 0, .null, .null, .null, .int 0, .int 0, .null, .null, .int 0, .null, .null, .null, .long 0, .null, .null])), (q_1, .inl (cI, 5, .inl (fun _ => 0))), (q_2, .inl (cI, 5, .inl (fun _ => 0))), (q_3, .inl (cI, 7, .inl (fun _ => 0))), (q_4, .inl (cI, 96, .inl (fun _ => 0))), (q_5, .inl (cI, 5, .inl (fun _ => 0))), (q_6, .inl (cI, 5, .inl (fun _ => 0)))] := hD
  refine W.widen (k := 6) (n := 123) (by omega) (by omega) ?_
  refine va_putF (D := D) (ci := 4) (v := .ref q_6) (ty := (.array .int)) (C := RX4) (T := TX4) (N := 30) hx hb hts iX4 tyX4 tyX4_ok nmX4 hown hK hP hD hS 0 rfl rfl 7 (by decide) (hts (.fieldLink RX4 25 "PunchedTicketModel" "readWish" "[I") (List.mem_of_getElem? (i := 10) rfl)) (fun _ h9 => h9) rfl hin rfl (by decide +kernel) rfl rfl (Nat.le_of_ble_eq_true rfl) dX4_init_45 (fun H locs hP hD hS => ?_)
  have hP : va_P D vwCl [(h0, .inr (4, [.int 0, .int 0, .ref q_1, .ref q_2, .ref q_3, .ref q_4, .ref q_5, .ref q_6, .null, .null, .int 0, .int 0, .null, .int 0, .int 0, .int 0, .null, .null, .null, .int 0, .int 0, .null, .null, .int 0, .null, .null, .null, .long 0, .null, .null])), (q_1, .inl (cI, 5, .inl (fun _ => 0))), (q_2, .inl (cI, 5, .inl (fun _ => 0))), (q_3, .inl (cI, 7, .inl (fun _ => 0))), (q_4, .inl (cI, 96, .inl (fun _ => 0))), (q_5, .inl (cI, 5, .inl (fun _ => 0))), (q_6, .inl (cI, 5, .inl (fun _ => 0)))] H := hP
  have hD : va_D A [(h0, .inr (4, [.int 0, .int 0, .ref q_1, .ref q_2, .ref q_3, .ref q_4, .ref q_5, .ref q_6, .null, .null, .int 0, .int 0, .null, .int 0, .int 0, .int 0, .null, .null, .null, .int 0, .int 0, .null, .null, .int 0, .null, .null, .null, .long 0, .null, .null])), (q_1, .inl (cI, 5, .inl (fun _ => 0))), (q_2, .inl (cI, 5, .inl (fun _ => 0))), (q_3, .inl (cI, 7, .inl (fun _ => 0))), (q_4, .inl (cI, 96, .inl (fun _ => 0))), (q_5, .inl (cI, 5, .inl (fun _ => 0))), (q_6, .inl (cI, 5, .inl (fun _ => 0)))] := hD
  refine lv_aload_n hx hb dX4_init_48 rfl (lv_at hl 0 rfl) ?_
  refine lv_iconst (v := 5) hx hb dX4_init_49 (by decide) ?_
  refine newI hx hb (hts (.arrayClass .int) (List.mem_of_getElem? (i := 4) rfl)) hK hP hD hS hA 5 (by decide) (by decide) (by decide) (by rw [hR]; exact Nat.le_of_ble_eq_true rfl) (by rw [hR]; exact Nat.le_of_ble_eq_true rfl) dX4_init_50 (fun q_7 H hP hD hS => ?_)
  have hP : va_P D vwCl [(h0, .inr (4, [.int 0, .int 0, .ref q_1, .ref q_2, .ref q_3, .ref q_4, .ref q_5, .ref q_6, .null, .null, .int 0, .int 0, .null, .int 0, .int 0, .int 0, .null, .null, .null, .int 0, .int 0, .null, .null, .int 0, .null, .null, .null, .long 0, .null, .null])), (q_1, .inl (cI, 5, .inl (fun _ => 0))), (q_2, .inl (cI, 5, .inl (fun _ => 0))), (q_3, .inl (cI, 7, .inl (fun _ => 0))), (q_4, .inl (cI, 96, .inl (fun _ => 0))), (q_5, .inl (cI, 5, .inl (fun _ => 0))), (q_6, .inl (cI, 5, .inl (fun _ => 0))), (q_7, .inl (cI, 5, .inl (fun _ => 0)))] H := hP
  have hD : va_D A [(h0, .inr (4, [.int 0, .int 0, .ref q_1, .ref q_2, .ref q_3, .ref q_4, .ref q_5, .ref q_6, .null, .null, .int 0, .int 0, .null, .int 0, .int 0, .int 0, .null, .null, .null, .int 0, .int 0, .null, .null, .int 0, .null, .null, .null, .long 0, .null, .null])), (q_1, .inl (cI, 5, .inl (fun _ => 0))), (q_2, .inl (cI, 5, .inl (fun _ => 0))), (q_3, .inl (cI, 7, .inl (fun _ => 0))), (q_4, .inl (cI, 96, .inl (fun _ => 0))), (q_5, .inl (cI, 5, .inl (fun _ => 0))), (q_6, .inl (cI, 5, .inl (fun _ => 0))), (q_7, .inl (cI, 5, .inl (fun _ => 0)))] := hD
  refine W.widen (k := 7) (n := 128) (by omega) (by omega) ?_
  refine va_putF (D := D) (ci := 4) (v := .ref q_7) (ty := (.array .int)) (C := RX4) (T := TX4) (N := 30) hx hb hts iX4 tyX4 tyX4_ok nmX4 hown hK hP hD hS 0 rfl rfl 8 (by decide) (hts (.fieldLink RX4 28 "PunchedTicketModel" "readKind" "[I") (List.mem_of_getElem? (i := 11) rfl)) (fun _ h9 => h9) rfl hin rfl (by decide +kernel) rfl rfl (Nat.le_of_ble_eq_true rfl) dX4_init_52 (fun H locs hP hD hS => ?_)
  have hP : va_P D vwCl [(h0, .inr (4, [.int 0, .int 0, .ref q_1, .ref q_2, .ref q_3, .ref q_4, .ref q_5, .ref q_6, .ref q_7, .null, .int 0, .int 0, .null, .int 0, .int 0, .int 0, .null, .null, .null, .int 0, .int 0, .null, .null, .int 0, .null, .null, .null, .long 0, .null, .null])), (q_1, .inl (cI, 5, .inl (fun _ => 0))), (q_2, .inl (cI, 5, .inl (fun _ => 0))), (q_3, .inl (cI, 7, .inl (fun _ => 0))), (q_4, .inl (cI, 96, .inl (fun _ => 0))), (q_5, .inl (cI, 5, .inl (fun _ => 0))), (q_6, .inl (cI, 5, .inl (fun _ => 0))), (q_7, .inl (cI, 5, .inl (fun _ => 0)))] H := hP
  have hD : va_D A [(h0, .inr (4, [.int 0, .int 0, .ref q_1, .ref q_2, .ref q_3, .ref q_4, .ref q_5, .ref q_6, .ref q_7, .null, .int 0, .int 0, .null, .int 0, .int 0, .int 0, .null, .null, .null, .int 0, .int 0, .null, .null, .int 0, .null, .null, .null, .long 0, .null, .null])), (q_1, .inl (cI, 5, .inl (fun _ => 0))), (q_2, .inl (cI, 5, .inl (fun _ => 0))), (q_3, .inl (cI, 7, .inl (fun _ => 0))), (q_4, .inl (cI, 96, .inl (fun _ => 0))), (q_5, .inl (cI, 5, .inl (fun _ => 0))), (q_6, .inl (cI, 5, .inl (fun _ => 0))), (q_7, .inl (cI, 5, .inl (fun _ => 0)))] := hD
  refine lv_aload_n hx hb dX4_init_55 rfl (lv_at hl 0 rfl) ?_
  refine lv_bipush (v := 30) hx hb dX4_init_56 (by decide) ?_
  refine newI hx hb (hts (.arrayClass .int) (List.mem_of_getElem? (i := 4) rfl)) hK hP hD hS hA 30 (by decide) (by decide) (by decide) (by rw [hR]; exact Nat.le_of_ble_eq_true rfl) (by rw [hR]; exact Nat.le_of_ble_eq_true rfl) dX4_init_58 (fun q_8 H hP hD hS => ?_)
  have hP : va_P D vwCl [(h0, .inr (4, [.int 0, .int 0, .ref q_1, .ref q_2, .ref q_3, .ref q_4, .ref q_5, .ref q_6, .ref q_7, .null, .int 0, .int 0, .null, .int 0, .int 0, .int 0, .null, .null, .null, .int 0, .int 0, .null, .null, .int 0, .null, .null, .null, .long 0, .null, .null])), (q_1, .inl (cI, 5, .inl (fun _ => 0))), (q_2, .inl (cI, 5, .inl (fun _ => 0))), (q_3, .inl (cI, 7, .inl (fun _ => 0))), (q_4, .inl (cI, 96, .inl (fun _ => 0))), (q_5, .inl (cI, 5, .inl (fun _ => 0))), (q_6, .inl (cI, 5, .inl (fun _ => 0))), (q_7, .inl (cI, 5, .inl (fun _ => 0))), (q_8, .inl (cI, 30, .inl (fun _ => 0)))] H := hP
  have hD : va_D A [(h0, .inr (4, [.int 0, .int 0, .ref q_1, .ref q_2, .ref q_3, .ref q_4, .ref q_5, .ref q_6, .ref q_7, .null, .int 0, .int 0, .null, .int 0, .int 0, .int 0, .null, .null, .null, .int 0, .int 0, .null, .null, .int 0, .null, .null, .null, .long 0, .null, .null])), (q_1, .inl (cI, 5, .inl (fun _ => 0))), (q_2, .inl (cI, 5, .inl (fun _ => 0))), (q_3, .inl (cI, 7, .inl (fun _ => 0))), (q_4, .inl (cI, 96, .inl (fun _ => 0))), (q_5, .inl (cI, 5, .inl (fun _ => 0))), (q_6, .inl (cI, 5, .inl (fun _ => 0))), (q_7, .inl (cI, 5, .inl (fun _ => 0))), (q_8, .inl (cI, 30, .inl (fun _ => 0)))] := hD
  refine W.widen (k := 8) (n := 158) (by omega) (by omega) ?_
  refine va_putF (D := D) (ci := 4) (v := .ref q_8) (ty := (.array .int)) (C := RX4) (T := TX4) (N := 30) hx hb hts iX4 tyX4 tyX4_ok nmX4 hown hK hP hD hS 0 rfl rfl 9 (by decide) (hts (.fieldLink RX4 31 "PunchedTicketModel" "readTicket" "[I") (List.mem_of_getElem? (i := 12) rfl)) (fun _ h9 => h9) rfl hin rfl (by decide +kernel) rfl rfl (Nat.le_of_ble_eq_true rfl) dX4_init_60 (fun H locs hP hD hS => ?_)
  have hP : va_P D vwCl [(h0, .inr (4, [.int 0, .int 0, .ref q_1, .ref q_2, .ref q_3, .ref q_4, .ref q_5, .ref q_6, .ref q_7, .ref q_8, .int 0, .int 0, .null, .int 0, .int 0, .int 0, .null, .null, .null, .int 0, .int 0, .null, .null, .int 0, .null, .null, .null, .long 0, .null, .null])), (q_1, .inl (cI, 5, .inl (fun _ => 0))), (q_2, .inl (cI, 5, .inl (fun _ => 0))), (q_3, .inl (cI, 7, .inl (fun _ => 0))), (q_4, .inl (cI, 96, .inl (fun _ => 0))), (q_5, .inl (cI, 5, .inl (fun _ => 0))), (q_6, .inl (cI, 5, .inl (fun _ => 0))), (q_7, .inl (cI, 5, .inl (fun _ => 0))), (q_8, .inl (cI, 30, .inl (fun _ => 0)))] H := hP
  have hD : va_D A [(h0, .inr (4, [.int 0, .int 0, .ref q_1, .ref q_2, .ref q_3, .ref q_4, .ref q_5, .ref q_6, .ref q_7, .ref q_8, .int 0, .int 0, .null, .int 0, .int 0, .int 0, .null, .null, .null, .int 0, .int 0, .null, .null, .int 0, .null, .null, .null, .long 0, .null, .null])), (q_1, .inl (cI, 5, .inl (fun _ => 0))), (q_2, .inl (cI, 5, .inl (fun _ => 0))), (q_3, .inl (cI, 7, .inl (fun _ => 0))), (q_4, .inl (cI, 96, .inl (fun _ => 0))), (q_5, .inl (cI, 5, .inl (fun _ => 0))), (q_6, .inl (cI, 5, .inl (fun _ => 0))), (q_7, .inl (cI, 5, .inl (fun _ => 0))), (q_8, .inl (cI, 30, .inl (fun _ => 0)))] := hD
  refine lv_aload_n hx hb dX4_init_63 rfl (lv_at hl 0 rfl) ?_
  refine lv_bipush (v := 64) hx hb dX4_init_64 (by decide) ?_
  refine newI hx hb (hts (.arrayClass .int) (List.mem_of_getElem? (i := 4) rfl)) hK hP hD hS hA 64 (by decide) (by decide) (by decide) (by rw [hR]; exact Nat.le_of_ble_eq_true rfl) (by rw [hR]; exact Nat.le_of_ble_eq_true rfl) dX4_init_66 (fun q_9 H hP hD hS => ?_)
  have hP : va_P D vwCl [(h0, .inr (4, [.int 0, .int 0, .ref q_1, .ref q_2, .ref q_3, .ref q_4, .ref q_5, .ref q_6, .ref q_7, .ref q_8, .int 0, .int 0, .null, .int 0, .int 0, .int 0, .null, .null, .null, .int 0, .int 0, .null, .null, .int 0, .null, .null, .null, .long 0, .null, .null])), (q_1, .inl (cI, 5, .inl (fun _ => 0))), (q_2, .inl (cI, 5, .inl (fun _ => 0))), (q_3, .inl (cI, 7, .inl (fun _ => 0))), (q_4, .inl (cI, 96, .inl (fun _ => 0))), (q_5, .inl (cI, 5, .inl (fun _ => 0))), (q_6, .inl (cI, 5, .inl (fun _ => 0))), (q_7, .inl (cI, 5, .inl (fun _ => 0))), (q_8, .inl (cI, 30, .inl (fun _ => 0))), (q_9, .inl (cI, 64, .inl (fun _ => 0)))] H := hP
  have hD : va_D A [(h0, .inr (4, [.int 0, .int 0, .ref q_1, .ref q_2, .ref q_3, .ref q_4, .ref q_5, .ref q_6, .ref q_7, .ref q_8, .int 0, .int 0, .null, .int 0, .int 0, .int 0, .null, .null, .null, .int 0, .int 0, .null, .null, .int 0, .null, .null, .null, .long 0, .null, .null])), (q_1, .inl (cI, 5, .inl (fun _ => 0))), (q_2, .inl (cI, 5, .inl (fun _ => 0))), (q_3, .inl (cI, 7, .inl (fun _ => 0))), (q_4, .inl (cI, 96, .inl (fun _ => 0))), (q_5, .inl (cI, 5, .inl (fun _ => 0))), (q_6, .inl (cI, 5, .inl (fun _ => 0))), (q_7, .inl (cI, 5, .inl (fun _ => 0))), (q_8, .inl (cI, 30, .inl (fun _ => 0))), (q_9, .inl (cI, 64, .inl (fun _ => 0)))] := hD
  refine W.widen (k := 9) (n := 222) (by omega) (by omega) ?_
  refine va_putF (D := D) (ci := 4) (v := .ref q_9) (ty := (.array .int)) (C := RX4) (T := TX4) (N := 30) hx hb hts iX4 tyX4 tyX4_ok nmX4 hown hK hP hD hS 0 rfl rfl 12 (by decide) (hts (.fieldLink RX4 34 "PunchedTicketModel" "text" "[I") (List.mem_of_getElem? (i := 13) rfl)) (fun _ h9 => h9) rfl hin rfl (by decide +kernel) rfl rfl (Nat.le_of_ble_eq_true rfl) dX4_init_68 (fun H locs hP hD hS => ?_)
  have hP : va_P D vwCl [(h0, .inr (4, [.int 0, .int 0, .ref q_1, .ref q_2, .ref q_3, .ref q_4, .ref q_5, .ref q_6, .ref q_7, .ref q_8, .int 0, .int 0, .ref q_9, .int 0, .int 0, .int 0, .null, .null, .null, .int 0, .int 0, .null, .null, .int 0, .null, .null, .null, .long 0, .null, .null])), (q_1, .inl (cI, 5, .inl (fun _ => 0))), (q_2, .inl (cI, 5, .inl (fun _ => 0))), (q_3, .inl (cI, 7, .inl (fun _ => 0))), (q_4, .inl (cI, 96, .inl (fun _ => 0))), (q_5, .inl (cI, 5, .inl (fun _ => 0))), (q_6, .inl (cI, 5, .inl (fun _ => 0))), (q_7, .inl (cI, 5, .inl (fun _ => 0))), (q_8, .inl (cI, 30, .inl (fun _ => 0))), (q_9, .inl (cI, 64, .inl (fun _ => 0)))] H := hP
  have hD : va_D A [(h0, .inr (4, [.int 0, .int 0, .ref q_1, .ref q_2, .ref q_3, .ref q_4, .ref q_5, .ref q_6, .ref q_7, .ref q_8, .int 0, .int 0, .ref q_9, .int 0, .int 0, .int 0, .null, .null, .null, .int 0, .int 0, .null, .null, .int 0, .null, .null, .null, .long 0, .null, .null])), (q_1, .inl (cI, 5, .inl (fun _ => 0))), (q_2, .inl (cI, 5, .inl (fun _ => 0))), (q_3, .inl (cI, 7, .inl (fun _ => 0))), (q_4, .inl (cI, 96, .inl (fun _ => 0))), (q_5, .inl (cI, 5, .inl (fun _ => 0))), (q_6, .inl (cI, 5, .inl (fun _ => 0))), (q_7, .inl (cI, 5, .inl (fun _ => 0))), (q_8, .inl (cI, 30, .inl (fun _ => 0))), (q_9, .inl (cI, 64, .inl (fun _ => 0)))] := hD
  refine lv_aload_n hx hb dX4_init_71 rfl (lv_at hl 0 rfl) ?_
  refine lv_iconst (v := 5) hx hb dX4_init_72 (by decide) ?_
  refine newI hx hb (hts (.arrayClass .int) (List.mem_of_getElem? (i := 4) rfl)) hK hP hD hS hA 5 (by decide) (by decide) (by decide) (by rw [hR]; exact Nat.le_of_ble_eq_true rfl) (by rw [hR]; exact Nat.le_of_ble_eq_true rfl) dX4_init_73 (fun q_10 H hP hD hS => ?_)
  have hP : va_P D vwCl [(h0, .inr (4, [.int 0, .int 0, .ref q_1, .ref q_2, .ref q_3, .ref q_4, .ref q_5, .ref q_6, .ref q_7, .ref q_8, .int 0, .int 0, .ref q_9, .int 0, .int 0, .int 0, .null, .null, .null, .int 0, .int 0, .null, .null, .int 0, .null, .null, .null, .long 0, .null, .null])), (q_1, .inl (cI, 5, .inl (fun _ => 0))), (q_2, .inl (cI, 5, .inl (fun _ => 0))), (q_3, .inl (cI, 7, .inl (fun _ => 0))), (q_4, .inl (cI, 96, .inl (fun _ => 0))), (q_5, .inl (cI, 5, .inl (fun _ => 0))), (q_6, .inl (cI, 5, .inl (fun _ => 0))), (q_7, .inl (cI, 5, .inl (fun _ => 0))), (q_8, .inl (cI, 30, .inl (fun _ => 0))), (q_9, .inl (cI, 64, .inl (fun _ => 0))), (q_10, .inl (cI, 5, .inl (fun _ => 0)))] H := hP
  have hD : va_D A [(h0, .inr (4, [.int 0, .int 0, .ref q_1, .ref q_2, .ref q_3, .ref q_4, .ref q_5, .ref q_6, .ref q_7, .ref q_8, .int 0, .int 0, .ref q_9, .int 0, .int 0, .int 0, .null, .null, .null, .int 0, .int 0, .null, .null, .int 0, .null, .null, .null, .long 0, .null, .null])), (q_1, .inl (cI, 5, .inl (fun _ => 0))), (q_2, .inl (cI, 5, .inl (fun _ => 0))), (q_3, .inl (cI, 7, .inl (fun _ => 0))), (q_4, .inl (cI, 96, .inl (fun _ => 0))), (q_5, .inl (cI, 5, .inl (fun _ => 0))), (q_6, .inl (cI, 5, .inl (fun _ => 0))), (q_7, .inl (cI, 5, .inl (fun _ => 0))), (q_8, .inl (cI, 30, .inl (fun _ => 0))), (q_9, .inl (cI, 64, .inl (fun _ => 0))), (q_10, .inl (cI, 5, .inl (fun _ => 0)))] := hD
  refine W.widen (k := 10) (n := 227) (by omega) (by omega) ?_
  refine va_putF (D := D) (ci := 4) (v := .ref q_10) (ty := (.array .int)) (C := RX4) (T := TX4) (N := 30) hx hb hts iX4 tyX4 tyX4_ok nmX4 hown hK hP hD hS 0 rfl rfl 16 (by decide) (hts (.fieldLink RX4 37 "PunchedTicketModel" "by" "[I") (List.mem_of_getElem? (i := 14) rfl)) (fun _ h9 => h9) rfl hin rfl (by decide +kernel) rfl rfl (Nat.le_of_ble_eq_true rfl) dX4_init_75 (fun H locs hP hD hS => ?_)
  have hP : va_P D vwCl [(h0, .inr (4, [.int 0, .int 0, .ref q_1, .ref q_2, .ref q_3, .ref q_4, .ref q_5, .ref q_6, .ref q_7, .ref q_8, .int 0, .int 0, .ref q_9, .int 0, .int 0, .int 0, .ref q_10, .null, .null, .int 0, .int 0, .null, .null, .int 0, .null, .null, .null, .long 0, .null, .null])), (q_1, .inl (cI, 5, .inl (fun _ => 0))), (q_2, .inl (cI, 5, .inl (fun _ => 0))), (q_3, .inl (cI, 7, .inl (fun _ => 0))), (q_4, .inl (cI, 96, .inl (fun _ => 0))), (q_5, .inl (cI, 5, .inl (fun _ => 0))), (q_6, .inl (cI, 5, .inl (fun _ => 0))), (q_7, .inl (cI, 5, .inl (fun _ => 0))), (q_8, .inl (cI, 30, .inl (fun _ => 0))), (q_9, .inl (cI, 64, .inl (fun _ => 0))), (q_10, .inl (cI, 5, .inl (fun _ => 0)))] H := hP
  have hD : va_D A [(h0, .inr (4, [.int 0, .int 0, .ref q_1, .ref q_2, .ref q_3, .ref q_4, .ref q_5, .ref q_6, .ref q_7, .ref q_8, .int 0, .int 0, .ref q_9, .int 0, .int 0, .int 0, .ref q_10, .null, .null, .int 0, .int 0, .null, .null, .int 0, .null, .null, .null, .long 0, .null, .null])), (q_1, .inl (cI, 5, .inl (fun _ => 0))), (q_2, .inl (cI, 5, .inl (fun _ => 0))), (q_3, .inl (cI, 7, .inl (fun _ => 0))), (q_4, .inl (cI, 96, .inl (fun _ => 0))), (q_5, .inl (cI, 5, .inl (fun _ => 0))), (q_6, .inl (cI, 5, .inl (fun _ => 0))), (q_7, .inl (cI, 5, .inl (fun _ => 0))), (q_8, .inl (cI, 30, .inl (fun _ => 0))), (q_9, .inl (cI, 64, .inl (fun _ => 0))), (q_10, .inl (cI, 5, .inl (fun _ => 0)))] := hD
  refine lv_aload_n hx hb dX4_init_78 rfl (lv_at hl 0 rfl) ?_
  refine lv_iconst (v := 5) hx hb dX4_init_79 (by decide) ?_
  refine newI hx hb (hts (.arrayClass .int) (List.mem_of_getElem? (i := 4) rfl)) hK hP hD hS hA 5 (by decide) (by decide) (by decide) (by rw [hR]; exact Nat.le_of_ble_eq_true rfl) (by rw [hR]; exact Nat.le_of_ble_eq_true rfl) dX4_init_80 (fun q_11 H hP hD hS => ?_)
  have hP : va_P D vwCl [(h0, .inr (4, [.int 0, .int 0, .ref q_1, .ref q_2, .ref q_3, .ref q_4, .ref q_5, .ref q_6, .ref q_7, .ref q_8, .int 0, .int 0, .ref q_9, .int 0, .int 0, .int 0, .ref q_10, .null, .null, .int 0, .int 0, .null, .null, .int 0, .null, .null, .null, .long 0, .null, .null])), (q_1, .inl (cI, 5, .inl (fun _ => 0))), (q_2, .inl (cI, 5, .inl (fun _ => 0))), (q_3, .inl (cI, 7, .inl (fun _ => 0))), (q_4, .inl (cI, 96, .inl (fun _ => 0))), (q_5, .inl (cI, 5, .inl (fun _ => 0))), (q_6, .inl (cI, 5, .inl (fun _ => 0))), (q_7, .inl (cI, 5, .inl (fun _ => 0))), (q_8, .inl (cI, 30, .inl (fun _ => 0))), (q_9, .inl (cI, 64, .inl (fun _ => 0))), (q_10, .inl (cI, 5, .inl (fun _ => 0))), (q_11, .inl (cI, 5, .inl (fun _ => 0)))] H := hP
  have hD : va_D A [(h0, .inr (4, [.int 0, .int 0, .ref q_1, .ref q_2, .ref q_3, .ref q_4, .ref q_5, .ref q_6, .ref q_7, .ref q_8, .int 0, .int 0, .ref q_9, .int 0, .int 0, .int 0, .ref q_10, .null, .null, .int 0, .int 0, .null, .null, .int 0, .null, .null, .null, .long 0, .null, .null])), (q_1, .inl (cI, 5, .inl (fun _ => 0))), (q_2, .inl (cI, 5, .inl (fun _ => 0))), (q_3, .inl (cI, 7, .inl (fun _ => 0))), (q_4, .inl (cI, 96, .inl (fun _ => 0))), (q_5, .inl (cI, 5, .inl (fun _ => 0))), (q_6, .inl (cI, 5, .inl (fun _ => 0))), (q_7, .inl (cI, 5, .inl (fun _ => 0))), (q_8, .inl (cI, 30, .inl (fun _ => 0))), (q_9, .inl (cI, 64, .inl (fun _ => 0))), (q_10, .inl (cI, 5, .inl (fun _ => 0))), (q_11, .inl (cI, 5, .inl (fun _ => 0)))] := hD
  refine W.widen (k := 11) (n := 232) (by omega) (by omega) ?_
  refine va_putF (D := D) (ci := 4) (v := .ref q_11) (ty := (.array .int)) (C := RX4) (T := TX4) (N := 30) hx hb hts iX4 tyX4 tyX4_ok nmX4 hown hK hP hD hS 0 rfl rfl 17 (by decide) (hts (.fieldLink RX4 40 "PunchedTicketModel" "low" "[I") (List.mem_of_getElem? (i := 15) rfl)) (fun _ h9 => h9) rfl hin rfl (by decide +kernel) rfl rfl (Nat.le_of_ble_eq_true rfl) dX4_init_82 (fun H locs hP hD hS => ?_)
  have hP : va_P D vwCl [(h0, .inr (4, [.int 0, .int 0, .ref q_1, .ref q_2, .ref q_3, .ref q_4, .ref q_5, .ref q_6, .ref q_7, .ref q_8, .int 0, .int 0, .ref q_9, .int 0, .int 0, .int 0, .ref q_10, .ref q_11, .null, .int 0, .int 0, .null, .null, .int 0, .null, .null, .null, .long 0, .null, .null])), (q_1, .inl (cI, 5, .inl (fun _ => 0))), (q_2, .inl (cI, 5, .inl (fun _ => 0))), (q_3, .inl (cI, 7, .inl (fun _ => 0))), (q_4, .inl (cI, 96, .inl (fun _ => 0))), (q_5, .inl (cI, 5, .inl (fun _ => 0))), (q_6, .inl (cI, 5, .inl (fun _ => 0))), (q_7, .inl (cI, 5, .inl (fun _ => 0))), (q_8, .inl (cI, 30, .inl (fun _ => 0))), (q_9, .inl (cI, 64, .inl (fun _ => 0))), (q_10, .inl (cI, 5, .inl (fun _ => 0))), (q_11, .inl (cI, 5, .inl (fun _ => 0)))] H := hP
  have hD : va_D A [(h0, .inr (4, [.int 0, .int 0, .ref q_1, .ref q_2, .ref q_3, .ref q_4, .ref q_5, .ref q_6, .ref q_7, .ref q_8, .int 0, .int 0, .ref q_9, .int 0, .int 0, .int 0, .ref q_10, .ref q_11, .null, .int 0, .int 0, .null, .null, .int 0, .null, .null, .null, .long 0, .null, .null])), (q_1, .inl (cI, 5, .inl (fun _ => 0))), (q_2, .inl (cI, 5, .inl (fun _ => 0))), (q_3, .inl (cI, 7, .inl (fun _ => 0))), (q_4, .inl (cI, 96, .inl (fun _ => 0))), (q_5, .inl (cI, 5, .inl (fun _ => 0))), (q_6, .inl (cI, 5, .inl (fun _ => 0))), (q_7, .inl (cI, 5, .inl (fun _ => 0))), (q_8, .inl (cI, 30, .inl (fun _ => 0))), (q_9, .inl (cI, 64, .inl (fun _ => 0))), (q_10, .inl (cI, 5, .inl (fun _ => 0))), (q_11, .inl (cI, 5, .inl (fun _ => 0)))] := hD
  refine lv_aload_n hx hb dX4_init_85 rfl (lv_at hl 0 rfl) ?_
  refine lv_iconst (v := 5) hx hb dX4_init_86 (by decide) ?_
  refine newI hx hb (hts (.arrayClass .int) (List.mem_of_getElem? (i := 4) rfl)) hK hP hD hS hA 5 (by decide) (by decide) (by decide) (by rw [hR]; exact Nat.le_of_ble_eq_true rfl) (by rw [hR]; exact Nat.le_of_ble_eq_true rfl) dX4_init_87 (fun q_12 H hP hD hS => ?_)
  have hP : va_P D vwCl [(h0, .inr (4, [.int 0, .int 0, .ref q_1, .ref q_2, .ref q_3, .ref q_4, .ref q_5, .ref q_6, .ref q_7, .ref q_8, .int 0, .int 0, .ref q_9, .int 0, .int 0, .int 0, .ref q_10, .ref q_11, .null, .int 0, .int 0, .null, .null, .int 0, .null, .null, .null, .long 0, .null, .null])), (q_1, .inl (cI, 5, .inl (fun _ => 0))), (q_2, .inl (cI, 5, .inl (fun _ => 0))), (q_3, .inl (cI, 7, .inl (fun _ => 0))), (q_4, .inl (cI, 96, .inl (fun _ => 0))), (q_5, .inl (cI, 5, .inl (fun _ => 0))), (q_6, .inl (cI, 5, .inl (fun _ => 0))), (q_7, .inl (cI, 5, .inl (fun _ => 0))), (q_8, .inl (cI, 30, .inl (fun _ => 0))), (q_9, .inl (cI, 64, .inl (fun _ => 0))), (q_10, .inl (cI, 5, .inl (fun _ => 0))), (q_11, .inl (cI, 5, .inl (fun _ => 0))), (q_12, .inl (cI, 5, .inl (fun _ => 0)))] H := hP
  have hD : va_D A [(h0, .inr (4, [.int 0, .int 0, .ref q_1, .ref q_2, .ref q_3, .ref q_4, .ref q_5, .ref q_6, .ref q_7, .ref q_8, .int 0, .int 0, .ref q_9, .int 0, .int 0, .int 0, .ref q_10, .ref q_11, .null, .int 0, .int 0, .null, .null, .int 0, .null, .null, .null, .long 0, .null, .null])), (q_1, .inl (cI, 5, .inl (fun _ => 0))), (q_2, .inl (cI, 5, .inl (fun _ => 0))), (q_3, .inl (cI, 7, .inl (fun _ => 0))), (q_4, .inl (cI, 96, .inl (fun _ => 0))), (q_5, .inl (cI, 5, .inl (fun _ => 0))), (q_6, .inl (cI, 5, .inl (fun _ => 0))), (q_7, .inl (cI, 5, .inl (fun _ => 0))), (q_8, .inl (cI, 30, .inl (fun _ => 0))), (q_9, .inl (cI, 64, .inl (fun _ => 0))), (q_10, .inl (cI, 5, .inl (fun _ => 0))), (q_11, .inl (cI, 5, .inl (fun _ => 0))), (q_12, .inl (cI, 5, .inl (fun _ => 0)))] := hD
  refine W.widen (k := 12) (n := 237) (by omega) (by omega) ?_
  refine va_putF (D := D) (ci := 4) (v := .ref q_12) (ty := (.array .int)) (C := RX4) (T := TX4) (N := 30) hx hb hts iX4 tyX4 tyX4_ok nmX4 hown hK hP hD hS 0 rfl rfl 18 (by decide) (hts (.fieldLink RX4 43 "PunchedTicketModel" "high" "[I") (List.mem_of_getElem? (i := 16) rfl)) (fun _ h9 => h9) rfl hin rfl (by decide +kernel) rfl rfl (Nat.le_of_ble_eq_true rfl) dX4_init_89 (fun H locs hP hD hS => ?_)
  have hP : va_P D vwCl [(h0, .inr (4, [.int 0, .int 0, .ref q_1, .ref q_2, .ref q_3, .ref q_4, .ref q_5, .ref q_6, .ref q_7, .ref q_8, .int 0, .int 0, .ref q_9, .int 0, .int 0, .int 0, .ref q_10, .ref q_11, .ref q_12, .int 0, .int 0, .null, .null, .int 0, .null, .null, .null, .long 0, .null, .null])), (q_1, .inl (cI, 5, .inl (fun _ => 0))), (q_2, .inl (cI, 5, .inl (fun _ => 0))), (q_3, .inl (cI, 7, .inl (fun _ => 0))), (q_4, .inl (cI, 96, .inl (fun _ => 0))), (q_5, .inl (cI, 5, .inl (fun _ => 0))), (q_6, .inl (cI, 5, .inl (fun _ => 0))), (q_7, .inl (cI, 5, .inl (fun _ => 0))), (q_8, .inl (cI, 30, .inl (fun _ => 0))), (q_9, .inl (cI, 64, .inl (fun _ => 0))), (q_10, .inl (cI, 5, .inl (fun _ => 0))), (q_11, .inl (cI, 5, .inl (fun _ => 0))), (q_12, .inl (cI, 5, .inl (fun _ => 0)))] H := hP
  have hD : va_D A [(h0, .inr (4, [.int 0, .int 0, .ref q_1, .ref q_2, .ref q_3, .ref q_4, .ref q_5, .ref q_6, .ref q_7, .ref q_8, .int 0, .int 0, .ref q_9, .int 0, .int 0, .int 0, .ref q_10, .ref q_11, .ref q_12, .int 0, .int 0, .null, .null, .int 0, .null, .null, .null, .long 0, .null, .null])), (q_1, .inl (cI, 5, .inl (fun _ => 0))), (q_2, .inl (cI, 5, .inl (fun _ => 0))), (q_3, .inl (cI, 7, .inl (fun _ => 0))), (q_4, .inl (cI, 96, .inl (fun _ => 0))), (q_5, .inl (cI, 5, .inl (fun _ => 0))), (q_6, .inl (cI, 5, .inl (fun _ => 0))), (q_7, .inl (cI, 5, .inl (fun _ => 0))), (q_8, .inl (cI, 30, .inl (fun _ => 0))), (q_9, .inl (cI, 64, .inl (fun _ => 0))), (q_10, .inl (cI, 5, .inl (fun _ => 0))), (q_11, .inl (cI, 5, .inl (fun _ => 0))), (q_12, .inl (cI, 5, .inl (fun _ => 0)))] := hD
  refine lv_aload_n hx hb dX4_init_92 rfl (lv_at hl 0 rfl) ?_
  refine lv_sipush (v := 672) hx hb dX4_init_93 (by decide) ?_
  refine newI hx hb (hts (.arrayClass .int) (List.mem_of_getElem? (i := 4) rfl)) hK hP hD hS hA 672 (by decide) (by decide) (by decide) (by rw [hR]; exact Nat.le_of_ble_eq_true rfl) (by rw [hR]; exact Nat.le_of_ble_eq_true rfl) dX4_init_96 (fun q_13 H hP hD hS => ?_)
  have hP : va_P D vwCl [(h0, .inr (4, [.int 0, .int 0, .ref q_1, .ref q_2, .ref q_3, .ref q_4, .ref q_5, .ref q_6, .ref q_7, .ref q_8, .int 0, .int 0, .ref q_9, .int 0, .int 0, .int 0, .ref q_10, .ref q_11, .ref q_12, .int 0, .int 0, .null, .null, .int 0, .null, .null, .null, .long 0, .null, .null])), (q_1, .inl (cI, 5, .inl (fun _ => 0))), (q_2, .inl (cI, 5, .inl (fun _ => 0))), (q_3, .inl (cI, 7, .inl (fun _ => 0))), (q_4, .inl (cI, 96, .inl (fun _ => 0))), (q_5, .inl (cI, 5, .inl (fun _ => 0))), (q_6, .inl (cI, 5, .inl (fun _ => 0))), (q_7, .inl (cI, 5, .inl (fun _ => 0))), (q_8, .inl (cI, 30, .inl (fun _ => 0))), (q_9, .inl (cI, 64, .inl (fun _ => 0))), (q_10, .inl (cI, 5, .inl (fun _ => 0))), (q_11, .inl (cI, 5, .inl (fun _ => 0))), (q_12, .inl (cI, 5, .inl (fun _ => 0))), (q_13, .inl (cI, 672, .inl (fun _ => 0)))] H := hP
  have hD : va_D A [(h0, .inr (4, [.int 0, .int 0, .ref q_1, .ref q_2, .ref q_3, .ref q_4, .ref q_5, .ref q_6, .ref q_7, .ref q_8, .int 0, .int 0, .ref q_9, .int 0, .int 0, .int 0, .ref q_10, .ref q_11, .ref q_12, .int 0, .int 0, .null, .null, .int 0, .null, .null, .null, .long 0, .null, .null])), (q_1, .inl (cI, 5, .inl (fun _ => 0))), (q_2, .inl (cI, 5, .inl (fun _ => 0))), (q_3, .inl (cI, 7, .inl (fun _ => 0))), (q_4, .inl (cI, 96, .inl (fun _ => 0))), (q_5, .inl (cI, 5, .inl (fun _ => 0))), (q_6, .inl (cI, 5, .inl (fun _ => 0))), (q_7, .inl (cI, 5, .inl (fun _ => 0))), (q_8, .inl (cI, 30, .inl (fun _ => 0))), (q_9, .inl (cI, 64, .inl (fun _ => 0))), (q_10, .inl (cI, 5, .inl (fun _ => 0))), (q_11, .inl (cI, 5, .inl (fun _ => 0))), (q_12, .inl (cI, 5, .inl (fun _ => 0))), (q_13, .inl (cI, 672, .inl (fun _ => 0)))] := hD
  refine W.widen (k := 13) (n := 909) (by omega) (by omega) ?_
  refine va_putF (D := D) (ci := 4) (v := .ref q_13) (ty := (.array .int)) (C := RX4) (T := TX4) (N := 30) hx hb hts iX4 tyX4 tyX4_ok nmX4 hown hK hP hD hS 0 rfl rfl 21 (by decide) (hts (.fieldLink RX4 46 "PunchedTicketModel" "row" "[I") (List.mem_of_getElem? (i := 17) rfl)) (fun _ h9 => h9) rfl hin rfl (by decide +kernel) rfl rfl (Nat.le_of_ble_eq_true rfl) dX4_init_98 (fun H locs hP hD hS => ?_)
  have hP : va_P D vwCl [(h0, .inr (4, [.int 0, .int 0, .ref q_1, .ref q_2, .ref q_3, .ref q_4, .ref q_5, .ref q_6, .ref q_7, .ref q_8, .int 0, .int 0, .ref q_9, .int 0, .int 0, .int 0, .ref q_10, .ref q_11, .ref q_12, .int 0, .int 0, .ref q_13, .null, .int 0, .null, .null, .null, .long 0, .null, .null])), (q_1, .inl (cI, 5, .inl (fun _ => 0))), (q_2, .inl (cI, 5, .inl (fun _ => 0))), (q_3, .inl (cI, 7, .inl (fun _ => 0))), (q_4, .inl (cI, 96, .inl (fun _ => 0))), (q_5, .inl (cI, 5, .inl (fun _ => 0))), (q_6, .inl (cI, 5, .inl (fun _ => 0))), (q_7, .inl (cI, 5, .inl (fun _ => 0))), (q_8, .inl (cI, 30, .inl (fun _ => 0))), (q_9, .inl (cI, 64, .inl (fun _ => 0))), (q_10, .inl (cI, 5, .inl (fun _ => 0))), (q_11, .inl (cI, 5, .inl (fun _ => 0))), (q_12, .inl (cI, 5, .inl (fun _ => 0))), (q_13, .inl (cI, 672, .inl (fun _ => 0)))] H := hP
  have hD : va_D A [(h0, .inr (4, [.int 0, .int 0, .ref q_1, .ref q_2, .ref q_3, .ref q_4, .ref q_5, .ref q_6, .ref q_7, .ref q_8, .int 0, .int 0, .ref q_9, .int 0, .int 0, .int 0, .ref q_10, .ref q_11, .ref q_12, .int 0, .int 0, .ref q_13, .null, .int 0, .null, .null, .null, .long 0, .null, .null])), (q_1, .inl (cI, 5, .inl (fun _ => 0))), (q_2, .inl (cI, 5, .inl (fun _ => 0))), (q_3, .inl (cI, 7, .inl (fun _ => 0))), (q_4, .inl (cI, 96, .inl (fun _ => 0))), (q_5, .inl (cI, 5, .inl (fun _ => 0))), (q_6, .inl (cI, 5, .inl (fun _ => 0))), (q_7, .inl (cI, 5, .inl (fun _ => 0))), (q_8, .inl (cI, 30, .inl (fun _ => 0))), (q_9, .inl (cI, 64, .inl (fun _ => 0))), (q_10, .inl (cI, 5, .inl (fun _ => 0))), (q_11, .inl (cI, 5, .inl (fun _ => 0))), (q_12, .inl (cI, 5, .inl (fun _ => 0))), (q_13, .inl (cI, 672, .inl (fun _ => 0)))] := hD
  refine lv_aload_n hx hb dX4_init_101 rfl (lv_at hl 0 rfl) ?_
  refine lv_bipush (v := 64) hx hb dX4_init_102 (by decide) ?_
  refine newI hx hb (hts (.arrayClass .int) (List.mem_of_getElem? (i := 4) rfl)) hK hP hD hS hA 64 (by decide) (by decide) (by decide) (by rw [hR]; exact Nat.le_of_ble_eq_true rfl) (by rw [hR]; exact Nat.le_of_ble_eq_true rfl) dX4_init_104 (fun q_14 H hP hD hS => ?_)
  have hP : va_P D vwCl [(h0, .inr (4, [.int 0, .int 0, .ref q_1, .ref q_2, .ref q_3, .ref q_4, .ref q_5, .ref q_6, .ref q_7, .ref q_8, .int 0, .int 0, .ref q_9, .int 0, .int 0, .int 0, .ref q_10, .ref q_11, .ref q_12, .int 0, .int 0, .ref q_13, .null, .int 0, .null, .null, .null, .long 0, .null, .null])), (q_1, .inl (cI, 5, .inl (fun _ => 0))), (q_2, .inl (cI, 5, .inl (fun _ => 0))), (q_3, .inl (cI, 7, .inl (fun _ => 0))), (q_4, .inl (cI, 96, .inl (fun _ => 0))), (q_5, .inl (cI, 5, .inl (fun _ => 0))), (q_6, .inl (cI, 5, .inl (fun _ => 0))), (q_7, .inl (cI, 5, .inl (fun _ => 0))), (q_8, .inl (cI, 30, .inl (fun _ => 0))), (q_9, .inl (cI, 64, .inl (fun _ => 0))), (q_10, .inl (cI, 5, .inl (fun _ => 0))), (q_11, .inl (cI, 5, .inl (fun _ => 0))), (q_12, .inl (cI, 5, .inl (fun _ => 0))), (q_13, .inl (cI, 672, .inl (fun _ => 0))), (q_14, .inl (cI, 64, .inl (fun _ => 0)))] H := hP
  have hD : va_D A [(h0, .inr (4, [.int 0, .int 0, .ref q_1, .ref q_2, .ref q_3, .ref q_4, .ref q_5, .ref q_6, .ref q_7, .ref q_8, .int 0, .int 0, .ref q_9, .int 0, .int 0, .int 0, .ref q_10, .ref q_11, .ref q_12, .int 0, .int 0, .ref q_13, .null, .int 0, .null, .null, .null, .long 0, .null, .null])), (q_1, .inl (cI, 5, .inl (fun _ => 0))), (q_2, .inl (cI, 5, .inl (fun _ => 0))), (q_3, .inl (cI, 7, .inl (fun _ => 0))), (q_4, .inl (cI, 96, .inl (fun _ => 0))), (q_5, .inl (cI, 5, .inl (fun _ => 0))), (q_6, .inl (cI, 5, .inl (fun _ => 0))), (q_7, .inl (cI, 5, .inl (fun _ => 0))), (q_8, .inl (cI, 30, .inl (fun _ => 0))), (q_9, .inl (cI, 64, .inl (fun _ => 0))), (q_10, .inl (cI, 5, .inl (fun _ => 0))), (q_11, .inl (cI, 5, .inl (fun _ => 0))), (q_12, .inl (cI, 5, .inl (fun _ => 0))), (q_13, .inl (cI, 672, .inl (fun _ => 0))), (q_14, .inl (cI, 64, .inl (fun _ => 0)))] := hD
  refine W.widen (k := 14) (n := 973) (by omega) (by omega) ?_
  refine va_putF (D := D) (ci := 4) (v := .ref q_14) (ty := (.array .int)) (C := RX4) (T := TX4) (N := 30) hx hb hts iX4 tyX4 tyX4_ok nmX4 hown hK hP hD hS 0 rfl rfl 22 (by decide) (hts (.fieldLink RX4 49 "PunchedTicketModel" "glads" "[I") (List.mem_of_getElem? (i := 18) rfl)) (fun _ h9 => h9) rfl hin rfl (by decide +kernel) rfl rfl (Nat.le_of_ble_eq_true rfl) dX4_init_106 (fun H locs hP hD hS => ?_)
  have hP : va_P D vwCl [(h0, .inr (4, [.int 0, .int 0, .ref q_1, .ref q_2, .ref q_3, .ref q_4, .ref q_5, .ref q_6, .ref q_7, .ref q_8, .int 0, .int 0, .ref q_9, .int 0, .int 0, .int 0, .ref q_10, .ref q_11, .ref q_12, .int 0, .int 0, .ref q_13, .ref q_14, .int 0, .null, .null, .null, .long 0, .null, .null])), (q_1, .inl (cI, 5, .inl (fun _ => 0))), (q_2, .inl (cI, 5, .inl (fun _ => 0))), (q_3, .inl (cI, 7, .inl (fun _ => 0))), (q_4, .inl (cI, 96, .inl (fun _ => 0))), (q_5, .inl (cI, 5, .inl (fun _ => 0))), (q_6, .inl (cI, 5, .inl (fun _ => 0))), (q_7, .inl (cI, 5, .inl (fun _ => 0))), (q_8, .inl (cI, 30, .inl (fun _ => 0))), (q_9, .inl (cI, 64, .inl (fun _ => 0))), (q_10, .inl (cI, 5, .inl (fun _ => 0))), (q_11, .inl (cI, 5, .inl (fun _ => 0))), (q_12, .inl (cI, 5, .inl (fun _ => 0))), (q_13, .inl (cI, 672, .inl (fun _ => 0))), (q_14, .inl (cI, 64, .inl (fun _ => 0)))] H := hP
  have hD : va_D A [(h0, .inr (4, [.int 0, .int 0, .ref q_1, .ref q_2, .ref q_3, .ref q_4, .ref q_5, .ref q_6, .ref q_7, .ref q_8, .int 0, .int 0, .ref q_9, .int 0, .int 0, .int 0, .ref q_10, .ref q_11, .ref q_12, .int 0, .int 0, .ref q_13, .ref q_14, .int 0, .null, .null, .null, .long 0, .null, .null])), (q_1, .inl (cI, 5, .inl (fun _ => 0))), (q_2, .inl (cI, 5, .inl (fun _ => 0))), (q_3, .inl (cI, 7, .inl (fun _ => 0))), (q_4, .inl (cI, 96, .inl (fun _ => 0))), (q_5, .inl (cI, 5, .inl (fun _ => 0))), (q_6, .inl (cI, 5, .inl (fun _ => 0))), (q_7, .inl (cI, 5, .inl (fun _ => 0))), (q_8, .inl (cI, 30, .inl (fun _ => 0))), (q_9, .inl (cI, 64, .inl (fun _ => 0))), (q_10, .inl (cI, 5, .inl (fun _ => 0))), (q_11, .inl (cI, 5, .inl (fun _ => 0))), (q_12, .inl (cI, 5, .inl (fun _ => 0))), (q_13, .inl (cI, 672, .inl (fun _ => 0))), (q_14, .inl (cI, 64, .inl (fun _ => 0)))] := hD
  refine lv_aload_n hx hb dX4_init_109 rfl (lv_at hl 0 rfl) ?_
  refine lv_bipush (v := 6) hx hb dX4_init_110 (by decide) ?_
  refine newI hx hb (hts (.arrayClass .int) (List.mem_of_getElem? (i := 4) rfl)) hK hP hD hS hA 6 (by decide) (by decide) (by decide) (by rw [hR]; exact Nat.le_of_ble_eq_true rfl) (by rw [hR]; exact Nat.le_of_ble_eq_true rfl) dX4_init_112 (fun q_15 H hP hD hS => ?_)
  have hP : va_P D vwCl [(h0, .inr (4, [.int 0, .int 0, .ref q_1, .ref q_2, .ref q_3, .ref q_4, .ref q_5, .ref q_6, .ref q_7, .ref q_8, .int 0, .int 0, .ref q_9, .int 0, .int 0, .int 0, .ref q_10, .ref q_11, .ref q_12, .int 0, .int 0, .ref q_13, .ref q_14, .int 0, .null, .null, .null, .long 0, .null, .null])), (q_1, .inl (cI, 5, .inl (fun _ => 0))), (q_2, .inl (cI, 5, .inl (fun _ => 0))), (q_3, .inl (cI, 7, .inl (fun _ => 0))), (q_4, .inl (cI, 96, .inl (fun _ => 0))), (q_5, .inl (cI, 5, .inl (fun _ => 0))), (q_6, .inl (cI, 5, .inl (fun _ => 0))), (q_7, .inl (cI, 5, .inl (fun _ => 0))), (q_8, .inl (cI, 30, .inl (fun _ => 0))), (q_9, .inl (cI, 64, .inl (fun _ => 0))), (q_10, .inl (cI, 5, .inl (fun _ => 0))), (q_11, .inl (cI, 5, .inl (fun _ => 0))), (q_12, .inl (cI, 5, .inl (fun _ => 0))), (q_13, .inl (cI, 672, .inl (fun _ => 0))), (q_14, .inl (cI, 64, .inl (fun _ => 0))), (q_15, .inl (cI, 6, .inl (fun _ => 0)))] H := hP
  have hD : va_D A [(h0, .inr (4, [.int 0, .int 0, .ref q_1, .ref q_2, .ref q_3, .ref q_4, .ref q_5, .ref q_6, .ref q_7, .ref q_8, .int 0, .int 0, .ref q_9, .int 0, .int 0, .int 0, .ref q_10, .ref q_11, .ref q_12, .int 0, .int 0, .ref q_13, .ref q_14, .int 0, .null, .null, .null, .long 0, .null, .null])), (q_1, .inl (cI, 5, .inl (fun _ => 0))), (q_2, .inl (cI, 5, .inl (fun _ => 0))), (q_3, .inl (cI, 7, .inl (fun _ => 0))), (q_4, .inl (cI, 96, .inl (fun _ => 0))), (q_5, .inl (cI, 5, .inl (fun _ => 0))), (q_6, .inl (cI, 5, .inl (fun _ => 0))), (q_7, .inl (cI, 5, .inl (fun _ => 0))), (q_8, .inl (cI, 30, .inl (fun _ => 0))), (q_9, .inl (cI, 64, .inl (fun _ => 0))), (q_10, .inl (cI, 5, .inl (fun _ => 0))), (q_11, .inl (cI, 5, .inl (fun _ => 0))), (q_12, .inl (cI, 5, .inl (fun _ => 0))), (q_13, .inl (cI, 672, .inl (fun _ => 0))), (q_14, .inl (cI, 64, .inl (fun _ => 0))), (q_15, .inl (cI, 6, .inl (fun _ => 0)))] := hD
  refine W.widen (k := 15) (n := 979) (by omega) (by omega) ?_
  refine va_putF (D := D) (ci := 4) (v := .ref q_15) (ty := (.array .int)) (C := RX4) (T := TX4) (N := 30) hx hb hts iX4 tyX4 tyX4_ok nmX4 hown hK hP hD hS 0 rfl rfl 24 (by decide) (hts (.fieldLink RX4 52 "PunchedTicketModel" "seenOf" "[I") (List.mem_of_getElem? (i := 19) rfl)) (fun _ h9 => h9) rfl hin rfl (by decide +kernel) rfl rfl (Nat.le_of_ble_eq_true rfl) dX4_init_114 (fun H locs hP hD hS => ?_)
  have hP : va_P D vwCl [(h0, .inr (4, [.int 0, .int 0, .ref q_1, .ref q_2, .ref q_3, .ref q_4, .ref q_5, .ref q_6, .ref q_7, .ref q_8, .int 0, .int 0, .ref q_9, .int 0, .int 0, .int 0, .ref q_10, .ref q_11, .ref q_12, .int 0, .int 0, .ref q_13, .ref q_14, .int 0, .ref q_15, .null, .null, .long 0, .null, .null])), (q_1, .inl (cI, 5, .inl (fun _ => 0))), (q_2, .inl (cI, 5, .inl (fun _ => 0))), (q_3, .inl (cI, 7, .inl (fun _ => 0))), (q_4, .inl (cI, 96, .inl (fun _ => 0))), (q_5, .inl (cI, 5, .inl (fun _ => 0))), (q_6, .inl (cI, 5, .inl (fun _ => 0))), (q_7, .inl (cI, 5, .inl (fun _ => 0))), (q_8, .inl (cI, 30, .inl (fun _ => 0))), (q_9, .inl (cI, 64, .inl (fun _ => 0))), (q_10, .inl (cI, 5, .inl (fun _ => 0))), (q_11, .inl (cI, 5, .inl (fun _ => 0))), (q_12, .inl (cI, 5, .inl (fun _ => 0))), (q_13, .inl (cI, 672, .inl (fun _ => 0))), (q_14, .inl (cI, 64, .inl (fun _ => 0))), (q_15, .inl (cI, 6, .inl (fun _ => 0)))] H := hP
  have hD : va_D A [(h0, .inr (4, [.int 0, .int 0, .ref q_1, .ref q_2, .ref q_3, .ref q_4, .ref q_5, .ref q_6, .ref q_7, .ref q_8, .int 0, .int 0, .ref q_9, .int 0, .int 0, .int 0, .ref q_10, .ref q_11, .ref q_12, .int 0, .int 0, .ref q_13, .ref q_14, .int 0, .ref q_15, .null, .null, .long 0, .null, .null])), (q_1, .inl (cI, 5, .inl (fun _ => 0))), (q_2, .inl (cI, 5, .inl (fun _ => 0))), (q_3, .inl (cI, 7, .inl (fun _ => 0))), (q_4, .inl (cI, 96, .inl (fun _ => 0))), (q_5, .inl (cI, 5, .inl (fun _ => 0))), (q_6, .inl (cI, 5, .inl (fun _ => 0))), (q_7, .inl (cI, 5, .inl (fun _ => 0))), (q_8, .inl (cI, 30, .inl (fun _ => 0))), (q_9, .inl (cI, 64, .inl (fun _ => 0))), (q_10, .inl (cI, 5, .inl (fun _ => 0))), (q_11, .inl (cI, 5, .inl (fun _ => 0))), (q_12, .inl (cI, 5, .inl (fun _ => 0))), (q_13, .inl (cI, 672, .inl (fun _ => 0))), (q_14, .inl (cI, 64, .inl (fun _ => 0))), (q_15, .inl (cI, 6, .inl (fun _ => 0)))] := hD
  refine lv_aload_n hx hb dX4_init_117 rfl (lv_at hl 0 rfl) ?_
  refine lv_bipush (v := 6) hx hb dX4_init_118 (by decide) ?_
  refine newI hx hb (hts (.arrayClass .int) (List.mem_of_getElem? (i := 4) rfl)) hK hP hD hS hA 6 (by decide) (by decide) (by decide) (by rw [hR]; exact Nat.le_of_ble_eq_true rfl) (by rw [hR]; exact Nat.le_of_ble_eq_true rfl) dX4_init_120 (fun q_16 H hP hD hS => ?_)
  have hP : va_P D vwCl [(h0, .inr (4, [.int 0, .int 0, .ref q_1, .ref q_2, .ref q_3, .ref q_4, .ref q_5, .ref q_6, .ref q_7, .ref q_8, .int 0, .int 0, .ref q_9, .int 0, .int 0, .int 0, .ref q_10, .ref q_11, .ref q_12, .int 0, .int 0, .ref q_13, .ref q_14, .int 0, .ref q_15, .null, .null, .long 0, .null, .null])), (q_1, .inl (cI, 5, .inl (fun _ => 0))), (q_2, .inl (cI, 5, .inl (fun _ => 0))), (q_3, .inl (cI, 7, .inl (fun _ => 0))), (q_4, .inl (cI, 96, .inl (fun _ => 0))), (q_5, .inl (cI, 5, .inl (fun _ => 0))), (q_6, .inl (cI, 5, .inl (fun _ => 0))), (q_7, .inl (cI, 5, .inl (fun _ => 0))), (q_8, .inl (cI, 30, .inl (fun _ => 0))), (q_9, .inl (cI, 64, .inl (fun _ => 0))), (q_10, .inl (cI, 5, .inl (fun _ => 0))), (q_11, .inl (cI, 5, .inl (fun _ => 0))), (q_12, .inl (cI, 5, .inl (fun _ => 0))), (q_13, .inl (cI, 672, .inl (fun _ => 0))), (q_14, .inl (cI, 64, .inl (fun _ => 0))), (q_15, .inl (cI, 6, .inl (fun _ => 0))), (q_16, .inl (cI, 6, .inl (fun _ => 0)))] H := hP
  have hD : va_D A [(h0, .inr (4, [.int 0, .int 0, .ref q_1, .ref q_2, .ref q_3, .ref q_4, .ref q_5, .ref q_6, .ref q_7, .ref q_8, .int 0, .int 0, .ref q_9, .int 0, .int 0, .int 0, .ref q_10, .ref q_11, .ref q_12, .int 0, .int 0, .ref q_13, .ref q_14, .int 0, .ref q_15, .null, .null, .long 0, .null, .null])), (q_1, .inl (cI, 5, .inl (fun _ => 0))), (q_2, .inl (cI, 5, .inl (fun _ => 0))), (q_3, .inl (cI, 7, .inl (fun _ => 0))), (q_4, .inl (cI, 96, .inl (fun _ => 0))), (q_5, .inl (cI, 5, .inl (fun _ => 0))), (q_6, .inl (cI, 5, .inl (fun _ => 0))), (q_7, .inl (cI, 5, .inl (fun _ => 0))), (q_8, .inl (cI, 30, .inl (fun _ => 0))), (q_9, .inl (cI, 64, .inl (fun _ => 0))), (q_10, .inl (cI, 5, .inl (fun _ => 0))), (q_11, .inl (cI, 5, .inl (fun _ => 0))), (q_12, .inl (cI, 5, .inl (fun _ => 0))), (q_13, .inl (cI, 672, .inl (fun _ => 0))), (q_14, .inl (cI, 64, .inl (fun _ => 0))), (q_15, .inl (cI, 6, .inl (fun _ => 0))), (q_16, .inl (cI, 6, .inl (fun _ => 0)))] := hD
  refine W.widen (k := 16) (n := 985) (by omega) (by omega) ?_
  refine va_putF (D := D) (ci := 4) (v := .ref q_16) (ty := (.array .int)) (C := RX4) (T := TX4) (N := 30) hx hb hts iX4 tyX4 tyX4_ok nmX4 hown hK hP hD hS 0 rfl rfl 25 (by decide) (hts (.fieldLink RX4 55 "PunchedTicketModel" "seenOn" "[I") (List.mem_of_getElem? (i := 20) rfl)) (fun _ h9 => h9) rfl hin rfl (by decide +kernel) rfl rfl (Nat.le_of_ble_eq_true rfl) dX4_init_122 (fun H locs hP hD hS => ?_)
  have hP : va_P D vwCl [(h0, .inr (4, [.int 0, .int 0, .ref q_1, .ref q_2, .ref q_3, .ref q_4, .ref q_5, .ref q_6, .ref q_7, .ref q_8, .int 0, .int 0, .ref q_9, .int 0, .int 0, .int 0, .ref q_10, .ref q_11, .ref q_12, .int 0, .int 0, .ref q_13, .ref q_14, .int 0, .ref q_15, .ref q_16, .null, .long 0, .null, .null])), (q_1, .inl (cI, 5, .inl (fun _ => 0))), (q_2, .inl (cI, 5, .inl (fun _ => 0))), (q_3, .inl (cI, 7, .inl (fun _ => 0))), (q_4, .inl (cI, 96, .inl (fun _ => 0))), (q_5, .inl (cI, 5, .inl (fun _ => 0))), (q_6, .inl (cI, 5, .inl (fun _ => 0))), (q_7, .inl (cI, 5, .inl (fun _ => 0))), (q_8, .inl (cI, 30, .inl (fun _ => 0))), (q_9, .inl (cI, 64, .inl (fun _ => 0))), (q_10, .inl (cI, 5, .inl (fun _ => 0))), (q_11, .inl (cI, 5, .inl (fun _ => 0))), (q_12, .inl (cI, 5, .inl (fun _ => 0))), (q_13, .inl (cI, 672, .inl (fun _ => 0))), (q_14, .inl (cI, 64, .inl (fun _ => 0))), (q_15, .inl (cI, 6, .inl (fun _ => 0))), (q_16, .inl (cI, 6, .inl (fun _ => 0)))] H := hP
  have hD : va_D A [(h0, .inr (4, [.int 0, .int 0, .ref q_1, .ref q_2, .ref q_3, .ref q_4, .ref q_5, .ref q_6, .ref q_7, .ref q_8, .int 0, .int 0, .ref q_9, .int 0, .int 0, .int 0, .ref q_10, .ref q_11, .ref q_12, .int 0, .int 0, .ref q_13, .ref q_14, .int 0, .ref q_15, .ref q_16, .null, .long 0, .null, .null])), (q_1, .inl (cI, 5, .inl (fun _ => 0))), (q_2, .inl (cI, 5, .inl (fun _ => 0))), (q_3, .inl (cI, 7, .inl (fun _ => 0))), (q_4, .inl (cI, 96, .inl (fun _ => 0))), (q_5, .inl (cI, 5, .inl (fun _ => 0))), (q_6, .inl (cI, 5, .inl (fun _ => 0))), (q_7, .inl (cI, 5, .inl (fun _ => 0))), (q_8, .inl (cI, 30, .inl (fun _ => 0))), (q_9, .inl (cI, 64, .inl (fun _ => 0))), (q_10, .inl (cI, 5, .inl (fun _ => 0))), (q_11, .inl (cI, 5, .inl (fun _ => 0))), (q_12, .inl (cI, 5, .inl (fun _ => 0))), (q_13, .inl (cI, 672, .inl (fun _ => 0))), (q_14, .inl (cI, 64, .inl (fun _ => 0))), (q_15, .inl (cI, 6, .inl (fun _ => 0))), (q_16, .inl (cI, 6, .inl (fun _ => 0)))] := hD
  refine lv_aload_n hx hb dX4_init_125 rfl (lv_at hl 0 rfl) ?_
  refine lv_bipush (v := 6) hx hb dX4_init_126 (by decide) ?_
  refine newI hx hb (hts (.arrayClass .int) (List.mem_of_getElem? (i := 4) rfl)) hK hP hD hS hA 6 (by decide) (by decide) (by decide) (by rw [hR]; exact Nat.le_of_ble_eq_true rfl) (by rw [hR]; exact Nat.le_of_ble_eq_true rfl) dX4_init_128 (fun q_17 H hP hD hS => ?_)
  have hP : va_P D vwCl [(h0, .inr (4, [.int 0, .int 0, .ref q_1, .ref q_2, .ref q_3, .ref q_4, .ref q_5, .ref q_6, .ref q_7, .ref q_8, .int 0, .int 0, .ref q_9, .int 0, .int 0, .int 0, .ref q_10, .ref q_11, .ref q_12, .int 0, .int 0, .ref q_13, .ref q_14, .int 0, .ref q_15, .ref q_16, .null, .long 0, .null, .null])), (q_1, .inl (cI, 5, .inl (fun _ => 0))), (q_2, .inl (cI, 5, .inl (fun _ => 0))), (q_3, .inl (cI, 7, .inl (fun _ => 0))), (q_4, .inl (cI, 96, .inl (fun _ => 0))), (q_5, .inl (cI, 5, .inl (fun _ => 0))), (q_6, .inl (cI, 5, .inl (fun _ => 0))), (q_7, .inl (cI, 5, .inl (fun _ => 0))), (q_8, .inl (cI, 30, .inl (fun _ => 0))), (q_9, .inl (cI, 64, .inl (fun _ => 0))), (q_10, .inl (cI, 5, .inl (fun _ => 0))), (q_11, .inl (cI, 5, .inl (fun _ => 0))), (q_12, .inl (cI, 5, .inl (fun _ => 0))), (q_13, .inl (cI, 672, .inl (fun _ => 0))), (q_14, .inl (cI, 64, .inl (fun _ => 0))), (q_15, .inl (cI, 6, .inl (fun _ => 0))), (q_16, .inl (cI, 6, .inl (fun _ => 0))), (q_17, .inl (cI, 6, .inl (fun _ => 0)))] H := hP
  have hD : va_D A [(h0, .inr (4, [.int 0, .int 0, .ref q_1, .ref q_2, .ref q_3, .ref q_4, .ref q_5, .ref q_6, .ref q_7, .ref q_8, .int 0, .int 0, .ref q_9, .int 0, .int 0, .int 0, .ref q_10, .ref q_11, .ref q_12, .int 0, .int 0, .ref q_13, .ref q_14, .int 0, .ref q_15, .ref q_16, .null, .long 0, .null, .null])), (q_1, .inl (cI, 5, .inl (fun _ => 0))), (q_2, .inl (cI, 5, .inl (fun _ => 0))), (q_3, .inl (cI, 7, .inl (fun _ => 0))), (q_4, .inl (cI, 96, .inl (fun _ => 0))), (q_5, .inl (cI, 5, .inl (fun _ => 0))), (q_6, .inl (cI, 5, .inl (fun _ => 0))), (q_7, .inl (cI, 5, .inl (fun _ => 0))), (q_8, .inl (cI, 30, .inl (fun _ => 0))), (q_9, .inl (cI, 64, .inl (fun _ => 0))), (q_10, .inl (cI, 5, .inl (fun _ => 0))), (q_11, .inl (cI, 5, .inl (fun _ => 0))), (q_12, .inl (cI, 5, .inl (fun _ => 0))), (q_13, .inl (cI, 672, .inl (fun _ => 0))), (q_14, .inl (cI, 64, .inl (fun _ => 0))), (q_15, .inl (cI, 6, .inl (fun _ => 0))), (q_16, .inl (cI, 6, .inl (fun _ => 0))), (q_17, .inl (cI, 6, .inl (fun _ => 0)))] := hD
  refine W.widen (k := 17) (n := 991) (by omega) (by omega) ?_
  refine va_putF (D := D) (ci := 4) (v := .ref q_17) (ty := (.array .int)) (C := RX4) (T := TX4) (N := 30) hx hb hts iX4 tyX4 tyX4_ok nmX4 hown hK hP hD hS 0 rfl rfl 26 (by decide) (hts (.fieldLink RX4 58 "PunchedTicketModel" "seenWhen" "[I") (List.mem_of_getElem? (i := 21) rfl)) (fun _ h9 => h9) rfl hin rfl (by decide +kernel) rfl rfl (Nat.le_of_ble_eq_true rfl) dX4_init_130 (fun H locs hP hD hS => ?_)
  have hP : va_P D vwCl [(h0, .inr (4, [.int 0, .int 0, .ref q_1, .ref q_2, .ref q_3, .ref q_4, .ref q_5, .ref q_6, .ref q_7, .ref q_8, .int 0, .int 0, .ref q_9, .int 0, .int 0, .int 0, .ref q_10, .ref q_11, .ref q_12, .int 0, .int 0, .ref q_13, .ref q_14, .int 0, .ref q_15, .ref q_16, .ref q_17, .long 0, .null, .null])), (q_1, .inl (cI, 5, .inl (fun _ => 0))), (q_2, .inl (cI, 5, .inl (fun _ => 0))), (q_3, .inl (cI, 7, .inl (fun _ => 0))), (q_4, .inl (cI, 96, .inl (fun _ => 0))), (q_5, .inl (cI, 5, .inl (fun _ => 0))), (q_6, .inl (cI, 5, .inl (fun _ => 0))), (q_7, .inl (cI, 5, .inl (fun _ => 0))), (q_8, .inl (cI, 30, .inl (fun _ => 0))), (q_9, .inl (cI, 64, .inl (fun _ => 0))), (q_10, .inl (cI, 5, .inl (fun _ => 0))), (q_11, .inl (cI, 5, .inl (fun _ => 0))), (q_12, .inl (cI, 5, .inl (fun _ => 0))), (q_13, .inl (cI, 672, .inl (fun _ => 0))), (q_14, .inl (cI, 64, .inl (fun _ => 0))), (q_15, .inl (cI, 6, .inl (fun _ => 0))), (q_16, .inl (cI, 6, .inl (fun _ => 0))), (q_17, .inl (cI, 6, .inl (fun _ => 0)))] H := hP
  have hD : va_D A [(h0, .inr (4, [.int 0, .int 0, .ref q_1, .ref q_2, .ref q_3, .ref q_4, .ref q_5, .ref q_6, .ref q_7, .ref q_8, .int 0, .int 0, .ref q_9, .int 0, .int 0, .int 0, .ref q_10, .ref q_11, .ref q_12, .int 0, .int 0, .ref q_13, .ref q_14, .int 0, .ref q_15, .ref q_16, .ref q_17, .long 0, .null, .null])), (q_1, .inl (cI, 5, .inl (fun _ => 0))), (q_2, .inl (cI, 5, .inl (fun _ => 0))), (q_3, .inl (cI, 7, .inl (fun _ => 0))), (q_4, .inl (cI, 96, .inl (fun _ => 0))), (q_5, .inl (cI, 5, .inl (fun _ => 0))), (q_6, .inl (cI, 5, .inl (fun _ => 0))), (q_7, .inl (cI, 5, .inl (fun _ => 0))), (q_8, .inl (cI, 30, .inl (fun _ => 0))), (q_9, .inl (cI, 64, .inl (fun _ => 0))), (q_10, .inl (cI, 5, .inl (fun _ => 0))), (q_11, .inl (cI, 5, .inl (fun _ => 0))), (q_12, .inl (cI, 5, .inl (fun _ => 0))), (q_13, .inl (cI, 672, .inl (fun _ => 0))), (q_14, .inl (cI, 64, .inl (fun _ => 0))), (q_15, .inl (cI, 6, .inl (fun _ => 0))), (q_16, .inl (cI, 6, .inl (fun _ => 0))), (q_17, .inl (cI, 6, .inl (fun _ => 0)))] := hD
  refine lv_aload_n hx hb dX4_init_133 rfl (lv_at hl 0 rfl) ?_
  refine lv_iconst (v := 2) hx hb dX4_init_134 (by decide) ?_
  refine newZ hx hb (hts (.arrayClass .boolean) (List.mem_of_getElem? (i := 22) rfl)) hK hP hD hS hA 2 (by decide) (by decide) (by decide) (by rw [hR]; exact Nat.le_of_ble_eq_true rfl) (by rw [hR]; exact Nat.le_of_ble_eq_true rfl) dX4_init_135 (fun q_18 H hP hD hS => ?_)
  have hP : va_P D vwCl [(h0, .inr (4, [.int 0, .int 0, .ref q_1, .ref q_2, .ref q_3, .ref q_4, .ref q_5, .ref q_6, .ref q_7, .ref q_8, .int 0, .int 0, .ref q_9, .int 0, .int 0, .int 0, .ref q_10, .ref q_11, .ref q_12, .int 0, .int 0, .ref q_13, .ref q_14, .int 0, .ref q_15, .ref q_16, .ref q_17, .long 0, .null, .null])), (q_1, .inl (cI, 5, .inl (fun _ => 0))), (q_2, .inl (cI, 5, .inl (fun _ => 0))), (q_3, .inl (cI, 7, .inl (fun _ => 0))), (q_4, .inl (cI, 96, .inl (fun _ => 0))), (q_5, .inl (cI, 5, .inl (fun _ => 0))), (q_6, .inl (cI, 5, .inl (fun _ => 0))), (q_7, .inl (cI, 5, .inl (fun _ => 0))), (q_8, .inl (cI, 30, .inl (fun _ => 0))), (q_9, .inl (cI, 64, .inl (fun _ => 0))), (q_10, .inl (cI, 5, .inl (fun _ => 0))), (q_11, .inl (cI, 5, .inl (fun _ => 0))), (q_12, .inl (cI, 5, .inl (fun _ => 0))), (q_13, .inl (cI, 672, .inl (fun _ => 0))), (q_14, .inl (cI, 64, .inl (fun _ => 0))), (q_15, .inl (cI, 6, .inl (fun _ => 0))), (q_16, .inl (cI, 6, .inl (fun _ => 0))), (q_17, .inl (cI, 6, .inl (fun _ => 0))), (q_18, .inl (cZ, 2, .inl (fun _ => 0)))] H := hP
  have hD : va_D A [(h0, .inr (4, [.int 0, .int 0, .ref q_1, .ref q_2, .ref q_3, .ref q_4, .ref q_5, .ref q_6, .ref q_7, .ref q_8, .int 0, .int 0, .ref q_9, .int 0, .int 0, .int 0, .ref q_10, .ref q_11, .ref q_12, .int 0, .int 0, .ref q_13, .ref q_14, .int 0, .ref q_15, .ref q_16, .ref q_17, .long 0, .null, .null])), (q_1, .inl (cI, 5, .inl (fun _ => 0))), (q_2, .inl (cI, 5, .inl (fun _ => 0))), (q_3, .inl (cI, 7, .inl (fun _ => 0))), (q_4, .inl (cI, 96, .inl (fun _ => 0))), (q_5, .inl (cI, 5, .inl (fun _ => 0))), (q_6, .inl (cI, 5, .inl (fun _ => 0))), (q_7, .inl (cI, 5, .inl (fun _ => 0))), (q_8, .inl (cI, 30, .inl (fun _ => 0))), (q_9, .inl (cI, 64, .inl (fun _ => 0))), (q_10, .inl (cI, 5, .inl (fun _ => 0))), (q_11, .inl (cI, 5, .inl (fun _ => 0))), (q_12, .inl (cI, 5, .inl (fun _ => 0))), (q_13, .inl (cI, 672, .inl (fun _ => 0))), (q_14, .inl (cI, 64, .inl (fun _ => 0))), (q_15, .inl (cI, 6, .inl (fun _ => 0))), (q_16, .inl (cI, 6, .inl (fun _ => 0))), (q_17, .inl (cI, 6, .inl (fun _ => 0))), (q_18, .inl (cZ, 2, .inl (fun _ => 0)))] := hD
  refine W.widen (k := 18) (n := 993) (by omega) (by omega) ?_
  refine va_putF (D := D) (ci := 4) (v := .ref q_18) (ty := (.array .boolean)) (C := RX4) (T := TX4) (N := 30) hx hb hts iX4 tyX4 tyX4_ok nmX4 hown hK hP hD hS 0 rfl rfl 28 (by decide) (hts (.fieldLink RX4 61 "PunchedTicketModel" "isKept" "[Z") (List.mem_of_getElem? (i := 23) rfl)) (fun _ h9 => h9) rfl hin rfl (by decide +kernel) rfl rfl (Nat.le_of_ble_eq_true rfl) dX4_init_137 (fun H locs hP hD hS => ?_)
  have hP : va_P D vwCl [(h0, .inr (4, [.int 0, .int 0, .ref q_1, .ref q_2, .ref q_3, .ref q_4, .ref q_5, .ref q_6, .ref q_7, .ref q_8, .int 0, .int 0, .ref q_9, .int 0, .int 0, .int 0, .ref q_10, .ref q_11, .ref q_12, .int 0, .int 0, .ref q_13, .ref q_14, .int 0, .ref q_15, .ref q_16, .ref q_17, .long 0, .ref q_18, .null])), (q_1, .inl (cI, 5, .inl (fun _ => 0))), (q_2, .inl (cI, 5, .inl (fun _ => 0))), (q_3, .inl (cI, 7, .inl (fun _ => 0))), (q_4, .inl (cI, 96, .inl (fun _ => 0))), (q_5, .inl (cI, 5, .inl (fun _ => 0))), (q_6, .inl (cI, 5, .inl (fun _ => 0))), (q_7, .inl (cI, 5, .inl (fun _ => 0))), (q_8, .inl (cI, 30, .inl (fun _ => 0))), (q_9, .inl (cI, 64, .inl (fun _ => 0))), (q_10, .inl (cI, 5, .inl (fun _ => 0))), (q_11, .inl (cI, 5, .inl (fun _ => 0))), (q_12, .inl (cI, 5, .inl (fun _ => 0))), (q_13, .inl (cI, 672, .inl (fun _ => 0))), (q_14, .inl (cI, 64, .inl (fun _ => 0))), (q_15, .inl (cI, 6, .inl (fun _ => 0))), (q_16, .inl (cI, 6, .inl (fun _ => 0))), (q_17, .inl (cI, 6, .inl (fun _ => 0))), (q_18, .inl (cZ, 2, .inl (fun _ => 0)))] H := hP
  have hD : va_D A [(h0, .inr (4, [.int 0, .int 0, .ref q_1, .ref q_2, .ref q_3, .ref q_4, .ref q_5, .ref q_6, .ref q_7, .ref q_8, .int 0, .int 0, .ref q_9, .int 0, .int 0, .int 0, .ref q_10, .ref q_11, .ref q_12, .int 0, .int 0, .ref q_13, .ref q_14, .int 0, .ref q_15, .ref q_16, .ref q_17, .long 0, .ref q_18, .null])), (q_1, .inl (cI, 5, .inl (fun _ => 0))), (q_2, .inl (cI, 5, .inl (fun _ => 0))), (q_3, .inl (cI, 7, .inl (fun _ => 0))), (q_4, .inl (cI, 96, .inl (fun _ => 0))), (q_5, .inl (cI, 5, .inl (fun _ => 0))), (q_6, .inl (cI, 5, .inl (fun _ => 0))), (q_7, .inl (cI, 5, .inl (fun _ => 0))), (q_8, .inl (cI, 30, .inl (fun _ => 0))), (q_9, .inl (cI, 64, .inl (fun _ => 0))), (q_10, .inl (cI, 5, .inl (fun _ => 0))), (q_11, .inl (cI, 5, .inl (fun _ => 0))), (q_12, .inl (cI, 5, .inl (fun _ => 0))), (q_13, .inl (cI, 672, .inl (fun _ => 0))), (q_14, .inl (cI, 64, .inl (fun _ => 0))), (q_15, .inl (cI, 6, .inl (fun _ => 0))), (q_16, .inl (cI, 6, .inl (fun _ => 0))), (q_17, .inl (cI, 6, .inl (fun _ => 0))), (q_18, .inl (cZ, 2, .inl (fun _ => 0)))] := hD
  refine lv_aload_n hx hb dX4_init_140 rfl (lv_at hl 0 rfl) ?_
  refine lv_bipush (v := 96) hx hb dX4_init_141 (by decide) ?_
  refine newI hx hb (hts (.arrayClass .int) (List.mem_of_getElem? (i := 4) rfl)) hK hP hD hS hA 96 (by decide) (by decide) (by decide) (by rw [hR]; exact Nat.le_of_ble_eq_true rfl) (by rw [hR]; exact Nat.le_of_ble_eq_true rfl) dX4_init_143 (fun q_19 H hP hD hS => ?_)
  have hP : va_P D vwCl [(h0, .inr (4, [.int 0, .int 0, .ref q_1, .ref q_2, .ref q_3, .ref q_4, .ref q_5, .ref q_6, .ref q_7, .ref q_8, .int 0, .int 0, .ref q_9, .int 0, .int 0, .int 0, .ref q_10, .ref q_11, .ref q_12, .int 0, .int 0, .ref q_13, .ref q_14, .int 0, .ref q_15, .ref q_16, .ref q_17, .long 0, .ref q_18, .null])), (q_1, .inl (cI, 5, .inl (fun _ => 0))), (q_2, .inl (cI, 5, .inl (fun _ => 0))), (q_3, .inl (cI, 7, .inl (fun _ => 0))), (q_4, .inl (cI, 96, .inl (fun _ => 0))), (q_5, .inl (cI, 5, .inl (fun _ => 0))), (q_6, .inl (cI, 5, .inl (fun _ => 0))), (q_7, .inl (cI, 5, .inl (fun _ => 0))), (q_8, .inl (cI, 30, .inl (fun _ => 0))), (q_9, .inl (cI, 64, .inl (fun _ => 0))), (q_10, .inl (cI, 5, .inl (fun _ => 0))), (q_11, .inl (cI, 5, .inl (fun _ => 0))), (q_12, .inl (cI, 5, .inl (fun _ => 0))), (q_13, .inl (cI, 672, .inl (fun _ => 0))), (q_14, .inl (cI, 64, .inl (fun _ => 0))), (q_15, .inl (cI, 6, .inl (fun _ => 0))), (q_16, .inl (cI, 6, .inl (fun _ => 0))), (q_17, .inl (cI, 6, .inl (fun _ => 0))), (q_18, .inl (cZ, 2, .inl (fun _ => 0))), (q_19, .inl (cI, 96, .inl (fun _ => 0)))] H := hP
  have hD : va_D A [(h0, .inr (4, [.int 0, .int 0, .ref q_1, .ref q_2, .ref q_3, .ref q_4, .ref q_5, .ref q_6, .ref q_7, .ref q_8, .int 0, .int 0, .ref q_9, .int 0, .int 0, .int 0, .ref q_10, .ref q_11, .ref q_12, .int 0, .int 0, .ref q_13, .ref q_14, .int 0, .ref q_15, .ref q_16, .ref q_17, .long 0, .ref q_18, .null])), (q_1, .inl (cI, 5, .inl (fun _ => 0))), (q_2, .inl (cI, 5, .inl (fun _ => 0))), (q_3, .inl (cI, 7, .inl (fun _ => 0))), (q_4, .inl (cI, 96, .inl (fun _ => 0))), (q_5, .inl (cI, 5, .inl (fun _ => 0))), (q_6, .inl (cI, 5, .inl (fun _ => 0))), (q_7, .inl (cI, 5, .inl (fun _ => 0))), (q_8, .inl (cI, 30, .inl (fun _ => 0))), (q_9, .inl (cI, 64, .inl (fun _ => 0))), (q_10, .inl (cI, 5, .inl (fun _ => 0))), (q_11, .inl (cI, 5, .inl (fun _ => 0))), (q_12, .inl (cI, 5, .inl (fun _ => 0))), (q_13, .inl (cI, 672, .inl (fun _ => 0))), (q_14, .inl (cI, 64, .inl (fun _ => 0))), (q_15, .inl (cI, 6, .inl (fun _ => 0))), (q_16, .inl (cI, 6, .inl (fun _ => 0))), (q_17, .inl (cI, 6, .inl (fun _ => 0))), (q_18, .inl (cZ, 2, .inl (fun _ => 0))), (q_19, .inl (cI, 96, .inl (fun _ => 0)))] := hD
  refine W.widen (k := 19) (n := 1089) (by omega) (by omega) ?_
  refine va_putF (D := D) (ci := 4) (v := .ref q_19) (ty := (.array .int)) (C := RX4) (T := TX4) (N := 30) hx hb hts iX4 tyX4 tyX4_ok nmX4 hown hK hP hD hS 0 rfl rfl 29 (by decide) (hts (.fieldLink RX4 65 "PunchedTicketModel" "kept" "[I") (List.mem_of_getElem? (i := 24) rfl)) (fun _ h9 => h9) rfl hin rfl (by decide +kernel) rfl rfl (Nat.le_of_ble_eq_true rfl) dX4_init_145 (fun H locs hP hD hS => ?_)
  have hP : va_P D vwCl [(h0, .inr (4, [.int 0, .int 0, .ref q_1, .ref q_2, .ref q_3, .ref q_4, .ref q_5, .ref q_6, .ref q_7, .ref q_8, .int 0, .int 0, .ref q_9, .int 0, .int 0, .int 0, .ref q_10, .ref q_11, .ref q_12, .int 0, .int 0, .ref q_13, .ref q_14, .int 0, .ref q_15, .ref q_16, .ref q_17, .long 0, .ref q_18, .ref q_19])), (q_1, .inl (cI, 5, .inl (fun _ => 0))), (q_2, .inl (cI, 5, .inl (fun _ => 0))), (q_3, .inl (cI, 7, .inl (fun _ => 0))), (q_4, .inl (cI, 96, .inl (fun _ => 0))), (q_5, .inl (cI, 5, .inl (fun _ => 0))), (q_6, .inl (cI, 5, .inl (fun _ => 0))), (q_7, .inl (cI, 5, .inl (fun _ => 0))), (q_8, .inl (cI, 30, .inl (fun _ => 0))), (q_9, .inl (cI, 64, .inl (fun _ => 0))), (q_10, .inl (cI, 5, .inl (fun _ => 0))), (q_11, .inl (cI, 5, .inl (fun _ => 0))), (q_12, .inl (cI, 5, .inl (fun _ => 0))), (q_13, .inl (cI, 672, .inl (fun _ => 0))), (q_14, .inl (cI, 64, .inl (fun _ => 0))), (q_15, .inl (cI, 6, .inl (fun _ => 0))), (q_16, .inl (cI, 6, .inl (fun _ => 0))), (q_17, .inl (cI, 6, .inl (fun _ => 0))), (q_18, .inl (cZ, 2, .inl (fun _ => 0))), (q_19, .inl (cI, 96, .inl (fun _ => 0)))] H := hP
  have hD : va_D A [(h0, .inr (4, [.int 0, .int 0, .ref q_1, .ref q_2, .ref q_3, .ref q_4, .ref q_5, .ref q_6, .ref q_7, .ref q_8, .int 0, .int 0, .ref q_9, .int 0, .int 0, .int 0, .ref q_10, .ref q_11, .ref q_12, .int 0, .int 0, .ref q_13, .ref q_14, .int 0, .ref q_15, .ref q_16, .ref q_17, .long 0, .ref q_18, .ref q_19])), (q_1, .inl (cI, 5, .inl (fun _ => 0))), (q_2, .inl (cI, 5, .inl (fun _ => 0))), (q_3, .inl (cI, 7, .inl (fun _ => 0))), (q_4, .inl (cI, 96, .inl (fun _ => 0))), (q_5, .inl (cI, 5, .inl (fun _ => 0))), (q_6, .inl (cI, 5, .inl (fun _ => 0))), (q_7, .inl (cI, 5, .inl (fun _ => 0))), (q_8, .inl (cI, 30, .inl (fun _ => 0))), (q_9, .inl (cI, 64, .inl (fun _ => 0))), (q_10, .inl (cI, 5, .inl (fun _ => 0))), (q_11, .inl (cI, 5, .inl (fun _ => 0))), (q_12, .inl (cI, 5, .inl (fun _ => 0))), (q_13, .inl (cI, 672, .inl (fun _ => 0))), (q_14, .inl (cI, 64, .inl (fun _ => 0))), (q_15, .inl (cI, 6, .inl (fun _ => 0))), (q_16, .inl (cI, 6, .inl (fun _ => 0))), (q_17, .inl (cI, 6, .inl (fun _ => 0))), (q_18, .inl (cZ, 2, .inl (fun _ => 0))), (q_19, .inl (cI, 96, .inl (fun _ => 0)))] := hD
  refine lv_aload_n hx hb dX4_init_148 rfl (lv_at hl 0 rfl) ?_
  refine lv_iconst (v := 0) hx hb dX4_init_149 (by decide) ?_
  refine va_put (D := D) (ci := 4) (v := .int 0) (ty := .int) (C := RX4) (T := TX4) (N := 30) hx hb hts iX4 tyX4 tyX4_ok nmX4 hown hK hP hD hS 0 rfl rfl 0 (by decide) (hts (.fieldLink RX4 68 "PunchedTicketModel" "people" "I") (List.mem_of_getElem? (i := 25) rfl)) (fun _ h9 => h9) rfl (by decide +kernel) rfl rfl (Nat.le_of_ble_eq_true rfl) dX4_init_150 (fun H locs hP hD hS => ?_)
  have hP : va_P D vwCl [(h0, .inr (4, [.int 0, .int 0, .ref q_1, .ref q_2, .ref q_3, .ref q_4, .ref q_5, .ref q_6, .ref q_7, .ref q_8, .int 0, .int 0, .ref q_9, .int 0, .int 0, .int 0, .ref q_10, .ref q_11, .ref q_12, .int 0, .int 0, .ref q_13, .ref q_14, .int 0, .ref q_15, .ref q_16, .ref q_17, .long 0, .ref q_18, .ref q_19])), (q_1, .inl (cI, 5, .inl (fun _ => 0))), (q_2, .inl (cI, 5, .inl (fun _ => 0))), (q_3, .inl (cI, 7, .inl (fun _ => 0))), (q_4, .inl (cI, 96, .inl (fun _ => 0))), (q_5, .inl (cI, 5, .inl (fun _ => 0))), (q_6, .inl (cI, 5, .inl (fun _ => 0))), (q_7, .inl (cI, 5, .inl (fun _ => 0))), (q_8, .inl (cI, 30, .inl (fun _ => 0))), (q_9, .inl (cI, 64, .inl (fun _ => 0))), (q_10, .inl (cI, 5, .inl (fun _ => 0))), (q_11, .inl (cI, 5, .inl (fun _ => 0))), (q_12, .inl (cI, 5, .inl (fun _ => 0))), (q_13, .inl (cI, 672, .inl (fun _ => 0))), (q_14, .inl (cI, 64, .inl (fun _ => 0))), (q_15, .inl (cI, 6, .inl (fun _ => 0))), (q_16, .inl (cI, 6, .inl (fun _ => 0))), (q_17, .inl (cI, 6, .inl (fun _ => 0))), (q_18, .inl (cZ, 2, .inl (fun _ => 0))), (q_19, .inl (cI, 96, .inl (fun _ => 0)))] H := hP
  have hD : va_D A [(h0, .inr (4, [.int 0, .int 0, .ref q_1, .ref q_2, .ref q_3, .ref q_4, .ref q_5, .ref q_6, .ref q_7, .ref q_8, .int 0, .int 0, .ref q_9, .int 0, .int 0, .int 0, .ref q_10, .ref q_11, .ref q_12, .int 0, .int 0, .ref q_13, .ref q_14, .int 0, .ref q_15, .ref q_16, .ref q_17, .long 0, .ref q_18, .ref q_19])), (q_1, .inl (cI, 5, .inl (fun _ => 0))), (q_2, .inl (cI, 5, .inl (fun _ => 0))), (q_3, .inl (cI, 7, .inl (fun _ => 0))), (q_4, .inl (cI, 96, .inl (fun _ => 0))), (q_5, .inl (cI, 5, .inl (fun _ => 0))), (q_6, .inl (cI, 5, .inl (fun _ => 0))), (q_7, .inl (cI, 5, .inl (fun _ => 0))), (q_8, .inl (cI, 30, .inl (fun _ => 0))), (q_9, .inl (cI, 64, .inl (fun _ => 0))), (q_10, .inl (cI, 5, .inl (fun _ => 0))), (q_11, .inl (cI, 5, .inl (fun _ => 0))), (q_12, .inl (cI, 5, .inl (fun _ => 0))), (q_13, .inl (cI, 672, .inl (fun _ => 0))), (q_14, .inl (cI, 64, .inl (fun _ => 0))), (q_15, .inl (cI, 6, .inl (fun _ => 0))), (q_16, .inl (cI, 6, .inl (fun _ => 0))), (q_17, .inl (cI, 6, .inl (fun _ => 0))), (q_18, .inl (cZ, 2, .inl (fun _ => 0))), (q_19, .inl (cI, 96, .inl (fun _ => 0)))] := hD
  exact ret_v (post := (fun (u : Nat × Nat × Nat × Nat × Nat × Nat × Nat × Nat × Nat × Nat × Nat × Nat × Nat × Nat × Nat × Nat × Nat × Nat × Nat) => True)) (W1 := (fun u => [(h0, .inr (4, [.int 0, .int 0, .ref u.1, .ref u.2.1, .ref u.2.2.1, .ref u.2.2.2.1, .ref u.2.2.2.2.1, .ref u.2.2.2.2.2.1, .ref u.2.2.2.2.2.2.1, .ref u.2.2.2.2.2.2.2.1, .int 0, .int 0, .ref u.2.2.2.2.2.2.2.2.1, .int 0, .int 0, .int 0, .ref u.2.2.2.2.2.2.2.2.2.1, .ref u.2.2.2.2.2.2.2.2.2.2.1, .ref u.2.2.2.2.2.2.2.2.2.2.2.1, .int 0, .int 0, .ref u.2.2.2.2.2.2.2.2.2.2.2.2.1, .ref u.2.2.2.2.2.2.2.2.2.2.2.2.2.1, .int 0, .ref u.2.2.2.2.2.2.2.2.2.2.2.2.2.2.1, .ref u.2.2.2.2.2.2.2.2.2.2.2.2.2.2.2.1, .ref u.2.2.2.2.2.2.2.2.2.2.2.2.2.2.2.2.1, .long 0, .ref u.2.2.2.2.2.2.2.2.2.2.2.2.2.2.2.2.2.1, .ref u.2.2.2.2.2.2.2.2.2.2.2.2.2.2.2.2.2.2])), (u.1, .inl (cI, 5, .inl (fun _ => 0))), (u.2.1, .inl (cI, 5, .inl (fun _ => 0))), (u.2.2.1, .inl (cI, 7, .inl (fun _ => 0))), (u.2.2.2.1, .inl (cI, 96, .inl (fun _ => 0))), (u.2.2.2.2.1, .inl (cI, 5, .inl (fun _ => 0))), (u.2.2.2.2.2.1, .inl (cI, 5, .inl (fun _ => 0))), (u.2.2.2.2.2.2.1, .inl (cI, 5, .inl (fun _ => 0))), (u.2.2.2.2.2.2.2.1, .inl (cI, 30, .inl (fun _ => 0))), (u.2.2.2.2.2.2.2.2.1, .inl (cI, 64, .inl (fun _ => 0))), (u.2.2.2.2.2.2.2.2.2.1, .inl (cI, 5, .inl (fun _ => 0))), (u.2.2.2.2.2.2.2.2.2.2.1, .inl (cI, 5, .inl (fun _ => 0))), (u.2.2.2.2.2.2.2.2.2.2.2.1, .inl (cI, 5, .inl (fun _ => 0))), (u.2.2.2.2.2.2.2.2.2.2.2.2.1, .inl (cI, 672, .inl (fun _ => 0))), (u.2.2.2.2.2.2.2.2.2.2.2.2.2.1, .inl (cI, 64, .inl (fun _ => 0))), (u.2.2.2.2.2.2.2.2.2.2.2.2.2.2.1, .inl (cI, 6, .inl (fun _ => 0))), (u.2.2.2.2.2.2.2.2.2.2.2.2.2.2.2.1, .inl (cI, 6, .inl (fun _ => 0))), (u.2.2.2.2.2.2.2.2.2.2.2.2.2.2.2.2.1, .inl (cI, 6, .inl (fun _ => 0))), (u.2.2.2.2.2.2.2.2.2.2.2.2.2.2.2.2.2.1, .inl (cZ, 2, .inl (fun _ => 0))), (u.2.2.2.2.2.2.2.2.2.2.2.2.2.2.2.2.2.2, .inl (cI, 96, .inl (fun _ => 0)))])) (q_1, q_2, q_3, q_4, q_5, q_6, q_7, q_8, q_9, q_10, q_11, q_12, q_13, q_14, q_15, q_16, q_17, q_18, q_19) hx hb hr hlocks hQ hK hP hD hS ⟨by decide, by decide⟩ dX4_init_153 trivial
