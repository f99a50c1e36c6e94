theorem dX4_keepAct_0 : decode cX4_keepAct 0 = .ok (.iconst 0, 1) := by decide +kernel
theorem dX4_keepAct_1 : decode cX4_keepAct 1 = .ok (.istore_n 1, 1) := by decide +kernel
theorem dX4_keepAct_2 : decode cX4_keepAct 2 = .ok (.iload_n 1, 1) := by decide +kernel
theorem dX4_keepAct_3 : decode cX4_keepAct 3 = .ok (.bipush 48, 2) := by decide +kernel
theorem dX4_keepAct_5 : decode cX4_keepAct 5 = .ok (.if_icmp .ge 29, 3) := by decide +kernel
theorem dX4_keepAct_8 : decode cX4_keepAct 8 = .ok (.aload_n 0, 1) := by decide +kernel
theorem dX4_keepAct_9 : decode cX4_keepAct 9 = .ok (.getfield 46, 3) := by decide +kernel
theorem dX4_keepAct_12 : decode cX4_keepAct 12 = .ok (.bipush 48, 2) := by decide +kernel
theorem dX4_keepAct_14 : decode cX4_keepAct 14 = .ok (.aload_n 0, 1) := by decide +kernel
theorem dX4_keepAct_15 : decode cX4_keepAct 15 = .ok (.getfield 137, 3) := by decide +kernel
theorem dX4_keepAct_18 : decode cX4_keepAct 18 = .ok (.imul, 1) := by decide +kernel
theorem dX4_keepAct_19 : decode cX4_keepAct 19 = .ok (.iload_n 1, 1) := by decide +kernel
theorem dX4_keepAct_20 : decode cX4_keepAct 20 = .ok (.iadd, 1) := by decide +kernel
theorem dX4_keepAct_21 : decode cX4_keepAct 21 = .ok (.aload_n 0, 1) := by decide +kernel
theorem dX4_keepAct_22 : decode cX4_keepAct 22 = .ok (.getfield 19, 3) := by decide +kernel
theorem dX4_keepAct_25 : decode cX4_keepAct 25 = .ok (.iload_n 1, 1) := by decide +kernel
theorem dX4_keepAct_26 : decode cX4_keepAct 26 = .ok (.iaload, 1) := by decide +kernel
theorem dX4_keepAct_27 : decode cX4_keepAct 27 = .ok (.iastore, 1) := by decide +kernel
theorem dX4_keepAct_28 : decode cX4_keepAct 28 = .ok (.iinc 1 1, 3) := by decide +kernel
theorem dX4_keepAct_31 : decode cX4_keepAct 31 = .ok (.goto (-29), 3) := by decide +kernel
theorem dX4_keepAct_34 : decode cX4_keepAct 34 = .ok (.aload_n 0, 1) := by decide +kernel
theorem dX4_keepAct_35 : decode cX4_keepAct 35 = .ok (.aload_n 0, 1) := by decide +kernel
theorem dX4_keepAct_36 : decode cX4_keepAct 36 = .ok (.getfield 137, 3) := by decide +kernel
theorem dX4_keepAct_39 : decode cX4_keepAct 39 = .ok (.iconst 1, 1) := by decide +kernel
theorem dX4_keepAct_40 : decode cX4_keepAct 40 = .ok (.iadd, 1) := by decide +kernel
theorem dX4_keepAct_41 : decode cX4_keepAct 41 = .ok (.bipush 14, 2) := by decide +kernel
theorem dX4_keepAct_43 : decode cX4_keepAct 43 = .ok (.irem, 1) := by decide +kernel
theorem dX4_keepAct_44 : decode cX4_keepAct 44 = .ok (.putfield 137, 3) := by decide +kernel
theorem dX4_keepAct_47 : decode cX4_keepAct 47 = .ok (.aload_n 0, 1) := by decide +kernel
theorem dX4_keepAct_48 : decode cX4_keepAct 48 = .ok (.aload_n 0, 1) := by decide +kernel
theorem dX4_keepAct_49 : decode cX4_keepAct 49 = .ok (.getfield 104, 3) := by decide +kernel
theorem dX4_keepAct_52 : decode cX4_keepAct 52 = .ok (.bipush 14, 2) := by decide +kernel
theorem dX4_keepAct_54 : decode cX4_keepAct 54 = .ok (.if_icmp .ge 12, 3) := by decide +kernel
theorem dX4_keepAct_57 : decode cX4_keepAct 57 = .ok (.aload_n 0, 1) := by decide +kernel
theorem dX4_keepAct_58 : decode cX4_keepAct 58 = .ok (.getfield 104, 3) := by decide +kernel
theorem dX4_keepAct_61 : decode cX4_keepAct 61 = .ok (.iconst 1, 1) := by decide +kernel
theorem dX4_keepAct_62 : decode cX4_keepAct 62 = .ok (.iadd, 1) := by decide +kernel
theorem dX4_keepAct_63 : decode cX4_keepAct 63 = .ok (.goto 5, 3) := by decide +kernel
theorem dX4_keepAct_66 : decode cX4_keepAct 66 = .ok (.bipush 14, 2) := by decide +kernel
theorem dX4_keepAct_68 : decode cX4_keepAct 68 = .ok (.putfield 104, 3) := by decide +kernel
theorem dX4_keepAct_71 : decode cX4_keepAct 71 = .ok (.return_, 1) := by decide +kernel
set_option maxRecDepth 20000 in
theorem ggX4_day_X4_keepAct : GoodIn wsX4_day wsX4_keepAct := goodIn_r _ [7, 8, 9, 1, 10, 28, 29, 30, 31, 32, 33, 34, 35, 36, 37, 38, 39, 40, 41, 42, 43, 44, 45, 46, 47, 48, 49, 50, 51, 52, 53, 54, 55, 56, 57] rfl (by decide +kernel)
set_option maxRecDepth 20000 in
theorem gX4_day_X4_keepAct : GoodIn wsX4_day (wsV RX4 140 RX4 yX4_keepAct wsX4_keepAct) := goodIn_app (goodIn_r _ [3, 4, 5, 6] rfl (by decide +kernel)) ggX4_day_X4_keepAct
set_option maxRecDepth 20000 in
theorem ggX4_day_X4_pass : GoodIn wsX4_day wsX4_pass := goodIn_r _ [14, 15, 16, 1, 17, 18, 19, 20, 21, 6, 22, 23, 24, 25, 26, 27, 28, 29, 30, 31, 32, 33, 34, 35, 36, 37, 38, 39, 40, 41, 42, 43, 44, 45, 46, 47, 48, 49, 50, 51, 52, 53, 54, 55, 56, 57] rfl (by decide +kernel)
set_option maxRecDepth 20000 in
theorem gX4_day_X4_pass : GoodIn wsX4_day (wsV RX4 143 RX4 yX4_pass wsX4_pass) := goodIn_app (goodIn_r _ [11, 12, 13, 6] rfl (by decide +kernel)) ggX4_day_X4_pass
theorem dX4_day_0 : decode cX4_day 0 = .ok (.aload_n 0, 1) := by decide +kernel
theorem dX4_day_1 : decode cX4_day 1 = .ok (.getfield 19, 3) := by decide +kernel
theorem dX4_day_4 : decode cX4_day 4 = .ok (.iconst 0, 1) := by decide +kernel
theorem dX4_day_5 : decode cX4_day 5 = .ok (.iaload, 1) := by decide +kernel
theorem dX4_day_6 : decode cX4_day 6 = .ok (.bipush 10, 2) := by decide +kernel
theorem dX4_day_8 : decode cX4_day 8 = .ok (.if_icmp .ne 6, 3) := by decide +kernel
theorem dX4_day_11 : decode cX4_day 11 = .ok (.bipush (-3), 2) := by decide +kernel
theorem dX4_day_13 : decode cX4_day 13 = .ok (.ireturn, 1) := by decide +kernel
theorem dX4_day_14 : decode cX4_day 14 = .ok (.aload_n 0, 1) := by decide +kernel
theorem dX4_day_15 : decode cX4_day 15 = .ok (.invokevirtual 140, 3) := by decide +kernel
theorem dX4_day_18 : decode cX4_day 18 = .ok (.aload_n 0, 1) := by decide +kernel
theorem dX4_day_19 : decode cX4_day 19 = .ok (.iconst 0, 1) := by decide +kernel
theorem dX4_day_20 : decode cX4_day 20 = .ok (.aload_n 0, 1) := by decide +kernel
theorem dX4_day_21 : decode cX4_day 21 = .ok (.getfield 101, 3) := by decide +kernel
theorem dX4_day_24 : decode cX4_day 24 = .ok (.invokevirtual 143, 3) := by decide +kernel
theorem dX4_day_27 : decode cX4_day 27 = .ok (.ireturn, 1) := by decide +kernel
set_option maxRecDepth 20000 in
theorem ggX4_give_X4_isTicket : GoodIn wsX4_give wsX4_isTicket := goodIn_r _ [6, 7, 8, 9, 5, 10, 31, 32, 33, 34, 35, 36, 37, 38, 39, 40, 41, 42, 43, 44, 45, 46, 47, 48, 49, 50, 51, 52, 53, 54, 55, 56, 57, 58, 59, 60] rfl (by decide +kernel)
set_option maxRecDepth 20000 in
theorem gX4_give_X4_isTicket : GoodIn wsX4_give (wsV RX4 122 RX4 yX4_isTicket wsX4_isTicket) := goodIn_app (goodIn_r _ [2, 3, 4, 5] rfl (by decide +kernel)) ggX4_give_X4_isTicket
set_option maxRecDepth 20000 in
theorem ggX4_give_X4_isPerson : GoodIn wsX4_give wsX4_isPerson := goodIn_r _ [14, 15, 8, 9, 5, 10, 31, 32, 33, 34, 35, 36, 37, 38, 39, 40, 41, 42, 43, 44, 45, 46, 47, 48, 49, 50, 51, 52, 53, 54, 55, 56, 57, 58, 59, 60] rfl (by decide +kernel)
set_option maxRecDepth 20000 in
theorem gX4_give_X4_isPerson : GoodIn wsX4_give (wsV RX4 111 RX4 yX4_isPerson wsX4_isPerson) := goodIn_app (goodIn_r _ [11, 12, 13, 5] rfl (by decide +kernel)) ggX4_give_X4_isPerson
set_option maxRecDepth 20000 in
theorem ggX4_give_X4_isGone : GoodIn wsX4_give wsX4_isGone := goodIn_r _ [19, 1, 31, 32, 33, 34, 35, 36, 37, 38, 39, 40, 41, 42, 43, 44, 45, 46, 47, 48, 49, 50, 51, 52, 53, 54, 55, 56, 57, 58, 59, 60] rfl (by decide +kernel)
set_option maxRecDepth 20000 in
theorem gX4_give_X4_isGone : GoodIn wsX4_give (wsV RX4 107 RX4 yX4_isGone wsX4_isGone) := goodIn_app (goodIn_r _ [16, 17, 18, 5] rfl (by decide +kernel)) ggX4_give_X4_isGone
set_option maxRecDepth 20000 in
theorem ggX4_give_X4_holder : GoodIn wsX4_give wsX4_holder := goodIn_r _ [23, 1, 31, 32, 33, 34, 35, 36, 37, 38, 39, 40, 41, 42, 43, 44, 45, 46, 47, 48, 49, 50, 51, 52, 53, 54, 55, 56, 57, 58, 59, 60] rfl (by decide +kernel)
set_option maxRecDepth 20000 in
theorem gX4_give_X4_holder : GoodIn wsX4_give (wsV RX4 114 RX4 yX4_holder wsX4_holder) := goodIn_app (goodIn_r _ [20, 21, 22, 5] rfl (by decide +kernel)) ggX4_give_X4_holder
set_option maxRecDepth 20000 in
theorem ggX4_give_X4_keepAct : GoodIn wsX4_give wsX4_keepAct := goodIn_r _ [27, 28, 29, 1, 30, 31, 32, 33, 34, 35, 36, 37, 38, 39, 40, 41, 42, 43, 44, 45, 46, 47, 48, 49, 50, 51, 52, 53, 54, 55, 56, 57, 58, 59, 60] rfl (by decide +kernel)
set_option maxRecDepth 20000 in
theorem gX4_give_X4_keepAct : GoodIn wsX4_give (wsV RX4 140 RX4 yX4_keepAct wsX4_keepAct) := goodIn_app (goodIn_r _ [24, 25, 26, 5] rfl (by decide +kernel)) ggX4_give_X4_keepAct
theorem dX4_give_0 : decode cX4_give 0 = .ok (.aload_n 0, 1) := by decide +kernel
theorem dX4_give_1 : decode cX4_give 1 = .ok (.iload_n 1, 1) := by decide +kernel
theorem dX4_give_2 : decode cX4_give 2 = .ok (.invokevirtual 122, 3) := by decide +kernel
theorem dX4_give_5 : decode cX4_give 5 = .ok (.ifCond .eq 11, 3) := by decide +kernel
theorem dX4_give_8 : decode cX4_give 8 = .ok (.aload_n 0, 1) := by decide +kernel
theorem dX4_give_9 : decode cX4_give 9 = .ok (.iload_n 2, 1) := by decide +kernel
theorem dX4_give_10 : decode cX4_give 10 = .ok (.invokevirtual 111, 3) := by decide +kernel
theorem dX4_give_13 : decode cX4_give 13 = .ok (.ifCond .ne 5, 3) := by decide +kernel
theorem dX4_give_16 : decode cX4_give 16 = .ok (.iconst (-1), 1) := by decide +kernel
theorem dX4_give_17 : decode cX4_give 17 = .ok (.ireturn, 1) := by decide +kernel
theorem dX4_give_18 : decode cX4_give 18 = .ok (.aload_n 0, 1) := by decide +kernel
theorem dX4_give_19 : decode cX4_give 19 = .ok (.iload_n 1, 1) := by decide +kernel
theorem dX4_give_20 : decode cX4_give 20 = .ok (.invokevirtual 107, 3) := by decide +kernel
theorem dX4_give_23 : decode cX4_give 23 = .ok (.ifCond .ne 12, 3) := by decide +kernel
theorem dX4_give_26 : decode cX4_give 26 = .ok (.aload_n 0, 1) := by decide +kernel
theorem dX4_give_27 : decode cX4_give 27 = .ok (.iload_n 1, 1) := by decide +kernel
theorem dX4_give_28 : decode cX4_give 28 = .ok (.invokevirtual 114, 3) := by decide +kernel
theorem dX4_give_31 : decode cX4_give 31 = .ok (.iload_n 2, 1) := by decide +kernel
theorem dX4_give_32 : decode cX4_give 32 = .ok (.if_icmp .ne 6, 3) := by decide +kernel
theorem dX4_give_35 : decode cX4_give 35 = .ok (.bipush (-3), 2) := by decide +kernel
theorem dX4_give_37 : decode cX4_give 37 = .ok (.ireturn, 1) := by decide +kernel
theorem dX4_give_38 : decode cX4_give 38 = .ok (.aload_n 0, 1) := by decide +kernel
theorem dX4_give_39 : decode cX4_give 39 = .ok (.invokevirtual 140, 3) := by decide +kernel
theorem dX4_give_42 : decode cX4_give 42 = .ok (.aload_n 0, 1) := by decide +kernel
theorem dX4_give_43 : decode cX4_give 43 = .ok (.iload_n 1, 1) := by decide +kernel
theorem dX4_give_44 : decode cX4_give 44 = .ok (.invokevirtual 114, 3) := by decide +kernel
theorem dX4_give_47 : decode cX4_give 47 = .ok (.istore_n 3, 1) := by decide +kernel
theorem dX4_give_48 : decode cX4_give 48 = .ok (.aload_n 0, 1) := by decide +kernel
theorem dX4_give_49 : decode cX4_give 49 = .ok (.getfield 19, 3) := by decide +kernel
theorem dX4_give_52 : decode cX4_give 52 = .ok (.bipush 6, 2) := by decide +kernel
theorem dX4_give_54 : decode cX4_give 54 = .ok (.bipush 6, 2) := by decide +kernel
theorem dX4_give_56 : decode cX4_give 56 = .ok (.iload_n 1, 1) := by decide +kernel
theorem dX4_give_57 : decode cX4_give 57 = .ok (.imul, 1) := by decide +kernel
theorem dX4_give_58 : decode cX4_give 58 = .ok (.iadd, 1) := by decide +kernel
theorem dX4_give_59 : decode cX4_give 59 = .ok (.iconst 3, 1) := by decide +kernel
theorem dX4_give_60 : decode cX4_give 60 = .ok (.iadd, 1) := by decide +kernel
theorem dX4_give_61 : decode cX4_give 61 = .ok (.iload_n 2, 1) := by decide +kernel
theorem dX4_give_62 : decode cX4_give 62 = .ok (.iastore, 1) := by decide +kernel
theorem dX4_give_63 : decode cX4_give 63 = .ok (.iload_n 3, 1) := by decide +kernel
theorem dX4_give_64 : decode cX4_give 64 = .ok (.ireturn, 1) := by decide +kernel
set_option maxRecDepth 20000 in
theorem ggX4_lose_X4_isTicket : GoodIn wsX4_lose wsX4_isTicket := goodIn_r _ [6, 7, 8, 9, 5, 10, 26, 27, 28, 29, 30, 31, 32, 33, 34, 35, 36, 37, 38, 39, 40, 41, 42, 43, 44, 45, 46, 47, 48, 49, 50, 51, 52, 53, 54, 55] rfl (by decide +kernel)
set_option maxRecDepth 20000 in
theorem gX4_lose_X4_isTicket : GoodIn wsX4_lose (wsV RX4 122 RX4 yX4_isTicket wsX4_isTicket) := goodIn_app (goodIn_r _ [2, 3, 4, 5] rfl (by decide +kernel)) ggX4_lose_X4_isTicket
set_option maxRecDepth 20000 in
theorem ggX4_lose_X4_isGone : GoodIn wsX4_lose wsX4_isGone := goodIn_r _ [14, 1, 26, 27, 28, 29, 30, 31, 32, 33, 34, 35, 36, 37, 38, 39, 40, 41, 42, 43, 44, 45, 46, 47, 48, 49, 50, 51, 52, 53, 54, 55] rfl (by decide +kernel)
set_option maxRecDepth 20000 in
theorem gX4_lose_X4_isGone : GoodIn wsX4_lose (wsV RX4 107 RX4 yX4_isGone wsX4_isGone) := goodIn_app (goodIn_r _ [11, 12, 13, 5] rfl (by decide +kernel)) ggX4_lose_X4_isGone
set_option maxRecDepth 20000 in
theorem ggX4_lose_X4_keepAct : GoodIn wsX4_lose wsX4_keepAct := goodIn_r _ [18, 19, 20, 1, 21, 26, 27, 28, 29, 30, 31, 32, 33, 34, 35, 36, 37, 38, 39, 40, 41, 42, 43, 44, 45, 46, 47, 48, 49, 50, 51, 52, 53, 54, 55] rfl (by decide +kernel)
set_option maxRecDepth 20000 in
theorem gX4_lose_X4_keepAct : GoodIn wsX4_lose (wsV RX4 140 RX4 yX4_keepAct wsX4_keepAct) := goodIn_app (goodIn_r _ [15, 16, 17, 5] rfl (by decide +kernel)) ggX4_lose_X4_keepAct
set_option maxRecDepth 20000 in
theorem ggX4_lose_X4_holder : GoodIn wsX4_lose wsX4_holder := goodIn_r _ [25, 1, 26, 27, 28, 29, 30, 31, 32, 33, 34, 35, 36, 37, 38, 39, 40, 41, 42, 43, 44, 45, 46, 47, 48, 49, 50, 51, 52, 53, 54, 55] rfl (by decide +kernel)
set_option maxRecDepth 20000 in
theorem gX4_lose_X4_holder : GoodIn wsX4_lose (wsV RX4 114 RX4 yX4_holder wsX4_holder) := goodIn_app (goodIn_r _ [22, 23, 24, 5] rfl (by decide +kernel)) ggX4_lose_X4_holder
theorem dX4_lose_0 : decode cX4_lose 0 = .ok (.aload_n 0, 1) := by decide +kernel
theorem dX4_lose_1 : decode cX4_lose 1 = .ok (.iload_n 1, 1) := by decide +kernel
theorem dX4_lose_2 : decode cX4_lose 2 = .ok (.invokevirtual 122, 3) := by decide +kernel
theorem dX4_lose_5 : decode cX4_lose 5 = .ok (.ifCond .ne 5, 3) := by decide +kernel
theorem dX4_lose_8 : decode cX4_lose 8 = .ok (.iconst (-1), 1) := by decide +kernel
theorem dX4_lose_9 : decode cX4_lose 9 = .ok (.ireturn, 1) := by decide +kernel
theorem dX4_lose_10 : decode cX4_lose 10 = .ok (.aload_n 0, 1) := by decide +kernel
theorem dX4_lose_11 : decode cX4_lose 11 = .ok (.iload_n 1, 1) := by decide +kernel
theorem dX4_lose_12 : decode cX4_lose 12 = .ok (.invokevirtual 107, 3) := by decide +kernel
theorem dX4_lose_15 : decode cX4_lose 15 = .ok (.ifCond .eq 6, 3) := by decide +kernel
theorem dX4_lose_18 : decode cX4_lose 18 = .ok (.bipush (-3), 2) := by decide +kernel
theorem dX4_lose_20 : decode cX4_lose 20 = .ok (.ireturn, 1) := by decide +kernel
theorem dX4_lose_21 : decode cX4_lose 21 = .ok (.aload_n 0, 1) := by decide +kernel
theorem dX4_lose_22 : decode cX4_lose 22 = .ok (.invokevirtual 140, 3) := by decide +kernel
theorem dX4_lose_25 : decode cX4_lose 25 = .ok (.aload_n 0, 1) := by decide +kernel
theorem dX4_lose_26 : decode cX4_lose 26 = .ok (.getfield 19, 3) := by decide +kernel
theorem dX4_lose_29 : decode cX4_lose 29 = .ok (.bipush 6, 2) := by decide +kernel
theorem dX4_lose_31 : decode cX4_lose 31 = .ok (.bipush 6, 2) := by decide +kernel
theorem dX4_lose_33 : decode cX4_lose 33 = .ok (.iload_n 1, 1) := by decide +kernel
theorem dX4_lose_34 : decode cX4_lose 34 = .ok (.imul, 1) := by decide +kernel
theorem dX4_lose_35 : decode cX4_lose 35 = .ok (.iadd, 1) := by decide +kernel
theorem dX4_lose_36 : decode cX4_lose 36 = .ok (.iconst 5, 1) := by decide +kernel
theorem dX4_lose_37 : decode cX4_lose 37 = .ok (.iadd, 1) := by decide +kernel
theorem dX4_lose_38 : decode cX4_lose 38 = .ok (.iconst 1, 1) := by decide +kernel
theorem dX4_lose_39 : decode cX4_lose 39 = .ok (.iastore, 1) := by decide +kernel
theorem dX4_lose_40 : decode cX4_lose 40 = .ok (.aload_n 0, 1) := by decide +kernel
theorem dX4_lose_41 : decode cX4_lose 41 = .ok (.iload_n 1, 1) := by decide +kernel
theorem dX4_lose_42 : decode cX4_lose 42 = .ok (.invokevirtual 114, 3) := by decide +kernel
theorem dX4_lose_45 : decode cX4_lose 45 = .ok (.ireturn, 1) := by decide +kernel
set_option maxRecDepth 20000 in
theorem ggX4_canChange_X4_isGone : GoodIn wsX4_canChange wsX4_isGone := goodIn_r _ [5, 6, 11, 12, 13, 14, 15, 16, 17, 18, 19, 20, 21, 22, 23, 24, 25, 26, 27, 28, 29, 30, 31, 32, 33, 34, 35, 36, 37, 38, 39, 40] rfl (by decide +kernel)
set_option maxRecDepth 20000 in
theorem gX4_canChange_X4_isGone : GoodIn wsX4_canChange (wsV RX4 107 RX4 yX4_isGone wsX4_isGone) := goodIn_app (goodIn_r _ [1, 2, 3, 4] rfl (by decide +kernel)) ggX4_canChange_X4_isGone
set_option maxRecDepth 20000 in
theorem ggX4_canChange_X4_holder : GoodIn wsX4_canChange wsX4_holder := goodIn_r _ [10, 6, 11, 12, 13, 14, 15, 16, 17, 18, 19, 20, 21, 22, 23, 24, 25, 26, 27, 28, 29, 30, 31, 32, 33, 34, 35, 36, 37, 38, 39, 40] rfl (by decide +kernel)
set_option maxRecDepth 20000 in
theorem gX4_canChange_X4_holder : GoodIn wsX4_canChange (wsV RX4 114 RX4 yX4_holder wsX4_holder) := goodIn_app (goodIn_r _ [7, 8, 9, 4] rfl (by decide +kernel)) ggX4_canChange_X4_holder
theorem dX4_canChange_0 : decode cX4_canChange 0 = .ok (.aload_n 0, 1) := by decide +kernel
theorem dX4_canChange_1 : decode cX4_canChange 1 = .ok (.iload_n 1, 1) := by decide +kernel
theorem dX4_canChange_2 : decode cX4_canChange 2 = .ok (.invokevirtual 107, 3) := by decide +kernel
theorem dX4_canChange_5 : decode cX4_canChange 5 = .ok (.ifCond .ne 28, 3) := by decide +kernel
theorem dX4_canChange_8 : decode cX4_canChange 8 = .ok (.aload_n 0, 1) := by decide +kernel
theorem dX4_canChange_9 : decode cX4_canChange 9 = .ok (.iload_n 2, 1) := by decide +kernel
theorem dX4_canChange_10 : decode cX4_canChange 10 = .ok (.invokevirtual 107, 3) := by decide +kernel
theorem dX4_canChange_13 : decode cX4_canChange 13 = .ok (.ifCond .ne 20, 3) := by decide +kernel
theorem dX4_canChange_16 : decode cX4_canChange 16 = .ok (.aload_n 0, 1) := by decide +kernel
theorem dX4_canChange_17 : decode cX4_canChange 17 = .ok (.iload_n 1, 1) := by decide +kernel
theorem dX4_canChange_18 : decode cX4_canChange 18 = .ok (.invokevirtual 114, 3) := by decide +kernel
theorem dX4_canChange_21 : decode cX4_canChange 21 = .ok (.aload_n 0, 1) := by decide +kernel
theorem dX4_canChange_22 : decode cX4_canChange 22 = .ok (.iload_n 2, 1) := by decide +kernel
theorem dX4_canChange_23 : decode cX4_canChange 23 = .ok (.invokevirtual 114, 3) := by decide +kernel
theorem dX4_canChange_26 : decode cX4_canChange 26 = .ok (.if_icmp .eq 7, 3) := by decide +kernel
theorem dX4_canChange_29 : decode cX4_canChange 29 = .ok (.iconst 1, 1) := by decide +kernel
theorem dX4_canChange_30 : decode cX4_canChange 30 = .ok (.goto 4, 3) := by decide +kernel
theorem dX4_canChange_33 : decode cX4_canChange 33 = .ok (.iconst 0, 1) := by decide +kernel
theorem dX4_canChange_34 : decode cX4_canChange 34 = .ok (.ireturn, 1) := by decide +kernel
theorem dX4_changeOn_0 : decode cX4_changeOn 0 = .ok (.bipush 48, 2) := by decide +kernel
theorem dX4_changeOn_2 : decode cX4_changeOn 2 = .ok (.iload_n 1, 1) := by decide +kernel
theorem dX4_changeOn_3 : decode cX4_changeOn 3 = .ok (.imul, 1) := by decide +kernel
theorem dX4_changeOn_4 : decode cX4_changeOn 4 = .ok (.bipush 6, 2) := by decide +kernel
theorem dX4_changeOn_6 : decode cX4_changeOn 6 = .ok (.iadd, 1) := by decide +kernel
theorem dX4_changeOn_7 : decode cX4_changeOn 7 = .ok (.bipush 6, 2) := by decide +kernel
theorem dX4_changeOn_9 : decode cX4_changeOn 9 = .ok (.iload_n 2, 1) := by decide +kernel
theorem dX4_changeOn_10 : decode cX4_changeOn 10 = .ok (.imul, 1) := by decide +kernel
theorem dX4_changeOn_11 : decode cX4_changeOn 11 = .ok (.iadd, 1) := by decide +kernel
theorem dX4_changeOn_12 : decode cX4_changeOn 12 = .ok (.iconst 3, 1) := by decide +kernel
theorem dX4_changeOn_13 : decode cX4_changeOn 13 = .ok (.iadd, 1) := by decide +kernel
theorem dX4_changeOn_14 : decode cX4_changeOn 14 = .ok (.istore 4, 2) := by decide +kernel
theorem dX4_changeOn_16 : decode cX4_changeOn 16 = .ok (.bipush 48, 2) := by decide +kernel
theorem dX4_changeOn_18 : decode cX4_changeOn 18 = .ok (.iload_n 1, 1) := by decide +kernel
theorem dX4_changeOn_19 : decode cX4_changeOn 19 = .ok (.imul, 1) := by decide +kernel
theorem dX4_changeOn_20 : decode cX4_changeOn 20 = .ok (.bipush 6, 2) := by decide +kernel
theorem dX4_changeOn_22 : decode cX4_changeOn 22 = .ok (.iadd, 1) := by decide +kernel
theorem dX4_changeOn_23 : decode cX4_changeOn 23 = .ok (.bipush 6, 2) := by decide +kernel
theorem dX4_changeOn_25 : decode cX4_changeOn 25 = .ok (.iload_n 3, 1) := by decide +kernel
theorem dX4_changeOn_26 : decode cX4_changeOn 26 = .ok (.imul, 1) := by decide +kernel
theorem dX4_changeOn_27 : decode cX4_changeOn 27 = .ok (.iadd, 1) := by decide +kernel
theorem dX4_changeOn_28 : decode cX4_changeOn 28 = .ok (.iconst 3, 1) := by decide +kernel
theorem dX4_changeOn_29 : decode cX4_changeOn 29 = .ok (.iadd, 1) := by decide +kernel
theorem dX4_changeOn_30 : decode cX4_changeOn 30 = .ok (.istore 5, 2) := by decide +kernel
theorem dX4_changeOn_32 : decode cX4_changeOn 32 = .ok (.aload_n 0, 1) := by decide +kernel
theorem dX4_changeOn_33 : decode cX4_changeOn 33 = .ok (.getfield 19, 3) := by decide +kernel
theorem dX4_changeOn_36 : decode cX4_changeOn 36 = .ok (.iload 4, 2) := by decide +kernel
theorem dX4_changeOn_38 : decode cX4_changeOn 38 = .ok (.iaload, 1) := by decide +kernel
theorem dX4_changeOn_39 : decode cX4_changeOn 39 = .ok (.istore 6, 2) := by decide +kernel
theorem dX4_changeOn_41 : decode cX4_changeOn 41 = .ok (.aload_n 0, 1) := by decide +kernel
theorem dX4_changeOn_42 : decode cX4_changeOn 42 = .ok (.getfield 19, 3) := by decide +kernel
theorem dX4_changeOn_45 : decode cX4_changeOn 45 = .ok (.iload 4, 2) := by decide +kernel
theorem dX4_changeOn_47 : decode cX4_changeOn 47 = .ok (.aload_n 0, 1) := by decide +kernel
theorem dX4_changeOn_48 : decode cX4_changeOn 48 = .ok (.getfield 19, 3) := by decide +kernel
theorem dX4_changeOn_51 : decode cX4_changeOn 51 = .ok (.iload 5, 2) := by decide +kernel
theorem dX4_changeOn_53 : decode cX4_changeOn 53 = .ok (.iaload, 1) := by decide +kernel
theorem dX4_changeOn_54 : decode cX4_changeOn 54 = .ok (.iastore, 1) := by decide +kernel
theorem dX4_changeOn_55 : decode cX4_changeOn 55 = .ok (.aload_n 0, 1) := by decide +kernel
theorem dX4_changeOn_56 : decode cX4_changeOn 56 = .ok (.getfield 19, 3) := by decide +kernel
theorem dX4_changeOn_59 : decode cX4_changeOn 59 = .ok (.iload 5, 2) := by decide +kernel
theorem dX4_changeOn_61 : decode cX4_changeOn 61 = .ok (.iload 6, 2) := by decide +kernel
theorem dX4_changeOn_63 : decode cX4_changeOn 63 = .ok (.iastore, 1) := by decide +kernel
theorem dX4_changeOn_64 : decode cX4_changeOn 64 = .ok (.return_, 1) := by decide +kernel
set_option maxRecDepth 20000 in
theorem ggX4_change_X4_isTicket : GoodIn wsX4_change wsX4_isTicket := goodIn_r _ [5, 6, 7, 8, 4, 9, 34, 35, 36, 37, 38, 39, 40, 41, 42, 43, 44, 45, 46, 47, 48, 49, 50, 51, 52, 53, 54, 55, 56, 57, 58, 59, 60, 61, 62, 63] rfl (by decide +kernel)
set_option maxRecDepth 20000 in
theorem gX4_change_X4_isTicket : GoodIn wsX4_change (wsV RX4 122 RX4 yX4_isTicket wsX4_isTicket) := goodIn_app (goodIn_r _ [1, 2, 3, 4] rfl (by decide +kernel)) ggX4_change_X4_isTicket
set_option maxRecDepth 20000 in
theorem ggX4_change_X4_canChange : GoodIn wsX4_change wsX4_canChange := goodIn_r _ [13, 14, 15, 16, 4, 17, 18, 19, 20, 21, 22, 34, 35, 36, 37, 38, 39, 40, 41, 42, 43, 44, 45, 46, 47, 48, 49, 50, 51, 52, 53, 54, 55, 56, 57, 58, 59, 60, 61, 62, 63] rfl (by decide +kernel)
set_option maxRecDepth 20000 in
theorem gX4_change_X4_canChange : GoodIn wsX4_change (wsV RX4 146 RX4 yX4_canChange wsX4_canChange) := goodIn_app (goodIn_r _ [10, 11, 12, 4] rfl (by decide +kernel)) ggX4_change_X4_canChange
set_option maxRecDepth 20000 in
theorem ggX4_change_X4_keepAct : GoodIn wsX4_change wsX4_keepAct := goodIn_r _ [26, 27, 28, 18, 29, 34, 35, 36, 37, 38, 39, 40, 41, 42, 43, 44, 45, 46, 47, 48, 49, 50, 51, 52, 53, 54, 55, 56, 57, 58, 59, 60, 61, 62, 63] rfl (by decide +kernel)
set_option maxRecDepth 20000 in
theorem gX4_change_X4_keepAct : GoodIn wsX4_change (wsV RX4 140 RX4 yX4_keepAct wsX4_keepAct) := goodIn_app (goodIn_r _ [23, 24, 25, 4] rfl (by decide +kernel)) ggX4_change_X4_keepAct
set_option maxRecDepth 20000 in
theorem ggX4_change_X4_changeOn : GoodIn wsX4_change wsX4_changeOn := goodIn_r _ [33, 18, 34, 35, 36, 37, 38, 39, 40, 41, 42, 43, 44, 45, 46, 47, 48, 49, 50, 51, 52, 53, 54, 55, 56, 57, 58, 59, 60, 61, 62, 63] rfl (by decide +kernel)
set_option maxRecDepth 20000 in
theorem gX4_change_X4_changeOn : GoodIn wsX4_change (wsV RX4 149 RX4 yX4_changeOn wsX4_changeOn) := goodIn_app (goodIn_r _ [30, 31, 32, 4] rfl (by decide +kernel)) ggX4_change_X4_changeOn
set_option maxRecDepth 20000 in
theorem ggX4_change_X4_holder : GoodIn wsX4_change wsX4_holder := goodIn_r _ [22, 18, 34, 35, 36, 37, 38, 39, 40, 41, 42, 43, 44, 45, 46, 47, 48, 49, 50, 51, 52, 53, 54, 55, 56, 57, 58, 59, 60, 61, 62, 63] rfl (by decide +kernel)
set_option maxRecDepth 20000 in
theorem gX4_change_X4_holder : GoodIn wsX4_change (wsV RX4 114 RX4 yX4_holder wsX4_holder) := goodIn_app (goodIn_r _ [19, 20, 21, 4] rfl (by decide +kernel)) ggX4_change_X4_holder
theorem dX4_change_0 : decode cX4_change 0 = .ok (.aload_n 0, 1) := by decide +kernel
theorem dX4_change_1 : decode cX4_change 1 = .ok (.iload_n 1, 1) := by decide +kernel
theorem dX4_change_2 : decode cX4_change 2 = .ok (.invokevirtual 122, 3) := by decide +kernel
theorem dX4_change_5 : decode cX4_change 5 = .ok (.ifCond .eq 11, 3) := by decide +kernel
theorem dX4_change_8 : decode cX4_change 8 = .ok (.aload_n 0, 1) := by decide +kernel
theorem dX4_change_9 : decode cX4_change 9 = .ok (.iload_n 2, 1) := by decide +kernel
theorem dX4_change_10 : decode cX4_change 10 = .ok (.invokevirtual 122, 3) := by decide +kernel
theorem dX4_change_13 : decode cX4_change 13 = .ok (.ifCond .ne 5, 3) := by decide +kernel
theorem dX4_change_16 : decode cX4_change 16 = .ok (.iconst (-1), 1) := by decide +kernel
theorem dX4_change_17 : decode cX4_change 17 = .ok (.ireturn, 1) := by decide +kernel
theorem dX4_change_18 : decode cX4_change 18 = .ok (.aload_n 0, 1) := by decide +kernel
theorem dX4_change_19 : decode cX4_change 19 = .ok (.iload_n 1, 1) := by decide +kernel
theorem dX4_change_20 : decode cX4_change 20 = .ok (.iload_n 2, 1) := by decide +kernel
theorem dX4_change_21 : decode cX4_change 21 = .ok (.invokevirtual 146, 3) := by decide +kernel
theorem dX4_change_24 : decode cX4_change 24 = .ok (.ifCond .ne 6, 3) := by decide +kernel
theorem dX4_change_27 : decode cX4_change 27 = .ok (.bipush (-3), 2) := by decide +kernel
theorem dX4_change_29 : decode cX4_change 29 = .ok (.ireturn, 1) := by decide +kernel
theorem dX4_change_30 : decode cX4_change 30 = .ok (.aload_n 0, 1) := by decide +kernel
theorem dX4_change_31 : decode cX4_change 31 = .ok (.invokevirtual 140, 3) := by decide +kernel
theorem dX4_change_34 : decode cX4_change 34 = .ok (.aload_n 0, 1) := by decide +kernel
theorem dX4_change_35 : decode cX4_change 35 = .ok (.iconst 0, 1) := by decide +kernel
theorem dX4_change_36 : decode cX4_change 36 = .ok (.iload_n 1, 1) := by decide +kernel
theorem dX4_change_37 : decode cX4_change 37 = .ok (.iload_n 2, 1) := by decide +kernel
theorem dX4_change_38 : decode cX4_change 38 = .ok (.invokevirtual 149, 3) := by decide +kernel
theorem dX4_change_41 : decode cX4_change 41 = .ok (.aload_n 0, 1) := by decide +kernel
theorem dX4_change_42 : decode cX4_change 42 = .ok (.iload_n 1, 1) := by decide +kernel
theorem dX4_change_43 : decode cX4_change 43 = .ok (.invokevirtual 114, 3) := by decide +kernel
theorem dX4_change_46 : decode cX4_change 46 = .ok (.ireturn, 1) := by decide +kernel
theorem dX4_undo_0 : decode cX4_undo 0 = .ok (.aload_n 0, 1) := by decide +kernel
theorem dX4_undo_1 : decode cX4_undo 1 = .ok (.getfield 104, 3) := by decide +kernel
theorem dX4_undo_4 : decode cX4_undo 4 = .ok (.ifCond .ne 6, 3) := by decide +kernel
theorem dX4_undo_7 : decode cX4_undo 7 = .ok (.bipush (-3), 2) := by decide +kernel
theorem dX4_undo_9 : decode cX4_undo 9 = .ok (.ireturn, 1) := by decide +kernel
theorem dX4_undo_10 : decode cX4_undo 10 = .ok (.aload_n 0, 1) := by decide +kernel
theorem dX4_undo_11 : decode cX4_undo 11 = .ok (.dup, 1) := by decide +kernel
theorem dX4_undo_12 : decode cX4_undo 12 = .ok (.getfield 104, 3) := by decide +kernel
theorem dX4_undo_15 : decode cX4_undo 15 = .ok (.iconst 1, 1) := by decide +kernel
theorem dX4_undo_16 : decode cX4_undo 16 = .ok (.isub, 1) := by decide +kernel
theorem dX4_undo_17 : decode cX4_undo 17 = .ok (.putfield 104, 3) := by decide +kernel
theorem dX4_undo_20 : decode cX4_undo 20 = .ok (.aload_n 0, 1) := by decide +kernel
theorem dX4_undo_21 : decode cX4_undo 21 = .ok (.aload_n 0, 1) := by decide +kernel
theorem dX4_undo_22 : decode cX4_undo 22 = .ok (.getfield 137, 3) := by decide +kernel
theorem dX4_undo_25 : decode cX4_undo 25 = .ok (.bipush 13, 2) := by decide +kernel
theorem dX4_undo_27 : decode cX4_undo 27 = .ok (.iadd, 1) := by decide +kernel
theorem dX4_undo_28 : decode cX4_undo 28 = .ok (.bipush 14, 2) := by decide +kernel
theorem dX4_undo_30 : decode cX4_undo 30 = .ok (.irem, 1) := by decide +kernel
theorem dX4_undo_31 : decode cX4_undo 31 = .ok (.putfield 137, 3) := by decide +kernel
theorem dX4_undo_34 : decode cX4_undo 34 = .ok (.iconst 0, 1) := by decide +kernel
theorem dX4_undo_35 : decode cX4_undo 35 = .ok (.istore_n 1, 1) := by decide +kernel
theorem dX4_undo_36 : decode cX4_undo 36 = .ok (.iload_n 1, 1) := by decide +kernel
theorem dX4_undo_37 : decode cX4_undo 37 = .ok (.bipush 48, 2) := by decide +kernel
theorem dX4_undo_39 : decode cX4_undo 39 = .ok (.if_icmp .ge 29, 3) := by decide +kernel
theorem dX4_undo_42 : decode cX4_undo 42 = .ok (.aload_n 0, 1) := by decide +kernel
theorem dX4_undo_43 : decode cX4_undo 43 = .ok (.getfield 19, 3) := by decide +kernel
theorem dX4_undo_46 : decode cX4_undo 46 = .ok (.iload_n 1, 1) := by decide +kernel
theorem dX4_undo_47 : decode cX4_undo 47 = .ok (.aload_n 0, 1) := by decide +kernel
theorem dX4_undo_48 : decode cX4_undo 48 = .ok (.getfield 46, 3) := by decide +kernel
theorem dX4_undo_51 : decode cX4_undo 51 = .ok (.bipush 48, 2) := by decide +kernel
theorem dX4_undo_53 : decode cX4_undo 53 = .ok (.aload_n 0, 1) := by decide +kernel
theorem dX4_undo_54 : decode cX4_undo 54 = .ok (.getfield 137, 3) := by decide +kernel
theorem dX4_undo_57 : decode cX4_undo 57 = .ok (.imul, 1) := by decide +kernel
theorem dX4_undo_58 : decode cX4_undo 58 = .ok (.iload_n 1, 1) := by decide +kernel
theorem dX4_undo_59 : decode cX4_undo 59 = .ok (.iadd, 1) := by decide +kernel
theorem dX4_undo_60 : decode cX4_undo 60 = .ok (.iaload, 1) := by decide +kernel
theorem dX4_undo_61 : decode cX4_undo 61 = .ok (.iastore, 1) := by decide +kernel
theorem dX4_undo_62 : decode cX4_undo 62 = .ok (.iinc 1 1, 3) := by decide +kernel
theorem dX4_undo_65 : decode cX4_undo 65 = .ok (.goto (-29), 3) := by decide +kernel
theorem dX4_undo_68 : decode cX4_undo 68 = .ok (.aload_n 0, 1) := by decide +kernel
theorem dX4_undo_69 : decode cX4_undo 69 = .ok (.getfield 104, 3) := by decide +kernel
theorem dX4_undo_72 : decode cX4_undo 72 = .ok (.ireturn, 1) := by decide +kernel
set_option maxRecDepth 20000 in
theorem ggX4_where_X4_isPerson : GoodIn wsX4_where wsX4_isPerson := goodIn_r _ [8, 9, 10, 11, 7, 12, 33, 34, 35, 36, 37, 38, 39, 40, 41, 42, 43, 44, 45, 46, 47, 48, 49, 50, 51, 52, 53, 54, 55, 56, 57, 58, 59, 60, 61, 62] rfl (by decide +kernel)
set_option maxRecDepth 20000 in
theorem gX4_where_X4_isPerson : GoodIn wsX4_where (wsV RX4 111 RX4 yX4_isPerson wsX4_isPerson) := goodIn_app (goodIn_r _ [4, 5, 6, 7] rfl (by decide +kernel)) ggX4_where_X4_isPerson
set_option maxRecDepth 20000 in
theorem ggX4_where_X4_in : GoodIn wsX4_where wsX4_in := goodIn_r _ [12] rfl (by decide +kernel)
set_option maxRecDepth 20000 in
theorem gX4_where_X4_in : GoodIn wsX4_where (va_wsS RX4 74 yX4_in wsX4_in) := goodIn_app (goodIn_of _ (by decide +kernel)) ggX4_where_X4_in
set_option maxRecDepth 20000 in
theorem ggX4_where_X4_layTrial : GoodIn wsX4_where wsX4_layTrial := goodIn_r _ [16, 2, 33, 34, 35, 36, 37, 38, 39, 40, 41, 42, 43, 44, 45, 46, 47, 48, 49, 50, 51, 52, 53, 54, 55, 56, 57, 58, 59, 60, 61, 62] rfl (by decide +kernel)
set_option maxRecDepth 20000 in
theorem gX4_where_X4_layTrial : GoodIn wsX4_where (wsV RX4 157 RX4 yX4_layTrial wsX4_layTrial) := goodIn_app (goodIn_r _ [13, 14, 15, 7] rfl (by decide +kernel)) ggX4_where_X4_layTrial
set_option maxRecDepth 20000 in
theorem ggX4_where_X4_pass : GoodIn wsX4_where wsX4_pass := goodIn_r _ [20, 9, 21, 2, 22, 23, 24, 25, 26, 7, 27, 28, 29, 30, 31, 32, 33, 34, 35, 36, 37, 38, 39, 40, 41, 42, 43, 44, 45, 46, 47, 48, 49, 50, 51, 52, 53, 54, 55, 56, 57, 58, 59, 60, 61, 62] rfl (by decide +kernel)
set_option maxRecDepth 20000 in
theorem gX4_where_X4_pass : GoodIn wsX4_where (wsV RX4 143 RX4 yX4_pass wsX4_pass) := goodIn_app (goodIn_r _ [17, 18, 19, 7] rfl (by decide +kernel)) ggX4_where_X4_pass
theorem dX4_where_0 : decode cX4_where 0 = .ok (.aload_n 0, 1) := by decide +kernel
theorem dX4_where_1 : decode cX4_where 1 = .ok (.iload_n 1, 1) := by decide +kernel
theorem dX4_where_2 : decode cX4_where 2 = .ok (.invokevirtual 111, 3) := by decide +kernel
theorem dX4_where_5 : decode cX4_where 5 = .ok (.ifCond .ne 5, 3) := by decide +kernel
theorem dX4_where_8 : decode cX4_where 8 = .ok (.iconst (-1), 1) := by decide +kernel
theorem dX4_where_9 : decode cX4_where 9 = .ok (.ireturn, 1) := by decide +kernel
theorem dX4_where_10 : decode cX4_where 10 = .ok (.iload_n 2, 1) := by decide +kernel
theorem dX4_where_11 : decode cX4_where 11 = .ok (.i2l, 1) := by decide +kernel
theorem dX4_where_12 : decode cX4_where 12 = .ok (.lconst 0, 1) := by decide +kernel
theorem dX4_where_13 : decode cX4_where 13 = .ok (.ldc2_w 155, 3) := by decide +kernel
theorem dX4_where_16 : decode cX4_where 16 = .ok (.invokestatic 74, 3) := by decide +kernel
theorem dX4_where_19 : decode cX4_where 19 = .ok (.ifCond .ne 6, 3) := by decide +kernel
theorem dX4_where_22 : decode cX4_where 22 = .ok (.bipush (-2), 2) := by decide +kernel
theorem dX4_where_24 : decode cX4_where 24 = .ok (.ireturn, 1) := by decide +kernel
theorem dX4_where_25 : decode cX4_where 25 = .ok (.iload_n 2, 1) := by decide +kernel
theorem dX4_where_26 : decode cX4_where 26 = .ok (.aload_n 0, 1) := by decide +kernel
theorem dX4_where_27 : decode cX4_where 27 = .ok (.getfield 19, 3) := by decide +kernel
theorem dX4_where_30 : decode cX4_where 30 = .ok (.iconst 0, 1) := by decide +kernel
theorem dX4_where_31 : decode cX4_where 31 = .ok (.iaload, 1) := by decide +kernel
theorem dX4_where_32 : decode cX4_where 32 = .ok (.if_icmp .ge 6, 3) := by decide +kernel
theorem dX4_where_35 : decode cX4_where 35 = .ok (.bipush (-3), 2) := by decide +kernel
theorem dX4_where_37 : decode cX4_where 37 = .ok (.ireturn, 1) := by decide +kernel
theorem dX4_where_38 : decode cX4_where 38 = .ok (.aload_n 0, 1) := by decide +kernel
theorem dX4_where_39 : decode cX4_where 39 = .ok (.invokevirtual 157, 3) := by decide +kernel
theorem dX4_where_42 : decode cX4_where 42 = .ok (.aload_n 0, 1) := by decide +kernel
theorem dX4_where_43 : decode cX4_where 43 = .ok (.getfield 19, 3) := by decide +kernel
theorem dX4_where_46 : decode cX4_where 46 = .ok (.bipush 48, 2) := by decide +kernel
theorem dX4_where_48 : decode cX4_where 48 = .ok (.iaload, 1) := by decide +kernel
theorem dX4_where_49 : decode cX4_where 49 = .ok (.iload_n 2, 1) := by decide +kernel
theorem dX4_where_50 : decode cX4_where 50 = .ok (.if_icmp .ge 16, 3) := by decide +kernel
theorem dX4_where_53 : decode cX4_where 53 = .ok (.aload_n 0, 1) := by decide +kernel
theorem dX4_where_54 : decode cX4_where 54 = .ok (.iconst 1, 1) := by decide +kernel
theorem dX4_where_55 : decode cX4_where 55 = .ok (.aload_n 0, 1) := by decide +kernel
theorem dX4_where_56 : decode cX4_where 56 = .ok (.getfield 101, 3) := by decide +kernel
theorem dX4_where_59 : decode cX4_where 59 = .ok (.invokevirtual 143, 3) := by decide +kernel
theorem dX4_where_62 : decode cX4_where 62 = .ok (.pop, 1) := by decide +kernel
theorem dX4_where_63 : decode cX4_where 63 = .ok (.goto (-21), 3) := by decide +kernel
theorem dX4_where_66 : decode cX4_where 66 = .ok (.aload_n 0, 1) := by decide +kernel
theorem dX4_where_67 : decode cX4_where 67 = .ok (.getfield 19, 3) := by decide +kernel
theorem dX4_where_70 : decode cX4_where 70 = .ok (.bipush 49, 2) := by decide +kernel
theorem dX4_where_72 : decode cX4_where 72 = .ok (.iload_n 1, 1) := by decide +kernel
theorem dX4_where_73 : decode cX4_where 73 = .ok (.iadd, 1) := by decide +kernel
theorem dX4_where_74 : decode cX4_where 74 = .ok (.iaload, 1) := by decide +kernel
theorem dX4_where_75 : decode cX4_where 75 = .ok (.ireturn, 1) := by decide +kernel
set_option maxRecDepth 20000 in
theorem ggX4_meetOf_X4_pass : GoodIn wsX4_meetOf wsX4_pass := goodIn_r _ [7, 8, 9, 1, 10, 11, 12, 13, 14, 6, 15, 16, 17, 18, 19, 20, 28, 29, 30, 31, 32, 33, 34, 35, 36, 37, 38, 39, 40, 41, 42, 43, 44, 45, 46, 47, 48, 49, 50, 51, 52, 53, 54, 55, 56, 57] rfl (by decide +kernel)
set_option maxRecDepth 20000 in
theorem gX4_meetOf_X4_pass : GoodIn wsX4_meetOf (wsV RX4 143 RX4 yX4_pass wsX4_pass) := goodIn_app (goodIn_r _ [3, 4, 5, 6] rfl (by decide +kernel)) ggX4_meetOf_X4_pass
set_option maxRecDepth 20000 in
theorem ggX4_meetOf_X4_areTogether : GoodIn wsX4_meetOf wsX4_areTogether := goodIn_r _ [24, 10, 11, 25, 26, 6, 27, 28, 29, 30, 31, 32, 33, 34, 35, 36, 37, 38, 39, 40, 41, 42, 43, 44, 45, 46, 47, 48, 49, 50, 51, 52, 53, 54, 55, 56, 57] rfl (by decide +kernel)
set_option maxRecDepth 20000 in
theorem gX4_meetOf_X4_areTogether : GoodIn wsX4_meetOf (wsV RX4 133 RX4 yX4_areTogether wsX4_areTogether) := goodIn_app (goodIn_r _ [21, 22, 23, 6] rfl (by decide +kernel)) ggX4_meetOf_X4_areTogether
theorem dX4_meetOf_0 : decode cX4_meetOf 0 = .ok (.aload_n 0, 1) := by decide +kernel
theorem dX4_meetOf_1 : decode cX4_meetOf 1 = .ok (.getfield 19, 3) := by decide +kernel
theorem dX4_meetOf_4 : decode cX4_meetOf 4 = .ok (.bipush 48, 2) := by decide +kernel
theorem dX4_meetOf_6 : decode cX4_meetOf 6 = .ok (.iaload, 1) := by decide +kernel
theorem dX4_meetOf_7 : decode cX4_meetOf 7 = .ok (.bipush 10, 2) := by decide +kernel
theorem dX4_meetOf_9 : decode cX4_meetOf 9 = .ok (.if_icmp .ge 31, 3) := by decide +kernel
theorem dX4_meetOf_12 : decode cX4_meetOf 12 = .ok (.aload_n 0, 1) := by decide +kernel
theorem dX4_meetOf_13 : decode cX4_meetOf 13 = .ok (.aload_n 0, 1) := by decide +kernel
theorem dX4_meetOf_14 : decode cX4_meetOf 14 = .ok (.iconst 1, 1) := by decide +kernel
theorem dX4_meetOf_15 : decode cX4_meetOf 15 = .ok (.aload_n 0, 1) := by decide +kernel
theorem dX4_meetOf_16 : decode cX4_meetOf 16 = .ok (.getfield 101, 3) := by decide +kernel
theorem dX4_meetOf_19 : decode cX4_meetOf 19 = .ok (.invokevirtual 143, 3) := by decide +kernel
theorem dX4_meetOf_22 : decode cX4_meetOf 22 = .ok (.iload_n 1, 1) := by decide +kernel
theorem dX4_meetOf_23 : decode cX4_meetOf 23 = .ok (.iload_n 2, 1) := by decide +kernel
theorem dX4_meetOf_24 : decode cX4_meetOf 24 = .ok (.invokevirtual 133, 3) := by decide +kernel
theorem dX4_meetOf_27 : decode cX4_meetOf 27 = .ok (.ifCond .eq (-27), 3) := by decide +kernel
theorem dX4_meetOf_30 : decode cX4_meetOf 30 = .ok (.aload_n 0, 1) := by decide +kernel
theorem dX4_meetOf_31 : decode cX4_meetOf 31 = .ok (.getfield 19, 3) := by decide +kernel
theorem dX4_meetOf_34 : decode cX4_meetOf 34 = .ok (.bipush 48, 2) := by decide +kernel
theorem dX4_meetOf_36 : decode cX4_meetOf 36 = .ok (.iaload, 1) := by decide +kernel
theorem dX4_meetOf_37 : decode cX4_meetOf 37 = .ok (.iconst 1, 1) := by decide +kernel
theorem dX4_meetOf_38 : decode cX4_meetOf 38 = .ok (.isub, 1) := by decide +kernel
theorem dX4_meetOf_39 : decode cX4_meetOf 39 = .ok (.ireturn, 1) := by decide +kernel
theorem dX4_meetOf_40 : decode cX4_meetOf 40 = .ok (.bipush (-9), 2) := by decide +kernel
theorem dX4_meetOf_42 : decode cX4_meetOf 42 = .ok (.ireturn, 1) := by decide +kernel
set_option maxRecDepth 20000 in
theorem ggX4_meet_X4_isPerson : GoodIn wsX4_meet wsX4_isPerson := goodIn_r _ [5, 6, 7, 8, 4, 9, 43, 44, 45, 46, 47, 48, 49, 50, 51, 52, 53, 54, 55, 56, 57, 58, 59, 60, 61, 62, 63, 64, 65, 66, 67, 68, 69, 70, 71, 72] rfl (by decide +kernel)
set_option maxRecDepth 20000 in
theorem gX4_meet_X4_isPerson : GoodIn wsX4_meet (wsV RX4 111 RX4 yX4_isPerson wsX4_isPerson) := goodIn_app (goodIn_r _ [1, 2, 3, 4] rfl (by decide +kernel)) ggX4_meet_X4_isPerson
set_option maxRecDepth 20000 in
theorem ggX4_meet_X4_layTrial : GoodIn wsX4_meet wsX4_layTrial := goodIn_r _ [13, 14, 43, 44, 45, 46, 47, 48, 49, 50, 51, 52, 53, 54, 55, 56, 57, 58, 59, 60, 61, 62, 63, 64, 65, 66, 67, 68, 69, 70, 71, 72] rfl (by decide +kernel)
set_option maxRecDepth 20000 in
theorem gX4_meet_X4_layTrial : GoodIn wsX4_meet (wsV RX4 157 RX4 yX4_layTrial wsX4_layTrial) := goodIn_app (goodIn_r _ [10, 11, 12, 4] rfl (by decide +kernel)) ggX4_meet_X4_layTrial
set_option maxRecDepth 20000 in
theorem ggX4_meet_X4_meetOf : GoodIn wsX4_meet wsX4_meetOf := goodIn_r _ [18, 14, 19, 20, 21, 22, 4, 23, 6, 24, 25, 26, 27, 28, 29, 30, 31, 32, 33, 34, 35, 36, 37, 38, 39, 40, 41, 42, 43, 44, 45, 46, 47, 48, 49, 50, 51, 52, 53, 54, 55, 56, 57, 58, 59, 60, 61, 62, 63, 64, 65, 66, 67, 68, 69, 70, 71, 72] rfl (by decide +kernel)
set_option maxRecDepth 20000 in
theorem gX4_meet_X4_meetOf : GoodIn wsX4_meet (wsV RX4 160 RX4 yX4_meetOf wsX4_meetOf) := goodIn_app (goodIn_r _ [15, 16, 17, 4] rfl (by decide +kernel)) ggX4_meet_X4_meetOf
theorem dX4_meet_0 : decode cX4_meet 0 = .ok (.aload_n 0, 1) := by decide +kernel
theorem dX4_meet_1 : decode cX4_meet 1 = .ok (.iload_n 1, 1) := by decide +kernel
theorem dX4_meet_2 : decode cX4_meet 2 = .ok (.invokevirtual 111, 3) := by decide +kernel
theorem dX4_meet_5 : decode cX4_meet 5 = .ok (.ifCond .eq 11, 3) := by decide +kernel
theorem dX4_meet_8 : decode cX4_meet 8 = .ok (.aload_n 0, 1) := by decide +kernel
theorem dX4_meet_9 : decode cX4_meet 9 = .ok (.iload_n 2, 1) := by decide +kernel
theorem dX4_meet_10 : decode cX4_meet 10 = .ok (.invokevirtual 111, 3) := by decide +kernel
theorem dX4_meet_13 : decode cX4_meet 13 = .ok (.ifCond .ne 5, 3) := by decide +kernel
theorem dX4_meet_16 : decode cX4_meet 16 = .ok (.iconst (-1), 1) := by decide +kernel
theorem dX4_meet_17 : decode cX4_meet 17 = .ok (.ireturn, 1) := by decide +kernel
theorem dX4_meet_18 : decode cX4_meet 18 = .ok (.iload_n 1, 1) := by decide +kernel
theorem dX4_meet_19 : decode cX4_meet 19 = .ok (.iload_n 2, 1) := by decide +kernel
theorem dX4_meet_20 : decode cX4_meet 20 = .ok (.if_icmp .ne 6, 3) := by decide +kernel
theorem dX4_meet_23 : decode cX4_meet 23 = .ok (.bipush (-2), 2) := by decide +kernel
theorem dX4_meet_25 : decode cX4_meet 25 = .ok (.ireturn, 1) := by decide +kernel
theorem dX4_meet_26 : decode cX4_meet 26 = .ok (.aload_n 0, 1) := by decide +kernel
theorem dX4_meet_27 : decode cX4_meet 27 = .ok (.invokevirtual 157, 3) := by decide +kernel
theorem dX4_meet_30 : decode cX4_meet 30 = .ok (.aload_n 0, 1) := by decide +kernel
theorem dX4_meet_31 : decode cX4_meet 31 = .ok (.iload_n 1, 1) := by decide +kernel
theorem dX4_meet_32 : decode cX4_meet 32 = .ok (.iload_n 2, 1) := by decide +kernel
theorem dX4_meet_33 : decode cX4_meet 33 = .ok (.invokevirtual 160, 3) := by decide +kernel
theorem dX4_meet_36 : decode cX4_meet 36 = .ok (.ireturn, 1) := by decide +kernel
set_option maxRecDepth 20000 in
theorem ggX4_twoSeats_X4_layTrial : GoodIn wsX4_twoSeats wsX4_layTrial := goodIn_r _ [7, 1, 37, 38, 39, 40, 41, 42, 43, 44, 45, 46, 47, 48, 49, 50, 51, 52, 53, 54, 55, 56, 57, 58, 59, 60, 61, 62, 63, 64, 65, 66] rfl (by decide +kernel)
set_option maxRecDepth 20000 in
theorem gX4_twoSeats_X4_layTrial : GoodIn wsX4_twoSeats (wsV RX4 157 RX4 yX4_layTrial wsX4_layTrial) := goodIn_app (goodIn_r _ [3, 4, 5, 6] rfl (by decide +kernel)) ggX4_twoSeats_X4_layTrial
set_option maxRecDepth 20000 in
theorem ggX4_twoSeats_X4_pass : GoodIn wsX4_twoSeats wsX4_pass := goodIn_r _ [11, 12, 13, 1, 14, 15, 16, 17, 18, 6, 19, 20, 21, 22, 23, 24, 37, 38, 39, 40, 41, 42, 43, 44, 45, 46, 47, 48, 49, 50, 51, 52, 53, 54, 55, 56, 57, 58, 59, 60, 61, 62, 63, 64, 65, 66] rfl (by decide +kernel)
set_option maxRecDepth 20000 in
theorem gX4_twoSeats_X4_pass : GoodIn wsX4_twoSeats (wsV RX4 143 RX4 yX4_pass wsX4_pass) := goodIn_app (goodIn_r _ [8, 9, 10, 6] rfl (by decide +kernel)) ggX4_twoSeats_X4_pass
set_option maxRecDepth 20000 in
theorem ggX4_twoSeats_X4_isDouble : GoodIn wsX4_twoSeats wsX4_isDouble := goodIn_r _ [28, 12, 29, 13, 30, 31, 32, 6, 33, 14, 15, 34, 35, 36, 37, 38, 39, 40, 41, 42, 43, 44, 45, 46, 47, 48, 49, 50, 51, 52, 53, 54, 55, 56, 57, 58, 59, 60, 61, 62, 63, 64, 65, 66] rfl (by decide +kernel)
set_option maxRecDepth 20000 in
theorem gX4_twoSeats_X4_isDouble : GoodIn wsX4_twoSeats (wsV RX4 163 RX4 yX4_isDouble wsX4_isDouble) := goodIn_app (goodIn_r _ [25, 26, 27, 6] rfl (by decide +kernel)) ggX4_twoSeats_X4_isDouble
theorem dX4_twoSeats_0 : decode cX4_twoSeats 0 = .ok (.aload_n 0, 1) := by decide +kernel
theorem dX4_twoSeats_1 : decode cX4_twoSeats 1 = .ok (.invokevirtual 157, 3) := by decide +kernel
theorem dX4_twoSeats_4 : decode cX4_twoSeats 4 = .ok (.aload_n 0, 1) := by decide +kernel
theorem dX4_twoSeats_5 : decode cX4_twoSeats 5 = .ok (.getfield 19, 3) := by decide +kernel
theorem dX4_twoSeats_8 : decode cX4_twoSeats 8 = .ok (.bipush 48, 2) := by decide +kernel
theorem dX4_twoSeats_10 : decode cX4_twoSeats 10 = .ok (.iaload, 1) := by decide +kernel
theorem dX4_twoSeats_11 : decode cX4_twoSeats 11 = .ok (.bipush 10, 2) := by decide +kernel
theorem dX4_twoSeats_13 : decode cX4_twoSeats 13 = .ok (.if_icmp .ge 29, 3) := by decide +kernel
theorem dX4_twoSeats_16 : decode cX4_twoSeats 16 = .ok (.aload_n 0, 1) := by decide +kernel
theorem dX4_twoSeats_17 : decode cX4_twoSeats 17 = .ok (.aload_n 0, 1) := by decide +kernel
theorem dX4_twoSeats_18 : decode cX4_twoSeats 18 = .ok (.iconst 1, 1) := by decide +kernel
theorem dX4_twoSeats_19 : decode cX4_twoSeats 19 = .ok (.aload_n 0, 1) := by decide +kernel
theorem dX4_twoSeats_20 : decode cX4_twoSeats 20 = .ok (.getfield 101, 3) := by decide +kernel
theorem dX4_twoSeats_23 : decode cX4_twoSeats 23 = .ok (.invokevirtual 143, 3) := by decide +kernel
theorem dX4_twoSeats_26 : decode cX4_twoSeats 26 = .ok (.invokevirtual 163, 3) := by decide +kernel
theorem dX4_twoSeats_29 : decode cX4_twoSeats 29 = .ok (.ifCond .eq (-25), 3) := by decide +kernel
theorem dX4_twoSeats_32 : decode cX4_twoSeats 32 = .ok (.aload_n 0, 1) := by decide +kernel
theorem dX4_twoSeats_33 : decode cX4_twoSeats 33 = .ok (.getfield 19, 3) := by decide +kernel
theorem dX4_twoSeats_36 : decode cX4_twoSeats 36 = .ok (.bipush 48, 2) := by decide +kernel
theorem dX4_twoSeats_38 : decode cX4_twoSeats 38 = .ok (.iaload, 1) := by decide +kernel
theorem dX4_twoSeats_39 : decode cX4_twoSeats 39 = .ok (.iconst 1, 1) := by decide +kernel
theorem dX4_twoSeats_40 : decode cX4_twoSeats 40 = .ok (.isub, 1) := by decide +kernel
theorem dX4_twoSeats_41 : decode cX4_twoSeats 41 = .ok (.ireturn, 1) := by decide +kernel
theorem dX4_twoSeats_42 : decode cX4_twoSeats 42 = .ok (.bipush (-9), 2) := by decide +kernel
theorem dX4_twoSeats_44 : decode cX4_twoSeats 44 = .ok (.ireturn, 1) := by decide +kernel
set_option maxRecDepth 20000 in
theorem ggX4_giveTrial_X4_isTicket : GoodIn wsX4_giveTrial wsX4_isTicket := goodIn_r _ [6, 7, 8, 9, 5, 10, 20, 21, 22, 23, 24, 25, 26, 27, 28, 29, 30, 31, 32, 33, 34, 35, 36, 37, 38, 39, 40, 41, 42, 43, 44, 45, 46, 47, 48, 49] rfl (by decide +kernel)
set_option maxRecDepth 20000 in
theorem gX4_giveTrial_X4_isTicket : GoodIn wsX4_giveTrial (wsV RX4 122 RX4 yX4_isTicket wsX4_isTicket) := goodIn_app (goodIn_r _ [2, 3, 4, 5] rfl (by decide +kernel)) ggX4_giveTrial_X4_isTicket
set_option maxRecDepth 20000 in
theorem ggX4_giveTrial_X4_isPerson : GoodIn wsX4_giveTrial wsX4_isPerson := goodIn_r _ [14, 15, 8, 9, 5, 10, 20, 21, 22, 23, 24, 25, 26, 27, 28, 29, 30, 31, 32, 33, 34, 35, 36, 37, 38, 39, 40, 41, 42, 43, 44, 45, 46, 47, 48, 49] rfl (by decide +kernel)
set_option maxRecDepth 20000 in
theorem gX4_giveTrial_X4_isPerson : GoodIn wsX4_giveTrial (wsV RX4 111 RX4 yX4_isPerson wsX4_isPerson) := goodIn_app (goodIn_r _ [11, 12, 13, 5] rfl (by decide +kernel)) ggX4_giveTrial_X4_isPerson
set_option maxRecDepth 20000 in
theorem ggX4_giveTrial_X4_isGone : GoodIn wsX4_giveTrial wsX4_isGone := goodIn_r _ [19, 1, 20, 21, 22, 23, 24, 25, 26, 27, 28, 29, 30, 31, 32, 33, 34, 35, 36, 37, 38, 39, 40, 41, 42, 43, 44, 45, 46, 47, 48, 49] rfl (by decide +kernel)
set_option maxRecDepth 20000 in
theorem gX4_giveTrial_X4_isGone : GoodIn wsX4_giveTrial (wsV RX4 107 RX4 yX4_isGone wsX4_isGone) := goodIn_app (goodIn_r _ [16, 17, 18, 5] rfl (by decide +kernel)) ggX4_giveTrial_X4_isGone
theorem dX4_giveTrial_0 : decode cX4_giveTrial 0 = .ok (.aload_n 0, 1) := by decide +kernel
theorem dX4_giveTrial_1 : decode cX4_giveTrial 1 = .ok (.iload_n 1, 1) := by decide +kernel
theorem dX4_giveTrial_2 : decode cX4_giveTrial 2 = .ok (.invokevirtual 122, 3) := by decide +kernel
theorem dX4_giveTrial_5 : decode cX4_giveTrial 5 = .ok (.ifCond .eq 41, 3) := by decide +kernel
theorem dX4_giveTrial_8 : decode cX4_giveTrial 8 = .ok (.aload_n 0, 1) := by decide +kernel
theorem dX4_giveTrial_9 : decode cX4_giveTrial 9 = .ok (.iload_n 2, 1) := by decide +kernel
theorem dX4_giveTrial_10 : decode cX4_giveTrial 10 = .ok (.invokevirtual 111, 3) := by decide +kernel
theorem dX4_giveTrial_13 : decode cX4_giveTrial 13 = .ok (.ifCond .eq 33, 3) := by decide +kernel
theorem dX4_giveTrial_16 : decode cX4_giveTrial 16 = .ok (.aload_n 0, 1) := by decide +kernel
theorem dX4_giveTrial_17 : decode cX4_giveTrial 17 = .ok (.iload_n 1, 1) := by decide +kernel
theorem dX4_giveTrial_18 : decode cX4_giveTrial 18 = .ok (.invokevirtual 107, 3) := by decide +kernel
theorem dX4_giveTrial_21 : decode cX4_giveTrial 21 = .ok (.ifCond .ne 25, 3) := by decide +kernel
theorem dX4_giveTrial_24 : decode cX4_giveTrial 24 = .ok (.aload_n 0, 1) := by decide +kernel
theorem dX4_giveTrial_25 : decode cX4_giveTrial 25 = .ok (.getfield 19, 3) := by decide +kernel
theorem dX4_giveTrial_28 : decode cX4_giveTrial 28 = .ok (.bipush 54, 2) := by decide +kernel
theorem dX4_giveTrial_30 : decode cX4_giveTrial 30 = .ok (.bipush 6, 2) := by decide +kernel
theorem dX4_giveTrial_32 : decode cX4_giveTrial 32 = .ok (.iload_n 1, 1) := by decide +kernel
theorem dX4_giveTrial_33 : decode cX4_giveTrial 33 = .ok (.imul, 1) := by decide +kernel
theorem dX4_giveTrial_34 : decode cX4_giveTrial 34 = .ok (.iadd, 1) := by decide +kernel
theorem dX4_giveTrial_35 : decode cX4_giveTrial 35 = .ok (.iconst 3, 1) := by decide +kernel
theorem dX4_giveTrial_36 : decode cX4_giveTrial 36 = .ok (.iadd, 1) := by decide +kernel
theorem dX4_giveTrial_37 : decode cX4_giveTrial 37 = .ok (.iaload, 1) := by decide +kernel
theorem dX4_giveTrial_38 : decode cX4_giveTrial 38 = .ok (.iload_n 2, 1) := by decide +kernel
theorem dX4_giveTrial_39 : decode cX4_giveTrial 39 = .ok (.if_icmp .eq 7, 3) := by decide +kernel
theorem dX4_giveTrial_42 : decode cX4_giveTrial 42 = .ok (.iconst 1, 1) := by decide +kernel
theorem dX4_giveTrial_43 : decode cX4_giveTrial 43 = .ok (.goto 4, 3) := by decide +kernel
theorem dX4_giveTrial_46 : decode cX4_giveTrial 46 = .ok (.iconst 0, 1) := by decide +kernel
theorem dX4_giveTrial_47 : decode cX4_giveTrial 47 = .ok (.istore_n 3, 1) := by decide +kernel
theorem dX4_giveTrial_48 : decode cX4_giveTrial 48 = .ok (.iload_n 3, 1) := by decide +kernel
theorem dX4_giveTrial_49 : decode cX4_giveTrial 49 = .ok (.ifCond .eq 18, 3) := by decide +kernel
theorem dX4_giveTrial_52 : decode cX4_giveTrial 52 = .ok (.aload_n 0, 1) := by decide +kernel
theorem dX4_giveTrial_53 : decode cX4_giveTrial 53 = .ok (.getfield 19, 3) := by decide +kernel
theorem dX4_giveTrial_56 : decode cX4_giveTrial 56 = .ok (.bipush 54, 2) := by decide +kernel
theorem dX4_giveTrial_58 : decode cX4_giveTrial 58 = .ok (.bipush 6, 2) := by decide +kernel
theorem dX4_giveTrial_60 : decode cX4_giveTrial 60 = .ok (.iload_n 1, 1) := by decide +kernel
theorem dX4_giveTrial_61 : decode cX4_giveTrial 61 = .ok (.imul, 1) := by decide +kernel
theorem dX4_giveTrial_62 : decode cX4_giveTrial 62 = .ok (.iadd, 1) := by decide +kernel
theorem dX4_giveTrial_63 : decode cX4_giveTrial 63 = .ok (.iconst 3, 1) := by decide +kernel
theorem dX4_giveTrial_64 : decode cX4_giveTrial 64 = .ok (.iadd, 1) := by decide +kernel
theorem dX4_giveTrial_65 : decode cX4_giveTrial 65 = .ok (.iload_n 2, 1) := by decide +kernel
theorem dX4_giveTrial_66 : decode cX4_giveTrial 66 = .ok (.iastore, 1) := by decide +kernel
theorem dX4_giveTrial_67 : decode cX4_giveTrial 67 = .ok (.iload_n 3, 1) := by decide +kernel
theorem dX4_giveTrial_68 : decode cX4_giveTrial 68 = .ok (.ireturn, 1) := by decide +kernel
set_option maxRecDepth 20000 in
theorem ggX4_fewest_X4_isPerson : GoodIn wsX4_fewest wsX4_isPerson := goodIn_r _ [5, 6, 7, 8, 4, 9, 55, 56, 57, 58, 59, 60, 61, 62, 63, 64, 65, 66, 67, 68, 69, 70, 71, 72, 73, 74, 75, 76, 77, 78, 79, 80, 81, 82, 83, 84] rfl (by decide +kernel)
set_option maxRecDepth 20000 in
theorem gX4_fewest_X4_isPerson : GoodIn wsX4_fewest (wsV RX4 111 RX4 yX4_isPerson wsX4_isPerson) := goodIn_app (goodIn_r _ [1, 2, 3, 4] rfl (by decide +kernel)) ggX4_fewest_X4_isPerson
set_option maxRecDepth 20000 in
theorem ggX4_fewest_X4_layTrial : GoodIn wsX4_fewest wsX4_layTrial := goodIn_r _ [13, 14, 55, 56, 57, 58, 59, 60, 61, 62, 63, 64, 65, 66, 67, 68, 69, 70, 71, 72, 73, 74, 75, 76, 77, 78, 79, 80, 81, 82, 83, 84] rfl (by decide +kernel)
set_option maxRecDepth 20000 in
theorem gX4_fewest_X4_layTrial : GoodIn wsX4_fewest (wsV RX4 157 RX4 yX4_layTrial wsX4_layTrial) := goodIn_app (goodIn_r _ [10, 11, 12, 4] rfl (by decide +kernel)) ggX4_fewest_X4_layTrial
set_option maxRecDepth 20000 in
theorem ggX4_fewest_X4_meetOf : GoodIn wsX4_fewest wsX4_meetOf := goodIn_r _ [18, 14, 19, 20, 21, 22, 4, 23, 6, 24, 25, 26, 27, 28, 29, 30, 31, 32, 33, 34, 35, 36, 37, 38, 39, 40, 41, 42, 55, 56, 57, 58, 59, 60, 61, 62, 63, 64, 65, 66, 67, 68, 69, 70, 71, 72, 73, 74, 75, 76, 77, 78, 79, 80, 81, 82, 83, 84] rfl (by decide +kernel)
set_option maxRecDepth 20000 in
theorem gX4_fewest_X4_meetOf : GoodIn wsX4_fewest (wsV RX4 160 RX4 yX4_meetOf wsX4_meetOf) := goodIn_app (goodIn_r _ [15, 16, 17, 4] rfl (by decide +kernel)) ggX4_fewest_X4_meetOf
set_option maxRecDepth 20000 in
theorem ggX4_fewest_X4_giveTrial : GoodIn wsX4_fewest wsX4_giveTrial := goodIn_r _ [46, 14, 47, 48, 49, 4, 50, 19, 7, 8, 9, 1, 2, 3, 5, 6, 51, 52, 53, 54, 55, 56, 57, 58, 59, 60, 61, 62, 63, 64, 65, 66, 67, 68, 69, 70, 71, 72, 73, 74, 75, 76, 77, 78, 79, 80, 81, 82, 83, 84] rfl (by decide +kernel)
set_option maxRecDepth 20000 in
theorem gX4_fewest_X4_giveTrial : GoodIn wsX4_fewest (wsV RX4 166 RX4 yX4_giveTrial wsX4_giveTrial) := goodIn_app (goodIn_r _ [43, 44, 45, 4] rfl (by decide +kernel)) ggX4_fewest_X4_giveTrial
theorem dX4_fewest_0 : decode cX4_fewest 0 = .ok (.aload_n 0, 1) := by decide +kernel
theorem dX4_fewest_1 : decode cX4_fewest 1 = .ok (.iload_n 1, 1) := by decide +kernel
theorem dX4_fewest_2 : decode cX4_fewest 2 = .ok (.invokevirtual 111, 3) := by decide +kernel
theorem dX4_fewest_5 : decode cX4_fewest 5 = .ok (.ifCond .eq 11, 3) := by decide +kernel
theorem dX4_fewest_8 : decode cX4_fewest 8 = .ok (.aload_n 0, 1) := by decide +kernel
theorem dX4_fewest_9 : decode cX4_fewest 9 = .ok (.iload_n 2, 1) := by decide +kernel
theorem dX4_fewest_10 : decode cX4_fewest 10 = .ok (.invokevirtual 111, 3) := by decide +kernel
theorem dX4_fewest_13 : decode cX4_fewest 13 = .ok (.ifCond .ne 5, 3) := by decide +kernel
theorem dX4_fewest_16 : decode cX4_fewest 16 = .ok (.iconst (-1), 1) := by decide +kernel
theorem dX4_fewest_17 : decode cX4_fewest 17 = .ok (.ireturn, 1) := by decide +kernel
theorem dX4_fewest_18 : decode cX4_fewest 18 = .ok (.iload_n 1, 1) := by decide +kernel
theorem dX4_fewest_19 : decode cX4_fewest 19 = .ok (.iload_n 2, 1) := by decide +kernel
theorem dX4_fewest_20 : decode cX4_fewest 20 = .ok (.if_icmp .ne 6, 3) := by decide +kernel
theorem dX4_fewest_23 : decode cX4_fewest 23 = .ok (.bipush (-2), 2) := by decide +kernel
theorem dX4_fewest_25 : decode cX4_fewest 25 = .ok (.ireturn, 1) := by decide +kernel
theorem dX4_fewest_26 : decode cX4_fewest 26 = .ok (.aload_n 0, 1) := by decide +kernel
theorem dX4_fewest_27 : decode cX4_fewest 27 = .ok (.invokevirtual 157, 3) := by decide +kernel
theorem dX4_fewest_30 : decode cX4_fewest 30 = .ok (.aload_n 0, 1) := by decide +kernel
theorem dX4_fewest_31 : decode cX4_fewest 31 = .ok (.iload_n 1, 1) := by decide +kernel
theorem dX4_fewest_32 : decode cX4_fewest 32 = .ok (.iload_n 2, 1) := by decide +kernel
theorem dX4_fewest_33 : decode cX4_fewest 33 = .ok (.invokevirtual 160, 3) := by decide +kernel
theorem dX4_fewest_36 : decode cX4_fewest 36 = .ok (.bipush (-9), 2) := by decide +kernel
theorem dX4_fewest_38 : decode cX4_fewest 38 = .ok (.if_icmp .eq 5, 3) := by decide +kernel
theorem dX4_fewest_41 : decode cX4_fewest 41 = .ok (.iconst 0, 1) := by decide +kernel
theorem dX4_fewest_42 : decode cX4_fewest 42 = .ok (.ireturn, 1) := by decide +kernel
theorem dX4_fewest_43 : decode cX4_fewest 43 = .ok (.iconst 0, 1) := by decide +kernel
theorem dX4_fewest_44 : decode cX4_fewest 44 = .ok (.istore 4, 2) := by decide +kernel
theorem dX4_fewest_46 : decode cX4_fewest 46 = .ok (.iload 4, 2) := by decide +kernel
theorem dX4_fewest_48 : decode cX4_fewest 48 = .ok (.bipush 100, 2) := by decide +kernel
theorem dX4_fewest_50 : decode cX4_fewest 50 = .ok (.if_icmp .ge 52, 3) := by decide +kernel
theorem dX4_fewest_53 : decode cX4_fewest 53 = .ok (.aload_n 0, 1) := by decide +kernel
theorem dX4_fewest_54 : decode cX4_fewest 54 = .ok (.invokevirtual 157, 3) := by decide +kernel
theorem dX4_fewest_57 : decode cX4_fewest 57 = .ok (.aload_n 0, 1) := by decide +kernel
theorem dX4_fewest_58 : decode cX4_fewest 58 = .ok (.iload 4, 2) := by decide +kernel
theorem dX4_fewest_60 : decode cX4_fewest 60 = .ok (.bipush 10, 2) := by decide +kernel
theorem dX4_fewest_62 : decode cX4_fewest 62 = .ok (.idiv, 1) := by decide +kernel
theorem dX4_fewest_63 : decode cX4_fewest 63 = .ok (.iload 4, 2) := by decide +kernel
theorem dX4_fewest_65 : decode cX4_fewest 65 = .ok (.bipush 10, 2) := by decide +kernel
theorem dX4_fewest_67 : decode cX4_fewest 67 = .ok (.irem, 1) := by decide +kernel
theorem dX4_fewest_68 : decode cX4_fewest 68 = .ok (.invokevirtual 166, 3) := by decide +kernel
theorem dX4_fewest_71 : decode cX4_fewest 71 = .ok (.ifCond .eq 25, 3) := by decide +kernel
theorem dX4_fewest_74 : decode cX4_fewest 74 = .ok (.aload_n 0, 1) := by decide +kernel
theorem dX4_fewest_75 : decode cX4_fewest 75 = .ok (.iload_n 1, 1) := by decide +kernel
theorem dX4_fewest_76 : decode cX4_fewest 76 = .ok (.iload_n 2, 1) := by decide +kernel
theorem dX4_fewest_77 : decode cX4_fewest 77 = .ok (.invokevirtual 160, 3) := by decide +kernel
theorem dX4_fewest_80 : decode cX4_fewest 80 = .ok (.bipush (-9), 2) := by decide +kernel
theorem dX4_fewest_82 : decode cX4_fewest 82 = .ok (.if_icmp .eq 14, 3) := by decide +kernel
theorem dX4_fewest_85 : decode cX4_fewest 85 = .ok (.iload_n 3, 1) := by decide +kernel
theorem dX4_fewest_86 : decode cX4_fewest 86 = .ok (.ifCond .eq 8, 3) := by decide +kernel
theorem dX4_fewest_89 : decode cX4_fewest 89 = .ok (.iload 4, 2) := by decide +kernel
theorem dX4_fewest_91 : decode cX4_fewest 91 = .ok (.goto 4, 3) := by decide +kernel
theorem dX4_fewest_94 : decode cX4_fewest 94 = .ok (.iconst 1, 1) := by decide +kernel
theorem dX4_fewest_95 : decode cX4_fewest 95 = .ok (.ireturn, 1) := by decide +kernel
theorem dX4_fewest_96 : decode cX4_fewest 96 = .ok (.iinc 4 1, 3) := by decide +kernel
theorem dX4_fewest_99 : decode cX4_fewest 99 = .ok (.goto (-53), 3) := by decide +kernel
theorem dX4_fewest_102 : decode cX4_fewest 102 = .ok (.iconst 0, 1) := by decide +kernel
theorem dX4_fewest_103 : decode cX4_fewest 103 = .ok (.istore 4, 2) := by decide +kernel
theorem dX4_fewest_105 : decode cX4_fewest 105 = .ok (.iload 4, 2) := by decide +kernel
theorem dX4_fewest_107 : decode cX4_fewest 107 = .ok (.sipush 10000, 3) := by decide +kernel
theorem dX4_fewest_110 : decode cX4_fewest 110 = .ok (.if_icmp .ge 76, 3) := by decide +kernel
theorem dX4_fewest_113 : decode cX4_fewest 113 = .ok (.aload_n 0, 1) := by decide +kernel
theorem dX4_fewest_114 : decode cX4_fewest 114 = .ok (.invokevirtual 157, 3) := by decide +kernel
theorem dX4_fewest_117 : decode cX4_fewest 117 = .ok (.aload_n 0, 1) := by decide +kernel
theorem dX4_fewest_118 : decode cX4_fewest 118 = .ok (.iload 4, 2) := by decide +kernel
theorem dX4_fewest_120 : decode cX4_fewest 120 = .ok (.sipush 1000, 3) := by decide +kernel
theorem dX4_fewest_123 : decode cX4_fewest 123 = .ok (.idiv, 1) := by decide +kernel
theorem dX4_fewest_124 : decode cX4_fewest 124 = .ok (.iload 4, 2) := by decide +kernel
theorem dX4_fewest_126 : decode cX4_fewest 126 = .ok (.bipush 100, 2) := by decide +kernel
theorem dX4_fewest_128 : decode cX4_fewest 128 = .ok (.idiv, 1) := by decide +kernel
theorem dX4_fewest_129 : decode cX4_fewest 129 = .ok (.bipush 10, 2) := by decide +kernel
theorem dX4_fewest_131 : decode cX4_fewest 131 = .ok (.irem, 1) := by decide +kernel
theorem dX4_fewest_132 : decode cX4_fewest 132 = .ok (.invokevirtual 166, 3) := by decide +kernel
theorem dX4_fewest_135 : decode cX4_fewest 135 = .ok (.ifCond .eq 45, 3) := by decide +kernel
theorem dX4_fewest_138 : decode cX4_fewest 138 = .ok (.aload_n 0, 1) := by decide +kernel
theorem dX4_fewest_139 : decode cX4_fewest 139 = .ok (.iload 4, 2) := by decide +kernel
theorem dX4_fewest_141 : decode cX4_fewest 141 = .ok (.bipush 10, 2) := by decide +kernel
theorem dX4_fewest_143 : decode cX4_fewest 143 = .ok (.idiv, 1) := by decide +kernel
theorem dX4_fewest_144 : decode cX4_fewest 144 = .ok (.bipush 10, 2) := by decide +kernel
theorem dX4_fewest_146 : decode cX4_fewest 146 = .ok (.irem, 1) := by decide +kernel
theorem dX4_fewest_147 : decode cX4_fewest 147 = .ok (.iload 4, 2) := by decide +kernel
theorem dX4_fewest_149 : decode cX4_fewest 149 = .ok (.bipush 10, 2) := by decide +kernel
theorem dX4_fewest_151 : decode cX4_fewest 151 = .ok (.irem, 1) := by decide +kernel
theorem dX4_fewest_152 : decode cX4_fewest 152 = .ok (.invokevirtual 166, 3) := by decide +kernel
theorem dX4_fewest_155 : decode cX4_fewest 155 = .ok (.ifCond .eq 25, 3) := by decide +kernel
theorem dX4_fewest_158 : decode cX4_fewest 158 = .ok (.aload_n 0, 1) := by decide +kernel
theorem dX4_fewest_159 : decode cX4_fewest 159 = .ok (.iload_n 1, 1) := by decide +kernel
theorem dX4_fewest_160 : decode cX4_fewest 160 = .ok (.iload_n 2, 1) := by decide +kernel
theorem dX4_fewest_161 : decode cX4_fewest 161 = .ok (.invokevirtual 160, 3) := by decide +kernel
theorem dX4_fewest_164 : decode cX4_fewest 164 = .ok (.bipush (-9), 2) := by decide +kernel
theorem dX4_fewest_166 : decode cX4_fewest 166 = .ok (.if_icmp .eq 14, 3) := by decide +kernel
theorem dX4_fewest_169 : decode cX4_fewest 169 = .ok (.iload_n 3, 1) := by decide +kernel
theorem dX4_fewest_170 : decode cX4_fewest 170 = .ok (.ifCond .eq 8, 3) := by decide +kernel
theorem dX4_fewest_173 : decode cX4_fewest 173 = .ok (.iload 4, 2) := by decide +kernel
theorem dX4_fewest_175 : decode cX4_fewest 175 = .ok (.goto 4, 3) := by decide +kernel
theorem dX4_fewest_178 : decode cX4_fewest 178 = .ok (.iconst 2, 1) := by decide +kernel
theorem dX4_fewest_179 : decode cX4_fewest 179 = .ok (.ireturn, 1) := by decide +kernel
theorem dX4_fewest_180 : decode cX4_fewest 180 = .ok (.iinc 4 1, 3) := by decide +kernel
theorem dX4_fewest_183 : decode cX4_fewest 183 = .ok (.goto (-78), 3) := by decide +kernel
theorem dX4_fewest_186 : decode cX4_fewest 186 = .ok (.bipush (-9), 2) := by decide +kernel
theorem dX4_fewest_188 : decode cX4_fewest 188 = .ok (.ireturn, 1) := by decide +kernel
set_option maxRecDepth 20000 in
theorem ggX4_falls_X4_isTicket : GoodIn wsX4_falls wsX4_isTicket := goodIn_r _ [6, 1, 7, 8, 5, 9, 43, 44, 45, 46, 47, 48, 49, 50, 51, 52, 53, 54, 55, 56, 57, 58, 59, 60, 61, 62, 63, 64, 65, 66, 67, 68, 69, 70, 71, 72] rfl (by decide +kernel)
set_option maxRecDepth 20000 in
theorem gX4_falls_X4_isTicket : GoodIn wsX4_falls (wsV RX4 122 RX4 yX4_isTicket wsX4_isTicket) := goodIn_app (goodIn_r _ [2, 3, 4, 5] rfl (by decide +kernel)) ggX4_falls_X4_isTicket
set_option maxRecDepth 20000 in
theorem ggX4_falls_X4_layTrial : GoodIn wsX4_falls wsX4_layTrial := goodIn_r _ [13, 14, 43, 44, 45, 46, 47, 48, 49, 50, 51, 52, 53, 54, 55, 56, 57, 58, 59, 60, 61, 62, 63, 64, 65, 66, 67, 68, 69, 70, 71, 72] rfl (by decide +kernel)
set_option maxRecDepth 20000 in
theorem gX4_falls_X4_layTrial : GoodIn wsX4_falls (wsV RX4 157 RX4 yX4_layTrial wsX4_layTrial) := goodIn_app (goodIn_r _ [10, 11, 12, 5] rfl (by decide +kernel)) ggX4_falls_X4_layTrial
set_option maxRecDepth 20000 in
theorem ggX4_falls_X4_passAll : GoodIn wsX4_falls wsX4_passAll := goodIn_r _ [18, 14, 19, 20, 21, 5, 22, 23, 24, 25, 26, 27, 28, 29, 30, 31, 32, 33, 34, 35, 36, 37, 38, 43, 44, 45, 46, 47, 48, 49, 50, 51, 52, 53, 54, 55, 56, 57, 58, 59, 60, 61, 62, 63, 64, 65, 66, 67, 68, 69, 70, 71, 72] rfl (by decide +kernel)
set_option maxRecDepth 20000 in
theorem gX4_falls_X4_passAll : GoodIn wsX4_falls (wsV RX4 173 RX4 yX4_passAll wsX4_passAll) := goodIn_app (goodIn_r _ [15, 16, 17, 5] rfl (by decide +kernel)) ggX4_falls_X4_passAll
set_option maxRecDepth 20000 in
theorem ggX4_falls_X4_loseTrial : GoodIn wsX4_falls wsX4_loseTrial := goodIn_r _ [42, 1, 14, 43, 44, 45, 46, 47, 48, 49, 50, 51, 52, 53, 54, 55, 56, 57, 58, 59, 60, 61, 62, 63, 64, 65, 66, 67, 68, 69, 70, 71, 72] rfl (by decide +kernel)
set_option maxRecDepth 20000 in
theorem gX4_falls_X4_loseTrial : GoodIn wsX4_falls (wsV RX4 169 RX4 yX4_loseTrial wsX4_loseTrial) := goodIn_app (goodIn_r _ [39, 40, 41, 5] rfl (by decide +kernel)) ggX4_falls_X4_loseTrial
theorem dX4_falls_0 : decode cX4_falls 0 = .ok (.aload_n 0, 1) := by decide +kernel
theorem dX4_falls_1 : decode cX4_falls 1 = .ok (.iload_n 1, 1) := by decide +kernel
theorem dX4_falls_2 : decode cX4_falls 2 = .ok (.invokevirtual 122, 3) := by decide +kernel
theorem dX4_falls_5 : decode cX4_falls 5 = .ok (.ifCond .ne 5, 3) := by decide +kernel
theorem dX4_falls_8 : decode cX4_falls 8 = .ok (.iconst (-1), 1) := by decide +kernel
theorem dX4_falls_9 : decode cX4_falls 9 = .ok (.ireturn, 1) := by decide +kernel
theorem dX4_falls_10 : decode cX4_falls 10 = .ok (.aload_n 0, 1) := by decide +kernel
theorem dX4_falls_11 : decode cX4_falls 11 = .ok (.invokevirtual 157, 3) := by decide +kernel
theorem dX4_falls_14 : decode cX4_falls 14 = .ok (.aload_n 0, 1) := by decide +kernel
theorem dX4_falls_15 : decode cX4_falls 15 = .ok (.aload_n 0, 1) := by decide +kernel
theorem dX4_falls_16 : decode cX4_falls 16 = .ok (.getfield 101, 3) := by decide +kernel
theorem dX4_falls_19 : decode cX4_falls 19 = .ok (.invokevirtual 173, 3) := by decide +kernel
theorem dX4_falls_22 : decode cX4_falls 22 = .ok (.istore_n 2, 1) := by decide +kernel
theorem dX4_falls_23 : decode cX4_falls 23 = .ok (.aload_n 0, 1) := by decide +kernel
theorem dX4_falls_24 : decode cX4_falls 24 = .ok (.invokevirtual 157, 3) := by decide +kernel
theorem dX4_falls_27 : decode cX4_falls 27 = .ok (.aload_n 0, 1) := by decide +kernel
theorem dX4_falls_28 : decode cX4_falls 28 = .ok (.iconst 1, 1) := by decide +kernel
theorem dX4_falls_29 : decode cX4_falls 29 = .ok (.iload_n 1, 1) := by decide +kernel
theorem dX4_falls_30 : decode cX4_falls 30 = .ok (.ishl, 1) := by decide +kernel
theorem dX4_falls_31 : decode cX4_falls 31 = .ok (.invokevirtual 169, 3) := by decide +kernel
theorem dX4_falls_34 : decode cX4_falls 34 = .ok (.bipush 100, 2) := by decide +kernel
theorem dX4_falls_36 : decode cX4_falls 36 = .ok (.iload_n 2, 1) := by decide +kernel
theorem dX4_falls_37 : decode cX4_falls 37 = .ok (.iadd, 1) := by decide +kernel
theorem dX4_falls_38 : decode cX4_falls 38 = .ok (.aload_n 0, 1) := by decide +kernel
theorem dX4_falls_39 : decode cX4_falls 39 = .ok (.aload_n 0, 1) := by decide +kernel
theorem dX4_falls_40 : decode cX4_falls 40 = .ok (.getfield 101, 3) := by decide +kernel
theorem dX4_falls_43 : decode cX4_falls 43 = .ok (.invokevirtual 173, 3) := by decide +kernel
theorem dX4_falls_46 : decode cX4_falls 46 = .ok (.isub, 1) := by decide +kernel
theorem dX4_falls_47 : decode cX4_falls 47 = .ok (.ireturn, 1) := by decide +kernel
set_option maxRecDepth 20000 in
theorem ggX4_bestChange_X4_glad : GoodIn wsX4_bestChange wsX4_glad := goodIn_r _ [6, 7, 8, 9, 5, 10, 1, 11, 12, 13, 14, 15, 16, 17, 18, 19, 20, 21, 22, 23, 24, 25, 26, 27, 28, 29, 30, 31, 32, 33, 34, 35, 36, 37, 38, 39, 40, 41, 42, 43, 44, 45, 46, 47, 48, 65, 66, 67, 68, 69, 70, 71, 72, 73, 74, 75, 76, 77, 78, 79, 80, 81, 82, 83, 84, 85, 86, 87, 88, 89, 90, 91, 92, 93, 94] rfl (by decide +kernel)
set_option maxRecDepth 20000 in
theorem gX4_bestChange_X4_glad : GoodIn wsX4_bestChange (wsV RX4 182 RX4 yX4_glad wsX4_glad) := goodIn_app (goodIn_r _ [2, 3, 4, 5] rfl (by decide +kernel)) ggX4_bestChange_X4_glad
set_option maxRecDepth 20000 in
theorem ggX4_bestChange_X4_canChange : GoodIn wsX4_bestChange wsX4_canChange := goodIn_r _ [52, 53, 54, 55, 5, 56, 15, 57, 58, 59, 60, 65, 66, 67, 68, 69, 70, 71, 72, 73, 74, 75, 76, 77, 78, 79, 80, 81, 82, 83, 84, 85, 86, 87, 88, 89, 90, 91, 92, 93, 94] rfl (by decide +kernel)
set_option maxRecDepth 20000 in
theorem gX4_bestChange_X4_canChange : GoodIn wsX4_bestChange (wsV RX4 146 RX4 yX4_canChange wsX4_canChange) := goodIn_app (goodIn_r _ [49, 50, 51, 5] rfl (by decide +kernel)) ggX4_bestChange_X4_canChange
set_option maxRecDepth 20000 in
theorem ggX4_bestChange_X4_layTrial : GoodIn wsX4_bestChange wsX4_layTrial := goodIn_r _ [14, 15, 65, 66, 67, 68, 69, 70, 71, 72, 73, 74, 75, 76, 77, 78, 79, 80, 81, 82, 83, 84, 85, 86, 87, 88, 89, 90, 91, 92, 93, 94] rfl (by decide +kernel)
set_option maxRecDepth 20000 in
theorem gX4_bestChange_X4_layTrial : GoodIn wsX4_bestChange (wsV RX4 157 RX4 yX4_layTrial wsX4_layTrial) := goodIn_app (goodIn_r _ [11, 12, 13, 5] rfl (by decide +kernel)) ggX4_bestChange_X4_layTrial
set_option maxRecDepth 20000 in
theorem ggX4_bestChange_X4_changeOn : GoodIn wsX4_bestChange wsX4_changeOn := goodIn_r _ [64, 15, 65, 66, 67, 68, 69, 70, 71, 72, 73, 74, 75, 76, 77, 78, 79, 80, 81, 82, 83, 84, 85, 86, 87, 88, 89, 90, 91, 92, 93, 94] rfl (by decide +kernel)
set_option maxRecDepth 20000 in
theorem gX4_bestChange_X4_changeOn : GoodIn wsX4_bestChange (wsV RX4 149 RX4 yX4_changeOn wsX4_changeOn) := goodIn_app (goodIn_r _ [61, 62, 63, 5] rfl (by decide +kernel)) ggX4_bestChange_X4_changeOn
set_option maxRecDepth 20000 in
theorem ggX4_bestChange_X4_passAll : GoodIn wsX4_bestChange wsX4_passAll := goodIn_r _ [23, 15, 24, 25, 26, 5, 27, 28, 29, 30, 31, 32, 33, 34, 35, 36, 37, 38, 39, 40, 41, 42, 43, 65, 66, 67, 68, 69, 70, 71, 72, 73, 74, 75, 76, 77, 78, 79, 80, 81, 82, 83, 84, 85, 86, 87, 88, 89, 90, 91, 92, 93, 94] rfl (by decide +kernel)
set_option maxRecDepth 20000 in
theorem gX4_bestChange_X4_passAll : GoodIn wsX4_bestChange (wsV RX4 173 RX4 yX4_passAll wsX4_passAll) := goodIn_app (goodIn_r _ [20, 21, 22, 5] rfl (by decide +kernel)) ggX4_bestChange_X4_passAll
set_option maxRecDepth 20000 in
theorem ggX4_bestChange_X4_gladOf : GoodIn wsX4_bestChange wsX4_gladOf := goodIn_r _ [47, 28, 15, 48, 65, 66, 67, 68, 69, 70, 71, 72, 73, 74, 75, 76, 77, 78, 79, 80, 81, 82, 83, 84, 85, 86, 87, 88, 89, 90, 91, 92, 93, 94] rfl (by decide +kernel)
set_option maxRecDepth 20000 in
theorem gX4_bestChange_X4_gladOf : GoodIn wsX4_bestChange (wsV RX4 176 RX4 yX4_gladOf wsX4_gladOf) := goodIn_app (goodIn_r _ [44, 45, 46, 5] rfl (by decide +kernel)) ggX4_bestChange_X4_gladOf
theorem dX4_bestChange_0 : decode cX4_bestChange 0 = .ok (.aload_n 0, 1) := by decide +kernel
theorem dX4_bestChange_1 : decode cX4_bestChange 1 = .ok (.invokevirtual 182, 3) := by decide +kernel
theorem dX4_bestChange_4 : decode cX4_bestChange 4 = .ok (.istore_n 1, 1) := by decide +kernel
theorem dX4_bestChange_5 : decode cX4_bestChange 5 = .ok (.bipush (-9), 2) := by decide +kernel
theorem dX4_bestChange_7 : decode cX4_bestChange 7 = .ok (.istore_n 2, 1) := by decide +kernel
theorem dX4_bestChange_8 : decode cX4_bestChange 8 = .ok (.iconst 0, 1) := by decide +kernel
theorem dX4_bestChange_9 : decode cX4_bestChange 9 = .ok (.istore_n 3, 1) := by decide +kernel
theorem dX4_bestChange_10 : decode cX4_bestChange 10 = .ok (.iload_n 3, 1) := by decide +kernel
theorem dX4_bestChange_11 : decode cX4_bestChange 11 = .ok (.aload_n 0, 1) := by decide +kernel
theorem dX4_bestChange_12 : decode cX4_bestChange 12 = .ok (.getfield 101, 3) := by decide +kernel
theorem dX4_bestChange_15 : decode cX4_bestChange 15 = .ok (.if_icmp .ge 97, 3) := by decide +kernel
theorem dX4_bestChange_18 : decode cX4_bestChange 18 = .ok (.iload_n 3, 1) := by decide +kernel
theorem dX4_bestChange_19 : decode cX4_bestChange 19 = .ok (.iconst 1, 1) := by decide +kernel
theorem dX4_bestChange_20 : decode cX4_bestChange 20 = .ok (.iadd, 1) := by decide +kernel
theorem dX4_bestChange_21 : decode cX4_bestChange 21 = .ok (.istore 4, 2) := by decide +kernel
theorem dX4_bestChange_23 : decode cX4_bestChange 23 = .ok (.iload 4, 2) := by decide +kernel
theorem dX4_bestChange_25 : decode cX4_bestChange 25 = .ok (.aload_n 0, 1) := by decide +kernel
theorem dX4_bestChange_26 : decode cX4_bestChange 26 = .ok (.getfield 101, 3) := by decide +kernel
theorem dX4_bestChange_29 : decode cX4_bestChange 29 = .ok (.if_icmp .ge 77, 3) := by decide +kernel
theorem dX4_bestChange_32 : decode cX4_bestChange 32 = .ok (.aload_n 0, 1) := by decide +kernel
theorem dX4_bestChange_33 : decode cX4_bestChange 33 = .ok (.iload_n 3, 1) := by decide +kernel
theorem dX4_bestChange_34 : decode cX4_bestChange 34 = .ok (.iload 4, 2) := by decide +kernel
theorem dX4_bestChange_36 : decode cX4_bestChange 36 = .ok (.invokevirtual 146, 3) := by decide +kernel
theorem dX4_bestChange_39 : decode cX4_bestChange 39 = .ok (.ifCond .eq 61, 3) := by decide +kernel
theorem dX4_bestChange_42 : decode cX4_bestChange 42 = .ok (.aload_n 0, 1) := by decide +kernel
theorem dX4_bestChange_43 : decode cX4_bestChange 43 = .ok (.invokevirtual 157, 3) := by decide +kernel
theorem dX4_bestChange_46 : decode cX4_bestChange 46 = .ok (.aload_n 0, 1) := by decide +kernel
theorem dX4_bestChange_47 : decode cX4_bestChange 47 = .ok (.iconst 1, 1) := by decide +kernel
theorem dX4_bestChange_48 : decode cX4_bestChange 48 = .ok (.iload_n 3, 1) := by decide +kernel
theorem dX4_bestChange_49 : decode cX4_bestChange 49 = .ok (.iload 4, 2) := by decide +kernel
theorem dX4_bestChange_51 : decode cX4_bestChange 51 = .ok (.invokevirtual 149, 3) := by decide +kernel
theorem dX4_bestChange_54 : decode cX4_bestChange 54 = .ok (.aload_n 0, 1) := by decide +kernel
theorem dX4_bestChange_55 : decode cX4_bestChange 55 = .ok (.aload_n 0, 1) := by decide +kernel
theorem dX4_bestChange_56 : decode cX4_bestChange 56 = .ok (.getfield 101, 3) := by decide +kernel
theorem dX4_bestChange_59 : decode cX4_bestChange 59 = .ok (.invokevirtual 173, 3) := by decide +kernel
theorem dX4_bestChange_62 : decode cX4_bestChange 62 = .ok (.pop, 1) := by decide +kernel
theorem dX4_bestChange_63 : decode cX4_bestChange 63 = .ok (.aload_n 0, 1) := by decide +kernel
theorem dX4_bestChange_64 : decode cX4_bestChange 64 = .ok (.invokevirtual 176, 3) := by decide +kernel
theorem dX4_bestChange_67 : decode cX4_bestChange 67 = .ok (.iload_n 1, 1) := by decide +kernel
theorem dX4_bestChange_68 : decode cX4_bestChange 68 = .ok (.if_icmp .le 13, 3) := by decide +kernel
theorem dX4_bestChange_71 : decode cX4_bestChange 71 = .ok (.bipush 10, 2) := by decide +kernel
theorem dX4_bestChange_73 : decode cX4_bestChange 73 = .ok (.iload_n 3, 1) := by decide +kernel
theorem dX4_bestChange_74 : decode cX4_bestChange 74 = .ok (.imul, 1) := by decide +kernel
theorem dX4_bestChange_75 : decode cX4_bestChange 75 = .ok (.iload 4, 2) := by decide +kernel
theorem dX4_bestChange_77 : decode cX4_bestChange 77 = .ok (.iadd, 1) := by decide +kernel
theorem dX4_bestChange_78 : decode cX4_bestChange 78 = .ok (.goto 4, 3) := by decide +kernel
theorem dX4_bestChange_81 : decode cX4_bestChange 81 = .ok (.iload_n 2, 1) := by decide +kernel
theorem dX4_bestChange_82 : decode cX4_bestChange 82 = .ok (.istore_n 2, 1) := by decide +kernel
theorem dX4_bestChange_83 : decode cX4_bestChange 83 = .ok (.aload_n 0, 1) := by decide +kernel
theorem dX4_bestChange_84 : decode cX4_bestChange 84 = .ok (.invokevirtual 176, 3) := by decide +kernel
theorem dX4_bestChange_87 : decode cX4_bestChange 87 = .ok (.iload_n 1, 1) := by decide +kernel
theorem dX4_bestChange_88 : decode cX4_bestChange 88 = .ok (.if_icmp .le 10, 3) := by decide +kernel
theorem dX4_bestChange_91 : decode cX4_bestChange 91 = .ok (.aload_n 0, 1) := by decide +kernel
theorem dX4_bestChange_92 : decode cX4_bestChange 92 = .ok (.invokevirtual 176, 3) := by decide +kernel
theorem dX4_bestChange_95 : decode cX4_bestChange 95 = .ok (.goto 4, 3) := by decide +kernel
theorem dX4_bestChange_98 : decode cX4_bestChange 98 = .ok (.iload_n 1, 1) := by decide +kernel
theorem dX4_bestChange_99 : decode cX4_bestChange 99 = .ok (.istore_n 1, 1) := by decide +kernel
theorem dX4_bestChange_100 : decode cX4_bestChange 100 = .ok (.iinc 4 1, 3) := by decide +kernel
theorem dX4_bestChange_103 : decode cX4_bestChange 103 = .ok (.goto (-80), 3) := by decide +kernel
theorem dX4_bestChange_106 : decode cX4_bestChange 106 = .ok (.iinc 3 1, 3) := by decide +kernel
theorem dX4_bestChange_109 : decode cX4_bestChange 109 = .ok (.goto (-99), 3) := by decide +kernel
theorem dX4_bestChange_112 : decode cX4_bestChange 112 = .ok (.iload_n 2, 1) := by decide +kernel
theorem dX4_bestChange_113 : decode cX4_bestChange 113 = .ok (.ireturn, 1) := by decide +kernel
set_option maxHeartbeats 600000 in
set_option maxRecDepth 100000 in
theorem c_X4_keepAct (l : Launch) (D : va_G) (cI cZ cM : ClassId) (h0 : Nat) (ype : Int32) (ytk : Int32) (ywi : Nat) (yki : Nat) (yse : Nat) (yno : Nat) (yrh : Nat) (yrw : Nat) (yrk : Nat) (yrt : Nat) (yrp : Int32) (yrq : Int32) (ytx : Nat) (yle : Int32) (yat : Int32) (yfa : Int32) (yby : Nat) (ylo : Nat) (yhi : Nat) (yac : Int32) (ynx : Int32) (yro : Nat) (ygl : Nat) (ysn : Int32) (yso : Nat) (ysp : Nat) (ysw : Nat) (ysd : Int64) (yik : Nat) (ykp : Nat) (Fno : Nat → Int32) (Fro : Nat → Int32) (sz : Nat) (h_yac : 0 ≤ yac.toInt ∧ yac.toInt ≤ 14) (h_ynx : 0 ≤ ynx.toInt ∧ ynx.toInt ≤ 13) : Cv l yX4_keepAct wsX4_keepAct ({ frames := 0, cells := 0, slots := 0, locals := 0 } : Room) D cI cZ cM [.ref h0] [(h0, .inr (4, [.int ype, .int ytk, .ref ywi, .ref yki, .ref yse, .ref yno, .ref yrh, .ref yrw, .ref yrk, .ref yrt, .int yrp, .int yrq, .ref ytx, .int yle, .int yat, .int yfa, .ref yby, .ref ylo, .ref yhi, .int yac, .int ynx, .ref yro, .ref ygl, .int ysn, .ref yso, .ref ysp, .ref ysw, .long ysd, .ref yik, .ref ykp])), (yno, .inl (cI, 96, .inl Fno)), (yro, .inl (cI, 672, .inl Fro))] sz (fun (u : Int32 × Int32 × (Nat → Int32)) => (0 ≤ u.1.toInt ∧ u.1.toInt ≤ 14) ∧ (0 ≤ u.2.1.toInt ∧ u.2.1.toInt ≤ 13)) (fun u => [(h0, .inr (4, [.int ype, .int ytk, .ref ywi, .ref yki, .ref yse, .ref yno, .ref yrh, .ref yrw, .ref yrk, .ref yrt, .int yrp, .int yrq, .ref ytx, .int yle, .int yat, .int yfa, .ref yby, .ref ylo, .ref yhi, .int u.1, .int u.2.1, .ref yro, .ref ygl, .int ysn, .ref yso, .ref ysp, .ref ysw, .long ysd, .ref yik, .ref ykp])), (yno, .inl (cI, 96, .inl Fno)), (yro, .inl (cI, 672, .inl u.2.2))]) 0 0 := by
  refine begins (l := l) (y := yX4_keepAct) (ws := wsX4_keepAct) (av := [.ref h0]) (Qc := fun A => va_Qv (fun (u : Int32 × Int32 × (Nat → Int32)) => (0 ≤ u.1.toInt ∧ u.1.toInt ≤ 14) ∧ (0 ≤ u.2.1.toInt ∧ u.2.1.toInt ≤ 13)) (fun u => Wd D cI cZ cM A ((fun u => [(h0, .inr (4, [.int ype, .int ytk, .ref ywi, .ref yki, .ref yse, .ref yno, .ref yrh, .ref yrw, .ref yrk, .ref yrt, .int yrp, .int yrq, .ref ytx, .int yle, .int yat, .int yfa, .ref yby, .ref ylo, .ref yhi, .int u.1, .int u.2.1, .ref yro, .ref ygl, .int ysn, .ref yso, .ref ysp, .ref ysw, .long ysd, .ref yik, .ref ykp])), (yno, .inl (cI, 96, .inl Fno)), (yro, .inl (cI, 672, .inl u.2.2))]) u)) A) cX4_keepAct 2 none (by decide) rfl (Nat.le_of_ble_eq_true rfl) ?_
  intro p e s m args below meth c R Q A ls hBd hR hQ hA hS hK hP hD hl
  obtain ⟨hx, hb, hr, hts, hown, hlocks, hin, hml⟩ := hBd
  have hl : lv_has ls 2 [(0, .ref h0)] := hl
  have iX4 : ∀ w ∈ wsX40, w ∈ wsX4_keepAct := fun _ h => List.mem_cons_of_mem _ (List.mem_append_right _ h)
  obtain ⟨h_yaca, h_yacb⟩ := h_yac
  obtain ⟨h_ynxa, h_ynxb⟩ := h_ynx
  refine lv_iconst (v := 0) hx hb dX4_keepAct_0 (by decide) ?_
  refine lv_istore_n (lv' := [(1, .int 0), (0, .ref h0)]) hx hb dX4_keepAct_1 rfl hl (by decide) rfl (fun ls hl => ?_)
  have LOOP_1 : ∀ (fu_1 : Nat) (x1 : Int32) (gr : Nat → Int32) (H : Heap) (locs : List Loc) (ls : Array Slot), (48 - x1.toInt).toNat < fu_1 → (0 ≤ x1.toInt ∧ x1.toInt ≤ 48) → va_P D vwCl [(h0, .inr (4, [.int ype, .int ytk, .ref ywi, .ref yki, .ref yse, .ref yno, .ref yrh, .ref yrw, .ref yrk, .ref yrt, .int yrp, .int yrq, .ref ytx, .int yle, .int yat, .int yfa, .ref yby, .ref ylo, .ref yhi, .int yac, .int ynx, .ref yro, .ref ygl, .int ysn, .ref yso, .ref ysp, .ref ysw, .long ysd, .ref yik, .ref ykp])), (yno, .inl (cI, 96, .inl Fno)), (yro, .inl (cI, 672, .inl gr))] H → va_D A [(h0, .inr (4, [.int ype, .int ytk, .ref ywi, .ref yki, .ref yse, .ref yno, .ref yrh, .ref yrw, .ref yrk, .ref yrt, .int yrp, .int yrq, .ref ytx, .int yle, .int yat, .int yfa, .ref yby, .ref ylo, .ref yhi, .int yac, .int ynx, .ref yro, .ref ygl, .int ysn, .ref yso, .ref ysp, .ref ysw, .long ysd, .ref yik, .ref ykp])), (yno, .inl (cI, 96, .inl Fno)), (yro, .inl (cI, 672, .inl gr))] → va_S A s.heap H locs → lv_has ls 2 [(0, .ref h0), (1, .int x1)] → W p l e R s m args below meth c H locs 0 0 Q (F0 m 2 ls []) := by
    intro fu_1
    induction fu_1 with
    | zero => intro x1 gr H locs ls hmu; exact absurd hmu (Nat.not_lt_zero _)
    | succ fu_1 ih =>
      intro x1 gr H locs ls hmu h_x1 hP hD hS hl
      obtain ⟨h_x1a, h_x1b⟩ := h_x1
      have ih_2 := ih
      clear ih
      refine lv_iload_n hx hb dX4_keepAct_2 rfl (lv_at hl 1 rfl) ?_
      refine lv_bipush (v := 48) hx hb dX4_keepAct_3 (by decide) ?_
      refine lv_icmp_ge (tgt := 34) hx hb dX4_keepAct_5 (by decide) (fun c_3 => ?_) (fun c_3 => ?_)
      · have tc_3 := b_le (show (48 : Int32).toInt = 48 by decide) rfl c_3
        refine lv_aload_n hx hb dX4_keepAct_34 rfl (lv_at hl 0 rfl) ?_
        refine lv_aload_n hx hb dX4_keepAct_35 rfl (lv_at hl 0 rfl) ?_
        refine va_get (D := D) (ci := 4) (v := .int ynx) (C := RX4) (T := TX4) (N := 30) hx hb hts iX4 hown hK hP 0 rfl rfl 20 (by decide) (hts (.fieldLink RX4 137 "PunchedTicketModel" "next" "I") (List.mem_of_getElem? (i := 2) rfl)) (fun _ h9 => h9) rfl dX4_keepAct_36 ?_
        refine lv_iconst (v := 1) hx hb dX4_keepAct_39 (by decide) ?_
        refine lv_iadd hx hb dX4_keepAct_40 ?_
        refine lv_topi (fun v_4 ev_4 => ?_)
        have tv_4 : v_4.toInt = ynx.toInt + (1 : Int) := by rw [ev_4]; exact ti_add (x := ynx) (y := 1) (show -2147483648 ≤ ynx.toInt + (1 : Int) by omega) (show ynx.toInt + (1 : Int) < 2147483648 by omega)
        refine lv_bipush (v := 14) hx hb dX4_keepAct_41 (by decide) ?_
        refine lv_irem hx hb dX4_keepAct_43 (by decide) ?_
        refine lv_topi (fun v_5 ev_5 => ?_)
        have tv_5 := rem_t (n := 14) (by decide) (by decide) (show 0 ≤ v_4.toInt by omega) ev_5
        obtain ⟨tv_5a, tv_5b⟩ := tv_5
        refine va_put (D := D) (ci := 4) (v := .int v_5) (ty := .int) (C := RX4) (T := TX4) (N := 30) hx hb hts iX4 tyX4 tyX4_ok nmX4 hown hK hP hD hS 0 rfl rfl 20 (by decide) (hts (.fieldLink RX4 137 "PunchedTicketModel" "next" "I") (List.mem_of_getElem? (i := 2) rfl)) (fun _ h9 => h9) rfl (by decide +kernel) rfl rfl (Nat.le_of_ble_eq_true rfl) dX4_keepAct_44 (fun H locs hP hD hS => ?_)
        have hP : va_P D vwCl [(h0, .inr (4, [.int ype, .int ytk, .ref ywi, .ref yki, .ref yse, .ref yno, .ref yrh, .ref yrw, .ref yrk, .ref yrt, .int yrp, .int yrq, .ref ytx, .int yle, .int yat, .int yfa, .ref yby, .ref ylo, .ref yhi, .int yac, .int v_5, .ref yro, .ref ygl, .int ysn, .ref yso, .ref ysp, .ref ysw, .long ysd, .ref yik, .ref ykp])), (yno, .inl (cI, 96, .inl Fno)), (yro, .inl (cI, 672, .inl gr))] H := hP
        have hD : va_D A [(h0, .inr (4, [.int ype, .int ytk, .ref ywi, .ref yki, .ref yse, .ref yno, .ref yrh, .ref yrw, .ref yrk, .ref yrt, .int yrp, .int yrq, .ref ytx, .int yle, .int yat, .int yfa, .ref yby, .ref ylo, .ref yhi, .int yac, .int v_5, .ref yro, .ref ygl, .int ysn, .ref yso, .ref ysp, .ref ysw, .long ysd, .ref yik, .ref ykp])), (yno, .inl (cI, 96, .inl Fno)), (yro, .inl (cI, 672, .inl gr))] := hD
        refine lv_aload_n hx hb dX4_keepAct_47 rfl (lv_at hl 0 rfl) ?_
        refine lv_aload_n hx hb dX4_keepAct_48 rfl (lv_at hl 0 rfl) ?_
        refine va_get (D := D) (ci := 4) (v := .int yac) (C := RX4) (T := TX4) (N := 30) hx hb hts iX4 hown hK hP 0 rfl rfl 19 (by decide) (hts (.fieldLink RX4 104 "PunchedTicketModel" "acts" "I") (List.mem_of_getElem? (i := 4) rfl)) (fun _ h9 => h9) rfl dX4_keepAct_49 ?_
        refine lv_bipush (v := 14) hx hb dX4_keepAct_52 (by decide) ?_
        refine lv_icmp_ge (tgt := 66) hx hb dX4_keepAct_54 (by decide) (fun c_6 => ?_) (fun c_6 => ?_)
        · have tc_6 := b_le (show (14 : Int32).toInt = 14 by decide) rfl c_6
          refine lv_bipush (v := 14) hx hb dX4_keepAct_66 (by decide) ?_
          refine va_put (D := D) (ci := 4) (v := .int 14) (ty := .int) (C := RX4) (T := TX4) (N := 30) hx hb hts iX4 tyX4 tyX4_ok nmX4 hown hK hP hD hS 0 rfl rfl 19 (by decide) (hts (.fieldLink RX4 104 "PunchedTicketModel" "acts" "I") (List.mem_of_getElem? (i := 4) rfl)) (fun _ h9 => h9) rfl (by decide +kernel) rfl rfl (Nat.le_of_ble_eq_true rfl) dX4_keepAct_68 (fun H locs hP hD hS => ?_)
          have hP : va_P D vwCl [(h0, .inr (4, [.int ype, .int ytk, .ref ywi, .ref yki, .ref yse, .ref yno, .ref yrh, .ref yrw, .ref yrk, .ref yrt, .int yrp, .int yrq, .ref ytx, .int yle, .int yat, .int yfa, .ref yby, .ref ylo, .ref yhi, .int 14, .int v_5, .ref yro, .ref ygl, .int ysn, .ref yso, .ref ysp, .ref ysw, .long ysd, .ref yik, .ref ykp])), (yno, .inl (cI, 96, .inl Fno)), (yro, .inl (cI, 672, .inl gr))] H := hP
          have hD : va_D A [(h0, .inr (4, [.int ype, .int ytk, .ref ywi, .ref yki, .ref yse, .ref yno, .ref yrh, .ref yrw, .ref yrk, .ref yrt, .int yrp, .int yrq, .ref ytx, .int yle, .int yat, .int yfa, .ref yby, .ref ylo, .ref yhi, .int 14, .int v_5, .ref yro, .ref ygl, .int ysn, .ref yso, .ref ysp, .ref ysw, .long ysd, .ref yik, .ref ykp])), (yno, .inl (cI, 96, .inl Fno)), (yro, .inl (cI, 672, .inl gr))] := hD
          exact ret_v (post := (fun (u : Int32 × Int32 × (Nat → Int32)) => (0 ≤ u.1.toInt ∧ u.1.toInt ≤ 14) ∧ (0 ≤ u.2.1.toInt ∧ u.2.1.toInt ≤ 13))) (W1 := (fun u => [(h0, .inr (4, [.int ype, .int ytk, .ref ywi, .ref yki, .ref yse, .ref yno, .ref yrh, .ref yrw, .ref yrk, .ref yrt, .int yrp, .int yrq, .ref ytx, .int yle, .int yat, .int yfa, .ref yby, .ref ylo, .ref yhi, .int u.1, .int u.2.1, .ref yro, .ref ygl, .int ysn, .ref yso, .ref ysp, .ref ysw, .long ysd, .ref yik, .ref ykp])), (yno, .inl (cI, 96, .inl Fno)), (yro, .inl (cI, 672, .inl u.2.2))])) (14, v_5, gr) hx hb hr hlocks hQ hK hP hD hS ⟨by decide, by decide⟩ dX4_keepAct_71 (show (0 ≤ (14 : Int) ∧ (14 : Int) ≤ 14) ∧ (0 ≤ v_5.toInt ∧ v_5.toInt ≤ 13) by omega)
        · have tc_6 := b_nle (show (14 : Int32).toInt = 14 by decide) rfl c_6
          refine lv_aload_n hx hb dX4_keepAct_57 rfl (lv_at hl 0 rfl) ?_
          refine va_get (D := D) (ci := 4) (v := .int yac) (C := RX4) (T := TX4) (N := 30) hx hb hts iX4 hown hK hP 0 rfl rfl 19 (by decide) (hts (.fieldLink RX4 104 "PunchedTicketModel" "acts" "I") (List.mem_of_getElem? (i := 4) rfl)) (fun _ h9 => h9) rfl dX4_keepAct_58 ?_
          refine lv_iconst (v := 1) hx hb dX4_keepAct_61 (by decide) ?_
          refine lv_iadd hx hb dX4_keepAct_62 ?_
          refine lv_topi (fun v_7 ev_7 => ?_)
          have tv_7 : v_7.toInt = yac.toInt + (1 : Int) := by rw [ev_7]; exact ti_add (x := yac) (y := 1) (show -2147483648 ≤ yac.toInt + (1 : Int) by omega) (show yac.toInt + (1 : Int) < 2147483648 by omega)
          refine lv_goto (tgt := 68) hx hb dX4_keepAct_63 (by decide) ?_
          refine va_put (D := D) (ci := 4) (v := .int v_7) (ty := .int) (C := RX4) (T := TX4) (N := 30) hx hb hts iX4 tyX4 tyX4_ok nmX4 hown hK hP hD hS 0 rfl rfl 19 (by decide) (hts (.fieldLink RX4 104 "PunchedTicketModel" "acts" "I") (List.mem_of_getElem? (i := 4) rfl)) (fun _ h9 => h9) rfl (by decide +kernel) rfl rfl (Nat.le_of_ble_eq_true rfl) dX4_keepAct_68 (fun H locs hP hD hS => ?_)
          have hP : va_P D vwCl [(h0, .inr (4, [.int ype, .int ytk, .ref ywi, .ref yki, .ref yse, .ref yno, .ref yrh, .ref yrw, .ref yrk, .ref yrt, .int yrp, .int yrq, .ref ytx, .int yle, .int yat, .int yfa, .ref yby, .ref ylo, .ref yhi, .int v_7, .int v_5, .ref yro, .ref ygl, .int ysn, .ref yso, .ref ysp, .ref ysw, .long ysd, .ref yik, .ref ykp])), (yno, .inl (cI, 96, .inl Fno)), (yro, .inl (cI, 672, .inl gr))] H := hP
          have hD : va_D A [(h0, .inr (4, [.int ype, .int ytk, .ref ywi, .ref yki, .ref yse, .ref yno, .ref yrh, .ref yrw, .ref yrk, .ref yrt, .int yrp, .int yrq, .ref ytx, .int yle, .int yat, .int yfa, .ref yby, .ref ylo, .ref yhi, .int v_7, .int v_5, .ref yro, .ref ygl, .int ysn, .ref yso, .ref ysp, .ref ysw, .long ysd, .ref yik, .ref ykp])), (yno, .inl (cI, 96, .inl Fno)), (yro, .inl (cI, 672, .inl gr))] := hD
          exact ret_v (post := (fun (u : Int32 × Int32 × (Nat → Int32)) => (0 ≤ u.1.toInt ∧ u.1.toInt ≤ 14) ∧ (0 ≤ u.2.1.toInt ∧ u.2.1.toInt ≤ 13))) (W1 := (fun u => [(h0, .inr (4, [.int ype, .int ytk, .ref ywi, .ref yki, .ref yse, .ref yno, .ref yrh, .ref yrw, .ref yrk, .ref yrt, .int yrp, .int yrq, .ref ytx, .int yle, .int yat, .int yfa, .ref yby, .ref ylo, .ref yhi, .int u.1, .int u.2.1, .ref yro, .ref ygl, .int ysn, .ref yso, .ref ysp, .ref ysw, .long ysd, .ref yik, .ref ykp])), (yno, .inl (cI, 96, .inl Fno)), (yro, .inl (cI, 672, .inl u.2.2))])) (v_7, v_5, gr) hx hb hr hlocks hQ hK hP hD hS ⟨by decide, by decide⟩ dX4_keepAct_71 (show (0 ≤ v_7.toInt ∧ v_7.toInt ≤ 14) ∧ (0 ≤ v_5.toInt ∧ v_5.toInt ≤ 13) by omega)
      · have tc_3 := b_nle (show (48 : Int32).toInt = 48 by decide) rfl c_3
        refine lv_aload_n hx hb dX4_keepAct_8 rfl (lv_at hl 0 rfl) ?_
        refine va_get (D := D) (ci := 4) (v := .ref yro) (C := RX4) (T := TX4) (N := 30) hx hb hts iX4 hown hK hP 0 rfl rfl 21 (by decide) (hts (.fieldLink RX4 46 "PunchedTicketModel" "row" "[I") (List.mem_of_getElem? (i := 1) rfl)) (fun _ h9 => h9) rfl dX4_keepAct_9 ?_
        refine lv_bipush (v := 48) hx hb dX4_keepAct_12 (by decide) ?_
        refine lv_aload_n hx hb dX4_keepAct_14 rfl (lv_at hl 0 rfl) ?_
        refine va_get (D := D) (ci := 4) (v := .int ynx) (C := RX4) (T := TX4) (N := 30) hx hb hts iX4 hown hK hP 0 rfl rfl 20 (by decide) (hts (.fieldLink RX4 137 "PunchedTicketModel" "next" "I") (List.mem_of_getElem? (i := 2) rfl)) (fun _ h9 => h9) rfl dX4_keepAct_15 ?_
        refine lv_imul hx hb dX4_keepAct_18 ?_
        refine lv_topi (fun v_8 ev_8 => ?_)
        have tv_8 : v_8.toInt = (48 : Int) * ynx.toInt := by rw [ev_8]; exact ti_mul (x := 48) (y := ynx) (show -2147483648 ≤ (48 : Int) * ynx.toInt by omega) (show (48 : Int) * ynx.toInt < 2147483648 by omega)
        refine lv_iload_n hx hb dX4_keepAct_19 rfl (lv_at hl 1 rfl) ?_
        refine lv_iadd hx hb dX4_keepAct_20 ?_
        refine lv_topi (fun v_9 ev_9 => ?_)
        have tv_9 : v_9.toInt = v_8.toInt + x1.toInt := by rw [ev_9]; exact ti_add (x := v_8) (y := x1) (show -2147483648 ≤ v_8.toInt + x1.toInt by omega) (show v_8.toInt + x1.toInt < 2147483648 by omega)
        refine lv_aload_n hx hb dX4_keepAct_21 rfl (lv_at hl 0 rfl) ?_
        refine va_get (D := D) (ci := 4) (v := .ref yno) (C := RX4) (T := TX4) (N := 30) hx hb hts iX4 hown hK hP 0 rfl rfl 5 (by decide) (hts (.fieldLink RX4 19 "PunchedTicketModel" "now" "[I") (List.mem_of_getElem? (i := 3) rfl)) (fun _ h9 => h9) rfl dX4_keepAct_22 ?_
        refine lv_iload_n hx hb dX4_keepAct_25 rfl (lv_at hl 1 rfl) ?_
        refine va_iald hx hb hK hP 1 0 rfl rfl (vp_in_iff.mpr ⟨by omega, by omega⟩) dX4_keepAct_26 ?_
        refine lv_topi (fun v_10 ev_10 => ?_)
        refine va_iast hx hb hK hP hD hS 2 0 rfl rfl (vp_in_iff.mpr ⟨by omega, by omega⟩) dX4_keepAct_27 (fun H locs hP hD hS => ?_)
        obtain ⟨f_11, ef_11⟩ : ∃ g : Nat → Int32, upd gr (v_9 : Int32).toNatClampNeg v_10 = g := ⟨_, rfl⟩
        rw [ef_11] at hP hD
        have hP : va_P D vwCl [(h0, .inr (4, [.int ype, .int ytk, .ref ywi, .ref yki, .ref yse, .ref yno, .ref yrh, .ref yrw, .ref yrk, .ref yrt, .int yrp, .int yrq, .ref ytx, .int yle, .int yat, .int yfa, .ref yby, .ref ylo, .ref yhi, .int yac, .int ynx, .ref yro, .ref ygl, .int ysn, .ref yso, .ref ysp, .ref ysw, .long ysd, .ref yik, .ref ykp])), (yno, .inl (cI, 96, .inl Fno)), (yro, .inl (cI, 672, .inl f_11))] H := hP
        have hD : va_D A [(h0, .inr (4, [.int ype, .int ytk, .ref ywi, .ref yki, .ref yse, .ref yno, .ref yrh, .ref yrw, .ref yrk, .ref yrt, .int yrp, .int yrq, .ref ytx, .int yle, .int yat, .int yfa, .ref yby, .ref ylo, .ref yhi, .int yac, .int ynx, .ref yro, .ref ygl, .int ysn, .ref yso, .ref ysp, .ref ysw, .long ysd, .ref yik, .ref ykp])), (yno, .inl (cI, 96, .inl Fno)), (yro, .inl (cI, 672, .inl f_11))] := hD
        obtain ⟨v_12, ev_12⟩ : ∃ z : Int32, z = x1 + 1 := ⟨_, rfl⟩
        have tv_12 : v_12.toInt = x1.toInt + 1 := by rw [ev_12]; exact ti_add (x := x1) (y := 1) (show -2147483648 ≤ x1.toInt + 1 by omega) (show x1.toInt + 1 < 2147483648 by omega)
        refine lv_iinc (v := v_12) (lv' := [(1, .int v_12), (0, .ref h0)]) hx hb dX4_keepAct_28 hl (k := 1) rfl (by rw [ev_12]; rfl) (by decide) rfl (fun ls hl => ?_)
        refine lv_goto (tgt := 2) hx hb dX4_keepAct_31 (by decide) ?_
        exact ih_2 v_12 f_11 _ _ _ (show (48 - v_12.toInt).toNat < fu_1 by omega) (show 0 ≤ v_12.toInt ∧ v_12.toInt ≤ 48 by omega) hP hD hS (lv_sub hl [1, 0] rfl)
  exact LOOP_1 _ 0 Fro _ _ _ (Nat.lt_succ_self _) (by decide) hP hD hS (lv_sub hl [1, 0] rfl)

set_option maxHeartbeats 600000 in
set_option maxRecDepth 100000 in
theorem c_X4_undo (l : Launch) (D : va_G) (cI cZ cM : ClassId) (h0 : Nat) (ype : Int32) (ytk : Int32) (ywi : Nat) (yki : Nat) (yse : Nat) (yno : Nat) (yrh : Nat) (yrw : Nat) (yrk : Nat) (yrt : Nat) (yrp : Int32) (yrq : Int32) (ytx : Nat) (yle : Int32) (yat : Int32) (yfa : Int32) (yby : Nat) (ylo : Nat) (yhi : Nat) (yac : Int32) (ynx : Int32) (yro : Nat) (ygl : Nat) (ysn : Int32) (yso : Nat) (ysp : Nat) (ysw : Nat) (ysd : Int64) (yik : Nat) (ykp : Nat) (Fno : Nat → Int32) (Fro : Nat → Int32) (sz : Nat) (h_yac : 0 ≤ yac.toInt ∧ yac.toInt ≤ 14) (h_ynx : 0 ≤ ynx.toInt ∧ ynx.toInt ≤ 13) : Ci l yX4_undo wsX4_undo ({ frames := 0, cells := 0, slots := 0, locals := 0 } : Room) D cI cZ cM [.ref h0] [(h0, .inr (4, [.int ype, .int ytk, .ref ywi, .ref yki, .ref yse, .ref yno, .ref yrh, .ref yrw, .ref yrk, .ref yrt, .int yrp, .int yrq, .ref ytx, .int yle, .int yat, .int yfa, .ref yby, .ref ylo, .ref yhi, .int yac, .int ynx, .ref yro, .ref ygl, .int ysn, .ref yso, .ref ysp, .ref ysw, .long ysd, .ref yik, .ref ykp])), (yno, .inl (cI, 96, .inl Fno)), (yro, .inl (cI, 672, .inl Fro))] sz (fun (r : Int32) (u : Int32 × Int32 × (Nat → Int32)) => (0 ≤ u.1.toInt ∧ u.1.toInt ≤ 14) ∧ (0 ≤ u.2.1.toInt ∧ u.2.1.toInt ≤ 13)) (fun u => [(h0, .inr (4, [.int ype, .int ytk, .ref ywi, .ref yki, .ref yse, .ref yno, .ref yrh, .ref yrw, .ref yrk, .ref yrt, .int yrp, .int yrq, .ref ytx, .int yle, .int yat, .int yfa, .ref yby, .ref ylo, .ref yhi, .int u.1, .int u.2.1, .ref yro, .ref ygl, .int ysn, .ref yso, .ref ysp, .ref ysw, .long ysd, .ref yik, .ref ykp])), (yno, .inl (cI, 96, .inl u.2.2)), (yro, .inl (cI, 672, .inl Fro))]) 0 0 := by
  refine begins (l := l) (y := yX4_undo) (ws := wsX4_undo) (av := [.ref h0]) (Qc := fun A => va_Qi (fun (r : Int32) (u : Int32 × Int32 × (Nat → Int32)) => (0 ≤ u.1.toInt ∧ u.1.toInt ≤ 14) ∧ (0 ≤ u.2.1.toInt ∧ u.2.1.toInt ≤ 13)) (fun u => Wd D cI cZ cM A ((fun u => [(h0, .inr (4, [.int ype, .int ytk, .ref ywi, .ref yki, .ref yse, .ref yno, .ref yrh, .ref yrw, .ref yrk, .ref yrt, .int yrp, .int yrq, .ref ytx, .int yle, .int yat, .int yfa, .ref yby, .ref ylo, .ref yhi, .int u.1, .int u.2.1, .ref yro, .ref ygl, .int ysn, .ref yso, .ref ysp, .ref ysw, .long ysd, .ref yik, .ref ykp])), (yno, .inl (cI, 96, .inl u.2.2)), (yro, .inl (cI, 672, .inl Fro))]) u)) A) cX4_undo 2 (some .int) (by decide) rfl (Nat.le_of_ble_eq_true rfl) ?_
  intro p e s m args below meth c R Q A ls hBd hR hQ hA hS hK hP hD hl
  obtain ⟨hx, hb, hr, hts, hown, hlocks, hin, hml⟩ := hBd
  have hl : lv_has ls 2 [(0, .ref h0)] := hl
  have iX4 : ∀ w ∈ wsX40, w ∈ wsX4_undo := fun _ h => List.mem_cons_of_mem _ (List.mem_append_right _ h)
  obtain ⟨h_yaca, h_yacb⟩ := h_yac
  obtain ⟨h_ynxa, h_ynxb⟩ := h_ynx
  refine lv_aload_n hx hb dX4_undo_0 rfl (lv_at hl 0 rfl) ?_
  refine va_get (D := D) (ci := 4) (v := .int yac) (C := RX4) (T := TX4) (N := 30) hx hb hts iX4 hown hK hP 0 rfl rfl 19 (by decide) (hts (.fieldLink RX4 104 "PunchedTicketModel" "acts" "I") (List.mem_of_getElem? (i := 1) rfl)) (fun _ h9 => h9) rfl dX4_undo_1 ?_
  refine lv_if_ne (tgt := 10) hx hb dX4_undo_4 (by decide) (fun c_1 => ?_) (fun c_1 => ?_)
  · have tc_1 := b_ne rfl (show (0 : Int32).toInt = 0 by decide) c_1
    refine lv_aload_n hx hb dX4_undo_10 rfl (lv_at hl 0 rfl) ?_
    refine lv_dup hx hb dX4_undo_11 rfl ?_
    refine va_get (D := D) (ci := 4) (v := .int yac) (C := RX4) (T := TX4) (N := 30) hx hb hts iX4 hown hK hP 0 rfl rfl 19 (by decide) (hts (.fieldLink RX4 104 "PunchedTicketModel" "acts" "I") (List.mem_of_getElem? (i := 1) rfl)) (fun _ h9 => h9) rfl dX4_undo_12 ?_
    refine lv_iconst (v := 1) hx hb dX4_undo_15 (by decide) ?_
    refine lv_isub hx hb dX4_undo_16 ?_
    refine lv_topi (fun v_2 ev_2 => ?_)
    have tv_2 : v_2.toInt = yac.toInt - (1 : Int) := by rw [ev_2]; exact ti_sub (x := yac) (y := 1) (show -2147483648 ≤ yac.toInt - (1 : Int) by omega) (show yac.toInt - (1 : Int) < 2147483648 by omega)
    refine va_put (D := D) (ci := 4) (v := .int v_2) (ty := .int) (C := RX4) (T := TX4) (N := 30) hx hb hts iX4 tyX4 tyX4_ok nmX4 hown hK hP hD hS 0 rfl rfl 19 (by decide) (hts (.fieldLink RX4 104 "PunchedTicketModel" "acts" "I") (List.mem_of_getElem? (i := 1) rfl)) (fun _ h9 => h9) rfl (by decide +kernel) rfl rfl (Nat.le_of_ble_eq_true rfl) dX4_undo_17 (fun H locs hP hD hS => ?_)
    have hP : va_P D vwCl [(h0, .inr (4, [.int ype, .int ytk, .ref ywi, .ref yki, .ref yse, .ref yno, .ref yrh, .ref yrw, .ref yrk, .ref yrt, .int yrp, .int yrq, .ref ytx, .int yle, .int yat, .int yfa, .ref yby, .ref ylo, .ref yhi, .int v_2, .int ynx, .ref yro, .ref ygl, .int ysn, .ref yso, .ref ysp, .ref ysw, .long ysd, .ref yik, .ref ykp])), (yno, .inl (cI, 96, .inl Fno)), (yro, .inl (cI, 672, .inl Fro))] H := hP
    have hD : va_D A [(h0, .inr (4, [.int ype, .int ytk, .ref ywi, .ref yki, .ref yse, .ref yno, .ref yrh, .ref yrw, .ref yrk, .ref yrt, .int yrp, .int yrq, .ref ytx, .int yle, .int yat, .int yfa, .ref yby, .ref ylo, .ref yhi, .int v_2, .int ynx, .ref yro, .ref ygl, .int ysn, .ref yso, .ref ysp, .ref ysw, .long ysd, .ref yik, .ref ykp])), (yno, .inl (cI, 96, .inl Fno)), (yro, .inl (cI, 672, .inl Fro))] := hD
    refine lv_aload_n hx hb dX4_undo_20 rfl (lv_at hl 0 rfl) ?_
    refine lv_aload_n hx hb dX4_undo_21 rfl (lv_at hl 0 rfl) ?_
    refine va_get (D := D) (ci := 4) (v := .int ynx) (C := RX4) (T := TX4) (N := 30) hx hb hts iX4 hown hK hP 0 rfl rfl 20 (by decide) (hts (.fieldLink RX4 137 "PunchedTicketModel" "next" "I") (List.mem_of_getElem? (i := 2) rfl)) (fun _ h9 => h9) rfl dX4_undo_22 ?_
    refine lv_bipush (v := 13) hx hb dX4_undo_25 (by decide) ?_
    refine lv_iadd hx hb dX4_undo_27 ?_
    refine lv_topi (fun v_3 ev_3 => ?_)
    have tv_3 : v_3.toInt = ynx.toInt + (13 : Int) := by rw [ev_3]; exact ti_add (x := ynx) (y := 13) (show -2147483648 ≤ ynx.toInt + (13 : Int) by omega) (show ynx.toInt + (13 : Int) < 2147483648 by omega)
    refine lv_bipush (v := 14) hx hb dX4_undo_28 (by decide) ?_
    refine lv_irem hx hb dX4_undo_30 (by decide) ?_
    refine lv_topi (fun v_4 ev_4 => ?_)
    have tv_4 := rem_t (n := 14) (by decide) (by decide) (show 0 ≤ v_3.toInt by omega) ev_4
    obtain ⟨tv_4a, tv_4b⟩ := tv_4
    refine va_put (D := D) (ci := 4) (v := .int v_4) (ty := .int) (C := RX4) (T := TX4) (N := 30) hx hb hts iX4 tyX4 tyX4_ok nmX4 hown hK hP hD hS 0 rfl rfl 20 (by decide) (hts (.fieldLink RX4 137 "PunchedTicketModel" "next" "I") (List.mem_of_getElem? (i := 2) rfl)) (fun _ h9 => h9) rfl (by decide +kernel) rfl rfl (Nat.le_of_ble_eq_true rfl) dX4_undo_31 (fun H locs hP hD hS => ?_)
    have hP : va_P D vwCl [(h0, .inr (4, [.int ype, .int ytk, .ref ywi, .ref yki, .ref yse, .ref yno, .ref yrh, .ref yrw, .ref yrk, .ref yrt, .int yrp, .int yrq, .ref ytx, .int yle, .int yat, .int yfa, .ref yby, .ref ylo, .ref yhi, .int v_2, .int v_4, .ref yro, .ref ygl, .int ysn, .ref yso, .ref ysp, .ref ysw, .long ysd, .ref yik, .ref ykp])), (yno, .inl (cI, 96, .inl Fno)), (yro, .inl (cI, 672, .inl Fro))] H := hP
    have hD : va_D A [(h0, .inr (4, [.int ype, .int ytk, .ref ywi, .ref yki, .ref yse, .ref yno, .ref yrh, .ref yrw, .ref yrk, .ref yrt, .int yrp, .int yrq, .ref ytx, .int yle, .int yat, .int yfa, .ref yby, .ref ylo, .ref yhi, .int v_2, .int v_4, .ref yro, .ref ygl, .int ysn, .ref yso, .ref ysp, .ref ysw, .long ysd, .ref yik, .ref ykp])), (yno, .inl (cI, 96, .inl Fno)), (yro, .inl (cI, 672, .inl Fro))] := hD
    refine lv_iconst (v := 0) hx hb dX4_undo_34 (by decide) ?_
    refine lv_istore_n (lv' := [(1, .int 0), (0, .ref h0)]) hx hb dX4_undo_35 rfl hl (by decide) rfl (fun ls hl => ?_)
    have LOOP_5 : ∀ (fu_5 : Nat) (x1 : Int32) (gn : Nat → Int32) (H : Heap) (locs : List Loc) (ls : Array Slot), (48 - x1.toInt).toNat < fu_5 → (0 ≤ x1.toInt ∧ x1.toInt ≤ 48) → va_P D vwCl [(h0, .inr (4, [.int ype, .int ytk, .ref ywi, .ref yki, .ref yse, .ref yno, .ref yrh, .ref yrw, .ref yrk, .ref yrt, .int yrp, .int yrq, .ref ytx, .int yle, .int yat, .int yfa, .ref yby, .ref ylo, .ref yhi, .int v_2, .int v_4, .ref yro, .ref ygl, .int ysn, .ref yso, .ref ysp, .ref ysw, .long ysd, .ref yik, .ref ykp])), (yno, .inl (cI, 96, .inl gn)), (yro, .inl (cI, 672, .inl Fro))] H → va_D A [(h0, .inr (4, [.int ype, .int ytk, .ref ywi, .ref yki, .ref yse, .ref yno, .ref yrh, .ref yrw, .ref yrk, .ref yrt, .int yrp, .int yrq, .ref ytx, .int yle, .int yat, .int yfa, .ref yby, .ref ylo, .ref yhi, .int v_2, .int v_4, .ref yro, .ref ygl, .int ysn, .ref yso, .ref ysp, .ref ysw, .long ysd, .ref yik, .ref ykp])), (yno, .inl (cI, 96, .inl gn)), (yro, .inl (cI, 672, .inl Fro))] → va_S A s.heap H locs → lv_has ls 2 [(0, .ref h0), (1, .int x1)] → W p l e R s m args below meth c H locs 0 0 Q (F0 m 36 ls []) := by
      intro fu_5
      induction fu_5 with
      | zero => intro x1 gn H locs ls hmu; exact absurd hmu (Nat.not_lt_zero _)
      | succ fu_5 ih =>
        intro x1 gn H locs ls hmu h_x1 hP hD hS hl
        obtain ⟨h_x1a, h_x1b⟩ := h_x1
        have ih_6 := ih
        clear ih
        refine lv_iload_n hx hb dX4_undo_36 rfl (lv_at hl 1 rfl) ?_
        refine lv_bipush (v := 48) hx hb dX4_undo_37 (by decide) ?_
        refine lv_icmp_ge (tgt := 68) hx hb dX4_undo_39 (by decide) (fun c_7 => ?_) (fun c_7 => ?_)
        · have tc_7 := b_le (show (48 : Int32).toInt = 48 by decide) rfl c_7
          refine lv_aload_n hx hb dX4_undo_68 rfl (lv_at hl 0 rfl) ?_
          refine va_get (D := D) (ci := 4) (v := .int v_2) (C := RX4) (T := TX4) (N := 30) hx hb hts iX4 hown hK hP 0 rfl rfl 19 (by decide) (hts (.fieldLink RX4 104 "PunchedTicketModel" "acts" "I") (List.mem_of_getElem? (i := 1) rfl)) (fun _ h9 => h9) rfl dX4_undo_69 ?_
          exact ret_i (post := (fun (r : Int32) (u : Int32 × Int32 × (Nat → Int32)) => (0 ≤ u.1.toInt ∧ u.1.toInt ≤ 14) ∧ (0 ≤ u.2.1.toInt ∧ u.2.1.toInt ≤ 13))) (W1 := (fun u => [(h0, .inr (4, [.int ype, .int ytk, .ref ywi, .ref yki, .ref yse, .ref yno, .ref yrh, .ref yrw, .ref yrk, .ref yrt, .int yrp, .int yrq, .ref ytx, .int yle, .int yat, .int yfa, .ref yby, .ref ylo, .ref yhi, .int u.1, .int u.2.1, .ref yro, .ref ygl, .int ysn, .ref yso, .ref ysp, .ref ysw, .long ysd, .ref yik, .ref ykp])), (yno, .inl (cI, 96, .inl u.2.2)), (yro, .inl (cI, 672, .inl Fro))])) (v_2, v_4, gn) hx hb hr hlocks rfl hQ hK hP hD hS ⟨by decide, by decide⟩ dX4_undo_72 (show (0 ≤ v_2.toInt ∧ v_2.toInt ≤ 14) ∧ (0 ≤ v_4.toInt ∧ v_4.toInt ≤ 13) by omega)
        · have tc_7 := b_nle (show (48 : Int32).toInt = 48 by decide) rfl c_7
          refine lv_aload_n hx hb dX4_undo_42 rfl (lv_at hl 0 rfl) ?_
          refine va_get (D := D) (ci := 4) (v := .ref yno) (C := RX4) (T := TX4) (N := 30) hx hb hts iX4 hown hK hP 0 rfl rfl 5 (by decide) (hts (.fieldLink RX4 19 "PunchedTicketModel" "now" "[I") (List.mem_of_getElem? (i := 3) rfl)) (fun _ h9 => h9) rfl dX4_undo_43 ?_
          refine lv_iload_n hx hb dX4_undo_46 rfl (lv_at hl 1 rfl) ?_
          refine lv_aload_n hx hb dX4_undo_47 rfl (lv_at hl 0 rfl) ?_
          refine va_get (D := D) (ci := 4) (v := .ref yro) (C := RX4) (T := TX4) (N := 30) hx hb hts iX4 hown hK hP 0 rfl rfl 21 (by decide) (hts (.fieldLink RX4 46 "PunchedTicketModel" "row" "[I") (List.mem_of_getElem? (i := 4) rfl)) (fun _ h9 => h9) rfl dX4_undo_48 ?_
          refine lv_bipush (v := 48) hx hb dX4_undo_51 (by decide) ?_
          refine lv_aload_n hx hb dX4_undo_53 rfl (lv_at hl 0 rfl) ?_
          refine va_get (D := D) (ci := 4) (v := .int v_4) (C := RX4) (T := TX4) (N := 30) hx hb hts iX4 hown hK hP 0 rfl rfl 20 (by decide) (hts (.fieldLink RX4 137 "PunchedTicketModel" "next" "I") (List.mem_of_getElem? (i := 2) rfl)) (fun _ h9 => h9) rfl dX4_undo_54 ?_
          refine lv_imul hx hb dX4_undo_57 ?_
          refine lv_topi (fun v_8 ev_8 => ?_)
          have tv_8 : v_8.toInt = (48 : Int) * v_4.toInt := by rw [ev_8]; exact ti_mul (x := 48) (y := v_4) (show -2147483648 ≤ (48 : Int) * v_4.toInt by omega) (show (48 : Int) * v_4.toInt < 2147483648 by omega)
          refine lv_iload_n hx hb dX4_undo_58 rfl (lv_at hl 1 rfl) ?_
          refine lv_iadd hx hb dX4_undo_59 ?_
          refine lv_topi (fun v_9 ev_9 => ?_)
          have tv_9 : v_9.toInt = v_8.toInt + x1.toInt := by rw [ev_9]; exact ti_add (x := v_8) (y := x1) (show -2147483648 ≤ v_8.toInt + x1.toInt by omega) (show v_8.toInt + x1.toInt < 2147483648 by omega)
          refine va_iald hx hb hK hP 2 0 rfl rfl (vp_in_iff.mpr ⟨by omega, by omega⟩) dX4_undo_60 ?_
          refine lv_topi (fun v_10 ev_10 => ?_)
          refine va_iast hx hb hK hP hD hS 1 0 rfl rfl (vp_in_iff.mpr ⟨by omega, by omega⟩) dX4_undo_61 (fun H locs hP hD hS => ?_)
          obtain ⟨f_11, ef_11⟩ : ∃ g : Nat → Int32, upd gn (x1 : Int32).toNatClampNeg v_10 = g := ⟨_, rfl⟩
          rw [ef_11] at hP hD
          have hP : va_P D vwCl [(h0, .inr (4, [.int ype, .int ytk, .ref ywi, .ref yki, .ref yse, .ref yno, .ref yrh, .ref yrw, .ref yrk, .ref yrt, .int yrp, .int yrq, .ref ytx, .int yle, .int yat, .int yfa, .ref yby, .ref ylo, .ref yhi, .int v_2, .int v_4, .ref yro, .ref ygl, .int ysn, .ref yso, .ref ysp, .ref ysw, .long ysd, .ref yik, .ref ykp])), (yno, .inl (cI, 96, .inl f_11)), (yro, .inl (cI, 672, .inl Fro))] H := hP
          have hD : va_D A [(h0, .inr (4, [.int ype, .int ytk, .ref ywi, .ref yki, .ref yse, .ref yno, .ref yrh, .ref yrw, .ref yrk, .ref yrt, .int yrp, .int yrq, .ref ytx, .int yle, .int yat, .int yfa, .ref yby, .ref ylo, .ref yhi, .int v_2, .int v_4, .ref yro, .ref ygl, .int ysn, .ref yso, .ref ysp, .ref ysw, .long ysd, .ref yik, .ref ykp])), (yno, .inl (cI, 96, .inl f_11)), (yro, .inl (cI, 672, .inl Fro))] := hD
          obtain ⟨v_12, ev_12⟩ : ∃ z : Int32, z = x1 + 1 := ⟨_, rfl⟩
          have tv_12 : v_12.toInt = x1.toInt + 1 := by rw [ev_12]; exact ti_add (x := x1) (y := 1) (show -2147483648 ≤ x1.toInt + 1 by omega) (show x1.toInt + 1 < 2147483648 by omega)
          refine lv_iinc (v := v_12) (lv' := [(1, .int v_12), (0, .ref h0)]) hx hb dX4_undo_62 hl (k := 1) rfl (by rw [ev_12]; rfl) (by decide) rfl (fun ls hl => ?_)
          refine lv_goto (tgt := 36) hx hb dX4_undo_65 (by decide) ?_
          exact ih_6 v_12 f_11 _ _ _ (show (48 - v_12.toInt).toNat < fu_5 by omega) (show 0 ≤ v_12.toInt ∧ v_12.toInt ≤ 48 by omega) hP hD hS (lv_sub hl [1, 0] rfl)
    exact LOOP_5 _ 0 Fno _ _ _ (Nat.lt_succ_self _) (by decide) hP hD hS (lv_sub hl [1, 0] rfl)
  · have tc_1 := b_eq rfl (show (0 : Int32).toInt = 0 by decide) c_1
    refine lv_bipush (v := (-3)) hx hb dX4_undo_7 (by decide) ?_
    exact ret_i (post := (fun (r : Int32) (u : Int32 × Int32 × (Nat → Int32)) => (0 ≤ u.1.toInt ∧ u.1.toInt ≤ 14) ∧ (0 ≤ u.2.1.toInt ∧ u.2.1.toInt ≤ 13))) (W1 := (fun u => [(h0, .inr (4, [.int ype, .int ytk, .ref ywi, .ref yki, .ref yse, .ref yno, .ref yrh, .ref yrw, .ref yrk, .ref yrt, .int yrp, .int yrq, .ref ytx, .int yle, .int yat, .int yfa, .ref yby, .ref ylo, .ref yhi, .int u.1, .int u.2.1, .ref yro, .ref ygl, .int ysn, .ref yso, .ref ysp, .ref ysw, .long ysd, .ref yik, .ref ykp])), (yno, .inl (cI, 96, .inl u.2.2)), (yro, .inl (cI, 672, .inl Fro))])) (yac, ynx, Fno) hx hb hr hlocks rfl hQ hK hP hD hS ⟨by decide, by decide⟩ dX4_undo_9 (show (0 ≤ yac.toInt ∧ yac.toInt ≤ 14) ∧ (0 ≤ ynx.toInt ∧ ynx.toInt ≤ 13) by omega)

set_option maxHeartbeats 600000 in
set_option maxRecDepth 100000 in
theorem c_X4_day (l : Launch) (D : va_G) (cI cZ cM : ClassId) (h0 : Nat) (ype : Int32) (ytk : Int32) (ywi : Nat) (yki : Nat) (yse : Nat) (yno : Nat) (yrh : Nat) (yrw : Nat) (yrk : Nat) (yrt : Nat) (yrp : Int32) (yrq : Int32) (ytx : Nat) (yle : Int32) (yat : Int32) (yfa : Int32) (yby : Nat) (ylo : Nat) (yhi : Nat) (yac : Int32) (ynx : Int32) (yro : Nat) (ygl : Nat) (ysn : Int32) (yso : Nat) (ysp : Nat) (ysw : Nat) (ysd : Int64) (yik : Nat) (ykp : Nat) (Fno : Nat → Int32) (Fki : Nat → Int32) (Fby : Nat → Int32) (Flo : Nat → Int32) (Fhi : Nat → Int32) (Fro : Nat → Int32) (sz : Nat) (hBy : ByOk Fby) (h_yac : 0 ≤ yac.toInt ∧ yac.toInt ≤ 14) (h_ynx : 0 ≤ ynx.toInt ∧ ynx.toInt ≤ 13) (h_ype : 0 ≤ ype.toInt ∧ ype.toInt ≤ 5) (h_ytk : 0 ≤ ytk.toInt ∧ ytk.toInt ≤ 6) : Ci l yX4_day wsX4_day ({ frames := 2, cells := 0, slots := 0, locals := 56 } : Room) D cI cZ cM [.ref h0] [(h0, .inr (4, [.int ype, .int ytk, .ref ywi, .ref yki, .ref yse, .ref yno, .ref yrh, .ref yrw, .ref yrk, .ref yrt, .int yrp, .int yrq, .ref ytx, .int yle, .int yat, .int yfa, .ref yby, .ref ylo, .ref yhi, .int yac, .int ynx, .ref yro, .ref ygl, .int ysn, .ref yso, .ref ysp, .ref ysw, .long ysd, .ref yik, .ref ykp])), (yno, .inl (cI, 96, .inl Fno)), (yki, .inl (cI, 5, .inl Fki)), (yby, .inl (cI, 5, .inl Fby)), (ylo, .inl (cI, 5, .inl Flo)), (yhi, .inl (cI, 5, .inl Fhi)), (yro, .inl (cI, 672, .inl Fro))] sz (fun (r : Int32) (u : Int32 × Int32 × (Nat → Int32) × (Nat → Int32) × (Nat → Int32) × (Nat → Int32) × (Nat → Int32)) => ByOk u.2.2.2.1 ∧ (0 ≤ u.1.toInt ∧ u.1.toInt ≤ 14) ∧ (0 ≤ u.2.1.toInt ∧ u.2.1.toInt ≤ 13)) (fun u => [(h0, .inr (4, [.int ype, .int ytk, .ref ywi, .ref yki, .ref yse, .ref yno, .ref yrh, .ref yrw, .ref yrk, .ref yrt, .int yrp, .int yrq, .ref ytx, .int yle, .int yat, .int yfa, .ref yby, .ref ylo, .ref yhi, .int u.1, .int u.2.1, .ref yro, .ref ygl, .int ysn, .ref yso, .ref ysp, .ref ysw, .long ysd, .ref yik, .ref ykp])), (yno, .inl (cI, 96, .inl u.2.2.1)), (yki, .inl (cI, 5, .inl Fki)), (yby, .inl (cI, 5, .inl u.2.2.2.1)), (ylo, .inl (cI, 5, .inl u.2.2.2.2.1)), (yhi, .inl (cI, 5, .inl u.2.2.2.2.2.1)), (yro, .inl (cI, 672, .inl u.2.2.2.2.2.2))]) 0 0 := by
  refine begins (l := l) (y := yX4_day) (ws := wsX4_day) (av := [.ref h0]) (Qc := fun A => va_Qi (fun (r : Int32) (u : Int32 × Int32 × (Nat → Int32) × (Nat → Int32) × (Nat → Int32) × (Nat → Int32) × (Nat → Int32)) => ByOk u.2.2.2.1 ∧ (0 ≤ u.1.toInt ∧ u.1.toInt ≤ 14) ∧ (0 ≤ u.2.1.toInt ∧ u.2.1.toInt ≤ 13)) (fun u => Wd D cI cZ cM A ((fun u => [(h0, .inr (4, [.int ype, .int ytk, .ref ywi, .ref yki, .ref yse, .ref yno, .ref yrh, .ref yrw, .ref yrk, .ref yrt, .int yrp, .int yrq, .ref ytx, .int yle, .int yat, .int yfa, .ref yby, .ref ylo, .ref yhi, .int u.1, .int u.2.1, .ref yro, .ref ygl, .int ysn, .ref yso, .ref ysp, .ref ysw, .long ysd, .ref yik, .ref ykp])), (yno, .inl (cI, 96, .inl u.2.2.1)), (yki, .inl (cI, 5, .inl Fki)), (yby, .inl (cI, 5, .inl u.2.2.2.1)), (ylo, .inl (cI, 5, .inl u.2.2.2.2.1)), (yhi, .inl (cI, 5, .inl u.2.2.2.2.2.1)), (yro, .inl (cI, 672, .inl u.2.2.2.2.2.2))]) u)) A) cX4_day 1 (some .int) (by decide) rfl (Nat.le_of_ble_eq_true rfl) ?_
  intro p e s m args below meth c R Q A ls hBd hR hQ hA hS hK hP hD hl
  obtain ⟨hx, hb, hr, hts, hown, hlocks, hin, hml⟩ := hBd
  have hl : lv_has ls 1 [(0, .ref h0)] := hl
  have iX4 : ∀ w ∈ wsX40, w ∈ wsX4_day := fun _ h => List.mem_cons_of_mem _ (List.mem_append_right _ h)
  obtain ⟨h_yaca, h_yacb⟩ := h_yac
  obtain ⟨h_ynxa, h_ynxb⟩ := h_ynx
  obtain ⟨h_ypea, h_ypeb⟩ := h_ype
  obtain ⟨h_ytka, h_ytkb⟩ := h_ytk
  refine lv_aload_n hx hb dX4_day_0 rfl (lv_at hl 0 rfl) ?_
  refine va_get (D := D) (ci := 4) (v := .ref yno) (C := RX4) (T := TX4) (N := 30) hx hb hts iX4 hown hK hP 0 rfl rfl 5 (by decide) (hts (.fieldLink RX4 19 "PunchedTicketModel" "now" "[I") (List.mem_of_getElem? (i := 1) rfl)) (fun _ h9 => h9) rfl dX4_day_1 ?_
  refine lv_iconst (v := 0) hx hb dX4_day_4 (by decide) ?_
  refine va_iald hx hb hK hP 1 0 rfl rfl (vp_in_iff.mpr (by decide)) dX4_day_5 ?_
  refine lv_topi (fun v_1 ev_1 => ?_)
  refine lv_bipush (v := 10) hx hb dX4_day_6 (by decide) ?_
  refine lv_icmp_ne (tgt := 14) hx hb dX4_day_8 (by decide) (fun c_2 => ?_) (fun c_2 => ?_)
  · have tc_2 := b_ne rfl (show (10 : Int32).toInt = 10 by decide) c_2
    refine lv_aload_n hx hb dX4_day_14 rfl (lv_at hl 0 rfl) ?_
    refine cV_v (As := []) (rest := []) ⟨hx, hb, hml, hown, hts⟩ (c_X4_keepAct l D cI cZ cM h0 ype ytk ywi yki yse yno yrh yrw yrk yrt yrp yrq ytx yle yat yfa yby ylo yhi yac ynx yro ygl ysn yso ysp ysw ysd yik ykp Fno Fro _ (show 0 ≤ yac.toInt ∧ yac.toInt ≤ 14 by omega) (show 0 ≤ ynx.toInt ∧ ynx.toInt ≤ 13 by omega)) (cwV 0 hts gX4_day_X4_keepAct rfl rfl rfl (by decide +kernel) ⟨by rw [hR]; decide, by rw [hR]; decide⟩) hK hP hD hS hA [0, 1, 6] [2, 3, 4, 5] rfl rfl (by decide) (by decide) (by decide) rfl 0 rfl hl.1 rfl rfl (Nat.le_of_ble_eq_true rfl) dX4_day_15 ⟨by rw [hR]; decide, by rw [hR]; decide⟩ (fun u_7 H locs hw hP hD hS => ?_)
    obtain ⟨ac1_3, nx1_4, Gro_5⟩ := u_7
    have hP : va_P D vwCl [(h0, .inr (4, [.int ype, .int ytk, .ref ywi, .ref yki, .ref yse, .ref yno, .ref yrh, .ref yrw, .ref yrk, .ref yrt, .int yrp, .int yrq, .ref ytx, .int yle, .int yat, .int yfa, .ref yby, .ref ylo, .ref yhi, .int ac1_3, .int nx1_4, .ref yro, .ref ygl, .int ysn, .ref yso, .ref ysp, .ref ysw, .long ysd, .ref yik, .ref ykp])), (yno, .inl (cI, 96, .inl Fno)), (yki, .inl (cI, 5, .inl Fki)), (yby, .inl (cI, 5, .inl Fby)), (ylo, .inl (cI, 5, .inl Flo)), (yhi, .inl (cI, 5, .inl Fhi)), (yro, .inl (cI, 672, .inl Gro_5))] H := hP.sub [4, 5, 0, 1, 2, 3, 6] rfl
    have hD : va_D A [(h0, .inr (4, [.int ype, .int ytk, .ref ywi, .ref yki, .ref yse, .ref yno, .ref yrh, .ref yrw, .ref yrk, .ref yrt, .int yrp, .int yrq, .ref ytx, .int yle, .int yat, .int yfa, .ref yby, .ref ylo, .ref yhi, .int ac1_3, .int nx1_4, .ref yro, .ref ygl, .int ysn, .ref yso, .ref ysp, .ref ysw, .long ysd, .ref yik, .ref ykp])), (yno, .inl (cI, 96, .inl Fno)), (yki, .inl (cI, 5, .inl Fki)), (yby, .inl (cI, 5, .inl Fby)), (ylo, .inl (cI, 5, .inl Flo)), (yhi, .inl (cI, 5, .inl Fhi)), (yro, .inl (cI, 672, .inl Gro_5))] := hD.sub [4, 5, 0, 1, 2, 3, 6] (by decide) rfl
    refine W.widen (k := 0) (n := 0) (Nat.le_refl _) (Nat.le_refl _) ?_
    have hw : (0 ≤ ac1_3.toInt ∧ ac1_3.toInt ≤ 14) ∧ (0 ≤ nx1_4.toInt ∧ nx1_4.toInt ≤ 13) := hw
    have hw_8 := hw
    refine lv_aload_n hx hb dX4_day_18 rfl (lv_at hl 0 rfl) ?_
    refine lv_iconst (v := 0) hx hb dX4_day_19 (by decide) ?_
    refine lv_aload_n hx hb dX4_day_20 rfl (lv_at hl 0 rfl) ?_
    refine va_get (D := D) (ci := 4) (v := .int ytk) (C := RX4) (T := TX4) (N := 30) hx hb hts iX4 hown hK hP 0 rfl rfl 1 (by decide) (hts (.fieldLink RX4 101 "PunchedTicketModel" "tickets" "I") (List.mem_of_getElem? (i := 2) rfl)) (fun _ h9 => h9) rfl dX4_day_21 ?_
    refine cV_i (As := [.int 0, .int ytk]) (rest := []) ⟨hx, hb, hml, hown, hts⟩ (c_X4_pass0 l D cI cZ cM h0 ytk ype ytk ywi yki yse yno yrh yrw yrk yrt yrp yrq ytx yle yat yfa yby ylo yhi ac1_3 nx1_4 yro ygl ysn yso ysp ysw ysd yik ykp Fno Fki Fby Flo Fhi _ hBy (show 0 ≤ ytk.toInt ∧ ytk.toInt ≤ 7 by omega) (show 0 ≤ ype.toInt ∧ ype.toInt ≤ 5 by omega)) (cwV 2 hts gX4_day_X4_pass rfl rfl rfl (by decide +kernel) ⟨by rw [hR]; decide, by rw [hR]; decide⟩) hK hP hD hS hA [0, 1, 2, 3, 4, 5] [6] rfl rfl (by decide) (by decide) (by decide) rfl 0 rfl hl.1 rfl rfl (Nat.le_of_ble_eq_true rfl) dX4_day_24 ⟨by rw [hR]; decide, by rw [hR]; decide⟩ (fun r_13 u_14 H locs hw hP hD hS => ?_)
    obtain ⟨Gno_9, Gby_10, Glo_11, Ghi_12⟩ := u_14
    have hP : va_P D vwCl [(h0, .inr (4, [.int ype, .int ytk, .ref ywi, .ref yki, .ref yse, .ref yno, .ref yrh, .ref yrw, .ref yrk, .ref yrt, .int yrp, .int yrq, .ref ytx, .int yle, .int yat, .int yfa, .ref yby, .ref ylo, .ref yhi, .int ac1_3, .int nx1_4, .ref yro, .ref ygl, .int ysn, .ref yso, .ref ysp, .ref ysw, .long ysd, .ref yik, .ref ykp])), (yno, .inl (cI, 96, .inl Gno_9)), (yki, .inl (cI, 5, .inl Fki)), (yby, .inl (cI, 5, .inl Gby_10)), (ylo, .inl (cI, 5, .inl Glo_11)), (yhi, .inl (cI, 5, .inl Ghi_12)), (yro, .inl (cI, 672, .inl Gro_5))] H := hP.sub [1, 2, 3, 4, 5, 6, 0] rfl
    have hD : va_D A [(h0, .inr (4, [.int ype, .int ytk, .ref ywi, .ref yki, .ref yse, .ref yno, .ref yrh, .ref yrw, .ref yrk, .ref yrt, .int yrp, .int yrq, .ref ytx, .int yle, .int yat, .int yfa, .ref yby, .ref ylo, .ref yhi, .int ac1_3, .int nx1_4, .ref yro, .ref ygl, .int ysn, .ref yso, .ref ysp, .ref ysw, .long ysd, .ref yik, .ref ykp])), (yno, .inl (cI, 96, .inl Gno_9)), (yki, .inl (cI, 5, .inl Fki)), (yby, .inl (cI, 5, .inl Gby_10)), (ylo, .inl (cI, 5, .inl Glo_11)), (yhi, .inl (cI, 5, .inl Ghi_12)), (yro, .inl (cI, 672, .inl Gro_5))] := hD.sub [1, 2, 3, 4, 5, 6, 0] (by decide) rfl
    refine W.widen (k := 0) (n := 0) (Nat.le_refl _) (Nat.le_refl _) ?_
    have hw : ByOk Gby_10 ∧ WentOk r_13 Gby_10 := hw
    have hw_15 := hw
    have PBY := hw_15.1
    exact ret_i (post := (fun (r : Int32) (u : Int32 × Int32 × (Nat → Int32) × (Nat → Int32) × (Nat → Int32) × (Nat → Int32) × (Nat → Int32)) => ByOk u.2.2.2.1 ∧ (0 ≤ u.1.toInt ∧ u.1.toInt ≤ 14) ∧ (0 ≤ u.2.1.toInt ∧ u.2.1.toInt ≤ 13))) (W1 := (fun u => [(h0, .inr (4, [.int ype, .int ytk, .ref ywi, .ref yki, .ref yse, .ref yno, .ref yrh, .ref yrw, .ref yrk, .ref yrt, .int yrp, .int yrq, .ref ytx, .int yle, .int yat, .int yfa, .ref yby, .ref ylo, .ref yhi, .int u.1, .int u.2.1, .ref yro, .ref ygl, .int ysn, .ref yso, .ref ysp, .ref ysw, .long ysd, .ref yik, .ref ykp])), (yno, .inl (cI, 96, .inl u.2.2.1)), (yki, .inl (cI, 5, .inl Fki)), (yby, .inl (cI, 5, .inl u.2.2.2.1)), (ylo, .inl (cI, 5, .inl u.2.2.2.2.1)), (yhi, .inl (cI, 5, .inl u.2.2.2.2.2.1)), (yro, .inl (cI, 672, .inl u.2.2.2.2.2.2))])) (ac1_3, nx1_4, Gno_9, Gby_10, Glo_11, Ghi_12, Gro_5) hx hb hr hlocks rfl hQ hK hP hD hS ⟨by decide, by decide⟩ dX4_day_27 (show ByOk Gby_10 ∧ (0 ≤ ac1_3.toInt ∧ ac1_3.toInt ≤ 14) ∧ (0 ≤ nx1_4.toInt ∧ nx1_4.toInt ≤ 13) from ⟨PBY, by omega, by omega⟩)
  · have tc_2 := b_eq rfl (show (10 : Int32).toInt = 10 by decide) c_2
    refine lv_bipush (v := (-3)) hx hb dX4_day_11 (by decide) ?_
    exact ret_i (post := (fun (r : Int32) (u : Int32 × Int32 × (Nat → Int32) × (Nat → Int32) × (Nat → Int32) × (Nat → Int32) × (Nat → Int32)) => ByOk u.2.2.2.1 ∧ (0 ≤ u.1.toInt ∧ u.1.toInt ≤ 14) ∧ (0 ≤ u.2.1.toInt ∧ u.2.1.toInt ≤ 13))) (W1 := (fun u => [(h0, .inr (4, [.int ype, .int ytk, .ref ywi, .ref yki, .ref yse, .ref yno, .ref yrh, .ref yrw, .ref yrk, .ref yrt, .int yrp, .int yrq, .ref ytx, .int yle, .int yat, .int yfa, .ref yby, .ref ylo, .ref yhi, .int u.1, .int u.2.1, .ref yro, .ref ygl, .int ysn, .ref yso, .ref ysp, .ref ysw, .long ysd, .ref yik, .ref ykp])), (yno, .inl (cI, 96, .inl u.2.2.1)), (yki, .inl (cI, 5, .inl Fki)), (yby, .inl (cI, 5, .inl u.2.2.2.1)), (ylo, .inl (cI, 5, .inl u.2.2.2.2.1)), (yhi, .inl (cI, 5, .inl u.2.2.2.2.2.1)), (yro, .inl (cI, 672, .inl u.2.2.2.2.2.2))])) (yac, ynx, Fno, Fby, Flo, Fhi, Fro) hx hb hr hlocks rfl hQ hK hP hD hS ⟨by decide, by decide⟩ dX4_day_13 (show ByOk Fby ∧ (0 ≤ yac.toInt ∧ yac.toInt ≤ 14) ∧ (0 ≤ ynx.toInt ∧ ynx.toInt ≤ 13) from ⟨hBy, by omega, by omega⟩)

set_option maxHeartbeats 600000 in
set_option maxRecDepth 100000 in
theorem c_X4_give (l : Launch) (D : va_G) (cI cZ cM : ClassId) (h0 : Nat) (n : Int32) (k : Int32) (ype : Int32) (ytk : Int32) (ywi : Nat) (yki : Nat) (yse : Nat) (yno : Nat) (yrh : Nat) (yrw : Nat) (yrk : Nat) (yrt : Nat) (yrp : Int32) (yrq : Int32) (ytx : Nat) (yle : Int32) (yat : Int32) (yfa : Int32) (yby : Nat) (ylo : Nat) (yhi : Nat) (yac : Int32) (ynx : Int32) (yro : Nat) (ygl : Nat) (ysn : Int32) (yso : Nat) (ysp : Nat) (ysw : Nat) (ysd : Int64) (yik : Nat) (ykp : Nat) (Fno : Nat → Int32) (Fro : Nat → Int32) (sz : Nat) (h_yac : 0 ≤ yac.toInt ∧ yac.toInt ≤ 14) (h_ynx : 0 ≤ ynx.toInt ∧ ynx.toInt ≤ 13) (h_ype : 0 ≤ ype.toInt ∧ ype.toInt ≤ 5) (h_ytk : 0 ≤ ytk.toInt ∧ ytk.toInt ≤ 6) : Ci l yX4_give wsX4_give ({ frames := 2, cells := 0, slots := 0, locals := 46 } : Room) D cI cZ cM [.ref h0, .int n, .int k] [(h0, .inr (4, [.int ype, .int ytk, .ref ywi, .ref yki, .ref yse, .ref yno, .ref yrh, .ref yrw, .ref yrk, .ref yrt, .int yrp, .int yrq, .ref ytx, .int yle, .int yat, .int yfa, .ref yby, .ref ylo, .ref yhi, .int yac, .int ynx, .ref yro, .ref ygl, .int ysn, .ref yso, .ref ysp, .ref ysw, .long ysd, .ref yik, .ref ykp])), (yno, .inl (cI, 96, .inl Fno)), (yro, .inl (cI, 672, .inl Fro))] sz (fun (r : Int32) (u : Int32 × Int32 × (Nat → Int32) × (Nat → Int32)) => (0 ≤ u.1.toInt ∧ u.1.toInt ≤ 14) ∧ (0 ≤ u.2.1.toInt ∧ u.2.1.toInt ≤ 13)) (fun u => [(h0, .inr (4, [.int ype, .int ytk, .ref ywi, .ref yki, .ref yse, .ref yno, .ref yrh, .ref yrw, .ref yrk, .ref yrt, .int yrp, .int yrq, .ref ytx, .int yle, .int yat, .int yfa, .ref yby, .ref ylo, .ref yhi, .int u.1, .int u.2.1, .ref yro, .ref ygl, .int ysn, .ref yso, .ref ysp, .ref ysw, .long ysd, .ref yik, .ref ykp])), (yno, .inl (cI, 96, .inl u.2.2.1)), (yro, .inl (cI, 672, .inl u.2.2.2))]) 0 0 := by
  refine begins (l := l) (y := yX4_give) (ws := wsX4_give) (av := [.ref h0, .int n, .int k]) (Qc := fun A => va_Qi (fun (r : Int32) (u : Int32 × Int32 × (Nat → Int32) × (Nat → Int32)) => (0 ≤ u.1.toInt ∧ u.1.toInt ≤ 14) ∧ (0 ≤ u.2.1.toInt ∧ u.2.1.toInt ≤ 13)) (fun u => Wd D cI cZ cM A ((fun u => [(h0, .inr (4, [.int ype, .int ytk, .ref ywi, .ref yki, .ref yse, .ref yno, .ref yrh, .ref yrw, .ref yrk, .ref yrt, .int yrp, .int yrq, .ref ytx, .int yle, .int yat, .int yfa, .ref yby, .ref ylo, .ref yhi, .int u.1, .int u.2.1, .ref yro, .ref ygl, .int ysn, .ref yso, .ref ysp, .ref ysw, .long ysd, .ref yik, .ref ykp])), (yno, .inl (cI, 96, .inl u.2.2.1)), (yro, .inl (cI, 672, .inl u.2.2.2))]) u)) A) cX4_give 4 (some .int) (by decide) rfl (Nat.le_of_ble_eq_true rfl) ?_
  intro p e s m args below meth c R Q A ls hBd hR hQ hA hS hK hP hD hl
  obtain ⟨hx, hb, hr, hts, hown, hlocks, hin, hml⟩ := hBd
  have hl : lv_has ls 4 [(0, .ref h0), (1, .int n), (2, .int k)] := hl
  have iX4 : ∀ w ∈ wsX40, w ∈ wsX4_give := fun _ h => List.mem_cons_of_mem _ (List.mem_append_right _ h)
  obtain ⟨h_yaca, h_yacb⟩ := h_yac
  obtain ⟨h_ynxa, h_ynxb⟩ := h_ynx
  obtain ⟨h_ypea, h_ypeb⟩ := h_ype
  obtain ⟨h_ytka, h_ytkb⟩ := h_ytk
  refine lv_aload_n hx hb dX4_give_0 rfl (lv_at hl 0 rfl) ?_
  refine lv_iload_n hx hb dX4_give_1 rfl (lv_at hl 1 rfl) ?_
  refine cV_i (As := [.int n]) (rest := []) ⟨hx, hb, hml, hown, hts⟩ (c_X4_isTicket l D cI cZ cM h0 n ype ytk ywi yki yse yno yrh yrw yrk yrt yrp yrq ytx yle yat yfa yby ylo yhi yac ynx yro ygl ysn yso ysp ysw ysd yik ykp _ (show 0 ≤ ytk.toInt ∧ ytk.toInt ≤ 6 by omega)) (cwV 1 hts gX4_give_X4_isTicket rfl rfl rfl (by decide +kernel) ⟨by rw [hR]; decide, by rw [hR]; decide⟩) hK hP hD hS hA [0] [1, 2] rfl rfl (by decide) (by decide) (by decide) rfl 0 rfl hl.1 rfl rfl (Nat.le_of_ble_eq_true rfl) dX4_give_2 ⟨by rw [hR]; decide, by rw [hR]; decide⟩ (fun r_1 u_2 H locs hw hP hD hS => ?_)
  have hP : va_P D vwCl [(h0, .inr (4, [.int ype, .int ytk, .ref ywi, .ref yki, .ref yse, .ref yno, .ref yrh, .ref yrw, .ref yrk, .ref yrt, .int yrp, .int yrq, .ref ytx, .int yle, .int yat, .int yfa, .ref yby, .ref ylo, .ref yhi, .int yac, .int ynx, .ref yro, .ref ygl, .int ysn, .ref yso, .ref ysp, .ref ysw, .long ysd, .ref yik, .ref ykp])), (yno, .inl (cI, 96, .inl Fno)), (yro, .inl (cI, 672, .inl Fro))] H := hP.sub [2, 0, 1] rfl
  have hD : va_D A [(h0, .inr (4, [.int ype, .int ytk, .ref ywi, .ref yki, .ref yse, .ref yno, .ref yrh, .ref yrw, .ref yrk, .ref yrt, .int yrp, .int yrq, .ref ytx, .int yle, .int yat, .int yfa, .ref yby, .ref ylo, .ref yhi, .int yac, .int ynx, .ref yro, .ref ygl, .int ysn, .ref yso, .ref ysp, .ref ysw, .long ysd, .ref yik, .ref ykp])), (yno, .inl (cI, 96, .inl Fno)), (yro, .inl (cI, 672, .inl Fro))] := hD.sub [2, 0, 1] (by decide) rfl
  refine W.widen (k := 0) (n := 0) (Nat.le_refl _) (Nat.le_refl _) ?_
  have hw : (r_1.toInt = 1 ∧ 0 ≤ n.toInt ∧ n.toInt < ytk.toInt) ∨ (r_1.toInt = 0 ∧ (n.toInt < 0 ∨ ytk.toInt ≤ n.toInt)) := hw
  have hw_3 := hw
  refine lv_if_eq (tgt := 16) hx hb dX4_give_5 (by decide) (fun c_4 => ?_) (fun c_4 => ?_)
  · have tc_4 := b_eq rfl (show (0 : Int32).toInt = 0 by decide) c_4
    refine lv_iconst (v := (-1)) hx hb dX4_give_16 (by decide) ?_
    exact ret_i (post := (fun (r : Int32) (u : Int32 × Int32 × (Nat → Int32) × (Nat → Int32)) => (0 ≤ u.1.toInt ∧ u.1.toInt ≤ 14) ∧ (0 ≤ u.2.1.toInt ∧ u.2.1.toInt ≤ 13))) (W1 := (fun u => [(h0, .inr (4, [.int ype, .int ytk, .ref ywi, .ref yki, .ref yse, .ref yno, .ref yrh, .ref yrw, .ref yrk, .ref yrt, .int yrp, .int yrq, .ref ytx, .int yle, .int yat, .int yfa, .ref yby, .ref ylo, .ref yhi, .int u.1, .int u.2.1, .ref yro, .ref ygl, .int ysn, .ref yso, .ref ysp, .ref ysw, .long ysd, .ref yik, .ref ykp])), (yno, .inl (cI, 96, .inl u.2.2.1)), (yro, .inl (cI, 672, .inl u.2.2.2))])) (yac, ynx, Fno, Fro) hx hb hr hlocks rfl hQ hK hP hD hS ⟨by decide, by decide⟩ dX4_give_17 (show (0 ≤ yac.toInt ∧ yac.toInt ≤ 14) ∧ (0 ≤ ynx.toInt ∧ ynx.toInt ≤ 13) by omega)
  · have tc_4 := b_ne rfl (show (0 : Int32).toInt = 0 by decide) c_4
    refine lv_aload_n hx hb dX4_give_8 rfl (lv_at hl 0 rfl) ?_
    refine lv_iload_n hx hb dX4_give_9 rfl (lv_at hl 2 rfl) ?_
    refine cV_i (As := [.int k]) (rest := []) ⟨hx, hb, hml, hown, hts⟩ (c_X4_isPerson l D cI cZ cM h0 k ype ytk ywi yki yse yno yrh yrw yrk yrt yrp yrq ytx yle yat yfa yby ylo yhi yac ynx yro ygl ysn yso ysp ysw ysd yik ykp _ (show 0 ≤ ype.toInt ∧ ype.toInt ≤ 6 by omega)) (cwV 1 hts gX4_give_X4_isPerson rfl rfl rfl (by decide +kernel) ⟨by rw [hR]; decide, by rw [hR]; decide⟩) hK hP hD hS hA [0] [1, 2] rfl rfl (by decide) (by decide) (by decide) rfl 0 rfl hl.1 rfl rfl (Nat.le_of_ble_eq_true rfl) dX4_give_10 ⟨by rw [hR]; decide, by rw [hR]; decide⟩ (fun r_5 u_6 H locs hw hP hD hS => ?_)
    have hP : va_P D vwCl [(h0, .inr (4, [.int ype, .int ytk, .ref ywi, .ref yki, .ref yse, .ref yno, .ref yrh, .ref yrw, .ref yrk, .ref yrt, .int yrp, .int yrq, .ref ytx, .int yle, .int yat, .int yfa, .ref yby, .ref ylo, .ref yhi, .int yac, .int ynx, .ref yro, .ref ygl, .int ysn, .ref yso, .ref ysp, .ref ysw, .long ysd, .ref yik, .ref ykp])), (yno, .inl (cI, 96, .inl Fno)), (yro, .inl (cI, 672, .inl Fro))] H := hP.sub [2, 0, 1] rfl
    have hD : va_D A [(h0, .inr (4, [.int ype, .int ytk, .ref ywi, .ref yki, .ref yse, .ref yno, .ref yrh, .ref yrw, .ref yrk, .ref yrt, .int yrp, .int yrq, .ref ytx, .int yle, .int yat, .int yfa, .ref yby, .ref ylo, .ref yhi, .int yac, .int ynx, .ref yro, .ref ygl, .int ysn, .ref yso, .ref ysp, .ref ysw, .long ysd, .ref yik, .ref ykp])), (yno, .inl (cI, 96, .inl Fno)), (yro, .inl (cI, 672, .inl Fro))] := hD.sub [2, 0, 1] (by decide) rfl
    refine W.widen (k := 0) (n := 0) (Nat.le_refl _) (Nat.le_refl _) ?_
    have hw : (r_5.toInt = 1 ∧ 0 ≤ k.toInt ∧ k.toInt < ype.toInt) ∨ (r_5.toInt = 0 ∧ (k.toInt < 0 ∨ ype.toInt ≤ k.toInt)) := hw
    have hw_7 := hw
    refine lv_if_ne (tgt := 18) hx hb dX4_give_13 (by decide) (fun c_8 => ?_) (fun c_8 => ?_)
    · have tc_8 := b_ne rfl (show (0 : Int32).toInt = 0 by decide) c_8
      have hn1 : 0 ≤ n.toInt := by omega
      have hn2 : n.toInt ≤ 5 := by omega
      have hk1 : 0 ≤ k.toInt := by omega
      have hk2 : k.toInt ≤ 4 := by omega
      refine lv_aload_n hx hb dX4_give_18 rfl (lv_at hl 0 rfl) ?_
      refine lv_iload_n hx hb dX4_give_19 rfl (lv_at hl 1 rfl) ?_
      refine cV_i (As := [.int n]) (rest := []) ⟨hx, hb, hml, hown, hts⟩ (c_X4_isGone l D cI cZ cM h0 n ype ytk ywi yki yse yno yrh yrw yrk yrt yrp yrq ytx yle yat yfa yby ylo yhi yac ynx yro ygl ysn yso ysp ysw ysd yik ykp Fno _ (show 0 ≤ n.toInt ∧ n.toInt ≤ 6 by omega)) (cwV 1 hts gX4_give_X4_isGone rfl rfl rfl (by decide +kernel) ⟨by rw [hR]; decide, by rw [hR]; decide⟩) hK hP hD hS hA [0, 1] [2] rfl rfl (by decide) (by decide) (by decide) rfl 0 rfl hl.1 rfl rfl (Nat.le_of_ble_eq_true rfl) dX4_give_20 ⟨by rw [hR]; decide, by rw [hR]; decide⟩ (fun r_9 u_10 H locs hw hP hD hS => ?_)
      have hP : va_P D vwCl [(h0, .inr (4, [.int ype, .int ytk, .ref ywi, .ref yki, .ref yse, .ref yno, .ref yrh, .ref yrw, .ref yrk, .ref yrt, .int yrp, .int yrq, .ref ytx, .int yle, .int yat, .int yfa, .ref yby, .ref ylo, .ref yhi, .int yac, .int ynx, .ref yro, .ref ygl, .int ysn, .ref yso, .ref ysp, .ref ysw, .long ysd, .ref yik, .ref ykp])), (yno, .inl (cI, 96, .inl Fno)), (yro, .inl (cI, 672, .inl Fro))] H := hP.sub [1, 2, 0] rfl
      have hD : va_D A [(h0, .inr (4, [.int ype, .int ytk, .ref ywi, .ref yki, .ref yse, .ref yno, .ref yrh, .ref yrw, .ref yrk, .ref yrt, .int yrp, .int yrq, .ref ytx, .int yle, .int yat, .int yfa, .ref yby, .ref ylo, .ref yhi, .int yac, .int ynx, .ref yro, .ref ygl, .int ysn, .ref yso, .ref ysp, .ref ysw, .long ysd, .ref yik, .ref ykp])), (yno, .inl (cI, 96, .inl Fno)), (yro, .inl (cI, 672, .inl Fro))] := hD.sub [1, 2, 0] (by decide) rfl
      refine W.widen (k := 0) (n := 0) (Nat.le_refl _) (Nat.le_refl _) ?_
      have hw : (r_9.toInt = 0 ∨ r_9.toInt = 1) := hw
      have hw_11 := hw
      refine lv_if_ne (tgt := 35) hx hb dX4_give_23 (by decide) (fun c_12 => ?_) (fun c_12 => ?_)
      · have tc_12 := b_ne rfl (show (0 : Int32).toInt = 0 by decide) c_12
        refine lv_bipush (v := (-3)) hx hb dX4_give_35 (by decide) ?_
        exact ret_i (post := (fun (r : Int32) (u : Int32 × Int32 × (Nat → Int32) × (Nat → Int32)) => (0 ≤ u.1.toInt ∧ u.1.toInt ≤ 14) ∧ (0 ≤ u.2.1.toInt ∧ u.2.1.toInt ≤ 13))) (W1 := (fun u => [(h0, .inr (4, [.int ype, .int ytk, .ref ywi, .ref yki, .ref yse, .ref yno, .ref yrh, .ref yrw, .ref yrk, .ref yrt, .int yrp, .int yrq, .ref ytx, .int yle, .int yat, .int yfa, .ref yby, .ref ylo, .ref yhi, .int u.1, .int u.2.1, .ref yro, .ref ygl, .int ysn, .ref yso, .ref ysp, .ref ysw, .long ysd, .ref yik, .ref ykp])), (yno, .inl (cI, 96, .inl u.2.2.1)), (yro, .inl (cI, 672, .inl u.2.2.2))])) (yac, ynx, Fno, Fro) hx hb hr hlocks rfl hQ hK hP hD hS ⟨by decide, by decide⟩ dX4_give_37 (show (0 ≤ yac.toInt ∧ yac.toInt ≤ 14) ∧ (0 ≤ ynx.toInt ∧ ynx.toInt ≤ 13) by omega)
      · have tc_12 := b_eq rfl (show (0 : Int32).toInt = 0 by decide) c_12
        refine lv_aload_n hx hb dX4_give_26 rfl (lv_at hl 0 rfl) ?_
        refine lv_iload_n hx hb dX4_give_27 rfl (lv_at hl 1 rfl) ?_
        refine cV_i (As := [.int n]) (rest := []) ⟨hx, hb, hml, hown, hts⟩ (c_X4_holder l D cI cZ cM h0 n ype ytk ywi yki yse yno yrh yrw yrk yrt yrp yrq ytx yle yat yfa yby ylo yhi yac ynx yro ygl ysn yso ysp ysw ysd yik ykp Fno _ (show 0 ≤ n.toInt ∧ n.toInt ≤ 6 by omega)) (cwV 1 hts gX4_give_X4_holder rfl rfl rfl (by decide +kernel) ⟨by rw [hR]; decide, by rw [hR]; decide⟩) hK hP hD hS hA [0, 1] [2] rfl rfl (by decide) (by decide) (by decide) rfl 0 rfl hl.1 rfl rfl (Nat.le_of_ble_eq_true rfl) dX4_give_28 ⟨by rw [hR]; decide, by rw [hR]; decide⟩ (fun r_13 u_14 H locs hw hP hD hS => ?_)
        have hP : va_P D vwCl [(h0, .inr (4, [.int ype, .int ytk, .ref ywi, .ref yki, .ref yse, .ref yno, .ref yrh, .ref yrw, .ref yrk, .ref yrt, .int yrp, .int yrq, .ref ytx, .int yle, .int yat, .int yfa, .ref yby, .ref ylo, .ref yhi, .int yac, .int ynx, .ref yro, .ref ygl, .int ysn, .ref yso, .ref ysp, .ref ysw, .long ysd, .ref yik, .ref ykp])), (yno, .inl (cI, 96, .inl Fno)), (yro, .inl (cI, 672, .inl Fro))] H := hP.sub [1, 2, 0] rfl
        have hD : va_D A [(h0, .inr (4, [.int ype, .int ytk, .ref ywi, .ref yki, .ref yse, .ref yno, .ref yrh, .ref yrw, .ref yrk, .ref yrt, .int yrp, .int yrq, .ref ytx, .int yle, .int yat, .int yfa, .ref yby, .ref ylo, .ref yhi, .int yac, .int ynx, .ref yro, .ref ygl, .int ysn, .ref yso, .ref ysp, .ref ysw, .long ysd, .ref yik, .ref ykp])), (yno, .inl (cI, 96, .inl Fno)), (yro, .inl (cI, 672, .inl Fro))] := hD.sub [1, 2, 0] (by decide) rfl
        refine W.widen (k := 0) (n := 0) (Nat.le_refl _) (Nat.le_refl _) ?_
        refine lv_iload_n hx hb dX4_give_31 rfl (lv_at hl 2 rfl) ?_
        refine lv_icmp_ne (tgt := 38) hx hb dX4_give_32 (by decide) (fun c_15 => ?_) (fun c_15 => ?_)
        · have tc_15 := b_ne rfl rfl c_15
          refine lv_aload_n hx hb dX4_give_38 rfl (lv_at hl 0 rfl) ?_
          refine cV_v (As := []) (rest := []) ⟨hx, hb, hml, hown, hts⟩ (c_X4_keepAct l D cI cZ cM h0 ype ytk ywi yki yse yno yrh yrw yrk yrt yrp yrq ytx yle yat yfa yby ylo yhi yac ynx yro ygl ysn yso ysp ysw ysd yik ykp Fno Fro _ (show 0 ≤ yac.toInt ∧ yac.toInt ≤ 14 by omega) (show 0 ≤ ynx.toInt ∧ ynx.toInt ≤ 13 by omega)) (cwV 0 hts gX4_give_X4_keepAct rfl rfl rfl (by decide +kernel) ⟨by rw [hR]; decide, by rw [hR]; decide⟩) hK hP hD hS hA [0, 1, 2] [] rfl rfl (by decide) (by decide) (by decide) rfl 0 rfl hl.1 rfl rfl (Nat.le_of_ble_eq_true rfl) dX4_give_39 ⟨by rw [hR]; decide, by rw [hR]; decide⟩ (fun u_20 H locs hw hP hD hS => ?_)
          obtain ⟨ac1_16, nx1_17, Gro_18⟩ := u_20
          have hP : va_P D vwCl [(h0, .inr (4, [.int ype, .int ytk, .ref ywi, .ref yki, .ref yse, .ref yno, .ref yrh, .ref yrw, .ref yrk, .ref yrt, .int yrp, .int yrq, .ref ytx, .int yle, .int yat, .int yfa, .ref yby, .ref ylo, .ref yhi, .int ac1_16, .int nx1_17, .ref yro, .ref ygl, .int ysn, .ref yso, .ref ysp, .ref ysw, .long ysd, .ref yik, .ref ykp])), (yno, .inl (cI, 96, .inl Fno)), (yro, .inl (cI, 672, .inl Gro_18))] H := hP.sub [0, 1, 2] rfl
          have hD : va_D A [(h0, .inr (4, [.int ype, .int ytk, .ref ywi, .ref yki, .ref yse, .ref yno, .ref yrh, .ref yrw, .ref yrk, .ref yrt, .int yrp, .int yrq, .ref ytx, .int yle, .int yat, .int yfa, .ref yby, .ref ylo, .ref yhi, .int ac1_16, .int nx1_17, .ref yro, .ref ygl, .int ysn, .ref yso, .ref ysp, .ref ysw, .long ysd, .ref yik, .ref ykp])), (yno, .inl (cI, 96, .inl Fno)), (yro, .inl (cI, 672, .inl Gro_18))] := hD.sub [0, 1, 2] (by decide) rfl
          refine W.widen (k := 0) (n := 0) (Nat.le_refl _) (Nat.le_refl _) ?_
          have hw : (0 ≤ ac1_16.toInt ∧ ac1_16.toInt ≤ 14) ∧ (0 ≤ nx1_17.toInt ∧ nx1_17.toInt ≤ 13) := hw
          have hw_21 := hw
          refine lv_aload_n hx hb dX4_give_42 rfl (lv_at hl 0 rfl) ?_
          refine lv_iload_n hx hb dX4_give_43 rfl (lv_at hl 1 rfl) ?_
          refine cV_i (As := [.int n]) (rest := []) ⟨hx, hb, hml, hown, hts⟩ (c_X4_holder l D cI cZ cM h0 n ype ytk ywi yki yse yno yrh yrw yrk yrt yrp yrq ytx yle yat yfa yby ylo yhi ac1_16 nx1_17 yro ygl ysn yso ysp ysw ysd yik ykp Fno _ (show 0 ≤ n.toInt ∧ n.toInt ≤ 6 by omega)) (cwV 1 hts gX4_give_X4_holder rfl rfl rfl (by decide +kernel) ⟨by rw [hR]; decide, by rw [hR]; decide⟩) hK hP hD hS hA [0, 1] [2] rfl rfl (by decide) (by decide) (by decide) rfl 0 rfl hl.1 rfl rfl (Nat.le_of_ble_eq_true rfl) dX4_give_44 ⟨by rw [hR]; decide, by rw [hR]; decide⟩ (fun r_22 u_23 H locs hw hP hD hS => ?_)
          have hP : va_P D vwCl [(h0, .inr (4, [.int ype, .int ytk, .ref ywi, .ref yki, .ref yse, .ref yno, .ref yrh, .ref yrw, .ref yrk, .ref yrt, .int yrp, .int yrq, .ref ytx, .int yle, .int yat, .int yfa, .ref yby, .ref ylo, .ref yhi, .int ac1_16, .int nx1_17, .ref yro, .ref ygl, .int ysn, .ref yso, .ref ysp, .ref ysw, .long ysd, .ref yik, .ref ykp])), (yno, .inl (cI, 96, .inl Fno)), (yro, .inl (cI, 672, .inl Gro_18))] H := hP.sub [1, 2, 0] rfl
          have hD : va_D A [(h0, .inr (4, [.int ype, .int ytk, .ref ywi, .ref yki, .ref yse, .ref yno, .ref yrh, .ref yrw, .ref yrk, .ref yrt, .int yrp, .int yrq, .ref ytx, .int yle, .int yat, .int yfa, .ref yby, .ref ylo, .ref yhi, .int ac1_16, .int nx1_17, .ref yro, .ref ygl, .int ysn, .ref yso, .ref ysp, .ref ysw, .long ysd, .ref yik, .ref ykp])), (yno, .inl (cI, 96, .inl Fno)), (yro, .inl (cI, 672, .inl Gro_18))] := hD.sub [1, 2, 0] (by decide) rfl
          refine W.widen (k := 0) (n := 0) (Nat.le_refl _) (Nat.le_refl _) ?_
          refine lv_istore_n (lv' := [(3, .int r_22), (0, .ref h0), (1, .int n), (2, .int k)]) hx hb dX4_give_47 rfl hl (by decide) rfl (fun ls hl => ?_)
          refine lv_aload_n hx hb dX4_give_48 rfl (lv_at hl 1 rfl) ?_
          refine va_get (D := D) (ci := 4) (v := .ref yno) (C := RX4) (T := TX4) (N := 30) hx hb hts iX4 hown hK hP 0 rfl rfl 5 (by decide) (hts (.fieldLink RX4 19 "PunchedTicketModel" "now" "[I") (List.mem_of_getElem? (i := 1) rfl)) (fun _ h9 => h9) rfl dX4_give_49 ?_
          refine lv_bipush (v := 6) hx hb dX4_give_52 (by decide) ?_
          refine lv_bipush (v := 6) hx hb dX4_give_54 (by decide) ?_
          refine lv_iload_n hx hb dX4_give_56 rfl (lv_at hl 2 rfl) ?_
          refine lv_imul hx hb dX4_give_57 ?_
          refine lv_topi (fun v_24 ev_24 => ?_)
          have tv_24 : v_24.toInt = (6 : Int) * n.toInt := by rw [ev_24]; exact ti_mul (x := 6) (y := n) (show -2147483648 ≤ (6 : Int) * n.toInt by omega) (show (6 : Int) * n.toInt < 2147483648 by omega)
          refine lv_iadd hx hb dX4_give_58 ?_
          refine lv_topi (fun v_25 ev_25 => ?_)
          have tv_25 : v_25.toInt = (6 : Int) + v_24.toInt := by rw [ev_25]; exact ti_add (x := 6) (y := v_24) (show -2147483648 ≤ (6 : Int) + v_24.toInt by omega) (show (6 : Int) + v_24.toInt < 2147483648 by omega)
          refine lv_iconst (v := 3) hx hb dX4_give_59 (by decide) ?_
          refine lv_iadd hx hb dX4_give_60 ?_
          refine lv_topi (fun v_26 ev_26 => ?_)
          have tv_26 : v_26.toInt = v_25.toInt + (3 : Int) := by rw [ev_26]; exact ti_add (x := v_25) (y := 3) (show -2147483648 ≤ v_25.toInt + (3 : Int) by omega) (show v_25.toInt + (3 : Int) < 2147483648 by omega)
          refine lv_iload_n hx hb dX4_give_61 rfl (lv_at hl 3 rfl) ?_
          refine va_iast hx hb hK hP hD hS 1 0 rfl rfl (vp_in_iff.mpr ⟨by omega, by omega⟩) dX4_give_62 (fun H locs hP hD hS => ?_)
          obtain ⟨f_27, ef_27⟩ : ∃ g : Nat → Int32, upd Fno (v_26 : Int32).toNatClampNeg k = g := ⟨_, rfl⟩
          rw [ef_27] at hP hD
          have hP : va_P D vwCl [(h0, .inr (4, [.int ype, .int ytk, .ref ywi, .ref yki, .ref yse, .ref yno, .ref yrh, .ref yrw, .ref yrk, .ref yrt, .int yrp, .int yrq, .ref ytx, .int yle, .int yat, .int yfa, .ref yby, .ref ylo, .ref yhi, .int ac1_16, .int nx1_17, .ref yro, .ref ygl, .int ysn, .ref yso, .ref ysp, .ref ysw, .long ysd, .ref yik, .ref ykp])), (yno, .inl (cI, 96, .inl f_27)), (yro, .inl (cI, 672, .inl Gro_18))] H := hP
          have hD : va_D A [(h0, .inr (4, [.int ype, .int ytk, .ref ywi, .ref yki, .ref yse, .ref yno, .ref yrh, .ref yrw, .ref yrk, .ref yrt, .int yrp, .int yrq, .ref ytx, .int yle, .int yat, .int yfa, .ref yby, .ref ylo, .ref yhi, .int ac1_16, .int nx1_17, .ref yro, .ref ygl, .int ysn, .ref yso, .ref ysp, .ref ysw, .long ysd, .ref yik, .ref ykp])), (yno, .inl (cI, 96, .inl f_27)), (yro, .inl (cI, 672, .inl Gro_18))] := hD
          refine lv_iload_n hx hb dX4_give_63 rfl (lv_at hl 0 rfl) ?_
          exact ret_i (post := (fun (r : Int32) (u : Int32 × Int32 × (Nat → Int32) × (Nat → Int32)) => (0 ≤ u.1.toInt ∧ u.1.toInt ≤ 14) ∧ (0 ≤ u.2.1.toInt ∧ u.2.1.toInt ≤ 13))) (W1 := (fun u => [(h0, .inr (4, [.int ype, .int ytk, .ref ywi, .ref yki, .ref yse, .ref yno, .ref yrh, .ref yrw, .ref yrk, .ref yrt, .int yrp, .int yrq, .ref ytx, .int yle, .int yat, .int yfa, .ref yby, .ref ylo, .ref yhi, .int u.1, .int u.2.1, .ref yro, .ref ygl, .int ysn, .ref yso, .ref ysp, .ref ysw, .long ysd, .ref yik, .ref ykp])), (yno, .inl (cI, 96, .inl u.2.2.1)), (yro, .inl (cI, 672, .inl u.2.2.2))])) (ac1_16, nx1_17, f_27, Gro_18) hx hb hr hlocks rfl hQ hK hP hD hS ⟨by decide, by decide⟩ dX4_give_64 (show (0 ≤ ac1_16.toInt ∧ ac1_16.toInt ≤ 14) ∧ (0 ≤ nx1_17.toInt ∧ nx1_17.toInt ≤ 13) by omega)
        · have tc_15 := b_eq rfl rfl c_15
          refine lv_bipush (v := (-3)) hx hb dX4_give_35 (by decide) ?_
          exact ret_i (post := (fun (r : Int32) (u : Int32 × Int32 × (Nat → Int32) × (Nat → Int32)) => (0 ≤ u.1.toInt ∧ u.1.toInt ≤ 14) ∧ (0 ≤ u.2.1.toInt ∧ u.2.1.toInt ≤ 13))) (W1 := (fun u => [(h0, .inr (4, [.int ype, .int ytk, .ref ywi, .ref yki, .ref yse, .ref yno, .ref yrh, .ref yrw, .ref yrk, .ref yrt, .int yrp, .int yrq, .ref ytx, .int yle, .int yat, .int yfa, .ref yby, .ref ylo, .ref yhi, .int u.1, .int u.2.1, .ref yro, .ref ygl, .int ysn, .ref yso, .ref ysp, .ref ysw, .long ysd, .ref yik, .ref ykp])), (yno, .inl (cI, 96, .inl u.2.2.1)), (yro, .inl (cI, 672, .inl u.2.2.2))])) (yac, ynx, Fno, Fro) hx hb hr hlocks rfl hQ hK hP hD hS ⟨by decide, by decide⟩ dX4_give_37 (show (0 ≤ yac.toInt ∧ yac.toInt ≤ 14) ∧ (0 ≤ ynx.toInt ∧ ynx.toInt ≤ 13) by omega)
    · have tc_8 := b_eq rfl (show (0 : Int32).toInt = 0 by decide) c_8
      refine lv_iconst (v := (-1)) hx hb dX4_give_16 (by decide) ?_
      exact ret_i (post := (fun (r : Int32) (u : Int32 × Int32 × (Nat → Int32) × (Nat → Int32)) => (0 ≤ u.1.toInt ∧ u.1.toInt ≤ 14) ∧ (0 ≤ u.2.1.toInt ∧ u.2.1.toInt ≤ 13))) (W1 := (fun u => [(h0, .inr (4, [.int ype, .int ytk, .ref ywi, .ref yki, .ref yse, .ref yno, .ref yrh, .ref yrw, .ref yrk, .ref yrt, .int yrp, .int yrq, .ref ytx, .int yle, .int yat, .int yfa, .ref yby, .ref ylo, .ref yhi, .int u.1, .int u.2.1, .ref yro, .ref ygl, .int ysn, .ref yso, .ref ysp, .ref ysw, .long ysd, .ref yik, .ref ykp])), (yno, .inl (cI, 96, .inl u.2.2.1)), (yro, .inl (cI, 672, .inl u.2.2.2))])) (yac, ynx, Fno, Fro) hx hb hr hlocks rfl hQ hK hP hD hS ⟨by decide, by decide⟩ dX4_give_17 (show (0 ≤ yac.toInt ∧ yac.toInt ≤ 14) ∧ (0 ≤ ynx.toInt ∧ ynx.toInt ≤ 13) by omega)

set_option maxHeartbeats 600000 in
set_option maxRecDepth 100000 in
theorem c_X4_lose (l : Launch) (D : va_G) (cI cZ cM : ClassId) (h0 : Nat) (n : Int32) (ype : Int32) (ytk : Int32) (ywi : Nat) (yki : Nat) (yse : Nat) (yno : Nat) (yrh : Nat) (yrw : Nat) (yrk : Nat) (yrt : Nat) (yrp : Int32) (yrq : Int32) (ytx : Nat) (yle : Int32) (yat : Int32) (yfa : Int32) (yby : Nat) (ylo : Nat) (yhi : Nat) (yac : Int32) (ynx : Int32) (yro : Nat) (ygl : Nat) (ysn : Int32) (yso : Nat) (ysp : Nat) (ysw : Nat) (ysd : Int64) (yik : Nat) (ykp : Nat) (Fno : Nat → Int32) (Fro : Nat → Int32) (sz : Nat) (h_yac : 0 ≤ yac.toInt ∧ yac.toInt ≤ 14) (h_ynx : 0 ≤ ynx.toInt ∧ ynx.toInt ≤ 13) (h_ype : 0 ≤ ype.toInt ∧ ype.toInt ≤ 5) (h_ytk : 0 ≤ ytk.toInt ∧ ytk.toInt ≤ 6) : Ci l yX4_lose wsX4_lose ({ frames := 2, cells := 0, slots := 0, locals := 46 } : Room) D cI cZ cM [.ref h0, .int n] [(h0, .inr (4, [.int ype, .int ytk, .ref ywi, .ref yki, .ref yse, .ref yno, .ref yrh, .ref yrw, .ref yrk, .ref yrt, .int yrp, .int yrq, .ref ytx, .int yle, .int yat, .int yfa, .ref yby, .ref ylo, .ref yhi, .int yac, .int ynx, .ref yro, .ref ygl, .int ysn, .ref yso, .ref ysp, .ref ysw, .long ysd, .ref yik, .ref ykp])), (yno, .inl (cI, 96, .inl Fno)), (yro, .inl (cI, 672, .inl Fro))] sz (fun (r : Int32) (u : Int32 × Int32 × (Nat → Int32) × (Nat → Int32)) => (0 ≤ u.1.toInt ∧ u.1.toInt ≤ 14) ∧ (0 ≤ u.2.1.toInt ∧ u.2.1.toInt ≤ 13)) (fun u => [(h0, .inr (4, [.int ype, .int ytk, .ref ywi, .ref yki, .ref yse, .ref yno, .ref yrh, .ref yrw, .ref yrk, .ref yrt, .int yrp, .int yrq, .ref ytx, .int yle, .int yat, .int yfa, .ref yby, .ref ylo, .ref yhi, .int u.1, .int u.2.1, .ref yro, .ref ygl, .int ysn, .ref yso, .ref ysp, .ref ysw, .long ysd, .ref yik, .ref ykp])), (yno, .inl (cI, 96, .inl u.2.2.1)), (yro, .inl (cI, 672, .inl u.2.2.2))]) 0 0 := by
  refine begins (l := l) (y := yX4_lose) (ws := wsX4_lose) (av := [.ref h0, .int n]) (Qc := fun A => va_Qi (fun (r : Int32) (u : Int32 × Int32 × (Nat → Int32) × (Nat → Int32)) => (0 ≤ u.1.toInt ∧ u.1.toInt ≤ 14) ∧ (0 ≤ u.2.1.toInt ∧ u.2.1.toInt ≤ 13)) (fun u => Wd D cI cZ cM A ((fun u => [(h0, .inr (4, [.int ype, .int ytk, .ref ywi, .ref yki, .ref yse, .ref yno, .ref yrh, .ref yrw, .ref yrk, .ref yrt, .int yrp, .int yrq, .ref ytx, .int yle, .int yat, .int yfa, .ref yby, .ref ylo, .ref yhi, .int u.1, .int u.2.1, .ref yro, .ref ygl, .int ysn, .ref yso, .ref ysp, .ref ysw, .long ysd, .ref yik, .ref ykp])), (yno, .inl (cI, 96, .inl u.2.2.1)), (yro, .inl (cI, 672, .inl u.2.2.2))]) u)) A) cX4_lose 2 (some .int) (by decide) rfl (Nat.le_of_ble_eq_true rfl) ?_
  intro p e s m args below meth c R Q A ls hBd hR hQ hA hS hK hP hD hl
  obtain ⟨hx, hb, hr, hts, hown, hlocks, hin, hml⟩ := hBd
  have hl : lv_has ls 2 [(0, .ref h0), (1, .int n)] := hl
  have iX4 : ∀ w ∈ wsX40, w ∈ wsX4_lose := fun _ h => List.mem_cons_of_mem _ (List.mem_append_right _ h)
  obtain ⟨h_yaca, h_yacb⟩ := h_yac
  obtain ⟨h_ynxa, h_ynxb⟩ := h_ynx
  obtain ⟨h_ypea, h_ypeb⟩ := h_ype
  obtain ⟨h_ytka, h_ytkb⟩ := h_ytk
  refine lv_aload_n hx hb dX4_lose_0 rfl (lv_at hl 0 rfl) ?_
  refine lv_iload_n hx hb dX4_lose_1 rfl (lv_at hl 1 rfl) ?_
  refine cV_i (As := [.int n]) (rest := []) ⟨hx, hb, hml, hown, hts⟩ (c_X4_isTicket l D cI cZ cM h0 n ype ytk ywi yki yse yno yrh yrw yrk yrt yrp yrq ytx yle yat yfa yby ylo yhi yac ynx yro ygl ysn yso ysp ysw ysd yik ykp _ (show 0 ≤ ytk.toInt ∧ ytk.toInt ≤ 6 by omega)) (cwV 1 hts gX4_lose_X4_isTicket rfl rfl rfl (by decide +kernel) ⟨by rw [hR]; decide, by rw [hR]; decide⟩) hK hP hD hS hA [0] [1, 2] rfl rfl (by decide) (by decide) (by decide) rfl 0 rfl hl.1 rfl rfl (Nat.le_of_ble_eq_true rfl) dX4_lose_2 ⟨by rw [hR]; decide, by rw [hR]; decide⟩ (fun r_1 u_2 H locs hw hP hD hS => ?_)
  have hP : va_P D vwCl [(h0, .inr (4, [.int ype, .int ytk, .ref ywi, .ref yki, .ref yse, .ref yno, .ref yrh, .ref yrw, .ref yrk, .ref yrt, .int yrp, .int yrq, .ref ytx, .int yle, .int yat, .int yfa, .ref yby, .ref ylo, .ref yhi, .int yac, .int ynx, .ref yro, .ref ygl, .int ysn, .ref yso, .ref ysp, .ref ysw, .long ysd, .ref yik, .ref ykp])), (yno, .inl (cI, 96, .inl Fno)), (yro, .inl (cI, 672, .inl Fro))] H := hP.sub [2, 0, 1] rfl
  have hD : va_D A [(h0, .inr (4, [.int ype, .int ytk, .ref ywi, .ref yki, .ref yse, .ref yno, .ref yrh, .ref yrw, .ref yrk, .ref yrt, .int yrp, .int yrq, .ref ytx, .int yle, .int yat, .int yfa, .ref yby, .ref ylo, .ref yhi, .int yac, .int ynx, .ref yro, .ref ygl, .int ysn, .ref yso, .ref ysp, .ref ysw, .long ysd, .ref yik, .ref ykp])), (yno, .inl (cI, 96, .inl Fno)), (yro, .inl (cI, 672, .inl Fro))] := hD.sub [2, 0, 1] (by decide) rfl
  refine W.widen (k := 0) (n := 0) (Nat.le_refl _) (Nat.le_refl _) ?_
  have hw : (r_1.toInt = 1 ∧ 0 ≤ n.toInt ∧ n.toInt < ytk.toInt) ∨ (r_1.toInt = 0 ∧ (n.toInt < 0 ∨ ytk.toInt ≤ n.toInt)) := hw
  have hw_3 := hw
  refine lv_if_ne (tgt := 10) hx hb dX4_lose_5 (by decide) (fun c_4 => ?_) (fun c_4 => ?_)
  · have tc_4 := b_ne rfl (show (0 : Int32).toInt = 0 by decide) c_4
    have hn1 : 0 ≤ n.toInt := by omega
    have hn2 : n.toInt ≤ 5 := by omega
    refine lv_aload_n hx hb dX4_lose_10 rfl (lv_at hl 0 rfl) ?_
    refine lv_iload_n hx hb dX4_lose_11 rfl (lv_at hl 1 rfl) ?_
    refine cV_i (As := [.int n]) (rest := []) ⟨hx, hb, hml, hown, hts⟩ (c_X4_isGone l D cI cZ cM h0 n ype ytk ywi yki yse yno yrh yrw yrk yrt yrp yrq ytx yle yat yfa yby ylo yhi yac ynx yro ygl ysn yso ysp ysw ysd yik ykp Fno _ (show 0 ≤ n.toInt ∧ n.toInt ≤ 6 by omega)) (cwV 1 hts gX4_lose_X4_isGone rfl rfl rfl (by decide +kernel) ⟨by rw [hR]; decide, by rw [hR]; decide⟩) hK hP hD hS hA [0, 1] [2] rfl rfl (by decide) (by decide) (by decide) rfl 0 rfl hl.1 rfl rfl (Nat.le_of_ble_eq_true rfl) dX4_lose_12 ⟨by rw [hR]; decide, by rw [hR]; decide⟩ (fun r_5 u_6 H locs hw hP hD hS => ?_)
    have hP : va_P D vwCl [(h0, .inr (4, [.int ype, .int ytk, .ref ywi, .ref yki, .ref yse, .ref yno, .ref yrh, .ref yrw, .ref yrk, .ref yrt, .int yrp, .int yrq, .ref ytx, .int yle, .int yat, .int yfa, .ref yby, .ref ylo, .ref yhi, .int yac, .int ynx, .ref yro, .ref ygl, .int ysn, .ref yso, .ref ysp, .ref ysw, .long ysd, .ref yik, .ref ykp])), (yno, .inl (cI, 96, .inl Fno)), (yro, .inl (cI, 672, .inl Fro))] H := hP.sub [1, 2, 0] rfl
    have hD : va_D A [(h0, .inr (4, [.int ype, .int ytk, .ref ywi, .ref yki, .ref yse, .ref yno, .ref yrh, .ref yrw, .ref yrk, .ref yrt, .int yrp, .int yrq, .ref ytx, .int yle, .int yat, .int yfa, .ref yby, .ref ylo, .ref yhi, .int yac, .int ynx, .ref yro, .ref ygl, .int ysn, .ref yso, .ref ysp, .ref ysw, .long ysd, .ref yik, .ref ykp])), (yno, .inl (cI, 96, .inl Fno)), (yro, .inl (cI, 672, .inl Fro))] := hD.sub [1, 2, 0] (by decide) rfl
    refine W.widen (k := 0) (n := 0) (Nat.le_refl _) (Nat.le_refl _) ?_
    have hw : (r_5.toInt = 0 ∨ r_5.toInt = 1) := hw
    have hw_7 := hw
    refine lv_if_eq (tgt := 21) hx hb dX4_lose_15 (by decide) (fun c_8 => ?_) (fun c_8 => ?_)
    · have tc_8 := b_eq rfl (show (0 : Int32).toInt = 0 by decide) c_8
      refine lv_aload_n hx hb dX4_lose_21 rfl (lv_at hl 0 rfl) ?_
      refine cV_v (As := []) (rest := []) ⟨hx, hb, hml, hown, hts⟩ (c_X4_keepAct l D cI cZ cM h0 ype ytk ywi yki yse yno yrh yrw yrk yrt yrp yrq ytx yle yat yfa yby ylo yhi yac ynx yro ygl ysn yso ysp ysw ysd yik ykp Fno Fro _ (show 0 ≤ yac.toInt ∧ yac.toInt ≤ 14 by omega) (show 0 ≤ ynx.toInt ∧ ynx.toInt ≤ 13 by omega)) (cwV 0 hts gX4_lose_X4_keepAct rfl rfl rfl (by decide +kernel) ⟨by rw [hR]; decide, by rw [hR]; decide⟩) hK hP hD hS hA [0, 1, 2] [] rfl rfl (by decide) (by decide) (by decide) rfl 0 rfl hl.1 rfl rfl (Nat.le_of_ble_eq_true rfl) dX4_lose_22 ⟨by rw [hR]; decide, by rw [hR]; decide⟩ (fun u_13 H locs hw hP hD hS => ?_)
      obtain ⟨ac1_9, nx1_10, Gro_11⟩ := u_13
      have hP : va_P D vwCl [(h0, .inr (4, [.int ype, .int ytk, .ref ywi, .ref yki, .ref yse, .ref yno, .ref yrh, .ref yrw, .ref yrk, .ref yrt, .int yrp, .int yrq, .ref ytx, .int yle, .int yat, .int yfa, .ref yby, .ref ylo, .ref yhi, .int ac1_9, .int nx1_10, .ref yro, .ref ygl, .int ysn, .ref yso, .ref ysp, .ref ysw, .long ysd, .ref yik, .ref ykp])), (yno, .inl (cI, 96, .inl Fno)), (yro, .inl (cI, 672, .inl Gro_11))] H := hP.sub [0, 1, 2] rfl
      have hD : va_D A [(h0, .inr (4, [.int ype, .int ytk, .ref ywi, .ref yki, .ref yse, .ref yno, .ref yrh, .ref yrw, .ref yrk, .ref yrt, .int yrp, .int yrq, .ref ytx, .int yle, .int yat, .int yfa, .ref yby, .ref ylo, .ref yhi, .int ac1_9, .int nx1_10, .ref yro, .ref ygl, .int ysn, .ref yso, .ref ysp, .ref ysw, .long ysd, .ref yik, .ref ykp])), (yno, .inl (cI, 96, .inl Fno)), (yro, .inl (cI, 672, .inl Gro_11))] := hD.sub [0, 1, 2] (by decide) rfl
      refine W.widen (k := 0) (n := 0) (Nat.le_refl _) (Nat.le_refl _) ?_
      have hw : (0 ≤ ac1_9.toInt ∧ ac1_9.toInt ≤ 14) ∧ (0 ≤ nx1_10.toInt ∧ nx1_10.toInt ≤ 13) := hw
      have hw_14 := hw
      refine lv_aload_n hx hb dX4_lose_25 rfl (lv_at hl 0 rfl) ?_
      refine va_get (D := D) (ci := 4) (v := .ref yno) (C := RX4) (T := TX4) (N := 30) hx hb hts iX4 hown hK hP 0 rfl rfl 5 (by decide) (hts (.fieldLink RX4 19 "PunchedTicketModel" "now" "[I") (List.mem_of_getElem? (i := 1) rfl)) (fun _ h9 => h9) rfl dX4_lose_26 ?_
      refine lv_bipush (v := 6) hx hb dX4_lose_29 (by decide) ?_
      refine lv_bipush (v := 6) hx hb dX4_lose_31 (by decide) ?_
      refine lv_iload_n hx hb dX4_lose_33 rfl (lv_at hl 1 rfl) ?_
      refine lv_imul hx hb dX4_lose_34 ?_
      refine lv_topi (fun v_15 ev_15 => ?_)
      have tv_15 : v_15.toInt = (6 : Int) * n.toInt := by rw [ev_15]; exact ti_mul (x := 6) (y := n) (show -2147483648 ≤ (6 : Int) * n.toInt by omega) (show (6 : Int) * n.toInt < 2147483648 by omega)
      refine lv_iadd hx hb dX4_lose_35 ?_
      refine lv_topi (fun v_16 ev_16 => ?_)
      have tv_16 : v_16.toInt = (6 : Int) + v_15.toInt := by rw [ev_16]; exact ti_add (x := 6) (y := v_15) (show -2147483648 ≤ (6 : Int) + v_15.toInt by omega) (show (6 : Int) + v_15.toInt < 2147483648 by omega)
      refine lv_iconst (v := 5) hx hb dX4_lose_36 (by decide) ?_
      refine lv_iadd hx hb dX4_lose_37 ?_
      refine lv_topi (fun v_17 ev_17 => ?_)
      have tv_17 : v_17.toInt = v_16.toInt + (5 : Int) := by rw [ev_17]; exact ti_add (x := v_16) (y := 5) (show -2147483648 ≤ v_16.toInt + (5 : Int) by omega) (show v_16.toInt + (5 : Int) < 2147483648 by omega)
      refine lv_iconst (v := 1) hx hb dX4_lose_38 (by decide) ?_
      refine va_iast hx hb hK hP hD hS 1 0 rfl rfl (vp_in_iff.mpr ⟨by omega, by omega⟩) dX4_lose_39 (fun H locs hP hD hS => ?_)
      obtain ⟨f_18, ef_18⟩ : ∃ g : Nat → Int32, upd Fno (v_17 : Int32).toNatClampNeg 1 = g := ⟨_, rfl⟩
      rw [ef_18] at hP hD
      have hP : va_P D vwCl [(h0, .inr (4, [.int ype, .int ytk, .ref ywi, .ref yki, .ref yse, .ref yno, .ref yrh, .ref yrw, .ref yrk, .ref yrt, .int yrp, .int yrq, .ref ytx, .int yle, .int yat, .int yfa, .ref yby, .ref ylo, .ref yhi, .int ac1_9, .int nx1_10, .ref yro, .ref ygl, .int ysn, .ref yso, .ref ysp, .ref ysw, .long ysd, .ref yik, .ref ykp])), (yno, .inl (cI, 96, .inl f_18)), (yro, .inl (cI, 672, .inl Gro_11))] H := hP
      have hD : va_D A [(h0, .inr (4, [.int ype, .int ytk, .ref ywi, .ref yki, .ref yse, .ref yno, .ref yrh, .ref yrw, .ref yrk, .ref yrt, .int yrp, .int yrq, .ref ytx, .int yle, .int yat, .int yfa, .ref yby, .ref ylo, .ref yhi, .int ac1_9, .int nx1_10, .ref yro, .ref ygl, .int ysn, .ref yso, .ref ysp, .ref ysw, .long ysd, .ref yik, .ref ykp])), (yno, .inl (cI, 96, .inl f_18)), (yro, .inl (cI, 672, .inl Gro_11))] := hD
      refine lv_aload_n hx hb dX4_lose_40 rfl (lv_at hl 0 rfl) ?_
      refine lv_iload_n hx hb dX4_lose_41 rfl (lv_at hl 1 rfl) ?_
      refine cV_i (As := [.int n]) (rest := []) ⟨hx, hb, hml, hown, hts⟩ (c_X4_holder l D cI cZ cM h0 n ype ytk ywi yki yse yno yrh yrw yrk yrt yrp yrq ytx yle yat yfa yby ylo yhi ac1_9 nx1_10 yro ygl ysn yso ysp ysw ysd yik ykp f_18 _ (show 0 ≤ n.toInt ∧ n.toInt ≤ 6 by omega)) (cwV 1 hts gX4_lose_X4_holder rfl rfl rfl (by decide +kernel) ⟨by rw [hR]; decide, by rw [hR]; decide⟩) hK hP hD hS hA [0, 1] [2] rfl rfl (by decide) (by decide) (by decide) rfl 0 rfl hl.1 rfl rfl (Nat.le_of_ble_eq_true rfl) dX4_lose_42 ⟨by rw [hR]; decide, by rw [hR]; decide⟩ (fun r_19 u_20 H locs hw hP hD hS => ?_)
      have hP : va_P D vwCl [(h0, .inr (4, [.int ype, .int ytk, .ref ywi, .ref yki, .ref yse, .ref yno, .ref yrh, .ref yrw, .ref yrk, .ref yrt, .int yrp, .int yrq, .ref ytx, .int yle, .int yat, .int yfa, .ref yby, .ref ylo, .ref yhi, .int ac1_9, .int nx1_10, .ref yro, .ref ygl, .int ysn, .ref yso, .ref ysp, .ref ysw, .long ysd, .ref yik, .ref ykp])), (yno, .inl (cI, 96, .inl f_18)), (yro, .inl (cI, 672, .inl Gro_11))] H := hP.sub [1, 2, 0] rfl
      have hD : va_D A [(h0, .inr (4, [.int ype, .int ytk, .ref ywi, .ref yki, .ref yse, .ref yno, .ref yrh, .ref yrw, .ref yrk, .ref yrt, .int yrp, .int yrq, .ref ytx, .int yle, .int yat, .int yfa, .ref yby, .ref ylo, .ref yhi, .int ac1_9, .int nx1_10, .ref yro, .ref ygl, .int ysn, .ref yso, .ref ysp, .ref ysw, .long ysd, .ref yik, .ref ykp])), (yno, .inl (cI, 96, .inl f_18)), (yro, .inl (cI, 672, .inl Gro_11))] := hD.sub [1, 2, 0] (by decide) rfl
      refine W.widen (k := 0) (n := 0) (Nat.le_refl _) (Nat.le_refl _) ?_
      exact ret_i (post := (fun (r : Int32) (u : Int32 × Int32 × (Nat → Int32) × (Nat → Int32)) => (0 ≤ u.1.toInt ∧ u.1.toInt ≤ 14) ∧ (0 ≤ u.2.1.toInt ∧ u.2.1.toInt ≤ 13))) (W1 := (fun u => [(h0, .inr (4, [.int ype, .int ytk, .ref ywi, .ref yki, .ref yse, .ref yno, .ref yrh, .ref yrw, .ref yrk, .ref yrt, .int yrp, .int yrq, .ref ytx, .int yle, .int yat, .int yfa, .ref yby, .ref ylo, .ref yhi, .int u.1, .int u.2.1, .ref yro, .ref ygl, .int ysn, .ref yso, .ref ysp, .ref ysw, .long ysd, .ref yik, .ref ykp])), (yno, .inl (cI, 96, .inl u.2.2.1)), (yro, .inl (cI, 672, .inl u.2.2.2))])) (ac1_9, nx1_10, f_18, Gro_11) hx hb hr hlocks rfl hQ hK hP hD hS ⟨by decide, by decide⟩ dX4_lose_45 (show (0 ≤ ac1_9.toInt ∧ ac1_9.toInt ≤ 14) ∧ (0 ≤ nx1_10.toInt ∧ nx1_10.toInt ≤ 13) by omega)
    · have tc_8 := b_ne rfl (show (0 : Int32).toInt = 0 by decide) c_8
      refine lv_bipush (v := (-3)) hx hb dX4_lose_18 (by decide) ?_
      exact ret_i (post := (fun (r : Int32) (u : Int32 × Int32 × (Nat → Int32) × (Nat → Int32)) => (0 ≤ u.1.toInt ∧ u.1.toInt ≤ 14) ∧ (0 ≤ u.2.1.toInt ∧ u.2.1.toInt ≤ 13))) (W1 := (fun u => [(h0, .inr (4, [.int ype, .int ytk, .ref ywi, .ref yki, .ref yse, .ref yno, .ref yrh, .ref yrw, .ref yrk, .ref yrt, .int yrp, .int yrq, .ref ytx, .int yle, .int yat, .int yfa, .ref yby, .ref ylo, .ref yhi, .int u.1, .int u.2.1, .ref yro, .ref ygl, .int ysn, .ref yso, .ref ysp, .ref ysw, .long ysd, .ref yik, .ref ykp])), (yno, .inl (cI, 96, .inl u.2.2.1)), (yro, .inl (cI, 672, .inl u.2.2.2))])) (yac, ynx, Fno, Fro) hx hb hr hlocks rfl hQ hK hP hD hS ⟨by decide, by decide⟩ dX4_lose_20 (show (0 ≤ yac.toInt ∧ yac.toInt ≤ 14) ∧ (0 ≤ ynx.toInt ∧ ynx.toInt ≤ 13) by omega)
  · have tc_4 := b_eq rfl (show (0 : Int32).toInt = 0 by decide) c_4
    refine lv_iconst (v := (-1)) hx hb dX4_lose_8 (by decide) ?_
    exact ret_i (post := (fun (r : Int32) (u : Int32 × Int32 × (Nat → Int32) × (Nat → Int32)) => (0 ≤ u.1.toInt ∧ u.1.toInt ≤ 14) ∧ (0 ≤ u.2.1.toInt ∧ u.2.1.toInt ≤ 13))) (W1 := (fun u => [(h0, .inr (4, [.int ype, .int ytk, .ref ywi, .ref yki, .ref yse, .ref yno, .ref yrh, .ref yrw, .ref yrk, .ref yrt, .int yrp, .int yrq, .ref ytx, .int yle, .int yat, .int yfa, .ref yby, .ref ylo, .ref yhi, .int u.1, .int u.2.1, .ref yro, .ref ygl, .int ysn, .ref yso, .ref ysp, .ref ysw, .long ysd, .ref yik, .ref ykp])), (yno, .inl (cI, 96, .inl u.2.2.1)), (yro, .inl (cI, 672, .inl u.2.2.2))])) (yac, ynx, Fno, Fro) hx hb hr hlocks rfl hQ hK hP hD hS ⟨by decide, by decide⟩ dX4_lose_9 (show (0 ≤ yac.toInt ∧ yac.toInt ≤ 14) ∧ (0 ≤ ynx.toInt ∧ ynx.toInt ≤ 13) by omega)

set_option maxHeartbeats 600000 in
set_option maxRecDepth 100000 in
theorem c_X4_canChange (l : Launch) (D : va_G) (cI cZ cM : ClassId) (h0 : Nat) (n : Int32) (k : Int32) (ype : Int32) (ytk : Int32) (ywi : Nat) (yki : Nat) (yse : Nat) (yno : Nat) (yrh : Nat) (yrw : Nat) (yrk : Nat) (yrt : Nat) (yrp : Int32) (yrq : Int32) (ytx : Nat) (yle : Int32) (yat : Int32) (yfa : Int32) (yby : Nat) (ylo : Nat) (yhi : Nat) (yac : Int32) (ynx : Int32) (yro : Nat) (ygl : Nat) (ysn : Int32) (yso : Nat) (ysp : Nat) (ysw : Nat) (ysd : Int64) (yik : Nat) (ykp : Nat) (Fno : Nat → Int32) (sz : Nat) (h_n : 0 ≤ n.toInt ∧ n.toInt ≤ 6) (h_k : 0 ≤ k.toInt ∧ k.toInt ≤ 6) : Ci l yX4_canChange wsX4_canChange ({ frames := 1, cells := 0, slots := 0, locals := 21 } : Room) D cI cZ cM [.ref h0, .int n, .int k] [(h0, .inr (4, [.int ype, .int ytk, .ref ywi, .ref yki, .ref yse, .ref yno, .ref yrh, .ref yrw, .ref yrk, .ref yrt, .int yrp, .int yrq, .ref ytx, .int yle, .int yat, .int yfa, .ref yby, .ref ylo, .ref yhi, .int yac, .int ynx, .ref yro, .ref ygl, .int ysn, .ref yso, .ref ysp, .ref ysw, .long ysd, .ref yik, .ref ykp])), (yno, .inl (cI, 96, .inl Fno))] sz (fun (r : Int32) (u : Unit) => (r.toInt = 0 ∨ r.toInt = 1)) (fun u => [(h0, .inr (4, [.int ype, .int ytk, .ref ywi, .ref yki, .ref yse, .ref yno, .ref yrh, .ref yrw, .ref yrk, .ref yrt, .int yrp, .int yrq, .ref ytx, .int yle, .int yat, .int yfa, .ref yby, .ref ylo, .ref yhi, .int yac, .int ynx, .ref yro, .ref ygl, .int ysn, .ref yso, .ref ysp, .ref ysw, .long ysd, .ref yik, .ref ykp])), (yno, .inl (cI, 96, .inl Fno))]) 0 0 := by
  refine begins (l := l) (y := yX4_canChange) (ws := wsX4_canChange) (av := [.ref h0, .int n, .int k]) (Qc := fun A => va_Qi (fun (r : Int32) (u : Unit) => (r.toInt = 0 ∨ r.toInt = 1)) (fun u => Wd D cI cZ cM A ((fun u => [(h0, .inr (4, [.int ype, .int ytk, .ref ywi, .ref yki, .ref yse, .ref yno, .ref yrh, .ref yrw, .ref yrk, .ref yrt, .int yrp, .int yrq, .ref ytx, .int yle, .int yat, .int yfa, .ref yby, .ref ylo, .ref yhi, .int yac, .int ynx, .ref yro, .ref ygl, .int ysn, .ref yso, .ref ysp, .ref ysw, .long ysd, .ref yik, .ref ykp])), (yno, .inl (cI, 96, .inl Fno))]) u)) A) cX4_canChange 3 (some .boolean) (by decide) rfl (Nat.le_of_ble_eq_true rfl) ?_
  intro p e s m args below meth c R Q A ls hBd hR hQ hA hS hK hP hD hl
  obtain ⟨hx, hb, hr, hts, hown, hlocks, hin, hml⟩ := hBd
  have hl : lv_has ls 3 [(0, .ref h0), (1, .int n), (2, .int k)] := hl
  have iX4 : ∀ w ∈ wsX40, w ∈ wsX4_canChange := fun _ h => List.mem_cons_of_mem _ (List.mem_append_right _ h)
  obtain ⟨h_na, h_nb⟩ := h_n
  obtain ⟨h_ka, h_kb⟩ := h_k
  refine lv_aload_n hx hb dX4_canChange_0 rfl (lv_at hl 0 rfl) ?_
  refine lv_iload_n hx hb dX4_canChange_1 rfl (lv_at hl 1 rfl) ?_
  refine cV_i (As := [.int n]) (rest := []) ⟨hx, hb, hml, hown, hts⟩ (c_X4_isGone l D cI cZ cM h0 n ype ytk ywi yki yse yno yrh yrw yrk yrt yrp yrq ytx yle yat yfa yby ylo yhi yac ynx yro ygl ysn yso ysp ysw ysd yik ykp Fno _ (show 0 ≤ n.toInt ∧ n.toInt ≤ 6 by omega)) (cwV 1 hts gX4_canChange_X4_isGone rfl rfl rfl (by decide +kernel) ⟨by rw [hR]; decide, by rw [hR]; decide⟩) hK hP hD hS hA [0, 1] [] rfl rfl (by decide) (by decide) (by decide) rfl 0 rfl hl.1 rfl rfl (Nat.le_of_ble_eq_true rfl) dX4_canChange_2 ⟨by rw [hR]; decide, by rw [hR]; decide⟩ (fun r_1 u_2 H locs hw hP hD hS => ?_)
  have hP : va_P D vwCl [(h0, .inr (4, [.int ype, .int ytk, .ref ywi, .ref yki, .ref yse, .ref yno, .ref yrh, .ref yrw, .ref yrk, .ref yrt, .int yrp, .int yrq, .ref ytx, .int yle, .int yat, .int yfa, .ref yby, .ref ylo, .ref yhi, .int yac, .int ynx, .ref yro, .ref ygl, .int ysn, .ref yso, .ref ysp, .ref ysw, .long ysd, .ref yik, .ref ykp])), (yno, .inl (cI, 96, .inl Fno))] H := hP.sub [0, 1] rfl
  have hD : va_D A [(h0, .inr (4, [.int ype, .int ytk, .ref ywi, .ref yki, .ref yse, .ref yno, .ref yrh, .ref yrw, .ref yrk, .ref yrt, .int yrp, .int yrq, .ref ytx, .int yle, .int yat, .int yfa, .ref yby, .ref ylo, .ref yhi, .int yac, .int ynx, .ref yro, .ref ygl, .int ysn, .ref yso, .ref ysp, .ref ysw, .long ysd, .ref yik, .ref ykp])), (yno, .inl (cI, 96, .inl Fno))] := hD.sub [0, 1] (by decide) rfl
  refine W.widen (k := 0) (n := 0) (Nat.le_refl _) (Nat.le_refl _) ?_
  have hw : (r_1.toInt = 0 ∨ r_1.toInt = 1) := hw
  have hw_3 := hw
  refine lv_if_ne (tgt := 33) hx hb dX4_canChange_5 (by decide) (fun c_4 => ?_) (fun c_4 => ?_)
  · have tc_4 := b_ne rfl (show (0 : Int32).toInt = 0 by decide) c_4
    refine lv_iconst (v := 0) hx hb dX4_canChange_33 (by decide) ?_
    exact ret_i (post := (fun (r : Int32) (u : Unit) => (r.toInt = 0 ∨ r.toInt = 1))) (W1 := (fun u => [(h0, .inr (4, [.int ype, .int ytk, .ref ywi, .ref yki, .ref yse, .ref yno, .ref yrh, .ref yrw, .ref yrk, .ref yrt, .int yrp, .int yrq, .ref ytx, .int yle, .int yat, .int yfa, .ref yby, .ref ylo, .ref yhi, .int yac, .int ynx, .ref yro, .ref ygl, .int ysn, .ref yso, .ref ysp, .ref ysw, .long ysd, .ref yik, .ref ykp])), (yno, .inl (cI, 96, .inl Fno))])) () hx hb hr hlocks rfl hQ hK hP hD hS ⟨by decide, by decide⟩ dX4_canChange_34 (show ((0 : Int) = 0 ∨ (0 : Int) = 1) by omega)
  · have tc_4 := b_eq rfl (show (0 : Int32).toInt = 0 by decide) c_4
    refine lv_aload_n hx hb dX4_canChange_8 rfl (lv_at hl 0 rfl) ?_
    refine lv_iload_n hx hb dX4_canChange_9 rfl (lv_at hl 2 rfl) ?_
    refine cV_i (As := [.int k]) (rest := []) ⟨hx, hb, hml, hown, hts⟩ (c_X4_isGone l D cI cZ cM h0 k ype ytk ywi yki yse yno yrh yrw yrk yrt yrp yrq ytx yle yat yfa yby ylo yhi yac ynx yro ygl ysn yso ysp ysw ysd yik ykp Fno _ (show 0 ≤ k.toInt ∧ k.toInt ≤ 6 by omega)) (cwV 1 hts gX4_canChange_X4_isGone rfl rfl rfl (by decide +kernel) ⟨by rw [hR]; decide, by rw [hR]; decide⟩) hK hP hD hS hA [0, 1] [] rfl rfl (by decide) (by decide) (by decide) rfl 0 rfl hl.1 rfl rfl (Nat.le_of_ble_eq_true rfl) dX4_canChange_10 ⟨by rw [hR]; decide, by rw [hR]; decide⟩ (fun r_5 u_6 H locs hw hP hD hS => ?_)
    have hP : va_P D vwCl [(h0, .inr (4, [.int ype, .int ytk, .ref ywi, .ref yki, .ref yse, .ref yno, .ref yrh, .ref yrw, .ref yrk, .ref yrt, .int yrp, .int yrq, .ref ytx, .int yle, .int yat, .int yfa, .ref yby, .ref ylo, .ref yhi, .int yac, .int ynx, .ref yro, .ref ygl, .int ysn, .ref yso, .ref ysp, .ref ysw, .long ysd, .ref yik, .ref ykp])), (yno, .inl (cI, 96, .inl Fno))] H := hP.sub [0, 1] rfl
    have hD : va_D A [(h0, .inr (4, [.int ype, .int ytk, .ref ywi, .ref yki, .ref yse, .ref yno, .ref yrh, .ref yrw, .ref yrk, .ref yrt, .int yrp, .int yrq, .ref ytx, .int yle, .int yat, .int yfa, .ref yby, .ref ylo, .ref yhi, .int yac, .int ynx, .ref yro, .ref ygl, .int ysn, .ref yso, .ref ysp, .ref ysw, .long ysd, .ref yik, .ref ykp])), (yno, .inl (cI, 96, .inl Fno))] := hD.sub [0, 1] (by decide) rfl
    refine W.widen (k := 0) (n := 0) (Nat.le_refl _) (Nat.le_refl _) ?_
    have hw : (r_5.toInt = 0 ∨ r_5.toInt = 1) := hw
    have hw_7 := hw
    refine lv_if_ne (tgt := 33) hx hb dX4_canChange_13 (by decide) (fun c_8 => ?_) (fun c_8 => ?_)
    · have tc_8 := b_ne rfl (show (0 : Int32).toInt = 0 by decide) c_8
      refine lv_iconst (v := 0) hx hb dX4_canChange_33 (by decide) ?_
      exact ret_i (post := (fun (r : Int32) (u : Unit) => (r.toInt = 0 ∨ r.toInt = 1))) (W1 := (fun u => [(h0, .inr (4, [.int ype, .int ytk, .ref ywi, .ref yki, .ref yse, .ref yno, .ref yrh, .ref yrw, .ref yrk, .ref yrt, .int yrp, .int yrq, .ref ytx, .int yle, .int yat, .int yfa, .ref yby, .ref ylo, .ref yhi, .int yac, .int ynx, .ref yro, .ref ygl, .int ysn, .ref yso, .ref ysp, .ref ysw, .long ysd, .ref yik, .ref ykp])), (yno, .inl (cI, 96, .inl Fno))])) () hx hb hr hlocks rfl hQ hK hP hD hS ⟨by decide, by decide⟩ dX4_canChange_34 (show ((0 : Int) = 0 ∨ (0 : Int) = 1) by omega)
    · have tc_8 := b_eq rfl (show (0 : Int32).toInt = 0 by decide) c_8
      refine lv_aload_n hx hb dX4_canChange_16 rfl (lv_at hl 0 rfl) ?_
      refine lv_iload_n hx hb dX4_canChange_17 rfl (lv_at hl 1 rfl) ?_
      refine cV_i (As := [.int n]) (rest := []) ⟨hx, hb, hml, hown, hts⟩ (c_X4_holder l D cI cZ cM h0 n ype ytk ywi yki yse yno yrh yrw yrk yrt yrp yrq ytx yle yat yfa yby ylo yhi yac ynx yro ygl ysn yso ysp ysw ysd yik ykp Fno _ (show 0 ≤ n.toInt ∧ n.toInt ≤ 6 by omega)) (cwV 1 hts gX4_canChange_X4_holder rfl rfl rfl (by decide +kernel) ⟨by rw [hR]; decide, by rw [hR]; decide⟩) hK hP hD hS hA [0, 1] [] rfl rfl (by decide) (by decide) (by decide) rfl 0 rfl hl.1 rfl rfl (Nat.le_of_ble_eq_true rfl) dX4_canChange_18 ⟨by rw [hR]; decide, by rw [hR]; decide⟩ (fun r_9 u_10 H locs hw hP hD hS => ?_)
      have hP : va_P D vwCl [(h0, .inr (4, [.int ype, .int ytk, .ref ywi, .ref yki, .ref yse, .ref yno, .ref yrh, .ref yrw, .ref yrk, .ref yrt, .int yrp, .int yrq, .ref ytx, .int yle, .int yat, .int yfa, .ref yby, .ref ylo, .ref yhi, .int yac, .int ynx, .ref yro, .ref ygl, .int ysn, .ref yso, .ref ysp, .ref ysw, .long ysd, .ref yik, .ref ykp])), (yno, .inl (cI, 96, .inl Fno))] H := hP.sub [0, 1] rfl
      have hD : va_D A [(h0, .inr (4, [.int ype, .int ytk, .ref ywi, .ref yki, .ref yse, .ref yno, .ref yrh, .ref yrw, .ref yrk, .ref yrt, .int yrp, .int yrq, .ref ytx, .int yle, .int yat, .int yfa, .ref yby, .ref ylo, .ref yhi, .int yac, .int ynx, .ref yro, .ref ygl, .int ysn, .ref yso, .ref ysp, .ref ysw, .long ysd, .ref yik, .ref ykp])), (yno, .inl (cI, 96, .inl Fno))] := hD.sub [0, 1] (by decide) rfl
      refine W.widen (k := 0) (n := 0) (Nat.le_refl _) (Nat.le_refl _) ?_
      refine lv_aload_n hx hb dX4_canChange_21 rfl (lv_at hl 0 rfl) ?_
      refine lv_iload_n hx hb dX4_canChange_22 rfl (lv_at hl 2 rfl) ?_
      refine cV_i (As := [.int k]) (rest := [.int r_9]) ⟨hx, hb, hml, hown, hts⟩ (c_X4_holder l D cI cZ cM h0 k ype ytk ywi yki yse yno yrh yrw yrk yrt yrp yrq ytx yle yat yfa yby ylo yhi yac ynx yro ygl ysn yso ysp ysw ysd yik ykp Fno _ (show 0 ≤ k.toInt ∧ k.toInt ≤ 6 by omega)) (cwV 1 hts gX4_canChange_X4_holder rfl rfl rfl (by decide +kernel) ⟨by rw [hR]; decide, by rw [hR]; decide⟩) hK hP hD hS hA [0, 1] [] rfl rfl (by decide) (by decide) (by decide) rfl 0 rfl hl.1 rfl rfl (Nat.le_of_ble_eq_true rfl) dX4_canChange_23 ⟨by rw [hR]; decide, by rw [hR]; decide⟩ (fun r_11 u_12 H locs hw hP hD hS => ?_)
      have hP : va_P D vwCl [(h0, .inr (4, [.int ype, .int ytk, .ref ywi, .ref yki, .ref yse, .ref yno, .ref yrh, .ref yrw, .ref yrk, .ref yrt, .int yrp, .int yrq, .ref ytx, .int yle, .int yat, .int yfa, .ref yby, .ref ylo, .ref yhi, .int yac, .int ynx, .ref yro, .ref ygl, .int ysn, .ref yso, .ref ysp, .ref ysw, .long ysd, .ref yik, .ref ykp])), (yno, .inl (cI, 96, .inl Fno))] H := hP.sub [0, 1] rfl
      have hD : va_D A [(h0, .inr (4, [.int ype, .int ytk, .ref ywi, .ref yki, .ref yse, .ref yno, .ref yrh, .ref yrw, .ref yrk, .ref yrt, .int yrp, .int yrq, .ref ytx, .int yle, .int yat, .int yfa, .ref yby, .ref ylo, .ref yhi, .int yac, .int ynx, .ref yro, .ref ygl, .int ysn, .ref yso, .ref ysp, .ref ysw, .long ysd, .ref yik, .ref ykp])), (yno, .inl (cI, 96, .inl Fno))] := hD.sub [0, 1] (by decide) rfl
      refine W.widen (k := 0) (n := 0) (Nat.le_refl _) (Nat.le_refl _) ?_
      refine lv_icmp_eq (tgt := 33) hx hb dX4_canChange_26 (by decide) (fun c_13 => ?_) (fun c_13 => ?_)
      · have tc_13 := b_eq rfl rfl c_13
        refine lv_iconst (v := 0) hx hb dX4_canChange_33 (by decide) ?_
        exact ret_i (post := (fun (r : Int32) (u : Unit) => (r.toInt = 0 ∨ r.toInt = 1))) (W1 := (fun u => [(h0, .inr (4, [.int ype, .int ytk, .ref ywi, .ref yki, .ref yse, .ref yno, .ref yrh, .ref yrw, .ref yrk, .ref yrt, .int yrp, .int yrq, .ref ytx, .int yle, .int yat, .int yfa, .ref yby, .ref ylo, .ref yhi, .int yac, .int ynx, .ref yro, .ref ygl, .int ysn, .ref yso, .ref ysp, .ref ysw, .long ysd, .ref yik, .ref ykp])), (yno, .inl (cI, 96, .inl Fno))])) () hx hb hr hlocks rfl hQ hK hP hD hS ⟨by decide, by decide⟩ dX4_canChange_34 (show ((0 : Int) = 0 ∨ (0 : Int) = 1) by omega)
      · have tc_13 := b_ne rfl rfl c_13
        refine lv_iconst (v := 1) hx hb dX4_canChange_29 (by decide) ?_
        refine lv_goto (tgt := 34) hx hb dX4_canChange_30 (by decide) ?_
        exact ret_i (post := (fun (r : Int32) (u : Unit) => (r.toInt = 0 ∨ r.toInt = 1))) (W1 := (fun u => [(h0, .inr (4, [.int ype, .int ytk, .ref ywi, .ref yki, .ref yse, .ref yno, .ref yrh, .ref yrw, .ref yrk, .ref yrt, .int yrp, .int yrq, .ref ytx, .int yle, .int yat, .int yfa, .ref yby, .ref ylo, .ref yhi, .int yac, .int ynx, .ref yro, .ref ygl, .int ysn, .ref yso, .ref ysp, .ref ysw, .long ysd, .ref yik, .ref ykp])), (yno, .inl (cI, 96, .inl Fno))])) () hx hb hr hlocks rfl hQ hK hP hD hS ⟨by decide, by decide⟩ dX4_canChange_34 (show ((1 : Int) = 0 ∨ (1 : Int) = 1) by omega)

set_option maxHeartbeats 600000 in
set_option maxRecDepth 100000 in
theorem c_X4_changeOn (l : Launch) (D : va_G) (cI cZ cM : ClassId) (h0 : Nat) (n : Int32) (k : Int32) (j : Int32) (ype : Int32) (ytk : Int32) (ywi : Nat) (yki : Nat) (yse : Nat) (yno : Nat) (yrh : Nat) (yrw : Nat) (yrk : Nat) (yrt : Nat) (yrp : Int32) (yrq : Int32) (ytx : Nat) (yle : Int32) (yat : Int32) (yfa : Int32) (yby : Nat) (ylo : Nat) (yhi : Nat) (yac : Int32) (ynx : Int32) (yro : Nat) (ygl : Nat) (ysn : Int32) (yso : Nat) (ysp : Nat) (ysw : Nat) (ysd : Int64) (yik : Nat) (ykp : Nat) (Fno : Nat → Int32) (sz : Nat) (h_n : 0 ≤ n.toInt ∧ n.toInt ≤ 1) (h_k : 0 ≤ k.toInt ∧ k.toInt ≤ 6) (h_j : 0 ≤ j.toInt ∧ j.toInt ≤ 6) : Cv l yX4_changeOn wsX4_changeOn ({ frames := 0, cells := 0, slots := 0, locals := 0 } : Room) D cI cZ cM [.ref h0, .int n, .int k, .int j] [(h0, .inr (4, [.int ype, .int ytk, .ref ywi, .ref yki, .ref yse, .ref yno, .ref yrh, .ref yrw, .ref yrk, .ref yrt, .int yrp, .int yrq, .ref ytx, .int yle, .int yat, .int yfa, .ref yby, .ref ylo, .ref yhi, .int yac, .int ynx, .ref yro, .ref ygl, .int ysn, .ref yso, .ref ysp, .ref ysw, .long ysd, .ref yik, .ref ykp])), (yno, .inl (cI, 96, .inl Fno))] sz (fun (u : (Nat → Int32)) => True) (fun u => [(h0, .inr (4, [.int ype, .int ytk, .ref ywi, .ref yki, .ref yse, .ref yno, .ref yrh, .ref yrw, .ref yrk, .ref yrt, .int yrp, .int yrq, .ref ytx, .int yle, .int yat, .int yfa, .ref yby, .ref ylo, .ref yhi, .int yac, .int ynx, .ref yro, .ref ygl, .int ysn, .ref yso, .ref ysp, .ref ysw, .long ysd, .ref yik, .ref ykp])), (yno, .inl (cI, 96, .inl u))]) 0 0 := by
  refine begins (l := l) (y := yX4_changeOn) (ws := wsX4_changeOn) (av := [.ref h0, .int n, .int k, .int j]) (Qc := fun A => va_Qv (fun (u : (Nat → Int32)) => True) (fun u => Wd D cI cZ cM A ((fun u => [(h0, .inr (4, [.int ype, .int ytk, .ref ywi, .ref yki, .ref yse, .ref yno, .ref yrh, .ref yrw, .ref yrk, .ref yrt, .int yrp, .int yrq, .ref ytx, .int yle, .int yat, .int yfa, .ref yby, .ref ylo, .ref yhi, .int yac, .int ynx, .ref yro, .ref ygl, .int ysn, .ref yso, .ref ysp, .ref ysw, .long ysd, .ref yik, .ref ykp])), (yno, .inl (cI, 96, .inl u))]) u)) A) cX4_changeOn 7 none (by decide) rfl (Nat.le_of_ble_eq_true rfl) ?_
  intro p e s m args below meth c R Q A ls hBd hR hQ hA hS hK hP hD hl
  obtain ⟨hx, hb, hr, hts, hown, hlocks, hin, hml⟩ := hBd
  have hl : lv_has ls 7 [(0, .ref h0), (1, .int n), (2, .int k), (3, .int j)] := hl
  have iX4 : ∀ w ∈ wsX40, w ∈ wsX4_changeOn := fun _ h => List.mem_cons_of_mem _ (List.mem_append_right _ h)
  obtain ⟨h_na, h_nb⟩ := h_n
  obtain ⟨h_ka, h_kb⟩ := h_k
  obtain ⟨h_ja, h_jb⟩ := h_j
  refine lv_bipush (v := 48) hx hb dX4_changeOn_0 (by decide) ?_
  refine lv_iload_n hx hb dX4_changeOn_2 rfl (lv_at hl 1 rfl) ?_
  refine lv_imul hx hb dX4_changeOn_3 ?_
  refine lv_topi (fun v_1 ev_1 => ?_)
  have tv_1 : v_1.toInt = (48 : Int) * n.toInt := by rw [ev_1]; exact ti_mul (x := 48) (y := n) (show -2147483648 ≤ (48 : Int) * n.toInt by omega) (show (48 : Int) * n.toInt < 2147483648 by omega)
  refine lv_bipush (v := 6) hx hb dX4_changeOn_4 (by decide) ?_
  refine lv_iadd hx hb dX4_changeOn_6 ?_
  refine lv_topi (fun v_2 ev_2 => ?_)
  have tv_2 : v_2.toInt = v_1.toInt + (6 : Int) := by rw [ev_2]; exact ti_add (x := v_1) (y := 6) (show -2147483648 ≤ v_1.toInt + (6 : Int) by omega) (show v_1.toInt + (6 : Int) < 2147483648 by omega)
  refine lv_bipush (v := 6) hx hb dX4_changeOn_7 (by decide) ?_
  refine lv_iload_n hx hb dX4_changeOn_9 rfl (lv_at hl 2 rfl) ?_
  refine lv_imul hx hb dX4_changeOn_10 ?_
  refine lv_topi (fun v_3 ev_3 => ?_)
  have tv_3 : v_3.toInt = (6 : Int) * k.toInt := by rw [ev_3]; exact ti_mul (x := 6) (y := k) (show -2147483648 ≤ (6 : Int) * k.toInt by omega) (show (6 : Int) * k.toInt < 2147483648 by omega)
  refine lv_iadd hx hb dX4_changeOn_11 ?_
  refine lv_topi (fun v_4 ev_4 => ?_)
  have tv_4 : v_4.toInt = v_2.toInt + v_3.toInt := by rw [ev_4]; exact ti_add (x := v_2) (y := v_3) (show -2147483648 ≤ v_2.toInt + v_3.toInt by omega) (show v_2.toInt + v_3.toInt < 2147483648 by omega)
  refine lv_iconst (v := 3) hx hb dX4_changeOn_12 (by decide) ?_
  refine lv_iadd hx hb dX4_changeOn_13 ?_
  refine lv_topi (fun v_5 ev_5 => ?_)
  have tv_5 : v_5.toInt = v_4.toInt + (3 : Int) := by rw [ev_5]; exact ti_add (x := v_4) (y := 3) (show -2147483648 ≤ v_4.toInt + (3 : Int) by omega) (show v_4.toInt + (3 : Int) < 2147483648 by omega)
  refine lv_istore (lv' := [(4, .int v_5), (0, .ref h0), (1, .int n), (2, .int k), (3, .int j)]) hx hb dX4_changeOn_14 hl (by decide) rfl (fun ls hl => ?_)
  refine lv_bipush (v := 48) hx hb dX4_changeOn_16 (by decide) ?_
  refine lv_iload_n hx hb dX4_changeOn_18 rfl (lv_at hl 2 rfl) ?_
  refine lv_imul hx hb dX4_changeOn_19 ?_
  refine lv_topi (fun v_6 ev_6 => ?_)
  have tv_6 : v_6.toInt = (48 : Int) * n.toInt := by rw [ev_6]; exact ti_mul (x := 48) (y := n) (show -2147483648 ≤ (48 : Int) * n.toInt by omega) (show (48 : Int) * n.toInt < 2147483648 by omega)
  refine lv_bipush (v := 6) hx hb dX4_changeOn_20 (by decide) ?_
  refine lv_iadd hx hb dX4_changeOn_22 ?_
  refine lv_topi (fun v_7 ev_7 => ?_)
  have tv_7 : v_7.toInt = v_6.toInt + (6 : Int) := by rw [ev_7]; exact ti_add (x := v_6) (y := 6) (show -2147483648 ≤ v_6.toInt + (6 : Int) by omega) (show v_6.toInt + (6 : Int) < 2147483648 by omega)
  refine lv_bipush (v := 6) hx hb dX4_changeOn_23 (by decide) ?_
  refine lv_iload_n hx hb dX4_changeOn_25 rfl (lv_at hl 4 rfl) ?_
  refine lv_imul hx hb dX4_changeOn_26 ?_
  refine lv_topi (fun v_8 ev_8 => ?_)
  have tv_8 : v_8.toInt = (6 : Int) * j.toInt := by rw [ev_8]; exact ti_mul (x := 6) (y := j) (show -2147483648 ≤ (6 : Int) * j.toInt by omega) (show (6 : Int) * j.toInt < 2147483648 by omega)
  refine lv_iadd hx hb dX4_changeOn_27 ?_
  refine lv_topi (fun v_9 ev_9 => ?_)
  have tv_9 : v_9.toInt = v_7.toInt + v_8.toInt := by rw [ev_9]; exact ti_add (x := v_7) (y := v_8) (show -2147483648 ≤ v_7.toInt + v_8.toInt by omega) (show v_7.toInt + v_8.toInt < 2147483648 by omega)
  refine lv_iconst (v := 3) hx hb dX4_changeOn_28 (by decide) ?_
  refine lv_iadd hx hb dX4_changeOn_29 ?_
  refine lv_topi (fun v_10 ev_10 => ?_)
  have tv_10 : v_10.toInt = v_9.toInt + (3 : Int) := by rw [ev_10]; exact ti_add (x := v_9) (y := 3) (show -2147483648 ≤ v_9.toInt + (3 : Int) by omega) (show v_9.toInt + (3 : Int) < 2147483648 by omega)
  refine lv_istore (lv' := [(5, .int v_10), (4, .int v_5), (0, .ref h0), (1, .int n), (2, .int k), (3, .int j)]) hx hb dX4_changeOn_30 hl (by decide) rfl (fun ls hl => ?_)
  refine lv_aload_n hx hb dX4_changeOn_32 rfl (lv_at hl 2 rfl) ?_
  refine va_get (D := D) (ci := 4) (v := .ref yno) (C := RX4) (T := TX4) (N := 30) hx hb hts iX4 hown hK hP 0 rfl rfl 5 (by decide) (hts (.fieldLink RX4 19 "PunchedTicketModel" "now" "[I") (List.mem_of_getElem? (i := 1) rfl)) (fun _ h9 => h9) rfl dX4_changeOn_33 ?_
  refine lv_iload hx hb dX4_changeOn_36 (lv_at hl 1 rfl) ?_
  refine va_iald hx hb hK hP 1 0 rfl rfl (vp_in_iff.mpr ⟨by omega, by omega⟩) dX4_changeOn_38 ?_
  refine lv_topi (fun v_11 ev_11 => ?_)
  refine lv_istore (lv' := [(6, .int v_11), (5, .int v_10), (4, .int v_5), (0, .ref h0), (1, .int n), (2, .int k), (3, .int j)]) hx hb dX4_changeOn_39 hl (by decide) rfl (fun ls hl => ?_)
  refine lv_aload_n hx hb dX4_changeOn_41 rfl (lv_at hl 3 rfl) ?_
  refine va_get (D := D) (ci := 4) (v := .ref yno) (C := RX4) (T := TX4) (N := 30) hx hb hts iX4 hown hK hP 0 rfl rfl 5 (by decide) (hts (.fieldLink RX4 19 "PunchedTicketModel" "now" "[I") (List.mem_of_getElem? (i := 1) rfl)) (fun _ h9 => h9) rfl dX4_changeOn_42 ?_
  refine lv_iload hx hb dX4_changeOn_45 (lv_at hl 2 rfl) ?_
  refine lv_aload_n hx hb dX4_changeOn_47 rfl (lv_at hl 3 rfl) ?_
  refine va_get (D := D) (ci := 4) (v := .ref yno) (C := RX4) (T := TX4) (N := 30) hx hb hts iX4 hown hK hP 0 rfl rfl 5 (by decide) (hts (.fieldLink RX4 19 "PunchedTicketModel" "now" "[I") (List.mem_of_getElem? (i := 1) rfl)) (fun _ h9 => h9) rfl dX4_changeOn_48 ?_
  refine lv_iload hx hb dX4_changeOn_51 (lv_at hl 1 rfl) ?_
  refine va_iald hx hb hK hP 1 0 rfl rfl (vp_in_iff.mpr ⟨by omega, by omega⟩) dX4_changeOn_53 ?_
  refine lv_topi (fun v_12 ev_12 => ?_)
  refine va_iast hx hb hK hP hD hS 1 0 rfl rfl (vp_in_iff.mpr ⟨by omega, by omega⟩) dX4_changeOn_54 (fun H locs hP hD hS => ?_)
  obtain ⟨f_13, ef_13⟩ : ∃ g : Nat → Int32, upd Fno (v_5 : Int32).toNatClampNeg v_12 = g := ⟨_, rfl⟩
  rw [ef_13] at hP hD
  have hP : va_P D vwCl [(h0, .inr (4, [.int ype, .int ytk, .ref ywi, .ref yki, .ref yse, .ref yno, .ref yrh, .ref yrw, .ref yrk, .ref yrt, .int yrp, .int yrq, .ref ytx, .int yle, .int yat, .int yfa, .ref yby, .ref ylo, .ref yhi, .int yac, .int ynx, .ref yro, .ref ygl, .int ysn, .ref yso, .ref ysp, .ref ysw, .long ysd, .ref yik, .ref ykp])), (yno, .inl (cI, 96, .inl f_13))] H := hP
  have hD : va_D A [(h0, .inr (4, [.int ype, .int ytk, .ref ywi, .ref yki, .ref yse, .ref yno, .ref yrh, .ref yrw, .ref yrk, .ref yrt, .int yrp, .int yrq, .ref ytx, .int yle, .int yat, .int yfa, .ref yby, .ref ylo, .ref yhi, .int yac, .int ynx, .ref yro, .ref ygl, .int ysn, .ref yso, .ref ysp, .ref ysw, .long ysd, .ref yik, .ref ykp])), (yno, .inl (cI, 96, .inl f_13))] := hD
  refine lv_aload_n hx hb dX4_changeOn_55 rfl (lv_at hl 3 rfl) ?_
  refine va_get (D := D) (ci := 4) (v := .ref yno) (C := RX4) (T := TX4) (N := 30) hx hb hts iX4 hown hK hP 0 rfl rfl 5 (by decide) (hts (.fieldLink RX4 19 "PunchedTicketModel" "now" "[I") (List.mem_of_getElem? (i := 1) rfl)) (fun _ h9 => h9) rfl dX4_changeOn_56 ?_
  refine lv_iload hx hb dX4_changeOn_59 (lv_at hl 1 rfl) ?_
  refine lv_iload hx hb dX4_changeOn_61 (lv_at hl 0 rfl) ?_
  refine va_iast hx hb hK hP hD hS 1 0 rfl rfl (vp_in_iff.mpr ⟨by omega, by omega⟩) dX4_changeOn_63 (fun H locs hP hD hS => ?_)
  obtain ⟨f_14, ef_14⟩ : ∃ g : Nat → Int32, upd f_13 (v_10 : Int32).toNatClampNeg v_11 = g := ⟨_, rfl⟩
  rw [ef_14] at hP hD
  have hP : va_P D vwCl [(h0, .inr (4, [.int ype, .int ytk, .ref ywi, .ref yki, .ref yse, .ref yno, .ref yrh, .ref yrw, .ref yrk, .ref yrt, .int yrp, .int yrq, .ref ytx, .int yle, .int yat, .int yfa, .ref yby, .ref ylo, .ref yhi, .int yac, .int ynx, .ref yro, .ref ygl, .int ysn, .ref yso, .ref ysp, .ref ysw, .long ysd, .ref yik, .ref ykp])), (yno, .inl (cI, 96, .inl f_14))] H := hP
  have hD : va_D A [(h0, .inr (4, [.int ype, .int ytk, .ref ywi, .ref yki, .ref yse, .ref yno, .ref yrh, .ref yrw, .ref yrk, .ref yrt, .int yrp, .int yrq, .ref ytx, .int yle, .int yat, .int yfa, .ref yby, .ref ylo, .ref yhi, .int yac, .int ynx, .ref yro, .ref ygl, .int ysn, .ref yso, .ref ysp, .ref ysw, .long ysd, .ref yik, .ref ykp])), (yno, .inl (cI, 96, .inl f_14))] := hD
  exact ret_v (post := (fun (u : (Nat → Int32)) => True)) (W1 := (fun u => [(h0, .inr (4, [.int ype, .int ytk, .ref ywi, .ref yki, .ref yse, .ref yno, .ref yrh, .ref yrw, .ref yrk, .ref yrt, .int yrp, .int yrq, .ref ytx, .int yle, .int yat, .int yfa, .ref yby, .ref ylo, .ref yhi, .int yac, .int ynx, .ref yro, .ref ygl, .int ysn, .ref yso, .ref ysp, .ref ysw, .long ysd, .ref yik, .ref ykp])), (yno, .inl (cI, 96, .inl u))])) f_14 hx hb hr hlocks hQ hK hP hD hS ⟨by decide, by decide⟩ dX4_changeOn_64 trivial

set_option maxHeartbeats 600000 in
set_option maxRecDepth 100000 in
theorem c_X4_change (l : Launch) (D : va_G) (cI cZ cM : ClassId) (h0 : Nat) (n : Int32) (k : Int32) (ype : Int32) (ytk : Int32) (ywi : Nat) (yki : Nat) (yse : Nat) (yno : Nat) (yrh : Nat) (yrw : Nat) (yrk : Nat) (yrt : Nat) (yrp : Int32) (yrq : Int32) (ytx : Nat) (yle : Int32) (yat : Int32) (yfa : Int32) (yby : Nat) (ylo : Nat) (yhi : Nat) (yac : Int32) (ynx : Int32) (yro : Nat) (ygl : Nat) (ysn : Int32) (yso : Nat) (ysp : Nat) (ysw : Nat) (ysd : Int64) (yik : Nat) (ykp : Nat) (Fno : Nat → Int32) (Fro : Nat → Int32) (sz : Nat) (h_yac : 0 ≤ yac.toInt ∧ yac.toInt ≤ 14) (h_ynx : 0 ≤ ynx.toInt ∧ ynx.toInt ≤ 13) (h_ype : 0 ≤ ype.toInt ∧ ype.toInt ≤ 5) (h_ytk : 0 ≤ ytk.toInt ∧ ytk.toInt ≤ 6) : Ci l yX4_change wsX4_change ({ frames := 2, cells := 0, slots := 0, locals := 46 } : Room) D cI cZ cM [.ref h0, .int n, .int k] [(h0, .inr (4, [.int ype, .int ytk, .ref ywi, .ref yki, .ref yse, .ref yno, .ref yrh, .ref yrw, .ref yrk, .ref yrt, .int yrp, .int yrq, .ref ytx, .int yle, .int yat, .int yfa, .ref yby, .ref ylo, .ref yhi, .int yac, .int ynx, .ref yro, .ref ygl, .int ysn, .ref yso, .ref ysp, .ref ysw, .long ysd, .ref yik, .ref ykp])), (yno, .inl (cI, 96, .inl Fno)), (yro, .inl (cI, 672, .inl Fro))] sz (fun (r : Int32) (u : Int32 × Int32 × (Nat → Int32) × (Nat → Int32)) => (0 ≤ u.1.toInt ∧ u.1.toInt ≤ 14) ∧ (0 ≤ u.2.1.toInt ∧ u.2.1.toInt ≤ 13)) (fun u => [(h0, .inr (4, [.int ype, .int ytk, .ref ywi, .ref yki, .ref yse, .ref yno, .ref yrh, .ref yrw, .ref yrk, .ref yrt, .int yrp, .int yrq, .ref ytx, .int yle, .int yat, .int yfa, .ref yby, .ref ylo, .ref yhi, .int u.1, .int u.2.1, .ref yro, .ref ygl, .int ysn, .ref yso, .ref ysp, .ref ysw, .long ysd, .ref yik, .ref ykp])), (yno, .inl (cI, 96, .inl u.2.2.1)), (yro, .inl (cI, 672, .inl u.2.2.2))]) 0 0 := by
  refine begins (l := l) (y := yX4_change) (ws := wsX4_change) (av := [.ref h0, .int n, .int k]) (Qc := fun A => va_Qi (fun (r : Int32) (u : Int32 × Int32 × (Nat → Int32) × (Nat → Int32)) => (0 ≤ u.1.toInt ∧ u.1.toInt ≤ 14) ∧ (0 ≤ u.2.1.toInt ∧ u.2.1.toInt ≤ 13)) (fun u => Wd D cI cZ cM A ((fun u => [(h0, .inr (4, [.int ype, .int ytk, .ref ywi, .ref yki, .ref yse, .ref yno, .ref yrh, .ref yrw, .ref yrk, .ref yrt, .int yrp, .int yrq, .ref ytx, .int yle, .int yat, .int yfa, .ref yby, .ref ylo, .ref yhi, .int u.1, .int u.2.1, .ref yro, .ref ygl, .int ysn, .ref yso, .ref ysp, .ref ysw, .long ysd, .ref yik, .ref ykp])), (yno, .inl (cI, 96, .inl u.2.2.1)), (yro, .inl (cI, 672, .inl u.2.2.2))]) u)) A) cX4_change 3 (some .int) (by decide) rfl (Nat.le_of_ble_eq_true rfl) ?_
  intro p e s m args below meth c R Q A ls hBd hR hQ hA hS hK hP hD hl
  obtain ⟨hx, hb, hr, hts, hown, hlocks, hin, hml⟩ := hBd
  have hl : lv_has ls 3 [(0, .ref h0), (1, .int n), (2, .int k)] := hl
  have iX4 : ∀ w ∈ wsX40, w ∈ wsX4_change := fun _ h => List.mem_cons_of_mem _ (List.mem_append_right _ h)
  obtain ⟨h_yaca, h_yacb⟩ := h_yac
  obtain ⟨h_ynxa, h_ynxb⟩ := h_ynx
  obtain ⟨h_ypea, h_ypeb⟩ := h_ype
  obtain ⟨h_ytka, h_ytkb⟩ := h_ytk
  refine lv_aload_n hx hb dX4_change_0 rfl (lv_at hl 0 rfl) ?_
  refine lv_iload_n hx hb dX4_change_1 rfl (lv_at hl 1 rfl) ?_
  refine cV_i (As := [.int n]) (rest := []) ⟨hx, hb, hml, hown, hts⟩ (c_X4_isTicket l D cI cZ cM h0 n ype ytk ywi yki yse yno yrh yrw yrk yrt yrp yrq ytx yle yat yfa yby ylo yhi yac ynx yro ygl ysn yso ysp ysw ysd yik ykp _ (show 0 ≤ ytk.toInt ∧ ytk.toInt ≤ 6 by omega)) (cwV 1 hts gX4_change_X4_isTicket rfl rfl rfl (by decide +kernel) ⟨by rw [hR]; decide, by rw [hR]; decide⟩) hK hP hD hS hA [0] [1, 2] rfl rfl (by decide) (by decide) (by decide) rfl 0 rfl hl.1 rfl rfl (Nat.le_of_ble_eq_true rfl) dX4_change_2 ⟨by rw [hR]; decide, by rw [hR]; decide⟩ (fun r_1 u_2 H locs hw hP hD hS => ?_)
  have hP : va_P D vwCl [(h0, .inr (4, [.int ype, .int ytk, .ref ywi, .ref yki, .ref yse, .ref yno, .ref yrh, .ref yrw, .ref yrk, .ref yrt, .int yrp, .int yrq, .ref ytx, .int yle, .int yat, .int yfa, .ref yby, .ref ylo, .ref yhi, .int yac, .int ynx, .ref yro, .ref ygl, .int ysn, .ref yso, .ref ysp, .ref ysw, .long ysd, .ref yik, .ref ykp])), (yno, .inl (cI, 96, .inl Fno)), (yro, .inl (cI, 672, .inl Fro))] H := hP.sub [2, 0, 1] rfl
  have hD : va_D A [(h0, .inr (4, [.int ype, .int ytk, .ref ywi, .ref yki, .ref yse, .ref yno, .ref yrh, .ref yrw, .ref yrk, .ref yrt, .int yrp, .int yrq, .ref ytx, .int yle, .int yat, .int yfa, .ref yby, .ref ylo, .ref yhi, .int yac, .int ynx, .ref yro, .ref ygl, .int ysn, .ref yso, .ref ysp, .ref ysw, .long ysd, .ref yik, .ref ykp])), (yno, .inl (cI, 96, .inl Fno)), (yro, .inl (cI, 672, .inl Fro))] := hD.sub [2, 0, 1] (by decide) rfl
  refine W.widen (k := 0) (n := 0) (Nat.le_refl _) (Nat.le_refl _) ?_
  have hw : (r_1.toInt = 1 ∧ 0 ≤ n.toInt ∧ n.toInt < ytk.toInt) ∨ (r_1.toInt = 0 ∧ (n.toInt < 0 ∨ ytk.toInt ≤ n.toInt)) := hw
  have hw_3 := hw
  refine lv_if_eq (tgt := 16) hx hb dX4_change_5 (by decide) (fun c_4 => ?_) (fun c_4 => ?_)
  · have tc_4 := b_eq rfl (show (0 : Int32).toInt = 0 by decide) c_4
    refine lv_iconst (v := (-1)) hx hb dX4_change_16 (by decide) ?_
    exact ret_i (post := (fun (r : Int32) (u : Int32 × Int32 × (Nat → Int32) × (Nat → Int32)) => (0 ≤ u.1.toInt ∧ u.1.toInt ≤ 14) ∧ (0 ≤ u.2.1.toInt ∧ u.2.1.toInt ≤ 13))) (W1 := (fun u => [(h0, .inr (4, [.int ype, .int ytk, .ref ywi, .ref yki, .ref yse, .ref yno, .ref yrh, .ref yrw, .ref yrk, .ref yrt, .int yrp, .int yrq, .ref ytx, .int yle, .int yat, .int yfa, .ref yby, .ref ylo, .ref yhi, .int u.1, .int u.2.1, .ref yro, .ref ygl, .int ysn, .ref yso, .ref ysp, .ref ysw, .long ysd, .ref yik, .ref ykp])), (yno, .inl (cI, 96, .inl u.2.2.1)), (yro, .inl (cI, 672, .inl u.2.2.2))])) (yac, ynx, Fno, Fro) hx hb hr hlocks rfl hQ hK hP hD hS ⟨by decide, by decide⟩ dX4_change_17 (show (0 ≤ yac.toInt ∧ yac.toInt ≤ 14) ∧ (0 ≤ ynx.toInt ∧ ynx.toInt ≤ 13) by omega)
  · have tc_4 := b_ne rfl (show (0 : Int32).toInt = 0 by decide) c_4
    refine lv_aload_n hx hb dX4_change_8 rfl (lv_at hl 0 rfl) ?_
    refine lv_iload_n hx hb dX4_change_9 rfl (lv_at hl 2 rfl) ?_
    refine cV_i (As := [.int k]) (rest := []) ⟨hx, hb, hml, hown, hts⟩ (c_X4_isTicket l D cI cZ cM h0 k ype ytk ywi yki yse yno yrh yrw yrk yrt yrp yrq ytx yle yat yfa yby ylo yhi yac ynx yro ygl ysn yso ysp ysw ysd yik ykp _ (show 0 ≤ ytk.toInt ∧ ytk.toInt ≤ 6 by omega)) (cwV 1 hts gX4_change_X4_isTicket rfl rfl rfl (by decide +kernel) ⟨by rw [hR]; decide, by rw [hR]; decide⟩) hK hP hD hS hA [0] [1, 2] rfl rfl (by decide) (by decide) (by decide) rfl 0 rfl hl.1 rfl rfl (Nat.le_of_ble_eq_true rfl) dX4_change_10 ⟨by rw [hR]; decide, by rw [hR]; decide⟩ (fun r_5 u_6 H locs hw hP hD hS => ?_)
    have hP : va_P D vwCl [(h0, .inr (4, [.int ype, .int ytk, .ref ywi, .ref yki, .ref yse, .ref yno, .ref yrh, .ref yrw, .ref yrk, .ref yrt, .int yrp, .int yrq, .ref ytx, .int yle, .int yat, .int yfa, .ref yby, .ref ylo, .ref yhi, .int yac, .int ynx, .ref yro, .ref ygl, .int ysn, .ref yso, .ref ysp, .ref ysw, .long ysd, .ref yik, .ref ykp])), (yno, .inl (cI, 96, .inl Fno)), (yro, .inl (cI, 672, .inl Fro))] H := hP.sub [2, 0, 1] rfl
    have hD : va_D A [(h0, .inr (4, [.int ype, .int ytk, .ref ywi, .ref yki, .ref yse, .ref yno, .ref yrh, .ref yrw, .ref yrk, .ref yrt, .int yrp, .int yrq, .ref ytx, .int yle, .int yat, .int yfa, .ref yby, .ref ylo, .ref yhi, .int yac, .int ynx, .ref yro, .ref ygl, .int ysn, .ref yso, .ref ysp, .ref ysw, .long ysd, .ref yik, .ref ykp])), (yno, .inl (cI, 96, .inl Fno)), (yro, .inl (cI, 672, .inl Fro))] := hD.sub [2, 0, 1] (by decide) rfl
    refine W.widen (k := 0) (n := 0) (Nat.le_refl _) (Nat.le_refl _) ?_
    have hw : (r_5.toInt = 1 ∧ 0 ≤ k.toInt ∧ k.toInt < ytk.toInt) ∨ (r_5.toInt = 0 ∧ (k.toInt < 0 ∨ ytk.toInt ≤ k.toInt)) := hw
    have hw_7 := hw
    refine lv_if_ne (tgt := 18) hx hb dX4_change_13 (by decide) (fun c_8 => ?_) (fun c_8 => ?_)
    · have tc_8 := b_ne rfl (show (0 : Int32).toInt = 0 by decide) c_8
      have hn1 : 0 ≤ n.toInt := by omega
      have hn2 : n.toInt ≤ 5 := by omega
      have hk1 : 0 ≤ k.toInt := by omega
      have hk2 : k.toInt ≤ 5 := by omega
      refine lv_aload_n hx hb dX4_change_18 rfl (lv_at hl 0 rfl) ?_
      refine lv_iload_n hx hb dX4_change_19 rfl (lv_at hl 1 rfl) ?_
      refine lv_iload_n hx hb dX4_change_20 rfl (lv_at hl 2 rfl) ?_
      refine cV_i (As := [.int n, .int k]) (rest := []) ⟨hx, hb, hml, hown, hts⟩ (c_X4_canChange l D cI cZ cM h0 n k ype ytk ywi yki yse yno yrh yrw yrk yrt yrp yrq ytx yle yat yfa yby ylo yhi yac ynx yro ygl ysn yso ysp ysw ysd yik ykp Fno _ (show 0 ≤ n.toInt ∧ n.toInt ≤ 6 by omega) (show 0 ≤ k.toInt ∧ k.toInt ≤ 6 by omega)) (cwV 2 hts gX4_change_X4_canChange rfl rfl rfl (by decide +kernel) ⟨by rw [hR]; decide, by rw [hR]; decide⟩) hK hP hD hS hA [0, 1] [2] rfl rfl (by decide) (by decide) (by decide) rfl 0 rfl hl.1 rfl rfl (Nat.le_of_ble_eq_true rfl) dX4_change_21 ⟨by rw [hR]; decide, by rw [hR]; decide⟩ (fun r_9 u_10 H locs hw hP hD hS => ?_)
      have hP : va_P D vwCl [(h0, .inr (4, [.int ype, .int ytk, .ref ywi, .ref yki, .ref yse, .ref yno, .ref yrh, .ref yrw, .ref yrk, .ref yrt, .int yrp, .int yrq, .ref ytx, .int yle, .int yat, .int yfa, .ref yby, .ref ylo, .ref yhi, .int yac, .int ynx, .ref yro, .ref ygl, .int ysn, .ref yso, .ref ysp, .ref ysw, .long ysd, .ref yik, .ref ykp])), (yno, .inl (cI, 96, .inl Fno)), (yro, .inl (cI, 672, .inl Fro))] H := hP.sub [1, 2, 0] rfl
      have hD : va_D A [(h0, .inr (4, [.int ype, .int ytk, .ref ywi, .ref yki, .ref yse, .ref yno, .ref yrh, .ref yrw, .ref yrk, .ref yrt, .int yrp, .int yrq, .ref ytx, .int yle, .int yat, .int yfa, .ref yby, .ref ylo, .ref yhi, .int yac, .int ynx, .ref yro, .ref ygl, .int ysn, .ref yso, .ref ysp, .ref ysw, .long ysd, .ref yik, .ref ykp])), (yno, .inl (cI, 96, .inl Fno)), (yro, .inl (cI, 672, .inl Fro))] := hD.sub [1, 2, 0] (by decide) rfl
      refine W.widen (k := 0) (n := 0) (Nat.le_refl _) (Nat.le_refl _) ?_
      have hw : (r_9.toInt = 0 ∨ r_9.toInt = 1) := hw
      have hw_11 := hw
      refine lv_if_ne (tgt := 30) hx hb dX4_change_24 (by decide) (fun c_12 => ?_) (fun c_12 => ?_)
      · have tc_12 := b_ne rfl (show (0 : Int32).toInt = 0 by decide) c_12
        refine lv_aload_n hx hb dX4_change_30 rfl (lv_at hl 0 rfl) ?_
        refine cV_v (As := []) (rest := []) ⟨hx, hb, hml, hown, hts⟩ (c_X4_keepAct l D cI cZ cM h0 ype ytk ywi yki yse yno yrh yrw yrk yrt yrp yrq ytx yle yat yfa yby ylo yhi yac ynx yro ygl ysn yso ysp ysw ysd yik ykp Fno Fro _ (show 0 ≤ yac.toInt ∧ yac.toInt ≤ 14 by omega) (show 0 ≤ ynx.toInt ∧ ynx.toInt ≤ 13 by omega)) (cwV 0 hts gX4_change_X4_keepAct rfl rfl rfl (by decide +kernel) ⟨by rw [hR]; decide, by rw [hR]; decide⟩) hK hP hD hS hA [0, 1, 2] [] rfl rfl (by decide) (by decide) (by decide) rfl 0 rfl hl.1 rfl rfl (Nat.le_of_ble_eq_true rfl) dX4_change_31 ⟨by rw [hR]; decide, by rw [hR]; decide⟩ (fun u_17 H locs hw hP hD hS => ?_)
        obtain ⟨ac1_13, nx1_14, Gro_15⟩ := u_17
        have hP : va_P D vwCl [(h0, .inr (4, [.int ype, .int ytk, .ref ywi, .ref yki, .ref yse, .ref yno, .ref yrh, .ref yrw, .ref yrk, .ref yrt, .int yrp, .int yrq, .ref ytx, .int yle, .int yat, .int yfa, .ref yby, .ref ylo, .ref yhi, .int ac1_13, .int nx1_14, .ref yro, .ref ygl, .int ysn, .ref yso, .ref ysp, .ref ysw, .long ysd, .ref yik, .ref ykp])), (yno, .inl (cI, 96, .inl Fno)), (yro, .inl (cI, 672, .inl Gro_15))] H := hP.sub [0, 1, 2] rfl
        have hD : va_D A [(h0, .inr (4, [.int ype, .int ytk, .ref ywi, .ref yki, .ref yse, .ref yno, .ref yrh, .ref yrw, .ref yrk, .ref yrt, .int yrp, .int yrq, .ref ytx, .int yle, .int yat, .int yfa, .ref yby, .ref ylo, .ref yhi, .int ac1_13, .int nx1_14, .ref yro, .ref ygl, .int ysn, .ref yso, .ref ysp, .ref ysw, .long ysd, .ref yik, .ref ykp])), (yno, .inl (cI, 96, .inl Fno)), (yro, .inl (cI, 672, .inl Gro_15))] := hD.sub [0, 1, 2] (by decide) rfl
        refine W.widen (k := 0) (n := 0) (Nat.le_refl _) (Nat.le_refl _) ?_
        have hw : (0 ≤ ac1_13.toInt ∧ ac1_13.toInt ≤ 14) ∧ (0 ≤ nx1_14.toInt ∧ nx1_14.toInt ≤ 13) := hw
        have hw_18 := hw
        refine lv_aload_n hx hb dX4_change_34 rfl (lv_at hl 0 rfl) ?_
        refine lv_iconst (v := 0) hx hb dX4_change_35 (by decide) ?_
        refine lv_iload_n hx hb dX4_change_36 rfl (lv_at hl 1 rfl) ?_
        refine lv_iload_n hx hb dX4_change_37 rfl (lv_at hl 2 rfl) ?_
        refine cV_v (As := [.int 0, .int n, .int k]) (rest := []) ⟨hx, hb, hml, hown, hts⟩ (c_X4_changeOn l D cI cZ cM h0 0 n k ype ytk ywi yki yse yno yrh yrw yrk yrt yrp yrq ytx yle yat yfa yby ylo yhi ac1_13 nx1_14 yro ygl ysn yso ysp ysw ysd yik ykp Fno _ (by decide) (show 0 ≤ n.toInt ∧ n.toInt ≤ 6 by omega) (show 0 ≤ k.toInt ∧ k.toInt ≤ 6 by omega)) (cwV 3 hts gX4_change_X4_changeOn rfl rfl rfl (by decide +kernel) ⟨by rw [hR]; decide, by rw [hR]; decide⟩) hK hP hD hS hA [0, 1] [2] rfl rfl (by decide) (by decide) (by decide) rfl 0 rfl hl.1 rfl rfl (Nat.le_of_ble_eq_true rfl) dX4_change_38 ⟨by rw [hR]; decide, by rw [hR]; decide⟩ (fun u_21 H locs hw hP hD hS => ?_)
        obtain ⟨Gno_19, rfl⟩ : ∃ z, z = u_21 := ⟨_, rfl⟩
        have hP : va_P D vwCl [(h0, .inr (4, [.int ype, .int ytk, .ref ywi, .ref yki, .ref yse, .ref yno, .ref yrh, .ref yrw, .ref yrk, .ref yrt, .int yrp, .int yrq, .ref ytx, .int yle, .int yat, .int yfa, .ref yby, .ref ylo, .ref yhi, .int ac1_13, .int nx1_14, .ref yro, .ref ygl, .int ysn, .ref yso, .ref ysp, .ref ysw, .long ysd, .ref yik, .ref ykp])), (yno, .inl (cI, 96, .inl Gno_19)), (yro, .inl (cI, 672, .inl Gro_15))] H := hP.sub [1, 2, 0] rfl
        have hD : va_D A [(h0, .inr (4, [.int ype, .int ytk, .ref ywi, .ref yki, .ref yse, .ref yno, .ref yrh, .ref yrw, .ref yrk, .ref yrt, .int yrp, .int yrq, .ref ytx, .int yle, .int yat, .int yfa, .ref yby, .ref ylo, .ref yhi, .int ac1_13, .int nx1_14, .ref yro, .ref ygl, .int ysn, .ref yso, .ref ysp, .ref ysw, .long ysd, .ref yik, .ref ykp])), (yno, .inl (cI, 96, .inl Gno_19)), (yro, .inl (cI, 672, .inl Gro_15))] := hD.sub [1, 2, 0] (by decide) rfl
        refine W.widen (k := 0) (n := 0) (Nat.le_refl _) (Nat.le_refl _) ?_
        refine lv_aload_n hx hb dX4_change_41 rfl (lv_at hl 0 rfl) ?_
        refine lv_iload_n hx hb dX4_change_42 rfl (lv_at hl 1 rfl) ?_
        refine cV_i (As := [.int n]) (rest := []) ⟨hx, hb, hml, hown, hts⟩ (c_X4_holder l D cI cZ cM h0 n ype ytk ywi yki yse yno yrh yrw yrk yrt yrp yrq ytx yle yat yfa yby ylo yhi ac1_13 nx1_14 yro ygl ysn yso ysp ysw ysd yik ykp Gno_19 _ (show 0 ≤ n.toInt ∧ n.toInt ≤ 6 by omega)) (cwV 1 hts gX4_change_X4_holder rfl rfl rfl (by decide +kernel) ⟨by rw [hR]; decide, by rw [hR]; decide⟩) hK hP hD hS hA [0, 1] [2] rfl rfl (by decide) (by decide) (by decide) rfl 0 rfl hl.1 rfl rfl (Nat.le_of_ble_eq_true rfl) dX4_change_43 ⟨by rw [hR]; decide, by rw [hR]; decide⟩ (fun r_22 u_23 H locs hw hP hD hS => ?_)
        have hP : va_P D vwCl [(h0, .inr (4, [.int ype, .int ytk, .ref ywi, .ref yki, .ref yse, .ref yno, .ref yrh, .ref yrw, .ref yrk, .ref yrt, .int yrp, .int yrq, .ref ytx, .int yle, .int yat, .int yfa, .ref yby, .ref ylo, .ref yhi, .int ac1_13, .int nx1_14, .ref yro, .ref ygl, .int ysn, .ref yso, .ref ysp, .ref ysw, .long ysd, .ref yik, .ref ykp])), (yno, .inl (cI, 96, .inl Gno_19)), (yro, .inl (cI, 672, .inl Gro_15))] H := hP.sub [1, 2, 0] rfl
        have hD : va_D A [(h0, .inr (4, [.int ype, .int ytk, .ref ywi, .ref yki, .ref yse, .ref yno, .ref yrh, .ref yrw, .ref yrk, .ref yrt, .int yrp, .int yrq, .ref ytx, .int yle, .int yat, .int yfa, .ref yby, .ref ylo, .ref yhi, .int ac1_13, .int nx1_14, .ref yro, .ref ygl, .int ysn, .ref yso, .ref ysp, .ref ysw, .long ysd, .ref yik, .ref ykp])), (yno, .inl (cI, 96, .inl Gno_19)), (yro, .inl (cI, 672, .inl Gro_15))] := hD.sub [1, 2, 0] (by decide) rfl
        refine W.widen (k := 0) (n := 0) (Nat.le_refl _) (Nat.le_refl _) ?_
        exact ret_i (post := (fun (r : Int32) (u : Int32 × Int32 × (Nat → Int32) × (Nat → Int32)) => (0 ≤ u.1.toInt ∧ u.1.toInt ≤ 14) ∧ (0 ≤ u.2.1.toInt ∧ u.2.1.toInt ≤ 13))) (W1 := (fun u => [(h0, .inr (4, [.int ype, .int ytk, .ref ywi, .ref yki, .ref yse, .ref yno, .ref yrh, .ref yrw, .ref yrk, .ref yrt, .int yrp, .int yrq, .ref ytx, .int yle, .int yat, .int yfa, .ref yby, .ref ylo, .ref yhi, .int u.1, .int u.2.1, .ref yro, .ref ygl, .int ysn, .ref yso, .ref ysp, .ref ysw, .long ysd, .ref yik, .ref ykp])), (yno, .inl (cI, 96, .inl u.2.2.1)), (yro, .inl (cI, 672, .inl u.2.2.2))])) (ac1_13, nx1_14, Gno_19, Gro_15) hx hb hr hlocks rfl hQ hK hP hD hS ⟨by decide, by decide⟩ dX4_change_46 (show (0 ≤ ac1_13.toInt ∧ ac1_13.toInt ≤ 14) ∧ (0 ≤ nx1_14.toInt ∧ nx1_14.toInt ≤ 13) by omega)
      · have tc_12 := b_eq rfl (show (0 : Int32).toInt = 0 by decide) c_12
        refine lv_bipush (v := (-3)) hx hb dX4_change_27 (by decide) ?_
        exact ret_i (post := (fun (r : Int32) (u : Int32 × Int32 × (Nat → Int32) × (Nat → Int32)) => (0 ≤ u.1.toInt ∧ u.1.toInt ≤ 14) ∧ (0 ≤ u.2.1.toInt ∧ u.2.1.toInt ≤ 13))) (W1 := (fun u => [(h0, .inr (4, [.int ype, .int ytk, .ref ywi, .ref yki, .ref yse, .ref yno, .ref yrh, .ref yrw, .ref yrk, .ref yrt, .int yrp, .int yrq, .ref ytx, .int yle, .int yat, .int yfa, .ref yby, .ref ylo, .ref yhi, .int u.1, .int u.2.1, .ref yro, .ref ygl, .int ysn, .ref yso, .ref ysp, .ref ysw, .long ysd, .ref yik, .ref ykp])), (yno, .inl (cI, 96, .inl u.2.2.1)), (yro, .inl (cI, 672, .inl u.2.2.2))])) (yac, ynx, Fno, Fro) hx hb hr hlocks rfl hQ hK hP hD hS ⟨by decide, by decide⟩ dX4_change_29 (show (0 ≤ yac.toInt ∧ yac.toInt ≤ 14) ∧ (0 ≤ ynx.toInt ∧ ynx.toInt ≤ 13) by omega)
    · have tc_8 := b_eq rfl (show (0 : Int32).toInt = 0 by decide) c_8
      refine lv_iconst (v := (-1)) hx hb dX4_change_16 (by decide) ?_
      exact ret_i (post := (fun (r : Int32) (u : Int32 × Int32 × (Nat → Int32) × (Nat → Int32)) => (0 ≤ u.1.toInt ∧ u.1.toInt ≤ 14) ∧ (0 ≤ u.2.1.toInt ∧ u.2.1.toInt ≤ 13))) (W1 := (fun u => [(h0, .inr (4, [.int ype, .int ytk, .ref ywi, .ref yki, .ref yse, .ref yno, .ref yrh, .ref yrw, .ref yrk, .ref yrt, .int yrp, .int yrq, .ref ytx, .int yle, .int yat, .int yfa, .ref yby, .ref ylo, .ref yhi, .int u.1, .int u.2.1, .ref yro, .ref ygl, .int ysn, .ref yso, .ref ysp, .ref ysw, .long ysd, .ref yik, .ref ykp])), (yno, .inl (cI, 96, .inl u.2.2.1)), (yro, .inl (cI, 672, .inl u.2.2.2))])) (yac, ynx, Fno, Fro) hx hb hr hlocks rfl hQ hK hP hD hS ⟨by decide, by decide⟩ dX4_change_17 (show (0 ≤ yac.toInt ∧ yac.toInt ≤ 14) ∧ (0 ≤ ynx.toInt ∧ ynx.toInt ≤ 13) by omega)

set_option maxHeartbeats 600000 in
set_option maxRecDepth 100000 in
theorem c_X4_where (l : Launch) (D : va_G) (cI cZ cM : ClassId) (h0 : Nat) (n : Int32) (k : Int32) (ype : Int32) (ytk : Int32) (ywi : Nat) (yki : Nat) (yse : Nat) (yno : Nat) (yrh : Nat) (yrw : Nat) (yrk : Nat) (yrt : Nat) (yrp : Int32) (yrq : Int32) (ytx : Nat) (yle : Int32) (yat : Int32) (yfa : Int32) (yby : Nat) (ylo : Nat) (yhi : Nat) (yac : Int32) (ynx : Int32) (yro : Nat) (ygl : Nat) (ysn : Int32) (yso : Nat) (ysp : Nat) (ysw : Nat) (ysd : Int64) (yik : Nat) (ykp : Nat) (Fno : Nat → Int32) (Fki : Nat → Int32) (Fby : Nat → Int32) (Flo : Nat → Int32) (Fhi : Nat → Int32) (sz : Nat) (hBy : ByOk Fby) (h_ype : 0 ≤ ype.toInt ∧ ype.toInt ≤ 5) (h_ytk : 0 ≤ ytk.toInt ∧ ytk.toInt ≤ 6) : Ci l yX4_where wsX4_where ({ frames := 2, cells := 0, slots := 0, locals := 56 } : Room) D cI cZ cM [.ref h0, .int n, .int k] [(h0, .inr (4, [.int ype, .int ytk, .ref ywi, .ref yki, .ref yse, .ref yno, .ref yrh, .ref yrw, .ref yrk, .ref yrt, .int yrp, .int yrq, .ref ytx, .int yle, .int yat, .int yfa, .ref yby, .ref ylo, .ref yhi, .int yac, .int ynx, .ref yro, .ref ygl, .int ysn, .ref yso, .ref ysp, .ref ysw, .long ysd, .ref yik, .ref ykp])), (yno, .inl (cI, 96, .inl Fno)), (yki, .inl (cI, 5, .inl Fki)), (yby, .inl (cI, 5, .inl Fby)), (ylo, .inl (cI, 5, .inl Flo)), (yhi, .inl (cI, 5, .inl Fhi))] sz (fun (r : Int32) (u : (Nat → Int32) × (Nat → Int32) × (Nat → Int32) × (Nat → Int32)) => ByOk u.2.1) (fun u => [(h0, .inr (4, [.int ype, .int ytk, .ref ywi, .ref yki, .ref yse, .ref yno, .ref yrh, .ref yrw, .ref yrk, .ref yrt, .int yrp, .int yrq, .ref ytx, .int yle, .int yat, .int yfa, .ref yby, .ref ylo, .ref yhi, .int yac, .int ynx, .ref yro, .ref ygl, .int ysn, .ref yso, .ref ysp, .ref ysw, .long ysd, .ref yik, .ref ykp])), (yno, .inl (cI, 96, .inl u.1)), (yki, .inl (cI, 5, .inl Fki)), (yby, .inl (cI, 5, .inl u.2.1)), (ylo, .inl (cI, 5, .inl u.2.2.1)), (yhi, .inl (cI, 5, .inl u.2.2.2))]) 0 0 := by
  refine begins (l := l) (y := yX4_where) (ws := wsX4_where) (av := [.ref h0, .int n, .int k]) (Qc := fun A => va_Qi (fun (r : Int32) (u : (Nat → Int32) × (Nat → Int32) × (Nat → Int32) × (Nat → Int32)) => ByOk u.2.1) (fun u => Wd D cI cZ cM A ((fun u => [(h0, .inr (4, [.int ype, .int ytk, .ref ywi, .ref yki, .ref yse, .ref yno, .ref yrh, .ref yrw, .ref yrk, .ref yrt, .int yrp, .int yrq, .ref ytx, .int yle, .int yat, .int yfa, .ref yby, .ref ylo, .ref yhi, .int yac, .int ynx, .ref yro, .ref ygl, .int ysn, .ref yso, .ref ysp, .ref ysw, .long ysd, .ref yik, .ref ykp])), (yno, .inl (cI, 96, .inl u.1)), (yki, .inl (cI, 5, .inl Fki)), (yby, .inl (cI, 5, .inl u.2.1)), (ylo, .inl (cI, 5, .inl u.2.2.1)), (yhi, .inl (cI, 5, .inl u.2.2.2))]) u)) A) cX4_where 3 (some .int) (by decide) rfl (Nat.le_of_ble_eq_true rfl) ?_
  intro p e s m args below meth c R Q A ls hBd hR hQ hA hS hK hP hD hl
  obtain ⟨hx, hb, hr, hts, hown, hlocks, hin, hml⟩ := hBd
  have hl : lv_has ls 3 [(0, .ref h0), (1, .int n), (2, .int k)] := hl
  have iX4 : ∀ w ∈ wsX40, w ∈ wsX4_where := fun _ h => List.mem_cons_of_mem _ (List.mem_append_right _ h)
  obtain ⟨h_ypea, h_ypeb⟩ := h_ype
  obtain ⟨h_ytka, h_ytkb⟩ := h_ytk
  refine lv_aload_n hx hb dX4_where_0 rfl (lv_at hl 0 rfl) ?_
  refine lv_iload_n hx hb dX4_where_1 rfl (lv_at hl 1 rfl) ?_
  refine cV_i (As := [.int n]) (rest := []) ⟨hx, hb, hml, hown, hts⟩ (c_X4_isPerson l D cI cZ cM h0 n ype ytk ywi yki yse yno yrh yrw yrk yrt yrp yrq ytx yle yat yfa yby ylo yhi yac ynx yro ygl ysn yso ysp ysw ysd yik ykp _ (show 0 ≤ ype.toInt ∧ ype.toInt ≤ 6 by omega)) (cwV 1 hts gX4_where_X4_isPerson rfl rfl rfl (by decide +kernel) ⟨by rw [hR]; decide, by rw [hR]; decide⟩) hK hP hD hS hA [0] [1, 2, 3, 4, 5] rfl rfl (by decide) (by decide) (by decide) rfl 0 rfl hl.1 rfl rfl (Nat.le_of_ble_eq_true rfl) dX4_where_2 ⟨by rw [hR]; decide, by rw [hR]; decide⟩ (fun r_1 u_2 H locs hw hP hD hS => ?_)
  have hP : va_P D vwCl [(h0, .inr (4, [.int ype, .int ytk, .ref ywi, .ref yki, .ref yse, .ref yno, .ref yrh, .ref yrw, .ref yrk, .ref yrt, .int yrp, .int yrq, .ref ytx, .int yle, .int yat, .int yfa, .ref yby, .ref ylo, .ref yhi, .int yac, .int ynx, .ref yro, .ref ygl, .int ysn, .ref yso, .ref ysp, .ref ysw, .long ysd, .ref yik, .ref ykp])), (yno, .inl (cI, 96, .inl Fno)), (yki, .inl (cI, 5, .inl Fki)), (yby, .inl (cI, 5, .inl Fby)), (ylo, .inl (cI, 5, .inl Flo)), (yhi, .inl (cI, 5, .inl Fhi))] H := hP.sub [5, 0, 1, 2, 3, 4] rfl
  have hD : va_D A [(h0, .inr (4, [.int ype, .int ytk, .ref ywi, .ref yki, .ref yse, .ref yno, .ref yrh, .ref yrw, .ref yrk, .ref yrt, .int yrp, .int yrq, .ref ytx, .int yle, .int yat, .int yfa, .ref yby, .ref ylo, .ref yhi, .int yac, .int ynx, .ref yro, .ref ygl, .int ysn, .ref yso, .ref ysp, .ref ysw, .long ysd, .ref yik, .ref ykp])), (yno, .inl (cI, 96, .inl Fno)), (yki, .inl (cI, 5, .inl Fki)), (yby, .inl (cI, 5, .inl Fby)), (ylo, .inl (cI, 5, .inl Flo)), (yhi, .inl (cI, 5, .inl Fhi))] := hD.sub [5, 0, 1, 2, 3, 4] (by decide) rfl
  refine W.widen (k := 0) (n := 0) (Nat.le_refl _) (Nat.le_refl _) ?_
  have hw : (r_1.toInt = 1 ∧ 0 ≤ n.toInt ∧ n.toInt < ype.toInt) ∨ (r_1.toInt = 0 ∧ (n.toInt < 0 ∨ ype.toInt ≤ n.toInt)) := hw
  have hw_3 := hw
  refine lv_if_ne (tgt := 10) hx hb dX4_where_5 (by decide) (fun c_4 => ?_) (fun c_4 => ?_)
  · have tc_4 := b_ne rfl (show (0 : Int32).toInt = 0 by decide) c_4
    have hn1 : 0 ≤ n.toInt := by omega
    have hn2 : n.toInt ≤ 4 := by omega
    refine lv_iload_n hx hb dX4_where_10 rfl (lv_at hl 2 rfl) ?_
    obtain ⟨w_5, ew_5⟩ : ∃ z : Int64, k.toInt64 = z := ⟨_, rfl⟩
    have tw_5 : w_5.toInt = k.toInt := by rw [← ew_5, Int32.toInt_toInt64]
    refine lv_i2l hx hb dX4_where_11 ew_5 ?_
    refine lv_lconst (v := 0) hx hb dX4_where_12 (by decide) ?_
    refine lv_ldc2 (v := (10)) hx hb hown (hts (.constantLong RX4 155 (10)) (List.mem_of_getElem? (i := 1) rfl)) dX4_where_13 ?_
    refine cS_i (As := [.long w_5, .long 0, .long (10)]) (rest := []) ⟨hx, hb, hml, hown, hts⟩ (c_X4_in l D cI cZ cM w_5 0 (10) _ ) (va_cwS 3 hts gX4_where_X4_in rfl rfl rfl (by decide +kernel) ⟨by rw [hR]; decide, by rw [hR]; decide⟩) hK hP hD hS hA [] [0, 1, 2, 3, 4, 5] rfl rfl (by decide) (by decide) (by decide) hl.1 rfl rfl (Nat.le_of_ble_eq_true rfl) dX4_where_16 ⟨by rw [hR]; decide, by rw [hR]; decide⟩ (fun r_6 u_7 H locs hw hP hD hS => ?_)
    have hP : va_P D vwCl [(h0, .inr (4, [.int ype, .int ytk, .ref ywi, .ref yki, .ref yse, .ref yno, .ref yrh, .ref yrw, .ref yrk, .ref yrt, .int yrp, .int yrq, .ref ytx, .int yle, .int yat, .int yfa, .ref yby, .ref ylo, .ref yhi, .int yac, .int ynx, .ref yro, .ref ygl, .int ysn, .ref yso, .ref ysp, .ref ysw, .long ysd, .ref yik, .ref ykp])), (yno, .inl (cI, 96, .inl Fno)), (yki, .inl (cI, 5, .inl Fki)), (yby, .inl (cI, 5, .inl Fby)), (ylo, .inl (cI, 5, .inl Flo)), (yhi, .inl (cI, 5, .inl Fhi))] H := hP.sub [0, 1, 2, 3, 4, 5] rfl
    have hD : va_D A [(h0, .inr (4, [.int ype, .int ytk, .ref ywi, .ref yki, .ref yse, .ref yno, .ref yrh, .ref yrw, .ref yrk, .ref yrt, .int yrp, .int yrq, .ref ytx, .int yle, .int yat, .int yfa, .ref yby, .ref ylo, .ref yhi, .int yac, .int ynx, .ref yro, .ref ygl, .int ysn, .ref yso, .ref ysp, .ref ysw, .long ysd, .ref yik, .ref ykp])), (yno, .inl (cI, 96, .inl Fno)), (yki, .inl (cI, 5, .inl Fki)), (yby, .inl (cI, 5, .inl Fby)), (ylo, .inl (cI, 5, .inl Flo)), (yhi, .inl (cI, 5, .inl Fhi))] := hD.sub [0, 1, 2, 3, 4, 5] (by decide) rfl
    refine W.widen (k := 0) (n := 0) (Nat.le_refl _) (Nat.le_refl _) ?_
    have hw : (r_6.toInt = 1 ∧ (0 : Int) ≤ w_5.toInt ∧ w_5.toInt ≤ (10 : Int)) ∨ (r_6.toInt = 0 ∧ (w_5.toInt < (0 : Int) ∨ (10 : Int) < w_5.toInt)) := hw
    have hw_8 := hw
    refine lv_if_ne (tgt := 25) hx hb dX4_where_19 (by decide) (fun c_9 => ?_) (fun c_9 => ?_)
    · have tc_9 := b_ne rfl (show (0 : Int32).toInt = 0 by decide) c_9
      have hk1 : 0 ≤ k.toInt := by omega
      have hk2 : k.toInt ≤ 10 := by omega
      refine lv_iload_n hx hb dX4_where_25 rfl (lv_at hl 2 rfl) ?_
      refine lv_aload_n hx hb dX4_where_26 rfl (lv_at hl 0 rfl) ?_
      refine va_get (D := D) (ci := 4) (v := .ref yno) (C := RX4) (T := TX4) (N := 30) hx hb hts iX4 hown hK hP 0 rfl rfl 5 (by decide) (hts (.fieldLink RX4 19 "PunchedTicketModel" "now" "[I") (List.mem_of_getElem? (i := 2) rfl)) (fun _ h9 => h9) rfl dX4_where_27 ?_
      refine lv_iconst (v := 0) hx hb dX4_where_30 (by decide) ?_
      refine va_iald hx hb hK hP 1 0 rfl rfl (vp_in_iff.mpr (by decide)) dX4_where_31 ?_
      refine lv_topi (fun v_10 ev_10 => ?_)
      refine lv_icmp_ge (tgt := 38) hx hb dX4_where_32 (by decide) (fun c_11 => ?_) (fun c_11 => ?_)
      · have tc_11 := b_le rfl rfl c_11
        refine lv_aload_n hx hb dX4_where_38 rfl (lv_at hl 0 rfl) ?_
        refine cV_v (As := []) (rest := []) ⟨hx, hb, hml, hown, hts⟩ (c_X4_layTrial l D cI cZ cM h0 ype ytk ywi yki yse yno yrh yrw yrk yrt yrp yrq ytx yle yat yfa yby ylo yhi yac ynx yro ygl ysn yso ysp ysw ysd yik ykp Fno _ ) (cwV 0 hts gX4_where_X4_layTrial rfl rfl rfl (by decide +kernel) ⟨by rw [hR]; decide, by rw [hR]; decide⟩) hK hP hD hS hA [0, 1] [2, 3, 4, 5] rfl rfl (by decide) (by decide) (by decide) rfl 0 rfl hl.1 rfl rfl (Nat.le_of_ble_eq_true rfl) dX4_where_39 ⟨by rw [hR]; decide, by rw [hR]; decide⟩ (fun u_14 H locs hw hP hD hS => ?_)
        obtain ⟨Gno_12, rfl⟩ : ∃ z, z = u_14 := ⟨_, rfl⟩
        have hP : va_P D vwCl [(h0, .inr (4, [.int ype, .int ytk, .ref ywi, .ref yki, .ref yse, .ref yno, .ref yrh, .ref yrw, .ref yrk, .ref yrt, .int yrp, .int yrq, .ref ytx, .int yle, .int yat, .int yfa, .ref yby, .ref ylo, .ref yhi, .int yac, .int ynx, .ref yro, .ref ygl, .int ysn, .ref yso, .ref ysp, .ref ysw, .long ysd, .ref yik, .ref ykp])), (yno, .inl (cI, 96, .inl Gno_12)), (yki, .inl (cI, 5, .inl Fki)), (yby, .inl (cI, 5, .inl Fby)), (ylo, .inl (cI, 5, .inl Flo)), (yhi, .inl (cI, 5, .inl Fhi))] H := hP.sub [4, 5, 0, 1, 2, 3] rfl
        have hD : va_D A [(h0, .inr (4, [.int ype, .int ytk, .ref ywi, .ref yki, .ref yse, .ref yno, .ref yrh, .ref yrw, .ref yrk, .ref yrt, .int yrp, .int yrq, .ref ytx, .int yle, .int yat, .int yfa, .ref yby, .ref ylo, .ref yhi, .int yac, .int ynx, .ref yro, .ref ygl, .int ysn, .ref yso, .ref ysp, .ref ysw, .long ysd, .ref yik, .ref ykp])), (yno, .inl (cI, 96, .inl Gno_12)), (yki, .inl (cI, 5, .inl Fki)), (yby, .inl (cI, 5, .inl Fby)), (ylo, .inl (cI, 5, .inl Flo)), (yhi, .inl (cI, 5, .inl Fhi))] := hD.sub [4, 5, 0, 1, 2, 3] (by decide) rfl
        refine W.widen (k := 0) (n := 0) (Nat.le_refl _) (Nat.le_refl _) ?_
        have LOOP_15 : ∀ (fu_15 : Nat) (gn : Nat → Int32) (gb : Nat → Int32) (gl : Nat → Int32) (gh : Nat → Int32) (H : Heap) (locs : List Loc) (ls : Array Slot), (10 - (gn 48).toInt).toNat < fu_15 → (ByOk gb) → va_P D vwCl [(h0, .inr (4, [.int ype, .int ytk, .ref ywi, .ref yki, .ref yse, .ref yno, .ref yrh, .ref yrw, .ref yrk, .ref yrt, .int yrp, .int yrq, .ref ytx, .int yle, .int yat, .int yfa, .ref yby, .ref ylo, .ref yhi, .int yac, .int ynx, .ref yro, .ref ygl, .int ysn, .ref yso, .ref ysp, .ref ysw, .long ysd, .ref yik, .ref ykp])), (yno, .inl (cI, 96, .inl gn)), (yki, .inl (cI, 5, .inl Fki)), (yby, .inl (cI, 5, .inl gb)), (ylo, .inl (cI, 5, .inl gl)), (yhi, .inl (cI, 5, .inl gh))] H → va_D A [(h0, .inr (4, [.int ype, .int ytk, .ref ywi, .ref yki, .ref yse, .ref yno, .ref yrh, .ref yrw, .ref yrk, .ref yrt, .int yrp, .int yrq, .ref ytx, .int yle, .int yat, .int yfa, .ref yby, .ref ylo, .ref yhi, .int yac, .int ynx, .ref yro, .ref ygl, .int ysn, .ref yso, .ref ysp, .ref ysw, .long ysd, .ref yik, .ref ykp])), (yno, .inl (cI, 96, .inl gn)), (yki, .inl (cI, 5, .inl Fki)), (yby, .inl (cI, 5, .inl gb)), (ylo, .inl (cI, 5, .inl gl)), (yhi, .inl (cI, 5, .inl gh))] → va_S A s.heap H locs → lv_has ls 3 [(0, .ref h0), (1, .int n), (2, .int k)] → W p l e R s m args below meth c H locs 0 0 Q (F0 m 42 ls []) := by
          intro fu_15
          induction fu_15 with
          | zero => intro gn gb gl gh H locs ls hmu; exact absurd hmu (Nat.not_lt_zero _)
          | succ fu_15 ih =>
            intro gn gb gl gh H locs ls hmu hby hP hD hS hl
            have ih_16 := ih
            clear ih
            refine lv_aload_n hx hb dX4_where_42 rfl (lv_at hl 0 rfl) ?_
            refine va_get (D := D) (ci := 4) (v := .ref yno) (C := RX4) (T := TX4) (N := 30) hx hb hts iX4 hown hK hP 0 rfl rfl 5 (by decide) (hts (.fieldLink RX4 19 "PunchedTicketModel" "now" "[I") (List.mem_of_getElem? (i := 2) rfl)) (fun _ h9 => h9) rfl dX4_where_43 ?_
            refine lv_bipush (v := 48) hx hb dX4_where_46 (by decide) ?_
            refine va_iald hx hb hK hP 1 0 rfl rfl (vp_in_iff.mpr (by decide)) dX4_where_48 ?_
            refine lv_topi (fun v_17 ev_17 => ?_)
            have tv_17 : v_17.toInt = (gn 48).toInt := by rw [ev_17]; rfl
            refine lv_iload_n hx hb dX4_where_49 rfl (lv_at hl 2 rfl) ?_
            refine lv_icmp_ge (tgt := 66) hx hb dX4_where_50 (by decide) (fun c_18 => ?_) (fun c_18 => ?_)
            · have tc_18 := b_le rfl rfl c_18
              refine lv_aload_n hx hb dX4_where_66 rfl (lv_at hl 0 rfl) ?_
              refine va_get (D := D) (ci := 4) (v := .ref yno) (C := RX4) (T := TX4) (N := 30) hx hb hts iX4 hown hK hP 0 rfl rfl 5 (by decide) (hts (.fieldLink RX4 19 "PunchedTicketModel" "now" "[I") (List.mem_of_getElem? (i := 2) rfl)) (fun _ h9 => h9) rfl dX4_where_67 ?_
              refine lv_bipush (v := 49) hx hb dX4_where_70 (by decide) ?_
              refine lv_iload_n hx hb dX4_where_72 rfl (lv_at hl 1 rfl) ?_
              refine lv_iadd hx hb dX4_where_73 ?_
              refine lv_topi (fun v_19 ev_19 => ?_)
              have tv_19 : v_19.toInt = (49 : Int) + n.toInt := by rw [ev_19]; exact ti_add (x := 49) (y := n) (show -2147483648 ≤ (49 : Int) + n.toInt by omega) (show (49 : Int) + n.toInt < 2147483648 by omega)
              refine va_iald hx hb hK hP 1 0 rfl rfl (vp_in_iff.mpr ⟨by omega, by omega⟩) dX4_where_74 ?_
              refine lv_topi (fun v_20 ev_20 => ?_)
              exact ret_i (post := (fun (r : Int32) (u : (Nat → Int32) × (Nat → Int32) × (Nat → Int32) × (Nat → Int32)) => ByOk u.2.1)) (W1 := (fun u => [(h0, .inr (4, [.int ype, .int ytk, .ref ywi, .ref yki, .ref yse, .ref yno, .ref yrh, .ref yrw, .ref yrk, .ref yrt, .int yrp, .int yrq, .ref ytx, .int yle, .int yat, .int yfa, .ref yby, .ref ylo, .ref yhi, .int yac, .int ynx, .ref yro, .ref ygl, .int ysn, .ref yso, .ref ysp, .ref ysw, .long ysd, .ref yik, .ref ykp])), (yno, .inl (cI, 96, .inl u.1)), (yki, .inl (cI, 5, .inl Fki)), (yby, .inl (cI, 5, .inl u.2.1)), (ylo, .inl (cI, 5, .inl u.2.2.1)), (yhi, .inl (cI, 5, .inl u.2.2.2))])) (gn, gb, gl, gh) hx hb hr hlocks rfl hQ hK hP hD hS ⟨by decide, by decide⟩ dX4_where_75 hby
            · have tc_18 := b_nle rfl rfl c_18
              refine lv_aload_n hx hb dX4_where_53 rfl (lv_at hl 0 rfl) ?_
              refine lv_iconst (v := 1) hx hb dX4_where_54 (by decide) ?_
              refine lv_aload_n hx hb dX4_where_55 rfl (lv_at hl 0 rfl) ?_
              refine va_get (D := D) (ci := 4) (v := .int ytk) (C := RX4) (T := TX4) (N := 30) hx hb hts iX4 hown hK hP 0 rfl rfl 1 (by decide) (hts (.fieldLink RX4 101 "PunchedTicketModel" "tickets" "I") (List.mem_of_getElem? (i := 3) rfl)) (fun _ h9 => h9) rfl dX4_where_56 ?_
              refine cV_i (As := [.int 1, .int ytk]) (rest := []) ⟨hx, hb, hml, hown, hts⟩ (c_X4_pass1 l D cI cZ cM h0 ytk ype ytk ywi yki yse yno yrh yrw yrk yrt yrp yrq ytx yle yat yfa yby ylo yhi yac ynx yro ygl ysn yso ysp ysw ysd yik ykp gn Fki gb gl gh _ hby (show (gn 48).toInt ≤ 9 by omega) (show 0 ≤ ytk.toInt ∧ ytk.toInt ≤ 7 by omega) (show 0 ≤ ype.toInt ∧ ype.toInt ≤ 5 by omega)) (cwV 2 hts gX4_where_X4_pass rfl rfl rfl (by decide +kernel) ⟨by rw [hR]; decide, by rw [hR]; decide⟩) hK hP hD hS hA [0, 1, 2, 3, 4, 5] [] rfl rfl (by decide) (by decide) (by decide) rfl 0 rfl hl.1 rfl rfl (Nat.le_of_ble_eq_true rfl) dX4_where_59 ⟨by rw [hR]; decide, by rw [hR]; decide⟩ (fun r_25 u_26 H locs hw hP hD hS => ?_)
              obtain ⟨Gno_21, Gby_22, Glo_23, Ghi_24⟩ := u_26
              have hP : va_P D vwCl [(h0, .inr (4, [.int ype, .int ytk, .ref ywi, .ref yki, .ref yse, .ref yno, .ref yrh, .ref yrw, .ref yrk, .ref yrt, .int yrp, .int yrq, .ref ytx, .int yle, .int yat, .int yfa, .ref yby, .ref ylo, .ref yhi, .int yac, .int ynx, .ref yro, .ref ygl, .int ysn, .ref yso, .ref ysp, .ref ysw, .long ysd, .ref yik, .ref ykp])), (yno, .inl (cI, 96, .inl Gno_21)), (yki, .inl (cI, 5, .inl Fki)), (yby, .inl (cI, 5, .inl Gby_22)), (ylo, .inl (cI, 5, .inl Glo_23)), (yhi, .inl (cI, 5, .inl Ghi_24))] H := hP.sub [0, 1, 2, 3, 4, 5] rfl
              have hD : va_D A [(h0, .inr (4, [.int ype, .int ytk, .ref ywi, .ref yki, .ref yse, .ref yno, .ref yrh, .ref yrw, .ref yrk, .ref yrt, .int yrp, .int yrq, .ref ytx, .int yle, .int yat, .int yfa, .ref yby, .ref ylo, .ref yhi, .int yac, .int ynx, .ref yro, .ref ygl, .int ysn, .ref yso, .ref ysp, .ref ysw, .long ysd, .ref yik, .ref ykp])), (yno, .inl (cI, 96, .inl Gno_21)), (yki, .inl (cI, 5, .inl Fki)), (yby, .inl (cI, 5, .inl Gby_22)), (ylo, .inl (cI, 5, .inl Glo_23)), (yhi, .inl (cI, 5, .inl Ghi_24))] := hD.sub [0, 1, 2, 3, 4, 5] (by decide) rfl
              refine W.widen (k := 0) (n := 0) (Nat.le_refl _) (Nat.le_refl _) ?_
              have hw : (Gno_21 48).toInt = (gn 48).toInt + 1 ∧ ByOk Gby_22 ∧ WentOk r_25 Gby_22 := hw
              have hw_27 := hw
              have PBY := hw_27.2.1
              refine lv_pop hx hb dX4_where_62 rfl ?_
              refine lv_goto (tgt := 42) hx hb dX4_where_63 (by decide) ?_
              exact ih_16 Gno_21 Gby_22 Glo_23 Ghi_24 _ _ _ (show (10 - (Gno_21 48).toInt).toNat < fu_15 by omega) (PBY) hP hD hS (lv_sub hl [0, 1, 2] rfl)
        exact LOOP_15 _ Gno_12 Fby Flo Fhi _ _ _ (Nat.lt_succ_self _) (hBy) hP hD hS (lv_sub hl [0, 1, 2] rfl)
      · have tc_11 := b_nle rfl rfl c_11
        refine lv_bipush (v := (-3)) hx hb dX4_where_35 (by decide) ?_
        exact ret_i (post := (fun (r : Int32) (u : (Nat → Int32) × (Nat → Int32) × (Nat → Int32) × (Nat → Int32)) => ByOk u.2.1)) (W1 := (fun u => [(h0, .inr (4, [.int ype, .int ytk, .ref ywi, .ref yki, .ref yse, .ref yno, .ref yrh, .ref yrw, .ref yrk, .ref yrt, .int yrp, .int yrq, .ref ytx, .int yle, .int yat, .int yfa, .ref yby, .ref ylo, .ref yhi, .int yac, .int ynx, .ref yro, .ref ygl, .int ysn, .ref yso, .ref ysp, .ref ysw, .long ysd, .ref yik, .ref ykp])), (yno, .inl (cI, 96, .inl u.1)), (yki, .inl (cI, 5, .inl Fki)), (yby, .inl (cI, 5, .inl u.2.1)), (ylo, .inl (cI, 5, .inl u.2.2.1)), (yhi, .inl (cI, 5, .inl u.2.2.2))])) (Fno, Fby, Flo, Fhi) hx hb hr hlocks rfl hQ hK hP hD hS ⟨by decide, by decide⟩ dX4_where_37 hBy
    · have tc_9 := b_eq rfl (show (0 : Int32).toInt = 0 by decide) c_9
      refine lv_bipush (v := (-2)) hx hb dX4_where_22 (by decide) ?_
      exact ret_i (post := (fun (r : Int32) (u : (Nat → Int32) × (Nat → Int32) × (Nat → Int32) × (Nat → Int32)) => ByOk u.2.1)) (W1 := (fun u => [(h0, .inr (4, [.int ype, .int ytk, .ref ywi, .ref yki, .ref yse, .ref yno, .ref yrh, .ref yrw, .ref yrk, .ref yrt, .int yrp, .int yrq, .ref ytx, .int yle, .int yat, .int yfa, .ref yby, .ref ylo, .ref yhi, .int yac, .int ynx, .ref yro, .ref ygl, .int ysn, .ref yso, .ref ysp, .ref ysw, .long ysd, .ref yik, .ref ykp])), (yno, .inl (cI, 96, .inl u.1)), (yki, .inl (cI, 5, .inl Fki)), (yby, .inl (cI, 5, .inl u.2.1)), (ylo, .inl (cI, 5, .inl u.2.2.1)), (yhi, .inl (cI, 5, .inl u.2.2.2))])) (Fno, Fby, Flo, Fhi) hx hb hr hlocks rfl hQ hK hP hD hS ⟨by decide, by decide⟩ dX4_where_24 hBy
  · have tc_4 := b_eq rfl (show (0 : Int32).toInt = 0 by decide) c_4
    refine lv_iconst (v := (-1)) hx hb dX4_where_8 (by decide) ?_
    exact ret_i (post := (fun (r : Int32) (u : (Nat → Int32) × (Nat → Int32) × (Nat → Int32) × (Nat → Int32)) => ByOk u.2.1)) (W1 := (fun u => [(h0, .inr (4, [.int ype, .int ytk, .ref ywi, .ref yki, .ref yse, .ref yno, .ref yrh, .ref yrw, .ref yrk, .ref yrt, .int yrp, .int yrq, .ref ytx, .int yle, .int yat, .int yfa, .ref yby, .ref ylo, .ref yhi, .int yac, .int ynx, .ref yro, .ref ygl, .int ysn, .ref yso, .ref ysp, .ref ysw, .long ysd, .ref yik, .ref ykp])), (yno, .inl (cI, 96, .inl u.1)), (yki, .inl (cI, 5, .inl Fki)), (yby, .inl (cI, 5, .inl u.2.1)), (ylo, .inl (cI, 5, .inl u.2.2.1)), (yhi, .inl (cI, 5, .inl u.2.2.2))])) (Fno, Fby, Flo, Fhi) hx hb hr hlocks rfl hQ hK hP hD hS ⟨by decide, by decide⟩ dX4_where_9 hBy

set_option maxHeartbeats 600000 in
set_option maxRecDepth 100000 in
theorem c_X4_meetOf (l : Launch) (D : va_G) (cI cZ cM : ClassId) (h0 : Nat) (n : Int32) (k : Int32) (ype : Int32) (ytk : Int32) (ywi : Nat) (yki : Nat) (yse : Nat) (yno : Nat) (yrh : Nat) (yrw : Nat) (yrk : Nat) (yrt : Nat) (yrp : Int32) (yrq : Int32) (ytx : Nat) (yle : Int32) (yat : Int32) (yfa : Int32) (yby : Nat) (ylo : Nat) (yhi : Nat) (yac : Int32) (ynx : Int32) (yro : Nat) (ygl : Nat) (ysn : Int32) (yso : Nat) (ysp : Nat) (ysw : Nat) (ysd : Int64) (yik : Nat) (ykp : Nat) (Fno : Nat → Int32) (Fki : Nat → Int32) (Fby : Nat → Int32) (Flo : Nat → Int32) (Fhi : Nat → Int32) (sz : Nat) (hBy : ByOk Fby) (h_ype : 0 ≤ ype.toInt ∧ ype.toInt ≤ 5) (h_ytk : 0 ≤ ytk.toInt ∧ ytk.toInt ≤ 6) (h_n : 0 ≤ n.toInt ∧ n.toInt ≤ 4) (h_k : 0 ≤ k.toInt ∧ k.toInt ≤ 4) : Ci l yX4_meetOf wsX4_meetOf ({ frames := 2, cells := 0, slots := 0, locals := 56 } : Room) D cI cZ cM [.ref h0, .int n, .int k] [(h0, .inr (4, [.int ype, .int ytk, .ref ywi, .ref yki, .ref yse, .ref yno, .ref yrh, .ref yrw, .ref yrk, .ref yrt, .int yrp, .int yrq, .ref ytx, .int yle, .int yat, .int yfa, .ref yby, .ref ylo, .ref yhi, .int yac, .int ynx, .ref yro, .ref ygl, .int ysn, .ref yso, .ref ysp, .ref ysw, .long ysd, .ref yik, .ref ykp])), (yno, .inl (cI, 96, .inl Fno)), (yki, .inl (cI, 5, .inl Fki)), (yby, .inl (cI, 5, .inl Fby)), (ylo, .inl (cI, 5, .inl Flo)), (yhi, .inl (cI, 5, .inl Fhi))] sz (fun (r : Int32) (u : (Nat → Int32) × (Nat → Int32) × (Nat → Int32) × (Nat → Int32)) => ByOk u.2.1) (fun u => [(h0, .inr (4, [.int ype, .int ytk, .ref ywi, .ref yki, .ref yse, .ref yno, .ref yrh, .ref yrw, .ref yrk, .ref yrt, .int yrp, .int yrq, .ref ytx, .int yle, .int yat, .int yfa, .ref yby, .ref ylo, .ref yhi, .int yac, .int ynx, .ref yro, .ref ygl, .int ysn, .ref yso, .ref ysp, .ref ysw, .long ysd, .ref yik, .ref ykp])), (yno, .inl (cI, 96, .inl u.1)), (yki, .inl (cI, 5, .inl Fki)), (yby, .inl (cI, 5, .inl u.2.1)), (ylo, .inl (cI, 5, .inl u.2.2.1)), (yhi, .inl (cI, 5, .inl u.2.2.2))]) 0 0 := by
  refine begins (l := l) (y := yX4_meetOf) (ws := wsX4_meetOf) (av := [.ref h0, .int n, .int k]) (Qc := fun A => va_Qi (fun (r : Int32) (u : (Nat → Int32) × (Nat → Int32) × (Nat → Int32) × (Nat → Int32)) => ByOk u.2.1) (fun u => Wd D cI cZ cM A ((fun u => [(h0, .inr (4, [.int ype, .int ytk, .ref ywi, .ref yki, .ref yse, .ref yno, .ref yrh, .ref yrw, .ref yrk, .ref yrt, .int yrp, .int yrq, .ref ytx, .int yle, .int yat, .int yfa, .ref yby, .ref ylo, .ref yhi, .int yac, .int ynx, .ref yro, .ref ygl, .int ysn, .ref yso, .ref ysp, .ref ysw, .long ysd, .ref yik, .ref ykp])), (yno, .inl (cI, 96, .inl u.1)), (yki, .inl (cI, 5, .inl Fki)), (yby, .inl (cI, 5, .inl u.2.1)), (ylo, .inl (cI, 5, .inl u.2.2.1)), (yhi, .inl (cI, 5, .inl u.2.2.2))]) u)) A) cX4_meetOf 3 (some .int) (by decide) rfl (Nat.le_of_ble_eq_true rfl) ?_
  intro p e s m args below meth c R Q A ls hBd hR hQ hA hS hK hP hD hl
  obtain ⟨hx, hb, hr, hts, hown, hlocks, hin, hml⟩ := hBd
  have hl : lv_has ls 3 [(0, .ref h0), (1, .int n), (2, .int k)] := hl
  have iX4 : ∀ w ∈ wsX40, w ∈ wsX4_meetOf := fun _ h => List.mem_cons_of_mem _ (List.mem_append_right _ h)
  obtain ⟨h_ypea, h_ypeb⟩ := h_ype
  obtain ⟨h_ytka, h_ytkb⟩ := h_ytk
  obtain ⟨h_na, h_nb⟩ := h_n
  obtain ⟨h_ka, h_kb⟩ := h_k
  have LOOP_1 : ∀ (fu_1 : Nat) (gn : Nat → Int32) (gb : Nat → Int32) (gl : Nat → Int32) (gh : Nat → Int32) (H : Heap) (locs : List Loc) (ls : Array Slot), (10 - (gn 48).toInt).toNat < fu_1 → (ByOk gb) → va_P D vwCl [(h0, .inr (4, [.int ype, .int ytk, .ref ywi, .ref yki, .ref yse, .ref yno, .ref yrh, .ref yrw, .ref yrk, .ref yrt, .int yrp, .int yrq, .ref ytx, .int yle, .int yat, .int yfa, .ref yby, .ref ylo, .ref yhi, .int yac, .int ynx, .ref yro, .ref ygl, .int ysn, .ref yso, .ref ysp, .ref ysw, .long ysd, .ref yik, .ref ykp])), (yno, .inl (cI, 96, .inl gn)), (yki, .inl (cI, 5, .inl Fki)), (yby, .inl (cI, 5, .inl gb)), (ylo, .inl (cI, 5, .inl gl)), (yhi, .inl (cI, 5, .inl gh))] H → va_D A [(h0, .inr (4, [.int ype, .int ytk, .ref ywi, .ref yki, .ref yse, .ref yno, .ref yrh, .ref yrw, .ref yrk, .ref yrt, .int yrp, .int yrq, .ref ytx, .int yle, .int yat, .int yfa, .ref yby, .ref ylo, .ref yhi, .int yac, .int ynx, .ref yro, .ref ygl, .int ysn, .ref yso, .ref ysp, .ref ysw, .long ysd, .ref yik, .ref ykp])), (yno, .inl (cI, 96, .inl gn)), (yki, .inl (cI, 5, .inl Fki)), (yby, .inl (cI, 5, .inl gb)), (ylo, .inl (cI, 5, .inl gl)), (yhi, .inl (cI, 5, .inl gh))] → va_S A s.heap H locs → lv_has ls 3 [(0, .ref h0), (1, .int n), (2, .int k)] → W p l e R s m args below meth c H locs 0 0 Q (F0 m 0 ls []) := by
    intro fu_1
    induction fu_1 with
    | zero => intro gn gb gl gh H locs ls hmu; exact absurd hmu (Nat.not_lt_zero _)
    | succ fu_1 ih =>
      intro gn gb gl gh H locs ls hmu hby hP hD hS hl
      have ih_2 := ih
      clear ih
      refine lv_aload_n hx hb dX4_meetOf_0 rfl (lv_at hl 0 rfl) ?_
      refine va_get (D := D) (ci := 4) (v := .ref yno) (C := RX4) (T := TX4) (N := 30) hx hb hts iX4 hown hK hP 0 rfl rfl 5 (by decide) (hts (.fieldLink RX4 19 "PunchedTicketModel" "now" "[I") (List.mem_of_getElem? (i := 1) rfl)) (fun _ h9 => h9) rfl dX4_meetOf_1 ?_
      refine lv_bipush (v := 48) hx hb dX4_meetOf_4 (by decide) ?_
      refine va_iald hx hb hK hP 1 0 rfl rfl (vp_in_iff.mpr (by decide)) dX4_meetOf_6 ?_
      refine lv_topi (fun v_3 ev_3 => ?_)
      have tv_3 : v_3.toInt = (gn 48).toInt := by rw [ev_3]; rfl
      refine lv_bipush (v := 10) hx hb dX4_meetOf_7 (by decide) ?_
      refine lv_icmp_ge (tgt := 40) hx hb dX4_meetOf_9 (by decide) (fun c_4 => ?_) (fun c_4 => ?_)
      · have tc_4 := b_le (show (10 : Int32).toInt = 10 by decide) rfl c_4
        refine lv_bipush (v := (-9)) hx hb dX4_meetOf_40 (by decide) ?_
        exact ret_i (post := (fun (r : Int32) (u : (Nat → Int32) × (Nat → Int32) × (Nat → Int32) × (Nat → Int32)) => ByOk u.2.1)) (W1 := (fun u => [(h0, .inr (4, [.int ype, .int ytk, .ref ywi, .ref yki, .ref yse, .ref yno, .ref yrh, .ref yrw, .ref yrk, .ref yrt, .int yrp, .int yrq, .ref ytx, .int yle, .int yat, .int yfa, .ref yby, .ref ylo, .ref yhi, .int yac, .int ynx, .ref yro, .ref ygl, .int ysn, .ref yso, .ref ysp, .ref ysw, .long ysd, .ref yik, .ref ykp])), (yno, .inl (cI, 96, .inl u.1)), (yki, .inl (cI, 5, .inl Fki)), (yby, .inl (cI, 5, .inl u.2.1)), (ylo, .inl (cI, 5, .inl u.2.2.1)), (yhi, .inl (cI, 5, .inl u.2.2.2))])) (gn, gb, gl, gh) hx hb hr hlocks rfl hQ hK hP hD hS ⟨by decide, by decide⟩ dX4_meetOf_42 hby
      · have tc_4 := b_nle (show (10 : Int32).toInt = 10 by decide) rfl c_4
        refine lv_aload_n hx hb dX4_meetOf_12 rfl (lv_at hl 0 rfl) ?_
        refine lv_aload_n hx hb dX4_meetOf_13 rfl (lv_at hl 0 rfl) ?_
        refine lv_iconst (v := 1) hx hb dX4_meetOf_14 (by decide) ?_
        refine lv_aload_n hx hb dX4_meetOf_15 rfl (lv_at hl 0 rfl) ?_
        refine va_get (D := D) (ci := 4) (v := .int ytk) (C := RX4) (T := TX4) (N := 30) hx hb hts iX4 hown hK hP 0 rfl rfl 1 (by decide) (hts (.fieldLink RX4 101 "PunchedTicketModel" "tickets" "I") (List.mem_of_getElem? (i := 2) rfl)) (fun _ h9 => h9) rfl dX4_meetOf_16 ?_
        refine cV_i (As := [.int 1, .int ytk]) (rest := [.ref h0]) ⟨hx, hb, hml, hown, hts⟩ (c_X4_pass1 l D cI cZ cM h0 ytk ype ytk ywi yki yse yno yrh yrw yrk yrt yrp yrq ytx yle yat yfa yby ylo yhi yac ynx yro ygl ysn yso ysp ysw ysd yik ykp gn Fki gb gl gh _ hby (show (gn 48).toInt ≤ 9 by omega) (show 0 ≤ ytk.toInt ∧ ytk.toInt ≤ 7 by omega) (show 0 ≤ ype.toInt ∧ ype.toInt ≤ 5 by omega)) (cwV 2 hts gX4_meetOf_X4_pass rfl rfl rfl (by decide +kernel) ⟨by rw [hR]; decide, by rw [hR]; decide⟩) hK hP hD hS hA [0, 1, 2, 3, 4, 5] [] rfl rfl (by decide) (by decide) (by decide) rfl 0 rfl hl.1 rfl rfl (Nat.le_of_ble_eq_true rfl) dX4_meetOf_19 ⟨by rw [hR]; decide, by rw [hR]; decide⟩ (fun r_9 u_10 H locs hw hP hD hS => ?_)
        obtain ⟨Gno_5, Gby_6, Glo_7, Ghi_8⟩ := u_10
        have hP : va_P D vwCl [(h0, .inr (4, [.int ype, .int ytk, .ref ywi, .ref yki, .ref yse, .ref yno, .ref yrh, .ref yrw, .ref yrk, .ref yrt, .int yrp, .int yrq, .ref ytx, .int yle, .int yat, .int yfa, .ref yby, .ref ylo, .ref yhi, .int yac, .int ynx, .ref yro, .ref ygl, .int ysn, .ref yso, .ref ysp, .ref ysw, .long ysd, .ref yik, .ref ykp])), (yno, .inl (cI, 96, .inl Gno_5)), (yki, .inl (cI, 5, .inl Fki)), (yby, .inl (cI, 5, .inl Gby_6)), (ylo, .inl (cI, 5, .inl Glo_7)), (yhi, .inl (cI, 5, .inl Ghi_8))] H := hP.sub [0, 1, 2, 3, 4, 5] rfl
        have hD : va_D A [(h0, .inr (4, [.int ype, .int ytk, .ref ywi, .ref yki, .ref yse, .ref yno, .ref yrh, .ref yrw, .ref yrk, .ref yrt, .int yrp, .int yrq, .ref ytx, .int yle, .int yat, .int yfa, .ref yby, .ref ylo, .ref yhi, .int yac, .int ynx, .ref yro, .ref ygl, .int ysn, .ref yso, .ref ysp, .ref ysw, .long ysd, .ref yik, .ref ykp])), (yno, .inl (cI, 96, .inl Gno_5)), (yki, .inl (cI, 5, .inl Fki)), (yby, .inl (cI, 5, .inl Gby_6)), (ylo, .inl (cI, 5, .inl Glo_7)), (yhi, .inl (cI, 5, .inl Ghi_8))] := hD.sub [0, 1, 2, 3, 4, 5] (by decide) rfl
        refine W.widen (k := 0) (n := 0) (Nat.le_refl _) (Nat.le_refl _) ?_
        have hw : (Gno_5 48).toInt = (gn 48).toInt + 1 ∧ ByOk Gby_6 ∧ WentOk r_9 Gby_6 := hw
        have hw_11 := hw
        have PBY := hw_11.2.1
        refine lv_iload_n hx hb dX4_meetOf_22 rfl (lv_at hl 1 rfl) ?_
        refine lv_iload_n hx hb dX4_meetOf_23 rfl (lv_at hl 2 rfl) ?_
        refine cV_i (As := [.int r_9, .int n, .int k]) (rest := []) ⟨hx, hb, hml, hown, hts⟩ (c_X4_areTogether l D cI cZ cM h0 r_9 n k ype ytk ywi yki yse yno yrh yrw yrk yrt yrp yrq ytx yle yat yfa yby ylo yhi yac ynx yro ygl ysn yso ysp ysw ysd yik ykp Glo_7 Ghi_8 _ (show 0 ≤ n.toInt ∧ n.toInt ≤ 4 by omega) (show 0 ≤ k.toInt ∧ k.toInt ≤ 4 by omega)) (cwV 3 hts gX4_meetOf_X4_areTogether rfl rfl rfl (by decide +kernel) ⟨by rw [hR]; decide, by rw [hR]; decide⟩) hK hP hD hS hA [0, 4, 5] [1, 2, 3] rfl rfl (by decide) (by decide) (by decide) rfl 0 rfl hl.1 rfl rfl (Nat.le_of_ble_eq_true rfl) dX4_meetOf_24 ⟨by rw [hR]; decide, by rw [hR]; decide⟩ (fun r_12 u_13 H locs hw hP hD hS => ?_)
        have hP : va_P D vwCl [(h0, .inr (4, [.int ype, .int ytk, .ref ywi, .ref yki, .ref yse, .ref yno, .ref yrh, .ref yrw, .ref yrk, .ref yrt, .int yrp, .int yrq, .ref ytx, .int yle, .int yat, .int yfa, .ref yby, .ref ylo, .ref yhi, .int yac, .int ynx, .ref yro, .ref ygl, .int ysn, .ref yso, .ref ysp, .ref ysw, .long ysd, .ref yik, .ref ykp])), (yno, .inl (cI, 96, .inl Gno_5)), (yki, .inl (cI, 5, .inl Fki)), (yby, .inl (cI, 5, .inl Gby_6)), (ylo, .inl (cI, 5, .inl Glo_7)), (yhi, .inl (cI, 5, .inl Ghi_8))] H := hP.sub [3, 0, 1, 2, 4, 5] rfl
        have hD : va_D A [(h0, .inr (4, [.int ype, .int ytk, .ref ywi, .ref yki, .ref yse, .ref yno, .ref yrh, .ref yrw, .ref yrk, .ref yrt, .int yrp, .int yrq, .ref ytx, .int yle, .int yat, .int yfa, .ref yby, .ref ylo, .ref yhi, .int yac, .int ynx, .ref yro, .ref ygl, .int ysn, .ref yso, .ref ysp, .ref ysw, .long ysd, .ref yik, .ref ykp])), (yno, .inl (cI, 96, .inl Gno_5)), (yki, .inl (cI, 5, .inl Fki)), (yby, .inl (cI, 5, .inl Gby_6)), (ylo, .inl (cI, 5, .inl Glo_7)), (yhi, .inl (cI, 5, .inl Ghi_8))] := hD.sub [3, 0, 1, 2, 4, 5] (by decide) rfl
        refine W.widen (k := 0) (n := 0) (Nat.le_refl _) (Nat.le_refl _) ?_
        have hw : (r_12.toInt = 1 ∧ bitOf r_9 n = 1 ∧ bitOf r_9 k = 1) ∨ r_12.toInt = 0 := hw
        have hw_14 := hw
        refine lv_if_eq (tgt := 0) hx hb dX4_meetOf_27 (by decide) (fun c_15 => ?_) (fun c_15 => ?_)
        · have tc_15 := b_eq rfl (show (0 : Int32).toInt = 0 by decide) c_15
          exact ih_2 Gno_5 Gby_6 Glo_7 Ghi_8 _ _ _ (show (10 - (Gno_5 48).toInt).toNat < fu_1 by omega) (PBY) hP hD hS (lv_sub hl [0, 1, 2] rfl)
        · have tc_15 := b_ne rfl (show (0 : Int32).toInt = 0 by decide) c_15
          refine lv_aload_n hx hb dX4_meetOf_30 rfl (lv_at hl 0 rfl) ?_
          refine va_get (D := D) (ci := 4) (v := .ref yno) (C := RX4) (T := TX4) (N := 30) hx hb hts iX4 hown hK hP 0 rfl rfl 5 (by decide) (hts (.fieldLink RX4 19 "PunchedTicketModel" "now" "[I") (List.mem_of_getElem? (i := 1) rfl)) (fun _ h9 => h9) rfl dX4_meetOf_31 ?_
          refine lv_bipush (v := 48) hx hb dX4_meetOf_34 (by decide) ?_
          refine va_iald hx hb hK hP 1 0 rfl rfl (vp_in_iff.mpr (by decide)) dX4_meetOf_36 ?_
          refine lv_topi (fun v_16 ev_16 => ?_)
          refine lv_iconst (v := 1) hx hb dX4_meetOf_37 (by decide) ?_
          refine lv_isub hx hb dX4_meetOf_38 ?_
          refine lv_topi (fun v_17 ev_17 => ?_)
          exact ret_i (post := (fun (r : Int32) (u : (Nat → Int32) × (Nat → Int32) × (Nat → Int32) × (Nat → Int32)) => ByOk u.2.1)) (W1 := (fun u => [(h0, .inr (4, [.int ype, .int ytk, .ref ywi, .ref yki, .ref yse, .ref yno, .ref yrh, .ref yrw, .ref yrk, .ref yrt, .int yrp, .int yrq, .ref ytx, .int yle, .int yat, .int yfa, .ref yby, .ref ylo, .ref yhi, .int yac, .int ynx, .ref yro, .ref ygl, .int ysn, .ref yso, .ref ysp, .ref ysw, .long ysd, .ref yik, .ref ykp])), (yno, .inl (cI, 96, .inl u.1)), (yki, .inl (cI, 5, .inl Fki)), (yby, .inl (cI, 5, .inl u.2.1)), (ylo, .inl (cI, 5, .inl u.2.2.1)), (yhi, .inl (cI, 5, .inl u.2.2.2))])) (Gno_5, Gby_6, Glo_7, Ghi_8) hx hb hr hlocks rfl hQ hK hP hD hS ⟨by decide, by decide⟩ dX4_meetOf_39 PBY
  exact LOOP_1 _ Fno Fby Flo Fhi _ _ _ (Nat.lt_succ_self _) (hBy) hP hD hS (lv_sub hl [0, 1, 2] rfl)

set_option maxHeartbeats 600000 in
set_option maxRecDepth 100000 in
theorem c_X4_meet (l : Launch) (D : va_G) (cI cZ cM : ClassId) (h0 : Nat) (n : Int32) (k : Int32) (ype : Int32) (ytk : Int32) (ywi : Nat) (yki : Nat) (yse : Nat) (yno : Nat) (yrh : Nat) (yrw : Nat) (yrk : Nat) (yrt : Nat) (yrp : Int32) (yrq : Int32) (ytx : Nat) (yle : Int32) (yat : Int32) (yfa : Int32) (yby : Nat) (ylo : Nat) (yhi : Nat) (yac : Int32) (ynx : Int32) (yro : Nat) (ygl : Nat) (ysn : Int32) (yso : Nat) (ysp : Nat) (ysw : Nat) (ysd : Int64) (yik : Nat) (ykp : Nat) (Fno : Nat → Int32) (Fki : Nat → Int32) (Fby : Nat → Int32) (Flo : Nat → Int32) (Fhi : Nat → Int32) (sz : Nat) (hBy : ByOk Fby) (h_ype : 0 ≤ ype.toInt ∧ ype.toInt ≤ 5) (h_ytk : 0 ≤ ytk.toInt ∧ ytk.toInt ≤ 6) : Ci l yX4_meet wsX4_meet ({ frames := 3, cells := 0, slots := 0, locals := 78 } : Room) D cI cZ cM [.ref h0, .int n, .int k] [(h0, .inr (4, [.int ype, .int ytk, .ref ywi, .ref yki, .ref yse, .ref yno, .ref yrh, .ref yrw, .ref yrk, .ref yrt, .int yrp, .int yrq, .ref ytx, .int yle, .int yat, .int yfa, .ref yby, .ref ylo, .ref yhi, .int yac, .int ynx, .ref yro, .ref ygl, .int ysn, .ref yso, .ref ysp, .ref ysw, .long ysd, .ref yik, .ref ykp])), (yno, .inl (cI, 96, .inl Fno)), (yki, .inl (cI, 5, .inl Fki)), (yby, .inl (cI, 5, .inl Fby)), (ylo, .inl (cI, 5, .inl Flo)), (yhi, .inl (cI, 5, .inl Fhi))] sz (fun (r : Int32) (u : (Nat → Int32) × (Nat → Int32) × (Nat → Int32) × (Nat → Int32)) => ByOk u.2.1) (fun u => [(h0, .inr (4, [.int ype, .int ytk, .ref ywi, .ref yki, .ref yse, .ref yno, .ref yrh, .ref yrw, .ref yrk, .ref yrt, .int yrp, .int yrq, .ref ytx, .int yle, .int yat, .int yfa, .ref yby, .ref ylo, .ref yhi, .int yac, .int ynx, .ref yro, .ref ygl, .int ysn, .ref yso, .ref ysp, .ref ysw, .long ysd, .ref yik, .ref ykp])), (yno, .inl (cI, 96, .inl u.1)), (yki, .inl (cI, 5, .inl Fki)), (yby, .inl (cI, 5, .inl u.2.1)), (ylo, .inl (cI, 5, .inl u.2.2.1)), (yhi, .inl (cI, 5, .inl u.2.2.2))]) 0 0 := by
  refine begins (l := l) (y := yX4_meet) (ws := wsX4_meet) (av := [.ref h0, .int n, .int k]) (Qc := fun A => va_Qi (fun (r : Int32) (u : (Nat → Int32) × (Nat → Int32) × (Nat → Int32) × (Nat → Int32)) => ByOk u.2.1) (fun u => Wd D cI cZ cM A ((fun u => [(h0, .inr (4, [.int ype, .int ytk, .ref ywi, .ref yki, .ref yse, .ref yno, .ref yrh, .ref yrw, .ref yrk, .ref yrt, .int yrp, .int yrq, .ref ytx, .int yle, .int yat, .int yfa, .ref yby, .ref ylo, .ref yhi, .int yac, .int ynx, .ref yro, .ref ygl, .int ysn, .ref yso, .ref ysp, .ref ysw, .long ysd, .ref yik, .ref ykp])), (yno, .inl (cI, 96, .inl u.1)), (yki, .inl (cI, 5, .inl Fki)), (yby, .inl (cI, 5, .inl u.2.1)), (ylo, .inl (cI, 5, .inl u.2.2.1)), (yhi, .inl (cI, 5, .inl u.2.2.2))]) u)) A) cX4_meet 3 (some .int) (by decide) rfl (Nat.le_of_ble_eq_true rfl) ?_
  intro p e s m args below meth c R Q A ls hBd hR hQ hA hS hK hP hD hl
  obtain ⟨hx, hb, hr, hts, hown, hlocks, hin, hml⟩ := hBd
  have hl : lv_has ls 3 [(0, .ref h0), (1, .int n), (2, .int k)] := hl
  have iX4 : ∀ w ∈ wsX40, w ∈ wsX4_meet := fun _ h => List.mem_cons_of_mem _ (List.mem_append_right _ h)
  obtain ⟨h_ypea, h_ypeb⟩ := h_ype
  obtain ⟨h_ytka, h_ytkb⟩ := h_ytk
  refine lv_aload_n hx hb dX4_meet_0 rfl (lv_at hl 0 rfl) ?_
  refine lv_iload_n hx hb dX4_meet_1 rfl (lv_at hl 1 rfl) ?_
  refine cV_i (As := [.int n]) (rest := []) ⟨hx, hb, hml, hown, hts⟩ (c_X4_isPerson l D cI cZ cM h0 n ype ytk ywi yki yse yno yrh yrw yrk yrt yrp yrq ytx yle yat yfa yby ylo yhi yac ynx yro ygl ysn yso ysp ysw ysd yik ykp _ (show 0 ≤ ype.toInt ∧ ype.toInt ≤ 6 by omega)) (cwV 1 hts gX4_meet_X4_isPerson rfl rfl rfl (by decide +kernel) ⟨by rw [hR]; decide, by rw [hR]; decide⟩) hK hP hD hS hA [0] [1, 2, 3, 4, 5] rfl rfl (by decide) (by decide) (by decide) rfl 0 rfl hl.1 rfl rfl (Nat.le_of_ble_eq_true rfl) dX4_meet_2 ⟨by rw [hR]; decide, by rw [hR]; decide⟩ (fun r_1 u_2 H locs hw hP hD hS => ?_)
  have hP : va_P D vwCl [(h0, .inr (4, [.int ype, .int ytk, .ref ywi, .ref yki, .ref yse, .ref yno, .ref yrh, .ref yrw, .ref yrk, .ref yrt, .int yrp, .int yrq, .ref ytx, .int yle, .int yat, .int yfa, .ref yby, .ref ylo, .ref yhi, .int yac, .int ynx, .ref yro, .ref ygl, .int ysn, .ref yso, .ref ysp, .ref ysw, .long ysd, .ref yik, .ref ykp])), (yno, .inl (cI, 96, .inl Fno)), (yki, .inl (cI, 5, .inl Fki)), (yby, .inl (cI, 5, .inl Fby)), (ylo, .inl (cI, 5, .inl Flo)), (yhi, .inl (cI, 5, .inl Fhi))] H := hP.sub [5, 0, 1, 2, 3, 4] rfl
  have hD : va_D A [(h0, .inr (4, [.int ype, .int ytk, .ref ywi, .ref yki, .ref yse, .ref yno, .ref yrh, .ref yrw, .ref yrk, .ref yrt, .int yrp, .int yrq, .ref ytx, .int yle, .int yat, .int yfa, .ref yby, .ref ylo, .ref yhi, .int yac, .int ynx, .ref yro, .ref ygl, .int ysn, .ref yso, .ref ysp, .ref ysw, .long ysd, .ref yik, .ref ykp])), (yno, .inl (cI, 96, .inl Fno)), (yki, .inl (cI, 5, .inl Fki)), (yby, .inl (cI, 5, .inl Fby)), (ylo, .inl (cI, 5, .inl Flo)), (yhi, .inl (cI, 5, .inl Fhi))] := hD.sub [5, 0, 1, 2, 3, 4] (by decide) rfl
  refine W.widen (k := 0) (n := 0) (Nat.le_refl _) (Nat.le_refl _) ?_
  have hw : (r_1.toInt = 1 ∧ 0 ≤ n.toInt ∧ n.toInt < ype.toInt) ∨ (r_1.toInt = 0 ∧ (n.toInt < 0 ∨ ype.toInt ≤ n.toInt)) := hw
  have hw_3 := hw
  refine lv_if_eq (tgt := 16) hx hb dX4_meet_5 (by decide) (fun c_4 => ?_) (fun c_4 => ?_)
  · have tc_4 := b_eq rfl (show (0 : Int32).toInt = 0 by decide) c_4
    refine lv_iconst (v := (-1)) hx hb dX4_meet_16 (by decide) ?_
    exact ret_i (post := (fun (r : Int32) (u : (Nat → Int32) × (Nat → Int32) × (Nat → Int32) × (Nat → Int32)) => ByOk u.2.1)) (W1 := (fun u => [(h0, .inr (4, [.int ype, .int ytk, .ref ywi, .ref yki, .ref yse, .ref yno, .ref yrh, .ref yrw, .ref yrk, .ref yrt, .int yrp, .int yrq, .ref ytx, .int yle, .int yat, .int yfa, .ref yby, .ref ylo, .ref yhi, .int yac, .int ynx, .ref yro, .ref ygl, .int ysn, .ref yso, .ref ysp, .ref ysw, .long ysd, .ref yik, .ref ykp])), (yno, .inl (cI, 96, .inl u.1)), (yki, .inl (cI, 5, .inl Fki)), (yby, .inl (cI, 5, .inl u.2.1)), (ylo, .inl (cI, 5, .inl u.2.2.1)), (yhi, .inl (cI, 5, .inl u.2.2.2))])) (Fno, Fby, Flo, Fhi) hx hb hr hlocks rfl hQ hK hP hD hS ⟨by decide, by decide⟩ dX4_meet_17 hBy
  · have tc_4 := b_ne rfl (show (0 : Int32).toInt = 0 by decide) c_4
    refine lv_aload_n hx hb dX4_meet_8 rfl (lv_at hl 0 rfl) ?_
    refine lv_iload_n hx hb dX4_meet_9 rfl (lv_at hl 2 rfl) ?_
    refine cV_i (As := [.int k]) (rest := []) ⟨hx, hb, hml, hown, hts⟩ (c_X4_isPerson l D cI cZ cM h0 k ype ytk ywi yki yse yno yrh yrw yrk yrt yrp yrq ytx yle yat yfa yby ylo yhi yac ynx yro ygl ysn yso ysp ysw ysd yik ykp _ (show 0 ≤ ype.toInt ∧ ype.toInt ≤ 6 by omega)) (cwV 1 hts gX4_meet_X4_isPerson rfl rfl rfl (by decide +kernel) ⟨by rw [hR]; decide, by rw [hR]; decide⟩) hK hP hD hS hA [0] [1, 2, 3, 4, 5] rfl rfl (by decide) (by decide) (by decide) rfl 0 rfl hl.1 rfl rfl (Nat.le_of_ble_eq_true rfl) dX4_meet_10 ⟨by rw [hR]; decide, by rw [hR]; decide⟩ (fun r_5 u_6 H locs hw hP hD hS => ?_)
    have hP : va_P D vwCl [(h0, .inr (4, [.int ype, .int ytk, .ref ywi, .ref yki, .ref yse, .ref yno, .ref yrh, .ref yrw, .ref yrk, .ref yrt, .int yrp, .int yrq, .ref ytx, .int yle, .int yat, .int yfa, .ref yby, .ref ylo, .ref yhi, .int yac, .int ynx, .ref yro, .ref ygl, .int ysn, .ref yso, .ref ysp, .ref ysw, .long ysd, .ref yik, .ref ykp])), (yno, .inl (cI, 96, .inl Fno)), (yki, .inl (cI, 5, .inl Fki)), (yby, .inl (cI, 5, .inl Fby)), (ylo, .inl (cI, 5, .inl Flo)), (yhi, .inl (cI, 5, .inl Fhi))] H := hP.sub [5, 0, 1, 2, 3, 4] rfl
    have hD : va_D A [(h0, .inr (4, [.int ype, .int ytk, .ref ywi, .ref yki, .ref yse, .ref yno, .ref yrh, .ref yrw, .ref yrk, .ref yrt, .int yrp, .int yrq, .ref ytx, .int yle, .int yat, .int yfa, .ref yby, .ref ylo, .ref yhi, .int yac, .int ynx, .ref yro, .ref ygl, .int ysn, .ref yso, .ref ysp, .ref ysw, .long ysd, .ref yik, .ref ykp])), (yno, .inl (cI, 96, .inl Fno)), (yki, .inl (cI, 5, .inl Fki)), (yby, .inl (cI, 5, .inl Fby)), (ylo, .inl (cI, 5, .inl Flo)), (yhi, .inl (cI, 5, .inl Fhi))] := hD.sub [5, 0, 1, 2, 3, 4] (by decide) rfl
    refine W.widen (k := 0) (n := 0) (Nat.le_refl _) (Nat.le_refl _) ?_
    have hw : (r_5.toInt = 1 ∧ 0 ≤ k.toInt ∧ k.toInt < ype.toInt) ∨ (r_5.toInt = 0 ∧ (k.toInt < 0 ∨ ype.toInt ≤ k.toInt)) := hw
    have hw_7 := hw
    refine lv_if_ne (tgt := 18) hx hb dX4_meet_13 (by decide) (fun c_8 => ?_) (fun c_8 => ?_)
    · have tc_8 := b_ne rfl (show (0 : Int32).toInt = 0 by decide) c_8
      refine lv_iload_n hx hb dX4_meet_18 rfl (lv_at hl 1 rfl) ?_
      refine lv_iload_n hx hb dX4_meet_19 rfl (lv_at hl 2 rfl) ?_
      refine lv_icmp_ne (tgt := 26) hx hb dX4_meet_20 (by decide) (fun c_9 => ?_) (fun c_9 => ?_)
      · have tc_9 := b_ne rfl rfl c_9
        have hn1 : 0 ≤ n.toInt := by omega
        have hn2 : n.toInt ≤ 4 := by omega
        have hk1 : 0 ≤ k.toInt := by omega
        have hk2 : k.toInt ≤ 4 := by omega
        refine lv_aload_n hx hb dX4_meet_26 rfl (lv_at hl 0 rfl) ?_
        refine cV_v (As := []) (rest := []) ⟨hx, hb, hml, hown, hts⟩ (c_X4_layTrial l D cI cZ cM h0 ype ytk ywi yki yse yno yrh yrw yrk yrt yrp yrq ytx yle yat yfa yby ylo yhi yac ynx yro ygl ysn yso ysp ysw ysd yik ykp Fno _ ) (cwV 0 hts gX4_meet_X4_layTrial rfl rfl rfl (by decide +kernel) ⟨by rw [hR]; decide, by rw [hR]; decide⟩) hK hP hD hS hA [0, 1] [2, 3, 4, 5] rfl rfl (by decide) (by decide) (by decide) rfl 0 rfl hl.1 rfl rfl (Nat.le_of_ble_eq_true rfl) dX4_meet_27 ⟨by rw [hR]; decide, by rw [hR]; decide⟩ (fun u_12 H locs hw hP hD hS => ?_)
        obtain ⟨Gno_10, rfl⟩ : ∃ z, z = u_12 := ⟨_, rfl⟩
        have hP : va_P D vwCl [(h0, .inr (4, [.int ype, .int ytk, .ref ywi, .ref yki, .ref yse, .ref yno, .ref yrh, .ref yrw, .ref yrk, .ref yrt, .int yrp, .int yrq, .ref ytx, .int yle, .int yat, .int yfa, .ref yby, .ref ylo, .ref yhi, .int yac, .int ynx, .ref yro, .ref ygl, .int ysn, .ref yso, .ref ysp, .ref ysw, .long ysd, .ref yik, .ref ykp])), (yno, .inl (cI, 96, .inl Gno_10)), (yki, .inl (cI, 5, .inl Fki)), (yby, .inl (cI, 5, .inl Fby)), (ylo, .inl (cI, 5, .inl Flo)), (yhi, .inl (cI, 5, .inl Fhi))] H := hP.sub [4, 5, 0, 1, 2, 3] rfl
        have hD : va_D A [(h0, .inr (4, [.int ype, .int ytk, .ref ywi, .ref yki, .ref yse, .ref yno, .ref yrh, .ref yrw, .ref yrk, .ref yrt, .int yrp, .int yrq, .ref ytx, .int yle, .int yat, .int yfa, .ref yby, .ref ylo, .ref yhi, .int yac, .int ynx, .ref yro, .ref ygl, .int ysn, .ref yso, .ref ysp, .ref ysw, .long ysd, .ref yik, .ref ykp])), (yno, .inl (cI, 96, .inl Gno_10)), (yki, .inl (cI, 5, .inl Fki)), (yby, .inl (cI, 5, .inl Fby)), (ylo, .inl (cI, 5, .inl Flo)), (yhi, .inl (cI, 5, .inl Fhi))] := hD.sub [4, 5, 0, 1, 2, 3] (by decide) rfl
        refine W.widen (k := 0) (n := 0) (Nat.le_refl _) (Nat.le_refl _) ?_
        refine lv_aload_n hx hb dX4_meet_30 rfl (lv_at hl 0 rfl) ?_
        refine lv_iload_n hx hb dX4_meet_31 rfl (lv_at hl 1 rfl) ?_
        refine lv_iload_n hx hb dX4_meet_32 rfl (lv_at hl 2 rfl) ?_
        refine cV_i (As := [.int n, .int k]) (rest := []) ⟨hx, hb, hml, hown, hts⟩ (c_X4_meetOf l D cI cZ cM h0 n k ype ytk ywi yki yse yno yrh yrw yrk yrt yrp yrq ytx yle yat yfa yby ylo yhi yac ynx yro ygl ysn yso ysp ysw ysd yik ykp Gno_10 Fki Fby Flo Fhi _ hBy (show 0 ≤ ype.toInt ∧ ype.toInt ≤ 5 by omega) (show 0 ≤ ytk.toInt ∧ ytk.toInt ≤ 6 by omega) (show 0 ≤ n.toInt ∧ n.toInt ≤ 4 by omega) (show 0 ≤ k.toInt ∧ k.toInt ≤ 4 by omega)) (cwV 2 hts gX4_meet_X4_meetOf rfl rfl rfl (by decide +kernel) ⟨by rw [hR]; decide, by rw [hR]; decide⟩) hK hP hD hS hA [0, 1, 2, 3, 4, 5] [] rfl rfl (by decide) (by decide) (by decide) rfl 0 rfl hl.1 rfl rfl (Nat.le_of_ble_eq_true rfl) dX4_meet_33 ⟨by rw [hR]; decide, by rw [hR]; decide⟩ (fun r_17 u_18 H locs hw hP hD hS => ?_)
        obtain ⟨Gno_13, Gby_14, Glo_15, Ghi_16⟩ := u_18
        have hP : va_P D vwCl [(h0, .inr (4, [.int ype, .int ytk, .ref ywi, .ref yki, .ref yse, .ref yno, .ref yrh, .ref yrw, .ref yrk, .ref yrt, .int yrp, .int yrq, .ref ytx, .int yle, .int yat, .int yfa, .ref yby, .ref ylo, .ref yhi, .int yac, .int ynx, .ref yro, .ref ygl, .int ysn, .ref yso, .ref ysp, .ref ysw, .long ysd, .ref yik, .ref ykp])), (yno, .inl (cI, 96, .inl Gno_13)), (yki, .inl (cI, 5, .inl Fki)), (yby, .inl (cI, 5, .inl Gby_14)), (ylo, .inl (cI, 5, .inl Glo_15)), (yhi, .inl (cI, 5, .inl Ghi_16))] H := hP.sub [0, 1, 2, 3, 4, 5] rfl
        have hD : va_D A [(h0, .inr (4, [.int ype, .int ytk, .ref ywi, .ref yki, .ref yse, .ref yno, .ref yrh, .ref yrw, .ref yrk, .ref yrt, .int yrp, .int yrq, .ref ytx, .int yle, .int yat, .int yfa, .ref yby, .ref ylo, .ref yhi, .int yac, .int ynx, .ref yro, .ref ygl, .int ysn, .ref yso, .ref ysp, .ref ysw, .long ysd, .ref yik, .ref ykp])), (yno, .inl (cI, 96, .inl Gno_13)), (yki, .inl (cI, 5, .inl Fki)), (yby, .inl (cI, 5, .inl Gby_14)), (ylo, .inl (cI, 5, .inl Glo_15)), (yhi, .inl (cI, 5, .inl Ghi_16))] := hD.sub [0, 1, 2, 3, 4, 5] (by decide) rfl
        refine W.widen (k := 0) (n := 0) (Nat.le_refl _) (Nat.le_refl _) ?_
        have hw : ByOk Gby_14 := hw
        have hw_19 := hw
        have PBY := hw_19
        exact ret_i (post := (fun (r : Int32) (u : (Nat → Int32) × (Nat → Int32) × (Nat → Int32) × (Nat → Int32)) => ByOk u.2.1)) (W1 := (fun u => [(h0, .inr (4, [.int ype, .int ytk, .ref ywi, .ref yki, .ref yse, .ref yno, .ref yrh, .ref yrw, .ref yrk, .ref yrt, .int yrp, .int yrq, .ref ytx, .int yle, .int yat, .int yfa, .ref yby, .ref ylo, .ref yhi, .int yac, .int ynx, .ref yro, .ref ygl, .int ysn, .ref yso, .ref ysp, .ref ysw, .long ysd, .ref yik, .ref ykp])), (yno, .inl (cI, 96, .inl u.1)), (yki, .inl (cI, 5, .inl Fki)), (yby, .inl (cI, 5, .inl u.2.1)), (ylo, .inl (cI, 5, .inl u.2.2.1)), (yhi, .inl (cI, 5, .inl u.2.2.2))])) (Gno_13, Gby_14, Glo_15, Ghi_16) hx hb hr hlocks rfl hQ hK hP hD hS ⟨by decide, by decide⟩ dX4_meet_36 PBY
      · have tc_9 := b_eq rfl rfl c_9
        refine lv_bipush (v := (-2)) hx hb dX4_meet_23 (by decide) ?_
        exact ret_i (post := (fun (r : Int32) (u : (Nat → Int32) × (Nat → Int32) × (Nat → Int32) × (Nat → Int32)) => ByOk u.2.1)) (W1 := (fun u => [(h0, .inr (4, [.int ype, .int ytk, .ref ywi, .ref yki, .ref yse, .ref yno, .ref yrh, .ref yrw, .ref yrk, .ref yrt, .int yrp, .int yrq, .ref ytx, .int yle, .int yat, .int yfa, .ref yby, .ref ylo, .ref yhi, .int yac, .int ynx, .ref yro, .ref ygl, .int ysn, .ref yso, .ref ysp, .ref ysw, .long ysd, .ref yik, .ref ykp])), (yno, .inl (cI, 96, .inl u.1)), (yki, .inl (cI, 5, .inl Fki)), (yby, .inl (cI, 5, .inl u.2.1)), (ylo, .inl (cI, 5, .inl u.2.2.1)), (yhi, .inl (cI, 5, .inl u.2.2.2))])) (Fno, Fby, Flo, Fhi) hx hb hr hlocks rfl hQ hK hP hD hS ⟨by decide, by decide⟩ dX4_meet_25 hBy
    · have tc_8 := b_eq rfl (show (0 : Int32).toInt = 0 by decide) c_8
      refine lv_iconst (v := (-1)) hx hb dX4_meet_16 (by decide) ?_
      exact ret_i (post := (fun (r : Int32) (u : (Nat → Int32) × (Nat → Int32) × (Nat → Int32) × (Nat → Int32)) => ByOk u.2.1)) (W1 := (fun u => [(h0, .inr (4, [.int ype, .int ytk, .ref ywi, .ref yki, .ref yse, .ref yno, .ref yrh, .ref yrw, .ref yrk, .ref yrt, .int yrp, .int yrq, .ref ytx, .int yle, .int yat, .int yfa, .ref yby, .ref ylo, .ref yhi, .int yac, .int ynx, .ref yro, .ref ygl, .int ysn, .ref yso, .ref ysp, .ref ysw, .long ysd, .ref yik, .ref ykp])), (yno, .inl (cI, 96, .inl u.1)), (yki, .inl (cI, 5, .inl Fki)), (yby, .inl (cI, 5, .inl u.2.1)), (ylo, .inl (cI, 5, .inl u.2.2.1)), (yhi, .inl (cI, 5, .inl u.2.2.2))])) (Fno, Fby, Flo, Fhi) hx hb hr hlocks rfl hQ hK hP hD hS ⟨by decide, by decide⟩ dX4_meet_17 hBy

set_option maxHeartbeats 600000 in
set_option maxRecDepth 100000 in
theorem c_X4_twoSeats (l : Launch) (D : va_G) (cI cZ cM : ClassId) (h0 : Nat) (ype : Int32) (ytk : Int32) (ywi : Nat) (yki : Nat) (yse : Nat) (yno : Nat) (yrh : Nat) (yrw : Nat) (yrk : Nat) (yrt : Nat) (yrp : Int32) (yrq : Int32) (ytx : Nat) (yle : Int32) (yat : Int32) (yfa : Int32) (yby : Nat) (ylo : Nat) (yhi : Nat) (yac : Int32) (ynx : Int32) (yro : Nat) (ygl : Nat) (ysn : Int32) (yso : Nat) (ysp : Nat) (ysw : Nat) (ysd : Int64) (yik : Nat) (ykp : Nat) (Fno : Nat → Int32) (Fki : Nat → Int32) (Fby : Nat → Int32) (Flo : Nat → Int32) (Fhi : Nat → Int32) (Fse : Nat → Int32) (sz : Nat) (hBy : ByOk Fby) (h_ype : 0 ≤ ype.toInt ∧ ype.toInt ≤ 5) (h_ytk : 0 ≤ ytk.toInt ∧ ytk.toInt ≤ 6) : Ci l yX4_twoSeats wsX4_twoSeats ({ frames := 3, cells := 0, slots := 0, locals := 68 } : Room) D cI cZ cM [.ref h0] [(h0, .inr (4, [.int ype, .int ytk, .ref ywi, .ref yki, .ref yse, .ref yno, .ref yrh, .ref yrw, .ref yrk, .ref yrt, .int yrp, .int yrq, .ref ytx, .int yle, .int yat, .int yfa, .ref yby, .ref ylo, .ref yhi, .int yac, .int ynx, .ref yro, .ref ygl, .int ysn, .ref yso, .ref ysp, .ref ysw, .long ysd, .ref yik, .ref ykp])), (yno, .inl (cI, 96, .inl Fno)), (yki, .inl (cI, 5, .inl Fki)), (yby, .inl (cI, 5, .inl Fby)), (ylo, .inl (cI, 5, .inl Flo)), (yhi, .inl (cI, 5, .inl Fhi)), (yse, .inl (cI, 7, .inl Fse))] sz (fun (r : Int32) (u : (Nat → Int32) × (Nat → Int32) × (Nat → Int32) × (Nat → Int32)) => ByOk u.2.1) (fun u => [(h0, .inr (4, [.int ype, .int ytk, .ref ywi, .ref yki, .ref yse, .ref yno, .ref yrh, .ref yrw, .ref yrk, .ref yrt, .int yrp, .int yrq, .ref ytx, .int yle, .int yat, .int yfa, .ref yby, .ref ylo, .ref yhi, .int yac, .int ynx, .ref yro, .ref ygl, .int ysn, .ref yso, .ref ysp, .ref ysw, .long ysd, .ref yik, .ref ykp])), (yno, .inl (cI, 96, .inl u.1)), (yki, .inl (cI, 5, .inl Fki)), (yby, .inl (cI, 5, .inl u.2.1)), (ylo, .inl (cI, 5, .inl u.2.2.1)), (yhi, .inl (cI, 5, .inl u.2.2.2)), (yse, .inl (cI, 7, .inl Fse))]) 0 0 := by
  refine begins (l := l) (y := yX4_twoSeats) (ws := wsX4_twoSeats) (av := [.ref h0]) (Qc := fun A => va_Qi (fun (r : Int32) (u : (Nat → Int32) × (Nat → Int32) × (Nat → Int32) × (Nat → Int32)) => ByOk u.2.1) (fun u => Wd D cI cZ cM A ((fun u => [(h0, .inr (4, [.int ype, .int ytk, .ref ywi, .ref yki, .ref yse, .ref yno, .ref yrh, .ref yrw, .ref yrk, .ref yrt, .int yrp, .int yrq, .ref ytx, .int yle, .int yat, .int yfa, .ref yby, .ref ylo, .ref yhi, .int yac, .int ynx, .ref yro, .ref ygl, .int ysn, .ref yso, .ref ysp, .ref ysw, .long ysd, .ref yik, .ref ykp])), (yno, .inl (cI, 96, .inl u.1)), (yki, .inl (cI, 5, .inl Fki)), (yby, .inl (cI, 5, .inl u.2.1)), (ylo, .inl (cI, 5, .inl u.2.2.1)), (yhi, .inl (cI, 5, .inl u.2.2.2)), (yse, .inl (cI, 7, .inl Fse))]) u)) A) cX4_twoSeats 1 (some .int) (by decide) rfl (Nat.le_of_ble_eq_true rfl) ?_
  intro p e s m args below meth c R Q A ls hBd hR hQ hA hS hK hP hD hl
  obtain ⟨hx, hb, hr, hts, hown, hlocks, hin, hml⟩ := hBd
  have hl : lv_has ls 1 [(0, .ref h0)] := hl
  have iX4 : ∀ w ∈ wsX40, w ∈ wsX4_twoSeats := fun _ h => List.mem_cons_of_mem _ (List.mem_append_right _ h)
  obtain ⟨h_ypea, h_ypeb⟩ := h_ype
  obtain ⟨h_ytka, h_ytkb⟩ := h_ytk
  refine lv_aload_n hx hb dX4_twoSeats_0 rfl (lv_at hl 0 rfl) ?_
  refine cV_v (As := []) (rest := []) ⟨hx, hb, hml, hown, hts⟩ (c_X4_layTrial l D cI cZ cM h0 ype ytk ywi yki yse yno yrh yrw yrk yrt yrp yrq ytx yle yat yfa yby ylo yhi yac ynx yro ygl ysn yso ysp ysw ysd yik ykp Fno _ ) (cwV 0 hts gX4_twoSeats_X4_layTrial rfl rfl rfl (by decide +kernel) ⟨by rw [hR]; decide, by rw [hR]; decide⟩) hK hP hD hS hA [0, 1] [2, 3, 4, 5, 6] rfl rfl (by decide) (by decide) (by decide) rfl 0 rfl hl.1 rfl rfl (Nat.le_of_ble_eq_true rfl) dX4_twoSeats_1 ⟨by rw [hR]; decide, by rw [hR]; decide⟩ (fun u_3 H locs hw hP hD hS => ?_)
  obtain ⟨Gno_1, rfl⟩ : ∃ z, z = u_3 := ⟨_, rfl⟩
  have hP : va_P D vwCl [(h0, .inr (4, [.int ype, .int ytk, .ref ywi, .ref yki, .ref yse, .ref yno, .ref yrh, .ref yrw, .ref yrk, .ref yrt, .int yrp, .int yrq, .ref ytx, .int yle, .int yat, .int yfa, .ref yby, .ref ylo, .ref yhi, .int yac, .int ynx, .ref yro, .ref ygl, .int ysn, .ref yso, .ref ysp, .ref ysw, .long ysd, .ref yik, .ref ykp])), (yno, .inl (cI, 96, .inl Gno_1)), (yki, .inl (cI, 5, .inl Fki)), (yby, .inl (cI, 5, .inl Fby)), (ylo, .inl (cI, 5, .inl Flo)), (yhi, .inl (cI, 5, .inl Fhi)), (yse, .inl (cI, 7, .inl Fse))] H := hP.sub [5, 6, 0, 1, 2, 3, 4] rfl
  have hD : va_D A [(h0, .inr (4, [.int ype, .int ytk, .ref ywi, .ref yki, .ref yse, .ref yno, .ref yrh, .ref yrw, .ref yrk, .ref yrt, .int yrp, .int yrq, .ref ytx, .int yle, .int yat, .int yfa, .ref yby, .ref ylo, .ref yhi, .int yac, .int ynx, .ref yro, .ref ygl, .int ysn, .ref yso, .ref ysp, .ref ysw, .long ysd, .ref yik, .ref ykp])), (yno, .inl (cI, 96, .inl Gno_1)), (yki, .inl (cI, 5, .inl Fki)), (yby, .inl (cI, 5, .inl Fby)), (ylo, .inl (cI, 5, .inl Flo)), (yhi, .inl (cI, 5, .inl Fhi)), (yse, .inl (cI, 7, .inl Fse))] := hD.sub [5, 6, 0, 1, 2, 3, 4] (by decide) rfl
  refine W.widen (k := 0) (n := 0) (Nat.le_refl _) (Nat.le_refl _) ?_
  have LOOP_4 : ∀ (fu_4 : Nat) (gn : Nat → Int32) (gb : Nat → Int32) (gl : Nat → Int32) (gh : Nat → Int32) (H : Heap) (locs : List Loc) (ls : Array Slot), (10 - (gn 48).toInt).toNat < fu_4 → (ByOk gb) → va_P D vwCl [(h0, .inr (4, [.int ype, .int ytk, .ref ywi, .ref yki, .ref yse, .ref yno, .ref yrh, .ref yrw, .ref yrk, .ref yrt, .int yrp, .int yrq, .ref ytx, .int yle, .int yat, .int yfa, .ref yby, .ref ylo, .ref yhi, .int yac, .int ynx, .ref yro, .ref ygl, .int ysn, .ref yso, .ref ysp, .ref ysw, .long ysd, .ref yik, .ref ykp])), (yno, .inl (cI, 96, .inl gn)), (yki, .inl (cI, 5, .inl Fki)), (yby, .inl (cI, 5, .inl gb)), (ylo, .inl (cI, 5, .inl gl)), (yhi, .inl (cI, 5, .inl gh)), (yse, .inl (cI, 7, .inl Fse))] H → va_D A [(h0, .inr (4, [.int ype, .int ytk, .ref ywi, .ref yki, .ref yse, .ref yno, .ref yrh, .ref yrw, .ref yrk, .ref yrt, .int yrp, .int yrq, .ref ytx, .int yle, .int yat, .int yfa, .ref yby, .ref ylo, .ref yhi, .int yac, .int ynx, .ref yro, .ref ygl, .int ysn, .ref yso, .ref ysp, .ref ysw, .long ysd, .ref yik, .ref ykp])), (yno, .inl (cI, 96, .inl gn)), (yki, .inl (cI, 5, .inl Fki)), (yby, .inl (cI, 5, .inl gb)), (ylo, .inl (cI, 5, .inl gl)), (yhi, .inl (cI, 5, .inl gh)), (yse, .inl (cI, 7, .inl Fse))] → va_S A s.heap H locs → lv_has ls 1 [(0, .ref h0)] → W p l e R s m args below meth c H locs 0 0 Q (F0 m 4 ls []) := by
    intro fu_4
    induction fu_4 with
    | zero => intro gn gb gl gh H locs ls hmu; exact absurd hmu (Nat.not_lt_zero _)
    | succ fu_4 ih =>
      intro gn gb gl gh H locs ls hmu hby hP hD hS hl
      have ih_5 := ih
      clear ih
      refine lv_aload_n hx hb dX4_twoSeats_4 rfl (lv_at hl 0 rfl) ?_
      refine va_get (D := D) (ci := 4) (v := .ref yno) (C := RX4) (T := TX4) (N := 30) hx hb hts iX4 hown hK hP 0 rfl rfl 5 (by decide) (hts (.fieldLink RX4 19 "PunchedTicketModel" "now" "[I") (List.mem_of_getElem? (i := 1) rfl)) (fun _ h9 => h9) rfl dX4_twoSeats_5 ?_
      refine lv_bipush (v := 48) hx hb dX4_twoSeats_8 (by decide) ?_
      refine va_iald hx hb hK hP 1 0 rfl rfl (vp_in_iff.mpr (by decide)) dX4_twoSeats_10 ?_
      refine lv_topi (fun v_6 ev_6 => ?_)
      have tv_6 : v_6.toInt = (gn 48).toInt := by rw [ev_6]; rfl
      refine lv_bipush (v := 10) hx hb dX4_twoSeats_11 (by decide) ?_
      refine lv_icmp_ge (tgt := 42) hx hb dX4_twoSeats_13 (by decide) (fun c_7 => ?_) (fun c_7 => ?_)
      · have tc_7 := b_le (show (10 : Int32).toInt = 10 by decide) rfl c_7
        refine lv_bipush (v := (-9)) hx hb dX4_twoSeats_42 (by decide) ?_
        exact ret_i (post := (fun (r : Int32) (u : (Nat → Int32) × (Nat → Int32) × (Nat → Int32) × (Nat → Int32)) => ByOk u.2.1)) (W1 := (fun u => [(h0, .inr (4, [.int ype, .int ytk, .ref ywi, .ref yki, .ref yse, .ref yno, .ref yrh, .ref yrw, .ref yrk, .ref yrt, .int yrp, .int yrq, .ref ytx, .int yle, .int yat, .int yfa, .ref yby, .ref ylo, .ref yhi, .int yac, .int ynx, .ref yro, .ref ygl, .int ysn, .ref yso, .ref ysp, .ref ysw, .long ysd, .ref yik, .ref ykp])), (yno, .inl (cI, 96, .inl u.1)), (yki, .inl (cI, 5, .inl Fki)), (yby, .inl (cI, 5, .inl u.2.1)), (ylo, .inl (cI, 5, .inl u.2.2.1)), (yhi, .inl (cI, 5, .inl u.2.2.2)), (yse, .inl (cI, 7, .inl Fse))])) (gn, gb, gl, gh) hx hb hr hlocks rfl hQ hK hP hD hS ⟨by decide, by decide⟩ dX4_twoSeats_44 hby
      · have tc_7 := b_nle (show (10 : Int32).toInt = 10 by decide) rfl c_7
        refine lv_aload_n hx hb dX4_twoSeats_16 rfl (lv_at hl 0 rfl) ?_
        refine lv_aload_n hx hb dX4_twoSeats_17 rfl (lv_at hl 0 rfl) ?_
        refine lv_iconst (v := 1) hx hb dX4_twoSeats_18 (by decide) ?_
        refine lv_aload_n hx hb dX4_twoSeats_19 rfl (lv_at hl 0 rfl) ?_
        refine va_get (D := D) (ci := 4) (v := .int ytk) (C := RX4) (T := TX4) (N := 30) hx hb hts iX4 hown hK hP 0 rfl rfl 1 (by decide) (hts (.fieldLink RX4 101 "PunchedTicketModel" "tickets" "I") (List.mem_of_getElem? (i := 2) rfl)) (fun _ h9 => h9) rfl dX4_twoSeats_20 ?_
        refine cV_i (As := [.int 1, .int ytk]) (rest := [.ref h0]) ⟨hx, hb, hml, hown, hts⟩ (c_X4_pass1 l D cI cZ cM h0 ytk ype ytk ywi yki yse yno yrh yrw yrk yrt yrp yrq ytx yle yat yfa yby ylo yhi yac ynx yro ygl ysn yso ysp ysw ysd yik ykp gn Fki gb gl gh _ hby (show (gn 48).toInt ≤ 9 by omega) (show 0 ≤ ytk.toInt ∧ ytk.toInt ≤ 7 by omega) (show 0 ≤ ype.toInt ∧ ype.toInt ≤ 5 by omega)) (cwV 2 hts gX4_twoSeats_X4_pass rfl rfl rfl (by decide +kernel) ⟨by rw [hR]; decide, by rw [hR]; decide⟩) hK hP hD hS hA [0, 1, 2, 3, 4, 5] [6] rfl rfl (by decide) (by decide) (by decide) rfl 0 rfl hl.1 rfl rfl (Nat.le_of_ble_eq_true rfl) dX4_twoSeats_23 ⟨by rw [hR]; decide, by rw [hR]; decide⟩ (fun r_12 u_13 H locs hw hP hD hS => ?_)
        obtain ⟨Gno_8, Gby_9, Glo_10, Ghi_11⟩ := u_13
        have hP : va_P D vwCl [(h0, .inr (4, [.int ype, .int ytk, .ref ywi, .ref yki, .ref yse, .ref yno, .ref yrh, .ref yrw, .ref yrk, .ref yrt, .int yrp, .int yrq, .ref ytx, .int yle, .int yat, .int yfa, .ref yby, .ref ylo, .ref yhi, .int yac, .int ynx, .ref yro, .ref ygl, .int ysn, .ref yso, .ref ysp, .ref ysw, .long ysd, .ref yik, .ref ykp])), (yno, .inl (cI, 96, .inl Gno_8)), (yki, .inl (cI, 5, .inl Fki)), (yby, .inl (cI, 5, .inl Gby_9)), (ylo, .inl (cI, 5, .inl Glo_10)), (yhi, .inl (cI, 5, .inl Ghi_11)), (yse, .inl (cI, 7, .inl Fse))] H := hP.sub [1, 2, 3, 4, 5, 6, 0] rfl
        have hD : va_D A [(h0, .inr (4, [.int ype, .int ytk, .ref ywi, .ref yki, .ref yse, .ref yno, .ref yrh, .ref yrw, .ref yrk, .ref yrt, .int yrp, .int yrq, .ref ytx, .int yle, .int yat, .int yfa, .ref yby, .ref ylo, .ref yhi, .int yac, .int ynx, .ref yro, .ref ygl, .int ysn, .ref yso, .ref ysp, .ref ysw, .long ysd, .ref yik, .ref ykp])), (yno, .inl (cI, 96, .inl Gno_8)), (yki, .inl (cI, 5, .inl Fki)), (yby, .inl (cI, 5, .inl Gby_9)), (ylo, .inl (cI, 5, .inl Glo_10)), (yhi, .inl (cI, 5, .inl Ghi_11)), (yse, .inl (cI, 7, .inl Fse))] := hD.sub [1, 2, 3, 4, 5, 6, 0] (by decide) rfl
        refine W.widen (k := 0) (n := 0) (Nat.le_refl _) (Nat.le_refl _) ?_
        have hw : (Gno_8 48).toInt = (gn 48).toInt + 1 ∧ ByOk Gby_9 ∧ WentOk r_12 Gby_9 := hw
        have hw_14 := hw
        have PBY := hw_14.2.1
        have PWE := hw_14.2.2
        refine cV_i (As := [.int r_12]) (rest := []) ⟨hx, hb, hml, hown, hts⟩ (c_X4_isDouble l D cI cZ cM h0 r_12 ype ytk ywi yki yse yno yrh yrw yrk yrt yrp yrq ytx yle yat yfa yby ylo yhi yac ynx yro ygl ysn yso ysp ysw ysd yik ykp Glo_10 Ghi_11 Gby_9 Fse _ PWE (show 0 ≤ ype.toInt ∧ ype.toInt ≤ 5 by omega)) (cwV 1 hts gX4_twoSeats_X4_isDouble rfl rfl rfl (by decide +kernel) ⟨by rw [hR]; decide, by rw [hR]; decide⟩) hK hP hD hS hA [0, 4, 5, 3, 6] [1, 2] rfl rfl (by decide) (by decide) (by decide) rfl 0 rfl hl.1 rfl rfl (Nat.le_of_ble_eq_true rfl) dX4_twoSeats_26 ⟨by rw [hR]; decide, by rw [hR]; decide⟩ (fun r_15 u_16 H locs hw hP hD hS => ?_)
        have hP : va_P D vwCl [(h0, .inr (4, [.int ype, .int ytk, .ref ywi, .ref yki, .ref yse, .ref yno, .ref yrh, .ref yrw, .ref yrk, .ref yrt, .int yrp, .int yrq, .ref ytx, .int yle, .int yat, .int yfa, .ref yby, .ref ylo, .ref yhi, .int yac, .int ynx, .ref yro, .ref ygl, .int ysn, .ref yso, .ref ysp, .ref ysw, .long ysd, .ref yik, .ref ykp])), (yno, .inl (cI, 96, .inl Gno_8)), (yki, .inl (cI, 5, .inl Fki)), (yby, .inl (cI, 5, .inl Gby_9)), (ylo, .inl (cI, 5, .inl Glo_10)), (yhi, .inl (cI, 5, .inl Ghi_11)), (yse, .inl (cI, 7, .inl Fse))] H := hP.sub [2, 0, 1, 5, 3, 4, 6] rfl
        have hD : va_D A [(h0, .inr (4, [.int ype, .int ytk, .ref ywi, .ref yki, .ref yse, .ref yno, .ref yrh, .ref yrw, .ref yrk, .ref yrt, .int yrp, .int yrq, .ref ytx, .int yle, .int yat, .int yfa, .ref yby, .ref ylo, .ref yhi, .int yac, .int ynx, .ref yro, .ref ygl, .int ysn, .ref yso, .ref ysp, .ref ysw, .long ysd, .ref yik, .ref ykp])), (yno, .inl (cI, 96, .inl Gno_8)), (yki, .inl (cI, 5, .inl Fki)), (yby, .inl (cI, 5, .inl Gby_9)), (ylo, .inl (cI, 5, .inl Glo_10)), (yhi, .inl (cI, 5, .inl Ghi_11)), (yse, .inl (cI, 7, .inl Fse))] := hD.sub [2, 0, 1, 5, 3, 4, 6] (by decide) rfl
        refine W.widen (k := 0) (n := 0) (Nat.le_refl _) (Nat.le_refl _) ?_
        have hw : (r_15.toInt = 0 ∨ r_15.toInt = 1) := hw
        have hw_17 := hw
        refine lv_if_eq (tgt := 4) hx hb dX4_twoSeats_29 (by decide) (fun c_18 => ?_) (fun c_18 => ?_)
        · have tc_18 := b_eq rfl (show (0 : Int32).toInt = 0 by decide) c_18
          exact ih_5 Gno_8 Gby_9 Glo_10 Ghi_11 _ _ _ (show (10 - (Gno_8 48).toInt).toNat < fu_4 by omega) (PBY) hP hD hS (lv_sub hl [0] rfl)
        · have tc_18 := b_ne rfl (show (0 : Int32).toInt = 0 by decide) c_18
          refine lv_aload_n hx hb dX4_twoSeats_32 rfl (lv_at hl 0 rfl) ?_
          refine va_get (D := D) (ci := 4) (v := .ref yno) (C := RX4) (T := TX4) (N := 30) hx hb hts iX4 hown hK hP 0 rfl rfl 5 (by decide) (hts (.fieldLink RX4 19 "PunchedTicketModel" "now" "[I") (List.mem_of_getElem? (i := 1) rfl)) (fun _ h9 => h9) rfl dX4_twoSeats_33 ?_
          refine lv_bipush (v := 48) hx hb dX4_twoSeats_36 (by decide) ?_
          refine va_iald hx hb hK hP 1 0 rfl rfl (vp_in_iff.mpr (by decide)) dX4_twoSeats_38 ?_
          refine lv_topi (fun v_19 ev_19 => ?_)
          refine lv_iconst (v := 1) hx hb dX4_twoSeats_39 (by decide) ?_
          refine lv_isub hx hb dX4_twoSeats_40 ?_
          refine lv_topi (fun v_20 ev_20 => ?_)
          exact ret_i (post := (fun (r : Int32) (u : (Nat → Int32) × (Nat → Int32) × (Nat → Int32) × (Nat → Int32)) => ByOk u.2.1)) (W1 := (fun u => [(h0, .inr (4, [.int ype, .int ytk, .ref ywi, .ref yki, .ref yse, .ref yno, .ref yrh, .ref yrw, .ref yrk, .ref yrt, .int yrp, .int yrq, .ref ytx, .int yle, .int yat, .int yfa, .ref yby, .ref ylo, .ref yhi, .int yac, .int ynx, .ref yro, .ref ygl, .int ysn, .ref yso, .ref ysp, .ref ysw, .long ysd, .ref yik, .ref ykp])), (yno, .inl (cI, 96, .inl u.1)), (yki, .inl (cI, 5, .inl Fki)), (yby, .inl (cI, 5, .inl u.2.1)), (ylo, .inl (cI, 5, .inl u.2.2.1)), (yhi, .inl (cI, 5, .inl u.2.2.2)), (yse, .inl (cI, 7, .inl Fse))])) (Gno_8, Gby_9, Glo_10, Ghi_11) hx hb hr hlocks rfl hQ hK hP hD hS ⟨by decide, by decide⟩ dX4_twoSeats_41 PBY
  exact LOOP_4 _ Gno_1 Fby Flo Fhi _ _ _ (Nat.lt_succ_self _) (hBy) hP hD hS (lv_sub hl [0] rfl)

set_option maxHeartbeats 600000 in
set_option maxRecDepth 100000 in
theorem c_X4_giveTrial (l : Launch) (D : va_G) (cI cZ cM : ClassId) (h0 : Nat) (n : Int32) (k : Int32) (ype : Int32) (ytk : Int32) (ywi : Nat) (yki : Nat) (yse : Nat) (yno : Nat) (yrh : Nat) (yrw : Nat) (yrk : Nat) (yrt : Nat) (yrp : Int32) (yrq : Int32) (ytx : Nat) (yle : Int32) (yat : Int32) (yfa : Int32) (yby : Nat) (ylo : Nat) (yhi : Nat) (yac : Int32) (ynx : Int32) (yro : Nat) (ygl : Nat) (ysn : Int32) (yso : Nat) (ysp : Nat) (ysw : Nat) (ysd : Int64) (yik : Nat) (ykp : Nat) (Fno : Nat → Int32) (sz : Nat) (h_ype : 0 ≤ ype.toInt ∧ ype.toInt ≤ 5) (h_ytk : 0 ≤ ytk.toInt ∧ ytk.toInt ≤ 6) : Ci l yX4_giveTrial wsX4_giveTrial ({ frames := 2, cells := 0, slots := 0, locals := 46 } : Room) D cI cZ cM [.ref h0, .int n, .int k] [(h0, .inr (4, [.int ype, .int ytk, .ref ywi, .ref yki, .ref yse, .ref yno, .ref yrh, .ref yrw, .ref yrk, .ref yrt, .int yrp, .int yrq, .ref ytx, .int yle, .int yat, .int yfa, .ref yby, .ref ylo, .ref yhi, .int yac, .int ynx, .ref yro, .ref ygl, .int ysn, .ref yso, .ref ysp, .ref ysw, .long ysd, .ref yik, .ref ykp])), (yno, .inl (cI, 96, .inl Fno))] sz (fun (r : Int32) (u : (Nat → Int32)) => (r.toInt = 0 ∨ r.toInt = 1)) (fun u => [(h0, .inr (4, [.int ype, .int ytk, .ref ywi, .ref yki, .ref yse, .ref yno, .ref yrh, .ref yrw, .ref yrk, .ref yrt, .int yrp, .int yrq, .ref ytx, .int yle, .int yat, .int yfa, .ref yby, .ref ylo, .ref yhi, .int yac, .int ynx, .ref yro, .ref ygl, .int ysn, .ref yso, .ref ysp, .ref ysw, .long ysd, .ref yik, .ref ykp])), (yno, .inl (cI, 96, .inl u))]) 0 0 := by
  refine begins (l := l) (y := yX4_giveTrial) (ws := wsX4_giveTrial) (av := [.ref h0, .int n, .int k]) (Qc := fun A => va_Qi (fun (r : Int32) (u : (Nat → Int32)) => (r.toInt = 0 ∨ r.toInt = 1)) (fun u => Wd D cI cZ cM A ((fun u => [(h0, .inr (4, [.int ype, .int ytk, .ref ywi, .ref yki, .ref yse, .ref yno, .ref yrh, .ref yrw, .ref yrk, .ref yrt, .int yrp, .int yrq, .ref ytx, .int yle, .int yat, .int yfa, .ref yby, .ref ylo, .ref yhi, .int yac, .int ynx, .ref yro, .ref ygl, .int ysn, .ref yso, .ref ysp, .ref ysw, .long ysd, .ref yik, .ref ykp])), (yno, .inl (cI, 96, .inl u))]) u)) A) cX4_giveTrial 4 (some .boolean) (by decide) rfl (Nat.le_of_ble_eq_true rfl) ?_
  intro p e s m args below meth c R Q A ls hBd hR hQ hA hS hK hP hD hl
  obtain ⟨hx, hb, hr, hts, hown, hlocks, hin, hml⟩ := hBd
  have hl : lv_has ls 4 [(0, .ref h0), (1, .int n), (2, .int k)] := hl
  have iX4 : ∀ w ∈ wsX40, w ∈ wsX4_giveTrial := fun _ h => List.mem_cons_of_mem _ (List.mem_append_right _ h)
  obtain ⟨h_ypea, h_ypeb⟩ := h_ype
  obtain ⟨h_ytka, h_ytkb⟩ := h_ytk
  refine lv_aload_n hx hb dX4_giveTrial_0 rfl (lv_at hl 0 rfl) ?_
  refine lv_iload_n hx hb dX4_giveTrial_1 rfl (lv_at hl 1 rfl) ?_
  refine cV_i (As := [.int n]) (rest := []) ⟨hx, hb, hml, hown, hts⟩ (c_X4_isTicket l D cI cZ cM h0 n ype ytk ywi yki yse yno yrh yrw yrk yrt yrp yrq ytx yle yat yfa yby ylo yhi yac ynx yro ygl ysn yso ysp ysw ysd yik ykp _ (show 0 ≤ ytk.toInt ∧ ytk.toInt ≤ 6 by omega)) (cwV 1 hts gX4_giveTrial_X4_isTicket rfl rfl rfl (by decide +kernel) ⟨by rw [hR]; decide, by rw [hR]; decide⟩) hK hP hD hS hA [0] [1] rfl rfl (by decide) (by decide) (by decide) rfl 0 rfl hl.1 rfl rfl (Nat.le_of_ble_eq_true rfl) dX4_giveTrial_2 ⟨by rw [hR]; decide, by rw [hR]; decide⟩ (fun r_1 u_2 H locs hw hP hD hS => ?_)
  have hP : va_P D vwCl [(h0, .inr (4, [.int ype, .int ytk, .ref ywi, .ref yki, .ref yse, .ref yno, .ref yrh, .ref yrw, .ref yrk, .ref yrt, .int yrp, .int yrq, .ref ytx, .int yle, .int yat, .int yfa, .ref yby, .ref ylo, .ref yhi, .int yac, .int ynx, .ref yro, .ref ygl, .int ysn, .ref yso, .ref ysp, .ref ysw, .long ysd, .ref yik, .ref ykp])), (yno, .inl (cI, 96, .inl Fno))] H := hP.sub [1, 0] rfl
  have hD : va_D A [(h0, .inr (4, [.int ype, .int ytk, .ref ywi, .ref yki, .ref yse, .ref yno, .ref yrh, .ref yrw, .ref yrk, .ref yrt, .int yrp, .int yrq, .ref ytx, .int yle, .int yat, .int yfa, .ref yby, .ref ylo, .ref yhi, .int yac, .int ynx, .ref yro, .ref ygl, .int ysn, .ref yso, .ref ysp, .ref ysw, .long ysd, .ref yik, .ref ykp])), (yno, .inl (cI, 96, .inl Fno))] := hD.sub [1, 0] (by decide) rfl
  refine W.widen (k := 0) (n := 0) (Nat.le_refl _) (Nat.le_refl _) ?_
  have hw : (r_1.toInt = 1 ∧ 0 ≤ n.toInt ∧ n.toInt < ytk.toInt) ∨ (r_1.toInt = 0 ∧ (n.toInt < 0 ∨ ytk.toInt ≤ n.toInt)) := hw
  have hw_3 := hw
  refine lv_if_eq (tgt := 46) hx hb dX4_giveTrial_5 (by decide) (fun c_4 => ?_) (fun c_4 => ?_)
  · have tc_4 := b_eq rfl (show (0 : Int32).toInt = 0 by decide) c_4
    refine lv_iconst (v := 0) hx hb dX4_giveTrial_46 (by decide) ?_
    refine lv_istore_n (lv' := [(3, .int 0), (0, .ref h0), (1, .int n), (2, .int k)]) hx hb dX4_giveTrial_47 rfl hl (by decide) rfl (fun ls hl => ?_)
    refine lv_iload_n hx hb dX4_giveTrial_48 rfl (lv_at hl 0 rfl) ?_
    refine lv_if_eq (tgt := 67) hx hb dX4_giveTrial_49 (by decide) (fun c_5 => ?_) (fun c_5 => ?_)
    · have tc_5 := b_eq (show (0 : Int32).toInt = 0 by decide) (show (0 : Int32).toInt = 0 by decide) c_5
      refine lv_iload_n hx hb dX4_giveTrial_67 rfl (lv_at hl 0 rfl) ?_
      exact ret_i (post := (fun (r : Int32) (u : (Nat → Int32)) => (r.toInt = 0 ∨ r.toInt = 1))) (W1 := (fun u => [(h0, .inr (4, [.int ype, .int ytk, .ref ywi, .ref yki, .ref yse, .ref yno, .ref yrh, .ref yrw, .ref yrk, .ref yrt, .int yrp, .int yrq, .ref ytx, .int yle, .int yat, .int yfa, .ref yby, .ref ylo, .ref yhi, .int yac, .int ynx, .ref yro, .ref ygl, .int ysn, .ref yso, .ref ysp, .ref ysw, .long ysd, .ref yik, .ref ykp])), (yno, .inl (cI, 96, .inl u))])) Fno hx hb hr hlocks rfl hQ hK hP hD hS ⟨by decide, by decide⟩ dX4_giveTrial_68 (show ((0 : Int) = 0 ∨ (0 : Int) = 1) by omega)
    · have tc_5 := b_ne (show (0 : Int32).toInt = 0 by decide) (show (0 : Int32).toInt = 0 by decide) c_5
      exfalso; omega
  · have tc_4 := b_ne rfl (show (0 : Int32).toInt = 0 by decide) c_4
    refine lv_aload_n hx hb dX4_giveTrial_8 rfl (lv_at hl 0 rfl) ?_
    refine lv_iload_n hx hb dX4_giveTrial_9 rfl (lv_at hl 2 rfl) ?_
    refine cV_i (As := [.int k]) (rest := []) ⟨hx, hb, hml, hown, hts⟩ (c_X4_isPerson l D cI cZ cM h0 k ype ytk ywi yki yse yno yrh yrw yrk yrt yrp yrq ytx yle yat yfa yby ylo yhi yac ynx yro ygl ysn yso ysp ysw ysd yik ykp _ (show 0 ≤ ype.toInt ∧ ype.toInt ≤ 6 by omega)) (cwV 1 hts gX4_giveTrial_X4_isPerson rfl rfl rfl (by decide +kernel) ⟨by rw [hR]; decide, by rw [hR]; decide⟩) hK hP hD hS hA [0] [1] rfl rfl (by decide) (by decide) (by decide) rfl 0 rfl hl.1 rfl rfl (Nat.le_of_ble_eq_true rfl) dX4_giveTrial_10 ⟨by rw [hR]; decide, by rw [hR]; decide⟩ (fun r_6 u_7 H locs hw hP hD hS => ?_)
    have hP : va_P D vwCl [(h0, .inr (4, [.int ype, .int ytk, .ref ywi, .ref yki, .ref yse, .ref yno, .ref yrh, .ref yrw, .ref yrk, .ref yrt, .int yrp, .int yrq, .ref ytx, .int yle, .int yat, .int yfa, .ref yby, .ref ylo, .ref yhi, .int yac, .int ynx, .ref yro, .ref ygl, .int ysn, .ref yso, .ref ysp, .ref ysw, .long ysd, .ref yik, .ref ykp])), (yno, .inl (cI, 96, .inl Fno))] H := hP.sub [1, 0] rfl
    have hD : va_D A [(h0, .inr (4, [.int ype, .int ytk, .ref ywi, .ref yki, .ref yse, .ref yno, .ref yrh, .ref yrw, .ref yrk, .ref yrt, .int yrp, .int yrq, .ref ytx, .int yle, .int yat, .int yfa, .ref yby, .ref ylo, .ref yhi, .int yac, .int ynx, .ref yro, .ref ygl, .int ysn, .ref yso, .ref ysp, .ref ysw, .long ysd, .ref yik, .ref ykp])), (yno, .inl (cI, 96, .inl Fno))] := hD.sub [1, 0] (by decide) rfl
    refine W.widen (k := 0) (n := 0) (Nat.le_refl _) (Nat.le_refl _) ?_
    have hw : (r_6.toInt = 1 ∧ 0 ≤ k.toInt ∧ k.toInt < ype.toInt) ∨ (r_6.toInt = 0 ∧ (k.toInt < 0 ∨ ype.toInt ≤ k.toInt)) := hw
    have hw_8 := hw
    refine lv_if_eq (tgt := 46) hx hb dX4_giveTrial_13 (by decide) (fun c_9 => ?_) (fun c_9 => ?_)
    · have tc_9 := b_eq rfl (show (0 : Int32).toInt = 0 by decide) c_9
      refine lv_iconst (v := 0) hx hb dX4_giveTrial_46 (by decide) ?_
      refine lv_istore_n (lv' := [(3, .int 0), (0, .ref h0), (1, .int n), (2, .int k)]) hx hb dX4_giveTrial_47 rfl hl (by decide) rfl (fun ls hl => ?_)
      refine lv_iload_n hx hb dX4_giveTrial_48 rfl (lv_at hl 0 rfl) ?_
      refine lv_if_eq (tgt := 67) hx hb dX4_giveTrial_49 (by decide) (fun c_10 => ?_) (fun c_10 => ?_)
      · have tc_10 := b_eq (show (0 : Int32).toInt = 0 by decide) (show (0 : Int32).toInt = 0 by decide) c_10
        refine lv_iload_n hx hb dX4_giveTrial_67 rfl (lv_at hl 0 rfl) ?_
        exact ret_i (post := (fun (r : Int32) (u : (Nat → Int32)) => (r.toInt = 0 ∨ r.toInt = 1))) (W1 := (fun u => [(h0, .inr (4, [.int ype, .int ytk, .ref ywi, .ref yki, .ref yse, .ref yno, .ref yrh, .ref yrw, .ref yrk, .ref yrt, .int yrp, .int yrq, .ref ytx, .int yle, .int yat, .int yfa, .ref yby, .ref ylo, .ref yhi, .int yac, .int ynx, .ref yro, .ref ygl, .int ysn, .ref yso, .ref ysp, .ref ysw, .long ysd, .ref yik, .ref ykp])), (yno, .inl (cI, 96, .inl u))])) Fno hx hb hr hlocks rfl hQ hK hP hD hS ⟨by decide, by decide⟩ dX4_giveTrial_68 (show ((0 : Int) = 0 ∨ (0 : Int) = 1) by omega)
      · have tc_10 := b_ne (show (0 : Int32).toInt = 0 by decide) (show (0 : Int32).toInt = 0 by decide) c_10
        exfalso; omega
    · have tc_9 := b_ne rfl (show (0 : Int32).toInt = 0 by decide) c_9
      have hn1 : 0 ≤ n.toInt := by omega
      have hn2 : n.toInt ≤ 5 := by omega
      have hk1 : 0 ≤ k.toInt := by omega
      have hk2 : k.toInt ≤ 4 := by omega
      refine lv_aload_n hx hb dX4_giveTrial_16 rfl (lv_at hl 0 rfl) ?_
      refine lv_iload_n hx hb dX4_giveTrial_17 rfl (lv_at hl 1 rfl) ?_
      refine cV_i (As := [.int n]) (rest := []) ⟨hx, hb, hml, hown, hts⟩ (c_X4_isGone l D cI cZ cM h0 n ype ytk ywi yki yse yno yrh yrw yrk yrt yrp yrq ytx yle yat yfa yby ylo yhi yac ynx yro ygl ysn yso ysp ysw ysd yik ykp Fno _ (show 0 ≤ n.toInt ∧ n.toInt ≤ 6 by omega)) (cwV 1 hts gX4_giveTrial_X4_isGone rfl rfl rfl (by decide +kernel) ⟨by rw [hR]; decide, by rw [hR]; decide⟩) hK hP hD hS hA [0, 1] [] rfl rfl (by decide) (by decide) (by decide) rfl 0 rfl hl.1 rfl rfl (Nat.le_of_ble_eq_true rfl) dX4_giveTrial_18 ⟨by rw [hR]; decide, by rw [hR]; decide⟩ (fun r_11 u_12 H locs hw hP hD hS => ?_)
      have hP : va_P D vwCl [(h0, .inr (4, [.int ype, .int ytk, .ref ywi, .ref yki, .ref yse, .ref yno, .ref yrh, .ref yrw, .ref yrk, .ref yrt, .int yrp, .int yrq, .ref ytx, .int yle, .int yat, .int yfa, .ref yby, .ref ylo, .ref yhi, .int yac, .int ynx, .ref yro, .ref ygl, .int ysn, .ref yso, .ref ysp, .ref ysw, .long ysd, .ref yik, .ref ykp])), (yno, .inl (cI, 96, .inl Fno))] H := hP.sub [0, 1] rfl
      have hD : va_D A [(h0, .inr (4, [.int ype, .int ytk, .ref ywi, .ref yki, .ref yse, .ref yno, .ref yrh, .ref yrw, .ref yrk, .ref yrt, .int yrp, .int yrq, .ref ytx, .int yle, .int yat, .int yfa, .ref yby, .ref ylo, .ref yhi, .int yac, .int ynx, .ref yro, .ref ygl, .int ysn, .ref yso, .ref ysp, .ref ysw, .long ysd, .ref yik, .ref ykp])), (yno, .inl (cI, 96, .inl Fno))] := hD.sub [0, 1] (by decide) rfl
      refine W.widen (k := 0) (n := 0) (Nat.le_refl _) (Nat.le_refl _) ?_
      have hw : (r_11.toInt = 0 ∨ r_11.toInt = 1) := hw
      have hw_13 := hw
      refine lv_if_ne (tgt := 46) hx hb dX4_giveTrial_21 (by decide) (fun c_14 => ?_) (fun c_14 => ?_)
      · have tc_14 := b_ne rfl (show (0 : Int32).toInt = 0 by decide) c_14
        refine lv_iconst (v := 0) hx hb dX4_giveTrial_46 (by decide) ?_
        refine lv_istore_n (lv' := [(3, .int 0), (0, .ref h0), (1, .int n), (2, .int k)]) hx hb dX4_giveTrial_47 rfl hl (by decide) rfl (fun ls hl => ?_)
        refine lv_iload_n hx hb dX4_giveTrial_48 rfl (lv_at hl 0 rfl) ?_
        refine lv_if_eq (tgt := 67) hx hb dX4_giveTrial_49 (by decide) (fun c_15 => ?_) (fun c_15 => ?_)
        · have tc_15 := b_eq (show (0 : Int32).toInt = 0 by decide) (show (0 : Int32).toInt = 0 by decide) c_15
          refine lv_iload_n hx hb dX4_giveTrial_67 rfl (lv_at hl 0 rfl) ?_
          exact ret_i (post := (fun (r : Int32) (u : (Nat → Int32)) => (r.toInt = 0 ∨ r.toInt = 1))) (W1 := (fun u => [(h0, .inr (4, [.int ype, .int ytk, .ref ywi, .ref yki, .ref yse, .ref yno, .ref yrh, .ref yrw, .ref yrk, .ref yrt, .int yrp, .int yrq, .ref ytx, .int yle, .int yat, .int yfa, .ref yby, .ref ylo, .ref yhi, .int yac, .int ynx, .ref yro, .ref ygl, .int ysn, .ref yso, .ref ysp, .ref ysw, .long ysd, .ref yik, .ref ykp])), (yno, .inl (cI, 96, .inl u))])) Fno hx hb hr hlocks rfl hQ hK hP hD hS ⟨by decide, by decide⟩ dX4_giveTrial_68 (show ((0 : Int) = 0 ∨ (0 : Int) = 1) by omega)
        · have tc_15 := b_ne (show (0 : Int32).toInt = 0 by decide) (show (0 : Int32).toInt = 0 by decide) c_15
          exfalso; omega
      · have tc_14 := b_eq rfl (show (0 : Int32).toInt = 0 by decide) c_14
        refine lv_aload_n hx hb dX4_giveTrial_24 rfl (lv_at hl 0 rfl) ?_
        refine va_get (D := D) (ci := 4) (v := .ref yno) (C := RX4) (T := TX4) (N := 30) hx hb hts iX4 hown hK hP 0 rfl rfl 5 (by decide) (hts (.fieldLink RX4 19 "PunchedTicketModel" "now" "[I") (List.mem_of_getElem? (i := 1) rfl)) (fun _ h9 => h9) rfl dX4_giveTrial_25 ?_
        refine lv_bipush (v := 54) hx hb dX4_giveTrial_28 (by decide) ?_
        refine lv_bipush (v := 6) hx hb dX4_giveTrial_30 (by decide) ?_
        refine lv_iload_n hx hb dX4_giveTrial_32 rfl (lv_at hl 1 rfl) ?_
        refine lv_imul hx hb dX4_giveTrial_33 ?_
        refine lv_topi (fun v_16 ev_16 => ?_)
        have tv_16 : v_16.toInt = (6 : Int) * n.toInt := by rw [ev_16]; exact ti_mul (x := 6) (y := n) (show -2147483648 ≤ (6 : Int) * n.toInt by omega) (show (6 : Int) * n.toInt < 2147483648 by omega)
        refine lv_iadd hx hb dX4_giveTrial_34 ?_
        refine lv_topi (fun v_17 ev_17 => ?_)
        have tv_17 : v_17.toInt = (54 : Int) + v_16.toInt := by rw [ev_17]; exact ti_add (x := 54) (y := v_16) (show -2147483648 ≤ (54 : Int) + v_16.toInt by omega) (show (54 : Int) + v_16.toInt < 2147483648 by omega)
        refine lv_iconst (v := 3) hx hb dX4_giveTrial_35 (by decide) ?_
        refine lv_iadd hx hb dX4_giveTrial_36 ?_
        refine lv_topi (fun v_18 ev_18 => ?_)
        have tv_18 : v_18.toInt = v_17.toInt + (3 : Int) := by rw [ev_18]; exact ti_add (x := v_17) (y := 3) (show -2147483648 ≤ v_17.toInt + (3 : Int) by omega) (show v_17.toInt + (3 : Int) < 2147483648 by omega)
        refine va_iald hx hb hK hP 1 0 rfl rfl (vp_in_iff.mpr ⟨by omega, by omega⟩) dX4_giveTrial_37 ?_
        refine lv_topi (fun v_19 ev_19 => ?_)
        refine lv_iload_n hx hb dX4_giveTrial_38 rfl (lv_at hl 2 rfl) ?_
        refine lv_icmp_eq (tgt := 46) hx hb dX4_giveTrial_39 (by decide) (fun c_20 => ?_) (fun c_20 => ?_)
        · have tc_20 := b_eq rfl rfl c_20
          refine lv_iconst (v := 0) hx hb dX4_giveTrial_46 (by decide) ?_
          refine lv_istore_n (lv' := [(3, .int 0), (0, .ref h0), (1, .int n), (2, .int k)]) hx hb dX4_giveTrial_47 rfl hl (by decide) rfl (fun ls hl => ?_)
          refine lv_iload_n hx hb dX4_giveTrial_48 rfl (lv_at hl 0 rfl) ?_
          refine lv_if_eq (tgt := 67) hx hb dX4_giveTrial_49 (by decide) (fun c_21 => ?_) (fun c_21 => ?_)
          · have tc_21 := b_eq (show (0 : Int32).toInt = 0 by decide) (show (0 : Int32).toInt = 0 by decide) c_21
            refine lv_iload_n hx hb dX4_giveTrial_67 rfl (lv_at hl 0 rfl) ?_
            exact ret_i (post := (fun (r : Int32) (u : (Nat → Int32)) => (r.toInt = 0 ∨ r.toInt = 1))) (W1 := (fun u => [(h0, .inr (4, [.int ype, .int ytk, .ref ywi, .ref yki, .ref yse, .ref yno, .ref yrh, .ref yrw, .ref yrk, .ref yrt, .int yrp, .int yrq, .ref ytx, .int yle, .int yat, .int yfa, .ref yby, .ref ylo, .ref yhi, .int yac, .int ynx, .ref yro, .ref ygl, .int ysn, .ref yso, .ref ysp, .ref ysw, .long ysd, .ref yik, .ref ykp])), (yno, .inl (cI, 96, .inl u))])) Fno hx hb hr hlocks rfl hQ hK hP hD hS ⟨by decide, by decide⟩ dX4_giveTrial_68 (show ((0 : Int) = 0 ∨ (0 : Int) = 1) by omega)
          · have tc_21 := b_ne (show (0 : Int32).toInt = 0 by decide) (show (0 : Int32).toInt = 0 by decide) c_21
            exfalso; omega
        · have tc_20 := b_ne rfl rfl c_20
          refine lv_iconst (v := 1) hx hb dX4_giveTrial_42 (by decide) ?_
          refine lv_goto (tgt := 47) hx hb dX4_giveTrial_43 (by decide) ?_
          refine lv_istore_n (lv' := [(3, .int 1), (0, .ref h0), (1, .int n), (2, .int k)]) hx hb dX4_giveTrial_47 rfl hl (by decide) rfl (fun ls hl => ?_)
          refine lv_iload_n hx hb dX4_giveTrial_48 rfl (lv_at hl 0 rfl) ?_
          refine lv_if_eq (tgt := 67) hx hb dX4_giveTrial_49 (by decide) (fun c_22 => ?_) (fun c_22 => ?_)
          · have tc_22 := b_eq (show (1 : Int32).toInt = 1 by decide) (show (0 : Int32).toInt = 0 by decide) c_22
            exfalso; omega
          · have tc_22 := b_ne (show (1 : Int32).toInt = 1 by decide) (show (0 : Int32).toInt = 0 by decide) c_22
            refine lv_aload_n hx hb dX4_giveTrial_52 rfl (lv_at hl 1 rfl) ?_
            refine va_get (D := D) (ci := 4) (v := .ref yno) (C := RX4) (T := TX4) (N := 30) hx hb hts iX4 hown hK hP 0 rfl rfl 5 (by decide) (hts (.fieldLink RX4 19 "PunchedTicketModel" "now" "[I") (List.mem_of_getElem? (i := 1) rfl)) (fun _ h9 => h9) rfl dX4_giveTrial_53 ?_
            refine lv_bipush (v := 54) hx hb dX4_giveTrial_56 (by decide) ?_
            refine lv_bipush (v := 6) hx hb dX4_giveTrial_58 (by decide) ?_
            refine lv_iload_n hx hb dX4_giveTrial_60 rfl (lv_at hl 2 rfl) ?_
            refine lv_imul hx hb dX4_giveTrial_61 ?_
            refine lv_topi (fun v_23 ev_23 => ?_)
            have tv_23 : v_23.toInt = (6 : Int) * n.toInt := by rw [ev_23]; exact ti_mul (x := 6) (y := n) (show -2147483648 ≤ (6 : Int) * n.toInt by omega) (show (6 : Int) * n.toInt < 2147483648 by omega)
            refine lv_iadd hx hb dX4_giveTrial_62 ?_
            refine lv_topi (fun v_24 ev_24 => ?_)
            have tv_24 : v_24.toInt = (54 : Int) + v_23.toInt := by rw [ev_24]; exact ti_add (x := 54) (y := v_23) (show -2147483648 ≤ (54 : Int) + v_23.toInt by omega) (show (54 : Int) + v_23.toInt < 2147483648 by omega)
            refine lv_iconst (v := 3) hx hb dX4_giveTrial_63 (by decide) ?_
            refine lv_iadd hx hb dX4_giveTrial_64 ?_
            refine lv_topi (fun v_25 ev_25 => ?_)
            have tv_25 : v_25.toInt = v_24.toInt + (3 : Int) := by rw [ev_25]; exact ti_add (x := v_24) (y := 3) (show -2147483648 ≤ v_24.toInt + (3 : Int) by omega) (show v_24.toInt + (3 : Int) < 2147483648 by omega)
            refine lv_iload_n hx hb dX4_giveTrial_65 rfl (lv_at hl 3 rfl) ?_
            refine va_iast hx hb hK hP hD hS 1 0 rfl rfl (vp_in_iff.mpr ⟨by omega, by omega⟩) dX4_giveTrial_66 (fun H locs hP hD hS => ?_)
            obtain ⟨f_26, ef_26⟩ : ∃ g : Nat → Int32, upd Fno (v_25 : Int32).toNatClampNeg k = g := ⟨_, rfl⟩
            rw [ef_26] at hP hD
            have hP : va_P D vwCl [(h0, .inr (4, [.int ype, .int ytk, .ref ywi, .ref yki, .ref yse, .ref yno, .ref yrh, .ref yrw, .ref yrk, .ref yrt, .int yrp, .int yrq, .ref ytx, .int yle, .int yat, .int yfa, .ref yby, .ref ylo, .ref yhi, .int yac, .int ynx, .ref yro, .ref ygl, .int ysn, .ref yso, .ref ysp, .ref ysw, .long ysd, .ref yik, .ref ykp])), (yno, .inl (cI, 96, .inl f_26))] H := hP
            have hD : va_D A [(h0, .inr (4, [.int ype, .int ytk, .ref ywi, .ref yki, .ref yse, .ref yno, .ref yrh, .ref yrw, .ref yrk, .ref yrt, .int yrp, .int yrq, .ref ytx, .int yle, .int yat, .int yfa, .ref yby, .ref ylo, .ref yhi, .int yac, .int ynx, .ref yro, .ref ygl, .int ysn, .ref yso, .ref ysp, .ref ysw, .long ysd, .ref yik, .ref ykp])), (yno, .inl (cI, 96, .inl f_26))] := hD
            refine lv_iload_n hx hb dX4_giveTrial_67 rfl (lv_at hl 0 rfl) ?_
            exact ret_i (post := (fun (r : Int32) (u : (Nat → Int32)) => (r.toInt = 0 ∨ r.toInt = 1))) (W1 := (fun u => [(h0, .inr (4, [.int ype, .int ytk, .ref ywi, .ref yki, .ref yse, .ref yno, .ref yrh, .ref yrw, .ref yrk, .ref yrt, .int yrp, .int yrq, .ref ytx, .int yle, .int yat, .int yfa, .ref yby, .ref ylo, .ref yhi, .int yac, .int ynx, .ref yro, .ref ygl, .int ysn, .ref yso, .ref ysp, .ref ysw, .long ysd, .ref yik, .ref ykp])), (yno, .inl (cI, 96, .inl u))])) f_26 hx hb hr hlocks rfl hQ hK hP hD hS ⟨by decide, by decide⟩ dX4_giveTrial_68 (show ((1 : Int) = 0 ∨ (1 : Int) = 1) by omega)

set_option maxHeartbeats 600000 in
set_option maxRecDepth 100000 in
theorem c_X4_fewest (l : Launch) (D : va_G) (cI cZ cM : ClassId) (h0 : Nat) (n : Int32) (k : Int32) (z : Int32) (ype : Int32) (ytk : Int32) (ywi : Nat) (yki : Nat) (yse : Nat) (yno : Nat) (yrh : Nat) (yrw : Nat) (yrk : Nat) (yrt : Nat) (yrp : Int32) (yrq : Int32) (ytx : Nat) (yle : Int32) (yat : Int32) (yfa : Int32) (yby : Nat) (ylo : Nat) (yhi : Nat) (yac : Int32) (ynx : Int32) (yro : Nat) (ygl : Nat) (ysn : Int32) (yso : Nat) (ysp : Nat) (ysw : Nat) (ysd : Int64) (yik : Nat) (ykp : Nat) (Fno : Nat → Int32) (Fki : Nat → Int32) (Fby : Nat → Int32) (Flo : Nat → Int32) (Fhi : Nat → Int32) (sz : Nat) (hBy : ByOk Fby) (h_ype : 0 ≤ ype.toInt ∧ ype.toInt ≤ 5) (h_ytk : 0 ≤ ytk.toInt ∧ ytk.toInt ≤ 6) : Ci l yX4_fewest wsX4_fewest ({ frames := 3, cells := 0, slots := 0, locals := 78 } : Room) D cI cZ cM [.ref h0, .int n, .int k, .int z] [(h0, .inr (4, [.int ype, .int ytk, .ref ywi, .ref yki, .ref yse, .ref yno, .ref yrh, .ref yrw, .ref yrk, .ref yrt, .int yrp, .int yrq, .ref ytx, .int yle, .int yat, .int yfa, .ref yby, .ref ylo, .ref yhi, .int yac, .int ynx, .ref yro, .ref ygl, .int ysn, .ref yso, .ref ysp, .ref ysw, .long ysd, .ref yik, .ref ykp])), (yno, .inl (cI, 96, .inl Fno)), (yki, .inl (cI, 5, .inl Fki)), (yby, .inl (cI, 5, .inl Fby)), (ylo, .inl (cI, 5, .inl Flo)), (yhi, .inl (cI, 5, .inl Fhi))] sz (fun (r : Int32) (u : (Nat → Int32) × (Nat → Int32) × (Nat → Int32) × (Nat → Int32)) => ByOk u.2.1) (fun u => [(h0, .inr (4, [.int ype, .int ytk, .ref ywi, .ref yki, .ref yse, .ref yno, .ref yrh, .ref yrw, .ref yrk, .ref yrt, .int yrp, .int yrq, .ref ytx, .int yle, .int yat, .int yfa, .ref yby, .ref ylo, .ref yhi, .int yac, .int ynx, .ref yro, .ref ygl, .int ysn, .ref yso, .ref ysp, .ref ysw, .long ysd, .ref yik, .ref ykp])), (yno, .inl (cI, 96, .inl u.1)), (yki, .inl (cI, 5, .inl Fki)), (yby, .inl (cI, 5, .inl u.2.1)), (ylo, .inl (cI, 5, .inl u.2.2.1)), (yhi, .inl (cI, 5, .inl u.2.2.2))]) 0 0 := by
  refine begins (l := l) (y := yX4_fewest) (ws := wsX4_fewest) (av := [.ref h0, .int n, .int k, .int z]) (Qc := fun A => va_Qi (fun (r : Int32) (u : (Nat → Int32) × (Nat → Int32) × (Nat → Int32) × (Nat → Int32)) => ByOk u.2.1) (fun u => Wd D cI cZ cM A ((fun u => [(h0, .inr (4, [.int ype, .int ytk, .ref ywi, .ref yki, .ref yse, .ref yno, .ref yrh, .ref yrw, .ref yrk, .ref yrt, .int yrp, .int yrq, .ref ytx, .int yle, .int yat, .int yfa, .ref yby, .ref ylo, .ref yhi, .int yac, .int ynx, .ref yro, .ref ygl, .int ysn, .ref yso, .ref ysp, .ref ysw, .long ysd, .ref yik, .ref ykp])), (yno, .inl (cI, 96, .inl u.1)), (yki, .inl (cI, 5, .inl Fki)), (yby, .inl (cI, 5, .inl u.2.1)), (ylo, .inl (cI, 5, .inl u.2.2.1)), (yhi, .inl (cI, 5, .inl u.2.2.2))]) u)) A) cX4_fewest 5 (some .int) (by decide) rfl (Nat.le_of_ble_eq_true rfl) ?_
  intro p e s m args below meth c R Q A ls hBd hR hQ hA hS hK hP hD hl
  obtain ⟨hx, hb, hr, hts, hown, hlocks, hin, hml⟩ := hBd
  have hl : lv_has ls 5 [(0, .ref h0), (1, .int n), (2, .int k), (3, .int z)] := hl
  have iX4 : ∀ w ∈ wsX40, w ∈ wsX4_fewest := fun _ h => List.mem_cons_of_mem _ (List.mem_append_right _ h)
  obtain ⟨h_ypea, h_ypeb⟩ := h_ype
  obtain ⟨h_ytka, h_ytkb⟩ := h_ytk
  refine lv_aload_n hx hb dX4_fewest_0 rfl (lv_at hl 0 rfl) ?_
  refine lv_iload_n hx hb dX4_fewest_1 rfl (lv_at hl 1 rfl) ?_
  refine cV_i (As := [.int n]) (rest := []) ⟨hx, hb, hml, hown, hts⟩ (c_X4_isPerson l D cI cZ cM h0 n ype ytk ywi yki yse yno yrh yrw yrk yrt yrp yrq ytx yle yat yfa yby ylo yhi yac ynx yro ygl ysn yso ysp ysw ysd yik ykp _ (show 0 ≤ ype.toInt ∧ ype.toInt ≤ 6 by omega)) (cwV 1 hts gX4_fewest_X4_isPerson rfl rfl rfl (by decide +kernel) ⟨by rw [hR]; decide, by rw [hR]; decide⟩) hK hP hD hS hA [0] [1, 2, 3, 4, 5] rfl rfl (by decide) (by decide) (by decide) rfl 0 rfl hl.1 rfl rfl (Nat.le_of_ble_eq_true rfl) dX4_fewest_2 ⟨by rw [hR]; decide, by rw [hR]; decide⟩ (fun r_1 u_2 H locs hw hP hD hS => ?_)
  have hP : va_P D vwCl [(h0, .inr (4, [.int ype, .int ytk, .ref ywi, .ref yki, .ref yse, .ref yno, .ref yrh, .ref yrw, .ref yrk, .ref yrt, .int yrp, .int yrq, .ref ytx, .int yle, .int yat, .int yfa, .ref yby, .ref ylo, .ref yhi, .int yac, .int ynx, .ref yro, .ref ygl, .int ysn, .ref yso, .ref ysp, .ref ysw, .long ysd, .ref yik, .ref ykp])), (yno, .inl (cI, 96, .inl Fno)), (yki, .inl (cI, 5, .inl Fki)), (yby, .inl (cI, 5, .inl Fby)), (ylo, .inl (cI, 5, .inl Flo)), (yhi, .inl (cI, 5, .inl Fhi))] H := hP.sub [5, 0, 1, 2, 3, 4] rfl
  have hD : va_D A [(h0, .inr (4, [.int ype, .int ytk, .ref ywi, .ref yki, .ref yse, .ref yno, .ref yrh, .ref yrw, .ref yrk, .ref yrt, .int yrp, .int yrq, .ref ytx, .int yle, .int yat, .int yfa, .ref yby, .ref ylo, .ref yhi, .int yac, .int ynx, .ref yro, .ref ygl, .int ysn, .ref yso, .ref ysp, .ref ysw, .long ysd, .ref yik, .ref ykp])), (yno, .inl (cI, 96, .inl Fno)), (yki, .inl (cI, 5, .inl Fki)), (yby, .inl (cI, 5, .inl Fby)), (ylo, .inl (cI, 5, .inl Flo)), (yhi, .inl (cI, 5, .inl Fhi))] := hD.sub [5, 0, 1, 2, 3, 4] (by decide) rfl
  refine W.widen (k := 0) (n := 0) (Nat.le_refl _) (Nat.le_refl _) ?_
  have hw : (r_1.toInt = 1 ∧ 0 ≤ n.toInt ∧ n.toInt < ype.toInt) ∨ (r_1.toInt = 0 ∧ (n.toInt < 0 ∨ ype.toInt ≤ n.toInt)) := hw
  have hw_3 := hw
  refine lv_if_eq (tgt := 16) hx hb dX4_fewest_5 (by decide) (fun c_4 => ?_) (fun c_4 => ?_)
  · have tc_4 := b_eq rfl (show (0 : Int32).toInt = 0 by decide) c_4
    refine lv_iconst (v := (-1)) hx hb dX4_fewest_16 (by decide) ?_
    exact ret_i (post := (fun (r : Int32) (u : (Nat → Int32) × (Nat → Int32) × (Nat → Int32) × (Nat → Int32)) => ByOk u.2.1)) (W1 := (fun u => [(h0, .inr (4, [.int ype, .int ytk, .ref ywi, .ref yki, .ref yse, .ref yno, .ref yrh, .ref yrw, .ref yrk, .ref yrt, .int yrp, .int yrq, .ref ytx, .int yle, .int yat, .int yfa, .ref yby, .ref ylo, .ref yhi, .int yac, .int ynx, .ref yro, .ref ygl, .int ysn, .ref yso, .ref ysp, .ref ysw, .long ysd, .ref yik, .ref ykp])), (yno, .inl (cI, 96, .inl u.1)), (yki, .inl (cI, 5, .inl Fki)), (yby, .inl (cI, 5, .inl u.2.1)), (ylo, .inl (cI, 5, .inl u.2.2.1)), (yhi, .inl (cI, 5, .inl u.2.2.2))])) (Fno, Fby, Flo, Fhi) hx hb hr hlocks rfl hQ hK hP hD hS ⟨by decide, by decide⟩ dX4_fewest_17 hBy
  · have tc_4 := b_ne rfl (show (0 : Int32).toInt = 0 by decide) c_4
    refine lv_aload_n hx hb dX4_fewest_8 rfl (lv_at hl 0 rfl) ?_
    refine lv_iload_n hx hb dX4_fewest_9 rfl (lv_at hl 2 rfl) ?_
    refine cV_i (As := [.int k]) (rest := []) ⟨hx, hb, hml, hown, hts⟩ (c_X4_isPerson l D cI cZ cM h0 k ype ytk ywi yki yse yno yrh yrw yrk yrt yrp yrq ytx yle yat yfa yby ylo yhi yac ynx yro ygl ysn yso ysp ysw ysd yik ykp _ (show 0 ≤ ype.toInt ∧ ype.toInt ≤ 6 by omega)) (cwV 1 hts gX4_fewest_X4_isPerson rfl rfl rfl (by decide +kernel) ⟨by rw [hR]; decide, by rw [hR]; decide⟩) hK hP hD hS hA [0] [1, 2, 3, 4, 5] rfl rfl (by decide) (by decide) (by decide) rfl 0 rfl hl.1 rfl rfl (Nat.le_of_ble_eq_true rfl) dX4_fewest_10 ⟨by rw [hR]; decide, by rw [hR]; decide⟩ (fun r_5 u_6 H locs hw hP hD hS => ?_)
    have hP : va_P D vwCl [(h0, .inr (4, [.int ype, .int ytk, .ref ywi, .ref yki, .ref yse, .ref yno, .ref yrh, .ref yrw, .ref yrk, .ref yrt, .int yrp, .int yrq, .ref ytx, .int yle, .int yat, .int yfa, .ref yby, .ref ylo, .ref yhi, .int yac, .int ynx, .ref yro, .ref ygl, .int ysn, .ref yso, .ref ysp, .ref ysw, .long ysd, .ref yik, .ref ykp])), (yno, .inl (cI, 96, .inl Fno)), (yki, .inl (cI, 5, .inl Fki)), (yby, .inl (cI, 5, .inl Fby)), (ylo, .inl (cI, 5, .inl Flo)), (yhi, .inl (cI, 5, .inl Fhi))] H := hP.sub [5, 0, 1, 2, 3, 4] rfl
    have hD : va_D A [(h0, .inr (4, [.int ype, .int ytk, .ref ywi, .ref yki, .ref yse, .ref yno, .ref yrh, .ref yrw, .ref yrk, .ref yrt, .int yrp, .int yrq, .ref ytx, .int yle, .int yat, .int yfa, .ref yby, .ref ylo, .ref yhi, .int yac, .int ynx, .ref yro, .ref ygl, .int ysn, .ref yso, .ref ysp, .ref ysw, .long ysd, .ref yik, .ref ykp])), (yno, .inl (cI, 96, .inl Fno)), (yki, .inl (cI, 5, .inl Fki)), (yby, .inl (cI, 5, .inl Fby)), (ylo, .inl (cI, 5, .inl Flo)), (yhi, .inl (cI, 5, .inl Fhi))] := hD.sub [5, 0, 1, 2, 3, 4] (by decide) rfl
    refine W.widen (k := 0) (n := 0) (Nat.le_refl _) (Nat.le_refl _) ?_
    have hw : (r_5.toInt = 1 ∧ 0 ≤ k.toInt ∧ k.toInt < ype.toInt) ∨ (r_5.toInt = 0 ∧ (k.toInt < 0 ∨ ype.toInt ≤ k.toInt)) := hw
    have hw_7 := hw
    refine lv_if_ne (tgt := 18) hx hb dX4_fewest_13 (by decide) (fun c_8 => ?_) (fun c_8 => ?_)
    · have tc_8 := b_ne rfl (show (0 : Int32).toInt = 0 by decide) c_8
      refine lv_iload_n hx hb dX4_fewest_18 rfl (lv_at hl 1 rfl) ?_
      refine lv_iload_n hx hb dX4_fewest_19 rfl (lv_at hl 2 rfl) ?_
      refine lv_icmp_ne (tgt := 26) hx hb dX4_fewest_20 (by decide) (fun c_9 => ?_) (fun c_9 => ?_)
      · have tc_9 := b_ne rfl rfl c_9
        have hn1 : 0 ≤ n.toInt := by omega
        have hn2 : n.toInt ≤ 4 := by omega
        have hk1 : 0 ≤ k.toInt := by omega
        have hk2 : k.toInt ≤ 4 := by omega
        refine lv_aload_n hx hb dX4_fewest_26 rfl (lv_at hl 0 rfl) ?_
        refine cV_v (As := []) (rest := []) ⟨hx, hb, hml, hown, hts⟩ (c_X4_layTrial l D cI cZ cM h0 ype ytk ywi yki yse yno yrh yrw yrk yrt yrp yrq ytx yle yat yfa yby ylo yhi yac ynx yro ygl ysn yso ysp ysw ysd yik ykp Fno _ ) (cwV 0 hts gX4_fewest_X4_layTrial rfl rfl rfl (by decide +kernel) ⟨by rw [hR]; decide, by rw [hR]; decide⟩) hK hP hD hS hA [0, 1] [2, 3, 4, 5] rfl rfl (by decide) (by decide) (by decide) rfl 0 rfl hl.1 rfl rfl (Nat.le_of_ble_eq_true rfl) dX4_fewest_27 ⟨by rw [hR]; decide, by rw [hR]; decide⟩ (fun u_12 H locs hw hP hD hS => ?_)
        obtain ⟨Gno_10, rfl⟩ : ∃ z, z = u_12 := ⟨_, rfl⟩
        have hP : va_P D vwCl [(h0, .inr (4, [.int ype, .int ytk, .ref ywi, .ref yki, .ref yse, .ref yno, .ref yrh, .ref yrw, .ref yrk, .ref yrt, .int yrp, .int yrq, .ref ytx, .int yle, .int yat, .int yfa, .ref yby, .ref ylo, .ref yhi, .int yac, .int ynx, .ref yro, .ref ygl, .int ysn, .ref yso, .ref ysp, .ref ysw, .long ysd, .ref yik, .ref ykp])), (yno, .inl (cI, 96, .inl Gno_10)), (yki, .inl (cI, 5, .inl Fki)), (yby, .inl (cI, 5, .inl Fby)), (ylo, .inl (cI, 5, .inl Flo)), (yhi, .inl (cI, 5, .inl Fhi))] H := hP.sub [4, 5, 0, 1, 2, 3] rfl
        have hD : va_D A [(h0, .inr (4, [.int ype, .int ytk, .ref ywi, .ref yki, .ref yse, .ref yno, .ref yrh, .ref yrw, .ref yrk, .ref yrt, .int yrp, .int yrq, .ref ytx, .int yle, .int yat, .int yfa, .ref yby, .ref ylo, .ref yhi, .int yac, .int ynx, .ref yro, .ref ygl, .int ysn, .ref yso, .ref ysp, .ref ysw, .long ysd, .ref yik, .ref ykp])), (yno, .inl (cI, 96, .inl Gno_10)), (yki, .inl (cI, 5, .inl Fki)), (yby, .inl (cI, 5, .inl Fby)), (ylo, .inl (cI, 5, .inl Flo)), (yhi, .inl (cI, 5, .inl Fhi))] := hD.sub [4, 5, 0, 1, 2, 3] (by decide) rfl
        refine W.widen (k := 0) (n := 0) (Nat.le_refl _) (Nat.le_refl _) ?_
        refine lv_aload_n hx hb dX4_fewest_30 rfl (lv_at hl 0 rfl) ?_
        refine lv_iload_n hx hb dX4_fewest_31 rfl (lv_at hl 1 rfl) ?_
        refine lv_iload_n hx hb dX4_fewest_32 rfl (lv_at hl 2 rfl) ?_
        refine cV_i (As := [.int n, .int k]) (rest := []) ⟨hx, hb, hml, hown, hts⟩ (c_X4_meetOf l D cI cZ cM h0 n k ype ytk ywi yki yse yno yrh yrw yrk yrt yrp yrq ytx yle yat yfa yby ylo yhi yac ynx yro ygl ysn yso ysp ysw ysd yik ykp Gno_10 Fki Fby Flo Fhi _ hBy (show 0 ≤ ype.toInt ∧ ype.toInt ≤ 5 by omega) (show 0 ≤ ytk.toInt ∧ ytk.toInt ≤ 6 by omega) (show 0 ≤ n.toInt ∧ n.toInt ≤ 4 by omega) (show 0 ≤ k.toInt ∧ k.toInt ≤ 4 by omega)) (cwV 2 hts gX4_fewest_X4_meetOf rfl rfl rfl (by decide +kernel) ⟨by rw [hR]; decide, by rw [hR]; decide⟩) hK hP hD hS hA [0, 1, 2, 3, 4, 5] [] rfl rfl (by decide) (by decide) (by decide) rfl 0 rfl hl.1 rfl rfl (Nat.le_of_ble_eq_true rfl) dX4_fewest_33 ⟨by rw [hR]; decide, by rw [hR]; decide⟩ (fun r_17 u_18 H locs hw hP hD hS => ?_)
        obtain ⟨Gno_13, Gby_14, Glo_15, Ghi_16⟩ := u_18
        have hP : va_P D vwCl [(h0, .inr (4, [.int ype, .int ytk, .ref ywi, .ref yki, .ref yse, .ref yno, .ref yrh, .ref yrw, .ref yrk, .ref yrt, .int yrp, .int yrq, .ref ytx, .int yle, .int yat, .int yfa, .ref yby, .ref ylo, .ref yhi, .int yac, .int ynx, .ref yro, .ref ygl, .int ysn, .ref yso, .ref ysp, .ref ysw, .long ysd, .ref yik, .ref ykp])), (yno, .inl (cI, 96, .inl Gno_13)), (yki, .inl (cI, 5, .inl Fki)), (yby, .inl (cI, 5, .inl Gby_14)), (ylo, .inl (cI, 5, .inl Glo_15)), (yhi, .inl (cI, 5, .inl Ghi_16))] H := hP.sub [0, 1, 2, 3, 4, 5] rfl
        have hD : va_D A [(h0, .inr (4, [.int ype, .int ytk, .ref ywi, .ref yki, .ref yse, .ref yno, .ref yrh, .ref yrw, .ref yrk, .ref yrt, .int yrp, .int yrq, .ref ytx, .int yle, .int yat, .int yfa, .ref yby, .ref ylo, .ref yhi, .int yac, .int ynx, .ref yro, .ref ygl, .int ysn, .ref yso, .ref ysp, .ref ysw, .long ysd, .ref yik, .ref ykp])), (yno, .inl (cI, 96, .inl Gno_13)), (yki, .inl (cI, 5, .inl Fki)), (yby, .inl (cI, 5, .inl Gby_14)), (ylo, .inl (cI, 5, .inl Glo_15)), (yhi, .inl (cI, 5, .inl Ghi_16))] := hD.sub [0, 1, 2, 3, 4, 5] (by decide) rfl
        refine W.widen (k := 0) (n := 0) (Nat.le_refl _) (Nat.le_refl _) ?_
        have hw : ByOk Gby_14 := hw
        have hw_19 := hw
        have PBY := hw_19
        refine lv_bipush (v := (-9)) hx hb dX4_fewest_36 (by decide) ?_
        refine lv_icmp_eq (tgt := 43) hx hb dX4_fewest_38 (by decide) (fun c_20 => ?_) (fun c_20 => ?_)
        · have tc_20 := b_eq rfl (show ((-9) : Int32).toInt = -9 by decide) c_20
          refine lv_iconst (v := 0) hx hb dX4_fewest_43 (by decide) ?_
          refine lv_istore (lv' := [(4, .int 0), (0, .ref h0), (1, .int n), (2, .int k), (3, .int z)]) hx hb dX4_fewest_44 hl (by decide) rfl (fun ls hl => ?_)
          have LOOP_21 : ∀ (fu_21 : Nat) (x4 : Int32) (gn : Nat → Int32) (gb : Nat → Int32) (gl : Nat → Int32) (gh : Nat → Int32) (H : Heap) (locs : List Loc) (ls : Array Slot), (100 - x4.toInt).toNat < fu_21 → (0 ≤ x4.toInt ∧ x4.toInt ≤ 100) → (ByOk gb) → va_P D vwCl [(h0, .inr (4, [.int ype, .int ytk, .ref ywi, .ref yki, .ref yse, .ref yno, .ref yrh, .ref yrw, .ref yrk, .ref yrt, .int yrp, .int yrq, .ref ytx, .int yle, .int yat, .int yfa, .ref yby, .ref ylo, .ref yhi, .int yac, .int ynx, .ref yro, .ref ygl, .int ysn, .ref yso, .ref ysp, .ref ysw, .long ysd, .ref yik, .ref ykp])), (yno, .inl (cI, 96, .inl gn)), (yki, .inl (cI, 5, .inl Fki)), (yby, .inl (cI, 5, .inl gb)), (ylo, .inl (cI, 5, .inl gl)), (yhi, .inl (cI, 5, .inl gh))] H → va_D A [(h0, .inr (4, [.int ype, .int ytk, .ref ywi, .ref yki, .ref yse, .ref yno, .ref yrh, .ref yrw, .ref yrk, .ref yrt, .int yrp, .int yrq, .ref ytx, .int yle, .int yat, .int yfa, .ref yby, .ref ylo, .ref yhi, .int yac, .int ynx, .ref yro, .ref ygl, .int ysn, .ref yso, .ref ysp, .ref ysw, .long ysd, .ref yik, .ref ykp])), (yno, .inl (cI, 96, .inl gn)), (yki, .inl (cI, 5, .inl Fki)), (yby, .inl (cI, 5, .inl gb)), (ylo, .inl (cI, 5, .inl gl)), (yhi, .inl (cI, 5, .inl gh))] → va_S A s.heap H locs → lv_has ls 5 [(0, .ref h0), (1, .int n), (2, .int k), (3, .int z), (4, .int x4)] → W p l e R s m args below meth c H locs 0 0 Q (F0 m 46 ls []) := by
            intro fu_21
            induction fu_21 with
            | zero => intro x4 gn gb gl gh H locs ls hmu; exact absurd hmu (Nat.not_lt_zero _)
            | succ fu_21 ih =>
              intro x4 gn gb gl gh H locs ls hmu h_x4 hby hP hD hS hl
              obtain ⟨h_x4a, h_x4b⟩ := h_x4
              have ih_22 := ih
              clear ih
              refine lv_iload hx hb dX4_fewest_46 (lv_at hl 4 rfl) ?_
              refine lv_bipush (v := 100) hx hb dX4_fewest_48 (by decide) ?_
              refine lv_icmp_ge (tgt := 102) hx hb dX4_fewest_50 (by decide) (fun c_23 => ?_) (fun c_23 => ?_)
              · have tc_23 := b_le (show (100 : Int32).toInt = 100 by decide) rfl c_23
                refine lv_iconst (v := 0) hx hb dX4_fewest_102 (by decide) ?_
                refine lv_istore (lv' := [(4, .int 0), (0, .ref h0), (1, .int n), (2, .int k), (3, .int z)]) hx hb dX4_fewest_103 hl (by decide) rfl (fun ls hl => ?_)
                have LOOP_24 : ∀ (fu_24 : Nat) (y4 : Int32) (pn : Nat → Int32) (pb : Nat → Int32) (pl_ : Nat → Int32) (ph : Nat → Int32) (H : Heap) (locs : List Loc) (ls : Array Slot), (10000 - y4.toInt).toNat < fu_24 → (0 ≤ y4.toInt ∧ y4.toInt ≤ 10000) → (ByOk pb) → va_P D vwCl [(h0, .inr (4, [.int ype, .int ytk, .ref ywi, .ref yki, .ref yse, .ref yno, .ref yrh, .ref yrw, .ref yrk, .ref yrt, .int yrp, .int yrq, .ref ytx, .int yle, .int yat, .int yfa, .ref yby, .ref ylo, .ref yhi, .int yac, .int ynx, .ref yro, .ref ygl, .int ysn, .ref yso, .ref ysp, .ref ysw, .long ysd, .ref yik, .ref ykp])), (yno, .inl (cI, 96, .inl pn)), (yki, .inl (cI, 5, .inl Fki)), (yby, .inl (cI, 5, .inl pb)), (ylo, .inl (cI, 5, .inl pl_)), (yhi, .inl (cI, 5, .inl ph))] H → va_D A [(h0, .inr (4, [.int ype, .int ytk, .ref ywi, .ref yki, .ref yse, .ref yno, .ref yrh, .ref yrw, .ref yrk, .ref yrt, .int yrp, .int yrq, .ref ytx, .int yle, .int yat, .int yfa, .ref yby, .ref ylo, .ref yhi, .int yac, .int ynx, .ref yro, .ref ygl, .int ysn, .ref yso, .ref ysp, .ref ysw, .long ysd, .ref yik, .ref ykp])), (yno, .inl (cI, 96, .inl pn)), (yki, .inl (cI, 5, .inl Fki)), (yby, .inl (cI, 5, .inl pb)), (ylo, .inl (cI, 5, .inl pl_)), (yhi, .inl (cI, 5, .inl ph))] → va_S A s.heap H locs → lv_has ls 5 [(0, .ref h0), (1, .int n), (2, .int k), (3, .int z), (4, .int y4)] → W p l e R s m args below meth c H locs 0 0 Q (F0 m 105 ls []) := by
                  intro fu_24
                  induction fu_24 with
                  | zero => intro y4 pn pb pl_ ph H locs ls hmu; exact absurd hmu (Nat.not_lt_zero _)
                  | succ fu_24 ih =>
                    intro y4 pn pb pl_ ph H locs ls hmu h_y4 hby2 hP hD hS hl
                    obtain ⟨h_y4a, h_y4b⟩ := h_y4
                    have ih_25 := ih
                    clear ih
                    refine lv_iload hx hb dX4_fewest_105 (lv_at hl 4 rfl) ?_
                    refine lv_sipush (v := 10000) hx hb dX4_fewest_107 (by decide) ?_
                    refine lv_icmp_ge (tgt := 186) hx hb dX4_fewest_110 (by decide) (fun c_26 => ?_) (fun c_26 => ?_)
                    · have tc_26 := b_le (show (10000 : Int32).toInt = 10000 by decide) rfl c_26
                      refine lv_bipush (v := (-9)) hx hb dX4_fewest_186 (by decide) ?_
                      exact ret_i (post := (fun (r : Int32) (u : (Nat → Int32) × (Nat → Int32) × (Nat → Int32) × (Nat → Int32)) => ByOk u.2.1)) (W1 := (fun u => [(h0, .inr (4, [.int ype, .int ytk, .ref ywi, .ref yki, .ref yse, .ref yno, .ref yrh, .ref yrw, .ref yrk, .ref yrt, .int yrp, .int yrq, .ref ytx, .int yle, .int yat, .int yfa, .ref yby, .ref ylo, .ref yhi, .int yac, .int ynx, .ref yro, .ref ygl, .int ysn, .ref yso, .ref ysp, .ref ysw, .long ysd, .ref yik, .ref ykp])), (yno, .inl (cI, 96, .inl u.1)), (yki, .inl (cI, 5, .inl Fki)), (yby, .inl (cI, 5, .inl u.2.1)), (ylo, .inl (cI, 5, .inl u.2.2.1)), (yhi, .inl (cI, 5, .inl u.2.2.2))])) (pn, pb, pl_, ph) hx hb hr hlocks rfl hQ hK hP hD hS ⟨by decide, by decide⟩ dX4_fewest_188 hby2
                    · have tc_26 := b_nle (show (10000 : Int32).toInt = 10000 by decide) rfl c_26
                      refine lv_aload_n hx hb dX4_fewest_113 rfl (lv_at hl 0 rfl) ?_
                      refine cV_v (As := []) (rest := []) ⟨hx, hb, hml, hown, hts⟩ (c_X4_layTrial l D cI cZ cM h0 ype ytk ywi yki yse yno yrh yrw yrk yrt yrp yrq ytx yle yat yfa yby ylo yhi yac ynx yro ygl ysn yso ysp ysw ysd yik ykp pn _ ) (cwV 0 hts gX4_fewest_X4_layTrial rfl rfl rfl (by decide +kernel) ⟨by rw [hR]; decide, by rw [hR]; decide⟩) hK hP hD hS hA [0, 1] [2, 3, 4, 5] rfl rfl (by decide) (by decide) (by decide) rfl 0 rfl hl.1 rfl rfl (Nat.le_of_ble_eq_true rfl) dX4_fewest_114 ⟨by rw [hR]; decide, by rw [hR]; decide⟩ (fun u_29 H locs hw hP hD hS => ?_)
                      obtain ⟨Gno_27, rfl⟩ : ∃ z, z = u_29 := ⟨_, rfl⟩
                      have hP : va_P D vwCl [(h0, .inr (4, [.int ype, .int ytk, .ref ywi, .ref yki, .ref yse, .ref yno, .ref yrh, .ref yrw, .ref yrk, .ref yrt, .int yrp, .int yrq, .ref ytx, .int yle, .int yat, .int yfa, .ref yby, .ref ylo, .ref yhi, .int yac, .int ynx, .ref yro, .ref ygl, .int ysn, .ref yso, .ref ysp, .ref ysw, .long ysd, .ref yik, .ref ykp])), (yno, .inl (cI, 96, .inl Gno_27)), (yki, .inl (cI, 5, .inl Fki)), (yby, .inl (cI, 5, .inl pb)), (ylo, .inl (cI, 5, .inl pl_)), (yhi, .inl (cI, 5, .inl ph))] H := hP.sub [4, 5, 0, 1, 2, 3] rfl
                      have hD : va_D A [(h0, .inr (4, [.int ype, .int ytk, .ref ywi, .ref yki, .ref yse, .ref yno, .ref yrh, .ref yrw, .ref yrk, .ref yrt, .int yrp, .int yrq, .ref ytx, .int yle, .int yat, .int yfa, .ref yby, .ref ylo, .ref yhi, .int yac, .int ynx, .ref yro, .ref ygl, .int ysn, .ref yso, .ref ysp, .ref ysw, .long ysd, .ref yik, .ref ykp])), (yno, .inl (cI, 96, .inl Gno_27)), (yki, .inl (cI, 5, .inl Fki)), (yby, .inl (cI, 5, .inl pb)), (ylo, .inl (cI, 5, .inl pl_)), (yhi, .inl (cI, 5, .inl ph))] := hD.sub [4, 5, 0, 1, 2, 3] (by decide) rfl
                      refine W.widen (k := 0) (n := 0) (Nat.le_refl _) (Nat.le_refl _) ?_
                      refine lv_aload_n hx hb dX4_fewest_117 rfl (lv_at hl 0 rfl) ?_
                      refine lv_iload hx hb dX4_fewest_118 (lv_at hl 4 rfl) ?_
                      refine lv_sipush (v := 1000) hx hb dX4_fewest_120 (by decide) ?_
                      refine lv_idiv hx hb dX4_fewest_123 (by decide) ?_
                      refine lv_topi (fun v_30 ev_30 => ?_)
                      refine lv_iload hx hb dX4_fewest_124 (lv_at hl 4 rfl) ?_
                      refine lv_bipush (v := 100) hx hb dX4_fewest_126 (by decide) ?_
                      refine lv_idiv hx hb dX4_fewest_128 (by decide) ?_
                      refine lv_topi (fun v_31 ev_31 => ?_)
                      refine lv_bipush (v := 10) hx hb dX4_fewest_129 (by decide) ?_
                      refine lv_irem hx hb dX4_fewest_131 (by decide) ?_
                      refine lv_topi (fun v_32 ev_32 => ?_)
                      refine cV_i (As := [.int v_30, .int v_32]) (rest := []) ⟨hx, hb, hml, hown, hts⟩ (c_X4_giveTrial l D cI cZ cM h0 v_30 v_32 ype ytk ywi yki yse yno yrh yrw yrk yrt yrp yrq ytx yle yat yfa yby ylo yhi yac ynx yro ygl ysn yso ysp ysw ysd yik ykp Gno_27 _ (show 0 ≤ ype.toInt ∧ ype.toInt ≤ 5 by omega) (show 0 ≤ ytk.toInt ∧ ytk.toInt ≤ 6 by omega)) (cwV 2 hts gX4_fewest_X4_giveTrial rfl rfl rfl (by decide +kernel) ⟨by rw [hR]; decide, by rw [hR]; decide⟩) hK hP hD hS hA [0, 1] [2, 3, 4, 5] rfl rfl (by decide) (by decide) (by decide) rfl 0 rfl hl.1 rfl rfl (Nat.le_of_ble_eq_true rfl) dX4_fewest_132 ⟨by rw [hR]; decide, by rw [hR]; decide⟩ (fun r_34 u_35 H locs hw hP hD hS => ?_)
                      obtain ⟨Gno_33, rfl⟩ : ∃ z, z = u_35 := ⟨_, rfl⟩
                      have hP : va_P D vwCl [(h0, .inr (4, [.int ype, .int ytk, .ref ywi, .ref yki, .ref yse, .ref yno, .ref yrh, .ref yrw, .ref yrk, .ref yrt, .int yrp, .int yrq, .ref ytx, .int yle, .int yat, .int yfa, .ref yby, .ref ylo, .ref yhi, .int yac, .int ynx, .ref yro, .ref ygl, .int ysn, .ref yso, .ref ysp, .ref ysw, .long ysd, .ref yik, .ref ykp])), (yno, .inl (cI, 96, .inl Gno_33)), (yki, .inl (cI, 5, .inl Fki)), (yby, .inl (cI, 5, .inl pb)), (ylo, .inl (cI, 5, .inl pl_)), (yhi, .inl (cI, 5, .inl ph))] H := hP.sub [4, 5, 0, 1, 2, 3] rfl
                      have hD : va_D A [(h0, .inr (4, [.int ype, .int ytk, .ref ywi, .ref yki, .ref yse, .ref yno, .ref yrh, .ref yrw, .ref yrk, .ref yrt, .int yrp, .int yrq, .ref ytx, .int yle, .int yat, .int yfa, .ref yby, .ref ylo, .ref yhi, .int yac, .int ynx, .ref yro, .ref ygl, .int ysn, .ref yso, .ref ysp, .ref ysw, .long ysd, .ref yik, .ref ykp])), (yno, .inl (cI, 96, .inl Gno_33)), (yki, .inl (cI, 5, .inl Fki)), (yby, .inl (cI, 5, .inl pb)), (ylo, .inl (cI, 5, .inl pl_)), (yhi, .inl (cI, 5, .inl ph))] := hD.sub [4, 5, 0, 1, 2, 3] (by decide) rfl
                      refine W.widen (k := 0) (n := 0) (Nat.le_refl _) (Nat.le_refl _) ?_
                      have hw : (r_34.toInt = 0 ∨ r_34.toInt = 1) := hw
                      have hw_36 := hw
                      refine lv_if_eq (tgt := 180) hx hb dX4_fewest_135 (by decide) (fun c_37 => ?_) (fun c_37 => ?_)
                      · have tc_37 := b_eq rfl (show (0 : Int32).toInt = 0 by decide) c_37
                        obtain ⟨v_38, ev_38⟩ : ∃ z : Int32, z = y4 + 1 := ⟨_, rfl⟩
                        have tv_38 : v_38.toInt = y4.toInt + 1 := by rw [ev_38]; exact ti_add (x := y4) (y := 1) (show -2147483648 ≤ y4.toInt + 1 by omega) (show y4.toInt + 1 < 2147483648 by omega)
                        refine lv_iinc (v := v_38) (lv' := [(4, .int v_38), (0, .ref h0), (1, .int n), (2, .int k), (3, .int z)]) hx hb dX4_fewest_180 hl (k := 4) rfl (by rw [ev_38]; rfl) (by decide) rfl (fun ls hl => ?_)
                        refine lv_goto (tgt := 105) hx hb dX4_fewest_183 (by decide) ?_
                        exact ih_25 v_38 Gno_33 pb pl_ ph _ _ _ (show (10000 - v_38.toInt).toNat < fu_24 by omega) (show 0 ≤ v_38.toInt ∧ v_38.toInt ≤ 10000 by omega) (hby2) hP hD hS (lv_sub hl [1, 2, 3, 4, 0] rfl)
                      · have tc_37 := b_ne rfl (show (0 : Int32).toInt = 0 by decide) c_37
                        refine lv_aload_n hx hb dX4_fewest_138 rfl (lv_at hl 0 rfl) ?_
                        refine lv_iload hx hb dX4_fewest_139 (lv_at hl 4 rfl) ?_
                        refine lv_bipush (v := 10) hx hb dX4_fewest_141 (by decide) ?_
                        refine lv_idiv hx hb dX4_fewest_143 (by decide) ?_
                        refine lv_topi (fun v_39 ev_39 => ?_)
                        refine lv_bipush (v := 10) hx hb dX4_fewest_144 (by decide) ?_
                        refine lv_irem hx hb dX4_fewest_146 (by decide) ?_
                        refine lv_topi (fun v_40 ev_40 => ?_)
                        refine lv_iload hx hb dX4_fewest_147 (lv_at hl 4 rfl) ?_
                        refine lv_bipush (v := 10) hx hb dX4_fewest_149 (by decide) ?_
                        refine lv_irem hx hb dX4_fewest_151 (by decide) ?_
                        refine lv_topi (fun v_41 ev_41 => ?_)
                        have tv_41 := rem_t (n := 10) (by decide) (by decide) (show 0 ≤ y4.toInt by omega) ev_41
                        obtain ⟨tv_41a, tv_41b⟩ := tv_41
                        refine cV_i (As := [.int v_40, .int v_41]) (rest := []) ⟨hx, hb, hml, hown, hts⟩ (c_X4_giveTrial l D cI cZ cM h0 v_40 v_41 ype ytk ywi yki yse yno yrh yrw yrk yrt yrp yrq ytx yle yat yfa yby ylo yhi yac ynx yro ygl ysn yso ysp ysw ysd yik ykp Gno_33 _ (show 0 ≤ ype.toInt ∧ ype.toInt ≤ 5 by omega) (show 0 ≤ ytk.toInt ∧ ytk.toInt ≤ 6 by omega)) (cwV 2 hts gX4_fewest_X4_giveTrial rfl rfl rfl (by decide +kernel) ⟨by rw [hR]; decide, by rw [hR]; decide⟩) hK hP hD hS hA [0, 1] [2, 3, 4, 5] rfl rfl (by decide) (by decide) (by decide) rfl 0 rfl hl.1 rfl rfl (Nat.le_of_ble_eq_true rfl) dX4_fewest_152 ⟨by rw [hR]; decide, by rw [hR]; decide⟩ (fun r_43 u_44 H locs hw hP hD hS => ?_)
                        obtain ⟨Gno_42, rfl⟩ : ∃ z, z = u_44 := ⟨_, rfl⟩
                        have hP : va_P D vwCl [(h0, .inr (4, [.int ype, .int ytk, .ref ywi, .ref yki, .ref yse, .ref yno, .ref yrh, .ref yrw, .ref yrk, .ref yrt, .int yrp, .int yrq, .ref ytx, .int yle, .int yat, .int yfa, .ref yby, .ref ylo, .ref yhi, .int yac, .int ynx, .ref yro, .ref ygl, .int ysn, .ref yso, .ref ysp, .ref ysw, .long ysd, .ref yik, .ref ykp])), (yno, .inl (cI, 96, .inl Gno_42)), (yki, .inl (cI, 5, .inl Fki)), (yby, .inl (cI, 5, .inl pb)), (ylo, .inl (cI, 5, .inl pl_)), (yhi, .inl (cI, 5, .inl ph))] H := hP.sub [4, 5, 0, 1, 2, 3] rfl
                        have hD : va_D A [(h0, .inr (4, [.int ype, .int ytk, .ref ywi, .ref yki, .ref yse, .ref yno, .ref yrh, .ref yrw, .ref yrk, .ref yrt, .int yrp, .int yrq, .ref ytx, .int yle, .int yat, .int yfa, .ref yby, .ref ylo, .ref yhi, .int yac, .int ynx, .ref yro, .ref ygl, .int ysn, .ref yso, .ref ysp, .ref ysw, .long ysd, .ref yik, .ref ykp])), (yno, .inl (cI, 96, .inl Gno_42)), (yki, .inl (cI, 5, .inl Fki)), (yby, .inl (cI, 5, .inl pb)), (ylo, .inl (cI, 5, .inl pl_)), (yhi, .inl (cI, 5, .inl ph))] := hD.sub [4, 5, 0, 1, 2, 3] (by decide) rfl
                        refine W.widen (k := 0) (n := 0) (Nat.le_refl _) (Nat.le_refl _) ?_
                        have hw : (r_43.toInt = 0 ∨ r_43.toInt = 1) := hw
                        have hw_45 := hw
                        refine lv_if_eq (tgt := 180) hx hb dX4_fewest_155 (by decide) (fun c_46 => ?_) (fun c_46 => ?_)
                        · have tc_46 := b_eq rfl (show (0 : Int32).toInt = 0 by decide) c_46
                          obtain ⟨v_47, ev_47⟩ : ∃ z : Int32, z = y4 + 1 := ⟨_, rfl⟩
                          have tv_47 : v_47.toInt = y4.toInt + 1 := by rw [ev_47]; exact ti_add (x := y4) (y := 1) (show -2147483648 ≤ y4.toInt + 1 by omega) (show y4.toInt + 1 < 2147483648 by omega)
                          refine lv_iinc (v := v_47) (lv' := [(4, .int v_47), (0, .ref h0), (1, .int n), (2, .int k), (3, .int z)]) hx hb dX4_fewest_180 hl (k := 4) rfl (by rw [ev_47]; rfl) (by decide) rfl (fun ls hl => ?_)
                          refine lv_goto (tgt := 105) hx hb dX4_fewest_183 (by decide) ?_
                          exact ih_25 v_47 Gno_42 pb pl_ ph _ _ _ (show (10000 - v_47.toInt).toNat < fu_24 by omega) (show 0 ≤ v_47.toInt ∧ v_47.toInt ≤ 10000 by omega) (hby2) hP hD hS (lv_sub hl [1, 2, 3, 4, 0] rfl)
                        · have tc_46 := b_ne rfl (show (0 : Int32).toInt = 0 by decide) c_46
                          refine lv_aload_n hx hb dX4_fewest_158 rfl (lv_at hl 0 rfl) ?_
                          refine lv_iload_n hx hb dX4_fewest_159 rfl (lv_at hl 1 rfl) ?_
                          refine lv_iload_n hx hb dX4_fewest_160 rfl (lv_at hl 2 rfl) ?_
                          refine cV_i (As := [.int n, .int k]) (rest := []) ⟨hx, hb, hml, hown, hts⟩ (c_X4_meetOf l D cI cZ cM h0 n k ype ytk ywi yki yse yno yrh yrw yrk yrt yrp yrq ytx yle yat yfa yby ylo yhi yac ynx yro ygl ysn yso ysp ysw ysd yik ykp Gno_42 Fki pb pl_ ph _ hby2 (show 0 ≤ ype.toInt ∧ ype.toInt ≤ 5 by omega) (show 0 ≤ ytk.toInt ∧ ytk.toInt ≤ 6 by omega) (show 0 ≤ n.toInt ∧ n.toInt ≤ 4 by omega) (show 0 ≤ k.toInt ∧ k.toInt ≤ 4 by omega)) (cwV 2 hts gX4_fewest_X4_meetOf rfl rfl rfl (by decide +kernel) ⟨by rw [hR]; decide, by rw [hR]; decide⟩) hK hP hD hS hA [0, 1, 2, 3, 4, 5] [] rfl rfl (by decide) (by decide) (by decide) rfl 0 rfl hl.1 rfl rfl (Nat.le_of_ble_eq_true rfl) dX4_fewest_161 ⟨by rw [hR]; decide, by rw [hR]; decide⟩ (fun r_52 u_53 H locs hw hP hD hS => ?_)
                          obtain ⟨Gno_48, Gby_49, Glo_50, Ghi_51⟩ := u_53
                          have hP : va_P D vwCl [(h0, .inr (4, [.int ype, .int ytk, .ref ywi, .ref yki, .ref yse, .ref yno, .ref yrh, .ref yrw, .ref yrk, .ref yrt, .int yrp, .int yrq, .ref ytx, .int yle, .int yat, .int yfa, .ref yby, .ref ylo, .ref yhi, .int yac, .int ynx, .ref yro, .ref ygl, .int ysn, .ref yso, .ref ysp, .ref ysw, .long ysd, .ref yik, .ref ykp])), (yno, .inl (cI, 96, .inl Gno_48)), (yki, .inl (cI, 5, .inl Fki)), (yby, .inl (cI, 5, .inl Gby_49)), (ylo, .inl (cI, 5, .inl Glo_50)), (yhi, .inl (cI, 5, .inl Ghi_51))] H := hP.sub [0, 1, 2, 3, 4, 5] rfl
                          have hD : va_D A [(h0, .inr (4, [.int ype, .int ytk, .ref ywi, .ref yki, .ref yse, .ref yno, .ref yrh, .ref yrw, .ref yrk, .ref yrt, .int yrp, .int yrq, .ref ytx, .int yle, .int yat, .int yfa, .ref yby, .ref ylo, .ref yhi, .int yac, .int ynx, .ref yro, .ref ygl, .int ysn, .ref yso, .ref ysp, .ref ysw, .long ysd, .ref yik, .ref ykp])), (yno, .inl (cI, 96, .inl Gno_48)), (yki, .inl (cI, 5, .inl Fki)), (yby, .inl (cI, 5, .inl Gby_49)), (ylo, .inl (cI, 5, .inl Glo_50)), (yhi, .inl (cI, 5, .inl Ghi_51))] := hD.sub [0, 1, 2, 3, 4, 5] (by decide) rfl
                          refine W.widen (k := 0) (n := 0) (Nat.le_refl _) (Nat.le_refl _) ?_
                          have hw : ByOk Gby_49 := hw
                          have hw_54 := hw
                          have PBY := hw_54
                          refine lv_bipush (v := (-9)) hx hb dX4_fewest_164 (by decide) ?_
                          refine lv_icmp_eq (tgt := 180) hx hb dX4_fewest_166 (by decide) (fun c_55 => ?_) (fun c_55 => ?_)
                          · have tc_55 := b_eq rfl (show ((-9) : Int32).toInt = -9 by decide) c_55
                            obtain ⟨v_56, ev_56⟩ : ∃ z : Int32, z = y4 + 1 := ⟨_, rfl⟩
                            have tv_56 : v_56.toInt = y4.toInt + 1 := by rw [ev_56]; exact ti_add (x := y4) (y := 1) (show -2147483648 ≤ y4.toInt + 1 by omega) (show y4.toInt + 1 < 2147483648 by omega)
                            refine lv_iinc (v := v_56) (lv' := [(4, .int v_56), (0, .ref h0), (1, .int n), (2, .int k), (3, .int z)]) hx hb dX4_fewest_180 hl (k := 4) rfl (by rw [ev_56]; rfl) (by decide) rfl (fun ls hl => ?_)
                            refine lv_goto (tgt := 105) hx hb dX4_fewest_183 (by decide) ?_
                            exact ih_25 v_56 Gno_48 Gby_49 Glo_50 Ghi_51 _ _ _ (show (10000 - v_56.toInt).toNat < fu_24 by omega) (show 0 ≤ v_56.toInt ∧ v_56.toInt ≤ 10000 by omega) (PBY) hP hD hS (lv_sub hl [1, 2, 3, 4, 0] rfl)
                          · have tc_55 := b_ne rfl (show ((-9) : Int32).toInt = -9 by decide) c_55
                            refine lv_iload_n hx hb dX4_fewest_169 rfl (lv_at hl 3 rfl) ?_
                            refine lv_if_eq (tgt := 178) hx hb dX4_fewest_170 (by decide) (fun c_57 => ?_) (fun c_57 => ?_)
                            · have tc_57 := b_eq rfl (show (0 : Int32).toInt = 0 by decide) c_57
                              refine lv_iconst (v := 2) hx hb dX4_fewest_178 (by decide) ?_
                              exact ret_i (post := (fun (r : Int32) (u : (Nat → Int32) × (Nat → Int32) × (Nat → Int32) × (Nat → Int32)) => ByOk u.2.1)) (W1 := (fun u => [(h0, .inr (4, [.int ype, .int ytk, .ref ywi, .ref yki, .ref yse, .ref yno, .ref yrh, .ref yrw, .ref yrk, .ref yrt, .int yrp, .int yrq, .ref ytx, .int yle, .int yat, .int yfa, .ref yby, .ref ylo, .ref yhi, .int yac, .int ynx, .ref yro, .ref ygl, .int ysn, .ref yso, .ref ysp, .ref ysw, .long ysd, .ref yik, .ref ykp])), (yno, .inl (cI, 96, .inl u.1)), (yki, .inl (cI, 5, .inl Fki)), (yby, .inl (cI, 5, .inl u.2.1)), (ylo, .inl (cI, 5, .inl u.2.2.1)), (yhi, .inl (cI, 5, .inl u.2.2.2))])) (Gno_48, Gby_49, Glo_50, Ghi_51) hx hb hr hlocks rfl hQ hK hP hD hS ⟨by decide, by decide⟩ dX4_fewest_179 PBY
                            · have tc_57 := b_ne rfl (show (0 : Int32).toInt = 0 by decide) c_57
                              refine lv_iload hx hb dX4_fewest_173 (lv_at hl 4 rfl) ?_
                              refine lv_goto (tgt := 179) hx hb dX4_fewest_175 (by decide) ?_
                              exact ret_i (post := (fun (r : Int32) (u : (Nat → Int32) × (Nat → Int32) × (Nat → Int32) × (Nat → Int32)) => ByOk u.2.1)) (W1 := (fun u => [(h0, .inr (4, [.int ype, .int ytk, .ref ywi, .ref yki, .ref yse, .ref yno, .ref yrh, .ref yrw, .ref yrk, .ref yrt, .int yrp, .int yrq, .ref ytx, .int yle, .int yat, .int yfa, .ref yby, .ref ylo, .ref yhi, .int yac, .int ynx, .ref yro, .ref ygl, .int ysn, .ref yso, .ref ysp, .ref ysw, .long ysd, .ref yik, .ref ykp])), (yno, .inl (cI, 96, .inl u.1)), (yki, .inl (cI, 5, .inl Fki)), (yby, .inl (cI, 5, .inl u.2.1)), (ylo, .inl (cI, 5, .inl u.2.2.1)), (yhi, .inl (cI, 5, .inl u.2.2.2))])) (Gno_48, Gby_49, Glo_50, Ghi_51) hx hb hr hlocks rfl hQ hK hP hD hS ⟨by decide, by decide⟩ dX4_fewest_179 PBY
                exact LOOP_24 _ 0 gn gb gl gh _ _ _ (Nat.lt_succ_self _) (by decide) (hby) hP hD hS (lv_sub hl [1, 2, 3, 4, 0] rfl)
              · have tc_23 := b_nle (show (100 : Int32).toInt = 100 by decide) rfl c_23
                refine lv_aload_n hx hb dX4_fewest_53 rfl (lv_at hl 0 rfl) ?_
                refine cV_v (As := []) (rest := []) ⟨hx, hb, hml, hown, hts⟩ (c_X4_layTrial l D cI cZ cM h0 ype ytk ywi yki yse yno yrh yrw yrk yrt yrp yrq ytx yle yat yfa yby ylo yhi yac ynx yro ygl ysn yso ysp ysw ysd yik ykp gn _ ) (cwV 0 hts gX4_fewest_X4_layTrial rfl rfl rfl (by decide +kernel) ⟨by rw [hR]; decide, by rw [hR]; decide⟩) hK hP hD hS hA [0, 1] [2, 3, 4, 5] rfl rfl (by decide) (by decide) (by decide) rfl 0 rfl hl.1 rfl rfl (Nat.le_of_ble_eq_true rfl) dX4_fewest_54 ⟨by rw [hR]; decide, by rw [hR]; decide⟩ (fun u_60 H locs hw hP hD hS => ?_)
                obtain ⟨Gno_58, rfl⟩ : ∃ z, z = u_60 := ⟨_, rfl⟩
                have hP : va_P D vwCl [(h0, .inr (4, [.int ype, .int ytk, .ref ywi, .ref yki, .ref yse, .ref yno, .ref yrh, .ref yrw, .ref yrk, .ref yrt, .int yrp, .int yrq, .ref ytx, .int yle, .int yat, .int yfa, .ref yby, .ref ylo, .ref yhi, .int yac, .int ynx, .ref yro, .ref ygl, .int ysn, .ref yso, .ref ysp, .ref ysw, .long ysd, .ref yik, .ref ykp])), (yno, .inl (cI, 96, .inl Gno_58)), (yki, .inl (cI, 5, .inl Fki)), (yby, .inl (cI, 5, .inl gb)), (ylo, .inl (cI, 5, .inl gl)), (yhi, .inl (cI, 5, .inl gh))] H := hP.sub [4, 5, 0, 1, 2, 3] rfl
                have hD : va_D A [(h0, .inr (4, [.int ype, .int ytk, .ref ywi, .ref yki, .ref yse, .ref yno, .ref yrh, .ref yrw, .ref yrk, .ref yrt, .int yrp, .int yrq, .ref ytx, .int yle, .int yat, .int yfa, .ref yby, .ref ylo, .ref yhi, .int yac, .int ynx, .ref yro, .ref ygl, .int ysn, .ref yso, .ref ysp, .ref ysw, .long ysd, .ref yik, .ref ykp])), (yno, .inl (cI, 96, .inl Gno_58)), (yki, .inl (cI, 5, .inl Fki)), (yby, .inl (cI, 5, .inl gb)), (ylo, .inl (cI, 5, .inl gl)), (yhi, .inl (cI, 5, .inl gh))] := hD.sub [4, 5, 0, 1, 2, 3] (by decide) rfl
                refine W.widen (k := 0) (n := 0) (Nat.le_refl _) (Nat.le_refl _) ?_
                refine lv_aload_n hx hb dX4_fewest_57 rfl (lv_at hl 0 rfl) ?_
                refine lv_iload hx hb dX4_fewest_58 (lv_at hl 4 rfl) ?_
                refine lv_bipush (v := 10) hx hb dX4_fewest_60 (by decide) ?_
                refine lv_idiv hx hb dX4_fewest_62 (by decide) ?_
                refine lv_topi (fun v_61 ev_61 => ?_)
                refine lv_iload hx hb dX4_fewest_63 (lv_at hl 4 rfl) ?_
                refine lv_bipush (v := 10) hx hb dX4_fewest_65 (by decide) ?_
                refine lv_irem hx hb dX4_fewest_67 (by decide) ?_
                refine lv_topi (fun v_62 ev_62 => ?_)
                have tv_62 := rem_t (n := 10) (by decide) (by decide) (show 0 ≤ x4.toInt by omega) ev_62
                obtain ⟨tv_62a, tv_62b⟩ := tv_62
                refine cV_i (As := [.int v_61, .int v_62]) (rest := []) ⟨hx, hb, hml, hown, hts⟩ (c_X4_giveTrial l D cI cZ cM h0 v_61 v_62 ype ytk ywi yki yse yno yrh yrw yrk yrt yrp yrq ytx yle yat yfa yby ylo yhi yac ynx yro ygl ysn yso ysp ysw ysd yik ykp Gno_58 _ (show 0 ≤ ype.toInt ∧ ype.toInt ≤ 5 by omega) (show 0 ≤ ytk.toInt ∧ ytk.toInt ≤ 6 by omega)) (cwV 2 hts gX4_fewest_X4_giveTrial rfl rfl rfl (by decide +kernel) ⟨by rw [hR]; decide, by rw [hR]; decide⟩) hK hP hD hS hA [0, 1] [2, 3, 4, 5] rfl rfl (by decide) (by decide) (by decide) rfl 0 rfl hl.1 rfl rfl (Nat.le_of_ble_eq_true rfl) dX4_fewest_68 ⟨by rw [hR]; decide, by rw [hR]; decide⟩ (fun r_64 u_65 H locs hw hP hD hS => ?_)
                obtain ⟨Gno_63, rfl⟩ : ∃ z, z = u_65 := ⟨_, rfl⟩
                have hP : va_P D vwCl [(h0, .inr (4, [.int ype, .int ytk, .ref ywi, .ref yki, .ref yse, .ref yno, .ref yrh, .ref yrw, .ref yrk, .ref yrt, .int yrp, .int yrq, .ref ytx, .int yle, .int yat, .int yfa, .ref yby, .ref ylo, .ref yhi, .int yac, .int ynx, .ref yro, .ref ygl, .int ysn, .ref yso, .ref ysp, .ref ysw, .long ysd, .ref yik, .ref ykp])), (yno, .inl (cI, 96, .inl Gno_63)), (yki, .inl (cI, 5, .inl Fki)), (yby, .inl (cI, 5, .inl gb)), (ylo, .inl (cI, 5, .inl gl)), (yhi, .inl (cI, 5, .inl gh))] H := hP.sub [4, 5, 0, 1, 2, 3] rfl
                have hD : va_D A [(h0, .inr (4, [.int ype, .int ytk, .ref ywi, .ref yki, .ref yse, .ref yno, .ref yrh, .ref yrw, .ref yrk, .ref yrt, .int yrp, .int yrq, .ref ytx, .int yle, .int yat, .int yfa, .ref yby, .ref ylo, .ref yhi, .int yac, .int ynx, .ref yro, .ref ygl, .int ysn, .ref yso, .ref ysp, .ref ysw, .long ysd, .ref yik, .ref ykp])), (yno, .inl (cI, 96, .inl Gno_63)), (yki, .inl (cI, 5, .inl Fki)), (yby, .inl (cI, 5, .inl gb)), (ylo, .inl (cI, 5, .inl gl)), (yhi, .inl (cI, 5, .inl gh))] := hD.sub [4, 5, 0, 1, 2, 3] (by decide) rfl
                refine W.widen (k := 0) (n := 0) (Nat.le_refl _) (Nat.le_refl _) ?_
                have hw : (r_64.toInt = 0 ∨ r_64.toInt = 1) := hw
                have hw_66 := hw
                refine lv_if_eq (tgt := 96) hx hb dX4_fewest_71 (by decide) (fun c_67 => ?_) (fun c_67 => ?_)
                · have tc_67 := b_eq rfl (show (0 : Int32).toInt = 0 by decide) c_67
                  obtain ⟨v_68, ev_68⟩ : ∃ z : Int32, z = x4 + 1 := ⟨_, rfl⟩
                  have tv_68 : v_68.toInt = x4.toInt + 1 := by rw [ev_68]; exact ti_add (x := x4) (y := 1) (show -2147483648 ≤ x4.toInt + 1 by omega) (show x4.toInt + 1 < 2147483648 by omega)
                  refine lv_iinc (v := v_68) (lv' := [(4, .int v_68), (0, .ref h0), (1, .int n), (2, .int k), (3, .int z)]) hx hb dX4_fewest_96 hl (k := 4) rfl (by rw [ev_68]; rfl) (by decide) rfl (fun ls hl => ?_)
                  refine lv_goto (tgt := 46) hx hb dX4_fewest_99 (by decide) ?_
                  exact ih_22 v_68 Gno_63 gb gl gh _ _ _ (show (100 - v_68.toInt).toNat < fu_21 by omega) (show 0 ≤ v_68.toInt ∧ v_68.toInt ≤ 100 by omega) (hby) hP hD hS (lv_sub hl [1, 2, 3, 4, 0] rfl)
                · have tc_67 := b_ne rfl (show (0 : Int32).toInt = 0 by decide) c_67
                  refine lv_aload_n hx hb dX4_fewest_74 rfl (lv_at hl 0 rfl) ?_
                  refine lv_iload_n hx hb dX4_fewest_75 rfl (lv_at hl 1 rfl) ?_
                  refine lv_iload_n hx hb dX4_fewest_76 rfl (lv_at hl 2 rfl) ?_
                  refine cV_i (As := [.int n, .int k]) (rest := []) ⟨hx, hb, hml, hown, hts⟩ (c_X4_meetOf l D cI cZ cM h0 n k ype ytk ywi yki yse yno yrh yrw yrk yrt yrp yrq ytx yle yat yfa yby ylo yhi yac ynx yro ygl ysn yso ysp ysw ysd yik ykp Gno_63 Fki gb gl gh _ hby (show 0 ≤ ype.toInt ∧ ype.toInt ≤ 5 by omega) (show 0 ≤ ytk.toInt ∧ ytk.toInt ≤ 6 by omega) (show 0 ≤ n.toInt ∧ n.toInt ≤ 4 by omega) (show 0 ≤ k.toInt ∧ k.toInt ≤ 4 by omega)) (cwV 2 hts gX4_fewest_X4_meetOf rfl rfl rfl (by decide +kernel) ⟨by rw [hR]; decide, by rw [hR]; decide⟩) hK hP hD hS hA [0, 1, 2, 3, 4, 5] [] rfl rfl (by decide) (by decide) (by decide) rfl 0 rfl hl.1 rfl rfl (Nat.le_of_ble_eq_true rfl) dX4_fewest_77 ⟨by rw [hR]; decide, by rw [hR]; decide⟩ (fun r_73 u_74 H locs hw hP hD hS => ?_)
                  obtain ⟨Gno_69, Gby_70, Glo_71, Ghi_72⟩ := u_74
                  have hP : va_P D vwCl [(h0, .inr (4, [.int ype, .int ytk, .ref ywi, .ref yki, .ref yse, .ref yno, .ref yrh, .ref yrw, .ref yrk, .ref yrt, .int yrp, .int yrq, .ref ytx, .int yle, .int yat, .int yfa, .ref yby, .ref ylo, .ref yhi, .int yac, .int ynx, .ref yro, .ref ygl, .int ysn, .ref yso, .ref ysp, .ref ysw, .long ysd, .ref yik, .ref ykp])), (yno, .inl (cI, 96, .inl Gno_69)), (yki, .inl (cI, 5, .inl Fki)), (yby, .inl (cI, 5, .inl Gby_70)), (ylo, .inl (cI, 5, .inl Glo_71)), (yhi, .inl (cI, 5, .inl Ghi_72))] H := hP.sub [0, 1, 2, 3, 4, 5] rfl
                  have hD : va_D A [(h0, .inr (4, [.int ype, .int ytk, .ref ywi, .ref yki, .ref yse, .ref yno, .ref yrh, .ref yrw, .ref yrk, .ref yrt, .int yrp, .int yrq, .ref ytx, .int yle, .int yat, .int yfa, .ref yby, .ref ylo, .ref yhi, .int yac, .int ynx, .ref yro, .ref ygl, .int ysn, .ref yso, .ref ysp, .ref ysw, .long ysd, .ref yik, .ref ykp])), (yno, .inl (cI, 96, .inl Gno_69)), (yki, .inl (cI, 5, .inl Fki)), (yby, .inl (cI, 5, .inl Gby_70)), (ylo, .inl (cI, 5, .inl Glo_71)), (yhi, .inl (cI, 5, .inl Ghi_72))] := hD.sub [0, 1, 2, 3, 4, 5] (by decide) rfl
                  refine W.widen (k := 0) (n := 0) (Nat.le_refl _) (Nat.le_refl _) ?_
                  have hw : ByOk Gby_70 := hw
                  have hw_75 := hw
                  have PBY := hw_75
                  refine lv_bipush (v := (-9)) hx hb dX4_fewest_80 (by decide) ?_
                  refine lv_icmp_eq (tgt := 96) hx hb dX4_fewest_82 (by decide) (fun c_76 => ?_) (fun c_76 => ?_)
                  · have tc_76 := b_eq rfl (show ((-9) : Int32).toInt = -9 by decide) c_76
                    obtain ⟨v_77, ev_77⟩ : ∃ z : Int32, z = x4 + 1 := ⟨_, rfl⟩
                    have tv_77 : v_77.toInt = x4.toInt + 1 := by rw [ev_77]; exact ti_add (x := x4) (y := 1) (show -2147483648 ≤ x4.toInt + 1 by omega) (show x4.toInt + 1 < 2147483648 by omega)
                    refine lv_iinc (v := v_77) (lv' := [(4, .int v_77), (0, .ref h0), (1, .int n), (2, .int k), (3, .int z)]) hx hb dX4_fewest_96 hl (k := 4) rfl (by rw [ev_77]; rfl) (by decide) rfl (fun ls hl => ?_)
                    refine lv_goto (tgt := 46) hx hb dX4_fewest_99 (by decide) ?_
                    exact ih_22 v_77 Gno_69 Gby_70 Glo_71 Ghi_72 _ _ _ (show (100 - v_77.toInt).toNat < fu_21 by omega) (show 0 ≤ v_77.toInt ∧ v_77.toInt ≤ 100 by omega) (PBY) hP hD hS (lv_sub hl [1, 2, 3, 4, 0] rfl)
                  · have tc_76 := b_ne rfl (show ((-9) : Int32).toInt = -9 by decide) c_76
                    refine lv_iload_n hx hb dX4_fewest_85 rfl (lv_at hl 3 rfl) ?_
                    refine lv_if_eq (tgt := 94) hx hb dX4_fewest_86 (by decide) (fun c_78 => ?_) (fun c_78 => ?_)
                    · have tc_78 := b_eq rfl (show (0 : Int32).toInt = 0 by decide) c_78
                      refine lv_iconst (v := 1) hx hb dX4_fewest_94 (by decide) ?_
                      exact ret_i (post := (fun (r : Int32) (u : (Nat → Int32) × (Nat → Int32) × (Nat → Int32) × (Nat → Int32)) => ByOk u.2.1)) (W1 := (fun u => [(h0, .inr (4, [.int ype, .int ytk, .ref ywi, .ref yki, .ref yse, .ref yno, .ref yrh, .ref yrw, .ref yrk, .ref yrt, .int yrp, .int yrq, .ref ytx, .int yle, .int yat, .int yfa, .ref yby, .ref ylo, .ref yhi, .int yac, .int ynx, .ref yro, .ref ygl, .int ysn, .ref yso, .ref ysp, .ref ysw, .long ysd, .ref yik, .ref ykp])), (yno, .inl (cI, 96, .inl u.1)), (yki, .inl (cI, 5, .inl Fki)), (yby, .inl (cI, 5, .inl u.2.1)), (ylo, .inl (cI, 5, .inl u.2.2.1)), (yhi, .inl (cI, 5, .inl u.2.2.2))])) (Gno_69, Gby_70, Glo_71, Ghi_72) hx hb hr hlocks rfl hQ hK hP hD hS ⟨by decide, by decide⟩ dX4_fewest_95 PBY
                    · have tc_78 := b_ne rfl (show (0 : Int32).toInt = 0 by decide) c_78
                      refine lv_iload hx hb dX4_fewest_89 (lv_at hl 4 rfl) ?_
                      refine lv_goto (tgt := 95) hx hb dX4_fewest_91 (by decide) ?_
                      exact ret_i (post := (fun (r : Int32) (u : (Nat → Int32) × (Nat → Int32) × (Nat → Int32) × (Nat → Int32)) => ByOk u.2.1)) (W1 := (fun u => [(h0, .inr (4, [.int ype, .int ytk, .ref ywi, .ref yki, .ref yse, .ref yno, .ref yrh, .ref yrw, .ref yrk, .ref yrt, .int yrp, .int yrq, .ref ytx, .int yle, .int yat, .int yfa, .ref yby, .ref ylo, .ref yhi, .int yac, .int ynx, .ref yro, .ref ygl, .int ysn, .ref yso, .ref ysp, .ref ysw, .long ysd, .ref yik, .ref ykp])), (yno, .inl (cI, 96, .inl u.1)), (yki, .inl (cI, 5, .inl Fki)), (yby, .inl (cI, 5, .inl u.2.1)), (ylo, .inl (cI, 5, .inl u.2.2.1)), (yhi, .inl (cI, 5, .inl u.2.2.2))])) (Gno_69, Gby_70, Glo_71, Ghi_72) hx hb hr hlocks rfl hQ hK hP hD hS ⟨by decide, by decide⟩ dX4_fewest_95 PBY
          exact LOOP_21 _ 0 Gno_13 Gby_14 Glo_15 Ghi_16 _ _ _ (Nat.lt_succ_self _) (by decide) (PBY) hP hD hS (lv_sub hl [1, 2, 3, 4, 0] rfl)
        · have tc_20 := b_ne rfl (show ((-9) : Int32).toInt = -9 by decide) c_20
          refine lv_iconst (v := 0) hx hb dX4_fewest_41 (by decide) ?_
          exact ret_i (post := (fun (r : Int32) (u : (Nat → Int32) × (Nat → Int32) × (Nat → Int32) × (Nat → Int32)) => ByOk u.2.1)) (W1 := (fun u => [(h0, .inr (4, [.int ype, .int ytk, .ref ywi, .ref yki, .ref yse, .ref yno, .ref yrh, .ref yrw, .ref yrk, .ref yrt, .int yrp, .int yrq, .ref ytx, .int yle, .int yat, .int yfa, .ref yby, .ref ylo, .ref yhi, .int yac, .int ynx, .ref yro, .ref ygl, .int ysn, .ref yso, .ref ysp, .ref ysw, .long ysd, .ref yik, .ref ykp])), (yno, .inl (cI, 96, .inl u.1)), (yki, .inl (cI, 5, .inl Fki)), (yby, .inl (cI, 5, .inl u.2.1)), (ylo, .inl (cI, 5, .inl u.2.2.1)), (yhi, .inl (cI, 5, .inl u.2.2.2))])) (Gno_13, Gby_14, Glo_15, Ghi_16) hx hb hr hlocks rfl hQ hK hP hD hS ⟨by decide, by decide⟩ dX4_fewest_42 PBY
      · have tc_9 := b_eq rfl rfl c_9
        refine lv_bipush (v := (-2)) hx hb dX4_fewest_23 (by decide) ?_
        exact ret_i (post := (fun (r : Int32) (u : (Nat → Int32) × (Nat → Int32) × (Nat → Int32) × (Nat → Int32)) => ByOk u.2.1)) (W1 := (fun u => [(h0, .inr (4, [.int ype, .int ytk, .ref ywi, .ref yki, .ref yse, .ref yno, .ref yrh, .ref yrw, .ref yrk, .ref yrt, .int yrp, .int yrq, .ref ytx, .int yle, .int yat, .int yfa, .ref yby, .ref ylo, .ref yhi, .int yac, .int ynx, .ref yro, .ref ygl, .int ysn, .ref yso, .ref ysp, .ref ysw, .long ysd, .ref yik, .ref ykp])), (yno, .inl (cI, 96, .inl u.1)), (yki, .inl (cI, 5, .inl Fki)), (yby, .inl (cI, 5, .inl u.2.1)), (ylo, .inl (cI, 5, .inl u.2.2.1)), (yhi, .inl (cI, 5, .inl u.2.2.2))])) (Fno, Fby, Flo, Fhi) hx hb hr hlocks rfl hQ hK hP hD hS ⟨by decide, by decide⟩ dX4_fewest_25 hBy
    · have tc_8 := b_eq rfl (show (0 : Int32).toInt = 0 by decide) c_8
      refine lv_iconst (v := (-1)) hx hb dX4_fewest_16 (by decide) ?_
      exact ret_i (post := (fun (r : Int32) (u : (Nat → Int32) × (Nat → Int32) × (Nat → Int32) × (Nat → Int32)) => ByOk u.2.1)) (W1 := (fun u => [(h0, .inr (4, [.int ype, .int ytk, .ref ywi, .ref yki, .ref yse, .ref yno, .ref yrh, .ref yrw, .ref yrk, .ref yrt, .int yrp, .int yrq, .ref ytx, .int yle, .int yat, .int yfa, .ref yby, .ref ylo, .ref yhi, .int yac, .int ynx, .ref yro, .ref ygl, .int ysn, .ref yso, .ref ysp, .ref ysw, .long ysd, .ref yik, .ref ykp])), (yno, .inl (cI, 96, .inl u.1)), (yki, .inl (cI, 5, .inl Fki)), (yby, .inl (cI, 5, .inl u.2.1)), (ylo, .inl (cI, 5, .inl u.2.2.1)), (yhi, .inl (cI, 5, .inl u.2.2.2))])) (Fno, Fby, Flo, Fhi) hx hb hr hlocks rfl hQ hK hP hD hS ⟨by decide, by decide⟩ dX4_fewest_17 hBy

set_option maxHeartbeats 600000 in
set_option maxRecDepth 100000 in
theorem c_X4_falls (l : Launch) (D : va_G) (cI cZ cM : ClassId) (h0 : Nat) (n : Int32) (ype : Int32) (ytk : Int32) (ywi : Nat) (yki : Nat) (yse : Nat) (yno : Nat) (yrh : Nat) (yrw : Nat) (yrk : Nat) (yrt : Nat) (yrp : Int32) (yrq : Int32) (ytx : Nat) (yle : Int32) (yat : Int32) (yfa : Int32) (yby : Nat) (ylo : Nat) (yhi : Nat) (yac : Int32) (ynx : Int32) (yro : Nat) (ygl : Nat) (ysn : Int32) (yso : Nat) (ysp : Nat) (ysw : Nat) (ysd : Int64) (yik : Nat) (ykp : Nat) (Fno : Nat → Int32) (Fki : Nat → Int32) (Fby : Nat → Int32) (Flo : Nat → Int32) (Fhi : Nat → Int32) (sz : Nat) (hBy : ByOk Fby) (h_ype : 0 ≤ ype.toInt ∧ ype.toInt ≤ 5) (h_ytk : 0 ≤ ytk.toInt ∧ ytk.toInt ≤ 6) : Ci l yX4_falls wsX4_falls ({ frames := 3, cells := 0, slots := 0, locals := 78 } : Room) D cI cZ cM [.ref h0, .int n] [(h0, .inr (4, [.int ype, .int ytk, .ref ywi, .ref yki, .ref yse, .ref yno, .ref yrh, .ref yrw, .ref yrk, .ref yrt, .int yrp, .int yrq, .ref ytx, .int yle, .int yat, .int yfa, .ref yby, .ref ylo, .ref yhi, .int yac, .int ynx, .ref yro, .ref ygl, .int ysn, .ref yso, .ref ysp, .ref ysw, .long ysd, .ref yik, .ref ykp])), (yno, .inl (cI, 96, .inl Fno)), (yki, .inl (cI, 5, .inl Fki)), (yby, .inl (cI, 5, .inl Fby)), (ylo, .inl (cI, 5, .inl Flo)), (yhi, .inl (cI, 5, .inl Fhi))] sz (fun (r : Int32) (u : (Nat → Int32) × (Nat → Int32) × (Nat → Int32) × (Nat → Int32)) => ByOk u.2.1) (fun u => [(h0, .inr (4, [.int ype, .int ytk, .ref ywi, .ref yki, .ref yse, .ref yno, .ref yrh, .ref yrw, .ref yrk, .ref yrt, .int yrp, .int yrq, .ref ytx, .int yle, .int yat, .int yfa, .ref yby, .ref ylo, .ref yhi, .int yac, .int ynx, .ref yro, .ref ygl, .int ysn, .ref yso, .ref ysp, .ref ysw, .long ysd, .ref yik, .ref ykp])), (yno, .inl (cI, 96, .inl u.1)), (yki, .inl (cI, 5, .inl Fki)), (yby, .inl (cI, 5, .inl u.2.1)), (ylo, .inl (cI, 5, .inl u.2.2.1)), (yhi, .inl (cI, 5, .inl u.2.2.2))]) 0 0 := by
  refine begins (l := l) (y := yX4_falls) (ws := wsX4_falls) (av := [.ref h0, .int n]) (Qc := fun A => va_Qi (fun (r : Int32) (u : (Nat → Int32) × (Nat → Int32) × (Nat → Int32) × (Nat → Int32)) => ByOk u.2.1) (fun u => Wd D cI cZ cM A ((fun u => [(h0, .inr (4, [.int ype, .int ytk, .ref ywi, .ref yki, .ref yse, .ref yno, .ref yrh, .ref yrw, .ref yrk, .ref yrt, .int yrp, .int yrq, .ref ytx, .int yle, .int yat, .int yfa, .ref yby, .ref ylo, .ref yhi, .int yac, .int ynx, .ref yro, .ref ygl, .int ysn, .ref yso, .ref ysp, .ref ysw, .long ysd, .ref yik, .ref ykp])), (yno, .inl (cI, 96, .inl u.1)), (yki, .inl (cI, 5, .inl Fki)), (yby, .inl (cI, 5, .inl u.2.1)), (ylo, .inl (cI, 5, .inl u.2.2.1)), (yhi, .inl (cI, 5, .inl u.2.2.2))]) u)) A) cX4_falls 3 (some .int) (by decide) rfl (Nat.le_of_ble_eq_true rfl) ?_
  intro p e s m args below meth c R Q A ls hBd hR hQ hA hS hK hP hD hl
  obtain ⟨hx, hb, hr, hts, hown, hlocks, hin, hml⟩ := hBd
  have hl : lv_has ls 3 [(0, .ref h0), (1, .int n)] := hl
  have iX4 : ∀ w ∈ wsX40, w ∈ wsX4_falls := fun _ h => List.mem_cons_of_mem _ (List.mem_append_right _ h)
  obtain ⟨h_ypea, h_ypeb⟩ := h_ype
  obtain ⟨h_ytka, h_ytkb⟩ := h_ytk
  refine lv_aload_n hx hb dX4_falls_0 rfl (lv_at hl 0 rfl) ?_
  refine lv_iload_n hx hb dX4_falls_1 rfl (lv_at hl 1 rfl) ?_
  refine cV_i (As := [.int n]) (rest := []) ⟨hx, hb, hml, hown, hts⟩ (c_X4_isTicket l D cI cZ cM h0 n ype ytk ywi yki yse yno yrh yrw yrk yrt yrp yrq ytx yle yat yfa yby ylo yhi yac ynx yro ygl ysn yso ysp ysw ysd yik ykp _ (show 0 ≤ ytk.toInt ∧ ytk.toInt ≤ 6 by omega)) (cwV 1 hts gX4_falls_X4_isTicket rfl rfl rfl (by decide +kernel) ⟨by rw [hR]; decide, by rw [hR]; decide⟩) hK hP hD hS hA [0] [1, 2, 3, 4, 5] rfl rfl (by decide) (by decide) (by decide) rfl 0 rfl hl.1 rfl rfl (Nat.le_of_ble_eq_true rfl) dX4_falls_2 ⟨by rw [hR]; decide, by rw [hR]; decide⟩ (fun r_1 u_2 H locs hw hP hD hS => ?_)
  have hP : va_P D vwCl [(h0, .inr (4, [.int ype, .int ytk, .ref ywi, .ref yki, .ref yse, .ref yno, .ref yrh, .ref yrw, .ref yrk, .ref yrt, .int yrp, .int yrq, .ref ytx, .int yle, .int yat, .int yfa, .ref yby, .ref ylo, .ref yhi, .int yac, .int ynx, .ref yro, .ref ygl, .int ysn, .ref yso, .ref ysp, .ref ysw, .long ysd, .ref yik, .ref ykp])), (yno, .inl (cI, 96, .inl Fno)), (yki, .inl (cI, 5, .inl Fki)), (yby, .inl (cI, 5, .inl Fby)), (ylo, .inl (cI, 5, .inl Flo)), (yhi, .inl (cI, 5, .inl Fhi))] H := hP.sub [5, 0, 1, 2, 3, 4] rfl
  have hD : va_D A [(h0, .inr (4, [.int ype, .int ytk, .ref ywi, .ref yki, .ref yse, .ref yno, .ref yrh, .ref yrw, .ref yrk, .ref yrt, .int yrp, .int yrq, .ref ytx, .int yle, .int yat, .int yfa, .ref yby, .ref ylo, .ref yhi, .int yac, .int ynx, .ref yro, .ref ygl, .int ysn, .ref yso, .ref ysp, .ref ysw, .long ysd, .ref yik, .ref ykp])), (yno, .inl (cI, 96, .inl Fno)), (yki, .inl (cI, 5, .inl Fki)), (yby, .inl (cI, 5, .inl Fby)), (ylo, .inl (cI, 5, .inl Flo)), (yhi, .inl (cI, 5, .inl Fhi))] := hD.sub [5, 0, 1, 2, 3, 4] (by decide) rfl
  refine W.widen (k := 0) (n := 0) (Nat.le_refl _) (Nat.le_refl _) ?_
  have hw : (r_1.toInt = 1 ∧ 0 ≤ n.toInt ∧ n.toInt < ytk.toInt) ∨ (r_1.toInt = 0 ∧ (n.toInt < 0 ∨ ytk.toInt ≤ n.toInt)) := hw
  have hw_3 := hw
  refine lv_if_ne (tgt := 10) hx hb dX4_falls_5 (by decide) (fun c_4 => ?_) (fun c_4 => ?_)
  · have tc_4 := b_ne rfl (show (0 : Int32).toInt = 0 by decide) c_4
    refine lv_aload_n hx hb dX4_falls_10 rfl (lv_at hl 0 rfl) ?_
    refine cV_v (As := []) (rest := []) ⟨hx, hb, hml, hown, hts⟩ (c_X4_layTrial l D cI cZ cM h0 ype ytk ywi yki yse yno yrh yrw yrk yrt yrp yrq ytx yle yat yfa yby ylo yhi yac ynx yro ygl ysn yso ysp ysw ysd yik ykp Fno _ ) (cwV 0 hts gX4_falls_X4_layTrial rfl rfl rfl (by decide +kernel) ⟨by rw [hR]; decide, by rw [hR]; decide⟩) hK hP hD hS hA [0, 1] [2, 3, 4, 5] rfl rfl (by decide) (by decide) (by decide) rfl 0 rfl hl.1 rfl rfl (Nat.le_of_ble_eq_true rfl) dX4_falls_11 ⟨by rw [hR]; decide, by rw [hR]; decide⟩ (fun u_7 H locs hw hP hD hS => ?_)
    obtain ⟨Gno_5, rfl⟩ : ∃ z, z = u_7 := ⟨_, rfl⟩
    have hP : va_P D vwCl [(h0, .inr (4, [.int ype, .int ytk, .ref ywi, .ref yki, .ref yse, .ref yno, .ref yrh, .ref yrw, .ref yrk, .ref yrt, .int yrp, .int yrq, .ref ytx, .int yle, .int yat, .int yfa, .ref yby, .ref ylo, .ref yhi, .int yac, .int ynx, .ref yro, .ref ygl, .int ysn, .ref yso, .ref ysp, .ref ysw, .long ysd, .ref yik, .ref ykp])), (yno, .inl (cI, 96, .inl Gno_5)), (yki, .inl (cI, 5, .inl Fki)), (yby, .inl (cI, 5, .inl Fby)), (ylo, .inl (cI, 5, .inl Flo)), (yhi, .inl (cI, 5, .inl Fhi))] H := hP.sub [4, 5, 0, 1, 2, 3] rfl
    have hD : va_D A [(h0, .inr (4, [.int ype, .int ytk, .ref ywi, .ref yki, .ref yse, .ref yno, .ref yrh, .ref yrw, .ref yrk, .ref yrt, .int yrp, .int yrq, .ref ytx, .int yle, .int yat, .int yfa, .ref yby, .ref ylo, .ref yhi, .int yac, .int ynx, .ref yro, .ref ygl, .int ysn, .ref yso, .ref ysp, .ref ysw, .long ysd, .ref yik, .ref ykp])), (yno, .inl (cI, 96, .inl Gno_5)), (yki, .inl (cI, 5, .inl Fki)), (yby, .inl (cI, 5, .inl Fby)), (ylo, .inl (cI, 5, .inl Flo)), (yhi, .inl (cI, 5, .inl Fhi))] := hD.sub [4, 5, 0, 1, 2, 3] (by decide) rfl
    refine W.widen (k := 0) (n := 0) (Nat.le_refl _) (Nat.le_refl _) ?_
    refine lv_aload_n hx hb dX4_falls_14 rfl (lv_at hl 0 rfl) ?_
    refine lv_aload_n hx hb dX4_falls_15 rfl (lv_at hl 0 rfl) ?_
    refine va_get (D := D) (ci := 4) (v := .int ytk) (C := RX4) (T := TX4) (N := 30) hx hb hts iX4 hown hK hP 0 rfl rfl 1 (by decide) (hts (.fieldLink RX4 101 "PunchedTicketModel" "tickets" "I") (List.mem_of_getElem? (i := 1) rfl)) (fun _ h9 => h9) rfl dX4_falls_16 ?_
    refine cV_i (As := [.int ytk]) (rest := []) ⟨hx, hb, hml, hown, hts⟩ (c_X4_passAll l D cI cZ cM h0 ytk ype ytk ywi yki yse yno yrh yrw yrk yrt yrp yrq ytx yle yat yfa yby ylo yhi yac ynx yro ygl ysn yso ysp ysw ysd yik ykp Gno_5 Fki Fby Flo Fhi _ hBy (show 0 ≤ ytk.toInt ∧ ytk.toInt ≤ 7 by omega) (show 0 ≤ ype.toInt ∧ ype.toInt ≤ 5 by omega)) (cwV 1 hts gX4_falls_X4_passAll rfl rfl rfl (by decide +kernel) ⟨by rw [hR]; decide, by rw [hR]; decide⟩) hK hP hD hS hA [0, 1, 2, 3, 4, 5] [] rfl rfl (by decide) (by decide) (by decide) rfl 0 rfl hl.1 rfl rfl (Nat.le_of_ble_eq_true rfl) dX4_falls_19 ⟨by rw [hR]; decide, by rw [hR]; decide⟩ (fun r_12 u_13 H locs hw hP hD hS => ?_)
    obtain ⟨Gno_8, Gby_9, Glo_10, Ghi_11⟩ := u_13
    have hP : va_P D vwCl [(h0, .inr (4, [.int ype, .int ytk, .ref ywi, .ref yki, .ref yse, .ref yno, .ref yrh, .ref yrw, .ref yrk, .ref yrt, .int yrp, .int yrq, .ref ytx, .int yle, .int yat, .int yfa, .ref yby, .ref ylo, .ref yhi, .int yac, .int ynx, .ref yro, .ref ygl, .int ysn, .ref yso, .ref ysp, .ref ysw, .long ysd, .ref yik, .ref ykp])), (yno, .inl (cI, 96, .inl Gno_8)), (yki, .inl (cI, 5, .inl Fki)), (yby, .inl (cI, 5, .inl Gby_9)), (ylo, .inl (cI, 5, .inl Glo_10)), (yhi, .inl (cI, 5, .inl Ghi_11))] H := hP.sub [0, 1, 2, 3, 4, 5] rfl
    have hD : va_D A [(h0, .inr (4, [.int ype, .int ytk, .ref ywi, .ref yki, .ref yse, .ref yno, .ref yrh, .ref yrw, .ref yrk, .ref yrt, .int yrp, .int yrq, .ref ytx, .int yle, .int yat, .int yfa, .ref yby, .ref ylo, .ref yhi, .int yac, .int ynx, .ref yro, .ref ygl, .int ysn, .ref yso, .ref ysp, .ref ysw, .long ysd, .ref yik, .ref ykp])), (yno, .inl (cI, 96, .inl Gno_8)), (yki, .inl (cI, 5, .inl Fki)), (yby, .inl (cI, 5, .inl Gby_9)), (ylo, .inl (cI, 5, .inl Glo_10)), (yhi, .inl (cI, 5, .inl Ghi_11))] := hD.sub [0, 1, 2, 3, 4, 5] (by decide) rfl
    refine W.widen (k := 0) (n := 0) (Nat.le_refl _) (Nat.le_refl _) ?_
    have hw : ByOk Gby_9 := hw
    have hw_14 := hw
    have PBY := hw_14
    refine lv_istore_n (lv' := [(2, .int r_12), (0, .ref h0), (1, .int n)]) hx hb dX4_falls_22 rfl hl (by decide) rfl (fun ls hl => ?_)
    refine lv_aload_n hx hb dX4_falls_23 rfl (lv_at hl 1 rfl) ?_
    refine cV_v (As := []) (rest := []) ⟨hx, hb, hml, hown, hts⟩ (c_X4_layTrial l D cI cZ cM h0 ype ytk ywi yki yse yno yrh yrw yrk yrt yrp yrq ytx yle yat yfa yby ylo yhi yac ynx yro ygl ysn yso ysp ysw ysd yik ykp Gno_8 _ ) (cwV 0 hts gX4_falls_X4_layTrial rfl rfl rfl (by decide +kernel) ⟨by rw [hR]; decide, by rw [hR]; decide⟩) hK hP hD hS hA [0, 1] [2, 3, 4, 5] rfl rfl (by decide) (by decide) (by decide) rfl 0 rfl hl.1 rfl rfl (Nat.le_of_ble_eq_true rfl) dX4_falls_24 ⟨by rw [hR]; decide, by rw [hR]; decide⟩ (fun u_17 H locs hw hP hD hS => ?_)
    obtain ⟨Gno_15, rfl⟩ : ∃ z, z = u_17 := ⟨_, rfl⟩
    have hP : va_P D vwCl [(h0, .inr (4, [.int ype, .int ytk, .ref ywi, .ref yki, .ref yse, .ref yno, .ref yrh, .ref yrw, .ref yrk, .ref yrt, .int yrp, .int yrq, .ref ytx, .int yle, .int yat, .int yfa, .ref yby, .ref ylo, .ref yhi, .int yac, .int ynx, .ref yro, .ref ygl, .int ysn, .ref yso, .ref ysp, .ref ysw, .long ysd, .ref yik, .ref ykp])), (yno, .inl (cI, 96, .inl Gno_15)), (yki, .inl (cI, 5, .inl Fki)), (yby, .inl (cI, 5, .inl Gby_9)), (ylo, .inl (cI, 5, .inl Glo_10)), (yhi, .inl (cI, 5, .inl Ghi_11))] H := hP.sub [4, 5, 0, 1, 2, 3] rfl
    have hD : va_D A [(h0, .inr (4, [.int ype, .int ytk, .ref ywi, .ref yki, .ref yse, .ref yno, .ref yrh, .ref yrw, .ref yrk, .ref yrt, .int yrp, .int yrq, .ref ytx, .int yle, .int yat, .int yfa, .ref yby, .ref ylo, .ref yhi, .int yac, .int ynx, .ref yro, .ref ygl, .int ysn, .ref yso, .ref ysp, .ref ysw, .long ysd, .ref yik, .ref ykp])), (yno, .inl (cI, 96, .inl Gno_15)), (yki, .inl (cI, 5, .inl Fki)), (yby, .inl (cI, 5, .inl Gby_9)), (ylo, .inl (cI, 5, .inl Glo_10)), (yhi, .inl (cI, 5, .inl Ghi_11))] := hD.sub [4, 5, 0, 1, 2, 3] (by decide) rfl
    refine W.widen (k := 0) (n := 0) (Nat.le_refl _) (Nat.le_refl _) ?_
    refine lv_aload_n hx hb dX4_falls_27 rfl (lv_at hl 1 rfl) ?_
    refine lv_iconst (v := 1) hx hb dX4_falls_28 (by decide) ?_
    refine lv_iload_n hx hb dX4_falls_29 rfl (lv_at hl 2 rfl) ?_
    refine lv_ishl hx hb dX4_falls_30 ?_
    refine lv_topi (fun v_18 ev_18 => ?_)
    refine cV_v (As := [.int v_18]) (rest := []) ⟨hx, hb, hml, hown, hts⟩ (c_X4_loseTrial l D cI cZ cM h0 v_18 ype ytk ywi yki yse yno yrh yrw yrk yrt yrp yrq ytx yle yat yfa yby ylo yhi yac ynx yro ygl ysn yso ysp ysw ysd yik ykp Gno_15 _ (show 0 ≤ ytk.toInt ∧ ytk.toInt ≤ 6 by omega)) (cwV 1 hts gX4_falls_X4_loseTrial rfl rfl rfl (by decide +kernel) ⟨by rw [hR]; decide, by rw [hR]; decide⟩) hK hP hD hS hA [0, 1] [2, 3, 4, 5] rfl rfl (by decide) (by decide) (by decide) rfl 0 rfl hl.1 rfl rfl (Nat.le_of_ble_eq_true rfl) dX4_falls_31 ⟨by rw [hR]; decide, by rw [hR]; decide⟩ (fun u_21 H locs hw hP hD hS => ?_)
    obtain ⟨Gno_19, rfl⟩ : ∃ z, z = u_21 := ⟨_, rfl⟩
    have hP : va_P D vwCl [(h0, .inr (4, [.int ype, .int ytk, .ref ywi, .ref yki, .ref yse, .ref yno, .ref yrh, .ref yrw, .ref yrk, .ref yrt, .int yrp, .int yrq, .ref ytx, .int yle, .int yat, .int yfa, .ref yby, .ref ylo, .ref yhi, .int yac, .int ynx, .ref yro, .ref ygl, .int ysn, .ref yso, .ref ysp, .ref ysw, .long ysd, .ref yik, .ref ykp])), (yno, .inl (cI, 96, .inl Gno_19)), (yki, .inl (cI, 5, .inl Fki)), (yby, .inl (cI, 5, .inl Gby_9)), (ylo, .inl (cI, 5, .inl Glo_10)), (yhi, .inl (cI, 5, .inl Ghi_11))] H := hP.sub [4, 5, 0, 1, 2, 3] rfl
    have hD : va_D A [(h0, .inr (4, [.int ype, .int ytk, .ref ywi, .ref yki, .ref yse, .ref yno, .ref yrh, .ref yrw, .ref yrk, .ref yrt, .int yrp, .int yrq, .ref ytx, .int yle, .int yat, .int yfa, .ref yby, .ref ylo, .ref yhi, .int yac, .int ynx, .ref yro, .ref ygl, .int ysn, .ref yso, .ref ysp, .ref ysw, .long ysd, .ref yik, .ref ykp])), (yno, .inl (cI, 96, .inl Gno_19)), (yki, .inl (cI, 5, .inl Fki)), (yby, .inl (cI, 5, .inl Gby_9)), (ylo, .inl (cI, 5, .inl Glo_10)), (yhi, .inl (cI, 5, .inl Ghi_11))] := hD.sub [4, 5, 0, 1, 2, 3] (by decide) rfl
    refine W.widen (k := 0) (n := 0) (Nat.le_refl _) (Nat.le_refl _) ?_
    refine lv_bipush (v := 100) hx hb dX4_falls_34 (by decide) ?_
    refine lv_iload_n hx hb dX4_falls_36 rfl (lv_at hl 0 rfl) ?_
    refine lv_iadd hx hb dX4_falls_37 ?_
    refine lv_topi (fun v_22 ev_22 => ?_)
    refine lv_aload_n hx hb dX4_falls_38 rfl (lv_at hl 1 rfl) ?_
    refine lv_aload_n hx hb dX4_falls_39 rfl (lv_at hl 1 rfl) ?_
    refine va_get (D := D) (ci := 4) (v := .int ytk) (C := RX4) (T := TX4) (N := 30) hx hb hts iX4 hown hK hP 0 rfl rfl 1 (by decide) (hts (.fieldLink RX4 101 "PunchedTicketModel" "tickets" "I") (List.mem_of_getElem? (i := 1) rfl)) (fun _ h9 => h9) rfl dX4_falls_40 ?_
    refine cV_i (As := [.int ytk]) (rest := [.int v_22]) ⟨hx, hb, hml, hown, hts⟩ (c_X4_passAll l D cI cZ cM h0 ytk ype ytk ywi yki yse yno yrh yrw yrk yrt yrp yrq ytx yle yat yfa yby ylo yhi yac ynx yro ygl ysn yso ysp ysw ysd yik ykp Gno_19 Fki Gby_9 Glo_10 Ghi_11 _ PBY (show 0 ≤ ytk.toInt ∧ ytk.toInt ≤ 7 by omega) (show 0 ≤ ype.toInt ∧ ype.toInt ≤ 5 by omega)) (cwV 1 hts gX4_falls_X4_passAll rfl rfl rfl (by decide +kernel) ⟨by rw [hR]; decide, by rw [hR]; decide⟩) hK hP hD hS hA [0, 1, 2, 3, 4, 5] [] rfl rfl (by decide) (by decide) (by decide) rfl 0 rfl hl.1 rfl rfl (Nat.le_of_ble_eq_true rfl) dX4_falls_43 ⟨by rw [hR]; decide, by rw [hR]; decide⟩ (fun r_27 u_28 H locs hw hP hD hS => ?_)
    obtain ⟨Gno_23, Gby_24, Glo_25, Ghi_26⟩ := u_28
    have hP : va_P D vwCl [(h0, .inr (4, [.int ype, .int ytk, .ref ywi, .ref yki, .ref yse, .ref yno, .ref yrh, .ref yrw, .ref yrk, .ref yrt, .int yrp, .int yrq, .ref ytx, .int yle, .int yat, .int yfa, .ref yby, .ref ylo, .ref yhi, .int yac, .int ynx, .ref yro, .ref ygl, .int ysn, .ref yso, .ref ysp, .ref ysw, .long ysd, .ref yik, .ref ykp])), (yno, .inl (cI, 96, .inl Gno_23)), (yki, .inl (cI, 5, .inl Fki)), (yby, .inl (cI, 5, .inl Gby_24)), (ylo, .inl (cI, 5, .inl Glo_25)), (yhi, .inl (cI, 5, .inl Ghi_26))] H := hP.sub [0, 1, 2, 3, 4, 5] rfl
    have hD : va_D A [(h0, .inr (4, [.int ype, .int ytk, .ref ywi, .ref yki, .ref yse, .ref yno, .ref yrh, .ref yrw, .ref yrk, .ref yrt, .int yrp, .int yrq, .ref ytx, .int yle, .int yat, .int yfa, .ref yby, .ref ylo, .ref yhi, .int yac, .int ynx, .ref yro, .ref ygl, .int ysn, .ref yso, .ref ysp, .ref ysw, .long ysd, .ref yik, .ref ykp])), (yno, .inl (cI, 96, .inl Gno_23)), (yki, .inl (cI, 5, .inl Fki)), (yby, .inl (cI, 5, .inl Gby_24)), (ylo, .inl (cI, 5, .inl Glo_25)), (yhi, .inl (cI, 5, .inl Ghi_26))] := hD.sub [0, 1, 2, 3, 4, 5] (by decide) rfl
    refine W.widen (k := 0) (n := 0) (Nat.le_refl _) (Nat.le_refl _) ?_
    have hw : ByOk Gby_24 := hw
    have hw_29 := hw
    have PBZ := hw_29
    refine lv_isub hx hb dX4_falls_46 ?_
    refine lv_topi (fun v_30 ev_30 => ?_)
    exact ret_i (post := (fun (r : Int32) (u : (Nat → Int32) × (Nat → Int32) × (Nat → Int32) × (Nat → Int32)) => ByOk u.2.1)) (W1 := (fun u => [(h0, .inr (4, [.int ype, .int ytk, .ref ywi, .ref yki, .ref yse, .ref yno, .ref yrh, .ref yrw, .ref yrk, .ref yrt, .int yrp, .int yrq, .ref ytx, .int yle, .int yat, .int yfa, .ref yby, .ref ylo, .ref yhi, .int yac, .int ynx, .ref yro, .ref ygl, .int ysn, .ref yso, .ref ysp, .ref ysw, .long ysd, .ref yik, .ref ykp])), (yno, .inl (cI, 96, .inl u.1)), (yki, .inl (cI, 5, .inl Fki)), (yby, .inl (cI, 5, .inl u.2.1)), (ylo, .inl (cI, 5, .inl u.2.2.1)), (yhi, .inl (cI, 5, .inl u.2.2.2))])) (Gno_23, Gby_24, Glo_25, Ghi_26) hx hb hr hlocks rfl hQ hK hP hD hS ⟨by decide, by decide⟩ dX4_falls_47 PBZ
  · have tc_4 := b_eq rfl (show (0 : Int32).toInt = 0 by decide) c_4
    refine lv_iconst (v := (-1)) hx hb dX4_falls_8 (by decide) ?_
    exact ret_i (post := (fun (r : Int32) (u : (Nat → Int32) × (Nat → Int32) × (Nat → Int32) × (Nat → Int32)) => ByOk u.2.1)) (W1 := (fun u => [(h0, .inr (4, [.int ype, .int ytk, .ref ywi, .ref yki, .ref yse, .ref yno, .ref yrh, .ref yrw, .ref yrk, .ref yrt, .int yrp, .int yrq, .ref ytx, .int yle, .int yat, .int yfa, .ref yby, .ref ylo, .ref yhi, .int yac, .int ynx, .ref yro, .ref ygl, .int ysn, .ref yso, .ref ysp, .ref ysw, .long ysd, .ref yik, .ref ykp])), (yno, .inl (cI, 96, .inl u.1)), (yki, .inl (cI, 5, .inl Fki)), (yby, .inl (cI, 5, .inl u.2.1)), (ylo, .inl (cI, 5, .inl u.2.2.1)), (yhi, .inl (cI, 5, .inl u.2.2.2))])) (Fno, Fby, Flo, Fhi) hx hb hr hlocks rfl hQ hK hP hD hS ⟨by decide, by decide⟩ dX4_falls_9 hBy

set_option maxHeartbeats 600000 in
set_option maxRecDepth 100000 in
theorem c_X4_bestChange (l : Launch) (D : va_G) (cI cZ cM : ClassId) (h0 : Nat) (ype : Int32) (ytk : Int32) (ywi : Nat) (yki : Nat) (yse : Nat) (yno : Nat) (yrh : Nat) (yrw : Nat) (yrk : Nat) (yrt : Nat) (yrp : Int32) (yrq : Int32) (ytx : Nat) (yle : Int32) (yat : Int32) (yfa : Int32) (yby : Nat) (ylo : Nat) (yhi : Nat) (yac : Int32) (ynx : Int32) (yro : Nat) (ygl : Nat) (ysn : Int32) (yso : Nat) (ysp : Nat) (ysw : Nat) (ysd : Int64) (yik : Nat) (ykp : Nat) (Fno : Nat → Int32) (Fki : Nat → Int32) (Fby : Nat → Int32) (Flo : Nat → Int32) (Fhi : Nat → Int32) (Fwi : Nat → Int32) (sz : Nat) (hBy : ByOk Fby) (h_ype : 0 ≤ ype.toInt ∧ ype.toInt ≤ 5) (h_ytk : 0 ≤ ytk.toInt ∧ ytk.toInt ≤ 6) : Ci l yX4_bestChange wsX4_bestChange ({ frames := 5, cells := 0, slots := 0, locals := 119 } : Room) D cI cZ cM [.ref h0] [(h0, .inr (4, [.int ype, .int ytk, .ref ywi, .ref yki, .ref yse, .ref yno, .ref yrh, .ref yrw, .ref yrk, .ref yrt, .int yrp, .int yrq, .ref ytx, .int yle, .int yat, .int yfa, .ref yby, .ref ylo, .ref yhi, .int yac, .int ynx, .ref yro, .ref ygl, .int ysn, .ref yso, .ref ysp, .ref ysw, .long ysd, .ref yik, .ref ykp])), (yno, .inl (cI, 96, .inl Fno)), (yki, .inl (cI, 5, .inl Fki)), (yby, .inl (cI, 5, .inl Fby)), (ylo, .inl (cI, 5, .inl Flo)), (yhi, .inl (cI, 5, .inl Fhi)), (ywi, .inl (cI, 5, .inl Fwi))] sz (fun (r : Int32) (u : (Nat → Int32) × (Nat → Int32) × (Nat → Int32) × (Nat → Int32)) => ByOk u.2.1) (fun u => [(h0, .inr (4, [.int ype, .int ytk, .ref ywi, .ref yki, .ref yse, .ref yno, .ref yrh, .ref yrw, .ref yrk, .ref yrt, .int yrp, .int yrq, .ref ytx, .int yle, .int yat, .int yfa, .ref yby, .ref ylo, .ref yhi, .int yac, .int ynx, .ref yro, .ref ygl, .int ysn, .ref yso, .ref ysp, .ref ysw, .long ysd, .ref yik, .ref ykp])), (yno, .inl (cI, 96, .inl u.1)), (yki, .inl (cI, 5, .inl Fki)), (yby, .inl (cI, 5, .inl u.2.1)), (ylo, .inl (cI, 5, .inl u.2.2.1)), (yhi, .inl (cI, 5, .inl u.2.2.2)), (ywi, .inl (cI, 5, .inl Fwi))]) 0 0 := by
  refine begins (l := l) (y := yX4_bestChange) (ws := wsX4_bestChange) (av := [.ref h0]) (Qc := fun A => va_Qi (fun (r : Int32) (u : (Nat → Int32) × (Nat → Int32) × (Nat → Int32) × (Nat → Int32)) => ByOk u.2.1) (fun u => Wd D cI cZ cM A ((fun u => [(h0, .inr (4, [.int ype, .int ytk, .ref ywi, .ref yki, .ref yse, .ref yno, .ref yrh, .ref yrw, .ref yrk, .ref yrt, .int yrp, .int yrq, .ref ytx, .int yle, .int yat, .int yfa, .ref yby, .ref ylo, .ref yhi, .int yac, .int ynx, .ref yro, .ref ygl, .int ysn, .ref yso, .ref ysp, .ref ysw, .long ysd, .ref yik, .ref ykp])), (yno, .inl (cI, 96, .inl u.1)), (yki, .inl (cI, 5, .inl Fki)), (yby, .inl (cI, 5, .inl u.2.1)), (ylo, .inl (cI, 5, .inl u.2.2.1)), (yhi, .inl (cI, 5, .inl u.2.2.2)), (ywi, .inl (cI, 5, .inl Fwi))]) u)) A) cX4_bestChange 5 (some .int) (by decide) rfl (Nat.le_of_ble_eq_true rfl) ?_
  intro p e s m args below meth c R Q A ls hBd hR hQ hA hS hK hP hD hl
  obtain ⟨hx, hb, hr, hts, hown, hlocks, hin, hml⟩ := hBd
  have hl : lv_has ls 5 [(0, .ref h0)] := hl
  have iX4 : ∀ w ∈ wsX40, w ∈ wsX4_bestChange := fun _ h => List.mem_cons_of_mem _ (List.mem_append_right _ h)
  obtain ⟨h_ypea, h_ypeb⟩ := h_ype
  obtain ⟨h_ytka, h_ytkb⟩ := h_ytk
  refine lv_aload_n hx hb dX4_bestChange_0 rfl (lv_at hl 0 rfl) ?_
  refine cV_i (As := []) (rest := []) ⟨hx, hb, hml, hown, hts⟩ (c_X4_glad l D cI cZ cM h0 ype ytk ywi yki yse yno yrh yrw yrk yrt yrp yrq ytx yle yat yfa yby ylo yhi yac ynx yro ygl ysn yso ysp ysw ysd yik ykp Fno Fki Fby Flo Fhi Fwi _ hBy (show 0 ≤ ype.toInt ∧ ype.toInt ≤ 5 by omega) (show 0 ≤ ytk.toInt ∧ ytk.toInt ≤ 6 by omega)) (cwV 0 hts gX4_bestChange_X4_glad rfl rfl rfl (by decide +kernel) ⟨by rw [hR]; decide, by rw [hR]; decide⟩) hK hP hD hS hA [0, 1, 2, 3, 4, 5, 6] [] rfl rfl (by decide) (by decide) (by decide) rfl 0 rfl hl.1 rfl rfl (Nat.le_of_ble_eq_true rfl) dX4_bestChange_1 ⟨by rw [hR]; decide, by rw [hR]; decide⟩ (fun r_5 u_6 H locs hw hP hD hS => ?_)
  obtain ⟨Gno_1, Gby_2, Glo_3, Ghi_4⟩ := u_6
  have hP : va_P D vwCl [(h0, .inr (4, [.int ype, .int ytk, .ref ywi, .ref yki, .ref yse, .ref yno, .ref yrh, .ref yrw, .ref yrk, .ref yrt, .int yrp, .int yrq, .ref ytx, .int yle, .int yat, .int yfa, .ref yby, .ref ylo, .ref yhi, .int yac, .int ynx, .ref yro, .ref ygl, .int ysn, .ref yso, .ref ysp, .ref ysw, .long ysd, .ref yik, .ref ykp])), (yno, .inl (cI, 96, .inl Gno_1)), (yki, .inl (cI, 5, .inl Fki)), (yby, .inl (cI, 5, .inl Gby_2)), (ylo, .inl (cI, 5, .inl Glo_3)), (yhi, .inl (cI, 5, .inl Ghi_4)), (ywi, .inl (cI, 5, .inl Fwi))] H := hP.sub [0, 1, 2, 3, 4, 5, 6] rfl
  have hD : va_D A [(h0, .inr (4, [.int ype, .int ytk, .ref ywi, .ref yki, .ref yse, .ref yno, .ref yrh, .ref yrw, .ref yrk, .ref yrt, .int yrp, .int yrq, .ref ytx, .int yle, .int yat, .int yfa, .ref yby, .ref ylo, .ref yhi, .int yac, .int ynx, .ref yro, .ref ygl, .int ysn, .ref yso, .ref ysp, .ref ysw, .long ysd, .ref yik, .ref ykp])), (yno, .inl (cI, 96, .inl Gno_1)), (yki, .inl (cI, 5, .inl Fki)), (yby, .inl (cI, 5, .inl Gby_2)), (ylo, .inl (cI, 5, .inl Glo_3)), (yhi, .inl (cI, 5, .inl Ghi_4)), (ywi, .inl (cI, 5, .inl Fwi))] := hD.sub [0, 1, 2, 3, 4, 5, 6] (by decide) rfl
  refine W.widen (k := 0) (n := 0) (Nat.le_refl _) (Nat.le_refl _) ?_
  have hw : ByOk Gby_2 := hw
  have hw_7 := hw
  have PBY := hw_7
  refine lv_istore_n (lv' := [(1, .int r_5), (0, .ref h0)]) hx hb dX4_bestChange_4 rfl hl (by decide) rfl (fun ls hl => ?_)
  refine lv_bipush (v := (-9)) hx hb dX4_bestChange_5 (by decide) ?_
  refine lv_istore_n (lv' := [(2, .int (-9)), (1, .int r_5), (0, .ref h0)]) hx hb dX4_bestChange_7 rfl hl (by decide) rfl (fun ls hl => ?_)
  refine lv_iconst (v := 0) hx hb dX4_bestChange_8 (by decide) ?_
  refine lv_istore_n (lv' := [(3, .int 0), (2, .int (-9)), (1, .int r_5), (0, .ref h0)]) hx hb dX4_bestChange_9 rfl hl (by decide) rfl (fun ls hl => ?_)
  have LOOP_8 : ∀ (fu_8 : Nat) (w1 : Int32) (w2 : Int32) (x3 : Int32) (gn : Nat → Int32) (gb : Nat → Int32) (gl : Nat → Int32) (gh : Nat → Int32) (H : Heap) (locs : List Loc) (ls : Array Slot), (6 - x3.toInt).toNat < fu_8 → (0 ≤ x3.toInt ∧ x3.toInt ≤ 6) → (ByOk gb) → va_P D vwCl [(h0, .inr (4, [.int ype, .int ytk, .ref ywi, .ref yki, .ref yse, .ref yno, .ref yrh, .ref yrw, .ref yrk, .ref yrt, .int yrp, .int yrq, .ref ytx, .int yle, .int yat, .int yfa, .ref yby, .ref ylo, .ref yhi, .int yac, .int ynx, .ref yro, .ref ygl, .int ysn, .ref yso, .ref ysp, .ref ysw, .long ysd, .ref yik, .ref ykp])), (yno, .inl (cI, 96, .inl gn)), (yki, .inl (cI, 5, .inl Fki)), (yby, .inl (cI, 5, .inl gb)), (ylo, .inl (cI, 5, .inl gl)), (yhi, .inl (cI, 5, .inl gh)), (ywi, .inl (cI, 5, .inl Fwi))] H → va_D A [(h0, .inr (4, [.int ype, .int ytk, .ref ywi, .ref yki, .ref yse, .ref yno, .ref yrh, .ref yrw, .ref yrk, .ref yrt, .int yrp, .int yrq, .ref ytx, .int yle, .int yat, .int yfa, .ref yby, .ref ylo, .ref yhi, .int yac, .int ynx, .ref yro, .ref ygl, .int ysn, .ref yso, .ref ysp, .ref ysw, .long ysd, .ref yik, .ref ykp])), (yno, .inl (cI, 96, .inl gn)), (yki, .inl (cI, 5, .inl Fki)), (yby, .inl (cI, 5, .inl gb)), (ylo, .inl (cI, 5, .inl gl)), (yhi, .inl (cI, 5, .inl gh)), (ywi, .inl (cI, 5, .inl Fwi))] → va_S A s.heap H locs → lv_has ls 5 [(0, .ref h0), (1, .int w1), (2, .int w2), (3, .int x3)] → W p l e R s m args below meth c H locs 0 0 Q (F0 m 10 ls []) := by
    intro fu_8
    induction fu_8 with
    | zero => intro w1 w2 x3 gn gb gl gh H locs ls hmu; exact absurd hmu (Nat.not_lt_zero _)
    | succ fu_8 ih =>
      intro w1 w2 x3 gn gb gl gh H locs ls hmu h_x3 hby hP hD hS hl
      obtain ⟨h_x3a, h_x3b⟩ := h_x3
      have ih_9 := ih
      clear ih
      refine lv_iload_n hx hb dX4_bestChange_10 rfl (lv_at hl 3 rfl) ?_
      refine lv_aload_n hx hb dX4_bestChange_11 rfl (lv_at hl 0 rfl) ?_
      refine va_get (D := D) (ci := 4) (v := .int ytk) (C := RX4) (T := TX4) (N := 30) hx hb hts iX4 hown hK hP 0 rfl rfl 1 (by decide) (hts (.fieldLink RX4 101 "PunchedTicketModel" "tickets" "I") (List.mem_of_getElem? (i := 1) rfl)) (fun _ h9 => h9) rfl dX4_bestChange_12 ?_
      refine lv_icmp_ge (tgt := 112) hx hb dX4_bestChange_15 (by decide) (fun c_10 => ?_) (fun c_10 => ?_)
      · have tc_10 := b_le rfl rfl c_10
        refine lv_iload_n hx hb dX4_bestChange_112 rfl (lv_at hl 2 rfl) ?_
        exact ret_i (post := (fun (r : Int32) (u : (Nat → Int32) × (Nat → Int32) × (Nat → Int32) × (Nat → Int32)) => ByOk u.2.1)) (W1 := (fun u => [(h0, .inr (4, [.int ype, .int ytk, .ref ywi, .ref yki, .ref yse, .ref yno, .ref yrh, .ref yrw, .ref yrk, .ref yrt, .int yrp, .int yrq, .ref ytx, .int yle, .int yat, .int yfa, .ref yby, .ref ylo, .ref yhi, .int yac, .int ynx, .ref yro, .ref ygl, .int ysn, .ref yso, .ref ysp, .ref ysw, .long ysd, .ref yik, .ref ykp])), (yno, .inl (cI, 96, .inl u.1)), (yki, .inl (cI, 5, .inl Fki)), (yby, .inl (cI, 5, .inl u.2.1)), (ylo, .inl (cI, 5, .inl u.2.2.1)), (yhi, .inl (cI, 5, .inl u.2.2.2)), (ywi, .inl (cI, 5, .inl Fwi))])) (gn, gb, gl, gh) hx hb hr hlocks rfl hQ hK hP hD hS ⟨by decide, by decide⟩ dX4_bestChange_113 hby
      · have tc_10 := b_nle rfl rfl c_10
        refine lv_iload_n hx hb dX4_bestChange_18 rfl (lv_at hl 3 rfl) ?_
        refine lv_iconst (v := 1) hx hb dX4_bestChange_19 (by decide) ?_
        refine lv_iadd hx hb dX4_bestChange_20 ?_
        refine lv_topi (fun v_11 ev_11 => ?_)
        have tv_11 : v_11.toInt = x3.toInt + (1 : Int) := by rw [ev_11]; exact ti_add (x := x3) (y := 1) (show -2147483648 ≤ x3.toInt + (1 : Int) by omega) (show x3.toInt + (1 : Int) < 2147483648 by omega)
        refine lv_istore (lv' := [(4, .int v_11), (0, .ref h0), (1, .int w1), (2, .int w2), (3, .int x3)]) hx hb dX4_bestChange_21 hl (by decide) rfl (fun ls hl => ?_)
        have LOOP_12 : ∀ (fu_12 : Nat) (u1 : Int32) (u2 : Int32) (x4 : Int32) (pn : Nat → Int32) (pb : Nat → Int32) (pl_ : Nat → Int32) (ph : Nat → Int32) (H : Heap) (locs : List Loc) (ls : Array Slot), (6 - x4.toInt).toNat < fu_12 → (1 ≤ x4.toInt ∧ x4.toInt ≤ 6) → (ByOk pb) → va_P D vwCl [(h0, .inr (4, [.int ype, .int ytk, .ref ywi, .ref yki, .ref yse, .ref yno, .ref yrh, .ref yrw, .ref yrk, .ref yrt, .int yrp, .int yrq, .ref ytx, .int yle, .int yat, .int yfa, .ref yby, .ref ylo, .ref yhi, .int yac, .int ynx, .ref yro, .ref ygl, .int ysn, .ref yso, .ref ysp, .ref ysw, .long ysd, .ref yik, .ref ykp])), (yno, .inl (cI, 96, .inl pn)), (yki, .inl (cI, 5, .inl Fki)), (yby, .inl (cI, 5, .inl pb)), (ylo, .inl (cI, 5, .inl pl_)), (yhi, .inl (cI, 5, .inl ph)), (ywi, .inl (cI, 5, .inl Fwi))] H → va_D A [(h0, .inr (4, [.int ype, .int ytk, .ref ywi, .ref yki, .ref yse, .ref yno, .ref yrh, .ref yrw, .ref yrk, .ref yrt, .int yrp, .int yrq, .ref ytx, .int yle, .int yat, .int yfa, .ref yby, .ref ylo, .ref yhi, .int yac, .int ynx, .ref yro, .ref ygl, .int ysn, .ref yso, .ref ysp, .ref ysw, .long ysd, .ref yik, .ref ykp])), (yno, .inl (cI, 96, .inl pn)), (yki, .inl (cI, 5, .inl Fki)), (yby, .inl (cI, 5, .inl pb)), (ylo, .inl (cI, 5, .inl pl_)), (yhi, .inl (cI, 5, .inl ph)), (ywi, .inl (cI, 5, .inl Fwi))] → va_S A s.heap H locs → lv_has ls 5 [(0, .ref h0), (1, .int u1), (2, .int u2), (3, .int x3), (4, .int x4)] → W p l e R s m args below meth c H locs 0 0 Q (F0 m 23 ls []) := by
          intro fu_12
          induction fu_12 with
          | zero => intro u1 u2 x4 pn pb pl_ ph H locs ls hmu; exact absurd hmu (Nat.not_lt_zero _)
          | succ fu_12 ih =>
            intro u1 u2 x4 pn pb pl_ ph H locs ls hmu h_x4 hby2 hP hD hS hl
            obtain ⟨h_x4a, h_x4b⟩ := h_x4
            have ih_13 := ih
            clear ih
            refine lv_iload hx hb dX4_bestChange_23 (lv_at hl 4 rfl) ?_
            refine lv_aload_n hx hb dX4_bestChange_25 rfl (lv_at hl 0 rfl) ?_
            refine va_get (D := D) (ci := 4) (v := .int ytk) (C := RX4) (T := TX4) (N := 30) hx hb hts iX4 hown hK hP 0 rfl rfl 1 (by decide) (hts (.fieldLink RX4 101 "PunchedTicketModel" "tickets" "I") (List.mem_of_getElem? (i := 1) rfl)) (fun _ h9 => h9) rfl dX4_bestChange_26 ?_
            refine lv_icmp_ge (tgt := 106) hx hb dX4_bestChange_29 (by decide) (fun c_14 => ?_) (fun c_14 => ?_)
            · have tc_14 := b_le rfl rfl c_14
              obtain ⟨v_15, ev_15⟩ : ∃ z : Int32, z = x3 + 1 := ⟨_, rfl⟩
              have tv_15 : v_15.toInt = x3.toInt + 1 := by rw [ev_15]; exact ti_add (x := x3) (y := 1) (show -2147483648 ≤ x3.toInt + 1 by omega) (show x3.toInt + 1 < 2147483648 by omega)
              refine lv_iinc (v := v_15) (lv' := [(3, .int v_15), (0, .ref h0), (1, .int u1), (2, .int u2), (4, .int x4)]) hx hb dX4_bestChange_106 hl (k := 3) rfl (by rw [ev_15]; rfl) (by decide) rfl (fun ls hl => ?_)
              refine lv_goto (tgt := 10) hx hb dX4_bestChange_109 (by decide) ?_
              exact ih_9 u1 u2 v_15 pn pb pl_ ph _ _ _ (show (6 - v_15.toInt).toNat < fu_8 by omega) (show 0 ≤ v_15.toInt ∧ v_15.toInt ≤ 6 by omega) (hby2) hP hD hS (lv_sub hl [1, 2, 3, 0] rfl)
            · have tc_14 := b_nle rfl rfl c_14
              refine lv_aload_n hx hb dX4_bestChange_32 rfl (lv_at hl 0 rfl) ?_
              refine lv_iload_n hx hb dX4_bestChange_33 rfl (lv_at hl 3 rfl) ?_
              refine lv_iload hx hb dX4_bestChange_34 (lv_at hl 4 rfl) ?_
              refine cV_i (As := [.int x3, .int x4]) (rest := []) ⟨hx, hb, hml, hown, hts⟩ (c_X4_canChange l D cI cZ cM h0 x3 x4 ype ytk ywi yki yse yno yrh yrw yrk yrt yrp yrq ytx yle yat yfa yby ylo yhi yac ynx yro ygl ysn yso ysp ysw ysd yik ykp pn _ (show 0 ≤ x3.toInt ∧ x3.toInt ≤ 6 by omega) (show 0 ≤ x4.toInt ∧ x4.toInt ≤ 6 by omega)) (cwV 2 hts gX4_bestChange_X4_canChange rfl rfl rfl (by decide +kernel) ⟨by rw [hR]; decide, by rw [hR]; decide⟩) hK hP hD hS hA [0, 1] [2, 3, 4, 5, 6] rfl rfl (by decide) (by decide) (by decide) rfl 0 rfl hl.1 rfl rfl (Nat.le_of_ble_eq_true rfl) dX4_bestChange_36 ⟨by rw [hR]; decide, by rw [hR]; decide⟩ (fun r_16 u_17 H locs hw hP hD hS => ?_)
              have hP : va_P D vwCl [(h0, .inr (4, [.int ype, .int ytk, .ref ywi, .ref yki, .ref yse, .ref yno, .ref yrh, .ref yrw, .ref yrk, .ref yrt, .int yrp, .int yrq, .ref ytx, .int yle, .int yat, .int yfa, .ref yby, .ref ylo, .ref yhi, .int yac, .int ynx, .ref yro, .ref ygl, .int ysn, .ref yso, .ref ysp, .ref ysw, .long ysd, .ref yik, .ref ykp])), (yno, .inl (cI, 96, .inl pn)), (yki, .inl (cI, 5, .inl Fki)), (yby, .inl (cI, 5, .inl pb)), (ylo, .inl (cI, 5, .inl pl_)), (yhi, .inl (cI, 5, .inl ph)), (ywi, .inl (cI, 5, .inl Fwi))] H := hP.sub [5, 6, 0, 1, 2, 3, 4] rfl
              have hD : va_D A [(h0, .inr (4, [.int ype, .int ytk, .ref ywi, .ref yki, .ref yse, .ref yno, .ref yrh, .ref yrw, .ref yrk, .ref yrt, .int yrp, .int yrq, .ref ytx, .int yle, .int yat, .int yfa, .ref yby, .ref ylo, .ref yhi, .int yac, .int ynx, .ref yro, .ref ygl, .int ysn, .ref yso, .ref ysp, .ref ysw, .long ysd, .ref yik, .ref ykp])), (yno, .inl (cI, 96, .inl pn)), (yki, .inl (cI, 5, .inl Fki)), (yby, .inl (cI, 5, .inl pb)), (ylo, .inl (cI, 5, .inl pl_)), (yhi, .inl (cI, 5, .inl ph)), (ywi, .inl (cI, 5, .inl Fwi))] := hD.sub [5, 6, 0, 1, 2, 3, 4] (by decide) rfl
              refine W.widen (k := 0) (n := 0) (Nat.le_refl _) (Nat.le_refl _) ?_
              have hw : (r_16.toInt = 0 ∨ r_16.toInt = 1) := hw
              have hw_18 := hw
              refine lv_if_eq (tgt := 100) hx hb dX4_bestChange_39 (by decide) (fun c_19 => ?_) (fun c_19 => ?_)
              · have tc_19 := b_eq rfl (show (0 : Int32).toInt = 0 by decide) c_19
                obtain ⟨v_20, ev_20⟩ : ∃ z : Int32, z = x4 + 1 := ⟨_, rfl⟩
                have tv_20 : v_20.toInt = x4.toInt + 1 := by rw [ev_20]; exact ti_add (x := x4) (y := 1) (show -2147483648 ≤ x4.toInt + 1 by omega) (show x4.toInt + 1 < 2147483648 by omega)
                refine lv_iinc (v := v_20) (lv' := [(4, .int v_20), (0, .ref h0), (1, .int u1), (2, .int u2), (3, .int x3)]) hx hb dX4_bestChange_100 hl (k := 4) rfl (by rw [ev_20]; rfl) (by decide) rfl (fun ls hl => ?_)
                refine lv_goto (tgt := 23) hx hb dX4_bestChange_103 (by decide) ?_
                exact ih_13 u1 u2 v_20 pn pb pl_ ph _ _ _ (show (6 - v_20.toInt).toNat < fu_12 by omega) (show 1 ≤ v_20.toInt ∧ v_20.toInt ≤ 6 by omega) (hby2) hP hD hS (lv_sub hl [1, 2, 3, 4, 0] rfl)
              · have tc_19 := b_ne rfl (show (0 : Int32).toInt = 0 by decide) c_19
                refine lv_aload_n hx hb dX4_bestChange_42 rfl (lv_at hl 0 rfl) ?_
                refine cV_v (As := []) (rest := []) ⟨hx, hb, hml, hown, hts⟩ (c_X4_layTrial l D cI cZ cM h0 ype ytk ywi yki yse yno yrh yrw yrk yrt yrp yrq ytx yle yat yfa yby ylo yhi yac ynx yro ygl ysn yso ysp ysw ysd yik ykp pn _ ) (cwV 0 hts gX4_bestChange_X4_layTrial rfl rfl rfl (by decide +kernel) ⟨by rw [hR]; decide, by rw [hR]; decide⟩) hK hP hD hS hA [0, 1] [2, 3, 4, 5, 6] rfl rfl (by decide) (by decide) (by decide) rfl 0 rfl hl.1 rfl rfl (Nat.le_of_ble_eq_true rfl) dX4_bestChange_43 ⟨by rw [hR]; decide, by rw [hR]; decide⟩ (fun u_23 H locs hw hP hD hS => ?_)
                obtain ⟨Gno_21, rfl⟩ : ∃ z, z = u_23 := ⟨_, rfl⟩
                have hP : va_P D vwCl [(h0, .inr (4, [.int ype, .int ytk, .ref ywi, .ref yki, .ref yse, .ref yno, .ref yrh, .ref yrw, .ref yrk, .ref yrt, .int yrp, .int yrq, .ref ytx, .int yle, .int yat, .int yfa, .ref yby, .ref ylo, .ref yhi, .int yac, .int ynx, .ref yro, .ref ygl, .int ysn, .ref yso, .ref ysp, .ref ysw, .long ysd, .ref yik, .ref ykp])), (yno, .inl (cI, 96, .inl Gno_21)), (yki, .inl (cI, 5, .inl Fki)), (yby, .inl (cI, 5, .inl pb)), (ylo, .inl (cI, 5, .inl pl_)), (yhi, .inl (cI, 5, .inl ph)), (ywi, .inl (cI, 5, .inl Fwi))] H := hP.sub [5, 6, 0, 1, 2, 3, 4] rfl
                have hD : va_D A [(h0, .inr (4, [.int ype, .int ytk, .ref ywi, .ref yki, .ref yse, .ref yno, .ref yrh, .ref yrw, .ref yrk, .ref yrt, .int yrp, .int yrq, .ref ytx, .int yle, .int yat, .int yfa, .ref yby, .ref ylo, .ref yhi, .int yac, .int ynx, .ref yro, .ref ygl, .int ysn, .ref yso, .ref ysp, .ref ysw, .long ysd, .ref yik, .ref ykp])), (yno, .inl (cI, 96, .inl Gno_21)), (yki, .inl (cI, 5, .inl Fki)), (yby, .inl (cI, 5, .inl pb)), (ylo, .inl (cI, 5, .inl pl_)), (yhi, .inl (cI, 5, .inl ph)), (ywi, .inl (cI, 5, .inl Fwi))] := hD.sub [5, 6, 0, 1, 2, 3, 4] (by decide) rfl
                refine W.widen (k := 0) (n := 0) (Nat.le_refl _) (Nat.le_refl _) ?_
                refine lv_aload_n hx hb dX4_bestChange_46 rfl (lv_at hl 0 rfl) ?_
                refine lv_iconst (v := 1) hx hb dX4_bestChange_47 (by decide) ?_
                refine lv_iload_n hx hb dX4_bestChange_48 rfl (lv_at hl 3 rfl) ?_
                refine lv_iload hx hb dX4_bestChange_49 (lv_at hl 4 rfl) ?_
                refine cV_v (As := [.int 1, .int x3, .int x4]) (rest := []) ⟨hx, hb, hml, hown, hts⟩ (c_X4_changeOn l D cI cZ cM h0 1 x3 x4 ype ytk ywi yki yse yno yrh yrw yrk yrt yrp yrq ytx yle yat yfa yby ylo yhi yac ynx yro ygl ysn yso ysp ysw ysd yik ykp Gno_21 _ (by decide) (show 0 ≤ x3.toInt ∧ x3.toInt ≤ 6 by omega) (show 0 ≤ x4.toInt ∧ x4.toInt ≤ 6 by omega)) (cwV 3 hts gX4_bestChange_X4_changeOn rfl rfl rfl (by decide +kernel) ⟨by rw [hR]; decide, by rw [hR]; decide⟩) hK hP hD hS hA [0, 1] [2, 3, 4, 5, 6] rfl rfl (by decide) (by decide) (by decide) rfl 0 rfl hl.1 rfl rfl (Nat.le_of_ble_eq_true rfl) dX4_bestChange_51 ⟨by rw [hR]; decide, by rw [hR]; decide⟩ (fun u_26 H locs hw hP hD hS => ?_)
                obtain ⟨Gno_24, rfl⟩ : ∃ z, z = u_26 := ⟨_, rfl⟩
                have hP : va_P D vwCl [(h0, .inr (4, [.int ype, .int ytk, .ref ywi, .ref yki, .ref yse, .ref yno, .ref yrh, .ref yrw, .ref yrk, .ref yrt, .int yrp, .int yrq, .ref ytx, .int yle, .int yat, .int yfa, .ref yby, .ref ylo, .ref yhi, .int yac, .int ynx, .ref yro, .ref ygl, .int ysn, .ref yso, .ref ysp, .ref ysw, .long ysd, .ref yik, .ref ykp])), (yno, .inl (cI, 96, .inl Gno_24)), (yki, .inl (cI, 5, .inl Fki)), (yby, .inl (cI, 5, .inl pb)), (ylo, .inl (cI, 5, .inl pl_)), (yhi, .inl (cI, 5, .inl ph)), (ywi, .inl (cI, 5, .inl Fwi))] H := hP.sub [5, 6, 0, 1, 2, 3, 4] rfl
                have hD : va_D A [(h0, .inr (4, [.int ype, .int ytk, .ref ywi, .ref yki, .ref yse, .ref yno, .ref yrh, .ref yrw, .ref yrk, .ref yrt, .int yrp, .int yrq, .ref ytx, .int yle, .int yat, .int yfa, .ref yby, .ref ylo, .ref yhi, .int yac, .int ynx, .ref yro, .ref ygl, .int ysn, .ref yso, .ref ysp, .ref ysw, .long ysd, .ref yik, .ref ykp])), (yno, .inl (cI, 96, .inl Gno_24)), (yki, .inl (cI, 5, .inl Fki)), (yby, .inl (cI, 5, .inl pb)), (ylo, .inl (cI, 5, .inl pl_)), (yhi, .inl (cI, 5, .inl ph)), (ywi, .inl (cI, 5, .inl Fwi))] := hD.sub [5, 6, 0, 1, 2, 3, 4] (by decide) rfl
                refine W.widen (k := 0) (n := 0) (Nat.le_refl _) (Nat.le_refl _) ?_
                refine lv_aload_n hx hb dX4_bestChange_54 rfl (lv_at hl 0 rfl) ?_
                refine lv_aload_n hx hb dX4_bestChange_55 rfl (lv_at hl 0 rfl) ?_
                refine va_get (D := D) (ci := 4) (v := .int ytk) (C := RX4) (T := TX4) (N := 30) hx hb hts iX4 hown hK hP 0 rfl rfl 1 (by decide) (hts (.fieldLink RX4 101 "PunchedTicketModel" "tickets" "I") (List.mem_of_getElem? (i := 1) rfl)) (fun _ h9 => h9) rfl dX4_bestChange_56 ?_
                refine cV_i (As := [.int ytk]) (rest := []) ⟨hx, hb, hml, hown, hts⟩ (c_X4_passAll l D cI cZ cM h0 ytk ype ytk ywi yki yse yno yrh yrw yrk yrt yrp yrq ytx yle yat yfa yby ylo yhi yac ynx yro ygl ysn yso ysp ysw ysd yik ykp Gno_24 Fki pb pl_ ph _ hby2 (show 0 ≤ ytk.toInt ∧ ytk.toInt ≤ 7 by omega) (show 0 ≤ ype.toInt ∧ ype.toInt ≤ 5 by omega)) (cwV 1 hts gX4_bestChange_X4_passAll rfl rfl rfl (by decide +kernel) ⟨by rw [hR]; decide, by rw [hR]; decide⟩) hK hP hD hS hA [0, 1, 2, 3, 4, 5] [6] rfl rfl (by decide) (by decide) (by decide) rfl 0 rfl hl.1 rfl rfl (Nat.le_of_ble_eq_true rfl) dX4_bestChange_59 ⟨by rw [hR]; decide, by rw [hR]; decide⟩ (fun r_31 u_32 H locs hw hP hD hS => ?_)
                obtain ⟨Gno_27, Gby_28, Glo_29, Ghi_30⟩ := u_32
                have hP : va_P D vwCl [(h0, .inr (4, [.int ype, .int ytk, .ref ywi, .ref yki, .ref yse, .ref yno, .ref yrh, .ref yrw, .ref yrk, .ref yrt, .int yrp, .int yrq, .ref ytx, .int yle, .int yat, .int yfa, .ref yby, .ref ylo, .ref yhi, .int yac, .int ynx, .ref yro, .ref ygl, .int ysn, .ref yso, .ref ysp, .ref ysw, .long ysd, .ref yik, .ref ykp])), (yno, .inl (cI, 96, .inl Gno_27)), (yki, .inl (cI, 5, .inl Fki)), (yby, .inl (cI, 5, .inl Gby_28)), (ylo, .inl (cI, 5, .inl Glo_29)), (yhi, .inl (cI, 5, .inl Ghi_30)), (ywi, .inl (cI, 5, .inl Fwi))] H := hP.sub [1, 2, 3, 4, 5, 6, 0] rfl
                have hD : va_D A [(h0, .inr (4, [.int ype, .int ytk, .ref ywi, .ref yki, .ref yse, .ref yno, .ref yrh, .ref yrw, .ref yrk, .ref yrt, .int yrp, .int yrq, .ref ytx, .int yle, .int yat, .int yfa, .ref yby, .ref ylo, .ref yhi, .int yac, .int ynx, .ref yro, .ref ygl, .int ysn, .ref yso, .ref ysp, .ref ysw, .long ysd, .ref yik, .ref ykp])), (yno, .inl (cI, 96, .inl Gno_27)), (yki, .inl (cI, 5, .inl Fki)), (yby, .inl (cI, 5, .inl Gby_28)), (ylo, .inl (cI, 5, .inl Glo_29)), (yhi, .inl (cI, 5, .inl Ghi_30)), (ywi, .inl (cI, 5, .inl Fwi))] := hD.sub [1, 2, 3, 4, 5, 6, 0] (by decide) rfl
                refine W.widen (k := 0) (n := 0) (Nat.le_refl _) (Nat.le_refl _) ?_
                have hw : ByOk Gby_28 := hw
                have hw_33 := hw
                have PBY2 := hw_33
                refine lv_pop hx hb dX4_bestChange_62 rfl ?_
                refine lv_aload_n hx hb dX4_bestChange_63 rfl (lv_at hl 0 rfl) ?_
                refine cV_i (As := []) (rest := []) ⟨hx, hb, hml, hown, hts⟩ (c_X4_gladOf l D cI cZ cM h0 ype ytk ywi yki yse yno yrh yrw yrk yrt yrp yrq ytx yle yat yfa yby ylo yhi yac ynx yro ygl ysn yso ysp ysw ysd yik ykp Gno_27 Fwi _ (show 0 ≤ ype.toInt ∧ ype.toInt ≤ 5 by omega)) (cwV 0 hts gX4_bestChange_X4_gladOf rfl rfl rfl (by decide +kernel) ⟨by rw [hR]; decide, by rw [hR]; decide⟩) hK hP hD hS hA [0, 1, 6] [2, 3, 4, 5] rfl rfl (by decide) (by decide) (by decide) rfl 0 rfl hl.1 rfl rfl (Nat.le_of_ble_eq_true rfl) dX4_bestChange_64 ⟨by rw [hR]; decide, by rw [hR]; decide⟩ (fun r_34 u_35 H locs hw hP hD hS => ?_)
                have hP : va_P D vwCl [(h0, .inr (4, [.int ype, .int ytk, .ref ywi, .ref yki, .ref yse, .ref yno, .ref yrh, .ref yrw, .ref yrk, .ref yrt, .int yrp, .int yrq, .ref ytx, .int yle, .int yat, .int yfa, .ref yby, .ref ylo, .ref yhi, .int yac, .int ynx, .ref yro, .ref ygl, .int ysn, .ref yso, .ref ysp, .ref ysw, .long ysd, .ref yik, .ref ykp])), (yno, .inl (cI, 96, .inl Gno_27)), (yki, .inl (cI, 5, .inl Fki)), (yby, .inl (cI, 5, .inl Gby_28)), (ylo, .inl (cI, 5, .inl Glo_29)), (yhi, .inl (cI, 5, .inl Ghi_30)), (ywi, .inl (cI, 5, .inl Fwi))] H := hP.sub [4, 5, 0, 1, 2, 3, 6] rfl
                have hD : va_D A [(h0, .inr (4, [.int ype, .int ytk, .ref ywi, .ref yki, .ref yse, .ref yno, .ref yrh, .ref yrw, .ref yrk, .ref yrt, .int yrp, .int yrq, .ref ytx, .int yle, .int yat, .int yfa, .ref yby, .ref ylo, .ref yhi, .int yac, .int ynx, .ref yro, .ref ygl, .int ysn, .ref yso, .ref ysp, .ref ysw, .long ysd, .ref yik, .ref ykp])), (yno, .inl (cI, 96, .inl Gno_27)), (yki, .inl (cI, 5, .inl Fki)), (yby, .inl (cI, 5, .inl Gby_28)), (ylo, .inl (cI, 5, .inl Glo_29)), (yhi, .inl (cI, 5, .inl Ghi_30)), (ywi, .inl (cI, 5, .inl Fwi))] := hD.sub [4, 5, 0, 1, 2, 3, 6] (by decide) rfl
                refine W.widen (k := 0) (n := 0) (Nat.le_refl _) (Nat.le_refl _) ?_
                refine lv_iload_n hx hb dX4_bestChange_67 rfl (lv_at hl 1 rfl) ?_
                refine lv_icmp_le (tgt := 81) hx hb dX4_bestChange_68 (by decide) (fun c_36 => ?_) (fun c_36 => ?_)
                · have tc_36 := b_le rfl rfl c_36
                  refine lv_iload_n hx hb dX4_bestChange_81 rfl (lv_at hl 2 rfl) ?_
                  refine lv_istore_n (lv' := [(2, .int u2), (0, .ref h0), (1, .int u1), (3, .int x3), (4, .int x4)]) hx hb dX4_bestChange_82 rfl hl (by decide) rfl (fun ls hl => ?_)
                  refine lv_aload_n hx hb dX4_bestChange_83 rfl (lv_at hl 1 rfl) ?_
                  refine cV_i (As := []) (rest := []) ⟨hx, hb, hml, hown, hts⟩ (c_X4_gladOf l D cI cZ cM h0 ype ytk ywi yki yse yno yrh yrw yrk yrt yrp yrq ytx yle yat yfa yby ylo yhi yac ynx yro ygl ysn yso ysp ysw ysd yik ykp Gno_27 Fwi _ (show 0 ≤ ype.toInt ∧ ype.toInt ≤ 5 by omega)) (cwV 0 hts gX4_bestChange_X4_gladOf rfl rfl rfl (by decide +kernel) ⟨by rw [hR]; decide, by rw [hR]; decide⟩) hK hP hD hS hA [0, 1, 6] [2, 3, 4, 5] rfl rfl (by decide) (by decide) (by decide) rfl 0 rfl hl.1 rfl rfl (Nat.le_of_ble_eq_true rfl) dX4_bestChange_84 ⟨by rw [hR]; decide, by rw [hR]; decide⟩ (fun r_37 u_38 H locs hw hP hD hS => ?_)
                  have hP : va_P D vwCl [(h0, .inr (4, [.int ype, .int ytk, .ref ywi, .ref yki, .ref yse, .ref yno, .ref yrh, .ref yrw, .ref yrk, .ref yrt, .int yrp, .int yrq, .ref ytx, .int yle, .int yat, .int yfa, .ref yby, .ref ylo, .ref yhi, .int yac, .int ynx, .ref yro, .ref ygl, .int ysn, .ref yso, .ref ysp, .ref ysw, .long ysd, .ref yik, .ref ykp])), (yno, .inl (cI, 96, .inl Gno_27)), (yki, .inl (cI, 5, .inl Fki)), (yby, .inl (cI, 5, .inl Gby_28)), (ylo, .inl (cI, 5, .inl Glo_29)), (yhi, .inl (cI, 5, .inl Ghi_30)), (ywi, .inl (cI, 5, .inl Fwi))] H := hP.sub [4, 5, 0, 1, 2, 3, 6] rfl
                  have hD : va_D A [(h0, .inr (4, [.int ype, .int ytk, .ref ywi, .ref yki, .ref yse, .ref yno, .ref yrh, .ref yrw, .ref yrk, .ref yrt, .int yrp, .int yrq, .ref ytx, .int yle, .int yat, .int yfa, .ref yby, .ref ylo, .ref yhi, .int yac, .int ynx, .ref yro, .ref ygl, .int ysn, .ref yso, .ref ysp, .ref ysw, .long ysd, .ref yik, .ref ykp])), (yno, .inl (cI, 96, .inl Gno_27)), (yki, .inl (cI, 5, .inl Fki)), (yby, .inl (cI, 5, .inl Gby_28)), (ylo, .inl (cI, 5, .inl Glo_29)), (yhi, .inl (cI, 5, .inl Ghi_30)), (ywi, .inl (cI, 5, .inl Fwi))] := hD.sub [4, 5, 0, 1, 2, 3, 6] (by decide) rfl
                  refine W.widen (k := 0) (n := 0) (Nat.le_refl _) (Nat.le_refl _) ?_
                  refine lv_iload_n hx hb dX4_bestChange_87 rfl (lv_at hl 2 rfl) ?_
                  refine lv_icmp_le (tgt := 98) hx hb dX4_bestChange_88 (by decide) (fun c_39 => ?_) (fun c_39 => ?_)
                  · have tc_39 := b_le rfl rfl c_39
                    refine lv_iload_n hx hb dX4_bestChange_98 rfl (lv_at hl 2 rfl) ?_
                    refine lv_istore_n (lv' := [(1, .int u1), (2, .int u2), (0, .ref h0), (3, .int x3), (4, .int x4)]) hx hb dX4_bestChange_99 rfl hl (by decide) rfl (fun ls hl => ?_)
                    obtain ⟨v_40, ev_40⟩ : ∃ z : Int32, z = x4 + 1 := ⟨_, rfl⟩
                    have tv_40 : v_40.toInt = x4.toInt + 1 := by rw [ev_40]; exact ti_add (x := x4) (y := 1) (show -2147483648 ≤ x4.toInt + 1 by omega) (show x4.toInt + 1 < 2147483648 by omega)
                    refine lv_iinc (v := v_40) (lv' := [(4, .int v_40), (1, .int u1), (2, .int u2), (0, .ref h0), (3, .int x3)]) hx hb dX4_bestChange_100 hl (k := 4) rfl (by rw [ev_40]; rfl) (by decide) rfl (fun ls hl => ?_)
                    refine lv_goto (tgt := 23) hx hb dX4_bestChange_103 (by decide) ?_
                    exact ih_13 u1 u2 v_40 Gno_27 Gby_28 Glo_29 Ghi_30 _ _ _ (show (6 - v_40.toInt).toNat < fu_12 by omega) (show 1 ≤ v_40.toInt ∧ v_40.toInt ≤ 6 by omega) (PBY2) hP hD hS (lv_sub hl [3, 1, 2, 4, 0] rfl)
                  · have tc_39 := b_nle rfl rfl c_39
                    refine lv_aload_n hx hb dX4_bestChange_91 rfl (lv_at hl 1 rfl) ?_
                    refine cV_i (As := []) (rest := []) ⟨hx, hb, hml, hown, hts⟩ (c_X4_gladOf l D cI cZ cM h0 ype ytk ywi yki yse yno yrh yrw yrk yrt yrp yrq ytx yle yat yfa yby ylo yhi yac ynx yro ygl ysn yso ysp ysw ysd yik ykp Gno_27 Fwi _ (show 0 ≤ ype.toInt ∧ ype.toInt ≤ 5 by omega)) (cwV 0 hts gX4_bestChange_X4_gladOf rfl rfl rfl (by decide +kernel) ⟨by rw [hR]; decide, by rw [hR]; decide⟩) hK hP hD hS hA [0, 1, 6] [2, 3, 4, 5] rfl rfl (by decide) (by decide) (by decide) rfl 0 rfl hl.1 rfl rfl (Nat.le_of_ble_eq_true rfl) dX4_bestChange_92 ⟨by rw [hR]; decide, by rw [hR]; decide⟩ (fun r_41 u_42 H locs hw hP hD hS => ?_)
                    have hP : va_P D vwCl [(h0, .inr (4, [.int ype, .int ytk, .ref ywi, .ref yki, .ref yse, .ref yno, .ref yrh, .ref yrw, .ref yrk, .ref yrt, .int yrp, .int yrq, .ref ytx, .int yle, .int yat, .int yfa, .ref yby, .ref ylo, .ref yhi, .int yac, .int ynx, .ref yro, .ref ygl, .int ysn, .ref yso, .ref ysp, .ref ysw, .long ysd, .ref yik, .ref ykp])), (yno, .inl (cI, 96, .inl Gno_27)), (yki, .inl (cI, 5, .inl Fki)), (yby, .inl (cI, 5, .inl Gby_28)), (ylo, .inl (cI, 5, .inl Glo_29)), (yhi, .inl (cI, 5, .inl Ghi_30)), (ywi, .inl (cI, 5, .inl Fwi))] H := hP.sub [4, 5, 0, 1, 2, 3, 6] rfl
                    have hD : va_D A [(h0, .inr (4, [.int ype, .int ytk, .ref ywi, .ref yki, .ref yse, .ref yno, .ref yrh, .ref yrw, .ref yrk, .ref yrt, .int yrp, .int yrq, .ref ytx, .int yle, .int yat, .int yfa, .ref yby, .ref ylo, .ref yhi, .int yac, .int ynx, .ref yro, .ref ygl, .int ysn, .ref yso, .ref ysp, .ref ysw, .long ysd, .ref yik, .ref ykp])), (yno, .inl (cI, 96, .inl Gno_27)), (yki, .inl (cI, 5, .inl Fki)), (yby, .inl (cI, 5, .inl Gby_28)), (ylo, .inl (cI, 5, .inl Glo_29)), (yhi, .inl (cI, 5, .inl Ghi_30)), (ywi, .inl (cI, 5, .inl Fwi))] := hD.sub [4, 5, 0, 1, 2, 3, 6] (by decide) rfl
                    refine W.widen (k := 0) (n := 0) (Nat.le_refl _) (Nat.le_refl _) ?_
                    refine lv_goto (tgt := 99) hx hb dX4_bestChange_95 (by decide) ?_
                    refine lv_istore_n (lv' := [(1, .int r_41), (2, .int u2), (0, .ref h0), (3, .int x3), (4, .int x4)]) hx hb dX4_bestChange_99 rfl hl (by decide) rfl (fun ls hl => ?_)
                    obtain ⟨v_43, ev_43⟩ : ∃ z : Int32, z = x4 + 1 := ⟨_, rfl⟩
                    have tv_43 : v_43.toInt = x4.toInt + 1 := by rw [ev_43]; exact ti_add (x := x4) (y := 1) (show -2147483648 ≤ x4.toInt + 1 by omega) (show x4.toInt + 1 < 2147483648 by omega)
                    refine lv_iinc (v := v_43) (lv' := [(4, .int v_43), (1, .int r_41), (2, .int u2), (0, .ref h0), (3, .int x3)]) hx hb dX4_bestChange_100 hl (k := 4) rfl (by rw [ev_43]; rfl) (by decide) rfl (fun ls hl => ?_)
                    refine lv_goto (tgt := 23) hx hb dX4_bestChange_103 (by decide) ?_
                    exact ih_13 r_41 u2 v_43 Gno_27 Gby_28 Glo_29 Ghi_30 _ _ _ (show (6 - v_43.toInt).toNat < fu_12 by omega) (show 1 ≤ v_43.toInt ∧ v_43.toInt ≤ 6 by omega) (PBY2) hP hD hS (lv_sub hl [3, 1, 2, 4, 0] rfl)
                · have tc_36 := b_nle rfl rfl c_36
                  refine lv_bipush (v := 10) hx hb dX4_bestChange_71 (by decide) ?_
                  refine lv_iload_n hx hb dX4_bestChange_73 rfl (lv_at hl 3 rfl) ?_
                  refine lv_imul hx hb dX4_bestChange_74 ?_
                  refine lv_topi (fun v_44 ev_44 => ?_)
                  have tv_44 : v_44.toInt = (10 : Int) * x3.toInt := by rw [ev_44]; exact ti_mul (x := 10) (y := x3) (show -2147483648 ≤ (10 : Int) * x3.toInt by omega) (show (10 : Int) * x3.toInt < 2147483648 by omega)
                  refine lv_iload hx hb dX4_bestChange_75 (lv_at hl 4 rfl) ?_
                  refine lv_iadd hx hb dX4_bestChange_77 ?_
                  refine lv_topi (fun v_45 ev_45 => ?_)
                  have tv_45 : v_45.toInt = v_44.toInt + x4.toInt := by rw [ev_45]; exact ti_add (x := v_44) (y := x4) (show -2147483648 ≤ v_44.toInt + x4.toInt by omega) (show v_44.toInt + x4.toInt < 2147483648 by omega)
                  refine lv_goto (tgt := 82) hx hb dX4_bestChange_78 (by decide) ?_
                  refine lv_istore_n (lv' := [(2, .int v_45), (0, .ref h0), (1, .int u1), (3, .int x3), (4, .int x4)]) hx hb dX4_bestChange_82 rfl hl (by decide) rfl (fun ls hl => ?_)
                  refine lv_aload_n hx hb dX4_bestChange_83 rfl (lv_at hl 1 rfl) ?_
                  refine cV_i (As := []) (rest := []) ⟨hx, hb, hml, hown, hts⟩ (c_X4_gladOf l D cI cZ cM h0 ype ytk ywi yki yse yno yrh yrw yrk yrt yrp yrq ytx yle yat yfa yby ylo yhi yac ynx yro ygl ysn yso ysp ysw ysd yik ykp Gno_27 Fwi _ (show 0 ≤ ype.toInt ∧ ype.toInt ≤ 5 by omega)) (cwV 0 hts gX4_bestChange_X4_gladOf rfl rfl rfl (by decide +kernel) ⟨by rw [hR]; decide, by rw [hR]; decide⟩) hK hP hD hS hA [0, 1, 6] [2, 3, 4, 5] rfl rfl (by decide) (by decide) (by decide) rfl 0 rfl hl.1 rfl rfl (Nat.le_of_ble_eq_true rfl) dX4_bestChange_84 ⟨by rw [hR]; decide, by rw [hR]; decide⟩ (fun r_46 u_47 H locs hw hP hD hS => ?_)
                  have hP : va_P D vwCl [(h0, .inr (4, [.int ype, .int ytk, .ref ywi, .ref yki, .ref yse, .ref yno, .ref yrh, .ref yrw, .ref yrk, .ref yrt, .int yrp, .int yrq, .ref ytx, .int yle, .int yat, .int yfa, .ref yby, .ref ylo, .ref yhi, .int yac, .int ynx, .ref yro, .ref ygl, .int ysn, .ref yso, .ref ysp, .ref ysw, .long ysd, .ref yik, .ref ykp])), (yno, .inl (cI, 96, .inl Gno_27)), (yki, .inl (cI, 5, .inl Fki)), (yby, .inl (cI, 5, .inl Gby_28)), (ylo, .inl (cI, 5, .inl Glo_29)), (yhi, .inl (cI, 5, .inl Ghi_30)), (ywi, .inl (cI, 5, .inl Fwi))] H := hP.sub [4, 5, 0, 1, 2, 3, 6] rfl
                  have hD : va_D A [(h0, .inr (4, [.int ype, .int ytk, .ref ywi, .ref yki, .ref yse, .ref yno, .ref yrh, .ref yrw, .ref yrk, .ref yrt, .int yrp, .int yrq, .ref ytx, .int yle, .int yat, .int yfa, .ref yby, .ref ylo, .ref yhi, .int yac, .int ynx, .ref yro, .ref ygl, .int ysn, .ref yso, .ref ysp, .ref ysw, .long ysd, .ref yik, .ref ykp])), (yno, .inl (cI, 96, .inl Gno_27)), (yki, .inl (cI, 5, .inl Fki)), (yby, .inl (cI, 5, .inl Gby_28)), (ylo, .inl (cI, 5, .inl Glo_29)), (yhi, .inl (cI, 5, .inl Ghi_30)), (ywi, .inl (cI, 5, .inl Fwi))] := hD.sub [4, 5, 0, 1, 2, 3, 6] (by decide) rfl
                  refine W.widen (k := 0) (n := 0) (Nat.le_refl _) (Nat.le_refl _) ?_
                  refine lv_iload_n hx hb dX4_bestChange_87 rfl (lv_at hl 2 rfl) ?_
                  refine lv_icmp_le (tgt := 98) hx hb dX4_bestChange_88 (by decide) (fun c_48 => ?_) (fun c_48 => ?_)
                  · have tc_48 := b_le rfl rfl c_48
                    refine lv_iload_n hx hb dX4_bestChange_98 rfl (lv_at hl 2 rfl) ?_
                    refine lv_istore_n (lv' := [(1, .int u1), (2, .int v_45), (0, .ref h0), (3, .int x3), (4, .int x4)]) hx hb dX4_bestChange_99 rfl hl (by decide) rfl (fun ls hl => ?_)
                    obtain ⟨v_49, ev_49⟩ : ∃ z : Int32, z = x4 + 1 := ⟨_, rfl⟩
                    have tv_49 : v_49.toInt = x4.toInt + 1 := by rw [ev_49]; exact ti_add (x := x4) (y := 1) (show -2147483648 ≤ x4.toInt + 1 by omega) (show x4.toInt + 1 < 2147483648 by omega)
                    refine lv_iinc (v := v_49) (lv' := [(4, .int v_49), (1, .int u1), (2, .int v_45), (0, .ref h0), (3, .int x3)]) hx hb dX4_bestChange_100 hl (k := 4) rfl (by rw [ev_49]; rfl) (by decide) rfl (fun ls hl => ?_)
                    refine lv_goto (tgt := 23) hx hb dX4_bestChange_103 (by decide) ?_
                    exact ih_13 u1 v_45 v_49 Gno_27 Gby_28 Glo_29 Ghi_30 _ _ _ (show (6 - v_49.toInt).toNat < fu_12 by omega) (show 1 ≤ v_49.toInt ∧ v_49.toInt ≤ 6 by omega) (PBY2) hP hD hS (lv_sub hl [3, 1, 2, 4, 0] rfl)
                  · have tc_48 := b_nle rfl rfl c_48
                    refine lv_aload_n hx hb dX4_bestChange_91 rfl (lv_at hl 1 rfl) ?_
                    refine cV_i (As := []) (rest := []) ⟨hx, hb, hml, hown, hts⟩ (c_X4_gladOf l D cI cZ cM h0 ype ytk ywi yki yse yno yrh yrw yrk yrt yrp yrq ytx yle yat yfa yby ylo yhi yac ynx yro ygl ysn yso ysp ysw ysd yik ykp Gno_27 Fwi _ (show 0 ≤ ype.toInt ∧ ype.toInt ≤ 5 by omega)) (cwV 0 hts gX4_bestChange_X4_gladOf rfl rfl rfl (by decide +kernel) ⟨by rw [hR]; decide, by rw [hR]; decide⟩) hK hP hD hS hA [0, 1, 6] [2, 3, 4, 5] rfl rfl (by decide) (by decide) (by decide) rfl 0 rfl hl.1 rfl rfl (Nat.le_of_ble_eq_true rfl) dX4_bestChange_92 ⟨by rw [hR]; decide, by rw [hR]; decide⟩ (fun r_50 u_51 H locs hw hP hD hS => ?_)
                    have hP : va_P D vwCl [(h0, .inr (4, [.int ype, .int ytk, .ref ywi, .ref yki, .ref yse, .ref yno, .ref yrh, .ref yrw, .ref yrk, .ref yrt, .int yrp, .int yrq, .ref ytx, .int yle, .int yat, .int yfa, .ref yby, .ref ylo, .ref yhi, .int yac, .int ynx, .ref yro, .ref ygl, .int ysn, .ref yso, .ref ysp, .ref ysw, .long ysd, .ref yik, .ref ykp])), (yno, .inl (cI, 96, .inl Gno_27)), (yki, .inl (cI, 5, .inl Fki)), (yby, .inl (cI, 5, .inl Gby_28)), (ylo, .inl (cI, 5, .inl Glo_29)), (yhi, .inl (cI, 5, .inl Ghi_30)), (ywi, .inl (cI, 5, .inl Fwi))] H := hP.sub [4, 5, 0, 1, 2, 3, 6] rfl
                    have hD : va_D A [(h0, .inr (4, [.int ype, .int ytk, .ref ywi, .ref yki, .ref yse, .ref yno, .ref yrh, .ref yrw, .ref yrk, .ref yrt, .int yrp, .int yrq, .ref ytx, .int yle, .int yat, .int yfa, .ref yby, .ref ylo, .ref yhi, .int yac, .int ynx, .ref yro, .ref ygl, .int ysn, .ref yso, .ref ysp, .ref ysw, .long ysd, .ref yik, .ref ykp])), (yno, .inl (cI, 96, .inl Gno_27)), (yki, .inl (cI, 5, .inl Fki)), (yby, .inl (cI, 5, .inl Gby_28)), (ylo, .inl (cI, 5, .inl Glo_29)), (yhi, .inl (cI, 5, .inl Ghi_30)), (ywi, .inl (cI, 5, .inl Fwi))] := hD.sub [4, 5, 0, 1, 2, 3, 6] (by decide) rfl
                    refine W.widen (k := 0) (n := 0) (Nat.le_refl _) (Nat.le_refl _) ?_
                    refine lv_goto (tgt := 99) hx hb dX4_bestChange_95 (by decide) ?_
                    refine lv_istore_n (lv' := [(1, .int r_50), (2, .int v_45), (0, .ref h0), (3, .int x3), (4, .int x4)]) hx hb dX4_bestChange_99 rfl hl (by decide) rfl (fun ls hl => ?_)
                    obtain ⟨v_52, ev_52⟩ : ∃ z : Int32, z = x4 + 1 := ⟨_, rfl⟩
                    have tv_52 : v_52.toInt = x4.toInt + 1 := by rw [ev_52]; exact ti_add (x := x4) (y := 1) (show -2147483648 ≤ x4.toInt + 1 by omega) (show x4.toInt + 1 < 2147483648 by omega)
                    refine lv_iinc (v := v_52) (lv' := [(4, .int v_52), (1, .int r_50), (2, .int v_45), (0, .ref h0), (3, .int x3)]) hx hb dX4_bestChange_100 hl (k := 4) rfl (by rw [ev_52]; rfl) (by decide) rfl (fun ls hl => ?_)
                    refine lv_goto (tgt := 23) hx hb dX4_bestChange_103 (by decide) ?_
                    exact ih_13 r_50 v_45 v_52 Gno_27 Gby_28 Glo_29 Ghi_30 _ _ _ (show (6 - v_52.toInt).toNat < fu_12 by omega) (show 1 ≤ v_52.toInt ∧ v_52.toInt ≤ 6 by omega) (PBY2) hP hD hS (lv_sub hl [3, 1, 2, 4, 0] rfl)
        exact LOOP_12 _ w1 w2 v_11 gn gb gl gh _ _ _ (Nat.lt_succ_self _) (show 1 ≤ v_11.toInt ∧ v_11.toInt ≤ 6 by omega) (hby) hP hD hS (lv_sub hl [1, 2, 3, 4, 0] rfl)
  exact LOOP_8 _ r_5 (-9) 0 Gno_1 Gby_2 Glo_3 Ghi_4 _ _ _ (Nat.lt_succ_self _) (by decide) (PBY) hP hD hS (lv_sub hl [3, 2, 1, 0] rfl)
