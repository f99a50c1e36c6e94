set_option maxRecDepth 20000 in
theorem ggX2_start_X1_copy : GoodIn wsX2_start wsX1_copy := goodIn_r _ [6, 7, 8, 9, 10, 11, 12, 13, 14, 15, 16, 17, 21, 22, 23, 24, 25, 26, 27, 28] rfl (by decide +kernel)
set_option maxRecDepth 20000 in
theorem gX2_start_X1_copy : GoodIn wsX2_start (wsV RX2 28 RX1 yX1_copy wsX1_copy) := goodIn_app (goodIn_r _ [2, 3, 4, 5] rfl (by decide +kernel)) ggX2_start_X1_copy
theorem dX2_start_0 : decode cX2_start 0 = .ok (.aload_n 0, 1) := by decide +kernel
theorem dX2_start_1 : decode cX2_start 1 = .ok (.getfield 24, 3) := by decide +kernel
theorem dX2_start_4 : decode cX2_start 4 = .ok (.aload_n 1, 1) := by decide +kernel
theorem dX2_start_5 : decode cX2_start 5 = .ok (.invokevirtual 28, 3) := by decide +kernel
theorem dX2_start_8 : decode cX2_start 8 = .ok (.return_, 1) := by decide +kernel
theorem dX2_addBlank_0 : decode cX2_addBlank 0 = .ok (.aload_n 0, 1) := by decide +kernel
theorem dX2_addBlank_1 : decode cX2_addBlank 1 = .ok (.getfield 15, 3) := by decide +kernel
theorem dX2_addBlank_4 : decode cX2_addBlank 4 = .ok (.getfield 32, 3) := by decide +kernel
theorem dX2_addBlank_7 : decode cX2_addBlank 7 = .ok (.istore 5, 2) := by decide +kernel
theorem dX2_addBlank_9 : decode cX2_addBlank 9 = .ok (.aload_n 0, 1) := by decide +kernel
theorem dX2_addBlank_10 : decode cX2_addBlank 10 = .ok (.getfield 15, 3) := by decide +kernel
theorem dX2_addBlank_13 : decode cX2_addBlank 13 = .ok (.getfield 38, 3) := by decide +kernel
theorem dX2_addBlank_16 : decode cX2_addBlank 16 = .ok (.iload 5, 2) := by decide +kernel
theorem dX2_addBlank_18 : decode cX2_addBlank 18 = .ok (.iload_n 3, 1) := by decide +kernel
theorem dX2_addBlank_19 : decode cX2_addBlank 19 = .ok (.iastore, 1) := by decide +kernel
theorem dX2_addBlank_20 : decode cX2_addBlank 20 = .ok (.aload_n 0, 1) := by decide +kernel
theorem dX2_addBlank_21 : decode cX2_addBlank 21 = .ok (.getfield 15, 3) := by decide +kernel
theorem dX2_addBlank_24 : decode cX2_addBlank 24 = .ok (.getfield 41, 3) := by decide +kernel
theorem dX2_addBlank_27 : decode cX2_addBlank 27 = .ok (.iload 5, 2) := by decide +kernel
theorem dX2_addBlank_29 : decode cX2_addBlank 29 = .ok (.iload 4, 2) := by decide +kernel
theorem dX2_addBlank_31 : decode cX2_addBlank 31 = .ok (.iastore, 1) := by decide +kernel
theorem dX2_addBlank_32 : decode cX2_addBlank 32 = .ok (.aload_n 0, 1) := by decide +kernel
theorem dX2_addBlank_33 : decode cX2_addBlank 33 = .ok (.getfield 24, 3) := by decide +kernel
theorem dX2_addBlank_36 : decode cX2_addBlank 36 = .ok (.getfield 44, 3) := by decide +kernel
theorem dX2_addBlank_39 : decode cX2_addBlank 39 = .ok (.iload 5, 2) := by decide +kernel
theorem dX2_addBlank_41 : decode cX2_addBlank 41 = .ok (.iload_n 2, 1) := by decide +kernel
theorem dX2_addBlank_42 : decode cX2_addBlank 42 = .ok (.iastore, 1) := by decide +kernel
theorem dX2_addBlank_43 : decode cX2_addBlank 43 = .ok (.aload_n 0, 1) := by decide +kernel
theorem dX2_addBlank_44 : decode cX2_addBlank 44 = .ok (.getfield 24, 3) := by decide +kernel
theorem dX2_addBlank_47 : decode cX2_addBlank 47 = .ok (.getfield 47, 3) := by decide +kernel
theorem dX2_addBlank_50 : decode cX2_addBlank 50 = .ok (.iload 5, 2) := by decide +kernel
theorem dX2_addBlank_52 : decode cX2_addBlank 52 = .ok (.iload_n 1, 1) := by decide +kernel
theorem dX2_addBlank_53 : decode cX2_addBlank 53 = .ok (.iastore, 1) := by decide +kernel
theorem dX2_addBlank_54 : decode cX2_addBlank 54 = .ok (.aload_n 0, 1) := by decide +kernel
theorem dX2_addBlank_55 : decode cX2_addBlank 55 = .ok (.getfield 24, 3) := by decide +kernel
theorem dX2_addBlank_58 : decode cX2_addBlank 58 = .ok (.iload 5, 2) := by decide +kernel
theorem dX2_addBlank_60 : decode cX2_addBlank 60 = .ok (.iconst 1, 1) := by decide +kernel
theorem dX2_addBlank_61 : decode cX2_addBlank 61 = .ok (.iadd, 1) := by decide +kernel
theorem dX2_addBlank_62 : decode cX2_addBlank 62 = .ok (.putfield 50, 3) := by decide +kernel
theorem dX2_addBlank_65 : decode cX2_addBlank 65 = .ok (.iload 5, 2) := by decide +kernel
theorem dX2_addBlank_67 : decode cX2_addBlank 67 = .ok (.ireturn, 1) := by decide +kernel
set_option maxRecDepth 20000 in
theorem ggX2_passDaysTo_X1_passDay : GoodIn wsX2_passDaysTo wsX1_passDay := goodIn_r _ [8, 9, 10, 11, 12, 13, 14, 15, 7, 16, 17, 18, 19, 20, 21, 22, 23, 24, 25, 26, 27, 28, 29, 30, 31, 32, 33, 34, 35, 36, 37, 38, 39, 40, 41, 42, 43, 44, 45, 46, 47, 48, 49, 50, 54, 55, 56, 57, 58, 59, 60, 61, 62, 63, 64, 65, 66, 67, 68, 69, 70, 71] rfl (by decide +kernel)
set_option maxRecDepth 20000 in
theorem gX2_passDaysTo_X1_passDay : GoodIn wsX2_passDaysTo (wsV RX2 54 RX1 yX1_passDay wsX1_passDay) := goodIn_app (goodIn_r _ [4, 5, 6, 7] rfl (by decide +kernel)) ggX2_passDaysTo_X1_passDay
theorem dX2_passDaysTo_0 : decode cX2_passDaysTo 0 = .ok (.aload_n 0, 1) := by decide +kernel
theorem dX2_passDaysTo_1 : decode cX2_passDaysTo 1 = .ok (.getfield 24, 3) := by decide +kernel
theorem dX2_passDaysTo_4 : decode cX2_passDaysTo 4 = .ok (.getfield 51, 3) := by decide +kernel
theorem dX2_passDaysTo_7 : decode cX2_passDaysTo 7 = .ok (.istore_n 2, 1) := by decide +kernel
theorem dX2_passDaysTo_8 : decode cX2_passDaysTo 8 = .ok (.iload_n 2, 1) := by decide +kernel
theorem dX2_passDaysTo_9 : decode cX2_passDaysTo 9 = .ok (.iload_n 1, 1) := by decide +kernel
theorem dX2_passDaysTo_10 : decode cX2_passDaysTo 10 = .ok (.if_icmp .ge 21, 3) := by decide +kernel
theorem dX2_passDaysTo_13 : decode cX2_passDaysTo 13 = .ok (.aload_n 0, 1) := by decide +kernel
theorem dX2_passDaysTo_14 : decode cX2_passDaysTo 14 = .ok (.getfield 24, 3) := by decide +kernel
theorem dX2_passDaysTo_17 : decode cX2_passDaysTo 17 = .ok (.aload_n 0, 1) := by decide +kernel
theorem dX2_passDaysTo_18 : decode cX2_passDaysTo 18 = .ok (.getfield 9, 3) := by decide +kernel
theorem dX2_passDaysTo_21 : decode cX2_passDaysTo 21 = .ok (.invokevirtual 54, 3) := by decide +kernel
theorem dX2_passDaysTo_24 : decode cX2_passDaysTo 24 = .ok (.pop, 1) := by decide +kernel
theorem dX2_passDaysTo_25 : decode cX2_passDaysTo 25 = .ok (.iinc 2 1, 3) := by decide +kernel
theorem dX2_passDaysTo_28 : decode cX2_passDaysTo 28 = .ok (.goto (-20), 3) := by decide +kernel
theorem dX2_passDaysTo_31 : decode cX2_passDaysTo 31 = .ok (.return_, 1) := by decide +kernel
set_option maxRecDepth 20000 in
theorem ggX2_journeysToEnd_X1_passDay : GoodIn wsX2_journeysToEnd wsX1_passDay := goodIn_r _ [8, 9, 10, 11, 12, 13, 14, 15, 7, 16, 17, 18, 19, 20, 21, 22, 23, 24, 25, 26, 27, 28, 29, 30, 31, 32, 33, 34, 35, 36, 37, 38, 39, 40, 41, 42, 43, 44, 45, 46, 47, 48, 49, 50, 61, 62, 63, 64, 65, 66, 67, 68, 69, 70, 71, 72, 73, 74, 75, 76, 77, 78] rfl (by decide +kernel)
set_option maxRecDepth 20000 in
theorem gX2_journeysToEnd_X1_passDay : GoodIn wsX2_journeysToEnd (wsV RX2 54 RX1 yX1_passDay wsX1_passDay) := goodIn_app (goodIn_r _ [4, 5, 6, 7] rfl (by decide +kernel)) ggX2_journeysToEnd_X1_passDay
set_option maxRecDepth 20000 in
theorem ggX2_journeysToEnd_J6_bitCount_0f7a4 : GoodIn wsX2_journeysToEnd wsJ6_bitCount_0f7a4 := goodIn_r _ [54, 55, 56, 57] rfl (by decide +kernel)
set_option maxRecDepth 20000 in
theorem gX2_journeysToEnd_J6_bitCount_0f7a4 : GoodIn wsX2_journeysToEnd (va_wsS RX2 58 yJ6_bitCount_0f7a4 wsJ6_bitCount_0f7a4) := goodIn_app (goodIn_of _ (by decide +kernel)) ggX2_journeysToEnd_J6_bitCount_0f7a4
theorem dX2_journeysToEnd_0 : decode cX2_journeysToEnd 0 = .ok (.iconst 0, 1) := by decide +kernel
theorem dX2_journeysToEnd_1 : decode cX2_journeysToEnd 1 = .ok (.istore_n 1, 1) := by decide +kernel
theorem dX2_journeysToEnd_2 : decode cX2_journeysToEnd 2 = .ok (.aload_n 0, 1) := by decide +kernel
theorem dX2_journeysToEnd_3 : decode cX2_journeysToEnd 3 = .ok (.getfield 24, 3) := by decide +kernel
theorem dX2_journeysToEnd_6 : decode cX2_journeysToEnd 6 = .ok (.getfield 51, 3) := by decide +kernel
theorem dX2_journeysToEnd_9 : decode cX2_journeysToEnd 9 = .ok (.istore_n 2, 1) := by decide +kernel
theorem dX2_journeysToEnd_10 : decode cX2_journeysToEnd 10 = .ok (.iload_n 2, 1) := by decide +kernel
theorem dX2_journeysToEnd_11 : decode cX2_journeysToEnd 11 = .ok (.bipush 10, 2) := by decide +kernel
theorem dX2_journeysToEnd_13 : decode cX2_journeysToEnd 13 = .ok (.if_icmp .ge 26, 3) := by decide +kernel
theorem dX2_journeysToEnd_16 : decode cX2_journeysToEnd 16 = .ok (.iload_n 1, 1) := by decide +kernel
theorem dX2_journeysToEnd_17 : decode cX2_journeysToEnd 17 = .ok (.aload_n 0, 1) := by decide +kernel
theorem dX2_journeysToEnd_18 : decode cX2_journeysToEnd 18 = .ok (.getfield 24, 3) := by decide +kernel
theorem dX2_journeysToEnd_21 : decode cX2_journeysToEnd 21 = .ok (.aload_n 0, 1) := by decide +kernel
theorem dX2_journeysToEnd_22 : decode cX2_journeysToEnd 22 = .ok (.getfield 9, 3) := by decide +kernel
theorem dX2_journeysToEnd_25 : decode cX2_journeysToEnd 25 = .ok (.invokevirtual 54, 3) := by decide +kernel
theorem dX2_journeysToEnd_28 : decode cX2_journeysToEnd 28 = .ok (.invokestatic 58, 3) := by decide +kernel
theorem dX2_journeysToEnd_31 : decode cX2_journeysToEnd 31 = .ok (.iadd, 1) := by decide +kernel
theorem dX2_journeysToEnd_32 : decode cX2_journeysToEnd 32 = .ok (.istore_n 1, 1) := by decide +kernel
theorem dX2_journeysToEnd_33 : decode cX2_journeysToEnd 33 = .ok (.iinc 2 1, 3) := by decide +kernel
theorem dX2_journeysToEnd_36 : decode cX2_journeysToEnd 36 = .ok (.goto (-26), 3) := by decide +kernel
theorem dX2_journeysToEnd_39 : decode cX2_journeysToEnd 39 = .ok (.iload_n 1, 1) := by decide +kernel
theorem dX2_journeysToEnd_40 : decode cX2_journeysToEnd 40 = .ok (.ireturn, 1) := by decide +kernel
set_option maxRecDepth 20000 in
theorem ggX2_gladAtEnd_X2_passDaysTo : GoodIn wsX2_gladAtEnd wsX2_passDaysTo := goodIn_r _ [6, 1, 7, 8, 9, 10, 11, 12, 13, 14, 15, 16, 17, 18, 19, 20, 21, 22, 23, 24, 25, 26, 27, 28, 29, 30, 31, 32, 33, 34, 35, 36, 37, 38, 39, 40, 41, 42, 43, 44, 45, 46, 47, 48, 49, 50, 51, 52, 53, 54, 55, 61, 62, 63, 64, 65, 66, 67, 68, 69, 70, 71, 72, 73, 74, 75, 76, 77, 78, 79, 80, 81] rfl (by decide +kernel)
set_option maxRecDepth 20000 in
theorem gX2_gladAtEnd_X2_passDaysTo : GoodIn wsX2_gladAtEnd (wsV RX2 64 RX2 yX2_passDaysTo wsX2_passDaysTo) := goodIn_app (goodIn_r _ [2, 3, 4, 5] rfl (by decide +kernel)) ggX2_gladAtEnd_X2_passDaysTo
set_option maxRecDepth 20000 in
theorem ggX2_gladAtEnd_X1_gladNow : GoodIn wsX2_gladAtEnd wsX1_gladNow := goodIn_r _ [59, 14, 15, 16, 60, 64, 65, 66, 67, 68, 69, 70, 71, 72, 73, 74, 75, 76, 77, 78, 79, 80, 81] rfl (by decide +kernel)
set_option maxRecDepth 20000 in
theorem gX2_gladAtEnd_X1_gladNow : GoodIn wsX2_gladAtEnd (wsV RX2 68 RX1 yX1_gladNow wsX1_gladNow) := goodIn_app (goodIn_r _ [56, 57, 58, 12] rfl (by decide +kernel)) ggX2_gladAtEnd_X1_gladNow
theorem dX2_gladAtEnd_0 : decode cX2_gladAtEnd 0 = .ok (.aload_n 0, 1) := by decide +kernel
theorem dX2_gladAtEnd_1 : decode cX2_gladAtEnd 1 = .ok (.bipush 10, 2) := by decide +kernel
theorem dX2_gladAtEnd_3 : decode cX2_gladAtEnd 3 = .ok (.invokevirtual 64, 3) := by decide +kernel
theorem dX2_gladAtEnd_6 : decode cX2_gladAtEnd 6 = .ok (.aload_n 0, 1) := by decide +kernel
theorem dX2_gladAtEnd_7 : decode cX2_gladAtEnd 7 = .ok (.getfield 24, 3) := by decide +kernel
theorem dX2_gladAtEnd_10 : decode cX2_gladAtEnd 10 = .ok (.invokevirtual 68, 3) := by decide +kernel
theorem dX2_gladAtEnd_13 : decode cX2_gladAtEnd 13 = .ok (.ireturn, 1) := by decide +kernel
set_option maxRecDepth 20000 in
theorem ggX2_firstMeeting_X1_passDay : GoodIn wsX2_firstMeeting wsX1_passDay := goodIn_r _ [8, 9, 10, 11, 12, 13, 14, 15, 7, 16, 17, 18, 19, 20, 21, 22, 23, 24, 25, 26, 27, 28, 29, 30, 31, 32, 33, 34, 35, 36, 37, 38, 39, 40, 41, 42, 43, 44, 45, 46, 47, 48, 49, 50, 78, 79, 80, 81, 82, 83, 84, 85, 86, 87, 88, 89, 90, 91, 92, 93, 94, 95] rfl (by decide +kernel)
set_option maxRecDepth 20000 in
theorem gX2_firstMeeting_X1_passDay : GoodIn wsX2_firstMeeting (wsV RX2 54 RX1 yX1_passDay wsX1_passDay) := goodIn_app (goodIn_r _ [4, 5, 6, 7] rfl (by decide +kernel)) ggX2_firstMeeting_X1_passDay
set_option maxRecDepth 20000 in
theorem ggX2_firstMeeting_X2_wentTogether : GoodIn wsX2_firstMeeting wsX2_wentTogether := goodIn_r _ [55, 3, 1, 56, 57, 58, 59, 60, 61, 62, 63, 36, 37, 7, 38, 17, 64, 65, 66, 54, 67, 68, 69, 70, 71, 72, 73, 74, 75, 76, 77, 78, 79, 80, 81, 82, 83, 84, 85, 86, 87, 88, 89, 90, 91, 92, 93, 94, 95] rfl (by decide +kernel)
set_option maxRecDepth 20000 in
theorem gX2_firstMeeting_X2_wentTogether : GoodIn wsX2_firstMeeting (wsV RX2 72 RX2 yX2_wentTogether wsX2_wentTogether) := goodIn_app (goodIn_r _ [51, 52, 53, 54] rfl (by decide +kernel)) ggX2_firstMeeting_X2_wentTogether
theorem dX2_firstMeeting_0 : decode cX2_firstMeeting 0 = .ok (.aload_n 0, 1) := by decide +kernel
theorem dX2_firstMeeting_1 : decode cX2_firstMeeting 1 = .ok (.getfield 24, 3) := by decide +kernel
theorem dX2_firstMeeting_4 : decode cX2_firstMeeting 4 = .ok (.getfield 51, 3) := by decide +kernel
theorem dX2_firstMeeting_7 : decode cX2_firstMeeting 7 = .ok (.istore_n 3, 1) := by decide +kernel
theorem dX2_firstMeeting_8 : decode cX2_firstMeeting 8 = .ok (.iload_n 3, 1) := by decide +kernel
theorem dX2_firstMeeting_9 : decode cX2_firstMeeting 9 = .ok (.bipush 10, 2) := by decide +kernel
theorem dX2_firstMeeting_11 : decode cX2_firstMeeting 11 = .ok (.if_icmp .ge 32, 3) := by decide +kernel
theorem dX2_firstMeeting_14 : decode cX2_firstMeeting 14 = .ok (.aload_n 0, 1) := by decide +kernel
theorem dX2_firstMeeting_15 : decode cX2_firstMeeting 15 = .ok (.getfield 24, 3) := by decide +kernel
theorem dX2_firstMeeting_18 : decode cX2_firstMeeting 18 = .ok (.aload_n 0, 1) := by decide +kernel
theorem dX2_firstMeeting_19 : decode cX2_firstMeeting 19 = .ok (.getfield 9, 3) := by decide +kernel
theorem dX2_firstMeeting_22 : decode cX2_firstMeeting 22 = .ok (.invokevirtual 54, 3) := by decide +kernel
theorem dX2_firstMeeting_25 : decode cX2_firstMeeting 25 = .ok (.pop, 1) := by decide +kernel
theorem dX2_firstMeeting_26 : decode cX2_firstMeeting 26 = .ok (.aload_n 0, 1) := by decide +kernel
theorem dX2_firstMeeting_27 : decode cX2_firstMeeting 27 = .ok (.iload_n 1, 1) := by decide +kernel
theorem dX2_firstMeeting_28 : decode cX2_firstMeeting 28 = .ok (.iload_n 2, 1) := by decide +kernel
theorem dX2_firstMeeting_29 : decode cX2_firstMeeting 29 = .ok (.invokevirtual 72, 3) := by decide +kernel
theorem dX2_firstMeeting_32 : decode cX2_firstMeeting 32 = .ok (.ifCond .eq 5, 3) := by decide +kernel
theorem dX2_firstMeeting_35 : decode cX2_firstMeeting 35 = .ok (.iload_n 3, 1) := by decide +kernel
theorem dX2_firstMeeting_36 : decode cX2_firstMeeting 36 = .ok (.ireturn, 1) := by decide +kernel
theorem dX2_firstMeeting_37 : decode cX2_firstMeeting 37 = .ok (.iinc 3 1, 3) := by decide +kernel
theorem dX2_firstMeeting_40 : decode cX2_firstMeeting 40 = .ok (.goto (-32), 3) := by decide +kernel
theorem dX2_firstMeeting_43 : decode cX2_firstMeeting 43 = .ok (.bipush (-9), 2) := by decide +kernel
theorem dX2_firstMeeting_45 : decode cX2_firstMeeting 45 = .ok (.ireturn, 1) := by decide +kernel
set_option maxRecDepth 20000 in
theorem ggX2_firstDouble_X1_passDay : GoodIn wsX2_firstDouble wsX1_passDay := goodIn_r _ [8, 9, 10, 11, 12, 13, 14, 15, 7, 16, 17, 18, 19, 20, 21, 22, 23, 24, 25, 26, 27, 28, 29, 30, 31, 32, 33, 34, 35, 36, 37, 38, 39, 40, 41, 42, 43, 44, 45, 46, 47, 48, 49, 50, 88, 89, 90, 91, 92, 93, 94, 95, 96, 97, 98, 99, 100, 101, 102, 103, 104, 105] rfl (by decide +kernel)
set_option maxRecDepth 20000 in
theorem gX2_firstDouble_X1_passDay : GoodIn wsX2_firstDouble (wsV RX2 54 RX1 yX1_passDay wsX1_passDay) := goodIn_app (goodIn_r _ [4, 5, 6, 7] rfl (by decide +kernel)) ggX2_firstDouble_X1_passDay
set_option maxRecDepth 20000 in
theorem ggX2_firstDouble_X2_barredSeats : GoodIn wsX2_firstDouble wsX2_barredSeats := goodIn_r _ [55, 56, 57, 3, 58, 59, 60, 54, 61, 1, 62, 63, 64, 65, 66, 67, 68, 69, 36, 37, 7, 38, 17, 70, 71, 72, 73, 74, 75, 76, 77, 78, 79, 80, 81, 82, 83, 84, 85, 86, 87, 96, 97, 98, 99, 100, 101, 102, 103, 104, 105, 88, 89, 90, 91, 92, 93, 94, 95] rfl (by decide +kernel)
set_option maxRecDepth 20000 in
theorem gX2_firstDouble_X2_barredSeats : GoodIn wsX2_firstDouble (wsV RX2 76 RX2 yX2_barredSeats wsX2_barredSeats) := goodIn_app (goodIn_r _ [51, 52, 53, 54] rfl (by decide +kernel)) ggX2_firstDouble_X2_barredSeats
theorem dX2_firstDouble_0 : decode cX2_firstDouble 0 = .ok (.aload_n 0, 1) := by decide +kernel
theorem dX2_firstDouble_1 : decode cX2_firstDouble 1 = .ok (.getfield 24, 3) := by decide +kernel
theorem dX2_firstDouble_4 : decode cX2_firstDouble 4 = .ok (.getfield 51, 3) := by decide +kernel
theorem dX2_firstDouble_7 : decode cX2_firstDouble 7 = .ok (.istore_n 1, 1) := by decide +kernel
theorem dX2_firstDouble_8 : decode cX2_firstDouble 8 = .ok (.iload_n 1, 1) := by decide +kernel
theorem dX2_firstDouble_9 : decode cX2_firstDouble 9 = .ok (.bipush 10, 2) := by decide +kernel
theorem dX2_firstDouble_11 : decode cX2_firstDouble 11 = .ok (.if_icmp .ge 32, 3) := by decide +kernel
theorem dX2_firstDouble_14 : decode cX2_firstDouble 14 = .ok (.aload_n 0, 1) := by decide +kernel
theorem dX2_firstDouble_15 : decode cX2_firstDouble 15 = .ok (.getfield 24, 3) := by decide +kernel
theorem dX2_firstDouble_18 : decode cX2_firstDouble 18 = .ok (.aload_n 0, 1) := by decide +kernel
theorem dX2_firstDouble_19 : decode cX2_firstDouble 19 = .ok (.getfield 9, 3) := by decide +kernel
theorem dX2_firstDouble_22 : decode cX2_firstDouble 22 = .ok (.invokevirtual 54, 3) := by decide +kernel
theorem dX2_firstDouble_25 : decode cX2_firstDouble 25 = .ok (.pop, 1) := by decide +kernel
theorem dX2_firstDouble_26 : decode cX2_firstDouble 26 = .ok (.aload_n 0, 1) := by decide +kernel
theorem dX2_firstDouble_27 : decode cX2_firstDouble 27 = .ok (.bipush (-9), 2) := by decide +kernel
theorem dX2_firstDouble_29 : decode cX2_firstDouble 29 = .ok (.invokevirtual 76, 3) := by decide +kernel
theorem dX2_firstDouble_32 : decode cX2_firstDouble 32 = .ok (.ifCond .eq 5, 3) := by decide +kernel
theorem dX2_firstDouble_35 : decode cX2_firstDouble 35 = .ok (.iload_n 1, 1) := by decide +kernel
theorem dX2_firstDouble_36 : decode cX2_firstDouble 36 = .ok (.ireturn, 1) := by decide +kernel
theorem dX2_firstDouble_37 : decode cX2_firstDouble 37 = .ok (.iinc 1 1, 3) := by decide +kernel
theorem dX2_firstDouble_40 : decode cX2_firstDouble 40 = .ok (.goto (-32), 3) := by decide +kernel
theorem dX2_firstDouble_43 : decode cX2_firstDouble 43 = .ok (.bipush (-9), 2) := by decide +kernel
theorem dX2_firstDouble_45 : decode cX2_firstDouble 45 = .ok (.ireturn, 1) := by decide +kernel
set_option maxRecDepth 20000 in
theorem ggX2_wentTogether_X1_hasTicket : GoodIn wsX2_wentTogether wsX1_hasTicket := goodIn_r _ [14, 15, 31, 32, 33, 34, 35, 36, 37, 38] rfl (by decide +kernel)
set_option maxRecDepth 20000 in
theorem gX2_wentTogether_X1_hasTicket : GoodIn wsX2_wentTogether (wsV RX2 79 RX1 yX1_hasTicket wsX1_hasTicket) := goodIn_app (goodIn_r _ [10, 11, 12, 13] rfl (by decide +kernel)) ggX2_wentTogether_X1_hasTicket
set_option maxRecDepth 20000 in
theorem ggX2_wentTogether_X2_lowEnd : GoodIn wsX2_wentTogether wsX2_lowEnd := goodIn_r _ [20, 21, 22, 23, 7, 8, 5, 9, 28, 29, 30, 39, 40, 41, 42, 43, 44, 45, 46, 47, 48] rfl (by decide +kernel)
set_option maxRecDepth 20000 in
theorem gX2_wentTogether_X2_lowEnd : GoodIn wsX2_wentTogether (wsV RX2 83 RX2 yX2_lowEnd wsX2_lowEnd) := goodIn_app (goodIn_r _ [16, 17, 18, 19] rfl (by decide +kernel)) ggX2_wentTogether_X2_lowEnd
set_option maxRecDepth 20000 in
theorem ggX2_wentTogether_X2_highEnd : GoodIn wsX2_wentTogether wsX2_highEnd := goodIn_r _ [27, 21, 22, 23, 3, 4, 5, 6, 28, 29, 30, 39, 40, 41, 42, 43, 44, 45, 46, 47, 48] rfl (by decide +kernel)
set_option maxRecDepth 20000 in
theorem gX2_wentTogether_X2_highEnd : GoodIn wsX2_wentTogether (wsV RX2 92 RX2 yX2_highEnd wsX2_highEnd) := goodIn_app (goodIn_r _ [24, 25, 26, 19] rfl (by decide +kernel)) ggX2_wentTogether_X2_highEnd
theorem dX2_wentTogether_0 : decode cX2_wentTogether 0 = .ok (.aload_n 0, 1) := by decide +kernel
theorem dX2_wentTogether_1 : decode cX2_wentTogether 1 = .ok (.getfield 9, 3) := by decide +kernel
theorem dX2_wentTogether_4 : decode cX2_wentTogether 4 = .ok (.iload_n 1, 1) := by decide +kernel
theorem dX2_wentTogether_5 : decode cX2_wentTogether 5 = .ok (.iaload, 1) := by decide +kernel
theorem dX2_wentTogether_6 : decode cX2_wentTogether 6 = .ok (.istore_n 3, 1) := by decide +kernel
theorem dX2_wentTogether_7 : decode cX2_wentTogether 7 = .ok (.aload_n 0, 1) := by decide +kernel
theorem dX2_wentTogether_8 : decode cX2_wentTogether 8 = .ok (.getfield 9, 3) := by decide +kernel
theorem dX2_wentTogether_11 : decode cX2_wentTogether 11 = .ok (.iload_n 2, 1) := by decide +kernel
theorem dX2_wentTogether_12 : decode cX2_wentTogether 12 = .ok (.iaload, 1) := by decide +kernel
theorem dX2_wentTogether_13 : decode cX2_wentTogether 13 = .ok (.istore 4, 2) := by decide +kernel
theorem dX2_wentTogether_15 : decode cX2_wentTogether 15 = .ok (.aload_n 0, 1) := by decide +kernel
theorem dX2_wentTogether_16 : decode cX2_wentTogether 16 = .ok (.getfield 24, 3) := by decide +kernel
theorem dX2_wentTogether_19 : decode cX2_wentTogether 19 = .ok (.iload_n 3, 1) := by decide +kernel
theorem dX2_wentTogether_20 : decode cX2_wentTogether 20 = .ok (.invokevirtual 79, 3) := by decide +kernel
theorem dX2_wentTogether_23 : decode cX2_wentTogether 23 = .ok (.ifCond .eq 15, 3) := by decide +kernel
theorem dX2_wentTogether_26 : decode cX2_wentTogether 26 = .ok (.aload_n 0, 1) := by decide +kernel
theorem dX2_wentTogether_27 : decode cX2_wentTogether 27 = .ok (.getfield 24, 3) := by decide +kernel
theorem dX2_wentTogether_30 : decode cX2_wentTogether 30 = .ok (.iload 4, 2) := by decide +kernel
theorem dX2_wentTogether_32 : decode cX2_wentTogether 32 = .ok (.invokevirtual 79, 3) := by decide +kernel
theorem dX2_wentTogether_35 : decode cX2_wentTogether 35 = .ok (.ifCond .ne 5, 3) := by decide +kernel
theorem dX2_wentTogether_38 : decode cX2_wentTogether 38 = .ok (.iconst 0, 1) := by decide +kernel
theorem dX2_wentTogether_39 : decode cX2_wentTogether 39 = .ok (.ireturn, 1) := by decide +kernel
theorem dX2_wentTogether_40 : decode cX2_wentTogether 40 = .ok (.aload_n 0, 1) := by decide +kernel
theorem dX2_wentTogether_41 : decode cX2_wentTogether 41 = .ok (.iload_n 3, 1) := by decide +kernel
theorem dX2_wentTogether_42 : decode cX2_wentTogether 42 = .ok (.invokevirtual 83, 3) := by decide +kernel
theorem dX2_wentTogether_45 : decode cX2_wentTogether 45 = .ok (.aload_n 0, 1) := by decide +kernel
theorem dX2_wentTogether_46 : decode cX2_wentTogether 46 = .ok (.iload 4, 2) := by decide +kernel
theorem dX2_wentTogether_48 : decode cX2_wentTogether 48 = .ok (.invokevirtual 83, 3) := by decide +kernel
theorem dX2_wentTogether_51 : decode cX2_wentTogether 51 = .ok (.invokestatic 86, 3) := by decide +kernel
theorem dX2_wentTogether_54 : decode cX2_wentTogether 54 = .ok (.aload_n 0, 1) := by decide +kernel
theorem dX2_wentTogether_55 : decode cX2_wentTogether 55 = .ok (.iload_n 3, 1) := by decide +kernel
theorem dX2_wentTogether_56 : decode cX2_wentTogether 56 = .ok (.invokevirtual 92, 3) := by decide +kernel
theorem dX2_wentTogether_59 : decode cX2_wentTogether 59 = .ok (.aload_n 0, 1) := by decide +kernel
theorem dX2_wentTogether_60 : decode cX2_wentTogether 60 = .ok (.iload 4, 2) := by decide +kernel
theorem dX2_wentTogether_62 : decode cX2_wentTogether 62 = .ok (.invokevirtual 92, 3) := by decide +kernel
theorem dX2_wentTogether_65 : decode cX2_wentTogether 65 = .ok (.invokestatic 95, 3) := by decide +kernel
theorem dX2_wentTogether_68 : decode cX2_wentTogether 68 = .ok (.if_icmp .ge 7, 3) := by decide +kernel
theorem dX2_wentTogether_71 : decode cX2_wentTogether 71 = .ok (.iconst 1, 1) := by decide +kernel
theorem dX2_wentTogether_72 : decode cX2_wentTogether 72 = .ok (.goto 4, 3) := by decide +kernel
theorem dX2_wentTogether_75 : decode cX2_wentTogether 75 = .ok (.iconst 0, 1) := by decide +kernel
theorem dX2_wentTogether_76 : decode cX2_wentTogether 76 = .ok (.ireturn, 1) := by decide +kernel
theorem dX2_lowEnd_0 : decode cX2_lowEnd 0 = .ok (.aload_n 0, 1) := by decide +kernel
theorem dX2_lowEnd_1 : decode cX2_lowEnd 1 = .ok (.getfield 15, 3) := by decide +kernel
theorem dX2_lowEnd_4 : decode cX2_lowEnd 4 = .ok (.getfield 38, 3) := by decide +kernel
theorem dX2_lowEnd_7 : decode cX2_lowEnd 7 = .ok (.iload_n 1, 1) := by decide +kernel
theorem dX2_lowEnd_8 : decode cX2_lowEnd 8 = .ok (.iaload, 1) := by decide +kernel
theorem dX2_lowEnd_9 : decode cX2_lowEnd 9 = .ok (.aload_n 0, 1) := by decide +kernel
theorem dX2_lowEnd_10 : decode cX2_lowEnd 10 = .ok (.getfield 15, 3) := by decide +kernel
theorem dX2_lowEnd_13 : decode cX2_lowEnd 13 = .ok (.getfield 41, 3) := by decide +kernel
theorem dX2_lowEnd_16 : decode cX2_lowEnd 16 = .ok (.iload_n 1, 1) := by decide +kernel
theorem dX2_lowEnd_17 : decode cX2_lowEnd 17 = .ok (.iaload, 1) := by decide +kernel
theorem dX2_lowEnd_18 : decode cX2_lowEnd 18 = .ok (.invokestatic 95, 3) := by decide +kernel
theorem dX2_lowEnd_21 : decode cX2_lowEnd 21 = .ok (.ireturn, 1) := by decide +kernel
theorem dX2_highEnd_0 : decode cX2_highEnd 0 = .ok (.aload_n 0, 1) := by decide +kernel
theorem dX2_highEnd_1 : decode cX2_highEnd 1 = .ok (.getfield 15, 3) := by decide +kernel
theorem dX2_highEnd_4 : decode cX2_highEnd 4 = .ok (.getfield 38, 3) := by decide +kernel
theorem dX2_highEnd_7 : decode cX2_highEnd 7 = .ok (.iload_n 1, 1) := by decide +kernel
theorem dX2_highEnd_8 : decode cX2_highEnd 8 = .ok (.iaload, 1) := by decide +kernel
theorem dX2_highEnd_9 : decode cX2_highEnd 9 = .ok (.aload_n 0, 1) := by decide +kernel
theorem dX2_highEnd_10 : decode cX2_highEnd 10 = .ok (.getfield 15, 3) := by decide +kernel
theorem dX2_highEnd_13 : decode cX2_highEnd 13 = .ok (.getfield 41, 3) := by decide +kernel
theorem dX2_highEnd_16 : decode cX2_highEnd 16 = .ok (.iload_n 1, 1) := by decide +kernel
theorem dX2_highEnd_17 : decode cX2_highEnd 17 = .ok (.iaload, 1) := by decide +kernel
theorem dX2_highEnd_18 : decode cX2_highEnd 18 = .ok (.invokestatic 86, 3) := by decide +kernel
theorem dX2_highEnd_21 : decode cX2_highEnd 21 = .ok (.ireturn, 1) := by decide +kernel
set_option maxRecDepth 20000 in
theorem ggX2_barredSeats_X2_wentTogether : GoodIn wsX2_barredSeats wsX2_wentTogether := goodIn_r _ [8, 3, 9, 10, 11, 12, 13, 14, 15, 16, 17, 18, 19, 20, 21, 22, 23, 24, 25, 7, 26, 1, 27, 28, 29, 30, 31, 32, 38, 39, 40, 51, 52, 53, 54, 55, 56, 57, 58, 41, 42, 43, 44, 45, 46, 47, 48, 49, 50] rfl (by decide +kernel)
set_option maxRecDepth 20000 in
theorem gX2_barredSeats_X2_wentTogether : GoodIn wsX2_barredSeats (wsV RX2 72 RX2 yX2_wentTogether wsX2_wentTogether) := goodIn_app (goodIn_r _ [4, 5, 6, 7] rfl (by decide +kernel)) ggX2_barredSeats_X2_wentTogether
set_option maxRecDepth 20000 in
theorem ggX2_barredSeats_X2_barredByPair : GoodIn wsX2_barredSeats wsX2_barredByPair := goodIn_r _ [36, 1, 37, 38, 39, 40, 41, 42, 43, 44, 45, 46, 47, 48, 49, 50] rfl (by decide +kernel)
set_option maxRecDepth 20000 in
theorem gX2_barredSeats_X2_barredByPair : GoodIn wsX2_barredSeats (wsV RX2 101 RX2 yX2_barredByPair wsX2_barredByPair) := goodIn_app (goodIn_r _ [33, 34, 35, 7] rfl (by decide +kernel)) ggX2_barredSeats_X2_barredByPair
theorem dX2_barredSeats_0 : decode cX2_barredSeats 0 = .ok (.iconst 0, 1) := by decide +kernel
theorem dX2_barredSeats_1 : decode cX2_barredSeats 1 = .ok (.istore_n 2, 1) := by decide +kernel
theorem dX2_barredSeats_2 : decode cX2_barredSeats 2 = .ok (.iconst 0, 1) := by decide +kernel
theorem dX2_barredSeats_3 : decode cX2_barredSeats 3 = .ok (.istore_n 3, 1) := by decide +kernel
theorem dX2_barredSeats_4 : decode cX2_barredSeats 4 = .ok (.iload_n 3, 1) := by decide +kernel
theorem dX2_barredSeats_5 : decode cX2_barredSeats 5 = .ok (.aload_n 0, 1) := by decide +kernel
theorem dX2_barredSeats_6 : decode cX2_barredSeats 6 = .ok (.getfield 15, 3) := by decide +kernel
theorem dX2_barredSeats_9 : decode cX2_barredSeats 9 = .ok (.getfield 98, 3) := by decide +kernel
theorem dX2_barredSeats_12 : decode cX2_barredSeats 12 = .ok (.if_icmp .ge 63, 3) := by decide +kernel
theorem dX2_barredSeats_15 : decode cX2_barredSeats 15 = .ok (.iload_n 3, 1) := by decide +kernel
theorem dX2_barredSeats_16 : decode cX2_barredSeats 16 = .ok (.iconst 1, 1) := by decide +kernel
theorem dX2_barredSeats_17 : decode cX2_barredSeats 17 = .ok (.iadd, 1) := by decide +kernel
theorem dX2_barredSeats_18 : decode cX2_barredSeats 18 = .ok (.istore 4, 2) := by decide +kernel
theorem dX2_barredSeats_20 : decode cX2_barredSeats 20 = .ok (.iload 4, 2) := by decide +kernel
theorem dX2_barredSeats_22 : decode cX2_barredSeats 22 = .ok (.aload_n 0, 1) := by decide +kernel
theorem dX2_barredSeats_23 : decode cX2_barredSeats 23 = .ok (.getfield 15, 3) := by decide +kernel
theorem dX2_barredSeats_26 : decode cX2_barredSeats 26 = .ok (.getfield 98, 3) := by decide +kernel
theorem dX2_barredSeats_29 : decode cX2_barredSeats 29 = .ok (.if_icmp .ge 40, 3) := by decide +kernel
theorem dX2_barredSeats_32 : decode cX2_barredSeats 32 = .ok (.aload_n 0, 1) := by decide +kernel
theorem dX2_barredSeats_33 : decode cX2_barredSeats 33 = .ok (.iload_n 3, 1) := by decide +kernel
theorem dX2_barredSeats_34 : decode cX2_barredSeats 34 = .ok (.iload 4, 2) := by decide +kernel
theorem dX2_barredSeats_36 : decode cX2_barredSeats 36 = .ok (.invokevirtual 72, 3) := by decide +kernel
theorem dX2_barredSeats_39 : decode cX2_barredSeats 39 = .ok (.ifCond .eq 24, 3) := by decide +kernel
theorem dX2_barredSeats_42 : decode cX2_barredSeats 42 = .ok (.iload_n 2, 1) := by decide +kernel
theorem dX2_barredSeats_43 : decode cX2_barredSeats 43 = .ok (.aload_n 0, 1) := by decide +kernel
theorem dX2_barredSeats_44 : decode cX2_barredSeats 44 = .ok (.aload_n 0, 1) := by decide +kernel
theorem dX2_barredSeats_45 : decode cX2_barredSeats 45 = .ok (.getfield 9, 3) := by decide +kernel
theorem dX2_barredSeats_48 : decode cX2_barredSeats 48 = .ok (.iload_n 3, 1) := by decide +kernel
theorem dX2_barredSeats_49 : decode cX2_barredSeats 49 = .ok (.iaload, 1) := by decide +kernel
theorem dX2_barredSeats_50 : decode cX2_barredSeats 50 = .ok (.aload_n 0, 1) := by decide +kernel
theorem dX2_barredSeats_51 : decode cX2_barredSeats 51 = .ok (.getfield 9, 3) := by decide +kernel
theorem dX2_barredSeats_54 : decode cX2_barredSeats 54 = .ok (.iload 4, 2) := by decide +kernel
theorem dX2_barredSeats_56 : decode cX2_barredSeats 56 = .ok (.iaload, 1) := by decide +kernel
theorem dX2_barredSeats_57 : decode cX2_barredSeats 57 = .ok (.iload_n 1, 1) := by decide +kernel
theorem dX2_barredSeats_58 : decode cX2_barredSeats 58 = .ok (.invokevirtual 101, 3) := by decide +kernel
theorem dX2_barredSeats_61 : decode cX2_barredSeats 61 = .ok (.ior, 1) := by decide +kernel
theorem dX2_barredSeats_62 : decode cX2_barredSeats 62 = .ok (.istore_n 2, 1) := by decide +kernel
theorem dX2_barredSeats_63 : decode cX2_barredSeats 63 = .ok (.iinc 4 1, 3) := by decide +kernel
theorem dX2_barredSeats_66 : decode cX2_barredSeats 66 = .ok (.goto (-46), 3) := by decide +kernel
theorem dX2_barredSeats_69 : decode cX2_barredSeats 69 = .ok (.iinc 3 1, 3) := by decide +kernel
theorem dX2_barredSeats_72 : decode cX2_barredSeats 72 = .ok (.goto (-68), 3) := by decide +kernel
theorem dX2_barredSeats_75 : decode cX2_barredSeats 75 = .ok (.iload_n 2, 1) := by decide +kernel
theorem dX2_barredSeats_76 : decode cX2_barredSeats 76 = .ok (.ireturn, 1) := by decide +kernel
theorem dX2_barredByPair_0 : decode cX2_barredByPair 0 = .ok (.iload_n 1, 1) := by decide +kernel
theorem dX2_barredByPair_1 : decode cX2_barredByPair 1 = .ok (.iload_n 3, 1) := by decide +kernel
theorem dX2_barredByPair_2 : decode cX2_barredByPair 2 = .ok (.if_icmp .ne 15, 3) := by decide +kernel
theorem dX2_barredByPair_5 : decode cX2_barredByPair 5 = .ok (.iconst 1, 1) := by decide +kernel
theorem dX2_barredByPair_6 : decode cX2_barredByPair 6 = .ok (.aload_n 0, 1) := by decide +kernel
theorem dX2_barredByPair_7 : decode cX2_barredByPair 7 = .ok (.getfield 15, 3) := by decide +kernel
theorem dX2_barredByPair_10 : decode cX2_barredByPair 10 = .ok (.getfield 105, 3) := by decide +kernel
theorem dX2_barredByPair_13 : decode cX2_barredByPair 13 = .ok (.iload_n 2, 1) := by decide +kernel
theorem dX2_barredByPair_14 : decode cX2_barredByPair 14 = .ok (.iaload, 1) := by decide +kernel
theorem dX2_barredByPair_15 : decode cX2_barredByPair 15 = .ok (.ishl, 1) := by decide +kernel
theorem dX2_barredByPair_16 : decode cX2_barredByPair 16 = .ok (.ireturn, 1) := by decide +kernel
theorem dX2_barredByPair_17 : decode cX2_barredByPair 17 = .ok (.iload_n 2, 1) := by decide +kernel
theorem dX2_barredByPair_18 : decode cX2_barredByPair 18 = .ok (.iload_n 3, 1) := by decide +kernel
theorem dX2_barredByPair_19 : decode cX2_barredByPair 19 = .ok (.if_icmp .ne 15, 3) := by decide +kernel
theorem dX2_barredByPair_22 : decode cX2_barredByPair 22 = .ok (.iconst 1, 1) := by decide +kernel
theorem dX2_barredByPair_23 : decode cX2_barredByPair 23 = .ok (.aload_n 0, 1) := by decide +kernel
theorem dX2_barredByPair_24 : decode cX2_barredByPair 24 = .ok (.getfield 15, 3) := by decide +kernel
theorem dX2_barredByPair_27 : decode cX2_barredByPair 27 = .ok (.getfield 105, 3) := by decide +kernel
theorem dX2_barredByPair_30 : decode cX2_barredByPair 30 = .ok (.iload_n 1, 1) := by decide +kernel
theorem dX2_barredByPair_31 : decode cX2_barredByPair 31 = .ok (.iaload, 1) := by decide +kernel
theorem dX2_barredByPair_32 : decode cX2_barredByPair 32 = .ok (.ishl, 1) := by decide +kernel
theorem dX2_barredByPair_33 : decode cX2_barredByPair 33 = .ok (.ireturn, 1) := by decide +kernel
theorem dX2_barredByPair_34 : decode cX2_barredByPair 34 = .ok (.aload_n 0, 1) := by decide +kernel
theorem dX2_barredByPair_35 : decode cX2_barredByPair 35 = .ok (.getfield 15, 3) := by decide +kernel
theorem dX2_barredByPair_38 : decode cX2_barredByPair 38 = .ok (.getfield 105, 3) := by decide +kernel
theorem dX2_barredByPair_41 : decode cX2_barredByPair 41 = .ok (.iload_n 1, 1) := by decide +kernel
theorem dX2_barredByPair_42 : decode cX2_barredByPair 42 = .ok (.iaload, 1) := by decide +kernel
theorem dX2_barredByPair_43 : decode cX2_barredByPair 43 = .ok (.aload_n 0, 1) := by decide +kernel
theorem dX2_barredByPair_44 : decode cX2_barredByPair 44 = .ok (.getfield 15, 3) := by decide +kernel
theorem dX2_barredByPair_47 : decode cX2_barredByPair 47 = .ok (.getfield 105, 3) := by decide +kernel
theorem dX2_barredByPair_50 : decode cX2_barredByPair 50 = .ok (.iload_n 2, 1) := by decide +kernel
theorem dX2_barredByPair_51 : decode cX2_barredByPair 51 = .ok (.iaload, 1) := by decide +kernel
theorem dX2_barredByPair_52 : decode cX2_barredByPair 52 = .ok (.if_icmp .ne 9, 3) := by decide +kernel
theorem dX2_barredByPair_55 : decode cX2_barredByPair 55 = .ok (.sipush 1023, 3) := by decide +kernel
theorem dX2_barredByPair_58 : decode cX2_barredByPair 58 = .ok (.goto 4, 3) := by decide +kernel
theorem dX2_barredByPair_61 : decode cX2_barredByPair 61 = .ok (.iconst 0, 1) := by decide +kernel
theorem dX2_barredByPair_62 : decode cX2_barredByPair 62 = .ok (.ireturn, 1) := by decide +kernel
set_option maxHeartbeats 600000 in
set_option maxRecDepth 100000 in
theorem c_X2_start (l : Launch) (D : va_G) (cI cZ cM : ClassId) (h0 : Nat) (h1 : Nat) (tl : Nat) (mo : Nat) (rd : Nat) (ln : Nat) (md : Int32) (mt : Int32) (mr : Int32) (mg : Int32) (mat : Nat) (mfd : Nat) (mhd : Nat) (ql : Nat) (qd : Int32) (qt : Int32) (qr : Int32) (qg : Int32) (qat : Nat) (qfd : Nat) (qhd : Nat) (mFat : Nat → Int32) (mFfd : Nat → Int32) (mFhd : Nat → Int32) (qFat : Nat → Int32) (qFfd : Nat → Int32) (qFhd : Nat → Int32) (sz : Nat)  : Cv l yX2_start wsX2_start ({ frames := 2, cells := 0, slots := 0, locals := 47 } : Room) D cI cZ cM [.ref h0, .ref h1] [(h0, .inr (2, [.ref tl, .ref mo, .ref rd])), (mo, .inr (1, [.ref ln, .int md, .int mt, .int mr, .int mg, .ref mat, .ref mfd, .ref mhd])), (h1, .inr (1, [.ref ql, .int qd, .int qt, .int qr, .int qg, .ref qat, .ref qfd, .ref qhd])), (mat, .inl (cI, 5, .inl mFat)), (mfd, .inl (cI, 7, .inl mFfd)), (mhd, .inl (cI, 7, .inl mFhd)), (qat, .inl (cI, 5, .inl qFat)), (qfd, .inl (cI, 7, .inl qFfd)), (qhd, .inl (cI, 7, .inl qFhd))] sz (fun (u : (Nat → Int32) × (Nat → Int32) × (Nat → Int32)) => True) (fun u => [(h0, .inr (2, [.ref tl, .ref mo, .ref rd])), (mo, .inr (1, [.ref ln, .int qd, .int qt, .int qr, .int qg, .ref mat, .ref mfd, .ref mhd])), (h1, .inr (1, [.ref ql, .int qd, .int qt, .int qr, .int qg, .ref qat, .ref qfd, .ref qhd])), (mat, .inl (cI, 5, .inl u.1)), (mfd, .inl (cI, 7, .inl u.2.1)), (mhd, .inl (cI, 7, .inl u.2.2)), (qat, .inl (cI, 5, .inl qFat)), (qfd, .inl (cI, 7, .inl qFfd)), (qhd, .inl (cI, 7, .inl qFhd))]) 0 0 := by
  refine begins (l := l) (y := yX2_start) (ws := wsX2_start) (av := [.ref h0, .ref h1]) (Qc := fun A => va_Qv (fun (u : (Nat → Int32) × (Nat → Int32) × (Nat → Int32)) => True) (fun u => Wd D cI cZ cM A ((fun u => [(h0, .inr (2, [.ref tl, .ref mo, .ref rd])), (mo, .inr (1, [.ref ln, .int qd, .int qt, .int qr, .int qg, .ref mat, .ref mfd, .ref mhd])), (h1, .inr (1, [.ref ql, .int qd, .int qt, .int qr, .int qg, .ref qat, .ref qfd, .ref qhd])), (mat, .inl (cI, 5, .inl u.1)), (mfd, .inl (cI, 7, .inl u.2.1)), (mhd, .inl (cI, 7, .inl u.2.2)), (qat, .inl (cI, 5, .inl qFat)), (qfd, .inl (cI, 7, .inl qFfd)), (qhd, .inl (cI, 7, .inl qFhd))]) u)) A) cX2_start 2 none (by decide) rfl (Nat.le_of_ble_eq_true rfl) ?_
  intro p e s m args below meth c R Q A ls hBd hR hQ hA hS hK hP hD hl
  obtain ⟨hx, hb, hr, hts, hown, hlocks, hin, hml⟩ := hBd
  have hl : lv_has ls 2 [(0, .ref h0), (1, .ref h1)] := hl
  have iX2 : ∀ w ∈ wsX20, w ∈ wsX2_start := fun _ h => List.mem_cons_of_mem _ (List.mem_append_left _ (List.mem_append_right _ h))
  have iX1 : ∀ w ∈ wsX10, w ∈ wsX2_start := fun _ h => List.mem_cons_of_mem _ (List.mem_append_right _ h)
  refine lv_aload_n hx hb dX2_start_0 rfl (lv_at hl 0 rfl) ?_
  refine va_get (D := D) (ci := 2) (v := .ref mo) (C := RX2) (T := TX2) (N := 3) hx hb hts iX2 hown hK hP 0 rfl rfl 1 (by decide) (hts (.fieldLink RX2 24 "PunchedTicket$Trial" "moment" "LPunchedTicket$Moment;") (List.mem_of_getElem? (i := 1) rfl)) (fun _ h9 => h9) rfl dX2_start_1 ?_
  refine lv_aload_n hx hb dX2_start_4 rfl (lv_at hl 1 rfl) ?_
  refine cV_v (As := [.ref h1]) (rest := []) ⟨hx, hb, hml, hown, hts⟩ (c_X1_copy l D cI cZ cM mo h1 ln md mt mr mg mat mfd mhd ql qd qt qr qg qat qfd qhd mFat mFfd mFhd qFat qFfd qFhd _ ) (cwV 1 hts gX2_start_X1_copy rfl rfl rfl (by decide +kernel) ⟨by rw [hR]; decide, by rw [hR]; decide⟩) hK hP hD hS hA [1, 2, 3, 4, 5, 6, 7, 8] [0] rfl rfl (by decide) (by decide) (by decide) rfl 1 rfl hl.1 rfl rfl (Nat.le_of_ble_eq_true rfl) dX2_start_5 ⟨by rw [hR]; decide, by rw [hR]; decide⟩ (fun u_5 H locs hw hP hD hS => ?_)
  obtain ⟨Gat_1, Gfd_2, Ghd_3⟩ := u_5
  have hP : va_P D vwCl [(h0, .inr (2, [.ref tl, .ref mo, .ref rd])), (mo, .inr (1, [.ref ln, .int qd, .int qt, .int qr, .int qg, .ref mat, .ref mfd, .ref mhd])), (h1, .inr (1, [.ref ql, .int qd, .int qt, .int qr, .int qg, .ref qat, .ref qfd, .ref qhd])), (mat, .inl (cI, 5, .inl Gat_1)), (mfd, .inl (cI, 7, .inl Gfd_2)), (mhd, .inl (cI, 7, .inl Ghd_3)), (qat, .inl (cI, 5, .inl qFat)), (qfd, .inl (cI, 7, .inl qFfd)), (qhd, .inl (cI, 7, .inl qFhd))] H := hP.sub [0, 1, 2, 3, 4, 5, 6, 7, 8] rfl
  have hD : va_D A [(h0, .inr (2, [.ref tl, .ref mo, .ref rd])), (mo, .inr (1, [.ref ln, .int qd, .int qt, .int qr, .int qg, .ref mat, .ref mfd, .ref mhd])), (h1, .inr (1, [.ref ql, .int qd, .int qt, .int qr, .int qg, .ref qat, .ref qfd, .ref qhd])), (mat, .inl (cI, 5, .inl Gat_1)), (mfd, .inl (cI, 7, .inl Gfd_2)), (mhd, .inl (cI, 7, .inl Ghd_3)), (qat, .inl (cI, 5, .inl qFat)), (qfd, .inl (cI, 7, .inl qFfd)), (qhd, .inl (cI, 7, .inl qFhd))] := hD.sub [0, 1, 2, 3, 4, 5, 6, 7, 8] (by decide) rfl
  refine W.widen (k := 0) (n := 0) (Nat.le_refl _) (Nat.le_refl _) ?_
  exact ret_v (post := (fun (u : (Nat → Int32) × (Nat → Int32) × (Nat → Int32)) => True)) (W1 := (fun u => [(h0, .inr (2, [.ref tl, .ref mo, .ref rd])), (mo, .inr (1, [.ref ln, .int qd, .int qt, .int qr, .int qg, .ref mat, .ref mfd, .ref mhd])), (h1, .inr (1, [.ref ql, .int qd, .int qt, .int qr, .int qg, .ref qat, .ref qfd, .ref qhd])), (mat, .inl (cI, 5, .inl u.1)), (mfd, .inl (cI, 7, .inl u.2.1)), (mhd, .inl (cI, 7, .inl u.2.2)), (qat, .inl (cI, 5, .inl qFat)), (qfd, .inl (cI, 7, .inl qFfd)), (qhd, .inl (cI, 7, .inl qFhd))])) (Gat_1, Gfd_2, Ghd_3) hx hb hr hlocks hQ hK hP hD hS ⟨by decide, by decide⟩ dX2_start_8 trivial

set_option maxHeartbeats 600000 in
set_option maxRecDepth 100000 in
theorem c_X2_addBlank (l : Launch) (D : va_G) (cI cZ cM : ClassId) (h0 : Nat) (n : Int32) (k : Int32) (j : Int32) (z : Int32) (ln : Nat) (mo : Nat) (rd : Nat) (md : Int32) (mt : Int32) (mr : Int32) (mg : Int32) (mat : Nat) (mfd : Nat) (mhd : Nat) (lpe : Int32) (ltk : Int32) (lho : Nat) (lli : Nat) (lki : Nat) (lfd : Nat) (lfr : Nat) (lto : Nat) (lse : Nat) (lhl : Nat) (lFfr : Nat → Int32) (lFto : Nat → Int32) (mFfd : Nat → Int32) (mFhd : Nat → Int32) (sz : Nat) (h_ltk : 0 ≤ ltk.toInt ∧ ltk.toInt ≤ 6) : Ci l yX2_addBlank wsX2_addBlank ({ frames := 0, cells := 0, slots := 0, locals := 0 } : Room) D cI cZ cM [.ref h0, .int n, .int k, .int j, .int z] [(h0, .inr (2, [.ref ln, .ref mo, .ref rd])), (mo, .inr (1, [.ref ln, .int md, .int mt, .int mr, .int mg, .ref mat, .ref mfd, .ref mhd])), (ln, .inr (0, [.int lpe, .int ltk, .ref lho, .ref lli, .ref lki, .ref lfd, .ref lfr, .ref lto, .ref lse, .ref lhl])), (lfr, .inl (cI, 7, .inl lFfr)), (lto, .inl (cI, 7, .inl lFto)), (mfd, .inl (cI, 7, .inl mFfd)), (mhd, .inl (cI, 7, .inl mFhd))] sz (fun (r : Int32) (u : Int32 × (Nat → Int32) × (Nat → Int32) × (Nat → Int32) × (Nat → Int32)) => r.toInt = ltk.toInt ∧ u.1.toInt = ltk.toInt + 1) (fun u => [(h0, .inr (2, [.ref ln, .ref mo, .ref rd])), (mo, .inr (1, [.ref ln, .int md, .int u.1, .int mr, .int mg, .ref mat, .ref mfd, .ref mhd])), (ln, .inr (0, [.int lpe, .int ltk, .ref lho, .ref lli, .ref lki, .ref lfd, .ref lfr, .ref lto, .ref lse, .ref lhl])), (lfr, .inl (cI, 7, .inl u.2.1)), (lto, .inl (cI, 7, .inl u.2.2.1)), (mfd, .inl (cI, 7, .inl u.2.2.2.1)), (mhd, .inl (cI, 7, .inl u.2.2.2.2))]) 0 0 := by
  refine begins (l := l) (y := yX2_addBlank) (ws := wsX2_addBlank) (av := [.ref h0, .int n, .int k, .int j, .int z]) (Qc := fun A => va_Qi (fun (r : Int32) (u : Int32 × (Nat → Int32) × (Nat → Int32) × (Nat → Int32) × (Nat → Int32)) => r.toInt = ltk.toInt ∧ u.1.toInt = ltk.toInt + 1) (fun u => Wd D cI cZ cM A ((fun u => [(h0, .inr (2, [.ref ln, .ref mo, .ref rd])), (mo, .inr (1, [.ref ln, .int md, .int u.1, .int mr, .int mg, .ref mat, .ref mfd, .ref mhd])), (ln, .inr (0, [.int lpe, .int ltk, .ref lho, .ref lli, .ref lki, .ref lfd, .ref lfr, .ref lto, .ref lse, .ref lhl])), (lfr, .inl (cI, 7, .inl u.2.1)), (lto, .inl (cI, 7, .inl u.2.2.1)), (mfd, .inl (cI, 7, .inl u.2.2.2.1)), (mhd, .inl (cI, 7, .inl u.2.2.2.2))]) u)) A) cX2_addBlank 6 (some .int) (by decide) rfl (Nat.le_of_ble_eq_true rfl) ?_
  intro p e s m args below meth c R Q A ls hBd hR hQ hA hS hK hP hD hl
  obtain ⟨hx, hb, hr, hts, hown, hlocks, hin, hml⟩ := hBd
  have hl : lv_has ls 6 [(0, .ref h0), (1, .int n), (2, .int k), (3, .int j), (4, .int z)] := hl
  have iX2 : ∀ w ∈ wsX20, w ∈ wsX2_addBlank := fun _ h => List.mem_cons_of_mem _ (List.mem_append_left _ (List.mem_append_left _ (List.mem_append_right _ h)))
  have iX0 : ∀ w ∈ wsX00, w ∈ wsX2_addBlank := fun _ h => List.mem_cons_of_mem _ (List.mem_append_left _ (List.mem_append_right _ h))
  have iX1 : ∀ w ∈ wsX10, w ∈ wsX2_addBlank := fun _ h => List.mem_cons_of_mem _ (List.mem_append_right _ h)
  obtain ⟨h_ltka, h_ltkb⟩ := h_ltk
  refine lv_aload_n hx hb dX2_addBlank_0 rfl (lv_at hl 0 rfl) ?_
  refine va_get (D := D) (ci := 2) (v := .ref ln) (C := RX2) (T := TX2) (N := 3) hx hb hts iX2 hown hK hP 0 rfl rfl 0 (by decide) (hts (.fieldLink RX2 15 "PunchedTicket$Trial" "line" "LPunchedTicket$Line;") (List.mem_of_getElem? (i := 1) rfl)) (fun _ h9 => h9) rfl dX2_addBlank_1 ?_
  refine va_get (D := D) (ci := 0) (v := .int ltk) (C := RX0) (T := TX0) (N := 10) hx hb hts iX0 hown hK hP 2 rfl rfl 1 (by decide) (hts (.fieldLink RX2 32 "PunchedTicket$Line" "tickets" "I") (List.mem_of_getElem? (i := 2) rfl)) (fun _ h9 => h9) rfl dX2_addBlank_4 ?_
  refine lv_istore (lv' := [(5, .int ltk), (0, .ref h0), (1, .int n), (2, .int k), (3, .int j), (4, .int z)]) hx hb dX2_addBlank_7 hl (by decide) rfl (fun ls hl => ?_)
  refine lv_aload_n hx hb dX2_addBlank_9 rfl (lv_at hl 1 rfl) ?_
  refine va_get (D := D) (ci := 2) (v := .ref ln) (C := RX2) (T := TX2) (N := 3) hx hb hts iX2 hown hK hP 0 rfl rfl 0 (by decide) (hts (.fieldLink RX2 15 "PunchedTicket$Trial" "line" "LPunchedTicket$Line;") (List.mem_of_getElem? (i := 1) rfl)) (fun _ h9 => h9) rfl dX2_addBlank_10 ?_
  refine va_get (D := D) (ci := 0) (v := .ref lfr) (C := RX0) (T := TX0) (N := 10) hx hb hts iX0 hown hK hP 2 rfl rfl 6 (by decide) (hts (.fieldLink RX2 38 "PunchedTicket$Line" "from" "[I") (List.mem_of_getElem? (i := 3) rfl)) (fun _ h9 => h9) rfl dX2_addBlank_13 ?_
  refine lv_iload hx hb dX2_addBlank_16 (lv_at hl 0 rfl) ?_
  refine lv_iload_n hx hb dX2_addBlank_18 rfl (lv_at hl 4 rfl) ?_
  refine va_iast hx hb hK hP hD hS 3 0 rfl rfl (vp_in_iff.mpr ⟨by omega, by omega⟩) dX2_addBlank_19 (fun H locs hP hD hS => ?_)
  obtain ⟨f_1, ef_1⟩ : ∃ g : Nat → Int32, upd lFfr (ltk : Int32).toNatClampNeg j = g := ⟨_, rfl⟩
  rw [ef_1] at hP hD
  have hP : va_P D vwCl [(h0, .inr (2, [.ref ln, .ref mo, .ref rd])), (mo, .inr (1, [.ref ln, .int md, .int mt, .int mr, .int mg, .ref mat, .ref mfd, .ref mhd])), (ln, .inr (0, [.int lpe, .int ltk, .ref lho, .ref lli, .ref lki, .ref lfd, .ref lfr, .ref lto, .ref lse, .ref lhl])), (lfr, .inl (cI, 7, .inl f_1)), (lto, .inl (cI, 7, .inl lFto)), (mfd, .inl (cI, 7, .inl mFfd)), (mhd, .inl (cI, 7, .inl mFhd))] H := hP
  have hD : va_D A [(h0, .inr (2, [.ref ln, .ref mo, .ref rd])), (mo, .inr (1, [.ref ln, .int md, .int mt, .int mr, .int mg, .ref mat, .ref mfd, .ref mhd])), (ln, .inr (0, [.int lpe, .int ltk, .ref lho, .ref lli, .ref lki, .ref lfd, .ref lfr, .ref lto, .ref lse, .ref lhl])), (lfr, .inl (cI, 7, .inl f_1)), (lto, .inl (cI, 7, .inl lFto)), (mfd, .inl (cI, 7, .inl mFfd)), (mhd, .inl (cI, 7, .inl mFhd))] := hD
  refine lv_aload_n hx hb dX2_addBlank_20 rfl (lv_at hl 1 rfl) ?_
  refine va_get (D := D) (ci := 2) (v := .ref ln) (C := RX2) (T := TX2) (N := 3) hx hb hts iX2 hown hK hP 0 rfl rfl 0 (by decide) (hts (.fieldLink RX2 15 "PunchedTicket$Trial" "line" "LPunchedTicket$Line;") (List.mem_of_getElem? (i := 1) rfl)) (fun _ h9 => h9) rfl dX2_addBlank_21 ?_
  refine va_get (D := D) (ci := 0) (v := .ref lto) (C := RX0) (T := TX0) (N := 10) hx hb hts iX0 hown hK hP 2 rfl rfl 7 (by decide) (hts (.fieldLink RX2 41 "PunchedTicket$Line" "to" "[I") (List.mem_of_getElem? (i := 4) rfl)) (fun _ h9 => h9) rfl dX2_addBlank_24 ?_
  refine lv_iload hx hb dX2_addBlank_27 (lv_at hl 0 rfl) ?_
  refine lv_iload hx hb dX2_addBlank_29 (lv_at hl 5 rfl) ?_
  refine va_iast hx hb hK hP hD hS 4 0 rfl rfl (vp_in_iff.mpr ⟨by omega, by omega⟩) dX2_addBlank_31 (fun H locs hP hD hS => ?_)
  obtain ⟨f_2, ef_2⟩ : ∃ g : Nat → Int32, upd lFto (ltk : Int32).toNatClampNeg z = g := ⟨_, rfl⟩
  rw [ef_2] at hP hD
  have hP : va_P D vwCl [(h0, .inr (2, [.ref ln, .ref mo, .ref rd])), (mo, .inr (1, [.ref ln, .int md, .int mt, .int mr, .int mg, .ref mat, .ref mfd, .ref mhd])), (ln, .inr (0, [.int lpe, .int ltk, .ref lho, .ref lli, .ref lki, .ref lfd, .ref lfr, .ref lto, .ref lse, .ref lhl])), (lfr, .inl (cI, 7, .inl f_1)), (lto, .inl (cI, 7, .inl f_2)), (mfd, .inl (cI, 7, .inl mFfd)), (mhd, .inl (cI, 7, .inl mFhd))] H := hP
  have hD : va_D A [(h0, .inr (2, [.ref ln, .ref mo, .ref rd])), (mo, .inr (1, [.ref ln, .int md, .int mt, .int mr, .int mg, .ref mat, .ref mfd, .ref mhd])), (ln, .inr (0, [.int lpe, .int ltk, .ref lho, .ref lli, .ref lki, .ref lfd, .ref lfr, .ref lto, .ref lse, .ref lhl])), (lfr, .inl (cI, 7, .inl f_1)), (lto, .inl (cI, 7, .inl f_2)), (mfd, .inl (cI, 7, .inl mFfd)), (mhd, .inl (cI, 7, .inl mFhd))] := hD
  refine lv_aload_n hx hb dX2_addBlank_32 rfl (lv_at hl 1 rfl) ?_
  refine va_get (D := D) (ci := 2) (v := .ref mo) (C := RX2) (T := TX2) (N := 3) hx hb hts iX2 hown hK hP 0 rfl rfl 1 (by decide) (hts (.fieldLink RX2 24 "PunchedTicket$Trial" "moment" "LPunchedTicket$Moment;") (List.mem_of_getElem? (i := 5) rfl)) (fun _ h9 => h9) rfl dX2_addBlank_33 ?_
  refine va_get (D := D) (ci := 1) (v := .ref mfd) (C := RX1) (T := TX1) (N := 8) hx hb hts iX1 hown hK hP 1 rfl rfl 6 (by decide) (hts (.fieldLink RX2 44 "PunchedTicket$Moment" "forDay" "[I") (List.mem_of_getElem? (i := 6) rfl)) (fun _ h9 => h9) rfl dX2_addBlank_36 ?_
  refine lv_iload hx hb dX2_addBlank_39 (lv_at hl 0 rfl) ?_
  refine lv_iload_n hx hb dX2_addBlank_41 rfl (lv_at hl 3 rfl) ?_
  refine va_iast hx hb hK hP hD hS 5 0 rfl rfl (vp_in_iff.mpr ⟨by omega, by omega⟩) dX2_addBlank_42 (fun H locs hP hD hS => ?_)
  obtain ⟨f_3, ef_3⟩ : ∃ g : Nat → Int32, upd mFfd (ltk : Int32).toNatClampNeg k = g := ⟨_, rfl⟩
  rw [ef_3] at hP hD
  have hP : va_P D vwCl [(h0, .inr (2, [.ref ln, .ref mo, .ref rd])), (mo, .inr (1, [.ref ln, .int md, .int mt, .int mr, .int mg, .ref mat, .ref mfd, .ref mhd])), (ln, .inr (0, [.int lpe, .int ltk, .ref lho, .ref lli, .ref lki, .ref lfd, .ref lfr, .ref lto, .ref lse, .ref lhl])), (lfr, .inl (cI, 7, .inl f_1)), (lto, .inl (cI, 7, .inl f_2)), (mfd, .inl (cI, 7, .inl f_3)), (mhd, .inl (cI, 7, .inl mFhd))] H := hP
  have hD : va_D A [(h0, .inr (2, [.ref ln, .ref mo, .ref rd])), (mo, .inr (1, [.ref ln, .int md, .int mt, .int mr, .int mg, .ref mat, .ref mfd, .ref mhd])), (ln, .inr (0, [.int lpe, .int ltk, .ref lho, .ref lli, .ref lki, .ref lfd, .ref lfr, .ref lto, .ref lse, .ref lhl])), (lfr, .inl (cI, 7, .inl f_1)), (lto, .inl (cI, 7, .inl f_2)), (mfd, .inl (cI, 7, .inl f_3)), (mhd, .inl (cI, 7, .inl mFhd))] := hD
  refine lv_aload_n hx hb dX2_addBlank_43 rfl (lv_at hl 1 rfl) ?_
  refine va_get (D := D) (ci := 2) (v := .ref mo) (C := RX2) (T := TX2) (N := 3) hx hb hts iX2 hown hK hP 0 rfl rfl 1 (by decide) (hts (.fieldLink RX2 24 "PunchedTicket$Trial" "moment" "LPunchedTicket$Moment;") (List.mem_of_getElem? (i := 5) rfl)) (fun _ h9 => h9) rfl dX2_addBlank_44 ?_
  refine va_get (D := D) (ci := 1) (v := .ref mhd) (C := RX1) (T := TX1) (N := 8) hx hb hts iX1 hown hK hP 1 rfl rfl 7 (by decide) (hts (.fieldLink RX2 47 "PunchedTicket$Moment" "holder" "[I") (List.mem_of_getElem? (i := 7) rfl)) (fun _ h9 => h9) rfl dX2_addBlank_47 ?_
  refine lv_iload hx hb dX2_addBlank_50 (lv_at hl 0 rfl) ?_
  refine lv_iload_n hx hb dX2_addBlank_52 rfl (lv_at hl 2 rfl) ?_
  refine va_iast hx hb hK hP hD hS 6 0 rfl rfl (vp_in_iff.mpr ⟨by omega, by omega⟩) dX2_addBlank_53 (fun H locs hP hD hS => ?_)
  obtain ⟨f_4, ef_4⟩ : ∃ g : Nat → Int32, upd mFhd (ltk : Int32).toNatClampNeg n = g := ⟨_, rfl⟩
  rw [ef_4] at hP hD
  have hP : va_P D vwCl [(h0, .inr (2, [.ref ln, .ref mo, .ref rd])), (mo, .inr (1, [.ref ln, .int md, .int mt, .int mr, .int mg, .ref mat, .ref mfd, .ref mhd])), (ln, .inr (0, [.int lpe, .int ltk, .ref lho, .ref lli, .ref lki, .ref lfd, .ref lfr, .ref lto, .ref lse, .ref lhl])), (lfr, .inl (cI, 7, .inl f_1)), (lto, .inl (cI, 7, .inl f_2)), (mfd, .inl (cI, 7, .inl f_3)), (mhd, .inl (cI, 7, .inl f_4))] H := hP
  have hD : va_D A [(h0, .inr (2, [.ref ln, .ref mo, .ref rd])), (mo, .inr (1, [.ref ln, .int md, .int mt, .int mr, .int mg, .ref mat, .ref mfd, .ref mhd])), (ln, .inr (0, [.int lpe, .int ltk, .ref lho, .ref lli, .ref lki, .ref lfd, .ref lfr, .ref lto, .ref lse, .ref lhl])), (lfr, .inl (cI, 7, .inl f_1)), (lto, .inl (cI, 7, .inl f_2)), (mfd, .inl (cI, 7, .inl f_3)), (mhd, .inl (cI, 7, .inl f_4))] := hD
  refine lv_aload_n hx hb dX2_addBlank_54 rfl (lv_at hl 1 rfl) ?_
  refine va_get (D := D) (ci := 2) (v := .ref mo) (C := RX2) (T := TX2) (N := 3) hx hb hts iX2 hown hK hP 0 rfl rfl 1 (by decide) (hts (.fieldLink RX2 24 "PunchedTicket$Trial" "moment" "LPunchedTicket$Moment;") (List.mem_of_getElem? (i := 5) rfl)) (fun _ h9 => h9) rfl dX2_addBlank_55 ?_
  refine lv_iload hx hb dX2_addBlank_58 (lv_at hl 0 rfl) ?_
  refine lv_iconst (v := 1) hx hb dX2_addBlank_60 (by decide) ?_
  refine lv_iadd hx hb dX2_addBlank_61 ?_
  refine lv_topi (fun v_5 ev_5 => ?_)
  have tv_5 : v_5.toInt = ltk.toInt + (1 : Int) := by rw [ev_5]; exact ti_add (x := ltk) (y := 1) (show -2147483648 ≤ ltk.toInt + (1 : Int) by omega) (show ltk.toInt + (1 : Int) < 2147483648 by omega)
  refine va_put (D := D) (ci := 1) (v := .int v_5) (ty := .int) (C := RX1) (T := TX1) (N := 8) hx hb hts iX1 tyX1 tyX1_ok nmX1 hown hK hP hD hS 1 rfl rfl 2 (by decide) (hts (.fieldLink RX2 50 "PunchedTicket$Moment" "tickets" "I") (List.mem_of_getElem? (i := 8) rfl)) (fun _ h9 => h9) rfl (by decide +kernel) rfl rfl (Nat.le_of_ble_eq_true rfl) dX2_addBlank_62 (fun H locs hP hD hS => ?_)
  have hP : va_P D vwCl [(h0, .inr (2, [.ref ln, .ref mo, .ref rd])), (mo, .inr (1, [.ref ln, .int md, .int v_5, .int mr, .int mg, .ref mat, .ref mfd, .ref mhd])), (ln, .inr (0, [.int lpe, .int ltk, .ref lho, .ref lli, .ref lki, .ref lfd, .ref lfr, .ref lto, .ref lse, .ref lhl])), (lfr, .inl (cI, 7, .inl f_1)), (lto, .inl (cI, 7, .inl f_2)), (mfd, .inl (cI, 7, .inl f_3)), (mhd, .inl (cI, 7, .inl f_4))] H := hP
  have hD : va_D A [(h0, .inr (2, [.ref ln, .ref mo, .ref rd])), (mo, .inr (1, [.ref ln, .int md, .int v_5, .int mr, .int mg, .ref mat, .ref mfd, .ref mhd])), (ln, .inr (0, [.int lpe, .int ltk, .ref lho, .ref lli, .ref lki, .ref lfd, .ref lfr, .ref lto, .ref lse, .ref lhl])), (lfr, .inl (cI, 7, .inl f_1)), (lto, .inl (cI, 7, .inl f_2)), (mfd, .inl (cI, 7, .inl f_3)), (mhd, .inl (cI, 7, .inl f_4))] := hD
  refine lv_iload hx hb dX2_addBlank_65 (lv_at hl 0 rfl) ?_
  exact ret_i (post := (fun (r : Int32) (u : Int32 × (Nat → Int32) × (Nat → Int32) × (Nat → Int32) × (Nat → Int32)) => r.toInt = ltk.toInt ∧ u.1.toInt = ltk.toInt + 1)) (W1 := (fun u => [(h0, .inr (2, [.ref ln, .ref mo, .ref rd])), (mo, .inr (1, [.ref ln, .int md, .int u.1, .int mr, .int mg, .ref mat, .ref mfd, .ref mhd])), (ln, .inr (0, [.int lpe, .int ltk, .ref lho, .ref lli, .ref lki, .ref lfd, .ref lfr, .ref lto, .ref lse, .ref lhl])), (lfr, .inl (cI, 7, .inl u.2.1)), (lto, .inl (cI, 7, .inl u.2.2.1)), (mfd, .inl (cI, 7, .inl u.2.2.2.1)), (mhd, .inl (cI, 7, .inl u.2.2.2.2))])) (v_5, f_1, f_2, f_3, f_4) hx hb hr hlocks rfl hQ hK hP hD hS ⟨by decide, by decide⟩ dX2_addBlank_67 (show ltk.toInt = ltk.toInt ∧ v_5.toInt = ltk.toInt + 1 by omega)

set_option maxHeartbeats 600000 in
set_option maxRecDepth 100000 in
theorem c_X2_lowEnd (l : Launch) (D : va_G) (cI cZ cM : ClassId) (h0 : Nat) (n : Int32) (ln : Nat) (mo : Nat) (rd : Nat) (lpe : Int32) (ltk : Int32) (lho : Nat) (lli : Nat) (lki : Nat) (lfd : Nat) (lfr : Nat) (lto : Nat) (lse : Nat) (lhl : Nat) (lFfr : Nat → Int32) (lFto : Nat → Int32) (sz : Nat) (h_n : 0 ≤ n.toInt ∧ n.toInt ≤ 6) : Ci l yX2_lowEnd wsX2_lowEnd ({ frames := 1, cells := 0, slots := 0, locals := 23 } : Room) D cI cZ cM [.ref h0, .int n] [(h0, .inr (2, [.ref ln, .ref mo, .ref rd])), (ln, .inr (0, [.int lpe, .int ltk, .ref lho, .ref lli, .ref lki, .ref lfd, .ref lfr, .ref lto, .ref lse, .ref lhl])), (lfr, .inl (cI, 7, .inl lFfr)), (lto, .inl (cI, 7, .inl lFto))] sz (fun (r : Int32) (u : Unit) => True) (fun u => [(h0, .inr (2, [.ref ln, .ref mo, .ref rd])), (ln, .inr (0, [.int lpe, .int ltk, .ref lho, .ref lli, .ref lki, .ref lfd, .ref lfr, .ref lto, .ref lse, .ref lhl])), (lfr, .inl (cI, 7, .inl lFfr)), (lto, .inl (cI, 7, .inl lFto))]) 0 0 := by
  refine begins (l := l) (y := yX2_lowEnd) (ws := wsX2_lowEnd) (av := [.ref h0, .int n]) (Qc := fun A => va_Qi (fun (r : Int32) (u : Unit) => True) (fun u => Wd D cI cZ cM A ((fun u => [(h0, .inr (2, [.ref ln, .ref mo, .ref rd])), (ln, .inr (0, [.int lpe, .int ltk, .ref lho, .ref lli, .ref lki, .ref lfd, .ref lfr, .ref lto, .ref lse, .ref lhl])), (lfr, .inl (cI, 7, .inl lFfr)), (lto, .inl (cI, 7, .inl lFto))]) u)) A) cX2_lowEnd 2 (some .int) (by decide) rfl (Nat.le_of_ble_eq_true rfl) ?_
  intro p e s m args below meth c R Q A ls hBd hR hQ hA hS hK hP hD hl
  obtain ⟨hx, hb, hr, hts, hown, hlocks, hin, hml⟩ := hBd
  have hl : lv_has ls 2 [(0, .ref h0), (1, .int n)] := hl
  have iX2 : ∀ w ∈ wsX20, w ∈ wsX2_lowEnd := fun _ h => List.mem_cons_of_mem _ (List.mem_append_left _ (List.mem_append_right _ h))
  have iX0 : ∀ w ∈ wsX00, w ∈ wsX2_lowEnd := fun _ h => List.mem_cons_of_mem _ (List.mem_append_right _ h)
  obtain ⟨h_na, h_nb⟩ := h_n
  refine lv_aload_n hx hb dX2_lowEnd_0 rfl (lv_at hl 0 rfl) ?_
  refine va_get (D := D) (ci := 2) (v := .ref ln) (C := RX2) (T := TX2) (N := 3) hx hb hts iX2 hown hK hP 0 rfl rfl 0 (by decide) (hts (.fieldLink RX2 15 "PunchedTicket$Trial" "line" "LPunchedTicket$Line;") (List.mem_of_getElem? (i := 1) rfl)) (fun _ h9 => h9) rfl dX2_lowEnd_1 ?_
  refine va_get (D := D) (ci := 0) (v := .ref lfr) (C := RX0) (T := TX0) (N := 10) hx hb hts iX0 hown hK hP 1 rfl rfl 6 (by decide) (hts (.fieldLink RX2 38 "PunchedTicket$Line" "from" "[I") (List.mem_of_getElem? (i := 2) rfl)) (fun _ h9 => h9) rfl dX2_lowEnd_4 ?_
  refine lv_iload_n hx hb dX2_lowEnd_7 rfl (lv_at hl 1 rfl) ?_
  refine va_iald hx hb hK hP 2 0 rfl rfl (vp_in_iff.mpr ⟨by omega, by omega⟩) dX2_lowEnd_8 ?_
  refine lv_topi (fun v_1 ev_1 => ?_)
  refine lv_aload_n hx hb dX2_lowEnd_9 rfl (lv_at hl 0 rfl) ?_
  refine va_get (D := D) (ci := 2) (v := .ref ln) (C := RX2) (T := TX2) (N := 3) hx hb hts iX2 hown hK hP 0 rfl rfl 0 (by decide) (hts (.fieldLink RX2 15 "PunchedTicket$Trial" "line" "LPunchedTicket$Line;") (List.mem_of_getElem? (i := 1) rfl)) (fun _ h9 => h9) rfl dX2_lowEnd_10 ?_
  refine va_get (D := D) (ci := 0) (v := .ref lto) (C := RX0) (T := TX0) (N := 10) hx hb hts iX0 hown hK hP 1 rfl rfl 7 (by decide) (hts (.fieldLink RX2 41 "PunchedTicket$Line" "to" "[I") (List.mem_of_getElem? (i := 3) rfl)) (fun _ h9 => h9) rfl dX2_lowEnd_13 ?_
  refine lv_iload_n hx hb dX2_lowEnd_16 rfl (lv_at hl 1 rfl) ?_
  refine va_iald hx hb hK hP 3 0 rfl rfl (vp_in_iff.mpr ⟨by omega, by omega⟩) dX2_lowEnd_17 ?_
  refine lv_topi (fun v_2 ev_2 => ?_)
  refine va_mmin hx hb (hml.trans hl.1.symm) hown (hts (.methodLink RX2 95 Lib.Math.min.name) (List.mem_of_getElem? (i := 4) rfl)) (hts (.static Lib.Math.min.name) (List.mem_of_getElem? (i := 5) rfl)) (hts (.initialized "java/lang/Math") (List.mem_of_getElem? (i := 6) rfl)) (hts (.code Lib.Math.min.name Lib.Math.min.code 2 (some .int)) (List.mem_of_getElem? (i := 7) rfl)) (by rw [hR]; exact Nat.le_of_ble_eq_true rfl) (by rw [hR]; exact Nat.le_of_ble_eq_true rfl) (by rw [hR]; exact Nat.le_of_ble_eq_true rfl) (by rw [hR]; exact Nat.le_of_ble_eq_true rfl) dX2_lowEnd_18 ?_
  refine lv_topi (fun v_3 ev_3 => ?_)
  exact ret_i (post := (fun (r : Int32) (u : Unit) => True)) (W1 := (fun u => [(h0, .inr (2, [.ref ln, .ref mo, .ref rd])), (ln, .inr (0, [.int lpe, .int ltk, .ref lho, .ref lli, .ref lki, .ref lfd, .ref lfr, .ref lto, .ref lse, .ref lhl])), (lfr, .inl (cI, 7, .inl lFfr)), (lto, .inl (cI, 7, .inl lFto))])) () hx hb hr hlocks rfl hQ hK hP hD hS ⟨by decide, by decide⟩ dX2_lowEnd_21 trivial

set_option maxHeartbeats 600000 in
set_option maxRecDepth 100000 in
theorem c_X2_highEnd (l : Launch) (D : va_G) (cI cZ cM : ClassId) (h0 : Nat) (n : Int32) (ln : Nat) (mo : Nat) (rd : Nat) (lpe : Int32) (ltk : Int32) (lho : Nat) (lli : Nat) (lki : Nat) (lfd : Nat) (lfr : Nat) (lto : Nat) (lse : Nat) (lhl : Nat) (lFfr : Nat → Int32) (lFto : Nat → Int32) (sz : Nat) (h_n : 0 ≤ n.toInt ∧ n.toInt ≤ 6) : Ci l yX2_highEnd wsX2_highEnd ({ frames := 1, cells := 0, slots := 0, locals := 23 } : Room) D cI cZ cM [.ref h0, .int n] [(h0, .inr (2, [.ref ln, .ref mo, .ref rd])), (ln, .inr (0, [.int lpe, .int ltk, .ref lho, .ref lli, .ref lki, .ref lfd, .ref lfr, .ref lto, .ref lse, .ref lhl])), (lfr, .inl (cI, 7, .inl lFfr)), (lto, .inl (cI, 7, .inl lFto))] sz (fun (r : Int32) (u : Unit) => True) (fun u => [(h0, .inr (2, [.ref ln, .ref mo, .ref rd])), (ln, .inr (0, [.int lpe, .int ltk, .ref lho, .ref lli, .ref lki, .ref lfd, .ref lfr, .ref lto, .ref lse, .ref lhl])), (lfr, .inl (cI, 7, .inl lFfr)), (lto, .inl (cI, 7, .inl lFto))]) 0 0 := by
  refine begins (l := l) (y := yX2_highEnd) (ws := wsX2_highEnd) (av := [.ref h0, .int n]) (Qc := fun A => va_Qi (fun (r : Int32) (u : Unit) => True) (fun u => Wd D cI cZ cM A ((fun u => [(h0, .inr (2, [.ref ln, .ref mo, .ref rd])), (ln, .inr (0, [.int lpe, .int ltk, .ref lho, .ref lli, .ref lki, .ref lfd, .ref lfr, .ref lto, .ref lse, .ref lhl])), (lfr, .inl (cI, 7, .inl lFfr)), (lto, .inl (cI, 7, .inl lFto))]) u)) A) cX2_highEnd 2 (some .int) (by decide) rfl (Nat.le_of_ble_eq_true rfl) ?_
  intro p e s m args below meth c R Q A ls hBd hR hQ hA hS hK hP hD hl
  obtain ⟨hx, hb, hr, hts, hown, hlocks, hin, hml⟩ := hBd
  have hl : lv_has ls 2 [(0, .ref h0), (1, .int n)] := hl
  have iX2 : ∀ w ∈ wsX20, w ∈ wsX2_highEnd := fun _ h => List.mem_cons_of_mem _ (List.mem_append_left _ (List.mem_append_right _ h))
  have iX0 : ∀ w ∈ wsX00, w ∈ wsX2_highEnd := fun _ h => List.mem_cons_of_mem _ (List.mem_append_right _ h)
  obtain ⟨h_na, h_nb⟩ := h_n
  refine lv_aload_n hx hb dX2_highEnd_0 rfl (lv_at hl 0 rfl) ?_
  refine va_get (D := D) (ci := 2) (v := .ref ln) (C := RX2) (T := TX2) (N := 3) hx hb hts iX2 hown hK hP 0 rfl rfl 0 (by decide) (hts (.fieldLink RX2 15 "PunchedTicket$Trial" "line" "LPunchedTicket$Line;") (List.mem_of_getElem? (i := 1) rfl)) (fun _ h9 => h9) rfl dX2_highEnd_1 ?_
  refine va_get (D := D) (ci := 0) (v := .ref lfr) (C := RX0) (T := TX0) (N := 10) hx hb hts iX0 hown hK hP 1 rfl rfl 6 (by decide) (hts (.fieldLink RX2 38 "PunchedTicket$Line" "from" "[I") (List.mem_of_getElem? (i := 2) rfl)) (fun _ h9 => h9) rfl dX2_highEnd_4 ?_
  refine lv_iload_n hx hb dX2_highEnd_7 rfl (lv_at hl 1 rfl) ?_
  refine va_iald hx hb hK hP 2 0 rfl rfl (vp_in_iff.mpr ⟨by omega, by omega⟩) dX2_highEnd_8 ?_
  refine lv_topi (fun v_1 ev_1 => ?_)
  refine lv_aload_n hx hb dX2_highEnd_9 rfl (lv_at hl 0 rfl) ?_
  refine va_get (D := D) (ci := 2) (v := .ref ln) (C := RX2) (T := TX2) (N := 3) hx hb hts iX2 hown hK hP 0 rfl rfl 0 (by decide) (hts (.fieldLink RX2 15 "PunchedTicket$Trial" "line" "LPunchedTicket$Line;") (List.mem_of_getElem? (i := 1) rfl)) (fun _ h9 => h9) rfl dX2_highEnd_10 ?_
  refine va_get (D := D) (ci := 0) (v := .ref lto) (C := RX0) (T := TX0) (N := 10) hx hb hts iX0 hown hK hP 1 rfl rfl 7 (by decide) (hts (.fieldLink RX2 41 "PunchedTicket$Line" "to" "[I") (List.mem_of_getElem? (i := 3) rfl)) (fun _ h9 => h9) rfl dX2_highEnd_13 ?_
  refine lv_iload_n hx hb dX2_highEnd_16 rfl (lv_at hl 1 rfl) ?_
  refine va_iald hx hb hK hP 3 0 rfl rfl (vp_in_iff.mpr ⟨by omega, by omega⟩) dX2_highEnd_17 ?_
  refine lv_topi (fun v_2 ev_2 => ?_)
  refine va_mmax hx hb (hml.trans hl.1.symm) hown (hts (.methodLink RX2 86 Lib.Math.max.name) (List.mem_of_getElem? (i := 4) rfl)) (hts (.static Lib.Math.max.name) (List.mem_of_getElem? (i := 5) rfl)) (hts (.initialized "java/lang/Math") (List.mem_of_getElem? (i := 6) rfl)) (hts (.code Lib.Math.max.name Lib.Math.max.code 2 (some .int)) (List.mem_of_getElem? (i := 7) rfl)) (by rw [hR]; exact Nat.le_of_ble_eq_true rfl) (by rw [hR]; exact Nat.le_of_ble_eq_true rfl) (by rw [hR]; exact Nat.le_of_ble_eq_true rfl) (by rw [hR]; exact Nat.le_of_ble_eq_true rfl) dX2_highEnd_18 ?_
  refine lv_topi (fun v_3 ev_3 => ?_)
  exact ret_i (post := (fun (r : Int32) (u : Unit) => True)) (W1 := (fun u => [(h0, .inr (2, [.ref ln, .ref mo, .ref rd])), (ln, .inr (0, [.int lpe, .int ltk, .ref lho, .ref lli, .ref lki, .ref lfd, .ref lfr, .ref lto, .ref lse, .ref lhl])), (lfr, .inl (cI, 7, .inl lFfr)), (lto, .inl (cI, 7, .inl lFto))])) () hx hb hr hlocks rfl hQ hK hP hD hS ⟨by decide, by decide⟩ dX2_highEnd_21 trivial

set_option maxHeartbeats 600000 in
set_option maxRecDepth 100000 in
theorem c_X2_wentTogether (l : Launch) (D : va_G) (cI cZ cM : ClassId) (h0 : Nat) (n : Int32) (k : Int32) (ln : Nat) (mo : Nat) (rd : Nat) (md : Int32) (mt : Int32) (mr : Int32) (mg : Int32) (mat : Nat) (mfd : Nat) (mhd : Nat) (lpe : Int32) (ltk : Int32) (lho : Nat) (lli : Nat) (lki : Nat) (lfd : Nat) (lfr : Nat) (lto : Nat) (lse : Nat) (lhl : Nat) (lFfr : Nat → Int32) (lFto : Nat → Int32) (Frd : Nat → Int32) (sz : Nat) (h_n : 0 ≤ n.toInt ∧ n.toInt ≤ 4) (h_k : 0 ≤ k.toInt ∧ k.toInt ≤ 4) (h_mt : 0 ≤ mt.toInt ∧ mt.toInt ≤ 7) : Ci l yX2_wentTogether wsX2_wentTogether ({ frames := 2, cells := 0, slots := 0, locals := 44 } : Room) D cI cZ cM [.ref h0, .int n, .int k] [(h0, .inr (2, [.ref ln, .ref mo, .ref rd])), (mo, .inr (1, [.ref ln, .int md, .int mt, .int mr, .int mg, .ref mat, .ref mfd, .ref mhd])), (ln, .inr (0, [.int lpe, .int ltk, .ref lho, .ref lli, .ref lki, .ref lfd, .ref lfr, .ref lto, .ref lse, .ref lhl])), (lfr, .inl (cI, 7, .inl lFfr)), (lto, .inl (cI, 7, .inl lFto)), (rd, .inl (cI, 5, .inl Frd))] sz (fun (r : Int32) (u : Unit) => r.toInt = 0 ∨ (r.toInt = 1 ∧ 0 ≤ (Frd n.toNatClampNeg).toInt ∧ (Frd n.toNatClampNeg).toInt ≤ 6 ∧ 0 ≤ (Frd k.toNatClampNeg).toInt ∧ (Frd k.toNatClampNeg).toInt ≤ 6)) (fun u => [(h0, .inr (2, [.ref ln, .ref mo, .ref rd])), (mo, .inr (1, [.ref ln, .int md, .int mt, .int mr, .int mg, .ref mat, .ref mfd, .ref mhd])), (ln, .inr (0, [.int lpe, .int ltk, .ref lho, .ref lli, .ref lki, .ref lfd, .ref lfr, .ref lto, .ref lse, .ref lhl])), (lfr, .inl (cI, 7, .inl lFfr)), (lto, .inl (cI, 7, .inl lFto)), (rd, .inl (cI, 5, .inl Frd))]) 0 0 := by
  refine begins (l := l) (y := yX2_wentTogether) (ws := wsX2_wentTogether) (av := [.ref h0, .int n, .int k]) (Qc := fun A => va_Qi (fun (r : Int32) (u : Unit) => r.toInt = 0 ∨ (r.toInt = 1 ∧ 0 ≤ (Frd n.toNatClampNeg).toInt ∧ (Frd n.toNatClampNeg).toInt ≤ 6 ∧ 0 ≤ (Frd k.toNatClampNeg).toInt ∧ (Frd k.toNatClampNeg).toInt ≤ 6)) (fun u => Wd D cI cZ cM A ((fun u => [(h0, .inr (2, [.ref ln, .ref mo, .ref rd])), (mo, .inr (1, [.ref ln, .int md, .int mt, .int mr, .int mg, .ref mat, .ref mfd, .ref mhd])), (ln, .inr (0, [.int lpe, .int ltk, .ref lho, .ref lli, .ref lki, .ref lfd, .ref lfr, .ref lto, .ref lse, .ref lhl])), (lfr, .inl (cI, 7, .inl lFfr)), (lto, .inl (cI, 7, .inl lFto)), (rd, .inl (cI, 5, .inl Frd))]) u)) A) cX2_wentTogether 5 (some .boolean) (by decide) rfl (Nat.le_of_ble_eq_true rfl) ?_
  intro p e s m args below meth c R Q A ls hBd hR hQ hA hS hK hP hD hl
  obtain ⟨hx, hb, hr, hts, hown, hlocks, hin, hml⟩ := hBd
  have hl : lv_has ls 5 [(0, .ref h0), (1, .int n), (2, .int k)] := hl
  have iX2 : ∀ w ∈ wsX20, w ∈ wsX2_wentTogether := fun _ h => List.mem_cons_of_mem _ (List.mem_append_left _ (List.mem_append_left _ (List.mem_append_right _ h)))
  have iX1 : ∀ w ∈ wsX10, w ∈ wsX2_wentTogether := fun _ h => List.mem_cons_of_mem _ (List.mem_append_left _ (List.mem_append_right _ h))
  have iX0 : ∀ w ∈ wsX00, w ∈ wsX2_wentTogether := fun _ h => List.mem_cons_of_mem _ (List.mem_append_right _ h)
  obtain ⟨h_na, h_nb⟩ := h_n
  obtain ⟨h_ka, h_kb⟩ := h_k
  obtain ⟨h_mta, h_mtb⟩ := h_mt
  refine lv_aload_n hx hb dX2_wentTogether_0 rfl (lv_at hl 0 rfl) ?_
  refine va_get (D := D) (ci := 2) (v := .ref rd) (C := RX2) (T := TX2) (N := 3) hx hb hts iX2 hown hK hP 0 rfl rfl 2 (by decide) (hts (.fieldLink RX2 9 "PunchedTicket$Trial" "rides" "[I") (List.mem_of_getElem? (i := 1) rfl)) (fun _ h9 => h9) rfl dX2_wentTogether_1 ?_
  refine lv_iload_n hx hb dX2_wentTogether_4 rfl (lv_at hl 1 rfl) ?_
  refine va_iald hx hb hK hP 5 0 rfl rfl (vp_in_iff.mpr ⟨by omega, by omega⟩) dX2_wentTogether_5 ?_
  refine lv_topi (fun v_1 ev_1 => ?_)
  have tv_1 : v_1.toInt = (Frd n.toNatClampNeg).toInt := by rw [ev_1]
  refine lv_istore_n (lv' := [(3, .int v_1), (0, .ref h0), (1, .int n), (2, .int k)]) hx hb dX2_wentTogether_6 rfl hl (by decide) rfl (fun ls hl => ?_)
  refine lv_aload_n hx hb dX2_wentTogether_7 rfl (lv_at hl 1 rfl) ?_
  refine va_get (D := D) (ci := 2) (v := .ref rd) (C := RX2) (T := TX2) (N := 3) hx hb hts iX2 hown hK hP 0 rfl rfl 2 (by decide) (hts (.fieldLink RX2 9 "PunchedTicket$Trial" "rides" "[I") (List.mem_of_getElem? (i := 1) rfl)) (fun _ h9 => h9) rfl dX2_wentTogether_8 ?_
  refine lv_iload_n hx hb dX2_wentTogether_11 rfl (lv_at hl 3 rfl) ?_
  refine va_iald hx hb hK hP 5 0 rfl rfl (vp_in_iff.mpr ⟨by omega, by omega⟩) dX2_wentTogether_12 ?_
  refine lv_topi (fun v_2 ev_2 => ?_)
  have tv_2 : v_2.toInt = (Frd k.toNatClampNeg).toInt := by rw [ev_2]
  refine lv_istore (lv' := [(4, .int v_2), (3, .int v_1), (0, .ref h0), (1, .int n), (2, .int k)]) hx hb dX2_wentTogether_13 hl (by decide) rfl (fun ls hl => ?_)
  refine lv_aload_n hx hb dX2_wentTogether_15 rfl (lv_at hl 2 rfl) ?_
  refine va_get (D := D) (ci := 2) (v := .ref mo) (C := RX2) (T := TX2) (N := 3) hx hb hts iX2 hown hK hP 0 rfl rfl 1 (by decide) (hts (.fieldLink RX2 24 "PunchedTicket$Trial" "moment" "LPunchedTicket$Moment;") (List.mem_of_getElem? (i := 2) rfl)) (fun _ h9 => h9) rfl dX2_wentTogether_16 ?_
  refine lv_iload_n hx hb dX2_wentTogether_19 rfl (lv_at hl 1 rfl) ?_
  refine cV_i (As := [.int v_1]) (rest := []) ⟨hx, hb, hml, hown, hts⟩ (c_X1_hasTicket l D cI cZ cM mo v_1 ln md mt mr mg mat mfd mhd _ ) (cwV 1 hts gX2_wentTogether_X1_hasTicket rfl rfl rfl (by decide +kernel) ⟨by rw [hR]; decide, by rw [hR]; decide⟩) hK hP hD hS hA [1] [0, 2, 3, 4, 5] rfl rfl (by decide) (by decide) (by decide) rfl 1 rfl hl.1 rfl rfl (Nat.le_of_ble_eq_true rfl) dX2_wentTogether_20 ⟨by rw [hR]; decide, by rw [hR]; decide⟩ (fun r_3 u_4 H locs hw hP hD hS => ?_)
  have hP : va_P D vwCl [(h0, .inr (2, [.ref ln, .ref mo, .ref rd])), (mo, .inr (1, [.ref ln, .int md, .int mt, .int mr, .int mg, .ref mat, .ref mfd, .ref mhd])), (ln, .inr (0, [.int lpe, .int ltk, .ref lho, .ref lli, .ref lki, .ref lfd, .ref lfr, .ref lto, .ref lse, .ref lhl])), (lfr, .inl (cI, 7, .inl lFfr)), (lto, .inl (cI, 7, .inl lFto)), (rd, .inl (cI, 5, .inl Frd))] H := hP.sub [0, 5, 1, 2, 3, 4] rfl
  have hD : va_D A [(h0, .inr (2, [.ref ln, .ref mo, .ref rd])), (mo, .inr (1, [.ref ln, .int md, .int mt, .int mr, .int mg, .ref mat, .ref mfd, .ref mhd])), (ln, .inr (0, [.int lpe, .int ltk, .ref lho, .ref lli, .ref lki, .ref lfd, .ref lfr, .ref lto, .ref lse, .ref lhl])), (lfr, .inl (cI, 7, .inl lFfr)), (lto, .inl (cI, 7, .inl lFto)), (rd, .inl (cI, 5, .inl Frd))] := hD.sub [0, 5, 1, 2, 3, 4] (by decide) rfl
  refine W.widen (k := 0) (n := 0) (Nat.le_refl _) (Nat.le_refl _) ?_
  have hw : (r_3.toInt = 1 ∧ 0 ≤ v_1.toInt ∧ v_1.toInt < mt.toInt) ∨ (r_3.toInt = 0 ∧ (v_1.toInt < 0 ∨ mt.toInt ≤ v_1.toInt)) := hw
  have hw_5 := hw
  refine lv_if_eq (tgt := 38) hx hb dX2_wentTogether_23 (by decide) (fun c_6 => ?_) (fun c_6 => ?_)
  · have tc_6 := b_eq rfl (show (0 : Int32).toInt = 0 by decide) c_6
    refine lv_iconst (v := 0) hx hb dX2_wentTogether_38 (by decide) ?_
    exact ret_i (post := (fun (r : Int32) (u : Unit) => r.toInt = 0 ∨ (r.toInt = 1 ∧ 0 ≤ (Frd n.toNatClampNeg).toInt ∧ (Frd n.toNatClampNeg).toInt ≤ 6 ∧ 0 ≤ (Frd k.toNatClampNeg).toInt ∧ (Frd k.toNatClampNeg).toInt ≤ 6))) (W1 := (fun u => [(h0, .inr (2, [.ref ln, .ref mo, .ref rd])), (mo, .inr (1, [.ref ln, .int md, .int mt, .int mr, .int mg, .ref mat, .ref mfd, .ref mhd])), (ln, .inr (0, [.int lpe, .int ltk, .ref lho, .ref lli, .ref lki, .ref lfd, .ref lfr, .ref lto, .ref lse, .ref lhl])), (lfr, .inl (cI, 7, .inl lFfr)), (lto, .inl (cI, 7, .inl lFto)), (rd, .inl (cI, 5, .inl Frd))])) () hx hb hr hlocks rfl hQ hK hP hD hS ⟨by decide, by decide⟩ dX2_wentTogether_39 (show (0 : Int) = 0 ∨ ((0 : Int) = 1 ∧ 0 ≤ (Frd n.toNatClampNeg).toInt ∧ (Frd n.toNatClampNeg).toInt ≤ 6 ∧ 0 ≤ (Frd k.toNatClampNeg).toInt ∧ (Frd k.toNatClampNeg).toInt ≤ 6) by omega)
  · have tc_6 := b_ne rfl (show (0 : Int32).toInt = 0 by decide) c_6
    refine lv_aload_n hx hb dX2_wentTogether_26 rfl (lv_at hl 2 rfl) ?_
    refine va_get (D := D) (ci := 2) (v := .ref mo) (C := RX2) (T := TX2) (N := 3) hx hb hts iX2 hown hK hP 0 rfl rfl 1 (by decide) (hts (.fieldLink RX2 24 "PunchedTicket$Trial" "moment" "LPunchedTicket$Moment;") (List.mem_of_getElem? (i := 2) rfl)) (fun _ h9 => h9) rfl dX2_wentTogether_27 ?_
    refine lv_iload hx hb dX2_wentTogether_30 (lv_at hl 0 rfl) ?_
    refine cV_i (As := [.int v_2]) (rest := []) ⟨hx, hb, hml, hown, hts⟩ (c_X1_hasTicket l D cI cZ cM mo v_2 ln md mt mr mg mat mfd mhd _ ) (cwV 1 hts gX2_wentTogether_X1_hasTicket rfl rfl rfl (by decide +kernel) ⟨by rw [hR]; decide, by rw [hR]; decide⟩) hK hP hD hS hA [1] [0, 2, 3, 4, 5] rfl rfl (by decide) (by decide) (by decide) rfl 1 rfl hl.1 rfl rfl (Nat.le_of_ble_eq_true rfl) dX2_wentTogether_32 ⟨by rw [hR]; decide, by rw [hR]; decide⟩ (fun r_7 u_8 H locs hw hP hD hS => ?_)
    have hP : va_P D vwCl [(h0, .inr (2, [.ref ln, .ref mo, .ref rd])), (mo, .inr (1, [.ref ln, .int md, .int mt, .int mr, .int mg, .ref mat, .ref mfd, .ref mhd])), (ln, .inr (0, [.int lpe, .int ltk, .ref lho, .ref lli, .ref lki, .ref lfd, .ref lfr, .ref lto, .ref lse, .ref lhl])), (lfr, .inl (cI, 7, .inl lFfr)), (lto, .inl (cI, 7, .inl lFto)), (rd, .inl (cI, 5, .inl Frd))] H := hP.sub [0, 5, 1, 2, 3, 4] rfl
    have hD : va_D A [(h0, .inr (2, [.ref ln, .ref mo, .ref rd])), (mo, .inr (1, [.ref ln, .int md, .int mt, .int mr, .int mg, .ref mat, .ref mfd, .ref mhd])), (ln, .inr (0, [.int lpe, .int ltk, .ref lho, .ref lli, .ref lki, .ref lfd, .ref lfr, .ref lto, .ref lse, .ref lhl])), (lfr, .inl (cI, 7, .inl lFfr)), (lto, .inl (cI, 7, .inl lFto)), (rd, .inl (cI, 5, .inl Frd))] := hD.sub [0, 5, 1, 2, 3, 4] (by decide) rfl
    refine W.widen (k := 0) (n := 0) (Nat.le_refl _) (Nat.le_refl _) ?_
    have hw : (r_7.toInt = 1 ∧ 0 ≤ v_2.toInt ∧ v_2.toInt < mt.toInt) ∨ (r_7.toInt = 0 ∧ (v_2.toInt < 0 ∨ mt.toInt ≤ v_2.toInt)) := hw
    have hw_9 := hw
    refine lv_if_ne (tgt := 40) hx hb dX2_wentTogether_35 (by decide) (fun c_10 => ?_) (fun c_10 => ?_)
    · have tc_10 := b_ne rfl (show (0 : Int32).toInt = 0 by decide) c_10
      have h0v_1 : 0 ≤ v_1.toInt := by omega
      have h6v_1 : v_1.toInt ≤ 6 := by omega
      have h0v_2 : 0 ≤ v_2.toInt := by omega
      have h6v_2 : v_2.toInt ≤ 6 := by omega
      refine lv_aload_n hx hb dX2_wentTogether_40 rfl (lv_at hl 2 rfl) ?_
      refine lv_iload_n hx hb dX2_wentTogether_41 rfl (lv_at hl 1 rfl) ?_
      refine cV_i (As := [.int v_1]) (rest := []) ⟨hx, hb, hml, hown, hts⟩ (c_X2_lowEnd l D cI cZ cM h0 v_1 ln mo rd lpe ltk lho lli lki lfd lfr lto lse lhl lFfr lFto _ (show 0 ≤ v_1.toInt ∧ v_1.toInt ≤ 6 by omega)) (cwV 1 hts gX2_wentTogether_X2_lowEnd rfl rfl rfl (by decide +kernel) ⟨by rw [hR]; decide, by rw [hR]; decide⟩) hK hP hD hS hA [0, 2, 3, 4] [1, 5] rfl rfl (by decide) (by decide) (by decide) rfl 0 rfl hl.1 rfl rfl (Nat.le_of_ble_eq_true rfl) dX2_wentTogether_42 ⟨by rw [hR]; decide, by rw [hR]; decide⟩ (fun r_11 u_12 H locs hw hP hD hS => ?_)
      have hP : va_P D vwCl [(h0, .inr (2, [.ref ln, .ref mo, .ref rd])), (mo, .inr (1, [.ref ln, .int md, .int mt, .int mr, .int mg, .ref mat, .ref mfd, .ref mhd])), (ln, .inr (0, [.int lpe, .int ltk, .ref lho, .ref lli, .ref lki, .ref lfd, .ref lfr, .ref lto, .ref lse, .ref lhl])), (lfr, .inl (cI, 7, .inl lFfr)), (lto, .inl (cI, 7, .inl lFto)), (rd, .inl (cI, 5, .inl Frd))] H := hP.sub [2, 0, 3, 4, 5, 1] rfl
      have hD : va_D A [(h0, .inr (2, [.ref ln, .ref mo, .ref rd])), (mo, .inr (1, [.ref ln, .int md, .int mt, .int mr, .int mg, .ref mat, .ref mfd, .ref mhd])), (ln, .inr (0, [.int lpe, .int ltk, .ref lho, .ref lli, .ref lki, .ref lfd, .ref lfr, .ref lto, .ref lse, .ref lhl])), (lfr, .inl (cI, 7, .inl lFfr)), (lto, .inl (cI, 7, .inl lFto)), (rd, .inl (cI, 5, .inl Frd))] := hD.sub [2, 0, 3, 4, 5, 1] (by decide) rfl
      refine W.widen (k := 0) (n := 0) (Nat.le_refl _) (Nat.le_refl _) ?_
      refine lv_aload_n hx hb dX2_wentTogether_45 rfl (lv_at hl 2 rfl) ?_
      refine lv_iload hx hb dX2_wentTogether_46 (lv_at hl 0 rfl) ?_
      refine cV_i (As := [.int v_2]) (rest := [.int r_11]) ⟨hx, hb, hml, hown, hts⟩ (c_X2_lowEnd l D cI cZ cM h0 v_2 ln mo rd lpe ltk lho lli lki lfd lfr lto lse lhl lFfr lFto _ (show 0 ≤ v_2.toInt ∧ v_2.toInt ≤ 6 by omega)) (cwV 1 hts gX2_wentTogether_X2_lowEnd rfl rfl rfl (by decide +kernel) ⟨by rw [hR]; decide, by rw [hR]; decide⟩) hK hP hD hS hA [0, 2, 3, 4] [1, 5] rfl rfl (by decide) (by decide) (by decide) rfl 0 rfl hl.1 rfl rfl (Nat.le_of_ble_eq_true rfl) dX2_wentTogether_48 ⟨by rw [hR]; decide, by rw [hR]; decide⟩ (fun r_13 u_14 H locs hw hP hD hS => ?_)
      have hP : va_P D vwCl [(h0, .inr (2, [.ref ln, .ref mo, .ref rd])), (mo, .inr (1, [.ref ln, .int md, .int mt, .int mr, .int mg, .ref mat, .ref mfd, .ref mhd])), (ln, .inr (0, [.int lpe, .int ltk, .ref lho, .ref lli, .ref lki, .ref lfd, .ref lfr, .ref lto, .ref lse, .ref lhl])), (lfr, .inl (cI, 7, .inl lFfr)), (lto, .inl (cI, 7, .inl lFto)), (rd, .inl (cI, 5, .inl Frd))] H := hP.sub [2, 0, 3, 4, 5, 1] rfl
      have hD : va_D A [(h0, .inr (2, [.ref ln, .ref mo, .ref rd])), (mo, .inr (1, [.ref ln, .int md, .int mt, .int mr, .int mg, .ref mat, .ref mfd, .ref mhd])), (ln, .inr (0, [.int lpe, .int ltk, .ref lho, .ref lli, .ref lki, .ref lfd, .ref lfr, .ref lto, .ref lse, .ref lhl])), (lfr, .inl (cI, 7, .inl lFfr)), (lto, .inl (cI, 7, .inl lFto)), (rd, .inl (cI, 5, .inl Frd))] := hD.sub [2, 0, 3, 4, 5, 1] (by decide) rfl
      refine W.widen (k := 0) (n := 0) (Nat.le_refl _) (Nat.le_refl _) ?_
      refine va_mmax hx hb (hml.trans hl.1.symm) hown (hts (.methodLink RX2 86 Lib.Math.max.name) (List.mem_of_getElem? (i := 3) rfl)) (hts (.static Lib.Math.max.name) (List.mem_of_getElem? (i := 4) rfl)) (hts (.initialized "java/lang/Math") (List.mem_of_getElem? (i := 5) rfl)) (hts (.code Lib.Math.max.name Lib.Math.max.code 2 (some .int)) (List.mem_of_getElem? (i := 6) rfl)) (by rw [hR]; exact Nat.le_of_ble_eq_true rfl) (by rw [hR]; exact Nat.le_of_ble_eq_true rfl) (by rw [hR]; exact Nat.le_of_ble_eq_true rfl) (by rw [hR]; exact Nat.le_of_ble_eq_true rfl) dX2_wentTogether_51 ?_
      refine lv_topi (fun v_15 ev_15 => ?_)
      refine lv_aload_n hx hb dX2_wentTogether_54 rfl (lv_at hl 2 rfl) ?_
      refine lv_iload_n hx hb dX2_wentTogether_55 rfl (lv_at hl 1 rfl) ?_
      refine cV_i (As := [.int v_1]) (rest := [.int v_15]) ⟨hx, hb, hml, hown, hts⟩ (c_X2_highEnd l D cI cZ cM h0 v_1 ln mo rd lpe ltk lho lli lki lfd lfr lto lse lhl lFfr lFto _ (show 0 ≤ v_1.toInt ∧ v_1.toInt ≤ 6 by omega)) (cwV 1 hts gX2_wentTogether_X2_highEnd rfl rfl rfl (by decide +kernel) ⟨by rw [hR]; decide, by rw [hR]; decide⟩) hK hP hD hS hA [0, 2, 3, 4] [1, 5] rfl rfl (by decide) (by decide) (by decide) rfl 0 rfl hl.1 rfl rfl (Nat.le_of_ble_eq_true rfl) dX2_wentTogether_56 ⟨by rw [hR]; decide, by rw [hR]; decide⟩ (fun r_16 u_17 H locs hw hP hD hS => ?_)
      have hP : va_P D vwCl [(h0, .inr (2, [.ref ln, .ref mo, .ref rd])), (mo, .inr (1, [.ref ln, .int md, .int mt, .int mr, .int mg, .ref mat, .ref mfd, .ref mhd])), (ln, .inr (0, [.int lpe, .int ltk, .ref lho, .ref lli, .ref lki, .ref lfd, .ref lfr, .ref lto, .ref lse, .ref lhl])), (lfr, .inl (cI, 7, .inl lFfr)), (lto, .inl (cI, 7, .inl lFto)), (rd, .inl (cI, 5, .inl Frd))] H := hP.sub [2, 0, 3, 4, 5, 1] rfl
      have hD : va_D A [(h0, .inr (2, [.ref ln, .ref mo, .ref rd])), (mo, .inr (1, [.ref ln, .int md, .int mt, .int mr, .int mg, .ref mat, .ref mfd, .ref mhd])), (ln, .inr (0, [.int lpe, .int ltk, .ref lho, .ref lli, .ref lki, .ref lfd, .ref lfr, .ref lto, .ref lse, .ref lhl])), (lfr, .inl (cI, 7, .inl lFfr)), (lto, .inl (cI, 7, .inl lFto)), (rd, .inl (cI, 5, .inl Frd))] := hD.sub [2, 0, 3, 4, 5, 1] (by decide) rfl
      refine W.widen (k := 0) (n := 0) (Nat.le_refl _) (Nat.le_refl _) ?_
      refine lv_aload_n hx hb dX2_wentTogether_59 rfl (lv_at hl 2 rfl) ?_
      refine lv_iload hx hb dX2_wentTogether_60 (lv_at hl 0 rfl) ?_
      refine cV_i (As := [.int v_2]) (rest := [.int r_16, .int v_15]) ⟨hx, hb, hml, hown, hts⟩ (c_X2_highEnd l D cI cZ cM h0 v_2 ln mo rd lpe ltk lho lli lki lfd lfr lto lse lhl lFfr lFto _ (show 0 ≤ v_2.toInt ∧ v_2.toInt ≤ 6 by omega)) (cwV 1 hts gX2_wentTogether_X2_highEnd rfl rfl rfl (by decide +kernel) ⟨by rw [hR]; decide, by rw [hR]; decide⟩) hK hP hD hS hA [0, 2, 3, 4] [1, 5] rfl rfl (by decide) (by decide) (by decide) rfl 0 rfl hl.1 rfl rfl (Nat.le_of_ble_eq_true rfl) dX2_wentTogether_62 ⟨by rw [hR]; decide, by rw [hR]; decide⟩ (fun r_18 u_19 H locs hw hP hD hS => ?_)
      have hP : va_P D vwCl [(h0, .inr (2, [.ref ln, .ref mo, .ref rd])), (mo, .inr (1, [.ref ln, .int md, .int mt, .int mr, .int mg, .ref mat, .ref mfd, .ref mhd])), (ln, .inr (0, [.int lpe, .int ltk, .ref lho, .ref lli, .ref lki, .ref lfd, .ref lfr, .ref lto, .ref lse, .ref lhl])), (lfr, .inl (cI, 7, .inl lFfr)), (lto, .inl (cI, 7, .inl lFto)), (rd, .inl (cI, 5, .inl Frd))] H := hP.sub [2, 0, 3, 4, 5, 1] rfl
      have hD : va_D A [(h0, .inr (2, [.ref ln, .ref mo, .ref rd])), (mo, .inr (1, [.ref ln, .int md, .int mt, .int mr, .int mg, .ref mat, .ref mfd, .ref mhd])), (ln, .inr (0, [.int lpe, .int ltk, .ref lho, .ref lli, .ref lki, .ref lfd, .ref lfr, .ref lto, .ref lse, .ref lhl])), (lfr, .inl (cI, 7, .inl lFfr)), (lto, .inl (cI, 7, .inl lFto)), (rd, .inl (cI, 5, .inl Frd))] := hD.sub [2, 0, 3, 4, 5, 1] (by decide) rfl
      refine W.widen (k := 0) (n := 0) (Nat.le_refl _) (Nat.le_refl _) ?_
      refine va_mmin hx hb (hml.trans hl.1.symm) hown (hts (.methodLink RX2 95 Lib.Math.min.name) (List.mem_of_getElem? (i := 7) rfl)) (hts (.static Lib.Math.min.name) (List.mem_of_getElem? (i := 8) rfl)) (hts (.initialized "java/lang/Math") (List.mem_of_getElem? (i := 5) rfl)) (hts (.code Lib.Math.min.name Lib.Math.min.code 2 (some .int)) (List.mem_of_getElem? (i := 9) rfl)) (by rw [hR]; exact Nat.le_of_ble_eq_true rfl) (by rw [hR]; exact Nat.le_of_ble_eq_true rfl) (by rw [hR]; exact Nat.le_of_ble_eq_true rfl) (by rw [hR]; exact Nat.le_of_ble_eq_true rfl) dX2_wentTogether_65 ?_
      refine lv_topi (fun v_20 ev_20 => ?_)
      refine lv_icmp_ge (tgt := 75) hx hb dX2_wentTogether_68 (by decide) (fun c_21 => ?_) (fun c_21 => ?_)
      · have tc_21 := b_le rfl rfl c_21
        refine lv_iconst (v := 0) hx hb dX2_wentTogether_75 (by decide) ?_
        exact ret_i (post := (fun (r : Int32) (u : Unit) => r.toInt = 0 ∨ (r.toInt = 1 ∧ 0 ≤ (Frd n.toNatClampNeg).toInt ∧ (Frd n.toNatClampNeg).toInt ≤ 6 ∧ 0 ≤ (Frd k.toNatClampNeg).toInt ∧ (Frd k.toNatClampNeg).toInt ≤ 6))) (W1 := (fun u => [(h0, .inr (2, [.ref ln, .ref mo, .ref rd])), (mo, .inr (1, [.ref ln, .int md, .int mt, .int mr, .int mg, .ref mat, .ref mfd, .ref mhd])), (ln, .inr (0, [.int lpe, .int ltk, .ref lho, .ref lli, .ref lki, .ref lfd, .ref lfr, .ref lto, .ref lse, .ref lhl])), (lfr, .inl (cI, 7, .inl lFfr)), (lto, .inl (cI, 7, .inl lFto)), (rd, .inl (cI, 5, .inl Frd))])) () hx hb hr hlocks rfl hQ hK hP hD hS ⟨by decide, by decide⟩ dX2_wentTogether_76 (show (0 : Int) = 0 ∨ ((0 : Int) = 1 ∧ 0 ≤ (Frd n.toNatClampNeg).toInt ∧ (Frd n.toNatClampNeg).toInt ≤ 6 ∧ 0 ≤ (Frd k.toNatClampNeg).toInt ∧ (Frd k.toNatClampNeg).toInt ≤ 6) by omega)
      · have tc_21 := b_nle rfl rfl c_21
        refine lv_iconst (v := 1) hx hb dX2_wentTogether_71 (by decide) ?_
        refine lv_goto (tgt := 76) hx hb dX2_wentTogether_72 (by decide) ?_
        exact ret_i (post := (fun (r : Int32) (u : Unit) => r.toInt = 0 ∨ (r.toInt = 1 ∧ 0 ≤ (Frd n.toNatClampNeg).toInt ∧ (Frd n.toNatClampNeg).toInt ≤ 6 ∧ 0 ≤ (Frd k.toNatClampNeg).toInt ∧ (Frd k.toNatClampNeg).toInt ≤ 6))) (W1 := (fun u => [(h0, .inr (2, [.ref ln, .ref mo, .ref rd])), (mo, .inr (1, [.ref ln, .int md, .int mt, .int mr, .int mg, .ref mat, .ref mfd, .ref mhd])), (ln, .inr (0, [.int lpe, .int ltk, .ref lho, .ref lli, .ref lki, .ref lfd, .ref lfr, .ref lto, .ref lse, .ref lhl])), (lfr, .inl (cI, 7, .inl lFfr)), (lto, .inl (cI, 7, .inl lFto)), (rd, .inl (cI, 5, .inl Frd))])) () hx hb hr hlocks rfl hQ hK hP hD hS ⟨by decide, by decide⟩ dX2_wentTogether_76 (show (1 : Int) = 0 ∨ ((1 : Int) = 1 ∧ 0 ≤ (Frd n.toNatClampNeg).toInt ∧ (Frd n.toNatClampNeg).toInt ≤ 6 ∧ 0 ≤ (Frd k.toNatClampNeg).toInt ∧ (Frd k.toNatClampNeg).toInt ≤ 6) by omega)
    · have tc_10 := b_eq rfl (show (0 : Int32).toInt = 0 by decide) c_10
      refine lv_iconst (v := 0) hx hb dX2_wentTogether_38 (by decide) ?_
      exact ret_i (post := (fun (r : Int32) (u : Unit) => r.toInt = 0 ∨ (r.toInt = 1 ∧ 0 ≤ (Frd n.toNatClampNeg).toInt ∧ (Frd n.toNatClampNeg).toInt ≤ 6 ∧ 0 ≤ (Frd k.toNatClampNeg).toInt ∧ (Frd k.toNatClampNeg).toInt ≤ 6))) (W1 := (fun u => [(h0, .inr (2, [.ref ln, .ref mo, .ref rd])), (mo, .inr (1, [.ref ln, .int md, .int mt, .int mr, .int mg, .ref mat, .ref mfd, .ref mhd])), (ln, .inr (0, [.int lpe, .int ltk, .ref lho, .ref lli, .ref lki, .ref lfd, .ref lfr, .ref lto, .ref lse, .ref lhl])), (lfr, .inl (cI, 7, .inl lFfr)), (lto, .inl (cI, 7, .inl lFto)), (rd, .inl (cI, 5, .inl Frd))])) () hx hb hr hlocks rfl hQ hK hP hD hS ⟨by decide, by decide⟩ dX2_wentTogether_39 (show (0 : Int) = 0 ∨ ((0 : Int) = 1 ∧ 0 ≤ (Frd n.toNatClampNeg).toInt ∧ (Frd n.toNatClampNeg).toInt ≤ 6 ∧ 0 ≤ (Frd k.toNatClampNeg).toInt ∧ (Frd k.toNatClampNeg).toInt ≤ 6) by omega)

set_option maxHeartbeats 600000 in
set_option maxRecDepth 100000 in
theorem c_X2_barredByPair (l : Launch) (D : va_G) (cI cZ cM : ClassId) (h0 : Nat) (n : Int32) (k : Int32) (j : Int32) (ln : Nat) (mo : Nat) (rd : Nat) (lpe : Int32) (ltk : Int32) (lho : Nat) (lli : Nat) (lki : Nat) (lfd : Nat) (lfr : Nat) (lto : Nat) (lse : Nat) (lhl : Nat) (lFse : Nat → Int32) (sz : Nat) (h_n : 0 ≤ n.toInt ∧ n.toInt ≤ 6) (h_k : 0 ≤ k.toInt ∧ k.toInt ≤ 6) : Ci l yX2_barredByPair wsX2_barredByPair ({ frames := 0, cells := 0, slots := 0, locals := 0 } : Room) D cI cZ cM [.ref h0, .int n, .int k, .int j] [(h0, .inr (2, [.ref ln, .ref mo, .ref rd])), (ln, .inr (0, [.int lpe, .int ltk, .ref lho, .ref lli, .ref lki, .ref lfd, .ref lfr, .ref lto, .ref lse, .ref lhl])), (lse, .inl (cI, 7, .inl lFse))] sz (fun (r : Int32) (u : Unit) => True) (fun u => [(h0, .inr (2, [.ref ln, .ref mo, .ref rd])), (ln, .inr (0, [.int lpe, .int ltk, .ref lho, .ref lli, .ref lki, .ref lfd, .ref lfr, .ref lto, .ref lse, .ref lhl])), (lse, .inl (cI, 7, .inl lFse))]) 0 0 := by
  refine begins (l := l) (y := yX2_barredByPair) (ws := wsX2_barredByPair) (av := [.ref h0, .int n, .int k, .int j]) (Qc := fun A => va_Qi (fun (r : Int32) (u : Unit) => True) (fun u => Wd D cI cZ cM A ((fun u => [(h0, .inr (2, [.ref ln, .ref mo, .ref rd])), (ln, .inr (0, [.int lpe, .int ltk, .ref lho, .ref lli, .ref lki, .ref lfd, .ref lfr, .ref lto, .ref lse, .ref lhl])), (lse, .inl (cI, 7, .inl lFse))]) u)) A) cX2_barredByPair 4 (some .int) (by decide) rfl (Nat.le_of_ble_eq_true rfl) ?_
  intro p e s m args below meth c R Q A ls hBd hR hQ hA hS hK hP hD hl
  obtain ⟨hx, hb, hr, hts, hown, hlocks, hin, hml⟩ := hBd
  have hl : lv_has ls 4 [(0, .ref h0), (1, .int n), (2, .int k), (3, .int j)] := hl
  have iX2 : ∀ w ∈ wsX20, w ∈ wsX2_barredByPair := fun _ h => List.mem_cons_of_mem _ (List.mem_append_left _ (List.mem_append_right _ h))
  have iX0 : ∀ w ∈ wsX00, w ∈ wsX2_barredByPair := fun _ h => List.mem_cons_of_mem _ (List.mem_append_right _ h)
  obtain ⟨h_na, h_nb⟩ := h_n
  obtain ⟨h_ka, h_kb⟩ := h_k
  refine lv_iload_n hx hb dX2_barredByPair_0 rfl (lv_at hl 1 rfl) ?_
  refine lv_iload_n hx hb dX2_barredByPair_1 rfl (lv_at hl 3 rfl) ?_
  refine lv_icmp_ne (tgt := 17) hx hb dX2_barredByPair_2 (by decide) (fun c_1 => ?_) (fun c_1 => ?_)
  · have tc_1 := b_ne rfl rfl c_1
    refine lv_iload_n hx hb dX2_barredByPair_17 rfl (lv_at hl 2 rfl) ?_
    refine lv_iload_n hx hb dX2_barredByPair_18 rfl (lv_at hl 3 rfl) ?_
    refine lv_icmp_ne (tgt := 34) hx hb dX2_barredByPair_19 (by decide) (fun c_2 => ?_) (fun c_2 => ?_)
    · have tc_2 := b_ne rfl rfl c_2
      refine lv_aload_n hx hb dX2_barredByPair_34 rfl (lv_at hl 0 rfl) ?_
      refine va_get (D := D) (ci := 2) (v := .ref ln) (C := RX2) (T := TX2) (N := 3) hx hb hts iX2 hown hK hP 0 rfl rfl 0 (by decide) (hts (.fieldLink RX2 15 "PunchedTicket$Trial" "line" "LPunchedTicket$Line;") (List.mem_of_getElem? (i := 1) rfl)) (fun _ h9 => h9) rfl dX2_barredByPair_35 ?_
      refine va_get (D := D) (ci := 0) (v := .ref lse) (C := RX0) (T := TX0) (N := 10) hx hb hts iX0 hown hK hP 1 rfl rfl 8 (by decide) (hts (.fieldLink RX2 105 "PunchedTicket$Line" "seat" "[I") (List.mem_of_getElem? (i := 2) rfl)) (fun _ h9 => h9) rfl dX2_barredByPair_38 ?_
      refine lv_iload_n hx hb dX2_barredByPair_41 rfl (lv_at hl 1 rfl) ?_
      refine va_iald hx hb hK hP 2 0 rfl rfl (vp_in_iff.mpr ⟨by omega, by omega⟩) dX2_barredByPair_42 ?_
      refine lv_topi (fun v_3 ev_3 => ?_)
      refine lv_aload_n hx hb dX2_barredByPair_43 rfl (lv_at hl 0 rfl) ?_
      refine va_get (D := D) (ci := 2) (v := .ref ln) (C := RX2) (T := TX2) (N := 3) hx hb hts iX2 hown hK hP 0 rfl rfl 0 (by decide) (hts (.fieldLink RX2 15 "PunchedTicket$Trial" "line" "LPunchedTicket$Line;") (List.mem_of_getElem? (i := 1) rfl)) (fun _ h9 => h9) rfl dX2_barredByPair_44 ?_
      refine va_get (D := D) (ci := 0) (v := .ref lse) (C := RX0) (T := TX0) (N := 10) hx hb hts iX0 hown hK hP 1 rfl rfl 8 (by decide) (hts (.fieldLink RX2 105 "PunchedTicket$Line" "seat" "[I") (List.mem_of_getElem? (i := 2) rfl)) (fun _ h9 => h9) rfl dX2_barredByPair_47 ?_
      refine lv_iload_n hx hb dX2_barredByPair_50 rfl (lv_at hl 2 rfl) ?_
      refine va_iald hx hb hK hP 2 0 rfl rfl (vp_in_iff.mpr ⟨by omega, by omega⟩) dX2_barredByPair_51 ?_
      refine lv_topi (fun v_4 ev_4 => ?_)
      refine lv_icmp_ne (tgt := 61) hx hb dX2_barredByPair_52 (by decide) (fun c_5 => ?_) (fun c_5 => ?_)
      · have tc_5 := b_ne rfl rfl c_5
        refine lv_iconst (v := 0) hx hb dX2_barredByPair_61 (by decide) ?_
        exact ret_i (post := (fun (r : Int32) (u : Unit) => True)) (W1 := (fun u => [(h0, .inr (2, [.ref ln, .ref mo, .ref rd])), (ln, .inr (0, [.int lpe, .int ltk, .ref lho, .ref lli, .ref lki, .ref lfd, .ref lfr, .ref lto, .ref lse, .ref lhl])), (lse, .inl (cI, 7, .inl lFse))])) () hx hb hr hlocks rfl hQ hK hP hD hS ⟨by decide, by decide⟩ dX2_barredByPair_62 trivial
      · have tc_5 := b_eq rfl rfl c_5
        refine lv_sipush (v := 1023) hx hb dX2_barredByPair_55 (by decide) ?_
        refine lv_goto (tgt := 62) hx hb dX2_barredByPair_58 (by decide) ?_
        exact ret_i (post := (fun (r : Int32) (u : Unit) => True)) (W1 := (fun u => [(h0, .inr (2, [.ref ln, .ref mo, .ref rd])), (ln, .inr (0, [.int lpe, .int ltk, .ref lho, .ref lli, .ref lki, .ref lfd, .ref lfr, .ref lto, .ref lse, .ref lhl])), (lse, .inl (cI, 7, .inl lFse))])) () hx hb hr hlocks rfl hQ hK hP hD hS ⟨by decide, by decide⟩ dX2_barredByPair_62 trivial
    · have tc_2 := b_eq rfl rfl c_2
      refine lv_iconst (v := 1) hx hb dX2_barredByPair_22 (by decide) ?_
      refine lv_aload_n hx hb dX2_barredByPair_23 rfl (lv_at hl 0 rfl) ?_
      refine va_get (D := D) (ci := 2) (v := .ref ln) (C := RX2) (T := TX2) (N := 3) hx hb hts iX2 hown hK hP 0 rfl rfl 0 (by decide) (hts (.fieldLink RX2 15 "PunchedTicket$Trial" "line" "LPunchedTicket$Line;") (List.mem_of_getElem? (i := 1) rfl)) (fun _ h9 => h9) rfl dX2_barredByPair_24 ?_
      refine va_get (D := D) (ci := 0) (v := .ref lse) (C := RX0) (T := TX0) (N := 10) hx hb hts iX0 hown hK hP 1 rfl rfl 8 (by decide) (hts (.fieldLink RX2 105 "PunchedTicket$Line" "seat" "[I") (List.mem_of_getElem? (i := 2) rfl)) (fun _ h9 => h9) rfl dX2_barredByPair_27 ?_
      refine lv_iload_n hx hb dX2_barredByPair_30 rfl (lv_at hl 1 rfl) ?_
      refine va_iald hx hb hK hP 2 0 rfl rfl (vp_in_iff.mpr ⟨by omega, by omega⟩) dX2_barredByPair_31 ?_
      refine lv_topi (fun v_6 ev_6 => ?_)
      refine lv_ishl hx hb dX2_barredByPair_32 ?_
      refine lv_topi (fun v_7 ev_7 => ?_)
      exact ret_i (post := (fun (r : Int32) (u : Unit) => True)) (W1 := (fun u => [(h0, .inr (2, [.ref ln, .ref mo, .ref rd])), (ln, .inr (0, [.int lpe, .int ltk, .ref lho, .ref lli, .ref lki, .ref lfd, .ref lfr, .ref lto, .ref lse, .ref lhl])), (lse, .inl (cI, 7, .inl lFse))])) () hx hb hr hlocks rfl hQ hK hP hD hS ⟨by decide, by decide⟩ dX2_barredByPair_33 trivial
  · have tc_1 := b_eq rfl rfl c_1
    refine lv_iconst (v := 1) hx hb dX2_barredByPair_5 (by decide) ?_
    refine lv_aload_n hx hb dX2_barredByPair_6 rfl (lv_at hl 0 rfl) ?_
    refine va_get (D := D) (ci := 2) (v := .ref ln) (C := RX2) (T := TX2) (N := 3) hx hb hts iX2 hown hK hP 0 rfl rfl 0 (by decide) (hts (.fieldLink RX2 15 "PunchedTicket$Trial" "line" "LPunchedTicket$Line;") (List.mem_of_getElem? (i := 1) rfl)) (fun _ h9 => h9) rfl dX2_barredByPair_7 ?_
    refine va_get (D := D) (ci := 0) (v := .ref lse) (C := RX0) (T := TX0) (N := 10) hx hb hts iX0 hown hK hP 1 rfl rfl 8 (by decide) (hts (.fieldLink RX2 105 "PunchedTicket$Line" "seat" "[I") (List.mem_of_getElem? (i := 2) rfl)) (fun _ h9 => h9) rfl dX2_barredByPair_10 ?_
    refine lv_iload_n hx hb dX2_barredByPair_13 rfl (lv_at hl 2 rfl) ?_
    refine va_iald hx hb hK hP 2 0 rfl rfl (vp_in_iff.mpr ⟨by omega, by omega⟩) dX2_barredByPair_14 ?_
    refine lv_topi (fun v_8 ev_8 => ?_)
    refine lv_ishl hx hb dX2_barredByPair_15 ?_
    refine lv_topi (fun v_9 ev_9 => ?_)
    exact ret_i (post := (fun (r : Int32) (u : Unit) => True)) (W1 := (fun u => [(h0, .inr (2, [.ref ln, .ref mo, .ref rd])), (ln, .inr (0, [.int lpe, .int ltk, .ref lho, .ref lli, .ref lki, .ref lfd, .ref lfr, .ref lto, .ref lse, .ref lhl])), (lse, .inl (cI, 7, .inl lFse))])) () hx hb hr hlocks rfl hQ hK hP hD hS ⟨by decide, by decide⟩ dX2_barredByPair_16 trivial

set_option maxHeartbeats 600000 in
set_option maxRecDepth 100000 in
theorem c_X2_barredSeats (l : Launch) (D : va_G) (cI cZ cM : ClassId) (h0 : Nat) (n : Int32) (ln : Nat) (mo : Nat) (rd : Nat) (md : Int32) (mt : Int32) (mr : Int32) (mg : Int32) (mat : Nat) (mfd : Nat) (mhd : Nat) (lpe : Int32) (ltk : Int32) (lho : Nat) (lli : Nat) (lki : Nat) (lfd : Nat) (lfr : Nat) (lto : Nat) (lse : Nat) (lhl : Nat) (lFfr : Nat → Int32) (lFto : Nat → Int32) (lFse : Nat → Int32) (Frd : Nat → Int32) (sz : Nat) (h_mt : 0 ≤ mt.toInt ∧ mt.toInt ≤ 7) (h_lpe : 0 ≤ lpe.toInt ∧ lpe.toInt ≤ 5) : Ci l yX2_barredSeats wsX2_barredSeats ({ frames := 3, cells := 0, slots := 0, locals := 68 } : Room) D cI cZ cM [.ref h0, .int n] [(h0, .inr (2, [.ref ln, .ref mo, .ref rd])), (mo, .inr (1, [.ref ln, .int md, .int mt, .int mr, .int mg, .ref mat, .ref mfd, .ref mhd])), (ln, .inr (0, [.int lpe, .int ltk, .ref lho, .ref lli, .ref lki, .ref lfd, .ref lfr, .ref lto, .ref lse, .ref lhl])), (lfr, .inl (cI, 7, .inl lFfr)), (lto, .inl (cI, 7, .inl lFto)), (lse, .inl (cI, 7, .inl lFse)), (rd, .inl (cI, 5, .inl Frd))] sz (fun (r : Int32) (u : Unit) => True) (fun u => [(h0, .inr (2, [.ref ln, .ref mo, .ref rd])), (mo, .inr (1, [.ref ln, .int md, .int mt, .int mr, .int mg, .ref mat, .ref mfd, .ref mhd])), (ln, .inr (0, [.int lpe, .int ltk, .ref lho, .ref lli, .ref lki, .ref lfd, .ref lfr, .ref lto, .ref lse, .ref lhl])), (lfr, .inl (cI, 7, .inl lFfr)), (lto, .inl (cI, 7, .inl lFto)), (lse, .inl (cI, 7, .inl lFse)), (rd, .inl (cI, 5, .inl Frd))]) 0 0 := by
  refine begins (l := l) (y := yX2_barredSeats) (ws := wsX2_barredSeats) (av := [.ref h0, .int n]) (Qc := fun A => va_Qi (fun (r : Int32) (u : Unit) => True) (fun u => Wd D cI cZ cM A ((fun u => [(h0, .inr (2, [.ref ln, .ref mo, .ref rd])), (mo, .inr (1, [.ref ln, .int md, .int mt, .int mr, .int mg, .ref mat, .ref mfd, .ref mhd])), (ln, .inr (0, [.int lpe, .int ltk, .ref lho, .ref lli, .ref lki, .ref lfd, .ref lfr, .ref lto, .ref lse, .ref lhl])), (lfr, .inl (cI, 7, .inl lFfr)), (lto, .inl (cI, 7, .inl lFto)), (lse, .inl (cI, 7, .inl lFse)), (rd, .inl (cI, 5, .inl Frd))]) u)) A) cX2_barredSeats 5 (some .int) (by decide) rfl (Nat.le_of_ble_eq_true rfl) ?_
  intro p e s m args below meth c R Q A ls hBd hR hQ hA hS hK hP hD hl
  obtain ⟨hx, hb, hr, hts, hown, hlocks, hin, hml⟩ := hBd
  have hl : lv_has ls 5 [(0, .ref h0), (1, .int n)] := hl
  have iX2 : ∀ w ∈ wsX20, w ∈ wsX2_barredSeats := fun _ h => List.mem_cons_of_mem _ (List.mem_append_left _ (List.mem_append_left _ (List.mem_append_right _ h)))
  have iX0 : ∀ w ∈ wsX00, w ∈ wsX2_barredSeats := fun _ h => List.mem_cons_of_mem _ (List.mem_append_left _ (List.mem_append_right _ h))
  have iX1 : ∀ w ∈ wsX10, w ∈ wsX2_barredSeats := fun _ h => List.mem_cons_of_mem _ (List.mem_append_right _ h)
  obtain ⟨h_mta, h_mtb⟩ := h_mt
  obtain ⟨h_lpea, h_lpeb⟩ := h_lpe
  refine lv_iconst (v := 0) hx hb dX2_barredSeats_0 (by decide) ?_
  refine lv_istore_n (lv' := [(2, .int 0), (0, .ref h0), (1, .int n)]) hx hb dX2_barredSeats_1 rfl hl (by decide) rfl (fun ls hl => ?_)
  refine lv_iconst (v := 0) hx hb dX2_barredSeats_2 (by decide) ?_
  refine lv_istore_n (lv' := [(3, .int 0), (2, .int 0), (0, .ref h0), (1, .int n)]) hx hb dX2_barredSeats_3 rfl hl (by decide) rfl (fun ls hl => ?_)
  have LOOP_1 : ∀ (fu_1 : Nat) (w2 : Int32) (x3 : Int32) (H : Heap) (locs : List Loc) (ls : Array Slot), (5 - x3.toInt).toNat < fu_1 → (0 ≤ x3.toInt ∧ x3.toInt ≤ 5) → va_P D vwCl [(h0, .inr (2, [.ref ln, .ref mo, .ref rd])), (mo, .inr (1, [.ref ln, .int md, .int mt, .int mr, .int mg, .ref mat, .ref mfd, .ref mhd])), (ln, .inr (0, [.int lpe, .int ltk, .ref lho, .ref lli, .ref lki, .ref lfd, .ref lfr, .ref lto, .ref lse, .ref lhl])), (lfr, .inl (cI, 7, .inl lFfr)), (lto, .inl (cI, 7, .inl lFto)), (lse, .inl (cI, 7, .inl lFse)), (rd, .inl (cI, 5, .inl Frd))] H → va_D A [(h0, .inr (2, [.ref ln, .ref mo, .ref rd])), (mo, .inr (1, [.ref ln, .int md, .int mt, .int mr, .int mg, .ref mat, .ref mfd, .ref mhd])), (ln, .inr (0, [.int lpe, .int ltk, .ref lho, .ref lli, .ref lki, .ref lfd, .ref lfr, .ref lto, .ref lse, .ref lhl])), (lfr, .inl (cI, 7, .inl lFfr)), (lto, .inl (cI, 7, .inl lFto)), (lse, .inl (cI, 7, .inl lFse)), (rd, .inl (cI, 5, .inl Frd))] → va_S A s.heap H locs → lv_has ls 5 [(0, .ref h0), (1, .int n), (2, .int w2), (3, .int x3)] → W p l e R s m args below meth c H locs 0 0 Q (F0 m 4 ls []) := by
    intro fu_1
    induction fu_1 with
    | zero => intro w2 x3 H locs ls hmu; exact absurd hmu (Nat.not_lt_zero _)
    | succ fu_1 ih =>
      intro w2 x3 H locs ls hmu h_x3 hP hD hS hl
      obtain ⟨h_x3a, h_x3b⟩ := h_x3
      have ih_2 := ih
      clear ih
      refine lv_iload_n hx hb dX2_barredSeats_4 rfl (lv_at hl 3 rfl) ?_
      refine lv_aload_n hx hb dX2_barredSeats_5 rfl (lv_at hl 0 rfl) ?_
      refine va_get (D := D) (ci := 2) (v := .ref ln) (C := RX2) (T := TX2) (N := 3) hx hb hts iX2 hown hK hP 0 rfl rfl 0 (by decide) (hts (.fieldLink RX2 15 "PunchedTicket$Trial" "line" "LPunchedTicket$Line;") (List.mem_of_getElem? (i := 1) rfl)) (fun _ h9 => h9) rfl dX2_barredSeats_6 ?_
      refine va_get (D := D) (ci := 0) (v := .int lpe) (C := RX0) (T := TX0) (N := 10) hx hb hts iX0 hown hK hP 2 rfl rfl 0 (by decide) (hts (.fieldLink RX2 98 "PunchedTicket$Line" "people" "I") (List.mem_of_getElem? (i := 2) rfl)) (fun _ h9 => h9) rfl dX2_barredSeats_9 ?_
      refine lv_icmp_ge (tgt := 75) hx hb dX2_barredSeats_12 (by decide) (fun c_3 => ?_) (fun c_3 => ?_)
      · have tc_3 := b_le rfl rfl c_3
        refine lv_iload_n hx hb dX2_barredSeats_75 rfl (lv_at hl 2 rfl) ?_
        exact ret_i (post := (fun (r : Int32) (u : Unit) => True)) (W1 := (fun u => [(h0, .inr (2, [.ref ln, .ref mo, .ref rd])), (mo, .inr (1, [.ref ln, .int md, .int mt, .int mr, .int mg, .ref mat, .ref mfd, .ref mhd])), (ln, .inr (0, [.int lpe, .int ltk, .ref lho, .ref lli, .ref lki, .ref lfd, .ref lfr, .ref lto, .ref lse, .ref lhl])), (lfr, .inl (cI, 7, .inl lFfr)), (lto, .inl (cI, 7, .inl lFto)), (lse, .inl (cI, 7, .inl lFse)), (rd, .inl (cI, 5, .inl Frd))])) () hx hb hr hlocks rfl hQ hK hP hD hS ⟨by decide, by decide⟩ dX2_barredSeats_76 trivial
      · have tc_3 := b_nle rfl rfl c_3
        refine lv_iload_n hx hb dX2_barredSeats_15 rfl (lv_at hl 3 rfl) ?_
        refine lv_iconst (v := 1) hx hb dX2_barredSeats_16 (by decide) ?_
        refine lv_iadd hx hb dX2_barredSeats_17 ?_
        refine lv_topi (fun v_4 ev_4 => ?_)
        have tv_4 : v_4.toInt = x3.toInt + (1 : Int) := by rw [ev_4]; exact ti_add (x := x3) (y := 1) (show -2147483648 ≤ x3.toInt + (1 : Int) by omega) (show x3.toInt + (1 : Int) < 2147483648 by omega)
        refine lv_istore (lv' := [(4, .int v_4), (0, .ref h0), (1, .int n), (2, .int w2), (3, .int x3)]) hx hb dX2_barredSeats_18 hl (by decide) rfl (fun ls hl => ?_)
        have LOOP_5 : ∀ (fu_5 : Nat) (u2 : Int32) (x4 : Int32) (H : Heap) (locs : List Loc) (ls : Array Slot), (5 - x4.toInt).toNat < fu_5 → (1 ≤ x4.toInt ∧ x4.toInt ≤ 5) → va_P D vwCl [(h0, .inr (2, [.ref ln, .ref mo, .ref rd])), (mo, .inr (1, [.ref ln, .int md, .int mt, .int mr, .int mg, .ref mat, .ref mfd, .ref mhd])), (ln, .inr (0, [.int lpe, .int ltk, .ref lho, .ref lli, .ref lki, .ref lfd, .ref lfr, .ref lto, .ref lse, .ref lhl])), (lfr, .inl (cI, 7, .inl lFfr)), (lto, .inl (cI, 7, .inl lFto)), (lse, .inl (cI, 7, .inl lFse)), (rd, .inl (cI, 5, .inl Frd))] H → va_D A [(h0, .inr (2, [.ref ln, .ref mo, .ref rd])), (mo, .inr (1, [.ref ln, .int md, .int mt, .int mr, .int mg, .ref mat, .ref mfd, .ref mhd])), (ln, .inr (0, [.int lpe, .int ltk, .ref lho, .ref lli, .ref lki, .ref lfd, .ref lfr, .ref lto, .ref lse, .ref lhl])), (lfr, .inl (cI, 7, .inl lFfr)), (lto, .inl (cI, 7, .inl lFto)), (lse, .inl (cI, 7, .inl lFse)), (rd, .inl (cI, 5, .inl Frd))] → va_S A s.heap H locs → lv_has ls 5 [(0, .ref h0), (1, .int n), (2, .int u2), (3, .int x3), (4, .int x4)] → W p l e R s m args below meth c H locs 0 0 Q (F0 m 20 ls []) := by
          intro fu_5
          induction fu_5 with
          | zero => intro u2 x4 H locs ls hmu; exact absurd hmu (Nat.not_lt_zero _)
          | succ fu_5 ih =>
            intro u2 x4 H locs ls hmu h_x4 hP hD hS hl
            obtain ⟨h_x4a, h_x4b⟩ := h_x4
            have ih_6 := ih
            clear ih
            refine lv_iload hx hb dX2_barredSeats_20 (lv_at hl 4 rfl) ?_
            refine lv_aload_n hx hb dX2_barredSeats_22 rfl (lv_at hl 0 rfl) ?_
            refine va_get (D := D) (ci := 2) (v := .ref ln) (C := RX2) (T := TX2) (N := 3) hx hb hts iX2 hown hK hP 0 rfl rfl 0 (by decide) (hts (.fieldLink RX2 15 "PunchedTicket$Trial" "line" "LPunchedTicket$Line;") (List.mem_of_getElem? (i := 1) rfl)) (fun _ h9 => h9) rfl dX2_barredSeats_23 ?_
            refine va_get (D := D) (ci := 0) (v := .int lpe) (C := RX0) (T := TX0) (N := 10) hx hb hts iX0 hown hK hP 2 rfl rfl 0 (by decide) (hts (.fieldLink RX2 98 "PunchedTicket$Line" "people" "I") (List.mem_of_getElem? (i := 2) rfl)) (fun _ h9 => h9) rfl dX2_barredSeats_26 ?_
            refine lv_icmp_ge (tgt := 69) hx hb dX2_barredSeats_29 (by decide) (fun c_7 => ?_) (fun c_7 => ?_)
            · have tc_7 := b_le rfl rfl c_7
              obtain ⟨v_8, ev_8⟩ : ∃ z : Int32, z = x3 + 1 := ⟨_, rfl⟩
              have tv_8 : v_8.toInt = x3.toInt + 1 := by rw [ev_8]; exact ti_add (x := x3) (y := 1) (show -2147483648 ≤ x3.toInt + 1 by omega) (show x3.toInt + 1 < 2147483648 by omega)
              refine lv_iinc (v := v_8) (lv' := [(3, .int v_8), (0, .ref h0), (1, .int n), (2, .int u2), (4, .int x4)]) hx hb dX2_barredSeats_69 hl (k := 3) rfl (by rw [ev_8]; rfl) (by decide) rfl (fun ls hl => ?_)
              refine lv_goto (tgt := 4) hx hb dX2_barredSeats_72 (by decide) ?_
              exact ih_2 u2 v_8 _ _ _ (show (5 - v_8.toInt).toNat < fu_1 by omega) (show 0 ≤ v_8.toInt ∧ v_8.toInt ≤ 5 by omega) hP hD hS (lv_sub hl [1, 2, 3, 0] rfl)
            · have tc_7 := b_nle rfl rfl c_7
              refine lv_aload_n hx hb dX2_barredSeats_32 rfl (lv_at hl 0 rfl) ?_
              refine lv_iload_n hx hb dX2_barredSeats_33 rfl (lv_at hl 3 rfl) ?_
              refine lv_iload hx hb dX2_barredSeats_34 (lv_at hl 4 rfl) ?_
              refine cV_i (As := [.int x3, .int x4]) (rest := []) ⟨hx, hb, hml, hown, hts⟩ (c_X2_wentTogether l D cI cZ cM h0 x3 x4 ln mo rd md mt mr mg mat mfd mhd lpe ltk lho lli lki lfd lfr lto lse lhl lFfr lFto Frd _ (show 0 ≤ x3.toInt ∧ x3.toInt ≤ 4 by omega) (show 0 ≤ x4.toInt ∧ x4.toInt ≤ 4 by omega) (show 0 ≤ mt.toInt ∧ mt.toInt ≤ 7 by omega)) (cwV 2 hts gX2_barredSeats_X2_wentTogether rfl rfl rfl (by decide +kernel) ⟨by rw [hR]; decide, by rw [hR]; decide⟩) hK hP hD hS hA [0, 1, 2, 3, 4, 6] [5] rfl rfl (by decide) (by decide) (by decide) rfl 0 rfl hl.1 rfl rfl (Nat.le_of_ble_eq_true rfl) dX2_barredSeats_36 ⟨by rw [hR]; decide, by rw [hR]; decide⟩ (fun r_9 u_10 H locs hw hP hD hS => ?_)
              have hP : va_P D vwCl [(h0, .inr (2, [.ref ln, .ref mo, .ref rd])), (mo, .inr (1, [.ref ln, .int md, .int mt, .int mr, .int mg, .ref mat, .ref mfd, .ref mhd])), (ln, .inr (0, [.int lpe, .int ltk, .ref lho, .ref lli, .ref lki, .ref lfd, .ref lfr, .ref lto, .ref lse, .ref lhl])), (lfr, .inl (cI, 7, .inl lFfr)), (lto, .inl (cI, 7, .inl lFto)), (lse, .inl (cI, 7, .inl lFse)), (rd, .inl (cI, 5, .inl Frd))] H := hP.sub [1, 2, 3, 4, 5, 0, 6] rfl
              have hD : va_D A [(h0, .inr (2, [.ref ln, .ref mo, .ref rd])), (mo, .inr (1, [.ref ln, .int md, .int mt, .int mr, .int mg, .ref mat, .ref mfd, .ref mhd])), (ln, .inr (0, [.int lpe, .int ltk, .ref lho, .ref lli, .ref lki, .ref lfd, .ref lfr, .ref lto, .ref lse, .ref lhl])), (lfr, .inl (cI, 7, .inl lFfr)), (lto, .inl (cI, 7, .inl lFto)), (lse, .inl (cI, 7, .inl lFse)), (rd, .inl (cI, 5, .inl Frd))] := hD.sub [1, 2, 3, 4, 5, 0, 6] (by decide) rfl
              refine W.widen (k := 0) (n := 0) (Nat.le_refl _) (Nat.le_refl _) ?_
              have hw : r_9.toInt = 0 ∨ (r_9.toInt = 1 ∧ 0 ≤ (Frd x3.toNatClampNeg).toInt ∧ (Frd x3.toNatClampNeg).toInt ≤ 6 ∧ 0 ≤ (Frd x4.toNatClampNeg).toInt ∧ (Frd x4.toNatClampNeg).toInt ≤ 6) := hw
              have hw_11 := hw
              refine lv_if_eq (tgt := 63) hx hb dX2_barredSeats_39 (by decide) (fun c_12 => ?_) (fun c_12 => ?_)
              · have tc_12 := b_eq rfl (show (0 : Int32).toInt = 0 by decide) c_12
                obtain ⟨v_13, ev_13⟩ : ∃ z : Int32, z = x4 + 1 := ⟨_, rfl⟩
                have tv_13 : v_13.toInt = x4.toInt + 1 := by rw [ev_13]; exact ti_add (x := x4) (y := 1) (show -2147483648 ≤ x4.toInt + 1 by omega) (show x4.toInt + 1 < 2147483648 by omega)
                refine lv_iinc (v := v_13) (lv' := [(4, .int v_13), (0, .ref h0), (1, .int n), (2, .int u2), (3, .int x3)]) hx hb dX2_barredSeats_63 hl (k := 4) rfl (by rw [ev_13]; rfl) (by decide) rfl (fun ls hl => ?_)
                refine lv_goto (tgt := 20) hx hb dX2_barredSeats_66 (by decide) ?_
                exact ih_6 u2 v_13 _ _ _ (show (5 - v_13.toInt).toNat < fu_5 by omega) (show 1 ≤ v_13.toInt ∧ v_13.toInt ≤ 5 by omega) hP hD hS (lv_sub hl [1, 2, 3, 4, 0] rfl)
              · have tc_12 := b_ne rfl (show (0 : Int32).toInt = 0 by decide) c_12
                refine lv_iload_n hx hb dX2_barredSeats_42 rfl (lv_at hl 2 rfl) ?_
                refine lv_aload_n hx hb dX2_barredSeats_43 rfl (lv_at hl 0 rfl) ?_
                refine lv_aload_n hx hb dX2_barredSeats_44 rfl (lv_at hl 0 rfl) ?_
                refine va_get (D := D) (ci := 2) (v := .ref rd) (C := RX2) (T := TX2) (N := 3) hx hb hts iX2 hown hK hP 0 rfl rfl 2 (by decide) (hts (.fieldLink RX2 9 "PunchedTicket$Trial" "rides" "[I") (List.mem_of_getElem? (i := 3) rfl)) (fun _ h9 => h9) rfl dX2_barredSeats_45 ?_
                refine lv_iload_n hx hb dX2_barredSeats_48 rfl (lv_at hl 3 rfl) ?_
                refine va_iald hx hb hK hP 6 0 rfl rfl (vp_in_iff.mpr ⟨by omega, by omega⟩) dX2_barredSeats_49 ?_
                refine lv_topi (fun v_14 ev_14 => ?_)
                have tv_14 : v_14.toInt = (Frd x3.toNatClampNeg).toInt := by rw [ev_14]
                refine lv_aload_n hx hb dX2_barredSeats_50 rfl (lv_at hl 0 rfl) ?_
                refine va_get (D := D) (ci := 2) (v := .ref rd) (C := RX2) (T := TX2) (N := 3) hx hb hts iX2 hown hK hP 0 rfl rfl 2 (by decide) (hts (.fieldLink RX2 9 "PunchedTicket$Trial" "rides" "[I") (List.mem_of_getElem? (i := 3) rfl)) (fun _ h9 => h9) rfl dX2_barredSeats_51 ?_
                refine lv_iload hx hb dX2_barredSeats_54 (lv_at hl 4 rfl) ?_
                refine va_iald hx hb hK hP 6 0 rfl rfl (vp_in_iff.mpr ⟨by omega, by omega⟩) dX2_barredSeats_56 ?_
                refine lv_topi (fun v_15 ev_15 => ?_)
                have tv_15 : v_15.toInt = (Frd x4.toNatClampNeg).toInt := by rw [ev_15]
                refine lv_iload_n hx hb dX2_barredSeats_57 rfl (lv_at hl 1 rfl) ?_
                refine cV_i (As := [.int v_14, .int v_15, .int n]) (rest := [.int u2]) ⟨hx, hb, hml, hown, hts⟩ (c_X2_barredByPair l D cI cZ cM h0 v_14 v_15 n ln mo rd lpe ltk lho lli lki lfd lfr lto lse lhl lFse _ (show 0 ≤ v_14.toInt ∧ v_14.toInt ≤ 6 by omega) (show 0 ≤ v_15.toInt ∧ v_15.toInt ≤ 6 by omega)) (cwV 3 hts gX2_barredSeats_X2_barredByPair rfl rfl rfl (by decide +kernel) ⟨by rw [hR]; decide, by rw [hR]; decide⟩) hK hP hD hS hA [0, 2, 5] [1, 3, 4, 6] rfl rfl (by decide) (by decide) (by decide) rfl 0 rfl hl.1 rfl rfl (Nat.le_of_ble_eq_true rfl) dX2_barredSeats_58 ⟨by rw [hR]; decide, by rw [hR]; decide⟩ (fun r_16 u_17 H locs hw hP hD hS => ?_)
                have hP : va_P D vwCl [(h0, .inr (2, [.ref ln, .ref mo, .ref rd])), (mo, .inr (1, [.ref ln, .int md, .int mt, .int mr, .int mg, .ref mat, .ref mfd, .ref mhd])), (ln, .inr (0, [.int lpe, .int ltk, .ref lho, .ref lli, .ref lki, .ref lfd, .ref lfr, .ref lto, .ref lse, .ref lhl])), (lfr, .inl (cI, 7, .inl lFfr)), (lto, .inl (cI, 7, .inl lFto)), (lse, .inl (cI, 7, .inl lFse)), (rd, .inl (cI, 5, .inl Frd))] H := hP.sub [4, 0, 5, 1, 2, 6, 3] rfl
                have hD : va_D A [(h0, .inr (2, [.ref ln, .ref mo, .ref rd])), (mo, .inr (1, [.ref ln, .int md, .int mt, .int mr, .int mg, .ref mat, .ref mfd, .ref mhd])), (ln, .inr (0, [.int lpe, .int ltk, .ref lho, .ref lli, .ref lki, .ref lfd, .ref lfr, .ref lto, .ref lse, .ref lhl])), (lfr, .inl (cI, 7, .inl lFfr)), (lto, .inl (cI, 7, .inl lFto)), (lse, .inl (cI, 7, .inl lFse)), (rd, .inl (cI, 5, .inl Frd))] := hD.sub [4, 0, 5, 1, 2, 6, 3] (by decide) rfl
                refine W.widen (k := 0) (n := 0) (Nat.le_refl _) (Nat.le_refl _) ?_
                refine lv_ior hx hb dX2_barredSeats_61 ?_
                refine lv_topi (fun v_18 ev_18 => ?_)
                refine lv_istore_n (lv' := [(2, .int v_18), (0, .ref h0), (1, .int n), (3, .int x3), (4, .int x4)]) hx hb dX2_barredSeats_62 rfl hl (by decide) rfl (fun ls hl => ?_)
                obtain ⟨v_19, ev_19⟩ : ∃ z : Int32, z = x4 + 1 := ⟨_, rfl⟩
                have tv_19 : v_19.toInt = x4.toInt + 1 := by rw [ev_19]; exact ti_add (x := x4) (y := 1) (show -2147483648 ≤ x4.toInt + 1 by omega) (show x4.toInt + 1 < 2147483648 by omega)
                refine lv_iinc (v := v_19) (lv' := [(4, .int v_19), (2, .int v_18), (0, .ref h0), (1, .int n), (3, .int x3)]) hx hb dX2_barredSeats_63 hl (k := 4) rfl (by rw [ev_19]; rfl) (by decide) rfl (fun ls hl => ?_)
                refine lv_goto (tgt := 20) hx hb dX2_barredSeats_66 (by decide) ?_
                exact ih_6 v_18 v_19 _ _ _ (show (5 - v_19.toInt).toNat < fu_5 by omega) (show 1 ≤ v_19.toInt ∧ v_19.toInt ≤ 5 by omega) hP hD hS (lv_sub hl [2, 3, 1, 4, 0] rfl)
        exact LOOP_5 _ w2 v_4 _ _ _ (Nat.lt_succ_self _) (show 1 ≤ v_4.toInt ∧ v_4.toInt ≤ 5 by omega) hP hD hS (lv_sub hl [1, 2, 3, 4, 0] rfl)
  exact LOOP_1 _ 0 0 _ _ _ (Nat.lt_succ_self _) (by decide) hP hD hS (lv_sub hl [2, 3, 1, 0] rfl)

set_option maxHeartbeats 600000 in
set_option maxRecDepth 100000 in
theorem c_X2_passDaysTo (l : Launch) (D : va_G) (cI cZ cM : ClassId) (h0 : Nat) (n : Int32) (ln : Nat) (mo : Nat) (rd : Nat) (md : Int32) (mt : Int32) (mr : Int32) (mg : Int32) (mat : Nat) (mfd : Nat) (mhd : Nat) (lpe : Int32) (ltk : Int32) (lho : Nat) (lli : Nat) (lki : Nat) (lfd : Nat) (lfr : Nat) (lto : Nat) (lse : Nat) (lhl : Nat) (lFto : Nat → Int32) (lFfr : Nat → Int32) (lFki : Nat → Int32) (mFat : Nat → Int32) (mFfd : Nat → Int32) (mFhd : Nat → Int32) (Frd : Nat → Int32) (sz : Nat) (h_mt : 0 ≤ mt.toInt ∧ mt.toInt ≤ 7) (h_lpe : 0 ≤ lpe.toInt ∧ lpe.toInt ≤ 5) (h_md : 0 ≤ md.toInt ∧ md.toInt ≤ 10) (h_n : 0 ≤ n.toInt ∧ n.toInt ≤ 10) : Cv l yX2_passDaysTo wsX2_passDaysTo ({ frames := 3, cells := 0, slots := 0, locals := 71 } : Room) D cI cZ cM [.ref h0, .int n] [(h0, .inr (2, [.ref ln, .ref mo, .ref rd])), (mo, .inr (1, [.ref ln, .int md, .int mt, .int mr, .int mg, .ref mat, .ref mfd, .ref mhd])), (ln, .inr (0, [.int lpe, .int ltk, .ref lho, .ref lli, .ref lki, .ref lfd, .ref lfr, .ref lto, .ref lse, .ref lhl])), (lto, .inl (cI, 7, .inl lFto)), (lfr, .inl (cI, 7, .inl lFfr)), (lki, .inl (cI, 5, .inl lFki)), (mat, .inl (cI, 5, .inl mFat)), (mfd, .inl (cI, 7, .inl mFfd)), (mhd, .inl (cI, 7, .inl mFhd)), (rd, .inl (cI, 5, .inl Frd))] sz (fun (u : Int32 × Int32 × Int32 × (Nat → Int32) × (Nat → Int32) × (Nat → Int32) × (Nat → Int32)) => True) (fun u => [(h0, .inr (2, [.ref ln, .ref mo, .ref rd])), (mo, .inr (1, [.ref ln, .int u.1, .int mt, .int u.2.1, .int u.2.2.1, .ref mat, .ref mfd, .ref mhd])), (ln, .inr (0, [.int lpe, .int ltk, .ref lho, .ref lli, .ref lki, .ref lfd, .ref lfr, .ref lto, .ref lse, .ref lhl])), (lto, .inl (cI, 7, .inl lFto)), (lfr, .inl (cI, 7, .inl lFfr)), (lki, .inl (cI, 5, .inl lFki)), (mat, .inl (cI, 5, .inl u.2.2.2.1)), (mfd, .inl (cI, 7, .inl u.2.2.2.2.1)), (mhd, .inl (cI, 7, .inl u.2.2.2.2.2.1)), (rd, .inl (cI, 5, .inl u.2.2.2.2.2.2))]) 0 0 := by
  refine begins (l := l) (y := yX2_passDaysTo) (ws := wsX2_passDaysTo) (av := [.ref h0, .int n]) (Qc := fun A => va_Qv (fun (u : Int32 × Int32 × Int32 × (Nat → Int32) × (Nat → Int32) × (Nat → Int32) × (Nat → Int32)) => True) (fun u => Wd D cI cZ cM A ((fun u => [(h0, .inr (2, [.ref ln, .ref mo, .ref rd])), (mo, .inr (1, [.ref ln, .int u.1, .int mt, .int u.2.1, .int u.2.2.1, .ref mat, .ref mfd, .ref mhd])), (ln, .inr (0, [.int lpe, .int ltk, .ref lho, .ref lli, .ref lki, .ref lfd, .ref lfr, .ref lto, .ref lse, .ref lhl])), (lto, .inl (cI, 7, .inl lFto)), (lfr, .inl (cI, 7, .inl lFfr)), (lki, .inl (cI, 5, .inl lFki)), (mat, .inl (cI, 5, .inl u.2.2.2.1)), (mfd, .inl (cI, 7, .inl u.2.2.2.2.1)), (mhd, .inl (cI, 7, .inl u.2.2.2.2.2.1)), (rd, .inl (cI, 5, .inl u.2.2.2.2.2.2))]) u)) A) cX2_passDaysTo 3 none (by decide) rfl (Nat.le_of_ble_eq_true rfl) ?_
  intro p e s m args below meth c R Q A ls hBd hR hQ hA hS hK hP hD hl
  obtain ⟨hx, hb, hr, hts, hown, hlocks, hin, hml⟩ := hBd
  have hl : lv_has ls 3 [(0, .ref h0), (1, .int n)] := hl
  have iX2 : ∀ w ∈ wsX20, w ∈ wsX2_passDaysTo := fun _ h => List.mem_cons_of_mem _ (List.mem_append_left _ (List.mem_append_left _ (List.mem_append_right _ h)))
  have iX1 : ∀ w ∈ wsX10, w ∈ wsX2_passDaysTo := fun _ h => List.mem_cons_of_mem _ (List.mem_append_left _ (List.mem_append_right _ h))
  have iX0 : ∀ w ∈ wsX00, w ∈ wsX2_passDaysTo := fun _ h => List.mem_cons_of_mem _ (List.mem_append_right _ h)
  obtain ⟨h_mta, h_mtb⟩ := h_mt
  obtain ⟨h_lpea, h_lpeb⟩ := h_lpe
  obtain ⟨h_mda, h_mdb⟩ := h_md
  obtain ⟨h_na, h_nb⟩ := h_n
  refine lv_aload_n hx hb dX2_passDaysTo_0 rfl (lv_at hl 0 rfl) ?_
  refine va_get (D := D) (ci := 2) (v := .ref mo) (C := RX2) (T := TX2) (N := 3) hx hb hts iX2 hown hK hP 0 rfl rfl 1 (by decide) (hts (.fieldLink RX2 24 "PunchedTicket$Trial" "moment" "LPunchedTicket$Moment;") (List.mem_of_getElem? (i := 1) rfl)) (fun _ h9 => h9) rfl dX2_passDaysTo_1 ?_
  refine va_get (D := D) (ci := 1) (v := .int md) (C := RX1) (T := TX1) (N := 8) hx hb hts iX1 hown hK hP 1 rfl rfl 1 (by decide) (hts (.fieldLink RX2 51 "PunchedTicket$Moment" "day" "I") (List.mem_of_getElem? (i := 2) rfl)) (fun _ h9 => h9) rfl dX2_passDaysTo_4 ?_
  refine lv_istore_n (lv' := [(2, .int md), (0, .ref h0), (1, .int n)]) hx hb dX2_passDaysTo_7 rfl hl (by decide) rfl (fun ls hl => ?_)
  have LOOP_1 : ∀ (fu_1 : Nat) (x2 : Int32) (nd : Int32) (nr : Int32) (ng : Int32) (nat : Nat → Int32) (nfd : Nat → Int32) (nhd : Nat → Int32) (nrd : Nat → Int32) (H : Heap) (locs : List Loc) (ls : Array Slot), (10 - x2.toInt).toNat < fu_1 → (0 ≤ x2.toInt ∧ x2.toInt ≤ 10) → (0 ≤ nd.toInt ∧ nd.toInt ≤ 10) → (x2.toInt = nd.toInt) → va_P D vwCl [(h0, .inr (2, [.ref ln, .ref mo, .ref rd])), (mo, .inr (1, [.ref ln, .int nd, .int mt, .int nr, .int ng, .ref mat, .ref mfd, .ref mhd])), (ln, .inr (0, [.int lpe, .int ltk, .ref lho, .ref lli, .ref lki, .ref lfd, .ref lfr, .ref lto, .ref lse, .ref lhl])), (lto, .inl (cI, 7, .inl lFto)), (lfr, .inl (cI, 7, .inl lFfr)), (lki, .inl (cI, 5, .inl lFki)), (mat, .inl (cI, 5, .inl nat)), (mfd, .inl (cI, 7, .inl nfd)), (mhd, .inl (cI, 7, .inl nhd)), (rd, .inl (cI, 5, .inl nrd))] H → va_D A [(h0, .inr (2, [.ref ln, .ref mo, .ref rd])), (mo, .inr (1, [.ref ln, .int nd, .int mt, .int nr, .int ng, .ref mat, .ref mfd, .ref mhd])), (ln, .inr (0, [.int lpe, .int ltk, .ref lho, .ref lli, .ref lki, .ref lfd, .ref lfr, .ref lto, .ref lse, .ref lhl])), (lto, .inl (cI, 7, .inl lFto)), (lfr, .inl (cI, 7, .inl lFfr)), (lki, .inl (cI, 5, .inl lFki)), (mat, .inl (cI, 5, .inl nat)), (mfd, .inl (cI, 7, .inl nfd)), (mhd, .inl (cI, 7, .inl nhd)), (rd, .inl (cI, 5, .inl nrd))] → va_S A s.heap H locs → lv_has ls 3 [(0, .ref h0), (1, .int n), (2, .int x2)] → W p l e R s m args below meth c H locs 0 0 Q (F0 m 8 ls []) := by
    intro fu_1
    induction fu_1 with
    | zero => intro x2 nd nr ng nat nfd nhd nrd H locs ls hmu; exact absurd hmu (Nat.not_lt_zero _)
    | succ fu_1 ih =>
      intro x2 nd nr ng nat nfd nhd nrd H locs ls hmu h_x2 h_nd hxd hP hD hS hl
      obtain ⟨h_x2a, h_x2b⟩ := h_x2
      obtain ⟨h_nda, h_ndb⟩ := h_nd
      have ih_2 := ih
      clear ih
      refine lv_iload_n hx hb dX2_passDaysTo_8 rfl (lv_at hl 2 rfl) ?_
      refine lv_iload_n hx hb dX2_passDaysTo_9 rfl (lv_at hl 1 rfl) ?_
      refine lv_icmp_ge (tgt := 31) hx hb dX2_passDaysTo_10 (by decide) (fun c_3 => ?_) (fun c_3 => ?_)
      · have tc_3 := b_le rfl rfl c_3
        exact ret_v (post := (fun (u : Int32 × Int32 × Int32 × (Nat → Int32) × (Nat → Int32) × (Nat → Int32) × (Nat → Int32)) => True)) (W1 := (fun u => [(h0, .inr (2, [.ref ln, .ref mo, .ref rd])), (mo, .inr (1, [.ref ln, .int u.1, .int mt, .int u.2.1, .int u.2.2.1, .ref mat, .ref mfd, .ref mhd])), (ln, .inr (0, [.int lpe, .int ltk, .ref lho, .ref lli, .ref lki, .ref lfd, .ref lfr, .ref lto, .ref lse, .ref lhl])), (lto, .inl (cI, 7, .inl lFto)), (lfr, .inl (cI, 7, .inl lFfr)), (lki, .inl (cI, 5, .inl lFki)), (mat, .inl (cI, 5, .inl u.2.2.2.1)), (mfd, .inl (cI, 7, .inl u.2.2.2.2.1)), (mhd, .inl (cI, 7, .inl u.2.2.2.2.2.1)), (rd, .inl (cI, 5, .inl u.2.2.2.2.2.2))])) (nd, nr, ng, nat, nfd, nhd, nrd) hx hb hr hlocks hQ hK hP hD hS ⟨by decide, by decide⟩ dX2_passDaysTo_31 trivial
      · have tc_3 := b_nle rfl rfl c_3
        refine lv_aload_n hx hb dX2_passDaysTo_13 rfl (lv_at hl 0 rfl) ?_
        refine va_get (D := D) (ci := 2) (v := .ref mo) (C := RX2) (T := TX2) (N := 3) hx hb hts iX2 hown hK hP 0 rfl rfl 1 (by decide) (hts (.fieldLink RX2 24 "PunchedTicket$Trial" "moment" "LPunchedTicket$Moment;") (List.mem_of_getElem? (i := 1) rfl)) (fun _ h9 => h9) rfl dX2_passDaysTo_14 ?_
        refine lv_aload_n hx hb dX2_passDaysTo_17 rfl (lv_at hl 0 rfl) ?_
        refine va_get (D := D) (ci := 2) (v := .ref rd) (C := RX2) (T := TX2) (N := 3) hx hb hts iX2 hown hK hP 0 rfl rfl 2 (by decide) (hts (.fieldLink RX2 9 "PunchedTicket$Trial" "rides" "[I") (List.mem_of_getElem? (i := 3) rfl)) (fun _ h9 => h9) rfl dX2_passDaysTo_18 ?_
        refine cV_i (As := [.ref rd]) (rest := []) ⟨hx, hb, hml, hown, hts⟩ (c_X1_passDay l D cI cZ cM mo rd ln nd mt nr ng mat mfd mhd lpe ltk lho lli lki lfd lfr lto lse lhl lFto lFfr lFki nat nfd nhd nrd _ (show 0 ≤ mt.toInt ∧ mt.toInt ≤ 7 by omega) (show 0 ≤ lpe.toInt ∧ lpe.toInt ≤ 5 by omega) (show 0 ≤ nd.toInt ∧ nd.toInt ≤ 9 by omega)) (cwV 1 hts gX2_passDaysTo_X1_passDay rfl rfl rfl (by decide +kernel) ⟨by rw [hR]; decide, by rw [hR]; decide⟩) hK hP hD hS hA [1, 2, 3, 4, 5, 6, 7, 8, 9] [0] rfl rfl (by decide) (by decide) (by decide) rfl 1 rfl hl.1 rfl rfl (Nat.le_of_ble_eq_true rfl) dX2_passDaysTo_21 ⟨by rw [hR]; decide, by rw [hR]; decide⟩ (fun r_11 u_12 H locs hw hP hD hS => ?_)
        obtain ⟨md1_4, mr1_5, mg1_6, Gat_7, Gfd_8, Ghd_9, Grd_10⟩ := u_12
        have hP : va_P D vwCl [(h0, .inr (2, [.ref ln, .ref mo, .ref rd])), (mo, .inr (1, [.ref ln, .int md1_4, .int mt, .int mr1_5, .int mg1_6, .ref mat, .ref mfd, .ref mhd])), (ln, .inr (0, [.int lpe, .int ltk, .ref lho, .ref lli, .ref lki, .ref lfd, .ref lfr, .ref lto, .ref lse, .ref lhl])), (lto, .inl (cI, 7, .inl lFto)), (lfr, .inl (cI, 7, .inl lFfr)), (lki, .inl (cI, 5, .inl lFki)), (mat, .inl (cI, 5, .inl Gat_7)), (mfd, .inl (cI, 7, .inl Gfd_8)), (mhd, .inl (cI, 7, .inl Ghd_9)), (rd, .inl (cI, 5, .inl Grd_10))] H := hP.sub [0, 1, 2, 3, 4, 5, 6, 7, 8, 9] rfl
        have hD : va_D A [(h0, .inr (2, [.ref ln, .ref mo, .ref rd])), (mo, .inr (1, [.ref ln, .int md1_4, .int mt, .int mr1_5, .int mg1_6, .ref mat, .ref mfd, .ref mhd])), (ln, .inr (0, [.int lpe, .int ltk, .ref lho, .ref lli, .ref lki, .ref lfd, .ref lfr, .ref lto, .ref lse, .ref lhl])), (lto, .inl (cI, 7, .inl lFto)), (lfr, .inl (cI, 7, .inl lFfr)), (lki, .inl (cI, 5, .inl lFki)), (mat, .inl (cI, 5, .inl Gat_7)), (mfd, .inl (cI, 7, .inl Gfd_8)), (mhd, .inl (cI, 7, .inl Ghd_9)), (rd, .inl (cI, 5, .inl Grd_10))] := hD.sub [0, 1, 2, 3, 4, 5, 6, 7, 8, 9] (by decide) rfl
        refine W.widen (k := 0) (n := 0) (Nat.le_refl _) (Nat.le_refl _) ?_
        have hw : md1_4.toInt = nd.toInt + 1 ∧ (lpe.toInt = 0 → r_11.toInt = 0) := hw
        have hw_13 := hw
        refine lv_pop hx hb dX2_passDaysTo_24 rfl ?_
        obtain ⟨v_14, ev_14⟩ : ∃ z : Int32, z = x2 + 1 := ⟨_, rfl⟩
        have tv_14 : v_14.toInt = x2.toInt + 1 := by rw [ev_14]; exact ti_add (x := x2) (y := 1) (show -2147483648 ≤ x2.toInt + 1 by omega) (show x2.toInt + 1 < 2147483648 by omega)
        refine lv_iinc (v := v_14) (lv' := [(2, .int v_14), (0, .ref h0), (1, .int n)]) hx hb dX2_passDaysTo_25 hl (k := 2) rfl (by rw [ev_14]; rfl) (by decide) rfl (fun ls hl => ?_)
        refine lv_goto (tgt := 8) hx hb dX2_passDaysTo_28 (by decide) ?_
        exact ih_2 v_14 md1_4 mr1_5 mg1_6 Gat_7 Gfd_8 Ghd_9 Grd_10 _ _ _ (show (10 - v_14.toInt).toNat < fu_1 by omega) (show 0 ≤ v_14.toInt ∧ v_14.toInt ≤ 10 by omega) (show 0 ≤ md1_4.toInt ∧ md1_4.toInt ≤ 10 by omega) (show v_14.toInt = md1_4.toInt by omega) hP hD hS (lv_sub hl [1, 2, 0] rfl)
  exact LOOP_1 _ md md mr mg mFat mFfd mFhd Frd _ _ _ (Nat.lt_succ_self _) (show 0 ≤ md.toInt ∧ md.toInt ≤ 10 by omega) (show 0 ≤ md.toInt ∧ md.toInt ≤ 10 by omega) (show md.toInt = md.toInt by omega) hP hD hS (lv_sub hl [1, 2, 0] rfl)

set_option maxHeartbeats 600000 in
set_option maxRecDepth 100000 in
theorem c_X2_journeysToEnd (l : Launch) (D : va_G) (cI cZ cM : ClassId) (h0 : Nat) (ln : Nat) (mo : Nat) (rd : Nat) (md : Int32) (mt : Int32) (mr : Int32) (mg : Int32) (mat : Nat) (mfd : Nat) (mhd : Nat) (lpe : Int32) (ltk : Int32) (lho : Nat) (lli : Nat) (lki : Nat) (lfd : Nat) (lfr : Nat) (lto : Nat) (lse : Nat) (lhl : Nat) (lFto : Nat → Int32) (lFfr : Nat → Int32) (lFki : Nat → Int32) (mFat : Nat → Int32) (mFfd : Nat → Int32) (mFhd : Nat → Int32) (Frd : Nat → Int32) (sz : Nat) (h_mt : 0 ≤ mt.toInt ∧ mt.toInt ≤ 7) (h_lpe : 0 ≤ lpe.toInt ∧ lpe.toInt ≤ 5) (h_md : 0 ≤ md.toInt ∧ md.toInt ≤ 10) : Ci l yX2_journeysToEnd wsX2_journeysToEnd ({ frames := 3, cells := 0, slots := 0, locals := 71 } : Room) D cI cZ cM [.ref h0] [(h0, .inr (2, [.ref ln, .ref mo, .ref rd])), (mo, .inr (1, [.ref ln, .int md, .int mt, .int mr, .int mg, .ref mat, .ref mfd, .ref mhd])), (ln, .inr (0, [.int lpe, .int ltk, .ref lho, .ref lli, .ref lki, .ref lfd, .ref lfr, .ref lto, .ref lse, .ref lhl])), (lto, .inl (cI, 7, .inl lFto)), (lfr, .inl (cI, 7, .inl lFfr)), (lki, .inl (cI, 5, .inl lFki)), (mat, .inl (cI, 5, .inl mFat)), (mfd, .inl (cI, 7, .inl mFfd)), (mhd, .inl (cI, 7, .inl mFhd)), (rd, .inl (cI, 5, .inl Frd))] sz (fun (r : Int32) (u : Int32 × Int32 × Int32 × (Nat → Int32) × (Nat → Int32) × (Nat → Int32) × (Nat → Int32)) => True) (fun u => [(h0, .inr (2, [.ref ln, .ref mo, .ref rd])), (mo, .inr (1, [.ref ln, .int u.1, .int mt, .int u.2.1, .int u.2.2.1, .ref mat, .ref mfd, .ref mhd])), (ln, .inr (0, [.int lpe, .int ltk, .ref lho, .ref lli, .ref lki, .ref lfd, .ref lfr, .ref lto, .ref lse, .ref lhl])), (lto, .inl (cI, 7, .inl lFto)), (lfr, .inl (cI, 7, .inl lFfr)), (lki, .inl (cI, 5, .inl lFki)), (mat, .inl (cI, 5, .inl u.2.2.2.1)), (mfd, .inl (cI, 7, .inl u.2.2.2.2.1)), (mhd, .inl (cI, 7, .inl u.2.2.2.2.2.1)), (rd, .inl (cI, 5, .inl u.2.2.2.2.2.2))]) 0 0 := by
  refine begins (l := l) (y := yX2_journeysToEnd) (ws := wsX2_journeysToEnd) (av := [.ref h0]) (Qc := fun A => va_Qi (fun (r : Int32) (u : Int32 × Int32 × Int32 × (Nat → Int32) × (Nat → Int32) × (Nat → Int32) × (Nat → Int32)) => True) (fun u => Wd D cI cZ cM A ((fun u => [(h0, .inr (2, [.ref ln, .ref mo, .ref rd])), (mo, .inr (1, [.ref ln, .int u.1, .int mt, .int u.2.1, .int u.2.2.1, .ref mat, .ref mfd, .ref mhd])), (ln, .inr (0, [.int lpe, .int ltk, .ref lho, .ref lli, .ref lki, .ref lfd, .ref lfr, .ref lto, .ref lse, .ref lhl])), (lto, .inl (cI, 7, .inl lFto)), (lfr, .inl (cI, 7, .inl lFfr)), (lki, .inl (cI, 5, .inl lFki)), (mat, .inl (cI, 5, .inl u.2.2.2.1)), (mfd, .inl (cI, 7, .inl u.2.2.2.2.1)), (mhd, .inl (cI, 7, .inl u.2.2.2.2.2.1)), (rd, .inl (cI, 5, .inl u.2.2.2.2.2.2))]) u)) A) cX2_journeysToEnd 3 (some .int) (by decide) rfl (Nat.le_of_ble_eq_true rfl) ?_
  intro p e s m args below meth c R Q A ls hBd hR hQ hA hS hK hP hD hl
  obtain ⟨hx, hb, hr, hts, hown, hlocks, hin, hml⟩ := hBd
  have hl : lv_has ls 3 [(0, .ref h0)] := hl
  have iX2 : ∀ w ∈ wsX20, w ∈ wsX2_journeysToEnd := fun _ h => List.mem_cons_of_mem _ (List.mem_append_left _ (List.mem_append_left _ (List.mem_append_right _ h)))
  have iX1 : ∀ w ∈ wsX10, w ∈ wsX2_journeysToEnd := fun _ h => List.mem_cons_of_mem _ (List.mem_append_left _ (List.mem_append_right _ h))
  have iX0 : ∀ w ∈ wsX00, w ∈ wsX2_journeysToEnd := fun _ h => List.mem_cons_of_mem _ (List.mem_append_right _ h)
  obtain ⟨h_mta, h_mtb⟩ := h_mt
  obtain ⟨h_lpea, h_lpeb⟩ := h_lpe
  obtain ⟨h_mda, h_mdb⟩ := h_md
  refine lv_iconst (v := 0) hx hb dX2_journeysToEnd_0 (by decide) ?_
  refine lv_istore_n (lv' := [(1, .int 0), (0, .ref h0)]) hx hb dX2_journeysToEnd_1 rfl hl (by decide) rfl (fun ls hl => ?_)
  refine lv_aload_n hx hb dX2_journeysToEnd_2 rfl (lv_at hl 1 rfl) ?_
  refine va_get (D := D) (ci := 2) (v := .ref mo) (C := RX2) (T := TX2) (N := 3) hx hb hts iX2 hown hK hP 0 rfl rfl 1 (by decide) (hts (.fieldLink RX2 24 "PunchedTicket$Trial" "moment" "LPunchedTicket$Moment;") (List.mem_of_getElem? (i := 1) rfl)) (fun _ h9 => h9) rfl dX2_journeysToEnd_3 ?_
  refine va_get (D := D) (ci := 1) (v := .int md) (C := RX1) (T := TX1) (N := 8) hx hb hts iX1 hown hK hP 1 rfl rfl 1 (by decide) (hts (.fieldLink RX2 51 "PunchedTicket$Moment" "day" "I") (List.mem_of_getElem? (i := 2) rfl)) (fun _ h9 => h9) rfl dX2_journeysToEnd_6 ?_
  refine lv_istore_n (lv' := [(2, .int md), (1, .int 0), (0, .ref h0)]) hx hb dX2_journeysToEnd_9 rfl hl (by decide) rfl (fun ls hl => ?_)
  have LOOP_1 : ∀ (fu_1 : Nat) (w1 : Int32) (x2 : Int32) (nd : Int32) (nr : Int32) (ng : Int32) (nat : Nat → Int32) (nfd : Nat → Int32) (nhd : Nat → Int32) (nrd : Nat → Int32) (H : Heap) (locs : List Loc) (ls : Array Slot), (10 - x2.toInt).toNat < fu_1 → (0 ≤ x2.toInt ∧ x2.toInt ≤ 10) → (0 ≤ nd.toInt ∧ nd.toInt ≤ 10) → (x2.toInt = nd.toInt) → va_P D vwCl [(h0, .inr (2, [.ref ln, .ref mo, .ref rd])), (mo, .inr (1, [.ref ln, .int nd, .int mt, .int nr, .int ng, .ref mat, .ref mfd, .ref mhd])), (ln, .inr (0, [.int lpe, .int ltk, .ref lho, .ref lli, .ref lki, .ref lfd, .ref lfr, .ref lto, .ref lse, .ref lhl])), (lto, .inl (cI, 7, .inl lFto)), (lfr, .inl (cI, 7, .inl lFfr)), (lki, .inl (cI, 5, .inl lFki)), (mat, .inl (cI, 5, .inl nat)), (mfd, .inl (cI, 7, .inl nfd)), (mhd, .inl (cI, 7, .inl nhd)), (rd, .inl (cI, 5, .inl nrd))] H → va_D A [(h0, .inr (2, [.ref ln, .ref mo, .ref rd])), (mo, .inr (1, [.ref ln, .int nd, .int mt, .int nr, .int ng, .ref mat, .ref mfd, .ref mhd])), (ln, .inr (0, [.int lpe, .int ltk, .ref lho, .ref lli, .ref lki, .ref lfd, .ref lfr, .ref lto, .ref lse, .ref lhl])), (lto, .inl (cI, 7, .inl lFto)), (lfr, .inl (cI, 7, .inl lFfr)), (lki, .inl (cI, 5, .inl lFki)), (mat, .inl (cI, 5, .inl nat)), (mfd, .inl (cI, 7, .inl nfd)), (mhd, .inl (cI, 7, .inl nhd)), (rd, .inl (cI, 5, .inl nrd))] → va_S A s.heap H locs → lv_has ls 3 [(0, .ref h0), (1, .int w1), (2, .int x2)] → W p l e R s m args below meth c H locs 0 0 Q (F0 m 10 ls []) := by
    intro fu_1
    induction fu_1 with
    | zero => intro w1 x2 nd nr ng nat nfd nhd nrd H locs ls hmu; exact absurd hmu (Nat.not_lt_zero _)
    | succ fu_1 ih =>
      intro w1 x2 nd nr ng nat nfd nhd nrd H locs ls hmu h_x2 h_nd hxd hP hD hS hl
      obtain ⟨h_x2a, h_x2b⟩ := h_x2
      obtain ⟨h_nda, h_ndb⟩ := h_nd
      have ih_2 := ih
      clear ih
      refine lv_iload_n hx hb dX2_journeysToEnd_10 rfl (lv_at hl 2 rfl) ?_
      refine lv_bipush (v := 10) hx hb dX2_journeysToEnd_11 (by decide) ?_
      refine lv_icmp_ge (tgt := 39) hx hb dX2_journeysToEnd_13 (by decide) (fun c_3 => ?_) (fun c_3 => ?_)
      · have tc_3 := b_le (show (10 : Int32).toInt = 10 by decide) rfl c_3
        refine lv_iload_n hx hb dX2_journeysToEnd_39 rfl (lv_at hl 1 rfl) ?_
        exact ret_i (post := (fun (r : Int32) (u : Int32 × Int32 × Int32 × (Nat → Int32) × (Nat → Int32) × (Nat → Int32) × (Nat → Int32)) => True)) (W1 := (fun u => [(h0, .inr (2, [.ref ln, .ref mo, .ref rd])), (mo, .inr (1, [.ref ln, .int u.1, .int mt, .int u.2.1, .int u.2.2.1, .ref mat, .ref mfd, .ref mhd])), (ln, .inr (0, [.int lpe, .int ltk, .ref lho, .ref lli, .ref lki, .ref lfd, .ref lfr, .ref lto, .ref lse, .ref lhl])), (lto, .inl (cI, 7, .inl lFto)), (lfr, .inl (cI, 7, .inl lFfr)), (lki, .inl (cI, 5, .inl lFki)), (mat, .inl (cI, 5, .inl u.2.2.2.1)), (mfd, .inl (cI, 7, .inl u.2.2.2.2.1)), (mhd, .inl (cI, 7, .inl u.2.2.2.2.2.1)), (rd, .inl (cI, 5, .inl u.2.2.2.2.2.2))])) (nd, nr, ng, nat, nfd, nhd, nrd) hx hb hr hlocks rfl hQ hK hP hD hS ⟨by decide, by decide⟩ dX2_journeysToEnd_40 trivial
      · have tc_3 := b_nle (show (10 : Int32).toInt = 10 by decide) rfl c_3
        refine lv_iload_n hx hb dX2_journeysToEnd_16 rfl (lv_at hl 1 rfl) ?_
        refine lv_aload_n hx hb dX2_journeysToEnd_17 rfl (lv_at hl 0 rfl) ?_
        refine va_get (D := D) (ci := 2) (v := .ref mo) (C := RX2) (T := TX2) (N := 3) hx hb hts iX2 hown hK hP 0 rfl rfl 1 (by decide) (hts (.fieldLink RX2 24 "PunchedTicket$Trial" "moment" "LPunchedTicket$Moment;") (List.mem_of_getElem? (i := 1) rfl)) (fun _ h9 => h9) rfl dX2_journeysToEnd_18 ?_
        refine lv_aload_n hx hb dX2_journeysToEnd_21 rfl (lv_at hl 0 rfl) ?_
        refine va_get (D := D) (ci := 2) (v := .ref rd) (C := RX2) (T := TX2) (N := 3) hx hb hts iX2 hown hK hP 0 rfl rfl 2 (by decide) (hts (.fieldLink RX2 9 "PunchedTicket$Trial" "rides" "[I") (List.mem_of_getElem? (i := 3) rfl)) (fun _ h9 => h9) rfl dX2_journeysToEnd_22 ?_
        refine cV_i (As := [.ref rd]) (rest := [.int w1]) ⟨hx, hb, hml, hown, hts⟩ (c_X1_passDay l D cI cZ cM mo rd ln nd mt nr ng mat mfd mhd lpe ltk lho lli lki lfd lfr lto lse lhl lFto lFfr lFki nat nfd nhd nrd _ (show 0 ≤ mt.toInt ∧ mt.toInt ≤ 7 by omega) (show 0 ≤ lpe.toInt ∧ lpe.toInt ≤ 5 by omega) (show 0 ≤ nd.toInt ∧ nd.toInt ≤ 9 by omega)) (cwV 1 hts gX2_journeysToEnd_X1_passDay rfl rfl rfl (by decide +kernel) ⟨by rw [hR]; decide, by rw [hR]; decide⟩) hK hP hD hS hA [1, 2, 3, 4, 5, 6, 7, 8, 9] [0] rfl rfl (by decide) (by decide) (by decide) rfl 1 rfl hl.1 rfl rfl (Nat.le_of_ble_eq_true rfl) dX2_journeysToEnd_25 ⟨by rw [hR]; decide, by rw [hR]; decide⟩ (fun r_11 u_12 H locs hw hP hD hS => ?_)
        obtain ⟨md1_4, mr1_5, mg1_6, Gat_7, Gfd_8, Ghd_9, Grd_10⟩ := u_12
        have hP : va_P D vwCl [(h0, .inr (2, [.ref ln, .ref mo, .ref rd])), (mo, .inr (1, [.ref ln, .int md1_4, .int mt, .int mr1_5, .int mg1_6, .ref mat, .ref mfd, .ref mhd])), (ln, .inr (0, [.int lpe, .int ltk, .ref lho, .ref lli, .ref lki, .ref lfd, .ref lfr, .ref lto, .ref lse, .ref lhl])), (lto, .inl (cI, 7, .inl lFto)), (lfr, .inl (cI, 7, .inl lFfr)), (lki, .inl (cI, 5, .inl lFki)), (mat, .inl (cI, 5, .inl Gat_7)), (mfd, .inl (cI, 7, .inl Gfd_8)), (mhd, .inl (cI, 7, .inl Ghd_9)), (rd, .inl (cI, 5, .inl Grd_10))] H := hP.sub [0, 1, 2, 3, 4, 5, 6, 7, 8, 9] rfl
        have hD : va_D A [(h0, .inr (2, [.ref ln, .ref mo, .ref rd])), (mo, .inr (1, [.ref ln, .int md1_4, .int mt, .int mr1_5, .int mg1_6, .ref mat, .ref mfd, .ref mhd])), (ln, .inr (0, [.int lpe, .int ltk, .ref lho, .ref lli, .ref lki, .ref lfd, .ref lfr, .ref lto, .ref lse, .ref lhl])), (lto, .inl (cI, 7, .inl lFto)), (lfr, .inl (cI, 7, .inl lFfr)), (lki, .inl (cI, 5, .inl lFki)), (mat, .inl (cI, 5, .inl Gat_7)), (mfd, .inl (cI, 7, .inl Gfd_8)), (mhd, .inl (cI, 7, .inl Ghd_9)), (rd, .inl (cI, 5, .inl Grd_10))] := hD.sub [0, 1, 2, 3, 4, 5, 6, 7, 8, 9] (by decide) rfl
        refine W.widen (k := 0) (n := 0) (Nat.le_refl _) (Nat.le_refl _) ?_
        have hw : md1_4.toInt = nd.toInt + 1 ∧ (lpe.toInt = 0 → r_11.toInt = 0) := hw
        have hw_13 := hw
        refine cS_i (As := [.int r_11]) (rest := [.int w1]) ⟨hx, hb, hml, hown, hts⟩ (c_J6_bitCount l D cI cZ cM r_11 _ ) (va_cwS 1 hts gX2_journeysToEnd_J6_bitCount_0f7a4 rfl rfl rfl (by decide +kernel) ⟨by rw [hR]; decide, by rw [hR]; decide⟩) hK hP hD hS hA [] [0, 1, 2, 3, 4, 5, 6, 7, 8, 9] rfl rfl (by decide) (by decide) (by decide) hl.1 rfl rfl (Nat.le_of_ble_eq_true rfl) dX2_journeysToEnd_28 ⟨by rw [hR]; decide, by rw [hR]; decide⟩ (fun r_14 u_15 H locs hw hP hD hS => ?_)
        have hP : va_P D vwCl [(h0, .inr (2, [.ref ln, .ref mo, .ref rd])), (mo, .inr (1, [.ref ln, .int md1_4, .int mt, .int mr1_5, .int mg1_6, .ref mat, .ref mfd, .ref mhd])), (ln, .inr (0, [.int lpe, .int ltk, .ref lho, .ref lli, .ref lki, .ref lfd, .ref lfr, .ref lto, .ref lse, .ref lhl])), (lto, .inl (cI, 7, .inl lFto)), (lfr, .inl (cI, 7, .inl lFfr)), (lki, .inl (cI, 5, .inl lFki)), (mat, .inl (cI, 5, .inl Gat_7)), (mfd, .inl (cI, 7, .inl Gfd_8)), (mhd, .inl (cI, 7, .inl Ghd_9)), (rd, .inl (cI, 5, .inl Grd_10))] H := hP.sub [0, 1, 2, 3, 4, 5, 6, 7, 8, 9] rfl
        have hD : va_D A [(h0, .inr (2, [.ref ln, .ref mo, .ref rd])), (mo, .inr (1, [.ref ln, .int md1_4, .int mt, .int mr1_5, .int mg1_6, .ref mat, .ref mfd, .ref mhd])), (ln, .inr (0, [.int lpe, .int ltk, .ref lho, .ref lli, .ref lki, .ref lfd, .ref lfr, .ref lto, .ref lse, .ref lhl])), (lto, .inl (cI, 7, .inl lFto)), (lfr, .inl (cI, 7, .inl lFfr)), (lki, .inl (cI, 5, .inl lFki)), (mat, .inl (cI, 5, .inl Gat_7)), (mfd, .inl (cI, 7, .inl Gfd_8)), (mhd, .inl (cI, 7, .inl Ghd_9)), (rd, .inl (cI, 5, .inl Grd_10))] := hD.sub [0, 1, 2, 3, 4, 5, 6, 7, 8, 9] (by decide) rfl
        refine W.widen (k := 0) (n := 0) (Nat.le_refl _) (Nat.le_refl _) ?_
        have hw : 0 ≤ r_14.toInt ∧ r_14.toInt ≤ 63 := hw
        have hw_16 := hw
        obtain ⟨hw_16a, hw_16b⟩ := hw_16
        refine lv_iadd hx hb dX2_journeysToEnd_31 ?_
        refine lv_topi (fun v_17 ev_17 => ?_)
        refine lv_istore_n (lv' := [(1, .int v_17), (0, .ref h0), (2, .int x2)]) hx hb dX2_journeysToEnd_32 rfl hl (by decide) rfl (fun ls hl => ?_)
        obtain ⟨v_18, ev_18⟩ : ∃ z : Int32, z = x2 + 1 := ⟨_, rfl⟩
        have tv_18 : v_18.toInt = x2.toInt + 1 := by rw [ev_18]; exact ti_add (x := x2) (y := 1) (show -2147483648 ≤ x2.toInt + 1 by omega) (show x2.toInt + 1 < 2147483648 by omega)
        refine lv_iinc (v := v_18) (lv' := [(2, .int v_18), (1, .int v_17), (0, .ref h0)]) hx hb dX2_journeysToEnd_33 hl (k := 2) rfl (by rw [ev_18]; rfl) (by decide) rfl (fun ls hl => ?_)
        refine lv_goto (tgt := 10) hx hb dX2_journeysToEnd_36 (by decide) ?_
        exact ih_2 v_17 v_18 md1_4 mr1_5 mg1_6 Gat_7 Gfd_8 Ghd_9 Grd_10 _ _ _ (show (10 - v_18.toInt).toNat < fu_1 by omega) (show 0 ≤ v_18.toInt ∧ v_18.toInt ≤ 10 by omega) (show 0 ≤ md1_4.toInt ∧ md1_4.toInt ≤ 10 by omega) (show v_18.toInt = md1_4.toInt by omega) hP hD hS (lv_sub hl [2, 1, 0] rfl)
  exact LOOP_1 _ 0 md md mr mg mFat mFfd mFhd Frd _ _ _ (Nat.lt_succ_self _) (show 0 ≤ md.toInt ∧ md.toInt ≤ 10 by omega) (show 0 ≤ md.toInt ∧ md.toInt ≤ 10 by omega) (show md.toInt = md.toInt by omega) hP hD hS (lv_sub hl [2, 1, 0] rfl)

set_option maxHeartbeats 600000 in
set_option maxRecDepth 100000 in
theorem c_X2_gladAtEnd (l : Launch) (D : va_G) (cI cZ cM : ClassId) (h0 : Nat) (ln : Nat) (mo : Nat) (rd : Nat) (md : Int32) (mt : Int32) (mr : Int32) (mg : Int32) (mat : Nat) (mfd : Nat) (mhd : Nat) (lpe : Int32) (ltk : Int32) (lho : Nat) (lli : Nat) (lki : Nat) (lfd : Nat) (lfr : Nat) (lto : Nat) (lse : Nat) (lhl : Nat) (lFto : Nat → Int32) (lFfr : Nat → Int32) (lFki : Nat → Int32) (lFli : Nat → Int32) (mFat : Nat → Int32) (mFfd : Nat → Int32) (mFhd : Nat → Int32) (Frd : Nat → Int32) (sz : Nat) (h_mt : 0 ≤ mt.toInt ∧ mt.toInt ≤ 7) (h_lpe : 0 ≤ lpe.toInt ∧ lpe.toInt ≤ 5) (h_md : 0 ≤ md.toInt ∧ md.toInt ≤ 10) : Ci l yX2_gladAtEnd wsX2_gladAtEnd ({ frames := 4, cells := 0, slots := 0, locals := 93 } : Room) D cI cZ cM [.ref h0] [(h0, .inr (2, [.ref ln, .ref mo, .ref rd])), (mo, .inr (1, [.ref ln, .int md, .int mt, .int mr, .int mg, .ref mat, .ref mfd, .ref mhd])), (ln, .inr (0, [.int lpe, .int ltk, .ref lho, .ref lli, .ref lki, .ref lfd, .ref lfr, .ref lto, .ref lse, .ref lhl])), (lto, .inl (cI, 7, .inl lFto)), (lfr, .inl (cI, 7, .inl lFfr)), (lki, .inl (cI, 5, .inl lFki)), (lli, .inl (cI, 5, .inl lFli)), (mat, .inl (cI, 5, .inl mFat)), (mfd, .inl (cI, 7, .inl mFfd)), (mhd, .inl (cI, 7, .inl mFhd)), (rd, .inl (cI, 5, .inl Frd))] sz (fun (r : Int32) (u : Int32 × Int32 × Int32 × (Nat → Int32) × (Nat → Int32) × (Nat → Int32) × (Nat → Int32)) => 0 ≤ r.toInt ∧ r.toInt ≤ lpe.toInt) (fun u => [(h0, .inr (2, [.ref ln, .ref mo, .ref rd])), (mo, .inr (1, [.ref ln, .int u.1, .int mt, .int u.2.1, .int u.2.2.1, .ref mat, .ref mfd, .ref mhd])), (ln, .inr (0, [.int lpe, .int ltk, .ref lho, .ref lli, .ref lki, .ref lfd, .ref lfr, .ref lto, .ref lse, .ref lhl])), (lto, .inl (cI, 7, .inl lFto)), (lfr, .inl (cI, 7, .inl lFfr)), (lki, .inl (cI, 5, .inl lFki)), (lli, .inl (cI, 5, .inl lFli)), (mat, .inl (cI, 5, .inl u.2.2.2.1)), (mfd, .inl (cI, 7, .inl u.2.2.2.2.1)), (mhd, .inl (cI, 7, .inl u.2.2.2.2.2.1)), (rd, .inl (cI, 5, .inl u.2.2.2.2.2.2))]) 0 0 := by
  refine begins (l := l) (y := yX2_gladAtEnd) (ws := wsX2_gladAtEnd) (av := [.ref h0]) (Qc := fun A => va_Qi (fun (r : Int32) (u : Int32 × Int32 × Int32 × (Nat → Int32) × (Nat → Int32) × (Nat → Int32) × (Nat → Int32)) => 0 ≤ r.toInt ∧ r.toInt ≤ lpe.toInt) (fun u => Wd D cI cZ cM A ((fun u => [(h0, .inr (2, [.ref ln, .ref mo, .ref rd])), (mo, .inr (1, [.ref ln, .int u.1, .int mt, .int u.2.1, .int u.2.2.1, .ref mat, .ref mfd, .ref mhd])), (ln, .inr (0, [.int lpe, .int ltk, .ref lho, .ref lli, .ref lki, .ref lfd, .ref lfr, .ref lto, .ref lse, .ref lhl])), (lto, .inl (cI, 7, .inl lFto)), (lfr, .inl (cI, 7, .inl lFfr)), (lki, .inl (cI, 5, .inl lFki)), (lli, .inl (cI, 5, .inl lFli)), (mat, .inl (cI, 5, .inl u.2.2.2.1)), (mfd, .inl (cI, 7, .inl u.2.2.2.2.1)), (mhd, .inl (cI, 7, .inl u.2.2.2.2.2.1)), (rd, .inl (cI, 5, .inl u.2.2.2.2.2.2))]) u)) A) cX2_gladAtEnd 1 (some .int) (by decide) rfl (Nat.le_of_ble_eq_true rfl) ?_
  intro p e s m args below meth c R Q A ls hBd hR hQ hA hS hK hP hD hl
  obtain ⟨hx, hb, hr, hts, hown, hlocks, hin, hml⟩ := hBd
  have hl : lv_has ls 1 [(0, .ref h0)] := hl
  have iX2 : ∀ w ∈ wsX20, w ∈ wsX2_gladAtEnd := fun _ h => List.mem_cons_of_mem _ (List.mem_append_left _ (List.mem_append_left _ (List.mem_append_right _ h)))
  have iX1 : ∀ w ∈ wsX10, w ∈ wsX2_gladAtEnd := fun _ h => List.mem_cons_of_mem _ (List.mem_append_left _ (List.mem_append_right _ h))
  have iX0 : ∀ w ∈ wsX00, w ∈ wsX2_gladAtEnd := fun _ h => List.mem_cons_of_mem _ (List.mem_append_right _ h)
  obtain ⟨h_mta, h_mtb⟩ := h_mt
  obtain ⟨h_lpea, h_lpeb⟩ := h_lpe
  obtain ⟨h_mda, h_mdb⟩ := h_md
  refine lv_aload_n hx hb dX2_gladAtEnd_0 rfl (lv_at hl 0 rfl) ?_
  refine lv_bipush (v := 10) hx hb dX2_gladAtEnd_1 (by decide) ?_
  refine cV_v (As := [.int 10]) (rest := []) ⟨hx, hb, hml, hown, hts⟩ (c_X2_passDaysTo l D cI cZ cM h0 10 ln mo rd md mt mr mg mat mfd mhd lpe ltk lho lli lki lfd lfr lto lse lhl lFto lFfr lFki mFat mFfd mFhd Frd _ (show 0 ≤ mt.toInt ∧ mt.toInt ≤ 7 by omega) (show 0 ≤ lpe.toInt ∧ lpe.toInt ≤ 5 by omega) (show 0 ≤ md.toInt ∧ md.toInt ≤ 10 by omega) (by decide)) (cwV 1 hts gX2_gladAtEnd_X2_passDaysTo rfl rfl rfl (by decide +kernel) ⟨by rw [hR]; decide, by rw [hR]; decide⟩) hK hP hD hS hA [0, 1, 2, 3, 4, 5, 7, 8, 9, 10] [6] rfl rfl (by decide) (by decide) (by decide) rfl 0 rfl hl.1 rfl rfl (Nat.le_of_ble_eq_true rfl) dX2_gladAtEnd_3 ⟨by rw [hR]; decide, by rw [hR]; decide⟩ (fun u_9 H locs hw hP hD hS => ?_)
  obtain ⟨md1_1, mr1_2, mg1_3, Gat_4, Gfd_5, Ghd_6, Grd_7⟩ := u_9
  have hP : va_P D vwCl [(h0, .inr (2, [.ref ln, .ref mo, .ref rd])), (mo, .inr (1, [.ref ln, .int md1_1, .int mt, .int mr1_2, .int mg1_3, .ref mat, .ref mfd, .ref mhd])), (ln, .inr (0, [.int lpe, .int ltk, .ref lho, .ref lli, .ref lki, .ref lfd, .ref lfr, .ref lto, .ref lse, .ref lhl])), (lto, .inl (cI, 7, .inl lFto)), (lfr, .inl (cI, 7, .inl lFfr)), (lki, .inl (cI, 5, .inl lFki)), (lli, .inl (cI, 5, .inl lFli)), (mat, .inl (cI, 5, .inl Gat_4)), (mfd, .inl (cI, 7, .inl Gfd_5)), (mhd, .inl (cI, 7, .inl Ghd_6)), (rd, .inl (cI, 5, .inl Grd_7))] H := hP.sub [1, 2, 3, 4, 5, 6, 0, 7, 8, 9, 10] rfl
  have hD : va_D A [(h0, .inr (2, [.ref ln, .ref mo, .ref rd])), (mo, .inr (1, [.ref ln, .int md1_1, .int mt, .int mr1_2, .int mg1_3, .ref mat, .ref mfd, .ref mhd])), (ln, .inr (0, [.int lpe, .int ltk, .ref lho, .ref lli, .ref lki, .ref lfd, .ref lfr, .ref lto, .ref lse, .ref lhl])), (lto, .inl (cI, 7, .inl lFto)), (lfr, .inl (cI, 7, .inl lFfr)), (lki, .inl (cI, 5, .inl lFki)), (lli, .inl (cI, 5, .inl lFli)), (mat, .inl (cI, 5, .inl Gat_4)), (mfd, .inl (cI, 7, .inl Gfd_5)), (mhd, .inl (cI, 7, .inl Ghd_6)), (rd, .inl (cI, 5, .inl Grd_7))] := hD.sub [1, 2, 3, 4, 5, 6, 0, 7, 8, 9, 10] (by decide) rfl
  refine W.widen (k := 0) (n := 0) (Nat.le_refl _) (Nat.le_refl _) ?_
  refine lv_aload_n hx hb dX2_gladAtEnd_6 rfl (lv_at hl 0 rfl) ?_
  refine va_get (D := D) (ci := 2) (v := .ref mo) (C := RX2) (T := TX2) (N := 3) hx hb hts iX2 hown hK hP 0 rfl rfl 1 (by decide) (hts (.fieldLink RX2 24 "PunchedTicket$Trial" "moment" "LPunchedTicket$Moment;") (List.mem_of_getElem? (i := 1) rfl)) (fun _ h9 => h9) rfl dX2_gladAtEnd_7 ?_
  refine cV_i (As := []) (rest := []) ⟨hx, hb, hml, hown, hts⟩ (c_X1_gladNow l D cI cZ cM mo ln md1_1 mt mr1_2 mg1_3 mat mfd mhd lpe ltk lho lli lki lfd lfr lto lse lhl lFli Gat_4 _ (show 0 ≤ lpe.toInt ∧ lpe.toInt ≤ 5 by omega)) (cwV 0 hts gX2_gladAtEnd_X1_gladNow rfl rfl rfl (by decide +kernel) ⟨by rw [hR]; decide, by rw [hR]; decide⟩) hK hP hD hS hA [1, 2, 6, 7] [0, 3, 4, 5, 8, 9, 10] rfl rfl (by decide) (by decide) (by decide) rfl 1 rfl hl.1 rfl rfl (Nat.le_of_ble_eq_true rfl) dX2_gladAtEnd_10 ⟨by rw [hR]; decide, by rw [hR]; decide⟩ (fun r_10 u_11 H locs hw hP hD hS => ?_)
  have hP : va_P D vwCl [(h0, .inr (2, [.ref ln, .ref mo, .ref rd])), (mo, .inr (1, [.ref ln, .int md1_1, .int mt, .int mr1_2, .int mg1_3, .ref mat, .ref mfd, .ref mhd])), (ln, .inr (0, [.int lpe, .int ltk, .ref lho, .ref lli, .ref lki, .ref lfd, .ref lfr, .ref lto, .ref lse, .ref lhl])), (lto, .inl (cI, 7, .inl lFto)), (lfr, .inl (cI, 7, .inl lFfr)), (lki, .inl (cI, 5, .inl lFki)), (lli, .inl (cI, 5, .inl lFli)), (mat, .inl (cI, 5, .inl Gat_4)), (mfd, .inl (cI, 7, .inl Gfd_5)), (mhd, .inl (cI, 7, .inl Ghd_6)), (rd, .inl (cI, 5, .inl Grd_7))] H := hP.sub [0, 7, 8, 1, 2, 3, 9, 10, 4, 5, 6] rfl
  have hD : va_D A [(h0, .inr (2, [.ref ln, .ref mo, .ref rd])), (mo, .inr (1, [.ref ln, .int md1_1, .int mt, .int mr1_2, .int mg1_3, .ref mat, .ref mfd, .ref mhd])), (ln, .inr (0, [.int lpe, .int ltk, .ref lho, .ref lli, .ref lki, .ref lfd, .ref lfr, .ref lto, .ref lse, .ref lhl])), (lto, .inl (cI, 7, .inl lFto)), (lfr, .inl (cI, 7, .inl lFfr)), (lki, .inl (cI, 5, .inl lFki)), (lli, .inl (cI, 5, .inl lFli)), (mat, .inl (cI, 5, .inl Gat_4)), (mfd, .inl (cI, 7, .inl Gfd_5)), (mhd, .inl (cI, 7, .inl Ghd_6)), (rd, .inl (cI, 5, .inl Grd_7))] := hD.sub [0, 7, 8, 1, 2, 3, 9, 10, 4, 5, 6] (by decide) rfl
  refine W.widen (k := 0) (n := 0) (Nat.le_refl _) (Nat.le_refl _) ?_
  have hw : 0 ≤ r_10.toInt ∧ r_10.toInt ≤ lpe.toInt := hw
  have hw_12 := hw
  obtain ⟨hw_12a, hw_12b⟩ := hw_12
  exact ret_i (post := (fun (r : Int32) (u : Int32 × Int32 × Int32 × (Nat → Int32) × (Nat → Int32) × (Nat → Int32) × (Nat → Int32)) => 0 ≤ r.toInt ∧ r.toInt ≤ lpe.toInt)) (W1 := (fun u => [(h0, .inr (2, [.ref ln, .ref mo, .ref rd])), (mo, .inr (1, [.ref ln, .int u.1, .int mt, .int u.2.1, .int u.2.2.1, .ref mat, .ref mfd, .ref mhd])), (ln, .inr (0, [.int lpe, .int ltk, .ref lho, .ref lli, .ref lki, .ref lfd, .ref lfr, .ref lto, .ref lse, .ref lhl])), (lto, .inl (cI, 7, .inl lFto)), (lfr, .inl (cI, 7, .inl lFfr)), (lki, .inl (cI, 5, .inl lFki)), (lli, .inl (cI, 5, .inl lFli)), (mat, .inl (cI, 5, .inl u.2.2.2.1)), (mfd, .inl (cI, 7, .inl u.2.2.2.2.1)), (mhd, .inl (cI, 7, .inl u.2.2.2.2.2.1)), (rd, .inl (cI, 5, .inl u.2.2.2.2.2.2))])) (md1_1, mr1_2, mg1_3, Gat_4, Gfd_5, Ghd_6, Grd_7) hx hb hr hlocks rfl hQ hK hP hD hS ⟨by decide, by decide⟩ dX2_gladAtEnd_13 (show 0 ≤ r_10.toInt ∧ r_10.toInt ≤ lpe.toInt by omega)

set_option maxHeartbeats 600000 in
set_option maxRecDepth 100000 in
theorem c_X2_firstMeeting (l : Launch) (D : va_G) (cI cZ cM : ClassId) (h0 : Nat) (n : Int32) (k : Int32) (ln : Nat) (mo : Nat) (rd : Nat) (md : Int32) (mt : Int32) (mr : Int32) (mg : Int32) (mat : Nat) (mfd : Nat) (mhd : Nat) (lpe : Int32) (ltk : Int32) (lho : Nat) (lli : Nat) (lki : Nat) (lfd : Nat) (lfr : Nat) (lto : Nat) (lse : Nat) (lhl : Nat) (lFto : Nat → Int32) (lFfr : Nat → Int32) (lFki : Nat → Int32) (mFat : Nat → Int32) (mFfd : Nat → Int32) (mFhd : Nat → Int32) (Frd : Nat → Int32) (sz : Nat) (h_mt : 0 ≤ mt.toInt ∧ mt.toInt ≤ 7) (h_lpe : 0 ≤ lpe.toInt ∧ lpe.toInt ≤ 5) (h_md : 0 ≤ md.toInt ∧ md.toInt ≤ 10) (h_n : 0 ≤ n.toInt ∧ n.toInt ≤ 4) (h_k : 0 ≤ k.toInt ∧ k.toInt ≤ 4) : Ci l yX2_firstMeeting wsX2_firstMeeting ({ frames := 3, cells := 0, slots := 0, locals := 71 } : Room) D cI cZ cM [.ref h0, .int n, .int k] [(h0, .inr (2, [.ref ln, .ref mo, .ref rd])), (mo, .inr (1, [.ref ln, .int md, .int mt, .int mr, .int mg, .ref mat, .ref mfd, .ref mhd])), (ln, .inr (0, [.int lpe, .int ltk, .ref lho, .ref lli, .ref lki, .ref lfd, .ref lfr, .ref lto, .ref lse, .ref lhl])), (lto, .inl (cI, 7, .inl lFto)), (lfr, .inl (cI, 7, .inl lFfr)), (lki, .inl (cI, 5, .inl lFki)), (mat, .inl (cI, 5, .inl mFat)), (mfd, .inl (cI, 7, .inl mFfd)), (mhd, .inl (cI, 7, .inl mFhd)), (rd, .inl (cI, 5, .inl Frd))] sz (fun (r : Int32) (u : Int32 × Int32 × Int32 × (Nat → Int32) × (Nat → Int32) × (Nat → Int32) × (Nat → Int32)) => True) (fun u => [(h0, .inr (2, [.ref ln, .ref mo, .ref rd])), (mo, .inr (1, [.ref ln, .int u.1, .int mt, .int u.2.1, .int u.2.2.1, .ref mat, .ref mfd, .ref mhd])), (ln, .inr (0, [.int lpe, .int ltk, .ref lho, .ref lli, .ref lki, .ref lfd, .ref lfr, .ref lto, .ref lse, .ref lhl])), (lto, .inl (cI, 7, .inl lFto)), (lfr, .inl (cI, 7, .inl lFfr)), (lki, .inl (cI, 5, .inl lFki)), (mat, .inl (cI, 5, .inl u.2.2.2.1)), (mfd, .inl (cI, 7, .inl u.2.2.2.2.1)), (mhd, .inl (cI, 7, .inl u.2.2.2.2.2.1)), (rd, .inl (cI, 5, .inl u.2.2.2.2.2.2))]) 0 0 := by
  refine begins (l := l) (y := yX2_firstMeeting) (ws := wsX2_firstMeeting) (av := [.ref h0, .int n, .int k]) (Qc := fun A => va_Qi (fun (r : Int32) (u : Int32 × Int32 × Int32 × (Nat → Int32) × (Nat → Int32) × (Nat → Int32) × (Nat → Int32)) => True) (fun u => Wd D cI cZ cM A ((fun u => [(h0, .inr (2, [.ref ln, .ref mo, .ref rd])), (mo, .inr (1, [.ref ln, .int u.1, .int mt, .int u.2.1, .int u.2.2.1, .ref mat, .ref mfd, .ref mhd])), (ln, .inr (0, [.int lpe, .int ltk, .ref lho, .ref lli, .ref lki, .ref lfd, .ref lfr, .ref lto, .ref lse, .ref lhl])), (lto, .inl (cI, 7, .inl lFto)), (lfr, .inl (cI, 7, .inl lFfr)), (lki, .inl (cI, 5, .inl lFki)), (mat, .inl (cI, 5, .inl u.2.2.2.1)), (mfd, .inl (cI, 7, .inl u.2.2.2.2.1)), (mhd, .inl (cI, 7, .inl u.2.2.2.2.2.1)), (rd, .inl (cI, 5, .inl u.2.2.2.2.2.2))]) u)) A) cX2_firstMeeting 4 (some .int) (by decide) rfl (Nat.le_of_ble_eq_true rfl) ?_
  intro p e s m args below meth c R Q A ls hBd hR hQ hA hS hK hP hD hl
  obtain ⟨hx, hb, hr, hts, hown, hlocks, hin, hml⟩ := hBd
  have hl : lv_has ls 4 [(0, .ref h0), (1, .int n), (2, .int k)] := hl
  have iX2 : ∀ w ∈ wsX20, w ∈ wsX2_firstMeeting := fun _ h => List.mem_cons_of_mem _ (List.mem_append_left _ (List.mem_append_left _ (List.mem_append_right _ h)))
  have iX1 : ∀ w ∈ wsX10, w ∈ wsX2_firstMeeting := fun _ h => List.mem_cons_of_mem _ (List.mem_append_left _ (List.mem_append_right _ h))
  have iX0 : ∀ w ∈ wsX00, w ∈ wsX2_firstMeeting := fun _ h => List.mem_cons_of_mem _ (List.mem_append_right _ h)
  obtain ⟨h_mta, h_mtb⟩ := h_mt
  obtain ⟨h_lpea, h_lpeb⟩ := h_lpe
  obtain ⟨h_mda, h_mdb⟩ := h_md
  obtain ⟨h_na, h_nb⟩ := h_n
  obtain ⟨h_ka, h_kb⟩ := h_k
  refine lv_aload_n hx hb dX2_firstMeeting_0 rfl (lv_at hl 0 rfl) ?_
  refine va_get (D := D) (ci := 2) (v := .ref mo) (C := RX2) (T := TX2) (N := 3) hx hb hts iX2 hown hK hP 0 rfl rfl 1 (by decide) (hts (.fieldLink RX2 24 "PunchedTicket$Trial" "moment" "LPunchedTicket$Moment;") (List.mem_of_getElem? (i := 1) rfl)) (fun _ h9 => h9) rfl dX2_firstMeeting_1 ?_
  refine va_get (D := D) (ci := 1) (v := .int md) (C := RX1) (T := TX1) (N := 8) hx hb hts iX1 hown hK hP 1 rfl rfl 1 (by decide) (hts (.fieldLink RX2 51 "PunchedTicket$Moment" "day" "I") (List.mem_of_getElem? (i := 2) rfl)) (fun _ h9 => h9) rfl dX2_firstMeeting_4 ?_
  refine lv_istore_n (lv' := [(3, .int md), (0, .ref h0), (1, .int n), (2, .int k)]) hx hb dX2_firstMeeting_7 rfl hl (by decide) rfl (fun ls hl => ?_)
  have LOOP_1 : ∀ (fu_1 : Nat) (x3 : Int32) (nd : Int32) (nr : Int32) (ng : Int32) (nat : Nat → Int32) (nfd : Nat → Int32) (nhd : Nat → Int32) (nrd : Nat → Int32) (H : Heap) (locs : List Loc) (ls : Array Slot), (10 - x3.toInt).toNat < fu_1 → (0 ≤ x3.toInt ∧ x3.toInt ≤ 10) → (0 ≤ nd.toInt ∧ nd.toInt ≤ 10) → (x3.toInt = nd.toInt) → va_P D vwCl [(h0, .inr (2, [.ref ln, .ref mo, .ref rd])), (mo, .inr (1, [.ref ln, .int nd, .int mt, .int nr, .int ng, .ref mat, .ref mfd, .ref mhd])), (ln, .inr (0, [.int lpe, .int ltk, .ref lho, .ref lli, .ref lki, .ref lfd, .ref lfr, .ref lto, .ref lse, .ref lhl])), (lto, .inl (cI, 7, .inl lFto)), (lfr, .inl (cI, 7, .inl lFfr)), (lki, .inl (cI, 5, .inl lFki)), (mat, .inl (cI, 5, .inl nat)), (mfd, .inl (cI, 7, .inl nfd)), (mhd, .inl (cI, 7, .inl nhd)), (rd, .inl (cI, 5, .inl nrd))] H → va_D A [(h0, .inr (2, [.ref ln, .ref mo, .ref rd])), (mo, .inr (1, [.ref ln, .int nd, .int mt, .int nr, .int ng, .ref mat, .ref mfd, .ref mhd])), (ln, .inr (0, [.int lpe, .int ltk, .ref lho, .ref lli, .ref lki, .ref lfd, .ref lfr, .ref lto, .ref lse, .ref lhl])), (lto, .inl (cI, 7, .inl lFto)), (lfr, .inl (cI, 7, .inl lFfr)), (lki, .inl (cI, 5, .inl lFki)), (mat, .inl (cI, 5, .inl nat)), (mfd, .inl (cI, 7, .inl nfd)), (mhd, .inl (cI, 7, .inl nhd)), (rd, .inl (cI, 5, .inl nrd))] → va_S A s.heap H locs → lv_has ls 4 [(0, .ref h0), (1, .int n), (2, .int k), (3, .int x3)] → W p l e R s m args below meth c H locs 0 0 Q (F0 m 8 ls []) := by
    intro fu_1
    induction fu_1 with
    | zero => intro x3 nd nr ng nat nfd nhd nrd H locs ls hmu; exact absurd hmu (Nat.not_lt_zero _)
    | succ fu_1 ih =>
      intro x3 nd nr ng nat nfd nhd nrd H locs ls hmu h_x3 h_nd hxd hP hD hS hl
      obtain ⟨h_x3a, h_x3b⟩ := h_x3
      obtain ⟨h_nda, h_ndb⟩ := h_nd
      have ih_2 := ih
      clear ih
      refine lv_iload_n hx hb dX2_firstMeeting_8 rfl (lv_at hl 3 rfl) ?_
      refine lv_bipush (v := 10) hx hb dX2_firstMeeting_9 (by decide) ?_
      refine lv_icmp_ge (tgt := 43) hx hb dX2_firstMeeting_11 (by decide) (fun c_3 => ?_) (fun c_3 => ?_)
      · have tc_3 := b_le (show (10 : Int32).toInt = 10 by decide) rfl c_3
        refine lv_bipush (v := (-9)) hx hb dX2_firstMeeting_43 (by decide) ?_
        exact ret_i (post := (fun (r : Int32) (u : Int32 × Int32 × Int32 × (Nat → Int32) × (Nat → Int32) × (Nat → Int32) × (Nat → Int32)) => True)) (W1 := (fun u => [(h0, .inr (2, [.ref ln, .ref mo, .ref rd])), (mo, .inr (1, [.ref ln, .int u.1, .int mt, .int u.2.1, .int u.2.2.1, .ref mat, .ref mfd, .ref mhd])), (ln, .inr (0, [.int lpe, .int ltk, .ref lho, .ref lli, .ref lki, .ref lfd, .ref lfr, .ref lto, .ref lse, .ref lhl])), (lto, .inl (cI, 7, .inl lFto)), (lfr, .inl (cI, 7, .inl lFfr)), (lki, .inl (cI, 5, .inl lFki)), (mat, .inl (cI, 5, .inl u.2.2.2.1)), (mfd, .inl (cI, 7, .inl u.2.2.2.2.1)), (mhd, .inl (cI, 7, .inl u.2.2.2.2.2.1)), (rd, .inl (cI, 5, .inl u.2.2.2.2.2.2))])) (nd, nr, ng, nat, nfd, nhd, nrd) hx hb hr hlocks rfl hQ hK hP hD hS ⟨by decide, by decide⟩ dX2_firstMeeting_45 trivial
      · have tc_3 := b_nle (show (10 : Int32).toInt = 10 by decide) rfl c_3
        refine lv_aload_n hx hb dX2_firstMeeting_14 rfl (lv_at hl 0 rfl) ?_
        refine va_get (D := D) (ci := 2) (v := .ref mo) (C := RX2) (T := TX2) (N := 3) hx hb hts iX2 hown hK hP 0 rfl rfl 1 (by decide) (hts (.fieldLink RX2 24 "PunchedTicket$Trial" "moment" "LPunchedTicket$Moment;") (List.mem_of_getElem? (i := 1) rfl)) (fun _ h9 => h9) rfl dX2_firstMeeting_15 ?_
        refine lv_aload_n hx hb dX2_firstMeeting_18 rfl (lv_at hl 0 rfl) ?_
        refine va_get (D := D) (ci := 2) (v := .ref rd) (C := RX2) (T := TX2) (N := 3) hx hb hts iX2 hown hK hP 0 rfl rfl 2 (by decide) (hts (.fieldLink RX2 9 "PunchedTicket$Trial" "rides" "[I") (List.mem_of_getElem? (i := 3) rfl)) (fun _ h9 => h9) rfl dX2_firstMeeting_19 ?_
        refine cV_i (As := [.ref rd]) (rest := []) ⟨hx, hb, hml, hown, hts⟩ (c_X1_passDay l D cI cZ cM mo rd ln nd mt nr ng mat mfd mhd lpe ltk lho lli lki lfd lfr lto lse lhl lFto lFfr lFki nat nfd nhd nrd _ (show 0 ≤ mt.toInt ∧ mt.toInt ≤ 7 by omega) (show 0 ≤ lpe.toInt ∧ lpe.toInt ≤ 5 by omega) (show 0 ≤ nd.toInt ∧ nd.toInt ≤ 9 by omega)) (cwV 1 hts gX2_firstMeeting_X1_passDay rfl rfl rfl (by decide +kernel) ⟨by rw [hR]; decide, by rw [hR]; decide⟩) hK hP hD hS hA [1, 2, 3, 4, 5, 6, 7, 8, 9] [0] rfl rfl (by decide) (by decide) (by decide) rfl 1 rfl hl.1 rfl rfl (Nat.le_of_ble_eq_true rfl) dX2_firstMeeting_22 ⟨by rw [hR]; decide, by rw [hR]; decide⟩ (fun r_11 u_12 H locs hw hP hD hS => ?_)
        obtain ⟨md1_4, mr1_5, mg1_6, Gat_7, Gfd_8, Ghd_9, Grd_10⟩ := u_12
        have hP : va_P D vwCl [(h0, .inr (2, [.ref ln, .ref mo, .ref rd])), (mo, .inr (1, [.ref ln, .int md1_4, .int mt, .int mr1_5, .int mg1_6, .ref mat, .ref mfd, .ref mhd])), (ln, .inr (0, [.int lpe, .int ltk, .ref lho, .ref lli, .ref lki, .ref lfd, .ref lfr, .ref lto, .ref lse, .ref lhl])), (lto, .inl (cI, 7, .inl lFto)), (lfr, .inl (cI, 7, .inl lFfr)), (lki, .inl (cI, 5, .inl lFki)), (mat, .inl (cI, 5, .inl Gat_7)), (mfd, .inl (cI, 7, .inl Gfd_8)), (mhd, .inl (cI, 7, .inl Ghd_9)), (rd, .inl (cI, 5, .inl Grd_10))] H := hP.sub [0, 1, 2, 3, 4, 5, 6, 7, 8, 9] rfl
        have hD : va_D A [(h0, .inr (2, [.ref ln, .ref mo, .ref rd])), (mo, .inr (1, [.ref ln, .int md1_4, .int mt, .int mr1_5, .int mg1_6, .ref mat, .ref mfd, .ref mhd])), (ln, .inr (0, [.int lpe, .int ltk, .ref lho, .ref lli, .ref lki, .ref lfd, .ref lfr, .ref lto, .ref lse, .ref lhl])), (lto, .inl (cI, 7, .inl lFto)), (lfr, .inl (cI, 7, .inl lFfr)), (lki, .inl (cI, 5, .inl lFki)), (mat, .inl (cI, 5, .inl Gat_7)), (mfd, .inl (cI, 7, .inl Gfd_8)), (mhd, .inl (cI, 7, .inl Ghd_9)), (rd, .inl (cI, 5, .inl Grd_10))] := hD.sub [0, 1, 2, 3, 4, 5, 6, 7, 8, 9] (by decide) rfl
        refine W.widen (k := 0) (n := 0) (Nat.le_refl _) (Nat.le_refl _) ?_
        have hw : md1_4.toInt = nd.toInt + 1 ∧ (lpe.toInt = 0 → r_11.toInt = 0) := hw
        have hw_13 := hw
        refine lv_pop hx hb dX2_firstMeeting_25 rfl ?_
        refine lv_aload_n hx hb dX2_firstMeeting_26 rfl (lv_at hl 0 rfl) ?_
        refine lv_iload_n hx hb dX2_firstMeeting_27 rfl (lv_at hl 1 rfl) ?_
        refine lv_iload_n hx hb dX2_firstMeeting_28 rfl (lv_at hl 2 rfl) ?_
        refine cV_i (As := [.int n, .int k]) (rest := []) ⟨hx, hb, hml, hown, hts⟩ (c_X2_wentTogether l D cI cZ cM h0 n k ln mo rd md1_4 mt mr1_5 mg1_6 mat mfd mhd lpe ltk lho lli lki lfd lfr lto lse lhl lFfr lFto Grd_10 _ (show 0 ≤ n.toInt ∧ n.toInt ≤ 4 by omega) (show 0 ≤ k.toInt ∧ k.toInt ≤ 4 by omega) (show 0 ≤ mt.toInt ∧ mt.toInt ≤ 7 by omega)) (cwV 2 hts gX2_firstMeeting_X2_wentTogether rfl rfl rfl (by decide +kernel) ⟨by rw [hR]; decide, by rw [hR]; decide⟩) hK hP hD hS hA [0, 1, 2, 4, 3, 9] [5, 6, 7, 8] rfl rfl (by decide) (by decide) (by decide) rfl 0 rfl hl.1 rfl rfl (Nat.le_of_ble_eq_true rfl) dX2_firstMeeting_29 ⟨by rw [hR]; decide, by rw [hR]; decide⟩ (fun r_14 u_15 H locs hw hP hD hS => ?_)
        have hP : va_P D vwCl [(h0, .inr (2, [.ref ln, .ref mo, .ref rd])), (mo, .inr (1, [.ref ln, .int md1_4, .int mt, .int mr1_5, .int mg1_6, .ref mat, .ref mfd, .ref mhd])), (ln, .inr (0, [.int lpe, .int ltk, .ref lho, .ref lli, .ref lki, .ref lfd, .ref lfr, .ref lto, .ref lse, .ref lhl])), (lto, .inl (cI, 7, .inl lFto)), (lfr, .inl (cI, 7, .inl lFfr)), (lki, .inl (cI, 5, .inl lFki)), (mat, .inl (cI, 5, .inl Gat_7)), (mfd, .inl (cI, 7, .inl Gfd_8)), (mhd, .inl (cI, 7, .inl Ghd_9)), (rd, .inl (cI, 5, .inl Grd_10))] H := hP.sub [4, 5, 6, 8, 7, 0, 1, 2, 3, 9] rfl
        have hD : va_D A [(h0, .inr (2, [.ref ln, .ref mo, .ref rd])), (mo, .inr (1, [.ref ln, .int md1_4, .int mt, .int mr1_5, .int mg1_6, .ref mat, .ref mfd, .ref mhd])), (ln, .inr (0, [.int lpe, .int ltk, .ref lho, .ref lli, .ref lki, .ref lfd, .ref lfr, .ref lto, .ref lse, .ref lhl])), (lto, .inl (cI, 7, .inl lFto)), (lfr, .inl (cI, 7, .inl lFfr)), (lki, .inl (cI, 5, .inl lFki)), (mat, .inl (cI, 5, .inl Gat_7)), (mfd, .inl (cI, 7, .inl Gfd_8)), (mhd, .inl (cI, 7, .inl Ghd_9)), (rd, .inl (cI, 5, .inl Grd_10))] := hD.sub [4, 5, 6, 8, 7, 0, 1, 2, 3, 9] (by decide) rfl
        refine W.widen (k := 0) (n := 0) (Nat.le_refl _) (Nat.le_refl _) ?_
        have hw : r_14.toInt = 0 ∨ (r_14.toInt = 1 ∧ 0 ≤ (Grd_10 n.toNatClampNeg).toInt ∧ (Grd_10 n.toNatClampNeg).toInt ≤ 6 ∧ 0 ≤ (Grd_10 k.toNatClampNeg).toInt ∧ (Grd_10 k.toNatClampNeg).toInt ≤ 6) := hw
        have hw_16 := hw
        refine lv_if_eq (tgt := 37) hx hb dX2_firstMeeting_32 (by decide) (fun c_17 => ?_) (fun c_17 => ?_)
        · have tc_17 := b_eq rfl (show (0 : Int32).toInt = 0 by decide) c_17
          obtain ⟨v_18, ev_18⟩ : ∃ z : Int32, z = x3 + 1 := ⟨_, rfl⟩
          have tv_18 : v_18.toInt = x3.toInt + 1 := by rw [ev_18]; exact ti_add (x := x3) (y := 1) (show -2147483648 ≤ x3.toInt + 1 by omega) (show x3.toInt + 1 < 2147483648 by omega)
          refine lv_iinc (v := v_18) (lv' := [(3, .int v_18), (0, .ref h0), (1, .int n), (2, .int k)]) hx hb dX2_firstMeeting_37 hl (k := 3) rfl (by rw [ev_18]; rfl) (by decide) rfl (fun ls hl => ?_)
          refine lv_goto (tgt := 8) hx hb dX2_firstMeeting_40 (by decide) ?_
          exact ih_2 v_18 md1_4 mr1_5 mg1_6 Gat_7 Gfd_8 Ghd_9 Grd_10 _ _ _ (show (10 - v_18.toInt).toNat < fu_1 by omega) (show 0 ≤ v_18.toInt ∧ v_18.toInt ≤ 10 by omega) (show 0 ≤ md1_4.toInt ∧ md1_4.toInt ≤ 10 by omega) (show v_18.toInt = md1_4.toInt by omega) hP hD hS (lv_sub hl [1, 2, 3, 0] rfl)
        · have tc_17 := b_ne rfl (show (0 : Int32).toInt = 0 by decide) c_17
          refine lv_iload_n hx hb dX2_firstMeeting_35 rfl (lv_at hl 3 rfl) ?_
          exact ret_i (post := (fun (r : Int32) (u : Int32 × Int32 × Int32 × (Nat → Int32) × (Nat → Int32) × (Nat → Int32) × (Nat → Int32)) => True)) (W1 := (fun u => [(h0, .inr (2, [.ref ln, .ref mo, .ref rd])), (mo, .inr (1, [.ref ln, .int u.1, .int mt, .int u.2.1, .int u.2.2.1, .ref mat, .ref mfd, .ref mhd])), (ln, .inr (0, [.int lpe, .int ltk, .ref lho, .ref lli, .ref lki, .ref lfd, .ref lfr, .ref lto, .ref lse, .ref lhl])), (lto, .inl (cI, 7, .inl lFto)), (lfr, .inl (cI, 7, .inl lFfr)), (lki, .inl (cI, 5, .inl lFki)), (mat, .inl (cI, 5, .inl u.2.2.2.1)), (mfd, .inl (cI, 7, .inl u.2.2.2.2.1)), (mhd, .inl (cI, 7, .inl u.2.2.2.2.2.1)), (rd, .inl (cI, 5, .inl u.2.2.2.2.2.2))])) (md1_4, mr1_5, mg1_6, Gat_7, Gfd_8, Ghd_9, Grd_10) hx hb hr hlocks rfl hQ hK hP hD hS ⟨by decide, by decide⟩ dX2_firstMeeting_36 trivial
  exact LOOP_1 _ md md mr mg mFat mFfd mFhd Frd _ _ _ (Nat.lt_succ_self _) (show 0 ≤ md.toInt ∧ md.toInt ≤ 10 by omega) (show 0 ≤ md.toInt ∧ md.toInt ≤ 10 by omega) (show md.toInt = md.toInt by omega) hP hD hS (lv_sub hl [1, 2, 3, 0] rfl)

set_option maxHeartbeats 600000 in
set_option maxRecDepth 100000 in
theorem c_X2_firstDouble (l : Launch) (D : va_G) (cI cZ cM : ClassId) (h0 : Nat) (ln : Nat) (mo : Nat) (rd : Nat) (md : Int32) (mt : Int32) (mr : Int32) (mg : Int32) (mat : Nat) (mfd : Nat) (mhd : Nat) (lpe : Int32) (ltk : Int32) (lho : Nat) (lli : Nat) (lki : Nat) (lfd : Nat) (lfr : Nat) (lto : Nat) (lse : Nat) (lhl : Nat) (lFto : Nat → Int32) (lFfr : Nat → Int32) (lFki : Nat → Int32) (lFse : Nat → Int32) (mFat : Nat → Int32) (mFfd : Nat → Int32) (mFhd : Nat → Int32) (Frd : Nat → Int32) (sz : Nat) (h_mt : 0 ≤ mt.toInt ∧ mt.toInt ≤ 7) (h_lpe : 0 ≤ lpe.toInt ∧ lpe.toInt ≤ 5) (h_md : 0 ≤ md.toInt ∧ md.toInt ≤ 10) : Ci l yX2_firstDouble wsX2_firstDouble ({ frames := 4, cells := 0, slots := 0, locals := 92 } : Room) D cI cZ cM [.ref h0] [(h0, .inr (2, [.ref ln, .ref mo, .ref rd])), (mo, .inr (1, [.ref ln, .int md, .int mt, .int mr, .int mg, .ref mat, .ref mfd, .ref mhd])), (ln, .inr (0, [.int lpe, .int ltk, .ref lho, .ref lli, .ref lki, .ref lfd, .ref lfr, .ref lto, .ref lse, .ref lhl])), (lto, .inl (cI, 7, .inl lFto)), (lfr, .inl (cI, 7, .inl lFfr)), (lki, .inl (cI, 5, .inl lFki)), (lse, .inl (cI, 7, .inl lFse)), (mat, .inl (cI, 5, .inl mFat)), (mfd, .inl (cI, 7, .inl mFfd)), (mhd, .inl (cI, 7, .inl mFhd)), (rd, .inl (cI, 5, .inl Frd))] sz (fun (r : Int32) (u : Int32 × Int32 × Int32 × (Nat → Int32) × (Nat → Int32) × (Nat → Int32) × (Nat → Int32)) => True) (fun u => [(h0, .inr (2, [.ref ln, .ref mo, .ref rd])), (mo, .inr (1, [.ref ln, .int u.1, .int mt, .int u.2.1, .int u.2.2.1, .ref mat, .ref mfd, .ref mhd])), (ln, .inr (0, [.int lpe, .int ltk, .ref lho, .ref lli, .ref lki, .ref lfd, .ref lfr, .ref lto, .ref lse, .ref lhl])), (lto, .inl (cI, 7, .inl lFto)), (lfr, .inl (cI, 7, .inl lFfr)), (lki, .inl (cI, 5, .inl lFki)), (lse, .inl (cI, 7, .inl lFse)), (mat, .inl (cI, 5, .inl u.2.2.2.1)), (mfd, .inl (cI, 7, .inl u.2.2.2.2.1)), (mhd, .inl (cI, 7, .inl u.2.2.2.2.2.1)), (rd, .inl (cI, 5, .inl u.2.2.2.2.2.2))]) 0 0 := by
  refine begins (l := l) (y := yX2_firstDouble) (ws := wsX2_firstDouble) (av := [.ref h0]) (Qc := fun A => va_Qi (fun (r : Int32) (u : Int32 × Int32 × Int32 × (Nat → Int32) × (Nat → Int32) × (Nat → Int32) × (Nat → Int32)) => True) (fun u => Wd D cI cZ cM A ((fun u => [(h0, .inr (2, [.ref ln, .ref mo, .ref rd])), (mo, .inr (1, [.ref ln, .int u.1, .int mt, .int u.2.1, .int u.2.2.1, .ref mat, .ref mfd, .ref mhd])), (ln, .inr (0, [.int lpe, .int ltk, .ref lho, .ref lli, .ref lki, .ref lfd, .ref lfr, .ref lto, .ref lse, .ref lhl])), (lto, .inl (cI, 7, .inl lFto)), (lfr, .inl (cI, 7, .inl lFfr)), (lki, .inl (cI, 5, .inl lFki)), (lse, .inl (cI, 7, .inl lFse)), (mat, .inl (cI, 5, .inl u.2.2.2.1)), (mfd, .inl (cI, 7, .inl u.2.2.2.2.1)), (mhd, .inl (cI, 7, .inl u.2.2.2.2.2.1)), (rd, .inl (cI, 5, .inl u.2.2.2.2.2.2))]) u)) A) cX2_firstDouble 2 (some .int) (by decide) rfl (Nat.le_of_ble_eq_true rfl) ?_
  intro p e s m args below meth c R Q A ls hBd hR hQ hA hS hK hP hD hl
  obtain ⟨hx, hb, hr, hts, hown, hlocks, hin, hml⟩ := hBd
  have hl : lv_has ls 2 [(0, .ref h0)] := hl
  have iX2 : ∀ w ∈ wsX20, w ∈ wsX2_firstDouble := fun _ h => List.mem_cons_of_mem _ (List.mem_append_left _ (List.mem_append_left _ (List.mem_append_right _ h)))
  have iX1 : ∀ w ∈ wsX10, w ∈ wsX2_firstDouble := fun _ h => List.mem_cons_of_mem _ (List.mem_append_left _ (List.mem_append_right _ h))
  have iX0 : ∀ w ∈ wsX00, w ∈ wsX2_firstDouble := fun _ h => List.mem_cons_of_mem _ (List.mem_append_right _ h)
  obtain ⟨h_mta, h_mtb⟩ := h_mt
  obtain ⟨h_lpea, h_lpeb⟩ := h_lpe
  obtain ⟨h_mda, h_mdb⟩ := h_md
  refine lv_aload_n hx hb dX2_firstDouble_0 rfl (lv_at hl 0 rfl) ?_
  refine va_get (D := D) (ci := 2) (v := .ref mo) (C := RX2) (T := TX2) (N := 3) hx hb hts iX2 hown hK hP 0 rfl rfl 1 (by decide) (hts (.fieldLink RX2 24 "PunchedTicket$Trial" "moment" "LPunchedTicket$Moment;") (List.mem_of_getElem? (i := 1) rfl)) (fun _ h9 => h9) rfl dX2_firstDouble_1 ?_
  refine va_get (D := D) (ci := 1) (v := .int md) (C := RX1) (T := TX1) (N := 8) hx hb hts iX1 hown hK hP 1 rfl rfl 1 (by decide) (hts (.fieldLink RX2 51 "PunchedTicket$Moment" "day" "I") (List.mem_of_getElem? (i := 2) rfl)) (fun _ h9 => h9) rfl dX2_firstDouble_4 ?_
  refine lv_istore_n (lv' := [(1, .int md), (0, .ref h0)]) hx hb dX2_firstDouble_7 rfl hl (by decide) rfl (fun ls hl => ?_)
  have LOOP_1 : ∀ (fu_1 : Nat) (x1 : Int32) (nd : Int32) (nr : Int32) (ng : Int32) (nat : Nat → Int32) (nfd : Nat → Int32) (nhd : Nat → Int32) (nrd : Nat → Int32) (H : Heap) (locs : List Loc) (ls : Array Slot), (10 - x1.toInt).toNat < fu_1 → (0 ≤ x1.toInt ∧ x1.toInt ≤ 10) → (0 ≤ nd.toInt ∧ nd.toInt ≤ 10) → (x1.toInt = nd.toInt) → va_P D vwCl [(h0, .inr (2, [.ref ln, .ref mo, .ref rd])), (mo, .inr (1, [.ref ln, .int nd, .int mt, .int nr, .int ng, .ref mat, .ref mfd, .ref mhd])), (ln, .inr (0, [.int lpe, .int ltk, .ref lho, .ref lli, .ref lki, .ref lfd, .ref lfr, .ref lto, .ref lse, .ref lhl])), (lto, .inl (cI, 7, .inl lFto)), (lfr, .inl (cI, 7, .inl lFfr)), (lki, .inl (cI, 5, .inl lFki)), (lse, .inl (cI, 7, .inl lFse)), (mat, .inl (cI, 5, .inl nat)), (mfd, .inl (cI, 7, .inl nfd)), (mhd, .inl (cI, 7, .inl nhd)), (rd, .inl (cI, 5, .inl nrd))] H → va_D A [(h0, .inr (2, [.ref ln, .ref mo, .ref rd])), (mo, .inr (1, [.ref ln, .int nd, .int mt, .int nr, .int ng, .ref mat, .ref mfd, .ref mhd])), (ln, .inr (0, [.int lpe, .int ltk, .ref lho, .ref lli, .ref lki, .ref lfd, .ref lfr, .ref lto, .ref lse, .ref lhl])), (lto, .inl (cI, 7, .inl lFto)), (lfr, .inl (cI, 7, .inl lFfr)), (lki, .inl (cI, 5, .inl lFki)), (lse, .inl (cI, 7, .inl lFse)), (mat, .inl (cI, 5, .inl nat)), (mfd, .inl (cI, 7, .inl nfd)), (mhd, .inl (cI, 7, .inl nhd)), (rd, .inl (cI, 5, .inl nrd))] → va_S A s.heap H locs → lv_has ls 2 [(0, .ref h0), (1, .int x1)] → W p l e R s m args below meth c H locs 0 0 Q (F0 m 8 ls []) := by
    intro fu_1
    induction fu_1 with
    | zero => intro x1 nd nr ng nat nfd nhd nrd H locs ls hmu; exact absurd hmu (Nat.not_lt_zero _)
    | succ fu_1 ih =>
      intro x1 nd nr ng nat nfd nhd nrd H locs ls hmu h_x1 h_nd hxd hP hD hS hl
      obtain ⟨h_x1a, h_x1b⟩ := h_x1
      obtain ⟨h_nda, h_ndb⟩ := h_nd
      have ih_2 := ih
      clear ih
      refine lv_iload_n hx hb dX2_firstDouble_8 rfl (lv_at hl 1 rfl) ?_
      refine lv_bipush (v := 10) hx hb dX2_firstDouble_9 (by decide) ?_
      refine lv_icmp_ge (tgt := 43) hx hb dX2_firstDouble_11 (by decide) (fun c_3 => ?_) (fun c_3 => ?_)
      · have tc_3 := b_le (show (10 : Int32).toInt = 10 by decide) rfl c_3
        refine lv_bipush (v := (-9)) hx hb dX2_firstDouble_43 (by decide) ?_
        exact ret_i (post := (fun (r : Int32) (u : Int32 × Int32 × Int32 × (Nat → Int32) × (Nat → Int32) × (Nat → Int32) × (Nat → Int32)) => True)) (W1 := (fun u => [(h0, .inr (2, [.ref ln, .ref mo, .ref rd])), (mo, .inr (1, [.ref ln, .int u.1, .int mt, .int u.2.1, .int u.2.2.1, .ref mat, .ref mfd, .ref mhd])), (ln, .inr (0, [.int lpe, .int ltk, .ref lho, .ref lli, .ref lki, .ref lfd, .ref lfr, .ref lto, .ref lse, .ref lhl])), (lto, .inl (cI, 7, .inl lFto)), (lfr, .inl (cI, 7, .inl lFfr)), (lki, .inl (cI, 5, .inl lFki)), (lse, .inl (cI, 7, .inl lFse)), (mat, .inl (cI, 5, .inl u.2.2.2.1)), (mfd, .inl (cI, 7, .inl u.2.2.2.2.1)), (mhd, .inl (cI, 7, .inl u.2.2.2.2.2.1)), (rd, .inl (cI, 5, .inl u.2.2.2.2.2.2))])) (nd, nr, ng, nat, nfd, nhd, nrd) hx hb hr hlocks rfl hQ hK hP hD hS ⟨by decide, by decide⟩ dX2_firstDouble_45 trivial
      · have tc_3 := b_nle (show (10 : Int32).toInt = 10 by decide) rfl c_3
        refine lv_aload_n hx hb dX2_firstDouble_14 rfl (lv_at hl 0 rfl) ?_
        refine va_get (D := D) (ci := 2) (v := .ref mo) (C := RX2) (T := TX2) (N := 3) hx hb hts iX2 hown hK hP 0 rfl rfl 1 (by decide) (hts (.fieldLink RX2 24 "PunchedTicket$Trial" "moment" "LPunchedTicket$Moment;") (List.mem_of_getElem? (i := 1) rfl)) (fun _ h9 => h9) rfl dX2_firstDouble_15 ?_
        refine lv_aload_n hx hb dX2_firstDouble_18 rfl (lv_at hl 0 rfl) ?_
        refine va_get (D := D) (ci := 2) (v := .ref rd) (C := RX2) (T := TX2) (N := 3) hx hb hts iX2 hown hK hP 0 rfl rfl 2 (by decide) (hts (.fieldLink RX2 9 "PunchedTicket$Trial" "rides" "[I") (List.mem_of_getElem? (i := 3) rfl)) (fun _ h9 => h9) rfl dX2_firstDouble_19 ?_
        refine cV_i (As := [.ref rd]) (rest := []) ⟨hx, hb, hml, hown, hts⟩ (c_X1_passDay l D cI cZ cM mo rd ln nd mt nr ng mat mfd mhd lpe ltk lho lli lki lfd lfr lto lse lhl lFto lFfr lFki nat nfd nhd nrd _ (show 0 ≤ mt.toInt ∧ mt.toInt ≤ 7 by omega) (show 0 ≤ lpe.toInt ∧ lpe.toInt ≤ 5 by omega) (show 0 ≤ nd.toInt ∧ nd.toInt ≤ 9 by omega)) (cwV 1 hts gX2_firstDouble_X1_passDay rfl rfl rfl (by decide +kernel) ⟨by rw [hR]; decide, by rw [hR]; decide⟩) hK hP hD hS hA [1, 2, 3, 4, 5, 7, 8, 9, 10] [0, 6] rfl rfl (by decide) (by decide) (by decide) rfl 1 rfl hl.1 rfl rfl (Nat.le_of_ble_eq_true rfl) dX2_firstDouble_22 ⟨by rw [hR]; decide, by rw [hR]; decide⟩ (fun r_11 u_12 H locs hw hP hD hS => ?_)
        obtain ⟨md1_4, mr1_5, mg1_6, Gat_7, Gfd_8, Ghd_9, Grd_10⟩ := u_12
        have hP : va_P D vwCl [(h0, .inr (2, [.ref ln, .ref mo, .ref rd])), (mo, .inr (1, [.ref ln, .int md1_4, .int mt, .int mr1_5, .int mg1_6, .ref mat, .ref mfd, .ref mhd])), (ln, .inr (0, [.int lpe, .int ltk, .ref lho, .ref lli, .ref lki, .ref lfd, .ref lfr, .ref lto, .ref lse, .ref lhl])), (lto, .inl (cI, 7, .inl lFto)), (lfr, .inl (cI, 7, .inl lFfr)), (lki, .inl (cI, 5, .inl lFki)), (lse, .inl (cI, 7, .inl lFse)), (mat, .inl (cI, 5, .inl Gat_7)), (mfd, .inl (cI, 7, .inl Gfd_8)), (mhd, .inl (cI, 7, .inl Ghd_9)), (rd, .inl (cI, 5, .inl Grd_10))] H := hP.sub [0, 2, 3, 4, 5, 6, 1, 7, 8, 9, 10] rfl
        have hD : va_D A [(h0, .inr (2, [.ref ln, .ref mo, .ref rd])), (mo, .inr (1, [.ref ln, .int md1_4, .int mt, .int mr1_5, .int mg1_6, .ref mat, .ref mfd, .ref mhd])), (ln, .inr (0, [.int lpe, .int ltk, .ref lho, .ref lli, .ref lki, .ref lfd, .ref lfr, .ref lto, .ref lse, .ref lhl])), (lto, .inl (cI, 7, .inl lFto)), (lfr, .inl (cI, 7, .inl lFfr)), (lki, .inl (cI, 5, .inl lFki)), (lse, .inl (cI, 7, .inl lFse)), (mat, .inl (cI, 5, .inl Gat_7)), (mfd, .inl (cI, 7, .inl Gfd_8)), (mhd, .inl (cI, 7, .inl Ghd_9)), (rd, .inl (cI, 5, .inl Grd_10))] := hD.sub [0, 2, 3, 4, 5, 6, 1, 7, 8, 9, 10] (by decide) rfl
        refine W.widen (k := 0) (n := 0) (Nat.le_refl _) (Nat.le_refl _) ?_
        have hw : md1_4.toInt = nd.toInt + 1 ∧ (lpe.toInt = 0 → r_11.toInt = 0) := hw
        have hw_13 := hw
        refine lv_pop hx hb dX2_firstDouble_25 rfl ?_
        refine lv_aload_n hx hb dX2_firstDouble_26 rfl (lv_at hl 0 rfl) ?_
        refine lv_bipush (v := (-9)) hx hb dX2_firstDouble_27 (by decide) ?_
        refine cV_i (As := [.int (-9)]) (rest := []) ⟨hx, hb, hml, hown, hts⟩ (c_X2_barredSeats l D cI cZ cM h0 (-9) ln mo rd md1_4 mt mr1_5 mg1_6 mat mfd mhd lpe ltk lho lli lki lfd lfr lto lse lhl lFfr lFto lFse Grd_10 _ (show 0 ≤ mt.toInt ∧ mt.toInt ≤ 7 by omega) (show 0 ≤ lpe.toInt ∧ lpe.toInt ≤ 5 by omega)) (cwV 1 hts gX2_firstDouble_X2_barredSeats rfl rfl rfl (by decide +kernel) ⟨by rw [hR]; decide, by rw [hR]; decide⟩) hK hP hD hS hA [0, 1, 2, 4, 3, 6, 10] [5, 7, 8, 9] rfl rfl (by decide) (by decide) (by decide) rfl 0 rfl hl.1 rfl rfl (Nat.le_of_ble_eq_true rfl) dX2_firstDouble_29 ⟨by rw [hR]; decide, by rw [hR]; decide⟩ (fun r_14 u_15 H locs hw hP hD hS => ?_)
        have hP : va_P D vwCl [(h0, .inr (2, [.ref ln, .ref mo, .ref rd])), (mo, .inr (1, [.ref ln, .int md1_4, .int mt, .int mr1_5, .int mg1_6, .ref mat, .ref mfd, .ref mhd])), (ln, .inr (0, [.int lpe, .int ltk, .ref lho, .ref lli, .ref lki, .ref lfd, .ref lfr, .ref lto, .ref lse, .ref lhl])), (lto, .inl (cI, 7, .inl lFto)), (lfr, .inl (cI, 7, .inl lFfr)), (lki, .inl (cI, 5, .inl lFki)), (lse, .inl (cI, 7, .inl lFse)), (mat, .inl (cI, 5, .inl Gat_7)), (mfd, .inl (cI, 7, .inl Gfd_8)), (mhd, .inl (cI, 7, .inl Ghd_9)), (rd, .inl (cI, 5, .inl Grd_10))] H := hP.sub [4, 5, 6, 8, 7, 0, 9, 1, 2, 3, 10] rfl
        have hD : va_D A [(h0, .inr (2, [.ref ln, .ref mo, .ref rd])), (mo, .inr (1, [.ref ln, .int md1_4, .int mt, .int mr1_5, .int mg1_6, .ref mat, .ref mfd, .ref mhd])), (ln, .inr (0, [.int lpe, .int ltk, .ref lho, .ref lli, .ref lki, .ref lfd, .ref lfr, .ref lto, .ref lse, .ref lhl])), (lto, .inl (cI, 7, .inl lFto)), (lfr, .inl (cI, 7, .inl lFfr)), (lki, .inl (cI, 5, .inl lFki)), (lse, .inl (cI, 7, .inl lFse)), (mat, .inl (cI, 5, .inl Gat_7)), (mfd, .inl (cI, 7, .inl Gfd_8)), (mhd, .inl (cI, 7, .inl Ghd_9)), (rd, .inl (cI, 5, .inl Grd_10))] := hD.sub [4, 5, 6, 8, 7, 0, 9, 1, 2, 3, 10] (by decide) rfl
        refine W.widen (k := 0) (n := 0) (Nat.le_refl _) (Nat.le_refl _) ?_
        refine lv_if_eq (tgt := 37) hx hb dX2_firstDouble_32 (by decide) (fun c_16 => ?_) (fun c_16 => ?_)
        · have tc_16 := b_eq rfl (show (0 : Int32).toInt = 0 by decide) c_16
          obtain ⟨v_17, ev_17⟩ : ∃ z : Int32, z = x1 + 1 := ⟨_, rfl⟩
          have tv_17 : v_17.toInt = x1.toInt + 1 := by rw [ev_17]; exact ti_add (x := x1) (y := 1) (show -2147483648 ≤ x1.toInt + 1 by omega) (show x1.toInt + 1 < 2147483648 by omega)
          refine lv_iinc (v := v_17) (lv' := [(1, .int v_17), (0, .ref h0)]) hx hb dX2_firstDouble_37 hl (k := 1) rfl (by rw [ev_17]; rfl) (by decide) rfl (fun ls hl => ?_)
          refine lv_goto (tgt := 8) hx hb dX2_firstDouble_40 (by decide) ?_
          exact ih_2 v_17 md1_4 mr1_5 mg1_6 Gat_7 Gfd_8 Ghd_9 Grd_10 _ _ _ (show (10 - v_17.toInt).toNat < fu_1 by omega) (show 0 ≤ v_17.toInt ∧ v_17.toInt ≤ 10 by omega) (show 0 ≤ md1_4.toInt ∧ md1_4.toInt ≤ 10 by omega) (show v_17.toInt = md1_4.toInt by omega) hP hD hS (lv_sub hl [1, 0] rfl)
        · have tc_16 := b_ne rfl (show (0 : Int32).toInt = 0 by decide) c_16
          refine lv_iload_n hx hb dX2_firstDouble_35 rfl (lv_at hl 1 rfl) ?_
          exact ret_i (post := (fun (r : Int32) (u : Int32 × Int32 × Int32 × (Nat → Int32) × (Nat → Int32) × (Nat → Int32) × (Nat → Int32)) => True)) (W1 := (fun u => [(h0, .inr (2, [.ref ln, .ref mo, .ref rd])), (mo, .inr (1, [.ref ln, .int u.1, .int mt, .int u.2.1, .int u.2.2.1, .ref mat, .ref mfd, .ref mhd])), (ln, .inr (0, [.int lpe, .int ltk, .ref lho, .ref lli, .ref lki, .ref lfd, .ref lfr, .ref lto, .ref lse, .ref lhl])), (lto, .inl (cI, 7, .inl lFto)), (lfr, .inl (cI, 7, .inl lFfr)), (lki, .inl (cI, 5, .inl lFki)), (lse, .inl (cI, 7, .inl lFse)), (mat, .inl (cI, 5, .inl u.2.2.2.1)), (mfd, .inl (cI, 7, .inl u.2.2.2.2.1)), (mhd, .inl (cI, 7, .inl u.2.2.2.2.2.1)), (rd, .inl (cI, 5, .inl u.2.2.2.2.2.2))])) (md1_4, mr1_5, mg1_6, Gat_7, Gfd_8, Ghd_9, Grd_10) hx hb hr hlocks rfl hQ hK hP hD hS ⟨by decide, by decide⟩ dX2_firstDouble_36 trivial
  exact LOOP_1 _ md md mr mg mFat mFfd mFhd Frd _ _ _ (Nat.lt_succ_self _) (show 0 ≤ md.toInt ∧ md.toInt ≤ 10 by omega) (show 0 ≤ md.toInt ∧ md.toInt ≤ 10 by omega) (show md.toInt = md.toInt by omega) hP hD hS (lv_sub hl [1, 0] rfl)
