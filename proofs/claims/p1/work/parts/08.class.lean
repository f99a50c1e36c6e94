set_option maxRecDepth 20000 in
theorem ggX3_day_X3_rememberAct : GoodIn wsX3_day wsX3_rememberAct := goodIn_r _ [9, 10, 11, 12, 13, 14, 15, 8, 16, 17, 18, 19, 20, 1, 21, 22, 23, 24, 25, 26, 27, 28, 29, 30, 31, 32, 33, 34, 35, 36, 37, 38, 39, 40, 41, 42, 43, 82, 83, 84, 85, 86, 87, 88, 89, 90, 91, 92, 93, 94, 95, 96, 97, 98, 99, 100, 101, 102, 103, 104, 105, 106] (by decide +kernel) (by decide +kernel)
set_option maxRecDepth 20000 in
theorem gX3_day_X3_rememberAct : GoodIn wsX3_day (wsV RX3 144 RX3 yX3_rememberAct wsX3_rememberAct) := goodIn_app (goodIn_of _ (by decide +kernel)) ggX3_day_X3_rememberAct
set_option maxRecDepth 20000 in
theorem ggX3_day_X1_passDay : GoodIn wsX3_day wsX1_passDay := goodIn_r _ [47, 35, 48, 32, 27, 49, 50, 51, 19, 52, 28, 34, 33, 53, 54, 55, 56, 57, 58, 59, 60, 61, 62, 29, 63, 64, 30, 65, 66, 67, 68, 69, 70, 71, 72, 73, 74, 75, 76, 77, 78, 79, 80, 81, 99, 100, 101, 102, 103, 104, 105, 106, 110, 111, 112, 113, 114, 115, 116, 117, 118, 119] (by decide +kernel) (by decide +kernel)
set_option maxRecDepth 20000 in
theorem gX3_day_X1_passDay : GoodIn wsX3_day (wsV RX3 150 RX1 yX1_passDay wsX1_passDay) := goodIn_app (goodIn_of _ (by decide +kernel)) ggX3_day_X1_passDay
theorem dX3_day_0 : decode cX3_day 0 = .ok (.aload_n 0, 1) := by decide +kernel
theorem dX3_day_1 : decode cX3_day 1 = .ok (.getfield 32, 3) := by decide +kernel
theorem dX3_day_4 : decode cX3_day 4 = .ok (.getfield 141, 3) := by decide +kernel
theorem dX3_day_7 : decode cX3_day 7 = .ok (.bipush 10, 2) := by decide +kernel
theorem dX3_day_9 : decode cX3_day 9 = .ok (.if_icmp .lt 6, 3) := by decide +kernel
theorem dX3_day_15 : decode cX3_day 15 = .ok (.aload_n 0, 1) := by decide +kernel
theorem dX3_day_16 : decode cX3_day 16 = .ok (.invokevirtual 144, 3) := by decide +kernel
theorem dX3_day_19 : decode cX3_day 19 = .ok (.aload_n 0, 1) := by decide +kernel
theorem dX3_day_20 : decode cX3_day 20 = .ok (.getfield 32, 3) := by decide +kernel
theorem dX3_day_23 : decode cX3_day 23 = .ok (.aload_n 0, 1) := by decide +kernel
theorem dX3_day_24 : decode cX3_day 24 = .ok (.getfield 71, 3) := by decide +kernel
theorem dX3_day_27 : decode cX3_day 27 = .ok (.getfield 147, 3) := by decide +kernel
theorem dX3_day_30 : decode cX3_day 30 = .ok (.invokevirtual 150, 3) := by decide +kernel
theorem dX3_day_33 : decode cX3_day 33 = .ok (.ireturn, 1) := by decide +kernel
set_option maxRecDepth 20000 in
theorem ggX3_twoSeats_X2_start : GoodIn wsX3_twoSeats wsX2_start := goodIn_r _ [7, 8, 9, 10, 11, 12, 13, 14, 15, 16, 17, 18, 19, 20, 21, 22, 23, 24, 120, 121, 122, 123, 124, 125, 126, 127, 128, 129, 130] (by decide +kernel) (by decide +kernel)
set_option maxRecDepth 20000 in
theorem gX3_twoSeats_X2_start : GoodIn wsX3_twoSeats (wsV RX3 171 RX2 yX2_start wsX2_start) := goodIn_app (goodIn_of _ (by decide +kernel)) ggX3_twoSeats_X2_start
set_option maxRecDepth 20000 in
theorem ggX3_twoSeats_X2_firstDouble : GoodIn wsX3_twoSeats wsX2_firstDouble := goodIn_r _ [28, 8, 29, 30, 31, 32, 33, 12, 34, 35, 36, 18, 14, 37, 38, 39, 40, 15, 24, 23, 41, 42, 43, 44, 45, 46, 47, 48, 49, 50, 16, 51, 52, 17, 53, 54, 55, 56, 57, 58, 59, 60, 61, 62, 63, 64, 65, 66, 67, 68, 69, 70, 71, 72, 6, 73, 74, 75, 76, 77, 78, 79, 80, 81, 82, 83, 84, 85, 86, 87, 88, 89, 90, 91, 92, 93, 94, 95, 96, 97, 98, 99, 100, 101, 102, 120, 121, 122, 123, 124, 125, 126, 127, 128, 129, 130, 131, 132, 133, 134, 135, 136, 137, 138, 139, 140] (by decide +kernel) (by decide +kernel)
set_option maxRecDepth 20000 in
theorem gX3_twoSeats_X2_firstDouble : GoodIn wsX3_twoSeats (wsV RX3 188 RX2 yX2_firstDouble wsX2_firstDouble) := goodIn_app (goodIn_of _ (by decide +kernel)) ggX3_twoSeats_X2_firstDouble
theorem dX3_twoSeats_0 : decode cX3_twoSeats 0 = .ok (.aload_n 0, 1) := by decide +kernel
theorem dX3_twoSeats_1 : decode cX3_twoSeats 1 = .ok (.getfield 71, 3) := by decide +kernel
theorem dX3_twoSeats_4 : decode cX3_twoSeats 4 = .ok (.aload_n 0, 1) := by decide +kernel
theorem dX3_twoSeats_5 : decode cX3_twoSeats 5 = .ok (.getfield 32, 3) := by decide +kernel
theorem dX3_twoSeats_8 : decode cX3_twoSeats 8 = .ok (.invokevirtual 171, 3) := by decide +kernel
theorem dX3_twoSeats_11 : decode cX3_twoSeats 11 = .ok (.aload_n 0, 1) := by decide +kernel
theorem dX3_twoSeats_12 : decode cX3_twoSeats 12 = .ok (.getfield 71, 3) := by decide +kernel
theorem dX3_twoSeats_15 : decode cX3_twoSeats 15 = .ok (.invokevirtual 188, 3) := by decide +kernel
theorem dX3_twoSeats_18 : decode cX3_twoSeats 18 = .ok (.ireturn, 1) := by decide +kernel
set_option maxRecDepth 20000 in
theorem ggX3_glad_X2_start : GoodIn wsX3_glad wsX2_start := goodIn_r _ [7, 8, 9, 10, 11, 12, 13, 14, 15, 16, 17, 18, 19, 20, 21, 22, 23, 24, 96, 97, 98, 99, 100, 101, 102, 103, 104, 105, 106] (by decide +kernel) (by decide +kernel)
set_option maxRecDepth 20000 in
theorem gX3_glad_X2_start : GoodIn wsX3_glad (wsV RX3 171 RX2 yX2_start wsX2_start) := goodIn_app (goodIn_of _ (by decide +kernel)) ggX3_glad_X2_start
set_option maxRecDepth 20000 in
theorem ggX3_glad_X2_gladAtEnd : GoodIn wsX3_glad wsX2_gladAtEnd := goodIn_r _ [28, 8, 29, 30, 31, 6, 32, 33, 34, 35, 36, 37, 12, 38, 39, 40, 18, 14, 41, 42, 43, 44, 15, 24, 23, 45, 46, 47, 48, 49, 50, 51, 52, 53, 54, 16, 55, 56, 17, 57, 58, 59, 60, 61, 62, 63, 64, 65, 66, 67, 68, 69, 70, 71, 72, 73, 74, 75, 76, 77, 78, 96, 97, 98, 99, 100, 101, 102, 103, 104, 105, 106, 107, 108, 109, 110, 111, 112, 113, 114, 115, 116] (by decide +kernel) (by decide +kernel)
set_option maxRecDepth 20000 in
theorem gX3_glad_X2_gladAtEnd : GoodIn wsX3_glad (wsV RX3 199 RX2 yX2_gladAtEnd wsX2_gladAtEnd) := goodIn_app (goodIn_of _ (by decide +kernel)) ggX3_glad_X2_gladAtEnd
theorem dX3_glad_0 : decode cX3_glad 0 = .ok (.aload_n 0, 1) := by decide +kernel
theorem dX3_glad_1 : decode cX3_glad 1 = .ok (.getfield 71, 3) := by decide +kernel
theorem dX3_glad_4 : decode cX3_glad 4 = .ok (.aload_n 0, 1) := by decide +kernel
theorem dX3_glad_5 : decode cX3_glad 5 = .ok (.getfield 32, 3) := by decide +kernel
theorem dX3_glad_8 : decode cX3_glad 8 = .ok (.invokevirtual 171, 3) := by decide +kernel
theorem dX3_glad_11 : decode cX3_glad 11 = .ok (.aload_n 0, 1) := by decide +kernel
theorem dX3_glad_12 : decode cX3_glad 12 = .ok (.getfield 71, 3) := by decide +kernel
theorem dX3_glad_15 : decode cX3_glad 15 = .ok (.invokevirtual 199, 3) := by decide +kernel
theorem dX3_glad_18 : decode cX3_glad 18 = .ok (.ireturn, 1) := by decide +kernel
set_option maxRecDepth 20000 in
theorem ggX3_bestChange_X3_glad : GoodIn wsX3_bestChange wsX3_glad := goodIn_r _ [7, 8, 9, 10, 11, 12, 13, 14, 15, 16, 17, 18, 19, 20, 21, 22, 23, 24, 25, 26, 27, 28, 29, 30, 31, 32, 33, 34, 35, 36, 37, 38, 39, 40, 41, 42, 43, 44, 45, 46, 47, 48, 49, 50, 51, 52, 53, 54, 55, 56, 57, 58, 59, 60, 61, 62, 63, 64, 65, 66, 67, 68, 69, 70, 71, 72, 73, 74, 75, 76, 77, 78, 79, 80, 81, 82, 83, 84, 85, 103, 104, 105, 106, 107, 108, 109, 110, 111, 112, 113, 114, 115, 116, 117, 118, 119, 130, 131, 132, 133, 134, 135, 136, 137, 138, 139, 140, 120, 121, 122, 123, 124, 125, 126, 127, 128, 129] (by decide +kernel) (by decide +kernel)
set_option maxRecDepth 20000 in
theorem gX3_bestChange_X3_glad : GoodIn wsX3_bestChange (wsV RX3 205 RX3 yX3_glad wsX3_glad) := goodIn_app (goodIn_of _ (by decide +kernel)) ggX3_bestChange_X3_glad
theorem dX3_bestChange_0 : decode cX3_bestChange 0 = .ok (.bipush (-9), 2) := by decide +kernel
theorem dX3_bestChange_2 : decode cX3_bestChange 2 = .ok (.istore_n 1, 1) := by decide +kernel
theorem dX3_bestChange_3 : decode cX3_bestChange 3 = .ok (.aload_n 0, 1) := by decide +kernel
theorem dX3_bestChange_4 : decode cX3_bestChange 4 = .ok (.invokevirtual 205, 3) := by decide +kernel
theorem dX3_bestChange_7 : decode cX3_bestChange 7 = .ok (.istore_n 2, 1) := by decide +kernel
theorem dX3_bestChange_8 : decode cX3_bestChange 8 = .ok (.iconst 0, 1) := by decide +kernel
theorem dX3_bestChange_9 : decode cX3_bestChange 9 = .ok (.istore_n 3, 1) := by decide +kernel
theorem dX3_bestChange_10 : decode cX3_bestChange 10 = .ok (.iload_n 3, 1) := by decide +kernel
theorem dX3_bestChange_11 : decode cX3_bestChange 11 = .ok (.aload_n 0, 1) := by decide +kernel
theorem dX3_bestChange_12 : decode cX3_bestChange 12 = .ok (.getfield 20, 3) := by decide +kernel
theorem dX3_bestChange_15 : decode cX3_bestChange 15 = .ok (.getfield 94, 3) := by decide +kernel
theorem dX3_bestChange_18 : decode cX3_bestChange 18 = .ok (.if_icmp .ge 58, 3) := by decide +kernel
theorem dX3_bestChange_76 : decode cX3_bestChange 76 = .ok (.iload_n 1, 1) := by decide +kernel
theorem dX3_bestChange_77 : decode cX3_bestChange 77 = .ok (.ireturn, 1) := by decide +kernel
set_option maxRecDepth 20000 in
theorem ggX3_years_X2_start : GoodIn wsX3_years wsX2_start := goodIn_r _ [13, 14, 15, 16, 17, 18, 19, 20, 21, 22, 23, 24, 25, 26, 27, 28, 29, 30, 102, 103, 104, 105, 106, 107, 108, 109, 110, 111, 112] (by decide +kernel) (by decide +kernel)
set_option maxRecDepth 20000 in
theorem gX3_years_X2_start : GoodIn wsX3_years (wsV RX3 171 RX2 yX2_start wsX2_start) := goodIn_app (goodIn_of _ (by decide +kernel)) ggX3_years_X2_start
set_option maxRecDepth 20000 in
theorem ggX3_years_X2_gladAtEnd : GoodIn wsX3_years wsX2_gladAtEnd := goodIn_r _ [34, 14, 35, 36, 37, 12, 38, 39, 40, 41, 42, 43, 18, 44, 45, 46, 24, 20, 47, 48, 49, 50, 21, 30, 29, 51, 52, 53, 54, 55, 56, 57, 58, 59, 60, 22, 61, 62, 23, 63, 64, 65, 66, 67, 68, 69, 70, 71, 72, 73, 74, 75, 76, 77, 78, 79, 80, 81, 82, 83, 84, 102, 103, 104, 105, 106, 107, 108, 109, 110, 111, 112, 113, 114, 115, 116, 117, 118, 119, 120, 121, 122] (by decide +kernel) (by decide +kernel)
set_option maxRecDepth 20000 in
theorem gX3_years_X2_gladAtEnd : GoodIn wsX3_years (wsV RX3 199 RX2 yX2_gladAtEnd wsX2_gladAtEnd) := goodIn_app (goodIn_of _ (by decide +kernel)) ggX3_years_X2_gladAtEnd
theorem dX3_years_0 : decode cX3_years 0 = .ok (.iload_n 1, 1) := by decide +kernel
theorem dX3_years_1 : decode cX3_years 1 = .ok (.iconst 1, 1) := by decide +kernel
theorem dX3_years_2 : decode cX3_years 2 = .ok (.if_icmp .lt 9, 3) := by decide +kernel
theorem dX3_years_5 : decode cX3_years 5 = .ok (.iload_n 1, 1) := by decide +kernel
theorem dX3_years_6 : decode cX3_years 6 = .ok (.bipush 30, 2) := by decide +kernel
theorem dX3_years_8 : decode cX3_years 8 = .ok (.if_icmp .le 6, 3) := by decide +kernel
theorem dX3_years_11 : decode cX3_years 11 = .ok (.bipush (-2), 2) := by decide +kernel
theorem dX3_years_13 : decode cX3_years 13 = .ok (.ireturn, 1) := by decide +kernel
theorem dX3_years_14 : decode cX3_years 14 = .ok (.iconst 0, 1) := by decide +kernel
theorem dX3_years_15 : decode cX3_years 15 = .ok (.istore_n 2, 1) := by decide +kernel
theorem dX3_years_16 : decode cX3_years 16 = .ok (.iconst 0, 1) := by decide +kernel
theorem dX3_years_17 : decode cX3_years 17 = .ok (.istore_n 3, 1) := by decide +kernel
theorem dX3_years_18 : decode cX3_years 18 = .ok (.iload_n 3, 1) := by decide +kernel
theorem dX3_years_19 : decode cX3_years 19 = .ok (.iload_n 1, 1) := by decide +kernel
theorem dX3_years_20 : decode cX3_years 20 = .ok (.if_icmp .ge 77, 3) := by decide +kernel
theorem dX3_years_23 : decode cX3_years 23 = .ok (.aload_n 0, 1) := by decide +kernel
theorem dX3_years_24 : decode cX3_years 24 = .ok (.aload_n 0, 1) := by decide +kernel
theorem dX3_years_25 : decode cX3_years 25 = .ok (.getfield 64, 3) := by decide +kernel
theorem dX3_years_28 : decode cX3_years 28 = .ok (.ldc2_w 253, 3) := by decide +kernel
theorem dX3_years_31 : decode cX3_years 31 = .ok (.lmul, 1) := by decide +kernel
theorem dX3_years_32 : decode cX3_years 32 = .ok (.ldc2_w 255, 3) := by decide +kernel
theorem dX3_years_35 : decode cX3_years 35 = .ok (.ladd, 1) := by decide +kernel
theorem dX3_years_36 : decode cX3_years 36 = .ok (.putfield 64, 3) := by decide +kernel
theorem dX3_years_39 : decode cX3_years 39 = .ok (.aload_n 0, 1) := by decide +kernel
theorem dX3_years_40 : decode cX3_years 40 = .ok (.getfield 64, 3) := by decide +kernel
theorem dX3_years_43 : decode cX3_years 43 = .ok (.bipush 33, 2) := by decide +kernel
theorem dX3_years_45 : decode cX3_years 45 = .ok (.lushr, 1) := by decide +kernel
theorem dX3_years_46 : decode cX3_years 46 = .ok (.ldc2_w 257, 3) := by decide +kernel
theorem dX3_years_49 : decode cX3_years 49 = .ok (.lrem, 1) := by decide +kernel
theorem dX3_years_50 : decode cX3_years 50 = .ok (.l2i, 1) := by decide +kernel
theorem dX3_years_51 : decode cX3_years 51 = .ok (.istore 4, 2) := by decide +kernel
theorem dX3_years_53 : decode cX3_years 53 = .ok (.aload_n 0, 1) := by decide +kernel
theorem dX3_years_54 : decode cX3_years 54 = .ok (.getfield 71, 3) := by decide +kernel
theorem dX3_years_57 : decode cX3_years 57 = .ok (.aload_n 0, 1) := by decide +kernel
theorem dX3_years_58 : decode cX3_years 58 = .ok (.getfield 32, 3) := by decide +kernel
theorem dX3_years_61 : decode cX3_years 61 = .ok (.invokevirtual 171, 3) := by decide +kernel
theorem dX3_years_64 : decode cX3_years 64 = .ok (.aload_n 0, 1) := by decide +kernel
theorem dX3_years_65 : decode cX3_years 65 = .ok (.getfield 71, 3) := by decide +kernel
theorem dX3_years_68 : decode cX3_years 68 = .ok (.getfield 178, 3) := by decide +kernel
theorem dX3_years_71 : decode cX3_years 71 = .ok (.dup, 1) := by decide +kernel
theorem dX3_years_72 : decode cX3_years 72 = .ok (.getfield 158, 3) := by decide +kernel
theorem dX3_years_75 : decode cX3_years 75 = .ok (.iload 4, 2) := by decide +kernel
theorem dX3_years_77 : decode cX3_years 77 = .ok (.ior, 1) := by decide +kernel
theorem dX3_years_78 : decode cX3_years 78 = .ok (.putfield 158, 3) := by decide +kernel
theorem dX3_years_81 : decode cX3_years 81 = .ok (.iload_n 2, 1) := by decide +kernel
theorem dX3_years_82 : decode cX3_years 82 = .ok (.aload_n 0, 1) := by decide +kernel
theorem dX3_years_83 : decode cX3_years 83 = .ok (.getfield 71, 3) := by decide +kernel
theorem dX3_years_86 : decode cX3_years 86 = .ok (.invokevirtual 199, 3) := by decide +kernel
theorem dX3_years_89 : decode cX3_years 89 = .ok (.iadd, 1) := by decide +kernel
theorem dX3_years_90 : decode cX3_years 90 = .ok (.istore_n 2, 1) := by decide +kernel
theorem dX3_years_91 : decode cX3_years 91 = .ok (.iinc 3 1, 3) := by decide +kernel
theorem dX3_years_94 : decode cX3_years 94 = .ok (.goto (-76), 3) := by decide +kernel
theorem dX3_years_97 : decode cX3_years 97 = .ok (.iload_n 2, 1) := by decide +kernel
theorem dX3_years_98 : decode cX3_years 98 = .ok (.ireturn, 1) := by decide +kernel
set_option maxRecDepth 20000 in
theorem ggX3_keep_X3_isSlot : GoodIn wsX3_keep wsX3_isSlot := goodIn_r _ [8] (by decide +kernel) (by decide +kernel)
set_option maxRecDepth 20000 in
theorem gX3_keep_X3_isSlot : GoodIn wsX3_keep (va_wsS RX3 259 yX3_isSlot wsX3_isSlot) := goodIn_app (goodIn_of _ (by decide +kernel)) ggX3_keep_X3_isSlot
set_option maxRecDepth 20000 in
theorem ggX3_keep_X3_keepIn : GoodIn wsX3_keep wsX3_keepIn := goodIn_r _ [12, 13, 14, 15, 16, 3, 17, 18, 19, 20, 21, 22, 23, 24, 25, 26, 27, 28, 29, 30, 31, 32, 33, 34, 35, 36, 37, 38, 39, 57, 58, 59, 60, 61, 62, 63, 64, 40, 41, 42, 43, 44, 45, 46, 47, 48, 49, 50, 51, 52, 53, 54, 55, 56] (by decide +kernel) (by decide +kernel)
set_option maxRecDepth 20000 in
theorem gX3_keep_X3_keepIn : GoodIn wsX3_keep (wsV RX3 262 RX3 yX3_keepIn wsX3_keepIn) := goodIn_app (goodIn_of _ (by decide +kernel)) ggX3_keep_X3_keepIn
theorem dX3_keep_0 : decode cX3_keep 0 = .ok (.iload_n 1, 1) := by decide +kernel
theorem dX3_keep_1 : decode cX3_keep 1 = .ok (.invokestatic 259, 3) := by decide +kernel
theorem dX3_keep_4 : decode cX3_keep 4 = .ok (.ifCond .ne 5, 3) := by decide +kernel
theorem dX3_keep_7 : decode cX3_keep 7 = .ok (.iconst (-1), 1) := by decide +kernel
theorem dX3_keep_8 : decode cX3_keep 8 = .ok (.ireturn, 1) := by decide +kernel
theorem dX3_keep_9 : decode cX3_keep 9 = .ok (.aload_n 0, 1) := by decide +kernel
theorem dX3_keep_10 : decode cX3_keep 10 = .ok (.aload_n 0, 1) := by decide +kernel
theorem dX3_keep_11 : decode cX3_keep 11 = .ok (.getfield 46, 3) := by decide +kernel
theorem dX3_keep_14 : decode cX3_keep 14 = .ok (.iload_n 1, 1) := by decide +kernel
theorem dX3_keep_15 : decode cX3_keep 15 = .ok (.invokevirtual 262, 3) := by decide +kernel
theorem dX3_keep_18 : decode cX3_keep 18 = .ok (.aload_n 0, 1) := by decide +kernel
theorem dX3_keep_19 : decode cX3_keep 19 = .ok (.dup, 1) := by decide +kernel
theorem dX3_keep_20 : decode cX3_keep 20 = .ok (.getfield 49, 3) := by decide +kernel
theorem dX3_keep_23 : decode cX3_keep 23 = .ok (.iconst 1, 1) := by decide +kernel
theorem dX3_keep_24 : decode cX3_keep 24 = .ok (.iload_n 1, 1) := by decide +kernel
theorem dX3_keep_25 : decode cX3_keep 25 = .ok (.ishl, 1) := by decide +kernel
theorem dX3_keep_26 : decode cX3_keep 26 = .ok (.ior, 1) := by decide +kernel
theorem dX3_keep_27 : decode cX3_keep 27 = .ok (.putfield 49, 3) := by decide +kernel
theorem dX3_keep_30 : decode cX3_keep 30 = .ok (.aload_n 0, 1) := by decide +kernel
theorem dX3_keep_31 : decode cX3_keep 31 = .ok (.getfield 32, 3) := by decide +kernel
theorem dX3_keep_34 : decode cX3_keep 34 = .ok (.getfield 141, 3) := by decide +kernel
theorem dX3_keep_37 : decode cX3_keep 37 = .ok (.ireturn, 1) := by decide +kernel
set_option maxRecDepth 20000 in
theorem ggX3_again_X3_isSlot : GoodIn wsX3_again wsX3_isSlot := goodIn_r _ [8] (by decide +kernel) (by decide +kernel)
set_option maxRecDepth 20000 in
theorem gX3_again_X3_isSlot : GoodIn wsX3_again (va_wsS RX3 259 yX3_isSlot wsX3_isSlot) := goodIn_app (goodIn_of _ (by decide +kernel)) ggX3_again_X3_isSlot
theorem dX3_again_0 : decode cX3_again 0 = .ok (.iload_n 1, 1) := by decide +kernel
theorem dX3_again_1 : decode cX3_again 1 = .ok (.invokestatic 259, 3) := by decide +kernel
theorem dX3_again_4 : decode cX3_again 4 = .ok (.ifCond .ne 5, 3) := by decide +kernel
theorem dX3_again_7 : decode cX3_again 7 = .ok (.iconst (-1), 1) := by decide +kernel
theorem dX3_again_8 : decode cX3_again 8 = .ok (.ireturn, 1) := by decide +kernel
theorem dX3_again_9 : decode cX3_again 9 = .ok (.aload_n 0, 1) := by decide +kernel
theorem dX3_again_10 : decode cX3_again 10 = .ok (.getfield 46, 3) := by decide +kernel
theorem dX3_again_13 : decode cX3_again 13 = .ok (.iload_n 1, 1) := by decide +kernel
theorem dX3_again_14 : decode cX3_again 14 = .ok (.aaload, 1) := by decide +kernel
theorem dX3_again_15 : decode cX3_again 15 = .ok (.astore_n 2, 1) := by decide +kernel
theorem dX3_again_16 : decode cX3_again 16 = .ok (.aload_n 0, 1) := by decide +kernel
theorem dX3_again_17 : decode cX3_again 17 = .ok (.getfield 49, 3) := by decide +kernel
theorem dX3_again_20 : decode cX3_again 20 = .ok (.iload_n 1, 1) := by decide +kernel
theorem dX3_again_21 : decode cX3_again 21 = .ok (.ishr, 1) := by decide +kernel
theorem dX3_again_22 : decode cX3_again 22 = .ok (.iconst 1, 1) := by decide +kernel
theorem dX3_again_23 : decode cX3_again 23 = .ok (.iand, 1) := by decide +kernel
theorem dX3_again_24 : decode cX3_again 24 = .ok (.ifCond .eq 7, 3) := by decide +kernel
theorem dX3_again_27 : decode cX3_again 27 = .ok (.aload_n 2, 1) := by decide +kernel
theorem dX3_again_28 : decode cX3_again 28 = .ok (.ifnonnull 6, 3) := by decide +kernel
theorem dX3_again_31 : decode cX3_again 31 = .ok (.bipush (-3), 2) := by decide +kernel
theorem dX3_again_33 : decode cX3_again 33 = .ok (.ireturn, 1) := by decide +kernel
set_option maxRecDepth 20000 in
theorem ggX3_count_X1_gladNow : GoodIn wsX3_count wsX1_gladNow := goodIn_r _ [14, 15, 16, 17, 18, 46, 47, 48, 49, 50, 51, 52, 53, 36, 37, 38, 39, 40, 41, 42, 43, 44, 45] (by decide +kernel) (by decide +kernel)
set_option maxRecDepth 20000 in
theorem gX3_count_X1_gladNow : GoodIn wsX3_count (wsV RX3 266 RX1 yX1_gladNow wsX1_gladNow) := goodIn_app (goodIn_of _ (by decide +kernel)) ggX3_count_X1_gladNow
theorem dX3_count_0 : decode cX3_count 0 = .ok (.iload_n 1, 1) := by decide +kernel
theorem dX3_count_1 : decode cX3_count 1 = .ok (.tableswitch 102 0 7 #[47, 52, 60, 68, 76, 84, 92, 97], 47) := by decide +kernel
theorem dX3_count_48 : decode cX3_count 48 = .ok (.aload_n 0, 1) := by decide +kernel
theorem dX3_count_49 : decode cX3_count 49 = .ok (.getfield 13, 3) := by decide +kernel
theorem dX3_count_52 : decode cX3_count 52 = .ok (.ireturn, 1) := by decide +kernel
theorem dX3_count_53 : decode cX3_count 53 = .ok (.aload_n 0, 1) := by decide +kernel
theorem dX3_count_54 : decode cX3_count 54 = .ok (.getfield 20, 3) := by decide +kernel
theorem dX3_count_57 : decode cX3_count 57 = .ok (.getfield 91, 3) := by decide +kernel
theorem dX3_count_60 : decode cX3_count 60 = .ok (.ireturn, 1) := by decide +kernel
theorem dX3_count_61 : decode cX3_count 61 = .ok (.aload_n 0, 1) := by decide +kernel
theorem dX3_count_62 : decode cX3_count 62 = .ok (.getfield 20, 3) := by decide +kernel
theorem dX3_count_65 : decode cX3_count 65 = .ok (.getfield 94, 3) := by decide +kernel
theorem dX3_count_68 : decode cX3_count 68 = .ok (.ireturn, 1) := by decide +kernel
theorem dX3_count_69 : decode cX3_count 69 = .ok (.aload_n 0, 1) := by decide +kernel
theorem dX3_count_70 : decode cX3_count 70 = .ok (.getfield 32, 3) := by decide +kernel
theorem dX3_count_73 : decode cX3_count 73 = .ok (.getfield 141, 3) := by decide +kernel
theorem dX3_count_76 : decode cX3_count 76 = .ok (.ireturn, 1) := by decide +kernel
theorem dX3_count_77 : decode cX3_count 77 = .ok (.aload_n 0, 1) := by decide +kernel
theorem dX3_count_78 : decode cX3_count 78 = .ok (.getfield 32, 3) := by decide +kernel
theorem dX3_count_81 : decode cX3_count 81 = .ok (.getfield 158, 3) := by decide +kernel
theorem dX3_count_84 : decode cX3_count 84 = .ok (.ireturn, 1) := by decide +kernel
theorem dX3_count_85 : decode cX3_count 85 = .ok (.aload_n 0, 1) := by decide +kernel
theorem dX3_count_86 : decode cX3_count 86 = .ok (.getfield 32, 3) := by decide +kernel
theorem dX3_count_89 : decode cX3_count 89 = .ok (.invokevirtual 266, 3) := by decide +kernel
theorem dX3_count_92 : decode cX3_count 92 = .ok (.ireturn, 1) := by decide +kernel
theorem dX3_count_93 : decode cX3_count 93 = .ok (.aload_n 0, 1) := by decide +kernel
theorem dX3_count_94 : decode cX3_count 94 = .ok (.getfield 43, 3) := by decide +kernel
theorem dX3_count_97 : decode cX3_count 97 = .ok (.ireturn, 1) := by decide +kernel
theorem dX3_count_98 : decode cX3_count 98 = .ok (.aload_n 0, 1) := by decide +kernel
theorem dX3_count_99 : decode cX3_count 99 = .ok (.getfield 61, 3) := by decide +kernel
theorem dX3_count_102 : decode cX3_count 102 = .ok (.ireturn, 1) := by decide +kernel
theorem dX3_count_103 : decode cX3_count 103 = .ok (.bipush (-2), 2) := by decide +kernel
theorem dX3_count_105 : decode cX3_count 105 = .ok (.ireturn, 1) := by decide +kernel
theorem dX3_isSlot_0 : decode cX3_isSlot 0 = .ok (.iload_n 0, 1) := by decide +kernel
theorem dX3_isSlot_1 : decode cX3_isSlot 1 = .ok (.ifCond .lt 12, 3) := by decide +kernel
theorem dX3_isSlot_4 : decode cX3_isSlot 4 = .ok (.iload_n 0, 1) := by decide +kernel
theorem dX3_isSlot_5 : decode cX3_isSlot 5 = .ok (.iconst 2, 1) := by decide +kernel
theorem dX3_isSlot_6 : decode cX3_isSlot 6 = .ok (.if_icmp .ge 7, 3) := by decide +kernel
theorem dX3_isSlot_9 : decode cX3_isSlot 9 = .ok (.iconst 1, 1) := by decide +kernel
theorem dX3_isSlot_10 : decode cX3_isSlot 10 = .ok (.goto 4, 3) := by decide +kernel
theorem dX3_isSlot_13 : decode cX3_isSlot 13 = .ok (.iconst 0, 1) := by decide +kernel
theorem dX3_isSlot_14 : decode cX3_isSlot 14 = .ok (.ireturn, 1) := by decide +kernel
set_option maxRecDepth 20000 in
theorem ggX3_rememberAct_X3_keepIn : GoodIn wsX3_rememberAct wsX3_keepIn := goodIn_r _ [8, 9, 10, 11, 12, 13, 14, 15, 16, 17, 18, 19, 20, 21, 22, 23, 24, 25, 26, 27, 28, 29, 30, 31, 32, 33, 34, 35, 36, 54, 55, 56, 57, 58, 59, 60, 61, 37, 38, 39, 40, 41, 42, 43, 44, 45, 46, 47, 48, 49, 50, 51, 52, 53] (by decide +kernel) (by decide +kernel)
set_option maxRecDepth 20000 in
theorem gX3_rememberAct_X3_keepIn : GoodIn wsX3_rememberAct (wsV RX3 262 RX3 yX3_keepIn wsX3_keepIn) := goodIn_app (goodIn_of _ (by decide +kernel)) ggX3_rememberAct_X3_keepIn
theorem dX3_rememberAct_0 : decode cX3_rememberAct 0 = .ok (.aload_n 0, 1) := by decide +kernel
theorem dX3_rememberAct_1 : decode cX3_rememberAct 1 = .ok (.aload_n 0, 1) := by decide +kernel
theorem dX3_rememberAct_2 : decode cX3_rememberAct 2 = .ok (.getfield 36, 3) := by decide +kernel
theorem dX3_rememberAct_5 : decode cX3_rememberAct 5 = .ok (.aload_n 0, 1) := by decide +kernel
theorem dX3_rememberAct_6 : decode cX3_rememberAct 6 = .ok (.getfield 40, 3) := by decide +kernel
theorem dX3_rememberAct_9 : decode cX3_rememberAct 9 = .ok (.aload_n 0, 1) := by decide +kernel
theorem dX3_rememberAct_10 : decode cX3_rememberAct 10 = .ok (.getfield 43, 3) := by decide +kernel
theorem dX3_rememberAct_13 : decode cX3_rememberAct 13 = .ok (.iadd, 1) := by decide +kernel
theorem dX3_rememberAct_14 : decode cX3_rememberAct 14 = .ok (.bipush 14, 2) := by decide +kernel
theorem dX3_rememberAct_16 : decode cX3_rememberAct 16 = .ok (.irem, 1) := by decide +kernel
theorem dX3_rememberAct_17 : decode cX3_rememberAct 17 = .ok (.invokevirtual 262, 3) := by decide +kernel
theorem dX3_rememberAct_20 : decode cX3_rememberAct 20 = .ok (.aload_n 0, 1) := by decide +kernel
theorem dX3_rememberAct_21 : decode cX3_rememberAct 21 = .ok (.getfield 43, 3) := by decide +kernel
theorem dX3_rememberAct_24 : decode cX3_rememberAct 24 = .ok (.bipush 14, 2) := by decide +kernel
theorem dX3_rememberAct_26 : decode cX3_rememberAct 26 = .ok (.if_icmp .ge 16, 3) := by decide +kernel
theorem dX3_rememberAct_29 : decode cX3_rememberAct 29 = .ok (.aload_n 0, 1) := by decide +kernel
theorem dX3_rememberAct_30 : decode cX3_rememberAct 30 = .ok (.dup, 1) := by decide +kernel
theorem dX3_rememberAct_31 : decode cX3_rememberAct 31 = .ok (.getfield 43, 3) := by decide +kernel
theorem dX3_rememberAct_34 : decode cX3_rememberAct 34 = .ok (.iconst 1, 1) := by decide +kernel
theorem dX3_rememberAct_35 : decode cX3_rememberAct 35 = .ok (.iadd, 1) := by decide +kernel
theorem dX3_rememberAct_36 : decode cX3_rememberAct 36 = .ok (.putfield 43, 3) := by decide +kernel
theorem dX3_rememberAct_39 : decode cX3_rememberAct 39 = .ok (.goto 16, 3) := by decide +kernel
theorem dX3_rememberAct_55 : decode cX3_rememberAct 55 = .ok (.return_, 1) := by decide +kernel
set_option maxRecDepth 20000 in
theorem ggX3_keepIn_X1_init : GoodIn wsX3_keepIn wsX1_init := goodIn_r _ [8, 9, 10, 11, 12, 13, 14, 15, 16, 17, 18, 19, 20, 29, 30, 31, 32, 33, 34, 35, 36] (by decide +kernel) (by decide +kernel)
set_option maxRecDepth 20000 in
theorem gX3_keepIn_X1_init : GoodIn wsX3_keepIn (wsX1_init) := ggX3_keepIn_X1_init
set_option maxRecDepth 20000 in
theorem ggX3_keepIn_X1_copy : GoodIn wsX3_keepIn wsX1_copy := goodIn_r _ [24, 12, 13, 14, 15, 17, 25, 26, 27, 28, 18, 19, 29, 30, 31, 32, 33, 34, 35, 36] (by decide +kernel) (by decide +kernel)
set_option maxRecDepth 20000 in
theorem gX3_keepIn_X1_copy : GoodIn wsX3_keepIn (wsV RX3 168 RX1 yX1_copy wsX1_copy) := goodIn_app (goodIn_of _ (by decide +kernel)) ggX3_keepIn_X1_copy
theorem dX3_keepIn_0 : decode cX3_keepIn 0 = .ok (.aload_n 1, 1) := by decide +kernel
theorem dX3_keepIn_1 : decode cX3_keepIn 1 = .ok (.iload_n 2, 1) := by decide +kernel
theorem dX3_keepIn_2 : decode cX3_keepIn 2 = .ok (.aaload, 1) := by decide +kernel
theorem dX3_keepIn_3 : decode cX3_keepIn 3 = .ok (.astore_n 3, 1) := by decide +kernel
theorem dX3_keepIn_4 : decode cX3_keepIn 4 = .ok (.aload_n 3, 1) := by decide +kernel
theorem dX3_keepIn_5 : decode cX3_keepIn 5 = .ok (.ifnonnull 19, 3) := by decide +kernel
theorem dX3_keepIn_8 : decode cX3_keepIn 8 = .ok (.new 27, 3) := by decide +kernel
theorem dX3_keepIn_11 : decode cX3_keepIn 11 = .ok (.dup, 1) := by decide +kernel
theorem dX3_keepIn_12 : decode cX3_keepIn 12 = .ok (.aload_n 0, 1) := by decide +kernel
theorem dX3_keepIn_13 : decode cX3_keepIn 13 = .ok (.getfield 20, 3) := by decide +kernel
theorem dX3_keepIn_16 : decode cX3_keepIn 16 = .ok (.invokespecial 29, 3) := by decide +kernel
theorem dX3_keepIn_19 : decode cX3_keepIn 19 = .ok (.astore_n 3, 1) := by decide +kernel
theorem dX3_keepIn_20 : decode cX3_keepIn 20 = .ok (.aload_n 1, 1) := by decide +kernel
theorem dX3_keepIn_21 : decode cX3_keepIn 21 = .ok (.iload_n 2, 1) := by decide +kernel
theorem dX3_keepIn_22 : decode cX3_keepIn 22 = .ok (.aload_n 3, 1) := by decide +kernel
theorem dX3_keepIn_23 : decode cX3_keepIn 23 = .ok (.aastore, 1) := by decide +kernel
theorem dX3_keepIn_24 : decode cX3_keepIn 24 = .ok (.aload_n 3, 1) := by decide +kernel
theorem dX3_keepIn_25 : decode cX3_keepIn 25 = .ok (.aload_n 0, 1) := by decide +kernel
theorem dX3_keepIn_26 : decode cX3_keepIn 26 = .ok (.getfield 32, 3) := by decide +kernel
theorem dX3_keepIn_29 : decode cX3_keepIn 29 = .ok (.invokevirtual 168, 3) := by decide +kernel
theorem dX3_keepIn_32 : decode cX3_keepIn 32 = .ok (.return_, 1) := by decide +kernel
set_option maxHeartbeats 600000 in
set_option maxRecDepth 100000 in
theorem c_X3_keepIn14 (l : Launch) (D : va_G) (cI cZ cM : ClassId) (h0 : Nat) (ms : Nat) (n : Int32) (tx : Nat) (le : Int32) (td : Nat) (dr : Nat) (nw : Nat) (ac : Nat) (fa : Int32) (an : Int32) (kp : Nat) (ks : Int32) (sp : Nat) (ss : Nat) (sy : Nat) (sc : Int32) (sd : Int64) (tr : Nat) (ia : Nat) (ln : Nat) (md : Int32) (mt : Int32) (mr : Int32) (mg : Int32) (mat : Nat) (mfd : Nat) (mhd : Nat) (mFat : Nat → Int32) (mFfd : Nat → Int32) (mFhd : Nat → Int32) (sz : Nat) (h_n : 0 ≤ n.toInt ∧ n.toInt ≤ 13) : Cv l yX3_keepIn wsX3_keepIn ({ frames := 2, cells := 4, slots := 27, locals := 47 } : Room) D cI cZ cM [.ref h0, .ref ms, .int n] [(h0, .inr (3, [.ref tx, .int le, .ref td, .ref dr, .ref nw, .ref ac, .int fa, .int an, .ref kp, .int ks, .ref sp, .ref ss, .ref sy, .int sc, .long sd, .ref tr, .ref ia])), (ms, .inl (cM, 14, .inr (.inr (.inr (.inr (fun _ => none)))))), (nw, .inr (1, [.ref ln, .int md, .int mt, .int mr, .int mg, .ref mat, .ref mfd, .ref mhd])), (mat, .inl (cI, 5, .inl mFat)), (mfd, .inl (cI, 7, .inl mFfd)), (mhd, .inl (cI, 7, .inl mFhd))] sz (fun (u : (Nat → Option Nat)) => True) (fun u => [(h0, .inr (3, [.ref tx, .int le, .ref td, .ref dr, .ref nw, .ref ac, .int fa, .int an, .ref kp, .int ks, .ref sp, .ref ss, .ref sy, .int sc, .long sd, .ref tr, .ref ia])), (ms, .inl (cM, 14, .inr (.inr (.inr (.inr u))))), (nw, .inr (1, [.ref ln, .int md, .int mt, .int mr, .int mg, .ref mat, .ref mfd, .ref mhd])), (mat, .inl (cI, 5, .inl mFat)), (mfd, .inl (cI, 7, .inl mFfd)), (mhd, .inl (cI, 7, .inl mFhd))]) 4 27 := by
  refine begins (l := l) (y := yX3_keepIn) (ws := wsX3_keepIn) (av := [.ref h0, .ref ms, .int n]) (Qc := fun A => va_Qv (fun (u : (Nat → Option Nat)) => True) (fun u => Wd D cI cZ cM A ((fun u => [(h0, .inr (3, [.ref tx, .int le, .ref td, .ref dr, .ref nw, .ref ac, .int fa, .int an, .ref kp, .int ks, .ref sp, .ref ss, .ref sy, .int sc, .long sd, .ref tr, .ref ia])), (ms, .inl (cM, 14, .inr (.inr (.inr (.inr u))))), (nw, .inr (1, [.ref ln, .int md, .int mt, .int mr, .int mg, .ref mat, .ref mfd, .ref mhd])), (mat, .inl (cI, 5, .inl mFat)), (mfd, .inl (cI, 7, .inl mFfd)), (mhd, .inl (cI, 7, .inl mFhd))]) u)) A) cX3_keepIn 4 none (by decide) rfl (Nat.le_of_ble_eq_true rfl) ?_
  intro p e s m args below meth c R Q A ls hBd hR hQ hA hS hK hP hD hl
  obtain ⟨hx, hb, hr, hts, hown, hlocks, hin, hml⟩ := hBd
  have hl : lv_has ls 4 [(0, .ref h0), (1, .ref ms), (2, .int n)] := hl
  have iX1 : ∀ w ∈ wsX10, w ∈ wsX3_keepIn := fun _ h => List.mem_cons_of_mem _ (List.mem_append_left _ (List.mem_append_right _ h))
  have iX3 : ∀ w ∈ wsX30, w ∈ wsX3_keepIn := fun _ h => List.mem_cons_of_mem _ (List.mem_append_right _ h)
  obtain ⟨h_na, h_nb⟩ := h_n
  refine lv_aload_n hx hb dX3_keepIn_0 rfl (lv_at hl 1 rfl) ?_
  refine lv_iload_n hx hb dX3_keepIn_1 rfl (lv_at hl 2 rfl) ?_
  refine va_aldq hx hb hK hP 1 2 rfl rfl (vp_in_iff.mpr ⟨by omega, by omega⟩) dX3_keepIn_2 ?_
  refine W.eq (g2 := F0 m 3 ls [.null]) rfl ?_
  refine lv_astore_nN (lv' := [(3, .null), (0, .ref h0), (1, .ref ms), (2, .int n)]) hx hb dX3_keepIn_3 rfl hl (by decide) rfl (fun ls hl => ?_)
  refine lv_aload_nN hx hb dX3_keepIn_4 rfl (lv_at hl 0 rfl) ?_
  refine lv_ifnonnullN hx hb dX3_keepIn_5 ?_
  refine va_new (ci := 1) (fs := [.null, .int 0, .int 0, .int 0, .int 0, .null, .null, .null]) (C := RX1) (T := TX1) (N := 8) hx hb hts iX1 tyX1 tyX1_ok hown (hts (.classLink RX3 27 RX1) (List.mem_of_getElem? (i := 1) rfl)) (hts (.instantiable RX1 8) (List.mem_of_getElem? (i := 2) rfl)) (hts (.initialized RX1) (List.mem_of_getElem? (i := 3) rfl)) hK hP hD hS hA rfl (fun j hj => by rcases (show j = 0 ∨ j = 1 ∨ j = 2 ∨ j = 3 ∨ j = 4 ∨ j = 5 ∨ j = 6 ∨ j = 7 by omega) with rfl | rfl | rfl | rfl | rfl | rfl | rfl | rfl <;> rfl) (by rw [hR]; exact Nat.le_of_ble_eq_true rfl) (by rw [hR]; exact Nat.le_of_ble_eq_true rfl) dX3_keepIn_8 (fun q_1 H hP hD hS => ?_)
  have hP : va_P D vwCl [(h0, .inr (3, [.ref tx, .int le, .ref td, .ref dr, .ref nw, .ref ac, .int fa, .int an, .ref kp, .int ks, .ref sp, .ref ss, .ref sy, .int sc, .long sd, .ref tr, .ref ia])), (ms, .inl (cM, 14, .inr (.inr (.inr (.inr (fun _ => none)))))), (nw, .inr (1, [.ref ln, .int md, .int mt, .int mr, .int mg, .ref mat, .ref mfd, .ref mhd])), (mat, .inl (cI, 5, .inl mFat)), (mfd, .inl (cI, 7, .inl mFfd)), (mhd, .inl (cI, 7, .inl mFhd)), (q_1, .inr (1, [.null, .int 0, .int 0, .int 0, .int 0, .null, .null, .null]))] H := hP
  have hD : va_D A [(h0, .inr (3, [.ref tx, .int le, .ref td, .ref dr, .ref nw, .ref ac, .int fa, .int an, .ref kp, .int ks, .ref sp, .ref ss, .ref sy, .int sc, .long sd, .ref tr, .ref ia])), (ms, .inl (cM, 14, .inr (.inr (.inr (.inr (fun _ => none)))))), (nw, .inr (1, [.ref ln, .int md, .int mt, .int mr, .int mg, .ref mat, .ref mfd, .ref mhd])), (mat, .inl (cI, 5, .inl mFat)), (mfd, .inl (cI, 7, .inl mFfd)), (mhd, .inl (cI, 7, .inl mFhd)), (q_1, .inr (1, [.null, .int 0, .int 0, .int 0, .int 0, .null, .null, .null]))] := hD
  refine W.widen (k := 1) (n := 8) (by omega) (by omega) ?_
  refine lv_dup hx hb dX3_keepIn_11 rfl ?_
  refine lv_aload_n hx hb dX3_keepIn_12 rfl (lv_at hl 1 rfl) ?_
  refine va_get (D := D) (ci := 3) (v := .ref td) (C := RX3) (T := TX3) (N := 17) hx hb hts iX3 hown hK hP 0 rfl rfl 2 (by decide) (hts (.fieldLink RX3 20 "PunchedTicket" "told" "LPunchedTicket$Line;") (List.mem_of_getElem? (i := 4) rfl)) (fun _ h9 => h9) rfl dX3_keepIn_13 ?_
  refine cI_v (As := [.ref td]) (rest := [.ref q_1]) ⟨hx, hb, hml, hown, hts⟩ (c_X1_init l D cI cZ cM q_1 td _ ) (cwI 1 hts gX3_keepIn_X1_init rfl rfl rfl (hts (.initialized RX1) (List.mem_of_getElem? (i := 3) rfl)) (hts (.methodLink RX3 29 yX1_init) (List.mem_of_getElem? (i := 6) rfl)) (hts (.instanceMethod yX1_init) (List.mem_of_getElem? (i := 7) rfl)) rfl (by decide +kernel) ⟨by rw [hR]; decide, by rw [hR]; decide⟩) hK hP hD hS hA [6] [0, 1, 2, 3, 4, 5] rfl rfl (by decide) (by decide) (by decide) hl.1 rfl rfl (Nat.le_of_ble_eq_true rfl) dX3_keepIn_16 ⟨by rw [hR]; decide, by rw [hR]; decide⟩ (fun u_6 H locs hw hP hD hS => ?_)
  obtain ⟨nat_2, nfd_3, nhd_4⟩ := u_6
  have hP : va_P D vwCl [(h0, .inr (3, [.ref tx, .int le, .ref td, .ref dr, .ref nw, .ref ac, .int fa, .int an, .ref kp, .int ks, .ref sp, .ref ss, .ref sy, .int sc, .long sd, .ref tr, .ref ia])), (ms, .inl (cM, 14, .inr (.inr (.inr (.inr (fun _ => none)))))), (nw, .inr (1, [.ref ln, .int md, .int mt, .int mr, .int mg, .ref mat, .ref mfd, .ref mhd])), (mat, .inl (cI, 5, .inl mFat)), (mfd, .inl (cI, 7, .inl mFfd)), (mhd, .inl (cI, 7, .inl mFhd)), (q_1, .inr (1, [.ref td, .int 0, .int 0, .int 0, .int 0, .ref nat_2, .ref nfd_3, .ref nhd_4])), (nat_2, .inl (cI, 5, .inl (fun _ => 0))), (nfd_3, .inl (cI, 7, .inl (fun _ => 0))), (nhd_4, .inl (cI, 7, .inl (fun _ => 0)))] H := hP.sub [0, 1, 2, 3, 4, 5, 6, 7, 8, 9] rfl
  have hD : va_D A [(h0, .inr (3, [.ref tx, .int le, .ref td, .ref dr, .ref nw, .ref ac, .int fa, .int an, .ref kp, .int ks, .ref sp, .ref ss, .ref sy, .int sc, .long sd, .ref tr, .ref ia])), (ms, .inl (cM, 14, .inr (.inr (.inr (.inr (fun _ => none)))))), (nw, .inr (1, [.ref ln, .int md, .int mt, .int mr, .int mg, .ref mat, .ref mfd, .ref mhd])), (mat, .inl (cI, 5, .inl mFat)), (mfd, .inl (cI, 7, .inl mFfd)), (mhd, .inl (cI, 7, .inl mFhd)), (q_1, .inr (1, [.ref td, .int 0, .int 0, .int 0, .int 0, .ref nat_2, .ref nfd_3, .ref nhd_4])), (nat_2, .inl (cI, 5, .inl (fun _ => 0))), (nfd_3, .inl (cI, 7, .inl (fun _ => 0))), (nhd_4, .inl (cI, 7, .inl (fun _ => 0)))] := hD.sub [0, 1, 2, 3, 4, 5, 6, 7, 8, 9] (by decide) rfl
  refine W.widen (k := 4) (n := 27) (by omega) (by omega) ?_
  refine lv_astore_n (lv' := [(3, .ref q_1), (0, .ref h0), (1, .ref ms), (2, .int n)]) hx hb dX3_keepIn_19 rfl hl (by decide) rfl (fun ls hl => ?_)
  refine lv_aload_n hx hb dX3_keepIn_20 rfl (lv_at hl 2 rfl) ?_
  refine lv_iload_n hx hb dX3_keepIn_21 rfl (lv_at hl 3 rfl) ?_
  refine lv_aload_n hx hb dX3_keepIn_22 rfl (lv_at hl 0 rfl) ?_
  refine va_astq hx hb hK hP hD hS 1 2 6 1 rfl rfl rfl rfl (vp_in_iff.mpr ⟨by omega, by omega⟩) dX3_keepIn_23 (fun H locs hP hD hS => ?_)
  obtain ⟨f_7, ef_7⟩ : ∃ g : Nat → Option Nat, va_up (fun _ => none) (n : Int32).toNatClampNeg (some q_1) = g := ⟨_, rfl⟩
  rw [ef_7] at hP hD
  have hP : va_P D vwCl [(h0, .inr (3, [.ref tx, .int le, .ref td, .ref dr, .ref nw, .ref ac, .int fa, .int an, .ref kp, .int ks, .ref sp, .ref ss, .ref sy, .int sc, .long sd, .ref tr, .ref ia])), (ms, .inl (cM, 14, .inr (.inr (.inr (.inr f_7))))), (nw, .inr (1, [.ref ln, .int md, .int mt, .int mr, .int mg, .ref mat, .ref mfd, .ref mhd])), (mat, .inl (cI, 5, .inl mFat)), (mfd, .inl (cI, 7, .inl mFfd)), (mhd, .inl (cI, 7, .inl mFhd)), (q_1, .inr (1, [.ref td, .int 0, .int 0, .int 0, .int 0, .ref nat_2, .ref nfd_3, .ref nhd_4])), (nat_2, .inl (cI, 5, .inl (fun _ => 0))), (nfd_3, .inl (cI, 7, .inl (fun _ => 0))), (nhd_4, .inl (cI, 7, .inl (fun _ => 0)))] H := hP
  have hD : va_D A [(h0, .inr (3, [.ref tx, .int le, .ref td, .ref dr, .ref nw, .ref ac, .int fa, .int an, .ref kp, .int ks, .ref sp, .ref ss, .ref sy, .int sc, .long sd, .ref tr, .ref ia])), (ms, .inl (cM, 14, .inr (.inr (.inr (.inr f_7))))), (nw, .inr (1, [.ref ln, .int md, .int mt, .int mr, .int mg, .ref mat, .ref mfd, .ref mhd])), (mat, .inl (cI, 5, .inl mFat)), (mfd, .inl (cI, 7, .inl mFfd)), (mhd, .inl (cI, 7, .inl mFhd)), (q_1, .inr (1, [.ref td, .int 0, .int 0, .int 0, .int 0, .ref nat_2, .ref nfd_3, .ref nhd_4])), (nat_2, .inl (cI, 5, .inl (fun _ => 0))), (nfd_3, .inl (cI, 7, .inl (fun _ => 0))), (nhd_4, .inl (cI, 7, .inl (fun _ => 0)))] := hD
  refine lv_aload_n hx hb dX3_keepIn_24 rfl (lv_at hl 0 rfl) ?_
  refine lv_aload_n hx hb dX3_keepIn_25 rfl (lv_at hl 1 rfl) ?_
  refine va_get (D := D) (ci := 3) (v := .ref nw) (C := RX3) (T := TX3) (N := 17) hx hb hts iX3 hown hK hP 0 rfl rfl 4 (by decide) (hts (.fieldLink RX3 32 "PunchedTicket" "now" "LPunchedTicket$Moment;") (List.mem_of_getElem? (i := 5) rfl)) (fun _ h9 => h9) rfl dX3_keepIn_26 ?_
  refine cV_v (As := [.ref nw]) (rest := []) ⟨hx, hb, hml, hown, hts⟩ (c_X1_copy l D cI cZ cM q_1 nw td 0 0 0 0 nat_2 nfd_3 nhd_4 ln md mt mr mg mat mfd mhd (fun _ => 0) (fun _ => 0) (fun _ => 0) mFat mFfd mFhd _ ) (cwV 1 hts gX3_keepIn_X1_copy rfl rfl rfl (by decide +kernel) ⟨by rw [hR]; decide, by rw [hR]; decide⟩) hK hP hD hS hA [6, 2, 7, 8, 9, 3, 4, 5] [0, 1] rfl rfl (by decide) (by decide) (by decide) rfl 6 rfl hl.1 rfl rfl (Nat.le_of_ble_eq_true rfl) dX3_keepIn_29 ⟨by rw [hR]; decide, by rw [hR]; decide⟩ (fun u_12 H locs hw hP hD hS => ?_)
  obtain ⟨Gat_8, Gfd_9, Ghd_10⟩ := u_12
  have hP : va_P D vwCl [(h0, .inr (3, [.ref tx, .int le, .ref td, .ref dr, .ref nw, .ref ac, .int fa, .int an, .ref kp, .int ks, .ref sp, .ref ss, .ref sy, .int sc, .long sd, .ref tr, .ref ia])), (ms, .inl (cM, 14, .inr (.inr (.inr (.inr f_7))))), (nw, .inr (1, [.ref ln, .int md, .int mt, .int mr, .int mg, .ref mat, .ref mfd, .ref mhd])), (mat, .inl (cI, 5, .inl mFat)), (mfd, .inl (cI, 7, .inl mFfd)), (mhd, .inl (cI, 7, .inl mFhd)), (q_1, .inr (1, [.ref td, .int md, .int mt, .int mr, .int mg, .ref nat_2, .ref nfd_3, .ref nhd_4])), (nat_2, .inl (cI, 5, .inl Gat_8)), (nfd_3, .inl (cI, 7, .inl Gfd_9)), (nhd_4, .inl (cI, 7, .inl Ghd_10))] H := hP.sub [0, 1, 3, 7, 8, 9, 2, 4, 5, 6] rfl
  have hD : va_D A [(h0, .inr (3, [.ref tx, .int le, .ref td, .ref dr, .ref nw, .ref ac, .int fa, .int an, .ref kp, .int ks, .ref sp, .ref ss, .ref sy, .int sc, .long sd, .ref tr, .ref ia])), (ms, .inl (cM, 14, .inr (.inr (.inr (.inr f_7))))), (nw, .inr (1, [.ref ln, .int md, .int mt, .int mr, .int mg, .ref mat, .ref mfd, .ref mhd])), (mat, .inl (cI, 5, .inl mFat)), (mfd, .inl (cI, 7, .inl mFfd)), (mhd, .inl (cI, 7, .inl mFhd)), (q_1, .inr (1, [.ref td, .int md, .int mt, .int mr, .int mg, .ref nat_2, .ref nfd_3, .ref nhd_4])), (nat_2, .inl (cI, 5, .inl Gat_8)), (nfd_3, .inl (cI, 7, .inl Gfd_9)), (nhd_4, .inl (cI, 7, .inl Ghd_10))] := hD.sub [0, 1, 3, 7, 8, 9, 2, 4, 5, 6] (by decide) rfl
  refine W.widen (k := 4) (n := 27) (Nat.le_refl _) (Nat.le_refl _) ?_
  exact ret_v (post := (fun (u : (Nat → Option Nat)) => True)) (W1 := (fun u => [(h0, .inr (3, [.ref tx, .int le, .ref td, .ref dr, .ref nw, .ref ac, .int fa, .int an, .ref kp, .int ks, .ref sp, .ref ss, .ref sy, .int sc, .long sd, .ref tr, .ref ia])), (ms, .inl (cM, 14, .inr (.inr (.inr (.inr u))))), (nw, .inr (1, [.ref ln, .int md, .int mt, .int mr, .int mg, .ref mat, .ref mfd, .ref mhd])), (mat, .inl (cI, 5, .inl mFat)), (mfd, .inl (cI, 7, .inl mFfd)), (mhd, .inl (cI, 7, .inl mFhd))])) f_7 hx hb hr hlocks hQ hK (hP.sub [0, 1, 2, 3, 4, 5] rfl) (hD.sub [0, 1, 2, 3, 4, 5] (by decide) rfl) hS ⟨by decide, by decide⟩ dX3_keepIn_32 trivial

set_option maxHeartbeats 600000 in
set_option maxRecDepth 100000 in
theorem c_X3_keepIn2 (l : Launch) (D : va_G) (cI cZ cM : ClassId) (h0 : Nat) (ms : Nat) (n : Int32) (tx : Nat) (le : Int32) (td : Nat) (dr : Nat) (nw : Nat) (ac : Nat) (fa : Int32) (an : Int32) (kp : Nat) (ks : Int32) (sp : Nat) (ss : Nat) (sy : Nat) (sc : Int32) (sd : Int64) (tr : Nat) (ia : Nat) (ln : Nat) (md : Int32) (mt : Int32) (mr : Int32) (mg : Int32) (mat : Nat) (mfd : Nat) (mhd : Nat) (mFat : Nat → Int32) (mFfd : Nat → Int32) (mFhd : Nat → Int32) (sz : Nat) (h_n : 0 ≤ n.toInt ∧ n.toInt ≤ 1) : Cv l yX3_keepIn wsX3_keepIn ({ frames := 2, cells := 4, slots := 27, locals := 47 } : Room) D cI cZ cM [.ref h0, .ref ms, .int n] [(h0, .inr (3, [.ref tx, .int le, .ref td, .ref dr, .ref nw, .ref ac, .int fa, .int an, .ref kp, .int ks, .ref sp, .ref ss, .ref sy, .int sc, .long sd, .ref tr, .ref ia])), (ms, .inl (cM, 2, .inr (.inr (.inr (.inr (fun _ => none)))))), (nw, .inr (1, [.ref ln, .int md, .int mt, .int mr, .int mg, .ref mat, .ref mfd, .ref mhd])), (mat, .inl (cI, 5, .inl mFat)), (mfd, .inl (cI, 7, .inl mFfd)), (mhd, .inl (cI, 7, .inl mFhd))] sz (fun (u : (Nat → Option Nat)) => True) (fun u => [(h0, .inr (3, [.ref tx, .int le, .ref td, .ref dr, .ref nw, .ref ac, .int fa, .int an, .ref kp, .int ks, .ref sp, .ref ss, .ref sy, .int sc, .long sd, .ref tr, .ref ia])), (ms, .inl (cM, 2, .inr (.inr (.inr (.inr u))))), (nw, .inr (1, [.ref ln, .int md, .int mt, .int mr, .int mg, .ref mat, .ref mfd, .ref mhd])), (mat, .inl (cI, 5, .inl mFat)), (mfd, .inl (cI, 7, .inl mFfd)), (mhd, .inl (cI, 7, .inl mFhd))]) 4 27 := by
  refine begins (l := l) (y := yX3_keepIn) (ws := wsX3_keepIn) (av := [.ref h0, .ref ms, .int n]) (Qc := fun A => va_Qv (fun (u : (Nat → Option Nat)) => True) (fun u => Wd D cI cZ cM A ((fun u => [(h0, .inr (3, [.ref tx, .int le, .ref td, .ref dr, .ref nw, .ref ac, .int fa, .int an, .ref kp, .int ks, .ref sp, .ref ss, .ref sy, .int sc, .long sd, .ref tr, .ref ia])), (ms, .inl (cM, 2, .inr (.inr (.inr (.inr u))))), (nw, .inr (1, [.ref ln, .int md, .int mt, .int mr, .int mg, .ref mat, .ref mfd, .ref mhd])), (mat, .inl (cI, 5, .inl mFat)), (mfd, .inl (cI, 7, .inl mFfd)), (mhd, .inl (cI, 7, .inl mFhd))]) u)) A) cX3_keepIn 4 none (by decide) rfl (Nat.le_of_ble_eq_true rfl) ?_
  intro p e s m args below meth c R Q A ls hBd hR hQ hA hS hK hP hD hl
  obtain ⟨hx, hb, hr, hts, hown, hlocks, hin, hml⟩ := hBd
  have hl : lv_has ls 4 [(0, .ref h0), (1, .ref ms), (2, .int n)] := hl
  have iX1 : ∀ w ∈ wsX10, w ∈ wsX3_keepIn := fun _ h => List.mem_cons_of_mem _ (List.mem_append_left _ (List.mem_append_right _ h))
  have iX3 : ∀ w ∈ wsX30, w ∈ wsX3_keepIn := fun _ h => List.mem_cons_of_mem _ (List.mem_append_right _ h)
  obtain ⟨h_na, h_nb⟩ := h_n
  refine lv_aload_n hx hb dX3_keepIn_0 rfl (lv_at hl 1 rfl) ?_
  refine lv_iload_n hx hb dX3_keepIn_1 rfl (lv_at hl 2 rfl) ?_
  refine va_aldq hx hb hK hP 1 2 rfl rfl (vp_in_iff.mpr ⟨by omega, by omega⟩) dX3_keepIn_2 ?_
  refine W.eq (g2 := F0 m 3 ls [.null]) rfl ?_
  refine lv_astore_nN (lv' := [(3, .null), (0, .ref h0), (1, .ref ms), (2, .int n)]) hx hb dX3_keepIn_3 rfl hl (by decide) rfl (fun ls hl => ?_)
  refine lv_aload_nN hx hb dX3_keepIn_4 rfl (lv_at hl 0 rfl) ?_
  refine lv_ifnonnullN hx hb dX3_keepIn_5 ?_
  refine va_new (ci := 1) (fs := [.null, .int 0, .int 0, .int 0, .int 0, .null, .null, .null]) (C := RX1) (T := TX1) (N := 8) hx hb hts iX1 tyX1 tyX1_ok hown (hts (.classLink RX3 27 RX1) (List.mem_of_getElem? (i := 1) rfl)) (hts (.instantiable RX1 8) (List.mem_of_getElem? (i := 2) rfl)) (hts (.initialized RX1) (List.mem_of_getElem? (i := 3) rfl)) hK hP hD hS hA rfl (fun j hj => by rcases (show j = 0 ∨ j = 1 ∨ j = 2 ∨ j = 3 ∨ j = 4 ∨ j = 5 ∨ j = 6 ∨ j = 7 by omega) with rfl | rfl | rfl | rfl | rfl | rfl | rfl | rfl <;> rfl) (by rw [hR]; exact Nat.le_of_ble_eq_true rfl) (by rw [hR]; exact Nat.le_of_ble_eq_true rfl) dX3_keepIn_8 (fun q_1 H hP hD hS => ?_)
  have hP : va_P D vwCl [(h0, .inr (3, [.ref tx, .int le, .ref td, .ref dr, .ref nw, .ref ac, .int fa, .int an, .ref kp, .int ks, .ref sp, .ref ss, .ref sy, .int sc, .long sd, .ref tr, .ref ia])), (ms, .inl (cM, 2, .inr (.inr (.inr (.inr (fun _ => none)))))), (nw, .inr (1, [.ref ln, .int md, .int mt, .int mr, .int mg, .ref mat, .ref mfd, .ref mhd])), (mat, .inl (cI, 5, .inl mFat)), (mfd, .inl (cI, 7, .inl mFfd)), (mhd, .inl (cI, 7, .inl mFhd)), (q_1, .inr (1, [.null, .int 0, .int 0, .int 0, .int 0, .null, .null, .null]))] H := hP
  have hD : va_D A [(h0, .inr (3, [.ref tx, .int le, .ref td, .ref dr, .ref nw, .ref ac, .int fa, .int an, .ref kp, .int ks, .ref sp, .ref ss, .ref sy, .int sc, .long sd, .ref tr, .ref ia])), (ms, .inl (cM, 2, .inr (.inr (.inr (.inr (fun _ => none)))))), (nw, .inr (1, [.ref ln, .int md, .int mt, .int mr, .int mg, .ref mat, .ref mfd, .ref mhd])), (mat, .inl (cI, 5, .inl mFat)), (mfd, .inl (cI, 7, .inl mFfd)), (mhd, .inl (cI, 7, .inl mFhd)), (q_1, .inr (1, [.null, .int 0, .int 0, .int 0, .int 0, .null, .null, .null]))] := hD
  refine W.widen (k := 1) (n := 8) (by omega) (by omega) ?_
  refine lv_dup hx hb dX3_keepIn_11 rfl ?_
  refine lv_aload_n hx hb dX3_keepIn_12 rfl (lv_at hl 1 rfl) ?_
  refine va_get (D := D) (ci := 3) (v := .ref td) (C := RX3) (T := TX3) (N := 17) hx hb hts iX3 hown hK hP 0 rfl rfl 2 (by decide) (hts (.fieldLink RX3 20 "PunchedTicket" "told" "LPunchedTicket$Line;") (List.mem_of_getElem? (i := 4) rfl)) (fun _ h9 => h9) rfl dX3_keepIn_13 ?_
  refine cI_v (As := [.ref td]) (rest := [.ref q_1]) ⟨hx, hb, hml, hown, hts⟩ (c_X1_init l D cI cZ cM q_1 td _ ) (cwI 1 hts gX3_keepIn_X1_init rfl rfl rfl (hts (.initialized RX1) (List.mem_of_getElem? (i := 3) rfl)) (hts (.methodLink RX3 29 yX1_init) (List.mem_of_getElem? (i := 6) rfl)) (hts (.instanceMethod yX1_init) (List.mem_of_getElem? (i := 7) rfl)) rfl (by decide +kernel) ⟨by rw [hR]; decide, by rw [hR]; decide⟩) hK hP hD hS hA [6] [0, 1, 2, 3, 4, 5] rfl rfl (by decide) (by decide) (by decide) hl.1 rfl rfl (Nat.le_of_ble_eq_true rfl) dX3_keepIn_16 ⟨by rw [hR]; decide, by rw [hR]; decide⟩ (fun u_6 H locs hw hP hD hS => ?_)
  obtain ⟨nat_2, nfd_3, nhd_4⟩ := u_6
  have hP : va_P D vwCl [(h0, .inr (3, [.ref tx, .int le, .ref td, .ref dr, .ref nw, .ref ac, .int fa, .int an, .ref kp, .int ks, .ref sp, .ref ss, .ref sy, .int sc, .long sd, .ref tr, .ref ia])), (ms, .inl (cM, 2, .inr (.inr (.inr (.inr (fun _ => none)))))), (nw, .inr (1, [.ref ln, .int md, .int mt, .int mr, .int mg, .ref mat, .ref mfd, .ref mhd])), (mat, .inl (cI, 5, .inl mFat)), (mfd, .inl (cI, 7, .inl mFfd)), (mhd, .inl (cI, 7, .inl mFhd)), (q_1, .inr (1, [.ref td, .int 0, .int 0, .int 0, .int 0, .ref nat_2, .ref nfd_3, .ref nhd_4])), (nat_2, .inl (cI, 5, .inl (fun _ => 0))), (nfd_3, .inl (cI, 7, .inl (fun _ => 0))), (nhd_4, .inl (cI, 7, .inl (fun _ => 0)))] H := hP.sub [0, 1, 2, 3, 4, 5, 6, 7, 8, 9] rfl
  have hD : va_D A [(h0, .inr (3, [.ref tx, .int le, .ref td, .ref dr, .ref nw, .ref ac, .int fa, .int an, .ref kp, .int ks, .ref sp, .ref ss, .ref sy, .int sc, .long sd, .ref tr, .ref ia])), (ms, .inl (cM, 2, .inr (.inr (.inr (.inr (fun _ => none)))))), (nw, .inr (1, [.ref ln, .int md, .int mt, .int mr, .int mg, .ref mat, .ref mfd, .ref mhd])), (mat, .inl (cI, 5, .inl mFat)), (mfd, .inl (cI, 7, .inl mFfd)), (mhd, .inl (cI, 7, .inl mFhd)), (q_1, .inr (1, [.ref td, .int 0, .int 0, .int 0, .int 0, .ref nat_2, .ref nfd_3, .ref nhd_4])), (nat_2, .inl (cI, 5, .inl (fun _ => 0))), (nfd_3, .inl (cI, 7, .inl (fun _ => 0))), (nhd_4, .inl (cI, 7, .inl (fun _ => 0)))] := hD.sub [0, 1, 2, 3, 4, 5, 6, 7, 8, 9] (by decide) rfl
  refine W.widen (k := 4) (n := 27) (by omega) (by omega) ?_
  refine lv_astore_n (lv' := [(3, .ref q_1), (0, .ref h0), (1, .ref ms), (2, .int n)]) hx hb dX3_keepIn_19 rfl hl (by decide) rfl (fun ls hl => ?_)
  refine lv_aload_n hx hb dX3_keepIn_20 rfl (lv_at hl 2 rfl) ?_
  refine lv_iload_n hx hb dX3_keepIn_21 rfl (lv_at hl 3 rfl) ?_
  refine lv_aload_n hx hb dX3_keepIn_22 rfl (lv_at hl 0 rfl) ?_
  refine va_astq hx hb hK hP hD hS 1 2 6 1 rfl rfl rfl rfl (vp_in_iff.mpr ⟨by omega, by omega⟩) dX3_keepIn_23 (fun H locs hP hD hS => ?_)
  obtain ⟨f_7, ef_7⟩ : ∃ g : Nat → Option Nat, va_up (fun _ => none) (n : Int32).toNatClampNeg (some q_1) = g := ⟨_, rfl⟩
  rw [ef_7] at hP hD
  have hP : va_P D vwCl [(h0, .inr (3, [.ref tx, .int le, .ref td, .ref dr, .ref nw, .ref ac, .int fa, .int an, .ref kp, .int ks, .ref sp, .ref ss, .ref sy, .int sc, .long sd, .ref tr, .ref ia])), (ms, .inl (cM, 2, .inr (.inr (.inr (.inr f_7))))), (nw, .inr (1, [.ref ln, .int md, .int mt, .int mr, .int mg, .ref mat, .ref mfd, .ref mhd])), (mat, .inl (cI, 5, .inl mFat)), (mfd, .inl (cI, 7, .inl mFfd)), (mhd, .inl (cI, 7, .inl mFhd)), (q_1, .inr (1, [.ref td, .int 0, .int 0, .int 0, .int 0, .ref nat_2, .ref nfd_3, .ref nhd_4])), (nat_2, .inl (cI, 5, .inl (fun _ => 0))), (nfd_3, .inl (cI, 7, .inl (fun _ => 0))), (nhd_4, .inl (cI, 7, .inl (fun _ => 0)))] H := hP
  have hD : va_D A [(h0, .inr (3, [.ref tx, .int le, .ref td, .ref dr, .ref nw, .ref ac, .int fa, .int an, .ref kp, .int ks, .ref sp, .ref ss, .ref sy, .int sc, .long sd, .ref tr, .ref ia])), (ms, .inl (cM, 2, .inr (.inr (.inr (.inr f_7))))), (nw, .inr (1, [.ref ln, .int md, .int mt, .int mr, .int mg, .ref mat, .ref mfd, .ref mhd])), (mat, .inl (cI, 5, .inl mFat)), (mfd, .inl (cI, 7, .inl mFfd)), (mhd, .inl (cI, 7, .inl mFhd)), (q_1, .inr (1, [.ref td, .int 0, .int 0, .int 0, .int 0, .ref nat_2, .ref nfd_3, .ref nhd_4])), (nat_2, .inl (cI, 5, .inl (fun _ => 0))), (nfd_3, .inl (cI, 7, .inl (fun _ => 0))), (nhd_4, .inl (cI, 7, .inl (fun _ => 0)))] := hD
  refine lv_aload_n hx hb dX3_keepIn_24 rfl (lv_at hl 0 rfl) ?_
  refine lv_aload_n hx hb dX3_keepIn_25 rfl (lv_at hl 1 rfl) ?_
  refine va_get (D := D) (ci := 3) (v := .ref nw) (C := RX3) (T := TX3) (N := 17) hx hb hts iX3 hown hK hP 0 rfl rfl 4 (by decide) (hts (.fieldLink RX3 32 "PunchedTicket" "now" "LPunchedTicket$Moment;") (List.mem_of_getElem? (i := 5) rfl)) (fun _ h9 => h9) rfl dX3_keepIn_26 ?_
  refine cV_v (As := [.ref nw]) (rest := []) ⟨hx, hb, hml, hown, hts⟩ (c_X1_copy l D cI cZ cM q_1 nw td 0 0 0 0 nat_2 nfd_3 nhd_4 ln md mt mr mg mat mfd mhd (fun _ => 0) (fun _ => 0) (fun _ => 0) mFat mFfd mFhd _ ) (cwV 1 hts gX3_keepIn_X1_copy rfl rfl rfl (by decide +kernel) ⟨by rw [hR]; decide, by rw [hR]; decide⟩) hK hP hD hS hA [6, 2, 7, 8, 9, 3, 4, 5] [0, 1] rfl rfl (by decide) (by decide) (by decide) rfl 6 rfl hl.1 rfl rfl (Nat.le_of_ble_eq_true rfl) dX3_keepIn_29 ⟨by rw [hR]; decide, by rw [hR]; decide⟩ (fun u_12 H locs hw hP hD hS => ?_)
  obtain ⟨Gat_8, Gfd_9, Ghd_10⟩ := u_12
  have hP : va_P D vwCl [(h0, .inr (3, [.ref tx, .int le, .ref td, .ref dr, .ref nw, .ref ac, .int fa, .int an, .ref kp, .int ks, .ref sp, .ref ss, .ref sy, .int sc, .long sd, .ref tr, .ref ia])), (ms, .inl (cM, 2, .inr (.inr (.inr (.inr f_7))))), (nw, .inr (1, [.ref ln, .int md, .int mt, .int mr, .int mg, .ref mat, .ref mfd, .ref mhd])), (mat, .inl (cI, 5, .inl mFat)), (mfd, .inl (cI, 7, .inl mFfd)), (mhd, .inl (cI, 7, .inl mFhd)), (q_1, .inr (1, [.ref td, .int md, .int mt, .int mr, .int mg, .ref nat_2, .ref nfd_3, .ref nhd_4])), (nat_2, .inl (cI, 5, .inl Gat_8)), (nfd_3, .inl (cI, 7, .inl Gfd_9)), (nhd_4, .inl (cI, 7, .inl Ghd_10))] H := hP.sub [0, 1, 3, 7, 8, 9, 2, 4, 5, 6] rfl
  have hD : va_D A [(h0, .inr (3, [.ref tx, .int le, .ref td, .ref dr, .ref nw, .ref ac, .int fa, .int an, .ref kp, .int ks, .ref sp, .ref ss, .ref sy, .int sc, .long sd, .ref tr, .ref ia])), (ms, .inl (cM, 2, .inr (.inr (.inr (.inr f_7))))), (nw, .inr (1, [.ref ln, .int md, .int mt, .int mr, .int mg, .ref mat, .ref mfd, .ref mhd])), (mat, .inl (cI, 5, .inl mFat)), (mfd, .inl (cI, 7, .inl mFfd)), (mhd, .inl (cI, 7, .inl mFhd)), (q_1, .inr (1, [.ref td, .int md, .int mt, .int mr, .int mg, .ref nat_2, .ref nfd_3, .ref nhd_4])), (nat_2, .inl (cI, 5, .inl Gat_8)), (nfd_3, .inl (cI, 7, .inl Gfd_9)), (nhd_4, .inl (cI, 7, .inl Ghd_10))] := hD.sub [0, 1, 3, 7, 8, 9, 2, 4, 5, 6] (by decide) rfl
  refine W.widen (k := 4) (n := 27) (Nat.le_refl _) (Nat.le_refl _) ?_
  exact ret_v (post := (fun (u : (Nat → Option Nat)) => True)) (W1 := (fun u => [(h0, .inr (3, [.ref tx, .int le, .ref td, .ref dr, .ref nw, .ref ac, .int fa, .int an, .ref kp, .int ks, .ref sp, .ref ss, .ref sy, .int sc, .long sd, .ref tr, .ref ia])), (ms, .inl (cM, 2, .inr (.inr (.inr (.inr u))))), (nw, .inr (1, [.ref ln, .int md, .int mt, .int mr, .int mg, .ref mat, .ref mfd, .ref mhd])), (mat, .inl (cI, 5, .inl mFat)), (mfd, .inl (cI, 7, .inl mFfd)), (mhd, .inl (cI, 7, .inl mFhd))])) f_7 hx hb hr hlocks hQ hK (hP.sub [0, 1, 2, 3, 4, 5] rfl) (hD.sub [0, 1, 2, 3, 4, 5] (by decide) rfl) hS ⟨by decide, by decide⟩ dX3_keepIn_32 trivial

set_option maxHeartbeats 600000 in
set_option maxRecDepth 100000 in
theorem c_X3_rememberAct0 (l : Launch) (D : va_G) (cI cZ cM : ClassId) (h0 : Nat) (tx : Nat) (le : Int32) (td : Nat) (dr : Nat) (nw : Nat) (ac : Nat) (kp : Nat) (ks : Int32) (sp : Nat) (ss : Nat) (sy : Nat) (sc : Int32) (sd : Int64) (tr : Nat) (ia : Nat) (ln : Nat) (md : Int32) (mt : Int32) (mr : Int32) (mg : Int32) (mat : Nat) (mfd : Nat) (mhd : Nat) (mFat : Nat → Int32) (mFfd : Nat → Int32) (mFhd : Nat → Int32) (sz : Nat)  : Cv l yX3_rememberAct wsX3_rememberAct ({ frames := 3, cells := 4, slots := 27, locals := 70 } : Room) D cI cZ cM [.ref h0] [(h0, .inr (3, [.ref tx, .int le, .ref td, .ref dr, .ref nw, .ref ac, .int 0, .int 0, .ref kp, .int ks, .ref sp, .ref ss, .ref sy, .int sc, .long sd, .ref tr, .ref ia])), (ac, .inl (cM, 14, .inr (.inr (.inr (.inr (fun _ => none)))))), (nw, .inr (1, [.ref ln, .int md, .int mt, .int mr, .int mg, .ref mat, .ref mfd, .ref mhd])), (mat, .inl (cI, 5, .inl mFat)), (mfd, .inl (cI, 7, .inl mFfd)), (mhd, .inl (cI, 7, .inl mFhd))] sz (fun (u : Int32 × (Nat → Option Nat)) => True) (fun u => [(h0, .inr (3, [.ref tx, .int le, .ref td, .ref dr, .ref nw, .ref ac, .int 0, .int u.1, .ref kp, .int ks, .ref sp, .ref ss, .ref sy, .int sc, .long sd, .ref tr, .ref ia])), (ac, .inl (cM, 14, .inr (.inr (.inr (.inr u.2))))), (nw, .inr (1, [.ref ln, .int md, .int mt, .int mr, .int mg, .ref mat, .ref mfd, .ref mhd])), (mat, .inl (cI, 5, .inl mFat)), (mfd, .inl (cI, 7, .inl mFfd)), (mhd, .inl (cI, 7, .inl mFhd))]) 4 27 := by
  refine begins (l := l) (y := yX3_rememberAct) (ws := wsX3_rememberAct) (av := [.ref h0]) (Qc := fun A => va_Qv (fun (u : Int32 × (Nat → Option Nat)) => True) (fun u => Wd D cI cZ cM A ((fun u => [(h0, .inr (3, [.ref tx, .int le, .ref td, .ref dr, .ref nw, .ref ac, .int 0, .int u.1, .ref kp, .int ks, .ref sp, .ref ss, .ref sy, .int sc, .long sd, .ref tr, .ref ia])), (ac, .inl (cM, 14, .inr (.inr (.inr (.inr u.2))))), (nw, .inr (1, [.ref ln, .int md, .int mt, .int mr, .int mg, .ref mat, .ref mfd, .ref mhd])), (mat, .inl (cI, 5, .inl mFat)), (mfd, .inl (cI, 7, .inl mFfd)), (mhd, .inl (cI, 7, .inl mFhd))]) u)) A) cX3_rememberAct 1 none (by decide) rfl (Nat.le_of_ble_eq_true rfl) ?_
  intro p e s m args below meth c R Q A ls hBd hR hQ hA hS hK hP hD hl
  obtain ⟨hx, hb, hr, hts, hown, hlocks, hin, hml⟩ := hBd
  have hl : lv_has ls 1 [(0, .ref h0)] := hl
  have iX3 : ∀ w ∈ wsX30, w ∈ wsX3_rememberAct := fun _ h => List.mem_cons_of_mem _ (List.mem_append_left _ (List.mem_append_right _ h))
  have iX1 : ∀ w ∈ wsX10, w ∈ wsX3_rememberAct := fun _ h => List.mem_cons_of_mem _ (List.mem_append_right _ h)
  refine lv_aload_n hx hb dX3_rememberAct_0 rfl (lv_at hl 0 rfl) ?_
  refine lv_aload_n hx hb dX3_rememberAct_1 rfl (lv_at hl 0 rfl) ?_
  refine va_get (D := D) (ci := 3) (v := .ref ac) (C := RX3) (T := TX3) (N := 17) hx hb hts iX3 hown hK hP 0 rfl rfl 5 (by decide) (hts (.fieldLink RX3 36 "PunchedTicket" "acts" "[LPunchedTicket$Moment;") (List.mem_of_getElem? (i := 1) rfl)) (fun _ h9 => h9) rfl dX3_rememberAct_2 ?_
  refine lv_aload_n hx hb dX3_rememberAct_5 rfl (lv_at hl 0 rfl) ?_
  refine va_get (D := D) (ci := 3) (v := .int 0) (C := RX3) (T := TX3) (N := 17) hx hb hts iX3 hown hK hP 0 rfl rfl 6 (by decide) (hts (.fieldLink RX3 40 "PunchedTicket" "firstAct" "I") (List.mem_of_getElem? (i := 2) rfl)) (fun _ h9 => h9) rfl dX3_rememberAct_6 ?_
  refine lv_aload_n hx hb dX3_rememberAct_9 rfl (lv_at hl 0 rfl) ?_
  refine va_get (D := D) (ci := 3) (v := .int 0) (C := RX3) (T := TX3) (N := 17) hx hb hts iX3 hown hK hP 0 rfl rfl 7 (by decide) (hts (.fieldLink RX3 43 "PunchedTicket" "actsInRow" "I") (List.mem_of_getElem? (i := 3) rfl)) (fun _ h9 => h9) rfl dX3_rememberAct_10 ?_
  refine lv_iadd hx hb dX3_rememberAct_13 ?_
  refine lv_topc (y := 0) (by decide) ?_
  refine lv_bipush (v := 14) hx hb dX3_rememberAct_14 (by decide) ?_
  refine lv_irem hx hb dX3_rememberAct_16 (by decide) ?_
  refine lv_topc (y := 0) (by decide) ?_
  refine cV_v (As := [.ref ac, .int 0]) (rest := []) ⟨hx, hb, hml, hown, hts⟩ (c_X3_keepIn14 l D cI cZ cM h0 ac 0 tx le td dr nw ac 0 0 kp ks sp ss sy sc sd tr ia ln md mt mr mg mat mfd mhd mFat mFfd mFhd _ (by decide)) (cwV 2 hts gX3_rememberAct_X3_keepIn rfl rfl rfl (by decide +kernel) ⟨by rw [hR]; decide, by rw [hR]; decide⟩) hK hP hD hS hA [0, 1, 2, 3, 4, 5] [] rfl rfl (by decide) (by decide) (by decide) rfl 0 rfl hl.1 rfl rfl (Nat.le_of_ble_eq_true rfl) dX3_rememberAct_17 ⟨by rw [hR]; decide, by rw [hR]; decide⟩ (fun u_3 H locs hw hP hD hS => ?_)
  obtain ⟨Gms_1, rfl⟩ : ∃ z, z = u_3 := ⟨_, rfl⟩
  have hP : va_P D vwCl [(h0, .inr (3, [.ref tx, .int le, .ref td, .ref dr, .ref nw, .ref ac, .int 0, .int 0, .ref kp, .int ks, .ref sp, .ref ss, .ref sy, .int sc, .long sd, .ref tr, .ref ia])), (ac, .inl (cM, 14, .inr (.inr (.inr (.inr Gms_1))))), (nw, .inr (1, [.ref ln, .int md, .int mt, .int mr, .int mg, .ref mat, .ref mfd, .ref mhd])), (mat, .inl (cI, 5, .inl mFat)), (mfd, .inl (cI, 7, .inl mFfd)), (mhd, .inl (cI, 7, .inl mFhd))] H := hP.sub [0, 1, 2, 3, 4, 5] rfl
  have hD : va_D A [(h0, .inr (3, [.ref tx, .int le, .ref td, .ref dr, .ref nw, .ref ac, .int 0, .int 0, .ref kp, .int ks, .ref sp, .ref ss, .ref sy, .int sc, .long sd, .ref tr, .ref ia])), (ac, .inl (cM, 14, .inr (.inr (.inr (.inr Gms_1))))), (nw, .inr (1, [.ref ln, .int md, .int mt, .int mr, .int mg, .ref mat, .ref mfd, .ref mhd])), (mat, .inl (cI, 5, .inl mFat)), (mfd, .inl (cI, 7, .inl mFfd)), (mhd, .inl (cI, 7, .inl mFhd))] := hD.sub [0, 1, 2, 3, 4, 5] (by decide) rfl
  refine W.widen (k := 4) (n := 27) (by omega) (by omega) ?_
  refine lv_aload_n hx hb dX3_rememberAct_20 rfl (lv_at hl 0 rfl) ?_
  refine va_get (D := D) (ci := 3) (v := .int 0) (C := RX3) (T := TX3) (N := 17) hx hb hts iX3 hown hK hP 0 rfl rfl 7 (by decide) (hts (.fieldLink RX3 43 "PunchedTicket" "actsInRow" "I") (List.mem_of_getElem? (i := 3) rfl)) (fun _ h9 => h9) rfl dX3_rememberAct_21 ?_
  refine lv_bipush (v := 14) hx hb dX3_rememberAct_24 (by decide) ?_
  refine lv_icmp_ge (tgt := 42) hx hb dX3_rememberAct_26 (by decide) (fun c_4 => ?_) (fun c_4 => ?_)
  · have tc_4 := b_le (show (14 : Int32).toInt = 14 by decide) (show (0 : Int32).toInt = 0 by decide) c_4
    exfalso; omega
  · have tc_4 := b_nle (show (14 : Int32).toInt = 14 by decide) (show (0 : Int32).toInt = 0 by decide) c_4
    refine lv_aload_n hx hb dX3_rememberAct_29 rfl (lv_at hl 0 rfl) ?_
    refine lv_dup hx hb dX3_rememberAct_30 rfl ?_
    refine va_get (D := D) (ci := 3) (v := .int 0) (C := RX3) (T := TX3) (N := 17) hx hb hts iX3 hown hK hP 0 rfl rfl 7 (by decide) (hts (.fieldLink RX3 43 "PunchedTicket" "actsInRow" "I") (List.mem_of_getElem? (i := 3) rfl)) (fun _ h9 => h9) rfl dX3_rememberAct_31 ?_
    refine lv_iconst (v := 1) hx hb dX3_rememberAct_34 (by decide) ?_
    refine lv_iadd hx hb dX3_rememberAct_35 ?_
    refine lv_topc (y := 1) (by decide) ?_
    refine va_put (D := D) (ci := 3) (v := .int 1) (ty := .int) (C := RX3) (T := TX3) (N := 17) hx hb hts iX3 tyX3 tyX3_ok nmX3 hown hK hP hD hS 0 rfl rfl 7 (by decide) (hts (.fieldLink RX3 43 "PunchedTicket" "actsInRow" "I") (List.mem_of_getElem? (i := 3) rfl)) (fun _ h9 => h9) rfl (by decide +kernel) rfl rfl (Nat.le_of_ble_eq_true rfl) dX3_rememberAct_36 (fun H locs hP hD hS => ?_)
    have hP : va_P D vwCl [(h0, .inr (3, [.ref tx, .int le, .ref td, .ref dr, .ref nw, .ref ac, .int 0, .int 1, .ref kp, .int ks, .ref sp, .ref ss, .ref sy, .int sc, .long sd, .ref tr, .ref ia])), (ac, .inl (cM, 14, .inr (.inr (.inr (.inr Gms_1))))), (nw, .inr (1, [.ref ln, .int md, .int mt, .int mr, .int mg, .ref mat, .ref mfd, .ref mhd])), (mat, .inl (cI, 5, .inl mFat)), (mfd, .inl (cI, 7, .inl mFfd)), (mhd, .inl (cI, 7, .inl mFhd))] H := hP
    have hD : va_D A [(h0, .inr (3, [.ref tx, .int le, .ref td, .ref dr, .ref nw, .ref ac, .int 0, .int 1, .ref kp, .int ks, .ref sp, .ref ss, .ref sy, .int sc, .long sd, .ref tr, .ref ia])), (ac, .inl (cM, 14, .inr (.inr (.inr (.inr Gms_1))))), (nw, .inr (1, [.ref ln, .int md, .int mt, .int mr, .int mg, .ref mat, .ref mfd, .ref mhd])), (mat, .inl (cI, 5, .inl mFat)), (mfd, .inl (cI, 7, .inl mFfd)), (mhd, .inl (cI, 7, .inl mFhd))] := hD
    refine lv_goto (tgt := 55) hx hb dX3_rememberAct_39 (by decide) ?_
    exact ret_v (post := (fun (u : Int32 × (Nat → Option Nat)) => True)) (W1 := (fun u => [(h0, .inr (3, [.ref tx, .int le, .ref td, .ref dr, .ref nw, .ref ac, .int 0, .int u.1, .ref kp, .int ks, .ref sp, .ref ss, .ref sy, .int sc, .long sd, .ref tr, .ref ia])), (ac, .inl (cM, 14, .inr (.inr (.inr (.inr u.2))))), (nw, .inr (1, [.ref ln, .int md, .int mt, .int mr, .int mg, .ref mat, .ref mfd, .ref mhd])), (mat, .inl (cI, 5, .inl mFat)), (mfd, .inl (cI, 7, .inl mFfd)), (mhd, .inl (cI, 7, .inl mFhd))])) (1, Gms_1) hx hb hr hlocks hQ hK hP hD hS ⟨by decide, by decide⟩ dX3_rememberAct_55 trivial

set_option maxHeartbeats 600000 in
set_option maxRecDepth 100000 in
theorem c_X3_day0 (l : Launch) (D : va_G) (cI cZ cM : ClassId) (h0 : Nat) (tx : Nat) (le : Int32) (td : Nat) (dr : Nat) (nw : Nat) (ac : Nat) (kp : Nat) (ks : Int32) (sp : Nat) (ss : Nat) (sy : Nat) (sc : Int32) (sd : Int64) (tr : Nat) (ia : Nat) (mr : Int32) (mg : Int32) (mat : Nat) (mfd : Nat) (mhd : Nat) (mFat : Nat → Int32) (mFfd : Nat → Int32) (mFhd : Nat → Int32) (ltk : Int32) (lho : Nat) (lli : Nat) (lki : Nat) (lfd : Nat) (lfr : Nat) (lto : Nat) (lse : Nat) (lhl : Nat) (lFto : Nat → Int32) (lFfr : Nat → Int32) (lFki : Nat → Int32) (tl : Nat) (mo : Nat) (rd : Nat) (Frd : Nat → Int32) (sz : Nat)  : Ci l yX3_day wsX3_day ({ frames := 4, cells := 4, slots := 27, locals := 90 } : Room) D cI cZ cM [.ref h0] [(h0, .inr (3, [.ref tx, .int le, .ref td, .ref dr, .ref nw, .ref ac, .int 0, .int 0, .ref kp, .int ks, .ref sp, .ref ss, .ref sy, .int sc, .long sd, .ref tr, .ref ia])), (ac, .inl (cM, 14, .inr (.inr (.inr (.inr (fun _ => none)))))), (nw, .inr (1, [.ref td, .int 0, .int 0, .int mr, .int mg, .ref mat, .ref mfd, .ref mhd])), (mat, .inl (cI, 5, .inl mFat)), (mfd, .inl (cI, 7, .inl mFfd)), (mhd, .inl (cI, 7, .inl mFhd)), (td, .inr (0, [.int 0, .int ltk, .ref lho, .ref lli, .ref lki, .ref lfd, .ref lfr, .ref lto, .ref lse, .ref lhl])), (lto, .inl (cI, 7, .inl lFto)), (lfr, .inl (cI, 7, .inl lFfr)), (lki, .inl (cI, 5, .inl lFki)), (tr, .inr (2, [.ref tl, .ref mo, .ref rd])), (rd, .inl (cI, 5, .inl Frd))] sz (fun (r : Int32) (u : Int32) => r.toInt = 0) (fun u => [(h0, .inr (3, [.ref tx, .int le, .ref td, .ref dr, .ref nw, .ref ac, .int 0, .int u, .ref kp, .int ks, .ref sp, .ref ss, .ref sy, .int sc, .long sd, .ref tr, .ref ia]))]) 4 27 := by
  refine begins (l := l) (y := yX3_day) (ws := wsX3_day) (av := [.ref h0]) (Qc := fun A => va_Qi (fun (r : Int32) (u : Int32) => r.toInt = 0) (fun u => Wd D cI cZ cM A ((fun u => [(h0, .inr (3, [.ref tx, .int le, .ref td, .ref dr, .ref nw, .ref ac, .int 0, .int u, .ref kp, .int ks, .ref sp, .ref ss, .ref sy, .int sc, .long sd, .ref tr, .ref ia]))]) u)) A) cX3_day 1 (some .int) (by decide) rfl (Nat.le_of_ble_eq_true rfl) ?_
  intro p e s m args below meth c R Q A ls hBd hR hQ hA hS hK hP hD hl
  obtain ⟨hx, hb, hr, hts, hown, hlocks, hin, hml⟩ := hBd
  have hl : lv_has ls 1 [(0, .ref h0)] := hl
  have iX3 : ∀ w ∈ wsX30, w ∈ wsX3_day := fun _ h => List.mem_cons_of_mem _ (List.mem_append_left _ (List.mem_append_left _ (List.mem_append_left _ (List.mem_append_right _ h))))
  have iX1 : ∀ w ∈ wsX10, w ∈ wsX3_day := fun _ h => List.mem_cons_of_mem _ (List.mem_append_left _ (List.mem_append_left _ (List.mem_append_right _ h)))
  have iX2 : ∀ w ∈ wsX20, w ∈ wsX3_day := fun _ h => List.mem_cons_of_mem _ (List.mem_append_left _ (List.mem_append_right _ h))
  have iX0 : ∀ w ∈ wsX00, w ∈ wsX3_day := fun _ h => List.mem_cons_of_mem _ (List.mem_append_right _ h)
  refine lv_aload_n hx hb dX3_day_0 rfl (lv_at hl 0 rfl) ?_
  refine va_get (D := D) (ci := 3) (v := .ref nw) (C := RX3) (T := TX3) (N := 17) hx hb hts iX3 hown hK hP 0 rfl rfl 4 (by decide) (hts (.fieldLink RX3 32 "PunchedTicket" "now" "LPunchedTicket$Moment;") (List.mem_of_getElem? (i := 1) rfl)) (fun _ h9 => h9) rfl dX3_day_1 ?_
  refine va_get (D := D) (ci := 1) (v := .int 0) (C := RX1) (T := TX1) (N := 8) hx hb hts iX1 hown hK hP 2 rfl rfl 1 (by decide) (hts (.fieldLink RX3 141 "PunchedTicket$Moment" "day" "I") (List.mem_of_getElem? (i := 2) rfl)) (fun _ h9 => h9) rfl dX3_day_4 ?_
  refine lv_bipush (v := 10) hx hb dX3_day_7 (by decide) ?_
  refine lv_icmp_lt (tgt := 15) hx hb dX3_day_9 (by decide) (fun c_1 => ?_) (fun c_1 => ?_)
  · have tc_1 := b_lt (show (0 : Int32).toInt = 0 by decide) (show (10 : Int32).toInt = 10 by decide) c_1
    refine lv_aload_n hx hb dX3_day_15 rfl (lv_at hl 0 rfl) ?_
    refine cV_v (As := []) (rest := []) ⟨hx, hb, hml, hown, hts⟩ (c_X3_rememberAct0 l D cI cZ cM h0 tx le td dr nw ac kp ks sp ss sy sc sd tr ia td 0 0 mr mg mat mfd mhd mFat mFfd mFhd _ ) (cwV 0 hts gX3_day_X3_rememberAct rfl rfl rfl (by decide +kernel) ⟨by rw [hR]; decide, by rw [hR]; decide⟩) hK hP hD hS hA [0, 1, 2, 3, 4, 5] [6, 7, 8, 9, 10, 11] rfl rfl (by decide) (by decide) (by decide) rfl 0 rfl hl.1 rfl rfl (Nat.le_of_ble_eq_true rfl) dX3_day_16 ⟨by rw [hR]; decide, by rw [hR]; decide⟩ (fun u_5 H locs hw hP hD hS => ?_)
    obtain ⟨an1_2, Gac_3⟩ := u_5
    have hP : va_P D vwCl [(h0, .inr (3, [.ref tx, .int le, .ref td, .ref dr, .ref nw, .ref ac, .int 0, .int an1_2, .ref kp, .int ks, .ref sp, .ref ss, .ref sy, .int sc, .long sd, .ref tr, .ref ia])), (ac, .inl (cM, 14, .inr (.inr (.inr (.inr Gac_3))))), (nw, .inr (1, [.ref td, .int 0, .int 0, .int mr, .int mg, .ref mat, .ref mfd, .ref mhd])), (mat, .inl (cI, 5, .inl mFat)), (mfd, .inl (cI, 7, .inl mFfd)), (mhd, .inl (cI, 7, .inl mFhd)), (td, .inr (0, [.int 0, .int ltk, .ref lho, .ref lli, .ref lki, .ref lfd, .ref lfr, .ref lto, .ref lse, .ref lhl])), (lto, .inl (cI, 7, .inl lFto)), (lfr, .inl (cI, 7, .inl lFfr)), (lki, .inl (cI, 5, .inl lFki)), (tr, .inr (2, [.ref tl, .ref mo, .ref rd])), (rd, .inl (cI, 5, .inl Frd))] H := hP.sub [6, 7, 8, 9, 10, 11, 0, 1, 2, 3, 4, 5] rfl
    have hD : va_D A [(h0, .inr (3, [.ref tx, .int le, .ref td, .ref dr, .ref nw, .ref ac, .int 0, .int an1_2, .ref kp, .int ks, .ref sp, .ref ss, .ref sy, .int sc, .long sd, .ref tr, .ref ia])), (ac, .inl (cM, 14, .inr (.inr (.inr (.inr Gac_3))))), (nw, .inr (1, [.ref td, .int 0, .int 0, .int mr, .int mg, .ref mat, .ref mfd, .ref mhd])), (mat, .inl (cI, 5, .inl mFat)), (mfd, .inl (cI, 7, .inl mFfd)), (mhd, .inl (cI, 7, .inl mFhd)), (td, .inr (0, [.int 0, .int ltk, .ref lho, .ref lli, .ref lki, .ref lfd, .ref lfr, .ref lto, .ref lse, .ref lhl])), (lto, .inl (cI, 7, .inl lFto)), (lfr, .inl (cI, 7, .inl lFfr)), (lki, .inl (cI, 5, .inl lFki)), (tr, .inr (2, [.ref tl, .ref mo, .ref rd])), (rd, .inl (cI, 5, .inl Frd))] := hD.sub [6, 7, 8, 9, 10, 11, 0, 1, 2, 3, 4, 5] (by decide) rfl
    refine W.widen (k := 4) (n := 27) (by omega) (by omega) ?_
    refine lv_aload_n hx hb dX3_day_19 rfl (lv_at hl 0 rfl) ?_
    refine va_get (D := D) (ci := 3) (v := .ref nw) (C := RX3) (T := TX3) (N := 17) hx hb hts iX3 hown hK hP 0 rfl rfl 4 (by decide) (hts (.fieldLink RX3 32 "PunchedTicket" "now" "LPunchedTicket$Moment;") (List.mem_of_getElem? (i := 1) rfl)) (fun _ h9 => h9) rfl dX3_day_20 ?_
    refine lv_aload_n hx hb dX3_day_23 rfl (lv_at hl 0 rfl) ?_
    refine va_get (D := D) (ci := 3) (v := .ref tr) (C := RX3) (T := TX3) (N := 17) hx hb hts iX3 hown hK hP 0 rfl rfl 15 (by decide) (hts (.fieldLink RX3 71 "PunchedTicket" "trial" "LPunchedTicket$Trial;") (List.mem_of_getElem? (i := 3) rfl)) (fun _ h9 => h9) rfl dX3_day_24 ?_
    refine va_get (D := D) (ci := 2) (v := .ref rd) (C := RX2) (T := TX2) (N := 3) hx hb hts iX2 hown hK hP 10 rfl rfl 2 (by decide) (hts (.fieldLink RX3 147 "PunchedTicket$Trial" "rides" "[I") (List.mem_of_getElem? (i := 4) rfl)) (fun _ h9 => h9) rfl dX3_day_27 ?_
    refine cV_i (As := [.ref rd]) (rest := []) ⟨hx, hb, hml, hown, hts⟩ (c_X1_passDay l D cI cZ cM nw rd td 0 0 mr mg mat mfd mhd 0 ltk lho lli lki lfd lfr lto lse lhl lFto lFfr lFki mFat mFfd mFhd Frd _ (by decide) (by decide) (by decide)) (cwV 1 hts gX3_day_X1_passDay rfl rfl rfl (by decide +kernel) ⟨by rw [hR]; decide, by rw [hR]; decide⟩) hK hP hD hS hA [2, 6, 7, 8, 9, 3, 4, 5, 11] [0, 1, 10] rfl rfl (by decide) (by decide) (by decide) rfl 2 rfl hl.1 rfl rfl (Nat.le_of_ble_eq_true rfl) dX3_day_30 ⟨by rw [hR]; decide, by rw [hR]; decide⟩ (fun r_13 u_14 H locs hw hP hD hS => ?_)
    obtain ⟨md1_6, mr1_7, mg1_8, Gat_9, Gfd_10, Ghd_11, Grd_12⟩ := u_14
    have hP : va_P D vwCl [(h0, .inr (3, [.ref tx, .int le, .ref td, .ref dr, .ref nw, .ref ac, .int 0, .int an1_2, .ref kp, .int ks, .ref sp, .ref ss, .ref sy, .int sc, .long sd, .ref tr, .ref ia])), (ac, .inl (cM, 14, .inr (.inr (.inr (.inr Gac_3))))), (nw, .inr (1, [.ref td, .int md1_6, .int 0, .int mr1_7, .int mg1_8, .ref mat, .ref mfd, .ref mhd])), (mat, .inl (cI, 5, .inl Gat_9)), (mfd, .inl (cI, 7, .inl Gfd_10)), (mhd, .inl (cI, 7, .inl Ghd_11)), (td, .inr (0, [.int 0, .int ltk, .ref lho, .ref lli, .ref lki, .ref lfd, .ref lfr, .ref lto, .ref lse, .ref lhl])), (lto, .inl (cI, 7, .inl lFto)), (lfr, .inl (cI, 7, .inl lFfr)), (lki, .inl (cI, 5, .inl lFki)), (tr, .inr (2, [.ref tl, .ref mo, .ref rd])), (rd, .inl (cI, 5, .inl Grd_12))] H := hP.sub [0, 1, 3, 8, 9, 10, 4, 5, 6, 7, 2, 11] rfl
    have hD : va_D A [(h0, .inr (3, [.ref tx, .int le, .ref td, .ref dr, .ref nw, .ref ac, .int 0, .int an1_2, .ref kp, .int ks, .ref sp, .ref ss, .ref sy, .int sc, .long sd, .ref tr, .ref ia])), (ac, .inl (cM, 14, .inr (.inr (.inr (.inr Gac_3))))), (nw, .inr (1, [.ref td, .int md1_6, .int 0, .int mr1_7, .int mg1_8, .ref mat, .ref mfd, .ref mhd])), (mat, .inl (cI, 5, .inl Gat_9)), (mfd, .inl (cI, 7, .inl Gfd_10)), (mhd, .inl (cI, 7, .inl Ghd_11)), (td, .inr (0, [.int 0, .int ltk, .ref lho, .ref lli, .ref lki, .ref lfd, .ref lfr, .ref lto, .ref lse, .ref lhl])), (lto, .inl (cI, 7, .inl lFto)), (lfr, .inl (cI, 7, .inl lFfr)), (lki, .inl (cI, 5, .inl lFki)), (tr, .inr (2, [.ref tl, .ref mo, .ref rd])), (rd, .inl (cI, 5, .inl Grd_12))] := hD.sub [0, 1, 3, 8, 9, 10, 4, 5, 6, 7, 2, 11] (by decide) rfl
    refine W.widen (k := 4) (n := 27) (Nat.le_refl _) (Nat.le_refl _) ?_
    have hw : md1_6.toInt = (0 : Int) + 1 ∧ ((0 : Int) = 0 → r_13.toInt = 0) := hw
    have hw_15 := hw
    exact ret_i (post := (fun (r : Int32) (u : Int32) => r.toInt = 0)) (W1 := (fun u => [(h0, .inr (3, [.ref tx, .int le, .ref td, .ref dr, .ref nw, .ref ac, .int 0, .int u, .ref kp, .int ks, .ref sp, .ref ss, .ref sy, .int sc, .long sd, .ref tr, .ref ia]))])) an1_2 hx hb hr hlocks rfl hQ hK (hP.sub [0] rfl) (hD.sub [0] (by decide) rfl) hS ⟨by decide, by decide⟩ dX3_day_33 (show r_13.toInt = 0 by omega)
  · have tc_1 := b_nlt (show (0 : Int32).toInt = 0 by decide) (show (10 : Int32).toInt = 10 by decide) c_1
    exfalso; omega

set_option maxHeartbeats 600000 in
set_option maxRecDepth 100000 in
theorem c_X3_twoSeats0 (l : Launch) (D : va_G) (cI cZ cM : ClassId) (h0 : Nat) (tx : Nat) (le : Int32) (td : Nat) (dr : Nat) (nw : Nat) (ac : Nat) (fa : Int32) (an : Int32) (kp : Nat) (ks : Int32) (sp : Nat) (ss : Nat) (sy : Nat) (sc : Int32) (sd : Int64) (tr : Nat) (ia : Nat) (mr : Int32) (mg : Int32) (mat : Nat) (mfd : Nat) (mhd : Nat) (mFat : Nat → Int32) (mFfd : Nat → Int32) (mFhd : Nat → Int32) (ltk : Int32) (lho : Nat) (lli : Nat) (lki : Nat) (lfd : Nat) (lfr : Nat) (lto : Nat) (lse : Nat) (lhl : Nat) (lFto : Nat → Int32) (lFfr : Nat → Int32) (lFki : Nat → Int32) (mo : Nat) (rd : Nat) (zd : Int32) (zt : Int32) (zr : Int32) (zg : Int32) (zat : Nat) (zfd : Nat) (zhd : Nat) (zFat : Nat → Int32) (zFfd : Nat → Int32) (zFhd : Nat → Int32) (Frd : Nat → Int32) (sz : Nat)  : Ci l yX3_twoSeats wsX3_twoSeats ({ frames := 4, cells := 0, slots := 0, locals := 92 } : Room) D cI cZ cM [.ref h0] [(h0, .inr (3, [.ref tx, .int le, .ref td, .ref dr, .ref nw, .ref ac, .int fa, .int an, .ref kp, .int ks, .ref sp, .ref ss, .ref sy, .int sc, .long sd, .ref tr, .ref ia])), (nw, .inr (1, [.ref td, .int 0, .int 0, .int mr, .int mg, .ref mat, .ref mfd, .ref mhd])), (mat, .inl (cI, 5, .inl mFat)), (mfd, .inl (cI, 7, .inl mFfd)), (mhd, .inl (cI, 7, .inl mFhd)), (td, .inr (0, [.int 0, .int ltk, .ref lho, .ref lli, .ref lki, .ref lfd, .ref lfr, .ref lto, .ref lse, .ref lhl])), (lto, .inl (cI, 7, .inl lFto)), (lfr, .inl (cI, 7, .inl lFfr)), (lki, .inl (cI, 5, .inl lFki)), (tr, .inr (2, [.ref td, .ref mo, .ref rd])), (mo, .inr (1, [.ref td, .int zd, .int zt, .int zr, .int zg, .ref zat, .ref zfd, .ref zhd])), (zat, .inl (cI, 5, .inl zFat)), (zfd, .inl (cI, 7, .inl zFfd)), (zhd, .inl (cI, 7, .inl zFhd)), (rd, .inl (cI, 5, .inl Frd))] sz (fun (r : Int32) (u : Unit) => r.toInt = -9) (fun u => [(h0, .inr (3, [.ref tx, .int le, .ref td, .ref dr, .ref nw, .ref ac, .int fa, .int an, .ref kp, .int ks, .ref sp, .ref ss, .ref sy, .int sc, .long sd, .ref tr, .ref ia]))]) 0 0 := by
  refine begins (l := l) (y := yX3_twoSeats) (ws := wsX3_twoSeats) (av := [.ref h0]) (Qc := fun A => va_Qi (fun (r : Int32) (u : Unit) => r.toInt = -9) (fun u => Wd D cI cZ cM A ((fun u => [(h0, .inr (3, [.ref tx, .int le, .ref td, .ref dr, .ref nw, .ref ac, .int fa, .int an, .ref kp, .int ks, .ref sp, .ref ss, .ref sy, .int sc, .long sd, .ref tr, .ref ia]))]) u)) A) cX3_twoSeats 1 (some .int) (by decide) rfl (Nat.le_of_ble_eq_true rfl) ?_
  intro p e s m args below meth c R Q A ls hBd hR hQ hA hS hK hP hD hl
  obtain ⟨hx, hb, hr, hts, hown, hlocks, hin, hml⟩ := hBd
  have hl : lv_has ls 1 [(0, .ref h0)] := hl
  have iX3 : ∀ w ∈ wsX30, w ∈ wsX3_twoSeats := fun _ h => List.mem_cons_of_mem _ (List.mem_append_left _ (List.mem_append_left _ (List.mem_append_left _ (List.mem_append_right _ h))))
  have iX2 : ∀ w ∈ wsX20, w ∈ wsX3_twoSeats := fun _ h => List.mem_cons_of_mem _ (List.mem_append_left _ (List.mem_append_left _ (List.mem_append_right _ h)))
  have iX1 : ∀ w ∈ wsX10, w ∈ wsX3_twoSeats := fun _ h => List.mem_cons_of_mem _ (List.mem_append_left _ (List.mem_append_right _ h))
  have iX0 : ∀ w ∈ wsX00, w ∈ wsX3_twoSeats := fun _ h => List.mem_cons_of_mem _ (List.mem_append_right _ h)
  refine lv_aload_n hx hb dX3_twoSeats_0 rfl (lv_at hl 0 rfl) ?_
  refine va_get (D := D) (ci := 3) (v := .ref tr) (C := RX3) (T := TX3) (N := 17) hx hb hts iX3 hown hK hP 0 rfl rfl 15 (by decide) (hts (.fieldLink RX3 71 "PunchedTicket" "trial" "LPunchedTicket$Trial;") (List.mem_of_getElem? (i := 1) rfl)) (fun _ h9 => h9) rfl dX3_twoSeats_1 ?_
  refine lv_aload_n hx hb dX3_twoSeats_4 rfl (lv_at hl 0 rfl) ?_
  refine va_get (D := D) (ci := 3) (v := .ref nw) (C := RX3) (T := TX3) (N := 17) hx hb hts iX3 hown hK hP 0 rfl rfl 4 (by decide) (hts (.fieldLink RX3 32 "PunchedTicket" "now" "LPunchedTicket$Moment;") (List.mem_of_getElem? (i := 2) rfl)) (fun _ h9 => h9) rfl dX3_twoSeats_5 ?_
  refine cV_v (As := [.ref nw]) (rest := []) ⟨hx, hb, hml, hown, hts⟩ (c_X2_start l D cI cZ cM tr nw td mo rd td zd zt zr zg zat zfd zhd td 0 0 mr mg mat mfd mhd zFat zFfd zFhd mFat mFfd mFhd _ ) (cwV 1 hts gX3_twoSeats_X2_start rfl rfl rfl (by decide +kernel) ⟨by rw [hR]; decide, by rw [hR]; decide⟩) hK hP hD hS hA [9, 10, 1, 11, 12, 13, 2, 3, 4] [0, 5, 6, 7, 8, 14] rfl rfl (by decide) (by decide) (by decide) rfl 9 rfl hl.1 rfl rfl (Nat.le_of_ble_eq_true rfl) dX3_twoSeats_8 ⟨by rw [hR]; decide, by rw [hR]; decide⟩ (fun u_5 H locs hw hP hD hS => ?_)
  obtain ⟨Gat_1, Gfd_2, Ghd_3⟩ := u_5
  have hP : va_P D vwCl [(h0, .inr (3, [.ref tx, .int le, .ref td, .ref dr, .ref nw, .ref ac, .int fa, .int an, .ref kp, .int ks, .ref sp, .ref ss, .ref sy, .int sc, .long sd, .ref tr, .ref ia])), (nw, .inr (1, [.ref td, .int 0, .int 0, .int mr, .int mg, .ref mat, .ref mfd, .ref mhd])), (mat, .inl (cI, 5, .inl mFat)), (mfd, .inl (cI, 7, .inl mFfd)), (mhd, .inl (cI, 7, .inl mFhd)), (td, .inr (0, [.int 0, .int ltk, .ref lho, .ref lli, .ref lki, .ref lfd, .ref lfr, .ref lto, .ref lse, .ref lhl])), (lto, .inl (cI, 7, .inl lFto)), (lfr, .inl (cI, 7, .inl lFfr)), (lki, .inl (cI, 5, .inl lFki)), (tr, .inr (2, [.ref td, .ref mo, .ref rd])), (mo, .inr (1, [.ref td, .int 0, .int 0, .int mr, .int mg, .ref zat, .ref zfd, .ref zhd])), (zat, .inl (cI, 5, .inl Gat_1)), (zfd, .inl (cI, 7, .inl Gfd_2)), (zhd, .inl (cI, 7, .inl Ghd_3)), (rd, .inl (cI, 5, .inl Frd))] H := hP.sub [0, 8, 12, 13, 14, 1, 2, 3, 4, 6, 7, 9, 10, 11, 5] rfl
  have hD : va_D A [(h0, .inr (3, [.ref tx, .int le, .ref td, .ref dr, .ref nw, .ref ac, .int fa, .int an, .ref kp, .int ks, .ref sp, .ref ss, .ref sy, .int sc, .long sd, .ref tr, .ref ia])), (nw, .inr (1, [.ref td, .int 0, .int 0, .int mr, .int mg, .ref mat, .ref mfd, .ref mhd])), (mat, .inl (cI, 5, .inl mFat)), (mfd, .inl (cI, 7, .inl mFfd)), (mhd, .inl (cI, 7, .inl mFhd)), (td, .inr (0, [.int 0, .int ltk, .ref lho, .ref lli, .ref lki, .ref lfd, .ref lfr, .ref lto, .ref lse, .ref lhl])), (lto, .inl (cI, 7, .inl lFto)), (lfr, .inl (cI, 7, .inl lFfr)), (lki, .inl (cI, 5, .inl lFki)), (tr, .inr (2, [.ref td, .ref mo, .ref rd])), (mo, .inr (1, [.ref td, .int 0, .int 0, .int mr, .int mg, .ref zat, .ref zfd, .ref zhd])), (zat, .inl (cI, 5, .inl Gat_1)), (zfd, .inl (cI, 7, .inl Gfd_2)), (zhd, .inl (cI, 7, .inl Ghd_3)), (rd, .inl (cI, 5, .inl Frd))] := hD.sub [0, 8, 12, 13, 14, 1, 2, 3, 4, 6, 7, 9, 10, 11, 5] (by decide) rfl
  refine W.widen (k := 0) (n := 0) (Nat.le_refl _) (Nat.le_refl _) ?_
  refine lv_aload_n hx hb dX3_twoSeats_11 rfl (lv_at hl 0 rfl) ?_
  refine va_get (D := D) (ci := 3) (v := .ref tr) (C := RX3) (T := TX3) (N := 17) hx hb hts iX3 hown hK hP 0 rfl rfl 15 (by decide) (hts (.fieldLink RX3 71 "PunchedTicket" "trial" "LPunchedTicket$Trial;") (List.mem_of_getElem? (i := 1) rfl)) (fun _ h9 => h9) rfl dX3_twoSeats_12 ?_
  refine cV_i (As := []) (rest := []) ⟨hx, hb, hml, hown, hts⟩ (c_X2_firstDouble0 l D cI cZ cM tr td mo rd 0 0 mr mg zat zfd zhd ltk lho lli lki lfd lfr lto lse lhl lFto lFfr lFki Gat_1 Gfd_2 Ghd_3 Frd _ (by decide) (by decide)) (cwV 0 hts gX3_twoSeats_X2_firstDouble rfl rfl rfl (by decide +kernel) ⟨by rw [hR]; decide, by rw [hR]; decide⟩) hK hP hD hS hA [9, 10, 5, 6, 7, 8, 11, 12, 13, 14] [0, 1, 2, 3, 4] rfl rfl (by decide) (by decide) (by decide) rfl 9 rfl hl.1 rfl rfl (Nat.le_of_ble_eq_true rfl) dX3_twoSeats_15 ⟨by rw [hR]; decide, by rw [hR]; decide⟩ (fun r_13 u_14 H locs hw hP hD hS => ?_)
  obtain ⟨md1_6, mr1_7, mg1_8, Gat_9, Gfd_10, Ghd_11, Grd_12⟩ := u_14
  have hP : va_P D vwCl [(h0, .inr (3, [.ref tx, .int le, .ref td, .ref dr, .ref nw, .ref ac, .int fa, .int an, .ref kp, .int ks, .ref sp, .ref ss, .ref sy, .int sc, .long sd, .ref tr, .ref ia])), (nw, .inr (1, [.ref td, .int 0, .int 0, .int mr, .int mg, .ref mat, .ref mfd, .ref mhd])), (mat, .inl (cI, 5, .inl mFat)), (mfd, .inl (cI, 7, .inl mFfd)), (mhd, .inl (cI, 7, .inl mFhd)), (td, .inr (0, [.int 0, .int ltk, .ref lho, .ref lli, .ref lki, .ref lfd, .ref lfr, .ref lto, .ref lse, .ref lhl])), (lto, .inl (cI, 7, .inl lFto)), (lfr, .inl (cI, 7, .inl lFfr)), (lki, .inl (cI, 5, .inl lFki)), (tr, .inr (2, [.ref td, .ref mo, .ref rd])), (mo, .inr (1, [.ref td, .int md1_6, .int 0, .int mr1_7, .int mg1_8, .ref zat, .ref zfd, .ref zhd])), (zat, .inl (cI, 5, .inl Gat_9)), (zfd, .inl (cI, 7, .inl Gfd_10)), (zhd, .inl (cI, 7, .inl Ghd_11)), (rd, .inl (cI, 5, .inl Grd_12))] H := hP.sub [0, 1, 2, 3, 4, 7, 8, 9, 10, 5, 6, 11, 12, 13, 14] rfl
  have hD : va_D A [(h0, .inr (3, [.ref tx, .int le, .ref td, .ref dr, .ref nw, .ref ac, .int fa, .int an, .ref kp, .int ks, .ref sp, .ref ss, .ref sy, .int sc, .long sd, .ref tr, .ref ia])), (nw, .inr (1, [.ref td, .int 0, .int 0, .int mr, .int mg, .ref mat, .ref mfd, .ref mhd])), (mat, .inl (cI, 5, .inl mFat)), (mfd, .inl (cI, 7, .inl mFfd)), (mhd, .inl (cI, 7, .inl mFhd)), (td, .inr (0, [.int 0, .int ltk, .ref lho, .ref lli, .ref lki, .ref lfd, .ref lfr, .ref lto, .ref lse, .ref lhl])), (lto, .inl (cI, 7, .inl lFto)), (lfr, .inl (cI, 7, .inl lFfr)), (lki, .inl (cI, 5, .inl lFki)), (tr, .inr (2, [.ref td, .ref mo, .ref rd])), (mo, .inr (1, [.ref td, .int md1_6, .int 0, .int mr1_7, .int mg1_8, .ref zat, .ref zfd, .ref zhd])), (zat, .inl (cI, 5, .inl Gat_9)), (zfd, .inl (cI, 7, .inl Gfd_10)), (zhd, .inl (cI, 7, .inl Ghd_11)), (rd, .inl (cI, 5, .inl Grd_12))] := hD.sub [0, 1, 2, 3, 4, 7, 8, 9, 10, 5, 6, 11, 12, 13, 14] (by decide) rfl
  refine W.widen (k := 0) (n := 0) (Nat.le_refl _) (Nat.le_refl _) ?_
  have hw : r_13.toInt = -9 := hw
  have hw_15 := hw
  exact ret_i (post := (fun (r : Int32) (u : Unit) => r.toInt = -9)) (W1 := (fun u => [(h0, .inr (3, [.ref tx, .int le, .ref td, .ref dr, .ref nw, .ref ac, .int fa, .int an, .ref kp, .int ks, .ref sp, .ref ss, .ref sy, .int sc, .long sd, .ref tr, .ref ia]))])) () hx hb hr hlocks rfl hQ hK (hP.sub [0] rfl) (hD.sub [0] (by decide) rfl) hS ⟨by decide, by decide⟩ dX3_twoSeats_18 (show r_13.toInt = -9 by omega)

set_option maxHeartbeats 600000 in
set_option maxRecDepth 100000 in
theorem c_X3_glad0 (l : Launch) (D : va_G) (cI cZ cM : ClassId) (h0 : Nat) (tx : Nat) (le : Int32) (td : Nat) (dr : Nat) (nw : Nat) (ac : Nat) (fa : Int32) (an : Int32) (kp : Nat) (ks : Int32) (sp : Nat) (ss : Nat) (sy : Nat) (sc : Int32) (sd : Int64) (tr : Nat) (ia : Nat) (mr : Int32) (mg : Int32) (mat : Nat) (mfd : Nat) (mhd : Nat) (mFat : Nat → Int32) (mFfd : Nat → Int32) (mFhd : Nat → Int32) (lho : Nat) (lli : Nat) (lki : Nat) (lfd : Nat) (lfr : Nat) (lto : Nat) (lse : Nat) (lhl : Nat) (lFto : Nat → Int32) (lFfr : Nat → Int32) (lFki : Nat → Int32) (lFli : Nat → Int32) (mo : Nat) (rd : Nat) (zd : Int32) (zt : Int32) (zr : Int32) (zg : Int32) (zat : Nat) (zfd : Nat) (zhd : Nat) (zFat : Nat → Int32) (zFfd : Nat → Int32) (zFhd : Nat → Int32) (Frd : Nat → Int32) (sz : Nat)  : Ci l yX3_glad wsX3_glad ({ frames := 5, cells := 0, slots := 0, locals := 113 } : Room) D cI cZ cM [.ref h0] [(h0, .inr (3, [.ref tx, .int le, .ref td, .ref dr, .ref nw, .ref ac, .int fa, .int an, .ref kp, .int ks, .ref sp, .ref ss, .ref sy, .int sc, .long sd, .ref tr, .ref ia])), (nw, .inr (1, [.ref td, .int 0, .int 0, .int mr, .int mg, .ref mat, .ref mfd, .ref mhd])), (mat, .inl (cI, 5, .inl mFat)), (mfd, .inl (cI, 7, .inl mFfd)), (mhd, .inl (cI, 7, .inl mFhd)), (td, .inr (0, [.int 0, .int 0, .ref lho, .ref lli, .ref lki, .ref lfd, .ref lfr, .ref lto, .ref lse, .ref lhl])), (lto, .inl (cI, 7, .inl lFto)), (lfr, .inl (cI, 7, .inl lFfr)), (lki, .inl (cI, 5, .inl lFki)), (lli, .inl (cI, 5, .inl lFli)), (tr, .inr (2, [.ref td, .ref mo, .ref rd])), (mo, .inr (1, [.ref td, .int zd, .int zt, .int zr, .int zg, .ref zat, .ref zfd, .ref zhd])), (zat, .inl (cI, 5, .inl zFat)), (zfd, .inl (cI, 7, .inl zFfd)), (zhd, .inl (cI, 7, .inl zFhd)), (rd, .inl (cI, 5, .inl Frd))] sz (fun (r : Int32) (u : Unit) => r.toInt = 0) (fun u => [(h0, .inr (3, [.ref tx, .int le, .ref td, .ref dr, .ref nw, .ref ac, .int fa, .int an, .ref kp, .int ks, .ref sp, .ref ss, .ref sy, .int sc, .long sd, .ref tr, .ref ia])), (td, .inr (0, [.int 0, .int 0, .ref lho, .ref lli, .ref lki, .ref lfd, .ref lfr, .ref lto, .ref lse, .ref lhl]))]) 0 0 := by
  refine begins (l := l) (y := yX3_glad) (ws := wsX3_glad) (av := [.ref h0]) (Qc := fun A => va_Qi (fun (r : Int32) (u : Unit) => r.toInt = 0) (fun u => Wd D cI cZ cM A ((fun u => [(h0, .inr (3, [.ref tx, .int le, .ref td, .ref dr, .ref nw, .ref ac, .int fa, .int an, .ref kp, .int ks, .ref sp, .ref ss, .ref sy, .int sc, .long sd, .ref tr, .ref ia])), (td, .inr (0, [.int 0, .int 0, .ref lho, .ref lli, .ref lki, .ref lfd, .ref lfr, .ref lto, .ref lse, .ref lhl]))]) u)) A) cX3_glad 1 (some .int) (by decide) rfl (Nat.le_of_ble_eq_true rfl) ?_
  intro p e s m args below meth c R Q A ls hBd hR hQ hA hS hK hP hD hl
  obtain ⟨hx, hb, hr, hts, hown, hlocks, hin, hml⟩ := hBd
  have hl : lv_has ls 1 [(0, .ref h0)] := hl
  have iX3 : ∀ w ∈ wsX30, w ∈ wsX3_glad := fun _ h => List.mem_cons_of_mem _ (List.mem_append_left _ (List.mem_append_left _ (List.mem_append_left _ (List.mem_append_right _ h))))
  have iX2 : ∀ w ∈ wsX20, w ∈ wsX3_glad := fun _ h => List.mem_cons_of_mem _ (List.mem_append_left _ (List.mem_append_left _ (List.mem_append_right _ h)))
  have iX1 : ∀ w ∈ wsX10, w ∈ wsX3_glad := fun _ h => List.mem_cons_of_mem _ (List.mem_append_left _ (List.mem_append_right _ h))
  have iX0 : ∀ w ∈ wsX00, w ∈ wsX3_glad := fun _ h => List.mem_cons_of_mem _ (List.mem_append_right _ h)
  refine lv_aload_n hx hb dX3_glad_0 rfl (lv_at hl 0 rfl) ?_
  refine va_get (D := D) (ci := 3) (v := .ref tr) (C := RX3) (T := TX3) (N := 17) hx hb hts iX3 hown hK hP 0 rfl rfl 15 (by decide) (hts (.fieldLink RX3 71 "PunchedTicket" "trial" "LPunchedTicket$Trial;") (List.mem_of_getElem? (i := 1) rfl)) (fun _ h9 => h9) rfl dX3_glad_1 ?_
  refine lv_aload_n hx hb dX3_glad_4 rfl (lv_at hl 0 rfl) ?_
  refine va_get (D := D) (ci := 3) (v := .ref nw) (C := RX3) (T := TX3) (N := 17) hx hb hts iX3 hown hK hP 0 rfl rfl 4 (by decide) (hts (.fieldLink RX3 32 "PunchedTicket" "now" "LPunchedTicket$Moment;") (List.mem_of_getElem? (i := 2) rfl)) (fun _ h9 => h9) rfl dX3_glad_5 ?_
  refine cV_v (As := [.ref nw]) (rest := []) ⟨hx, hb, hml, hown, hts⟩ (c_X2_start l D cI cZ cM tr nw td mo rd td zd zt zr zg zat zfd zhd td 0 0 mr mg mat mfd mhd zFat zFfd zFhd mFat mFfd mFhd _ ) (cwV 1 hts gX3_glad_X2_start rfl rfl rfl (by decide +kernel) ⟨by rw [hR]; decide, by rw [hR]; decide⟩) hK hP hD hS hA [10, 11, 1, 12, 13, 14, 2, 3, 4] [0, 5, 6, 7, 8, 9, 15] rfl rfl (by decide) (by decide) (by decide) rfl 10 rfl hl.1 rfl rfl (Nat.le_of_ble_eq_true rfl) dX3_glad_8 ⟨by rw [hR]; decide, by rw [hR]; decide⟩ (fun u_5 H locs hw hP hD hS => ?_)
  obtain ⟨Gat_1, Gfd_2, Ghd_3⟩ := u_5
  have hP : va_P D vwCl [(h0, .inr (3, [.ref tx, .int le, .ref td, .ref dr, .ref nw, .ref ac, .int fa, .int an, .ref kp, .int ks, .ref sp, .ref ss, .ref sy, .int sc, .long sd, .ref tr, .ref ia])), (nw, .inr (1, [.ref td, .int 0, .int 0, .int mr, .int mg, .ref mat, .ref mfd, .ref mhd])), (mat, .inl (cI, 5, .inl mFat)), (mfd, .inl (cI, 7, .inl mFfd)), (mhd, .inl (cI, 7, .inl mFhd)), (td, .inr (0, [.int 0, .int 0, .ref lho, .ref lli, .ref lki, .ref lfd, .ref lfr, .ref lto, .ref lse, .ref lhl])), (lto, .inl (cI, 7, .inl lFto)), (lfr, .inl (cI, 7, .inl lFfr)), (lki, .inl (cI, 5, .inl lFki)), (lli, .inl (cI, 5, .inl lFli)), (tr, .inr (2, [.ref td, .ref mo, .ref rd])), (mo, .inr (1, [.ref td, .int 0, .int 0, .int mr, .int mg, .ref zat, .ref zfd, .ref zhd])), (zat, .inl (cI, 5, .inl Gat_1)), (zfd, .inl (cI, 7, .inl Gfd_2)), (zhd, .inl (cI, 7, .inl Ghd_3)), (rd, .inl (cI, 5, .inl Frd))] H := hP.sub [0, 9, 13, 14, 15, 1, 2, 3, 4, 5, 7, 8, 10, 11, 12, 6] rfl
  have hD : va_D A [(h0, .inr (3, [.ref tx, .int le, .ref td, .ref dr, .ref nw, .ref ac, .int fa, .int an, .ref kp, .int ks, .ref sp, .ref ss, .ref sy, .int sc, .long sd, .ref tr, .ref ia])), (nw, .inr (1, [.ref td, .int 0, .int 0, .int mr, .int mg, .ref mat, .ref mfd, .ref mhd])), (mat, .inl (cI, 5, .inl mFat)), (mfd, .inl (cI, 7, .inl mFfd)), (mhd, .inl (cI, 7, .inl mFhd)), (td, .inr (0, [.int 0, .int 0, .ref lho, .ref lli, .ref lki, .ref lfd, .ref lfr, .ref lto, .ref lse, .ref lhl])), (lto, .inl (cI, 7, .inl lFto)), (lfr, .inl (cI, 7, .inl lFfr)), (lki, .inl (cI, 5, .inl lFki)), (lli, .inl (cI, 5, .inl lFli)), (tr, .inr (2, [.ref td, .ref mo, .ref rd])), (mo, .inr (1, [.ref td, .int 0, .int 0, .int mr, .int mg, .ref zat, .ref zfd, .ref zhd])), (zat, .inl (cI, 5, .inl Gat_1)), (zfd, .inl (cI, 7, .inl Gfd_2)), (zhd, .inl (cI, 7, .inl Ghd_3)), (rd, .inl (cI, 5, .inl Frd))] := hD.sub [0, 9, 13, 14, 15, 1, 2, 3, 4, 5, 7, 8, 10, 11, 12, 6] (by decide) rfl
  refine W.widen (k := 0) (n := 0) (Nat.le_refl _) (Nat.le_refl _) ?_
  refine lv_aload_n hx hb dX3_glad_11 rfl (lv_at hl 0 rfl) ?_
  refine va_get (D := D) (ci := 3) (v := .ref tr) (C := RX3) (T := TX3) (N := 17) hx hb hts iX3 hown hK hP 0 rfl rfl 15 (by decide) (hts (.fieldLink RX3 71 "PunchedTicket" "trial" "LPunchedTicket$Trial;") (List.mem_of_getElem? (i := 1) rfl)) (fun _ h9 => h9) rfl dX3_glad_12 ?_
  refine cV_i (As := []) (rest := []) ⟨hx, hb, hml, hown, hts⟩ (c_X2_gladAtEnd l D cI cZ cM tr td mo rd td 0 0 mr mg zat zfd zhd 0 0 lho lli lki lfd lfr lto lse lhl lFto lFfr lFki lFli Gat_1 Gfd_2 Ghd_3 Frd _ (by decide) (by decide) (by decide)) (cwV 0 hts gX3_glad_X2_gladAtEnd rfl rfl rfl (by decide +kernel) ⟨by rw [hR]; decide, by rw [hR]; decide⟩) hK hP hD hS hA [10, 11, 5, 6, 7, 8, 9, 12, 13, 14, 15] [0, 1, 2, 3, 4] rfl rfl (by decide) (by decide) (by decide) rfl 10 rfl hl.1 rfl rfl (Nat.le_of_ble_eq_true rfl) dX3_glad_15 ⟨by rw [hR]; decide, by rw [hR]; decide⟩ (fun r_13 u_14 H locs hw hP hD hS => ?_)
  obtain ⟨md1_6, mr1_7, mg1_8, Gat_9, Gfd_10, Ghd_11, Grd_12⟩ := u_14
  have hP : va_P D vwCl [(h0, .inr (3, [.ref tx, .int le, .ref td, .ref dr, .ref nw, .ref ac, .int fa, .int an, .ref kp, .int ks, .ref sp, .ref ss, .ref sy, .int sc, .long sd, .ref tr, .ref ia])), (nw, .inr (1, [.ref td, .int 0, .int 0, .int mr, .int mg, .ref mat, .ref mfd, .ref mhd])), (mat, .inl (cI, 5, .inl mFat)), (mfd, .inl (cI, 7, .inl mFfd)), (mhd, .inl (cI, 7, .inl mFhd)), (td, .inr (0, [.int 0, .int 0, .ref lho, .ref lli, .ref lki, .ref lfd, .ref lfr, .ref lto, .ref lse, .ref lhl])), (lto, .inl (cI, 7, .inl lFto)), (lfr, .inl (cI, 7, .inl lFfr)), (lki, .inl (cI, 5, .inl lFki)), (lli, .inl (cI, 5, .inl lFli)), (tr, .inr (2, [.ref td, .ref mo, .ref rd])), (mo, .inr (1, [.ref td, .int md1_6, .int 0, .int mr1_7, .int mg1_8, .ref zat, .ref zfd, .ref zhd])), (zat, .inl (cI, 5, .inl Gat_9)), (zfd, .inl (cI, 7, .inl Gfd_10)), (zhd, .inl (cI, 7, .inl Ghd_11)), (rd, .inl (cI, 5, .inl Grd_12))] H := hP.sub [0, 1, 2, 3, 4, 7, 8, 9, 10, 11, 5, 6, 12, 13, 14, 15] rfl
  have hD : va_D A [(h0, .inr (3, [.ref tx, .int le, .ref td, .ref dr, .ref nw, .ref ac, .int fa, .int an, .ref kp, .int ks, .ref sp, .ref ss, .ref sy, .int sc, .long sd, .ref tr, .ref ia])), (nw, .inr (1, [.ref td, .int 0, .int 0, .int mr, .int mg, .ref mat, .ref mfd, .ref mhd])), (mat, .inl (cI, 5, .inl mFat)), (mfd, .inl (cI, 7, .inl mFfd)), (mhd, .inl (cI, 7, .inl mFhd)), (td, .inr (0, [.int 0, .int 0, .ref lho, .ref lli, .ref lki, .ref lfd, .ref lfr, .ref lto, .ref lse, .ref lhl])), (lto, .inl (cI, 7, .inl lFto)), (lfr, .inl (cI, 7, .inl lFfr)), (lki, .inl (cI, 5, .inl lFki)), (lli, .inl (cI, 5, .inl lFli)), (tr, .inr (2, [.ref td, .ref mo, .ref rd])), (mo, .inr (1, [.ref td, .int md1_6, .int 0, .int mr1_7, .int mg1_8, .ref zat, .ref zfd, .ref zhd])), (zat, .inl (cI, 5, .inl Gat_9)), (zfd, .inl (cI, 7, .inl Gfd_10)), (zhd, .inl (cI, 7, .inl Ghd_11)), (rd, .inl (cI, 5, .inl Grd_12))] := hD.sub [0, 1, 2, 3, 4, 7, 8, 9, 10, 11, 5, 6, 12, 13, 14, 15] (by decide) rfl
  refine W.widen (k := 0) (n := 0) (Nat.le_refl _) (Nat.le_refl _) ?_
  have hw : 0 ≤ r_13.toInt ∧ r_13.toInt ≤ (0 : Int) := hw
  have hw_15 := hw
  obtain ⟨hw_15a, hw_15b⟩ := hw_15
  exact ret_i (post := (fun (r : Int32) (u : Unit) => r.toInt = 0)) (W1 := (fun u => [(h0, .inr (3, [.ref tx, .int le, .ref td, .ref dr, .ref nw, .ref ac, .int fa, .int an, .ref kp, .int ks, .ref sp, .ref ss, .ref sy, .int sc, .long sd, .ref tr, .ref ia])), (td, .inr (0, [.int 0, .int 0, .ref lho, .ref lli, .ref lki, .ref lfd, .ref lfr, .ref lto, .ref lse, .ref lhl]))])) () hx hb hr hlocks rfl hQ hK (hP.sub [0, 5] rfl) (hD.sub [0, 5] (by decide) rfl) hS ⟨by decide, by decide⟩ dX3_glad_18 (show r_13.toInt = 0 by omega)

set_option maxHeartbeats 600000 in
set_option maxRecDepth 100000 in
theorem c_X3_bestChange0 (l : Launch) (D : va_G) (cI cZ cM : ClassId) (h0 : Nat) (tx : Nat) (le : Int32) (td : Nat) (dr : Nat) (nw : Nat) (ac : Nat) (fa : Int32) (an : Int32) (kp : Nat) (ks : Int32) (sp : Nat) (ss : Nat) (sy : Nat) (sc : Int32) (sd : Int64) (tr : Nat) (ia : Nat) (mr : Int32) (mg : Int32) (mat : Nat) (mfd : Nat) (mhd : Nat) (mFat : Nat → Int32) (mFfd : Nat → Int32) (mFhd : Nat → Int32) (lho : Nat) (lli : Nat) (lki : Nat) (lfd : Nat) (lfr : Nat) (lto : Nat) (lse : Nat) (lhl : Nat) (lFto : Nat → Int32) (lFfr : Nat → Int32) (lFki : Nat → Int32) (lFli : Nat → Int32) (mo : Nat) (rd : Nat) (zd : Int32) (zt : Int32) (zr : Int32) (zg : Int32) (zat : Nat) (zfd : Nat) (zhd : Nat) (zFat : Nat → Int32) (zFfd : Nat → Int32) (zFhd : Nat → Int32) (Frd : Nat → Int32) (sz : Nat)  : Ci l yX3_bestChange wsX3_bestChange ({ frames := 6, cells := 0, slots := 0, locals := 133 } : Room) D cI cZ cM [.ref h0] [(h0, .inr (3, [.ref tx, .int le, .ref td, .ref dr, .ref nw, .ref ac, .int fa, .int an, .ref kp, .int ks, .ref sp, .ref ss, .ref sy, .int sc, .long sd, .ref tr, .ref ia])), (nw, .inr (1, [.ref td, .int 0, .int 0, .int mr, .int mg, .ref mat, .ref mfd, .ref mhd])), (mat, .inl (cI, 5, .inl mFat)), (mfd, .inl (cI, 7, .inl mFfd)), (mhd, .inl (cI, 7, .inl mFhd)), (td, .inr (0, [.int 0, .int 0, .ref lho, .ref lli, .ref lki, .ref lfd, .ref lfr, .ref lto, .ref lse, .ref lhl])), (lto, .inl (cI, 7, .inl lFto)), (lfr, .inl (cI, 7, .inl lFfr)), (lki, .inl (cI, 5, .inl lFki)), (lli, .inl (cI, 5, .inl lFli)), (tr, .inr (2, [.ref td, .ref mo, .ref rd])), (mo, .inr (1, [.ref td, .int zd, .int zt, .int zr, .int zg, .ref zat, .ref zfd, .ref zhd])), (zat, .inl (cI, 5, .inl zFat)), (zfd, .inl (cI, 7, .inl zFfd)), (zhd, .inl (cI, 7, .inl zFhd)), (rd, .inl (cI, 5, .inl Frd))] sz (fun (r : Int32) (u : Unit) => r.toInt = -9) (fun u => [(h0, .inr (3, [.ref tx, .int le, .ref td, .ref dr, .ref nw, .ref ac, .int fa, .int an, .ref kp, .int ks, .ref sp, .ref ss, .ref sy, .int sc, .long sd, .ref tr, .ref ia]))]) 0 0 := by
  refine begins (l := l) (y := yX3_bestChange) (ws := wsX3_bestChange) (av := [.ref h0]) (Qc := fun A => va_Qi (fun (r : Int32) (u : Unit) => r.toInt = -9) (fun u => Wd D cI cZ cM A ((fun u => [(h0, .inr (3, [.ref tx, .int le, .ref td, .ref dr, .ref nw, .ref ac, .int fa, .int an, .ref kp, .int ks, .ref sp, .ref ss, .ref sy, .int sc, .long sd, .ref tr, .ref ia]))]) u)) A) cX3_bestChange 6 (some .int) (by decide) rfl (Nat.le_of_ble_eq_true rfl) ?_
  intro p e s m args below meth c R Q A ls hBd hR hQ hA hS hK hP hD hl
  obtain ⟨hx, hb, hr, hts, hown, hlocks, hin, hml⟩ := hBd
  have hl : lv_has ls 6 [(0, .ref h0)] := hl
  have iX3 : ∀ w ∈ wsX30, w ∈ wsX3_bestChange := fun _ h => List.mem_cons_of_mem _ (List.mem_append_left _ (List.mem_append_left _ (List.mem_append_left _ (List.mem_append_right _ h))))
  have iX0 : ∀ w ∈ wsX00, w ∈ wsX3_bestChange := fun _ h => List.mem_cons_of_mem _ (List.mem_append_left _ (List.mem_append_left _ (List.mem_append_right _ h)))
  have iX2 : ∀ w ∈ wsX20, w ∈ wsX3_bestChange := fun _ h => List.mem_cons_of_mem _ (List.mem_append_left _ (List.mem_append_right _ h))
  have iX1 : ∀ w ∈ wsX10, w ∈ wsX3_bestChange := fun _ h => List.mem_cons_of_mem _ (List.mem_append_right _ h)
  refine lv_bipush (v := (-9)) hx hb dX3_bestChange_0 (by decide) ?_
  refine lv_istore_n (lv' := [(1, .int (-9)), (0, .ref h0)]) hx hb dX3_bestChange_2 rfl hl (by decide) rfl (fun ls hl => ?_)
  refine lv_aload_n hx hb dX3_bestChange_3 rfl (lv_at hl 1 rfl) ?_
  refine cV_i (As := []) (rest := []) ⟨hx, hb, hml, hown, hts⟩ (c_X3_glad0 l D cI cZ cM h0 tx le td dr nw ac fa an kp ks sp ss sy sc sd tr ia mr mg mat mfd mhd mFat mFfd mFhd lho lli lki lfd lfr lto lse lhl lFto lFfr lFki lFli mo rd zd zt zr zg zat zfd zhd zFat zFfd zFhd Frd _ ) (cwV 0 hts gX3_bestChange_X3_glad rfl rfl rfl (by decide +kernel) ⟨by rw [hR]; decide, by rw [hR]; decide⟩) hK hP hD hS hA [0, 1, 2, 3, 4, 5, 6, 7, 8, 9, 10, 11, 12, 13, 14, 15] [] rfl rfl (by decide) (by decide) (by decide) rfl 0 rfl hl.1 rfl rfl (Nat.le_of_ble_eq_true rfl) dX3_bestChange_4 ⟨by rw [hR]; decide, by rw [hR]; decide⟩ (fun r_1 u_2 H locs hw hP hD hS => ?_)
  have hP : va_P D vwCl [(h0, .inr (3, [.ref tx, .int le, .ref td, .ref dr, .ref nw, .ref ac, .int fa, .int an, .ref kp, .int ks, .ref sp, .ref ss, .ref sy, .int sc, .long sd, .ref tr, .ref ia])), (td, .inr (0, [.int 0, .int 0, .ref lho, .ref lli, .ref lki, .ref lfd, .ref lfr, .ref lto, .ref lse, .ref lhl]))] H := hP.sub [0, 1] rfl
  have hD : va_D A [(h0, .inr (3, [.ref tx, .int le, .ref td, .ref dr, .ref nw, .ref ac, .int fa, .int an, .ref kp, .int ks, .ref sp, .ref ss, .ref sy, .int sc, .long sd, .ref tr, .ref ia])), (td, .inr (0, [.int 0, .int 0, .ref lho, .ref lli, .ref lki, .ref lfd, .ref lfr, .ref lto, .ref lse, .ref lhl]))] := hD.sub [0, 1] (by decide) rfl
  refine W.widen (k := 0) (n := 0) (Nat.le_refl _) (Nat.le_refl _) ?_
  have hw : r_1.toInt = 0 := hw
  have hw_3 := hw
  refine lv_istore_n (lv' := [(2, .int r_1), (1, .int (-9)), (0, .ref h0)]) hx hb dX3_bestChange_7 rfl hl (by decide) rfl (fun ls hl => ?_)
  refine lv_iconst (v := 0) hx hb dX3_bestChange_8 (by decide) ?_
  refine lv_istore_n (lv' := [(3, .int 0), (2, .int r_1), (1, .int (-9)), (0, .ref h0)]) hx hb dX3_bestChange_9 rfl hl (by decide) rfl (fun ls hl => ?_)
  refine lv_iload_n hx hb dX3_bestChange_10 rfl (lv_at hl 0 rfl) ?_
  refine lv_aload_n hx hb dX3_bestChange_11 rfl (lv_at hl 3 rfl) ?_
  refine va_get (D := D) (ci := 3) (v := .ref td) (C := RX3) (T := TX3) (N := 17) hx hb hts iX3 hown hK hP 0 rfl rfl 2 (by decide) (hts (.fieldLink RX3 20 "PunchedTicket" "told" "LPunchedTicket$Line;") (List.mem_of_getElem? (i := 1) rfl)) (fun _ h9 => h9) rfl dX3_bestChange_12 ?_
  refine va_get (D := D) (ci := 0) (v := .int 0) (C := RX0) (T := TX0) (N := 10) hx hb hts iX0 hown hK hP 1 rfl rfl 1 (by decide) (hts (.fieldLink RX3 94 "PunchedTicket$Line" "tickets" "I") (List.mem_of_getElem? (i := 2) rfl)) (fun _ h9 => h9) rfl dX3_bestChange_15 ?_
  refine lv_icmp_ge (tgt := 76) hx hb dX3_bestChange_18 (by decide) (fun c_4 => ?_) (fun c_4 => ?_)
  · have tc_4 := b_le (show (0 : Int32).toInt = 0 by decide) (show (0 : Int32).toInt = 0 by decide) c_4
    refine lv_iload_n hx hb dX3_bestChange_76 rfl (lv_at hl 2 rfl) ?_
    exact ret_i (post := (fun (r : Int32) (u : Unit) => r.toInt = -9)) (W1 := (fun u => [(h0, .inr (3, [.ref tx, .int le, .ref td, .ref dr, .ref nw, .ref ac, .int fa, .int an, .ref kp, .int ks, .ref sp, .ref ss, .ref sy, .int sc, .long sd, .ref tr, .ref ia]))])) () hx hb hr hlocks rfl hQ hK (hP.sub [0] rfl) (hD.sub [0] (by decide) rfl) hS ⟨by decide, by decide⟩ dX3_bestChange_77 (show (-9 : Int) = -9 by omega)
  · have tc_4 := b_nle (show (0 : Int32).toInt = 0 by decide) (show (0 : Int32).toInt = 0 by decide) c_4
    exfalso; omega

set_option maxHeartbeats 600000 in
set_option maxRecDepth 100000 in
theorem c_X3_years0 (l : Launch) (D : va_G) (cI cZ cM : ClassId) (h0 : Nat) (n : Int32) (tx : Nat) (le : Int32) (td : Nat) (dr : Nat) (nw : Nat) (ac : Nat) (fa : Int32) (an : Int32) (kp : Nat) (ks : Int32) (sp : Nat) (ss : Nat) (sy : Nat) (sc : Int32) (sd : Int64) (tr : Nat) (ia : Nat) (mr : Int32) (mg : Int32) (mat : Nat) (mfd : Nat) (mhd : Nat) (mFat : Nat → Int32) (mFfd : Nat → Int32) (mFhd : Nat → Int32) (lho : Nat) (lli : Nat) (lki : Nat) (lfd : Nat) (lfr : Nat) (lto : Nat) (lse : Nat) (lhl : Nat) (lFto : Nat → Int32) (lFfr : Nat → Int32) (lFki : Nat → Int32) (lFli : Nat → Int32) (mo : Nat) (rd : Nat) (zd : Int32) (zt : Int32) (zr : Int32) (zg : Int32) (zat : Nat) (zfd : Nat) (zhd : Nat) (zFat : Nat → Int32) (zFfd : Nat → Int32) (zFhd : Nat → Int32) (Frd : Nat → Int32) (sz : Nat)  : Ci l yX3_years wsX3_years ({ frames := 5, cells := 0, slots := 0, locals := 113 } : Room) D cI cZ cM [.ref h0, .int n] [(h0, .inr (3, [.ref tx, .int le, .ref td, .ref dr, .ref nw, .ref ac, .int fa, .int an, .ref kp, .int ks, .ref sp, .ref ss, .ref sy, .int sc, .long sd, .ref tr, .ref ia])), (nw, .inr (1, [.ref td, .int 0, .int 0, .int mr, .int mg, .ref mat, .ref mfd, .ref mhd])), (mat, .inl (cI, 5, .inl mFat)), (mfd, .inl (cI, 7, .inl mFfd)), (mhd, .inl (cI, 7, .inl mFhd)), (td, .inr (0, [.int 0, .int 0, .ref lho, .ref lli, .ref lki, .ref lfd, .ref lfr, .ref lto, .ref lse, .ref lhl])), (lto, .inl (cI, 7, .inl lFto)), (lfr, .inl (cI, 7, .inl lFfr)), (lki, .inl (cI, 5, .inl lFki)), (lli, .inl (cI, 5, .inl lFli)), (tr, .inr (2, [.ref td, .ref mo, .ref rd])), (mo, .inr (1, [.ref td, .int zd, .int zt, .int zr, .int zg, .ref zat, .ref zfd, .ref zhd])), (zat, .inl (cI, 5, .inl zFat)), (zfd, .inl (cI, 7, .inl zFfd)), (zhd, .inl (cI, 7, .inl zFhd)), (rd, .inl (cI, 5, .inl Frd))] sz (fun (r : Int32) (u : Int64) => ((n.toInt < 1 ∨ 30 < n.toInt) ∧ r.toInt = -2) ∨ (1 ≤ n.toInt ∧ n.toInt ≤ 30 ∧ r.toInt = 0)) (fun u => [(h0, .inr (3, [.ref tx, .int le, .ref td, .ref dr, .ref nw, .ref ac, .int fa, .int an, .ref kp, .int ks, .ref sp, .ref ss, .ref sy, .int sc, .long u, .ref tr, .ref ia]))]) 0 0 := by
  refine begins (l := l) (y := yX3_years) (ws := wsX3_years) (av := [.ref h0, .int n]) (Qc := fun A => va_Qi (fun (r : Int32) (u : Int64) => ((n.toInt < 1 ∨ 30 < n.toInt) ∧ r.toInt = -2) ∨ (1 ≤ n.toInt ∧ n.toInt ≤ 30 ∧ r.toInt = 0)) (fun u => Wd D cI cZ cM A ((fun u => [(h0, .inr (3, [.ref tx, .int le, .ref td, .ref dr, .ref nw, .ref ac, .int fa, .int an, .ref kp, .int ks, .ref sp, .ref ss, .ref sy, .int sc, .long u, .ref tr, .ref ia]))]) u)) A) cX3_years 5 (some .int) (by decide) rfl (Nat.le_of_ble_eq_true rfl) ?_
  intro p e s m args below meth c R Q A ls hBd hR hQ hA hS hK hP hD hl
  obtain ⟨hx, hb, hr, hts, hown, hlocks, hin, hml⟩ := hBd
  have hl : lv_has ls 5 [(0, .ref h0), (1, .int n)] := hl
  have iX3 : ∀ w ∈ wsX30, w ∈ wsX3_years := fun _ h => List.mem_cons_of_mem _ (List.mem_append_left _ (List.mem_append_left _ (List.mem_append_left _ (List.mem_append_right _ h))))
  have iX2 : ∀ w ∈ wsX20, w ∈ wsX3_years := fun _ h => List.mem_cons_of_mem _ (List.mem_append_left _ (List.mem_append_left _ (List.mem_append_right _ h)))
  have iX1 : ∀ w ∈ wsX10, w ∈ wsX3_years := fun _ h => List.mem_cons_of_mem _ (List.mem_append_left _ (List.mem_append_right _ h))
  have iX0 : ∀ w ∈ wsX00, w ∈ wsX3_years := fun _ h => List.mem_cons_of_mem _ (List.mem_append_right _ h)
  refine lv_iload_n hx hb dX3_years_0 rfl (lv_at hl 1 rfl) ?_
  refine lv_iconst (v := 1) hx hb dX3_years_1 (by decide) ?_
  refine lv_icmp_lt (tgt := 11) hx hb dX3_years_2 (by decide) (fun c_1 => ?_) (fun c_1 => ?_)
  · have tc_1 := b_lt rfl (show (1 : Int32).toInt = 1 by decide) c_1
    refine lv_bipush (v := (-2)) hx hb dX3_years_11 (by decide) ?_
    exact ret_i (post := (fun (r : Int32) (u : Int64) => ((n.toInt < 1 ∨ 30 < n.toInt) ∧ r.toInt = -2) ∨ (1 ≤ n.toInt ∧ n.toInt ≤ 30 ∧ r.toInt = 0))) (W1 := (fun u => [(h0, .inr (3, [.ref tx, .int le, .ref td, .ref dr, .ref nw, .ref ac, .int fa, .int an, .ref kp, .int ks, .ref sp, .ref ss, .ref sy, .int sc, .long u, .ref tr, .ref ia]))])) sd hx hb hr hlocks rfl hQ hK (hP.sub [0] rfl) (hD.sub [0] (by decide) rfl) hS ⟨by decide, by decide⟩ dX3_years_13 (show ((n.toInt < 1 ∨ 30 < n.toInt) ∧ (-2 : Int) = -2) ∨ (1 ≤ n.toInt ∧ n.toInt ≤ 30 ∧ (-2 : Int) = 0) by omega)
  · have tc_1 := b_nlt rfl (show (1 : Int32).toInt = 1 by decide) c_1
    refine lv_iload_n hx hb dX3_years_5 rfl (lv_at hl 1 rfl) ?_
    refine lv_bipush (v := 30) hx hb dX3_years_6 (by decide) ?_
    refine lv_icmp_le (tgt := 14) hx hb dX3_years_8 (by decide) (fun c_2 => ?_) (fun c_2 => ?_)
    · have tc_2 := b_le rfl (show (30 : Int32).toInt = 30 by decide) c_2
      refine lv_iconst (v := 0) hx hb dX3_years_14 (by decide) ?_
      refine lv_istore_n (lv' := [(2, .int 0), (0, .ref h0), (1, .int n)]) hx hb dX3_years_15 rfl hl (by decide) rfl (fun ls hl => ?_)
      refine lv_iconst (v := 0) hx hb dX3_years_16 (by decide) ?_
      refine lv_istore_n (lv' := [(3, .int 0), (2, .int 0), (0, .ref h0), (1, .int n)]) hx hb dX3_years_17 rfl hl (by decide) rfl (fun ls hl => ?_)
      have LOOP_3 : ∀ (fu : Nat) (w2 : Int32) (x3 : Int32) (ns : Int64) (nd : Int32) (nt : Int32) (nr : Int32) (ng : Int32) (nat : Nat → Int32) (nfd : Nat → Int32) (nhd : Nat → Int32) (nrd : Nat → Int32) (H : Heap) (locs : List Loc) (ls : Array Slot), (30 - x3.toInt).toNat < fu → (0 ≤ x3.toInt ∧ x3.toInt ≤ 30) → (0 ≤ w2.toInt ∧ w2.toInt ≤ 0) → va_P D vwCl [(h0, .inr (3, [.ref tx, .int le, .ref td, .ref dr, .ref nw, .ref ac, .int fa, .int an, .ref kp, .int ks, .ref sp, .ref ss, .ref sy, .int sc, .long ns, .ref tr, .ref ia])), (nw, .inr (1, [.ref td, .int 0, .int 0, .int mr, .int mg, .ref mat, .ref mfd, .ref mhd])), (mat, .inl (cI, 5, .inl mFat)), (mfd, .inl (cI, 7, .inl mFfd)), (mhd, .inl (cI, 7, .inl mFhd)), (td, .inr (0, [.int 0, .int 0, .ref lho, .ref lli, .ref lki, .ref lfd, .ref lfr, .ref lto, .ref lse, .ref lhl])), (lto, .inl (cI, 7, .inl lFto)), (lfr, .inl (cI, 7, .inl lFfr)), (lki, .inl (cI, 5, .inl lFki)), (lli, .inl (cI, 5, .inl lFli)), (tr, .inr (2, [.ref td, .ref mo, .ref rd])), (mo, .inr (1, [.ref td, .int nd, .int nt, .int nr, .int ng, .ref zat, .ref zfd, .ref zhd])), (zat, .inl (cI, 5, .inl nat)), (zfd, .inl (cI, 7, .inl nfd)), (zhd, .inl (cI, 7, .inl nhd)), (rd, .inl (cI, 5, .inl nrd))] H → va_D A [(h0, .inr (3, [.ref tx, .int le, .ref td, .ref dr, .ref nw, .ref ac, .int fa, .int an, .ref kp, .int ks, .ref sp, .ref ss, .ref sy, .int sc, .long ns, .ref tr, .ref ia])), (nw, .inr (1, [.ref td, .int 0, .int 0, .int mr, .int mg, .ref mat, .ref mfd, .ref mhd])), (mat, .inl (cI, 5, .inl mFat)), (mfd, .inl (cI, 7, .inl mFfd)), (mhd, .inl (cI, 7, .inl mFhd)), (td, .inr (0, [.int 0, .int 0, .ref lho, .ref lli, .ref lki, .ref lfd, .ref lfr, .ref lto, .ref lse, .ref lhl])), (lto, .inl (cI, 7, .inl lFto)), (lfr, .inl (cI, 7, .inl lFfr)), (lki, .inl (cI, 5, .inl lFki)), (lli, .inl (cI, 5, .inl lFli)), (tr, .inr (2, [.ref td, .ref mo, .ref rd])), (mo, .inr (1, [.ref td, .int nd, .int nt, .int nr, .int ng, .ref zat, .ref zfd, .ref zhd])), (zat, .inl (cI, 5, .inl nat)), (zfd, .inl (cI, 7, .inl nfd)), (zhd, .inl (cI, 7, .inl nhd)), (rd, .inl (cI, 5, .inl nrd))] → va_S A s.heap H locs → lv_has ls 5 [(0, .ref h0), (1, .int n), (2, .int w2), (3, .int x3)] → W p l e R s m args below meth c H locs 0 0 Q (F0 m 18 ls []) := by
        intro fu
        induction fu with
        | zero => intro w2 x3 ns nd nt nr ng nat nfd nhd nrd H locs ls hmu; exact absurd hmu (Nat.not_lt_zero _)
        | succ fu ih =>
          intro w2 x3 ns nd nt nr ng nat nfd nhd nrd H locs ls hmu h_x3 h_w2 hP hD hS hl
          obtain ⟨h_x3a, h_x3b⟩ := h_x3
          obtain ⟨h_w2a, h_w2b⟩ := h_w2
          have ih_4 := ih
          clear ih
          refine lv_iload_n hx hb dX3_years_18 rfl (lv_at hl 3 rfl) ?_
          refine lv_iload_n hx hb dX3_years_19 rfl (lv_at hl 1 rfl) ?_
          refine lv_icmp_ge (tgt := 97) hx hb dX3_years_20 (by decide) (fun c_5 => ?_) (fun c_5 => ?_)
          · have tc_5 := b_le rfl rfl c_5
            refine lv_iload_n hx hb dX3_years_97 rfl (lv_at hl 2 rfl) ?_
            exact ret_i (post := (fun (r : Int32) (u : Int64) => ((n.toInt < 1 ∨ 30 < n.toInt) ∧ r.toInt = -2) ∨ (1 ≤ n.toInt ∧ n.toInt ≤ 30 ∧ r.toInt = 0))) (W1 := (fun u => [(h0, .inr (3, [.ref tx, .int le, .ref td, .ref dr, .ref nw, .ref ac, .int fa, .int an, .ref kp, .int ks, .ref sp, .ref ss, .ref sy, .int sc, .long u, .ref tr, .ref ia]))])) ns hx hb hr hlocks rfl hQ hK (hP.sub [0] rfl) (hD.sub [0] (by decide) rfl) hS ⟨by decide, by decide⟩ dX3_years_98 (show ((n.toInt < 1 ∨ 30 < n.toInt) ∧ w2.toInt = -2) ∨ (1 ≤ n.toInt ∧ n.toInt ≤ 30 ∧ w2.toInt = 0) by omega)
          · have tc_5 := b_nle rfl rfl c_5
            refine lv_aload_n hx hb dX3_years_23 rfl (lv_at hl 0 rfl) ?_
            refine lv_aload_n hx hb dX3_years_24 rfl (lv_at hl 0 rfl) ?_
            refine va_get (D := D) (ci := 3) (v := .long ns) (C := RX3) (T := TX3) (N := 17) hx hb hts iX3 hown hK hP 0 rfl rfl 14 (by decide) (hts (.fieldLink RX3 64 "PunchedTicket" "theSeed" "J") (List.mem_of_getElem? (i := 1) rfl)) (fun _ h9 => h9) rfl dX3_years_25 ?_
            refine lv_ldc2 (v := (6364136223846793005)) hx hb hown (hts (.constantLong RX3 253 (6364136223846793005)) (List.mem_of_getElem? (i := 2) rfl)) dX3_years_28 ?_
            refine lv_lmul hx hb dX3_years_31 ?_
            refine lv_topl (fun w_6 ew_6 => ?_)
            refine lv_ldc2 (v := (1442695040888963407)) hx hb hown (hts (.constantLong RX3 255 (1442695040888963407)) (List.mem_of_getElem? (i := 3) rfl)) dX3_years_32 ?_
            refine lv_ladd hx hb dX3_years_35 ?_
            refine lv_topl (fun w_7 ew_7 => ?_)
            refine va_put (D := D) (ci := 3) (v := .long w_7) (ty := .long) (C := RX3) (T := TX3) (N := 17) hx hb hts iX3 tyX3 tyX3_ok nmX3 hown hK hP hD hS 0 rfl rfl 14 (by decide) (hts (.fieldLink RX3 64 "PunchedTicket" "theSeed" "J") (List.mem_of_getElem? (i := 1) rfl)) (fun _ h9 => h9) rfl (by decide +kernel) rfl rfl (Nat.le_of_ble_eq_true rfl) dX3_years_36 (fun H locs hP hD hS => ?_)
            have hP : va_P D vwCl [(h0, .inr (3, [.ref tx, .int le, .ref td, .ref dr, .ref nw, .ref ac, .int fa, .int an, .ref kp, .int ks, .ref sp, .ref ss, .ref sy, .int sc, .long w_7, .ref tr, .ref ia])), (nw, .inr (1, [.ref td, .int 0, .int 0, .int mr, .int mg, .ref mat, .ref mfd, .ref mhd])), (mat, .inl (cI, 5, .inl mFat)), (mfd, .inl (cI, 7, .inl mFfd)), (mhd, .inl (cI, 7, .inl mFhd)), (td, .inr (0, [.int 0, .int 0, .ref lho, .ref lli, .ref lki, .ref lfd, .ref lfr, .ref lto, .ref lse, .ref lhl])), (lto, .inl (cI, 7, .inl lFto)), (lfr, .inl (cI, 7, .inl lFfr)), (lki, .inl (cI, 5, .inl lFki)), (lli, .inl (cI, 5, .inl lFli)), (tr, .inr (2, [.ref td, .ref mo, .ref rd])), (mo, .inr (1, [.ref td, .int nd, .int nt, .int nr, .int ng, .ref zat, .ref zfd, .ref zhd])), (zat, .inl (cI, 5, .inl nat)), (zfd, .inl (cI, 7, .inl nfd)), (zhd, .inl (cI, 7, .inl nhd)), (rd, .inl (cI, 5, .inl nrd))] H := hP
            have hD : va_D A [(h0, .inr (3, [.ref tx, .int le, .ref td, .ref dr, .ref nw, .ref ac, .int fa, .int an, .ref kp, .int ks, .ref sp, .ref ss, .ref sy, .int sc, .long w_7, .ref tr, .ref ia])), (nw, .inr (1, [.ref td, .int 0, .int 0, .int mr, .int mg, .ref mat, .ref mfd, .ref mhd])), (mat, .inl (cI, 5, .inl mFat)), (mfd, .inl (cI, 7, .inl mFfd)), (mhd, .inl (cI, 7, .inl mFhd)), (td, .inr (0, [.int 0, .int 0, .ref lho, .ref lli, .ref lki, .ref lfd, .ref lfr, .ref lto, .ref lse, .ref lhl])), (lto, .inl (cI, 7, .inl lFto)), (lfr, .inl (cI, 7, .inl lFfr)), (lki, .inl (cI, 5, .inl lFki)), (lli, .inl (cI, 5, .inl lFli)), (tr, .inr (2, [.ref td, .ref mo, .ref rd])), (mo, .inr (1, [.ref td, .int nd, .int nt, .int nr, .int ng, .ref zat, .ref zfd, .ref zhd])), (zat, .inl (cI, 5, .inl nat)), (zfd, .inl (cI, 7, .inl nfd)), (zhd, .inl (cI, 7, .inl nhd)), (rd, .inl (cI, 5, .inl nrd))] := hD
            refine lv_aload_n hx hb dX3_years_39 rfl (lv_at hl 0 rfl) ?_
            refine va_get (D := D) (ci := 3) (v := .long w_7) (C := RX3) (T := TX3) (N := 17) hx hb hts iX3 hown hK hP 0 rfl rfl 14 (by decide) (hts (.fieldLink RX3 64 "PunchedTicket" "theSeed" "J") (List.mem_of_getElem? (i := 1) rfl)) (fun _ h9 => h9) rfl dX3_years_40 ?_
            refine lv_bipush (v := 33) hx hb dX3_years_43 (by decide) ?_
            obtain ⟨w_8, ew_8⟩ : ∃ z : Int64, (w_7.toUInt64 >>> ((33 : Int32).toInt64.toUInt64 &&& Int64.toUInt64 63)).toInt64 = z := ⟨_, rfl⟩
            refine lv_lushr hx hb dX3_years_45 ew_8 ?_
            refine lv_ldc2 (v := (64)) hx hb hown (hts (.constantLong RX3 257 (64)) (List.mem_of_getElem? (i := 4) rfl)) dX3_years_46 ?_
            refine lv_lrem hx hb dX3_years_49 (by decide) ?_
            refine lv_topl (fun w_9 ew_9 => ?_)
            obtain ⟨v_10, ev_10⟩ : ∃ z : Int32, w_9.toInt32 = z := ⟨_, rfl⟩
            refine lv_l2i hx hb dX3_years_50 ev_10 ?_
            refine lv_istore (lv' := [(4, .int v_10), (0, .ref h0), (1, .int n), (2, .int w2), (3, .int x3)]) hx hb dX3_years_51 hl (by decide) rfl (fun ls hl => ?_)
            refine lv_aload_n hx hb dX3_years_53 rfl (lv_at hl 1 rfl) ?_
            refine va_get (D := D) (ci := 3) (v := .ref tr) (C := RX3) (T := TX3) (N := 17) hx hb hts iX3 hown hK hP 0 rfl rfl 15 (by decide) (hts (.fieldLink RX3 71 "PunchedTicket" "trial" "LPunchedTicket$Trial;") (List.mem_of_getElem? (i := 5) rfl)) (fun _ h9 => h9) rfl dX3_years_54 ?_
            refine lv_aload_n hx hb dX3_years_57 rfl (lv_at hl 1 rfl) ?_
            refine va_get (D := D) (ci := 3) (v := .ref nw) (C := RX3) (T := TX3) (N := 17) hx hb hts iX3 hown hK hP 0 rfl rfl 4 (by decide) (hts (.fieldLink RX3 32 "PunchedTicket" "now" "LPunchedTicket$Moment;") (List.mem_of_getElem? (i := 6) rfl)) (fun _ h9 => h9) rfl dX3_years_58 ?_
            refine cV_v (As := [.ref nw]) (rest := []) ⟨hx, hb, hml, hown, hts⟩ (c_X2_start l D cI cZ cM tr nw td mo rd td nd nt nr ng zat zfd zhd td 0 0 mr mg mat mfd mhd nat nfd nhd mFat mFfd mFhd _ ) (cwV 1 hts gX3_years_X2_start rfl rfl rfl (by decide +kernel) ⟨by rw [hR]; decide, by rw [hR]; decide⟩) hK hP hD hS hA [10, 11, 1, 12, 13, 14, 2, 3, 4] [0, 5, 6, 7, 8, 9, 15] rfl rfl (by decide) (by decide) (by decide) rfl 10 rfl hl.1 rfl rfl (Nat.le_of_ble_eq_true rfl) dX3_years_61 ⟨by rw [hR]; decide, by rw [hR]; decide⟩ (fun u_15 H locs hw hP hD hS => ?_)
            obtain ⟨Gat_11, Gfd_12, Ghd_13⟩ := u_15
            have hP : va_P D vwCl [(h0, .inr (3, [.ref tx, .int le, .ref td, .ref dr, .ref nw, .ref ac, .int fa, .int an, .ref kp, .int ks, .ref sp, .ref ss, .ref sy, .int sc, .long w_7, .ref tr, .ref ia])), (nw, .inr (1, [.ref td, .int 0, .int 0, .int mr, .int mg, .ref mat, .ref mfd, .ref mhd])), (mat, .inl (cI, 5, .inl mFat)), (mfd, .inl (cI, 7, .inl mFfd)), (mhd, .inl (cI, 7, .inl mFhd)), (td, .inr (0, [.int 0, .int 0, .ref lho, .ref lli, .ref lki, .ref lfd, .ref lfr, .ref lto, .ref lse, .ref lhl])), (lto, .inl (cI, 7, .inl lFto)), (lfr, .inl (cI, 7, .inl lFfr)), (lki, .inl (cI, 5, .inl lFki)), (lli, .inl (cI, 5, .inl lFli)), (tr, .inr (2, [.ref td, .ref mo, .ref rd])), (mo, .inr (1, [.ref td, .int 0, .int 0, .int mr, .int mg, .ref zat, .ref zfd, .ref zhd])), (zat, .inl (cI, 5, .inl Gat_11)), (zfd, .inl (cI, 7, .inl Gfd_12)), (zhd, .inl (cI, 7, .inl Ghd_13)), (rd, .inl (cI, 5, .inl nrd))] H := hP.sub [0, 9, 13, 14, 15, 1, 2, 3, 4, 5, 7, 8, 10, 11, 12, 6] rfl
            have hD : va_D A [(h0, .inr (3, [.ref tx, .int le, .ref td, .ref dr, .ref nw, .ref ac, .int fa, .int an, .ref kp, .int ks, .ref sp, .ref ss, .ref sy, .int sc, .long w_7, .ref tr, .ref ia])), (nw, .inr (1, [.ref td, .int 0, .int 0, .int mr, .int mg, .ref mat, .ref mfd, .ref mhd])), (mat, .inl (cI, 5, .inl mFat)), (mfd, .inl (cI, 7, .inl mFfd)), (mhd, .inl (cI, 7, .inl mFhd)), (td, .inr (0, [.int 0, .int 0, .ref lho, .ref lli, .ref lki, .ref lfd, .ref lfr, .ref lto, .ref lse, .ref lhl])), (lto, .inl (cI, 7, .inl lFto)), (lfr, .inl (cI, 7, .inl lFfr)), (lki, .inl (cI, 5, .inl lFki)), (lli, .inl (cI, 5, .inl lFli)), (tr, .inr (2, [.ref td, .ref mo, .ref rd])), (mo, .inr (1, [.ref td, .int 0, .int 0, .int mr, .int mg, .ref zat, .ref zfd, .ref zhd])), (zat, .inl (cI, 5, .inl Gat_11)), (zfd, .inl (cI, 7, .inl Gfd_12)), (zhd, .inl (cI, 7, .inl Ghd_13)), (rd, .inl (cI, 5, .inl nrd))] := hD.sub [0, 9, 13, 14, 15, 1, 2, 3, 4, 5, 7, 8, 10, 11, 12, 6] (by decide) rfl
            refine W.widen (k := 0) (n := 0) (Nat.le_refl _) (Nat.le_refl _) ?_
            refine lv_aload_n hx hb dX3_years_64 rfl (lv_at hl 1 rfl) ?_
            refine va_get (D := D) (ci := 3) (v := .ref tr) (C := RX3) (T := TX3) (N := 17) hx hb hts iX3 hown hK hP 0 rfl rfl 15 (by decide) (hts (.fieldLink RX3 71 "PunchedTicket" "trial" "LPunchedTicket$Trial;") (List.mem_of_getElem? (i := 5) rfl)) (fun _ h9 => h9) rfl dX3_years_65 ?_
            refine va_get (D := D) (ci := 2) (v := .ref mo) (C := RX2) (T := TX2) (N := 3) hx hb hts iX2 hown hK hP 10 rfl rfl 1 (by decide) (hts (.fieldLink RX3 178 "PunchedTicket$Trial" "moment" "LPunchedTicket$Moment;") (List.mem_of_getElem? (i := 7) rfl)) (fun _ h9 => h9) rfl dX3_years_68 ?_
            refine lv_dup hx hb dX3_years_71 rfl ?_
            refine va_get (D := D) (ci := 1) (v := .int mg) (C := RX1) (T := TX1) (N := 8) hx hb hts iX1 hown hK hP 11 rfl rfl 4 (by decide) (hts (.fieldLink RX3 158 "PunchedTicket$Moment" "gone" "I") (List.mem_of_getElem? (i := 8) rfl)) (fun _ h9 => h9) rfl dX3_years_72 ?_
            refine lv_iload hx hb dX3_years_75 (lv_at hl 0 rfl) ?_
            refine lv_ior hx hb dX3_years_77 ?_
            refine lv_topi (fun v_16 ev_16 => ?_)
            refine va_put (D := D) (ci := 1) (v := .int v_16) (ty := .int) (C := RX1) (T := TX1) (N := 8) hx hb hts iX1 tyX1 tyX1_ok nmX1 hown hK hP hD hS 11 rfl rfl 4 (by decide) (hts (.fieldLink RX3 158 "PunchedTicket$Moment" "gone" "I") (List.mem_of_getElem? (i := 8) rfl)) (fun _ h9 => h9) rfl (by decide +kernel) rfl rfl (Nat.le_of_ble_eq_true rfl) dX3_years_78 (fun H locs hP hD hS => ?_)
            have hP : va_P D vwCl [(h0, .inr (3, [.ref tx, .int le, .ref td, .ref dr, .ref nw, .ref ac, .int fa, .int an, .ref kp, .int ks, .ref sp, .ref ss, .ref sy, .int sc, .long w_7, .ref tr, .ref ia])), (nw, .inr (1, [.ref td, .int 0, .int 0, .int mr, .int mg, .ref mat, .ref mfd, .ref mhd])), (mat, .inl (cI, 5, .inl mFat)), (mfd, .inl (cI, 7, .inl mFfd)), (mhd, .inl (cI, 7, .inl mFhd)), (td, .inr (0, [.int 0, .int 0, .ref lho, .ref lli, .ref lki, .ref lfd, .ref lfr, .ref lto, .ref lse, .ref lhl])), (lto, .inl (cI, 7, .inl lFto)), (lfr, .inl (cI, 7, .inl lFfr)), (lki, .inl (cI, 5, .inl lFki)), (lli, .inl (cI, 5, .inl lFli)), (tr, .inr (2, [.ref td, .ref mo, .ref rd])), (mo, .inr (1, [.ref td, .int 0, .int 0, .int mr, .int v_16, .ref zat, .ref zfd, .ref zhd])), (zat, .inl (cI, 5, .inl Gat_11)), (zfd, .inl (cI, 7, .inl Gfd_12)), (zhd, .inl (cI, 7, .inl Ghd_13)), (rd, .inl (cI, 5, .inl nrd))] H := hP
            have hD : va_D A [(h0, .inr (3, [.ref tx, .int le, .ref td, .ref dr, .ref nw, .ref ac, .int fa, .int an, .ref kp, .int ks, .ref sp, .ref ss, .ref sy, .int sc, .long w_7, .ref tr, .ref ia])), (nw, .inr (1, [.ref td, .int 0, .int 0, .int mr, .int mg, .ref mat, .ref mfd, .ref mhd])), (mat, .inl (cI, 5, .inl mFat)), (mfd, .inl (cI, 7, .inl mFfd)), (mhd, .inl (cI, 7, .inl mFhd)), (td, .inr (0, [.int 0, .int 0, .ref lho, .ref lli, .ref lki, .ref lfd, .ref lfr, .ref lto, .ref lse, .ref lhl])), (lto, .inl (cI, 7, .inl lFto)), (lfr, .inl (cI, 7, .inl lFfr)), (lki, .inl (cI, 5, .inl lFki)), (lli, .inl (cI, 5, .inl lFli)), (tr, .inr (2, [.ref td, .ref mo, .ref rd])), (mo, .inr (1, [.ref td, .int 0, .int 0, .int mr, .int v_16, .ref zat, .ref zfd, .ref zhd])), (zat, .inl (cI, 5, .inl Gat_11)), (zfd, .inl (cI, 7, .inl Gfd_12)), (zhd, .inl (cI, 7, .inl Ghd_13)), (rd, .inl (cI, 5, .inl nrd))] := hD
            refine lv_iload_n hx hb dX3_years_81 rfl (lv_at hl 3 rfl) ?_
            refine lv_aload_n hx hb dX3_years_82 rfl (lv_at hl 1 rfl) ?_
            refine va_get (D := D) (ci := 3) (v := .ref tr) (C := RX3) (T := TX3) (N := 17) hx hb hts iX3 hown hK hP 0 rfl rfl 15 (by decide) (hts (.fieldLink RX3 71 "PunchedTicket" "trial" "LPunchedTicket$Trial;") (List.mem_of_getElem? (i := 5) rfl)) (fun _ h9 => h9) rfl dX3_years_83 ?_
            refine cV_i (As := []) (rest := [.int w2]) ⟨hx, hb, hml, hown, hts⟩ (c_X2_gladAtEnd l D cI cZ cM tr td mo rd td 0 0 mr v_16 zat zfd zhd 0 0 lho lli lki lfd lfr lto lse lhl lFto lFfr lFki lFli Gat_11 Gfd_12 Ghd_13 nrd _ (by decide) (by decide) (by decide)) (cwV 0 hts gX3_years_X2_gladAtEnd rfl rfl rfl (by decide +kernel) ⟨by rw [hR]; decide, by rw [hR]; decide⟩) hK hP hD hS hA [10, 11, 5, 6, 7, 8, 9, 12, 13, 14, 15] [0, 1, 2, 3, 4] rfl rfl (by decide) (by decide) (by decide) rfl 10 rfl hl.1 rfl rfl (Nat.le_of_ble_eq_true rfl) dX3_years_86 ⟨by rw [hR]; decide, by rw [hR]; decide⟩ (fun r_24 u_25 H locs hw hP hD hS => ?_)
            obtain ⟨md1_17, mr1_18, mg1_19, Gat_20, Gfd_21, Ghd_22, Grd_23⟩ := u_25
            have hP : va_P D vwCl [(h0, .inr (3, [.ref tx, .int le, .ref td, .ref dr, .ref nw, .ref ac, .int fa, .int an, .ref kp, .int ks, .ref sp, .ref ss, .ref sy, .int sc, .long w_7, .ref tr, .ref ia])), (nw, .inr (1, [.ref td, .int 0, .int 0, .int mr, .int mg, .ref mat, .ref mfd, .ref mhd])), (mat, .inl (cI, 5, .inl mFat)), (mfd, .inl (cI, 7, .inl mFfd)), (mhd, .inl (cI, 7, .inl mFhd)), (td, .inr (0, [.int 0, .int 0, .ref lho, .ref lli, .ref lki, .ref lfd, .ref lfr, .ref lto, .ref lse, .ref lhl])), (lto, .inl (cI, 7, .inl lFto)), (lfr, .inl (cI, 7, .inl lFfr)), (lki, .inl (cI, 5, .inl lFki)), (lli, .inl (cI, 5, .inl lFli)), (tr, .inr (2, [.ref td, .ref mo, .ref rd])), (mo, .inr (1, [.ref td, .int md1_17, .int 0, .int mr1_18, .int mg1_19, .ref zat, .ref zfd, .ref zhd])), (zat, .inl (cI, 5, .inl Gat_20)), (zfd, .inl (cI, 7, .inl Gfd_21)), (zhd, .inl (cI, 7, .inl Ghd_22)), (rd, .inl (cI, 5, .inl Grd_23))] H := hP.sub [0, 1, 2, 3, 4, 7, 8, 9, 10, 11, 5, 6, 12, 13, 14, 15] rfl
            have hD : va_D A [(h0, .inr (3, [.ref tx, .int le, .ref td, .ref dr, .ref nw, .ref ac, .int fa, .int an, .ref kp, .int ks, .ref sp, .ref ss, .ref sy, .int sc, .long w_7, .ref tr, .ref ia])), (nw, .inr (1, [.ref td, .int 0, .int 0, .int mr, .int mg, .ref mat, .ref mfd, .ref mhd])), (mat, .inl (cI, 5, .inl mFat)), (mfd, .inl (cI, 7, .inl mFfd)), (mhd, .inl (cI, 7, .inl mFhd)), (td, .inr (0, [.int 0, .int 0, .ref lho, .ref lli, .ref lki, .ref lfd, .ref lfr, .ref lto, .ref lse, .ref lhl])), (lto, .inl (cI, 7, .inl lFto)), (lfr, .inl (cI, 7, .inl lFfr)), (lki, .inl (cI, 5, .inl lFki)), (lli, .inl (cI, 5, .inl lFli)), (tr, .inr (2, [.ref td, .ref mo, .ref rd])), (mo, .inr (1, [.ref td, .int md1_17, .int 0, .int mr1_18, .int mg1_19, .ref zat, .ref zfd, .ref zhd])), (zat, .inl (cI, 5, .inl Gat_20)), (zfd, .inl (cI, 7, .inl Gfd_21)), (zhd, .inl (cI, 7, .inl Ghd_22)), (rd, .inl (cI, 5, .inl Grd_23))] := hD.sub [0, 1, 2, 3, 4, 7, 8, 9, 10, 11, 5, 6, 12, 13, 14, 15] (by decide) rfl
            refine W.widen (k := 0) (n := 0) (Nat.le_refl _) (Nat.le_refl _) ?_
            have hw : 0 ≤ r_24.toInt ∧ r_24.toInt ≤ (0 : Int) := hw
            have hw_26 := hw
            obtain ⟨hw_26a, hw_26b⟩ := hw_26
            refine lv_iadd hx hb dX3_years_89 ?_
            refine lv_topi (fun v_27 ev_27 => ?_)
            have tv_27 : v_27.toInt = w2.toInt + r_24.toInt := by rw [ev_27]; exact ti_add (x := w2) (y := r_24) (show -2147483648 ≤ w2.toInt + r_24.toInt by omega) (show w2.toInt + r_24.toInt < 2147483648 by omega)
            refine lv_istore_n (lv' := [(2, .int v_27), (4, .int v_10), (0, .ref h0), (1, .int n), (3, .int x3)]) hx hb dX3_years_90 rfl hl (by decide) rfl (fun ls hl => ?_)
            obtain ⟨v_28, ev_28⟩ : ∃ z : Int32, z = x3 + 1 := ⟨_, rfl⟩
            have tv_28 : v_28.toInt = x3.toInt + 1 := by rw [ev_28]; exact ti_add (x := x3) (y := 1) (show -2147483648 ≤ x3.toInt + 1 by omega) (show x3.toInt + 1 < 2147483648 by omega)
            refine lv_iinc (v := v_28) (lv' := [(3, .int v_28), (2, .int v_27), (4, .int v_10), (0, .ref h0), (1, .int n)]) hx hb dX3_years_91 hl (k := 4) rfl (by rw [ev_28]; rfl) (by decide) rfl (fun ls hl => ?_)
            refine lv_goto (tgt := 18) hx hb dX3_years_94 (by decide) ?_
            exact ih_4 v_27 v_28 w_7 md1_17 0 mr1_18 mg1_19 Gat_20 Gfd_21 Ghd_22 Grd_23 _ _ _ (show (30 - v_28.toInt).toNat < fu by omega) (show 0 ≤ v_28.toInt ∧ v_28.toInt ≤ 30 by omega) (show 0 ≤ v_27.toInt ∧ v_27.toInt ≤ 0 by omega) hP hD hS (lv_sub hl [3, 4, 1, 0] rfl)
      exact LOOP_3 _ 0 0 sd zd zt zr zg zFat zFfd zFhd Frd _ _ _ (Nat.lt_succ_self _) (by decide) (by decide) hP hD hS (lv_sub hl [2, 3, 1, 0] rfl)
    · have tc_2 := b_nle rfl (show (30 : Int32).toInt = 30 by decide) c_2
      refine lv_bipush (v := (-2)) hx hb dX3_years_11 (by decide) ?_
      exact ret_i (post := (fun (r : Int32) (u : Int64) => ((n.toInt < 1 ∨ 30 < n.toInt) ∧ r.toInt = -2) ∨ (1 ≤ n.toInt ∧ n.toInt ≤ 30 ∧ r.toInt = 0))) (W1 := (fun u => [(h0, .inr (3, [.ref tx, .int le, .ref td, .ref dr, .ref nw, .ref ac, .int fa, .int an, .ref kp, .int ks, .ref sp, .ref ss, .ref sy, .int sc, .long u, .ref tr, .ref ia]))])) sd hx hb hr hlocks rfl hQ hK (hP.sub [0] rfl) (hD.sub [0] (by decide) rfl) hS ⟨by decide, by decide⟩ dX3_years_13 (show ((n.toInt < 1 ∨ 30 < n.toInt) ∧ (-2 : Int) = -2) ∨ (1 ≤ n.toInt ∧ n.toInt ≤ 30 ∧ (-2 : Int) = 0) by omega)

set_option maxHeartbeats 600000 in
set_option maxRecDepth 100000 in
theorem c_X3_isSlot (l : Launch) (D : va_G) (cI cZ cM : ClassId) (n : Int32) (sz : Nat)  : Ci l yX3_isSlot wsX3_isSlot ({ frames := 0, cells := 0, slots := 0, locals := 0 } : Room) D cI cZ cM [.int n] [] sz (fun (r : Int32) (u : Unit) => (r.toInt = 1 ∧ 0 ≤ n.toInt ∧ n.toInt < 2) ∨ (r.toInt = 0 ∧ (n.toInt < 0 ∨ 2 ≤ n.toInt))) (fun u => []) 0 0 := by
  refine begins (l := l) (y := yX3_isSlot) (ws := wsX3_isSlot) (av := [.int n]) (Qc := fun A => va_Qi (fun (r : Int32) (u : Unit) => (r.toInt = 1 ∧ 0 ≤ n.toInt ∧ n.toInt < 2) ∨ (r.toInt = 0 ∧ (n.toInt < 0 ∨ 2 ≤ n.toInt))) (fun u => Wd D cI cZ cM A ((fun u => []) u)) A) cX3_isSlot 1 (some .boolean) (by decide) rfl (Nat.le_of_ble_eq_true rfl) ?_
  intro p e s m args below meth c R Q A ls hBd hR hQ hA hS hK hP hD hl
  obtain ⟨hx, hb, hr, hts, hown, hlocks, hin, hml⟩ := hBd
  have hl : lv_has ls 1 [(0, .int n)] := hl
  refine lv_iload_n hx hb dX3_isSlot_0 rfl (lv_at hl 0 rfl) ?_
  refine lv_if_lt (tgt := 13) hx hb dX3_isSlot_1 (by decide) (fun c_1 => ?_) (fun c_1 => ?_)
  · have tc_1 := b_lt rfl (show (0 : Int32).toInt = 0 by decide) c_1
    refine lv_iconst (v := 0) hx hb dX3_isSlot_13 (by decide) ?_
    exact ret_i (post := (fun (r : Int32) (u : Unit) => (r.toInt = 1 ∧ 0 ≤ n.toInt ∧ n.toInt < 2) ∨ (r.toInt = 0 ∧ (n.toInt < 0 ∨ 2 ≤ n.toInt)))) (W1 := (fun u => [])) () hx hb hr hlocks rfl hQ hK hP hD hS ⟨by decide, by decide⟩ dX3_isSlot_14 (show ((0 : Int) = 1 ∧ 0 ≤ n.toInt ∧ n.toInt < 2) ∨ ((0 : Int) = 0 ∧ (n.toInt < 0 ∨ 2 ≤ n.toInt)) by omega)
  · have tc_1 := b_nlt rfl (show (0 : Int32).toInt = 0 by decide) c_1
    refine lv_iload_n hx hb dX3_isSlot_4 rfl (lv_at hl 0 rfl) ?_
    refine lv_iconst (v := 2) hx hb dX3_isSlot_5 (by decide) ?_
    refine lv_icmp_ge (tgt := 13) hx hb dX3_isSlot_6 (by decide) (fun c_2 => ?_) (fun c_2 => ?_)
    · have tc_2 := b_le (show (2 : Int32).toInt = 2 by decide) rfl c_2
      refine lv_iconst (v := 0) hx hb dX3_isSlot_13 (by decide) ?_
      exact ret_i (post := (fun (r : Int32) (u : Unit) => (r.toInt = 1 ∧ 0 ≤ n.toInt ∧ n.toInt < 2) ∨ (r.toInt = 0 ∧ (n.toInt < 0 ∨ 2 ≤ n.toInt)))) (W1 := (fun u => [])) () hx hb hr hlocks rfl hQ hK hP hD hS ⟨by decide, by decide⟩ dX3_isSlot_14 (show ((0 : Int) = 1 ∧ 0 ≤ n.toInt ∧ n.toInt < 2) ∨ ((0 : Int) = 0 ∧ (n.toInt < 0 ∨ 2 ≤ n.toInt)) by omega)
    · have tc_2 := b_nle (show (2 : Int32).toInt = 2 by decide) rfl c_2
      refine lv_iconst (v := 1) hx hb dX3_isSlot_9 (by decide) ?_
      refine lv_goto (tgt := 14) hx hb dX3_isSlot_10 (by decide) ?_
      exact ret_i (post := (fun (r : Int32) (u : Unit) => (r.toInt = 1 ∧ 0 ≤ n.toInt ∧ n.toInt < 2) ∨ (r.toInt = 0 ∧ (n.toInt < 0 ∨ 2 ≤ n.toInt)))) (W1 := (fun u => [])) () hx hb hr hlocks rfl hQ hK hP hD hS ⟨by decide, by decide⟩ dX3_isSlot_14 (show ((1 : Int) = 1 ∧ 0 ≤ n.toInt ∧ n.toInt < 2) ∨ ((1 : Int) = 0 ∧ (n.toInt < 0 ∨ 2 ≤ n.toInt)) by omega)

set_option maxHeartbeats 600000 in
set_option maxRecDepth 100000 in
theorem c_X3_keep0 (l : Launch) (D : va_G) (cI cZ cM : ClassId) (h0 : Nat) (n : Int32) (tx : Nat) (le : Int32) (td : Nat) (dr : Nat) (nw : Nat) (ac : Nat) (fa : Int32) (an : Int32) (kp : Nat) (ks : Int32) (sp : Nat) (ss : Nat) (sy : Nat) (sc : Int32) (sd : Int64) (tr : Nat) (ia : Nat) (ln : Nat) (mt : Int32) (mr : Int32) (mg : Int32) (mat : Nat) (mfd : Nat) (mhd : Nat) (mFat : Nat → Int32) (mFfd : Nat → Int32) (mFhd : Nat → Int32) (sz : Nat)  : Ci l yX3_keep wsX3_keep ({ frames := 3, cells := 4, slots := 27, locals := 70 } : Room) D cI cZ cM [.ref h0, .int n] [(h0, .inr (3, [.ref tx, .int le, .ref td, .ref dr, .ref nw, .ref ac, .int fa, .int an, .ref kp, .int ks, .ref sp, .ref ss, .ref sy, .int sc, .long sd, .ref tr, .ref ia])), (kp, .inl (cM, 2, .inr (.inr (.inr (.inr (fun _ => none)))))), (nw, .inr (1, [.ref ln, .int 0, .int mt, .int mr, .int mg, .ref mat, .ref mfd, .ref mhd])), (mat, .inl (cI, 5, .inl mFat)), (mfd, .inl (cI, 7, .inl mFfd)), (mhd, .inl (cI, 7, .inl mFhd))] sz (fun (r : Int32) (u : Int32) => ((n.toInt < 0 ∨ 2 ≤ n.toInt) ∧ r.toInt = -1) ∨ (0 ≤ n.toInt ∧ n.toInt < 2 ∧ r.toInt = 0)) (fun u => [(h0, .inr (3, [.ref tx, .int le, .ref td, .ref dr, .ref nw, .ref ac, .int fa, .int an, .ref kp, .int u, .ref sp, .ref ss, .ref sy, .int sc, .long sd, .ref tr, .ref ia]))]) 4 27 := by
  refine begins (l := l) (y := yX3_keep) (ws := wsX3_keep) (av := [.ref h0, .int n]) (Qc := fun A => va_Qi (fun (r : Int32) (u : Int32) => ((n.toInt < 0 ∨ 2 ≤ n.toInt) ∧ r.toInt = -1) ∨ (0 ≤ n.toInt ∧ n.toInt < 2 ∧ r.toInt = 0)) (fun u => Wd D cI cZ cM A ((fun u => [(h0, .inr (3, [.ref tx, .int le, .ref td, .ref dr, .ref nw, .ref ac, .int fa, .int an, .ref kp, .int u, .ref sp, .ref ss, .ref sy, .int sc, .long sd, .ref tr, .ref ia]))]) u)) A) cX3_keep 2 (some .int) (by decide) rfl (Nat.le_of_ble_eq_true rfl) ?_
  intro p e s m args below meth c R Q A ls hBd hR hQ hA hS hK hP hD hl
  obtain ⟨hx, hb, hr, hts, hown, hlocks, hin, hml⟩ := hBd
  have hl : lv_has ls 2 [(0, .ref h0), (1, .int n)] := hl
  have iX3 : ∀ w ∈ wsX30, w ∈ wsX3_keep := fun _ h => List.mem_cons_of_mem _ (List.mem_append_left _ (List.mem_append_right _ h))
  have iX1 : ∀ w ∈ wsX10, w ∈ wsX3_keep := fun _ h => List.mem_cons_of_mem _ (List.mem_append_right _ h)
  refine lv_iload_n hx hb dX3_keep_0 rfl (lv_at hl 1 rfl) ?_
  refine cS_i (As := [.int n]) (rest := []) ⟨hx, hb, hml, hown, hts⟩ (c_X3_isSlot l D cI cZ cM n _ ) (va_cwS 1 hts gX3_keep_X3_isSlot rfl rfl rfl (by decide +kernel) ⟨by rw [hR]; decide, by rw [hR]; decide⟩) hK hP hD hS hA [] [0, 1, 2, 3, 4, 5] rfl rfl (by decide) (by decide) (by decide) hl.1 rfl rfl (Nat.le_of_ble_eq_true rfl) dX3_keep_1 ⟨by rw [hR]; decide, by rw [hR]; decide⟩ (fun r_1 u_2 H locs hw hP hD hS => ?_)
  have hP : va_P D vwCl [(h0, .inr (3, [.ref tx, .int le, .ref td, .ref dr, .ref nw, .ref ac, .int fa, .int an, .ref kp, .int ks, .ref sp, .ref ss, .ref sy, .int sc, .long sd, .ref tr, .ref ia])), (kp, .inl (cM, 2, .inr (.inr (.inr (.inr (fun _ => none)))))), (nw, .inr (1, [.ref ln, .int 0, .int mt, .int mr, .int mg, .ref mat, .ref mfd, .ref mhd])), (mat, .inl (cI, 5, .inl mFat)), (mfd, .inl (cI, 7, .inl mFfd)), (mhd, .inl (cI, 7, .inl mFhd))] H := hP.sub [0, 1, 2, 3, 4, 5] rfl
  have hD : va_D A [(h0, .inr (3, [.ref tx, .int le, .ref td, .ref dr, .ref nw, .ref ac, .int fa, .int an, .ref kp, .int ks, .ref sp, .ref ss, .ref sy, .int sc, .long sd, .ref tr, .ref ia])), (kp, .inl (cM, 2, .inr (.inr (.inr (.inr (fun _ => none)))))), (nw, .inr (1, [.ref ln, .int 0, .int mt, .int mr, .int mg, .ref mat, .ref mfd, .ref mhd])), (mat, .inl (cI, 5, .inl mFat)), (mfd, .inl (cI, 7, .inl mFfd)), (mhd, .inl (cI, 7, .inl mFhd))] := hD.sub [0, 1, 2, 3, 4, 5] (by decide) rfl
  refine W.widen (k := 0) (n := 0) (Nat.le_refl _) (Nat.le_refl _) ?_
  have hw : (r_1.toInt = 1 ∧ 0 ≤ n.toInt ∧ n.toInt < 2) ∨ (r_1.toInt = 0 ∧ (n.toInt < 0 ∨ 2 ≤ n.toInt)) := hw
  have hw_3 := hw
  refine lv_if_ne (tgt := 9) hx hb dX3_keep_4 (by decide) (fun c_4 => ?_) (fun c_4 => ?_)
  · have tc_4 := b_ne rfl (show (0 : Int32).toInt = 0 by decide) c_4
    refine lv_aload_n hx hb dX3_keep_9 rfl (lv_at hl 0 rfl) ?_
    refine lv_aload_n hx hb dX3_keep_10 rfl (lv_at hl 0 rfl) ?_
    refine va_get (D := D) (ci := 3) (v := .ref kp) (C := RX3) (T := TX3) (N := 17) hx hb hts iX3 hown hK hP 0 rfl rfl 8 (by decide) (hts (.fieldLink RX3 46 "PunchedTicket" "kept" "[LPunchedTicket$Moment;") (List.mem_of_getElem? (i := 1) rfl)) (fun _ h9 => h9) rfl dX3_keep_11 ?_
    refine lv_iload_n hx hb dX3_keep_14 rfl (lv_at hl 1 rfl) ?_
    refine cV_v (As := [.ref kp, .int n]) (rest := []) ⟨hx, hb, hml, hown, hts⟩ (c_X3_keepIn2 l D cI cZ cM h0 kp n tx le td dr nw ac fa an kp ks sp ss sy sc sd tr ia ln 0 mt mr mg mat mfd mhd mFat mFfd mFhd _ (show 0 ≤ n.toInt ∧ n.toInt ≤ 1 by omega)) (cwV 2 hts gX3_keep_X3_keepIn rfl rfl rfl (by decide +kernel) ⟨by rw [hR]; decide, by rw [hR]; decide⟩) hK hP hD hS hA [0, 1, 2, 3, 4, 5] [] rfl rfl (by decide) (by decide) (by decide) rfl 0 rfl hl.1 rfl rfl (Nat.le_of_ble_eq_true rfl) dX3_keep_15 ⟨by rw [hR]; decide, by rw [hR]; decide⟩ (fun u_7 H locs hw hP hD hS => ?_)
    obtain ⟨Gms_5, rfl⟩ : ∃ z, z = u_7 := ⟨_, rfl⟩
    have hP : va_P D vwCl [(h0, .inr (3, [.ref tx, .int le, .ref td, .ref dr, .ref nw, .ref ac, .int fa, .int an, .ref kp, .int ks, .ref sp, .ref ss, .ref sy, .int sc, .long sd, .ref tr, .ref ia])), (kp, .inl (cM, 2, .inr (.inr (.inr (.inr Gms_5))))), (nw, .inr (1, [.ref ln, .int 0, .int mt, .int mr, .int mg, .ref mat, .ref mfd, .ref mhd])), (mat, .inl (cI, 5, .inl mFat)), (mfd, .inl (cI, 7, .inl mFfd)), (mhd, .inl (cI, 7, .inl mFhd))] H := hP.sub [0, 1, 2, 3, 4, 5] rfl
    have hD : va_D A [(h0, .inr (3, [.ref tx, .int le, .ref td, .ref dr, .ref nw, .ref ac, .int fa, .int an, .ref kp, .int ks, .ref sp, .ref ss, .ref sy, .int sc, .long sd, .ref tr, .ref ia])), (kp, .inl (cM, 2, .inr (.inr (.inr (.inr Gms_5))))), (nw, .inr (1, [.ref ln, .int 0, .int mt, .int mr, .int mg, .ref mat, .ref mfd, .ref mhd])), (mat, .inl (cI, 5, .inl mFat)), (mfd, .inl (cI, 7, .inl mFfd)), (mhd, .inl (cI, 7, .inl mFhd))] := hD.sub [0, 1, 2, 3, 4, 5] (by decide) rfl
    refine W.widen (k := 4) (n := 27) (by omega) (by omega) ?_
    refine lv_aload_n hx hb dX3_keep_18 rfl (lv_at hl 0 rfl) ?_
    refine lv_dup hx hb dX3_keep_19 rfl ?_
    refine va_get (D := D) (ci := 3) (v := .int ks) (C := RX3) (T := TX3) (N := 17) hx hb hts iX3 hown hK hP 0 rfl rfl 9 (by decide) (hts (.fieldLink RX3 49 "PunchedTicket" "keptSlots" "I") (List.mem_of_getElem? (i := 2) rfl)) (fun _ h9 => h9) rfl dX3_keep_20 ?_
    refine lv_iconst (v := 1) hx hb dX3_keep_23 (by decide) ?_
    refine lv_iload_n hx hb dX3_keep_24 rfl (lv_at hl 1 rfl) ?_
    refine lv_ishl hx hb dX3_keep_25 ?_
    refine lv_topi (fun v_8 ev_8 => ?_)
    refine lv_ior hx hb dX3_keep_26 ?_
    refine lv_topi (fun v_9 ev_9 => ?_)
    refine va_put (D := D) (ci := 3) (v := .int v_9) (ty := .int) (C := RX3) (T := TX3) (N := 17) hx hb hts iX3 tyX3 tyX3_ok nmX3 hown hK hP hD hS 0 rfl rfl 9 (by decide) (hts (.fieldLink RX3 49 "PunchedTicket" "keptSlots" "I") (List.mem_of_getElem? (i := 2) rfl)) (fun _ h9 => h9) rfl (by decide +kernel) rfl rfl (Nat.le_of_ble_eq_true rfl) dX3_keep_27 (fun H locs hP hD hS => ?_)
    have hP : va_P D vwCl [(h0, .inr (3, [.ref tx, .int le, .ref td, .ref dr, .ref nw, .ref ac, .int fa, .int an, .ref kp, .int v_9, .ref sp, .ref ss, .ref sy, .int sc, .long sd, .ref tr, .ref ia])), (kp, .inl (cM, 2, .inr (.inr (.inr (.inr Gms_5))))), (nw, .inr (1, [.ref ln, .int 0, .int mt, .int mr, .int mg, .ref mat, .ref mfd, .ref mhd])), (mat, .inl (cI, 5, .inl mFat)), (mfd, .inl (cI, 7, .inl mFfd)), (mhd, .inl (cI, 7, .inl mFhd))] H := hP
    have hD : va_D A [(h0, .inr (3, [.ref tx, .int le, .ref td, .ref dr, .ref nw, .ref ac, .int fa, .int an, .ref kp, .int v_9, .ref sp, .ref ss, .ref sy, .int sc, .long sd, .ref tr, .ref ia])), (kp, .inl (cM, 2, .inr (.inr (.inr (.inr Gms_5))))), (nw, .inr (1, [.ref ln, .int 0, .int mt, .int mr, .int mg, .ref mat, .ref mfd, .ref mhd])), (mat, .inl (cI, 5, .inl mFat)), (mfd, .inl (cI, 7, .inl mFfd)), (mhd, .inl (cI, 7, .inl mFhd))] := hD
    refine lv_aload_n hx hb dX3_keep_30 rfl (lv_at hl 0 rfl) ?_
    refine va_get (D := D) (ci := 3) (v := .ref nw) (C := RX3) (T := TX3) (N := 17) hx hb hts iX3 hown hK hP 0 rfl rfl 4 (by decide) (hts (.fieldLink RX3 32 "PunchedTicket" "now" "LPunchedTicket$Moment;") (List.mem_of_getElem? (i := 3) rfl)) (fun _ h9 => h9) rfl dX3_keep_31 ?_
    refine va_get (D := D) (ci := 1) (v := .int 0) (C := RX1) (T := TX1) (N := 8) hx hb hts iX1 hown hK hP 2 rfl rfl 1 (by decide) (hts (.fieldLink RX3 141 "PunchedTicket$Moment" "day" "I") (List.mem_of_getElem? (i := 4) rfl)) (fun _ h9 => h9) rfl dX3_keep_34 ?_
    exact ret_i (post := (fun (r : Int32) (u : Int32) => ((n.toInt < 0 ∨ 2 ≤ n.toInt) ∧ r.toInt = -1) ∨ (0 ≤ n.toInt ∧ n.toInt < 2 ∧ r.toInt = 0))) (W1 := (fun u => [(h0, .inr (3, [.ref tx, .int le, .ref td, .ref dr, .ref nw, .ref ac, .int fa, .int an, .ref kp, .int u, .ref sp, .ref ss, .ref sy, .int sc, .long sd, .ref tr, .ref ia]))])) v_9 hx hb hr hlocks rfl hQ hK (hP.sub [0] rfl) (hD.sub [0] (by decide) rfl) hS ⟨by decide, by decide⟩ dX3_keep_37 (show ((n.toInt < 0 ∨ 2 ≤ n.toInt) ∧ (0 : Int) = -1) ∨ (0 ≤ n.toInt ∧ n.toInt < 2 ∧ (0 : Int) = 0) by omega)
  · have tc_4 := b_eq rfl (show (0 : Int32).toInt = 0 by decide) c_4
    refine lv_iconst (v := (-1)) hx hb dX3_keep_7 (by decide) ?_
    exact ret_i (post := (fun (r : Int32) (u : Int32) => ((n.toInt < 0 ∨ 2 ≤ n.toInt) ∧ r.toInt = -1) ∨ (0 ≤ n.toInt ∧ n.toInt < 2 ∧ r.toInt = 0))) (W1 := (fun u => [(h0, .inr (3, [.ref tx, .int le, .ref td, .ref dr, .ref nw, .ref ac, .int fa, .int an, .ref kp, .int u, .ref sp, .ref ss, .ref sy, .int sc, .long sd, .ref tr, .ref ia]))])) ks hx hb hr hlocks rfl hQ hK (hP.sub [0] rfl) (hD.sub [0] (by decide) rfl) hS ⟨by decide, by decide⟩ dX3_keep_8 (show ((n.toInt < 0 ∨ 2 ≤ n.toInt) ∧ (-1 : Int) = -1) ∨ (0 ≤ n.toInt ∧ n.toInt < 2 ∧ (-1 : Int) = 0) by omega)

set_option maxHeartbeats 600000 in
set_option maxRecDepth 100000 in
theorem c_X3_again0 (l : Launch) (D : va_G) (cI cZ cM : ClassId) (h0 : Nat) (n : Int32) (tx : Nat) (le : Int32) (td : Nat) (dr : Nat) (nw : Nat) (ac : Nat) (fa : Int32) (an : Int32) (kp : Nat) (ks : Int32) (sp : Nat) (ss : Nat) (sy : Nat) (sc : Int32) (sd : Int64) (tr : Nat) (ia : Nat) (sz : Nat)  : Ci l yX3_again wsX3_again ({ frames := 1, cells := 0, slots := 0, locals := 20 } : Room) D cI cZ cM [.ref h0, .int n] [(h0, .inr (3, [.ref tx, .int le, .ref td, .ref dr, .ref nw, .ref ac, .int fa, .int an, .ref kp, .int ks, .ref sp, .ref ss, .ref sy, .int sc, .long sd, .ref tr, .ref ia])), (kp, .inl (cM, 2, .inr (.inr (.inr (.inr (fun _ => none))))))] sz (fun (r : Int32) (u : Unit) => ((n.toInt < 0 ∨ 2 ≤ n.toInt) ∧ r.toInt = -1) ∨ (0 ≤ n.toInt ∧ n.toInt < 2 ∧ r.toInt = -3)) (fun u => [(h0, .inr (3, [.ref tx, .int le, .ref td, .ref dr, .ref nw, .ref ac, .int fa, .int an, .ref kp, .int ks, .ref sp, .ref ss, .ref sy, .int sc, .long sd, .ref tr, .ref ia])), (kp, .inl (cM, 2, .inr (.inr (.inr (.inr (fun _ => none))))))]) 0 0 := by
  refine begins (l := l) (y := yX3_again) (ws := wsX3_again) (av := [.ref h0, .int n]) (Qc := fun A => va_Qi (fun (r : Int32) (u : Unit) => ((n.toInt < 0 ∨ 2 ≤ n.toInt) ∧ r.toInt = -1) ∨ (0 ≤ n.toInt ∧ n.toInt < 2 ∧ r.toInt = -3)) (fun u => Wd D cI cZ cM A ((fun u => [(h0, .inr (3, [.ref tx, .int le, .ref td, .ref dr, .ref nw, .ref ac, .int fa, .int an, .ref kp, .int ks, .ref sp, .ref ss, .ref sy, .int sc, .long sd, .ref tr, .ref ia])), (kp, .inl (cM, 2, .inr (.inr (.inr (.inr (fun _ => none))))))]) u)) A) cX3_again 3 (some .int) (by decide) rfl (Nat.le_of_ble_eq_true rfl) ?_
  intro p e s m args below meth c R Q A ls hBd hR hQ hA hS hK hP hD hl
  obtain ⟨hx, hb, hr, hts, hown, hlocks, hin, hml⟩ := hBd
  have hl : lv_has ls 3 [(0, .ref h0), (1, .int n)] := hl
  have iX3 : ∀ w ∈ wsX30, w ∈ wsX3_again := fun _ h => List.mem_cons_of_mem _ (List.mem_append_left _ (List.mem_append_right _ h))
  have iX1 : ∀ w ∈ wsX10, w ∈ wsX3_again := fun _ h => List.mem_cons_of_mem _ (List.mem_append_right _ h)
  refine lv_iload_n hx hb dX3_again_0 rfl (lv_at hl 1 rfl) ?_
  refine cS_i (As := [.int n]) (rest := []) ⟨hx, hb, hml, hown, hts⟩ (c_X3_isSlot l D cI cZ cM n _ ) (va_cwS 1 hts gX3_again_X3_isSlot rfl rfl rfl (by decide +kernel) ⟨by rw [hR]; decide, by rw [hR]; decide⟩) hK hP hD hS hA [] [0, 1] rfl rfl (by decide) (by decide) (by decide) hl.1 rfl rfl (Nat.le_of_ble_eq_true rfl) dX3_again_1 ⟨by rw [hR]; decide, by rw [hR]; decide⟩ (fun r_1 u_2 H locs hw hP hD hS => ?_)
  have hP : va_P D vwCl [(h0, .inr (3, [.ref tx, .int le, .ref td, .ref dr, .ref nw, .ref ac, .int fa, .int an, .ref kp, .int ks, .ref sp, .ref ss, .ref sy, .int sc, .long sd, .ref tr, .ref ia])), (kp, .inl (cM, 2, .inr (.inr (.inr (.inr (fun _ => none))))))] H := hP.sub [0, 1] rfl
  have hD : va_D A [(h0, .inr (3, [.ref tx, .int le, .ref td, .ref dr, .ref nw, .ref ac, .int fa, .int an, .ref kp, .int ks, .ref sp, .ref ss, .ref sy, .int sc, .long sd, .ref tr, .ref ia])), (kp, .inl (cM, 2, .inr (.inr (.inr (.inr (fun _ => none))))))] := hD.sub [0, 1] (by decide) rfl
  refine W.widen (k := 0) (n := 0) (Nat.le_refl _) (Nat.le_refl _) ?_
  have hw : (r_1.toInt = 1 ∧ 0 ≤ n.toInt ∧ n.toInt < 2) ∨ (r_1.toInt = 0 ∧ (n.toInt < 0 ∨ 2 ≤ n.toInt)) := hw
  have hw_3 := hw
  refine lv_if_ne (tgt := 9) hx hb dX3_again_4 (by decide) (fun c_4 => ?_) (fun c_4 => ?_)
  · have tc_4 := b_ne rfl (show (0 : Int32).toInt = 0 by decide) c_4
    refine lv_aload_n hx hb dX3_again_9 rfl (lv_at hl 0 rfl) ?_
    refine va_get (D := D) (ci := 3) (v := .ref kp) (C := RX3) (T := TX3) (N := 17) hx hb hts iX3 hown hK hP 0 rfl rfl 8 (by decide) (hts (.fieldLink RX3 46 "PunchedTicket" "kept" "[LPunchedTicket$Moment;") (List.mem_of_getElem? (i := 1) rfl)) (fun _ h9 => h9) rfl dX3_again_10 ?_
    refine lv_iload_n hx hb dX3_again_13 rfl (lv_at hl 1 rfl) ?_
    refine va_aldq hx hb hK hP 1 2 rfl rfl (vp_in_iff.mpr ⟨by omega, by omega⟩) dX3_again_14 ?_
    refine W.eq (g2 := F0 m 15 ls [.null]) rfl ?_
    refine lv_astore_nN (lv' := [(2, .null), (0, .ref h0), (1, .int n)]) hx hb dX3_again_15 rfl hl (by decide) rfl (fun ls hl => ?_)
    refine lv_aload_n hx hb dX3_again_16 rfl (lv_at hl 1 rfl) ?_
    refine va_get (D := D) (ci := 3) (v := .int ks) (C := RX3) (T := TX3) (N := 17) hx hb hts iX3 hown hK hP 0 rfl rfl 9 (by decide) (hts (.fieldLink RX3 49 "PunchedTicket" "keptSlots" "I") (List.mem_of_getElem? (i := 2) rfl)) (fun _ h9 => h9) rfl dX3_again_17 ?_
    refine lv_iload_n hx hb dX3_again_20 rfl (lv_at hl 2 rfl) ?_
    refine lv_ishr hx hb dX3_again_21 ?_
    refine lv_topi (fun v_5 ev_5 => ?_)
    refine lv_iconst (v := 1) hx hb dX3_again_22 (by decide) ?_
    refine lv_iand hx hb dX3_again_23 ?_
    refine lv_topi (fun v_6 ev_6 => ?_)
    refine lv_if_eq (tgt := 31) hx hb dX3_again_24 (by decide) (fun c_7 => ?_) (fun c_7 => ?_)
    · have tc_7 := b_eq rfl (show (0 : Int32).toInt = 0 by decide) c_7
      refine lv_bipush (v := (-3)) hx hb dX3_again_31 (by decide) ?_
      exact ret_i (post := (fun (r : Int32) (u : Unit) => ((n.toInt < 0 ∨ 2 ≤ n.toInt) ∧ r.toInt = -1) ∨ (0 ≤ n.toInt ∧ n.toInt < 2 ∧ r.toInt = -3))) (W1 := (fun u => [(h0, .inr (3, [.ref tx, .int le, .ref td, .ref dr, .ref nw, .ref ac, .int fa, .int an, .ref kp, .int ks, .ref sp, .ref ss, .ref sy, .int sc, .long sd, .ref tr, .ref ia])), (kp, .inl (cM, 2, .inr (.inr (.inr (.inr (fun _ => none))))))])) () hx hb hr hlocks rfl hQ hK hP hD hS ⟨by decide, by decide⟩ dX3_again_33 (show ((n.toInt < 0 ∨ 2 ≤ n.toInt) ∧ (-3 : Int) = -1) ∨ (0 ≤ n.toInt ∧ n.toInt < 2 ∧ (-3 : Int) = -3) by omega)
    · have tc_7 := b_ne rfl (show (0 : Int32).toInt = 0 by decide) c_7
      refine lv_aload_nN hx hb dX3_again_27 rfl (lv_at hl 0 rfl) ?_
      refine lv_ifnonnullN hx hb dX3_again_28 ?_
      refine lv_bipush (v := (-3)) hx hb dX3_again_31 (by decide) ?_
      exact ret_i (post := (fun (r : Int32) (u : Unit) => ((n.toInt < 0 ∨ 2 ≤ n.toInt) ∧ r.toInt = -1) ∨ (0 ≤ n.toInt ∧ n.toInt < 2 ∧ r.toInt = -3))) (W1 := (fun u => [(h0, .inr (3, [.ref tx, .int le, .ref td, .ref dr, .ref nw, .ref ac, .int fa, .int an, .ref kp, .int ks, .ref sp, .ref ss, .ref sy, .int sc, .long sd, .ref tr, .ref ia])), (kp, .inl (cM, 2, .inr (.inr (.inr (.inr (fun _ => none))))))])) () hx hb hr hlocks rfl hQ hK hP hD hS ⟨by decide, by decide⟩ dX3_again_33 (show ((n.toInt < 0 ∨ 2 ≤ n.toInt) ∧ (-3 : Int) = -1) ∨ (0 ≤ n.toInt ∧ n.toInt < 2 ∧ (-3 : Int) = -3) by omega)
  · have tc_4 := b_eq rfl (show (0 : Int32).toInt = 0 by decide) c_4
    refine lv_iconst (v := (-1)) hx hb dX3_again_7 (by decide) ?_
    exact ret_i (post := (fun (r : Int32) (u : Unit) => ((n.toInt < 0 ∨ 2 ≤ n.toInt) ∧ r.toInt = -1) ∨ (0 ≤ n.toInt ∧ n.toInt < 2 ∧ r.toInt = -3))) (W1 := (fun u => [(h0, .inr (3, [.ref tx, .int le, .ref td, .ref dr, .ref nw, .ref ac, .int fa, .int an, .ref kp, .int ks, .ref sp, .ref ss, .ref sy, .int sc, .long sd, .ref tr, .ref ia])), (kp, .inl (cM, 2, .inr (.inr (.inr (.inr (fun _ => none))))))])) () hx hb hr hlocks rfl hQ hK hP hD hS ⟨by decide, by decide⟩ dX3_again_8 (show ((n.toInt < 0 ∨ 2 ≤ n.toInt) ∧ (-1 : Int) = -1) ∨ (0 ≤ n.toInt ∧ n.toInt < 2 ∧ (-1 : Int) = -3) by omega)

set_option maxHeartbeats 600000 in
set_option maxRecDepth 100000 in
theorem c_X3_count0 (l : Launch) (D : va_G) (cI cZ cM : ClassId) (h0 : Nat) (n : Int32) (tx : Nat) (td : Nat) (dr : Nat) (nw : Nat) (ac : Nat) (fa : Int32) (kp : Nat) (ks : Int32) (sp : Nat) (ss : Nat) (sy : Nat) (sd : Int64) (tr : Nat) (ia : Nat) (mt : Int32) (mr : Int32) (mat : Nat) (mfd : Nat) (mhd : Nat) (lho : Nat) (lli : Nat) (lki : Nat) (lfd : Nat) (lfr : Nat) (lto : Nat) (lse : Nat) (lhl : Nat) (mFat : Nat → Int32) (lFli : Nat → Int32) (sz : Nat)  : Ci l yX3_count wsX3_count ({ frames := 1, cells := 0, slots := 0, locals := 22 } : Room) D cI cZ cM [.ref h0, .int n] [(h0, .inr (3, [.ref tx, .int 0, .ref td, .ref dr, .ref nw, .ref ac, .int fa, .int 0, .ref kp, .int ks, .ref sp, .ref ss, .ref sy, .int 0, .long sd, .ref tr, .ref ia])), (nw, .inr (1, [.ref td, .int 0, .int mt, .int mr, .int 0, .ref mat, .ref mfd, .ref mhd])), (td, .inr (0, [.int 0, .int 0, .ref lho, .ref lli, .ref lki, .ref lfd, .ref lfr, .ref lto, .ref lse, .ref lhl])), (mat, .inl (cI, 5, .inl mFat)), (lli, .inl (cI, 5, .inl lFli))] sz (fun (r : Int32) (u : Unit) => ((n.toInt < 0 ∨ 7 < n.toInt) ∧ r.toInt = -2) ∨ (0 ≤ n.toInt ∧ n.toInt ≤ 7 ∧ r.toInt = 0)) (fun u => [(h0, .inr (3, [.ref tx, .int 0, .ref td, .ref dr, .ref nw, .ref ac, .int fa, .int 0, .ref kp, .int ks, .ref sp, .ref ss, .ref sy, .int 0, .long sd, .ref tr, .ref ia])), (nw, .inr (1, [.ref td, .int 0, .int mt, .int mr, .int 0, .ref mat, .ref mfd, .ref mhd])), (td, .inr (0, [.int 0, .int 0, .ref lho, .ref lli, .ref lki, .ref lfd, .ref lfr, .ref lto, .ref lse, .ref lhl])), (mat, .inl (cI, 5, .inl mFat)), (lli, .inl (cI, 5, .inl lFli))]) 0 0 := by
  refine begins (l := l) (y := yX3_count) (ws := wsX3_count) (av := [.ref h0, .int n]) (Qc := fun A => va_Qi (fun (r : Int32) (u : Unit) => ((n.toInt < 0 ∨ 7 < n.toInt) ∧ r.toInt = -2) ∨ (0 ≤ n.toInt ∧ n.toInt ≤ 7 ∧ r.toInt = 0)) (fun u => Wd D cI cZ cM A ((fun u => [(h0, .inr (3, [.ref tx, .int 0, .ref td, .ref dr, .ref nw, .ref ac, .int fa, .int 0, .ref kp, .int ks, .ref sp, .ref ss, .ref sy, .int 0, .long sd, .ref tr, .ref ia])), (nw, .inr (1, [.ref td, .int 0, .int mt, .int mr, .int 0, .ref mat, .ref mfd, .ref mhd])), (td, .inr (0, [.int 0, .int 0, .ref lho, .ref lli, .ref lki, .ref lfd, .ref lfr, .ref lto, .ref lse, .ref lhl])), (mat, .inl (cI, 5, .inl mFat)), (lli, .inl (cI, 5, .inl lFli))]) u)) A) cX3_count 2 (some .int) (by decide) rfl (Nat.le_of_ble_eq_true rfl) ?_
  intro p e s m args below meth c R Q A ls hBd hR hQ hA hS hK hP hD hl
  obtain ⟨hx, hb, hr, hts, hown, hlocks, hin, hml⟩ := hBd
  have hl : lv_has ls 2 [(0, .ref h0), (1, .int n)] := hl
  have iX3 : ∀ w ∈ wsX30, w ∈ wsX3_count := fun _ h => List.mem_cons_of_mem _ (List.mem_append_left _ (List.mem_append_left _ (List.mem_append_right _ h)))
  have iX0 : ∀ w ∈ wsX00, w ∈ wsX3_count := fun _ h => List.mem_cons_of_mem _ (List.mem_append_left _ (List.mem_append_right _ h))
  have iX1 : ∀ w ∈ wsX10, w ∈ wsX3_count := fun _ h => List.mem_cons_of_mem _ (List.mem_append_right _ h)
  refine lv_iload_n hx hb dX3_count_0 rfl (lv_at hl 1 rfl) ?_
  by_cases c_1 : n.toInt < 0 ∨ 7 < n.toInt
  · refine lv_tableOut (tgt := 103) hx hb dX3_count_1 c_1 (by decide) ?_
    refine lv_bipush (v := (-2)) hx hb dX3_count_103 (by decide) ?_
    exact ret_i (post := (fun (r : Int32) (u : Unit) => ((n.toInt < 0 ∨ 7 < n.toInt) ∧ r.toInt = -2) ∨ (0 ≤ n.toInt ∧ n.toInt ≤ 7 ∧ r.toInt = 0))) (W1 := (fun u => [(h0, .inr (3, [.ref tx, .int 0, .ref td, .ref dr, .ref nw, .ref ac, .int fa, .int 0, .ref kp, .int ks, .ref sp, .ref ss, .ref sy, .int 0, .long sd, .ref tr, .ref ia])), (nw, .inr (1, [.ref td, .int 0, .int mt, .int mr, .int 0, .ref mat, .ref mfd, .ref mhd])), (td, .inr (0, [.int 0, .int 0, .ref lho, .ref lli, .ref lki, .ref lfd, .ref lfr, .ref lto, .ref lse, .ref lhl])), (mat, .inl (cI, 5, .inl mFat)), (lli, .inl (cI, 5, .inl lFli))])) () hx hb hr hlocks rfl hQ hK hP hD hS ⟨by decide, by decide⟩ dX3_count_105 (show ((n.toInt < 0 ∨ 7 < n.toInt) ∧ (-2 : Int) = -2) ∨ (0 ≤ n.toInt ∧ n.toInt ≤ 7 ∧ (-2 : Int) = 0) by omega)
  · rcases (show n.toInt = 0 ∨ n.toInt = 1 ∨ n.toInt = 2 ∨ n.toInt = 3 ∨ n.toInt = 4 ∨ n.toInt = 5 ∨ n.toInt = 6 ∨ n.toInt = 7 by omega) with c_1i | c_1i | c_1i | c_1i | c_1i | c_1i | c_1i | c_1i
    · refine lv_tableIn (tgt := 48) (off := 47) hx hb dX3_count_1 (by omega) (by omega) (by rw [c_1i]; rfl) (by decide) ?_
      refine lv_aload_n hx hb dX3_count_48 rfl (lv_at hl 0 rfl) ?_
      refine va_get (D := D) (ci := 3) (v := .int 0) (C := RX3) (T := TX3) (N := 17) hx hb hts iX3 hown hK hP 0 rfl rfl 1 (by decide) (hts (.fieldLink RX3 13 "PunchedTicket" "letters" "I") (List.mem_of_getElem? (i := 1) rfl)) (fun _ h9 => h9) rfl dX3_count_49 ?_
      exact ret_i (post := (fun (r : Int32) (u : Unit) => ((n.toInt < 0 ∨ 7 < n.toInt) ∧ r.toInt = -2) ∨ (0 ≤ n.toInt ∧ n.toInt ≤ 7 ∧ r.toInt = 0))) (W1 := (fun u => [(h0, .inr (3, [.ref tx, .int 0, .ref td, .ref dr, .ref nw, .ref ac, .int fa, .int 0, .ref kp, .int ks, .ref sp, .ref ss, .ref sy, .int 0, .long sd, .ref tr, .ref ia])), (nw, .inr (1, [.ref td, .int 0, .int mt, .int mr, .int 0, .ref mat, .ref mfd, .ref mhd])), (td, .inr (0, [.int 0, .int 0, .ref lho, .ref lli, .ref lki, .ref lfd, .ref lfr, .ref lto, .ref lse, .ref lhl])), (mat, .inl (cI, 5, .inl mFat)), (lli, .inl (cI, 5, .inl lFli))])) () hx hb hr hlocks rfl hQ hK hP hD hS ⟨by decide, by decide⟩ dX3_count_52 (show ((n.toInt < 0 ∨ 7 < n.toInt) ∧ (0 : Int) = -2) ∨ (0 ≤ n.toInt ∧ n.toInt ≤ 7 ∧ (0 : Int) = 0) by omega)
    · refine lv_tableIn (tgt := 53) (off := 52) hx hb dX3_count_1 (by omega) (by omega) (by rw [c_1i]; rfl) (by decide) ?_
      refine lv_aload_n hx hb dX3_count_53 rfl (lv_at hl 0 rfl) ?_
      refine va_get (D := D) (ci := 3) (v := .ref td) (C := RX3) (T := TX3) (N := 17) hx hb hts iX3 hown hK hP 0 rfl rfl 2 (by decide) (hts (.fieldLink RX3 20 "PunchedTicket" "told" "LPunchedTicket$Line;") (List.mem_of_getElem? (i := 2) rfl)) (fun _ h9 => h9) rfl dX3_count_54 ?_
      refine va_get (D := D) (ci := 0) (v := .int 0) (C := RX0) (T := TX0) (N := 10) hx hb hts iX0 hown hK hP 2 rfl rfl 0 (by decide) (hts (.fieldLink RX3 91 "PunchedTicket$Line" "people" "I") (List.mem_of_getElem? (i := 3) rfl)) (fun _ h9 => h9) rfl dX3_count_57 ?_
      exact ret_i (post := (fun (r : Int32) (u : Unit) => ((n.toInt < 0 ∨ 7 < n.toInt) ∧ r.toInt = -2) ∨ (0 ≤ n.toInt ∧ n.toInt ≤ 7 ∧ r.toInt = 0))) (W1 := (fun u => [(h0, .inr (3, [.ref tx, .int 0, .ref td, .ref dr, .ref nw, .ref ac, .int fa, .int 0, .ref kp, .int ks, .ref sp, .ref ss, .ref sy, .int 0, .long sd, .ref tr, .ref ia])), (nw, .inr (1, [.ref td, .int 0, .int mt, .int mr, .int 0, .ref mat, .ref mfd, .ref mhd])), (td, .inr (0, [.int 0, .int 0, .ref lho, .ref lli, .ref lki, .ref lfd, .ref lfr, .ref lto, .ref lse, .ref lhl])), (mat, .inl (cI, 5, .inl mFat)), (lli, .inl (cI, 5, .inl lFli))])) () hx hb hr hlocks rfl hQ hK hP hD hS ⟨by decide, by decide⟩ dX3_count_60 (show ((n.toInt < 0 ∨ 7 < n.toInt) ∧ (0 : Int) = -2) ∨ (0 ≤ n.toInt ∧ n.toInt ≤ 7 ∧ (0 : Int) = 0) by omega)
    · refine lv_tableIn (tgt := 61) (off := 60) hx hb dX3_count_1 (by omega) (by omega) (by rw [c_1i]; rfl) (by decide) ?_
      refine lv_aload_n hx hb dX3_count_61 rfl (lv_at hl 0 rfl) ?_
      refine va_get (D := D) (ci := 3) (v := .ref td) (C := RX3) (T := TX3) (N := 17) hx hb hts iX3 hown hK hP 0 rfl rfl 2 (by decide) (hts (.fieldLink RX3 20 "PunchedTicket" "told" "LPunchedTicket$Line;") (List.mem_of_getElem? (i := 2) rfl)) (fun _ h9 => h9) rfl dX3_count_62 ?_
      refine va_get (D := D) (ci := 0) (v := .int 0) (C := RX0) (T := TX0) (N := 10) hx hb hts iX0 hown hK hP 2 rfl rfl 1 (by decide) (hts (.fieldLink RX3 94 "PunchedTicket$Line" "tickets" "I") (List.mem_of_getElem? (i := 4) rfl)) (fun _ h9 => h9) rfl dX3_count_65 ?_
      exact ret_i (post := (fun (r : Int32) (u : Unit) => ((n.toInt < 0 ∨ 7 < n.toInt) ∧ r.toInt = -2) ∨ (0 ≤ n.toInt ∧ n.toInt ≤ 7 ∧ r.toInt = 0))) (W1 := (fun u => [(h0, .inr (3, [.ref tx, .int 0, .ref td, .ref dr, .ref nw, .ref ac, .int fa, .int 0, .ref kp, .int ks, .ref sp, .ref ss, .ref sy, .int 0, .long sd, .ref tr, .ref ia])), (nw, .inr (1, [.ref td, .int 0, .int mt, .int mr, .int 0, .ref mat, .ref mfd, .ref mhd])), (td, .inr (0, [.int 0, .int 0, .ref lho, .ref lli, .ref lki, .ref lfd, .ref lfr, .ref lto, .ref lse, .ref lhl])), (mat, .inl (cI, 5, .inl mFat)), (lli, .inl (cI, 5, .inl lFli))])) () hx hb hr hlocks rfl hQ hK hP hD hS ⟨by decide, by decide⟩ dX3_count_68 (show ((n.toInt < 0 ∨ 7 < n.toInt) ∧ (0 : Int) = -2) ∨ (0 ≤ n.toInt ∧ n.toInt ≤ 7 ∧ (0 : Int) = 0) by omega)
    · refine lv_tableIn (tgt := 69) (off := 68) hx hb dX3_count_1 (by omega) (by omega) (by rw [c_1i]; rfl) (by decide) ?_
      refine lv_aload_n hx hb dX3_count_69 rfl (lv_at hl 0 rfl) ?_
      refine va_get (D := D) (ci := 3) (v := .ref nw) (C := RX3) (T := TX3) (N := 17) hx hb hts iX3 hown hK hP 0 rfl rfl 4 (by decide) (hts (.fieldLink RX3 32 "PunchedTicket" "now" "LPunchedTicket$Moment;") (List.mem_of_getElem? (i := 5) rfl)) (fun _ h9 => h9) rfl dX3_count_70 ?_
      refine va_get (D := D) (ci := 1) (v := .int 0) (C := RX1) (T := TX1) (N := 8) hx hb hts iX1 hown hK hP 1 rfl rfl 1 (by decide) (hts (.fieldLink RX3 141 "PunchedTicket$Moment" "day" "I") (List.mem_of_getElem? (i := 6) rfl)) (fun _ h9 => h9) rfl dX3_count_73 ?_
      exact ret_i (post := (fun (r : Int32) (u : Unit) => ((n.toInt < 0 ∨ 7 < n.toInt) ∧ r.toInt = -2) ∨ (0 ≤ n.toInt ∧ n.toInt ≤ 7 ∧ r.toInt = 0))) (W1 := (fun u => [(h0, .inr (3, [.ref tx, .int 0, .ref td, .ref dr, .ref nw, .ref ac, .int fa, .int 0, .ref kp, .int ks, .ref sp, .ref ss, .ref sy, .int 0, .long sd, .ref tr, .ref ia])), (nw, .inr (1, [.ref td, .int 0, .int mt, .int mr, .int 0, .ref mat, .ref mfd, .ref mhd])), (td, .inr (0, [.int 0, .int 0, .ref lho, .ref lli, .ref lki, .ref lfd, .ref lfr, .ref lto, .ref lse, .ref lhl])), (mat, .inl (cI, 5, .inl mFat)), (lli, .inl (cI, 5, .inl lFli))])) () hx hb hr hlocks rfl hQ hK hP hD hS ⟨by decide, by decide⟩ dX3_count_76 (show ((n.toInt < 0 ∨ 7 < n.toInt) ∧ (0 : Int) = -2) ∨ (0 ≤ n.toInt ∧ n.toInt ≤ 7 ∧ (0 : Int) = 0) by omega)
    · refine lv_tableIn (tgt := 77) (off := 76) hx hb dX3_count_1 (by omega) (by omega) (by rw [c_1i]; rfl) (by decide) ?_
      refine lv_aload_n hx hb dX3_count_77 rfl (lv_at hl 0 rfl) ?_
      refine va_get (D := D) (ci := 3) (v := .ref nw) (C := RX3) (T := TX3) (N := 17) hx hb hts iX3 hown hK hP 0 rfl rfl 4 (by decide) (hts (.fieldLink RX3 32 "PunchedTicket" "now" "LPunchedTicket$Moment;") (List.mem_of_getElem? (i := 5) rfl)) (fun _ h9 => h9) rfl dX3_count_78 ?_
      refine va_get (D := D) (ci := 1) (v := .int 0) (C := RX1) (T := TX1) (N := 8) hx hb hts iX1 hown hK hP 1 rfl rfl 4 (by decide) (hts (.fieldLink RX3 158 "PunchedTicket$Moment" "gone" "I") (List.mem_of_getElem? (i := 7) rfl)) (fun _ h9 => h9) rfl dX3_count_81 ?_
      exact ret_i (post := (fun (r : Int32) (u : Unit) => ((n.toInt < 0 ∨ 7 < n.toInt) ∧ r.toInt = -2) ∨ (0 ≤ n.toInt ∧ n.toInt ≤ 7 ∧ r.toInt = 0))) (W1 := (fun u => [(h0, .inr (3, [.ref tx, .int 0, .ref td, .ref dr, .ref nw, .ref ac, .int fa, .int 0, .ref kp, .int ks, .ref sp, .ref ss, .ref sy, .int 0, .long sd, .ref tr, .ref ia])), (nw, .inr (1, [.ref td, .int 0, .int mt, .int mr, .int 0, .ref mat, .ref mfd, .ref mhd])), (td, .inr (0, [.int 0, .int 0, .ref lho, .ref lli, .ref lki, .ref lfd, .ref lfr, .ref lto, .ref lse, .ref lhl])), (mat, .inl (cI, 5, .inl mFat)), (lli, .inl (cI, 5, .inl lFli))])) () hx hb hr hlocks rfl hQ hK hP hD hS ⟨by decide, by decide⟩ dX3_count_84 (show ((n.toInt < 0 ∨ 7 < n.toInt) ∧ (0 : Int) = -2) ∨ (0 ≤ n.toInt ∧ n.toInt ≤ 7 ∧ (0 : Int) = 0) by omega)
    · refine lv_tableIn (tgt := 85) (off := 84) hx hb dX3_count_1 (by omega) (by omega) (by rw [c_1i]; rfl) (by decide) ?_
      refine lv_aload_n hx hb dX3_count_85 rfl (lv_at hl 0 rfl) ?_
      refine va_get (D := D) (ci := 3) (v := .ref nw) (C := RX3) (T := TX3) (N := 17) hx hb hts iX3 hown hK hP 0 rfl rfl 4 (by decide) (hts (.fieldLink RX3 32 "PunchedTicket" "now" "LPunchedTicket$Moment;") (List.mem_of_getElem? (i := 5) rfl)) (fun _ h9 => h9) rfl dX3_count_86 ?_
      refine cV_i (As := []) (rest := []) ⟨hx, hb, hml, hown, hts⟩ (c_X1_gladNow l D cI cZ cM nw td 0 mt mr 0 mat mfd mhd 0 0 lho lli lki lfd lfr lto lse lhl lFli mFat _ (by decide)) (cwV 0 hts gX3_count_X1_gladNow rfl rfl rfl (by decide +kernel) ⟨by rw [hR]; decide, by rw [hR]; decide⟩) hK hP hD hS hA [1, 2, 4, 3] [0] rfl rfl (by decide) (by decide) (by decide) rfl 1 rfl hl.1 rfl rfl (Nat.le_of_ble_eq_true rfl) dX3_count_89 ⟨by rw [hR]; decide, by rw [hR]; decide⟩ (fun r_2 u_3 H locs hw hP hD hS => ?_)
      have hP : va_P D vwCl [(h0, .inr (3, [.ref tx, .int 0, .ref td, .ref dr, .ref nw, .ref ac, .int fa, .int 0, .ref kp, .int ks, .ref sp, .ref ss, .ref sy, .int 0, .long sd, .ref tr, .ref ia])), (nw, .inr (1, [.ref td, .int 0, .int mt, .int mr, .int 0, .ref mat, .ref mfd, .ref mhd])), (td, .inr (0, [.int 0, .int 0, .ref lho, .ref lli, .ref lki, .ref lfd, .ref lfr, .ref lto, .ref lse, .ref lhl])), (mat, .inl (cI, 5, .inl mFat)), (lli, .inl (cI, 5, .inl lFli))] H := hP.sub [0, 1, 2, 4, 3] rfl
      have hD : va_D A [(h0, .inr (3, [.ref tx, .int 0, .ref td, .ref dr, .ref nw, .ref ac, .int fa, .int 0, .ref kp, .int ks, .ref sp, .ref ss, .ref sy, .int 0, .long sd, .ref tr, .ref ia])), (nw, .inr (1, [.ref td, .int 0, .int mt, .int mr, .int 0, .ref mat, .ref mfd, .ref mhd])), (td, .inr (0, [.int 0, .int 0, .ref lho, .ref lli, .ref lki, .ref lfd, .ref lfr, .ref lto, .ref lse, .ref lhl])), (mat, .inl (cI, 5, .inl mFat)), (lli, .inl (cI, 5, .inl lFli))] := hD.sub [0, 1, 2, 4, 3] (by decide) rfl
      refine W.widen (k := 0) (n := 0) (Nat.le_refl _) (Nat.le_refl _) ?_
      have hw : 0 ≤ r_2.toInt ∧ r_2.toInt ≤ (0 : Int) := hw
      have hw_4 := hw
      obtain ⟨hw_4a, hw_4b⟩ := hw_4
      exact ret_i (post := (fun (r : Int32) (u : Unit) => ((n.toInt < 0 ∨ 7 < n.toInt) ∧ r.toInt = -2) ∨ (0 ≤ n.toInt ∧ n.toInt ≤ 7 ∧ r.toInt = 0))) (W1 := (fun u => [(h0, .inr (3, [.ref tx, .int 0, .ref td, .ref dr, .ref nw, .ref ac, .int fa, .int 0, .ref kp, .int ks, .ref sp, .ref ss, .ref sy, .int 0, .long sd, .ref tr, .ref ia])), (nw, .inr (1, [.ref td, .int 0, .int mt, .int mr, .int 0, .ref mat, .ref mfd, .ref mhd])), (td, .inr (0, [.int 0, .int 0, .ref lho, .ref lli, .ref lki, .ref lfd, .ref lfr, .ref lto, .ref lse, .ref lhl])), (mat, .inl (cI, 5, .inl mFat)), (lli, .inl (cI, 5, .inl lFli))])) () hx hb hr hlocks rfl hQ hK hP hD hS ⟨by decide, by decide⟩ dX3_count_92 (show ((n.toInt < 0 ∨ 7 < n.toInt) ∧ r_2.toInt = -2) ∨ (0 ≤ n.toInt ∧ n.toInt ≤ 7 ∧ r_2.toInt = 0) by omega)
    · refine lv_tableIn (tgt := 93) (off := 92) hx hb dX3_count_1 (by omega) (by omega) (by rw [c_1i]; rfl) (by decide) ?_
      refine lv_aload_n hx hb dX3_count_93 rfl (lv_at hl 0 rfl) ?_
      refine va_get (D := D) (ci := 3) (v := .int 0) (C := RX3) (T := TX3) (N := 17) hx hb hts iX3 hown hK hP 0 rfl rfl 7 (by decide) (hts (.fieldLink RX3 43 "PunchedTicket" "actsInRow" "I") (List.mem_of_getElem? (i := 8) rfl)) (fun _ h9 => h9) rfl dX3_count_94 ?_
      exact ret_i (post := (fun (r : Int32) (u : Unit) => ((n.toInt < 0 ∨ 7 < n.toInt) ∧ r.toInt = -2) ∨ (0 ≤ n.toInt ∧ n.toInt ≤ 7 ∧ r.toInt = 0))) (W1 := (fun u => [(h0, .inr (3, [.ref tx, .int 0, .ref td, .ref dr, .ref nw, .ref ac, .int fa, .int 0, .ref kp, .int ks, .ref sp, .ref ss, .ref sy, .int 0, .long sd, .ref tr, .ref ia])), (nw, .inr (1, [.ref td, .int 0, .int mt, .int mr, .int 0, .ref mat, .ref mfd, .ref mhd])), (td, .inr (0, [.int 0, .int 0, .ref lho, .ref lli, .ref lki, .ref lfd, .ref lfr, .ref lto, .ref lse, .ref lhl])), (mat, .inl (cI, 5, .inl mFat)), (lli, .inl (cI, 5, .inl lFli))])) () hx hb hr hlocks rfl hQ hK hP hD hS ⟨by decide, by decide⟩ dX3_count_97 (show ((n.toInt < 0 ∨ 7 < n.toInt) ∧ (0 : Int) = -2) ∨ (0 ≤ n.toInt ∧ n.toInt ≤ 7 ∧ (0 : Int) = 0) by omega)
    · refine lv_tableIn (tgt := 98) (off := 97) hx hb dX3_count_1 (by omega) (by omega) (by rw [c_1i]; rfl) (by decide) ?_
      refine lv_aload_n hx hb dX3_count_98 rfl (lv_at hl 0 rfl) ?_
      refine va_get (D := D) (ci := 3) (v := .int 0) (C := RX3) (T := TX3) (N := 17) hx hb hts iX3 hown hK hP 0 rfl rfl 13 (by decide) (hts (.fieldLink RX3 61 "PunchedTicket" "seenCount" "I") (List.mem_of_getElem? (i := 9) rfl)) (fun _ h9 => h9) rfl dX3_count_99 ?_
      exact ret_i (post := (fun (r : Int32) (u : Unit) => ((n.toInt < 0 ∨ 7 < n.toInt) ∧ r.toInt = -2) ∨ (0 ≤ n.toInt ∧ n.toInt ≤ 7 ∧ r.toInt = 0))) (W1 := (fun u => [(h0, .inr (3, [.ref tx, .int 0, .ref td, .ref dr, .ref nw, .ref ac, .int fa, .int 0, .ref kp, .int ks, .ref sp, .ref ss, .ref sy, .int 0, .long sd, .ref tr, .ref ia])), (nw, .inr (1, [.ref td, .int 0, .int mt, .int mr, .int 0, .ref mat, .ref mfd, .ref mhd])), (td, .inr (0, [.int 0, .int 0, .ref lho, .ref lli, .ref lki, .ref lfd, .ref lfr, .ref lto, .ref lse, .ref lhl])), (mat, .inl (cI, 5, .inl mFat)), (lli, .inl (cI, 5, .inl lFli))])) () hx hb hr hlocks rfl hQ hK hP hD hS ⟨by decide, by decide⟩ dX3_count_102 (show ((n.toInt < 0 ∨ 7 < n.toInt) ∧ (0 : Int) = -2) ∨ (0 ≤ n.toInt ∧ n.toInt ≤ 7 ∧ (0 : Int) = 0) by omega)
