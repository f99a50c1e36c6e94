set_option maxRecDepth 20000 in
theorem ggX3_day_X3_rememberAct : GoodIn wsX3_day wsX3_rememberAct := goodIn_r _ [9, 10, 11, 12, 13, 14, 15, 8, 16, 17, 18, 19, 20, 1, 21, 22, 23, 24, 25, 26, 27, 28, 29, 30, 31, 32, 33, 34, 35, 36, 37, 38, 39, 40, 41, 42, 43, 82, 83, 84, 85, 86, 87, 88, 89, 90, 91, 92, 93, 94, 95, 96, 97, 98, 99, 100, 101, 102, 103, 104, 105, 106] rfl (by decide +kernel)
set_option maxRecDepth 20000 in
theorem gX3_day_X3_rememberAct : GoodIn wsX3_day (wsV RX3 144 RX3 yX3_rememberAct wsX3_rememberAct) := goodIn_app (goodIn_r _ [5, 6, 7, 8] rfl (by decide +kernel)) ggX3_day_X3_rememberAct
set_option maxRecDepth 20000 in
theorem ggX3_day_X1_passDay : GoodIn wsX3_day wsX1_passDay := goodIn_r _ [47, 35, 48, 32, 27, 49, 50, 51, 19, 52, 28, 34, 33, 53, 54, 55, 56, 57, 58, 59, 60, 61, 62, 29, 63, 64, 30, 65, 66, 67, 68, 69, 70, 71, 72, 73, 74, 75, 76, 77, 78, 79, 80, 81, 99, 100, 101, 102, 103, 104, 105, 106, 110, 111, 112, 113, 114, 115, 116, 117, 118, 119] rfl (by decide +kernel)
set_option maxRecDepth 20000 in
theorem gX3_day_X1_passDay : GoodIn wsX3_day (wsV RX3 150 RX1 yX1_passDay wsX1_passDay) := goodIn_app (goodIn_r _ [44, 45, 46, 19] rfl (by decide +kernel)) ggX3_day_X1_passDay
theorem dX3_day_0 : decode cX3_day 0 = .ok (.aload_n 0, 1) := by decide +kernel
theorem dX3_day_1 : decode cX3_day 1 = .ok (.getfield 32, 3) := by decide +kernel
theorem dX3_day_4 : decode cX3_day 4 = .ok (.getfield 141, 3) := by decide +kernel
theorem dX3_day_7 : decode cX3_day 7 = .ok (.bipush 10, 2) := by decide +kernel
theorem dX3_day_9 : decode cX3_day 9 = .ok (.if_icmp .lt 6, 3) := by decide +kernel
theorem dX3_day_12 : decode cX3_day 12 = .ok (.bipush (-3), 2) := by decide +kernel
theorem dX3_day_14 : decode cX3_day 14 = .ok (.ireturn, 1) := by decide +kernel
theorem dX3_day_15 : decode cX3_day 15 = .ok (.aload_n 0, 1) := by decide +kernel
theorem dX3_day_16 : decode cX3_day 16 = .ok (.invokevirtual 144, 3) := by decide +kernel
theorem dX3_day_19 : decode cX3_day 19 = .ok (.aload_n 0, 1) := by decide +kernel
theorem dX3_day_20 : decode cX3_day 20 = .ok (.getfield 32, 3) := by decide +kernel
theorem dX3_day_23 : decode cX3_day 23 = .ok (.aload_n 0, 1) := by decide +kernel
theorem dX3_day_24 : decode cX3_day 24 = .ok (.getfield 71, 3) := by decide +kernel
theorem dX3_day_27 : decode cX3_day 27 = .ok (.getfield 147, 3) := by decide +kernel
theorem dX3_day_30 : decode cX3_day 30 = .ok (.invokevirtual 150, 3) := by decide +kernel
theorem dX3_day_33 : decode cX3_day 33 = .ok (.ireturn, 1) := by decide +kernel
set_option maxRecDepth 20000 in
theorem ggX3_give_X1_hasTicket : GoodIn wsX3_give wsX1_hasTicket := goodIn_r _ [8, 9, 77, 78, 79, 80, 81, 82, 83, 84] rfl (by decide +kernel)
set_option maxRecDepth 20000 in
theorem gX3_give_X1_hasTicket : GoodIn wsX3_give (wsV RX3 117 RX1 yX1_hasTicket wsX1_hasTicket) := goodIn_app (goodIn_r _ [4, 5, 6, 7] rfl (by decide +kernel)) ggX3_give_X1_hasTicket
set_option maxRecDepth 20000 in
theorem ggX3_give_X0_hasPerson : GoodIn wsX3_give wsX0_hasPerson := goodIn_r _ [14, 15, 85, 86, 87, 88, 89, 90, 91, 92, 93, 94] rfl (by decide +kernel)
set_option maxRecDepth 20000 in
theorem gX3_give_X0_hasPerson : GoodIn wsX3_give (wsV RX3 97 RX0 yX0_hasPerson wsX0_hasPerson) := goodIn_app (goodIn_r _ [10, 11, 12, 13] rfl (by decide +kernel)) ggX3_give_X0_hasPerson
set_option maxRecDepth 20000 in
theorem ggX3_give_X1_canBeGiven : GoodIn wsX3_give wsX1_canBeGiven := goodIn_r _ [19, 20, 21, 22, 23, 7, 24, 25, 77, 78, 79, 80, 81, 82, 83, 84] rfl (by decide +kernel)
set_option maxRecDepth 20000 in
theorem gX3_give_X1_canBeGiven : GoodIn wsX3_give (wsV RX3 154 RX1 yX1_canBeGiven wsX1_canBeGiven) := goodIn_app (goodIn_r _ [16, 17, 18, 7] rfl (by decide +kernel)) ggX3_give_X1_canBeGiven
set_option maxRecDepth 20000 in
theorem ggX3_give_X3_rememberAct : GoodIn wsX3_give wsX3_rememberAct := goodIn_r _ [30, 31, 32, 33, 34, 35, 36, 29, 37, 38, 39, 7, 2, 1, 40, 41, 42, 43, 44, 45, 46, 9, 47, 25, 48, 49, 50, 20, 51, 52, 53, 54, 55, 56, 57, 58, 59, 60, 61, 62, 63, 64, 65, 66, 67, 68, 69, 70, 71, 72, 73, 74, 75, 76, 77, 78, 79, 80, 81, 82, 83, 84] rfl (by decide +kernel)
set_option maxRecDepth 20000 in
theorem gX3_give_X3_rememberAct : GoodIn wsX3_give (wsV RX3 144 RX3 yX3_rememberAct wsX3_rememberAct) := goodIn_app (goodIn_r _ [26, 27, 28, 29] rfl (by decide +kernel)) ggX3_give_X3_rememberAct
theorem dX3_give_0 : decode cX3_give 0 = .ok (.aload_n 0, 1) := by decide +kernel
theorem dX3_give_1 : decode cX3_give 1 = .ok (.getfield 32, 3) := by decide +kernel
theorem dX3_give_4 : decode cX3_give 4 = .ok (.iload_n 1, 1) := by decide +kernel
theorem dX3_give_5 : decode cX3_give 5 = .ok (.invokevirtual 117, 3) := by decide +kernel
theorem dX3_give_8 : decode cX3_give 8 = .ok (.ifCond .eq 14, 3) := by decide +kernel
theorem dX3_give_11 : decode cX3_give 11 = .ok (.aload_n 0, 1) := by decide +kernel
theorem dX3_give_12 : decode cX3_give 12 = .ok (.getfield 20, 3) := by decide +kernel
theorem dX3_give_15 : decode cX3_give 15 = .ok (.iload_n 2, 1) := by decide +kernel
theorem dX3_give_16 : decode cX3_give 16 = .ok (.invokevirtual 97, 3) := by decide +kernel
theorem dX3_give_19 : decode cX3_give 19 = .ok (.ifCond .ne 5, 3) := by decide +kernel
theorem dX3_give_22 : decode cX3_give 22 = .ok (.iconst (-1), 1) := by decide +kernel
theorem dX3_give_23 : decode cX3_give 23 = .ok (.ireturn, 1) := by decide +kernel
theorem dX3_give_24 : decode cX3_give 24 = .ok (.aload_n 0, 1) := by decide +kernel
theorem dX3_give_25 : decode cX3_give 25 = .ok (.getfield 32, 3) := by decide +kernel
theorem dX3_give_28 : decode cX3_give 28 = .ok (.iload_n 1, 1) := by decide +kernel
theorem dX3_give_29 : decode cX3_give 29 = .ok (.iload_n 2, 1) := by decide +kernel
theorem dX3_give_30 : decode cX3_give 30 = .ok (.invokevirtual 154, 3) := by decide +kernel
theorem dX3_give_33 : decode cX3_give 33 = .ok (.ifCond .ne 6, 3) := by decide +kernel
theorem dX3_give_36 : decode cX3_give 36 = .ok (.bipush (-3), 2) := by decide +kernel
theorem dX3_give_38 : decode cX3_give 38 = .ok (.ireturn, 1) := by decide +kernel
theorem dX3_give_39 : decode cX3_give 39 = .ok (.aload_n 0, 1) := by decide +kernel
theorem dX3_give_40 : decode cX3_give 40 = .ok (.invokevirtual 144, 3) := by decide +kernel
theorem dX3_give_43 : decode cX3_give 43 = .ok (.aload_n 0, 1) := by decide +kernel
theorem dX3_give_44 : decode cX3_give 44 = .ok (.getfield 32, 3) := by decide +kernel
theorem dX3_give_47 : decode cX3_give 47 = .ok (.getfield 132, 3) := by decide +kernel
theorem dX3_give_50 : decode cX3_give 50 = .ok (.iload_n 1, 1) := by decide +kernel
theorem dX3_give_51 : decode cX3_give 51 = .ok (.iaload, 1) := by decide +kernel
theorem dX3_give_52 : decode cX3_give 52 = .ok (.istore_n 3, 1) := by decide +kernel
theorem dX3_give_53 : decode cX3_give 53 = .ok (.aload_n 0, 1) := by decide +kernel
theorem dX3_give_54 : decode cX3_give 54 = .ok (.getfield 32, 3) := by decide +kernel
theorem dX3_give_57 : decode cX3_give 57 = .ok (.getfield 132, 3) := by decide +kernel
theorem dX3_give_60 : decode cX3_give 60 = .ok (.iload_n 1, 1) := by decide +kernel
theorem dX3_give_61 : decode cX3_give 61 = .ok (.iload_n 2, 1) := by decide +kernel
theorem dX3_give_62 : decode cX3_give 62 = .ok (.iastore, 1) := by decide +kernel
theorem dX3_give_63 : decode cX3_give 63 = .ok (.iload_n 3, 1) := by decide +kernel
theorem dX3_give_64 : decode cX3_give 64 = .ok (.ireturn, 1) := by decide +kernel
set_option maxRecDepth 20000 in
theorem ggX3_lose_X1_hasTicket : GoodIn wsX3_lose wsX1_hasTicket := goodIn_r _ [8, 9, 68, 69, 70, 71, 72, 73, 74, 75] rfl (by decide +kernel)
set_option maxRecDepth 20000 in
theorem gX3_lose_X1_hasTicket : GoodIn wsX3_lose (wsV RX3 117 RX1 yX1_hasTicket wsX1_hasTicket) := goodIn_app (goodIn_r _ [4, 5, 6, 7] rfl (by decide +kernel)) ggX3_lose_X1_hasTicket
set_option maxRecDepth 20000 in
theorem ggX3_lose_X1_isGone : GoodIn wsX3_lose wsX1_isGone := goodIn_r _ [13, 14, 68, 69, 70, 71, 72, 73, 74, 75] rfl (by decide +kernel)
set_option maxRecDepth 20000 in
theorem gX3_lose_X1_isGone : GoodIn wsX3_lose (wsV RX3 138 RX1 yX1_isGone wsX1_isGone) := goodIn_app (goodIn_r _ [10, 11, 12, 7] rfl (by decide +kernel)) ggX3_lose_X1_isGone
set_option maxRecDepth 20000 in
theorem ggX3_lose_X3_rememberAct : GoodIn wsX3_lose wsX3_rememberAct := goodIn_r _ [19, 20, 21, 22, 23, 24, 25, 18, 26, 27, 28, 7, 29, 1, 30, 31, 32, 33, 34, 35, 36, 9, 37, 14, 38, 39, 40, 41, 42, 43, 44, 45, 46, 47, 48, 49, 50, 51, 52, 53, 54, 55, 56, 57, 58, 59, 60, 61, 62, 63, 64, 65, 66, 67, 68, 69, 70, 71, 72, 73, 74, 75] rfl (by decide +kernel)
set_option maxRecDepth 20000 in
theorem gX3_lose_X3_rememberAct : GoodIn wsX3_lose (wsV RX3 144 RX3 yX3_rememberAct wsX3_rememberAct) := goodIn_app (goodIn_r _ [15, 16, 17, 18] rfl (by decide +kernel)) ggX3_lose_X3_rememberAct
theorem dX3_lose_0 : decode cX3_lose 0 = .ok (.aload_n 0, 1) := by decide +kernel
theorem dX3_lose_1 : decode cX3_lose 1 = .ok (.getfield 32, 3) := by decide +kernel
theorem dX3_lose_4 : decode cX3_lose 4 = .ok (.iload_n 1, 1) := by decide +kernel
theorem dX3_lose_5 : decode cX3_lose 5 = .ok (.invokevirtual 117, 3) := by decide +kernel
theorem dX3_lose_8 : decode cX3_lose 8 = .ok (.ifCond .ne 5, 3) := by decide +kernel
theorem dX3_lose_11 : decode cX3_lose 11 = .ok (.iconst (-1), 1) := by decide +kernel
theorem dX3_lose_12 : decode cX3_lose 12 = .ok (.ireturn, 1) := by decide +kernel
theorem dX3_lose_13 : decode cX3_lose 13 = .ok (.aload_n 0, 1) := by decide +kernel
theorem dX3_lose_14 : decode cX3_lose 14 = .ok (.getfield 32, 3) := by decide +kernel
theorem dX3_lose_17 : decode cX3_lose 17 = .ok (.iload_n 1, 1) := by decide +kernel
theorem dX3_lose_18 : decode cX3_lose 18 = .ok (.invokevirtual 138, 3) := by decide +kernel
theorem dX3_lose_21 : decode cX3_lose 21 = .ok (.ifCond .eq 6, 3) := by decide +kernel
theorem dX3_lose_24 : decode cX3_lose 24 = .ok (.bipush (-3), 2) := by decide +kernel
theorem dX3_lose_26 : decode cX3_lose 26 = .ok (.ireturn, 1) := by decide +kernel
theorem dX3_lose_27 : decode cX3_lose 27 = .ok (.aload_n 0, 1) := by decide +kernel
theorem dX3_lose_28 : decode cX3_lose 28 = .ok (.invokevirtual 144, 3) := by decide +kernel
theorem dX3_lose_31 : decode cX3_lose 31 = .ok (.aload_n 0, 1) := by decide +kernel
theorem dX3_lose_32 : decode cX3_lose 32 = .ok (.getfield 32, 3) := by decide +kernel
theorem dX3_lose_35 : decode cX3_lose 35 = .ok (.dup, 1) := by decide +kernel
theorem dX3_lose_36 : decode cX3_lose 36 = .ok (.getfield 158, 3) := by decide +kernel
theorem dX3_lose_39 : decode cX3_lose 39 = .ok (.iconst 1, 1) := by decide +kernel
theorem dX3_lose_40 : decode cX3_lose 40 = .ok (.iload_n 1, 1) := by decide +kernel
theorem dX3_lose_41 : decode cX3_lose 41 = .ok (.ishl, 1) := by decide +kernel
theorem dX3_lose_42 : decode cX3_lose 42 = .ok (.ior, 1) := by decide +kernel
theorem dX3_lose_43 : decode cX3_lose 43 = .ok (.putfield 158, 3) := by decide +kernel
theorem dX3_lose_46 : decode cX3_lose 46 = .ok (.aload_n 0, 1) := by decide +kernel
theorem dX3_lose_47 : decode cX3_lose 47 = .ok (.getfield 32, 3) := by decide +kernel
theorem dX3_lose_50 : decode cX3_lose 50 = .ok (.getfield 132, 3) := by decide +kernel
theorem dX3_lose_53 : decode cX3_lose 53 = .ok (.iload_n 1, 1) := by decide +kernel
theorem dX3_lose_54 : decode cX3_lose 54 = .ok (.iaload, 1) := by decide +kernel
theorem dX3_lose_55 : decode cX3_lose 55 = .ok (.ireturn, 1) := by decide +kernel
set_option maxRecDepth 20000 in
theorem ggX3_change_X1_hasTicket : GoodIn wsX3_change wsX1_hasTicket := goodIn_r _ [7, 8, 75, 76, 77, 78, 79, 80, 81, 82] rfl (by decide +kernel)
set_option maxRecDepth 20000 in
theorem gX3_change_X1_hasTicket : GoodIn wsX3_change (wsV RX3 117 RX1 yX1_hasTicket wsX1_hasTicket) := goodIn_app (goodIn_r _ [3, 4, 5, 6] rfl (by decide +kernel)) ggX3_change_X1_hasTicket
set_option maxRecDepth 20000 in
theorem ggX3_change_X1_canBeChanged : GoodIn wsX3_change wsX1_canBeChanged := goodIn_r _ [12, 13, 14, 15, 16, 6, 17, 18, 75, 76, 77, 78, 79, 80, 81, 82] rfl (by decide +kernel)
set_option maxRecDepth 20000 in
theorem gX3_change_X1_canBeChanged : GoodIn wsX3_change (wsV RX3 161 RX1 yX1_canBeChanged wsX1_canBeChanged) := goodIn_app (goodIn_r _ [9, 10, 11, 6] rfl (by decide +kernel)) ggX3_change_X1_canBeChanged
set_option maxRecDepth 20000 in
theorem ggX3_change_X3_rememberAct : GoodIn wsX3_change wsX3_rememberAct := goodIn_r _ [23, 24, 25, 26, 27, 28, 29, 22, 30, 31, 32, 6, 33, 1, 34, 35, 36, 37, 38, 39, 40, 8, 41, 18, 42, 43, 44, 13, 45, 46, 47, 48, 49, 50, 51, 52, 53, 58, 59, 60, 61, 62, 63, 64, 65, 66, 67, 68, 69, 70, 71, 72, 73, 74, 75, 76, 77, 78, 79, 80, 81, 82] rfl (by decide +kernel)
set_option maxRecDepth 20000 in
theorem gX3_change_X3_rememberAct : GoodIn wsX3_change (wsV RX3 144 RX3 yX3_rememberAct wsX3_rememberAct) := goodIn_app (goodIn_r _ [19, 20, 21, 22] rfl (by decide +kernel)) ggX3_change_X3_rememberAct
set_option maxRecDepth 20000 in
theorem ggX3_change_X1_swapHolders : GoodIn wsX3_change wsX1_swapHolders := goodIn_r _ [57, 13, 75, 76, 77, 78, 79, 80, 81, 82] rfl (by decide +kernel)
set_option maxRecDepth 20000 in
theorem gX3_change_X1_swapHolders : GoodIn wsX3_change (wsV RX3 164 RX1 yX1_swapHolders wsX1_swapHolders) := goodIn_app (goodIn_r _ [54, 55, 56, 6] rfl (by decide +kernel)) ggX3_change_X1_swapHolders
theorem dX3_change_0 : decode cX3_change 0 = .ok (.aload_n 0, 1) := by decide +kernel
theorem dX3_change_1 : decode cX3_change 1 = .ok (.getfield 32, 3) := by decide +kernel
theorem dX3_change_4 : decode cX3_change 4 = .ok (.iload_n 1, 1) := by decide +kernel
theorem dX3_change_5 : decode cX3_change 5 = .ok (.invokevirtual 117, 3) := by decide +kernel
theorem dX3_change_8 : decode cX3_change 8 = .ok (.ifCond .eq 14, 3) := by decide +kernel
theorem dX3_change_11 : decode cX3_change 11 = .ok (.aload_n 0, 1) := by decide +kernel
theorem dX3_change_12 : decode cX3_change 12 = .ok (.getfield 32, 3) := by decide +kernel
theorem dX3_change_15 : decode cX3_change 15 = .ok (.iload_n 2, 1) := by decide +kernel
theorem dX3_change_16 : decode cX3_change 16 = .ok (.invokevirtual 117, 3) := by decide +kernel
theorem dX3_change_19 : decode cX3_change 19 = .ok (.ifCond .ne 5, 3) := by decide +kernel
theorem dX3_change_22 : decode cX3_change 22 = .ok (.iconst (-1), 1) := by decide +kernel
theorem dX3_change_23 : decode cX3_change 23 = .ok (.ireturn, 1) := by decide +kernel
theorem dX3_change_24 : decode cX3_change 24 = .ok (.aload_n 0, 1) := by decide +kernel
theorem dX3_change_25 : decode cX3_change 25 = .ok (.getfield 32, 3) := by decide +kernel
theorem dX3_change_28 : decode cX3_change 28 = .ok (.iload_n 1, 1) := by decide +kernel
theorem dX3_change_29 : decode cX3_change 29 = .ok (.iload_n 2, 1) := by decide +kernel
theorem dX3_change_30 : decode cX3_change 30 = .ok (.invokevirtual 161, 3) := by decide +kernel
theorem dX3_change_33 : decode cX3_change 33 = .ok (.ifCond .ne 6, 3) := by decide +kernel
theorem dX3_change_36 : decode cX3_change 36 = .ok (.bipush (-3), 2) := by decide +kernel
theorem dX3_change_38 : decode cX3_change 38 = .ok (.ireturn, 1) := by decide +kernel
theorem dX3_change_39 : decode cX3_change 39 = .ok (.aload_n 0, 1) := by decide +kernel
theorem dX3_change_40 : decode cX3_change 40 = .ok (.invokevirtual 144, 3) := by decide +kernel
theorem dX3_change_43 : decode cX3_change 43 = .ok (.aload_n 0, 1) := by decide +kernel
theorem dX3_change_44 : decode cX3_change 44 = .ok (.getfield 32, 3) := by decide +kernel
theorem dX3_change_47 : decode cX3_change 47 = .ok (.iload_n 1, 1) := by decide +kernel
theorem dX3_change_48 : decode cX3_change 48 = .ok (.iload_n 2, 1) := by decide +kernel
theorem dX3_change_49 : decode cX3_change 49 = .ok (.invokevirtual 164, 3) := by decide +kernel
theorem dX3_change_52 : decode cX3_change 52 = .ok (.aload_n 0, 1) := by decide +kernel
theorem dX3_change_53 : decode cX3_change 53 = .ok (.getfield 32, 3) := by decide +kernel
theorem dX3_change_56 : decode cX3_change 56 = .ok (.getfield 132, 3) := by decide +kernel
theorem dX3_change_59 : decode cX3_change 59 = .ok (.iload_n 1, 1) := by decide +kernel
theorem dX3_change_60 : decode cX3_change 60 = .ok (.iaload, 1) := by decide +kernel
theorem dX3_change_61 : decode cX3_change 61 = .ok (.ireturn, 1) := by decide +kernel
set_option maxRecDepth 20000 in
theorem ggX3_undo_X1_copy : GoodIn wsX3_undo wsX1_copy := goodIn_r _ [9, 10, 11, 12, 13, 14, 15, 16, 17, 18, 19, 20, 38, 39, 40, 41, 42, 43, 44, 45] rfl (by decide +kernel)
set_option maxRecDepth 20000 in
theorem gX3_undo_X1_copy : GoodIn wsX3_undo (wsV RX3 168 RX1 yX1_copy wsX1_copy) := goodIn_app (goodIn_r _ [5, 6, 7, 8] rfl (by decide +kernel)) ggX3_undo_X1_copy
theorem dX3_undo_0 : decode cX3_undo 0 = .ok (.aload_n 0, 1) := by decide +kernel
theorem dX3_undo_1 : decode cX3_undo 1 = .ok (.getfield 43, 3) := by decide +kernel
theorem dX3_undo_4 : decode cX3_undo 4 = .ok (.ifCond .gt 6, 3) := by decide +kernel
theorem dX3_undo_7 : decode cX3_undo 7 = .ok (.bipush (-3), 2) := by decide +kernel
theorem dX3_undo_9 : decode cX3_undo 9 = .ok (.ireturn, 1) := by decide +kernel
theorem dX3_undo_10 : decode cX3_undo 10 = .ok (.aload_n 0, 1) := by decide +kernel
theorem dX3_undo_11 : decode cX3_undo 11 = .ok (.getfield 36, 3) := by decide +kernel
theorem dX3_undo_14 : decode cX3_undo 14 = .ok (.aload_n 0, 1) := by decide +kernel
theorem dX3_undo_15 : decode cX3_undo 15 = .ok (.getfield 40, 3) := by decide +kernel
theorem dX3_undo_18 : decode cX3_undo 18 = .ok (.aload_n 0, 1) := by decide +kernel
theorem dX3_undo_19 : decode cX3_undo 19 = .ok (.getfield 43, 3) := by decide +kernel
theorem dX3_undo_22 : decode cX3_undo 22 = .ok (.iadd, 1) := by decide +kernel
theorem dX3_undo_23 : decode cX3_undo 23 = .ok (.iconst 1, 1) := by decide +kernel
theorem dX3_undo_24 : decode cX3_undo 24 = .ok (.isub, 1) := by decide +kernel
theorem dX3_undo_25 : decode cX3_undo 25 = .ok (.bipush 14, 2) := by decide +kernel
theorem dX3_undo_27 : decode cX3_undo 27 = .ok (.irem, 1) := by decide +kernel
theorem dX3_undo_28 : decode cX3_undo 28 = .ok (.aaload, 1) := by decide +kernel
theorem dX3_undo_29 : decode cX3_undo 29 = .ok (.astore_n 1, 1) := by decide +kernel
theorem dX3_undo_30 : decode cX3_undo 30 = .ok (.aload_n 1, 1) := by decide +kernel
theorem dX3_undo_31 : decode cX3_undo 31 = .ok (.ifnonnull 6, 3) := by decide +kernel
theorem dX3_undo_34 : decode cX3_undo 34 = .ok (.bipush (-3), 2) := by decide +kernel
theorem dX3_undo_36 : decode cX3_undo 36 = .ok (.ireturn, 1) := by decide +kernel
theorem dX3_undo_37 : decode cX3_undo 37 = .ok (.aload_n 0, 1) := by decide +kernel
theorem dX3_undo_38 : decode cX3_undo 38 = .ok (.getfield 32, 3) := by decide +kernel
theorem dX3_undo_41 : decode cX3_undo 41 = .ok (.aload_n 1, 1) := by decide +kernel
theorem dX3_undo_42 : decode cX3_undo 42 = .ok (.invokevirtual 168, 3) := by decide +kernel
theorem dX3_undo_45 : decode cX3_undo 45 = .ok (.aload_n 0, 1) := by decide +kernel
theorem dX3_undo_46 : decode cX3_undo 46 = .ok (.dup, 1) := by decide +kernel
theorem dX3_undo_47 : decode cX3_undo 47 = .ok (.getfield 43, 3) := by decide +kernel
theorem dX3_undo_50 : decode cX3_undo 50 = .ok (.iconst 1, 1) := by decide +kernel
theorem dX3_undo_51 : decode cX3_undo 51 = .ok (.isub, 1) := by decide +kernel
theorem dX3_undo_52 : decode cX3_undo 52 = .ok (.putfield 43, 3) := by decide +kernel
theorem dX3_undo_55 : decode cX3_undo 55 = .ok (.aload_n 0, 1) := by decide +kernel
theorem dX3_undo_56 : decode cX3_undo 56 = .ok (.getfield 43, 3) := by decide +kernel
theorem dX3_undo_59 : decode cX3_undo 59 = .ok (.ireturn, 1) := by decide +kernel
set_option maxRecDepth 20000 in
theorem ggX3_keep_X3_isSlot : GoodIn wsX3_keep wsX3_isSlot := goodIn_r _ [8] rfl (by decide +kernel)
set_option maxRecDepth 20000 in
theorem gX3_keep_X3_isSlot : GoodIn wsX3_keep (va_wsS RX3 259 yX3_isSlot wsX3_isSlot) := goodIn_app (goodIn_of _ (by decide +kernel)) ggX3_keep_X3_isSlot
set_option maxRecDepth 20000 in
theorem ggX3_keep_X3_keepIn : GoodIn wsX3_keep wsX3_keepIn := goodIn_r _ [12, 13, 14, 15, 16, 3, 17, 18, 19, 20, 21, 22, 23, 24, 25, 26, 27, 28, 29, 30, 31, 32, 33, 34, 35, 36, 37, 38, 39, 57, 58, 59, 60, 61, 62, 63, 64, 40, 41, 42, 43, 44, 45, 46, 47, 48, 49, 50, 51, 52, 53, 54, 55, 56] rfl (by decide +kernel)
set_option maxRecDepth 20000 in
theorem gX3_keep_X3_keepIn : GoodIn wsX3_keep (wsV RX3 262 RX3 yX3_keepIn wsX3_keepIn) := goodIn_app (goodIn_r _ [9, 10, 11, 7] rfl (by decide +kernel)) ggX3_keep_X3_keepIn
theorem dX3_keep_0 : decode cX3_keep 0 = .ok (.iload_n 1, 1) := by decide +kernel
theorem dX3_keep_1 : decode cX3_keep 1 = .ok (.invokestatic 259, 3) := by decide +kernel
theorem dX3_keep_4 : decode cX3_keep 4 = .ok (.ifCond .ne 5, 3) := by decide +kernel
theorem dX3_keep_7 : decode cX3_keep 7 = .ok (.iconst (-1), 1) := by decide +kernel
theorem dX3_keep_8 : decode cX3_keep 8 = .ok (.ireturn, 1) := by decide +kernel
theorem dX3_keep_9 : decode cX3_keep 9 = .ok (.aload_n 0, 1) := by decide +kernel
theorem dX3_keep_10 : decode cX3_keep 10 = .ok (.aload_n 0, 1) := by decide +kernel
theorem dX3_keep_11 : decode cX3_keep 11 = .ok (.getfield 46, 3) := by decide +kernel
theorem dX3_keep_14 : decode cX3_keep 14 = .ok (.iload_n 1, 1) := by decide +kernel
theorem dX3_keep_15 : decode cX3_keep 15 = .ok (.invokevirtual 262, 3) := by decide +kernel
theorem dX3_keep_18 : decode cX3_keep 18 = .ok (.aload_n 0, 1) := by decide +kernel
theorem dX3_keep_19 : decode cX3_keep 19 = .ok (.dup, 1) := by decide +kernel
theorem dX3_keep_20 : decode cX3_keep 20 = .ok (.getfield 49, 3) := by decide +kernel
theorem dX3_keep_23 : decode cX3_keep 23 = .ok (.iconst 1, 1) := by decide +kernel
theorem dX3_keep_24 : decode cX3_keep 24 = .ok (.iload_n 1, 1) := by decide +kernel
theorem dX3_keep_25 : decode cX3_keep 25 = .ok (.ishl, 1) := by decide +kernel
theorem dX3_keep_26 : decode cX3_keep 26 = .ok (.ior, 1) := by decide +kernel
theorem dX3_keep_27 : decode cX3_keep 27 = .ok (.putfield 49, 3) := by decide +kernel
theorem dX3_keep_30 : decode cX3_keep 30 = .ok (.aload_n 0, 1) := by decide +kernel
theorem dX3_keep_31 : decode cX3_keep 31 = .ok (.getfield 32, 3) := by decide +kernel
theorem dX3_keep_34 : decode cX3_keep 34 = .ok (.getfield 141, 3) := by decide +kernel
theorem dX3_keep_37 : decode cX3_keep 37 = .ok (.ireturn, 1) := by decide +kernel
set_option maxRecDepth 20000 in
theorem ggX3_again_X3_isSlot : GoodIn wsX3_again wsX3_isSlot := goodIn_r _ [8] rfl (by decide +kernel)
set_option maxRecDepth 20000 in
theorem gX3_again_X3_isSlot : GoodIn wsX3_again (va_wsS RX3 259 yX3_isSlot wsX3_isSlot) := goodIn_app (goodIn_of _ (by decide +kernel)) ggX3_again_X3_isSlot
set_option maxRecDepth 20000 in
theorem ggX3_again_X1_copy : GoodIn wsX3_again wsX1_copy := goodIn_r _ [13, 14, 15, 16, 17, 18, 19, 20, 21, 22, 23, 24, 48, 49, 50, 51, 52, 53, 54, 55] rfl (by decide +kernel)
set_option maxRecDepth 20000 in
theorem gX3_again_X1_copy : GoodIn wsX3_again (wsV RX3 168 RX1 yX1_copy wsX1_copy) := goodIn_app (goodIn_r _ [9, 10, 11, 12] rfl (by decide +kernel)) ggX3_again_X1_copy
set_option maxRecDepth 20000 in
theorem ggX3_again_X3_forgetActs : GoodIn wsX3_again wsX3_forgetActs := goodIn_r _ [28, 29, 30, 31, 32, 33, 34, 35, 36, 37, 38, 39, 40, 41, 42, 43, 44, 45, 46, 47] rfl (by decide +kernel)
set_option maxRecDepth 20000 in
theorem gX3_again_X3_forgetActs : GoodIn wsX3_again (wsV RX3 88 RX3 yX3_forgetActs wsX3_forgetActs) := goodIn_app (goodIn_r _ [25, 26, 27, 7] rfl (by decide +kernel)) ggX3_again_X3_forgetActs
theorem dX3_again_0 : decode cX3_again 0 = .ok (.iload_n 1, 1) := by decide +kernel
theorem dX3_again_1 : decode cX3_again 1 = .ok (.invokestatic 259, 3) := by decide +kernel
theorem dX3_again_4 : decode cX3_again 4 = .ok (.ifCond .ne 5, 3) := by decide +kernel
theorem dX3_again_7 : decode cX3_again 7 = .ok (.iconst (-1), 1) := by decide +kernel
theorem dX3_again_8 : decode cX3_again 8 = .ok (.ireturn, 1) := by decide +kernel
theorem dX3_again_9 : decode cX3_again 9 = .ok (.aload_n 0, 1) := by decide +kernel
theorem dX3_again_10 : decode cX3_again 10 = .ok (.getfield 46, 3) := by decide +kernel
theorem dX3_again_13 : decode cX3_again 13 = .ok (.iload_n 1, 1) := by decide +kernel
theorem dX3_again_14 : decode cX3_again 14 = .ok (.aaload, 1) := by decide +kernel
theorem dX3_again_15 : decode cX3_again 15 = .ok (.astore_n 2, 1) := by decide +kernel
theorem dX3_again_16 : decode cX3_again 16 = .ok (.aload_n 0, 1) := by decide +kernel
theorem dX3_again_17 : decode cX3_again 17 = .ok (.getfield 49, 3) := by decide +kernel
theorem dX3_again_20 : decode cX3_again 20 = .ok (.iload_n 1, 1) := by decide +kernel
theorem dX3_again_21 : decode cX3_again 21 = .ok (.ishr, 1) := by decide +kernel
theorem dX3_again_22 : decode cX3_again 22 = .ok (.iconst 1, 1) := by decide +kernel
theorem dX3_again_23 : decode cX3_again 23 = .ok (.iand, 1) := by decide +kernel
theorem dX3_again_24 : decode cX3_again 24 = .ok (.ifCond .eq 7, 3) := by decide +kernel
theorem dX3_again_27 : decode cX3_again 27 = .ok (.aload_n 2, 1) := by decide +kernel
theorem dX3_again_28 : decode cX3_again 28 = .ok (.ifnonnull 6, 3) := by decide +kernel
theorem dX3_again_31 : decode cX3_again 31 = .ok (.bipush (-3), 2) := by decide +kernel
theorem dX3_again_33 : decode cX3_again 33 = .ok (.ireturn, 1) := by decide +kernel
theorem dX3_again_34 : decode cX3_again 34 = .ok (.aload_n 0, 1) := by decide +kernel
theorem dX3_again_35 : decode cX3_again 35 = .ok (.getfield 32, 3) := by decide +kernel
theorem dX3_again_38 : decode cX3_again 38 = .ok (.aload_n 2, 1) := by decide +kernel
theorem dX3_again_39 : decode cX3_again 39 = .ok (.invokevirtual 168, 3) := by decide +kernel
theorem dX3_again_42 : decode cX3_again 42 = .ok (.aload_n 0, 1) := by decide +kernel
theorem dX3_again_43 : decode cX3_again 43 = .ok (.invokevirtual 88, 3) := by decide +kernel
theorem dX3_again_46 : decode cX3_again 46 = .ok (.aload_n 0, 1) := by decide +kernel
theorem dX3_again_47 : decode cX3_again 47 = .ok (.getfield 32, 3) := by decide +kernel
theorem dX3_again_50 : decode cX3_again 50 = .ok (.getfield 141, 3) := by decide +kernel
theorem dX3_again_53 : decode cX3_again 53 = .ok (.ireturn, 1) := by decide +kernel
set_option maxRecDepth 20000 in
theorem ggX3_rememberAct_X3_keepIn : GoodIn wsX3_rememberAct wsX3_keepIn := goodIn_r _ [8, 9, 10, 11, 12, 13, 14, 15, 16, 17, 18, 19, 20, 21, 22, 23, 24, 25, 26, 27, 28, 29, 30, 31, 32, 33, 34, 35, 36, 54, 55, 56, 57, 58, 59, 60, 61, 37, 38, 39, 40, 41, 42, 43, 44, 45, 46, 47, 48, 49, 50, 51, 52, 53] rfl (by decide +kernel)
set_option maxRecDepth 20000 in
theorem gX3_rememberAct_X3_keepIn : GoodIn wsX3_rememberAct (wsV RX3 262 RX3 yX3_keepIn wsX3_keepIn) := goodIn_app (goodIn_r _ [4, 5, 6, 7] rfl (by decide +kernel)) ggX3_rememberAct_X3_keepIn
theorem dX3_rememberAct_0 : decode cX3_rememberAct 0 = .ok (.aload_n 0, 1) := by decide +kernel
theorem dX3_rememberAct_1 : decode cX3_rememberAct 1 = .ok (.aload_n 0, 1) := by decide +kernel
theorem dX3_rememberAct_2 : decode cX3_rememberAct 2 = .ok (.getfield 36, 3) := by decide +kernel
theorem dX3_rememberAct_5 : decode cX3_rememberAct 5 = .ok (.aload_n 0, 1) := by decide +kernel
theorem dX3_rememberAct_6 : decode cX3_rememberAct 6 = .ok (.getfield 40, 3) := by decide +kernel
theorem dX3_rememberAct_9 : decode cX3_rememberAct 9 = .ok (.aload_n 0, 1) := by decide +kernel
theorem dX3_rememberAct_10 : decode cX3_rememberAct 10 = .ok (.getfield 43, 3) := by decide +kernel
theorem dX3_rememberAct_13 : decode cX3_rememberAct 13 = .ok (.iadd, 1) := by decide +kernel
theorem dX3_rememberAct_14 : decode cX3_rememberAct 14 = .ok (.bipush 14, 2) := by decide +kernel
theorem dX3_rememberAct_16 : decode cX3_rememberAct 16 = .ok (.irem, 1) := by decide +kernel
theorem dX3_rememberAct_17 : decode cX3_rememberAct 17 = .ok (.invokevirtual 262, 3) := by decide +kernel
theorem dX3_rememberAct_20 : decode cX3_rememberAct 20 = .ok (.aload_n 0, 1) := by decide +kernel
theorem dX3_rememberAct_21 : decode cX3_rememberAct 21 = .ok (.getfield 43, 3) := by decide +kernel
theorem dX3_rememberAct_24 : decode cX3_rememberAct 24 = .ok (.bipush 14, 2) := by decide +kernel
theorem dX3_rememberAct_26 : decode cX3_rememberAct 26 = .ok (.if_icmp .ge 16, 3) := by decide +kernel
theorem dX3_rememberAct_29 : decode cX3_rememberAct 29 = .ok (.aload_n 0, 1) := by decide +kernel
theorem dX3_rememberAct_30 : decode cX3_rememberAct 30 = .ok (.dup, 1) := by decide +kernel
theorem dX3_rememberAct_31 : decode cX3_rememberAct 31 = .ok (.getfield 43, 3) := by decide +kernel
theorem dX3_rememberAct_34 : decode cX3_rememberAct 34 = .ok (.iconst 1, 1) := by decide +kernel
theorem dX3_rememberAct_35 : decode cX3_rememberAct 35 = .ok (.iadd, 1) := by decide +kernel
theorem dX3_rememberAct_36 : decode cX3_rememberAct 36 = .ok (.putfield 43, 3) := by decide +kernel
theorem dX3_rememberAct_39 : decode cX3_rememberAct 39 = .ok (.goto 16, 3) := by decide +kernel
theorem dX3_rememberAct_42 : decode cX3_rememberAct 42 = .ok (.aload_n 0, 1) := by decide +kernel
theorem dX3_rememberAct_43 : decode cX3_rememberAct 43 = .ok (.aload_n 0, 1) := by decide +kernel
theorem dX3_rememberAct_44 : decode cX3_rememberAct 44 = .ok (.getfield 40, 3) := by decide +kernel
theorem dX3_rememberAct_47 : decode cX3_rememberAct 47 = .ok (.iconst 1, 1) := by decide +kernel
theorem dX3_rememberAct_48 : decode cX3_rememberAct 48 = .ok (.iadd, 1) := by decide +kernel
theorem dX3_rememberAct_49 : decode cX3_rememberAct 49 = .ok (.bipush 14, 2) := by decide +kernel
theorem dX3_rememberAct_51 : decode cX3_rememberAct 51 = .ok (.irem, 1) := by decide +kernel
theorem dX3_rememberAct_52 : decode cX3_rememberAct 52 = .ok (.putfield 40, 3) := by decide +kernel
theorem dX3_rememberAct_55 : decode cX3_rememberAct 55 = .ok (.return_, 1) := by decide +kernel
set_option maxHeartbeats 600000 in
set_option maxRecDepth 100000 in
theorem c_X3_rememberAct (l : Launch) (D : va_G) (cI cZ cM : ClassId) (h0 : Nat) (tx : Nat) (le : Int32) (td : Nat) (dr : Nat) (nw : Nat) (ac : Nat) (fa : Int32) (an : Int32) (kp : Nat) (ks : Int32) (sp : Nat) (ss : Nat) (sy : Nat) (sc : Int32) (sd : Int64) (tr : Nat) (ia : Nat) (Fac : Nat → Option Nat) (ln : Nat) (md : Int32) (mt : Int32) (mr : Int32) (mg : Int32) (mat : Nat) (mfd : Nat) (mhd : Nat) (mFat : Nat → Int32) (mFfd : Nat → Int32) (mFhd : Nat → Int32) (L : List Mom) (sz : Nat) (hPool : InPool 14 Fac L) (hMs : MsOk L) (h_fa : 0 ≤ fa.toInt ∧ fa.toInt ≤ 13) (h_an : 0 ≤ an.toInt ∧ an.toInt ≤ 14) (h_md : 0 ≤ md.toInt ∧ md.toInt ≤ 10) (h_mt : 0 ≤ mt.toInt ∧ mt.toInt ≤ 6) : Cv l yX3_rememberAct wsX3_rememberAct ({ frames := 3, cells := 4, slots := 27, locals := 70 } : Room) D cI cZ cM [.ref h0] ([(h0, .inr (3, [.ref tx, .int le, .ref td, .ref dr, .ref nw, .ref ac, .int fa, .int an, .ref kp, .int ks, .ref sp, .ref ss, .ref sy, .int sc, .long sd, .ref tr, .ref ia])), (ac, .inl (cM, 14, .inr (.inr (.inr (.inr Fac))))), (nw, .inr (1, [.ref ln, .int md, .int mt, .int mr, .int mg, .ref mat, .ref mfd, .ref mhd])), (mat, .inl (cI, 5, .inl mFat)), (mfd, .inl (cI, 7, .inl mFfd)), (mhd, .inl (cI, 7, .inl mFhd))] ++ plW cI L) sz (fun (u : Int32 × Int32 × (Nat → Option Nat) × (List Mom)) => InPool 14 u.2.2.1 u.2.2.2 ∧ Keeps L u.2.2.2 ∧ MsOk u.2.2.2 ∧ (0 ≤ u.1.toInt ∧ u.1.toInt ≤ 13) ∧ (0 ≤ u.2.1.toInt ∧ u.2.1.toInt ≤ 14)) (fun u => ([(h0, .inr (3, [.ref tx, .int le, .ref td, .ref dr, .ref nw, .ref ac, .int u.1, .int u.2.1, .ref kp, .int ks, .ref sp, .ref ss, .ref sy, .int sc, .long sd, .ref tr, .ref ia])), (ac, .inl (cM, 14, .inr (.inr (.inr (.inr u.2.2.1))))), (nw, .inr (1, [.ref ln, .int md, .int mt, .int mr, .int mg, .ref mat, .ref mfd, .ref mhd])), (mat, .inl (cI, 5, .inl mFat)), (mfd, .inl (cI, 7, .inl mFfd)), (mhd, .inl (cI, 7, .inl mFhd))] ++ plW cI u.2.2.2)) 4 27 := by
  refine begins (l := l) (y := yX3_rememberAct) (ws := wsX3_rememberAct) (av := [.ref h0]) (Qc := fun A => va_Qv (fun (u : Int32 × Int32 × (Nat → Option Nat) × (List Mom)) => InPool 14 u.2.2.1 u.2.2.2 ∧ Keeps L u.2.2.2 ∧ MsOk u.2.2.2 ∧ (0 ≤ u.1.toInt ∧ u.1.toInt ≤ 13) ∧ (0 ≤ u.2.1.toInt ∧ u.2.1.toInt ≤ 14)) (fun u => Wd D cI cZ cM A ((fun u => ([(h0, .inr (3, [.ref tx, .int le, .ref td, .ref dr, .ref nw, .ref ac, .int u.1, .int u.2.1, .ref kp, .int ks, .ref sp, .ref ss, .ref sy, .int sc, .long sd, .ref tr, .ref ia])), (ac, .inl (cM, 14, .inr (.inr (.inr (.inr u.2.2.1))))), (nw, .inr (1, [.ref ln, .int md, .int mt, .int mr, .int mg, .ref mat, .ref mfd, .ref mhd])), (mat, .inl (cI, 5, .inl mFat)), (mfd, .inl (cI, 7, .inl mFfd)), (mhd, .inl (cI, 7, .inl mFhd))] ++ plW cI u.2.2.2)) u)) A) cX3_rememberAct 1 none (by decide) rfl (Nat.le_of_ble_eq_true rfl) ?_
  intro p e s m args below meth c R Q A ls hBd hR hQ hA hS hK hP hD hl
  obtain ⟨hx, hb, hr, hts, hown, hlocks, hin, hml⟩ := hBd
  have hl : lv_has ls 1 [(0, .ref h0)] := hl
  have iX3 : ∀ w ∈ wsX30, w ∈ wsX3_rememberAct := fun _ h => List.mem_cons_of_mem _ (List.mem_append_left _ (List.mem_append_right _ h))
  have iX1 : ∀ w ∈ wsX10, w ∈ wsX3_rememberAct := fun _ h => List.mem_cons_of_mem _ (List.mem_append_right _ h)
  obtain ⟨h_faa, h_fab⟩ := h_fa
  obtain ⟨h_ana, h_anb⟩ := h_an
  obtain ⟨h_mda, h_mdb⟩ := h_md
  obtain ⟨h_mta, h_mtb⟩ := h_mt
  refine lv_aload_n hx hb dX3_rememberAct_0 rfl (lv_at hl 0 rfl) ?_
  refine lv_aload_n hx hb dX3_rememberAct_1 rfl (lv_at hl 0 rfl) ?_
  refine va_get (D := D) (ci := 3) (v := .ref ac) (C := RX3) (T := TX3) (N := 17) hx hb hts iX3 hown hK hP 0 rfl rfl 5 (by decide) (hts (.fieldLink RX3 36 "PunchedTicket" "acts" "[LPunchedTicket$Moment;") (List.mem_of_getElem? (i := 1) rfl)) (fun _ h9 => h9) rfl dX3_rememberAct_2 ?_
  refine lv_aload_n hx hb dX3_rememberAct_5 rfl (lv_at hl 0 rfl) ?_
  refine va_get (D := D) (ci := 3) (v := .int fa) (C := RX3) (T := TX3) (N := 17) hx hb hts iX3 hown hK hP 0 rfl rfl 6 (by decide) (hts (.fieldLink RX3 40 "PunchedTicket" "firstAct" "I") (List.mem_of_getElem? (i := 2) rfl)) (fun _ h9 => h9) rfl dX3_rememberAct_6 ?_
  refine lv_aload_n hx hb dX3_rememberAct_9 rfl (lv_at hl 0 rfl) ?_
  refine va_get (D := D) (ci := 3) (v := .int an) (C := RX3) (T := TX3) (N := 17) hx hb hts iX3 hown hK hP 0 rfl rfl 7 (by decide) (hts (.fieldLink RX3 43 "PunchedTicket" "actsInRow" "I") (List.mem_of_getElem? (i := 3) rfl)) (fun _ h9 => h9) rfl dX3_rememberAct_10 ?_
  refine lv_iadd hx hb dX3_rememberAct_13 ?_
  refine lv_topi (fun v_1 ev_1 => ?_)
  have tv_1 : v_1.toInt = fa.toInt + an.toInt := by rw [ev_1]; exact ti_add (x := fa) (y := an) (show -2147483648 ≤ fa.toInt + an.toInt by omega) (show fa.toInt + an.toInt < 2147483648 by omega)
  refine lv_bipush (v := 14) hx hb dX3_rememberAct_14 (by decide) ?_
  refine lv_irem hx hb dX3_rememberAct_16 (by decide) ?_
  refine lv_topi (fun v_2 ev_2 => ?_)
  have tv_2 := rem_t (n := 14) (by decide) (by decide) (show 0 ≤ v_1.toInt by omega) ev_2
  obtain ⟨tv_2a, tv_2b⟩ := tv_2
  refine gV_v (As := [.ref ac, .int v_2]) (rest := []) ⟨hx, hb, hml, hown, hts⟩ (c_X3_keepIn14 l D cI cZ cM h0 ac v_2 tx le td dr nw ac fa an kp ks sp ss sy sc sd tr ia Fac ln md mt mr mg mat mfd mhd mFat mFfd mFhd L _ hPool hMs (show 0 ≤ v_2.toInt ∧ v_2.toInt ≤ 13 by omega) (show 0 ≤ md.toInt ∧ md.toInt ≤ 10 by omega) (show 0 ≤ mt.toInt ∧ mt.toInt ≤ 6 by omega)) (cwV 2 hts gX3_rememberAct_X3_keepIn rfl rfl rfl (by decide +kernel) ⟨by rw [hR]; decide, by rw [hR]; decide⟩) hK hP hD hS hA [0, 1, 2, 3, 4, 5] [] rfl rfl (by decide) (by decide) (by decide) rfl 0 rfl hl.1 rfl rfl (Nat.le_of_ble_eq_true rfl) dX3_rememberAct_17 ⟨by rw [hR]; decide, by rw [hR]; decide⟩ (fun u_6 H locs hw hP hD hS => ?_)
  obtain ⟨Gms_3, L1_4⟩ := u_6
  have hP : va_P D vwCl ([(h0, .inr (3, [.ref tx, .int le, .ref td, .ref dr, .ref nw, .ref ac, .int fa, .int an, .ref kp, .int ks, .ref sp, .ref ss, .ref sy, .int sc, .long sd, .ref tr, .ref ia])), (ac, .inl (cM, 14, .inr (.inr (.inr (.inr Gms_3))))), (nw, .inr (1, [.ref ln, .int md, .int mt, .int mr, .int mg, .ref mat, .ref mfd, .ref mhd])), (mat, .inl (cI, 5, .inl mFat)), (mfd, .inl (cI, 7, .inl mFfd)), (mhd, .inl (cI, 7, .inl mFhd))] ++ plW cI L1_4) H := P_subF hP [0, 1, 2, 3, 4, 5] rfl
  have hD : va_D A ([(h0, .inr (3, [.ref tx, .int le, .ref td, .ref dr, .ref nw, .ref ac, .int fa, .int an, .ref kp, .int ks, .ref sp, .ref ss, .ref sy, .int sc, .long sd, .ref tr, .ref ia])), (ac, .inl (cM, 14, .inr (.inr (.inr (.inr Gms_3))))), (nw, .inr (1, [.ref ln, .int md, .int mt, .int mr, .int mg, .ref mat, .ref mfd, .ref mhd])), (mat, .inl (cI, 5, .inl mFat)), (mfd, .inl (cI, 7, .inl mFfd)), (mhd, .inl (cI, 7, .inl mFhd))] ++ plW cI L1_4) := D_subF hD [0, 1, 2, 3, 4, 5] (by decide) rfl
  refine W.widen (k := 4) (n := 27) (by omega) (by omega) ?_
  have hw : InPool 14 Gms_3 L1_4 ∧ Keeps L L1_4 ∧ MsOk L1_4 := hw
  have hw_7 := hw
  obtain ⟨PL1, PL2, PL3⟩ := hw_7
  refine lv_aload_n hx hb dX3_rememberAct_20 rfl (lv_at hl 0 rfl) ?_
  refine va_get (D := D) (ci := 3) (v := .int an) (C := RX3) (T := TX3) (N := 17) hx hb hts iX3 hown hK hP 0 rfl rfl 7 (by decide) (hts (.fieldLink RX3 43 "PunchedTicket" "actsInRow" "I") (List.mem_of_getElem? (i := 3) rfl)) (fun _ h9 => h9) rfl dX3_rememberAct_21 ?_
  refine lv_bipush (v := 14) hx hb dX3_rememberAct_24 (by decide) ?_
  refine lv_icmp_ge (tgt := 42) hx hb dX3_rememberAct_26 (by decide) (fun c_8 => ?_) (fun c_8 => ?_)
  · have tc_8 := b_le (show (14 : Int32).toInt = 14 by decide) rfl c_8
    refine lv_aload_n hx hb dX3_rememberAct_42 rfl (lv_at hl 0 rfl) ?_
    refine lv_aload_n hx hb dX3_rememberAct_43 rfl (lv_at hl 0 rfl) ?_
    refine va_get (D := D) (ci := 3) (v := .int fa) (C := RX3) (T := TX3) (N := 17) hx hb hts iX3 hown hK hP 0 rfl rfl 6 (by decide) (hts (.fieldLink RX3 40 "PunchedTicket" "firstAct" "I") (List.mem_of_getElem? (i := 2) rfl)) (fun _ h9 => h9) rfl dX3_rememberAct_44 ?_
    refine lv_iconst (v := 1) hx hb dX3_rememberAct_47 (by decide) ?_
    refine lv_iadd hx hb dX3_rememberAct_48 ?_
    refine lv_topi (fun v_9 ev_9 => ?_)
    have tv_9 : v_9.toInt = fa.toInt + (1 : Int) := by rw [ev_9]; exact ti_add (x := fa) (y := 1) (show -2147483648 ≤ fa.toInt + (1 : Int) by omega) (show fa.toInt + (1 : Int) < 2147483648 by omega)
    refine lv_bipush (v := 14) hx hb dX3_rememberAct_49 (by decide) ?_
    refine lv_irem hx hb dX3_rememberAct_51 (by decide) ?_
    refine lv_topi (fun v_10 ev_10 => ?_)
    have tv_10 := rem_t (n := 14) (by decide) (by decide) (show 0 ≤ v_9.toInt by omega) ev_10
    obtain ⟨tv_10a, tv_10b⟩ := tv_10
    refine va_put (D := D) (ci := 3) (v := .int v_10) (ty := .int) (C := RX3) (T := TX3) (N := 17) hx hb hts iX3 tyX3 tyX3_ok nmX3 hown hK hP hD hS 0 rfl rfl 6 (by decide) (hts (.fieldLink RX3 40 "PunchedTicket" "firstAct" "I") (List.mem_of_getElem? (i := 2) rfl)) (fun _ h9 => h9) rfl (by decide +kernel) rfl rfl (Nat.le_of_ble_eq_true rfl) dX3_rememberAct_52 (fun H locs hP hD hS => ?_)
    have hP : va_P D vwCl ([(h0, .inr (3, [.ref tx, .int le, .ref td, .ref dr, .ref nw, .ref ac, .int v_10, .int an, .ref kp, .int ks, .ref sp, .ref ss, .ref sy, .int sc, .long sd, .ref tr, .ref ia])), (ac, .inl (cM, 14, .inr (.inr (.inr (.inr Gms_3))))), (nw, .inr (1, [.ref ln, .int md, .int mt, .int mr, .int mg, .ref mat, .ref mfd, .ref mhd])), (mat, .inl (cI, 5, .inl mFat)), (mfd, .inl (cI, 7, .inl mFfd)), (mhd, .inl (cI, 7, .inl mFhd))] ++ plW cI L1_4) H := hP
    have hD : va_D A ([(h0, .inr (3, [.ref tx, .int le, .ref td, .ref dr, .ref nw, .ref ac, .int v_10, .int an, .ref kp, .int ks, .ref sp, .ref ss, .ref sy, .int sc, .long sd, .ref tr, .ref ia])), (ac, .inl (cM, 14, .inr (.inr (.inr (.inr Gms_3))))), (nw, .inr (1, [.ref ln, .int md, .int mt, .int mr, .int mg, .ref mat, .ref mfd, .ref mhd])), (mat, .inl (cI, 5, .inl mFat)), (mfd, .inl (cI, 7, .inl mFfd)), (mhd, .inl (cI, 7, .inl mFhd))] ++ plW cI L1_4) := hD
    exact ret_v (post := (fun (u : Int32 × Int32 × (Nat → Option Nat) × (List Mom)) => InPool 14 u.2.2.1 u.2.2.2 ∧ Keeps L u.2.2.2 ∧ MsOk u.2.2.2 ∧ (0 ≤ u.1.toInt ∧ u.1.toInt ≤ 13) ∧ (0 ≤ u.2.1.toInt ∧ u.2.1.toInt ≤ 14))) (W1 := (fun u => ([(h0, .inr (3, [.ref tx, .int le, .ref td, .ref dr, .ref nw, .ref ac, .int u.1, .int u.2.1, .ref kp, .int ks, .ref sp, .ref ss, .ref sy, .int sc, .long sd, .ref tr, .ref ia])), (ac, .inl (cM, 14, .inr (.inr (.inr (.inr u.2.2.1))))), (nw, .inr (1, [.ref ln, .int md, .int mt, .int mr, .int mg, .ref mat, .ref mfd, .ref mhd])), (mat, .inl (cI, 5, .inl mFat)), (mfd, .inl (cI, 7, .inl mFfd)), (mhd, .inl (cI, 7, .inl mFhd))] ++ plW cI u.2.2.2))) (v_10, an, Gms_3, L1_4) hx hb hr hlocks hQ hK hP hD hS ⟨by decide, by decide⟩ dX3_rememberAct_55 (show InPool 14 Gms_3 L1_4 ∧ Keeps L L1_4 ∧ MsOk L1_4 ∧ (0 ≤ v_10.toInt ∧ v_10.toInt ≤ 13) ∧ (0 ≤ an.toInt ∧ an.toInt ≤ 14) from ⟨PL1, PL2, PL3, by omega, by omega⟩)
  · have tc_8 := b_nle (show (14 : Int32).toInt = 14 by decide) rfl c_8
    refine lv_aload_n hx hb dX3_rememberAct_29 rfl (lv_at hl 0 rfl) ?_
    refine lv_dup hx hb dX3_rememberAct_30 rfl ?_
    refine va_get (D := D) (ci := 3) (v := .int an) (C := RX3) (T := TX3) (N := 17) hx hb hts iX3 hown hK hP 0 rfl rfl 7 (by decide) (hts (.fieldLink RX3 43 "PunchedTicket" "actsInRow" "I") (List.mem_of_getElem? (i := 3) rfl)) (fun _ h9 => h9) rfl dX3_rememberAct_31 ?_
    refine lv_iconst (v := 1) hx hb dX3_rememberAct_34 (by decide) ?_
    refine lv_iadd hx hb dX3_rememberAct_35 ?_
    refine lv_topi (fun v_11 ev_11 => ?_)
    have tv_11 : v_11.toInt = an.toInt + (1 : Int) := by rw [ev_11]; exact ti_add (x := an) (y := 1) (show -2147483648 ≤ an.toInt + (1 : Int) by omega) (show an.toInt + (1 : Int) < 2147483648 by omega)
    refine va_put (D := D) (ci := 3) (v := .int v_11) (ty := .int) (C := RX3) (T := TX3) (N := 17) hx hb hts iX3 tyX3 tyX3_ok nmX3 hown hK hP hD hS 0 rfl rfl 7 (by decide) (hts (.fieldLink RX3 43 "PunchedTicket" "actsInRow" "I") (List.mem_of_getElem? (i := 3) rfl)) (fun _ h9 => h9) rfl (by decide +kernel) rfl rfl (Nat.le_of_ble_eq_true rfl) dX3_rememberAct_36 (fun H locs hP hD hS => ?_)
    have hP : va_P D vwCl ([(h0, .inr (3, [.ref tx, .int le, .ref td, .ref dr, .ref nw, .ref ac, .int fa, .int v_11, .ref kp, .int ks, .ref sp, .ref ss, .ref sy, .int sc, .long sd, .ref tr, .ref ia])), (ac, .inl (cM, 14, .inr (.inr (.inr (.inr Gms_3))))), (nw, .inr (1, [.ref ln, .int md, .int mt, .int mr, .int mg, .ref mat, .ref mfd, .ref mhd])), (mat, .inl (cI, 5, .inl mFat)), (mfd, .inl (cI, 7, .inl mFfd)), (mhd, .inl (cI, 7, .inl mFhd))] ++ plW cI L1_4) H := hP
    have hD : va_D A ([(h0, .inr (3, [.ref tx, .int le, .ref td, .ref dr, .ref nw, .ref ac, .int fa, .int v_11, .ref kp, .int ks, .ref sp, .ref ss, .ref sy, .int sc, .long sd, .ref tr, .ref ia])), (ac, .inl (cM, 14, .inr (.inr (.inr (.inr Gms_3))))), (nw, .inr (1, [.ref ln, .int md, .int mt, .int mr, .int mg, .ref mat, .ref mfd, .ref mhd])), (mat, .inl (cI, 5, .inl mFat)), (mfd, .inl (cI, 7, .inl mFfd)), (mhd, .inl (cI, 7, .inl mFhd))] ++ plW cI L1_4) := hD
    refine lv_goto (tgt := 55) hx hb dX3_rememberAct_39 (by decide) ?_
    exact ret_v (post := (fun (u : Int32 × Int32 × (Nat → Option Nat) × (List Mom)) => InPool 14 u.2.2.1 u.2.2.2 ∧ Keeps L u.2.2.2 ∧ MsOk u.2.2.2 ∧ (0 ≤ u.1.toInt ∧ u.1.toInt ≤ 13) ∧ (0 ≤ u.2.1.toInt ∧ u.2.1.toInt ≤ 14))) (W1 := (fun u => ([(h0, .inr (3, [.ref tx, .int le, .ref td, .ref dr, .ref nw, .ref ac, .int u.1, .int u.2.1, .ref kp, .int ks, .ref sp, .ref ss, .ref sy, .int sc, .long sd, .ref tr, .ref ia])), (ac, .inl (cM, 14, .inr (.inr (.inr (.inr u.2.2.1))))), (nw, .inr (1, [.ref ln, .int md, .int mt, .int mr, .int mg, .ref mat, .ref mfd, .ref mhd])), (mat, .inl (cI, 5, .inl mFat)), (mfd, .inl (cI, 7, .inl mFfd)), (mhd, .inl (cI, 7, .inl mFhd))] ++ plW cI u.2.2.2))) (fa, v_11, Gms_3, L1_4) hx hb hr hlocks hQ hK hP hD hS ⟨by decide, by decide⟩ dX3_rememberAct_55 (show InPool 14 Gms_3 L1_4 ∧ Keeps L L1_4 ∧ MsOk L1_4 ∧ (0 ≤ fa.toInt ∧ fa.toInt ≤ 13) ∧ (0 ≤ v_11.toInt ∧ v_11.toInt ≤ 14) from ⟨PL1, PL2, PL3, by omega, by omega⟩)

set_option maxHeartbeats 600000 in
set_option maxRecDepth 100000 in
theorem c_X3_day (l : Launch) (D : va_G) (cI cZ cM : ClassId) (h0 : Nat) (tx : Nat) (le : Int32) (td : Nat) (dr : Nat) (nw : Nat) (ac : Nat) (fa : Int32) (an : Int32) (kp : Nat) (ks : Int32) (sp : Nat) (ss : Nat) (sy : Nat) (sc : Int32) (sd : Int64) (tr : Nat) (ia : Nat) (Fac : Nat → Option Nat) (md : Int32) (mt : Int32) (mr : Int32) (mg : Int32) (mat : Nat) (mfd : Nat) (mhd : Nat) (mFat : Nat → Int32) (mFfd : Nat → Int32) (mFhd : Nat → Int32) (lpe : Int32) (ltk : Int32) (lho : Nat) (lli : Nat) (lki : Nat) (lfd : Nat) (lfr : Nat) (lto : Nat) (lse : Nat) (lhl : Nat) (lFto : Nat → Int32) (lFfr : Nat → Int32) (lFki : Nat → Int32) (mo : Nat) (rd : Nat) (Frd : Nat → Int32) (L : List Mom) (sz : Nat) (hPool : InPool 14 Fac L) (hMs : MsOk L) (h_fa : 0 ≤ fa.toInt ∧ fa.toInt ≤ 13) (h_an : 0 ≤ an.toInt ∧ an.toInt ≤ 14) (h_md : 0 ≤ md.toInt ∧ md.toInt ≤ 10) (h_mt : 0 ≤ mt.toInt ∧ mt.toInt ≤ 6) (h_lpe : 0 ≤ lpe.toInt ∧ lpe.toInt ≤ 5) : Ci l yX3_day wsX3_day ({ frames := 4, cells := 4, slots := 27, locals := 90 } : Room) D cI cZ cM [.ref h0] ([(h0, .inr (3, [.ref tx, .int le, .ref td, .ref dr, .ref nw, .ref ac, .int fa, .int an, .ref kp, .int ks, .ref sp, .ref ss, .ref sy, .int sc, .long sd, .ref tr, .ref ia])), (ac, .inl (cM, 14, .inr (.inr (.inr (.inr Fac))))), (nw, .inr (1, [.ref td, .int md, .int mt, .int mr, .int mg, .ref mat, .ref mfd, .ref mhd])), (mat, .inl (cI, 5, .inl mFat)), (mfd, .inl (cI, 7, .inl mFfd)), (mhd, .inl (cI, 7, .inl mFhd)), (td, .inr (0, [.int lpe, .int ltk, .ref lho, .ref lli, .ref lki, .ref lfd, .ref lfr, .ref lto, .ref lse, .ref lhl])), (lto, .inl (cI, 7, .inl lFto)), (lfr, .inl (cI, 7, .inl lFfr)), (lki, .inl (cI, 5, .inl lFki)), (tr, .inr (2, [.ref td, .ref mo, .ref rd])), (rd, .inl (cI, 5, .inl Frd))] ++ plW cI L) sz (fun (r : Int32) (u : Int32 × Int32 × (Nat → Option Nat) × Int32 × Int32 × Int32 × (Nat → Int32) × (Nat → Int32) × (Nat → Int32) × (Nat → Int32) × (List Mom)) => InPool 14 u.2.2.1 u.2.2.2.2.2.2.2.2.2.2 ∧ Keeps L u.2.2.2.2.2.2.2.2.2.2 ∧ MsOk u.2.2.2.2.2.2.2.2.2.2 ∧ (0 ≤ u.1.toInt ∧ u.1.toInt ≤ 13) ∧ (0 ≤ u.2.1.toInt ∧ u.2.1.toInt ≤ 14) ∧ (0 ≤ u.2.2.2.1.toInt ∧ u.2.2.2.1.toInt ≤ 10)) (fun u => ([(h0, .inr (3, [.ref tx, .int le, .ref td, .ref dr, .ref nw, .ref ac, .int u.1, .int u.2.1, .ref kp, .int ks, .ref sp, .ref ss, .ref sy, .int sc, .long sd, .ref tr, .ref ia])), (ac, .inl (cM, 14, .inr (.inr (.inr (.inr u.2.2.1))))), (nw, .inr (1, [.ref td, .int u.2.2.2.1, .int mt, .int u.2.2.2.2.1, .int u.2.2.2.2.2.1, .ref mat, .ref mfd, .ref mhd])), (mat, .inl (cI, 5, .inl u.2.2.2.2.2.2.1)), (mfd, .inl (cI, 7, .inl u.2.2.2.2.2.2.2.1)), (mhd, .inl (cI, 7, .inl u.2.2.2.2.2.2.2.2.1)), (td, .inr (0, [.int lpe, .int ltk, .ref lho, .ref lli, .ref lki, .ref lfd, .ref lfr, .ref lto, .ref lse, .ref lhl])), (lto, .inl (cI, 7, .inl lFto)), (lfr, .inl (cI, 7, .inl lFfr)), (lki, .inl (cI, 5, .inl lFki)), (tr, .inr (2, [.ref td, .ref mo, .ref rd])), (rd, .inl (cI, 5, .inl u.2.2.2.2.2.2.2.2.2.1))] ++ plW cI u.2.2.2.2.2.2.2.2.2.2)) 4 27 := by
  refine begins (l := l) (y := yX3_day) (ws := wsX3_day) (av := [.ref h0]) (Qc := fun A => va_Qi (fun (r : Int32) (u : Int32 × Int32 × (Nat → Option Nat) × Int32 × Int32 × Int32 × (Nat → Int32) × (Nat → Int32) × (Nat → Int32) × (Nat → Int32) × (List Mom)) => InPool 14 u.2.2.1 u.2.2.2.2.2.2.2.2.2.2 ∧ Keeps L u.2.2.2.2.2.2.2.2.2.2 ∧ MsOk u.2.2.2.2.2.2.2.2.2.2 ∧ (0 ≤ u.1.toInt ∧ u.1.toInt ≤ 13) ∧ (0 ≤ u.2.1.toInt ∧ u.2.1.toInt ≤ 14) ∧ (0 ≤ u.2.2.2.1.toInt ∧ u.2.2.2.1.toInt ≤ 10)) (fun u => Wd D cI cZ cM A ((fun u => ([(h0, .inr (3, [.ref tx, .int le, .ref td, .ref dr, .ref nw, .ref ac, .int u.1, .int u.2.1, .ref kp, .int ks, .ref sp, .ref ss, .ref sy, .int sc, .long sd, .ref tr, .ref ia])), (ac, .inl (cM, 14, .inr (.inr (.inr (.inr u.2.2.1))))), (nw, .inr (1, [.ref td, .int u.2.2.2.1, .int mt, .int u.2.2.2.2.1, .int u.2.2.2.2.2.1, .ref mat, .ref mfd, .ref mhd])), (mat, .inl (cI, 5, .inl u.2.2.2.2.2.2.1)), (mfd, .inl (cI, 7, .inl u.2.2.2.2.2.2.2.1)), (mhd, .inl (cI, 7, .inl u.2.2.2.2.2.2.2.2.1)), (td, .inr (0, [.int lpe, .int ltk, .ref lho, .ref lli, .ref lki, .ref lfd, .ref lfr, .ref lto, .ref lse, .ref lhl])), (lto, .inl (cI, 7, .inl lFto)), (lfr, .inl (cI, 7, .inl lFfr)), (lki, .inl (cI, 5, .inl lFki)), (tr, .inr (2, [.ref td, .ref mo, .ref rd])), (rd, .inl (cI, 5, .inl u.2.2.2.2.2.2.2.2.2.1))] ++ plW cI u.2.2.2.2.2.2.2.2.2.2)) u)) A) cX3_day 1 (some .int) (by decide) rfl (Nat.le_of_ble_eq_true rfl) ?_
  intro p e s m args below meth c R Q A ls hBd hR hQ hA hS hK hP hD hl
  obtain ⟨hx, hb, hr, hts, hown, hlocks, hin, hml⟩ := hBd
  have hl : lv_has ls 1 [(0, .ref h0)] := hl
  have iX3 : ∀ w ∈ wsX30, w ∈ wsX3_day := fun _ h => List.mem_cons_of_mem _ (List.mem_append_left _ (List.mem_append_left _ (List.mem_append_left _ (List.mem_append_right _ h))))
  have iX1 : ∀ w ∈ wsX10, w ∈ wsX3_day := fun _ h => List.mem_cons_of_mem _ (List.mem_append_left _ (List.mem_append_left _ (List.mem_append_right _ h)))
  have iX2 : ∀ w ∈ wsX20, w ∈ wsX3_day := fun _ h => List.mem_cons_of_mem _ (List.mem_append_left _ (List.mem_append_right _ h))
  have iX0 : ∀ w ∈ wsX00, w ∈ wsX3_day := fun _ h => List.mem_cons_of_mem _ (List.mem_append_right _ h)
  obtain ⟨h_faa, h_fab⟩ := h_fa
  obtain ⟨h_ana, h_anb⟩ := h_an
  obtain ⟨h_mda, h_mdb⟩ := h_md
  obtain ⟨h_mta, h_mtb⟩ := h_mt
  obtain ⟨h_lpea, h_lpeb⟩ := h_lpe
  refine lv_aload_n hx hb dX3_day_0 rfl (lv_at hl 0 rfl) ?_
  refine va_get (D := D) (ci := 3) (v := .ref nw) (C := RX3) (T := TX3) (N := 17) hx hb hts iX3 hown hK hP 0 rfl rfl 4 (by decide) (hts (.fieldLink RX3 32 "PunchedTicket" "now" "LPunchedTicket$Moment;") (List.mem_of_getElem? (i := 1) rfl)) (fun _ h9 => h9) rfl dX3_day_1 ?_
  refine va_get (D := D) (ci := 1) (v := .int md) (C := RX1) (T := TX1) (N := 8) hx hb hts iX1 hown hK hP 2 rfl rfl 1 (by decide) (hts (.fieldLink RX3 141 "PunchedTicket$Moment" "day" "I") (List.mem_of_getElem? (i := 2) rfl)) (fun _ h9 => h9) rfl dX3_day_4 ?_
  refine lv_bipush (v := 10) hx hb dX3_day_7 (by decide) ?_
  refine lv_icmp_lt (tgt := 15) hx hb dX3_day_9 (by decide) (fun c_1 => ?_) (fun c_1 => ?_)
  · have tc_1 := b_lt rfl (show (10 : Int32).toInt = 10 by decide) c_1
    refine lv_aload_n hx hb dX3_day_15 rfl (lv_at hl 0 rfl) ?_
    refine gV_v (As := []) (rest := []) ⟨hx, hb, hml, hown, hts⟩ (c_X3_rememberAct l D cI cZ cM h0 tx le td dr nw ac fa an kp ks sp ss sy sc sd tr ia Fac td md mt mr mg mat mfd mhd mFat mFfd mFhd L _ hPool hMs (show 0 ≤ fa.toInt ∧ fa.toInt ≤ 13 by omega) (show 0 ≤ an.toInt ∧ an.toInt ≤ 14 by omega) (show 0 ≤ md.toInt ∧ md.toInt ≤ 10 by omega) (show 0 ≤ mt.toInt ∧ mt.toInt ≤ 6 by omega)) (cwV 0 hts gX3_day_X3_rememberAct rfl rfl rfl (by decide +kernel) ⟨by rw [hR]; decide, by rw [hR]; decide⟩) hK hP hD hS hA [0, 1, 2, 3, 4, 5] [6, 7, 8, 9, 10, 11] rfl rfl (by decide) (by decide) (by decide) rfl 0 rfl hl.1 rfl rfl (Nat.le_of_ble_eq_true rfl) dX3_day_16 ⟨by rw [hR]; decide, by rw [hR]; decide⟩ (fun u_7 H locs hw hP hD hS => ?_)
    obtain ⟨fa1_2, an1_3, Gac_4, L1_5⟩ := u_7
    have hP : va_P D vwCl ([(h0, .inr (3, [.ref tx, .int le, .ref td, .ref dr, .ref nw, .ref ac, .int fa1_2, .int an1_3, .ref kp, .int ks, .ref sp, .ref ss, .ref sy, .int sc, .long sd, .ref tr, .ref ia])), (ac, .inl (cM, 14, .inr (.inr (.inr (.inr Gac_4))))), (nw, .inr (1, [.ref td, .int md, .int mt, .int mr, .int mg, .ref mat, .ref mfd, .ref mhd])), (mat, .inl (cI, 5, .inl mFat)), (mfd, .inl (cI, 7, .inl mFfd)), (mhd, .inl (cI, 7, .inl mFhd)), (td, .inr (0, [.int lpe, .int ltk, .ref lho, .ref lli, .ref lki, .ref lfd, .ref lfr, .ref lto, .ref lse, .ref lhl])), (lto, .inl (cI, 7, .inl lFto)), (lfr, .inl (cI, 7, .inl lFfr)), (lki, .inl (cI, 5, .inl lFki)), (tr, .inr (2, [.ref td, .ref mo, .ref rd])), (rd, .inl (cI, 5, .inl Frd))] ++ plW cI L1_5) H := P_subF hP [6, 7, 8, 9, 10, 11, 0, 1, 2, 3, 4, 5] rfl
    have hD : va_D A ([(h0, .inr (3, [.ref tx, .int le, .ref td, .ref dr, .ref nw, .ref ac, .int fa1_2, .int an1_3, .ref kp, .int ks, .ref sp, .ref ss, .ref sy, .int sc, .long sd, .ref tr, .ref ia])), (ac, .inl (cM, 14, .inr (.inr (.inr (.inr Gac_4))))), (nw, .inr (1, [.ref td, .int md, .int mt, .int mr, .int mg, .ref mat, .ref mfd, .ref mhd])), (mat, .inl (cI, 5, .inl mFat)), (mfd, .inl (cI, 7, .inl mFfd)), (mhd, .inl (cI, 7, .inl mFhd)), (td, .inr (0, [.int lpe, .int ltk, .ref lho, .ref lli, .ref lki, .ref lfd, .ref lfr, .ref lto, .ref lse, .ref lhl])), (lto, .inl (cI, 7, .inl lFto)), (lfr, .inl (cI, 7, .inl lFfr)), (lki, .inl (cI, 5, .inl lFki)), (tr, .inr (2, [.ref td, .ref mo, .ref rd])), (rd, .inl (cI, 5, .inl Frd))] ++ plW cI L1_5) := D_subF hD [6, 7, 8, 9, 10, 11, 0, 1, 2, 3, 4, 5] (by decide) rfl
    refine W.widen (k := 4) (n := 27) (by omega) (by omega) ?_
    have hw : InPool 14 Gac_4 L1_5 ∧ Keeps L L1_5 ∧ MsOk L1_5 ∧ (0 ≤ fa1_2.toInt ∧ fa1_2.toInt ≤ 13) ∧ (0 ≤ an1_3.toInt ∧ an1_3.toInt ≤ 14) := hw
    have hw_8 := hw
    obtain ⟨PL1, PL2, PL3, PL4, PL5⟩ := hw_8
    refine lv_aload_n hx hb dX3_day_19 rfl (lv_at hl 0 rfl) ?_
    refine va_get (D := D) (ci := 3) (v := .ref nw) (C := RX3) (T := TX3) (N := 17) hx hb hts iX3 hown hK hP 0 rfl rfl 4 (by decide) (hts (.fieldLink RX3 32 "PunchedTicket" "now" "LPunchedTicket$Moment;") (List.mem_of_getElem? (i := 1) rfl)) (fun _ h9 => h9) rfl dX3_day_20 ?_
    refine lv_aload_n hx hb dX3_day_23 rfl (lv_at hl 0 rfl) ?_
    refine va_get (D := D) (ci := 3) (v := .ref tr) (C := RX3) (T := TX3) (N := 17) hx hb hts iX3 hown hK hP 0 rfl rfl 15 (by decide) (hts (.fieldLink RX3 71 "PunchedTicket" "trial" "LPunchedTicket$Trial;") (List.mem_of_getElem? (i := 3) rfl)) (fun _ h9 => h9) rfl dX3_day_24 ?_
    refine va_get (D := D) (ci := 2) (v := .ref rd) (C := RX2) (T := TX2) (N := 3) hx hb hts iX2 hown hK hP 10 rfl rfl 2 (by decide) (hts (.fieldLink RX3 147 "PunchedTicket$Trial" "rides" "[I") (List.mem_of_getElem? (i := 4) rfl)) (fun _ h9 => h9) rfl dX3_day_27 ?_
    refine fV_i (As := [.ref rd]) (rest := []) ⟨hx, hb, hml, hown, hts⟩ (c_X1_passDay l D cI cZ cM nw rd td md mt mr mg mat mfd mhd lpe ltk lho lli lki lfd lfr lto lse lhl lFto lFfr lFki mFat mFfd mFhd Frd _ (show 0 ≤ mt.toInt ∧ mt.toInt ≤ 7 by omega) (show 0 ≤ lpe.toInt ∧ lpe.toInt ≤ 5 by omega) (show 0 ≤ md.toInt ∧ md.toInt ≤ 9 by omega)) (cwV 1 hts gX3_day_X1_passDay rfl rfl rfl (by decide +kernel) ⟨by rw [hR]; decide, by rw [hR]; decide⟩) hK hP hD hS hA [2, 6, 7, 8, 9, 3, 4, 5, 11] [0, 1, 10] rfl rfl (by decide) (by decide) (by decide) rfl 2 rfl hl.1 rfl rfl (Nat.le_of_ble_eq_true rfl) dX3_day_30 ⟨by rw [hR]; decide, by rw [hR]; decide⟩ (fun r_16 u_17 H locs hw hP hD hS => ?_)
    obtain ⟨md1_9, mr1_10, mg1_11, Gat_12, Gfd_13, Ghd_14, Grd_15⟩ := u_17
    have hP : va_P D vwCl ([(h0, .inr (3, [.ref tx, .int le, .ref td, .ref dr, .ref nw, .ref ac, .int fa1_2, .int an1_3, .ref kp, .int ks, .ref sp, .ref ss, .ref sy, .int sc, .long sd, .ref tr, .ref ia])), (ac, .inl (cM, 14, .inr (.inr (.inr (.inr Gac_4))))), (nw, .inr (1, [.ref td, .int md1_9, .int mt, .int mr1_10, .int mg1_11, .ref mat, .ref mfd, .ref mhd])), (mat, .inl (cI, 5, .inl Gat_12)), (mfd, .inl (cI, 7, .inl Gfd_13)), (mhd, .inl (cI, 7, .inl Ghd_14)), (td, .inr (0, [.int lpe, .int ltk, .ref lho, .ref lli, .ref lki, .ref lfd, .ref lfr, .ref lto, .ref lse, .ref lhl])), (lto, .inl (cI, 7, .inl lFto)), (lfr, .inl (cI, 7, .inl lFfr)), (lki, .inl (cI, 5, .inl lFki)), (tr, .inr (2, [.ref td, .ref mo, .ref rd])), (rd, .inl (cI, 5, .inl Grd_15))] ++ plW cI L1_5) H := P_subF hP [0, 1, 3, 8, 9, 10, 4, 5, 6, 7, 2, 11] rfl
    have hD : va_D A ([(h0, .inr (3, [.ref tx, .int le, .ref td, .ref dr, .ref nw, .ref ac, .int fa1_2, .int an1_3, .ref kp, .int ks, .ref sp, .ref ss, .ref sy, .int sc, .long sd, .ref tr, .ref ia])), (ac, .inl (cM, 14, .inr (.inr (.inr (.inr Gac_4))))), (nw, .inr (1, [.ref td, .int md1_9, .int mt, .int mr1_10, .int mg1_11, .ref mat, .ref mfd, .ref mhd])), (mat, .inl (cI, 5, .inl Gat_12)), (mfd, .inl (cI, 7, .inl Gfd_13)), (mhd, .inl (cI, 7, .inl Ghd_14)), (td, .inr (0, [.int lpe, .int ltk, .ref lho, .ref lli, .ref lki, .ref lfd, .ref lfr, .ref lto, .ref lse, .ref lhl])), (lto, .inl (cI, 7, .inl lFto)), (lfr, .inl (cI, 7, .inl lFfr)), (lki, .inl (cI, 5, .inl lFki)), (tr, .inr (2, [.ref td, .ref mo, .ref rd])), (rd, .inl (cI, 5, .inl Grd_15))] ++ plW cI L1_5) := D_subF hD [0, 1, 3, 8, 9, 10, 4, 5, 6, 7, 2, 11] (by decide) rfl
    refine W.widen (k := 4) (n := 27) (Nat.le_refl _) (Nat.le_refl _) ?_
    have hw : md1_9.toInt = md.toInt + 1 ∧ (lpe.toInt = 0 → r_16.toInt = 0) := hw
    have hw_18 := hw
    exact ret_i (post := (fun (r : Int32) (u : Int32 × Int32 × (Nat → Option Nat) × Int32 × Int32 × Int32 × (Nat → Int32) × (Nat → Int32) × (Nat → Int32) × (Nat → Int32) × (List Mom)) => InPool 14 u.2.2.1 u.2.2.2.2.2.2.2.2.2.2 ∧ Keeps L u.2.2.2.2.2.2.2.2.2.2 ∧ MsOk u.2.2.2.2.2.2.2.2.2.2 ∧ (0 ≤ u.1.toInt ∧ u.1.toInt ≤ 13) ∧ (0 ≤ u.2.1.toInt ∧ u.2.1.toInt ≤ 14) ∧ (0 ≤ u.2.2.2.1.toInt ∧ u.2.2.2.1.toInt ≤ 10))) (W1 := (fun u => ([(h0, .inr (3, [.ref tx, .int le, .ref td, .ref dr, .ref nw, .ref ac, .int u.1, .int u.2.1, .ref kp, .int ks, .ref sp, .ref ss, .ref sy, .int sc, .long sd, .ref tr, .ref ia])), (ac, .inl (cM, 14, .inr (.inr (.inr (.inr u.2.2.1))))), (nw, .inr (1, [.ref td, .int u.2.2.2.1, .int mt, .int u.2.2.2.2.1, .int u.2.2.2.2.2.1, .ref mat, .ref mfd, .ref mhd])), (mat, .inl (cI, 5, .inl u.2.2.2.2.2.2.1)), (mfd, .inl (cI, 7, .inl u.2.2.2.2.2.2.2.1)), (mhd, .inl (cI, 7, .inl u.2.2.2.2.2.2.2.2.1)), (td, .inr (0, [.int lpe, .int ltk, .ref lho, .ref lli, .ref lki, .ref lfd, .ref lfr, .ref lto, .ref lse, .ref lhl])), (lto, .inl (cI, 7, .inl lFto)), (lfr, .inl (cI, 7, .inl lFfr)), (lki, .inl (cI, 5, .inl lFki)), (tr, .inr (2, [.ref td, .ref mo, .ref rd])), (rd, .inl (cI, 5, .inl u.2.2.2.2.2.2.2.2.2.1))] ++ plW cI u.2.2.2.2.2.2.2.2.2.2))) (fa1_2, an1_3, Gac_4, md1_9, mr1_10, mg1_11, Gat_12, Gfd_13, Ghd_14, Grd_15, L1_5) hx hb hr hlocks rfl hQ hK hP hD hS ⟨by decide, by decide⟩ dX3_day_33 (show InPool 14 Gac_4 L1_5 ∧ Keeps L L1_5 ∧ MsOk L1_5 ∧ (0 ≤ fa1_2.toInt ∧ fa1_2.toInt ≤ 13) ∧ (0 ≤ an1_3.toInt ∧ an1_3.toInt ≤ 14) ∧ (0 ≤ md1_9.toInt ∧ md1_9.toInt ≤ 10) from ⟨PL1, PL2, PL3, by omega, by omega, by omega⟩)
  · have tc_1 := b_nlt rfl (show (10 : Int32).toInt = 10 by decide) c_1
    refine lv_bipush (v := (-3)) hx hb dX3_day_12 (by decide) ?_
    exact ret_i (post := (fun (r : Int32) (u : Int32 × Int32 × (Nat → Option Nat) × Int32 × Int32 × Int32 × (Nat → Int32) × (Nat → Int32) × (Nat → Int32) × (Nat → Int32) × (List Mom)) => InPool 14 u.2.2.1 u.2.2.2.2.2.2.2.2.2.2 ∧ Keeps L u.2.2.2.2.2.2.2.2.2.2 ∧ MsOk u.2.2.2.2.2.2.2.2.2.2 ∧ (0 ≤ u.1.toInt ∧ u.1.toInt ≤ 13) ∧ (0 ≤ u.2.1.toInt ∧ u.2.1.toInt ≤ 14) ∧ (0 ≤ u.2.2.2.1.toInt ∧ u.2.2.2.1.toInt ≤ 10))) (W1 := (fun u => ([(h0, .inr (3, [.ref tx, .int le, .ref td, .ref dr, .ref nw, .ref ac, .int u.1, .int u.2.1, .ref kp, .int ks, .ref sp, .ref ss, .ref sy, .int sc, .long sd, .ref tr, .ref ia])), (ac, .inl (cM, 14, .inr (.inr (.inr (.inr u.2.2.1))))), (nw, .inr (1, [.ref td, .int u.2.2.2.1, .int mt, .int u.2.2.2.2.1, .int u.2.2.2.2.2.1, .ref mat, .ref mfd, .ref mhd])), (mat, .inl (cI, 5, .inl u.2.2.2.2.2.2.1)), (mfd, .inl (cI, 7, .inl u.2.2.2.2.2.2.2.1)), (mhd, .inl (cI, 7, .inl u.2.2.2.2.2.2.2.2.1)), (td, .inr (0, [.int lpe, .int ltk, .ref lho, .ref lli, .ref lki, .ref lfd, .ref lfr, .ref lto, .ref lse, .ref lhl])), (lto, .inl (cI, 7, .inl lFto)), (lfr, .inl (cI, 7, .inl lFfr)), (lki, .inl (cI, 5, .inl lFki)), (tr, .inr (2, [.ref td, .ref mo, .ref rd])), (rd, .inl (cI, 5, .inl u.2.2.2.2.2.2.2.2.2.1))] ++ plW cI u.2.2.2.2.2.2.2.2.2.2))) (fa, an, Fac, md, mr, mg, mFat, mFfd, mFhd, Frd, L) hx hb hr hlocks rfl hQ hK hP hD hS ⟨by decide, by decide⟩ dX3_day_14 (show InPool 14 Fac L ∧ Keeps L L ∧ MsOk L ∧ (0 ≤ fa.toInt ∧ fa.toInt ≤ 13) ∧ (0 ≤ an.toInt ∧ an.toInt ≤ 14) ∧ (0 ≤ md.toInt ∧ md.toInt ≤ 10) from ⟨hPool, keeps_rf, hMs, by omega, by omega, by omega⟩)

set_option maxHeartbeats 600000 in
set_option maxRecDepth 100000 in
theorem c_X3_give (l : Launch) (D : va_G) (cI cZ cM : ClassId) (h0 : Nat) (n : Int32) (k : Int32) (tx : Nat) (le : Int32) (td : Nat) (dr : Nat) (nw : Nat) (ac : Nat) (fa : Int32) (an : Int32) (kp : Nat) (ks : Int32) (sp : Nat) (ss : Nat) (sy : Nat) (sc : Int32) (sd : Int64) (tr : Nat) (ia : Nat) (Fac : Nat → Option Nat) (md : Int32) (mt : Int32) (mr : Int32) (mg : Int32) (mat : Nat) (mfd : Nat) (mhd : Nat) (mFat : Nat → Int32) (mFfd : Nat → Int32) (mFhd : Nat → Int32) (lpe : Int32) (ltk : Int32) (lho : Nat) (lli : Nat) (lki : Nat) (lfd : Nat) (lfr : Nat) (lto : Nat) (lse : Nat) (lhl : Nat) (L : List Mom) (sz : Nat) (hPool : InPool 14 Fac L) (hMs : MsOk L) (h_fa : 0 ≤ fa.toInt ∧ fa.toInt ≤ 13) (h_an : 0 ≤ an.toInt ∧ an.toInt ≤ 14) (h_md : 0 ≤ md.toInt ∧ md.toInt ≤ 10) (h_mt : 0 ≤ mt.toInt ∧ mt.toInt ≤ 6) (h_lpe : 0 ≤ lpe.toInt ∧ lpe.toInt ≤ 5) : Ci l yX3_give wsX3_give ({ frames := 4, cells := 4, slots := 27, locals := 90 } : Room) D cI cZ cM [.ref h0, .int n, .int k] ([(h0, .inr (3, [.ref tx, .int le, .ref td, .ref dr, .ref nw, .ref ac, .int fa, .int an, .ref kp, .int ks, .ref sp, .ref ss, .ref sy, .int sc, .long sd, .ref tr, .ref ia])), (ac, .inl (cM, 14, .inr (.inr (.inr (.inr Fac))))), (nw, .inr (1, [.ref td, .int md, .int mt, .int mr, .int mg, .ref mat, .ref mfd, .ref mhd])), (mat, .inl (cI, 5, .inl mFat)), (mfd, .inl (cI, 7, .inl mFfd)), (mhd, .inl (cI, 7, .inl mFhd)), (td, .inr (0, [.int lpe, .int ltk, .ref lho, .ref lli, .ref lki, .ref lfd, .ref lfr, .ref lto, .ref lse, .ref lhl]))] ++ plW cI L) sz (fun (r : Int32) (u : Int32 × Int32 × (Nat → Option Nat) × (Nat → Int32) × (List Mom)) => InPool 14 u.2.2.1 u.2.2.2.2 ∧ Keeps L u.2.2.2.2 ∧ MsOk u.2.2.2.2 ∧ (0 ≤ u.1.toInt ∧ u.1.toInt ≤ 13) ∧ (0 ≤ u.2.1.toInt ∧ u.2.1.toInt ≤ 14)) (fun u => ([(h0, .inr (3, [.ref tx, .int le, .ref td, .ref dr, .ref nw, .ref ac, .int u.1, .int u.2.1, .ref kp, .int ks, .ref sp, .ref ss, .ref sy, .int sc, .long sd, .ref tr, .ref ia])), (ac, .inl (cM, 14, .inr (.inr (.inr (.inr u.2.2.1))))), (nw, .inr (1, [.ref td, .int md, .int mt, .int mr, .int mg, .ref mat, .ref mfd, .ref mhd])), (mat, .inl (cI, 5, .inl mFat)), (mfd, .inl (cI, 7, .inl mFfd)), (mhd, .inl (cI, 7, .inl u.2.2.2.1)), (td, .inr (0, [.int lpe, .int ltk, .ref lho, .ref lli, .ref lki, .ref lfd, .ref lfr, .ref lto, .ref lse, .ref lhl]))] ++ plW cI u.2.2.2.2)) 4 27 := by
  refine begins (l := l) (y := yX3_give) (ws := wsX3_give) (av := [.ref h0, .int n, .int k]) (Qc := fun A => va_Qi (fun (r : Int32) (u : Int32 × Int32 × (Nat → Option Nat) × (Nat → Int32) × (List Mom)) => InPool 14 u.2.2.1 u.2.2.2.2 ∧ Keeps L u.2.2.2.2 ∧ MsOk u.2.2.2.2 ∧ (0 ≤ u.1.toInt ∧ u.1.toInt ≤ 13) ∧ (0 ≤ u.2.1.toInt ∧ u.2.1.toInt ≤ 14)) (fun u => Wd D cI cZ cM A ((fun u => ([(h0, .inr (3, [.ref tx, .int le, .ref td, .ref dr, .ref nw, .ref ac, .int u.1, .int u.2.1, .ref kp, .int ks, .ref sp, .ref ss, .ref sy, .int sc, .long sd, .ref tr, .ref ia])), (ac, .inl (cM, 14, .inr (.inr (.inr (.inr u.2.2.1))))), (nw, .inr (1, [.ref td, .int md, .int mt, .int mr, .int mg, .ref mat, .ref mfd, .ref mhd])), (mat, .inl (cI, 5, .inl mFat)), (mfd, .inl (cI, 7, .inl mFfd)), (mhd, .inl (cI, 7, .inl u.2.2.2.1)), (td, .inr (0, [.int lpe, .int ltk, .ref lho, .ref lli, .ref lki, .ref lfd, .ref lfr, .ref lto, .ref lse, .ref lhl]))] ++ plW cI u.2.2.2.2)) u)) A) cX3_give 4 (some .int) (by decide) rfl (Nat.le_of_ble_eq_true rfl) ?_
  intro p e s m args below meth c R Q A ls hBd hR hQ hA hS hK hP hD hl
  obtain ⟨hx, hb, hr, hts, hown, hlocks, hin, hml⟩ := hBd
  have hl : lv_has ls 4 [(0, .ref h0), (1, .int n), (2, .int k)] := hl
  have iX3 : ∀ w ∈ wsX30, w ∈ wsX3_give := fun _ h => List.mem_cons_of_mem _ (List.mem_append_left _ (List.mem_append_left _ (List.mem_append_right _ h)))
  have iX1 : ∀ w ∈ wsX10, w ∈ wsX3_give := fun _ h => List.mem_cons_of_mem _ (List.mem_append_left _ (List.mem_append_right _ h))
  have iX0 : ∀ w ∈ wsX00, w ∈ wsX3_give := fun _ h => List.mem_cons_of_mem _ (List.mem_append_right _ h)
  obtain ⟨h_faa, h_fab⟩ := h_fa
  obtain ⟨h_ana, h_anb⟩ := h_an
  obtain ⟨h_mda, h_mdb⟩ := h_md
  obtain ⟨h_mta, h_mtb⟩ := h_mt
  obtain ⟨h_lpea, h_lpeb⟩ := h_lpe
  refine lv_aload_n hx hb dX3_give_0 rfl (lv_at hl 0 rfl) ?_
  refine va_get (D := D) (ci := 3) (v := .ref nw) (C := RX3) (T := TX3) (N := 17) hx hb hts iX3 hown hK hP 0 rfl rfl 4 (by decide) (hts (.fieldLink RX3 32 "PunchedTicket" "now" "LPunchedTicket$Moment;") (List.mem_of_getElem? (i := 1) rfl)) (fun _ h9 => h9) rfl dX3_give_1 ?_
  refine lv_iload_n hx hb dX3_give_4 rfl (lv_at hl 1 rfl) ?_
  refine fV_i (As := [.int n]) (rest := []) ⟨hx, hb, hml, hown, hts⟩ (c_X1_hasTicket l D cI cZ cM nw n td md mt mr mg mat mfd mhd _ ) (cwV 1 hts gX3_give_X1_hasTicket rfl rfl rfl (by decide +kernel) ⟨by rw [hR]; decide, by rw [hR]; decide⟩) hK hP hD hS hA [2] [0, 1, 3, 4, 5, 6] rfl rfl (by decide) (by decide) (by decide) rfl 2 rfl hl.1 rfl rfl (Nat.le_of_ble_eq_true rfl) dX3_give_5 ⟨by rw [hR]; decide, by rw [hR]; decide⟩ (fun r_1 u_2 H locs hw hP hD hS => ?_)
  have hP : va_P D vwCl ([(h0, .inr (3, [.ref tx, .int le, .ref td, .ref dr, .ref nw, .ref ac, .int fa, .int an, .ref kp, .int ks, .ref sp, .ref ss, .ref sy, .int sc, .long sd, .ref tr, .ref ia])), (ac, .inl (cM, 14, .inr (.inr (.inr (.inr Fac))))), (nw, .inr (1, [.ref td, .int md, .int mt, .int mr, .int mg, .ref mat, .ref mfd, .ref mhd])), (mat, .inl (cI, 5, .inl mFat)), (mfd, .inl (cI, 7, .inl mFfd)), (mhd, .inl (cI, 7, .inl mFhd)), (td, .inr (0, [.int lpe, .int ltk, .ref lho, .ref lli, .ref lki, .ref lfd, .ref lfr, .ref lto, .ref lse, .ref lhl]))] ++ plW cI L) H := P_subF hP [0, 1, 6, 2, 3, 4, 5] rfl
  have hD : va_D A ([(h0, .inr (3, [.ref tx, .int le, .ref td, .ref dr, .ref nw, .ref ac, .int fa, .int an, .ref kp, .int ks, .ref sp, .ref ss, .ref sy, .int sc, .long sd, .ref tr, .ref ia])), (ac, .inl (cM, 14, .inr (.inr (.inr (.inr Fac))))), (nw, .inr (1, [.ref td, .int md, .int mt, .int mr, .int mg, .ref mat, .ref mfd, .ref mhd])), (mat, .inl (cI, 5, .inl mFat)), (mfd, .inl (cI, 7, .inl mFfd)), (mhd, .inl (cI, 7, .inl mFhd)), (td, .inr (0, [.int lpe, .int ltk, .ref lho, .ref lli, .ref lki, .ref lfd, .ref lfr, .ref lto, .ref lse, .ref lhl]))] ++ plW cI L) := D_subF hD [0, 1, 6, 2, 3, 4, 5] (by decide) rfl
  refine W.widen (k := 0) (n := 0) (Nat.le_refl _) (Nat.le_refl _) ?_
  have hw : (r_1.toInt = 1 ∧ 0 ≤ n.toInt ∧ n.toInt < mt.toInt) ∨ (r_1.toInt = 0 ∧ (n.toInt < 0 ∨ mt.toInt ≤ n.toInt)) := hw
  have hw_3 := hw
  refine lv_if_eq (tgt := 22) hx hb dX3_give_8 (by decide) (fun c_4 => ?_) (fun c_4 => ?_)
  · have tc_4 := b_eq rfl (show (0 : Int32).toInt = 0 by decide) c_4
    refine lv_iconst (v := (-1)) hx hb dX3_give_22 (by decide) ?_
    exact ret_i (post := (fun (r : Int32) (u : Int32 × Int32 × (Nat → Option Nat) × (Nat → Int32) × (List Mom)) => InPool 14 u.2.2.1 u.2.2.2.2 ∧ Keeps L u.2.2.2.2 ∧ MsOk u.2.2.2.2 ∧ (0 ≤ u.1.toInt ∧ u.1.toInt ≤ 13) ∧ (0 ≤ u.2.1.toInt ∧ u.2.1.toInt ≤ 14))) (W1 := (fun u => ([(h0, .inr (3, [.ref tx, .int le, .ref td, .ref dr, .ref nw, .ref ac, .int u.1, .int u.2.1, .ref kp, .int ks, .ref sp, .ref ss, .ref sy, .int sc, .long sd, .ref tr, .ref ia])), (ac, .inl (cM, 14, .inr (.inr (.inr (.inr u.2.2.1))))), (nw, .inr (1, [.ref td, .int md, .int mt, .int mr, .int mg, .ref mat, .ref mfd, .ref mhd])), (mat, .inl (cI, 5, .inl mFat)), (mfd, .inl (cI, 7, .inl mFfd)), (mhd, .inl (cI, 7, .inl u.2.2.2.1)), (td, .inr (0, [.int lpe, .int ltk, .ref lho, .ref lli, .ref lki, .ref lfd, .ref lfr, .ref lto, .ref lse, .ref lhl]))] ++ plW cI u.2.2.2.2))) (fa, an, Fac, mFhd, L) hx hb hr hlocks rfl hQ hK hP hD hS ⟨by decide, by decide⟩ dX3_give_23 (show InPool 14 Fac L ∧ Keeps L L ∧ MsOk L ∧ (0 ≤ fa.toInt ∧ fa.toInt ≤ 13) ∧ (0 ≤ an.toInt ∧ an.toInt ≤ 14) from ⟨hPool, keeps_rf, hMs, by omega, by omega⟩)
  · have tc_4 := b_ne rfl (show (0 : Int32).toInt = 0 by decide) c_4
    refine lv_aload_n hx hb dX3_give_11 rfl (lv_at hl 0 rfl) ?_
    refine va_get (D := D) (ci := 3) (v := .ref td) (C := RX3) (T := TX3) (N := 17) hx hb hts iX3 hown hK hP 0 rfl rfl 2 (by decide) (hts (.fieldLink RX3 20 "PunchedTicket" "told" "LPunchedTicket$Line;") (List.mem_of_getElem? (i := 2) rfl)) (fun _ h9 => h9) rfl dX3_give_12 ?_
    refine lv_iload_n hx hb dX3_give_15 rfl (lv_at hl 2 rfl) ?_
    refine fV_i (As := [.int k]) (rest := []) ⟨hx, hb, hml, hown, hts⟩ (c_X0_hasPerson l D cI cZ cM td k lpe ltk lho lli lki lfd lfr lto lse lhl _ ) (cwV 1 hts gX3_give_X0_hasPerson rfl rfl rfl (by decide +kernel) ⟨by rw [hR]; decide, by rw [hR]; decide⟩) hK hP hD hS hA [6] [0, 1, 2, 3, 4, 5] rfl rfl (by decide) (by decide) (by decide) rfl 6 rfl hl.1 rfl rfl (Nat.le_of_ble_eq_true rfl) dX3_give_16 ⟨by rw [hR]; decide, by rw [hR]; decide⟩ (fun r_5 u_6 H locs hw hP hD hS => ?_)
    have hP : va_P D vwCl ([(h0, .inr (3, [.ref tx, .int le, .ref td, .ref dr, .ref nw, .ref ac, .int fa, .int an, .ref kp, .int ks, .ref sp, .ref ss, .ref sy, .int sc, .long sd, .ref tr, .ref ia])), (ac, .inl (cM, 14, .inr (.inr (.inr (.inr Fac))))), (nw, .inr (1, [.ref td, .int md, .int mt, .int mr, .int mg, .ref mat, .ref mfd, .ref mhd])), (mat, .inl (cI, 5, .inl mFat)), (mfd, .inl (cI, 7, .inl mFfd)), (mhd, .inl (cI, 7, .inl mFhd)), (td, .inr (0, [.int lpe, .int ltk, .ref lho, .ref lli, .ref lki, .ref lfd, .ref lfr, .ref lto, .ref lse, .ref lhl]))] ++ plW cI L) H := P_subF hP [0, 1, 2, 3, 4, 5, 6] rfl
    have hD : va_D A ([(h0, .inr (3, [.ref tx, .int le, .ref td, .ref dr, .ref nw, .ref ac, .int fa, .int an, .ref kp, .int ks, .ref sp, .ref ss, .ref sy, .int sc, .long sd, .ref tr, .ref ia])), (ac, .inl (cM, 14, .inr (.inr (.inr (.inr Fac))))), (nw, .inr (1, [.ref td, .int md, .int mt, .int mr, .int mg, .ref mat, .ref mfd, .ref mhd])), (mat, .inl (cI, 5, .inl mFat)), (mfd, .inl (cI, 7, .inl mFfd)), (mhd, .inl (cI, 7, .inl mFhd)), (td, .inr (0, [.int lpe, .int ltk, .ref lho, .ref lli, .ref lki, .ref lfd, .ref lfr, .ref lto, .ref lse, .ref lhl]))] ++ plW cI L) := D_subF hD [0, 1, 2, 3, 4, 5, 6] (by decide) rfl
    refine W.widen (k := 0) (n := 0) (Nat.le_refl _) (Nat.le_refl _) ?_
    have hw : (r_5.toInt = 1 ∧ 0 ≤ k.toInt ∧ k.toInt < lpe.toInt) ∨ (r_5.toInt = 0 ∧ (k.toInt < 0 ∨ lpe.toInt ≤ k.toInt)) := hw
    have hw_7 := hw
    refine lv_if_ne (tgt := 24) hx hb dX3_give_19 (by decide) (fun c_8 => ?_) (fun c_8 => ?_)
    · have tc_8 := b_ne rfl (show (0 : Int32).toInt = 0 by decide) c_8
      have hn1 : 0 ≤ n.toInt := by omega
      have hn2 : n.toInt ≤ 5 := by omega
      refine lv_aload_n hx hb dX3_give_24 rfl (lv_at hl 0 rfl) ?_
      refine va_get (D := D) (ci := 3) (v := .ref nw) (C := RX3) (T := TX3) (N := 17) hx hb hts iX3 hown hK hP 0 rfl rfl 4 (by decide) (hts (.fieldLink RX3 32 "PunchedTicket" "now" "LPunchedTicket$Moment;") (List.mem_of_getElem? (i := 1) rfl)) (fun _ h9 => h9) rfl dX3_give_25 ?_
      refine lv_iload_n hx hb dX3_give_28 rfl (lv_at hl 1 rfl) ?_
      refine lv_iload_n hx hb dX3_give_29 rfl (lv_at hl 2 rfl) ?_
      refine fV_i (As := [.int n, .int k]) (rest := []) ⟨hx, hb, hml, hown, hts⟩ (c_X1_canBeGiven l D cI cZ cM nw n k td md mt mr mg mat mfd mhd mFhd _ (show 0 ≤ n.toInt ∧ n.toInt ≤ 6 by omega)) (cwV 2 hts gX3_give_X1_canBeGiven rfl rfl rfl (by decide +kernel) ⟨by rw [hR]; decide, by rw [hR]; decide⟩) hK hP hD hS hA [2, 5] [0, 1, 3, 4, 6] rfl rfl (by decide) (by decide) (by decide) rfl 2 rfl hl.1 rfl rfl (Nat.le_of_ble_eq_true rfl) dX3_give_30 ⟨by rw [hR]; decide, by rw [hR]; decide⟩ (fun r_9 u_10 H locs hw hP hD hS => ?_)
      have hP : va_P D vwCl ([(h0, .inr (3, [.ref tx, .int le, .ref td, .ref dr, .ref nw, .ref ac, .int fa, .int an, .ref kp, .int ks, .ref sp, .ref ss, .ref sy, .int sc, .long sd, .ref tr, .ref ia])), (ac, .inl (cM, 14, .inr (.inr (.inr (.inr Fac))))), (nw, .inr (1, [.ref td, .int md, .int mt, .int mr, .int mg, .ref mat, .ref mfd, .ref mhd])), (mat, .inl (cI, 5, .inl mFat)), (mfd, .inl (cI, 7, .inl mFfd)), (mhd, .inl (cI, 7, .inl mFhd)), (td, .inr (0, [.int lpe, .int ltk, .ref lho, .ref lli, .ref lki, .ref lfd, .ref lfr, .ref lto, .ref lse, .ref lhl]))] ++ plW cI L) H := P_subF hP [0, 1, 5, 2, 3, 6, 4] rfl
      have hD : va_D A ([(h0, .inr (3, [.ref tx, .int le, .ref td, .ref dr, .ref nw, .ref ac, .int fa, .int an, .ref kp, .int ks, .ref sp, .ref ss, .ref sy, .int sc, .long sd, .ref tr, .ref ia])), (ac, .inl (cM, 14, .inr (.inr (.inr (.inr Fac))))), (nw, .inr (1, [.ref td, .int md, .int mt, .int mr, .int mg, .ref mat, .ref mfd, .ref mhd])), (mat, .inl (cI, 5, .inl mFat)), (mfd, .inl (cI, 7, .inl mFfd)), (mhd, .inl (cI, 7, .inl mFhd)), (td, .inr (0, [.int lpe, .int ltk, .ref lho, .ref lli, .ref lki, .ref lfd, .ref lfr, .ref lto, .ref lse, .ref lhl]))] ++ plW cI L) := D_subF hD [0, 1, 5, 2, 3, 6, 4] (by decide) rfl
      refine W.widen (k := 0) (n := 0) (Nat.le_refl _) (Nat.le_refl _) ?_
      have hw : (r_9.toInt = 0 ∨ r_9.toInt = 1) := hw
      have hw_11 := hw
      refine lv_if_ne (tgt := 39) hx hb dX3_give_33 (by decide) (fun c_12 => ?_) (fun c_12 => ?_)
      · have tc_12 := b_ne rfl (show (0 : Int32).toInt = 0 by decide) c_12
        refine lv_aload_n hx hb dX3_give_39 rfl (lv_at hl 0 rfl) ?_
        refine gV_v (As := []) (rest := []) ⟨hx, hb, hml, hown, hts⟩ (c_X3_rememberAct l D cI cZ cM h0 tx le td dr nw ac fa an kp ks sp ss sy sc sd tr ia Fac td md mt mr mg mat mfd mhd mFat mFfd mFhd L _ hPool hMs (show 0 ≤ fa.toInt ∧ fa.toInt ≤ 13 by omega) (show 0 ≤ an.toInt ∧ an.toInt ≤ 14 by omega) (show 0 ≤ md.toInt ∧ md.toInt ≤ 10 by omega) (show 0 ≤ mt.toInt ∧ mt.toInt ≤ 6 by omega)) (cwV 0 hts gX3_give_X3_rememberAct rfl rfl rfl (by decide +kernel) ⟨by rw [hR]; decide, by rw [hR]; decide⟩) hK hP hD hS hA [0, 1, 2, 3, 4, 5] [6] rfl rfl (by decide) (by decide) (by decide) rfl 0 rfl hl.1 rfl rfl (Nat.le_of_ble_eq_true rfl) dX3_give_40 ⟨by rw [hR]; decide, by rw [hR]; decide⟩ (fun u_18 H locs hw hP hD hS => ?_)
        obtain ⟨fa1_13, an1_14, Gac_15, L1_16⟩ := u_18
        have hP : va_P D vwCl ([(h0, .inr (3, [.ref tx, .int le, .ref td, .ref dr, .ref nw, .ref ac, .int fa1_13, .int an1_14, .ref kp, .int ks, .ref sp, .ref ss, .ref sy, .int sc, .long sd, .ref tr, .ref ia])), (ac, .inl (cM, 14, .inr (.inr (.inr (.inr Gac_15))))), (nw, .inr (1, [.ref td, .int md, .int mt, .int mr, .int mg, .ref mat, .ref mfd, .ref mhd])), (mat, .inl (cI, 5, .inl mFat)), (mfd, .inl (cI, 7, .inl mFfd)), (mhd, .inl (cI, 7, .inl mFhd)), (td, .inr (0, [.int lpe, .int ltk, .ref lho, .ref lli, .ref lki, .ref lfd, .ref lfr, .ref lto, .ref lse, .ref lhl]))] ++ plW cI L1_16) H := P_subF hP [1, 2, 3, 4, 5, 6, 0] rfl
        have hD : va_D A ([(h0, .inr (3, [.ref tx, .int le, .ref td, .ref dr, .ref nw, .ref ac, .int fa1_13, .int an1_14, .ref kp, .int ks, .ref sp, .ref ss, .ref sy, .int sc, .long sd, .ref tr, .ref ia])), (ac, .inl (cM, 14, .inr (.inr (.inr (.inr Gac_15))))), (nw, .inr (1, [.ref td, .int md, .int mt, .int mr, .int mg, .ref mat, .ref mfd, .ref mhd])), (mat, .inl (cI, 5, .inl mFat)), (mfd, .inl (cI, 7, .inl mFfd)), (mhd, .inl (cI, 7, .inl mFhd)), (td, .inr (0, [.int lpe, .int ltk, .ref lho, .ref lli, .ref lki, .ref lfd, .ref lfr, .ref lto, .ref lse, .ref lhl]))] ++ plW cI L1_16) := D_subF hD [1, 2, 3, 4, 5, 6, 0] (by decide) rfl
        refine W.widen (k := 4) (n := 27) (by omega) (by omega) ?_
        have hw : InPool 14 Gac_15 L1_16 ∧ Keeps L L1_16 ∧ MsOk L1_16 ∧ (0 ≤ fa1_13.toInt ∧ fa1_13.toInt ≤ 13) ∧ (0 ≤ an1_14.toInt ∧ an1_14.toInt ≤ 14) := hw
        have hw_19 := hw
        obtain ⟨PL1, PL2, PL3, PL4, PL5⟩ := hw_19
        refine lv_aload_n hx hb dX3_give_43 rfl (lv_at hl 0 rfl) ?_
        refine va_get (D := D) (ci := 3) (v := .ref nw) (C := RX3) (T := TX3) (N := 17) hx hb hts iX3 hown hK hP 0 rfl rfl 4 (by decide) (hts (.fieldLink RX3 32 "PunchedTicket" "now" "LPunchedTicket$Moment;") (List.mem_of_getElem? (i := 1) rfl)) (fun _ h9 => h9) rfl dX3_give_44 ?_
        refine va_get (D := D) (ci := 1) (v := .ref mhd) (C := RX1) (T := TX1) (N := 8) hx hb hts iX1 hown hK hP 2 rfl rfl 7 (by decide) (hts (.fieldLink RX3 132 "PunchedTicket$Moment" "holder" "[I") (List.mem_of_getElem? (i := 3) rfl)) (fun _ h9 => h9) rfl dX3_give_47 ?_
        refine lv_iload_n hx hb dX3_give_50 rfl (lv_at hl 1 rfl) ?_
        refine va_iald hx hb hK hP 5 0 rfl rfl (vp_in_iff.mpr ⟨by omega, by omega⟩) dX3_give_51 ?_
        refine lv_topi (fun v_20 ev_20 => ?_)
        refine lv_istore_n (lv' := [(3, .int v_20), (0, .ref h0), (1, .int n), (2, .int k)]) hx hb dX3_give_52 rfl hl (by decide) rfl (fun ls hl => ?_)
        refine lv_aload_n hx hb dX3_give_53 rfl (lv_at hl 1 rfl) ?_
        refine va_get (D := D) (ci := 3) (v := .ref nw) (C := RX3) (T := TX3) (N := 17) hx hb hts iX3 hown hK hP 0 rfl rfl 4 (by decide) (hts (.fieldLink RX3 32 "PunchedTicket" "now" "LPunchedTicket$Moment;") (List.mem_of_getElem? (i := 1) rfl)) (fun _ h9 => h9) rfl dX3_give_54 ?_
        refine va_get (D := D) (ci := 1) (v := .ref mhd) (C := RX1) (T := TX1) (N := 8) hx hb hts iX1 hown hK hP 2 rfl rfl 7 (by decide) (hts (.fieldLink RX3 132 "PunchedTicket$Moment" "holder" "[I") (List.mem_of_getElem? (i := 3) rfl)) (fun _ h9 => h9) rfl dX3_give_57 ?_
        refine lv_iload_n hx hb dX3_give_60 rfl (lv_at hl 2 rfl) ?_
        refine lv_iload_n hx hb dX3_give_61 rfl (lv_at hl 3 rfl) ?_
        refine va_iast hx hb hK hP hD hS 5 0 rfl rfl (vp_in_iff.mpr ⟨by omega, by omega⟩) dX3_give_62 (fun H locs hP hD hS => ?_)
        obtain ⟨f_21, ef_21⟩ : ∃ g : Nat → Int32, upd mFhd (n : Int32).toNatClampNeg k = g := ⟨_, rfl⟩
        rw [ef_21] at hP hD
        have hP : va_P D vwCl ([(h0, .inr (3, [.ref tx, .int le, .ref td, .ref dr, .ref nw, .ref ac, .int fa1_13, .int an1_14, .ref kp, .int ks, .ref sp, .ref ss, .ref sy, .int sc, .long sd, .ref tr, .ref ia])), (ac, .inl (cM, 14, .inr (.inr (.inr (.inr Gac_15))))), (nw, .inr (1, [.ref td, .int md, .int mt, .int mr, .int mg, .ref mat, .ref mfd, .ref mhd])), (mat, .inl (cI, 5, .inl mFat)), (mfd, .inl (cI, 7, .inl mFfd)), (mhd, .inl (cI, 7, .inl f_21)), (td, .inr (0, [.int lpe, .int ltk, .ref lho, .ref lli, .ref lki, .ref lfd, .ref lfr, .ref lto, .ref lse, .ref lhl]))] ++ plW cI L1_16) H := hP
        have hD : va_D A ([(h0, .inr (3, [.ref tx, .int le, .ref td, .ref dr, .ref nw, .ref ac, .int fa1_13, .int an1_14, .ref kp, .int ks, .ref sp, .ref ss, .ref sy, .int sc, .long sd, .ref tr, .ref ia])), (ac, .inl (cM, 14, .inr (.inr (.inr (.inr Gac_15))))), (nw, .inr (1, [.ref td, .int md, .int mt, .int mr, .int mg, .ref mat, .ref mfd, .ref mhd])), (mat, .inl (cI, 5, .inl mFat)), (mfd, .inl (cI, 7, .inl mFfd)), (mhd, .inl (cI, 7, .inl f_21)), (td, .inr (0, [.int lpe, .int ltk, .ref lho, .ref lli, .ref lki, .ref lfd, .ref lfr, .ref lto, .ref lse, .ref lhl]))] ++ plW cI L1_16) := hD
        refine lv_iload_n hx hb dX3_give_63 rfl (lv_at hl 0 rfl) ?_
        exact ret_i (post := (fun (r : Int32) (u : Int32 × Int32 × (Nat → Option Nat) × (Nat → Int32) × (List Mom)) => InPool 14 u.2.2.1 u.2.2.2.2 ∧ Keeps L u.2.2.2.2 ∧ MsOk u.2.2.2.2 ∧ (0 ≤ u.1.toInt ∧ u.1.toInt ≤ 13) ∧ (0 ≤ u.2.1.toInt ∧ u.2.1.toInt ≤ 14))) (W1 := (fun u => ([(h0, .inr (3, [.ref tx, .int le, .ref td, .ref dr, .ref nw, .ref ac, .int u.1, .int u.2.1, .ref kp, .int ks, .ref sp, .ref ss, .ref sy, .int sc, .long sd, .ref tr, .ref ia])), (ac, .inl (cM, 14, .inr (.inr (.inr (.inr u.2.2.1))))), (nw, .inr (1, [.ref td, .int md, .int mt, .int mr, .int mg, .ref mat, .ref mfd, .ref mhd])), (mat, .inl (cI, 5, .inl mFat)), (mfd, .inl (cI, 7, .inl mFfd)), (mhd, .inl (cI, 7, .inl u.2.2.2.1)), (td, .inr (0, [.int lpe, .int ltk, .ref lho, .ref lli, .ref lki, .ref lfd, .ref lfr, .ref lto, .ref lse, .ref lhl]))] ++ plW cI u.2.2.2.2))) (fa1_13, an1_14, Gac_15, f_21, L1_16) hx hb hr hlocks rfl hQ hK hP hD hS ⟨by decide, by decide⟩ dX3_give_64 (show InPool 14 Gac_15 L1_16 ∧ Keeps L L1_16 ∧ MsOk L1_16 ∧ (0 ≤ fa1_13.toInt ∧ fa1_13.toInt ≤ 13) ∧ (0 ≤ an1_14.toInt ∧ an1_14.toInt ≤ 14) from ⟨PL1, PL2, PL3, by omega, by omega⟩)
      · have tc_12 := b_eq rfl (show (0 : Int32).toInt = 0 by decide) c_12
        refine lv_bipush (v := (-3)) hx hb dX3_give_36 (by decide) ?_
        exact ret_i (post := (fun (r : Int32) (u : Int32 × Int32 × (Nat → Option Nat) × (Nat → Int32) × (List Mom)) => InPool 14 u.2.2.1 u.2.2.2.2 ∧ Keeps L u.2.2.2.2 ∧ MsOk u.2.2.2.2 ∧ (0 ≤ u.1.toInt ∧ u.1.toInt ≤ 13) ∧ (0 ≤ u.2.1.toInt ∧ u.2.1.toInt ≤ 14))) (W1 := (fun u => ([(h0, .inr (3, [.ref tx, .int le, .ref td, .ref dr, .ref nw, .ref ac, .int u.1, .int u.2.1, .ref kp, .int ks, .ref sp, .ref ss, .ref sy, .int sc, .long sd, .ref tr, .ref ia])), (ac, .inl (cM, 14, .inr (.inr (.inr (.inr u.2.2.1))))), (nw, .inr (1, [.ref td, .int md, .int mt, .int mr, .int mg, .ref mat, .ref mfd, .ref mhd])), (mat, .inl (cI, 5, .inl mFat)), (mfd, .inl (cI, 7, .inl mFfd)), (mhd, .inl (cI, 7, .inl u.2.2.2.1)), (td, .inr (0, [.int lpe, .int ltk, .ref lho, .ref lli, .ref lki, .ref lfd, .ref lfr, .ref lto, .ref lse, .ref lhl]))] ++ plW cI u.2.2.2.2))) (fa, an, Fac, mFhd, L) hx hb hr hlocks rfl hQ hK hP hD hS ⟨by decide, by decide⟩ dX3_give_38 (show InPool 14 Fac L ∧ Keeps L L ∧ MsOk L ∧ (0 ≤ fa.toInt ∧ fa.toInt ≤ 13) ∧ (0 ≤ an.toInt ∧ an.toInt ≤ 14) from ⟨hPool, keeps_rf, hMs, by omega, by omega⟩)
    · have tc_8 := b_eq rfl (show (0 : Int32).toInt = 0 by decide) c_8
      refine lv_iconst (v := (-1)) hx hb dX3_give_22 (by decide) ?_
      exact ret_i (post := (fun (r : Int32) (u : Int32 × Int32 × (Nat → Option Nat) × (Nat → Int32) × (List Mom)) => InPool 14 u.2.2.1 u.2.2.2.2 ∧ Keeps L u.2.2.2.2 ∧ MsOk u.2.2.2.2 ∧ (0 ≤ u.1.toInt ∧ u.1.toInt ≤ 13) ∧ (0 ≤ u.2.1.toInt ∧ u.2.1.toInt ≤ 14))) (W1 := (fun u => ([(h0, .inr (3, [.ref tx, .int le, .ref td, .ref dr, .ref nw, .ref ac, .int u.1, .int u.2.1, .ref kp, .int ks, .ref sp, .ref ss, .ref sy, .int sc, .long sd, .ref tr, .ref ia])), (ac, .inl (cM, 14, .inr (.inr (.inr (.inr u.2.2.1))))), (nw, .inr (1, [.ref td, .int md, .int mt, .int mr, .int mg, .ref mat, .ref mfd, .ref mhd])), (mat, .inl (cI, 5, .inl mFat)), (mfd, .inl (cI, 7, .inl mFfd)), (mhd, .inl (cI, 7, .inl u.2.2.2.1)), (td, .inr (0, [.int lpe, .int ltk, .ref lho, .ref lli, .ref lki, .ref lfd, .ref lfr, .ref lto, .ref lse, .ref lhl]))] ++ plW cI u.2.2.2.2))) (fa, an, Fac, mFhd, L) hx hb hr hlocks rfl hQ hK hP hD hS ⟨by decide, by decide⟩ dX3_give_23 (show InPool 14 Fac L ∧ Keeps L L ∧ MsOk L ∧ (0 ≤ fa.toInt ∧ fa.toInt ≤ 13) ∧ (0 ≤ an.toInt ∧ an.toInt ≤ 14) from ⟨hPool, keeps_rf, hMs, by omega, by omega⟩)

set_option maxHeartbeats 600000 in
set_option maxRecDepth 100000 in
theorem c_X3_lose (l : Launch) (D : va_G) (cI cZ cM : ClassId) (h0 : Nat) (n : Int32) (tx : Nat) (le : Int32) (td : Nat) (dr : Nat) (nw : Nat) (ac : Nat) (fa : Int32) (an : Int32) (kp : Nat) (ks : Int32) (sp : Nat) (ss : Nat) (sy : Nat) (sc : Int32) (sd : Int64) (tr : Nat) (ia : Nat) (Fac : Nat → Option Nat) (md : Int32) (mt : Int32) (mr : Int32) (mg : Int32) (mat : Nat) (mfd : Nat) (mhd : Nat) (mFat : Nat → Int32) (mFfd : Nat → Int32) (mFhd : Nat → Int32) (L : List Mom) (sz : Nat) (hPool : InPool 14 Fac L) (hMs : MsOk L) (h_fa : 0 ≤ fa.toInt ∧ fa.toInt ≤ 13) (h_an : 0 ≤ an.toInt ∧ an.toInt ≤ 14) (h_md : 0 ≤ md.toInt ∧ md.toInt ≤ 10) (h_mt : 0 ≤ mt.toInt ∧ mt.toInt ≤ 6) : Ci l yX3_lose wsX3_lose ({ frames := 4, cells := 4, slots := 27, locals := 90 } : Room) D cI cZ cM [.ref h0, .int n] ([(h0, .inr (3, [.ref tx, .int le, .ref td, .ref dr, .ref nw, .ref ac, .int fa, .int an, .ref kp, .int ks, .ref sp, .ref ss, .ref sy, .int sc, .long sd, .ref tr, .ref ia])), (ac, .inl (cM, 14, .inr (.inr (.inr (.inr Fac))))), (nw, .inr (1, [.ref td, .int md, .int mt, .int mr, .int mg, .ref mat, .ref mfd, .ref mhd])), (mat, .inl (cI, 5, .inl mFat)), (mfd, .inl (cI, 7, .inl mFfd)), (mhd, .inl (cI, 7, .inl mFhd))] ++ plW cI L) sz (fun (r : Int32) (u : Int32 × Int32 × (Nat → Option Nat) × Int32 × (List Mom)) => InPool 14 u.2.2.1 u.2.2.2.2 ∧ Keeps L u.2.2.2.2 ∧ MsOk u.2.2.2.2 ∧ (0 ≤ u.1.toInt ∧ u.1.toInt ≤ 13) ∧ (0 ≤ u.2.1.toInt ∧ u.2.1.toInt ≤ 14)) (fun u => ([(h0, .inr (3, [.ref tx, .int le, .ref td, .ref dr, .ref nw, .ref ac, .int u.1, .int u.2.1, .ref kp, .int ks, .ref sp, .ref ss, .ref sy, .int sc, .long sd, .ref tr, .ref ia])), (ac, .inl (cM, 14, .inr (.inr (.inr (.inr u.2.2.1))))), (nw, .inr (1, [.ref td, .int md, .int mt, .int mr, .int u.2.2.2.1, .ref mat, .ref mfd, .ref mhd])), (mat, .inl (cI, 5, .inl mFat)), (mfd, .inl (cI, 7, .inl mFfd)), (mhd, .inl (cI, 7, .inl mFhd))] ++ plW cI u.2.2.2.2)) 4 27 := by
  refine begins (l := l) (y := yX3_lose) (ws := wsX3_lose) (av := [.ref h0, .int n]) (Qc := fun A => va_Qi (fun (r : Int32) (u : Int32 × Int32 × (Nat → Option Nat) × Int32 × (List Mom)) => InPool 14 u.2.2.1 u.2.2.2.2 ∧ Keeps L u.2.2.2.2 ∧ MsOk u.2.2.2.2 ∧ (0 ≤ u.1.toInt ∧ u.1.toInt ≤ 13) ∧ (0 ≤ u.2.1.toInt ∧ u.2.1.toInt ≤ 14)) (fun u => Wd D cI cZ cM A ((fun u => ([(h0, .inr (3, [.ref tx, .int le, .ref td, .ref dr, .ref nw, .ref ac, .int u.1, .int u.2.1, .ref kp, .int ks, .ref sp, .ref ss, .ref sy, .int sc, .long sd, .ref tr, .ref ia])), (ac, .inl (cM, 14, .inr (.inr (.inr (.inr u.2.2.1))))), (nw, .inr (1, [.ref td, .int md, .int mt, .int mr, .int u.2.2.2.1, .ref mat, .ref mfd, .ref mhd])), (mat, .inl (cI, 5, .inl mFat)), (mfd, .inl (cI, 7, .inl mFfd)), (mhd, .inl (cI, 7, .inl mFhd))] ++ plW cI u.2.2.2.2)) u)) A) cX3_lose 2 (some .int) (by decide) rfl (Nat.le_of_ble_eq_true rfl) ?_
  intro p e s m args below meth c R Q A ls hBd hR hQ hA hS hK hP hD hl
  obtain ⟨hx, hb, hr, hts, hown, hlocks, hin, hml⟩ := hBd
  have hl : lv_has ls 2 [(0, .ref h0), (1, .int n)] := hl
  have iX3 : ∀ w ∈ wsX30, w ∈ wsX3_lose := fun _ h => List.mem_cons_of_mem _ (List.mem_append_left _ (List.mem_append_right _ h))
  have iX1 : ∀ w ∈ wsX10, w ∈ wsX3_lose := fun _ h => List.mem_cons_of_mem _ (List.mem_append_right _ h)
  obtain ⟨h_faa, h_fab⟩ := h_fa
  obtain ⟨h_ana, h_anb⟩ := h_an
  obtain ⟨h_mda, h_mdb⟩ := h_md
  obtain ⟨h_mta, h_mtb⟩ := h_mt
  refine lv_aload_n hx hb dX3_lose_0 rfl (lv_at hl 0 rfl) ?_
  refine va_get (D := D) (ci := 3) (v := .ref nw) (C := RX3) (T := TX3) (N := 17) hx hb hts iX3 hown hK hP 0 rfl rfl 4 (by decide) (hts (.fieldLink RX3 32 "PunchedTicket" "now" "LPunchedTicket$Moment;") (List.mem_of_getElem? (i := 1) rfl)) (fun _ h9 => h9) rfl dX3_lose_1 ?_
  refine lv_iload_n hx hb dX3_lose_4 rfl (lv_at hl 1 rfl) ?_
  refine fV_i (As := [.int n]) (rest := []) ⟨hx, hb, hml, hown, hts⟩ (c_X1_hasTicket l D cI cZ cM nw n td md mt mr mg mat mfd mhd _ ) (cwV 1 hts gX3_lose_X1_hasTicket rfl rfl rfl (by decide +kernel) ⟨by rw [hR]; decide, by rw [hR]; decide⟩) hK hP hD hS hA [2] [0, 1, 3, 4, 5] rfl rfl (by decide) (by decide) (by decide) rfl 2 rfl hl.1 rfl rfl (Nat.le_of_ble_eq_true rfl) dX3_lose_5 ⟨by rw [hR]; decide, by rw [hR]; decide⟩ (fun r_1 u_2 H locs hw hP hD hS => ?_)
  have hP : va_P D vwCl ([(h0, .inr (3, [.ref tx, .int le, .ref td, .ref dr, .ref nw, .ref ac, .int fa, .int an, .ref kp, .int ks, .ref sp, .ref ss, .ref sy, .int sc, .long sd, .ref tr, .ref ia])), (ac, .inl (cM, 14, .inr (.inr (.inr (.inr Fac))))), (nw, .inr (1, [.ref td, .int md, .int mt, .int mr, .int mg, .ref mat, .ref mfd, .ref mhd])), (mat, .inl (cI, 5, .inl mFat)), (mfd, .inl (cI, 7, .inl mFfd)), (mhd, .inl (cI, 7, .inl mFhd))] ++ plW cI L) H := P_subF hP [0, 1, 5, 2, 3, 4] rfl
  have hD : va_D A ([(h0, .inr (3, [.ref tx, .int le, .ref td, .ref dr, .ref nw, .ref ac, .int fa, .int an, .ref kp, .int ks, .ref sp, .ref ss, .ref sy, .int sc, .long sd, .ref tr, .ref ia])), (ac, .inl (cM, 14, .inr (.inr (.inr (.inr Fac))))), (nw, .inr (1, [.ref td, .int md, .int mt, .int mr, .int mg, .ref mat, .ref mfd, .ref mhd])), (mat, .inl (cI, 5, .inl mFat)), (mfd, .inl (cI, 7, .inl mFfd)), (mhd, .inl (cI, 7, .inl mFhd))] ++ plW cI L) := D_subF hD [0, 1, 5, 2, 3, 4] (by decide) rfl
  refine W.widen (k := 0) (n := 0) (Nat.le_refl _) (Nat.le_refl _) ?_
  have hw : (r_1.toInt = 1 ∧ 0 ≤ n.toInt ∧ n.toInt < mt.toInt) ∨ (r_1.toInt = 0 ∧ (n.toInt < 0 ∨ mt.toInt ≤ n.toInt)) := hw
  have hw_3 := hw
  refine lv_if_ne (tgt := 13) hx hb dX3_lose_8 (by decide) (fun c_4 => ?_) (fun c_4 => ?_)
  · have tc_4 := b_ne rfl (show (0 : Int32).toInt = 0 by decide) c_4
    have hn1 : 0 ≤ n.toInt := by omega
    have hn2 : n.toInt ≤ 5 := by omega
    refine lv_aload_n hx hb dX3_lose_13 rfl (lv_at hl 0 rfl) ?_
    refine va_get (D := D) (ci := 3) (v := .ref nw) (C := RX3) (T := TX3) (N := 17) hx hb hts iX3 hown hK hP 0 rfl rfl 4 (by decide) (hts (.fieldLink RX3 32 "PunchedTicket" "now" "LPunchedTicket$Moment;") (List.mem_of_getElem? (i := 1) rfl)) (fun _ h9 => h9) rfl dX3_lose_14 ?_
    refine lv_iload_n hx hb dX3_lose_17 rfl (lv_at hl 1 rfl) ?_
    refine fV_i (As := [.int n]) (rest := []) ⟨hx, hb, hml, hown, hts⟩ (c_X1_isGone l D cI cZ cM nw n td md mt mr mg mat mfd mhd _ ) (cwV 1 hts gX3_lose_X1_isGone rfl rfl rfl (by decide +kernel) ⟨by rw [hR]; decide, by rw [hR]; decide⟩) hK hP hD hS hA [2] [0, 1, 3, 4, 5] rfl rfl (by decide) (by decide) (by decide) rfl 2 rfl hl.1 rfl rfl (Nat.le_of_ble_eq_true rfl) dX3_lose_18 ⟨by rw [hR]; decide, by rw [hR]; decide⟩ (fun r_5 u_6 H locs hw hP hD hS => ?_)
    have hP : va_P D vwCl ([(h0, .inr (3, [.ref tx, .int le, .ref td, .ref dr, .ref nw, .ref ac, .int fa, .int an, .ref kp, .int ks, .ref sp, .ref ss, .ref sy, .int sc, .long sd, .ref tr, .ref ia])), (ac, .inl (cM, 14, .inr (.inr (.inr (.inr Fac))))), (nw, .inr (1, [.ref td, .int md, .int mt, .int mr, .int mg, .ref mat, .ref mfd, .ref mhd])), (mat, .inl (cI, 5, .inl mFat)), (mfd, .inl (cI, 7, .inl mFfd)), (mhd, .inl (cI, 7, .inl mFhd))] ++ plW cI L) H := P_subF hP [0, 1, 5, 2, 3, 4] rfl
    have hD : va_D A ([(h0, .inr (3, [.ref tx, .int le, .ref td, .ref dr, .ref nw, .ref ac, .int fa, .int an, .ref kp, .int ks, .ref sp, .ref ss, .ref sy, .int sc, .long sd, .ref tr, .ref ia])), (ac, .inl (cM, 14, .inr (.inr (.inr (.inr Fac))))), (nw, .inr (1, [.ref td, .int md, .int mt, .int mr, .int mg, .ref mat, .ref mfd, .ref mhd])), (mat, .inl (cI, 5, .inl mFat)), (mfd, .inl (cI, 7, .inl mFfd)), (mhd, .inl (cI, 7, .inl mFhd))] ++ plW cI L) := D_subF hD [0, 1, 5, 2, 3, 4] (by decide) rfl
    refine W.widen (k := 0) (n := 0) (Nat.le_refl _) (Nat.le_refl _) ?_
    have hw : (r_5.toInt = 0 ∨ r_5.toInt = 1) := hw
    have hw_7 := hw
    refine lv_if_eq (tgt := 27) hx hb dX3_lose_21 (by decide) (fun c_8 => ?_) (fun c_8 => ?_)
    · have tc_8 := b_eq rfl (show (0 : Int32).toInt = 0 by decide) c_8
      refine lv_aload_n hx hb dX3_lose_27 rfl (lv_at hl 0 rfl) ?_
      refine gV_v (As := []) (rest := []) ⟨hx, hb, hml, hown, hts⟩ (c_X3_rememberAct l D cI cZ cM h0 tx le td dr nw ac fa an kp ks sp ss sy sc sd tr ia Fac td md mt mr mg mat mfd mhd mFat mFfd mFhd L _ hPool hMs (show 0 ≤ fa.toInt ∧ fa.toInt ≤ 13 by omega) (show 0 ≤ an.toInt ∧ an.toInt ≤ 14 by omega) (show 0 ≤ md.toInt ∧ md.toInt ≤ 10 by omega) (show 0 ≤ mt.toInt ∧ mt.toInt ≤ 6 by omega)) (cwV 0 hts gX3_lose_X3_rememberAct rfl rfl rfl (by decide +kernel) ⟨by rw [hR]; decide, by rw [hR]; decide⟩) hK hP hD hS hA [0, 1, 2, 3, 4, 5] [] rfl rfl (by decide) (by decide) (by decide) rfl 0 rfl hl.1 rfl rfl (Nat.le_of_ble_eq_true rfl) dX3_lose_28 ⟨by rw [hR]; decide, by rw [hR]; decide⟩ (fun u_14 H locs hw hP hD hS => ?_)
      obtain ⟨fa1_9, an1_10, Gac_11, L1_12⟩ := u_14
      have hP : va_P D vwCl ([(h0, .inr (3, [.ref tx, .int le, .ref td, .ref dr, .ref nw, .ref ac, .int fa1_9, .int an1_10, .ref kp, .int ks, .ref sp, .ref ss, .ref sy, .int sc, .long sd, .ref tr, .ref ia])), (ac, .inl (cM, 14, .inr (.inr (.inr (.inr Gac_11))))), (nw, .inr (1, [.ref td, .int md, .int mt, .int mr, .int mg, .ref mat, .ref mfd, .ref mhd])), (mat, .inl (cI, 5, .inl mFat)), (mfd, .inl (cI, 7, .inl mFfd)), (mhd, .inl (cI, 7, .inl mFhd))] ++ plW cI L1_12) H := P_subF hP [0, 1, 2, 3, 4, 5] rfl
      have hD : va_D A ([(h0, .inr (3, [.ref tx, .int le, .ref td, .ref dr, .ref nw, .ref ac, .int fa1_9, .int an1_10, .ref kp, .int ks, .ref sp, .ref ss, .ref sy, .int sc, .long sd, .ref tr, .ref ia])), (ac, .inl (cM, 14, .inr (.inr (.inr (.inr Gac_11))))), (nw, .inr (1, [.ref td, .int md, .int mt, .int mr, .int mg, .ref mat, .ref mfd, .ref mhd])), (mat, .inl (cI, 5, .inl mFat)), (mfd, .inl (cI, 7, .inl mFfd)), (mhd, .inl (cI, 7, .inl mFhd))] ++ plW cI L1_12) := D_subF hD [0, 1, 2, 3, 4, 5] (by decide) rfl
      refine W.widen (k := 4) (n := 27) (by omega) (by omega) ?_
      have hw : InPool 14 Gac_11 L1_12 ∧ Keeps L L1_12 ∧ MsOk L1_12 ∧ (0 ≤ fa1_9.toInt ∧ fa1_9.toInt ≤ 13) ∧ (0 ≤ an1_10.toInt ∧ an1_10.toInt ≤ 14) := hw
      have hw_15 := hw
      obtain ⟨PL1, PL2, PL3, PL4, PL5⟩ := hw_15
      refine lv_aload_n hx hb dX3_lose_31 rfl (lv_at hl 0 rfl) ?_
      refine va_get (D := D) (ci := 3) (v := .ref nw) (C := RX3) (T := TX3) (N := 17) hx hb hts iX3 hown hK hP 0 rfl rfl 4 (by decide) (hts (.fieldLink RX3 32 "PunchedTicket" "now" "LPunchedTicket$Moment;") (List.mem_of_getElem? (i := 1) rfl)) (fun _ h9 => h9) rfl dX3_lose_32 ?_
      refine lv_dup hx hb dX3_lose_35 rfl ?_
      refine va_get (D := D) (ci := 1) (v := .int mg) (C := RX1) (T := TX1) (N := 8) hx hb hts iX1 hown hK hP 2 rfl rfl 4 (by decide) (hts (.fieldLink RX3 158 "PunchedTicket$Moment" "gone" "I") (List.mem_of_getElem? (i := 2) rfl)) (fun _ h9 => h9) rfl dX3_lose_36 ?_
      refine lv_iconst (v := 1) hx hb dX3_lose_39 (by decide) ?_
      refine lv_iload_n hx hb dX3_lose_40 rfl (lv_at hl 1 rfl) ?_
      refine lv_ishl hx hb dX3_lose_41 ?_
      refine lv_topi (fun v_16 ev_16 => ?_)
      refine lv_ior hx hb dX3_lose_42 ?_
      refine lv_topi (fun v_17 ev_17 => ?_)
      refine va_put (D := D) (ci := 1) (v := .int v_17) (ty := .int) (C := RX1) (T := TX1) (N := 8) hx hb hts iX1 tyX1 tyX1_ok nmX1 hown hK hP hD hS 2 rfl rfl 4 (by decide) (hts (.fieldLink RX3 158 "PunchedTicket$Moment" "gone" "I") (List.mem_of_getElem? (i := 2) rfl)) (fun _ h9 => h9) rfl (by decide +kernel) rfl rfl (Nat.le_of_ble_eq_true rfl) dX3_lose_43 (fun H locs hP hD hS => ?_)
      have hP : va_P D vwCl ([(h0, .inr (3, [.ref tx, .int le, .ref td, .ref dr, .ref nw, .ref ac, .int fa1_9, .int an1_10, .ref kp, .int ks, .ref sp, .ref ss, .ref sy, .int sc, .long sd, .ref tr, .ref ia])), (ac, .inl (cM, 14, .inr (.inr (.inr (.inr Gac_11))))), (nw, .inr (1, [.ref td, .int md, .int mt, .int mr, .int v_17, .ref mat, .ref mfd, .ref mhd])), (mat, .inl (cI, 5, .inl mFat)), (mfd, .inl (cI, 7, .inl mFfd)), (mhd, .inl (cI, 7, .inl mFhd))] ++ plW cI L1_12) H := hP
      have hD : va_D A ([(h0, .inr (3, [.ref tx, .int le, .ref td, .ref dr, .ref nw, .ref ac, .int fa1_9, .int an1_10, .ref kp, .int ks, .ref sp, .ref ss, .ref sy, .int sc, .long sd, .ref tr, .ref ia])), (ac, .inl (cM, 14, .inr (.inr (.inr (.inr Gac_11))))), (nw, .inr (1, [.ref td, .int md, .int mt, .int mr, .int v_17, .ref mat, .ref mfd, .ref mhd])), (mat, .inl (cI, 5, .inl mFat)), (mfd, .inl (cI, 7, .inl mFfd)), (mhd, .inl (cI, 7, .inl mFhd))] ++ plW cI L1_12) := hD
      refine lv_aload_n hx hb dX3_lose_46 rfl (lv_at hl 0 rfl) ?_
      refine va_get (D := D) (ci := 3) (v := .ref nw) (C := RX3) (T := TX3) (N := 17) hx hb hts iX3 hown hK hP 0 rfl rfl 4 (by decide) (hts (.fieldLink RX3 32 "PunchedTicket" "now" "LPunchedTicket$Moment;") (List.mem_of_getElem? (i := 1) rfl)) (fun _ h9 => h9) rfl dX3_lose_47 ?_
      refine va_get (D := D) (ci := 1) (v := .ref mhd) (C := RX1) (T := TX1) (N := 8) hx hb hts iX1 hown hK hP 2 rfl rfl 7 (by decide) (hts (.fieldLink RX3 132 "PunchedTicket$Moment" "holder" "[I") (List.mem_of_getElem? (i := 3) rfl)) (fun _ h9 => h9) rfl dX3_lose_50 ?_
      refine lv_iload_n hx hb dX3_lose_53 rfl (lv_at hl 1 rfl) ?_
      refine va_iald hx hb hK hP 5 0 rfl rfl (vp_in_iff.mpr ⟨by omega, by omega⟩) dX3_lose_54 ?_
      refine lv_topi (fun v_18 ev_18 => ?_)
      exact ret_i (post := (fun (r : Int32) (u : Int32 × Int32 × (Nat → Option Nat) × Int32 × (List Mom)) => InPool 14 u.2.2.1 u.2.2.2.2 ∧ Keeps L u.2.2.2.2 ∧ MsOk u.2.2.2.2 ∧ (0 ≤ u.1.toInt ∧ u.1.toInt ≤ 13) ∧ (0 ≤ u.2.1.toInt ∧ u.2.1.toInt ≤ 14))) (W1 := (fun u => ([(h0, .inr (3, [.ref tx, .int le, .ref td, .ref dr, .ref nw, .ref ac, .int u.1, .int u.2.1, .ref kp, .int ks, .ref sp, .ref ss, .ref sy, .int sc, .long sd, .ref tr, .ref ia])), (ac, .inl (cM, 14, .inr (.inr (.inr (.inr u.2.2.1))))), (nw, .inr (1, [.ref td, .int md, .int mt, .int mr, .int u.2.2.2.1, .ref mat, .ref mfd, .ref mhd])), (mat, .inl (cI, 5, .inl mFat)), (mfd, .inl (cI, 7, .inl mFfd)), (mhd, .inl (cI, 7, .inl mFhd))] ++ plW cI u.2.2.2.2))) (fa1_9, an1_10, Gac_11, v_17, L1_12) hx hb hr hlocks rfl hQ hK hP hD hS ⟨by decide, by decide⟩ dX3_lose_55 (show InPool 14 Gac_11 L1_12 ∧ Keeps L L1_12 ∧ MsOk L1_12 ∧ (0 ≤ fa1_9.toInt ∧ fa1_9.toInt ≤ 13) ∧ (0 ≤ an1_10.toInt ∧ an1_10.toInt ≤ 14) from ⟨PL1, PL2, PL3, by omega, by omega⟩)
    · have tc_8 := b_ne rfl (show (0 : Int32).toInt = 0 by decide) c_8
      refine lv_bipush (v := (-3)) hx hb dX3_lose_24 (by decide) ?_
      exact ret_i (post := (fun (r : Int32) (u : Int32 × Int32 × (Nat → Option Nat) × Int32 × (List Mom)) => InPool 14 u.2.2.1 u.2.2.2.2 ∧ Keeps L u.2.2.2.2 ∧ MsOk u.2.2.2.2 ∧ (0 ≤ u.1.toInt ∧ u.1.toInt ≤ 13) ∧ (0 ≤ u.2.1.toInt ∧ u.2.1.toInt ≤ 14))) (W1 := (fun u => ([(h0, .inr (3, [.ref tx, .int le, .ref td, .ref dr, .ref nw, .ref ac, .int u.1, .int u.2.1, .ref kp, .int ks, .ref sp, .ref ss, .ref sy, .int sc, .long sd, .ref tr, .ref ia])), (ac, .inl (cM, 14, .inr (.inr (.inr (.inr u.2.2.1))))), (nw, .inr (1, [.ref td, .int md, .int mt, .int mr, .int u.2.2.2.1, .ref mat, .ref mfd, .ref mhd])), (mat, .inl (cI, 5, .inl mFat)), (mfd, .inl (cI, 7, .inl mFfd)), (mhd, .inl (cI, 7, .inl mFhd))] ++ plW cI u.2.2.2.2))) (fa, an, Fac, mg, L) hx hb hr hlocks rfl hQ hK hP hD hS ⟨by decide, by decide⟩ dX3_lose_26 (show InPool 14 Fac L ∧ Keeps L L ∧ MsOk L ∧ (0 ≤ fa.toInt ∧ fa.toInt ≤ 13) ∧ (0 ≤ an.toInt ∧ an.toInt ≤ 14) from ⟨hPool, keeps_rf, hMs, by omega, by omega⟩)
  · have tc_4 := b_eq rfl (show (0 : Int32).toInt = 0 by decide) c_4
    refine lv_iconst (v := (-1)) hx hb dX3_lose_11 (by decide) ?_
    exact ret_i (post := (fun (r : Int32) (u : Int32 × Int32 × (Nat → Option Nat) × Int32 × (List Mom)) => InPool 14 u.2.2.1 u.2.2.2.2 ∧ Keeps L u.2.2.2.2 ∧ MsOk u.2.2.2.2 ∧ (0 ≤ u.1.toInt ∧ u.1.toInt ≤ 13) ∧ (0 ≤ u.2.1.toInt ∧ u.2.1.toInt ≤ 14))) (W1 := (fun u => ([(h0, .inr (3, [.ref tx, .int le, .ref td, .ref dr, .ref nw, .ref ac, .int u.1, .int u.2.1, .ref kp, .int ks, .ref sp, .ref ss, .ref sy, .int sc, .long sd, .ref tr, .ref ia])), (ac, .inl (cM, 14, .inr (.inr (.inr (.inr u.2.2.1))))), (nw, .inr (1, [.ref td, .int md, .int mt, .int mr, .int u.2.2.2.1, .ref mat, .ref mfd, .ref mhd])), (mat, .inl (cI, 5, .inl mFat)), (mfd, .inl (cI, 7, .inl mFfd)), (mhd, .inl (cI, 7, .inl mFhd))] ++ plW cI u.2.2.2.2))) (fa, an, Fac, mg, L) hx hb hr hlocks rfl hQ hK hP hD hS ⟨by decide, by decide⟩ dX3_lose_12 (show InPool 14 Fac L ∧ Keeps L L ∧ MsOk L ∧ (0 ≤ fa.toInt ∧ fa.toInt ≤ 13) ∧ (0 ≤ an.toInt ∧ an.toInt ≤ 14) from ⟨hPool, keeps_rf, hMs, by omega, by omega⟩)

set_option maxHeartbeats 600000 in
set_option maxRecDepth 100000 in
theorem c_X3_change (l : Launch) (D : va_G) (cI cZ cM : ClassId) (h0 : Nat) (n : Int32) (k : Int32) (tx : Nat) (le : Int32) (td : Nat) (dr : Nat) (nw : Nat) (ac : Nat) (fa : Int32) (an : Int32) (kp : Nat) (ks : Int32) (sp : Nat) (ss : Nat) (sy : Nat) (sc : Int32) (sd : Int64) (tr : Nat) (ia : Nat) (Fac : Nat → Option Nat) (md : Int32) (mt : Int32) (mr : Int32) (mg : Int32) (mat : Nat) (mfd : Nat) (mhd : Nat) (mFat : Nat → Int32) (mFfd : Nat → Int32) (mFhd : Nat → Int32) (L : List Mom) (sz : Nat) (hPool : InPool 14 Fac L) (hMs : MsOk L) (h_fa : 0 ≤ fa.toInt ∧ fa.toInt ≤ 13) (h_an : 0 ≤ an.toInt ∧ an.toInt ≤ 14) (h_md : 0 ≤ md.toInt ∧ md.toInt ≤ 10) (h_mt : 0 ≤ mt.toInt ∧ mt.toInt ≤ 6) : Ci l yX3_change wsX3_change ({ frames := 4, cells := 4, slots := 27, locals := 90 } : Room) D cI cZ cM [.ref h0, .int n, .int k] ([(h0, .inr (3, [.ref tx, .int le, .ref td, .ref dr, .ref nw, .ref ac, .int fa, .int an, .ref kp, .int ks, .ref sp, .ref ss, .ref sy, .int sc, .long sd, .ref tr, .ref ia])), (ac, .inl (cM, 14, .inr (.inr (.inr (.inr Fac))))), (nw, .inr (1, [.ref td, .int md, .int mt, .int mr, .int mg, .ref mat, .ref mfd, .ref mhd])), (mat, .inl (cI, 5, .inl mFat)), (mfd, .inl (cI, 7, .inl mFfd)), (mhd, .inl (cI, 7, .inl mFhd))] ++ plW cI L) sz (fun (r : Int32) (u : Int32 × Int32 × (Nat → Option Nat) × (Nat → Int32) × (List Mom)) => InPool 14 u.2.2.1 u.2.2.2.2 ∧ Keeps L u.2.2.2.2 ∧ MsOk u.2.2.2.2 ∧ (0 ≤ u.1.toInt ∧ u.1.toInt ≤ 13) ∧ (0 ≤ u.2.1.toInt ∧ u.2.1.toInt ≤ 14)) (fun u => ([(h0, .inr (3, [.ref tx, .int le, .ref td, .ref dr, .ref nw, .ref ac, .int u.1, .int u.2.1, .ref kp, .int ks, .ref sp, .ref ss, .ref sy, .int sc, .long sd, .ref tr, .ref ia])), (ac, .inl (cM, 14, .inr (.inr (.inr (.inr u.2.2.1))))), (nw, .inr (1, [.ref td, .int md, .int mt, .int mr, .int mg, .ref mat, .ref mfd, .ref mhd])), (mat, .inl (cI, 5, .inl mFat)), (mfd, .inl (cI, 7, .inl mFfd)), (mhd, .inl (cI, 7, .inl u.2.2.2.1))] ++ plW cI u.2.2.2.2)) 4 27 := by
  refine begins (l := l) (y := yX3_change) (ws := wsX3_change) (av := [.ref h0, .int n, .int k]) (Qc := fun A => va_Qi (fun (r : Int32) (u : Int32 × Int32 × (Nat → Option Nat) × (Nat → Int32) × (List Mom)) => InPool 14 u.2.2.1 u.2.2.2.2 ∧ Keeps L u.2.2.2.2 ∧ MsOk u.2.2.2.2 ∧ (0 ≤ u.1.toInt ∧ u.1.toInt ≤ 13) ∧ (0 ≤ u.2.1.toInt ∧ u.2.1.toInt ≤ 14)) (fun u => Wd D cI cZ cM A ((fun u => ([(h0, .inr (3, [.ref tx, .int le, .ref td, .ref dr, .ref nw, .ref ac, .int u.1, .int u.2.1, .ref kp, .int ks, .ref sp, .ref ss, .ref sy, .int sc, .long sd, .ref tr, .ref ia])), (ac, .inl (cM, 14, .inr (.inr (.inr (.inr u.2.2.1))))), (nw, .inr (1, [.ref td, .int md, .int mt, .int mr, .int mg, .ref mat, .ref mfd, .ref mhd])), (mat, .inl (cI, 5, .inl mFat)), (mfd, .inl (cI, 7, .inl mFfd)), (mhd, .inl (cI, 7, .inl u.2.2.2.1))] ++ plW cI u.2.2.2.2)) u)) A) cX3_change 3 (some .int) (by decide) rfl (Nat.le_of_ble_eq_true rfl) ?_
  intro p e s m args below meth c R Q A ls hBd hR hQ hA hS hK hP hD hl
  obtain ⟨hx, hb, hr, hts, hown, hlocks, hin, hml⟩ := hBd
  have hl : lv_has ls 3 [(0, .ref h0), (1, .int n), (2, .int k)] := hl
  have iX3 : ∀ w ∈ wsX30, w ∈ wsX3_change := fun _ h => List.mem_cons_of_mem _ (List.mem_append_left _ (List.mem_append_right _ h))
  have iX1 : ∀ w ∈ wsX10, w ∈ wsX3_change := fun _ h => List.mem_cons_of_mem _ (List.mem_append_right _ h)
  obtain ⟨h_faa, h_fab⟩ := h_fa
  obtain ⟨h_ana, h_anb⟩ := h_an
  obtain ⟨h_mda, h_mdb⟩ := h_md
  obtain ⟨h_mta, h_mtb⟩ := h_mt
  refine lv_aload_n hx hb dX3_change_0 rfl (lv_at hl 0 rfl) ?_
  refine va_get (D := D) (ci := 3) (v := .ref nw) (C := RX3) (T := TX3) (N := 17) hx hb hts iX3 hown hK hP 0 rfl rfl 4 (by decide) (hts (.fieldLink RX3 32 "PunchedTicket" "now" "LPunchedTicket$Moment;") (List.mem_of_getElem? (i := 1) rfl)) (fun _ h9 => h9) rfl dX3_change_1 ?_
  refine lv_iload_n hx hb dX3_change_4 rfl (lv_at hl 1 rfl) ?_
  refine fV_i (As := [.int n]) (rest := []) ⟨hx, hb, hml, hown, hts⟩ (c_X1_hasTicket l D cI cZ cM nw n td md mt mr mg mat mfd mhd _ ) (cwV 1 hts gX3_change_X1_hasTicket rfl rfl rfl (by decide +kernel) ⟨by rw [hR]; decide, by rw [hR]; decide⟩) hK hP hD hS hA [2] [0, 1, 3, 4, 5] rfl rfl (by decide) (by decide) (by decide) rfl 2 rfl hl.1 rfl rfl (Nat.le_of_ble_eq_true rfl) dX3_change_5 ⟨by rw [hR]; decide, by rw [hR]; decide⟩ (fun r_1 u_2 H locs hw hP hD hS => ?_)
  have hP : va_P D vwCl ([(h0, .inr (3, [.ref tx, .int le, .ref td, .ref dr, .ref nw, .ref ac, .int fa, .int an, .ref kp, .int ks, .ref sp, .ref ss, .ref sy, .int sc, .long sd, .ref tr, .ref ia])), (ac, .inl (cM, 14, .inr (.inr (.inr (.inr Fac))))), (nw, .inr (1, [.ref td, .int md, .int mt, .int mr, .int mg, .ref mat, .ref mfd, .ref mhd])), (mat, .inl (cI, 5, .inl mFat)), (mfd, .inl (cI, 7, .inl mFfd)), (mhd, .inl (cI, 7, .inl mFhd))] ++ plW cI L) H := P_subF hP [0, 1, 5, 2, 3, 4] rfl
  have hD : va_D A ([(h0, .inr (3, [.ref tx, .int le, .ref td, .ref dr, .ref nw, .ref ac, .int fa, .int an, .ref kp, .int ks, .ref sp, .ref ss, .ref sy, .int sc, .long sd, .ref tr, .ref ia])), (ac, .inl (cM, 14, .inr (.inr (.inr (.inr Fac))))), (nw, .inr (1, [.ref td, .int md, .int mt, .int mr, .int mg, .ref mat, .ref mfd, .ref mhd])), (mat, .inl (cI, 5, .inl mFat)), (mfd, .inl (cI, 7, .inl mFfd)), (mhd, .inl (cI, 7, .inl mFhd))] ++ plW cI L) := D_subF hD [0, 1, 5, 2, 3, 4] (by decide) rfl
  refine W.widen (k := 0) (n := 0) (Nat.le_refl _) (Nat.le_refl _) ?_
  have hw : (r_1.toInt = 1 ∧ 0 ≤ n.toInt ∧ n.toInt < mt.toInt) ∨ (r_1.toInt = 0 ∧ (n.toInt < 0 ∨ mt.toInt ≤ n.toInt)) := hw
  have hw_3 := hw
  refine lv_if_eq (tgt := 22) hx hb dX3_change_8 (by decide) (fun c_4 => ?_) (fun c_4 => ?_)
  · have tc_4 := b_eq rfl (show (0 : Int32).toInt = 0 by decide) c_4
    refine lv_iconst (v := (-1)) hx hb dX3_change_22 (by decide) ?_
    exact ret_i (post := (fun (r : Int32) (u : Int32 × Int32 × (Nat → Option Nat) × (Nat → Int32) × (List Mom)) => InPool 14 u.2.2.1 u.2.2.2.2 ∧ Keeps L u.2.2.2.2 ∧ MsOk u.2.2.2.2 ∧ (0 ≤ u.1.toInt ∧ u.1.toInt ≤ 13) ∧ (0 ≤ u.2.1.toInt ∧ u.2.1.toInt ≤ 14))) (W1 := (fun u => ([(h0, .inr (3, [.ref tx, .int le, .ref td, .ref dr, .ref nw, .ref ac, .int u.1, .int u.2.1, .ref kp, .int ks, .ref sp, .ref ss, .ref sy, .int sc, .long sd, .ref tr, .ref ia])), (ac, .inl (cM, 14, .inr (.inr (.inr (.inr u.2.2.1))))), (nw, .inr (1, [.ref td, .int md, .int mt, .int mr, .int mg, .ref mat, .ref mfd, .ref mhd])), (mat, .inl (cI, 5, .inl mFat)), (mfd, .inl (cI, 7, .inl mFfd)), (mhd, .inl (cI, 7, .inl u.2.2.2.1))] ++ plW cI u.2.2.2.2))) (fa, an, Fac, mFhd, L) hx hb hr hlocks rfl hQ hK hP hD hS ⟨by decide, by decide⟩ dX3_change_23 (show InPool 14 Fac L ∧ Keeps L L ∧ MsOk L ∧ (0 ≤ fa.toInt ∧ fa.toInt ≤ 13) ∧ (0 ≤ an.toInt ∧ an.toInt ≤ 14) from ⟨hPool, keeps_rf, hMs, by omega, by omega⟩)
  · have tc_4 := b_ne rfl (show (0 : Int32).toInt = 0 by decide) c_4
    refine lv_aload_n hx hb dX3_change_11 rfl (lv_at hl 0 rfl) ?_
    refine va_get (D := D) (ci := 3) (v := .ref nw) (C := RX3) (T := TX3) (N := 17) hx hb hts iX3 hown hK hP 0 rfl rfl 4 (by decide) (hts (.fieldLink RX3 32 "PunchedTicket" "now" "LPunchedTicket$Moment;") (List.mem_of_getElem? (i := 1) rfl)) (fun _ h9 => h9) rfl dX3_change_12 ?_
    refine lv_iload_n hx hb dX3_change_15 rfl (lv_at hl 2 rfl) ?_
    refine fV_i (As := [.int k]) (rest := []) ⟨hx, hb, hml, hown, hts⟩ (c_X1_hasTicket l D cI cZ cM nw k td md mt mr mg mat mfd mhd _ ) (cwV 1 hts gX3_change_X1_hasTicket rfl rfl rfl (by decide +kernel) ⟨by rw [hR]; decide, by rw [hR]; decide⟩) hK hP hD hS hA [2] [0, 1, 3, 4, 5] rfl rfl (by decide) (by decide) (by decide) rfl 2 rfl hl.1 rfl rfl (Nat.le_of_ble_eq_true rfl) dX3_change_16 ⟨by rw [hR]; decide, by rw [hR]; decide⟩ (fun r_5 u_6 H locs hw hP hD hS => ?_)
    have hP : va_P D vwCl ([(h0, .inr (3, [.ref tx, .int le, .ref td, .ref dr, .ref nw, .ref ac, .int fa, .int an, .ref kp, .int ks, .ref sp, .ref ss, .ref sy, .int sc, .long sd, .ref tr, .ref ia])), (ac, .inl (cM, 14, .inr (.inr (.inr (.inr Fac))))), (nw, .inr (1, [.ref td, .int md, .int mt, .int mr, .int mg, .ref mat, .ref mfd, .ref mhd])), (mat, .inl (cI, 5, .inl mFat)), (mfd, .inl (cI, 7, .inl mFfd)), (mhd, .inl (cI, 7, .inl mFhd))] ++ plW cI L) H := P_subF hP [0, 1, 5, 2, 3, 4] rfl
    have hD : va_D A ([(h0, .inr (3, [.ref tx, .int le, .ref td, .ref dr, .ref nw, .ref ac, .int fa, .int an, .ref kp, .int ks, .ref sp, .ref ss, .ref sy, .int sc, .long sd, .ref tr, .ref ia])), (ac, .inl (cM, 14, .inr (.inr (.inr (.inr Fac))))), (nw, .inr (1, [.ref td, .int md, .int mt, .int mr, .int mg, .ref mat, .ref mfd, .ref mhd])), (mat, .inl (cI, 5, .inl mFat)), (mfd, .inl (cI, 7, .inl mFfd)), (mhd, .inl (cI, 7, .inl mFhd))] ++ plW cI L) := D_subF hD [0, 1, 5, 2, 3, 4] (by decide) rfl
    refine W.widen (k := 0) (n := 0) (Nat.le_refl _) (Nat.le_refl _) ?_
    have hw : (r_5.toInt = 1 ∧ 0 ≤ k.toInt ∧ k.toInt < mt.toInt) ∨ (r_5.toInt = 0 ∧ (k.toInt < 0 ∨ mt.toInt ≤ k.toInt)) := hw
    have hw_7 := hw
    refine lv_if_ne (tgt := 24) hx hb dX3_change_19 (by decide) (fun c_8 => ?_) (fun c_8 => ?_)
    · have tc_8 := b_ne rfl (show (0 : Int32).toInt = 0 by decide) c_8
      have hn1 : 0 ≤ n.toInt := by omega
      have hn2 : n.toInt ≤ 5 := by omega
      have hk1 : 0 ≤ k.toInt := by omega
      have hk2 : k.toInt ≤ 5 := by omega
      refine lv_aload_n hx hb dX3_change_24 rfl (lv_at hl 0 rfl) ?_
      refine va_get (D := D) (ci := 3) (v := .ref nw) (C := RX3) (T := TX3) (N := 17) hx hb hts iX3 hown hK hP 0 rfl rfl 4 (by decide) (hts (.fieldLink RX3 32 "PunchedTicket" "now" "LPunchedTicket$Moment;") (List.mem_of_getElem? (i := 1) rfl)) (fun _ h9 => h9) rfl dX3_change_25 ?_
      refine lv_iload_n hx hb dX3_change_28 rfl (lv_at hl 1 rfl) ?_
      refine lv_iload_n hx hb dX3_change_29 rfl (lv_at hl 2 rfl) ?_
      refine fV_i (As := [.int n, .int k]) (rest := []) ⟨hx, hb, hml, hown, hts⟩ (c_X1_canBeChanged l D cI cZ cM nw n k td md mt mr mg mat mfd mhd mFhd _ (show 0 ≤ n.toInt ∧ n.toInt ≤ 6 by omega) (show 0 ≤ k.toInt ∧ k.toInt ≤ 6 by omega)) (cwV 2 hts gX3_change_X1_canBeChanged rfl rfl rfl (by decide +kernel) ⟨by rw [hR]; decide, by rw [hR]; decide⟩) hK hP hD hS hA [2, 5] [0, 1, 3, 4] rfl rfl (by decide) (by decide) (by decide) rfl 2 rfl hl.1 rfl rfl (Nat.le_of_ble_eq_true rfl) dX3_change_30 ⟨by rw [hR]; decide, by rw [hR]; decide⟩ (fun r_9 u_10 H locs hw hP hD hS => ?_)
      have hP : va_P D vwCl ([(h0, .inr (3, [.ref tx, .int le, .ref td, .ref dr, .ref nw, .ref ac, .int fa, .int an, .ref kp, .int ks, .ref sp, .ref ss, .ref sy, .int sc, .long sd, .ref tr, .ref ia])), (ac, .inl (cM, 14, .inr (.inr (.inr (.inr Fac))))), (nw, .inr (1, [.ref td, .int md, .int mt, .int mr, .int mg, .ref mat, .ref mfd, .ref mhd])), (mat, .inl (cI, 5, .inl mFat)), (mfd, .inl (cI, 7, .inl mFfd)), (mhd, .inl (cI, 7, .inl mFhd))] ++ plW cI L) H := P_subF hP [0, 1, 4, 2, 3, 5] rfl
      have hD : va_D A ([(h0, .inr (3, [.ref tx, .int le, .ref td, .ref dr, .ref nw, .ref ac, .int fa, .int an, .ref kp, .int ks, .ref sp, .ref ss, .ref sy, .int sc, .long sd, .ref tr, .ref ia])), (ac, .inl (cM, 14, .inr (.inr (.inr (.inr Fac))))), (nw, .inr (1, [.ref td, .int md, .int mt, .int mr, .int mg, .ref mat, .ref mfd, .ref mhd])), (mat, .inl (cI, 5, .inl mFat)), (mfd, .inl (cI, 7, .inl mFfd)), (mhd, .inl (cI, 7, .inl mFhd))] ++ plW cI L) := D_subF hD [0, 1, 4, 2, 3, 5] (by decide) rfl
      refine W.widen (k := 0) (n := 0) (Nat.le_refl _) (Nat.le_refl _) ?_
      have hw : (r_9.toInt = 0 ∨ r_9.toInt = 1) := hw
      have hw_11 := hw
      refine lv_if_ne (tgt := 39) hx hb dX3_change_33 (by decide) (fun c_12 => ?_) (fun c_12 => ?_)
      · have tc_12 := b_ne rfl (show (0 : Int32).toInt = 0 by decide) c_12
        refine lv_aload_n hx hb dX3_change_39 rfl (lv_at hl 0 rfl) ?_
        refine gV_v (As := []) (rest := []) ⟨hx, hb, hml, hown, hts⟩ (c_X3_rememberAct l D cI cZ cM h0 tx le td dr nw ac fa an kp ks sp ss sy sc sd tr ia Fac td md mt mr mg mat mfd mhd mFat mFfd mFhd L _ hPool hMs (show 0 ≤ fa.toInt ∧ fa.toInt ≤ 13 by omega) (show 0 ≤ an.toInt ∧ an.toInt ≤ 14 by omega) (show 0 ≤ md.toInt ∧ md.toInt ≤ 10 by omega) (show 0 ≤ mt.toInt ∧ mt.toInt ≤ 6 by omega)) (cwV 0 hts gX3_change_X3_rememberAct rfl rfl rfl (by decide +kernel) ⟨by rw [hR]; decide, by rw [hR]; decide⟩) hK hP hD hS hA [0, 1, 2, 3, 4, 5] [] rfl rfl (by decide) (by decide) (by decide) rfl 0 rfl hl.1 rfl rfl (Nat.le_of_ble_eq_true rfl) dX3_change_40 ⟨by rw [hR]; decide, by rw [hR]; decide⟩ (fun u_18 H locs hw hP hD hS => ?_)
        obtain ⟨fa1_13, an1_14, Gac_15, L1_16⟩ := u_18
        have hP : va_P D vwCl ([(h0, .inr (3, [.ref tx, .int le, .ref td, .ref dr, .ref nw, .ref ac, .int fa1_13, .int an1_14, .ref kp, .int ks, .ref sp, .ref ss, .ref sy, .int sc, .long sd, .ref tr, .ref ia])), (ac, .inl (cM, 14, .inr (.inr (.inr (.inr Gac_15))))), (nw, .inr (1, [.ref td, .int md, .int mt, .int mr, .int mg, .ref mat, .ref mfd, .ref mhd])), (mat, .inl (cI, 5, .inl mFat)), (mfd, .inl (cI, 7, .inl mFfd)), (mhd, .inl (cI, 7, .inl mFhd))] ++ plW cI L1_16) H := P_subF hP [0, 1, 2, 3, 4, 5] rfl
        have hD : va_D A ([(h0, .inr (3, [.ref tx, .int le, .ref td, .ref dr, .ref nw, .ref ac, .int fa1_13, .int an1_14, .ref kp, .int ks, .ref sp, .ref ss, .ref sy, .int sc, .long sd, .ref tr, .ref ia])), (ac, .inl (cM, 14, .inr (.inr (.inr (.inr Gac_15))))), (nw, .inr (1, [.ref td, .int md, .int mt, .int mr, .int mg, .ref mat, .ref mfd, .ref mhd])), (mat, .inl (cI, 5, .inl mFat)), (mfd, .inl (cI, 7, .inl mFfd)), (mhd, .inl (cI, 7, .inl mFhd))] ++ plW cI L1_16) := D_subF hD [0, 1, 2, 3, 4, 5] (by decide) rfl
        refine W.widen (k := 4) (n := 27) (by omega) (by omega) ?_
        have hw : InPool 14 Gac_15 L1_16 ∧ Keeps L L1_16 ∧ MsOk L1_16 ∧ (0 ≤ fa1_13.toInt ∧ fa1_13.toInt ≤ 13) ∧ (0 ≤ an1_14.toInt ∧ an1_14.toInt ≤ 14) := hw
        have hw_19 := hw
        obtain ⟨PL1, PL2, PL3, PL4, PL5⟩ := hw_19
        refine lv_aload_n hx hb dX3_change_43 rfl (lv_at hl 0 rfl) ?_
        refine va_get (D := D) (ci := 3) (v := .ref nw) (C := RX3) (T := TX3) (N := 17) hx hb hts iX3 hown hK hP 0 rfl rfl 4 (by decide) (hts (.fieldLink RX3 32 "PunchedTicket" "now" "LPunchedTicket$Moment;") (List.mem_of_getElem? (i := 1) rfl)) (fun _ h9 => h9) rfl dX3_change_44 ?_
        refine lv_iload_n hx hb dX3_change_47 rfl (lv_at hl 1 rfl) ?_
        refine lv_iload_n hx hb dX3_change_48 rfl (lv_at hl 2 rfl) ?_
        refine fV_v (As := [.int n, .int k]) (rest := []) ⟨hx, hb, hml, hown, hts⟩ (c_X1_swapHolders l D cI cZ cM nw n k td md mt mr mg mat mfd mhd mFhd _ (show 0 ≤ n.toInt ∧ n.toInt ≤ 6 by omega) (show 0 ≤ k.toInt ∧ k.toInt ≤ 6 by omega)) (cwV 2 hts gX3_change_X1_swapHolders rfl rfl rfl (by decide +kernel) ⟨by rw [hR]; decide, by rw [hR]; decide⟩) hK hP hD hS hA [2, 5] [0, 1, 3, 4] rfl rfl (by decide) (by decide) (by decide) rfl 2 rfl hl.1 rfl rfl (Nat.le_of_ble_eq_true rfl) dX3_change_49 ⟨by rw [hR]; decide, by rw [hR]; decide⟩ (fun u_22 H locs hw hP hD hS => ?_)
        obtain ⟨Ghd_20, rfl⟩ : ∃ z, z = u_22 := ⟨_, rfl⟩
        have hP : va_P D vwCl ([(h0, .inr (3, [.ref tx, .int le, .ref td, .ref dr, .ref nw, .ref ac, .int fa1_13, .int an1_14, .ref kp, .int ks, .ref sp, .ref ss, .ref sy, .int sc, .long sd, .ref tr, .ref ia])), (ac, .inl (cM, 14, .inr (.inr (.inr (.inr Gac_15))))), (nw, .inr (1, [.ref td, .int md, .int mt, .int mr, .int mg, .ref mat, .ref mfd, .ref mhd])), (mat, .inl (cI, 5, .inl mFat)), (mfd, .inl (cI, 7, .inl mFfd)), (mhd, .inl (cI, 7, .inl Ghd_20))] ++ plW cI L1_16) H := P_subF hP [0, 1, 4, 2, 3, 5] rfl
        have hD : va_D A ([(h0, .inr (3, [.ref tx, .int le, .ref td, .ref dr, .ref nw, .ref ac, .int fa1_13, .int an1_14, .ref kp, .int ks, .ref sp, .ref ss, .ref sy, .int sc, .long sd, .ref tr, .ref ia])), (ac, .inl (cM, 14, .inr (.inr (.inr (.inr Gac_15))))), (nw, .inr (1, [.ref td, .int md, .int mt, .int mr, .int mg, .ref mat, .ref mfd, .ref mhd])), (mat, .inl (cI, 5, .inl mFat)), (mfd, .inl (cI, 7, .inl mFfd)), (mhd, .inl (cI, 7, .inl Ghd_20))] ++ plW cI L1_16) := D_subF hD [0, 1, 4, 2, 3, 5] (by decide) rfl
        refine W.widen (k := 4) (n := 27) (Nat.le_refl _) (Nat.le_refl _) ?_
        refine lv_aload_n hx hb dX3_change_52 rfl (lv_at hl 0 rfl) ?_
        refine va_get (D := D) (ci := 3) (v := .ref nw) (C := RX3) (T := TX3) (N := 17) hx hb hts iX3 hown hK hP 0 rfl rfl 4 (by decide) (hts (.fieldLink RX3 32 "PunchedTicket" "now" "LPunchedTicket$Moment;") (List.mem_of_getElem? (i := 1) rfl)) (fun _ h9 => h9) rfl dX3_change_53 ?_
        refine va_get (D := D) (ci := 1) (v := .ref mhd) (C := RX1) (T := TX1) (N := 8) hx hb hts iX1 hown hK hP 2 rfl rfl 7 (by decide) (hts (.fieldLink RX3 132 "PunchedTicket$Moment" "holder" "[I") (List.mem_of_getElem? (i := 2) rfl)) (fun _ h9 => h9) rfl dX3_change_56 ?_
        refine lv_iload_n hx hb dX3_change_59 rfl (lv_at hl 1 rfl) ?_
        refine va_iald hx hb hK hP 5 0 rfl rfl (vp_in_iff.mpr ⟨by omega, by omega⟩) dX3_change_60 ?_
        refine lv_topi (fun v_23 ev_23 => ?_)
        exact ret_i (post := (fun (r : Int32) (u : Int32 × Int32 × (Nat → Option Nat) × (Nat → Int32) × (List Mom)) => InPool 14 u.2.2.1 u.2.2.2.2 ∧ Keeps L u.2.2.2.2 ∧ MsOk u.2.2.2.2 ∧ (0 ≤ u.1.toInt ∧ u.1.toInt ≤ 13) ∧ (0 ≤ u.2.1.toInt ∧ u.2.1.toInt ≤ 14))) (W1 := (fun u => ([(h0, .inr (3, [.ref tx, .int le, .ref td, .ref dr, .ref nw, .ref ac, .int u.1, .int u.2.1, .ref kp, .int ks, .ref sp, .ref ss, .ref sy, .int sc, .long sd, .ref tr, .ref ia])), (ac, .inl (cM, 14, .inr (.inr (.inr (.inr u.2.2.1))))), (nw, .inr (1, [.ref td, .int md, .int mt, .int mr, .int mg, .ref mat, .ref mfd, .ref mhd])), (mat, .inl (cI, 5, .inl mFat)), (mfd, .inl (cI, 7, .inl mFfd)), (mhd, .inl (cI, 7, .inl u.2.2.2.1))] ++ plW cI u.2.2.2.2))) (fa1_13, an1_14, Gac_15, Ghd_20, L1_16) hx hb hr hlocks rfl hQ hK hP hD hS ⟨by decide, by decide⟩ dX3_change_61 (show InPool 14 Gac_15 L1_16 ∧ Keeps L L1_16 ∧ MsOk L1_16 ∧ (0 ≤ fa1_13.toInt ∧ fa1_13.toInt ≤ 13) ∧ (0 ≤ an1_14.toInt ∧ an1_14.toInt ≤ 14) from ⟨PL1, PL2, PL3, by omega, by omega⟩)
      · have tc_12 := b_eq rfl (show (0 : Int32).toInt = 0 by decide) c_12
        refine lv_bipush (v := (-3)) hx hb dX3_change_36 (by decide) ?_
        exact ret_i (post := (fun (r : Int32) (u : Int32 × Int32 × (Nat → Option Nat) × (Nat → Int32) × (List Mom)) => InPool 14 u.2.2.1 u.2.2.2.2 ∧ Keeps L u.2.2.2.2 ∧ MsOk u.2.2.2.2 ∧ (0 ≤ u.1.toInt ∧ u.1.toInt ≤ 13) ∧ (0 ≤ u.2.1.toInt ∧ u.2.1.toInt ≤ 14))) (W1 := (fun u => ([(h0, .inr (3, [.ref tx, .int le, .ref td, .ref dr, .ref nw, .ref ac, .int u.1, .int u.2.1, .ref kp, .int ks, .ref sp, .ref ss, .ref sy, .int sc, .long sd, .ref tr, .ref ia])), (ac, .inl (cM, 14, .inr (.inr (.inr (.inr u.2.2.1))))), (nw, .inr (1, [.ref td, .int md, .int mt, .int mr, .int mg, .ref mat, .ref mfd, .ref mhd])), (mat, .inl (cI, 5, .inl mFat)), (mfd, .inl (cI, 7, .inl mFfd)), (mhd, .inl (cI, 7, .inl u.2.2.2.1))] ++ plW cI u.2.2.2.2))) (fa, an, Fac, mFhd, L) hx hb hr hlocks rfl hQ hK hP hD hS ⟨by decide, by decide⟩ dX3_change_38 (show InPool 14 Fac L ∧ Keeps L L ∧ MsOk L ∧ (0 ≤ fa.toInt ∧ fa.toInt ≤ 13) ∧ (0 ≤ an.toInt ∧ an.toInt ≤ 14) from ⟨hPool, keeps_rf, hMs, by omega, by omega⟩)
    · have tc_8 := b_eq rfl (show (0 : Int32).toInt = 0 by decide) c_8
      refine lv_iconst (v := (-1)) hx hb dX3_change_22 (by decide) ?_
      exact ret_i (post := (fun (r : Int32) (u : Int32 × Int32 × (Nat → Option Nat) × (Nat → Int32) × (List Mom)) => InPool 14 u.2.2.1 u.2.2.2.2 ∧ Keeps L u.2.2.2.2 ∧ MsOk u.2.2.2.2 ∧ (0 ≤ u.1.toInt ∧ u.1.toInt ≤ 13) ∧ (0 ≤ u.2.1.toInt ∧ u.2.1.toInt ≤ 14))) (W1 := (fun u => ([(h0, .inr (3, [.ref tx, .int le, .ref td, .ref dr, .ref nw, .ref ac, .int u.1, .int u.2.1, .ref kp, .int ks, .ref sp, .ref ss, .ref sy, .int sc, .long sd, .ref tr, .ref ia])), (ac, .inl (cM, 14, .inr (.inr (.inr (.inr u.2.2.1))))), (nw, .inr (1, [.ref td, .int md, .int mt, .int mr, .int mg, .ref mat, .ref mfd, .ref mhd])), (mat, .inl (cI, 5, .inl mFat)), (mfd, .inl (cI, 7, .inl mFfd)), (mhd, .inl (cI, 7, .inl u.2.2.2.1))] ++ plW cI u.2.2.2.2))) (fa, an, Fac, mFhd, L) hx hb hr hlocks rfl hQ hK hP hD hS ⟨by decide, by decide⟩ dX3_change_23 (show InPool 14 Fac L ∧ Keeps L L ∧ MsOk L ∧ (0 ≤ fa.toInt ∧ fa.toInt ≤ 13) ∧ (0 ≤ an.toInt ∧ an.toInt ≤ 14) from ⟨hPool, keeps_rf, hMs, by omega, by omega⟩)

set_option maxHeartbeats 600000 in
set_option maxRecDepth 100000 in
theorem c_X3_undo (l : Launch) (D : va_G) (cI cZ cM : ClassId) (h0 : Nat) (tx : Nat) (le : Int32) (td : Nat) (dr : Nat) (nw : Nat) (ac : Nat) (fa : Int32) (an : Int32) (kp : Nat) (ks : Int32) (sp : Nat) (ss : Nat) (sy : Nat) (sc : Int32) (sd : Int64) (tr : Nat) (ia : Nat) (Fac : Nat → Option Nat) (md : Int32) (mt : Int32) (mr : Int32) (mg : Int32) (mat : Nat) (mfd : Nat) (mhd : Nat) (mFat : Nat → Int32) (mFfd : Nat → Int32) (mFhd : Nat → Int32) (L : List Mom) (sz : Nat) (hPool : InPool 14 Fac L) (hMs : MsOk L) (h_fa : 0 ≤ fa.toInt ∧ fa.toInt ≤ 13) (h_an : 0 ≤ an.toInt ∧ an.toInt ≤ 14) (h_md : 0 ≤ md.toInt ∧ md.toInt ≤ 10) (h_mt : 0 ≤ mt.toInt ∧ mt.toInt ≤ 6) : Ci l yX3_undo wsX3_undo ({ frames := 2, cells := 0, slots := 0, locals := 47 } : Room) D cI cZ cM [.ref h0] ([(h0, .inr (3, [.ref tx, .int le, .ref td, .ref dr, .ref nw, .ref ac, .int fa, .int an, .ref kp, .int ks, .ref sp, .ref ss, .ref sy, .int sc, .long sd, .ref tr, .ref ia])), (ac, .inl (cM, 14, .inr (.inr (.inr (.inr Fac))))), (nw, .inr (1, [.ref td, .int md, .int mt, .int mr, .int mg, .ref mat, .ref mfd, .ref mhd])), (mat, .inl (cI, 5, .inl mFat)), (mfd, .inl (cI, 7, .inl mFfd)), (mhd, .inl (cI, 7, .inl mFhd))] ++ plW cI L) sz (fun (r : Int32) (u : Int32 × Int32 × (Nat → Option Nat) × Int32 × Int32 × Int32 × Int32 × (Nat → Int32) × (Nat → Int32) × (Nat → Int32) × (List Mom)) => InPool 14 u.2.2.1 u.2.2.2.2.2.2.2.2.2.2 ∧ Keeps L u.2.2.2.2.2.2.2.2.2.2 ∧ MsOk u.2.2.2.2.2.2.2.2.2.2 ∧ (0 ≤ u.1.toInt ∧ u.1.toInt ≤ 13) ∧ (0 ≤ u.2.1.toInt ∧ u.2.1.toInt ≤ 14) ∧ (0 ≤ u.2.2.2.1.toInt ∧ u.2.2.2.1.toInt ≤ 10) ∧ (0 ≤ u.2.2.2.2.1.toInt ∧ u.2.2.2.2.1.toInt ≤ 6)) (fun u => ([(h0, .inr (3, [.ref tx, .int le, .ref td, .ref dr, .ref nw, .ref ac, .int u.1, .int u.2.1, .ref kp, .int ks, .ref sp, .ref ss, .ref sy, .int sc, .long sd, .ref tr, .ref ia])), (ac, .inl (cM, 14, .inr (.inr (.inr (.inr u.2.2.1))))), (nw, .inr (1, [.ref td, .int u.2.2.2.1, .int u.2.2.2.2.1, .int u.2.2.2.2.2.1, .int u.2.2.2.2.2.2.1, .ref mat, .ref mfd, .ref mhd])), (mat, .inl (cI, 5, .inl u.2.2.2.2.2.2.2.1)), (mfd, .inl (cI, 7, .inl u.2.2.2.2.2.2.2.2.1)), (mhd, .inl (cI, 7, .inl u.2.2.2.2.2.2.2.2.2.1))] ++ plW cI u.2.2.2.2.2.2.2.2.2.2)) 0 0 := by
  refine begins (l := l) (y := yX3_undo) (ws := wsX3_undo) (av := [.ref h0]) (Qc := fun A => va_Qi (fun (r : Int32) (u : Int32 × Int32 × (Nat → Option Nat) × Int32 × Int32 × Int32 × Int32 × (Nat → Int32) × (Nat → Int32) × (Nat → Int32) × (List Mom)) => InPool 14 u.2.2.1 u.2.2.2.2.2.2.2.2.2.2 ∧ Keeps L u.2.2.2.2.2.2.2.2.2.2 ∧ MsOk u.2.2.2.2.2.2.2.2.2.2 ∧ (0 ≤ u.1.toInt ∧ u.1.toInt ≤ 13) ∧ (0 ≤ u.2.1.toInt ∧ u.2.1.toInt ≤ 14) ∧ (0 ≤ u.2.2.2.1.toInt ∧ u.2.2.2.1.toInt ≤ 10) ∧ (0 ≤ u.2.2.2.2.1.toInt ∧ u.2.2.2.2.1.toInt ≤ 6)) (fun u => Wd D cI cZ cM A ((fun u => ([(h0, .inr (3, [.ref tx, .int le, .ref td, .ref dr, .ref nw, .ref ac, .int u.1, .int u.2.1, .ref kp, .int ks, .ref sp, .ref ss, .ref sy, .int sc, .long sd, .ref tr, .ref ia])), (ac, .inl (cM, 14, .inr (.inr (.inr (.inr u.2.2.1))))), (nw, .inr (1, [.ref td, .int u.2.2.2.1, .int u.2.2.2.2.1, .int u.2.2.2.2.2.1, .int u.2.2.2.2.2.2.1, .ref mat, .ref mfd, .ref mhd])), (mat, .inl (cI, 5, .inl u.2.2.2.2.2.2.2.1)), (mfd, .inl (cI, 7, .inl u.2.2.2.2.2.2.2.2.1)), (mhd, .inl (cI, 7, .inl u.2.2.2.2.2.2.2.2.2.1))] ++ plW cI u.2.2.2.2.2.2.2.2.2.2)) u)) A) cX3_undo 2 (some .int) (by decide) rfl (Nat.le_of_ble_eq_true rfl) ?_
  intro p e s m args below meth c R Q A ls hBd hR hQ hA hS hK hP hD hl
  obtain ⟨hx, hb, hr, hts, hown, hlocks, hin, hml⟩ := hBd
  have hl : lv_has ls 2 [(0, .ref h0)] := hl
  have iX3 : ∀ w ∈ wsX30, w ∈ wsX3_undo := fun _ h => List.mem_cons_of_mem _ (List.mem_append_left _ (List.mem_append_right _ h))
  have iX1 : ∀ w ∈ wsX10, w ∈ wsX3_undo := fun _ h => List.mem_cons_of_mem _ (List.mem_append_right _ h)
  obtain ⟨h_faa, h_fab⟩ := h_fa
  obtain ⟨h_ana, h_anb⟩ := h_an
  obtain ⟨h_mda, h_mdb⟩ := h_md
  obtain ⟨h_mta, h_mtb⟩ := h_mt
  refine lv_aload_n hx hb dX3_undo_0 rfl (lv_at hl 0 rfl) ?_
  refine va_get (D := D) (ci := 3) (v := .int an) (C := RX3) (T := TX3) (N := 17) hx hb hts iX3 hown hK hP 0 rfl rfl 7 (by decide) (hts (.fieldLink RX3 43 "PunchedTicket" "actsInRow" "I") (List.mem_of_getElem? (i := 1) rfl)) (fun _ h9 => h9) rfl dX3_undo_1 ?_
  refine lv_if_gt (tgt := 10) hx hb dX3_undo_4 (by decide) (fun c_1 => ?_) (fun c_1 => ?_)
  · have tc_1 := b_lt (show (0 : Int32).toInt = 0 by decide) rfl c_1
    refine lv_aload_n hx hb dX3_undo_10 rfl (lv_at hl 0 rfl) ?_
    refine va_get (D := D) (ci := 3) (v := .ref ac) (C := RX3) (T := TX3) (N := 17) hx hb hts iX3 hown hK hP 0 rfl rfl 5 (by decide) (hts (.fieldLink RX3 36 "PunchedTicket" "acts" "[LPunchedTicket$Moment;") (List.mem_of_getElem? (i := 2) rfl)) (fun _ h9 => h9) rfl dX3_undo_11 ?_
    refine lv_aload_n hx hb dX3_undo_14 rfl (lv_at hl 0 rfl) ?_
    refine va_get (D := D) (ci := 3) (v := .int fa) (C := RX3) (T := TX3) (N := 17) hx hb hts iX3 hown hK hP 0 rfl rfl 6 (by decide) (hts (.fieldLink RX3 40 "PunchedTicket" "firstAct" "I") (List.mem_of_getElem? (i := 3) rfl)) (fun _ h9 => h9) rfl dX3_undo_15 ?_
    refine lv_aload_n hx hb dX3_undo_18 rfl (lv_at hl 0 rfl) ?_
    refine va_get (D := D) (ci := 3) (v := .int an) (C := RX3) (T := TX3) (N := 17) hx hb hts iX3 hown hK hP 0 rfl rfl 7 (by decide) (hts (.fieldLink RX3 43 "PunchedTicket" "actsInRow" "I") (List.mem_of_getElem? (i := 1) rfl)) (fun _ h9 => h9) rfl dX3_undo_19 ?_
    refine lv_iadd hx hb dX3_undo_22 ?_
    refine lv_topi (fun v_2 ev_2 => ?_)
    have tv_2 : v_2.toInt = fa.toInt + an.toInt := by rw [ev_2]; exact ti_add (x := fa) (y := an) (show -2147483648 ≤ fa.toInt + an.toInt by omega) (show fa.toInt + an.toInt < 2147483648 by omega)
    refine lv_iconst (v := 1) hx hb dX3_undo_23 (by decide) ?_
    refine lv_isub hx hb dX3_undo_24 ?_
    refine lv_topi (fun v_3 ev_3 => ?_)
    have tv_3 : v_3.toInt = v_2.toInt - (1 : Int) := by rw [ev_3]; exact ti_sub (x := v_2) (y := 1) (show -2147483648 ≤ v_2.toInt - (1 : Int) by omega) (show v_2.toInt - (1 : Int) < 2147483648 by omega)
    refine lv_bipush (v := 14) hx hb dX3_undo_25 (by decide) ?_
    refine lv_irem hx hb dX3_undo_27 (by decide) ?_
    refine lv_topi (fun v_4 ev_4 => ?_)
    have tv_4 := rem_t (n := 14) (by decide) (by decide) (show 0 ≤ v_3.toInt by omega) ev_4
    obtain ⟨tv_4a, tv_4b⟩ := tv_4
    refine va_aldq hx hb hK hP 1 2 rfl rfl (vp_in_iff.mpr ⟨by omega, by omega⟩) dX3_undo_28 ?_
    rcases hq_5 : Fac (v_4 : Int32).toNatClampNeg with _ | q_6
    · skip
      refine W.eq (g2 := F0 m 29 ls [.null]) rfl ?_
      refine lv_astore_nN (lv' := [(1, .null), (0, .ref h0)]) hx hb dX3_undo_29 rfl hl (by decide) rfl (fun ls hl => ?_)
      refine lv_aload_nN hx hb dX3_undo_30 rfl (lv_at hl 0 rfl) ?_
      refine lv_ifnonnullN hx hb dX3_undo_31 ?_
      refine lv_bipush (v := (-3)) hx hb dX3_undo_34 (by decide) ?_
      exact ret_i (post := (fun (r : Int32) (u : Int32 × Int32 × (Nat → Option Nat) × Int32 × Int32 × Int32 × Int32 × (Nat → Int32) × (Nat → Int32) × (Nat → Int32) × (List Mom)) => InPool 14 u.2.2.1 u.2.2.2.2.2.2.2.2.2.2 ∧ Keeps L u.2.2.2.2.2.2.2.2.2.2 ∧ MsOk u.2.2.2.2.2.2.2.2.2.2 ∧ (0 ≤ u.1.toInt ∧ u.1.toInt ≤ 13) ∧ (0 ≤ u.2.1.toInt ∧ u.2.1.toInt ≤ 14) ∧ (0 ≤ u.2.2.2.1.toInt ∧ u.2.2.2.1.toInt ≤ 10) ∧ (0 ≤ u.2.2.2.2.1.toInt ∧ u.2.2.2.2.1.toInt ≤ 6))) (W1 := (fun u => ([(h0, .inr (3, [.ref tx, .int le, .ref td, .ref dr, .ref nw, .ref ac, .int u.1, .int u.2.1, .ref kp, .int ks, .ref sp, .ref ss, .ref sy, .int sc, .long sd, .ref tr, .ref ia])), (ac, .inl (cM, 14, .inr (.inr (.inr (.inr u.2.2.1))))), (nw, .inr (1, [.ref td, .int u.2.2.2.1, .int u.2.2.2.2.1, .int u.2.2.2.2.2.1, .int u.2.2.2.2.2.2.1, .ref mat, .ref mfd, .ref mhd])), (mat, .inl (cI, 5, .inl u.2.2.2.2.2.2.2.1)), (mfd, .inl (cI, 7, .inl u.2.2.2.2.2.2.2.2.1)), (mhd, .inl (cI, 7, .inl u.2.2.2.2.2.2.2.2.2.1))] ++ plW cI u.2.2.2.2.2.2.2.2.2.2))) (fa, an, Fac, md, mt, mr, mg, mFat, mFfd, mFhd, L) hx hb hr hlocks rfl hQ hK hP hD hS ⟨by decide, by decide⟩ dX3_undo_36 (show InPool 14 Fac L ∧ Keeps L L ∧ MsOk L ∧ (0 ≤ fa.toInt ∧ fa.toInt ≤ 13) ∧ (0 ≤ an.toInt ∧ an.toInt ≤ 14) ∧ (0 ≤ md.toInt ∧ md.toInt ≤ 10) ∧ (0 ≤ mt.toInt ∧ mt.toInt ≤ 6) from ⟨hPool, keeps_rf, hMs, by omega, by omega, by omega, by omega⟩)
    · skip
      obtain ⟨M_6, hM_6, hMa_6⟩ := hPool _ q_6 (by rw [cl_of]; omega) hq_5
      have hMk_6 := hMs _ hM_6
      obtain ⟨La_6, Lb_6, hL_6⟩ := List.append_of_mem hM_6
      obtain ⟨⟨ma_6, ml_6, mx_6, my_6, mz_6⟩, ⟨d0_6, t0_6, r0_6, g0_6⟩, ⟨fx_6, fy_6, fz_6⟩⟩ := M_6
      have hMa_6 : ma_6 = q_6 := hMa_6
      subst hMa_6
      rw [hL_6] at hP hD
      have hMk_6 : 0 ≤ d0_6.toInt ∧ d0_6.toInt ≤ 10 ∧ 0 ≤ t0_6.toInt ∧ t0_6.toInt ≤ 6 := hMk_6
      rw [plW_mid] at hP hD
      have hP := va_P_perm hP (pm1 _ _ _ _)
      have hD := va_D_perm hD (pm1 _ _ _ _)
      have hP : va_P D vwCl ([(h0, .inr (3, [.ref tx, .int le, .ref td, .ref dr, .ref nw, .ref ac, .int fa, .int an, .ref kp, .int ks, .ref sp, .ref ss, .ref sy, .int sc, .long sd, .ref tr, .ref ia])), (ac, .inl (cM, 14, .inr (.inr (.inr (.inr Fac))))), (nw, .inr (1, [.ref td, .int md, .int mt, .int mr, .int mg, .ref mat, .ref mfd, .ref mhd])), (mat, .inl (cI, 5, .inl mFat)), (mfd, .inl (cI, 7, .inl mFfd)), (mhd, .inl (cI, 7, .inl mFhd)), (ma_6, .inr (1, [.ref ml_6, .int d0_6, .int t0_6, .int r0_6, .int g0_6, .ref mx_6, .ref my_6, .ref mz_6])), (mx_6, .inl (cI, 5, .inl fx_6)), (my_6, .inl (cI, 7, .inl fy_6)), (mz_6, .inl (cI, 7, .inl fz_6))] ++ (plW cI La_6 ++ plW cI Lb_6)) _ := hP
      have hD : va_D A ([(h0, .inr (3, [.ref tx, .int le, .ref td, .ref dr, .ref nw, .ref ac, .int fa, .int an, .ref kp, .int ks, .ref sp, .ref ss, .ref sy, .int sc, .long sd, .ref tr, .ref ia])), (ac, .inl (cM, 14, .inr (.inr (.inr (.inr Fac))))), (nw, .inr (1, [.ref td, .int md, .int mt, .int mr, .int mg, .ref mat, .ref mfd, .ref mhd])), (mat, .inl (cI, 5, .inl mFat)), (mfd, .inl (cI, 7, .inl mFfd)), (mhd, .inl (cI, 7, .inl mFhd)), (ma_6, .inr (1, [.ref ml_6, .int d0_6, .int t0_6, .int r0_6, .int g0_6, .ref mx_6, .ref my_6, .ref mz_6])), (mx_6, .inl (cI, 5, .inl fx_6)), (my_6, .inl (cI, 7, .inl fy_6)), (mz_6, .inl (cI, 7, .inl fz_6))] ++ (plW cI La_6 ++ plW cI Lb_6)) := hD
      refine W.eq (g2 := F0 m 29 ls [.ref ma_6]) rfl ?_
      refine lv_astore_n (lv' := [(1, .ref ma_6), (0, .ref h0)]) hx hb dX3_undo_29 rfl hl (by decide) rfl (fun ls hl => ?_)
      refine lv_aload_n hx hb dX3_undo_30 rfl (lv_at hl 0 rfl) ?_
      refine lv_ifnonnull (tgt := 37) hx hb dX3_undo_31 (by decide) ?_
      refine lv_aload_n hx hb dX3_undo_37 rfl (lv_at hl 1 rfl) ?_
      refine va_get (D := D) (ci := 3) (v := .ref nw) (C := RX3) (T := TX3) (N := 17) hx hb hts iX3 hown hK hP 0 rfl rfl 4 (by decide) (hts (.fieldLink RX3 32 "PunchedTicket" "now" "LPunchedTicket$Moment;") (List.mem_of_getElem? (i := 4) rfl)) (fun _ h9 => h9) rfl dX3_undo_38 ?_
      refine lv_aload_n hx hb dX3_undo_41 rfl (lv_at hl 0 rfl) ?_
      refine fV_v (As := [.ref ma_6]) (rest := []) ⟨hx, hb, hml, hown, hts⟩ (c_X1_copy l D cI cZ cM nw ma_6 td md mt mr mg mat mfd mhd ml_6 d0_6 t0_6 r0_6 g0_6 mx_6 my_6 mz_6 mFat mFfd mFhd fx_6 fy_6 fz_6 _ ) (cwV 1 hts gX3_undo_X1_copy rfl rfl rfl (by decide +kernel) ⟨by rw [hR]; decide, by rw [hR]; decide⟩) hK hP hD hS hA [2, 6, 3, 4, 5, 7, 8, 9] [0, 1] rfl rfl (by decide) (by decide) (by decide) rfl 2 rfl hl.1 rfl rfl (Nat.le_of_ble_eq_true rfl) dX3_undo_42 ⟨by rw [hR]; decide, by rw [hR]; decide⟩ (fun u_11 H locs hw hP hD hS => ?_)
      obtain ⟨Gat_7, Gfd_8, Ghd_9⟩ := u_11
      have hP : va_P D vwCl ([(h0, .inr (3, [.ref tx, .int le, .ref td, .ref dr, .ref nw, .ref ac, .int fa, .int an, .ref kp, .int ks, .ref sp, .ref ss, .ref sy, .int sc, .long sd, .ref tr, .ref ia])), (ac, .inl (cM, 14, .inr (.inr (.inr (.inr Fac))))), (nw, .inr (1, [.ref td, .int d0_6, .int t0_6, .int r0_6, .int g0_6, .ref mat, .ref mfd, .ref mhd])), (mat, .inl (cI, 5, .inl Gat_7)), (mfd, .inl (cI, 7, .inl Gfd_8)), (mhd, .inl (cI, 7, .inl Ghd_9)), (ma_6, .inr (1, [.ref ml_6, .int d0_6, .int t0_6, .int r0_6, .int g0_6, .ref mx_6, .ref my_6, .ref mz_6])), (mx_6, .inl (cI, 5, .inl fx_6)), (my_6, .inl (cI, 7, .inl fy_6)), (mz_6, .inl (cI, 7, .inl fz_6))] ++ (plW cI La_6 ++ plW cI Lb_6)) H := P_subF hP [0, 1, 2, 4, 5, 6, 3, 7, 8, 9] rfl
      have hD : va_D A ([(h0, .inr (3, [.ref tx, .int le, .ref td, .ref dr, .ref nw, .ref ac, .int fa, .int an, .ref kp, .int ks, .ref sp, .ref ss, .ref sy, .int sc, .long sd, .ref tr, .ref ia])), (ac, .inl (cM, 14, .inr (.inr (.inr (.inr Fac))))), (nw, .inr (1, [.ref td, .int d0_6, .int t0_6, .int r0_6, .int g0_6, .ref mat, .ref mfd, .ref mhd])), (mat, .inl (cI, 5, .inl Gat_7)), (mfd, .inl (cI, 7, .inl Gfd_8)), (mhd, .inl (cI, 7, .inl Ghd_9)), (ma_6, .inr (1, [.ref ml_6, .int d0_6, .int t0_6, .int r0_6, .int g0_6, .ref mx_6, .ref my_6, .ref mz_6])), (mx_6, .inl (cI, 5, .inl fx_6)), (my_6, .inl (cI, 7, .inl fy_6)), (mz_6, .inl (cI, 7, .inl fz_6))] ++ (plW cI La_6 ++ plW cI Lb_6)) := D_subF hD [0, 1, 2, 4, 5, 6, 3, 7, 8, 9] (by decide) rfl
      refine W.widen (k := 0) (n := 0) (Nat.le_refl _) (Nat.le_refl _) ?_
      refine lv_aload_n hx hb dX3_undo_45 rfl (lv_at hl 1 rfl) ?_
      refine lv_dup hx hb dX3_undo_46 rfl ?_
      refine va_get (D := D) (ci := 3) (v := .int an) (C := RX3) (T := TX3) (N := 17) hx hb hts iX3 hown hK hP 0 rfl rfl 7 (by decide) (hts (.fieldLink RX3 43 "PunchedTicket" "actsInRow" "I") (List.mem_of_getElem? (i := 1) rfl)) (fun _ h9 => h9) rfl dX3_undo_47 ?_
      refine lv_iconst (v := 1) hx hb dX3_undo_50 (by decide) ?_
      refine lv_isub hx hb dX3_undo_51 ?_
      refine lv_topi (fun v_12 ev_12 => ?_)
      have tv_12 : v_12.toInt = an.toInt - (1 : Int) := by rw [ev_12]; exact ti_sub (x := an) (y := 1) (show -2147483648 ≤ an.toInt - (1 : Int) by omega) (show an.toInt - (1 : Int) < 2147483648 by omega)
      refine va_put (D := D) (ci := 3) (v := .int v_12) (ty := .int) (C := RX3) (T := TX3) (N := 17) hx hb hts iX3 tyX3 tyX3_ok nmX3 hown hK hP hD hS 0 rfl rfl 7 (by decide) (hts (.fieldLink RX3 43 "PunchedTicket" "actsInRow" "I") (List.mem_of_getElem? (i := 1) rfl)) (fun _ h9 => h9) rfl (by decide +kernel) rfl rfl (Nat.le_of_ble_eq_true rfl) dX3_undo_52 (fun H locs hP hD hS => ?_)
      have hP : va_P D vwCl ([(h0, .inr (3, [.ref tx, .int le, .ref td, .ref dr, .ref nw, .ref ac, .int fa, .int v_12, .ref kp, .int ks, .ref sp, .ref ss, .ref sy, .int sc, .long sd, .ref tr, .ref ia])), (ac, .inl (cM, 14, .inr (.inr (.inr (.inr Fac))))), (nw, .inr (1, [.ref td, .int d0_6, .int t0_6, .int r0_6, .int g0_6, .ref mat, .ref mfd, .ref mhd])), (mat, .inl (cI, 5, .inl Gat_7)), (mfd, .inl (cI, 7, .inl Gfd_8)), (mhd, .inl (cI, 7, .inl Ghd_9)), (ma_6, .inr (1, [.ref ml_6, .int d0_6, .int t0_6, .int r0_6, .int g0_6, .ref mx_6, .ref my_6, .ref mz_6])), (mx_6, .inl (cI, 5, .inl fx_6)), (my_6, .inl (cI, 7, .inl fy_6)), (mz_6, .inl (cI, 7, .inl fz_6))] ++ (plW cI La_6 ++ plW cI Lb_6)) H := hP
      have hD : va_D A ([(h0, .inr (3, [.ref tx, .int le, .ref td, .ref dr, .ref nw, .ref ac, .int fa, .int v_12, .ref kp, .int ks, .ref sp, .ref ss, .ref sy, .int sc, .long sd, .ref tr, .ref ia])), (ac, .inl (cM, 14, .inr (.inr (.inr (.inr Fac))))), (nw, .inr (1, [.ref td, .int d0_6, .int t0_6, .int r0_6, .int g0_6, .ref mat, .ref mfd, .ref mhd])), (mat, .inl (cI, 5, .inl Gat_7)), (mfd, .inl (cI, 7, .inl Gfd_8)), (mhd, .inl (cI, 7, .inl Ghd_9)), (ma_6, .inr (1, [.ref ml_6, .int d0_6, .int t0_6, .int r0_6, .int g0_6, .ref mx_6, .ref my_6, .ref mz_6])), (mx_6, .inl (cI, 5, .inl fx_6)), (my_6, .inl (cI, 7, .inl fy_6)), (mz_6, .inl (cI, 7, .inl fz_6))] ++ (plW cI La_6 ++ plW cI Lb_6)) := hD
      refine lv_aload_n hx hb dX3_undo_55 rfl (lv_at hl 1 rfl) ?_
      refine va_get (D := D) (ci := 3) (v := .int v_12) (C := RX3) (T := TX3) (N := 17) hx hb hts iX3 hown hK hP 0 rfl rfl 7 (by decide) (hts (.fieldLink RX3 43 "PunchedTicket" "actsInRow" "I") (List.mem_of_getElem? (i := 1) rfl)) (fun _ h9 => h9) rfl dX3_undo_56 ?_
      have hP : va_P D vwCl ([(h0, .inr (3, [.ref tx, .int le, .ref td, .ref dr, .ref nw, .ref ac, .int fa, .int v_12, .ref kp, .int ks, .ref sp, .ref ss, .ref sy, .int sc, .long sd, .ref tr, .ref ia])), (ac, .inl (cM, 14, .inr (.inr (.inr (.inr Fac))))), (nw, .inr (1, [.ref td, .int d0_6, .int t0_6, .int r0_6, .int g0_6, .ref mat, .ref mfd, .ref mhd])), (mat, .inl (cI, 5, .inl Gat_7)), (mfd, .inl (cI, 7, .inl Gfd_8)), (mhd, .inl (cI, 7, .inl Ghd_9))] ++ plW cI (La_6 ++ (((ma_6, ml_6, mx_6, my_6, mz_6), (d0_6, t0_6, r0_6, g0_6), (fx_6, fy_6, fz_6)) : Mom) :: Lb_6)) H := by rw [plW_mid]; exact va_P_perm hP (pm1 [(h0, .inr (3, [.ref tx, .int le, .ref td, .ref dr, .ref nw, .ref ac, .int fa, .int v_12, .ref kp, .int ks, .ref sp, .ref ss, .ref sy, .int sc, .long sd, .ref tr, .ref ia])), (ac, .inl (cM, 14, .inr (.inr (.inr (.inr Fac))))), (nw, .inr (1, [.ref td, .int d0_6, .int t0_6, .int r0_6, .int g0_6, .ref mat, .ref mfd, .ref mhd])), (mat, .inl (cI, 5, .inl Gat_7)), (mfd, .inl (cI, 7, .inl Gfd_8)), (mhd, .inl (cI, 7, .inl Ghd_9))] (plW cI La_6) (mG cI (((ma_6, ml_6, mx_6, my_6, mz_6), (d0_6, t0_6, r0_6, g0_6), (fx_6, fy_6, fz_6)) : Mom)) (plW cI Lb_6)).symm
      have hD : va_D A ([(h0, .inr (3, [.ref tx, .int le, .ref td, .ref dr, .ref nw, .ref ac, .int fa, .int v_12, .ref kp, .int ks, .ref sp, .ref ss, .ref sy, .int sc, .long sd, .ref tr, .ref ia])), (ac, .inl (cM, 14, .inr (.inr (.inr (.inr Fac))))), (nw, .inr (1, [.ref td, .int d0_6, .int t0_6, .int r0_6, .int g0_6, .ref mat, .ref mfd, .ref mhd])), (mat, .inl (cI, 5, .inl Gat_7)), (mfd, .inl (cI, 7, .inl Gfd_8)), (mhd, .inl (cI, 7, .inl Ghd_9))] ++ plW cI (La_6 ++ (((ma_6, ml_6, mx_6, my_6, mz_6), (d0_6, t0_6, r0_6, g0_6), (fx_6, fy_6, fz_6)) : Mom) :: Lb_6)) := by rw [plW_mid]; exact va_D_perm hD (pm1 [(h0, .inr (3, [.ref tx, .int le, .ref td, .ref dr, .ref nw, .ref ac, .int fa, .int v_12, .ref kp, .int ks, .ref sp, .ref ss, .ref sy, .int sc, .long sd, .ref tr, .ref ia])), (ac, .inl (cM, 14, .inr (.inr (.inr (.inr Fac))))), (nw, .inr (1, [.ref td, .int d0_6, .int t0_6, .int r0_6, .int g0_6, .ref mat, .ref mfd, .ref mhd])), (mat, .inl (cI, 5, .inl Gat_7)), (mfd, .inl (cI, 7, .inl Gfd_8)), (mhd, .inl (cI, 7, .inl Ghd_9))] (plW cI La_6) (mG cI (((ma_6, ml_6, mx_6, my_6, mz_6), (d0_6, t0_6, r0_6, g0_6), (fx_6, fy_6, fz_6)) : Mom)) (plW cI Lb_6)).symm
      exact ret_i (post := (fun (r : Int32) (u : Int32 × Int32 × (Nat → Option Nat) × Int32 × Int32 × Int32 × Int32 × (Nat → Int32) × (Nat → Int32) × (Nat → Int32) × (List Mom)) => InPool 14 u.2.2.1 u.2.2.2.2.2.2.2.2.2.2 ∧ Keeps L u.2.2.2.2.2.2.2.2.2.2 ∧ MsOk u.2.2.2.2.2.2.2.2.2.2 ∧ (0 ≤ u.1.toInt ∧ u.1.toInt ≤ 13) ∧ (0 ≤ u.2.1.toInt ∧ u.2.1.toInt ≤ 14) ∧ (0 ≤ u.2.2.2.1.toInt ∧ u.2.2.2.1.toInt ≤ 10) ∧ (0 ≤ u.2.2.2.2.1.toInt ∧ u.2.2.2.2.1.toInt ≤ 6))) (W1 := (fun u => ([(h0, .inr (3, [.ref tx, .int le, .ref td, .ref dr, .ref nw, .ref ac, .int u.1, .int u.2.1, .ref kp, .int ks, .ref sp, .ref ss, .ref sy, .int sc, .long sd, .ref tr, .ref ia])), (ac, .inl (cM, 14, .inr (.inr (.inr (.inr u.2.2.1))))), (nw, .inr (1, [.ref td, .int u.2.2.2.1, .int u.2.2.2.2.1, .int u.2.2.2.2.2.1, .int u.2.2.2.2.2.2.1, .ref mat, .ref mfd, .ref mhd])), (mat, .inl (cI, 5, .inl u.2.2.2.2.2.2.2.1)), (mfd, .inl (cI, 7, .inl u.2.2.2.2.2.2.2.2.1)), (mhd, .inl (cI, 7, .inl u.2.2.2.2.2.2.2.2.2.1))] ++ plW cI u.2.2.2.2.2.2.2.2.2.2))) (fa, v_12, Fac, d0_6, t0_6, r0_6, g0_6, Gat_7, Gfd_8, Ghd_9, (La_6 ++ (((ma_6, ml_6, mx_6, my_6, mz_6), (d0_6, t0_6, r0_6, g0_6), (fx_6, fy_6, fz_6)) : Mom) :: Lb_6)) hx hb hr hlocks rfl hQ hK hP hD hS ⟨by decide, by decide⟩ dX3_undo_59 (show InPool 14 Fac (La_6 ++ (((ma_6, ml_6, mx_6, my_6, mz_6), (d0_6, t0_6, r0_6, g0_6), (fx_6, fy_6, fz_6)) : Mom) :: Lb_6) ∧ Keeps L (La_6 ++ (((ma_6, ml_6, mx_6, my_6, mz_6), (d0_6, t0_6, r0_6, g0_6), (fx_6, fy_6, fz_6)) : Mom) :: Lb_6) ∧ MsOk (La_6 ++ (((ma_6, ml_6, mx_6, my_6, mz_6), (d0_6, t0_6, r0_6, g0_6), (fx_6, fy_6, fz_6)) : Mom) :: Lb_6) ∧ (0 ≤ fa.toInt ∧ fa.toInt ≤ 13) ∧ (0 ≤ v_12.toInt ∧ v_12.toInt ≤ 14) ∧ (0 ≤ d0_6.toInt ∧ d0_6.toInt ≤ 10) ∧ (0 ≤ t0_6.toInt ∧ t0_6.toInt ≤ 6) from ⟨hPool.keeps (keeps_midE hL_6 rfl), keeps_midE hL_6 rfl, msOk_midE hL_6 hMs (show 0 ≤ d0_6.toInt ∧ d0_6.toInt ≤ 10 ∧ 0 ≤ t0_6.toInt ∧ t0_6.toInt ≤ 6 from ⟨by omega, by omega, by omega, by omega⟩), by omega, by omega, by omega, by omega⟩)
  · have tc_1 := b_nlt (show (0 : Int32).toInt = 0 by decide) rfl c_1
    refine lv_bipush (v := (-3)) hx hb dX3_undo_7 (by decide) ?_
    exact ret_i (post := (fun (r : Int32) (u : Int32 × Int32 × (Nat → Option Nat) × Int32 × Int32 × Int32 × Int32 × (Nat → Int32) × (Nat → Int32) × (Nat → Int32) × (List Mom)) => InPool 14 u.2.2.1 u.2.2.2.2.2.2.2.2.2.2 ∧ Keeps L u.2.2.2.2.2.2.2.2.2.2 ∧ MsOk u.2.2.2.2.2.2.2.2.2.2 ∧ (0 ≤ u.1.toInt ∧ u.1.toInt ≤ 13) ∧ (0 ≤ u.2.1.toInt ∧ u.2.1.toInt ≤ 14) ∧ (0 ≤ u.2.2.2.1.toInt ∧ u.2.2.2.1.toInt ≤ 10) ∧ (0 ≤ u.2.2.2.2.1.toInt ∧ u.2.2.2.2.1.toInt ≤ 6))) (W1 := (fun u => ([(h0, .inr (3, [.ref tx, .int le, .ref td, .ref dr, .ref nw, .ref ac, .int u.1, .int u.2.1, .ref kp, .int ks, .ref sp, .ref ss, .ref sy, .int sc, .long sd, .ref tr, .ref ia])), (ac, .inl (cM, 14, .inr (.inr (.inr (.inr u.2.2.1))))), (nw, .inr (1, [.ref td, .int u.2.2.2.1, .int u.2.2.2.2.1, .int u.2.2.2.2.2.1, .int u.2.2.2.2.2.2.1, .ref mat, .ref mfd, .ref mhd])), (mat, .inl (cI, 5, .inl u.2.2.2.2.2.2.2.1)), (mfd, .inl (cI, 7, .inl u.2.2.2.2.2.2.2.2.1)), (mhd, .inl (cI, 7, .inl u.2.2.2.2.2.2.2.2.2.1))] ++ plW cI u.2.2.2.2.2.2.2.2.2.2))) (fa, an, Fac, md, mt, mr, mg, mFat, mFfd, mFhd, L) hx hb hr hlocks rfl hQ hK hP hD hS ⟨by decide, by decide⟩ dX3_undo_9 (show InPool 14 Fac L ∧ Keeps L L ∧ MsOk L ∧ (0 ≤ fa.toInt ∧ fa.toInt ≤ 13) ∧ (0 ≤ an.toInt ∧ an.toInt ≤ 14) ∧ (0 ≤ md.toInt ∧ md.toInt ≤ 10) ∧ (0 ≤ mt.toInt ∧ mt.toInt ≤ 6) from ⟨hPool, keeps_rf, hMs, by omega, by omega, by omega, by omega⟩)

set_option maxHeartbeats 600000 in
set_option maxRecDepth 100000 in
theorem c_X3_keep (l : Launch) (D : va_G) (cI cZ cM : ClassId) (h0 : Nat) (n : Int32) (tx : Nat) (le : Int32) (td : Nat) (dr : Nat) (nw : Nat) (ac : Nat) (fa : Int32) (an : Int32) (kp : Nat) (ks : Int32) (sp : Nat) (ss : Nat) (sy : Nat) (sc : Int32) (sd : Int64) (tr : Nat) (ia : Nat) (Fkp : Nat → Option Nat) (md : Int32) (mt : Int32) (mr : Int32) (mg : Int32) (mat : Nat) (mfd : Nat) (mhd : Nat) (mFat : Nat → Int32) (mFfd : Nat → Int32) (mFhd : Nat → Int32) (L : List Mom) (sz : Nat) (hPool : InPool 2 Fkp L) (hMs : MsOk L) (h_md : 0 ≤ md.toInt ∧ md.toInt ≤ 10) (h_mt : 0 ≤ mt.toInt ∧ mt.toInt ≤ 6) : Ci l yX3_keep wsX3_keep ({ frames := 3, cells := 4, slots := 27, locals := 70 } : Room) D cI cZ cM [.ref h0, .int n] ([(h0, .inr (3, [.ref tx, .int le, .ref td, .ref dr, .ref nw, .ref ac, .int fa, .int an, .ref kp, .int ks, .ref sp, .ref ss, .ref sy, .int sc, .long sd, .ref tr, .ref ia])), (kp, .inl (cM, 2, .inr (.inr (.inr (.inr Fkp))))), (nw, .inr (1, [.ref td, .int md, .int mt, .int mr, .int mg, .ref mat, .ref mfd, .ref mhd])), (mat, .inl (cI, 5, .inl mFat)), (mfd, .inl (cI, 7, .inl mFfd)), (mhd, .inl (cI, 7, .inl mFhd))] ++ plW cI L) sz (fun (r : Int32) (u : Int32 × (Nat → Option Nat) × (List Mom)) => InPool 2 u.2.1 u.2.2 ∧ Keeps L u.2.2 ∧ MsOk u.2.2) (fun u => ([(h0, .inr (3, [.ref tx, .int le, .ref td, .ref dr, .ref nw, .ref ac, .int fa, .int an, .ref kp, .int u.1, .ref sp, .ref ss, .ref sy, .int sc, .long sd, .ref tr, .ref ia])), (kp, .inl (cM, 2, .inr (.inr (.inr (.inr u.2.1))))), (nw, .inr (1, [.ref td, .int md, .int mt, .int mr, .int mg, .ref mat, .ref mfd, .ref mhd])), (mat, .inl (cI, 5, .inl mFat)), (mfd, .inl (cI, 7, .inl mFfd)), (mhd, .inl (cI, 7, .inl mFhd))] ++ plW cI u.2.2)) 4 27 := by
  refine begins (l := l) (y := yX3_keep) (ws := wsX3_keep) (av := [.ref h0, .int n]) (Qc := fun A => va_Qi (fun (r : Int32) (u : Int32 × (Nat → Option Nat) × (List Mom)) => InPool 2 u.2.1 u.2.2 ∧ Keeps L u.2.2 ∧ MsOk u.2.2) (fun u => Wd D cI cZ cM A ((fun u => ([(h0, .inr (3, [.ref tx, .int le, .ref td, .ref dr, .ref nw, .ref ac, .int fa, .int an, .ref kp, .int u.1, .ref sp, .ref ss, .ref sy, .int sc, .long sd, .ref tr, .ref ia])), (kp, .inl (cM, 2, .inr (.inr (.inr (.inr u.2.1))))), (nw, .inr (1, [.ref td, .int md, .int mt, .int mr, .int mg, .ref mat, .ref mfd, .ref mhd])), (mat, .inl (cI, 5, .inl mFat)), (mfd, .inl (cI, 7, .inl mFfd)), (mhd, .inl (cI, 7, .inl mFhd))] ++ plW cI u.2.2)) u)) A) cX3_keep 2 (some .int) (by decide) rfl (Nat.le_of_ble_eq_true rfl) ?_
  intro p e s m args below meth c R Q A ls hBd hR hQ hA hS hK hP hD hl
  obtain ⟨hx, hb, hr, hts, hown, hlocks, hin, hml⟩ := hBd
  have hl : lv_has ls 2 [(0, .ref h0), (1, .int n)] := hl
  have iX3 : ∀ w ∈ wsX30, w ∈ wsX3_keep := fun _ h => List.mem_cons_of_mem _ (List.mem_append_left _ (List.mem_append_right _ h))
  have iX1 : ∀ w ∈ wsX10, w ∈ wsX3_keep := fun _ h => List.mem_cons_of_mem _ (List.mem_append_right _ h)
  obtain ⟨h_mda, h_mdb⟩ := h_md
  obtain ⟨h_mta, h_mtb⟩ := h_mt
  refine lv_iload_n hx hb dX3_keep_0 rfl (lv_at hl 1 rfl) ?_
  refine fS_i (As := [.int n]) (rest := []) ⟨hx, hb, hml, hown, hts⟩ (c_X3_isSlot l D cI cZ cM n _ ) (va_cwS 1 hts gX3_keep_X3_isSlot rfl rfl rfl (by decide +kernel) ⟨by rw [hR]; decide, by rw [hR]; decide⟩) hK hP hD hS hA [] [0, 1, 2, 3, 4, 5] rfl rfl (by decide) (by decide) (by decide) hl.1 rfl rfl (Nat.le_of_ble_eq_true rfl) dX3_keep_1 ⟨by rw [hR]; decide, by rw [hR]; decide⟩ (fun r_1 u_2 H locs hw hP hD hS => ?_)
  have hP : va_P D vwCl ([(h0, .inr (3, [.ref tx, .int le, .ref td, .ref dr, .ref nw, .ref ac, .int fa, .int an, .ref kp, .int ks, .ref sp, .ref ss, .ref sy, .int sc, .long sd, .ref tr, .ref ia])), (kp, .inl (cM, 2, .inr (.inr (.inr (.inr Fkp))))), (nw, .inr (1, [.ref td, .int md, .int mt, .int mr, .int mg, .ref mat, .ref mfd, .ref mhd])), (mat, .inl (cI, 5, .inl mFat)), (mfd, .inl (cI, 7, .inl mFfd)), (mhd, .inl (cI, 7, .inl mFhd))] ++ plW cI L) H := P_subF hP [0, 1, 2, 3, 4, 5] rfl
  have hD : va_D A ([(h0, .inr (3, [.ref tx, .int le, .ref td, .ref dr, .ref nw, .ref ac, .int fa, .int an, .ref kp, .int ks, .ref sp, .ref ss, .ref sy, .int sc, .long sd, .ref tr, .ref ia])), (kp, .inl (cM, 2, .inr (.inr (.inr (.inr Fkp))))), (nw, .inr (1, [.ref td, .int md, .int mt, .int mr, .int mg, .ref mat, .ref mfd, .ref mhd])), (mat, .inl (cI, 5, .inl mFat)), (mfd, .inl (cI, 7, .inl mFfd)), (mhd, .inl (cI, 7, .inl mFhd))] ++ plW cI L) := D_subF hD [0, 1, 2, 3, 4, 5] (by decide) rfl
  refine W.widen (k := 0) (n := 0) (Nat.le_refl _) (Nat.le_refl _) ?_
  have hw : (r_1.toInt = 1 ∧ 0 ≤ n.toInt ∧ n.toInt < 2) ∨ (r_1.toInt = 0 ∧ (n.toInt < 0 ∨ 2 ≤ n.toInt)) := hw
  have hw_3 := hw
  refine lv_if_ne (tgt := 9) hx hb dX3_keep_4 (by decide) (fun c_4 => ?_) (fun c_4 => ?_)
  · have tc_4 := b_ne rfl (show (0 : Int32).toInt = 0 by decide) c_4
    have hn1 : 0 ≤ n.toInt := by omega
    have hn2 : n.toInt ≤ 1 := by omega
    refine lv_aload_n hx hb dX3_keep_9 rfl (lv_at hl 0 rfl) ?_
    refine lv_aload_n hx hb dX3_keep_10 rfl (lv_at hl 0 rfl) ?_
    refine va_get (D := D) (ci := 3) (v := .ref kp) (C := RX3) (T := TX3) (N := 17) hx hb hts iX3 hown hK hP 0 rfl rfl 8 (by decide) (hts (.fieldLink RX3 46 "PunchedTicket" "kept" "[LPunchedTicket$Moment;") (List.mem_of_getElem? (i := 1) rfl)) (fun _ h9 => h9) rfl dX3_keep_11 ?_
    refine lv_iload_n hx hb dX3_keep_14 rfl (lv_at hl 1 rfl) ?_
    refine gV_v (As := [.ref kp, .int n]) (rest := []) ⟨hx, hb, hml, hown, hts⟩ (c_X3_keepIn2 l D cI cZ cM h0 kp n tx le td dr nw ac fa an kp ks sp ss sy sc sd tr ia Fkp td md mt mr mg mat mfd mhd mFat mFfd mFhd L _ hPool hMs (show 0 ≤ n.toInt ∧ n.toInt ≤ 1 by omega) (show 0 ≤ md.toInt ∧ md.toInt ≤ 10 by omega) (show 0 ≤ mt.toInt ∧ mt.toInt ≤ 6 by omega)) (cwV 2 hts gX3_keep_X3_keepIn rfl rfl rfl (by decide +kernel) ⟨by rw [hR]; decide, by rw [hR]; decide⟩) hK hP hD hS hA [0, 1, 2, 3, 4, 5] [] rfl rfl (by decide) (by decide) (by decide) rfl 0 rfl hl.1 rfl rfl (Nat.le_of_ble_eq_true rfl) dX3_keep_15 ⟨by rw [hR]; decide, by rw [hR]; decide⟩ (fun u_8 H locs hw hP hD hS => ?_)
    obtain ⟨Gms_5, L1_6⟩ := u_8
    have hP : va_P D vwCl ([(h0, .inr (3, [.ref tx, .int le, .ref td, .ref dr, .ref nw, .ref ac, .int fa, .int an, .ref kp, .int ks, .ref sp, .ref ss, .ref sy, .int sc, .long sd, .ref tr, .ref ia])), (kp, .inl (cM, 2, .inr (.inr (.inr (.inr Gms_5))))), (nw, .inr (1, [.ref td, .int md, .int mt, .int mr, .int mg, .ref mat, .ref mfd, .ref mhd])), (mat, .inl (cI, 5, .inl mFat)), (mfd, .inl (cI, 7, .inl mFfd)), (mhd, .inl (cI, 7, .inl mFhd))] ++ plW cI L1_6) H := P_subF hP [0, 1, 2, 3, 4, 5] rfl
    have hD : va_D A ([(h0, .inr (3, [.ref tx, .int le, .ref td, .ref dr, .ref nw, .ref ac, .int fa, .int an, .ref kp, .int ks, .ref sp, .ref ss, .ref sy, .int sc, .long sd, .ref tr, .ref ia])), (kp, .inl (cM, 2, .inr (.inr (.inr (.inr Gms_5))))), (nw, .inr (1, [.ref td, .int md, .int mt, .int mr, .int mg, .ref mat, .ref mfd, .ref mhd])), (mat, .inl (cI, 5, .inl mFat)), (mfd, .inl (cI, 7, .inl mFfd)), (mhd, .inl (cI, 7, .inl mFhd))] ++ plW cI L1_6) := D_subF hD [0, 1, 2, 3, 4, 5] (by decide) rfl
    refine W.widen (k := 4) (n := 27) (by omega) (by omega) ?_
    have hw : InPool 2 Gms_5 L1_6 ∧ Keeps L L1_6 ∧ MsOk L1_6 := hw
    have hw_9 := hw
    obtain ⟨PL1, PL2, PL3⟩ := hw_9
    refine lv_aload_n hx hb dX3_keep_18 rfl (lv_at hl 0 rfl) ?_
    refine lv_dup hx hb dX3_keep_19 rfl ?_
    refine va_get (D := D) (ci := 3) (v := .int ks) (C := RX3) (T := TX3) (N := 17) hx hb hts iX3 hown hK hP 0 rfl rfl 9 (by decide) (hts (.fieldLink RX3 49 "PunchedTicket" "keptSlots" "I") (List.mem_of_getElem? (i := 2) rfl)) (fun _ h9 => h9) rfl dX3_keep_20 ?_
    refine lv_iconst (v := 1) hx hb dX3_keep_23 (by decide) ?_
    refine lv_iload_n hx hb dX3_keep_24 rfl (lv_at hl 1 rfl) ?_
    refine lv_ishl hx hb dX3_keep_25 ?_
    refine lv_topi (fun v_10 ev_10 => ?_)
    refine lv_ior hx hb dX3_keep_26 ?_
    refine lv_topi (fun v_11 ev_11 => ?_)
    refine va_put (D := D) (ci := 3) (v := .int v_11) (ty := .int) (C := RX3) (T := TX3) (N := 17) hx hb hts iX3 tyX3 tyX3_ok nmX3 hown hK hP hD hS 0 rfl rfl 9 (by decide) (hts (.fieldLink RX3 49 "PunchedTicket" "keptSlots" "I") (List.mem_of_getElem? (i := 2) rfl)) (fun _ h9 => h9) rfl (by decide +kernel) rfl rfl (Nat.le_of_ble_eq_true rfl) dX3_keep_27 (fun H locs hP hD hS => ?_)
    have hP : va_P D vwCl ([(h0, .inr (3, [.ref tx, .int le, .ref td, .ref dr, .ref nw, .ref ac, .int fa, .int an, .ref kp, .int v_11, .ref sp, .ref ss, .ref sy, .int sc, .long sd, .ref tr, .ref ia])), (kp, .inl (cM, 2, .inr (.inr (.inr (.inr Gms_5))))), (nw, .inr (1, [.ref td, .int md, .int mt, .int mr, .int mg, .ref mat, .ref mfd, .ref mhd])), (mat, .inl (cI, 5, .inl mFat)), (mfd, .inl (cI, 7, .inl mFfd)), (mhd, .inl (cI, 7, .inl mFhd))] ++ plW cI L1_6) H := hP
    have hD : va_D A ([(h0, .inr (3, [.ref tx, .int le, .ref td, .ref dr, .ref nw, .ref ac, .int fa, .int an, .ref kp, .int v_11, .ref sp, .ref ss, .ref sy, .int sc, .long sd, .ref tr, .ref ia])), (kp, .inl (cM, 2, .inr (.inr (.inr (.inr Gms_5))))), (nw, .inr (1, [.ref td, .int md, .int mt, .int mr, .int mg, .ref mat, .ref mfd, .ref mhd])), (mat, .inl (cI, 5, .inl mFat)), (mfd, .inl (cI, 7, .inl mFfd)), (mhd, .inl (cI, 7, .inl mFhd))] ++ plW cI L1_6) := hD
    refine lv_aload_n hx hb dX3_keep_30 rfl (lv_at hl 0 rfl) ?_
    refine va_get (D := D) (ci := 3) (v := .ref nw) (C := RX3) (T := TX3) (N := 17) hx hb hts iX3 hown hK hP 0 rfl rfl 4 (by decide) (hts (.fieldLink RX3 32 "PunchedTicket" "now" "LPunchedTicket$Moment;") (List.mem_of_getElem? (i := 3) rfl)) (fun _ h9 => h9) rfl dX3_keep_31 ?_
    refine va_get (D := D) (ci := 1) (v := .int md) (C := RX1) (T := TX1) (N := 8) hx hb hts iX1 hown hK hP 2 rfl rfl 1 (by decide) (hts (.fieldLink RX3 141 "PunchedTicket$Moment" "day" "I") (List.mem_of_getElem? (i := 4) rfl)) (fun _ h9 => h9) rfl dX3_keep_34 ?_
    exact ret_i (post := (fun (r : Int32) (u : Int32 × (Nat → Option Nat) × (List Mom)) => InPool 2 u.2.1 u.2.2 ∧ Keeps L u.2.2 ∧ MsOk u.2.2)) (W1 := (fun u => ([(h0, .inr (3, [.ref tx, .int le, .ref td, .ref dr, .ref nw, .ref ac, .int fa, .int an, .ref kp, .int u.1, .ref sp, .ref ss, .ref sy, .int sc, .long sd, .ref tr, .ref ia])), (kp, .inl (cM, 2, .inr (.inr (.inr (.inr u.2.1))))), (nw, .inr (1, [.ref td, .int md, .int mt, .int mr, .int mg, .ref mat, .ref mfd, .ref mhd])), (mat, .inl (cI, 5, .inl mFat)), (mfd, .inl (cI, 7, .inl mFfd)), (mhd, .inl (cI, 7, .inl mFhd))] ++ plW cI u.2.2))) (v_11, Gms_5, L1_6) hx hb hr hlocks rfl hQ hK hP hD hS ⟨by decide, by decide⟩ dX3_keep_37 (⟨PL1, PL2, PL3⟩)
  · have tc_4 := b_eq rfl (show (0 : Int32).toInt = 0 by decide) c_4
    refine lv_iconst (v := (-1)) hx hb dX3_keep_7 (by decide) ?_
    exact ret_i (post := (fun (r : Int32) (u : Int32 × (Nat → Option Nat) × (List Mom)) => InPool 2 u.2.1 u.2.2 ∧ Keeps L u.2.2 ∧ MsOk u.2.2)) (W1 := (fun u => ([(h0, .inr (3, [.ref tx, .int le, .ref td, .ref dr, .ref nw, .ref ac, .int fa, .int an, .ref kp, .int u.1, .ref sp, .ref ss, .ref sy, .int sc, .long sd, .ref tr, .ref ia])), (kp, .inl (cM, 2, .inr (.inr (.inr (.inr u.2.1))))), (nw, .inr (1, [.ref td, .int md, .int mt, .int mr, .int mg, .ref mat, .ref mfd, .ref mhd])), (mat, .inl (cI, 5, .inl mFat)), (mfd, .inl (cI, 7, .inl mFfd)), (mhd, .inl (cI, 7, .inl mFhd))] ++ plW cI u.2.2))) (ks, Fkp, L) hx hb hr hlocks rfl hQ hK hP hD hS ⟨by decide, by decide⟩ dX3_keep_8 (⟨hPool, keeps_rf, hMs⟩)

set_option maxHeartbeats 600000 in
set_option maxRecDepth 100000 in
theorem c_X3_again (l : Launch) (D : va_G) (cI cZ cM : ClassId) (h0 : Nat) (n : Int32) (tx : Nat) (le : Int32) (td : Nat) (dr : Nat) (nw : Nat) (ac : Nat) (fa : Int32) (an : Int32) (kp : Nat) (ks : Int32) (sp : Nat) (ss : Nat) (sy : Nat) (sc : Int32) (sd : Int64) (tr : Nat) (ia : Nat) (Fkp : Nat → Option Nat) (md : Int32) (mt : Int32) (mr : Int32) (mg : Int32) (mat : Nat) (mfd : Nat) (mhd : Nat) (mFat : Nat → Int32) (mFfd : Nat → Int32) (mFhd : Nat → Int32) (L : List Mom) (sz : Nat) (hPool : InPool 2 Fkp L) (hMs : MsOk L) (h_fa : 0 ≤ fa.toInt ∧ fa.toInt ≤ 13) (h_an : 0 ≤ an.toInt ∧ an.toInt ≤ 14) (h_md : 0 ≤ md.toInt ∧ md.toInt ≤ 10) (h_mt : 0 ≤ mt.toInt ∧ mt.toInt ≤ 6) : Ci l yX3_again wsX3_again ({ frames := 2, cells := 0, slots := 0, locals := 47 } : Room) D cI cZ cM [.ref h0, .int n] ([(h0, .inr (3, [.ref tx, .int le, .ref td, .ref dr, .ref nw, .ref ac, .int fa, .int an, .ref kp, .int ks, .ref sp, .ref ss, .ref sy, .int sc, .long sd, .ref tr, .ref ia])), (kp, .inl (cM, 2, .inr (.inr (.inr (.inr Fkp))))), (nw, .inr (1, [.ref td, .int md, .int mt, .int mr, .int mg, .ref mat, .ref mfd, .ref mhd])), (mat, .inl (cI, 5, .inl mFat)), (mfd, .inl (cI, 7, .inl mFfd)), (mhd, .inl (cI, 7, .inl mFhd))] ++ plW cI L) sz (fun (r : Int32) (u : Int32 × Int32 × (Nat → Option Nat) × Int32 × Int32 × Int32 × Int32 × (Nat → Int32) × (Nat → Int32) × (Nat → Int32) × (List Mom)) => InPool 2 u.2.2.1 u.2.2.2.2.2.2.2.2.2.2 ∧ Keeps L u.2.2.2.2.2.2.2.2.2.2 ∧ MsOk u.2.2.2.2.2.2.2.2.2.2 ∧ (0 ≤ u.1.toInt ∧ u.1.toInt ≤ 13) ∧ (0 ≤ u.2.1.toInt ∧ u.2.1.toInt ≤ 14) ∧ (0 ≤ u.2.2.2.1.toInt ∧ u.2.2.2.1.toInt ≤ 10) ∧ (0 ≤ u.2.2.2.2.1.toInt ∧ u.2.2.2.2.1.toInt ≤ 6)) (fun u => ([(h0, .inr (3, [.ref tx, .int le, .ref td, .ref dr, .ref nw, .ref ac, .int u.1, .int u.2.1, .ref kp, .int ks, .ref sp, .ref ss, .ref sy, .int sc, .long sd, .ref tr, .ref ia])), (kp, .inl (cM, 2, .inr (.inr (.inr (.inr u.2.2.1))))), (nw, .inr (1, [.ref td, .int u.2.2.2.1, .int u.2.2.2.2.1, .int u.2.2.2.2.2.1, .int u.2.2.2.2.2.2.1, .ref mat, .ref mfd, .ref mhd])), (mat, .inl (cI, 5, .inl u.2.2.2.2.2.2.2.1)), (mfd, .inl (cI, 7, .inl u.2.2.2.2.2.2.2.2.1)), (mhd, .inl (cI, 7, .inl u.2.2.2.2.2.2.2.2.2.1))] ++ plW cI u.2.2.2.2.2.2.2.2.2.2)) 0 0 := by
  refine begins (l := l) (y := yX3_again) (ws := wsX3_again) (av := [.ref h0, .int n]) (Qc := fun A => va_Qi (fun (r : Int32) (u : Int32 × Int32 × (Nat → Option Nat) × Int32 × Int32 × Int32 × Int32 × (Nat → Int32) × (Nat → Int32) × (Nat → Int32) × (List Mom)) => InPool 2 u.2.2.1 u.2.2.2.2.2.2.2.2.2.2 ∧ Keeps L u.2.2.2.2.2.2.2.2.2.2 ∧ MsOk u.2.2.2.2.2.2.2.2.2.2 ∧ (0 ≤ u.1.toInt ∧ u.1.toInt ≤ 13) ∧ (0 ≤ u.2.1.toInt ∧ u.2.1.toInt ≤ 14) ∧ (0 ≤ u.2.2.2.1.toInt ∧ u.2.2.2.1.toInt ≤ 10) ∧ (0 ≤ u.2.2.2.2.1.toInt ∧ u.2.2.2.2.1.toInt ≤ 6)) (fun u => Wd D cI cZ cM A ((fun u => ([(h0, .inr (3, [.ref tx, .int le, .ref td, .ref dr, .ref nw, .ref ac, .int u.1, .int u.2.1, .ref kp, .int ks, .ref sp, .ref ss, .ref sy, .int sc, .long sd, .ref tr, .ref ia])), (kp, .inl (cM, 2, .inr (.inr (.inr (.inr u.2.2.1))))), (nw, .inr (1, [.ref td, .int u.2.2.2.1, .int u.2.2.2.2.1, .int u.2.2.2.2.2.1, .int u.2.2.2.2.2.2.1, .ref mat, .ref mfd, .ref mhd])), (mat, .inl (cI, 5, .inl u.2.2.2.2.2.2.2.1)), (mfd, .inl (cI, 7, .inl u.2.2.2.2.2.2.2.2.1)), (mhd, .inl (cI, 7, .inl u.2.2.2.2.2.2.2.2.2.1))] ++ plW cI u.2.2.2.2.2.2.2.2.2.2)) u)) A) cX3_again 3 (some .int) (by decide) rfl (Nat.le_of_ble_eq_true rfl) ?_
  intro p e s m args below meth c R Q A ls hBd hR hQ hA hS hK hP hD hl
  obtain ⟨hx, hb, hr, hts, hown, hlocks, hin, hml⟩ := hBd
  have hl : lv_has ls 3 [(0, .ref h0), (1, .int n)] := hl
  have iX3 : ∀ w ∈ wsX30, w ∈ wsX3_again := fun _ h => List.mem_cons_of_mem _ (List.mem_append_left _ (List.mem_append_right _ h))
  have iX1 : ∀ w ∈ wsX10, w ∈ wsX3_again := fun _ h => List.mem_cons_of_mem _ (List.mem_append_right _ h)
  obtain ⟨h_faa, h_fab⟩ := h_fa
  obtain ⟨h_ana, h_anb⟩ := h_an
  obtain ⟨h_mda, h_mdb⟩ := h_md
  obtain ⟨h_mta, h_mtb⟩ := h_mt
  refine lv_iload_n hx hb dX3_again_0 rfl (lv_at hl 1 rfl) ?_
  refine fS_i (As := [.int n]) (rest := []) ⟨hx, hb, hml, hown, hts⟩ (c_X3_isSlot l D cI cZ cM n _ ) (va_cwS 1 hts gX3_again_X3_isSlot rfl rfl rfl (by decide +kernel) ⟨by rw [hR]; decide, by rw [hR]; decide⟩) hK hP hD hS hA [] [0, 1, 2, 3, 4, 5] rfl rfl (by decide) (by decide) (by decide) hl.1 rfl rfl (Nat.le_of_ble_eq_true rfl) dX3_again_1 ⟨by rw [hR]; decide, by rw [hR]; decide⟩ (fun r_1 u_2 H locs hw hP hD hS => ?_)
  have hP : va_P D vwCl ([(h0, .inr (3, [.ref tx, .int le, .ref td, .ref dr, .ref nw, .ref ac, .int fa, .int an, .ref kp, .int ks, .ref sp, .ref ss, .ref sy, .int sc, .long sd, .ref tr, .ref ia])), (kp, .inl (cM, 2, .inr (.inr (.inr (.inr Fkp))))), (nw, .inr (1, [.ref td, .int md, .int mt, .int mr, .int mg, .ref mat, .ref mfd, .ref mhd])), (mat, .inl (cI, 5, .inl mFat)), (mfd, .inl (cI, 7, .inl mFfd)), (mhd, .inl (cI, 7, .inl mFhd))] ++ plW cI L) H := P_subF hP [0, 1, 2, 3, 4, 5] rfl
  have hD : va_D A ([(h0, .inr (3, [.ref tx, .int le, .ref td, .ref dr, .ref nw, .ref ac, .int fa, .int an, .ref kp, .int ks, .ref sp, .ref ss, .ref sy, .int sc, .long sd, .ref tr, .ref ia])), (kp, .inl (cM, 2, .inr (.inr (.inr (.inr Fkp))))), (nw, .inr (1, [.ref td, .int md, .int mt, .int mr, .int mg, .ref mat, .ref mfd, .ref mhd])), (mat, .inl (cI, 5, .inl mFat)), (mfd, .inl (cI, 7, .inl mFfd)), (mhd, .inl (cI, 7, .inl mFhd))] ++ plW cI L) := D_subF hD [0, 1, 2, 3, 4, 5] (by decide) rfl
  refine W.widen (k := 0) (n := 0) (Nat.le_refl _) (Nat.le_refl _) ?_
  have hw : (r_1.toInt = 1 ∧ 0 ≤ n.toInt ∧ n.toInt < 2) ∨ (r_1.toInt = 0 ∧ (n.toInt < 0 ∨ 2 ≤ n.toInt)) := hw
  have hw_3 := hw
  refine lv_if_ne (tgt := 9) hx hb dX3_again_4 (by decide) (fun c_4 => ?_) (fun c_4 => ?_)
  · have tc_4 := b_ne rfl (show (0 : Int32).toInt = 0 by decide) c_4
    have hn1 : 0 ≤ n.toInt := by omega
    have hn2 : n.toInt ≤ 1 := by omega
    refine lv_aload_n hx hb dX3_again_9 rfl (lv_at hl 0 rfl) ?_
    refine va_get (D := D) (ci := 3) (v := .ref kp) (C := RX3) (T := TX3) (N := 17) hx hb hts iX3 hown hK hP 0 rfl rfl 8 (by decide) (hts (.fieldLink RX3 46 "PunchedTicket" "kept" "[LPunchedTicket$Moment;") (List.mem_of_getElem? (i := 1) rfl)) (fun _ h9 => h9) rfl dX3_again_10 ?_
    refine lv_iload_n hx hb dX3_again_13 rfl (lv_at hl 1 rfl) ?_
    refine va_aldq hx hb hK hP 1 2 rfl rfl (vp_in_iff.mpr ⟨by omega, by omega⟩) dX3_again_14 ?_
    rcases hq_5 : Fkp (n : Int32).toNatClampNeg with _ | q_6
    · skip
      refine W.eq (g2 := F0 m 15 ls [.null]) rfl ?_
      refine lv_astore_nN (lv' := [(2, .null), (0, .ref h0), (1, .int n)]) hx hb dX3_again_15 rfl hl (by decide) rfl (fun ls hl => ?_)
      refine lv_aload_n hx hb dX3_again_16 rfl (lv_at hl 1 rfl) ?_
      refine va_get (D := D) (ci := 3) (v := .int ks) (C := RX3) (T := TX3) (N := 17) hx hb hts iX3 hown hK hP 0 rfl rfl 9 (by decide) (hts (.fieldLink RX3 49 "PunchedTicket" "keptSlots" "I") (List.mem_of_getElem? (i := 2) rfl)) (fun _ h9 => h9) rfl dX3_again_17 ?_
      refine lv_iload_n hx hb dX3_again_20 rfl (lv_at hl 2 rfl) ?_
      refine lv_ishr hx hb dX3_again_21 ?_
      refine lv_topi (fun v_7 ev_7 => ?_)
      refine lv_iconst (v := 1) hx hb dX3_again_22 (by decide) ?_
      refine lv_iand hx hb dX3_again_23 ?_
      refine lv_topi (fun v_8 ev_8 => ?_)
      refine lv_if_eq (tgt := 31) hx hb dX3_again_24 (by decide) (fun c_9 => ?_) (fun c_9 => ?_)
      · have tc_9 := b_eq rfl (show (0 : Int32).toInt = 0 by decide) c_9
        refine lv_bipush (v := (-3)) hx hb dX3_again_31 (by decide) ?_
        exact ret_i (post := (fun (r : Int32) (u : Int32 × Int32 × (Nat → Option Nat) × Int32 × Int32 × Int32 × Int32 × (Nat → Int32) × (Nat → Int32) × (Nat → Int32) × (List Mom)) => InPool 2 u.2.2.1 u.2.2.2.2.2.2.2.2.2.2 ∧ Keeps L u.2.2.2.2.2.2.2.2.2.2 ∧ MsOk u.2.2.2.2.2.2.2.2.2.2 ∧ (0 ≤ u.1.toInt ∧ u.1.toInt ≤ 13) ∧ (0 ≤ u.2.1.toInt ∧ u.2.1.toInt ≤ 14) ∧ (0 ≤ u.2.2.2.1.toInt ∧ u.2.2.2.1.toInt ≤ 10) ∧ (0 ≤ u.2.2.2.2.1.toInt ∧ u.2.2.2.2.1.toInt ≤ 6))) (W1 := (fun u => ([(h0, .inr (3, [.ref tx, .int le, .ref td, .ref dr, .ref nw, .ref ac, .int u.1, .int u.2.1, .ref kp, .int ks, .ref sp, .ref ss, .ref sy, .int sc, .long sd, .ref tr, .ref ia])), (kp, .inl (cM, 2, .inr (.inr (.inr (.inr u.2.2.1))))), (nw, .inr (1, [.ref td, .int u.2.2.2.1, .int u.2.2.2.2.1, .int u.2.2.2.2.2.1, .int u.2.2.2.2.2.2.1, .ref mat, .ref mfd, .ref mhd])), (mat, .inl (cI, 5, .inl u.2.2.2.2.2.2.2.1)), (mfd, .inl (cI, 7, .inl u.2.2.2.2.2.2.2.2.1)), (mhd, .inl (cI, 7, .inl u.2.2.2.2.2.2.2.2.2.1))] ++ plW cI u.2.2.2.2.2.2.2.2.2.2))) (fa, an, Fkp, md, mt, mr, mg, mFat, mFfd, mFhd, L) hx hb hr hlocks rfl hQ hK hP hD hS ⟨by decide, by decide⟩ dX3_again_33 (show InPool 2 Fkp L ∧ Keeps L L ∧ MsOk L ∧ (0 ≤ fa.toInt ∧ fa.toInt ≤ 13) ∧ (0 ≤ an.toInt ∧ an.toInt ≤ 14) ∧ (0 ≤ md.toInt ∧ md.toInt ≤ 10) ∧ (0 ≤ mt.toInt ∧ mt.toInt ≤ 6) from ⟨hPool, keeps_rf, hMs, by omega, by omega, by omega, by omega⟩)
      · have tc_9 := b_ne rfl (show (0 : Int32).toInt = 0 by decide) c_9
        refine lv_aload_nN hx hb dX3_again_27 rfl (lv_at hl 0 rfl) ?_
        refine lv_ifnonnullN hx hb dX3_again_28 ?_
        refine lv_bipush (v := (-3)) hx hb dX3_again_31 (by decide) ?_
        exact ret_i (post := (fun (r : Int32) (u : Int32 × Int32 × (Nat → Option Nat) × Int32 × Int32 × Int32 × Int32 × (Nat → Int32) × (Nat → Int32) × (Nat → Int32) × (List Mom)) => InPool 2 u.2.2.1 u.2.2.2.2.2.2.2.2.2.2 ∧ Keeps L u.2.2.2.2.2.2.2.2.2.2 ∧ MsOk u.2.2.2.2.2.2.2.2.2.2 ∧ (0 ≤ u.1.toInt ∧ u.1.toInt ≤ 13) ∧ (0 ≤ u.2.1.toInt ∧ u.2.1.toInt ≤ 14) ∧ (0 ≤ u.2.2.2.1.toInt ∧ u.2.2.2.1.toInt ≤ 10) ∧ (0 ≤ u.2.2.2.2.1.toInt ∧ u.2.2.2.2.1.toInt ≤ 6))) (W1 := (fun u => ([(h0, .inr (3, [.ref tx, .int le, .ref td, .ref dr, .ref nw, .ref ac, .int u.1, .int u.2.1, .ref kp, .int ks, .ref sp, .ref ss, .ref sy, .int sc, .long sd, .ref tr, .ref ia])), (kp, .inl (cM, 2, .inr (.inr (.inr (.inr u.2.2.1))))), (nw, .inr (1, [.ref td, .int u.2.2.2.1, .int u.2.2.2.2.1, .int u.2.2.2.2.2.1, .int u.2.2.2.2.2.2.1, .ref mat, .ref mfd, .ref mhd])), (mat, .inl (cI, 5, .inl u.2.2.2.2.2.2.2.1)), (mfd, .inl (cI, 7, .inl u.2.2.2.2.2.2.2.2.1)), (mhd, .inl (cI, 7, .inl u.2.2.2.2.2.2.2.2.2.1))] ++ plW cI u.2.2.2.2.2.2.2.2.2.2))) (fa, an, Fkp, md, mt, mr, mg, mFat, mFfd, mFhd, L) hx hb hr hlocks rfl hQ hK hP hD hS ⟨by decide, by decide⟩ dX3_again_33 (show InPool 2 Fkp L ∧ Keeps L L ∧ MsOk L ∧ (0 ≤ fa.toInt ∧ fa.toInt ≤ 13) ∧ (0 ≤ an.toInt ∧ an.toInt ≤ 14) ∧ (0 ≤ md.toInt ∧ md.toInt ≤ 10) ∧ (0 ≤ mt.toInt ∧ mt.toInt ≤ 6) from ⟨hPool, keeps_rf, hMs, by omega, by omega, by omega, by omega⟩)
    · skip
      obtain ⟨M_9, hM_9, hMa_9⟩ := hPool _ q_6 (by rw [cl_of]; omega) hq_5
      have hMk_9 := hMs _ hM_9
      obtain ⟨La_9, Lb_9, hL_9⟩ := List.append_of_mem hM_9
      obtain ⟨⟨ma_9, ml_9, mx_9, my_9, mz_9⟩, ⟨d0_9, t0_9, r0_9, g0_9⟩, ⟨fx_9, fy_9, fz_9⟩⟩ := M_9
      have hMa_9 : ma_9 = q_6 := hMa_9
      subst hMa_9
      rw [hL_9] at hP hD
      have hMk_9 : 0 ≤ d0_9.toInt ∧ d0_9.toInt ≤ 10 ∧ 0 ≤ t0_9.toInt ∧ t0_9.toInt ≤ 6 := hMk_9
      rw [plW_mid] at hP hD
      have hP := va_P_perm hP (pm1 _ _ _ _)
      have hD := va_D_perm hD (pm1 _ _ _ _)
      have hP : va_P D vwCl ([(h0, .inr (3, [.ref tx, .int le, .ref td, .ref dr, .ref nw, .ref ac, .int fa, .int an, .ref kp, .int ks, .ref sp, .ref ss, .ref sy, .int sc, .long sd, .ref tr, .ref ia])), (kp, .inl (cM, 2, .inr (.inr (.inr (.inr Fkp))))), (nw, .inr (1, [.ref td, .int md, .int mt, .int mr, .int mg, .ref mat, .ref mfd, .ref mhd])), (mat, .inl (cI, 5, .inl mFat)), (mfd, .inl (cI, 7, .inl mFfd)), (mhd, .inl (cI, 7, .inl mFhd)), (ma_9, .inr (1, [.ref ml_9, .int d0_9, .int t0_9, .int r0_9, .int g0_9, .ref mx_9, .ref my_9, .ref mz_9])), (mx_9, .inl (cI, 5, .inl fx_9)), (my_9, .inl (cI, 7, .inl fy_9)), (mz_9, .inl (cI, 7, .inl fz_9))] ++ (plW cI La_9 ++ plW cI Lb_9)) _ := hP
      have hD : va_D A ([(h0, .inr (3, [.ref tx, .int le, .ref td, .ref dr, .ref nw, .ref ac, .int fa, .int an, .ref kp, .int ks, .ref sp, .ref ss, .ref sy, .int sc, .long sd, .ref tr, .ref ia])), (kp, .inl (cM, 2, .inr (.inr (.inr (.inr Fkp))))), (nw, .inr (1, [.ref td, .int md, .int mt, .int mr, .int mg, .ref mat, .ref mfd, .ref mhd])), (mat, .inl (cI, 5, .inl mFat)), (mfd, .inl (cI, 7, .inl mFfd)), (mhd, .inl (cI, 7, .inl mFhd)), (ma_9, .inr (1, [.ref ml_9, .int d0_9, .int t0_9, .int r0_9, .int g0_9, .ref mx_9, .ref my_9, .ref mz_9])), (mx_9, .inl (cI, 5, .inl fx_9)), (my_9, .inl (cI, 7, .inl fy_9)), (mz_9, .inl (cI, 7, .inl fz_9))] ++ (plW cI La_9 ++ plW cI Lb_9)) := hD
      refine W.eq (g2 := F0 m 15 ls [.ref ma_9]) rfl ?_
      refine lv_astore_n (lv' := [(2, .ref ma_9), (0, .ref h0), (1, .int n)]) hx hb dX3_again_15 rfl hl (by decide) rfl (fun ls hl => ?_)
      refine lv_aload_n hx hb dX3_again_16 rfl (lv_at hl 1 rfl) ?_
      refine va_get (D := D) (ci := 3) (v := .int ks) (C := RX3) (T := TX3) (N := 17) hx hb hts iX3 hown hK hP 0 rfl rfl 9 (by decide) (hts (.fieldLink RX3 49 "PunchedTicket" "keptSlots" "I") (List.mem_of_getElem? (i := 2) rfl)) (fun _ h9 => h9) rfl dX3_again_17 ?_
      refine lv_iload_n hx hb dX3_again_20 rfl (lv_at hl 2 rfl) ?_
      refine lv_ishr hx hb dX3_again_21 ?_
      refine lv_topi (fun v_10 ev_10 => ?_)
      refine lv_iconst (v := 1) hx hb dX3_again_22 (by decide) ?_
      refine lv_iand hx hb dX3_again_23 ?_
      refine lv_topi (fun v_11 ev_11 => ?_)
      refine lv_if_eq (tgt := 31) hx hb dX3_again_24 (by decide) (fun c_12 => ?_) (fun c_12 => ?_)
      · have tc_12 := b_eq rfl (show (0 : Int32).toInt = 0 by decide) c_12
        refine lv_bipush (v := (-3)) hx hb dX3_again_31 (by decide) ?_
        have hP : va_P D vwCl ([(h0, .inr (3, [.ref tx, .int le, .ref td, .ref dr, .ref nw, .ref ac, .int fa, .int an, .ref kp, .int ks, .ref sp, .ref ss, .ref sy, .int sc, .long sd, .ref tr, .ref ia])), (kp, .inl (cM, 2, .inr (.inr (.inr (.inr Fkp))))), (nw, .inr (1, [.ref td, .int md, .int mt, .int mr, .int mg, .ref mat, .ref mfd, .ref mhd])), (mat, .inl (cI, 5, .inl mFat)), (mfd, .inl (cI, 7, .inl mFfd)), (mhd, .inl (cI, 7, .inl mFhd))] ++ plW cI (La_9 ++ (((ma_9, ml_9, mx_9, my_9, mz_9), (d0_9, t0_9, r0_9, g0_9), (fx_9, fy_9, fz_9)) : Mom) :: Lb_9)) H := by rw [plW_mid]; exact va_P_perm hP (pm1 [(h0, .inr (3, [.ref tx, .int le, .ref td, .ref dr, .ref nw, .ref ac, .int fa, .int an, .ref kp, .int ks, .ref sp, .ref ss, .ref sy, .int sc, .long sd, .ref tr, .ref ia])), (kp, .inl (cM, 2, .inr (.inr (.inr (.inr Fkp))))), (nw, .inr (1, [.ref td, .int md, .int mt, .int mr, .int mg, .ref mat, .ref mfd, .ref mhd])), (mat, .inl (cI, 5, .inl mFat)), (mfd, .inl (cI, 7, .inl mFfd)), (mhd, .inl (cI, 7, .inl mFhd))] (plW cI La_9) (mG cI (((ma_9, ml_9, mx_9, my_9, mz_9), (d0_9, t0_9, r0_9, g0_9), (fx_9, fy_9, fz_9)) : Mom)) (plW cI Lb_9)).symm
        have hD : va_D A ([(h0, .inr (3, [.ref tx, .int le, .ref td, .ref dr, .ref nw, .ref ac, .int fa, .int an, .ref kp, .int ks, .ref sp, .ref ss, .ref sy, .int sc, .long sd, .ref tr, .ref ia])), (kp, .inl (cM, 2, .inr (.inr (.inr (.inr Fkp))))), (nw, .inr (1, [.ref td, .int md, .int mt, .int mr, .int mg, .ref mat, .ref mfd, .ref mhd])), (mat, .inl (cI, 5, .inl mFat)), (mfd, .inl (cI, 7, .inl mFfd)), (mhd, .inl (cI, 7, .inl mFhd))] ++ plW cI (La_9 ++ (((ma_9, ml_9, mx_9, my_9, mz_9), (d0_9, t0_9, r0_9, g0_9), (fx_9, fy_9, fz_9)) : Mom) :: Lb_9)) := by rw [plW_mid]; exact va_D_perm hD (pm1 [(h0, .inr (3, [.ref tx, .int le, .ref td, .ref dr, .ref nw, .ref ac, .int fa, .int an, .ref kp, .int ks, .ref sp, .ref ss, .ref sy, .int sc, .long sd, .ref tr, .ref ia])), (kp, .inl (cM, 2, .inr (.inr (.inr (.inr Fkp))))), (nw, .inr (1, [.ref td, .int md, .int mt, .int mr, .int mg, .ref mat, .ref mfd, .ref mhd])), (mat, .inl (cI, 5, .inl mFat)), (mfd, .inl (cI, 7, .inl mFfd)), (mhd, .inl (cI, 7, .inl mFhd))] (plW cI La_9) (mG cI (((ma_9, ml_9, mx_9, my_9, mz_9), (d0_9, t0_9, r0_9, g0_9), (fx_9, fy_9, fz_9)) : Mom)) (plW cI Lb_9)).symm
        exact ret_i (post := (fun (r : Int32) (u : Int32 × Int32 × (Nat → Option Nat) × Int32 × Int32 × Int32 × Int32 × (Nat → Int32) × (Nat → Int32) × (Nat → Int32) × (List Mom)) => InPool 2 u.2.2.1 u.2.2.2.2.2.2.2.2.2.2 ∧ Keeps L u.2.2.2.2.2.2.2.2.2.2 ∧ MsOk u.2.2.2.2.2.2.2.2.2.2 ∧ (0 ≤ u.1.toInt ∧ u.1.toInt ≤ 13) ∧ (0 ≤ u.2.1.toInt ∧ u.2.1.toInt ≤ 14) ∧ (0 ≤ u.2.2.2.1.toInt ∧ u.2.2.2.1.toInt ≤ 10) ∧ (0 ≤ u.2.2.2.2.1.toInt ∧ u.2.2.2.2.1.toInt ≤ 6))) (W1 := (fun u => ([(h0, .inr (3, [.ref tx, .int le, .ref td, .ref dr, .ref nw, .ref ac, .int u.1, .int u.2.1, .ref kp, .int ks, .ref sp, .ref ss, .ref sy, .int sc, .long sd, .ref tr, .ref ia])), (kp, .inl (cM, 2, .inr (.inr (.inr (.inr u.2.2.1))))), (nw, .inr (1, [.ref td, .int u.2.2.2.1, .int u.2.2.2.2.1, .int u.2.2.2.2.2.1, .int u.2.2.2.2.2.2.1, .ref mat, .ref mfd, .ref mhd])), (mat, .inl (cI, 5, .inl u.2.2.2.2.2.2.2.1)), (mfd, .inl (cI, 7, .inl u.2.2.2.2.2.2.2.2.1)), (mhd, .inl (cI, 7, .inl u.2.2.2.2.2.2.2.2.2.1))] ++ plW cI u.2.2.2.2.2.2.2.2.2.2))) (fa, an, Fkp, md, mt, mr, mg, mFat, mFfd, mFhd, (La_9 ++ (((ma_9, ml_9, mx_9, my_9, mz_9), (d0_9, t0_9, r0_9, g0_9), (fx_9, fy_9, fz_9)) : Mom) :: Lb_9)) hx hb hr hlocks rfl hQ hK hP hD hS ⟨by decide, by decide⟩ dX3_again_33 (show InPool 2 Fkp (La_9 ++ (((ma_9, ml_9, mx_9, my_9, mz_9), (d0_9, t0_9, r0_9, g0_9), (fx_9, fy_9, fz_9)) : Mom) :: Lb_9) ∧ Keeps L (La_9 ++ (((ma_9, ml_9, mx_9, my_9, mz_9), (d0_9, t0_9, r0_9, g0_9), (fx_9, fy_9, fz_9)) : Mom) :: Lb_9) ∧ MsOk (La_9 ++ (((ma_9, ml_9, mx_9, my_9, mz_9), (d0_9, t0_9, r0_9, g0_9), (fx_9, fy_9, fz_9)) : Mom) :: Lb_9) ∧ (0 ≤ fa.toInt ∧ fa.toInt ≤ 13) ∧ (0 ≤ an.toInt ∧ an.toInt ≤ 14) ∧ (0 ≤ md.toInt ∧ md.toInt ≤ 10) ∧ (0 ≤ mt.toInt ∧ mt.toInt ≤ 6) from ⟨hPool.keeps (keeps_midE hL_9 rfl), keeps_midE hL_9 rfl, msOk_midE hL_9 hMs (show 0 ≤ d0_9.toInt ∧ d0_9.toInt ≤ 10 ∧ 0 ≤ t0_9.toInt ∧ t0_9.toInt ≤ 6 from ⟨by omega, by omega, by omega, by omega⟩), by omega, by omega, by omega, by omega⟩)
      · have tc_12 := b_ne rfl (show (0 : Int32).toInt = 0 by decide) c_12
        refine lv_aload_n hx hb dX3_again_27 rfl (lv_at hl 0 rfl) ?_
        refine lv_ifnonnull (tgt := 34) hx hb dX3_again_28 (by decide) ?_
        refine lv_aload_n hx hb dX3_again_34 rfl (lv_at hl 1 rfl) ?_
        refine va_get (D := D) (ci := 3) (v := .ref nw) (C := RX3) (T := TX3) (N := 17) hx hb hts iX3 hown hK hP 0 rfl rfl 4 (by decide) (hts (.fieldLink RX3 32 "PunchedTicket" "now" "LPunchedTicket$Moment;") (List.mem_of_getElem? (i := 3) rfl)) (fun _ h9 => h9) rfl dX3_again_35 ?_
        refine lv_aload_n hx hb dX3_again_38 rfl (lv_at hl 0 rfl) ?_
        refine fV_v (As := [.ref ma_9]) (rest := []) ⟨hx, hb, hml, hown, hts⟩ (c_X1_copy l D cI cZ cM nw ma_9 td md mt mr mg mat mfd mhd ml_9 d0_9 t0_9 r0_9 g0_9 mx_9 my_9 mz_9 mFat mFfd mFhd fx_9 fy_9 fz_9 _ ) (cwV 1 hts gX3_again_X1_copy rfl rfl rfl (by decide +kernel) ⟨by rw [hR]; decide, by rw [hR]; decide⟩) hK hP hD hS hA [2, 6, 3, 4, 5, 7, 8, 9] [0, 1] rfl rfl (by decide) (by decide) (by decide) rfl 2 rfl hl.1 rfl rfl (Nat.le_of_ble_eq_true rfl) dX3_again_39 ⟨by rw [hR]; decide, by rw [hR]; decide⟩ (fun u_17 H locs hw hP hD hS => ?_)
        obtain ⟨Gat_13, Gfd_14, Ghd_15⟩ := u_17
        have hP : va_P D vwCl ([(h0, .inr (3, [.ref tx, .int le, .ref td, .ref dr, .ref nw, .ref ac, .int fa, .int an, .ref kp, .int ks, .ref sp, .ref ss, .ref sy, .int sc, .long sd, .ref tr, .ref ia])), (kp, .inl (cM, 2, .inr (.inr (.inr (.inr Fkp))))), (nw, .inr (1, [.ref td, .int d0_9, .int t0_9, .int r0_9, .int g0_9, .ref mat, .ref mfd, .ref mhd])), (mat, .inl (cI, 5, .inl Gat_13)), (mfd, .inl (cI, 7, .inl Gfd_14)), (mhd, .inl (cI, 7, .inl Ghd_15)), (ma_9, .inr (1, [.ref ml_9, .int d0_9, .int t0_9, .int r0_9, .int g0_9, .ref mx_9, .ref my_9, .ref mz_9])), (mx_9, .inl (cI, 5, .inl fx_9)), (my_9, .inl (cI, 7, .inl fy_9)), (mz_9, .inl (cI, 7, .inl fz_9))] ++ (plW cI La_9 ++ plW cI Lb_9)) H := P_subF hP [0, 1, 2, 4, 5, 6, 3, 7, 8, 9] rfl
        have hD : va_D A ([(h0, .inr (3, [.ref tx, .int le, .ref td, .ref dr, .ref nw, .ref ac, .int fa, .int an, .ref kp, .int ks, .ref sp, .ref ss, .ref sy, .int sc, .long sd, .ref tr, .ref ia])), (kp, .inl (cM, 2, .inr (.inr (.inr (.inr Fkp))))), (nw, .inr (1, [.ref td, .int d0_9, .int t0_9, .int r0_9, .int g0_9, .ref mat, .ref mfd, .ref mhd])), (mat, .inl (cI, 5, .inl Gat_13)), (mfd, .inl (cI, 7, .inl Gfd_14)), (mhd, .inl (cI, 7, .inl Ghd_15)), (ma_9, .inr (1, [.ref ml_9, .int d0_9, .int t0_9, .int r0_9, .int g0_9, .ref mx_9, .ref my_9, .ref mz_9])), (mx_9, .inl (cI, 5, .inl fx_9)), (my_9, .inl (cI, 7, .inl fy_9)), (mz_9, .inl (cI, 7, .inl fz_9))] ++ (plW cI La_9 ++ plW cI Lb_9)) := D_subF hD [0, 1, 2, 4, 5, 6, 3, 7, 8, 9] (by decide) rfl
        refine W.widen (k := 0) (n := 0) (Nat.le_refl _) (Nat.le_refl _) ?_
        refine lv_aload_n hx hb dX3_again_42 rfl (lv_at hl 1 rfl) ?_
        refine fV_v (As := []) (rest := []) ⟨hx, hb, hml, hown, hts⟩ (c_X3_forgetActs l D cI cZ cM h0 tx le td dr nw ac fa an kp ks sp ss sy sc sd tr ia _ ) (cwV 0 hts gX3_again_X3_forgetActs rfl rfl rfl (by decide +kernel) ⟨by rw [hR]; decide, by rw [hR]; decide⟩) hK hP hD hS hA [0] [1, 2, 3, 4, 5, 6, 7, 8, 9] rfl rfl (by decide) (by decide) (by decide) rfl 0 rfl hl.1 rfl rfl (Nat.le_of_ble_eq_true rfl) dX3_again_43 ⟨by rw [hR]; decide, by rw [hR]; decide⟩ (fun u_19 H locs hw hP hD hS => ?_)
        have hP : va_P D vwCl ([(h0, .inr (3, [.ref tx, .int le, .ref td, .ref dr, .ref nw, .ref ac, .int 0, .int 0, .ref kp, .int ks, .ref sp, .ref ss, .ref sy, .int sc, .long sd, .ref tr, .ref ia])), (kp, .inl (cM, 2, .inr (.inr (.inr (.inr Fkp))))), (nw, .inr (1, [.ref td, .int d0_9, .int t0_9, .int r0_9, .int g0_9, .ref mat, .ref mfd, .ref mhd])), (mat, .inl (cI, 5, .inl Gat_13)), (mfd, .inl (cI, 7, .inl Gfd_14)), (mhd, .inl (cI, 7, .inl Ghd_15)), (ma_9, .inr (1, [.ref ml_9, .int d0_9, .int t0_9, .int r0_9, .int g0_9, .ref mx_9, .ref my_9, .ref mz_9])), (mx_9, .inl (cI, 5, .inl fx_9)), (my_9, .inl (cI, 7, .inl fy_9)), (mz_9, .inl (cI, 7, .inl fz_9))] ++ (plW cI La_9 ++ plW cI Lb_9)) H := P_subF hP [9, 0, 1, 2, 3, 4, 5, 6, 7, 8] rfl
        have hD : va_D A ([(h0, .inr (3, [.ref tx, .int le, .ref td, .ref dr, .ref nw, .ref ac, .int 0, .int 0, .ref kp, .int ks, .ref sp, .ref ss, .ref sy, .int sc, .long sd, .ref tr, .ref ia])), (kp, .inl (cM, 2, .inr (.inr (.inr (.inr Fkp))))), (nw, .inr (1, [.ref td, .int d0_9, .int t0_9, .int r0_9, .int g0_9, .ref mat, .ref mfd, .ref mhd])), (mat, .inl (cI, 5, .inl Gat_13)), (mfd, .inl (cI, 7, .inl Gfd_14)), (mhd, .inl (cI, 7, .inl Ghd_15)), (ma_9, .inr (1, [.ref ml_9, .int d0_9, .int t0_9, .int r0_9, .int g0_9, .ref mx_9, .ref my_9, .ref mz_9])), (mx_9, .inl (cI, 5, .inl fx_9)), (my_9, .inl (cI, 7, .inl fy_9)), (mz_9, .inl (cI, 7, .inl fz_9))] ++ (plW cI La_9 ++ plW cI Lb_9)) := D_subF hD [9, 0, 1, 2, 3, 4, 5, 6, 7, 8] (by decide) rfl
        refine W.widen (k := 0) (n := 0) (Nat.le_refl _) (Nat.le_refl _) ?_
        refine lv_aload_n hx hb dX3_again_46 rfl (lv_at hl 1 rfl) ?_
        refine va_get (D := D) (ci := 3) (v := .ref nw) (C := RX3) (T := TX3) (N := 17) hx hb hts iX3 hown hK hP 0 rfl rfl 4 (by decide) (hts (.fieldLink RX3 32 "PunchedTicket" "now" "LPunchedTicket$Moment;") (List.mem_of_getElem? (i := 3) rfl)) (fun _ h9 => h9) rfl dX3_again_47 ?_
        refine va_get (D := D) (ci := 1) (v := .int d0_9) (C := RX1) (T := TX1) (N := 8) hx hb hts iX1 hown hK hP 2 rfl rfl 1 (by decide) (hts (.fieldLink RX3 141 "PunchedTicket$Moment" "day" "I") (List.mem_of_getElem? (i := 4) rfl)) (fun _ h9 => h9) rfl dX3_again_50 ?_
        have hP : va_P D vwCl ([(h0, .inr (3, [.ref tx, .int le, .ref td, .ref dr, .ref nw, .ref ac, .int 0, .int 0, .ref kp, .int ks, .ref sp, .ref ss, .ref sy, .int sc, .long sd, .ref tr, .ref ia])), (kp, .inl (cM, 2, .inr (.inr (.inr (.inr Fkp))))), (nw, .inr (1, [.ref td, .int d0_9, .int t0_9, .int r0_9, .int g0_9, .ref mat, .ref mfd, .ref mhd])), (mat, .inl (cI, 5, .inl Gat_13)), (mfd, .inl (cI, 7, .inl Gfd_14)), (mhd, .inl (cI, 7, .inl Ghd_15))] ++ plW cI (La_9 ++ (((ma_9, ml_9, mx_9, my_9, mz_9), (d0_9, t0_9, r0_9, g0_9), (fx_9, fy_9, fz_9)) : Mom) :: Lb_9)) H := by rw [plW_mid]; exact va_P_perm hP (pm1 [(h0, .inr (3, [.ref tx, .int le, .ref td, .ref dr, .ref nw, .ref ac, .int 0, .int 0, .ref kp, .int ks, .ref sp, .ref ss, .ref sy, .int sc, .long sd, .ref tr, .ref ia])), (kp, .inl (cM, 2, .inr (.inr (.inr (.inr Fkp))))), (nw, .inr (1, [.ref td, .int d0_9, .int t0_9, .int r0_9, .int g0_9, .ref mat, .ref mfd, .ref mhd])), (mat, .inl (cI, 5, .inl Gat_13)), (mfd, .inl (cI, 7, .inl Gfd_14)), (mhd, .inl (cI, 7, .inl Ghd_15))] (plW cI La_9) (mG cI (((ma_9, ml_9, mx_9, my_9, mz_9), (d0_9, t0_9, r0_9, g0_9), (fx_9, fy_9, fz_9)) : Mom)) (plW cI Lb_9)).symm
        have hD : va_D A ([(h0, .inr (3, [.ref tx, .int le, .ref td, .ref dr, .ref nw, .ref ac, .int 0, .int 0, .ref kp, .int ks, .ref sp, .ref ss, .ref sy, .int sc, .long sd, .ref tr, .ref ia])), (kp, .inl (cM, 2, .inr (.inr (.inr (.inr Fkp))))), (nw, .inr (1, [.ref td, .int d0_9, .int t0_9, .int r0_9, .int g0_9, .ref mat, .ref mfd, .ref mhd])), (mat, .inl (cI, 5, .inl Gat_13)), (mfd, .inl (cI, 7, .inl Gfd_14)), (mhd, .inl (cI, 7, .inl Ghd_15))] ++ plW cI (La_9 ++ (((ma_9, ml_9, mx_9, my_9, mz_9), (d0_9, t0_9, r0_9, g0_9), (fx_9, fy_9, fz_9)) : Mom) :: Lb_9)) := by rw [plW_mid]; exact va_D_perm hD (pm1 [(h0, .inr (3, [.ref tx, .int le, .ref td, .ref dr, .ref nw, .ref ac, .int 0, .int 0, .ref kp, .int ks, .ref sp, .ref ss, .ref sy, .int sc, .long sd, .ref tr, .ref ia])), (kp, .inl (cM, 2, .inr (.inr (.inr (.inr Fkp))))), (nw, .inr (1, [.ref td, .int d0_9, .int t0_9, .int r0_9, .int g0_9, .ref mat, .ref mfd, .ref mhd])), (mat, .inl (cI, 5, .inl Gat_13)), (mfd, .inl (cI, 7, .inl Gfd_14)), (mhd, .inl (cI, 7, .inl Ghd_15))] (plW cI La_9) (mG cI (((ma_9, ml_9, mx_9, my_9, mz_9), (d0_9, t0_9, r0_9, g0_9), (fx_9, fy_9, fz_9)) : Mom)) (plW cI Lb_9)).symm
        exact ret_i (post := (fun (r : Int32) (u : Int32 × Int32 × (Nat → Option Nat) × Int32 × Int32 × Int32 × Int32 × (Nat → Int32) × (Nat → Int32) × (Nat → Int32) × (List Mom)) => InPool 2 u.2.2.1 u.2.2.2.2.2.2.2.2.2.2 ∧ Keeps L u.2.2.2.2.2.2.2.2.2.2 ∧ MsOk u.2.2.2.2.2.2.2.2.2.2 ∧ (0 ≤ u.1.toInt ∧ u.1.toInt ≤ 13) ∧ (0 ≤ u.2.1.toInt ∧ u.2.1.toInt ≤ 14) ∧ (0 ≤ u.2.2.2.1.toInt ∧ u.2.2.2.1.toInt ≤ 10) ∧ (0 ≤ u.2.2.2.2.1.toInt ∧ u.2.2.2.2.1.toInt ≤ 6))) (W1 := (fun u => ([(h0, .inr (3, [.ref tx, .int le, .ref td, .ref dr, .ref nw, .ref ac, .int u.1, .int u.2.1, .ref kp, .int ks, .ref sp, .ref ss, .ref sy, .int sc, .long sd, .ref tr, .ref ia])), (kp, .inl (cM, 2, .inr (.inr (.inr (.inr u.2.2.1))))), (nw, .inr (1, [.ref td, .int u.2.2.2.1, .int u.2.2.2.2.1, .int u.2.2.2.2.2.1, .int u.2.2.2.2.2.2.1, .ref mat, .ref mfd, .ref mhd])), (mat, .inl (cI, 5, .inl u.2.2.2.2.2.2.2.1)), (mfd, .inl (cI, 7, .inl u.2.2.2.2.2.2.2.2.1)), (mhd, .inl (cI, 7, .inl u.2.2.2.2.2.2.2.2.2.1))] ++ plW cI u.2.2.2.2.2.2.2.2.2.2))) (0, 0, Fkp, d0_9, t0_9, r0_9, g0_9, Gat_13, Gfd_14, Ghd_15, (La_9 ++ (((ma_9, ml_9, mx_9, my_9, mz_9), (d0_9, t0_9, r0_9, g0_9), (fx_9, fy_9, fz_9)) : Mom) :: Lb_9)) hx hb hr hlocks rfl hQ hK hP hD hS ⟨by decide, by decide⟩ dX3_again_53 (show InPool 2 Fkp (La_9 ++ (((ma_9, ml_9, mx_9, my_9, mz_9), (d0_9, t0_9, r0_9, g0_9), (fx_9, fy_9, fz_9)) : Mom) :: Lb_9) ∧ Keeps L (La_9 ++ (((ma_9, ml_9, mx_9, my_9, mz_9), (d0_9, t0_9, r0_9, g0_9), (fx_9, fy_9, fz_9)) : Mom) :: Lb_9) ∧ MsOk (La_9 ++ (((ma_9, ml_9, mx_9, my_9, mz_9), (d0_9, t0_9, r0_9, g0_9), (fx_9, fy_9, fz_9)) : Mom) :: Lb_9) ∧ (0 ≤ (0 : Int) ∧ (0 : Int) ≤ 13) ∧ (0 ≤ (0 : Int) ∧ (0 : Int) ≤ 14) ∧ (0 ≤ d0_9.toInt ∧ d0_9.toInt ≤ 10) ∧ (0 ≤ t0_9.toInt ∧ t0_9.toInt ≤ 6) from ⟨hPool.keeps (keeps_midE hL_9 rfl), keeps_midE hL_9 rfl, msOk_midE hL_9 hMs (show 0 ≤ d0_9.toInt ∧ d0_9.toInt ≤ 10 ∧ 0 ≤ t0_9.toInt ∧ t0_9.toInt ≤ 6 from ⟨by omega, by omega, by omega, by omega⟩), by omega, by omega, by omega, by omega⟩)
  · have tc_4 := b_eq rfl (show (0 : Int32).toInt = 0 by decide) c_4
    refine lv_iconst (v := (-1)) hx hb dX3_again_7 (by decide) ?_
    exact ret_i (post := (fun (r : Int32) (u : Int32 × Int32 × (Nat → Option Nat) × Int32 × Int32 × Int32 × Int32 × (Nat → Int32) × (Nat → Int32) × (Nat → Int32) × (List Mom)) => InPool 2 u.2.2.1 u.2.2.2.2.2.2.2.2.2.2 ∧ Keeps L u.2.2.2.2.2.2.2.2.2.2 ∧ MsOk u.2.2.2.2.2.2.2.2.2.2 ∧ (0 ≤ u.1.toInt ∧ u.1.toInt ≤ 13) ∧ (0 ≤ u.2.1.toInt ∧ u.2.1.toInt ≤ 14) ∧ (0 ≤ u.2.2.2.1.toInt ∧ u.2.2.2.1.toInt ≤ 10) ∧ (0 ≤ u.2.2.2.2.1.toInt ∧ u.2.2.2.2.1.toInt ≤ 6))) (W1 := (fun u => ([(h0, .inr (3, [.ref tx, .int le, .ref td, .ref dr, .ref nw, .ref ac, .int u.1, .int u.2.1, .ref kp, .int ks, .ref sp, .ref ss, .ref sy, .int sc, .long sd, .ref tr, .ref ia])), (kp, .inl (cM, 2, .inr (.inr (.inr (.inr u.2.2.1))))), (nw, .inr (1, [.ref td, .int u.2.2.2.1, .int u.2.2.2.2.1, .int u.2.2.2.2.2.1, .int u.2.2.2.2.2.2.1, .ref mat, .ref mfd, .ref mhd])), (mat, .inl (cI, 5, .inl u.2.2.2.2.2.2.2.1)), (mfd, .inl (cI, 7, .inl u.2.2.2.2.2.2.2.2.1)), (mhd, .inl (cI, 7, .inl u.2.2.2.2.2.2.2.2.2.1))] ++ plW cI u.2.2.2.2.2.2.2.2.2.2))) (fa, an, Fkp, md, mt, mr, mg, mFat, mFfd, mFhd, L) hx hb hr hlocks rfl hQ hK hP hD hS ⟨by decide, by decide⟩ dX3_again_8 (show InPool 2 Fkp L ∧ Keeps L L ∧ MsOk L ∧ (0 ≤ fa.toInt ∧ fa.toInt ≤ 13) ∧ (0 ≤ an.toInt ∧ an.toInt ≤ 14) ∧ (0 ≤ md.toInt ∧ md.toInt ≤ 10) ∧ (0 ≤ mt.toInt ∧ mt.toInt ≤ 6) from ⟨hPool, keeps_rf, hMs, by omega, by omega, by omega, by omega⟩)
