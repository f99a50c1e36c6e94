theorem dX0_read_0 : decode cX0_read 0 = .ok (.aload_n 0, 1) := by decide +kernel
theorem dX0_read_1 : decode cX0_read 1 = .ok (.iconst 0, 1) := by decide +kernel
theorem dX0_read_2 : decode cX0_read 2 = .ok (.putfield 9, 3) := by decide +kernel
theorem dX0_read_5 : decode cX0_read 5 = .ok (.aload_n 0, 1) := by decide +kernel
theorem dX0_read_6 : decode cX0_read 6 = .ok (.iconst 0, 1) := by decide +kernel
theorem dX0_read_7 : decode cX0_read 7 = .ok (.putfield 15, 3) := by decide +kernel
theorem dX0_read_10 : decode cX0_read 10 = .ok (.iload_n 2, 1) := by decide +kernel
theorem dX0_read_11 : decode cX0_read 11 = .ok (.iconst 1, 1) := by decide +kernel
theorem dX0_read_12 : decode cX0_read 12 = .ok (.if_icmp .lt 17, 3) := by decide +kernel
theorem dX0_read_29 : decode cX0_read 29 = .ok (.iconst 0, 1) := by decide +kernel
theorem dX0_read_30 : decode cX0_read 30 = .ok (.ireturn, 1) := by decide +kernel
theorem dX3_write_0 : decode cX3_write 0 = .ok (.iload_n 1, 1) := by decide +kernel
theorem dX3_write_1 : decode cX3_write 1 = .ok (.ifCond .lt 10, 3) := by decide +kernel
theorem dX3_write_4 : decode cX3_write 4 = .ok (.iload_n 1, 1) := by decide +kernel
theorem dX3_write_5 : decode cX3_write 5 = .ok (.sipush 255, 3) := by decide +kernel
theorem dX3_write_8 : decode cX3_write 8 = .ok (.if_icmp .le 6, 3) := by decide +kernel
theorem dX3_write_11 : decode cX3_write 11 = .ok (.bipush (-2), 2) := by decide +kernel
theorem dX3_write_13 : decode cX3_write 13 = .ok (.ireturn, 1) := by decide +kernel
theorem dX3_write_14 : decode cX3_write 14 = .ok (.aload_n 0, 1) := by decide +kernel
theorem dX3_write_15 : decode cX3_write 15 = .ok (.getfield 13, 3) := by decide +kernel
theorem dX3_write_18 : decode cX3_write 18 = .ok (.bipush 64, 2) := by decide +kernel
theorem dX3_write_20 : decode cX3_write 20 = .ok (.if_icmp .lt 6, 3) := by decide +kernel
theorem dX3_write_23 : decode cX3_write 23 = .ok (.bipush (-4), 2) := by decide +kernel
theorem dX3_write_25 : decode cX3_write 25 = .ok (.ireturn, 1) := by decide +kernel
theorem dX3_write_26 : decode cX3_write 26 = .ok (.aload_n 0, 1) := by decide +kernel
theorem dX3_write_27 : decode cX3_write 27 = .ok (.getfield 9, 3) := by decide +kernel
theorem dX3_write_30 : decode cX3_write 30 = .ok (.aload_n 0, 1) := by decide +kernel
theorem dX3_write_31 : decode cX3_write 31 = .ok (.getfield 13, 3) := by decide +kernel
theorem dX3_write_34 : decode cX3_write 34 = .ok (.iload_n 1, 1) := by decide +kernel
theorem dX3_write_35 : decode cX3_write 35 = .ok (.iastore, 1) := by decide +kernel
theorem dX3_write_36 : decode cX3_write 36 = .ok (.aload_n 0, 1) := by decide +kernel
theorem dX3_write_37 : decode cX3_write 37 = .ok (.dup, 1) := by decide +kernel
theorem dX3_write_38 : decode cX3_write 38 = .ok (.getfield 13, 3) := by decide +kernel
theorem dX3_write_41 : decode cX3_write 41 = .ok (.iconst 1, 1) := by decide +kernel
theorem dX3_write_42 : decode cX3_write 42 = .ok (.iadd, 1) := by decide +kernel
theorem dX3_write_43 : decode cX3_write 43 = .ok (.putfield 13, 3) := by decide +kernel
theorem dX3_write_46 : decode cX3_write 46 = .ok (.aload_n 0, 1) := by decide +kernel
theorem dX3_write_47 : decode cX3_write 47 = .ok (.getfield 13, 3) := by decide +kernel
theorem dX3_write_50 : decode cX3_write 50 = .ok (.ireturn, 1) := by decide +kernel
theorem dX3_wipe_0 : decode cX3_wipe 0 = .ok (.aload_n 0, 1) := by decide +kernel
theorem dX3_wipe_1 : decode cX3_wipe 1 = .ok (.getfield 13, 3) := by decide +kernel
theorem dX3_wipe_4 : decode cX3_wipe 4 = .ok (.istore_n 1, 1) := by decide +kernel
theorem dX3_wipe_5 : decode cX3_wipe 5 = .ok (.aload_n 0, 1) := by decide +kernel
theorem dX3_wipe_6 : decode cX3_wipe 6 = .ok (.iconst 0, 1) := by decide +kernel
theorem dX3_wipe_7 : decode cX3_wipe 7 = .ok (.putfield 13, 3) := by decide +kernel
theorem dX3_wipe_10 : decode cX3_wipe 10 = .ok (.iload_n 1, 1) := by decide +kernel
theorem dX3_wipe_11 : decode cX3_wipe 11 = .ok (.ireturn, 1) := by decide +kernel
set_option maxRecDepth 20000 in
theorem ggX3_fault_X0_read : GoodIn wsX3_fault wsX0_read := goodIn_r _ [8, 9, 10, 11, 12, 13, 7, 14, 15, 16, 17, 18, 19, 20, 21, 22, 23, 24, 25, 26, 27, 28, 29, 30, 31, 32, 33, 34, 52, 53, 54, 55, 56, 57, 58, 59, 60, 61] (by decide +kernel) (by decide +kernel)
set_option maxRecDepth 20000 in
theorem gX3_fault_X0_read : GoodIn wsX3_fault (wsV RX3 78 RX0 yX0_read wsX0_read) := goodIn_app (goodIn_of _ (by decide +kernel)) ggX3_fault_X0_read
theorem dX3_fault_0 : decode cX3_fault 0 = .ok (.aload_n 0, 1) := by decide +kernel
theorem dX3_fault_1 : decode cX3_fault 1 = .ok (.getfield 24, 3) := by decide +kernel
theorem dX3_fault_4 : decode cX3_fault 4 = .ok (.aload_n 0, 1) := by decide +kernel
theorem dX3_fault_5 : decode cX3_fault 5 = .ok (.getfield 9, 3) := by decide +kernel
theorem dX3_fault_8 : decode cX3_fault 8 = .ok (.aload_n 0, 1) := by decide +kernel
theorem dX3_fault_9 : decode cX3_fault 9 = .ok (.getfield 13, 3) := by decide +kernel
theorem dX3_fault_12 : decode cX3_fault 12 = .ok (.invokevirtual 78, 3) := by decide +kernel
theorem dX3_fault_15 : decode cX3_fault 15 = .ok (.ireturn, 1) := by decide +kernel
set_option maxRecDepth 20000 in
theorem ggX3_line_X0_read : GoodIn wsX3_line wsX0_read := goodIn_r _ [13, 14, 15, 16, 17, 18, 12, 19, 20, 21, 22, 23, 24, 25, 26, 27, 28, 29, 30, 31, 32, 33, 34, 35, 36, 37, 38, 39, 90, 91, 92, 93, 94, 95, 96, 97, 98, 99] (by decide +kernel) (by decide +kernel)
set_option maxRecDepth 20000 in
theorem gX3_line_X0_read : GoodIn wsX3_line (wsV RX3 78 RX0 yX0_read wsX0_read) := goodIn_app (goodIn_of _ (by decide +kernel)) ggX3_line_X0_read
theorem dX3_line_0 : decode cX3_line 0 = .ok (.aload_n 0, 1) := by decide +kernel
theorem dX3_line_1 : decode cX3_line 1 = .ok (.getfield 24, 3) := by decide +kernel
theorem dX3_line_4 : decode cX3_line 4 = .ok (.aload_n 0, 1) := by decide +kernel
theorem dX3_line_5 : decode cX3_line 5 = .ok (.getfield 9, 3) := by decide +kernel
theorem dX3_line_8 : decode cX3_line 8 = .ok (.aload_n 0, 1) := by decide +kernel
theorem dX3_line_9 : decode cX3_line 9 = .ok (.getfield 13, 3) := by decide +kernel
theorem dX3_line_12 : decode cX3_line 12 = .ok (.invokevirtual 78, 3) := by decide +kernel
theorem dX3_line_15 : decode cX3_line 15 = .ok (.bipush (-9), 2) := by decide +kernel
theorem dX3_line_17 : decode cX3_line 17 = .ok (.if_icmp .eq 6, 3) := by decide +kernel
theorem dX3_line_20 : decode cX3_line 20 = .ok (.bipush (-3), 2) := by decide +kernel
theorem dX3_line_22 : decode cX3_line 22 = .ok (.ireturn, 1) := by decide +kernel
set_option maxRecDepth 20000 in
theorem ggX3_person_X0_hasPerson : GoodIn wsX3_person wsX0_hasPerson := goodIn_r _ [10, 11, 73, 74, 75, 76, 77, 78, 79, 80, 81, 82] (by decide +kernel) (by decide +kernel)
set_option maxRecDepth 20000 in
theorem gX3_person_X0_hasPerson : GoodIn wsX3_person (wsV RX3 97 RX0 yX0_hasPerson wsX0_hasPerson) := goodIn_app (goodIn_of _ (by decide +kernel)) ggX3_person_X0_hasPerson
theorem dX3_person_0 : decode cX3_person 0 = .ok (.aload_n 0, 1) := by decide +kernel
theorem dX3_person_1 : decode cX3_person 1 = .ok (.getfield 20, 3) := by decide +kernel
theorem dX3_person_4 : decode cX3_person 4 = .ok (.iload_n 1, 1) := by decide +kernel
theorem dX3_person_5 : decode cX3_person 5 = .ok (.invokevirtual 97, 3) := by decide +kernel
theorem dX3_person_8 : decode cX3_person 8 = .ok (.ifCond .ne 5, 3) := by decide +kernel
theorem dX3_person_11 : decode cX3_person 11 = .ok (.iconst (-1), 1) := by decide +kernel
theorem dX3_person_12 : decode cX3_person 12 = .ok (.ireturn, 1) := by decide +kernel
set_option maxRecDepth 20000 in
theorem ggX3_ticket_X1_hasTicket : GoodIn wsX3_ticket wsX1_hasTicket := goodIn_r _ [10, 11, 51, 52, 53, 54, 55, 56, 57, 58] (by decide +kernel) (by decide +kernel)
set_option maxRecDepth 20000 in
theorem gX3_ticket_X1_hasTicket : GoodIn wsX3_ticket (wsV RX3 117 RX1 yX1_hasTicket wsX1_hasTicket) := goodIn_app (goodIn_of _ (by decide +kernel)) ggX3_ticket_X1_hasTicket
theorem dX3_ticket_0 : decode cX3_ticket 0 = .ok (.aload_n 0, 1) := by decide +kernel
theorem dX3_ticket_1 : decode cX3_ticket 1 = .ok (.getfield 32, 3) := by decide +kernel
theorem dX3_ticket_4 : decode cX3_ticket 4 = .ok (.iload_n 1, 1) := by decide +kernel
theorem dX3_ticket_5 : decode cX3_ticket 5 = .ok (.invokevirtual 117, 3) := by decide +kernel
theorem dX3_ticket_8 : decode cX3_ticket 8 = .ok (.ifCond .ne 5, 3) := by decide +kernel
theorem dX3_ticket_11 : decode cX3_ticket 11 = .ok (.iconst (-1), 1) := by decide +kernel
theorem dX3_ticket_12 : decode cX3_ticket 12 = .ok (.ireturn, 1) := by decide +kernel
set_option maxRecDepth 20000 in
theorem ggX3_give_X1_hasTicket : GoodIn wsX3_give wsX1_hasTicket := goodIn_r _ [8, 9, 77, 78, 79, 80, 81, 82, 83, 84] (by decide +kernel) (by decide +kernel)
set_option maxRecDepth 20000 in
theorem gX3_give_X1_hasTicket : GoodIn wsX3_give (wsV RX3 117 RX1 yX1_hasTicket wsX1_hasTicket) := goodIn_app (goodIn_of _ (by decide +kernel)) ggX3_give_X1_hasTicket
theorem dX3_give_0 : decode cX3_give 0 = .ok (.aload_n 0, 1) := by decide +kernel
theorem dX3_give_1 : decode cX3_give 1 = .ok (.getfield 32, 3) := by decide +kernel
theorem dX3_give_4 : decode cX3_give 4 = .ok (.iload_n 1, 1) := by decide +kernel
theorem dX3_give_5 : decode cX3_give 5 = .ok (.invokevirtual 117, 3) := by decide +kernel
theorem dX3_give_8 : decode cX3_give 8 = .ok (.ifCond .eq 14, 3) := by decide +kernel
theorem dX3_give_22 : decode cX3_give 22 = .ok (.iconst (-1), 1) := by decide +kernel
theorem dX3_give_23 : decode cX3_give 23 = .ok (.ireturn, 1) := by decide +kernel
set_option maxRecDepth 20000 in
theorem ggX3_lose_X1_hasTicket : GoodIn wsX3_lose wsX1_hasTicket := goodIn_r _ [8, 9, 68, 69, 70, 71, 72, 73, 74, 75] (by decide +kernel) (by decide +kernel)
set_option maxRecDepth 20000 in
theorem gX3_lose_X1_hasTicket : GoodIn wsX3_lose (wsV RX3 117 RX1 yX1_hasTicket wsX1_hasTicket) := goodIn_app (goodIn_of _ (by decide +kernel)) ggX3_lose_X1_hasTicket
theorem dX3_lose_0 : decode cX3_lose 0 = .ok (.aload_n 0, 1) := by decide +kernel
theorem dX3_lose_1 : decode cX3_lose 1 = .ok (.getfield 32, 3) := by decide +kernel
theorem dX3_lose_4 : decode cX3_lose 4 = .ok (.iload_n 1, 1) := by decide +kernel
theorem dX3_lose_5 : decode cX3_lose 5 = .ok (.invokevirtual 117, 3) := by decide +kernel
theorem dX3_lose_8 : decode cX3_lose 8 = .ok (.ifCond .ne 5, 3) := by decide +kernel
theorem dX3_lose_11 : decode cX3_lose 11 = .ok (.iconst (-1), 1) := by decide +kernel
theorem dX3_lose_12 : decode cX3_lose 12 = .ok (.ireturn, 1) := by decide +kernel
set_option maxRecDepth 20000 in
theorem ggX3_change_X1_hasTicket : GoodIn wsX3_change wsX1_hasTicket := goodIn_r _ [7, 8, 75, 76, 77, 78, 79, 80, 81, 82] (by decide +kernel) (by decide +kernel)
set_option maxRecDepth 20000 in
theorem gX3_change_X1_hasTicket : GoodIn wsX3_change (wsV RX3 117 RX1 yX1_hasTicket wsX1_hasTicket) := goodIn_app (goodIn_of _ (by decide +kernel)) ggX3_change_X1_hasTicket
theorem dX3_change_0 : decode cX3_change 0 = .ok (.aload_n 0, 1) := by decide +kernel
theorem dX3_change_1 : decode cX3_change 1 = .ok (.getfield 32, 3) := by decide +kernel
theorem dX3_change_4 : decode cX3_change 4 = .ok (.iload_n 1, 1) := by decide +kernel
theorem dX3_change_5 : decode cX3_change 5 = .ok (.invokevirtual 117, 3) := by decide +kernel
theorem dX3_change_8 : decode cX3_change 8 = .ok (.ifCond .eq 14, 3) := by decide +kernel
theorem dX3_change_22 : decode cX3_change 22 = .ok (.iconst (-1), 1) := by decide +kernel
theorem dX3_change_23 : decode cX3_change 23 = .ok (.ireturn, 1) := by decide +kernel
theorem dX3_undo_0 : decode cX3_undo 0 = .ok (.aload_n 0, 1) := by decide +kernel
theorem dX3_undo_1 : decode cX3_undo 1 = .ok (.getfield 43, 3) := by decide +kernel
theorem dX3_undo_4 : decode cX3_undo 4 = .ok (.ifCond .gt 6, 3) := by decide +kernel
theorem dX3_undo_7 : decode cX3_undo 7 = .ok (.bipush (-3), 2) := by decide +kernel
theorem dX3_undo_9 : decode cX3_undo 9 = .ok (.ireturn, 1) := by decide +kernel
set_option maxRecDepth 20000 in
theorem ggX3_where_X0_hasPerson : GoodIn wsX3_where wsX0_hasPerson := goodIn_r _ [11, 12, 103, 104, 105, 106, 107, 108, 109, 110, 111, 112] (by decide +kernel) (by decide +kernel)
set_option maxRecDepth 20000 in
theorem gX3_where_X0_hasPerson : GoodIn wsX3_where (wsV RX3 97 RX0 yX0_hasPerson wsX0_hasPerson) := goodIn_app (goodIn_of _ (by decide +kernel)) ggX3_where_X0_hasPerson
theorem dX3_where_0 : decode cX3_where 0 = .ok (.aload_n 0, 1) := by decide +kernel
theorem dX3_where_1 : decode cX3_where 1 = .ok (.getfield 20, 3) := by decide +kernel
theorem dX3_where_4 : decode cX3_where 4 = .ok (.iload_n 1, 1) := by decide +kernel
theorem dX3_where_5 : decode cX3_where 5 = .ok (.invokevirtual 97, 3) := by decide +kernel
theorem dX3_where_8 : decode cX3_where 8 = .ok (.ifCond .ne 5, 3) := by decide +kernel
theorem dX3_where_11 : decode cX3_where 11 = .ok (.iconst (-1), 1) := by decide +kernel
theorem dX3_where_12 : decode cX3_where 12 = .ok (.ireturn, 1) := by decide +kernel
set_option maxRecDepth 20000 in
theorem ggX3_meet_X3_pairRefusal : GoodIn wsX3_meet wsX3_pairRefusal := goodIn_r _ [7, 8, 9, 10, 11, 12, 13, 14, 100, 101, 102, 103, 104, 105, 106, 107, 108, 109, 110, 111, 112, 113, 114, 115, 116, 117, 118, 119, 120, 121, 122, 123, 124, 125, 126] (by decide +kernel) (by decide +kernel)
set_option maxRecDepth 20000 in
theorem gX3_meet_X3_pairRefusal : GoodIn wsX3_meet (wsV RX3 181 RX3 yX3_pairRefusal wsX3_pairRefusal) := goodIn_app (goodIn_of _ (by decide +kernel)) ggX3_meet_X3_pairRefusal
theorem dX3_meet_0 : decode cX3_meet 0 = .ok (.aload_n 0, 1) := by decide +kernel
theorem dX3_meet_1 : decode cX3_meet 1 = .ok (.iload_n 1, 1) := by decide +kernel
theorem dX3_meet_2 : decode cX3_meet 2 = .ok (.iload_n 2, 1) := by decide +kernel
theorem dX3_meet_3 : decode cX3_meet 3 = .ok (.invokevirtual 181, 3) := by decide +kernel
theorem dX3_meet_6 : decode cX3_meet 6 = .ok (.istore_n 3, 1) := by decide +kernel
theorem dX3_meet_7 : decode cX3_meet 7 = .ok (.iload_n 3, 1) := by decide +kernel
theorem dX3_meet_8 : decode cX3_meet 8 = .ok (.ifCond .eq 5, 3) := by decide +kernel
theorem dX3_meet_11 : decode cX3_meet 11 = .ok (.iload_n 3, 1) := by decide +kernel
theorem dX3_meet_12 : decode cX3_meet 12 = .ok (.ireturn, 1) := by decide +kernel
set_option maxRecDepth 20000 in
theorem ggX3_fewest_X3_pairRefusal : GoodIn wsX3_fewest wsX3_pairRefusal := goodIn_r _ [7, 8, 9, 10, 11, 12, 13, 14, 121, 122, 123, 124, 125, 126, 127, 128, 129, 130, 131, 132, 133, 134, 135, 136, 137, 138, 139, 140, 141, 142, 143, 144, 145, 146, 147] (by decide +kernel) (by decide +kernel)
set_option maxRecDepth 20000 in
theorem gX3_fewest_X3_pairRefusal : GoodIn wsX3_fewest (wsV RX3 181 RX3 yX3_pairRefusal wsX3_pairRefusal) := goodIn_app (goodIn_of _ (by decide +kernel)) ggX3_fewest_X3_pairRefusal
theorem dX3_fewest_0 : decode cX3_fewest 0 = .ok (.aload_n 0, 1) := by decide +kernel
theorem dX3_fewest_1 : decode cX3_fewest 1 = .ok (.iload_n 1, 1) := by decide +kernel
theorem dX3_fewest_2 : decode cX3_fewest 2 = .ok (.iload_n 2, 1) := by decide +kernel
theorem dX3_fewest_3 : decode cX3_fewest 3 = .ok (.invokevirtual 181, 3) := by decide +kernel
theorem dX3_fewest_6 : decode cX3_fewest 6 = .ok (.istore 4, 2) := by decide +kernel
theorem dX3_fewest_8 : decode cX3_fewest 8 = .ok (.iload 4, 2) := by decide +kernel
theorem dX3_fewest_10 : decode cX3_fewest 10 = .ok (.ifCond .eq 6, 3) := by decide +kernel
theorem dX3_fewest_13 : decode cX3_fewest 13 = .ok (.iload 4, 2) := by decide +kernel
theorem dX3_fewest_15 : decode cX3_fewest 15 = .ok (.ireturn, 1) := by decide +kernel
set_option maxRecDepth 20000 in
theorem ggX3_falls_X1_hasTicket : GoodIn wsX3_falls wsX1_hasTicket := goodIn_r _ [9, 10, 100, 101, 102, 103, 104, 105, 106, 107] (by decide +kernel) (by decide +kernel)
set_option maxRecDepth 20000 in
theorem gX3_falls_X1_hasTicket : GoodIn wsX3_falls (wsV RX3 117 RX1 yX1_hasTicket wsX1_hasTicket) := goodIn_app (goodIn_of _ (by decide +kernel)) ggX3_falls_X1_hasTicket
theorem dX3_falls_0 : decode cX3_falls 0 = .ok (.aload_n 0, 1) := by decide +kernel
theorem dX3_falls_1 : decode cX3_falls 1 = .ok (.getfield 32, 3) := by decide +kernel
theorem dX3_falls_4 : decode cX3_falls 4 = .ok (.iload_n 1, 1) := by decide +kernel
theorem dX3_falls_5 : decode cX3_falls 5 = .ok (.invokevirtual 117, 3) := by decide +kernel
theorem dX3_falls_8 : decode cX3_falls 8 = .ok (.ifCond .ne 5, 3) := by decide +kernel
theorem dX3_falls_11 : decode cX3_falls 11 = .ok (.iconst (-1), 1) := by decide +kernel
theorem dX3_falls_12 : decode cX3_falls 12 = .ok (.ireturn, 1) := by decide +kernel
set_option maxRecDepth 20000 in
theorem ggX3_share_X1_hasTicket : GoodIn wsX3_share wsX1_hasTicket := goodIn_r _ [6, 7, 132, 133, 134, 135, 136, 137, 138, 139] (by decide +kernel) (by decide +kernel)
set_option maxRecDepth 20000 in
theorem gX3_share_X1_hasTicket : GoodIn wsX3_share (wsV RX3 117 RX1 yX1_hasTicket wsX1_hasTicket) := goodIn_app (goodIn_of _ (by decide +kernel)) ggX3_share_X1_hasTicket
theorem dX3_share_0 : decode cX3_share 0 = .ok (.aload_n 0, 1) := by decide +kernel
theorem dX3_share_1 : decode cX3_share 1 = .ok (.getfield 32, 3) := by decide +kernel
theorem dX3_share_4 : decode cX3_share 4 = .ok (.iload_n 1, 1) := by decide +kernel
theorem dX3_share_5 : decode cX3_share 5 = .ok (.invokevirtual 117, 3) := by decide +kernel
theorem dX3_share_8 : decode cX3_share 8 = .ok (.ifCond .ne 5, 3) := by decide +kernel
theorem dX3_share_11 : decode cX3_share 11 = .ok (.iconst (-1), 1) := by decide +kernel
theorem dX3_share_12 : decode cX3_share 12 = .ok (.ireturn, 1) := by decide +kernel
set_option maxRecDepth 20000 in
theorem ggX3_blank_X0_hasPerson : GoodIn wsX3_blank wsX0_hasPerson := goodIn_r _ [8, 9, 153, 154, 155, 156, 157, 158, 159, 160, 161, 162] (by decide +kernel) (by decide +kernel)
set_option maxRecDepth 20000 in
theorem gX3_blank_X0_hasPerson : GoodIn wsX3_blank (wsV RX3 97 RX0 yX0_hasPerson wsX0_hasPerson) := goodIn_app (goodIn_of _ (by decide +kernel)) ggX3_blank_X0_hasPerson
theorem dX3_blank_0 : decode cX3_blank 0 = .ok (.aload_n 0, 1) := by decide +kernel
theorem dX3_blank_1 : decode cX3_blank 1 = .ok (.getfield 20, 3) := by decide +kernel
theorem dX3_blank_4 : decode cX3_blank 4 = .ok (.iload_n 1, 1) := by decide +kernel
theorem dX3_blank_5 : decode cX3_blank 5 = .ok (.invokevirtual 97, 3) := by decide +kernel
theorem dX3_blank_8 : decode cX3_blank 8 = .ok (.ifCond .ne 5, 3) := by decide +kernel
theorem dX3_blank_11 : decode cX3_blank 11 = .ok (.iconst (-1), 1) := by decide +kernel
theorem dX3_blank_12 : decode cX3_blank 12 = .ok (.ireturn, 1) := by decide +kernel
set_option maxRecDepth 20000 in
theorem ggX3_see_X0_hasPerson : GoodIn wsX3_see wsX0_hasPerson := goodIn_r _ [10, 11, 33, 34, 35, 36, 37, 38, 39, 40, 41, 42] (by decide +kernel) (by decide +kernel)
set_option maxRecDepth 20000 in
theorem gX3_see_X0_hasPerson : GoodIn wsX3_see (wsV RX3 97 RX0 yX0_hasPerson wsX0_hasPerson) := goodIn_app (goodIn_of _ (by decide +kernel)) ggX3_see_X0_hasPerson
theorem dX3_see_0 : decode cX3_see 0 = .ok (.aload_n 0, 1) := by decide +kernel
theorem dX3_see_1 : decode cX3_see 1 = .ok (.getfield 20, 3) := by decide +kernel
theorem dX3_see_4 : decode cX3_see 4 = .ok (.iload_n 1, 1) := by decide +kernel
theorem dX3_see_5 : decode cX3_see 5 = .ok (.invokevirtual 97, 3) := by decide +kernel
theorem dX3_see_8 : decode cX3_see 8 = .ok (.ifCond .ne 5, 3) := by decide +kernel
theorem dX3_see_11 : decode cX3_see 11 = .ok (.iconst (-1), 1) := by decide +kernel
theorem dX3_see_12 : decode cX3_see 12 = .ok (.ireturn, 1) := by decide +kernel
theorem dX3_unsee_0 : decode cX3_unsee 0 = .ok (.aload_n 0, 1) := by decide +kernel
theorem dX3_unsee_1 : decode cX3_unsee 1 = .ok (.getfield 61, 3) := by decide +kernel
theorem dX3_unsee_4 : decode cX3_unsee 4 = .ok (.istore_n 1, 1) := by decide +kernel
theorem dX3_unsee_5 : decode cX3_unsee 5 = .ok (.aload_n 0, 1) := by decide +kernel
theorem dX3_unsee_6 : decode cX3_unsee 6 = .ok (.iconst 0, 1) := by decide +kernel
theorem dX3_unsee_7 : decode cX3_unsee 7 = .ok (.putfield 61, 3) := by decide +kernel
theorem dX3_unsee_10 : decode cX3_unsee 10 = .ok (.iload_n 1, 1) := by decide +kernel
theorem dX3_unsee_11 : decode cX3_unsee 11 = .ok (.ireturn, 1) := by decide +kernel
set_option maxRecDepth 20000 in
theorem ggX3_held_X1_hasTicket : GoodIn wsX3_held wsX1_hasTicket := goodIn_r _ [11, 12, 120, 121, 122, 123, 124, 125, 126, 127] (by decide +kernel) (by decide +kernel)
set_option maxRecDepth 20000 in
theorem gX3_held_X1_hasTicket : GoodIn wsX3_held (wsV RX3 117 RX1 yX1_hasTicket wsX1_hasTicket) := goodIn_app (goodIn_of _ (by decide +kernel)) ggX3_held_X1_hasTicket
theorem dX3_held_0 : decode cX3_held 0 = .ok (.aload_n 0, 1) := by decide +kernel
theorem dX3_held_1 : decode cX3_held 1 = .ok (.getfield 32, 3) := by decide +kernel
theorem dX3_held_4 : decode cX3_held 4 = .ok (.iload_n 1, 1) := by decide +kernel
theorem dX3_held_5 : decode cX3_held 5 = .ok (.invokevirtual 117, 3) := by decide +kernel
theorem dX3_held_8 : decode cX3_held 8 = .ok (.ifCond .ne 5, 3) := by decide +kernel
theorem dX3_held_11 : decode cX3_held 11 = .ok (.iconst (-1), 1) := by decide +kernel
theorem dX3_held_12 : decode cX3_held 12 = .ok (.ireturn, 1) := by decide +kernel
set_option maxRecDepth 20000 in
theorem ggX3_losses_X0_hasPerson : GoodIn wsX3_losses wsX0_hasPerson := goodIn_r _ [7, 8, 124, 125, 126, 127, 128, 129, 130, 131, 132, 133] (by decide +kernel) (by decide +kernel)
set_option maxRecDepth 20000 in
theorem gX3_losses_X0_hasPerson : GoodIn wsX3_losses (wsV RX3 97 RX0 yX0_hasPerson wsX0_hasPerson) := goodIn_app (goodIn_of _ (by decide +kernel)) ggX3_losses_X0_hasPerson
theorem dX3_losses_0 : decode cX3_losses 0 = .ok (.aload_n 0, 1) := by decide +kernel
theorem dX3_losses_1 : decode cX3_losses 1 = .ok (.getfield 20, 3) := by decide +kernel
theorem dX3_losses_4 : decode cX3_losses 4 = .ok (.iload_n 1, 1) := by decide +kernel
theorem dX3_losses_5 : decode cX3_losses 5 = .ok (.invokevirtual 97, 3) := by decide +kernel
theorem dX3_losses_8 : decode cX3_losses 8 = .ok (.ifCond .ne 5, 3) := by decide +kernel
theorem dX3_losses_11 : decode cX3_losses 11 = .ok (.iconst (-1), 1) := by decide +kernel
theorem dX3_losses_12 : decode cX3_losses 12 = .ok (.ireturn, 1) := by decide +kernel
theorem dX3_seed_0 : decode cX3_seed 0 = .ok (.aload_n 0, 1) := by decide +kernel
theorem dX3_seed_1 : decode cX3_seed 1 = .ok (.getfield 64, 3) := by decide +kernel
theorem dX3_seed_4 : decode cX3_seed 4 = .ok (.lstore_n 3, 1) := by decide +kernel
theorem dX3_seed_5 : decode cX3_seed 5 = .ok (.aload_n 0, 1) := by decide +kernel
theorem dX3_seed_6 : decode cX3_seed 6 = .ok (.lload_n 1, 1) := by decide +kernel
theorem dX3_seed_7 : decode cX3_seed 7 = .ok (.putfield 64, 3) := by decide +kernel
theorem dX3_seed_10 : decode cX3_seed 10 = .ok (.lload_n 3, 1) := by decide +kernel
theorem dX3_seed_11 : decode cX3_seed 11 = .ok (.lreturn, 1) := by decide +kernel
set_option maxRecDepth 20000 in
theorem ggX3_pairRefusal_X0_hasPerson : GoodIn wsX3_pairRefusal wsX0_hasPerson := goodIn_r _ [6, 7, 25, 26, 27, 28, 29, 30, 31, 32, 33, 34] (by decide +kernel) (by decide +kernel)
set_option maxRecDepth 20000 in
theorem gX3_pairRefusal_X0_hasPerson : GoodIn wsX3_pairRefusal (wsV RX3 97 RX0 yX0_hasPerson wsX0_hasPerson) := goodIn_app (goodIn_of _ (by decide +kernel)) ggX3_pairRefusal_X0_hasPerson
theorem dX3_pairRefusal_0 : decode cX3_pairRefusal 0 = .ok (.aload_n 0, 1) := by decide +kernel
theorem dX3_pairRefusal_1 : decode cX3_pairRefusal 1 = .ok (.getfield 20, 3) := by decide +kernel
theorem dX3_pairRefusal_4 : decode cX3_pairRefusal 4 = .ok (.iload_n 1, 1) := by decide +kernel
theorem dX3_pairRefusal_5 : decode cX3_pairRefusal 5 = .ok (.invokevirtual 97, 3) := by decide +kernel
theorem dX3_pairRefusal_8 : decode cX3_pairRefusal 8 = .ok (.ifCond .eq 14, 3) := by decide +kernel
theorem dX3_pairRefusal_22 : decode cX3_pairRefusal 22 = .ok (.iconst (-1), 1) := by decide +kernel
theorem dX3_pairRefusal_23 : decode cX3_pairRefusal 23 = .ok (.ireturn, 1) := by decide +kernel
set_option maxHeartbeats 600000 in
set_option maxRecDepth 100000 in
theorem c_X3_write (l : Launch) (D : va_G) (cI cZ cM : ClassId) (h0 : Nat) (n : Int32) (tx : Nat) (le : Int32) (td : Nat) (dr : Nat) (nw : Nat) (ac : Nat) (fa : Int32) (an : Int32) (kp : Nat) (ks : Int32) (sp : Nat) (ss : Nat) (sy : Nat) (sc : Int32) (sd : Int64) (tr : Nat) (ia : Nat) (Ftx : Nat → Int32) (sz : Nat) (h_le : 0 ≤ le.toInt ∧ le.toInt ≤ 64) : Ci l yX3_write wsX3_write ({ frames := 0, cells := 0, slots := 0, locals := 0 } : Room) D cI cZ cM [.ref h0, .int n] [(h0, .inr (3, [.ref tx, .int le, .ref td, .ref dr, .ref nw, .ref ac, .int fa, .int an, .ref kp, .int ks, .ref sp, .ref ss, .ref sy, .int sc, .long sd, .ref tr, .ref ia])), (tx, .inl (cI, 64, .inl Ftx))] sz (fun (r : Int32) (u : Int32 × (Nat → Int32)) => (((n.toInt < 0 ∨ 255 < n.toInt) ∧ r.toInt = -2 ∧ u.1.toInt = le.toInt) ∨ (0 ≤ n.toInt ∧ n.toInt ≤ 255 ∧ le.toInt = 64 ∧ r.toInt = -4 ∧ u.1.toInt = le.toInt) ∨ (0 ≤ n.toInt ∧ n.toInt ≤ 255 ∧ le.toInt < 64 ∧ r.toInt = le.toInt + 1 ∧ u.1.toInt = le.toInt + 1))) (fun u => [(h0, .inr (3, [.ref tx, .int u.1, .ref td, .ref dr, .ref nw, .ref ac, .int fa, .int an, .ref kp, .int ks, .ref sp, .ref ss, .ref sy, .int sc, .long sd, .ref tr, .ref ia])), (tx, .inl (cI, 64, .inl u.2))]) 0 0 := by
  refine begins (l := l) (y := yX3_write) (ws := wsX3_write) (av := [.ref h0, .int n]) (Qc := fun A => va_Qi (fun (r : Int32) (u : Int32 × (Nat → Int32)) => (((n.toInt < 0 ∨ 255 < n.toInt) ∧ r.toInt = -2 ∧ u.1.toInt = le.toInt) ∨ (0 ≤ n.toInt ∧ n.toInt ≤ 255 ∧ le.toInt = 64 ∧ r.toInt = -4 ∧ u.1.toInt = le.toInt) ∨ (0 ≤ n.toInt ∧ n.toInt ≤ 255 ∧ le.toInt < 64 ∧ r.toInt = le.toInt + 1 ∧ u.1.toInt = le.toInt + 1))) (fun u => Wd D cI cZ cM A ((fun u => [(h0, .inr (3, [.ref tx, .int u.1, .ref td, .ref dr, .ref nw, .ref ac, .int fa, .int an, .ref kp, .int ks, .ref sp, .ref ss, .ref sy, .int sc, .long sd, .ref tr, .ref ia])), (tx, .inl (cI, 64, .inl u.2))]) u)) A) cX3_write 2 (some .int) (by decide) rfl (Nat.le_of_ble_eq_true rfl) ?_
  intro p e s m args below meth c R Q A ls hBd hR hQ hA hS hK hP hD hl
  obtain ⟨hx, hb, hr, hts, hown, hlocks, hin, hml⟩ := hBd
  have hl : lv_has ls 2 [(0, .ref h0), (1, .int n)] := hl
  have iX3 : ∀ w ∈ wsX30, w ∈ wsX3_write := fun _ h => List.mem_cons_of_mem _ (List.mem_append_right _ h)
  obtain ⟨h_lea, h_leb⟩ := h_le
  refine lv_iload_n hx hb dX3_write_0 rfl (lv_at hl 1 rfl) ?_
  refine lv_if_lt (tgt := 11) hx hb dX3_write_1 (by decide) (fun c_1 => ?_) (fun c_1 => ?_)
  · have tc_1 := b_lt rfl (show (0 : Int32).toInt = 0 by decide) c_1
    refine lv_bipush (v := (-2)) hx hb dX3_write_11 (by decide) ?_
    exact ret_i (post := (fun (r : Int32) (u : Int32 × (Nat → Int32)) => (((n.toInt < 0 ∨ 255 < n.toInt) ∧ r.toInt = -2 ∧ u.1.toInt = le.toInt) ∨ (0 ≤ n.toInt ∧ n.toInt ≤ 255 ∧ le.toInt = 64 ∧ r.toInt = -4 ∧ u.1.toInt = le.toInt) ∨ (0 ≤ n.toInt ∧ n.toInt ≤ 255 ∧ le.toInt < 64 ∧ r.toInt = le.toInt + 1 ∧ u.1.toInt = le.toInt + 1)))) (W1 := (fun u => [(h0, .inr (3, [.ref tx, .int u.1, .ref td, .ref dr, .ref nw, .ref ac, .int fa, .int an, .ref kp, .int ks, .ref sp, .ref ss, .ref sy, .int sc, .long sd, .ref tr, .ref ia])), (tx, .inl (cI, 64, .inl u.2))])) (le, Ftx) hx hb hr hlocks rfl hQ hK hP hD hS ⟨by decide, by decide⟩ dX3_write_13 (show (((n.toInt < 0 ∨ 255 < n.toInt) ∧ (-2 : Int) = -2 ∧ le.toInt = le.toInt) ∨ (0 ≤ n.toInt ∧ n.toInt ≤ 255 ∧ le.toInt = 64 ∧ (-2 : Int) = -4 ∧ le.toInt = le.toInt) ∨ (0 ≤ n.toInt ∧ n.toInt ≤ 255 ∧ le.toInt < 64 ∧ (-2 : Int) = le.toInt + 1 ∧ le.toInt = le.toInt + 1)) by omega)
  · have tc_1 := b_nlt rfl (show (0 : Int32).toInt = 0 by decide) c_1
    refine lv_iload_n hx hb dX3_write_4 rfl (lv_at hl 1 rfl) ?_
    refine lv_sipush (v := 255) hx hb dX3_write_5 (by decide) ?_
    refine lv_icmp_le (tgt := 14) hx hb dX3_write_8 (by decide) (fun c_2 => ?_) (fun c_2 => ?_)
    · have tc_2 := b_le rfl (show (255 : Int32).toInt = 255 by decide) c_2
      refine lv_aload_n hx hb dX3_write_14 rfl (lv_at hl 0 rfl) ?_
      refine va_get (D := D) (ci := 3) (v := .int le) (C := RX3) (T := TX3) (N := 17) hx hb hts iX3 hown hK hP 0 rfl rfl 1 (by decide) (hts (.fieldLink RX3 13 "PunchedTicket" "letters" "I") (List.mem_of_getElem? (i := 1) rfl)) (fun _ h9 => h9) rfl dX3_write_15 ?_
      refine lv_bipush (v := 64) hx hb dX3_write_18 (by decide) ?_
      refine lv_icmp_lt (tgt := 26) hx hb dX3_write_20 (by decide) (fun c_3 => ?_) (fun c_3 => ?_)
      · have tc_3 := b_lt rfl (show (64 : Int32).toInt = 64 by decide) c_3
        refine lv_aload_n hx hb dX3_write_26 rfl (lv_at hl 0 rfl) ?_
        refine va_get (D := D) (ci := 3) (v := .ref tx) (C := RX3) (T := TX3) (N := 17) hx hb hts iX3 hown hK hP 0 rfl rfl 0 (by decide) (hts (.fieldLink RX3 9 "PunchedTicket" "text" "[I") (List.mem_of_getElem? (i := 2) rfl)) (fun _ h9 => h9) rfl dX3_write_27 ?_
        refine lv_aload_n hx hb dX3_write_30 rfl (lv_at hl 0 rfl) ?_
        refine va_get (D := D) (ci := 3) (v := .int le) (C := RX3) (T := TX3) (N := 17) hx hb hts iX3 hown hK hP 0 rfl rfl 1 (by decide) (hts (.fieldLink RX3 13 "PunchedTicket" "letters" "I") (List.mem_of_getElem? (i := 1) rfl)) (fun _ h9 => h9) rfl dX3_write_31 ?_
        refine lv_iload_n hx hb dX3_write_34 rfl (lv_at hl 1 rfl) ?_
        refine va_iast hx hb hK hP hD hS 1 0 rfl rfl (vp_in_iff.mpr ⟨by omega, by omega⟩) dX3_write_35 (fun H locs hP hD hS => ?_)
        obtain ⟨f_4, ef_4⟩ : ∃ g : Nat → Int32, upd Ftx (le : Int32).toNatClampNeg n = g := ⟨_, rfl⟩
        rw [ef_4] at hP hD
        have hP : va_P D vwCl [(h0, .inr (3, [.ref tx, .int le, .ref td, .ref dr, .ref nw, .ref ac, .int fa, .int an, .ref kp, .int ks, .ref sp, .ref ss, .ref sy, .int sc, .long sd, .ref tr, .ref ia])), (tx, .inl (cI, 64, .inl f_4))] H := hP
        have hD : va_D A [(h0, .inr (3, [.ref tx, .int le, .ref td, .ref dr, .ref nw, .ref ac, .int fa, .int an, .ref kp, .int ks, .ref sp, .ref ss, .ref sy, .int sc, .long sd, .ref tr, .ref ia])), (tx, .inl (cI, 64, .inl f_4))] := hD
        refine lv_aload_n hx hb dX3_write_36 rfl (lv_at hl 0 rfl) ?_
        refine lv_dup hx hb dX3_write_37 rfl ?_
        refine va_get (D := D) (ci := 3) (v := .int le) (C := RX3) (T := TX3) (N := 17) hx hb hts iX3 hown hK hP 0 rfl rfl 1 (by decide) (hts (.fieldLink RX3 13 "PunchedTicket" "letters" "I") (List.mem_of_getElem? (i := 1) rfl)) (fun _ h9 => h9) rfl dX3_write_38 ?_
        refine lv_iconst (v := 1) hx hb dX3_write_41 (by decide) ?_
        refine lv_iadd hx hb dX3_write_42 ?_
        refine lv_topi (fun v_5 ev_5 => ?_)
        have tv_5 : v_5.toInt = le.toInt + (1 : Int) := by rw [ev_5]; exact ti_add (x := le) (y := 1) (show -2147483648 ≤ le.toInt + (1 : Int) by omega) (show le.toInt + (1 : Int) < 2147483648 by omega)
        refine va_put (D := D) (ci := 3) (v := .int v_5) (ty := .int) (C := RX3) (T := TX3) (N := 17) hx hb hts iX3 tyX3 tyX3_ok nmX3 hown hK hP hD hS 0 rfl rfl 1 (by decide) (hts (.fieldLink RX3 13 "PunchedTicket" "letters" "I") (List.mem_of_getElem? (i := 1) rfl)) (fun _ h9 => h9) rfl (by decide +kernel) rfl rfl (Nat.le_of_ble_eq_true rfl) dX3_write_43 (fun H locs hP hD hS => ?_)
        have hP : va_P D vwCl [(h0, .inr (3, [.ref tx, .int v_5, .ref td, .ref dr, .ref nw, .ref ac, .int fa, .int an, .ref kp, .int ks, .ref sp, .ref ss, .ref sy, .int sc, .long sd, .ref tr, .ref ia])), (tx, .inl (cI, 64, .inl f_4))] H := hP
        have hD : va_D A [(h0, .inr (3, [.ref tx, .int v_5, .ref td, .ref dr, .ref nw, .ref ac, .int fa, .int an, .ref kp, .int ks, .ref sp, .ref ss, .ref sy, .int sc, .long sd, .ref tr, .ref ia])), (tx, .inl (cI, 64, .inl f_4))] := hD
        refine lv_aload_n hx hb dX3_write_46 rfl (lv_at hl 0 rfl) ?_
        refine va_get (D := D) (ci := 3) (v := .int v_5) (C := RX3) (T := TX3) (N := 17) hx hb hts iX3 hown hK hP 0 rfl rfl 1 (by decide) (hts (.fieldLink RX3 13 "PunchedTicket" "letters" "I") (List.mem_of_getElem? (i := 1) rfl)) (fun _ h9 => h9) rfl dX3_write_47 ?_
        exact ret_i (post := (fun (r : Int32) (u : Int32 × (Nat → Int32)) => (((n.toInt < 0 ∨ 255 < n.toInt) ∧ r.toInt = -2 ∧ u.1.toInt = le.toInt) ∨ (0 ≤ n.toInt ∧ n.toInt ≤ 255 ∧ le.toInt = 64 ∧ r.toInt = -4 ∧ u.1.toInt = le.toInt) ∨ (0 ≤ n.toInt ∧ n.toInt ≤ 255 ∧ le.toInt < 64 ∧ r.toInt = le.toInt + 1 ∧ u.1.toInt = le.toInt + 1)))) (W1 := (fun u => [(h0, .inr (3, [.ref tx, .int u.1, .ref td, .ref dr, .ref nw, .ref ac, .int fa, .int an, .ref kp, .int ks, .ref sp, .ref ss, .ref sy, .int sc, .long sd, .ref tr, .ref ia])), (tx, .inl (cI, 64, .inl u.2))])) (v_5, f_4) hx hb hr hlocks rfl hQ hK hP hD hS ⟨by decide, by decide⟩ dX3_write_50 (show (((n.toInt < 0 ∨ 255 < n.toInt) ∧ v_5.toInt = -2 ∧ v_5.toInt = le.toInt) ∨ (0 ≤ n.toInt ∧ n.toInt ≤ 255 ∧ le.toInt = 64 ∧ v_5.toInt = -4 ∧ v_5.toInt = le.toInt) ∨ (0 ≤ n.toInt ∧ n.toInt ≤ 255 ∧ le.toInt < 64 ∧ v_5.toInt = le.toInt + 1 ∧ v_5.toInt = le.toInt + 1)) by omega)
      · have tc_3 := b_nlt rfl (show (64 : Int32).toInt = 64 by decide) c_3
        refine lv_bipush (v := (-4)) hx hb dX3_write_23 (by decide) ?_
        exact ret_i (post := (fun (r : Int32) (u : Int32 × (Nat → Int32)) => (((n.toInt < 0 ∨ 255 < n.toInt) ∧ r.toInt = -2 ∧ u.1.toInt = le.toInt) ∨ (0 ≤ n.toInt ∧ n.toInt ≤ 255 ∧ le.toInt = 64 ∧ r.toInt = -4 ∧ u.1.toInt = le.toInt) ∨ (0 ≤ n.toInt ∧ n.toInt ≤ 255 ∧ le.toInt < 64 ∧ r.toInt = le.toInt + 1 ∧ u.1.toInt = le.toInt + 1)))) (W1 := (fun u => [(h0, .inr (3, [.ref tx, .int u.1, .ref td, .ref dr, .ref nw, .ref ac, .int fa, .int an, .ref kp, .int ks, .ref sp, .ref ss, .ref sy, .int sc, .long sd, .ref tr, .ref ia])), (tx, .inl (cI, 64, .inl u.2))])) (le, Ftx) hx hb hr hlocks rfl hQ hK hP hD hS ⟨by decide, by decide⟩ dX3_write_25 (show (((n.toInt < 0 ∨ 255 < n.toInt) ∧ (-4 : Int) = -2 ∧ le.toInt = le.toInt) ∨ (0 ≤ n.toInt ∧ n.toInt ≤ 255 ∧ le.toInt = 64 ∧ (-4 : Int) = -4 ∧ le.toInt = le.toInt) ∨ (0 ≤ n.toInt ∧ n.toInt ≤ 255 ∧ le.toInt < 64 ∧ (-4 : Int) = le.toInt + 1 ∧ le.toInt = le.toInt + 1)) by omega)
    · have tc_2 := b_nle rfl (show (255 : Int32).toInt = 255 by decide) c_2
      refine lv_bipush (v := (-2)) hx hb dX3_write_11 (by decide) ?_
      exact ret_i (post := (fun (r : Int32) (u : Int32 × (Nat → Int32)) => (((n.toInt < 0 ∨ 255 < n.toInt) ∧ r.toInt = -2 ∧ u.1.toInt = le.toInt) ∨ (0 ≤ n.toInt ∧ n.toInt ≤ 255 ∧ le.toInt = 64 ∧ r.toInt = -4 ∧ u.1.toInt = le.toInt) ∨ (0 ≤ n.toInt ∧ n.toInt ≤ 255 ∧ le.toInt < 64 ∧ r.toInt = le.toInt + 1 ∧ u.1.toInt = le.toInt + 1)))) (W1 := (fun u => [(h0, .inr (3, [.ref tx, .int u.1, .ref td, .ref dr, .ref nw, .ref ac, .int fa, .int an, .ref kp, .int ks, .ref sp, .ref ss, .ref sy, .int sc, .long sd, .ref tr, .ref ia])), (tx, .inl (cI, 64, .inl u.2))])) (le, Ftx) hx hb hr hlocks rfl hQ hK hP hD hS ⟨by decide, by decide⟩ dX3_write_13 (show (((n.toInt < 0 ∨ 255 < n.toInt) ∧ (-2 : Int) = -2 ∧ le.toInt = le.toInt) ∨ (0 ≤ n.toInt ∧ n.toInt ≤ 255 ∧ le.toInt = 64 ∧ (-2 : Int) = -4 ∧ le.toInt = le.toInt) ∨ (0 ≤ n.toInt ∧ n.toInt ≤ 255 ∧ le.toInt < 64 ∧ (-2 : Int) = le.toInt + 1 ∧ le.toInt = le.toInt + 1)) by omega)

set_option maxHeartbeats 600000 in
set_option maxRecDepth 100000 in
theorem c_X3_wipe (l : Launch) (D : va_G) (cI cZ cM : ClassId) (h0 : Nat) (tx : Nat) (le : Int32) (td : Nat) (dr : Nat) (nw : Nat) (ac : Nat) (fa : Int32) (an : Int32) (kp : Nat) (ks : Int32) (sp : Nat) (ss : Nat) (sy : Nat) (sc : Int32) (sd : Int64) (tr : Nat) (ia : Nat) (sz : Nat)  : Ci l yX3_wipe wsX3_wipe ({ frames := 0, cells := 0, slots := 0, locals := 0 } : Room) D cI cZ cM [.ref h0] [(h0, .inr (3, [.ref tx, .int le, .ref td, .ref dr, .ref nw, .ref ac, .int fa, .int an, .ref kp, .int ks, .ref sp, .ref ss, .ref sy, .int sc, .long sd, .ref tr, .ref ia]))] sz (fun (r : Int32) (u : Unit) => r.toInt = le.toInt) (fun u => [(h0, .inr (3, [.ref tx, .int 0, .ref td, .ref dr, .ref nw, .ref ac, .int fa, .int an, .ref kp, .int ks, .ref sp, .ref ss, .ref sy, .int sc, .long sd, .ref tr, .ref ia]))]) 0 0 := by
  refine begins (l := l) (y := yX3_wipe) (ws := wsX3_wipe) (av := [.ref h0]) (Qc := fun A => va_Qi (fun (r : Int32) (u : Unit) => r.toInt = le.toInt) (fun u => Wd D cI cZ cM A ((fun u => [(h0, .inr (3, [.ref tx, .int 0, .ref td, .ref dr, .ref nw, .ref ac, .int fa, .int an, .ref kp, .int ks, .ref sp, .ref ss, .ref sy, .int sc, .long sd, .ref tr, .ref ia]))]) u)) A) cX3_wipe 2 (some .int) (by decide) rfl (Nat.le_of_ble_eq_true rfl) ?_
  intro p e s m args below meth c R Q A ls hBd hR hQ hA hS hK hP hD hl
  obtain ⟨hx, hb, hr, hts, hown, hlocks, hin, hml⟩ := hBd
  have hl : lv_has ls 2 [(0, .ref h0)] := hl
  have iX3 : ∀ w ∈ wsX30, w ∈ wsX3_wipe := fun _ h => List.mem_cons_of_mem _ (List.mem_append_right _ h)
  refine lv_aload_n hx hb dX3_wipe_0 rfl (lv_at hl 0 rfl) ?_
  refine va_get (D := D) (ci := 3) (v := .int le) (C := RX3) (T := TX3) (N := 17) hx hb hts iX3 hown hK hP 0 rfl rfl 1 (by decide) (hts (.fieldLink RX3 13 "PunchedTicket" "letters" "I") (List.mem_of_getElem? (i := 1) rfl)) (fun _ h9 => h9) rfl dX3_wipe_1 ?_
  refine lv_istore_n (lv' := [(1, .int le), (0, .ref h0)]) hx hb dX3_wipe_4 rfl hl (by decide) rfl (fun ls hl => ?_)
  refine lv_aload_n hx hb dX3_wipe_5 rfl (lv_at hl 1 rfl) ?_
  refine lv_iconst (v := 0) hx hb dX3_wipe_6 (by decide) ?_
  refine va_put (D := D) (ci := 3) (v := .int 0) (ty := .int) (C := RX3) (T := TX3) (N := 17) hx hb hts iX3 tyX3 tyX3_ok nmX3 hown hK hP hD hS 0 rfl rfl 1 (by decide) (hts (.fieldLink RX3 13 "PunchedTicket" "letters" "I") (List.mem_of_getElem? (i := 1) rfl)) (fun _ h9 => h9) rfl (by decide +kernel) rfl rfl (Nat.le_of_ble_eq_true rfl) dX3_wipe_7 (fun H locs hP hD hS => ?_)
  have hP : va_P D vwCl [(h0, .inr (3, [.ref tx, .int 0, .ref td, .ref dr, .ref nw, .ref ac, .int fa, .int an, .ref kp, .int ks, .ref sp, .ref ss, .ref sy, .int sc, .long sd, .ref tr, .ref ia]))] H := hP
  have hD : va_D A [(h0, .inr (3, [.ref tx, .int 0, .ref td, .ref dr, .ref nw, .ref ac, .int fa, .int an, .ref kp, .int ks, .ref sp, .ref ss, .ref sy, .int sc, .long sd, .ref tr, .ref ia]))] := hD
  refine lv_iload_n hx hb dX3_wipe_10 rfl (lv_at hl 0 rfl) ?_
  exact ret_i (post := (fun (r : Int32) (u : Unit) => r.toInt = le.toInt)) (W1 := (fun u => [(h0, .inr (3, [.ref tx, .int 0, .ref td, .ref dr, .ref nw, .ref ac, .int fa, .int an, .ref kp, .int ks, .ref sp, .ref ss, .ref sy, .int sc, .long sd, .ref tr, .ref ia]))])) () hx hb hr hlocks rfl hQ hK hP hD hS ⟨by decide, by decide⟩ dX3_wipe_11 (show le.toInt = le.toInt by omega)

set_option maxHeartbeats 600000 in
set_option maxRecDepth 100000 in
theorem c_X3_unsee (l : Launch) (D : va_G) (cI cZ cM : ClassId) (h0 : Nat) (tx : Nat) (le : Int32) (td : Nat) (dr : Nat) (nw : Nat) (ac : Nat) (fa : Int32) (an : Int32) (kp : Nat) (ks : Int32) (sp : Nat) (ss : Nat) (sy : Nat) (sc : Int32) (sd : Int64) (tr : Nat) (ia : Nat) (sz : Nat)  : Ci l yX3_unsee wsX3_unsee ({ frames := 0, cells := 0, slots := 0, locals := 0 } : Room) D cI cZ cM [.ref h0] [(h0, .inr (3, [.ref tx, .int le, .ref td, .ref dr, .ref nw, .ref ac, .int fa, .int an, .ref kp, .int ks, .ref sp, .ref ss, .ref sy, .int sc, .long sd, .ref tr, .ref ia]))] sz (fun (r : Int32) (u : Unit) => r.toInt = sc.toInt) (fun u => [(h0, .inr (3, [.ref tx, .int le, .ref td, .ref dr, .ref nw, .ref ac, .int fa, .int an, .ref kp, .int ks, .ref sp, .ref ss, .ref sy, .int 0, .long sd, .ref tr, .ref ia]))]) 0 0 := by
  refine begins (l := l) (y := yX3_unsee) (ws := wsX3_unsee) (av := [.ref h0]) (Qc := fun A => va_Qi (fun (r : Int32) (u : Unit) => r.toInt = sc.toInt) (fun u => Wd D cI cZ cM A ((fun u => [(h0, .inr (3, [.ref tx, .int le, .ref td, .ref dr, .ref nw, .ref ac, .int fa, .int an, .ref kp, .int ks, .ref sp, .ref ss, .ref sy, .int 0, .long sd, .ref tr, .ref ia]))]) u)) A) cX3_unsee 2 (some .int) (by decide) rfl (Nat.le_of_ble_eq_true rfl) ?_
  intro p e s m args below meth c R Q A ls hBd hR hQ hA hS hK hP hD hl
  obtain ⟨hx, hb, hr, hts, hown, hlocks, hin, hml⟩ := hBd
  have hl : lv_has ls 2 [(0, .ref h0)] := hl
  have iX3 : ∀ w ∈ wsX30, w ∈ wsX3_unsee := fun _ h => List.mem_cons_of_mem _ (List.mem_append_right _ h)
  refine lv_aload_n hx hb dX3_unsee_0 rfl (lv_at hl 0 rfl) ?_
  refine va_get (D := D) (ci := 3) (v := .int sc) (C := RX3) (T := TX3) (N := 17) hx hb hts iX3 hown hK hP 0 rfl rfl 13 (by decide) (hts (.fieldLink RX3 61 "PunchedTicket" "seenCount" "I") (List.mem_of_getElem? (i := 1) rfl)) (fun _ h9 => h9) rfl dX3_unsee_1 ?_
  refine lv_istore_n (lv' := [(1, .int sc), (0, .ref h0)]) hx hb dX3_unsee_4 rfl hl (by decide) rfl (fun ls hl => ?_)
  refine lv_aload_n hx hb dX3_unsee_5 rfl (lv_at hl 1 rfl) ?_
  refine lv_iconst (v := 0) hx hb dX3_unsee_6 (by decide) ?_
  refine va_put (D := D) (ci := 3) (v := .int 0) (ty := .int) (C := RX3) (T := TX3) (N := 17) hx hb hts iX3 tyX3 tyX3_ok nmX3 hown hK hP hD hS 0 rfl rfl 13 (by decide) (hts (.fieldLink RX3 61 "PunchedTicket" "seenCount" "I") (List.mem_of_getElem? (i := 1) rfl)) (fun _ h9 => h9) rfl (by decide +kernel) rfl rfl (Nat.le_of_ble_eq_true rfl) dX3_unsee_7 (fun H locs hP hD hS => ?_)
  have hP : va_P D vwCl [(h0, .inr (3, [.ref tx, .int le, .ref td, .ref dr, .ref nw, .ref ac, .int fa, .int an, .ref kp, .int ks, .ref sp, .ref ss, .ref sy, .int 0, .long sd, .ref tr, .ref ia]))] H := hP
  have hD : va_D A [(h0, .inr (3, [.ref tx, .int le, .ref td, .ref dr, .ref nw, .ref ac, .int fa, .int an, .ref kp, .int ks, .ref sp, .ref ss, .ref sy, .int 0, .long sd, .ref tr, .ref ia]))] := hD
  refine lv_iload_n hx hb dX3_unsee_10 rfl (lv_at hl 0 rfl) ?_
  exact ret_i (post := (fun (r : Int32) (u : Unit) => r.toInt = sc.toInt)) (W1 := (fun u => [(h0, .inr (3, [.ref tx, .int le, .ref td, .ref dr, .ref nw, .ref ac, .int fa, .int an, .ref kp, .int ks, .ref sp, .ref ss, .ref sy, .int 0, .long sd, .ref tr, .ref ia]))])) () hx hb hr hlocks rfl hQ hK hP hD hS ⟨by decide, by decide⟩ dX3_unsee_11 (show sc.toInt = sc.toInt by omega)

set_option maxHeartbeats 600000 in
set_option maxRecDepth 100000 in
theorem c_X3_seed (l : Launch) (D : va_G) (cI cZ cM : ClassId) (h0 : Nat) (n : Int64) (tx : Nat) (le : Int32) (td : Nat) (dr : Nat) (nw : Nat) (ac : Nat) (fa : Int32) (an : Int32) (kp : Nat) (ks : Int32) (sp : Nat) (ss : Nat) (sy : Nat) (sc : Int32) (sd : Int64) (tr : Nat) (ia : Nat) (sz : Nat)  : Cl l yX3_seed wsX3_seed ({ frames := 0, cells := 0, slots := 0, locals := 0 } : Room) D cI cZ cM [.ref h0, .long n] [(h0, .inr (3, [.ref tx, .int le, .ref td, .ref dr, .ref nw, .ref ac, .int fa, .int an, .ref kp, .int ks, .ref sp, .ref ss, .ref sy, .int sc, .long sd, .ref tr, .ref ia]))] sz (fun (r : Int64) (u : Unit) => r.toInt = sd.toInt) (fun u => [(h0, .inr (3, [.ref tx, .int le, .ref td, .ref dr, .ref nw, .ref ac, .int fa, .int an, .ref kp, .int ks, .ref sp, .ref ss, .ref sy, .int sc, .long n, .ref tr, .ref ia]))]) 0 0 := by
  refine begins (l := l) (y := yX3_seed) (ws := wsX3_seed) (av := [.ref h0, .long n]) (Qc := fun A => va_Ql (fun (r : Int64) (u : Unit) => r.toInt = sd.toInt) (fun u => Wd D cI cZ cM A ((fun u => [(h0, .inr (3, [.ref tx, .int le, .ref td, .ref dr, .ref nw, .ref ac, .int fa, .int an, .ref kp, .int ks, .ref sp, .ref ss, .ref sy, .int sc, .long n, .ref tr, .ref ia]))]) u)) A) cX3_seed 5 (some .long) (by decide) rfl (Nat.le_of_ble_eq_true rfl) ?_
  intro p e s m args below meth c R Q A ls hBd hR hQ hA hS hK hP hD hl
  obtain ⟨hx, hb, hr, hts, hown, hlocks, hin, hml⟩ := hBd
  have hl : lv_has ls 5 [(0, .ref h0), (1, .long n)] := hl
  have iX3 : ∀ w ∈ wsX30, w ∈ wsX3_seed := fun _ h => List.mem_cons_of_mem _ (List.mem_append_right _ h)
  refine lv_aload_n hx hb dX3_seed_0 rfl (lv_at hl 0 rfl) ?_
  refine va_get (D := D) (ci := 3) (v := .long sd) (C := RX3) (T := TX3) (N := 17) hx hb hts iX3 hown hK hP 0 rfl rfl 14 (by decide) (hts (.fieldLink RX3 64 "PunchedTicket" "theSeed" "J") (List.mem_of_getElem? (i := 1) rfl)) (fun _ h9 => h9) rfl dX3_seed_1 ?_
  refine lv_lstore_n (lv' := [(3, .long sd), (0, .ref h0), (1, .long n)]) hx hb dX3_seed_4 rfl hl (by decide) rfl (fun ls hl => ?_)
  refine lv_aload_n hx hb dX3_seed_5 rfl (lv_at hl 1 rfl) ?_
  refine lv_lload_n hx hb dX3_seed_6 rfl (lv_at hl 2 rfl) ?_
  refine va_put (D := D) (ci := 3) (v := .long n) (ty := .long) (C := RX3) (T := TX3) (N := 17) hx hb hts iX3 tyX3 tyX3_ok nmX3 hown hK hP hD hS 0 rfl rfl 14 (by decide) (hts (.fieldLink RX3 64 "PunchedTicket" "theSeed" "J") (List.mem_of_getElem? (i := 1) rfl)) (fun _ h9 => h9) rfl (by decide +kernel) rfl rfl (Nat.le_of_ble_eq_true rfl) dX3_seed_7 (fun H locs hP hD hS => ?_)
  have hP : va_P D vwCl [(h0, .inr (3, [.ref tx, .int le, .ref td, .ref dr, .ref nw, .ref ac, .int fa, .int an, .ref kp, .int ks, .ref sp, .ref ss, .ref sy, .int sc, .long n, .ref tr, .ref ia]))] H := hP
  have hD : va_D A [(h0, .inr (3, [.ref tx, .int le, .ref td, .ref dr, .ref nw, .ref ac, .int fa, .int an, .ref kp, .int ks, .ref sp, .ref ss, .ref sy, .int sc, .long n, .ref tr, .ref ia]))] := hD
  refine lv_lload_n hx hb dX3_seed_10 rfl (lv_at hl 0 rfl) ?_
  exact ret_l (post := (fun (r : Int64) (u : Unit) => r.toInt = sd.toInt)) (W1 := (fun u => [(h0, .inr (3, [.ref tx, .int le, .ref td, .ref dr, .ref nw, .ref ac, .int fa, .int an, .ref kp, .int ks, .ref sp, .ref ss, .ref sy, .int sc, .long n, .ref tr, .ref ia]))])) () hx hb hr hlocks hQ hK hP hD hS ⟨by decide, by decide⟩ dX3_seed_11 (show sd.toInt = sd.toInt by omega)

set_option maxHeartbeats 600000 in
set_option maxRecDepth 100000 in
theorem c_X0_read0 (l : Launch) (D : va_G) (cI cZ cM : ClassId) (h0 : Nat) (tx : Nat) (lpe : Int32) (ltk : Int32) (lho : Nat) (lli : Nat) (lki : Nat) (lfd : Nat) (lfr : Nat) (lto : Nat) (lse : Nat) (lhl : Nat) (sz : Nat)  : Ci l yX0_read wsX0_read ({ frames := 0, cells := 0, slots := 0, locals := 0 } : Room) D cI cZ cM [.ref h0, .ref tx, .int 0] [(h0, .inr (0, [.int lpe, .int ltk, .ref lho, .ref lli, .ref lki, .ref lfd, .ref lfr, .ref lto, .ref lse, .ref lhl]))] sz (fun (r : Int32) (u : Unit) => r.toInt = 0) (fun u => [(h0, .inr (0, [.int 0, .int 0, .ref lho, .ref lli, .ref lki, .ref lfd, .ref lfr, .ref lto, .ref lse, .ref lhl]))]) 0 0 := by
  refine begins (l := l) (y := yX0_read) (ws := wsX0_read) (av := [.ref h0, .ref tx, .int 0]) (Qc := fun A => va_Qi (fun (r : Int32) (u : Unit) => r.toInt = 0) (fun u => Wd D cI cZ cM A ((fun u => [(h0, .inr (0, [.int 0, .int 0, .ref lho, .ref lli, .ref lki, .ref lfd, .ref lfr, .ref lto, .ref lse, .ref lhl]))]) u)) A) cX0_read 6 (some .int) (by decide) rfl (Nat.le_of_ble_eq_true rfl) ?_
  intro p e s m args below meth c R Q A ls hBd hR hQ hA hS hK hP hD hl
  obtain ⟨hx, hb, hr, hts, hown, hlocks, hin, hml⟩ := hBd
  have hl : lv_has ls 6 [(0, .ref h0), (1, .ref tx), (2, .int 0)] := hl
  have iX0 : ∀ w ∈ wsX00, w ∈ wsX0_read := fun _ h => List.mem_cons_of_mem _ (List.mem_append_right _ h)
  refine lv_aload_n hx hb dX0_read_0 rfl (lv_at hl 0 rfl) ?_
  refine lv_iconst (v := 0) hx hb dX0_read_1 (by decide) ?_
  refine va_put (D := D) (ci := 0) (v := .int 0) (ty := .int) (C := RX0) (T := TX0) (N := 10) hx hb hts iX0 tyX0 tyX0_ok nmX0 hown hK hP hD hS 0 rfl rfl 0 (by decide) (hts (.fieldLink RX0 9 "PunchedTicket$Line" "people" "I") (List.mem_of_getElem? (i := 1) rfl)) (fun _ h9 => h9) rfl (by decide +kernel) rfl rfl (Nat.le_of_ble_eq_true rfl) dX0_read_2 (fun H locs hP hD hS => ?_)
  have hP : va_P D vwCl [(h0, .inr (0, [.int 0, .int ltk, .ref lho, .ref lli, .ref lki, .ref lfd, .ref lfr, .ref lto, .ref lse, .ref lhl]))] H := hP
  have hD : va_D A [(h0, .inr (0, [.int 0, .int ltk, .ref lho, .ref lli, .ref lki, .ref lfd, .ref lfr, .ref lto, .ref lse, .ref lhl]))] := hD
  refine lv_aload_n hx hb dX0_read_5 rfl (lv_at hl 0 rfl) ?_
  refine lv_iconst (v := 0) hx hb dX0_read_6 (by decide) ?_
  refine va_put (D := D) (ci := 0) (v := .int 0) (ty := .int) (C := RX0) (T := TX0) (N := 10) hx hb hts iX0 tyX0 tyX0_ok nmX0 hown hK hP hD hS 0 rfl rfl 1 (by decide) (hts (.fieldLink RX0 15 "PunchedTicket$Line" "tickets" "I") (List.mem_of_getElem? (i := 2) rfl)) (fun _ h9 => h9) rfl (by decide +kernel) rfl rfl (Nat.le_of_ble_eq_true rfl) dX0_read_7 (fun H locs hP hD hS => ?_)
  have hP : va_P D vwCl [(h0, .inr (0, [.int 0, .int 0, .ref lho, .ref lli, .ref lki, .ref lfd, .ref lfr, .ref lto, .ref lse, .ref lhl]))] H := hP
  have hD : va_D A [(h0, .inr (0, [.int 0, .int 0, .ref lho, .ref lli, .ref lki, .ref lfd, .ref lfr, .ref lto, .ref lse, .ref lhl]))] := hD
  refine lv_iload_n hx hb dX0_read_10 rfl (lv_at hl 2 rfl) ?_
  refine lv_iconst (v := 1) hx hb dX0_read_11 (by decide) ?_
  refine lv_icmp_lt (tgt := 29) hx hb dX0_read_12 (by decide) (fun c_1 => ?_) (fun c_1 => ?_)
  · have tc_1 := b_lt (show (0 : Int32).toInt = 0 by decide) (show (1 : Int32).toInt = 1 by decide) c_1
    refine lv_iconst (v := 0) hx hb dX0_read_29 (by decide) ?_
    exact ret_i (post := (fun (r : Int32) (u : Unit) => r.toInt = 0)) (W1 := (fun u => [(h0, .inr (0, [.int 0, .int 0, .ref lho, .ref lli, .ref lki, .ref lfd, .ref lfr, .ref lto, .ref lse, .ref lhl]))])) () hx hb hr hlocks rfl hQ hK hP hD hS ⟨by decide, by decide⟩ dX0_read_30 (show (0 : Int) = 0 by omega)
  · have tc_1 := b_nlt (show (0 : Int32).toInt = 0 by decide) (show (1 : Int32).toInt = 1 by decide) c_1
    exfalso; omega

set_option maxHeartbeats 600000 in
set_option maxRecDepth 100000 in
theorem c_X3_fault0 (l : Launch) (D : va_G) (cI cZ cM : ClassId) (h0 : Nat) (tx : Nat) (td : Nat) (dr : Nat) (nw : Nat) (ac : Nat) (fa : Int32) (an : Int32) (kp : Nat) (ks : Int32) (sp : Nat) (ss : Nat) (sy : Nat) (sc : Int32) (sd : Int64) (tr : Nat) (ia : Nat) (lpe : Int32) (ltk : Int32) (lho : Nat) (lli : Nat) (lki : Nat) (lfd : Nat) (lfr : Nat) (lto : Nat) (lse : Nat) (lhl : Nat) (sz : Nat)  : Ci l yX3_fault wsX3_fault ({ frames := 1, cells := 0, slots := 0, locals := 25 } : Room) D cI cZ cM [.ref h0] [(h0, .inr (3, [.ref tx, .int 0, .ref td, .ref dr, .ref nw, .ref ac, .int fa, .int an, .ref kp, .int ks, .ref sp, .ref ss, .ref sy, .int sc, .long sd, .ref tr, .ref ia])), (dr, .inr (0, [.int lpe, .int ltk, .ref lho, .ref lli, .ref lki, .ref lfd, .ref lfr, .ref lto, .ref lse, .ref lhl]))] sz (fun (r : Int32) (u : Unit) => r.toInt = 0) (fun u => [(h0, .inr (3, [.ref tx, .int 0, .ref td, .ref dr, .ref nw, .ref ac, .int fa, .int an, .ref kp, .int ks, .ref sp, .ref ss, .ref sy, .int sc, .long sd, .ref tr, .ref ia])), (dr, .inr (0, [.int 0, .int 0, .ref lho, .ref lli, .ref lki, .ref lfd, .ref lfr, .ref lto, .ref lse, .ref lhl]))]) 0 0 := by
  refine begins (l := l) (y := yX3_fault) (ws := wsX3_fault) (av := [.ref h0]) (Qc := fun A => va_Qi (fun (r : Int32) (u : Unit) => r.toInt = 0) (fun u => Wd D cI cZ cM A ((fun u => [(h0, .inr (3, [.ref tx, .int 0, .ref td, .ref dr, .ref nw, .ref ac, .int fa, .int an, .ref kp, .int ks, .ref sp, .ref ss, .ref sy, .int sc, .long sd, .ref tr, .ref ia])), (dr, .inr (0, [.int 0, .int 0, .ref lho, .ref lli, .ref lki, .ref lfd, .ref lfr, .ref lto, .ref lse, .ref lhl]))]) u)) A) cX3_fault 1 (some .int) (by decide) rfl (Nat.le_of_ble_eq_true rfl) ?_
  intro p e s m args below meth c R Q A ls hBd hR hQ hA hS hK hP hD hl
  obtain ⟨hx, hb, hr, hts, hown, hlocks, hin, hml⟩ := hBd
  have hl : lv_has ls 1 [(0, .ref h0)] := hl
  have iX3 : ∀ w ∈ wsX30, w ∈ wsX3_fault := fun _ h => List.mem_cons_of_mem _ (List.mem_append_left _ (List.mem_append_right _ h))
  have iX0 : ∀ w ∈ wsX00, w ∈ wsX3_fault := fun _ h => List.mem_cons_of_mem _ (List.mem_append_right _ h)
  refine lv_aload_n hx hb dX3_fault_0 rfl (lv_at hl 0 rfl) ?_
  refine va_get (D := D) (ci := 3) (v := .ref dr) (C := RX3) (T := TX3) (N := 17) hx hb hts iX3 hown hK hP 0 rfl rfl 3 (by decide) (hts (.fieldLink RX3 24 "PunchedTicket" "draft" "LPunchedTicket$Line;") (List.mem_of_getElem? (i := 1) rfl)) (fun _ h9 => h9) rfl dX3_fault_1 ?_
  refine lv_aload_n hx hb dX3_fault_4 rfl (lv_at hl 0 rfl) ?_
  refine va_get (D := D) (ci := 3) (v := .ref tx) (C := RX3) (T := TX3) (N := 17) hx hb hts iX3 hown hK hP 0 rfl rfl 0 (by decide) (hts (.fieldLink RX3 9 "PunchedTicket" "text" "[I") (List.mem_of_getElem? (i := 2) rfl)) (fun _ h9 => h9) rfl dX3_fault_5 ?_
  refine lv_aload_n hx hb dX3_fault_8 rfl (lv_at hl 0 rfl) ?_
  refine va_get (D := D) (ci := 3) (v := .int 0) (C := RX3) (T := TX3) (N := 17) hx hb hts iX3 hown hK hP 0 rfl rfl 1 (by decide) (hts (.fieldLink RX3 13 "PunchedTicket" "letters" "I") (List.mem_of_getElem? (i := 3) rfl)) (fun _ h9 => h9) rfl dX3_fault_9 ?_
  refine cV_i (As := [.ref tx, .int 0]) (rest := []) ⟨hx, hb, hml, hown, hts⟩ (c_X0_read0 l D cI cZ cM dr tx lpe ltk lho lli lki lfd lfr lto lse lhl _ ) (cwV 2 hts gX3_fault_X0_read rfl rfl rfl (by decide +kernel) ⟨by rw [hR]; decide, by rw [hR]; decide⟩) hK hP hD hS hA [1] [0] rfl rfl (by decide) (by decide) (by decide) rfl 1 rfl hl.1 rfl rfl (Nat.le_of_ble_eq_true rfl) dX3_fault_12 ⟨by rw [hR]; decide, by rw [hR]; decide⟩ (fun r_1 u_2 H locs hw hP hD hS => ?_)
  have hP : va_P D vwCl [(h0, .inr (3, [.ref tx, .int 0, .ref td, .ref dr, .ref nw, .ref ac, .int fa, .int an, .ref kp, .int ks, .ref sp, .ref ss, .ref sy, .int sc, .long sd, .ref tr, .ref ia])), (dr, .inr (0, [.int 0, .int 0, .ref lho, .ref lli, .ref lki, .ref lfd, .ref lfr, .ref lto, .ref lse, .ref lhl]))] H := hP.sub [0, 1] rfl
  have hD : va_D A [(h0, .inr (3, [.ref tx, .int 0, .ref td, .ref dr, .ref nw, .ref ac, .int fa, .int an, .ref kp, .int ks, .ref sp, .ref ss, .ref sy, .int sc, .long sd, .ref tr, .ref ia])), (dr, .inr (0, [.int 0, .int 0, .ref lho, .ref lli, .ref lki, .ref lfd, .ref lfr, .ref lto, .ref lse, .ref lhl]))] := hD.sub [0, 1] (by decide) rfl
  refine W.widen (k := 0) (n := 0) (Nat.le_refl _) (Nat.le_refl _) ?_
  have hw : r_1.toInt = 0 := hw
  have hw_3 := hw
  exact ret_i (post := (fun (r : Int32) (u : Unit) => r.toInt = 0)) (W1 := (fun u => [(h0, .inr (3, [.ref tx, .int 0, .ref td, .ref dr, .ref nw, .ref ac, .int fa, .int an, .ref kp, .int ks, .ref sp, .ref ss, .ref sy, .int sc, .long sd, .ref tr, .ref ia])), (dr, .inr (0, [.int 0, .int 0, .ref lho, .ref lli, .ref lki, .ref lfd, .ref lfr, .ref lto, .ref lse, .ref lhl]))])) () hx hb hr hlocks rfl hQ hK hP hD hS ⟨by decide, by decide⟩ dX3_fault_15 (show r_1.toInt = 0 by omega)

set_option maxHeartbeats 600000 in
set_option maxRecDepth 100000 in
theorem c_X3_line0 (l : Launch) (D : va_G) (cI cZ cM : ClassId) (h0 : Nat) (tx : Nat) (td : Nat) (dr : Nat) (nw : Nat) (ac : Nat) (fa : Int32) (an : Int32) (kp : Nat) (ks : Int32) (sp : Nat) (ss : Nat) (sy : Nat) (sc : Int32) (sd : Int64) (tr : Nat) (ia : Nat) (lpe : Int32) (ltk : Int32) (lho : Nat) (lli : Nat) (lki : Nat) (lfd : Nat) (lfr : Nat) (lto : Nat) (lse : Nat) (lhl : Nat) (sz : Nat)  : Ci l yX3_line wsX3_line ({ frames := 1, cells := 0, slots := 0, locals := 25 } : Room) D cI cZ cM [.ref h0] [(h0, .inr (3, [.ref tx, .int 0, .ref td, .ref dr, .ref nw, .ref ac, .int fa, .int an, .ref kp, .int ks, .ref sp, .ref ss, .ref sy, .int sc, .long sd, .ref tr, .ref ia])), (dr, .inr (0, [.int lpe, .int ltk, .ref lho, .ref lli, .ref lki, .ref lfd, .ref lfr, .ref lto, .ref lse, .ref lhl]))] sz (fun (r : Int32) (u : Unit) => r.toInt = -3) (fun u => [(h0, .inr (3, [.ref tx, .int 0, .ref td, .ref dr, .ref nw, .ref ac, .int fa, .int an, .ref kp, .int ks, .ref sp, .ref ss, .ref sy, .int sc, .long sd, .ref tr, .ref ia])), (dr, .inr (0, [.int 0, .int 0, .ref lho, .ref lli, .ref lki, .ref lfd, .ref lfr, .ref lto, .ref lse, .ref lhl]))]) 0 0 := by
  refine begins (l := l) (y := yX3_line) (ws := wsX3_line) (av := [.ref h0]) (Qc := fun A => va_Qi (fun (r : Int32) (u : Unit) => r.toInt = -3) (fun u => Wd D cI cZ cM A ((fun u => [(h0, .inr (3, [.ref tx, .int 0, .ref td, .ref dr, .ref nw, .ref ac, .int fa, .int an, .ref kp, .int ks, .ref sp, .ref ss, .ref sy, .int sc, .long sd, .ref tr, .ref ia])), (dr, .inr (0, [.int 0, .int 0, .ref lho, .ref lli, .ref lki, .ref lfd, .ref lfr, .ref lto, .ref lse, .ref lhl]))]) u)) A) cX3_line 1 (some .int) (by decide) rfl (Nat.le_of_ble_eq_true rfl) ?_
  intro p e s m args below meth c R Q A ls hBd hR hQ hA hS hK hP hD hl
  obtain ⟨hx, hb, hr, hts, hown, hlocks, hin, hml⟩ := hBd
  have hl : lv_has ls 1 [(0, .ref h0)] := hl
  have iX3 : ∀ w ∈ wsX30, w ∈ wsX3_line := fun _ h => List.mem_cons_of_mem _ (List.mem_append_left _ (List.mem_append_left _ (List.mem_append_right _ h)))
  have iX0 : ∀ w ∈ wsX00, w ∈ wsX3_line := fun _ h => List.mem_cons_of_mem _ (List.mem_append_left _ (List.mem_append_right _ h))
  have iX1 : ∀ w ∈ wsX10, w ∈ wsX3_line := fun _ h => List.mem_cons_of_mem _ (List.mem_append_right _ h)
  refine lv_aload_n hx hb dX3_line_0 rfl (lv_at hl 0 rfl) ?_
  refine va_get (D := D) (ci := 3) (v := .ref dr) (C := RX3) (T := TX3) (N := 17) hx hb hts iX3 hown hK hP 0 rfl rfl 3 (by decide) (hts (.fieldLink RX3 24 "PunchedTicket" "draft" "LPunchedTicket$Line;") (List.mem_of_getElem? (i := 1) rfl)) (fun _ h9 => h9) rfl dX3_line_1 ?_
  refine lv_aload_n hx hb dX3_line_4 rfl (lv_at hl 0 rfl) ?_
  refine va_get (D := D) (ci := 3) (v := .ref tx) (C := RX3) (T := TX3) (N := 17) hx hb hts iX3 hown hK hP 0 rfl rfl 0 (by decide) (hts (.fieldLink RX3 9 "PunchedTicket" "text" "[I") (List.mem_of_getElem? (i := 2) rfl)) (fun _ h9 => h9) rfl dX3_line_5 ?_
  refine lv_aload_n hx hb dX3_line_8 rfl (lv_at hl 0 rfl) ?_
  refine va_get (D := D) (ci := 3) (v := .int 0) (C := RX3) (T := TX3) (N := 17) hx hb hts iX3 hown hK hP 0 rfl rfl 1 (by decide) (hts (.fieldLink RX3 13 "PunchedTicket" "letters" "I") (List.mem_of_getElem? (i := 3) rfl)) (fun _ h9 => h9) rfl dX3_line_9 ?_
  refine cV_i (As := [.ref tx, .int 0]) (rest := []) ⟨hx, hb, hml, hown, hts⟩ (c_X0_read0 l D cI cZ cM dr tx lpe ltk lho lli lki lfd lfr lto lse lhl _ ) (cwV 2 hts gX3_line_X0_read rfl rfl rfl (by decide +kernel) ⟨by rw [hR]; decide, by rw [hR]; decide⟩) hK hP hD hS hA [1] [0] rfl rfl (by decide) (by decide) (by decide) rfl 1 rfl hl.1 rfl rfl (Nat.le_of_ble_eq_true rfl) dX3_line_12 ⟨by rw [hR]; decide, by rw [hR]; decide⟩ (fun r_1 u_2 H locs hw hP hD hS => ?_)
  have hP : va_P D vwCl [(h0, .inr (3, [.ref tx, .int 0, .ref td, .ref dr, .ref nw, .ref ac, .int fa, .int an, .ref kp, .int ks, .ref sp, .ref ss, .ref sy, .int sc, .long sd, .ref tr, .ref ia])), (dr, .inr (0, [.int 0, .int 0, .ref lho, .ref lli, .ref lki, .ref lfd, .ref lfr, .ref lto, .ref lse, .ref lhl]))] H := hP.sub [0, 1] rfl
  have hD : va_D A [(h0, .inr (3, [.ref tx, .int 0, .ref td, .ref dr, .ref nw, .ref ac, .int fa, .int an, .ref kp, .int ks, .ref sp, .ref ss, .ref sy, .int sc, .long sd, .ref tr, .ref ia])), (dr, .inr (0, [.int 0, .int 0, .ref lho, .ref lli, .ref lki, .ref lfd, .ref lfr, .ref lto, .ref lse, .ref lhl]))] := hD.sub [0, 1] (by decide) rfl
  refine W.widen (k := 0) (n := 0) (Nat.le_refl _) (Nat.le_refl _) ?_
  have hw : r_1.toInt = 0 := hw
  have hw_3 := hw
  refine lv_bipush (v := (-9)) hx hb dX3_line_15 (by decide) ?_
  refine lv_icmp_eq (tgt := 23) hx hb dX3_line_17 (by decide) (fun c_4 => ?_) (fun c_4 => ?_)
  · have tc_4 := b_eq rfl (show ((-9) : Int32).toInt = -9 by decide) c_4
    exfalso; omega
  · have tc_4 := b_ne rfl (show ((-9) : Int32).toInt = -9 by decide) c_4
    refine lv_bipush (v := (-3)) hx hb dX3_line_20 (by decide) ?_
    exact ret_i (post := (fun (r : Int32) (u : Unit) => r.toInt = -3)) (W1 := (fun u => [(h0, .inr (3, [.ref tx, .int 0, .ref td, .ref dr, .ref nw, .ref ac, .int fa, .int an, .ref kp, .int ks, .ref sp, .ref ss, .ref sy, .int sc, .long sd, .ref tr, .ref ia])), (dr, .inr (0, [.int 0, .int 0, .ref lho, .ref lli, .ref lki, .ref lfd, .ref lfr, .ref lto, .ref lse, .ref lhl]))])) () hx hb hr hlocks rfl hQ hK hP hD hS ⟨by decide, by decide⟩ dX3_line_22 (show (-3 : Int) = -3 by omega)

set_option maxHeartbeats 600000 in
set_option maxRecDepth 100000 in
theorem c_X3_person0 (l : Launch) (D : va_G) (cI cZ cM : ClassId) (h0 : Nat) (n : Int32) (k : Int32) (tx : Nat) (le : Int32) (td : Nat) (dr : Nat) (nw : Nat) (ac : Nat) (fa : Int32) (an : Int32) (kp : Nat) (ks : Int32) (sp : Nat) (ss : Nat) (sy : Nat) (sc : Int32) (sd : Int64) (tr : Nat) (ia : Nat) (ltk : Int32) (lho : Nat) (lli : Nat) (lki : Nat) (lfd : Nat) (lfr : Nat) (lto : Nat) (lse : Nat) (lhl : Nat) (sz : Nat)  : Ci l yX3_person wsX3_person ({ frames := 1, cells := 0, slots := 0, locals := 21 } : Room) D cI cZ cM [.ref h0, .int n, .int k] [(h0, .inr (3, [.ref tx, .int le, .ref td, .ref dr, .ref nw, .ref ac, .int fa, .int an, .ref kp, .int ks, .ref sp, .ref ss, .ref sy, .int sc, .long sd, .ref tr, .ref ia])), (td, .inr (0, [.int 0, .int ltk, .ref lho, .ref lli, .ref lki, .ref lfd, .ref lfr, .ref lto, .ref lse, .ref lhl]))] sz (fun (r : Int32) (u : Unit) => r.toInt = -1) (fun u => [(h0, .inr (3, [.ref tx, .int le, .ref td, .ref dr, .ref nw, .ref ac, .int fa, .int an, .ref kp, .int ks, .ref sp, .ref ss, .ref sy, .int sc, .long sd, .ref tr, .ref ia])), (td, .inr (0, [.int 0, .int ltk, .ref lho, .ref lli, .ref lki, .ref lfd, .ref lfr, .ref lto, .ref lse, .ref lhl]))]) 0 0 := by
  refine begins (l := l) (y := yX3_person) (ws := wsX3_person) (av := [.ref h0, .int n, .int k]) (Qc := fun A => va_Qi (fun (r : Int32) (u : Unit) => r.toInt = -1) (fun u => Wd D cI cZ cM A ((fun u => [(h0, .inr (3, [.ref tx, .int le, .ref td, .ref dr, .ref nw, .ref ac, .int fa, .int an, .ref kp, .int ks, .ref sp, .ref ss, .ref sy, .int sc, .long sd, .ref tr, .ref ia])), (td, .inr (0, [.int 0, .int ltk, .ref lho, .ref lli, .ref lki, .ref lfd, .ref lfr, .ref lto, .ref lse, .ref lhl]))]) u)) A) cX3_person 3 (some .int) (by decide) rfl (Nat.le_of_ble_eq_true rfl) ?_
  intro p e s m args below meth c R Q A ls hBd hR hQ hA hS hK hP hD hl
  obtain ⟨hx, hb, hr, hts, hown, hlocks, hin, hml⟩ := hBd
  have hl : lv_has ls 3 [(0, .ref h0), (1, .int n), (2, .int k)] := hl
  have iX3 : ∀ w ∈ wsX30, w ∈ wsX3_person := fun _ h => List.mem_cons_of_mem _ (List.mem_append_left _ (List.mem_append_left _ (List.mem_append_left _ (List.mem_append_right _ h))))
  have iX1 : ∀ w ∈ wsX10, w ∈ wsX3_person := fun _ h => List.mem_cons_of_mem _ (List.mem_append_left _ (List.mem_append_left _ (List.mem_append_right _ h)))
  have iX0 : ∀ w ∈ wsX00, w ∈ wsX3_person := fun _ h => List.mem_cons_of_mem _ (List.mem_append_left _ (List.mem_append_right _ h))
  have iX2 : ∀ w ∈ wsX20, w ∈ wsX3_person := fun _ h => List.mem_cons_of_mem _ (List.mem_append_right _ h)
  refine lv_aload_n hx hb dX3_person_0 rfl (lv_at hl 0 rfl) ?_
  refine va_get (D := D) (ci := 3) (v := .ref td) (C := RX3) (T := TX3) (N := 17) hx hb hts iX3 hown hK hP 0 rfl rfl 2 (by decide) (hts (.fieldLink RX3 20 "PunchedTicket" "told" "LPunchedTicket$Line;") (List.mem_of_getElem? (i := 1) rfl)) (fun _ h9 => h9) rfl dX3_person_1 ?_
  refine lv_iload_n hx hb dX3_person_4 rfl (lv_at hl 1 rfl) ?_
  refine cV_i (As := [.int n]) (rest := []) ⟨hx, hb, hml, hown, hts⟩ (c_X0_hasPerson l D cI cZ cM td n 0 ltk lho lli lki lfd lfr lto lse lhl _ ) (cwV 1 hts gX3_person_X0_hasPerson rfl rfl rfl (by decide +kernel) ⟨by rw [hR]; decide, by rw [hR]; decide⟩) hK hP hD hS hA [1] [0] rfl rfl (by decide) (by decide) (by decide) rfl 1 rfl hl.1 rfl rfl (Nat.le_of_ble_eq_true rfl) dX3_person_5 ⟨by rw [hR]; decide, by rw [hR]; decide⟩ (fun r_1 u_2 H locs hw hP hD hS => ?_)
  have hP : va_P D vwCl [(h0, .inr (3, [.ref tx, .int le, .ref td, .ref dr, .ref nw, .ref ac, .int fa, .int an, .ref kp, .int ks, .ref sp, .ref ss, .ref sy, .int sc, .long sd, .ref tr, .ref ia])), (td, .inr (0, [.int 0, .int ltk, .ref lho, .ref lli, .ref lki, .ref lfd, .ref lfr, .ref lto, .ref lse, .ref lhl]))] H := hP.sub [0, 1] rfl
  have hD : va_D A [(h0, .inr (3, [.ref tx, .int le, .ref td, .ref dr, .ref nw, .ref ac, .int fa, .int an, .ref kp, .int ks, .ref sp, .ref ss, .ref sy, .int sc, .long sd, .ref tr, .ref ia])), (td, .inr (0, [.int 0, .int ltk, .ref lho, .ref lli, .ref lki, .ref lfd, .ref lfr, .ref lto, .ref lse, .ref lhl]))] := hD.sub [0, 1] (by decide) rfl
  refine W.widen (k := 0) (n := 0) (Nat.le_refl _) (Nat.le_refl _) ?_
  have hw : (r_1.toInt = 1 ∧ 0 ≤ n.toInt ∧ n.toInt < (0 : Int)) ∨ (r_1.toInt = 0 ∧ (n.toInt < 0 ∨ (0 : Int) ≤ n.toInt)) := hw
  have hw_3 := hw
  refine lv_if_ne (tgt := 13) hx hb dX3_person_8 (by decide) (fun c_4 => ?_) (fun c_4 => ?_)
  · have tc_4 := b_ne rfl (show (0 : Int32).toInt = 0 by decide) c_4
    exfalso; omega
  · have tc_4 := b_eq rfl (show (0 : Int32).toInt = 0 by decide) c_4
    refine lv_iconst (v := (-1)) hx hb dX3_person_11 (by decide) ?_
    exact ret_i (post := (fun (r : Int32) (u : Unit) => r.toInt = -1)) (W1 := (fun u => [(h0, .inr (3, [.ref tx, .int le, .ref td, .ref dr, .ref nw, .ref ac, .int fa, .int an, .ref kp, .int ks, .ref sp, .ref ss, .ref sy, .int sc, .long sd, .ref tr, .ref ia])), (td, .inr (0, [.int 0, .int ltk, .ref lho, .ref lli, .ref lki, .ref lfd, .ref lfr, .ref lto, .ref lse, .ref lhl]))])) () hx hb hr hlocks rfl hQ hK hP hD hS ⟨by decide, by decide⟩ dX3_person_12 (show (-1 : Int) = -1 by omega)

set_option maxHeartbeats 600000 in
set_option maxRecDepth 100000 in
theorem c_X3_where0 (l : Launch) (D : va_G) (cI cZ cM : ClassId) (h0 : Nat) (n : Int32) (k : Int32) (tx : Nat) (le : Int32) (td : Nat) (dr : Nat) (nw : Nat) (ac : Nat) (fa : Int32) (an : Int32) (kp : Nat) (ks : Int32) (sp : Nat) (ss : Nat) (sy : Nat) (sc : Int32) (sd : Int64) (tr : Nat) (ia : Nat) (ltk : Int32) (lho : Nat) (lli : Nat) (lki : Nat) (lfd : Nat) (lfr : Nat) (lto : Nat) (lse : Nat) (lhl : Nat) (sz : Nat)  : Ci l yX3_where wsX3_where ({ frames := 1, cells := 0, slots := 0, locals := 21 } : Room) D cI cZ cM [.ref h0, .int n, .int k] [(h0, .inr (3, [.ref tx, .int le, .ref td, .ref dr, .ref nw, .ref ac, .int fa, .int an, .ref kp, .int ks, .ref sp, .ref ss, .ref sy, .int sc, .long sd, .ref tr, .ref ia])), (td, .inr (0, [.int 0, .int ltk, .ref lho, .ref lli, .ref lki, .ref lfd, .ref lfr, .ref lto, .ref lse, .ref lhl]))] sz (fun (r : Int32) (u : Unit) => r.toInt = -1) (fun u => [(h0, .inr (3, [.ref tx, .int le, .ref td, .ref dr, .ref nw, .ref ac, .int fa, .int an, .ref kp, .int ks, .ref sp, .ref ss, .ref sy, .int sc, .long sd, .ref tr, .ref ia])), (td, .inr (0, [.int 0, .int ltk, .ref lho, .ref lli, .ref lki, .ref lfd, .ref lfr, .ref lto, .ref lse, .ref lhl]))]) 0 0 := by
  refine begins (l := l) (y := yX3_where) (ws := wsX3_where) (av := [.ref h0, .int n, .int k]) (Qc := fun A => va_Qi (fun (r : Int32) (u : Unit) => r.toInt = -1) (fun u => Wd D cI cZ cM A ((fun u => [(h0, .inr (3, [.ref tx, .int le, .ref td, .ref dr, .ref nw, .ref ac, .int fa, .int an, .ref kp, .int ks, .ref sp, .ref ss, .ref sy, .int sc, .long sd, .ref tr, .ref ia])), (td, .inr (0, [.int 0, .int ltk, .ref lho, .ref lli, .ref lki, .ref lfd, .ref lfr, .ref lto, .ref lse, .ref lhl]))]) u)) A) cX3_where 3 (some .int) (by decide) rfl (Nat.le_of_ble_eq_true rfl) ?_
  intro p e s m args below meth c R Q A ls hBd hR hQ hA hS hK hP hD hl
  obtain ⟨hx, hb, hr, hts, hown, hlocks, hin, hml⟩ := hBd
  have hl : lv_has ls 3 [(0, .ref h0), (1, .int n), (2, .int k)] := hl
  have iX3 : ∀ w ∈ wsX30, w ∈ wsX3_where := fun _ h => List.mem_cons_of_mem _ (List.mem_append_left _ (List.mem_append_left _ (List.mem_append_left _ (List.mem_append_right _ h))))
  have iX1 : ∀ w ∈ wsX10, w ∈ wsX3_where := fun _ h => List.mem_cons_of_mem _ (List.mem_append_left _ (List.mem_append_left _ (List.mem_append_right _ h)))
  have iX2 : ∀ w ∈ wsX20, w ∈ wsX3_where := fun _ h => List.mem_cons_of_mem _ (List.mem_append_left _ (List.mem_append_right _ h))
  have iX0 : ∀ w ∈ wsX00, w ∈ wsX3_where := fun _ h => List.mem_cons_of_mem _ (List.mem_append_right _ h)
  refine lv_aload_n hx hb dX3_where_0 rfl (lv_at hl 0 rfl) ?_
  refine va_get (D := D) (ci := 3) (v := .ref td) (C := RX3) (T := TX3) (N := 17) hx hb hts iX3 hown hK hP 0 rfl rfl 2 (by decide) (hts (.fieldLink RX3 20 "PunchedTicket" "told" "LPunchedTicket$Line;") (List.mem_of_getElem? (i := 1) rfl)) (fun _ h9 => h9) rfl dX3_where_1 ?_
  refine lv_iload_n hx hb dX3_where_4 rfl (lv_at hl 1 rfl) ?_
  refine cV_i (As := [.int n]) (rest := []) ⟨hx, hb, hml, hown, hts⟩ (c_X0_hasPerson l D cI cZ cM td n 0 ltk lho lli lki lfd lfr lto lse lhl _ ) (cwV 1 hts gX3_where_X0_hasPerson rfl rfl rfl (by decide +kernel) ⟨by rw [hR]; decide, by rw [hR]; decide⟩) hK hP hD hS hA [1] [0] rfl rfl (by decide) (by decide) (by decide) rfl 1 rfl hl.1 rfl rfl (Nat.le_of_ble_eq_true rfl) dX3_where_5 ⟨by rw [hR]; decide, by rw [hR]; decide⟩ (fun r_1 u_2 H locs hw hP hD hS => ?_)
  have hP : va_P D vwCl [(h0, .inr (3, [.ref tx, .int le, .ref td, .ref dr, .ref nw, .ref ac, .int fa, .int an, .ref kp, .int ks, .ref sp, .ref ss, .ref sy, .int sc, .long sd, .ref tr, .ref ia])), (td, .inr (0, [.int 0, .int ltk, .ref lho, .ref lli, .ref lki, .ref lfd, .ref lfr, .ref lto, .ref lse, .ref lhl]))] H := hP.sub [0, 1] rfl
  have hD : va_D A [(h0, .inr (3, [.ref tx, .int le, .ref td, .ref dr, .ref nw, .ref ac, .int fa, .int an, .ref kp, .int ks, .ref sp, .ref ss, .ref sy, .int sc, .long sd, .ref tr, .ref ia])), (td, .inr (0, [.int 0, .int ltk, .ref lho, .ref lli, .ref lki, .ref lfd, .ref lfr, .ref lto, .ref lse, .ref lhl]))] := hD.sub [0, 1] (by decide) rfl
  refine W.widen (k := 0) (n := 0) (Nat.le_refl _) (Nat.le_refl _) ?_
  have hw : (r_1.toInt = 1 ∧ 0 ≤ n.toInt ∧ n.toInt < (0 : Int)) ∨ (r_1.toInt = 0 ∧ (n.toInt < 0 ∨ (0 : Int) ≤ n.toInt)) := hw
  have hw_3 := hw
  refine lv_if_ne (tgt := 13) hx hb dX3_where_8 (by decide) (fun c_4 => ?_) (fun c_4 => ?_)
  · have tc_4 := b_ne rfl (show (0 : Int32).toInt = 0 by decide) c_4
    exfalso; omega
  · have tc_4 := b_eq rfl (show (0 : Int32).toInt = 0 by decide) c_4
    refine lv_iconst (v := (-1)) hx hb dX3_where_11 (by decide) ?_
    exact ret_i (post := (fun (r : Int32) (u : Unit) => r.toInt = -1)) (W1 := (fun u => [(h0, .inr (3, [.ref tx, .int le, .ref td, .ref dr, .ref nw, .ref ac, .int fa, .int an, .ref kp, .int ks, .ref sp, .ref ss, .ref sy, .int sc, .long sd, .ref tr, .ref ia])), (td, .inr (0, [.int 0, .int ltk, .ref lho, .ref lli, .ref lki, .ref lfd, .ref lfr, .ref lto, .ref lse, .ref lhl]))])) () hx hb hr hlocks rfl hQ hK hP hD hS ⟨by decide, by decide⟩ dX3_where_12 (show (-1 : Int) = -1 by omega)

set_option maxHeartbeats 600000 in
set_option maxRecDepth 100000 in
theorem c_X3_blank0 (l : Launch) (D : va_G) (cI cZ cM : ClassId) (h0 : Nat) (n : Int32) (k : Int32) (tx : Nat) (le : Int32) (td : Nat) (dr : Nat) (nw : Nat) (ac : Nat) (fa : Int32) (an : Int32) (kp : Nat) (ks : Int32) (sp : Nat) (ss : Nat) (sy : Nat) (sc : Int32) (sd : Int64) (tr : Nat) (ia : Nat) (ltk : Int32) (lho : Nat) (lli : Nat) (lki : Nat) (lfd : Nat) (lfr : Nat) (lto : Nat) (lse : Nat) (lhl : Nat) (sz : Nat)  : Ci l yX3_blank wsX3_blank ({ frames := 1, cells := 0, slots := 0, locals := 21 } : Room) D cI cZ cM [.ref h0, .int n, .int k] [(h0, .inr (3, [.ref tx, .int le, .ref td, .ref dr, .ref nw, .ref ac, .int fa, .int an, .ref kp, .int ks, .ref sp, .ref ss, .ref sy, .int sc, .long sd, .ref tr, .ref ia])), (td, .inr (0, [.int 0, .int ltk, .ref lho, .ref lli, .ref lki, .ref lfd, .ref lfr, .ref lto, .ref lse, .ref lhl]))] sz (fun (r : Int32) (u : Unit) => r.toInt = -1) (fun u => [(h0, .inr (3, [.ref tx, .int le, .ref td, .ref dr, .ref nw, .ref ac, .int fa, .int an, .ref kp, .int ks, .ref sp, .ref ss, .ref sy, .int sc, .long sd, .ref tr, .ref ia])), (td, .inr (0, [.int 0, .int ltk, .ref lho, .ref lli, .ref lki, .ref lfd, .ref lfr, .ref lto, .ref lse, .ref lhl]))]) 0 0 := by
  refine begins (l := l) (y := yX3_blank) (ws := wsX3_blank) (av := [.ref h0, .int n, .int k]) (Qc := fun A => va_Qi (fun (r : Int32) (u : Unit) => r.toInt = -1) (fun u => Wd D cI cZ cM A ((fun u => [(h0, .inr (3, [.ref tx, .int le, .ref td, .ref dr, .ref nw, .ref ac, .int fa, .int an, .ref kp, .int ks, .ref sp, .ref ss, .ref sy, .int sc, .long sd, .ref tr, .ref ia])), (td, .inr (0, [.int 0, .int ltk, .ref lho, .ref lli, .ref lki, .ref lfd, .ref lfr, .ref lto, .ref lse, .ref lhl]))]) u)) A) cX3_blank 7 (some .int) (by decide) rfl (Nat.le_of_ble_eq_true rfl) ?_
  intro p e s m args below meth c R Q A ls hBd hR hQ hA hS hK hP hD hl
  obtain ⟨hx, hb, hr, hts, hown, hlocks, hin, hml⟩ := hBd
  have hl : lv_has ls 7 [(0, .ref h0), (1, .int n), (2, .int k)] := hl
  have iX3 : ∀ w ∈ wsX30, w ∈ wsX3_blank := fun _ h => List.mem_cons_of_mem _ (List.mem_append_left _ (List.mem_append_left _ (List.mem_append_left _ (List.mem_append_right _ h))))
  have iX0 : ∀ w ∈ wsX00, w ∈ wsX3_blank := fun _ h => List.mem_cons_of_mem _ (List.mem_append_left _ (List.mem_append_left _ (List.mem_append_right _ h)))
  have iX1 : ∀ w ∈ wsX10, w ∈ wsX3_blank := fun _ h => List.mem_cons_of_mem _ (List.mem_append_left _ (List.mem_append_right _ h))
  have iX2 : ∀ w ∈ wsX20, w ∈ wsX3_blank := fun _ h => List.mem_cons_of_mem _ (List.mem_append_right _ h)
  refine lv_aload_n hx hb dX3_blank_0 rfl (lv_at hl 0 rfl) ?_
  refine va_get (D := D) (ci := 3) (v := .ref td) (C := RX3) (T := TX3) (N := 17) hx hb hts iX3 hown hK hP 0 rfl rfl 2 (by decide) (hts (.fieldLink RX3 20 "PunchedTicket" "told" "LPunchedTicket$Line;") (List.mem_of_getElem? (i := 1) rfl)) (fun _ h9 => h9) rfl dX3_blank_1 ?_
  refine lv_iload_n hx hb dX3_blank_4 rfl (lv_at hl 1 rfl) ?_
  refine cV_i (As := [.int n]) (rest := []) ⟨hx, hb, hml, hown, hts⟩ (c_X0_hasPerson l D cI cZ cM td n 0 ltk lho lli lki lfd lfr lto lse lhl _ ) (cwV 1 hts gX3_blank_X0_hasPerson rfl rfl rfl (by decide +kernel) ⟨by rw [hR]; decide, by rw [hR]; decide⟩) hK hP hD hS hA [1] [0] rfl rfl (by decide) (by decide) (by decide) rfl 1 rfl hl.1 rfl rfl (Nat.le_of_ble_eq_true rfl) dX3_blank_5 ⟨by rw [hR]; decide, by rw [hR]; decide⟩ (fun r_1 u_2 H locs hw hP hD hS => ?_)
  have hP : va_P D vwCl [(h0, .inr (3, [.ref tx, .int le, .ref td, .ref dr, .ref nw, .ref ac, .int fa, .int an, .ref kp, .int ks, .ref sp, .ref ss, .ref sy, .int sc, .long sd, .ref tr, .ref ia])), (td, .inr (0, [.int 0, .int ltk, .ref lho, .ref lli, .ref lki, .ref lfd, .ref lfr, .ref lto, .ref lse, .ref lhl]))] H := hP.sub [0, 1] rfl
  have hD : va_D A [(h0, .inr (3, [.ref tx, .int le, .ref td, .ref dr, .ref nw, .ref ac, .int fa, .int an, .ref kp, .int ks, .ref sp, .ref ss, .ref sy, .int sc, .long sd, .ref tr, .ref ia])), (td, .inr (0, [.int 0, .int ltk, .ref lho, .ref lli, .ref lki, .ref lfd, .ref lfr, .ref lto, .ref lse, .ref lhl]))] := hD.sub [0, 1] (by decide) rfl
  refine W.widen (k := 0) (n := 0) (Nat.le_refl _) (Nat.le_refl _) ?_
  have hw : (r_1.toInt = 1 ∧ 0 ≤ n.toInt ∧ n.toInt < (0 : Int)) ∨ (r_1.toInt = 0 ∧ (n.toInt < 0 ∨ (0 : Int) ≤ n.toInt)) := hw
  have hw_3 := hw
  refine lv_if_ne (tgt := 13) hx hb dX3_blank_8 (by decide) (fun c_4 => ?_) (fun c_4 => ?_)
  · have tc_4 := b_ne rfl (show (0 : Int32).toInt = 0 by decide) c_4
    exfalso; omega
  · have tc_4 := b_eq rfl (show (0 : Int32).toInt = 0 by decide) c_4
    refine lv_iconst (v := (-1)) hx hb dX3_blank_11 (by decide) ?_
    exact ret_i (post := (fun (r : Int32) (u : Unit) => r.toInt = -1)) (W1 := (fun u => [(h0, .inr (3, [.ref tx, .int le, .ref td, .ref dr, .ref nw, .ref ac, .int fa, .int an, .ref kp, .int ks, .ref sp, .ref ss, .ref sy, .int sc, .long sd, .ref tr, .ref ia])), (td, .inr (0, [.int 0, .int ltk, .ref lho, .ref lli, .ref lki, .ref lfd, .ref lfr, .ref lto, .ref lse, .ref lhl]))])) () hx hb hr hlocks rfl hQ hK hP hD hS ⟨by decide, by decide⟩ dX3_blank_12 (show (-1 : Int) = -1 by omega)

set_option maxHeartbeats 600000 in
set_option maxRecDepth 100000 in
theorem c_X3_see0 (l : Launch) (D : va_G) (cI cZ cM : ClassId) (h0 : Nat) (n : Int32) (k : Int32) (j : Int32) (tx : Nat) (le : Int32) (td : Nat) (dr : Nat) (nw : Nat) (ac : Nat) (fa : Int32) (an : Int32) (kp : Nat) (ks : Int32) (sp : Nat) (ss : Nat) (sy : Nat) (sc : Int32) (sd : Int64) (tr : Nat) (ia : Nat) (ltk : Int32) (lho : Nat) (lli : Nat) (lki : Nat) (lfd : Nat) (lfr : Nat) (lto : Nat) (lse : Nat) (lhl : Nat) (sz : Nat)  : Ci l yX3_see wsX3_see ({ frames := 1, cells := 0, slots := 0, locals := 21 } : Room) D cI cZ cM [.ref h0, .int n, .int k, .int j] [(h0, .inr (3, [.ref tx, .int le, .ref td, .ref dr, .ref nw, .ref ac, .int fa, .int an, .ref kp, .int ks, .ref sp, .ref ss, .ref sy, .int sc, .long sd, .ref tr, .ref ia])), (td, .inr (0, [.int 0, .int ltk, .ref lho, .ref lli, .ref lki, .ref lfd, .ref lfr, .ref lto, .ref lse, .ref lhl]))] sz (fun (r : Int32) (u : Unit) => r.toInt = -1) (fun u => [(h0, .inr (3, [.ref tx, .int le, .ref td, .ref dr, .ref nw, .ref ac, .int fa, .int an, .ref kp, .int ks, .ref sp, .ref ss, .ref sy, .int sc, .long sd, .ref tr, .ref ia])), (td, .inr (0, [.int 0, .int ltk, .ref lho, .ref lli, .ref lki, .ref lfd, .ref lfr, .ref lto, .ref lse, .ref lhl]))]) 0 0 := by
  refine begins (l := l) (y := yX3_see) (ws := wsX3_see) (av := [.ref h0, .int n, .int k, .int j]) (Qc := fun A => va_Qi (fun (r : Int32) (u : Unit) => r.toInt = -1) (fun u => Wd D cI cZ cM A ((fun u => [(h0, .inr (3, [.ref tx, .int le, .ref td, .ref dr, .ref nw, .ref ac, .int fa, .int an, .ref kp, .int ks, .ref sp, .ref ss, .ref sy, .int sc, .long sd, .ref tr, .ref ia])), (td, .inr (0, [.int 0, .int ltk, .ref lho, .ref lli, .ref lki, .ref lfd, .ref lfr, .ref lto, .ref lse, .ref lhl]))]) u)) A) cX3_see 4 (some .int) (by decide) rfl (Nat.le_of_ble_eq_true rfl) ?_
  intro p e s m args below meth c R Q A ls hBd hR hQ hA hS hK hP hD hl
  obtain ⟨hx, hb, hr, hts, hown, hlocks, hin, hml⟩ := hBd
  have hl : lv_has ls 4 [(0, .ref h0), (1, .int n), (2, .int k), (3, .int j)] := hl
  have iX3 : ∀ w ∈ wsX30, w ∈ wsX3_see := fun _ h => List.mem_cons_of_mem _ (List.mem_append_left _ (List.mem_append_right _ h))
  have iX0 : ∀ w ∈ wsX00, w ∈ wsX3_see := fun _ h => List.mem_cons_of_mem _ (List.mem_append_right _ h)
  refine lv_aload_n hx hb dX3_see_0 rfl (lv_at hl 0 rfl) ?_
  refine va_get (D := D) (ci := 3) (v := .ref td) (C := RX3) (T := TX3) (N := 17) hx hb hts iX3 hown hK hP 0 rfl rfl 2 (by decide) (hts (.fieldLink RX3 20 "PunchedTicket" "told" "LPunchedTicket$Line;") (List.mem_of_getElem? (i := 1) rfl)) (fun _ h9 => h9) rfl dX3_see_1 ?_
  refine lv_iload_n hx hb dX3_see_4 rfl (lv_at hl 1 rfl) ?_
  refine cV_i (As := [.int n]) (rest := []) ⟨hx, hb, hml, hown, hts⟩ (c_X0_hasPerson l D cI cZ cM td n 0 ltk lho lli lki lfd lfr lto lse lhl _ ) (cwV 1 hts gX3_see_X0_hasPerson rfl rfl rfl (by decide +kernel) ⟨by rw [hR]; decide, by rw [hR]; decide⟩) hK hP hD hS hA [1] [0] rfl rfl (by decide) (by decide) (by decide) rfl 1 rfl hl.1 rfl rfl (Nat.le_of_ble_eq_true rfl) dX3_see_5 ⟨by rw [hR]; decide, by rw [hR]; decide⟩ (fun r_1 u_2 H locs hw hP hD hS => ?_)
  have hP : va_P D vwCl [(h0, .inr (3, [.ref tx, .int le, .ref td, .ref dr, .ref nw, .ref ac, .int fa, .int an, .ref kp, .int ks, .ref sp, .ref ss, .ref sy, .int sc, .long sd, .ref tr, .ref ia])), (td, .inr (0, [.int 0, .int ltk, .ref lho, .ref lli, .ref lki, .ref lfd, .ref lfr, .ref lto, .ref lse, .ref lhl]))] H := hP.sub [0, 1] rfl
  have hD : va_D A [(h0, .inr (3, [.ref tx, .int le, .ref td, .ref dr, .ref nw, .ref ac, .int fa, .int an, .ref kp, .int ks, .ref sp, .ref ss, .ref sy, .int sc, .long sd, .ref tr, .ref ia])), (td, .inr (0, [.int 0, .int ltk, .ref lho, .ref lli, .ref lki, .ref lfd, .ref lfr, .ref lto, .ref lse, .ref lhl]))] := hD.sub [0, 1] (by decide) rfl
  refine W.widen (k := 0) (n := 0) (Nat.le_refl _) (Nat.le_refl _) ?_
  have hw : (r_1.toInt = 1 ∧ 0 ≤ n.toInt ∧ n.toInt < (0 : Int)) ∨ (r_1.toInt = 0 ∧ (n.toInt < 0 ∨ (0 : Int) ≤ n.toInt)) := hw
  have hw_3 := hw
  refine lv_if_ne (tgt := 13) hx hb dX3_see_8 (by decide) (fun c_4 => ?_) (fun c_4 => ?_)
  · have tc_4 := b_ne rfl (show (0 : Int32).toInt = 0 by decide) c_4
    exfalso; omega
  · have tc_4 := b_eq rfl (show (0 : Int32).toInt = 0 by decide) c_4
    refine lv_iconst (v := (-1)) hx hb dX3_see_11 (by decide) ?_
    exact ret_i (post := (fun (r : Int32) (u : Unit) => r.toInt = -1)) (W1 := (fun u => [(h0, .inr (3, [.ref tx, .int le, .ref td, .ref dr, .ref nw, .ref ac, .int fa, .int an, .ref kp, .int ks, .ref sp, .ref ss, .ref sy, .int sc, .long sd, .ref tr, .ref ia])), (td, .inr (0, [.int 0, .int ltk, .ref lho, .ref lli, .ref lki, .ref lfd, .ref lfr, .ref lto, .ref lse, .ref lhl]))])) () hx hb hr hlocks rfl hQ hK hP hD hS ⟨by decide, by decide⟩ dX3_see_12 (show (-1 : Int) = -1 by omega)

set_option maxHeartbeats 600000 in
set_option maxRecDepth 100000 in
theorem c_X3_losses0 (l : Launch) (D : va_G) (cI cZ cM : ClassId) (h0 : Nat) (n : Int32) (k : Int32) (j : Int32) (z : Int32) (tx : Nat) (le : Int32) (td : Nat) (dr : Nat) (nw : Nat) (ac : Nat) (fa : Int32) (an : Int32) (kp : Nat) (ks : Int32) (sp : Nat) (ss : Nat) (sy : Nat) (sc : Int32) (sd : Int64) (tr : Nat) (ia : Nat) (ltk : Int32) (lho : Nat) (lli : Nat) (lki : Nat) (lfd : Nat) (lfr : Nat) (lto : Nat) (lse : Nat) (lhl : Nat) (sz : Nat)  : Ci l yX3_losses wsX3_losses ({ frames := 1, cells := 0, slots := 0, locals := 21 } : Room) D cI cZ cM [.ref h0, .int n, .int k, .int j, .int z] [(h0, .inr (3, [.ref tx, .int le, .ref td, .ref dr, .ref nw, .ref ac, .int fa, .int an, .ref kp, .int ks, .ref sp, .ref ss, .ref sy, .int sc, .long sd, .ref tr, .ref ia])), (td, .inr (0, [.int 0, .int ltk, .ref lho, .ref lli, .ref lki, .ref lfd, .ref lfr, .ref lto, .ref lse, .ref lhl]))] sz (fun (r : Int32) (u : Unit) => r.toInt = -1) (fun u => [(h0, .inr (3, [.ref tx, .int le, .ref td, .ref dr, .ref nw, .ref ac, .int fa, .int an, .ref kp, .int ks, .ref sp, .ref ss, .ref sy, .int sc, .long sd, .ref tr, .ref ia])), (td, .inr (0, [.int 0, .int ltk, .ref lho, .ref lli, .ref lki, .ref lfd, .ref lfr, .ref lto, .ref lse, .ref lhl]))]) 0 0 := by
  refine begins (l := l) (y := yX3_losses) (ws := wsX3_losses) (av := [.ref h0, .int n, .int k, .int j, .int z]) (Qc := fun A => va_Qi (fun (r : Int32) (u : Unit) => r.toInt = -1) (fun u => Wd D cI cZ cM A ((fun u => [(h0, .inr (3, [.ref tx, .int le, .ref td, .ref dr, .ref nw, .ref ac, .int fa, .int an, .ref kp, .int ks, .ref sp, .ref ss, .ref sy, .int sc, .long sd, .ref tr, .ref ia])), (td, .inr (0, [.int 0, .int ltk, .ref lho, .ref lli, .ref lki, .ref lfd, .ref lfr, .ref lto, .ref lse, .ref lhl]))]) u)) A) cX3_losses 11 (some .int) (by decide) rfl (Nat.le_of_ble_eq_true rfl) ?_
  intro p e s m args below meth c R Q A ls hBd hR hQ hA hS hK hP hD hl
  obtain ⟨hx, hb, hr, hts, hown, hlocks, hin, hml⟩ := hBd
  have hl : lv_has ls 11 [(0, .ref h0), (1, .int n), (2, .int k), (3, .int j), (4, .int z)] := hl
  have iX3 : ∀ w ∈ wsX30, w ∈ wsX3_losses := fun _ h => List.mem_cons_of_mem _ (List.mem_append_left _ (List.mem_append_left _ (List.mem_append_left _ (List.mem_append_right _ h))))
  have iX0 : ∀ w ∈ wsX00, w ∈ wsX3_losses := fun _ h => List.mem_cons_of_mem _ (List.mem_append_left _ (List.mem_append_left _ (List.mem_append_right _ h)))
  have iX1 : ∀ w ∈ wsX10, w ∈ wsX3_losses := fun _ h => List.mem_cons_of_mem _ (List.mem_append_left _ (List.mem_append_right _ h))
  have iX2 : ∀ w ∈ wsX20, w ∈ wsX3_losses := fun _ h => List.mem_cons_of_mem _ (List.mem_append_right _ h)
  refine lv_aload_n hx hb dX3_losses_0 rfl (lv_at hl 0 rfl) ?_
  refine va_get (D := D) (ci := 3) (v := .ref td) (C := RX3) (T := TX3) (N := 17) hx hb hts iX3 hown hK hP 0 rfl rfl 2 (by decide) (hts (.fieldLink RX3 20 "PunchedTicket" "told" "LPunchedTicket$Line;") (List.mem_of_getElem? (i := 1) rfl)) (fun _ h9 => h9) rfl dX3_losses_1 ?_
  refine lv_iload_n hx hb dX3_losses_4 rfl (lv_at hl 1 rfl) ?_
  refine cV_i (As := [.int n]) (rest := []) ⟨hx, hb, hml, hown, hts⟩ (c_X0_hasPerson l D cI cZ cM td n 0 ltk lho lli lki lfd lfr lto lse lhl _ ) (cwV 1 hts gX3_losses_X0_hasPerson rfl rfl rfl (by decide +kernel) ⟨by rw [hR]; decide, by rw [hR]; decide⟩) hK hP hD hS hA [1] [0] rfl rfl (by decide) (by decide) (by decide) rfl 1 rfl hl.1 rfl rfl (Nat.le_of_ble_eq_true rfl) dX3_losses_5 ⟨by rw [hR]; decide, by rw [hR]; decide⟩ (fun r_1 u_2 H locs hw hP hD hS => ?_)
  have hP : va_P D vwCl [(h0, .inr (3, [.ref tx, .int le, .ref td, .ref dr, .ref nw, .ref ac, .int fa, .int an, .ref kp, .int ks, .ref sp, .ref ss, .ref sy, .int sc, .long sd, .ref tr, .ref ia])), (td, .inr (0, [.int 0, .int ltk, .ref lho, .ref lli, .ref lki, .ref lfd, .ref lfr, .ref lto, .ref lse, .ref lhl]))] H := hP.sub [0, 1] rfl
  have hD : va_D A [(h0, .inr (3, [.ref tx, .int le, .ref td, .ref dr, .ref nw, .ref ac, .int fa, .int an, .ref kp, .int ks, .ref sp, .ref ss, .ref sy, .int sc, .long sd, .ref tr, .ref ia])), (td, .inr (0, [.int 0, .int ltk, .ref lho, .ref lli, .ref lki, .ref lfd, .ref lfr, .ref lto, .ref lse, .ref lhl]))] := hD.sub [0, 1] (by decide) rfl
  refine W.widen (k := 0) (n := 0) (Nat.le_refl _) (Nat.le_refl _) ?_
  have hw : (r_1.toInt = 1 ∧ 0 ≤ n.toInt ∧ n.toInt < (0 : Int)) ∨ (r_1.toInt = 0 ∧ (n.toInt < 0 ∨ (0 : Int) ≤ n.toInt)) := hw
  have hw_3 := hw
  refine lv_if_ne (tgt := 13) hx hb dX3_losses_8 (by decide) (fun c_4 => ?_) (fun c_4 => ?_)
  · have tc_4 := b_ne rfl (show (0 : Int32).toInt = 0 by decide) c_4
    exfalso; omega
  · have tc_4 := b_eq rfl (show (0 : Int32).toInt = 0 by decide) c_4
    refine lv_iconst (v := (-1)) hx hb dX3_losses_11 (by decide) ?_
    exact ret_i (post := (fun (r : Int32) (u : Unit) => r.toInt = -1)) (W1 := (fun u => [(h0, .inr (3, [.ref tx, .int le, .ref td, .ref dr, .ref nw, .ref ac, .int fa, .int an, .ref kp, .int ks, .ref sp, .ref ss, .ref sy, .int sc, .long sd, .ref tr, .ref ia])), (td, .inr (0, [.int 0, .int ltk, .ref lho, .ref lli, .ref lki, .ref lfd, .ref lfr, .ref lto, .ref lse, .ref lhl]))])) () hx hb hr hlocks rfl hQ hK hP hD hS ⟨by decide, by decide⟩ dX3_losses_12 (show (-1 : Int) = -1 by omega)

set_option maxHeartbeats 600000 in
set_option maxRecDepth 100000 in
theorem c_X3_ticket0 (l : Launch) (D : va_G) (cI cZ cM : ClassId) (h0 : Nat) (n : Int32) (k : Int32) (tx : Nat) (le : Int32) (td : Nat) (dr : Nat) (nw : Nat) (ac : Nat) (fa : Int32) (an : Int32) (kp : Nat) (ks : Int32) (sp : Nat) (ss : Nat) (sy : Nat) (sc : Int32) (sd : Int64) (tr : Nat) (ia : Nat) (ln : Nat) (md : Int32) (mr : Int32) (mg : Int32) (mat : Nat) (mfd : Nat) (mhd : Nat) (sz : Nat)  : Ci l yX3_ticket wsX3_ticket ({ frames := 1, cells := 0, slots := 0, locals := 21 } : Room) D cI cZ cM [.ref h0, .int n, .int k] [(h0, .inr (3, [.ref tx, .int le, .ref td, .ref dr, .ref nw, .ref ac, .int fa, .int an, .ref kp, .int ks, .ref sp, .ref ss, .ref sy, .int sc, .long sd, .ref tr, .ref ia])), (nw, .inr (1, [.ref ln, .int md, .int 0, .int mr, .int mg, .ref mat, .ref mfd, .ref mhd]))] sz (fun (r : Int32) (u : Unit) => r.toInt = -1) (fun u => [(h0, .inr (3, [.ref tx, .int le, .ref td, .ref dr, .ref nw, .ref ac, .int fa, .int an, .ref kp, .int ks, .ref sp, .ref ss, .ref sy, .int sc, .long sd, .ref tr, .ref ia])), (nw, .inr (1, [.ref ln, .int md, .int 0, .int mr, .int mg, .ref mat, .ref mfd, .ref mhd]))]) 0 0 := by
  refine begins (l := l) (y := yX3_ticket) (ws := wsX3_ticket) (av := [.ref h0, .int n, .int k]) (Qc := fun A => va_Qi (fun (r : Int32) (u : Unit) => r.toInt = -1) (fun u => Wd D cI cZ cM A ((fun u => [(h0, .inr (3, [.ref tx, .int le, .ref td, .ref dr, .ref nw, .ref ac, .int fa, .int an, .ref kp, .int ks, .ref sp, .ref ss, .ref sy, .int sc, .long sd, .ref tr, .ref ia])), (nw, .inr (1, [.ref ln, .int md, .int 0, .int mr, .int mg, .ref mat, .ref mfd, .ref mhd]))]) u)) A) cX3_ticket 3 (some .int) (by decide) rfl (Nat.le_of_ble_eq_true rfl) ?_
  intro p e s m args below meth c R Q A ls hBd hR hQ hA hS hK hP hD hl
  obtain ⟨hx, hb, hr, hts, hown, hlocks, hin, hml⟩ := hBd
  have hl : lv_has ls 3 [(0, .ref h0), (1, .int n), (2, .int k)] := hl
  have iX3 : ∀ w ∈ wsX30, w ∈ wsX3_ticket := fun _ h => List.mem_cons_of_mem _ (List.mem_append_left _ (List.mem_append_left _ (List.mem_append_right _ h)))
  have iX1 : ∀ w ∈ wsX10, w ∈ wsX3_ticket := fun _ h => List.mem_cons_of_mem _ (List.mem_append_left _ (List.mem_append_right _ h))
  have iX0 : ∀ w ∈ wsX00, w ∈ wsX3_ticket := fun _ h => List.mem_cons_of_mem _ (List.mem_append_right _ h)
  refine lv_aload_n hx hb dX3_ticket_0 rfl (lv_at hl 0 rfl) ?_
  refine va_get (D := D) (ci := 3) (v := .ref nw) (C := RX3) (T := TX3) (N := 17) hx hb hts iX3 hown hK hP 0 rfl rfl 4 (by decide) (hts (.fieldLink RX3 32 "PunchedTicket" "now" "LPunchedTicket$Moment;") (List.mem_of_getElem? (i := 1) rfl)) (fun _ h9 => h9) rfl dX3_ticket_1 ?_
  refine lv_iload_n hx hb dX3_ticket_4 rfl (lv_at hl 1 rfl) ?_
  refine cV_i (As := [.int n]) (rest := []) ⟨hx, hb, hml, hown, hts⟩ (c_X1_hasTicket l D cI cZ cM nw n ln md 0 mr mg mat mfd mhd _ ) (cwV 1 hts gX3_ticket_X1_hasTicket rfl rfl rfl (by decide +kernel) ⟨by rw [hR]; decide, by rw [hR]; decide⟩) hK hP hD hS hA [1] [0] rfl rfl (by decide) (by decide) (by decide) rfl 1 rfl hl.1 rfl rfl (Nat.le_of_ble_eq_true rfl) dX3_ticket_5 ⟨by rw [hR]; decide, by rw [hR]; decide⟩ (fun r_1 u_2 H locs hw hP hD hS => ?_)
  have hP : va_P D vwCl [(h0, .inr (3, [.ref tx, .int le, .ref td, .ref dr, .ref nw, .ref ac, .int fa, .int an, .ref kp, .int ks, .ref sp, .ref ss, .ref sy, .int sc, .long sd, .ref tr, .ref ia])), (nw, .inr (1, [.ref ln, .int md, .int 0, .int mr, .int mg, .ref mat, .ref mfd, .ref mhd]))] H := hP.sub [0, 1] rfl
  have hD : va_D A [(h0, .inr (3, [.ref tx, .int le, .ref td, .ref dr, .ref nw, .ref ac, .int fa, .int an, .ref kp, .int ks, .ref sp, .ref ss, .ref sy, .int sc, .long sd, .ref tr, .ref ia])), (nw, .inr (1, [.ref ln, .int md, .int 0, .int mr, .int mg, .ref mat, .ref mfd, .ref mhd]))] := hD.sub [0, 1] (by decide) rfl
  refine W.widen (k := 0) (n := 0) (Nat.le_refl _) (Nat.le_refl _) ?_
  have hw : (r_1.toInt = 1 ∧ 0 ≤ n.toInt ∧ n.toInt < (0 : Int)) ∨ (r_1.toInt = 0 ∧ (n.toInt < 0 ∨ (0 : Int) ≤ n.toInt)) := hw
  have hw_3 := hw
  refine lv_if_ne (tgt := 13) hx hb dX3_ticket_8 (by decide) (fun c_4 => ?_) (fun c_4 => ?_)
  · have tc_4 := b_ne rfl (show (0 : Int32).toInt = 0 by decide) c_4
    exfalso; omega
  · have tc_4 := b_eq rfl (show (0 : Int32).toInt = 0 by decide) c_4
    refine lv_iconst (v := (-1)) hx hb dX3_ticket_11 (by decide) ?_
    exact ret_i (post := (fun (r : Int32) (u : Unit) => r.toInt = -1)) (W1 := (fun u => [(h0, .inr (3, [.ref tx, .int le, .ref td, .ref dr, .ref nw, .ref ac, .int fa, .int an, .ref kp, .int ks, .ref sp, .ref ss, .ref sy, .int sc, .long sd, .ref tr, .ref ia])), (nw, .inr (1, [.ref ln, .int md, .int 0, .int mr, .int mg, .ref mat, .ref mfd, .ref mhd]))])) () hx hb hr hlocks rfl hQ hK hP hD hS ⟨by decide, by decide⟩ dX3_ticket_12 (show (-1 : Int) = -1 by omega)

set_option maxHeartbeats 600000 in
set_option maxRecDepth 100000 in
theorem c_X3_lose0 (l : Launch) (D : va_G) (cI cZ cM : ClassId) (h0 : Nat) (n : Int32) (tx : Nat) (le : Int32) (td : Nat) (dr : Nat) (nw : Nat) (ac : Nat) (fa : Int32) (an : Int32) (kp : Nat) (ks : Int32) (sp : Nat) (ss : Nat) (sy : Nat) (sc : Int32) (sd : Int64) (tr : Nat) (ia : Nat) (ln : Nat) (md : Int32) (mr : Int32) (mg : Int32) (mat : Nat) (mfd : Nat) (mhd : Nat) (sz : Nat)  : Ci l yX3_lose wsX3_lose ({ frames := 1, cells := 0, slots := 0, locals := 21 } : Room) D cI cZ cM [.ref h0, .int n] [(h0, .inr (3, [.ref tx, .int le, .ref td, .ref dr, .ref nw, .ref ac, .int fa, .int an, .ref kp, .int ks, .ref sp, .ref ss, .ref sy, .int sc, .long sd, .ref tr, .ref ia])), (nw, .inr (1, [.ref ln, .int md, .int 0, .int mr, .int mg, .ref mat, .ref mfd, .ref mhd]))] sz (fun (r : Int32) (u : Unit) => r.toInt = -1) (fun u => [(h0, .inr (3, [.ref tx, .int le, .ref td, .ref dr, .ref nw, .ref ac, .int fa, .int an, .ref kp, .int ks, .ref sp, .ref ss, .ref sy, .int sc, .long sd, .ref tr, .ref ia])), (nw, .inr (1, [.ref ln, .int md, .int 0, .int mr, .int mg, .ref mat, .ref mfd, .ref mhd]))]) 0 0 := by
  refine begins (l := l) (y := yX3_lose) (ws := wsX3_lose) (av := [.ref h0, .int n]) (Qc := fun A => va_Qi (fun (r : Int32) (u : Unit) => r.toInt = -1) (fun u => Wd D cI cZ cM A ((fun u => [(h0, .inr (3, [.ref tx, .int le, .ref td, .ref dr, .ref nw, .ref ac, .int fa, .int an, .ref kp, .int ks, .ref sp, .ref ss, .ref sy, .int sc, .long sd, .ref tr, .ref ia])), (nw, .inr (1, [.ref ln, .int md, .int 0, .int mr, .int mg, .ref mat, .ref mfd, .ref mhd]))]) u)) A) cX3_lose 2 (some .int) (by decide) rfl (Nat.le_of_ble_eq_true rfl) ?_
  intro p e s m args below meth c R Q A ls hBd hR hQ hA hS hK hP hD hl
  obtain ⟨hx, hb, hr, hts, hown, hlocks, hin, hml⟩ := hBd
  have hl : lv_has ls 2 [(0, .ref h0), (1, .int n)] := hl
  have iX3 : ∀ w ∈ wsX30, w ∈ wsX3_lose := fun _ h => List.mem_cons_of_mem _ (List.mem_append_left _ (List.mem_append_right _ h))
  have iX1 : ∀ w ∈ wsX10, w ∈ wsX3_lose := fun _ h => List.mem_cons_of_mem _ (List.mem_append_right _ h)
  refine lv_aload_n hx hb dX3_lose_0 rfl (lv_at hl 0 rfl) ?_
  refine va_get (D := D) (ci := 3) (v := .ref nw) (C := RX3) (T := TX3) (N := 17) hx hb hts iX3 hown hK hP 0 rfl rfl 4 (by decide) (hts (.fieldLink RX3 32 "PunchedTicket" "now" "LPunchedTicket$Moment;") (List.mem_of_getElem? (i := 1) rfl)) (fun _ h9 => h9) rfl dX3_lose_1 ?_
  refine lv_iload_n hx hb dX3_lose_4 rfl (lv_at hl 1 rfl) ?_
  refine cV_i (As := [.int n]) (rest := []) ⟨hx, hb, hml, hown, hts⟩ (c_X1_hasTicket l D cI cZ cM nw n ln md 0 mr mg mat mfd mhd _ ) (cwV 1 hts gX3_lose_X1_hasTicket rfl rfl rfl (by decide +kernel) ⟨by rw [hR]; decide, by rw [hR]; decide⟩) hK hP hD hS hA [1] [0] rfl rfl (by decide) (by decide) (by decide) rfl 1 rfl hl.1 rfl rfl (Nat.le_of_ble_eq_true rfl) dX3_lose_5 ⟨by rw [hR]; decide, by rw [hR]; decide⟩ (fun r_1 u_2 H locs hw hP hD hS => ?_)
  have hP : va_P D vwCl [(h0, .inr (3, [.ref tx, .int le, .ref td, .ref dr, .ref nw, .ref ac, .int fa, .int an, .ref kp, .int ks, .ref sp, .ref ss, .ref sy, .int sc, .long sd, .ref tr, .ref ia])), (nw, .inr (1, [.ref ln, .int md, .int 0, .int mr, .int mg, .ref mat, .ref mfd, .ref mhd]))] H := hP.sub [0, 1] rfl
  have hD : va_D A [(h0, .inr (3, [.ref tx, .int le, .ref td, .ref dr, .ref nw, .ref ac, .int fa, .int an, .ref kp, .int ks, .ref sp, .ref ss, .ref sy, .int sc, .long sd, .ref tr, .ref ia])), (nw, .inr (1, [.ref ln, .int md, .int 0, .int mr, .int mg, .ref mat, .ref mfd, .ref mhd]))] := hD.sub [0, 1] (by decide) rfl
  refine W.widen (k := 0) (n := 0) (Nat.le_refl _) (Nat.le_refl _) ?_
  have hw : (r_1.toInt = 1 ∧ 0 ≤ n.toInt ∧ n.toInt < (0 : Int)) ∨ (r_1.toInt = 0 ∧ (n.toInt < 0 ∨ (0 : Int) ≤ n.toInt)) := hw
  have hw_3 := hw
  refine lv_if_ne (tgt := 13) hx hb dX3_lose_8 (by decide) (fun c_4 => ?_) (fun c_4 => ?_)
  · have tc_4 := b_ne rfl (show (0 : Int32).toInt = 0 by decide) c_4
    exfalso; omega
  · have tc_4 := b_eq rfl (show (0 : Int32).toInt = 0 by decide) c_4
    refine lv_iconst (v := (-1)) hx hb dX3_lose_11 (by decide) ?_
    exact ret_i (post := (fun (r : Int32) (u : Unit) => r.toInt = -1)) (W1 := (fun u => [(h0, .inr (3, [.ref tx, .int le, .ref td, .ref dr, .ref nw, .ref ac, .int fa, .int an, .ref kp, .int ks, .ref sp, .ref ss, .ref sy, .int sc, .long sd, .ref tr, .ref ia])), (nw, .inr (1, [.ref ln, .int md, .int 0, .int mr, .int mg, .ref mat, .ref mfd, .ref mhd]))])) () hx hb hr hlocks rfl hQ hK hP hD hS ⟨by decide, by decide⟩ dX3_lose_12 (show (-1 : Int) = -1 by omega)

set_option maxHeartbeats 600000 in
set_option maxRecDepth 100000 in
theorem c_X3_falls0 (l : Launch) (D : va_G) (cI cZ cM : ClassId) (h0 : Nat) (n : Int32) (tx : Nat) (le : Int32) (td : Nat) (dr : Nat) (nw : Nat) (ac : Nat) (fa : Int32) (an : Int32) (kp : Nat) (ks : Int32) (sp : Nat) (ss : Nat) (sy : Nat) (sc : Int32) (sd : Int64) (tr : Nat) (ia : Nat) (ln : Nat) (md : Int32) (mr : Int32) (mg : Int32) (mat : Nat) (mfd : Nat) (mhd : Nat) (sz : Nat)  : Ci l yX3_falls wsX3_falls ({ frames := 1, cells := 0, slots := 0, locals := 21 } : Room) D cI cZ cM [.ref h0, .int n] [(h0, .inr (3, [.ref tx, .int le, .ref td, .ref dr, .ref nw, .ref ac, .int fa, .int an, .ref kp, .int ks, .ref sp, .ref ss, .ref sy, .int sc, .long sd, .ref tr, .ref ia])), (nw, .inr (1, [.ref ln, .int md, .int 0, .int mr, .int mg, .ref mat, .ref mfd, .ref mhd]))] sz (fun (r : Int32) (u : Unit) => r.toInt = -1) (fun u => [(h0, .inr (3, [.ref tx, .int le, .ref td, .ref dr, .ref nw, .ref ac, .int fa, .int an, .ref kp, .int ks, .ref sp, .ref ss, .ref sy, .int sc, .long sd, .ref tr, .ref ia])), (nw, .inr (1, [.ref ln, .int md, .int 0, .int mr, .int mg, .ref mat, .ref mfd, .ref mhd]))]) 0 0 := by
  refine begins (l := l) (y := yX3_falls) (ws := wsX3_falls) (av := [.ref h0, .int n]) (Qc := fun A => va_Qi (fun (r : Int32) (u : Unit) => r.toInt = -1) (fun u => Wd D cI cZ cM A ((fun u => [(h0, .inr (3, [.ref tx, .int le, .ref td, .ref dr, .ref nw, .ref ac, .int fa, .int an, .ref kp, .int ks, .ref sp, .ref ss, .ref sy, .int sc, .long sd, .ref tr, .ref ia])), (nw, .inr (1, [.ref ln, .int md, .int 0, .int mr, .int mg, .ref mat, .ref mfd, .ref mhd]))]) u)) A) cX3_falls 3 (some .int) (by decide) rfl (Nat.le_of_ble_eq_true rfl) ?_
  intro p e s m args below meth c R Q A ls hBd hR hQ hA hS hK hP hD hl
  obtain ⟨hx, hb, hr, hts, hown, hlocks, hin, hml⟩ := hBd
  have hl : lv_has ls 3 [(0, .ref h0), (1, .int n)] := hl
  have iX3 : ∀ w ∈ wsX30, w ∈ wsX3_falls := fun _ h => List.mem_cons_of_mem _ (List.mem_append_left _ (List.mem_append_left _ (List.mem_append_left _ (List.mem_append_right _ h))))
  have iX2 : ∀ w ∈ wsX20, w ∈ wsX3_falls := fun _ h => List.mem_cons_of_mem _ (List.mem_append_left _ (List.mem_append_left _ (List.mem_append_right _ h)))
  have iX1 : ∀ w ∈ wsX10, w ∈ wsX3_falls := fun _ h => List.mem_cons_of_mem _ (List.mem_append_left _ (List.mem_append_right _ h))
  have iX0 : ∀ w ∈ wsX00, w ∈ wsX3_falls := fun _ h => List.mem_cons_of_mem _ (List.mem_append_right _ h)
  refine lv_aload_n hx hb dX3_falls_0 rfl (lv_at hl 0 rfl) ?_
  refine va_get (D := D) (ci := 3) (v := .ref nw) (C := RX3) (T := TX3) (N := 17) hx hb hts iX3 hown hK hP 0 rfl rfl 4 (by decide) (hts (.fieldLink RX3 32 "PunchedTicket" "now" "LPunchedTicket$Moment;") (List.mem_of_getElem? (i := 1) rfl)) (fun _ h9 => h9) rfl dX3_falls_1 ?_
  refine lv_iload_n hx hb dX3_falls_4 rfl (lv_at hl 1 rfl) ?_
  refine cV_i (As := [.int n]) (rest := []) ⟨hx, hb, hml, hown, hts⟩ (c_X1_hasTicket l D cI cZ cM nw n ln md 0 mr mg mat mfd mhd _ ) (cwV 1 hts gX3_falls_X1_hasTicket rfl rfl rfl (by decide +kernel) ⟨by rw [hR]; decide, by rw [hR]; decide⟩) hK hP hD hS hA [1] [0] rfl rfl (by decide) (by decide) (by decide) rfl 1 rfl hl.1 rfl rfl (Nat.le_of_ble_eq_true rfl) dX3_falls_5 ⟨by rw [hR]; decide, by rw [hR]; decide⟩ (fun r_1 u_2 H locs hw hP hD hS => ?_)
  have hP : va_P D vwCl [(h0, .inr (3, [.ref tx, .int le, .ref td, .ref dr, .ref nw, .ref ac, .int fa, .int an, .ref kp, .int ks, .ref sp, .ref ss, .ref sy, .int sc, .long sd, .ref tr, .ref ia])), (nw, .inr (1, [.ref ln, .int md, .int 0, .int mr, .int mg, .ref mat, .ref mfd, .ref mhd]))] H := hP.sub [0, 1] rfl
  have hD : va_D A [(h0, .inr (3, [.ref tx, .int le, .ref td, .ref dr, .ref nw, .ref ac, .int fa, .int an, .ref kp, .int ks, .ref sp, .ref ss, .ref sy, .int sc, .long sd, .ref tr, .ref ia])), (nw, .inr (1, [.ref ln, .int md, .int 0, .int mr, .int mg, .ref mat, .ref mfd, .ref mhd]))] := hD.sub [0, 1] (by decide) rfl
  refine W.widen (k := 0) (n := 0) (Nat.le_refl _) (Nat.le_refl _) ?_
  have hw : (r_1.toInt = 1 ∧ 0 ≤ n.toInt ∧ n.toInt < (0 : Int)) ∨ (r_1.toInt = 0 ∧ (n.toInt < 0 ∨ (0 : Int) ≤ n.toInt)) := hw
  have hw_3 := hw
  refine lv_if_ne (tgt := 13) hx hb dX3_falls_8 (by decide) (fun c_4 => ?_) (fun c_4 => ?_)
  · have tc_4 := b_ne rfl (show (0 : Int32).toInt = 0 by decide) c_4
    exfalso; omega
  · have tc_4 := b_eq rfl (show (0 : Int32).toInt = 0 by decide) c_4
    refine lv_iconst (v := (-1)) hx hb dX3_falls_11 (by decide) ?_
    exact ret_i (post := (fun (r : Int32) (u : Unit) => r.toInt = -1)) (W1 := (fun u => [(h0, .inr (3, [.ref tx, .int le, .ref td, .ref dr, .ref nw, .ref ac, .int fa, .int an, .ref kp, .int ks, .ref sp, .ref ss, .ref sy, .int sc, .long sd, .ref tr, .ref ia])), (nw, .inr (1, [.ref ln, .int md, .int 0, .int mr, .int mg, .ref mat, .ref mfd, .ref mhd]))])) () hx hb hr hlocks rfl hQ hK hP hD hS ⟨by decide, by decide⟩ dX3_falls_12 (show (-1 : Int) = -1 by omega)

set_option maxHeartbeats 600000 in
set_option maxRecDepth 100000 in
theorem c_X3_share0 (l : Launch) (D : va_G) (cI cZ cM : ClassId) (h0 : Nat) (n : Int32) (z : Int32) (tx : Nat) (le : Int32) (td : Nat) (dr : Nat) (nw : Nat) (ac : Nat) (fa : Int32) (an : Int32) (kp : Nat) (ks : Int32) (sp : Nat) (ss : Nat) (sy : Nat) (sc : Int32) (sd : Int64) (tr : Nat) (ia : Nat) (ln : Nat) (md : Int32) (mr : Int32) (mg : Int32) (mat : Nat) (mfd : Nat) (mhd : Nat) (sz : Nat)  : Ci l yX3_share wsX3_share ({ frames := 1, cells := 0, slots := 0, locals := 21 } : Room) D cI cZ cM [.ref h0, .int n, .int z] [(h0, .inr (3, [.ref tx, .int le, .ref td, .ref dr, .ref nw, .ref ac, .int fa, .int an, .ref kp, .int ks, .ref sp, .ref ss, .ref sy, .int sc, .long sd, .ref tr, .ref ia])), (nw, .inr (1, [.ref ln, .int md, .int 0, .int mr, .int mg, .ref mat, .ref mfd, .ref mhd]))] sz (fun (r : Int32) (u : Unit) => r.toInt = -1) (fun u => [(h0, .inr (3, [.ref tx, .int le, .ref td, .ref dr, .ref nw, .ref ac, .int fa, .int an, .ref kp, .int ks, .ref sp, .ref ss, .ref sy, .int sc, .long sd, .ref tr, .ref ia])), (nw, .inr (1, [.ref ln, .int md, .int 0, .int mr, .int mg, .ref mat, .ref mfd, .ref mhd]))]) 0 0 := by
  refine begins (l := l) (y := yX3_share) (ws := wsX3_share) (av := [.ref h0, .int n, .int z]) (Qc := fun A => va_Qi (fun (r : Int32) (u : Unit) => r.toInt = -1) (fun u => Wd D cI cZ cM A ((fun u => [(h0, .inr (3, [.ref tx, .int le, .ref td, .ref dr, .ref nw, .ref ac, .int fa, .int an, .ref kp, .int ks, .ref sp, .ref ss, .ref sy, .int sc, .long sd, .ref tr, .ref ia])), (nw, .inr (1, [.ref ln, .int md, .int 0, .int mr, .int mg, .ref mat, .ref mfd, .ref mhd]))]) u)) A) cX3_share 9 (some .int) (by decide) rfl (Nat.le_of_ble_eq_true rfl) ?_
  intro p e s m args below meth c R Q A ls hBd hR hQ hA hS hK hP hD hl
  obtain ⟨hx, hb, hr, hts, hown, hlocks, hin, hml⟩ := hBd
  have hl : lv_has ls 9 [(0, .ref h0), (1, .int n), (2, .int z)] := hl
  have iX3 : ∀ w ∈ wsX30, w ∈ wsX3_share := fun _ h => List.mem_cons_of_mem _ (List.mem_append_left _ (List.mem_append_left _ (List.mem_append_left _ (List.mem_append_right _ h))))
  have iX1 : ∀ w ∈ wsX10, w ∈ wsX3_share := fun _ h => List.mem_cons_of_mem _ (List.mem_append_left _ (List.mem_append_left _ (List.mem_append_right _ h)))
  have iX2 : ∀ w ∈ wsX20, w ∈ wsX3_share := fun _ h => List.mem_cons_of_mem _ (List.mem_append_left _ (List.mem_append_right _ h))
  have iX0 : ∀ w ∈ wsX00, w ∈ wsX3_share := fun _ h => List.mem_cons_of_mem _ (List.mem_append_right _ h)
  refine lv_aload_n hx hb dX3_share_0 rfl (lv_at hl 0 rfl) ?_
  refine va_get (D := D) (ci := 3) (v := .ref nw) (C := RX3) (T := TX3) (N := 17) hx hb hts iX3 hown hK hP 0 rfl rfl 4 (by decide) (hts (.fieldLink RX3 32 "PunchedTicket" "now" "LPunchedTicket$Moment;") (List.mem_of_getElem? (i := 1) rfl)) (fun _ h9 => h9) rfl dX3_share_1 ?_
  refine lv_iload_n hx hb dX3_share_4 rfl (lv_at hl 1 rfl) ?_
  refine cV_i (As := [.int n]) (rest := []) ⟨hx, hb, hml, hown, hts⟩ (c_X1_hasTicket l D cI cZ cM nw n ln md 0 mr mg mat mfd mhd _ ) (cwV 1 hts gX3_share_X1_hasTicket rfl rfl rfl (by decide +kernel) ⟨by rw [hR]; decide, by rw [hR]; decide⟩) hK hP hD hS hA [1] [0] rfl rfl (by decide) (by decide) (by decide) rfl 1 rfl hl.1 rfl rfl (Nat.le_of_ble_eq_true rfl) dX3_share_5 ⟨by rw [hR]; decide, by rw [hR]; decide⟩ (fun r_1 u_2 H locs hw hP hD hS => ?_)
  have hP : va_P D vwCl [(h0, .inr (3, [.ref tx, .int le, .ref td, .ref dr, .ref nw, .ref ac, .int fa, .int an, .ref kp, .int ks, .ref sp, .ref ss, .ref sy, .int sc, .long sd, .ref tr, .ref ia])), (nw, .inr (1, [.ref ln, .int md, .int 0, .int mr, .int mg, .ref mat, .ref mfd, .ref mhd]))] H := hP.sub [0, 1] rfl
  have hD : va_D A [(h0, .inr (3, [.ref tx, .int le, .ref td, .ref dr, .ref nw, .ref ac, .int fa, .int an, .ref kp, .int ks, .ref sp, .ref ss, .ref sy, .int sc, .long sd, .ref tr, .ref ia])), (nw, .inr (1, [.ref ln, .int md, .int 0, .int mr, .int mg, .ref mat, .ref mfd, .ref mhd]))] := hD.sub [0, 1] (by decide) rfl
  refine W.widen (k := 0) (n := 0) (Nat.le_refl _) (Nat.le_refl _) ?_
  have hw : (r_1.toInt = 1 ∧ 0 ≤ n.toInt ∧ n.toInt < (0 : Int)) ∨ (r_1.toInt = 0 ∧ (n.toInt < 0 ∨ (0 : Int) ≤ n.toInt)) := hw
  have hw_3 := hw
  refine lv_if_ne (tgt := 13) hx hb dX3_share_8 (by decide) (fun c_4 => ?_) (fun c_4 => ?_)
  · have tc_4 := b_ne rfl (show (0 : Int32).toInt = 0 by decide) c_4
    exfalso; omega
  · have tc_4 := b_eq rfl (show (0 : Int32).toInt = 0 by decide) c_4
    refine lv_iconst (v := (-1)) hx hb dX3_share_11 (by decide) ?_
    exact ret_i (post := (fun (r : Int32) (u : Unit) => r.toInt = -1)) (W1 := (fun u => [(h0, .inr (3, [.ref tx, .int le, .ref td, .ref dr, .ref nw, .ref ac, .int fa, .int an, .ref kp, .int ks, .ref sp, .ref ss, .ref sy, .int sc, .long sd, .ref tr, .ref ia])), (nw, .inr (1, [.ref ln, .int md, .int 0, .int mr, .int mg, .ref mat, .ref mfd, .ref mhd]))])) () hx hb hr hlocks rfl hQ hK hP hD hS ⟨by decide, by decide⟩ dX3_share_12 (show (-1 : Int) = -1 by omega)

set_option maxHeartbeats 600000 in
set_option maxRecDepth 100000 in
theorem c_X3_held0 (l : Launch) (D : va_G) (cI cZ cM : ClassId) (h0 : Nat) (n : Int32) (tx : Nat) (le : Int32) (td : Nat) (dr : Nat) (nw : Nat) (ac : Nat) (fa : Int32) (an : Int32) (kp : Nat) (ks : Int32) (sp : Nat) (ss : Nat) (sy : Nat) (sc : Int32) (sd : Int64) (tr : Nat) (ia : Nat) (ln : Nat) (md : Int32) (mr : Int32) (mg : Int32) (mat : Nat) (mfd : Nat) (mhd : Nat) (sz : Nat)  : Ci l yX3_held wsX3_held ({ frames := 1, cells := 0, slots := 0, locals := 21 } : Room) D cI cZ cM [.ref h0, .int n] [(h0, .inr (3, [.ref tx, .int le, .ref td, .ref dr, .ref nw, .ref ac, .int fa, .int an, .ref kp, .int ks, .ref sp, .ref ss, .ref sy, .int sc, .long sd, .ref tr, .ref ia])), (nw, .inr (1, [.ref ln, .int md, .int 0, .int mr, .int mg, .ref mat, .ref mfd, .ref mhd]))] sz (fun (r : Int32) (u : Unit) => r.toInt = -1) (fun u => [(h0, .inr (3, [.ref tx, .int le, .ref td, .ref dr, .ref nw, .ref ac, .int fa, .int an, .ref kp, .int ks, .ref sp, .ref ss, .ref sy, .int sc, .long sd, .ref tr, .ref ia])), (nw, .inr (1, [.ref ln, .int md, .int 0, .int mr, .int mg, .ref mat, .ref mfd, .ref mhd]))]) 0 0 := by
  refine begins (l := l) (y := yX3_held) (ws := wsX3_held) (av := [.ref h0, .int n]) (Qc := fun A => va_Qi (fun (r : Int32) (u : Unit) => r.toInt = -1) (fun u => Wd D cI cZ cM A ((fun u => [(h0, .inr (3, [.ref tx, .int le, .ref td, .ref dr, .ref nw, .ref ac, .int fa, .int an, .ref kp, .int ks, .ref sp, .ref ss, .ref sy, .int sc, .long sd, .ref tr, .ref ia])), (nw, .inr (1, [.ref ln, .int md, .int 0, .int mr, .int mg, .ref mat, .ref mfd, .ref mhd]))]) u)) A) cX3_held 4 (some .int) (by decide) rfl (Nat.le_of_ble_eq_true rfl) ?_
  intro p e s m args below meth c R Q A ls hBd hR hQ hA hS hK hP hD hl
  obtain ⟨hx, hb, hr, hts, hown, hlocks, hin, hml⟩ := hBd
  have hl : lv_has ls 4 [(0, .ref h0), (1, .int n)] := hl
  have iX3 : ∀ w ∈ wsX30, w ∈ wsX3_held := fun _ h => List.mem_cons_of_mem _ (List.mem_append_left _ (List.mem_append_left _ (List.mem_append_left _ (List.mem_append_right _ h))))
  have iX0 : ∀ w ∈ wsX00, w ∈ wsX3_held := fun _ h => List.mem_cons_of_mem _ (List.mem_append_left _ (List.mem_append_left _ (List.mem_append_right _ h)))
  have iX2 : ∀ w ∈ wsX20, w ∈ wsX3_held := fun _ h => List.mem_cons_of_mem _ (List.mem_append_left _ (List.mem_append_right _ h))
  have iX1 : ∀ w ∈ wsX10, w ∈ wsX3_held := fun _ h => List.mem_cons_of_mem _ (List.mem_append_right _ h)
  refine lv_aload_n hx hb dX3_held_0 rfl (lv_at hl 0 rfl) ?_
  refine va_get (D := D) (ci := 3) (v := .ref nw) (C := RX3) (T := TX3) (N := 17) hx hb hts iX3 hown hK hP 0 rfl rfl 4 (by decide) (hts (.fieldLink RX3 32 "PunchedTicket" "now" "LPunchedTicket$Moment;") (List.mem_of_getElem? (i := 1) rfl)) (fun _ h9 => h9) rfl dX3_held_1 ?_
  refine lv_iload_n hx hb dX3_held_4 rfl (lv_at hl 1 rfl) ?_
  refine cV_i (As := [.int n]) (rest := []) ⟨hx, hb, hml, hown, hts⟩ (c_X1_hasTicket l D cI cZ cM nw n ln md 0 mr mg mat mfd mhd _ ) (cwV 1 hts gX3_held_X1_hasTicket rfl rfl rfl (by decide +kernel) ⟨by rw [hR]; decide, by rw [hR]; decide⟩) hK hP hD hS hA [1] [0] rfl rfl (by decide) (by decide) (by decide) rfl 1 rfl hl.1 rfl rfl (Nat.le_of_ble_eq_true rfl) dX3_held_5 ⟨by rw [hR]; decide, by rw [hR]; decide⟩ (fun r_1 u_2 H locs hw hP hD hS => ?_)
  have hP : va_P D vwCl [(h0, .inr (3, [.ref tx, .int le, .ref td, .ref dr, .ref nw, .ref ac, .int fa, .int an, .ref kp, .int ks, .ref sp, .ref ss, .ref sy, .int sc, .long sd, .ref tr, .ref ia])), (nw, .inr (1, [.ref ln, .int md, .int 0, .int mr, .int mg, .ref mat, .ref mfd, .ref mhd]))] H := hP.sub [0, 1] rfl
  have hD : va_D A [(h0, .inr (3, [.ref tx, .int le, .ref td, .ref dr, .ref nw, .ref ac, .int fa, .int an, .ref kp, .int ks, .ref sp, .ref ss, .ref sy, .int sc, .long sd, .ref tr, .ref ia])), (nw, .inr (1, [.ref ln, .int md, .int 0, .int mr, .int mg, .ref mat, .ref mfd, .ref mhd]))] := hD.sub [0, 1] (by decide) rfl
  refine W.widen (k := 0) (n := 0) (Nat.le_refl _) (Nat.le_refl _) ?_
  have hw : (r_1.toInt = 1 ∧ 0 ≤ n.toInt ∧ n.toInt < (0 : Int)) ∨ (r_1.toInt = 0 ∧ (n.toInt < 0 ∨ (0 : Int) ≤ n.toInt)) := hw
  have hw_3 := hw
  refine lv_if_ne (tgt := 13) hx hb dX3_held_8 (by decide) (fun c_4 => ?_) (fun c_4 => ?_)
  · have tc_4 := b_ne rfl (show (0 : Int32).toInt = 0 by decide) c_4
    exfalso; omega
  · have tc_4 := b_eq rfl (show (0 : Int32).toInt = 0 by decide) c_4
    refine lv_iconst (v := (-1)) hx hb dX3_held_11 (by decide) ?_
    exact ret_i (post := (fun (r : Int32) (u : Unit) => r.toInt = -1)) (W1 := (fun u => [(h0, .inr (3, [.ref tx, .int le, .ref td, .ref dr, .ref nw, .ref ac, .int fa, .int an, .ref kp, .int ks, .ref sp, .ref ss, .ref sy, .int sc, .long sd, .ref tr, .ref ia])), (nw, .inr (1, [.ref ln, .int md, .int 0, .int mr, .int mg, .ref mat, .ref mfd, .ref mhd]))])) () hx hb hr hlocks rfl hQ hK hP hD hS ⟨by decide, by decide⟩ dX3_held_12 (show (-1 : Int) = -1 by omega)

set_option maxHeartbeats 600000 in
set_option maxRecDepth 100000 in
theorem c_X3_give0 (l : Launch) (D : va_G) (cI cZ cM : ClassId) (h0 : Nat) (n : Int32) (k : Int32) (tx : Nat) (le : Int32) (td : Nat) (dr : Nat) (nw : Nat) (ac : Nat) (fa : Int32) (an : Int32) (kp : Nat) (ks : Int32) (sp : Nat) (ss : Nat) (sy : Nat) (sc : Int32) (sd : Int64) (tr : Nat) (ia : Nat) (ln : Nat) (md : Int32) (mr : Int32) (mg : Int32) (mat : Nat) (mfd : Nat) (mhd : Nat) (ltk : Int32) (lho : Nat) (lli : Nat) (lki : Nat) (lfd : Nat) (lfr : Nat) (lto : Nat) (lse : Nat) (lhl : Nat) (sz : Nat)  : Ci l yX3_give wsX3_give ({ frames := 1, cells := 0, slots := 0, locals := 21 } : Room) D cI cZ cM [.ref h0, .int n, .int k] [(h0, .inr (3, [.ref tx, .int le, .ref td, .ref dr, .ref nw, .ref ac, .int fa, .int an, .ref kp, .int ks, .ref sp, .ref ss, .ref sy, .int sc, .long sd, .ref tr, .ref ia])), (nw, .inr (1, [.ref ln, .int md, .int 0, .int mr, .int mg, .ref mat, .ref mfd, .ref mhd])), (td, .inr (0, [.int 0, .int ltk, .ref lho, .ref lli, .ref lki, .ref lfd, .ref lfr, .ref lto, .ref lse, .ref lhl]))] sz (fun (r : Int32) (u : Unit) => r.toInt = -1) (fun u => [(h0, .inr (3, [.ref tx, .int le, .ref td, .ref dr, .ref nw, .ref ac, .int fa, .int an, .ref kp, .int ks, .ref sp, .ref ss, .ref sy, .int sc, .long sd, .ref tr, .ref ia])), (nw, .inr (1, [.ref ln, .int md, .int 0, .int mr, .int mg, .ref mat, .ref mfd, .ref mhd])), (td, .inr (0, [.int 0, .int ltk, .ref lho, .ref lli, .ref lki, .ref lfd, .ref lfr, .ref lto, .ref lse, .ref lhl]))]) 0 0 := by
  refine begins (l := l) (y := yX3_give) (ws := wsX3_give) (av := [.ref h0, .int n, .int k]) (Qc := fun A => va_Qi (fun (r : Int32) (u : Unit) => r.toInt = -1) (fun u => Wd D cI cZ cM A ((fun u => [(h0, .inr (3, [.ref tx, .int le, .ref td, .ref dr, .ref nw, .ref ac, .int fa, .int an, .ref kp, .int ks, .ref sp, .ref ss, .ref sy, .int sc, .long sd, .ref tr, .ref ia])), (nw, .inr (1, [.ref ln, .int md, .int 0, .int mr, .int mg, .ref mat, .ref mfd, .ref mhd])), (td, .inr (0, [.int 0, .int ltk, .ref lho, .ref lli, .ref lki, .ref lfd, .ref lfr, .ref lto, .ref lse, .ref lhl]))]) u)) A) cX3_give 4 (some .int) (by decide) rfl (Nat.le_of_ble_eq_true rfl) ?_
  intro p e s m args below meth c R Q A ls hBd hR hQ hA hS hK hP hD hl
  obtain ⟨hx, hb, hr, hts, hown, hlocks, hin, hml⟩ := hBd
  have hl : lv_has ls 4 [(0, .ref h0), (1, .int n), (2, .int k)] := hl
  have iX3 : ∀ w ∈ wsX30, w ∈ wsX3_give := fun _ h => List.mem_cons_of_mem _ (List.mem_append_left _ (List.mem_append_left _ (List.mem_append_right _ h)))
  have iX1 : ∀ w ∈ wsX10, w ∈ wsX3_give := fun _ h => List.mem_cons_of_mem _ (List.mem_append_left _ (List.mem_append_right _ h))
  have iX0 : ∀ w ∈ wsX00, w ∈ wsX3_give := fun _ h => List.mem_cons_of_mem _ (List.mem_append_right _ h)
  refine lv_aload_n hx hb dX3_give_0 rfl (lv_at hl 0 rfl) ?_
  refine va_get (D := D) (ci := 3) (v := .ref nw) (C := RX3) (T := TX3) (N := 17) hx hb hts iX3 hown hK hP 0 rfl rfl 4 (by decide) (hts (.fieldLink RX3 32 "PunchedTicket" "now" "LPunchedTicket$Moment;") (List.mem_of_getElem? (i := 1) rfl)) (fun _ h9 => h9) rfl dX3_give_1 ?_
  refine lv_iload_n hx hb dX3_give_4 rfl (lv_at hl 1 rfl) ?_
  refine cV_i (As := [.int n]) (rest := []) ⟨hx, hb, hml, hown, hts⟩ (c_X1_hasTicket l D cI cZ cM nw n ln md 0 mr mg mat mfd mhd _ ) (cwV 1 hts gX3_give_X1_hasTicket rfl rfl rfl (by decide +kernel) ⟨by rw [hR]; decide, by rw [hR]; decide⟩) hK hP hD hS hA [1] [0, 2] rfl rfl (by decide) (by decide) (by decide) rfl 1 rfl hl.1 rfl rfl (Nat.le_of_ble_eq_true rfl) dX3_give_5 ⟨by rw [hR]; decide, by rw [hR]; decide⟩ (fun r_1 u_2 H locs hw hP hD hS => ?_)
  have hP : va_P D vwCl [(h0, .inr (3, [.ref tx, .int le, .ref td, .ref dr, .ref nw, .ref ac, .int fa, .int an, .ref kp, .int ks, .ref sp, .ref ss, .ref sy, .int sc, .long sd, .ref tr, .ref ia])), (nw, .inr (1, [.ref ln, .int md, .int 0, .int mr, .int mg, .ref mat, .ref mfd, .ref mhd])), (td, .inr (0, [.int 0, .int ltk, .ref lho, .ref lli, .ref lki, .ref lfd, .ref lfr, .ref lto, .ref lse, .ref lhl]))] H := hP.sub [0, 2, 1] rfl
  have hD : va_D A [(h0, .inr (3, [.ref tx, .int le, .ref td, .ref dr, .ref nw, .ref ac, .int fa, .int an, .ref kp, .int ks, .ref sp, .ref ss, .ref sy, .int sc, .long sd, .ref tr, .ref ia])), (nw, .inr (1, [.ref ln, .int md, .int 0, .int mr, .int mg, .ref mat, .ref mfd, .ref mhd])), (td, .inr (0, [.int 0, .int ltk, .ref lho, .ref lli, .ref lki, .ref lfd, .ref lfr, .ref lto, .ref lse, .ref lhl]))] := hD.sub [0, 2, 1] (by decide) rfl
  refine W.widen (k := 0) (n := 0) (Nat.le_refl _) (Nat.le_refl _) ?_
  have hw : (r_1.toInt = 1 ∧ 0 ≤ n.toInt ∧ n.toInt < (0 : Int)) ∨ (r_1.toInt = 0 ∧ (n.toInt < 0 ∨ (0 : Int) ≤ n.toInt)) := hw
  have hw_3 := hw
  refine lv_if_eq (tgt := 22) hx hb dX3_give_8 (by decide) (fun c_4 => ?_) (fun c_4 => ?_)
  · have tc_4 := b_eq rfl (show (0 : Int32).toInt = 0 by decide) c_4
    refine lv_iconst (v := (-1)) hx hb dX3_give_22 (by decide) ?_
    exact ret_i (post := (fun (r : Int32) (u : Unit) => r.toInt = -1)) (W1 := (fun u => [(h0, .inr (3, [.ref tx, .int le, .ref td, .ref dr, .ref nw, .ref ac, .int fa, .int an, .ref kp, .int ks, .ref sp, .ref ss, .ref sy, .int sc, .long sd, .ref tr, .ref ia])), (nw, .inr (1, [.ref ln, .int md, .int 0, .int mr, .int mg, .ref mat, .ref mfd, .ref mhd])), (td, .inr (0, [.int 0, .int ltk, .ref lho, .ref lli, .ref lki, .ref lfd, .ref lfr, .ref lto, .ref lse, .ref lhl]))])) () hx hb hr hlocks rfl hQ hK hP hD hS ⟨by decide, by decide⟩ dX3_give_23 (show (-1 : Int) = -1 by omega)
  · have tc_4 := b_ne rfl (show (0 : Int32).toInt = 0 by decide) c_4
    exfalso; omega

set_option maxHeartbeats 600000 in
set_option maxRecDepth 100000 in
theorem c_X3_change0 (l : Launch) (D : va_G) (cI cZ cM : ClassId) (h0 : Nat) (n : Int32) (k : Int32) (tx : Nat) (le : Int32) (td : Nat) (dr : Nat) (nw : Nat) (ac : Nat) (fa : Int32) (an : Int32) (kp : Nat) (ks : Int32) (sp : Nat) (ss : Nat) (sy : Nat) (sc : Int32) (sd : Int64) (tr : Nat) (ia : Nat) (ln : Nat) (md : Int32) (mr : Int32) (mg : Int32) (mat : Nat) (mfd : Nat) (mhd : Nat) (sz : Nat)  : Ci l yX3_change wsX3_change ({ frames := 1, cells := 0, slots := 0, locals := 21 } : Room) D cI cZ cM [.ref h0, .int n, .int k] [(h0, .inr (3, [.ref tx, .int le, .ref td, .ref dr, .ref nw, .ref ac, .int fa, .int an, .ref kp, .int ks, .ref sp, .ref ss, .ref sy, .int sc, .long sd, .ref tr, .ref ia])), (nw, .inr (1, [.ref ln, .int md, .int 0, .int mr, .int mg, .ref mat, .ref mfd, .ref mhd]))] sz (fun (r : Int32) (u : Unit) => r.toInt = -1) (fun u => [(h0, .inr (3, [.ref tx, .int le, .ref td, .ref dr, .ref nw, .ref ac, .int fa, .int an, .ref kp, .int ks, .ref sp, .ref ss, .ref sy, .int sc, .long sd, .ref tr, .ref ia])), (nw, .inr (1, [.ref ln, .int md, .int 0, .int mr, .int mg, .ref mat, .ref mfd, .ref mhd]))]) 0 0 := by
  refine begins (l := l) (y := yX3_change) (ws := wsX3_change) (av := [.ref h0, .int n, .int k]) (Qc := fun A => va_Qi (fun (r : Int32) (u : Unit) => r.toInt = -1) (fun u => Wd D cI cZ cM A ((fun u => [(h0, .inr (3, [.ref tx, .int le, .ref td, .ref dr, .ref nw, .ref ac, .int fa, .int an, .ref kp, .int ks, .ref sp, .ref ss, .ref sy, .int sc, .long sd, .ref tr, .ref ia])), (nw, .inr (1, [.ref ln, .int md, .int 0, .int mr, .int mg, .ref mat, .ref mfd, .ref mhd]))]) u)) A) cX3_change 3 (some .int) (by decide) rfl (Nat.le_of_ble_eq_true rfl) ?_
  intro p e s m args below meth c R Q A ls hBd hR hQ hA hS hK hP hD hl
  obtain ⟨hx, hb, hr, hts, hown, hlocks, hin, hml⟩ := hBd
  have hl : lv_has ls 3 [(0, .ref h0), (1, .int n), (2, .int k)] := hl
  have iX3 : ∀ w ∈ wsX30, w ∈ wsX3_change := fun _ h => List.mem_cons_of_mem _ (List.mem_append_left _ (List.mem_append_right _ h))
  have iX1 : ∀ w ∈ wsX10, w ∈ wsX3_change := fun _ h => List.mem_cons_of_mem _ (List.mem_append_right _ h)
  refine lv_aload_n hx hb dX3_change_0 rfl (lv_at hl 0 rfl) ?_
  refine va_get (D := D) (ci := 3) (v := .ref nw) (C := RX3) (T := TX3) (N := 17) hx hb hts iX3 hown hK hP 0 rfl rfl 4 (by decide) (hts (.fieldLink RX3 32 "PunchedTicket" "now" "LPunchedTicket$Moment;") (List.mem_of_getElem? (i := 1) rfl)) (fun _ h9 => h9) rfl dX3_change_1 ?_
  refine lv_iload_n hx hb dX3_change_4 rfl (lv_at hl 1 rfl) ?_
  refine cV_i (As := [.int n]) (rest := []) ⟨hx, hb, hml, hown, hts⟩ (c_X1_hasTicket l D cI cZ cM nw n ln md 0 mr mg mat mfd mhd _ ) (cwV 1 hts gX3_change_X1_hasTicket rfl rfl rfl (by decide +kernel) ⟨by rw [hR]; decide, by rw [hR]; decide⟩) hK hP hD hS hA [1] [0] rfl rfl (by decide) (by decide) (by decide) rfl 1 rfl hl.1 rfl rfl (Nat.le_of_ble_eq_true rfl) dX3_change_5 ⟨by rw [hR]; decide, by rw [hR]; decide⟩ (fun r_1 u_2 H locs hw hP hD hS => ?_)
  have hP : va_P D vwCl [(h0, .inr (3, [.ref tx, .int le, .ref td, .ref dr, .ref nw, .ref ac, .int fa, .int an, .ref kp, .int ks, .ref sp, .ref ss, .ref sy, .int sc, .long sd, .ref tr, .ref ia])), (nw, .inr (1, [.ref ln, .int md, .int 0, .int mr, .int mg, .ref mat, .ref mfd, .ref mhd]))] H := hP.sub [0, 1] rfl
  have hD : va_D A [(h0, .inr (3, [.ref tx, .int le, .ref td, .ref dr, .ref nw, .ref ac, .int fa, .int an, .ref kp, .int ks, .ref sp, .ref ss, .ref sy, .int sc, .long sd, .ref tr, .ref ia])), (nw, .inr (1, [.ref ln, .int md, .int 0, .int mr, .int mg, .ref mat, .ref mfd, .ref mhd]))] := hD.sub [0, 1] (by decide) rfl
  refine W.widen (k := 0) (n := 0) (Nat.le_refl _) (Nat.le_refl _) ?_
  have hw : (r_1.toInt = 1 ∧ 0 ≤ n.toInt ∧ n.toInt < (0 : Int)) ∨ (r_1.toInt = 0 ∧ (n.toInt < 0 ∨ (0 : Int) ≤ n.toInt)) := hw
  have hw_3 := hw
  refine lv_if_eq (tgt := 22) hx hb dX3_change_8 (by decide) (fun c_4 => ?_) (fun c_4 => ?_)
  · have tc_4 := b_eq rfl (show (0 : Int32).toInt = 0 by decide) c_4
    refine lv_iconst (v := (-1)) hx hb dX3_change_22 (by decide) ?_
    exact ret_i (post := (fun (r : Int32) (u : Unit) => r.toInt = -1)) (W1 := (fun u => [(h0, .inr (3, [.ref tx, .int le, .ref td, .ref dr, .ref nw, .ref ac, .int fa, .int an, .ref kp, .int ks, .ref sp, .ref ss, .ref sy, .int sc, .long sd, .ref tr, .ref ia])), (nw, .inr (1, [.ref ln, .int md, .int 0, .int mr, .int mg, .ref mat, .ref mfd, .ref mhd]))])) () hx hb hr hlocks rfl hQ hK hP hD hS ⟨by decide, by decide⟩ dX3_change_23 (show (-1 : Int) = -1 by omega)
  · have tc_4 := b_ne rfl (show (0 : Int32).toInt = 0 by decide) c_4
    exfalso; omega

set_option maxHeartbeats 600000 in
set_option maxRecDepth 100000 in
theorem c_X3_undo0 (l : Launch) (D : va_G) (cI cZ cM : ClassId) (h0 : Nat) (tx : Nat) (le : Int32) (td : Nat) (dr : Nat) (nw : Nat) (ac : Nat) (fa : Int32) (kp : Nat) (ks : Int32) (sp : Nat) (ss : Nat) (sy : Nat) (sc : Int32) (sd : Int64) (tr : Nat) (ia : Nat) (sz : Nat)  : Ci l yX3_undo wsX3_undo ({ frames := 0, cells := 0, slots := 0, locals := 0 } : Room) D cI cZ cM [.ref h0] [(h0, .inr (3, [.ref tx, .int le, .ref td, .ref dr, .ref nw, .ref ac, .int fa, .int 0, .ref kp, .int ks, .ref sp, .ref ss, .ref sy, .int sc, .long sd, .ref tr, .ref ia]))] sz (fun (r : Int32) (u : Unit) => r.toInt = -3) (fun u => [(h0, .inr (3, [.ref tx, .int le, .ref td, .ref dr, .ref nw, .ref ac, .int fa, .int 0, .ref kp, .int ks, .ref sp, .ref ss, .ref sy, .int sc, .long sd, .ref tr, .ref ia]))]) 0 0 := by
  refine begins (l := l) (y := yX3_undo) (ws := wsX3_undo) (av := [.ref h0]) (Qc := fun A => va_Qi (fun (r : Int32) (u : Unit) => r.toInt = -3) (fun u => Wd D cI cZ cM A ((fun u => [(h0, .inr (3, [.ref tx, .int le, .ref td, .ref dr, .ref nw, .ref ac, .int fa, .int 0, .ref kp, .int ks, .ref sp, .ref ss, .ref sy, .int sc, .long sd, .ref tr, .ref ia]))]) u)) A) cX3_undo 2 (some .int) (by decide) rfl (Nat.le_of_ble_eq_true rfl) ?_
  intro p e s m args below meth c R Q A ls hBd hR hQ hA hS hK hP hD hl
  obtain ⟨hx, hb, hr, hts, hown, hlocks, hin, hml⟩ := hBd
  have hl : lv_has ls 2 [(0, .ref h0)] := hl
  have iX3 : ∀ w ∈ wsX30, w ∈ wsX3_undo := fun _ h => List.mem_cons_of_mem _ (List.mem_append_left _ (List.mem_append_right _ h))
  have iX1 : ∀ w ∈ wsX10, w ∈ wsX3_undo := fun _ h => List.mem_cons_of_mem _ (List.mem_append_right _ h)
  refine lv_aload_n hx hb dX3_undo_0 rfl (lv_at hl 0 rfl) ?_
  refine va_get (D := D) (ci := 3) (v := .int 0) (C := RX3) (T := TX3) (N := 17) hx hb hts iX3 hown hK hP 0 rfl rfl 7 (by decide) (hts (.fieldLink RX3 43 "PunchedTicket" "actsInRow" "I") (List.mem_of_getElem? (i := 1) rfl)) (fun _ h9 => h9) rfl dX3_undo_1 ?_
  refine lv_if_gt (tgt := 10) hx hb dX3_undo_4 (by decide) (fun c_1 => ?_) (fun c_1 => ?_)
  · have tc_1 := b_lt (show (0 : Int32).toInt = 0 by decide) (show (0 : Int32).toInt = 0 by decide) c_1
    exfalso; omega
  · have tc_1 := b_nlt (show (0 : Int32).toInt = 0 by decide) (show (0 : Int32).toInt = 0 by decide) c_1
    refine lv_bipush (v := (-3)) hx hb dX3_undo_7 (by decide) ?_
    exact ret_i (post := (fun (r : Int32) (u : Unit) => r.toInt = -3)) (W1 := (fun u => [(h0, .inr (3, [.ref tx, .int le, .ref td, .ref dr, .ref nw, .ref ac, .int fa, .int 0, .ref kp, .int ks, .ref sp, .ref ss, .ref sy, .int sc, .long sd, .ref tr, .ref ia]))])) () hx hb hr hlocks rfl hQ hK hP hD hS ⟨by decide, by decide⟩ dX3_undo_9 (show (-3 : Int) = -3 by omega)

set_option maxHeartbeats 600000 in
set_option maxRecDepth 100000 in
theorem c_X3_pairRefusal0 (l : Launch) (D : va_G) (cI cZ cM : ClassId) (h0 : Nat) (n : Int32) (k : Int32) (tx : Nat) (le : Int32) (td : Nat) (dr : Nat) (nw : Nat) (ac : Nat) (fa : Int32) (an : Int32) (kp : Nat) (ks : Int32) (sp : Nat) (ss : Nat) (sy : Nat) (sc : Int32) (sd : Int64) (tr : Nat) (ia : Nat) (ltk : Int32) (lho : Nat) (lli : Nat) (lki : Nat) (lfd : Nat) (lfr : Nat) (lto : Nat) (lse : Nat) (lhl : Nat) (sz : Nat)  : Ci l yX3_pairRefusal wsX3_pairRefusal ({ frames := 1, cells := 0, slots := 0, locals := 21 } : Room) D cI cZ cM [.ref h0, .int n, .int k] [(h0, .inr (3, [.ref tx, .int le, .ref td, .ref dr, .ref nw, .ref ac, .int fa, .int an, .ref kp, .int ks, .ref sp, .ref ss, .ref sy, .int sc, .long sd, .ref tr, .ref ia])), (td, .inr (0, [.int 0, .int ltk, .ref lho, .ref lli, .ref lki, .ref lfd, .ref lfr, .ref lto, .ref lse, .ref lhl]))] sz (fun (r : Int32) (u : Unit) => r.toInt = -1) (fun u => [(h0, .inr (3, [.ref tx, .int le, .ref td, .ref dr, .ref nw, .ref ac, .int fa, .int an, .ref kp, .int ks, .ref sp, .ref ss, .ref sy, .int sc, .long sd, .ref tr, .ref ia])), (td, .inr (0, [.int 0, .int ltk, .ref lho, .ref lli, .ref lki, .ref lfd, .ref lfr, .ref lto, .ref lse, .ref lhl]))]) 0 0 := by
  refine begins (l := l) (y := yX3_pairRefusal) (ws := wsX3_pairRefusal) (av := [.ref h0, .int n, .int k]) (Qc := fun A => va_Qi (fun (r : Int32) (u : Unit) => r.toInt = -1) (fun u => Wd D cI cZ cM A ((fun u => [(h0, .inr (3, [.ref tx, .int le, .ref td, .ref dr, .ref nw, .ref ac, .int fa, .int an, .ref kp, .int ks, .ref sp, .ref ss, .ref sy, .int sc, .long sd, .ref tr, .ref ia])), (td, .inr (0, [.int 0, .int ltk, .ref lho, .ref lli, .ref lki, .ref lfd, .ref lfr, .ref lto, .ref lse, .ref lhl]))]) u)) A) cX3_pairRefusal 3 (some .int) (by decide) rfl (Nat.le_of_ble_eq_true rfl) ?_
  intro p e s m args below meth c R Q A ls hBd hR hQ hA hS hK hP hD hl
  obtain ⟨hx, hb, hr, hts, hown, hlocks, hin, hml⟩ := hBd
  have hl : lv_has ls 3 [(0, .ref h0), (1, .int n), (2, .int k)] := hl
  have iX3 : ∀ w ∈ wsX30, w ∈ wsX3_pairRefusal := fun _ h => List.mem_cons_of_mem _ (List.mem_append_left _ (List.mem_append_right _ h))
  have iX0 : ∀ w ∈ wsX00, w ∈ wsX3_pairRefusal := fun _ h => List.mem_cons_of_mem _ (List.mem_append_right _ h)
  refine lv_aload_n hx hb dX3_pairRefusal_0 rfl (lv_at hl 0 rfl) ?_
  refine va_get (D := D) (ci := 3) (v := .ref td) (C := RX3) (T := TX3) (N := 17) hx hb hts iX3 hown hK hP 0 rfl rfl 2 (by decide) (hts (.fieldLink RX3 20 "PunchedTicket" "told" "LPunchedTicket$Line;") (List.mem_of_getElem? (i := 1) rfl)) (fun _ h9 => h9) rfl dX3_pairRefusal_1 ?_
  refine lv_iload_n hx hb dX3_pairRefusal_4 rfl (lv_at hl 1 rfl) ?_
  refine cV_i (As := [.int n]) (rest := []) ⟨hx, hb, hml, hown, hts⟩ (c_X0_hasPerson l D cI cZ cM td n 0 ltk lho lli lki lfd lfr lto lse lhl _ ) (cwV 1 hts gX3_pairRefusal_X0_hasPerson rfl rfl rfl (by decide +kernel) ⟨by rw [hR]; decide, by rw [hR]; decide⟩) hK hP hD hS hA [1] [0] rfl rfl (by decide) (by decide) (by decide) rfl 1 rfl hl.1 rfl rfl (Nat.le_of_ble_eq_true rfl) dX3_pairRefusal_5 ⟨by rw [hR]; decide, by rw [hR]; decide⟩ (fun r_1 u_2 H locs hw hP hD hS => ?_)
  have hP : va_P D vwCl [(h0, .inr (3, [.ref tx, .int le, .ref td, .ref dr, .ref nw, .ref ac, .int fa, .int an, .ref kp, .int ks, .ref sp, .ref ss, .ref sy, .int sc, .long sd, .ref tr, .ref ia])), (td, .inr (0, [.int 0, .int ltk, .ref lho, .ref lli, .ref lki, .ref lfd, .ref lfr, .ref lto, .ref lse, .ref lhl]))] H := hP.sub [0, 1] rfl
  have hD : va_D A [(h0, .inr (3, [.ref tx, .int le, .ref td, .ref dr, .ref nw, .ref ac, .int fa, .int an, .ref kp, .int ks, .ref sp, .ref ss, .ref sy, .int sc, .long sd, .ref tr, .ref ia])), (td, .inr (0, [.int 0, .int ltk, .ref lho, .ref lli, .ref lki, .ref lfd, .ref lfr, .ref lto, .ref lse, .ref lhl]))] := hD.sub [0, 1] (by decide) rfl
  refine W.widen (k := 0) (n := 0) (Nat.le_refl _) (Nat.le_refl _) ?_
  have hw : (r_1.toInt = 1 ∧ 0 ≤ n.toInt ∧ n.toInt < (0 : Int)) ∨ (r_1.toInt = 0 ∧ (n.toInt < 0 ∨ (0 : Int) ≤ n.toInt)) := hw
  have hw_3 := hw
  refine lv_if_eq (tgt := 22) hx hb dX3_pairRefusal_8 (by decide) (fun c_4 => ?_) (fun c_4 => ?_)
  · have tc_4 := b_eq rfl (show (0 : Int32).toInt = 0 by decide) c_4
    refine lv_iconst (v := (-1)) hx hb dX3_pairRefusal_22 (by decide) ?_
    exact ret_i (post := (fun (r : Int32) (u : Unit) => r.toInt = -1)) (W1 := (fun u => [(h0, .inr (3, [.ref tx, .int le, .ref td, .ref dr, .ref nw, .ref ac, .int fa, .int an, .ref kp, .int ks, .ref sp, .ref ss, .ref sy, .int sc, .long sd, .ref tr, .ref ia])), (td, .inr (0, [.int 0, .int ltk, .ref lho, .ref lli, .ref lki, .ref lfd, .ref lfr, .ref lto, .ref lse, .ref lhl]))])) () hx hb hr hlocks rfl hQ hK hP hD hS ⟨by decide, by decide⟩ dX3_pairRefusal_23 (show (-1 : Int) = -1 by omega)
  · have tc_4 := b_ne rfl (show (0 : Int32).toInt = 0 by decide) c_4
    exfalso; omega

set_option maxHeartbeats 600000 in
set_option maxRecDepth 100000 in
theorem c_X3_meet0 (l : Launch) (D : va_G) (cI cZ cM : ClassId) (h0 : Nat) (n : Int32) (k : Int32) (tx : Nat) (le : Int32) (td : Nat) (dr : Nat) (nw : Nat) (ac : Nat) (fa : Int32) (an : Int32) (kp : Nat) (ks : Int32) (sp : Nat) (ss : Nat) (sy : Nat) (sc : Int32) (sd : Int64) (tr : Nat) (ia : Nat) (ltk : Int32) (lho : Nat) (lli : Nat) (lki : Nat) (lfd : Nat) (lfr : Nat) (lto : Nat) (lse : Nat) (lhl : Nat) (sz : Nat)  : Ci l yX3_meet wsX3_meet ({ frames := 2, cells := 0, slots := 0, locals := 43 } : Room) D cI cZ cM [.ref h0, .int n, .int k] [(h0, .inr (3, [.ref tx, .int le, .ref td, .ref dr, .ref nw, .ref ac, .int fa, .int an, .ref kp, .int ks, .ref sp, .ref ss, .ref sy, .int sc, .long sd, .ref tr, .ref ia])), (td, .inr (0, [.int 0, .int ltk, .ref lho, .ref lli, .ref lki, .ref lfd, .ref lfr, .ref lto, .ref lse, .ref lhl]))] sz (fun (r : Int32) (u : Unit) => r.toInt = -1) (fun u => [(h0, .inr (3, [.ref tx, .int le, .ref td, .ref dr, .ref nw, .ref ac, .int fa, .int an, .ref kp, .int ks, .ref sp, .ref ss, .ref sy, .int sc, .long sd, .ref tr, .ref ia])), (td, .inr (0, [.int 0, .int ltk, .ref lho, .ref lli, .ref lki, .ref lfd, .ref lfr, .ref lto, .ref lse, .ref lhl]))]) 0 0 := by
  refine begins (l := l) (y := yX3_meet) (ws := wsX3_meet) (av := [.ref h0, .int n, .int k]) (Qc := fun A => va_Qi (fun (r : Int32) (u : Unit) => r.toInt = -1) (fun u => Wd D cI cZ cM A ((fun u => [(h0, .inr (3, [.ref tx, .int le, .ref td, .ref dr, .ref nw, .ref ac, .int fa, .int an, .ref kp, .int ks, .ref sp, .ref ss, .ref sy, .int sc, .long sd, .ref tr, .ref ia])), (td, .inr (0, [.int 0, .int ltk, .ref lho, .ref lli, .ref lki, .ref lfd, .ref lfr, .ref lto, .ref lse, .ref lhl]))]) u)) A) cX3_meet 4 (some .int) (by decide) rfl (Nat.le_of_ble_eq_true rfl) ?_
  intro p e s m args below meth c R Q A ls hBd hR hQ hA hS hK hP hD hl
  obtain ⟨hx, hb, hr, hts, hown, hlocks, hin, hml⟩ := hBd
  have hl : lv_has ls 4 [(0, .ref h0), (1, .int n), (2, .int k)] := hl
  have iX3 : ∀ w ∈ wsX30, w ∈ wsX3_meet := fun _ h => List.mem_cons_of_mem _ (List.mem_append_left _ (List.mem_append_left _ (List.mem_append_left _ (List.mem_append_right _ h))))
  have iX0 : ∀ w ∈ wsX00, w ∈ wsX3_meet := fun _ h => List.mem_cons_of_mem _ (List.mem_append_left _ (List.mem_append_left _ (List.mem_append_right _ h)))
  have iX2 : ∀ w ∈ wsX20, w ∈ wsX3_meet := fun _ h => List.mem_cons_of_mem _ (List.mem_append_left _ (List.mem_append_right _ h))
  have iX1 : ∀ w ∈ wsX10, w ∈ wsX3_meet := fun _ h => List.mem_cons_of_mem _ (List.mem_append_right _ h)
  refine lv_aload_n hx hb dX3_meet_0 rfl (lv_at hl 0 rfl) ?_
  refine lv_iload_n hx hb dX3_meet_1 rfl (lv_at hl 1 rfl) ?_
  refine lv_iload_n hx hb dX3_meet_2 rfl (lv_at hl 2 rfl) ?_
  refine cV_i (As := [.int n, .int k]) (rest := []) ⟨hx, hb, hml, hown, hts⟩ (c_X3_pairRefusal0 l D cI cZ cM h0 n k tx le td dr nw ac fa an kp ks sp ss sy sc sd tr ia ltk lho lli lki lfd lfr lto lse lhl _ ) (cwV 2 hts gX3_meet_X3_pairRefusal rfl rfl rfl (by decide +kernel) ⟨by rw [hR]; decide, by rw [hR]; decide⟩) hK hP hD hS hA [0, 1] [] rfl rfl (by decide) (by decide) (by decide) rfl 0 rfl hl.1 rfl rfl (Nat.le_of_ble_eq_true rfl) dX3_meet_3 ⟨by rw [hR]; decide, by rw [hR]; decide⟩ (fun r_1 u_2 H locs hw hP hD hS => ?_)
  have hP : va_P D vwCl [(h0, .inr (3, [.ref tx, .int le, .ref td, .ref dr, .ref nw, .ref ac, .int fa, .int an, .ref kp, .int ks, .ref sp, .ref ss, .ref sy, .int sc, .long sd, .ref tr, .ref ia])), (td, .inr (0, [.int 0, .int ltk, .ref lho, .ref lli, .ref lki, .ref lfd, .ref lfr, .ref lto, .ref lse, .ref lhl]))] H := hP.sub [0, 1] rfl
  have hD : va_D A [(h0, .inr (3, [.ref tx, .int le, .ref td, .ref dr, .ref nw, .ref ac, .int fa, .int an, .ref kp, .int ks, .ref sp, .ref ss, .ref sy, .int sc, .long sd, .ref tr, .ref ia])), (td, .inr (0, [.int 0, .int ltk, .ref lho, .ref lli, .ref lki, .ref lfd, .ref lfr, .ref lto, .ref lse, .ref lhl]))] := hD.sub [0, 1] (by decide) rfl
  refine W.widen (k := 0) (n := 0) (Nat.le_refl _) (Nat.le_refl _) ?_
  have hw : r_1.toInt = -1 := hw
  have hw_3 := hw
  refine lv_istore_n (lv' := [(3, .int r_1), (0, .ref h0), (1, .int n), (2, .int k)]) hx hb dX3_meet_6 rfl hl (by decide) rfl (fun ls hl => ?_)
  refine lv_iload_n hx hb dX3_meet_7 rfl (lv_at hl 0 rfl) ?_
  refine lv_if_eq (tgt := 13) hx hb dX3_meet_8 (by decide) (fun c_4 => ?_) (fun c_4 => ?_)
  · have tc_4 := b_eq rfl (show (0 : Int32).toInt = 0 by decide) c_4
    exfalso; omega
  · have tc_4 := b_ne rfl (show (0 : Int32).toInt = 0 by decide) c_4
    refine lv_iload_n hx hb dX3_meet_11 rfl (lv_at hl 0 rfl) ?_
    exact ret_i (post := (fun (r : Int32) (u : Unit) => r.toInt = -1)) (W1 := (fun u => [(h0, .inr (3, [.ref tx, .int le, .ref td, .ref dr, .ref nw, .ref ac, .int fa, .int an, .ref kp, .int ks, .ref sp, .ref ss, .ref sy, .int sc, .long sd, .ref tr, .ref ia])), (td, .inr (0, [.int 0, .int ltk, .ref lho, .ref lli, .ref lki, .ref lfd, .ref lfr, .ref lto, .ref lse, .ref lhl]))])) () hx hb hr hlocks rfl hQ hK hP hD hS ⟨by decide, by decide⟩ dX3_meet_12 (show r_1.toInt = -1 by omega)

set_option maxHeartbeats 600000 in
set_option maxRecDepth 100000 in
theorem c_X3_fewest0 (l : Launch) (D : va_G) (cI cZ cM : ClassId) (h0 : Nat) (n : Int32) (k : Int32) (z : Int32) (tx : Nat) (le : Int32) (td : Nat) (dr : Nat) (nw : Nat) (ac : Nat) (fa : Int32) (an : Int32) (kp : Nat) (ks : Int32) (sp : Nat) (ss : Nat) (sy : Nat) (sc : Int32) (sd : Int64) (tr : Nat) (ia : Nat) (ltk : Int32) (lho : Nat) (lli : Nat) (lki : Nat) (lfd : Nat) (lfr : Nat) (lto : Nat) (lse : Nat) (lhl : Nat) (sz : Nat)  : Ci l yX3_fewest wsX3_fewest ({ frames := 2, cells := 0, slots := 0, locals := 43 } : Room) D cI cZ cM [.ref h0, .int n, .int k, .int z] [(h0, .inr (3, [.ref tx, .int le, .ref td, .ref dr, .ref nw, .ref ac, .int fa, .int an, .ref kp, .int ks, .ref sp, .ref ss, .ref sy, .int sc, .long sd, .ref tr, .ref ia])), (td, .inr (0, [.int 0, .int ltk, .ref lho, .ref lli, .ref lki, .ref lfd, .ref lfr, .ref lto, .ref lse, .ref lhl]))] sz (fun (r : Int32) (u : Unit) => r.toInt = -1) (fun u => [(h0, .inr (3, [.ref tx, .int le, .ref td, .ref dr, .ref nw, .ref ac, .int fa, .int an, .ref kp, .int ks, .ref sp, .ref ss, .ref sy, .int sc, .long sd, .ref tr, .ref ia])), (td, .inr (0, [.int 0, .int ltk, .ref lho, .ref lli, .ref lki, .ref lfd, .ref lfr, .ref lto, .ref lse, .ref lhl]))]) 0 0 := by
  refine begins (l := l) (y := yX3_fewest) (ws := wsX3_fewest) (av := [.ref h0, .int n, .int k, .int z]) (Qc := fun A => va_Qi (fun (r : Int32) (u : Unit) => r.toInt = -1) (fun u => Wd D cI cZ cM A ((fun u => [(h0, .inr (3, [.ref tx, .int le, .ref td, .ref dr, .ref nw, .ref ac, .int fa, .int an, .ref kp, .int ks, .ref sp, .ref ss, .ref sy, .int sc, .long sd, .ref tr, .ref ia])), (td, .inr (0, [.int 0, .int ltk, .ref lho, .ref lli, .ref lki, .ref lfd, .ref lfr, .ref lto, .ref lse, .ref lhl]))]) u)) A) cX3_fewest 7 (some .int) (by decide) rfl (Nat.le_of_ble_eq_true rfl) ?_
  intro p e s m args below meth c R Q A ls hBd hR hQ hA hS hK hP hD hl
  obtain ⟨hx, hb, hr, hts, hown, hlocks, hin, hml⟩ := hBd
  have hl : lv_has ls 7 [(0, .ref h0), (1, .int n), (2, .int k), (3, .int z)] := hl
  have iX3 : ∀ w ∈ wsX30, w ∈ wsX3_fewest := fun _ h => List.mem_cons_of_mem _ (List.mem_append_left _ (List.mem_append_left _ (List.mem_append_left _ (List.mem_append_right _ h))))
  have iX0 : ∀ w ∈ wsX00, w ∈ wsX3_fewest := fun _ h => List.mem_cons_of_mem _ (List.mem_append_left _ (List.mem_append_left _ (List.mem_append_right _ h)))
  have iX2 : ∀ w ∈ wsX20, w ∈ wsX3_fewest := fun _ h => List.mem_cons_of_mem _ (List.mem_append_left _ (List.mem_append_right _ h))
  have iX1 : ∀ w ∈ wsX10, w ∈ wsX3_fewest := fun _ h => List.mem_cons_of_mem _ (List.mem_append_right _ h)
  refine lv_aload_n hx hb dX3_fewest_0 rfl (lv_at hl 0 rfl) ?_
  refine lv_iload_n hx hb dX3_fewest_1 rfl (lv_at hl 1 rfl) ?_
  refine lv_iload_n hx hb dX3_fewest_2 rfl (lv_at hl 2 rfl) ?_
  refine cV_i (As := [.int n, .int k]) (rest := []) ⟨hx, hb, hml, hown, hts⟩ (c_X3_pairRefusal0 l D cI cZ cM h0 n k tx le td dr nw ac fa an kp ks sp ss sy sc sd tr ia ltk lho lli lki lfd lfr lto lse lhl _ ) (cwV 2 hts gX3_fewest_X3_pairRefusal rfl rfl rfl (by decide +kernel) ⟨by rw [hR]; decide, by rw [hR]; decide⟩) hK hP hD hS hA [0, 1] [] rfl rfl (by decide) (by decide) (by decide) rfl 0 rfl hl.1 rfl rfl (Nat.le_of_ble_eq_true rfl) dX3_fewest_3 ⟨by rw [hR]; decide, by rw [hR]; decide⟩ (fun r_1 u_2 H locs hw hP hD hS => ?_)
  have hP : va_P D vwCl [(h0, .inr (3, [.ref tx, .int le, .ref td, .ref dr, .ref nw, .ref ac, .int fa, .int an, .ref kp, .int ks, .ref sp, .ref ss, .ref sy, .int sc, .long sd, .ref tr, .ref ia])), (td, .inr (0, [.int 0, .int ltk, .ref lho, .ref lli, .ref lki, .ref lfd, .ref lfr, .ref lto, .ref lse, .ref lhl]))] H := hP.sub [0, 1] rfl
  have hD : va_D A [(h0, .inr (3, [.ref tx, .int le, .ref td, .ref dr, .ref nw, .ref ac, .int fa, .int an, .ref kp, .int ks, .ref sp, .ref ss, .ref sy, .int sc, .long sd, .ref tr, .ref ia])), (td, .inr (0, [.int 0, .int ltk, .ref lho, .ref lli, .ref lki, .ref lfd, .ref lfr, .ref lto, .ref lse, .ref lhl]))] := hD.sub [0, 1] (by decide) rfl
  refine W.widen (k := 0) (n := 0) (Nat.le_refl _) (Nat.le_refl _) ?_
  have hw : r_1.toInt = -1 := hw
  have hw_3 := hw
  refine lv_istore (lv' := [(4, .int r_1), (0, .ref h0), (1, .int n), (2, .int k), (3, .int z)]) hx hb dX3_fewest_6 hl (by decide) rfl (fun ls hl => ?_)
  refine lv_iload hx hb dX3_fewest_8 (lv_at hl 0 rfl) ?_
  refine lv_if_eq (tgt := 16) hx hb dX3_fewest_10 (by decide) (fun c_4 => ?_) (fun c_4 => ?_)
  · have tc_4 := b_eq rfl (show (0 : Int32).toInt = 0 by decide) c_4
    exfalso; omega
  · have tc_4 := b_ne rfl (show (0 : Int32).toInt = 0 by decide) c_4
    refine lv_iload hx hb dX3_fewest_13 (lv_at hl 0 rfl) ?_
    exact ret_i (post := (fun (r : Int32) (u : Unit) => r.toInt = -1)) (W1 := (fun u => [(h0, .inr (3, [.ref tx, .int le, .ref td, .ref dr, .ref nw, .ref ac, .int fa, .int an, .ref kp, .int ks, .ref sp, .ref ss, .ref sy, .int sc, .long sd, .ref tr, .ref ia])), (td, .inr (0, [.int 0, .int ltk, .ref lho, .ref lli, .ref lki, .ref lfd, .ref lfr, .ref lto, .ref lse, .ref lhl]))])) () hx hb hr hlocks rfl hQ hK hP hD hS ⟨by decide, by decide⟩ dX3_fewest_15 (show r_1.toInt = -1 by omega)
