theorem dX4_in_0 : decode cX4_in 0 = .ok (.lload_n 0, 1) := by decide +kernel
theorem dX4_in_1 : decode cX4_in 1 = .ok (.lload_n 2, 1) := by decide +kernel
theorem dX4_in_2 : decode cX4_in 2 = .ok (.lcmp, 1) := by decide +kernel
theorem dX4_in_3 : decode cX4_in 3 = .ok (.ifCond .lt 14, 3) := by decide +kernel
theorem dX4_in_6 : decode cX4_in 6 = .ok (.lload_n 0, 1) := by decide +kernel
theorem dX4_in_7 : decode cX4_in 7 = .ok (.lload 4, 2) := by decide +kernel
theorem dX4_in_9 : decode cX4_in 9 = .ok (.lcmp, 1) := by decide +kernel
theorem dX4_in_10 : decode cX4_in 10 = .ok (.ifCond .gt 7, 3) := by decide +kernel
theorem dX4_in_13 : decode cX4_in 13 = .ok (.iconst 1, 1) := by decide +kernel
theorem dX4_in_14 : decode cX4_in 14 = .ok (.goto 4, 3) := by decide +kernel
theorem dX4_in_17 : decode cX4_in 17 = .ok (.iconst 0, 1) := by decide +kernel
theorem dX4_in_18 : decode cX4_in 18 = .ok (.ireturn, 1) := by decide +kernel
theorem dX4_has_0 : decode cX4_has 0 = .ok (.iload_n 0, 1) := by decide +kernel
theorem dX4_has_1 : decode cX4_has 1 = .ok (.iload_n 1, 1) := by decide +kernel
theorem dX4_has_2 : decode cX4_has 2 = .ok (.ishr, 1) := by decide +kernel
theorem dX4_has_3 : decode cX4_has 3 = .ok (.iconst 1, 1) := by decide +kernel
theorem dX4_has_4 : decode cX4_has 4 = .ok (.iand, 1) := by decide +kernel
theorem dX4_has_5 : decode cX4_has 5 = .ok (.iconst 1, 1) := by decide +kernel
theorem dX4_has_6 : decode cX4_has 6 = .ok (.if_icmp .ne 7, 3) := by decide +kernel
theorem dX4_has_9 : decode cX4_has 9 = .ok (.iconst 1, 1) := by decide +kernel
theorem dX4_has_10 : decode cX4_has 10 = .ok (.goto 4, 3) := by decide +kernel
theorem dX4_has_13 : decode cX4_has 13 = .ok (.iconst 0, 1) := by decide +kernel
theorem dX4_has_14 : decode cX4_has 14 = .ok (.ireturn, 1) := by decide +kernel
theorem dX4_ones_0 : decode cX4_ones 0 = .ok (.iconst 0, 1) := by decide +kernel
theorem dX4_ones_1 : decode cX4_ones 1 = .ok (.istore_n 1, 1) := by decide +kernel
theorem dX4_ones_2 : decode cX4_ones 2 = .ok (.iconst 0, 1) := by decide +kernel
theorem dX4_ones_3 : decode cX4_ones 3 = .ok (.istore_n 2, 1) := by decide +kernel
theorem dX4_ones_4 : decode cX4_ones 4 = .ok (.iload_n 2, 1) := by decide +kernel
theorem dX4_ones_5 : decode cX4_ones 5 = .ok (.bipush 7, 2) := by decide +kernel
theorem dX4_ones_7 : decode cX4_ones 7 = .ok (.if_icmp .ge 17, 3) := by decide +kernel
theorem dX4_ones_10 : decode cX4_ones 10 = .ok (.iload_n 1, 1) := by decide +kernel
theorem dX4_ones_11 : decode cX4_ones 11 = .ok (.iload_n 0, 1) := by decide +kernel
theorem dX4_ones_12 : decode cX4_ones 12 = .ok (.iload_n 2, 1) := by decide +kernel
theorem dX4_ones_13 : decode cX4_ones 13 = .ok (.ishr, 1) := by decide +kernel
theorem dX4_ones_14 : decode cX4_ones 14 = .ok (.iconst 1, 1) := by decide +kernel
theorem dX4_ones_15 : decode cX4_ones 15 = .ok (.iand, 1) := by decide +kernel
theorem dX4_ones_16 : decode cX4_ones 16 = .ok (.iadd, 1) := by decide +kernel
theorem dX4_ones_17 : decode cX4_ones 17 = .ok (.istore_n 1, 1) := by decide +kernel
theorem dX4_ones_18 : decode cX4_ones 18 = .ok (.iinc 2 1, 3) := by decide +kernel
theorem dX4_ones_21 : decode cX4_ones 21 = .ok (.goto (-17), 3) := by decide +kernel
theorem dX4_ones_24 : decode cX4_ones 24 = .ok (.iload_n 1, 1) := by decide +kernel
theorem dX4_ones_25 : decode cX4_ones 25 = .ok (.ireturn, 1) := by decide +kernel
set_option maxRecDepth 20000 in
theorem ggX4_write_X4_in : GoodIn wsX4_write wsX4_in := goodIn_r _ [7] rfl (by decide +kernel)
set_option maxRecDepth 20000 in
theorem gX4_write_X4_in : GoodIn wsX4_write (va_wsS RX4 74 yX4_in wsX4_in) := goodIn_app (goodIn_of _ (by decide +kernel)) ggX4_write_X4_in
theorem dX4_write_0 : decode cX4_write 0 = .ok (.iload_n 1, 1) := by decide +kernel
theorem dX4_write_1 : decode cX4_write 1 = .ok (.i2l, 1) := by decide +kernel
theorem dX4_write_2 : decode cX4_write 2 = .ok (.lconst 0, 1) := by decide +kernel
theorem dX4_write_3 : decode cX4_write 3 = .ok (.ldc2_w 72, 3) := by decide +kernel
theorem dX4_write_6 : decode cX4_write 6 = .ok (.invokestatic 74, 3) := by decide +kernel
theorem dX4_write_9 : decode cX4_write 9 = .ok (.ifCond .ne 6, 3) := by decide +kernel
theorem dX4_write_12 : decode cX4_write 12 = .ok (.bipush (-2), 2) := by decide +kernel
theorem dX4_write_14 : decode cX4_write 14 = .ok (.ireturn, 1) := by decide +kernel
theorem dX4_write_15 : decode cX4_write 15 = .ok (.aload_n 0, 1) := by decide +kernel
theorem dX4_write_16 : decode cX4_write 16 = .ok (.getfield 78, 3) := by decide +kernel
theorem dX4_write_19 : decode cX4_write 19 = .ok (.bipush 64, 2) := by decide +kernel
theorem dX4_write_21 : decode cX4_write 21 = .ok (.if_icmp .ne 6, 3) := by decide +kernel
theorem dX4_write_24 : decode cX4_write 24 = .ok (.bipush (-4), 2) := by decide +kernel
theorem dX4_write_26 : decode cX4_write 26 = .ok (.ireturn, 1) := by decide +kernel
theorem dX4_write_27 : decode cX4_write 27 = .ok (.aload_n 0, 1) := by decide +kernel
theorem dX4_write_28 : decode cX4_write 28 = .ok (.getfield 34, 3) := by decide +kernel
theorem dX4_write_31 : decode cX4_write 31 = .ok (.aload_n 0, 1) := by decide +kernel
theorem dX4_write_32 : decode cX4_write 32 = .ok (.getfield 78, 3) := by decide +kernel
theorem dX4_write_35 : decode cX4_write 35 = .ok (.iload_n 1, 1) := by decide +kernel
theorem dX4_write_36 : decode cX4_write 36 = .ok (.iastore, 1) := by decide +kernel
theorem dX4_write_37 : decode cX4_write 37 = .ok (.aload_n 0, 1) := by decide +kernel
theorem dX4_write_38 : decode cX4_write 38 = .ok (.dup, 1) := by decide +kernel
theorem dX4_write_39 : decode cX4_write 39 = .ok (.getfield 78, 3) := by decide +kernel
theorem dX4_write_42 : decode cX4_write 42 = .ok (.iconst 1, 1) := by decide +kernel
theorem dX4_write_43 : decode cX4_write 43 = .ok (.iadd, 1) := by decide +kernel
theorem dX4_write_44 : decode cX4_write 44 = .ok (.putfield 78, 3) := by decide +kernel
theorem dX4_write_47 : decode cX4_write 47 = .ok (.aload_n 0, 1) := by decide +kernel
theorem dX4_write_48 : decode cX4_write 48 = .ok (.getfield 78, 3) := by decide +kernel
theorem dX4_write_51 : decode cX4_write 51 = .ok (.ireturn, 1) := by decide +kernel
theorem dX4_wipe_0 : decode cX4_wipe 0 = .ok (.aload_n 0, 1) := by decide +kernel
theorem dX4_wipe_1 : decode cX4_wipe 1 = .ok (.getfield 78, 3) := by decide +kernel
theorem dX4_wipe_4 : decode cX4_wipe 4 = .ok (.istore_n 1, 1) := by decide +kernel
theorem dX4_wipe_5 : decode cX4_wipe 5 = .ok (.aload_n 0, 1) := by decide +kernel
theorem dX4_wipe_6 : decode cX4_wipe 6 = .ok (.iconst 0, 1) := by decide +kernel
theorem dX4_wipe_7 : decode cX4_wipe 7 = .ok (.putfield 78, 3) := by decide +kernel
theorem dX4_wipe_10 : decode cX4_wipe 10 = .ok (.iload_n 1, 1) := by decide +kernel
theorem dX4_wipe_11 : decode cX4_wipe 11 = .ok (.ireturn, 1) := by decide +kernel
set_option maxRecDepth 20000 in
theorem ggX4_isPerson_X4_in : GoodIn wsX4_isPerson wsX4_in := goodIn_r _ [5] rfl (by decide +kernel)
set_option maxRecDepth 20000 in
theorem gX4_isPerson_X4_in : GoodIn wsX4_isPerson (va_wsS RX4 74 yX4_in wsX4_in) := goodIn_app (goodIn_of _ (by decide +kernel)) ggX4_isPerson_X4_in
theorem dX4_isPerson_0 : decode cX4_isPerson 0 = .ok (.iload_n 1, 1) := by decide +kernel
theorem dX4_isPerson_1 : decode cX4_isPerson 1 = .ok (.i2l, 1) := by decide +kernel
theorem dX4_isPerson_2 : decode cX4_isPerson 2 = .ok (.lconst 0, 1) := by decide +kernel
theorem dX4_isPerson_3 : decode cX4_isPerson 3 = .ok (.aload_n 0, 1) := by decide +kernel
theorem dX4_isPerson_4 : decode cX4_isPerson 4 = .ok (.getfield 68, 3) := by decide +kernel
theorem dX4_isPerson_7 : decode cX4_isPerson 7 = .ok (.iconst 1, 1) := by decide +kernel
theorem dX4_isPerson_8 : decode cX4_isPerson 8 = .ok (.isub, 1) := by decide +kernel
theorem dX4_isPerson_9 : decode cX4_isPerson 9 = .ok (.i2l, 1) := by decide +kernel
theorem dX4_isPerson_10 : decode cX4_isPerson 10 = .ok (.invokestatic 74, 3) := by decide +kernel
theorem dX4_isPerson_13 : decode cX4_isPerson 13 = .ok (.ireturn, 1) := by decide +kernel
set_option maxRecDepth 20000 in
theorem ggX4_isTicket_X4_in : GoodIn wsX4_isTicket wsX4_in := goodIn_r _ [5] rfl (by decide +kernel)
set_option maxRecDepth 20000 in
theorem gX4_isTicket_X4_in : GoodIn wsX4_isTicket (va_wsS RX4 74 yX4_in wsX4_in) := goodIn_app (goodIn_of _ (by decide +kernel)) ggX4_isTicket_X4_in
theorem dX4_isTicket_0 : decode cX4_isTicket 0 = .ok (.iload_n 1, 1) := by decide +kernel
theorem dX4_isTicket_1 : decode cX4_isTicket 1 = .ok (.i2l, 1) := by decide +kernel
theorem dX4_isTicket_2 : decode cX4_isTicket 2 = .ok (.lconst 0, 1) := by decide +kernel
theorem dX4_isTicket_3 : decode cX4_isTicket 3 = .ok (.aload_n 0, 1) := by decide +kernel
theorem dX4_isTicket_4 : decode cX4_isTicket 4 = .ok (.getfield 101, 3) := by decide +kernel
theorem dX4_isTicket_7 : decode cX4_isTicket 7 = .ok (.iconst 1, 1) := by decide +kernel
theorem dX4_isTicket_8 : decode cX4_isTicket 8 = .ok (.isub, 1) := by decide +kernel
theorem dX4_isTicket_9 : decode cX4_isTicket 9 = .ok (.i2l, 1) := by decide +kernel
theorem dX4_isTicket_10 : decode cX4_isTicket 10 = .ok (.invokestatic 74, 3) := by decide +kernel
theorem dX4_isTicket_13 : decode cX4_isTicket 13 = .ok (.ireturn, 1) := by decide +kernel
theorem dX4_isGone_0 : decode cX4_isGone 0 = .ok (.aload_n 0, 1) := by decide +kernel
theorem dX4_isGone_1 : decode cX4_isGone 1 = .ok (.getfield 19, 3) := by decide +kernel
theorem dX4_isGone_4 : decode cX4_isGone 4 = .ok (.bipush 6, 2) := by decide +kernel
theorem dX4_isGone_6 : decode cX4_isGone 6 = .ok (.bipush 6, 2) := by decide +kernel
theorem dX4_isGone_8 : decode cX4_isGone 8 = .ok (.iload_n 1, 1) := by decide +kernel
theorem dX4_isGone_9 : decode cX4_isGone 9 = .ok (.imul, 1) := by decide +kernel
theorem dX4_isGone_10 : decode cX4_isGone 10 = .ok (.iadd, 1) := by decide +kernel
theorem dX4_isGone_11 : decode cX4_isGone 11 = .ok (.iconst 5, 1) := by decide +kernel
theorem dX4_isGone_12 : decode cX4_isGone 12 = .ok (.iadd, 1) := by decide +kernel
theorem dX4_isGone_13 : decode cX4_isGone 13 = .ok (.iaload, 1) := by decide +kernel
theorem dX4_isGone_14 : decode cX4_isGone 14 = .ok (.iconst 1, 1) := by decide +kernel
theorem dX4_isGone_15 : decode cX4_isGone 15 = .ok (.if_icmp .ne 7, 3) := by decide +kernel
theorem dX4_isGone_18 : decode cX4_isGone 18 = .ok (.iconst 1, 1) := by decide +kernel
theorem dX4_isGone_19 : decode cX4_isGone 19 = .ok (.goto 4, 3) := by decide +kernel
theorem dX4_isGone_22 : decode cX4_isGone 22 = .ok (.iconst 0, 1) := by decide +kernel
theorem dX4_isGone_23 : decode cX4_isGone 23 = .ok (.ireturn, 1) := by decide +kernel
theorem dX4_holder_0 : decode cX4_holder 0 = .ok (.aload_n 0, 1) := by decide +kernel
theorem dX4_holder_1 : decode cX4_holder 1 = .ok (.getfield 19, 3) := by decide +kernel
theorem dX4_holder_4 : decode cX4_holder 4 = .ok (.bipush 6, 2) := by decide +kernel
theorem dX4_holder_6 : decode cX4_holder 6 = .ok (.bipush 6, 2) := by decide +kernel
theorem dX4_holder_8 : decode cX4_holder 8 = .ok (.iload_n 1, 1) := by decide +kernel
theorem dX4_holder_9 : decode cX4_holder 9 = .ok (.imul, 1) := by decide +kernel
theorem dX4_holder_10 : decode cX4_holder 10 = .ok (.iadd, 1) := by decide +kernel
theorem dX4_holder_11 : decode cX4_holder 11 = .ok (.iconst 3, 1) := by decide +kernel
theorem dX4_holder_12 : decode cX4_holder 12 = .ok (.iadd, 1) := by decide +kernel
theorem dX4_holder_13 : decode cX4_holder 13 = .ok (.iaload, 1) := by decide +kernel
theorem dX4_holder_14 : decode cX4_holder 14 = .ok (.ireturn, 1) := by decide +kernel
set_option maxRecDepth 20000 in
theorem ggX4_goneNow_X4_isGone : GoodIn wsX4_goneNow wsX4_isGone := goodIn_r _ [6, 7, 8, 9, 10, 11, 12, 13, 14, 15, 16, 17, 18, 19, 20, 21, 22, 23, 24, 25, 26, 27, 28, 29, 30, 31, 32, 33, 34, 35, 36, 37] rfl (by decide +kernel)
set_option maxRecDepth 20000 in
theorem gX4_goneNow_X4_isGone : GoodIn wsX4_goneNow (wsV RX4 107 RX4 yX4_isGone wsX4_isGone) := goodIn_app (goodIn_r _ [2, 3, 4, 5] rfl (by decide +kernel)) ggX4_goneNow_X4_isGone
theorem dX4_goneNow_0 : decode cX4_goneNow 0 = .ok (.iconst 0, 1) := by decide +kernel
theorem dX4_goneNow_1 : decode cX4_goneNow 1 = .ok (.istore_n 1, 1) := by decide +kernel
theorem dX4_goneNow_2 : decode cX4_goneNow 2 = .ok (.iconst 0, 1) := by decide +kernel
theorem dX4_goneNow_3 : decode cX4_goneNow 3 = .ok (.istore_n 2, 1) := by decide +kernel
theorem dX4_goneNow_4 : decode cX4_goneNow 4 = .ok (.iload_n 2, 1) := by decide +kernel
theorem dX4_goneNow_5 : decode cX4_goneNow 5 = .ok (.aload_n 0, 1) := by decide +kernel
theorem dX4_goneNow_6 : decode cX4_goneNow 6 = .ok (.getfield 101, 3) := by decide +kernel
theorem dX4_goneNow_9 : decode cX4_goneNow 9 = .ok (.if_icmp .ge 27, 3) := by decide +kernel
theorem dX4_goneNow_12 : decode cX4_goneNow 12 = .ok (.iload_n 1, 1) := by decide +kernel
theorem dX4_goneNow_13 : decode cX4_goneNow 13 = .ok (.aload_n 0, 1) := by decide +kernel
theorem dX4_goneNow_14 : decode cX4_goneNow 14 = .ok (.iload_n 2, 1) := by decide +kernel
theorem dX4_goneNow_15 : decode cX4_goneNow 15 = .ok (.invokevirtual 107, 3) := by decide +kernel
theorem dX4_goneNow_18 : decode cX4_goneNow 18 = .ok (.ifCond .eq 9, 3) := by decide +kernel
theorem dX4_goneNow_21 : decode cX4_goneNow 21 = .ok (.iconst 1, 1) := by decide +kernel
theorem dX4_goneNow_22 : decode cX4_goneNow 22 = .ok (.iload_n 2, 1) := by decide +kernel
theorem dX4_goneNow_23 : decode cX4_goneNow 23 = .ok (.ishl, 1) := by decide +kernel
theorem dX4_goneNow_24 : decode cX4_goneNow 24 = .ok (.goto 4, 3) := by decide +kernel
theorem dX4_goneNow_27 : decode cX4_goneNow 27 = .ok (.iconst 0, 1) := by decide +kernel
theorem dX4_goneNow_28 : decode cX4_goneNow 28 = .ok (.ior, 1) := by decide +kernel
theorem dX4_goneNow_29 : decode cX4_goneNow 29 = .ok (.istore_n 1, 1) := by decide +kernel
theorem dX4_goneNow_30 : decode cX4_goneNow 30 = .ok (.iinc 2 1, 3) := by decide +kernel
theorem dX4_goneNow_33 : decode cX4_goneNow 33 = .ok (.goto (-29), 3) := by decide +kernel
theorem dX4_goneNow_36 : decode cX4_goneNow 36 = .ok (.iload_n 1, 1) := by decide +kernel
theorem dX4_goneNow_37 : decode cX4_goneNow 37 = .ok (.ireturn, 1) := by decide +kernel
theorem dX4_goesBy_0 : decode cX4_goesBy 0 = .ok (.bipush 48, 2) := by decide +kernel
theorem dX4_goesBy_2 : decode cX4_goesBy 2 = .ok (.iload_n 1, 1) := by decide +kernel
theorem dX4_goesBy_3 : decode cX4_goesBy 3 = .ok (.imul, 1) := by decide +kernel
theorem dX4_goesBy_4 : decode cX4_goesBy 4 = .ok (.istore 4, 2) := by decide +kernel
theorem dX4_goesBy_6 : decode cX4_goesBy 6 = .ok (.bipush (-9), 2) := by decide +kernel
theorem dX4_goesBy_8 : decode cX4_goesBy 8 = .ok (.istore 5, 2) := by decide +kernel
theorem dX4_goesBy_10 : decode cX4_goesBy 10 = .ok (.iload_n 3, 1) := by decide +kernel
theorem dX4_goesBy_11 : decode cX4_goesBy 11 = .ok (.iconst 1, 1) := by decide +kernel
theorem dX4_goesBy_12 : decode cX4_goesBy 12 = .ok (.isub, 1) := by decide +kernel
theorem dX4_goesBy_13 : decode cX4_goesBy 13 = .ok (.istore 6, 2) := by decide +kernel
theorem dX4_goesBy_15 : decode cX4_goesBy 15 = .ok (.iload 6, 2) := by decide +kernel
theorem dX4_goesBy_17 : decode cX4_goesBy 17 = .ok (.ifCond .lt 108, 3) := by decide +kernel
theorem dX4_goesBy_20 : decode cX4_goesBy 20 = .ok (.iload 4, 2) := by decide +kernel
theorem dX4_goesBy_22 : decode cX4_goesBy 22 = .ok (.bipush 6, 2) := by decide +kernel
theorem dX4_goesBy_24 : decode cX4_goesBy 24 = .ok (.iadd, 1) := by decide +kernel
theorem dX4_goesBy_25 : decode cX4_goesBy 25 = .ok (.bipush 6, 2) := by decide +kernel
theorem dX4_goesBy_27 : decode cX4_goesBy 27 = .ok (.iload 6, 2) := by decide +kernel
theorem dX4_goesBy_29 : decode cX4_goesBy 29 = .ok (.imul, 1) := by decide +kernel
theorem dX4_goesBy_30 : decode cX4_goesBy 30 = .ok (.iadd, 1) := by decide +kernel
theorem dX4_goesBy_31 : decode cX4_goesBy 31 = .ok (.istore 7, 2) := by decide +kernel
theorem dX4_goesBy_33 : decode cX4_goesBy 33 = .ok (.aload_n 0, 1) := by decide +kernel
theorem dX4_goesBy_34 : decode cX4_goesBy 34 = .ok (.getfield 19, 3) := by decide +kernel
theorem dX4_goesBy_37 : decode cX4_goesBy 37 = .ok (.iload 7, 2) := by decide +kernel
theorem dX4_goesBy_39 : decode cX4_goesBy 39 = .ok (.iconst 5, 1) := by decide +kernel
theorem dX4_goesBy_40 : decode cX4_goesBy 40 = .ok (.iadd, 1) := by decide +kernel
theorem dX4_goesBy_41 : decode cX4_goesBy 41 = .ok (.iaload, 1) := by decide +kernel
theorem dX4_goesBy_42 : decode cX4_goesBy 42 = .ok (.ifCond .ne 37, 3) := by decide +kernel
theorem dX4_goesBy_45 : decode cX4_goesBy 45 = .ok (.aload_n 0, 1) := by decide +kernel
theorem dX4_goesBy_46 : decode cX4_goesBy 46 = .ok (.getfield 19, 3) := by decide +kernel
theorem dX4_goesBy_49 : decode cX4_goesBy 49 = .ok (.iload 7, 2) := by decide +kernel
theorem dX4_goesBy_51 : decode cX4_goesBy 51 = .ok (.iconst 3, 1) := by decide +kernel
theorem dX4_goesBy_52 : decode cX4_goesBy 52 = .ok (.iadd, 1) := by decide +kernel
theorem dX4_goesBy_53 : decode cX4_goesBy 53 = .ok (.iaload, 1) := by decide +kernel
theorem dX4_goesBy_54 : decode cX4_goesBy 54 = .ok (.iload_n 2, 1) := by decide +kernel
theorem dX4_goesBy_55 : decode cX4_goesBy 55 = .ok (.if_icmp .ne 24, 3) := by decide +kernel
theorem dX4_goesBy_58 : decode cX4_goesBy 58 = .ok (.aload_n 0, 1) := by decide +kernel
theorem dX4_goesBy_59 : decode cX4_goesBy 59 = .ok (.getfield 19, 3) := by decide +kernel
theorem dX4_goesBy_62 : decode cX4_goesBy 62 = .ok (.iload 7, 2) := by decide +kernel
theorem dX4_goesBy_64 : decode cX4_goesBy 64 = .ok (.iaload, 1) := by decide +kernel
theorem dX4_goesBy_65 : decode cX4_goesBy 65 = .ok (.aload_n 0, 1) := by decide +kernel
theorem dX4_goesBy_66 : decode cX4_goesBy 66 = .ok (.getfield 19, 3) := by decide +kernel
theorem dX4_goesBy_69 : decode cX4_goesBy 69 = .ok (.iload 4, 2) := by decide +kernel
theorem dX4_goesBy_71 : decode cX4_goesBy 71 = .ok (.iaload, 1) := by decide +kernel
theorem dX4_goesBy_72 : decode cX4_goesBy 72 = .ok (.if_icmp .ne 7, 3) := by decide +kernel
theorem dX4_goesBy_75 : decode cX4_goesBy 75 = .ok (.iconst 1, 1) := by decide +kernel
theorem dX4_goesBy_76 : decode cX4_goesBy 76 = .ok (.goto 4, 3) := by decide +kernel
theorem dX4_goesBy_79 : decode cX4_goesBy 79 = .ok (.iconst 0, 1) := by decide +kernel
theorem dX4_goesBy_80 : decode cX4_goesBy 80 = .ok (.istore 8, 2) := by decide +kernel
theorem dX4_goesBy_82 : decode cX4_goesBy 82 = .ok (.iload 8, 2) := by decide +kernel
theorem dX4_goesBy_84 : decode cX4_goesBy 84 = .ok (.ifCond .eq 31, 3) := by decide +kernel
theorem dX4_goesBy_87 : decode cX4_goesBy 87 = .ok (.aload_n 0, 1) := by decide +kernel
theorem dX4_goesBy_88 : decode cX4_goesBy 88 = .ok (.getfield 19, 3) := by decide +kernel
theorem dX4_goesBy_91 : decode cX4_goesBy 91 = .ok (.iload 7, 2) := by decide +kernel
theorem dX4_goesBy_93 : decode cX4_goesBy 93 = .ok (.iconst 1, 1) := by decide +kernel
theorem dX4_goesBy_94 : decode cX4_goesBy 94 = .ok (.iadd, 1) := by decide +kernel
theorem dX4_goesBy_95 : decode cX4_goesBy 95 = .ok (.iaload, 1) := by decide +kernel
theorem dX4_goesBy_96 : decode cX4_goesBy 96 = .ok (.aload_n 0, 1) := by decide +kernel
theorem dX4_goesBy_97 : decode cX4_goesBy 97 = .ok (.getfield 19, 3) := by decide +kernel
theorem dX4_goesBy_100 : decode cX4_goesBy 100 = .ok (.iload 4, 2) := by decide +kernel
theorem dX4_goesBy_102 : decode cX4_goesBy 102 = .ok (.iconst 1, 1) := by decide +kernel
theorem dX4_goesBy_103 : decode cX4_goesBy 103 = .ok (.iadd, 1) := by decide +kernel
theorem dX4_goesBy_104 : decode cX4_goesBy 104 = .ok (.iload_n 2, 1) := by decide +kernel
theorem dX4_goesBy_105 : decode cX4_goesBy 105 = .ok (.iadd, 1) := by decide +kernel
theorem dX4_goesBy_106 : decode cX4_goesBy 106 = .ok (.iaload, 1) := by decide +kernel
theorem dX4_goesBy_107 : decode cX4_goesBy 107 = .ok (.if_icmp .ne 8, 3) := by decide +kernel
theorem dX4_goesBy_110 : decode cX4_goesBy 110 = .ok (.iload 6, 2) := by decide +kernel
theorem dX4_goesBy_112 : decode cX4_goesBy 112 = .ok (.goto 5, 3) := by decide +kernel
theorem dX4_goesBy_115 : decode cX4_goesBy 115 = .ok (.iload 5, 2) := by decide +kernel
theorem dX4_goesBy_117 : decode cX4_goesBy 117 = .ok (.istore 5, 2) := by decide +kernel
theorem dX4_goesBy_119 : decode cX4_goesBy 119 = .ok (.iinc 6 (-1), 3) := by decide +kernel
theorem dX4_goesBy_122 : decode cX4_goesBy 122 = .ok (.goto (-107), 3) := by decide +kernel
theorem dX4_goesBy_125 : decode cX4_goesBy 125 = .ok (.aload_n 0, 1) := by decide +kernel
theorem dX4_goesBy_126 : decode cX4_goesBy 126 = .ok (.getfield 13, 3) := by decide +kernel
theorem dX4_goesBy_129 : decode cX4_goesBy 129 = .ok (.iload_n 2, 1) := by decide +kernel
theorem dX4_goesBy_130 : decode cX4_goesBy 130 = .ok (.iaload, 1) := by decide +kernel
theorem dX4_goesBy_131 : decode cX4_goesBy 131 = .ok (.iconst 3, 1) := by decide +kernel
theorem dX4_goesBy_132 : decode cX4_goesBy 132 = .ok (.if_icmp .eq 15, 3) := by decide +kernel
theorem dX4_goesBy_135 : decode cX4_goesBy 135 = .ok (.aload_n 0, 1) := by decide +kernel
theorem dX4_goesBy_136 : decode cX4_goesBy 136 = .ok (.getfield 19, 3) := by decide +kernel
theorem dX4_goesBy_139 : decode cX4_goesBy 139 = .ok (.iload 4, 2) := by decide +kernel
theorem dX4_goesBy_141 : decode cX4_goesBy 141 = .ok (.iaload, 1) := by decide +kernel
theorem dX4_goesBy_142 : decode cX4_goesBy 142 = .ok (.bipush 10, 2) := by decide +kernel
theorem dX4_goesBy_144 : decode cX4_goesBy 144 = .ok (.if_icmp .ne 8, 3) := by decide +kernel
theorem dX4_goesBy_147 : decode cX4_goesBy 147 = .ok (.bipush (-9), 2) := by decide +kernel
theorem dX4_goesBy_149 : decode cX4_goesBy 149 = .ok (.goto 5, 3) := by decide +kernel
theorem dX4_goesBy_152 : decode cX4_goesBy 152 = .ok (.iload 5, 2) := by decide +kernel
theorem dX4_goesBy_154 : decode cX4_goesBy 154 = .ok (.ireturn, 1) := by decide +kernel
theorem dX4_use_0 : decode cX4_use 0 = .ok (.bipush 48, 2) := by decide +kernel
theorem dX4_use_2 : decode cX4_use 2 = .ok (.iload_n 1, 1) := by decide +kernel
theorem dX4_use_3 : decode cX4_use 3 = .ok (.imul, 1) := by decide +kernel
theorem dX4_use_4 : decode cX4_use 4 = .ok (.bipush 6, 2) := by decide +kernel
theorem dX4_use_6 : decode cX4_use 6 = .ok (.iadd, 1) := by decide +kernel
theorem dX4_use_7 : decode cX4_use 7 = .ok (.bipush 6, 2) := by decide +kernel
theorem dX4_use_9 : decode cX4_use 9 = .ok (.iload_n 3, 1) := by decide +kernel
theorem dX4_use_10 : decode cX4_use 10 = .ok (.imul, 1) := by decide +kernel
theorem dX4_use_11 : decode cX4_use 11 = .ok (.iadd, 1) := by decide +kernel
theorem dX4_use_12 : decode cX4_use 12 = .ok (.istore 4, 2) := by decide +kernel
theorem dX4_use_14 : decode cX4_use 14 = .ok (.aload_n 0, 1) := by decide +kernel
theorem dX4_use_15 : decode cX4_use 15 = .ok (.getfield 19, 3) := by decide +kernel
theorem dX4_use_18 : decode cX4_use 18 = .ok (.iload 4, 2) := by decide +kernel
theorem dX4_use_20 : decode cX4_use 20 = .ok (.iaload, 1) := by decide +kernel
theorem dX4_use_21 : decode cX4_use 21 = .ok (.aload_n 0, 1) := by decide +kernel
theorem dX4_use_22 : decode cX4_use 22 = .ok (.getfield 13, 3) := by decide +kernel
theorem dX4_use_25 : decode cX4_use 25 = .ok (.iload_n 2, 1) := by decide +kernel
theorem dX4_use_26 : decode cX4_use 26 = .ok (.iaload, 1) := by decide +kernel
theorem dX4_use_27 : decode cX4_use 27 = .ok (.iconst 1, 1) := by decide +kernel
theorem dX4_use_28 : decode cX4_use 28 = .ok (.if_icmp .ne 7, 3) := by decide +kernel
theorem dX4_use_31 : decode cX4_use 31 = .ok (.iconst 1, 1) := by decide +kernel
theorem dX4_use_32 : decode cX4_use 32 = .ok (.goto 4, 3) := by decide +kernel
theorem dX4_use_35 : decode cX4_use 35 = .ok (.iconst 3, 1) := by decide +kernel
theorem dX4_use_36 : decode cX4_use 36 = .ok (.iadd, 1) := by decide +kernel
theorem dX4_use_37 : decode cX4_use 37 = .ok (.istore 5, 2) := by decide +kernel
theorem dX4_use_39 : decode cX4_use 39 = .ok (.aload_n 0, 1) := by decide +kernel
theorem dX4_use_40 : decode cX4_use 40 = .ok (.getfield 13, 3) := by decide +kernel
theorem dX4_use_43 : decode cX4_use 43 = .ok (.iload_n 2, 1) := by decide +kernel
theorem dX4_use_44 : decode cX4_use 44 = .ok (.iaload, 1) := by decide +kernel
theorem dX4_use_45 : decode cX4_use 45 = .ok (.iconst 1, 1) := by decide +kernel
theorem dX4_use_46 : decode cX4_use 46 = .ok (.if_icmp .ne 15, 3) := by decide +kernel
theorem dX4_use_49 : decode cX4_use 49 = .ok (.aload_n 0, 1) := by decide +kernel
theorem dX4_use_50 : decode cX4_use 50 = .ok (.getfield 19, 3) := by decide +kernel
theorem dX4_use_53 : decode cX4_use 53 = .ok (.iload 4, 2) := by decide +kernel
theorem dX4_use_55 : decode cX4_use 55 = .ok (.iconst 4, 1) := by decide +kernel
theorem dX4_use_56 : decode cX4_use 56 = .ok (.iadd, 1) := by decide +kernel
theorem dX4_use_57 : decode cX4_use 57 = .ok (.iaload, 1) := by decide +kernel
theorem dX4_use_58 : decode cX4_use 58 = .ok (.ifCond .eq 13, 3) := by decide +kernel
theorem dX4_use_61 : decode cX4_use 61 = .ok (.aload_n 0, 1) := by decide +kernel
theorem dX4_use_62 : decode cX4_use 62 = .ok (.getfield 13, 3) := by decide +kernel
theorem dX4_use_65 : decode cX4_use 65 = .ok (.iload_n 2, 1) := by decide +kernel
theorem dX4_use_66 : decode cX4_use 66 = .ok (.iaload, 1) := by decide +kernel
theorem dX4_use_67 : decode cX4_use 67 = .ok (.iconst 2, 1) := by decide +kernel
theorem dX4_use_68 : decode cX4_use 68 = .ok (.if_icmp .ne 7, 3) := by decide +kernel
theorem dX4_use_71 : decode cX4_use 71 = .ok (.iconst 1, 1) := by decide +kernel
theorem dX4_use_72 : decode cX4_use 72 = .ok (.goto 4, 3) := by decide +kernel
theorem dX4_use_75 : decode cX4_use 75 = .ok (.iconst 0, 1) := by decide +kernel
theorem dX4_use_76 : decode cX4_use 76 = .ok (.istore 6, 2) := by decide +kernel
theorem dX4_use_78 : decode cX4_use 78 = .ok (.iload 6, 2) := by decide +kernel
theorem dX4_use_80 : decode cX4_use 80 = .ok (.ifCond .eq 10, 3) := by decide +kernel
theorem dX4_use_83 : decode cX4_use 83 = .ok (.iload 5, 2) := by decide +kernel
theorem dX4_use_85 : decode cX4_use 85 = .ok (.bipush 9, 2) := by decide +kernel
theorem dX4_use_87 : decode cX4_use 87 = .ok (.if_icmp .le 14, 3) := by decide +kernel
theorem dX4_use_90 : decode cX4_use 90 = .ok (.aload_n 0, 1) := by decide +kernel
theorem dX4_use_91 : decode cX4_use 91 = .ok (.getfield 19, 3) := by decide +kernel
theorem dX4_use_94 : decode cX4_use 94 = .ok (.iload 4, 2) := by decide +kernel
theorem dX4_use_96 : decode cX4_use 96 = .ok (.iconst 5, 1) := by decide +kernel
theorem dX4_use_97 : decode cX4_use 97 = .ok (.iadd, 1) := by decide +kernel
theorem dX4_use_98 : decode cX4_use 98 = .ok (.iconst 1, 1) := by decide +kernel
theorem dX4_use_99 : decode cX4_use 99 = .ok (.iastore, 1) := by decide +kernel
theorem dX4_use_100 : decode cX4_use 100 = .ok (.return_, 1) := by decide +kernel
theorem dX4_use_101 : decode cX4_use 101 = .ok (.aload_n 0, 1) := by decide +kernel
theorem dX4_use_102 : decode cX4_use 102 = .ok (.getfield 19, 3) := by decide +kernel
theorem dX4_use_105 : decode cX4_use 105 = .ok (.iload 4, 2) := by decide +kernel
theorem dX4_use_107 : decode cX4_use 107 = .ok (.iload 5, 2) := by decide +kernel
theorem dX4_use_109 : decode cX4_use 109 = .ok (.iastore, 1) := by decide +kernel
theorem dX4_use_110 : decode cX4_use 110 = .ok (.aload_n 0, 1) := by decide +kernel
theorem dX4_use_111 : decode cX4_use 111 = .ok (.getfield 13, 3) := by decide +kernel
theorem dX4_use_114 : decode cX4_use 114 = .ok (.iload_n 2, 1) := by decide +kernel
theorem dX4_use_115 : decode cX4_use 115 = .ok (.iaload, 1) := by decide +kernel
theorem dX4_use_116 : decode cX4_use 116 = .ok (.iconst 2, 1) := by decide +kernel
theorem dX4_use_117 : decode cX4_use 117 = .ok (.if_icmp .ne 30, 3) := by decide +kernel
theorem dX4_use_120 : decode cX4_use 120 = .ok (.aload_n 0, 1) := by decide +kernel
theorem dX4_use_121 : decode cX4_use 121 = .ok (.getfield 19, 3) := by decide +kernel
theorem dX4_use_124 : decode cX4_use 124 = .ok (.iload 4, 2) := by decide +kernel
theorem dX4_use_126 : decode cX4_use 126 = .ok (.iconst 3, 1) := by decide +kernel
theorem dX4_use_127 : decode cX4_use 127 = .ok (.iadd, 1) := by decide +kernel
theorem dX4_use_128 : decode cX4_use 128 = .ok (.iload_n 2, 1) := by decide +kernel
theorem dX4_use_129 : decode cX4_use 129 = .ok (.iconst 1, 1) := by decide +kernel
theorem dX4_use_130 : decode cX4_use 130 = .ok (.iadd, 1) := by decide +kernel
theorem dX4_use_131 : decode cX4_use 131 = .ok (.aload_n 0, 1) := by decide +kernel
theorem dX4_use_132 : decode cX4_use 132 = .ok (.getfield 68, 3) := by decide +kernel
theorem dX4_use_135 : decode cX4_use 135 = .ok (.if_icmp .ne 7, 3) := by decide +kernel
theorem dX4_use_138 : decode cX4_use 138 = .ok (.iconst 0, 1) := by decide +kernel
theorem dX4_use_139 : decode cX4_use 139 = .ok (.goto 6, 3) := by decide +kernel
theorem dX4_use_142 : decode cX4_use 142 = .ok (.iload_n 2, 1) := by decide +kernel
theorem dX4_use_143 : decode cX4_use 143 = .ok (.iconst 1, 1) := by decide +kernel
theorem dX4_use_144 : decode cX4_use 144 = .ok (.iadd, 1) := by decide +kernel
theorem dX4_use_145 : decode cX4_use 145 = .ok (.iastore, 1) := by decide +kernel
theorem dX4_use_146 : decode cX4_use 146 = .ok (.return_, 1) := by decide +kernel
theorem dX4_use_147 : decode cX4_use 147 = .ok (.aload_n 0, 1) := by decide +kernel
theorem dX4_use_148 : decode cX4_use 148 = .ok (.getfield 19, 3) := by decide +kernel
theorem dX4_use_151 : decode cX4_use 151 = .ok (.iload 4, 2) := by decide +kernel
theorem dX4_use_153 : decode cX4_use 153 = .ok (.iconst 1, 1) := by decide +kernel
theorem dX4_use_154 : decode cX4_use 154 = .ok (.iadd, 1) := by decide +kernel
theorem dX4_use_155 : decode cX4_use 155 = .ok (.iaload, 1) := by decide +kernel
theorem dX4_use_156 : decode cX4_use 156 = .ok (.istore 7, 2) := by decide +kernel
theorem dX4_use_158 : decode cX4_use 158 = .ok (.aload_n 0, 1) := by decide +kernel
theorem dX4_use_159 : decode cX4_use 159 = .ok (.getfield 19, 3) := by decide +kernel
theorem dX4_use_162 : decode cX4_use 162 = .ok (.iload 4, 2) := by decide +kernel
theorem dX4_use_164 : decode cX4_use 164 = .ok (.iconst 1, 1) := by decide +kernel
theorem dX4_use_165 : decode cX4_use 165 = .ok (.iadd, 1) := by decide +kernel
theorem dX4_use_166 : decode cX4_use 166 = .ok (.aload_n 0, 1) := by decide +kernel
theorem dX4_use_167 : decode cX4_use 167 = .ok (.getfield 19, 3) := by decide +kernel
theorem dX4_use_170 : decode cX4_use 170 = .ok (.iload 4, 2) := by decide +kernel
theorem dX4_use_172 : decode cX4_use 172 = .ok (.iconst 2, 1) := by decide +kernel
theorem dX4_use_173 : decode cX4_use 173 = .ok (.iadd, 1) := by decide +kernel
theorem dX4_use_174 : decode cX4_use 174 = .ok (.iaload, 1) := by decide +kernel
theorem dX4_use_175 : decode cX4_use 175 = .ok (.iastore, 1) := by decide +kernel
theorem dX4_use_176 : decode cX4_use 176 = .ok (.aload_n 0, 1) := by decide +kernel
theorem dX4_use_177 : decode cX4_use 177 = .ok (.getfield 19, 3) := by decide +kernel
theorem dX4_use_180 : decode cX4_use 180 = .ok (.iload 4, 2) := by decide +kernel
theorem dX4_use_182 : decode cX4_use 182 = .ok (.iconst 2, 1) := by decide +kernel
theorem dX4_use_183 : decode cX4_use 183 = .ok (.iadd, 1) := by decide +kernel
theorem dX4_use_184 : decode cX4_use 184 = .ok (.iload 7, 2) := by decide +kernel
theorem dX4_use_186 : decode cX4_use 186 = .ok (.iastore, 1) := by decide +kernel
theorem dX4_use_187 : decode cX4_use 187 = .ok (.aload_n 0, 1) := by decide +kernel
theorem dX4_use_188 : decode cX4_use 188 = .ok (.getfield 19, 3) := by decide +kernel
theorem dX4_use_191 : decode cX4_use 191 = .ok (.iload 4, 2) := by decide +kernel
theorem dX4_use_193 : decode cX4_use 193 = .ok (.iconst 4, 1) := by decide +kernel
theorem dX4_use_194 : decode cX4_use 194 = .ok (.iadd, 1) := by decide +kernel
theorem dX4_use_195 : decode cX4_use 195 = .ok (.iconst 1, 1) := by decide +kernel
theorem dX4_use_196 : decode cX4_use 196 = .ok (.iastore, 1) := by decide +kernel
theorem dX4_use_197 : decode cX4_use 197 = .ok (.return_, 1) := by decide +kernel
theorem dX4_unsee_0 : decode cX4_unsee 0 = .ok (.aload_n 0, 1) := by decide +kernel
theorem dX4_unsee_1 : decode cX4_unsee 1 = .ok (.getfield 199, 3) := by decide +kernel
theorem dX4_unsee_4 : decode cX4_unsee 4 = .ok (.istore_n 1, 1) := by decide +kernel
theorem dX4_unsee_5 : decode cX4_unsee 5 = .ok (.aload_n 0, 1) := by decide +kernel
theorem dX4_unsee_6 : decode cX4_unsee 6 = .ok (.iconst 0, 1) := by decide +kernel
theorem dX4_unsee_7 : decode cX4_unsee 7 = .ok (.putfield 199, 3) := by decide +kernel
theorem dX4_unsee_10 : decode cX4_unsee 10 = .ok (.iload_n 1, 1) := by decide +kernel
theorem dX4_unsee_11 : decode cX4_unsee 11 = .ok (.ireturn, 1) := by decide +kernel
theorem dX4_seed_0 : decode cX4_seed 0 = .ok (.aload_n 0, 1) := by decide +kernel
theorem dX4_seed_1 : decode cX4_seed 1 = .ok (.getfield 206, 3) := by decide +kernel
theorem dX4_seed_4 : decode cX4_seed 4 = .ok (.lstore_n 3, 1) := by decide +kernel
theorem dX4_seed_5 : decode cX4_seed 5 = .ok (.aload_n 0, 1) := by decide +kernel
theorem dX4_seed_6 : decode cX4_seed 6 = .ok (.lload_n 1, 1) := by decide +kernel
theorem dX4_seed_7 : decode cX4_seed 7 = .ok (.putfield 206, 3) := by decide +kernel
theorem dX4_seed_10 : decode cX4_seed 10 = .ok (.lload_n 3, 1) := by decide +kernel
theorem dX4_seed_11 : decode cX4_seed 11 = .ok (.lreturn, 1) := by decide +kernel
/-- what stands in 'by': none, or one of seven -/
def ByOk (f : Nat → Int32) : Prop := ∀ j : Nat, j < 5 → (f j).toInt = -9 ∨ (0 ≤ (f j).toInt ∧ (f j).toInt ≤ 6)
/-- a bit of a set, as 'has' looks at it -/
def bitOf (w k : Int32) : Int32 := (w >>> (k &&& 31)) &&& 1
/-- who went has a ticket -/
def WentOk (w : Int32) (f : Nat → Int32) : Prop := ∀ j : Nat, j < 5 → bitOf w (nI j) = 1 → 0 ≤ (f j).toInt ∧ (f j).toInt ≤ 6
theorem byOk_upd {f : Nat → Int32} {i x : Int32} (h : ByOk f) (hi : 0 ≤ i.toInt) (hx : x.toInt = -9 ∨ (0 ≤ x.toInt ∧ x.toInt ≤ 6)) : ByOk (upd f i.toNatClampNeg x) := by
  intro j hj
  by_cases q : i.toInt = (j : Int)
  · rw [upd_eq q]; exact hx
  · rw [upd_ne hi q]; exact h j hj
theorem byOk_at {f : Nat → Int32} {i v : Int32} (h : ByOk f) (e : v = f i.toNatClampNeg) (h0 : 0 ≤ i.toInt) (h1 : i.toInt ≤ 4) : v.toInt = -9 ∨ (0 ≤ v.toInt ∧ v.toInt ≤ 6) := by
  rw [e, cl_of]; exact h _ (by omega)

set_option maxHeartbeats 600000 in
set_option maxRecDepth 100000 in
theorem c_X4_in (l : Launch) (D : va_G) (cI cZ cM : ClassId) (v0 : Int64) (v1 : Int64) (v2 : Int64) (sz : Nat)  : Ci l yX4_in wsX4_in ({ frames := 0, cells := 0, slots := 0, locals := 0 } : Room) D cI cZ cM [.long v0, .long v1, .long v2] [] sz (fun (r : Int32) (u : Unit) => (r.toInt = 1 ∧ v1.toInt ≤ v0.toInt ∧ v0.toInt ≤ v2.toInt) ∨ (r.toInt = 0 ∧ (v0.toInt < v1.toInt ∨ v2.toInt < v0.toInt))) (fun u => []) 0 0 := by
  refine begins (l := l) (y := yX4_in) (ws := wsX4_in) (av := [.long v0, .long v1, .long v2]) (Qc := fun A => va_Qi (fun (r : Int32) (u : Unit) => (r.toInt = 1 ∧ v1.toInt ≤ v0.toInt ∧ v0.toInt ≤ v2.toInt) ∨ (r.toInt = 0 ∧ (v0.toInt < v1.toInt ∨ v2.toInt < v0.toInt))) (fun u => Wd D cI cZ cM A ((fun u => []) u)) A) cX4_in 6 (some .boolean) (by decide) rfl (Nat.le_of_ble_eq_true rfl) ?_
  intro p e s m args below meth c R Q A ls hBd hR hQ hA hS hK hP hD hl
  obtain ⟨hx, hb, hr, hts, hown, hlocks, hin, hml⟩ := hBd
  have hl : lv_has ls 6 [(0, .long v0), (2, .long v1), (4, .long v2)] := hl
  refine lv_lload_n hx hb dX4_in_0 rfl (lv_at hl 0 rfl) ?_
  refine lv_lload_n hx hb dX4_in_1 rfl (lv_at hl 1 rfl) ?_
  refine W.lcmp hx hb dX4_in_2 ?_
  refine lv_topi (fun v_1 ev_1 => ?_)
  have tv_1 := lcmp_t v0 v1 ev_1
  refine lv_if_lt (tgt := 17) hx hb dX4_in_3 (by decide) (fun c_2 => ?_) (fun c_2 => ?_)
  · have tc_2 := b_lt rfl (show (0 : Int32).toInt = 0 by decide) c_2
    refine lv_iconst (v := 0) hx hb dX4_in_17 (by decide) ?_
    exact ret_i (post := (fun (r : Int32) (u : Unit) => (r.toInt = 1 ∧ v1.toInt ≤ v0.toInt ∧ v0.toInt ≤ v2.toInt) ∨ (r.toInt = 0 ∧ (v0.toInt < v1.toInt ∨ v2.toInt < v0.toInt)))) (W1 := (fun u => [])) () hx hb hr hlocks rfl hQ hK hP hD hS ⟨by decide, by decide⟩ dX4_in_18 (show ((0 : Int) = 1 ∧ v1.toInt ≤ v0.toInt ∧ v0.toInt ≤ v2.toInt) ∨ ((0 : Int) = 0 ∧ (v0.toInt < v1.toInt ∨ v2.toInt < v0.toInt)) by omega)
  · have tc_2 := b_nlt rfl (show (0 : Int32).toInt = 0 by decide) c_2
    refine lv_lload_n hx hb dX4_in_6 rfl (lv_at hl 0 rfl) ?_
    refine lv_lload hx hb dX4_in_7 (lv_at hl 2 rfl) ?_
    refine W.lcmp hx hb dX4_in_9 ?_
    refine lv_topi (fun v_3 ev_3 => ?_)
    have tv_3 := lcmp_t v0 v2 ev_3
    refine lv_if_gt (tgt := 17) hx hb dX4_in_10 (by decide) (fun c_4 => ?_) (fun c_4 => ?_)
    · have tc_4 := b_lt (show (0 : Int32).toInt = 0 by decide) rfl c_4
      refine lv_iconst (v := 0) hx hb dX4_in_17 (by decide) ?_
      exact ret_i (post := (fun (r : Int32) (u : Unit) => (r.toInt = 1 ∧ v1.toInt ≤ v0.toInt ∧ v0.toInt ≤ v2.toInt) ∨ (r.toInt = 0 ∧ (v0.toInt < v1.toInt ∨ v2.toInt < v0.toInt)))) (W1 := (fun u => [])) () hx hb hr hlocks rfl hQ hK hP hD hS ⟨by decide, by decide⟩ dX4_in_18 (show ((0 : Int) = 1 ∧ v1.toInt ≤ v0.toInt ∧ v0.toInt ≤ v2.toInt) ∨ ((0 : Int) = 0 ∧ (v0.toInt < v1.toInt ∨ v2.toInt < v0.toInt)) by omega)
    · have tc_4 := b_nlt (show (0 : Int32).toInt = 0 by decide) rfl c_4
      refine lv_iconst (v := 1) hx hb dX4_in_13 (by decide) ?_
      refine lv_goto (tgt := 18) hx hb dX4_in_14 (by decide) ?_
      exact ret_i (post := (fun (r : Int32) (u : Unit) => (r.toInt = 1 ∧ v1.toInt ≤ v0.toInt ∧ v0.toInt ≤ v2.toInt) ∨ (r.toInt = 0 ∧ (v0.toInt < v1.toInt ∨ v2.toInt < v0.toInt)))) (W1 := (fun u => [])) () hx hb hr hlocks rfl hQ hK hP hD hS ⟨by decide, by decide⟩ dX4_in_18 (show ((1 : Int) = 1 ∧ v1.toInt ≤ v0.toInt ∧ v0.toInt ≤ v2.toInt) ∨ ((1 : Int) = 0 ∧ (v0.toInt < v1.toInt ∨ v2.toInt < v0.toInt)) by omega)

set_option maxHeartbeats 600000 in
set_option maxRecDepth 100000 in
theorem c_X4_has (l : Launch) (D : va_G) (cI cZ cM : ClassId) (n : Int32) (k : Int32) (sz : Nat)  : Ci l yX4_has wsX4_has ({ frames := 0, cells := 0, slots := 0, locals := 0 } : Room) D cI cZ cM [.int n, .int k] [] sz (fun (r : Int32) (u : Unit) => (r.toInt = 1 ∧ bitOf n k = 1) ∨ r.toInt = 0) (fun u => []) 0 0 := by
  refine begins (l := l) (y := yX4_has) (ws := wsX4_has) (av := [.int n, .int k]) (Qc := fun A => va_Qi (fun (r : Int32) (u : Unit) => (r.toInt = 1 ∧ bitOf n k = 1) ∨ r.toInt = 0) (fun u => Wd D cI cZ cM A ((fun u => []) u)) A) cX4_has 2 (some .boolean) (by decide) rfl (Nat.le_of_ble_eq_true rfl) ?_
  intro p e s m args below meth c R Q A ls hBd hR hQ hA hS hK hP hD hl
  obtain ⟨hx, hb, hr, hts, hown, hlocks, hin, hml⟩ := hBd
  have hl : lv_has ls 2 [(0, .int n), (1, .int k)] := hl
  refine lv_iload_n hx hb dX4_has_0 rfl (lv_at hl 0 rfl) ?_
  refine lv_iload_n hx hb dX4_has_1 rfl (lv_at hl 1 rfl) ?_
  refine lv_ishr hx hb dX4_has_2 ?_
  refine lv_topi (fun v_1 ev_1 => ?_)
  have evS := ev_1
  refine lv_iconst (v := 1) hx hb dX4_has_3 (by decide) ?_
  refine lv_iand hx hb dX4_has_4 ?_
  refine lv_topi (fun v_2 ev_2 => ?_)
  have evA := ev_2
  refine lv_iconst (v := 1) hx hb dX4_has_5 (by decide) ?_
  refine lv_icmp_ne (tgt := 13) hx hb dX4_has_6 (by decide) (fun c_3 => ?_) (fun c_3 => ?_)
  · have tc_3 := b_ne rfl (show (1 : Int32).toInt = 1 by decide) c_3
    refine lv_iconst (v := 0) hx hb dX4_has_13 (by decide) ?_
    exact ret_i (post := (fun (r : Int32) (u : Unit) => (r.toInt = 1 ∧ bitOf n k = 1) ∨ r.toInt = 0)) (W1 := (fun u => [])) () hx hb hr hlocks rfl hQ hK hP hD hS ⟨by decide, by decide⟩ dX4_has_14 (Or.inr (by decide))
  · have tc_3 := b_eq rfl (show (1 : Int32).toInt = 1 by decide) c_3
    refine lv_iconst (v := 1) hx hb dX4_has_9 (by decide) ?_
    refine lv_goto (tgt := 14) hx hb dX4_has_10 (by decide) ?_
    exact ret_i (post := (fun (r : Int32) (u : Unit) => (r.toInt = 1 ∧ bitOf n k = 1) ∨ r.toInt = 0)) (W1 := (fun u => [])) () hx hb hr hlocks rfl hQ hK hP hD hS ⟨by decide, by decide⟩ dX4_has_14 (Or.inl ⟨by decide, by unfold bitOf; rw [← evS, ← evA]; assumption⟩)

set_option maxHeartbeats 600000 in
set_option maxRecDepth 100000 in
theorem c_X4_isPerson (l : Launch) (D : va_G) (cI cZ cM : ClassId) (h0 : Nat) (n : Int32) (ype : Int32) (ytk : Int32) (ywi : Nat) (yki : Nat) (yse : Nat) (yno : Nat) (yrh : Nat) (yrw : Nat) (yrk : Nat) (yrt : Nat) (yrp : Int32) (yrq : Int32) (ytx : Nat) (yle : Int32) (yat : Int32) (yfa : Int32) (yby : Nat) (ylo : Nat) (yhi : Nat) (yac : Int32) (ynx : Int32) (yro : Nat) (ygl : Nat) (ysn : Int32) (yso : Nat) (ysp : Nat) (ysw : Nat) (ysd : Int64) (yik : Nat) (ykp : Nat) (sz : Nat) (h_ype : 0 ≤ ype.toInt ∧ ype.toInt ≤ 6) : Ci l yX4_isPerson wsX4_isPerson ({ frames := 1, cells := 0, slots := 0, locals := 25 } : Room) D cI cZ cM [.ref h0, .int n] [(h0, .inr (4, [.int ype, .int ytk, .ref ywi, .ref yki, .ref yse, .ref yno, .ref yrh, .ref yrw, .ref yrk, .ref yrt, .int yrp, .int yrq, .ref ytx, .int yle, .int yat, .int yfa, .ref yby, .ref ylo, .ref yhi, .int yac, .int ynx, .ref yro, .ref ygl, .int ysn, .ref yso, .ref ysp, .ref ysw, .long ysd, .ref yik, .ref ykp]))] sz (fun (r : Int32) (u : Unit) => (r.toInt = 1 ∧ 0 ≤ n.toInt ∧ n.toInt < ype.toInt) ∨ (r.toInt = 0 ∧ (n.toInt < 0 ∨ ype.toInt ≤ n.toInt))) (fun u => [(h0, .inr (4, [.int ype, .int ytk, .ref ywi, .ref yki, .ref yse, .ref yno, .ref yrh, .ref yrw, .ref yrk, .ref yrt, .int yrp, .int yrq, .ref ytx, .int yle, .int yat, .int yfa, .ref yby, .ref ylo, .ref yhi, .int yac, .int ynx, .ref yro, .ref ygl, .int ysn, .ref yso, .ref ysp, .ref ysw, .long ysd, .ref yik, .ref ykp]))]) 0 0 := by
  refine begins (l := l) (y := yX4_isPerson) (ws := wsX4_isPerson) (av := [.ref h0, .int n]) (Qc := fun A => va_Qi (fun (r : Int32) (u : Unit) => (r.toInt = 1 ∧ 0 ≤ n.toInt ∧ n.toInt < ype.toInt) ∨ (r.toInt = 0 ∧ (n.toInt < 0 ∨ ype.toInt ≤ n.toInt))) (fun u => Wd D cI cZ cM A ((fun u => [(h0, .inr (4, [.int ype, .int ytk, .ref ywi, .ref yki, .ref yse, .ref yno, .ref yrh, .ref yrw, .ref yrk, .ref yrt, .int yrp, .int yrq, .ref ytx, .int yle, .int yat, .int yfa, .ref yby, .ref ylo, .ref yhi, .int yac, .int ynx, .ref yro, .ref ygl, .int ysn, .ref yso, .ref ysp, .ref ysw, .long ysd, .ref yik, .ref ykp]))]) u)) A) cX4_isPerson 2 (some .boolean) (by decide) rfl (Nat.le_of_ble_eq_true rfl) ?_
  intro p e s m args below meth c R Q A ls hBd hR hQ hA hS hK hP hD hl
  obtain ⟨hx, hb, hr, hts, hown, hlocks, hin, hml⟩ := hBd
  have hl : lv_has ls 2 [(0, .ref h0), (1, .int n)] := hl
  have iX4 : ∀ w ∈ wsX40, w ∈ wsX4_isPerson := fun _ h => List.mem_cons_of_mem _ (List.mem_append_right _ h)
  obtain ⟨h_ypea, h_ypeb⟩ := h_ype
  refine lv_iload_n hx hb dX4_isPerson_0 rfl (lv_at hl 1 rfl) ?_
  obtain ⟨w_1, ew_1⟩ : ∃ z : Int64, n.toInt64 = z := ⟨_, rfl⟩
  have tw_1 : w_1.toInt = n.toInt := by rw [← ew_1, Int32.toInt_toInt64]
  refine lv_i2l hx hb dX4_isPerson_1 ew_1 ?_
  refine lv_lconst (v := 0) hx hb dX4_isPerson_2 (by decide) ?_
  refine lv_aload_n hx hb dX4_isPerson_3 rfl (lv_at hl 0 rfl) ?_
  refine va_get (D := D) (ci := 4) (v := .int ype) (C := RX4) (T := TX4) (N := 30) hx hb hts iX4 hown hK hP 0 rfl rfl 0 (by decide) (hts (.fieldLink RX4 68 "PunchedTicketModel" "people" "I") (List.mem_of_getElem? (i := 1) rfl)) (fun _ h9 => h9) rfl dX4_isPerson_4 ?_
  refine lv_iconst (v := 1) hx hb dX4_isPerson_7 (by decide) ?_
  refine lv_isub hx hb dX4_isPerson_8 ?_
  refine lv_topi (fun v_2 ev_2 => ?_)
  have tv_2 : v_2.toInt = ype.toInt - (1 : Int) := by rw [ev_2]; exact ti_sub (x := ype) (y := 1) (show -2147483648 ≤ ype.toInt - (1 : Int) by omega) (show ype.toInt - (1 : Int) < 2147483648 by omega)
  obtain ⟨w_3, ew_3⟩ : ∃ z : Int64, v_2.toInt64 = z := ⟨_, rfl⟩
  have tw_3 : w_3.toInt = v_2.toInt := by rw [← ew_3, Int32.toInt_toInt64]
  refine lv_i2l hx hb dX4_isPerson_9 ew_3 ?_
  refine cS_i (As := [.long w_1, .long 0, .long w_3]) (rest := []) ⟨hx, hb, hml, hown, hts⟩ (c_X4_in l D cI cZ cM w_1 0 w_3 _ ) (va_cwS 3 hts gX4_isPerson_X4_in rfl rfl rfl (by decide +kernel) ⟨by rw [hR]; decide, by rw [hR]; decide⟩) hK hP hD hS hA [] [0] rfl rfl (by decide) (by decide) (by decide) hl.1 rfl rfl (Nat.le_of_ble_eq_true rfl) dX4_isPerson_10 ⟨by rw [hR]; decide, by rw [hR]; decide⟩ (fun r_4 u_5 H locs hw hP hD hS => ?_)
  have hP : va_P D vwCl [(h0, .inr (4, [.int ype, .int ytk, .ref ywi, .ref yki, .ref yse, .ref yno, .ref yrh, .ref yrw, .ref yrk, .ref yrt, .int yrp, .int yrq, .ref ytx, .int yle, .int yat, .int yfa, .ref yby, .ref ylo, .ref yhi, .int yac, .int ynx, .ref yro, .ref ygl, .int ysn, .ref yso, .ref ysp, .ref ysw, .long ysd, .ref yik, .ref ykp]))] H := hP.sub [0] rfl
  have hD : va_D A [(h0, .inr (4, [.int ype, .int ytk, .ref ywi, .ref yki, .ref yse, .ref yno, .ref yrh, .ref yrw, .ref yrk, .ref yrt, .int yrp, .int yrq, .ref ytx, .int yle, .int yat, .int yfa, .ref yby, .ref ylo, .ref yhi, .int yac, .int ynx, .ref yro, .ref ygl, .int ysn, .ref yso, .ref ysp, .ref ysw, .long ysd, .ref yik, .ref ykp]))] := hD.sub [0] (by decide) rfl
  refine W.widen (k := 0) (n := 0) (Nat.le_refl _) (Nat.le_refl _) ?_
  have hw : (r_4.toInt = 1 ∧ (0 : Int) ≤ w_1.toInt ∧ w_1.toInt ≤ w_3.toInt) ∨ (r_4.toInt = 0 ∧ (w_1.toInt < (0 : Int) ∨ w_3.toInt < w_1.toInt)) := hw
  have hw_6 := hw
  exact ret_i (post := (fun (r : Int32) (u : Unit) => (r.toInt = 1 ∧ 0 ≤ n.toInt ∧ n.toInt < ype.toInt) ∨ (r.toInt = 0 ∧ (n.toInt < 0 ∨ ype.toInt ≤ n.toInt)))) (W1 := (fun u => [(h0, .inr (4, [.int ype, .int ytk, .ref ywi, .ref yki, .ref yse, .ref yno, .ref yrh, .ref yrw, .ref yrk, .ref yrt, .int yrp, .int yrq, .ref ytx, .int yle, .int yat, .int yfa, .ref yby, .ref ylo, .ref yhi, .int yac, .int ynx, .ref yro, .ref ygl, .int ysn, .ref yso, .ref ysp, .ref ysw, .long ysd, .ref yik, .ref ykp]))])) () hx hb hr hlocks (nar_z (show r_4.toInt = 0 ∨ r_4.toInt = 1 by omega)) hQ hK hP hD hS ⟨by decide, by decide⟩ dX4_isPerson_13 (show (r_4.toInt = 1 ∧ 0 ≤ n.toInt ∧ n.toInt < ype.toInt) ∨ (r_4.toInt = 0 ∧ (n.toInt < 0 ∨ ype.toInt ≤ n.toInt)) by omega)

set_option maxHeartbeats 600000 in
set_option maxRecDepth 100000 in
theorem c_X4_isTicket (l : Launch) (D : va_G) (cI cZ cM : ClassId) (h0 : Nat) (n : Int32) (ype : Int32) (ytk : Int32) (ywi : Nat) (yki : Nat) (yse : Nat) (yno : Nat) (yrh : Nat) (yrw : Nat) (yrk : Nat) (yrt : Nat) (yrp : Int32) (yrq : Int32) (ytx : Nat) (yle : Int32) (yat : Int32) (yfa : Int32) (yby : Nat) (ylo : Nat) (yhi : Nat) (yac : Int32) (ynx : Int32) (yro : Nat) (ygl : Nat) (ysn : Int32) (yso : Nat) (ysp : Nat) (ysw : Nat) (ysd : Int64) (yik : Nat) (ykp : Nat) (sz : Nat) (h_ytk : 0 ≤ ytk.toInt ∧ ytk.toInt ≤ 6) : Ci l yX4_isTicket wsX4_isTicket ({ frames := 1, cells := 0, slots := 0, locals := 25 } : Room) D cI cZ cM [.ref h0, .int n] [(h0, .inr (4, [.int ype, .int ytk, .ref ywi, .ref yki, .ref yse, .ref yno, .ref yrh, .ref yrw, .ref yrk, .ref yrt, .int yrp, .int yrq, .ref ytx, .int yle, .int yat, .int yfa, .ref yby, .ref ylo, .ref yhi, .int yac, .int ynx, .ref yro, .ref ygl, .int ysn, .ref yso, .ref ysp, .ref ysw, .long ysd, .ref yik, .ref ykp]))] sz (fun (r : Int32) (u : Unit) => (r.toInt = 1 ∧ 0 ≤ n.toInt ∧ n.toInt < ytk.toInt) ∨ (r.toInt = 0 ∧ (n.toInt < 0 ∨ ytk.toInt ≤ n.toInt))) (fun u => [(h0, .inr (4, [.int ype, .int ytk, .ref ywi, .ref yki, .ref yse, .ref yno, .ref yrh, .ref yrw, .ref yrk, .ref yrt, .int yrp, .int yrq, .ref ytx, .int yle, .int yat, .int yfa, .ref yby, .ref ylo, .ref yhi, .int yac, .int ynx, .ref yro, .ref ygl, .int ysn, .ref yso, .ref ysp, .ref ysw, .long ysd, .ref yik, .ref ykp]))]) 0 0 := by
  refine begins (l := l) (y := yX4_isTicket) (ws := wsX4_isTicket) (av := [.ref h0, .int n]) (Qc := fun A => va_Qi (fun (r : Int32) (u : Unit) => (r.toInt = 1 ∧ 0 ≤ n.toInt ∧ n.toInt < ytk.toInt) ∨ (r.toInt = 0 ∧ (n.toInt < 0 ∨ ytk.toInt ≤ n.toInt))) (fun u => Wd D cI cZ cM A ((fun u => [(h0, .inr (4, [.int ype, .int ytk, .ref ywi, .ref yki, .ref yse, .ref yno, .ref yrh, .ref yrw, .ref yrk, .ref yrt, .int yrp, .int yrq, .ref ytx, .int yle, .int yat, .int yfa, .ref yby, .ref ylo, .ref yhi, .int yac, .int ynx, .ref yro, .ref ygl, .int ysn, .ref yso, .ref ysp, .ref ysw, .long ysd, .ref yik, .ref ykp]))]) u)) A) cX4_isTicket 2 (some .boolean) (by decide) rfl (Nat.le_of_ble_eq_true rfl) ?_
  intro p e s m args below meth c R Q A ls hBd hR hQ hA hS hK hP hD hl
  obtain ⟨hx, hb, hr, hts, hown, hlocks, hin, hml⟩ := hBd
  have hl : lv_has ls 2 [(0, .ref h0), (1, .int n)] := hl
  have iX4 : ∀ w ∈ wsX40, w ∈ wsX4_isTicket := fun _ h => List.mem_cons_of_mem _ (List.mem_append_right _ h)
  obtain ⟨h_ytka, h_ytkb⟩ := h_ytk
  refine lv_iload_n hx hb dX4_isTicket_0 rfl (lv_at hl 1 rfl) ?_
  obtain ⟨w_1, ew_1⟩ : ∃ z : Int64, n.toInt64 = z := ⟨_, rfl⟩
  have tw_1 : w_1.toInt = n.toInt := by rw [← ew_1, Int32.toInt_toInt64]
  refine lv_i2l hx hb dX4_isTicket_1 ew_1 ?_
  refine lv_lconst (v := 0) hx hb dX4_isTicket_2 (by decide) ?_
  refine lv_aload_n hx hb dX4_isTicket_3 rfl (lv_at hl 0 rfl) ?_
  refine va_get (D := D) (ci := 4) (v := .int ytk) (C := RX4) (T := TX4) (N := 30) hx hb hts iX4 hown hK hP 0 rfl rfl 1 (by decide) (hts (.fieldLink RX4 101 "PunchedTicketModel" "tickets" "I") (List.mem_of_getElem? (i := 1) rfl)) (fun _ h9 => h9) rfl dX4_isTicket_4 ?_
  refine lv_iconst (v := 1) hx hb dX4_isTicket_7 (by decide) ?_
  refine lv_isub hx hb dX4_isTicket_8 ?_
  refine lv_topi (fun v_2 ev_2 => ?_)
  have tv_2 : v_2.toInt = ytk.toInt - (1 : Int) := by rw [ev_2]; exact ti_sub (x := ytk) (y := 1) (show -2147483648 ≤ ytk.toInt - (1 : Int) by omega) (show ytk.toInt - (1 : Int) < 2147483648 by omega)
  obtain ⟨w_3, ew_3⟩ : ∃ z : Int64, v_2.toInt64 = z := ⟨_, rfl⟩
  have tw_3 : w_3.toInt = v_2.toInt := by rw [← ew_3, Int32.toInt_toInt64]
  refine lv_i2l hx hb dX4_isTicket_9 ew_3 ?_
  refine cS_i (As := [.long w_1, .long 0, .long w_3]) (rest := []) ⟨hx, hb, hml, hown, hts⟩ (c_X4_in l D cI cZ cM w_1 0 w_3 _ ) (va_cwS 3 hts gX4_isTicket_X4_in rfl rfl rfl (by decide +kernel) ⟨by rw [hR]; decide, by rw [hR]; decide⟩) hK hP hD hS hA [] [0] rfl rfl (by decide) (by decide) (by decide) hl.1 rfl rfl (Nat.le_of_ble_eq_true rfl) dX4_isTicket_10 ⟨by rw [hR]; decide, by rw [hR]; decide⟩ (fun r_4 u_5 H locs hw hP hD hS => ?_)
  have hP : va_P D vwCl [(h0, .inr (4, [.int ype, .int ytk, .ref ywi, .ref yki, .ref yse, .ref yno, .ref yrh, .ref yrw, .ref yrk, .ref yrt, .int yrp, .int yrq, .ref ytx, .int yle, .int yat, .int yfa, .ref yby, .ref ylo, .ref yhi, .int yac, .int ynx, .ref yro, .ref ygl, .int ysn, .ref yso, .ref ysp, .ref ysw, .long ysd, .ref yik, .ref ykp]))] H := hP.sub [0] rfl
  have hD : va_D A [(h0, .inr (4, [.int ype, .int ytk, .ref ywi, .ref yki, .ref yse, .ref yno, .ref yrh, .ref yrw, .ref yrk, .ref yrt, .int yrp, .int yrq, .ref ytx, .int yle, .int yat, .int yfa, .ref yby, .ref ylo, .ref yhi, .int yac, .int ynx, .ref yro, .ref ygl, .int ysn, .ref yso, .ref ysp, .ref ysw, .long ysd, .ref yik, .ref ykp]))] := hD.sub [0] (by decide) rfl
  refine W.widen (k := 0) (n := 0) (Nat.le_refl _) (Nat.le_refl _) ?_
  have hw : (r_4.toInt = 1 ∧ (0 : Int) ≤ w_1.toInt ∧ w_1.toInt ≤ w_3.toInt) ∨ (r_4.toInt = 0 ∧ (w_1.toInt < (0 : Int) ∨ w_3.toInt < w_1.toInt)) := hw
  have hw_6 := hw
  exact ret_i (post := (fun (r : Int32) (u : Unit) => (r.toInt = 1 ∧ 0 ≤ n.toInt ∧ n.toInt < ytk.toInt) ∨ (r.toInt = 0 ∧ (n.toInt < 0 ∨ ytk.toInt ≤ n.toInt)))) (W1 := (fun u => [(h0, .inr (4, [.int ype, .int ytk, .ref ywi, .ref yki, .ref yse, .ref yno, .ref yrh, .ref yrw, .ref yrk, .ref yrt, .int yrp, .int yrq, .ref ytx, .int yle, .int yat, .int yfa, .ref yby, .ref ylo, .ref yhi, .int yac, .int ynx, .ref yro, .ref ygl, .int ysn, .ref yso, .ref ysp, .ref ysw, .long ysd, .ref yik, .ref ykp]))])) () hx hb hr hlocks (nar_z (show r_4.toInt = 0 ∨ r_4.toInt = 1 by omega)) hQ hK hP hD hS ⟨by decide, by decide⟩ dX4_isTicket_13 (show (r_4.toInt = 1 ∧ 0 ≤ n.toInt ∧ n.toInt < ytk.toInt) ∨ (r_4.toInt = 0 ∧ (n.toInt < 0 ∨ ytk.toInt ≤ n.toInt)) by omega)

set_option maxHeartbeats 600000 in
set_option maxRecDepth 100000 in
theorem c_X4_ones (l : Launch) (D : va_G) (cI cZ cM : ClassId) (n : Int32) (sz : Nat)  : Ci l yX4_ones wsX4_ones ({ frames := 0, cells := 0, slots := 0, locals := 0 } : Room) D cI cZ cM [.int n] [] sz (fun (r : Int32) (u : Unit) => 0 ≤ r.toInt ∧ r.toInt ≤ 7) (fun u => []) 0 0 := by
  refine begins (l := l) (y := yX4_ones) (ws := wsX4_ones) (av := [.int n]) (Qc := fun A => va_Qi (fun (r : Int32) (u : Unit) => 0 ≤ r.toInt ∧ r.toInt ≤ 7) (fun u => Wd D cI cZ cM A ((fun u => []) u)) A) cX4_ones 3 (some .int) (by decide) rfl (Nat.le_of_ble_eq_true rfl) ?_
  intro p e s m args below meth c R Q A ls hBd hR hQ hA hS hK hP hD hl
  obtain ⟨hx, hb, hr, hts, hown, hlocks, hin, hml⟩ := hBd
  have hl : lv_has ls 3 [(0, .int n)] := hl
  refine lv_iconst (v := 0) hx hb dX4_ones_0 (by decide) ?_
  refine lv_istore_n (lv' := [(1, .int 0), (0, .int n)]) hx hb dX4_ones_1 rfl hl (by decide) rfl (fun ls hl => ?_)
  refine lv_iconst (v := 0) hx hb dX4_ones_2 (by decide) ?_
  refine lv_istore_n (lv' := [(2, .int 0), (1, .int 0), (0, .int n)]) hx hb dX4_ones_3 rfl hl (by decide) rfl (fun ls hl => ?_)
  have LOOP_1 : ∀ (fu_1 : Nat) (w1 : Int32) (x2 : Int32) (H : Heap) (locs : List Loc) (ls : Array Slot), (7 - x2.toInt).toNat < fu_1 → (0 ≤ w1.toInt ∧ w1.toInt ≤ 7) → (0 ≤ x2.toInt ∧ x2.toInt ≤ 7) → (w1.toInt ≤ x2.toInt) → va_P D vwCl [] H → va_D A [] → va_S A s.heap H locs → lv_has ls 3 [(0, .int n), (1, .int w1), (2, .int x2)] → W p l e R s m args below meth c H locs 0 0 Q (F0 m 4 ls []) := by
    intro fu_1
    induction fu_1 with
    | zero => intro w1 x2 H locs ls hmu; exact absurd hmu (Nat.not_lt_zero _)
    | succ fu_1 ih =>
      intro w1 x2 H locs ls hmu h_w1 h_x2 hww hP hD hS hl
      obtain ⟨h_w1a, h_w1b⟩ := h_w1
      obtain ⟨h_x2a, h_x2b⟩ := h_x2
      have ih_2 := ih
      clear ih
      refine lv_iload_n hx hb dX4_ones_4 rfl (lv_at hl 2 rfl) ?_
      refine lv_bipush (v := 7) hx hb dX4_ones_5 (by decide) ?_
      refine lv_icmp_ge (tgt := 24) hx hb dX4_ones_7 (by decide) (fun c_3 => ?_) (fun c_3 => ?_)
      · have tc_3 := b_le (show (7 : Int32).toInt = 7 by decide) rfl c_3
        refine lv_iload_n hx hb dX4_ones_24 rfl (lv_at hl 1 rfl) ?_
        exact ret_i (post := (fun (r : Int32) (u : Unit) => 0 ≤ r.toInt ∧ r.toInt ≤ 7)) (W1 := (fun u => [])) () hx hb hr hlocks rfl hQ hK hP hD hS ⟨by decide, by decide⟩ dX4_ones_25 (show 0 ≤ w1.toInt ∧ w1.toInt ≤ 7 by omega)
      · have tc_3 := b_nle (show (7 : Int32).toInt = 7 by decide) rfl c_3
        refine lv_iload_n hx hb dX4_ones_10 rfl (lv_at hl 1 rfl) ?_
        refine lv_iload_n hx hb dX4_ones_11 rfl (lv_at hl 0 rfl) ?_
        refine lv_iload_n hx hb dX4_ones_12 rfl (lv_at hl 2 rfl) ?_
        refine lv_ishr hx hb dX4_ones_13 ?_
        refine lv_topi (fun v_4 ev_4 => ?_)
        refine lv_iconst (v := 1) hx hb dX4_ones_14 (by decide) ?_
        refine lv_iand hx hb dX4_ones_15 ?_
        refine lv_topi (fun v_5 ev_5 => ?_)
        have hv_5 := and1 (v := v_5) ev_5
        obtain ⟨hv_5a, hv_5b⟩ := hv_5
        refine lv_iadd hx hb dX4_ones_16 ?_
        refine lv_topi (fun v_6 ev_6 => ?_)
        have tv_6 : v_6.toInt = w1.toInt + v_5.toInt := by rw [ev_6]; exact ti_add (x := w1) (y := v_5) (show -2147483648 ≤ w1.toInt + v_5.toInt by omega) (show w1.toInt + v_5.toInt < 2147483648 by omega)
        refine lv_istore_n (lv' := [(1, .int v_6), (0, .int n), (2, .int x2)]) hx hb dX4_ones_17 rfl hl (by decide) rfl (fun ls hl => ?_)
        obtain ⟨v_7, ev_7⟩ : ∃ z : Int32, z = x2 + 1 := ⟨_, rfl⟩
        have tv_7 : v_7.toInt = x2.toInt + 1 := by rw [ev_7]; exact ti_add (x := x2) (y := 1) (show -2147483648 ≤ x2.toInt + 1 by omega) (show x2.toInt + 1 < 2147483648 by omega)
        refine lv_iinc (v := v_7) (lv' := [(2, .int v_7), (1, .int v_6), (0, .int n)]) hx hb dX4_ones_18 hl (k := 2) rfl (by rw [ev_7]; rfl) (by decide) rfl (fun ls hl => ?_)
        refine lv_goto (tgt := 4) hx hb dX4_ones_21 (by decide) ?_
        exact ih_2 v_6 v_7 _ _ _ (show (7 - v_7.toInt).toNat < fu_1 by omega) (show 0 ≤ v_6.toInt ∧ v_6.toInt ≤ 7 by omega) (show 0 ≤ v_7.toInt ∧ v_7.toInt ≤ 7 by omega) (show v_6.toInt ≤ v_7.toInt by omega) hP hD hS (lv_sub hl [2, 1, 0] rfl)
  exact LOOP_1 _ 0 0 _ _ _ (Nat.lt_succ_self _) (by decide) (by decide) (by decide) hP hD hS (lv_sub hl [2, 1, 0] rfl)

set_option maxHeartbeats 600000 in
set_option maxRecDepth 100000 in
theorem c_X4_write (l : Launch) (D : va_G) (cI cZ cM : ClassId) (h0 : Nat) (n : Int32) (ype : Int32) (ytk : Int32) (ywi : Nat) (yki : Nat) (yse : Nat) (yno : Nat) (yrh : Nat) (yrw : Nat) (yrk : Nat) (yrt : Nat) (yrp : Int32) (yrq : Int32) (ytx : Nat) (yle : Int32) (yat : Int32) (yfa : Int32) (yby : Nat) (ylo : Nat) (yhi : Nat) (yac : Int32) (ynx : Int32) (yro : Nat) (ygl : Nat) (ysn : Int32) (yso : Nat) (ysp : Nat) (ysw : Nat) (ysd : Int64) (yik : Nat) (ykp : Nat) (Ftx : Nat → Int32) (sz : Nat) (h_yle : 0 ≤ yle.toInt ∧ yle.toInt ≤ 64) : Ci l yX4_write wsX4_write ({ frames := 1, cells := 0, slots := 0, locals := 25 } : Room) D cI cZ cM [.ref h0, .int n] [(h0, .inr (4, [.int ype, .int ytk, .ref ywi, .ref yki, .ref yse, .ref yno, .ref yrh, .ref yrw, .ref yrk, .ref yrt, .int yrp, .int yrq, .ref ytx, .int yle, .int yat, .int yfa, .ref yby, .ref ylo, .ref yhi, .int yac, .int ynx, .ref yro, .ref ygl, .int ysn, .ref yso, .ref ysp, .ref ysw, .long ysd, .ref yik, .ref ykp])), (ytx, .inl (cI, 64, .inl Ftx))] sz (fun (r : Int32) (u : Int32 × (Nat → Int32)) => (((n.toInt < 0 ∨ 255 < n.toInt) ∧ r.toInt = -2 ∧ u.1.toInt = yle.toInt) ∨ (0 ≤ n.toInt ∧ n.toInt ≤ 255 ∧ yle.toInt = 64 ∧ r.toInt = -4 ∧ u.1.toInt = yle.toInt) ∨ (0 ≤ n.toInt ∧ n.toInt ≤ 255 ∧ yle.toInt < 64 ∧ r.toInt = yle.toInt + 1 ∧ u.1.toInt = yle.toInt + 1))) (fun u => [(h0, .inr (4, [.int ype, .int ytk, .ref ywi, .ref yki, .ref yse, .ref yno, .ref yrh, .ref yrw, .ref yrk, .ref yrt, .int yrp, .int yrq, .ref ytx, .int u.1, .int yat, .int yfa, .ref yby, .ref ylo, .ref yhi, .int yac, .int ynx, .ref yro, .ref ygl, .int ysn, .ref yso, .ref ysp, .ref ysw, .long ysd, .ref yik, .ref ykp])), (ytx, .inl (cI, 64, .inl u.2))]) 0 0 := by
  refine begins (l := l) (y := yX4_write) (ws := wsX4_write) (av := [.ref h0, .int n]) (Qc := fun A => va_Qi (fun (r : Int32) (u : Int32 × (Nat → Int32)) => (((n.toInt < 0 ∨ 255 < n.toInt) ∧ r.toInt = -2 ∧ u.1.toInt = yle.toInt) ∨ (0 ≤ n.toInt ∧ n.toInt ≤ 255 ∧ yle.toInt = 64 ∧ r.toInt = -4 ∧ u.1.toInt = yle.toInt) ∨ (0 ≤ n.toInt ∧ n.toInt ≤ 255 ∧ yle.toInt < 64 ∧ r.toInt = yle.toInt + 1 ∧ u.1.toInt = yle.toInt + 1))) (fun u => Wd D cI cZ cM A ((fun u => [(h0, .inr (4, [.int ype, .int ytk, .ref ywi, .ref yki, .ref yse, .ref yno, .ref yrh, .ref yrw, .ref yrk, .ref yrt, .int yrp, .int yrq, .ref ytx, .int u.1, .int yat, .int yfa, .ref yby, .ref ylo, .ref yhi, .int yac, .int ynx, .ref yro, .ref ygl, .int ysn, .ref yso, .ref ysp, .ref ysw, .long ysd, .ref yik, .ref ykp])), (ytx, .inl (cI, 64, .inl u.2))]) u)) A) cX4_write 2 (some .int) (by decide) rfl (Nat.le_of_ble_eq_true rfl) ?_
  intro p e s m args below meth c R Q A ls hBd hR hQ hA hS hK hP hD hl
  obtain ⟨hx, hb, hr, hts, hown, hlocks, hin, hml⟩ := hBd
  have hl : lv_has ls 2 [(0, .ref h0), (1, .int n)] := hl
  have iX4 : ∀ w ∈ wsX40, w ∈ wsX4_write := fun _ h => List.mem_cons_of_mem _ (List.mem_append_right _ h)
  obtain ⟨h_ylea, h_yleb⟩ := h_yle
  refine lv_iload_n hx hb dX4_write_0 rfl (lv_at hl 1 rfl) ?_
  obtain ⟨w_1, ew_1⟩ : ∃ z : Int64, n.toInt64 = z := ⟨_, rfl⟩
  have tw_1 : w_1.toInt = n.toInt := by rw [← ew_1, Int32.toInt_toInt64]
  refine lv_i2l hx hb dX4_write_1 ew_1 ?_
  refine lv_lconst (v := 0) hx hb dX4_write_2 (by decide) ?_
  refine lv_ldc2 (v := (255)) hx hb hown (hts (.constantLong RX4 72 (255)) (List.mem_of_getElem? (i := 1) rfl)) dX4_write_3 ?_
  refine cS_i (As := [.long w_1, .long 0, .long (255)]) (rest := []) ⟨hx, hb, hml, hown, hts⟩ (c_X4_in l D cI cZ cM w_1 0 (255) _ ) (va_cwS 3 hts gX4_write_X4_in rfl rfl rfl (by decide +kernel) ⟨by rw [hR]; decide, by rw [hR]; decide⟩) hK hP hD hS hA [] [0, 1] rfl rfl (by decide) (by decide) (by decide) hl.1 rfl rfl (Nat.le_of_ble_eq_true rfl) dX4_write_6 ⟨by rw [hR]; decide, by rw [hR]; decide⟩ (fun r_2 u_3 H locs hw hP hD hS => ?_)
  have hP : va_P D vwCl [(h0, .inr (4, [.int ype, .int ytk, .ref ywi, .ref yki, .ref yse, .ref yno, .ref yrh, .ref yrw, .ref yrk, .ref yrt, .int yrp, .int yrq, .ref ytx, .int yle, .int yat, .int yfa, .ref yby, .ref ylo, .ref yhi, .int yac, .int ynx, .ref yro, .ref ygl, .int ysn, .ref yso, .ref ysp, .ref ysw, .long ysd, .ref yik, .ref ykp])), (ytx, .inl (cI, 64, .inl Ftx))] H := hP.sub [0, 1] rfl
  have hD : va_D A [(h0, .inr (4, [.int ype, .int ytk, .ref ywi, .ref yki, .ref yse, .ref yno, .ref yrh, .ref yrw, .ref yrk, .ref yrt, .int yrp, .int yrq, .ref ytx, .int yle, .int yat, .int yfa, .ref yby, .ref ylo, .ref yhi, .int yac, .int ynx, .ref yro, .ref ygl, .int ysn, .ref yso, .ref ysp, .ref ysw, .long ysd, .ref yik, .ref ykp])), (ytx, .inl (cI, 64, .inl Ftx))] := hD.sub [0, 1] (by decide) rfl
  refine W.widen (k := 0) (n := 0) (Nat.le_refl _) (Nat.le_refl _) ?_
  have hw : (r_2.toInt = 1 ∧ (0 : Int) ≤ w_1.toInt ∧ w_1.toInt ≤ (255 : Int)) ∨ (r_2.toInt = 0 ∧ (w_1.toInt < (0 : Int) ∨ (255 : Int) < w_1.toInt)) := hw
  have hw_4 := hw
  refine lv_if_ne (tgt := 15) hx hb dX4_write_9 (by decide) (fun c_5 => ?_) (fun c_5 => ?_)
  · have tc_5 := b_ne rfl (show (0 : Int32).toInt = 0 by decide) c_5
    refine lv_aload_n hx hb dX4_write_15 rfl (lv_at hl 0 rfl) ?_
    refine va_get (D := D) (ci := 4) (v := .int yle) (C := RX4) (T := TX4) (N := 30) hx hb hts iX4 hown hK hP 0 rfl rfl 13 (by decide) (hts (.fieldLink RX4 78 "PunchedTicketModel" "length" "I") (List.mem_of_getElem? (i := 2) rfl)) (fun _ h9 => h9) rfl dX4_write_16 ?_
    refine lv_bipush (v := 64) hx hb dX4_write_19 (by decide) ?_
    refine lv_icmp_ne (tgt := 27) hx hb dX4_write_21 (by decide) (fun c_6 => ?_) (fun c_6 => ?_)
    · have tc_6 := b_ne rfl (show (64 : Int32).toInt = 64 by decide) c_6
      refine lv_aload_n hx hb dX4_write_27 rfl (lv_at hl 0 rfl) ?_
      refine va_get (D := D) (ci := 4) (v := .ref ytx) (C := RX4) (T := TX4) (N := 30) hx hb hts iX4 hown hK hP 0 rfl rfl 12 (by decide) (hts (.fieldLink RX4 34 "PunchedTicketModel" "text" "[I") (List.mem_of_getElem? (i := 3) rfl)) (fun _ h9 => h9) rfl dX4_write_28 ?_
      refine lv_aload_n hx hb dX4_write_31 rfl (lv_at hl 0 rfl) ?_
      refine va_get (D := D) (ci := 4) (v := .int yle) (C := RX4) (T := TX4) (N := 30) hx hb hts iX4 hown hK hP 0 rfl rfl 13 (by decide) (hts (.fieldLink RX4 78 "PunchedTicketModel" "length" "I") (List.mem_of_getElem? (i := 2) rfl)) (fun _ h9 => h9) rfl dX4_write_32 ?_
      refine lv_iload_n hx hb dX4_write_35 rfl (lv_at hl 1 rfl) ?_
      refine va_iast hx hb hK hP hD hS 1 0 rfl rfl (vp_in_iff.mpr ⟨by omega, by omega⟩) dX4_write_36 (fun H locs hP hD hS => ?_)
      obtain ⟨f_7, ef_7⟩ : ∃ g : Nat → Int32, upd Ftx (yle : Int32).toNatClampNeg n = g := ⟨_, rfl⟩
      rw [ef_7] at hP hD
      have hP : va_P D vwCl [(h0, .inr (4, [.int ype, .int ytk, .ref ywi, .ref yki, .ref yse, .ref yno, .ref yrh, .ref yrw, .ref yrk, .ref yrt, .int yrp, .int yrq, .ref ytx, .int yle, .int yat, .int yfa, .ref yby, .ref ylo, .ref yhi, .int yac, .int ynx, .ref yro, .ref ygl, .int ysn, .ref yso, .ref ysp, .ref ysw, .long ysd, .ref yik, .ref ykp])), (ytx, .inl (cI, 64, .inl f_7))] H := hP
      have hD : va_D A [(h0, .inr (4, [.int ype, .int ytk, .ref ywi, .ref yki, .ref yse, .ref yno, .ref yrh, .ref yrw, .ref yrk, .ref yrt, .int yrp, .int yrq, .ref ytx, .int yle, .int yat, .int yfa, .ref yby, .ref ylo, .ref yhi, .int yac, .int ynx, .ref yro, .ref ygl, .int ysn, .ref yso, .ref ysp, .ref ysw, .long ysd, .ref yik, .ref ykp])), (ytx, .inl (cI, 64, .inl f_7))] := hD
      refine lv_aload_n hx hb dX4_write_37 rfl (lv_at hl 0 rfl) ?_
      refine lv_dup hx hb dX4_write_38 rfl ?_
      refine va_get (D := D) (ci := 4) (v := .int yle) (C := RX4) (T := TX4) (N := 30) hx hb hts iX4 hown hK hP 0 rfl rfl 13 (by decide) (hts (.fieldLink RX4 78 "PunchedTicketModel" "length" "I") (List.mem_of_getElem? (i := 2) rfl)) (fun _ h9 => h9) rfl dX4_write_39 ?_
      refine lv_iconst (v := 1) hx hb dX4_write_42 (by decide) ?_
      refine lv_iadd hx hb dX4_write_43 ?_
      refine lv_topi (fun v_8 ev_8 => ?_)
      have tv_8 : v_8.toInt = yle.toInt + (1 : Int) := by rw [ev_8]; exact ti_add (x := yle) (y := 1) (show -2147483648 ≤ yle.toInt + (1 : Int) by omega) (show yle.toInt + (1 : Int) < 2147483648 by omega)
      refine va_put (D := D) (ci := 4) (v := .int v_8) (ty := .int) (C := RX4) (T := TX4) (N := 30) hx hb hts iX4 tyX4 tyX4_ok nmX4 hown hK hP hD hS 0 rfl rfl 13 (by decide) (hts (.fieldLink RX4 78 "PunchedTicketModel" "length" "I") (List.mem_of_getElem? (i := 2) rfl)) (fun _ h9 => h9) rfl (by decide +kernel) rfl rfl (Nat.le_of_ble_eq_true rfl) dX4_write_44 (fun H locs hP hD hS => ?_)
      have hP : va_P D vwCl [(h0, .inr (4, [.int ype, .int ytk, .ref ywi, .ref yki, .ref yse, .ref yno, .ref yrh, .ref yrw, .ref yrk, .ref yrt, .int yrp, .int yrq, .ref ytx, .int v_8, .int yat, .int yfa, .ref yby, .ref ylo, .ref yhi, .int yac, .int ynx, .ref yro, .ref ygl, .int ysn, .ref yso, .ref ysp, .ref ysw, .long ysd, .ref yik, .ref ykp])), (ytx, .inl (cI, 64, .inl f_7))] H := hP
      have hD : va_D A [(h0, .inr (4, [.int ype, .int ytk, .ref ywi, .ref yki, .ref yse, .ref yno, .ref yrh, .ref yrw, .ref yrk, .ref yrt, .int yrp, .int yrq, .ref ytx, .int v_8, .int yat, .int yfa, .ref yby, .ref ylo, .ref yhi, .int yac, .int ynx, .ref yro, .ref ygl, .int ysn, .ref yso, .ref ysp, .ref ysw, .long ysd, .ref yik, .ref ykp])), (ytx, .inl (cI, 64, .inl f_7))] := hD
      refine lv_aload_n hx hb dX4_write_47 rfl (lv_at hl 0 rfl) ?_
      refine va_get (D := D) (ci := 4) (v := .int v_8) (C := RX4) (T := TX4) (N := 30) hx hb hts iX4 hown hK hP 0 rfl rfl 13 (by decide) (hts (.fieldLink RX4 78 "PunchedTicketModel" "length" "I") (List.mem_of_getElem? (i := 2) rfl)) (fun _ h9 => h9) rfl dX4_write_48 ?_
      exact ret_i (post := (fun (r : Int32) (u : Int32 × (Nat → Int32)) => (((n.toInt < 0 ∨ 255 < n.toInt) ∧ r.toInt = -2 ∧ u.1.toInt = yle.toInt) ∨ (0 ≤ n.toInt ∧ n.toInt ≤ 255 ∧ yle.toInt = 64 ∧ r.toInt = -4 ∧ u.1.toInt = yle.toInt) ∨ (0 ≤ n.toInt ∧ n.toInt ≤ 255 ∧ yle.toInt < 64 ∧ r.toInt = yle.toInt + 1 ∧ u.1.toInt = yle.toInt + 1)))) (W1 := (fun u => [(h0, .inr (4, [.int ype, .int ytk, .ref ywi, .ref yki, .ref yse, .ref yno, .ref yrh, .ref yrw, .ref yrk, .ref yrt, .int yrp, .int yrq, .ref ytx, .int u.1, .int yat, .int yfa, .ref yby, .ref ylo, .ref yhi, .int yac, .int ynx, .ref yro, .ref ygl, .int ysn, .ref yso, .ref ysp, .ref ysw, .long ysd, .ref yik, .ref ykp])), (ytx, .inl (cI, 64, .inl u.2))])) (v_8, f_7) hx hb hr hlocks rfl hQ hK hP hD hS ⟨by decide, by decide⟩ dX4_write_51 (show (((n.toInt < 0 ∨ 255 < n.toInt) ∧ v_8.toInt = -2 ∧ v_8.toInt = yle.toInt) ∨ (0 ≤ n.toInt ∧ n.toInt ≤ 255 ∧ yle.toInt = 64 ∧ v_8.toInt = -4 ∧ v_8.toInt = yle.toInt) ∨ (0 ≤ n.toInt ∧ n.toInt ≤ 255 ∧ yle.toInt < 64 ∧ v_8.toInt = yle.toInt + 1 ∧ v_8.toInt = yle.toInt + 1)) by omega)
    · have tc_6 := b_eq rfl (show (64 : Int32).toInt = 64 by decide) c_6
      refine lv_bipush (v := (-4)) hx hb dX4_write_24 (by decide) ?_
      exact ret_i (post := (fun (r : Int32) (u : Int32 × (Nat → Int32)) => (((n.toInt < 0 ∨ 255 < n.toInt) ∧ r.toInt = -2 ∧ u.1.toInt = yle.toInt) ∨ (0 ≤ n.toInt ∧ n.toInt ≤ 255 ∧ yle.toInt = 64 ∧ r.toInt = -4 ∧ u.1.toInt = yle.toInt) ∨ (0 ≤ n.toInt ∧ n.toInt ≤ 255 ∧ yle.toInt < 64 ∧ r.toInt = yle.toInt + 1 ∧ u.1.toInt = yle.toInt + 1)))) (W1 := (fun u => [(h0, .inr (4, [.int ype, .int ytk, .ref ywi, .ref yki, .ref yse, .ref yno, .ref yrh, .ref yrw, .ref yrk, .ref yrt, .int yrp, .int yrq, .ref ytx, .int u.1, .int yat, .int yfa, .ref yby, .ref ylo, .ref yhi, .int yac, .int ynx, .ref yro, .ref ygl, .int ysn, .ref yso, .ref ysp, .ref ysw, .long ysd, .ref yik, .ref ykp])), (ytx, .inl (cI, 64, .inl u.2))])) (yle, Ftx) hx hb hr hlocks rfl hQ hK hP hD hS ⟨by decide, by decide⟩ dX4_write_26 (show (((n.toInt < 0 ∨ 255 < n.toInt) ∧ (-4 : Int) = -2 ∧ yle.toInt = yle.toInt) ∨ (0 ≤ n.toInt ∧ n.toInt ≤ 255 ∧ yle.toInt = 64 ∧ (-4 : Int) = -4 ∧ yle.toInt = yle.toInt) ∨ (0 ≤ n.toInt ∧ n.toInt ≤ 255 ∧ yle.toInt < 64 ∧ (-4 : Int) = yle.toInt + 1 ∧ yle.toInt = yle.toInt + 1)) by omega)
  · have tc_5 := b_eq rfl (show (0 : Int32).toInt = 0 by decide) c_5
    refine lv_bipush (v := (-2)) hx hb dX4_write_12 (by decide) ?_
    exact ret_i (post := (fun (r : Int32) (u : Int32 × (Nat → Int32)) => (((n.toInt < 0 ∨ 255 < n.toInt) ∧ r.toInt = -2 ∧ u.1.toInt = yle.toInt) ∨ (0 ≤ n.toInt ∧ n.toInt ≤ 255 ∧ yle.toInt = 64 ∧ r.toInt = -4 ∧ u.1.toInt = yle.toInt) ∨ (0 ≤ n.toInt ∧ n.toInt ≤ 255 ∧ yle.toInt < 64 ∧ r.toInt = yle.toInt + 1 ∧ u.1.toInt = yle.toInt + 1)))) (W1 := (fun u => [(h0, .inr (4, [.int ype, .int ytk, .ref ywi, .ref yki, .ref yse, .ref yno, .ref yrh, .ref yrw, .ref yrk, .ref yrt, .int yrp, .int yrq, .ref ytx, .int u.1, .int yat, .int yfa, .ref yby, .ref ylo, .ref yhi, .int yac, .int ynx, .ref yro, .ref ygl, .int ysn, .ref yso, .ref ysp, .ref ysw, .long ysd, .ref yik, .ref ykp])), (ytx, .inl (cI, 64, .inl u.2))])) (yle, Ftx) hx hb hr hlocks rfl hQ hK hP hD hS ⟨by decide, by decide⟩ dX4_write_14 (show (((n.toInt < 0 ∨ 255 < n.toInt) ∧ (-2 : Int) = -2 ∧ yle.toInt = yle.toInt) ∨ (0 ≤ n.toInt ∧ n.toInt ≤ 255 ∧ yle.toInt = 64 ∧ (-2 : Int) = -4 ∧ yle.toInt = yle.toInt) ∨ (0 ≤ n.toInt ∧ n.toInt ≤ 255 ∧ yle.toInt < 64 ∧ (-2 : Int) = yle.toInt + 1 ∧ yle.toInt = yle.toInt + 1)) by omega)

set_option maxHeartbeats 600000 in
set_option maxRecDepth 100000 in
theorem c_X4_wipe (l : Launch) (D : va_G) (cI cZ cM : ClassId) (h0 : Nat) (ype : Int32) (ytk : Int32) (ywi : Nat) (yki : Nat) (yse : Nat) (yno : Nat) (yrh : Nat) (yrw : Nat) (yrk : Nat) (yrt : Nat) (yrp : Int32) (yrq : Int32) (ytx : Nat) (yle : Int32) (yat : Int32) (yfa : Int32) (yby : Nat) (ylo : Nat) (yhi : Nat) (yac : Int32) (ynx : Int32) (yro : Nat) (ygl : Nat) (ysn : Int32) (yso : Nat) (ysp : Nat) (ysw : Nat) (ysd : Int64) (yik : Nat) (ykp : Nat) (sz : Nat)  : Ci l yX4_wipe wsX4_wipe ({ frames := 0, cells := 0, slots := 0, locals := 0 } : Room) D cI cZ cM [.ref h0] [(h0, .inr (4, [.int ype, .int ytk, .ref ywi, .ref yki, .ref yse, .ref yno, .ref yrh, .ref yrw, .ref yrk, .ref yrt, .int yrp, .int yrq, .ref ytx, .int yle, .int yat, .int yfa, .ref yby, .ref ylo, .ref yhi, .int yac, .int ynx, .ref yro, .ref ygl, .int ysn, .ref yso, .ref ysp, .ref ysw, .long ysd, .ref yik, .ref ykp]))] sz (fun (r : Int32) (u : Unit) => r.toInt = yle.toInt) (fun u => [(h0, .inr (4, [.int ype, .int ytk, .ref ywi, .ref yki, .ref yse, .ref yno, .ref yrh, .ref yrw, .ref yrk, .ref yrt, .int yrp, .int yrq, .ref ytx, .int 0, .int yat, .int yfa, .ref yby, .ref ylo, .ref yhi, .int yac, .int ynx, .ref yro, .ref ygl, .int ysn, .ref yso, .ref ysp, .ref ysw, .long ysd, .ref yik, .ref ykp]))]) 0 0 := by
  refine begins (l := l) (y := yX4_wipe) (ws := wsX4_wipe) (av := [.ref h0]) (Qc := fun A => va_Qi (fun (r : Int32) (u : Unit) => r.toInt = yle.toInt) (fun u => Wd D cI cZ cM A ((fun u => [(h0, .inr (4, [.int ype, .int ytk, .ref ywi, .ref yki, .ref yse, .ref yno, .ref yrh, .ref yrw, .ref yrk, .ref yrt, .int yrp, .int yrq, .ref ytx, .int 0, .int yat, .int yfa, .ref yby, .ref ylo, .ref yhi, .int yac, .int ynx, .ref yro, .ref ygl, .int ysn, .ref yso, .ref ysp, .ref ysw, .long ysd, .ref yik, .ref ykp]))]) u)) A) cX4_wipe 2 (some .int) (by decide) rfl (Nat.le_of_ble_eq_true rfl) ?_
  intro p e s m args below meth c R Q A ls hBd hR hQ hA hS hK hP hD hl
  obtain ⟨hx, hb, hr, hts, hown, hlocks, hin, hml⟩ := hBd
  have hl : lv_has ls 2 [(0, .ref h0)] := hl
  have iX4 : ∀ w ∈ wsX40, w ∈ wsX4_wipe := fun _ h => List.mem_cons_of_mem _ (List.mem_append_right _ h)
  refine lv_aload_n hx hb dX4_wipe_0 rfl (lv_at hl 0 rfl) ?_
  refine va_get (D := D) (ci := 4) (v := .int yle) (C := RX4) (T := TX4) (N := 30) hx hb hts iX4 hown hK hP 0 rfl rfl 13 (by decide) (hts (.fieldLink RX4 78 "PunchedTicketModel" "length" "I") (List.mem_of_getElem? (i := 1) rfl)) (fun _ h9 => h9) rfl dX4_wipe_1 ?_
  refine lv_istore_n (lv' := [(1, .int yle), (0, .ref h0)]) hx hb dX4_wipe_4 rfl hl (by decide) rfl (fun ls hl => ?_)
  refine lv_aload_n hx hb dX4_wipe_5 rfl (lv_at hl 1 rfl) ?_
  refine lv_iconst (v := 0) hx hb dX4_wipe_6 (by decide) ?_
  refine va_put (D := D) (ci := 4) (v := .int 0) (ty := .int) (C := RX4) (T := TX4) (N := 30) hx hb hts iX4 tyX4 tyX4_ok nmX4 hown hK hP hD hS 0 rfl rfl 13 (by decide) (hts (.fieldLink RX4 78 "PunchedTicketModel" "length" "I") (List.mem_of_getElem? (i := 1) rfl)) (fun _ h9 => h9) rfl (by decide +kernel) rfl rfl (Nat.le_of_ble_eq_true rfl) dX4_wipe_7 (fun H locs hP hD hS => ?_)
  have hP : va_P D vwCl [(h0, .inr (4, [.int ype, .int ytk, .ref ywi, .ref yki, .ref yse, .ref yno, .ref yrh, .ref yrw, .ref yrk, .ref yrt, .int yrp, .int yrq, .ref ytx, .int 0, .int yat, .int yfa, .ref yby, .ref ylo, .ref yhi, .int yac, .int ynx, .ref yro, .ref ygl, .int ysn, .ref yso, .ref ysp, .ref ysw, .long ysd, .ref yik, .ref ykp]))] H := hP
  have hD : va_D A [(h0, .inr (4, [.int ype, .int ytk, .ref ywi, .ref yki, .ref yse, .ref yno, .ref yrh, .ref yrw, .ref yrk, .ref yrt, .int yrp, .int yrq, .ref ytx, .int 0, .int yat, .int yfa, .ref yby, .ref ylo, .ref yhi, .int yac, .int ynx, .ref yro, .ref ygl, .int ysn, .ref yso, .ref ysp, .ref ysw, .long ysd, .ref yik, .ref ykp]))] := hD
  refine lv_iload_n hx hb dX4_wipe_10 rfl (lv_at hl 0 rfl) ?_
  exact ret_i (post := (fun (r : Int32) (u : Unit) => r.toInt = yle.toInt)) (W1 := (fun u => [(h0, .inr (4, [.int ype, .int ytk, .ref ywi, .ref yki, .ref yse, .ref yno, .ref yrh, .ref yrw, .ref yrk, .ref yrt, .int yrp, .int yrq, .ref ytx, .int 0, .int yat, .int yfa, .ref yby, .ref ylo, .ref yhi, .int yac, .int ynx, .ref yro, .ref ygl, .int ysn, .ref yso, .ref ysp, .ref ysw, .long ysd, .ref yik, .ref ykp]))])) () hx hb hr hlocks rfl hQ hK hP hD hS ⟨by decide, by decide⟩ dX4_wipe_11 (show yle.toInt = yle.toInt by omega)

set_option maxHeartbeats 600000 in
set_option maxRecDepth 100000 in
theorem c_X4_unsee (l : Launch) (D : va_G) (cI cZ cM : ClassId) (h0 : Nat) (ype : Int32) (ytk : Int32) (ywi : Nat) (yki : Nat) (yse : Nat) (yno : Nat) (yrh : Nat) (yrw : Nat) (yrk : Nat) (yrt : Nat) (yrp : Int32) (yrq : Int32) (ytx : Nat) (yle : Int32) (yat : Int32) (yfa : Int32) (yby : Nat) (ylo : Nat) (yhi : Nat) (yac : Int32) (ynx : Int32) (yro : Nat) (ygl : Nat) (ysn : Int32) (yso : Nat) (ysp : Nat) (ysw : Nat) (ysd : Int64) (yik : Nat) (ykp : Nat) (sz : Nat)  : Ci l yX4_unsee wsX4_unsee ({ frames := 0, cells := 0, slots := 0, locals := 0 } : Room) D cI cZ cM [.ref h0] [(h0, .inr (4, [.int ype, .int ytk, .ref ywi, .ref yki, .ref yse, .ref yno, .ref yrh, .ref yrw, .ref yrk, .ref yrt, .int yrp, .int yrq, .ref ytx, .int yle, .int yat, .int yfa, .ref yby, .ref ylo, .ref yhi, .int yac, .int ynx, .ref yro, .ref ygl, .int ysn, .ref yso, .ref ysp, .ref ysw, .long ysd, .ref yik, .ref ykp]))] sz (fun (r : Int32) (u : Unit) => r.toInt = ysn.toInt) (fun u => [(h0, .inr (4, [.int ype, .int ytk, .ref ywi, .ref yki, .ref yse, .ref yno, .ref yrh, .ref yrw, .ref yrk, .ref yrt, .int yrp, .int yrq, .ref ytx, .int yle, .int yat, .int yfa, .ref yby, .ref ylo, .ref yhi, .int yac, .int ynx, .ref yro, .ref ygl, .int 0, .ref yso, .ref ysp, .ref ysw, .long ysd, .ref yik, .ref ykp]))]) 0 0 := by
  refine begins (l := l) (y := yX4_unsee) (ws := wsX4_unsee) (av := [.ref h0]) (Qc := fun A => va_Qi (fun (r : Int32) (u : Unit) => r.toInt = ysn.toInt) (fun u => Wd D cI cZ cM A ((fun u => [(h0, .inr (4, [.int ype, .int ytk, .ref ywi, .ref yki, .ref yse, .ref yno, .ref yrh, .ref yrw, .ref yrk, .ref yrt, .int yrp, .int yrq, .ref ytx, .int yle, .int yat, .int yfa, .ref yby, .ref ylo, .ref yhi, .int yac, .int ynx, .ref yro, .ref ygl, .int 0, .ref yso, .ref ysp, .ref ysw, .long ysd, .ref yik, .ref ykp]))]) u)) A) cX4_unsee 2 (some .int) (by decide) rfl (Nat.le_of_ble_eq_true rfl) ?_
  intro p e s m args below meth c R Q A ls hBd hR hQ hA hS hK hP hD hl
  obtain ⟨hx, hb, hr, hts, hown, hlocks, hin, hml⟩ := hBd
  have hl : lv_has ls 2 [(0, .ref h0)] := hl
  have iX4 : ∀ w ∈ wsX40, w ∈ wsX4_unsee := fun _ h => List.mem_cons_of_mem _ (List.mem_append_right _ h)
  refine lv_aload_n hx hb dX4_unsee_0 rfl (lv_at hl 0 rfl) ?_
  refine va_get (D := D) (ci := 4) (v := .int ysn) (C := RX4) (T := TX4) (N := 30) hx hb hts iX4 hown hK hP 0 rfl rfl 23 (by decide) (hts (.fieldLink RX4 199 "PunchedTicketModel" "seen" "I") (List.mem_of_getElem? (i := 1) rfl)) (fun _ h9 => h9) rfl dX4_unsee_1 ?_
  refine lv_istore_n (lv' := [(1, .int ysn), (0, .ref h0)]) hx hb dX4_unsee_4 rfl hl (by decide) rfl (fun ls hl => ?_)
  refine lv_aload_n hx hb dX4_unsee_5 rfl (lv_at hl 1 rfl) ?_
  refine lv_iconst (v := 0) hx hb dX4_unsee_6 (by decide) ?_
  refine va_put (D := D) (ci := 4) (v := .int 0) (ty := .int) (C := RX4) (T := TX4) (N := 30) hx hb hts iX4 tyX4 tyX4_ok nmX4 hown hK hP hD hS 0 rfl rfl 23 (by decide) (hts (.fieldLink RX4 199 "PunchedTicketModel" "seen" "I") (List.mem_of_getElem? (i := 1) rfl)) (fun _ h9 => h9) rfl (by decide +kernel) rfl rfl (Nat.le_of_ble_eq_true rfl) dX4_unsee_7 (fun H locs hP hD hS => ?_)
  have hP : va_P D vwCl [(h0, .inr (4, [.int ype, .int ytk, .ref ywi, .ref yki, .ref yse, .ref yno, .ref yrh, .ref yrw, .ref yrk, .ref yrt, .int yrp, .int yrq, .ref ytx, .int yle, .int yat, .int yfa, .ref yby, .ref ylo, .ref yhi, .int yac, .int ynx, .ref yro, .ref ygl, .int 0, .ref yso, .ref ysp, .ref ysw, .long ysd, .ref yik, .ref ykp]))] H := hP
  have hD : va_D A [(h0, .inr (4, [.int ype, .int ytk, .ref ywi, .ref yki, .ref yse, .ref yno, .ref yrh, .ref yrw, .ref yrk, .ref yrt, .int yrp, .int yrq, .ref ytx, .int yle, .int yat, .int yfa, .ref yby, .ref ylo, .ref yhi, .int yac, .int ynx, .ref yro, .ref ygl, .int 0, .ref yso, .ref ysp, .ref ysw, .long ysd, .ref yik, .ref ykp]))] := hD
  refine lv_iload_n hx hb dX4_unsee_10 rfl (lv_at hl 0 rfl) ?_
  exact ret_i (post := (fun (r : Int32) (u : Unit) => r.toInt = ysn.toInt)) (W1 := (fun u => [(h0, .inr (4, [.int ype, .int ytk, .ref ywi, .ref yki, .ref yse, .ref yno, .ref yrh, .ref yrw, .ref yrk, .ref yrt, .int yrp, .int yrq, .ref ytx, .int yle, .int yat, .int yfa, .ref yby, .ref ylo, .ref yhi, .int yac, .int ynx, .ref yro, .ref ygl, .int 0, .ref yso, .ref ysp, .ref ysw, .long ysd, .ref yik, .ref ykp]))])) () hx hb hr hlocks rfl hQ hK hP hD hS ⟨by decide, by decide⟩ dX4_unsee_11 (show ysn.toInt = ysn.toInt by omega)

set_option maxHeartbeats 600000 in
set_option maxRecDepth 100000 in
theorem c_X4_seed (l : Launch) (D : va_G) (cI cZ cM : ClassId) (h0 : Nat) (n : Int64) (ype : Int32) (ytk : Int32) (ywi : Nat) (yki : Nat) (yse : Nat) (yno : Nat) (yrh : Nat) (yrw : Nat) (yrk : Nat) (yrt : Nat) (yrp : Int32) (yrq : Int32) (ytx : Nat) (yle : Int32) (yat : Int32) (yfa : Int32) (yby : Nat) (ylo : Nat) (yhi : Nat) (yac : Int32) (ynx : Int32) (yro : Nat) (ygl : Nat) (ysn : Int32) (yso : Nat) (ysp : Nat) (ysw : Nat) (ysd : Int64) (yik : Nat) (ykp : Nat) (sz : Nat)  : Cl l yX4_seed wsX4_seed ({ frames := 0, cells := 0, slots := 0, locals := 0 } : Room) D cI cZ cM [.ref h0, .long n] [(h0, .inr (4, [.int ype, .int ytk, .ref ywi, .ref yki, .ref yse, .ref yno, .ref yrh, .ref yrw, .ref yrk, .ref yrt, .int yrp, .int yrq, .ref ytx, .int yle, .int yat, .int yfa, .ref yby, .ref ylo, .ref yhi, .int yac, .int ynx, .ref yro, .ref ygl, .int ysn, .ref yso, .ref ysp, .ref ysw, .long ysd, .ref yik, .ref ykp]))] sz (fun (r : Int64) (u : Unit) => r.toInt = ysd.toInt) (fun u => [(h0, .inr (4, [.int ype, .int ytk, .ref ywi, .ref yki, .ref yse, .ref yno, .ref yrh, .ref yrw, .ref yrk, .ref yrt, .int yrp, .int yrq, .ref ytx, .int yle, .int yat, .int yfa, .ref yby, .ref ylo, .ref yhi, .int yac, .int ynx, .ref yro, .ref ygl, .int ysn, .ref yso, .ref ysp, .ref ysw, .long n, .ref yik, .ref ykp]))]) 0 0 := by
  refine begins (l := l) (y := yX4_seed) (ws := wsX4_seed) (av := [.ref h0, .long n]) (Qc := fun A => va_Ql (fun (r : Int64) (u : Unit) => r.toInt = ysd.toInt) (fun u => Wd D cI cZ cM A ((fun u => [(h0, .inr (4, [.int ype, .int ytk, .ref ywi, .ref yki, .ref yse, .ref yno, .ref yrh, .ref yrw, .ref yrk, .ref yrt, .int yrp, .int yrq, .ref ytx, .int yle, .int yat, .int yfa, .ref yby, .ref ylo, .ref yhi, .int yac, .int ynx, .ref yro, .ref ygl, .int ysn, .ref yso, .ref ysp, .ref ysw, .long n, .ref yik, .ref ykp]))]) u)) A) cX4_seed 5 (some .long) (by decide) rfl (Nat.le_of_ble_eq_true rfl) ?_
  intro p e s m args below meth c R Q A ls hBd hR hQ hA hS hK hP hD hl
  obtain ⟨hx, hb, hr, hts, hown, hlocks, hin, hml⟩ := hBd
  have hl : lv_has ls 5 [(0, .ref h0), (1, .long n)] := hl
  have iX4 : ∀ w ∈ wsX40, w ∈ wsX4_seed := fun _ h => List.mem_cons_of_mem _ (List.mem_append_right _ h)
  refine lv_aload_n hx hb dX4_seed_0 rfl (lv_at hl 0 rfl) ?_
  refine va_get (D := D) (ci := 4) (v := .long ysd) (C := RX4) (T := TX4) (N := 30) hx hb hts iX4 hown hK hP 0 rfl rfl 27 (by decide) (hts (.fieldLink RX4 206 "PunchedTicketModel" "seed" "J") (List.mem_of_getElem? (i := 1) rfl)) (fun _ h9 => h9) rfl dX4_seed_1 ?_
  refine lv_lstore_n (lv' := [(3, .long ysd), (0, .ref h0), (1, .long n)]) hx hb dX4_seed_4 rfl hl (by decide) rfl (fun ls hl => ?_)
  refine lv_aload_n hx hb dX4_seed_5 rfl (lv_at hl 1 rfl) ?_
  refine lv_lload_n hx hb dX4_seed_6 rfl (lv_at hl 2 rfl) ?_
  refine va_put (D := D) (ci := 4) (v := .long n) (ty := .long) (C := RX4) (T := TX4) (N := 30) hx hb hts iX4 tyX4 tyX4_ok nmX4 hown hK hP hD hS 0 rfl rfl 27 (by decide) (hts (.fieldLink RX4 206 "PunchedTicketModel" "seed" "J") (List.mem_of_getElem? (i := 1) rfl)) (fun _ h9 => h9) rfl (by decide +kernel) rfl rfl (Nat.le_of_ble_eq_true rfl) dX4_seed_7 (fun H locs hP hD hS => ?_)
  have hP : va_P D vwCl [(h0, .inr (4, [.int ype, .int ytk, .ref ywi, .ref yki, .ref yse, .ref yno, .ref yrh, .ref yrw, .ref yrk, .ref yrt, .int yrp, .int yrq, .ref ytx, .int yle, .int yat, .int yfa, .ref yby, .ref ylo, .ref yhi, .int yac, .int ynx, .ref yro, .ref ygl, .int ysn, .ref yso, .ref ysp, .ref ysw, .long n, .ref yik, .ref ykp]))] H := hP
  have hD : va_D A [(h0, .inr (4, [.int ype, .int ytk, .ref ywi, .ref yki, .ref yse, .ref yno, .ref yrh, .ref yrw, .ref yrk, .ref yrt, .int yrp, .int yrq, .ref ytx, .int yle, .int yat, .int yfa, .ref yby, .ref ylo, .ref yhi, .int yac, .int ynx, .ref yro, .ref ygl, .int ysn, .ref yso, .ref ysp, .ref ysw, .long n, .ref yik, .ref ykp]))] := hD
  refine lv_lload_n hx hb dX4_seed_10 rfl (lv_at hl 0 rfl) ?_
  exact ret_l (post := (fun (r : Int64) (u : Unit) => r.toInt = ysd.toInt)) (W1 := (fun u => [(h0, .inr (4, [.int ype, .int ytk, .ref ywi, .ref yki, .ref yse, .ref yno, .ref yrh, .ref yrw, .ref yrk, .ref yrt, .int yrp, .int yrq, .ref ytx, .int yle, .int yat, .int yfa, .ref yby, .ref ylo, .ref yhi, .int yac, .int ynx, .ref yro, .ref ygl, .int ysn, .ref yso, .ref ysp, .ref ysw, .long n, .ref yik, .ref ykp]))])) () hx hb hr hlocks hQ hK hP hD hS ⟨by decide, by decide⟩ dX4_seed_11 (show ysd.toInt = ysd.toInt by omega)

set_option maxHeartbeats 600000 in
set_option maxRecDepth 100000 in
theorem c_X4_isGone (l : Launch) (D : va_G) (cI cZ cM : ClassId) (h0 : Nat) (n : Int32) (ype : Int32) (ytk : Int32) (ywi : Nat) (yki : Nat) (yse : Nat) (yno : Nat) (yrh : Nat) (yrw : Nat) (yrk : Nat) (yrt : Nat) (yrp : Int32) (yrq : Int32) (ytx : Nat) (yle : Int32) (yat : Int32) (yfa : Int32) (yby : Nat) (ylo : Nat) (yhi : Nat) (yac : Int32) (ynx : Int32) (yro : Nat) (ygl : Nat) (ysn : Int32) (yso : Nat) (ysp : Nat) (ysw : Nat) (ysd : Int64) (yik : Nat) (ykp : Nat) (Fno : Nat → Int32) (sz : Nat) (h_n : 0 ≤ n.toInt ∧ n.toInt ≤ 6) : Ci l yX4_isGone wsX4_isGone ({ frames := 0, cells := 0, slots := 0, locals := 0 } : Room) D cI cZ cM [.ref h0, .int n] [(h0, .inr (4, [.int ype, .int ytk, .ref ywi, .ref yki, .ref yse, .ref yno, .ref yrh, .ref yrw, .ref yrk, .ref yrt, .int yrp, .int yrq, .ref ytx, .int yle, .int yat, .int yfa, .ref yby, .ref ylo, .ref yhi, .int yac, .int ynx, .ref yro, .ref ygl, .int ysn, .ref yso, .ref ysp, .ref ysw, .long ysd, .ref yik, .ref ykp])), (yno, .inl (cI, 96, .inl Fno))] sz (fun (r : Int32) (u : Unit) => (r.toInt = 0 ∨ r.toInt = 1)) (fun u => [(h0, .inr (4, [.int ype, .int ytk, .ref ywi, .ref yki, .ref yse, .ref yno, .ref yrh, .ref yrw, .ref yrk, .ref yrt, .int yrp, .int yrq, .ref ytx, .int yle, .int yat, .int yfa, .ref yby, .ref ylo, .ref yhi, .int yac, .int ynx, .ref yro, .ref ygl, .int ysn, .ref yso, .ref ysp, .ref ysw, .long ysd, .ref yik, .ref ykp])), (yno, .inl (cI, 96, .inl Fno))]) 0 0 := by
  refine begins (l := l) (y := yX4_isGone) (ws := wsX4_isGone) (av := [.ref h0, .int n]) (Qc := fun A => va_Qi (fun (r : Int32) (u : Unit) => (r.toInt = 0 ∨ r.toInt = 1)) (fun u => Wd D cI cZ cM A ((fun u => [(h0, .inr (4, [.int ype, .int ytk, .ref ywi, .ref yki, .ref yse, .ref yno, .ref yrh, .ref yrw, .ref yrk, .ref yrt, .int yrp, .int yrq, .ref ytx, .int yle, .int yat, .int yfa, .ref yby, .ref ylo, .ref yhi, .int yac, .int ynx, .ref yro, .ref ygl, .int ysn, .ref yso, .ref ysp, .ref ysw, .long ysd, .ref yik, .ref ykp])), (yno, .inl (cI, 96, .inl Fno))]) u)) A) cX4_isGone 2 (some .boolean) (by decide) rfl (Nat.le_of_ble_eq_true rfl) ?_
  intro p e s m args below meth c R Q A ls hBd hR hQ hA hS hK hP hD hl
  obtain ⟨hx, hb, hr, hts, hown, hlocks, hin, hml⟩ := hBd
  have hl : lv_has ls 2 [(0, .ref h0), (1, .int n)] := hl
  have iX4 : ∀ w ∈ wsX40, w ∈ wsX4_isGone := fun _ h => List.mem_cons_of_mem _ (List.mem_append_right _ h)
  obtain ⟨h_na, h_nb⟩ := h_n
  refine lv_aload_n hx hb dX4_isGone_0 rfl (lv_at hl 0 rfl) ?_
  refine va_get (D := D) (ci := 4) (v := .ref yno) (C := RX4) (T := TX4) (N := 30) hx hb hts iX4 hown hK hP 0 rfl rfl 5 (by decide) (hts (.fieldLink RX4 19 "PunchedTicketModel" "now" "[I") (List.mem_of_getElem? (i := 1) rfl)) (fun _ h9 => h9) rfl dX4_isGone_1 ?_
  refine lv_bipush (v := 6) hx hb dX4_isGone_4 (by decide) ?_
  refine lv_bipush (v := 6) hx hb dX4_isGone_6 (by decide) ?_
  refine lv_iload_n hx hb dX4_isGone_8 rfl (lv_at hl 1 rfl) ?_
  refine lv_imul hx hb dX4_isGone_9 ?_
  refine lv_topi (fun v_1 ev_1 => ?_)
  have tv_1 : v_1.toInt = (6 : Int) * n.toInt := by rw [ev_1]; exact ti_mul (x := 6) (y := n) (show -2147483648 ≤ (6 : Int) * n.toInt by omega) (show (6 : Int) * n.toInt < 2147483648 by omega)
  refine lv_iadd hx hb dX4_isGone_10 ?_
  refine lv_topi (fun v_2 ev_2 => ?_)
  have tv_2 : v_2.toInt = (6 : Int) + v_1.toInt := by rw [ev_2]; exact ti_add (x := 6) (y := v_1) (show -2147483648 ≤ (6 : Int) + v_1.toInt by omega) (show (6 : Int) + v_1.toInt < 2147483648 by omega)
  refine lv_iconst (v := 5) hx hb dX4_isGone_11 (by decide) ?_
  refine lv_iadd hx hb dX4_isGone_12 ?_
  refine lv_topi (fun v_3 ev_3 => ?_)
  have tv_3 : v_3.toInt = v_2.toInt + (5 : Int) := by rw [ev_3]; exact ti_add (x := v_2) (y := 5) (show -2147483648 ≤ v_2.toInt + (5 : Int) by omega) (show v_2.toInt + (5 : Int) < 2147483648 by omega)
  refine va_iald hx hb hK hP 1 0 rfl rfl (vp_in_iff.mpr ⟨by omega, by omega⟩) dX4_isGone_13 ?_
  refine lv_topi (fun v_4 ev_4 => ?_)
  refine lv_iconst (v := 1) hx hb dX4_isGone_14 (by decide) ?_
  refine lv_icmp_ne (tgt := 22) hx hb dX4_isGone_15 (by decide) (fun c_5 => ?_) (fun c_5 => ?_)
  · have tc_5 := b_ne rfl (show (1 : Int32).toInt = 1 by decide) c_5
    refine lv_iconst (v := 0) hx hb dX4_isGone_22 (by decide) ?_
    exact ret_i (post := (fun (r : Int32) (u : Unit) => (r.toInt = 0 ∨ r.toInt = 1))) (W1 := (fun u => [(h0, .inr (4, [.int ype, .int ytk, .ref ywi, .ref yki, .ref yse, .ref yno, .ref yrh, .ref yrw, .ref yrk, .ref yrt, .int yrp, .int yrq, .ref ytx, .int yle, .int yat, .int yfa, .ref yby, .ref ylo, .ref yhi, .int yac, .int ynx, .ref yro, .ref ygl, .int ysn, .ref yso, .ref ysp, .ref ysw, .long ysd, .ref yik, .ref ykp])), (yno, .inl (cI, 96, .inl Fno))])) () hx hb hr hlocks rfl hQ hK hP hD hS ⟨by decide, by decide⟩ dX4_isGone_23 (show ((0 : Int) = 0 ∨ (0 : Int) = 1) by omega)
  · have tc_5 := b_eq rfl (show (1 : Int32).toInt = 1 by decide) c_5
    refine lv_iconst (v := 1) hx hb dX4_isGone_18 (by decide) ?_
    refine lv_goto (tgt := 23) hx hb dX4_isGone_19 (by decide) ?_
    exact ret_i (post := (fun (r : Int32) (u : Unit) => (r.toInt = 0 ∨ r.toInt = 1))) (W1 := (fun u => [(h0, .inr (4, [.int ype, .int ytk, .ref ywi, .ref yki, .ref yse, .ref yno, .ref yrh, .ref yrw, .ref yrk, .ref yrt, .int yrp, .int yrq, .ref ytx, .int yle, .int yat, .int yfa, .ref yby, .ref ylo, .ref yhi, .int yac, .int ynx, .ref yro, .ref ygl, .int ysn, .ref yso, .ref ysp, .ref ysw, .long ysd, .ref yik, .ref ykp])), (yno, .inl (cI, 96, .inl Fno))])) () hx hb hr hlocks rfl hQ hK hP hD hS ⟨by decide, by decide⟩ dX4_isGone_23 (show ((1 : Int) = 0 ∨ (1 : Int) = 1) by omega)

set_option maxHeartbeats 600000 in
set_option maxRecDepth 100000 in
theorem c_X4_holder (l : Launch) (D : va_G) (cI cZ cM : ClassId) (h0 : Nat) (n : Int32) (ype : Int32) (ytk : Int32) (ywi : Nat) (yki : Nat) (yse : Nat) (yno : Nat) (yrh : Nat) (yrw : Nat) (yrk : Nat) (yrt : Nat) (yrp : Int32) (yrq : Int32) (ytx : Nat) (yle : Int32) (yat : Int32) (yfa : Int32) (yby : Nat) (ylo : Nat) (yhi : Nat) (yac : Int32) (ynx : Int32) (yro : Nat) (ygl : Nat) (ysn : Int32) (yso : Nat) (ysp : Nat) (ysw : Nat) (ysd : Int64) (yik : Nat) (ykp : Nat) (Fno : Nat → Int32) (sz : Nat) (h_n : 0 ≤ n.toInt ∧ n.toInt ≤ 6) : Ci l yX4_holder wsX4_holder ({ frames := 0, cells := 0, slots := 0, locals := 0 } : Room) D cI cZ cM [.ref h0, .int n] [(h0, .inr (4, [.int ype, .int ytk, .ref ywi, .ref yki, .ref yse, .ref yno, .ref yrh, .ref yrw, .ref yrk, .ref yrt, .int yrp, .int yrq, .ref ytx, .int yle, .int yat, .int yfa, .ref yby, .ref ylo, .ref yhi, .int yac, .int ynx, .ref yro, .ref ygl, .int ysn, .ref yso, .ref ysp, .ref ysw, .long ysd, .ref yik, .ref ykp])), (yno, .inl (cI, 96, .inl Fno))] sz (fun (r : Int32) (u : Unit) => True) (fun u => [(h0, .inr (4, [.int ype, .int ytk, .ref ywi, .ref yki, .ref yse, .ref yno, .ref yrh, .ref yrw, .ref yrk, .ref yrt, .int yrp, .int yrq, .ref ytx, .int yle, .int yat, .int yfa, .ref yby, .ref ylo, .ref yhi, .int yac, .int ynx, .ref yro, .ref ygl, .int ysn, .ref yso, .ref ysp, .ref ysw, .long ysd, .ref yik, .ref ykp])), (yno, .inl (cI, 96, .inl Fno))]) 0 0 := by
  refine begins (l := l) (y := yX4_holder) (ws := wsX4_holder) (av := [.ref h0, .int n]) (Qc := fun A => va_Qi (fun (r : Int32) (u : Unit) => True) (fun u => Wd D cI cZ cM A ((fun u => [(h0, .inr (4, [.int ype, .int ytk, .ref ywi, .ref yki, .ref yse, .ref yno, .ref yrh, .ref yrw, .ref yrk, .ref yrt, .int yrp, .int yrq, .ref ytx, .int yle, .int yat, .int yfa, .ref yby, .ref ylo, .ref yhi, .int yac, .int ynx, .ref yro, .ref ygl, .int ysn, .ref yso, .ref ysp, .ref ysw, .long ysd, .ref yik, .ref ykp])), (yno, .inl (cI, 96, .inl Fno))]) u)) A) cX4_holder 2 (some .int) (by decide) rfl (Nat.le_of_ble_eq_true rfl) ?_
  intro p e s m args below meth c R Q A ls hBd hR hQ hA hS hK hP hD hl
  obtain ⟨hx, hb, hr, hts, hown, hlocks, hin, hml⟩ := hBd
  have hl : lv_has ls 2 [(0, .ref h0), (1, .int n)] := hl
  have iX4 : ∀ w ∈ wsX40, w ∈ wsX4_holder := fun _ h => List.mem_cons_of_mem _ (List.mem_append_right _ h)
  obtain ⟨h_na, h_nb⟩ := h_n
  refine lv_aload_n hx hb dX4_holder_0 rfl (lv_at hl 0 rfl) ?_
  refine va_get (D := D) (ci := 4) (v := .ref yno) (C := RX4) (T := TX4) (N := 30) hx hb hts iX4 hown hK hP 0 rfl rfl 5 (by decide) (hts (.fieldLink RX4 19 "PunchedTicketModel" "now" "[I") (List.mem_of_getElem? (i := 1) rfl)) (fun _ h9 => h9) rfl dX4_holder_1 ?_
  refine lv_bipush (v := 6) hx hb dX4_holder_4 (by decide) ?_
  refine lv_bipush (v := 6) hx hb dX4_holder_6 (by decide) ?_
  refine lv_iload_n hx hb dX4_holder_8 rfl (lv_at hl 1 rfl) ?_
  refine lv_imul hx hb dX4_holder_9 ?_
  refine lv_topi (fun v_1 ev_1 => ?_)
  have tv_1 : v_1.toInt = (6 : Int) * n.toInt := by rw [ev_1]; exact ti_mul (x := 6) (y := n) (show -2147483648 ≤ (6 : Int) * n.toInt by omega) (show (6 : Int) * n.toInt < 2147483648 by omega)
  refine lv_iadd hx hb dX4_holder_10 ?_
  refine lv_topi (fun v_2 ev_2 => ?_)
  have tv_2 : v_2.toInt = (6 : Int) + v_1.toInt := by rw [ev_2]; exact ti_add (x := 6) (y := v_1) (show -2147483648 ≤ (6 : Int) + v_1.toInt by omega) (show (6 : Int) + v_1.toInt < 2147483648 by omega)
  refine lv_iconst (v := 3) hx hb dX4_holder_11 (by decide) ?_
  refine lv_iadd hx hb dX4_holder_12 ?_
  refine lv_topi (fun v_3 ev_3 => ?_)
  have tv_3 : v_3.toInt = v_2.toInt + (3 : Int) := by rw [ev_3]; exact ti_add (x := v_2) (y := 3) (show -2147483648 ≤ v_2.toInt + (3 : Int) by omega) (show v_2.toInt + (3 : Int) < 2147483648 by omega)
  refine va_iald hx hb hK hP 1 0 rfl rfl (vp_in_iff.mpr ⟨by omega, by omega⟩) dX4_holder_13 ?_
  refine lv_topi (fun v_4 ev_4 => ?_)
  exact ret_i (post := (fun (r : Int32) (u : Unit) => True)) (W1 := (fun u => [(h0, .inr (4, [.int ype, .int ytk, .ref ywi, .ref yki, .ref yse, .ref yno, .ref yrh, .ref yrw, .ref yrk, .ref yrt, .int yrp, .int yrq, .ref ytx, .int yle, .int yat, .int yfa, .ref yby, .ref ylo, .ref yhi, .int yac, .int ynx, .ref yro, .ref ygl, .int ysn, .ref yso, .ref ysp, .ref ysw, .long ysd, .ref yik, .ref ykp])), (yno, .inl (cI, 96, .inl Fno))])) () hx hb hr hlocks rfl hQ hK hP hD hS ⟨by decide, by decide⟩ dX4_holder_14 trivial

set_option maxHeartbeats 600000 in
set_option maxRecDepth 100000 in
theorem c_X4_goneNow (l : Launch) (D : va_G) (cI cZ cM : ClassId) (h0 : Nat) (ype : Int32) (ytk : Int32) (ywi : Nat) (yki : Nat) (yse : Nat) (yno : Nat) (yrh : Nat) (yrw : Nat) (yrk : Nat) (yrt : Nat) (yrp : Int32) (yrq : Int32) (ytx : Nat) (yle : Int32) (yat : Int32) (yfa : Int32) (yby : Nat) (ylo : Nat) (yhi : Nat) (yac : Int32) (ynx : Int32) (yro : Nat) (ygl : Nat) (ysn : Int32) (yso : Nat) (ysp : Nat) (ysw : Nat) (ysd : Int64) (yik : Nat) (ykp : Nat) (Fno : Nat → Int32) (sz : Nat) (h_ytk : 0 ≤ ytk.toInt ∧ ytk.toInt ≤ 6) : Ci l yX4_goneNow wsX4_goneNow ({ frames := 1, cells := 0, slots := 0, locals := 21 } : Room) D cI cZ cM [.ref h0] [(h0, .inr (4, [.int ype, .int ytk, .ref ywi, .ref yki, .ref yse, .ref yno, .ref yrh, .ref yrw, .ref yrk, .ref yrt, .int yrp, .int yrq, .ref ytx, .int yle, .int yat, .int yfa, .ref yby, .ref ylo, .ref yhi, .int yac, .int ynx, .ref yro, .ref ygl, .int ysn, .ref yso, .ref ysp, .ref ysw, .long ysd, .ref yik, .ref ykp])), (yno, .inl (cI, 96, .inl Fno))] sz (fun (r : Int32) (u : Unit) => True) (fun u => [(h0, .inr (4, [.int ype, .int ytk, .ref ywi, .ref yki, .ref yse, .ref yno, .ref yrh, .ref yrw, .ref yrk, .ref yrt, .int yrp, .int yrq, .ref ytx, .int yle, .int yat, .int yfa, .ref yby, .ref ylo, .ref yhi, .int yac, .int ynx, .ref yro, .ref ygl, .int ysn, .ref yso, .ref ysp, .ref ysw, .long ysd, .ref yik, .ref ykp])), (yno, .inl (cI, 96, .inl Fno))]) 0 0 := by
  refine begins (l := l) (y := yX4_goneNow) (ws := wsX4_goneNow) (av := [.ref h0]) (Qc := fun A => va_Qi (fun (r : Int32) (u : Unit) => True) (fun u => Wd D cI cZ cM A ((fun u => [(h0, .inr (4, [.int ype, .int ytk, .ref ywi, .ref yki, .ref yse, .ref yno, .ref yrh, .ref yrw, .ref yrk, .ref yrt, .int yrp, .int yrq, .ref ytx, .int yle, .int yat, .int yfa, .ref yby, .ref ylo, .ref yhi, .int yac, .int ynx, .ref yro, .ref ygl, .int ysn, .ref yso, .ref ysp, .ref ysw, .long ysd, .ref yik, .ref ykp])), (yno, .inl (cI, 96, .inl Fno))]) u)) A) cX4_goneNow 3 (some .int) (by decide) rfl (Nat.le_of_ble_eq_true rfl) ?_
  intro p e s m args below meth c R Q A ls hBd hR hQ hA hS hK hP hD hl
  obtain ⟨hx, hb, hr, hts, hown, hlocks, hin, hml⟩ := hBd
  have hl : lv_has ls 3 [(0, .ref h0)] := hl
  have iX4 : ∀ w ∈ wsX40, w ∈ wsX4_goneNow := fun _ h => List.mem_cons_of_mem _ (List.mem_append_right _ h)
  obtain ⟨h_ytka, h_ytkb⟩ := h_ytk
  refine lv_iconst (v := 0) hx hb dX4_goneNow_0 (by decide) ?_
  refine lv_istore_n (lv' := [(1, .int 0), (0, .ref h0)]) hx hb dX4_goneNow_1 rfl hl (by decide) rfl (fun ls hl => ?_)
  refine lv_iconst (v := 0) hx hb dX4_goneNow_2 (by decide) ?_
  refine lv_istore_n (lv' := [(2, .int 0), (1, .int 0), (0, .ref h0)]) hx hb dX4_goneNow_3 rfl hl (by decide) rfl (fun ls hl => ?_)
  have LOOP_1 : ∀ (fu_1 : Nat) (w1 : Int32) (x2 : Int32) (H : Heap) (locs : List Loc) (ls : Array Slot), (6 - x2.toInt).toNat < fu_1 → (0 ≤ x2.toInt ∧ x2.toInt ≤ 6) → va_P D vwCl [(h0, .inr (4, [.int ype, .int ytk, .ref ywi, .ref yki, .ref yse, .ref yno, .ref yrh, .ref yrw, .ref yrk, .ref yrt, .int yrp, .int yrq, .ref ytx, .int yle, .int yat, .int yfa, .ref yby, .ref ylo, .ref yhi, .int yac, .int ynx, .ref yro, .ref ygl, .int ysn, .ref yso, .ref ysp, .ref ysw, .long ysd, .ref yik, .ref ykp])), (yno, .inl (cI, 96, .inl Fno))] H → va_D A [(h0, .inr (4, [.int ype, .int ytk, .ref ywi, .ref yki, .ref yse, .ref yno, .ref yrh, .ref yrw, .ref yrk, .ref yrt, .int yrp, .int yrq, .ref ytx, .int yle, .int yat, .int yfa, .ref yby, .ref ylo, .ref yhi, .int yac, .int ynx, .ref yro, .ref ygl, .int ysn, .ref yso, .ref ysp, .ref ysw, .long ysd, .ref yik, .ref ykp])), (yno, .inl (cI, 96, .inl Fno))] → va_S A s.heap H locs → lv_has ls 3 [(0, .ref h0), (1, .int w1), (2, .int x2)] → W p l e R s m args below meth c H locs 0 0 Q (F0 m 4 ls []) := by
    intro fu_1
    induction fu_1 with
    | zero => intro w1 x2 H locs ls hmu; exact absurd hmu (Nat.not_lt_zero _)
    | succ fu_1 ih =>
      intro w1 x2 H locs ls hmu h_x2 hP hD hS hl
      obtain ⟨h_x2a, h_x2b⟩ := h_x2
      have ih_2 := ih
      clear ih
      refine lv_iload_n hx hb dX4_goneNow_4 rfl (lv_at hl 2 rfl) ?_
      refine lv_aload_n hx hb dX4_goneNow_5 rfl (lv_at hl 0 rfl) ?_
      refine va_get (D := D) (ci := 4) (v := .int ytk) (C := RX4) (T := TX4) (N := 30) hx hb hts iX4 hown hK hP 0 rfl rfl 1 (by decide) (hts (.fieldLink RX4 101 "PunchedTicketModel" "tickets" "I") (List.mem_of_getElem? (i := 1) rfl)) (fun _ h9 => h9) rfl dX4_goneNow_6 ?_
      refine lv_icmp_ge (tgt := 36) hx hb dX4_goneNow_9 (by decide) (fun c_3 => ?_) (fun c_3 => ?_)
      · have tc_3 := b_le rfl rfl c_3
        refine lv_iload_n hx hb dX4_goneNow_36 rfl (lv_at hl 1 rfl) ?_
        exact ret_i (post := (fun (r : Int32) (u : Unit) => True)) (W1 := (fun u => [(h0, .inr (4, [.int ype, .int ytk, .ref ywi, .ref yki, .ref yse, .ref yno, .ref yrh, .ref yrw, .ref yrk, .ref yrt, .int yrp, .int yrq, .ref ytx, .int yle, .int yat, .int yfa, .ref yby, .ref ylo, .ref yhi, .int yac, .int ynx, .ref yro, .ref ygl, .int ysn, .ref yso, .ref ysp, .ref ysw, .long ysd, .ref yik, .ref ykp])), (yno, .inl (cI, 96, .inl Fno))])) () hx hb hr hlocks rfl hQ hK hP hD hS ⟨by decide, by decide⟩ dX4_goneNow_37 trivial
      · have tc_3 := b_nle rfl rfl c_3
        refine lv_iload_n hx hb dX4_goneNow_12 rfl (lv_at hl 1 rfl) ?_
        refine lv_aload_n hx hb dX4_goneNow_13 rfl (lv_at hl 0 rfl) ?_
        refine lv_iload_n hx hb dX4_goneNow_14 rfl (lv_at hl 2 rfl) ?_
        refine cV_i (As := [.int x2]) (rest := [.int w1]) ⟨hx, hb, hml, hown, hts⟩ (c_X4_isGone l D cI cZ cM h0 x2 ype ytk ywi yki yse yno yrh yrw yrk yrt yrp yrq ytx yle yat yfa yby ylo yhi yac ynx yro ygl ysn yso ysp ysw ysd yik ykp Fno _ (show 0 ≤ x2.toInt ∧ x2.toInt ≤ 6 by omega)) (cwV 1 hts gX4_goneNow_X4_isGone rfl rfl rfl (by decide +kernel) ⟨by rw [hR]; decide, by rw [hR]; decide⟩) hK hP hD hS hA [0, 1] [] rfl rfl (by decide) (by decide) (by decide) rfl 0 rfl hl.1 rfl rfl (Nat.le_of_ble_eq_true rfl) dX4_goneNow_15 ⟨by rw [hR]; decide, by rw [hR]; decide⟩ (fun r_4 u_5 H locs hw hP hD hS => ?_)
        have hP : va_P D vwCl [(h0, .inr (4, [.int ype, .int ytk, .ref ywi, .ref yki, .ref yse, .ref yno, .ref yrh, .ref yrw, .ref yrk, .ref yrt, .int yrp, .int yrq, .ref ytx, .int yle, .int yat, .int yfa, .ref yby, .ref ylo, .ref yhi, .int yac, .int ynx, .ref yro, .ref ygl, .int ysn, .ref yso, .ref ysp, .ref ysw, .long ysd, .ref yik, .ref ykp])), (yno, .inl (cI, 96, .inl Fno))] H := hP.sub [0, 1] rfl
        have hD : va_D A [(h0, .inr (4, [.int ype, .int ytk, .ref ywi, .ref yki, .ref yse, .ref yno, .ref yrh, .ref yrw, .ref yrk, .ref yrt, .int yrp, .int yrq, .ref ytx, .int yle, .int yat, .int yfa, .ref yby, .ref ylo, .ref yhi, .int yac, .int ynx, .ref yro, .ref ygl, .int ysn, .ref yso, .ref ysp, .ref ysw, .long ysd, .ref yik, .ref ykp])), (yno, .inl (cI, 96, .inl Fno))] := hD.sub [0, 1] (by decide) rfl
        refine W.widen (k := 0) (n := 0) (Nat.le_refl _) (Nat.le_refl _) ?_
        have hw : (r_4.toInt = 0 ∨ r_4.toInt = 1) := hw
        have hw_6 := hw
        refine lv_if_eq (tgt := 27) hx hb dX4_goneNow_18 (by decide) (fun c_7 => ?_) (fun c_7 => ?_)
        · have tc_7 := b_eq rfl (show (0 : Int32).toInt = 0 by decide) c_7
          refine lv_iconst (v := 0) hx hb dX4_goneNow_27 (by decide) ?_
          refine lv_ior hx hb dX4_goneNow_28 ?_
          refine lv_topi (fun v_8 ev_8 => ?_)
          refine lv_istore_n (lv' := [(1, .int v_8), (0, .ref h0), (2, .int x2)]) hx hb dX4_goneNow_29 rfl hl (by decide) rfl (fun ls hl => ?_)
          obtain ⟨v_9, ev_9⟩ : ∃ z : Int32, z = x2 + 1 := ⟨_, rfl⟩
          have tv_9 : v_9.toInt = x2.toInt + 1 := by rw [ev_9]; exact ti_add (x := x2) (y := 1) (show -2147483648 ≤ x2.toInt + 1 by omega) (show x2.toInt + 1 < 2147483648 by omega)
          refine lv_iinc (v := v_9) (lv' := [(2, .int v_9), (1, .int v_8), (0, .ref h0)]) hx hb dX4_goneNow_30 hl (k := 2) rfl (by rw [ev_9]; rfl) (by decide) rfl (fun ls hl => ?_)
          refine lv_goto (tgt := 4) hx hb dX4_goneNow_33 (by decide) ?_
          exact ih_2 v_8 v_9 _ _ _ (show (6 - v_9.toInt).toNat < fu_1 by omega) (show 0 ≤ v_9.toInt ∧ v_9.toInt ≤ 6 by omega) hP hD hS (lv_sub hl [2, 1, 0] rfl)
        · have tc_7 := b_ne rfl (show (0 : Int32).toInt = 0 by decide) c_7
          refine lv_iconst (v := 1) hx hb dX4_goneNow_21 (by decide) ?_
          refine lv_iload_n hx hb dX4_goneNow_22 rfl (lv_at hl 2 rfl) ?_
          refine lv_ishl hx hb dX4_goneNow_23 ?_
          refine lv_topi (fun v_10 ev_10 => ?_)
          refine lv_goto (tgt := 28) hx hb dX4_goneNow_24 (by decide) ?_
          refine lv_ior hx hb dX4_goneNow_28 ?_
          refine lv_topi (fun v_11 ev_11 => ?_)
          refine lv_istore_n (lv' := [(1, .int v_11), (0, .ref h0), (2, .int x2)]) hx hb dX4_goneNow_29 rfl hl (by decide) rfl (fun ls hl => ?_)
          obtain ⟨v_12, ev_12⟩ : ∃ z : Int32, z = x2 + 1 := ⟨_, rfl⟩
          have tv_12 : v_12.toInt = x2.toInt + 1 := by rw [ev_12]; exact ti_add (x := x2) (y := 1) (show -2147483648 ≤ x2.toInt + 1 by omega) (show x2.toInt + 1 < 2147483648 by omega)
          refine lv_iinc (v := v_12) (lv' := [(2, .int v_12), (1, .int v_11), (0, .ref h0)]) hx hb dX4_goneNow_30 hl (k := 2) rfl (by rw [ev_12]; rfl) (by decide) rfl (fun ls hl => ?_)
          refine lv_goto (tgt := 4) hx hb dX4_goneNow_33 (by decide) ?_
          exact ih_2 v_11 v_12 _ _ _ (show (6 - v_12.toInt).toNat < fu_1 by omega) (show 0 ≤ v_12.toInt ∧ v_12.toInt ≤ 6 by omega) hP hD hS (lv_sub hl [2, 1, 0] rfl)
  exact LOOP_1 _ 0 0 _ _ _ (Nat.lt_succ_self _) (by decide) hP hD hS (lv_sub hl [2, 1, 0] rfl)

set_option maxHeartbeats 600000 in
set_option maxRecDepth 100000 in
theorem c_X4_goesBy (l : Launch) (D : va_G) (cI cZ cM : ClassId) (h0 : Nat) (n : Int32) (k : Int32) (j : Int32) (ype : Int32) (ytk : Int32) (ywi : Nat) (yki : Nat) (yse : Nat) (yno : Nat) (yrh : Nat) (yrw : Nat) (yrk : Nat) (yrt : Nat) (yrp : Int32) (yrq : Int32) (ytx : Nat) (yle : Int32) (yat : Int32) (yfa : Int32) (yby : Nat) (ylo : Nat) (yhi : Nat) (yac : Int32) (ynx : Int32) (yro : Nat) (ygl : Nat) (ysn : Int32) (yso : Nat) (ysp : Nat) (ysw : Nat) (ysd : Int64) (yik : Nat) (ykp : Nat) (Fno : Nat → Int32) (Fki : Nat → Int32) (sz : Nat) (h_n : 0 ≤ n.toInt ∧ n.toInt ≤ 1) (h_k : 0 ≤ k.toInt ∧ k.toInt ≤ 4) (h_j : 0 ≤ j.toInt ∧ j.toInt ≤ 7) : Ci l yX4_goesBy wsX4_goesBy ({ frames := 0, cells := 0, slots := 0, locals := 0 } : Room) D cI cZ cM [.ref h0, .int n, .int k, .int j] [(h0, .inr (4, [.int ype, .int ytk, .ref ywi, .ref yki, .ref yse, .ref yno, .ref yrh, .ref yrw, .ref yrk, .ref yrt, .int yrp, .int yrq, .ref ytx, .int yle, .int yat, .int yfa, .ref yby, .ref ylo, .ref yhi, .int yac, .int ynx, .ref yro, .ref ygl, .int ysn, .ref yso, .ref ysp, .ref ysw, .long ysd, .ref yik, .ref ykp])), (yno, .inl (cI, 96, .inl Fno)), (yki, .inl (cI, 5, .inl Fki))] sz (fun (r : Int32) (u : Unit) => r.toInt = -9 ∨ (0 ≤ r.toInt ∧ r.toInt ≤ 6)) (fun u => [(h0, .inr (4, [.int ype, .int ytk, .ref ywi, .ref yki, .ref yse, .ref yno, .ref yrh, .ref yrw, .ref yrk, .ref yrt, .int yrp, .int yrq, .ref ytx, .int yle, .int yat, .int yfa, .ref yby, .ref ylo, .ref yhi, .int yac, .int ynx, .ref yro, .ref ygl, .int ysn, .ref yso, .ref ysp, .ref ysw, .long ysd, .ref yik, .ref ykp])), (yno, .inl (cI, 96, .inl Fno)), (yki, .inl (cI, 5, .inl Fki))]) 0 0 := by
  refine begins (l := l) (y := yX4_goesBy) (ws := wsX4_goesBy) (av := [.ref h0, .int n, .int k, .int j]) (Qc := fun A => va_Qi (fun (r : Int32) (u : Unit) => r.toInt = -9 ∨ (0 ≤ r.toInt ∧ r.toInt ≤ 6)) (fun u => Wd D cI cZ cM A ((fun u => [(h0, .inr (4, [.int ype, .int ytk, .ref ywi, .ref yki, .ref yse, .ref yno, .ref yrh, .ref yrw, .ref yrk, .ref yrt, .int yrp, .int yrq, .ref ytx, .int yle, .int yat, .int yfa, .ref yby, .ref ylo, .ref yhi, .int yac, .int ynx, .ref yro, .ref ygl, .int ysn, .ref yso, .ref ysp, .ref ysw, .long ysd, .ref yik, .ref ykp])), (yno, .inl (cI, 96, .inl Fno)), (yki, .inl (cI, 5, .inl Fki))]) u)) A) cX4_goesBy 9 (some .int) (by decide) rfl (Nat.le_of_ble_eq_true rfl) ?_
  intro p e s m args below meth c R Q A ls hBd hR hQ hA hS hK hP hD hl
  obtain ⟨hx, hb, hr, hts, hown, hlocks, hin, hml⟩ := hBd
  have hl : lv_has ls 9 [(0, .ref h0), (1, .int n), (2, .int k), (3, .int j)] := hl
  have iX4 : ∀ w ∈ wsX40, w ∈ wsX4_goesBy := fun _ h => List.mem_cons_of_mem _ (List.mem_append_right _ h)
  obtain ⟨h_na, h_nb⟩ := h_n
  obtain ⟨h_ka, h_kb⟩ := h_k
  obtain ⟨h_ja, h_jb⟩ := h_j
  refine lv_bipush (v := 48) hx hb dX4_goesBy_0 (by decide) ?_
  refine lv_iload_n hx hb dX4_goesBy_2 rfl (lv_at hl 1 rfl) ?_
  refine lv_imul hx hb dX4_goesBy_3 ?_
  refine lv_topi (fun v_1 ev_1 => ?_)
  have tv_1 : v_1.toInt = (48 : Int) * n.toInt := by rw [ev_1]; exact ti_mul (x := 48) (y := n) (show -2147483648 ≤ (48 : Int) * n.toInt by omega) (show (48 : Int) * n.toInt < 2147483648 by omega)
  refine lv_istore (lv' := [(4, .int v_1), (0, .ref h0), (1, .int n), (2, .int k), (3, .int j)]) hx hb dX4_goesBy_4 hl (by decide) rfl (fun ls hl => ?_)
  refine lv_bipush (v := (-9)) hx hb dX4_goesBy_6 (by decide) ?_
  refine lv_istore (lv' := [(5, .int (-9)), (4, .int v_1), (0, .ref h0), (1, .int n), (2, .int k), (3, .int j)]) hx hb dX4_goesBy_8 hl (by decide) rfl (fun ls hl => ?_)
  refine lv_iload_n hx hb dX4_goesBy_10 rfl (lv_at hl 5 rfl) ?_
  refine lv_iconst (v := 1) hx hb dX4_goesBy_11 (by decide) ?_
  refine lv_isub hx hb dX4_goesBy_12 ?_
  refine lv_topi (fun v_2 ev_2 => ?_)
  have tv_2 : v_2.toInt = j.toInt - (1 : Int) := by rw [ev_2]; exact ti_sub (x := j) (y := 1) (show -2147483648 ≤ j.toInt - (1 : Int) by omega) (show j.toInt - (1 : Int) < 2147483648 by omega)
  refine lv_istore (lv' := [(6, .int v_2), (5, .int (-9)), (4, .int v_1), (0, .ref h0), (1, .int n), (2, .int k), (3, .int j)]) hx hb dX4_goesBy_13 hl (by decide) rfl (fun ls hl => ?_)
  have LOOP_3 : ∀ (fu_3 : Nat) (w5 : Int32) (x6 : Int32) (H : Heap) (locs : List Loc) (ls : Array Slot), (x6.toInt + 1).toNat < fu_3 → (-9 ≤ w5.toInt ∧ w5.toInt ≤ 6) → (-1 ≤ x6.toInt ∧ x6.toInt ≤ 6) → (w5.toInt = -9 ∨ (0 ≤ w5.toInt ∧ w5.toInt ≤ 6)) → va_P D vwCl [(h0, .inr (4, [.int ype, .int ytk, .ref ywi, .ref yki, .ref yse, .ref yno, .ref yrh, .ref yrw, .ref yrk, .ref yrt, .int yrp, .int yrq, .ref ytx, .int yle, .int yat, .int yfa, .ref yby, .ref ylo, .ref yhi, .int yac, .int ynx, .ref yro, .ref ygl, .int ysn, .ref yso, .ref ysp, .ref ysw, .long ysd, .ref yik, .ref ykp])), (yno, .inl (cI, 96, .inl Fno)), (yki, .inl (cI, 5, .inl Fki))] H → va_D A [(h0, .inr (4, [.int ype, .int ytk, .ref ywi, .ref yki, .ref yse, .ref yno, .ref yrh, .ref yrw, .ref yrk, .ref yrt, .int yrp, .int yrq, .ref ytx, .int yle, .int yat, .int yfa, .ref yby, .ref ylo, .ref yhi, .int yac, .int ynx, .ref yro, .ref ygl, .int ysn, .ref yso, .ref ysp, .ref ysw, .long ysd, .ref yik, .ref ykp])), (yno, .inl (cI, 96, .inl Fno)), (yki, .inl (cI, 5, .inl Fki))] → va_S A s.heap H locs → lv_has ls 9 [(0, .ref h0), (1, .int n), (2, .int k), (3, .int j), (4, .int v_1), (5, .int w5), (6, .int x6)] → W p l e R s m args below meth c H locs 0 0 Q (F0 m 15 ls []) := by
    intro fu_3
    induction fu_3 with
    | zero => intro w5 x6 H locs ls hmu; exact absurd hmu (Nat.not_lt_zero _)
    | succ fu_3 ih =>
      intro w5 x6 H locs ls hmu h_w5 h_x6 hbw hP hD hS hl
      obtain ⟨h_w5a, h_w5b⟩ := h_w5
      obtain ⟨h_x6a, h_x6b⟩ := h_x6
      have ih_4 := ih
      clear ih
      refine lv_iload hx hb dX4_goesBy_15 (lv_at hl 6 rfl) ?_
      refine lv_if_lt (tgt := 125) hx hb dX4_goesBy_17 (by decide) (fun c_5 => ?_) (fun c_5 => ?_)
      · have tc_5 := b_lt rfl (show (0 : Int32).toInt = 0 by decide) c_5
        refine lv_aload_n hx hb dX4_goesBy_125 rfl (lv_at hl 0 rfl) ?_
        refine va_get (D := D) (ci := 4) (v := .ref yki) (C := RX4) (T := TX4) (N := 30) hx hb hts iX4 hown hK hP 0 rfl rfl 3 (by decide) (hts (.fieldLink RX4 13 "PunchedTicketModel" "kind" "[I") (List.mem_of_getElem? (i := 2) rfl)) (fun _ h9 => h9) rfl dX4_goesBy_126 ?_
        refine lv_iload_n hx hb dX4_goesBy_129 rfl (lv_at hl 2 rfl) ?_
        refine va_iald hx hb hK hP 2 0 rfl rfl (vp_in_iff.mpr ⟨by omega, by omega⟩) dX4_goesBy_130 ?_
        refine lv_topi (fun v_6 ev_6 => ?_)
        refine lv_iconst (v := 3) hx hb dX4_goesBy_131 (by decide) ?_
        refine lv_icmp_eq (tgt := 147) hx hb dX4_goesBy_132 (by decide) (fun c_7 => ?_) (fun c_7 => ?_)
        · have tc_7 := b_eq rfl (show (3 : Int32).toInt = 3 by decide) c_7
          refine lv_bipush (v := (-9)) hx hb dX4_goesBy_147 (by decide) ?_
          refine lv_goto (tgt := 154) hx hb dX4_goesBy_149 (by decide) ?_
          exact ret_i (post := (fun (r : Int32) (u : Unit) => r.toInt = -9 ∨ (0 ≤ r.toInt ∧ r.toInt ≤ 6))) (W1 := (fun u => [(h0, .inr (4, [.int ype, .int ytk, .ref ywi, .ref yki, .ref yse, .ref yno, .ref yrh, .ref yrw, .ref yrk, .ref yrt, .int yrp, .int yrq, .ref ytx, .int yle, .int yat, .int yfa, .ref yby, .ref ylo, .ref yhi, .int yac, .int ynx, .ref yro, .ref ygl, .int ysn, .ref yso, .ref ysp, .ref ysw, .long ysd, .ref yik, .ref ykp])), (yno, .inl (cI, 96, .inl Fno)), (yki, .inl (cI, 5, .inl Fki))])) () hx hb hr hlocks rfl hQ hK hP hD hS ⟨by decide, by decide⟩ dX4_goesBy_154 (show (-9 : Int) = -9 ∨ (0 ≤ (-9 : Int) ∧ (-9 : Int) ≤ 6) by omega)
        · have tc_7 := b_ne rfl (show (3 : Int32).toInt = 3 by decide) c_7
          refine lv_aload_n hx hb dX4_goesBy_135 rfl (lv_at hl 0 rfl) ?_
          refine va_get (D := D) (ci := 4) (v := .ref yno) (C := RX4) (T := TX4) (N := 30) hx hb hts iX4 hown hK hP 0 rfl rfl 5 (by decide) (hts (.fieldLink RX4 19 "PunchedTicketModel" "now" "[I") (List.mem_of_getElem? (i := 1) rfl)) (fun _ h9 => h9) rfl dX4_goesBy_136 ?_
          refine lv_iload hx hb dX4_goesBy_139 (lv_at hl 4 rfl) ?_
          refine va_iald hx hb hK hP 1 0 rfl rfl (vp_in_iff.mpr ⟨by omega, by omega⟩) dX4_goesBy_141 ?_
          refine lv_topi (fun v_8 ev_8 => ?_)
          refine lv_bipush (v := 10) hx hb dX4_goesBy_142 (by decide) ?_
          refine lv_icmp_ne (tgt := 152) hx hb dX4_goesBy_144 (by decide) (fun c_9 => ?_) (fun c_9 => ?_)
          · have tc_9 := b_ne rfl (show (10 : Int32).toInt = 10 by decide) c_9
            refine lv_iload hx hb dX4_goesBy_152 (lv_at hl 5 rfl) ?_
            exact ret_i (post := (fun (r : Int32) (u : Unit) => r.toInt = -9 ∨ (0 ≤ r.toInt ∧ r.toInt ≤ 6))) (W1 := (fun u => [(h0, .inr (4, [.int ype, .int ytk, .ref ywi, .ref yki, .ref yse, .ref yno, .ref yrh, .ref yrw, .ref yrk, .ref yrt, .int yrp, .int yrq, .ref ytx, .int yle, .int yat, .int yfa, .ref yby, .ref ylo, .ref yhi, .int yac, .int ynx, .ref yro, .ref ygl, .int ysn, .ref yso, .ref ysp, .ref ysw, .long ysd, .ref yik, .ref ykp])), (yno, .inl (cI, 96, .inl Fno)), (yki, .inl (cI, 5, .inl Fki))])) () hx hb hr hlocks rfl hQ hK hP hD hS ⟨by decide, by decide⟩ dX4_goesBy_154 (show w5.toInt = -9 ∨ (0 ≤ w5.toInt ∧ w5.toInt ≤ 6) by omega)
          · have tc_9 := b_eq rfl (show (10 : Int32).toInt = 10 by decide) c_9
            refine lv_bipush (v := (-9)) hx hb dX4_goesBy_147 (by decide) ?_
            refine lv_goto (tgt := 154) hx hb dX4_goesBy_149 (by decide) ?_
            exact ret_i (post := (fun (r : Int32) (u : Unit) => r.toInt = -9 ∨ (0 ≤ r.toInt ∧ r.toInt ≤ 6))) (W1 := (fun u => [(h0, .inr (4, [.int ype, .int ytk, .ref ywi, .ref yki, .ref yse, .ref yno, .ref yrh, .ref yrw, .ref yrk, .ref yrt, .int yrp, .int yrq, .ref ytx, .int yle, .int yat, .int yfa, .ref yby, .ref ylo, .ref yhi, .int yac, .int ynx, .ref yro, .ref ygl, .int ysn, .ref yso, .ref ysp, .ref ysw, .long ysd, .ref yik, .ref ykp])), (yno, .inl (cI, 96, .inl Fno)), (yki, .inl (cI, 5, .inl Fki))])) () hx hb hr hlocks rfl hQ hK hP hD hS ⟨by decide, by decide⟩ dX4_goesBy_154 (show (-9 : Int) = -9 ∨ (0 ≤ (-9 : Int) ∧ (-9 : Int) ≤ 6) by omega)
      · have tc_5 := b_nlt rfl (show (0 : Int32).toInt = 0 by decide) c_5
        refine lv_iload hx hb dX4_goesBy_20 (lv_at hl 4 rfl) ?_
        refine lv_bipush (v := 6) hx hb dX4_goesBy_22 (by decide) ?_
        refine lv_iadd hx hb dX4_goesBy_24 ?_
        refine lv_topi (fun v_10 ev_10 => ?_)
        have tv_10 : v_10.toInt = v_1.toInt + (6 : Int) := by rw [ev_10]; exact ti_add (x := v_1) (y := 6) (show -2147483648 ≤ v_1.toInt + (6 : Int) by omega) (show v_1.toInt + (6 : Int) < 2147483648 by omega)
        refine lv_bipush (v := 6) hx hb dX4_goesBy_25 (by decide) ?_
        refine lv_iload hx hb dX4_goesBy_27 (lv_at hl 6 rfl) ?_
        refine lv_imul hx hb dX4_goesBy_29 ?_
        refine lv_topi (fun v_11 ev_11 => ?_)
        have tv_11 : v_11.toInt = (6 : Int) * x6.toInt := by rw [ev_11]; exact ti_mul (x := 6) (y := x6) (show -2147483648 ≤ (6 : Int) * x6.toInt by omega) (show (6 : Int) * x6.toInt < 2147483648 by omega)
        refine lv_iadd hx hb dX4_goesBy_30 ?_
        refine lv_topi (fun v_12 ev_12 => ?_)
        have tv_12 : v_12.toInt = v_10.toInt + v_11.toInt := by rw [ev_12]; exact ti_add (x := v_10) (y := v_11) (show -2147483648 ≤ v_10.toInt + v_11.toInt by omega) (show v_10.toInt + v_11.toInt < 2147483648 by omega)
        refine lv_istore (lv' := [(7, .int v_12), (0, .ref h0), (1, .int n), (2, .int k), (3, .int j), (4, .int v_1), (5, .int w5), (6, .int x6)]) hx hb dX4_goesBy_31 hl (by decide) rfl (fun ls hl => ?_)
        refine lv_aload_n hx hb dX4_goesBy_33 rfl (lv_at hl 1 rfl) ?_
        refine va_get (D := D) (ci := 4) (v := .ref yno) (C := RX4) (T := TX4) (N := 30) hx hb hts iX4 hown hK hP 0 rfl rfl 5 (by decide) (hts (.fieldLink RX4 19 "PunchedTicketModel" "now" "[I") (List.mem_of_getElem? (i := 1) rfl)) (fun _ h9 => h9) rfl dX4_goesBy_34 ?_
        refine lv_iload hx hb dX4_goesBy_37 (lv_at hl 0 rfl) ?_
        refine lv_iconst (v := 5) hx hb dX4_goesBy_39 (by decide) ?_
        refine lv_iadd hx hb dX4_goesBy_40 ?_
        refine lv_topi (fun v_13 ev_13 => ?_)
        have tv_13 : v_13.toInt = v_12.toInt + (5 : Int) := by rw [ev_13]; exact ti_add (x := v_12) (y := 5) (show -2147483648 ≤ v_12.toInt + (5 : Int) by omega) (show v_12.toInt + (5 : Int) < 2147483648 by omega)
        refine va_iald hx hb hK hP 1 0 rfl rfl (vp_in_iff.mpr ⟨by omega, by omega⟩) dX4_goesBy_41 ?_
        refine lv_topi (fun v_14 ev_14 => ?_)
        refine lv_if_ne (tgt := 79) hx hb dX4_goesBy_42 (by decide) (fun c_15 => ?_) (fun c_15 => ?_)
        · have tc_15 := b_ne rfl (show (0 : Int32).toInt = 0 by decide) c_15
          refine lv_iconst (v := 0) hx hb dX4_goesBy_79 (by decide) ?_
          refine lv_istore (lv' := [(8, .int 0), (7, .int v_12), (0, .ref h0), (1, .int n), (2, .int k), (3, .int j), (4, .int v_1), (5, .int w5), (6, .int x6)]) hx hb dX4_goesBy_80 hl (by decide) rfl (fun ls hl => ?_)
          refine lv_iload hx hb dX4_goesBy_82 (lv_at hl 0 rfl) ?_
          refine lv_if_eq (tgt := 115) hx hb dX4_goesBy_84 (by decide) (fun c_16 => ?_) (fun c_16 => ?_)
          · have tc_16 := b_eq (show (0 : Int32).toInt = 0 by decide) (show (0 : Int32).toInt = 0 by decide) c_16
            refine lv_iload hx hb dX4_goesBy_115 (lv_at hl 7 rfl) ?_
            refine lv_istore (lv' := [(5, .int w5), (8, .int 0), (7, .int v_12), (0, .ref h0), (1, .int n), (2, .int k), (3, .int j), (4, .int v_1), (6, .int x6)]) hx hb dX4_goesBy_117 hl (by decide) rfl (fun ls hl => ?_)
            obtain ⟨v_17, ev_17⟩ : ∃ z : Int32, z = x6 + (-1) := ⟨_, rfl⟩
            have tv_17 : v_17.toInt = x6.toInt + -1 := by rw [ev_17]; exact ti_add (x := x6) (y := (-1)) (show -2147483648 ≤ x6.toInt + -1 by omega) (show x6.toInt + -1 < 2147483648 by omega)
            refine lv_iinc (v := v_17) (lv' := [(6, .int v_17), (5, .int w5), (8, .int 0), (7, .int v_12), (0, .ref h0), (1, .int n), (2, .int k), (3, .int j), (4, .int v_1)]) hx hb dX4_goesBy_119 hl (k := 8) rfl (by rw [ev_17]; rfl) (by decide) rfl (fun ls hl => ?_)
            refine lv_goto (tgt := 15) hx hb dX4_goesBy_122 (by decide) ?_
            exact ih_4 w5 v_17 _ _ _ (show (v_17.toInt + 1).toNat < fu_3 by omega) (show -9 ≤ w5.toInt ∧ w5.toInt ≤ 6 by omega) (show -1 ≤ v_17.toInt ∧ v_17.toInt ≤ 6 by omega) (show w5.toInt = -9 ∨ (0 ≤ w5.toInt ∧ w5.toInt ≤ 6) by omega) hP hD hS (lv_sub hl [4, 5, 6, 7, 8, 1, 0] rfl)
          · have tc_16 := b_ne (show (0 : Int32).toInt = 0 by decide) (show (0 : Int32).toInt = 0 by decide) c_16
            exfalso; omega
        · have tc_15 := b_eq rfl (show (0 : Int32).toInt = 0 by decide) c_15
          refine lv_aload_n hx hb dX4_goesBy_45 rfl (lv_at hl 1 rfl) ?_
          refine va_get (D := D) (ci := 4) (v := .ref yno) (C := RX4) (T := TX4) (N := 30) hx hb hts iX4 hown hK hP 0 rfl rfl 5 (by decide) (hts (.fieldLink RX4 19 "PunchedTicketModel" "now" "[I") (List.mem_of_getElem? (i := 1) rfl)) (fun _ h9 => h9) rfl dX4_goesBy_46 ?_
          refine lv_iload hx hb dX4_goesBy_49 (lv_at hl 0 rfl) ?_
          refine lv_iconst (v := 3) hx hb dX4_goesBy_51 (by decide) ?_
          refine lv_iadd hx hb dX4_goesBy_52 ?_
          refine lv_topi (fun v_18 ev_18 => ?_)
          have tv_18 : v_18.toInt = v_12.toInt + (3 : Int) := by rw [ev_18]; exact ti_add (x := v_12) (y := 3) (show -2147483648 ≤ v_12.toInt + (3 : Int) by omega) (show v_12.toInt + (3 : Int) < 2147483648 by omega)
          refine va_iald hx hb hK hP 1 0 rfl rfl (vp_in_iff.mpr ⟨by omega, by omega⟩) dX4_goesBy_53 ?_
          refine lv_topi (fun v_19 ev_19 => ?_)
          refine lv_iload_n hx hb dX4_goesBy_54 rfl (lv_at hl 3 rfl) ?_
          refine lv_icmp_ne (tgt := 79) hx hb dX4_goesBy_55 (by decide) (fun c_20 => ?_) (fun c_20 => ?_)
          · have tc_20 := b_ne rfl rfl c_20
            refine lv_iconst (v := 0) hx hb dX4_goesBy_79 (by decide) ?_
            refine lv_istore (lv' := [(8, .int 0), (7, .int v_12), (0, .ref h0), (1, .int n), (2, .int k), (3, .int j), (4, .int v_1), (5, .int w5), (6, .int x6)]) hx hb dX4_goesBy_80 hl (by decide) rfl (fun ls hl => ?_)
            refine lv_iload hx hb dX4_goesBy_82 (lv_at hl 0 rfl) ?_
            refine lv_if_eq (tgt := 115) hx hb dX4_goesBy_84 (by decide) (fun c_21 => ?_) (fun c_21 => ?_)
            · have tc_21 := b_eq (show (0 : Int32).toInt = 0 by decide) (show (0 : Int32).toInt = 0 by decide) c_21
              refine lv_iload hx hb dX4_goesBy_115 (lv_at hl 7 rfl) ?_
              refine lv_istore (lv' := [(5, .int w5), (8, .int 0), (7, .int v_12), (0, .ref h0), (1, .int n), (2, .int k), (3, .int j), (4, .int v_1), (6, .int x6)]) hx hb dX4_goesBy_117 hl (by decide) rfl (fun ls hl => ?_)
              obtain ⟨v_22, ev_22⟩ : ∃ z : Int32, z = x6 + (-1) := ⟨_, rfl⟩
              have tv_22 : v_22.toInt = x6.toInt + -1 := by rw [ev_22]; exact ti_add (x := x6) (y := (-1)) (show -2147483648 ≤ x6.toInt + -1 by omega) (show x6.toInt + -1 < 2147483648 by omega)
              refine lv_iinc (v := v_22) (lv' := [(6, .int v_22), (5, .int w5), (8, .int 0), (7, .int v_12), (0, .ref h0), (1, .int n), (2, .int k), (3, .int j), (4, .int v_1)]) hx hb dX4_goesBy_119 hl (k := 8) rfl (by rw [ev_22]; rfl) (by decide) rfl (fun ls hl => ?_)
              refine lv_goto (tgt := 15) hx hb dX4_goesBy_122 (by decide) ?_
              exact ih_4 w5 v_22 _ _ _ (show (v_22.toInt + 1).toNat < fu_3 by omega) (show -9 ≤ w5.toInt ∧ w5.toInt ≤ 6 by omega) (show -1 ≤ v_22.toInt ∧ v_22.toInt ≤ 6 by omega) (show w5.toInt = -9 ∨ (0 ≤ w5.toInt ∧ w5.toInt ≤ 6) by omega) hP hD hS (lv_sub hl [4, 5, 6, 7, 8, 1, 0] rfl)
            · have tc_21 := b_ne (show (0 : Int32).toInt = 0 by decide) (show (0 : Int32).toInt = 0 by decide) c_21
              exfalso; omega
          · have tc_20 := b_eq rfl rfl c_20
            refine lv_aload_n hx hb dX4_goesBy_58 rfl (lv_at hl 1 rfl) ?_
            refine va_get (D := D) (ci := 4) (v := .ref yno) (C := RX4) (T := TX4) (N := 30) hx hb hts iX4 hown hK hP 0 rfl rfl 5 (by decide) (hts (.fieldLink RX4 19 "PunchedTicketModel" "now" "[I") (List.mem_of_getElem? (i := 1) rfl)) (fun _ h9 => h9) rfl dX4_goesBy_59 ?_
            refine lv_iload hx hb dX4_goesBy_62 (lv_at hl 0 rfl) ?_
            refine va_iald hx hb hK hP 1 0 rfl rfl (vp_in_iff.mpr ⟨by omega, by omega⟩) dX4_goesBy_64 ?_
            refine lv_topi (fun v_23 ev_23 => ?_)
            refine lv_aload_n hx hb dX4_goesBy_65 rfl (lv_at hl 1 rfl) ?_
            refine va_get (D := D) (ci := 4) (v := .ref yno) (C := RX4) (T := TX4) (N := 30) hx hb hts iX4 hown hK hP 0 rfl rfl 5 (by decide) (hts (.fieldLink RX4 19 "PunchedTicketModel" "now" "[I") (List.mem_of_getElem? (i := 1) rfl)) (fun _ h9 => h9) rfl dX4_goesBy_66 ?_
            refine lv_iload hx hb dX4_goesBy_69 (lv_at hl 5 rfl) ?_
            refine va_iald hx hb hK hP 1 0 rfl rfl (vp_in_iff.mpr ⟨by omega, by omega⟩) dX4_goesBy_71 ?_
            refine lv_topi (fun v_24 ev_24 => ?_)
            refine lv_icmp_ne (tgt := 79) hx hb dX4_goesBy_72 (by decide) (fun c_25 => ?_) (fun c_25 => ?_)
            · have tc_25 := b_ne rfl rfl c_25
              refine lv_iconst (v := 0) hx hb dX4_goesBy_79 (by decide) ?_
              refine lv_istore (lv' := [(8, .int 0), (7, .int v_12), (0, .ref h0), (1, .int n), (2, .int k), (3, .int j), (4, .int v_1), (5, .int w5), (6, .int x6)]) hx hb dX4_goesBy_80 hl (by decide) rfl (fun ls hl => ?_)
              refine lv_iload hx hb dX4_goesBy_82 (lv_at hl 0 rfl) ?_
              refine lv_if_eq (tgt := 115) hx hb dX4_goesBy_84 (by decide) (fun c_26 => ?_) (fun c_26 => ?_)
              · have tc_26 := b_eq (show (0 : Int32).toInt = 0 by decide) (show (0 : Int32).toInt = 0 by decide) c_26
                refine lv_iload hx hb dX4_goesBy_115 (lv_at hl 7 rfl) ?_
                refine lv_istore (lv' := [(5, .int w5), (8, .int 0), (7, .int v_12), (0, .ref h0), (1, .int n), (2, .int k), (3, .int j), (4, .int v_1), (6, .int x6)]) hx hb dX4_goesBy_117 hl (by decide) rfl (fun ls hl => ?_)
                obtain ⟨v_27, ev_27⟩ : ∃ z : Int32, z = x6 + (-1) := ⟨_, rfl⟩
                have tv_27 : v_27.toInt = x6.toInt + -1 := by rw [ev_27]; exact ti_add (x := x6) (y := (-1)) (show -2147483648 ≤ x6.toInt + -1 by omega) (show x6.toInt + -1 < 2147483648 by omega)
                refine lv_iinc (v := v_27) (lv' := [(6, .int v_27), (5, .int w5), (8, .int 0), (7, .int v_12), (0, .ref h0), (1, .int n), (2, .int k), (3, .int j), (4, .int v_1)]) hx hb dX4_goesBy_119 hl (k := 8) rfl (by rw [ev_27]; rfl) (by decide) rfl (fun ls hl => ?_)
                refine lv_goto (tgt := 15) hx hb dX4_goesBy_122 (by decide) ?_
                exact ih_4 w5 v_27 _ _ _ (show (v_27.toInt + 1).toNat < fu_3 by omega) (show -9 ≤ w5.toInt ∧ w5.toInt ≤ 6 by omega) (show -1 ≤ v_27.toInt ∧ v_27.toInt ≤ 6 by omega) (show w5.toInt = -9 ∨ (0 ≤ w5.toInt ∧ w5.toInt ≤ 6) by omega) hP hD hS (lv_sub hl [4, 5, 6, 7, 8, 1, 0] rfl)
              · have tc_26 := b_ne (show (0 : Int32).toInt = 0 by decide) (show (0 : Int32).toInt = 0 by decide) c_26
                exfalso; omega
            · have tc_25 := b_eq rfl rfl c_25
              refine lv_iconst (v := 1) hx hb dX4_goesBy_75 (by decide) ?_
              refine lv_goto (tgt := 80) hx hb dX4_goesBy_76 (by decide) ?_
              refine lv_istore (lv' := [(8, .int 1), (7, .int v_12), (0, .ref h0), (1, .int n), (2, .int k), (3, .int j), (4, .int v_1), (5, .int w5), (6, .int x6)]) hx hb dX4_goesBy_80 hl (by decide) rfl (fun ls hl => ?_)
              refine lv_iload hx hb dX4_goesBy_82 (lv_at hl 0 rfl) ?_
              refine lv_if_eq (tgt := 115) hx hb dX4_goesBy_84 (by decide) (fun c_28 => ?_) (fun c_28 => ?_)
              · have tc_28 := b_eq (show (1 : Int32).toInt = 1 by decide) (show (0 : Int32).toInt = 0 by decide) c_28
                exfalso; omega
              · have tc_28 := b_ne (show (1 : Int32).toInt = 1 by decide) (show (0 : Int32).toInt = 0 by decide) c_28
                refine lv_aload_n hx hb dX4_goesBy_87 rfl (lv_at hl 2 rfl) ?_
                refine va_get (D := D) (ci := 4) (v := .ref yno) (C := RX4) (T := TX4) (N := 30) hx hb hts iX4 hown hK hP 0 rfl rfl 5 (by decide) (hts (.fieldLink RX4 19 "PunchedTicketModel" "now" "[I") (List.mem_of_getElem? (i := 1) rfl)) (fun _ h9 => h9) rfl dX4_goesBy_88 ?_
                refine lv_iload hx hb dX4_goesBy_91 (lv_at hl 1 rfl) ?_
                refine lv_iconst (v := 1) hx hb dX4_goesBy_93 (by decide) ?_
                refine lv_iadd hx hb dX4_goesBy_94 ?_
                refine lv_topi (fun v_29 ev_29 => ?_)
                have tv_29 : v_29.toInt = v_12.toInt + (1 : Int) := by rw [ev_29]; exact ti_add (x := v_12) (y := 1) (show -2147483648 ≤ v_12.toInt + (1 : Int) by omega) (show v_12.toInt + (1 : Int) < 2147483648 by omega)
                refine va_iald hx hb hK hP 1 0 rfl rfl (vp_in_iff.mpr ⟨by omega, by omega⟩) dX4_goesBy_95 ?_
                refine lv_topi (fun v_30 ev_30 => ?_)
                refine lv_aload_n hx hb dX4_goesBy_96 rfl (lv_at hl 2 rfl) ?_
                refine va_get (D := D) (ci := 4) (v := .ref yno) (C := RX4) (T := TX4) (N := 30) hx hb hts iX4 hown hK hP 0 rfl rfl 5 (by decide) (hts (.fieldLink RX4 19 "PunchedTicketModel" "now" "[I") (List.mem_of_getElem? (i := 1) rfl)) (fun _ h9 => h9) rfl dX4_goesBy_97 ?_
                refine lv_iload hx hb dX4_goesBy_100 (lv_at hl 6 rfl) ?_
                refine lv_iconst (v := 1) hx hb dX4_goesBy_102 (by decide) ?_
                refine lv_iadd hx hb dX4_goesBy_103 ?_
                refine lv_topi (fun v_31 ev_31 => ?_)
                have tv_31 : v_31.toInt = v_1.toInt + (1 : Int) := by rw [ev_31]; exact ti_add (x := v_1) (y := 1) (show -2147483648 ≤ v_1.toInt + (1 : Int) by omega) (show v_1.toInt + (1 : Int) < 2147483648 by omega)
                refine lv_iload_n hx hb dX4_goesBy_104 rfl (lv_at hl 4 rfl) ?_
                refine lv_iadd hx hb dX4_goesBy_105 ?_
                refine lv_topi (fun v_32 ev_32 => ?_)
                have tv_32 : v_32.toInt = v_31.toInt + k.toInt := by rw [ev_32]; exact ti_add (x := v_31) (y := k) (show -2147483648 ≤ v_31.toInt + k.toInt by omega) (show v_31.toInt + k.toInt < 2147483648 by omega)
                refine va_iald hx hb hK hP 1 0 rfl rfl (vp_in_iff.mpr ⟨by omega, by omega⟩) dX4_goesBy_106 ?_
                refine lv_topi (fun v_33 ev_33 => ?_)
                refine lv_icmp_ne (tgt := 115) hx hb dX4_goesBy_107 (by decide) (fun c_34 => ?_) (fun c_34 => ?_)
                · have tc_34 := b_ne rfl rfl c_34
                  refine lv_iload hx hb dX4_goesBy_115 (lv_at hl 7 rfl) ?_
                  refine lv_istore (lv' := [(5, .int w5), (8, .int 1), (7, .int v_12), (0, .ref h0), (1, .int n), (2, .int k), (3, .int j), (4, .int v_1), (6, .int x6)]) hx hb dX4_goesBy_117 hl (by decide) rfl (fun ls hl => ?_)
                  obtain ⟨v_35, ev_35⟩ : ∃ z : Int32, z = x6 + (-1) := ⟨_, rfl⟩
                  have tv_35 : v_35.toInt = x6.toInt + -1 := by rw [ev_35]; exact ti_add (x := x6) (y := (-1)) (show -2147483648 ≤ x6.toInt + -1 by omega) (show x6.toInt + -1 < 2147483648 by omega)
                  refine lv_iinc (v := v_35) (lv' := [(6, .int v_35), (5, .int w5), (8, .int 1), (7, .int v_12), (0, .ref h0), (1, .int n), (2, .int k), (3, .int j), (4, .int v_1)]) hx hb dX4_goesBy_119 hl (k := 8) rfl (by rw [ev_35]; rfl) (by decide) rfl (fun ls hl => ?_)
                  refine lv_goto (tgt := 15) hx hb dX4_goesBy_122 (by decide) ?_
                  exact ih_4 w5 v_35 _ _ _ (show (v_35.toInt + 1).toNat < fu_3 by omega) (show -9 ≤ w5.toInt ∧ w5.toInt ≤ 6 by omega) (show -1 ≤ v_35.toInt ∧ v_35.toInt ≤ 6 by omega) (show w5.toInt = -9 ∨ (0 ≤ w5.toInt ∧ w5.toInt ≤ 6) by omega) hP hD hS (lv_sub hl [4, 5, 6, 7, 8, 1, 0] rfl)
                · have tc_34 := b_eq rfl rfl c_34
                  refine lv_iload hx hb dX4_goesBy_110 (lv_at hl 8 rfl) ?_
                  refine lv_goto (tgt := 117) hx hb dX4_goesBy_112 (by decide) ?_
                  refine lv_istore (lv' := [(5, .int x6), (8, .int 1), (7, .int v_12), (0, .ref h0), (1, .int n), (2, .int k), (3, .int j), (4, .int v_1), (6, .int x6)]) hx hb dX4_goesBy_117 hl (by decide) rfl (fun ls hl => ?_)
                  obtain ⟨v_36, ev_36⟩ : ∃ z : Int32, z = x6 + (-1) := ⟨_, rfl⟩
                  have tv_36 : v_36.toInt = x6.toInt + -1 := by rw [ev_36]; exact ti_add (x := x6) (y := (-1)) (show -2147483648 ≤ x6.toInt + -1 by omega) (show x6.toInt + -1 < 2147483648 by omega)
                  refine lv_iinc (v := v_36) (lv' := [(6, .int v_36), (5, .int x6), (8, .int 1), (7, .int v_12), (0, .ref h0), (1, .int n), (2, .int k), (3, .int j), (4, .int v_1)]) hx hb dX4_goesBy_119 hl (k := 8) rfl (by rw [ev_36]; rfl) (by decide) rfl (fun ls hl => ?_)
                  refine lv_goto (tgt := 15) hx hb dX4_goesBy_122 (by decide) ?_
                  exact ih_4 x6 v_36 _ _ _ (show (v_36.toInt + 1).toNat < fu_3 by omega) (show -9 ≤ x6.toInt ∧ x6.toInt ≤ 6 by omega) (show -1 ≤ v_36.toInt ∧ v_36.toInt ≤ 6 by omega) (show x6.toInt = -9 ∨ (0 ≤ x6.toInt ∧ x6.toInt ≤ 6) by omega) hP hD hS (lv_sub hl [4, 5, 6, 7, 8, 1, 0] rfl)
  exact LOOP_3 _ (-9) v_2 _ _ _ (Nat.lt_succ_self _) (by decide) (show -1 ≤ v_2.toInt ∧ v_2.toInt ≤ 6 by omega) (show (-9 : Int) = -9 ∨ (0 ≤ (-9 : Int) ∧ (-9 : Int) ≤ 6) by omega) hP hD hS (lv_sub hl [3, 4, 5, 6, 2, 1, 0] rfl)

set_option maxHeartbeats 600000 in
set_option maxRecDepth 100000 in
theorem c_X4_use (l : Launch) (D : va_G) (cI cZ cM : ClassId) (h0 : Nat) (n : Int32) (k : Int32) (j : Int32) (ype : Int32) (ytk : Int32) (ywi : Nat) (yki : Nat) (yse : Nat) (yno : Nat) (yrh : Nat) (yrw : Nat) (yrk : Nat) (yrt : Nat) (yrp : Int32) (yrq : Int32) (ytx : Nat) (yle : Int32) (yat : Int32) (yfa : Int32) (yby : Nat) (ylo : Nat) (yhi : Nat) (yac : Int32) (ynx : Int32) (yro : Nat) (ygl : Nat) (ysn : Int32) (yso : Nat) (ysp : Nat) (ysw : Nat) (ysd : Int64) (yik : Nat) (ykp : Nat) (Fno : Nat → Int32) (Fki : Nat → Int32) (sz : Nat) (h_n : 0 ≤ n.toInt ∧ n.toInt ≤ 1) (h_k : 0 ≤ k.toInt ∧ k.toInt ≤ 4) (h_j : 0 ≤ j.toInt ∧ j.toInt ≤ 6) : Cv l yX4_use wsX4_use ({ frames := 0, cells := 0, slots := 0, locals := 0 } : Room) D cI cZ cM [.ref h0, .int n, .int k, .int j] [(h0, .inr (4, [.int ype, .int ytk, .ref ywi, .ref yki, .ref yse, .ref yno, .ref yrh, .ref yrw, .ref yrk, .ref yrt, .int yrp, .int yrq, .ref ytx, .int yle, .int yat, .int yfa, .ref yby, .ref ylo, .ref yhi, .int yac, .int ynx, .ref yro, .ref ygl, .int ysn, .ref yso, .ref ysp, .ref ysw, .long ysd, .ref yik, .ref ykp])), (yno, .inl (cI, 96, .inl Fno)), (yki, .inl (cI, 5, .inl Fki))] sz (fun (u : (Nat → Int32)) => (u 48).toInt = (Fno 48).toInt) (fun u => [(h0, .inr (4, [.int ype, .int ytk, .ref ywi, .ref yki, .ref yse, .ref yno, .ref yrh, .ref yrw, .ref yrk, .ref yrt, .int yrp, .int yrq, .ref ytx, .int yle, .int yat, .int yfa, .ref yby, .ref ylo, .ref yhi, .int yac, .int ynx, .ref yro, .ref ygl, .int ysn, .ref yso, .ref ysp, .ref ysw, .long ysd, .ref yik, .ref ykp])), (yno, .inl (cI, 96, .inl u)), (yki, .inl (cI, 5, .inl Fki))]) 0 0 := by
  refine begins (l := l) (y := yX4_use) (ws := wsX4_use) (av := [.ref h0, .int n, .int k, .int j]) (Qc := fun A => va_Qv (fun (u : (Nat → Int32)) => (u 48).toInt = (Fno 48).toInt) (fun u => Wd D cI cZ cM A ((fun u => [(h0, .inr (4, [.int ype, .int ytk, .ref ywi, .ref yki, .ref yse, .ref yno, .ref yrh, .ref yrw, .ref yrk, .ref yrt, .int yrp, .int yrq, .ref ytx, .int yle, .int yat, .int yfa, .ref yby, .ref ylo, .ref yhi, .int yac, .int ynx, .ref yro, .ref ygl, .int ysn, .ref yso, .ref ysp, .ref ysw, .long ysd, .ref yik, .ref ykp])), (yno, .inl (cI, 96, .inl u)), (yki, .inl (cI, 5, .inl Fki))]) u)) A) cX4_use 8 none (by decide) rfl (Nat.le_of_ble_eq_true rfl) ?_
  intro p e s m args below meth c R Q A ls hBd hR hQ hA hS hK hP hD hl
  obtain ⟨hx, hb, hr, hts, hown, hlocks, hin, hml⟩ := hBd
  have hl : lv_has ls 8 [(0, .ref h0), (1, .int n), (2, .int k), (3, .int j)] := hl
  have iX4 : ∀ w ∈ wsX40, w ∈ wsX4_use := fun _ h => List.mem_cons_of_mem _ (List.mem_append_right _ h)
  obtain ⟨h_na, h_nb⟩ := h_n
  obtain ⟨h_ka, h_kb⟩ := h_k
  obtain ⟨h_ja, h_jb⟩ := h_j
  refine lv_bipush (v := 48) hx hb dX4_use_0 (by decide) ?_
  refine lv_iload_n hx hb dX4_use_2 rfl (lv_at hl 1 rfl) ?_
  refine lv_imul hx hb dX4_use_3 ?_
  refine lv_topi (fun v_1 ev_1 => ?_)
  have tv_1 : v_1.toInt = (48 : Int) * n.toInt := by rw [ev_1]; exact ti_mul (x := 48) (y := n) (show -2147483648 ≤ (48 : Int) * n.toInt by omega) (show (48 : Int) * n.toInt < 2147483648 by omega)
  refine lv_bipush (v := 6) hx hb dX4_use_4 (by decide) ?_
  refine lv_iadd hx hb dX4_use_6 ?_
  refine lv_topi (fun v_2 ev_2 => ?_)
  have tv_2 : v_2.toInt = v_1.toInt + (6 : Int) := by rw [ev_2]; exact ti_add (x := v_1) (y := 6) (show -2147483648 ≤ v_1.toInt + (6 : Int) by omega) (show v_1.toInt + (6 : Int) < 2147483648 by omega)
  refine lv_bipush (v := 6) hx hb dX4_use_7 (by decide) ?_
  refine lv_iload_n hx hb dX4_use_9 rfl (lv_at hl 3 rfl) ?_
  refine lv_imul hx hb dX4_use_10 ?_
  refine lv_topi (fun v_3 ev_3 => ?_)
  have tv_3 : v_3.toInt = (6 : Int) * j.toInt := by rw [ev_3]; exact ti_mul (x := 6) (y := j) (show -2147483648 ≤ (6 : Int) * j.toInt by omega) (show (6 : Int) * j.toInt < 2147483648 by omega)
  refine lv_iadd hx hb dX4_use_11 ?_
  refine lv_topi (fun v_4 ev_4 => ?_)
  have tv_4 : v_4.toInt = v_2.toInt + v_3.toInt := by rw [ev_4]; exact ti_add (x := v_2) (y := v_3) (show -2147483648 ≤ v_2.toInt + v_3.toInt by omega) (show v_2.toInt + v_3.toInt < 2147483648 by omega)
  refine lv_istore (lv' := [(4, .int v_4), (0, .ref h0), (1, .int n), (2, .int k), (3, .int j)]) hx hb dX4_use_12 hl (by decide) rfl (fun ls hl => ?_)
  refine lv_aload_n hx hb dX4_use_14 rfl (lv_at hl 1 rfl) ?_
  refine va_get (D := D) (ci := 4) (v := .ref yno) (C := RX4) (T := TX4) (N := 30) hx hb hts iX4 hown hK hP 0 rfl rfl 5 (by decide) (hts (.fieldLink RX4 19 "PunchedTicketModel" "now" "[I") (List.mem_of_getElem? (i := 1) rfl)) (fun _ h9 => h9) rfl dX4_use_15 ?_
  refine lv_iload hx hb dX4_use_18 (lv_at hl 0 rfl) ?_
  refine va_iald hx hb hK hP 1 0 rfl rfl (vp_in_iff.mpr ⟨by omega, by omega⟩) dX4_use_20 ?_
  refine lv_topi (fun v_5 ev_5 => ?_)
  refine lv_aload_n hx hb dX4_use_21 rfl (lv_at hl 1 rfl) ?_
  refine va_get (D := D) (ci := 4) (v := .ref yki) (C := RX4) (T := TX4) (N := 30) hx hb hts iX4 hown hK hP 0 rfl rfl 3 (by decide) (hts (.fieldLink RX4 13 "PunchedTicketModel" "kind" "[I") (List.mem_of_getElem? (i := 2) rfl)) (fun _ h9 => h9) rfl dX4_use_22 ?_
  refine lv_iload_n hx hb dX4_use_25 rfl (lv_at hl 3 rfl) ?_
  refine va_iald hx hb hK hP 2 0 rfl rfl (vp_in_iff.mpr ⟨by omega, by omega⟩) dX4_use_26 ?_
  refine lv_topi (fun v_6 ev_6 => ?_)
  refine lv_iconst (v := 1) hx hb dX4_use_27 (by decide) ?_
  refine lv_icmp_ne (tgt := 35) hx hb dX4_use_28 (by decide) (fun c_7 => ?_) (fun c_7 => ?_)
  · have tc_7 := b_ne rfl (show (1 : Int32).toInt = 1 by decide) c_7
    refine lv_iconst (v := 3) hx hb dX4_use_35 (by decide) ?_
    refine lv_iadd hx hb dX4_use_36 ?_
    refine lv_topi (fun v_8 ev_8 => ?_)
    refine lv_istore (lv' := [(5, .int v_8), (4, .int v_4), (0, .ref h0), (1, .int n), (2, .int k), (3, .int j)]) hx hb dX4_use_37 hl (by decide) rfl (fun ls hl => ?_)
    refine lv_aload_n hx hb dX4_use_39 rfl (lv_at hl 2 rfl) ?_
    refine va_get (D := D) (ci := 4) (v := .ref yki) (C := RX4) (T := TX4) (N := 30) hx hb hts iX4 hown hK hP 0 rfl rfl 3 (by decide) (hts (.fieldLink RX4 13 "PunchedTicketModel" "kind" "[I") (List.mem_of_getElem? (i := 2) rfl)) (fun _ h9 => h9) rfl dX4_use_40 ?_
    refine lv_iload_n hx hb dX4_use_43 rfl (lv_at hl 4 rfl) ?_
    refine va_iald hx hb hK hP 2 0 rfl rfl (vp_in_iff.mpr ⟨by omega, by omega⟩) dX4_use_44 ?_
    refine lv_topi (fun v_9 ev_9 => ?_)
    refine lv_iconst (v := 1) hx hb dX4_use_45 (by decide) ?_
    refine lv_icmp_ne (tgt := 61) hx hb dX4_use_46 (by decide) (fun c_10 => ?_) (fun c_10 => ?_)
    · have tc_10 := b_ne rfl (show (1 : Int32).toInt = 1 by decide) c_10
      refine lv_aload_n hx hb dX4_use_61 rfl (lv_at hl 2 rfl) ?_
      refine va_get (D := D) (ci := 4) (v := .ref yki) (C := RX4) (T := TX4) (N := 30) hx hb hts iX4 hown hK hP 0 rfl rfl 3 (by decide) (hts (.fieldLink RX4 13 "PunchedTicketModel" "kind" "[I") (List.mem_of_getElem? (i := 2) rfl)) (fun _ h9 => h9) rfl dX4_use_62 ?_
      refine lv_iload_n hx hb dX4_use_65 rfl (lv_at hl 4 rfl) ?_
      refine va_iald hx hb hK hP 2 0 rfl rfl (vp_in_iff.mpr ⟨by omega, by omega⟩) dX4_use_66 ?_
      refine lv_topi (fun v_11 ev_11 => ?_)
      refine lv_iconst (v := 2) hx hb dX4_use_67 (by decide) ?_
      refine lv_icmp_ne (tgt := 75) hx hb dX4_use_68 (by decide) (fun c_12 => ?_) (fun c_12 => ?_)
      · have tc_12 := b_ne rfl (show (2 : Int32).toInt = 2 by decide) c_12
        refine lv_iconst (v := 0) hx hb dX4_use_75 (by decide) ?_
        refine lv_istore (lv' := [(6, .int 0), (5, .int v_8), (4, .int v_4), (0, .ref h0), (1, .int n), (2, .int k), (3, .int j)]) hx hb dX4_use_76 hl (by decide) rfl (fun ls hl => ?_)
        refine lv_iload hx hb dX4_use_78 (lv_at hl 0 rfl) ?_
        refine lv_if_eq (tgt := 90) hx hb dX4_use_80 (by decide) (fun c_13 => ?_) (fun c_13 => ?_)
        · have tc_13 := b_eq (show (0 : Int32).toInt = 0 by decide) (show (0 : Int32).toInt = 0 by decide) c_13
          refine lv_aload_n hx hb dX4_use_90 rfl (lv_at hl 3 rfl) ?_
          refine va_get (D := D) (ci := 4) (v := .ref yno) (C := RX4) (T := TX4) (N := 30) hx hb hts iX4 hown hK hP 0 rfl rfl 5 (by decide) (hts (.fieldLink RX4 19 "PunchedTicketModel" "now" "[I") (List.mem_of_getElem? (i := 1) rfl)) (fun _ h9 => h9) rfl dX4_use_91 ?_
          refine lv_iload hx hb dX4_use_94 (lv_at hl 2 rfl) ?_
          refine lv_iconst (v := 5) hx hb dX4_use_96 (by decide) ?_
          refine lv_iadd hx hb dX4_use_97 ?_
          refine lv_topi (fun v_14 ev_14 => ?_)
          have tv_14 : v_14.toInt = v_4.toInt + (5 : Int) := by rw [ev_14]; exact ti_add (x := v_4) (y := 5) (show -2147483648 ≤ v_4.toInt + (5 : Int) by omega) (show v_4.toInt + (5 : Int) < 2147483648 by omega)
          refine lv_iconst (v := 1) hx hb dX4_use_98 (by decide) ?_
          refine va_iast hx hb hK hP hD hS 1 0 rfl rfl (vp_in_iff.mpr ⟨by omega, by omega⟩) dX4_use_99 (fun H locs hP hD hS => ?_)
          obtain ⟨f_15, ef_15⟩ : ∃ g : Nat → Int32, upd Fno (v_14 : Int32).toNatClampNeg 1 = g := ⟨_, rfl⟩
          rw [ef_15] at hP hD
          have hP : va_P D vwCl [(h0, .inr (4, [.int ype, .int ytk, .ref ywi, .ref yki, .ref yse, .ref yno, .ref yrh, .ref yrw, .ref yrk, .ref yrt, .int yrp, .int yrq, .ref ytx, .int yle, .int yat, .int yfa, .ref yby, .ref ylo, .ref yhi, .int yac, .int ynx, .ref yro, .ref ygl, .int ysn, .ref yso, .ref ysp, .ref ysw, .long ysd, .ref yik, .ref ykp])), (yno, .inl (cI, 96, .inl f_15)), (yki, .inl (cI, 5, .inl Fki))] H := hP
          have hD : va_D A [(h0, .inr (4, [.int ype, .int ytk, .ref ywi, .ref yki, .ref yse, .ref yno, .ref yrh, .ref yrw, .ref yrk, .ref yrt, .int yrp, .int yrq, .ref ytx, .int yle, .int yat, .int yfa, .ref yby, .ref ylo, .ref yhi, .int yac, .int ynx, .ref yro, .ref ygl, .int ysn, .ref yso, .ref ysp, .ref ysw, .long ysd, .ref yik, .ref ykp])), (yno, .inl (cI, 96, .inl f_15)), (yki, .inl (cI, 5, .inl Fki))] := hD
          have k48f_15 : (f_15 48).toInt = (Fno 48).toInt := by rw [← ef_15, upd_ne (by omega) (by omega)]
          exact ret_v (post := (fun (u : (Nat → Int32)) => (u 48).toInt = (Fno 48).toInt)) (W1 := (fun u => [(h0, .inr (4, [.int ype, .int ytk, .ref ywi, .ref yki, .ref yse, .ref yno, .ref yrh, .ref yrw, .ref yrk, .ref yrt, .int yrp, .int yrq, .ref ytx, .int yle, .int yat, .int yfa, .ref yby, .ref ylo, .ref yhi, .int yac, .int ynx, .ref yro, .ref ygl, .int ysn, .ref yso, .ref ysp, .ref ysw, .long ysd, .ref yik, .ref ykp])), (yno, .inl (cI, 96, .inl u)), (yki, .inl (cI, 5, .inl Fki))])) f_15 hx hb hr hlocks hQ hK hP hD hS ⟨by decide, by decide⟩ dX4_use_100 (show (f_15 48).toInt = (Fno 48).toInt by omega)
        · have tc_13 := b_ne (show (0 : Int32).toInt = 0 by decide) (show (0 : Int32).toInt = 0 by decide) c_13
          exfalso; omega
      · have tc_12 := b_eq rfl (show (2 : Int32).toInt = 2 by decide) c_12
        refine lv_iconst (v := 1) hx hb dX4_use_71 (by decide) ?_
        refine lv_goto (tgt := 76) hx hb dX4_use_72 (by decide) ?_
        refine lv_istore (lv' := [(6, .int 1), (5, .int v_8), (4, .int v_4), (0, .ref h0), (1, .int n), (2, .int k), (3, .int j)]) hx hb dX4_use_76 hl (by decide) rfl (fun ls hl => ?_)
        refine lv_iload hx hb dX4_use_78 (lv_at hl 0 rfl) ?_
        refine lv_if_eq (tgt := 90) hx hb dX4_use_80 (by decide) (fun c_16 => ?_) (fun c_16 => ?_)
        · have tc_16 := b_eq (show (1 : Int32).toInt = 1 by decide) (show (0 : Int32).toInt = 0 by decide) c_16
          exfalso; omega
        · have tc_16 := b_ne (show (1 : Int32).toInt = 1 by decide) (show (0 : Int32).toInt = 0 by decide) c_16
          refine lv_iload hx hb dX4_use_83 (lv_at hl 1 rfl) ?_
          refine lv_bipush (v := 9) hx hb dX4_use_85 (by decide) ?_
          refine lv_icmp_le (tgt := 101) hx hb dX4_use_87 (by decide) (fun c_17 => ?_) (fun c_17 => ?_)
          · have tc_17 := b_le rfl (show (9 : Int32).toInt = 9 by decide) c_17
            refine lv_aload_n hx hb dX4_use_101 rfl (lv_at hl 3 rfl) ?_
            refine va_get (D := D) (ci := 4) (v := .ref yno) (C := RX4) (T := TX4) (N := 30) hx hb hts iX4 hown hK hP 0 rfl rfl 5 (by decide) (hts (.fieldLink RX4 19 "PunchedTicketModel" "now" "[I") (List.mem_of_getElem? (i := 1) rfl)) (fun _ h9 => h9) rfl dX4_use_102 ?_
            refine lv_iload hx hb dX4_use_105 (lv_at hl 2 rfl) ?_
            refine lv_iload hx hb dX4_use_107 (lv_at hl 1 rfl) ?_
            refine va_iast hx hb hK hP hD hS 1 0 rfl rfl (vp_in_iff.mpr ⟨by omega, by omega⟩) dX4_use_109 (fun H locs hP hD hS => ?_)
            obtain ⟨f_18, ef_18⟩ : ∃ g : Nat → Int32, upd Fno (v_4 : Int32).toNatClampNeg v_8 = g := ⟨_, rfl⟩
            rw [ef_18] at hP hD
            have hP : va_P D vwCl [(h0, .inr (4, [.int ype, .int ytk, .ref ywi, .ref yki, .ref yse, .ref yno, .ref yrh, .ref yrw, .ref yrk, .ref yrt, .int yrp, .int yrq, .ref ytx, .int yle, .int yat, .int yfa, .ref yby, .ref ylo, .ref yhi, .int yac, .int ynx, .ref yro, .ref ygl, .int ysn, .ref yso, .ref ysp, .ref ysw, .long ysd, .ref yik, .ref ykp])), (yno, .inl (cI, 96, .inl f_18)), (yki, .inl (cI, 5, .inl Fki))] H := hP
            have hD : va_D A [(h0, .inr (4, [.int ype, .int ytk, .ref ywi, .ref yki, .ref yse, .ref yno, .ref yrh, .ref yrw, .ref yrk, .ref yrt, .int yrp, .int yrq, .ref ytx, .int yle, .int yat, .int yfa, .ref yby, .ref ylo, .ref yhi, .int yac, .int ynx, .ref yro, .ref ygl, .int ysn, .ref yso, .ref ysp, .ref ysw, .long ysd, .ref yik, .ref ykp])), (yno, .inl (cI, 96, .inl f_18)), (yki, .inl (cI, 5, .inl Fki))] := hD
            have k48f_18 : (f_18 48).toInt = (Fno 48).toInt := by rw [← ef_18, upd_ne (by omega) (by omega)]
            refine lv_aload_n hx hb dX4_use_110 rfl (lv_at hl 3 rfl) ?_
            refine va_get (D := D) (ci := 4) (v := .ref yki) (C := RX4) (T := TX4) (N := 30) hx hb hts iX4 hown hK hP 0 rfl rfl 3 (by decide) (hts (.fieldLink RX4 13 "PunchedTicketModel" "kind" "[I") (List.mem_of_getElem? (i := 2) rfl)) (fun _ h9 => h9) rfl dX4_use_111 ?_
            refine lv_iload_n hx hb dX4_use_114 rfl (lv_at hl 5 rfl) ?_
            refine va_iald hx hb hK hP 2 0 rfl rfl (vp_in_iff.mpr ⟨by omega, by omega⟩) dX4_use_115 ?_
            refine lv_topi (fun v_19 ev_19 => ?_)
            refine lv_iconst (v := 2) hx hb dX4_use_116 (by decide) ?_
            refine lv_icmp_ne (tgt := 147) hx hb dX4_use_117 (by decide) (fun c_20 => ?_) (fun c_20 => ?_)
            · have tc_20 := b_ne rfl (show (2 : Int32).toInt = 2 by decide) c_20
              refine lv_aload_n hx hb dX4_use_147 rfl (lv_at hl 3 rfl) ?_
              refine va_get (D := D) (ci := 4) (v := .ref yno) (C := RX4) (T := TX4) (N := 30) hx hb hts iX4 hown hK hP 0 rfl rfl 5 (by decide) (hts (.fieldLink RX4 19 "PunchedTicketModel" "now" "[I") (List.mem_of_getElem? (i := 1) rfl)) (fun _ h9 => h9) rfl dX4_use_148 ?_
              refine lv_iload hx hb dX4_use_151 (lv_at hl 2 rfl) ?_
              refine lv_iconst (v := 1) hx hb dX4_use_153 (by decide) ?_
              refine lv_iadd hx hb dX4_use_154 ?_
              refine lv_topi (fun v_21 ev_21 => ?_)
              have tv_21 : v_21.toInt = v_4.toInt + (1 : Int) := by rw [ev_21]; exact ti_add (x := v_4) (y := 1) (show -2147483648 ≤ v_4.toInt + (1 : Int) by omega) (show v_4.toInt + (1 : Int) < 2147483648 by omega)
              refine va_iald hx hb hK hP 1 0 rfl rfl (vp_in_iff.mpr ⟨by omega, by omega⟩) dX4_use_155 ?_
              refine lv_topi (fun v_22 ev_22 => ?_)
              refine lv_istore (lv' := [(7, .int v_22), (6, .int 1), (5, .int v_8), (4, .int v_4), (0, .ref h0), (1, .int n), (2, .int k), (3, .int j)]) hx hb dX4_use_156 hl (by decide) rfl (fun ls hl => ?_)
              refine lv_aload_n hx hb dX4_use_158 rfl (lv_at hl 4 rfl) ?_
              refine va_get (D := D) (ci := 4) (v := .ref yno) (C := RX4) (T := TX4) (N := 30) hx hb hts iX4 hown hK hP 0 rfl rfl 5 (by decide) (hts (.fieldLink RX4 19 "PunchedTicketModel" "now" "[I") (List.mem_of_getElem? (i := 1) rfl)) (fun _ h9 => h9) rfl dX4_use_159 ?_
              refine lv_iload hx hb dX4_use_162 (lv_at hl 3 rfl) ?_
              refine lv_iconst (v := 1) hx hb dX4_use_164 (by decide) ?_
              refine lv_iadd hx hb dX4_use_165 ?_
              refine lv_topi (fun v_23 ev_23 => ?_)
              have tv_23 : v_23.toInt = v_4.toInt + (1 : Int) := by rw [ev_23]; exact ti_add (x := v_4) (y := 1) (show -2147483648 ≤ v_4.toInt + (1 : Int) by omega) (show v_4.toInt + (1 : Int) < 2147483648 by omega)
              refine lv_aload_n hx hb dX4_use_166 rfl (lv_at hl 4 rfl) ?_
              refine va_get (D := D) (ci := 4) (v := .ref yno) (C := RX4) (T := TX4) (N := 30) hx hb hts iX4 hown hK hP 0 rfl rfl 5 (by decide) (hts (.fieldLink RX4 19 "PunchedTicketModel" "now" "[I") (List.mem_of_getElem? (i := 1) rfl)) (fun _ h9 => h9) rfl dX4_use_167 ?_
              refine lv_iload hx hb dX4_use_170 (lv_at hl 3 rfl) ?_
              refine lv_iconst (v := 2) hx hb dX4_use_172 (by decide) ?_
              refine lv_iadd hx hb dX4_use_173 ?_
              refine lv_topi (fun v_24 ev_24 => ?_)
              have tv_24 : v_24.toInt = v_4.toInt + (2 : Int) := by rw [ev_24]; exact ti_add (x := v_4) (y := 2) (show -2147483648 ≤ v_4.toInt + (2 : Int) by omega) (show v_4.toInt + (2 : Int) < 2147483648 by omega)
              refine va_iald hx hb hK hP 1 0 rfl rfl (vp_in_iff.mpr ⟨by omega, by omega⟩) dX4_use_174 ?_
              refine lv_topi (fun v_25 ev_25 => ?_)
              refine va_iast hx hb hK hP hD hS 1 0 rfl rfl (vp_in_iff.mpr ⟨by omega, by omega⟩) dX4_use_175 (fun H locs hP hD hS => ?_)
              obtain ⟨f_26, ef_26⟩ : ∃ g : Nat → Int32, upd f_18 (v_23 : Int32).toNatClampNeg v_25 = g := ⟨_, rfl⟩
              rw [ef_26] at hP hD
              have hP : va_P D vwCl [(h0, .inr (4, [.int ype, .int ytk, .ref ywi, .ref yki, .ref yse, .ref yno, .ref yrh, .ref yrw, .ref yrk, .ref yrt, .int yrp, .int yrq, .ref ytx, .int yle, .int yat, .int yfa, .ref yby, .ref ylo, .ref yhi, .int yac, .int ynx, .ref yro, .ref ygl, .int ysn, .ref yso, .ref ysp, .ref ysw, .long ysd, .ref yik, .ref ykp])), (yno, .inl (cI, 96, .inl f_26)), (yki, .inl (cI, 5, .inl Fki))] H := hP
              have hD : va_D A [(h0, .inr (4, [.int ype, .int ytk, .ref ywi, .ref yki, .ref yse, .ref yno, .ref yrh, .ref yrw, .ref yrk, .ref yrt, .int yrp, .int yrq, .ref ytx, .int yle, .int yat, .int yfa, .ref yby, .ref ylo, .ref yhi, .int yac, .int ynx, .ref yro, .ref ygl, .int ysn, .ref yso, .ref ysp, .ref ysw, .long ysd, .ref yik, .ref ykp])), (yno, .inl (cI, 96, .inl f_26)), (yki, .inl (cI, 5, .inl Fki))] := hD
              have k48f_26 : (f_26 48).toInt = (f_18 48).toInt := by rw [← ef_26, upd_ne (by omega) (by omega)]
              refine lv_aload_n hx hb dX4_use_176 rfl (lv_at hl 4 rfl) ?_
              refine va_get (D := D) (ci := 4) (v := .ref yno) (C := RX4) (T := TX4) (N := 30) hx hb hts iX4 hown hK hP 0 rfl rfl 5 (by decide) (hts (.fieldLink RX4 19 "PunchedTicketModel" "now" "[I") (List.mem_of_getElem? (i := 1) rfl)) (fun _ h9 => h9) rfl dX4_use_177 ?_
              refine lv_iload hx hb dX4_use_180 (lv_at hl 3 rfl) ?_
              refine lv_iconst (v := 2) hx hb dX4_use_182 (by decide) ?_
              refine lv_iadd hx hb dX4_use_183 ?_
              refine lv_topi (fun v_27 ev_27 => ?_)
              have tv_27 : v_27.toInt = v_4.toInt + (2 : Int) := by rw [ev_27]; exact ti_add (x := v_4) (y := 2) (show -2147483648 ≤ v_4.toInt + (2 : Int) by omega) (show v_4.toInt + (2 : Int) < 2147483648 by omega)
              refine lv_iload hx hb dX4_use_184 (lv_at hl 0 rfl) ?_
              refine va_iast hx hb hK hP hD hS 1 0 rfl rfl (vp_in_iff.mpr ⟨by omega, by omega⟩) dX4_use_186 (fun H locs hP hD hS => ?_)
              obtain ⟨f_28, ef_28⟩ : ∃ g : Nat → Int32, upd f_26 (v_27 : Int32).toNatClampNeg v_22 = g := ⟨_, rfl⟩
              rw [ef_28] at hP hD
              have hP : va_P D vwCl [(h0, .inr (4, [.int ype, .int ytk, .ref ywi, .ref yki, .ref yse, .ref yno, .ref yrh, .ref yrw, .ref yrk, .ref yrt, .int yrp, .int yrq, .ref ytx, .int yle, .int yat, .int yfa, .ref yby, .ref ylo, .ref yhi, .int yac, .int ynx, .ref yro, .ref ygl, .int ysn, .ref yso, .ref ysp, .ref ysw, .long ysd, .ref yik, .ref ykp])), (yno, .inl (cI, 96, .inl f_28)), (yki, .inl (cI, 5, .inl Fki))] H := hP
              have hD : va_D A [(h0, .inr (4, [.int ype, .int ytk, .ref ywi, .ref yki, .ref yse, .ref yno, .ref yrh, .ref yrw, .ref yrk, .ref yrt, .int yrp, .int yrq, .ref ytx, .int yle, .int yat, .int yfa, .ref yby, .ref ylo, .ref yhi, .int yac, .int ynx, .ref yro, .ref ygl, .int ysn, .ref yso, .ref ysp, .ref ysw, .long ysd, .ref yik, .ref ykp])), (yno, .inl (cI, 96, .inl f_28)), (yki, .inl (cI, 5, .inl Fki))] := hD
              have k48f_28 : (f_28 48).toInt = (f_26 48).toInt := by rw [← ef_28, upd_ne (by omega) (by omega)]
              refine lv_aload_n hx hb dX4_use_187 rfl (lv_at hl 4 rfl) ?_
              refine va_get (D := D) (ci := 4) (v := .ref yno) (C := RX4) (T := TX4) (N := 30) hx hb hts iX4 hown hK hP 0 rfl rfl 5 (by decide) (hts (.fieldLink RX4 19 "PunchedTicketModel" "now" "[I") (List.mem_of_getElem? (i := 1) rfl)) (fun _ h9 => h9) rfl dX4_use_188 ?_
              refine lv_iload hx hb dX4_use_191 (lv_at hl 3 rfl) ?_
              refine lv_iconst (v := 4) hx hb dX4_use_193 (by decide) ?_
              refine lv_iadd hx hb dX4_use_194 ?_
              refine lv_topi (fun v_29 ev_29 => ?_)
              have tv_29 : v_29.toInt = v_4.toInt + (4 : Int) := by rw [ev_29]; exact ti_add (x := v_4) (y := 4) (show -2147483648 ≤ v_4.toInt + (4 : Int) by omega) (show v_4.toInt + (4 : Int) < 2147483648 by omega)
              refine lv_iconst (v := 1) hx hb dX4_use_195 (by decide) ?_
              refine va_iast hx hb hK hP hD hS 1 0 rfl rfl (vp_in_iff.mpr ⟨by omega, by omega⟩) dX4_use_196 (fun H locs hP hD hS => ?_)
              obtain ⟨f_30, ef_30⟩ : ∃ g : Nat → Int32, upd f_28 (v_29 : Int32).toNatClampNeg 1 = g := ⟨_, rfl⟩
              rw [ef_30] at hP hD
              have hP : va_P D vwCl [(h0, .inr (4, [.int ype, .int ytk, .ref ywi, .ref yki, .ref yse, .ref yno, .ref yrh, .ref yrw, .ref yrk, .ref yrt, .int yrp, .int yrq, .ref ytx, .int yle, .int yat, .int yfa, .ref yby, .ref ylo, .ref yhi, .int yac, .int ynx, .ref yro, .ref ygl, .int ysn, .ref yso, .ref ysp, .ref ysw, .long ysd, .ref yik, .ref ykp])), (yno, .inl (cI, 96, .inl f_30)), (yki, .inl (cI, 5, .inl Fki))] H := hP
              have hD : va_D A [(h0, .inr (4, [.int ype, .int ytk, .ref ywi, .ref yki, .ref yse, .ref yno, .ref yrh, .ref yrw, .ref yrk, .ref yrt, .int yrp, .int yrq, .ref ytx, .int yle, .int yat, .int yfa, .ref yby, .ref ylo, .ref yhi, .int yac, .int ynx, .ref yro, .ref ygl, .int ysn, .ref yso, .ref ysp, .ref ysw, .long ysd, .ref yik, .ref ykp])), (yno, .inl (cI, 96, .inl f_30)), (yki, .inl (cI, 5, .inl Fki))] := hD
              have k48f_30 : (f_30 48).toInt = (f_28 48).toInt := by rw [← ef_30, upd_ne (by omega) (by omega)]
              exact ret_v (post := (fun (u : (Nat → Int32)) => (u 48).toInt = (Fno 48).toInt)) (W1 := (fun u => [(h0, .inr (4, [.int ype, .int ytk, .ref ywi, .ref yki, .ref yse, .ref yno, .ref yrh, .ref yrw, .ref yrk, .ref yrt, .int yrp, .int yrq, .ref ytx, .int yle, .int yat, .int yfa, .ref yby, .ref ylo, .ref yhi, .int yac, .int ynx, .ref yro, .ref ygl, .int ysn, .ref yso, .ref ysp, .ref ysw, .long ysd, .ref yik, .ref ykp])), (yno, .inl (cI, 96, .inl u)), (yki, .inl (cI, 5, .inl Fki))])) f_30 hx hb hr hlocks hQ hK hP hD hS ⟨by decide, by decide⟩ dX4_use_197 (show (f_30 48).toInt = (Fno 48).toInt by omega)
            · have tc_20 := b_eq rfl (show (2 : Int32).toInt = 2 by decide) c_20
              refine lv_aload_n hx hb dX4_use_120 rfl (lv_at hl 3 rfl) ?_
              refine va_get (D := D) (ci := 4) (v := .ref yno) (C := RX4) (T := TX4) (N := 30) hx hb hts iX4 hown hK hP 0 rfl rfl 5 (by decide) (hts (.fieldLink RX4 19 "PunchedTicketModel" "now" "[I") (List.mem_of_getElem? (i := 1) rfl)) (fun _ h9 => h9) rfl dX4_use_121 ?_
              refine lv_iload hx hb dX4_use_124 (lv_at hl 2 rfl) ?_
              refine lv_iconst (v := 3) hx hb dX4_use_126 (by decide) ?_
              refine lv_iadd hx hb dX4_use_127 ?_
              refine lv_topi (fun v_31 ev_31 => ?_)
              have tv_31 : v_31.toInt = v_4.toInt + (3 : Int) := by rw [ev_31]; exact ti_add (x := v_4) (y := 3) (show -2147483648 ≤ v_4.toInt + (3 : Int) by omega) (show v_4.toInt + (3 : Int) < 2147483648 by omega)
              refine lv_iload_n hx hb dX4_use_128 rfl (lv_at hl 5 rfl) ?_
              refine lv_iconst (v := 1) hx hb dX4_use_129 (by decide) ?_
              refine lv_iadd hx hb dX4_use_130 ?_
              refine lv_topi (fun v_32 ev_32 => ?_)
              have tv_32 : v_32.toInt = k.toInt + (1 : Int) := by rw [ev_32]; exact ti_add (x := k) (y := 1) (show -2147483648 ≤ k.toInt + (1 : Int) by omega) (show k.toInt + (1 : Int) < 2147483648 by omega)
              refine lv_aload_n hx hb dX4_use_131 rfl (lv_at hl 3 rfl) ?_
              refine va_get (D := D) (ci := 4) (v := .int ype) (C := RX4) (T := TX4) (N := 30) hx hb hts iX4 hown hK hP 0 rfl rfl 0 (by decide) (hts (.fieldLink RX4 68 "PunchedTicketModel" "people" "I") (List.mem_of_getElem? (i := 3) rfl)) (fun _ h9 => h9) rfl dX4_use_132 ?_
              refine lv_icmp_ne (tgt := 142) hx hb dX4_use_135 (by decide) (fun c_33 => ?_) (fun c_33 => ?_)
              · have tc_33 := b_ne rfl rfl c_33
                refine lv_iload_n hx hb dX4_use_142 rfl (lv_at hl 5 rfl) ?_
                refine lv_iconst (v := 1) hx hb dX4_use_143 (by decide) ?_
                refine lv_iadd hx hb dX4_use_144 ?_
                refine lv_topi (fun v_34 ev_34 => ?_)
                have tv_34 : v_34.toInt = k.toInt + (1 : Int) := by rw [ev_34]; exact ti_add (x := k) (y := 1) (show -2147483648 ≤ k.toInt + (1 : Int) by omega) (show k.toInt + (1 : Int) < 2147483648 by omega)
                refine va_iast hx hb hK hP hD hS 1 0 rfl rfl (vp_in_iff.mpr ⟨by omega, by omega⟩) dX4_use_145 (fun H locs hP hD hS => ?_)
                obtain ⟨f_35, ef_35⟩ : ∃ g : Nat → Int32, upd f_18 (v_31 : Int32).toNatClampNeg v_34 = g := ⟨_, rfl⟩
                rw [ef_35] at hP hD
                have hP : va_P D vwCl [(h0, .inr (4, [.int ype, .int ytk, .ref ywi, .ref yki, .ref yse, .ref yno, .ref yrh, .ref yrw, .ref yrk, .ref yrt, .int yrp, .int yrq, .ref ytx, .int yle, .int yat, .int yfa, .ref yby, .ref ylo, .ref yhi, .int yac, .int ynx, .ref yro, .ref ygl, .int ysn, .ref yso, .ref ysp, .ref ysw, .long ysd, .ref yik, .ref ykp])), (yno, .inl (cI, 96, .inl f_35)), (yki, .inl (cI, 5, .inl Fki))] H := hP
                have hD : va_D A [(h0, .inr (4, [.int ype, .int ytk, .ref ywi, .ref yki, .ref yse, .ref yno, .ref yrh, .ref yrw, .ref yrk, .ref yrt, .int yrp, .int yrq, .ref ytx, .int yle, .int yat, .int yfa, .ref yby, .ref ylo, .ref yhi, .int yac, .int ynx, .ref yro, .ref ygl, .int ysn, .ref yso, .ref ysp, .ref ysw, .long ysd, .ref yik, .ref ykp])), (yno, .inl (cI, 96, .inl f_35)), (yki, .inl (cI, 5, .inl Fki))] := hD
                have k48f_35 : (f_35 48).toInt = (f_18 48).toInt := by rw [← ef_35, upd_ne (by omega) (by omega)]
                exact ret_v (post := (fun (u : (Nat → Int32)) => (u 48).toInt = (Fno 48).toInt)) (W1 := (fun u => [(h0, .inr (4, [.int ype, .int ytk, .ref ywi, .ref yki, .ref yse, .ref yno, .ref yrh, .ref yrw, .ref yrk, .ref yrt, .int yrp, .int yrq, .ref ytx, .int yle, .int yat, .int yfa, .ref yby, .ref ylo, .ref yhi, .int yac, .int ynx, .ref yro, .ref ygl, .int ysn, .ref yso, .ref ysp, .ref ysw, .long ysd, .ref yik, .ref ykp])), (yno, .inl (cI, 96, .inl u)), (yki, .inl (cI, 5, .inl Fki))])) f_35 hx hb hr hlocks hQ hK hP hD hS ⟨by decide, by decide⟩ dX4_use_146 (show (f_35 48).toInt = (Fno 48).toInt by omega)
              · have tc_33 := b_eq rfl rfl c_33
                refine lv_iconst (v := 0) hx hb dX4_use_138 (by decide) ?_
                refine lv_goto (tgt := 145) hx hb dX4_use_139 (by decide) ?_
                refine va_iast hx hb hK hP hD hS 1 0 rfl rfl (vp_in_iff.mpr ⟨by omega, by omega⟩) dX4_use_145 (fun H locs hP hD hS => ?_)
                obtain ⟨f_36, ef_36⟩ : ∃ g : Nat → Int32, upd f_18 (v_31 : Int32).toNatClampNeg 0 = g := ⟨_, rfl⟩
                rw [ef_36] at hP hD
                have hP : va_P D vwCl [(h0, .inr (4, [.int ype, .int ytk, .ref ywi, .ref yki, .ref yse, .ref yno, .ref yrh, .ref yrw, .ref yrk, .ref yrt, .int yrp, .int yrq, .ref ytx, .int yle, .int yat, .int yfa, .ref yby, .ref ylo, .ref yhi, .int yac, .int ynx, .ref yro, .ref ygl, .int ysn, .ref yso, .ref ysp, .ref ysw, .long ysd, .ref yik, .ref ykp])), (yno, .inl (cI, 96, .inl f_36)), (yki, .inl (cI, 5, .inl Fki))] H := hP
                have hD : va_D A [(h0, .inr (4, [.int ype, .int ytk, .ref ywi, .ref yki, .ref yse, .ref yno, .ref yrh, .ref yrw, .ref yrk, .ref yrt, .int yrp, .int yrq, .ref ytx, .int yle, .int yat, .int yfa, .ref yby, .ref ylo, .ref yhi, .int yac, .int ynx, .ref yro, .ref ygl, .int ysn, .ref yso, .ref ysp, .ref ysw, .long ysd, .ref yik, .ref ykp])), (yno, .inl (cI, 96, .inl f_36)), (yki, .inl (cI, 5, .inl Fki))] := hD
                have k48f_36 : (f_36 48).toInt = (f_18 48).toInt := by rw [← ef_36, upd_ne (by omega) (by omega)]
                exact ret_v (post := (fun (u : (Nat → Int32)) => (u 48).toInt = (Fno 48).toInt)) (W1 := (fun u => [(h0, .inr (4, [.int ype, .int ytk, .ref ywi, .ref yki, .ref yse, .ref yno, .ref yrh, .ref yrw, .ref yrk, .ref yrt, .int yrp, .int yrq, .ref ytx, .int yle, .int yat, .int yfa, .ref yby, .ref ylo, .ref yhi, .int yac, .int ynx, .ref yro, .ref ygl, .int ysn, .ref yso, .ref ysp, .ref ysw, .long ysd, .ref yik, .ref ykp])), (yno, .inl (cI, 96, .inl u)), (yki, .inl (cI, 5, .inl Fki))])) f_36 hx hb hr hlocks hQ hK hP hD hS ⟨by decide, by decide⟩ dX4_use_146 (show (f_36 48).toInt = (Fno 48).toInt by omega)
          · have tc_17 := b_nle rfl (show (9 : Int32).toInt = 9 by decide) c_17
            refine lv_aload_n hx hb dX4_use_90 rfl (lv_at hl 3 rfl) ?_
            refine va_get (D := D) (ci := 4) (v := .ref yno) (C := RX4) (T := TX4) (N := 30) hx hb hts iX4 hown hK hP 0 rfl rfl 5 (by decide) (hts (.fieldLink RX4 19 "PunchedTicketModel" "now" "[I") (List.mem_of_getElem? (i := 1) rfl)) (fun _ h9 => h9) rfl dX4_use_91 ?_
            refine lv_iload hx hb dX4_use_94 (lv_at hl 2 rfl) ?_
            refine lv_iconst (v := 5) hx hb dX4_use_96 (by decide) ?_
            refine lv_iadd hx hb dX4_use_97 ?_
            refine lv_topi (fun v_37 ev_37 => ?_)
            have tv_37 : v_37.toInt = v_4.toInt + (5 : Int) := by rw [ev_37]; exact ti_add (x := v_4) (y := 5) (show -2147483648 ≤ v_4.toInt + (5 : Int) by omega) (show v_4.toInt + (5 : Int) < 2147483648 by omega)
            refine lv_iconst (v := 1) hx hb dX4_use_98 (by decide) ?_
            refine va_iast hx hb hK hP hD hS 1 0 rfl rfl (vp_in_iff.mpr ⟨by omega, by omega⟩) dX4_use_99 (fun H locs hP hD hS => ?_)
            obtain ⟨f_38, ef_38⟩ : ∃ g : Nat → Int32, upd Fno (v_37 : Int32).toNatClampNeg 1 = g := ⟨_, rfl⟩
            rw [ef_38] at hP hD
            have hP : va_P D vwCl [(h0, .inr (4, [.int ype, .int ytk, .ref ywi, .ref yki, .ref yse, .ref yno, .ref yrh, .ref yrw, .ref yrk, .ref yrt, .int yrp, .int yrq, .ref ytx, .int yle, .int yat, .int yfa, .ref yby, .ref ylo, .ref yhi, .int yac, .int ynx, .ref yro, .ref ygl, .int ysn, .ref yso, .ref ysp, .ref ysw, .long ysd, .ref yik, .ref ykp])), (yno, .inl (cI, 96, .inl f_38)), (yki, .inl (cI, 5, .inl Fki))] H := hP
            have hD : va_D A [(h0, .inr (4, [.int ype, .int ytk, .ref ywi, .ref yki, .ref yse, .ref yno, .ref yrh, .ref yrw, .ref yrk, .ref yrt, .int yrp, .int yrq, .ref ytx, .int yle, .int yat, .int yfa, .ref yby, .ref ylo, .ref yhi, .int yac, .int ynx, .ref yro, .ref ygl, .int ysn, .ref yso, .ref ysp, .ref ysw, .long ysd, .ref yik, .ref ykp])), (yno, .inl (cI, 96, .inl f_38)), (yki, .inl (cI, 5, .inl Fki))] := hD
            have k48f_38 : (f_38 48).toInt = (Fno 48).toInt := by rw [← ef_38, upd_ne (by omega) (by omega)]
            exact ret_v (post := (fun (u : (Nat → Int32)) => (u 48).toInt = (Fno 48).toInt)) (W1 := (fun u => [(h0, .inr (4, [.int ype, .int ytk, .ref ywi, .ref yki, .ref yse, .ref yno, .ref yrh, .ref yrw, .ref yrk, .ref yrt, .int yrp, .int yrq, .ref ytx, .int yle, .int yat, .int yfa, .ref yby, .ref ylo, .ref yhi, .int yac, .int ynx, .ref yro, .ref ygl, .int ysn, .ref yso, .ref ysp, .ref ysw, .long ysd, .ref yik, .ref ykp])), (yno, .inl (cI, 96, .inl u)), (yki, .inl (cI, 5, .inl Fki))])) f_38 hx hb hr hlocks hQ hK hP hD hS ⟨by decide, by decide⟩ dX4_use_100 (show (f_38 48).toInt = (Fno 48).toInt by omega)
    · have tc_10 := b_eq rfl (show (1 : Int32).toInt = 1 by decide) c_10
      refine lv_aload_n hx hb dX4_use_49 rfl (lv_at hl 2 rfl) ?_
      refine va_get (D := D) (ci := 4) (v := .ref yno) (C := RX4) (T := TX4) (N := 30) hx hb hts iX4 hown hK hP 0 rfl rfl 5 (by decide) (hts (.fieldLink RX4 19 "PunchedTicketModel" "now" "[I") (List.mem_of_getElem? (i := 1) rfl)) (fun _ h9 => h9) rfl dX4_use_50 ?_
      refine lv_iload hx hb dX4_use_53 (lv_at hl 1 rfl) ?_
      refine lv_iconst (v := 4) hx hb dX4_use_55 (by decide) ?_
      refine lv_iadd hx hb dX4_use_56 ?_
      refine lv_topi (fun v_39 ev_39 => ?_)
      have tv_39 : v_39.toInt = v_4.toInt + (4 : Int) := by rw [ev_39]; exact ti_add (x := v_4) (y := 4) (show -2147483648 ≤ v_4.toInt + (4 : Int) by omega) (show v_4.toInt + (4 : Int) < 2147483648 by omega)
      refine va_iald hx hb hK hP 1 0 rfl rfl (vp_in_iff.mpr ⟨by omega, by omega⟩) dX4_use_57 ?_
      refine lv_topi (fun v_40 ev_40 => ?_)
      refine lv_if_eq (tgt := 71) hx hb dX4_use_58 (by decide) (fun c_41 => ?_) (fun c_41 => ?_)
      · have tc_41 := b_eq rfl (show (0 : Int32).toInt = 0 by decide) c_41
        refine lv_iconst (v := 1) hx hb dX4_use_71 (by decide) ?_
        refine lv_goto (tgt := 76) hx hb dX4_use_72 (by decide) ?_
        refine lv_istore (lv' := [(6, .int 1), (5, .int v_8), (4, .int v_4), (0, .ref h0), (1, .int n), (2, .int k), (3, .int j)]) hx hb dX4_use_76 hl (by decide) rfl (fun ls hl => ?_)
        refine lv_iload hx hb dX4_use_78 (lv_at hl 0 rfl) ?_
        refine lv_if_eq (tgt := 90) hx hb dX4_use_80 (by decide) (fun c_42 => ?_) (fun c_42 => ?_)
        · have tc_42 := b_eq (show (1 : Int32).toInt = 1 by decide) (show (0 : Int32).toInt = 0 by decide) c_42
          exfalso; omega
        · have tc_42 := b_ne (show (1 : Int32).toInt = 1 by decide) (show (0 : Int32).toInt = 0 by decide) c_42
          refine lv_iload hx hb dX4_use_83 (lv_at hl 1 rfl) ?_
          refine lv_bipush (v := 9) hx hb dX4_use_85 (by decide) ?_
          refine lv_icmp_le (tgt := 101) hx hb dX4_use_87 (by decide) (fun c_43 => ?_) (fun c_43 => ?_)
          · have tc_43 := b_le rfl (show (9 : Int32).toInt = 9 by decide) c_43
            refine lv_aload_n hx hb dX4_use_101 rfl (lv_at hl 3 rfl) ?_
            refine va_get (D := D) (ci := 4) (v := .ref yno) (C := RX4) (T := TX4) (N := 30) hx hb hts iX4 hown hK hP 0 rfl rfl 5 (by decide) (hts (.fieldLink RX4 19 "PunchedTicketModel" "now" "[I") (List.mem_of_getElem? (i := 1) rfl)) (fun _ h9 => h9) rfl dX4_use_102 ?_
            refine lv_iload hx hb dX4_use_105 (lv_at hl 2 rfl) ?_
            refine lv_iload hx hb dX4_use_107 (lv_at hl 1 rfl) ?_
            refine va_iast hx hb hK hP hD hS 1 0 rfl rfl (vp_in_iff.mpr ⟨by omega, by omega⟩) dX4_use_109 (fun H locs hP hD hS => ?_)
            obtain ⟨f_44, ef_44⟩ : ∃ g : Nat → Int32, upd Fno (v_4 : Int32).toNatClampNeg v_8 = g := ⟨_, rfl⟩
            rw [ef_44] at hP hD
            have hP : va_P D vwCl [(h0, .inr (4, [.int ype, .int ytk, .ref ywi, .ref yki, .ref yse, .ref yno, .ref yrh, .ref yrw, .ref yrk, .ref yrt, .int yrp, .int yrq, .ref ytx, .int yle, .int yat, .int yfa, .ref yby, .ref ylo, .ref yhi, .int yac, .int ynx, .ref yro, .ref ygl, .int ysn, .ref yso, .ref ysp, .ref ysw, .long ysd, .ref yik, .ref ykp])), (yno, .inl (cI, 96, .inl f_44)), (yki, .inl (cI, 5, .inl Fki))] H := hP
            have hD : va_D A [(h0, .inr (4, [.int ype, .int ytk, .ref ywi, .ref yki, .ref yse, .ref yno, .ref yrh, .ref yrw, .ref yrk, .ref yrt, .int yrp, .int yrq, .ref ytx, .int yle, .int yat, .int yfa, .ref yby, .ref ylo, .ref yhi, .int yac, .int ynx, .ref yro, .ref ygl, .int ysn, .ref yso, .ref ysp, .ref ysw, .long ysd, .ref yik, .ref ykp])), (yno, .inl (cI, 96, .inl f_44)), (yki, .inl (cI, 5, .inl Fki))] := hD
            have k48f_44 : (f_44 48).toInt = (Fno 48).toInt := by rw [← ef_44, upd_ne (by omega) (by omega)]
            refine lv_aload_n hx hb dX4_use_110 rfl (lv_at hl 3 rfl) ?_
            refine va_get (D := D) (ci := 4) (v := .ref yki) (C := RX4) (T := TX4) (N := 30) hx hb hts iX4 hown hK hP 0 rfl rfl 3 (by decide) (hts (.fieldLink RX4 13 "PunchedTicketModel" "kind" "[I") (List.mem_of_getElem? (i := 2) rfl)) (fun _ h9 => h9) rfl dX4_use_111 ?_
            refine lv_iload_n hx hb dX4_use_114 rfl (lv_at hl 5 rfl) ?_
            refine va_iald hx hb hK hP 2 0 rfl rfl (vp_in_iff.mpr ⟨by omega, by omega⟩) dX4_use_115 ?_
            refine lv_topi (fun v_45 ev_45 => ?_)
            refine lv_iconst (v := 2) hx hb dX4_use_116 (by decide) ?_
            refine lv_icmp_ne (tgt := 147) hx hb dX4_use_117 (by decide) (fun c_46 => ?_) (fun c_46 => ?_)
            · have tc_46 := b_ne rfl (show (2 : Int32).toInt = 2 by decide) c_46
              refine lv_aload_n hx hb dX4_use_147 rfl (lv_at hl 3 rfl) ?_
              refine va_get (D := D) (ci := 4) (v := .ref yno) (C := RX4) (T := TX4) (N := 30) hx hb hts iX4 hown hK hP 0 rfl rfl 5 (by decide) (hts (.fieldLink RX4 19 "PunchedTicketModel" "now" "[I") (List.mem_of_getElem? (i := 1) rfl)) (fun _ h9 => h9) rfl dX4_use_148 ?_
              refine lv_iload hx hb dX4_use_151 (lv_at hl 2 rfl) ?_
              refine lv_iconst (v := 1) hx hb dX4_use_153 (by decide) ?_
              refine lv_iadd hx hb dX4_use_154 ?_
              refine lv_topi (fun v_47 ev_47 => ?_)
              have tv_47 : v_47.toInt = v_4.toInt + (1 : Int) := by rw [ev_47]; exact ti_add (x := v_4) (y := 1) (show -2147483648 ≤ v_4.toInt + (1 : Int) by omega) (show v_4.toInt + (1 : Int) < 2147483648 by omega)
              refine va_iald hx hb hK hP 1 0 rfl rfl (vp_in_iff.mpr ⟨by omega, by omega⟩) dX4_use_155 ?_
              refine lv_topi (fun v_48 ev_48 => ?_)
              refine lv_istore (lv' := [(7, .int v_48), (6, .int 1), (5, .int v_8), (4, .int v_4), (0, .ref h0), (1, .int n), (2, .int k), (3, .int j)]) hx hb dX4_use_156 hl (by decide) rfl (fun ls hl => ?_)
              refine lv_aload_n hx hb dX4_use_158 rfl (lv_at hl 4 rfl) ?_
              refine va_get (D := D) (ci := 4) (v := .ref yno) (C := RX4) (T := TX4) (N := 30) hx hb hts iX4 hown hK hP 0 rfl rfl 5 (by decide) (hts (.fieldLink RX4 19 "PunchedTicketModel" "now" "[I") (List.mem_of_getElem? (i := 1) rfl)) (fun _ h9 => h9) rfl dX4_use_159 ?_
              refine lv_iload hx hb dX4_use_162 (lv_at hl 3 rfl) ?_
              refine lv_iconst (v := 1) hx hb dX4_use_164 (by decide) ?_
              refine lv_iadd hx hb dX4_use_165 ?_
              refine lv_topi (fun v_49 ev_49 => ?_)
              have tv_49 : v_49.toInt = v_4.toInt + (1 : Int) := by rw [ev_49]; exact ti_add (x := v_4) (y := 1) (show -2147483648 ≤ v_4.toInt + (1 : Int) by omega) (show v_4.toInt + (1 : Int) < 2147483648 by omega)
              refine lv_aload_n hx hb dX4_use_166 rfl (lv_at hl 4 rfl) ?_
              refine va_get (D := D) (ci := 4) (v := .ref yno) (C := RX4) (T := TX4) (N := 30) hx hb hts iX4 hown hK hP 0 rfl rfl 5 (by decide) (hts (.fieldLink RX4 19 "PunchedTicketModel" "now" "[I") (List.mem_of_getElem? (i := 1) rfl)) (fun _ h9 => h9) rfl dX4_use_167 ?_
              refine lv_iload hx hb dX4_use_170 (lv_at hl 3 rfl) ?_
              refine lv_iconst (v := 2) hx hb dX4_use_172 (by decide) ?_
              refine lv_iadd hx hb dX4_use_173 ?_
              refine lv_topi (fun v_50 ev_50 => ?_)
              have tv_50 : v_50.toInt = v_4.toInt + (2 : Int) := by rw [ev_50]; exact ti_add (x := v_4) (y := 2) (show -2147483648 ≤ v_4.toInt + (2 : Int) by omega) (show v_4.toInt + (2 : Int) < 2147483648 by omega)
              refine va_iald hx hb hK hP 1 0 rfl rfl (vp_in_iff.mpr ⟨by omega, by omega⟩) dX4_use_174 ?_
              refine lv_topi (fun v_51 ev_51 => ?_)
              refine va_iast hx hb hK hP hD hS 1 0 rfl rfl (vp_in_iff.mpr ⟨by omega, by omega⟩) dX4_use_175 (fun H locs hP hD hS => ?_)
              obtain ⟨f_52, ef_52⟩ : ∃ g : Nat → Int32, upd f_44 (v_49 : Int32).toNatClampNeg v_51 = g := ⟨_, rfl⟩
              rw [ef_52] at hP hD
              have hP : va_P D vwCl [(h0, .inr (4, [.int ype, .int ytk, .ref ywi, .ref yki, .ref yse, .ref yno, .ref yrh, .ref yrw, .ref yrk, .ref yrt, .int yrp, .int yrq, .ref ytx, .int yle, .int yat, .int yfa, .ref yby, .ref ylo, .ref yhi, .int yac, .int ynx, .ref yro, .ref ygl, .int ysn, .ref yso, .ref ysp, .ref ysw, .long ysd, .ref yik, .ref ykp])), (yno, .inl (cI, 96, .inl f_52)), (yki, .inl (cI, 5, .inl Fki))] H := hP
              have hD : va_D A [(h0, .inr (4, [.int ype, .int ytk, .ref ywi, .ref yki, .ref yse, .ref yno, .ref yrh, .ref yrw, .ref yrk, .ref yrt, .int yrp, .int yrq, .ref ytx, .int yle, .int yat, .int yfa, .ref yby, .ref ylo, .ref yhi, .int yac, .int ynx, .ref yro, .ref ygl, .int ysn, .ref yso, .ref ysp, .ref ysw, .long ysd, .ref yik, .ref ykp])), (yno, .inl (cI, 96, .inl f_52)), (yki, .inl (cI, 5, .inl Fki))] := hD
              have k48f_52 : (f_52 48).toInt = (f_44 48).toInt := by rw [← ef_52, upd_ne (by omega) (by omega)]
              refine lv_aload_n hx hb dX4_use_176 rfl (lv_at hl 4 rfl) ?_
              refine va_get (D := D) (ci := 4) (v := .ref yno) (C := RX4) (T := TX4) (N := 30) hx hb hts iX4 hown hK hP 0 rfl rfl 5 (by decide) (hts (.fieldLink RX4 19 "PunchedTicketModel" "now" "[I") (List.mem_of_getElem? (i := 1) rfl)) (fun _ h9 => h9) rfl dX4_use_177 ?_
              refine lv_iload hx hb dX4_use_180 (lv_at hl 3 rfl) ?_
              refine lv_iconst (v := 2) hx hb dX4_use_182 (by decide) ?_
              refine lv_iadd hx hb dX4_use_183 ?_
              refine lv_topi (fun v_53 ev_53 => ?_)
              have tv_53 : v_53.toInt = v_4.toInt + (2 : Int) := by rw [ev_53]; exact ti_add (x := v_4) (y := 2) (show -2147483648 ≤ v_4.toInt + (2 : Int) by omega) (show v_4.toInt + (2 : Int) < 2147483648 by omega)
              refine lv_iload hx hb dX4_use_184 (lv_at hl 0 rfl) ?_
              refine va_iast hx hb hK hP hD hS 1 0 rfl rfl (vp_in_iff.mpr ⟨by omega, by omega⟩) dX4_use_186 (fun H locs hP hD hS => ?_)
              obtain ⟨f_54, ef_54⟩ : ∃ g : Nat → Int32, upd f_52 (v_53 : Int32).toNatClampNeg v_48 = g := ⟨_, rfl⟩
              rw [ef_54] at hP hD
              have hP : va_P D vwCl [(h0, .inr (4, [.int ype, .int ytk, .ref ywi, .ref yki, .ref yse, .ref yno, .ref yrh, .ref yrw, .ref yrk, .ref yrt, .int yrp, .int yrq, .ref ytx, .int yle, .int yat, .int yfa, .ref yby, .ref ylo, .ref yhi, .int yac, .int ynx, .ref yro, .ref ygl, .int ysn, .ref yso, .ref ysp, .ref ysw, .long ysd, .ref yik, .ref ykp])), (yno, .inl (cI, 96, .inl f_54)), (yki, .inl (cI, 5, .inl Fki))] H := hP
              have hD : va_D A [(h0, .inr (4, [.int ype, .int ytk, .ref ywi, .ref yki, .ref yse, .ref yno, .ref yrh, .ref yrw, .ref yrk, .ref yrt, .int yrp, .int yrq, .ref ytx, .int yle, .int yat, .int yfa, .ref yby, .ref ylo, .ref yhi, .int yac, .int ynx, .ref yro, .ref ygl, .int ysn, .ref yso, .ref ysp, .ref ysw, .long ysd, .ref yik, .ref ykp])), (yno, .inl (cI, 96, .inl f_54)), (yki, .inl (cI, 5, .inl Fki))] := hD
              have k48f_54 : (f_54 48).toInt = (f_52 48).toInt := by rw [← ef_54, upd_ne (by omega) (by omega)]
              refine lv_aload_n hx hb dX4_use_187 rfl (lv_at hl 4 rfl) ?_
              refine va_get (D := D) (ci := 4) (v := .ref yno) (C := RX4) (T := TX4) (N := 30) hx hb hts iX4 hown hK hP 0 rfl rfl 5 (by decide) (hts (.fieldLink RX4 19 "PunchedTicketModel" "now" "[I") (List.mem_of_getElem? (i := 1) rfl)) (fun _ h9 => h9) rfl dX4_use_188 ?_
              refine lv_iload hx hb dX4_use_191 (lv_at hl 3 rfl) ?_
              refine lv_iconst (v := 4) hx hb dX4_use_193 (by decide) ?_
              refine lv_iadd hx hb dX4_use_194 ?_
              refine lv_topi (fun v_55 ev_55 => ?_)
              have tv_55 : v_55.toInt = v_4.toInt + (4 : Int) := by rw [ev_55]; exact ti_add (x := v_4) (y := 4) (show -2147483648 ≤ v_4.toInt + (4 : Int) by omega) (show v_4.toInt + (4 : Int) < 2147483648 by omega)
              refine lv_iconst (v := 1) hx hb dX4_use_195 (by decide) ?_
              refine va_iast hx hb hK hP hD hS 1 0 rfl rfl (vp_in_iff.mpr ⟨by omega, by omega⟩) dX4_use_196 (fun H locs hP hD hS => ?_)
              obtain ⟨f_56, ef_56⟩ : ∃ g : Nat → Int32, upd f_54 (v_55 : Int32).toNatClampNeg 1 = g := ⟨_, rfl⟩
              rw [ef_56] at hP hD
              have hP : va_P D vwCl [(h0, .inr (4, [.int ype, .int ytk, .ref ywi, .ref yki, .ref yse, .ref yno, .ref yrh, .ref yrw, .ref yrk, .ref yrt, .int yrp, .int yrq, .ref ytx, .int yle, .int yat, .int yfa, .ref yby, .ref ylo, .ref yhi, .int yac, .int ynx, .ref yro, .ref ygl, .int ysn, .ref yso, .ref ysp, .ref ysw, .long ysd, .ref yik, .ref ykp])), (yno, .inl (cI, 96, .inl f_56)), (yki, .inl (cI, 5, .inl Fki))] H := hP
              have hD : va_D A [(h0, .inr (4, [.int ype, .int ytk, .ref ywi, .ref yki, .ref yse, .ref yno, .ref yrh, .ref yrw, .ref yrk, .ref yrt, .int yrp, .int yrq, .ref ytx, .int yle, .int yat, .int yfa, .ref yby, .ref ylo, .ref yhi, .int yac, .int ynx, .ref yro, .ref ygl, .int ysn, .ref yso, .ref ysp, .ref ysw, .long ysd, .ref yik, .ref ykp])), (yno, .inl (cI, 96, .inl f_56)), (yki, .inl (cI, 5, .inl Fki))] := hD
              have k48f_56 : (f_56 48).toInt = (f_54 48).toInt := by rw [← ef_56, upd_ne (by omega) (by omega)]
              exact ret_v (post := (fun (u : (Nat → Int32)) => (u 48).toInt = (Fno 48).toInt)) (W1 := (fun u => [(h0, .inr (4, [.int ype, .int ytk, .ref ywi, .ref yki, .ref yse, .ref yno, .ref yrh, .ref yrw, .ref yrk, .ref yrt, .int yrp, .int yrq, .ref ytx, .int yle, .int yat, .int yfa, .ref yby, .ref ylo, .ref yhi, .int yac, .int ynx, .ref yro, .ref ygl, .int ysn, .ref yso, .ref ysp, .ref ysw, .long ysd, .ref yik, .ref ykp])), (yno, .inl (cI, 96, .inl u)), (yki, .inl (cI, 5, .inl Fki))])) f_56 hx hb hr hlocks hQ hK hP hD hS ⟨by decide, by decide⟩ dX4_use_197 (show (f_56 48).toInt = (Fno 48).toInt by omega)
            · have tc_46 := b_eq rfl (show (2 : Int32).toInt = 2 by decide) c_46
              refine lv_aload_n hx hb dX4_use_120 rfl (lv_at hl 3 rfl) ?_
              refine va_get (D := D) (ci := 4) (v := .ref yno) (C := RX4) (T := TX4) (N := 30) hx hb hts iX4 hown hK hP 0 rfl rfl 5 (by decide) (hts (.fieldLink RX4 19 "PunchedTicketModel" "now" "[I") (List.mem_of_getElem? (i := 1) rfl)) (fun _ h9 => h9) rfl dX4_use_121 ?_
              refine lv_iload hx hb dX4_use_124 (lv_at hl 2 rfl) ?_
              refine lv_iconst (v := 3) hx hb dX4_use_126 (by decide) ?_
              refine lv_iadd hx hb dX4_use_127 ?_
              refine lv_topi (fun v_57 ev_57 => ?_)
              have tv_57 : v_57.toInt = v_4.toInt + (3 : Int) := by rw [ev_57]; exact ti_add (x := v_4) (y := 3) (show -2147483648 ≤ v_4.toInt + (3 : Int) by omega) (show v_4.toInt + (3 : Int) < 2147483648 by omega)
              refine lv_iload_n hx hb dX4_use_128 rfl (lv_at hl 5 rfl) ?_
              refine lv_iconst (v := 1) hx hb dX4_use_129 (by decide) ?_
              refine lv_iadd hx hb dX4_use_130 ?_
              refine lv_topi (fun v_58 ev_58 => ?_)
              have tv_58 : v_58.toInt = k.toInt + (1 : Int) := by rw [ev_58]; exact ti_add (x := k) (y := 1) (show -2147483648 ≤ k.toInt + (1 : Int) by omega) (show k.toInt + (1 : Int) < 2147483648 by omega)
              refine lv_aload_n hx hb dX4_use_131 rfl (lv_at hl 3 rfl) ?_
              refine va_get (D := D) (ci := 4) (v := .int ype) (C := RX4) (T := TX4) (N := 30) hx hb hts iX4 hown hK hP 0 rfl rfl 0 (by decide) (hts (.fieldLink RX4 68 "PunchedTicketModel" "people" "I") (List.mem_of_getElem? (i := 3) rfl)) (fun _ h9 => h9) rfl dX4_use_132 ?_
              refine lv_icmp_ne (tgt := 142) hx hb dX4_use_135 (by decide) (fun c_59 => ?_) (fun c_59 => ?_)
              · have tc_59 := b_ne rfl rfl c_59
                refine lv_iload_n hx hb dX4_use_142 rfl (lv_at hl 5 rfl) ?_
                refine lv_iconst (v := 1) hx hb dX4_use_143 (by decide) ?_
                refine lv_iadd hx hb dX4_use_144 ?_
                refine lv_topi (fun v_60 ev_60 => ?_)
                have tv_60 : v_60.toInt = k.toInt + (1 : Int) := by rw [ev_60]; exact ti_add (x := k) (y := 1) (show -2147483648 ≤ k.toInt + (1 : Int) by omega) (show k.toInt + (1 : Int) < 2147483648 by omega)
                refine va_iast hx hb hK hP hD hS 1 0 rfl rfl (vp_in_iff.mpr ⟨by omega, by omega⟩) dX4_use_145 (fun H locs hP hD hS => ?_)
                obtain ⟨f_61, ef_61⟩ : ∃ g : Nat → Int32, upd f_44 (v_57 : Int32).toNatClampNeg v_60 = g := ⟨_, rfl⟩
                rw [ef_61] at hP hD
                have hP : va_P D vwCl [(h0, .inr (4, [.int ype, .int ytk, .ref ywi, .ref yki, .ref yse, .ref yno, .ref yrh, .ref yrw, .ref yrk, .ref yrt, .int yrp, .int yrq, .ref ytx, .int yle, .int yat, .int yfa, .ref yby, .ref ylo, .ref yhi, .int yac, .int ynx, .ref yro, .ref ygl, .int ysn, .ref yso, .ref ysp, .ref ysw, .long ysd, .ref yik, .ref ykp])), (yno, .inl (cI, 96, .inl f_61)), (yki, .inl (cI, 5, .inl Fki))] H := hP
                have hD : va_D A [(h0, .inr (4, [.int ype, .int ytk, .ref ywi, .ref yki, .ref yse, .ref yno, .ref yrh, .ref yrw, .ref yrk, .ref yrt, .int yrp, .int yrq, .ref ytx, .int yle, .int yat, .int yfa, .ref yby, .ref ylo, .ref yhi, .int yac, .int ynx, .ref yro, .ref ygl, .int ysn, .ref yso, .ref ysp, .ref ysw, .long ysd, .ref yik, .ref ykp])), (yno, .inl (cI, 96, .inl f_61)), (yki, .inl (cI, 5, .inl Fki))] := hD
                have k48f_61 : (f_61 48).toInt = (f_44 48).toInt := by rw [← ef_61, upd_ne (by omega) (by omega)]
                exact ret_v (post := (fun (u : (Nat → Int32)) => (u 48).toInt = (Fno 48).toInt)) (W1 := (fun u => [(h0, .inr (4, [.int ype, .int ytk, .ref ywi, .ref yki, .ref yse, .ref yno, .ref yrh, .ref yrw, .ref yrk, .ref yrt, .int yrp, .int yrq, .ref ytx, .int yle, .int yat, .int yfa, .ref yby, .ref ylo, .ref yhi, .int yac, .int ynx, .ref yro, .ref ygl, .int ysn, .ref yso, .ref ysp, .ref ysw, .long ysd, .ref yik, .ref ykp])), (yno, .inl (cI, 96, .inl u)), (yki, .inl (cI, 5, .inl Fki))])) f_61 hx hb hr hlocks hQ hK hP hD hS ⟨by decide, by decide⟩ dX4_use_146 (show (f_61 48).toInt = (Fno 48).toInt by omega)
              · have tc_59 := b_eq rfl rfl c_59
                refine lv_iconst (v := 0) hx hb dX4_use_138 (by decide) ?_
                refine lv_goto (tgt := 145) hx hb dX4_use_139 (by decide) ?_
                refine va_iast hx hb hK hP hD hS 1 0 rfl rfl (vp_in_iff.mpr ⟨by omega, by omega⟩) dX4_use_145 (fun H locs hP hD hS => ?_)
                obtain ⟨f_62, ef_62⟩ : ∃ g : Nat → Int32, upd f_44 (v_57 : Int32).toNatClampNeg 0 = g := ⟨_, rfl⟩
                rw [ef_62] at hP hD
                have hP : va_P D vwCl [(h0, .inr (4, [.int ype, .int ytk, .ref ywi, .ref yki, .ref yse, .ref yno, .ref yrh, .ref yrw, .ref yrk, .ref yrt, .int yrp, .int yrq, .ref ytx, .int yle, .int yat, .int yfa, .ref yby, .ref ylo, .ref yhi, .int yac, .int ynx, .ref yro, .ref ygl, .int ysn, .ref yso, .ref ysp, .ref ysw, .long ysd, .ref yik, .ref ykp])), (yno, .inl (cI, 96, .inl f_62)), (yki, .inl (cI, 5, .inl Fki))] H := hP
                have hD : va_D A [(h0, .inr (4, [.int ype, .int ytk, .ref ywi, .ref yki, .ref yse, .ref yno, .ref yrh, .ref yrw, .ref yrk, .ref yrt, .int yrp, .int yrq, .ref ytx, .int yle, .int yat, .int yfa, .ref yby, .ref ylo, .ref yhi, .int yac, .int ynx, .ref yro, .ref ygl, .int ysn, .ref yso, .ref ysp, .ref ysw, .long ysd, .ref yik, .ref ykp])), (yno, .inl (cI, 96, .inl f_62)), (yki, .inl (cI, 5, .inl Fki))] := hD
                have k48f_62 : (f_62 48).toInt = (f_44 48).toInt := by rw [← ef_62, upd_ne (by omega) (by omega)]
                exact ret_v (post := (fun (u : (Nat → Int32)) => (u 48).toInt = (Fno 48).toInt)) (W1 := (fun u => [(h0, .inr (4, [.int ype, .int ytk, .ref ywi, .ref yki, .ref yse, .ref yno, .ref yrh, .ref yrw, .ref yrk, .ref yrt, .int yrp, .int yrq, .ref ytx, .int yle, .int yat, .int yfa, .ref yby, .ref ylo, .ref yhi, .int yac, .int ynx, .ref yro, .ref ygl, .int ysn, .ref yso, .ref ysp, .ref ysw, .long ysd, .ref yik, .ref ykp])), (yno, .inl (cI, 96, .inl u)), (yki, .inl (cI, 5, .inl Fki))])) f_62 hx hb hr hlocks hQ hK hP hD hS ⟨by decide, by decide⟩ dX4_use_146 (show (f_62 48).toInt = (Fno 48).toInt by omega)
          · have tc_43 := b_nle rfl (show (9 : Int32).toInt = 9 by decide) c_43
            refine lv_aload_n hx hb dX4_use_90 rfl (lv_at hl 3 rfl) ?_
            refine va_get (D := D) (ci := 4) (v := .ref yno) (C := RX4) (T := TX4) (N := 30) hx hb hts iX4 hown hK hP 0 rfl rfl 5 (by decide) (hts (.fieldLink RX4 19 "PunchedTicketModel" "now" "[I") (List.mem_of_getElem? (i := 1) rfl)) (fun _ h9 => h9) rfl dX4_use_91 ?_
            refine lv_iload hx hb dX4_use_94 (lv_at hl 2 rfl) ?_
            refine lv_iconst (v := 5) hx hb dX4_use_96 (by decide) ?_
            refine lv_iadd hx hb dX4_use_97 ?_
            refine lv_topi (fun v_63 ev_63 => ?_)
            have tv_63 : v_63.toInt = v_4.toInt + (5 : Int) := by rw [ev_63]; exact ti_add (x := v_4) (y := 5) (show -2147483648 ≤ v_4.toInt + (5 : Int) by omega) (show v_4.toInt + (5 : Int) < 2147483648 by omega)
            refine lv_iconst (v := 1) hx hb dX4_use_98 (by decide) ?_
            refine va_iast hx hb hK hP hD hS 1 0 rfl rfl (vp_in_iff.mpr ⟨by omega, by omega⟩) dX4_use_99 (fun H locs hP hD hS => ?_)
            obtain ⟨f_64, ef_64⟩ : ∃ g : Nat → Int32, upd Fno (v_63 : Int32).toNatClampNeg 1 = g := ⟨_, rfl⟩
            rw [ef_64] at hP hD
            have hP : va_P D vwCl [(h0, .inr (4, [.int ype, .int ytk, .ref ywi, .ref yki, .ref yse, .ref yno, .ref yrh, .ref yrw, .ref yrk, .ref yrt, .int yrp, .int yrq, .ref ytx, .int yle, .int yat, .int yfa, .ref yby, .ref ylo, .ref yhi, .int yac, .int ynx, .ref yro, .ref ygl, .int ysn, .ref yso, .ref ysp, .ref ysw, .long ysd, .ref yik, .ref ykp])), (yno, .inl (cI, 96, .inl f_64)), (yki, .inl (cI, 5, .inl Fki))] H := hP
            have hD : va_D A [(h0, .inr (4, [.int ype, .int ytk, .ref ywi, .ref yki, .ref yse, .ref yno, .ref yrh, .ref yrw, .ref yrk, .ref yrt, .int yrp, .int yrq, .ref ytx, .int yle, .int yat, .int yfa, .ref yby, .ref ylo, .ref yhi, .int yac, .int ynx, .ref yro, .ref ygl, .int ysn, .ref yso, .ref ysp, .ref ysw, .long ysd, .ref yik, .ref ykp])), (yno, .inl (cI, 96, .inl f_64)), (yki, .inl (cI, 5, .inl Fki))] := hD
            have k48f_64 : (f_64 48).toInt = (Fno 48).toInt := by rw [← ef_64, upd_ne (by omega) (by omega)]
            exact ret_v (post := (fun (u : (Nat → Int32)) => (u 48).toInt = (Fno 48).toInt)) (W1 := (fun u => [(h0, .inr (4, [.int ype, .int ytk, .ref ywi, .ref yki, .ref yse, .ref yno, .ref yrh, .ref yrw, .ref yrk, .ref yrt, .int yrp, .int yrq, .ref ytx, .int yle, .int yat, .int yfa, .ref yby, .ref ylo, .ref yhi, .int yac, .int ynx, .ref yro, .ref ygl, .int ysn, .ref yso, .ref ysp, .ref ysw, .long ysd, .ref yik, .ref ykp])), (yno, .inl (cI, 96, .inl u)), (yki, .inl (cI, 5, .inl Fki))])) f_64 hx hb hr hlocks hQ hK hP hD hS ⟨by decide, by decide⟩ dX4_use_100 (show (f_64 48).toInt = (Fno 48).toInt by omega)
      · have tc_41 := b_ne rfl (show (0 : Int32).toInt = 0 by decide) c_41
        refine lv_aload_n hx hb dX4_use_61 rfl (lv_at hl 2 rfl) ?_
        refine va_get (D := D) (ci := 4) (v := .ref yki) (C := RX4) (T := TX4) (N := 30) hx hb hts iX4 hown hK hP 0 rfl rfl 3 (by decide) (hts (.fieldLink RX4 13 "PunchedTicketModel" "kind" "[I") (List.mem_of_getElem? (i := 2) rfl)) (fun _ h9 => h9) rfl dX4_use_62 ?_
        refine lv_iload_n hx hb dX4_use_65 rfl (lv_at hl 4 rfl) ?_
        refine va_iald hx hb hK hP 2 0 rfl rfl (vp_in_iff.mpr ⟨by omega, by omega⟩) dX4_use_66 ?_
        refine lv_topi (fun v_65 ev_65 => ?_)
        refine lv_iconst (v := 2) hx hb dX4_use_67 (by decide) ?_
        refine lv_icmp_ne (tgt := 75) hx hb dX4_use_68 (by decide) (fun c_66 => ?_) (fun c_66 => ?_)
        · have tc_66 := b_ne rfl (show (2 : Int32).toInt = 2 by decide) c_66
          refine lv_iconst (v := 0) hx hb dX4_use_75 (by decide) ?_
          refine lv_istore (lv' := [(6, .int 0), (5, .int v_8), (4, .int v_4), (0, .ref h0), (1, .int n), (2, .int k), (3, .int j)]) hx hb dX4_use_76 hl (by decide) rfl (fun ls hl => ?_)
          refine lv_iload hx hb dX4_use_78 (lv_at hl 0 rfl) ?_
          refine lv_if_eq (tgt := 90) hx hb dX4_use_80 (by decide) (fun c_67 => ?_) (fun c_67 => ?_)
          · have tc_67 := b_eq (show (0 : Int32).toInt = 0 by decide) (show (0 : Int32).toInt = 0 by decide) c_67
            refine lv_aload_n hx hb dX4_use_90 rfl (lv_at hl 3 rfl) ?_
            refine va_get (D := D) (ci := 4) (v := .ref yno) (C := RX4) (T := TX4) (N := 30) hx hb hts iX4 hown hK hP 0 rfl rfl 5 (by decide) (hts (.fieldLink RX4 19 "PunchedTicketModel" "now" "[I") (List.mem_of_getElem? (i := 1) rfl)) (fun _ h9 => h9) rfl dX4_use_91 ?_
            refine lv_iload hx hb dX4_use_94 (lv_at hl 2 rfl) ?_
            refine lv_iconst (v := 5) hx hb dX4_use_96 (by decide) ?_
            refine lv_iadd hx hb dX4_use_97 ?_
            refine lv_topi (fun v_68 ev_68 => ?_)
            have tv_68 : v_68.toInt = v_4.toInt + (5 : Int) := by rw [ev_68]; exact ti_add (x := v_4) (y := 5) (show -2147483648 ≤ v_4.toInt + (5 : Int) by omega) (show v_4.toInt + (5 : Int) < 2147483648 by omega)
            refine lv_iconst (v := 1) hx hb dX4_use_98 (by decide) ?_
            refine va_iast hx hb hK hP hD hS 1 0 rfl rfl (vp_in_iff.mpr ⟨by omega, by omega⟩) dX4_use_99 (fun H locs hP hD hS => ?_)
            obtain ⟨f_69, ef_69⟩ : ∃ g : Nat → Int32, upd Fno (v_68 : Int32).toNatClampNeg 1 = g := ⟨_, rfl⟩
            rw [ef_69] at hP hD
            have hP : va_P D vwCl [(h0, .inr (4, [.int ype, .int ytk, .ref ywi, .ref yki, .ref yse, .ref yno, .ref yrh, .ref yrw, .ref yrk, .ref yrt, .int yrp, .int yrq, .ref ytx, .int yle, .int yat, .int yfa, .ref yby, .ref ylo, .ref yhi, .int yac, .int ynx, .ref yro, .ref ygl, .int ysn, .ref yso, .ref ysp, .ref ysw, .long ysd, .ref yik, .ref ykp])), (yno, .inl (cI, 96, .inl f_69)), (yki, .inl (cI, 5, .inl Fki))] H := hP
            have hD : va_D A [(h0, .inr (4, [.int ype, .int ytk, .ref ywi, .ref yki, .ref yse, .ref yno, .ref yrh, .ref yrw, .ref yrk, .ref yrt, .int yrp, .int yrq, .ref ytx, .int yle, .int yat, .int yfa, .ref yby, .ref ylo, .ref yhi, .int yac, .int ynx, .ref yro, .ref ygl, .int ysn, .ref yso, .ref ysp, .ref ysw, .long ysd, .ref yik, .ref ykp])), (yno, .inl (cI, 96, .inl f_69)), (yki, .inl (cI, 5, .inl Fki))] := hD
            have k48f_69 : (f_69 48).toInt = (Fno 48).toInt := by rw [← ef_69, upd_ne (by omega) (by omega)]
            exact ret_v (post := (fun (u : (Nat → Int32)) => (u 48).toInt = (Fno 48).toInt)) (W1 := (fun u => [(h0, .inr (4, [.int ype, .int ytk, .ref ywi, .ref yki, .ref yse, .ref yno, .ref yrh, .ref yrw, .ref yrk, .ref yrt, .int yrp, .int yrq, .ref ytx, .int yle, .int yat, .int yfa, .ref yby, .ref ylo, .ref yhi, .int yac, .int ynx, .ref yro, .ref ygl, .int ysn, .ref yso, .ref ysp, .ref ysw, .long ysd, .ref yik, .ref ykp])), (yno, .inl (cI, 96, .inl u)), (yki, .inl (cI, 5, .inl Fki))])) f_69 hx hb hr hlocks hQ hK hP hD hS ⟨by decide, by decide⟩ dX4_use_100 (show (f_69 48).toInt = (Fno 48).toInt by omega)
          · have tc_67 := b_ne (show (0 : Int32).toInt = 0 by decide) (show (0 : Int32).toInt = 0 by decide) c_67
            exfalso; omega
        · have tc_66 := b_eq rfl (show (2 : Int32).toInt = 2 by decide) c_66
          refine lv_iconst (v := 1) hx hb dX4_use_71 (by decide) ?_
          refine lv_goto (tgt := 76) hx hb dX4_use_72 (by decide) ?_
          refine lv_istore (lv' := [(6, .int 1), (5, .int v_8), (4, .int v_4), (0, .ref h0), (1, .int n), (2, .int k), (3, .int j)]) hx hb dX4_use_76 hl (by decide) rfl (fun ls hl => ?_)
          refine lv_iload hx hb dX4_use_78 (lv_at hl 0 rfl) ?_
          refine lv_if_eq (tgt := 90) hx hb dX4_use_80 (by decide) (fun c_70 => ?_) (fun c_70 => ?_)
          · have tc_70 := b_eq (show (1 : Int32).toInt = 1 by decide) (show (0 : Int32).toInt = 0 by decide) c_70
            exfalso; omega
          · have tc_70 := b_ne (show (1 : Int32).toInt = 1 by decide) (show (0 : Int32).toInt = 0 by decide) c_70
            refine lv_iload hx hb dX4_use_83 (lv_at hl 1 rfl) ?_
            refine lv_bipush (v := 9) hx hb dX4_use_85 (by decide) ?_
            refine lv_icmp_le (tgt := 101) hx hb dX4_use_87 (by decide) (fun c_71 => ?_) (fun c_71 => ?_)
            · have tc_71 := b_le rfl (show (9 : Int32).toInt = 9 by decide) c_71
              refine lv_aload_n hx hb dX4_use_101 rfl (lv_at hl 3 rfl) ?_
              refine va_get (D := D) (ci := 4) (v := .ref yno) (C := RX4) (T := TX4) (N := 30) hx hb hts iX4 hown hK hP 0 rfl rfl 5 (by decide) (hts (.fieldLink RX4 19 "PunchedTicketModel" "now" "[I") (List.mem_of_getElem? (i := 1) rfl)) (fun _ h9 => h9) rfl dX4_use_102 ?_
              refine lv_iload hx hb dX4_use_105 (lv_at hl 2 rfl) ?_
              refine lv_iload hx hb dX4_use_107 (lv_at hl 1 rfl) ?_
              refine va_iast hx hb hK hP hD hS 1 0 rfl rfl (vp_in_iff.mpr ⟨by omega, by omega⟩) dX4_use_109 (fun H locs hP hD hS => ?_)
              obtain ⟨f_72, ef_72⟩ : ∃ g : Nat → Int32, upd Fno (v_4 : Int32).toNatClampNeg v_8 = g := ⟨_, rfl⟩
              rw [ef_72] at hP hD
              have hP : va_P D vwCl [(h0, .inr (4, [.int ype, .int ytk, .ref ywi, .ref yki, .ref yse, .ref yno, .ref yrh, .ref yrw, .ref yrk, .ref yrt, .int yrp, .int yrq, .ref ytx, .int yle, .int yat, .int yfa, .ref yby, .ref ylo, .ref yhi, .int yac, .int ynx, .ref yro, .ref ygl, .int ysn, .ref yso, .ref ysp, .ref ysw, .long ysd, .ref yik, .ref ykp])), (yno, .inl (cI, 96, .inl f_72)), (yki, .inl (cI, 5, .inl Fki))] H := hP
              have hD : va_D A [(h0, .inr (4, [.int ype, .int ytk, .ref ywi, .ref yki, .ref yse, .ref yno, .ref yrh, .ref yrw, .ref yrk, .ref yrt, .int yrp, .int yrq, .ref ytx, .int yle, .int yat, .int yfa, .ref yby, .ref ylo, .ref yhi, .int yac, .int ynx, .ref yro, .ref ygl, .int ysn, .ref yso, .ref ysp, .ref ysw, .long ysd, .ref yik, .ref ykp])), (yno, .inl (cI, 96, .inl f_72)), (yki, .inl (cI, 5, .inl Fki))] := hD
              have k48f_72 : (f_72 48).toInt = (Fno 48).toInt := by rw [← ef_72, upd_ne (by omega) (by omega)]
              refine lv_aload_n hx hb dX4_use_110 rfl (lv_at hl 3 rfl) ?_
              refine va_get (D := D) (ci := 4) (v := .ref yki) (C := RX4) (T := TX4) (N := 30) hx hb hts iX4 hown hK hP 0 rfl rfl 3 (by decide) (hts (.fieldLink RX4 13 "PunchedTicketModel" "kind" "[I") (List.mem_of_getElem? (i := 2) rfl)) (fun _ h9 => h9) rfl dX4_use_111 ?_
              refine lv_iload_n hx hb dX4_use_114 rfl (lv_at hl 5 rfl) ?_
              refine va_iald hx hb hK hP 2 0 rfl rfl (vp_in_iff.mpr ⟨by omega, by omega⟩) dX4_use_115 ?_
              refine lv_topi (fun v_73 ev_73 => ?_)
              refine lv_iconst (v := 2) hx hb dX4_use_116 (by decide) ?_
              refine lv_icmp_ne (tgt := 147) hx hb dX4_use_117 (by decide) (fun c_74 => ?_) (fun c_74 => ?_)
              · have tc_74 := b_ne rfl (show (2 : Int32).toInt = 2 by decide) c_74
                refine lv_aload_n hx hb dX4_use_147 rfl (lv_at hl 3 rfl) ?_
                refine va_get (D := D) (ci := 4) (v := .ref yno) (C := RX4) (T := TX4) (N := 30) hx hb hts iX4 hown hK hP 0 rfl rfl 5 (by decide) (hts (.fieldLink RX4 19 "PunchedTicketModel" "now" "[I") (List.mem_of_getElem? (i := 1) rfl)) (fun _ h9 => h9) rfl dX4_use_148 ?_
                refine lv_iload hx hb dX4_use_151 (lv_at hl 2 rfl) ?_
                refine lv_iconst (v := 1) hx hb dX4_use_153 (by decide) ?_
                refine lv_iadd hx hb dX4_use_154 ?_
                refine lv_topi (fun v_75 ev_75 => ?_)
                have tv_75 : v_75.toInt = v_4.toInt + (1 : Int) := by rw [ev_75]; exact ti_add (x := v_4) (y := 1) (show -2147483648 ≤ v_4.toInt + (1 : Int) by omega) (show v_4.toInt + (1 : Int) < 2147483648 by omega)
                refine va_iald hx hb hK hP 1 0 rfl rfl (vp_in_iff.mpr ⟨by omega, by omega⟩) dX4_use_155 ?_
                refine lv_topi (fun v_76 ev_76 => ?_)
                refine lv_istore (lv' := [(7, .int v_76), (6, .int 1), (5, .int v_8), (4, .int v_4), (0, .ref h0), (1, .int n), (2, .int k), (3, .int j)]) hx hb dX4_use_156 hl (by decide) rfl (fun ls hl => ?_)
                refine lv_aload_n hx hb dX4_use_158 rfl (lv_at hl 4 rfl) ?_
                refine va_get (D := D) (ci := 4) (v := .ref yno) (C := RX4) (T := TX4) (N := 30) hx hb hts iX4 hown hK hP 0 rfl rfl 5 (by decide) (hts (.fieldLink RX4 19 "PunchedTicketModel" "now" "[I") (List.mem_of_getElem? (i := 1) rfl)) (fun _ h9 => h9) rfl dX4_use_159 ?_
                refine lv_iload hx hb dX4_use_162 (lv_at hl 3 rfl) ?_
                refine lv_iconst (v := 1) hx hb dX4_use_164 (by decide) ?_
                refine lv_iadd hx hb dX4_use_165 ?_
                refine lv_topi (fun v_77 ev_77 => ?_)
                have tv_77 : v_77.toInt = v_4.toInt + (1 : Int) := by rw [ev_77]; exact ti_add (x := v_4) (y := 1) (show -2147483648 ≤ v_4.toInt + (1 : Int) by omega) (show v_4.toInt + (1 : Int) < 2147483648 by omega)
                refine lv_aload_n hx hb dX4_use_166 rfl (lv_at hl 4 rfl) ?_
                refine va_get (D := D) (ci := 4) (v := .ref yno) (C := RX4) (T := TX4) (N := 30) hx hb hts iX4 hown hK hP 0 rfl rfl 5 (by decide) (hts (.fieldLink RX4 19 "PunchedTicketModel" "now" "[I") (List.mem_of_getElem? (i := 1) rfl)) (fun _ h9 => h9) rfl dX4_use_167 ?_
                refine lv_iload hx hb dX4_use_170 (lv_at hl 3 rfl) ?_
                refine lv_iconst (v := 2) hx hb dX4_use_172 (by decide) ?_
                refine lv_iadd hx hb dX4_use_173 ?_
                refine lv_topi (fun v_78 ev_78 => ?_)
                have tv_78 : v_78.toInt = v_4.toInt + (2 : Int) := by rw [ev_78]; exact ti_add (x := v_4) (y := 2) (show -2147483648 ≤ v_4.toInt + (2 : Int) by omega) (show v_4.toInt + (2 : Int) < 2147483648 by omega)
                refine va_iald hx hb hK hP 1 0 rfl rfl (vp_in_iff.mpr ⟨by omega, by omega⟩) dX4_use_174 ?_
                refine lv_topi (fun v_79 ev_79 => ?_)
                refine va_iast hx hb hK hP hD hS 1 0 rfl rfl (vp_in_iff.mpr ⟨by omega, by omega⟩) dX4_use_175 (fun H locs hP hD hS => ?_)
                obtain ⟨f_80, ef_80⟩ : ∃ g : Nat → Int32, upd f_72 (v_77 : Int32).toNatClampNeg v_79 = g := ⟨_, rfl⟩
                rw [ef_80] at hP hD
                have hP : va_P D vwCl [(h0, .inr (4, [.int ype, .int ytk, .ref ywi, .ref yki, .ref yse, .ref yno, .ref yrh, .ref yrw, .ref yrk, .ref yrt, .int yrp, .int yrq, .ref ytx, .int yle, .int yat, .int yfa, .ref yby, .ref ylo, .ref yhi, .int yac, .int ynx, .ref yro, .ref ygl, .int ysn, .ref yso, .ref ysp, .ref ysw, .long ysd, .ref yik, .ref ykp])), (yno, .inl (cI, 96, .inl f_80)), (yki, .inl (cI, 5, .inl Fki))] H := hP
                have hD : va_D A [(h0, .inr (4, [.int ype, .int ytk, .ref ywi, .ref yki, .ref yse, .ref yno, .ref yrh, .ref yrw, .ref yrk, .ref yrt, .int yrp, .int yrq, .ref ytx, .int yle, .int yat, .int yfa, .ref yby, .ref ylo, .ref yhi, .int yac, .int ynx, .ref yro, .ref ygl, .int ysn, .ref yso, .ref ysp, .ref ysw, .long ysd, .ref yik, .ref ykp])), (yno, .inl (cI, 96, .inl f_80)), (yki, .inl (cI, 5, .inl Fki))] := hD
                have k48f_80 : (f_80 48).toInt = (f_72 48).toInt := by rw [← ef_80, upd_ne (by omega) (by omega)]
                refine lv_aload_n hx hb dX4_use_176 rfl (lv_at hl 4 rfl) ?_
                refine va_get (D := D) (ci := 4) (v := .ref yno) (C := RX4) (T := TX4) (N := 30) hx hb hts iX4 hown hK hP 0 rfl rfl 5 (by decide) (hts (.fieldLink RX4 19 "PunchedTicketModel" "now" "[I") (List.mem_of_getElem? (i := 1) rfl)) (fun _ h9 => h9) rfl dX4_use_177 ?_
                refine lv_iload hx hb dX4_use_180 (lv_at hl 3 rfl) ?_
                refine lv_iconst (v := 2) hx hb dX4_use_182 (by decide) ?_
                refine lv_iadd hx hb dX4_use_183 ?_
                refine lv_topi (fun v_81 ev_81 => ?_)
                have tv_81 : v_81.toInt = v_4.toInt + (2 : Int) := by rw [ev_81]; exact ti_add (x := v_4) (y := 2) (show -2147483648 ≤ v_4.toInt + (2 : Int) by omega) (show v_4.toInt + (2 : Int) < 2147483648 by omega)
                refine lv_iload hx hb dX4_use_184 (lv_at hl 0 rfl) ?_
                refine va_iast hx hb hK hP hD hS 1 0 rfl rfl (vp_in_iff.mpr ⟨by omega, by omega⟩) dX4_use_186 (fun H locs hP hD hS => ?_)
                obtain ⟨f_82, ef_82⟩ : ∃ g : Nat → Int32, upd f_80 (v_81 : Int32).toNatClampNeg v_76 = g := ⟨_, rfl⟩
                rw [ef_82] at hP hD
                have hP : va_P D vwCl [(h0, .inr (4, [.int ype, .int ytk, .ref ywi, .ref yki, .ref yse, .ref yno, .ref yrh, .ref yrw, .ref yrk, .ref yrt, .int yrp, .int yrq, .ref ytx, .int yle, .int yat, .int yfa, .ref yby, .ref ylo, .ref yhi, .int yac, .int ynx, .ref yro, .ref ygl, .int ysn, .ref yso, .ref ysp, .ref ysw, .long ysd, .ref yik, .ref ykp])), (yno, .inl (cI, 96, .inl f_82)), (yki, .inl (cI, 5, .inl Fki))] H := hP
                have hD : va_D A [(h0, .inr (4, [.int ype, .int ytk, .ref ywi, .ref yki, .ref yse, .ref yno, .ref yrh, .ref yrw, .ref yrk, .ref yrt, .int yrp, .int yrq, .ref ytx, .int yle, .int yat, .int yfa, .ref yby, .ref ylo, .ref yhi, .int yac, .int ynx, .ref yro, .ref ygl, .int ysn, .ref yso, .ref ysp, .ref ysw, .long ysd, .ref yik, .ref ykp])), (yno, .inl (cI, 96, .inl f_82)), (yki, .inl (cI, 5, .inl Fki))] := hD
                have k48f_82 : (f_82 48).toInt = (f_80 48).toInt := by rw [← ef_82, upd_ne (by omega) (by omega)]
                refine lv_aload_n hx hb dX4_use_187 rfl (lv_at hl 4 rfl) ?_
                refine va_get (D := D) (ci := 4) (v := .ref yno) (C := RX4) (T := TX4) (N := 30) hx hb hts iX4 hown hK hP 0 rfl rfl 5 (by decide) (hts (.fieldLink RX4 19 "PunchedTicketModel" "now" "[I") (List.mem_of_getElem? (i := 1) rfl)) (fun _ h9 => h9) rfl dX4_use_188 ?_
                refine lv_iload hx hb dX4_use_191 (lv_at hl 3 rfl) ?_
                refine lv_iconst (v := 4) hx hb dX4_use_193 (by decide) ?_
                refine lv_iadd hx hb dX4_use_194 ?_
                refine lv_topi (fun v_83 ev_83 => ?_)
                have tv_83 : v_83.toInt = v_4.toInt + (4 : Int) := by rw [ev_83]; exact ti_add (x := v_4) (y := 4) (show -2147483648 ≤ v_4.toInt + (4 : Int) by omega) (show v_4.toInt + (4 : Int) < 2147483648 by omega)
                refine lv_iconst (v := 1) hx hb dX4_use_195 (by decide) ?_
                refine va_iast hx hb hK hP hD hS 1 0 rfl rfl (vp_in_iff.mpr ⟨by omega, by omega⟩) dX4_use_196 (fun H locs hP hD hS => ?_)
                obtain ⟨f_84, ef_84⟩ : ∃ g : Nat → Int32, upd f_82 (v_83 : Int32).toNatClampNeg 1 = g := ⟨_, rfl⟩
                rw [ef_84] at hP hD
                have hP : va_P D vwCl [(h0, .inr (4, [.int ype, .int ytk, .ref ywi, .ref yki, .ref yse, .ref yno, .ref yrh, .ref yrw, .ref yrk, .ref yrt, .int yrp, .int yrq, .ref ytx, .int yle, .int yat, .int yfa, .ref yby, .ref ylo, .ref yhi, .int yac, .int ynx, .ref yro, .ref ygl, .int ysn, .ref yso, .ref ysp, .ref ysw, .long ysd, .ref yik, .ref ykp])), (yno, .inl (cI, 96, .inl f_84)), (yki, .inl (cI, 5, .inl Fki))] H := hP
                have hD : va_D A [(h0, .inr (4, [.int ype, .int ytk, .ref ywi, .ref yki, .ref yse, .ref yno, .ref yrh, .ref yrw, .ref yrk, .ref yrt, .int yrp, .int yrq, .ref ytx, .int yle, .int yat, .int yfa, .ref yby, .ref ylo, .ref yhi, .int yac, .int ynx, .ref yro, .ref ygl, .int ysn, .ref yso, .ref ysp, .ref ysw, .long ysd, .ref yik, .ref ykp])), (yno, .inl (cI, 96, .inl f_84)), (yki, .inl (cI, 5, .inl Fki))] := hD
                have k48f_84 : (f_84 48).toInt = (f_82 48).toInt := by rw [← ef_84, upd_ne (by omega) (by omega)]
                exact ret_v (post := (fun (u : (Nat → Int32)) => (u 48).toInt = (Fno 48).toInt)) (W1 := (fun u => [(h0, .inr (4, [.int ype, .int ytk, .ref ywi, .ref yki, .ref yse, .ref yno, .ref yrh, .ref yrw, .ref yrk, .ref yrt, .int yrp, .int yrq, .ref ytx, .int yle, .int yat, .int yfa, .ref yby, .ref ylo, .ref yhi, .int yac, .int ynx, .ref yro, .ref ygl, .int ysn, .ref yso, .ref ysp, .ref ysw, .long ysd, .ref yik, .ref ykp])), (yno, .inl (cI, 96, .inl u)), (yki, .inl (cI, 5, .inl Fki))])) f_84 hx hb hr hlocks hQ hK hP hD hS ⟨by decide, by decide⟩ dX4_use_197 (show (f_84 48).toInt = (Fno 48).toInt by omega)
              · have tc_74 := b_eq rfl (show (2 : Int32).toInt = 2 by decide) c_74
                refine lv_aload_n hx hb dX4_use_120 rfl (lv_at hl 3 rfl) ?_
                refine va_get (D := D) (ci := 4) (v := .ref yno) (C := RX4) (T := TX4) (N := 30) hx hb hts iX4 hown hK hP 0 rfl rfl 5 (by decide) (hts (.fieldLink RX4 19 "PunchedTicketModel" "now" "[I") (List.mem_of_getElem? (i := 1) rfl)) (fun _ h9 => h9) rfl dX4_use_121 ?_
                refine lv_iload hx hb dX4_use_124 (lv_at hl 2 rfl) ?_
                refine lv_iconst (v := 3) hx hb dX4_use_126 (by decide) ?_
                refine lv_iadd hx hb dX4_use_127 ?_
                refine lv_topi (fun v_85 ev_85 => ?_)
                have tv_85 : v_85.toInt = v_4.toInt + (3 : Int) := by rw [ev_85]; exact ti_add (x := v_4) (y := 3) (show -2147483648 ≤ v_4.toInt + (3 : Int) by omega) (show v_4.toInt + (3 : Int) < 2147483648 by omega)
                refine lv_iload_n hx hb dX4_use_128 rfl (lv_at hl 5 rfl) ?_
                refine lv_iconst (v := 1) hx hb dX4_use_129 (by decide) ?_
                refine lv_iadd hx hb dX4_use_130 ?_
                refine lv_topi (fun v_86 ev_86 => ?_)
                have tv_86 : v_86.toInt = k.toInt + (1 : Int) := by rw [ev_86]; exact ti_add (x := k) (y := 1) (show -2147483648 ≤ k.toInt + (1 : Int) by omega) (show k.toInt + (1 : Int) < 2147483648 by omega)
                refine lv_aload_n hx hb dX4_use_131 rfl (lv_at hl 3 rfl) ?_
                refine va_get (D := D) (ci := 4) (v := .int ype) (C := RX4) (T := TX4) (N := 30) hx hb hts iX4 hown hK hP 0 rfl rfl 0 (by decide) (hts (.fieldLink RX4 68 "PunchedTicketModel" "people" "I") (List.mem_of_getElem? (i := 3) rfl)) (fun _ h9 => h9) rfl dX4_use_132 ?_
                refine lv_icmp_ne (tgt := 142) hx hb dX4_use_135 (by decide) (fun c_87 => ?_) (fun c_87 => ?_)
                · have tc_87 := b_ne rfl rfl c_87
                  refine lv_iload_n hx hb dX4_use_142 rfl (lv_at hl 5 rfl) ?_
                  refine lv_iconst (v := 1) hx hb dX4_use_143 (by decide) ?_
                  refine lv_iadd hx hb dX4_use_144 ?_
                  refine lv_topi (fun v_88 ev_88 => ?_)
                  have tv_88 : v_88.toInt = k.toInt + (1 : Int) := by rw [ev_88]; exact ti_add (x := k) (y := 1) (show -2147483648 ≤ k.toInt + (1 : Int) by omega) (show k.toInt + (1 : Int) < 2147483648 by omega)
                  refine va_iast hx hb hK hP hD hS 1 0 rfl rfl (vp_in_iff.mpr ⟨by omega, by omega⟩) dX4_use_145 (fun H locs hP hD hS => ?_)
                  obtain ⟨f_89, ef_89⟩ : ∃ g : Nat → Int32, upd f_72 (v_85 : Int32).toNatClampNeg v_88 = g := ⟨_, rfl⟩
                  rw [ef_89] at hP hD
                  have hP : va_P D vwCl [(h0, .inr (4, [.int ype, .int ytk, .ref ywi, .ref yki, .ref yse, .ref yno, .ref yrh, .ref yrw, .ref yrk, .ref yrt, .int yrp, .int yrq, .ref ytx, .int yle, .int yat, .int yfa, .ref yby, .ref ylo, .ref yhi, .int yac, .int ynx, .ref yro, .ref ygl, .int ysn, .ref yso, .ref ysp, .ref ysw, .long ysd, .ref yik, .ref ykp])), (yno, .inl (cI, 96, .inl f_89)), (yki, .inl (cI, 5, .inl Fki))] H := hP
                  have hD : va_D A [(h0, .inr (4, [.int ype, .int ytk, .ref ywi, .ref yki, .ref yse, .ref yno, .ref yrh, .ref yrw, .ref yrk, .ref yrt, .int yrp, .int yrq, .ref ytx, .int yle, .int yat, .int yfa, .ref yby, .ref ylo, .ref yhi, .int yac, .int ynx, .ref yro, .ref ygl, .int ysn, .ref yso, .ref ysp, .ref ysw, .long ysd, .ref yik, .ref ykp])), (yno, .inl (cI, 96, .inl f_89)), (yki, .inl (cI, 5, .inl Fki))] := hD
                  have k48f_89 : (f_89 48).toInt = (f_72 48).toInt := by rw [← ef_89, upd_ne (by omega) (by omega)]
                  exact ret_v (post := (fun (u : (Nat → Int32)) => (u 48).toInt = (Fno 48).toInt)) (W1 := (fun u => [(h0, .inr (4, [.int ype, .int ytk, .ref ywi, .ref yki, .ref yse, .ref yno, .ref yrh, .ref yrw, .ref yrk, .ref yrt, .int yrp, .int yrq, .ref ytx, .int yle, .int yat, .int yfa, .ref yby, .ref ylo, .ref yhi, .int yac, .int ynx, .ref yro, .ref ygl, .int ysn, .ref yso, .ref ysp, .ref ysw, .long ysd, .ref yik, .ref ykp])), (yno, .inl (cI, 96, .inl u)), (yki, .inl (cI, 5, .inl Fki))])) f_89 hx hb hr hlocks hQ hK hP hD hS ⟨by decide, by decide⟩ dX4_use_146 (show (f_89 48).toInt = (Fno 48).toInt by omega)
                · have tc_87 := b_eq rfl rfl c_87
                  refine lv_iconst (v := 0) hx hb dX4_use_138 (by decide) ?_
                  refine lv_goto (tgt := 145) hx hb dX4_use_139 (by decide) ?_
                  refine va_iast hx hb hK hP hD hS 1 0 rfl rfl (vp_in_iff.mpr ⟨by omega, by omega⟩) dX4_use_145 (fun H locs hP hD hS => ?_)
                  obtain ⟨f_90, ef_90⟩ : ∃ g : Nat → Int32, upd f_72 (v_85 : Int32).toNatClampNeg 0 = g := ⟨_, rfl⟩
                  rw [ef_90] at hP hD
                  have hP : va_P D vwCl [(h0, .inr (4, [.int ype, .int ytk, .ref ywi, .ref yki, .ref yse, .ref yno, .ref yrh, .ref yrw, .ref yrk, .ref yrt, .int yrp, .int yrq, .ref ytx, .int yle, .int yat, .int yfa, .ref yby, .ref ylo, .ref yhi, .int yac, .int ynx, .ref yro, .ref ygl, .int ysn, .ref yso, .ref ysp, .ref ysw, .long ysd, .ref yik, .ref ykp])), (yno, .inl (cI, 96, .inl f_90)), (yki, .inl (cI, 5, .inl Fki))] H := hP
                  have hD : va_D A [(h0, .inr (4, [.int ype, .int ytk, .ref ywi, .ref yki, .ref yse, .ref yno, .ref yrh, .ref yrw, .ref yrk, .ref yrt, .int yrp, .int yrq, .ref ytx, .int yle, .int yat, .int yfa, .ref yby, .ref ylo, .ref yhi, .int yac, .int ynx, .ref yro, .ref ygl, .int ysn, .ref yso, .ref ysp, .ref ysw, .long ysd, .ref yik, .ref ykp])), (yno, .inl (cI, 96, .inl f_90)), (yki, .inl (cI, 5, .inl Fki))] := hD
                  have k48f_90 : (f_90 48).toInt = (f_72 48).toInt := by rw [← ef_90, upd_ne (by omega) (by omega)]
                  exact ret_v (post := (fun (u : (Nat → Int32)) => (u 48).toInt = (Fno 48).toInt)) (W1 := (fun u => [(h0, .inr (4, [.int ype, .int ytk, .ref ywi, .ref yki, .ref yse, .ref yno, .ref yrh, .ref yrw, .ref yrk, .ref yrt, .int yrp, .int yrq, .ref ytx, .int yle, .int yat, .int yfa, .ref yby, .ref ylo, .ref yhi, .int yac, .int ynx, .ref yro, .ref ygl, .int ysn, .ref yso, .ref ysp, .ref ysw, .long ysd, .ref yik, .ref ykp])), (yno, .inl (cI, 96, .inl u)), (yki, .inl (cI, 5, .inl Fki))])) f_90 hx hb hr hlocks hQ hK hP hD hS ⟨by decide, by decide⟩ dX4_use_146 (show (f_90 48).toInt = (Fno 48).toInt by omega)
            · have tc_71 := b_nle rfl (show (9 : Int32).toInt = 9 by decide) c_71
              refine lv_aload_n hx hb dX4_use_90 rfl (lv_at hl 3 rfl) ?_
              refine va_get (D := D) (ci := 4) (v := .ref yno) (C := RX4) (T := TX4) (N := 30) hx hb hts iX4 hown hK hP 0 rfl rfl 5 (by decide) (hts (.fieldLink RX4 19 "PunchedTicketModel" "now" "[I") (List.mem_of_getElem? (i := 1) rfl)) (fun _ h9 => h9) rfl dX4_use_91 ?_
              refine lv_iload hx hb dX4_use_94 (lv_at hl 2 rfl) ?_
              refine lv_iconst (v := 5) hx hb dX4_use_96 (by decide) ?_
              refine lv_iadd hx hb dX4_use_97 ?_
              refine lv_topi (fun v_91 ev_91 => ?_)
              have tv_91 : v_91.toInt = v_4.toInt + (5 : Int) := by rw [ev_91]; exact ti_add (x := v_4) (y := 5) (show -2147483648 ≤ v_4.toInt + (5 : Int) by omega) (show v_4.toInt + (5 : Int) < 2147483648 by omega)
              refine lv_iconst (v := 1) hx hb dX4_use_98 (by decide) ?_
              refine va_iast hx hb hK hP hD hS 1 0 rfl rfl (vp_in_iff.mpr ⟨by omega, by omega⟩) dX4_use_99 (fun H locs hP hD hS => ?_)
              obtain ⟨f_92, ef_92⟩ : ∃ g : Nat → Int32, upd Fno (v_91 : Int32).toNatClampNeg 1 = g := ⟨_, rfl⟩
              rw [ef_92] at hP hD
              have hP : va_P D vwCl [(h0, .inr (4, [.int ype, .int ytk, .ref ywi, .ref yki, .ref yse, .ref yno, .ref yrh, .ref yrw, .ref yrk, .ref yrt, .int yrp, .int yrq, .ref ytx, .int yle, .int yat, .int yfa, .ref yby, .ref ylo, .ref yhi, .int yac, .int ynx, .ref yro, .ref ygl, .int ysn, .ref yso, .ref ysp, .ref ysw, .long ysd, .ref yik, .ref ykp])), (yno, .inl (cI, 96, .inl f_92)), (yki, .inl (cI, 5, .inl Fki))] H := hP
              have hD : va_D A [(h0, .inr (4, [.int ype, .int ytk, .ref ywi, .ref yki, .ref yse, .ref yno, .ref yrh, .ref yrw, .ref yrk, .ref yrt, .int yrp, .int yrq, .ref ytx, .int yle, .int yat, .int yfa, .ref yby, .ref ylo, .ref yhi, .int yac, .int ynx, .ref yro, .ref ygl, .int ysn, .ref yso, .ref ysp, .ref ysw, .long ysd, .ref yik, .ref ykp])), (yno, .inl (cI, 96, .inl f_92)), (yki, .inl (cI, 5, .inl Fki))] := hD
              have k48f_92 : (f_92 48).toInt = (Fno 48).toInt := by rw [← ef_92, upd_ne (by omega) (by omega)]
              exact ret_v (post := (fun (u : (Nat → Int32)) => (u 48).toInt = (Fno 48).toInt)) (W1 := (fun u => [(h0, .inr (4, [.int ype, .int ytk, .ref ywi, .ref yki, .ref yse, .ref yno, .ref yrh, .ref yrw, .ref yrk, .ref yrt, .int yrp, .int yrq, .ref ytx, .int yle, .int yat, .int yfa, .ref yby, .ref ylo, .ref yhi, .int yac, .int ynx, .ref yro, .ref ygl, .int ysn, .ref yso, .ref ysp, .ref ysw, .long ysd, .ref yik, .ref ykp])), (yno, .inl (cI, 96, .inl u)), (yki, .inl (cI, 5, .inl Fki))])) f_92 hx hb hr hlocks hQ hK hP hD hS ⟨by decide, by decide⟩ dX4_use_100 (show (f_92 48).toInt = (Fno 48).toInt by omega)
  · have tc_7 := b_eq rfl (show (1 : Int32).toInt = 1 by decide) c_7
    refine lv_iconst (v := 1) hx hb dX4_use_31 (by decide) ?_
    refine lv_goto (tgt := 36) hx hb dX4_use_32 (by decide) ?_
    refine lv_iadd hx hb dX4_use_36 ?_
    refine lv_topi (fun v_93 ev_93 => ?_)
    refine lv_istore (lv' := [(5, .int v_93), (4, .int v_4), (0, .ref h0), (1, .int n), (2, .int k), (3, .int j)]) hx hb dX4_use_37 hl (by decide) rfl (fun ls hl => ?_)
    refine lv_aload_n hx hb dX4_use_39 rfl (lv_at hl 2 rfl) ?_
    refine va_get (D := D) (ci := 4) (v := .ref yki) (C := RX4) (T := TX4) (N := 30) hx hb hts iX4 hown hK hP 0 rfl rfl 3 (by decide) (hts (.fieldLink RX4 13 "PunchedTicketModel" "kind" "[I") (List.mem_of_getElem? (i := 2) rfl)) (fun _ h9 => h9) rfl dX4_use_40 ?_
    refine lv_iload_n hx hb dX4_use_43 rfl (lv_at hl 4 rfl) ?_
    refine va_iald hx hb hK hP 2 0 rfl rfl (vp_in_iff.mpr ⟨by omega, by omega⟩) dX4_use_44 ?_
    refine lv_topi (fun v_94 ev_94 => ?_)
    refine lv_iconst (v := 1) hx hb dX4_use_45 (by decide) ?_
    refine lv_icmp_ne (tgt := 61) hx hb dX4_use_46 (by decide) (fun c_95 => ?_) (fun c_95 => ?_)
    · have tc_95 := b_ne rfl (show (1 : Int32).toInt = 1 by decide) c_95
      refine lv_aload_n hx hb dX4_use_61 rfl (lv_at hl 2 rfl) ?_
      refine va_get (D := D) (ci := 4) (v := .ref yki) (C := RX4) (T := TX4) (N := 30) hx hb hts iX4 hown hK hP 0 rfl rfl 3 (by decide) (hts (.fieldLink RX4 13 "PunchedTicketModel" "kind" "[I") (List.mem_of_getElem? (i := 2) rfl)) (fun _ h9 => h9) rfl dX4_use_62 ?_
      refine lv_iload_n hx hb dX4_use_65 rfl (lv_at hl 4 rfl) ?_
      refine va_iald hx hb hK hP 2 0 rfl rfl (vp_in_iff.mpr ⟨by omega, by omega⟩) dX4_use_66 ?_
      refine lv_topi (fun v_96 ev_96 => ?_)
      refine lv_iconst (v := 2) hx hb dX4_use_67 (by decide) ?_
      refine lv_icmp_ne (tgt := 75) hx hb dX4_use_68 (by decide) (fun c_97 => ?_) (fun c_97 => ?_)
      · have tc_97 := b_ne rfl (show (2 : Int32).toInt = 2 by decide) c_97
        refine lv_iconst (v := 0) hx hb dX4_use_75 (by decide) ?_
        refine lv_istore (lv' := [(6, .int 0), (5, .int v_93), (4, .int v_4), (0, .ref h0), (1, .int n), (2, .int k), (3, .int j)]) hx hb dX4_use_76 hl (by decide) rfl (fun ls hl => ?_)
        refine lv_iload hx hb dX4_use_78 (lv_at hl 0 rfl) ?_
        refine lv_if_eq (tgt := 90) hx hb dX4_use_80 (by decide) (fun c_98 => ?_) (fun c_98 => ?_)
        · have tc_98 := b_eq (show (0 : Int32).toInt = 0 by decide) (show (0 : Int32).toInt = 0 by decide) c_98
          refine lv_aload_n hx hb dX4_use_90 rfl (lv_at hl 3 rfl) ?_
          refine va_get (D := D) (ci := 4) (v := .ref yno) (C := RX4) (T := TX4) (N := 30) hx hb hts iX4 hown hK hP 0 rfl rfl 5 (by decide) (hts (.fieldLink RX4 19 "PunchedTicketModel" "now" "[I") (List.mem_of_getElem? (i := 1) rfl)) (fun _ h9 => h9) rfl dX4_use_91 ?_
          refine lv_iload hx hb dX4_use_94 (lv_at hl 2 rfl) ?_
          refine lv_iconst (v := 5) hx hb dX4_use_96 (by decide) ?_
          refine lv_iadd hx hb dX4_use_97 ?_
          refine lv_topi (fun v_99 ev_99 => ?_)
          have tv_99 : v_99.toInt = v_4.toInt + (5 : Int) := by rw [ev_99]; exact ti_add (x := v_4) (y := 5) (show -2147483648 ≤ v_4.toInt + (5 : Int) by omega) (show v_4.toInt + (5 : Int) < 2147483648 by omega)
          refine lv_iconst (v := 1) hx hb dX4_use_98 (by decide) ?_
          refine va_iast hx hb hK hP hD hS 1 0 rfl rfl (vp_in_iff.mpr ⟨by omega, by omega⟩) dX4_use_99 (fun H locs hP hD hS => ?_)
          obtain ⟨f_100, ef_100⟩ : ∃ g : Nat → Int32, upd Fno (v_99 : Int32).toNatClampNeg 1 = g := ⟨_, rfl⟩
          rw [ef_100] at hP hD
          have hP : va_P D vwCl [(h0, .inr (4, [.int ype, .int ytk, .ref ywi, .ref yki, .ref yse, .ref yno, .ref yrh, .ref yrw, .ref yrk, .ref yrt, .int yrp, .int yrq, .ref ytx, .int yle, .int yat, .int yfa, .ref yby, .ref ylo, .ref yhi, .int yac, .int ynx, .ref yro, .ref ygl, .int ysn, .ref yso, .ref ysp, .ref ysw, .long ysd, .ref yik, .ref ykp])), (yno, .inl (cI, 96, .inl f_100)), (yki, .inl (cI, 5, .inl Fki))] H := hP
          have hD : va_D A [(h0, .inr (4, [.int ype, .int ytk, .ref ywi, .ref yki, .ref yse, .ref yno, .ref yrh, .ref yrw, .ref yrk, .ref yrt, .int yrp, .int yrq, .ref ytx, .int yle, .int yat, .int yfa, .ref yby, .ref ylo, .ref yhi, .int yac, .int ynx, .ref yro, .ref ygl, .int ysn, .ref yso, .ref ysp, .ref ysw, .long ysd, .ref yik, .ref ykp])), (yno, .inl (cI, 96, .inl f_100)), (yki, .inl (cI, 5, .inl Fki))] := hD
          have k48f_100 : (f_100 48).toInt = (Fno 48).toInt := by rw [← ef_100, upd_ne (by omega) (by omega)]
          exact ret_v (post := (fun (u : (Nat → Int32)) => (u 48).toInt = (Fno 48).toInt)) (W1 := (fun u => [(h0, .inr (4, [.int ype, .int ytk, .ref ywi, .ref yki, .ref yse, .ref yno, .ref yrh, .ref yrw, .ref yrk, .ref yrt, .int yrp, .int yrq, .ref ytx, .int yle, .int yat, .int yfa, .ref yby, .ref ylo, .ref yhi, .int yac, .int ynx, .ref yro, .ref ygl, .int ysn, .ref yso, .ref ysp, .ref ysw, .long ysd, .ref yik, .ref ykp])), (yno, .inl (cI, 96, .inl u)), (yki, .inl (cI, 5, .inl Fki))])) f_100 hx hb hr hlocks hQ hK hP hD hS ⟨by decide, by decide⟩ dX4_use_100 (show (f_100 48).toInt = (Fno 48).toInt by omega)
        · have tc_98 := b_ne (show (0 : Int32).toInt = 0 by decide) (show (0 : Int32).toInt = 0 by decide) c_98
          exfalso; omega
      · have tc_97 := b_eq rfl (show (2 : Int32).toInt = 2 by decide) c_97
        refine lv_iconst (v := 1) hx hb dX4_use_71 (by decide) ?_
        refine lv_goto (tgt := 76) hx hb dX4_use_72 (by decide) ?_
        refine lv_istore (lv' := [(6, .int 1), (5, .int v_93), (4, .int v_4), (0, .ref h0), (1, .int n), (2, .int k), (3, .int j)]) hx hb dX4_use_76 hl (by decide) rfl (fun ls hl => ?_)
        refine lv_iload hx hb dX4_use_78 (lv_at hl 0 rfl) ?_
        refine lv_if_eq (tgt := 90) hx hb dX4_use_80 (by decide) (fun c_101 => ?_) (fun c_101 => ?_)
        · have tc_101 := b_eq (show (1 : Int32).toInt = 1 by decide) (show (0 : Int32).toInt = 0 by decide) c_101
          exfalso; omega
        · have tc_101 := b_ne (show (1 : Int32).toInt = 1 by decide) (show (0 : Int32).toInt = 0 by decide) c_101
          refine lv_iload hx hb dX4_use_83 (lv_at hl 1 rfl) ?_
          refine lv_bipush (v := 9) hx hb dX4_use_85 (by decide) ?_
          refine lv_icmp_le (tgt := 101) hx hb dX4_use_87 (by decide) (fun c_102 => ?_) (fun c_102 => ?_)
          · have tc_102 := b_le rfl (show (9 : Int32).toInt = 9 by decide) c_102
            refine lv_aload_n hx hb dX4_use_101 rfl (lv_at hl 3 rfl) ?_
            refine va_get (D := D) (ci := 4) (v := .ref yno) (C := RX4) (T := TX4) (N := 30) hx hb hts iX4 hown hK hP 0 rfl rfl 5 (by decide) (hts (.fieldLink RX4 19 "PunchedTicketModel" "now" "[I") (List.mem_of_getElem? (i := 1) rfl)) (fun _ h9 => h9) rfl dX4_use_102 ?_
            refine lv_iload hx hb dX4_use_105 (lv_at hl 2 rfl) ?_
            refine lv_iload hx hb dX4_use_107 (lv_at hl 1 rfl) ?_
            refine va_iast hx hb hK hP hD hS 1 0 rfl rfl (vp_in_iff.mpr ⟨by omega, by omega⟩) dX4_use_109 (fun H locs hP hD hS => ?_)
            obtain ⟨f_103, ef_103⟩ : ∃ g : Nat → Int32, upd Fno (v_4 : Int32).toNatClampNeg v_93 = g := ⟨_, rfl⟩
            rw [ef_103] at hP hD
            have hP : va_P D vwCl [(h0, .inr (4, [.int ype, .int ytk, .ref ywi, .ref yki, .ref yse, .ref yno, .ref yrh, .ref yrw, .ref yrk, .ref yrt, .int yrp, .int yrq, .ref ytx, .int yle, .int yat, .int yfa, .ref yby, .ref ylo, .ref yhi, .int yac, .int ynx, .ref yro, .ref ygl, .int ysn, .ref yso, .ref ysp, .ref ysw, .long ysd, .ref yik, .ref ykp])), (yno, .inl (cI, 96, .inl f_103)), (yki, .inl (cI, 5, .inl Fki))] H := hP
            have hD : va_D A [(h0, .inr (4, [.int ype, .int ytk, .ref ywi, .ref yki, .ref yse, .ref yno, .ref yrh, .ref yrw, .ref yrk, .ref yrt, .int yrp, .int yrq, .ref ytx, .int yle, .int yat, .int yfa, .ref yby, .ref ylo, .ref yhi, .int yac, .int ynx, .ref yro, .ref ygl, .int ysn, .ref yso, .ref ysp, .ref ysw, .long ysd, .ref yik, .ref ykp])), (yno, .inl (cI, 96, .inl f_103)), (yki, .inl (cI, 5, .inl Fki))] := hD
            have k48f_103 : (f_103 48).toInt = (Fno 48).toInt := by rw [← ef_103, upd_ne (by omega) (by omega)]
            refine lv_aload_n hx hb dX4_use_110 rfl (lv_at hl 3 rfl) ?_
            refine va_get (D := D) (ci := 4) (v := .ref yki) (C := RX4) (T := TX4) (N := 30) hx hb hts iX4 hown hK hP 0 rfl rfl 3 (by decide) (hts (.fieldLink RX4 13 "PunchedTicketModel" "kind" "[I") (List.mem_of_getElem? (i := 2) rfl)) (fun _ h9 => h9) rfl dX4_use_111 ?_
            refine lv_iload_n hx hb dX4_use_114 rfl (lv_at hl 5 rfl) ?_
            refine va_iald hx hb hK hP 2 0 rfl rfl (vp_in_iff.mpr ⟨by omega, by omega⟩) dX4_use_115 ?_
            refine lv_topi (fun v_104 ev_104 => ?_)
            refine lv_iconst (v := 2) hx hb dX4_use_116 (by decide) ?_
            refine lv_icmp_ne (tgt := 147) hx hb dX4_use_117 (by decide) (fun c_105 => ?_) (fun c_105 => ?_)
            · have tc_105 := b_ne rfl (show (2 : Int32).toInt = 2 by decide) c_105
              refine lv_aload_n hx hb dX4_use_147 rfl (lv_at hl 3 rfl) ?_
              refine va_get (D := D) (ci := 4) (v := .ref yno) (C := RX4) (T := TX4) (N := 30) hx hb hts iX4 hown hK hP 0 rfl rfl 5 (by decide) (hts (.fieldLink RX4 19 "PunchedTicketModel" "now" "[I") (List.mem_of_getElem? (i := 1) rfl)) (fun _ h9 => h9) rfl dX4_use_148 ?_
              refine lv_iload hx hb dX4_use_151 (lv_at hl 2 rfl) ?_
              refine lv_iconst (v := 1) hx hb dX4_use_153 (by decide) ?_
              refine lv_iadd hx hb dX4_use_154 ?_
              refine lv_topi (fun v_106 ev_106 => ?_)
              have tv_106 : v_106.toInt = v_4.toInt + (1 : Int) := by rw [ev_106]; exact ti_add (x := v_4) (y := 1) (show -2147483648 ≤ v_4.toInt + (1 : Int) by omega) (show v_4.toInt + (1 : Int) < 2147483648 by omega)
              refine va_iald hx hb hK hP 1 0 rfl rfl (vp_in_iff.mpr ⟨by omega, by omega⟩) dX4_use_155 ?_
              refine lv_topi (fun v_107 ev_107 => ?_)
              refine lv_istore (lv' := [(7, .int v_107), (6, .int 1), (5, .int v_93), (4, .int v_4), (0, .ref h0), (1, .int n), (2, .int k), (3, .int j)]) hx hb dX4_use_156 hl (by decide) rfl (fun ls hl => ?_)
              refine lv_aload_n hx hb dX4_use_158 rfl (lv_at hl 4 rfl) ?_
              refine va_get (D := D) (ci := 4) (v := .ref yno) (C := RX4) (T := TX4) (N := 30) hx hb hts iX4 hown hK hP 0 rfl rfl 5 (by decide) (hts (.fieldLink RX4 19 "PunchedTicketModel" "now" "[I") (List.mem_of_getElem? (i := 1) rfl)) (fun _ h9 => h9) rfl dX4_use_159 ?_
              refine lv_iload hx hb dX4_use_162 (lv_at hl 3 rfl) ?_
              refine lv_iconst (v := 1) hx hb dX4_use_164 (by decide) ?_
              refine lv_iadd hx hb dX4_use_165 ?_
              refine lv_topi (fun v_108 ev_108 => ?_)
              have tv_108 : v_108.toInt = v_4.toInt + (1 : Int) := by rw [ev_108]; exact ti_add (x := v_4) (y := 1) (show -2147483648 ≤ v_4.toInt + (1 : Int) by omega) (show v_4.toInt + (1 : Int) < 2147483648 by omega)
              refine lv_aload_n hx hb dX4_use_166 rfl (lv_at hl 4 rfl) ?_
              refine va_get (D := D) (ci := 4) (v := .ref yno) (C := RX4) (T := TX4) (N := 30) hx hb hts iX4 hown hK hP 0 rfl rfl 5 (by decide) (hts (.fieldLink RX4 19 "PunchedTicketModel" "now" "[I") (List.mem_of_getElem? (i := 1) rfl)) (fun _ h9 => h9) rfl dX4_use_167 ?_
              refine lv_iload hx hb dX4_use_170 (lv_at hl 3 rfl) ?_
              refine lv_iconst (v := 2) hx hb dX4_use_172 (by decide) ?_
              refine lv_iadd hx hb dX4_use_173 ?_
              refine lv_topi (fun v_109 ev_109 => ?_)
              have tv_109 : v_109.toInt = v_4.toInt + (2 : Int) := by rw [ev_109]; exact ti_add (x := v_4) (y := 2) (show -2147483648 ≤ v_4.toInt + (2 : Int) by omega) (show v_4.toInt + (2 : Int) < 2147483648 by omega)
              refine va_iald hx hb hK hP 1 0 rfl rfl (vp_in_iff.mpr ⟨by omega, by omega⟩) dX4_use_174 ?_
              refine lv_topi (fun v_110 ev_110 => ?_)
              refine va_iast hx hb hK hP hD hS 1 0 rfl rfl (vp_in_iff.mpr ⟨by omega, by omega⟩) dX4_use_175 (fun H locs hP hD hS => ?_)
              obtain ⟨f_111, ef_111⟩ : ∃ g : Nat → Int32, upd f_103 (v_108 : Int32).toNatClampNeg v_110 = g := ⟨_, rfl⟩
              rw [ef_111] at hP hD
              have hP : va_P D vwCl [(h0, .inr (4, [.int ype, .int ytk, .ref ywi, .ref yki, .ref yse, .ref yno, .ref yrh, .ref yrw, .ref yrk, .ref yrt, .int yrp, .int yrq, .ref ytx, .int yle, .int yat, .int yfa, .ref yby, .ref ylo, .ref yhi, .int yac, .int ynx, .ref yro, .ref ygl, .int ysn, .ref yso, .ref ysp, .ref ysw, .long ysd, .ref yik, .ref ykp])), (yno, .inl (cI, 96, .inl f_111)), (yki, .inl (cI, 5, .inl Fki))] H := hP
              have hD : va_D A [(h0, .inr (4, [.int ype, .int ytk, .ref ywi, .ref yki, .ref yse, .ref yno, .ref yrh, .ref yrw, .ref yrk, .ref yrt, .int yrp, .int yrq, .ref ytx, .int yle, .int yat, .int yfa, .ref yby, .ref ylo, .ref yhi, .int yac, .int ynx, .ref yro, .ref ygl, .int ysn, .ref yso, .ref ysp, .ref ysw, .long ysd, .ref yik, .ref ykp])), (yno, .inl (cI, 96, .inl f_111)), (yki, .inl (cI, 5, .inl Fki))] := hD
              have k48f_111 : (f_111 48).toInt = (f_103 48).toInt := by rw [← ef_111, upd_ne (by omega) (by omega)]
              refine lv_aload_n hx hb dX4_use_176 rfl (lv_at hl 4 rfl) ?_
              refine va_get (D := D) (ci := 4) (v := .ref yno) (C := RX4) (T := TX4) (N := 30) hx hb hts iX4 hown hK hP 0 rfl rfl 5 (by decide) (hts (.fieldLink RX4 19 "PunchedTicketModel" "now" "[I") (List.mem_of_getElem? (i := 1) rfl)) (fun _ h9 => h9) rfl dX4_use_177 ?_
              refine lv_iload hx hb dX4_use_180 (lv_at hl 3 rfl) ?_
              refine lv_iconst (v := 2) hx hb dX4_use_182 (by decide) ?_
              refine lv_iadd hx hb dX4_use_183 ?_
              refine lv_topi (fun v_112 ev_112 => ?_)
              have tv_112 : v_112.toInt = v_4.toInt + (2 : Int) := by rw [ev_112]; exact ti_add (x := v_4) (y := 2) (show -2147483648 ≤ v_4.toInt + (2 : Int) by omega) (show v_4.toInt + (2 : Int) < 2147483648 by omega)
              refine lv_iload hx hb dX4_use_184 (lv_at hl 0 rfl) ?_
              refine va_iast hx hb hK hP hD hS 1 0 rfl rfl (vp_in_iff.mpr ⟨by omega, by omega⟩) dX4_use_186 (fun H locs hP hD hS => ?_)
              obtain ⟨f_113, ef_113⟩ : ∃ g : Nat → Int32, upd f_111 (v_112 : Int32).toNatClampNeg v_107 = g := ⟨_, rfl⟩
              rw [ef_113] at hP hD
              have hP : va_P D vwCl [(h0, .inr (4, [.int ype, .int ytk, .ref ywi, .ref yki, .ref yse, .ref yno, .ref yrh, .ref yrw, .ref yrk, .ref yrt, .int yrp, .int yrq, .ref ytx, .int yle, .int yat, .int yfa, .ref yby, .ref ylo, .ref yhi, .int yac, .int ynx, .ref yro, .ref ygl, .int ysn, .ref yso, .ref ysp, .ref ysw, .long ysd, .ref yik, .ref ykp])), (yno, .inl (cI, 96, .inl f_113)), (yki, .inl (cI, 5, .inl Fki))] H := hP
              have hD : va_D A [(h0, .inr (4, [.int ype, .int ytk, .ref ywi, .ref yki, .ref yse, .ref yno, .ref yrh, .ref yrw, .ref yrk, .ref yrt, .int yrp, .int yrq, .ref ytx, .int yle, .int yat, .int yfa, .ref yby, .ref ylo, .ref yhi, .int yac, .int ynx, .ref yro, .ref ygl, .int ysn, .ref yso, .ref ysp, .ref ysw, .long ysd, .ref yik, .ref ykp])), (yno, .inl (cI, 96, .inl f_113)), (yki, .inl (cI, 5, .inl Fki))] := hD
              have k48f_113 : (f_113 48).toInt = (f_111 48).toInt := by rw [← ef_113, upd_ne (by omega) (by omega)]
              refine lv_aload_n hx hb dX4_use_187 rfl (lv_at hl 4 rfl) ?_
              refine va_get (D := D) (ci := 4) (v := .ref yno) (C := RX4) (T := TX4) (N := 30) hx hb hts iX4 hown hK hP 0 rfl rfl 5 (by decide) (hts (.fieldLink RX4 19 "PunchedTicketModel" "now" "[I") (List.mem_of_getElem? (i := 1) rfl)) (fun _ h9 => h9) rfl dX4_use_188 ?_
              refine lv_iload hx hb dX4_use_191 (lv_at hl 3 rfl) ?_
              refine lv_iconst (v := 4) hx hb dX4_use_193 (by decide) ?_
              refine lv_iadd hx hb dX4_use_194 ?_
              refine lv_topi (fun v_114 ev_114 => ?_)
              have tv_114 : v_114.toInt = v_4.toInt + (4 : Int) := by rw [ev_114]; exact ti_add (x := v_4) (y := 4) (show -2147483648 ≤ v_4.toInt + (4 : Int) by omega) (show v_4.toInt + (4 : Int) < 2147483648 by omega)
              refine lv_iconst (v := 1) hx hb dX4_use_195 (by decide) ?_
              refine va_iast hx hb hK hP hD hS 1 0 rfl rfl (vp_in_iff.mpr ⟨by omega, by omega⟩) dX4_use_196 (fun H locs hP hD hS => ?_)
              obtain ⟨f_115, ef_115⟩ : ∃ g : Nat → Int32, upd f_113 (v_114 : Int32).toNatClampNeg 1 = g := ⟨_, rfl⟩
              rw [ef_115] at hP hD
              have hP : va_P D vwCl [(h0, .inr (4, [.int ype, .int ytk, .ref ywi, .ref yki, .ref yse, .ref yno, .ref yrh, .ref yrw, .ref yrk, .ref yrt, .int yrp, .int yrq, .ref ytx, .int yle, .int yat, .int yfa, .ref yby, .ref ylo, .ref yhi, .int yac, .int ynx, .ref yro, .ref ygl, .int ysn, .ref yso, .ref ysp, .ref ysw, .long ysd, .ref yik, .ref ykp])), (yno, .inl (cI, 96, .inl f_115)), (yki, .inl (cI, 5, .inl Fki))] H := hP
              have hD : va_D A [(h0, .inr (4, [.int ype, .int ytk, .ref ywi, .ref yki, .ref yse, .ref yno, .ref yrh, .ref yrw, .ref yrk, .ref yrt, .int yrp, .int yrq, .ref ytx, .int yle, .int yat, .int yfa, .ref yby, .ref ylo, .ref yhi, .int yac, .int ynx, .ref yro, .ref ygl, .int ysn, .ref yso, .ref ysp, .ref ysw, .long ysd, .ref yik, .ref ykp])), (yno, .inl (cI, 96, .inl f_115)), (yki, .inl (cI, 5, .inl Fki))] := hD
              have k48f_115 : (f_115 48).toInt = (f_113 48).toInt := by rw [← ef_115, upd_ne (by omega) (by omega)]
              exact ret_v (post := (fun (u : (Nat → Int32)) => (u 48).toInt = (Fno 48).toInt)) (W1 := (fun u => [(h0, .inr (4, [.int ype, .int ytk, .ref ywi, .ref yki, .ref yse, .ref yno, .ref yrh, .ref yrw, .ref yrk, .ref yrt, .int yrp, .int yrq, .ref ytx, .int yle, .int yat, .int yfa, .ref yby, .ref ylo, .ref yhi, .int yac, .int ynx, .ref yro, .ref ygl, .int ysn, .ref yso, .ref ysp, .ref ysw, .long ysd, .ref yik, .ref ykp])), (yno, .inl (cI, 96, .inl u)), (yki, .inl (cI, 5, .inl Fki))])) f_115 hx hb hr hlocks hQ hK hP hD hS ⟨by decide, by decide⟩ dX4_use_197 (show (f_115 48).toInt = (Fno 48).toInt by omega)
            · have tc_105 := b_eq rfl (show (2 : Int32).toInt = 2 by decide) c_105
              refine lv_aload_n hx hb dX4_use_120 rfl (lv_at hl 3 rfl) ?_
              refine va_get (D := D) (ci := 4) (v := .ref yno) (C := RX4) (T := TX4) (N := 30) hx hb hts iX4 hown hK hP 0 rfl rfl 5 (by decide) (hts (.fieldLink RX4 19 "PunchedTicketModel" "now" "[I") (List.mem_of_getElem? (i := 1) rfl)) (fun _ h9 => h9) rfl dX4_use_121 ?_
              refine lv_iload hx hb dX4_use_124 (lv_at hl 2 rfl) ?_
              refine lv_iconst (v := 3) hx hb dX4_use_126 (by decide) ?_
              refine lv_iadd hx hb dX4_use_127 ?_
              refine lv_topi (fun v_116 ev_116 => ?_)
              have tv_116 : v_116.toInt = v_4.toInt + (3 : Int) := by rw [ev_116]; exact ti_add (x := v_4) (y := 3) (show -2147483648 ≤ v_4.toInt + (3 : Int) by omega) (show v_4.toInt + (3 : Int) < 2147483648 by omega)
              refine lv_iload_n hx hb dX4_use_128 rfl (lv_at hl 5 rfl) ?_
              refine lv_iconst (v := 1) hx hb dX4_use_129 (by decide) ?_
              refine lv_iadd hx hb dX4_use_130 ?_
              refine lv_topi (fun v_117 ev_117 => ?_)
              have tv_117 : v_117.toInt = k.toInt + (1 : Int) := by rw [ev_117]; exact ti_add (x := k) (y := 1) (show -2147483648 ≤ k.toInt + (1 : Int) by omega) (show k.toInt + (1 : Int) < 2147483648 by omega)
              refine lv_aload_n hx hb dX4_use_131 rfl (lv_at hl 3 rfl) ?_
              refine va_get (D := D) (ci := 4) (v := .int ype) (C := RX4) (T := TX4) (N := 30) hx hb hts iX4 hown hK hP 0 rfl rfl 0 (by decide) (hts (.fieldLink RX4 68 "PunchedTicketModel" "people" "I") (List.mem_of_getElem? (i := 3) rfl)) (fun _ h9 => h9) rfl dX4_use_132 ?_
              refine lv_icmp_ne (tgt := 142) hx hb dX4_use_135 (by decide) (fun c_118 => ?_) (fun c_118 => ?_)
              · have tc_118 := b_ne rfl rfl c_118
                refine lv_iload_n hx hb dX4_use_142 rfl (lv_at hl 5 rfl) ?_
                refine lv_iconst (v := 1) hx hb dX4_use_143 (by decide) ?_
                refine lv_iadd hx hb dX4_use_144 ?_
                refine lv_topi (fun v_119 ev_119 => ?_)
                have tv_119 : v_119.toInt = k.toInt + (1 : Int) := by rw [ev_119]; exact ti_add (x := k) (y := 1) (show -2147483648 ≤ k.toInt + (1 : Int) by omega) (show k.toInt + (1 : Int) < 2147483648 by omega)
                refine va_iast hx hb hK hP hD hS 1 0 rfl rfl (vp_in_iff.mpr ⟨by omega, by omega⟩) dX4_use_145 (fun H locs hP hD hS => ?_)
                obtain ⟨f_120, ef_120⟩ : ∃ g : Nat → Int32, upd f_103 (v_116 : Int32).toNatClampNeg v_119 = g := ⟨_, rfl⟩
                rw [ef_120] at hP hD
                have hP : va_P D vwCl [(h0, .inr (4, [.int ype, .int ytk, .ref ywi, .ref yki, .ref yse, .ref yno, .ref yrh, .ref yrw, .ref yrk, .ref yrt, .int yrp, .int yrq, .ref ytx, .int yle, .int yat, .int yfa, .ref yby, .ref ylo, .ref yhi, .int yac, .int ynx, .ref yro, .ref ygl, .int ysn, .ref yso, .ref ysp, .ref ysw, .long ysd, .ref yik, .ref ykp])), (yno, .inl (cI, 96, .inl f_120)), (yki, .inl (cI, 5, .inl Fki))] H := hP
                have hD : va_D A [(h0, .inr (4, [.int ype, .int ytk, .ref ywi, .ref yki, .ref yse, .ref yno, .ref yrh, .ref yrw, .ref yrk, .ref yrt, .int yrp, .int yrq, .ref ytx, .int yle, .int yat, .int yfa, .ref yby, .ref ylo, .ref yhi, .int yac, .int ynx, .ref yro, .ref ygl, .int ysn, .ref yso, .ref ysp, .ref ysw, .long ysd, .ref yik, .ref ykp])), (yno, .inl (cI, 96, .inl f_120)), (yki, .inl (cI, 5, .inl Fki))] := hD
                have k48f_120 : (f_120 48).toInt = (f_103 48).toInt := by rw [← ef_120, upd_ne (by omega) (by omega)]
                exact ret_v (post := (fun (u : (Nat → Int32)) => (u 48).toInt = (Fno 48).toInt)) (W1 := (fun u => [(h0, .inr (4, [.int ype, .int ytk, .ref ywi, .ref yki, .ref yse, .ref yno, .ref yrh, .ref yrw, .ref yrk, .ref yrt, .int yrp, .int yrq, .ref ytx, .int yle, .int yat, .int yfa, .ref yby, .ref ylo, .ref yhi, .int yac, .int ynx, .ref yro, .ref ygl, .int ysn, .ref yso, .ref ysp, .ref ysw, .long ysd, .ref yik, .ref ykp])), (yno, .inl (cI, 96, .inl u)), (yki, .inl (cI, 5, .inl Fki))])) f_120 hx hb hr hlocks hQ hK hP hD hS ⟨by decide, by decide⟩ dX4_use_146 (show (f_120 48).toInt = (Fno 48).toInt by omega)
              · have tc_118 := b_eq rfl rfl c_118
                refine lv_iconst (v := 0) hx hb dX4_use_138 (by decide) ?_
                refine lv_goto (tgt := 145) hx hb dX4_use_139 (by decide) ?_
                refine va_iast hx hb hK hP hD hS 1 0 rfl rfl (vp_in_iff.mpr ⟨by omega, by omega⟩) dX4_use_145 (fun H locs hP hD hS => ?_)
                obtain ⟨f_121, ef_121⟩ : ∃ g : Nat → Int32, upd f_103 (v_116 : Int32).toNatClampNeg 0 = g := ⟨_, rfl⟩
                rw [ef_121] at hP hD
                have hP : va_P D vwCl [(h0, .inr (4, [.int ype, .int ytk, .ref ywi, .ref yki, .ref yse, .ref yno, .ref yrh, .ref yrw, .ref yrk, .ref yrt, .int yrp, .int yrq, .ref ytx, .int yle, .int yat, .int yfa, .ref yby, .ref ylo, .ref yhi, .int yac, .int ynx, .ref yro, .ref ygl, .int ysn, .ref yso, .ref ysp, .ref ysw, .long ysd, .ref yik, .ref ykp])), (yno, .inl (cI, 96, .inl f_121)), (yki, .inl (cI, 5, .inl Fki))] H := hP
                have hD : va_D A [(h0, .inr (4, [.int ype, .int ytk, .ref ywi, .ref yki, .ref yse, .ref yno, .ref yrh, .ref yrw, .ref yrk, .ref yrt, .int yrp, .int yrq, .ref ytx, .int yle, .int yat, .int yfa, .ref yby, .ref ylo, .ref yhi, .int yac, .int ynx, .ref yro, .ref ygl, .int ysn, .ref yso, .ref ysp, .ref ysw, .long ysd, .ref yik, .ref ykp])), (yno, .inl (cI, 96, .inl f_121)), (yki, .inl (cI, 5, .inl Fki))] := hD
                have k48f_121 : (f_121 48).toInt = (f_103 48).toInt := by rw [← ef_121, upd_ne (by omega) (by omega)]
                exact ret_v (post := (fun (u : (Nat → Int32)) => (u 48).toInt = (Fno 48).toInt)) (W1 := (fun u => [(h0, .inr (4, [.int ype, .int ytk, .ref ywi, .ref yki, .ref yse, .ref yno, .ref yrh, .ref yrw, .ref yrk, .ref yrt, .int yrp, .int yrq, .ref ytx, .int yle, .int yat, .int yfa, .ref yby, .ref ylo, .ref yhi, .int yac, .int ynx, .ref yro, .ref ygl, .int ysn, .ref yso, .ref ysp, .ref ysw, .long ysd, .ref yik, .ref ykp])), (yno, .inl (cI, 96, .inl u)), (yki, .inl (cI, 5, .inl Fki))])) f_121 hx hb hr hlocks hQ hK hP hD hS ⟨by decide, by decide⟩ dX4_use_146 (show (f_121 48).toInt = (Fno 48).toInt by omega)
          · have tc_102 := b_nle rfl (show (9 : Int32).toInt = 9 by decide) c_102
            refine lv_aload_n hx hb dX4_use_90 rfl (lv_at hl 3 rfl) ?_
            refine va_get (D := D) (ci := 4) (v := .ref yno) (C := RX4) (T := TX4) (N := 30) hx hb hts iX4 hown hK hP 0 rfl rfl 5 (by decide) (hts (.fieldLink RX4 19 "PunchedTicketModel" "now" "[I") (List.mem_of_getElem? (i := 1) rfl)) (fun _ h9 => h9) rfl dX4_use_91 ?_
            refine lv_iload hx hb dX4_use_94 (lv_at hl 2 rfl) ?_
            refine lv_iconst (v := 5) hx hb dX4_use_96 (by decide) ?_
            refine lv_iadd hx hb dX4_use_97 ?_
            refine lv_topi (fun v_122 ev_122 => ?_)
            have tv_122 : v_122.toInt = v_4.toInt + (5 : Int) := by rw [ev_122]; exact ti_add (x := v_4) (y := 5) (show -2147483648 ≤ v_4.toInt + (5 : Int) by omega) (show v_4.toInt + (5 : Int) < 2147483648 by omega)
            refine lv_iconst (v := 1) hx hb dX4_use_98 (by decide) ?_
            refine va_iast hx hb hK hP hD hS 1 0 rfl rfl (vp_in_iff.mpr ⟨by omega, by omega⟩) dX4_use_99 (fun H locs hP hD hS => ?_)
            obtain ⟨f_123, ef_123⟩ : ∃ g : Nat → Int32, upd Fno (v_122 : Int32).toNatClampNeg 1 = g := ⟨_, rfl⟩
            rw [ef_123] at hP hD
            have hP : va_P D vwCl [(h0, .inr (4, [.int ype, .int ytk, .ref ywi, .ref yki, .ref yse, .ref yno, .ref yrh, .ref yrw, .ref yrk, .ref yrt, .int yrp, .int yrq, .ref ytx, .int yle, .int yat, .int yfa, .ref yby, .ref ylo, .ref yhi, .int yac, .int ynx, .ref yro, .ref ygl, .int ysn, .ref yso, .ref ysp, .ref ysw, .long ysd, .ref yik, .ref ykp])), (yno, .inl (cI, 96, .inl f_123)), (yki, .inl (cI, 5, .inl Fki))] H := hP
            have hD : va_D A [(h0, .inr (4, [.int ype, .int ytk, .ref ywi, .ref yki, .ref yse, .ref yno, .ref yrh, .ref yrw, .ref yrk, .ref yrt, .int yrp, .int yrq, .ref ytx, .int yle, .int yat, .int yfa, .ref yby, .ref ylo, .ref yhi, .int yac, .int ynx, .ref yro, .ref ygl, .int ysn, .ref yso, .ref ysp, .ref ysw, .long ysd, .ref yik, .ref ykp])), (yno, .inl (cI, 96, .inl f_123)), (yki, .inl (cI, 5, .inl Fki))] := hD
            have k48f_123 : (f_123 48).toInt = (Fno 48).toInt := by rw [← ef_123, upd_ne (by omega) (by omega)]
            exact ret_v (post := (fun (u : (Nat → Int32)) => (u 48).toInt = (Fno 48).toInt)) (W1 := (fun u => [(h0, .inr (4, [.int ype, .int ytk, .ref ywi, .ref yki, .ref yse, .ref yno, .ref yrh, .ref yrw, .ref yrk, .ref yrt, .int yrp, .int yrq, .ref ytx, .int yle, .int yat, .int yfa, .ref yby, .ref ylo, .ref yhi, .int yac, .int ynx, .ref yro, .ref ygl, .int ysn, .ref yso, .ref ysp, .ref ysw, .long ysd, .ref yik, .ref ykp])), (yno, .inl (cI, 96, .inl u)), (yki, .inl (cI, 5, .inl Fki))])) f_123 hx hb hr hlocks hQ hK hP hD hS ⟨by decide, by decide⟩ dX4_use_100 (show (f_123 48).toInt = (Fno 48).toInt by omega)
    · have tc_95 := b_eq rfl (show (1 : Int32).toInt = 1 by decide) c_95
      refine lv_aload_n hx hb dX4_use_49 rfl (lv_at hl 2 rfl) ?_
      refine va_get (D := D) (ci := 4) (v := .ref yno) (C := RX4) (T := TX4) (N := 30) hx hb hts iX4 hown hK hP 0 rfl rfl 5 (by decide) (hts (.fieldLink RX4 19 "PunchedTicketModel" "now" "[I") (List.mem_of_getElem? (i := 1) rfl)) (fun _ h9 => h9) rfl dX4_use_50 ?_
      refine lv_iload hx hb dX4_use_53 (lv_at hl 1 rfl) ?_
      refine lv_iconst (v := 4) hx hb dX4_use_55 (by decide) ?_
      refine lv_iadd hx hb dX4_use_56 ?_
      refine lv_topi (fun v_124 ev_124 => ?_)
      have tv_124 : v_124.toInt = v_4.toInt + (4 : Int) := by rw [ev_124]; exact ti_add (x := v_4) (y := 4) (show -2147483648 ≤ v_4.toInt + (4 : Int) by omega) (show v_4.toInt + (4 : Int) < 2147483648 by omega)
      refine va_iald hx hb hK hP 1 0 rfl rfl (vp_in_iff.mpr ⟨by omega, by omega⟩) dX4_use_57 ?_
      refine lv_topi (fun v_125 ev_125 => ?_)
      refine lv_if_eq (tgt := 71) hx hb dX4_use_58 (by decide) (fun c_126 => ?_) (fun c_126 => ?_)
      · have tc_126 := b_eq rfl (show (0 : Int32).toInt = 0 by decide) c_126
        refine lv_iconst (v := 1) hx hb dX4_use_71 (by decide) ?_
        refine lv_goto (tgt := 76) hx hb dX4_use_72 (by decide) ?_
        refine lv_istore (lv' := [(6, .int 1), (5, .int v_93), (4, .int v_4), (0, .ref h0), (1, .int n), (2, .int k), (3, .int j)]) hx hb dX4_use_76 hl (by decide) rfl (fun ls hl => ?_)
        refine lv_iload hx hb dX4_use_78 (lv_at hl 0 rfl) ?_
        refine lv_if_eq (tgt := 90) hx hb dX4_use_80 (by decide) (fun c_127 => ?_) (fun c_127 => ?_)
        · have tc_127 := b_eq (show (1 : Int32).toInt = 1 by decide) (show (0 : Int32).toInt = 0 by decide) c_127
          exfalso; omega
        · have tc_127 := b_ne (show (1 : Int32).toInt = 1 by decide) (show (0 : Int32).toInt = 0 by decide) c_127
          refine lv_iload hx hb dX4_use_83 (lv_at hl 1 rfl) ?_
          refine lv_bipush (v := 9) hx hb dX4_use_85 (by decide) ?_
          refine lv_icmp_le (tgt := 101) hx hb dX4_use_87 (by decide) (fun c_128 => ?_) (fun c_128 => ?_)
          · have tc_128 := b_le rfl (show (9 : Int32).toInt = 9 by decide) c_128
            refine lv_aload_n hx hb dX4_use_101 rfl (lv_at hl 3 rfl) ?_
            refine va_get (D := D) (ci := 4) (v := .ref yno) (C := RX4) (T := TX4) (N := 30) hx hb hts iX4 hown hK hP 0 rfl rfl 5 (by decide) (hts (.fieldLink RX4 19 "PunchedTicketModel" "now" "[I") (List.mem_of_getElem? (i := 1) rfl)) (fun _ h9 => h9) rfl dX4_use_102 ?_
            refine lv_iload hx hb dX4_use_105 (lv_at hl 2 rfl) ?_
            refine lv_iload hx hb dX4_use_107 (lv_at hl 1 rfl) ?_
            refine va_iast hx hb hK hP hD hS 1 0 rfl rfl (vp_in_iff.mpr ⟨by omega, by omega⟩) dX4_use_109 (fun H locs hP hD hS => ?_)
            obtain ⟨f_129, ef_129⟩ : ∃ g : Nat → Int32, upd Fno (v_4 : Int32).toNatClampNeg v_93 = g := ⟨_, rfl⟩
            rw [ef_129] at hP hD
            have hP : va_P D vwCl [(h0, .inr (4, [.int ype, .int ytk, .ref ywi, .ref yki, .ref yse, .ref yno, .ref yrh, .ref yrw, .ref yrk, .ref yrt, .int yrp, .int yrq, .ref ytx, .int yle, .int yat, .int yfa, .ref yby, .ref ylo, .ref yhi, .int yac, .int ynx, .ref yro, .ref ygl, .int ysn, .ref yso, .ref ysp, .ref ysw, .long ysd, .ref yik, .ref ykp])), (yno, .inl (cI, 96, .inl f_129)), (yki, .inl (cI, 5, .inl Fki))] H := hP
            have hD : va_D A [(h0, .inr (4, [.int ype, .int ytk, .ref ywi, .ref yki, .ref yse, .ref yno, .ref yrh, .ref yrw, .ref yrk, .ref yrt, .int yrp, .int yrq, .ref ytx, .int yle, .int yat, .int yfa, .ref yby, .ref ylo, .ref yhi, .int yac, .int ynx, .ref yro, .ref ygl, .int ysn, .ref yso, .ref ysp, .ref ysw, .long ysd, .ref yik, .ref ykp])), (yno, .inl (cI, 96, .inl f_129)), (yki, .inl (cI, 5, .inl Fki))] := hD
            have k48f_129 : (f_129 48).toInt = (Fno 48).toInt := by rw [← ef_129, upd_ne (by omega) (by omega)]
            refine lv_aload_n hx hb dX4_use_110 rfl (lv_at hl 3 rfl) ?_
            refine va_get (D := D) (ci := 4) (v := .ref yki) (C := RX4) (T := TX4) (N := 30) hx hb hts iX4 hown hK hP 0 rfl rfl 3 (by decide) (hts (.fieldLink RX4 13 "PunchedTicketModel" "kind" "[I") (List.mem_of_getElem? (i := 2) rfl)) (fun _ h9 => h9) rfl dX4_use_111 ?_
            refine lv_iload_n hx hb dX4_use_114 rfl (lv_at hl 5 rfl) ?_
            refine va_iald hx hb hK hP 2 0 rfl rfl (vp_in_iff.mpr ⟨by omega, by omega⟩) dX4_use_115 ?_
            refine lv_topi (fun v_130 ev_130 => ?_)
            refine lv_iconst (v := 2) hx hb dX4_use_116 (by decide) ?_
            refine lv_icmp_ne (tgt := 147) hx hb dX4_use_117 (by decide) (fun c_131 => ?_) (fun c_131 => ?_)
            · have tc_131 := b_ne rfl (show (2 : Int32).toInt = 2 by decide) c_131
              refine lv_aload_n hx hb dX4_use_147 rfl (lv_at hl 3 rfl) ?_
              refine va_get (D := D) (ci := 4) (v := .ref yno) (C := RX4) (T := TX4) (N := 30) hx hb hts iX4 hown hK hP 0 rfl rfl 5 (by decide) (hts (.fieldLink RX4 19 "PunchedTicketModel" "now" "[I") (List.mem_of_getElem? (i := 1) rfl)) (fun _ h9 => h9) rfl dX4_use_148 ?_
              refine lv_iload hx hb dX4_use_151 (lv_at hl 2 rfl) ?_
              refine lv_iconst (v := 1) hx hb dX4_use_153 (by decide) ?_
              refine lv_iadd hx hb dX4_use_154 ?_
              refine lv_topi (fun v_132 ev_132 => ?_)
              have tv_132 : v_132.toInt = v_4.toInt + (1 : Int) := by rw [ev_132]; exact ti_add (x := v_4) (y := 1) (show -2147483648 ≤ v_4.toInt + (1 : Int) by omega) (show v_4.toInt + (1 : Int) < 2147483648 by omega)
              refine va_iald hx hb hK hP 1 0 rfl rfl (vp_in_iff.mpr ⟨by omega, by omega⟩) dX4_use_155 ?_
              refine lv_topi (fun v_133 ev_133 => ?_)
              refine lv_istore (lv' := [(7, .int v_133), (6, .int 1), (5, .int v_93), (4, .int v_4), (0, .ref h0), (1, .int n), (2, .int k), (3, .int j)]) hx hb dX4_use_156 hl (by decide) rfl (fun ls hl => ?_)
              refine lv_aload_n hx hb dX4_use_158 rfl (lv_at hl 4 rfl) ?_
              refine va_get (D := D) (ci := 4) (v := .ref yno) (C := RX4) (T := TX4) (N := 30) hx hb hts iX4 hown hK hP 0 rfl rfl 5 (by decide) (hts (.fieldLink RX4 19 "PunchedTicketModel" "now" "[I") (List.mem_of_getElem? (i := 1) rfl)) (fun _ h9 => h9) rfl dX4_use_159 ?_
              refine lv_iload hx hb dX4_use_162 (lv_at hl 3 rfl) ?_
              refine lv_iconst (v := 1) hx hb dX4_use_164 (by decide) ?_
              refine lv_iadd hx hb dX4_use_165 ?_
              refine lv_topi (fun v_134 ev_134 => ?_)
              have tv_134 : v_134.toInt = v_4.toInt + (1 : Int) := by rw [ev_134]; exact ti_add (x := v_4) (y := 1) (show -2147483648 ≤ v_4.toInt + (1 : Int) by omega) (show v_4.toInt + (1 : Int) < 2147483648 by omega)
              refine lv_aload_n hx hb dX4_use_166 rfl (lv_at hl 4 rfl) ?_
              refine va_get (D := D) (ci := 4) (v := .ref yno) (C := RX4) (T := TX4) (N := 30) hx hb hts iX4 hown hK hP 0 rfl rfl 5 (by decide) (hts (.fieldLink RX4 19 "PunchedTicketModel" "now" "[I") (List.mem_of_getElem? (i := 1) rfl)) (fun _ h9 => h9) rfl dX4_use_167 ?_
              refine lv_iload hx hb dX4_use_170 (lv_at hl 3 rfl) ?_
              refine lv_iconst (v := 2) hx hb dX4_use_172 (by decide) ?_
              refine lv_iadd hx hb dX4_use_173 ?_
              refine lv_topi (fun v_135 ev_135 => ?_)
              have tv_135 : v_135.toInt = v_4.toInt + (2 : Int) := by rw [ev_135]; exact ti_add (x := v_4) (y := 2) (show -2147483648 ≤ v_4.toInt + (2 : Int) by omega) (show v_4.toInt + (2 : Int) < 2147483648 by omega)
              refine va_iald hx hb hK hP 1 0 rfl rfl (vp_in_iff.mpr ⟨by omega, by omega⟩) dX4_use_174 ?_
              refine lv_topi (fun v_136 ev_136 => ?_)
              refine va_iast hx hb hK hP hD hS 1 0 rfl rfl (vp_in_iff.mpr ⟨by omega, by omega⟩) dX4_use_175 (fun H locs hP hD hS => ?_)
              obtain ⟨f_137, ef_137⟩ : ∃ g : Nat → Int32, upd f_129 (v_134 : Int32).toNatClampNeg v_136 = g := ⟨_, rfl⟩
              rw [ef_137] at hP hD
              have hP : va_P D vwCl [(h0, .inr (4, [.int ype, .int ytk, .ref ywi, .ref yki, .ref yse, .ref yno, .ref yrh, .ref yrw, .ref yrk, .ref yrt, .int yrp, .int yrq, .ref ytx, .int yle, .int yat, .int yfa, .ref yby, .ref ylo, .ref yhi, .int yac, .int ynx, .ref yro, .ref ygl, .int ysn, .ref yso, .ref ysp, .ref ysw, .long ysd, .ref yik, .ref ykp])), (yno, .inl (cI, 96, .inl f_137)), (yki, .inl (cI, 5, .inl Fki))] H := hP
              have hD : va_D A [(h0, .inr (4, [.int ype, .int ytk, .ref ywi, .ref yki, .ref yse, .ref yno, .ref yrh, .ref yrw, .ref yrk, .ref yrt, .int yrp, .int yrq, .ref ytx, .int yle, .int yat, .int yfa, .ref yby, .ref ylo, .ref yhi, .int yac, .int ynx, .ref yro, .ref ygl, .int ysn, .ref yso, .ref ysp, .ref ysw, .long ysd, .ref yik, .ref ykp])), (yno, .inl (cI, 96, .inl f_137)), (yki, .inl (cI, 5, .inl Fki))] := hD
              have k48f_137 : (f_137 48).toInt = (f_129 48).toInt := by rw [← ef_137, upd_ne (by omega) (by omega)]
              refine lv_aload_n hx hb dX4_use_176 rfl (lv_at hl 4 rfl) ?_
              refine va_get (D := D) (ci := 4) (v := .ref yno) (C := RX4) (T := TX4) (N := 30) hx hb hts iX4 hown hK hP 0 rfl rfl 5 (by decide) (hts (.fieldLink RX4 19 "PunchedTicketModel" "now" "[I") (List.mem_of_getElem? (i := 1) rfl)) (fun _ h9 => h9) rfl dX4_use_177 ?_
              refine lv_iload hx hb dX4_use_180 (lv_at hl 3 rfl) ?_
              refine lv_iconst (v := 2) hx hb dX4_use_182 (by decide) ?_
              refine lv_iadd hx hb dX4_use_183 ?_
              refine lv_topi (fun v_138 ev_138 => ?_)
              have tv_138 : v_138.toInt = v_4.toInt + (2 : Int) := by rw [ev_138]; exact ti_add (x := v_4) (y := 2) (show -2147483648 ≤ v_4.toInt + (2 : Int) by omega) (show v_4.toInt + (2 : Int) < 2147483648 by omega)
              refine lv_iload hx hb dX4_use_184 (lv_at hl 0 rfl) ?_
              refine va_iast hx hb hK hP hD hS 1 0 rfl rfl (vp_in_iff.mpr ⟨by omega, by omega⟩) dX4_use_186 (fun H locs hP hD hS => ?_)
              obtain ⟨f_139, ef_139⟩ : ∃ g : Nat → Int32, upd f_137 (v_138 : Int32).toNatClampNeg v_133 = g := ⟨_, rfl⟩
              rw [ef_139] at hP hD
              have hP : va_P D vwCl [(h0, .inr (4, [.int ype, .int ytk, .ref ywi, .ref yki, .ref yse, .ref yno, .ref yrh, .ref yrw, .ref yrk, .ref yrt, .int yrp, .int yrq, .ref ytx, .int yle, .int yat, .int yfa, .ref yby, .ref ylo, .ref yhi, .int yac, .int ynx, .ref yro, .ref ygl, .int ysn, .ref yso, .ref ysp, .ref ysw, .long ysd, .ref yik, .ref ykp])), (yno, .inl (cI, 96, .inl f_139)), (yki, .inl (cI, 5, .inl Fki))] H := hP
              have hD : va_D A [(h0, .inr (4, [.int ype, .int ytk, .ref ywi, .ref yki, .ref yse, .ref yno, .ref yrh, .ref yrw, .ref yrk, .ref yrt, .int yrp, .int yrq, .ref ytx, .int yle, .int yat, .int yfa, .ref yby, .ref ylo, .ref yhi, .int yac, .int ynx, .ref yro, .ref ygl, .int ysn, .ref yso, .ref ysp, .ref ysw, .long ysd, .ref yik, .ref ykp])), (yno, .inl (cI, 96, .inl f_139)), (yki, .inl (cI, 5, .inl Fki))] := hD
              have k48f_139 : (f_139 48).toInt = (f_137 48).toInt := by rw [← ef_139, upd_ne (by omega) (by omega)]
              refine lv_aload_n hx hb dX4_use_187 rfl (lv_at hl 4 rfl) ?_
              refine va_get (D := D) (ci := 4) (v := .ref yno) (C := RX4) (T := TX4) (N := 30) hx hb hts iX4 hown hK hP 0 rfl rfl 5 (by decide) (hts (.fieldLink RX4 19 "PunchedTicketModel" "now" "[I") (List.mem_of_getElem? (i := 1) rfl)) (fun _ h9 => h9) rfl dX4_use_188 ?_
              refine lv_iload hx hb dX4_use_191 (lv_at hl 3 rfl) ?_
              refine lv_iconst (v := 4) hx hb dX4_use_193 (by decide) ?_
              refine lv_iadd hx hb dX4_use_194 ?_
              refine lv_topi (fun v_140 ev_140 => ?_)
              have tv_140 : v_140.toInt = v_4.toInt + (4 : Int) := by rw [ev_140]; exact ti_add (x := v_4) (y := 4) (show -2147483648 ≤ v_4.toInt + (4 : Int) by omega) (show v_4.toInt + (4 : Int) < 2147483648 by omega)
              refine lv_iconst (v := 1) hx hb dX4_use_195 (by decide) ?_
              refine va_iast hx hb hK hP hD hS 1 0 rfl rfl (vp_in_iff.mpr ⟨by omega, by omega⟩) dX4_use_196 (fun H locs hP hD hS => ?_)
              obtain ⟨f_141, ef_141⟩ : ∃ g : Nat → Int32, upd f_139 (v_140 : Int32).toNatClampNeg 1 = g := ⟨_, rfl⟩
              rw [ef_141] at hP hD
              have hP : va_P D vwCl [(h0, .inr (4, [.int ype, .int ytk, .ref ywi, .ref yki, .ref yse, .ref yno, .ref yrh, .ref yrw, .ref yrk, .ref yrt, .int yrp, .int yrq, .ref ytx, .int yle, .int yat, .int yfa, .ref yby, .ref ylo, .ref yhi, .int yac, .int ynx, .ref yro, .ref ygl, .int ysn, .ref yso, .ref ysp, .ref ysw, .long ysd, .ref yik, .ref ykp])), (yno, .inl (cI, 96, .inl f_141)), (yki, .inl (cI, 5, .inl Fki))] H := hP
              have hD : va_D A [(h0, .inr (4, [.int ype, .int ytk, .ref ywi, .ref yki, .ref yse, .ref yno, .ref yrh, .ref yrw, .ref yrk, .ref yrt, .int yrp, .int yrq, .ref ytx, .int yle, .int yat, .int yfa, .ref yby, .ref ylo, .ref yhi, .int yac, .int ynx, .ref yro, .ref ygl, .int ysn, .ref yso, .ref ysp, .ref ysw, .long ysd, .ref yik, .ref ykp])), (yno, .inl (cI, 96, .inl f_141)), (yki, .inl (cI, 5, .inl Fki))] := hD
              have k48f_141 : (f_141 48).toInt = (f_139 48).toInt := by rw [← ef_141, upd_ne (by omega) (by omega)]
              exact ret_v (post := (fun (u : (Nat → Int32)) => (u 48).toInt = (Fno 48).toInt)) (W1 := (fun u => [(h0, .inr (4, [.int ype, .int ytk, .ref ywi, .ref yki, .ref yse, .ref yno, .ref yrh, .ref yrw, .ref yrk, .ref yrt, .int yrp, .int yrq, .ref ytx, .int yle, .int yat, .int yfa, .ref yby, .ref ylo, .ref yhi, .int yac, .int ynx, .ref yro, .ref ygl, .int ysn, .ref yso, .ref ysp, .ref ysw, .long ysd, .ref yik, .ref ykp])), (yno, .inl (cI, 96, .inl u)), (yki, .inl (cI, 5, .inl Fki))])) f_141 hx hb hr hlocks hQ hK hP hD hS ⟨by decide, by decide⟩ dX4_use_197 (show (f_141 48).toInt = (Fno 48).toInt by omega)
            · have tc_131 := b_eq rfl (show (2 : Int32).toInt = 2 by decide) c_131
              refine lv_aload_n hx hb dX4_use_120 rfl (lv_at hl 3 rfl) ?_
              refine va_get (D := D) (ci := 4) (v := .ref yno) (C := RX4) (T := TX4) (N := 30) hx hb hts iX4 hown hK hP 0 rfl rfl 5 (by decide) (hts (.fieldLink RX4 19 "PunchedTicketModel" "now" "[I") (List.mem_of_getElem? (i := 1) rfl)) (fun _ h9 => h9) rfl dX4_use_121 ?_
              refine lv_iload hx hb dX4_use_124 (lv_at hl 2 rfl) ?_
              refine lv_iconst (v := 3) hx hb dX4_use_126 (by decide) ?_
              refine lv_iadd hx hb dX4_use_127 ?_
              refine lv_topi (fun v_142 ev_142 => ?_)
              have tv_142 : v_142.toInt = v_4.toInt + (3 : Int) := by rw [ev_142]; exact ti_add (x := v_4) (y := 3) (show -2147483648 ≤ v_4.toInt + (3 : Int) by omega) (show v_4.toInt + (3 : Int) < 2147483648 by omega)
              refine lv_iload_n hx hb dX4_use_128 rfl (lv_at hl 5 rfl) ?_
              refine lv_iconst (v := 1) hx hb dX4_use_129 (by decide) ?_
              refine lv_iadd hx hb dX4_use_130 ?_
              refine lv_topi (fun v_143 ev_143 => ?_)
              have tv_143 : v_143.toInt = k.toInt + (1 : Int) := by rw [ev_143]; exact ti_add (x := k) (y := 1) (show -2147483648 ≤ k.toInt + (1 : Int) by omega) (show k.toInt + (1 : Int) < 2147483648 by omega)
              refine lv_aload_n hx hb dX4_use_131 rfl (lv_at hl 3 rfl) ?_
              refine va_get (D := D) (ci := 4) (v := .int ype) (C := RX4) (T := TX4) (N := 30) hx hb hts iX4 hown hK hP 0 rfl rfl 0 (by decide) (hts (.fieldLink RX4 68 "PunchedTicketModel" "people" "I") (List.mem_of_getElem? (i := 3) rfl)) (fun _ h9 => h9) rfl dX4_use_132 ?_
              refine lv_icmp_ne (tgt := 142) hx hb dX4_use_135 (by decide) (fun c_144 => ?_) (fun c_144 => ?_)
              · have tc_144 := b_ne rfl rfl c_144
                refine lv_iload_n hx hb dX4_use_142 rfl (lv_at hl 5 rfl) ?_
                refine lv_iconst (v := 1) hx hb dX4_use_143 (by decide) ?_
                refine lv_iadd hx hb dX4_use_144 ?_
                refine lv_topi (fun v_145 ev_145 => ?_)
                have tv_145 : v_145.toInt = k.toInt + (1 : Int) := by rw [ev_145]; exact ti_add (x := k) (y := 1) (show -2147483648 ≤ k.toInt + (1 : Int) by omega) (show k.toInt + (1 : Int) < 2147483648 by omega)
                refine va_iast hx hb hK hP hD hS 1 0 rfl rfl (vp_in_iff.mpr ⟨by omega, by omega⟩) dX4_use_145 (fun H locs hP hD hS => ?_)
                obtain ⟨f_146, ef_146⟩ : ∃ g : Nat → Int32, upd f_129 (v_142 : Int32).toNatClampNeg v_145 = g := ⟨_, rfl⟩
                rw [ef_146] at hP hD
                have hP : va_P D vwCl [(h0, .inr (4, [.int ype, .int ytk, .ref ywi, .ref yki, .ref yse, .ref yno, .ref yrh, .ref yrw, .ref yrk, .ref yrt, .int yrp, .int yrq, .ref ytx, .int yle, .int yat, .int yfa, .ref yby, .ref ylo, .ref yhi, .int yac, .int ynx, .ref yro, .ref ygl, .int ysn, .ref yso, .ref ysp, .ref ysw, .long ysd, .ref yik, .ref ykp])), (yno, .inl (cI, 96, .inl f_146)), (yki, .inl (cI, 5, .inl Fki))] H := hP
                have hD : va_D A [(h0, .inr (4, [.int ype, .int ytk, .ref ywi, .ref yki, .ref yse, .ref yno, .ref yrh, .ref yrw, .ref yrk, .ref yrt, .int yrp, .int yrq, .ref ytx, .int yle, .int yat, .int yfa, .ref yby, .ref ylo, .ref yhi, .int yac, .int ynx, .ref yro, .ref ygl, .int ysn, .ref yso, .ref ysp, .ref ysw, .long ysd, .ref yik, .ref ykp])), (yno, .inl (cI, 96, .inl f_146)), (yki, .inl (cI, 5, .inl Fki))] := hD
                have k48f_146 : (f_146 48).toInt = (f_129 48).toInt := by rw [← ef_146, upd_ne (by omega) (by omega)]
                exact ret_v (post := (fun (u : (Nat → Int32)) => (u 48).toInt = (Fno 48).toInt)) (W1 := (fun u => [(h0, .inr (4, [.int ype, .int ytk, .ref ywi, .ref yki, .ref yse, .ref yno, .ref yrh, .ref yrw, .ref yrk, .ref yrt, .int yrp, .int yrq, .ref ytx, .int yle, .int yat, .int yfa, .ref yby, .ref ylo, .ref yhi, .int yac, .int ynx, .ref yro, .ref ygl, .int ysn, .ref yso, .ref ysp, .ref ysw, .long ysd, .ref yik, .ref ykp])), (yno, .inl (cI, 96, .inl u)), (yki, .inl (cI, 5, .inl Fki))])) f_146 hx hb hr hlocks hQ hK hP hD hS ⟨by decide, by decide⟩ dX4_use_146 (show (f_146 48).toInt = (Fno 48).toInt by omega)
              · have tc_144 := b_eq rfl rfl c_144
                refine lv_iconst (v := 0) hx hb dX4_use_138 (by decide) ?_
                refine lv_goto (tgt := 145) hx hb dX4_use_139 (by decide) ?_
                refine va_iast hx hb hK hP hD hS 1 0 rfl rfl (vp_in_iff.mpr ⟨by omega, by omega⟩) dX4_use_145 (fun H locs hP hD hS => ?_)
                obtain ⟨f_147, ef_147⟩ : ∃ g : Nat → Int32, upd f_129 (v_142 : Int32).toNatClampNeg 0 = g := ⟨_, rfl⟩
                rw [ef_147] at hP hD
                have hP : va_P D vwCl [(h0, .inr (4, [.int ype, .int ytk, .ref ywi, .ref yki, .ref yse, .ref yno, .ref yrh, .ref yrw, .ref yrk, .ref yrt, .int yrp, .int yrq, .ref ytx, .int yle, .int yat, .int yfa, .ref yby, .ref ylo, .ref yhi, .int yac, .int ynx, .ref yro, .ref ygl, .int ysn, .ref yso, .ref ysp, .ref ysw, .long ysd, .ref yik, .ref ykp])), (yno, .inl (cI, 96, .inl f_147)), (yki, .inl (cI, 5, .inl Fki))] H := hP
                have hD : va_D A [(h0, .inr (4, [.int ype, .int ytk, .ref ywi, .ref yki, .ref yse, .ref yno, .ref yrh, .ref yrw, .ref yrk, .ref yrt, .int yrp, .int yrq, .ref ytx, .int yle, .int yat, .int yfa, .ref yby, .ref ylo, .ref yhi, .int yac, .int ynx, .ref yro, .ref ygl, .int ysn, .ref yso, .ref ysp, .ref ysw, .long ysd, .ref yik, .ref ykp])), (yno, .inl (cI, 96, .inl f_147)), (yki, .inl (cI, 5, .inl Fki))] := hD
                have k48f_147 : (f_147 48).toInt = (f_129 48).toInt := by rw [← ef_147, upd_ne (by omega) (by omega)]
                exact ret_v (post := (fun (u : (Nat → Int32)) => (u 48).toInt = (Fno 48).toInt)) (W1 := (fun u => [(h0, .inr (4, [.int ype, .int ytk, .ref ywi, .ref yki, .ref yse, .ref yno, .ref yrh, .ref yrw, .ref yrk, .ref yrt, .int yrp, .int yrq, .ref ytx, .int yle, .int yat, .int yfa, .ref yby, .ref ylo, .ref yhi, .int yac, .int ynx, .ref yro, .ref ygl, .int ysn, .ref yso, .ref ysp, .ref ysw, .long ysd, .ref yik, .ref ykp])), (yno, .inl (cI, 96, .inl u)), (yki, .inl (cI, 5, .inl Fki))])) f_147 hx hb hr hlocks hQ hK hP hD hS ⟨by decide, by decide⟩ dX4_use_146 (show (f_147 48).toInt = (Fno 48).toInt by omega)
          · have tc_128 := b_nle rfl (show (9 : Int32).toInt = 9 by decide) c_128
            refine lv_aload_n hx hb dX4_use_90 rfl (lv_at hl 3 rfl) ?_
            refine va_get (D := D) (ci := 4) (v := .ref yno) (C := RX4) (T := TX4) (N := 30) hx hb hts iX4 hown hK hP 0 rfl rfl 5 (by decide) (hts (.fieldLink RX4 19 "PunchedTicketModel" "now" "[I") (List.mem_of_getElem? (i := 1) rfl)) (fun _ h9 => h9) rfl dX4_use_91 ?_
            refine lv_iload hx hb dX4_use_94 (lv_at hl 2 rfl) ?_
            refine lv_iconst (v := 5) hx hb dX4_use_96 (by decide) ?_
            refine lv_iadd hx hb dX4_use_97 ?_
            refine lv_topi (fun v_148 ev_148 => ?_)
            have tv_148 : v_148.toInt = v_4.toInt + (5 : Int) := by rw [ev_148]; exact ti_add (x := v_4) (y := 5) (show -2147483648 ≤ v_4.toInt + (5 : Int) by omega) (show v_4.toInt + (5 : Int) < 2147483648 by omega)
            refine lv_iconst (v := 1) hx hb dX4_use_98 (by decide) ?_
            refine va_iast hx hb hK hP hD hS 1 0 rfl rfl (vp_in_iff.mpr ⟨by omega, by omega⟩) dX4_use_99 (fun H locs hP hD hS => ?_)
            obtain ⟨f_149, ef_149⟩ : ∃ g : Nat → Int32, upd Fno (v_148 : Int32).toNatClampNeg 1 = g := ⟨_, rfl⟩
            rw [ef_149] at hP hD
            have hP : va_P D vwCl [(h0, .inr (4, [.int ype, .int ytk, .ref ywi, .ref yki, .ref yse, .ref yno, .ref yrh, .ref yrw, .ref yrk, .ref yrt, .int yrp, .int yrq, .ref ytx, .int yle, .int yat, .int yfa, .ref yby, .ref ylo, .ref yhi, .int yac, .int ynx, .ref yro, .ref ygl, .int ysn, .ref yso, .ref ysp, .ref ysw, .long ysd, .ref yik, .ref ykp])), (yno, .inl (cI, 96, .inl f_149)), (yki, .inl (cI, 5, .inl Fki))] H := hP
            have hD : va_D A [(h0, .inr (4, [.int ype, .int ytk, .ref ywi, .ref yki, .ref yse, .ref yno, .ref yrh, .ref yrw, .ref yrk, .ref yrt, .int yrp, .int yrq, .ref ytx, .int yle, .int yat, .int yfa, .ref yby, .ref ylo, .ref yhi, .int yac, .int ynx, .ref yro, .ref ygl, .int ysn, .ref yso, .ref ysp, .ref ysw, .long ysd, .ref yik, .ref ykp])), (yno, .inl (cI, 96, .inl f_149)), (yki, .inl (cI, 5, .inl Fki))] := hD
            have k48f_149 : (f_149 48).toInt = (Fno 48).toInt := by rw [← ef_149, upd_ne (by omega) (by omega)]
            exact ret_v (post := (fun (u : (Nat → Int32)) => (u 48).toInt = (Fno 48).toInt)) (W1 := (fun u => [(h0, .inr (4, [.int ype, .int ytk, .ref ywi, .ref yki, .ref yse, .ref yno, .ref yrh, .ref yrw, .ref yrk, .ref yrt, .int yrp, .int yrq, .ref ytx, .int yle, .int yat, .int yfa, .ref yby, .ref ylo, .ref yhi, .int yac, .int ynx, .ref yro, .ref ygl, .int ysn, .ref yso, .ref ysp, .ref ysw, .long ysd, .ref yik, .ref ykp])), (yno, .inl (cI, 96, .inl u)), (yki, .inl (cI, 5, .inl Fki))])) f_149 hx hb hr hlocks hQ hK hP hD hS ⟨by decide, by decide⟩ dX4_use_100 (show (f_149 48).toInt = (Fno 48).toInt by omega)
      · have tc_126 := b_ne rfl (show (0 : Int32).toInt = 0 by decide) c_126
        refine lv_aload_n hx hb dX4_use_61 rfl (lv_at hl 2 rfl) ?_
        refine va_get (D := D) (ci := 4) (v := .ref yki) (C := RX4) (T := TX4) (N := 30) hx hb hts iX4 hown hK hP 0 rfl rfl 3 (by decide) (hts (.fieldLink RX4 13 "PunchedTicketModel" "kind" "[I") (List.mem_of_getElem? (i := 2) rfl)) (fun _ h9 => h9) rfl dX4_use_62 ?_
        refine lv_iload_n hx hb dX4_use_65 rfl (lv_at hl 4 rfl) ?_
        refine va_iald hx hb hK hP 2 0 rfl rfl (vp_in_iff.mpr ⟨by omega, by omega⟩) dX4_use_66 ?_
        refine lv_topi (fun v_150 ev_150 => ?_)
        refine lv_iconst (v := 2) hx hb dX4_use_67 (by decide) ?_
        refine lv_icmp_ne (tgt := 75) hx hb dX4_use_68 (by decide) (fun c_151 => ?_) (fun c_151 => ?_)
        · have tc_151 := b_ne rfl (show (2 : Int32).toInt = 2 by decide) c_151
          refine lv_iconst (v := 0) hx hb dX4_use_75 (by decide) ?_
          refine lv_istore (lv' := [(6, .int 0), (5, .int v_93), (4, .int v_4), (0, .ref h0), (1, .int n), (2, .int k), (3, .int j)]) hx hb dX4_use_76 hl (by decide) rfl (fun ls hl => ?_)
          refine lv_iload hx hb dX4_use_78 (lv_at hl 0 rfl) ?_
          refine lv_if_eq (tgt := 90) hx hb dX4_use_80 (by decide) (fun c_152 => ?_) (fun c_152 => ?_)
          · have tc_152 := b_eq (show (0 : Int32).toInt = 0 by decide) (show (0 : Int32).toInt = 0 by decide) c_152
            refine lv_aload_n hx hb dX4_use_90 rfl (lv_at hl 3 rfl) ?_
            refine va_get (D := D) (ci := 4) (v := .ref yno) (C := RX4) (T := TX4) (N := 30) hx hb hts iX4 hown hK hP 0 rfl rfl 5 (by decide) (hts (.fieldLink RX4 19 "PunchedTicketModel" "now" "[I") (List.mem_of_getElem? (i := 1) rfl)) (fun _ h9 => h9) rfl dX4_use_91 ?_
            refine lv_iload hx hb dX4_use_94 (lv_at hl 2 rfl) ?_
            refine lv_iconst (v := 5) hx hb dX4_use_96 (by decide) ?_
            refine lv_iadd hx hb dX4_use_97 ?_
            refine lv_topi (fun v_153 ev_153 => ?_)
            have tv_153 : v_153.toInt = v_4.toInt + (5 : Int) := by rw [ev_153]; exact ti_add (x := v_4) (y := 5) (show -2147483648 ≤ v_4.toInt + (5 : Int) by omega) (show v_4.toInt + (5 : Int) < 2147483648 by omega)
            refine lv_iconst (v := 1) hx hb dX4_use_98 (by decide) ?_
            refine va_iast hx hb hK hP hD hS 1 0 rfl rfl (vp_in_iff.mpr ⟨by omega, by omega⟩) dX4_use_99 (fun H locs hP hD hS => ?_)
            obtain ⟨f_154, ef_154⟩ : ∃ g : Nat → Int32, upd Fno (v_153 : Int32).toNatClampNeg 1 = g := ⟨_, rfl⟩
            rw [ef_154] at hP hD
            have hP : va_P D vwCl [(h0, .inr (4, [.int ype, .int ytk, .ref ywi, .ref yki, .ref yse, .ref yno, .ref yrh, .ref yrw, .ref yrk, .ref yrt, .int yrp, .int yrq, .ref ytx, .int yle, .int yat, .int yfa, .ref yby, .ref ylo, .ref yhi, .int yac, .int ynx, .ref yro, .ref ygl, .int ysn, .ref yso, .ref ysp, .ref ysw, .long ysd, .ref yik, .ref ykp])), (yno, .inl (cI, 96, .inl f_154)), (yki, .inl (cI, 5, .inl Fki))] H := hP
            have hD : va_D A [(h0, .inr (4, [.int ype, .int ytk, .ref ywi, .ref yki, .ref yse, .ref yno, .ref yrh, .ref yrw, .ref yrk, .ref yrt, .int yrp, .int yrq, .ref ytx, .int yle, .int yat, .int yfa, .ref yby, .ref ylo, .ref yhi, .int yac, .int ynx, .ref yro, .ref ygl, .int ysn, .ref yso, .ref ysp, .ref ysw, .long ysd, .ref yik, .ref ykp])), (yno, .inl (cI, 96, .inl f_154)), (yki, .inl (cI, 5, .inl Fki))] := hD
            have k48f_154 : (f_154 48).toInt = (Fno 48).toInt := by rw [← ef_154, upd_ne (by omega) (by omega)]
            exact ret_v (post := (fun (u : (Nat → Int32)) => (u 48).toInt = (Fno 48).toInt)) (W1 := (fun u => [(h0, .inr (4, [.int ype, .int ytk, .ref ywi, .ref yki, .ref yse, .ref yno, .ref yrh, .ref yrw, .ref yrk, .ref yrt, .int yrp, .int yrq, .ref ytx, .int yle, .int yat, .int yfa, .ref yby, .ref ylo, .ref yhi, .int yac, .int ynx, .ref yro, .ref ygl, .int ysn, .ref yso, .ref ysp, .ref ysw, .long ysd, .ref yik, .ref ykp])), (yno, .inl (cI, 96, .inl u)), (yki, .inl (cI, 5, .inl Fki))])) f_154 hx hb hr hlocks hQ hK hP hD hS ⟨by decide, by decide⟩ dX4_use_100 (show (f_154 48).toInt = (Fno 48).toInt by omega)
          · have tc_152 := b_ne (show (0 : Int32).toInt = 0 by decide) (show (0 : Int32).toInt = 0 by decide) c_152
            exfalso; omega
        · have tc_151 := b_eq rfl (show (2 : Int32).toInt = 2 by decide) c_151
          refine lv_iconst (v := 1) hx hb dX4_use_71 (by decide) ?_
          refine lv_goto (tgt := 76) hx hb dX4_use_72 (by decide) ?_
          refine lv_istore (lv' := [(6, .int 1), (5, .int v_93), (4, .int v_4), (0, .ref h0), (1, .int n), (2, .int k), (3, .int j)]) hx hb dX4_use_76 hl (by decide) rfl (fun ls hl => ?_)
          refine lv_iload hx hb dX4_use_78 (lv_at hl 0 rfl) ?_
          refine lv_if_eq (tgt := 90) hx hb dX4_use_80 (by decide) (fun c_155 => ?_) (fun c_155 => ?_)
          · have tc_155 := b_eq (show (1 : Int32).toInt = 1 by decide) (show (0 : Int32).toInt = 0 by decide) c_155
            exfalso; omega
          · have tc_155 := b_ne (show (1 : Int32).toInt = 1 by decide) (show (0 : Int32).toInt = 0 by decide) c_155
            refine lv_iload hx hb dX4_use_83 (lv_at hl 1 rfl) ?_
            refine lv_bipush (v := 9) hx hb dX4_use_85 (by decide) ?_
            refine lv_icmp_le (tgt := 101) hx hb dX4_use_87 (by decide) (fun c_156 => ?_) (fun c_156 => ?_)
            · have tc_156 := b_le rfl (show (9 : Int32).toInt = 9 by decide) c_156
              refine lv_aload_n hx hb dX4_use_101 rfl (lv_at hl 3 rfl) ?_
              refine va_get (D := D) (ci := 4) (v := .ref yno) (C := RX4) (T := TX4) (N := 30) hx hb hts iX4 hown hK hP 0 rfl rfl 5 (by decide) (hts (.fieldLink RX4 19 "PunchedTicketModel" "now" "[I") (List.mem_of_getElem? (i := 1) rfl)) (fun _ h9 => h9) rfl dX4_use_102 ?_
              refine lv_iload hx hb dX4_use_105 (lv_at hl 2 rfl) ?_
              refine lv_iload hx hb dX4_use_107 (lv_at hl 1 rfl) ?_
              refine va_iast hx hb hK hP hD hS 1 0 rfl rfl (vp_in_iff.mpr ⟨by omega, by omega⟩) dX4_use_109 (fun H locs hP hD hS => ?_)
              obtain ⟨f_157, ef_157⟩ : ∃ g : Nat → Int32, upd Fno (v_4 : Int32).toNatClampNeg v_93 = g := ⟨_, rfl⟩
              rw [ef_157] at hP hD
              have hP : va_P D vwCl [(h0, .inr (4, [.int ype, .int ytk, .ref ywi, .ref yki, .ref yse, .ref yno, .ref yrh, .ref yrw, .ref yrk, .ref yrt, .int yrp, .int yrq, .ref ytx, .int yle, .int yat, .int yfa, .ref yby, .ref ylo, .ref yhi, .int yac, .int ynx, .ref yro, .ref ygl, .int ysn, .ref yso, .ref ysp, .ref ysw, .long ysd, .ref yik, .ref ykp])), (yno, .inl (cI, 96, .inl f_157)), (yki, .inl (cI, 5, .inl Fki))] H := hP
              have hD : va_D A [(h0, .inr (4, [.int ype, .int ytk, .ref ywi, .ref yki, .ref yse, .ref yno, .ref yrh, .ref yrw, .ref yrk, .ref yrt, .int yrp, .int yrq, .ref ytx, .int yle, .int yat, .int yfa, .ref yby, .ref ylo, .ref yhi, .int yac, .int ynx, .ref yro, .ref ygl, .int ysn, .ref yso, .ref ysp, .ref ysw, .long ysd, .ref yik, .ref ykp])), (yno, .inl (cI, 96, .inl f_157)), (yki, .inl (cI, 5, .inl Fki))] := hD
              have k48f_157 : (f_157 48).toInt = (Fno 48).toInt := by rw [← ef_157, upd_ne (by omega) (by omega)]
              refine lv_aload_n hx hb dX4_use_110 rfl (lv_at hl 3 rfl) ?_
              refine va_get (D := D) (ci := 4) (v := .ref yki) (C := RX4) (T := TX4) (N := 30) hx hb hts iX4 hown hK hP 0 rfl rfl 3 (by decide) (hts (.fieldLink RX4 13 "PunchedTicketModel" "kind" "[I") (List.mem_of_getElem? (i := 2) rfl)) (fun _ h9 => h9) rfl dX4_use_111 ?_
              refine lv_iload_n hx hb dX4_use_114 rfl (lv_at hl 5 rfl) ?_
              refine va_iald hx hb hK hP 2 0 rfl rfl (vp_in_iff.mpr ⟨by omega, by omega⟩) dX4_use_115 ?_
              refine lv_topi (fun v_158 ev_158 => ?_)
              refine lv_iconst (v := 2) hx hb dX4_use_116 (by decide) ?_
              refine lv_icmp_ne (tgt := 147) hx hb dX4_use_117 (by decide) (fun c_159 => ?_) (fun c_159 => ?_)
              · have tc_159 := b_ne rfl (show (2 : Int32).toInt = 2 by decide) c_159
                refine lv_aload_n hx hb dX4_use_147 rfl (lv_at hl 3 rfl) ?_
                refine va_get (D := D) (ci := 4) (v := .ref yno) (C := RX4) (T := TX4) (N := 30) hx hb hts iX4 hown hK hP 0 rfl rfl 5 (by decide) (hts (.fieldLink RX4 19 "PunchedTicketModel" "now" "[I") (List.mem_of_getElem? (i := 1) rfl)) (fun _ h9 => h9) rfl dX4_use_148 ?_
                refine lv_iload hx hb dX4_use_151 (lv_at hl 2 rfl) ?_
                refine lv_iconst (v := 1) hx hb dX4_use_153 (by decide) ?_
                refine lv_iadd hx hb dX4_use_154 ?_
                refine lv_topi (fun v_160 ev_160 => ?_)
                have tv_160 : v_160.toInt = v_4.toInt + (1 : Int) := by rw [ev_160]; exact ti_add (x := v_4) (y := 1) (show -2147483648 ≤ v_4.toInt + (1 : Int) by omega) (show v_4.toInt + (1 : Int) < 2147483648 by omega)
                refine va_iald hx hb hK hP 1 0 rfl rfl (vp_in_iff.mpr ⟨by omega, by omega⟩) dX4_use_155 ?_
                refine lv_topi (fun v_161 ev_161 => ?_)
                refine lv_istore (lv' := [(7, .int v_161), (6, .int 1), (5, .int v_93), (4, .int v_4), (0, .ref h0), (1, .int n), (2, .int k), (3, .int j)]) hx hb dX4_use_156 hl (by decide) rfl (fun ls hl => ?_)
                refine lv_aload_n hx hb dX4_use_158 rfl (lv_at hl 4 rfl) ?_
                refine va_get (D := D) (ci := 4) (v := .ref yno) (C := RX4) (T := TX4) (N := 30) hx hb hts iX4 hown hK hP 0 rfl rfl 5 (by decide) (hts (.fieldLink RX4 19 "PunchedTicketModel" "now" "[I") (List.mem_of_getElem? (i := 1) rfl)) (fun _ h9 => h9) rfl dX4_use_159 ?_
                refine lv_iload hx hb dX4_use_162 (lv_at hl 3 rfl) ?_
                refine lv_iconst (v := 1) hx hb dX4_use_164 (by decide) ?_
                refine lv_iadd hx hb dX4_use_165 ?_
                refine lv_topi (fun v_162 ev_162 => ?_)
                have tv_162 : v_162.toInt = v_4.toInt + (1 : Int) := by rw [ev_162]; exact ti_add (x := v_4) (y := 1) (show -2147483648 ≤ v_4.toInt + (1 : Int) by omega) (show v_4.toInt + (1 : Int) < 2147483648 by omega)
                refine lv_aload_n hx hb dX4_use_166 rfl (lv_at hl 4 rfl) ?_
                refine va_get (D := D) (ci := 4) (v := .ref yno) (C := RX4) (T := TX4) (N := 30) hx hb hts iX4 hown hK hP 0 rfl rfl 5 (by decide) (hts (.fieldLink RX4 19 "PunchedTicketModel" "now" "[I") (List.mem_of_getElem? (i := 1) rfl)) (fun _ h9 => h9) rfl dX4_use_167 ?_
                refine lv_iload hx hb dX4_use_170 (lv_at hl 3 rfl) ?_
                refine lv_iconst (v := 2) hx hb dX4_use_172 (by decide) ?_
                refine lv_iadd hx hb dX4_use_173 ?_
                refine lv_topi (fun v_163 ev_163 => ?_)
                have tv_163 : v_163.toInt = v_4.toInt + (2 : Int) := by rw [ev_163]; exact ti_add (x := v_4) (y := 2) (show -2147483648 ≤ v_4.toInt + (2 : Int) by omega) (show v_4.toInt + (2 : Int) < 2147483648 by omega)
                refine va_iald hx hb hK hP 1 0 rfl rfl (vp_in_iff.mpr ⟨by omega, by omega⟩) dX4_use_174 ?_
                refine lv_topi (fun v_164 ev_164 => ?_)
                refine va_iast hx hb hK hP hD hS 1 0 rfl rfl (vp_in_iff.mpr ⟨by omega, by omega⟩) dX4_use_175 (fun H locs hP hD hS => ?_)
                obtain ⟨f_165, ef_165⟩ : ∃ g : Nat → Int32, upd f_157 (v_162 : Int32).toNatClampNeg v_164 = g := ⟨_, rfl⟩
                rw [ef_165] at hP hD
                have hP : va_P D vwCl [(h0, .inr (4, [.int ype, .int ytk, .ref ywi, .ref yki, .ref yse, .ref yno, .ref yrh, .ref yrw, .ref yrk, .ref yrt, .int yrp, .int yrq, .ref ytx, .int yle, .int yat, .int yfa, .ref yby, .ref ylo, .ref yhi, .int yac, .int ynx, .ref yro, .ref ygl, .int ysn, .ref yso, .ref ysp, .ref ysw, .long ysd, .ref yik, .ref ykp])), (yno, .inl (cI, 96, .inl f_165)), (yki, .inl (cI, 5, .inl Fki))] H := hP
                have hD : va_D A [(h0, .inr (4, [.int ype, .int ytk, .ref ywi, .ref yki, .ref yse, .ref yno, .ref yrh, .ref yrw, .ref yrk, .ref yrt, .int yrp, .int yrq, .ref ytx, .int yle, .int yat, .int yfa, .ref yby, .ref ylo, .ref yhi, .int yac, .int ynx, .ref yro, .ref ygl, .int ysn, .ref yso, .ref ysp, .ref ysw, .long ysd, .ref yik, .ref ykp])), (yno, .inl (cI, 96, .inl f_165)), (yki, .inl (cI, 5, .inl Fki))] := hD
                have k48f_165 : (f_165 48).toInt = (f_157 48).toInt := by rw [← ef_165, upd_ne (by omega) (by omega)]
                refine lv_aload_n hx hb dX4_use_176 rfl (lv_at hl 4 rfl) ?_
                refine va_get (D := D) (ci := 4) (v := .ref yno) (C := RX4) (T := TX4) (N := 30) hx hb hts iX4 hown hK hP 0 rfl rfl 5 (by decide) (hts (.fieldLink RX4 19 "PunchedTicketModel" "now" "[I") (List.mem_of_getElem? (i := 1) rfl)) (fun _ h9 => h9) rfl dX4_use_177 ?_
                refine lv_iload hx hb dX4_use_180 (lv_at hl 3 rfl) ?_
                refine lv_iconst (v := 2) hx hb dX4_use_182 (by decide) ?_
                refine lv_iadd hx hb dX4_use_183 ?_
                refine lv_topi (fun v_166 ev_166 => ?_)
                have tv_166 : v_166.toInt = v_4.toInt + (2 : Int) := by rw [ev_166]; exact ti_add (x := v_4) (y := 2) (show -2147483648 ≤ v_4.toInt + (2 : Int) by omega) (show v_4.toInt + (2 : Int) < 2147483648 by omega)
                refine lv_iload hx hb dX4_use_184 (lv_at hl 0 rfl) ?_
                refine va_iast hx hb hK hP hD hS 1 0 rfl rfl (vp_in_iff.mpr ⟨by omega, by omega⟩) dX4_use_186 (fun H locs hP hD hS => ?_)
                obtain ⟨f_167, ef_167⟩ : ∃ g : Nat → Int32, upd f_165 (v_166 : Int32).toNatClampNeg v_161 = g := ⟨_, rfl⟩
                rw [ef_167] at hP hD
                have hP : va_P D vwCl [(h0, .inr (4, [.int ype, .int ytk, .ref ywi, .ref yki, .ref yse, .ref yno, .ref yrh, .ref yrw, .ref yrk, .ref yrt, .int yrp, .int yrq, .ref ytx, .int yle, .int yat, .int yfa, .ref yby, .ref ylo, .ref yhi, .int yac, .int ynx, .ref yro, .ref ygl, .int ysn, .ref yso, .ref ysp, .ref ysw, .long ysd, .ref yik, .ref ykp])), (yno, .inl (cI, 96, .inl f_167)), (yki, .inl (cI, 5, .inl Fki))] H := hP
                have hD : va_D A [(h0, .inr (4, [.int ype, .int ytk, .ref ywi, .ref yki, .ref yse, .ref yno, .ref yrh, .ref yrw, .ref yrk, .ref yrt, .int yrp, .int yrq, .ref ytx, .int yle, .int yat, .int yfa, .ref yby, .ref ylo, .ref yhi, .int yac, .int ynx, .ref yro, .ref ygl, .int ysn, .ref yso, .ref ysp, .ref ysw, .long ysd, .ref yik, .ref ykp])), (yno, .inl (cI, 96, .inl f_167)), (yki, .inl (cI, 5, .inl Fki))] := hD
                have k48f_167 : (f_167 48).toInt = (f_165 48).toInt := by rw [← ef_167, upd_ne (by omega) (by omega)]
                refine lv_aload_n hx hb dX4_use_187 rfl (lv_at hl 4 rfl) ?_
                refine va_get (D := D) (ci := 4) (v := .ref yno) (C := RX4) (T := TX4) (N := 30) hx hb hts iX4 hown hK hP 0 rfl rfl 5 (by decide) (hts (.fieldLink RX4 19 "PunchedTicketModel" "now" "[I") (List.mem_of_getElem? (i := 1) rfl)) (fun _ h9 => h9) rfl dX4_use_188 ?_
                refine lv_iload hx hb dX4_use_191 (lv_at hl 3 rfl) ?_
                refine lv_iconst (v := 4) hx hb dX4_use_193 (by decide) ?_
                refine lv_iadd hx hb dX4_use_194 ?_
                refine lv_topi (fun v_168 ev_168 => ?_)
                have tv_168 : v_168.toInt = v_4.toInt + (4 : Int) := by rw [ev_168]; exact ti_add (x := v_4) (y := 4) (show -2147483648 ≤ v_4.toInt + (4 : Int) by omega) (show v_4.toInt + (4 : Int) < 2147483648 by omega)
                refine lv_iconst (v := 1) hx hb dX4_use_195 (by decide) ?_
                refine va_iast hx hb hK hP hD hS 1 0 rfl rfl (vp_in_iff.mpr ⟨by omega, by omega⟩) dX4_use_196 (fun H locs hP hD hS => ?_)
                obtain ⟨f_169, ef_169⟩ : ∃ g : Nat → Int32, upd f_167 (v_168 : Int32).toNatClampNeg 1 = g := ⟨_, rfl⟩
                rw [ef_169] at hP hD
                have hP : va_P D vwCl [(h0, .inr (4, [.int ype, .int ytk, .ref ywi, .ref yki, .ref yse, .ref yno, .ref yrh, .ref yrw, .ref yrk, .ref yrt, .int yrp, .int yrq, .ref ytx, .int yle, .int yat, .int yfa, .ref yby, .ref ylo, .ref yhi, .int yac, .int ynx, .ref yro, .ref ygl, .int ysn, .ref yso, .ref ysp, .ref ysw, .long ysd, .ref yik, .ref ykp])), (yno, .inl (cI, 96, .inl f_169)), (yki, .inl (cI, 5, .inl Fki))] H := hP
                have hD : va_D A [(h0, .inr (4, [.int ype, .int ytk, .ref ywi, .ref yki, .ref yse, .ref yno, .ref yrh, .ref yrw, .ref yrk, .ref yrt, .int yrp, .int yrq, .ref ytx, .int yle, .int yat, .int yfa, .ref yby, .ref ylo, .ref yhi, .int yac, .int ynx, .ref yro, .ref ygl, .int ysn, .ref yso, .ref ysp, .ref ysw, .long ysd, .ref yik, .ref ykp])), (yno, .inl (cI, 96, .inl f_169)), (yki, .inl (cI, 5, .inl Fki))] := hD
                have k48f_169 : (f_169 48).toInt = (f_167 48).toInt := by rw [← ef_169, upd_ne (by omega) (by omega)]
                exact ret_v (post := (fun (u : (Nat → Int32)) => (u 48).toInt = (Fno 48).toInt)) (W1 := (fun u => [(h0, .inr (4, [.int ype, .int ytk, .ref ywi, .ref yki, .ref yse, .ref yno, .ref yrh, .ref yrw, .ref yrk, .ref yrt, .int yrp, .int yrq, .ref ytx, .int yle, .int yat, .int yfa, .ref yby, .ref ylo, .ref yhi, .int yac, .int ynx, .ref yro, .ref ygl, .int ysn, .ref yso, .ref ysp, .ref ysw, .long ysd, .ref yik, .ref ykp])), (yno, .inl (cI, 96, .inl u)), (yki, .inl (cI, 5, .inl Fki))])) f_169 hx hb hr hlocks hQ hK hP hD hS ⟨by decide, by decide⟩ dX4_use_197 (show (f_169 48).toInt = (Fno 48).toInt by omega)
              · have tc_159 := b_eq rfl (show (2 : Int32).toInt = 2 by decide) c_159
                refine lv_aload_n hx hb dX4_use_120 rfl (lv_at hl 3 rfl) ?_
                refine va_get (D := D) (ci := 4) (v := .ref yno) (C := RX4) (T := TX4) (N := 30) hx hb hts iX4 hown hK hP 0 rfl rfl 5 (by decide) (hts (.fieldLink RX4 19 "PunchedTicketModel" "now" "[I") (List.mem_of_getElem? (i := 1) rfl)) (fun _ h9 => h9) rfl dX4_use_121 ?_
                refine lv_iload hx hb dX4_use_124 (lv_at hl 2 rfl) ?_
                refine lv_iconst (v := 3) hx hb dX4_use_126 (by decide) ?_
                refine lv_iadd hx hb dX4_use_127 ?_
                refine lv_topi (fun v_170 ev_170 => ?_)
                have tv_170 : v_170.toInt = v_4.toInt + (3 : Int) := by rw [ev_170]; exact ti_add (x := v_4) (y := 3) (show -2147483648 ≤ v_4.toInt + (3 : Int) by omega) (show v_4.toInt + (3 : Int) < 2147483648 by omega)
                refine lv_iload_n hx hb dX4_use_128 rfl (lv_at hl 5 rfl) ?_
                refine lv_iconst (v := 1) hx hb dX4_use_129 (by decide) ?_
                refine lv_iadd hx hb dX4_use_130 ?_
                refine lv_topi (fun v_171 ev_171 => ?_)
                have tv_171 : v_171.toInt = k.toInt + (1 : Int) := by rw [ev_171]; exact ti_add (x := k) (y := 1) (show -2147483648 ≤ k.toInt + (1 : Int) by omega) (show k.toInt + (1 : Int) < 2147483648 by omega)
                refine lv_aload_n hx hb dX4_use_131 rfl (lv_at hl 3 rfl) ?_
                refine va_get (D := D) (ci := 4) (v := .int ype) (C := RX4) (T := TX4) (N := 30) hx hb hts iX4 hown hK hP 0 rfl rfl 0 (by decide) (hts (.fieldLink RX4 68 "PunchedTicketModel" "people" "I") (List.mem_of_getElem? (i := 3) rfl)) (fun _ h9 => h9) rfl dX4_use_132 ?_
                refine lv_icmp_ne (tgt := 142) hx hb dX4_use_135 (by decide) (fun c_172 => ?_) (fun c_172 => ?_)
                · have tc_172 := b_ne rfl rfl c_172
                  refine lv_iload_n hx hb dX4_use_142 rfl (lv_at hl 5 rfl) ?_
                  refine lv_iconst (v := 1) hx hb dX4_use_143 (by decide) ?_
                  refine lv_iadd hx hb dX4_use_144 ?_
                  refine lv_topi (fun v_173 ev_173 => ?_)
                  have tv_173 : v_173.toInt = k.toInt + (1 : Int) := by rw [ev_173]; exact ti_add (x := k) (y := 1) (show -2147483648 ≤ k.toInt + (1 : Int) by omega) (show k.toInt + (1 : Int) < 2147483648 by omega)
                  refine va_iast hx hb hK hP hD hS 1 0 rfl rfl (vp_in_iff.mpr ⟨by omega, by omega⟩) dX4_use_145 (fun H locs hP hD hS => ?_)
                  obtain ⟨f_174, ef_174⟩ : ∃ g : Nat → Int32, upd f_157 (v_170 : Int32).toNatClampNeg v_173 = g := ⟨_, rfl⟩
                  rw [ef_174] at hP hD
                  have hP : va_P D vwCl [(h0, .inr (4, [.int ype, .int ytk, .ref ywi, .ref yki, .ref yse, .ref yno, .ref yrh, .ref yrw, .ref yrk, .ref yrt, .int yrp, .int yrq, .ref ytx, .int yle, .int yat, .int yfa, .ref yby, .ref ylo, .ref yhi, .int yac, .int ynx, .ref yro, .ref ygl, .int ysn, .ref yso, .ref ysp, .ref ysw, .long ysd, .ref yik, .ref ykp])), (yno, .inl (cI, 96, .inl f_174)), (yki, .inl (cI, 5, .inl Fki))] H := hP
                  have hD : va_D A [(h0, .inr (4, [.int ype, .int ytk, .ref ywi, .ref yki, .ref yse, .ref yno, .ref yrh, .ref yrw, .ref yrk, .ref yrt, .int yrp, .int yrq, .ref ytx, .int yle, .int yat, .int yfa, .ref yby, .ref ylo, .ref yhi, .int yac, .int ynx, .ref yro, .ref ygl, .int ysn, .ref yso, .ref ysp, .ref ysw, .long ysd, .ref yik, .ref ykp])), (yno, .inl (cI, 96, .inl f_174)), (yki, .inl (cI, 5, .inl Fki))] := hD
                  have k48f_174 : (f_174 48).toInt = (f_157 48).toInt := by rw [← ef_174, upd_ne (by omega) (by omega)]
                  exact ret_v (post := (fun (u : (Nat → Int32)) => (u 48).toInt = (Fno 48).toInt)) (W1 := (fun u => [(h0, .inr (4, [.int ype, .int ytk, .ref ywi, .ref yki, .ref yse, .ref yno, .ref yrh, .ref yrw, .ref yrk, .ref yrt, .int yrp, .int yrq, .ref ytx, .int yle, .int yat, .int yfa, .ref yby, .ref ylo, .ref yhi, .int yac, .int ynx, .ref yro, .ref ygl, .int ysn, .ref yso, .ref ysp, .ref ysw, .long ysd, .ref yik, .ref ykp])), (yno, .inl (cI, 96, .inl u)), (yki, .inl (cI, 5, .inl Fki))])) f_174 hx hb hr hlocks hQ hK hP hD hS ⟨by decide, by decide⟩ dX4_use_146 (show (f_174 48).toInt = (Fno 48).toInt by omega)
                · have tc_172 := b_eq rfl rfl c_172
                  refine lv_iconst (v := 0) hx hb dX4_use_138 (by decide) ?_
                  refine lv_goto (tgt := 145) hx hb dX4_use_139 (by decide) ?_
                  refine va_iast hx hb hK hP hD hS 1 0 rfl rfl (vp_in_iff.mpr ⟨by omega, by omega⟩) dX4_use_145 (fun H locs hP hD hS => ?_)
                  obtain ⟨f_175, ef_175⟩ : ∃ g : Nat → Int32, upd f_157 (v_170 : Int32).toNatClampNeg 0 = g := ⟨_, rfl⟩
                  rw [ef_175] at hP hD
                  have hP : va_P D vwCl [(h0, .inr (4, [.int ype, .int ytk, .ref ywi, .ref yki, .ref yse, .ref yno, .ref yrh, .ref yrw, .ref yrk, .ref yrt, .int yrp, .int yrq, .ref ytx, .int yle, .int yat, .int yfa, .ref yby, .ref ylo, .ref yhi, .int yac, .int ynx, .ref yro, .ref ygl, .int ysn, .ref yso, .ref ysp, .ref ysw, .long ysd, .ref yik, .ref ykp])), (yno, .inl (cI, 96, .inl f_175)), (yki, .inl (cI, 5, .inl Fki))] H := hP
                  have hD : va_D A [(h0, .inr (4, [.int ype, .int ytk, .ref ywi, .ref yki, .ref yse, .ref yno, .ref yrh, .ref yrw, .ref yrk, .ref yrt, .int yrp, .int yrq, .ref ytx, .int yle, .int yat, .int yfa, .ref yby, .ref ylo, .ref yhi, .int yac, .int ynx, .ref yro, .ref ygl, .int ysn, .ref yso, .ref ysp, .ref ysw, .long ysd, .ref yik, .ref ykp])), (yno, .inl (cI, 96, .inl f_175)), (yki, .inl (cI, 5, .inl Fki))] := hD
                  have k48f_175 : (f_175 48).toInt = (f_157 48).toInt := by rw [← ef_175, upd_ne (by omega) (by omega)]
                  exact ret_v (post := (fun (u : (Nat → Int32)) => (u 48).toInt = (Fno 48).toInt)) (W1 := (fun u => [(h0, .inr (4, [.int ype, .int ytk, .ref ywi, .ref yki, .ref yse, .ref yno, .ref yrh, .ref yrw, .ref yrk, .ref yrt, .int yrp, .int yrq, .ref ytx, .int yle, .int yat, .int yfa, .ref yby, .ref ylo, .ref yhi, .int yac, .int ynx, .ref yro, .ref ygl, .int ysn, .ref yso, .ref ysp, .ref ysw, .long ysd, .ref yik, .ref ykp])), (yno, .inl (cI, 96, .inl u)), (yki, .inl (cI, 5, .inl Fki))])) f_175 hx hb hr hlocks hQ hK hP hD hS ⟨by decide, by decide⟩ dX4_use_146 (show (f_175 48).toInt = (Fno 48).toInt by omega)
            · have tc_156 := b_nle rfl (show (9 : Int32).toInt = 9 by decide) c_156
              refine lv_aload_n hx hb dX4_use_90 rfl (lv_at hl 3 rfl) ?_
              refine va_get (D := D) (ci := 4) (v := .ref yno) (C := RX4) (T := TX4) (N := 30) hx hb hts iX4 hown hK hP 0 rfl rfl 5 (by decide) (hts (.fieldLink RX4 19 "PunchedTicketModel" "now" "[I") (List.mem_of_getElem? (i := 1) rfl)) (fun _ h9 => h9) rfl dX4_use_91 ?_
              refine lv_iload hx hb dX4_use_94 (lv_at hl 2 rfl) ?_
              refine lv_iconst (v := 5) hx hb dX4_use_96 (by decide) ?_
              refine lv_iadd hx hb dX4_use_97 ?_
              refine lv_topi (fun v_176 ev_176 => ?_)
              have tv_176 : v_176.toInt = v_4.toInt + (5 : Int) := by rw [ev_176]; exact ti_add (x := v_4) (y := 5) (show -2147483648 ≤ v_4.toInt + (5 : Int) by omega) (show v_4.toInt + (5 : Int) < 2147483648 by omega)
              refine lv_iconst (v := 1) hx hb dX4_use_98 (by decide) ?_
              refine va_iast hx hb hK hP hD hS 1 0 rfl rfl (vp_in_iff.mpr ⟨by omega, by omega⟩) dX4_use_99 (fun H locs hP hD hS => ?_)
              obtain ⟨f_177, ef_177⟩ : ∃ g : Nat → Int32, upd Fno (v_176 : Int32).toNatClampNeg 1 = g := ⟨_, rfl⟩
              rw [ef_177] at hP hD
              have hP : va_P D vwCl [(h0, .inr (4, [.int ype, .int ytk, .ref ywi, .ref yki, .ref yse, .ref yno, .ref yrh, .ref yrw, .ref yrk, .ref yrt, .int yrp, .int yrq, .ref ytx, .int yle, .int yat, .int yfa, .ref yby, .ref ylo, .ref yhi, .int yac, .int ynx, .ref yro, .ref ygl, .int ysn, .ref yso, .ref ysp, .ref ysw, .long ysd, .ref yik, .ref ykp])), (yno, .inl (cI, 96, .inl f_177)), (yki, .inl (cI, 5, .inl Fki))] H := hP
              have hD : va_D A [(h0, .inr (4, [.int ype, .int ytk, .ref ywi, .ref yki, .ref yse, .ref yno, .ref yrh, .ref yrw, .ref yrk, .ref yrt, .int yrp, .int yrq, .ref ytx, .int yle, .int yat, .int yfa, .ref yby, .ref ylo, .ref yhi, .int yac, .int ynx, .ref yro, .ref ygl, .int ysn, .ref yso, .ref ysp, .ref ysw, .long ysd, .ref yik, .ref ykp])), (yno, .inl (cI, 96, .inl f_177)), (yki, .inl (cI, 5, .inl Fki))] := hD
              have k48f_177 : (f_177 48).toInt = (Fno 48).toInt := by rw [← ef_177, upd_ne (by omega) (by omega)]
              exact ret_v (post := (fun (u : (Nat → Int32)) => (u 48).toInt = (Fno 48).toInt)) (W1 := (fun u => [(h0, .inr (4, [.int ype, .int ytk, .ref ywi, .ref yki, .ref yse, .ref yno, .ref yrh, .ref yrw, .ref yrk, .ref yrt, .int yrp, .int yrq, .ref ytx, .int yle, .int yat, .int yfa, .ref yby, .ref ylo, .ref yhi, .int yac, .int ynx, .ref yro, .ref ygl, .int ysn, .ref yso, .ref ysp, .ref ysw, .long ysd, .ref yik, .ref ykp])), (yno, .inl (cI, 96, .inl u)), (yki, .inl (cI, 5, .inl Fki))])) f_177 hx hb hr hlocks hQ hK hP hD hS ⟨by decide, by decide⟩ dX4_use_100 (show (f_177 48).toInt = (Fno 48).toInt by omega)
