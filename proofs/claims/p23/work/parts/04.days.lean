theorem dX1_gladNow_0 : decode cX1_gladNow 0 = .ok (.iconst 0, 1) := by decide +kernel
theorem dX1_gladNow_1 : decode cX1_gladNow 1 = .ok (.istore_n 1, 1) := by decide +kernel
theorem dX1_gladNow_2 : decode cX1_gladNow 2 = .ok (.iconst 0, 1) := by decide +kernel
theorem dX1_gladNow_3 : decode cX1_gladNow 3 = .ok (.istore_n 2, 1) := by decide +kernel
theorem dX1_gladNow_4 : decode cX1_gladNow 4 = .ok (.iload_n 2, 1) := by decide +kernel
theorem dX1_gladNow_5 : decode cX1_gladNow 5 = .ok (.aload_n 0, 1) := by decide +kernel
theorem dX1_gladNow_6 : decode cX1_gladNow 6 = .ok (.getfield 34, 3) := by decide +kernel
theorem dX1_gladNow_9 : decode cX1_gladNow 9 = .ok (.getfield 65, 3) := by decide +kernel
theorem dX1_gladNow_12 : decode cX1_gladNow 12 = .ok (.if_icmp .ge 30, 3) := by decide +kernel
theorem dX1_gladNow_15 : decode cX1_gladNow 15 = .ok (.aload_n 0, 1) := by decide +kernel
theorem dX1_gladNow_16 : decode cX1_gladNow 16 = .ok (.getfield 24, 3) := by decide +kernel
theorem dX1_gladNow_19 : decode cX1_gladNow 19 = .ok (.iload_n 2, 1) := by decide +kernel
theorem dX1_gladNow_20 : decode cX1_gladNow 20 = .ok (.iaload, 1) := by decide +kernel
theorem dX1_gladNow_21 : decode cX1_gladNow 21 = .ok (.aload_n 0, 1) := by decide +kernel
theorem dX1_gladNow_22 : decode cX1_gladNow 22 = .ok (.getfield 34, 3) := by decide +kernel
theorem dX1_gladNow_25 : decode cX1_gladNow 25 = .ok (.getfield 68, 3) := by decide +kernel
theorem dX1_gladNow_28 : decode cX1_gladNow 28 = .ok (.iload_n 2, 1) := by decide +kernel
theorem dX1_gladNow_29 : decode cX1_gladNow 29 = .ok (.iaload, 1) := by decide +kernel
theorem dX1_gladNow_30 : decode cX1_gladNow 30 = .ok (.if_icmp .ne 6, 3) := by decide +kernel
theorem dX1_gladNow_33 : decode cX1_gladNow 33 = .ok (.iinc 1 1, 3) := by decide +kernel
theorem dX1_gladNow_36 : decode cX1_gladNow 36 = .ok (.iinc 2 1, 3) := by decide +kernel
theorem dX1_gladNow_39 : decode cX1_gladNow 39 = .ok (.goto (-35), 3) := by decide +kernel
theorem dX1_gladNow_42 : decode cX1_gladNow 42 = .ok (.iload_n 1, 1) := by decide +kernel
theorem dX1_gladNow_43 : decode cX1_gladNow 43 = .ok (.ireturn, 1) := by decide +kernel
set_option maxRecDepth 20000 in
theorem ggX1_findRides_X0_hasPerson : GoodIn wsX1_findRides wsX0_hasPerson := goodIn_r _ [10, 11, 31, 32, 33, 34, 35, 36, 37, 38, 39, 40] rfl (by decide +kernel)
set_option maxRecDepth 20000 in
theorem gX1_findRides_X0_hasPerson : GoodIn wsX1_findRides (wsV RX1 71 RX0 yX0_hasPerson wsX0_hasPerson) := goodIn_app (goodIn_r _ [6, 7, 8, 9] rfl (by decide +kernel)) ggX1_findRides_X0_hasPerson
set_option maxRecDepth 20000 in
theorem ggX1_findRides_X1_canTake : GoodIn wsX1_findRides wsX1_canTake := goodIn_r _ [16, 17, 5, 18, 19, 20, 21, 22, 23, 24, 25, 26, 27, 28, 29, 30, 31, 32, 33, 34, 35, 36, 37, 38, 39, 40] rfl (by decide +kernel)
set_option maxRecDepth 20000 in
theorem gX1_findRides_X1_canTake : GoodIn wsX1_findRides (wsV RX1 74 RX1 yX1_canTake wsX1_canTake) := goodIn_app (goodIn_r _ [12, 13, 14, 15] rfl (by decide +kernel)) ggX1_findRides_X1_canTake
theorem dX1_findRides_0 : decode cX1_findRides 0 = .ok (.iconst 0, 1) := by decide +kernel
theorem dX1_findRides_1 : decode cX1_findRides 1 = .ok (.istore_n 2, 1) := by decide +kernel
theorem dX1_findRides_2 : decode cX1_findRides 2 = .ok (.iload_n 2, 1) := by decide +kernel
theorem dX1_findRides_3 : decode cX1_findRides 3 = .ok (.iconst 5, 1) := by decide +kernel
theorem dX1_findRides_4 : decode cX1_findRides 4 = .ok (.if_icmp .ge 14, 3) := by decide +kernel
theorem dX1_findRides_7 : decode cX1_findRides 7 = .ok (.aload_n 1, 1) := by decide +kernel
theorem dX1_findRides_8 : decode cX1_findRides 8 = .ok (.iload_n 2, 1) := by decide +kernel
theorem dX1_findRides_9 : decode cX1_findRides 9 = .ok (.bipush (-9), 2) := by decide +kernel
theorem dX1_findRides_11 : decode cX1_findRides 11 = .ok (.iastore, 1) := by decide +kernel
theorem dX1_findRides_12 : decode cX1_findRides 12 = .ok (.iinc 2 1, 3) := by decide +kernel
theorem dX1_findRides_15 : decode cX1_findRides 15 = .ok (.goto (-13), 3) := by decide +kernel
theorem dX1_findRides_18 : decode cX1_findRides 18 = .ok (.iconst 0, 1) := by decide +kernel
theorem dX1_findRides_19 : decode cX1_findRides 19 = .ok (.istore_n 2, 1) := by decide +kernel
theorem dX1_findRides_20 : decode cX1_findRides 20 = .ok (.iload_n 2, 1) := by decide +kernel
theorem dX1_findRides_21 : decode cX1_findRides 21 = .ok (.aload_n 0, 1) := by decide +kernel
theorem dX1_findRides_22 : decode cX1_findRides 22 = .ok (.getfield 15, 3) := by decide +kernel
theorem dX1_findRides_25 : decode cX1_findRides 25 = .ok (.if_icmp .ge 61, 3) := by decide +kernel
theorem dX1_findRides_28 : decode cX1_findRides 28 = .ok (.aload_n 0, 1) := by decide +kernel
theorem dX1_findRides_29 : decode cX1_findRides 29 = .ok (.getfield 31, 3) := by decide +kernel
theorem dX1_findRides_32 : decode cX1_findRides 32 = .ok (.iload_n 2, 1) := by decide +kernel
theorem dX1_findRides_33 : decode cX1_findRides 33 = .ok (.iaload, 1) := by decide +kernel
theorem dX1_findRides_34 : decode cX1_findRides 34 = .ok (.istore_n 3, 1) := by decide +kernel
theorem dX1_findRides_35 : decode cX1_findRides 35 = .ok (.aload_n 0, 1) := by decide +kernel
theorem dX1_findRides_36 : decode cX1_findRides 36 = .ok (.getfield 28, 3) := by decide +kernel
theorem dX1_findRides_39 : decode cX1_findRides 39 = .ok (.iload_n 2, 1) := by decide +kernel
theorem dX1_findRides_40 : decode cX1_findRides 40 = .ok (.iaload, 1) := by decide +kernel
theorem dX1_findRides_41 : decode cX1_findRides 41 = .ok (.aload_n 0, 1) := by decide +kernel
theorem dX1_findRides_42 : decode cX1_findRides 42 = .ok (.getfield 9, 3) := by decide +kernel
theorem dX1_findRides_45 : decode cX1_findRides 45 = .ok (.if_icmp .ne 35, 3) := by decide +kernel
theorem dX1_findRides_48 : decode cX1_findRides 48 = .ok (.aload_n 0, 1) := by decide +kernel
theorem dX1_findRides_49 : decode cX1_findRides 49 = .ok (.getfield 34, 3) := by decide +kernel
theorem dX1_findRides_52 : decode cX1_findRides 52 = .ok (.iload_n 3, 1) := by decide +kernel
theorem dX1_findRides_53 : decode cX1_findRides 53 = .ok (.invokevirtual 71, 3) := by decide +kernel
theorem dX1_findRides_56 : decode cX1_findRides 56 = .ok (.ifCond .eq 24, 3) := by decide +kernel
theorem dX1_findRides_59 : decode cX1_findRides 59 = .ok (.aload_n 1, 1) := by decide +kernel
theorem dX1_findRides_60 : decode cX1_findRides 60 = .ok (.iload_n 3, 1) := by decide +kernel
theorem dX1_findRides_61 : decode cX1_findRides 61 = .ok (.iaload, 1) := by decide +kernel
theorem dX1_findRides_62 : decode cX1_findRides 62 = .ok (.bipush (-9), 2) := by decide +kernel
theorem dX1_findRides_64 : decode cX1_findRides 64 = .ok (.if_icmp .ne 16, 3) := by decide +kernel
theorem dX1_findRides_67 : decode cX1_findRides 67 = .ok (.aload_n 0, 1) := by decide +kernel
theorem dX1_findRides_68 : decode cX1_findRides 68 = .ok (.iload_n 2, 1) := by decide +kernel
theorem dX1_findRides_69 : decode cX1_findRides 69 = .ok (.iload_n 3, 1) := by decide +kernel
theorem dX1_findRides_70 : decode cX1_findRides 70 = .ok (.invokevirtual 74, 3) := by decide +kernel
theorem dX1_findRides_73 : decode cX1_findRides 73 = .ok (.ifCond .eq 7, 3) := by decide +kernel
theorem dX1_findRides_76 : decode cX1_findRides 76 = .ok (.aload_n 1, 1) := by decide +kernel
theorem dX1_findRides_77 : decode cX1_findRides 77 = .ok (.iload_n 3, 1) := by decide +kernel
theorem dX1_findRides_78 : decode cX1_findRides 78 = .ok (.iload_n 2, 1) := by decide +kernel
theorem dX1_findRides_79 : decode cX1_findRides 79 = .ok (.iastore, 1) := by decide +kernel
theorem dX1_findRides_80 : decode cX1_findRides 80 = .ok (.iinc 2 1, 3) := by decide +kernel
theorem dX1_findRides_83 : decode cX1_findRides 83 = .ok (.goto (-63), 3) := by decide +kernel
theorem dX1_findRides_86 : decode cX1_findRides 86 = .ok (.return_, 1) := by decide +kernel
set_option maxRecDepth 20000 in
theorem ggX1_passDay_X1_findRides : GoodIn wsX1_passDay wsX1_findRides := goodIn_r _ [9, 10, 11, 12, 4, 1, 13, 14, 15, 16, 17, 18, 19, 20, 21, 8, 22, 23, 24, 25, 26, 27, 3, 44, 45, 46, 47, 48, 49, 50, 51, 52, 53, 54, 55, 56, 57, 58, 59, 60, 61] rfl (by decide +kernel)
set_option maxRecDepth 20000 in
theorem gX1_passDay_X1_findRides : GoodIn wsX1_passDay (wsV RX1 81 RX1 yX1_findRides wsX1_findRides) := goodIn_app (goodIn_r _ [5, 6, 7, 8] rfl (by decide +kernel)) ggX1_passDay_X1_findRides
set_option maxRecDepth 20000 in
theorem ggX1_passDay_X1_hasTicket : GoodIn wsX1_passDay wsX1_hasTicket := goodIn_r _ [31, 10, 44, 45, 46, 47, 48, 49, 50, 51] rfl (by decide +kernel)
set_option maxRecDepth 20000 in
theorem gX1_passDay_X1_hasTicket : GoodIn wsX1_passDay (wsV RX1 85 RX1 yX1_hasTicket wsX1_hasTicket) := goodIn_app (goodIn_r _ [28, 29, 30, 8] rfl (by decide +kernel)) ggX1_passDay_X1_hasTicket
set_option maxRecDepth 20000 in
theorem ggX1_passDay_X1_to : GoodIn wsX1_passDay wsX1_to := goodIn_r _ [35, 1, 25, 24, 36, 37, 38, 8, 39, 23, 44, 45, 46, 47, 48, 49, 50, 51, 52, 53, 54, 55, 56, 57, 58, 59, 60, 61] rfl (by decide +kernel)
set_option maxRecDepth 20000 in
theorem gX1_passDay_X1_to : GoodIn wsX1_passDay (wsV RX1 88 RX1 yX1_to wsX1_to) := goodIn_app (goodIn_r _ [32, 33, 34, 8] rfl (by decide +kernel)) ggX1_passDay_X1_to
set_option maxRecDepth 20000 in
theorem ggX1_passDay_X1_useTicket : GoodIn wsX1_passDay wsX1_useTicket := goodIn_r _ [43, 1, 27, 4, 23, 12, 11, 2, 26, 36, 37, 38, 8, 39, 44, 45, 46, 47, 48, 49, 50, 51, 52, 53, 54, 55, 56, 57, 58, 59, 60, 61] rfl (by decide +kernel)
set_option maxRecDepth 20000 in
theorem gX1_passDay_X1_useTicket : GoodIn wsX1_passDay (wsV RX1 91 RX1 yX1_useTicket wsX1_useTicket) := goodIn_app (goodIn_r _ [40, 41, 42, 8] rfl (by decide +kernel)) ggX1_passDay_X1_useTicket
theorem dX1_passDay_0 : decode cX1_passDay 0 = .ok (.iconst 0, 1) := by decide +kernel
theorem dX1_passDay_1 : decode cX1_passDay 1 = .ok (.istore_n 2, 1) := by decide +kernel
theorem dX1_passDay_2 : decode cX1_passDay 2 = .ok (.aload_n 0, 1) := by decide +kernel
theorem dX1_passDay_3 : decode cX1_passDay 3 = .ok (.aload_n 1, 1) := by decide +kernel
theorem dX1_passDay_4 : decode cX1_passDay 4 = .ok (.invokevirtual 81, 3) := by decide +kernel
theorem dX1_passDay_7 : decode cX1_passDay 7 = .ok (.iconst 0, 1) := by decide +kernel
theorem dX1_passDay_8 : decode cX1_passDay 8 = .ok (.istore_n 3, 1) := by decide +kernel
theorem dX1_passDay_9 : decode cX1_passDay 9 = .ok (.iload_n 3, 1) := by decide +kernel
theorem dX1_passDay_10 : decode cX1_passDay 10 = .ok (.aload_n 0, 1) := by decide +kernel
theorem dX1_passDay_11 : decode cX1_passDay 11 = .ok (.getfield 34, 3) := by decide +kernel
theorem dX1_passDay_14 : decode cX1_passDay 14 = .ok (.getfield 65, 3) := by decide +kernel
theorem dX1_passDay_17 : decode cX1_passDay 17 = .ok (.if_icmp .ge 48, 3) := by decide +kernel
theorem dX1_passDay_20 : decode cX1_passDay 20 = .ok (.aload_n 1, 1) := by decide +kernel
theorem dX1_passDay_21 : decode cX1_passDay 21 = .ok (.iload_n 3, 1) := by decide +kernel
theorem dX1_passDay_22 : decode cX1_passDay 22 = .ok (.iaload, 1) := by decide +kernel
theorem dX1_passDay_23 : decode cX1_passDay 23 = .ok (.istore 4, 2) := by decide +kernel
theorem dX1_passDay_25 : decode cX1_passDay 25 = .ok (.aload_n 0, 1) := by decide +kernel
theorem dX1_passDay_26 : decode cX1_passDay 26 = .ok (.iload 4, 2) := by decide +kernel
theorem dX1_passDay_28 : decode cX1_passDay 28 = .ok (.invokevirtual 85, 3) := by decide +kernel
theorem dX1_passDay_31 : decode cX1_passDay 31 = .ok (.ifCond .eq 28, 3) := by decide +kernel
theorem dX1_passDay_34 : decode cX1_passDay 34 = .ok (.aload_n 0, 1) := by decide +kernel
theorem dX1_passDay_35 : decode cX1_passDay 35 = .ok (.getfield 24, 3) := by decide +kernel
theorem dX1_passDay_38 : decode cX1_passDay 38 = .ok (.iload_n 3, 1) := by decide +kernel
theorem dX1_passDay_39 : decode cX1_passDay 39 = .ok (.aload_n 0, 1) := by decide +kernel
theorem dX1_passDay_40 : decode cX1_passDay 40 = .ok (.iload 4, 2) := by decide +kernel
theorem dX1_passDay_42 : decode cX1_passDay 42 = .ok (.invokevirtual 88, 3) := by decide +kernel
theorem dX1_passDay_45 : decode cX1_passDay 45 = .ok (.iastore, 1) := by decide +kernel
theorem dX1_passDay_46 : decode cX1_passDay 46 = .ok (.aload_n 0, 1) := by decide +kernel
theorem dX1_passDay_47 : decode cX1_passDay 47 = .ok (.iload 4, 2) := by decide +kernel
theorem dX1_passDay_49 : decode cX1_passDay 49 = .ok (.iload_n 3, 1) := by decide +kernel
theorem dX1_passDay_50 : decode cX1_passDay 50 = .ok (.invokevirtual 91, 3) := by decide +kernel
theorem dX1_passDay_53 : decode cX1_passDay 53 = .ok (.iload_n 2, 1) := by decide +kernel
theorem dX1_passDay_54 : decode cX1_passDay 54 = .ok (.iconst 1, 1) := by decide +kernel
theorem dX1_passDay_55 : decode cX1_passDay 55 = .ok (.iload_n 3, 1) := by decide +kernel
theorem dX1_passDay_56 : decode cX1_passDay 56 = .ok (.ishl, 1) := by decide +kernel
theorem dX1_passDay_57 : decode cX1_passDay 57 = .ok (.ior, 1) := by decide +kernel
theorem dX1_passDay_58 : decode cX1_passDay 58 = .ok (.istore_n 2, 1) := by decide +kernel
theorem dX1_passDay_59 : decode cX1_passDay 59 = .ok (.iinc 3 1, 3) := by decide +kernel
theorem dX1_passDay_62 : decode cX1_passDay 62 = .ok (.goto (-53), 3) := by decide +kernel
theorem dX1_passDay_65 : decode cX1_passDay 65 = .ok (.aload_n 0, 1) := by decide +kernel
theorem dX1_passDay_66 : decode cX1_passDay 66 = .ok (.dup, 1) := by decide +kernel
theorem dX1_passDay_67 : decode cX1_passDay 67 = .ok (.getfield 9, 3) := by decide +kernel
theorem dX1_passDay_70 : decode cX1_passDay 70 = .ok (.iconst 1, 1) := by decide +kernel
theorem dX1_passDay_71 : decode cX1_passDay 71 = .ok (.iadd, 1) := by decide +kernel
theorem dX1_passDay_72 : decode cX1_passDay 72 = .ok (.putfield 9, 3) := by decide +kernel
theorem dX1_passDay_75 : decode cX1_passDay 75 = .ok (.iload_n 2, 1) := by decide +kernel
theorem dX1_passDay_76 : decode cX1_passDay 76 = .ok (.ireturn, 1) := by decide +kernel
set_option maxRecDepth 20000 in
theorem ggX1_useTicket_X1_isReturn : GoodIn wsX1_useTicket wsX1_isReturn := goodIn_r _ [13, 4, 14, 15, 16, 17, 18, 19, 20, 21] rfl (by decide +kernel)
set_option maxRecDepth 20000 in
theorem gX1_useTicket_X1_isReturn : GoodIn wsX1_useTicket (wsV RX1 52 RX1 yX1_isReturn wsX1_isReturn) := goodIn_app (goodIn_r _ [9, 10, 11, 12] rfl (by decide +kernel)) ggX1_useTicket_X1_isReturn
theorem dX1_useTicket_0 : decode cX1_useTicket 0 = .ok (.aload_n 0, 1) := by decide +kernel
theorem dX1_useTicket_1 : decode cX1_useTicket 1 = .ok (.getfield 34, 3) := by decide +kernel
theorem dX1_useTicket_4 : decode cX1_useTicket 4 = .ok (.getfield 78, 3) := by decide +kernel
theorem dX1_useTicket_7 : decode cX1_useTicket 7 = .ok (.iload_n 2, 1) := by decide +kernel
theorem dX1_useTicket_8 : decode cX1_useTicket 8 = .ok (.iaload, 1) := by decide +kernel
theorem dX1_useTicket_9 : decode cX1_useTicket 9 = .ok (.istore_n 3, 1) := by decide +kernel
theorem dX1_useTicket_10 : decode cX1_useTicket 10 = .ok (.iload_n 3, 1) := by decide +kernel
theorem dX1_useTicket_11 : decode cX1_useTicket 11 = .ok (.iconst 1, 1) := by decide +kernel
theorem dX1_useTicket_12 : decode cX1_useTicket 12 = .ok (.if_icmp .ne 49, 3) := by decide +kernel
theorem dX1_useTicket_15 : decode cX1_useTicket 15 = .ok (.aload_n 0, 1) := by decide +kernel
theorem dX1_useTicket_16 : decode cX1_useTicket 16 = .ok (.iload_n 1, 1) := by decide +kernel
theorem dX1_useTicket_17 : decode cX1_useTicket 17 = .ok (.invokevirtual 52, 3) := by decide +kernel
theorem dX1_useTicket_20 : decode cX1_useTicket 20 = .ok (.ifCond .ne 41, 3) := by decide +kernel
theorem dX1_useTicket_23 : decode cX1_useTicket 23 = .ok (.aload_n 0, 1) := by decide +kernel
theorem dX1_useTicket_24 : decode cX1_useTicket 24 = .ok (.getfield 9, 3) := by decide +kernel
theorem dX1_useTicket_27 : decode cX1_useTicket 27 = .ok (.iconst 1, 1) := by decide +kernel
theorem dX1_useTicket_28 : decode cX1_useTicket 28 = .ok (.iadd, 1) := by decide +kernel
theorem dX1_useTicket_29 : decode cX1_useTicket 29 = .ok (.bipush 10, 2) := by decide +kernel
theorem dX1_useTicket_31 : decode cX1_useTicket 31 = .ok (.if_icmp .ge 30, 3) := by decide +kernel
theorem dX1_useTicket_34 : decode cX1_useTicket 34 = .ok (.aload_n 0, 1) := by decide +kernel
theorem dX1_useTicket_35 : decode cX1_useTicket 35 = .ok (.dup, 1) := by decide +kernel
theorem dX1_useTicket_36 : decode cX1_useTicket 36 = .ok (.getfield 18, 3) := by decide +kernel
theorem dX1_useTicket_39 : decode cX1_useTicket 39 = .ok (.iconst 1, 1) := by decide +kernel
theorem dX1_useTicket_40 : decode cX1_useTicket 40 = .ok (.iload_n 1, 1) := by decide +kernel
theorem dX1_useTicket_41 : decode cX1_useTicket 41 = .ok (.ishl, 1) := by decide +kernel
theorem dX1_useTicket_42 : decode cX1_useTicket 42 = .ok (.ior, 1) := by decide +kernel
theorem dX1_useTicket_43 : decode cX1_useTicket 43 = .ok (.putfield 18, 3) := by decide +kernel
theorem dX1_useTicket_46 : decode cX1_useTicket 46 = .ok (.aload_n 0, 1) := by decide +kernel
theorem dX1_useTicket_47 : decode cX1_useTicket 47 = .ok (.getfield 28, 3) := by decide +kernel
theorem dX1_useTicket_50 : decode cX1_useTicket 50 = .ok (.iload_n 1, 1) := by decide +kernel
theorem dX1_useTicket_51 : decode cX1_useTicket 51 = .ok (.aload_n 0, 1) := by decide +kernel
theorem dX1_useTicket_52 : decode cX1_useTicket 52 = .ok (.getfield 9, 3) := by decide +kernel
theorem dX1_useTicket_55 : decode cX1_useTicket 55 = .ok (.iconst 1, 1) := by decide +kernel
theorem dX1_useTicket_56 : decode cX1_useTicket 56 = .ok (.iadd, 1) := by decide +kernel
theorem dX1_useTicket_57 : decode cX1_useTicket 57 = .ok (.iastore, 1) := by decide +kernel
theorem dX1_useTicket_58 : decode cX1_useTicket 58 = .ok (.goto 86, 3) := by decide +kernel
theorem dX1_useTicket_61 : decode cX1_useTicket 61 = .ok (.iload_n 3, 1) := by decide +kernel
theorem dX1_useTicket_62 : decode cX1_useTicket 62 = .ok (.iconst 2, 1) := by decide +kernel
theorem dX1_useTicket_63 : decode cX1_useTicket 63 = .ok (.if_icmp .ne 69, 3) := by decide +kernel
theorem dX1_useTicket_66 : decode cX1_useTicket 66 = .ok (.aload_n 0, 1) := by decide +kernel
theorem dX1_useTicket_67 : decode cX1_useTicket 67 = .ok (.getfield 9, 3) := by decide +kernel
theorem dX1_useTicket_70 : decode cX1_useTicket 70 = .ok (.iconst 3, 1) := by decide +kernel
theorem dX1_useTicket_71 : decode cX1_useTicket 71 = .ok (.iadd, 1) := by decide +kernel
theorem dX1_useTicket_72 : decode cX1_useTicket 72 = .ok (.bipush 10, 2) := by decide +kernel
theorem dX1_useTicket_74 : decode cX1_useTicket 74 = .ok (.if_icmp .ge 58, 3) := by decide +kernel
theorem dX1_useTicket_77 : decode cX1_useTicket 77 = .ok (.aload_n 0, 1) := by decide +kernel
theorem dX1_useTicket_78 : decode cX1_useTicket 78 = .ok (.dup, 1) := by decide +kernel
theorem dX1_useTicket_79 : decode cX1_useTicket 79 = .ok (.getfield 18, 3) := by decide +kernel
theorem dX1_useTicket_82 : decode cX1_useTicket 82 = .ok (.iconst 1, 1) := by decide +kernel
theorem dX1_useTicket_83 : decode cX1_useTicket 83 = .ok (.iload_n 1, 1) := by decide +kernel
theorem dX1_useTicket_84 : decode cX1_useTicket 84 = .ok (.ishl, 1) := by decide +kernel
theorem dX1_useTicket_85 : decode cX1_useTicket 85 = .ok (.iconst (-1), 1) := by decide +kernel
theorem dX1_useTicket_86 : decode cX1_useTicket 86 = .ok (.ixor, 1) := by decide +kernel
theorem dX1_useTicket_87 : decode cX1_useTicket 87 = .ok (.iand, 1) := by decide +kernel
theorem dX1_useTicket_88 : decode cX1_useTicket 88 = .ok (.putfield 18, 3) := by decide +kernel
theorem dX1_useTicket_91 : decode cX1_useTicket 91 = .ok (.aload_n 0, 1) := by decide +kernel
theorem dX1_useTicket_92 : decode cX1_useTicket 92 = .ok (.getfield 28, 3) := by decide +kernel
theorem dX1_useTicket_95 : decode cX1_useTicket 95 = .ok (.iload_n 1, 1) := by decide +kernel
theorem dX1_useTicket_96 : decode cX1_useTicket 96 = .ok (.aload_n 0, 1) := by decide +kernel
theorem dX1_useTicket_97 : decode cX1_useTicket 97 = .ok (.getfield 9, 3) := by decide +kernel
theorem dX1_useTicket_100 : decode cX1_useTicket 100 = .ok (.iconst 3, 1) := by decide +kernel
theorem dX1_useTicket_101 : decode cX1_useTicket 101 = .ok (.iadd, 1) := by decide +kernel
theorem dX1_useTicket_102 : decode cX1_useTicket 102 = .ok (.iastore, 1) := by decide +kernel
theorem dX1_useTicket_103 : decode cX1_useTicket 103 = .ok (.aload_n 0, 1) := by decide +kernel
theorem dX1_useTicket_104 : decode cX1_useTicket 104 = .ok (.getfield 31, 3) := by decide +kernel
theorem dX1_useTicket_107 : decode cX1_useTicket 107 = .ok (.iload_n 1, 1) := by decide +kernel
theorem dX1_useTicket_108 : decode cX1_useTicket 108 = .ok (.iload_n 2, 1) := by decide +kernel
theorem dX1_useTicket_109 : decode cX1_useTicket 109 = .ok (.iconst 1, 1) := by decide +kernel
theorem dX1_useTicket_110 : decode cX1_useTicket 110 = .ok (.iadd, 1) := by decide +kernel
theorem dX1_useTicket_111 : decode cX1_useTicket 111 = .ok (.aload_n 0, 1) := by decide +kernel
theorem dX1_useTicket_112 : decode cX1_useTicket 112 = .ok (.getfield 34, 3) := by decide +kernel
theorem dX1_useTicket_115 : decode cX1_useTicket 115 = .ok (.getfield 65, 3) := by decide +kernel
theorem dX1_useTicket_118 : decode cX1_useTicket 118 = .ok (.if_icmp .ge 9, 3) := by decide +kernel
theorem dX1_useTicket_121 : decode cX1_useTicket 121 = .ok (.iload_n 2, 1) := by decide +kernel
theorem dX1_useTicket_122 : decode cX1_useTicket 122 = .ok (.iconst 1, 1) := by decide +kernel
theorem dX1_useTicket_123 : decode cX1_useTicket 123 = .ok (.iadd, 1) := by decide +kernel
theorem dX1_useTicket_124 : decode cX1_useTicket 124 = .ok (.goto 4, 3) := by decide +kernel
theorem dX1_useTicket_127 : decode cX1_useTicket 127 = .ok (.iconst 0, 1) := by decide +kernel
theorem dX1_useTicket_128 : decode cX1_useTicket 128 = .ok (.iastore, 1) := by decide +kernel
theorem dX1_useTicket_129 : decode cX1_useTicket 129 = .ok (.goto 15, 3) := by decide +kernel
theorem dX1_useTicket_132 : decode cX1_useTicket 132 = .ok (.aload_n 0, 1) := by decide +kernel
theorem dX1_useTicket_133 : decode cX1_useTicket 133 = .ok (.dup, 1) := by decide +kernel
theorem dX1_useTicket_134 : decode cX1_useTicket 134 = .ok (.getfield 21, 3) := by decide +kernel
theorem dX1_useTicket_137 : decode cX1_useTicket 137 = .ok (.iconst 1, 1) := by decide +kernel
theorem dX1_useTicket_138 : decode cX1_useTicket 138 = .ok (.iload_n 1, 1) := by decide +kernel
theorem dX1_useTicket_139 : decode cX1_useTicket 139 = .ok (.ishl, 1) := by decide +kernel
theorem dX1_useTicket_140 : decode cX1_useTicket 140 = .ok (.ior, 1) := by decide +kernel
theorem dX1_useTicket_141 : decode cX1_useTicket 141 = .ok (.putfield 21, 3) := by decide +kernel
theorem dX1_useTicket_144 : decode cX1_useTicket 144 = .ok (.return_, 1) := by decide +kernel
set_option maxHeartbeats 600000 in
set_option maxRecDepth 100000 in
theorem c_X1_findRides (l : Launch) (D : va_G) (cI cZ cM : ClassId) (h0 : Nat) (rd : Nat) (ln : Nat) (md : Int32) (mt : Int32) (mr : Int32) (mg : Int32) (mat : Nat) (mfd : Nat) (mhd : Nat) (lpe : Int32) (ltk : Int32) (lho : Nat) (lli : Nat) (lki : Nat) (lfd : Nat) (lfr : Nat) (lto : Nat) (lse : Nat) (lhl : Nat) (lFto : Nat → Int32) (lFfr : Nat → Int32) (lFki : Nat → Int32) (mFat : Nat → Int32) (mFfd : Nat → Int32) (mFhd : Nat → Int32) (Frd : Nat → Int32) (sz : Nat) (h_mt : 0 ≤ mt.toInt ∧ mt.toInt ≤ 7) (h_lpe : 0 ≤ lpe.toInt ∧ lpe.toInt ≤ 5) : Cv l yX1_findRides wsX1_findRides ({ frames := 1, cells := 0, slots := 0, locals := 24 } : Room) D cI cZ cM [.ref h0, .ref rd] [(h0, .inr (1, [.ref ln, .int md, .int mt, .int mr, .int mg, .ref mat, .ref mfd, .ref mhd])), (ln, .inr (0, [.int lpe, .int ltk, .ref lho, .ref lli, .ref lki, .ref lfd, .ref lfr, .ref lto, .ref lse, .ref lhl])), (lto, .inl (cI, 7, .inl lFto)), (lfr, .inl (cI, 7, .inl lFfr)), (lki, .inl (cI, 5, .inl lFki)), (mat, .inl (cI, 5, .inl mFat)), (mfd, .inl (cI, 7, .inl mFfd)), (mhd, .inl (cI, 7, .inl mFhd)), (rd, .inl (cI, 5, .inl Frd))] sz (fun (u : (Nat → Int32)) => True) (fun u => [(h0, .inr (1, [.ref ln, .int md, .int mt, .int mr, .int mg, .ref mat, .ref mfd, .ref mhd])), (ln, .inr (0, [.int lpe, .int ltk, .ref lho, .ref lli, .ref lki, .ref lfd, .ref lfr, .ref lto, .ref lse, .ref lhl])), (lto, .inl (cI, 7, .inl lFto)), (lfr, .inl (cI, 7, .inl lFfr)), (lki, .inl (cI, 5, .inl lFki)), (mat, .inl (cI, 5, .inl mFat)), (mfd, .inl (cI, 7, .inl mFfd)), (mhd, .inl (cI, 7, .inl mFhd)), (rd, .inl (cI, 5, .inl u))]) 0 0 := by
  refine begins (l := l) (y := yX1_findRides) (ws := wsX1_findRides) (av := [.ref h0, .ref rd]) (Qc := fun A => va_Qv (fun (u : (Nat → Int32)) => True) (fun u => Wd D cI cZ cM A ((fun u => [(h0, .inr (1, [.ref ln, .int md, .int mt, .int mr, .int mg, .ref mat, .ref mfd, .ref mhd])), (ln, .inr (0, [.int lpe, .int ltk, .ref lho, .ref lli, .ref lki, .ref lfd, .ref lfr, .ref lto, .ref lse, .ref lhl])), (lto, .inl (cI, 7, .inl lFto)), (lfr, .inl (cI, 7, .inl lFfr)), (lki, .inl (cI, 5, .inl lFki)), (mat, .inl (cI, 5, .inl mFat)), (mfd, .inl (cI, 7, .inl mFfd)), (mhd, .inl (cI, 7, .inl mFhd)), (rd, .inl (cI, 5, .inl u))]) u)) A) cX1_findRides 4 none (by decide) rfl (Nat.le_of_ble_eq_true rfl) ?_
  intro p e s m args below meth c R Q A ls hBd hR hQ hA hS hK hP hD hl
  obtain ⟨hx, hb, hr, hts, hown, hlocks, hin, hml⟩ := hBd
  have hl : lv_has ls 4 [(0, .ref h0), (1, .ref rd)] := hl
  have iX1 : ∀ w ∈ wsX10, w ∈ wsX1_findRides := fun _ h => List.mem_cons_of_mem _ (List.mem_append_left _ (List.mem_append_right _ h))
  have iX0 : ∀ w ∈ wsX00, w ∈ wsX1_findRides := fun _ h => List.mem_cons_of_mem _ (List.mem_append_right _ h)
  obtain ⟨h_mta, h_mtb⟩ := h_mt
  obtain ⟨h_lpea, h_lpeb⟩ := h_lpe
  refine lv_iconst (v := 0) hx hb dX1_findRides_0 (by decide) ?_
  refine lv_istore_n (lv' := [(2, .int 0), (0, .ref h0), (1, .ref rd)]) hx hb dX1_findRides_1 rfl hl (by decide) rfl (fun ls hl => ?_)
  have LOOP_1 : ∀ (fu_1 : Nat) (x2 : Int32) (gr : Nat → Int32) (H : Heap) (locs : List Loc) (ls : Array Slot), (5 - x2.toInt).toNat < fu_1 → (0 ≤ x2.toInt ∧ x2.toInt ≤ 5) → va_P D vwCl [(h0, .inr (1, [.ref ln, .int md, .int mt, .int mr, .int mg, .ref mat, .ref mfd, .ref mhd])), (ln, .inr (0, [.int lpe, .int ltk, .ref lho, .ref lli, .ref lki, .ref lfd, .ref lfr, .ref lto, .ref lse, .ref lhl])), (lto, .inl (cI, 7, .inl lFto)), (lfr, .inl (cI, 7, .inl lFfr)), (lki, .inl (cI, 5, .inl lFki)), (mat, .inl (cI, 5, .inl mFat)), (mfd, .inl (cI, 7, .inl mFfd)), (mhd, .inl (cI, 7, .inl mFhd)), (rd, .inl (cI, 5, .inl gr))] H → va_D A [(h0, .inr (1, [.ref ln, .int md, .int mt, .int mr, .int mg, .ref mat, .ref mfd, .ref mhd])), (ln, .inr (0, [.int lpe, .int ltk, .ref lho, .ref lli, .ref lki, .ref lfd, .ref lfr, .ref lto, .ref lse, .ref lhl])), (lto, .inl (cI, 7, .inl lFto)), (lfr, .inl (cI, 7, .inl lFfr)), (lki, .inl (cI, 5, .inl lFki)), (mat, .inl (cI, 5, .inl mFat)), (mfd, .inl (cI, 7, .inl mFfd)), (mhd, .inl (cI, 7, .inl mFhd)), (rd, .inl (cI, 5, .inl gr))] → va_S A s.heap H locs → lv_has ls 4 [(0, .ref h0), (1, .ref rd), (2, .int x2)] → W p l e R s m args below meth c H locs 0 0 Q (F0 m 2 ls []) := by
    intro fu_1
    induction fu_1 with
    | zero => intro x2 gr H locs ls hmu; exact absurd hmu (Nat.not_lt_zero _)
    | succ fu_1 ih =>
      intro x2 gr H locs ls hmu h_x2 hP hD hS hl
      obtain ⟨h_x2a, h_x2b⟩ := h_x2
      have ih_2 := ih
      clear ih
      refine lv_iload_n hx hb dX1_findRides_2 rfl (lv_at hl 2 rfl) ?_
      refine lv_iconst (v := 5) hx hb dX1_findRides_3 (by decide) ?_
      refine lv_icmp_ge (tgt := 18) hx hb dX1_findRides_4 (by decide) (fun c_3 => ?_) (fun c_3 => ?_)
      · have tc_3 := b_le (show (5 : Int32).toInt = 5 by decide) rfl c_3
        refine lv_iconst (v := 0) hx hb dX1_findRides_18 (by decide) ?_
        refine lv_istore_n (lv' := [(2, .int 0), (0, .ref h0), (1, .ref rd)]) hx hb dX1_findRides_19 rfl hl (by decide) rfl (fun ls hl => ?_)
        have LOOP_4 : ∀ (fu_4 : Nat) (y2 : Int32) (kr : Nat → Int32) (H : Heap) (locs : List Loc) (ls : Array Slot), (7 - y2.toInt).toNat < fu_4 → (0 ≤ y2.toInt ∧ y2.toInt ≤ 7) → va_P D vwCl [(h0, .inr (1, [.ref ln, .int md, .int mt, .int mr, .int mg, .ref mat, .ref mfd, .ref mhd])), (ln, .inr (0, [.int lpe, .int ltk, .ref lho, .ref lli, .ref lki, .ref lfd, .ref lfr, .ref lto, .ref lse, .ref lhl])), (lto, .inl (cI, 7, .inl lFto)), (lfr, .inl (cI, 7, .inl lFfr)), (lki, .inl (cI, 5, .inl lFki)), (mat, .inl (cI, 5, .inl mFat)), (mfd, .inl (cI, 7, .inl mFfd)), (mhd, .inl (cI, 7, .inl mFhd)), (rd, .inl (cI, 5, .inl kr))] H → va_D A [(h0, .inr (1, [.ref ln, .int md, .int mt, .int mr, .int mg, .ref mat, .ref mfd, .ref mhd])), (ln, .inr (0, [.int lpe, .int ltk, .ref lho, .ref lli, .ref lki, .ref lfd, .ref lfr, .ref lto, .ref lse, .ref lhl])), (lto, .inl (cI, 7, .inl lFto)), (lfr, .inl (cI, 7, .inl lFfr)), (lki, .inl (cI, 5, .inl lFki)), (mat, .inl (cI, 5, .inl mFat)), (mfd, .inl (cI, 7, .inl mFfd)), (mhd, .inl (cI, 7, .inl mFhd)), (rd, .inl (cI, 5, .inl kr))] → va_S A s.heap H locs → lv_has ls 4 [(0, .ref h0), (1, .ref rd), (2, .int y2)] → W p l e R s m args below meth c H locs 0 0 Q (F0 m 20 ls []) := by
          intro fu_4
          induction fu_4 with
          | zero => intro y2 kr H locs ls hmu; exact absurd hmu (Nat.not_lt_zero _)
          | succ fu_4 ih =>
            intro y2 kr H locs ls hmu h_y2 hP hD hS hl
            obtain ⟨h_y2a, h_y2b⟩ := h_y2
            have ih_5 := ih
            clear ih
            refine lv_iload_n hx hb dX1_findRides_20 rfl (lv_at hl 2 rfl) ?_
            refine lv_aload_n hx hb dX1_findRides_21 rfl (lv_at hl 0 rfl) ?_
            refine va_get (D := D) (ci := 1) (v := .int mt) (C := RX1) (T := TX1) (N := 8) hx hb hts iX1 hown hK hP 0 rfl rfl 2 (by decide) (hts (.fieldLink RX1 15 "PunchedTicket$Moment" "tickets" "I") (List.mem_of_getElem? (i := 1) rfl)) (fun _ h9 => h9) rfl dX1_findRides_22 ?_
            refine lv_icmp_ge (tgt := 86) hx hb dX1_findRides_25 (by decide) (fun c_6 => ?_) (fun c_6 => ?_)
            · have tc_6 := b_le rfl rfl c_6
              exact ret_v (post := (fun (u : (Nat → Int32)) => True)) (W1 := (fun u => [(h0, .inr (1, [.ref ln, .int md, .int mt, .int mr, .int mg, .ref mat, .ref mfd, .ref mhd])), (ln, .inr (0, [.int lpe, .int ltk, .ref lho, .ref lli, .ref lki, .ref lfd, .ref lfr, .ref lto, .ref lse, .ref lhl])), (lto, .inl (cI, 7, .inl lFto)), (lfr, .inl (cI, 7, .inl lFfr)), (lki, .inl (cI, 5, .inl lFki)), (mat, .inl (cI, 5, .inl mFat)), (mfd, .inl (cI, 7, .inl mFfd)), (mhd, .inl (cI, 7, .inl mFhd)), (rd, .inl (cI, 5, .inl u))])) kr hx hb hr hlocks hQ hK hP hD hS ⟨by decide, by decide⟩ dX1_findRides_86 trivial
            · have tc_6 := b_nle rfl rfl c_6
              refine lv_aload_n hx hb dX1_findRides_28 rfl (lv_at hl 0 rfl) ?_
              refine va_get (D := D) (ci := 1) (v := .ref mhd) (C := RX1) (T := TX1) (N := 8) hx hb hts iX1 hown hK hP 0 rfl rfl 7 (by decide) (hts (.fieldLink RX1 31 "PunchedTicket$Moment" "holder" "[I") (List.mem_of_getElem? (i := 2) rfl)) (fun _ h9 => h9) rfl dX1_findRides_29 ?_
              refine lv_iload_n hx hb dX1_findRides_32 rfl (lv_at hl 2 rfl) ?_
              refine va_iald hx hb hK hP 7 0 rfl rfl (vp_in_iff.mpr ⟨by omega, by omega⟩) dX1_findRides_33 ?_
              refine lv_topi (fun v_7 ev_7 => ?_)
              refine lv_istore_n (lv' := [(3, .int v_7), (0, .ref h0), (1, .ref rd), (2, .int y2)]) hx hb dX1_findRides_34 rfl hl (by decide) rfl (fun ls hl => ?_)
              refine lv_aload_n hx hb dX1_findRides_35 rfl (lv_at hl 1 rfl) ?_
              refine va_get (D := D) (ci := 1) (v := .ref mfd) (C := RX1) (T := TX1) (N := 8) hx hb hts iX1 hown hK hP 0 rfl rfl 6 (by decide) (hts (.fieldLink RX1 28 "PunchedTicket$Moment" "forDay" "[I") (List.mem_of_getElem? (i := 3) rfl)) (fun _ h9 => h9) rfl dX1_findRides_36 ?_
              refine lv_iload_n hx hb dX1_findRides_39 rfl (lv_at hl 3 rfl) ?_
              refine va_iald hx hb hK hP 6 0 rfl rfl (vp_in_iff.mpr ⟨by omega, by omega⟩) dX1_findRides_40 ?_
              refine lv_topi (fun v_8 ev_8 => ?_)
              refine lv_aload_n hx hb dX1_findRides_41 rfl (lv_at hl 1 rfl) ?_
              refine va_get (D := D) (ci := 1) (v := .int md) (C := RX1) (T := TX1) (N := 8) hx hb hts iX1 hown hK hP 0 rfl rfl 1 (by decide) (hts (.fieldLink RX1 9 "PunchedTicket$Moment" "day" "I") (List.mem_of_getElem? (i := 4) rfl)) (fun _ h9 => h9) rfl dX1_findRides_42 ?_
              refine lv_icmp_ne (tgt := 80) hx hb dX1_findRides_45 (by decide) (fun c_9 => ?_) (fun c_9 => ?_)
              · have tc_9 := b_ne rfl rfl c_9
                obtain ⟨v_10, ev_10⟩ : ∃ z : Int32, z = y2 + 1 := ⟨_, rfl⟩
                have tv_10 : v_10.toInt = y2.toInt + 1 := by rw [ev_10]; exact ti_add (x := y2) (y := 1) (show -2147483648 ≤ y2.toInt + 1 by omega) (show y2.toInt + 1 < 2147483648 by omega)
                refine lv_iinc (v := v_10) (lv' := [(2, .int v_10), (3, .int v_7), (0, .ref h0), (1, .ref rd)]) hx hb dX1_findRides_80 hl (k := 3) rfl (by rw [ev_10]; rfl) (by decide) rfl (fun ls hl => ?_)
                refine lv_goto (tgt := 20) hx hb dX1_findRides_83 (by decide) ?_
                exact ih_5 v_10 kr _ _ _ (show (7 - v_10.toInt).toNat < fu_4 by omega) (show 0 ≤ v_10.toInt ∧ v_10.toInt ≤ 7 by omega) hP hD hS (lv_sub hl [2, 3, 0] rfl)
              · have tc_9 := b_eq rfl rfl c_9
                refine lv_aload_n hx hb dX1_findRides_48 rfl (lv_at hl 1 rfl) ?_
                refine va_get (D := D) (ci := 1) (v := .ref ln) (C := RX1) (T := TX1) (N := 8) hx hb hts iX1 hown hK hP 0 rfl rfl 0 (by decide) (hts (.fieldLink RX1 34 "PunchedTicket$Moment" "line" "LPunchedTicket$Line;") (List.mem_of_getElem? (i := 5) rfl)) (fun _ h9 => h9) rfl dX1_findRides_49 ?_
                refine lv_iload_n hx hb dX1_findRides_52 rfl (lv_at hl 0 rfl) ?_
                refine cV_i (As := [.int v_7]) (rest := []) ⟨hx, hb, hml, hown, hts⟩ (c_X0_hasPerson l D cI cZ cM ln v_7 lpe ltk lho lli lki lfd lfr lto lse lhl _ ) (cwV 1 hts gX1_findRides_X0_hasPerson rfl rfl rfl (by decide +kernel) ⟨by rw [hR]; decide, by rw [hR]; decide⟩) hK hP hD hS hA [1] [0, 2, 3, 4, 5, 6, 7, 8] rfl rfl (by decide) (by decide) (by decide) rfl 1 rfl hl.1 rfl rfl (Nat.le_of_ble_eq_true rfl) dX1_findRides_53 ⟨by rw [hR]; decide, by rw [hR]; decide⟩ (fun r_11 u_12 H locs hw hP hD hS => ?_)
                have hP : va_P D vwCl [(h0, .inr (1, [.ref ln, .int md, .int mt, .int mr, .int mg, .ref mat, .ref mfd, .ref mhd])), (ln, .inr (0, [.int lpe, .int ltk, .ref lho, .ref lli, .ref lki, .ref lfd, .ref lfr, .ref lto, .ref lse, .ref lhl])), (lto, .inl (cI, 7, .inl lFto)), (lfr, .inl (cI, 7, .inl lFfr)), (lki, .inl (cI, 5, .inl lFki)), (mat, .inl (cI, 5, .inl mFat)), (mfd, .inl (cI, 7, .inl mFfd)), (mhd, .inl (cI, 7, .inl mFhd)), (rd, .inl (cI, 5, .inl kr))] H := hP.sub [0, 8, 1, 2, 3, 4, 5, 6, 7] rfl
                have hD : va_D A [(h0, .inr (1, [.ref ln, .int md, .int mt, .int mr, .int mg, .ref mat, .ref mfd, .ref mhd])), (ln, .inr (0, [.int lpe, .int ltk, .ref lho, .ref lli, .ref lki, .ref lfd, .ref lfr, .ref lto, .ref lse, .ref lhl])), (lto, .inl (cI, 7, .inl lFto)), (lfr, .inl (cI, 7, .inl lFfr)), (lki, .inl (cI, 5, .inl lFki)), (mat, .inl (cI, 5, .inl mFat)), (mfd, .inl (cI, 7, .inl mFfd)), (mhd, .inl (cI, 7, .inl mFhd)), (rd, .inl (cI, 5, .inl kr))] := hD.sub [0, 8, 1, 2, 3, 4, 5, 6, 7] (by decide) rfl
                refine W.widen (k := 0) (n := 0) (Nat.le_refl _) (Nat.le_refl _) ?_
                have hw : (r_11.toInt = 1 ∧ 0 ≤ v_7.toInt ∧ v_7.toInt < lpe.toInt) ∨ (r_11.toInt = 0 ∧ (v_7.toInt < 0 ∨ lpe.toInt ≤ v_7.toInt)) := hw
                have hw_13 := hw
                refine lv_if_eq (tgt := 80) hx hb dX1_findRides_56 (by decide) (fun c_14 => ?_) (fun c_14 => ?_)
                · have tc_14 := b_eq rfl (show (0 : Int32).toInt = 0 by decide) c_14
                  obtain ⟨v_15, ev_15⟩ : ∃ z : Int32, z = y2 + 1 := ⟨_, rfl⟩
                  have tv_15 : v_15.toInt = y2.toInt + 1 := by rw [ev_15]; exact ti_add (x := y2) (y := 1) (show -2147483648 ≤ y2.toInt + 1 by omega) (show y2.toInt + 1 < 2147483648 by omega)
                  refine lv_iinc (v := v_15) (lv' := [(2, .int v_15), (3, .int v_7), (0, .ref h0), (1, .ref rd)]) hx hb dX1_findRides_80 hl (k := 3) rfl (by rw [ev_15]; rfl) (by decide) rfl (fun ls hl => ?_)
                  refine lv_goto (tgt := 20) hx hb dX1_findRides_83 (by decide) ?_
                  exact ih_5 v_15 kr _ _ _ (show (7 - v_15.toInt).toNat < fu_4 by omega) (show 0 ≤ v_15.toInt ∧ v_15.toInt ≤ 7 by omega) hP hD hS (lv_sub hl [2, 3, 0] rfl)
                · have tc_14 := b_ne rfl (show (0 : Int32).toInt = 0 by decide) c_14
                  refine lv_aload_n hx hb dX1_findRides_59 rfl (lv_at hl 2 rfl) ?_
                  refine lv_iload_n hx hb dX1_findRides_60 rfl (lv_at hl 0 rfl) ?_
                  refine va_iald hx hb hK hP 8 0 rfl rfl (vp_in_iff.mpr ⟨by omega, by omega⟩) dX1_findRides_61 ?_
                  refine lv_topi (fun v_16 ev_16 => ?_)
                  refine lv_bipush (v := (-9)) hx hb dX1_findRides_62 (by decide) ?_
                  refine lv_icmp_ne (tgt := 80) hx hb dX1_findRides_64 (by decide) (fun c_17 => ?_) (fun c_17 => ?_)
                  · have tc_17 := b_ne rfl (show ((-9) : Int32).toInt = -9 by decide) c_17
                    obtain ⟨v_18, ev_18⟩ : ∃ z : Int32, z = y2 + 1 := ⟨_, rfl⟩
                    have tv_18 : v_18.toInt = y2.toInt + 1 := by rw [ev_18]; exact ti_add (x := y2) (y := 1) (show -2147483648 ≤ y2.toInt + 1 by omega) (show y2.toInt + 1 < 2147483648 by omega)
                    refine lv_iinc (v := v_18) (lv' := [(2, .int v_18), (3, .int v_7), (0, .ref h0), (1, .ref rd)]) hx hb dX1_findRides_80 hl (k := 3) rfl (by rw [ev_18]; rfl) (by decide) rfl (fun ls hl => ?_)
                    refine lv_goto (tgt := 20) hx hb dX1_findRides_83 (by decide) ?_
                    exact ih_5 v_18 kr _ _ _ (show (7 - v_18.toInt).toNat < fu_4 by omega) (show 0 ≤ v_18.toInt ∧ v_18.toInt ≤ 7 by omega) hP hD hS (lv_sub hl [2, 3, 0] rfl)
                  · have tc_17 := b_eq rfl (show ((-9) : Int32).toInt = -9 by decide) c_17
                    refine lv_aload_n hx hb dX1_findRides_67 rfl (lv_at hl 1 rfl) ?_
                    refine lv_iload_n hx hb dX1_findRides_68 rfl (lv_at hl 3 rfl) ?_
                    refine lv_iload_n hx hb dX1_findRides_69 rfl (lv_at hl 0 rfl) ?_
                    refine cV_i (As := [.int y2, .int v_7]) (rest := []) ⟨hx, hb, hml, hown, hts⟩ (c_X1_canTake l D cI cZ cM h0 y2 v_7 ln md mt mr mg mat mfd mhd lpe ltk lho lli lki lfd lfr lto lse lhl lFto lFfr lFki mFat _ (show 0 ≤ y2.toInt ∧ y2.toInt ≤ 6 by omega) (show 0 ≤ v_7.toInt ∧ v_7.toInt ≤ 4 by omega)) (cwV 2 hts gX1_findRides_X1_canTake rfl rfl rfl (by decide +kernel) ⟨by rw [hR]; decide, by rw [hR]; decide⟩) hK hP hD hS hA [0, 1, 2, 3, 4, 5] [6, 7, 8] rfl rfl (by decide) (by decide) (by decide) rfl 0 rfl hl.1 rfl rfl (Nat.le_of_ble_eq_true rfl) dX1_findRides_70 ⟨by rw [hR]; decide, by rw [hR]; decide⟩ (fun r_19 u_20 H locs hw hP hD hS => ?_)
                    have hP : va_P D vwCl [(h0, .inr (1, [.ref ln, .int md, .int mt, .int mr, .int mg, .ref mat, .ref mfd, .ref mhd])), (ln, .inr (0, [.int lpe, .int ltk, .ref lho, .ref lli, .ref lki, .ref lfd, .ref lfr, .ref lto, .ref lse, .ref lhl])), (lto, .inl (cI, 7, .inl lFto)), (lfr, .inl (cI, 7, .inl lFfr)), (lki, .inl (cI, 5, .inl lFki)), (mat, .inl (cI, 5, .inl mFat)), (mfd, .inl (cI, 7, .inl mFfd)), (mhd, .inl (cI, 7, .inl mFhd)), (rd, .inl (cI, 5, .inl kr))] H := hP.sub [3, 4, 5, 6, 7, 8, 0, 1, 2] rfl
                    have hD : va_D A [(h0, .inr (1, [.ref ln, .int md, .int mt, .int mr, .int mg, .ref mat, .ref mfd, .ref mhd])), (ln, .inr (0, [.int lpe, .int ltk, .ref lho, .ref lli, .ref lki, .ref lfd, .ref lfr, .ref lto, .ref lse, .ref lhl])), (lto, .inl (cI, 7, .inl lFto)), (lfr, .inl (cI, 7, .inl lFfr)), (lki, .inl (cI, 5, .inl lFki)), (mat, .inl (cI, 5, .inl mFat)), (mfd, .inl (cI, 7, .inl mFfd)), (mhd, .inl (cI, 7, .inl mFhd)), (rd, .inl (cI, 5, .inl kr))] := hD.sub [3, 4, 5, 6, 7, 8, 0, 1, 2] (by decide) rfl
                    refine W.widen (k := 0) (n := 0) (Nat.le_refl _) (Nat.le_refl _) ?_
                    have hw : (r_19.toInt = 0 ∨ r_19.toInt = 1) := hw
                    have hw_21 := hw
                    refine lv_if_eq (tgt := 80) hx hb dX1_findRides_73 (by decide) (fun c_22 => ?_) (fun c_22 => ?_)
                    · have tc_22 := b_eq rfl (show (0 : Int32).toInt = 0 by decide) c_22
                      obtain ⟨v_23, ev_23⟩ : ∃ z : Int32, z = y2 + 1 := ⟨_, rfl⟩
                      have tv_23 : v_23.toInt = y2.toInt + 1 := by rw [ev_23]; exact ti_add (x := y2) (y := 1) (show -2147483648 ≤ y2.toInt + 1 by omega) (show y2.toInt + 1 < 2147483648 by omega)
                      refine lv_iinc (v := v_23) (lv' := [(2, .int v_23), (3, .int v_7), (0, .ref h0), (1, .ref rd)]) hx hb dX1_findRides_80 hl (k := 3) rfl (by rw [ev_23]; rfl) (by decide) rfl (fun ls hl => ?_)
                      refine lv_goto (tgt := 20) hx hb dX1_findRides_83 (by decide) ?_
                      exact ih_5 v_23 kr _ _ _ (show (7 - v_23.toInt).toNat < fu_4 by omega) (show 0 ≤ v_23.toInt ∧ v_23.toInt ≤ 7 by omega) hP hD hS (lv_sub hl [2, 3, 0] rfl)
                    · have tc_22 := b_ne rfl (show (0 : Int32).toInt = 0 by decide) c_22
                      refine lv_aload_n hx hb dX1_findRides_76 rfl (lv_at hl 2 rfl) ?_
                      refine lv_iload_n hx hb dX1_findRides_77 rfl (lv_at hl 0 rfl) ?_
                      refine lv_iload_n hx hb dX1_findRides_78 rfl (lv_at hl 3 rfl) ?_
                      refine va_iast hx hb hK hP hD hS 8 0 rfl rfl (vp_in_iff.mpr ⟨by omega, by omega⟩) dX1_findRides_79 (fun H locs hP hD hS => ?_)
                      obtain ⟨f_24, ef_24⟩ : ∃ g : Nat → Int32, upd kr (v_7 : Int32).toNatClampNeg y2 = g := ⟨_, rfl⟩
                      rw [ef_24] at hP hD
                      have hP : va_P D vwCl [(h0, .inr (1, [.ref ln, .int md, .int mt, .int mr, .int mg, .ref mat, .ref mfd, .ref mhd])), (ln, .inr (0, [.int lpe, .int ltk, .ref lho, .ref lli, .ref lki, .ref lfd, .ref lfr, .ref lto, .ref lse, .ref lhl])), (lto, .inl (cI, 7, .inl lFto)), (lfr, .inl (cI, 7, .inl lFfr)), (lki, .inl (cI, 5, .inl lFki)), (mat, .inl (cI, 5, .inl mFat)), (mfd, .inl (cI, 7, .inl mFfd)), (mhd, .inl (cI, 7, .inl mFhd)), (rd, .inl (cI, 5, .inl f_24))] H := hP
                      have hD : va_D A [(h0, .inr (1, [.ref ln, .int md, .int mt, .int mr, .int mg, .ref mat, .ref mfd, .ref mhd])), (ln, .inr (0, [.int lpe, .int ltk, .ref lho, .ref lli, .ref lki, .ref lfd, .ref lfr, .ref lto, .ref lse, .ref lhl])), (lto, .inl (cI, 7, .inl lFto)), (lfr, .inl (cI, 7, .inl lFfr)), (lki, .inl (cI, 5, .inl lFki)), (mat, .inl (cI, 5, .inl mFat)), (mfd, .inl (cI, 7, .inl mFfd)), (mhd, .inl (cI, 7, .inl mFhd)), (rd, .inl (cI, 5, .inl f_24))] := hD
                      obtain ⟨v_25, ev_25⟩ : ∃ z : Int32, z = y2 + 1 := ⟨_, rfl⟩
                      have tv_25 : v_25.toInt = y2.toInt + 1 := by rw [ev_25]; exact ti_add (x := y2) (y := 1) (show -2147483648 ≤ y2.toInt + 1 by omega) (show y2.toInt + 1 < 2147483648 by omega)
                      refine lv_iinc (v := v_25) (lv' := [(2, .int v_25), (3, .int v_7), (0, .ref h0), (1, .ref rd)]) hx hb dX1_findRides_80 hl (k := 3) rfl (by rw [ev_25]; rfl) (by decide) rfl (fun ls hl => ?_)
                      refine lv_goto (tgt := 20) hx hb dX1_findRides_83 (by decide) ?_
                      exact ih_5 v_25 f_24 _ _ _ (show (7 - v_25.toInt).toNat < fu_4 by omega) (show 0 ≤ v_25.toInt ∧ v_25.toInt ≤ 7 by omega) hP hD hS (lv_sub hl [2, 3, 0] rfl)
        exact LOOP_4 _ 0 gr _ _ _ (Nat.lt_succ_self _) (by decide) hP hD hS (lv_sub hl [1, 2, 0] rfl)
      · have tc_3 := b_nle (show (5 : Int32).toInt = 5 by decide) rfl c_3
        refine lv_aload_n hx hb dX1_findRides_7 rfl (lv_at hl 1 rfl) ?_
        refine lv_iload_n hx hb dX1_findRides_8 rfl (lv_at hl 2 rfl) ?_
        refine lv_bipush (v := (-9)) hx hb dX1_findRides_9 (by decide) ?_
        refine va_iast hx hb hK hP hD hS 8 0 rfl rfl (vp_in_iff.mpr ⟨by omega, by omega⟩) dX1_findRides_11 (fun H locs hP hD hS => ?_)
        obtain ⟨f_26, ef_26⟩ : ∃ g : Nat → Int32, upd gr (x2 : Int32).toNatClampNeg (-9) = g := ⟨_, rfl⟩
        rw [ef_26] at hP hD
        have hP : va_P D vwCl [(h0, .inr (1, [.ref ln, .int md, .int mt, .int mr, .int mg, .ref mat, .ref mfd, .ref mhd])), (ln, .inr (0, [.int lpe, .int ltk, .ref lho, .ref lli, .ref lki, .ref lfd, .ref lfr, .ref lto, .ref lse, .ref lhl])), (lto, .inl (cI, 7, .inl lFto)), (lfr, .inl (cI, 7, .inl lFfr)), (lki, .inl (cI, 5, .inl lFki)), (mat, .inl (cI, 5, .inl mFat)), (mfd, .inl (cI, 7, .inl mFfd)), (mhd, .inl (cI, 7, .inl mFhd)), (rd, .inl (cI, 5, .inl f_26))] H := hP
        have hD : va_D A [(h0, .inr (1, [.ref ln, .int md, .int mt, .int mr, .int mg, .ref mat, .ref mfd, .ref mhd])), (ln, .inr (0, [.int lpe, .int ltk, .ref lho, .ref lli, .ref lki, .ref lfd, .ref lfr, .ref lto, .ref lse, .ref lhl])), (lto, .inl (cI, 7, .inl lFto)), (lfr, .inl (cI, 7, .inl lFfr)), (lki, .inl (cI, 5, .inl lFki)), (mat, .inl (cI, 5, .inl mFat)), (mfd, .inl (cI, 7, .inl mFfd)), (mhd, .inl (cI, 7, .inl mFhd)), (rd, .inl (cI, 5, .inl f_26))] := hD
        obtain ⟨v_27, ev_27⟩ : ∃ z : Int32, z = x2 + 1 := ⟨_, rfl⟩
        have tv_27 : v_27.toInt = x2.toInt + 1 := by rw [ev_27]; exact ti_add (x := x2) (y := 1) (show -2147483648 ≤ x2.toInt + 1 by omega) (show x2.toInt + 1 < 2147483648 by omega)
        refine lv_iinc (v := v_27) (lv' := [(2, .int v_27), (0, .ref h0), (1, .ref rd)]) hx hb dX1_findRides_12 hl (k := 2) rfl (by rw [ev_27]; rfl) (by decide) rfl (fun ls hl => ?_)
        refine lv_goto (tgt := 2) hx hb dX1_findRides_15 (by decide) ?_
        exact ih_2 v_27 f_26 _ _ _ (show (5 - v_27.toInt).toNat < fu_1 by omega) (show 0 ≤ v_27.toInt ∧ v_27.toInt ≤ 5 by omega) hP hD hS (lv_sub hl [1, 2, 0] rfl)
  exact LOOP_1 _ 0 Frd _ _ _ (Nat.lt_succ_self _) (by decide) hP hD hS (lv_sub hl [1, 2, 0] rfl)

set_option maxHeartbeats 600000 in
set_option maxRecDepth 100000 in
theorem c_X1_useTicket (l : Launch) (D : va_G) (cI cZ cM : ClassId) (h0 : Nat) (n : Int32) (k : Int32) (ln : Nat) (md : Int32) (mt : Int32) (mr : Int32) (mg : Int32) (mat : Nat) (mfd : Nat) (mhd : Nat) (lpe : Int32) (ltk : Int32) (lho : Nat) (lli : Nat) (lki : Nat) (lfd : Nat) (lfr : Nat) (lto : Nat) (lse : Nat) (lhl : Nat) (lFki : Nat → Int32) (mFfd : Nat → Int32) (mFhd : Nat → Int32) (sz : Nat) (h_n : 0 ≤ n.toInt ∧ n.toInt ≤ 6) (h_k : 0 ≤ k.toInt ∧ k.toInt ≤ 4) (h_md : 0 ≤ md.toInt ∧ md.toInt ≤ 9) : Cv l yX1_useTicket wsX1_useTicket ({ frames := 1, cells := 0, slots := 0, locals := 21 } : Room) D cI cZ cM [.ref h0, .int n, .int k] [(h0, .inr (1, [.ref ln, .int md, .int mt, .int mr, .int mg, .ref mat, .ref mfd, .ref mhd])), (ln, .inr (0, [.int lpe, .int ltk, .ref lho, .ref lli, .ref lki, .ref lfd, .ref lfr, .ref lto, .ref lse, .ref lhl])), (lki, .inl (cI, 5, .inl lFki)), (mfd, .inl (cI, 7, .inl mFfd)), (mhd, .inl (cI, 7, .inl mFhd))] sz (fun (u : Int32 × Int32 × (Nat → Int32) × (Nat → Int32)) => True) (fun u => [(h0, .inr (1, [.ref ln, .int md, .int mt, .int u.1, .int u.2.1, .ref mat, .ref mfd, .ref mhd])), (ln, .inr (0, [.int lpe, .int ltk, .ref lho, .ref lli, .ref lki, .ref lfd, .ref lfr, .ref lto, .ref lse, .ref lhl])), (lki, .inl (cI, 5, .inl lFki)), (mfd, .inl (cI, 7, .inl u.2.2.1)), (mhd, .inl (cI, 7, .inl u.2.2.2))]) 0 0 := by
  refine begins (l := l) (y := yX1_useTicket) (ws := wsX1_useTicket) (av := [.ref h0, .int n, .int k]) (Qc := fun A => va_Qv (fun (u : Int32 × Int32 × (Nat → Int32) × (Nat → Int32)) => True) (fun u => Wd D cI cZ cM A ((fun u => [(h0, .inr (1, [.ref ln, .int md, .int mt, .int u.1, .int u.2.1, .ref mat, .ref mfd, .ref mhd])), (ln, .inr (0, [.int lpe, .int ltk, .ref lho, .ref lli, .ref lki, .ref lfd, .ref lfr, .ref lto, .ref lse, .ref lhl])), (lki, .inl (cI, 5, .inl lFki)), (mfd, .inl (cI, 7, .inl u.2.2.1)), (mhd, .inl (cI, 7, .inl u.2.2.2))]) u)) A) cX1_useTicket 4 none (by decide) rfl (Nat.le_of_ble_eq_true rfl) ?_
  intro p e s m args below meth c R Q A ls hBd hR hQ hA hS hK hP hD hl
  obtain ⟨hx, hb, hr, hts, hown, hlocks, hin, hml⟩ := hBd
  have hl : lv_has ls 4 [(0, .ref h0), (1, .int n), (2, .int k)] := hl
  have iX1 : ∀ w ∈ wsX10, w ∈ wsX1_useTicket := fun _ h => List.mem_cons_of_mem _ (List.mem_append_left _ (List.mem_append_right _ h))
  have iX0 : ∀ w ∈ wsX00, w ∈ wsX1_useTicket := fun _ h => List.mem_cons_of_mem _ (List.mem_append_right _ h)
  obtain ⟨h_na, h_nb⟩ := h_n
  obtain ⟨h_ka, h_kb⟩ := h_k
  obtain ⟨h_mda, h_mdb⟩ := h_md
  refine lv_aload_n hx hb dX1_useTicket_0 rfl (lv_at hl 0 rfl) ?_
  refine va_get (D := D) (ci := 1) (v := .ref ln) (C := RX1) (T := TX1) (N := 8) hx hb hts iX1 hown hK hP 0 rfl rfl 0 (by decide) (hts (.fieldLink RX1 34 "PunchedTicket$Moment" "line" "LPunchedTicket$Line;") (List.mem_of_getElem? (i := 1) rfl)) (fun _ h9 => h9) rfl dX1_useTicket_1 ?_
  refine va_get (D := D) (ci := 0) (v := .ref lki) (C := RX0) (T := TX0) (N := 10) hx hb hts iX0 hown hK hP 1 rfl rfl 4 (by decide) (hts (.fieldLink RX1 78 "PunchedTicket$Line" "kind" "[I") (List.mem_of_getElem? (i := 2) rfl)) (fun _ h9 => h9) rfl dX1_useTicket_4 ?_
  refine lv_iload_n hx hb dX1_useTicket_7 rfl (lv_at hl 2 rfl) ?_
  refine va_iald hx hb hK hP 2 0 rfl rfl (vp_in_iff.mpr ⟨by omega, by omega⟩) dX1_useTicket_8 ?_
  refine lv_topi (fun v_1 ev_1 => ?_)
  refine lv_istore_n (lv' := [(3, .int v_1), (0, .ref h0), (1, .int n), (2, .int k)]) hx hb dX1_useTicket_9 rfl hl (by decide) rfl (fun ls hl => ?_)
  refine lv_iload_n hx hb dX1_useTicket_10 rfl (lv_at hl 0 rfl) ?_
  refine lv_iconst (v := 1) hx hb dX1_useTicket_11 (by decide) ?_
  refine lv_icmp_ne (tgt := 61) hx hb dX1_useTicket_12 (by decide) (fun c_2 => ?_) (fun c_2 => ?_)
  · have tc_2 := b_ne rfl (show (1 : Int32).toInt = 1 by decide) c_2
    refine lv_iload_n hx hb dX1_useTicket_61 rfl (lv_at hl 0 rfl) ?_
    refine lv_iconst (v := 2) hx hb dX1_useTicket_62 (by decide) ?_
    refine lv_icmp_ne (tgt := 132) hx hb dX1_useTicket_63 (by decide) (fun c_3 => ?_) (fun c_3 => ?_)
    · have tc_3 := b_ne rfl (show (2 : Int32).toInt = 2 by decide) c_3
      refine lv_aload_n hx hb dX1_useTicket_132 rfl (lv_at hl 1 rfl) ?_
      refine lv_dup hx hb dX1_useTicket_133 rfl ?_
      refine va_get (D := D) (ci := 1) (v := .int mg) (C := RX1) (T := TX1) (N := 8) hx hb hts iX1 hown hK hP 0 rfl rfl 4 (by decide) (hts (.fieldLink RX1 21 "PunchedTicket$Moment" "gone" "I") (List.mem_of_getElem? (i := 8) rfl)) (fun _ h9 => h9) rfl dX1_useTicket_134 ?_
      refine lv_iconst (v := 1) hx hb dX1_useTicket_137 (by decide) ?_
      refine lv_iload_n hx hb dX1_useTicket_138 rfl (lv_at hl 2 rfl) ?_
      refine lv_ishl hx hb dX1_useTicket_139 ?_
      refine lv_topi (fun v_4 ev_4 => ?_)
      refine lv_ior hx hb dX1_useTicket_140 ?_
      refine lv_topi (fun v_5 ev_5 => ?_)
      refine va_put (D := D) (ci := 1) (v := .int v_5) (ty := .int) (C := RX1) (T := TX1) (N := 8) hx hb hts iX1 tyX1 tyX1_ok nmX1 hown hK hP hD hS 0 rfl rfl 4 (by decide) (hts (.fieldLink RX1 21 "PunchedTicket$Moment" "gone" "I") (List.mem_of_getElem? (i := 8) rfl)) (fun _ h9 => h9) rfl (by decide +kernel) rfl rfl (Nat.le_of_ble_eq_true rfl) dX1_useTicket_141 (fun H locs hP hD hS => ?_)
      have hP : va_P D vwCl [(h0, .inr (1, [.ref ln, .int md, .int mt, .int mr, .int v_5, .ref mat, .ref mfd, .ref mhd])), (ln, .inr (0, [.int lpe, .int ltk, .ref lho, .ref lli, .ref lki, .ref lfd, .ref lfr, .ref lto, .ref lse, .ref lhl])), (lki, .inl (cI, 5, .inl lFki)), (mfd, .inl (cI, 7, .inl mFfd)), (mhd, .inl (cI, 7, .inl mFhd))] H := hP
      have hD : va_D A [(h0, .inr (1, [.ref ln, .int md, .int mt, .int mr, .int v_5, .ref mat, .ref mfd, .ref mhd])), (ln, .inr (0, [.int lpe, .int ltk, .ref lho, .ref lli, .ref lki, .ref lfd, .ref lfr, .ref lto, .ref lse, .ref lhl])), (lki, .inl (cI, 5, .inl lFki)), (mfd, .inl (cI, 7, .inl mFfd)), (mhd, .inl (cI, 7, .inl mFhd))] := hD
      exact ret_v (post := (fun (u : Int32 × Int32 × (Nat → Int32) × (Nat → Int32)) => True)) (W1 := (fun u => [(h0, .inr (1, [.ref ln, .int md, .int mt, .int u.1, .int u.2.1, .ref mat, .ref mfd, .ref mhd])), (ln, .inr (0, [.int lpe, .int ltk, .ref lho, .ref lli, .ref lki, .ref lfd, .ref lfr, .ref lto, .ref lse, .ref lhl])), (lki, .inl (cI, 5, .inl lFki)), (mfd, .inl (cI, 7, .inl u.2.2.1)), (mhd, .inl (cI, 7, .inl u.2.2.2))])) (mr, v_5, mFfd, mFhd) hx hb hr hlocks hQ hK hP hD hS ⟨by decide, by decide⟩ dX1_useTicket_144 trivial
    · have tc_3 := b_eq rfl (show (2 : Int32).toInt = 2 by decide) c_3
      refine lv_aload_n hx hb dX1_useTicket_66 rfl (lv_at hl 1 rfl) ?_
      refine va_get (D := D) (ci := 1) (v := .int md) (C := RX1) (T := TX1) (N := 8) hx hb hts iX1 hown hK hP 0 rfl rfl 1 (by decide) (hts (.fieldLink RX1 9 "PunchedTicket$Moment" "day" "I") (List.mem_of_getElem? (i := 3) rfl)) (fun _ h9 => h9) rfl dX1_useTicket_67 ?_
      refine lv_iconst (v := 3) hx hb dX1_useTicket_70 (by decide) ?_
      refine lv_iadd hx hb dX1_useTicket_71 ?_
      refine lv_topi (fun v_6 ev_6 => ?_)
      have tv_6 : v_6.toInt = md.toInt + (3 : Int) := by rw [ev_6]; exact ti_add (x := md) (y := 3) (show -2147483648 ≤ md.toInt + (3 : Int) by omega) (show md.toInt + (3 : Int) < 2147483648 by omega)
      refine lv_bipush (v := 10) hx hb dX1_useTicket_72 (by decide) ?_
      refine lv_icmp_ge (tgt := 132) hx hb dX1_useTicket_74 (by decide) (fun c_7 => ?_) (fun c_7 => ?_)
      · have tc_7 := b_le (show (10 : Int32).toInt = 10 by decide) rfl c_7
        refine lv_aload_n hx hb dX1_useTicket_132 rfl (lv_at hl 1 rfl) ?_
        refine lv_dup hx hb dX1_useTicket_133 rfl ?_
        refine va_get (D := D) (ci := 1) (v := .int mg) (C := RX1) (T := TX1) (N := 8) hx hb hts iX1 hown hK hP 0 rfl rfl 4 (by decide) (hts (.fieldLink RX1 21 "PunchedTicket$Moment" "gone" "I") (List.mem_of_getElem? (i := 8) rfl)) (fun _ h9 => h9) rfl dX1_useTicket_134 ?_
        refine lv_iconst (v := 1) hx hb dX1_useTicket_137 (by decide) ?_
        refine lv_iload_n hx hb dX1_useTicket_138 rfl (lv_at hl 2 rfl) ?_
        refine lv_ishl hx hb dX1_useTicket_139 ?_
        refine lv_topi (fun v_8 ev_8 => ?_)
        refine lv_ior hx hb dX1_useTicket_140 ?_
        refine lv_topi (fun v_9 ev_9 => ?_)
        refine va_put (D := D) (ci := 1) (v := .int v_9) (ty := .int) (C := RX1) (T := TX1) (N := 8) hx hb hts iX1 tyX1 tyX1_ok nmX1 hown hK hP hD hS 0 rfl rfl 4 (by decide) (hts (.fieldLink RX1 21 "PunchedTicket$Moment" "gone" "I") (List.mem_of_getElem? (i := 8) rfl)) (fun _ h9 => h9) rfl (by decide +kernel) rfl rfl (Nat.le_of_ble_eq_true rfl) dX1_useTicket_141 (fun H locs hP hD hS => ?_)
        have hP : va_P D vwCl [(h0, .inr (1, [.ref ln, .int md, .int mt, .int mr, .int v_9, .ref mat, .ref mfd, .ref mhd])), (ln, .inr (0, [.int lpe, .int ltk, .ref lho, .ref lli, .ref lki, .ref lfd, .ref lfr, .ref lto, .ref lse, .ref lhl])), (lki, .inl (cI, 5, .inl lFki)), (mfd, .inl (cI, 7, .inl mFfd)), (mhd, .inl (cI, 7, .inl mFhd))] H := hP
        have hD : va_D A [(h0, .inr (1, [.ref ln, .int md, .int mt, .int mr, .int v_9, .ref mat, .ref mfd, .ref mhd])), (ln, .inr (0, [.int lpe, .int ltk, .ref lho, .ref lli, .ref lki, .ref lfd, .ref lfr, .ref lto, .ref lse, .ref lhl])), (lki, .inl (cI, 5, .inl lFki)), (mfd, .inl (cI, 7, .inl mFfd)), (mhd, .inl (cI, 7, .inl mFhd))] := hD
        exact ret_v (post := (fun (u : Int32 × Int32 × (Nat → Int32) × (Nat → Int32)) => True)) (W1 := (fun u => [(h0, .inr (1, [.ref ln, .int md, .int mt, .int u.1, .int u.2.1, .ref mat, .ref mfd, .ref mhd])), (ln, .inr (0, [.int lpe, .int ltk, .ref lho, .ref lli, .ref lki, .ref lfd, .ref lfr, .ref lto, .ref lse, .ref lhl])), (lki, .inl (cI, 5, .inl lFki)), (mfd, .inl (cI, 7, .inl u.2.2.1)), (mhd, .inl (cI, 7, .inl u.2.2.2))])) (mr, v_9, mFfd, mFhd) hx hb hr hlocks hQ hK hP hD hS ⟨by decide, by decide⟩ dX1_useTicket_144 trivial
      · have tc_7 := b_nle (show (10 : Int32).toInt = 10 by decide) rfl c_7
        refine lv_aload_n hx hb dX1_useTicket_77 rfl (lv_at hl 1 rfl) ?_
        refine lv_dup hx hb dX1_useTicket_78 rfl ?_
        refine va_get (D := D) (ci := 1) (v := .int mr) (C := RX1) (T := TX1) (N := 8) hx hb hts iX1 hown hK hP 0 rfl rfl 3 (by decide) (hts (.fieldLink RX1 18 "PunchedTicket$Moment" "returns" "I") (List.mem_of_getElem? (i := 4) rfl)) (fun _ h9 => h9) rfl dX1_useTicket_79 ?_
        refine lv_iconst (v := 1) hx hb dX1_useTicket_82 (by decide) ?_
        refine lv_iload_n hx hb dX1_useTicket_83 rfl (lv_at hl 2 rfl) ?_
        refine lv_ishl hx hb dX1_useTicket_84 ?_
        refine lv_topi (fun v_10 ev_10 => ?_)
        refine lv_iconst (v := (-1)) hx hb dX1_useTicket_85 (by decide) ?_
        refine lv_ixor hx hb dX1_useTicket_86 ?_
        refine lv_topi (fun v_11 ev_11 => ?_)
        refine lv_iand hx hb dX1_useTicket_87 ?_
        refine lv_topi (fun v_12 ev_12 => ?_)
        refine va_put (D := D) (ci := 1) (v := .int v_12) (ty := .int) (C := RX1) (T := TX1) (N := 8) hx hb hts iX1 tyX1 tyX1_ok nmX1 hown hK hP hD hS 0 rfl rfl 3 (by decide) (hts (.fieldLink RX1 18 "PunchedTicket$Moment" "returns" "I") (List.mem_of_getElem? (i := 4) rfl)) (fun _ h9 => h9) rfl (by decide +kernel) rfl rfl (Nat.le_of_ble_eq_true rfl) dX1_useTicket_88 (fun H locs hP hD hS => ?_)
        have hP : va_P D vwCl [(h0, .inr (1, [.ref ln, .int md, .int mt, .int v_12, .int mg, .ref mat, .ref mfd, .ref mhd])), (ln, .inr (0, [.int lpe, .int ltk, .ref lho, .ref lli, .ref lki, .ref lfd, .ref lfr, .ref lto, .ref lse, .ref lhl])), (lki, .inl (cI, 5, .inl lFki)), (mfd, .inl (cI, 7, .inl mFfd)), (mhd, .inl (cI, 7, .inl mFhd))] H := hP
        have hD : va_D A [(h0, .inr (1, [.ref ln, .int md, .int mt, .int v_12, .int mg, .ref mat, .ref mfd, .ref mhd])), (ln, .inr (0, [.int lpe, .int ltk, .ref lho, .ref lli, .ref lki, .ref lfd, .ref lfr, .ref lto, .ref lse, .ref lhl])), (lki, .inl (cI, 5, .inl lFki)), (mfd, .inl (cI, 7, .inl mFfd)), (mhd, .inl (cI, 7, .inl mFhd))] := hD
        refine lv_aload_n hx hb dX1_useTicket_91 rfl (lv_at hl 1 rfl) ?_
        refine va_get (D := D) (ci := 1) (v := .ref mfd) (C := RX1) (T := TX1) (N := 8) hx hb hts iX1 hown hK hP 0 rfl rfl 6 (by decide) (hts (.fieldLink RX1 28 "PunchedTicket$Moment" "forDay" "[I") (List.mem_of_getElem? (i := 5) rfl)) (fun _ h9 => h9) rfl dX1_useTicket_92 ?_
        refine lv_iload_n hx hb dX1_useTicket_95 rfl (lv_at hl 2 rfl) ?_
        refine lv_aload_n hx hb dX1_useTicket_96 rfl (lv_at hl 1 rfl) ?_
        refine va_get (D := D) (ci := 1) (v := .int md) (C := RX1) (T := TX1) (N := 8) hx hb hts iX1 hown hK hP 0 rfl rfl 1 (by decide) (hts (.fieldLink RX1 9 "PunchedTicket$Moment" "day" "I") (List.mem_of_getElem? (i := 3) rfl)) (fun _ h9 => h9) rfl dX1_useTicket_97 ?_
        refine lv_iconst (v := 3) hx hb dX1_useTicket_100 (by decide) ?_
        refine lv_iadd hx hb dX1_useTicket_101 ?_
        refine lv_topi (fun v_13 ev_13 => ?_)
        have tv_13 : v_13.toInt = md.toInt + (3 : Int) := by rw [ev_13]; exact ti_add (x := md) (y := 3) (show -2147483648 ≤ md.toInt + (3 : Int) by omega) (show md.toInt + (3 : Int) < 2147483648 by omega)
        refine va_iast hx hb hK hP hD hS 3 0 rfl rfl (vp_in_iff.mpr ⟨by omega, by omega⟩) dX1_useTicket_102 (fun H locs hP hD hS => ?_)
        obtain ⟨f_14, ef_14⟩ : ∃ g : Nat → Int32, upd mFfd (n : Int32).toNatClampNeg v_13 = g := ⟨_, rfl⟩
        rw [ef_14] at hP hD
        have hP : va_P D vwCl [(h0, .inr (1, [.ref ln, .int md, .int mt, .int v_12, .int mg, .ref mat, .ref mfd, .ref mhd])), (ln, .inr (0, [.int lpe, .int ltk, .ref lho, .ref lli, .ref lki, .ref lfd, .ref lfr, .ref lto, .ref lse, .ref lhl])), (lki, .inl (cI, 5, .inl lFki)), (mfd, .inl (cI, 7, .inl f_14)), (mhd, .inl (cI, 7, .inl mFhd))] H := hP
        have hD : va_D A [(h0, .inr (1, [.ref ln, .int md, .int mt, .int v_12, .int mg, .ref mat, .ref mfd, .ref mhd])), (ln, .inr (0, [.int lpe, .int ltk, .ref lho, .ref lli, .ref lki, .ref lfd, .ref lfr, .ref lto, .ref lse, .ref lhl])), (lki, .inl (cI, 5, .inl lFki)), (mfd, .inl (cI, 7, .inl f_14)), (mhd, .inl (cI, 7, .inl mFhd))] := hD
        refine lv_aload_n hx hb dX1_useTicket_103 rfl (lv_at hl 1 rfl) ?_
        refine va_get (D := D) (ci := 1) (v := .ref mhd) (C := RX1) (T := TX1) (N := 8) hx hb hts iX1 hown hK hP 0 rfl rfl 7 (by decide) (hts (.fieldLink RX1 31 "PunchedTicket$Moment" "holder" "[I") (List.mem_of_getElem? (i := 6) rfl)) (fun _ h9 => h9) rfl dX1_useTicket_104 ?_
        refine lv_iload_n hx hb dX1_useTicket_107 rfl (lv_at hl 2 rfl) ?_
        refine lv_iload_n hx hb dX1_useTicket_108 rfl (lv_at hl 3 rfl) ?_
        refine lv_iconst (v := 1) hx hb dX1_useTicket_109 (by decide) ?_
        refine lv_iadd hx hb dX1_useTicket_110 ?_
        refine lv_topi (fun v_15 ev_15 => ?_)
        have tv_15 : v_15.toInt = k.toInt + (1 : Int) := by rw [ev_15]; exact ti_add (x := k) (y := 1) (show -2147483648 ≤ k.toInt + (1 : Int) by omega) (show k.toInt + (1 : Int) < 2147483648 by omega)
        refine lv_aload_n hx hb dX1_useTicket_111 rfl (lv_at hl 1 rfl) ?_
        refine va_get (D := D) (ci := 1) (v := .ref ln) (C := RX1) (T := TX1) (N := 8) hx hb hts iX1 hown hK hP 0 rfl rfl 0 (by decide) (hts (.fieldLink RX1 34 "PunchedTicket$Moment" "line" "LPunchedTicket$Line;") (List.mem_of_getElem? (i := 1) rfl)) (fun _ h9 => h9) rfl dX1_useTicket_112 ?_
        refine va_get (D := D) (ci := 0) (v := .int lpe) (C := RX0) (T := TX0) (N := 10) hx hb hts iX0 hown hK hP 1 rfl rfl 0 (by decide) (hts (.fieldLink RX1 65 "PunchedTicket$Line" "people" "I") (List.mem_of_getElem? (i := 7) rfl)) (fun _ h9 => h9) rfl dX1_useTicket_115 ?_
        refine lv_icmp_ge (tgt := 127) hx hb dX1_useTicket_118 (by decide) (fun c_16 => ?_) (fun c_16 => ?_)
        · have tc_16 := b_le rfl rfl c_16
          refine lv_iconst (v := 0) hx hb dX1_useTicket_127 (by decide) ?_
          refine va_iast hx hb hK hP hD hS 4 0 rfl rfl (vp_in_iff.mpr ⟨by omega, by omega⟩) dX1_useTicket_128 (fun H locs hP hD hS => ?_)
          obtain ⟨f_17, ef_17⟩ : ∃ g : Nat → Int32, upd mFhd (n : Int32).toNatClampNeg 0 = g := ⟨_, rfl⟩
          rw [ef_17] at hP hD
          have hP : va_P D vwCl [(h0, .inr (1, [.ref ln, .int md, .int mt, .int v_12, .int mg, .ref mat, .ref mfd, .ref mhd])), (ln, .inr (0, [.int lpe, .int ltk, .ref lho, .ref lli, .ref lki, .ref lfd, .ref lfr, .ref lto, .ref lse, .ref lhl])), (lki, .inl (cI, 5, .inl lFki)), (mfd, .inl (cI, 7, .inl f_14)), (mhd, .inl (cI, 7, .inl f_17))] H := hP
          have hD : va_D A [(h0, .inr (1, [.ref ln, .int md, .int mt, .int v_12, .int mg, .ref mat, .ref mfd, .ref mhd])), (ln, .inr (0, [.int lpe, .int ltk, .ref lho, .ref lli, .ref lki, .ref lfd, .ref lfr, .ref lto, .ref lse, .ref lhl])), (lki, .inl (cI, 5, .inl lFki)), (mfd, .inl (cI, 7, .inl f_14)), (mhd, .inl (cI, 7, .inl f_17))] := hD
          refine lv_goto (tgt := 144) hx hb dX1_useTicket_129 (by decide) ?_
          exact ret_v (post := (fun (u : Int32 × Int32 × (Nat → Int32) × (Nat → Int32)) => True)) (W1 := (fun u => [(h0, .inr (1, [.ref ln, .int md, .int mt, .int u.1, .int u.2.1, .ref mat, .ref mfd, .ref mhd])), (ln, .inr (0, [.int lpe, .int ltk, .ref lho, .ref lli, .ref lki, .ref lfd, .ref lfr, .ref lto, .ref lse, .ref lhl])), (lki, .inl (cI, 5, .inl lFki)), (mfd, .inl (cI, 7, .inl u.2.2.1)), (mhd, .inl (cI, 7, .inl u.2.2.2))])) (v_12, mg, f_14, f_17) hx hb hr hlocks hQ hK hP hD hS ⟨by decide, by decide⟩ dX1_useTicket_144 trivial
        · have tc_16 := b_nle rfl rfl c_16
          refine lv_iload_n hx hb dX1_useTicket_121 rfl (lv_at hl 3 rfl) ?_
          refine lv_iconst (v := 1) hx hb dX1_useTicket_122 (by decide) ?_
          refine lv_iadd hx hb dX1_useTicket_123 ?_
          refine lv_topi (fun v_18 ev_18 => ?_)
          have tv_18 : v_18.toInt = k.toInt + (1 : Int) := by rw [ev_18]; exact ti_add (x := k) (y := 1) (show -2147483648 ≤ k.toInt + (1 : Int) by omega) (show k.toInt + (1 : Int) < 2147483648 by omega)
          refine lv_goto (tgt := 128) hx hb dX1_useTicket_124 (by decide) ?_
          refine va_iast hx hb hK hP hD hS 4 0 rfl rfl (vp_in_iff.mpr ⟨by omega, by omega⟩) dX1_useTicket_128 (fun H locs hP hD hS => ?_)
          obtain ⟨f_19, ef_19⟩ : ∃ g : Nat → Int32, upd mFhd (n : Int32).toNatClampNeg v_18 = g := ⟨_, rfl⟩
          rw [ef_19] at hP hD
          have hP : va_P D vwCl [(h0, .inr (1, [.ref ln, .int md, .int mt, .int v_12, .int mg, .ref mat, .ref mfd, .ref mhd])), (ln, .inr (0, [.int lpe, .int ltk, .ref lho, .ref lli, .ref lki, .ref lfd, .ref lfr, .ref lto, .ref lse, .ref lhl])), (lki, .inl (cI, 5, .inl lFki)), (mfd, .inl (cI, 7, .inl f_14)), (mhd, .inl (cI, 7, .inl f_19))] H := hP
          have hD : va_D A [(h0, .inr (1, [.ref ln, .int md, .int mt, .int v_12, .int mg, .ref mat, .ref mfd, .ref mhd])), (ln, .inr (0, [.int lpe, .int ltk, .ref lho, .ref lli, .ref lki, .ref lfd, .ref lfr, .ref lto, .ref lse, .ref lhl])), (lki, .inl (cI, 5, .inl lFki)), (mfd, .inl (cI, 7, .inl f_14)), (mhd, .inl (cI, 7, .inl f_19))] := hD
          refine lv_goto (tgt := 144) hx hb dX1_useTicket_129 (by decide) ?_
          exact ret_v (post := (fun (u : Int32 × Int32 × (Nat → Int32) × (Nat → Int32)) => True)) (W1 := (fun u => [(h0, .inr (1, [.ref ln, .int md, .int mt, .int u.1, .int u.2.1, .ref mat, .ref mfd, .ref mhd])), (ln, .inr (0, [.int lpe, .int ltk, .ref lho, .ref lli, .ref lki, .ref lfd, .ref lfr, .ref lto, .ref lse, .ref lhl])), (lki, .inl (cI, 5, .inl lFki)), (mfd, .inl (cI, 7, .inl u.2.2.1)), (mhd, .inl (cI, 7, .inl u.2.2.2))])) (v_12, mg, f_14, f_19) hx hb hr hlocks hQ hK hP hD hS ⟨by decide, by decide⟩ dX1_useTicket_144 trivial
  · have tc_2 := b_eq rfl (show (1 : Int32).toInt = 1 by decide) c_2
    refine lv_aload_n hx hb dX1_useTicket_15 rfl (lv_at hl 1 rfl) ?_
    refine lv_iload_n hx hb dX1_useTicket_16 rfl (lv_at hl 2 rfl) ?_
    refine cV_i (As := [.int n]) (rest := []) ⟨hx, hb, hml, hown, hts⟩ (c_X1_isReturn l D cI cZ cM h0 n ln md mt mr mg mat mfd mhd _ ) (cwV 1 hts gX1_useTicket_X1_isReturn rfl rfl rfl (by decide +kernel) ⟨by rw [hR]; decide, by rw [hR]; decide⟩) hK hP hD hS hA [0] [1, 2, 3, 4] rfl rfl (by decide) (by decide) (by decide) rfl 0 rfl hl.1 rfl rfl (Nat.le_of_ble_eq_true rfl) dX1_useTicket_17 ⟨by rw [hR]; decide, by rw [hR]; decide⟩ (fun r_20 u_21 H locs hw hP hD hS => ?_)
    have hP : va_P D vwCl [(h0, .inr (1, [.ref ln, .int md, .int mt, .int mr, .int mg, .ref mat, .ref mfd, .ref mhd])), (ln, .inr (0, [.int lpe, .int ltk, .ref lho, .ref lli, .ref lki, .ref lfd, .ref lfr, .ref lto, .ref lse, .ref lhl])), (lki, .inl (cI, 5, .inl lFki)), (mfd, .inl (cI, 7, .inl mFfd)), (mhd, .inl (cI, 7, .inl mFhd))] H := hP.sub [4, 0, 1, 2, 3] rfl
    have hD : va_D A [(h0, .inr (1, [.ref ln, .int md, .int mt, .int mr, .int mg, .ref mat, .ref mfd, .ref mhd])), (ln, .inr (0, [.int lpe, .int ltk, .ref lho, .ref lli, .ref lki, .ref lfd, .ref lfr, .ref lto, .ref lse, .ref lhl])), (lki, .inl (cI, 5, .inl lFki)), (mfd, .inl (cI, 7, .inl mFfd)), (mhd, .inl (cI, 7, .inl mFhd))] := hD.sub [4, 0, 1, 2, 3] (by decide) rfl
    refine W.widen (k := 0) (n := 0) (Nat.le_refl _) (Nat.le_refl _) ?_
    have hw : (r_20.toInt = 0 ∨ r_20.toInt = 1) := hw
    have hw_22 := hw
    refine lv_if_ne (tgt := 61) hx hb dX1_useTicket_20 (by decide) (fun c_23 => ?_) (fun c_23 => ?_)
    · have tc_23 := b_ne rfl (show (0 : Int32).toInt = 0 by decide) c_23
      refine lv_iload_n hx hb dX1_useTicket_61 rfl (lv_at hl 0 rfl) ?_
      refine lv_iconst (v := 2) hx hb dX1_useTicket_62 (by decide) ?_
      refine lv_icmp_ne (tgt := 132) hx hb dX1_useTicket_63 (by decide) (fun c_24 => ?_) (fun c_24 => ?_)
      · have tc_24 := b_ne rfl (show (2 : Int32).toInt = 2 by decide) c_24
        refine lv_aload_n hx hb dX1_useTicket_132 rfl (lv_at hl 1 rfl) ?_
        refine lv_dup hx hb dX1_useTicket_133 rfl ?_
        refine va_get (D := D) (ci := 1) (v := .int mg) (C := RX1) (T := TX1) (N := 8) hx hb hts iX1 hown hK hP 0 rfl rfl 4 (by decide) (hts (.fieldLink RX1 21 "PunchedTicket$Moment" "gone" "I") (List.mem_of_getElem? (i := 8) rfl)) (fun _ h9 => h9) rfl dX1_useTicket_134 ?_
        refine lv_iconst (v := 1) hx hb dX1_useTicket_137 (by decide) ?_
        refine lv_iload_n hx hb dX1_useTicket_138 rfl (lv_at hl 2 rfl) ?_
        refine lv_ishl hx hb dX1_useTicket_139 ?_
        refine lv_topi (fun v_25 ev_25 => ?_)
        refine lv_ior hx hb dX1_useTicket_140 ?_
        refine lv_topi (fun v_26 ev_26 => ?_)
        refine va_put (D := D) (ci := 1) (v := .int v_26) (ty := .int) (C := RX1) (T := TX1) (N := 8) hx hb hts iX1 tyX1 tyX1_ok nmX1 hown hK hP hD hS 0 rfl rfl 4 (by decide) (hts (.fieldLink RX1 21 "PunchedTicket$Moment" "gone" "I") (List.mem_of_getElem? (i := 8) rfl)) (fun _ h9 => h9) rfl (by decide +kernel) rfl rfl (Nat.le_of_ble_eq_true rfl) dX1_useTicket_141 (fun H locs hP hD hS => ?_)
        have hP : va_P D vwCl [(h0, .inr (1, [.ref ln, .int md, .int mt, .int mr, .int v_26, .ref mat, .ref mfd, .ref mhd])), (ln, .inr (0, [.int lpe, .int ltk, .ref lho, .ref lli, .ref lki, .ref lfd, .ref lfr, .ref lto, .ref lse, .ref lhl])), (lki, .inl (cI, 5, .inl lFki)), (mfd, .inl (cI, 7, .inl mFfd)), (mhd, .inl (cI, 7, .inl mFhd))] H := hP
        have hD : va_D A [(h0, .inr (1, [.ref ln, .int md, .int mt, .int mr, .int v_26, .ref mat, .ref mfd, .ref mhd])), (ln, .inr (0, [.int lpe, .int ltk, .ref lho, .ref lli, .ref lki, .ref lfd, .ref lfr, .ref lto, .ref lse, .ref lhl])), (lki, .inl (cI, 5, .inl lFki)), (mfd, .inl (cI, 7, .inl mFfd)), (mhd, .inl (cI, 7, .inl mFhd))] := hD
        exact ret_v (post := (fun (u : Int32 × Int32 × (Nat → Int32) × (Nat → Int32)) => True)) (W1 := (fun u => [(h0, .inr (1, [.ref ln, .int md, .int mt, .int u.1, .int u.2.1, .ref mat, .ref mfd, .ref mhd])), (ln, .inr (0, [.int lpe, .int ltk, .ref lho, .ref lli, .ref lki, .ref lfd, .ref lfr, .ref lto, .ref lse, .ref lhl])), (lki, .inl (cI, 5, .inl lFki)), (mfd, .inl (cI, 7, .inl u.2.2.1)), (mhd, .inl (cI, 7, .inl u.2.2.2))])) (mr, v_26, mFfd, mFhd) hx hb hr hlocks hQ hK hP hD hS ⟨by decide, by decide⟩ dX1_useTicket_144 trivial
      · have tc_24 := b_eq rfl (show (2 : Int32).toInt = 2 by decide) c_24
        exfalso; omega
    · have tc_23 := b_eq rfl (show (0 : Int32).toInt = 0 by decide) c_23
      refine lv_aload_n hx hb dX1_useTicket_23 rfl (lv_at hl 1 rfl) ?_
      refine va_get (D := D) (ci := 1) (v := .int md) (C := RX1) (T := TX1) (N := 8) hx hb hts iX1 hown hK hP 0 rfl rfl 1 (by decide) (hts (.fieldLink RX1 9 "PunchedTicket$Moment" "day" "I") (List.mem_of_getElem? (i := 3) rfl)) (fun _ h9 => h9) rfl dX1_useTicket_24 ?_
      refine lv_iconst (v := 1) hx hb dX1_useTicket_27 (by decide) ?_
      refine lv_iadd hx hb dX1_useTicket_28 ?_
      refine lv_topi (fun v_27 ev_27 => ?_)
      have tv_27 : v_27.toInt = md.toInt + (1 : Int) := by rw [ev_27]; exact ti_add (x := md) (y := 1) (show -2147483648 ≤ md.toInt + (1 : Int) by omega) (show md.toInt + (1 : Int) < 2147483648 by omega)
      refine lv_bipush (v := 10) hx hb dX1_useTicket_29 (by decide) ?_
      refine lv_icmp_ge (tgt := 61) hx hb dX1_useTicket_31 (by decide) (fun c_28 => ?_) (fun c_28 => ?_)
      · have tc_28 := b_le (show (10 : Int32).toInt = 10 by decide) rfl c_28
        refine lv_iload_n hx hb dX1_useTicket_61 rfl (lv_at hl 0 rfl) ?_
        refine lv_iconst (v := 2) hx hb dX1_useTicket_62 (by decide) ?_
        refine lv_icmp_ne (tgt := 132) hx hb dX1_useTicket_63 (by decide) (fun c_29 => ?_) (fun c_29 => ?_)
        · have tc_29 := b_ne rfl (show (2 : Int32).toInt = 2 by decide) c_29
          refine lv_aload_n hx hb dX1_useTicket_132 rfl (lv_at hl 1 rfl) ?_
          refine lv_dup hx hb dX1_useTicket_133 rfl ?_
          refine va_get (D := D) (ci := 1) (v := .int mg) (C := RX1) (T := TX1) (N := 8) hx hb hts iX1 hown hK hP 0 rfl rfl 4 (by decide) (hts (.fieldLink RX1 21 "PunchedTicket$Moment" "gone" "I") (List.mem_of_getElem? (i := 8) rfl)) (fun _ h9 => h9) rfl dX1_useTicket_134 ?_
          refine lv_iconst (v := 1) hx hb dX1_useTicket_137 (by decide) ?_
          refine lv_iload_n hx hb dX1_useTicket_138 rfl (lv_at hl 2 rfl) ?_
          refine lv_ishl hx hb dX1_useTicket_139 ?_
          refine lv_topi (fun v_30 ev_30 => ?_)
          refine lv_ior hx hb dX1_useTicket_140 ?_
          refine lv_topi (fun v_31 ev_31 => ?_)
          refine va_put (D := D) (ci := 1) (v := .int v_31) (ty := .int) (C := RX1) (T := TX1) (N := 8) hx hb hts iX1 tyX1 tyX1_ok nmX1 hown hK hP hD hS 0 rfl rfl 4 (by decide) (hts (.fieldLink RX1 21 "PunchedTicket$Moment" "gone" "I") (List.mem_of_getElem? (i := 8) rfl)) (fun _ h9 => h9) rfl (by decide +kernel) rfl rfl (Nat.le_of_ble_eq_true rfl) dX1_useTicket_141 (fun H locs hP hD hS => ?_)
          have hP : va_P D vwCl [(h0, .inr (1, [.ref ln, .int md, .int mt, .int mr, .int v_31, .ref mat, .ref mfd, .ref mhd])), (ln, .inr (0, [.int lpe, .int ltk, .ref lho, .ref lli, .ref lki, .ref lfd, .ref lfr, .ref lto, .ref lse, .ref lhl])), (lki, .inl (cI, 5, .inl lFki)), (mfd, .inl (cI, 7, .inl mFfd)), (mhd, .inl (cI, 7, .inl mFhd))] H := hP
          have hD : va_D A [(h0, .inr (1, [.ref ln, .int md, .int mt, .int mr, .int v_31, .ref mat, .ref mfd, .ref mhd])), (ln, .inr (0, [.int lpe, .int ltk, .ref lho, .ref lli, .ref lki, .ref lfd, .ref lfr, .ref lto, .ref lse, .ref lhl])), (lki, .inl (cI, 5, .inl lFki)), (mfd, .inl (cI, 7, .inl mFfd)), (mhd, .inl (cI, 7, .inl mFhd))] := hD
          exact ret_v (post := (fun (u : Int32 × Int32 × (Nat → Int32) × (Nat → Int32)) => True)) (W1 := (fun u => [(h0, .inr (1, [.ref ln, .int md, .int mt, .int u.1, .int u.2.1, .ref mat, .ref mfd, .ref mhd])), (ln, .inr (0, [.int lpe, .int ltk, .ref lho, .ref lli, .ref lki, .ref lfd, .ref lfr, .ref lto, .ref lse, .ref lhl])), (lki, .inl (cI, 5, .inl lFki)), (mfd, .inl (cI, 7, .inl u.2.2.1)), (mhd, .inl (cI, 7, .inl u.2.2.2))])) (mr, v_31, mFfd, mFhd) hx hb hr hlocks hQ hK hP hD hS ⟨by decide, by decide⟩ dX1_useTicket_144 trivial
        · have tc_29 := b_eq rfl (show (2 : Int32).toInt = 2 by decide) c_29
          exfalso; omega
      · have tc_28 := b_nle (show (10 : Int32).toInt = 10 by decide) rfl c_28
        refine lv_aload_n hx hb dX1_useTicket_34 rfl (lv_at hl 1 rfl) ?_
        refine lv_dup hx hb dX1_useTicket_35 rfl ?_
        refine va_get (D := D) (ci := 1) (v := .int mr) (C := RX1) (T := TX1) (N := 8) hx hb hts iX1 hown hK hP 0 rfl rfl 3 (by decide) (hts (.fieldLink RX1 18 "PunchedTicket$Moment" "returns" "I") (List.mem_of_getElem? (i := 4) rfl)) (fun _ h9 => h9) rfl dX1_useTicket_36 ?_
        refine lv_iconst (v := 1) hx hb dX1_useTicket_39 (by decide) ?_
        refine lv_iload_n hx hb dX1_useTicket_40 rfl (lv_at hl 2 rfl) ?_
        refine lv_ishl hx hb dX1_useTicket_41 ?_
        refine lv_topi (fun v_32 ev_32 => ?_)
        refine lv_ior hx hb dX1_useTicket_42 ?_
        refine lv_topi (fun v_33 ev_33 => ?_)
        refine va_put (D := D) (ci := 1) (v := .int v_33) (ty := .int) (C := RX1) (T := TX1) (N := 8) hx hb hts iX1 tyX1 tyX1_ok nmX1 hown hK hP hD hS 0 rfl rfl 3 (by decide) (hts (.fieldLink RX1 18 "PunchedTicket$Moment" "returns" "I") (List.mem_of_getElem? (i := 4) rfl)) (fun _ h9 => h9) rfl (by decide +kernel) rfl rfl (Nat.le_of_ble_eq_true rfl) dX1_useTicket_43 (fun H locs hP hD hS => ?_)
        have hP : va_P D vwCl [(h0, .inr (1, [.ref ln, .int md, .int mt, .int v_33, .int mg, .ref mat, .ref mfd, .ref mhd])), (ln, .inr (0, [.int lpe, .int ltk, .ref lho, .ref lli, .ref lki, .ref lfd, .ref lfr, .ref lto, .ref lse, .ref lhl])), (lki, .inl (cI, 5, .inl lFki)), (mfd, .inl (cI, 7, .inl mFfd)), (mhd, .inl (cI, 7, .inl mFhd))] H := hP
        have hD : va_D A [(h0, .inr (1, [.ref ln, .int md, .int mt, .int v_33, .int mg, .ref mat, .ref mfd, .ref mhd])), (ln, .inr (0, [.int lpe, .int ltk, .ref lho, .ref lli, .ref lki, .ref lfd, .ref lfr, .ref lto, .ref lse, .ref lhl])), (lki, .inl (cI, 5, .inl lFki)), (mfd, .inl (cI, 7, .inl mFfd)), (mhd, .inl (cI, 7, .inl mFhd))] := hD
        refine lv_aload_n hx hb dX1_useTicket_46 rfl (lv_at hl 1 rfl) ?_
        refine va_get (D := D) (ci := 1) (v := .ref mfd) (C := RX1) (T := TX1) (N := 8) hx hb hts iX1 hown hK hP 0 rfl rfl 6 (by decide) (hts (.fieldLink RX1 28 "PunchedTicket$Moment" "forDay" "[I") (List.mem_of_getElem? (i := 5) rfl)) (fun _ h9 => h9) rfl dX1_useTicket_47 ?_
        refine lv_iload_n hx hb dX1_useTicket_50 rfl (lv_at hl 2 rfl) ?_
        refine lv_aload_n hx hb dX1_useTicket_51 rfl (lv_at hl 1 rfl) ?_
        refine va_get (D := D) (ci := 1) (v := .int md) (C := RX1) (T := TX1) (N := 8) hx hb hts iX1 hown hK hP 0 rfl rfl 1 (by decide) (hts (.fieldLink RX1 9 "PunchedTicket$Moment" "day" "I") (List.mem_of_getElem? (i := 3) rfl)) (fun _ h9 => h9) rfl dX1_useTicket_52 ?_
        refine lv_iconst (v := 1) hx hb dX1_useTicket_55 (by decide) ?_
        refine lv_iadd hx hb dX1_useTicket_56 ?_
        refine lv_topi (fun v_34 ev_34 => ?_)
        have tv_34 : v_34.toInt = md.toInt + (1 : Int) := by rw [ev_34]; exact ti_add (x := md) (y := 1) (show -2147483648 ≤ md.toInt + (1 : Int) by omega) (show md.toInt + (1 : Int) < 2147483648 by omega)
        refine va_iast hx hb hK hP hD hS 3 0 rfl rfl (vp_in_iff.mpr ⟨by omega, by omega⟩) dX1_useTicket_57 (fun H locs hP hD hS => ?_)
        obtain ⟨f_35, ef_35⟩ : ∃ g : Nat → Int32, upd mFfd (n : Int32).toNatClampNeg v_34 = g := ⟨_, rfl⟩
        rw [ef_35] at hP hD
        have hP : va_P D vwCl [(h0, .inr (1, [.ref ln, .int md, .int mt, .int v_33, .int mg, .ref mat, .ref mfd, .ref mhd])), (ln, .inr (0, [.int lpe, .int ltk, .ref lho, .ref lli, .ref lki, .ref lfd, .ref lfr, .ref lto, .ref lse, .ref lhl])), (lki, .inl (cI, 5, .inl lFki)), (mfd, .inl (cI, 7, .inl f_35)), (mhd, .inl (cI, 7, .inl mFhd))] H := hP
        have hD : va_D A [(h0, .inr (1, [.ref ln, .int md, .int mt, .int v_33, .int mg, .ref mat, .ref mfd, .ref mhd])), (ln, .inr (0, [.int lpe, .int ltk, .ref lho, .ref lli, .ref lki, .ref lfd, .ref lfr, .ref lto, .ref lse, .ref lhl])), (lki, .inl (cI, 5, .inl lFki)), (mfd, .inl (cI, 7, .inl f_35)), (mhd, .inl (cI, 7, .inl mFhd))] := hD
        refine lv_goto (tgt := 144) hx hb dX1_useTicket_58 (by decide) ?_
        exact ret_v (post := (fun (u : Int32 × Int32 × (Nat → Int32) × (Nat → Int32)) => True)) (W1 := (fun u => [(h0, .inr (1, [.ref ln, .int md, .int mt, .int u.1, .int u.2.1, .ref mat, .ref mfd, .ref mhd])), (ln, .inr (0, [.int lpe, .int ltk, .ref lho, .ref lli, .ref lki, .ref lfd, .ref lfr, .ref lto, .ref lse, .ref lhl])), (lki, .inl (cI, 5, .inl lFki)), (mfd, .inl (cI, 7, .inl u.2.2.1)), (mhd, .inl (cI, 7, .inl u.2.2.2))])) (v_33, mg, f_35, mFhd) hx hb hr hlocks hQ hK hP hD hS ⟨by decide, by decide⟩ dX1_useTicket_144 trivial

set_option maxHeartbeats 600000 in
set_option maxRecDepth 100000 in
theorem c_X1_passDay (l : Launch) (D : va_G) (cI cZ cM : ClassId) (h0 : Nat) (rd : Nat) (ln : Nat) (md : Int32) (mt : Int32) (mr : Int32) (mg : Int32) (mat : Nat) (mfd : Nat) (mhd : Nat) (lpe : Int32) (ltk : Int32) (lho : Nat) (lli : Nat) (lki : Nat) (lfd : Nat) (lfr : Nat) (lto : Nat) (lse : Nat) (lhl : Nat) (lFto : Nat → Int32) (lFfr : Nat → Int32) (lFki : Nat → Int32) (mFat : Nat → Int32) (mFfd : Nat → Int32) (mFhd : Nat → Int32) (Frd : Nat → Int32) (sz : Nat) (h_mt : 0 ≤ mt.toInt ∧ mt.toInt ≤ 7) (h_lpe : 0 ≤ lpe.toInt ∧ lpe.toInt ≤ 5) (h_md : 0 ≤ md.toInt ∧ md.toInt ≤ 9) : Ci l yX1_passDay wsX1_passDay ({ frames := 2, cells := 0, slots := 0, locals := 47 } : Room) D cI cZ cM [.ref h0, .ref rd] [(h0, .inr (1, [.ref ln, .int md, .int mt, .int mr, .int mg, .ref mat, .ref mfd, .ref mhd])), (ln, .inr (0, [.int lpe, .int ltk, .ref lho, .ref lli, .ref lki, .ref lfd, .ref lfr, .ref lto, .ref lse, .ref lhl])), (lto, .inl (cI, 7, .inl lFto)), (lfr, .inl (cI, 7, .inl lFfr)), (lki, .inl (cI, 5, .inl lFki)), (mat, .inl (cI, 5, .inl mFat)), (mfd, .inl (cI, 7, .inl mFfd)), (mhd, .inl (cI, 7, .inl mFhd)), (rd, .inl (cI, 5, .inl Frd))] sz (fun (r : Int32) (u : Int32 × Int32 × Int32 × (Nat → Int32) × (Nat → Int32) × (Nat → Int32) × (Nat → Int32)) => u.1.toInt = md.toInt + 1 ∧ (lpe.toInt = 0 → r.toInt = 0)) (fun u => [(h0, .inr (1, [.ref ln, .int u.1, .int mt, .int u.2.1, .int u.2.2.1, .ref mat, .ref mfd, .ref mhd])), (ln, .inr (0, [.int lpe, .int ltk, .ref lho, .ref lli, .ref lki, .ref lfd, .ref lfr, .ref lto, .ref lse, .ref lhl])), (lto, .inl (cI, 7, .inl lFto)), (lfr, .inl (cI, 7, .inl lFfr)), (lki, .inl (cI, 5, .inl lFki)), (mat, .inl (cI, 5, .inl u.2.2.2.1)), (mfd, .inl (cI, 7, .inl u.2.2.2.2.1)), (mhd, .inl (cI, 7, .inl u.2.2.2.2.2.1)), (rd, .inl (cI, 5, .inl u.2.2.2.2.2.2))]) 0 0 := by
  refine begins (l := l) (y := yX1_passDay) (ws := wsX1_passDay) (av := [.ref h0, .ref rd]) (Qc := fun A => va_Qi (fun (r : Int32) (u : Int32 × Int32 × Int32 × (Nat → Int32) × (Nat → Int32) × (Nat → Int32) × (Nat → Int32)) => u.1.toInt = md.toInt + 1 ∧ (lpe.toInt = 0 → r.toInt = 0)) (fun u => Wd D cI cZ cM A ((fun u => [(h0, .inr (1, [.ref ln, .int u.1, .int mt, .int u.2.1, .int u.2.2.1, .ref mat, .ref mfd, .ref mhd])), (ln, .inr (0, [.int lpe, .int ltk, .ref lho, .ref lli, .ref lki, .ref lfd, .ref lfr, .ref lto, .ref lse, .ref lhl])), (lto, .inl (cI, 7, .inl lFto)), (lfr, .inl (cI, 7, .inl lFfr)), (lki, .inl (cI, 5, .inl lFki)), (mat, .inl (cI, 5, .inl u.2.2.2.1)), (mfd, .inl (cI, 7, .inl u.2.2.2.2.1)), (mhd, .inl (cI, 7, .inl u.2.2.2.2.2.1)), (rd, .inl (cI, 5, .inl u.2.2.2.2.2.2))]) u)) A) cX1_passDay 5 (some .int) (by decide) rfl (Nat.le_of_ble_eq_true rfl) ?_
  intro p e s m args below meth c R Q A ls hBd hR hQ hA hS hK hP hD hl
  obtain ⟨hx, hb, hr, hts, hown, hlocks, hin, hml⟩ := hBd
  have hl : lv_has ls 5 [(0, .ref h0), (1, .ref rd)] := hl
  have iX1 : ∀ w ∈ wsX10, w ∈ wsX1_passDay := fun _ h => List.mem_cons_of_mem _ (List.mem_append_left _ (List.mem_append_right _ h))
  have iX0 : ∀ w ∈ wsX00, w ∈ wsX1_passDay := fun _ h => List.mem_cons_of_mem _ (List.mem_append_right _ h)
  obtain ⟨h_mta, h_mtb⟩ := h_mt
  obtain ⟨h_lpea, h_lpeb⟩ := h_lpe
  obtain ⟨h_mda, h_mdb⟩ := h_md
  refine lv_iconst (v := 0) hx hb dX1_passDay_0 (by decide) ?_
  refine lv_istore_n (lv' := [(2, .int 0), (0, .ref h0), (1, .ref rd)]) hx hb dX1_passDay_1 rfl hl (by decide) rfl (fun ls hl => ?_)
  refine lv_aload_n hx hb dX1_passDay_2 rfl (lv_at hl 1 rfl) ?_
  refine lv_aload_n hx hb dX1_passDay_3 rfl (lv_at hl 2 rfl) ?_
  refine cV_v (As := [.ref rd]) (rest := []) ⟨hx, hb, hml, hown, hts⟩ (c_X1_findRides l D cI cZ cM h0 rd ln md mt mr mg mat mfd mhd lpe ltk lho lli lki lfd lfr lto lse lhl lFto lFfr lFki mFat mFfd mFhd Frd _ (show 0 ≤ mt.toInt ∧ mt.toInt ≤ 7 by omega) (show 0 ≤ lpe.toInt ∧ lpe.toInt ≤ 5 by omega)) (cwV 1 hts gX1_passDay_X1_findRides rfl rfl rfl (by decide +kernel) ⟨by rw [hR]; decide, by rw [hR]; decide⟩) hK hP hD hS hA [0, 1, 2, 3, 4, 5, 6, 7, 8] [] rfl rfl (by decide) (by decide) (by decide) rfl 0 rfl hl.1 rfl rfl (Nat.le_of_ble_eq_true rfl) dX1_passDay_4 ⟨by rw [hR]; decide, by rw [hR]; decide⟩ (fun u_3 H locs hw hP hD hS => ?_)
  obtain ⟨Grd_1, rfl⟩ : ∃ z, z = u_3 := ⟨_, rfl⟩
  have hP : va_P D vwCl [(h0, .inr (1, [.ref ln, .int md, .int mt, .int mr, .int mg, .ref mat, .ref mfd, .ref mhd])), (ln, .inr (0, [.int lpe, .int ltk, .ref lho, .ref lli, .ref lki, .ref lfd, .ref lfr, .ref lto, .ref lse, .ref lhl])), (lto, .inl (cI, 7, .inl lFto)), (lfr, .inl (cI, 7, .inl lFfr)), (lki, .inl (cI, 5, .inl lFki)), (mat, .inl (cI, 5, .inl mFat)), (mfd, .inl (cI, 7, .inl mFfd)), (mhd, .inl (cI, 7, .inl mFhd)), (rd, .inl (cI, 5, .inl Grd_1))] H := hP.sub [0, 1, 2, 3, 4, 5, 6, 7, 8] rfl
  have hD : va_D A [(h0, .inr (1, [.ref ln, .int md, .int mt, .int mr, .int mg, .ref mat, .ref mfd, .ref mhd])), (ln, .inr (0, [.int lpe, .int ltk, .ref lho, .ref lli, .ref lki, .ref lfd, .ref lfr, .ref lto, .ref lse, .ref lhl])), (lto, .inl (cI, 7, .inl lFto)), (lfr, .inl (cI, 7, .inl lFfr)), (lki, .inl (cI, 5, .inl lFki)), (mat, .inl (cI, 5, .inl mFat)), (mfd, .inl (cI, 7, .inl mFfd)), (mhd, .inl (cI, 7, .inl mFhd)), (rd, .inl (cI, 5, .inl Grd_1))] := hD.sub [0, 1, 2, 3, 4, 5, 6, 7, 8] (by decide) rfl
  refine W.widen (k := 0) (n := 0) (Nat.le_refl _) (Nat.le_refl _) ?_
  refine lv_iconst (v := 0) hx hb dX1_passDay_7 (by decide) ?_
  refine lv_istore_n (lv' := [(3, .int 0), (2, .int 0), (0, .ref h0), (1, .ref rd)]) hx hb dX1_passDay_8 rfl hl (by decide) rfl (fun ls hl => ?_)
  have LOOP_4 : ∀ (fu_4 : Nat) (w2 : Int32) (x3 : Int32) (nr : Int32) (ng : Int32) (nat : Nat → Int32) (nfd : Nat → Int32) (nhd : Nat → Int32) (H : Heap) (locs : List Loc) (ls : Array Slot), (5 - x3.toInt).toNat < fu_4 → (0 ≤ x3.toInt ∧ x3.toInt ≤ 5) → (lpe.toInt = 0 → w2.toInt = 0) → va_P D vwCl [(h0, .inr (1, [.ref ln, .int md, .int mt, .int nr, .int ng, .ref mat, .ref mfd, .ref mhd])), (ln, .inr (0, [.int lpe, .int ltk, .ref lho, .ref lli, .ref lki, .ref lfd, .ref lfr, .ref lto, .ref lse, .ref lhl])), (lto, .inl (cI, 7, .inl lFto)), (lfr, .inl (cI, 7, .inl lFfr)), (lki, .inl (cI, 5, .inl lFki)), (mat, .inl (cI, 5, .inl nat)), (mfd, .inl (cI, 7, .inl nfd)), (mhd, .inl (cI, 7, .inl nhd)), (rd, .inl (cI, 5, .inl Grd_1))] H → va_D A [(h0, .inr (1, [.ref ln, .int md, .int mt, .int nr, .int ng, .ref mat, .ref mfd, .ref mhd])), (ln, .inr (0, [.int lpe, .int ltk, .ref lho, .ref lli, .ref lki, .ref lfd, .ref lfr, .ref lto, .ref lse, .ref lhl])), (lto, .inl (cI, 7, .inl lFto)), (lfr, .inl (cI, 7, .inl lFfr)), (lki, .inl (cI, 5, .inl lFki)), (mat, .inl (cI, 5, .inl nat)), (mfd, .inl (cI, 7, .inl nfd)), (mhd, .inl (cI, 7, .inl nhd)), (rd, .inl (cI, 5, .inl Grd_1))] → va_S A s.heap H locs → lv_has ls 5 [(0, .ref h0), (1, .ref rd), (2, .int w2), (3, .int x3)] → W p l e R s m args below meth c H locs 0 0 Q (F0 m 9 ls []) := by
    intro fu_4
    induction fu_4 with
    | zero => intro w2 x3 nr ng nat nfd nhd H locs ls hmu; exact absurd hmu (Nat.not_lt_zero _)
    | succ fu_4 ih =>
      intro w2 x3 nr ng nat nfd nhd H locs ls hmu h_x3 hw0 hP hD hS hl
      obtain ⟨h_x3a, h_x3b⟩ := h_x3
      have ih_5 := ih
      clear ih
      refine lv_iload_n hx hb dX1_passDay_9 rfl (lv_at hl 3 rfl) ?_
      refine lv_aload_n hx hb dX1_passDay_10 rfl (lv_at hl 0 rfl) ?_
      refine va_get (D := D) (ci := 1) (v := .ref ln) (C := RX1) (T := TX1) (N := 8) hx hb hts iX1 hown hK hP 0 rfl rfl 0 (by decide) (hts (.fieldLink RX1 34 "PunchedTicket$Moment" "line" "LPunchedTicket$Line;") (List.mem_of_getElem? (i := 1) rfl)) (fun _ h9 => h9) rfl dX1_passDay_11 ?_
      refine va_get (D := D) (ci := 0) (v := .int lpe) (C := RX0) (T := TX0) (N := 10) hx hb hts iX0 hown hK hP 1 rfl rfl 0 (by decide) (hts (.fieldLink RX1 65 "PunchedTicket$Line" "people" "I") (List.mem_of_getElem? (i := 2) rfl)) (fun _ h9 => h9) rfl dX1_passDay_14 ?_
      refine lv_icmp_ge (tgt := 65) hx hb dX1_passDay_17 (by decide) (fun c_6 => ?_) (fun c_6 => ?_)
      · have tc_6 := b_le rfl rfl c_6
        refine lv_aload_n hx hb dX1_passDay_65 rfl (lv_at hl 0 rfl) ?_
        refine lv_dup hx hb dX1_passDay_66 rfl ?_
        refine va_get (D := D) (ci := 1) (v := .int md) (C := RX1) (T := TX1) (N := 8) hx hb hts iX1 hown hK hP 0 rfl rfl 1 (by decide) (hts (.fieldLink RX1 9 "PunchedTicket$Moment" "day" "I") (List.mem_of_getElem? (i := 4) rfl)) (fun _ h9 => h9) rfl dX1_passDay_67 ?_
        refine lv_iconst (v := 1) hx hb dX1_passDay_70 (by decide) ?_
        refine lv_iadd hx hb dX1_passDay_71 ?_
        refine lv_topi (fun v_7 ev_7 => ?_)
        have tv_7 : v_7.toInt = md.toInt + (1 : Int) := by rw [ev_7]; exact ti_add (x := md) (y := 1) (show -2147483648 ≤ md.toInt + (1 : Int) by omega) (show md.toInt + (1 : Int) < 2147483648 by omega)
        refine va_put (D := D) (ci := 1) (v := .int v_7) (ty := .int) (C := RX1) (T := TX1) (N := 8) hx hb hts iX1 tyX1 tyX1_ok nmX1 hown hK hP hD hS 0 rfl rfl 1 (by decide) (hts (.fieldLink RX1 9 "PunchedTicket$Moment" "day" "I") (List.mem_of_getElem? (i := 4) rfl)) (fun _ h9 => h9) rfl (by decide +kernel) rfl rfl (Nat.le_of_ble_eq_true rfl) dX1_passDay_72 (fun H locs hP hD hS => ?_)
        have hP : va_P D vwCl [(h0, .inr (1, [.ref ln, .int v_7, .int mt, .int nr, .int ng, .ref mat, .ref mfd, .ref mhd])), (ln, .inr (0, [.int lpe, .int ltk, .ref lho, .ref lli, .ref lki, .ref lfd, .ref lfr, .ref lto, .ref lse, .ref lhl])), (lto, .inl (cI, 7, .inl lFto)), (lfr, .inl (cI, 7, .inl lFfr)), (lki, .inl (cI, 5, .inl lFki)), (mat, .inl (cI, 5, .inl nat)), (mfd, .inl (cI, 7, .inl nfd)), (mhd, .inl (cI, 7, .inl nhd)), (rd, .inl (cI, 5, .inl Grd_1))] H := hP
        have hD : va_D A [(h0, .inr (1, [.ref ln, .int v_7, .int mt, .int nr, .int ng, .ref mat, .ref mfd, .ref mhd])), (ln, .inr (0, [.int lpe, .int ltk, .ref lho, .ref lli, .ref lki, .ref lfd, .ref lfr, .ref lto, .ref lse, .ref lhl])), (lto, .inl (cI, 7, .inl lFto)), (lfr, .inl (cI, 7, .inl lFfr)), (lki, .inl (cI, 5, .inl lFki)), (mat, .inl (cI, 5, .inl nat)), (mfd, .inl (cI, 7, .inl nfd)), (mhd, .inl (cI, 7, .inl nhd)), (rd, .inl (cI, 5, .inl Grd_1))] := hD
        refine lv_iload_n hx hb dX1_passDay_75 rfl (lv_at hl 2 rfl) ?_
        exact ret_i (post := (fun (r : Int32) (u : Int32 × Int32 × Int32 × (Nat → Int32) × (Nat → Int32) × (Nat → Int32) × (Nat → Int32)) => u.1.toInt = md.toInt + 1 ∧ (lpe.toInt = 0 → r.toInt = 0))) (W1 := (fun u => [(h0, .inr (1, [.ref ln, .int u.1, .int mt, .int u.2.1, .int u.2.2.1, .ref mat, .ref mfd, .ref mhd])), (ln, .inr (0, [.int lpe, .int ltk, .ref lho, .ref lli, .ref lki, .ref lfd, .ref lfr, .ref lto, .ref lse, .ref lhl])), (lto, .inl (cI, 7, .inl lFto)), (lfr, .inl (cI, 7, .inl lFfr)), (lki, .inl (cI, 5, .inl lFki)), (mat, .inl (cI, 5, .inl u.2.2.2.1)), (mfd, .inl (cI, 7, .inl u.2.2.2.2.1)), (mhd, .inl (cI, 7, .inl u.2.2.2.2.2.1)), (rd, .inl (cI, 5, .inl u.2.2.2.2.2.2))])) (v_7, nr, ng, nat, nfd, nhd, Grd_1) hx hb hr hlocks rfl hQ hK hP hD hS ⟨by decide, by decide⟩ dX1_passDay_76 (show v_7.toInt = md.toInt + 1 ∧ (lpe.toInt = 0 → w2.toInt = 0) by omega)
      · have tc_6 := b_nle rfl rfl c_6
        refine lv_aload_n hx hb dX1_passDay_20 rfl (lv_at hl 1 rfl) ?_
        refine lv_iload_n hx hb dX1_passDay_21 rfl (lv_at hl 3 rfl) ?_
        refine va_iald hx hb hK hP 8 0 rfl rfl (vp_in_iff.mpr ⟨by omega, by omega⟩) dX1_passDay_22 ?_
        refine lv_topi (fun v_8 ev_8 => ?_)
        refine lv_istore (lv' := [(4, .int v_8), (0, .ref h0), (1, .ref rd), (2, .int w2), (3, .int x3)]) hx hb dX1_passDay_23 hl (by decide) rfl (fun ls hl => ?_)
        refine lv_aload_n hx hb dX1_passDay_25 rfl (lv_at hl 1 rfl) ?_
        refine lv_iload hx hb dX1_passDay_26 (lv_at hl 0 rfl) ?_
        refine cV_i (As := [.int v_8]) (rest := []) ⟨hx, hb, hml, hown, hts⟩ (c_X1_hasTicket l D cI cZ cM h0 v_8 ln md mt nr ng mat mfd mhd _ ) (cwV 1 hts gX1_passDay_X1_hasTicket rfl rfl rfl (by decide +kernel) ⟨by rw [hR]; decide, by rw [hR]; decide⟩) hK hP hD hS hA [0] [1, 2, 3, 4, 5, 6, 7, 8] rfl rfl (by decide) (by decide) (by decide) rfl 0 rfl hl.1 rfl rfl (Nat.le_of_ble_eq_true rfl) dX1_passDay_28 ⟨by rw [hR]; decide, by rw [hR]; decide⟩ (fun r_9 u_10 H locs hw hP hD hS => ?_)
        have hP : va_P D vwCl [(h0, .inr (1, [.ref ln, .int md, .int mt, .int nr, .int ng, .ref mat, .ref mfd, .ref mhd])), (ln, .inr (0, [.int lpe, .int ltk, .ref lho, .ref lli, .ref lki, .ref lfd, .ref lfr, .ref lto, .ref lse, .ref lhl])), (lto, .inl (cI, 7, .inl lFto)), (lfr, .inl (cI, 7, .inl lFfr)), (lki, .inl (cI, 5, .inl lFki)), (mat, .inl (cI, 5, .inl nat)), (mfd, .inl (cI, 7, .inl nfd)), (mhd, .inl (cI, 7, .inl nhd)), (rd, .inl (cI, 5, .inl Grd_1))] H := hP.sub [8, 0, 1, 2, 3, 4, 5, 6, 7] rfl
        have hD : va_D A [(h0, .inr (1, [.ref ln, .int md, .int mt, .int nr, .int ng, .ref mat, .ref mfd, .ref mhd])), (ln, .inr (0, [.int lpe, .int ltk, .ref lho, .ref lli, .ref lki, .ref lfd, .ref lfr, .ref lto, .ref lse, .ref lhl])), (lto, .inl (cI, 7, .inl lFto)), (lfr, .inl (cI, 7, .inl lFfr)), (lki, .inl (cI, 5, .inl lFki)), (mat, .inl (cI, 5, .inl nat)), (mfd, .inl (cI, 7, .inl nfd)), (mhd, .inl (cI, 7, .inl nhd)), (rd, .inl (cI, 5, .inl Grd_1))] := hD.sub [8, 0, 1, 2, 3, 4, 5, 6, 7] (by decide) rfl
        refine W.widen (k := 0) (n := 0) (Nat.le_refl _) (Nat.le_refl _) ?_
        have hw : (r_9.toInt = 1 ∧ 0 ≤ v_8.toInt ∧ v_8.toInt < mt.toInt) ∨ (r_9.toInt = 0 ∧ (v_8.toInt < 0 ∨ mt.toInt ≤ v_8.toInt)) := hw
        have hw_11 := hw
        refine lv_if_eq (tgt := 59) hx hb dX1_passDay_31 (by decide) (fun c_12 => ?_) (fun c_12 => ?_)
        · have tc_12 := b_eq rfl (show (0 : Int32).toInt = 0 by decide) c_12
          obtain ⟨v_13, ev_13⟩ : ∃ z : Int32, z = x3 + 1 := ⟨_, rfl⟩
          have tv_13 : v_13.toInt = x3.toInt + 1 := by rw [ev_13]; exact ti_add (x := x3) (y := 1) (show -2147483648 ≤ x3.toInt + 1 by omega) (show x3.toInt + 1 < 2147483648 by omega)
          refine lv_iinc (v := v_13) (lv' := [(3, .int v_13), (4, .int v_8), (0, .ref h0), (1, .ref rd), (2, .int w2)]) hx hb dX1_passDay_59 hl (k := 4) rfl (by rw [ev_13]; rfl) (by decide) rfl (fun ls hl => ?_)
          refine lv_goto (tgt := 9) hx hb dX1_passDay_62 (by decide) ?_
          exact ih_5 w2 v_13 nr ng nat nfd nhd _ _ _ (show (5 - v_13.toInt).toNat < fu_4 by omega) (show 0 ≤ v_13.toInt ∧ v_13.toInt ≤ 5 by omega) (show lpe.toInt = 0 → w2.toInt = 0 by omega) hP hD hS (lv_sub hl [2, 3, 4, 0] rfl)
        · have tc_12 := b_ne rfl (show (0 : Int32).toInt = 0 by decide) c_12
          refine lv_aload_n hx hb dX1_passDay_34 rfl (lv_at hl 1 rfl) ?_
          refine va_get (D := D) (ci := 1) (v := .ref mat) (C := RX1) (T := TX1) (N := 8) hx hb hts iX1 hown hK hP 0 rfl rfl 5 (by decide) (hts (.fieldLink RX1 24 "PunchedTicket$Moment" "at" "[I") (List.mem_of_getElem? (i := 3) rfl)) (fun _ h9 => h9) rfl dX1_passDay_35 ?_
          refine lv_iload_n hx hb dX1_passDay_38 rfl (lv_at hl 4 rfl) ?_
          refine lv_aload_n hx hb dX1_passDay_39 rfl (lv_at hl 1 rfl) ?_
          refine lv_iload hx hb dX1_passDay_40 (lv_at hl 0 rfl) ?_
          refine cV_i (As := [.int v_8]) (rest := [.int x3, .ref mat]) ⟨hx, hb, hml, hown, hts⟩ (c_X1_to l D cI cZ cM h0 v_8 ln md mt nr ng mat mfd mhd lpe ltk lho lli lki lfd lfr lto lse lhl lFto lFfr _ (show 0 ≤ v_8.toInt ∧ v_8.toInt ≤ 6 by omega)) (cwV 1 hts gX1_passDay_X1_to rfl rfl rfl (by decide +kernel) ⟨by rw [hR]; decide, by rw [hR]; decide⟩) hK hP hD hS hA [0, 1, 2, 3] [4, 5, 6, 7, 8] rfl rfl (by decide) (by decide) (by decide) rfl 0 rfl hl.1 rfl rfl (Nat.le_of_ble_eq_true rfl) dX1_passDay_42 ⟨by rw [hR]; decide, by rw [hR]; decide⟩ (fun r_14 u_15 H locs hw hP hD hS => ?_)
          have hP : va_P D vwCl [(h0, .inr (1, [.ref ln, .int md, .int mt, .int nr, .int ng, .ref mat, .ref mfd, .ref mhd])), (ln, .inr (0, [.int lpe, .int ltk, .ref lho, .ref lli, .ref lki, .ref lfd, .ref lfr, .ref lto, .ref lse, .ref lhl])), (lto, .inl (cI, 7, .inl lFto)), (lfr, .inl (cI, 7, .inl lFfr)), (lki, .inl (cI, 5, .inl lFki)), (mat, .inl (cI, 5, .inl nat)), (mfd, .inl (cI, 7, .inl nfd)), (mhd, .inl (cI, 7, .inl nhd)), (rd, .inl (cI, 5, .inl Grd_1))] H := hP.sub [5, 6, 7, 8, 0, 1, 2, 3, 4] rfl
          have hD : va_D A [(h0, .inr (1, [.ref ln, .int md, .int mt, .int nr, .int ng, .ref mat, .ref mfd, .ref mhd])), (ln, .inr (0, [.int lpe, .int ltk, .ref lho, .ref lli, .ref lki, .ref lfd, .ref lfr, .ref lto, .ref lse, .ref lhl])), (lto, .inl (cI, 7, .inl lFto)), (lfr, .inl (cI, 7, .inl lFfr)), (lki, .inl (cI, 5, .inl lFki)), (mat, .inl (cI, 5, .inl nat)), (mfd, .inl (cI, 7, .inl nfd)), (mhd, .inl (cI, 7, .inl nhd)), (rd, .inl (cI, 5, .inl Grd_1))] := hD.sub [5, 6, 7, 8, 0, 1, 2, 3, 4] (by decide) rfl
          refine W.widen (k := 0) (n := 0) (Nat.le_refl _) (Nat.le_refl _) ?_
          refine va_iast hx hb hK hP hD hS 5 0 rfl rfl (vp_in_iff.mpr ⟨by omega, by omega⟩) dX1_passDay_45 (fun H locs hP hD hS => ?_)
          obtain ⟨f_16, ef_16⟩ : ∃ g : Nat → Int32, upd nat (x3 : Int32).toNatClampNeg r_14 = g := ⟨_, rfl⟩
          rw [ef_16] at hP hD
          have hP : va_P D vwCl [(h0, .inr (1, [.ref ln, .int md, .int mt, .int nr, .int ng, .ref mat, .ref mfd, .ref mhd])), (ln, .inr (0, [.int lpe, .int ltk, .ref lho, .ref lli, .ref lki, .ref lfd, .ref lfr, .ref lto, .ref lse, .ref lhl])), (lto, .inl (cI, 7, .inl lFto)), (lfr, .inl (cI, 7, .inl lFfr)), (lki, .inl (cI, 5, .inl lFki)), (mat, .inl (cI, 5, .inl f_16)), (mfd, .inl (cI, 7, .inl nfd)), (mhd, .inl (cI, 7, .inl nhd)), (rd, .inl (cI, 5, .inl Grd_1))] H := hP
          have hD : va_D A [(h0, .inr (1, [.ref ln, .int md, .int mt, .int nr, .int ng, .ref mat, .ref mfd, .ref mhd])), (ln, .inr (0, [.int lpe, .int ltk, .ref lho, .ref lli, .ref lki, .ref lfd, .ref lfr, .ref lto, .ref lse, .ref lhl])), (lto, .inl (cI, 7, .inl lFto)), (lfr, .inl (cI, 7, .inl lFfr)), (lki, .inl (cI, 5, .inl lFki)), (mat, .inl (cI, 5, .inl f_16)), (mfd, .inl (cI, 7, .inl nfd)), (mhd, .inl (cI, 7, .inl nhd)), (rd, .inl (cI, 5, .inl Grd_1))] := hD
          refine lv_aload_n hx hb dX1_passDay_46 rfl (lv_at hl 1 rfl) ?_
          refine lv_iload hx hb dX1_passDay_47 (lv_at hl 0 rfl) ?_
          refine lv_iload_n hx hb dX1_passDay_49 rfl (lv_at hl 4 rfl) ?_
          refine cV_v (As := [.int v_8, .int x3]) (rest := []) ⟨hx, hb, hml, hown, hts⟩ (c_X1_useTicket l D cI cZ cM h0 v_8 x3 ln md mt nr ng mat mfd mhd lpe ltk lho lli lki lfd lfr lto lse lhl lFki nfd nhd _ (show 0 ≤ v_8.toInt ∧ v_8.toInt ≤ 6 by omega) (show 0 ≤ x3.toInt ∧ x3.toInt ≤ 4 by omega) (show 0 ≤ md.toInt ∧ md.toInt ≤ 9 by omega)) (cwV 2 hts gX1_passDay_X1_useTicket rfl rfl rfl (by decide +kernel) ⟨by rw [hR]; decide, by rw [hR]; decide⟩) hK hP hD hS hA [0, 1, 4, 6, 7] [2, 3, 5, 8] rfl rfl (by decide) (by decide) (by decide) rfl 0 rfl hl.1 rfl rfl (Nat.le_of_ble_eq_true rfl) dX1_passDay_50 ⟨by rw [hR]; decide, by rw [hR]; decide⟩ (fun u_22 H locs hw hP hD hS => ?_)
          obtain ⟨mr1_17, mg1_18, Gfd_19, Ghd_20⟩ := u_22
          have hP : va_P D vwCl [(h0, .inr (1, [.ref ln, .int md, .int mt, .int mr1_17, .int mg1_18, .ref mat, .ref mfd, .ref mhd])), (ln, .inr (0, [.int lpe, .int ltk, .ref lho, .ref lli, .ref lki, .ref lfd, .ref lfr, .ref lto, .ref lse, .ref lhl])), (lto, .inl (cI, 7, .inl lFto)), (lfr, .inl (cI, 7, .inl lFfr)), (lki, .inl (cI, 5, .inl lFki)), (mat, .inl (cI, 5, .inl f_16)), (mfd, .inl (cI, 7, .inl Gfd_19)), (mhd, .inl (cI, 7, .inl Ghd_20)), (rd, .inl (cI, 5, .inl Grd_1))] H := hP.sub [4, 5, 0, 1, 6, 2, 7, 8, 3] rfl
          have hD : va_D A [(h0, .inr (1, [.ref ln, .int md, .int mt, .int mr1_17, .int mg1_18, .ref mat, .ref mfd, .ref mhd])), (ln, .inr (0, [.int lpe, .int ltk, .ref lho, .ref lli, .ref lki, .ref lfd, .ref lfr, .ref lto, .ref lse, .ref lhl])), (lto, .inl (cI, 7, .inl lFto)), (lfr, .inl (cI, 7, .inl lFfr)), (lki, .inl (cI, 5, .inl lFki)), (mat, .inl (cI, 5, .inl f_16)), (mfd, .inl (cI, 7, .inl Gfd_19)), (mhd, .inl (cI, 7, .inl Ghd_20)), (rd, .inl (cI, 5, .inl Grd_1))] := hD.sub [4, 5, 0, 1, 6, 2, 7, 8, 3] (by decide) rfl
          refine W.widen (k := 0) (n := 0) (Nat.le_refl _) (Nat.le_refl _) ?_
          refine lv_iload_n hx hb dX1_passDay_53 rfl (lv_at hl 3 rfl) ?_
          refine lv_iconst (v := 1) hx hb dX1_passDay_54 (by decide) ?_
          refine lv_iload_n hx hb dX1_passDay_55 rfl (lv_at hl 4 rfl) ?_
          refine lv_ishl hx hb dX1_passDay_56 ?_
          refine lv_topi (fun v_23 ev_23 => ?_)
          refine lv_ior hx hb dX1_passDay_57 ?_
          refine lv_topi (fun v_24 ev_24 => ?_)
          refine lv_istore_n (lv' := [(2, .int v_24), (4, .int v_8), (0, .ref h0), (1, .ref rd), (3, .int x3)]) hx hb dX1_passDay_58 rfl hl (by decide) rfl (fun ls hl => ?_)
          obtain ⟨v_25, ev_25⟩ : ∃ z : Int32, z = x3 + 1 := ⟨_, rfl⟩
          have tv_25 : v_25.toInt = x3.toInt + 1 := by rw [ev_25]; exact ti_add (x := x3) (y := 1) (show -2147483648 ≤ x3.toInt + 1 by omega) (show x3.toInt + 1 < 2147483648 by omega)
          refine lv_iinc (v := v_25) (lv' := [(3, .int v_25), (2, .int v_24), (4, .int v_8), (0, .ref h0), (1, .ref rd)]) hx hb dX1_passDay_59 hl (k := 4) rfl (by rw [ev_25]; rfl) (by decide) rfl (fun ls hl => ?_)
          refine lv_goto (tgt := 9) hx hb dX1_passDay_62 (by decide) ?_
          exact ih_5 v_24 v_25 mr1_17 mg1_18 f_16 Gfd_19 Ghd_20 _ _ _ (show (5 - v_25.toInt).toNat < fu_4 by omega) (show 0 ≤ v_25.toInt ∧ v_25.toInt ≤ 5 by omega) (show lpe.toInt = 0 → v_24.toInt = 0 by omega) hP hD hS (lv_sub hl [3, 4, 1, 0] rfl)
  exact LOOP_4 _ 0 0 mr mg mFat mFfd mFhd _ _ _ (Nat.lt_succ_self _) (by decide) (show lpe.toInt = 0 → (0 : Int) = 0 by omega) hP hD hS (lv_sub hl [2, 3, 1, 0] rfl)

set_option maxHeartbeats 600000 in
set_option maxRecDepth 100000 in
theorem c_X1_gladNow (l : Launch) (D : va_G) (cI cZ cM : ClassId) (h0 : Nat) (ln : Nat) (md : Int32) (mt : Int32) (mr : Int32) (mg : Int32) (mat : Nat) (mfd : Nat) (mhd : Nat) (lpe : Int32) (ltk : Int32) (lho : Nat) (lli : Nat) (lki : Nat) (lfd : Nat) (lfr : Nat) (lto : Nat) (lse : Nat) (lhl : Nat) (lFli : Nat → Int32) (mFat : Nat → Int32) (sz : Nat) (h_lpe : 0 ≤ lpe.toInt ∧ lpe.toInt ≤ 5) : Ci l yX1_gladNow wsX1_gladNow ({ frames := 0, cells := 0, slots := 0, locals := 0 } : Room) D cI cZ cM [.ref h0] [(h0, .inr (1, [.ref ln, .int md, .int mt, .int mr, .int mg, .ref mat, .ref mfd, .ref mhd])), (ln, .inr (0, [.int lpe, .int ltk, .ref lho, .ref lli, .ref lki, .ref lfd, .ref lfr, .ref lto, .ref lse, .ref lhl])), (lli, .inl (cI, 5, .inl lFli)), (mat, .inl (cI, 5, .inl mFat))] sz (fun (r : Int32) (u : Unit) => 0 ≤ r.toInt ∧ r.toInt ≤ lpe.toInt) (fun u => [(h0, .inr (1, [.ref ln, .int md, .int mt, .int mr, .int mg, .ref mat, .ref mfd, .ref mhd])), (ln, .inr (0, [.int lpe, .int ltk, .ref lho, .ref lli, .ref lki, .ref lfd, .ref lfr, .ref lto, .ref lse, .ref lhl])), (lli, .inl (cI, 5, .inl lFli)), (mat, .inl (cI, 5, .inl mFat))]) 0 0 := by
  refine begins (l := l) (y := yX1_gladNow) (ws := wsX1_gladNow) (av := [.ref h0]) (Qc := fun A => va_Qi (fun (r : Int32) (u : Unit) => 0 ≤ r.toInt ∧ r.toInt ≤ lpe.toInt) (fun u => Wd D cI cZ cM A ((fun u => [(h0, .inr (1, [.ref ln, .int md, .int mt, .int mr, .int mg, .ref mat, .ref mfd, .ref mhd])), (ln, .inr (0, [.int lpe, .int ltk, .ref lho, .ref lli, .ref lki, .ref lfd, .ref lfr, .ref lto, .ref lse, .ref lhl])), (lli, .inl (cI, 5, .inl lFli)), (mat, .inl (cI, 5, .inl mFat))]) u)) A) cX1_gladNow 3 (some .int) (by decide) rfl (Nat.le_of_ble_eq_true rfl) ?_
  intro p e s m args below meth c R Q A ls hBd hR hQ hA hS hK hP hD hl
  obtain ⟨hx, hb, hr, hts, hown, hlocks, hin, hml⟩ := hBd
  have hl : lv_has ls 3 [(0, .ref h0)] := hl
  have iX1 : ∀ w ∈ wsX10, w ∈ wsX1_gladNow := fun _ h => List.mem_cons_of_mem _ (List.mem_append_left _ (List.mem_append_right _ h))
  have iX0 : ∀ w ∈ wsX00, w ∈ wsX1_gladNow := fun _ h => List.mem_cons_of_mem _ (List.mem_append_right _ h)
  obtain ⟨h_lpea, h_lpeb⟩ := h_lpe
  refine lv_iconst (v := 0) hx hb dX1_gladNow_0 (by decide) ?_
  refine lv_istore_n (lv' := [(1, .int 0), (0, .ref h0)]) hx hb dX1_gladNow_1 rfl hl (by decide) rfl (fun ls hl => ?_)
  refine lv_iconst (v := 0) hx hb dX1_gladNow_2 (by decide) ?_
  refine lv_istore_n (lv' := [(2, .int 0), (1, .int 0), (0, .ref h0)]) hx hb dX1_gladNow_3 rfl hl (by decide) rfl (fun ls hl => ?_)
  have LOOP_1 : ∀ (fu_1 : Nat) (g1 : Int32) (x2 : Int32) (H : Heap) (locs : List Loc) (ls : Array Slot), (5 - x2.toInt).toNat < fu_1 → (0 ≤ g1.toInt ∧ g1.toInt ≤ 5) → (0 ≤ x2.toInt ∧ x2.toInt ≤ 5) → (g1.toInt ≤ x2.toInt) → (x2.toInt ≤ lpe.toInt) → va_P D vwCl [(h0, .inr (1, [.ref ln, .int md, .int mt, .int mr, .int mg, .ref mat, .ref mfd, .ref mhd])), (ln, .inr (0, [.int lpe, .int ltk, .ref lho, .ref lli, .ref lki, .ref lfd, .ref lfr, .ref lto, .ref lse, .ref lhl])), (lli, .inl (cI, 5, .inl lFli)), (mat, .inl (cI, 5, .inl mFat))] H → va_D A [(h0, .inr (1, [.ref ln, .int md, .int mt, .int mr, .int mg, .ref mat, .ref mfd, .ref mhd])), (ln, .inr (0, [.int lpe, .int ltk, .ref lho, .ref lli, .ref lki, .ref lfd, .ref lfr, .ref lto, .ref lse, .ref lhl])), (lli, .inl (cI, 5, .inl lFli)), (mat, .inl (cI, 5, .inl mFat))] → va_S A s.heap H locs → lv_has ls 3 [(0, .ref h0), (1, .int g1), (2, .int x2)] → W p l e R s m args below meth c H locs 0 0 Q (F0 m 4 ls []) := by
    intro fu_1
    induction fu_1 with
    | zero => intro g1 x2 H locs ls hmu; exact absurd hmu (Nat.not_lt_zero _)
    | succ fu_1 ih =>
      intro g1 x2 H locs ls hmu h_g1 h_x2 hg hx2 hP hD hS hl
      obtain ⟨h_g1a, h_g1b⟩ := h_g1
      obtain ⟨h_x2a, h_x2b⟩ := h_x2
      have ih_2 := ih
      clear ih
      refine lv_iload_n hx hb dX1_gladNow_4 rfl (lv_at hl 2 rfl) ?_
      refine lv_aload_n hx hb dX1_gladNow_5 rfl (lv_at hl 0 rfl) ?_
      refine va_get (D := D) (ci := 1) (v := .ref ln) (C := RX1) (T := TX1) (N := 8) hx hb hts iX1 hown hK hP 0 rfl rfl 0 (by decide) (hts (.fieldLink RX1 34 "PunchedTicket$Moment" "line" "LPunchedTicket$Line;") (List.mem_of_getElem? (i := 1) rfl)) (fun _ h9 => h9) rfl dX1_gladNow_6 ?_
      refine va_get (D := D) (ci := 0) (v := .int lpe) (C := RX0) (T := TX0) (N := 10) hx hb hts iX0 hown hK hP 1 rfl rfl 0 (by decide) (hts (.fieldLink RX1 65 "PunchedTicket$Line" "people" "I") (List.mem_of_getElem? (i := 2) rfl)) (fun _ h9 => h9) rfl dX1_gladNow_9 ?_
      refine lv_icmp_ge (tgt := 42) hx hb dX1_gladNow_12 (by decide) (fun c_3 => ?_) (fun c_3 => ?_)
      · have tc_3 := b_le rfl rfl c_3
        refine lv_iload_n hx hb dX1_gladNow_42 rfl (lv_at hl 1 rfl) ?_
        exact ret_i (post := (fun (r : Int32) (u : Unit) => 0 ≤ r.toInt ∧ r.toInt ≤ lpe.toInt)) (W1 := (fun u => [(h0, .inr (1, [.ref ln, .int md, .int mt, .int mr, .int mg, .ref mat, .ref mfd, .ref mhd])), (ln, .inr (0, [.int lpe, .int ltk, .ref lho, .ref lli, .ref lki, .ref lfd, .ref lfr, .ref lto, .ref lse, .ref lhl])), (lli, .inl (cI, 5, .inl lFli)), (mat, .inl (cI, 5, .inl mFat))])) () hx hb hr hlocks rfl hQ hK hP hD hS ⟨by decide, by decide⟩ dX1_gladNow_43 (show 0 ≤ g1.toInt ∧ g1.toInt ≤ lpe.toInt by omega)
      · have tc_3 := b_nle rfl rfl c_3
        refine lv_aload_n hx hb dX1_gladNow_15 rfl (lv_at hl 0 rfl) ?_
        refine va_get (D := D) (ci := 1) (v := .ref mat) (C := RX1) (T := TX1) (N := 8) hx hb hts iX1 hown hK hP 0 rfl rfl 5 (by decide) (hts (.fieldLink RX1 24 "PunchedTicket$Moment" "at" "[I") (List.mem_of_getElem? (i := 3) rfl)) (fun _ h9 => h9) rfl dX1_gladNow_16 ?_
        refine lv_iload_n hx hb dX1_gladNow_19 rfl (lv_at hl 2 rfl) ?_
        refine va_iald hx hb hK hP 3 0 rfl rfl (vp_in_iff.mpr ⟨by omega, by omega⟩) dX1_gladNow_20 ?_
        refine lv_topi (fun v_4 ev_4 => ?_)
        refine lv_aload_n hx hb dX1_gladNow_21 rfl (lv_at hl 0 rfl) ?_
        refine va_get (D := D) (ci := 1) (v := .ref ln) (C := RX1) (T := TX1) (N := 8) hx hb hts iX1 hown hK hP 0 rfl rfl 0 (by decide) (hts (.fieldLink RX1 34 "PunchedTicket$Moment" "line" "LPunchedTicket$Line;") (List.mem_of_getElem? (i := 1) rfl)) (fun _ h9 => h9) rfl dX1_gladNow_22 ?_
        refine va_get (D := D) (ci := 0) (v := .ref lli) (C := RX0) (T := TX0) (N := 10) hx hb hts iX0 hown hK hP 1 rfl rfl 3 (by decide) (hts (.fieldLink RX1 68 "PunchedTicket$Line" "liked" "[I") (List.mem_of_getElem? (i := 4) rfl)) (fun _ h9 => h9) rfl dX1_gladNow_25 ?_
        refine lv_iload_n hx hb dX1_gladNow_28 rfl (lv_at hl 2 rfl) ?_
        refine va_iald hx hb hK hP 2 0 rfl rfl (vp_in_iff.mpr ⟨by omega, by omega⟩) dX1_gladNow_29 ?_
        refine lv_topi (fun v_5 ev_5 => ?_)
        refine lv_icmp_ne (tgt := 36) hx hb dX1_gladNow_30 (by decide) (fun c_6 => ?_) (fun c_6 => ?_)
        · have tc_6 := b_ne rfl rfl c_6
          obtain ⟨v_7, ev_7⟩ : ∃ z : Int32, z = x2 + 1 := ⟨_, rfl⟩
          have tv_7 : v_7.toInt = x2.toInt + 1 := by rw [ev_7]; exact ti_add (x := x2) (y := 1) (show -2147483648 ≤ x2.toInt + 1 by omega) (show x2.toInt + 1 < 2147483648 by omega)
          refine lv_iinc (v := v_7) (lv' := [(2, .int v_7), (0, .ref h0), (1, .int g1)]) hx hb dX1_gladNow_36 hl (k := 2) rfl (by rw [ev_7]; rfl) (by decide) rfl (fun ls hl => ?_)
          refine lv_goto (tgt := 4) hx hb dX1_gladNow_39 (by decide) ?_
          exact ih_2 g1 v_7 _ _ _ (show (5 - v_7.toInt).toNat < fu_1 by omega) (show 0 ≤ g1.toInt ∧ g1.toInt ≤ 5 by omega) (show 0 ≤ v_7.toInt ∧ v_7.toInt ≤ 5 by omega) (show g1.toInt ≤ v_7.toInt by omega) (show v_7.toInt ≤ lpe.toInt by omega) hP hD hS (lv_sub hl [1, 2, 0] rfl)
        · have tc_6 := b_eq rfl rfl c_6
          obtain ⟨v_8, ev_8⟩ : ∃ z : Int32, z = g1 + 1 := ⟨_, rfl⟩
          have tv_8 : v_8.toInt = g1.toInt + 1 := by rw [ev_8]; exact ti_add (x := g1) (y := 1) (show -2147483648 ≤ g1.toInt + 1 by omega) (show g1.toInt + 1 < 2147483648 by omega)
          refine lv_iinc (v := v_8) (lv' := [(1, .int v_8), (0, .ref h0), (2, .int x2)]) hx hb dX1_gladNow_33 hl (k := 1) rfl (by rw [ev_8]; rfl) (by decide) rfl (fun ls hl => ?_)
          obtain ⟨v_9, ev_9⟩ : ∃ z : Int32, z = x2 + 1 := ⟨_, rfl⟩
          have tv_9 : v_9.toInt = x2.toInt + 1 := by rw [ev_9]; exact ti_add (x := x2) (y := 1) (show -2147483648 ≤ x2.toInt + 1 by omega) (show x2.toInt + 1 < 2147483648 by omega)
          refine lv_iinc (v := v_9) (lv' := [(2, .int v_9), (1, .int v_8), (0, .ref h0)]) hx hb dX1_gladNow_36 hl (k := 2) rfl (by rw [ev_9]; rfl) (by decide) rfl (fun ls hl => ?_)
          refine lv_goto (tgt := 4) hx hb dX1_gladNow_39 (by decide) ?_
          exact ih_2 v_8 v_9 _ _ _ (show (5 - v_9.toInt).toNat < fu_1 by omega) (show 0 ≤ v_8.toInt ∧ v_8.toInt ≤ 5 by omega) (show 0 ≤ v_9.toInt ∧ v_9.toInt ≤ 5 by omega) (show v_8.toInt ≤ v_9.toInt by omega) (show v_9.toInt ≤ lpe.toInt by omega) hP hD hS (lv_sub hl [2, 1, 0] rfl)
  exact LOOP_1 _ 0 0 _ _ _ (Nat.lt_succ_self _) (by decide) (by decide) (by decide) (show (0 : Int) ≤ lpe.toInt by omega) hP hD hS (lv_sub hl [2, 1, 0] rfl)
