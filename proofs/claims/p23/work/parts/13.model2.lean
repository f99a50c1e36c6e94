set_option maxRecDepth 20000 in
theorem ggX4_person_X4_isPerson : GoodIn wsX4_person wsX4_isPerson := goodIn_r _ [9, 10, 11, 12, 8, 13, 26, 27, 28, 29, 30, 31, 32, 33, 34, 35, 36, 37, 38, 39, 40, 41, 42, 43, 44, 45, 46, 47, 48, 49, 50, 51, 52, 53, 54, 55] rfl (by decide +kernel)
set_option maxRecDepth 20000 in
theorem gX4_person_X4_isPerson : GoodIn wsX4_person (wsV RX4 111 RX4 yX4_isPerson wsX4_isPerson) := goodIn_app (goodIn_r _ [5, 6, 7, 8] rfl (by decide +kernel)) ggX4_person_X4_isPerson
set_option maxRecDepth 20000 in
theorem ggX4_person_X4_isGone : GoodIn wsX4_person wsX4_isGone := goodIn_r _ [17, 2, 26, 27, 28, 29, 30, 31, 32, 33, 34, 35, 36, 37, 38, 39, 40, 41, 42, 43, 44, 45, 46, 47, 48, 49, 50, 51, 52, 53, 54, 55] rfl (by decide +kernel)
set_option maxRecDepth 20000 in
theorem gX4_person_X4_isGone : GoodIn wsX4_person (wsV RX4 107 RX4 yX4_isGone wsX4_isGone) := goodIn_app (goodIn_r _ [14, 15, 16, 8] rfl (by decide +kernel)) ggX4_person_X4_isGone
set_option maxRecDepth 20000 in
theorem ggX4_person_X4_holder : GoodIn wsX4_person wsX4_holder := goodIn_r _ [21, 2, 26, 27, 28, 29, 30, 31, 32, 33, 34, 35, 36, 37, 38, 39, 40, 41, 42, 43, 44, 45, 46, 47, 48, 49, 50, 51, 52, 53, 54, 55] rfl (by decide +kernel)
set_option maxRecDepth 20000 in
theorem gX4_person_X4_holder : GoodIn wsX4_person (wsV RX4 114 RX4 yX4_holder wsX4_holder) := goodIn_app (goodIn_r _ [18, 19, 20, 8] rfl (by decide +kernel)) ggX4_person_X4_holder
set_option maxRecDepth 20000 in
theorem ggX4_person_X4_goesBy : GoodIn wsX4_person wsX4_goesBy := goodIn_r _ [25, 2, 4, 26, 27, 28, 29, 30, 31, 32, 33, 34, 35, 36, 37, 38, 39, 40, 41, 42, 43, 44, 45, 46, 47, 48, 49, 50, 51, 52, 53, 54, 55] rfl (by decide +kernel)
set_option maxRecDepth 20000 in
theorem gX4_person_X4_goesBy : GoodIn wsX4_person (wsV RX4 118 RX4 yX4_goesBy wsX4_goesBy) := goodIn_app (goodIn_r _ [22, 23, 24, 8] rfl (by decide +kernel)) ggX4_person_X4_goesBy
theorem dX4_person_0 : decode cX4_person 0 = .ok (.aload_n 0, 1) := by decide +kernel
theorem dX4_person_1 : decode cX4_person 1 = .ok (.iload_n 1, 1) := by decide +kernel
theorem dX4_person_2 : decode cX4_person 2 = .ok (.invokevirtual 111, 3) := by decide +kernel
theorem dX4_person_5 : decode cX4_person 5 = .ok (.ifCond .ne 5, 3) := by decide +kernel
theorem dX4_person_8 : decode cX4_person 8 = .ok (.iconst (-1), 1) := by decide +kernel
theorem dX4_person_9 : decode cX4_person 9 = .ok (.ireturn, 1) := by decide +kernel
theorem dX4_person_10 : decode cX4_person 10 = .ok (.iconst 0, 1) := by decide +kernel
theorem dX4_person_11 : decode cX4_person 11 = .ok (.istore_n 3, 1) := by decide +kernel
theorem dX4_person_12 : decode cX4_person 12 = .ok (.iconst 0, 1) := by decide +kernel
theorem dX4_person_13 : decode cX4_person 13 = .ok (.istore 4, 2) := by decide +kernel
theorem dX4_person_15 : decode cX4_person 15 = .ok (.iload 4, 2) := by decide +kernel
theorem dX4_person_17 : decode cX4_person 17 = .ok (.aload_n 0, 1) := by decide +kernel
theorem dX4_person_18 : decode cX4_person 18 = .ok (.getfield 101, 3) := by decide +kernel
theorem dX4_person_21 : decode cX4_person 21 = .ok (.if_icmp .ge 39, 3) := by decide +kernel
theorem dX4_person_24 : decode cX4_person 24 = .ok (.iload_n 3, 1) := by decide +kernel
theorem dX4_person_25 : decode cX4_person 25 = .ok (.aload_n 0, 1) := by decide +kernel
theorem dX4_person_26 : decode cX4_person 26 = .ok (.iload 4, 2) := by decide +kernel
theorem dX4_person_28 : decode cX4_person 28 = .ok (.invokevirtual 107, 3) := by decide +kernel
theorem dX4_person_31 : decode cX4_person 31 = .ok (.ifCond .ne 20, 3) := by decide +kernel
theorem dX4_person_34 : decode cX4_person 34 = .ok (.aload_n 0, 1) := by decide +kernel
theorem dX4_person_35 : decode cX4_person 35 = .ok (.iload 4, 2) := by decide +kernel
theorem dX4_person_37 : decode cX4_person 37 = .ok (.invokevirtual 114, 3) := by decide +kernel
theorem dX4_person_40 : decode cX4_person 40 = .ok (.iload_n 1, 1) := by decide +kernel
theorem dX4_person_41 : decode cX4_person 41 = .ok (.if_icmp .ne 10, 3) := by decide +kernel
theorem dX4_person_44 : decode cX4_person 44 = .ok (.iconst 1, 1) := by decide +kernel
theorem dX4_person_45 : decode cX4_person 45 = .ok (.iload 4, 2) := by decide +kernel
theorem dX4_person_47 : decode cX4_person 47 = .ok (.ishl, 1) := by decide +kernel
theorem dX4_person_48 : decode cX4_person 48 = .ok (.goto 4, 3) := by decide +kernel
theorem dX4_person_51 : decode cX4_person 51 = .ok (.iconst 0, 1) := by decide +kernel
theorem dX4_person_52 : decode cX4_person 52 = .ok (.ior, 1) := by decide +kernel
theorem dX4_person_53 : decode cX4_person 53 = .ok (.istore_n 3, 1) := by decide +kernel
theorem dX4_person_54 : decode cX4_person 54 = .ok (.iinc 4 1, 3) := by decide +kernel
theorem dX4_person_57 : decode cX4_person 57 = .ok (.goto (-42), 3) := by decide +kernel
theorem dX4_person_60 : decode cX4_person 60 = .ok (.iload_n 2, 1) := by decide +kernel
theorem dX4_person_61 : decode cX4_person 61 = .ok (.tableswitch 71 0 4 #[35, 44, 51, 58, 60], 35) := by decide +kernel
theorem dX4_person_96 : decode cX4_person 96 = .ok (.aload_n 0, 1) := by decide +kernel
theorem dX4_person_97 : decode cX4_person 97 = .ok (.getfield 19, 3) := by decide +kernel
theorem dX4_person_100 : decode cX4_person 100 = .ok (.iconst 1, 1) := by decide +kernel
theorem dX4_person_101 : decode cX4_person 101 = .ok (.iload_n 1, 1) := by decide +kernel
theorem dX4_person_102 : decode cX4_person 102 = .ok (.iadd, 1) := by decide +kernel
theorem dX4_person_103 : decode cX4_person 103 = .ok (.iaload, 1) := by decide +kernel
theorem dX4_person_104 : decode cX4_person 104 = .ok (.ireturn, 1) := by decide +kernel
theorem dX4_person_105 : decode cX4_person 105 = .ok (.aload_n 0, 1) := by decide +kernel
theorem dX4_person_106 : decode cX4_person 106 = .ok (.getfield 7, 3) := by decide +kernel
theorem dX4_person_109 : decode cX4_person 109 = .ok (.iload_n 1, 1) := by decide +kernel
theorem dX4_person_110 : decode cX4_person 110 = .ok (.iaload, 1) := by decide +kernel
theorem dX4_person_111 : decode cX4_person 111 = .ok (.ireturn, 1) := by decide +kernel
theorem dX4_person_112 : decode cX4_person 112 = .ok (.aload_n 0, 1) := by decide +kernel
theorem dX4_person_113 : decode cX4_person 113 = .ok (.getfield 13, 3) := by decide +kernel
theorem dX4_person_116 : decode cX4_person 116 = .ok (.iload_n 1, 1) := by decide +kernel
theorem dX4_person_117 : decode cX4_person 117 = .ok (.iaload, 1) := by decide +kernel
theorem dX4_person_118 : decode cX4_person 118 = .ok (.ireturn, 1) := by decide +kernel
theorem dX4_person_119 : decode cX4_person 119 = .ok (.iload_n 3, 1) := by decide +kernel
theorem dX4_person_120 : decode cX4_person 120 = .ok (.ireturn, 1) := by decide +kernel
theorem dX4_person_121 : decode cX4_person 121 = .ok (.aload_n 0, 1) := by decide +kernel
theorem dX4_person_122 : decode cX4_person 122 = .ok (.iconst 0, 1) := by decide +kernel
theorem dX4_person_123 : decode cX4_person 123 = .ok (.iload_n 1, 1) := by decide +kernel
theorem dX4_person_124 : decode cX4_person 124 = .ok (.aload_n 0, 1) := by decide +kernel
theorem dX4_person_125 : decode cX4_person 125 = .ok (.getfield 101, 3) := by decide +kernel
theorem dX4_person_128 : decode cX4_person 128 = .ok (.invokevirtual 118, 3) := by decide +kernel
theorem dX4_person_131 : decode cX4_person 131 = .ok (.ireturn, 1) := by decide +kernel
theorem dX4_person_132 : decode cX4_person 132 = .ok (.bipush (-2), 2) := by decide +kernel
theorem dX4_person_134 : decode cX4_person 134 = .ok (.ireturn, 1) := by decide +kernel
set_option maxRecDepth 20000 in
theorem ggX4_ticket_X4_isTicket : GoodIn wsX4_ticket wsX4_isTicket := goodIn_r _ [7, 8, 9, 10, 6, 11, 16, 17, 18, 19, 20, 21, 22, 23, 24, 25, 26, 27, 28, 29, 30, 31, 32, 33, 34, 35, 36, 37, 38, 39, 40, 41, 42, 43, 44, 45] rfl (by decide +kernel)
set_option maxRecDepth 20000 in
theorem gX4_ticket_X4_isTicket : GoodIn wsX4_ticket (wsV RX4 122 RX4 yX4_isTicket wsX4_isTicket) := goodIn_app (goodIn_r _ [3, 4, 5, 6] rfl (by decide +kernel)) ggX4_ticket_X4_isTicket
set_option maxRecDepth 20000 in
theorem ggX4_ticket_X4_holder : GoodIn wsX4_ticket wsX4_holder := goodIn_r _ [15, 1, 16, 17, 18, 19, 20, 21, 22, 23, 24, 25, 26, 27, 28, 29, 30, 31, 32, 33, 34, 35, 36, 37, 38, 39, 40, 41, 42, 43, 44, 45] rfl (by decide +kernel)
set_option maxRecDepth 20000 in
theorem gX4_ticket_X4_holder : GoodIn wsX4_ticket (wsV RX4 114 RX4 yX4_holder wsX4_holder) := goodIn_app (goodIn_r _ [12, 13, 14, 6] rfl (by decide +kernel)) ggX4_ticket_X4_holder
theorem dX4_ticket_0 : decode cX4_ticket 0 = .ok (.aload_n 0, 1) := by decide +kernel
theorem dX4_ticket_1 : decode cX4_ticket 1 = .ok (.iload_n 1, 1) := by decide +kernel
theorem dX4_ticket_2 : decode cX4_ticket 2 = .ok (.invokevirtual 122, 3) := by decide +kernel
theorem dX4_ticket_5 : decode cX4_ticket 5 = .ok (.ifCond .ne 5, 3) := by decide +kernel
theorem dX4_ticket_8 : decode cX4_ticket 8 = .ok (.iconst (-1), 1) := by decide +kernel
theorem dX4_ticket_9 : decode cX4_ticket 9 = .ok (.ireturn, 1) := by decide +kernel
theorem dX4_ticket_10 : decode cX4_ticket 10 = .ok (.bipush 6, 2) := by decide +kernel
theorem dX4_ticket_12 : decode cX4_ticket 12 = .ok (.bipush 6, 2) := by decide +kernel
theorem dX4_ticket_14 : decode cX4_ticket 14 = .ok (.iload_n 1, 1) := by decide +kernel
theorem dX4_ticket_15 : decode cX4_ticket 15 = .ok (.imul, 1) := by decide +kernel
theorem dX4_ticket_16 : decode cX4_ticket 16 = .ok (.iadd, 1) := by decide +kernel
theorem dX4_ticket_17 : decode cX4_ticket 17 = .ok (.istore_n 3, 1) := by decide +kernel
theorem dX4_ticket_18 : decode cX4_ticket 18 = .ok (.iload_n 2, 1) := by decide +kernel
theorem dX4_ticket_19 : decode cX4_ticket 19 = .ok (.tableswitch 97 0 6 #[41, 48, 57, 66, 73, 79, 88], 41) := by decide +kernel
theorem dX4_ticket_60 : decode cX4_ticket 60 = .ok (.aload_n 0, 1) := by decide +kernel
theorem dX4_ticket_61 : decode cX4_ticket 61 = .ok (.getfield 19, 3) := by decide +kernel
theorem dX4_ticket_64 : decode cX4_ticket 64 = .ok (.iload_n 3, 1) := by decide +kernel
theorem dX4_ticket_65 : decode cX4_ticket 65 = .ok (.iaload, 1) := by decide +kernel
theorem dX4_ticket_66 : decode cX4_ticket 66 = .ok (.ireturn, 1) := by decide +kernel
theorem dX4_ticket_67 : decode cX4_ticket 67 = .ok (.aload_n 0, 1) := by decide +kernel
theorem dX4_ticket_68 : decode cX4_ticket 68 = .ok (.getfield 19, 3) := by decide +kernel
theorem dX4_ticket_71 : decode cX4_ticket 71 = .ok (.iload_n 3, 1) := by decide +kernel
theorem dX4_ticket_72 : decode cX4_ticket 72 = .ok (.iconst 1, 1) := by decide +kernel
theorem dX4_ticket_73 : decode cX4_ticket 73 = .ok (.iadd, 1) := by decide +kernel
theorem dX4_ticket_74 : decode cX4_ticket 74 = .ok (.iaload, 1) := by decide +kernel
theorem dX4_ticket_75 : decode cX4_ticket 75 = .ok (.ireturn, 1) := by decide +kernel
theorem dX4_ticket_76 : decode cX4_ticket 76 = .ok (.aload_n 0, 1) := by decide +kernel
theorem dX4_ticket_77 : decode cX4_ticket 77 = .ok (.getfield 19, 3) := by decide +kernel
theorem dX4_ticket_80 : decode cX4_ticket 80 = .ok (.iload_n 3, 1) := by decide +kernel
theorem dX4_ticket_81 : decode cX4_ticket 81 = .ok (.iconst 2, 1) := by decide +kernel
theorem dX4_ticket_82 : decode cX4_ticket 82 = .ok (.iadd, 1) := by decide +kernel
theorem dX4_ticket_83 : decode cX4_ticket 83 = .ok (.iaload, 1) := by decide +kernel
theorem dX4_ticket_84 : decode cX4_ticket 84 = .ok (.ireturn, 1) := by decide +kernel
theorem dX4_ticket_85 : decode cX4_ticket 85 = .ok (.aload_n 0, 1) := by decide +kernel
theorem dX4_ticket_86 : decode cX4_ticket 86 = .ok (.getfield 16, 3) := by decide +kernel
theorem dX4_ticket_89 : decode cX4_ticket 89 = .ok (.iload_n 1, 1) := by decide +kernel
theorem dX4_ticket_90 : decode cX4_ticket 90 = .ok (.iaload, 1) := by decide +kernel
theorem dX4_ticket_91 : decode cX4_ticket 91 = .ok (.ireturn, 1) := by decide +kernel
theorem dX4_ticket_92 : decode cX4_ticket 92 = .ok (.aload_n 0, 1) := by decide +kernel
theorem dX4_ticket_93 : decode cX4_ticket 93 = .ok (.iload_n 1, 1) := by decide +kernel
theorem dX4_ticket_94 : decode cX4_ticket 94 = .ok (.invokevirtual 114, 3) := by decide +kernel
theorem dX4_ticket_97 : decode cX4_ticket 97 = .ok (.ireturn, 1) := by decide +kernel
theorem dX4_ticket_98 : decode cX4_ticket 98 = .ok (.aload_n 0, 1) := by decide +kernel
theorem dX4_ticket_99 : decode cX4_ticket 99 = .ok (.getfield 19, 3) := by decide +kernel
theorem dX4_ticket_102 : decode cX4_ticket 102 = .ok (.iload_n 3, 1) := by decide +kernel
theorem dX4_ticket_103 : decode cX4_ticket 103 = .ok (.iconst 4, 1) := by decide +kernel
theorem dX4_ticket_104 : decode cX4_ticket 104 = .ok (.iadd, 1) := by decide +kernel
theorem dX4_ticket_105 : decode cX4_ticket 105 = .ok (.iaload, 1) := by decide +kernel
theorem dX4_ticket_106 : decode cX4_ticket 106 = .ok (.ireturn, 1) := by decide +kernel
theorem dX4_ticket_107 : decode cX4_ticket 107 = .ok (.aload_n 0, 1) := by decide +kernel
theorem dX4_ticket_108 : decode cX4_ticket 108 = .ok (.getfield 19, 3) := by decide +kernel
theorem dX4_ticket_111 : decode cX4_ticket 111 = .ok (.iload_n 3, 1) := by decide +kernel
theorem dX4_ticket_112 : decode cX4_ticket 112 = .ok (.iconst 5, 1) := by decide +kernel
theorem dX4_ticket_113 : decode cX4_ticket 113 = .ok (.iadd, 1) := by decide +kernel
theorem dX4_ticket_114 : decode cX4_ticket 114 = .ok (.iaload, 1) := by decide +kernel
theorem dX4_ticket_115 : decode cX4_ticket 115 = .ok (.ireturn, 1) := by decide +kernel
theorem dX4_ticket_116 : decode cX4_ticket 116 = .ok (.bipush (-2), 2) := by decide +kernel
theorem dX4_ticket_118 : decode cX4_ticket 118 = .ok (.ireturn, 1) := by decide +kernel
set_option maxRecDepth 20000 in
theorem ggX4_isBlank_X4_layTrial : GoodIn wsX4_isBlank wsX4_layTrial := goodIn_r _ [8, 2, 37, 38, 39, 40, 41, 42, 43, 44, 45, 46, 47, 48, 49, 50, 51, 52, 53, 54, 55, 56, 57, 58, 59, 60, 61, 62, 63, 64, 65, 66] rfl (by decide +kernel)
set_option maxRecDepth 20000 in
theorem gX4_isBlank_X4_layTrial : GoodIn wsX4_isBlank (wsV RX4 157 RX4 yX4_layTrial wsX4_layTrial) := goodIn_app (goodIn_r _ [4, 5, 6, 7] rfl (by decide +kernel)) ggX4_isBlank_X4_layTrial
set_option maxRecDepth 20000 in
theorem ggX4_isBlank_X4_pass : GoodIn wsX4_isBlank wsX4_pass := goodIn_r _ [12, 13, 14, 2, 15, 16, 17, 18, 19, 7, 20, 21, 22, 23, 24, 25, 37, 38, 39, 40, 41, 42, 43, 44, 45, 46, 47, 48, 49, 50, 51, 52, 53, 54, 55, 56, 57, 58, 59, 60, 61, 62, 63, 64, 65, 66] rfl (by decide +kernel)
set_option maxRecDepth 20000 in
theorem gX4_isBlank_X4_pass : GoodIn wsX4_isBlank (wsV RX4 143 RX4 yX4_pass wsX4_pass) := goodIn_app (goodIn_r _ [9, 10, 11, 7] rfl (by decide +kernel)) ggX4_isBlank_X4_pass
set_option maxRecDepth 20000 in
theorem ggX4_isBlank_X4_isDouble : GoodIn wsX4_isBlank wsX4_isDouble := goodIn_r _ [29, 13, 3, 14, 30, 31, 32, 7, 33, 15, 16, 34, 35, 36, 37, 38, 39, 40, 41, 42, 43, 44, 45, 46, 47, 48, 49, 50, 51, 52, 53, 54, 55, 56, 57, 58, 59, 60, 61, 62, 63, 64, 65, 66] rfl (by decide +kernel)
set_option maxRecDepth 20000 in
theorem gX4_isBlank_X4_isDouble : GoodIn wsX4_isBlank (wsV RX4 163 RX4 yX4_isDouble wsX4_isDouble) := goodIn_app (goodIn_r _ [26, 27, 28, 7] rfl (by decide +kernel)) ggX4_isBlank_X4_isDouble
theorem dX4_isBlank_0 : decode cX4_isBlank 0 = .ok (.aload_n 0, 1) := by decide +kernel
theorem dX4_isBlank_1 : decode cX4_isBlank 1 = .ok (.invokevirtual 157, 3) := by decide +kernel
theorem dX4_isBlank_4 : decode cX4_isBlank 4 = .ok (.bipush 54, 2) := by decide +kernel
theorem dX4_isBlank_6 : decode cX4_isBlank 6 = .ok (.bipush 6, 2) := by decide +kernel
theorem dX4_isBlank_8 : decode cX4_isBlank 8 = .ok (.aload_n 0, 1) := by decide +kernel
theorem dX4_isBlank_9 : decode cX4_isBlank 9 = .ok (.getfield 101, 3) := by decide +kernel
theorem dX4_isBlank_12 : decode cX4_isBlank 12 = .ok (.imul, 1) := by decide +kernel
theorem dX4_isBlank_13 : decode cX4_isBlank 13 = .ok (.iadd, 1) := by decide +kernel
theorem dX4_isBlank_14 : decode cX4_isBlank 14 = .ok (.istore 4, 2) := by decide +kernel
theorem dX4_isBlank_16 : decode cX4_isBlank 16 = .ok (.aload_n 0, 1) := by decide +kernel
theorem dX4_isBlank_17 : decode cX4_isBlank 17 = .ok (.getfield 19, 3) := by decide +kernel
theorem dX4_isBlank_20 : decode cX4_isBlank 20 = .ok (.iload 4, 2) := by decide +kernel
theorem dX4_isBlank_22 : decode cX4_isBlank 22 = .ok (.iload_n 3, 1) := by decide +kernel
theorem dX4_isBlank_23 : decode cX4_isBlank 23 = .ok (.sipush 1000, 3) := by decide +kernel
theorem dX4_isBlank_26 : decode cX4_isBlank 26 = .ok (.idiv, 1) := by decide +kernel
theorem dX4_isBlank_27 : decode cX4_isBlank 27 = .ok (.iastore, 1) := by decide +kernel
theorem dX4_isBlank_28 : decode cX4_isBlank 28 = .ok (.aload_n 0, 1) := by decide +kernel
theorem dX4_isBlank_29 : decode cX4_isBlank 29 = .ok (.getfield 19, 3) := by decide +kernel
theorem dX4_isBlank_32 : decode cX4_isBlank 32 = .ok (.iload 4, 2) := by decide +kernel
theorem dX4_isBlank_34 : decode cX4_isBlank 34 = .ok (.iconst 1, 1) := by decide +kernel
theorem dX4_isBlank_35 : decode cX4_isBlank 35 = .ok (.iadd, 1) := by decide +kernel
theorem dX4_isBlank_36 : decode cX4_isBlank 36 = .ok (.iload_n 3, 1) := by decide +kernel
theorem dX4_isBlank_37 : decode cX4_isBlank 37 = .ok (.bipush 100, 2) := by decide +kernel
theorem dX4_isBlank_39 : decode cX4_isBlank 39 = .ok (.idiv, 1) := by decide +kernel
theorem dX4_isBlank_40 : decode cX4_isBlank 40 = .ok (.bipush 10, 2) := by decide +kernel
theorem dX4_isBlank_42 : decode cX4_isBlank 42 = .ok (.irem, 1) := by decide +kernel
theorem dX4_isBlank_43 : decode cX4_isBlank 43 = .ok (.iastore, 1) := by decide +kernel
theorem dX4_isBlank_44 : decode cX4_isBlank 44 = .ok (.aload_n 0, 1) := by decide +kernel
theorem dX4_isBlank_45 : decode cX4_isBlank 45 = .ok (.getfield 19, 3) := by decide +kernel
theorem dX4_isBlank_48 : decode cX4_isBlank 48 = .ok (.iload 4, 2) := by decide +kernel
theorem dX4_isBlank_50 : decode cX4_isBlank 50 = .ok (.iconst 2, 1) := by decide +kernel
theorem dX4_isBlank_51 : decode cX4_isBlank 51 = .ok (.iadd, 1) := by decide +kernel
theorem dX4_isBlank_52 : decode cX4_isBlank 52 = .ok (.iload_n 3, 1) := by decide +kernel
theorem dX4_isBlank_53 : decode cX4_isBlank 53 = .ok (.bipush 10, 2) := by decide +kernel
theorem dX4_isBlank_55 : decode cX4_isBlank 55 = .ok (.idiv, 1) := by decide +kernel
theorem dX4_isBlank_56 : decode cX4_isBlank 56 = .ok (.bipush 10, 2) := by decide +kernel
theorem dX4_isBlank_58 : decode cX4_isBlank 58 = .ok (.irem, 1) := by decide +kernel
theorem dX4_isBlank_59 : decode cX4_isBlank 59 = .ok (.iastore, 1) := by decide +kernel
theorem dX4_isBlank_60 : decode cX4_isBlank 60 = .ok (.aload_n 0, 1) := by decide +kernel
theorem dX4_isBlank_61 : decode cX4_isBlank 61 = .ok (.getfield 19, 3) := by decide +kernel
theorem dX4_isBlank_64 : decode cX4_isBlank 64 = .ok (.iload 4, 2) := by decide +kernel
theorem dX4_isBlank_66 : decode cX4_isBlank 66 = .ok (.iconst 3, 1) := by decide +kernel
theorem dX4_isBlank_67 : decode cX4_isBlank 67 = .ok (.iadd, 1) := by decide +kernel
theorem dX4_isBlank_68 : decode cX4_isBlank 68 = .ok (.iload_n 1, 1) := by decide +kernel
theorem dX4_isBlank_69 : decode cX4_isBlank 69 = .ok (.iastore, 1) := by decide +kernel
theorem dX4_isBlank_70 : decode cX4_isBlank 70 = .ok (.aload_n 0, 1) := by decide +kernel
theorem dX4_isBlank_71 : decode cX4_isBlank 71 = .ok (.getfield 19, 3) := by decide +kernel
theorem dX4_isBlank_74 : decode cX4_isBlank 74 = .ok (.iload 4, 2) := by decide +kernel
theorem dX4_isBlank_76 : decode cX4_isBlank 76 = .ok (.iconst 4, 1) := by decide +kernel
theorem dX4_isBlank_77 : decode cX4_isBlank 77 = .ok (.iadd, 1) := by decide +kernel
theorem dX4_isBlank_78 : decode cX4_isBlank 78 = .ok (.iconst 0, 1) := by decide +kernel
theorem dX4_isBlank_79 : decode cX4_isBlank 79 = .ok (.iastore, 1) := by decide +kernel
theorem dX4_isBlank_80 : decode cX4_isBlank 80 = .ok (.aload_n 0, 1) := by decide +kernel
theorem dX4_isBlank_81 : decode cX4_isBlank 81 = .ok (.getfield 19, 3) := by decide +kernel
theorem dX4_isBlank_84 : decode cX4_isBlank 84 = .ok (.iload 4, 2) := by decide +kernel
theorem dX4_isBlank_86 : decode cX4_isBlank 86 = .ok (.iconst 5, 1) := by decide +kernel
theorem dX4_isBlank_87 : decode cX4_isBlank 87 = .ok (.iadd, 1) := by decide +kernel
theorem dX4_isBlank_88 : decode cX4_isBlank 88 = .ok (.iconst 0, 1) := by decide +kernel
theorem dX4_isBlank_89 : decode cX4_isBlank 89 = .ok (.iastore, 1) := by decide +kernel
theorem dX4_isBlank_90 : decode cX4_isBlank 90 = .ok (.aload_n 0, 1) := by decide +kernel
theorem dX4_isBlank_91 : decode cX4_isBlank 91 = .ok (.getfield 16, 3) := by decide +kernel
theorem dX4_isBlank_94 : decode cX4_isBlank 94 = .ok (.aload_n 0, 1) := by decide +kernel
theorem dX4_isBlank_95 : decode cX4_isBlank 95 = .ok (.getfield 101, 3) := by decide +kernel
theorem dX4_isBlank_98 : decode cX4_isBlank 98 = .ok (.iload_n 3, 1) := by decide +kernel
theorem dX4_isBlank_99 : decode cX4_isBlank 99 = .ok (.bipush 10, 2) := by decide +kernel
theorem dX4_isBlank_101 : decode cX4_isBlank 101 = .ok (.irem, 1) := by decide +kernel
theorem dX4_isBlank_102 : decode cX4_isBlank 102 = .ok (.iastore, 1) := by decide +kernel
theorem dX4_isBlank_103 : decode cX4_isBlank 103 = .ok (.aload_n 0, 1) := by decide +kernel
theorem dX4_isBlank_104 : decode cX4_isBlank 104 = .ok (.getfield 19, 3) := by decide +kernel
theorem dX4_isBlank_107 : decode cX4_isBlank 107 = .ok (.iload 4, 2) := by decide +kernel
theorem dX4_isBlank_109 : decode cX4_isBlank 109 = .ok (.iconst 1, 1) := by decide +kernel
theorem dX4_isBlank_110 : decode cX4_isBlank 110 = .ok (.iadd, 1) := by decide +kernel
theorem dX4_isBlank_111 : decode cX4_isBlank 111 = .ok (.iaload, 1) := by decide +kernel
theorem dX4_isBlank_112 : decode cX4_isBlank 112 = .ok (.aload_n 0, 1) := by decide +kernel
theorem dX4_isBlank_113 : decode cX4_isBlank 113 = .ok (.getfield 19, 3) := by decide +kernel
theorem dX4_isBlank_116 : decode cX4_isBlank 116 = .ok (.iload 4, 2) := by decide +kernel
theorem dX4_isBlank_118 : decode cX4_isBlank 118 = .ok (.iconst 2, 1) := by decide +kernel
theorem dX4_isBlank_119 : decode cX4_isBlank 119 = .ok (.iadd, 1) := by decide +kernel
theorem dX4_isBlank_120 : decode cX4_isBlank 120 = .ok (.iaload, 1) := by decide +kernel
theorem dX4_isBlank_121 : decode cX4_isBlank 121 = .ok (.if_icmp .eq 7, 3) := by decide +kernel
theorem dX4_isBlank_124 : decode cX4_isBlank 124 = .ok (.iconst 1, 1) := by decide +kernel
theorem dX4_isBlank_125 : decode cX4_isBlank 125 = .ok (.goto 4, 3) := by decide +kernel
theorem dX4_isBlank_128 : decode cX4_isBlank 128 = .ok (.iconst 0, 1) := by decide +kernel
theorem dX4_isBlank_129 : decode cX4_isBlank 129 = .ok (.istore 5, 2) := by decide +kernel
theorem dX4_isBlank_131 : decode cX4_isBlank 131 = .ok (.iload 5, 2) := by decide +kernel
theorem dX4_isBlank_133 : decode cX4_isBlank 133 = .ok (.ifCond .eq 43, 3) := by decide +kernel
theorem dX4_isBlank_136 : decode cX4_isBlank 136 = .ok (.aload_n 0, 1) := by decide +kernel
theorem dX4_isBlank_137 : decode cX4_isBlank 137 = .ok (.getfield 19, 3) := by decide +kernel
theorem dX4_isBlank_140 : decode cX4_isBlank 140 = .ok (.bipush 48, 2) := by decide +kernel
theorem dX4_isBlank_142 : decode cX4_isBlank 142 = .ok (.iaload, 1) := by decide +kernel
theorem dX4_isBlank_143 : decode cX4_isBlank 143 = .ok (.bipush 10, 2) := by decide +kernel
theorem dX4_isBlank_145 : decode cX4_isBlank 145 = .ok (.if_icmp .ge 31, 3) := by decide +kernel
theorem dX4_isBlank_148 : decode cX4_isBlank 148 = .ok (.aload_n 0, 1) := by decide +kernel
theorem dX4_isBlank_149 : decode cX4_isBlank 149 = .ok (.aload_n 0, 1) := by decide +kernel
theorem dX4_isBlank_150 : decode cX4_isBlank 150 = .ok (.iconst 1, 1) := by decide +kernel
theorem dX4_isBlank_151 : decode cX4_isBlank 151 = .ok (.aload_n 0, 1) := by decide +kernel
theorem dX4_isBlank_152 : decode cX4_isBlank 152 = .ok (.getfield 101, 3) := by decide +kernel
theorem dX4_isBlank_155 : decode cX4_isBlank 155 = .ok (.iconst 1, 1) := by decide +kernel
theorem dX4_isBlank_156 : decode cX4_isBlank 156 = .ok (.iadd, 1) := by decide +kernel
theorem dX4_isBlank_157 : decode cX4_isBlank 157 = .ok (.invokevirtual 143, 3) := by decide +kernel
theorem dX4_isBlank_160 : decode cX4_isBlank 160 = .ok (.invokevirtual 163, 3) := by decide +kernel
theorem dX4_isBlank_163 : decode cX4_isBlank 163 = .ok (.ifCond .ne 7, 3) := by decide +kernel
theorem dX4_isBlank_166 : decode cX4_isBlank 166 = .ok (.iconst 1, 1) := by decide +kernel
theorem dX4_isBlank_167 : decode cX4_isBlank 167 = .ok (.goto 4, 3) := by decide +kernel
theorem dX4_isBlank_170 : decode cX4_isBlank 170 = .ok (.iconst 0, 1) := by decide +kernel
theorem dX4_isBlank_171 : decode cX4_isBlank 171 = .ok (.istore 5, 2) := by decide +kernel
theorem dX4_isBlank_173 : decode cX4_isBlank 173 = .ok (.goto (-42), 3) := by decide +kernel
theorem dX4_isBlank_176 : decode cX4_isBlank 176 = .ok (.iload 5, 2) := by decide +kernel
theorem dX4_isBlank_178 : decode cX4_isBlank 178 = .ok (.ifCond .eq 20, 3) := by decide +kernel
theorem dX4_isBlank_181 : decode cX4_isBlank 181 = .ok (.aload_n 0, 1) := by decide +kernel
theorem dX4_isBlank_182 : decode cX4_isBlank 182 = .ok (.getfield 19, 3) := by decide +kernel
theorem dX4_isBlank_185 : decode cX4_isBlank 185 = .ok (.bipush 49, 2) := by decide +kernel
theorem dX4_isBlank_187 : decode cX4_isBlank 187 = .ok (.iload_n 1, 1) := by decide +kernel
theorem dX4_isBlank_188 : decode cX4_isBlank 188 = .ok (.iadd, 1) := by decide +kernel
theorem dX4_isBlank_189 : decode cX4_isBlank 189 = .ok (.iaload, 1) := by decide +kernel
theorem dX4_isBlank_190 : decode cX4_isBlank 190 = .ok (.iload_n 2, 1) := by decide +kernel
theorem dX4_isBlank_191 : decode cX4_isBlank 191 = .ok (.if_icmp .ne 7, 3) := by decide +kernel
theorem dX4_isBlank_194 : decode cX4_isBlank 194 = .ok (.iconst 1, 1) := by decide +kernel
theorem dX4_isBlank_195 : decode cX4_isBlank 195 = .ok (.goto 4, 3) := by decide +kernel
theorem dX4_isBlank_198 : decode cX4_isBlank 198 = .ok (.iconst 0, 1) := by decide +kernel
theorem dX4_isBlank_199 : decode cX4_isBlank 199 = .ok (.ireturn, 1) := by decide +kernel
set_option maxRecDepth 20000 in
theorem ggX4_blank_X4_isPerson : GoodIn wsX4_blank wsX4_isPerson := goodIn_r _ [7, 8, 9, 10, 6, 11, 49, 50, 51, 52, 53, 54, 55, 56, 57, 58, 59, 60, 61, 62, 63, 64, 65, 66, 67, 68, 69, 70, 71, 72, 73, 74, 75, 76, 77, 78] rfl (by decide +kernel)
set_option maxRecDepth 20000 in
theorem gX4_blank_X4_isPerson : GoodIn wsX4_blank (wsV RX4 111 RX4 yX4_isPerson wsX4_isPerson) := goodIn_app (goodIn_r _ [3, 4, 5, 6] rfl (by decide +kernel)) ggX4_blank_X4_isPerson
set_option maxRecDepth 20000 in
theorem ggX4_blank_X4_in : GoodIn wsX4_blank wsX4_in := goodIn_r _ [11] rfl (by decide +kernel)
set_option maxRecDepth 20000 in
theorem gX4_blank_X4_in : GoodIn wsX4_blank (va_wsS RX4 74 yX4_in wsX4_in) := goodIn_app (goodIn_of _ (by decide +kernel)) ggX4_blank_X4_in
set_option maxRecDepth 20000 in
theorem ggX4_blank_X4_isBlank : GoodIn wsX4_blank wsX4_isBlank := goodIn_r _ [15, 16, 17, 18, 19, 20, 21, 6, 22, 23, 24, 25, 26, 8, 27, 28, 29, 30, 31, 32, 33, 2, 34, 35, 36, 37, 38, 39, 40, 41, 42, 43, 44, 45, 46, 47, 48, 49, 50, 51, 52, 53, 54, 55, 56, 57, 58, 59, 60, 61, 62, 63, 64, 65, 66, 67, 68, 69, 70, 71, 72, 73, 74, 75, 76, 77, 78] rfl (by decide +kernel)
set_option maxRecDepth 20000 in
theorem gX4_blank_X4_isBlank : GoodIn wsX4_blank (wsV RX4 196 RX4 yX4_isBlank wsX4_isBlank) := goodIn_app (goodIn_r _ [12, 13, 14, 6] rfl (by decide +kernel)) ggX4_blank_X4_isBlank
theorem dX4_blank_0 : decode cX4_blank 0 = .ok (.aload_n 0, 1) := by decide +kernel
theorem dX4_blank_1 : decode cX4_blank 1 = .ok (.iload_n 1, 1) := by decide +kernel
theorem dX4_blank_2 : decode cX4_blank 2 = .ok (.invokevirtual 111, 3) := by decide +kernel
theorem dX4_blank_5 : decode cX4_blank 5 = .ok (.ifCond .ne 5, 3) := by decide +kernel
theorem dX4_blank_8 : decode cX4_blank 8 = .ok (.iconst (-1), 1) := by decide +kernel
theorem dX4_blank_9 : decode cX4_blank 9 = .ok (.ireturn, 1) := by decide +kernel
theorem dX4_blank_10 : decode cX4_blank 10 = .ok (.iload_n 2, 1) := by decide +kernel
theorem dX4_blank_11 : decode cX4_blank 11 = .ok (.i2l, 1) := by decide +kernel
theorem dX4_blank_12 : decode cX4_blank 12 = .ok (.lconst 0, 1) := by decide +kernel
theorem dX4_blank_13 : decode cX4_blank 13 = .ok (.ldc2_w 194, 3) := by decide +kernel
theorem dX4_blank_16 : decode cX4_blank 16 = .ok (.invokestatic 74, 3) := by decide +kernel
theorem dX4_blank_19 : decode cX4_blank 19 = .ok (.ifCond .ne 6, 3) := by decide +kernel
theorem dX4_blank_22 : decode cX4_blank 22 = .ok (.bipush (-2), 2) := by decide +kernel
theorem dX4_blank_24 : decode cX4_blank 24 = .ok (.ireturn, 1) := by decide +kernel
theorem dX4_blank_25 : decode cX4_blank 25 = .ok (.aload_n 0, 1) := by decide +kernel
theorem dX4_blank_26 : decode cX4_blank 26 = .ok (.getfield 13, 3) := by decide +kernel
theorem dX4_blank_29 : decode cX4_blank 29 = .ok (.iload_n 1, 1) := by decide +kernel
theorem dX4_blank_30 : decode cX4_blank 30 = .ok (.iaload, 1) := by decide +kernel
theorem dX4_blank_31 : decode cX4_blank 31 = .ok (.iconst 3, 1) := by decide +kernel
theorem dX4_blank_32 : decode cX4_blank 32 = .ok (.if_icmp .ne 6, 3) := by decide +kernel
theorem dX4_blank_35 : decode cX4_blank 35 = .ok (.bipush (-3), 2) := by decide +kernel
theorem dX4_blank_37 : decode cX4_blank 37 = .ok (.ireturn, 1) := by decide +kernel
theorem dX4_blank_38 : decode cX4_blank 38 = .ok (.iconst 0, 1) := by decide +kernel
theorem dX4_blank_39 : decode cX4_blank 39 = .ok (.istore_n 3, 1) := by decide +kernel
theorem dX4_blank_40 : decode cX4_blank 40 = .ok (.iload_n 3, 1) := by decide +kernel
theorem dX4_blank_41 : decode cX4_blank 41 = .ok (.sipush 10000, 3) := by decide +kernel
theorem dX4_blank_44 : decode cX4_blank 44 = .ok (.if_icmp .ge 21, 3) := by decide +kernel
theorem dX4_blank_47 : decode cX4_blank 47 = .ok (.aload_n 0, 1) := by decide +kernel
theorem dX4_blank_48 : decode cX4_blank 48 = .ok (.iload_n 1, 1) := by decide +kernel
theorem dX4_blank_49 : decode cX4_blank 49 = .ok (.iload_n 2, 1) := by decide +kernel
theorem dX4_blank_50 : decode cX4_blank 50 = .ok (.iload_n 3, 1) := by decide +kernel
theorem dX4_blank_51 : decode cX4_blank 51 = .ok (.invokevirtual 196, 3) := by decide +kernel
theorem dX4_blank_54 : decode cX4_blank 54 = .ok (.ifCond .eq 5, 3) := by decide +kernel
theorem dX4_blank_57 : decode cX4_blank 57 = .ok (.iload_n 3, 1) := by decide +kernel
theorem dX4_blank_58 : decode cX4_blank 58 = .ok (.ireturn, 1) := by decide +kernel
theorem dX4_blank_59 : decode cX4_blank 59 = .ok (.iinc 3 1, 3) := by decide +kernel
theorem dX4_blank_62 : decode cX4_blank 62 = .ok (.goto (-22), 3) := by decide +kernel
theorem dX4_blank_65 : decode cX4_blank 65 = .ok (.bipush (-9), 2) := by decide +kernel
theorem dX4_blank_67 : decode cX4_blank 67 = .ok (.ireturn, 1) := by decide +kernel
set_option maxRecDepth 20000 in
theorem ggX4_see_X4_isPerson : GoodIn wsX4_see wsX4_isPerson := goodIn_r _ [11, 12, 13, 14, 10, 15, 16, 17, 18, 19, 20, 21, 22, 23, 24, 25, 26, 27, 28, 29, 30, 31, 32, 33, 34, 35, 36, 37, 38, 39, 40, 41, 42, 43, 44, 45] rfl (by decide +kernel)
set_option maxRecDepth 20000 in
theorem gX4_see_X4_isPerson : GoodIn wsX4_see (wsV RX4 111 RX4 yX4_isPerson wsX4_isPerson) := goodIn_app (goodIn_r _ [7, 8, 9, 10] rfl (by decide +kernel)) ggX4_see_X4_isPerson
set_option maxRecDepth 20000 in
theorem ggX4_see_X4_in : GoodIn wsX4_see wsX4_in := goodIn_r _ [15] rfl (by decide +kernel)
set_option maxRecDepth 20000 in
theorem gX4_see_X4_in : GoodIn wsX4_see (va_wsS RX4 74 yX4_in wsX4_in) := goodIn_app (goodIn_of _ (by decide +kernel)) ggX4_see_X4_in
theorem dX4_see_0 : decode cX4_see 0 = .ok (.aload_n 0, 1) := by decide +kernel
theorem dX4_see_1 : decode cX4_see 1 = .ok (.iload_n 1, 1) := by decide +kernel
theorem dX4_see_2 : decode cX4_see 2 = .ok (.invokevirtual 111, 3) := by decide +kernel
theorem dX4_see_5 : decode cX4_see 5 = .ok (.ifCond .ne 5, 3) := by decide +kernel
theorem dX4_see_8 : decode cX4_see 8 = .ok (.iconst (-1), 1) := by decide +kernel
theorem dX4_see_9 : decode cX4_see 9 = .ok (.ireturn, 1) := by decide +kernel
theorem dX4_see_10 : decode cX4_see 10 = .ok (.iload_n 2, 1) := by decide +kernel
theorem dX4_see_11 : decode cX4_see 11 = .ok (.i2l, 1) := by decide +kernel
theorem dX4_see_12 : decode cX4_see 12 = .ok (.lconst 0, 1) := by decide +kernel
theorem dX4_see_13 : decode cX4_see 13 = .ok (.ldc2_w 194, 3) := by decide +kernel
theorem dX4_see_16 : decode cX4_see 16 = .ok (.invokestatic 74, 3) := by decide +kernel
theorem dX4_see_19 : decode cX4_see 19 = .ok (.ifCond .eq 15, 3) := by decide +kernel
theorem dX4_see_22 : decode cX4_see 22 = .ok (.iload_n 3, 1) := by decide +kernel
theorem dX4_see_23 : decode cX4_see 23 = .ok (.i2l, 1) := by decide +kernel
theorem dX4_see_24 : decode cX4_see 24 = .ok (.lconst 0, 1) := by decide +kernel
theorem dX4_see_25 : decode cX4_see 25 = .ok (.ldc2_w 155, 3) := by decide +kernel
theorem dX4_see_28 : decode cX4_see 28 = .ok (.invokestatic 74, 3) := by decide +kernel
theorem dX4_see_31 : decode cX4_see 31 = .ok (.ifCond .ne 6, 3) := by decide +kernel
theorem dX4_see_34 : decode cX4_see 34 = .ok (.bipush (-2), 2) := by decide +kernel
theorem dX4_see_36 : decode cX4_see 36 = .ok (.ireturn, 1) := by decide +kernel
theorem dX4_see_37 : decode cX4_see 37 = .ok (.aload_n 0, 1) := by decide +kernel
theorem dX4_see_38 : decode cX4_see 38 = .ok (.getfield 199, 3) := by decide +kernel
theorem dX4_see_41 : decode cX4_see 41 = .ok (.bipush 6, 2) := by decide +kernel
theorem dX4_see_43 : decode cX4_see 43 = .ok (.if_icmp .ne 6, 3) := by decide +kernel
theorem dX4_see_46 : decode cX4_see 46 = .ok (.bipush (-4), 2) := by decide +kernel
theorem dX4_see_48 : decode cX4_see 48 = .ok (.ireturn, 1) := by decide +kernel
theorem dX4_see_49 : decode cX4_see 49 = .ok (.aload_n 0, 1) := by decide +kernel
theorem dX4_see_50 : decode cX4_see 50 = .ok (.getfield 52, 3) := by decide +kernel
theorem dX4_see_53 : decode cX4_see 53 = .ok (.aload_n 0, 1) := by decide +kernel
theorem dX4_see_54 : decode cX4_see 54 = .ok (.getfield 199, 3) := by decide +kernel
theorem dX4_see_57 : decode cX4_see 57 = .ok (.iload_n 1, 1) := by decide +kernel
theorem dX4_see_58 : decode cX4_see 58 = .ok (.iastore, 1) := by decide +kernel
theorem dX4_see_59 : decode cX4_see 59 = .ok (.aload_n 0, 1) := by decide +kernel
theorem dX4_see_60 : decode cX4_see 60 = .ok (.getfield 55, 3) := by decide +kernel
theorem dX4_see_63 : decode cX4_see 63 = .ok (.aload_n 0, 1) := by decide +kernel
theorem dX4_see_64 : decode cX4_see 64 = .ok (.getfield 199, 3) := by decide +kernel
theorem dX4_see_67 : decode cX4_see 67 = .ok (.iload_n 2, 1) := by decide +kernel
theorem dX4_see_68 : decode cX4_see 68 = .ok (.iastore, 1) := by decide +kernel
theorem dX4_see_69 : decode cX4_see 69 = .ok (.aload_n 0, 1) := by decide +kernel
theorem dX4_see_70 : decode cX4_see 70 = .ok (.getfield 58, 3) := by decide +kernel
theorem dX4_see_73 : decode cX4_see 73 = .ok (.aload_n 0, 1) := by decide +kernel
theorem dX4_see_74 : decode cX4_see 74 = .ok (.getfield 199, 3) := by decide +kernel
theorem dX4_see_77 : decode cX4_see 77 = .ok (.iload_n 3, 1) := by decide +kernel
theorem dX4_see_78 : decode cX4_see 78 = .ok (.iastore, 1) := by decide +kernel
theorem dX4_see_79 : decode cX4_see 79 = .ok (.aload_n 0, 1) := by decide +kernel
theorem dX4_see_80 : decode cX4_see 80 = .ok (.dup, 1) := by decide +kernel
theorem dX4_see_81 : decode cX4_see 81 = .ok (.getfield 199, 3) := by decide +kernel
theorem dX4_see_84 : decode cX4_see 84 = .ok (.iconst 1, 1) := by decide +kernel
theorem dX4_see_85 : decode cX4_see 85 = .ok (.iadd, 1) := by decide +kernel
theorem dX4_see_86 : decode cX4_see 86 = .ok (.putfield 199, 3) := by decide +kernel
theorem dX4_see_89 : decode cX4_see 89 = .ok (.aload_n 0, 1) := by decide +kernel
theorem dX4_see_90 : decode cX4_see 90 = .ok (.getfield 199, 3) := by decide +kernel
theorem dX4_see_93 : decode cX4_see 93 = .ok (.ireturn, 1) := by decide +kernel
set_option maxRecDepth 20000 in
theorem ggX4_isSeen_X4_isPerson : GoodIn wsX4_isSeen wsX4_isPerson := goodIn_r _ [10, 11, 12, 13, 9, 14, 15, 16, 17, 18, 19, 20, 21, 22, 23, 24, 25, 26, 27, 28, 29, 30, 31, 32, 33, 34, 35, 36, 37, 38, 39, 40, 41, 42, 43, 44] rfl (by decide +kernel)
set_option maxRecDepth 20000 in
theorem gX4_isSeen_X4_isPerson : GoodIn wsX4_isSeen (wsV RX4 111 RX4 yX4_isPerson wsX4_isPerson) := goodIn_app (goodIn_r _ [6, 7, 8, 9] rfl (by decide +kernel)) ggX4_isSeen_X4_isPerson
theorem dX4_isSeen_0 : decode cX4_isSeen 0 = .ok (.iconst 1, 1) := by decide +kernel
theorem dX4_isSeen_1 : decode cX4_isSeen 1 = .ok (.istore_n 1, 1) := by decide +kernel
theorem dX4_isSeen_2 : decode cX4_isSeen 2 = .ok (.iconst 0, 1) := by decide +kernel
theorem dX4_isSeen_3 : decode cX4_isSeen 3 = .ok (.istore_n 2, 1) := by decide +kernel
theorem dX4_isSeen_4 : decode cX4_isSeen 4 = .ok (.iload_n 2, 1) := by decide +kernel
theorem dX4_isSeen_5 : decode cX4_isSeen 5 = .ok (.aload_n 0, 1) := by decide +kernel
theorem dX4_isSeen_6 : decode cX4_isSeen 6 = .ok (.getfield 199, 3) := by decide +kernel
theorem dX4_isSeen_9 : decode cX4_isSeen 9 = .ok (.if_icmp .ge 81, 3) := by decide +kernel
theorem dX4_isSeen_12 : decode cX4_isSeen 12 = .ok (.aload_n 0, 1) := by decide +kernel
theorem dX4_isSeen_13 : decode cX4_isSeen 13 = .ok (.getfield 58, 3) := by decide +kernel
theorem dX4_isSeen_16 : decode cX4_isSeen 16 = .ok (.iload_n 2, 1) := by decide +kernel
theorem dX4_isSeen_17 : decode cX4_isSeen 17 = .ok (.iaload, 1) := by decide +kernel
theorem dX4_isSeen_18 : decode cX4_isSeen 18 = .ok (.aload_n 0, 1) := by decide +kernel
theorem dX4_isSeen_19 : decode cX4_isSeen 19 = .ok (.getfield 19, 3) := by decide +kernel
theorem dX4_isSeen_22 : decode cX4_isSeen 22 = .ok (.bipush 48, 2) := by decide +kernel
theorem dX4_isSeen_24 : decode cX4_isSeen 24 = .ok (.iaload, 1) := by decide +kernel
theorem dX4_isSeen_25 : decode cX4_isSeen 25 = .ok (.if_icmp .ne 20, 3) := by decide +kernel
theorem dX4_isSeen_28 : decode cX4_isSeen 28 = .ok (.aload_n 0, 1) := by decide +kernel
theorem dX4_isSeen_29 : decode cX4_isSeen 29 = .ok (.aload_n 0, 1) := by decide +kernel
theorem dX4_isSeen_30 : decode cX4_isSeen 30 = .ok (.getfield 52, 3) := by decide +kernel
theorem dX4_isSeen_33 : decode cX4_isSeen 33 = .ok (.iload_n 2, 1) := by decide +kernel
theorem dX4_isSeen_34 : decode cX4_isSeen 34 = .ok (.iaload, 1) := by decide +kernel
theorem dX4_isSeen_35 : decode cX4_isSeen 35 = .ok (.invokevirtual 111, 3) := by decide +kernel
theorem dX4_isSeen_38 : decode cX4_isSeen 38 = .ok (.ifCond .eq 7, 3) := by decide +kernel
theorem dX4_isSeen_41 : decode cX4_isSeen 41 = .ok (.iconst 1, 1) := by decide +kernel
theorem dX4_isSeen_42 : decode cX4_isSeen 42 = .ok (.goto 4, 3) := by decide +kernel
theorem dX4_isSeen_45 : decode cX4_isSeen 45 = .ok (.iconst 0, 1) := by decide +kernel
theorem dX4_isSeen_46 : decode cX4_isSeen 46 = .ok (.istore_n 3, 1) := by decide +kernel
theorem dX4_isSeen_47 : decode cX4_isSeen 47 = .ok (.iload_n 1, 1) := by decide +kernel
theorem dX4_isSeen_48 : decode cX4_isSeen 48 = .ok (.ifCond .eq 34, 3) := by decide +kernel
theorem dX4_isSeen_51 : decode cX4_isSeen 51 = .ok (.iload_n 3, 1) := by decide +kernel
theorem dX4_isSeen_52 : decode cX4_isSeen 52 = .ok (.ifCond .eq 26, 3) := by decide +kernel
theorem dX4_isSeen_55 : decode cX4_isSeen 55 = .ok (.aload_n 0, 1) := by decide +kernel
theorem dX4_isSeen_56 : decode cX4_isSeen 56 = .ok (.getfield 19, 3) := by decide +kernel
theorem dX4_isSeen_59 : decode cX4_isSeen 59 = .ok (.bipush 49, 2) := by decide +kernel
theorem dX4_isSeen_61 : decode cX4_isSeen 61 = .ok (.aload_n 0, 1) := by decide +kernel
theorem dX4_isSeen_62 : decode cX4_isSeen 62 = .ok (.getfield 52, 3) := by decide +kernel
theorem dX4_isSeen_65 : decode cX4_isSeen 65 = .ok (.iload_n 2, 1) := by decide +kernel
theorem dX4_isSeen_66 : decode cX4_isSeen 66 = .ok (.iaload, 1) := by decide +kernel
theorem dX4_isSeen_67 : decode cX4_isSeen 67 = .ok (.iadd, 1) := by decide +kernel
theorem dX4_isSeen_68 : decode cX4_isSeen 68 = .ok (.iaload, 1) := by decide +kernel
theorem dX4_isSeen_69 : decode cX4_isSeen 69 = .ok (.aload_n 0, 1) := by decide +kernel
theorem dX4_isSeen_70 : decode cX4_isSeen 70 = .ok (.getfield 55, 3) := by decide +kernel
theorem dX4_isSeen_73 : decode cX4_isSeen 73 = .ok (.iload_n 2, 1) := by decide +kernel
theorem dX4_isSeen_74 : decode cX4_isSeen 74 = .ok (.iaload, 1) := by decide +kernel
theorem dX4_isSeen_75 : decode cX4_isSeen 75 = .ok (.if_icmp .ne 7, 3) := by decide +kernel
theorem dX4_isSeen_78 : decode cX4_isSeen 78 = .ok (.iconst 1, 1) := by decide +kernel
theorem dX4_isSeen_79 : decode cX4_isSeen 79 = .ok (.goto 4, 3) := by decide +kernel
theorem dX4_isSeen_82 : decode cX4_isSeen 82 = .ok (.iconst 0, 1) := by decide +kernel
theorem dX4_isSeen_83 : decode cX4_isSeen 83 = .ok (.istore_n 1, 1) := by decide +kernel
theorem dX4_isSeen_84 : decode cX4_isSeen 84 = .ok (.iinc 2 1, 3) := by decide +kernel
theorem dX4_isSeen_87 : decode cX4_isSeen 87 = .ok (.goto (-83), 3) := by decide +kernel
theorem dX4_isSeen_90 : decode cX4_isSeen 90 = .ok (.iload_n 1, 1) := by decide +kernel
theorem dX4_isSeen_91 : decode cX4_isSeen 91 = .ok (.ireturn, 1) := by decide +kernel
set_option maxRecDepth 20000 in
theorem ggX4_held_X4_isTicket : GoodIn wsX4_held wsX4_isTicket := goodIn_r _ [8, 3, 9, 10, 7, 11, 48, 49, 50, 51, 52, 53, 54, 55, 56, 57, 58, 59, 60, 61, 62, 63, 64, 65, 66, 67, 68, 69, 70, 71, 72, 73, 74, 75, 76, 77] rfl (by decide +kernel)
set_option maxRecDepth 20000 in
theorem gX4_held_X4_isTicket : GoodIn wsX4_held (wsV RX4 122 RX4 yX4_isTicket wsX4_isTicket) := goodIn_app (goodIn_r _ [4, 5, 6, 7] rfl (by decide +kernel)) ggX4_held_X4_isTicket
set_option maxRecDepth 20000 in
theorem ggX4_held_X4_isGone : GoodIn wsX4_held wsX4_isGone := goodIn_r _ [15, 2, 48, 49, 50, 51, 52, 53, 54, 55, 56, 57, 58, 59, 60, 61, 62, 63, 64, 65, 66, 67, 68, 69, 70, 71, 72, 73, 74, 75, 76, 77] rfl (by decide +kernel)
set_option maxRecDepth 20000 in
theorem gX4_held_X4_isGone : GoodIn wsX4_held (wsV RX4 107 RX4 yX4_isGone wsX4_isGone) := goodIn_app (goodIn_r _ [12, 13, 14, 7] rfl (by decide +kernel)) ggX4_held_X4_isGone
set_option maxRecDepth 20000 in
theorem ggX4_held_X4_layTrial : GoodIn wsX4_held wsX4_layTrial := goodIn_r _ [19, 2, 48, 49, 50, 51, 52, 53, 54, 55, 56, 57, 58, 59, 60, 61, 62, 63, 64, 65, 66, 67, 68, 69, 70, 71, 72, 73, 74, 75, 76, 77] rfl (by decide +kernel)
set_option maxRecDepth 20000 in
theorem gX4_held_X4_layTrial : GoodIn wsX4_held (wsV RX4 157 RX4 yX4_layTrial wsX4_layTrial) := goodIn_app (goodIn_r _ [16, 17, 18, 7] rfl (by decide +kernel)) ggX4_held_X4_layTrial
set_option maxRecDepth 20000 in
theorem ggX4_held_X4_isSeen : GoodIn wsX4_held wsX4_isSeen := goodIn_r _ [23, 24, 25, 2, 26, 27, 28, 29, 30, 7, 31, 1, 9, 10, 11, 48, 49, 50, 51, 52, 53, 54, 55, 56, 57, 58, 59, 60, 61, 62, 63, 64, 65, 66, 67, 68, 69, 70, 71, 72, 73, 74, 75, 76, 77] rfl (by decide +kernel)
set_option maxRecDepth 20000 in
theorem gX4_held_X4_isSeen : GoodIn wsX4_held (wsV RX4 202 RX4 yX4_isSeen wsX4_isSeen) := goodIn_app (goodIn_r _ [20, 21, 22, 7] rfl (by decide +kernel)) ggX4_held_X4_isSeen
set_option maxRecDepth 20000 in
theorem ggX4_held_X4_pass : GoodIn wsX4_held wsX4_pass := goodIn_r _ [35, 1, 36, 2, 37, 38, 39, 40, 41, 7, 42, 43, 44, 45, 46, 47, 48, 49, 50, 51, 52, 53, 54, 55, 56, 57, 58, 59, 60, 61, 62, 63, 64, 65, 66, 67, 68, 69, 70, 71, 72, 73, 74, 75, 76, 77] rfl (by decide +kernel)
set_option maxRecDepth 20000 in
theorem gX4_held_X4_pass : GoodIn wsX4_held (wsV RX4 143 RX4 yX4_pass wsX4_pass) := goodIn_app (goodIn_r _ [32, 33, 34, 7] rfl (by decide +kernel)) ggX4_held_X4_pass
theorem dX4_held_0 : decode cX4_held 0 = .ok (.aload_n 0, 1) := by decide +kernel
theorem dX4_held_1 : decode cX4_held 1 = .ok (.iload_n 1, 1) := by decide +kernel
theorem dX4_held_2 : decode cX4_held 2 = .ok (.invokevirtual 122, 3) := by decide +kernel
theorem dX4_held_5 : decode cX4_held 5 = .ok (.ifCond .ne 5, 3) := by decide +kernel
theorem dX4_held_8 : decode cX4_held 8 = .ok (.iconst (-1), 1) := by decide +kernel
theorem dX4_held_9 : decode cX4_held 9 = .ok (.ireturn, 1) := by decide +kernel
theorem dX4_held_10 : decode cX4_held 10 = .ok (.aload_n 0, 1) := by decide +kernel
theorem dX4_held_11 : decode cX4_held 11 = .ok (.iload_n 1, 1) := by decide +kernel
theorem dX4_held_12 : decode cX4_held 12 = .ok (.invokevirtual 107, 3) := by decide +kernel
theorem dX4_held_15 : decode cX4_held 15 = .ok (.ifCond .eq 6, 3) := by decide +kernel
theorem dX4_held_18 : decode cX4_held 18 = .ok (.bipush (-3), 2) := by decide +kernel
theorem dX4_held_20 : decode cX4_held 20 = .ok (.ireturn, 1) := by decide +kernel
theorem dX4_held_21 : decode cX4_held 21 = .ok (.iconst 0, 1) := by decide +kernel
theorem dX4_held_22 : decode cX4_held 22 = .ok (.istore_n 2, 1) := by decide +kernel
theorem dX4_held_23 : decode cX4_held 23 = .ok (.iconst 0, 1) := by decide +kernel
theorem dX4_held_24 : decode cX4_held 24 = .ok (.istore_n 3, 1) := by decide +kernel
theorem dX4_held_25 : decode cX4_held 25 = .ok (.iload_n 3, 1) := by decide +kernel
theorem dX4_held_26 : decode cX4_held 26 = .ok (.aload_n 0, 1) := by decide +kernel
theorem dX4_held_27 : decode cX4_held 27 = .ok (.getfield 68, 3) := by decide +kernel
theorem dX4_held_30 : decode cX4_held 30 = .ok (.if_icmp .ge 85, 3) := by decide +kernel
theorem dX4_held_33 : decode cX4_held 33 = .ok (.aload_n 0, 1) := by decide +kernel
theorem dX4_held_34 : decode cX4_held 34 = .ok (.invokevirtual 157, 3) := by decide +kernel
theorem dX4_held_37 : decode cX4_held 37 = .ok (.aload_n 0, 1) := by decide +kernel
theorem dX4_held_38 : decode cX4_held 38 = .ok (.getfield 19, 3) := by decide +kernel
theorem dX4_held_41 : decode cX4_held 41 = .ok (.bipush 54, 2) := by decide +kernel
theorem dX4_held_43 : decode cX4_held 43 = .ok (.bipush 6, 2) := by decide +kernel
theorem dX4_held_45 : decode cX4_held 45 = .ok (.iload_n 1, 1) := by decide +kernel
theorem dX4_held_46 : decode cX4_held 46 = .ok (.imul, 1) := by decide +kernel
theorem dX4_held_47 : decode cX4_held 47 = .ok (.iadd, 1) := by decide +kernel
theorem dX4_held_48 : decode cX4_held 48 = .ok (.iconst 3, 1) := by decide +kernel
theorem dX4_held_49 : decode cX4_held 49 = .ok (.iadd, 1) := by decide +kernel
theorem dX4_held_50 : decode cX4_held 50 = .ok (.iload_n 3, 1) := by decide +kernel
theorem dX4_held_51 : decode cX4_held 51 = .ok (.iastore, 1) := by decide +kernel
theorem dX4_held_52 : decode cX4_held 52 = .ok (.aload_n 0, 1) := by decide +kernel
theorem dX4_held_53 : decode cX4_held 53 = .ok (.invokevirtual 202, 3) := by decide +kernel
theorem dX4_held_56 : decode cX4_held 56 = .ok (.istore 4, 2) := by decide +kernel
theorem dX4_held_58 : decode cX4_held 58 = .ok (.iload 4, 2) := by decide +kernel
theorem dX4_held_60 : decode cX4_held 60 = .ok (.ifCond .eq 34, 3) := by decide +kernel
theorem dX4_held_63 : decode cX4_held 63 = .ok (.aload_n 0, 1) := by decide +kernel
theorem dX4_held_64 : decode cX4_held 64 = .ok (.getfield 19, 3) := by decide +kernel
theorem dX4_held_67 : decode cX4_held 67 = .ok (.bipush 48, 2) := by decide +kernel
theorem dX4_held_69 : decode cX4_held 69 = .ok (.iaload, 1) := by decide +kernel
theorem dX4_held_70 : decode cX4_held 70 = .ok (.bipush 10, 2) := by decide +kernel
theorem dX4_held_72 : decode cX4_held 72 = .ok (.if_icmp .ge 22, 3) := by decide +kernel
theorem dX4_held_75 : decode cX4_held 75 = .ok (.aload_n 0, 1) := by decide +kernel
theorem dX4_held_76 : decode cX4_held 76 = .ok (.iconst 1, 1) := by decide +kernel
theorem dX4_held_77 : decode cX4_held 77 = .ok (.aload_n 0, 1) := by decide +kernel
theorem dX4_held_78 : decode cX4_held 78 = .ok (.getfield 101, 3) := by decide +kernel
theorem dX4_held_81 : decode cX4_held 81 = .ok (.invokevirtual 143, 3) := by decide +kernel
theorem dX4_held_84 : decode cX4_held 84 = .ok (.pop, 1) := by decide +kernel
theorem dX4_held_85 : decode cX4_held 85 = .ok (.aload_n 0, 1) := by decide +kernel
theorem dX4_held_86 : decode cX4_held 86 = .ok (.invokevirtual 202, 3) := by decide +kernel
theorem dX4_held_89 : decode cX4_held 89 = .ok (.istore 4, 2) := by decide +kernel
theorem dX4_held_91 : decode cX4_held 91 = .ok (.goto (-33), 3) := by decide +kernel
theorem dX4_held_94 : decode cX4_held 94 = .ok (.iload_n 2, 1) := by decide +kernel
theorem dX4_held_95 : decode cX4_held 95 = .ok (.iload 4, 2) := by decide +kernel
theorem dX4_held_97 : decode cX4_held 97 = .ok (.ifCond .eq 9, 3) := by decide +kernel
theorem dX4_held_100 : decode cX4_held 100 = .ok (.iconst 1, 1) := by decide +kernel
theorem dX4_held_101 : decode cX4_held 101 = .ok (.iload_n 3, 1) := by decide +kernel
theorem dX4_held_102 : decode cX4_held 102 = .ok (.ishl, 1) := by decide +kernel
theorem dX4_held_103 : decode cX4_held 103 = .ok (.goto 4, 3) := by decide +kernel
theorem dX4_held_106 : decode cX4_held 106 = .ok (.iconst 0, 1) := by decide +kernel
theorem dX4_held_107 : decode cX4_held 107 = .ok (.ior, 1) := by decide +kernel
theorem dX4_held_108 : decode cX4_held 108 = .ok (.istore_n 2, 1) := by decide +kernel
theorem dX4_held_109 : decode cX4_held 109 = .ok (.iinc 3 1, 3) := by decide +kernel
theorem dX4_held_112 : decode cX4_held 112 = .ok (.goto (-87), 3) := by decide +kernel
theorem dX4_held_115 : decode cX4_held 115 = .ok (.iload_n 2, 1) := by decide +kernel
theorem dX4_held_116 : decode cX4_held 116 = .ok (.ireturn, 1) := by decide +kernel
set_option maxRecDepth 20000 in
theorem ggX4_years_X4_in : GoodIn wsX4_years wsX4_in := goodIn_r _ [9] rfl (by decide +kernel)
set_option maxRecDepth 20000 in
theorem gX4_years_X4_in : GoodIn wsX4_years (va_wsS RX4 74 yX4_in wsX4_in) := goodIn_app (goodIn_of _ (by decide +kernel)) ggX4_years_X4_in
set_option maxRecDepth 20000 in
theorem ggX4_years_X4_gladWithout : GoodIn wsX4_years wsX4_gladWithout := goodIn_r _ [13, 14, 15, 16, 17, 8, 18, 19, 20, 21, 22, 23, 24, 25, 26, 27, 28, 29, 30, 31, 32, 33, 34, 35, 36, 37, 38, 39, 40, 41, 42, 43, 44, 45, 46, 47, 48, 49, 50, 51, 52, 53, 54, 55, 56, 57, 58, 59, 60, 61, 62, 63, 64, 65, 66, 67, 68, 69, 70, 71, 72, 73, 74, 75, 76, 77, 78, 79, 80, 81, 82] rfl (by decide +kernel)
set_option maxRecDepth 20000 in
theorem gX4_years_X4_gladWithout : GoodIn wsX4_years (wsV RX4 179 RX4 yX4_gladWithout wsX4_gladWithout) := goodIn_app (goodIn_r _ [10, 11, 12, 8] rfl (by decide +kernel)) ggX4_years_X4_gladWithout
theorem dX4_years_0 : decode cX4_years 0 = .ok (.iload_n 1, 1) := by decide +kernel
theorem dX4_years_1 : decode cX4_years 1 = .ok (.i2l, 1) := by decide +kernel
theorem dX4_years_2 : decode cX4_years 2 = .ok (.lconst 1, 1) := by decide +kernel
theorem dX4_years_3 : decode cX4_years 3 = .ok (.ldc2_w 210, 3) := by decide +kernel
theorem dX4_years_6 : decode cX4_years 6 = .ok (.invokestatic 74, 3) := by decide +kernel
theorem dX4_years_9 : decode cX4_years 9 = .ok (.ifCond .ne 6, 3) := by decide +kernel
theorem dX4_years_12 : decode cX4_years 12 = .ok (.bipush (-2), 2) := by decide +kernel
theorem dX4_years_14 : decode cX4_years 14 = .ok (.ireturn, 1) := by decide +kernel
theorem dX4_years_15 : decode cX4_years 15 = .ok (.iconst 0, 1) := by decide +kernel
theorem dX4_years_16 : decode cX4_years 16 = .ok (.istore_n 2, 1) := by decide +kernel
theorem dX4_years_17 : decode cX4_years 17 = .ok (.iconst 0, 1) := by decide +kernel
theorem dX4_years_18 : decode cX4_years 18 = .ok (.istore_n 3, 1) := by decide +kernel
theorem dX4_years_19 : decode cX4_years 19 = .ok (.iload_n 3, 1) := by decide +kernel
theorem dX4_years_20 : decode cX4_years 20 = .ok (.iload_n 1, 1) := by decide +kernel
theorem dX4_years_21 : decode cX4_years 21 = .ok (.if_icmp .ge 44, 3) := by decide +kernel
theorem dX4_years_24 : decode cX4_years 24 = .ok (.aload_n 0, 1) := by decide +kernel
theorem dX4_years_25 : decode cX4_years 25 = .ok (.aload_n 0, 1) := by decide +kernel
theorem dX4_years_26 : decode cX4_years 26 = .ok (.getfield 206, 3) := by decide +kernel
theorem dX4_years_29 : decode cX4_years 29 = .ok (.ldc2_w 212, 3) := by decide +kernel
theorem dX4_years_32 : decode cX4_years 32 = .ok (.lmul, 1) := by decide +kernel
theorem dX4_years_33 : decode cX4_years 33 = .ok (.ldc2_w 214, 3) := by decide +kernel
theorem dX4_years_36 : decode cX4_years 36 = .ok (.ladd, 1) := by decide +kernel
theorem dX4_years_37 : decode cX4_years 37 = .ok (.putfield 206, 3) := by decide +kernel
theorem dX4_years_40 : decode cX4_years 40 = .ok (.iload_n 2, 1) := by decide +kernel
theorem dX4_years_41 : decode cX4_years 41 = .ok (.aload_n 0, 1) := by decide +kernel
theorem dX4_years_42 : decode cX4_years 42 = .ok (.aload_n 0, 1) := by decide +kernel
theorem dX4_years_43 : decode cX4_years 43 = .ok (.getfield 206, 3) := by decide +kernel
theorem dX4_years_46 : decode cX4_years 46 = .ok (.bipush 33, 2) := by decide +kernel
theorem dX4_years_48 : decode cX4_years 48 = .ok (.lushr, 1) := by decide +kernel
theorem dX4_years_49 : decode cX4_years 49 = .ok (.ldc2_w 216, 3) := by decide +kernel
theorem dX4_years_52 : decode cX4_years 52 = .ok (.lrem, 1) := by decide +kernel
theorem dX4_years_53 : decode cX4_years 53 = .ok (.l2i, 1) := by decide +kernel
theorem dX4_years_54 : decode cX4_years 54 = .ok (.invokevirtual 179, 3) := by decide +kernel
theorem dX4_years_57 : decode cX4_years 57 = .ok (.iadd, 1) := by decide +kernel
theorem dX4_years_58 : decode cX4_years 58 = .ok (.istore_n 2, 1) := by decide +kernel
theorem dX4_years_59 : decode cX4_years 59 = .ok (.iinc 3 1, 3) := by decide +kernel
theorem dX4_years_62 : decode cX4_years 62 = .ok (.goto (-43), 3) := by decide +kernel
theorem dX4_years_65 : decode cX4_years 65 = .ok (.iload_n 2, 1) := by decide +kernel
theorem dX4_years_66 : decode cX4_years 66 = .ok (.ireturn, 1) := by decide +kernel
set_option maxRecDepth 20000 in
theorem ggX4_keep_X4_in : GoodIn wsX4_keep wsX4_in := goodIn_r _ [7] rfl (by decide +kernel)
set_option maxRecDepth 20000 in
theorem gX4_keep_X4_in : GoodIn wsX4_keep (va_wsS RX4 74 yX4_in wsX4_in) := goodIn_app (goodIn_of _ (by decide +kernel)) ggX4_keep_X4_in
theorem dX4_keep_0 : decode cX4_keep 0 = .ok (.iload_n 1, 1) := by decide +kernel
theorem dX4_keep_1 : decode cX4_keep 1 = .ok (.i2l, 1) := by decide +kernel
theorem dX4_keep_2 : decode cX4_keep 2 = .ok (.lconst 0, 1) := by decide +kernel
theorem dX4_keep_3 : decode cX4_keep 3 = .ok (.lconst 1, 1) := by decide +kernel
theorem dX4_keep_4 : decode cX4_keep 4 = .ok (.invokestatic 74, 3) := by decide +kernel
theorem dX4_keep_7 : decode cX4_keep 7 = .ok (.ifCond .ne 5, 3) := by decide +kernel
theorem dX4_keep_10 : decode cX4_keep 10 = .ok (.iconst (-1), 1) := by decide +kernel
theorem dX4_keep_11 : decode cX4_keep 11 = .ok (.ireturn, 1) := by decide +kernel
theorem dX4_keep_12 : decode cX4_keep 12 = .ok (.aload_n 0, 1) := by decide +kernel
theorem dX4_keep_13 : decode cX4_keep 13 = .ok (.getfield 61, 3) := by decide +kernel
theorem dX4_keep_16 : decode cX4_keep 16 = .ok (.iload_n 1, 1) := by decide +kernel
theorem dX4_keep_17 : decode cX4_keep 17 = .ok (.iconst 1, 1) := by decide +kernel
theorem dX4_keep_18 : decode cX4_keep 18 = .ok (.bastore, 1) := by decide +kernel
theorem dX4_keep_19 : decode cX4_keep 19 = .ok (.iconst 0, 1) := by decide +kernel
theorem dX4_keep_20 : decode cX4_keep 20 = .ok (.istore_n 2, 1) := by decide +kernel
theorem dX4_keep_21 : decode cX4_keep 21 = .ok (.iload_n 2, 1) := by decide +kernel
theorem dX4_keep_22 : decode cX4_keep 22 = .ok (.bipush 48, 2) := by decide +kernel
theorem dX4_keep_24 : decode cX4_keep 24 = .ok (.if_icmp .ge 26, 3) := by decide +kernel
theorem dX4_keep_27 : decode cX4_keep 27 = .ok (.aload_n 0, 1) := by decide +kernel
theorem dX4_keep_28 : decode cX4_keep 28 = .ok (.getfield 65, 3) := by decide +kernel
theorem dX4_keep_31 : decode cX4_keep 31 = .ok (.bipush 48, 2) := by decide +kernel
theorem dX4_keep_33 : decode cX4_keep 33 = .ok (.iload_n 1, 1) := by decide +kernel
theorem dX4_keep_34 : decode cX4_keep 34 = .ok (.imul, 1) := by decide +kernel
theorem dX4_keep_35 : decode cX4_keep 35 = .ok (.iload_n 2, 1) := by decide +kernel
theorem dX4_keep_36 : decode cX4_keep 36 = .ok (.iadd, 1) := by decide +kernel
theorem dX4_keep_37 : decode cX4_keep 37 = .ok (.aload_n 0, 1) := by decide +kernel
theorem dX4_keep_38 : decode cX4_keep 38 = .ok (.getfield 19, 3) := by decide +kernel
theorem dX4_keep_41 : decode cX4_keep 41 = .ok (.iload_n 2, 1) := by decide +kernel
theorem dX4_keep_42 : decode cX4_keep 42 = .ok (.iaload, 1) := by decide +kernel
theorem dX4_keep_43 : decode cX4_keep 43 = .ok (.iastore, 1) := by decide +kernel
theorem dX4_keep_44 : decode cX4_keep 44 = .ok (.iinc 2 1, 3) := by decide +kernel
theorem dX4_keep_47 : decode cX4_keep 47 = .ok (.goto (-26), 3) := by decide +kernel
theorem dX4_keep_50 : decode cX4_keep 50 = .ok (.aload_n 0, 1) := by decide +kernel
theorem dX4_keep_51 : decode cX4_keep 51 = .ok (.getfield 19, 3) := by decide +kernel
theorem dX4_keep_54 : decode cX4_keep 54 = .ok (.iconst 0, 1) := by decide +kernel
theorem dX4_keep_55 : decode cX4_keep 55 = .ok (.iaload, 1) := by decide +kernel
theorem dX4_keep_56 : decode cX4_keep 56 = .ok (.ireturn, 1) := by decide +kernel
set_option maxRecDepth 20000 in
theorem ggX4_again_X4_in : GoodIn wsX4_again wsX4_in := goodIn_r _ [8] rfl (by decide +kernel)
set_option maxRecDepth 20000 in
theorem gX4_again_X4_in : GoodIn wsX4_again (va_wsS RX4 74 yX4_in wsX4_in) := goodIn_app (goodIn_of _ (by decide +kernel)) ggX4_again_X4_in
theorem dX4_again_0 : decode cX4_again 0 = .ok (.iload_n 1, 1) := by decide +kernel
theorem dX4_again_1 : decode cX4_again 1 = .ok (.i2l, 1) := by decide +kernel
theorem dX4_again_2 : decode cX4_again 2 = .ok (.lconst 0, 1) := by decide +kernel
theorem dX4_again_3 : decode cX4_again 3 = .ok (.lconst 1, 1) := by decide +kernel
theorem dX4_again_4 : decode cX4_again 4 = .ok (.invokestatic 74, 3) := by decide +kernel
theorem dX4_again_7 : decode cX4_again 7 = .ok (.ifCond .ne 5, 3) := by decide +kernel
theorem dX4_again_10 : decode cX4_again 10 = .ok (.iconst (-1), 1) := by decide +kernel
theorem dX4_again_11 : decode cX4_again 11 = .ok (.ireturn, 1) := by decide +kernel
theorem dX4_again_12 : decode cX4_again 12 = .ok (.aload_n 0, 1) := by decide +kernel
theorem dX4_again_13 : decode cX4_again 13 = .ok (.getfield 61, 3) := by decide +kernel
theorem dX4_again_16 : decode cX4_again 16 = .ok (.iload_n 1, 1) := by decide +kernel
theorem dX4_again_17 : decode cX4_again 17 = .ok (.baload, 1) := by decide +kernel
theorem dX4_again_18 : decode cX4_again 18 = .ok (.ifCond .ne 6, 3) := by decide +kernel
theorem dX4_again_21 : decode cX4_again 21 = .ok (.bipush (-3), 2) := by decide +kernel
theorem dX4_again_23 : decode cX4_again 23 = .ok (.ireturn, 1) := by decide +kernel
theorem dX4_again_24 : decode cX4_again 24 = .ok (.iconst 0, 1) := by decide +kernel
theorem dX4_again_25 : decode cX4_again 25 = .ok (.istore_n 2, 1) := by decide +kernel
theorem dX4_again_26 : decode cX4_again 26 = .ok (.iload_n 2, 1) := by decide +kernel
theorem dX4_again_27 : decode cX4_again 27 = .ok (.bipush 48, 2) := by decide +kernel
theorem dX4_again_29 : decode cX4_again 29 = .ok (.if_icmp .ge 26, 3) := by decide +kernel
theorem dX4_again_32 : decode cX4_again 32 = .ok (.aload_n 0, 1) := by decide +kernel
theorem dX4_again_33 : decode cX4_again 33 = .ok (.getfield 19, 3) := by decide +kernel
theorem dX4_again_36 : decode cX4_again 36 = .ok (.iload_n 2, 1) := by decide +kernel
theorem dX4_again_37 : decode cX4_again 37 = .ok (.aload_n 0, 1) := by decide +kernel
theorem dX4_again_38 : decode cX4_again 38 = .ok (.getfield 65, 3) := by decide +kernel
theorem dX4_again_41 : decode cX4_again 41 = .ok (.bipush 48, 2) := by decide +kernel
theorem dX4_again_43 : decode cX4_again 43 = .ok (.iload_n 1, 1) := by decide +kernel
theorem dX4_again_44 : decode cX4_again 44 = .ok (.imul, 1) := by decide +kernel
theorem dX4_again_45 : decode cX4_again 45 = .ok (.iload_n 2, 1) := by decide +kernel
theorem dX4_again_46 : decode cX4_again 46 = .ok (.iadd, 1) := by decide +kernel
theorem dX4_again_47 : decode cX4_again 47 = .ok (.iaload, 1) := by decide +kernel
theorem dX4_again_48 : decode cX4_again 48 = .ok (.iastore, 1) := by decide +kernel
theorem dX4_again_49 : decode cX4_again 49 = .ok (.iinc 2 1, 3) := by decide +kernel
theorem dX4_again_52 : decode cX4_again 52 = .ok (.goto (-26), 3) := by decide +kernel
theorem dX4_again_55 : decode cX4_again 55 = .ok (.aload_n 0, 1) := by decide +kernel
theorem dX4_again_56 : decode cX4_again 56 = .ok (.iconst 0, 1) := by decide +kernel
theorem dX4_again_57 : decode cX4_again 57 = .ok (.putfield 104, 3) := by decide +kernel
theorem dX4_again_60 : decode cX4_again 60 = .ok (.aload_n 0, 1) := by decide +kernel
theorem dX4_again_61 : decode cX4_again 61 = .ok (.getfield 19, 3) := by decide +kernel
theorem dX4_again_64 : decode cX4_again 64 = .ok (.iconst 0, 1) := by decide +kernel
theorem dX4_again_65 : decode cX4_again 65 = .ok (.iaload, 1) := by decide +kernel
theorem dX4_again_66 : decode cX4_again 66 = .ok (.ireturn, 1) := by decide +kernel
set_option maxRecDepth 20000 in
theorem ggX4_count_X4_goneNow : GoodIn wsX4_count wsX4_goneNow := goodIn_r _ [12, 5, 13, 14, 15, 11, 16, 2, 17, 18, 19, 20, 21, 22, 23, 24, 25, 26, 27, 28, 29, 30, 31, 32, 33, 34, 35, 36, 37, 38, 39, 40, 41, 42, 43, 44, 45, 46] rfl (by decide +kernel)
set_option maxRecDepth 20000 in
theorem gX4_count_X4_goneNow : GoodIn wsX4_count (wsV RX4 185 RX4 yX4_goneNow wsX4_goneNow) := goodIn_app (goodIn_r _ [8, 9, 10, 11] rfl (by decide +kernel)) ggX4_count_X4_goneNow
theorem dX4_count_0 : decode cX4_count 0 = .ok (.iconst 0, 1) := by decide +kernel
theorem dX4_count_1 : decode cX4_count 1 = .ok (.istore_n 2, 1) := by decide +kernel
theorem dX4_count_2 : decode cX4_count 2 = .ok (.iconst 0, 1) := by decide +kernel
theorem dX4_count_3 : decode cX4_count 3 = .ok (.istore_n 3, 1) := by decide +kernel
theorem dX4_count_4 : decode cX4_count 4 = .ok (.iload_n 3, 1) := by decide +kernel
theorem dX4_count_5 : decode cX4_count 5 = .ok (.aload_n 0, 1) := by decide +kernel
theorem dX4_count_6 : decode cX4_count 6 = .ok (.getfield 68, 3) := by decide +kernel
theorem dX4_count_9 : decode cX4_count 9 = .ok (.if_icmp .ge 34, 3) := by decide +kernel
theorem dX4_count_12 : decode cX4_count 12 = .ok (.iload_n 2, 1) := by decide +kernel
theorem dX4_count_13 : decode cX4_count 13 = .ok (.aload_n 0, 1) := by decide +kernel
theorem dX4_count_14 : decode cX4_count 14 = .ok (.getfield 19, 3) := by decide +kernel
theorem dX4_count_17 : decode cX4_count 17 = .ok (.iconst 1, 1) := by decide +kernel
theorem dX4_count_18 : decode cX4_count 18 = .ok (.iload_n 3, 1) := by decide +kernel
theorem dX4_count_19 : decode cX4_count 19 = .ok (.iadd, 1) := by decide +kernel
theorem dX4_count_20 : decode cX4_count 20 = .ok (.iaload, 1) := by decide +kernel
theorem dX4_count_21 : decode cX4_count 21 = .ok (.aload_n 0, 1) := by decide +kernel
theorem dX4_count_22 : decode cX4_count 22 = .ok (.getfield 7, 3) := by decide +kernel
theorem dX4_count_25 : decode cX4_count 25 = .ok (.iload_n 3, 1) := by decide +kernel
theorem dX4_count_26 : decode cX4_count 26 = .ok (.iaload, 1) := by decide +kernel
theorem dX4_count_27 : decode cX4_count 27 = .ok (.if_icmp .ne 7, 3) := by decide +kernel
theorem dX4_count_30 : decode cX4_count 30 = .ok (.iconst 1, 1) := by decide +kernel
theorem dX4_count_31 : decode cX4_count 31 = .ok (.goto 4, 3) := by decide +kernel
theorem dX4_count_34 : decode cX4_count 34 = .ok (.iconst 0, 1) := by decide +kernel
theorem dX4_count_35 : decode cX4_count 35 = .ok (.iadd, 1) := by decide +kernel
theorem dX4_count_36 : decode cX4_count 36 = .ok (.istore_n 2, 1) := by decide +kernel
theorem dX4_count_37 : decode cX4_count 37 = .ok (.iinc 3 1, 3) := by decide +kernel
theorem dX4_count_40 : decode cX4_count 40 = .ok (.goto (-36), 3) := by decide +kernel
theorem dX4_count_43 : decode cX4_count 43 = .ok (.iload_n 1, 1) := by decide +kernel
theorem dX4_count_44 : decode cX4_count 44 = .ok (.tableswitch 87 0 7 #[48, 53, 58, 63, 70, 75, 77, 82], 48) := by decide +kernel
theorem dX4_count_92 : decode cX4_count 92 = .ok (.aload_n 0, 1) := by decide +kernel
theorem dX4_count_93 : decode cX4_count 93 = .ok (.getfield 78, 3) := by decide +kernel
theorem dX4_count_96 : decode cX4_count 96 = .ok (.ireturn, 1) := by decide +kernel
theorem dX4_count_97 : decode cX4_count 97 = .ok (.aload_n 0, 1) := by decide +kernel
theorem dX4_count_98 : decode cX4_count 98 = .ok (.getfield 68, 3) := by decide +kernel
theorem dX4_count_101 : decode cX4_count 101 = .ok (.ireturn, 1) := by decide +kernel
theorem dX4_count_102 : decode cX4_count 102 = .ok (.aload_n 0, 1) := by decide +kernel
theorem dX4_count_103 : decode cX4_count 103 = .ok (.getfield 101, 3) := by decide +kernel
theorem dX4_count_106 : decode cX4_count 106 = .ok (.ireturn, 1) := by decide +kernel
theorem dX4_count_107 : decode cX4_count 107 = .ok (.aload_n 0, 1) := by decide +kernel
theorem dX4_count_108 : decode cX4_count 108 = .ok (.getfield 19, 3) := by decide +kernel
theorem dX4_count_111 : decode cX4_count 111 = .ok (.iconst 0, 1) := by decide +kernel
theorem dX4_count_112 : decode cX4_count 112 = .ok (.iaload, 1) := by decide +kernel
theorem dX4_count_113 : decode cX4_count 113 = .ok (.ireturn, 1) := by decide +kernel
theorem dX4_count_114 : decode cX4_count 114 = .ok (.aload_n 0, 1) := by decide +kernel
theorem dX4_count_115 : decode cX4_count 115 = .ok (.invokevirtual 185, 3) := by decide +kernel
theorem dX4_count_118 : decode cX4_count 118 = .ok (.ireturn, 1) := by decide +kernel
theorem dX4_count_119 : decode cX4_count 119 = .ok (.iload_n 2, 1) := by decide +kernel
theorem dX4_count_120 : decode cX4_count 120 = .ok (.ireturn, 1) := by decide +kernel
theorem dX4_count_121 : decode cX4_count 121 = .ok (.aload_n 0, 1) := by decide +kernel
theorem dX4_count_122 : decode cX4_count 122 = .ok (.getfield 104, 3) := by decide +kernel
theorem dX4_count_125 : decode cX4_count 125 = .ok (.ireturn, 1) := by decide +kernel
theorem dX4_count_126 : decode cX4_count 126 = .ok (.aload_n 0, 1) := by decide +kernel
theorem dX4_count_127 : decode cX4_count 127 = .ok (.getfield 199, 3) := by decide +kernel
theorem dX4_count_130 : decode cX4_count 130 = .ok (.ireturn, 1) := by decide +kernel
theorem dX4_count_131 : decode cX4_count 131 = .ok (.bipush (-2), 2) := by decide +kernel
theorem dX4_count_133 : decode cX4_count 133 = .ok (.ireturn, 1) := by decide +kernel
set_option maxHeartbeats 600000 in
set_option maxRecDepth 100000 in
theorem c_X4_keep (l : Launch) (D : va_G) (cI cZ cM : ClassId) (h0 : Nat) (n : Int32) (ype : Int32) (ytk : Int32) (ywi : Nat) (yki : Nat) (yse : Nat) (yno : Nat) (yrh : Nat) (yrw : Nat) (yrk : Nat) (yrt : Nat) (yrp : Int32) (yrq : Int32) (ytx : Nat) (yle : Int32) (yat : Int32) (yfa : Int32) (yby : Nat) (ylo : Nat) (yhi : Nat) (yac : Int32) (ynx : Int32) (yro : Nat) (ygl : Nat) (ysn : Int32) (yso : Nat) (ysp : Nat) (ysw : Nat) (ysd : Int64) (yik : Nat) (ykp : Nat) (Fno : Nat → Int32) (Fkp : Nat → Int32) (Fik : Nat → Int32) (sz : Nat)  : Ci l yX4_keep wsX4_keep ({ frames := 1, cells := 0, slots := 0, locals := 25 } : Room) D cI cZ cM [.ref h0, .int n] [(h0, .inr (4, [.int ype, .int ytk, .ref ywi, .ref yki, .ref yse, .ref yno, .ref yrh, .ref yrw, .ref yrk, .ref yrt, .int yrp, .int yrq, .ref ytx, .int yle, .int yat, .int yfa, .ref yby, .ref ylo, .ref yhi, .int yac, .int ynx, .ref yro, .ref ygl, .int ysn, .ref yso, .ref ysp, .ref ysw, .long ysd, .ref yik, .ref ykp])), (yno, .inl (cI, 96, .inl Fno)), (ykp, .inl (cI, 96, .inl Fkp)), (yik, .inl (cZ, 2, .inl Fik))] sz (fun (r : Int32) (u : (Nat → Int32) × (Nat → Int32)) => True) (fun u => [(h0, .inr (4, [.int ype, .int ytk, .ref ywi, .ref yki, .ref yse, .ref yno, .ref yrh, .ref yrw, .ref yrk, .ref yrt, .int yrp, .int yrq, .ref ytx, .int yle, .int yat, .int yfa, .ref yby, .ref ylo, .ref yhi, .int yac, .int ynx, .ref yro, .ref ygl, .int ysn, .ref yso, .ref ysp, .ref ysw, .long ysd, .ref yik, .ref ykp])), (yno, .inl (cI, 96, .inl Fno)), (ykp, .inl (cI, 96, .inl u.1)), (yik, .inl (cZ, 2, .inl u.2))]) 0 0 := by
  refine begins (l := l) (y := yX4_keep) (ws := wsX4_keep) (av := [.ref h0, .int n]) (Qc := fun A => va_Qi (fun (r : Int32) (u : (Nat → Int32) × (Nat → Int32)) => True) (fun u => Wd D cI cZ cM A ((fun u => [(h0, .inr (4, [.int ype, .int ytk, .ref ywi, .ref yki, .ref yse, .ref yno, .ref yrh, .ref yrw, .ref yrk, .ref yrt, .int yrp, .int yrq, .ref ytx, .int yle, .int yat, .int yfa, .ref yby, .ref ylo, .ref yhi, .int yac, .int ynx, .ref yro, .ref ygl, .int ysn, .ref yso, .ref ysp, .ref ysw, .long ysd, .ref yik, .ref ykp])), (yno, .inl (cI, 96, .inl Fno)), (ykp, .inl (cI, 96, .inl u.1)), (yik, .inl (cZ, 2, .inl u.2))]) u)) A) cX4_keep 3 (some .int) (by decide) rfl (Nat.le_of_ble_eq_true rfl) ?_
  intro p e s m args below meth c R Q A ls hBd hR hQ hA hS hK hP hD hl
  obtain ⟨hx, hb, hr, hts, hown, hlocks, hin, hml⟩ := hBd
  have hl : lv_has ls 3 [(0, .ref h0), (1, .int n)] := hl
  have iX4 : ∀ w ∈ wsX40, w ∈ wsX4_keep := fun _ h => List.mem_cons_of_mem _ (List.mem_append_right _ h)
  refine lv_iload_n hx hb dX4_keep_0 rfl (lv_at hl 1 rfl) ?_
  obtain ⟨w_1, ew_1⟩ : ∃ z : Int64, n.toInt64 = z := ⟨_, rfl⟩
  have tw_1 : w_1.toInt = n.toInt := by rw [← ew_1, Int32.toInt_toInt64]
  refine lv_i2l hx hb dX4_keep_1 ew_1 ?_
  refine lv_lconst (v := 0) hx hb dX4_keep_2 (by decide) ?_
  refine lv_lconst (v := 1) hx hb dX4_keep_3 (by decide) ?_
  refine cS_i (As := [.long w_1, .long 0, .long 1]) (rest := []) ⟨hx, hb, hml, hown, hts⟩ (c_X4_in l D cI cZ cM w_1 0 1 _ ) (va_cwS 3 hts gX4_keep_X4_in rfl rfl rfl (by decide +kernel) ⟨by rw [hR]; decide, by rw [hR]; decide⟩) hK hP hD hS hA [] [0, 1, 2, 3] rfl rfl (by decide) (by decide) (by decide) hl.1 rfl rfl (Nat.le_of_ble_eq_true rfl) dX4_keep_4 ⟨by rw [hR]; decide, by rw [hR]; decide⟩ (fun r_2 u_3 H locs hw hP hD hS => ?_)
  have hP : va_P D vwCl [(h0, .inr (4, [.int ype, .int ytk, .ref ywi, .ref yki, .ref yse, .ref yno, .ref yrh, .ref yrw, .ref yrk, .ref yrt, .int yrp, .int yrq, .ref ytx, .int yle, .int yat, .int yfa, .ref yby, .ref ylo, .ref yhi, .int yac, .int ynx, .ref yro, .ref ygl, .int ysn, .ref yso, .ref ysp, .ref ysw, .long ysd, .ref yik, .ref ykp])), (yno, .inl (cI, 96, .inl Fno)), (ykp, .inl (cI, 96, .inl Fkp)), (yik, .inl (cZ, 2, .inl Fik))] H := hP.sub [0, 1, 2, 3] rfl
  have hD : va_D A [(h0, .inr (4, [.int ype, .int ytk, .ref ywi, .ref yki, .ref yse, .ref yno, .ref yrh, .ref yrw, .ref yrk, .ref yrt, .int yrp, .int yrq, .ref ytx, .int yle, .int yat, .int yfa, .ref yby, .ref ylo, .ref yhi, .int yac, .int ynx, .ref yro, .ref ygl, .int ysn, .ref yso, .ref ysp, .ref ysw, .long ysd, .ref yik, .ref ykp])), (yno, .inl (cI, 96, .inl Fno)), (ykp, .inl (cI, 96, .inl Fkp)), (yik, .inl (cZ, 2, .inl Fik))] := hD.sub [0, 1, 2, 3] (by decide) rfl
  refine W.widen (k := 0) (n := 0) (Nat.le_refl _) (Nat.le_refl _) ?_
  have hw : (r_2.toInt = 1 ∧ (0 : Int) ≤ w_1.toInt ∧ w_1.toInt ≤ (1 : Int)) ∨ (r_2.toInt = 0 ∧ (w_1.toInt < (0 : Int) ∨ (1 : Int) < w_1.toInt)) := hw
  have hw_4 := hw
  refine lv_if_ne (tgt := 12) hx hb dX4_keep_7 (by decide) (fun c_5 => ?_) (fun c_5 => ?_)
  · have tc_5 := b_ne rfl (show (0 : Int32).toInt = 0 by decide) c_5
    have hn1 : 0 ≤ n.toInt := by omega
    have hn2 : n.toInt ≤ 1 := by omega
    refine lv_aload_n hx hb dX4_keep_12 rfl (lv_at hl 0 rfl) ?_
    refine va_get (D := D) (ci := 4) (v := .ref yik) (C := RX4) (T := TX4) (N := 30) hx hb hts iX4 hown hK hP 0 rfl rfl 28 (by decide) (hts (.fieldLink RX4 61 "PunchedTicketModel" "isKept" "[Z") (List.mem_of_getElem? (i := 1) rfl)) (fun _ h9 => h9) rfl dX4_keep_13 ?_
    refine lv_iload_n hx hb dX4_keep_16 rfl (lv_at hl 1 rfl) ?_
    refine lv_iconst (v := 1) hx hb dX4_keep_17 (by decide) ?_
    refine va_zast hx hb hK hP hD hS 3 1 rfl rfl (vp_in_iff.mpr ⟨by omega, by omega⟩) dX4_keep_18 (fun H locs hP hD hS => ?_)
    obtain ⟨f_6, ef_6⟩ : ∃ g : Nat → Int32, upd Fik (n : Int32).toNatClampNeg (vp_nar .boolean 1) = g := ⟨_, rfl⟩
    rw [ef_6] at hP hD
    have hP : va_P D vwCl [(h0, .inr (4, [.int ype, .int ytk, .ref ywi, .ref yki, .ref yse, .ref yno, .ref yrh, .ref yrw, .ref yrk, .ref yrt, .int yrp, .int yrq, .ref ytx, .int yle, .int yat, .int yfa, .ref yby, .ref ylo, .ref yhi, .int yac, .int ynx, .ref yro, .ref ygl, .int ysn, .ref yso, .ref ysp, .ref ysw, .long ysd, .ref yik, .ref ykp])), (yno, .inl (cI, 96, .inl Fno)), (ykp, .inl (cI, 96, .inl Fkp)), (yik, .inl (cZ, 2, .inl f_6))] H := hP
    have hD : va_D A [(h0, .inr (4, [.int ype, .int ytk, .ref ywi, .ref yki, .ref yse, .ref yno, .ref yrh, .ref yrw, .ref yrk, .ref yrt, .int yrp, .int yrq, .ref ytx, .int yle, .int yat, .int yfa, .ref yby, .ref ylo, .ref yhi, .int yac, .int ynx, .ref yro, .ref ygl, .int ysn, .ref yso, .ref ysp, .ref ysw, .long ysd, .ref yik, .ref ykp])), (yno, .inl (cI, 96, .inl Fno)), (ykp, .inl (cI, 96, .inl Fkp)), (yik, .inl (cZ, 2, .inl f_6))] := hD
    refine lv_iconst (v := 0) hx hb dX4_keep_19 (by decide) ?_
    refine lv_istore_n (lv' := [(2, .int 0), (0, .ref h0), (1, .int n)]) hx hb dX4_keep_20 rfl hl (by decide) rfl (fun ls hl => ?_)
    have LOOP_7 : ∀ (fu_7 : Nat) (x2 : Int32) (gk : Nat → Int32) (H : Heap) (locs : List Loc) (ls : Array Slot), (48 - x2.toInt).toNat < fu_7 → (0 ≤ x2.toInt ∧ x2.toInt ≤ 48) → va_P D vwCl [(h0, .inr (4, [.int ype, .int ytk, .ref ywi, .ref yki, .ref yse, .ref yno, .ref yrh, .ref yrw, .ref yrk, .ref yrt, .int yrp, .int yrq, .ref ytx, .int yle, .int yat, .int yfa, .ref yby, .ref ylo, .ref yhi, .int yac, .int ynx, .ref yro, .ref ygl, .int ysn, .ref yso, .ref ysp, .ref ysw, .long ysd, .ref yik, .ref ykp])), (yno, .inl (cI, 96, .inl Fno)), (ykp, .inl (cI, 96, .inl gk)), (yik, .inl (cZ, 2, .inl f_6))] H → va_D A [(h0, .inr (4, [.int ype, .int ytk, .ref ywi, .ref yki, .ref yse, .ref yno, .ref yrh, .ref yrw, .ref yrk, .ref yrt, .int yrp, .int yrq, .ref ytx, .int yle, .int yat, .int yfa, .ref yby, .ref ylo, .ref yhi, .int yac, .int ynx, .ref yro, .ref ygl, .int ysn, .ref yso, .ref ysp, .ref ysw, .long ysd, .ref yik, .ref ykp])), (yno, .inl (cI, 96, .inl Fno)), (ykp, .inl (cI, 96, .inl gk)), (yik, .inl (cZ, 2, .inl f_6))] → va_S A s.heap H locs → lv_has ls 3 [(0, .ref h0), (1, .int n), (2, .int x2)] → W p l e R s m args below meth c H locs 0 0 Q (F0 m 21 ls []) := by
      intro fu_7
      induction fu_7 with
      | zero => intro x2 gk H locs ls hmu; exact absurd hmu (Nat.not_lt_zero _)
      | succ fu_7 ih =>
        intro x2 gk H locs ls hmu h_x2 hP hD hS hl
        obtain ⟨h_x2a, h_x2b⟩ := h_x2
        have ih_8 := ih
        clear ih
        refine lv_iload_n hx hb dX4_keep_21 rfl (lv_at hl 2 rfl) ?_
        refine lv_bipush (v := 48) hx hb dX4_keep_22 (by decide) ?_
        refine lv_icmp_ge (tgt := 50) hx hb dX4_keep_24 (by decide) (fun c_9 => ?_) (fun c_9 => ?_)
        · have tc_9 := b_le (show (48 : Int32).toInt = 48 by decide) rfl c_9
          refine lv_aload_n hx hb dX4_keep_50 rfl (lv_at hl 0 rfl) ?_
          refine va_get (D := D) (ci := 4) (v := .ref yno) (C := RX4) (T := TX4) (N := 30) hx hb hts iX4 hown hK hP 0 rfl rfl 5 (by decide) (hts (.fieldLink RX4 19 "PunchedTicketModel" "now" "[I") (List.mem_of_getElem? (i := 3) rfl)) (fun _ h9 => h9) rfl dX4_keep_51 ?_
          refine lv_iconst (v := 0) hx hb dX4_keep_54 (by decide) ?_
          refine va_iald hx hb hK hP 1 0 rfl rfl (vp_in_iff.mpr (by decide)) dX4_keep_55 ?_
          refine lv_topi (fun v_10 ev_10 => ?_)
          exact ret_i (post := (fun (r : Int32) (u : (Nat → Int32) × (Nat → Int32)) => True)) (W1 := (fun u => [(h0, .inr (4, [.int ype, .int ytk, .ref ywi, .ref yki, .ref yse, .ref yno, .ref yrh, .ref yrw, .ref yrk, .ref yrt, .int yrp, .int yrq, .ref ytx, .int yle, .int yat, .int yfa, .ref yby, .ref ylo, .ref yhi, .int yac, .int ynx, .ref yro, .ref ygl, .int ysn, .ref yso, .ref ysp, .ref ysw, .long ysd, .ref yik, .ref ykp])), (yno, .inl (cI, 96, .inl Fno)), (ykp, .inl (cI, 96, .inl u.1)), (yik, .inl (cZ, 2, .inl u.2))])) (gk, f_6) hx hb hr hlocks rfl hQ hK hP hD hS ⟨by decide, by decide⟩ dX4_keep_56 trivial
        · have tc_9 := b_nle (show (48 : Int32).toInt = 48 by decide) rfl c_9
          refine lv_aload_n hx hb dX4_keep_27 rfl (lv_at hl 0 rfl) ?_
          refine va_get (D := D) (ci := 4) (v := .ref ykp) (C := RX4) (T := TX4) (N := 30) hx hb hts iX4 hown hK hP 0 rfl rfl 29 (by decide) (hts (.fieldLink RX4 65 "PunchedTicketModel" "kept" "[I") (List.mem_of_getElem? (i := 2) rfl)) (fun _ h9 => h9) rfl dX4_keep_28 ?_
          refine lv_bipush (v := 48) hx hb dX4_keep_31 (by decide) ?_
          refine lv_iload_n hx hb dX4_keep_33 rfl (lv_at hl 1 rfl) ?_
          refine lv_imul hx hb dX4_keep_34 ?_
          refine lv_topi (fun v_11 ev_11 => ?_)
          have tv_11 : v_11.toInt = (48 : Int) * n.toInt := by rw [ev_11]; exact ti_mul (x := 48) (y := n) (show -2147483648 ≤ (48 : Int) * n.toInt by omega) (show (48 : Int) * n.toInt < 2147483648 by omega)
          refine lv_iload_n hx hb dX4_keep_35 rfl (lv_at hl 2 rfl) ?_
          refine lv_iadd hx hb dX4_keep_36 ?_
          refine lv_topi (fun v_12 ev_12 => ?_)
          have tv_12 : v_12.toInt = v_11.toInt + x2.toInt := by rw [ev_12]; exact ti_add (x := v_11) (y := x2) (show -2147483648 ≤ v_11.toInt + x2.toInt by omega) (show v_11.toInt + x2.toInt < 2147483648 by omega)
          refine lv_aload_n hx hb dX4_keep_37 rfl (lv_at hl 0 rfl) ?_
          refine va_get (D := D) (ci := 4) (v := .ref yno) (C := RX4) (T := TX4) (N := 30) hx hb hts iX4 hown hK hP 0 rfl rfl 5 (by decide) (hts (.fieldLink RX4 19 "PunchedTicketModel" "now" "[I") (List.mem_of_getElem? (i := 3) rfl)) (fun _ h9 => h9) rfl dX4_keep_38 ?_
          refine lv_iload_n hx hb dX4_keep_41 rfl (lv_at hl 2 rfl) ?_
          refine va_iald hx hb hK hP 1 0 rfl rfl (vp_in_iff.mpr ⟨by omega, by omega⟩) dX4_keep_42 ?_
          refine lv_topi (fun v_13 ev_13 => ?_)
          refine va_iast hx hb hK hP hD hS 2 0 rfl rfl (vp_in_iff.mpr ⟨by omega, by omega⟩) dX4_keep_43 (fun H locs hP hD hS => ?_)
          obtain ⟨f_14, ef_14⟩ : ∃ g : Nat → Int32, upd gk (v_12 : Int32).toNatClampNeg v_13 = g := ⟨_, rfl⟩
          rw [ef_14] at hP hD
          have hP : va_P D vwCl [(h0, .inr (4, [.int ype, .int ytk, .ref ywi, .ref yki, .ref yse, .ref yno, .ref yrh, .ref yrw, .ref yrk, .ref yrt, .int yrp, .int yrq, .ref ytx, .int yle, .int yat, .int yfa, .ref yby, .ref ylo, .ref yhi, .int yac, .int ynx, .ref yro, .ref ygl, .int ysn, .ref yso, .ref ysp, .ref ysw, .long ysd, .ref yik, .ref ykp])), (yno, .inl (cI, 96, .inl Fno)), (ykp, .inl (cI, 96, .inl f_14)), (yik, .inl (cZ, 2, .inl f_6))] H := hP
          have hD : va_D A [(h0, .inr (4, [.int ype, .int ytk, .ref ywi, .ref yki, .ref yse, .ref yno, .ref yrh, .ref yrw, .ref yrk, .ref yrt, .int yrp, .int yrq, .ref ytx, .int yle, .int yat, .int yfa, .ref yby, .ref ylo, .ref yhi, .int yac, .int ynx, .ref yro, .ref ygl, .int ysn, .ref yso, .ref ysp, .ref ysw, .long ysd, .ref yik, .ref ykp])), (yno, .inl (cI, 96, .inl Fno)), (ykp, .inl (cI, 96, .inl f_14)), (yik, .inl (cZ, 2, .inl f_6))] := hD
          obtain ⟨v_15, ev_15⟩ : ∃ z : Int32, z = x2 + 1 := ⟨_, rfl⟩
          have tv_15 : v_15.toInt = x2.toInt + 1 := by rw [ev_15]; exact ti_add (x := x2) (y := 1) (show -2147483648 ≤ x2.toInt + 1 by omega) (show x2.toInt + 1 < 2147483648 by omega)
          refine lv_iinc (v := v_15) (lv' := [(2, .int v_15), (0, .ref h0), (1, .int n)]) hx hb dX4_keep_44 hl (k := 2) rfl (by rw [ev_15]; rfl) (by decide) rfl (fun ls hl => ?_)
          refine lv_goto (tgt := 21) hx hb dX4_keep_47 (by decide) ?_
          exact ih_8 v_15 f_14 _ _ _ (show (48 - v_15.toInt).toNat < fu_7 by omega) (show 0 ≤ v_15.toInt ∧ v_15.toInt ≤ 48 by omega) hP hD hS (lv_sub hl [1, 2, 0] rfl)
    exact LOOP_7 _ 0 Fkp _ _ _ (Nat.lt_succ_self _) (by decide) hP hD hS (lv_sub hl [1, 2, 0] rfl)
  · have tc_5 := b_eq rfl (show (0 : Int32).toInt = 0 by decide) c_5
    refine lv_iconst (v := (-1)) hx hb dX4_keep_10 (by decide) ?_
    exact ret_i (post := (fun (r : Int32) (u : (Nat → Int32) × (Nat → Int32)) => True)) (W1 := (fun u => [(h0, .inr (4, [.int ype, .int ytk, .ref ywi, .ref yki, .ref yse, .ref yno, .ref yrh, .ref yrw, .ref yrk, .ref yrt, .int yrp, .int yrq, .ref ytx, .int yle, .int yat, .int yfa, .ref yby, .ref ylo, .ref yhi, .int yac, .int ynx, .ref yro, .ref ygl, .int ysn, .ref yso, .ref ysp, .ref ysw, .long ysd, .ref yik, .ref ykp])), (yno, .inl (cI, 96, .inl Fno)), (ykp, .inl (cI, 96, .inl u.1)), (yik, .inl (cZ, 2, .inl u.2))])) (Fkp, Fik) hx hb hr hlocks rfl hQ hK hP hD hS ⟨by decide, by decide⟩ dX4_keep_11 trivial

set_option maxHeartbeats 600000 in
set_option maxRecDepth 100000 in
theorem c_X4_again (l : Launch) (D : va_G) (cI cZ cM : ClassId) (h0 : Nat) (n : Int32) (ype : Int32) (ytk : Int32) (ywi : Nat) (yki : Nat) (yse : Nat) (yno : Nat) (yrh : Nat) (yrw : Nat) (yrk : Nat) (yrt : Nat) (yrp : Int32) (yrq : Int32) (ytx : Nat) (yle : Int32) (yat : Int32) (yfa : Int32) (yby : Nat) (ylo : Nat) (yhi : Nat) (yac : Int32) (ynx : Int32) (yro : Nat) (ygl : Nat) (ysn : Int32) (yso : Nat) (ysp : Nat) (ysw : Nat) (ysd : Int64) (yik : Nat) (ykp : Nat) (Fno : Nat → Int32) (Fkp : Nat → Int32) (Fik : Nat → Int32) (sz : Nat) (h_yac : 0 ≤ yac.toInt ∧ yac.toInt ≤ 14) : Ci l yX4_again wsX4_again ({ frames := 1, cells := 0, slots := 0, locals := 25 } : Room) D cI cZ cM [.ref h0, .int n] [(h0, .inr (4, [.int ype, .int ytk, .ref ywi, .ref yki, .ref yse, .ref yno, .ref yrh, .ref yrw, .ref yrk, .ref yrt, .int yrp, .int yrq, .ref ytx, .int yle, .int yat, .int yfa, .ref yby, .ref ylo, .ref yhi, .int yac, .int ynx, .ref yro, .ref ygl, .int ysn, .ref yso, .ref ysp, .ref ysw, .long ysd, .ref yik, .ref ykp])), (yno, .inl (cI, 96, .inl Fno)), (ykp, .inl (cI, 96, .inl Fkp)), (yik, .inl (cZ, 2, .inl Fik))] sz (fun (r : Int32) (u : Int32 × (Nat → Int32)) => 0 ≤ u.1.toInt ∧ u.1.toInt ≤ 14) (fun u => [(h0, .inr (4, [.int ype, .int ytk, .ref ywi, .ref yki, .ref yse, .ref yno, .ref yrh, .ref yrw, .ref yrk, .ref yrt, .int yrp, .int yrq, .ref ytx, .int yle, .int yat, .int yfa, .ref yby, .ref ylo, .ref yhi, .int u.1, .int ynx, .ref yro, .ref ygl, .int ysn, .ref yso, .ref ysp, .ref ysw, .long ysd, .ref yik, .ref ykp])), (yno, .inl (cI, 96, .inl u.2)), (ykp, .inl (cI, 96, .inl Fkp)), (yik, .inl (cZ, 2, .inl Fik))]) 0 0 := by
  refine begins (l := l) (y := yX4_again) (ws := wsX4_again) (av := [.ref h0, .int n]) (Qc := fun A => va_Qi (fun (r : Int32) (u : Int32 × (Nat → Int32)) => 0 ≤ u.1.toInt ∧ u.1.toInt ≤ 14) (fun u => Wd D cI cZ cM A ((fun u => [(h0, .inr (4, [.int ype, .int ytk, .ref ywi, .ref yki, .ref yse, .ref yno, .ref yrh, .ref yrw, .ref yrk, .ref yrt, .int yrp, .int yrq, .ref ytx, .int yle, .int yat, .int yfa, .ref yby, .ref ylo, .ref yhi, .int u.1, .int ynx, .ref yro, .ref ygl, .int ysn, .ref yso, .ref ysp, .ref ysw, .long ysd, .ref yik, .ref ykp])), (yno, .inl (cI, 96, .inl u.2)), (ykp, .inl (cI, 96, .inl Fkp)), (yik, .inl (cZ, 2, .inl Fik))]) u)) A) cX4_again 3 (some .int) (by decide) rfl (Nat.le_of_ble_eq_true rfl) ?_
  intro p e s m args below meth c R Q A ls hBd hR hQ hA hS hK hP hD hl
  obtain ⟨hx, hb, hr, hts, hown, hlocks, hin, hml⟩ := hBd
  have hl : lv_has ls 3 [(0, .ref h0), (1, .int n)] := hl
  have iX4 : ∀ w ∈ wsX40, w ∈ wsX4_again := fun _ h => List.mem_cons_of_mem _ (List.mem_append_right _ h)
  obtain ⟨h_yaca, h_yacb⟩ := h_yac
  refine lv_iload_n hx hb dX4_again_0 rfl (lv_at hl 1 rfl) ?_
  obtain ⟨w_1, ew_1⟩ : ∃ z : Int64, n.toInt64 = z := ⟨_, rfl⟩
  have tw_1 : w_1.toInt = n.toInt := by rw [← ew_1, Int32.toInt_toInt64]
  refine lv_i2l hx hb dX4_again_1 ew_1 ?_
  refine lv_lconst (v := 0) hx hb dX4_again_2 (by decide) ?_
  refine lv_lconst (v := 1) hx hb dX4_again_3 (by decide) ?_
  refine cS_i (As := [.long w_1, .long 0, .long 1]) (rest := []) ⟨hx, hb, hml, hown, hts⟩ (c_X4_in l D cI cZ cM w_1 0 1 _ ) (va_cwS 3 hts gX4_again_X4_in rfl rfl rfl (by decide +kernel) ⟨by rw [hR]; decide, by rw [hR]; decide⟩) hK hP hD hS hA [] [0, 1, 2, 3] rfl rfl (by decide) (by decide) (by decide) hl.1 rfl rfl (Nat.le_of_ble_eq_true rfl) dX4_again_4 ⟨by rw [hR]; decide, by rw [hR]; decide⟩ (fun r_2 u_3 H locs hw hP hD hS => ?_)
  have hP : va_P D vwCl [(h0, .inr (4, [.int ype, .int ytk, .ref ywi, .ref yki, .ref yse, .ref yno, .ref yrh, .ref yrw, .ref yrk, .ref yrt, .int yrp, .int yrq, .ref ytx, .int yle, .int yat, .int yfa, .ref yby, .ref ylo, .ref yhi, .int yac, .int ynx, .ref yro, .ref ygl, .int ysn, .ref yso, .ref ysp, .ref ysw, .long ysd, .ref yik, .ref ykp])), (yno, .inl (cI, 96, .inl Fno)), (ykp, .inl (cI, 96, .inl Fkp)), (yik, .inl (cZ, 2, .inl Fik))] H := hP.sub [0, 1, 2, 3] rfl
  have hD : va_D A [(h0, .inr (4, [.int ype, .int ytk, .ref ywi, .ref yki, .ref yse, .ref yno, .ref yrh, .ref yrw, .ref yrk, .ref yrt, .int yrp, .int yrq, .ref ytx, .int yle, .int yat, .int yfa, .ref yby, .ref ylo, .ref yhi, .int yac, .int ynx, .ref yro, .ref ygl, .int ysn, .ref yso, .ref ysp, .ref ysw, .long ysd, .ref yik, .ref ykp])), (yno, .inl (cI, 96, .inl Fno)), (ykp, .inl (cI, 96, .inl Fkp)), (yik, .inl (cZ, 2, .inl Fik))] := hD.sub [0, 1, 2, 3] (by decide) rfl
  refine W.widen (k := 0) (n := 0) (Nat.le_refl _) (Nat.le_refl _) ?_
  have hw : (r_2.toInt = 1 ∧ (0 : Int) ≤ w_1.toInt ∧ w_1.toInt ≤ (1 : Int)) ∨ (r_2.toInt = 0 ∧ (w_1.toInt < (0 : Int) ∨ (1 : Int) < w_1.toInt)) := hw
  have hw_4 := hw
  refine lv_if_ne (tgt := 12) hx hb dX4_again_7 (by decide) (fun c_5 => ?_) (fun c_5 => ?_)
  · have tc_5 := b_ne rfl (show (0 : Int32).toInt = 0 by decide) c_5
    have hn1 : 0 ≤ n.toInt := by omega
    have hn2 : n.toInt ≤ 1 := by omega
    refine lv_aload_n hx hb dX4_again_12 rfl (lv_at hl 0 rfl) ?_
    refine va_get (D := D) (ci := 4) (v := .ref yik) (C := RX4) (T := TX4) (N := 30) hx hb hts iX4 hown hK hP 0 rfl rfl 28 (by decide) (hts (.fieldLink RX4 61 "PunchedTicketModel" "isKept" "[Z") (List.mem_of_getElem? (i := 1) rfl)) (fun _ h9 => h9) rfl dX4_again_13 ?_
    refine lv_iload_n hx hb dX4_again_16 rfl (lv_at hl 1 rfl) ?_
    refine va_zald hx hb hK hP 3 1 rfl rfl (vp_in_iff.mpr ⟨by omega, by omega⟩) dX4_again_17 ?_
    refine lv_topi (fun v_6 ev_6 => ?_)
    refine lv_if_ne (tgt := 24) hx hb dX4_again_18 (by decide) (fun c_7 => ?_) (fun c_7 => ?_)
    · have tc_7 := b_ne rfl (show (0 : Int32).toInt = 0 by decide) c_7
      refine lv_iconst (v := 0) hx hb dX4_again_24 (by decide) ?_
      refine lv_istore_n (lv' := [(2, .int 0), (0, .ref h0), (1, .int n)]) hx hb dX4_again_25 rfl hl (by decide) rfl (fun ls hl => ?_)
      have LOOP_8 : ∀ (fu_8 : Nat) (x2 : Int32) (gn : Nat → Int32) (H : Heap) (locs : List Loc) (ls : Array Slot), (48 - x2.toInt).toNat < fu_8 → (0 ≤ x2.toInt ∧ x2.toInt ≤ 48) → va_P D vwCl [(h0, .inr (4, [.int ype, .int ytk, .ref ywi, .ref yki, .ref yse, .ref yno, .ref yrh, .ref yrw, .ref yrk, .ref yrt, .int yrp, .int yrq, .ref ytx, .int yle, .int yat, .int yfa, .ref yby, .ref ylo, .ref yhi, .int yac, .int ynx, .ref yro, .ref ygl, .int ysn, .ref yso, .ref ysp, .ref ysw, .long ysd, .ref yik, .ref ykp])), (yno, .inl (cI, 96, .inl gn)), (ykp, .inl (cI, 96, .inl Fkp)), (yik, .inl (cZ, 2, .inl Fik))] H → va_D A [(h0, .inr (4, [.int ype, .int ytk, .ref ywi, .ref yki, .ref yse, .ref yno, .ref yrh, .ref yrw, .ref yrk, .ref yrt, .int yrp, .int yrq, .ref ytx, .int yle, .int yat, .int yfa, .ref yby, .ref ylo, .ref yhi, .int yac, .int ynx, .ref yro, .ref ygl, .int ysn, .ref yso, .ref ysp, .ref ysw, .long ysd, .ref yik, .ref ykp])), (yno, .inl (cI, 96, .inl gn)), (ykp, .inl (cI, 96, .inl Fkp)), (yik, .inl (cZ, 2, .inl Fik))] → va_S A s.heap H locs → lv_has ls 3 [(0, .ref h0), (1, .int n), (2, .int x2)] → W p l e R s m args below meth c H locs 0 0 Q (F0 m 26 ls []) := by
        intro fu_8
        induction fu_8 with
        | zero => intro x2 gn H locs ls hmu; exact absurd hmu (Nat.not_lt_zero _)
        | succ fu_8 ih =>
          intro x2 gn H locs ls hmu h_x2 hP hD hS hl
          obtain ⟨h_x2a, h_x2b⟩ := h_x2
          have ih_9 := ih
          clear ih
          refine lv_iload_n hx hb dX4_again_26 rfl (lv_at hl 2 rfl) ?_
          refine lv_bipush (v := 48) hx hb dX4_again_27 (by decide) ?_
          refine lv_icmp_ge (tgt := 55) hx hb dX4_again_29 (by decide) (fun c_10 => ?_) (fun c_10 => ?_)
          · have tc_10 := b_le (show (48 : Int32).toInt = 48 by decide) rfl c_10
            refine lv_aload_n hx hb dX4_again_55 rfl (lv_at hl 0 rfl) ?_
            refine lv_iconst (v := 0) hx hb dX4_again_56 (by decide) ?_
            refine va_put (D := D) (ci := 4) (v := .int 0) (ty := .int) (C := RX4) (T := TX4) (N := 30) hx hb hts iX4 tyX4 tyX4_ok nmX4 hown hK hP hD hS 0 rfl rfl 19 (by decide) (hts (.fieldLink RX4 104 "PunchedTicketModel" "acts" "I") (List.mem_of_getElem? (i := 4) rfl)) (fun _ h9 => h9) rfl (by decide +kernel) rfl rfl (Nat.le_of_ble_eq_true rfl) dX4_again_57 (fun H locs hP hD hS => ?_)
            have hP : va_P D vwCl [(h0, .inr (4, [.int ype, .int ytk, .ref ywi, .ref yki, .ref yse, .ref yno, .ref yrh, .ref yrw, .ref yrk, .ref yrt, .int yrp, .int yrq, .ref ytx, .int yle, .int yat, .int yfa, .ref yby, .ref ylo, .ref yhi, .int 0, .int ynx, .ref yro, .ref ygl, .int ysn, .ref yso, .ref ysp, .ref ysw, .long ysd, .ref yik, .ref ykp])), (yno, .inl (cI, 96, .inl gn)), (ykp, .inl (cI, 96, .inl Fkp)), (yik, .inl (cZ, 2, .inl Fik))] H := hP
            have hD : va_D A [(h0, .inr (4, [.int ype, .int ytk, .ref ywi, .ref yki, .ref yse, .ref yno, .ref yrh, .ref yrw, .ref yrk, .ref yrt, .int yrp, .int yrq, .ref ytx, .int yle, .int yat, .int yfa, .ref yby, .ref ylo, .ref yhi, .int 0, .int ynx, .ref yro, .ref ygl, .int ysn, .ref yso, .ref ysp, .ref ysw, .long ysd, .ref yik, .ref ykp])), (yno, .inl (cI, 96, .inl gn)), (ykp, .inl (cI, 96, .inl Fkp)), (yik, .inl (cZ, 2, .inl Fik))] := hD
            refine lv_aload_n hx hb dX4_again_60 rfl (lv_at hl 0 rfl) ?_
            refine va_get (D := D) (ci := 4) (v := .ref yno) (C := RX4) (T := TX4) (N := 30) hx hb hts iX4 hown hK hP 0 rfl rfl 5 (by decide) (hts (.fieldLink RX4 19 "PunchedTicketModel" "now" "[I") (List.mem_of_getElem? (i := 2) rfl)) (fun _ h9 => h9) rfl dX4_again_61 ?_
            refine lv_iconst (v := 0) hx hb dX4_again_64 (by decide) ?_
            refine va_iald hx hb hK hP 1 0 rfl rfl (vp_in_iff.mpr (by decide)) dX4_again_65 ?_
            refine lv_topi (fun v_11 ev_11 => ?_)
            exact ret_i (post := (fun (r : Int32) (u : Int32 × (Nat → Int32)) => 0 ≤ u.1.toInt ∧ u.1.toInt ≤ 14)) (W1 := (fun u => [(h0, .inr (4, [.int ype, .int ytk, .ref ywi, .ref yki, .ref yse, .ref yno, .ref yrh, .ref yrw, .ref yrk, .ref yrt, .int yrp, .int yrq, .ref ytx, .int yle, .int yat, .int yfa, .ref yby, .ref ylo, .ref yhi, .int u.1, .int ynx, .ref yro, .ref ygl, .int ysn, .ref yso, .ref ysp, .ref ysw, .long ysd, .ref yik, .ref ykp])), (yno, .inl (cI, 96, .inl u.2)), (ykp, .inl (cI, 96, .inl Fkp)), (yik, .inl (cZ, 2, .inl Fik))])) (0, gn) hx hb hr hlocks rfl hQ hK hP hD hS ⟨by decide, by decide⟩ dX4_again_66 (show 0 ≤ (0 : Int) ∧ (0 : Int) ≤ 14 by omega)
          · have tc_10 := b_nle (show (48 : Int32).toInt = 48 by decide) rfl c_10
            refine lv_aload_n hx hb dX4_again_32 rfl (lv_at hl 0 rfl) ?_
            refine va_get (D := D) (ci := 4) (v := .ref yno) (C := RX4) (T := TX4) (N := 30) hx hb hts iX4 hown hK hP 0 rfl rfl 5 (by decide) (hts (.fieldLink RX4 19 "PunchedTicketModel" "now" "[I") (List.mem_of_getElem? (i := 2) rfl)) (fun _ h9 => h9) rfl dX4_again_33 ?_
            refine lv_iload_n hx hb dX4_again_36 rfl (lv_at hl 2 rfl) ?_
            refine lv_aload_n hx hb dX4_again_37 rfl (lv_at hl 0 rfl) ?_
            refine va_get (D := D) (ci := 4) (v := .ref ykp) (C := RX4) (T := TX4) (N := 30) hx hb hts iX4 hown hK hP 0 rfl rfl 29 (by decide) (hts (.fieldLink RX4 65 "PunchedTicketModel" "kept" "[I") (List.mem_of_getElem? (i := 3) rfl)) (fun _ h9 => h9) rfl dX4_again_38 ?_
            refine lv_bipush (v := 48) hx hb dX4_again_41 (by decide) ?_
            refine lv_iload_n hx hb dX4_again_43 rfl (lv_at hl 1 rfl) ?_
            refine lv_imul hx hb dX4_again_44 ?_
            refine lv_topi (fun v_12 ev_12 => ?_)
            have tv_12 : v_12.toInt = (48 : Int) * n.toInt := by rw [ev_12]; exact ti_mul (x := 48) (y := n) (show -2147483648 ≤ (48 : Int) * n.toInt by omega) (show (48 : Int) * n.toInt < 2147483648 by omega)
            refine lv_iload_n hx hb dX4_again_45 rfl (lv_at hl 2 rfl) ?_
            refine lv_iadd hx hb dX4_again_46 ?_
            refine lv_topi (fun v_13 ev_13 => ?_)
            have tv_13 : v_13.toInt = v_12.toInt + x2.toInt := by rw [ev_13]; exact ti_add (x := v_12) (y := x2) (show -2147483648 ≤ v_12.toInt + x2.toInt by omega) (show v_12.toInt + x2.toInt < 2147483648 by omega)
            refine va_iald hx hb hK hP 2 0 rfl rfl (vp_in_iff.mpr ⟨by omega, by omega⟩) dX4_again_47 ?_
            refine lv_topi (fun v_14 ev_14 => ?_)
            refine va_iast hx hb hK hP hD hS 1 0 rfl rfl (vp_in_iff.mpr ⟨by omega, by omega⟩) dX4_again_48 (fun H locs hP hD hS => ?_)
            obtain ⟨f_15, ef_15⟩ : ∃ g : Nat → Int32, upd gn (x2 : Int32).toNatClampNeg v_14 = g := ⟨_, rfl⟩
            rw [ef_15] at hP hD
            have hP : va_P D vwCl [(h0, .inr (4, [.int ype, .int ytk, .ref ywi, .ref yki, .ref yse, .ref yno, .ref yrh, .ref yrw, .ref yrk, .ref yrt, .int yrp, .int yrq, .ref ytx, .int yle, .int yat, .int yfa, .ref yby, .ref ylo, .ref yhi, .int yac, .int ynx, .ref yro, .ref ygl, .int ysn, .ref yso, .ref ysp, .ref ysw, .long ysd, .ref yik, .ref ykp])), (yno, .inl (cI, 96, .inl f_15)), (ykp, .inl (cI, 96, .inl Fkp)), (yik, .inl (cZ, 2, .inl Fik))] H := hP
            have hD : va_D A [(h0, .inr (4, [.int ype, .int ytk, .ref ywi, .ref yki, .ref yse, .ref yno, .ref yrh, .ref yrw, .ref yrk, .ref yrt, .int yrp, .int yrq, .ref ytx, .int yle, .int yat, .int yfa, .ref yby, .ref ylo, .ref yhi, .int yac, .int ynx, .ref yro, .ref ygl, .int ysn, .ref yso, .ref ysp, .ref ysw, .long ysd, .ref yik, .ref ykp])), (yno, .inl (cI, 96, .inl f_15)), (ykp, .inl (cI, 96, .inl Fkp)), (yik, .inl (cZ, 2, .inl Fik))] := hD
            obtain ⟨v_16, ev_16⟩ : ∃ z : Int32, z = x2 + 1 := ⟨_, rfl⟩
            have tv_16 : v_16.toInt = x2.toInt + 1 := by rw [ev_16]; exact ti_add (x := x2) (y := 1) (show -2147483648 ≤ x2.toInt + 1 by omega) (show x2.toInt + 1 < 2147483648 by omega)
            refine lv_iinc (v := v_16) (lv' := [(2, .int v_16), (0, .ref h0), (1, .int n)]) hx hb dX4_again_49 hl (k := 2) rfl (by rw [ev_16]; rfl) (by decide) rfl (fun ls hl => ?_)
            refine lv_goto (tgt := 26) hx hb dX4_again_52 (by decide) ?_
            exact ih_9 v_16 f_15 _ _ _ (show (48 - v_16.toInt).toNat < fu_8 by omega) (show 0 ≤ v_16.toInt ∧ v_16.toInt ≤ 48 by omega) hP hD hS (lv_sub hl [1, 2, 0] rfl)
      exact LOOP_8 _ 0 Fno _ _ _ (Nat.lt_succ_self _) (by decide) hP hD hS (lv_sub hl [1, 2, 0] rfl)
    · have tc_7 := b_eq rfl (show (0 : Int32).toInt = 0 by decide) c_7
      refine lv_bipush (v := (-3)) hx hb dX4_again_21 (by decide) ?_
      exact ret_i (post := (fun (r : Int32) (u : Int32 × (Nat → Int32)) => 0 ≤ u.1.toInt ∧ u.1.toInt ≤ 14)) (W1 := (fun u => [(h0, .inr (4, [.int ype, .int ytk, .ref ywi, .ref yki, .ref yse, .ref yno, .ref yrh, .ref yrw, .ref yrk, .ref yrt, .int yrp, .int yrq, .ref ytx, .int yle, .int yat, .int yfa, .ref yby, .ref ylo, .ref yhi, .int u.1, .int ynx, .ref yro, .ref ygl, .int ysn, .ref yso, .ref ysp, .ref ysw, .long ysd, .ref yik, .ref ykp])), (yno, .inl (cI, 96, .inl u.2)), (ykp, .inl (cI, 96, .inl Fkp)), (yik, .inl (cZ, 2, .inl Fik))])) (yac, Fno) hx hb hr hlocks rfl hQ hK hP hD hS ⟨by decide, by decide⟩ dX4_again_23 (show 0 ≤ yac.toInt ∧ yac.toInt ≤ 14 by omega)
  · have tc_5 := b_eq rfl (show (0 : Int32).toInt = 0 by decide) c_5
    refine lv_iconst (v := (-1)) hx hb dX4_again_10 (by decide) ?_
    exact ret_i (post := (fun (r : Int32) (u : Int32 × (Nat → Int32)) => 0 ≤ u.1.toInt ∧ u.1.toInt ≤ 14)) (W1 := (fun u => [(h0, .inr (4, [.int ype, .int ytk, .ref ywi, .ref yki, .ref yse, .ref yno, .ref yrh, .ref yrw, .ref yrk, .ref yrt, .int yrp, .int yrq, .ref ytx, .int yle, .int yat, .int yfa, .ref yby, .ref ylo, .ref yhi, .int u.1, .int ynx, .ref yro, .ref ygl, .int ysn, .ref yso, .ref ysp, .ref ysw, .long ysd, .ref yik, .ref ykp])), (yno, .inl (cI, 96, .inl u.2)), (ykp, .inl (cI, 96, .inl Fkp)), (yik, .inl (cZ, 2, .inl Fik))])) (yac, Fno) hx hb hr hlocks rfl hQ hK hP hD hS ⟨by decide, by decide⟩ dX4_again_11 (show 0 ≤ yac.toInt ∧ yac.toInt ≤ 14 by omega)

set_option maxHeartbeats 600000 in
set_option maxRecDepth 100000 in
theorem c_X4_count (l : Launch) (D : va_G) (cI cZ cM : ClassId) (h0 : Nat) (n : Int32) (ype : Int32) (ytk : Int32) (ywi : Nat) (yki : Nat) (yse : Nat) (yno : Nat) (yrh : Nat) (yrw : Nat) (yrk : Nat) (yrt : Nat) (yrp : Int32) (yrq : Int32) (ytx : Nat) (yle : Int32) (yat : Int32) (yfa : Int32) (yby : Nat) (ylo : Nat) (yhi : Nat) (yac : Int32) (ynx : Int32) (yro : Nat) (ygl : Nat) (ysn : Int32) (yso : Nat) (ysp : Nat) (ysw : Nat) (ysd : Int64) (yik : Nat) (ykp : Nat) (Fno : Nat → Int32) (Fwi : Nat → Int32) (sz : Nat) (h_ype : 0 ≤ ype.toInt ∧ ype.toInt ≤ 5) (h_ytk : 0 ≤ ytk.toInt ∧ ytk.toInt ≤ 6) : Ci l yX4_count wsX4_count ({ frames := 2, cells := 0, slots := 0, locals := 43 } : Room) D cI cZ cM [.ref h0, .int n] [(h0, .inr (4, [.int ype, .int ytk, .ref ywi, .ref yki, .ref yse, .ref yno, .ref yrh, .ref yrw, .ref yrk, .ref yrt, .int yrp, .int yrq, .ref ytx, .int yle, .int yat, .int yfa, .ref yby, .ref ylo, .ref yhi, .int yac, .int ynx, .ref yro, .ref ygl, .int ysn, .ref yso, .ref ysp, .ref ysw, .long ysd, .ref yik, .ref ykp])), (yno, .inl (cI, 96, .inl Fno)), (ywi, .inl (cI, 5, .inl Fwi))] sz (fun (r : Int32) (u : Unit) => True) (fun u => [(h0, .inr (4, [.int ype, .int ytk, .ref ywi, .ref yki, .ref yse, .ref yno, .ref yrh, .ref yrw, .ref yrk, .ref yrt, .int yrp, .int yrq, .ref ytx, .int yle, .int yat, .int yfa, .ref yby, .ref ylo, .ref yhi, .int yac, .int ynx, .ref yro, .ref ygl, .int ysn, .ref yso, .ref ysp, .ref ysw, .long ysd, .ref yik, .ref ykp])), (yno, .inl (cI, 96, .inl Fno)), (ywi, .inl (cI, 5, .inl Fwi))]) 0 0 := by
  refine begins (l := l) (y := yX4_count) (ws := wsX4_count) (av := [.ref h0, .int n]) (Qc := fun A => va_Qi (fun (r : Int32) (u : Unit) => True) (fun u => Wd D cI cZ cM A ((fun u => [(h0, .inr (4, [.int ype, .int ytk, .ref ywi, .ref yki, .ref yse, .ref yno, .ref yrh, .ref yrw, .ref yrk, .ref yrt, .int yrp, .int yrq, .ref ytx, .int yle, .int yat, .int yfa, .ref yby, .ref ylo, .ref yhi, .int yac, .int ynx, .ref yro, .ref ygl, .int ysn, .ref yso, .ref ysp, .ref ysw, .long ysd, .ref yik, .ref ykp])), (yno, .inl (cI, 96, .inl Fno)), (ywi, .inl (cI, 5, .inl Fwi))]) u)) A) cX4_count 4 (some .int) (by decide) rfl (Nat.le_of_ble_eq_true rfl) ?_
  intro p e s m args below meth c R Q A ls hBd hR hQ hA hS hK hP hD hl
  obtain ⟨hx, hb, hr, hts, hown, hlocks, hin, hml⟩ := hBd
  have hl : lv_has ls 4 [(0, .ref h0), (1, .int n)] := hl
  have iX4 : ∀ w ∈ wsX40, w ∈ wsX4_count := fun _ h => List.mem_cons_of_mem _ (List.mem_append_right _ h)
  obtain ⟨h_ypea, h_ypeb⟩ := h_ype
  obtain ⟨h_ytka, h_ytkb⟩ := h_ytk
  refine lv_iconst (v := 0) hx hb dX4_count_0 (by decide) ?_
  refine lv_istore_n (lv' := [(2, .int 0), (0, .ref h0), (1, .int n)]) hx hb dX4_count_1 rfl hl (by decide) rfl (fun ls hl => ?_)
  refine lv_iconst (v := 0) hx hb dX4_count_2 (by decide) ?_
  refine lv_istore_n (lv' := [(3, .int 0), (2, .int 0), (0, .ref h0), (1, .int n)]) hx hb dX4_count_3 rfl hl (by decide) rfl (fun ls hl => ?_)
  have LOOP_1 : ∀ (fu_1 : Nat) (w2 : Int32) (x3 : Int32) (H : Heap) (locs : List Loc) (ls : Array Slot), (5 - x3.toInt).toNat < fu_1 → (0 ≤ x3.toInt ∧ x3.toInt ≤ 5) → va_P D vwCl [(h0, .inr (4, [.int ype, .int ytk, .ref ywi, .ref yki, .ref yse, .ref yno, .ref yrh, .ref yrw, .ref yrk, .ref yrt, .int yrp, .int yrq, .ref ytx, .int yle, .int yat, .int yfa, .ref yby, .ref ylo, .ref yhi, .int yac, .int ynx, .ref yro, .ref ygl, .int ysn, .ref yso, .ref ysp, .ref ysw, .long ysd, .ref yik, .ref ykp])), (yno, .inl (cI, 96, .inl Fno)), (ywi, .inl (cI, 5, .inl Fwi))] H → va_D A [(h0, .inr (4, [.int ype, .int ytk, .ref ywi, .ref yki, .ref yse, .ref yno, .ref yrh, .ref yrw, .ref yrk, .ref yrt, .int yrp, .int yrq, .ref ytx, .int yle, .int yat, .int yfa, .ref yby, .ref ylo, .ref yhi, .int yac, .int ynx, .ref yro, .ref ygl, .int ysn, .ref yso, .ref ysp, .ref ysw, .long ysd, .ref yik, .ref ykp])), (yno, .inl (cI, 96, .inl Fno)), (ywi, .inl (cI, 5, .inl Fwi))] → va_S A s.heap H locs → lv_has ls 4 [(0, .ref h0), (1, .int n), (2, .int w2), (3, .int x3)] → W p l e R s m args below meth c H locs 0 0 Q (F0 m 4 ls []) := by
    intro fu_1
    induction fu_1 with
    | zero => intro w2 x3 H locs ls hmu; exact absurd hmu (Nat.not_lt_zero _)
    | succ fu_1 ih =>
      intro w2 x3 H locs ls hmu h_x3 hP hD hS hl
      obtain ⟨h_x3a, h_x3b⟩ := h_x3
      have ih_2 := ih
      clear ih
      refine lv_iload_n hx hb dX4_count_4 rfl (lv_at hl 3 rfl) ?_
      refine lv_aload_n hx hb dX4_count_5 rfl (lv_at hl 0 rfl) ?_
      refine va_get (D := D) (ci := 4) (v := .int ype) (C := RX4) (T := TX4) (N := 30) hx hb hts iX4 hown hK hP 0 rfl rfl 0 (by decide) (hts (.fieldLink RX4 68 "PunchedTicketModel" "people" "I") (List.mem_of_getElem? (i := 1) rfl)) (fun _ h9 => h9) rfl dX4_count_6 ?_
      refine lv_icmp_ge (tgt := 43) hx hb dX4_count_9 (by decide) (fun c_3 => ?_) (fun c_3 => ?_)
      · have tc_3 := b_le rfl rfl c_3
        refine lv_iload_n hx hb dX4_count_43 rfl (lv_at hl 1 rfl) ?_
        by_cases c_4 : n.toInt < 0 ∨ 7 < n.toInt
        · refine lv_tableOut (tgt := 131) hx hb dX4_count_44 c_4 (by decide) ?_
          refine lv_bipush (v := (-2)) hx hb dX4_count_131 (by decide) ?_
          exact ret_i (post := (fun (r : Int32) (u : Unit) => True)) (W1 := (fun u => [(h0, .inr (4, [.int ype, .int ytk, .ref ywi, .ref yki, .ref yse, .ref yno, .ref yrh, .ref yrw, .ref yrk, .ref yrt, .int yrp, .int yrq, .ref ytx, .int yle, .int yat, .int yfa, .ref yby, .ref ylo, .ref yhi, .int yac, .int ynx, .ref yro, .ref ygl, .int ysn, .ref yso, .ref ysp, .ref ysw, .long ysd, .ref yik, .ref ykp])), (yno, .inl (cI, 96, .inl Fno)), (ywi, .inl (cI, 5, .inl Fwi))])) () hx hb hr hlocks rfl hQ hK hP hD hS ⟨by decide, by decide⟩ dX4_count_133 trivial
        · rcases (show n.toInt = 0 ∨ n.toInt = 1 ∨ n.toInt = 2 ∨ n.toInt = 3 ∨ n.toInt = 4 ∨ n.toInt = 5 ∨ n.toInt = 6 ∨ n.toInt = 7 by omega) with c_4i | c_4i | c_4i | c_4i | c_4i | c_4i | c_4i | c_4i
          · refine lv_tableIn (tgt := 92) (off := 48) hx hb dX4_count_44 (by omega) (by omega) (by rw [c_4i]; rfl) (by decide) ?_
            refine lv_aload_n hx hb dX4_count_92 rfl (lv_at hl 0 rfl) ?_
            refine va_get (D := D) (ci := 4) (v := .int yle) (C := RX4) (T := TX4) (N := 30) hx hb hts iX4 hown hK hP 0 rfl rfl 13 (by decide) (hts (.fieldLink RX4 78 "PunchedTicketModel" "length" "I") (List.mem_of_getElem? (i := 4) rfl)) (fun _ h9 => h9) rfl dX4_count_93 ?_
            exact ret_i (post := (fun (r : Int32) (u : Unit) => True)) (W1 := (fun u => [(h0, .inr (4, [.int ype, .int ytk, .ref ywi, .ref yki, .ref yse, .ref yno, .ref yrh, .ref yrw, .ref yrk, .ref yrt, .int yrp, .int yrq, .ref ytx, .int yle, .int yat, .int yfa, .ref yby, .ref ylo, .ref yhi, .int yac, .int ynx, .ref yro, .ref ygl, .int ysn, .ref yso, .ref ysp, .ref ysw, .long ysd, .ref yik, .ref ykp])), (yno, .inl (cI, 96, .inl Fno)), (ywi, .inl (cI, 5, .inl Fwi))])) () hx hb hr hlocks rfl hQ hK hP hD hS ⟨by decide, by decide⟩ dX4_count_96 trivial
          · refine lv_tableIn (tgt := 97) (off := 53) hx hb dX4_count_44 (by omega) (by omega) (by rw [c_4i]; rfl) (by decide) ?_
            refine lv_aload_n hx hb dX4_count_97 rfl (lv_at hl 0 rfl) ?_
            refine va_get (D := D) (ci := 4) (v := .int ype) (C := RX4) (T := TX4) (N := 30) hx hb hts iX4 hown hK hP 0 rfl rfl 0 (by decide) (hts (.fieldLink RX4 68 "PunchedTicketModel" "people" "I") (List.mem_of_getElem? (i := 1) rfl)) (fun _ h9 => h9) rfl dX4_count_98 ?_
            exact ret_i (post := (fun (r : Int32) (u : Unit) => True)) (W1 := (fun u => [(h0, .inr (4, [.int ype, .int ytk, .ref ywi, .ref yki, .ref yse, .ref yno, .ref yrh, .ref yrw, .ref yrk, .ref yrt, .int yrp, .int yrq, .ref ytx, .int yle, .int yat, .int yfa, .ref yby, .ref ylo, .ref yhi, .int yac, .int ynx, .ref yro, .ref ygl, .int ysn, .ref yso, .ref ysp, .ref ysw, .long ysd, .ref yik, .ref ykp])), (yno, .inl (cI, 96, .inl Fno)), (ywi, .inl (cI, 5, .inl Fwi))])) () hx hb hr hlocks rfl hQ hK hP hD hS ⟨by decide, by decide⟩ dX4_count_101 trivial
          · refine lv_tableIn (tgt := 102) (off := 58) hx hb dX4_count_44 (by omega) (by omega) (by rw [c_4i]; rfl) (by decide) ?_
            refine lv_aload_n hx hb dX4_count_102 rfl (lv_at hl 0 rfl) ?_
            refine va_get (D := D) (ci := 4) (v := .int ytk) (C := RX4) (T := TX4) (N := 30) hx hb hts iX4 hown hK hP 0 rfl rfl 1 (by decide) (hts (.fieldLink RX4 101 "PunchedTicketModel" "tickets" "I") (List.mem_of_getElem? (i := 5) rfl)) (fun _ h9 => h9) rfl dX4_count_103 ?_
            exact ret_i (post := (fun (r : Int32) (u : Unit) => True)) (W1 := (fun u => [(h0, .inr (4, [.int ype, .int ytk, .ref ywi, .ref yki, .ref yse, .ref yno, .ref yrh, .ref yrw, .ref yrk, .ref yrt, .int yrp, .int yrq, .ref ytx, .int yle, .int yat, .int yfa, .ref yby, .ref ylo, .ref yhi, .int yac, .int ynx, .ref yro, .ref ygl, .int ysn, .ref yso, .ref ysp, .ref ysw, .long ysd, .ref yik, .ref ykp])), (yno, .inl (cI, 96, .inl Fno)), (ywi, .inl (cI, 5, .inl Fwi))])) () hx hb hr hlocks rfl hQ hK hP hD hS ⟨by decide, by decide⟩ dX4_count_106 trivial
          · refine lv_tableIn (tgt := 107) (off := 63) hx hb dX4_count_44 (by omega) (by omega) (by rw [c_4i]; rfl) (by decide) ?_
            refine lv_aload_n hx hb dX4_count_107 rfl (lv_at hl 0 rfl) ?_
            refine va_get (D := D) (ci := 4) (v := .ref yno) (C := RX4) (T := TX4) (N := 30) hx hb hts iX4 hown hK hP 0 rfl rfl 5 (by decide) (hts (.fieldLink RX4 19 "PunchedTicketModel" "now" "[I") (List.mem_of_getElem? (i := 2) rfl)) (fun _ h9 => h9) rfl dX4_count_108 ?_
            refine lv_iconst (v := 0) hx hb dX4_count_111 (by decide) ?_
            refine va_iald hx hb hK hP 1 0 rfl rfl (vp_in_iff.mpr (by decide)) dX4_count_112 ?_
            refine lv_topi (fun v_5 ev_5 => ?_)
            exact ret_i (post := (fun (r : Int32) (u : Unit) => True)) (W1 := (fun u => [(h0, .inr (4, [.int ype, .int ytk, .ref ywi, .ref yki, .ref yse, .ref yno, .ref yrh, .ref yrw, .ref yrk, .ref yrt, .int yrp, .int yrq, .ref ytx, .int yle, .int yat, .int yfa, .ref yby, .ref ylo, .ref yhi, .int yac, .int ynx, .ref yro, .ref ygl, .int ysn, .ref yso, .ref ysp, .ref ysw, .long ysd, .ref yik, .ref ykp])), (yno, .inl (cI, 96, .inl Fno)), (ywi, .inl (cI, 5, .inl Fwi))])) () hx hb hr hlocks rfl hQ hK hP hD hS ⟨by decide, by decide⟩ dX4_count_113 trivial
          · refine lv_tableIn (tgt := 114) (off := 70) hx hb dX4_count_44 (by omega) (by omega) (by rw [c_4i]; rfl) (by decide) ?_
            refine lv_aload_n hx hb dX4_count_114 rfl (lv_at hl 0 rfl) ?_
            refine cV_i (As := []) (rest := []) ⟨hx, hb, hml, hown, hts⟩ (c_X4_goneNow l D cI cZ cM h0 ype ytk ywi yki yse yno yrh yrw yrk yrt yrp yrq ytx yle yat yfa yby ylo yhi yac ynx yro ygl ysn yso ysp ysw ysd yik ykp Fno _ (show 0 ≤ ytk.toInt ∧ ytk.toInt ≤ 6 by omega)) (cwV 0 hts gX4_count_X4_goneNow rfl rfl rfl (by decide +kernel) ⟨by rw [hR]; decide, by rw [hR]; decide⟩) hK hP hD hS hA [0, 1] [2] rfl rfl (by decide) (by decide) (by decide) rfl 0 rfl hl.1 rfl rfl (Nat.le_of_ble_eq_true rfl) dX4_count_115 ⟨by rw [hR]; decide, by rw [hR]; decide⟩ (fun r_6 u_7 H locs hw hP hD hS => ?_)
            have hP : va_P D vwCl [(h0, .inr (4, [.int ype, .int ytk, .ref ywi, .ref yki, .ref yse, .ref yno, .ref yrh, .ref yrw, .ref yrk, .ref yrt, .int yrp, .int yrq, .ref ytx, .int yle, .int yat, .int yfa, .ref yby, .ref ylo, .ref yhi, .int yac, .int ynx, .ref yro, .ref ygl, .int ysn, .ref yso, .ref ysp, .ref ysw, .long ysd, .ref yik, .ref ykp])), (yno, .inl (cI, 96, .inl Fno)), (ywi, .inl (cI, 5, .inl Fwi))] H := hP.sub [1, 2, 0] rfl
            have hD : va_D A [(h0, .inr (4, [.int ype, .int ytk, .ref ywi, .ref yki, .ref yse, .ref yno, .ref yrh, .ref yrw, .ref yrk, .ref yrt, .int yrp, .int yrq, .ref ytx, .int yle, .int yat, .int yfa, .ref yby, .ref ylo, .ref yhi, .int yac, .int ynx, .ref yro, .ref ygl, .int ysn, .ref yso, .ref ysp, .ref ysw, .long ysd, .ref yik, .ref ykp])), (yno, .inl (cI, 96, .inl Fno)), (ywi, .inl (cI, 5, .inl Fwi))] := hD.sub [1, 2, 0] (by decide) rfl
            refine W.widen (k := 0) (n := 0) (Nat.le_refl _) (Nat.le_refl _) ?_
            exact ret_i (post := (fun (r : Int32) (u : Unit) => True)) (W1 := (fun u => [(h0, .inr (4, [.int ype, .int ytk, .ref ywi, .ref yki, .ref yse, .ref yno, .ref yrh, .ref yrw, .ref yrk, .ref yrt, .int yrp, .int yrq, .ref ytx, .int yle, .int yat, .int yfa, .ref yby, .ref ylo, .ref yhi, .int yac, .int ynx, .ref yro, .ref ygl, .int ysn, .ref yso, .ref ysp, .ref ysw, .long ysd, .ref yik, .ref ykp])), (yno, .inl (cI, 96, .inl Fno)), (ywi, .inl (cI, 5, .inl Fwi))])) () hx hb hr hlocks rfl hQ hK hP hD hS ⟨by decide, by decide⟩ dX4_count_118 trivial
          · refine lv_tableIn (tgt := 119) (off := 75) hx hb dX4_count_44 (by omega) (by omega) (by rw [c_4i]; rfl) (by decide) ?_
            refine lv_iload_n hx hb dX4_count_119 rfl (lv_at hl 2 rfl) ?_
            exact ret_i (post := (fun (r : Int32) (u : Unit) => True)) (W1 := (fun u => [(h0, .inr (4, [.int ype, .int ytk, .ref ywi, .ref yki, .ref yse, .ref yno, .ref yrh, .ref yrw, .ref yrk, .ref yrt, .int yrp, .int yrq, .ref ytx, .int yle, .int yat, .int yfa, .ref yby, .ref ylo, .ref yhi, .int yac, .int ynx, .ref yro, .ref ygl, .int ysn, .ref yso, .ref ysp, .ref ysw, .long ysd, .ref yik, .ref ykp])), (yno, .inl (cI, 96, .inl Fno)), (ywi, .inl (cI, 5, .inl Fwi))])) () hx hb hr hlocks rfl hQ hK hP hD hS ⟨by decide, by decide⟩ dX4_count_120 trivial
          · refine lv_tableIn (tgt := 121) (off := 77) hx hb dX4_count_44 (by omega) (by omega) (by rw [c_4i]; rfl) (by decide) ?_
            refine lv_aload_n hx hb dX4_count_121 rfl (lv_at hl 0 rfl) ?_
            refine va_get (D := D) (ci := 4) (v := .int yac) (C := RX4) (T := TX4) (N := 30) hx hb hts iX4 hown hK hP 0 rfl rfl 19 (by decide) (hts (.fieldLink RX4 104 "PunchedTicketModel" "acts" "I") (List.mem_of_getElem? (i := 6) rfl)) (fun _ h9 => h9) rfl dX4_count_122 ?_
            exact ret_i (post := (fun (r : Int32) (u : Unit) => True)) (W1 := (fun u => [(h0, .inr (4, [.int ype, .int ytk, .ref ywi, .ref yki, .ref yse, .ref yno, .ref yrh, .ref yrw, .ref yrk, .ref yrt, .int yrp, .int yrq, .ref ytx, .int yle, .int yat, .int yfa, .ref yby, .ref ylo, .ref yhi, .int yac, .int ynx, .ref yro, .ref ygl, .int ysn, .ref yso, .ref ysp, .ref ysw, .long ysd, .ref yik, .ref ykp])), (yno, .inl (cI, 96, .inl Fno)), (ywi, .inl (cI, 5, .inl Fwi))])) () hx hb hr hlocks rfl hQ hK hP hD hS ⟨by decide, by decide⟩ dX4_count_125 trivial
          · refine lv_tableIn (tgt := 126) (off := 82) hx hb dX4_count_44 (by omega) (by omega) (by rw [c_4i]; rfl) (by decide) ?_
            refine lv_aload_n hx hb dX4_count_126 rfl (lv_at hl 0 rfl) ?_
            refine va_get (D := D) (ci := 4) (v := .int ysn) (C := RX4) (T := TX4) (N := 30) hx hb hts iX4 hown hK hP 0 rfl rfl 23 (by decide) (hts (.fieldLink RX4 199 "PunchedTicketModel" "seen" "I") (List.mem_of_getElem? (i := 7) rfl)) (fun _ h9 => h9) rfl dX4_count_127 ?_
            exact ret_i (post := (fun (r : Int32) (u : Unit) => True)) (W1 := (fun u => [(h0, .inr (4, [.int ype, .int ytk, .ref ywi, .ref yki, .ref yse, .ref yno, .ref yrh, .ref yrw, .ref yrk, .ref yrt, .int yrp, .int yrq, .ref ytx, .int yle, .int yat, .int yfa, .ref yby, .ref ylo, .ref yhi, .int yac, .int ynx, .ref yro, .ref ygl, .int ysn, .ref yso, .ref ysp, .ref ysw, .long ysd, .ref yik, .ref ykp])), (yno, .inl (cI, 96, .inl Fno)), (ywi, .inl (cI, 5, .inl Fwi))])) () hx hb hr hlocks rfl hQ hK hP hD hS ⟨by decide, by decide⟩ dX4_count_130 trivial
      · have tc_3 := b_nle rfl rfl c_3
        refine lv_iload_n hx hb dX4_count_12 rfl (lv_at hl 2 rfl) ?_
        refine lv_aload_n hx hb dX4_count_13 rfl (lv_at hl 0 rfl) ?_
        refine va_get (D := D) (ci := 4) (v := .ref yno) (C := RX4) (T := TX4) (N := 30) hx hb hts iX4 hown hK hP 0 rfl rfl 5 (by decide) (hts (.fieldLink RX4 19 "PunchedTicketModel" "now" "[I") (List.mem_of_getElem? (i := 2) rfl)) (fun _ h9 => h9) rfl dX4_count_14 ?_
        refine lv_iconst (v := 1) hx hb dX4_count_17 (by decide) ?_
        refine lv_iload_n hx hb dX4_count_18 rfl (lv_at hl 3 rfl) ?_
        refine lv_iadd hx hb dX4_count_19 ?_
        refine lv_topi (fun v_8 ev_8 => ?_)
        have tv_8 : v_8.toInt = (1 : Int) + x3.toInt := by rw [ev_8]; exact ti_add (x := 1) (y := x3) (show -2147483648 ≤ (1 : Int) + x3.toInt by omega) (show (1 : Int) + x3.toInt < 2147483648 by omega)
        refine va_iald hx hb hK hP 1 0 rfl rfl (vp_in_iff.mpr ⟨by omega, by omega⟩) dX4_count_20 ?_
        refine lv_topi (fun v_9 ev_9 => ?_)
        refine lv_aload_n hx hb dX4_count_21 rfl (lv_at hl 0 rfl) ?_
        refine va_get (D := D) (ci := 4) (v := .ref ywi) (C := RX4) (T := TX4) (N := 30) hx hb hts iX4 hown hK hP 0 rfl rfl 2 (by decide) (hts (.fieldLink RX4 7 "PunchedTicketModel" "wish" "[I") (List.mem_of_getElem? (i := 3) rfl)) (fun _ h9 => h9) rfl dX4_count_22 ?_
        refine lv_iload_n hx hb dX4_count_25 rfl (lv_at hl 3 rfl) ?_
        refine va_iald hx hb hK hP 2 0 rfl rfl (vp_in_iff.mpr ⟨by omega, by omega⟩) dX4_count_26 ?_
        refine lv_topi (fun v_10 ev_10 => ?_)
        refine lv_icmp_ne (tgt := 34) hx hb dX4_count_27 (by decide) (fun c_11 => ?_) (fun c_11 => ?_)
        · have tc_11 := b_ne rfl rfl c_11
          refine lv_iconst (v := 0) hx hb dX4_count_34 (by decide) ?_
          refine lv_iadd hx hb dX4_count_35 ?_
          refine lv_topi (fun v_12 ev_12 => ?_)
          have bdv_12w2 := ti_bd w2
          have tv_12 : v_12.toInt = w2.toInt + (0 : Int) := by rw [ev_12]; exact ti_add (x := w2) (y := 0) (show -2147483648 ≤ w2.toInt + (0 : Int) by omega) (show w2.toInt + (0 : Int) < 2147483648 by omega)
          refine lv_istore_n (lv' := [(2, .int v_12), (0, .ref h0), (1, .int n), (3, .int x3)]) hx hb dX4_count_36 rfl hl (by decide) rfl (fun ls hl => ?_)
          obtain ⟨v_13, ev_13⟩ : ∃ z : Int32, z = x3 + 1 := ⟨_, rfl⟩
          have tv_13 : v_13.toInt = x3.toInt + 1 := by rw [ev_13]; exact ti_add (x := x3) (y := 1) (show -2147483648 ≤ x3.toInt + 1 by omega) (show x3.toInt + 1 < 2147483648 by omega)
          refine lv_iinc (v := v_13) (lv' := [(3, .int v_13), (2, .int v_12), (0, .ref h0), (1, .int n)]) hx hb dX4_count_37 hl (k := 3) rfl (by rw [ev_13]; rfl) (by decide) rfl (fun ls hl => ?_)
          refine lv_goto (tgt := 4) hx hb dX4_count_40 (by decide) ?_
          exact ih_2 v_12 v_13 _ _ _ (show (5 - v_13.toInt).toNat < fu_1 by omega) (show 0 ≤ v_13.toInt ∧ v_13.toInt ≤ 5 by omega) hP hD hS (lv_sub hl [2, 3, 1, 0] rfl)
        · have tc_11 := b_eq rfl rfl c_11
          refine lv_iconst (v := 1) hx hb dX4_count_30 (by decide) ?_
          refine lv_goto (tgt := 35) hx hb dX4_count_31 (by decide) ?_
          refine lv_iadd hx hb dX4_count_35 ?_
          refine lv_topi (fun v_14 ev_14 => ?_)
          refine lv_istore_n (lv' := [(2, .int v_14), (0, .ref h0), (1, .int n), (3, .int x3)]) hx hb dX4_count_36 rfl hl (by decide) rfl (fun ls hl => ?_)
          obtain ⟨v_15, ev_15⟩ : ∃ z : Int32, z = x3 + 1 := ⟨_, rfl⟩
          have tv_15 : v_15.toInt = x3.toInt + 1 := by rw [ev_15]; exact ti_add (x := x3) (y := 1) (show -2147483648 ≤ x3.toInt + 1 by omega) (show x3.toInt + 1 < 2147483648 by omega)
          refine lv_iinc (v := v_15) (lv' := [(3, .int v_15), (2, .int v_14), (0, .ref h0), (1, .int n)]) hx hb dX4_count_37 hl (k := 3) rfl (by rw [ev_15]; rfl) (by decide) rfl (fun ls hl => ?_)
          refine lv_goto (tgt := 4) hx hb dX4_count_40 (by decide) ?_
          exact ih_2 v_14 v_15 _ _ _ (show (5 - v_15.toInt).toNat < fu_1 by omega) (show 0 ≤ v_15.toInt ∧ v_15.toInt ≤ 5 by omega) hP hD hS (lv_sub hl [2, 3, 1, 0] rfl)
  exact LOOP_1 _ 0 0 _ _ _ (Nat.lt_succ_self _) (by decide) hP hD hS (lv_sub hl [2, 3, 1, 0] rfl)

set_option maxHeartbeats 600000 in
set_option maxRecDepth 100000 in
theorem c_X4_person (l : Launch) (D : va_G) (cI cZ cM : ClassId) (h0 : Nat) (n : Int32) (k : Int32) (ype : Int32) (ytk : Int32) (ywi : Nat) (yki : Nat) (yse : Nat) (yno : Nat) (yrh : Nat) (yrw : Nat) (yrk : Nat) (yrt : Nat) (yrp : Int32) (yrq : Int32) (ytx : Nat) (yle : Int32) (yat : Int32) (yfa : Int32) (yby : Nat) (ylo : Nat) (yhi : Nat) (yac : Int32) (ynx : Int32) (yro : Nat) (ygl : Nat) (ysn : Int32) (yso : Nat) (ysp : Nat) (ysw : Nat) (ysd : Int64) (yik : Nat) (ykp : Nat) (Fno : Nat → Int32) (Fwi : Nat → Int32) (Fki : Nat → Int32) (sz : Nat) (h_ype : 0 ≤ ype.toInt ∧ ype.toInt ≤ 5) (h_ytk : 0 ≤ ytk.toInt ∧ ytk.toInt ≤ 6) : Ci l yX4_person wsX4_person ({ frames := 2, cells := 0, slots := 0, locals := 46 } : Room) D cI cZ cM [.ref h0, .int n, .int k] [(h0, .inr (4, [.int ype, .int ytk, .ref ywi, .ref yki, .ref yse, .ref yno, .ref yrh, .ref yrw, .ref yrk, .ref yrt, .int yrp, .int yrq, .ref ytx, .int yle, .int yat, .int yfa, .ref yby, .ref ylo, .ref yhi, .int yac, .int ynx, .ref yro, .ref ygl, .int ysn, .ref yso, .ref ysp, .ref ysw, .long ysd, .ref yik, .ref ykp])), (yno, .inl (cI, 96, .inl Fno)), (ywi, .inl (cI, 5, .inl Fwi)), (yki, .inl (cI, 5, .inl Fki))] sz (fun (r : Int32) (u : Unit) => True) (fun u => [(h0, .inr (4, [.int ype, .int ytk, .ref ywi, .ref yki, .ref yse, .ref yno, .ref yrh, .ref yrw, .ref yrk, .ref yrt, .int yrp, .int yrq, .ref ytx, .int yle, .int yat, .int yfa, .ref yby, .ref ylo, .ref yhi, .int yac, .int ynx, .ref yro, .ref ygl, .int ysn, .ref yso, .ref ysp, .ref ysw, .long ysd, .ref yik, .ref ykp])), (yno, .inl (cI, 96, .inl Fno)), (ywi, .inl (cI, 5, .inl Fwi)), (yki, .inl (cI, 5, .inl Fki))]) 0 0 := by
  refine begins (l := l) (y := yX4_person) (ws := wsX4_person) (av := [.ref h0, .int n, .int k]) (Qc := fun A => va_Qi (fun (r : Int32) (u : Unit) => True) (fun u => Wd D cI cZ cM A ((fun u => [(h0, .inr (4, [.int ype, .int ytk, .ref ywi, .ref yki, .ref yse, .ref yno, .ref yrh, .ref yrw, .ref yrk, .ref yrt, .int yrp, .int yrq, .ref ytx, .int yle, .int yat, .int yfa, .ref yby, .ref ylo, .ref yhi, .int yac, .int ynx, .ref yro, .ref ygl, .int ysn, .ref yso, .ref ysp, .ref ysw, .long ysd, .ref yik, .ref ykp])), (yno, .inl (cI, 96, .inl Fno)), (ywi, .inl (cI, 5, .inl Fwi)), (yki, .inl (cI, 5, .inl Fki))]) u)) A) cX4_person 5 (some .int) (by decide) rfl (Nat.le_of_ble_eq_true rfl) ?_
  intro p e s m args below meth c R Q A ls hBd hR hQ hA hS hK hP hD hl
  obtain ⟨hx, hb, hr, hts, hown, hlocks, hin, hml⟩ := hBd
  have hl : lv_has ls 5 [(0, .ref h0), (1, .int n), (2, .int k)] := hl
  have iX4 : ∀ w ∈ wsX40, w ∈ wsX4_person := fun _ h => List.mem_cons_of_mem _ (List.mem_append_right _ h)
  obtain ⟨h_ypea, h_ypeb⟩ := h_ype
  obtain ⟨h_ytka, h_ytkb⟩ := h_ytk
  refine lv_aload_n hx hb dX4_person_0 rfl (lv_at hl 0 rfl) ?_
  refine lv_iload_n hx hb dX4_person_1 rfl (lv_at hl 1 rfl) ?_
  refine cV_i (As := [.int n]) (rest := []) ⟨hx, hb, hml, hown, hts⟩ (c_X4_isPerson l D cI cZ cM h0 n ype ytk ywi yki yse yno yrh yrw yrk yrt yrp yrq ytx yle yat yfa yby ylo yhi yac ynx yro ygl ysn yso ysp ysw ysd yik ykp _ (show 0 ≤ ype.toInt ∧ ype.toInt ≤ 6 by omega)) (cwV 1 hts gX4_person_X4_isPerson rfl rfl rfl (by decide +kernel) ⟨by rw [hR]; decide, by rw [hR]; decide⟩) hK hP hD hS hA [0] [1, 2, 3] rfl rfl (by decide) (by decide) (by decide) rfl 0 rfl hl.1 rfl rfl (Nat.le_of_ble_eq_true rfl) dX4_person_2 ⟨by rw [hR]; decide, by rw [hR]; decide⟩ (fun r_1 u_2 H locs hw hP hD hS => ?_)
  have hP : va_P D vwCl [(h0, .inr (4, [.int ype, .int ytk, .ref ywi, .ref yki, .ref yse, .ref yno, .ref yrh, .ref yrw, .ref yrk, .ref yrt, .int yrp, .int yrq, .ref ytx, .int yle, .int yat, .int yfa, .ref yby, .ref ylo, .ref yhi, .int yac, .int ynx, .ref yro, .ref ygl, .int ysn, .ref yso, .ref ysp, .ref ysw, .long ysd, .ref yik, .ref ykp])), (yno, .inl (cI, 96, .inl Fno)), (ywi, .inl (cI, 5, .inl Fwi)), (yki, .inl (cI, 5, .inl Fki))] H := hP.sub [3, 0, 1, 2] rfl
  have hD : va_D A [(h0, .inr (4, [.int ype, .int ytk, .ref ywi, .ref yki, .ref yse, .ref yno, .ref yrh, .ref yrw, .ref yrk, .ref yrt, .int yrp, .int yrq, .ref ytx, .int yle, .int yat, .int yfa, .ref yby, .ref ylo, .ref yhi, .int yac, .int ynx, .ref yro, .ref ygl, .int ysn, .ref yso, .ref ysp, .ref ysw, .long ysd, .ref yik, .ref ykp])), (yno, .inl (cI, 96, .inl Fno)), (ywi, .inl (cI, 5, .inl Fwi)), (yki, .inl (cI, 5, .inl Fki))] := hD.sub [3, 0, 1, 2] (by decide) rfl
  refine W.widen (k := 0) (n := 0) (Nat.le_refl _) (Nat.le_refl _) ?_
  have hw : (r_1.toInt = 1 ∧ 0 ≤ n.toInt ∧ n.toInt < ype.toInt) ∨ (r_1.toInt = 0 ∧ (n.toInt < 0 ∨ ype.toInt ≤ n.toInt)) := hw
  have hw_3 := hw
  refine lv_if_ne (tgt := 10) hx hb dX4_person_5 (by decide) (fun c_4 => ?_) (fun c_4 => ?_)
  · have tc_4 := b_ne rfl (show (0 : Int32).toInt = 0 by decide) c_4
    have hn1 : 0 ≤ n.toInt := by omega
    have hn2 : n.toInt ≤ 4 := by omega
    refine lv_iconst (v := 0) hx hb dX4_person_10 (by decide) ?_
    refine lv_istore_n (lv' := [(3, .int 0), (0, .ref h0), (1, .int n), (2, .int k)]) hx hb dX4_person_11 rfl hl (by decide) rfl (fun ls hl => ?_)
    refine lv_iconst (v := 0) hx hb dX4_person_12 (by decide) ?_
    refine lv_istore (lv' := [(4, .int 0), (3, .int 0), (0, .ref h0), (1, .int n), (2, .int k)]) hx hb dX4_person_13 hl (by decide) rfl (fun ls hl => ?_)
    have LOOP_5 : ∀ (fu_5 : Nat) (w3 : Int32) (x4 : Int32) (H : Heap) (locs : List Loc) (ls : Array Slot), (6 - x4.toInt).toNat < fu_5 → (0 ≤ x4.toInt ∧ x4.toInt ≤ 6) → va_P D vwCl [(h0, .inr (4, [.int ype, .int ytk, .ref ywi, .ref yki, .ref yse, .ref yno, .ref yrh, .ref yrw, .ref yrk, .ref yrt, .int yrp, .int yrq, .ref ytx, .int yle, .int yat, .int yfa, .ref yby, .ref ylo, .ref yhi, .int yac, .int ynx, .ref yro, .ref ygl, .int ysn, .ref yso, .ref ysp, .ref ysw, .long ysd, .ref yik, .ref ykp])), (yno, .inl (cI, 96, .inl Fno)), (ywi, .inl (cI, 5, .inl Fwi)), (yki, .inl (cI, 5, .inl Fki))] H → va_D A [(h0, .inr (4, [.int ype, .int ytk, .ref ywi, .ref yki, .ref yse, .ref yno, .ref yrh, .ref yrw, .ref yrk, .ref yrt, .int yrp, .int yrq, .ref ytx, .int yle, .int yat, .int yfa, .ref yby, .ref ylo, .ref yhi, .int yac, .int ynx, .ref yro, .ref ygl, .int ysn, .ref yso, .ref ysp, .ref ysw, .long ysd, .ref yik, .ref ykp])), (yno, .inl (cI, 96, .inl Fno)), (ywi, .inl (cI, 5, .inl Fwi)), (yki, .inl (cI, 5, .inl Fki))] → va_S A s.heap H locs → lv_has ls 5 [(0, .ref h0), (1, .int n), (2, .int k), (3, .int w3), (4, .int x4)] → W p l e R s m args below meth c H locs 0 0 Q (F0 m 15 ls []) := by
      intro fu_5
      induction fu_5 with
      | zero => intro w3 x4 H locs ls hmu; exact absurd hmu (Nat.not_lt_zero _)
      | succ fu_5 ih =>
        intro w3 x4 H locs ls hmu h_x4 hP hD hS hl
        obtain ⟨h_x4a, h_x4b⟩ := h_x4
        have ih_6 := ih
        clear ih
        refine lv_iload hx hb dX4_person_15 (lv_at hl 4 rfl) ?_
        refine lv_aload_n hx hb dX4_person_17 rfl (lv_at hl 0 rfl) ?_
        refine va_get (D := D) (ci := 4) (v := .int ytk) (C := RX4) (T := TX4) (N := 30) hx hb hts iX4 hown hK hP 0 rfl rfl 1 (by decide) (hts (.fieldLink RX4 101 "PunchedTicketModel" "tickets" "I") (List.mem_of_getElem? (i := 1) rfl)) (fun _ h9 => h9) rfl dX4_person_18 ?_
        refine lv_icmp_ge (tgt := 60) hx hb dX4_person_21 (by decide) (fun c_7 => ?_) (fun c_7 => ?_)
        · have tc_7 := b_le rfl rfl c_7
          refine lv_iload_n hx hb dX4_person_60 rfl (lv_at hl 2 rfl) ?_
          by_cases c_8 : k.toInt < 0 ∨ 4 < k.toInt
          · refine lv_tableOut (tgt := 132) hx hb dX4_person_61 c_8 (by decide) ?_
            refine lv_bipush (v := (-2)) hx hb dX4_person_132 (by decide) ?_
            exact ret_i (post := (fun (r : Int32) (u : Unit) => True)) (W1 := (fun u => [(h0, .inr (4, [.int ype, .int ytk, .ref ywi, .ref yki, .ref yse, .ref yno, .ref yrh, .ref yrw, .ref yrk, .ref yrt, .int yrp, .int yrq, .ref ytx, .int yle, .int yat, .int yfa, .ref yby, .ref ylo, .ref yhi, .int yac, .int ynx, .ref yro, .ref ygl, .int ysn, .ref yso, .ref ysp, .ref ysw, .long ysd, .ref yik, .ref ykp])), (yno, .inl (cI, 96, .inl Fno)), (ywi, .inl (cI, 5, .inl Fwi)), (yki, .inl (cI, 5, .inl Fki))])) () hx hb hr hlocks rfl hQ hK hP hD hS ⟨by decide, by decide⟩ dX4_person_134 trivial
          · rcases (show k.toInt = 0 ∨ k.toInt = 1 ∨ k.toInt = 2 ∨ k.toInt = 3 ∨ k.toInt = 4 by omega) with c_8i | c_8i | c_8i | c_8i | c_8i
            · refine lv_tableIn (tgt := 96) (off := 35) hx hb dX4_person_61 (by omega) (by omega) (by rw [c_8i]; rfl) (by decide) ?_
              refine lv_aload_n hx hb dX4_person_96 rfl (lv_at hl 0 rfl) ?_
              refine va_get (D := D) (ci := 4) (v := .ref yno) (C := RX4) (T := TX4) (N := 30) hx hb hts iX4 hown hK hP 0 rfl rfl 5 (by decide) (hts (.fieldLink RX4 19 "PunchedTicketModel" "now" "[I") (List.mem_of_getElem? (i := 2) rfl)) (fun _ h9 => h9) rfl dX4_person_97 ?_
              refine lv_iconst (v := 1) hx hb dX4_person_100 (by decide) ?_
              refine lv_iload_n hx hb dX4_person_101 rfl (lv_at hl 1 rfl) ?_
              refine lv_iadd hx hb dX4_person_102 ?_
              refine lv_topi (fun v_9 ev_9 => ?_)
              have tv_9 : v_9.toInt = (1 : Int) + n.toInt := by rw [ev_9]; exact ti_add (x := 1) (y := n) (show -2147483648 ≤ (1 : Int) + n.toInt by omega) (show (1 : Int) + n.toInt < 2147483648 by omega)
              refine va_iald hx hb hK hP 1 0 rfl rfl (vp_in_iff.mpr ⟨by omega, by omega⟩) dX4_person_103 ?_
              refine lv_topi (fun v_10 ev_10 => ?_)
              exact ret_i (post := (fun (r : Int32) (u : Unit) => True)) (W1 := (fun u => [(h0, .inr (4, [.int ype, .int ytk, .ref ywi, .ref yki, .ref yse, .ref yno, .ref yrh, .ref yrw, .ref yrk, .ref yrt, .int yrp, .int yrq, .ref ytx, .int yle, .int yat, .int yfa, .ref yby, .ref ylo, .ref yhi, .int yac, .int ynx, .ref yro, .ref ygl, .int ysn, .ref yso, .ref ysp, .ref ysw, .long ysd, .ref yik, .ref ykp])), (yno, .inl (cI, 96, .inl Fno)), (ywi, .inl (cI, 5, .inl Fwi)), (yki, .inl (cI, 5, .inl Fki))])) () hx hb hr hlocks rfl hQ hK hP hD hS ⟨by decide, by decide⟩ dX4_person_104 trivial
            · refine lv_tableIn (tgt := 105) (off := 44) hx hb dX4_person_61 (by omega) (by omega) (by rw [c_8i]; rfl) (by decide) ?_
              refine lv_aload_n hx hb dX4_person_105 rfl (lv_at hl 0 rfl) ?_
              refine va_get (D := D) (ci := 4) (v := .ref ywi) (C := RX4) (T := TX4) (N := 30) hx hb hts iX4 hown hK hP 0 rfl rfl 2 (by decide) (hts (.fieldLink RX4 7 "PunchedTicketModel" "wish" "[I") (List.mem_of_getElem? (i := 3) rfl)) (fun _ h9 => h9) rfl dX4_person_106 ?_
              refine lv_iload_n hx hb dX4_person_109 rfl (lv_at hl 1 rfl) ?_
              refine va_iald hx hb hK hP 2 0 rfl rfl (vp_in_iff.mpr ⟨by omega, by omega⟩) dX4_person_110 ?_
              refine lv_topi (fun v_11 ev_11 => ?_)
              exact ret_i (post := (fun (r : Int32) (u : Unit) => True)) (W1 := (fun u => [(h0, .inr (4, [.int ype, .int ytk, .ref ywi, .ref yki, .ref yse, .ref yno, .ref yrh, .ref yrw, .ref yrk, .ref yrt, .int yrp, .int yrq, .ref ytx, .int yle, .int yat, .int yfa, .ref yby, .ref ylo, .ref yhi, .int yac, .int ynx, .ref yro, .ref ygl, .int ysn, .ref yso, .ref ysp, .ref ysw, .long ysd, .ref yik, .ref ykp])), (yno, .inl (cI, 96, .inl Fno)), (ywi, .inl (cI, 5, .inl Fwi)), (yki, .inl (cI, 5, .inl Fki))])) () hx hb hr hlocks rfl hQ hK hP hD hS ⟨by decide, by decide⟩ dX4_person_111 trivial
            · refine lv_tableIn (tgt := 112) (off := 51) hx hb dX4_person_61 (by omega) (by omega) (by rw [c_8i]; rfl) (by decide) ?_
              refine lv_aload_n hx hb dX4_person_112 rfl (lv_at hl 0 rfl) ?_
              refine va_get (D := D) (ci := 4) (v := .ref yki) (C := RX4) (T := TX4) (N := 30) hx hb hts iX4 hown hK hP 0 rfl rfl 3 (by decide) (hts (.fieldLink RX4 13 "PunchedTicketModel" "kind" "[I") (List.mem_of_getElem? (i := 4) rfl)) (fun _ h9 => h9) rfl dX4_person_113 ?_
              refine lv_iload_n hx hb dX4_person_116 rfl (lv_at hl 1 rfl) ?_
              refine va_iald hx hb hK hP 3 0 rfl rfl (vp_in_iff.mpr ⟨by omega, by omega⟩) dX4_person_117 ?_
              refine lv_topi (fun v_12 ev_12 => ?_)
              exact ret_i (post := (fun (r : Int32) (u : Unit) => True)) (W1 := (fun u => [(h0, .inr (4, [.int ype, .int ytk, .ref ywi, .ref yki, .ref yse, .ref yno, .ref yrh, .ref yrw, .ref yrk, .ref yrt, .int yrp, .int yrq, .ref ytx, .int yle, .int yat, .int yfa, .ref yby, .ref ylo, .ref yhi, .int yac, .int ynx, .ref yro, .ref ygl, .int ysn, .ref yso, .ref ysp, .ref ysw, .long ysd, .ref yik, .ref ykp])), (yno, .inl (cI, 96, .inl Fno)), (ywi, .inl (cI, 5, .inl Fwi)), (yki, .inl (cI, 5, .inl Fki))])) () hx hb hr hlocks rfl hQ hK hP hD hS ⟨by decide, by decide⟩ dX4_person_118 trivial
            · refine lv_tableIn (tgt := 119) (off := 58) hx hb dX4_person_61 (by omega) (by omega) (by rw [c_8i]; rfl) (by decide) ?_
              refine lv_iload_n hx hb dX4_person_119 rfl (lv_at hl 3 rfl) ?_
              exact ret_i (post := (fun (r : Int32) (u : Unit) => True)) (W1 := (fun u => [(h0, .inr (4, [.int ype, .int ytk, .ref ywi, .ref yki, .ref yse, .ref yno, .ref yrh, .ref yrw, .ref yrk, .ref yrt, .int yrp, .int yrq, .ref ytx, .int yle, .int yat, .int yfa, .ref yby, .ref ylo, .ref yhi, .int yac, .int ynx, .ref yro, .ref ygl, .int ysn, .ref yso, .ref ysp, .ref ysw, .long ysd, .ref yik, .ref ykp])), (yno, .inl (cI, 96, .inl Fno)), (ywi, .inl (cI, 5, .inl Fwi)), (yki, .inl (cI, 5, .inl Fki))])) () hx hb hr hlocks rfl hQ hK hP hD hS ⟨by decide, by decide⟩ dX4_person_120 trivial
            · refine lv_tableIn (tgt := 121) (off := 60) hx hb dX4_person_61 (by omega) (by omega) (by rw [c_8i]; rfl) (by decide) ?_
              refine lv_aload_n hx hb dX4_person_121 rfl (lv_at hl 0 rfl) ?_
              refine lv_iconst (v := 0) hx hb dX4_person_122 (by decide) ?_
              refine lv_iload_n hx hb dX4_person_123 rfl (lv_at hl 1 rfl) ?_
              refine lv_aload_n hx hb dX4_person_124 rfl (lv_at hl 0 rfl) ?_
              refine va_get (D := D) (ci := 4) (v := .int ytk) (C := RX4) (T := TX4) (N := 30) hx hb hts iX4 hown hK hP 0 rfl rfl 1 (by decide) (hts (.fieldLink RX4 101 "PunchedTicketModel" "tickets" "I") (List.mem_of_getElem? (i := 1) rfl)) (fun _ h9 => h9) rfl dX4_person_125 ?_
              refine cV_i (As := [.int 0, .int n, .int ytk]) (rest := []) ⟨hx, hb, hml, hown, hts⟩ (c_X4_goesBy l D cI cZ cM h0 0 n ytk ype ytk ywi yki yse yno yrh yrw yrk yrt yrp yrq ytx yle yat yfa yby ylo yhi yac ynx yro ygl ysn yso ysp ysw ysd yik ykp Fno Fki _ (by decide) (show 0 ≤ n.toInt ∧ n.toInt ≤ 4 by omega) (show 0 ≤ ytk.toInt ∧ ytk.toInt ≤ 7 by omega)) (cwV 3 hts gX4_person_X4_goesBy rfl rfl rfl (by decide +kernel) ⟨by rw [hR]; decide, by rw [hR]; decide⟩) hK hP hD hS hA [0, 1, 3] [2] rfl rfl (by decide) (by decide) (by decide) rfl 0 rfl hl.1 rfl rfl (Nat.le_of_ble_eq_true rfl) dX4_person_128 ⟨by rw [hR]; decide, by rw [hR]; decide⟩ (fun r_13 u_14 H locs hw hP hD hS => ?_)
              have hP : va_P D vwCl [(h0, .inr (4, [.int ype, .int ytk, .ref ywi, .ref yki, .ref yse, .ref yno, .ref yrh, .ref yrw, .ref yrk, .ref yrt, .int yrp, .int yrq, .ref ytx, .int yle, .int yat, .int yfa, .ref yby, .ref ylo, .ref yhi, .int yac, .int ynx, .ref yro, .ref ygl, .int ysn, .ref yso, .ref ysp, .ref ysw, .long ysd, .ref yik, .ref ykp])), (yno, .inl (cI, 96, .inl Fno)), (ywi, .inl (cI, 5, .inl Fwi)), (yki, .inl (cI, 5, .inl Fki))] H := hP.sub [1, 2, 0, 3] rfl
              have hD : va_D A [(h0, .inr (4, [.int ype, .int ytk, .ref ywi, .ref yki, .ref yse, .ref yno, .ref yrh, .ref yrw, .ref yrk, .ref yrt, .int yrp, .int yrq, .ref ytx, .int yle, .int yat, .int yfa, .ref yby, .ref ylo, .ref yhi, .int yac, .int ynx, .ref yro, .ref ygl, .int ysn, .ref yso, .ref ysp, .ref ysw, .long ysd, .ref yik, .ref ykp])), (yno, .inl (cI, 96, .inl Fno)), (ywi, .inl (cI, 5, .inl Fwi)), (yki, .inl (cI, 5, .inl Fki))] := hD.sub [1, 2, 0, 3] (by decide) rfl
              refine W.widen (k := 0) (n := 0) (Nat.le_refl _) (Nat.le_refl _) ?_
              have hw : r_13.toInt = -9 ∨ (0 ≤ r_13.toInt ∧ r_13.toInt ≤ 6) := hw
              have hw_15 := hw
              exact ret_i (post := (fun (r : Int32) (u : Unit) => True)) (W1 := (fun u => [(h0, .inr (4, [.int ype, .int ytk, .ref ywi, .ref yki, .ref yse, .ref yno, .ref yrh, .ref yrw, .ref yrk, .ref yrt, .int yrp, .int yrq, .ref ytx, .int yle, .int yat, .int yfa, .ref yby, .ref ylo, .ref yhi, .int yac, .int ynx, .ref yro, .ref ygl, .int ysn, .ref yso, .ref ysp, .ref ysw, .long ysd, .ref yik, .ref ykp])), (yno, .inl (cI, 96, .inl Fno)), (ywi, .inl (cI, 5, .inl Fwi)), (yki, .inl (cI, 5, .inl Fki))])) () hx hb hr hlocks rfl hQ hK hP hD hS ⟨by decide, by decide⟩ dX4_person_131 trivial
        · have tc_7 := b_nle rfl rfl c_7
          refine lv_iload_n hx hb dX4_person_24 rfl (lv_at hl 3 rfl) ?_
          refine lv_aload_n hx hb dX4_person_25 rfl (lv_at hl 0 rfl) ?_
          refine lv_iload hx hb dX4_person_26 (lv_at hl 4 rfl) ?_
          refine cV_i (As := [.int x4]) (rest := [.int w3]) ⟨hx, hb, hml, hown, hts⟩ (c_X4_isGone l D cI cZ cM h0 x4 ype ytk ywi yki yse yno yrh yrw yrk yrt yrp yrq ytx yle yat yfa yby ylo yhi yac ynx yro ygl ysn yso ysp ysw ysd yik ykp Fno _ (show 0 ≤ x4.toInt ∧ x4.toInt ≤ 6 by omega)) (cwV 1 hts gX4_person_X4_isGone rfl rfl rfl (by decide +kernel) ⟨by rw [hR]; decide, by rw [hR]; decide⟩) hK hP hD hS hA [0, 1] [2, 3] rfl rfl (by decide) (by decide) (by decide) rfl 0 rfl hl.1 rfl rfl (Nat.le_of_ble_eq_true rfl) dX4_person_28 ⟨by rw [hR]; decide, by rw [hR]; decide⟩ (fun r_16 u_17 H locs hw hP hD hS => ?_)
          have hP : va_P D vwCl [(h0, .inr (4, [.int ype, .int ytk, .ref ywi, .ref yki, .ref yse, .ref yno, .ref yrh, .ref yrw, .ref yrk, .ref yrt, .int yrp, .int yrq, .ref ytx, .int yle, .int yat, .int yfa, .ref yby, .ref ylo, .ref yhi, .int yac, .int ynx, .ref yro, .ref ygl, .int ysn, .ref yso, .ref ysp, .ref ysw, .long ysd, .ref yik, .ref ykp])), (yno, .inl (cI, 96, .inl Fno)), (ywi, .inl (cI, 5, .inl Fwi)), (yki, .inl (cI, 5, .inl Fki))] H := hP.sub [2, 3, 0, 1] rfl
          have hD : va_D A [(h0, .inr (4, [.int ype, .int ytk, .ref ywi, .ref yki, .ref yse, .ref yno, .ref yrh, .ref yrw, .ref yrk, .ref yrt, .int yrp, .int yrq, .ref ytx, .int yle, .int yat, .int yfa, .ref yby, .ref ylo, .ref yhi, .int yac, .int ynx, .ref yro, .ref ygl, .int ysn, .ref yso, .ref ysp, .ref ysw, .long ysd, .ref yik, .ref ykp])), (yno, .inl (cI, 96, .inl Fno)), (ywi, .inl (cI, 5, .inl Fwi)), (yki, .inl (cI, 5, .inl Fki))] := hD.sub [2, 3, 0, 1] (by decide) rfl
          refine W.widen (k := 0) (n := 0) (Nat.le_refl _) (Nat.le_refl _) ?_
          have hw : (r_16.toInt = 0 ∨ r_16.toInt = 1) := hw
          have hw_18 := hw
          refine lv_if_ne (tgt := 51) hx hb dX4_person_31 (by decide) (fun c_19 => ?_) (fun c_19 => ?_)
          · have tc_19 := b_ne rfl (show (0 : Int32).toInt = 0 by decide) c_19
            refine lv_iconst (v := 0) hx hb dX4_person_51 (by decide) ?_
            refine lv_ior hx hb dX4_person_52 ?_
            refine lv_topi (fun v_20 ev_20 => ?_)
            refine lv_istore_n (lv' := [(3, .int v_20), (0, .ref h0), (1, .int n), (2, .int k), (4, .int x4)]) hx hb dX4_person_53 rfl hl (by decide) rfl (fun ls hl => ?_)
            obtain ⟨v_21, ev_21⟩ : ∃ z : Int32, z = x4 + 1 := ⟨_, rfl⟩
            have tv_21 : v_21.toInt = x4.toInt + 1 := by rw [ev_21]; exact ti_add (x := x4) (y := 1) (show -2147483648 ≤ x4.toInt + 1 by omega) (show x4.toInt + 1 < 2147483648 by omega)
            refine lv_iinc (v := v_21) (lv' := [(4, .int v_21), (3, .int v_20), (0, .ref h0), (1, .int n), (2, .int k)]) hx hb dX4_person_54 hl (k := 4) rfl (by rw [ev_21]; rfl) (by decide) rfl (fun ls hl => ?_)
            refine lv_goto (tgt := 15) hx hb dX4_person_57 (by decide) ?_
            exact ih_6 v_20 v_21 _ _ _ (show (6 - v_21.toInt).toNat < fu_5 by omega) (show 0 ≤ v_21.toInt ∧ v_21.toInt ≤ 6 by omega) hP hD hS (lv_sub hl [2, 3, 4, 1, 0] rfl)
          · have tc_19 := b_eq rfl (show (0 : Int32).toInt = 0 by decide) c_19
            refine lv_aload_n hx hb dX4_person_34 rfl (lv_at hl 0 rfl) ?_
            refine lv_iload hx hb dX4_person_35 (lv_at hl 4 rfl) ?_
            refine cV_i (As := [.int x4]) (rest := [.int w3]) ⟨hx, hb, hml, hown, hts⟩ (c_X4_holder l D cI cZ cM h0 x4 ype ytk ywi yki yse yno yrh yrw yrk yrt yrp yrq ytx yle yat yfa yby ylo yhi yac ynx yro ygl ysn yso ysp ysw ysd yik ykp Fno _ (show 0 ≤ x4.toInt ∧ x4.toInt ≤ 6 by omega)) (cwV 1 hts gX4_person_X4_holder rfl rfl rfl (by decide +kernel) ⟨by rw [hR]; decide, by rw [hR]; decide⟩) hK hP hD hS hA [0, 1] [2, 3] rfl rfl (by decide) (by decide) (by decide) rfl 0 rfl hl.1 rfl rfl (Nat.le_of_ble_eq_true rfl) dX4_person_37 ⟨by rw [hR]; decide, by rw [hR]; decide⟩ (fun r_22 u_23 H locs hw hP hD hS => ?_)
            have hP : va_P D vwCl [(h0, .inr (4, [.int ype, .int ytk, .ref ywi, .ref yki, .ref yse, .ref yno, .ref yrh, .ref yrw, .ref yrk, .ref yrt, .int yrp, .int yrq, .ref ytx, .int yle, .int yat, .int yfa, .ref yby, .ref ylo, .ref yhi, .int yac, .int ynx, .ref yro, .ref ygl, .int ysn, .ref yso, .ref ysp, .ref ysw, .long ysd, .ref yik, .ref ykp])), (yno, .inl (cI, 96, .inl Fno)), (ywi, .inl (cI, 5, .inl Fwi)), (yki, .inl (cI, 5, .inl Fki))] H := hP.sub [2, 3, 0, 1] rfl
            have hD : va_D A [(h0, .inr (4, [.int ype, .int ytk, .ref ywi, .ref yki, .ref yse, .ref yno, .ref yrh, .ref yrw, .ref yrk, .ref yrt, .int yrp, .int yrq, .ref ytx, .int yle, .int yat, .int yfa, .ref yby, .ref ylo, .ref yhi, .int yac, .int ynx, .ref yro, .ref ygl, .int ysn, .ref yso, .ref ysp, .ref ysw, .long ysd, .ref yik, .ref ykp])), (yno, .inl (cI, 96, .inl Fno)), (ywi, .inl (cI, 5, .inl Fwi)), (yki, .inl (cI, 5, .inl Fki))] := hD.sub [2, 3, 0, 1] (by decide) rfl
            refine W.widen (k := 0) (n := 0) (Nat.le_refl _) (Nat.le_refl _) ?_
            refine lv_iload_n hx hb dX4_person_40 rfl (lv_at hl 1 rfl) ?_
            refine lv_icmp_ne (tgt := 51) hx hb dX4_person_41 (by decide) (fun c_24 => ?_) (fun c_24 => ?_)
            · have tc_24 := b_ne rfl rfl c_24
              refine lv_iconst (v := 0) hx hb dX4_person_51 (by decide) ?_
              refine lv_ior hx hb dX4_person_52 ?_
              refine lv_topi (fun v_25 ev_25 => ?_)
              refine lv_istore_n (lv' := [(3, .int v_25), (0, .ref h0), (1, .int n), (2, .int k), (4, .int x4)]) hx hb dX4_person_53 rfl hl (by decide) rfl (fun ls hl => ?_)
              obtain ⟨v_26, ev_26⟩ : ∃ z : Int32, z = x4 + 1 := ⟨_, rfl⟩
              have tv_26 : v_26.toInt = x4.toInt + 1 := by rw [ev_26]; exact ti_add (x := x4) (y := 1) (show -2147483648 ≤ x4.toInt + 1 by omega) (show x4.toInt + 1 < 2147483648 by omega)
              refine lv_iinc (v := v_26) (lv' := [(4, .int v_26), (3, .int v_25), (0, .ref h0), (1, .int n), (2, .int k)]) hx hb dX4_person_54 hl (k := 4) rfl (by rw [ev_26]; rfl) (by decide) rfl (fun ls hl => ?_)
              refine lv_goto (tgt := 15) hx hb dX4_person_57 (by decide) ?_
              exact ih_6 v_25 v_26 _ _ _ (show (6 - v_26.toInt).toNat < fu_5 by omega) (show 0 ≤ v_26.toInt ∧ v_26.toInt ≤ 6 by omega) hP hD hS (lv_sub hl [2, 3, 4, 1, 0] rfl)
            · have tc_24 := b_eq rfl rfl c_24
              refine lv_iconst (v := 1) hx hb dX4_person_44 (by decide) ?_
              refine lv_iload hx hb dX4_person_45 (lv_at hl 4 rfl) ?_
              refine lv_ishl hx hb dX4_person_47 ?_
              refine lv_topi (fun v_27 ev_27 => ?_)
              refine lv_goto (tgt := 52) hx hb dX4_person_48 (by decide) ?_
              refine lv_ior hx hb dX4_person_52 ?_
              refine lv_topi (fun v_28 ev_28 => ?_)
              refine lv_istore_n (lv' := [(3, .int v_28), (0, .ref h0), (1, .int n), (2, .int k), (4, .int x4)]) hx hb dX4_person_53 rfl hl (by decide) rfl (fun ls hl => ?_)
              obtain ⟨v_29, ev_29⟩ : ∃ z : Int32, z = x4 + 1 := ⟨_, rfl⟩
              have tv_29 : v_29.toInt = x4.toInt + 1 := by rw [ev_29]; exact ti_add (x := x4) (y := 1) (show -2147483648 ≤ x4.toInt + 1 by omega) (show x4.toInt + 1 < 2147483648 by omega)
              refine lv_iinc (v := v_29) (lv' := [(4, .int v_29), (3, .int v_28), (0, .ref h0), (1, .int n), (2, .int k)]) hx hb dX4_person_54 hl (k := 4) rfl (by rw [ev_29]; rfl) (by decide) rfl (fun ls hl => ?_)
              refine lv_goto (tgt := 15) hx hb dX4_person_57 (by decide) ?_
              exact ih_6 v_28 v_29 _ _ _ (show (6 - v_29.toInt).toNat < fu_5 by omega) (show 0 ≤ v_29.toInt ∧ v_29.toInt ≤ 6 by omega) hP hD hS (lv_sub hl [2, 3, 4, 1, 0] rfl)
    exact LOOP_5 _ 0 0 _ _ _ (Nat.lt_succ_self _) (by decide) hP hD hS (lv_sub hl [2, 3, 4, 1, 0] rfl)
  · have tc_4 := b_eq rfl (show (0 : Int32).toInt = 0 by decide) c_4
    refine lv_iconst (v := (-1)) hx hb dX4_person_8 (by decide) ?_
    exact ret_i (post := (fun (r : Int32) (u : Unit) => True)) (W1 := (fun u => [(h0, .inr (4, [.int ype, .int ytk, .ref ywi, .ref yki, .ref yse, .ref yno, .ref yrh, .ref yrw, .ref yrk, .ref yrt, .int yrp, .int yrq, .ref ytx, .int yle, .int yat, .int yfa, .ref yby, .ref ylo, .ref yhi, .int yac, .int ynx, .ref yro, .ref ygl, .int ysn, .ref yso, .ref ysp, .ref ysw, .long ysd, .ref yik, .ref ykp])), (yno, .inl (cI, 96, .inl Fno)), (ywi, .inl (cI, 5, .inl Fwi)), (yki, .inl (cI, 5, .inl Fki))])) () hx hb hr hlocks rfl hQ hK hP hD hS ⟨by decide, by decide⟩ dX4_person_9 trivial

set_option maxHeartbeats 600000 in
set_option maxRecDepth 100000 in
theorem c_X4_ticket (l : Launch) (D : va_G) (cI cZ cM : ClassId) (h0 : Nat) (n : Int32) (k : Int32) (ype : Int32) (ytk : Int32) (ywi : Nat) (yki : Nat) (yse : Nat) (yno : Nat) (yrh : Nat) (yrw : Nat) (yrk : Nat) (yrt : Nat) (yrp : Int32) (yrq : Int32) (ytx : Nat) (yle : Int32) (yat : Int32) (yfa : Int32) (yby : Nat) (ylo : Nat) (yhi : Nat) (yac : Int32) (ynx : Int32) (yro : Nat) (ygl : Nat) (ysn : Int32) (yso : Nat) (ysp : Nat) (ysw : Nat) (ysd : Int64) (yik : Nat) (ykp : Nat) (Fno : Nat → Int32) (Fse : Nat → Int32) (sz : Nat) (h_ype : 0 ≤ ype.toInt ∧ ype.toInt ≤ 5) (h_ytk : 0 ≤ ytk.toInt ∧ ytk.toInt ≤ 6) : Ci l yX4_ticket wsX4_ticket ({ frames := 2, cells := 0, slots := 0, locals := 46 } : Room) D cI cZ cM [.ref h0, .int n, .int k] [(h0, .inr (4, [.int ype, .int ytk, .ref ywi, .ref yki, .ref yse, .ref yno, .ref yrh, .ref yrw, .ref yrk, .ref yrt, .int yrp, .int yrq, .ref ytx, .int yle, .int yat, .int yfa, .ref yby, .ref ylo, .ref yhi, .int yac, .int ynx, .ref yro, .ref ygl, .int ysn, .ref yso, .ref ysp, .ref ysw, .long ysd, .ref yik, .ref ykp])), (yno, .inl (cI, 96, .inl Fno)), (yse, .inl (cI, 7, .inl Fse))] sz (fun (r : Int32) (u : Unit) => True) (fun u => [(h0, .inr (4, [.int ype, .int ytk, .ref ywi, .ref yki, .ref yse, .ref yno, .ref yrh, .ref yrw, .ref yrk, .ref yrt, .int yrp, .int yrq, .ref ytx, .int yle, .int yat, .int yfa, .ref yby, .ref ylo, .ref yhi, .int yac, .int ynx, .ref yro, .ref ygl, .int ysn, .ref yso, .ref ysp, .ref ysw, .long ysd, .ref yik, .ref ykp])), (yno, .inl (cI, 96, .inl Fno)), (yse, .inl (cI, 7, .inl Fse))]) 0 0 := by
  refine begins (l := l) (y := yX4_ticket) (ws := wsX4_ticket) (av := [.ref h0, .int n, .int k]) (Qc := fun A => va_Qi (fun (r : Int32) (u : Unit) => True) (fun u => Wd D cI cZ cM A ((fun u => [(h0, .inr (4, [.int ype, .int ytk, .ref ywi, .ref yki, .ref yse, .ref yno, .ref yrh, .ref yrw, .ref yrk, .ref yrt, .int yrp, .int yrq, .ref ytx, .int yle, .int yat, .int yfa, .ref yby, .ref ylo, .ref yhi, .int yac, .int ynx, .ref yro, .ref ygl, .int ysn, .ref yso, .ref ysp, .ref ysw, .long ysd, .ref yik, .ref ykp])), (yno, .inl (cI, 96, .inl Fno)), (yse, .inl (cI, 7, .inl Fse))]) u)) A) cX4_ticket 4 (some .int) (by decide) rfl (Nat.le_of_ble_eq_true rfl) ?_
  intro p e s m args below meth c R Q A ls hBd hR hQ hA hS hK hP hD hl
  obtain ⟨hx, hb, hr, hts, hown, hlocks, hin, hml⟩ := hBd
  have hl : lv_has ls 4 [(0, .ref h0), (1, .int n), (2, .int k)] := hl
  have iX4 : ∀ w ∈ wsX40, w ∈ wsX4_ticket := fun _ h => List.mem_cons_of_mem _ (List.mem_append_right _ h)
  obtain ⟨h_ypea, h_ypeb⟩ := h_ype
  obtain ⟨h_ytka, h_ytkb⟩ := h_ytk
  refine lv_aload_n hx hb dX4_ticket_0 rfl (lv_at hl 0 rfl) ?_
  refine lv_iload_n hx hb dX4_ticket_1 rfl (lv_at hl 1 rfl) ?_
  refine cV_i (As := [.int n]) (rest := []) ⟨hx, hb, hml, hown, hts⟩ (c_X4_isTicket l D cI cZ cM h0 n ype ytk ywi yki yse yno yrh yrw yrk yrt yrp yrq ytx yle yat yfa yby ylo yhi yac ynx yro ygl ysn yso ysp ysw ysd yik ykp _ (show 0 ≤ ytk.toInt ∧ ytk.toInt ≤ 6 by omega)) (cwV 1 hts gX4_ticket_X4_isTicket rfl rfl rfl (by decide +kernel) ⟨by rw [hR]; decide, by rw [hR]; decide⟩) hK hP hD hS hA [0] [1, 2] rfl rfl (by decide) (by decide) (by decide) rfl 0 rfl hl.1 rfl rfl (Nat.le_of_ble_eq_true rfl) dX4_ticket_2 ⟨by rw [hR]; decide, by rw [hR]; decide⟩ (fun r_1 u_2 H locs hw hP hD hS => ?_)
  have hP : va_P D vwCl [(h0, .inr (4, [.int ype, .int ytk, .ref ywi, .ref yki, .ref yse, .ref yno, .ref yrh, .ref yrw, .ref yrk, .ref yrt, .int yrp, .int yrq, .ref ytx, .int yle, .int yat, .int yfa, .ref yby, .ref ylo, .ref yhi, .int yac, .int ynx, .ref yro, .ref ygl, .int ysn, .ref yso, .ref ysp, .ref ysw, .long ysd, .ref yik, .ref ykp])), (yno, .inl (cI, 96, .inl Fno)), (yse, .inl (cI, 7, .inl Fse))] H := hP.sub [2, 0, 1] rfl
  have hD : va_D A [(h0, .inr (4, [.int ype, .int ytk, .ref ywi, .ref yki, .ref yse, .ref yno, .ref yrh, .ref yrw, .ref yrk, .ref yrt, .int yrp, .int yrq, .ref ytx, .int yle, .int yat, .int yfa, .ref yby, .ref ylo, .ref yhi, .int yac, .int ynx, .ref yro, .ref ygl, .int ysn, .ref yso, .ref ysp, .ref ysw, .long ysd, .ref yik, .ref ykp])), (yno, .inl (cI, 96, .inl Fno)), (yse, .inl (cI, 7, .inl Fse))] := hD.sub [2, 0, 1] (by decide) rfl
  refine W.widen (k := 0) (n := 0) (Nat.le_refl _) (Nat.le_refl _) ?_
  have hw : (r_1.toInt = 1 ∧ 0 ≤ n.toInt ∧ n.toInt < ytk.toInt) ∨ (r_1.toInt = 0 ∧ (n.toInt < 0 ∨ ytk.toInt ≤ n.toInt)) := hw
  have hw_3 := hw
  refine lv_if_ne (tgt := 10) hx hb dX4_ticket_5 (by decide) (fun c_4 => ?_) (fun c_4 => ?_)
  · have tc_4 := b_ne rfl (show (0 : Int32).toInt = 0 by decide) c_4
    have hn1 : 0 ≤ n.toInt := by omega
    have hn2 : n.toInt ≤ 5 := by omega
    refine lv_bipush (v := 6) hx hb dX4_ticket_10 (by decide) ?_
    refine lv_bipush (v := 6) hx hb dX4_ticket_12 (by decide) ?_
    refine lv_iload_n hx hb dX4_ticket_14 rfl (lv_at hl 1 rfl) ?_
    refine lv_imul hx hb dX4_ticket_15 ?_
    refine lv_topi (fun v_5 ev_5 => ?_)
    have tv_5 : v_5.toInt = (6 : Int) * n.toInt := by rw [ev_5]; exact ti_mul (x := 6) (y := n) (show -2147483648 ≤ (6 : Int) * n.toInt by omega) (show (6 : Int) * n.toInt < 2147483648 by omega)
    refine lv_iadd hx hb dX4_ticket_16 ?_
    refine lv_topi (fun v_6 ev_6 => ?_)
    have tv_6 : v_6.toInt = (6 : Int) + v_5.toInt := by rw [ev_6]; exact ti_add (x := 6) (y := v_5) (show -2147483648 ≤ (6 : Int) + v_5.toInt by omega) (show (6 : Int) + v_5.toInt < 2147483648 by omega)
    refine lv_istore_n (lv' := [(3, .int v_6), (0, .ref h0), (1, .int n), (2, .int k)]) hx hb dX4_ticket_17 rfl hl (by decide) rfl (fun ls hl => ?_)
    refine lv_iload_n hx hb dX4_ticket_18 rfl (lv_at hl 3 rfl) ?_
    by_cases c_7 : k.toInt < 0 ∨ 6 < k.toInt
    · refine lv_tableOut (tgt := 116) hx hb dX4_ticket_19 c_7 (by decide) ?_
      refine lv_bipush (v := (-2)) hx hb dX4_ticket_116 (by decide) ?_
      exact ret_i (post := (fun (r : Int32) (u : Unit) => True)) (W1 := (fun u => [(h0, .inr (4, [.int ype, .int ytk, .ref ywi, .ref yki, .ref yse, .ref yno, .ref yrh, .ref yrw, .ref yrk, .ref yrt, .int yrp, .int yrq, .ref ytx, .int yle, .int yat, .int yfa, .ref yby, .ref ylo, .ref yhi, .int yac, .int ynx, .ref yro, .ref ygl, .int ysn, .ref yso, .ref ysp, .ref ysw, .long ysd, .ref yik, .ref ykp])), (yno, .inl (cI, 96, .inl Fno)), (yse, .inl (cI, 7, .inl Fse))])) () hx hb hr hlocks rfl hQ hK hP hD hS ⟨by decide, by decide⟩ dX4_ticket_118 trivial
    · rcases (show k.toInt = 0 ∨ k.toInt = 1 ∨ k.toInt = 2 ∨ k.toInt = 3 ∨ k.toInt = 4 ∨ k.toInt = 5 ∨ k.toInt = 6 by omega) with c_7i | c_7i | c_7i | c_7i | c_7i | c_7i | c_7i
      · refine lv_tableIn (tgt := 60) (off := 41) hx hb dX4_ticket_19 (by omega) (by omega) (by rw [c_7i]; rfl) (by decide) ?_
        refine lv_aload_n hx hb dX4_ticket_60 rfl (lv_at hl 1 rfl) ?_
        refine va_get (D := D) (ci := 4) (v := .ref yno) (C := RX4) (T := TX4) (N := 30) hx hb hts iX4 hown hK hP 0 rfl rfl 5 (by decide) (hts (.fieldLink RX4 19 "PunchedTicketModel" "now" "[I") (List.mem_of_getElem? (i := 1) rfl)) (fun _ h9 => h9) rfl dX4_ticket_61 ?_
        refine lv_iload_n hx hb dX4_ticket_64 rfl (lv_at hl 0 rfl) ?_
        refine va_iald hx hb hK hP 1 0 rfl rfl (vp_in_iff.mpr ⟨by omega, by omega⟩) dX4_ticket_65 ?_
        refine lv_topi (fun v_8 ev_8 => ?_)
        exact ret_i (post := (fun (r : Int32) (u : Unit) => True)) (W1 := (fun u => [(h0, .inr (4, [.int ype, .int ytk, .ref ywi, .ref yki, .ref yse, .ref yno, .ref yrh, .ref yrw, .ref yrk, .ref yrt, .int yrp, .int yrq, .ref ytx, .int yle, .int yat, .int yfa, .ref yby, .ref ylo, .ref yhi, .int yac, .int ynx, .ref yro, .ref ygl, .int ysn, .ref yso, .ref ysp, .ref ysw, .long ysd, .ref yik, .ref ykp])), (yno, .inl (cI, 96, .inl Fno)), (yse, .inl (cI, 7, .inl Fse))])) () hx hb hr hlocks rfl hQ hK hP hD hS ⟨by decide, by decide⟩ dX4_ticket_66 trivial
      · refine lv_tableIn (tgt := 67) (off := 48) hx hb dX4_ticket_19 (by omega) (by omega) (by rw [c_7i]; rfl) (by decide) ?_
        refine lv_aload_n hx hb dX4_ticket_67 rfl (lv_at hl 1 rfl) ?_
        refine va_get (D := D) (ci := 4) (v := .ref yno) (C := RX4) (T := TX4) (N := 30) hx hb hts iX4 hown hK hP 0 rfl rfl 5 (by decide) (hts (.fieldLink RX4 19 "PunchedTicketModel" "now" "[I") (List.mem_of_getElem? (i := 1) rfl)) (fun _ h9 => h9) rfl dX4_ticket_68 ?_
        refine lv_iload_n hx hb dX4_ticket_71 rfl (lv_at hl 0 rfl) ?_
        refine lv_iconst (v := 1) hx hb dX4_ticket_72 (by decide) ?_
        refine lv_iadd hx hb dX4_ticket_73 ?_
        refine lv_topi (fun v_9 ev_9 => ?_)
        have tv_9 : v_9.toInt = v_6.toInt + (1 : Int) := by rw [ev_9]; exact ti_add (x := v_6) (y := 1) (show -2147483648 ≤ v_6.toInt + (1 : Int) by omega) (show v_6.toInt + (1 : Int) < 2147483648 by omega)
        refine va_iald hx hb hK hP 1 0 rfl rfl (vp_in_iff.mpr ⟨by omega, by omega⟩) dX4_ticket_74 ?_
        refine lv_topi (fun v_10 ev_10 => ?_)
        exact ret_i (post := (fun (r : Int32) (u : Unit) => True)) (W1 := (fun u => [(h0, .inr (4, [.int ype, .int ytk, .ref ywi, .ref yki, .ref yse, .ref yno, .ref yrh, .ref yrw, .ref yrk, .ref yrt, .int yrp, .int yrq, .ref ytx, .int yle, .int yat, .int yfa, .ref yby, .ref ylo, .ref yhi, .int yac, .int ynx, .ref yro, .ref ygl, .int ysn, .ref yso, .ref ysp, .ref ysw, .long ysd, .ref yik, .ref ykp])), (yno, .inl (cI, 96, .inl Fno)), (yse, .inl (cI, 7, .inl Fse))])) () hx hb hr hlocks rfl hQ hK hP hD hS ⟨by decide, by decide⟩ dX4_ticket_75 trivial
      · refine lv_tableIn (tgt := 76) (off := 57) hx hb dX4_ticket_19 (by omega) (by omega) (by rw [c_7i]; rfl) (by decide) ?_
        refine lv_aload_n hx hb dX4_ticket_76 rfl (lv_at hl 1 rfl) ?_
        refine va_get (D := D) (ci := 4) (v := .ref yno) (C := RX4) (T := TX4) (N := 30) hx hb hts iX4 hown hK hP 0 rfl rfl 5 (by decide) (hts (.fieldLink RX4 19 "PunchedTicketModel" "now" "[I") (List.mem_of_getElem? (i := 1) rfl)) (fun _ h9 => h9) rfl dX4_ticket_77 ?_
        refine lv_iload_n hx hb dX4_ticket_80 rfl (lv_at hl 0 rfl) ?_
        refine lv_iconst (v := 2) hx hb dX4_ticket_81 (by decide) ?_
        refine lv_iadd hx hb dX4_ticket_82 ?_
        refine lv_topi (fun v_11 ev_11 => ?_)
        have tv_11 : v_11.toInt = v_6.toInt + (2 : Int) := by rw [ev_11]; exact ti_add (x := v_6) (y := 2) (show -2147483648 ≤ v_6.toInt + (2 : Int) by omega) (show v_6.toInt + (2 : Int) < 2147483648 by omega)
        refine va_iald hx hb hK hP 1 0 rfl rfl (vp_in_iff.mpr ⟨by omega, by omega⟩) dX4_ticket_83 ?_
        refine lv_topi (fun v_12 ev_12 => ?_)
        exact ret_i (post := (fun (r : Int32) (u : Unit) => True)) (W1 := (fun u => [(h0, .inr (4, [.int ype, .int ytk, .ref ywi, .ref yki, .ref yse, .ref yno, .ref yrh, .ref yrw, .ref yrk, .ref yrt, .int yrp, .int yrq, .ref ytx, .int yle, .int yat, .int yfa, .ref yby, .ref ylo, .ref yhi, .int yac, .int ynx, .ref yro, .ref ygl, .int ysn, .ref yso, .ref ysp, .ref ysw, .long ysd, .ref yik, .ref ykp])), (yno, .inl (cI, 96, .inl Fno)), (yse, .inl (cI, 7, .inl Fse))])) () hx hb hr hlocks rfl hQ hK hP hD hS ⟨by decide, by decide⟩ dX4_ticket_84 trivial
      · refine lv_tableIn (tgt := 85) (off := 66) hx hb dX4_ticket_19 (by omega) (by omega) (by rw [c_7i]; rfl) (by decide) ?_
        refine lv_aload_n hx hb dX4_ticket_85 rfl (lv_at hl 1 rfl) ?_
        refine va_get (D := D) (ci := 4) (v := .ref yse) (C := RX4) (T := TX4) (N := 30) hx hb hts iX4 hown hK hP 0 rfl rfl 4 (by decide) (hts (.fieldLink RX4 16 "PunchedTicketModel" "seat" "[I") (List.mem_of_getElem? (i := 2) rfl)) (fun _ h9 => h9) rfl dX4_ticket_86 ?_
        refine lv_iload_n hx hb dX4_ticket_89 rfl (lv_at hl 2 rfl) ?_
        refine va_iald hx hb hK hP 2 0 rfl rfl (vp_in_iff.mpr ⟨by omega, by omega⟩) dX4_ticket_90 ?_
        refine lv_topi (fun v_13 ev_13 => ?_)
        exact ret_i (post := (fun (r : Int32) (u : Unit) => True)) (W1 := (fun u => [(h0, .inr (4, [.int ype, .int ytk, .ref ywi, .ref yki, .ref yse, .ref yno, .ref yrh, .ref yrw, .ref yrk, .ref yrt, .int yrp, .int yrq, .ref ytx, .int yle, .int yat, .int yfa, .ref yby, .ref ylo, .ref yhi, .int yac, .int ynx, .ref yro, .ref ygl, .int ysn, .ref yso, .ref ysp, .ref ysw, .long ysd, .ref yik, .ref ykp])), (yno, .inl (cI, 96, .inl Fno)), (yse, .inl (cI, 7, .inl Fse))])) () hx hb hr hlocks rfl hQ hK hP hD hS ⟨by decide, by decide⟩ dX4_ticket_91 trivial
      · refine lv_tableIn (tgt := 92) (off := 73) hx hb dX4_ticket_19 (by omega) (by omega) (by rw [c_7i]; rfl) (by decide) ?_
        refine lv_aload_n hx hb dX4_ticket_92 rfl (lv_at hl 1 rfl) ?_
        refine lv_iload_n hx hb dX4_ticket_93 rfl (lv_at hl 2 rfl) ?_
        refine cV_i (As := [.int n]) (rest := []) ⟨hx, hb, hml, hown, hts⟩ (c_X4_holder l D cI cZ cM h0 n ype ytk ywi yki yse yno yrh yrw yrk yrt yrp yrq ytx yle yat yfa yby ylo yhi yac ynx yro ygl ysn yso ysp ysw ysd yik ykp Fno _ (show 0 ≤ n.toInt ∧ n.toInt ≤ 6 by omega)) (cwV 1 hts gX4_ticket_X4_holder rfl rfl rfl (by decide +kernel) ⟨by rw [hR]; decide, by rw [hR]; decide⟩) hK hP hD hS hA [0, 1] [2] rfl rfl (by decide) (by decide) (by decide) rfl 0 rfl hl.1 rfl rfl (Nat.le_of_ble_eq_true rfl) dX4_ticket_94 ⟨by rw [hR]; decide, by rw [hR]; decide⟩ (fun r_14 u_15 H locs hw hP hD hS => ?_)
        have hP : va_P D vwCl [(h0, .inr (4, [.int ype, .int ytk, .ref ywi, .ref yki, .ref yse, .ref yno, .ref yrh, .ref yrw, .ref yrk, .ref yrt, .int yrp, .int yrq, .ref ytx, .int yle, .int yat, .int yfa, .ref yby, .ref ylo, .ref yhi, .int yac, .int ynx, .ref yro, .ref ygl, .int ysn, .ref yso, .ref ysp, .ref ysw, .long ysd, .ref yik, .ref ykp])), (yno, .inl (cI, 96, .inl Fno)), (yse, .inl (cI, 7, .inl Fse))] H := hP.sub [1, 2, 0] rfl
        have hD : va_D A [(h0, .inr (4, [.int ype, .int ytk, .ref ywi, .ref yki, .ref yse, .ref yno, .ref yrh, .ref yrw, .ref yrk, .ref yrt, .int yrp, .int yrq, .ref ytx, .int yle, .int yat, .int yfa, .ref yby, .ref ylo, .ref yhi, .int yac, .int ynx, .ref yro, .ref ygl, .int ysn, .ref yso, .ref ysp, .ref ysw, .long ysd, .ref yik, .ref ykp])), (yno, .inl (cI, 96, .inl Fno)), (yse, .inl (cI, 7, .inl Fse))] := hD.sub [1, 2, 0] (by decide) rfl
        refine W.widen (k := 0) (n := 0) (Nat.le_refl _) (Nat.le_refl _) ?_
        exact ret_i (post := (fun (r : Int32) (u : Unit) => True)) (W1 := (fun u => [(h0, .inr (4, [.int ype, .int ytk, .ref ywi, .ref yki, .ref yse, .ref yno, .ref yrh, .ref yrw, .ref yrk, .ref yrt, .int yrp, .int yrq, .ref ytx, .int yle, .int yat, .int yfa, .ref yby, .ref ylo, .ref yhi, .int yac, .int ynx, .ref yro, .ref ygl, .int ysn, .ref yso, .ref ysp, .ref ysw, .long ysd, .ref yik, .ref ykp])), (yno, .inl (cI, 96, .inl Fno)), (yse, .inl (cI, 7, .inl Fse))])) () hx hb hr hlocks rfl hQ hK hP hD hS ⟨by decide, by decide⟩ dX4_ticket_97 trivial
      · refine lv_tableIn (tgt := 98) (off := 79) hx hb dX4_ticket_19 (by omega) (by omega) (by rw [c_7i]; rfl) (by decide) ?_
        refine lv_aload_n hx hb dX4_ticket_98 rfl (lv_at hl 1 rfl) ?_
        refine va_get (D := D) (ci := 4) (v := .ref yno) (C := RX4) (T := TX4) (N := 30) hx hb hts iX4 hown hK hP 0 rfl rfl 5 (by decide) (hts (.fieldLink RX4 19 "PunchedTicketModel" "now" "[I") (List.mem_of_getElem? (i := 1) rfl)) (fun _ h9 => h9) rfl dX4_ticket_99 ?_
        refine lv_iload_n hx hb dX4_ticket_102 rfl (lv_at hl 0 rfl) ?_
        refine lv_iconst (v := 4) hx hb dX4_ticket_103 (by decide) ?_
        refine lv_iadd hx hb dX4_ticket_104 ?_
        refine lv_topi (fun v_16 ev_16 => ?_)
        have tv_16 : v_16.toInt = v_6.toInt + (4 : Int) := by rw [ev_16]; exact ti_add (x := v_6) (y := 4) (show -2147483648 ≤ v_6.toInt + (4 : Int) by omega) (show v_6.toInt + (4 : Int) < 2147483648 by omega)
        refine va_iald hx hb hK hP 1 0 rfl rfl (vp_in_iff.mpr ⟨by omega, by omega⟩) dX4_ticket_105 ?_
        refine lv_topi (fun v_17 ev_17 => ?_)
        exact ret_i (post := (fun (r : Int32) (u : Unit) => True)) (W1 := (fun u => [(h0, .inr (4, [.int ype, .int ytk, .ref ywi, .ref yki, .ref yse, .ref yno, .ref yrh, .ref yrw, .ref yrk, .ref yrt, .int yrp, .int yrq, .ref ytx, .int yle, .int yat, .int yfa, .ref yby, .ref ylo, .ref yhi, .int yac, .int ynx, .ref yro, .ref ygl, .int ysn, .ref yso, .ref ysp, .ref ysw, .long ysd, .ref yik, .ref ykp])), (yno, .inl (cI, 96, .inl Fno)), (yse, .inl (cI, 7, .inl Fse))])) () hx hb hr hlocks rfl hQ hK hP hD hS ⟨by decide, by decide⟩ dX4_ticket_106 trivial
      · refine lv_tableIn (tgt := 107) (off := 88) hx hb dX4_ticket_19 (by omega) (by omega) (by rw [c_7i]; rfl) (by decide) ?_
        refine lv_aload_n hx hb dX4_ticket_107 rfl (lv_at hl 1 rfl) ?_
        refine va_get (D := D) (ci := 4) (v := .ref yno) (C := RX4) (T := TX4) (N := 30) hx hb hts iX4 hown hK hP 0 rfl rfl 5 (by decide) (hts (.fieldLink RX4 19 "PunchedTicketModel" "now" "[I") (List.mem_of_getElem? (i := 1) rfl)) (fun _ h9 => h9) rfl dX4_ticket_108 ?_
        refine lv_iload_n hx hb dX4_ticket_111 rfl (lv_at hl 0 rfl) ?_
        refine lv_iconst (v := 5) hx hb dX4_ticket_112 (by decide) ?_
        refine lv_iadd hx hb dX4_ticket_113 ?_
        refine lv_topi (fun v_18 ev_18 => ?_)
        have tv_18 : v_18.toInt = v_6.toInt + (5 : Int) := by rw [ev_18]; exact ti_add (x := v_6) (y := 5) (show -2147483648 ≤ v_6.toInt + (5 : Int) by omega) (show v_6.toInt + (5 : Int) < 2147483648 by omega)
        refine va_iald hx hb hK hP 1 0 rfl rfl (vp_in_iff.mpr ⟨by omega, by omega⟩) dX4_ticket_114 ?_
        refine lv_topi (fun v_19 ev_19 => ?_)
        exact ret_i (post := (fun (r : Int32) (u : Unit) => True)) (W1 := (fun u => [(h0, .inr (4, [.int ype, .int ytk, .ref ywi, .ref yki, .ref yse, .ref yno, .ref yrh, .ref yrw, .ref yrk, .ref yrt, .int yrp, .int yrq, .ref ytx, .int yle, .int yat, .int yfa, .ref yby, .ref ylo, .ref yhi, .int yac, .int ynx, .ref yro, .ref ygl, .int ysn, .ref yso, .ref ysp, .ref ysw, .long ysd, .ref yik, .ref ykp])), (yno, .inl (cI, 96, .inl Fno)), (yse, .inl (cI, 7, .inl Fse))])) () hx hb hr hlocks rfl hQ hK hP hD hS ⟨by decide, by decide⟩ dX4_ticket_115 trivial
  · have tc_4 := b_eq rfl (show (0 : Int32).toInt = 0 by decide) c_4
    refine lv_iconst (v := (-1)) hx hb dX4_ticket_8 (by decide) ?_
    exact ret_i (post := (fun (r : Int32) (u : Unit) => True)) (W1 := (fun u => [(h0, .inr (4, [.int ype, .int ytk, .ref ywi, .ref yki, .ref yse, .ref yno, .ref yrh, .ref yrw, .ref yrk, .ref yrt, .int yrp, .int yrq, .ref ytx, .int yle, .int yat, .int yfa, .ref yby, .ref ylo, .ref yhi, .int yac, .int ynx, .ref yro, .ref ygl, .int ysn, .ref yso, .ref ysp, .ref ysw, .long ysd, .ref yik, .ref ykp])), (yno, .inl (cI, 96, .inl Fno)), (yse, .inl (cI, 7, .inl Fse))])) () hx hb hr hlocks rfl hQ hK hP hD hS ⟨by decide, by decide⟩ dX4_ticket_9 trivial

set_option maxHeartbeats 600000 in
set_option maxRecDepth 100000 in
theorem c_X4_see (l : Launch) (D : va_G) (cI cZ cM : ClassId) (h0 : Nat) (n : Int32) (k : Int32) (j : Int32) (ype : Int32) (ytk : Int32) (ywi : Nat) (yki : Nat) (yse : Nat) (yno : Nat) (yrh : Nat) (yrw : Nat) (yrk : Nat) (yrt : Nat) (yrp : Int32) (yrq : Int32) (ytx : Nat) (yle : Int32) (yat : Int32) (yfa : Int32) (yby : Nat) (ylo : Nat) (yhi : Nat) (yac : Int32) (ynx : Int32) (yro : Nat) (ygl : Nat) (ysn : Int32) (yso : Nat) (ysp : Nat) (ysw : Nat) (ysd : Int64) (yik : Nat) (ykp : Nat) (Fso : Nat → Int32) (Fsp : Nat → Int32) (Fsw : Nat → Int32) (sz : Nat) (h_ype : 0 ≤ ype.toInt ∧ ype.toInt ≤ 5) (h_ytk : 0 ≤ ytk.toInt ∧ ytk.toInt ≤ 6) (h_ysn : 0 ≤ ysn.toInt ∧ ysn.toInt ≤ 6) : Ci l yX4_see wsX4_see ({ frames := 2, cells := 0, slots := 0, locals := 46 } : Room) D cI cZ cM [.ref h0, .int n, .int k, .int j] [(h0, .inr (4, [.int ype, .int ytk, .ref ywi, .ref yki, .ref yse, .ref yno, .ref yrh, .ref yrw, .ref yrk, .ref yrt, .int yrp, .int yrq, .ref ytx, .int yle, .int yat, .int yfa, .ref yby, .ref ylo, .ref yhi, .int yac, .int ynx, .ref yro, .ref ygl, .int ysn, .ref yso, .ref ysp, .ref ysw, .long ysd, .ref yik, .ref ykp])), (yso, .inl (cI, 6, .inl Fso)), (ysp, .inl (cI, 6, .inl Fsp)), (ysw, .inl (cI, 6, .inl Fsw))] sz (fun (r : Int32) (u : Int32 × (Nat → Int32) × (Nat → Int32) × (Nat → Int32)) => ((n.toInt < 0 ∨ ype.toInt ≤ n.toInt) ∧ r.toInt = -1 ∧ u.1.toInt = ysn.toInt) ∨ (0 ≤ n.toInt ∧ n.toInt < ype.toInt ∧ (k.toInt < 0 ∨ 10 ≤ k.toInt ∨ j.toInt < 0 ∨ 10 < j.toInt) ∧ r.toInt = -2 ∧ u.1.toInt = ysn.toInt) ∨ (0 ≤ n.toInt ∧ n.toInt < ype.toInt ∧ 0 ≤ k.toInt ∧ k.toInt < 10 ∧ 0 ≤ j.toInt ∧ j.toInt ≤ 10 ∧ ysn.toInt = 6 ∧ r.toInt = -4 ∧ u.1.toInt = ysn.toInt) ∨ (0 ≤ n.toInt ∧ n.toInt < ype.toInt ∧ 0 ≤ k.toInt ∧ k.toInt < 10 ∧ 0 ≤ j.toInt ∧ j.toInt ≤ 10 ∧ ysn.toInt < 6 ∧ r.toInt = ysn.toInt + 1 ∧ u.1.toInt = ysn.toInt + 1)) (fun u => [(h0, .inr (4, [.int ype, .int ytk, .ref ywi, .ref yki, .ref yse, .ref yno, .ref yrh, .ref yrw, .ref yrk, .ref yrt, .int yrp, .int yrq, .ref ytx, .int yle, .int yat, .int yfa, .ref yby, .ref ylo, .ref yhi, .int yac, .int ynx, .ref yro, .ref ygl, .int u.1, .ref yso, .ref ysp, .ref ysw, .long ysd, .ref yik, .ref ykp])), (yso, .inl (cI, 6, .inl u.2.1)), (ysp, .inl (cI, 6, .inl u.2.2.1)), (ysw, .inl (cI, 6, .inl u.2.2.2))]) 0 0 := by
  refine begins (l := l) (y := yX4_see) (ws := wsX4_see) (av := [.ref h0, .int n, .int k, .int j]) (Qc := fun A => va_Qi (fun (r : Int32) (u : Int32 × (Nat → Int32) × (Nat → Int32) × (Nat → Int32)) => ((n.toInt < 0 ∨ ype.toInt ≤ n.toInt) ∧ r.toInt = -1 ∧ u.1.toInt = ysn.toInt) ∨ (0 ≤ n.toInt ∧ n.toInt < ype.toInt ∧ (k.toInt < 0 ∨ 10 ≤ k.toInt ∨ j.toInt < 0 ∨ 10 < j.toInt) ∧ r.toInt = -2 ∧ u.1.toInt = ysn.toInt) ∨ (0 ≤ n.toInt ∧ n.toInt < ype.toInt ∧ 0 ≤ k.toInt ∧ k.toInt < 10 ∧ 0 ≤ j.toInt ∧ j.toInt ≤ 10 ∧ ysn.toInt = 6 ∧ r.toInt = -4 ∧ u.1.toInt = ysn.toInt) ∨ (0 ≤ n.toInt ∧ n.toInt < ype.toInt ∧ 0 ≤ k.toInt ∧ k.toInt < 10 ∧ 0 ≤ j.toInt ∧ j.toInt ≤ 10 ∧ ysn.toInt < 6 ∧ r.toInt = ysn.toInt + 1 ∧ u.1.toInt = ysn.toInt + 1)) (fun u => Wd D cI cZ cM A ((fun u => [(h0, .inr (4, [.int ype, .int ytk, .ref ywi, .ref yki, .ref yse, .ref yno, .ref yrh, .ref yrw, .ref yrk, .ref yrt, .int yrp, .int yrq, .ref ytx, .int yle, .int yat, .int yfa, .ref yby, .ref ylo, .ref yhi, .int yac, .int ynx, .ref yro, .ref ygl, .int u.1, .ref yso, .ref ysp, .ref ysw, .long ysd, .ref yik, .ref ykp])), (yso, .inl (cI, 6, .inl u.2.1)), (ysp, .inl (cI, 6, .inl u.2.2.1)), (ysw, .inl (cI, 6, .inl u.2.2.2))]) u)) A) cX4_see 4 (some .int) (by decide) rfl (Nat.le_of_ble_eq_true rfl) ?_
  intro p e s m args below meth c R Q A ls hBd hR hQ hA hS hK hP hD hl
  obtain ⟨hx, hb, hr, hts, hown, hlocks, hin, hml⟩ := hBd
  have hl : lv_has ls 4 [(0, .ref h0), (1, .int n), (2, .int k), (3, .int j)] := hl
  have iX4 : ∀ w ∈ wsX40, w ∈ wsX4_see := fun _ h => List.mem_cons_of_mem _ (List.mem_append_right _ h)
  obtain ⟨h_ypea, h_ypeb⟩ := h_ype
  obtain ⟨h_ytka, h_ytkb⟩ := h_ytk
  obtain ⟨h_ysna, h_ysnb⟩ := h_ysn
  refine lv_aload_n hx hb dX4_see_0 rfl (lv_at hl 0 rfl) ?_
  refine lv_iload_n hx hb dX4_see_1 rfl (lv_at hl 1 rfl) ?_
  refine cV_i (As := [.int n]) (rest := []) ⟨hx, hb, hml, hown, hts⟩ (c_X4_isPerson l D cI cZ cM h0 n ype ytk ywi yki yse yno yrh yrw yrk yrt yrp yrq ytx yle yat yfa yby ylo yhi yac ynx yro ygl ysn yso ysp ysw ysd yik ykp _ (show 0 ≤ ype.toInt ∧ ype.toInt ≤ 6 by omega)) (cwV 1 hts gX4_see_X4_isPerson rfl rfl rfl (by decide +kernel) ⟨by rw [hR]; decide, by rw [hR]; decide⟩) hK hP hD hS hA [0] [1, 2, 3] rfl rfl (by decide) (by decide) (by decide) rfl 0 rfl hl.1 rfl rfl (Nat.le_of_ble_eq_true rfl) dX4_see_2 ⟨by rw [hR]; decide, by rw [hR]; decide⟩ (fun r_1 u_2 H locs hw hP hD hS => ?_)
  have hP : va_P D vwCl [(h0, .inr (4, [.int ype, .int ytk, .ref ywi, .ref yki, .ref yse, .ref yno, .ref yrh, .ref yrw, .ref yrk, .ref yrt, .int yrp, .int yrq, .ref ytx, .int yle, .int yat, .int yfa, .ref yby, .ref ylo, .ref yhi, .int yac, .int ynx, .ref yro, .ref ygl, .int ysn, .ref yso, .ref ysp, .ref ysw, .long ysd, .ref yik, .ref ykp])), (yso, .inl (cI, 6, .inl Fso)), (ysp, .inl (cI, 6, .inl Fsp)), (ysw, .inl (cI, 6, .inl Fsw))] H := hP.sub [3, 0, 1, 2] rfl
  have hD : va_D A [(h0, .inr (4, [.int ype, .int ytk, .ref ywi, .ref yki, .ref yse, .ref yno, .ref yrh, .ref yrw, .ref yrk, .ref yrt, .int yrp, .int yrq, .ref ytx, .int yle, .int yat, .int yfa, .ref yby, .ref ylo, .ref yhi, .int yac, .int ynx, .ref yro, .ref ygl, .int ysn, .ref yso, .ref ysp, .ref ysw, .long ysd, .ref yik, .ref ykp])), (yso, .inl (cI, 6, .inl Fso)), (ysp, .inl (cI, 6, .inl Fsp)), (ysw, .inl (cI, 6, .inl Fsw))] := hD.sub [3, 0, 1, 2] (by decide) rfl
  refine W.widen (k := 0) (n := 0) (Nat.le_refl _) (Nat.le_refl _) ?_
  have hw : (r_1.toInt = 1 ∧ 0 ≤ n.toInt ∧ n.toInt < ype.toInt) ∨ (r_1.toInt = 0 ∧ (n.toInt < 0 ∨ ype.toInt ≤ n.toInt)) := hw
  have hw_3 := hw
  refine lv_if_ne (tgt := 10) hx hb dX4_see_5 (by decide) (fun c_4 => ?_) (fun c_4 => ?_)
  · have tc_4 := b_ne rfl (show (0 : Int32).toInt = 0 by decide) c_4
    refine lv_iload_n hx hb dX4_see_10 rfl (lv_at hl 2 rfl) ?_
    obtain ⟨w_5, ew_5⟩ : ∃ z : Int64, k.toInt64 = z := ⟨_, rfl⟩
    have tw_5 : w_5.toInt = k.toInt := by rw [← ew_5, Int32.toInt_toInt64]
    refine lv_i2l hx hb dX4_see_11 ew_5 ?_
    refine lv_lconst (v := 0) hx hb dX4_see_12 (by decide) ?_
    refine lv_ldc2 (v := (9)) hx hb hown (hts (.constantLong RX4 194 (9)) (List.mem_of_getElem? (i := 1) rfl)) dX4_see_13 ?_
    refine cS_i (As := [.long w_5, .long 0, .long (9)]) (rest := []) ⟨hx, hb, hml, hown, hts⟩ (c_X4_in l D cI cZ cM w_5 0 (9) _ ) (va_cwS 3 hts gX4_see_X4_in rfl rfl rfl (by decide +kernel) ⟨by rw [hR]; decide, by rw [hR]; decide⟩) hK hP hD hS hA [] [0, 1, 2, 3] rfl rfl (by decide) (by decide) (by decide) hl.1 rfl rfl (Nat.le_of_ble_eq_true rfl) dX4_see_16 ⟨by rw [hR]; decide, by rw [hR]; decide⟩ (fun r_6 u_7 H locs hw hP hD hS => ?_)
    have hP : va_P D vwCl [(h0, .inr (4, [.int ype, .int ytk, .ref ywi, .ref yki, .ref yse, .ref yno, .ref yrh, .ref yrw, .ref yrk, .ref yrt, .int yrp, .int yrq, .ref ytx, .int yle, .int yat, .int yfa, .ref yby, .ref ylo, .ref yhi, .int yac, .int ynx, .ref yro, .ref ygl, .int ysn, .ref yso, .ref ysp, .ref ysw, .long ysd, .ref yik, .ref ykp])), (yso, .inl (cI, 6, .inl Fso)), (ysp, .inl (cI, 6, .inl Fsp)), (ysw, .inl (cI, 6, .inl Fsw))] H := hP.sub [0, 1, 2, 3] rfl
    have hD : va_D A [(h0, .inr (4, [.int ype, .int ytk, .ref ywi, .ref yki, .ref yse, .ref yno, .ref yrh, .ref yrw, .ref yrk, .ref yrt, .int yrp, .int yrq, .ref ytx, .int yle, .int yat, .int yfa, .ref yby, .ref ylo, .ref yhi, .int yac, .int ynx, .ref yro, .ref ygl, .int ysn, .ref yso, .ref ysp, .ref ysw, .long ysd, .ref yik, .ref ykp])), (yso, .inl (cI, 6, .inl Fso)), (ysp, .inl (cI, 6, .inl Fsp)), (ysw, .inl (cI, 6, .inl Fsw))] := hD.sub [0, 1, 2, 3] (by decide) rfl
    refine W.widen (k := 0) (n := 0) (Nat.le_refl _) (Nat.le_refl _) ?_
    have hw : (r_6.toInt = 1 ∧ (0 : Int) ≤ w_5.toInt ∧ w_5.toInt ≤ (9 : Int)) ∨ (r_6.toInt = 0 ∧ (w_5.toInt < (0 : Int) ∨ (9 : Int) < w_5.toInt)) := hw
    have hw_8 := hw
    refine lv_if_eq (tgt := 34) hx hb dX4_see_19 (by decide) (fun c_9 => ?_) (fun c_9 => ?_)
    · have tc_9 := b_eq rfl (show (0 : Int32).toInt = 0 by decide) c_9
      refine lv_bipush (v := (-2)) hx hb dX4_see_34 (by decide) ?_
      exact ret_i (post := (fun (r : Int32) (u : Int32 × (Nat → Int32) × (Nat → Int32) × (Nat → Int32)) => ((n.toInt < 0 ∨ ype.toInt ≤ n.toInt) ∧ r.toInt = -1 ∧ u.1.toInt = ysn.toInt) ∨ (0 ≤ n.toInt ∧ n.toInt < ype.toInt ∧ (k.toInt < 0 ∨ 10 ≤ k.toInt ∨ j.toInt < 0 ∨ 10 < j.toInt) ∧ r.toInt = -2 ∧ u.1.toInt = ysn.toInt) ∨ (0 ≤ n.toInt ∧ n.toInt < ype.toInt ∧ 0 ≤ k.toInt ∧ k.toInt < 10 ∧ 0 ≤ j.toInt ∧ j.toInt ≤ 10 ∧ ysn.toInt = 6 ∧ r.toInt = -4 ∧ u.1.toInt = ysn.toInt) ∨ (0 ≤ n.toInt ∧ n.toInt < ype.toInt ∧ 0 ≤ k.toInt ∧ k.toInt < 10 ∧ 0 ≤ j.toInt ∧ j.toInt ≤ 10 ∧ ysn.toInt < 6 ∧ r.toInt = ysn.toInt + 1 ∧ u.1.toInt = ysn.toInt + 1))) (W1 := (fun u => [(h0, .inr (4, [.int ype, .int ytk, .ref ywi, .ref yki, .ref yse, .ref yno, .ref yrh, .ref yrw, .ref yrk, .ref yrt, .int yrp, .int yrq, .ref ytx, .int yle, .int yat, .int yfa, .ref yby, .ref ylo, .ref yhi, .int yac, .int ynx, .ref yro, .ref ygl, .int u.1, .ref yso, .ref ysp, .ref ysw, .long ysd, .ref yik, .ref ykp])), (yso, .inl (cI, 6, .inl u.2.1)), (ysp, .inl (cI, 6, .inl u.2.2.1)), (ysw, .inl (cI, 6, .inl u.2.2.2))])) (ysn, Fso, Fsp, Fsw) hx hb hr hlocks rfl hQ hK hP hD hS ⟨by decide, by decide⟩ dX4_see_36 (show ((n.toInt < 0 ∨ ype.toInt ≤ n.toInt) ∧ (-2 : Int) = -1 ∧ ysn.toInt = ysn.toInt) ∨ (0 ≤ n.toInt ∧ n.toInt < ype.toInt ∧ (k.toInt < 0 ∨ 10 ≤ k.toInt ∨ j.toInt < 0 ∨ 10 < j.toInt) ∧ (-2 : Int) = -2 ∧ ysn.toInt = ysn.toInt) ∨ (0 ≤ n.toInt ∧ n.toInt < ype.toInt ∧ 0 ≤ k.toInt ∧ k.toInt < 10 ∧ 0 ≤ j.toInt ∧ j.toInt ≤ 10 ∧ ysn.toInt = 6 ∧ (-2 : Int) = -4 ∧ ysn.toInt = ysn.toInt) ∨ (0 ≤ n.toInt ∧ n.toInt < ype.toInt ∧ 0 ≤ k.toInt ∧ k.toInt < 10 ∧ 0 ≤ j.toInt ∧ j.toInt ≤ 10 ∧ ysn.toInt < 6 ∧ (-2 : Int) = ysn.toInt + 1 ∧ ysn.toInt = ysn.toInt + 1) by omega)
    · have tc_9 := b_ne rfl (show (0 : Int32).toInt = 0 by decide) c_9
      refine lv_iload_n hx hb dX4_see_22 rfl (lv_at hl 3 rfl) ?_
      obtain ⟨w_10, ew_10⟩ : ∃ z : Int64, j.toInt64 = z := ⟨_, rfl⟩
      have tw_10 : w_10.toInt = j.toInt := by rw [← ew_10, Int32.toInt_toInt64]
      refine lv_i2l hx hb dX4_see_23 ew_10 ?_
      refine lv_lconst (v := 0) hx hb dX4_see_24 (by decide) ?_
      refine lv_ldc2 (v := (10)) hx hb hown (hts (.constantLong RX4 155 (10)) (List.mem_of_getElem? (i := 2) rfl)) dX4_see_25 ?_
      refine cS_i (As := [.long w_10, .long 0, .long (10)]) (rest := []) ⟨hx, hb, hml, hown, hts⟩ (c_X4_in l D cI cZ cM w_10 0 (10) _ ) (va_cwS 3 hts gX4_see_X4_in rfl rfl rfl (by decide +kernel) ⟨by rw [hR]; decide, by rw [hR]; decide⟩) hK hP hD hS hA [] [0, 1, 2, 3] rfl rfl (by decide) (by decide) (by decide) hl.1 rfl rfl (Nat.le_of_ble_eq_true rfl) dX4_see_28 ⟨by rw [hR]; decide, by rw [hR]; decide⟩ (fun r_11 u_12 H locs hw hP hD hS => ?_)
      have hP : va_P D vwCl [(h0, .inr (4, [.int ype, .int ytk, .ref ywi, .ref yki, .ref yse, .ref yno, .ref yrh, .ref yrw, .ref yrk, .ref yrt, .int yrp, .int yrq, .ref ytx, .int yle, .int yat, .int yfa, .ref yby, .ref ylo, .ref yhi, .int yac, .int ynx, .ref yro, .ref ygl, .int ysn, .ref yso, .ref ysp, .ref ysw, .long ysd, .ref yik, .ref ykp])), (yso, .inl (cI, 6, .inl Fso)), (ysp, .inl (cI, 6, .inl Fsp)), (ysw, .inl (cI, 6, .inl Fsw))] H := hP.sub [0, 1, 2, 3] rfl
      have hD : va_D A [(h0, .inr (4, [.int ype, .int ytk, .ref ywi, .ref yki, .ref yse, .ref yno, .ref yrh, .ref yrw, .ref yrk, .ref yrt, .int yrp, .int yrq, .ref ytx, .int yle, .int yat, .int yfa, .ref yby, .ref ylo, .ref yhi, .int yac, .int ynx, .ref yro, .ref ygl, .int ysn, .ref yso, .ref ysp, .ref ysw, .long ysd, .ref yik, .ref ykp])), (yso, .inl (cI, 6, .inl Fso)), (ysp, .inl (cI, 6, .inl Fsp)), (ysw, .inl (cI, 6, .inl Fsw))] := hD.sub [0, 1, 2, 3] (by decide) rfl
      refine W.widen (k := 0) (n := 0) (Nat.le_refl _) (Nat.le_refl _) ?_
      have hw : (r_11.toInt = 1 ∧ (0 : Int) ≤ w_10.toInt ∧ w_10.toInt ≤ (10 : Int)) ∨ (r_11.toInt = 0 ∧ (w_10.toInt < (0 : Int) ∨ (10 : Int) < w_10.toInt)) := hw
      have hw_13 := hw
      refine lv_if_ne (tgt := 37) hx hb dX4_see_31 (by decide) (fun c_14 => ?_) (fun c_14 => ?_)
      · have tc_14 := b_ne rfl (show (0 : Int32).toInt = 0 by decide) c_14
        refine lv_aload_n hx hb dX4_see_37 rfl (lv_at hl 0 rfl) ?_
        refine va_get (D := D) (ci := 4) (v := .int ysn) (C := RX4) (T := TX4) (N := 30) hx hb hts iX4 hown hK hP 0 rfl rfl 23 (by decide) (hts (.fieldLink RX4 199 "PunchedTicketModel" "seen" "I") (List.mem_of_getElem? (i := 3) rfl)) (fun _ h9 => h9) rfl dX4_see_38 ?_
        refine lv_bipush (v := 6) hx hb dX4_see_41 (by decide) ?_
        refine lv_icmp_ne (tgt := 49) hx hb dX4_see_43 (by decide) (fun c_15 => ?_) (fun c_15 => ?_)
        · have tc_15 := b_ne rfl (show (6 : Int32).toInt = 6 by decide) c_15
          refine lv_aload_n hx hb dX4_see_49 rfl (lv_at hl 0 rfl) ?_
          refine va_get (D := D) (ci := 4) (v := .ref yso) (C := RX4) (T := TX4) (N := 30) hx hb hts iX4 hown hK hP 0 rfl rfl 24 (by decide) (hts (.fieldLink RX4 52 "PunchedTicketModel" "seenOf" "[I") (List.mem_of_getElem? (i := 4) rfl)) (fun _ h9 => h9) rfl dX4_see_50 ?_
          refine lv_aload_n hx hb dX4_see_53 rfl (lv_at hl 0 rfl) ?_
          refine va_get (D := D) (ci := 4) (v := .int ysn) (C := RX4) (T := TX4) (N := 30) hx hb hts iX4 hown hK hP 0 rfl rfl 23 (by decide) (hts (.fieldLink RX4 199 "PunchedTicketModel" "seen" "I") (List.mem_of_getElem? (i := 3) rfl)) (fun _ h9 => h9) rfl dX4_see_54 ?_
          refine lv_iload_n hx hb dX4_see_57 rfl (lv_at hl 1 rfl) ?_
          refine va_iast hx hb hK hP hD hS 1 0 rfl rfl (vp_in_iff.mpr ⟨by omega, by omega⟩) dX4_see_58 (fun H locs hP hD hS => ?_)
          obtain ⟨f_16, ef_16⟩ : ∃ g : Nat → Int32, upd Fso (ysn : Int32).toNatClampNeg n = g := ⟨_, rfl⟩
          rw [ef_16] at hP hD
          have hP : va_P D vwCl [(h0, .inr (4, [.int ype, .int ytk, .ref ywi, .ref yki, .ref yse, .ref yno, .ref yrh, .ref yrw, .ref yrk, .ref yrt, .int yrp, .int yrq, .ref ytx, .int yle, .int yat, .int yfa, .ref yby, .ref ylo, .ref yhi, .int yac, .int ynx, .ref yro, .ref ygl, .int ysn, .ref yso, .ref ysp, .ref ysw, .long ysd, .ref yik, .ref ykp])), (yso, .inl (cI, 6, .inl f_16)), (ysp, .inl (cI, 6, .inl Fsp)), (ysw, .inl (cI, 6, .inl Fsw))] H := hP
          have hD : va_D A [(h0, .inr (4, [.int ype, .int ytk, .ref ywi, .ref yki, .ref yse, .ref yno, .ref yrh, .ref yrw, .ref yrk, .ref yrt, .int yrp, .int yrq, .ref ytx, .int yle, .int yat, .int yfa, .ref yby, .ref ylo, .ref yhi, .int yac, .int ynx, .ref yro, .ref ygl, .int ysn, .ref yso, .ref ysp, .ref ysw, .long ysd, .ref yik, .ref ykp])), (yso, .inl (cI, 6, .inl f_16)), (ysp, .inl (cI, 6, .inl Fsp)), (ysw, .inl (cI, 6, .inl Fsw))] := hD
          refine lv_aload_n hx hb dX4_see_59 rfl (lv_at hl 0 rfl) ?_
          refine va_get (D := D) (ci := 4) (v := .ref ysp) (C := RX4) (T := TX4) (N := 30) hx hb hts iX4 hown hK hP 0 rfl rfl 25 (by decide) (hts (.fieldLink RX4 55 "PunchedTicketModel" "seenOn" "[I") (List.mem_of_getElem? (i := 5) rfl)) (fun _ h9 => h9) rfl dX4_see_60 ?_
          refine lv_aload_n hx hb dX4_see_63 rfl (lv_at hl 0 rfl) ?_
          refine va_get (D := D) (ci := 4) (v := .int ysn) (C := RX4) (T := TX4) (N := 30) hx hb hts iX4 hown hK hP 0 rfl rfl 23 (by decide) (hts (.fieldLink RX4 199 "PunchedTicketModel" "seen" "I") (List.mem_of_getElem? (i := 3) rfl)) (fun _ h9 => h9) rfl dX4_see_64 ?_
          refine lv_iload_n hx hb dX4_see_67 rfl (lv_at hl 2 rfl) ?_
          refine va_iast hx hb hK hP hD hS 2 0 rfl rfl (vp_in_iff.mpr ⟨by omega, by omega⟩) dX4_see_68 (fun H locs hP hD hS => ?_)
          obtain ⟨f_17, ef_17⟩ : ∃ g : Nat → Int32, upd Fsp (ysn : Int32).toNatClampNeg k = g := ⟨_, rfl⟩
          rw [ef_17] at hP hD
          have hP : va_P D vwCl [(h0, .inr (4, [.int ype, .int ytk, .ref ywi, .ref yki, .ref yse, .ref yno, .ref yrh, .ref yrw, .ref yrk, .ref yrt, .int yrp, .int yrq, .ref ytx, .int yle, .int yat, .int yfa, .ref yby, .ref ylo, .ref yhi, .int yac, .int ynx, .ref yro, .ref ygl, .int ysn, .ref yso, .ref ysp, .ref ysw, .long ysd, .ref yik, .ref ykp])), (yso, .inl (cI, 6, .inl f_16)), (ysp, .inl (cI, 6, .inl f_17)), (ysw, .inl (cI, 6, .inl Fsw))] H := hP
          have hD : va_D A [(h0, .inr (4, [.int ype, .int ytk, .ref ywi, .ref yki, .ref yse, .ref yno, .ref yrh, .ref yrw, .ref yrk, .ref yrt, .int yrp, .int yrq, .ref ytx, .int yle, .int yat, .int yfa, .ref yby, .ref ylo, .ref yhi, .int yac, .int ynx, .ref yro, .ref ygl, .int ysn, .ref yso, .ref ysp, .ref ysw, .long ysd, .ref yik, .ref ykp])), (yso, .inl (cI, 6, .inl f_16)), (ysp, .inl (cI, 6, .inl f_17)), (ysw, .inl (cI, 6, .inl Fsw))] := hD
          refine lv_aload_n hx hb dX4_see_69 rfl (lv_at hl 0 rfl) ?_
          refine va_get (D := D) (ci := 4) (v := .ref ysw) (C := RX4) (T := TX4) (N := 30) hx hb hts iX4 hown hK hP 0 rfl rfl 26 (by decide) (hts (.fieldLink RX4 58 "PunchedTicketModel" "seenWhen" "[I") (List.mem_of_getElem? (i := 6) rfl)) (fun _ h9 => h9) rfl dX4_see_70 ?_
          refine lv_aload_n hx hb dX4_see_73 rfl (lv_at hl 0 rfl) ?_
          refine va_get (D := D) (ci := 4) (v := .int ysn) (C := RX4) (T := TX4) (N := 30) hx hb hts iX4 hown hK hP 0 rfl rfl 23 (by decide) (hts (.fieldLink RX4 199 "PunchedTicketModel" "seen" "I") (List.mem_of_getElem? (i := 3) rfl)) (fun _ h9 => h9) rfl dX4_see_74 ?_
          refine lv_iload_n hx hb dX4_see_77 rfl (lv_at hl 3 rfl) ?_
          refine va_iast hx hb hK hP hD hS 3 0 rfl rfl (vp_in_iff.mpr ⟨by omega, by omega⟩) dX4_see_78 (fun H locs hP hD hS => ?_)
          obtain ⟨f_18, ef_18⟩ : ∃ g : Nat → Int32, upd Fsw (ysn : Int32).toNatClampNeg j = g := ⟨_, rfl⟩
          rw [ef_18] at hP hD
          have hP : va_P D vwCl [(h0, .inr (4, [.int ype, .int ytk, .ref ywi, .ref yki, .ref yse, .ref yno, .ref yrh, .ref yrw, .ref yrk, .ref yrt, .int yrp, .int yrq, .ref ytx, .int yle, .int yat, .int yfa, .ref yby, .ref ylo, .ref yhi, .int yac, .int ynx, .ref yro, .ref ygl, .int ysn, .ref yso, .ref ysp, .ref ysw, .long ysd, .ref yik, .ref ykp])), (yso, .inl (cI, 6, .inl f_16)), (ysp, .inl (cI, 6, .inl f_17)), (ysw, .inl (cI, 6, .inl f_18))] H := hP
          have hD : va_D A [(h0, .inr (4, [.int ype, .int ytk, .ref ywi, .ref yki, .ref yse, .ref yno, .ref yrh, .ref yrw, .ref yrk, .ref yrt, .int yrp, .int yrq, .ref ytx, .int yle, .int yat, .int yfa, .ref yby, .ref ylo, .ref yhi, .int yac, .int ynx, .ref yro, .ref ygl, .int ysn, .ref yso, .ref ysp, .ref ysw, .long ysd, .ref yik, .ref ykp])), (yso, .inl (cI, 6, .inl f_16)), (ysp, .inl (cI, 6, .inl f_17)), (ysw, .inl (cI, 6, .inl f_18))] := hD
          refine lv_aload_n hx hb dX4_see_79 rfl (lv_at hl 0 rfl) ?_
          refine lv_dup hx hb dX4_see_80 rfl ?_
          refine va_get (D := D) (ci := 4) (v := .int ysn) (C := RX4) (T := TX4) (N := 30) hx hb hts iX4 hown hK hP 0 rfl rfl 23 (by decide) (hts (.fieldLink RX4 199 "PunchedTicketModel" "seen" "I") (List.mem_of_getElem? (i := 3) rfl)) (fun _ h9 => h9) rfl dX4_see_81 ?_
          refine lv_iconst (v := 1) hx hb dX4_see_84 (by decide) ?_
          refine lv_iadd hx hb dX4_see_85 ?_
          refine lv_topi (fun v_19 ev_19 => ?_)
          have tv_19 : v_19.toInt = ysn.toInt + (1 : Int) := by rw [ev_19]; exact ti_add (x := ysn) (y := 1) (show -2147483648 ≤ ysn.toInt + (1 : Int) by omega) (show ysn.toInt + (1 : Int) < 2147483648 by omega)
          refine va_put (D := D) (ci := 4) (v := .int v_19) (ty := .int) (C := RX4) (T := TX4) (N := 30) hx hb hts iX4 tyX4 tyX4_ok nmX4 hown hK hP hD hS 0 rfl rfl 23 (by decide) (hts (.fieldLink RX4 199 "PunchedTicketModel" "seen" "I") (List.mem_of_getElem? (i := 3) rfl)) (fun _ h9 => h9) rfl (by decide +kernel) rfl rfl (Nat.le_of_ble_eq_true rfl) dX4_see_86 (fun H locs hP hD hS => ?_)
          have hP : va_P D vwCl [(h0, .inr (4, [.int ype, .int ytk, .ref ywi, .ref yki, .ref yse, .ref yno, .ref yrh, .ref yrw, .ref yrk, .ref yrt, .int yrp, .int yrq, .ref ytx, .int yle, .int yat, .int yfa, .ref yby, .ref ylo, .ref yhi, .int yac, .int ynx, .ref yro, .ref ygl, .int v_19, .ref yso, .ref ysp, .ref ysw, .long ysd, .ref yik, .ref ykp])), (yso, .inl (cI, 6, .inl f_16)), (ysp, .inl (cI, 6, .inl f_17)), (ysw, .inl (cI, 6, .inl f_18))] H := hP
          have hD : va_D A [(h0, .inr (4, [.int ype, .int ytk, .ref ywi, .ref yki, .ref yse, .ref yno, .ref yrh, .ref yrw, .ref yrk, .ref yrt, .int yrp, .int yrq, .ref ytx, .int yle, .int yat, .int yfa, .ref yby, .ref ylo, .ref yhi, .int yac, .int ynx, .ref yro, .ref ygl, .int v_19, .ref yso, .ref ysp, .ref ysw, .long ysd, .ref yik, .ref ykp])), (yso, .inl (cI, 6, .inl f_16)), (ysp, .inl (cI, 6, .inl f_17)), (ysw, .inl (cI, 6, .inl f_18))] := hD
          refine lv_aload_n hx hb dX4_see_89 rfl (lv_at hl 0 rfl) ?_
          refine va_get (D := D) (ci := 4) (v := .int v_19) (C := RX4) (T := TX4) (N := 30) hx hb hts iX4 hown hK hP 0 rfl rfl 23 (by decide) (hts (.fieldLink RX4 199 "PunchedTicketModel" "seen" "I") (List.mem_of_getElem? (i := 3) rfl)) (fun _ h9 => h9) rfl dX4_see_90 ?_
          exact ret_i (post := (fun (r : Int32) (u : Int32 × (Nat → Int32) × (Nat → Int32) × (Nat → Int32)) => ((n.toInt < 0 ∨ ype.toInt ≤ n.toInt) ∧ r.toInt = -1 ∧ u.1.toInt = ysn.toInt) ∨ (0 ≤ n.toInt ∧ n.toInt < ype.toInt ∧ (k.toInt < 0 ∨ 10 ≤ k.toInt ∨ j.toInt < 0 ∨ 10 < j.toInt) ∧ r.toInt = -2 ∧ u.1.toInt = ysn.toInt) ∨ (0 ≤ n.toInt ∧ n.toInt < ype.toInt ∧ 0 ≤ k.toInt ∧ k.toInt < 10 ∧ 0 ≤ j.toInt ∧ j.toInt ≤ 10 ∧ ysn.toInt = 6 ∧ r.toInt = -4 ∧ u.1.toInt = ysn.toInt) ∨ (0 ≤ n.toInt ∧ n.toInt < ype.toInt ∧ 0 ≤ k.toInt ∧ k.toInt < 10 ∧ 0 ≤ j.toInt ∧ j.toInt ≤ 10 ∧ ysn.toInt < 6 ∧ r.toInt = ysn.toInt + 1 ∧ u.1.toInt = ysn.toInt + 1))) (W1 := (fun u => [(h0, .inr (4, [.int ype, .int ytk, .ref ywi, .ref yki, .ref yse, .ref yno, .ref yrh, .ref yrw, .ref yrk, .ref yrt, .int yrp, .int yrq, .ref ytx, .int yle, .int yat, .int yfa, .ref yby, .ref ylo, .ref yhi, .int yac, .int ynx, .ref yro, .ref ygl, .int u.1, .ref yso, .ref ysp, .ref ysw, .long ysd, .ref yik, .ref ykp])), (yso, .inl (cI, 6, .inl u.2.1)), (ysp, .inl (cI, 6, .inl u.2.2.1)), (ysw, .inl (cI, 6, .inl u.2.2.2))])) (v_19, f_16, f_17, f_18) hx hb hr hlocks rfl hQ hK hP hD hS ⟨by decide, by decide⟩ dX4_see_93 (show ((n.toInt < 0 ∨ ype.toInt ≤ n.toInt) ∧ v_19.toInt = -1 ∧ v_19.toInt = ysn.toInt) ∨ (0 ≤ n.toInt ∧ n.toInt < ype.toInt ∧ (k.toInt < 0 ∨ 10 ≤ k.toInt ∨ j.toInt < 0 ∨ 10 < j.toInt) ∧ v_19.toInt = -2 ∧ v_19.toInt = ysn.toInt) ∨ (0 ≤ n.toInt ∧ n.toInt < ype.toInt ∧ 0 ≤ k.toInt ∧ k.toInt < 10 ∧ 0 ≤ j.toInt ∧ j.toInt ≤ 10 ∧ ysn.toInt = 6 ∧ v_19.toInt = -4 ∧ v_19.toInt = ysn.toInt) ∨ (0 ≤ n.toInt ∧ n.toInt < ype.toInt ∧ 0 ≤ k.toInt ∧ k.toInt < 10 ∧ 0 ≤ j.toInt ∧ j.toInt ≤ 10 ∧ ysn.toInt < 6 ∧ v_19.toInt = ysn.toInt + 1 ∧ v_19.toInt = ysn.toInt + 1) by omega)
        · have tc_15 := b_eq rfl (show (6 : Int32).toInt = 6 by decide) c_15
          refine lv_bipush (v := (-4)) hx hb dX4_see_46 (by decide) ?_
          exact ret_i (post := (fun (r : Int32) (u : Int32 × (Nat → Int32) × (Nat → Int32) × (Nat → Int32)) => ((n.toInt < 0 ∨ ype.toInt ≤ n.toInt) ∧ r.toInt = -1 ∧ u.1.toInt = ysn.toInt) ∨ (0 ≤ n.toInt ∧ n.toInt < ype.toInt ∧ (k.toInt < 0 ∨ 10 ≤ k.toInt ∨ j.toInt < 0 ∨ 10 < j.toInt) ∧ r.toInt = -2 ∧ u.1.toInt = ysn.toInt) ∨ (0 ≤ n.toInt ∧ n.toInt < ype.toInt ∧ 0 ≤ k.toInt ∧ k.toInt < 10 ∧ 0 ≤ j.toInt ∧ j.toInt ≤ 10 ∧ ysn.toInt = 6 ∧ r.toInt = -4 ∧ u.1.toInt = ysn.toInt) ∨ (0 ≤ n.toInt ∧ n.toInt < ype.toInt ∧ 0 ≤ k.toInt ∧ k.toInt < 10 ∧ 0 ≤ j.toInt ∧ j.toInt ≤ 10 ∧ ysn.toInt < 6 ∧ r.toInt = ysn.toInt + 1 ∧ u.1.toInt = ysn.toInt + 1))) (W1 := (fun u => [(h0, .inr (4, [.int ype, .int ytk, .ref ywi, .ref yki, .ref yse, .ref yno, .ref yrh, .ref yrw, .ref yrk, .ref yrt, .int yrp, .int yrq, .ref ytx, .int yle, .int yat, .int yfa, .ref yby, .ref ylo, .ref yhi, .int yac, .int ynx, .ref yro, .ref ygl, .int u.1, .ref yso, .ref ysp, .ref ysw, .long ysd, .ref yik, .ref ykp])), (yso, .inl (cI, 6, .inl u.2.1)), (ysp, .inl (cI, 6, .inl u.2.2.1)), (ysw, .inl (cI, 6, .inl u.2.2.2))])) (ysn, Fso, Fsp, Fsw) hx hb hr hlocks rfl hQ hK hP hD hS ⟨by decide, by decide⟩ dX4_see_48 (show ((n.toInt < 0 ∨ ype.toInt ≤ n.toInt) ∧ (-4 : Int) = -1 ∧ ysn.toInt = ysn.toInt) ∨ (0 ≤ n.toInt ∧ n.toInt < ype.toInt ∧ (k.toInt < 0 ∨ 10 ≤ k.toInt ∨ j.toInt < 0 ∨ 10 < j.toInt) ∧ (-4 : Int) = -2 ∧ ysn.toInt = ysn.toInt) ∨ (0 ≤ n.toInt ∧ n.toInt < ype.toInt ∧ 0 ≤ k.toInt ∧ k.toInt < 10 ∧ 0 ≤ j.toInt ∧ j.toInt ≤ 10 ∧ ysn.toInt = 6 ∧ (-4 : Int) = -4 ∧ ysn.toInt = ysn.toInt) ∨ (0 ≤ n.toInt ∧ n.toInt < ype.toInt ∧ 0 ≤ k.toInt ∧ k.toInt < 10 ∧ 0 ≤ j.toInt ∧ j.toInt ≤ 10 ∧ ysn.toInt < 6 ∧ (-4 : Int) = ysn.toInt + 1 ∧ ysn.toInt = ysn.toInt + 1) by omega)
      · have tc_14 := b_eq rfl (show (0 : Int32).toInt = 0 by decide) c_14
        refine lv_bipush (v := (-2)) hx hb dX4_see_34 (by decide) ?_
        exact ret_i (post := (fun (r : Int32) (u : Int32 × (Nat → Int32) × (Nat → Int32) × (Nat → Int32)) => ((n.toInt < 0 ∨ ype.toInt ≤ n.toInt) ∧ r.toInt = -1 ∧ u.1.toInt = ysn.toInt) ∨ (0 ≤ n.toInt ∧ n.toInt < ype.toInt ∧ (k.toInt < 0 ∨ 10 ≤ k.toInt ∨ j.toInt < 0 ∨ 10 < j.toInt) ∧ r.toInt = -2 ∧ u.1.toInt = ysn.toInt) ∨ (0 ≤ n.toInt ∧ n.toInt < ype.toInt ∧ 0 ≤ k.toInt ∧ k.toInt < 10 ∧ 0 ≤ j.toInt ∧ j.toInt ≤ 10 ∧ ysn.toInt = 6 ∧ r.toInt = -4 ∧ u.1.toInt = ysn.toInt) ∨ (0 ≤ n.toInt ∧ n.toInt < ype.toInt ∧ 0 ≤ k.toInt ∧ k.toInt < 10 ∧ 0 ≤ j.toInt ∧ j.toInt ≤ 10 ∧ ysn.toInt < 6 ∧ r.toInt = ysn.toInt + 1 ∧ u.1.toInt = ysn.toInt + 1))) (W1 := (fun u => [(h0, .inr (4, [.int ype, .int ytk, .ref ywi, .ref yki, .ref yse, .ref yno, .ref yrh, .ref yrw, .ref yrk, .ref yrt, .int yrp, .int yrq, .ref ytx, .int yle, .int yat, .int yfa, .ref yby, .ref ylo, .ref yhi, .int yac, .int ynx, .ref yro, .ref ygl, .int u.1, .ref yso, .ref ysp, .ref ysw, .long ysd, .ref yik, .ref ykp])), (yso, .inl (cI, 6, .inl u.2.1)), (ysp, .inl (cI, 6, .inl u.2.2.1)), (ysw, .inl (cI, 6, .inl u.2.2.2))])) (ysn, Fso, Fsp, Fsw) hx hb hr hlocks rfl hQ hK hP hD hS ⟨by decide, by decide⟩ dX4_see_36 (show ((n.toInt < 0 ∨ ype.toInt ≤ n.toInt) ∧ (-2 : Int) = -1 ∧ ysn.toInt = ysn.toInt) ∨ (0 ≤ n.toInt ∧ n.toInt < ype.toInt ∧ (k.toInt < 0 ∨ 10 ≤ k.toInt ∨ j.toInt < 0 ∨ 10 < j.toInt) ∧ (-2 : Int) = -2 ∧ ysn.toInt = ysn.toInt) ∨ (0 ≤ n.toInt ∧ n.toInt < ype.toInt ∧ 0 ≤ k.toInt ∧ k.toInt < 10 ∧ 0 ≤ j.toInt ∧ j.toInt ≤ 10 ∧ ysn.toInt = 6 ∧ (-2 : Int) = -4 ∧ ysn.toInt = ysn.toInt) ∨ (0 ≤ n.toInt ∧ n.toInt < ype.toInt ∧ 0 ≤ k.toInt ∧ k.toInt < 10 ∧ 0 ≤ j.toInt ∧ j.toInt ≤ 10 ∧ ysn.toInt < 6 ∧ (-2 : Int) = ysn.toInt + 1 ∧ ysn.toInt = ysn.toInt + 1) by omega)
  · have tc_4 := b_eq rfl (show (0 : Int32).toInt = 0 by decide) c_4
    refine lv_iconst (v := (-1)) hx hb dX4_see_8 (by decide) ?_
    exact ret_i (post := (fun (r : Int32) (u : Int32 × (Nat → Int32) × (Nat → Int32) × (Nat → Int32)) => ((n.toInt < 0 ∨ ype.toInt ≤ n.toInt) ∧ r.toInt = -1 ∧ u.1.toInt = ysn.toInt) ∨ (0 ≤ n.toInt ∧ n.toInt < ype.toInt ∧ (k.toInt < 0 ∨ 10 ≤ k.toInt ∨ j.toInt < 0 ∨ 10 < j.toInt) ∧ r.toInt = -2 ∧ u.1.toInt = ysn.toInt) ∨ (0 ≤ n.toInt ∧ n.toInt < ype.toInt ∧ 0 ≤ k.toInt ∧ k.toInt < 10 ∧ 0 ≤ j.toInt ∧ j.toInt ≤ 10 ∧ ysn.toInt = 6 ∧ r.toInt = -4 ∧ u.1.toInt = ysn.toInt) ∨ (0 ≤ n.toInt ∧ n.toInt < ype.toInt ∧ 0 ≤ k.toInt ∧ k.toInt < 10 ∧ 0 ≤ j.toInt ∧ j.toInt ≤ 10 ∧ ysn.toInt < 6 ∧ r.toInt = ysn.toInt + 1 ∧ u.1.toInt = ysn.toInt + 1))) (W1 := (fun u => [(h0, .inr (4, [.int ype, .int ytk, .ref ywi, .ref yki, .ref yse, .ref yno, .ref yrh, .ref yrw, .ref yrk, .ref yrt, .int yrp, .int yrq, .ref ytx, .int yle, .int yat, .int yfa, .ref yby, .ref ylo, .ref yhi, .int yac, .int ynx, .ref yro, .ref ygl, .int u.1, .ref yso, .ref ysp, .ref ysw, .long ysd, .ref yik, .ref ykp])), (yso, .inl (cI, 6, .inl u.2.1)), (ysp, .inl (cI, 6, .inl u.2.2.1)), (ysw, .inl (cI, 6, .inl u.2.2.2))])) (ysn, Fso, Fsp, Fsw) hx hb hr hlocks rfl hQ hK hP hD hS ⟨by decide, by decide⟩ dX4_see_9 (show ((n.toInt < 0 ∨ ype.toInt ≤ n.toInt) ∧ (-1 : Int) = -1 ∧ ysn.toInt = ysn.toInt) ∨ (0 ≤ n.toInt ∧ n.toInt < ype.toInt ∧ (k.toInt < 0 ∨ 10 ≤ k.toInt ∨ j.toInt < 0 ∨ 10 < j.toInt) ∧ (-1 : Int) = -2 ∧ ysn.toInt = ysn.toInt) ∨ (0 ≤ n.toInt ∧ n.toInt < ype.toInt ∧ 0 ≤ k.toInt ∧ k.toInt < 10 ∧ 0 ≤ j.toInt ∧ j.toInt ≤ 10 ∧ ysn.toInt = 6 ∧ (-1 : Int) = -4 ∧ ysn.toInt = ysn.toInt) ∨ (0 ≤ n.toInt ∧ n.toInt < ype.toInt ∧ 0 ≤ k.toInt ∧ k.toInt < 10 ∧ 0 ≤ j.toInt ∧ j.toInt ≤ 10 ∧ ysn.toInt < 6 ∧ (-1 : Int) = ysn.toInt + 1 ∧ ysn.toInt = ysn.toInt + 1) by omega)

set_option maxHeartbeats 600000 in
set_option maxRecDepth 100000 in
theorem c_X4_isSeen (l : Launch) (D : va_G) (cI cZ cM : ClassId) (h0 : Nat) (ype : Int32) (ytk : Int32) (ywi : Nat) (yki : Nat) (yse : Nat) (yno : Nat) (yrh : Nat) (yrw : Nat) (yrk : Nat) (yrt : Nat) (yrp : Int32) (yrq : Int32) (ytx : Nat) (yle : Int32) (yat : Int32) (yfa : Int32) (yby : Nat) (ylo : Nat) (yhi : Nat) (yac : Int32) (ynx : Int32) (yro : Nat) (ygl : Nat) (ysn : Int32) (yso : Nat) (ysp : Nat) (ysw : Nat) (ysd : Int64) (yik : Nat) (ykp : Nat) (Fno : Nat → Int32) (Fso : Nat → Int32) (Fsp : Nat → Int32) (Fsw : Nat → Int32) (sz : Nat) (h_ype : 0 ≤ ype.toInt ∧ ype.toInt ≤ 5) (h_ytk : 0 ≤ ytk.toInt ∧ ytk.toInt ≤ 6) (h_ysn : 0 ≤ ysn.toInt ∧ ysn.toInt ≤ 6) : Ci l yX4_isSeen wsX4_isSeen ({ frames := 2, cells := 0, slots := 0, locals := 46 } : Room) D cI cZ cM [.ref h0] [(h0, .inr (4, [.int ype, .int ytk, .ref ywi, .ref yki, .ref yse, .ref yno, .ref yrh, .ref yrw, .ref yrk, .ref yrt, .int yrp, .int yrq, .ref ytx, .int yle, .int yat, .int yfa, .ref yby, .ref ylo, .ref yhi, .int yac, .int ynx, .ref yro, .ref ygl, .int ysn, .ref yso, .ref ysp, .ref ysw, .long ysd, .ref yik, .ref ykp])), (yno, .inl (cI, 96, .inl Fno)), (yso, .inl (cI, 6, .inl Fso)), (ysp, .inl (cI, 6, .inl Fsp)), (ysw, .inl (cI, 6, .inl Fsw))] sz (fun (r : Int32) (u : Unit) => (r.toInt = 0 ∨ r.toInt = 1)) (fun u => [(h0, .inr (4, [.int ype, .int ytk, .ref ywi, .ref yki, .ref yse, .ref yno, .ref yrh, .ref yrw, .ref yrk, .ref yrt, .int yrp, .int yrq, .ref ytx, .int yle, .int yat, .int yfa, .ref yby, .ref ylo, .ref yhi, .int yac, .int ynx, .ref yro, .ref ygl, .int ysn, .ref yso, .ref ysp, .ref ysw, .long ysd, .ref yik, .ref ykp])), (yno, .inl (cI, 96, .inl Fno)), (yso, .inl (cI, 6, .inl Fso)), (ysp, .inl (cI, 6, .inl Fsp)), (ysw, .inl (cI, 6, .inl Fsw))]) 0 0 := by
  refine begins (l := l) (y := yX4_isSeen) (ws := wsX4_isSeen) (av := [.ref h0]) (Qc := fun A => va_Qi (fun (r : Int32) (u : Unit) => (r.toInt = 0 ∨ r.toInt = 1)) (fun u => Wd D cI cZ cM A ((fun u => [(h0, .inr (4, [.int ype, .int ytk, .ref ywi, .ref yki, .ref yse, .ref yno, .ref yrh, .ref yrw, .ref yrk, .ref yrt, .int yrp, .int yrq, .ref ytx, .int yle, .int yat, .int yfa, .ref yby, .ref ylo, .ref yhi, .int yac, .int ynx, .ref yro, .ref ygl, .int ysn, .ref yso, .ref ysp, .ref ysw, .long ysd, .ref yik, .ref ykp])), (yno, .inl (cI, 96, .inl Fno)), (yso, .inl (cI, 6, .inl Fso)), (ysp, .inl (cI, 6, .inl Fsp)), (ysw, .inl (cI, 6, .inl Fsw))]) u)) A) cX4_isSeen 4 (some .boolean) (by decide) rfl (Nat.le_of_ble_eq_true rfl) ?_
  intro p e s m args below meth c R Q A ls hBd hR hQ hA hS hK hP hD hl
  obtain ⟨hx, hb, hr, hts, hown, hlocks, hin, hml⟩ := hBd
  have hl : lv_has ls 4 [(0, .ref h0)] := hl
  have iX4 : ∀ w ∈ wsX40, w ∈ wsX4_isSeen := fun _ h => List.mem_cons_of_mem _ (List.mem_append_right _ h)
  obtain ⟨h_ypea, h_ypeb⟩ := h_ype
  obtain ⟨h_ytka, h_ytkb⟩ := h_ytk
  obtain ⟨h_ysna, h_ysnb⟩ := h_ysn
  refine lv_iconst (v := 1) hx hb dX4_isSeen_0 (by decide) ?_
  refine lv_istore_n (lv' := [(1, .int 1), (0, .ref h0)]) hx hb dX4_isSeen_1 rfl hl (by decide) rfl (fun ls hl => ?_)
  refine lv_iconst (v := 0) hx hb dX4_isSeen_2 (by decide) ?_
  refine lv_istore_n (lv' := [(2, .int 0), (1, .int 1), (0, .ref h0)]) hx hb dX4_isSeen_3 rfl hl (by decide) rfl (fun ls hl => ?_)
  have LOOP_1 : ∀ (fu_1 : Nat) (w1 : Int32) (x2 : Int32) (H : Heap) (locs : List Loc) (ls : Array Slot), (6 - x2.toInt).toNat < fu_1 → (0 ≤ w1.toInt ∧ w1.toInt ≤ 1) → (0 ≤ x2.toInt ∧ x2.toInt ≤ 6) → va_P D vwCl [(h0, .inr (4, [.int ype, .int ytk, .ref ywi, .ref yki, .ref yse, .ref yno, .ref yrh, .ref yrw, .ref yrk, .ref yrt, .int yrp, .int yrq, .ref ytx, .int yle, .int yat, .int yfa, .ref yby, .ref ylo, .ref yhi, .int yac, .int ynx, .ref yro, .ref ygl, .int ysn, .ref yso, .ref ysp, .ref ysw, .long ysd, .ref yik, .ref ykp])), (yno, .inl (cI, 96, .inl Fno)), (yso, .inl (cI, 6, .inl Fso)), (ysp, .inl (cI, 6, .inl Fsp)), (ysw, .inl (cI, 6, .inl Fsw))] H → va_D A [(h0, .inr (4, [.int ype, .int ytk, .ref ywi, .ref yki, .ref yse, .ref yno, .ref yrh, .ref yrw, .ref yrk, .ref yrt, .int yrp, .int yrq, .ref ytx, .int yle, .int yat, .int yfa, .ref yby, .ref ylo, .ref yhi, .int yac, .int ynx, .ref yro, .ref ygl, .int ysn, .ref yso, .ref ysp, .ref ysw, .long ysd, .ref yik, .ref ykp])), (yno, .inl (cI, 96, .inl Fno)), (yso, .inl (cI, 6, .inl Fso)), (ysp, .inl (cI, 6, .inl Fsp)), (ysw, .inl (cI, 6, .inl Fsw))] → va_S A s.heap H locs → lv_has ls 4 [(0, .ref h0), (1, .int w1), (2, .int x2)] → W p l e R s m args below meth c H locs 0 0 Q (F0 m 4 ls []) := by
    intro fu_1
    induction fu_1 with
    | zero => intro w1 x2 H locs ls hmu; exact absurd hmu (Nat.not_lt_zero _)
    | succ fu_1 ih =>
      intro w1 x2 H locs ls hmu h_w1 h_x2 hP hD hS hl
      obtain ⟨h_w1a, h_w1b⟩ := h_w1
      obtain ⟨h_x2a, h_x2b⟩ := h_x2
      have ih_2 := ih
      clear ih
      refine lv_iload_n hx hb dX4_isSeen_4 rfl (lv_at hl 2 rfl) ?_
      refine lv_aload_n hx hb dX4_isSeen_5 rfl (lv_at hl 0 rfl) ?_
      refine va_get (D := D) (ci := 4) (v := .int ysn) (C := RX4) (T := TX4) (N := 30) hx hb hts iX4 hown hK hP 0 rfl rfl 23 (by decide) (hts (.fieldLink RX4 199 "PunchedTicketModel" "seen" "I") (List.mem_of_getElem? (i := 1) rfl)) (fun _ h9 => h9) rfl dX4_isSeen_6 ?_
      refine lv_icmp_ge (tgt := 90) hx hb dX4_isSeen_9 (by decide) (fun c_3 => ?_) (fun c_3 => ?_)
      · have tc_3 := b_le rfl rfl c_3
        refine lv_iload_n hx hb dX4_isSeen_90 rfl (lv_at hl 1 rfl) ?_
        exact ret_i (post := (fun (r : Int32) (u : Unit) => (r.toInt = 0 ∨ r.toInt = 1))) (W1 := (fun u => [(h0, .inr (4, [.int ype, .int ytk, .ref ywi, .ref yki, .ref yse, .ref yno, .ref yrh, .ref yrw, .ref yrk, .ref yrt, .int yrp, .int yrq, .ref ytx, .int yle, .int yat, .int yfa, .ref yby, .ref ylo, .ref yhi, .int yac, .int ynx, .ref yro, .ref ygl, .int ysn, .ref yso, .ref ysp, .ref ysw, .long ysd, .ref yik, .ref ykp])), (yno, .inl (cI, 96, .inl Fno)), (yso, .inl (cI, 6, .inl Fso)), (ysp, .inl (cI, 6, .inl Fsp)), (ysw, .inl (cI, 6, .inl Fsw))])) () hx hb hr hlocks (nar_z (show w1.toInt = 0 ∨ w1.toInt = 1 by omega)) hQ hK hP hD hS ⟨by decide, by decide⟩ dX4_isSeen_91 (show (w1.toInt = 0 ∨ w1.toInt = 1) by omega)
      · have tc_3 := b_nle rfl rfl c_3
        refine lv_aload_n hx hb dX4_isSeen_12 rfl (lv_at hl 0 rfl) ?_
        refine va_get (D := D) (ci := 4) (v := .ref ysw) (C := RX4) (T := TX4) (N := 30) hx hb hts iX4 hown hK hP 0 rfl rfl 26 (by decide) (hts (.fieldLink RX4 58 "PunchedTicketModel" "seenWhen" "[I") (List.mem_of_getElem? (i := 2) rfl)) (fun _ h9 => h9) rfl dX4_isSeen_13 ?_
        refine lv_iload_n hx hb dX4_isSeen_16 rfl (lv_at hl 2 rfl) ?_
        refine va_iald hx hb hK hP 4 0 rfl rfl (vp_in_iff.mpr ⟨by omega, by omega⟩) dX4_isSeen_17 ?_
        refine lv_topi (fun v_4 ev_4 => ?_)
        refine lv_aload_n hx hb dX4_isSeen_18 rfl (lv_at hl 0 rfl) ?_
        refine va_get (D := D) (ci := 4) (v := .ref yno) (C := RX4) (T := TX4) (N := 30) hx hb hts iX4 hown hK hP 0 rfl rfl 5 (by decide) (hts (.fieldLink RX4 19 "PunchedTicketModel" "now" "[I") (List.mem_of_getElem? (i := 3) rfl)) (fun _ h9 => h9) rfl dX4_isSeen_19 ?_
        refine lv_bipush (v := 48) hx hb dX4_isSeen_22 (by decide) ?_
        refine va_iald hx hb hK hP 1 0 rfl rfl (vp_in_iff.mpr (by decide)) dX4_isSeen_24 ?_
        refine lv_topi (fun v_5 ev_5 => ?_)
        refine lv_icmp_ne (tgt := 45) hx hb dX4_isSeen_25 (by decide) (fun c_6 => ?_) (fun c_6 => ?_)
        · have tc_6 := b_ne rfl rfl c_6
          refine lv_iconst (v := 0) hx hb dX4_isSeen_45 (by decide) ?_
          refine lv_istore_n (lv' := [(3, .int 0), (0, .ref h0), (1, .int w1), (2, .int x2)]) hx hb dX4_isSeen_46 rfl hl (by decide) rfl (fun ls hl => ?_)
          refine lv_iload_n hx hb dX4_isSeen_47 rfl (lv_at hl 2 rfl) ?_
          refine lv_if_eq (tgt := 82) hx hb dX4_isSeen_48 (by decide) (fun c_7 => ?_) (fun c_7 => ?_)
          · have tc_7 := b_eq rfl (show (0 : Int32).toInt = 0 by decide) c_7
            refine lv_iconst (v := 0) hx hb dX4_isSeen_82 (by decide) ?_
            refine lv_istore_n (lv' := [(1, .int 0), (3, .int 0), (0, .ref h0), (2, .int x2)]) hx hb dX4_isSeen_83 rfl hl (by decide) rfl (fun ls hl => ?_)
            obtain ⟨v_8, ev_8⟩ : ∃ z : Int32, z = x2 + 1 := ⟨_, rfl⟩
            have tv_8 : v_8.toInt = x2.toInt + 1 := by rw [ev_8]; exact ti_add (x := x2) (y := 1) (show -2147483648 ≤ x2.toInt + 1 by omega) (show x2.toInt + 1 < 2147483648 by omega)
            refine lv_iinc (v := v_8) (lv' := [(2, .int v_8), (1, .int 0), (3, .int 0), (0, .ref h0)]) hx hb dX4_isSeen_84 hl (k := 3) rfl (by rw [ev_8]; rfl) (by decide) rfl (fun ls hl => ?_)
            refine lv_goto (tgt := 4) hx hb dX4_isSeen_87 (by decide) ?_
            exact ih_2 0 v_8 _ _ _ (show (6 - v_8.toInt).toNat < fu_1 by omega) (by decide) (show 0 ≤ v_8.toInt ∧ v_8.toInt ≤ 6 by omega) hP hD hS (lv_sub hl [3, 1, 0] rfl)
          · have tc_7 := b_ne rfl (show (0 : Int32).toInt = 0 by decide) c_7
            refine lv_iload_n hx hb dX4_isSeen_51 rfl (lv_at hl 0 rfl) ?_
            refine lv_if_eq (tgt := 78) hx hb dX4_isSeen_52 (by decide) (fun c_9 => ?_) (fun c_9 => ?_)
            · have tc_9 := b_eq (show (0 : Int32).toInt = 0 by decide) (show (0 : Int32).toInt = 0 by decide) c_9
              refine lv_iconst (v := 1) hx hb dX4_isSeen_78 (by decide) ?_
              refine lv_goto (tgt := 83) hx hb dX4_isSeen_79 (by decide) ?_
              refine lv_istore_n (lv' := [(1, .int 1), (3, .int 0), (0, .ref h0), (2, .int x2)]) hx hb dX4_isSeen_83 rfl hl (by decide) rfl (fun ls hl => ?_)
              obtain ⟨v_10, ev_10⟩ : ∃ z : Int32, z = x2 + 1 := ⟨_, rfl⟩
              have tv_10 : v_10.toInt = x2.toInt + 1 := by rw [ev_10]; exact ti_add (x := x2) (y := 1) (show -2147483648 ≤ x2.toInt + 1 by omega) (show x2.toInt + 1 < 2147483648 by omega)
              refine lv_iinc (v := v_10) (lv' := [(2, .int v_10), (1, .int 1), (3, .int 0), (0, .ref h0)]) hx hb dX4_isSeen_84 hl (k := 3) rfl (by rw [ev_10]; rfl) (by decide) rfl (fun ls hl => ?_)
              refine lv_goto (tgt := 4) hx hb dX4_isSeen_87 (by decide) ?_
              exact ih_2 1 v_10 _ _ _ (show (6 - v_10.toInt).toNat < fu_1 by omega) (by decide) (show 0 ≤ v_10.toInt ∧ v_10.toInt ≤ 6 by omega) hP hD hS (lv_sub hl [3, 1, 0] rfl)
            · have tc_9 := b_ne (show (0 : Int32).toInt = 0 by decide) (show (0 : Int32).toInt = 0 by decide) c_9
              exfalso; omega
        · have tc_6 := b_eq rfl rfl c_6
          refine lv_aload_n hx hb dX4_isSeen_28 rfl (lv_at hl 0 rfl) ?_
          refine lv_aload_n hx hb dX4_isSeen_29 rfl (lv_at hl 0 rfl) ?_
          refine va_get (D := D) (ci := 4) (v := .ref yso) (C := RX4) (T := TX4) (N := 30) hx hb hts iX4 hown hK hP 0 rfl rfl 24 (by decide) (hts (.fieldLink RX4 52 "PunchedTicketModel" "seenOf" "[I") (List.mem_of_getElem? (i := 4) rfl)) (fun _ h9 => h9) rfl dX4_isSeen_30 ?_
          refine lv_iload_n hx hb dX4_isSeen_33 rfl (lv_at hl 2 rfl) ?_
          refine va_iald hx hb hK hP 2 0 rfl rfl (vp_in_iff.mpr ⟨by omega, by omega⟩) dX4_isSeen_34 ?_
          refine lv_topi (fun v_11 ev_11 => ?_)
          refine cV_i (As := [.int v_11]) (rest := []) ⟨hx, hb, hml, hown, hts⟩ (c_X4_isPerson l D cI cZ cM h0 v_11 ype ytk ywi yki yse yno yrh yrw yrk yrt yrp yrq ytx yle yat yfa yby ylo yhi yac ynx yro ygl ysn yso ysp ysw ysd yik ykp _ (show 0 ≤ ype.toInt ∧ ype.toInt ≤ 6 by omega)) (cwV 1 hts gX4_isSeen_X4_isPerson rfl rfl rfl (by decide +kernel) ⟨by rw [hR]; decide, by rw [hR]; decide⟩) hK hP hD hS hA [0] [1, 2, 3, 4] rfl rfl (by decide) (by decide) (by decide) rfl 0 rfl hl.1 rfl rfl (Nat.le_of_ble_eq_true rfl) dX4_isSeen_35 ⟨by rw [hR]; decide, by rw [hR]; decide⟩ (fun r_12 u_13 H locs hw hP hD hS => ?_)
          have hP : va_P D vwCl [(h0, .inr (4, [.int ype, .int ytk, .ref ywi, .ref yki, .ref yse, .ref yno, .ref yrh, .ref yrw, .ref yrk, .ref yrt, .int yrp, .int yrq, .ref ytx, .int yle, .int yat, .int yfa, .ref yby, .ref ylo, .ref yhi, .int yac, .int ynx, .ref yro, .ref ygl, .int ysn, .ref yso, .ref ysp, .ref ysw, .long ysd, .ref yik, .ref ykp])), (yno, .inl (cI, 96, .inl Fno)), (yso, .inl (cI, 6, .inl Fso)), (ysp, .inl (cI, 6, .inl Fsp)), (ysw, .inl (cI, 6, .inl Fsw))] H := hP.sub [4, 0, 1, 2, 3] rfl
          have hD : va_D A [(h0, .inr (4, [.int ype, .int ytk, .ref ywi, .ref yki, .ref yse, .ref yno, .ref yrh, .ref yrw, .ref yrk, .ref yrt, .int yrp, .int yrq, .ref ytx, .int yle, .int yat, .int yfa, .ref yby, .ref ylo, .ref yhi, .int yac, .int ynx, .ref yro, .ref ygl, .int ysn, .ref yso, .ref ysp, .ref ysw, .long ysd, .ref yik, .ref ykp])), (yno, .inl (cI, 96, .inl Fno)), (yso, .inl (cI, 6, .inl Fso)), (ysp, .inl (cI, 6, .inl Fsp)), (ysw, .inl (cI, 6, .inl Fsw))] := hD.sub [4, 0, 1, 2, 3] (by decide) rfl
          refine W.widen (k := 0) (n := 0) (Nat.le_refl _) (Nat.le_refl _) ?_
          have hw : (r_12.toInt = 1 ∧ 0 ≤ v_11.toInt ∧ v_11.toInt < ype.toInt) ∨ (r_12.toInt = 0 ∧ (v_11.toInt < 0 ∨ ype.toInt ≤ v_11.toInt)) := hw
          have hw_14 := hw
          refine lv_if_eq (tgt := 45) hx hb dX4_isSeen_38 (by decide) (fun c_15 => ?_) (fun c_15 => ?_)
          · have tc_15 := b_eq rfl (show (0 : Int32).toInt = 0 by decide) c_15
            refine lv_iconst (v := 0) hx hb dX4_isSeen_45 (by decide) ?_
            refine lv_istore_n (lv' := [(3, .int 0), (0, .ref h0), (1, .int w1), (2, .int x2)]) hx hb dX4_isSeen_46 rfl hl (by decide) rfl (fun ls hl => ?_)
            refine lv_iload_n hx hb dX4_isSeen_47 rfl (lv_at hl 2 rfl) ?_
            refine lv_if_eq (tgt := 82) hx hb dX4_isSeen_48 (by decide) (fun c_16 => ?_) (fun c_16 => ?_)
            · have tc_16 := b_eq rfl (show (0 : Int32).toInt = 0 by decide) c_16
              refine lv_iconst (v := 0) hx hb dX4_isSeen_82 (by decide) ?_
              refine lv_istore_n (lv' := [(1, .int 0), (3, .int 0), (0, .ref h0), (2, .int x2)]) hx hb dX4_isSeen_83 rfl hl (by decide) rfl (fun ls hl => ?_)
              obtain ⟨v_17, ev_17⟩ : ∃ z : Int32, z = x2 + 1 := ⟨_, rfl⟩
              have tv_17 : v_17.toInt = x2.toInt + 1 := by rw [ev_17]; exact ti_add (x := x2) (y := 1) (show -2147483648 ≤ x2.toInt + 1 by omega) (show x2.toInt + 1 < 2147483648 by omega)
              refine lv_iinc (v := v_17) (lv' := [(2, .int v_17), (1, .int 0), (3, .int 0), (0, .ref h0)]) hx hb dX4_isSeen_84 hl (k := 3) rfl (by rw [ev_17]; rfl) (by decide) rfl (fun ls hl => ?_)
              refine lv_goto (tgt := 4) hx hb dX4_isSeen_87 (by decide) ?_
              exact ih_2 0 v_17 _ _ _ (show (6 - v_17.toInt).toNat < fu_1 by omega) (by decide) (show 0 ≤ v_17.toInt ∧ v_17.toInt ≤ 6 by omega) hP hD hS (lv_sub hl [3, 1, 0] rfl)
            · have tc_16 := b_ne rfl (show (0 : Int32).toInt = 0 by decide) c_16
              refine lv_iload_n hx hb dX4_isSeen_51 rfl (lv_at hl 0 rfl) ?_
              refine lv_if_eq (tgt := 78) hx hb dX4_isSeen_52 (by decide) (fun c_18 => ?_) (fun c_18 => ?_)
              · have tc_18 := b_eq (show (0 : Int32).toInt = 0 by decide) (show (0 : Int32).toInt = 0 by decide) c_18
                refine lv_iconst (v := 1) hx hb dX4_isSeen_78 (by decide) ?_
                refine lv_goto (tgt := 83) hx hb dX4_isSeen_79 (by decide) ?_
                refine lv_istore_n (lv' := [(1, .int 1), (3, .int 0), (0, .ref h0), (2, .int x2)]) hx hb dX4_isSeen_83 rfl hl (by decide) rfl (fun ls hl => ?_)
                obtain ⟨v_19, ev_19⟩ : ∃ z : Int32, z = x2 + 1 := ⟨_, rfl⟩
                have tv_19 : v_19.toInt = x2.toInt + 1 := by rw [ev_19]; exact ti_add (x := x2) (y := 1) (show -2147483648 ≤ x2.toInt + 1 by omega) (show x2.toInt + 1 < 2147483648 by omega)
                refine lv_iinc (v := v_19) (lv' := [(2, .int v_19), (1, .int 1), (3, .int 0), (0, .ref h0)]) hx hb dX4_isSeen_84 hl (k := 3) rfl (by rw [ev_19]; rfl) (by decide) rfl (fun ls hl => ?_)
                refine lv_goto (tgt := 4) hx hb dX4_isSeen_87 (by decide) ?_
                exact ih_2 1 v_19 _ _ _ (show (6 - v_19.toInt).toNat < fu_1 by omega) (by decide) (show 0 ≤ v_19.toInt ∧ v_19.toInt ≤ 6 by omega) hP hD hS (lv_sub hl [3, 1, 0] rfl)
              · have tc_18 := b_ne (show (0 : Int32).toInt = 0 by decide) (show (0 : Int32).toInt = 0 by decide) c_18
                exfalso; omega
          · have tc_15 := b_ne rfl (show (0 : Int32).toInt = 0 by decide) c_15
            refine lv_iconst (v := 1) hx hb dX4_isSeen_41 (by decide) ?_
            refine lv_goto (tgt := 46) hx hb dX4_isSeen_42 (by decide) ?_
            refine lv_istore_n (lv' := [(3, .int 1), (0, .ref h0), (1, .int w1), (2, .int x2)]) hx hb dX4_isSeen_46 rfl hl (by decide) rfl (fun ls hl => ?_)
            refine lv_iload_n hx hb dX4_isSeen_47 rfl (lv_at hl 2 rfl) ?_
            refine lv_if_eq (tgt := 82) hx hb dX4_isSeen_48 (by decide) (fun c_20 => ?_) (fun c_20 => ?_)
            · have tc_20 := b_eq rfl (show (0 : Int32).toInt = 0 by decide) c_20
              refine lv_iconst (v := 0) hx hb dX4_isSeen_82 (by decide) ?_
              refine lv_istore_n (lv' := [(1, .int 0), (3, .int 1), (0, .ref h0), (2, .int x2)]) hx hb dX4_isSeen_83 rfl hl (by decide) rfl (fun ls hl => ?_)
              obtain ⟨v_21, ev_21⟩ : ∃ z : Int32, z = x2 + 1 := ⟨_, rfl⟩
              have tv_21 : v_21.toInt = x2.toInt + 1 := by rw [ev_21]; exact ti_add (x := x2) (y := 1) (show -2147483648 ≤ x2.toInt + 1 by omega) (show x2.toInt + 1 < 2147483648 by omega)
              refine lv_iinc (v := v_21) (lv' := [(2, .int v_21), (1, .int 0), (3, .int 1), (0, .ref h0)]) hx hb dX4_isSeen_84 hl (k := 3) rfl (by rw [ev_21]; rfl) (by decide) rfl (fun ls hl => ?_)
              refine lv_goto (tgt := 4) hx hb dX4_isSeen_87 (by decide) ?_
              exact ih_2 0 v_21 _ _ _ (show (6 - v_21.toInt).toNat < fu_1 by omega) (by decide) (show 0 ≤ v_21.toInt ∧ v_21.toInt ≤ 6 by omega) hP hD hS (lv_sub hl [3, 1, 0] rfl)
            · have tc_20 := b_ne rfl (show (0 : Int32).toInt = 0 by decide) c_20
              refine lv_iload_n hx hb dX4_isSeen_51 rfl (lv_at hl 0 rfl) ?_
              refine lv_if_eq (tgt := 78) hx hb dX4_isSeen_52 (by decide) (fun c_22 => ?_) (fun c_22 => ?_)
              · have tc_22 := b_eq (show (1 : Int32).toInt = 1 by decide) (show (0 : Int32).toInt = 0 by decide) c_22
                exfalso; omega
              · have tc_22 := b_ne (show (1 : Int32).toInt = 1 by decide) (show (0 : Int32).toInt = 0 by decide) c_22
                refine lv_aload_n hx hb dX4_isSeen_55 rfl (lv_at hl 1 rfl) ?_
                refine va_get (D := D) (ci := 4) (v := .ref yno) (C := RX4) (T := TX4) (N := 30) hx hb hts iX4 hown hK hP 0 rfl rfl 5 (by decide) (hts (.fieldLink RX4 19 "PunchedTicketModel" "now" "[I") (List.mem_of_getElem? (i := 3) rfl)) (fun _ h9 => h9) rfl dX4_isSeen_56 ?_
                refine lv_bipush (v := 49) hx hb dX4_isSeen_59 (by decide) ?_
                refine lv_aload_n hx hb dX4_isSeen_61 rfl (lv_at hl 1 rfl) ?_
                refine va_get (D := D) (ci := 4) (v := .ref yso) (C := RX4) (T := TX4) (N := 30) hx hb hts iX4 hown hK hP 0 rfl rfl 24 (by decide) (hts (.fieldLink RX4 52 "PunchedTicketModel" "seenOf" "[I") (List.mem_of_getElem? (i := 4) rfl)) (fun _ h9 => h9) rfl dX4_isSeen_62 ?_
                refine lv_iload_n hx hb dX4_isSeen_65 rfl (lv_at hl 3 rfl) ?_
                refine va_iald hx hb hK hP 2 0 rfl rfl (vp_in_iff.mpr ⟨by omega, by omega⟩) dX4_isSeen_66 ?_
                refine lv_topi (fun v_23 ev_23 => ?_)
                have tv_23 : v_23.toInt = v_11.toInt := by rw [ev_23, ev_11]
                have h0v_23 : 0 ≤ v_23.toInt := by omega
                have h4v_23 : v_23.toInt ≤ 4 := by omega
                refine lv_iadd hx hb dX4_isSeen_67 ?_
                refine lv_topi (fun v_24 ev_24 => ?_)
                have tv_24 : v_24.toInt = (49 : Int) + v_23.toInt := by rw [ev_24]; exact ti_add (x := 49) (y := v_23) (show -2147483648 ≤ (49 : Int) + v_23.toInt by omega) (show (49 : Int) + v_23.toInt < 2147483648 by omega)
                refine va_iald hx hb hK hP 1 0 rfl rfl (vp_in_iff.mpr ⟨by omega, by omega⟩) dX4_isSeen_68 ?_
                refine lv_topi (fun v_25 ev_25 => ?_)
                refine lv_aload_n hx hb dX4_isSeen_69 rfl (lv_at hl 1 rfl) ?_
                refine va_get (D := D) (ci := 4) (v := .ref ysp) (C := RX4) (T := TX4) (N := 30) hx hb hts iX4 hown hK hP 0 rfl rfl 25 (by decide) (hts (.fieldLink RX4 55 "PunchedTicketModel" "seenOn" "[I") (List.mem_of_getElem? (i := 5) rfl)) (fun _ h9 => h9) rfl dX4_isSeen_70 ?_
                refine lv_iload_n hx hb dX4_isSeen_73 rfl (lv_at hl 3 rfl) ?_
                refine va_iald hx hb hK hP 3 0 rfl rfl (vp_in_iff.mpr ⟨by omega, by omega⟩) dX4_isSeen_74 ?_
                refine lv_topi (fun v_26 ev_26 => ?_)
                refine lv_icmp_ne (tgt := 82) hx hb dX4_isSeen_75 (by decide) (fun c_27 => ?_) (fun c_27 => ?_)
                · have tc_27 := b_ne rfl rfl c_27
                  refine lv_iconst (v := 0) hx hb dX4_isSeen_82 (by decide) ?_
                  refine lv_istore_n (lv' := [(1, .int 0), (3, .int 1), (0, .ref h0), (2, .int x2)]) hx hb dX4_isSeen_83 rfl hl (by decide) rfl (fun ls hl => ?_)
                  obtain ⟨v_28, ev_28⟩ : ∃ z : Int32, z = x2 + 1 := ⟨_, rfl⟩
                  have tv_28 : v_28.toInt = x2.toInt + 1 := by rw [ev_28]; exact ti_add (x := x2) (y := 1) (show -2147483648 ≤ x2.toInt + 1 by omega) (show x2.toInt + 1 < 2147483648 by omega)
                  refine lv_iinc (v := v_28) (lv' := [(2, .int v_28), (1, .int 0), (3, .int 1), (0, .ref h0)]) hx hb dX4_isSeen_84 hl (k := 3) rfl (by rw [ev_28]; rfl) (by decide) rfl (fun ls hl => ?_)
                  refine lv_goto (tgt := 4) hx hb dX4_isSeen_87 (by decide) ?_
                  exact ih_2 0 v_28 _ _ _ (show (6 - v_28.toInt).toNat < fu_1 by omega) (by decide) (show 0 ≤ v_28.toInt ∧ v_28.toInt ≤ 6 by omega) hP hD hS (lv_sub hl [3, 1, 0] rfl)
                · have tc_27 := b_eq rfl rfl c_27
                  refine lv_iconst (v := 1) hx hb dX4_isSeen_78 (by decide) ?_
                  refine lv_goto (tgt := 83) hx hb dX4_isSeen_79 (by decide) ?_
                  refine lv_istore_n (lv' := [(1, .int 1), (3, .int 1), (0, .ref h0), (2, .int x2)]) hx hb dX4_isSeen_83 rfl hl (by decide) rfl (fun ls hl => ?_)
                  obtain ⟨v_29, ev_29⟩ : ∃ z : Int32, z = x2 + 1 := ⟨_, rfl⟩
                  have tv_29 : v_29.toInt = x2.toInt + 1 := by rw [ev_29]; exact ti_add (x := x2) (y := 1) (show -2147483648 ≤ x2.toInt + 1 by omega) (show x2.toInt + 1 < 2147483648 by omega)
                  refine lv_iinc (v := v_29) (lv' := [(2, .int v_29), (1, .int 1), (3, .int 1), (0, .ref h0)]) hx hb dX4_isSeen_84 hl (k := 3) rfl (by rw [ev_29]; rfl) (by decide) rfl (fun ls hl => ?_)
                  refine lv_goto (tgt := 4) hx hb dX4_isSeen_87 (by decide) ?_
                  exact ih_2 1 v_29 _ _ _ (show (6 - v_29.toInt).toNat < fu_1 by omega) (by decide) (show 0 ≤ v_29.toInt ∧ v_29.toInt ≤ 6 by omega) hP hD hS (lv_sub hl [3, 1, 0] rfl)
  exact LOOP_1 _ 1 0 _ _ _ (Nat.lt_succ_self _) (by decide) (by decide) hP hD hS (lv_sub hl [2, 1, 0] rfl)

set_option maxHeartbeats 600000 in
set_option maxRecDepth 100000 in
theorem c_X4_held (l : Launch) (D : va_G) (cI cZ cM : ClassId) (h0 : Nat) (n : Int32) (ype : Int32) (ytk : Int32) (ywi : Nat) (yki : Nat) (yse : Nat) (yno : Nat) (yrh : Nat) (yrw : Nat) (yrk : Nat) (yrt : Nat) (yrp : Int32) (yrq : Int32) (ytx : Nat) (yle : Int32) (yat : Int32) (yfa : Int32) (yby : Nat) (ylo : Nat) (yhi : Nat) (yac : Int32) (ynx : Int32) (yro : Nat) (ygl : Nat) (ysn : Int32) (yso : Nat) (ysp : Nat) (ysw : Nat) (ysd : Int64) (yik : Nat) (ykp : Nat) (Fno : Nat → Int32) (Fki : Nat → Int32) (Fby : Nat → Int32) (Flo : Nat → Int32) (Fhi : Nat → Int32) (Fso : Nat → Int32) (Fsp : Nat → Int32) (Fsw : Nat → Int32) (sz : Nat) (hBy : ByOk Fby) (h_ype : 0 ≤ ype.toInt ∧ ype.toInt ≤ 5) (h_ytk : 0 ≤ ytk.toInt ∧ ytk.toInt ≤ 6) (h_ysn : 0 ≤ ysn.toInt ∧ ysn.toInt ≤ 6) : Ci l yX4_held wsX4_held ({ frames := 3, cells := 0, slots := 0, locals := 69 } : Room) D cI cZ cM [.ref h0, .int n] [(h0, .inr (4, [.int ype, .int ytk, .ref ywi, .ref yki, .ref yse, .ref yno, .ref yrh, .ref yrw, .ref yrk, .ref yrt, .int yrp, .int yrq, .ref ytx, .int yle, .int yat, .int yfa, .ref yby, .ref ylo, .ref yhi, .int yac, .int ynx, .ref yro, .ref ygl, .int ysn, .ref yso, .ref ysp, .ref ysw, .long ysd, .ref yik, .ref ykp])), (yno, .inl (cI, 96, .inl Fno)), (yki, .inl (cI, 5, .inl Fki)), (yby, .inl (cI, 5, .inl Fby)), (ylo, .inl (cI, 5, .inl Flo)), (yhi, .inl (cI, 5, .inl Fhi)), (yso, .inl (cI, 6, .inl Fso)), (ysp, .inl (cI, 6, .inl Fsp)), (ysw, .inl (cI, 6, .inl Fsw))] sz (fun (r : Int32) (u : (Nat → Int32) × (Nat → Int32) × (Nat → Int32) × (Nat → Int32)) => ByOk u.2.1) (fun u => [(h0, .inr (4, [.int ype, .int ytk, .ref ywi, .ref yki, .ref yse, .ref yno, .ref yrh, .ref yrw, .ref yrk, .ref yrt, .int yrp, .int yrq, .ref ytx, .int yle, .int yat, .int yfa, .ref yby, .ref ylo, .ref yhi, .int yac, .int ynx, .ref yro, .ref ygl, .int ysn, .ref yso, .ref ysp, .ref ysw, .long ysd, .ref yik, .ref ykp])), (yno, .inl (cI, 96, .inl u.1)), (yki, .inl (cI, 5, .inl Fki)), (yby, .inl (cI, 5, .inl u.2.1)), (ylo, .inl (cI, 5, .inl u.2.2.1)), (yhi, .inl (cI, 5, .inl u.2.2.2)), (yso, .inl (cI, 6, .inl Fso)), (ysp, .inl (cI, 6, .inl Fsp)), (ysw, .inl (cI, 6, .inl Fsw))]) 0 0 := by
  refine begins (l := l) (y := yX4_held) (ws := wsX4_held) (av := [.ref h0, .int n]) (Qc := fun A => va_Qi (fun (r : Int32) (u : (Nat → Int32) × (Nat → Int32) × (Nat → Int32) × (Nat → Int32)) => ByOk u.2.1) (fun u => Wd D cI cZ cM A ((fun u => [(h0, .inr (4, [.int ype, .int ytk, .ref ywi, .ref yki, .ref yse, .ref yno, .ref yrh, .ref yrw, .ref yrk, .ref yrt, .int yrp, .int yrq, .ref ytx, .int yle, .int yat, .int yfa, .ref yby, .ref ylo, .ref yhi, .int yac, .int ynx, .ref yro, .ref ygl, .int ysn, .ref yso, .ref ysp, .ref ysw, .long ysd, .ref yik, .ref ykp])), (yno, .inl (cI, 96, .inl u.1)), (yki, .inl (cI, 5, .inl Fki)), (yby, .inl (cI, 5, .inl u.2.1)), (ylo, .inl (cI, 5, .inl u.2.2.1)), (yhi, .inl (cI, 5, .inl u.2.2.2)), (yso, .inl (cI, 6, .inl Fso)), (ysp, .inl (cI, 6, .inl Fsp)), (ysw, .inl (cI, 6, .inl Fsw))]) u)) A) cX4_held 5 (some .int) (by decide) rfl (Nat.le_of_ble_eq_true rfl) ?_
  intro p e s m args below meth c R Q A ls hBd hR hQ hA hS hK hP hD hl
  obtain ⟨hx, hb, hr, hts, hown, hlocks, hin, hml⟩ := hBd
  have hl : lv_has ls 5 [(0, .ref h0), (1, .int n)] := hl
  have iX4 : ∀ w ∈ wsX40, w ∈ wsX4_held := fun _ h => List.mem_cons_of_mem _ (List.mem_append_right _ h)
  obtain ⟨h_ypea, h_ypeb⟩ := h_ype
  obtain ⟨h_ytka, h_ytkb⟩ := h_ytk
  obtain ⟨h_ysna, h_ysnb⟩ := h_ysn
  refine lv_aload_n hx hb dX4_held_0 rfl (lv_at hl 0 rfl) ?_
  refine lv_iload_n hx hb dX4_held_1 rfl (lv_at hl 1 rfl) ?_
  refine cV_i (As := [.int n]) (rest := []) ⟨hx, hb, hml, hown, hts⟩ (c_X4_isTicket l D cI cZ cM h0 n ype ytk ywi yki yse yno yrh yrw yrk yrt yrp yrq ytx yle yat yfa yby ylo yhi yac ynx yro ygl ysn yso ysp ysw ysd yik ykp _ (show 0 ≤ ytk.toInt ∧ ytk.toInt ≤ 6 by omega)) (cwV 1 hts gX4_held_X4_isTicket rfl rfl rfl (by decide +kernel) ⟨by rw [hR]; decide, by rw [hR]; decide⟩) hK hP hD hS hA [0] [1, 2, 3, 4, 5, 6, 7, 8] rfl rfl (by decide) (by decide) (by decide) rfl 0 rfl hl.1 rfl rfl (Nat.le_of_ble_eq_true rfl) dX4_held_2 ⟨by rw [hR]; decide, by rw [hR]; decide⟩ (fun r_1 u_2 H locs hw hP hD hS => ?_)
  have hP : va_P D vwCl [(h0, .inr (4, [.int ype, .int ytk, .ref ywi, .ref yki, .ref yse, .ref yno, .ref yrh, .ref yrw, .ref yrk, .ref yrt, .int yrp, .int yrq, .ref ytx, .int yle, .int yat, .int yfa, .ref yby, .ref ylo, .ref yhi, .int yac, .int ynx, .ref yro, .ref ygl, .int ysn, .ref yso, .ref ysp, .ref ysw, .long ysd, .ref yik, .ref ykp])), (yno, .inl (cI, 96, .inl Fno)), (yki, .inl (cI, 5, .inl Fki)), (yby, .inl (cI, 5, .inl Fby)), (ylo, .inl (cI, 5, .inl Flo)), (yhi, .inl (cI, 5, .inl Fhi)), (yso, .inl (cI, 6, .inl Fso)), (ysp, .inl (cI, 6, .inl Fsp)), (ysw, .inl (cI, 6, .inl Fsw))] H := hP.sub [8, 0, 1, 2, 3, 4, 5, 6, 7] rfl
  have hD : va_D A [(h0, .inr (4, [.int ype, .int ytk, .ref ywi, .ref yki, .ref yse, .ref yno, .ref yrh, .ref yrw, .ref yrk, .ref yrt, .int yrp, .int yrq, .ref ytx, .int yle, .int yat, .int yfa, .ref yby, .ref ylo, .ref yhi, .int yac, .int ynx, .ref yro, .ref ygl, .int ysn, .ref yso, .ref ysp, .ref ysw, .long ysd, .ref yik, .ref ykp])), (yno, .inl (cI, 96, .inl Fno)), (yki, .inl (cI, 5, .inl Fki)), (yby, .inl (cI, 5, .inl Fby)), (ylo, .inl (cI, 5, .inl Flo)), (yhi, .inl (cI, 5, .inl Fhi)), (yso, .inl (cI, 6, .inl Fso)), (ysp, .inl (cI, 6, .inl Fsp)), (ysw, .inl (cI, 6, .inl Fsw))] := hD.sub [8, 0, 1, 2, 3, 4, 5, 6, 7] (by decide) rfl
  refine W.widen (k := 0) (n := 0) (Nat.le_refl _) (Nat.le_refl _) ?_
  have hw : (r_1.toInt = 1 ∧ 0 ≤ n.toInt ∧ n.toInt < ytk.toInt) ∨ (r_1.toInt = 0 ∧ (n.toInt < 0 ∨ ytk.toInt ≤ n.toInt)) := hw
  have hw_3 := hw
  refine lv_if_ne (tgt := 10) hx hb dX4_held_5 (by decide) (fun c_4 => ?_) (fun c_4 => ?_)
  · have tc_4 := b_ne rfl (show (0 : Int32).toInt = 0 by decide) c_4
    have hn1 : 0 ≤ n.toInt := by omega
    have hn2 : n.toInt ≤ 5 := by omega
    refine lv_aload_n hx hb dX4_held_10 rfl (lv_at hl 0 rfl) ?_
    refine lv_iload_n hx hb dX4_held_11 rfl (lv_at hl 1 rfl) ?_
    refine cV_i (As := [.int n]) (rest := []) ⟨hx, hb, hml, hown, hts⟩ (c_X4_isGone l D cI cZ cM h0 n ype ytk ywi yki yse yno yrh yrw yrk yrt yrp yrq ytx yle yat yfa yby ylo yhi yac ynx yro ygl ysn yso ysp ysw ysd yik ykp Fno _ (show 0 ≤ n.toInt ∧ n.toInt ≤ 6 by omega)) (cwV 1 hts gX4_held_X4_isGone rfl rfl rfl (by decide +kernel) ⟨by rw [hR]; decide, by rw [hR]; decide⟩) hK hP hD hS hA [0, 1] [2, 3, 4, 5, 6, 7, 8] rfl rfl (by decide) (by decide) (by decide) rfl 0 rfl hl.1 rfl rfl (Nat.le_of_ble_eq_true rfl) dX4_held_12 ⟨by rw [hR]; decide, by rw [hR]; decide⟩ (fun r_5 u_6 H locs hw hP hD hS => ?_)
    have hP : va_P D vwCl [(h0, .inr (4, [.int ype, .int ytk, .ref ywi, .ref yki, .ref yse, .ref yno, .ref yrh, .ref yrw, .ref yrk, .ref yrt, .int yrp, .int yrq, .ref ytx, .int yle, .int yat, .int yfa, .ref yby, .ref ylo, .ref yhi, .int yac, .int ynx, .ref yro, .ref ygl, .int ysn, .ref yso, .ref ysp, .ref ysw, .long ysd, .ref yik, .ref ykp])), (yno, .inl (cI, 96, .inl Fno)), (yki, .inl (cI, 5, .inl Fki)), (yby, .inl (cI, 5, .inl Fby)), (ylo, .inl (cI, 5, .inl Flo)), (yhi, .inl (cI, 5, .inl Fhi)), (yso, .inl (cI, 6, .inl Fso)), (ysp, .inl (cI, 6, .inl Fsp)), (ysw, .inl (cI, 6, .inl Fsw))] H := hP.sub [7, 8, 0, 1, 2, 3, 4, 5, 6] rfl
    have hD : va_D A [(h0, .inr (4, [.int ype, .int ytk, .ref ywi, .ref yki, .ref yse, .ref yno, .ref yrh, .ref yrw, .ref yrk, .ref yrt, .int yrp, .int yrq, .ref ytx, .int yle, .int yat, .int yfa, .ref yby, .ref ylo, .ref yhi, .int yac, .int ynx, .ref yro, .ref ygl, .int ysn, .ref yso, .ref ysp, .ref ysw, .long ysd, .ref yik, .ref ykp])), (yno, .inl (cI, 96, .inl Fno)), (yki, .inl (cI, 5, .inl Fki)), (yby, .inl (cI, 5, .inl Fby)), (ylo, .inl (cI, 5, .inl Flo)), (yhi, .inl (cI, 5, .inl Fhi)), (yso, .inl (cI, 6, .inl Fso)), (ysp, .inl (cI, 6, .inl Fsp)), (ysw, .inl (cI, 6, .inl Fsw))] := hD.sub [7, 8, 0, 1, 2, 3, 4, 5, 6] (by decide) rfl
    refine W.widen (k := 0) (n := 0) (Nat.le_refl _) (Nat.le_refl _) ?_
    have hw : (r_5.toInt = 0 ∨ r_5.toInt = 1) := hw
    have hw_7 := hw
    refine lv_if_eq (tgt := 21) hx hb dX4_held_15 (by decide) (fun c_8 => ?_) (fun c_8 => ?_)
    · have tc_8 := b_eq rfl (show (0 : Int32).toInt = 0 by decide) c_8
      refine lv_iconst (v := 0) hx hb dX4_held_21 (by decide) ?_
      refine lv_istore_n (lv' := [(2, .int 0), (0, .ref h0), (1, .int n)]) hx hb dX4_held_22 rfl hl (by decide) rfl (fun ls hl => ?_)
      refine lv_iconst (v := 0) hx hb dX4_held_23 (by decide) ?_
      refine lv_istore_n (lv' := [(3, .int 0), (2, .int 0), (0, .ref h0), (1, .int n)]) hx hb dX4_held_24 rfl hl (by decide) rfl (fun ls hl => ?_)
      have LOOP_9 : ∀ (fu_9 : Nat) (w2 : Int32) (x3 : Int32) (gn : Nat → Int32) (gb : Nat → Int32) (gl : Nat → Int32) (gh : Nat → Int32) (H : Heap) (locs : List Loc) (ls : Array Slot), (5 - x3.toInt).toNat < fu_9 → (0 ≤ x3.toInt ∧ x3.toInt ≤ 5) → (ByOk gb) → va_P D vwCl [(h0, .inr (4, [.int ype, .int ytk, .ref ywi, .ref yki, .ref yse, .ref yno, .ref yrh, .ref yrw, .ref yrk, .ref yrt, .int yrp, .int yrq, .ref ytx, .int yle, .int yat, .int yfa, .ref yby, .ref ylo, .ref yhi, .int yac, .int ynx, .ref yro, .ref ygl, .int ysn, .ref yso, .ref ysp, .ref ysw, .long ysd, .ref yik, .ref ykp])), (yno, .inl (cI, 96, .inl gn)), (yki, .inl (cI, 5, .inl Fki)), (yby, .inl (cI, 5, .inl gb)), (ylo, .inl (cI, 5, .inl gl)), (yhi, .inl (cI, 5, .inl gh)), (yso, .inl (cI, 6, .inl Fso)), (ysp, .inl (cI, 6, .inl Fsp)), (ysw, .inl (cI, 6, .inl Fsw))] H → va_D A [(h0, .inr (4, [.int ype, .int ytk, .ref ywi, .ref yki, .ref yse, .ref yno, .ref yrh, .ref yrw, .ref yrk, .ref yrt, .int yrp, .int yrq, .ref ytx, .int yle, .int yat, .int yfa, .ref yby, .ref ylo, .ref yhi, .int yac, .int ynx, .ref yro, .ref ygl, .int ysn, .ref yso, .ref ysp, .ref ysw, .long ysd, .ref yik, .ref ykp])), (yno, .inl (cI, 96, .inl gn)), (yki, .inl (cI, 5, .inl Fki)), (yby, .inl (cI, 5, .inl gb)), (ylo, .inl (cI, 5, .inl gl)), (yhi, .inl (cI, 5, .inl gh)), (yso, .inl (cI, 6, .inl Fso)), (ysp, .inl (cI, 6, .inl Fsp)), (ysw, .inl (cI, 6, .inl Fsw))] → va_S A s.heap H locs → lv_has ls 5 [(0, .ref h0), (1, .int n), (2, .int w2), (3, .int x3)] → W p l e R s m args below meth c H locs 0 0 Q (F0 m 25 ls []) := by
        intro fu_9
        induction fu_9 with
        | zero => intro w2 x3 gn gb gl gh H locs ls hmu; exact absurd hmu (Nat.not_lt_zero _)
        | succ fu_9 ih =>
          intro w2 x3 gn gb gl gh H locs ls hmu h_x3 hby hP hD hS hl
          obtain ⟨h_x3a, h_x3b⟩ := h_x3
          have ih_10 := ih
          clear ih
          refine lv_iload_n hx hb dX4_held_25 rfl (lv_at hl 3 rfl) ?_
          refine lv_aload_n hx hb dX4_held_26 rfl (lv_at hl 0 rfl) ?_
          refine va_get (D := D) (ci := 4) (v := .int ype) (C := RX4) (T := TX4) (N := 30) hx hb hts iX4 hown hK hP 0 rfl rfl 0 (by decide) (hts (.fieldLink RX4 68 "PunchedTicketModel" "people" "I") (List.mem_of_getElem? (i := 1) rfl)) (fun _ h9 => h9) rfl dX4_held_27 ?_
          refine lv_icmp_ge (tgt := 115) hx hb dX4_held_30 (by decide) (fun c_11 => ?_) (fun c_11 => ?_)
          · have tc_11 := b_le rfl rfl c_11
            refine lv_iload_n hx hb dX4_held_115 rfl (lv_at hl 2 rfl) ?_
            exact ret_i (post := (fun (r : Int32) (u : (Nat → Int32) × (Nat → Int32) × (Nat → Int32) × (Nat → Int32)) => ByOk u.2.1)) (W1 := (fun u => [(h0, .inr (4, [.int ype, .int ytk, .ref ywi, .ref yki, .ref yse, .ref yno, .ref yrh, .ref yrw, .ref yrk, .ref yrt, .int yrp, .int yrq, .ref ytx, .int yle, .int yat, .int yfa, .ref yby, .ref ylo, .ref yhi, .int yac, .int ynx, .ref yro, .ref ygl, .int ysn, .ref yso, .ref ysp, .ref ysw, .long ysd, .ref yik, .ref ykp])), (yno, .inl (cI, 96, .inl u.1)), (yki, .inl (cI, 5, .inl Fki)), (yby, .inl (cI, 5, .inl u.2.1)), (ylo, .inl (cI, 5, .inl u.2.2.1)), (yhi, .inl (cI, 5, .inl u.2.2.2)), (yso, .inl (cI, 6, .inl Fso)), (ysp, .inl (cI, 6, .inl Fsp)), (ysw, .inl (cI, 6, .inl Fsw))])) (gn, gb, gl, gh) hx hb hr hlocks rfl hQ hK hP hD hS ⟨by decide, by decide⟩ dX4_held_116 hby
          · have tc_11 := b_nle rfl rfl c_11
            refine lv_aload_n hx hb dX4_held_33 rfl (lv_at hl 0 rfl) ?_
            refine cV_v (As := []) (rest := []) ⟨hx, hb, hml, hown, hts⟩ (c_X4_layTrial l D cI cZ cM h0 ype ytk ywi yki yse yno yrh yrw yrk yrt yrp yrq ytx yle yat yfa yby ylo yhi yac ynx yro ygl ysn yso ysp ysw ysd yik ykp gn _ ) (cwV 0 hts gX4_held_X4_layTrial rfl rfl rfl (by decide +kernel) ⟨by rw [hR]; decide, by rw [hR]; decide⟩) hK hP hD hS hA [0, 1] [2, 3, 4, 5, 6, 7, 8] rfl rfl (by decide) (by decide) (by decide) rfl 0 rfl hl.1 rfl rfl (Nat.le_of_ble_eq_true rfl) dX4_held_34 ⟨by rw [hR]; decide, by rw [hR]; decide⟩ (fun u_14 H locs hw hP hD hS => ?_)
            obtain ⟨Gno_12, rfl⟩ : ∃ z, z = u_14 := ⟨_, rfl⟩
            have hP : va_P D vwCl [(h0, .inr (4, [.int ype, .int ytk, .ref ywi, .ref yki, .ref yse, .ref yno, .ref yrh, .ref yrw, .ref yrk, .ref yrt, .int yrp, .int yrq, .ref ytx, .int yle, .int yat, .int yfa, .ref yby, .ref ylo, .ref yhi, .int yac, .int ynx, .ref yro, .ref ygl, .int ysn, .ref yso, .ref ysp, .ref ysw, .long ysd, .ref yik, .ref ykp])), (yno, .inl (cI, 96, .inl Gno_12)), (yki, .inl (cI, 5, .inl Fki)), (yby, .inl (cI, 5, .inl gb)), (ylo, .inl (cI, 5, .inl gl)), (yhi, .inl (cI, 5, .inl gh)), (yso, .inl (cI, 6, .inl Fso)), (ysp, .inl (cI, 6, .inl Fsp)), (ysw, .inl (cI, 6, .inl Fsw))] H := hP.sub [7, 8, 0, 1, 2, 3, 4, 5, 6] rfl
            have hD : va_D A [(h0, .inr (4, [.int ype, .int ytk, .ref ywi, .ref yki, .ref yse, .ref yno, .ref yrh, .ref yrw, .ref yrk, .ref yrt, .int yrp, .int yrq, .ref ytx, .int yle, .int yat, .int yfa, .ref yby, .ref ylo, .ref yhi, .int yac, .int ynx, .ref yro, .ref ygl, .int ysn, .ref yso, .ref ysp, .ref ysw, .long ysd, .ref yik, .ref ykp])), (yno, .inl (cI, 96, .inl Gno_12)), (yki, .inl (cI, 5, .inl Fki)), (yby, .inl (cI, 5, .inl gb)), (ylo, .inl (cI, 5, .inl gl)), (yhi, .inl (cI, 5, .inl gh)), (yso, .inl (cI, 6, .inl Fso)), (ysp, .inl (cI, 6, .inl Fsp)), (ysw, .inl (cI, 6, .inl Fsw))] := hD.sub [7, 8, 0, 1, 2, 3, 4, 5, 6] (by decide) rfl
            refine W.widen (k := 0) (n := 0) (Nat.le_refl _) (Nat.le_refl _) ?_
            refine lv_aload_n hx hb dX4_held_37 rfl (lv_at hl 0 rfl) ?_
            refine va_get (D := D) (ci := 4) (v := .ref yno) (C := RX4) (T := TX4) (N := 30) hx hb hts iX4 hown hK hP 0 rfl rfl 5 (by decide) (hts (.fieldLink RX4 19 "PunchedTicketModel" "now" "[I") (List.mem_of_getElem? (i := 2) rfl)) (fun _ h9 => h9) rfl dX4_held_38 ?_
            refine lv_bipush (v := 54) hx hb dX4_held_41 (by decide) ?_
            refine lv_bipush (v := 6) hx hb dX4_held_43 (by decide) ?_
            refine lv_iload_n hx hb dX4_held_45 rfl (lv_at hl 1 rfl) ?_
            refine lv_imul hx hb dX4_held_46 ?_
            refine lv_topi (fun v_15 ev_15 => ?_)
            have tv_15 : v_15.toInt = (6 : Int) * n.toInt := by rw [ev_15]; exact ti_mul (x := 6) (y := n) (show -2147483648 ≤ (6 : Int) * n.toInt by omega) (show (6 : Int) * n.toInt < 2147483648 by omega)
            refine lv_iadd hx hb dX4_held_47 ?_
            refine lv_topi (fun v_16 ev_16 => ?_)
            have tv_16 : v_16.toInt = (54 : Int) + v_15.toInt := by rw [ev_16]; exact ti_add (x := 54) (y := v_15) (show -2147483648 ≤ (54 : Int) + v_15.toInt by omega) (show (54 : Int) + v_15.toInt < 2147483648 by omega)
            refine lv_iconst (v := 3) hx hb dX4_held_48 (by decide) ?_
            refine lv_iadd hx hb dX4_held_49 ?_
            refine lv_topi (fun v_17 ev_17 => ?_)
            have tv_17 : v_17.toInt = v_16.toInt + (3 : Int) := by rw [ev_17]; exact ti_add (x := v_16) (y := 3) (show -2147483648 ≤ v_16.toInt + (3 : Int) by omega) (show v_16.toInt + (3 : Int) < 2147483648 by omega)
            refine lv_iload_n hx hb dX4_held_50 rfl (lv_at hl 3 rfl) ?_
            refine va_iast hx hb hK hP hD hS 1 0 rfl rfl (vp_in_iff.mpr ⟨by omega, by omega⟩) dX4_held_51 (fun H locs hP hD hS => ?_)
            obtain ⟨f_18, ef_18⟩ : ∃ g : Nat → Int32, upd Gno_12 (v_17 : Int32).toNatClampNeg x3 = g := ⟨_, rfl⟩
            rw [ef_18] at hP hD
            have hP : va_P D vwCl [(h0, .inr (4, [.int ype, .int ytk, .ref ywi, .ref yki, .ref yse, .ref yno, .ref yrh, .ref yrw, .ref yrk, .ref yrt, .int yrp, .int yrq, .ref ytx, .int yle, .int yat, .int yfa, .ref yby, .ref ylo, .ref yhi, .int yac, .int ynx, .ref yro, .ref ygl, .int ysn, .ref yso, .ref ysp, .ref ysw, .long ysd, .ref yik, .ref ykp])), (yno, .inl (cI, 96, .inl f_18)), (yki, .inl (cI, 5, .inl Fki)), (yby, .inl (cI, 5, .inl gb)), (ylo, .inl (cI, 5, .inl gl)), (yhi, .inl (cI, 5, .inl gh)), (yso, .inl (cI, 6, .inl Fso)), (ysp, .inl (cI, 6, .inl Fsp)), (ysw, .inl (cI, 6, .inl Fsw))] H := hP
            have hD : va_D A [(h0, .inr (4, [.int ype, .int ytk, .ref ywi, .ref yki, .ref yse, .ref yno, .ref yrh, .ref yrw, .ref yrk, .ref yrt, .int yrp, .int yrq, .ref ytx, .int yle, .int yat, .int yfa, .ref yby, .ref ylo, .ref yhi, .int yac, .int ynx, .ref yro, .ref ygl, .int ysn, .ref yso, .ref ysp, .ref ysw, .long ysd, .ref yik, .ref ykp])), (yno, .inl (cI, 96, .inl f_18)), (yki, .inl (cI, 5, .inl Fki)), (yby, .inl (cI, 5, .inl gb)), (ylo, .inl (cI, 5, .inl gl)), (yhi, .inl (cI, 5, .inl gh)), (yso, .inl (cI, 6, .inl Fso)), (ysp, .inl (cI, 6, .inl Fsp)), (ysw, .inl (cI, 6, .inl Fsw))] := hD
            refine lv_aload_n hx hb dX4_held_52 rfl (lv_at hl 0 rfl) ?_
            refine cV_i (As := []) (rest := []) ⟨hx, hb, hml, hown, hts⟩ (c_X4_isSeen l D cI cZ cM h0 ype ytk ywi yki yse yno yrh yrw yrk yrt yrp yrq ytx yle yat yfa yby ylo yhi yac ynx yro ygl ysn yso ysp ysw ysd yik ykp f_18 Fso Fsp Fsw _ (show 0 ≤ ype.toInt ∧ ype.toInt ≤ 5 by omega) (show 0 ≤ ytk.toInt ∧ ytk.toInt ≤ 6 by omega) (show 0 ≤ ysn.toInt ∧ ysn.toInt ≤ 6 by omega)) (cwV 0 hts gX4_held_X4_isSeen rfl rfl rfl (by decide +kernel) ⟨by rw [hR]; decide, by rw [hR]; decide⟩) hK hP hD hS hA [0, 1, 6, 7, 8] [2, 3, 4, 5] rfl rfl (by decide) (by decide) (by decide) rfl 0 rfl hl.1 rfl rfl (Nat.le_of_ble_eq_true rfl) dX4_held_53 ⟨by rw [hR]; decide, by rw [hR]; decide⟩ (fun r_19 u_20 H locs hw hP hD hS => ?_)
            have hP : va_P D vwCl [(h0, .inr (4, [.int ype, .int ytk, .ref ywi, .ref yki, .ref yse, .ref yno, .ref yrh, .ref yrw, .ref yrk, .ref yrt, .int yrp, .int yrq, .ref ytx, .int yle, .int yat, .int yfa, .ref yby, .ref ylo, .ref yhi, .int yac, .int ynx, .ref yro, .ref ygl, .int ysn, .ref yso, .ref ysp, .ref ysw, .long ysd, .ref yik, .ref ykp])), (yno, .inl (cI, 96, .inl f_18)), (yki, .inl (cI, 5, .inl Fki)), (yby, .inl (cI, 5, .inl gb)), (ylo, .inl (cI, 5, .inl gl)), (yhi, .inl (cI, 5, .inl gh)), (yso, .inl (cI, 6, .inl Fso)), (ysp, .inl (cI, 6, .inl Fsp)), (ysw, .inl (cI, 6, .inl Fsw))] H := hP.sub [4, 5, 0, 1, 2, 3, 6, 7, 8] rfl
            have hD : va_D A [(h0, .inr (4, [.int ype, .int ytk, .ref ywi, .ref yki, .ref yse, .ref yno, .ref yrh, .ref yrw, .ref yrk, .ref yrt, .int yrp, .int yrq, .ref ytx, .int yle, .int yat, .int yfa, .ref yby, .ref ylo, .ref yhi, .int yac, .int ynx, .ref yro, .ref ygl, .int ysn, .ref yso, .ref ysp, .ref ysw, .long ysd, .ref yik, .ref ykp])), (yno, .inl (cI, 96, .inl f_18)), (yki, .inl (cI, 5, .inl Fki)), (yby, .inl (cI, 5, .inl gb)), (ylo, .inl (cI, 5, .inl gl)), (yhi, .inl (cI, 5, .inl gh)), (yso, .inl (cI, 6, .inl Fso)), (ysp, .inl (cI, 6, .inl Fsp)), (ysw, .inl (cI, 6, .inl Fsw))] := hD.sub [4, 5, 0, 1, 2, 3, 6, 7, 8] (by decide) rfl
            refine W.widen (k := 0) (n := 0) (Nat.le_refl _) (Nat.le_refl _) ?_
            have hw : (r_19.toInt = 0 ∨ r_19.toInt = 1) := hw
            have hw_21 := hw
            refine lv_istore (lv' := [(4, .int r_19), (0, .ref h0), (1, .int n), (2, .int w2), (3, .int x3)]) hx hb dX4_held_56 hl (by decide) rfl (fun ls hl => ?_)
            have LOOP_22 : ∀ (fu_22 : Nat) (x4 : Int32) (pn : Nat → Int32) (pb : Nat → Int32) (pl_ : Nat → Int32) (ph : Nat → Int32) (H : Heap) (locs : List Loc) (ls : Array Slot), (10 - (pn 48).toInt).toNat < fu_22 → (0 ≤ x4.toInt ∧ x4.toInt ≤ 1) → (ByOk pb) → va_P D vwCl [(h0, .inr (4, [.int ype, .int ytk, .ref ywi, .ref yki, .ref yse, .ref yno, .ref yrh, .ref yrw, .ref yrk, .ref yrt, .int yrp, .int yrq, .ref ytx, .int yle, .int yat, .int yfa, .ref yby, .ref ylo, .ref yhi, .int yac, .int ynx, .ref yro, .ref ygl, .int ysn, .ref yso, .ref ysp, .ref ysw, .long ysd, .ref yik, .ref ykp])), (yno, .inl (cI, 96, .inl pn)), (yki, .inl (cI, 5, .inl Fki)), (yby, .inl (cI, 5, .inl pb)), (ylo, .inl (cI, 5, .inl pl_)), (yhi, .inl (cI, 5, .inl ph)), (yso, .inl (cI, 6, .inl Fso)), (ysp, .inl (cI, 6, .inl Fsp)), (ysw, .inl (cI, 6, .inl Fsw))] H → va_D A [(h0, .inr (4, [.int ype, .int ytk, .ref ywi, .ref yki, .ref yse, .ref yno, .ref yrh, .ref yrw, .ref yrk, .ref yrt, .int yrp, .int yrq, .ref ytx, .int yle, .int yat, .int yfa, .ref yby, .ref ylo, .ref yhi, .int yac, .int ynx, .ref yro, .ref ygl, .int ysn, .ref yso, .ref ysp, .ref ysw, .long ysd, .ref yik, .ref ykp])), (yno, .inl (cI, 96, .inl pn)), (yki, .inl (cI, 5, .inl Fki)), (yby, .inl (cI, 5, .inl pb)), (ylo, .inl (cI, 5, .inl pl_)), (yhi, .inl (cI, 5, .inl ph)), (yso, .inl (cI, 6, .inl Fso)), (ysp, .inl (cI, 6, .inl Fsp)), (ysw, .inl (cI, 6, .inl Fsw))] → va_S A s.heap H locs → lv_has ls 5 [(0, .ref h0), (1, .int n), (2, .int w2), (3, .int x3), (4, .int x4)] → W p l e R s m args below meth c H locs 0 0 Q (F0 m 58 ls []) := by
              intro fu_22
              induction fu_22 with
              | zero => intro x4 pn pb pl_ ph H locs ls hmu; exact absurd hmu (Nat.not_lt_zero _)
              | succ fu_22 ih =>
                intro x4 pn pb pl_ ph H locs ls hmu h_x4 hby2 hP hD hS hl
                obtain ⟨h_x4a, h_x4b⟩ := h_x4
                have ih_23 := ih
                clear ih
                refine lv_iload hx hb dX4_held_58 (lv_at hl 4 rfl) ?_
                refine lv_if_eq (tgt := 94) hx hb dX4_held_60 (by decide) (fun c_24 => ?_) (fun c_24 => ?_)
                · have tc_24 := b_eq rfl (show (0 : Int32).toInt = 0 by decide) c_24
                  refine lv_iload_n hx hb dX4_held_94 rfl (lv_at hl 2 rfl) ?_
                  refine lv_iload hx hb dX4_held_95 (lv_at hl 4 rfl) ?_
                  refine lv_if_eq (tgt := 106) hx hb dX4_held_97 (by decide) (fun c_25 => ?_) (fun c_25 => ?_)
                  · have tc_25 := b_eq rfl (show (0 : Int32).toInt = 0 by decide) c_25
                    refine lv_iconst (v := 0) hx hb dX4_held_106 (by decide) ?_
                    refine lv_ior hx hb dX4_held_107 ?_
                    refine lv_topi (fun v_26 ev_26 => ?_)
                    refine lv_istore_n (lv' := [(2, .int v_26), (0, .ref h0), (1, .int n), (3, .int x3), (4, .int x4)]) hx hb dX4_held_108 rfl hl (by decide) rfl (fun ls hl => ?_)
                    obtain ⟨v_27, ev_27⟩ : ∃ z : Int32, z = x3 + 1 := ⟨_, rfl⟩
                    have tv_27 : v_27.toInt = x3.toInt + 1 := by rw [ev_27]; exact ti_add (x := x3) (y := 1) (show -2147483648 ≤ x3.toInt + 1 by omega) (show x3.toInt + 1 < 2147483648 by omega)
                    refine lv_iinc (v := v_27) (lv' := [(3, .int v_27), (2, .int v_26), (0, .ref h0), (1, .int n), (4, .int x4)]) hx hb dX4_held_109 hl (k := 3) rfl (by rw [ev_27]; rfl) (by decide) rfl (fun ls hl => ?_)
                    refine lv_goto (tgt := 25) hx hb dX4_held_112 (by decide) ?_
                    exact ih_10 v_26 v_27 pn pb pl_ ph _ _ _ (show (5 - v_27.toInt).toNat < fu_9 by omega) (show 0 ≤ v_27.toInt ∧ v_27.toInt ≤ 5 by omega) (hby2) hP hD hS (lv_sub hl [2, 3, 1, 0] rfl)
                  · have tc_25 := b_ne rfl (show (0 : Int32).toInt = 0 by decide) c_25
                    exfalso; omega
                · have tc_24 := b_ne rfl (show (0 : Int32).toInt = 0 by decide) c_24
                  refine lv_aload_n hx hb dX4_held_63 rfl (lv_at hl 0 rfl) ?_
                  refine va_get (D := D) (ci := 4) (v := .ref yno) (C := RX4) (T := TX4) (N := 30) hx hb hts iX4 hown hK hP 0 rfl rfl 5 (by decide) (hts (.fieldLink RX4 19 "PunchedTicketModel" "now" "[I") (List.mem_of_getElem? (i := 2) rfl)) (fun _ h9 => h9) rfl dX4_held_64 ?_
                  refine lv_bipush (v := 48) hx hb dX4_held_67 (by decide) ?_
                  refine va_iald hx hb hK hP 1 0 rfl rfl (vp_in_iff.mpr (by decide)) dX4_held_69 ?_
                  refine lv_topi (fun v_28 ev_28 => ?_)
                  have tv_28 : v_28.toInt = (pn 48).toInt := by rw [ev_28]; rfl
                  refine lv_bipush (v := 10) hx hb dX4_held_70 (by decide) ?_
                  refine lv_icmp_ge (tgt := 94) hx hb dX4_held_72 (by decide) (fun c_29 => ?_) (fun c_29 => ?_)
                  · have tc_29 := b_le (show (10 : Int32).toInt = 10 by decide) rfl c_29
                    refine lv_iload_n hx hb dX4_held_94 rfl (lv_at hl 2 rfl) ?_
                    refine lv_iload hx hb dX4_held_95 (lv_at hl 4 rfl) ?_
                    refine lv_if_eq (tgt := 106) hx hb dX4_held_97 (by decide) (fun c_30 => ?_) (fun c_30 => ?_)
                    · have tc_30 := b_eq rfl (show (0 : Int32).toInt = 0 by decide) c_30
                      exfalso; omega
                    · have tc_30 := b_ne rfl (show (0 : Int32).toInt = 0 by decide) c_30
                      refine lv_iconst (v := 1) hx hb dX4_held_100 (by decide) ?_
                      refine lv_iload_n hx hb dX4_held_101 rfl (lv_at hl 3 rfl) ?_
                      refine lv_ishl hx hb dX4_held_102 ?_
                      refine lv_topi (fun v_31 ev_31 => ?_)
                      refine lv_goto (tgt := 107) hx hb dX4_held_103 (by decide) ?_
                      refine lv_ior hx hb dX4_held_107 ?_
                      refine lv_topi (fun v_32 ev_32 => ?_)
                      refine lv_istore_n (lv' := [(2, .int v_32), (0, .ref h0), (1, .int n), (3, .int x3), (4, .int x4)]) hx hb dX4_held_108 rfl hl (by decide) rfl (fun ls hl => ?_)
                      obtain ⟨v_33, ev_33⟩ : ∃ z : Int32, z = x3 + 1 := ⟨_, rfl⟩
                      have tv_33 : v_33.toInt = x3.toInt + 1 := by rw [ev_33]; exact ti_add (x := x3) (y := 1) (show -2147483648 ≤ x3.toInt + 1 by omega) (show x3.toInt + 1 < 2147483648 by omega)
                      refine lv_iinc (v := v_33) (lv' := [(3, .int v_33), (2, .int v_32), (0, .ref h0), (1, .int n), (4, .int x4)]) hx hb dX4_held_109 hl (k := 3) rfl (by rw [ev_33]; rfl) (by decide) rfl (fun ls hl => ?_)
                      refine lv_goto (tgt := 25) hx hb dX4_held_112 (by decide) ?_
                      exact ih_10 v_32 v_33 pn pb pl_ ph _ _ _ (show (5 - v_33.toInt).toNat < fu_9 by omega) (show 0 ≤ v_33.toInt ∧ v_33.toInt ≤ 5 by omega) (hby2) hP hD hS (lv_sub hl [2, 3, 1, 0] rfl)
                  · have tc_29 := b_nle (show (10 : Int32).toInt = 10 by decide) rfl c_29
                    refine lv_aload_n hx hb dX4_held_75 rfl (lv_at hl 0 rfl) ?_
                    refine lv_iconst (v := 1) hx hb dX4_held_76 (by decide) ?_
                    refine lv_aload_n hx hb dX4_held_77 rfl (lv_at hl 0 rfl) ?_
                    refine va_get (D := D) (ci := 4) (v := .int ytk) (C := RX4) (T := TX4) (N := 30) hx hb hts iX4 hown hK hP 0 rfl rfl 1 (by decide) (hts (.fieldLink RX4 101 "PunchedTicketModel" "tickets" "I") (List.mem_of_getElem? (i := 3) rfl)) (fun _ h9 => h9) rfl dX4_held_78 ?_
                    refine cV_i (As := [.int 1, .int ytk]) (rest := []) ⟨hx, hb, hml, hown, hts⟩ (c_X4_pass1 l D cI cZ cM h0 ytk ype ytk ywi yki yse yno yrh yrw yrk yrt yrp yrq ytx yle yat yfa yby ylo yhi yac ynx yro ygl ysn yso ysp ysw ysd yik ykp pn Fki pb pl_ ph _ hby2 (show (pn 48).toInt ≤ 9 by omega) (show 0 ≤ ytk.toInt ∧ ytk.toInt ≤ 7 by omega) (show 0 ≤ ype.toInt ∧ ype.toInt ≤ 5 by omega)) (cwV 2 hts gX4_held_X4_pass rfl rfl rfl (by decide +kernel) ⟨by rw [hR]; decide, by rw [hR]; decide⟩) hK hP hD hS hA [0, 1, 2, 3, 4, 5] [6, 7, 8] rfl rfl (by decide) (by decide) (by decide) rfl 0 rfl hl.1 rfl rfl (Nat.le_of_ble_eq_true rfl) dX4_held_81 ⟨by rw [hR]; decide, by rw [hR]; decide⟩ (fun r_38 u_39 H locs hw hP hD hS => ?_)
                    obtain ⟨Gno_34, Gby_35, Glo_36, Ghi_37⟩ := u_39
                    have hP : va_P D vwCl [(h0, .inr (4, [.int ype, .int ytk, .ref ywi, .ref yki, .ref yse, .ref yno, .ref yrh, .ref yrw, .ref yrk, .ref yrt, .int yrp, .int yrq, .ref ytx, .int yle, .int yat, .int yfa, .ref yby, .ref ylo, .ref yhi, .int yac, .int ynx, .ref yro, .ref ygl, .int ysn, .ref yso, .ref ysp, .ref ysw, .long ysd, .ref yik, .ref ykp])), (yno, .inl (cI, 96, .inl Gno_34)), (yki, .inl (cI, 5, .inl Fki)), (yby, .inl (cI, 5, .inl Gby_35)), (ylo, .inl (cI, 5, .inl Glo_36)), (yhi, .inl (cI, 5, .inl Ghi_37)), (yso, .inl (cI, 6, .inl Fso)), (ysp, .inl (cI, 6, .inl Fsp)), (ysw, .inl (cI, 6, .inl Fsw))] H := hP.sub [3, 4, 5, 6, 7, 8, 0, 1, 2] rfl
                    have hD : va_D A [(h0, .inr (4, [.int ype, .int ytk, .ref ywi, .ref yki, .ref yse, .ref yno, .ref yrh, .ref yrw, .ref yrk, .ref yrt, .int yrp, .int yrq, .ref ytx, .int yle, .int yat, .int yfa, .ref yby, .ref ylo, .ref yhi, .int yac, .int ynx, .ref yro, .ref ygl, .int ysn, .ref yso, .ref ysp, .ref ysw, .long ysd, .ref yik, .ref ykp])), (yno, .inl (cI, 96, .inl Gno_34)), (yki, .inl (cI, 5, .inl Fki)), (yby, .inl (cI, 5, .inl Gby_35)), (ylo, .inl (cI, 5, .inl Glo_36)), (yhi, .inl (cI, 5, .inl Ghi_37)), (yso, .inl (cI, 6, .inl Fso)), (ysp, .inl (cI, 6, .inl Fsp)), (ysw, .inl (cI, 6, .inl Fsw))] := hD.sub [3, 4, 5, 6, 7, 8, 0, 1, 2] (by decide) rfl
                    refine W.widen (k := 0) (n := 0) (Nat.le_refl _) (Nat.le_refl _) ?_
                    have hw : (Gno_34 48).toInt = (pn 48).toInt + 1 ∧ ByOk Gby_35 ∧ WentOk r_38 Gby_35 := hw
                    have hw_40 := hw
                    have PBY := hw_40.2.1
                    refine lv_pop hx hb dX4_held_84 rfl ?_
                    refine lv_aload_n hx hb dX4_held_85 rfl (lv_at hl 0 rfl) ?_
                    refine cV_i (As := []) (rest := []) ⟨hx, hb, hml, hown, hts⟩ (c_X4_isSeen l D cI cZ cM h0 ype ytk ywi yki yse yno yrh yrw yrk yrt yrp yrq ytx yle yat yfa yby ylo yhi yac ynx yro ygl ysn yso ysp ysw ysd yik ykp Gno_34 Fso Fsp Fsw _ (show 0 ≤ ype.toInt ∧ ype.toInt ≤ 5 by omega) (show 0 ≤ ytk.toInt ∧ ytk.toInt ≤ 6 by omega) (show 0 ≤ ysn.toInt ∧ ysn.toInt ≤ 6 by omega)) (cwV 0 hts gX4_held_X4_isSeen rfl rfl rfl (by decide +kernel) ⟨by rw [hR]; decide, by rw [hR]; decide⟩) hK hP hD hS hA [0, 1, 6, 7, 8] [2, 3, 4, 5] rfl rfl (by decide) (by decide) (by decide) rfl 0 rfl hl.1 rfl rfl (Nat.le_of_ble_eq_true rfl) dX4_held_86 ⟨by rw [hR]; decide, by rw [hR]; decide⟩ (fun r_41 u_42 H locs hw hP hD hS => ?_)
                    have hP : va_P D vwCl [(h0, .inr (4, [.int ype, .int ytk, .ref ywi, .ref yki, .ref yse, .ref yno, .ref yrh, .ref yrw, .ref yrk, .ref yrt, .int yrp, .int yrq, .ref ytx, .int yle, .int yat, .int yfa, .ref yby, .ref ylo, .ref yhi, .int yac, .int ynx, .ref yro, .ref ygl, .int ysn, .ref yso, .ref ysp, .ref ysw, .long ysd, .ref yik, .ref ykp])), (yno, .inl (cI, 96, .inl Gno_34)), (yki, .inl (cI, 5, .inl Fki)), (yby, .inl (cI, 5, .inl Gby_35)), (ylo, .inl (cI, 5, .inl Glo_36)), (yhi, .inl (cI, 5, .inl Ghi_37)), (yso, .inl (cI, 6, .inl Fso)), (ysp, .inl (cI, 6, .inl Fsp)), (ysw, .inl (cI, 6, .inl Fsw))] H := hP.sub [4, 5, 0, 1, 2, 3, 6, 7, 8] rfl
                    have hD : va_D A [(h0, .inr (4, [.int ype, .int ytk, .ref ywi, .ref yki, .ref yse, .ref yno, .ref yrh, .ref yrw, .ref yrk, .ref yrt, .int yrp, .int yrq, .ref ytx, .int yle, .int yat, .int yfa, .ref yby, .ref ylo, .ref yhi, .int yac, .int ynx, .ref yro, .ref ygl, .int ysn, .ref yso, .ref ysp, .ref ysw, .long ysd, .ref yik, .ref ykp])), (yno, .inl (cI, 96, .inl Gno_34)), (yki, .inl (cI, 5, .inl Fki)), (yby, .inl (cI, 5, .inl Gby_35)), (ylo, .inl (cI, 5, .inl Glo_36)), (yhi, .inl (cI, 5, .inl Ghi_37)), (yso, .inl (cI, 6, .inl Fso)), (ysp, .inl (cI, 6, .inl Fsp)), (ysw, .inl (cI, 6, .inl Fsw))] := hD.sub [4, 5, 0, 1, 2, 3, 6, 7, 8] (by decide) rfl
                    refine W.widen (k := 0) (n := 0) (Nat.le_refl _) (Nat.le_refl _) ?_
                    have hw : (r_41.toInt = 0 ∨ r_41.toInt = 1) := hw
                    have hw_43 := hw
                    refine lv_istore (lv' := [(4, .int r_41), (0, .ref h0), (1, .int n), (2, .int w2), (3, .int x3)]) hx hb dX4_held_89 hl (by decide) rfl (fun ls hl => ?_)
                    refine lv_goto (tgt := 58) hx hb dX4_held_91 (by decide) ?_
                    exact ih_23 r_41 Gno_34 Gby_35 Glo_36 Ghi_37 _ _ _ (show (10 - (Gno_34 48).toInt).toNat < fu_22 by omega) (show 0 ≤ r_41.toInt ∧ r_41.toInt ≤ 1 by omega) (PBY) hP hD hS (lv_sub hl [1, 2, 3, 4, 0] rfl)
            exact LOOP_22 _ r_19 f_18 gb gl gh _ _ _ (Nat.lt_succ_self _) (show 0 ≤ r_19.toInt ∧ r_19.toInt ≤ 1 by omega) (hby) hP hD hS (lv_sub hl [1, 2, 3, 4, 0] rfl)
      exact LOOP_9 _ 0 0 Fno Fby Flo Fhi _ _ _ (Nat.lt_succ_self _) (by decide) (hBy) hP hD hS (lv_sub hl [2, 3, 1, 0] rfl)
    · have tc_8 := b_ne rfl (show (0 : Int32).toInt = 0 by decide) c_8
      refine lv_bipush (v := (-3)) hx hb dX4_held_18 (by decide) ?_
      exact ret_i (post := (fun (r : Int32) (u : (Nat → Int32) × (Nat → Int32) × (Nat → Int32) × (Nat → Int32)) => ByOk u.2.1)) (W1 := (fun u => [(h0, .inr (4, [.int ype, .int ytk, .ref ywi, .ref yki, .ref yse, .ref yno, .ref yrh, .ref yrw, .ref yrk, .ref yrt, .int yrp, .int yrq, .ref ytx, .int yle, .int yat, .int yfa, .ref yby, .ref ylo, .ref yhi, .int yac, .int ynx, .ref yro, .ref ygl, .int ysn, .ref yso, .ref ysp, .ref ysw, .long ysd, .ref yik, .ref ykp])), (yno, .inl (cI, 96, .inl u.1)), (yki, .inl (cI, 5, .inl Fki)), (yby, .inl (cI, 5, .inl u.2.1)), (ylo, .inl (cI, 5, .inl u.2.2.1)), (yhi, .inl (cI, 5, .inl u.2.2.2)), (yso, .inl (cI, 6, .inl Fso)), (ysp, .inl (cI, 6, .inl Fsp)), (ysw, .inl (cI, 6, .inl Fsw))])) (Fno, Fby, Flo, Fhi) hx hb hr hlocks rfl hQ hK hP hD hS ⟨by decide, by decide⟩ dX4_held_20 hBy
  · have tc_4 := b_eq rfl (show (0 : Int32).toInt = 0 by decide) c_4
    refine lv_iconst (v := (-1)) hx hb dX4_held_8 (by decide) ?_
    exact ret_i (post := (fun (r : Int32) (u : (Nat → Int32) × (Nat → Int32) × (Nat → Int32) × (Nat → Int32)) => ByOk u.2.1)) (W1 := (fun u => [(h0, .inr (4, [.int ype, .int ytk, .ref ywi, .ref yki, .ref yse, .ref yno, .ref yrh, .ref yrw, .ref yrk, .ref yrt, .int yrp, .int yrq, .ref ytx, .int yle, .int yat, .int yfa, .ref yby, .ref ylo, .ref yhi, .int yac, .int ynx, .ref yro, .ref ygl, .int ysn, .ref yso, .ref ysp, .ref ysw, .long ysd, .ref yik, .ref ykp])), (yno, .inl (cI, 96, .inl u.1)), (yki, .inl (cI, 5, .inl Fki)), (yby, .inl (cI, 5, .inl u.2.1)), (ylo, .inl (cI, 5, .inl u.2.2.1)), (yhi, .inl (cI, 5, .inl u.2.2.2)), (yso, .inl (cI, 6, .inl Fso)), (ysp, .inl (cI, 6, .inl Fsp)), (ysw, .inl (cI, 6, .inl Fsw))])) (Fno, Fby, Flo, Fhi) hx hb hr hlocks rfl hQ hK hP hD hS ⟨by decide, by decide⟩ dX4_held_9 hBy

set_option maxHeartbeats 600000 in
set_option maxRecDepth 100000 in
theorem c_X4_isBlank (l : Launch) (D : va_G) (cI cZ cM : ClassId) (h0 : Nat) (n : Int32) (k : Int32) (j : Int32) (ype : Int32) (ytk : Int32) (ywi : Nat) (yki : Nat) (yse : Nat) (yno : Nat) (yrh : Nat) (yrw : Nat) (yrk : Nat) (yrt : Nat) (yrp : Int32) (yrq : Int32) (ytx : Nat) (yle : Int32) (yat : Int32) (yfa : Int32) (yby : Nat) (ylo : Nat) (yhi : Nat) (yac : Int32) (ynx : Int32) (yro : Nat) (ygl : Nat) (ysn : Int32) (yso : Nat) (ysp : Nat) (ysw : Nat) (ysd : Int64) (yik : Nat) (ykp : Nat) (Fno : Nat → Int32) (Fki : Nat → Int32) (Fby : Nat → Int32) (Flo : Nat → Int32) (Fhi : Nat → Int32) (Fse : Nat → Int32) (sz : Nat) (hBy : ByOk Fby) (h_ype : 0 ≤ ype.toInt ∧ ype.toInt ≤ 5) (h_ytk : 0 ≤ ytk.toInt ∧ ytk.toInt ≤ 6) (h_n : 0 ≤ n.toInt ∧ n.toInt ≤ 4) : Ci l yX4_isBlank wsX4_isBlank ({ frames := 3, cells := 0, slots := 0, locals := 68 } : Room) D cI cZ cM [.ref h0, .int n, .int k, .int j] [(h0, .inr (4, [.int ype, .int ytk, .ref ywi, .ref yki, .ref yse, .ref yno, .ref yrh, .ref yrw, .ref yrk, .ref yrt, .int yrp, .int yrq, .ref ytx, .int yle, .int yat, .int yfa, .ref yby, .ref ylo, .ref yhi, .int yac, .int ynx, .ref yro, .ref ygl, .int ysn, .ref yso, .ref ysp, .ref ysw, .long ysd, .ref yik, .ref ykp])), (yno, .inl (cI, 96, .inl Fno)), (yki, .inl (cI, 5, .inl Fki)), (yby, .inl (cI, 5, .inl Fby)), (ylo, .inl (cI, 5, .inl Flo)), (yhi, .inl (cI, 5, .inl Fhi)), (yse, .inl (cI, 7, .inl Fse))] sz (fun (r : Int32) (u : (Nat → Int32) × (Nat → Int32) × (Nat → Int32) × (Nat → Int32) × (Nat → Int32)) => ByOk u.2.1 ∧ (r.toInt = 0 ∨ r.toInt = 1)) (fun u => [(h0, .inr (4, [.int ype, .int ytk, .ref ywi, .ref yki, .ref yse, .ref yno, .ref yrh, .ref yrw, .ref yrk, .ref yrt, .int yrp, .int yrq, .ref ytx, .int yle, .int yat, .int yfa, .ref yby, .ref ylo, .ref yhi, .int yac, .int ynx, .ref yro, .ref ygl, .int ysn, .ref yso, .ref ysp, .ref ysw, .long ysd, .ref yik, .ref ykp])), (yno, .inl (cI, 96, .inl u.1)), (yki, .inl (cI, 5, .inl Fki)), (yby, .inl (cI, 5, .inl u.2.1)), (ylo, .inl (cI, 5, .inl u.2.2.1)), (yhi, .inl (cI, 5, .inl u.2.2.2.1)), (yse, .inl (cI, 7, .inl u.2.2.2.2))]) 0 0 := by
  refine begins (l := l) (y := yX4_isBlank) (ws := wsX4_isBlank) (av := [.ref h0, .int n, .int k, .int j]) (Qc := fun A => va_Qi (fun (r : Int32) (u : (Nat → Int32) × (Nat → Int32) × (Nat → Int32) × (Nat → Int32) × (Nat → Int32)) => ByOk u.2.1 ∧ (r.toInt = 0 ∨ r.toInt = 1)) (fun u => Wd D cI cZ cM A ((fun u => [(h0, .inr (4, [.int ype, .int ytk, .ref ywi, .ref yki, .ref yse, .ref yno, .ref yrh, .ref yrw, .ref yrk, .ref yrt, .int yrp, .int yrq, .ref ytx, .int yle, .int yat, .int yfa, .ref yby, .ref ylo, .ref yhi, .int yac, .int ynx, .ref yro, .ref ygl, .int ysn, .ref yso, .ref ysp, .ref ysw, .long ysd, .ref yik, .ref ykp])), (yno, .inl (cI, 96, .inl u.1)), (yki, .inl (cI, 5, .inl Fki)), (yby, .inl (cI, 5, .inl u.2.1)), (ylo, .inl (cI, 5, .inl u.2.2.1)), (yhi, .inl (cI, 5, .inl u.2.2.2.1)), (yse, .inl (cI, 7, .inl u.2.2.2.2))]) u)) A) cX4_isBlank 6 (some .boolean) (by decide) rfl (Nat.le_of_ble_eq_true rfl) ?_
  intro p e s m args below meth c R Q A ls hBd hR hQ hA hS hK hP hD hl
  obtain ⟨hx, hb, hr, hts, hown, hlocks, hin, hml⟩ := hBd
  have hl : lv_has ls 6 [(0, .ref h0), (1, .int n), (2, .int k), (3, .int j)] := hl
  have iX4 : ∀ w ∈ wsX40, w ∈ wsX4_isBlank := fun _ h => List.mem_cons_of_mem _ (List.mem_append_right _ h)
  obtain ⟨h_ypea, h_ypeb⟩ := h_ype
  obtain ⟨h_ytka, h_ytkb⟩ := h_ytk
  obtain ⟨h_na, h_nb⟩ := h_n
  refine lv_aload_n hx hb dX4_isBlank_0 rfl (lv_at hl 0 rfl) ?_
  refine cV_v (As := []) (rest := []) ⟨hx, hb, hml, hown, hts⟩ (c_X4_layTrial l D cI cZ cM h0 ype ytk ywi yki yse yno yrh yrw yrk yrt yrp yrq ytx yle yat yfa yby ylo yhi yac ynx yro ygl ysn yso ysp ysw ysd yik ykp Fno _ ) (cwV 0 hts gX4_isBlank_X4_layTrial rfl rfl rfl (by decide +kernel) ⟨by rw [hR]; decide, by rw [hR]; decide⟩) hK hP hD hS hA [0, 1] [2, 3, 4, 5, 6] rfl rfl (by decide) (by decide) (by decide) rfl 0 rfl hl.1 rfl rfl (Nat.le_of_ble_eq_true rfl) dX4_isBlank_1 ⟨by rw [hR]; decide, by rw [hR]; decide⟩ (fun u_3 H locs hw hP hD hS => ?_)
  obtain ⟨Gno_1, rfl⟩ : ∃ z, z = u_3 := ⟨_, rfl⟩
  have hP : va_P D vwCl [(h0, .inr (4, [.int ype, .int ytk, .ref ywi, .ref yki, .ref yse, .ref yno, .ref yrh, .ref yrw, .ref yrk, .ref yrt, .int yrp, .int yrq, .ref ytx, .int yle, .int yat, .int yfa, .ref yby, .ref ylo, .ref yhi, .int yac, .int ynx, .ref yro, .ref ygl, .int ysn, .ref yso, .ref ysp, .ref ysw, .long ysd, .ref yik, .ref ykp])), (yno, .inl (cI, 96, .inl Gno_1)), (yki, .inl (cI, 5, .inl Fki)), (yby, .inl (cI, 5, .inl Fby)), (ylo, .inl (cI, 5, .inl Flo)), (yhi, .inl (cI, 5, .inl Fhi)), (yse, .inl (cI, 7, .inl Fse))] H := hP.sub [5, 6, 0, 1, 2, 3, 4] rfl
  have hD : va_D A [(h0, .inr (4, [.int ype, .int ytk, .ref ywi, .ref yki, .ref yse, .ref yno, .ref yrh, .ref yrw, .ref yrk, .ref yrt, .int yrp, .int yrq, .ref ytx, .int yle, .int yat, .int yfa, .ref yby, .ref ylo, .ref yhi, .int yac, .int ynx, .ref yro, .ref ygl, .int ysn, .ref yso, .ref ysp, .ref ysw, .long ysd, .ref yik, .ref ykp])), (yno, .inl (cI, 96, .inl Gno_1)), (yki, .inl (cI, 5, .inl Fki)), (yby, .inl (cI, 5, .inl Fby)), (ylo, .inl (cI, 5, .inl Flo)), (yhi, .inl (cI, 5, .inl Fhi)), (yse, .inl (cI, 7, .inl Fse))] := hD.sub [5, 6, 0, 1, 2, 3, 4] (by decide) rfl
  refine W.widen (k := 0) (n := 0) (Nat.le_refl _) (Nat.le_refl _) ?_
  refine lv_bipush (v := 54) hx hb dX4_isBlank_4 (by decide) ?_
  refine lv_bipush (v := 6) hx hb dX4_isBlank_6 (by decide) ?_
  refine lv_aload_n hx hb dX4_isBlank_8 rfl (lv_at hl 0 rfl) ?_
  refine va_get (D := D) (ci := 4) (v := .int ytk) (C := RX4) (T := TX4) (N := 30) hx hb hts iX4 hown hK hP 0 rfl rfl 1 (by decide) (hts (.fieldLink RX4 101 "PunchedTicketModel" "tickets" "I") (List.mem_of_getElem? (i := 1) rfl)) (fun _ h9 => h9) rfl dX4_isBlank_9 ?_
  refine lv_imul hx hb dX4_isBlank_12 ?_
  refine lv_topi (fun v_4 ev_4 => ?_)
  have tv_4 : v_4.toInt = (6 : Int) * ytk.toInt := by rw [ev_4]; exact ti_mul (x := 6) (y := ytk) (show -2147483648 ≤ (6 : Int) * ytk.toInt by omega) (show (6 : Int) * ytk.toInt < 2147483648 by omega)
  refine lv_iadd hx hb dX4_isBlank_13 ?_
  refine lv_topi (fun v_5 ev_5 => ?_)
  have tv_5 : v_5.toInt = (54 : Int) + v_4.toInt := by rw [ev_5]; exact ti_add (x := 54) (y := v_4) (show -2147483648 ≤ (54 : Int) + v_4.toInt by omega) (show (54 : Int) + v_4.toInt < 2147483648 by omega)
  refine lv_istore (lv' := [(4, .int v_5), (0, .ref h0), (1, .int n), (2, .int k), (3, .int j)]) hx hb dX4_isBlank_14 hl (by decide) rfl (fun ls hl => ?_)
  refine lv_aload_n hx hb dX4_isBlank_16 rfl (lv_at hl 1 rfl) ?_
  refine va_get (D := D) (ci := 4) (v := .ref yno) (C := RX4) (T := TX4) (N := 30) hx hb hts iX4 hown hK hP 0 rfl rfl 5 (by decide) (hts (.fieldLink RX4 19 "PunchedTicketModel" "now" "[I") (List.mem_of_getElem? (i := 2) rfl)) (fun _ h9 => h9) rfl dX4_isBlank_17 ?_
  refine lv_iload hx hb dX4_isBlank_20 (lv_at hl 0 rfl) ?_
  refine lv_iload_n hx hb dX4_isBlank_22 rfl (lv_at hl 4 rfl) ?_
  refine lv_sipush (v := 1000) hx hb dX4_isBlank_23 (by decide) ?_
  refine lv_idiv hx hb dX4_isBlank_26 (by decide) ?_
  refine lv_topi (fun v_6 ev_6 => ?_)
  refine va_iast hx hb hK hP hD hS 1 0 rfl rfl (vp_in_iff.mpr ⟨by omega, by omega⟩) dX4_isBlank_27 (fun H locs hP hD hS => ?_)
  obtain ⟨f_7, ef_7⟩ : ∃ g : Nat → Int32, upd Gno_1 (v_5 : Int32).toNatClampNeg v_6 = g := ⟨_, rfl⟩
  rw [ef_7] at hP hD
  have hP : va_P D vwCl [(h0, .inr (4, [.int ype, .int ytk, .ref ywi, .ref yki, .ref yse, .ref yno, .ref yrh, .ref yrw, .ref yrk, .ref yrt, .int yrp, .int yrq, .ref ytx, .int yle, .int yat, .int yfa, .ref yby, .ref ylo, .ref yhi, .int yac, .int ynx, .ref yro, .ref ygl, .int ysn, .ref yso, .ref ysp, .ref ysw, .long ysd, .ref yik, .ref ykp])), (yno, .inl (cI, 96, .inl f_7)), (yki, .inl (cI, 5, .inl Fki)), (yby, .inl (cI, 5, .inl Fby)), (ylo, .inl (cI, 5, .inl Flo)), (yhi, .inl (cI, 5, .inl Fhi)), (yse, .inl (cI, 7, .inl Fse))] H := hP
  have hD : va_D A [(h0, .inr (4, [.int ype, .int ytk, .ref ywi, .ref yki, .ref yse, .ref yno, .ref yrh, .ref yrw, .ref yrk, .ref yrt, .int yrp, .int yrq, .ref ytx, .int yle, .int yat, .int yfa, .ref yby, .ref ylo, .ref yhi, .int yac, .int ynx, .ref yro, .ref ygl, .int ysn, .ref yso, .ref ysp, .ref ysw, .long ysd, .ref yik, .ref ykp])), (yno, .inl (cI, 96, .inl f_7)), (yki, .inl (cI, 5, .inl Fki)), (yby, .inl (cI, 5, .inl Fby)), (ylo, .inl (cI, 5, .inl Flo)), (yhi, .inl (cI, 5, .inl Fhi)), (yse, .inl (cI, 7, .inl Fse))] := hD
  refine lv_aload_n hx hb dX4_isBlank_28 rfl (lv_at hl 1 rfl) ?_
  refine va_get (D := D) (ci := 4) (v := .ref yno) (C := RX4) (T := TX4) (N := 30) hx hb hts iX4 hown hK hP 0 rfl rfl 5 (by decide) (hts (.fieldLink RX4 19 "PunchedTicketModel" "now" "[I") (List.mem_of_getElem? (i := 2) rfl)) (fun _ h9 => h9) rfl dX4_isBlank_29 ?_
  refine lv_iload hx hb dX4_isBlank_32 (lv_at hl 0 rfl) ?_
  refine lv_iconst (v := 1) hx hb dX4_isBlank_34 (by decide) ?_
  refine lv_iadd hx hb dX4_isBlank_35 ?_
  refine lv_topi (fun v_8 ev_8 => ?_)
  have tv_8 : v_8.toInt = v_5.toInt + (1 : Int) := by rw [ev_8]; exact ti_add (x := v_5) (y := 1) (show -2147483648 ≤ v_5.toInt + (1 : Int) by omega) (show v_5.toInt + (1 : Int) < 2147483648 by omega)
  refine lv_iload_n hx hb dX4_isBlank_36 rfl (lv_at hl 4 rfl) ?_
  refine lv_bipush (v := 100) hx hb dX4_isBlank_37 (by decide) ?_
  refine lv_idiv hx hb dX4_isBlank_39 (by decide) ?_
  refine lv_topi (fun v_9 ev_9 => ?_)
  refine lv_bipush (v := 10) hx hb dX4_isBlank_40 (by decide) ?_
  refine lv_irem hx hb dX4_isBlank_42 (by decide) ?_
  refine lv_topi (fun v_10 ev_10 => ?_)
  refine va_iast hx hb hK hP hD hS 1 0 rfl rfl (vp_in_iff.mpr ⟨by omega, by omega⟩) dX4_isBlank_43 (fun H locs hP hD hS => ?_)
  obtain ⟨f_11, ef_11⟩ : ∃ g : Nat → Int32, upd f_7 (v_8 : Int32).toNatClampNeg v_10 = g := ⟨_, rfl⟩
  rw [ef_11] at hP hD
  have hP : va_P D vwCl [(h0, .inr (4, [.int ype, .int ytk, .ref ywi, .ref yki, .ref yse, .ref yno, .ref yrh, .ref yrw, .ref yrk, .ref yrt, .int yrp, .int yrq, .ref ytx, .int yle, .int yat, .int yfa, .ref yby, .ref ylo, .ref yhi, .int yac, .int ynx, .ref yro, .ref ygl, .int ysn, .ref yso, .ref ysp, .ref ysw, .long ysd, .ref yik, .ref ykp])), (yno, .inl (cI, 96, .inl f_11)), (yki, .inl (cI, 5, .inl Fki)), (yby, .inl (cI, 5, .inl Fby)), (ylo, .inl (cI, 5, .inl Flo)), (yhi, .inl (cI, 5, .inl Fhi)), (yse, .inl (cI, 7, .inl Fse))] H := hP
  have hD : va_D A [(h0, .inr (4, [.int ype, .int ytk, .ref ywi, .ref yki, .ref yse, .ref yno, .ref yrh, .ref yrw, .ref yrk, .ref yrt, .int yrp, .int yrq, .ref ytx, .int yle, .int yat, .int yfa, .ref yby, .ref ylo, .ref yhi, .int yac, .int ynx, .ref yro, .ref ygl, .int ysn, .ref yso, .ref ysp, .ref ysw, .long ysd, .ref yik, .ref ykp])), (yno, .inl (cI, 96, .inl f_11)), (yki, .inl (cI, 5, .inl Fki)), (yby, .inl (cI, 5, .inl Fby)), (ylo, .inl (cI, 5, .inl Flo)), (yhi, .inl (cI, 5, .inl Fhi)), (yse, .inl (cI, 7, .inl Fse))] := hD
  refine lv_aload_n hx hb dX4_isBlank_44 rfl (lv_at hl 1 rfl) ?_
  refine va_get (D := D) (ci := 4) (v := .ref yno) (C := RX4) (T := TX4) (N := 30) hx hb hts iX4 hown hK hP 0 rfl rfl 5 (by decide) (hts (.fieldLink RX4 19 "PunchedTicketModel" "now" "[I") (List.mem_of_getElem? (i := 2) rfl)) (fun _ h9 => h9) rfl dX4_isBlank_45 ?_
  refine lv_iload hx hb dX4_isBlank_48 (lv_at hl 0 rfl) ?_
  refine lv_iconst (v := 2) hx hb dX4_isBlank_50 (by decide) ?_
  refine lv_iadd hx hb dX4_isBlank_51 ?_
  refine lv_topi (fun v_12 ev_12 => ?_)
  have tv_12 : v_12.toInt = v_5.toInt + (2 : Int) := by rw [ev_12]; exact ti_add (x := v_5) (y := 2) (show -2147483648 ≤ v_5.toInt + (2 : Int) by omega) (show v_5.toInt + (2 : Int) < 2147483648 by omega)
  refine lv_iload_n hx hb dX4_isBlank_52 rfl (lv_at hl 4 rfl) ?_
  refine lv_bipush (v := 10) hx hb dX4_isBlank_53 (by decide) ?_
  refine lv_idiv hx hb dX4_isBlank_55 (by decide) ?_
  refine lv_topi (fun v_13 ev_13 => ?_)
  refine lv_bipush (v := 10) hx hb dX4_isBlank_56 (by decide) ?_
  refine lv_irem hx hb dX4_isBlank_58 (by decide) ?_
  refine lv_topi (fun v_14 ev_14 => ?_)
  refine va_iast hx hb hK hP hD hS 1 0 rfl rfl (vp_in_iff.mpr ⟨by omega, by omega⟩) dX4_isBlank_59 (fun H locs hP hD hS => ?_)
  obtain ⟨f_15, ef_15⟩ : ∃ g : Nat → Int32, upd f_11 (v_12 : Int32).toNatClampNeg v_14 = g := ⟨_, rfl⟩
  rw [ef_15] at hP hD
  have hP : va_P D vwCl [(h0, .inr (4, [.int ype, .int ytk, .ref ywi, .ref yki, .ref yse, .ref yno, .ref yrh, .ref yrw, .ref yrk, .ref yrt, .int yrp, .int yrq, .ref ytx, .int yle, .int yat, .int yfa, .ref yby, .ref ylo, .ref yhi, .int yac, .int ynx, .ref yro, .ref ygl, .int ysn, .ref yso, .ref ysp, .ref ysw, .long ysd, .ref yik, .ref ykp])), (yno, .inl (cI, 96, .inl f_15)), (yki, .inl (cI, 5, .inl Fki)), (yby, .inl (cI, 5, .inl Fby)), (ylo, .inl (cI, 5, .inl Flo)), (yhi, .inl (cI, 5, .inl Fhi)), (yse, .inl (cI, 7, .inl Fse))] H := hP
  have hD : va_D A [(h0, .inr (4, [.int ype, .int ytk, .ref ywi, .ref yki, .ref yse, .ref yno, .ref yrh, .ref yrw, .ref yrk, .ref yrt, .int yrp, .int yrq, .ref ytx, .int yle, .int yat, .int yfa, .ref yby, .ref ylo, .ref yhi, .int yac, .int ynx, .ref yro, .ref ygl, .int ysn, .ref yso, .ref ysp, .ref ysw, .long ysd, .ref yik, .ref ykp])), (yno, .inl (cI, 96, .inl f_15)), (yki, .inl (cI, 5, .inl Fki)), (yby, .inl (cI, 5, .inl Fby)), (ylo, .inl (cI, 5, .inl Flo)), (yhi, .inl (cI, 5, .inl Fhi)), (yse, .inl (cI, 7, .inl Fse))] := hD
  refine lv_aload_n hx hb dX4_isBlank_60 rfl (lv_at hl 1 rfl) ?_
  refine va_get (D := D) (ci := 4) (v := .ref yno) (C := RX4) (T := TX4) (N := 30) hx hb hts iX4 hown hK hP 0 rfl rfl 5 (by decide) (hts (.fieldLink RX4 19 "PunchedTicketModel" "now" "[I") (List.mem_of_getElem? (i := 2) rfl)) (fun _ h9 => h9) rfl dX4_isBlank_61 ?_
  refine lv_iload hx hb dX4_isBlank_64 (lv_at hl 0 rfl) ?_
  refine lv_iconst (v := 3) hx hb dX4_isBlank_66 (by decide) ?_
  refine lv_iadd hx hb dX4_isBlank_67 ?_
  refine lv_topi (fun v_16 ev_16 => ?_)
  have tv_16 : v_16.toInt = v_5.toInt + (3 : Int) := by rw [ev_16]; exact ti_add (x := v_5) (y := 3) (show -2147483648 ≤ v_5.toInt + (3 : Int) by omega) (show v_5.toInt + (3 : Int) < 2147483648 by omega)
  refine lv_iload_n hx hb dX4_isBlank_68 rfl (lv_at hl 2 rfl) ?_
  refine va_iast hx hb hK hP hD hS 1 0 rfl rfl (vp_in_iff.mpr ⟨by omega, by omega⟩) dX4_isBlank_69 (fun H locs hP hD hS => ?_)
  obtain ⟨f_17, ef_17⟩ : ∃ g : Nat → Int32, upd f_15 (v_16 : Int32).toNatClampNeg n = g := ⟨_, rfl⟩
  rw [ef_17] at hP hD
  have hP : va_P D vwCl [(h0, .inr (4, [.int ype, .int ytk, .ref ywi, .ref yki, .ref yse, .ref yno, .ref yrh, .ref yrw, .ref yrk, .ref yrt, .int yrp, .int yrq, .ref ytx, .int yle, .int yat, .int yfa, .ref yby, .ref ylo, .ref yhi, .int yac, .int ynx, .ref yro, .ref ygl, .int ysn, .ref yso, .ref ysp, .ref ysw, .long ysd, .ref yik, .ref ykp])), (yno, .inl (cI, 96, .inl f_17)), (yki, .inl (cI, 5, .inl Fki)), (yby, .inl (cI, 5, .inl Fby)), (ylo, .inl (cI, 5, .inl Flo)), (yhi, .inl (cI, 5, .inl Fhi)), (yse, .inl (cI, 7, .inl Fse))] H := hP
  have hD : va_D A [(h0, .inr (4, [.int ype, .int ytk, .ref ywi, .ref yki, .ref yse, .ref yno, .ref yrh, .ref yrw, .ref yrk, .ref yrt, .int yrp, .int yrq, .ref ytx, .int yle, .int yat, .int yfa, .ref yby, .ref ylo, .ref yhi, .int yac, .int ynx, .ref yro, .ref ygl, .int ysn, .ref yso, .ref ysp, .ref ysw, .long ysd, .ref yik, .ref ykp])), (yno, .inl (cI, 96, .inl f_17)), (yki, .inl (cI, 5, .inl Fki)), (yby, .inl (cI, 5, .inl Fby)), (ylo, .inl (cI, 5, .inl Flo)), (yhi, .inl (cI, 5, .inl Fhi)), (yse, .inl (cI, 7, .inl Fse))] := hD
  refine lv_aload_n hx hb dX4_isBlank_70 rfl (lv_at hl 1 rfl) ?_
  refine va_get (D := D) (ci := 4) (v := .ref yno) (C := RX4) (T := TX4) (N := 30) hx hb hts iX4 hown hK hP 0 rfl rfl 5 (by decide) (hts (.fieldLink RX4 19 "PunchedTicketModel" "now" "[I") (List.mem_of_getElem? (i := 2) rfl)) (fun _ h9 => h9) rfl dX4_isBlank_71 ?_
  refine lv_iload hx hb dX4_isBlank_74 (lv_at hl 0 rfl) ?_
  refine lv_iconst (v := 4) hx hb dX4_isBlank_76 (by decide) ?_
  refine lv_iadd hx hb dX4_isBlank_77 ?_
  refine lv_topi (fun v_18 ev_18 => ?_)
  have tv_18 : v_18.toInt = v_5.toInt + (4 : Int) := by rw [ev_18]; exact ti_add (x := v_5) (y := 4) (show -2147483648 ≤ v_5.toInt + (4 : Int) by omega) (show v_5.toInt + (4 : Int) < 2147483648 by omega)
  refine lv_iconst (v := 0) hx hb dX4_isBlank_78 (by decide) ?_
  refine va_iast hx hb hK hP hD hS 1 0 rfl rfl (vp_in_iff.mpr ⟨by omega, by omega⟩) dX4_isBlank_79 (fun H locs hP hD hS => ?_)
  obtain ⟨f_19, ef_19⟩ : ∃ g : Nat → Int32, upd f_17 (v_18 : Int32).toNatClampNeg 0 = g := ⟨_, rfl⟩
  rw [ef_19] at hP hD
  have hP : va_P D vwCl [(h0, .inr (4, [.int ype, .int ytk, .ref ywi, .ref yki, .ref yse, .ref yno, .ref yrh, .ref yrw, .ref yrk, .ref yrt, .int yrp, .int yrq, .ref ytx, .int yle, .int yat, .int yfa, .ref yby, .ref ylo, .ref yhi, .int yac, .int ynx, .ref yro, .ref ygl, .int ysn, .ref yso, .ref ysp, .ref ysw, .long ysd, .ref yik, .ref ykp])), (yno, .inl (cI, 96, .inl f_19)), (yki, .inl (cI, 5, .inl Fki)), (yby, .inl (cI, 5, .inl Fby)), (ylo, .inl (cI, 5, .inl Flo)), (yhi, .inl (cI, 5, .inl Fhi)), (yse, .inl (cI, 7, .inl Fse))] H := hP
  have hD : va_D A [(h0, .inr (4, [.int ype, .int ytk, .ref ywi, .ref yki, .ref yse, .ref yno, .ref yrh, .ref yrw, .ref yrk, .ref yrt, .int yrp, .int yrq, .ref ytx, .int yle, .int yat, .int yfa, .ref yby, .ref ylo, .ref yhi, .int yac, .int ynx, .ref yro, .ref ygl, .int ysn, .ref yso, .ref ysp, .ref ysw, .long ysd, .ref yik, .ref ykp])), (yno, .inl (cI, 96, .inl f_19)), (yki, .inl (cI, 5, .inl Fki)), (yby, .inl (cI, 5, .inl Fby)), (ylo, .inl (cI, 5, .inl Flo)), (yhi, .inl (cI, 5, .inl Fhi)), (yse, .inl (cI, 7, .inl Fse))] := hD
  refine lv_aload_n hx hb dX4_isBlank_80 rfl (lv_at hl 1 rfl) ?_
  refine va_get (D := D) (ci := 4) (v := .ref yno) (C := RX4) (T := TX4) (N := 30) hx hb hts iX4 hown hK hP 0 rfl rfl 5 (by decide) (hts (.fieldLink RX4 19 "PunchedTicketModel" "now" "[I") (List.mem_of_getElem? (i := 2) rfl)) (fun _ h9 => h9) rfl dX4_isBlank_81 ?_
  refine lv_iload hx hb dX4_isBlank_84 (lv_at hl 0 rfl) ?_
  refine lv_iconst (v := 5) hx hb dX4_isBlank_86 (by decide) ?_
  refine lv_iadd hx hb dX4_isBlank_87 ?_
  refine lv_topi (fun v_20 ev_20 => ?_)
  have tv_20 : v_20.toInt = v_5.toInt + (5 : Int) := by rw [ev_20]; exact ti_add (x := v_5) (y := 5) (show -2147483648 ≤ v_5.toInt + (5 : Int) by omega) (show v_5.toInt + (5 : Int) < 2147483648 by omega)
  refine lv_iconst (v := 0) hx hb dX4_isBlank_88 (by decide) ?_
  refine va_iast hx hb hK hP hD hS 1 0 rfl rfl (vp_in_iff.mpr ⟨by omega, by omega⟩) dX4_isBlank_89 (fun H locs hP hD hS => ?_)
  obtain ⟨f_21, ef_21⟩ : ∃ g : Nat → Int32, upd f_19 (v_20 : Int32).toNatClampNeg 0 = g := ⟨_, rfl⟩
  rw [ef_21] at hP hD
  have hP : va_P D vwCl [(h0, .inr (4, [.int ype, .int ytk, .ref ywi, .ref yki, .ref yse, .ref yno, .ref yrh, .ref yrw, .ref yrk, .ref yrt, .int yrp, .int yrq, .ref ytx, .int yle, .int yat, .int yfa, .ref yby, .ref ylo, .ref yhi, .int yac, .int ynx, .ref yro, .ref ygl, .int ysn, .ref yso, .ref ysp, .ref ysw, .long ysd, .ref yik, .ref ykp])), (yno, .inl (cI, 96, .inl f_21)), (yki, .inl (cI, 5, .inl Fki)), (yby, .inl (cI, 5, .inl Fby)), (ylo, .inl (cI, 5, .inl Flo)), (yhi, .inl (cI, 5, .inl Fhi)), (yse, .inl (cI, 7, .inl Fse))] H := hP
  have hD : va_D A [(h0, .inr (4, [.int ype, .int ytk, .ref ywi, .ref yki, .ref yse, .ref yno, .ref yrh, .ref yrw, .ref yrk, .ref yrt, .int yrp, .int yrq, .ref ytx, .int yle, .int yat, .int yfa, .ref yby, .ref ylo, .ref yhi, .int yac, .int ynx, .ref yro, .ref ygl, .int ysn, .ref yso, .ref ysp, .ref ysw, .long ysd, .ref yik, .ref ykp])), (yno, .inl (cI, 96, .inl f_21)), (yki, .inl (cI, 5, .inl Fki)), (yby, .inl (cI, 5, .inl Fby)), (ylo, .inl (cI, 5, .inl Flo)), (yhi, .inl (cI, 5, .inl Fhi)), (yse, .inl (cI, 7, .inl Fse))] := hD
  refine lv_aload_n hx hb dX4_isBlank_90 rfl (lv_at hl 1 rfl) ?_
  refine va_get (D := D) (ci := 4) (v := .ref yse) (C := RX4) (T := TX4) (N := 30) hx hb hts iX4 hown hK hP 0 rfl rfl 4 (by decide) (hts (.fieldLink RX4 16 "PunchedTicketModel" "seat" "[I") (List.mem_of_getElem? (i := 3) rfl)) (fun _ h9 => h9) rfl dX4_isBlank_91 ?_
  refine lv_aload_n hx hb dX4_isBlank_94 rfl (lv_at hl 1 rfl) ?_
  refine va_get (D := D) (ci := 4) (v := .int ytk) (C := RX4) (T := TX4) (N := 30) hx hb hts iX4 hown hK hP 0 rfl rfl 1 (by decide) (hts (.fieldLink RX4 101 "PunchedTicketModel" "tickets" "I") (List.mem_of_getElem? (i := 1) rfl)) (fun _ h9 => h9) rfl dX4_isBlank_95 ?_
  refine lv_iload_n hx hb dX4_isBlank_98 rfl (lv_at hl 4 rfl) ?_
  refine lv_bipush (v := 10) hx hb dX4_isBlank_99 (by decide) ?_
  refine lv_irem hx hb dX4_isBlank_101 (by decide) ?_
  refine lv_topi (fun v_22 ev_22 => ?_)
  refine va_iast hx hb hK hP hD hS 6 0 rfl rfl (vp_in_iff.mpr ⟨by omega, by omega⟩) dX4_isBlank_102 (fun H locs hP hD hS => ?_)
  obtain ⟨f_23, ef_23⟩ : ∃ g : Nat → Int32, upd Fse (ytk : Int32).toNatClampNeg v_22 = g := ⟨_, rfl⟩
  rw [ef_23] at hP hD
  have hP : va_P D vwCl [(h0, .inr (4, [.int ype, .int ytk, .ref ywi, .ref yki, .ref yse, .ref yno, .ref yrh, .ref yrw, .ref yrk, .ref yrt, .int yrp, .int yrq, .ref ytx, .int yle, .int yat, .int yfa, .ref yby, .ref ylo, .ref yhi, .int yac, .int ynx, .ref yro, .ref ygl, .int ysn, .ref yso, .ref ysp, .ref ysw, .long ysd, .ref yik, .ref ykp])), (yno, .inl (cI, 96, .inl f_21)), (yki, .inl (cI, 5, .inl Fki)), (yby, .inl (cI, 5, .inl Fby)), (ylo, .inl (cI, 5, .inl Flo)), (yhi, .inl (cI, 5, .inl Fhi)), (yse, .inl (cI, 7, .inl f_23))] H := hP
  have hD : va_D A [(h0, .inr (4, [.int ype, .int ytk, .ref ywi, .ref yki, .ref yse, .ref yno, .ref yrh, .ref yrw, .ref yrk, .ref yrt, .int yrp, .int yrq, .ref ytx, .int yle, .int yat, .int yfa, .ref yby, .ref ylo, .ref yhi, .int yac, .int ynx, .ref yro, .ref ygl, .int ysn, .ref yso, .ref ysp, .ref ysw, .long ysd, .ref yik, .ref ykp])), (yno, .inl (cI, 96, .inl f_21)), (yki, .inl (cI, 5, .inl Fki)), (yby, .inl (cI, 5, .inl Fby)), (ylo, .inl (cI, 5, .inl Flo)), (yhi, .inl (cI, 5, .inl Fhi)), (yse, .inl (cI, 7, .inl f_23))] := hD
  refine lv_aload_n hx hb dX4_isBlank_103 rfl (lv_at hl 1 rfl) ?_
  refine va_get (D := D) (ci := 4) (v := .ref yno) (C := RX4) (T := TX4) (N := 30) hx hb hts iX4 hown hK hP 0 rfl rfl 5 (by decide) (hts (.fieldLink RX4 19 "PunchedTicketModel" "now" "[I") (List.mem_of_getElem? (i := 2) rfl)) (fun _ h9 => h9) rfl dX4_isBlank_104 ?_
  refine lv_iload hx hb dX4_isBlank_107 (lv_at hl 0 rfl) ?_
  refine lv_iconst (v := 1) hx hb dX4_isBlank_109 (by decide) ?_
  refine lv_iadd hx hb dX4_isBlank_110 ?_
  refine lv_topi (fun v_24 ev_24 => ?_)
  have tv_24 : v_24.toInt = v_5.toInt + (1 : Int) := by rw [ev_24]; exact ti_add (x := v_5) (y := 1) (show -2147483648 ≤ v_5.toInt + (1 : Int) by omega) (show v_5.toInt + (1 : Int) < 2147483648 by omega)
  refine va_iald hx hb hK hP 1 0 rfl rfl (vp_in_iff.mpr ⟨by omega, by omega⟩) dX4_isBlank_111 ?_
  refine lv_topi (fun v_25 ev_25 => ?_)
  refine lv_aload_n hx hb dX4_isBlank_112 rfl (lv_at hl 1 rfl) ?_
  refine va_get (D := D) (ci := 4) (v := .ref yno) (C := RX4) (T := TX4) (N := 30) hx hb hts iX4 hown hK hP 0 rfl rfl 5 (by decide) (hts (.fieldLink RX4 19 "PunchedTicketModel" "now" "[I") (List.mem_of_getElem? (i := 2) rfl)) (fun _ h9 => h9) rfl dX4_isBlank_113 ?_
  refine lv_iload hx hb dX4_isBlank_116 (lv_at hl 0 rfl) ?_
  refine lv_iconst (v := 2) hx hb dX4_isBlank_118 (by decide) ?_
  refine lv_iadd hx hb dX4_isBlank_119 ?_
  refine lv_topi (fun v_26 ev_26 => ?_)
  have tv_26 : v_26.toInt = v_5.toInt + (2 : Int) := by rw [ev_26]; exact ti_add (x := v_5) (y := 2) (show -2147483648 ≤ v_5.toInt + (2 : Int) by omega) (show v_5.toInt + (2 : Int) < 2147483648 by omega)
  refine va_iald hx hb hK hP 1 0 rfl rfl (vp_in_iff.mpr ⟨by omega, by omega⟩) dX4_isBlank_120 ?_
  refine lv_topi (fun v_27 ev_27 => ?_)
  refine lv_icmp_eq (tgt := 128) hx hb dX4_isBlank_121 (by decide) (fun c_28 => ?_) (fun c_28 => ?_)
  · have tc_28 := b_eq rfl rfl c_28
    refine lv_iconst (v := 0) hx hb dX4_isBlank_128 (by decide) ?_
    refine lv_istore (lv' := [(5, .int 0), (4, .int v_5), (0, .ref h0), (1, .int n), (2, .int k), (3, .int j)]) hx hb dX4_isBlank_129 hl (by decide) rfl (fun ls hl => ?_)
    have LOOP_29 : ∀ (fu_29 : Nat) (x5 : Int32) (gn : Nat → Int32) (gb : Nat → Int32) (gl : Nat → Int32) (gh : Nat → Int32) (H : Heap) (locs : List Loc) (ls : Array Slot), (10 - (gn 48).toInt).toNat < fu_29 → (0 ≤ x5.toInt ∧ x5.toInt ≤ 1) → (ByOk gb) → va_P D vwCl [(h0, .inr (4, [.int ype, .int ytk, .ref ywi, .ref yki, .ref yse, .ref yno, .ref yrh, .ref yrw, .ref yrk, .ref yrt, .int yrp, .int yrq, .ref ytx, .int yle, .int yat, .int yfa, .ref yby, .ref ylo, .ref yhi, .int yac, .int ynx, .ref yro, .ref ygl, .int ysn, .ref yso, .ref ysp, .ref ysw, .long ysd, .ref yik, .ref ykp])), (yno, .inl (cI, 96, .inl gn)), (yki, .inl (cI, 5, .inl Fki)), (yby, .inl (cI, 5, .inl gb)), (ylo, .inl (cI, 5, .inl gl)), (yhi, .inl (cI, 5, .inl gh)), (yse, .inl (cI, 7, .inl f_23))] H → va_D A [(h0, .inr (4, [.int ype, .int ytk, .ref ywi, .ref yki, .ref yse, .ref yno, .ref yrh, .ref yrw, .ref yrk, .ref yrt, .int yrp, .int yrq, .ref ytx, .int yle, .int yat, .int yfa, .ref yby, .ref ylo, .ref yhi, .int yac, .int ynx, .ref yro, .ref ygl, .int ysn, .ref yso, .ref ysp, .ref ysw, .long ysd, .ref yik, .ref ykp])), (yno, .inl (cI, 96, .inl gn)), (yki, .inl (cI, 5, .inl Fki)), (yby, .inl (cI, 5, .inl gb)), (ylo, .inl (cI, 5, .inl gl)), (yhi, .inl (cI, 5, .inl gh)), (yse, .inl (cI, 7, .inl f_23))] → va_S A s.heap H locs → lv_has ls 6 [(0, .ref h0), (1, .int n), (2, .int k), (3, .int j), (4, .int v_5), (5, .int x5)] → W p l e R s m args below meth c H locs 0 0 Q (F0 m 131 ls []) := by
      intro fu_29
      induction fu_29 with
      | zero => intro x5 gn gb gl gh H locs ls hmu; exact absurd hmu (Nat.not_lt_zero _)
      | succ fu_29 ih =>
        intro x5 gn gb gl gh H locs ls hmu h_x5 hby hP hD hS hl
        obtain ⟨h_x5a, h_x5b⟩ := h_x5
        have ih_30 := ih
        clear ih
        refine lv_iload hx hb dX4_isBlank_131 (lv_at hl 5 rfl) ?_
        refine lv_if_eq (tgt := 176) hx hb dX4_isBlank_133 (by decide) (fun c_31 => ?_) (fun c_31 => ?_)
        · have tc_31 := b_eq rfl (show (0 : Int32).toInt = 0 by decide) c_31
          refine lv_iload hx hb dX4_isBlank_176 (lv_at hl 5 rfl) ?_
          refine lv_if_eq (tgt := 198) hx hb dX4_isBlank_178 (by decide) (fun c_32 => ?_) (fun c_32 => ?_)
          · have tc_32 := b_eq rfl (show (0 : Int32).toInt = 0 by decide) c_32
            refine lv_iconst (v := 0) hx hb dX4_isBlank_198 (by decide) ?_
            exact ret_i (post := (fun (r : Int32) (u : (Nat → Int32) × (Nat → Int32) × (Nat → Int32) × (Nat → Int32) × (Nat → Int32)) => ByOk u.2.1 ∧ (r.toInt = 0 ∨ r.toInt = 1))) (W1 := (fun u => [(h0, .inr (4, [.int ype, .int ytk, .ref ywi, .ref yki, .ref yse, .ref yno, .ref yrh, .ref yrw, .ref yrk, .ref yrt, .int yrp, .int yrq, .ref ytx, .int yle, .int yat, .int yfa, .ref yby, .ref ylo, .ref yhi, .int yac, .int ynx, .ref yro, .ref ygl, .int ysn, .ref yso, .ref ysp, .ref ysw, .long ysd, .ref yik, .ref ykp])), (yno, .inl (cI, 96, .inl u.1)), (yki, .inl (cI, 5, .inl Fki)), (yby, .inl (cI, 5, .inl u.2.1)), (ylo, .inl (cI, 5, .inl u.2.2.1)), (yhi, .inl (cI, 5, .inl u.2.2.2.1)), (yse, .inl (cI, 7, .inl u.2.2.2.2))])) (gn, gb, gl, gh, f_23) hx hb hr hlocks rfl hQ hK hP hD hS ⟨by decide, by decide⟩ dX4_isBlank_199 (⟨hby, (show (0 : Int) = 0 ∨ (0 : Int) = 1 by omega)⟩)
          · have tc_32 := b_ne rfl (show (0 : Int32).toInt = 0 by decide) c_32
            exfalso; omega
        · have tc_31 := b_ne rfl (show (0 : Int32).toInt = 0 by decide) c_31
          refine lv_aload_n hx hb dX4_isBlank_136 rfl (lv_at hl 0 rfl) ?_
          refine va_get (D := D) (ci := 4) (v := .ref yno) (C := RX4) (T := TX4) (N := 30) hx hb hts iX4 hown hK hP 0 rfl rfl 5 (by decide) (hts (.fieldLink RX4 19 "PunchedTicketModel" "now" "[I") (List.mem_of_getElem? (i := 2) rfl)) (fun _ h9 => h9) rfl dX4_isBlank_137 ?_
          refine lv_bipush (v := 48) hx hb dX4_isBlank_140 (by decide) ?_
          refine va_iald hx hb hK hP 1 0 rfl rfl (vp_in_iff.mpr (by decide)) dX4_isBlank_142 ?_
          refine lv_topi (fun v_33 ev_33 => ?_)
          have tv_33 : v_33.toInt = (gn 48).toInt := by rw [ev_33]; rfl
          refine lv_bipush (v := 10) hx hb dX4_isBlank_143 (by decide) ?_
          refine lv_icmp_ge (tgt := 176) hx hb dX4_isBlank_145 (by decide) (fun c_34 => ?_) (fun c_34 => ?_)
          · have tc_34 := b_le (show (10 : Int32).toInt = 10 by decide) rfl c_34
            refine lv_iload hx hb dX4_isBlank_176 (lv_at hl 5 rfl) ?_
            refine lv_if_eq (tgt := 198) hx hb dX4_isBlank_178 (by decide) (fun c_35 => ?_) (fun c_35 => ?_)
            · have tc_35 := b_eq rfl (show (0 : Int32).toInt = 0 by decide) c_35
              exfalso; omega
            · have tc_35 := b_ne rfl (show (0 : Int32).toInt = 0 by decide) c_35
              refine lv_aload_n hx hb dX4_isBlank_181 rfl (lv_at hl 0 rfl) ?_
              refine va_get (D := D) (ci := 4) (v := .ref yno) (C := RX4) (T := TX4) (N := 30) hx hb hts iX4 hown hK hP 0 rfl rfl 5 (by decide) (hts (.fieldLink RX4 19 "PunchedTicketModel" "now" "[I") (List.mem_of_getElem? (i := 2) rfl)) (fun _ h9 => h9) rfl dX4_isBlank_182 ?_
              refine lv_bipush (v := 49) hx hb dX4_isBlank_185 (by decide) ?_
              refine lv_iload_n hx hb dX4_isBlank_187 rfl (lv_at hl 1 rfl) ?_
              refine lv_iadd hx hb dX4_isBlank_188 ?_
              refine lv_topi (fun v_36 ev_36 => ?_)
              have tv_36 : v_36.toInt = (49 : Int) + n.toInt := by rw [ev_36]; exact ti_add (x := 49) (y := n) (show -2147483648 ≤ (49 : Int) + n.toInt by omega) (show (49 : Int) + n.toInt < 2147483648 by omega)
              refine va_iald hx hb hK hP 1 0 rfl rfl (vp_in_iff.mpr ⟨by omega, by omega⟩) dX4_isBlank_189 ?_
              refine lv_topi (fun v_37 ev_37 => ?_)
              refine lv_iload_n hx hb dX4_isBlank_190 rfl (lv_at hl 2 rfl) ?_
              refine lv_icmp_ne (tgt := 198) hx hb dX4_isBlank_191 (by decide) (fun c_38 => ?_) (fun c_38 => ?_)
              · have tc_38 := b_ne rfl rfl c_38
                refine lv_iconst (v := 0) hx hb dX4_isBlank_198 (by decide) ?_
                exact ret_i (post := (fun (r : Int32) (u : (Nat → Int32) × (Nat → Int32) × (Nat → Int32) × (Nat → Int32) × (Nat → Int32)) => ByOk u.2.1 ∧ (r.toInt = 0 ∨ r.toInt = 1))) (W1 := (fun u => [(h0, .inr (4, [.int ype, .int ytk, .ref ywi, .ref yki, .ref yse, .ref yno, .ref yrh, .ref yrw, .ref yrk, .ref yrt, .int yrp, .int yrq, .ref ytx, .int yle, .int yat, .int yfa, .ref yby, .ref ylo, .ref yhi, .int yac, .int ynx, .ref yro, .ref ygl, .int ysn, .ref yso, .ref ysp, .ref ysw, .long ysd, .ref yik, .ref ykp])), (yno, .inl (cI, 96, .inl u.1)), (yki, .inl (cI, 5, .inl Fki)), (yby, .inl (cI, 5, .inl u.2.1)), (ylo, .inl (cI, 5, .inl u.2.2.1)), (yhi, .inl (cI, 5, .inl u.2.2.2.1)), (yse, .inl (cI, 7, .inl u.2.2.2.2))])) (gn, gb, gl, gh, f_23) hx hb hr hlocks rfl hQ hK hP hD hS ⟨by decide, by decide⟩ dX4_isBlank_199 (⟨hby, (show (0 : Int) = 0 ∨ (0 : Int) = 1 by omega)⟩)
              · have tc_38 := b_eq rfl rfl c_38
                refine lv_iconst (v := 1) hx hb dX4_isBlank_194 (by decide) ?_
                refine lv_goto (tgt := 199) hx hb dX4_isBlank_195 (by decide) ?_
                exact ret_i (post := (fun (r : Int32) (u : (Nat → Int32) × (Nat → Int32) × (Nat → Int32) × (Nat → Int32) × (Nat → Int32)) => ByOk u.2.1 ∧ (r.toInt = 0 ∨ r.toInt = 1))) (W1 := (fun u => [(h0, .inr (4, [.int ype, .int ytk, .ref ywi, .ref yki, .ref yse, .ref yno, .ref yrh, .ref yrw, .ref yrk, .ref yrt, .int yrp, .int yrq, .ref ytx, .int yle, .int yat, .int yfa, .ref yby, .ref ylo, .ref yhi, .int yac, .int ynx, .ref yro, .ref ygl, .int ysn, .ref yso, .ref ysp, .ref ysw, .long ysd, .ref yik, .ref ykp])), (yno, .inl (cI, 96, .inl u.1)), (yki, .inl (cI, 5, .inl Fki)), (yby, .inl (cI, 5, .inl u.2.1)), (ylo, .inl (cI, 5, .inl u.2.2.1)), (yhi, .inl (cI, 5, .inl u.2.2.2.1)), (yse, .inl (cI, 7, .inl u.2.2.2.2))])) (gn, gb, gl, gh, f_23) hx hb hr hlocks rfl hQ hK hP hD hS ⟨by decide, by decide⟩ dX4_isBlank_199 (⟨hby, (show (1 : Int) = 0 ∨ (1 : Int) = 1 by omega)⟩)
          · have tc_34 := b_nle (show (10 : Int32).toInt = 10 by decide) rfl c_34
            refine lv_aload_n hx hb dX4_isBlank_148 rfl (lv_at hl 0 rfl) ?_
            refine lv_aload_n hx hb dX4_isBlank_149 rfl (lv_at hl 0 rfl) ?_
            refine lv_iconst (v := 1) hx hb dX4_isBlank_150 (by decide) ?_
            refine lv_aload_n hx hb dX4_isBlank_151 rfl (lv_at hl 0 rfl) ?_
            refine va_get (D := D) (ci := 4) (v := .int ytk) (C := RX4) (T := TX4) (N := 30) hx hb hts iX4 hown hK hP 0 rfl rfl 1 (by decide) (hts (.fieldLink RX4 101 "PunchedTicketModel" "tickets" "I") (List.mem_of_getElem? (i := 1) rfl)) (fun _ h9 => h9) rfl dX4_isBlank_152 ?_
            refine lv_iconst (v := 1) hx hb dX4_isBlank_155 (by decide) ?_
            refine lv_iadd hx hb dX4_isBlank_156 ?_
            refine lv_topi (fun v_39 ev_39 => ?_)
            have tv_39 : v_39.toInt = ytk.toInt + (1 : Int) := by rw [ev_39]; exact ti_add (x := ytk) (y := 1) (show -2147483648 ≤ ytk.toInt + (1 : Int) by omega) (show ytk.toInt + (1 : Int) < 2147483648 by omega)
            refine cV_i (As := [.int 1, .int v_39]) (rest := [.ref h0]) ⟨hx, hb, hml, hown, hts⟩ (c_X4_pass1 l D cI cZ cM h0 v_39 ype ytk ywi yki yse yno yrh yrw yrk yrt yrp yrq ytx yle yat yfa yby ylo yhi yac ynx yro ygl ysn yso ysp ysw ysd yik ykp gn Fki gb gl gh _ hby (show (gn 48).toInt ≤ 9 by omega) (show 0 ≤ v_39.toInt ∧ v_39.toInt ≤ 7 by omega) (show 0 ≤ ype.toInt ∧ ype.toInt ≤ 5 by omega)) (cwV 2 hts gX4_isBlank_X4_pass rfl rfl rfl (by decide +kernel) ⟨by rw [hR]; decide, by rw [hR]; decide⟩) hK hP hD hS hA [0, 1, 2, 3, 4, 5] [6] rfl rfl (by decide) (by decide) (by decide) rfl 0 rfl hl.1 rfl rfl (Nat.le_of_ble_eq_true rfl) dX4_isBlank_157 ⟨by rw [hR]; decide, by rw [hR]; decide⟩ (fun r_44 u_45 H locs hw hP hD hS => ?_)
            obtain ⟨Gno_40, Gby_41, Glo_42, Ghi_43⟩ := u_45
            have hP : va_P D vwCl [(h0, .inr (4, [.int ype, .int ytk, .ref ywi, .ref yki, .ref yse, .ref yno, .ref yrh, .ref yrw, .ref yrk, .ref yrt, .int yrp, .int yrq, .ref ytx, .int yle, .int yat, .int yfa, .ref yby, .ref ylo, .ref yhi, .int yac, .int ynx, .ref yro, .ref ygl, .int ysn, .ref yso, .ref ysp, .ref ysw, .long ysd, .ref yik, .ref ykp])), (yno, .inl (cI, 96, .inl Gno_40)), (yki, .inl (cI, 5, .inl Fki)), (yby, .inl (cI, 5, .inl Gby_41)), (ylo, .inl (cI, 5, .inl Glo_42)), (yhi, .inl (cI, 5, .inl Ghi_43)), (yse, .inl (cI, 7, .inl f_23))] H := hP.sub [1, 2, 3, 4, 5, 6, 0] rfl
            have hD : va_D A [(h0, .inr (4, [.int ype, .int ytk, .ref ywi, .ref yki, .ref yse, .ref yno, .ref yrh, .ref yrw, .ref yrk, .ref yrt, .int yrp, .int yrq, .ref ytx, .int yle, .int yat, .int yfa, .ref yby, .ref ylo, .ref yhi, .int yac, .int ynx, .ref yro, .ref ygl, .int ysn, .ref yso, .ref ysp, .ref ysw, .long ysd, .ref yik, .ref ykp])), (yno, .inl (cI, 96, .inl Gno_40)), (yki, .inl (cI, 5, .inl Fki)), (yby, .inl (cI, 5, .inl Gby_41)), (ylo, .inl (cI, 5, .inl Glo_42)), (yhi, .inl (cI, 5, .inl Ghi_43)), (yse, .inl (cI, 7, .inl f_23))] := hD.sub [1, 2, 3, 4, 5, 6, 0] (by decide) rfl
            refine W.widen (k := 0) (n := 0) (Nat.le_refl _) (Nat.le_refl _) ?_
            have hw : (Gno_40 48).toInt = (gn 48).toInt + 1 ∧ ByOk Gby_41 ∧ WentOk r_44 Gby_41 := hw
            have hw_46 := hw
            have PBY := hw_46.2.1
            have PWE := hw_46.2.2
            refine cV_i (As := [.int r_44]) (rest := []) ⟨hx, hb, hml, hown, hts⟩ (c_X4_isDouble l D cI cZ cM h0 r_44 ype ytk ywi yki yse yno yrh yrw yrk yrt yrp yrq ytx yle yat yfa yby ylo yhi yac ynx yro ygl ysn yso ysp ysw ysd yik ykp Glo_42 Ghi_43 Gby_41 f_23 _ PWE (show 0 ≤ ype.toInt ∧ ype.toInt ≤ 5 by omega)) (cwV 1 hts gX4_isBlank_X4_isDouble rfl rfl rfl (by decide +kernel) ⟨by rw [hR]; decide, by rw [hR]; decide⟩) hK hP hD hS hA [0, 4, 5, 3, 6] [1, 2] rfl rfl (by decide) (by decide) (by decide) rfl 0 rfl hl.1 rfl rfl (Nat.le_of_ble_eq_true rfl) dX4_isBlank_160 ⟨by rw [hR]; decide, by rw [hR]; decide⟩ (fun r_47 u_48 H locs hw hP hD hS => ?_)
            have hP : va_P D vwCl [(h0, .inr (4, [.int ype, .int ytk, .ref ywi, .ref yki, .ref yse, .ref yno, .ref yrh, .ref yrw, .ref yrk, .ref yrt, .int yrp, .int yrq, .ref ytx, .int yle, .int yat, .int yfa, .ref yby, .ref ylo, .ref yhi, .int yac, .int ynx, .ref yro, .ref ygl, .int ysn, .ref yso, .ref ysp, .ref ysw, .long ysd, .ref yik, .ref ykp])), (yno, .inl (cI, 96, .inl Gno_40)), (yki, .inl (cI, 5, .inl Fki)), (yby, .inl (cI, 5, .inl Gby_41)), (ylo, .inl (cI, 5, .inl Glo_42)), (yhi, .inl (cI, 5, .inl Ghi_43)), (yse, .inl (cI, 7, .inl f_23))] H := hP.sub [2, 0, 1, 5, 3, 4, 6] rfl
            have hD : va_D A [(h0, .inr (4, [.int ype, .int ytk, .ref ywi, .ref yki, .ref yse, .ref yno, .ref yrh, .ref yrw, .ref yrk, .ref yrt, .int yrp, .int yrq, .ref ytx, .int yle, .int yat, .int yfa, .ref yby, .ref ylo, .ref yhi, .int yac, .int ynx, .ref yro, .ref ygl, .int ysn, .ref yso, .ref ysp, .ref ysw, .long ysd, .ref yik, .ref ykp])), (yno, .inl (cI, 96, .inl Gno_40)), (yki, .inl (cI, 5, .inl Fki)), (yby, .inl (cI, 5, .inl Gby_41)), (ylo, .inl (cI, 5, .inl Glo_42)), (yhi, .inl (cI, 5, .inl Ghi_43)), (yse, .inl (cI, 7, .inl f_23))] := hD.sub [2, 0, 1, 5, 3, 4, 6] (by decide) rfl
            refine W.widen (k := 0) (n := 0) (Nat.le_refl _) (Nat.le_refl _) ?_
            have hw : (r_47.toInt = 0 ∨ r_47.toInt = 1) := hw
            have hw_49 := hw
            refine lv_if_ne (tgt := 170) hx hb dX4_isBlank_163 (by decide) (fun c_50 => ?_) (fun c_50 => ?_)
            · have tc_50 := b_ne rfl (show (0 : Int32).toInt = 0 by decide) c_50
              refine lv_iconst (v := 0) hx hb dX4_isBlank_170 (by decide) ?_
              refine lv_istore (lv' := [(5, .int 0), (0, .ref h0), (1, .int n), (2, .int k), (3, .int j), (4, .int v_5)]) hx hb dX4_isBlank_171 hl (by decide) rfl (fun ls hl => ?_)
              refine lv_goto (tgt := 131) hx hb dX4_isBlank_173 (by decide) ?_
              exact ih_30 0 Gno_40 Gby_41 Glo_42 Ghi_43 _ _ _ (show (10 - (Gno_40 48).toInt).toNat < fu_29 by omega) (by decide) (PBY) hP hD hS (lv_sub hl [1, 2, 3, 4, 5, 0] rfl)
            · have tc_50 := b_eq rfl (show (0 : Int32).toInt = 0 by decide) c_50
              refine lv_iconst (v := 1) hx hb dX4_isBlank_166 (by decide) ?_
              refine lv_goto (tgt := 171) hx hb dX4_isBlank_167 (by decide) ?_
              refine lv_istore (lv' := [(5, .int 1), (0, .ref h0), (1, .int n), (2, .int k), (3, .int j), (4, .int v_5)]) hx hb dX4_isBlank_171 hl (by decide) rfl (fun ls hl => ?_)
              refine lv_goto (tgt := 131) hx hb dX4_isBlank_173 (by decide) ?_
              exact ih_30 1 Gno_40 Gby_41 Glo_42 Ghi_43 _ _ _ (show (10 - (Gno_40 48).toInt).toNat < fu_29 by omega) (by decide) (PBY) hP hD hS (lv_sub hl [1, 2, 3, 4, 5, 0] rfl)
    exact LOOP_29 _ 0 f_21 Fby Flo Fhi _ _ _ (Nat.lt_succ_self _) (by decide) (hBy) hP hD hS (lv_sub hl [2, 3, 4, 5, 1, 0] rfl)
  · have tc_28 := b_ne rfl rfl c_28
    refine lv_iconst (v := 1) hx hb dX4_isBlank_124 (by decide) ?_
    refine lv_goto (tgt := 129) hx hb dX4_isBlank_125 (by decide) ?_
    refine lv_istore (lv' := [(5, .int 1), (4, .int v_5), (0, .ref h0), (1, .int n), (2, .int k), (3, .int j)]) hx hb dX4_isBlank_129 hl (by decide) rfl (fun ls hl => ?_)
    have LOOP_51 : ∀ (fu_51 : Nat) (x5 : Int32) (gn : Nat → Int32) (gb : Nat → Int32) (gl : Nat → Int32) (gh : Nat → Int32) (H : Heap) (locs : List Loc) (ls : Array Slot), (10 - (gn 48).toInt).toNat < fu_51 → (0 ≤ x5.toInt ∧ x5.toInt ≤ 1) → (ByOk gb) → va_P D vwCl [(h0, .inr (4, [.int ype, .int ytk, .ref ywi, .ref yki, .ref yse, .ref yno, .ref yrh, .ref yrw, .ref yrk, .ref yrt, .int yrp, .int yrq, .ref ytx, .int yle, .int yat, .int yfa, .ref yby, .ref ylo, .ref yhi, .int yac, .int ynx, .ref yro, .ref ygl, .int ysn, .ref yso, .ref ysp, .ref ysw, .long ysd, .ref yik, .ref ykp])), (yno, .inl (cI, 96, .inl gn)), (yki, .inl (cI, 5, .inl Fki)), (yby, .inl (cI, 5, .inl gb)), (ylo, .inl (cI, 5, .inl gl)), (yhi, .inl (cI, 5, .inl gh)), (yse, .inl (cI, 7, .inl f_23))] H → va_D A [(h0, .inr (4, [.int ype, .int ytk, .ref ywi, .ref yki, .ref yse, .ref yno, .ref yrh, .ref yrw, .ref yrk, .ref yrt, .int yrp, .int yrq, .ref ytx, .int yle, .int yat, .int yfa, .ref yby, .ref ylo, .ref yhi, .int yac, .int ynx, .ref yro, .ref ygl, .int ysn, .ref yso, .ref ysp, .ref ysw, .long ysd, .ref yik, .ref ykp])), (yno, .inl (cI, 96, .inl gn)), (yki, .inl (cI, 5, .inl Fki)), (yby, .inl (cI, 5, .inl gb)), (ylo, .inl (cI, 5, .inl gl)), (yhi, .inl (cI, 5, .inl gh)), (yse, .inl (cI, 7, .inl f_23))] → va_S A s.heap H locs → lv_has ls 6 [(0, .ref h0), (1, .int n), (2, .int k), (3, .int j), (4, .int v_5), (5, .int x5)] → W p l e R s m args below meth c H locs 0 0 Q (F0 m 131 ls []) := by
      intro fu_51
      induction fu_51 with
      | zero => intro x5 gn gb gl gh H locs ls hmu; exact absurd hmu (Nat.not_lt_zero _)
      | succ fu_51 ih =>
        intro x5 gn gb gl gh H locs ls hmu h_x5 hby hP hD hS hl
        obtain ⟨h_x5a, h_x5b⟩ := h_x5
        have ih_52 := ih
        clear ih
        refine lv_iload hx hb dX4_isBlank_131 (lv_at hl 5 rfl) ?_
        refine lv_if_eq (tgt := 176) hx hb dX4_isBlank_133 (by decide) (fun c_53 => ?_) (fun c_53 => ?_)
        · have tc_53 := b_eq rfl (show (0 : Int32).toInt = 0 by decide) c_53
          refine lv_iload hx hb dX4_isBlank_176 (lv_at hl 5 rfl) ?_
          refine lv_if_eq (tgt := 198) hx hb dX4_isBlank_178 (by decide) (fun c_54 => ?_) (fun c_54 => ?_)
          · have tc_54 := b_eq rfl (show (0 : Int32).toInt = 0 by decide) c_54
            refine lv_iconst (v := 0) hx hb dX4_isBlank_198 (by decide) ?_
            exact ret_i (post := (fun (r : Int32) (u : (Nat → Int32) × (Nat → Int32) × (Nat → Int32) × (Nat → Int32) × (Nat → Int32)) => ByOk u.2.1 ∧ (r.toInt = 0 ∨ r.toInt = 1))) (W1 := (fun u => [(h0, .inr (4, [.int ype, .int ytk, .ref ywi, .ref yki, .ref yse, .ref yno, .ref yrh, .ref yrw, .ref yrk, .ref yrt, .int yrp, .int yrq, .ref ytx, .int yle, .int yat, .int yfa, .ref yby, .ref ylo, .ref yhi, .int yac, .int ynx, .ref yro, .ref ygl, .int ysn, .ref yso, .ref ysp, .ref ysw, .long ysd, .ref yik, .ref ykp])), (yno, .inl (cI, 96, .inl u.1)), (yki, .inl (cI, 5, .inl Fki)), (yby, .inl (cI, 5, .inl u.2.1)), (ylo, .inl (cI, 5, .inl u.2.2.1)), (yhi, .inl (cI, 5, .inl u.2.2.2.1)), (yse, .inl (cI, 7, .inl u.2.2.2.2))])) (gn, gb, gl, gh, f_23) hx hb hr hlocks rfl hQ hK hP hD hS ⟨by decide, by decide⟩ dX4_isBlank_199 (⟨hby, (show (0 : Int) = 0 ∨ (0 : Int) = 1 by omega)⟩)
          · have tc_54 := b_ne rfl (show (0 : Int32).toInt = 0 by decide) c_54
            exfalso; omega
        · have tc_53 := b_ne rfl (show (0 : Int32).toInt = 0 by decide) c_53
          refine lv_aload_n hx hb dX4_isBlank_136 rfl (lv_at hl 0 rfl) ?_
          refine va_get (D := D) (ci := 4) (v := .ref yno) (C := RX4) (T := TX4) (N := 30) hx hb hts iX4 hown hK hP 0 rfl rfl 5 (by decide) (hts (.fieldLink RX4 19 "PunchedTicketModel" "now" "[I") (List.mem_of_getElem? (i := 2) rfl)) (fun _ h9 => h9) rfl dX4_isBlank_137 ?_
          refine lv_bipush (v := 48) hx hb dX4_isBlank_140 (by decide) ?_
          refine va_iald hx hb hK hP 1 0 rfl rfl (vp_in_iff.mpr (by decide)) dX4_isBlank_142 ?_
          refine lv_topi (fun v_55 ev_55 => ?_)
          have tv_55 : v_55.toInt = (gn 48).toInt := by rw [ev_55]; rfl
          refine lv_bipush (v := 10) hx hb dX4_isBlank_143 (by decide) ?_
          refine lv_icmp_ge (tgt := 176) hx hb dX4_isBlank_145 (by decide) (fun c_56 => ?_) (fun c_56 => ?_)
          · have tc_56 := b_le (show (10 : Int32).toInt = 10 by decide) rfl c_56
            refine lv_iload hx hb dX4_isBlank_176 (lv_at hl 5 rfl) ?_
            refine lv_if_eq (tgt := 198) hx hb dX4_isBlank_178 (by decide) (fun c_57 => ?_) (fun c_57 => ?_)
            · have tc_57 := b_eq rfl (show (0 : Int32).toInt = 0 by decide) c_57
              exfalso; omega
            · have tc_57 := b_ne rfl (show (0 : Int32).toInt = 0 by decide) c_57
              refine lv_aload_n hx hb dX4_isBlank_181 rfl (lv_at hl 0 rfl) ?_
              refine va_get (D := D) (ci := 4) (v := .ref yno) (C := RX4) (T := TX4) (N := 30) hx hb hts iX4 hown hK hP 0 rfl rfl 5 (by decide) (hts (.fieldLink RX4 19 "PunchedTicketModel" "now" "[I") (List.mem_of_getElem? (i := 2) rfl)) (fun _ h9 => h9) rfl dX4_isBlank_182 ?_
              refine lv_bipush (v := 49) hx hb dX4_isBlank_185 (by decide) ?_
              refine lv_iload_n hx hb dX4_isBlank_187 rfl (lv_at hl 1 rfl) ?_
              refine lv_iadd hx hb dX4_isBlank_188 ?_
              refine lv_topi (fun v_58 ev_58 => ?_)
              have tv_58 : v_58.toInt = (49 : Int) + n.toInt := by rw [ev_58]; exact ti_add (x := 49) (y := n) (show -2147483648 ≤ (49 : Int) + n.toInt by omega) (show (49 : Int) + n.toInt < 2147483648 by omega)
              refine va_iald hx hb hK hP 1 0 rfl rfl (vp_in_iff.mpr ⟨by omega, by omega⟩) dX4_isBlank_189 ?_
              refine lv_topi (fun v_59 ev_59 => ?_)
              refine lv_iload_n hx hb dX4_isBlank_190 rfl (lv_at hl 2 rfl) ?_
              refine lv_icmp_ne (tgt := 198) hx hb dX4_isBlank_191 (by decide) (fun c_60 => ?_) (fun c_60 => ?_)
              · have tc_60 := b_ne rfl rfl c_60
                refine lv_iconst (v := 0) hx hb dX4_isBlank_198 (by decide) ?_
                exact ret_i (post := (fun (r : Int32) (u : (Nat → Int32) × (Nat → Int32) × (Nat → Int32) × (Nat → Int32) × (Nat → Int32)) => ByOk u.2.1 ∧ (r.toInt = 0 ∨ r.toInt = 1))) (W1 := (fun u => [(h0, .inr (4, [.int ype, .int ytk, .ref ywi, .ref yki, .ref yse, .ref yno, .ref yrh, .ref yrw, .ref yrk, .ref yrt, .int yrp, .int yrq, .ref ytx, .int yle, .int yat, .int yfa, .ref yby, .ref ylo, .ref yhi, .int yac, .int ynx, .ref yro, .ref ygl, .int ysn, .ref yso, .ref ysp, .ref ysw, .long ysd, .ref yik, .ref ykp])), (yno, .inl (cI, 96, .inl u.1)), (yki, .inl (cI, 5, .inl Fki)), (yby, .inl (cI, 5, .inl u.2.1)), (ylo, .inl (cI, 5, .inl u.2.2.1)), (yhi, .inl (cI, 5, .inl u.2.2.2.1)), (yse, .inl (cI, 7, .inl u.2.2.2.2))])) (gn, gb, gl, gh, f_23) hx hb hr hlocks rfl hQ hK hP hD hS ⟨by decide, by decide⟩ dX4_isBlank_199 (⟨hby, (show (0 : Int) = 0 ∨ (0 : Int) = 1 by omega)⟩)
              · have tc_60 := b_eq rfl rfl c_60
                refine lv_iconst (v := 1) hx hb dX4_isBlank_194 (by decide) ?_
                refine lv_goto (tgt := 199) hx hb dX4_isBlank_195 (by decide) ?_
                exact ret_i (post := (fun (r : Int32) (u : (Nat → Int32) × (Nat → Int32) × (Nat → Int32) × (Nat → Int32) × (Nat → Int32)) => ByOk u.2.1 ∧ (r.toInt = 0 ∨ r.toInt = 1))) (W1 := (fun u => [(h0, .inr (4, [.int ype, .int ytk, .ref ywi, .ref yki, .ref yse, .ref yno, .ref yrh, .ref yrw, .ref yrk, .ref yrt, .int yrp, .int yrq, .ref ytx, .int yle, .int yat, .int yfa, .ref yby, .ref ylo, .ref yhi, .int yac, .int ynx, .ref yro, .ref ygl, .int ysn, .ref yso, .ref ysp, .ref ysw, .long ysd, .ref yik, .ref ykp])), (yno, .inl (cI, 96, .inl u.1)), (yki, .inl (cI, 5, .inl Fki)), (yby, .inl (cI, 5, .inl u.2.1)), (ylo, .inl (cI, 5, .inl u.2.2.1)), (yhi, .inl (cI, 5, .inl u.2.2.2.1)), (yse, .inl (cI, 7, .inl u.2.2.2.2))])) (gn, gb, gl, gh, f_23) hx hb hr hlocks rfl hQ hK hP hD hS ⟨by decide, by decide⟩ dX4_isBlank_199 (⟨hby, (show (1 : Int) = 0 ∨ (1 : Int) = 1 by omega)⟩)
          · have tc_56 := b_nle (show (10 : Int32).toInt = 10 by decide) rfl c_56
            refine lv_aload_n hx hb dX4_isBlank_148 rfl (lv_at hl 0 rfl) ?_
            refine lv_aload_n hx hb dX4_isBlank_149 rfl (lv_at hl 0 rfl) ?_
            refine lv_iconst (v := 1) hx hb dX4_isBlank_150 (by decide) ?_
            refine lv_aload_n hx hb dX4_isBlank_151 rfl (lv_at hl 0 rfl) ?_
            refine va_get (D := D) (ci := 4) (v := .int ytk) (C := RX4) (T := TX4) (N := 30) hx hb hts iX4 hown hK hP 0 rfl rfl 1 (by decide) (hts (.fieldLink RX4 101 "PunchedTicketModel" "tickets" "I") (List.mem_of_getElem? (i := 1) rfl)) (fun _ h9 => h9) rfl dX4_isBlank_152 ?_
            refine lv_iconst (v := 1) hx hb dX4_isBlank_155 (by decide) ?_
            refine lv_iadd hx hb dX4_isBlank_156 ?_
            refine lv_topi (fun v_61 ev_61 => ?_)
            have tv_61 : v_61.toInt = ytk.toInt + (1 : Int) := by rw [ev_61]; exact ti_add (x := ytk) (y := 1) (show -2147483648 ≤ ytk.toInt + (1 : Int) by omega) (show ytk.toInt + (1 : Int) < 2147483648 by omega)
            refine cV_i (As := [.int 1, .int v_61]) (rest := [.ref h0]) ⟨hx, hb, hml, hown, hts⟩ (c_X4_pass1 l D cI cZ cM h0 v_61 ype ytk ywi yki yse yno yrh yrw yrk yrt yrp yrq ytx yle yat yfa yby ylo yhi yac ynx yro ygl ysn yso ysp ysw ysd yik ykp gn Fki gb gl gh _ hby (show (gn 48).toInt ≤ 9 by omega) (show 0 ≤ v_61.toInt ∧ v_61.toInt ≤ 7 by omega) (show 0 ≤ ype.toInt ∧ ype.toInt ≤ 5 by omega)) (cwV 2 hts gX4_isBlank_X4_pass rfl rfl rfl (by decide +kernel) ⟨by rw [hR]; decide, by rw [hR]; decide⟩) hK hP hD hS hA [0, 1, 2, 3, 4, 5] [6] rfl rfl (by decide) (by decide) (by decide) rfl 0 rfl hl.1 rfl rfl (Nat.le_of_ble_eq_true rfl) dX4_isBlank_157 ⟨by rw [hR]; decide, by rw [hR]; decide⟩ (fun r_66 u_67 H locs hw hP hD hS => ?_)
            obtain ⟨Gno_62, Gby_63, Glo_64, Ghi_65⟩ := u_67
            have hP : va_P D vwCl [(h0, .inr (4, [.int ype, .int ytk, .ref ywi, .ref yki, .ref yse, .ref yno, .ref yrh, .ref yrw, .ref yrk, .ref yrt, .int yrp, .int yrq, .ref ytx, .int yle, .int yat, .int yfa, .ref yby, .ref ylo, .ref yhi, .int yac, .int ynx, .ref yro, .ref ygl, .int ysn, .ref yso, .ref ysp, .ref ysw, .long ysd, .ref yik, .ref ykp])), (yno, .inl (cI, 96, .inl Gno_62)), (yki, .inl (cI, 5, .inl Fki)), (yby, .inl (cI, 5, .inl Gby_63)), (ylo, .inl (cI, 5, .inl Glo_64)), (yhi, .inl (cI, 5, .inl Ghi_65)), (yse, .inl (cI, 7, .inl f_23))] H := hP.sub [1, 2, 3, 4, 5, 6, 0] rfl
            have hD : va_D A [(h0, .inr (4, [.int ype, .int ytk, .ref ywi, .ref yki, .ref yse, .ref yno, .ref yrh, .ref yrw, .ref yrk, .ref yrt, .int yrp, .int yrq, .ref ytx, .int yle, .int yat, .int yfa, .ref yby, .ref ylo, .ref yhi, .int yac, .int ynx, .ref yro, .ref ygl, .int ysn, .ref yso, .ref ysp, .ref ysw, .long ysd, .ref yik, .ref ykp])), (yno, .inl (cI, 96, .inl Gno_62)), (yki, .inl (cI, 5, .inl Fki)), (yby, .inl (cI, 5, .inl Gby_63)), (ylo, .inl (cI, 5, .inl Glo_64)), (yhi, .inl (cI, 5, .inl Ghi_65)), (yse, .inl (cI, 7, .inl f_23))] := hD.sub [1, 2, 3, 4, 5, 6, 0] (by decide) rfl
            refine W.widen (k := 0) (n := 0) (Nat.le_refl _) (Nat.le_refl _) ?_
            have hw : (Gno_62 48).toInt = (gn 48).toInt + 1 ∧ ByOk Gby_63 ∧ WentOk r_66 Gby_63 := hw
            have hw_68 := hw
            have PBY := hw_68.2.1
            have PWE := hw_68.2.2
            refine cV_i (As := [.int r_66]) (rest := []) ⟨hx, hb, hml, hown, hts⟩ (c_X4_isDouble l D cI cZ cM h0 r_66 ype ytk ywi yki yse yno yrh yrw yrk yrt yrp yrq ytx yle yat yfa yby ylo yhi yac ynx yro ygl ysn yso ysp ysw ysd yik ykp Glo_64 Ghi_65 Gby_63 f_23 _ PWE (show 0 ≤ ype.toInt ∧ ype.toInt ≤ 5 by omega)) (cwV 1 hts gX4_isBlank_X4_isDouble rfl rfl rfl (by decide +kernel) ⟨by rw [hR]; decide, by rw [hR]; decide⟩) hK hP hD hS hA [0, 4, 5, 3, 6] [1, 2] rfl rfl (by decide) (by decide) (by decide) rfl 0 rfl hl.1 rfl rfl (Nat.le_of_ble_eq_true rfl) dX4_isBlank_160 ⟨by rw [hR]; decide, by rw [hR]; decide⟩ (fun r_69 u_70 H locs hw hP hD hS => ?_)
            have hP : va_P D vwCl [(h0, .inr (4, [.int ype, .int ytk, .ref ywi, .ref yki, .ref yse, .ref yno, .ref yrh, .ref yrw, .ref yrk, .ref yrt, .int yrp, .int yrq, .ref ytx, .int yle, .int yat, .int yfa, .ref yby, .ref ylo, .ref yhi, .int yac, .int ynx, .ref yro, .ref ygl, .int ysn, .ref yso, .ref ysp, .ref ysw, .long ysd, .ref yik, .ref ykp])), (yno, .inl (cI, 96, .inl Gno_62)), (yki, .inl (cI, 5, .inl Fki)), (yby, .inl (cI, 5, .inl Gby_63)), (ylo, .inl (cI, 5, .inl Glo_64)), (yhi, .inl (cI, 5, .inl Ghi_65)), (yse, .inl (cI, 7, .inl f_23))] H := hP.sub [2, 0, 1, 5, 3, 4, 6] rfl
            have hD : va_D A [(h0, .inr (4, [.int ype, .int ytk, .ref ywi, .ref yki, .ref yse, .ref yno, .ref yrh, .ref yrw, .ref yrk, .ref yrt, .int yrp, .int yrq, .ref ytx, .int yle, .int yat, .int yfa, .ref yby, .ref ylo, .ref yhi, .int yac, .int ynx, .ref yro, .ref ygl, .int ysn, .ref yso, .ref ysp, .ref ysw, .long ysd, .ref yik, .ref ykp])), (yno, .inl (cI, 96, .inl Gno_62)), (yki, .inl (cI, 5, .inl Fki)), (yby, .inl (cI, 5, .inl Gby_63)), (ylo, .inl (cI, 5, .inl Glo_64)), (yhi, .inl (cI, 5, .inl Ghi_65)), (yse, .inl (cI, 7, .inl f_23))] := hD.sub [2, 0, 1, 5, 3, 4, 6] (by decide) rfl
            refine W.widen (k := 0) (n := 0) (Nat.le_refl _) (Nat.le_refl _) ?_
            have hw : (r_69.toInt = 0 ∨ r_69.toInt = 1) := hw
            have hw_71 := hw
            refine lv_if_ne (tgt := 170) hx hb dX4_isBlank_163 (by decide) (fun c_72 => ?_) (fun c_72 => ?_)
            · have tc_72 := b_ne rfl (show (0 : Int32).toInt = 0 by decide) c_72
              refine lv_iconst (v := 0) hx hb dX4_isBlank_170 (by decide) ?_
              refine lv_istore (lv' := [(5, .int 0), (0, .ref h0), (1, .int n), (2, .int k), (3, .int j), (4, .int v_5)]) hx hb dX4_isBlank_171 hl (by decide) rfl (fun ls hl => ?_)
              refine lv_goto (tgt := 131) hx hb dX4_isBlank_173 (by decide) ?_
              exact ih_52 0 Gno_62 Gby_63 Glo_64 Ghi_65 _ _ _ (show (10 - (Gno_62 48).toInt).toNat < fu_51 by omega) (by decide) (PBY) hP hD hS (lv_sub hl [1, 2, 3, 4, 5, 0] rfl)
            · have tc_72 := b_eq rfl (show (0 : Int32).toInt = 0 by decide) c_72
              refine lv_iconst (v := 1) hx hb dX4_isBlank_166 (by decide) ?_
              refine lv_goto (tgt := 171) hx hb dX4_isBlank_167 (by decide) ?_
              refine lv_istore (lv' := [(5, .int 1), (0, .ref h0), (1, .int n), (2, .int k), (3, .int j), (4, .int v_5)]) hx hb dX4_isBlank_171 hl (by decide) rfl (fun ls hl => ?_)
              refine lv_goto (tgt := 131) hx hb dX4_isBlank_173 (by decide) ?_
              exact ih_52 1 Gno_62 Gby_63 Glo_64 Ghi_65 _ _ _ (show (10 - (Gno_62 48).toInt).toNat < fu_51 by omega) (by decide) (PBY) hP hD hS (lv_sub hl [1, 2, 3, 4, 5, 0] rfl)
    exact LOOP_51 _ 1 f_21 Fby Flo Fhi _ _ _ (Nat.lt_succ_self _) (by decide) (hBy) hP hD hS (lv_sub hl [2, 3, 4, 5, 1, 0] rfl)

set_option maxHeartbeats 600000 in
set_option maxRecDepth 100000 in
theorem c_X4_blank (l : Launch) (D : va_G) (cI cZ cM : ClassId) (h0 : Nat) (n : Int32) (k : Int32) (ype : Int32) (ytk : Int32) (ywi : Nat) (yki : Nat) (yse : Nat) (yno : Nat) (yrh : Nat) (yrw : Nat) (yrk : Nat) (yrt : Nat) (yrp : Int32) (yrq : Int32) (ytx : Nat) (yle : Int32) (yat : Int32) (yfa : Int32) (yby : Nat) (ylo : Nat) (yhi : Nat) (yac : Int32) (ynx : Int32) (yro : Nat) (ygl : Nat) (ysn : Int32) (yso : Nat) (ysp : Nat) (ysw : Nat) (ysd : Int64) (yik : Nat) (ykp : Nat) (Fno : Nat → Int32) (Fki : Nat → Int32) (Fby : Nat → Int32) (Flo : Nat → Int32) (Fhi : Nat → Int32) (Fse : Nat → Int32) (sz : Nat) (hBy : ByOk Fby) (h_ype : 0 ≤ ype.toInt ∧ ype.toInt ≤ 5) (h_ytk : 0 ≤ ytk.toInt ∧ ytk.toInt ≤ 6) : Ci l yX4_blank wsX4_blank ({ frames := 4, cells := 0, slots := 0, locals := 93 } : Room) D cI cZ cM [.ref h0, .int n, .int k] [(h0, .inr (4, [.int ype, .int ytk, .ref ywi, .ref yki, .ref yse, .ref yno, .ref yrh, .ref yrw, .ref yrk, .ref yrt, .int yrp, .int yrq, .ref ytx, .int yle, .int yat, .int yfa, .ref yby, .ref ylo, .ref yhi, .int yac, .int ynx, .ref yro, .ref ygl, .int ysn, .ref yso, .ref ysp, .ref ysw, .long ysd, .ref yik, .ref ykp])), (yno, .inl (cI, 96, .inl Fno)), (yki, .inl (cI, 5, .inl Fki)), (yby, .inl (cI, 5, .inl Fby)), (ylo, .inl (cI, 5, .inl Flo)), (yhi, .inl (cI, 5, .inl Fhi)), (yse, .inl (cI, 7, .inl Fse))] sz (fun (r : Int32) (u : (Nat → Int32) × (Nat → Int32) × (Nat → Int32) × (Nat → Int32) × (Nat → Int32)) => ByOk u.2.1) (fun u => [(h0, .inr (4, [.int ype, .int ytk, .ref ywi, .ref yki, .ref yse, .ref yno, .ref yrh, .ref yrw, .ref yrk, .ref yrt, .int yrp, .int yrq, .ref ytx, .int yle, .int yat, .int yfa, .ref yby, .ref ylo, .ref yhi, .int yac, .int ynx, .ref yro, .ref ygl, .int ysn, .ref yso, .ref ysp, .ref ysw, .long ysd, .ref yik, .ref ykp])), (yno, .inl (cI, 96, .inl u.1)), (yki, .inl (cI, 5, .inl Fki)), (yby, .inl (cI, 5, .inl u.2.1)), (ylo, .inl (cI, 5, .inl u.2.2.1)), (yhi, .inl (cI, 5, .inl u.2.2.2.1)), (yse, .inl (cI, 7, .inl u.2.2.2.2))]) 0 0 := by
  refine begins (l := l) (y := yX4_blank) (ws := wsX4_blank) (av := [.ref h0, .int n, .int k]) (Qc := fun A => va_Qi (fun (r : Int32) (u : (Nat → Int32) × (Nat → Int32) × (Nat → Int32) × (Nat → Int32) × (Nat → Int32)) => ByOk u.2.1) (fun u => Wd D cI cZ cM A ((fun u => [(h0, .inr (4, [.int ype, .int ytk, .ref ywi, .ref yki, .ref yse, .ref yno, .ref yrh, .ref yrw, .ref yrk, .ref yrt, .int yrp, .int yrq, .ref ytx, .int yle, .int yat, .int yfa, .ref yby, .ref ylo, .ref yhi, .int yac, .int ynx, .ref yro, .ref ygl, .int ysn, .ref yso, .ref ysp, .ref ysw, .long ysd, .ref yik, .ref ykp])), (yno, .inl (cI, 96, .inl u.1)), (yki, .inl (cI, 5, .inl Fki)), (yby, .inl (cI, 5, .inl u.2.1)), (ylo, .inl (cI, 5, .inl u.2.2.1)), (yhi, .inl (cI, 5, .inl u.2.2.2.1)), (yse, .inl (cI, 7, .inl u.2.2.2.2))]) u)) A) cX4_blank 4 (some .int) (by decide) rfl (Nat.le_of_ble_eq_true rfl) ?_
  intro p e s m args below meth c R Q A ls hBd hR hQ hA hS hK hP hD hl
  obtain ⟨hx, hb, hr, hts, hown, hlocks, hin, hml⟩ := hBd
  have hl : lv_has ls 4 [(0, .ref h0), (1, .int n), (2, .int k)] := hl
  have iX4 : ∀ w ∈ wsX40, w ∈ wsX4_blank := fun _ h => List.mem_cons_of_mem _ (List.mem_append_right _ h)
  obtain ⟨h_ypea, h_ypeb⟩ := h_ype
  obtain ⟨h_ytka, h_ytkb⟩ := h_ytk
  refine lv_aload_n hx hb dX4_blank_0 rfl (lv_at hl 0 rfl) ?_
  refine lv_iload_n hx hb dX4_blank_1 rfl (lv_at hl 1 rfl) ?_
  refine cV_i (As := [.int n]) (rest := []) ⟨hx, hb, hml, hown, hts⟩ (c_X4_isPerson l D cI cZ cM h0 n ype ytk ywi yki yse yno yrh yrw yrk yrt yrp yrq ytx yle yat yfa yby ylo yhi yac ynx yro ygl ysn yso ysp ysw ysd yik ykp _ (show 0 ≤ ype.toInt ∧ ype.toInt ≤ 6 by omega)) (cwV 1 hts gX4_blank_X4_isPerson rfl rfl rfl (by decide +kernel) ⟨by rw [hR]; decide, by rw [hR]; decide⟩) hK hP hD hS hA [0] [1, 2, 3, 4, 5, 6] rfl rfl (by decide) (by decide) (by decide) rfl 0 rfl hl.1 rfl rfl (Nat.le_of_ble_eq_true rfl) dX4_blank_2 ⟨by rw [hR]; decide, by rw [hR]; decide⟩ (fun r_1 u_2 H locs hw hP hD hS => ?_)
  have hP : va_P D vwCl [(h0, .inr (4, [.int ype, .int ytk, .ref ywi, .ref yki, .ref yse, .ref yno, .ref yrh, .ref yrw, .ref yrk, .ref yrt, .int yrp, .int yrq, .ref ytx, .int yle, .int yat, .int yfa, .ref yby, .ref ylo, .ref yhi, .int yac, .int ynx, .ref yro, .ref ygl, .int ysn, .ref yso, .ref ysp, .ref ysw, .long ysd, .ref yik, .ref ykp])), (yno, .inl (cI, 96, .inl Fno)), (yki, .inl (cI, 5, .inl Fki)), (yby, .inl (cI, 5, .inl Fby)), (ylo, .inl (cI, 5, .inl Flo)), (yhi, .inl (cI, 5, .inl Fhi)), (yse, .inl (cI, 7, .inl Fse))] H := hP.sub [6, 0, 1, 2, 3, 4, 5] rfl
  have hD : va_D A [(h0, .inr (4, [.int ype, .int ytk, .ref ywi, .ref yki, .ref yse, .ref yno, .ref yrh, .ref yrw, .ref yrk, .ref yrt, .int yrp, .int yrq, .ref ytx, .int yle, .int yat, .int yfa, .ref yby, .ref ylo, .ref yhi, .int yac, .int ynx, .ref yro, .ref ygl, .int ysn, .ref yso, .ref ysp, .ref ysw, .long ysd, .ref yik, .ref ykp])), (yno, .inl (cI, 96, .inl Fno)), (yki, .inl (cI, 5, .inl Fki)), (yby, .inl (cI, 5, .inl Fby)), (ylo, .inl (cI, 5, .inl Flo)), (yhi, .inl (cI, 5, .inl Fhi)), (yse, .inl (cI, 7, .inl Fse))] := hD.sub [6, 0, 1, 2, 3, 4, 5] (by decide) rfl
  refine W.widen (k := 0) (n := 0) (Nat.le_refl _) (Nat.le_refl _) ?_
  have hw : (r_1.toInt = 1 ∧ 0 ≤ n.toInt ∧ n.toInt < ype.toInt) ∨ (r_1.toInt = 0 ∧ (n.toInt < 0 ∨ ype.toInt ≤ n.toInt)) := hw
  have hw_3 := hw
  refine lv_if_ne (tgt := 10) hx hb dX4_blank_5 (by decide) (fun c_4 => ?_) (fun c_4 => ?_)
  · have tc_4 := b_ne rfl (show (0 : Int32).toInt = 0 by decide) c_4
    have hn1 : 0 ≤ n.toInt := by omega
    have hn2 : n.toInt ≤ 4 := by omega
    refine lv_iload_n hx hb dX4_blank_10 rfl (lv_at hl 2 rfl) ?_
    obtain ⟨w_5, ew_5⟩ : ∃ z : Int64, k.toInt64 = z := ⟨_, rfl⟩
    have tw_5 : w_5.toInt = k.toInt := by rw [← ew_5, Int32.toInt_toInt64]
    refine lv_i2l hx hb dX4_blank_11 ew_5 ?_
    refine lv_lconst (v := 0) hx hb dX4_blank_12 (by decide) ?_
    refine lv_ldc2 (v := (9)) hx hb hown (hts (.constantLong RX4 194 (9)) (List.mem_of_getElem? (i := 1) rfl)) dX4_blank_13 ?_
    refine cS_i (As := [.long w_5, .long 0, .long (9)]) (rest := []) ⟨hx, hb, hml, hown, hts⟩ (c_X4_in l D cI cZ cM w_5 0 (9) _ ) (va_cwS 3 hts gX4_blank_X4_in rfl rfl rfl (by decide +kernel) ⟨by rw [hR]; decide, by rw [hR]; decide⟩) hK hP hD hS hA [] [0, 1, 2, 3, 4, 5, 6] rfl rfl (by decide) (by decide) (by decide) hl.1 rfl rfl (Nat.le_of_ble_eq_true rfl) dX4_blank_16 ⟨by rw [hR]; decide, by rw [hR]; decide⟩ (fun r_6 u_7 H locs hw hP hD hS => ?_)
    have hP : va_P D vwCl [(h0, .inr (4, [.int ype, .int ytk, .ref ywi, .ref yki, .ref yse, .ref yno, .ref yrh, .ref yrw, .ref yrk, .ref yrt, .int yrp, .int yrq, .ref ytx, .int yle, .int yat, .int yfa, .ref yby, .ref ylo, .ref yhi, .int yac, .int ynx, .ref yro, .ref ygl, .int ysn, .ref yso, .ref ysp, .ref ysw, .long ysd, .ref yik, .ref ykp])), (yno, .inl (cI, 96, .inl Fno)), (yki, .inl (cI, 5, .inl Fki)), (yby, .inl (cI, 5, .inl Fby)), (ylo, .inl (cI, 5, .inl Flo)), (yhi, .inl (cI, 5, .inl Fhi)), (yse, .inl (cI, 7, .inl Fse))] H := hP.sub [0, 1, 2, 3, 4, 5, 6] rfl
    have hD : va_D A [(h0, .inr (4, [.int ype, .int ytk, .ref ywi, .ref yki, .ref yse, .ref yno, .ref yrh, .ref yrw, .ref yrk, .ref yrt, .int yrp, .int yrq, .ref ytx, .int yle, .int yat, .int yfa, .ref yby, .ref ylo, .ref yhi, .int yac, .int ynx, .ref yro, .ref ygl, .int ysn, .ref yso, .ref ysp, .ref ysw, .long ysd, .ref yik, .ref ykp])), (yno, .inl (cI, 96, .inl Fno)), (yki, .inl (cI, 5, .inl Fki)), (yby, .inl (cI, 5, .inl Fby)), (ylo, .inl (cI, 5, .inl Flo)), (yhi, .inl (cI, 5, .inl Fhi)), (yse, .inl (cI, 7, .inl Fse))] := hD.sub [0, 1, 2, 3, 4, 5, 6] (by decide) rfl
    refine W.widen (k := 0) (n := 0) (Nat.le_refl _) (Nat.le_refl _) ?_
    have hw : (r_6.toInt = 1 ∧ (0 : Int) ≤ w_5.toInt ∧ w_5.toInt ≤ (9 : Int)) ∨ (r_6.toInt = 0 ∧ (w_5.toInt < (0 : Int) ∨ (9 : Int) < w_5.toInt)) := hw
    have hw_8 := hw
    refine lv_if_ne (tgt := 25) hx hb dX4_blank_19 (by decide) (fun c_9 => ?_) (fun c_9 => ?_)
    · have tc_9 := b_ne rfl (show (0 : Int32).toInt = 0 by decide) c_9
      refine lv_aload_n hx hb dX4_blank_25 rfl (lv_at hl 0 rfl) ?_
      refine va_get (D := D) (ci := 4) (v := .ref yki) (C := RX4) (T := TX4) (N := 30) hx hb hts iX4 hown hK hP 0 rfl rfl 3 (by decide) (hts (.fieldLink RX4 13 "PunchedTicketModel" "kind" "[I") (List.mem_of_getElem? (i := 2) rfl)) (fun _ h9 => h9) rfl dX4_blank_26 ?_
      refine lv_iload_n hx hb dX4_blank_29 rfl (lv_at hl 1 rfl) ?_
      refine va_iald hx hb hK hP 2 0 rfl rfl (vp_in_iff.mpr ⟨by omega, by omega⟩) dX4_blank_30 ?_
      refine lv_topi (fun v_10 ev_10 => ?_)
      refine lv_iconst (v := 3) hx hb dX4_blank_31 (by decide) ?_
      refine lv_icmp_ne (tgt := 38) hx hb dX4_blank_32 (by decide) (fun c_11 => ?_) (fun c_11 => ?_)
      · have tc_11 := b_ne rfl (show (3 : Int32).toInt = 3 by decide) c_11
        refine lv_iconst (v := 0) hx hb dX4_blank_38 (by decide) ?_
        refine lv_istore_n (lv' := [(3, .int 0), (0, .ref h0), (1, .int n), (2, .int k)]) hx hb dX4_blank_39 rfl hl (by decide) rfl (fun ls hl => ?_)
        have LOOP_12 : ∀ (fu_12 : Nat) (x3 : Int32) (gn : Nat → Int32) (gb : Nat → Int32) (gl : Nat → Int32) (gh : Nat → Int32) (gs : Nat → Int32) (H : Heap) (locs : List Loc) (ls : Array Slot), (10000 - x3.toInt).toNat < fu_12 → (0 ≤ x3.toInt ∧ x3.toInt ≤ 10000) → (ByOk gb) → va_P D vwCl [(h0, .inr (4, [.int ype, .int ytk, .ref ywi, .ref yki, .ref yse, .ref yno, .ref yrh, .ref yrw, .ref yrk, .ref yrt, .int yrp, .int yrq, .ref ytx, .int yle, .int yat, .int yfa, .ref yby, .ref ylo, .ref yhi, .int yac, .int ynx, .ref yro, .ref ygl, .int ysn, .ref yso, .ref ysp, .ref ysw, .long ysd, .ref yik, .ref ykp])), (yno, .inl (cI, 96, .inl gn)), (yki, .inl (cI, 5, .inl Fki)), (yby, .inl (cI, 5, .inl gb)), (ylo, .inl (cI, 5, .inl gl)), (yhi, .inl (cI, 5, .inl gh)), (yse, .inl (cI, 7, .inl gs))] H → va_D A [(h0, .inr (4, [.int ype, .int ytk, .ref ywi, .ref yki, .ref yse, .ref yno, .ref yrh, .ref yrw, .ref yrk, .ref yrt, .int yrp, .int yrq, .ref ytx, .int yle, .int yat, .int yfa, .ref yby, .ref ylo, .ref yhi, .int yac, .int ynx, .ref yro, .ref ygl, .int ysn, .ref yso, .ref ysp, .ref ysw, .long ysd, .ref yik, .ref ykp])), (yno, .inl (cI, 96, .inl gn)), (yki, .inl (cI, 5, .inl Fki)), (yby, .inl (cI, 5, .inl gb)), (ylo, .inl (cI, 5, .inl gl)), (yhi, .inl (cI, 5, .inl gh)), (yse, .inl (cI, 7, .inl gs))] → va_S A s.heap H locs → lv_has ls 4 [(0, .ref h0), (1, .int n), (2, .int k), (3, .int x3)] → W p l e R s m args below meth c H locs 0 0 Q (F0 m 40 ls []) := by
          intro fu_12
          induction fu_12 with
          | zero => intro x3 gn gb gl gh gs H locs ls hmu; exact absurd hmu (Nat.not_lt_zero _)
          | succ fu_12 ih =>
            intro x3 gn gb gl gh gs H locs ls hmu h_x3 hby hP hD hS hl
            obtain ⟨h_x3a, h_x3b⟩ := h_x3
            have ih_13 := ih
            clear ih
            refine lv_iload_n hx hb dX4_blank_40 rfl (lv_at hl 3 rfl) ?_
            refine lv_sipush (v := 10000) hx hb dX4_blank_41 (by decide) ?_
            refine lv_icmp_ge (tgt := 65) hx hb dX4_blank_44 (by decide) (fun c_14 => ?_) (fun c_14 => ?_)
            · have tc_14 := b_le (show (10000 : Int32).toInt = 10000 by decide) rfl c_14
              refine lv_bipush (v := (-9)) hx hb dX4_blank_65 (by decide) ?_
              exact ret_i (post := (fun (r : Int32) (u : (Nat → Int32) × (Nat → Int32) × (Nat → Int32) × (Nat → Int32) × (Nat → Int32)) => ByOk u.2.1)) (W1 := (fun u => [(h0, .inr (4, [.int ype, .int ytk, .ref ywi, .ref yki, .ref yse, .ref yno, .ref yrh, .ref yrw, .ref yrk, .ref yrt, .int yrp, .int yrq, .ref ytx, .int yle, .int yat, .int yfa, .ref yby, .ref ylo, .ref yhi, .int yac, .int ynx, .ref yro, .ref ygl, .int ysn, .ref yso, .ref ysp, .ref ysw, .long ysd, .ref yik, .ref ykp])), (yno, .inl (cI, 96, .inl u.1)), (yki, .inl (cI, 5, .inl Fki)), (yby, .inl (cI, 5, .inl u.2.1)), (ylo, .inl (cI, 5, .inl u.2.2.1)), (yhi, .inl (cI, 5, .inl u.2.2.2.1)), (yse, .inl (cI, 7, .inl u.2.2.2.2))])) (gn, gb, gl, gh, gs) hx hb hr hlocks rfl hQ hK hP hD hS ⟨by decide, by decide⟩ dX4_blank_67 hby
            · have tc_14 := b_nle (show (10000 : Int32).toInt = 10000 by decide) rfl c_14
              refine lv_aload_n hx hb dX4_blank_47 rfl (lv_at hl 0 rfl) ?_
              refine lv_iload_n hx hb dX4_blank_48 rfl (lv_at hl 1 rfl) ?_
              refine lv_iload_n hx hb dX4_blank_49 rfl (lv_at hl 2 rfl) ?_
              refine lv_iload_n hx hb dX4_blank_50 rfl (lv_at hl 3 rfl) ?_
              refine cV_i (As := [.int n, .int k, .int x3]) (rest := []) ⟨hx, hb, hml, hown, hts⟩ (c_X4_isBlank l D cI cZ cM h0 n k x3 ype ytk ywi yki yse yno yrh yrw yrk yrt yrp yrq ytx yle yat yfa yby ylo yhi yac ynx yro ygl ysn yso ysp ysw ysd yik ykp gn Fki gb gl gh gs _ hby (show 0 ≤ ype.toInt ∧ ype.toInt ≤ 5 by omega) (show 0 ≤ ytk.toInt ∧ ytk.toInt ≤ 6 by omega) (show 0 ≤ n.toInt ∧ n.toInt ≤ 4 by omega)) (cwV 3 hts gX4_blank_X4_isBlank rfl rfl rfl (by decide +kernel) ⟨by rw [hR]; decide, by rw [hR]; decide⟩) hK hP hD hS hA [0, 1, 2, 3, 4, 5, 6] [] rfl rfl (by decide) (by decide) (by decide) rfl 0 rfl hl.1 rfl rfl (Nat.le_of_ble_eq_true rfl) dX4_blank_51 ⟨by rw [hR]; decide, by rw [hR]; decide⟩ (fun r_20 u_21 H locs hw hP hD hS => ?_)
              obtain ⟨Gno_15, Gby_16, Glo_17, Ghi_18, Gse_19⟩ := u_21
              have hP : va_P D vwCl [(h0, .inr (4, [.int ype, .int ytk, .ref ywi, .ref yki, .ref yse, .ref yno, .ref yrh, .ref yrw, .ref yrk, .ref yrt, .int yrp, .int yrq, .ref ytx, .int yle, .int yat, .int yfa, .ref yby, .ref ylo, .ref yhi, .int yac, .int ynx, .ref yro, .ref ygl, .int ysn, .ref yso, .ref ysp, .ref ysw, .long ysd, .ref yik, .ref ykp])), (yno, .inl (cI, 96, .inl Gno_15)), (yki, .inl (cI, 5, .inl Fki)), (yby, .inl (cI, 5, .inl Gby_16)), (ylo, .inl (cI, 5, .inl Glo_17)), (yhi, .inl (cI, 5, .inl Ghi_18)), (yse, .inl (cI, 7, .inl Gse_19))] H := hP.sub [0, 1, 2, 3, 4, 5, 6] rfl
              have hD : va_D A [(h0, .inr (4, [.int ype, .int ytk, .ref ywi, .ref yki, .ref yse, .ref yno, .ref yrh, .ref yrw, .ref yrk, .ref yrt, .int yrp, .int yrq, .ref ytx, .int yle, .int yat, .int yfa, .ref yby, .ref ylo, .ref yhi, .int yac, .int ynx, .ref yro, .ref ygl, .int ysn, .ref yso, .ref ysp, .ref ysw, .long ysd, .ref yik, .ref ykp])), (yno, .inl (cI, 96, .inl Gno_15)), (yki, .inl (cI, 5, .inl Fki)), (yby, .inl (cI, 5, .inl Gby_16)), (ylo, .inl (cI, 5, .inl Glo_17)), (yhi, .inl (cI, 5, .inl Ghi_18)), (yse, .inl (cI, 7, .inl Gse_19))] := hD.sub [0, 1, 2, 3, 4, 5, 6] (by decide) rfl
              refine W.widen (k := 0) (n := 0) (Nat.le_refl _) (Nat.le_refl _) ?_
              have hw : ByOk Gby_16 ∧ (r_20.toInt = 0 ∨ r_20.toInt = 1) := hw
              have hw_22 := hw
              have PBY := hw_22.1
              have PR := hw_22.2
              refine lv_if_eq (tgt := 59) hx hb dX4_blank_54 (by decide) (fun c_23 => ?_) (fun c_23 => ?_)
              · have tc_23 := b_eq rfl (show (0 : Int32).toInt = 0 by decide) c_23
                obtain ⟨v_24, ev_24⟩ : ∃ z : Int32, z = x3 + 1 := ⟨_, rfl⟩
                have tv_24 : v_24.toInt = x3.toInt + 1 := by rw [ev_24]; exact ti_add (x := x3) (y := 1) (show -2147483648 ≤ x3.toInt + 1 by omega) (show x3.toInt + 1 < 2147483648 by omega)
                refine lv_iinc (v := v_24) (lv' := [(3, .int v_24), (0, .ref h0), (1, .int n), (2, .int k)]) hx hb dX4_blank_59 hl (k := 3) rfl (by rw [ev_24]; rfl) (by decide) rfl (fun ls hl => ?_)
                refine lv_goto (tgt := 40) hx hb dX4_blank_62 (by decide) ?_
                exact ih_13 v_24 Gno_15 Gby_16 Glo_17 Ghi_18 Gse_19 _ _ _ (show (10000 - v_24.toInt).toNat < fu_12 by omega) (show 0 ≤ v_24.toInt ∧ v_24.toInt ≤ 10000 by omega) (PBY) hP hD hS (lv_sub hl [1, 2, 3, 0] rfl)
              · have tc_23 := b_ne rfl (show (0 : Int32).toInt = 0 by decide) c_23
                refine lv_iload_n hx hb dX4_blank_57 rfl (lv_at hl 3 rfl) ?_
                exact ret_i (post := (fun (r : Int32) (u : (Nat → Int32) × (Nat → Int32) × (Nat → Int32) × (Nat → Int32) × (Nat → Int32)) => ByOk u.2.1)) (W1 := (fun u => [(h0, .inr (4, [.int ype, .int ytk, .ref ywi, .ref yki, .ref yse, .ref yno, .ref yrh, .ref yrw, .ref yrk, .ref yrt, .int yrp, .int yrq, .ref ytx, .int yle, .int yat, .int yfa, .ref yby, .ref ylo, .ref yhi, .int yac, .int ynx, .ref yro, .ref ygl, .int ysn, .ref yso, .ref ysp, .ref ysw, .long ysd, .ref yik, .ref ykp])), (yno, .inl (cI, 96, .inl u.1)), (yki, .inl (cI, 5, .inl Fki)), (yby, .inl (cI, 5, .inl u.2.1)), (ylo, .inl (cI, 5, .inl u.2.2.1)), (yhi, .inl (cI, 5, .inl u.2.2.2.1)), (yse, .inl (cI, 7, .inl u.2.2.2.2))])) (Gno_15, Gby_16, Glo_17, Ghi_18, Gse_19) hx hb hr hlocks rfl hQ hK hP hD hS ⟨by decide, by decide⟩ dX4_blank_58 PBY
        exact LOOP_12 _ 0 Fno Fby Flo Fhi Fse _ _ _ (Nat.lt_succ_self _) (by decide) (hBy) hP hD hS (lv_sub hl [1, 2, 3, 0] rfl)
      · have tc_11 := b_eq rfl (show (3 : Int32).toInt = 3 by decide) c_11
        refine lv_bipush (v := (-3)) hx hb dX4_blank_35 (by decide) ?_
        exact ret_i (post := (fun (r : Int32) (u : (Nat → Int32) × (Nat → Int32) × (Nat → Int32) × (Nat → Int32) × (Nat → Int32)) => ByOk u.2.1)) (W1 := (fun u => [(h0, .inr (4, [.int ype, .int ytk, .ref ywi, .ref yki, .ref yse, .ref yno, .ref yrh, .ref yrw, .ref yrk, .ref yrt, .int yrp, .int yrq, .ref ytx, .int yle, .int yat, .int yfa, .ref yby, .ref ylo, .ref yhi, .int yac, .int ynx, .ref yro, .ref ygl, .int ysn, .ref yso, .ref ysp, .ref ysw, .long ysd, .ref yik, .ref ykp])), (yno, .inl (cI, 96, .inl u.1)), (yki, .inl (cI, 5, .inl Fki)), (yby, .inl (cI, 5, .inl u.2.1)), (ylo, .inl (cI, 5, .inl u.2.2.1)), (yhi, .inl (cI, 5, .inl u.2.2.2.1)), (yse, .inl (cI, 7, .inl u.2.2.2.2))])) (Fno, Fby, Flo, Fhi, Fse) hx hb hr hlocks rfl hQ hK hP hD hS ⟨by decide, by decide⟩ dX4_blank_37 hBy
    · have tc_9 := b_eq rfl (show (0 : Int32).toInt = 0 by decide) c_9
      refine lv_bipush (v := (-2)) hx hb dX4_blank_22 (by decide) ?_
      exact ret_i (post := (fun (r : Int32) (u : (Nat → Int32) × (Nat → Int32) × (Nat → Int32) × (Nat → Int32) × (Nat → Int32)) => ByOk u.2.1)) (W1 := (fun u => [(h0, .inr (4, [.int ype, .int ytk, .ref ywi, .ref yki, .ref yse, .ref yno, .ref yrh, .ref yrw, .ref yrk, .ref yrt, .int yrp, .int yrq, .ref ytx, .int yle, .int yat, .int yfa, .ref yby, .ref ylo, .ref yhi, .int yac, .int ynx, .ref yro, .ref ygl, .int ysn, .ref yso, .ref ysp, .ref ysw, .long ysd, .ref yik, .ref ykp])), (yno, .inl (cI, 96, .inl u.1)), (yki, .inl (cI, 5, .inl Fki)), (yby, .inl (cI, 5, .inl u.2.1)), (ylo, .inl (cI, 5, .inl u.2.2.1)), (yhi, .inl (cI, 5, .inl u.2.2.2.1)), (yse, .inl (cI, 7, .inl u.2.2.2.2))])) (Fno, Fby, Flo, Fhi, Fse) hx hb hr hlocks rfl hQ hK hP hD hS ⟨by decide, by decide⟩ dX4_blank_24 hBy
  · have tc_4 := b_eq rfl (show (0 : Int32).toInt = 0 by decide) c_4
    refine lv_iconst (v := (-1)) hx hb dX4_blank_8 (by decide) ?_
    exact ret_i (post := (fun (r : Int32) (u : (Nat → Int32) × (Nat → Int32) × (Nat → Int32) × (Nat → Int32) × (Nat → Int32)) => ByOk u.2.1)) (W1 := (fun u => [(h0, .inr (4, [.int ype, .int ytk, .ref ywi, .ref yki, .ref yse, .ref yno, .ref yrh, .ref yrw, .ref yrk, .ref yrt, .int yrp, .int yrq, .ref ytx, .int yle, .int yat, .int yfa, .ref yby, .ref ylo, .ref yhi, .int yac, .int ynx, .ref yro, .ref ygl, .int ysn, .ref yso, .ref ysp, .ref ysw, .long ysd, .ref yik, .ref ykp])), (yno, .inl (cI, 96, .inl u.1)), (yki, .inl (cI, 5, .inl Fki)), (yby, .inl (cI, 5, .inl u.2.1)), (ylo, .inl (cI, 5, .inl u.2.2.1)), (yhi, .inl (cI, 5, .inl u.2.2.2.1)), (yse, .inl (cI, 7, .inl u.2.2.2.2))])) (Fno, Fby, Flo, Fhi, Fse) hx hb hr hlocks rfl hQ hK hP hD hS ⟨by decide, by decide⟩ dX4_blank_9 hBy

set_option maxHeartbeats 600000 in
set_option maxRecDepth 100000 in
theorem c_X4_years (l : Launch) (D : va_G) (cI cZ cM : ClassId) (h0 : Nat) (n : Int32) (ype : Int32) (ytk : Int32) (ywi : Nat) (yki : Nat) (yse : Nat) (yno : Nat) (yrh : Nat) (yrw : Nat) (yrk : Nat) (yrt : Nat) (yrp : Int32) (yrq : Int32) (ytx : Nat) (yle : Int32) (yat : Int32) (yfa : Int32) (yby : Nat) (ylo : Nat) (yhi : Nat) (yac : Int32) (ynx : Int32) (yro : Nat) (ygl : Nat) (ysn : Int32) (yso : Nat) (ysp : Nat) (ysw : Nat) (ysd : Int64) (yik : Nat) (ykp : Nat) (Fno : Nat → Int32) (Fki : Nat → Int32) (Fby : Nat → Int32) (Flo : Nat → Int32) (Fhi : Nat → Int32) (Fwi : Nat → Int32) (sz : Nat) (hBy : ByOk Fby) (h_ype : 0 ≤ ype.toInt ∧ ype.toInt ≤ 5) (h_ytk : 0 ≤ ytk.toInt ∧ ytk.toInt ≤ 6) : Ci l yX4_years wsX4_years ({ frames := 4, cells := 0, slots := 0, locals := 99 } : Room) D cI cZ cM [.ref h0, .int n] [(h0, .inr (4, [.int ype, .int ytk, .ref ywi, .ref yki, .ref yse, .ref yno, .ref yrh, .ref yrw, .ref yrk, .ref yrt, .int yrp, .int yrq, .ref ytx, .int yle, .int yat, .int yfa, .ref yby, .ref ylo, .ref yhi, .int yac, .int ynx, .ref yro, .ref ygl, .int ysn, .ref yso, .ref ysp, .ref ysw, .long ysd, .ref yik, .ref ykp])), (yno, .inl (cI, 96, .inl Fno)), (yki, .inl (cI, 5, .inl Fki)), (yby, .inl (cI, 5, .inl Fby)), (ylo, .inl (cI, 5, .inl Flo)), (yhi, .inl (cI, 5, .inl Fhi)), (ywi, .inl (cI, 5, .inl Fwi))] sz (fun (r : Int32) (u : Int64 × (Nat → Int32) × (Nat → Int32) × (Nat → Int32) × (Nat → Int32)) => ByOk u.2.2.1 ∧ (((n.toInt < 1 ∨ 30 < n.toInt) ∧ u.1 = ysd) ∨ (1 ≤ n.toInt ∧ n.toInt ≤ 30 ∧ u.1 = itS n.toInt.toNat ysd))) (fun u => [(h0, .inr (4, [.int ype, .int ytk, .ref ywi, .ref yki, .ref yse, .ref yno, .ref yrh, .ref yrw, .ref yrk, .ref yrt, .int yrp, .int yrq, .ref ytx, .int yle, .int yat, .int yfa, .ref yby, .ref ylo, .ref yhi, .int yac, .int ynx, .ref yro, .ref ygl, .int ysn, .ref yso, .ref ysp, .ref ysw, .long u.1, .ref yik, .ref ykp])), (yno, .inl (cI, 96, .inl u.2.1)), (yki, .inl (cI, 5, .inl Fki)), (yby, .inl (cI, 5, .inl u.2.2.1)), (ylo, .inl (cI, 5, .inl u.2.2.2.1)), (yhi, .inl (cI, 5, .inl u.2.2.2.2)), (ywi, .inl (cI, 5, .inl Fwi))]) 0 0 := by
  refine begins (l := l) (y := yX4_years) (ws := wsX4_years) (av := [.ref h0, .int n]) (Qc := fun A => va_Qi (fun (r : Int32) (u : Int64 × (Nat → Int32) × (Nat → Int32) × (Nat → Int32) × (Nat → Int32)) => ByOk u.2.2.1 ∧ (((n.toInt < 1 ∨ 30 < n.toInt) ∧ u.1 = ysd) ∨ (1 ≤ n.toInt ∧ n.toInt ≤ 30 ∧ u.1 = itS n.toInt.toNat ysd))) (fun u => Wd D cI cZ cM A ((fun u => [(h0, .inr (4, [.int ype, .int ytk, .ref ywi, .ref yki, .ref yse, .ref yno, .ref yrh, .ref yrw, .ref yrk, .ref yrt, .int yrp, .int yrq, .ref ytx, .int yle, .int yat, .int yfa, .ref yby, .ref ylo, .ref yhi, .int yac, .int ynx, .ref yro, .ref ygl, .int ysn, .ref yso, .ref ysp, .ref ysw, .long u.1, .ref yik, .ref ykp])), (yno, .inl (cI, 96, .inl u.2.1)), (yki, .inl (cI, 5, .inl Fki)), (yby, .inl (cI, 5, .inl u.2.2.1)), (ylo, .inl (cI, 5, .inl u.2.2.2.1)), (yhi, .inl (cI, 5, .inl u.2.2.2.2)), (ywi, .inl (cI, 5, .inl Fwi))]) u)) A) cX4_years 4 (some .int) (by decide) rfl (Nat.le_of_ble_eq_true rfl) ?_
  intro p e s m args below meth c R Q A ls hBd hR hQ hA hS hK hP hD hl
  obtain ⟨hx, hb, hr, hts, hown, hlocks, hin, hml⟩ := hBd
  have hl : lv_has ls 4 [(0, .ref h0), (1, .int n)] := hl
  have iX4 : ∀ w ∈ wsX40, w ∈ wsX4_years := fun _ h => List.mem_cons_of_mem _ (List.mem_append_right _ h)
  obtain ⟨h_ypea, h_ypeb⟩ := h_ype
  obtain ⟨h_ytka, h_ytkb⟩ := h_ytk
  refine lv_iload_n hx hb dX4_years_0 rfl (lv_at hl 1 rfl) ?_
  obtain ⟨w_1, ew_1⟩ : ∃ z : Int64, n.toInt64 = z := ⟨_, rfl⟩
  have tw_1 : w_1.toInt = n.toInt := by rw [← ew_1, Int32.toInt_toInt64]
  refine lv_i2l hx hb dX4_years_1 ew_1 ?_
  refine lv_lconst (v := 1) hx hb dX4_years_2 (by decide) ?_
  refine lv_ldc2 (v := (30)) hx hb hown (hts (.constantLong RX4 210 (30)) (List.mem_of_getElem? (i := 1) rfl)) dX4_years_3 ?_
  refine cS_i (As := [.long w_1, .long 1, .long (30)]) (rest := []) ⟨hx, hb, hml, hown, hts⟩ (c_X4_in l D cI cZ cM w_1 1 (30) _ ) (va_cwS 3 hts gX4_years_X4_in rfl rfl rfl (by decide +kernel) ⟨by rw [hR]; decide, by rw [hR]; decide⟩) hK hP hD hS hA [] [0, 1, 2, 3, 4, 5, 6] rfl rfl (by decide) (by decide) (by decide) hl.1 rfl rfl (Nat.le_of_ble_eq_true rfl) dX4_years_6 ⟨by rw [hR]; decide, by rw [hR]; decide⟩ (fun r_2 u_3 H locs hw hP hD hS => ?_)
  have hP : va_P D vwCl [(h0, .inr (4, [.int ype, .int ytk, .ref ywi, .ref yki, .ref yse, .ref yno, .ref yrh, .ref yrw, .ref yrk, .ref yrt, .int yrp, .int yrq, .ref ytx, .int yle, .int yat, .int yfa, .ref yby, .ref ylo, .ref yhi, .int yac, .int ynx, .ref yro, .ref ygl, .int ysn, .ref yso, .ref ysp, .ref ysw, .long ysd, .ref yik, .ref ykp])), (yno, .inl (cI, 96, .inl Fno)), (yki, .inl (cI, 5, .inl Fki)), (yby, .inl (cI, 5, .inl Fby)), (ylo, .inl (cI, 5, .inl Flo)), (yhi, .inl (cI, 5, .inl Fhi)), (ywi, .inl (cI, 5, .inl Fwi))] H := hP.sub [0, 1, 2, 3, 4, 5, 6] rfl
  have hD : va_D A [(h0, .inr (4, [.int ype, .int ytk, .ref ywi, .ref yki, .ref yse, .ref yno, .ref yrh, .ref yrw, .ref yrk, .ref yrt, .int yrp, .int yrq, .ref ytx, .int yle, .int yat, .int yfa, .ref yby, .ref ylo, .ref yhi, .int yac, .int ynx, .ref yro, .ref ygl, .int ysn, .ref yso, .ref ysp, .ref ysw, .long ysd, .ref yik, .ref ykp])), (yno, .inl (cI, 96, .inl Fno)), (yki, .inl (cI, 5, .inl Fki)), (yby, .inl (cI, 5, .inl Fby)), (ylo, .inl (cI, 5, .inl Flo)), (yhi, .inl (cI, 5, .inl Fhi)), (ywi, .inl (cI, 5, .inl Fwi))] := hD.sub [0, 1, 2, 3, 4, 5, 6] (by decide) rfl
  refine W.widen (k := 0) (n := 0) (Nat.le_refl _) (Nat.le_refl _) ?_
  have hw : (r_2.toInt = 1 ∧ (1 : Int) ≤ w_1.toInt ∧ w_1.toInt ≤ (30 : Int)) ∨ (r_2.toInt = 0 ∧ (w_1.toInt < (1 : Int) ∨ (30 : Int) < w_1.toInt)) := hw
  have hw_4 := hw
  refine lv_if_ne (tgt := 15) hx hb dX4_years_9 (by decide) (fun c_5 => ?_) (fun c_5 => ?_)
  · have tc_5 := b_ne rfl (show (0 : Int32).toInt = 0 by decide) c_5
    have hn1 : 1 ≤ n.toInt := by omega
    have hn2 : n.toInt ≤ 30 := by omega
    refine lv_iconst (v := 0) hx hb dX4_years_15 (by decide) ?_
    refine lv_istore_n (lv' := [(2, .int 0), (0, .ref h0), (1, .int n)]) hx hb dX4_years_16 rfl hl (by decide) rfl (fun ls hl => ?_)
    refine lv_iconst (v := 0) hx hb dX4_years_17 (by decide) ?_
    refine lv_istore_n (lv' := [(3, .int 0), (2, .int 0), (0, .ref h0), (1, .int n)]) hx hb dX4_years_18 rfl hl (by decide) rfl (fun ls hl => ?_)
    have LOOP_6 : ∀ (fu_6 : Nat) (w2 : Int32) (x3 : Int32) (ns : Int64) (gn : Nat → Int32) (gb : Nat → Int32) (gl : Nat → Int32) (gh : Nat → Int32) (H : Heap) (locs : List Loc) (ls : Array Slot), (30 - x3.toInt).toNat < fu_6 → (0 ≤ x3.toInt ∧ x3.toInt ≤ 30) → (ByOk gb) → (ns = itS x3.toInt.toNat ysd) → (x3.toInt ≤ n.toInt) → va_P D vwCl [(h0, .inr (4, [.int ype, .int ytk, .ref ywi, .ref yki, .ref yse, .ref yno, .ref yrh, .ref yrw, .ref yrk, .ref yrt, .int yrp, .int yrq, .ref ytx, .int yle, .int yat, .int yfa, .ref yby, .ref ylo, .ref yhi, .int yac, .int ynx, .ref yro, .ref ygl, .int ysn, .ref yso, .ref ysp, .ref ysw, .long ns, .ref yik, .ref ykp])), (yno, .inl (cI, 96, .inl gn)), (yki, .inl (cI, 5, .inl Fki)), (yby, .inl (cI, 5, .inl gb)), (ylo, .inl (cI, 5, .inl gl)), (yhi, .inl (cI, 5, .inl gh)), (ywi, .inl (cI, 5, .inl Fwi))] H → va_D A [(h0, .inr (4, [.int ype, .int ytk, .ref ywi, .ref yki, .ref yse, .ref yno, .ref yrh, .ref yrw, .ref yrk, .ref yrt, .int yrp, .int yrq, .ref ytx, .int yle, .int yat, .int yfa, .ref yby, .ref ylo, .ref yhi, .int yac, .int ynx, .ref yro, .ref ygl, .int ysn, .ref yso, .ref ysp, .ref ysw, .long ns, .ref yik, .ref ykp])), (yno, .inl (cI, 96, .inl gn)), (yki, .inl (cI, 5, .inl Fki)), (yby, .inl (cI, 5, .inl gb)), (ylo, .inl (cI, 5, .inl gl)), (yhi, .inl (cI, 5, .inl gh)), (ywi, .inl (cI, 5, .inl Fwi))] → va_S A s.heap H locs → lv_has ls 4 [(0, .ref h0), (1, .int n), (2, .int w2), (3, .int x3)] → W p l e R s m args below meth c H locs 0 0 Q (F0 m 19 ls []) := by
      intro fu_6
      induction fu_6 with
      | zero => intro w2 x3 ns gn gb gl gh H locs ls hmu; exact absurd hmu (Nat.not_lt_zero _)
      | succ fu_6 ih =>
        intro w2 x3 ns gn gb gl gh H locs ls hmu h_x3 hby hs hxn hP hD hS hl
        obtain ⟨h_x3a, h_x3b⟩ := h_x3
        have ih_7 := ih
        clear ih
        refine lv_iload_n hx hb dX4_years_19 rfl (lv_at hl 3 rfl) ?_
        refine lv_iload_n hx hb dX4_years_20 rfl (lv_at hl 1 rfl) ?_
        refine lv_icmp_ge (tgt := 65) hx hb dX4_years_21 (by decide) (fun c_8 => ?_) (fun c_8 => ?_)
        · have tc_8 := b_le rfl rfl c_8
          refine lv_iload_n hx hb dX4_years_65 rfl (lv_at hl 2 rfl) ?_
          exact ret_i (post := (fun (r : Int32) (u : Int64 × (Nat → Int32) × (Nat → Int32) × (Nat → Int32) × (Nat → Int32)) => ByOk u.2.2.1 ∧ (((n.toInt < 1 ∨ 30 < n.toInt) ∧ u.1 = ysd) ∨ (1 ≤ n.toInt ∧ n.toInt ≤ 30 ∧ u.1 = itS n.toInt.toNat ysd)))) (W1 := (fun u => [(h0, .inr (4, [.int ype, .int ytk, .ref ywi, .ref yki, .ref yse, .ref yno, .ref yrh, .ref yrw, .ref yrk, .ref yrt, .int yrp, .int yrq, .ref ytx, .int yle, .int yat, .int yfa, .ref yby, .ref ylo, .ref yhi, .int yac, .int ynx, .ref yro, .ref ygl, .int ysn, .ref yso, .ref ysp, .ref ysw, .long u.1, .ref yik, .ref ykp])), (yno, .inl (cI, 96, .inl u.2.1)), (yki, .inl (cI, 5, .inl Fki)), (yby, .inl (cI, 5, .inl u.2.2.1)), (ylo, .inl (cI, 5, .inl u.2.2.2.1)), (yhi, .inl (cI, 5, .inl u.2.2.2.2)), (ywi, .inl (cI, 5, .inl Fwi))])) (ns, gn, gb, gl, gh) hx hb hr hlocks rfl hQ hK hP hD hS ⟨by decide, by decide⟩ dX4_years_66 (⟨hby, Or.inr ⟨by omega, by omega, by rw [hs, show x3.toInt = n.toInt by omega]⟩⟩)
        · have tc_8 := b_nle rfl rfl c_8
          refine lv_aload_n hx hb dX4_years_24 rfl (lv_at hl 0 rfl) ?_
          refine lv_aload_n hx hb dX4_years_25 rfl (lv_at hl 0 rfl) ?_
          refine va_get (D := D) (ci := 4) (v := .long ns) (C := RX4) (T := TX4) (N := 30) hx hb hts iX4 hown hK hP 0 rfl rfl 27 (by decide) (hts (.fieldLink RX4 206 "PunchedTicketModel" "seed" "J") (List.mem_of_getElem? (i := 2) rfl)) (fun _ h9 => h9) rfl dX4_years_26 ?_
          refine lv_ldc2 (v := (6364136223846793005)) hx hb hown (hts (.constantLong RX4 212 (6364136223846793005)) (List.mem_of_getElem? (i := 3) rfl)) dX4_years_29 ?_
          refine lv_lmul hx hb dX4_years_32 ?_
          refine lv_topl (fun w_9 ew_9 => ?_)
          refine lv_ldc2 (v := (1442695040888963407)) hx hb hown (hts (.constantLong RX4 214 (1442695040888963407)) (List.mem_of_getElem? (i := 4) rfl)) dX4_years_33 ?_
          refine lv_ladd hx hb dX4_years_36 ?_
          refine lv_topl (fun w_10 ew_10 => ?_)
          refine va_put (D := D) (ci := 4) (v := .long w_10) (ty := .long) (C := RX4) (T := TX4) (N := 30) hx hb hts iX4 tyX4 tyX4_ok nmX4 hown hK hP hD hS 0 rfl rfl 27 (by decide) (hts (.fieldLink RX4 206 "PunchedTicketModel" "seed" "J") (List.mem_of_getElem? (i := 2) rfl)) (fun _ h9 => h9) rfl (by decide +kernel) rfl rfl (Nat.le_of_ble_eq_true rfl) dX4_years_37 (fun H locs hP hD hS => ?_)
          have hP : va_P D vwCl [(h0, .inr (4, [.int ype, .int ytk, .ref ywi, .ref yki, .ref yse, .ref yno, .ref yrh, .ref yrw, .ref yrk, .ref yrt, .int yrp, .int yrq, .ref ytx, .int yle, .int yat, .int yfa, .ref yby, .ref ylo, .ref yhi, .int yac, .int ynx, .ref yro, .ref ygl, .int ysn, .ref yso, .ref ysp, .ref ysw, .long w_10, .ref yik, .ref ykp])), (yno, .inl (cI, 96, .inl gn)), (yki, .inl (cI, 5, .inl Fki)), (yby, .inl (cI, 5, .inl gb)), (ylo, .inl (cI, 5, .inl gl)), (yhi, .inl (cI, 5, .inl gh)), (ywi, .inl (cI, 5, .inl Fwi))] H := hP
          have hD : va_D A [(h0, .inr (4, [.int ype, .int ytk, .ref ywi, .ref yki, .ref yse, .ref yno, .ref yrh, .ref yrw, .ref yrk, .ref yrt, .int yrp, .int yrq, .ref ytx, .int yle, .int yat, .int yfa, .ref yby, .ref ylo, .ref yhi, .int yac, .int ynx, .ref yro, .ref ygl, .int ysn, .ref yso, .ref ysp, .ref ysw, .long w_10, .ref yik, .ref ykp])), (yno, .inl (cI, 96, .inl gn)), (yki, .inl (cI, 5, .inl Fki)), (yby, .inl (cI, 5, .inl gb)), (ylo, .inl (cI, 5, .inl gl)), (yhi, .inl (cI, 5, .inl gh)), (ywi, .inl (cI, 5, .inl Fwi))] := hD
          refine lv_iload_n hx hb dX4_years_40 rfl (lv_at hl 2 rfl) ?_
          refine lv_aload_n hx hb dX4_years_41 rfl (lv_at hl 0 rfl) ?_
          refine lv_aload_n hx hb dX4_years_42 rfl (lv_at hl 0 rfl) ?_
          refine va_get (D := D) (ci := 4) (v := .long w_10) (C := RX4) (T := TX4) (N := 30) hx hb hts iX4 hown hK hP 0 rfl rfl 27 (by decide) (hts (.fieldLink RX4 206 "PunchedTicketModel" "seed" "J") (List.mem_of_getElem? (i := 2) rfl)) (fun _ h9 => h9) rfl dX4_years_43 ?_
          refine lv_bipush (v := 33) hx hb dX4_years_46 (by decide) ?_
          obtain ⟨w_11, ew_11⟩ : ∃ z : Int64, (w_10.toUInt64 >>> ((33 : Int32).toInt64.toUInt64 &&& Int64.toUInt64 63)).toInt64 = z := ⟨_, rfl⟩
          refine lv_lushr hx hb dX4_years_48 ew_11 ?_
          refine lv_ldc2 (v := (64)) hx hb hown (hts (.constantLong RX4 216 (64)) (List.mem_of_getElem? (i := 5) rfl)) dX4_years_49 ?_
          refine lv_lrem hx hb dX4_years_52 (by decide) ?_
          refine lv_topl (fun w_12 ew_12 => ?_)
          obtain ⟨v_13, ev_13⟩ : ∃ z : Int32, w_12.toInt32 = z := ⟨_, rfl⟩
          refine lv_l2i hx hb dX4_years_53 ev_13 ?_
          refine cV_i (As := [.int v_13]) (rest := [.int w2]) ⟨hx, hb, hml, hown, hts⟩ (c_X4_gladWithout l D cI cZ cM h0 v_13 ype ytk ywi yki yse yno yrh yrw yrk yrt yrp yrq ytx yle yat yfa yby ylo yhi yac ynx yro ygl ysn yso ysp ysw w_10 yik ykp gn Fki gb gl gh Fwi _ hby (show 0 ≤ ype.toInt ∧ ype.toInt ≤ 5 by omega) (show 0 ≤ ytk.toInt ∧ ytk.toInt ≤ 6 by omega)) (cwV 1 hts gX4_years_X4_gladWithout rfl rfl rfl (by decide +kernel) ⟨by rw [hR]; decide, by rw [hR]; decide⟩) hK hP hD hS hA [0, 1, 2, 3, 4, 5, 6] [] rfl rfl (by decide) (by decide) (by decide) rfl 0 rfl hl.1 rfl rfl (Nat.le_of_ble_eq_true rfl) dX4_years_54 ⟨by rw [hR]; decide, by rw [hR]; decide⟩ (fun r_18 u_19 H locs hw hP hD hS => ?_)
          obtain ⟨Gno_14, Gby_15, Glo_16, Ghi_17⟩ := u_19
          have hP : va_P D vwCl [(h0, .inr (4, [.int ype, .int ytk, .ref ywi, .ref yki, .ref yse, .ref yno, .ref yrh, .ref yrw, .ref yrk, .ref yrt, .int yrp, .int yrq, .ref ytx, .int yle, .int yat, .int yfa, .ref yby, .ref ylo, .ref yhi, .int yac, .int ynx, .ref yro, .ref ygl, .int ysn, .ref yso, .ref ysp, .ref ysw, .long w_10, .ref yik, .ref ykp])), (yno, .inl (cI, 96, .inl Gno_14)), (yki, .inl (cI, 5, .inl Fki)), (yby, .inl (cI, 5, .inl Gby_15)), (ylo, .inl (cI, 5, .inl Glo_16)), (yhi, .inl (cI, 5, .inl Ghi_17)), (ywi, .inl (cI, 5, .inl Fwi))] H := hP.sub [0, 1, 2, 3, 4, 5, 6] rfl
          have hD : va_D A [(h0, .inr (4, [.int ype, .int ytk, .ref ywi, .ref yki, .ref yse, .ref yno, .ref yrh, .ref yrw, .ref yrk, .ref yrt, .int yrp, .int yrq, .ref ytx, .int yle, .int yat, .int yfa, .ref yby, .ref ylo, .ref yhi, .int yac, .int ynx, .ref yro, .ref ygl, .int ysn, .ref yso, .ref ysp, .ref ysw, .long w_10, .ref yik, .ref ykp])), (yno, .inl (cI, 96, .inl Gno_14)), (yki, .inl (cI, 5, .inl Fki)), (yby, .inl (cI, 5, .inl Gby_15)), (ylo, .inl (cI, 5, .inl Glo_16)), (yhi, .inl (cI, 5, .inl Ghi_17)), (ywi, .inl (cI, 5, .inl Fwi))] := hD.sub [0, 1, 2, 3, 4, 5, 6] (by decide) rfl
          refine W.widen (k := 0) (n := 0) (Nat.le_refl _) (Nat.le_refl _) ?_
          have hw : ByOk Gby_15 := hw
          have hw_20 := hw
          have PBY := hw_20
          refine lv_iadd hx hb dX4_years_57 ?_
          refine lv_topi (fun v_21 ev_21 => ?_)
          refine lv_istore_n (lv' := [(2, .int v_21), (0, .ref h0), (1, .int n), (3, .int x3)]) hx hb dX4_years_58 rfl hl (by decide) rfl (fun ls hl => ?_)
          obtain ⟨v_22, ev_22⟩ : ∃ z : Int32, z = x3 + 1 := ⟨_, rfl⟩
          have tv_22 : v_22.toInt = x3.toInt + 1 := by rw [ev_22]; exact ti_add (x := x3) (y := 1) (show -2147483648 ≤ x3.toInt + 1 by omega) (show x3.toInt + 1 < 2147483648 by omega)
          refine lv_iinc (v := v_22) (lv' := [(3, .int v_22), (2, .int v_21), (0, .ref h0), (1, .int n)]) hx hb dX4_years_59 hl (k := 3) rfl (by rw [ev_22]; rfl) (by decide) rfl (fun ls hl => ?_)
          have HS : w_10 = itS v_22.toInt.toNat ysd := by
            rw [show v_22.toInt.toNat = x3.toInt.toNat + 1 by omega]
            show w_10 = stepS (itS x3.toInt.toNat ysd)
            rw [← hs, stepS, ew_10, ew_9]
          refine lv_goto (tgt := 19) hx hb dX4_years_62 (by decide) ?_
          exact ih_7 v_21 v_22 w_10 Gno_14 Gby_15 Glo_16 Ghi_17 _ _ _ (show (30 - v_22.toInt).toNat < fu_6 by omega) (show 0 ≤ v_22.toInt ∧ v_22.toInt ≤ 30 by omega) (PBY) (HS) (show v_22.toInt ≤ n.toInt by omega) hP hD hS (lv_sub hl [2, 3, 1, 0] rfl)
    exact LOOP_6 _ 0 0 ysd Fno Fby Flo Fhi _ _ _ (Nat.lt_succ_self _) (by decide) (hBy) (rfl) (show (0 : Int) ≤ n.toInt by omega) hP hD hS (lv_sub hl [2, 3, 1, 0] rfl)
  · have tc_5 := b_eq rfl (show (0 : Int32).toInt = 0 by decide) c_5
    refine lv_bipush (v := (-2)) hx hb dX4_years_12 (by decide) ?_
    exact ret_i (post := (fun (r : Int32) (u : Int64 × (Nat → Int32) × (Nat → Int32) × (Nat → Int32) × (Nat → Int32)) => ByOk u.2.2.1 ∧ (((n.toInt < 1 ∨ 30 < n.toInt) ∧ u.1 = ysd) ∨ (1 ≤ n.toInt ∧ n.toInt ≤ 30 ∧ u.1 = itS n.toInt.toNat ysd)))) (W1 := (fun u => [(h0, .inr (4, [.int ype, .int ytk, .ref ywi, .ref yki, .ref yse, .ref yno, .ref yrh, .ref yrw, .ref yrk, .ref yrt, .int yrp, .int yrq, .ref ytx, .int yle, .int yat, .int yfa, .ref yby, .ref ylo, .ref yhi, .int yac, .int ynx, .ref yro, .ref ygl, .int ysn, .ref yso, .ref ysp, .ref ysw, .long u.1, .ref yik, .ref ykp])), (yno, .inl (cI, 96, .inl u.2.1)), (yki, .inl (cI, 5, .inl Fki)), (yby, .inl (cI, 5, .inl u.2.2.1)), (ylo, .inl (cI, 5, .inl u.2.2.2.1)), (yhi, .inl (cI, 5, .inl u.2.2.2.2)), (ywi, .inl (cI, 5, .inl Fwi))])) (ysd, Fno, Fby, Flo, Fhi) hx hb hr hlocks rfl hQ hK hP hD hS ⟨by decide, by decide⟩ dX4_years_14 (⟨hBy, Or.inl ⟨by omega, rfl⟩⟩)
