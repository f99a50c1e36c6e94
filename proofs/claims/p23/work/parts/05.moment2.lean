theorem dX0_copy_0 : decode cX0_copy 0 = .ok (.aload_n 0, 1) := by decide +kernel
theorem dX0_copy_1 : decode cX0_copy 1 = .ok (.aload_n 1, 1) := by decide +kernel
theorem dX0_copy_2 : decode cX0_copy 2 = .ok (.getfield 9, 3) := by decide +kernel
theorem dX0_copy_5 : decode cX0_copy 5 = .ok (.putfield 9, 3) := by decide +kernel
theorem dX0_copy_8 : decode cX0_copy 8 = .ok (.aload_n 0, 1) := by decide +kernel
theorem dX0_copy_9 : decode cX0_copy 9 = .ok (.aload_n 1, 1) := by decide +kernel
theorem dX0_copy_10 : decode cX0_copy 10 = .ok (.getfield 15, 3) := by decide +kernel
theorem dX0_copy_13 : decode cX0_copy 13 = .ok (.putfield 15, 3) := by decide +kernel
theorem dX0_copy_16 : decode cX0_copy 16 = .ok (.aload_n 1, 1) := by decide +kernel
theorem dX0_copy_17 : decode cX0_copy 17 = .ok (.getfield 18, 3) := by decide +kernel
theorem dX0_copy_20 : decode cX0_copy 20 = .ok (.iconst 0, 1) := by decide +kernel
theorem dX0_copy_21 : decode cX0_copy 21 = .ok (.aload_n 0, 1) := by decide +kernel
theorem dX0_copy_22 : decode cX0_copy 22 = .ok (.getfield 18, 3) := by decide +kernel
theorem dX0_copy_25 : decode cX0_copy 25 = .ok (.iconst 0, 1) := by decide +kernel
theorem dX0_copy_26 : decode cX0_copy 26 = .ok (.iconst 5, 1) := by decide +kernel
theorem dX0_copy_27 : decode cX0_copy 27 = .ok (.invokestatic 43, 3) := by decide +kernel
theorem dX0_copy_30 : decode cX0_copy 30 = .ok (.aload_n 1, 1) := by decide +kernel
theorem dX0_copy_31 : decode cX0_copy 31 = .ok (.getfield 22, 3) := by decide +kernel
theorem dX0_copy_34 : decode cX0_copy 34 = .ok (.iconst 0, 1) := by decide +kernel
theorem dX0_copy_35 : decode cX0_copy 35 = .ok (.aload_n 0, 1) := by decide +kernel
theorem dX0_copy_36 : decode cX0_copy 36 = .ok (.getfield 22, 3) := by decide +kernel
theorem dX0_copy_39 : decode cX0_copy 39 = .ok (.iconst 0, 1) := by decide +kernel
theorem dX0_copy_40 : decode cX0_copy 40 = .ok (.iconst 5, 1) := by decide +kernel
theorem dX0_copy_41 : decode cX0_copy 41 = .ok (.invokestatic 43, 3) := by decide +kernel
theorem dX0_copy_44 : decode cX0_copy 44 = .ok (.aload_n 1, 1) := by decide +kernel
theorem dX0_copy_45 : decode cX0_copy 45 = .ok (.getfield 25, 3) := by decide +kernel
theorem dX0_copy_48 : decode cX0_copy 48 = .ok (.iconst 0, 1) := by decide +kernel
theorem dX0_copy_49 : decode cX0_copy 49 = .ok (.aload_n 0, 1) := by decide +kernel
theorem dX0_copy_50 : decode cX0_copy 50 = .ok (.getfield 25, 3) := by decide +kernel
theorem dX0_copy_53 : decode cX0_copy 53 = .ok (.iconst 0, 1) := by decide +kernel
theorem dX0_copy_54 : decode cX0_copy 54 = .ok (.iconst 5, 1) := by decide +kernel
theorem dX0_copy_55 : decode cX0_copy 55 = .ok (.invokestatic 43, 3) := by decide +kernel
theorem dX0_copy_58 : decode cX0_copy 58 = .ok (.aload_n 1, 1) := by decide +kernel
theorem dX0_copy_59 : decode cX0_copy 59 = .ok (.getfield 28, 3) := by decide +kernel
theorem dX0_copy_62 : decode cX0_copy 62 = .ok (.iconst 0, 1) := by decide +kernel
theorem dX0_copy_63 : decode cX0_copy 63 = .ok (.aload_n 0, 1) := by decide +kernel
theorem dX0_copy_64 : decode cX0_copy 64 = .ok (.getfield 28, 3) := by decide +kernel
theorem dX0_copy_67 : decode cX0_copy 67 = .ok (.iconst 0, 1) := by decide +kernel
theorem dX0_copy_68 : decode cX0_copy 68 = .ok (.bipush 6, 2) := by decide +kernel
theorem dX0_copy_70 : decode cX0_copy 70 = .ok (.invokestatic 43, 3) := by decide +kernel
theorem dX0_copy_73 : decode cX0_copy 73 = .ok (.aload_n 1, 1) := by decide +kernel
theorem dX0_copy_74 : decode cX0_copy 74 = .ok (.getfield 31, 3) := by decide +kernel
theorem dX0_copy_77 : decode cX0_copy 77 = .ok (.iconst 0, 1) := by decide +kernel
theorem dX0_copy_78 : decode cX0_copy 78 = .ok (.aload_n 0, 1) := by decide +kernel
theorem dX0_copy_79 : decode cX0_copy 79 = .ok (.getfield 31, 3) := by decide +kernel
theorem dX0_copy_82 : decode cX0_copy 82 = .ok (.iconst 0, 1) := by decide +kernel
theorem dX0_copy_83 : decode cX0_copy 83 = .ok (.bipush 6, 2) := by decide +kernel
theorem dX0_copy_85 : decode cX0_copy 85 = .ok (.invokestatic 43, 3) := by decide +kernel
theorem dX0_copy_88 : decode cX0_copy 88 = .ok (.aload_n 1, 1) := by decide +kernel
theorem dX0_copy_89 : decode cX0_copy 89 = .ok (.getfield 34, 3) := by decide +kernel
theorem dX0_copy_92 : decode cX0_copy 92 = .ok (.iconst 0, 1) := by decide +kernel
theorem dX0_copy_93 : decode cX0_copy 93 = .ok (.aload_n 0, 1) := by decide +kernel
theorem dX0_copy_94 : decode cX0_copy 94 = .ok (.getfield 34, 3) := by decide +kernel
theorem dX0_copy_97 : decode cX0_copy 97 = .ok (.iconst 0, 1) := by decide +kernel
theorem dX0_copy_98 : decode cX0_copy 98 = .ok (.bipush 6, 2) := by decide +kernel
theorem dX0_copy_100 : decode cX0_copy 100 = .ok (.invokestatic 43, 3) := by decide +kernel
theorem dX0_copy_103 : decode cX0_copy 103 = .ok (.aload_n 1, 1) := by decide +kernel
theorem dX0_copy_104 : decode cX0_copy 104 = .ok (.getfield 37, 3) := by decide +kernel
theorem dX0_copy_107 : decode cX0_copy 107 = .ok (.iconst 0, 1) := by decide +kernel
theorem dX0_copy_108 : decode cX0_copy 108 = .ok (.aload_n 0, 1) := by decide +kernel
theorem dX0_copy_109 : decode cX0_copy 109 = .ok (.getfield 37, 3) := by decide +kernel
theorem dX0_copy_112 : decode cX0_copy 112 = .ok (.iconst 0, 1) := by decide +kernel
theorem dX0_copy_113 : decode cX0_copy 113 = .ok (.bipush 6, 2) := by decide +kernel
theorem dX0_copy_115 : decode cX0_copy 115 = .ok (.invokestatic 43, 3) := by decide +kernel
theorem dX0_copy_118 : decode cX0_copy 118 = .ok (.aload_n 1, 1) := by decide +kernel
theorem dX0_copy_119 : decode cX0_copy 119 = .ok (.getfield 40, 3) := by decide +kernel
theorem dX0_copy_122 : decode cX0_copy 122 = .ok (.iconst 0, 1) := by decide +kernel
theorem dX0_copy_123 : decode cX0_copy 123 = .ok (.aload_n 0, 1) := by decide +kernel
theorem dX0_copy_124 : decode cX0_copy 124 = .ok (.getfield 40, 3) := by decide +kernel
theorem dX0_copy_127 : decode cX0_copy 127 = .ok (.iconst 0, 1) := by decide +kernel
theorem dX0_copy_128 : decode cX0_copy 128 = .ok (.bipush 6, 2) := by decide +kernel
theorem dX0_copy_130 : decode cX0_copy 130 = .ok (.invokestatic 43, 3) := by decide +kernel
theorem dX0_copy_133 : decode cX0_copy 133 = .ok (.return_, 1) := by decide +kernel
theorem dX1_begin_0 : decode cX1_begin 0 = .ok (.aload_n 0, 1) := by decide +kernel
theorem dX1_begin_1 : decode cX1_begin 1 = .ok (.iconst 0, 1) := by decide +kernel
theorem dX1_begin_2 : decode cX1_begin 2 = .ok (.putfield 9, 3) := by decide +kernel
theorem dX1_begin_5 : decode cX1_begin 5 = .ok (.aload_n 0, 1) := by decide +kernel
theorem dX1_begin_6 : decode cX1_begin 6 = .ok (.aload_n 0, 1) := by decide +kernel
theorem dX1_begin_7 : decode cX1_begin 7 = .ok (.getfield 34, 3) := by decide +kernel
theorem dX1_begin_10 : decode cX1_begin 10 = .ok (.getfield 38, 3) := by decide +kernel
theorem dX1_begin_13 : decode cX1_begin 13 = .ok (.putfield 15, 3) := by decide +kernel
theorem dX1_begin_16 : decode cX1_begin 16 = .ok (.aload_n 0, 1) := by decide +kernel
theorem dX1_begin_17 : decode cX1_begin 17 = .ok (.iconst 0, 1) := by decide +kernel
theorem dX1_begin_18 : decode cX1_begin 18 = .ok (.putfield 18, 3) := by decide +kernel
theorem dX1_begin_21 : decode cX1_begin 21 = .ok (.aload_n 0, 1) := by decide +kernel
theorem dX1_begin_22 : decode cX1_begin 22 = .ok (.iconst 0, 1) := by decide +kernel
theorem dX1_begin_23 : decode cX1_begin 23 = .ok (.putfield 21, 3) := by decide +kernel
theorem dX1_begin_26 : decode cX1_begin 26 = .ok (.aload_n 0, 1) := by decide +kernel
theorem dX1_begin_27 : decode cX1_begin 27 = .ok (.getfield 34, 3) := by decide +kernel
theorem dX1_begin_30 : decode cX1_begin 30 = .ok (.getfield 41, 3) := by decide +kernel
theorem dX1_begin_33 : decode cX1_begin 33 = .ok (.iconst 0, 1) := by decide +kernel
theorem dX1_begin_34 : decode cX1_begin 34 = .ok (.aload_n 0, 1) := by decide +kernel
theorem dX1_begin_35 : decode cX1_begin 35 = .ok (.getfield 24, 3) := by decide +kernel
theorem dX1_begin_38 : decode cX1_begin 38 = .ok (.iconst 0, 1) := by decide +kernel
theorem dX1_begin_39 : decode cX1_begin 39 = .ok (.iconst 5, 1) := by decide +kernel
theorem dX1_begin_40 : decode cX1_begin 40 = .ok (.invokestatic 44, 3) := by decide +kernel
theorem dX1_begin_43 : decode cX1_begin 43 = .ok (.aload_n 0, 1) := by decide +kernel
theorem dX1_begin_44 : decode cX1_begin 44 = .ok (.getfield 34, 3) := by decide +kernel
theorem dX1_begin_47 : decode cX1_begin 47 = .ok (.getfield 50, 3) := by decide +kernel
theorem dX1_begin_50 : decode cX1_begin 50 = .ok (.iconst 0, 1) := by decide +kernel
theorem dX1_begin_51 : decode cX1_begin 51 = .ok (.aload_n 0, 1) := by decide +kernel
theorem dX1_begin_52 : decode cX1_begin 52 = .ok (.getfield 28, 3) := by decide +kernel
theorem dX1_begin_55 : decode cX1_begin 55 = .ok (.iconst 0, 1) := by decide +kernel
theorem dX1_begin_56 : decode cX1_begin 56 = .ok (.bipush 6, 2) := by decide +kernel
theorem dX1_begin_58 : decode cX1_begin 58 = .ok (.invokestatic 44, 3) := by decide +kernel
theorem dX1_begin_61 : decode cX1_begin 61 = .ok (.aload_n 0, 1) := by decide +kernel
theorem dX1_begin_62 : decode cX1_begin 62 = .ok (.getfield 34, 3) := by decide +kernel
theorem dX1_begin_65 : decode cX1_begin 65 = .ok (.getfield 51, 3) := by decide +kernel
theorem dX1_begin_68 : decode cX1_begin 68 = .ok (.iconst 0, 1) := by decide +kernel
theorem dX1_begin_69 : decode cX1_begin 69 = .ok (.aload_n 0, 1) := by decide +kernel
theorem dX1_begin_70 : decode cX1_begin 70 = .ok (.getfield 31, 3) := by decide +kernel
theorem dX1_begin_73 : decode cX1_begin 73 = .ok (.iconst 0, 1) := by decide +kernel
theorem dX1_begin_74 : decode cX1_begin 74 = .ok (.bipush 6, 2) := by decide +kernel
theorem dX1_begin_76 : decode cX1_begin 76 = .ok (.invokestatic 44, 3) := by decide +kernel
theorem dX1_begin_79 : decode cX1_begin 79 = .ok (.return_, 1) := by decide +kernel
theorem dX1_notGone_0 : decode cX1_notGone 0 = .ok (.aload_n 0, 1) := by decide +kernel
theorem dX1_notGone_1 : decode cX1_notGone 1 = .ok (.getfield 21, 3) := by decide +kernel
theorem dX1_notGone_4 : decode cX1_notGone 4 = .ok (.iconst (-1), 1) := by decide +kernel
theorem dX1_notGone_5 : decode cX1_notGone 5 = .ok (.ixor, 1) := by decide +kernel
theorem dX1_notGone_6 : decode cX1_notGone 6 = .ok (.iconst 1, 1) := by decide +kernel
theorem dX1_notGone_7 : decode cX1_notGone 7 = .ok (.aload_n 0, 1) := by decide +kernel
theorem dX1_notGone_8 : decode cX1_notGone 8 = .ok (.getfield 15, 3) := by decide +kernel
theorem dX1_notGone_11 : decode cX1_notGone 11 = .ok (.ishl, 1) := by decide +kernel
theorem dX1_notGone_12 : decode cX1_notGone 12 = .ok (.iconst 1, 1) := by decide +kernel
theorem dX1_notGone_13 : decode cX1_notGone 13 = .ok (.isub, 1) := by decide +kernel
theorem dX1_notGone_14 : decode cX1_notGone 14 = .ok (.iand, 1) := by decide +kernel
theorem dX1_notGone_15 : decode cX1_notGone 15 = .ok (.ireturn, 1) := by decide +kernel
set_option maxRecDepth 20000 in
theorem ggX1_from_X1_isReturn : GoodIn wsX1_from wsX1_isReturn := goodIn_r _ [8, 9, 10, 11, 12, 13, 14, 15, 16, 17] rfl (by decide +kernel)
set_option maxRecDepth 20000 in
theorem gX1_from_X1_isReturn : GoodIn wsX1_from (wsV RX1 52 RX1 yX1_isReturn wsX1_isReturn) := goodIn_app (goodIn_r _ [4, 5, 6, 7] rfl (by decide +kernel)) ggX1_from_X1_isReturn
theorem dX1_from_0 : decode cX1_from 0 = .ok (.aload_n 0, 1) := by decide +kernel
theorem dX1_from_1 : decode cX1_from 1 = .ok (.iload_n 1, 1) := by decide +kernel
theorem dX1_from_2 : decode cX1_from 2 = .ok (.invokevirtual 52, 3) := by decide +kernel
theorem dX1_from_5 : decode cX1_from 5 = .ok (.ifCond .eq 15, 3) := by decide +kernel
theorem dX1_from_8 : decode cX1_from 8 = .ok (.aload_n 0, 1) := by decide +kernel
theorem dX1_from_9 : decode cX1_from 9 = .ok (.getfield 34, 3) := by decide +kernel
theorem dX1_from_12 : decode cX1_from 12 = .ok (.getfield 56, 3) := by decide +kernel
theorem dX1_from_15 : decode cX1_from 15 = .ok (.iload_n 1, 1) := by decide +kernel
theorem dX1_from_16 : decode cX1_from 16 = .ok (.iaload, 1) := by decide +kernel
theorem dX1_from_17 : decode cX1_from 17 = .ok (.goto 12, 3) := by decide +kernel
theorem dX1_from_20 : decode cX1_from 20 = .ok (.aload_n 0, 1) := by decide +kernel
theorem dX1_from_21 : decode cX1_from 21 = .ok (.getfield 34, 3) := by decide +kernel
theorem dX1_from_24 : decode cX1_from 24 = .ok (.getfield 59, 3) := by decide +kernel
theorem dX1_from_27 : decode cX1_from 27 = .ok (.iload_n 1, 1) := by decide +kernel
theorem dX1_from_28 : decode cX1_from 28 = .ok (.iaload, 1) := by decide +kernel
theorem dX1_from_29 : decode cX1_from 29 = .ok (.ireturn, 1) := by decide +kernel
set_option maxRecDepth 20000 in
theorem ggX1_canBeGiven_X1_isGone : GoodIn wsX1_canBeGiven wsX1_isGone := goodIn_r _ [6, 7, 8, 9, 10, 11, 12, 13, 14, 15] rfl (by decide +kernel)
set_option maxRecDepth 20000 in
theorem gX1_canBeGiven_X1_isGone : GoodIn wsX1_canBeGiven (wsV RX1 62 RX1 yX1_isGone wsX1_isGone) := goodIn_app (goodIn_r _ [2, 3, 4, 5] rfl (by decide +kernel)) ggX1_canBeGiven_X1_isGone
theorem dX1_canBeGiven_0 : decode cX1_canBeGiven 0 = .ok (.aload_n 0, 1) := by decide +kernel
theorem dX1_canBeGiven_1 : decode cX1_canBeGiven 1 = .ok (.iload_n 1, 1) := by decide +kernel
theorem dX1_canBeGiven_2 : decode cX1_canBeGiven 2 = .ok (.invokevirtual 62, 3) := by decide +kernel
theorem dX1_canBeGiven_5 : decode cX1_canBeGiven 5 = .ok (.ifCond .ne 17, 3) := by decide +kernel
theorem dX1_canBeGiven_8 : decode cX1_canBeGiven 8 = .ok (.aload_n 0, 1) := by decide +kernel
theorem dX1_canBeGiven_9 : decode cX1_canBeGiven 9 = .ok (.getfield 31, 3) := by decide +kernel
theorem dX1_canBeGiven_12 : decode cX1_canBeGiven 12 = .ok (.iload_n 1, 1) := by decide +kernel
theorem dX1_canBeGiven_13 : decode cX1_canBeGiven 13 = .ok (.iaload, 1) := by decide +kernel
theorem dX1_canBeGiven_14 : decode cX1_canBeGiven 14 = .ok (.iload_n 2, 1) := by decide +kernel
theorem dX1_canBeGiven_15 : decode cX1_canBeGiven 15 = .ok (.if_icmp .eq 7, 3) := by decide +kernel
theorem dX1_canBeGiven_18 : decode cX1_canBeGiven 18 = .ok (.iconst 1, 1) := by decide +kernel
theorem dX1_canBeGiven_19 : decode cX1_canBeGiven 19 = .ok (.goto 4, 3) := by decide +kernel
theorem dX1_canBeGiven_22 : decode cX1_canBeGiven 22 = .ok (.iconst 0, 1) := by decide +kernel
theorem dX1_canBeGiven_23 : decode cX1_canBeGiven 23 = .ok (.ireturn, 1) := by decide +kernel
set_option maxRecDepth 20000 in
theorem ggX1_canBeChanged_X1_isGone : GoodIn wsX1_canBeChanged wsX1_isGone := goodIn_r _ [6, 7, 8, 9, 10, 11, 12, 13, 14, 15] rfl (by decide +kernel)
set_option maxRecDepth 20000 in
theorem gX1_canBeChanged_X1_isGone : GoodIn wsX1_canBeChanged (wsV RX1 62 RX1 yX1_isGone wsX1_isGone) := goodIn_app (goodIn_r _ [2, 3, 4, 5] rfl (by decide +kernel)) ggX1_canBeChanged_X1_isGone
theorem dX1_canBeChanged_0 : decode cX1_canBeChanged 0 = .ok (.aload_n 0, 1) := by decide +kernel
theorem dX1_canBeChanged_1 : decode cX1_canBeChanged 1 = .ok (.iload_n 1, 1) := by decide +kernel
theorem dX1_canBeChanged_2 : decode cX1_canBeChanged 2 = .ok (.invokevirtual 62, 3) := by decide +kernel
theorem dX1_canBeChanged_5 : decode cX1_canBeChanged 5 = .ok (.ifCond .ne 30, 3) := by decide +kernel
theorem dX1_canBeChanged_8 : decode cX1_canBeChanged 8 = .ok (.aload_n 0, 1) := by decide +kernel
theorem dX1_canBeChanged_9 : decode cX1_canBeChanged 9 = .ok (.iload_n 2, 1) := by decide +kernel
theorem dX1_canBeChanged_10 : decode cX1_canBeChanged 10 = .ok (.invokevirtual 62, 3) := by decide +kernel
theorem dX1_canBeChanged_13 : decode cX1_canBeChanged 13 = .ok (.ifCond .ne 22, 3) := by decide +kernel
theorem dX1_canBeChanged_16 : decode cX1_canBeChanged 16 = .ok (.aload_n 0, 1) := by decide +kernel
theorem dX1_canBeChanged_17 : decode cX1_canBeChanged 17 = .ok (.getfield 31, 3) := by decide +kernel
theorem dX1_canBeChanged_20 : decode cX1_canBeChanged 20 = .ok (.iload_n 1, 1) := by decide +kernel
theorem dX1_canBeChanged_21 : decode cX1_canBeChanged 21 = .ok (.iaload, 1) := by decide +kernel
theorem dX1_canBeChanged_22 : decode cX1_canBeChanged 22 = .ok (.aload_n 0, 1) := by decide +kernel
theorem dX1_canBeChanged_23 : decode cX1_canBeChanged 23 = .ok (.getfield 31, 3) := by decide +kernel
theorem dX1_canBeChanged_26 : decode cX1_canBeChanged 26 = .ok (.iload_n 2, 1) := by decide +kernel
theorem dX1_canBeChanged_27 : decode cX1_canBeChanged 27 = .ok (.iaload, 1) := by decide +kernel
theorem dX1_canBeChanged_28 : decode cX1_canBeChanged 28 = .ok (.if_icmp .eq 7, 3) := by decide +kernel
theorem dX1_canBeChanged_31 : decode cX1_canBeChanged 31 = .ok (.iconst 1, 1) := by decide +kernel
theorem dX1_canBeChanged_32 : decode cX1_canBeChanged 32 = .ok (.goto 4, 3) := by decide +kernel
theorem dX1_canBeChanged_35 : decode cX1_canBeChanged 35 = .ok (.iconst 0, 1) := by decide +kernel
theorem dX1_canBeChanged_36 : decode cX1_canBeChanged 36 = .ok (.ireturn, 1) := by decide +kernel
theorem dX1_swapHolders_0 : decode cX1_swapHolders 0 = .ok (.aload_n 0, 1) := by decide +kernel
theorem dX1_swapHolders_1 : decode cX1_swapHolders 1 = .ok (.getfield 31, 3) := by decide +kernel
theorem dX1_swapHolders_4 : decode cX1_swapHolders 4 = .ok (.iload_n 1, 1) := by decide +kernel
theorem dX1_swapHolders_5 : decode cX1_swapHolders 5 = .ok (.iaload, 1) := by decide +kernel
theorem dX1_swapHolders_6 : decode cX1_swapHolders 6 = .ok (.istore_n 3, 1) := by decide +kernel
theorem dX1_swapHolders_7 : decode cX1_swapHolders 7 = .ok (.aload_n 0, 1) := by decide +kernel
theorem dX1_swapHolders_8 : decode cX1_swapHolders 8 = .ok (.getfield 31, 3) := by decide +kernel
theorem dX1_swapHolders_11 : decode cX1_swapHolders 11 = .ok (.iload_n 1, 1) := by decide +kernel
theorem dX1_swapHolders_12 : decode cX1_swapHolders 12 = .ok (.aload_n 0, 1) := by decide +kernel
theorem dX1_swapHolders_13 : decode cX1_swapHolders 13 = .ok (.getfield 31, 3) := by decide +kernel
theorem dX1_swapHolders_16 : decode cX1_swapHolders 16 = .ok (.iload_n 2, 1) := by decide +kernel
theorem dX1_swapHolders_17 : decode cX1_swapHolders 17 = .ok (.iaload, 1) := by decide +kernel
theorem dX1_swapHolders_18 : decode cX1_swapHolders 18 = .ok (.iastore, 1) := by decide +kernel
theorem dX1_swapHolders_19 : decode cX1_swapHolders 19 = .ok (.aload_n 0, 1) := by decide +kernel
theorem dX1_swapHolders_20 : decode cX1_swapHolders 20 = .ok (.getfield 31, 3) := by decide +kernel
theorem dX1_swapHolders_23 : decode cX1_swapHolders 23 = .ok (.iload_n 2, 1) := by decide +kernel
theorem dX1_swapHolders_24 : decode cX1_swapHolders 24 = .ok (.iload_n 3, 1) := by decide +kernel
theorem dX1_swapHolders_25 : decode cX1_swapHolders 25 = .ok (.iastore, 1) := by decide +kernel
theorem dX1_swapHolders_26 : decode cX1_swapHolders 26 = .ok (.return_, 1) := by decide +kernel
set_option maxRecDepth 20000 in
theorem ggX1_heldBy_X1_isGone : GoodIn wsX1_heldBy wsX1_isGone := goodIn_r _ [7, 8, 9, 10, 11, 12, 13, 14, 15, 16] rfl (by decide +kernel)
set_option maxRecDepth 20000 in
theorem gX1_heldBy_X1_isGone : GoodIn wsX1_heldBy (wsV RX1 62 RX1 yX1_isGone wsX1_isGone) := goodIn_app (goodIn_r _ [3, 4, 5, 6] rfl (by decide +kernel)) ggX1_heldBy_X1_isGone
theorem dX1_heldBy_0 : decode cX1_heldBy 0 = .ok (.iconst 0, 1) := by decide +kernel
theorem dX1_heldBy_1 : decode cX1_heldBy 1 = .ok (.istore_n 2, 1) := by decide +kernel
theorem dX1_heldBy_2 : decode cX1_heldBy 2 = .ok (.iconst 0, 1) := by decide +kernel
theorem dX1_heldBy_3 : decode cX1_heldBy 3 = .ok (.istore_n 3, 1) := by decide +kernel
theorem dX1_heldBy_4 : decode cX1_heldBy 4 = .ok (.iload_n 3, 1) := by decide +kernel
theorem dX1_heldBy_5 : decode cX1_heldBy 5 = .ok (.aload_n 0, 1) := by decide +kernel
theorem dX1_heldBy_6 : decode cX1_heldBy 6 = .ok (.getfield 15, 3) := by decide +kernel
theorem dX1_heldBy_9 : decode cX1_heldBy 9 = .ok (.if_icmp .ge 33, 3) := by decide +kernel
theorem dX1_heldBy_12 : decode cX1_heldBy 12 = .ok (.aload_n 0, 1) := by decide +kernel
theorem dX1_heldBy_13 : decode cX1_heldBy 13 = .ok (.iload_n 3, 1) := by decide +kernel
theorem dX1_heldBy_14 : decode cX1_heldBy 14 = .ok (.invokevirtual 62, 3) := by decide +kernel
theorem dX1_heldBy_17 : decode cX1_heldBy 17 = .ok (.ifCond .ne 19, 3) := by decide +kernel
theorem dX1_heldBy_20 : decode cX1_heldBy 20 = .ok (.aload_n 0, 1) := by decide +kernel
theorem dX1_heldBy_21 : decode cX1_heldBy 21 = .ok (.getfield 31, 3) := by decide +kernel
theorem dX1_heldBy_24 : decode cX1_heldBy 24 = .ok (.iload_n 3, 1) := by decide +kernel
theorem dX1_heldBy_25 : decode cX1_heldBy 25 = .ok (.iaload, 1) := by decide +kernel
theorem dX1_heldBy_26 : decode cX1_heldBy 26 = .ok (.iload_n 1, 1) := by decide +kernel
theorem dX1_heldBy_27 : decode cX1_heldBy 27 = .ok (.if_icmp .ne 9, 3) := by decide +kernel
theorem dX1_heldBy_30 : decode cX1_heldBy 30 = .ok (.iload_n 2, 1) := by decide +kernel
theorem dX1_heldBy_31 : decode cX1_heldBy 31 = .ok (.iconst 1, 1) := by decide +kernel
theorem dX1_heldBy_32 : decode cX1_heldBy 32 = .ok (.iload_n 3, 1) := by decide +kernel
theorem dX1_heldBy_33 : decode cX1_heldBy 33 = .ok (.ishl, 1) := by decide +kernel
theorem dX1_heldBy_34 : decode cX1_heldBy 34 = .ok (.ior, 1) := by decide +kernel
theorem dX1_heldBy_35 : decode cX1_heldBy 35 = .ok (.istore_n 2, 1) := by decide +kernel
theorem dX1_heldBy_36 : decode cX1_heldBy 36 = .ok (.iinc 3 1, 3) := by decide +kernel
theorem dX1_heldBy_39 : decode cX1_heldBy 39 = .ok (.goto (-35), 3) := by decide +kernel
theorem dX1_heldBy_42 : decode cX1_heldBy 42 = .ok (.iload_n 2, 1) := by decide +kernel
theorem dX1_heldBy_43 : decode cX1_heldBy 43 = .ok (.ireturn, 1) := by decide +kernel
theorem dX3_isStop_0 : decode cX3_isStop 0 = .ok (.iload_n 0, 1) := by decide +kernel
theorem dX3_isStop_1 : decode cX3_isStop 1 = .ok (.ifCond .lt 13, 3) := by decide +kernel
theorem dX3_isStop_4 : decode cX3_isStop 4 = .ok (.iload_n 0, 1) := by decide +kernel
theorem dX3_isStop_5 : decode cX3_isStop 5 = .ok (.bipush 10, 2) := by decide +kernel
theorem dX3_isStop_7 : decode cX3_isStop 7 = .ok (.if_icmp .ge 7, 3) := by decide +kernel
theorem dX3_isStop_10 : decode cX3_isStop 10 = .ok (.iconst 1, 1) := by decide +kernel
theorem dX3_isStop_11 : decode cX3_isStop 11 = .ok (.goto 4, 3) := by decide +kernel
theorem dX3_isStop_14 : decode cX3_isStop 14 = .ok (.iconst 0, 1) := by decide +kernel
theorem dX3_isStop_15 : decode cX3_isStop 15 = .ok (.ireturn, 1) := by decide +kernel
theorem dX3_isSlot_0 : decode cX3_isSlot 0 = .ok (.iload_n 0, 1) := by decide +kernel
theorem dX3_isSlot_1 : decode cX3_isSlot 1 = .ok (.ifCond .lt 12, 3) := by decide +kernel
theorem dX3_isSlot_4 : decode cX3_isSlot 4 = .ok (.iload_n 0, 1) := by decide +kernel
theorem dX3_isSlot_5 : decode cX3_isSlot 5 = .ok (.iconst 2, 1) := by decide +kernel
theorem dX3_isSlot_6 : decode cX3_isSlot 6 = .ok (.if_icmp .ge 7, 3) := by decide +kernel
theorem dX3_isSlot_9 : decode cX3_isSlot 9 = .ok (.iconst 1, 1) := by decide +kernel
theorem dX3_isSlot_10 : decode cX3_isSlot 10 = .ok (.goto 4, 3) := by decide +kernel
theorem dX3_isSlot_13 : decode cX3_isSlot 13 = .ok (.iconst 0, 1) := by decide +kernel
theorem dX3_isSlot_14 : decode cX3_isSlot 14 = .ok (.ireturn, 1) := by decide +kernel
theorem dX3_firstFreeSeat_0 : decode cX3_firstFreeSeat 0 = .ok (.iconst 0, 1) := by decide +kernel
theorem dX3_firstFreeSeat_1 : decode cX3_firstFreeSeat 1 = .ok (.istore_n 1, 1) := by decide +kernel
theorem dX3_firstFreeSeat_2 : decode cX3_firstFreeSeat 2 = .ok (.iload_n 1, 1) := by decide +kernel
theorem dX3_firstFreeSeat_3 : decode cX3_firstFreeSeat 3 = .ok (.bipush 10, 2) := by decide +kernel
theorem dX3_firstFreeSeat_5 : decode cX3_firstFreeSeat 5 = .ok (.if_icmp .ge 19, 3) := by decide +kernel
theorem dX3_firstFreeSeat_8 : decode cX3_firstFreeSeat 8 = .ok (.iload_n 0, 1) := by decide +kernel
theorem dX3_firstFreeSeat_9 : decode cX3_firstFreeSeat 9 = .ok (.iload_n 1, 1) := by decide +kernel
theorem dX3_firstFreeSeat_10 : decode cX3_firstFreeSeat 10 = .ok (.ishr, 1) := by decide +kernel
theorem dX3_firstFreeSeat_11 : decode cX3_firstFreeSeat 11 = .ok (.iconst 1, 1) := by decide +kernel
theorem dX3_firstFreeSeat_12 : decode cX3_firstFreeSeat 12 = .ok (.iand, 1) := by decide +kernel
theorem dX3_firstFreeSeat_13 : decode cX3_firstFreeSeat 13 = .ok (.ifCond .ne 5, 3) := by decide +kernel
theorem dX3_firstFreeSeat_16 : decode cX3_firstFreeSeat 16 = .ok (.iload_n 1, 1) := by decide +kernel
theorem dX3_firstFreeSeat_17 : decode cX3_firstFreeSeat 17 = .ok (.ireturn, 1) := by decide +kernel
theorem dX3_firstFreeSeat_18 : decode cX3_firstFreeSeat 18 = .ok (.iinc 1 1, 3) := by decide +kernel
theorem dX3_firstFreeSeat_21 : decode cX3_firstFreeSeat 21 = .ok (.goto (-19), 3) := by decide +kernel
theorem dX3_firstFreeSeat_24 : decode cX3_firstFreeSeat 24 = .ok (.bipush (-9), 2) := by decide +kernel
theorem dX3_firstFreeSeat_26 : decode cX3_firstFreeSeat 26 = .ok (.ireturn, 1) := by decide +kernel
theorem dX3_factorial_0 : decode cX3_factorial 0 = .ok (.iconst 1, 1) := by decide +kernel
theorem dX3_factorial_1 : decode cX3_factorial 1 = .ok (.istore_n 1, 1) := by decide +kernel
theorem dX3_factorial_2 : decode cX3_factorial 2 = .ok (.iconst 2, 1) := by decide +kernel
theorem dX3_factorial_3 : decode cX3_factorial 3 = .ok (.istore_n 2, 1) := by decide +kernel
theorem dX3_factorial_4 : decode cX3_factorial 4 = .ok (.iload_n 2, 1) := by decide +kernel
theorem dX3_factorial_5 : decode cX3_factorial 5 = .ok (.iload_n 0, 1) := by decide +kernel
theorem dX3_factorial_6 : decode cX3_factorial 6 = .ok (.if_icmp .gt 13, 3) := by decide +kernel
theorem dX3_factorial_9 : decode cX3_factorial 9 = .ok (.iload_n 1, 1) := by decide +kernel
theorem dX3_factorial_10 : decode cX3_factorial 10 = .ok (.iload_n 2, 1) := by decide +kernel
theorem dX3_factorial_11 : decode cX3_factorial 11 = .ok (.imul, 1) := by decide +kernel
theorem dX3_factorial_12 : decode cX3_factorial 12 = .ok (.istore_n 1, 1) := by decide +kernel
theorem dX3_factorial_13 : decode cX3_factorial 13 = .ok (.iinc 2 1, 3) := by decide +kernel
theorem dX3_factorial_16 : decode cX3_factorial 16 = .ok (.goto (-12), 3) := by decide +kernel
theorem dX3_factorial_19 : decode cX3_factorial 19 = .ok (.iload_n 1, 1) := by decide +kernel
theorem dX3_factorial_20 : decode cX3_factorial 20 = .ok (.ireturn, 1) := by decide +kernel
theorem dX3_power_0 : decode cX3_power 0 = .ok (.iconst 1, 1) := by decide +kernel
theorem dX3_power_1 : decode cX3_power 1 = .ok (.istore_n 2, 1) := by decide +kernel
theorem dX3_power_2 : decode cX3_power 2 = .ok (.iconst 0, 1) := by decide +kernel
theorem dX3_power_3 : decode cX3_power 3 = .ok (.istore_n 3, 1) := by decide +kernel
theorem dX3_power_4 : decode cX3_power 4 = .ok (.iload_n 3, 1) := by decide +kernel
theorem dX3_power_5 : decode cX3_power 5 = .ok (.iload_n 1, 1) := by decide +kernel
theorem dX3_power_6 : decode cX3_power 6 = .ok (.if_icmp .ge 13, 3) := by decide +kernel
theorem dX3_power_9 : decode cX3_power 9 = .ok (.iload_n 2, 1) := by decide +kernel
theorem dX3_power_10 : decode cX3_power 10 = .ok (.iload_n 0, 1) := by decide +kernel
theorem dX3_power_11 : decode cX3_power 11 = .ok (.imul, 1) := by decide +kernel
theorem dX3_power_12 : decode cX3_power 12 = .ok (.istore_n 2, 1) := by decide +kernel
theorem dX3_power_13 : decode cX3_power 13 = .ok (.iinc 3 1, 3) := by decide +kernel
theorem dX3_power_16 : decode cX3_power 16 = .ok (.goto (-12), 3) := by decide +kernel
theorem dX3_power_19 : decode cX3_power 19 = .ok (.iload_n 2, 1) := by decide +kernel
theorem dX3_power_20 : decode cX3_power 20 = .ok (.ireturn, 1) := by decide +kernel
set_option maxRecDepth 20000 in
theorem ggX3_fraction_X3_commonDivisor : GoodIn wsX3_fraction wsX3_commonDivisor := goodIn_r _ [8] rfl (by decide +kernel)
set_option maxRecDepth 20000 in
theorem gX3_fraction_X3_commonDivisor : GoodIn wsX3_fraction (va_wsS RX3 293 yX3_commonDivisor wsX3_commonDivisor) := goodIn_app (goodIn_of _ (by decide +kernel)) ggX3_fraction_X3_commonDivisor
theorem dX3_fraction_0 : decode cX3_fraction 0 = .ok (.iload_n 0, 1) := by decide +kernel
theorem dX3_fraction_1 : decode cX3_fraction 1 = .ok (.invokestatic 288, 3) := by decide +kernel
theorem dX3_fraction_4 : decode cX3_fraction 4 = .ok (.iload_n 1, 1) := by decide +kernel
theorem dX3_fraction_5 : decode cX3_fraction 5 = .ok (.invokestatic 293, 3) := by decide +kernel
theorem dX3_fraction_8 : decode cX3_fraction 8 = .ok (.istore_n 3, 1) := by decide +kernel
theorem dX3_fraction_9 : decode cX3_fraction 9 = .ok (.iload_n 3, 1) := by decide +kernel
theorem dX3_fraction_10 : decode cX3_fraction 10 = .ok (.ifCond .ne 5, 3) := by decide +kernel
theorem dX3_fraction_13 : decode cX3_fraction 13 = .ok (.iconst 0, 1) := by decide +kernel
theorem dX3_fraction_14 : decode cX3_fraction 14 = .ok (.ireturn, 1) := by decide +kernel
theorem dX3_fraction_15 : decode cX3_fraction 15 = .ok (.iload_n 2, 1) := by decide +kernel
theorem dX3_fraction_16 : decode cX3_fraction 16 = .ok (.ifCond .eq 7, 3) := by decide +kernel
theorem dX3_fraction_19 : decode cX3_fraction 19 = .ok (.iload_n 0, 1) := by decide +kernel
theorem dX3_fraction_20 : decode cX3_fraction 20 = .ok (.goto 4, 3) := by decide +kernel
theorem dX3_fraction_23 : decode cX3_fraction 23 = .ok (.iload_n 1, 1) := by decide +kernel
theorem dX3_fraction_24 : decode cX3_fraction 24 = .ok (.iload_n 3, 1) := by decide +kernel
theorem dX3_fraction_25 : decode cX3_fraction 25 = .ok (.idiv, 1) := by decide +kernel
theorem dX3_fraction_26 : decode cX3_fraction 26 = .ok (.ireturn, 1) := by decide +kernel
theorem dX3_commonDivisor_0 : decode cX3_commonDivisor 0 = .ok (.iload_n 0, 1) := by decide +kernel
theorem dX3_commonDivisor_1 : decode cX3_commonDivisor 1 = .ok (.istore_n 2, 1) := by decide +kernel
theorem dX3_commonDivisor_2 : decode cX3_commonDivisor 2 = .ok (.iload_n 1, 1) := by decide +kernel
theorem dX3_commonDivisor_3 : decode cX3_commonDivisor 3 = .ok (.istore_n 3, 1) := by decide +kernel
theorem dX3_commonDivisor_4 : decode cX3_commonDivisor 4 = .ok (.iconst 0, 1) := by decide +kernel
theorem dX3_commonDivisor_5 : decode cX3_commonDivisor 5 = .ok (.istore 4, 2) := by decide +kernel
theorem dX3_commonDivisor_7 : decode cX3_commonDivisor 7 = .ok (.iload 4, 2) := by decide +kernel
theorem dX3_commonDivisor_9 : decode cX3_commonDivisor 9 = .ok (.bipush 64, 2) := by decide +kernel
theorem dX3_commonDivisor_11 : decode cX3_commonDivisor 11 = .ok (.if_icmp .ge 23, 3) := by decide +kernel
theorem dX3_commonDivisor_14 : decode cX3_commonDivisor 14 = .ok (.iload_n 3, 1) := by decide +kernel
theorem dX3_commonDivisor_15 : decode cX3_commonDivisor 15 = .ok (.ifCond .eq 19, 3) := by decide +kernel
theorem dX3_commonDivisor_18 : decode cX3_commonDivisor 18 = .ok (.iload_n 2, 1) := by decide +kernel
theorem dX3_commonDivisor_19 : decode cX3_commonDivisor 19 = .ok (.iload_n 3, 1) := by decide +kernel
theorem dX3_commonDivisor_20 : decode cX3_commonDivisor 20 = .ok (.irem, 1) := by decide +kernel
theorem dX3_commonDivisor_21 : decode cX3_commonDivisor 21 = .ok (.istore 5, 2) := by decide +kernel
theorem dX3_commonDivisor_23 : decode cX3_commonDivisor 23 = .ok (.iload_n 3, 1) := by decide +kernel
theorem dX3_commonDivisor_24 : decode cX3_commonDivisor 24 = .ok (.istore_n 2, 1) := by decide +kernel
theorem dX3_commonDivisor_25 : decode cX3_commonDivisor 25 = .ok (.iload 5, 2) := by decide +kernel
theorem dX3_commonDivisor_27 : decode cX3_commonDivisor 27 = .ok (.istore_n 3, 1) := by decide +kernel
theorem dX3_commonDivisor_28 : decode cX3_commonDivisor 28 = .ok (.iinc 4 1, 3) := by decide +kernel
theorem dX3_commonDivisor_31 : decode cX3_commonDivisor 31 = .ok (.goto (-24), 3) := by decide +kernel
theorem dX3_commonDivisor_34 : decode cX3_commonDivisor 34 = .ok (.iload_n 2, 1) := by decide +kernel
theorem dX3_commonDivisor_35 : decode cX3_commonDivisor 35 = .ok (.ireturn, 1) := by decide +kernel
theorem dJ6_bitCount_0f7a4_0 : decode cJ6_bitCount_0f7a4 0 = .ok (.iload_n 0, 1) := by decide +kernel
theorem dJ6_bitCount_0f7a4_1 : decode cJ6_bitCount_0f7a4 1 = .ok (.iload_n 0, 1) := by decide +kernel
theorem dJ6_bitCount_0f7a4_2 : decode cJ6_bitCount_0f7a4 2 = .ok (.iconst 1, 1) := by decide +kernel
theorem dJ6_bitCount_0f7a4_3 : decode cJ6_bitCount_0f7a4 3 = .ok (.iushr, 1) := by decide +kernel
theorem dJ6_bitCount_0f7a4_4 : decode cJ6_bitCount_0f7a4 4 = .ok (.ldc_w 265, 3) := by decide +kernel
theorem dJ6_bitCount_0f7a4_7 : decode cJ6_bitCount_0f7a4 7 = .ok (.iand, 1) := by decide +kernel
theorem dJ6_bitCount_0f7a4_8 : decode cJ6_bitCount_0f7a4 8 = .ok (.isub, 1) := by decide +kernel
theorem dJ6_bitCount_0f7a4_9 : decode cJ6_bitCount_0f7a4 9 = .ok (.istore_n 0, 1) := by decide +kernel
theorem dJ6_bitCount_0f7a4_10 : decode cJ6_bitCount_0f7a4 10 = .ok (.iload_n 0, 1) := by decide +kernel
theorem dJ6_bitCount_0f7a4_11 : decode cJ6_bitCount_0f7a4 11 = .ok (.ldc_w 266, 3) := by decide +kernel
theorem dJ6_bitCount_0f7a4_14 : decode cJ6_bitCount_0f7a4 14 = .ok (.iand, 1) := by decide +kernel
theorem dJ6_bitCount_0f7a4_15 : decode cJ6_bitCount_0f7a4 15 = .ok (.iload_n 0, 1) := by decide +kernel
theorem dJ6_bitCount_0f7a4_16 : decode cJ6_bitCount_0f7a4 16 = .ok (.iconst 2, 1) := by decide +kernel
theorem dJ6_bitCount_0f7a4_17 : decode cJ6_bitCount_0f7a4 17 = .ok (.iushr, 1) := by decide +kernel
theorem dJ6_bitCount_0f7a4_18 : decode cJ6_bitCount_0f7a4 18 = .ok (.ldc_w 266, 3) := by decide +kernel
theorem dJ6_bitCount_0f7a4_21 : decode cJ6_bitCount_0f7a4 21 = .ok (.iand, 1) := by decide +kernel
theorem dJ6_bitCount_0f7a4_22 : decode cJ6_bitCount_0f7a4 22 = .ok (.iadd, 1) := by decide +kernel
theorem dJ6_bitCount_0f7a4_23 : decode cJ6_bitCount_0f7a4 23 = .ok (.istore_n 0, 1) := by decide +kernel
theorem dJ6_bitCount_0f7a4_24 : decode cJ6_bitCount_0f7a4 24 = .ok (.iload_n 0, 1) := by decide +kernel
theorem dJ6_bitCount_0f7a4_25 : decode cJ6_bitCount_0f7a4 25 = .ok (.iload_n 0, 1) := by decide +kernel
theorem dJ6_bitCount_0f7a4_26 : decode cJ6_bitCount_0f7a4 26 = .ok (.iconst 4, 1) := by decide +kernel
theorem dJ6_bitCount_0f7a4_27 : decode cJ6_bitCount_0f7a4 27 = .ok (.iushr, 1) := by decide +kernel
theorem dJ6_bitCount_0f7a4_28 : decode cJ6_bitCount_0f7a4 28 = .ok (.iadd, 1) := by decide +kernel
theorem dJ6_bitCount_0f7a4_29 : decode cJ6_bitCount_0f7a4 29 = .ok (.ldc_w 267, 3) := by decide +kernel
theorem dJ6_bitCount_0f7a4_32 : decode cJ6_bitCount_0f7a4 32 = .ok (.iand, 1) := by decide +kernel
theorem dJ6_bitCount_0f7a4_33 : decode cJ6_bitCount_0f7a4 33 = .ok (.istore_n 0, 1) := by decide +kernel
theorem dJ6_bitCount_0f7a4_34 : decode cJ6_bitCount_0f7a4 34 = .ok (.iload_n 0, 1) := by decide +kernel
theorem dJ6_bitCount_0f7a4_35 : decode cJ6_bitCount_0f7a4 35 = .ok (.iload_n 0, 1) := by decide +kernel
theorem dJ6_bitCount_0f7a4_36 : decode cJ6_bitCount_0f7a4 36 = .ok (.bipush 8, 2) := by decide +kernel
theorem dJ6_bitCount_0f7a4_38 : decode cJ6_bitCount_0f7a4 38 = .ok (.iushr, 1) := by decide +kernel
theorem dJ6_bitCount_0f7a4_39 : decode cJ6_bitCount_0f7a4 39 = .ok (.iadd, 1) := by decide +kernel
theorem dJ6_bitCount_0f7a4_40 : decode cJ6_bitCount_0f7a4 40 = .ok (.istore_n 0, 1) := by decide +kernel
theorem dJ6_bitCount_0f7a4_41 : decode cJ6_bitCount_0f7a4 41 = .ok (.iload_n 0, 1) := by decide +kernel
theorem dJ6_bitCount_0f7a4_42 : decode cJ6_bitCount_0f7a4 42 = .ok (.iload_n 0, 1) := by decide +kernel
theorem dJ6_bitCount_0f7a4_43 : decode cJ6_bitCount_0f7a4 43 = .ok (.bipush 16, 2) := by decide +kernel
theorem dJ6_bitCount_0f7a4_45 : decode cJ6_bitCount_0f7a4 45 = .ok (.iushr, 1) := by decide +kernel
theorem dJ6_bitCount_0f7a4_46 : decode cJ6_bitCount_0f7a4 46 = .ok (.iadd, 1) := by decide +kernel
theorem dJ6_bitCount_0f7a4_47 : decode cJ6_bitCount_0f7a4 47 = .ok (.istore_n 0, 1) := by decide +kernel
theorem dJ6_bitCount_0f7a4_48 : decode cJ6_bitCount_0f7a4 48 = .ok (.iload_n 0, 1) := by decide +kernel
theorem dJ6_bitCount_0f7a4_49 : decode cJ6_bitCount_0f7a4 49 = .ok (.bipush 63, 2) := by decide +kernel
theorem dJ6_bitCount_0f7a4_51 : decode cJ6_bitCount_0f7a4 51 = .ok (.iand, 1) := by decide +kernel
theorem dJ6_bitCount_0f7a4_52 : decode cJ6_bitCount_0f7a4 52 = .ok (.ireturn, 1) := by decide +kernel
set_option maxHeartbeats 600000 in
set_option maxRecDepth 100000 in
theorem c_X1_from (l : Launch) (D : va_G) (cI cZ cM : ClassId) (h0 : Nat) (n : Int32) (ln : Nat) (md : Int32) (mt : Int32) (mr : Int32) (mg : Int32) (mat : Nat) (mfd : Nat) (mhd : Nat) (lpe : Int32) (ltk : Int32) (lho : Nat) (lli : Nat) (lki : Nat) (lfd : Nat) (lfr : Nat) (lto : Nat) (lse : Nat) (lhl : Nat) (lFto : Nat → Int32) (lFfr : Nat → Int32) (sz : Nat) (h_n : 0 ≤ n.toInt ∧ n.toInt ≤ 6) : Ci l yX1_from wsX1_from ({ frames := 1, cells := 0, slots := 0, locals := 21 } : Room) D cI cZ cM [.ref h0, .int n] [(h0, .inr (1, [.ref ln, .int md, .int mt, .int mr, .int mg, .ref mat, .ref mfd, .ref mhd])), (ln, .inr (0, [.int lpe, .int ltk, .ref lho, .ref lli, .ref lki, .ref lfd, .ref lfr, .ref lto, .ref lse, .ref lhl])), (lto, .inl (cI, 7, .inl lFto)), (lfr, .inl (cI, 7, .inl lFfr))] sz (fun (r : Int32) (u : Unit) => True) (fun u => [(h0, .inr (1, [.ref ln, .int md, .int mt, .int mr, .int mg, .ref mat, .ref mfd, .ref mhd])), (ln, .inr (0, [.int lpe, .int ltk, .ref lho, .ref lli, .ref lki, .ref lfd, .ref lfr, .ref lto, .ref lse, .ref lhl])), (lto, .inl (cI, 7, .inl lFto)), (lfr, .inl (cI, 7, .inl lFfr))]) 0 0 := by
  refine begins (l := l) (y := yX1_from) (ws := wsX1_from) (av := [.ref h0, .int n]) (Qc := fun A => va_Qi (fun (r : Int32) (u : Unit) => True) (fun u => Wd D cI cZ cM A ((fun u => [(h0, .inr (1, [.ref ln, .int md, .int mt, .int mr, .int mg, .ref mat, .ref mfd, .ref mhd])), (ln, .inr (0, [.int lpe, .int ltk, .ref lho, .ref lli, .ref lki, .ref lfd, .ref lfr, .ref lto, .ref lse, .ref lhl])), (lto, .inl (cI, 7, .inl lFto)), (lfr, .inl (cI, 7, .inl lFfr))]) u)) A) cX1_from 2 (some .int) (by decide) rfl (Nat.le_of_ble_eq_true rfl) ?_
  intro p e s m args below meth c R Q A ls hBd hR hQ hA hS hK hP hD hl
  obtain ⟨hx, hb, hr, hts, hown, hlocks, hin, hml⟩ := hBd
  have hl : lv_has ls 2 [(0, .ref h0), (1, .int n)] := hl
  have iX1 : ∀ w ∈ wsX10, w ∈ wsX1_from := fun _ h => List.mem_cons_of_mem _ (List.mem_append_left _ (List.mem_append_right _ h))
  have iX0 : ∀ w ∈ wsX00, w ∈ wsX1_from := fun _ h => List.mem_cons_of_mem _ (List.mem_append_right _ h)
  obtain ⟨h_na, h_nb⟩ := h_n
  refine lv_aload_n hx hb dX1_from_0 rfl (lv_at hl 0 rfl) ?_
  refine lv_iload_n hx hb dX1_from_1 rfl (lv_at hl 1 rfl) ?_
  refine cV_i (As := [.int n]) (rest := []) ⟨hx, hb, hml, hown, hts⟩ (c_X1_isReturn l D cI cZ cM h0 n ln md mt mr mg mat mfd mhd _ ) (cwV 1 hts gX1_from_X1_isReturn rfl rfl rfl (by decide +kernel) ⟨by rw [hR]; decide, by rw [hR]; decide⟩) hK hP hD hS hA [0] [1, 2, 3] rfl rfl (by decide) (by decide) (by decide) rfl 0 rfl hl.1 rfl rfl (Nat.le_of_ble_eq_true rfl) dX1_from_2 ⟨by rw [hR]; decide, by rw [hR]; decide⟩ (fun r_1 u_2 H locs hw hP hD hS => ?_)
  have hP : va_P D vwCl [(h0, .inr (1, [.ref ln, .int md, .int mt, .int mr, .int mg, .ref mat, .ref mfd, .ref mhd])), (ln, .inr (0, [.int lpe, .int ltk, .ref lho, .ref lli, .ref lki, .ref lfd, .ref lfr, .ref lto, .ref lse, .ref lhl])), (lto, .inl (cI, 7, .inl lFto)), (lfr, .inl (cI, 7, .inl lFfr))] H := hP.sub [3, 0, 1, 2] rfl
  have hD : va_D A [(h0, .inr (1, [.ref ln, .int md, .int mt, .int mr, .int mg, .ref mat, .ref mfd, .ref mhd])), (ln, .inr (0, [.int lpe, .int ltk, .ref lho, .ref lli, .ref lki, .ref lfd, .ref lfr, .ref lto, .ref lse, .ref lhl])), (lto, .inl (cI, 7, .inl lFto)), (lfr, .inl (cI, 7, .inl lFfr))] := hD.sub [3, 0, 1, 2] (by decide) rfl
  refine W.widen (k := 0) (n := 0) (Nat.le_refl _) (Nat.le_refl _) ?_
  have hw : (r_1.toInt = 0 ∨ r_1.toInt = 1) := hw
  have hw_3 := hw
  refine lv_if_eq (tgt := 20) hx hb dX1_from_5 (by decide) (fun c_4 => ?_) (fun c_4 => ?_)
  · have tc_4 := b_eq rfl (show (0 : Int32).toInt = 0 by decide) c_4
    refine lv_aload_n hx hb dX1_from_20 rfl (lv_at hl 0 rfl) ?_
    refine va_get (D := D) (ci := 1) (v := .ref ln) (C := RX1) (T := TX1) (N := 8) hx hb hts iX1 hown hK hP 0 rfl rfl 0 (by decide) (hts (.fieldLink RX1 34 "PunchedTicket$Moment" "line" "LPunchedTicket$Line;") (List.mem_of_getElem? (i := 1) rfl)) (fun _ h9 => h9) rfl dX1_from_21 ?_
    refine va_get (D := D) (ci := 0) (v := .ref lfr) (C := RX0) (T := TX0) (N := 10) hx hb hts iX0 hown hK hP 1 rfl rfl 6 (by decide) (hts (.fieldLink RX1 59 "PunchedTicket$Line" "from" "[I") (List.mem_of_getElem? (i := 3) rfl)) (fun _ h9 => h9) rfl dX1_from_24 ?_
    refine lv_iload_n hx hb dX1_from_27 rfl (lv_at hl 1 rfl) ?_
    refine va_iald hx hb hK hP 3 0 rfl rfl (vp_in_iff.mpr ⟨by omega, by omega⟩) dX1_from_28 ?_
    refine lv_topi (fun v_5 ev_5 => ?_)
    exact ret_i (post := (fun (r : Int32) (u : Unit) => True)) (W1 := (fun u => [(h0, .inr (1, [.ref ln, .int md, .int mt, .int mr, .int mg, .ref mat, .ref mfd, .ref mhd])), (ln, .inr (0, [.int lpe, .int ltk, .ref lho, .ref lli, .ref lki, .ref lfd, .ref lfr, .ref lto, .ref lse, .ref lhl])), (lto, .inl (cI, 7, .inl lFto)), (lfr, .inl (cI, 7, .inl lFfr))])) () hx hb hr hlocks rfl hQ hK hP hD hS ⟨by decide, by decide⟩ dX1_from_29 trivial
  · have tc_4 := b_ne rfl (show (0 : Int32).toInt = 0 by decide) c_4
    refine lv_aload_n hx hb dX1_from_8 rfl (lv_at hl 0 rfl) ?_
    refine va_get (D := D) (ci := 1) (v := .ref ln) (C := RX1) (T := TX1) (N := 8) hx hb hts iX1 hown hK hP 0 rfl rfl 0 (by decide) (hts (.fieldLink RX1 34 "PunchedTicket$Moment" "line" "LPunchedTicket$Line;") (List.mem_of_getElem? (i := 1) rfl)) (fun _ h9 => h9) rfl dX1_from_9 ?_
    refine va_get (D := D) (ci := 0) (v := .ref lto) (C := RX0) (T := TX0) (N := 10) hx hb hts iX0 hown hK hP 1 rfl rfl 7 (by decide) (hts (.fieldLink RX1 56 "PunchedTicket$Line" "to" "[I") (List.mem_of_getElem? (i := 2) rfl)) (fun _ h9 => h9) rfl dX1_from_12 ?_
    refine lv_iload_n hx hb dX1_from_15 rfl (lv_at hl 1 rfl) ?_
    refine va_iald hx hb hK hP 2 0 rfl rfl (vp_in_iff.mpr ⟨by omega, by omega⟩) dX1_from_16 ?_
    refine lv_topi (fun v_6 ev_6 => ?_)
    refine lv_goto (tgt := 29) hx hb dX1_from_17 (by decide) ?_
    exact ret_i (post := (fun (r : Int32) (u : Unit) => True)) (W1 := (fun u => [(h0, .inr (1, [.ref ln, .int md, .int mt, .int mr, .int mg, .ref mat, .ref mfd, .ref mhd])), (ln, .inr (0, [.int lpe, .int ltk, .ref lho, .ref lli, .ref lki, .ref lfd, .ref lfr, .ref lto, .ref lse, .ref lhl])), (lto, .inl (cI, 7, .inl lFto)), (lfr, .inl (cI, 7, .inl lFfr))])) () hx hb hr hlocks rfl hQ hK hP hD hS ⟨by decide, by decide⟩ dX1_from_29 trivial

set_option maxHeartbeats 600000 in
set_option maxRecDepth 100000 in
theorem c_X1_notGone (l : Launch) (D : va_G) (cI cZ cM : ClassId) (h0 : Nat) (ln : Nat) (md : Int32) (mt : Int32) (mr : Int32) (mg : Int32) (mat : Nat) (mfd : Nat) (mhd : Nat) (sz : Nat)  : Ci l yX1_notGone wsX1_notGone ({ frames := 0, cells := 0, slots := 0, locals := 0 } : Room) D cI cZ cM [.ref h0] [(h0, .inr (1, [.ref ln, .int md, .int mt, .int mr, .int mg, .ref mat, .ref mfd, .ref mhd]))] sz (fun (r : Int32) (u : Unit) => True) (fun u => [(h0, .inr (1, [.ref ln, .int md, .int mt, .int mr, .int mg, .ref mat, .ref mfd, .ref mhd]))]) 0 0 := by
  refine begins (l := l) (y := yX1_notGone) (ws := wsX1_notGone) (av := [.ref h0]) (Qc := fun A => va_Qi (fun (r : Int32) (u : Unit) => True) (fun u => Wd D cI cZ cM A ((fun u => [(h0, .inr (1, [.ref ln, .int md, .int mt, .int mr, .int mg, .ref mat, .ref mfd, .ref mhd]))]) u)) A) cX1_notGone 1 (some .int) (by decide) rfl (Nat.le_of_ble_eq_true rfl) ?_
  intro p e s m args below meth c R Q A ls hBd hR hQ hA hS hK hP hD hl
  obtain ⟨hx, hb, hr, hts, hown, hlocks, hin, hml⟩ := hBd
  have hl : lv_has ls 1 [(0, .ref h0)] := hl
  have iX1 : ∀ w ∈ wsX10, w ∈ wsX1_notGone := fun _ h => List.mem_cons_of_mem _ (List.mem_append_right _ h)
  refine lv_aload_n hx hb dX1_notGone_0 rfl (lv_at hl 0 rfl) ?_
  refine va_get (D := D) (ci := 1) (v := .int mg) (C := RX1) (T := TX1) (N := 8) hx hb hts iX1 hown hK hP 0 rfl rfl 4 (by decide) (hts (.fieldLink RX1 21 "PunchedTicket$Moment" "gone" "I") (List.mem_of_getElem? (i := 1) rfl)) (fun _ h9 => h9) rfl dX1_notGone_1 ?_
  refine lv_iconst (v := (-1)) hx hb dX1_notGone_4 (by decide) ?_
  refine lv_ixor hx hb dX1_notGone_5 ?_
  refine lv_topi (fun v_1 ev_1 => ?_)
  refine lv_iconst (v := 1) hx hb dX1_notGone_6 (by decide) ?_
  refine lv_aload_n hx hb dX1_notGone_7 rfl (lv_at hl 0 rfl) ?_
  refine va_get (D := D) (ci := 1) (v := .int mt) (C := RX1) (T := TX1) (N := 8) hx hb hts iX1 hown hK hP 0 rfl rfl 2 (by decide) (hts (.fieldLink RX1 15 "PunchedTicket$Moment" "tickets" "I") (List.mem_of_getElem? (i := 2) rfl)) (fun _ h9 => h9) rfl dX1_notGone_8 ?_
  refine lv_ishl hx hb dX1_notGone_11 ?_
  refine lv_topi (fun v_2 ev_2 => ?_)
  refine lv_iconst (v := 1) hx hb dX1_notGone_12 (by decide) ?_
  refine lv_isub hx hb dX1_notGone_13 ?_
  refine lv_topi (fun v_3 ev_3 => ?_)
  refine lv_iand hx hb dX1_notGone_14 ?_
  refine lv_topi (fun v_4 ev_4 => ?_)
  exact ret_i (post := (fun (r : Int32) (u : Unit) => True)) (W1 := (fun u => [(h0, .inr (1, [.ref ln, .int md, .int mt, .int mr, .int mg, .ref mat, .ref mfd, .ref mhd]))])) () hx hb hr hlocks rfl hQ hK hP hD hS ⟨by decide, by decide⟩ dX1_notGone_15 trivial

set_option maxHeartbeats 600000 in
set_option maxRecDepth 100000 in
theorem c_X1_canBeGiven (l : Launch) (D : va_G) (cI cZ cM : ClassId) (h0 : Nat) (n : Int32) (k : Int32) (ln : Nat) (md : Int32) (mt : Int32) (mr : Int32) (mg : Int32) (mat : Nat) (mfd : Nat) (mhd : Nat) (mFhd : Nat → Int32) (sz : Nat) (h_n : 0 ≤ n.toInt ∧ n.toInt ≤ 6) : Ci l yX1_canBeGiven wsX1_canBeGiven ({ frames := 1, cells := 0, slots := 0, locals := 21 } : Room) D cI cZ cM [.ref h0, .int n, .int k] [(h0, .inr (1, [.ref ln, .int md, .int mt, .int mr, .int mg, .ref mat, .ref mfd, .ref mhd])), (mhd, .inl (cI, 7, .inl mFhd))] sz (fun (r : Int32) (u : Unit) => (r.toInt = 0 ∨ r.toInt = 1)) (fun u => [(h0, .inr (1, [.ref ln, .int md, .int mt, .int mr, .int mg, .ref mat, .ref mfd, .ref mhd])), (mhd, .inl (cI, 7, .inl mFhd))]) 0 0 := by
  refine begins (l := l) (y := yX1_canBeGiven) (ws := wsX1_canBeGiven) (av := [.ref h0, .int n, .int k]) (Qc := fun A => va_Qi (fun (r : Int32) (u : Unit) => (r.toInt = 0 ∨ r.toInt = 1)) (fun u => Wd D cI cZ cM A ((fun u => [(h0, .inr (1, [.ref ln, .int md, .int mt, .int mr, .int mg, .ref mat, .ref mfd, .ref mhd])), (mhd, .inl (cI, 7, .inl mFhd))]) u)) A) cX1_canBeGiven 3 (some .boolean) (by decide) rfl (Nat.le_of_ble_eq_true rfl) ?_
  intro p e s m args below meth c R Q A ls hBd hR hQ hA hS hK hP hD hl
  obtain ⟨hx, hb, hr, hts, hown, hlocks, hin, hml⟩ := hBd
  have hl : lv_has ls 3 [(0, .ref h0), (1, .int n), (2, .int k)] := hl
  have iX1 : ∀ w ∈ wsX10, w ∈ wsX1_canBeGiven := fun _ h => List.mem_cons_of_mem _ (List.mem_append_right _ h)
  obtain ⟨h_na, h_nb⟩ := h_n
  refine lv_aload_n hx hb dX1_canBeGiven_0 rfl (lv_at hl 0 rfl) ?_
  refine lv_iload_n hx hb dX1_canBeGiven_1 rfl (lv_at hl 1 rfl) ?_
  refine cV_i (As := [.int n]) (rest := []) ⟨hx, hb, hml, hown, hts⟩ (c_X1_isGone l D cI cZ cM h0 n ln md mt mr mg mat mfd mhd _ ) (cwV 1 hts gX1_canBeGiven_X1_isGone rfl rfl rfl (by decide +kernel) ⟨by rw [hR]; decide, by rw [hR]; decide⟩) hK hP hD hS hA [0] [1] rfl rfl (by decide) (by decide) (by decide) rfl 0 rfl hl.1 rfl rfl (Nat.le_of_ble_eq_true rfl) dX1_canBeGiven_2 ⟨by rw [hR]; decide, by rw [hR]; decide⟩ (fun r_1 u_2 H locs hw hP hD hS => ?_)
  have hP : va_P D vwCl [(h0, .inr (1, [.ref ln, .int md, .int mt, .int mr, .int mg, .ref mat, .ref mfd, .ref mhd])), (mhd, .inl (cI, 7, .inl mFhd))] H := hP.sub [1, 0] rfl
  have hD : va_D A [(h0, .inr (1, [.ref ln, .int md, .int mt, .int mr, .int mg, .ref mat, .ref mfd, .ref mhd])), (mhd, .inl (cI, 7, .inl mFhd))] := hD.sub [1, 0] (by decide) rfl
  refine W.widen (k := 0) (n := 0) (Nat.le_refl _) (Nat.le_refl _) ?_
  have hw : (r_1.toInt = 0 ∨ r_1.toInt = 1) := hw
  have hw_3 := hw
  refine lv_if_ne (tgt := 22) hx hb dX1_canBeGiven_5 (by decide) (fun c_4 => ?_) (fun c_4 => ?_)
  · have tc_4 := b_ne rfl (show (0 : Int32).toInt = 0 by decide) c_4
    refine lv_iconst (v := 0) hx hb dX1_canBeGiven_22 (by decide) ?_
    exact ret_i (post := (fun (r : Int32) (u : Unit) => (r.toInt = 0 ∨ r.toInt = 1))) (W1 := (fun u => [(h0, .inr (1, [.ref ln, .int md, .int mt, .int mr, .int mg, .ref mat, .ref mfd, .ref mhd])), (mhd, .inl (cI, 7, .inl mFhd))])) () hx hb hr hlocks rfl hQ hK hP hD hS ⟨by decide, by decide⟩ dX1_canBeGiven_23 (show ((0 : Int) = 0 ∨ (0 : Int) = 1) by omega)
  · have tc_4 := b_eq rfl (show (0 : Int32).toInt = 0 by decide) c_4
    refine lv_aload_n hx hb dX1_canBeGiven_8 rfl (lv_at hl 0 rfl) ?_
    refine va_get (D := D) (ci := 1) (v := .ref mhd) (C := RX1) (T := TX1) (N := 8) hx hb hts iX1 hown hK hP 0 rfl rfl 7 (by decide) (hts (.fieldLink RX1 31 "PunchedTicket$Moment" "holder" "[I") (List.mem_of_getElem? (i := 1) rfl)) (fun _ h9 => h9) rfl dX1_canBeGiven_9 ?_
    refine lv_iload_n hx hb dX1_canBeGiven_12 rfl (lv_at hl 1 rfl) ?_
    refine va_iald hx hb hK hP 1 0 rfl rfl (vp_in_iff.mpr ⟨by omega, by omega⟩) dX1_canBeGiven_13 ?_
    refine lv_topi (fun v_5 ev_5 => ?_)
    refine lv_iload_n hx hb dX1_canBeGiven_14 rfl (lv_at hl 2 rfl) ?_
    refine lv_icmp_eq (tgt := 22) hx hb dX1_canBeGiven_15 (by decide) (fun c_6 => ?_) (fun c_6 => ?_)
    · have tc_6 := b_eq rfl rfl c_6
      refine lv_iconst (v := 0) hx hb dX1_canBeGiven_22 (by decide) ?_
      exact ret_i (post := (fun (r : Int32) (u : Unit) => (r.toInt = 0 ∨ r.toInt = 1))) (W1 := (fun u => [(h0, .inr (1, [.ref ln, .int md, .int mt, .int mr, .int mg, .ref mat, .ref mfd, .ref mhd])), (mhd, .inl (cI, 7, .inl mFhd))])) () hx hb hr hlocks rfl hQ hK hP hD hS ⟨by decide, by decide⟩ dX1_canBeGiven_23 (show ((0 : Int) = 0 ∨ (0 : Int) = 1) by omega)
    · have tc_6 := b_ne rfl rfl c_6
      refine lv_iconst (v := 1) hx hb dX1_canBeGiven_18 (by decide) ?_
      refine lv_goto (tgt := 23) hx hb dX1_canBeGiven_19 (by decide) ?_
      exact ret_i (post := (fun (r : Int32) (u : Unit) => (r.toInt = 0 ∨ r.toInt = 1))) (W1 := (fun u => [(h0, .inr (1, [.ref ln, .int md, .int mt, .int mr, .int mg, .ref mat, .ref mfd, .ref mhd])), (mhd, .inl (cI, 7, .inl mFhd))])) () hx hb hr hlocks rfl hQ hK hP hD hS ⟨by decide, by decide⟩ dX1_canBeGiven_23 (show ((1 : Int) = 0 ∨ (1 : Int) = 1) by omega)

set_option maxHeartbeats 600000 in
set_option maxRecDepth 100000 in
theorem c_X1_canBeChanged (l : Launch) (D : va_G) (cI cZ cM : ClassId) (h0 : Nat) (n : Int32) (k : Int32) (ln : Nat) (md : Int32) (mt : Int32) (mr : Int32) (mg : Int32) (mat : Nat) (mfd : Nat) (mhd : Nat) (mFhd : Nat → Int32) (sz : Nat) (h_n : 0 ≤ n.toInt ∧ n.toInt ≤ 6) (h_k : 0 ≤ k.toInt ∧ k.toInt ≤ 6) : Ci l yX1_canBeChanged wsX1_canBeChanged ({ frames := 1, cells := 0, slots := 0, locals := 21 } : Room) D cI cZ cM [.ref h0, .int n, .int k] [(h0, .inr (1, [.ref ln, .int md, .int mt, .int mr, .int mg, .ref mat, .ref mfd, .ref mhd])), (mhd, .inl (cI, 7, .inl mFhd))] sz (fun (r : Int32) (u : Unit) => (r.toInt = 0 ∨ r.toInt = 1)) (fun u => [(h0, .inr (1, [.ref ln, .int md, .int mt, .int mr, .int mg, .ref mat, .ref mfd, .ref mhd])), (mhd, .inl (cI, 7, .inl mFhd))]) 0 0 := by
  refine begins (l := l) (y := yX1_canBeChanged) (ws := wsX1_canBeChanged) (av := [.ref h0, .int n, .int k]) (Qc := fun A => va_Qi (fun (r : Int32) (u : Unit) => (r.toInt = 0 ∨ r.toInt = 1)) (fun u => Wd D cI cZ cM A ((fun u => [(h0, .inr (1, [.ref ln, .int md, .int mt, .int mr, .int mg, .ref mat, .ref mfd, .ref mhd])), (mhd, .inl (cI, 7, .inl mFhd))]) u)) A) cX1_canBeChanged 3 (some .boolean) (by decide) rfl (Nat.le_of_ble_eq_true rfl) ?_
  intro p e s m args below meth c R Q A ls hBd hR hQ hA hS hK hP hD hl
  obtain ⟨hx, hb, hr, hts, hown, hlocks, hin, hml⟩ := hBd
  have hl : lv_has ls 3 [(0, .ref h0), (1, .int n), (2, .int k)] := hl
  have iX1 : ∀ w ∈ wsX10, w ∈ wsX1_canBeChanged := fun _ h => List.mem_cons_of_mem _ (List.mem_append_right _ h)
  obtain ⟨h_na, h_nb⟩ := h_n
  obtain ⟨h_ka, h_kb⟩ := h_k
  refine lv_aload_n hx hb dX1_canBeChanged_0 rfl (lv_at hl 0 rfl) ?_
  refine lv_iload_n hx hb dX1_canBeChanged_1 rfl (lv_at hl 1 rfl) ?_
  refine cV_i (As := [.int n]) (rest := []) ⟨hx, hb, hml, hown, hts⟩ (c_X1_isGone l D cI cZ cM h0 n ln md mt mr mg mat mfd mhd _ ) (cwV 1 hts gX1_canBeChanged_X1_isGone rfl rfl rfl (by decide +kernel) ⟨by rw [hR]; decide, by rw [hR]; decide⟩) hK hP hD hS hA [0] [1] rfl rfl (by decide) (by decide) (by decide) rfl 0 rfl hl.1 rfl rfl (Nat.le_of_ble_eq_true rfl) dX1_canBeChanged_2 ⟨by rw [hR]; decide, by rw [hR]; decide⟩ (fun r_1 u_2 H locs hw hP hD hS => ?_)
  have hP : va_P D vwCl [(h0, .inr (1, [.ref ln, .int md, .int mt, .int mr, .int mg, .ref mat, .ref mfd, .ref mhd])), (mhd, .inl (cI, 7, .inl mFhd))] H := hP.sub [1, 0] rfl
  have hD : va_D A [(h0, .inr (1, [.ref ln, .int md, .int mt, .int mr, .int mg, .ref mat, .ref mfd, .ref mhd])), (mhd, .inl (cI, 7, .inl mFhd))] := hD.sub [1, 0] (by decide) rfl
  refine W.widen (k := 0) (n := 0) (Nat.le_refl _) (Nat.le_refl _) ?_
  have hw : (r_1.toInt = 0 ∨ r_1.toInt = 1) := hw
  have hw_3 := hw
  refine lv_if_ne (tgt := 35) hx hb dX1_canBeChanged_5 (by decide) (fun c_4 => ?_) (fun c_4 => ?_)
  · have tc_4 := b_ne rfl (show (0 : Int32).toInt = 0 by decide) c_4
    refine lv_iconst (v := 0) hx hb dX1_canBeChanged_35 (by decide) ?_
    exact ret_i (post := (fun (r : Int32) (u : Unit) => (r.toInt = 0 ∨ r.toInt = 1))) (W1 := (fun u => [(h0, .inr (1, [.ref ln, .int md, .int mt, .int mr, .int mg, .ref mat, .ref mfd, .ref mhd])), (mhd, .inl (cI, 7, .inl mFhd))])) () hx hb hr hlocks rfl hQ hK hP hD hS ⟨by decide, by decide⟩ dX1_canBeChanged_36 (show ((0 : Int) = 0 ∨ (0 : Int) = 1) by omega)
  · have tc_4 := b_eq rfl (show (0 : Int32).toInt = 0 by decide) c_4
    refine lv_aload_n hx hb dX1_canBeChanged_8 rfl (lv_at hl 0 rfl) ?_
    refine lv_iload_n hx hb dX1_canBeChanged_9 rfl (lv_at hl 2 rfl) ?_
    refine cV_i (As := [.int k]) (rest := []) ⟨hx, hb, hml, hown, hts⟩ (c_X1_isGone l D cI cZ cM h0 k ln md mt mr mg mat mfd mhd _ ) (cwV 1 hts gX1_canBeChanged_X1_isGone rfl rfl rfl (by decide +kernel) ⟨by rw [hR]; decide, by rw [hR]; decide⟩) hK hP hD hS hA [0] [1] rfl rfl (by decide) (by decide) (by decide) rfl 0 rfl hl.1 rfl rfl (Nat.le_of_ble_eq_true rfl) dX1_canBeChanged_10 ⟨by rw [hR]; decide, by rw [hR]; decide⟩ (fun r_5 u_6 H locs hw hP hD hS => ?_)
    have hP : va_P D vwCl [(h0, .inr (1, [.ref ln, .int md, .int mt, .int mr, .int mg, .ref mat, .ref mfd, .ref mhd])), (mhd, .inl (cI, 7, .inl mFhd))] H := hP.sub [1, 0] rfl
    have hD : va_D A [(h0, .inr (1, [.ref ln, .int md, .int mt, .int mr, .int mg, .ref mat, .ref mfd, .ref mhd])), (mhd, .inl (cI, 7, .inl mFhd))] := hD.sub [1, 0] (by decide) rfl
    refine W.widen (k := 0) (n := 0) (Nat.le_refl _) (Nat.le_refl _) ?_
    have hw : (r_5.toInt = 0 ∨ r_5.toInt = 1) := hw
    have hw_7 := hw
    refine lv_if_ne (tgt := 35) hx hb dX1_canBeChanged_13 (by decide) (fun c_8 => ?_) (fun c_8 => ?_)
    · have tc_8 := b_ne rfl (show (0 : Int32).toInt = 0 by decide) c_8
      refine lv_iconst (v := 0) hx hb dX1_canBeChanged_35 (by decide) ?_
      exact ret_i (post := (fun (r : Int32) (u : Unit) => (r.toInt = 0 ∨ r.toInt = 1))) (W1 := (fun u => [(h0, .inr (1, [.ref ln, .int md, .int mt, .int mr, .int mg, .ref mat, .ref mfd, .ref mhd])), (mhd, .inl (cI, 7, .inl mFhd))])) () hx hb hr hlocks rfl hQ hK hP hD hS ⟨by decide, by decide⟩ dX1_canBeChanged_36 (show ((0 : Int) = 0 ∨ (0 : Int) = 1) by omega)
    · have tc_8 := b_eq rfl (show (0 : Int32).toInt = 0 by decide) c_8
      refine lv_aload_n hx hb dX1_canBeChanged_16 rfl (lv_at hl 0 rfl) ?_
      refine va_get (D := D) (ci := 1) (v := .ref mhd) (C := RX1) (T := TX1) (N := 8) hx hb hts iX1 hown hK hP 0 rfl rfl 7 (by decide) (hts (.fieldLink RX1 31 "PunchedTicket$Moment" "holder" "[I") (List.mem_of_getElem? (i := 1) rfl)) (fun _ h9 => h9) rfl dX1_canBeChanged_17 ?_
      refine lv_iload_n hx hb dX1_canBeChanged_20 rfl (lv_at hl 1 rfl) ?_
      refine va_iald hx hb hK hP 1 0 rfl rfl (vp_in_iff.mpr ⟨by omega, by omega⟩) dX1_canBeChanged_21 ?_
      refine lv_topi (fun v_9 ev_9 => ?_)
      refine lv_aload_n hx hb dX1_canBeChanged_22 rfl (lv_at hl 0 rfl) ?_
      refine va_get (D := D) (ci := 1) (v := .ref mhd) (C := RX1) (T := TX1) (N := 8) hx hb hts iX1 hown hK hP 0 rfl rfl 7 (by decide) (hts (.fieldLink RX1 31 "PunchedTicket$Moment" "holder" "[I") (List.mem_of_getElem? (i := 1) rfl)) (fun _ h9 => h9) rfl dX1_canBeChanged_23 ?_
      refine lv_iload_n hx hb dX1_canBeChanged_26 rfl (lv_at hl 2 rfl) ?_
      refine va_iald hx hb hK hP 1 0 rfl rfl (vp_in_iff.mpr ⟨by omega, by omega⟩) dX1_canBeChanged_27 ?_
      refine lv_topi (fun v_10 ev_10 => ?_)
      refine lv_icmp_eq (tgt := 35) hx hb dX1_canBeChanged_28 (by decide) (fun c_11 => ?_) (fun c_11 => ?_)
      · have tc_11 := b_eq rfl rfl c_11
        refine lv_iconst (v := 0) hx hb dX1_canBeChanged_35 (by decide) ?_
        exact ret_i (post := (fun (r : Int32) (u : Unit) => (r.toInt = 0 ∨ r.toInt = 1))) (W1 := (fun u => [(h0, .inr (1, [.ref ln, .int md, .int mt, .int mr, .int mg, .ref mat, .ref mfd, .ref mhd])), (mhd, .inl (cI, 7, .inl mFhd))])) () hx hb hr hlocks rfl hQ hK hP hD hS ⟨by decide, by decide⟩ dX1_canBeChanged_36 (show ((0 : Int) = 0 ∨ (0 : Int) = 1) by omega)
      · have tc_11 := b_ne rfl rfl c_11
        refine lv_iconst (v := 1) hx hb dX1_canBeChanged_31 (by decide) ?_
        refine lv_goto (tgt := 36) hx hb dX1_canBeChanged_32 (by decide) ?_
        exact ret_i (post := (fun (r : Int32) (u : Unit) => (r.toInt = 0 ∨ r.toInt = 1))) (W1 := (fun u => [(h0, .inr (1, [.ref ln, .int md, .int mt, .int mr, .int mg, .ref mat, .ref mfd, .ref mhd])), (mhd, .inl (cI, 7, .inl mFhd))])) () hx hb hr hlocks rfl hQ hK hP hD hS ⟨by decide, by decide⟩ dX1_canBeChanged_36 (show ((1 : Int) = 0 ∨ (1 : Int) = 1) by omega)

set_option maxHeartbeats 600000 in
set_option maxRecDepth 100000 in
theorem c_X1_swapHolders (l : Launch) (D : va_G) (cI cZ cM : ClassId) (h0 : Nat) (n : Int32) (k : Int32) (ln : Nat) (md : Int32) (mt : Int32) (mr : Int32) (mg : Int32) (mat : Nat) (mfd : Nat) (mhd : Nat) (mFhd : Nat → Int32) (sz : Nat) (h_n : 0 ≤ n.toInt ∧ n.toInt ≤ 6) (h_k : 0 ≤ k.toInt ∧ k.toInt ≤ 6) : Cv l yX1_swapHolders wsX1_swapHolders ({ frames := 0, cells := 0, slots := 0, locals := 0 } : Room) D cI cZ cM [.ref h0, .int n, .int k] [(h0, .inr (1, [.ref ln, .int md, .int mt, .int mr, .int mg, .ref mat, .ref mfd, .ref mhd])), (mhd, .inl (cI, 7, .inl mFhd))] sz (fun (u : (Nat → Int32)) => True) (fun u => [(h0, .inr (1, [.ref ln, .int md, .int mt, .int mr, .int mg, .ref mat, .ref mfd, .ref mhd])), (mhd, .inl (cI, 7, .inl u))]) 0 0 := by
  refine begins (l := l) (y := yX1_swapHolders) (ws := wsX1_swapHolders) (av := [.ref h0, .int n, .int k]) (Qc := fun A => va_Qv (fun (u : (Nat → Int32)) => True) (fun u => Wd D cI cZ cM A ((fun u => [(h0, .inr (1, [.ref ln, .int md, .int mt, .int mr, .int mg, .ref mat, .ref mfd, .ref mhd])), (mhd, .inl (cI, 7, .inl u))]) u)) A) cX1_swapHolders 4 none (by decide) rfl (Nat.le_of_ble_eq_true rfl) ?_
  intro p e s m args below meth c R Q A ls hBd hR hQ hA hS hK hP hD hl
  obtain ⟨hx, hb, hr, hts, hown, hlocks, hin, hml⟩ := hBd
  have hl : lv_has ls 4 [(0, .ref h0), (1, .int n), (2, .int k)] := hl
  have iX1 : ∀ w ∈ wsX10, w ∈ wsX1_swapHolders := fun _ h => List.mem_cons_of_mem _ (List.mem_append_right _ h)
  obtain ⟨h_na, h_nb⟩ := h_n
  obtain ⟨h_ka, h_kb⟩ := h_k
  refine lv_aload_n hx hb dX1_swapHolders_0 rfl (lv_at hl 0 rfl) ?_
  refine va_get (D := D) (ci := 1) (v := .ref mhd) (C := RX1) (T := TX1) (N := 8) hx hb hts iX1 hown hK hP 0 rfl rfl 7 (by decide) (hts (.fieldLink RX1 31 "PunchedTicket$Moment" "holder" "[I") (List.mem_of_getElem? (i := 1) rfl)) (fun _ h9 => h9) rfl dX1_swapHolders_1 ?_
  refine lv_iload_n hx hb dX1_swapHolders_4 rfl (lv_at hl 1 rfl) ?_
  refine va_iald hx hb hK hP 1 0 rfl rfl (vp_in_iff.mpr ⟨by omega, by omega⟩) dX1_swapHolders_5 ?_
  refine lv_topi (fun v_1 ev_1 => ?_)
  refine lv_istore_n (lv' := [(3, .int v_1), (0, .ref h0), (1, .int n), (2, .int k)]) hx hb dX1_swapHolders_6 rfl hl (by decide) rfl (fun ls hl => ?_)
  refine lv_aload_n hx hb dX1_swapHolders_7 rfl (lv_at hl 1 rfl) ?_
  refine va_get (D := D) (ci := 1) (v := .ref mhd) (C := RX1) (T := TX1) (N := 8) hx hb hts iX1 hown hK hP 0 rfl rfl 7 (by decide) (hts (.fieldLink RX1 31 "PunchedTicket$Moment" "holder" "[I") (List.mem_of_getElem? (i := 1) rfl)) (fun _ h9 => h9) rfl dX1_swapHolders_8 ?_
  refine lv_iload_n hx hb dX1_swapHolders_11 rfl (lv_at hl 2 rfl) ?_
  refine lv_aload_n hx hb dX1_swapHolders_12 rfl (lv_at hl 1 rfl) ?_
  refine va_get (D := D) (ci := 1) (v := .ref mhd) (C := RX1) (T := TX1) (N := 8) hx hb hts iX1 hown hK hP 0 rfl rfl 7 (by decide) (hts (.fieldLink RX1 31 "PunchedTicket$Moment" "holder" "[I") (List.mem_of_getElem? (i := 1) rfl)) (fun _ h9 => h9) rfl dX1_swapHolders_13 ?_
  refine lv_iload_n hx hb dX1_swapHolders_16 rfl (lv_at hl 3 rfl) ?_
  refine va_iald hx hb hK hP 1 0 rfl rfl (vp_in_iff.mpr ⟨by omega, by omega⟩) dX1_swapHolders_17 ?_
  refine lv_topi (fun v_2 ev_2 => ?_)
  refine va_iast hx hb hK hP hD hS 1 0 rfl rfl (vp_in_iff.mpr ⟨by omega, by omega⟩) dX1_swapHolders_18 (fun H locs hP hD hS => ?_)
  obtain ⟨f_3, ef_3⟩ : ∃ g : Nat → Int32, upd mFhd (n : Int32).toNatClampNeg v_2 = g := ⟨_, rfl⟩
  rw [ef_3] at hP hD
  have hP : va_P D vwCl [(h0, .inr (1, [.ref ln, .int md, .int mt, .int mr, .int mg, .ref mat, .ref mfd, .ref mhd])), (mhd, .inl (cI, 7, .inl f_3))] H := hP
  have hD : va_D A [(h0, .inr (1, [.ref ln, .int md, .int mt, .int mr, .int mg, .ref mat, .ref mfd, .ref mhd])), (mhd, .inl (cI, 7, .inl f_3))] := hD
  refine lv_aload_n hx hb dX1_swapHolders_19 rfl (lv_at hl 1 rfl) ?_
  refine va_get (D := D) (ci := 1) (v := .ref mhd) (C := RX1) (T := TX1) (N := 8) hx hb hts iX1 hown hK hP 0 rfl rfl 7 (by decide) (hts (.fieldLink RX1 31 "PunchedTicket$Moment" "holder" "[I") (List.mem_of_getElem? (i := 1) rfl)) (fun _ h9 => h9) rfl dX1_swapHolders_20 ?_
  refine lv_iload_n hx hb dX1_swapHolders_23 rfl (lv_at hl 3 rfl) ?_
  refine lv_iload_n hx hb dX1_swapHolders_24 rfl (lv_at hl 0 rfl) ?_
  refine va_iast hx hb hK hP hD hS 1 0 rfl rfl (vp_in_iff.mpr ⟨by omega, by omega⟩) dX1_swapHolders_25 (fun H locs hP hD hS => ?_)
  obtain ⟨f_4, ef_4⟩ : ∃ g : Nat → Int32, upd f_3 (k : Int32).toNatClampNeg v_1 = g := ⟨_, rfl⟩
  rw [ef_4] at hP hD
  have hP : va_P D vwCl [(h0, .inr (1, [.ref ln, .int md, .int mt, .int mr, .int mg, .ref mat, .ref mfd, .ref mhd])), (mhd, .inl (cI, 7, .inl f_4))] H := hP
  have hD : va_D A [(h0, .inr (1, [.ref ln, .int md, .int mt, .int mr, .int mg, .ref mat, .ref mfd, .ref mhd])), (mhd, .inl (cI, 7, .inl f_4))] := hD
  exact ret_v (post := (fun (u : (Nat → Int32)) => True)) (W1 := (fun u => [(h0, .inr (1, [.ref ln, .int md, .int mt, .int mr, .int mg, .ref mat, .ref mfd, .ref mhd])), (mhd, .inl (cI, 7, .inl u))])) f_4 hx hb hr hlocks hQ hK hP hD hS ⟨by decide, by decide⟩ dX1_swapHolders_26 trivial

set_option maxHeartbeats 600000 in
set_option maxRecDepth 100000 in
theorem c_X1_heldBy (l : Launch) (D : va_G) (cI cZ cM : ClassId) (h0 : Nat) (n : Int32) (ln : Nat) (md : Int32) (mt : Int32) (mr : Int32) (mg : Int32) (mat : Nat) (mfd : Nat) (mhd : Nat) (mFhd : Nat → Int32) (sz : Nat) (h_mt : 0 ≤ mt.toInt ∧ mt.toInt ≤ 7) : Ci l yX1_heldBy wsX1_heldBy ({ frames := 1, cells := 0, slots := 0, locals := 21 } : Room) D cI cZ cM [.ref h0, .int n] [(h0, .inr (1, [.ref ln, .int md, .int mt, .int mr, .int mg, .ref mat, .ref mfd, .ref mhd])), (mhd, .inl (cI, 7, .inl mFhd))] sz (fun (r : Int32) (u : Unit) => True) (fun u => [(h0, .inr (1, [.ref ln, .int md, .int mt, .int mr, .int mg, .ref mat, .ref mfd, .ref mhd])), (mhd, .inl (cI, 7, .inl mFhd))]) 0 0 := by
  refine begins (l := l) (y := yX1_heldBy) (ws := wsX1_heldBy) (av := [.ref h0, .int n]) (Qc := fun A => va_Qi (fun (r : Int32) (u : Unit) => True) (fun u => Wd D cI cZ cM A ((fun u => [(h0, .inr (1, [.ref ln, .int md, .int mt, .int mr, .int mg, .ref mat, .ref mfd, .ref mhd])), (mhd, .inl (cI, 7, .inl mFhd))]) u)) A) cX1_heldBy 4 (some .int) (by decide) rfl (Nat.le_of_ble_eq_true rfl) ?_
  intro p e s m args below meth c R Q A ls hBd hR hQ hA hS hK hP hD hl
  obtain ⟨hx, hb, hr, hts, hown, hlocks, hin, hml⟩ := hBd
  have hl : lv_has ls 4 [(0, .ref h0), (1, .int n)] := hl
  have iX1 : ∀ w ∈ wsX10, w ∈ wsX1_heldBy := fun _ h => List.mem_cons_of_mem _ (List.mem_append_right _ h)
  obtain ⟨h_mta, h_mtb⟩ := h_mt
  refine lv_iconst (v := 0) hx hb dX1_heldBy_0 (by decide) ?_
  refine lv_istore_n (lv' := [(2, .int 0), (0, .ref h0), (1, .int n)]) hx hb dX1_heldBy_1 rfl hl (by decide) rfl (fun ls hl => ?_)
  refine lv_iconst (v := 0) hx hb dX1_heldBy_2 (by decide) ?_
  refine lv_istore_n (lv' := [(3, .int 0), (2, .int 0), (0, .ref h0), (1, .int n)]) hx hb dX1_heldBy_3 rfl hl (by decide) rfl (fun ls hl => ?_)
  have LOOP_1 : ∀ (fu_1 : Nat) (w2 : Int32) (x3 : Int32) (H : Heap) (locs : List Loc) (ls : Array Slot), (7 - x3.toInt).toNat < fu_1 → (0 ≤ x3.toInt ∧ x3.toInt ≤ 7) → va_P D vwCl [(h0, .inr (1, [.ref ln, .int md, .int mt, .int mr, .int mg, .ref mat, .ref mfd, .ref mhd])), (mhd, .inl (cI, 7, .inl mFhd))] H → va_D A [(h0, .inr (1, [.ref ln, .int md, .int mt, .int mr, .int mg, .ref mat, .ref mfd, .ref mhd])), (mhd, .inl (cI, 7, .inl mFhd))] → va_S A s.heap H locs → lv_has ls 4 [(0, .ref h0), (1, .int n), (2, .int w2), (3, .int x3)] → W p l e R s m args below meth c H locs 0 0 Q (F0 m 4 ls []) := by
    intro fu_1
    induction fu_1 with
    | zero => intro w2 x3 H locs ls hmu; exact absurd hmu (Nat.not_lt_zero _)
    | succ fu_1 ih =>
      intro w2 x3 H locs ls hmu h_x3 hP hD hS hl
      obtain ⟨h_x3a, h_x3b⟩ := h_x3
      have ih_2 := ih
      clear ih
      refine lv_iload_n hx hb dX1_heldBy_4 rfl (lv_at hl 3 rfl) ?_
      refine lv_aload_n hx hb dX1_heldBy_5 rfl (lv_at hl 0 rfl) ?_
      refine va_get (D := D) (ci := 1) (v := .int mt) (C := RX1) (T := TX1) (N := 8) hx hb hts iX1 hown hK hP 0 rfl rfl 2 (by decide) (hts (.fieldLink RX1 15 "PunchedTicket$Moment" "tickets" "I") (List.mem_of_getElem? (i := 1) rfl)) (fun _ h9 => h9) rfl dX1_heldBy_6 ?_
      refine lv_icmp_ge (tgt := 42) hx hb dX1_heldBy_9 (by decide) (fun c_3 => ?_) (fun c_3 => ?_)
      · have tc_3 := b_le rfl rfl c_3
        refine lv_iload_n hx hb dX1_heldBy_42 rfl (lv_at hl 2 rfl) ?_
        exact ret_i (post := (fun (r : Int32) (u : Unit) => True)) (W1 := (fun u => [(h0, .inr (1, [.ref ln, .int md, .int mt, .int mr, .int mg, .ref mat, .ref mfd, .ref mhd])), (mhd, .inl (cI, 7, .inl mFhd))])) () hx hb hr hlocks rfl hQ hK hP hD hS ⟨by decide, by decide⟩ dX1_heldBy_43 trivial
      · have tc_3 := b_nle rfl rfl c_3
        refine lv_aload_n hx hb dX1_heldBy_12 rfl (lv_at hl 0 rfl) ?_
        refine lv_iload_n hx hb dX1_heldBy_13 rfl (lv_at hl 3 rfl) ?_
        refine cV_i (As := [.int x3]) (rest := []) ⟨hx, hb, hml, hown, hts⟩ (c_X1_isGone l D cI cZ cM h0 x3 ln md mt mr mg mat mfd mhd _ ) (cwV 1 hts gX1_heldBy_X1_isGone rfl rfl rfl (by decide +kernel) ⟨by rw [hR]; decide, by rw [hR]; decide⟩) hK hP hD hS hA [0] [1] rfl rfl (by decide) (by decide) (by decide) rfl 0 rfl hl.1 rfl rfl (Nat.le_of_ble_eq_true rfl) dX1_heldBy_14 ⟨by rw [hR]; decide, by rw [hR]; decide⟩ (fun r_4 u_5 H locs hw hP hD hS => ?_)
        have hP : va_P D vwCl [(h0, .inr (1, [.ref ln, .int md, .int mt, .int mr, .int mg, .ref mat, .ref mfd, .ref mhd])), (mhd, .inl (cI, 7, .inl mFhd))] H := hP.sub [1, 0] rfl
        have hD : va_D A [(h0, .inr (1, [.ref ln, .int md, .int mt, .int mr, .int mg, .ref mat, .ref mfd, .ref mhd])), (mhd, .inl (cI, 7, .inl mFhd))] := hD.sub [1, 0] (by decide) rfl
        refine W.widen (k := 0) (n := 0) (Nat.le_refl _) (Nat.le_refl _) ?_
        have hw : (r_4.toInt = 0 ∨ r_4.toInt = 1) := hw
        have hw_6 := hw
        refine lv_if_ne (tgt := 36) hx hb dX1_heldBy_17 (by decide) (fun c_7 => ?_) (fun c_7 => ?_)
        · have tc_7 := b_ne rfl (show (0 : Int32).toInt = 0 by decide) c_7
          obtain ⟨v_8, ev_8⟩ : ∃ z : Int32, z = x3 + 1 := ⟨_, rfl⟩
          have tv_8 : v_8.toInt = x3.toInt + 1 := by rw [ev_8]; exact ti_add (x := x3) (y := 1) (show -2147483648 ≤ x3.toInt + 1 by omega) (show x3.toInt + 1 < 2147483648 by omega)
          refine lv_iinc (v := v_8) (lv' := [(3, .int v_8), (0, .ref h0), (1, .int n), (2, .int w2)]) hx hb dX1_heldBy_36 hl (k := 3) rfl (by rw [ev_8]; rfl) (by decide) rfl (fun ls hl => ?_)
          refine lv_goto (tgt := 4) hx hb dX1_heldBy_39 (by decide) ?_
          exact ih_2 w2 v_8 _ _ _ (show (7 - v_8.toInt).toNat < fu_1 by omega) (show 0 ≤ v_8.toInt ∧ v_8.toInt ≤ 7 by omega) hP hD hS (lv_sub hl [1, 2, 3, 0] rfl)
        · have tc_7 := b_eq rfl (show (0 : Int32).toInt = 0 by decide) c_7
          refine lv_aload_n hx hb dX1_heldBy_20 rfl (lv_at hl 0 rfl) ?_
          refine va_get (D := D) (ci := 1) (v := .ref mhd) (C := RX1) (T := TX1) (N := 8) hx hb hts iX1 hown hK hP 0 rfl rfl 7 (by decide) (hts (.fieldLink RX1 31 "PunchedTicket$Moment" "holder" "[I") (List.mem_of_getElem? (i := 2) rfl)) (fun _ h9 => h9) rfl dX1_heldBy_21 ?_
          refine lv_iload_n hx hb dX1_heldBy_24 rfl (lv_at hl 3 rfl) ?_
          refine va_iald hx hb hK hP 1 0 rfl rfl (vp_in_iff.mpr ⟨by omega, by omega⟩) dX1_heldBy_25 ?_
          refine lv_topi (fun v_9 ev_9 => ?_)
          refine lv_iload_n hx hb dX1_heldBy_26 rfl (lv_at hl 1 rfl) ?_
          refine lv_icmp_ne (tgt := 36) hx hb dX1_heldBy_27 (by decide) (fun c_10 => ?_) (fun c_10 => ?_)
          · have tc_10 := b_ne rfl rfl c_10
            obtain ⟨v_11, ev_11⟩ : ∃ z : Int32, z = x3 + 1 := ⟨_, rfl⟩
            have tv_11 : v_11.toInt = x3.toInt + 1 := by rw [ev_11]; exact ti_add (x := x3) (y := 1) (show -2147483648 ≤ x3.toInt + 1 by omega) (show x3.toInt + 1 < 2147483648 by omega)
            refine lv_iinc (v := v_11) (lv' := [(3, .int v_11), (0, .ref h0), (1, .int n), (2, .int w2)]) hx hb dX1_heldBy_36 hl (k := 3) rfl (by rw [ev_11]; rfl) (by decide) rfl (fun ls hl => ?_)
            refine lv_goto (tgt := 4) hx hb dX1_heldBy_39 (by decide) ?_
            exact ih_2 w2 v_11 _ _ _ (show (7 - v_11.toInt).toNat < fu_1 by omega) (show 0 ≤ v_11.toInt ∧ v_11.toInt ≤ 7 by omega) hP hD hS (lv_sub hl [1, 2, 3, 0] rfl)
          · have tc_10 := b_eq rfl rfl c_10
            refine lv_iload_n hx hb dX1_heldBy_30 rfl (lv_at hl 2 rfl) ?_
            refine lv_iconst (v := 1) hx hb dX1_heldBy_31 (by decide) ?_
            refine lv_iload_n hx hb dX1_heldBy_32 rfl (lv_at hl 3 rfl) ?_
            refine lv_ishl hx hb dX1_heldBy_33 ?_
            refine lv_topi (fun v_12 ev_12 => ?_)
            refine lv_ior hx hb dX1_heldBy_34 ?_
            refine lv_topi (fun v_13 ev_13 => ?_)
            refine lv_istore_n (lv' := [(2, .int v_13), (0, .ref h0), (1, .int n), (3, .int x3)]) hx hb dX1_heldBy_35 rfl hl (by decide) rfl (fun ls hl => ?_)
            obtain ⟨v_14, ev_14⟩ : ∃ z : Int32, z = x3 + 1 := ⟨_, rfl⟩
            have tv_14 : v_14.toInt = x3.toInt + 1 := by rw [ev_14]; exact ti_add (x := x3) (y := 1) (show -2147483648 ≤ x3.toInt + 1 by omega) (show x3.toInt + 1 < 2147483648 by omega)
            refine lv_iinc (v := v_14) (lv' := [(3, .int v_14), (2, .int v_13), (0, .ref h0), (1, .int n)]) hx hb dX1_heldBy_36 hl (k := 3) rfl (by rw [ev_14]; rfl) (by decide) rfl (fun ls hl => ?_)
            refine lv_goto (tgt := 4) hx hb dX1_heldBy_39 (by decide) ?_
            exact ih_2 v_13 v_14 _ _ _ (show (7 - v_14.toInt).toNat < fu_1 by omega) (show 0 ≤ v_14.toInt ∧ v_14.toInt ≤ 7 by omega) hP hD hS (lv_sub hl [2, 3, 1, 0] rfl)
  exact LOOP_1 _ 0 0 _ _ _ (Nat.lt_succ_self _) (by decide) hP hD hS (lv_sub hl [2, 3, 1, 0] rfl)

set_option maxHeartbeats 600000 in
set_option maxRecDepth 100000 in
theorem c_X1_begin (l : Launch) (D : va_G) (cI cZ cM : ClassId) (h0 : Nat) (ln : Nat) (md : Int32) (mt : Int32) (mr : Int32) (mg : Int32) (mat : Nat) (mfd : Nat) (mhd : Nat) (lpe : Int32) (ltk : Int32) (lho : Nat) (lli : Nat) (lki : Nat) (lfd : Nat) (lfr : Nat) (lto : Nat) (lse : Nat) (lhl : Nat) (lFho : Nat → Int32) (lFfd : Nat → Int32) (lFhl : Nat → Int32) (mFat : Nat → Int32) (mFfd : Nat → Int32) (mFhd : Nat → Int32) (sz : Nat)  : Cv l yX1_begin wsX1_begin ({ frames := 1, cells := 0, slots := 0, locals := 26 } : Room) D cI cZ cM [.ref h0] [(h0, .inr (1, [.ref ln, .int md, .int mt, .int mr, .int mg, .ref mat, .ref mfd, .ref mhd])), (ln, .inr (0, [.int lpe, .int ltk, .ref lho, .ref lli, .ref lki, .ref lfd, .ref lfr, .ref lto, .ref lse, .ref lhl])), (lho, .inl (cI, 5, .inl lFho)), (lfd, .inl (cI, 7, .inl lFfd)), (lhl, .inl (cI, 7, .inl lFhl)), (mat, .inl (cI, 5, .inl mFat)), (mfd, .inl (cI, 7, .inl mFfd)), (mhd, .inl (cI, 7, .inl mFhd))] sz (fun (u : (Nat → Int32) × (Nat → Int32) × (Nat → Int32)) => True) (fun u => [(h0, .inr (1, [.ref ln, .int 0, .int ltk, .int 0, .int 0, .ref mat, .ref mfd, .ref mhd])), (ln, .inr (0, [.int lpe, .int ltk, .ref lho, .ref lli, .ref lki, .ref lfd, .ref lfr, .ref lto, .ref lse, .ref lhl])), (lho, .inl (cI, 5, .inl lFho)), (lfd, .inl (cI, 7, .inl lFfd)), (lhl, .inl (cI, 7, .inl lFhl)), (mat, .inl (cI, 5, .inl u.1)), (mfd, .inl (cI, 7, .inl u.2.1)), (mhd, .inl (cI, 7, .inl u.2.2))]) 0 0 := by
  refine begins (l := l) (y := yX1_begin) (ws := wsX1_begin) (av := [.ref h0]) (Qc := fun A => va_Qv (fun (u : (Nat → Int32) × (Nat → Int32) × (Nat → Int32)) => True) (fun u => Wd D cI cZ cM A ((fun u => [(h0, .inr (1, [.ref ln, .int 0, .int ltk, .int 0, .int 0, .ref mat, .ref mfd, .ref mhd])), (ln, .inr (0, [.int lpe, .int ltk, .ref lho, .ref lli, .ref lki, .ref lfd, .ref lfr, .ref lto, .ref lse, .ref lhl])), (lho, .inl (cI, 5, .inl lFho)), (lfd, .inl (cI, 7, .inl lFfd)), (lhl, .inl (cI, 7, .inl lFhl)), (mat, .inl (cI, 5, .inl u.1)), (mfd, .inl (cI, 7, .inl u.2.1)), (mhd, .inl (cI, 7, .inl u.2.2))]) u)) A) cX1_begin 1 none (by decide) rfl (Nat.le_of_ble_eq_true rfl) ?_
  intro p e s m args below meth c R Q A ls hBd hR hQ hA hS hK hP hD hl
  obtain ⟨hx, hb, hr, hts, hown, hlocks, hin, hml⟩ := hBd
  have hl : lv_has ls 1 [(0, .ref h0)] := hl
  have iX1 : ∀ w ∈ wsX10, w ∈ wsX1_begin := fun _ h => List.mem_cons_of_mem _ (List.mem_append_left _ (List.mem_append_right _ h))
  have iX0 : ∀ w ∈ wsX00, w ∈ wsX1_begin := fun _ h => List.mem_cons_of_mem _ (List.mem_append_right _ h)
  refine lv_aload_n hx hb dX1_begin_0 rfl (lv_at hl 0 rfl) ?_
  refine lv_iconst (v := 0) hx hb dX1_begin_1 (by decide) ?_
  refine va_put (D := D) (ci := 1) (v := .int 0) (ty := .int) (C := RX1) (T := TX1) (N := 8) hx hb hts iX1 tyX1 tyX1_ok nmX1 hown hK hP hD hS 0 rfl rfl 1 (by decide) (hts (.fieldLink RX1 9 "PunchedTicket$Moment" "day" "I") (List.mem_of_getElem? (i := 1) rfl)) (fun _ h9 => h9) rfl (by decide +kernel) rfl rfl (Nat.le_of_ble_eq_true rfl) dX1_begin_2 (fun H locs hP hD hS => ?_)
  have hP : va_P D vwCl [(h0, .inr (1, [.ref ln, .int 0, .int mt, .int mr, .int mg, .ref mat, .ref mfd, .ref mhd])), (ln, .inr (0, [.int lpe, .int ltk, .ref lho, .ref lli, .ref lki, .ref lfd, .ref lfr, .ref lto, .ref lse, .ref lhl])), (lho, .inl (cI, 5, .inl lFho)), (lfd, .inl (cI, 7, .inl lFfd)), (lhl, .inl (cI, 7, .inl lFhl)), (mat, .inl (cI, 5, .inl mFat)), (mfd, .inl (cI, 7, .inl mFfd)), (mhd, .inl (cI, 7, .inl mFhd))] H := hP
  have hD : va_D A [(h0, .inr (1, [.ref ln, .int 0, .int mt, .int mr, .int mg, .ref mat, .ref mfd, .ref mhd])), (ln, .inr (0, [.int lpe, .int ltk, .ref lho, .ref lli, .ref lki, .ref lfd, .ref lfr, .ref lto, .ref lse, .ref lhl])), (lho, .inl (cI, 5, .inl lFho)), (lfd, .inl (cI, 7, .inl lFfd)), (lhl, .inl (cI, 7, .inl lFhl)), (mat, .inl (cI, 5, .inl mFat)), (mfd, .inl (cI, 7, .inl mFfd)), (mhd, .inl (cI, 7, .inl mFhd))] := hD
  refine lv_aload_n hx hb dX1_begin_5 rfl (lv_at hl 0 rfl) ?_
  refine lv_aload_n hx hb dX1_begin_6 rfl (lv_at hl 0 rfl) ?_
  refine va_get (D := D) (ci := 1) (v := .ref ln) (C := RX1) (T := TX1) (N := 8) hx hb hts iX1 hown hK hP 0 rfl rfl 0 (by decide) (hts (.fieldLink RX1 34 "PunchedTicket$Moment" "line" "LPunchedTicket$Line;") (List.mem_of_getElem? (i := 2) rfl)) (fun _ h9 => h9) rfl dX1_begin_7 ?_
  refine va_get (D := D) (ci := 0) (v := .int ltk) (C := RX0) (T := TX0) (N := 10) hx hb hts iX0 hown hK hP 1 rfl rfl 1 (by decide) (hts (.fieldLink RX1 38 "PunchedTicket$Line" "tickets" "I") (List.mem_of_getElem? (i := 3) rfl)) (fun _ h9 => h9) rfl dX1_begin_10 ?_
  refine va_put (D := D) (ci := 1) (v := .int ltk) (ty := .int) (C := RX1) (T := TX1) (N := 8) hx hb hts iX1 tyX1 tyX1_ok nmX1 hown hK hP hD hS 0 rfl rfl 2 (by decide) (hts (.fieldLink RX1 15 "PunchedTicket$Moment" "tickets" "I") (List.mem_of_getElem? (i := 4) rfl)) (fun _ h9 => h9) rfl (by decide +kernel) rfl rfl (Nat.le_of_ble_eq_true rfl) dX1_begin_13 (fun H locs hP hD hS => ?_)
  have hP : va_P D vwCl [(h0, .inr (1, [.ref ln, .int 0, .int ltk, .int mr, .int mg, .ref mat, .ref mfd, .ref mhd])), (ln, .inr (0, [.int lpe, .int ltk, .ref lho, .ref lli, .ref lki, .ref lfd, .ref lfr, .ref lto, .ref lse, .ref lhl])), (lho, .inl (cI, 5, .inl lFho)), (lfd, .inl (cI, 7, .inl lFfd)), (lhl, .inl (cI, 7, .inl lFhl)), (mat, .inl (cI, 5, .inl mFat)), (mfd, .inl (cI, 7, .inl mFfd)), (mhd, .inl (cI, 7, .inl mFhd))] H := hP
  have hD : va_D A [(h0, .inr (1, [.ref ln, .int 0, .int ltk, .int mr, .int mg, .ref mat, .ref mfd, .ref mhd])), (ln, .inr (0, [.int lpe, .int ltk, .ref lho, .ref lli, .ref lki, .ref lfd, .ref lfr, .ref lto, .ref lse, .ref lhl])), (lho, .inl (cI, 5, .inl lFho)), (lfd, .inl (cI, 7, .inl lFfd)), (lhl, .inl (cI, 7, .inl lFhl)), (mat, .inl (cI, 5, .inl mFat)), (mfd, .inl (cI, 7, .inl mFfd)), (mhd, .inl (cI, 7, .inl mFhd))] := hD
  refine lv_aload_n hx hb dX1_begin_16 rfl (lv_at hl 0 rfl) ?_
  refine lv_iconst (v := 0) hx hb dX1_begin_17 (by decide) ?_
  refine va_put (D := D) (ci := 1) (v := .int 0) (ty := .int) (C := RX1) (T := TX1) (N := 8) hx hb hts iX1 tyX1 tyX1_ok nmX1 hown hK hP hD hS 0 rfl rfl 3 (by decide) (hts (.fieldLink RX1 18 "PunchedTicket$Moment" "returns" "I") (List.mem_of_getElem? (i := 5) rfl)) (fun _ h9 => h9) rfl (by decide +kernel) rfl rfl (Nat.le_of_ble_eq_true rfl) dX1_begin_18 (fun H locs hP hD hS => ?_)
  have hP : va_P D vwCl [(h0, .inr (1, [.ref ln, .int 0, .int ltk, .int 0, .int mg, .ref mat, .ref mfd, .ref mhd])), (ln, .inr (0, [.int lpe, .int ltk, .ref lho, .ref lli, .ref lki, .ref lfd, .ref lfr, .ref lto, .ref lse, .ref lhl])), (lho, .inl (cI, 5, .inl lFho)), (lfd, .inl (cI, 7, .inl lFfd)), (lhl, .inl (cI, 7, .inl lFhl)), (mat, .inl (cI, 5, .inl mFat)), (mfd, .inl (cI, 7, .inl mFfd)), (mhd, .inl (cI, 7, .inl mFhd))] H := hP
  have hD : va_D A [(h0, .inr (1, [.ref ln, .int 0, .int ltk, .int 0, .int mg, .ref mat, .ref mfd, .ref mhd])), (ln, .inr (0, [.int lpe, .int ltk, .ref lho, .ref lli, .ref lki, .ref lfd, .ref lfr, .ref lto, .ref lse, .ref lhl])), (lho, .inl (cI, 5, .inl lFho)), (lfd, .inl (cI, 7, .inl lFfd)), (lhl, .inl (cI, 7, .inl lFhl)), (mat, .inl (cI, 5, .inl mFat)), (mfd, .inl (cI, 7, .inl mFfd)), (mhd, .inl (cI, 7, .inl mFhd))] := hD
  refine lv_aload_n hx hb dX1_begin_21 rfl (lv_at hl 0 rfl) ?_
  refine lv_iconst (v := 0) hx hb dX1_begin_22 (by decide) ?_
  refine va_put (D := D) (ci := 1) (v := .int 0) (ty := .int) (C := RX1) (T := TX1) (N := 8) hx hb hts iX1 tyX1 tyX1_ok nmX1 hown hK hP hD hS 0 rfl rfl 4 (by decide) (hts (.fieldLink RX1 21 "PunchedTicket$Moment" "gone" "I") (List.mem_of_getElem? (i := 6) rfl)) (fun _ h9 => h9) rfl (by decide +kernel) rfl rfl (Nat.le_of_ble_eq_true rfl) dX1_begin_23 (fun H locs hP hD hS => ?_)
  have hP : va_P D vwCl [(h0, .inr (1, [.ref ln, .int 0, .int ltk, .int 0, .int 0, .ref mat, .ref mfd, .ref mhd])), (ln, .inr (0, [.int lpe, .int ltk, .ref lho, .ref lli, .ref lki, .ref lfd, .ref lfr, .ref lto, .ref lse, .ref lhl])), (lho, .inl (cI, 5, .inl lFho)), (lfd, .inl (cI, 7, .inl lFfd)), (lhl, .inl (cI, 7, .inl lFhl)), (mat, .inl (cI, 5, .inl mFat)), (mfd, .inl (cI, 7, .inl mFfd)), (mhd, .inl (cI, 7, .inl mFhd))] H := hP
  have hD : va_D A [(h0, .inr (1, [.ref ln, .int 0, .int ltk, .int 0, .int 0, .ref mat, .ref mfd, .ref mhd])), (ln, .inr (0, [.int lpe, .int ltk, .ref lho, .ref lli, .ref lki, .ref lfd, .ref lfr, .ref lto, .ref lse, .ref lhl])), (lho, .inl (cI, 5, .inl lFho)), (lfd, .inl (cI, 7, .inl lFfd)), (lhl, .inl (cI, 7, .inl lFhl)), (mat, .inl (cI, 5, .inl mFat)), (mfd, .inl (cI, 7, .inl mFfd)), (mhd, .inl (cI, 7, .inl mFhd))] := hD
  refine lv_aload_n hx hb dX1_begin_26 rfl (lv_at hl 0 rfl) ?_
  refine va_get (D := D) (ci := 1) (v := .ref ln) (C := RX1) (T := TX1) (N := 8) hx hb hts iX1 hown hK hP 0 rfl rfl 0 (by decide) (hts (.fieldLink RX1 34 "PunchedTicket$Moment" "line" "LPunchedTicket$Line;") (List.mem_of_getElem? (i := 2) rfl)) (fun _ h9 => h9) rfl dX1_begin_27 ?_
  refine va_get (D := D) (ci := 0) (v := .ref lho) (C := RX0) (T := TX0) (N := 10) hx hb hts iX0 hown hK hP 1 rfl rfl 2 (by decide) (hts (.fieldLink RX1 41 "PunchedTicket$Line" "home" "[I") (List.mem_of_getElem? (i := 7) rfl)) (fun _ h9 => h9) rfl dX1_begin_30 ?_
  refine lv_iconst (v := 0) hx hb dX1_begin_33 (by decide) ?_
  refine lv_aload_n hx hb dX1_begin_34 rfl (lv_at hl 0 rfl) ?_
  refine va_get (D := D) (ci := 1) (v := .ref mat) (C := RX1) (T := TX1) (N := 8) hx hb hts iX1 hown hK hP 0 rfl rfl 5 (by decide) (hts (.fieldLink RX1 24 "PunchedTicket$Moment" "at" "[I") (List.mem_of_getElem? (i := 8) rfl)) (fun _ h9 => h9) rfl dX1_begin_35 ?_
  refine lv_iconst (v := 0) hx hb dX1_begin_38 (by decide) ?_
  refine lv_iconst (v := 5) hx hb dX1_begin_39 (by decide) ?_
  refine va_copyi (ty := .int) hx hb (hml.trans hl.1.symm) hown (hts (.methodLink RX1 44 arraycopyName) (List.mem_of_getElem? (i := 9) rfl)) (hts (.native arraycopyName) (List.mem_of_getElem? (i := 10) rfl)) (hts (.static arraycopyName) (List.mem_of_getElem? (i := 11) rfl)) (hts (.initialized "java/lang/System") (List.mem_of_getElem? (i := 12) rfl)) hK hP hD hS 2 5 0 0 rfl rfl rfl rfl rfl (by decide) (by decide) (by decide) (by decide) (by decide) (fun _ _ => rfl) (by rw [hR]; decide) (by rw [hR]; decide) dX1_begin_40 (fun H locs hP hD hS => ?_)
  obtain ⟨f_1, ef_1⟩ : ∃ z : Nat → Int32, va_cpy lFho mFat (0 : Int32).toNatClampNeg (0 : Int32).toNatClampNeg (5 : Int32).toNatClampNeg = z := ⟨_, rfl⟩
  rw [ef_1] at hP hD
  have hP : va_P D vwCl [(h0, .inr (1, [.ref ln, .int 0, .int ltk, .int 0, .int 0, .ref mat, .ref mfd, .ref mhd])), (ln, .inr (0, [.int lpe, .int ltk, .ref lho, .ref lli, .ref lki, .ref lfd, .ref lfr, .ref lto, .ref lse, .ref lhl])), (lho, .inl (cI, 5, .inl lFho)), (lfd, .inl (cI, 7, .inl lFfd)), (lhl, .inl (cI, 7, .inl lFhl)), (mat, .inl (cI, 5, .inl f_1)), (mfd, .inl (cI, 7, .inl mFfd)), (mhd, .inl (cI, 7, .inl mFhd))] H := hP
  have hD : va_D A [(h0, .inr (1, [.ref ln, .int 0, .int ltk, .int 0, .int 0, .ref mat, .ref mfd, .ref mhd])), (ln, .inr (0, [.int lpe, .int ltk, .ref lho, .ref lli, .ref lki, .ref lfd, .ref lfr, .ref lto, .ref lse, .ref lhl])), (lho, .inl (cI, 5, .inl lFho)), (lfd, .inl (cI, 7, .inl lFfd)), (lhl, .inl (cI, 7, .inl lFhl)), (mat, .inl (cI, 5, .inl f_1)), (mfd, .inl (cI, 7, .inl mFfd)), (mhd, .inl (cI, 7, .inl mFhd))] := hD
  refine lv_aload_n hx hb dX1_begin_43 rfl (lv_at hl 0 rfl) ?_
  refine va_get (D := D) (ci := 1) (v := .ref ln) (C := RX1) (T := TX1) (N := 8) hx hb hts iX1 hown hK hP 0 rfl rfl 0 (by decide) (hts (.fieldLink RX1 34 "PunchedTicket$Moment" "line" "LPunchedTicket$Line;") (List.mem_of_getElem? (i := 2) rfl)) (fun _ h9 => h9) rfl dX1_begin_44 ?_
  refine va_get (D := D) (ci := 0) (v := .ref lfd) (C := RX0) (T := TX0) (N := 10) hx hb hts iX0 hown hK hP 1 rfl rfl 5 (by decide) (hts (.fieldLink RX1 50 "PunchedTicket$Line" "forDay" "[I") (List.mem_of_getElem? (i := 13) rfl)) (fun _ h9 => h9) rfl dX1_begin_47 ?_
  refine lv_iconst (v := 0) hx hb dX1_begin_50 (by decide) ?_
  refine lv_aload_n hx hb dX1_begin_51 rfl (lv_at hl 0 rfl) ?_
  refine va_get (D := D) (ci := 1) (v := .ref mfd) (C := RX1) (T := TX1) (N := 8) hx hb hts iX1 hown hK hP 0 rfl rfl 6 (by decide) (hts (.fieldLink RX1 28 "PunchedTicket$Moment" "forDay" "[I") (List.mem_of_getElem? (i := 14) rfl)) (fun _ h9 => h9) rfl dX1_begin_52 ?_
  refine lv_iconst (v := 0) hx hb dX1_begin_55 (by decide) ?_
  refine lv_bipush (v := 6) hx hb dX1_begin_56 (by decide) ?_
  refine va_copyi (ty := .int) hx hb (hml.trans hl.1.symm) hown (hts (.methodLink RX1 44 arraycopyName) (List.mem_of_getElem? (i := 9) rfl)) (hts (.native arraycopyName) (List.mem_of_getElem? (i := 10) rfl)) (hts (.static arraycopyName) (List.mem_of_getElem? (i := 11) rfl)) (hts (.initialized "java/lang/System") (List.mem_of_getElem? (i := 12) rfl)) hK hP hD hS 3 6 0 0 rfl rfl rfl rfl rfl (by decide) (by decide) (by decide) (by decide) (by decide) (fun _ _ => rfl) (by rw [hR]; decide) (by rw [hR]; decide) dX1_begin_58 (fun H locs hP hD hS => ?_)
  obtain ⟨f_2, ef_2⟩ : ∃ z : Nat → Int32, va_cpy lFfd mFfd (0 : Int32).toNatClampNeg (0 : Int32).toNatClampNeg (6 : Int32).toNatClampNeg = z := ⟨_, rfl⟩
  rw [ef_2] at hP hD
  have hP : va_P D vwCl [(h0, .inr (1, [.ref ln, .int 0, .int ltk, .int 0, .int 0, .ref mat, .ref mfd, .ref mhd])), (ln, .inr (0, [.int lpe, .int ltk, .ref lho, .ref lli, .ref lki, .ref lfd, .ref lfr, .ref lto, .ref lse, .ref lhl])), (lho, .inl (cI, 5, .inl lFho)), (lfd, .inl (cI, 7, .inl lFfd)), (lhl, .inl (cI, 7, .inl lFhl)), (mat, .inl (cI, 5, .inl f_1)), (mfd, .inl (cI, 7, .inl f_2)), (mhd, .inl (cI, 7, .inl mFhd))] H := hP
  have hD : va_D A [(h0, .inr (1, [.ref ln, .int 0, .int ltk, .int 0, .int 0, .ref mat, .ref mfd, .ref mhd])), (ln, .inr (0, [.int lpe, .int ltk, .ref lho, .ref lli, .ref lki, .ref lfd, .ref lfr, .ref lto, .ref lse, .ref lhl])), (lho, .inl (cI, 5, .inl lFho)), (lfd, .inl (cI, 7, .inl lFfd)), (lhl, .inl (cI, 7, .inl lFhl)), (mat, .inl (cI, 5, .inl f_1)), (mfd, .inl (cI, 7, .inl f_2)), (mhd, .inl (cI, 7, .inl mFhd))] := hD
  refine lv_aload_n hx hb dX1_begin_61 rfl (lv_at hl 0 rfl) ?_
  refine va_get (D := D) (ci := 1) (v := .ref ln) (C := RX1) (T := TX1) (N := 8) hx hb hts iX1 hown hK hP 0 rfl rfl 0 (by decide) (hts (.fieldLink RX1 34 "PunchedTicket$Moment" "line" "LPunchedTicket$Line;") (List.mem_of_getElem? (i := 2) rfl)) (fun _ h9 => h9) rfl dX1_begin_62 ?_
  refine va_get (D := D) (ci := 0) (v := .ref lhl) (C := RX0) (T := TX0) (N := 10) hx hb hts iX0 hown hK hP 1 rfl rfl 9 (by decide) (hts (.fieldLink RX1 51 "PunchedTicket$Line" "holder" "[I") (List.mem_of_getElem? (i := 15) rfl)) (fun _ h9 => h9) rfl dX1_begin_65 ?_
  refine lv_iconst (v := 0) hx hb dX1_begin_68 (by decide) ?_
  refine lv_aload_n hx hb dX1_begin_69 rfl (lv_at hl 0 rfl) ?_
  refine va_get (D := D) (ci := 1) (v := .ref mhd) (C := RX1) (T := TX1) (N := 8) hx hb hts iX1 hown hK hP 0 rfl rfl 7 (by decide) (hts (.fieldLink RX1 31 "PunchedTicket$Moment" "holder" "[I") (List.mem_of_getElem? (i := 16) rfl)) (fun _ h9 => h9) rfl dX1_begin_70 ?_
  refine lv_iconst (v := 0) hx hb dX1_begin_73 (by decide) ?_
  refine lv_bipush (v := 6) hx hb dX1_begin_74 (by decide) ?_
  refine va_copyi (ty := .int) hx hb (hml.trans hl.1.symm) hown (hts (.methodLink RX1 44 arraycopyName) (List.mem_of_getElem? (i := 9) rfl)) (hts (.native arraycopyName) (List.mem_of_getElem? (i := 10) rfl)) (hts (.static arraycopyName) (List.mem_of_getElem? (i := 11) rfl)) (hts (.initialized "java/lang/System") (List.mem_of_getElem? (i := 12) rfl)) hK hP hD hS 4 7 0 0 rfl rfl rfl rfl rfl (by decide) (by decide) (by decide) (by decide) (by decide) (fun _ _ => rfl) (by rw [hR]; decide) (by rw [hR]; decide) dX1_begin_76 (fun H locs hP hD hS => ?_)
  obtain ⟨f_3, ef_3⟩ : ∃ z : Nat → Int32, va_cpy lFhl mFhd (0 : Int32).toNatClampNeg (0 : Int32).toNatClampNeg (6 : Int32).toNatClampNeg = z := ⟨_, rfl⟩
  rw [ef_3] at hP hD
  have hP : va_P D vwCl [(h0, .inr (1, [.ref ln, .int 0, .int ltk, .int 0, .int 0, .ref mat, .ref mfd, .ref mhd])), (ln, .inr (0, [.int lpe, .int ltk, .ref lho, .ref lli, .ref lki, .ref lfd, .ref lfr, .ref lto, .ref lse, .ref lhl])), (lho, .inl (cI, 5, .inl lFho)), (lfd, .inl (cI, 7, .inl lFfd)), (lhl, .inl (cI, 7, .inl lFhl)), (mat, .inl (cI, 5, .inl f_1)), (mfd, .inl (cI, 7, .inl f_2)), (mhd, .inl (cI, 7, .inl f_3))] H := hP
  have hD : va_D A [(h0, .inr (1, [.ref ln, .int 0, .int ltk, .int 0, .int 0, .ref mat, .ref mfd, .ref mhd])), (ln, .inr (0, [.int lpe, .int ltk, .ref lho, .ref lli, .ref lki, .ref lfd, .ref lfr, .ref lto, .ref lse, .ref lhl])), (lho, .inl (cI, 5, .inl lFho)), (lfd, .inl (cI, 7, .inl lFfd)), (lhl, .inl (cI, 7, .inl lFhl)), (mat, .inl (cI, 5, .inl f_1)), (mfd, .inl (cI, 7, .inl f_2)), (mhd, .inl (cI, 7, .inl f_3))] := hD
  exact ret_v (post := (fun (u : (Nat → Int32) × (Nat → Int32) × (Nat → Int32)) => True)) (W1 := (fun u => [(h0, .inr (1, [.ref ln, .int 0, .int ltk, .int 0, .int 0, .ref mat, .ref mfd, .ref mhd])), (ln, .inr (0, [.int lpe, .int ltk, .ref lho, .ref lli, .ref lki, .ref lfd, .ref lfr, .ref lto, .ref lse, .ref lhl])), (lho, .inl (cI, 5, .inl lFho)), (lfd, .inl (cI, 7, .inl lFfd)), (lhl, .inl (cI, 7, .inl lFhl)), (mat, .inl (cI, 5, .inl u.1)), (mfd, .inl (cI, 7, .inl u.2.1)), (mhd, .inl (cI, 7, .inl u.2.2))])) (f_1, f_2, f_3) hx hb hr hlocks hQ hK hP hD hS ⟨by decide, by decide⟩ dX1_begin_79 trivial

set_option maxHeartbeats 600000 in
set_option maxRecDepth 100000 in
theorem c_X0_copy (l : Launch) (D : va_G) (cI cZ cM : ClassId) (h0 : Nat) (h1 : Nat) (lpe : Int32) (ltk : Int32) (lho : Nat) (lli : Nat) (lki : Nat) (lfd : Nat) (lfr : Nat) (lto : Nat) (lse : Nat) (lhl : Nat) (dpe : Int32) (dtk : Int32) (dho : Nat) (dli : Nat) (dki : Nat) (dfd : Nat) (dfr : Nat) (dto : Nat) (dse : Nat) (dhl : Nat) (lFho : Nat → Int32) (lFli : Nat → Int32) (lFki : Nat → Int32) (lFfd : Nat → Int32) (lFfr : Nat → Int32) (lFto : Nat → Int32) (lFse : Nat → Int32) (lFhl : Nat → Int32) (dFho : Nat → Int32) (dFli : Nat → Int32) (dFki : Nat → Int32) (dFfd : Nat → Int32) (dFfr : Nat → Int32) (dFto : Nat → Int32) (dFse : Nat → Int32) (dFhl : Nat → Int32) (sz : Nat)  : Cv l yX0_copy wsX0_copy ({ frames := 1, cells := 0, slots := 0, locals := 26 } : Room) D cI cZ cM [.ref h0, .ref h1] [(h0, .inr (0, [.int lpe, .int ltk, .ref lho, .ref lli, .ref lki, .ref lfd, .ref lfr, .ref lto, .ref lse, .ref lhl])), (h1, .inr (0, [.int dpe, .int dtk, .ref dho, .ref dli, .ref dki, .ref dfd, .ref dfr, .ref dto, .ref dse, .ref dhl])), (lho, .inl (cI, 5, .inl lFho)), (lli, .inl (cI, 5, .inl lFli)), (lki, .inl (cI, 5, .inl lFki)), (lfd, .inl (cI, 7, .inl lFfd)), (lfr, .inl (cI, 7, .inl lFfr)), (lto, .inl (cI, 7, .inl lFto)), (lse, .inl (cI, 7, .inl lFse)), (lhl, .inl (cI, 7, .inl lFhl)), (dho, .inl (cI, 5, .inl dFho)), (dli, .inl (cI, 5, .inl dFli)), (dki, .inl (cI, 5, .inl dFki)), (dfd, .inl (cI, 7, .inl dFfd)), (dfr, .inl (cI, 7, .inl dFfr)), (dto, .inl (cI, 7, .inl dFto)), (dse, .inl (cI, 7, .inl dFse)), (dhl, .inl (cI, 7, .inl dFhl))] sz (fun (u : (Nat → Int32) × (Nat → Int32) × (Nat → Int32) × (Nat → Int32) × (Nat → Int32) × (Nat → Int32) × (Nat → Int32) × (Nat → Int32)) => True) (fun u => [(h0, .inr (0, [.int dpe, .int dtk, .ref lho, .ref lli, .ref lki, .ref lfd, .ref lfr, .ref lto, .ref lse, .ref lhl])), (h1, .inr (0, [.int dpe, .int dtk, .ref dho, .ref dli, .ref dki, .ref dfd, .ref dfr, .ref dto, .ref dse, .ref dhl])), (lho, .inl (cI, 5, .inl u.1)), (lli, .inl (cI, 5, .inl u.2.1)), (lki, .inl (cI, 5, .inl u.2.2.1)), (lfd, .inl (cI, 7, .inl u.2.2.2.1)), (lfr, .inl (cI, 7, .inl u.2.2.2.2.1)), (lto, .inl (cI, 7, .inl u.2.2.2.2.2.1)), (lse, .inl (cI, 7, .inl u.2.2.2.2.2.2.1)), (lhl, .inl (cI, 7, .inl u.2.2.2.2.2.2.2)), (dho, .inl (cI, 5, .inl dFho)), (dli, .inl (cI, 5, .inl dFli)), (dki, .inl (cI, 5, .inl dFki)), (dfd, .inl (cI, 7, .inl dFfd)), (dfr, .inl (cI, 7, .inl dFfr)), (dto, .inl (cI, 7, .inl dFto)), (dse, .inl (cI, 7, .inl dFse)), (dhl, .inl (cI, 7, .inl dFhl))]) 0 0 := by
  refine begins (l := l) (y := yX0_copy) (ws := wsX0_copy) (av := [.ref h0, .ref h1]) (Qc := fun A => va_Qv (fun (u : (Nat → Int32) × (Nat → Int32) × (Nat → Int32) × (Nat → Int32) × (Nat → Int32) × (Nat → Int32) × (Nat → Int32) × (Nat → Int32)) => True) (fun u => Wd D cI cZ cM A ((fun u => [(h0, .inr (0, [.int dpe, .int dtk, .ref lho, .ref lli, .ref lki, .ref lfd, .ref lfr, .ref lto, .ref lse, .ref lhl])), (h1, .inr (0, [.int dpe, .int dtk, .ref dho, .ref dli, .ref dki, .ref dfd, .ref dfr, .ref dto, .ref dse, .ref dhl])), (lho, .inl (cI, 5, .inl u.1)), (lli, .inl (cI, 5, .inl u.2.1)), (lki, .inl (cI, 5, .inl u.2.2.1)), (lfd, .inl (cI, 7, .inl u.2.2.2.1)), (lfr, .inl (cI, 7, .inl u.2.2.2.2.1)), (lto, .inl (cI, 7, .inl u.2.2.2.2.2.1)), (lse, .inl (cI, 7, .inl u.2.2.2.2.2.2.1)), (lhl, .inl (cI, 7, .inl u.2.2.2.2.2.2.2)), (dho, .inl (cI, 5, .inl dFho)), (dli, .inl (cI, 5, .inl dFli)), (dki, .inl (cI, 5, .inl dFki)), (dfd, .inl (cI, 7, .inl dFfd)), (dfr, .inl (cI, 7, .inl dFfr)), (dto, .inl (cI, 7, .inl dFto)), (dse, .inl (cI, 7, .inl dFse)), (dhl, .inl (cI, 7, .inl dFhl))]) u)) A) cX0_copy 2 none (by decide) rfl (Nat.le_of_ble_eq_true rfl) ?_
  intro p e s m args below meth c R Q A ls hBd hR hQ hA hS hK hP hD hl
  obtain ⟨hx, hb, hr, hts, hown, hlocks, hin, hml⟩ := hBd
  have hl : lv_has ls 2 [(0, .ref h0), (1, .ref h1)] := hl
  have iX0 : ∀ w ∈ wsX00, w ∈ wsX0_copy := fun _ h => List.mem_cons_of_mem _ (List.mem_append_right _ h)
  refine lv_aload_n hx hb dX0_copy_0 rfl (lv_at hl 0 rfl) ?_
  refine lv_aload_n hx hb dX0_copy_1 rfl (lv_at hl 1 rfl) ?_
  refine va_get (D := D) (ci := 0) (v := .int dpe) (C := RX0) (T := TX0) (N := 10) hx hb hts iX0 hown hK hP 1 rfl rfl 0 (by decide) (hts (.fieldLink RX0 9 "PunchedTicket$Line" "people" "I") (List.mem_of_getElem? (i := 1) rfl)) (fun _ h9 => h9) rfl dX0_copy_2 ?_
  refine va_put (D := D) (ci := 0) (v := .int dpe) (ty := .int) (C := RX0) (T := TX0) (N := 10) hx hb hts iX0 tyX0 tyX0_ok nmX0 hown hK hP hD hS 0 rfl rfl 0 (by decide) (hts (.fieldLink RX0 9 "PunchedTicket$Line" "people" "I") (List.mem_of_getElem? (i := 1) rfl)) (fun _ h9 => h9) rfl (by decide +kernel) rfl rfl (Nat.le_of_ble_eq_true rfl) dX0_copy_5 (fun H locs hP hD hS => ?_)
  have hP : va_P D vwCl [(h0, .inr (0, [.int dpe, .int ltk, .ref lho, .ref lli, .ref lki, .ref lfd, .ref lfr, .ref lto, .ref lse, .ref lhl])), (h1, .inr (0, [.int dpe, .int dtk, .ref dho, .ref dli, .ref dki, .ref dfd, .ref dfr, .ref dto, .ref dse, .ref dhl])), (lho, .inl (cI, 5, .inl lFho)), (lli, .inl (cI, 5, .inl lFli)), (lki, .inl (cI, 5, .inl lFki)), (lfd, .inl (cI, 7, .inl lFfd)), (lfr, .inl (cI, 7, .inl lFfr)), (lto, .inl (cI, 7, .inl lFto)), (lse, .inl (cI, 7, .inl lFse)), (lhl, .inl (cI, 7, .inl lFhl)), (dho, .inl (cI, 5, .inl dFho)), (dli, .inl (cI, 5, .inl dFli)), (dki, .inl (cI, 5, .inl dFki)), (dfd, .inl (cI, 7, .inl dFfd)), (dfr, .inl (cI, 7, .inl dFfr)), (dto, .inl (cI, 7, .inl dFto)), (dse, .inl (cI, 7, .inl dFse)), (dhl, .inl (cI, 7, .inl dFhl))] H := hP
  have hD : va_D A [(h0, .inr (0, [.int dpe, .int ltk, .ref lho, .ref lli, .ref lki, .ref lfd, .ref lfr, .ref lto, .ref lse, .ref lhl])), (h1, .inr (0, [.int dpe, .int dtk, .ref dho, .ref dli, .ref dki, .ref dfd, .ref dfr, .ref dto, .ref dse, .ref dhl])), (lho, .inl (cI, 5, .inl lFho)), (lli, .inl (cI, 5, .inl lFli)), (lki, .inl (cI, 5, .inl lFki)), (lfd, .inl (cI, 7, .inl lFfd)), (lfr, .inl (cI, 7, .inl lFfr)), (lto, .inl (cI, 7, .inl lFto)), (lse, .inl (cI, 7, .inl lFse)), (lhl, .inl (cI, 7, .inl lFhl)), (dho, .inl (cI, 5, .inl dFho)), (dli, .inl (cI, 5, .inl dFli)), (dki, .inl (cI, 5, .inl dFki)), (dfd, .inl (cI, 7, .inl dFfd)), (dfr, .inl (cI, 7, .inl dFfr)), (dto, .inl (cI, 7, .inl dFto)), (dse, .inl (cI, 7, .inl dFse)), (dhl, .inl (cI, 7, .inl dFhl))] := hD
  refine lv_aload_n hx hb dX0_copy_8 rfl (lv_at hl 0 rfl) ?_
  refine lv_aload_n hx hb dX0_copy_9 rfl (lv_at hl 1 rfl) ?_
  refine va_get (D := D) (ci := 0) (v := .int dtk) (C := RX0) (T := TX0) (N := 10) hx hb hts iX0 hown hK hP 1 rfl rfl 1 (by decide) (hts (.fieldLink RX0 15 "PunchedTicket$Line" "tickets" "I") (List.mem_of_getElem? (i := 2) rfl)) (fun _ h9 => h9) rfl dX0_copy_10 ?_
  refine va_put (D := D) (ci := 0) (v := .int dtk) (ty := .int) (C := RX0) (T := TX0) (N := 10) hx hb hts iX0 tyX0 tyX0_ok nmX0 hown hK hP hD hS 0 rfl rfl 1 (by decide) (hts (.fieldLink RX0 15 "PunchedTicket$Line" "tickets" "I") (List.mem_of_getElem? (i := 2) rfl)) (fun _ h9 => h9) rfl (by decide +kernel) rfl rfl (Nat.le_of_ble_eq_true rfl) dX0_copy_13 (fun H locs hP hD hS => ?_)
  have hP : va_P D vwCl [(h0, .inr (0, [.int dpe, .int dtk, .ref lho, .ref lli, .ref lki, .ref lfd, .ref lfr, .ref lto, .ref lse, .ref lhl])), (h1, .inr (0, [.int dpe, .int dtk, .ref dho, .ref dli, .ref dki, .ref dfd, .ref dfr, .ref dto, .ref dse, .ref dhl])), (lho, .inl (cI, 5, .inl lFho)), (lli, .inl (cI, 5, .inl lFli)), (lki, .inl (cI, 5, .inl lFki)), (lfd, .inl (cI, 7, .inl lFfd)), (lfr, .inl (cI, 7, .inl lFfr)), (lto, .inl (cI, 7, .inl lFto)), (lse, .inl (cI, 7, .inl lFse)), (lhl, .inl (cI, 7, .inl lFhl)), (dho, .inl (cI, 5, .inl dFho)), (dli, .inl (cI, 5, .inl dFli)), (dki, .inl (cI, 5, .inl dFki)), (dfd, .inl (cI, 7, .inl dFfd)), (dfr, .inl (cI, 7, .inl dFfr)), (dto, .inl (cI, 7, .inl dFto)), (dse, .inl (cI, 7, .inl dFse)), (dhl, .inl (cI, 7, .inl dFhl))] H := hP
  have hD : va_D A [(h0, .inr (0, [.int dpe, .int dtk, .ref lho, .ref lli, .ref lki, .ref lfd, .ref lfr, .ref lto, .ref lse, .ref lhl])), (h1, .inr (0, [.int dpe, .int dtk, .ref dho, .ref dli, .ref dki, .ref dfd, .ref dfr, .ref dto, .ref dse, .ref dhl])), (lho, .inl (cI, 5, .inl lFho)), (lli, .inl (cI, 5, .inl lFli)), (lki, .inl (cI, 5, .inl lFki)), (lfd, .inl (cI, 7, .inl lFfd)), (lfr, .inl (cI, 7, .inl lFfr)), (lto, .inl (cI, 7, .inl lFto)), (lse, .inl (cI, 7, .inl lFse)), (lhl, .inl (cI, 7, .inl lFhl)), (dho, .inl (cI, 5, .inl dFho)), (dli, .inl (cI, 5, .inl dFli)), (dki, .inl (cI, 5, .inl dFki)), (dfd, .inl (cI, 7, .inl dFfd)), (dfr, .inl (cI, 7, .inl dFfr)), (dto, .inl (cI, 7, .inl dFto)), (dse, .inl (cI, 7, .inl dFse)), (dhl, .inl (cI, 7, .inl dFhl))] := hD
  refine lv_aload_n hx hb dX0_copy_16 rfl (lv_at hl 1 rfl) ?_
  refine va_get (D := D) (ci := 0) (v := .ref dho) (C := RX0) (T := TX0) (N := 10) hx hb hts iX0 hown hK hP 1 rfl rfl 2 (by decide) (hts (.fieldLink RX0 18 "PunchedTicket$Line" "home" "[I") (List.mem_of_getElem? (i := 3) rfl)) (fun _ h9 => h9) rfl dX0_copy_17 ?_
  refine lv_iconst (v := 0) hx hb dX0_copy_20 (by decide) ?_
  refine lv_aload_n hx hb dX0_copy_21 rfl (lv_at hl 0 rfl) ?_
  refine va_get (D := D) (ci := 0) (v := .ref lho) (C := RX0) (T := TX0) (N := 10) hx hb hts iX0 hown hK hP 0 rfl rfl 2 (by decide) (hts (.fieldLink RX0 18 "PunchedTicket$Line" "home" "[I") (List.mem_of_getElem? (i := 3) rfl)) (fun _ h9 => h9) rfl dX0_copy_22 ?_
  refine lv_iconst (v := 0) hx hb dX0_copy_25 (by decide) ?_
  refine lv_iconst (v := 5) hx hb dX0_copy_26 (by decide) ?_
  refine va_copyi (ty := .int) hx hb (hml.trans hl.1.symm) hown (hts (.methodLink RX0 43 arraycopyName) (List.mem_of_getElem? (i := 4) rfl)) (hts (.native arraycopyName) (List.mem_of_getElem? (i := 5) rfl)) (hts (.static arraycopyName) (List.mem_of_getElem? (i := 6) rfl)) (hts (.initialized "java/lang/System") (List.mem_of_getElem? (i := 7) rfl)) hK hP hD hS 10 2 0 0 rfl rfl rfl rfl rfl (by decide) (by decide) (by decide) (by decide) (by decide) (fun _ _ => rfl) (by rw [hR]; decide) (by rw [hR]; decide) dX0_copy_27 (fun H locs hP hD hS => ?_)
  obtain ⟨f_1, ef_1⟩ : ∃ z : Nat → Int32, va_cpy dFho lFho (0 : Int32).toNatClampNeg (0 : Int32).toNatClampNeg (5 : Int32).toNatClampNeg = z := ⟨_, rfl⟩
  rw [ef_1] at hP hD
  have hP : va_P D vwCl [(h0, .inr (0, [.int dpe, .int dtk, .ref lho, .ref lli, .ref lki, .ref lfd, .ref lfr, .ref lto, .ref lse, .ref lhl])), (h1, .inr (0, [.int dpe, .int dtk, .ref dho, .ref dli, .ref dki, .ref dfd, .ref dfr, .ref dto, .ref dse, .ref dhl])), (lho, .inl (cI, 5, .inl f_1)), (lli, .inl (cI, 5, .inl lFli)), (lki, .inl (cI, 5, .inl lFki)), (lfd, .inl (cI, 7, .inl lFfd)), (lfr, .inl (cI, 7, .inl lFfr)), (lto, .inl (cI, 7, .inl lFto)), (lse, .inl (cI, 7, .inl lFse)), (lhl, .inl (cI, 7, .inl lFhl)), (dho, .inl (cI, 5, .inl dFho)), (dli, .inl (cI, 5, .inl dFli)), (dki, .inl (cI, 5, .inl dFki)), (dfd, .inl (cI, 7, .inl dFfd)), (dfr, .inl (cI, 7, .inl dFfr)), (dto, .inl (cI, 7, .inl dFto)), (dse, .inl (cI, 7, .inl dFse)), (dhl, .inl (cI, 7, .inl dFhl))] H := hP
  have hD : va_D A [(h0, .inr (0, [.int dpe, .int dtk, .ref lho, .ref lli, .ref lki, .ref lfd, .ref lfr, .ref lto, .ref lse, .ref lhl])), (h1, .inr (0, [.int dpe, .int dtk, .ref dho, .ref dli, .ref dki, .ref dfd, .ref dfr, .ref dto, .ref dse, .ref dhl])), (lho, .inl (cI, 5, .inl f_1)), (lli, .inl (cI, 5, .inl lFli)), (lki, .inl (cI, 5, .inl lFki)), (lfd, .inl (cI, 7, .inl lFfd)), (lfr, .inl (cI, 7, .inl lFfr)), (lto, .inl (cI, 7, .inl lFto)), (lse, .inl (cI, 7, .inl lFse)), (lhl, .inl (cI, 7, .inl lFhl)), (dho, .inl (cI, 5, .inl dFho)), (dli, .inl (cI, 5, .inl dFli)), (dki, .inl (cI, 5, .inl dFki)), (dfd, .inl (cI, 7, .inl dFfd)), (dfr, .inl (cI, 7, .inl dFfr)), (dto, .inl (cI, 7, .inl dFto)), (dse, .inl (cI, 7, .inl dFse)), (dhl, .inl (cI, 7, .inl dFhl))] := hD
  refine lv_aload_n hx hb dX0_copy_30 rfl (lv_at hl 1 rfl) ?_
  refine va_get (D := D) (ci := 0) (v := .ref dli) (C := RX0) (T := TX0) (N := 10) hx hb hts iX0 hown hK hP 1 rfl rfl 3 (by decide) (hts (.fieldLink RX0 22 "PunchedTicket$Line" "liked" "[I") (List.mem_of_getElem? (i := 8) rfl)) (fun _ h9 => h9) rfl dX0_copy_31 ?_
  refine lv_iconst (v := 0) hx hb dX0_copy_34 (by decide) ?_
  refine lv_aload_n hx hb dX0_copy_35 rfl (lv_at hl 0 rfl) ?_
  refine va_get (D := D) (ci := 0) (v := .ref lli) (C := RX0) (T := TX0) (N := 10) hx hb hts iX0 hown hK hP 0 rfl rfl 3 (by decide) (hts (.fieldLink RX0 22 "PunchedTicket$Line" "liked" "[I") (List.mem_of_getElem? (i := 8) rfl)) (fun _ h9 => h9) rfl dX0_copy_36 ?_
  refine lv_iconst (v := 0) hx hb dX0_copy_39 (by decide) ?_
  refine lv_iconst (v := 5) hx hb dX0_copy_40 (by decide) ?_
  refine va_copyi (ty := .int) hx hb (hml.trans hl.1.symm) hown (hts (.methodLink RX0 43 arraycopyName) (List.mem_of_getElem? (i := 4) rfl)) (hts (.native arraycopyName) (List.mem_of_getElem? (i := 5) rfl)) (hts (.static arraycopyName) (List.mem_of_getElem? (i := 6) rfl)) (hts (.initialized "java/lang/System") (List.mem_of_getElem? (i := 7) rfl)) hK hP hD hS 11 3 0 0 rfl rfl rfl rfl rfl (by decide) (by decide) (by decide) (by decide) (by decide) (fun _ _ => rfl) (by rw [hR]; decide) (by rw [hR]; decide) dX0_copy_41 (fun H locs hP hD hS => ?_)
  obtain ⟨f_2, ef_2⟩ : ∃ z : Nat → Int32, va_cpy dFli lFli (0 : Int32).toNatClampNeg (0 : Int32).toNatClampNeg (5 : Int32).toNatClampNeg = z := ⟨_, rfl⟩
  rw [ef_2] at hP hD
  have hP : va_P D vwCl [(h0, .inr (0, [.int dpe, .int dtk, .ref lho, .ref lli, .ref lki, .ref lfd, .ref lfr, .ref lto, .ref lse, .ref lhl])), (h1, .inr (0, [.int dpe, .int dtk, .ref dho, .ref dli, .ref dki, .ref dfd, .ref dfr, .ref dto, .ref dse, .ref dhl])), (lho, .inl (cI, 5, .inl f_1)), (lli, .inl (cI, 5, .inl f_2)), (lki, .inl (cI, 5, .inl lFki)), (lfd, .inl (cI, 7, .inl lFfd)), (lfr, .inl (cI, 7, .inl lFfr)), (lto, .inl (cI, 7, .inl lFto)), (lse, .inl (cI, 7, .inl lFse)), (lhl, .inl (cI, 7, .inl lFhl)), (dho, .inl (cI, 5, .inl dFho)), (dli, .inl (cI, 5, .inl dFli)), (dki, .inl (cI, 5, .inl dFki)), (dfd, .inl (cI, 7, .inl dFfd)), (dfr, .inl (cI, 7, .inl dFfr)), (dto, .inl (cI, 7, .inl dFto)), (dse, .inl (cI, 7, .inl dFse)), (dhl, .inl (cI, 7, .inl dFhl))] H := hP
  have hD : va_D A [(h0, .inr (0, [.int dpe, .int dtk, .ref lho, .ref lli, .ref lki, .ref lfd, .ref lfr, .ref lto, .ref lse, .ref lhl])), (h1, .inr (0, [.int dpe, .int dtk, .ref dho, .ref dli, .ref dki, .ref dfd, .ref dfr, .ref dto, .ref dse, .ref dhl])), (lho, .inl (cI, 5, .inl f_1)), (lli, .inl (cI, 5, .inl f_2)), (lki, .inl (cI, 5, .inl lFki)), (lfd, .inl (cI, 7, .inl lFfd)), (lfr, .inl (cI, 7, .inl lFfr)), (lto, .inl (cI, 7, .inl lFto)), (lse, .inl (cI, 7, .inl lFse)), (lhl, .inl (cI, 7, .inl lFhl)), (dho, .inl (cI, 5, .inl dFho)), (dli, .inl (cI, 5, .inl dFli)), (dki, .inl (cI, 5, .inl dFki)), (dfd, .inl (cI, 7, .inl dFfd)), (dfr, .inl (cI, 7, .inl dFfr)), (dto, .inl (cI, 7, .inl dFto)), (dse, .inl (cI, 7, .inl dFse)), (dhl, .inl (cI, 7, .inl dFhl))] := hD
  refine lv_aload_n hx hb dX0_copy_44 rfl (lv_at hl 1 rfl) ?_
  refine va_get (D := D) (ci := 0) (v := .ref dki) (C := RX0) (T := TX0) (N := 10) hx hb hts iX0 hown hK hP 1 rfl rfl 4 (by decide) (hts (.fieldLink RX0 25 "PunchedTicket$Line" "kind" "[I") (List.mem_of_getElem? (i := 9) rfl)) (fun _ h9 => h9) rfl dX0_copy_45 ?_
  refine lv_iconst (v := 0) hx hb dX0_copy_48 (by decide) ?_
  refine lv_aload_n hx hb dX0_copy_49 rfl (lv_at hl 0 rfl) ?_
  refine va_get (D := D) (ci := 0) (v := .ref lki) (C := RX0) (T := TX0) (N := 10) hx hb hts iX0 hown hK hP 0 rfl rfl 4 (by decide) (hts (.fieldLink RX0 25 "PunchedTicket$Line" "kind" "[I") (List.mem_of_getElem? (i := 9) rfl)) (fun _ h9 => h9) rfl dX0_copy_50 ?_
  refine lv_iconst (v := 0) hx hb dX0_copy_53 (by decide) ?_
  refine lv_iconst (v := 5) hx hb dX0_copy_54 (by decide) ?_
  refine va_copyi (ty := .int) hx hb (hml.trans hl.1.symm) hown (hts (.methodLink RX0 43 arraycopyName) (List.mem_of_getElem? (i := 4) rfl)) (hts (.native arraycopyName) (List.mem_of_getElem? (i := 5) rfl)) (hts (.static arraycopyName) (List.mem_of_getElem? (i := 6) rfl)) (hts (.initialized "java/lang/System") (List.mem_of_getElem? (i := 7) rfl)) hK hP hD hS 12 4 0 0 rfl rfl rfl rfl rfl (by decide) (by decide) (by decide) (by decide) (by decide) (fun _ _ => rfl) (by rw [hR]; decide) (by rw [hR]; decide) dX0_copy_55 (fun H locs hP hD hS => ?_)
  obtain ⟨f_3, ef_3⟩ : ∃ z : Nat → Int32, va_cpy dFki lFki (0 : Int32).toNatClampNeg (0 : Int32).toNatClampNeg (5 : Int32).toNatClampNeg = z := ⟨_, rfl⟩
  rw [ef_3] at hP hD
  have hP : va_P D vwCl [(h0, .inr (0, [.int dpe, .int dtk, .ref lho, .ref lli, .ref lki, .ref lfd, .ref lfr, .ref lto, .ref lse, .ref lhl])), (h1, .inr (0, [.int dpe, .int dtk, .ref dho, .ref dli, .ref dki, .ref dfd, .ref dfr, .ref dto, .ref dse, .ref dhl])), (lho, .inl (cI, 5, .inl f_1)), (lli, .inl (cI, 5, .inl f_2)), (lki, .inl (cI, 5, .inl f_3)), (lfd, .inl (cI, 7, .inl lFfd)), (lfr, .inl (cI, 7, .inl lFfr)), (lto, .inl (cI, 7, .inl lFto)), (lse, .inl (cI, 7, .inl lFse)), (lhl, .inl (cI, 7, .inl lFhl)), (dho, .inl (cI, 5, .inl dFho)), (dli, .inl (cI, 5, .inl dFli)), (dki, .inl (cI, 5, .inl dFki)), (dfd, .inl (cI, 7, .inl dFfd)), (dfr, .inl (cI, 7, .inl dFfr)), (dto, .inl (cI, 7, .inl dFto)), (dse, .inl (cI, 7, .inl dFse)), (dhl, .inl (cI, 7, .inl dFhl))] H := hP
  have hD : va_D A [(h0, .inr (0, [.int dpe, .int dtk, .ref lho, .ref lli, .ref lki, .ref lfd, .ref lfr, .ref lto, .ref lse, .ref lhl])), (h1, .inr (0, [.int dpe, .int dtk, .ref dho, .ref dli, .ref dki, .ref dfd, .ref dfr, .ref dto, .ref dse, .ref dhl])), (lho, .inl (cI, 5, .inl f_1)), (lli, .inl (cI, 5, .inl f_2)), (lki, .inl (cI, 5, .inl f_3)), (lfd, .inl (cI, 7, .inl lFfd)), (lfr, .inl (cI, 7, .inl lFfr)), (lto, .inl (cI, 7, .inl lFto)), (lse, .inl (cI, 7, .inl lFse)), (lhl, .inl (cI, 7, .inl lFhl)), (dho, .inl (cI, 5, .inl dFho)), (dli, .inl (cI, 5, .inl dFli)), (dki, .inl (cI, 5, .inl dFki)), (dfd, .inl (cI, 7, .inl dFfd)), (dfr, .inl (cI, 7, .inl dFfr)), (dto, .inl (cI, 7, .inl dFto)), (dse, .inl (cI, 7, .inl dFse)), (dhl, .inl (cI, 7, .inl dFhl))] := hD
  refine lv_aload_n hx hb dX0_copy_58 rfl (lv_at hl 1 rfl) ?_
  refine va_get (D := D) (ci := 0) (v := .ref dfd) (C := RX0) (T := TX0) (N := 10) hx hb hts iX0 hown hK hP 1 rfl rfl 5 (by decide) (hts (.fieldLink RX0 28 "PunchedTicket$Line" "forDay" "[I") (List.mem_of_getElem? (i := 10) rfl)) (fun _ h9 => h9) rfl dX0_copy_59 ?_
  refine lv_iconst (v := 0) hx hb dX0_copy_62 (by decide) ?_
  refine lv_aload_n hx hb dX0_copy_63 rfl (lv_at hl 0 rfl) ?_
  refine va_get (D := D) (ci := 0) (v := .ref lfd) (C := RX0) (T := TX0) (N := 10) hx hb hts iX0 hown hK hP 0 rfl rfl 5 (by decide) (hts (.fieldLink RX0 28 "PunchedTicket$Line" "forDay" "[I") (List.mem_of_getElem? (i := 10) rfl)) (fun _ h9 => h9) rfl dX0_copy_64 ?_
  refine lv_iconst (v := 0) hx hb dX0_copy_67 (by decide) ?_
  refine lv_bipush (v := 6) hx hb dX0_copy_68 (by decide) ?_
  refine va_copyi (ty := .int) hx hb (hml.trans hl.1.symm) hown (hts (.methodLink RX0 43 arraycopyName) (List.mem_of_getElem? (i := 4) rfl)) (hts (.native arraycopyName) (List.mem_of_getElem? (i := 5) rfl)) (hts (.static arraycopyName) (List.mem_of_getElem? (i := 6) rfl)) (hts (.initialized "java/lang/System") (List.mem_of_getElem? (i := 7) rfl)) hK hP hD hS 13 5 0 0 rfl rfl rfl rfl rfl (by decide) (by decide) (by decide) (by decide) (by decide) (fun _ _ => rfl) (by rw [hR]; decide) (by rw [hR]; decide) dX0_copy_70 (fun H locs hP hD hS => ?_)
  obtain ⟨f_4, ef_4⟩ : ∃ z : Nat → Int32, va_cpy dFfd lFfd (0 : Int32).toNatClampNeg (0 : Int32).toNatClampNeg (6 : Int32).toNatClampNeg = z := ⟨_, rfl⟩
  rw [ef_4] at hP hD
  have hP : va_P D vwCl [(h0, .inr (0, [.int dpe, .int dtk, .ref lho, .ref lli, .ref lki, .ref lfd, .ref lfr, .ref lto, .ref lse, .ref lhl])), (h1, .inr (0, [.int dpe, .int dtk, .ref dho, .ref dli, .ref dki, .ref dfd, .ref dfr, .ref dto, .ref dse, .ref dhl])), (lho, .inl (cI, 5, .inl f_1)), (lli, .inl (cI, 5, .inl f_2)), (lki, .inl (cI, 5, .inl f_3)), (lfd, .inl (cI, 7, .inl f_4)), (lfr, .inl (cI, 7, .inl lFfr)), (lto, .inl (cI, 7, .inl lFto)), (lse, .inl (cI, 7, .inl lFse)), (lhl, .inl (cI, 7, .inl lFhl)), (dho, .inl (cI, 5, .inl dFho)), (dli, .inl (cI, 5, .inl dFli)), (dki, .inl (cI, 5, .inl dFki)), (dfd, .inl (cI, 7, .inl dFfd)), (dfr, .inl (cI, 7, .inl dFfr)), (dto, .inl (cI, 7, .inl dFto)), (dse, .inl (cI, 7, .inl dFse)), (dhl, .inl (cI, 7, .inl dFhl))] H := hP
  have hD : va_D A [(h0, .inr (0, [.int dpe, .int dtk, .ref lho, .ref lli, .ref lki, .ref lfd, .ref lfr, .ref lto, .ref lse, .ref lhl])), (h1, .inr (0, [.int dpe, .int dtk, .ref dho, .ref dli, .ref dki, .ref dfd, .ref dfr, .ref dto, .ref dse, .ref dhl])), (lho, .inl (cI, 5, .inl f_1)), (lli, .inl (cI, 5, .inl f_2)), (lki, .inl (cI, 5, .inl f_3)), (lfd, .inl (cI, 7, .inl f_4)), (lfr, .inl (cI, 7, .inl lFfr)), (lto, .inl (cI, 7, .inl lFto)), (lse, .inl (cI, 7, .inl lFse)), (lhl, .inl (cI, 7, .inl lFhl)), (dho, .inl (cI, 5, .inl dFho)), (dli, .inl (cI, 5, .inl dFli)), (dki, .inl (cI, 5, .inl dFki)), (dfd, .inl (cI, 7, .inl dFfd)), (dfr, .inl (cI, 7, .inl dFfr)), (dto, .inl (cI, 7, .inl dFto)), (dse, .inl (cI, 7, .inl dFse)), (dhl, .inl (cI, 7, .inl dFhl))] := hD
  refine lv_aload_n hx hb dX0_copy_73 rfl (lv_at hl 1 rfl) ?_
  refine va_get (D := D) (ci := 0) (v := .ref dfr) (C := RX0) (T := TX0) (N := 10) hx hb hts iX0 hown hK hP 1 rfl rfl 6 (by decide) (hts (.fieldLink RX0 31 "PunchedTicket$Line" "from" "[I") (List.mem_of_getElem? (i := 11) rfl)) (fun _ h9 => h9) rfl dX0_copy_74 ?_
  refine lv_iconst (v := 0) hx hb dX0_copy_77 (by decide) ?_
  refine lv_aload_n hx hb dX0_copy_78 rfl (lv_at hl 0 rfl) ?_
  refine va_get (D := D) (ci := 0) (v := .ref lfr) (C := RX0) (T := TX0) (N := 10) hx hb hts iX0 hown hK hP 0 rfl rfl 6 (by decide) (hts (.fieldLink RX0 31 "PunchedTicket$Line" "from" "[I") (List.mem_of_getElem? (i := 11) rfl)) (fun _ h9 => h9) rfl dX0_copy_79 ?_
  refine lv_iconst (v := 0) hx hb dX0_copy_82 (by decide) ?_
  refine lv_bipush (v := 6) hx hb dX0_copy_83 (by decide) ?_
  refine va_copyi (ty := .int) hx hb (hml.trans hl.1.symm) hown (hts (.methodLink RX0 43 arraycopyName) (List.mem_of_getElem? (i := 4) rfl)) (hts (.native arraycopyName) (List.mem_of_getElem? (i := 5) rfl)) (hts (.static arraycopyName) (List.mem_of_getElem? (i := 6) rfl)) (hts (.initialized "java/lang/System") (List.mem_of_getElem? (i := 7) rfl)) hK hP hD hS 14 6 0 0 rfl rfl rfl rfl rfl (by decide) (by decide) (by decide) (by decide) (by decide) (fun _ _ => rfl) (by rw [hR]; decide) (by rw [hR]; decide) dX0_copy_85 (fun H locs hP hD hS => ?_)
  obtain ⟨f_5, ef_5⟩ : ∃ z : Nat → Int32, va_cpy dFfr lFfr (0 : Int32).toNatClampNeg (0 : Int32).toNatClampNeg (6 : Int32).toNatClampNeg = z := ⟨_, rfl⟩
  rw [ef_5] at hP hD
  have hP : va_P D vwCl [(h0, .inr (0, [.int dpe, .int dtk, .ref lho, .ref lli, .ref lki, .ref lfd, .ref lfr, .ref lto, .ref lse, .ref lhl])), (h1, .inr (0, [.int dpe, .int dtk, .ref dho, .ref dli, .ref dki, .ref dfd, .ref dfr, .ref dto, .ref dse, .ref dhl])), (lho, .inl (cI, 5, .inl f_1)), (lli, .inl (cI, 5, .inl f_2)), (lki, .inl (cI, 5, .inl f_3)), (lfd, .inl (cI, 7, .inl f_4)), (lfr, .inl (cI, 7, .inl f_5)), (lto, .inl (cI, 7, .inl lFto)), (lse, .inl (cI, 7, .inl lFse)), (lhl, .inl (cI, 7, .inl lFhl)), (dho, .inl (cI, 5, .inl dFho)), (dli, .inl (cI, 5, .inl dFli)), (dki, .inl (cI, 5, .inl dFki)), (dfd, .inl (cI, 7, .inl dFfd)), (dfr, .inl (cI, 7, .inl dFfr)), (dto, .inl (cI, 7, .inl dFto)), (dse, .inl (cI, 7, .inl dFse)), (dhl, .inl (cI, 7, .inl dFhl))] H := hP
  have hD : va_D A [(h0, .inr (0, [.int dpe, .int dtk, .ref lho, .ref lli, .ref lki, .ref lfd, .ref lfr, .ref lto, .ref lse, .ref lhl])), (h1, .inr (0, [.int dpe, .int dtk, .ref dho, .ref dli, .ref dki, .ref dfd, .ref dfr, .ref dto, .ref dse, .ref dhl])), (lho, .inl (cI, 5, .inl f_1)), (lli, .inl (cI, 5, .inl f_2)), (lki, .inl (cI, 5, .inl f_3)), (lfd, .inl (cI, 7, .inl f_4)), (lfr, .inl (cI, 7, .inl f_5)), (lto, .inl (cI, 7, .inl lFto)), (lse, .inl (cI, 7, .inl lFse)), (lhl, .inl (cI, 7, .inl lFhl)), (dho, .inl (cI, 5, .inl dFho)), (dli, .inl (cI, 5, .inl dFli)), (dki, .inl (cI, 5, .inl dFki)), (dfd, .inl (cI, 7, .inl dFfd)), (dfr, .inl (cI, 7, .inl dFfr)), (dto, .inl (cI, 7, .inl dFto)), (dse, .inl (cI, 7, .inl dFse)), (dhl, .inl (cI, 7, .inl dFhl))] := hD
  refine lv_aload_n hx hb dX0_copy_88 rfl (lv_at hl 1 rfl) ?_
  refine va_get (D := D) (ci := 0) (v := .ref dto) (C := RX0) (T := TX0) (N := 10) hx hb hts iX0 hown hK hP 1 rfl rfl 7 (by decide) (hts (.fieldLink RX0 34 "PunchedTicket$Line" "to" "[I") (List.mem_of_getElem? (i := 12) rfl)) (fun _ h9 => h9) rfl dX0_copy_89 ?_
  refine lv_iconst (v := 0) hx hb dX0_copy_92 (by decide) ?_
  refine lv_aload_n hx hb dX0_copy_93 rfl (lv_at hl 0 rfl) ?_
  refine va_get (D := D) (ci := 0) (v := .ref lto) (C := RX0) (T := TX0) (N := 10) hx hb hts iX0 hown hK hP 0 rfl rfl 7 (by decide) (hts (.fieldLink RX0 34 "PunchedTicket$Line" "to" "[I") (List.mem_of_getElem? (i := 12) rfl)) (fun _ h9 => h9) rfl dX0_copy_94 ?_
  refine lv_iconst (v := 0) hx hb dX0_copy_97 (by decide) ?_
  refine lv_bipush (v := 6) hx hb dX0_copy_98 (by decide) ?_
  refine va_copyi (ty := .int) hx hb (hml.trans hl.1.symm) hown (hts (.methodLink RX0 43 arraycopyName) (List.mem_of_getElem? (i := 4) rfl)) (hts (.native arraycopyName) (List.mem_of_getElem? (i := 5) rfl)) (hts (.static arraycopyName) (List.mem_of_getElem? (i := 6) rfl)) (hts (.initialized "java/lang/System") (List.mem_of_getElem? (i := 7) rfl)) hK hP hD hS 15 7 0 0 rfl rfl rfl rfl rfl (by decide) (by decide) (by decide) (by decide) (by decide) (fun _ _ => rfl) (by rw [hR]; decide) (by rw [hR]; decide) dX0_copy_100 (fun H locs hP hD hS => ?_)
  obtain ⟨f_6, ef_6⟩ : ∃ z : Nat → Int32, va_cpy dFto lFto (0 : Int32).toNatClampNeg (0 : Int32).toNatClampNeg (6 : Int32).toNatClampNeg = z := ⟨_, rfl⟩
  rw [ef_6] at hP hD
  have hP : va_P D vwCl [(h0, .inr (0, [.int dpe, .int dtk, .ref lho, .ref lli, .ref lki, .ref lfd, .ref lfr, .ref lto, .ref lse, .ref lhl])), (h1, .inr (0, [.int dpe, .int dtk, .ref dho, .ref dli, .ref dki, .ref dfd, .ref dfr, .ref dto, .ref dse, .ref dhl])), (lho, .inl (cI, 5, .inl f_1)), (lli, .inl (cI, 5, .inl f_2)), (lki, .inl (cI, 5, .inl f_3)), (lfd, .inl (cI, 7, .inl f_4)), (lfr, .inl (cI, 7, .inl f_5)), (lto, .inl (cI, 7, .inl f_6)), (lse, .inl (cI, 7, .inl lFse)), (lhl, .inl (cI, 7, .inl lFhl)), (dho, .inl (cI, 5, .inl dFho)), (dli, .inl (cI, 5, .inl dFli)), (dki, .inl (cI, 5, .inl dFki)), (dfd, .inl (cI, 7, .inl dFfd)), (dfr, .inl (cI, 7, .inl dFfr)), (dto, .inl (cI, 7, .inl dFto)), (dse, .inl (cI, 7, .inl dFse)), (dhl, .inl (cI, 7, .inl dFhl))] H := hP
  have hD : va_D A [(h0, .inr (0, [.int dpe, .int dtk, .ref lho, .ref lli, .ref lki, .ref lfd, .ref lfr, .ref lto, .ref lse, .ref lhl])), (h1, .inr (0, [.int dpe, .int dtk, .ref dho, .ref dli, .ref dki, .ref dfd, .ref dfr, .ref dto, .ref dse, .ref dhl])), (lho, .inl (cI, 5, .inl f_1)), (lli, .inl (cI, 5, .inl f_2)), (lki, .inl (cI, 5, .inl f_3)), (lfd, .inl (cI, 7, .inl f_4)), (lfr, .inl (cI, 7, .inl f_5)), (lto, .inl (cI, 7, .inl f_6)), (lse, .inl (cI, 7, .inl lFse)), (lhl, .inl (cI, 7, .inl lFhl)), (dho, .inl (cI, 5, .inl dFho)), (dli, .inl (cI, 5, .inl dFli)), (dki, .inl (cI, 5, .inl dFki)), (dfd, .inl (cI, 7, .inl dFfd)), (dfr, .inl (cI, 7, .inl dFfr)), (dto, .inl (cI, 7, .inl dFto)), (dse, .inl (cI, 7, .inl dFse)), (dhl, .inl (cI, 7, .inl dFhl))] := hD
  refine lv_aload_n hx hb dX0_copy_103 rfl (lv_at hl 1 rfl) ?_
  refine va_get (D := D) (ci := 0) (v := .ref dse) (C := RX0) (T := TX0) (N := 10) hx hb hts iX0 hown hK hP 1 rfl rfl 8 (by decide) (hts (.fieldLink RX0 37 "PunchedTicket$Line" "seat" "[I") (List.mem_of_getElem? (i := 13) rfl)) (fun _ h9 => h9) rfl dX0_copy_104 ?_
  refine lv_iconst (v := 0) hx hb dX0_copy_107 (by decide) ?_
  refine lv_aload_n hx hb dX0_copy_108 rfl (lv_at hl 0 rfl) ?_
  refine va_get (D := D) (ci := 0) (v := .ref lse) (C := RX0) (T := TX0) (N := 10) hx hb hts iX0 hown hK hP 0 rfl rfl 8 (by decide) (hts (.fieldLink RX0 37 "PunchedTicket$Line" "seat" "[I") (List.mem_of_getElem? (i := 13) rfl)) (fun _ h9 => h9) rfl dX0_copy_109 ?_
  refine lv_iconst (v := 0) hx hb dX0_copy_112 (by decide) ?_
  refine lv_bipush (v := 6) hx hb dX0_copy_113 (by decide) ?_
  refine va_copyi (ty := .int) hx hb (hml.trans hl.1.symm) hown (hts (.methodLink RX0 43 arraycopyName) (List.mem_of_getElem? (i := 4) rfl)) (hts (.native arraycopyName) (List.mem_of_getElem? (i := 5) rfl)) (hts (.static arraycopyName) (List.mem_of_getElem? (i := 6) rfl)) (hts (.initialized "java/lang/System") (List.mem_of_getElem? (i := 7) rfl)) hK hP hD hS 16 8 0 0 rfl rfl rfl rfl rfl (by decide) (by decide) (by decide) (by decide) (by decide) (fun _ _ => rfl) (by rw [hR]; decide) (by rw [hR]; decide) dX0_copy_115 (fun H locs hP hD hS => ?_)
  obtain ⟨f_7, ef_7⟩ : ∃ z : Nat → Int32, va_cpy dFse lFse (0 : Int32).toNatClampNeg (0 : Int32).toNatClampNeg (6 : Int32).toNatClampNeg = z := ⟨_, rfl⟩
  rw [ef_7] at hP hD
  have hP : va_P D vwCl [(h0, .inr (0, [.int dpe, .int dtk, .ref lho, .ref lli, .ref lki, .ref lfd, .ref lfr, .ref lto, .ref lse, .ref lhl])), (h1, .inr (0, [.int dpe, .int dtk, .ref dho, .ref dli, .ref dki, .ref dfd, .ref dfr, .ref dto, .ref dse, .ref dhl])), (lho, .inl (cI, 5, .inl f_1)), (lli, .inl (cI, 5, .inl f_2)), (lki, .inl (cI, 5, .inl f_3)), (lfd, .inl (cI, 7, .inl f_4)), (lfr, .inl (cI, 7, .inl f_5)), (lto, .inl (cI, 7, .inl f_6)), (lse, .inl (cI, 7, .inl f_7)), (lhl, .inl (cI, 7, .inl lFhl)), (dho, .inl (cI, 5, .inl dFho)), (dli, .inl (cI, 5, .inl dFli)), (dki, .inl (cI, 5, .inl dFki)), (dfd, .inl (cI, 7, .inl dFfd)), (dfr, .inl (cI, 7, .inl dFfr)), (dto, .inl (cI, 7, .inl dFto)), (dse, .inl (cI, 7, .inl dFse)), (dhl, .inl (cI, 7, .inl dFhl))] H := hP
  have hD : va_D A [(h0, .inr (0, [.int dpe, .int dtk, .ref lho, .ref lli, .ref lki, .ref lfd, .ref lfr, .ref lto, .ref lse, .ref lhl])), (h1, .inr (0, [.int dpe, .int dtk, .ref dho, .ref dli, .ref dki, .ref dfd, .ref dfr, .ref dto, .ref dse, .ref dhl])), (lho, .inl (cI, 5, .inl f_1)), (lli, .inl (cI, 5, .inl f_2)), (lki, .inl (cI, 5, .inl f_3)), (lfd, .inl (cI, 7, .inl f_4)), (lfr, .inl (cI, 7, .inl f_5)), (lto, .inl (cI, 7, .inl f_6)), (lse, .inl (cI, 7, .inl f_7)), (lhl, .inl (cI, 7, .inl lFhl)), (dho, .inl (cI, 5, .inl dFho)), (dli, .inl (cI, 5, .inl dFli)), (dki, .inl (cI, 5, .inl dFki)), (dfd, .inl (cI, 7, .inl dFfd)), (dfr, .inl (cI, 7, .inl dFfr)), (dto, .inl (cI, 7, .inl dFto)), (dse, .inl (cI, 7, .inl dFse)), (dhl, .inl (cI, 7, .inl dFhl))] := hD
  refine lv_aload_n hx hb dX0_copy_118 rfl (lv_at hl 1 rfl) ?_
  refine va_get (D := D) (ci := 0) (v := .ref dhl) (C := RX0) (T := TX0) (N := 10) hx hb hts iX0 hown hK hP 1 rfl rfl 9 (by decide) (hts (.fieldLink RX0 40 "PunchedTicket$Line" "holder" "[I") (List.mem_of_getElem? (i := 14) rfl)) (fun _ h9 => h9) rfl dX0_copy_119 ?_
  refine lv_iconst (v := 0) hx hb dX0_copy_122 (by decide) ?_
  refine lv_aload_n hx hb dX0_copy_123 rfl (lv_at hl 0 rfl) ?_
  refine va_get (D := D) (ci := 0) (v := .ref lhl) (C := RX0) (T := TX0) (N := 10) hx hb hts iX0 hown hK hP 0 rfl rfl 9 (by decide) (hts (.fieldLink RX0 40 "PunchedTicket$Line" "holder" "[I") (List.mem_of_getElem? (i := 14) rfl)) (fun _ h9 => h9) rfl dX0_copy_124 ?_
  refine lv_iconst (v := 0) hx hb dX0_copy_127 (by decide) ?_
  refine lv_bipush (v := 6) hx hb dX0_copy_128 (by decide) ?_
  refine va_copyi (ty := .int) hx hb (hml.trans hl.1.symm) hown (hts (.methodLink RX0 43 arraycopyName) (List.mem_of_getElem? (i := 4) rfl)) (hts (.native arraycopyName) (List.mem_of_getElem? (i := 5) rfl)) (hts (.static arraycopyName) (List.mem_of_getElem? (i := 6) rfl)) (hts (.initialized "java/lang/System") (List.mem_of_getElem? (i := 7) rfl)) hK hP hD hS 17 9 0 0 rfl rfl rfl rfl rfl (by decide) (by decide) (by decide) (by decide) (by decide) (fun _ _ => rfl) (by rw [hR]; decide) (by rw [hR]; decide) dX0_copy_130 (fun H locs hP hD hS => ?_)
  obtain ⟨f_8, ef_8⟩ : ∃ z : Nat → Int32, va_cpy dFhl lFhl (0 : Int32).toNatClampNeg (0 : Int32).toNatClampNeg (6 : Int32).toNatClampNeg = z := ⟨_, rfl⟩
  rw [ef_8] at hP hD
  have hP : va_P D vwCl [(h0, .inr (0, [.int dpe, .int dtk, .ref lho, .ref lli, .ref lki, .ref lfd, .ref lfr, .ref lto, .ref lse, .ref lhl])), (h1, .inr (0, [.int dpe, .int dtk, .ref dho, .ref dli, .ref dki, .ref dfd, .ref dfr, .ref dto, .ref dse, .ref dhl])), (lho, .inl (cI, 5, .inl f_1)), (lli, .inl (cI, 5, .inl f_2)), (lki, .inl (cI, 5, .inl f_3)), (lfd, .inl (cI, 7, .inl f_4)), (lfr, .inl (cI, 7, .inl f_5)), (lto, .inl (cI, 7, .inl f_6)), (lse, .inl (cI, 7, .inl f_7)), (lhl, .inl (cI, 7, .inl f_8)), (dho, .inl (cI, 5, .inl dFho)), (dli, .inl (cI, 5, .inl dFli)), (dki, .inl (cI, 5, .inl dFki)), (dfd, .inl (cI, 7, .inl dFfd)), (dfr, .inl (cI, 7, .inl dFfr)), (dto, .inl (cI, 7, .inl dFto)), (dse, .inl (cI, 7, .inl dFse)), (dhl, .inl (cI, 7, .inl dFhl))] H := hP
  have hD : va_D A [(h0, .inr (0, [.int dpe, .int dtk, .ref lho, .ref lli, .ref lki, .ref lfd, .ref lfr, .ref lto, .ref lse, .ref lhl])), (h1, .inr (0, [.int dpe, .int dtk, .ref dho, .ref dli, .ref dki, .ref dfd, .ref dfr, .ref dto, .ref dse, .ref dhl])), (lho, .inl (cI, 5, .inl f_1)), (lli, .inl (cI, 5, .inl f_2)), (lki, .inl (cI, 5, .inl f_3)), (lfd, .inl (cI, 7, .inl f_4)), (lfr, .inl (cI, 7, .inl f_5)), (lto, .inl (cI, 7, .inl f_6)), (lse, .inl (cI, 7, .inl f_7)), (lhl, .inl (cI, 7, .inl f_8)), (dho, .inl (cI, 5, .inl dFho)), (dli, .inl (cI, 5, .inl dFli)), (dki, .inl (cI, 5, .inl dFki)), (dfd, .inl (cI, 7, .inl dFfd)), (dfr, .inl (cI, 7, .inl dFfr)), (dto, .inl (cI, 7, .inl dFto)), (dse, .inl (cI, 7, .inl dFse)), (dhl, .inl (cI, 7, .inl dFhl))] := hD
  exact ret_v (post := (fun (u : (Nat → Int32) × (Nat → Int32) × (Nat → Int32) × (Nat → Int32) × (Nat → Int32) × (Nat → Int32) × (Nat → Int32) × (Nat → Int32)) => True)) (W1 := (fun u => [(h0, .inr (0, [.int dpe, .int dtk, .ref lho, .ref lli, .ref lki, .ref lfd, .ref lfr, .ref lto, .ref lse, .ref lhl])), (h1, .inr (0, [.int dpe, .int dtk, .ref dho, .ref dli, .ref dki, .ref dfd, .ref dfr, .ref dto, .ref dse, .ref dhl])), (lho, .inl (cI, 5, .inl u.1)), (lli, .inl (cI, 5, .inl u.2.1)), (lki, .inl (cI, 5, .inl u.2.2.1)), (lfd, .inl (cI, 7, .inl u.2.2.2.1)), (lfr, .inl (cI, 7, .inl u.2.2.2.2.1)), (lto, .inl (cI, 7, .inl u.2.2.2.2.2.1)), (lse, .inl (cI, 7, .inl u.2.2.2.2.2.2.1)), (lhl, .inl (cI, 7, .inl u.2.2.2.2.2.2.2)), (dho, .inl (cI, 5, .inl dFho)), (dli, .inl (cI, 5, .inl dFli)), (dki, .inl (cI, 5, .inl dFki)), (dfd, .inl (cI, 7, .inl dFfd)), (dfr, .inl (cI, 7, .inl dFfr)), (dto, .inl (cI, 7, .inl dFto)), (dse, .inl (cI, 7, .inl dFse)), (dhl, .inl (cI, 7, .inl dFhl))])) (f_1, f_2, f_3, f_4, f_5, f_6, f_7, f_8) hx hb hr hlocks hQ hK hP hD hS ⟨by decide, by decide⟩ dX0_copy_133 trivial

set_option maxHeartbeats 600000 in
set_option maxRecDepth 100000 in
theorem c_J6_bitCount (l : Launch) (D : va_G) (cI cZ cM : ClassId) (n : Int32) (sz : Nat)  : Ci l yJ6_bitCount_0f7a4 wsJ6_bitCount_0f7a4 ({ frames := 0, cells := 0, slots := 0, locals := 0 } : Room) D cI cZ cM [.int n] [] sz (fun (r : Int32) (u : Unit) => 0 ≤ r.toInt ∧ r.toInt ≤ 63) (fun u => []) 0 0 := by
  refine begins (l := l) (y := yJ6_bitCount_0f7a4) (ws := wsJ6_bitCount_0f7a4) (av := [.int n]) (Qc := fun A => va_Qi (fun (r : Int32) (u : Unit) => 0 ≤ r.toInt ∧ r.toInt ≤ 63) (fun u => Wd D cI cZ cM A ((fun u => []) u)) A) cJ6_bitCount_0f7a4 1 (some .int) (by decide) rfl (Nat.le_of_ble_eq_true rfl) ?_
  intro p e s m args below meth c R Q A ls hBd hR hQ hA hS hK hP hD hl
  obtain ⟨hx, hb, hr, hts, hown, hlocks, hin, hml⟩ := hBd
  have hl : lv_has ls 1 [(0, .int n)] := hl
  refine lv_iload_n hx hb dJ6_bitCount_0f7a4_0 rfl (lv_at hl 0 rfl) ?_
  refine lv_iload_n hx hb dJ6_bitCount_0f7a4_1 rfl (lv_at hl 0 rfl) ?_
  refine lv_iconst (v := 1) hx hb dJ6_bitCount_0f7a4_2 (by decide) ?_
  obtain ⟨v_1, ev_1⟩ : ∃ z : Int32, ((n : Int32).toUInt32 >>> ((1 : Int32).toUInt32 &&& Int32.toUInt32 31)).toInt32 = z := ⟨_, rfl⟩
  refine lv_iushr hx hb dJ6_bitCount_0f7a4_3 ev_1 ?_
  refine lv_ldcw (v := 1431655765) hx hb hown (hts (.constant RJ6 265 (1431655765)) (List.mem_of_getElem? (i := 1) rfl)) dJ6_bitCount_0f7a4_4 ?_
  refine lv_iand hx hb dJ6_bitCount_0f7a4_7 ?_
  refine lv_topi (fun v_2 ev_2 => ?_)
  refine lv_isub hx hb dJ6_bitCount_0f7a4_8 ?_
  refine lv_topi (fun v_3 ev_3 => ?_)
  refine lv_istore_n (lv' := [(0, .int v_3)]) hx hb dJ6_bitCount_0f7a4_9 rfl hl (by decide) rfl (fun ls hl => ?_)
  refine lv_iload_n hx hb dJ6_bitCount_0f7a4_10 rfl (lv_at hl 0 rfl) ?_
  refine lv_ldcw (v := 858993459) hx hb hown (hts (.constant RJ6 266 (858993459)) (List.mem_of_getElem? (i := 2) rfl)) dJ6_bitCount_0f7a4_11 ?_
  refine lv_iand hx hb dJ6_bitCount_0f7a4_14 ?_
  refine lv_topi (fun v_4 ev_4 => ?_)
  refine lv_iload_n hx hb dJ6_bitCount_0f7a4_15 rfl (lv_at hl 0 rfl) ?_
  refine lv_iconst (v := 2) hx hb dJ6_bitCount_0f7a4_16 (by decide) ?_
  obtain ⟨v_5, ev_5⟩ : ∃ z : Int32, ((v_3 : Int32).toUInt32 >>> ((2 : Int32).toUInt32 &&& Int32.toUInt32 31)).toInt32 = z := ⟨_, rfl⟩
  refine lv_iushr hx hb dJ6_bitCount_0f7a4_17 ev_5 ?_
  refine lv_ldcw (v := 858993459) hx hb hown (hts (.constant RJ6 266 (858993459)) (List.mem_of_getElem? (i := 2) rfl)) dJ6_bitCount_0f7a4_18 ?_
  refine lv_iand hx hb dJ6_bitCount_0f7a4_21 ?_
  refine lv_topi (fun v_6 ev_6 => ?_)
  refine lv_iadd hx hb dJ6_bitCount_0f7a4_22 ?_
  refine lv_topi (fun v_7 ev_7 => ?_)
  refine lv_istore_n (lv' := [(0, .int v_7)]) hx hb dJ6_bitCount_0f7a4_23 rfl hl (by decide) rfl (fun ls hl => ?_)
  refine lv_iload_n hx hb dJ6_bitCount_0f7a4_24 rfl (lv_at hl 0 rfl) ?_
  refine lv_iload_n hx hb dJ6_bitCount_0f7a4_25 rfl (lv_at hl 0 rfl) ?_
  refine lv_iconst (v := 4) hx hb dJ6_bitCount_0f7a4_26 (by decide) ?_
  obtain ⟨v_8, ev_8⟩ : ∃ z : Int32, ((v_7 : Int32).toUInt32 >>> ((4 : Int32).toUInt32 &&& Int32.toUInt32 31)).toInt32 = z := ⟨_, rfl⟩
  refine lv_iushr hx hb dJ6_bitCount_0f7a4_27 ev_8 ?_
  refine lv_iadd hx hb dJ6_bitCount_0f7a4_28 ?_
  refine lv_topi (fun v_9 ev_9 => ?_)
  refine lv_ldcw (v := 252645135) hx hb hown (hts (.constant RJ6 267 (252645135)) (List.mem_of_getElem? (i := 3) rfl)) dJ6_bitCount_0f7a4_29 ?_
  refine lv_iand hx hb dJ6_bitCount_0f7a4_32 ?_
  refine lv_topi (fun v_10 ev_10 => ?_)
  refine lv_istore_n (lv' := [(0, .int v_10)]) hx hb dJ6_bitCount_0f7a4_33 rfl hl (by decide) rfl (fun ls hl => ?_)
  refine lv_iload_n hx hb dJ6_bitCount_0f7a4_34 rfl (lv_at hl 0 rfl) ?_
  refine lv_iload_n hx hb dJ6_bitCount_0f7a4_35 rfl (lv_at hl 0 rfl) ?_
  refine lv_bipush (v := 8) hx hb dJ6_bitCount_0f7a4_36 (by decide) ?_
  obtain ⟨v_11, ev_11⟩ : ∃ z : Int32, ((v_10 : Int32).toUInt32 >>> ((8 : Int32).toUInt32 &&& Int32.toUInt32 31)).toInt32 = z := ⟨_, rfl⟩
  refine lv_iushr hx hb dJ6_bitCount_0f7a4_38 ev_11 ?_
  refine lv_iadd hx hb dJ6_bitCount_0f7a4_39 ?_
  refine lv_topi (fun v_12 ev_12 => ?_)
  refine lv_istore_n (lv' := [(0, .int v_12)]) hx hb dJ6_bitCount_0f7a4_40 rfl hl (by decide) rfl (fun ls hl => ?_)
  refine lv_iload_n hx hb dJ6_bitCount_0f7a4_41 rfl (lv_at hl 0 rfl) ?_
  refine lv_iload_n hx hb dJ6_bitCount_0f7a4_42 rfl (lv_at hl 0 rfl) ?_
  refine lv_bipush (v := 16) hx hb dJ6_bitCount_0f7a4_43 (by decide) ?_
  obtain ⟨v_13, ev_13⟩ : ∃ z : Int32, ((v_12 : Int32).toUInt32 >>> ((16 : Int32).toUInt32 &&& Int32.toUInt32 31)).toInt32 = z := ⟨_, rfl⟩
  refine lv_iushr hx hb dJ6_bitCount_0f7a4_45 ev_13 ?_
  refine lv_iadd hx hb dJ6_bitCount_0f7a4_46 ?_
  refine lv_topi (fun v_14 ev_14 => ?_)
  refine lv_istore_n (lv' := [(0, .int v_14)]) hx hb dJ6_bitCount_0f7a4_47 rfl hl (by decide) rfl (fun ls hl => ?_)
  refine lv_iload_n hx hb dJ6_bitCount_0f7a4_48 rfl (lv_at hl 0 rfl) ?_
  refine lv_bipush (v := 63) hx hb dJ6_bitCount_0f7a4_49 (by decide) ?_
  refine lv_iand hx hb dJ6_bitCount_0f7a4_51 ?_
  refine lv_topi (fun v_15 ev_15 => ?_)
  exact ret_i (post := (fun (r : Int32) (u : Unit) => 0 ≤ r.toInt ∧ r.toInt ≤ 63)) (W1 := (fun u => [])) () hx hb hr hlocks rfl hQ hK hP hD hS ⟨by decide, by decide⟩ dJ6_bitCount_0f7a4_52 (by have h := and63 (v := v_15) ev_15; exact h)

set_option maxHeartbeats 600000 in
set_option maxRecDepth 100000 in
theorem c_X3_factorial (l : Launch) (D : va_G) (cI cZ cM : ClassId) (n : Int32) (sz : Nat) (h_n : -100 ≤ n.toInt ∧ n.toInt ≤ 100) : Ci l yX3_factorial wsX3_factorial ({ frames := 0, cells := 0, slots := 0, locals := 0 } : Room) D cI cZ cM [.int n] [] sz (fun (r : Int32) (u : Unit) => True) (fun u => []) 0 0 := by
  refine begins (l := l) (y := yX3_factorial) (ws := wsX3_factorial) (av := [.int n]) (Qc := fun A => va_Qi (fun (r : Int32) (u : Unit) => True) (fun u => Wd D cI cZ cM A ((fun u => []) u)) A) cX3_factorial 3 (some .int) (by decide) rfl (Nat.le_of_ble_eq_true rfl) ?_
  intro p e s m args below meth c R Q A ls hBd hR hQ hA hS hK hP hD hl
  obtain ⟨hx, hb, hr, hts, hown, hlocks, hin, hml⟩ := hBd
  have hl : lv_has ls 3 [(0, .int n)] := hl
  obtain ⟨h_na, h_nb⟩ := h_n
  refine lv_iconst (v := 1) hx hb dX3_factorial_0 (by decide) ?_
  refine lv_istore_n (lv' := [(1, .int 1), (0, .int n)]) hx hb dX3_factorial_1 rfl hl (by decide) rfl (fun ls hl => ?_)
  refine lv_iconst (v := 2) hx hb dX3_factorial_2 (by decide) ?_
  refine lv_istore_n (lv' := [(2, .int 2), (1, .int 1), (0, .int n)]) hx hb dX3_factorial_3 rfl hl (by decide) rfl (fun ls hl => ?_)
  have LOOP_1 : ∀ (fu_1 : Nat) (w1 : Int32) (x2 : Int32) (H : Heap) (locs : List Loc) (ls : Array Slot), (101 - x2.toInt).toNat < fu_1 → (2 ≤ x2.toInt ∧ x2.toInt ≤ 101) → va_P D vwCl [] H → va_D A [] → va_S A s.heap H locs → lv_has ls 3 [(0, .int n), (1, .int w1), (2, .int x2)] → W p l e R s m args below meth c H locs 0 0 Q (F0 m 4 ls []) := by
    intro fu_1
    induction fu_1 with
    | zero => intro w1 x2 H locs ls hmu; exact absurd hmu (Nat.not_lt_zero _)
    | succ fu_1 ih =>
      intro w1 x2 H locs ls hmu h_x2 hP hD hS hl
      obtain ⟨h_x2a, h_x2b⟩ := h_x2
      have ih_2 := ih
      clear ih
      refine lv_iload_n hx hb dX3_factorial_4 rfl (lv_at hl 2 rfl) ?_
      refine lv_iload_n hx hb dX3_factorial_5 rfl (lv_at hl 0 rfl) ?_
      refine lv_icmp_gt (tgt := 19) hx hb dX3_factorial_6 (by decide) (fun c_3 => ?_) (fun c_3 => ?_)
      · have tc_3 := b_lt rfl rfl c_3
        refine lv_iload_n hx hb dX3_factorial_19 rfl (lv_at hl 1 rfl) ?_
        exact ret_i (post := (fun (r : Int32) (u : Unit) => True)) (W1 := (fun u => [])) () hx hb hr hlocks rfl hQ hK hP hD hS ⟨by decide, by decide⟩ dX3_factorial_20 trivial
      · have tc_3 := b_nlt rfl rfl c_3
        refine lv_iload_n hx hb dX3_factorial_9 rfl (lv_at hl 1 rfl) ?_
        refine lv_iload_n hx hb dX3_factorial_10 rfl (lv_at hl 2 rfl) ?_
        refine lv_imul hx hb dX3_factorial_11 ?_
        refine lv_topi (fun v_4 ev_4 => ?_)
        refine lv_istore_n (lv' := [(1, .int v_4), (0, .int n), (2, .int x2)]) hx hb dX3_factorial_12 rfl hl (by decide) rfl (fun ls hl => ?_)
        obtain ⟨v_5, ev_5⟩ : ∃ z : Int32, z = x2 + 1 := ⟨_, rfl⟩
        have tv_5 : v_5.toInt = x2.toInt + 1 := by rw [ev_5]; exact ti_add (x := x2) (y := 1) (show -2147483648 ≤ x2.toInt + 1 by omega) (show x2.toInt + 1 < 2147483648 by omega)
        refine lv_iinc (v := v_5) (lv' := [(2, .int v_5), (1, .int v_4), (0, .int n)]) hx hb dX3_factorial_13 hl (k := 2) rfl (by rw [ev_5]; rfl) (by decide) rfl (fun ls hl => ?_)
        refine lv_goto (tgt := 4) hx hb dX3_factorial_16 (by decide) ?_
        exact ih_2 v_4 v_5 _ _ _ (show (101 - v_5.toInt).toNat < fu_1 by omega) (show 2 ≤ v_5.toInt ∧ v_5.toInt ≤ 101 by omega) hP hD hS (lv_sub hl [2, 1, 0] rfl)
  exact LOOP_1 _ 1 2 _ _ _ (Nat.lt_succ_self _) (by decide) hP hD hS (lv_sub hl [2, 1, 0] rfl)

set_option maxHeartbeats 600000 in
set_option maxRecDepth 100000 in
theorem c_X3_power (l : Launch) (D : va_G) (cI cZ cM : ClassId) (n : Int32) (k : Int32) (sz : Nat) (h_k : -100 ≤ k.toInt ∧ k.toInt ≤ 100) : Ci l yX3_power wsX3_power ({ frames := 0, cells := 0, slots := 0, locals := 0 } : Room) D cI cZ cM [.int n, .int k] [] sz (fun (r : Int32) (u : Unit) => True) (fun u => []) 0 0 := by
  refine begins (l := l) (y := yX3_power) (ws := wsX3_power) (av := [.int n, .int k]) (Qc := fun A => va_Qi (fun (r : Int32) (u : Unit) => True) (fun u => Wd D cI cZ cM A ((fun u => []) u)) A) cX3_power 4 (some .int) (by decide) rfl (Nat.le_of_ble_eq_true rfl) ?_
  intro p e s m args below meth c R Q A ls hBd hR hQ hA hS hK hP hD hl
  obtain ⟨hx, hb, hr, hts, hown, hlocks, hin, hml⟩ := hBd
  have hl : lv_has ls 4 [(0, .int n), (1, .int k)] := hl
  obtain ⟨h_ka, h_kb⟩ := h_k
  refine lv_iconst (v := 1) hx hb dX3_power_0 (by decide) ?_
  refine lv_istore_n (lv' := [(2, .int 1), (0, .int n), (1, .int k)]) hx hb dX3_power_1 rfl hl (by decide) rfl (fun ls hl => ?_)
  refine lv_iconst (v := 0) hx hb dX3_power_2 (by decide) ?_
  refine lv_istore_n (lv' := [(3, .int 0), (2, .int 1), (0, .int n), (1, .int k)]) hx hb dX3_power_3 rfl hl (by decide) rfl (fun ls hl => ?_)
  have LOOP_1 : ∀ (fu_1 : Nat) (w2 : Int32) (x3 : Int32) (H : Heap) (locs : List Loc) (ls : Array Slot), (100 - x3.toInt).toNat < fu_1 → (0 ≤ x3.toInt ∧ x3.toInt ≤ 100) → va_P D vwCl [] H → va_D A [] → va_S A s.heap H locs → lv_has ls 4 [(0, .int n), (1, .int k), (2, .int w2), (3, .int x3)] → W p l e R s m args below meth c H locs 0 0 Q (F0 m 4 ls []) := by
    intro fu_1
    induction fu_1 with
    | zero => intro w2 x3 H locs ls hmu; exact absurd hmu (Nat.not_lt_zero _)
    | succ fu_1 ih =>
      intro w2 x3 H locs ls hmu h_x3 hP hD hS hl
      obtain ⟨h_x3a, h_x3b⟩ := h_x3
      have ih_2 := ih
      clear ih
      refine lv_iload_n hx hb dX3_power_4 rfl (lv_at hl 3 rfl) ?_
      refine lv_iload_n hx hb dX3_power_5 rfl (lv_at hl 1 rfl) ?_
      refine lv_icmp_ge (tgt := 19) hx hb dX3_power_6 (by decide) (fun c_3 => ?_) (fun c_3 => ?_)
      · have tc_3 := b_le rfl rfl c_3
        refine lv_iload_n hx hb dX3_power_19 rfl (lv_at hl 2 rfl) ?_
        exact ret_i (post := (fun (r : Int32) (u : Unit) => True)) (W1 := (fun u => [])) () hx hb hr hlocks rfl hQ hK hP hD hS ⟨by decide, by decide⟩ dX3_power_20 trivial
      · have tc_3 := b_nle rfl rfl c_3
        refine lv_iload_n hx hb dX3_power_9 rfl (lv_at hl 2 rfl) ?_
        refine lv_iload_n hx hb dX3_power_10 rfl (lv_at hl 0 rfl) ?_
        refine lv_imul hx hb dX3_power_11 ?_
        refine lv_topi (fun v_4 ev_4 => ?_)
        refine lv_istore_n (lv' := [(2, .int v_4), (0, .int n), (1, .int k), (3, .int x3)]) hx hb dX3_power_12 rfl hl (by decide) rfl (fun ls hl => ?_)
        obtain ⟨v_5, ev_5⟩ : ∃ z : Int32, z = x3 + 1 := ⟨_, rfl⟩
        have tv_5 : v_5.toInt = x3.toInt + 1 := by rw [ev_5]; exact ti_add (x := x3) (y := 1) (show -2147483648 ≤ x3.toInt + 1 by omega) (show x3.toInt + 1 < 2147483648 by omega)
        refine lv_iinc (v := v_5) (lv' := [(3, .int v_5), (2, .int v_4), (0, .int n), (1, .int k)]) hx hb dX3_power_13 hl (k := 3) rfl (by rw [ev_5]; rfl) (by decide) rfl (fun ls hl => ?_)
        refine lv_goto (tgt := 4) hx hb dX3_power_16 (by decide) ?_
        exact ih_2 v_4 v_5 _ _ _ (show (100 - v_5.toInt).toNat < fu_1 by omega) (show 0 ≤ v_5.toInt ∧ v_5.toInt ≤ 100 by omega) hP hD hS (lv_sub hl [2, 3, 1, 0] rfl)
  exact LOOP_1 _ 1 0 _ _ _ (Nat.lt_succ_self _) (by decide) hP hD hS (lv_sub hl [2, 3, 1, 0] rfl)

set_option maxHeartbeats 600000 in
set_option maxRecDepth 100000 in
theorem c_X3_commonDivisor (l : Launch) (D : va_G) (cI cZ cM : ClassId) (n : Int32) (k : Int32) (sz : Nat)  : Ci l yX3_commonDivisor wsX3_commonDivisor ({ frames := 0, cells := 0, slots := 0, locals := 0 } : Room) D cI cZ cM [.int n, .int k] [] sz (fun (r : Int32) (u : Unit) => True) (fun u => []) 0 0 := by
  refine begins (l := l) (y := yX3_commonDivisor) (ws := wsX3_commonDivisor) (av := [.int n, .int k]) (Qc := fun A => va_Qi (fun (r : Int32) (u : Unit) => True) (fun u => Wd D cI cZ cM A ((fun u => []) u)) A) cX3_commonDivisor 6 (some .int) (by decide) rfl (Nat.le_of_ble_eq_true rfl) ?_
  intro p e s m args below meth c R Q A ls hBd hR hQ hA hS hK hP hD hl
  obtain ⟨hx, hb, hr, hts, hown, hlocks, hin, hml⟩ := hBd
  have hl : lv_has ls 6 [(0, .int n), (1, .int k)] := hl
  refine lv_iload_n hx hb dX3_commonDivisor_0 rfl (lv_at hl 0 rfl) ?_
  refine lv_istore_n (lv' := [(2, .int n), (0, .int n), (1, .int k)]) hx hb dX3_commonDivisor_1 rfl hl (by decide) rfl (fun ls hl => ?_)
  refine lv_iload_n hx hb dX3_commonDivisor_2 rfl (lv_at hl 2 rfl) ?_
  refine lv_istore_n (lv' := [(3, .int k), (2, .int n), (0, .int n), (1, .int k)]) hx hb dX3_commonDivisor_3 rfl hl (by decide) rfl (fun ls hl => ?_)
  refine lv_iconst (v := 0) hx hb dX3_commonDivisor_4 (by decide) ?_
  refine lv_istore (lv' := [(4, .int 0), (3, .int k), (2, .int n), (0, .int n), (1, .int k)]) hx hb dX3_commonDivisor_5 hl (by decide) rfl (fun ls hl => ?_)
  have LOOP_1 : ∀ (fu_1 : Nat) (w2 : Int32) (w3 : Int32) (x4 : Int32) (H : Heap) (locs : List Loc) (ls : Array Slot), (64 - x4.toInt).toNat < fu_1 → (0 ≤ x4.toInt ∧ x4.toInt ≤ 64) → va_P D vwCl [] H → va_D A [] → va_S A s.heap H locs → lv_has ls 6 [(0, .int n), (1, .int k), (2, .int w2), (3, .int w3), (4, .int x4)] → W p l e R s m args below meth c H locs 0 0 Q (F0 m 7 ls []) := by
    intro fu_1
    induction fu_1 with
    | zero => intro w2 w3 x4 H locs ls hmu; exact absurd hmu (Nat.not_lt_zero _)
    | succ fu_1 ih =>
      intro w2 w3 x4 H locs ls hmu h_x4 hP hD hS hl
      obtain ⟨h_x4a, h_x4b⟩ := h_x4
      have ih_2 := ih
      clear ih
      refine lv_iload hx hb dX3_commonDivisor_7 (lv_at hl 4 rfl) ?_
      refine lv_bipush (v := 64) hx hb dX3_commonDivisor_9 (by decide) ?_
      refine lv_icmp_ge (tgt := 34) hx hb dX3_commonDivisor_11 (by decide) (fun c_3 => ?_) (fun c_3 => ?_)
      · have tc_3 := b_le (show (64 : Int32).toInt = 64 by decide) rfl c_3
        refine lv_iload_n hx hb dX3_commonDivisor_34 rfl (lv_at hl 2 rfl) ?_
        exact ret_i (post := (fun (r : Int32) (u : Unit) => True)) (W1 := (fun u => [])) () hx hb hr hlocks rfl hQ hK hP hD hS ⟨by decide, by decide⟩ dX3_commonDivisor_35 trivial
      · have tc_3 := b_nle (show (64 : Int32).toInt = 64 by decide) rfl c_3
        refine lv_iload_n hx hb dX3_commonDivisor_14 rfl (lv_at hl 3 rfl) ?_
        refine lv_if_eq (tgt := 34) hx hb dX3_commonDivisor_15 (by decide) (fun c_4 => ?_) (fun c_4 => ?_)
        · have tc_4 := b_eq rfl (show (0 : Int32).toInt = 0 by decide) c_4
          refine lv_iload_n hx hb dX3_commonDivisor_34 rfl (lv_at hl 2 rfl) ?_
          exact ret_i (post := (fun (r : Int32) (u : Unit) => True)) (W1 := (fun u => [])) () hx hb hr hlocks rfl hQ hK hP hD hS ⟨by decide, by decide⟩ dX3_commonDivisor_35 trivial
        · have tc_4 := b_ne rfl (show (0 : Int32).toInt = 0 by decide) c_4
          refine lv_iload_n hx hb dX3_commonDivisor_18 rfl (lv_at hl 2 rfl) ?_
          refine lv_iload_n hx hb dX3_commonDivisor_19 rfl (lv_at hl 3 rfl) ?_
          refine lv_irem hx hb dX3_commonDivisor_20 (fun z0 => absurd (b_eq rfl (show (0 : Int32).toInt = 0 by decide) z0) (show w3.toInt ≠ 0 by omega)) ?_
          refine lv_topi (fun v_5 ev_5 => ?_)
          refine lv_istore (lv' := [(5, .int v_5), (0, .int n), (1, .int k), (2, .int w2), (3, .int w3), (4, .int x4)]) hx hb dX3_commonDivisor_21 hl (by decide) rfl (fun ls hl => ?_)
          refine lv_iload_n hx hb dX3_commonDivisor_23 rfl (lv_at hl 4 rfl) ?_
          refine lv_istore_n (lv' := [(2, .int w3), (5, .int v_5), (0, .int n), (1, .int k), (3, .int w3), (4, .int x4)]) hx hb dX3_commonDivisor_24 rfl hl (by decide) rfl (fun ls hl => ?_)
          refine lv_iload hx hb dX3_commonDivisor_25 (lv_at hl 1 rfl) ?_
          refine lv_istore_n (lv' := [(3, .int v_5), (2, .int w3), (5, .int v_5), (0, .int n), (1, .int k), (4, .int x4)]) hx hb dX3_commonDivisor_27 rfl hl (by decide) rfl (fun ls hl => ?_)
          obtain ⟨v_6, ev_6⟩ : ∃ z : Int32, z = x4 + 1 := ⟨_, rfl⟩
          have tv_6 : v_6.toInt = x4.toInt + 1 := by rw [ev_6]; exact ti_add (x := x4) (y := 1) (show -2147483648 ≤ x4.toInt + 1 by omega) (show x4.toInt + 1 < 2147483648 by omega)
          refine lv_iinc (v := v_6) (lv' := [(4, .int v_6), (3, .int v_5), (2, .int w3), (5, .int v_5), (0, .int n), (1, .int k)]) hx hb dX3_commonDivisor_28 hl (k := 5) rfl (by rw [ev_6]; rfl) (by decide) rfl (fun ls hl => ?_)
          refine lv_goto (tgt := 7) hx hb dX3_commonDivisor_31 (by decide) ?_
          exact ih_2 w3 v_5 v_6 _ _ _ (show (64 - v_6.toInt).toNat < fu_1 by omega) (show 0 ≤ v_6.toInt ∧ v_6.toInt ≤ 64 by omega) hP hD hS (lv_sub hl [4, 5, 2, 1, 0] rfl)
  exact LOOP_1 _ n k 0 _ _ _ (Nat.lt_succ_self _) (by decide) hP hD hS (lv_sub hl [3, 4, 2, 1, 0] rfl)

set_option maxHeartbeats 600000 in
set_option maxRecDepth 100000 in
theorem c_X3_fraction (l : Launch) (D : va_G) (cI cZ cM : ClassId) (n : Int32) (k : Int32) (z : Int32) (sz : Nat)  : Ci l yX3_fraction wsX3_fraction ({ frames := 1, cells := 0, slots := 0, locals := 25 } : Room) D cI cZ cM [.int n, .int k, .int z] [] sz (fun (r : Int32) (u : Unit) => True) (fun u => []) 0 0 := by
  refine begins (l := l) (y := yX3_fraction) (ws := wsX3_fraction) (av := [.int n, .int k, .int z]) (Qc := fun A => va_Qi (fun (r : Int32) (u : Unit) => True) (fun u => Wd D cI cZ cM A ((fun u => []) u)) A) cX3_fraction 4 (some .int) (by decide) rfl (Nat.le_of_ble_eq_true rfl) ?_
  intro p e s m args below meth c R Q A ls hBd hR hQ hA hS hK hP hD hl
  obtain ⟨hx, hb, hr, hts, hown, hlocks, hin, hml⟩ := hBd
  have hl : lv_has ls 4 [(0, .int n), (1, .int k), (2, .int z)] := hl
  refine lv_iload_n hx hb dX3_fraction_0 rfl (lv_at hl 0 rfl) ?_
  refine va_mabs hx hb (hml.trans hl.1.symm) hown (hts (.methodLink RX3 288 Lib.Math.abs.name) (List.mem_of_getElem? (i := 1) rfl)) (hts (.static Lib.Math.abs.name) (List.mem_of_getElem? (i := 2) rfl)) (hts (.initialized "java/lang/Math") (List.mem_of_getElem? (i := 3) rfl)) (hts (.code Lib.Math.abs.name Lib.Math.abs.code 1 (some .int)) (List.mem_of_getElem? (i := 4) rfl)) (by rw [hR]; exact Nat.le_of_ble_eq_true rfl) (by rw [hR]; exact Nat.le_of_ble_eq_true rfl) (by rw [hR]; exact Nat.le_of_ble_eq_true rfl) (by rw [hR]; exact Nat.le_of_ble_eq_true rfl) dX3_fraction_1 ?_
  refine lv_topi (fun v_1 ev_1 => ?_)
  refine lv_iload_n hx hb dX3_fraction_4 rfl (lv_at hl 1 rfl) ?_
  refine cS_i (As := [.int v_1, .int k]) (rest := []) ⟨hx, hb, hml, hown, hts⟩ (c_X3_commonDivisor l D cI cZ cM v_1 k _ ) (va_cwS 2 hts gX3_fraction_X3_commonDivisor rfl rfl rfl (by decide +kernel) ⟨by rw [hR]; decide, by rw [hR]; decide⟩) hK hP hD hS hA [] [] rfl rfl (by decide) (by decide) (by decide) hl.1 rfl rfl (Nat.le_of_ble_eq_true rfl) dX3_fraction_5 ⟨by rw [hR]; decide, by rw [hR]; decide⟩ (fun r_2 u_3 H locs hw hP hD hS => ?_)
  have hP : va_P D vwCl [] H := hP.sub [] rfl
  have hD : va_D A [] := hD.sub [] (by decide) rfl
  refine W.widen (k := 0) (n := 0) (Nat.le_refl _) (Nat.le_refl _) ?_
  refine lv_istore_n (lv' := [(3, .int r_2), (0, .int n), (1, .int k), (2, .int z)]) hx hb dX3_fraction_8 rfl hl (by decide) rfl (fun ls hl => ?_)
  refine lv_iload_n hx hb dX3_fraction_9 rfl (lv_at hl 0 rfl) ?_
  refine lv_if_ne (tgt := 15) hx hb dX3_fraction_10 (by decide) (fun c_4 => ?_) (fun c_4 => ?_)
  · have tc_4 := b_ne rfl (show (0 : Int32).toInt = 0 by decide) c_4
    refine lv_iload_n hx hb dX3_fraction_15 rfl (lv_at hl 3 rfl) ?_
    refine lv_if_eq (tgt := 23) hx hb dX3_fraction_16 (by decide) (fun c_5 => ?_) (fun c_5 => ?_)
    · have tc_5 := b_eq rfl (show (0 : Int32).toInt = 0 by decide) c_5
      refine lv_iload_n hx hb dX3_fraction_23 rfl (lv_at hl 2 rfl) ?_
      refine lv_iload_n hx hb dX3_fraction_24 rfl (lv_at hl 0 rfl) ?_
      refine lv_idiv hx hb dX3_fraction_25 (fun z0 => absurd (b_eq rfl (show (0 : Int32).toInt = 0 by decide) z0) (show r_2.toInt ≠ 0 by omega)) ?_
      refine lv_topi (fun v_6 ev_6 => ?_)
      exact ret_i (post := (fun (r : Int32) (u : Unit) => True)) (W1 := (fun u => [])) () hx hb hr hlocks rfl hQ hK hP hD hS ⟨by decide, by decide⟩ dX3_fraction_26 trivial
    · have tc_5 := b_ne rfl (show (0 : Int32).toInt = 0 by decide) c_5
      refine lv_iload_n hx hb dX3_fraction_19 rfl (lv_at hl 1 rfl) ?_
      refine lv_goto (tgt := 24) hx hb dX3_fraction_20 (by decide) ?_
      refine lv_iload_n hx hb dX3_fraction_24 rfl (lv_at hl 0 rfl) ?_
      refine lv_idiv hx hb dX3_fraction_25 (fun z0 => absurd (b_eq rfl (show (0 : Int32).toInt = 0 by decide) z0) (show r_2.toInt ≠ 0 by omega)) ?_
      refine lv_topi (fun v_7 ev_7 => ?_)
      exact ret_i (post := (fun (r : Int32) (u : Unit) => True)) (W1 := (fun u => [])) () hx hb hr hlocks rfl hQ hK hP hD hS ⟨by decide, by decide⟩ dX3_fraction_26 trivial
  · have tc_4 := b_eq rfl (show (0 : Int32).toInt = 0 by decide) c_4
    refine lv_iconst (v := 0) hx hb dX3_fraction_13 (by decide) ?_
    exact ret_i (post := (fun (r : Int32) (u : Unit) => True)) (W1 := (fun u => [])) () hx hb hr hlocks rfl hQ hK hP hD hS ⟨by decide, by decide⟩ dX3_fraction_14 trivial

set_option maxHeartbeats 600000 in
set_option maxRecDepth 100000 in
theorem c_X3_isStop (l : Launch) (D : va_G) (cI cZ cM : ClassId) (n : Int32) (sz : Nat)  : Ci l yX3_isStop wsX3_isStop ({ frames := 0, cells := 0, slots := 0, locals := 0 } : Room) D cI cZ cM [.int n] [] sz (fun (r : Int32) (u : Unit) => (r.toInt = 1 ∧ 0 ≤ n.toInt ∧ n.toInt < 10) ∨ (r.toInt = 0 ∧ (n.toInt < 0 ∨ 10 ≤ n.toInt))) (fun u => []) 0 0 := by
  refine begins (l := l) (y := yX3_isStop) (ws := wsX3_isStop) (av := [.int n]) (Qc := fun A => va_Qi (fun (r : Int32) (u : Unit) => (r.toInt = 1 ∧ 0 ≤ n.toInt ∧ n.toInt < 10) ∨ (r.toInt = 0 ∧ (n.toInt < 0 ∨ 10 ≤ n.toInt))) (fun u => Wd D cI cZ cM A ((fun u => []) u)) A) cX3_isStop 1 (some .boolean) (by decide) rfl (Nat.le_of_ble_eq_true rfl) ?_
  intro p e s m args below meth c R Q A ls hBd hR hQ hA hS hK hP hD hl
  obtain ⟨hx, hb, hr, hts, hown, hlocks, hin, hml⟩ := hBd
  have hl : lv_has ls 1 [(0, .int n)] := hl
  refine lv_iload_n hx hb dX3_isStop_0 rfl (lv_at hl 0 rfl) ?_
  refine lv_if_lt (tgt := 14) hx hb dX3_isStop_1 (by decide) (fun c_1 => ?_) (fun c_1 => ?_)
  · have tc_1 := b_lt rfl (show (0 : Int32).toInt = 0 by decide) c_1
    refine lv_iconst (v := 0) hx hb dX3_isStop_14 (by decide) ?_
    exact ret_i (post := (fun (r : Int32) (u : Unit) => (r.toInt = 1 ∧ 0 ≤ n.toInt ∧ n.toInt < 10) ∨ (r.toInt = 0 ∧ (n.toInt < 0 ∨ 10 ≤ n.toInt)))) (W1 := (fun u => [])) () hx hb hr hlocks rfl hQ hK hP hD hS ⟨by decide, by decide⟩ dX3_isStop_15 (show ((0 : Int) = 1 ∧ 0 ≤ n.toInt ∧ n.toInt < 10) ∨ ((0 : Int) = 0 ∧ (n.toInt < 0 ∨ 10 ≤ n.toInt)) by omega)
  · have tc_1 := b_nlt rfl (show (0 : Int32).toInt = 0 by decide) c_1
    refine lv_iload_n hx hb dX3_isStop_4 rfl (lv_at hl 0 rfl) ?_
    refine lv_bipush (v := 10) hx hb dX3_isStop_5 (by decide) ?_
    refine lv_icmp_ge (tgt := 14) hx hb dX3_isStop_7 (by decide) (fun c_2 => ?_) (fun c_2 => ?_)
    · have tc_2 := b_le (show (10 : Int32).toInt = 10 by decide) rfl c_2
      refine lv_iconst (v := 0) hx hb dX3_isStop_14 (by decide) ?_
      exact ret_i (post := (fun (r : Int32) (u : Unit) => (r.toInt = 1 ∧ 0 ≤ n.toInt ∧ n.toInt < 10) ∨ (r.toInt = 0 ∧ (n.toInt < 0 ∨ 10 ≤ n.toInt)))) (W1 := (fun u => [])) () hx hb hr hlocks rfl hQ hK hP hD hS ⟨by decide, by decide⟩ dX3_isStop_15 (show ((0 : Int) = 1 ∧ 0 ≤ n.toInt ∧ n.toInt < 10) ∨ ((0 : Int) = 0 ∧ (n.toInt < 0 ∨ 10 ≤ n.toInt)) by omega)
    · have tc_2 := b_nle (show (10 : Int32).toInt = 10 by decide) rfl c_2
      refine lv_iconst (v := 1) hx hb dX3_isStop_10 (by decide) ?_
      refine lv_goto (tgt := 15) hx hb dX3_isStop_11 (by decide) ?_
      exact ret_i (post := (fun (r : Int32) (u : Unit) => (r.toInt = 1 ∧ 0 ≤ n.toInt ∧ n.toInt < 10) ∨ (r.toInt = 0 ∧ (n.toInt < 0 ∨ 10 ≤ n.toInt)))) (W1 := (fun u => [])) () hx hb hr hlocks rfl hQ hK hP hD hS ⟨by decide, by decide⟩ dX3_isStop_15 (show ((1 : Int) = 1 ∧ 0 ≤ n.toInt ∧ n.toInt < 10) ∨ ((1 : Int) = 0 ∧ (n.toInt < 0 ∨ 10 ≤ n.toInt)) by omega)

set_option maxHeartbeats 600000 in
set_option maxRecDepth 100000 in
theorem c_X3_isSlot (l : Launch) (D : va_G) (cI cZ cM : ClassId) (n : Int32) (sz : Nat)  : Ci l yX3_isSlot wsX3_isSlot ({ frames := 0, cells := 0, slots := 0, locals := 0 } : Room) D cI cZ cM [.int n] [] sz (fun (r : Int32) (u : Unit) => (r.toInt = 1 ∧ 0 ≤ n.toInt ∧ n.toInt < 2) ∨ (r.toInt = 0 ∧ (n.toInt < 0 ∨ 2 ≤ n.toInt))) (fun u => []) 0 0 := by
  refine begins (l := l) (y := yX3_isSlot) (ws := wsX3_isSlot) (av := [.int n]) (Qc := fun A => va_Qi (fun (r : Int32) (u : Unit) => (r.toInt = 1 ∧ 0 ≤ n.toInt ∧ n.toInt < 2) ∨ (r.toInt = 0 ∧ (n.toInt < 0 ∨ 2 ≤ n.toInt))) (fun u => Wd D cI cZ cM A ((fun u => []) u)) A) cX3_isSlot 1 (some .boolean) (by decide) rfl (Nat.le_of_ble_eq_true rfl) ?_
  intro p e s m args below meth c R Q A ls hBd hR hQ hA hS hK hP hD hl
  obtain ⟨hx, hb, hr, hts, hown, hlocks, hin, hml⟩ := hBd
  have hl : lv_has ls 1 [(0, .int n)] := hl
  refine lv_iload_n hx hb dX3_isSlot_0 rfl (lv_at hl 0 rfl) ?_
  refine lv_if_lt (tgt := 13) hx hb dX3_isSlot_1 (by decide) (fun c_1 => ?_) (fun c_1 => ?_)
  · have tc_1 := b_lt rfl (show (0 : Int32).toInt = 0 by decide) c_1
    refine lv_iconst (v := 0) hx hb dX3_isSlot_13 (by decide) ?_
    exact ret_i (post := (fun (r : Int32) (u : Unit) => (r.toInt = 1 ∧ 0 ≤ n.toInt ∧ n.toInt < 2) ∨ (r.toInt = 0 ∧ (n.toInt < 0 ∨ 2 ≤ n.toInt)))) (W1 := (fun u => [])) () hx hb hr hlocks rfl hQ hK hP hD hS ⟨by decide, by decide⟩ dX3_isSlot_14 (show ((0 : Int) = 1 ∧ 0 ≤ n.toInt ∧ n.toInt < 2) ∨ ((0 : Int) = 0 ∧ (n.toInt < 0 ∨ 2 ≤ n.toInt)) by omega)
  · have tc_1 := b_nlt rfl (show (0 : Int32).toInt = 0 by decide) c_1
    refine lv_iload_n hx hb dX3_isSlot_4 rfl (lv_at hl 0 rfl) ?_
    refine lv_iconst (v := 2) hx hb dX3_isSlot_5 (by decide) ?_
    refine lv_icmp_ge (tgt := 13) hx hb dX3_isSlot_6 (by decide) (fun c_2 => ?_) (fun c_2 => ?_)
    · have tc_2 := b_le (show (2 : Int32).toInt = 2 by decide) rfl c_2
      refine lv_iconst (v := 0) hx hb dX3_isSlot_13 (by decide) ?_
      exact ret_i (post := (fun (r : Int32) (u : Unit) => (r.toInt = 1 ∧ 0 ≤ n.toInt ∧ n.toInt < 2) ∨ (r.toInt = 0 ∧ (n.toInt < 0 ∨ 2 ≤ n.toInt)))) (W1 := (fun u => [])) () hx hb hr hlocks rfl hQ hK hP hD hS ⟨by decide, by decide⟩ dX3_isSlot_14 (show ((0 : Int) = 1 ∧ 0 ≤ n.toInt ∧ n.toInt < 2) ∨ ((0 : Int) = 0 ∧ (n.toInt < 0 ∨ 2 ≤ n.toInt)) by omega)
    · have tc_2 := b_nle (show (2 : Int32).toInt = 2 by decide) rfl c_2
      refine lv_iconst (v := 1) hx hb dX3_isSlot_9 (by decide) ?_
      refine lv_goto (tgt := 14) hx hb dX3_isSlot_10 (by decide) ?_
      exact ret_i (post := (fun (r : Int32) (u : Unit) => (r.toInt = 1 ∧ 0 ≤ n.toInt ∧ n.toInt < 2) ∨ (r.toInt = 0 ∧ (n.toInt < 0 ∨ 2 ≤ n.toInt)))) (W1 := (fun u => [])) () hx hb hr hlocks rfl hQ hK hP hD hS ⟨by decide, by decide⟩ dX3_isSlot_14 (show ((1 : Int) = 1 ∧ 0 ≤ n.toInt ∧ n.toInt < 2) ∨ ((1 : Int) = 0 ∧ (n.toInt < 0 ∨ 2 ≤ n.toInt)) by omega)

set_option maxHeartbeats 600000 in
set_option maxRecDepth 100000 in
theorem c_X3_firstFreeSeat (l : Launch) (D : va_G) (cI cZ cM : ClassId) (n : Int32) (sz : Nat)  : Ci l yX3_firstFreeSeat wsX3_firstFreeSeat ({ frames := 0, cells := 0, slots := 0, locals := 0 } : Room) D cI cZ cM [.int n] [] sz (fun (r : Int32) (u : Unit) => True) (fun u => []) 0 0 := by
  refine begins (l := l) (y := yX3_firstFreeSeat) (ws := wsX3_firstFreeSeat) (av := [.int n]) (Qc := fun A => va_Qi (fun (r : Int32) (u : Unit) => True) (fun u => Wd D cI cZ cM A ((fun u => []) u)) A) cX3_firstFreeSeat 2 (some .int) (by decide) rfl (Nat.le_of_ble_eq_true rfl) ?_
  intro p e s m args below meth c R Q A ls hBd hR hQ hA hS hK hP hD hl
  obtain ⟨hx, hb, hr, hts, hown, hlocks, hin, hml⟩ := hBd
  have hl : lv_has ls 2 [(0, .int n)] := hl
  refine lv_iconst (v := 0) hx hb dX3_firstFreeSeat_0 (by decide) ?_
  refine lv_istore_n (lv' := [(1, .int 0), (0, .int n)]) hx hb dX3_firstFreeSeat_1 rfl hl (by decide) rfl (fun ls hl => ?_)
  have LOOP_1 : ∀ (fu_1 : Nat) (x1 : Int32) (H : Heap) (locs : List Loc) (ls : Array Slot), (10 - x1.toInt).toNat < fu_1 → (0 ≤ x1.toInt ∧ x1.toInt ≤ 10) → va_P D vwCl [] H → va_D A [] → va_S A s.heap H locs → lv_has ls 2 [(0, .int n), (1, .int x1)] → W p l e R s m args below meth c H locs 0 0 Q (F0 m 2 ls []) := by
    intro fu_1
    induction fu_1 with
    | zero => intro x1 H locs ls hmu; exact absurd hmu (Nat.not_lt_zero _)
    | succ fu_1 ih =>
      intro x1 H locs ls hmu h_x1 hP hD hS hl
      obtain ⟨h_x1a, h_x1b⟩ := h_x1
      have ih_2 := ih
      clear ih
      refine lv_iload_n hx hb dX3_firstFreeSeat_2 rfl (lv_at hl 1 rfl) ?_
      refine lv_bipush (v := 10) hx hb dX3_firstFreeSeat_3 (by decide) ?_
      refine lv_icmp_ge (tgt := 24) hx hb dX3_firstFreeSeat_5 (by decide) (fun c_3 => ?_) (fun c_3 => ?_)
      · have tc_3 := b_le (show (10 : Int32).toInt = 10 by decide) rfl c_3
        refine lv_bipush (v := (-9)) hx hb dX3_firstFreeSeat_24 (by decide) ?_
        exact ret_i (post := (fun (r : Int32) (u : Unit) => True)) (W1 := (fun u => [])) () hx hb hr hlocks rfl hQ hK hP hD hS ⟨by decide, by decide⟩ dX3_firstFreeSeat_26 trivial
      · have tc_3 := b_nle (show (10 : Int32).toInt = 10 by decide) rfl c_3
        refine lv_iload_n hx hb dX3_firstFreeSeat_8 rfl (lv_at hl 0 rfl) ?_
        refine lv_iload_n hx hb dX3_firstFreeSeat_9 rfl (lv_at hl 1 rfl) ?_
        refine lv_ishr hx hb dX3_firstFreeSeat_10 ?_
        refine lv_topi (fun v_4 ev_4 => ?_)
        refine lv_iconst (v := 1) hx hb dX3_firstFreeSeat_11 (by decide) ?_
        refine lv_iand hx hb dX3_firstFreeSeat_12 ?_
        refine lv_topi (fun v_5 ev_5 => ?_)
        refine lv_if_ne (tgt := 18) hx hb dX3_firstFreeSeat_13 (by decide) (fun c_6 => ?_) (fun c_6 => ?_)
        · have tc_6 := b_ne rfl (show (0 : Int32).toInt = 0 by decide) c_6
          obtain ⟨v_7, ev_7⟩ : ∃ z : Int32, z = x1 + 1 := ⟨_, rfl⟩
          have tv_7 : v_7.toInt = x1.toInt + 1 := by rw [ev_7]; exact ti_add (x := x1) (y := 1) (show -2147483648 ≤ x1.toInt + 1 by omega) (show x1.toInt + 1 < 2147483648 by omega)
          refine lv_iinc (v := v_7) (lv' := [(1, .int v_7), (0, .int n)]) hx hb dX3_firstFreeSeat_18 hl (k := 1) rfl (by rw [ev_7]; rfl) (by decide) rfl (fun ls hl => ?_)
          refine lv_goto (tgt := 2) hx hb dX3_firstFreeSeat_21 (by decide) ?_
          exact ih_2 v_7 _ _ _ (show (10 - v_7.toInt).toNat < fu_1 by omega) (show 0 ≤ v_7.toInt ∧ v_7.toInt ≤ 10 by omega) hP hD hS (lv_sub hl [1, 0] rfl)
        · have tc_6 := b_eq rfl (show (0 : Int32).toInt = 0 by decide) c_6
          refine lv_iload_n hx hb dX3_firstFreeSeat_16 rfl (lv_at hl 1 rfl) ?_
          exact ret_i (post := (fun (r : Int32) (u : Unit) => True)) (W1 := (fun u => [])) () hx hb hr hlocks rfl hQ hK hP hD hS ⟨by decide, by decide⟩ dX3_firstFreeSeat_17 trivial
  exact LOOP_1 _ 0 _ _ _ (Nat.lt_succ_self _) (by decide) hP hD hS (lv_sub hl [1, 0] rfl)
