set_option maxRecDepth 20000 in
theorem ggX0_read_X0_partSize : GoodIn wsX0_read wsX0_partSize := goodIn_r _ [7, 1, 2, 28, 29, 30, 31, 32, 33, 34, 35, 36, 37] rfl (by decide +kernel)
set_option maxRecDepth 20000 in
theorem gX0_read_X0_partSize : GoodIn wsX0_read (wsV RX0 49 RX0 yX0_partSize wsX0_partSize) := goodIn_app (goodIn_r _ [3, 4, 5, 6] rfl (by decide +kernel)) ggX0_read_X0_partSize
set_option maxRecDepth 20000 in
theorem ggX0_read_X0_partFault : GoodIn wsX0_read wsX0_partFault := goodIn_r _ [11, 12, 13, 14, 6, 15, 1, 28, 29, 30, 31, 32, 33, 34, 35, 36, 37] rfl (by decide +kernel)
set_option maxRecDepth 20000 in
theorem gX0_read_X0_partFault : GoodIn wsX0_read (wsV RX0 53 RX0 yX0_partFault wsX0_partFault) := goodIn_app (goodIn_r _ [8, 9, 10, 6] rfl (by decide +kernel)) ggX0_read_X0_partFault
set_option maxRecDepth 20000 in
theorem ggX0_read_X0_takePart : GoodIn wsX0_read wsX0_takePart := goodIn_r _ [19, 20, 1, 21, 22, 23, 2, 24, 25, 26, 27, 28, 29, 30, 31, 32, 33, 34, 35, 36, 37] rfl (by decide +kernel)
set_option maxRecDepth 20000 in
theorem gX0_read_X0_takePart : GoodIn wsX0_read (wsV RX0 57 RX0 yX0_takePart wsX0_takePart) := goodIn_app (goodIn_r _ [16, 17, 18, 6] rfl (by decide +kernel)) ggX0_read_X0_takePart
theorem dX0_read_0 : decode cX0_read 0 = .ok (.aload_n 0, 1) := by decide +kernel
theorem dX0_read_1 : decode cX0_read 1 = .ok (.iconst 0, 1) := by decide +kernel
theorem dX0_read_2 : decode cX0_read 2 = .ok (.putfield 9, 3) := by decide +kernel
theorem dX0_read_5 : decode cX0_read 5 = .ok (.aload_n 0, 1) := by decide +kernel
theorem dX0_read_6 : decode cX0_read 6 = .ok (.iconst 0, 1) := by decide +kernel
theorem dX0_read_7 : decode cX0_read 7 = .ok (.putfield 15, 3) := by decide +kernel
theorem dX0_read_10 : decode cX0_read 10 = .ok (.iload_n 2, 1) := by decide +kernel
theorem dX0_read_11 : decode cX0_read 11 = .ok (.iconst 1, 1) := by decide +kernel
theorem dX0_read_12 : decode cX0_read 12 = .ok (.if_icmp .lt 17, 3) := by decide +kernel
theorem dX0_read_15 : decode cX0_read 15 = .ok (.iload_n 2, 1) := by decide +kernel
theorem dX0_read_16 : decode cX0_read 16 = .ok (.aload_n 1, 1) := by decide +kernel
theorem dX0_read_17 : decode cX0_read 17 = .ok (.arraylength, 1) := by decide +kernel
theorem dX0_read_18 : decode cX0_read 18 = .ok (.if_icmp .gt 11, 3) := by decide +kernel
theorem dX0_read_21 : decode cX0_read 21 = .ok (.aload_n 1, 1) := by decide +kernel
theorem dX0_read_22 : decode cX0_read 22 = .ok (.iconst 0, 1) := by decide +kernel
theorem dX0_read_23 : decode cX0_read 23 = .ok (.iaload, 1) := by decide +kernel
theorem dX0_read_24 : decode cX0_read 24 = .ok (.bipush 76, 2) := by decide +kernel
theorem dX0_read_26 : decode cX0_read 26 = .ok (.if_icmp .eq 5, 3) := by decide +kernel
theorem dX0_read_29 : decode cX0_read 29 = .ok (.iconst 0, 1) := by decide +kernel
theorem dX0_read_30 : decode cX0_read 30 = .ok (.ireturn, 1) := by decide +kernel
theorem dX0_read_31 : decode cX0_read 31 = .ok (.iconst 0, 1) := by decide +kernel
theorem dX0_read_32 : decode cX0_read 32 = .ok (.istore_n 3, 1) := by decide +kernel
theorem dX0_read_33 : decode cX0_read 33 = .ok (.iconst 1, 1) := by decide +kernel
theorem dX0_read_34 : decode cX0_read 34 = .ok (.istore 4, 2) := by decide +kernel
theorem dX0_read_36 : decode cX0_read 36 = .ok (.iload 4, 2) := by decide +kernel
theorem dX0_read_38 : decode cX0_read 38 = .ok (.iload_n 2, 1) := by decide +kernel
theorem dX0_read_39 : decode cX0_read 39 = .ok (.if_icmp .ge 57, 3) := by decide +kernel
theorem dX0_read_42 : decode cX0_read 42 = .ok (.aload_n 0, 1) := by decide +kernel
theorem dX0_read_43 : decode cX0_read 43 = .ok (.aload_n 1, 1) := by decide +kernel
theorem dX0_read_44 : decode cX0_read 44 = .ok (.iload 4, 2) := by decide +kernel
theorem dX0_read_46 : decode cX0_read 46 = .ok (.iaload, 1) := by decide +kernel
theorem dX0_read_47 : decode cX0_read 47 = .ok (.invokevirtual 49, 3) := by decide +kernel
theorem dX0_read_50 : decode cX0_read 50 = .ok (.istore_n 3, 1) := by decide +kernel
theorem dX0_read_51 : decode cX0_read 51 = .ok (.iload_n 3, 1) := by decide +kernel
theorem dX0_read_52 : decode cX0_read 52 = .ok (.ifCond .ne 6, 3) := by decide +kernel
theorem dX0_read_55 : decode cX0_read 55 = .ok (.iload 4, 2) := by decide +kernel
theorem dX0_read_57 : decode cX0_read 57 = .ok (.ireturn, 1) := by decide +kernel
theorem dX0_read_58 : decode cX0_read 58 = .ok (.aload_n 0, 1) := by decide +kernel
theorem dX0_read_59 : decode cX0_read 59 = .ok (.aload_n 1, 1) := by decide +kernel
theorem dX0_read_60 : decode cX0_read 60 = .ok (.iload_n 2, 1) := by decide +kernel
theorem dX0_read_61 : decode cX0_read 61 = .ok (.iload 4, 2) := by decide +kernel
theorem dX0_read_63 : decode cX0_read 63 = .ok (.iload_n 3, 1) := by decide +kernel
theorem dX0_read_64 : decode cX0_read 64 = .ok (.invokevirtual 53, 3) := by decide +kernel
theorem dX0_read_67 : decode cX0_read 67 = .ok (.istore 5, 2) := by decide +kernel
theorem dX0_read_69 : decode cX0_read 69 = .ok (.iload 5, 2) := by decide +kernel
theorem dX0_read_71 : decode cX0_read 71 = .ok (.bipush (-9), 2) := by decide +kernel
theorem dX0_read_73 : decode cX0_read 73 = .ok (.if_icmp .eq 6, 3) := by decide +kernel
theorem dX0_read_76 : decode cX0_read 76 = .ok (.iload 5, 2) := by decide +kernel
theorem dX0_read_78 : decode cX0_read 78 = .ok (.ireturn, 1) := by decide +kernel
theorem dX0_read_79 : decode cX0_read 79 = .ok (.aload_n 0, 1) := by decide +kernel
theorem dX0_read_80 : decode cX0_read 80 = .ok (.aload_n 1, 1) := by decide +kernel
theorem dX0_read_81 : decode cX0_read 81 = .ok (.iload 4, 2) := by decide +kernel
theorem dX0_read_83 : decode cX0_read 83 = .ok (.iload_n 3, 1) := by decide +kernel
theorem dX0_read_84 : decode cX0_read 84 = .ok (.invokevirtual 57, 3) := by decide +kernel
theorem dX0_read_87 : decode cX0_read 87 = .ok (.iload 4, 2) := by decide +kernel
theorem dX0_read_89 : decode cX0_read 89 = .ok (.iload_n 3, 1) := by decide +kernel
theorem dX0_read_90 : decode cX0_read 90 = .ok (.iadd, 1) := by decide +kernel
theorem dX0_read_91 : decode cX0_read 91 = .ok (.istore 4, 2) := by decide +kernel
theorem dX0_read_93 : decode cX0_read 93 = .ok (.goto (-57), 3) := by decide +kernel
theorem dX0_read_96 : decode cX0_read 96 = .ok (.bipush (-9), 2) := by decide +kernel
theorem dX0_read_98 : decode cX0_read 98 = .ok (.ireturn, 1) := by decide +kernel
theorem dX0_partSize_0 : decode cX0_partSize 0 = .ok (.iload_n 1, 1) := by decide +kernel
theorem dX0_partSize_1 : decode cX0_partSize 1 = .ok (.bipush 80, 2) := by decide +kernel
theorem dX0_partSize_3 : decode cX0_partSize 3 = .ok (.if_icmp .ne 13, 3) := by decide +kernel
theorem dX0_partSize_6 : decode cX0_partSize 6 = .ok (.aload_n 0, 1) := by decide +kernel
theorem dX0_partSize_7 : decode cX0_partSize 7 = .ok (.getfield 9, 3) := by decide +kernel
theorem dX0_partSize_10 : decode cX0_partSize 10 = .ok (.iconst 5, 1) := by decide +kernel
theorem dX0_partSize_11 : decode cX0_partSize 11 = .ok (.if_icmp .ge 5, 3) := by decide +kernel
theorem dX0_partSize_14 : decode cX0_partSize 14 = .ok (.iconst 4, 1) := by decide +kernel
theorem dX0_partSize_15 : decode cX0_partSize 15 = .ok (.ireturn, 1) := by decide +kernel
theorem dX0_partSize_16 : decode cX0_partSize 16 = .ok (.iload_n 1, 1) := by decide +kernel
theorem dX0_partSize_17 : decode cX0_partSize 17 = .ok (.bipush 84, 2) := by decide +kernel
theorem dX0_partSize_19 : decode cX0_partSize 19 = .ok (.if_icmp .ne 22, 3) := by decide +kernel
theorem dX0_partSize_22 : decode cX0_partSize 22 = .ok (.aload_n 0, 1) := by decide +kernel
theorem dX0_partSize_23 : decode cX0_partSize 23 = .ok (.getfield 15, 3) := by decide +kernel
theorem dX0_partSize_26 : decode cX0_partSize 26 = .ok (.bipush 6, 2) := by decide +kernel
theorem dX0_partSize_28 : decode cX0_partSize 28 = .ok (.if_icmp .ge 13, 3) := by decide +kernel
theorem dX0_partSize_31 : decode cX0_partSize 31 = .ok (.aload_n 0, 1) := by decide +kernel
theorem dX0_partSize_32 : decode cX0_partSize 32 = .ok (.getfield 9, 3) := by decide +kernel
theorem dX0_partSize_35 : decode cX0_partSize 35 = .ok (.ifCond .le 6, 3) := by decide +kernel
theorem dX0_partSize_38 : decode cX0_partSize 38 = .ok (.bipush 6, 2) := by decide +kernel
theorem dX0_partSize_40 : decode cX0_partSize 40 = .ok (.ireturn, 1) := by decide +kernel
theorem dX0_partSize_41 : decode cX0_partSize 41 = .ok (.iconst 0, 1) := by decide +kernel
theorem dX0_partSize_42 : decode cX0_partSize 42 = .ok (.ireturn, 1) := by decide +kernel
set_option maxRecDepth 20000 in
theorem ggX0_partFault_X0_figureFits : GoodIn wsX0_partFault wsX0_figureFits := goodIn_r _ [5, 6, 7, 8, 9, 10, 11, 12, 13, 14, 15, 16] rfl (by decide +kernel)
set_option maxRecDepth 20000 in
theorem gX0_partFault_X0_figureFits : GoodIn wsX0_partFault (wsV RX0 61 RX0 yX0_figureFits wsX0_figureFits) := goodIn_app (goodIn_r _ [1, 2, 3, 4] rfl (by decide +kernel)) ggX0_partFault_X0_figureFits
theorem dX0_partFault_0 : decode cX0_partFault 0 = .ok (.iconst 1, 1) := by decide +kernel
theorem dX0_partFault_1 : decode cX0_partFault 1 = .ok (.istore 5, 2) := by decide +kernel
theorem dX0_partFault_3 : decode cX0_partFault 3 = .ok (.iload 5, 2) := by decide +kernel
theorem dX0_partFault_5 : decode cX0_partFault 5 = .ok (.iload 4, 2) := by decide +kernel
theorem dX0_partFault_7 : decode cX0_partFault 7 = .ok (.if_icmp .ge 39, 3) := by decide +kernel
theorem dX0_partFault_10 : decode cX0_partFault 10 = .ok (.iload_n 3, 1) := by decide +kernel
theorem dX0_partFault_11 : decode cX0_partFault 11 = .ok (.iload 5, 2) := by decide +kernel
theorem dX0_partFault_13 : decode cX0_partFault 13 = .ok (.iadd, 1) := by decide +kernel
theorem dX0_partFault_14 : decode cX0_partFault 14 = .ok (.istore 6, 2) := by decide +kernel
theorem dX0_partFault_16 : decode cX0_partFault 16 = .ok (.iload 6, 2) := by decide +kernel
theorem dX0_partFault_18 : decode cX0_partFault 18 = .ok (.iload_n 2, 1) := by decide +kernel
theorem dX0_partFault_19 : decode cX0_partFault 19 = .ok (.if_icmp .lt 5, 3) := by decide +kernel
theorem dX0_partFault_22 : decode cX0_partFault 22 = .ok (.iload_n 2, 1) := by decide +kernel
theorem dX0_partFault_23 : decode cX0_partFault 23 = .ok (.ireturn, 1) := by decide +kernel
theorem dX0_partFault_24 : decode cX0_partFault 24 = .ok (.aload_n 0, 1) := by decide +kernel
theorem dX0_partFault_25 : decode cX0_partFault 25 = .ok (.aload_n 1, 1) := by decide +kernel
theorem dX0_partFault_26 : decode cX0_partFault 26 = .ok (.iload_n 3, 1) := by decide +kernel
theorem dX0_partFault_27 : decode cX0_partFault 27 = .ok (.iload 5, 2) := by decide +kernel
theorem dX0_partFault_29 : decode cX0_partFault 29 = .ok (.iload 4, 2) := by decide +kernel
theorem dX0_partFault_31 : decode cX0_partFault 31 = .ok (.invokevirtual 61, 3) := by decide +kernel
theorem dX0_partFault_34 : decode cX0_partFault 34 = .ok (.ifCond .ne 6, 3) := by decide +kernel
theorem dX0_partFault_37 : decode cX0_partFault 37 = .ok (.iload 6, 2) := by decide +kernel
theorem dX0_partFault_39 : decode cX0_partFault 39 = .ok (.ireturn, 1) := by decide +kernel
theorem dX0_partFault_40 : decode cX0_partFault 40 = .ok (.iinc 5 1, 3) := by decide +kernel
theorem dX0_partFault_43 : decode cX0_partFault 43 = .ok (.goto (-40), 3) := by decide +kernel
theorem dX0_partFault_46 : decode cX0_partFault 46 = .ok (.bipush (-9), 2) := by decide +kernel
theorem dX0_partFault_48 : decode cX0_partFault 48 = .ok (.ireturn, 1) := by decide +kernel
theorem dX0_figureFits_0 : decode cX0_figureFits 0 = .ok (.aload_n 1, 1) := by decide +kernel
theorem dX0_figureFits_1 : decode cX0_figureFits 1 = .ok (.iload_n 2, 1) := by decide +kernel
theorem dX0_figureFits_2 : decode cX0_figureFits 2 = .ok (.iload_n 3, 1) := by decide +kernel
theorem dX0_figureFits_3 : decode cX0_figureFits 3 = .ok (.iadd, 1) := by decide +kernel
theorem dX0_figureFits_4 : decode cX0_figureFits 4 = .ok (.iaload, 1) := by decide +kernel
theorem dX0_figureFits_5 : decode cX0_figureFits 5 = .ok (.bipush 48, 2) := by decide +kernel
theorem dX0_figureFits_7 : decode cX0_figureFits 7 = .ok (.isub, 1) := by decide +kernel
theorem dX0_figureFits_8 : decode cX0_figureFits 8 = .ok (.istore 5, 2) := by decide +kernel
theorem dX0_figureFits_10 : decode cX0_figureFits 10 = .ok (.iload 5, 2) := by decide +kernel
theorem dX0_figureFits_12 : decode cX0_figureFits 12 = .ok (.ifCond .lt 10, 3) := by decide +kernel
theorem dX0_figureFits_15 : decode cX0_figureFits 15 = .ok (.iload 5, 2) := by decide +kernel
theorem dX0_figureFits_17 : decode cX0_figureFits 17 = .ok (.bipush 9, 2) := by decide +kernel
theorem dX0_figureFits_19 : decode cX0_figureFits 19 = .ok (.if_icmp .le 5, 3) := by decide +kernel
theorem dX0_figureFits_22 : decode cX0_figureFits 22 = .ok (.iconst 0, 1) := by decide +kernel
theorem dX0_figureFits_23 : decode cX0_figureFits 23 = .ok (.ireturn, 1) := by decide +kernel
theorem dX0_figureFits_24 : decode cX0_figureFits 24 = .ok (.iload 4, 2) := by decide +kernel
theorem dX0_figureFits_26 : decode cX0_figureFits 26 = .ok (.iconst 4, 1) := by decide +kernel
theorem dX0_figureFits_27 : decode cX0_figureFits 27 = .ok (.if_icmp .ne 20, 3) := by decide +kernel
theorem dX0_figureFits_30 : decode cX0_figureFits 30 = .ok (.iload_n 3, 1) := by decide +kernel
theorem dX0_figureFits_31 : decode cX0_figureFits 31 = .ok (.iconst 3, 1) := by decide +kernel
theorem dX0_figureFits_32 : decode cX0_figureFits 32 = .ok (.if_icmp .ne 9, 3) := by decide +kernel
theorem dX0_figureFits_35 : decode cX0_figureFits 35 = .ok (.iload 5, 2) := by decide +kernel
theorem dX0_figureFits_37 : decode cX0_figureFits 37 = .ok (.iconst 3, 1) := by decide +kernel
theorem dX0_figureFits_38 : decode cX0_figureFits 38 = .ok (.if_icmp .gt 7, 3) := by decide +kernel
theorem dX0_figureFits_41 : decode cX0_figureFits 41 = .ok (.iconst 1, 1) := by decide +kernel
theorem dX0_figureFits_42 : decode cX0_figureFits 42 = .ok (.goto 4, 3) := by decide +kernel
theorem dX0_figureFits_45 : decode cX0_figureFits 45 = .ok (.iconst 0, 1) := by decide +kernel
theorem dX0_figureFits_46 : decode cX0_figureFits 46 = .ok (.ireturn, 1) := by decide +kernel
theorem dX0_figureFits_47 : decode cX0_figureFits 47 = .ok (.iload_n 3, 1) := by decide +kernel
theorem dX0_figureFits_48 : decode cX0_figureFits 48 = .ok (.iconst 3, 1) := by decide +kernel
theorem dX0_figureFits_49 : decode cX0_figureFits 49 = .ok (.if_icmp .ne 22, 3) := by decide +kernel
theorem dX0_figureFits_52 : decode cX0_figureFits 52 = .ok (.iload 5, 2) := by decide +kernel
theorem dX0_figureFits_54 : decode cX0_figureFits 54 = .ok (.aload_n 1, 1) := by decide +kernel
theorem dX0_figureFits_55 : decode cX0_figureFits 55 = .ok (.iload_n 2, 1) := by decide +kernel
theorem dX0_figureFits_56 : decode cX0_figureFits 56 = .ok (.iconst 2, 1) := by decide +kernel
theorem dX0_figureFits_57 : decode cX0_figureFits 57 = .ok (.iadd, 1) := by decide +kernel
theorem dX0_figureFits_58 : decode cX0_figureFits 58 = .ok (.iaload, 1) := by decide +kernel
theorem dX0_figureFits_59 : decode cX0_figureFits 59 = .ok (.bipush 48, 2) := by decide +kernel
theorem dX0_figureFits_61 : decode cX0_figureFits 61 = .ok (.isub, 1) := by decide +kernel
theorem dX0_figureFits_62 : decode cX0_figureFits 62 = .ok (.if_icmp .eq 7, 3) := by decide +kernel
theorem dX0_figureFits_65 : decode cX0_figureFits 65 = .ok (.iconst 1, 1) := by decide +kernel
theorem dX0_figureFits_66 : decode cX0_figureFits 66 = .ok (.goto 4, 3) := by decide +kernel
theorem dX0_figureFits_69 : decode cX0_figureFits 69 = .ok (.iconst 0, 1) := by decide +kernel
theorem dX0_figureFits_70 : decode cX0_figureFits 70 = .ok (.ireturn, 1) := by decide +kernel
theorem dX0_figureFits_71 : decode cX0_figureFits 71 = .ok (.iload_n 3, 1) := by decide +kernel
theorem dX0_figureFits_72 : decode cX0_figureFits 72 = .ok (.iconst 5, 1) := by decide +kernel
theorem dX0_figureFits_73 : decode cX0_figureFits 73 = .ok (.if_icmp .ne 12, 3) := by decide +kernel
theorem dX0_figureFits_76 : decode cX0_figureFits 76 = .ok (.iload 5, 2) := by decide +kernel
theorem dX0_figureFits_78 : decode cX0_figureFits 78 = .ok (.aload_n 0, 1) := by decide +kernel
theorem dX0_figureFits_79 : decode cX0_figureFits 79 = .ok (.getfield 9, 3) := by decide +kernel
theorem dX0_figureFits_82 : decode cX0_figureFits 82 = .ok (.if_icmp .ge 7, 3) := by decide +kernel
theorem dX0_figureFits_85 : decode cX0_figureFits 85 = .ok (.iconst 1, 1) := by decide +kernel
theorem dX0_figureFits_86 : decode cX0_figureFits 86 = .ok (.goto 4, 3) := by decide +kernel
theorem dX0_figureFits_89 : decode cX0_figureFits 89 = .ok (.iconst 0, 1) := by decide +kernel
theorem dX0_figureFits_90 : decode cX0_figureFits 90 = .ok (.ireturn, 1) := by decide +kernel
theorem dX0_takePart_0 : decode cX0_takePart 0 = .ok (.iload_n 3, 1) := by decide +kernel
theorem dX0_takePart_1 : decode cX0_takePart 1 = .ok (.iconst 4, 1) := by decide +kernel
theorem dX0_takePart_2 : decode cX0_takePart 2 = .ok (.if_icmp .ne 67, 3) := by decide +kernel
theorem dX0_takePart_5 : decode cX0_takePart 5 = .ok (.aload_n 0, 1) := by decide +kernel
theorem dX0_takePart_6 : decode cX0_takePart 6 = .ok (.getfield 18, 3) := by decide +kernel
theorem dX0_takePart_9 : decode cX0_takePart 9 = .ok (.aload_n 0, 1) := by decide +kernel
theorem dX0_takePart_10 : decode cX0_takePart 10 = .ok (.getfield 9, 3) := by decide +kernel
theorem dX0_takePart_13 : decode cX0_takePart 13 = .ok (.aload_n 1, 1) := by decide +kernel
theorem dX0_takePart_14 : decode cX0_takePart 14 = .ok (.iload_n 2, 1) := by decide +kernel
theorem dX0_takePart_15 : decode cX0_takePart 15 = .ok (.iconst 1, 1) := by decide +kernel
theorem dX0_takePart_16 : decode cX0_takePart 16 = .ok (.iadd, 1) := by decide +kernel
theorem dX0_takePart_17 : decode cX0_takePart 17 = .ok (.iaload, 1) := by decide +kernel
theorem dX0_takePart_18 : decode cX0_takePart 18 = .ok (.bipush 48, 2) := by decide +kernel
theorem dX0_takePart_20 : decode cX0_takePart 20 = .ok (.isub, 1) := by decide +kernel
theorem dX0_takePart_21 : decode cX0_takePart 21 = .ok (.iastore, 1) := by decide +kernel
theorem dX0_takePart_22 : decode cX0_takePart 22 = .ok (.aload_n 0, 1) := by decide +kernel
theorem dX0_takePart_23 : decode cX0_takePart 23 = .ok (.getfield 22, 3) := by decide +kernel
theorem dX0_takePart_26 : decode cX0_takePart 26 = .ok (.aload_n 0, 1) := by decide +kernel
theorem dX0_takePart_27 : decode cX0_takePart 27 = .ok (.getfield 9, 3) := by decide +kernel
theorem dX0_takePart_30 : decode cX0_takePart 30 = .ok (.aload_n 1, 1) := by decide +kernel
theorem dX0_takePart_31 : decode cX0_takePart 31 = .ok (.iload_n 2, 1) := by decide +kernel
theorem dX0_takePart_32 : decode cX0_takePart 32 = .ok (.iconst 2, 1) := by decide +kernel
theorem dX0_takePart_33 : decode cX0_takePart 33 = .ok (.iadd, 1) := by decide +kernel
theorem dX0_takePart_34 : decode cX0_takePart 34 = .ok (.iaload, 1) := by decide +kernel
theorem dX0_takePart_35 : decode cX0_takePart 35 = .ok (.bipush 48, 2) := by decide +kernel
theorem dX0_takePart_37 : decode cX0_takePart 37 = .ok (.isub, 1) := by decide +kernel
theorem dX0_takePart_38 : decode cX0_takePart 38 = .ok (.iastore, 1) := by decide +kernel
theorem dX0_takePart_39 : decode cX0_takePart 39 = .ok (.aload_n 0, 1) := by decide +kernel
theorem dX0_takePart_40 : decode cX0_takePart 40 = .ok (.getfield 25, 3) := by decide +kernel
theorem dX0_takePart_43 : decode cX0_takePart 43 = .ok (.aload_n 0, 1) := by decide +kernel
theorem dX0_takePart_44 : decode cX0_takePart 44 = .ok (.getfield 9, 3) := by decide +kernel
theorem dX0_takePart_47 : decode cX0_takePart 47 = .ok (.aload_n 1, 1) := by decide +kernel
theorem dX0_takePart_48 : decode cX0_takePart 48 = .ok (.iload_n 2, 1) := by decide +kernel
theorem dX0_takePart_49 : decode cX0_takePart 49 = .ok (.iconst 3, 1) := by decide +kernel
theorem dX0_takePart_50 : decode cX0_takePart 50 = .ok (.iadd, 1) := by decide +kernel
theorem dX0_takePart_51 : decode cX0_takePart 51 = .ok (.iaload, 1) := by decide +kernel
theorem dX0_takePart_52 : decode cX0_takePart 52 = .ok (.bipush 48, 2) := by decide +kernel
theorem dX0_takePart_54 : decode cX0_takePart 54 = .ok (.isub, 1) := by decide +kernel
theorem dX0_takePart_55 : decode cX0_takePart 55 = .ok (.iastore, 1) := by decide +kernel
theorem dX0_takePart_56 : decode cX0_takePart 56 = .ok (.aload_n 0, 1) := by decide +kernel
theorem dX0_takePart_57 : decode cX0_takePart 57 = .ok (.dup, 1) := by decide +kernel
theorem dX0_takePart_58 : decode cX0_takePart 58 = .ok (.getfield 9, 3) := by decide +kernel
theorem dX0_takePart_61 : decode cX0_takePart 61 = .ok (.iconst 1, 1) := by decide +kernel
theorem dX0_takePart_62 : decode cX0_takePart 62 = .ok (.iadd, 1) := by decide +kernel
theorem dX0_takePart_63 : decode cX0_takePart 63 = .ok (.putfield 9, 3) := by decide +kernel
theorem dX0_takePart_66 : decode cX0_takePart 66 = .ok (.goto 98, 3) := by decide +kernel
theorem dX0_takePart_69 : decode cX0_takePart 69 = .ok (.aload_n 0, 1) := by decide +kernel
theorem dX0_takePart_70 : decode cX0_takePart 70 = .ok (.getfield 28, 3) := by decide +kernel
theorem dX0_takePart_73 : decode cX0_takePart 73 = .ok (.aload_n 0, 1) := by decide +kernel
theorem dX0_takePart_74 : decode cX0_takePart 74 = .ok (.getfield 15, 3) := by decide +kernel
theorem dX0_takePart_77 : decode cX0_takePart 77 = .ok (.aload_n 1, 1) := by decide +kernel
theorem dX0_takePart_78 : decode cX0_takePart 78 = .ok (.iload_n 2, 1) := by decide +kernel
theorem dX0_takePart_79 : decode cX0_takePart 79 = .ok (.iconst 1, 1) := by decide +kernel
theorem dX0_takePart_80 : decode cX0_takePart 80 = .ok (.iadd, 1) := by decide +kernel
theorem dX0_takePart_81 : decode cX0_takePart 81 = .ok (.iaload, 1) := by decide +kernel
theorem dX0_takePart_82 : decode cX0_takePart 82 = .ok (.bipush 48, 2) := by decide +kernel
theorem dX0_takePart_84 : decode cX0_takePart 84 = .ok (.isub, 1) := by decide +kernel
theorem dX0_takePart_85 : decode cX0_takePart 85 = .ok (.iastore, 1) := by decide +kernel
theorem dX0_takePart_86 : decode cX0_takePart 86 = .ok (.aload_n 0, 1) := by decide +kernel
theorem dX0_takePart_87 : decode cX0_takePart 87 = .ok (.getfield 31, 3) := by decide +kernel
theorem dX0_takePart_90 : decode cX0_takePart 90 = .ok (.aload_n 0, 1) := by decide +kernel
theorem dX0_takePart_91 : decode cX0_takePart 91 = .ok (.getfield 15, 3) := by decide +kernel
theorem dX0_takePart_94 : decode cX0_takePart 94 = .ok (.aload_n 1, 1) := by decide +kernel
theorem dX0_takePart_95 : decode cX0_takePart 95 = .ok (.iload_n 2, 1) := by decide +kernel
theorem dX0_takePart_96 : decode cX0_takePart 96 = .ok (.iconst 2, 1) := by decide +kernel
theorem dX0_takePart_97 : decode cX0_takePart 97 = .ok (.iadd, 1) := by decide +kernel
theorem dX0_takePart_98 : decode cX0_takePart 98 = .ok (.iaload, 1) := by decide +kernel
theorem dX0_takePart_99 : decode cX0_takePart 99 = .ok (.bipush 48, 2) := by decide +kernel
theorem dX0_takePart_101 : decode cX0_takePart 101 = .ok (.isub, 1) := by decide +kernel
theorem dX0_takePart_102 : decode cX0_takePart 102 = .ok (.iastore, 1) := by decide +kernel
theorem dX0_takePart_103 : decode cX0_takePart 103 = .ok (.aload_n 0, 1) := by decide +kernel
theorem dX0_takePart_104 : decode cX0_takePart 104 = .ok (.getfield 34, 3) := by decide +kernel
theorem dX0_takePart_107 : decode cX0_takePart 107 = .ok (.aload_n 0, 1) := by decide +kernel
theorem dX0_takePart_108 : decode cX0_takePart 108 = .ok (.getfield 15, 3) := by decide +kernel
theorem dX0_takePart_111 : decode cX0_takePart 111 = .ok (.aload_n 1, 1) := by decide +kernel
theorem dX0_takePart_112 : decode cX0_takePart 112 = .ok (.iload_n 2, 1) := by decide +kernel
theorem dX0_takePart_113 : decode cX0_takePart 113 = .ok (.iconst 3, 1) := by decide +kernel
theorem dX0_takePart_114 : decode cX0_takePart 114 = .ok (.iadd, 1) := by decide +kernel
theorem dX0_takePart_115 : decode cX0_takePart 115 = .ok (.iaload, 1) := by decide +kernel
theorem dX0_takePart_116 : decode cX0_takePart 116 = .ok (.bipush 48, 2) := by decide +kernel
theorem dX0_takePart_118 : decode cX0_takePart 118 = .ok (.isub, 1) := by decide +kernel
theorem dX0_takePart_119 : decode cX0_takePart 119 = .ok (.iastore, 1) := by decide +kernel
theorem dX0_takePart_120 : decode cX0_takePart 120 = .ok (.aload_n 0, 1) := by decide +kernel
theorem dX0_takePart_121 : decode cX0_takePart 121 = .ok (.getfield 37, 3) := by decide +kernel
theorem dX0_takePart_124 : decode cX0_takePart 124 = .ok (.aload_n 0, 1) := by decide +kernel
theorem dX0_takePart_125 : decode cX0_takePart 125 = .ok (.getfield 15, 3) := by decide +kernel
theorem dX0_takePart_128 : decode cX0_takePart 128 = .ok (.aload_n 1, 1) := by decide +kernel
theorem dX0_takePart_129 : decode cX0_takePart 129 = .ok (.iload_n 2, 1) := by decide +kernel
theorem dX0_takePart_130 : decode cX0_takePart 130 = .ok (.iconst 4, 1) := by decide +kernel
theorem dX0_takePart_131 : decode cX0_takePart 131 = .ok (.iadd, 1) := by decide +kernel
theorem dX0_takePart_132 : decode cX0_takePart 132 = .ok (.iaload, 1) := by decide +kernel
theorem dX0_takePart_133 : decode cX0_takePart 133 = .ok (.bipush 48, 2) := by decide +kernel
theorem dX0_takePart_135 : decode cX0_takePart 135 = .ok (.isub, 1) := by decide +kernel
theorem dX0_takePart_136 : decode cX0_takePart 136 = .ok (.iastore, 1) := by decide +kernel
theorem dX0_takePart_137 : decode cX0_takePart 137 = .ok (.aload_n 0, 1) := by decide +kernel
theorem dX0_takePart_138 : decode cX0_takePart 138 = .ok (.getfield 40, 3) := by decide +kernel
theorem dX0_takePart_141 : decode cX0_takePart 141 = .ok (.aload_n 0, 1) := by decide +kernel
theorem dX0_takePart_142 : decode cX0_takePart 142 = .ok (.getfield 15, 3) := by decide +kernel
theorem dX0_takePart_145 : decode cX0_takePart 145 = .ok (.aload_n 1, 1) := by decide +kernel
theorem dX0_takePart_146 : decode cX0_takePart 146 = .ok (.iload_n 2, 1) := by decide +kernel
theorem dX0_takePart_147 : decode cX0_takePart 147 = .ok (.iconst 5, 1) := by decide +kernel
theorem dX0_takePart_148 : decode cX0_takePart 148 = .ok (.iadd, 1) := by decide +kernel
theorem dX0_takePart_149 : decode cX0_takePart 149 = .ok (.iaload, 1) := by decide +kernel
theorem dX0_takePart_150 : decode cX0_takePart 150 = .ok (.bipush 48, 2) := by decide +kernel
theorem dX0_takePart_152 : decode cX0_takePart 152 = .ok (.isub, 1) := by decide +kernel
theorem dX0_takePart_153 : decode cX0_takePart 153 = .ok (.iastore, 1) := by decide +kernel
theorem dX0_takePart_154 : decode cX0_takePart 154 = .ok (.aload_n 0, 1) := by decide +kernel
theorem dX0_takePart_155 : decode cX0_takePart 155 = .ok (.dup, 1) := by decide +kernel
theorem dX0_takePart_156 : decode cX0_takePart 156 = .ok (.getfield 15, 3) := by decide +kernel
theorem dX0_takePart_159 : decode cX0_takePart 159 = .ok (.iconst 1, 1) := by decide +kernel
theorem dX0_takePart_160 : decode cX0_takePart 160 = .ok (.iadd, 1) := by decide +kernel
theorem dX0_takePart_161 : decode cX0_takePart 161 = .ok (.putfield 15, 3) := by decide +kernel
theorem dX0_takePart_164 : decode cX0_takePart 164 = .ok (.return_, 1) := by decide +kernel
set_option maxRecDepth 20000 in
theorem ggX3_fault_X0_read : GoodIn wsX3_fault wsX0_read := goodIn_r _ [8, 9, 10, 11, 12, 13, 7, 14, 15, 16, 17, 18, 19, 20, 21, 22, 23, 24, 25, 26, 27, 28, 29, 30, 31, 32, 33, 34, 52, 53, 54, 55, 56, 57, 58, 59, 60, 61] rfl (by decide +kernel)
set_option maxRecDepth 20000 in
theorem gX3_fault_X0_read : GoodIn wsX3_fault (wsV RX3 78 RX0 yX0_read wsX0_read) := goodIn_app (goodIn_r _ [4, 5, 6, 7] rfl (by decide +kernel)) ggX3_fault_X0_read
theorem dX3_fault_0 : decode cX3_fault 0 = .ok (.aload_n 0, 1) := by decide +kernel
theorem dX3_fault_1 : decode cX3_fault 1 = .ok (.getfield 24, 3) := by decide +kernel
theorem dX3_fault_4 : decode cX3_fault 4 = .ok (.aload_n 0, 1) := by decide +kernel
theorem dX3_fault_5 : decode cX3_fault 5 = .ok (.getfield 9, 3) := by decide +kernel
theorem dX3_fault_8 : decode cX3_fault 8 = .ok (.aload_n 0, 1) := by decide +kernel
theorem dX3_fault_9 : decode cX3_fault 9 = .ok (.getfield 13, 3) := by decide +kernel
theorem dX3_fault_12 : decode cX3_fault 12 = .ok (.invokevirtual 78, 3) := by decide +kernel
theorem dX3_fault_15 : decode cX3_fault 15 = .ok (.ireturn, 1) := by decide +kernel
set_option maxRecDepth 20000 in
theorem ggX3_line_X0_read : GoodIn wsX3_line wsX0_read := goodIn_r _ [13, 14, 15, 16, 17, 18, 12, 19, 20, 21, 22, 23, 24, 25, 26, 27, 28, 29, 30, 31, 32, 33, 34, 35, 36, 37, 38, 39, 90, 91, 92, 93, 94, 95, 96, 97, 98, 99] rfl (by decide +kernel)
set_option maxRecDepth 20000 in
theorem gX3_line_X0_read : GoodIn wsX3_line (wsV RX3 78 RX0 yX0_read wsX0_read) := goodIn_app (goodIn_r _ [9, 10, 11, 12] rfl (by decide +kernel)) ggX3_line_X0_read
set_option maxRecDepth 20000 in
theorem ggX3_line_X0_copy : GoodIn wsX3_line wsX0_copy := goodIn_r _ [43, 14, 15, 32, 44, 45, 46, 47, 33, 34, 35, 36, 37, 38, 39, 90, 91, 92, 93, 94, 95, 96, 97, 98, 99] rfl (by decide +kernel)
set_option maxRecDepth 20000 in
theorem gX3_line_X0_copy : GoodIn wsX3_line (wsV RX3 82 RX0 yX0_copy wsX0_copy) := goodIn_app (goodIn_r _ [40, 41, 42, 12] rfl (by decide +kernel)) ggX3_line_X0_copy
set_option maxRecDepth 20000 in
theorem ggX3_line_X1_begin : GoodIn wsX3_line wsX1_begin := goodIn_r _ [52, 53, 54, 55, 56, 57, 58, 59, 60, 61, 45, 46, 47, 62, 63, 64, 65, 100, 101, 102, 103, 104, 105, 106, 107, 90, 91, 92, 93, 94, 95, 96, 97, 98, 99] rfl (by decide +kernel)
set_option maxRecDepth 20000 in
theorem gX3_line_X1_begin : GoodIn wsX3_line (wsV RX3 85 RX1 yX1_begin wsX1_begin) := goodIn_app (goodIn_r _ [48, 49, 50, 51] rfl (by decide +kernel)) ggX3_line_X1_begin
set_option maxRecDepth 20000 in
theorem ggX3_line_X3_forgetActs : GoodIn wsX3_line wsX3_forgetActs := goodIn_r _ [70, 71, 72, 73, 74, 75, 76, 77, 78, 79, 80, 81, 82, 83, 84, 85, 86, 87, 88, 89] rfl (by decide +kernel)
set_option maxRecDepth 20000 in
theorem gX3_line_X3_forgetActs : GoodIn wsX3_line (wsV RX3 88 RX3 yX3_forgetActs wsX3_forgetActs) := goodIn_app (goodIn_r _ [66, 67, 68, 69] rfl (by decide +kernel)) ggX3_line_X3_forgetActs
theorem dX3_line_0 : decode cX3_line 0 = .ok (.aload_n 0, 1) := by decide +kernel
theorem dX3_line_1 : decode cX3_line 1 = .ok (.getfield 24, 3) := by decide +kernel
theorem dX3_line_4 : decode cX3_line 4 = .ok (.aload_n 0, 1) := by decide +kernel
theorem dX3_line_5 : decode cX3_line 5 = .ok (.getfield 9, 3) := by decide +kernel
theorem dX3_line_8 : decode cX3_line 8 = .ok (.aload_n 0, 1) := by decide +kernel
theorem dX3_line_9 : decode cX3_line 9 = .ok (.getfield 13, 3) := by decide +kernel
theorem dX3_line_12 : decode cX3_line 12 = .ok (.invokevirtual 78, 3) := by decide +kernel
theorem dX3_line_15 : decode cX3_line 15 = .ok (.bipush (-9), 2) := by decide +kernel
theorem dX3_line_17 : decode cX3_line 17 = .ok (.if_icmp .eq 6, 3) := by decide +kernel
theorem dX3_line_20 : decode cX3_line 20 = .ok (.bipush (-3), 2) := by decide +kernel
theorem dX3_line_22 : decode cX3_line 22 = .ok (.ireturn, 1) := by decide +kernel
theorem dX3_line_23 : decode cX3_line 23 = .ok (.aload_n 0, 1) := by decide +kernel
theorem dX3_line_24 : decode cX3_line 24 = .ok (.getfield 20, 3) := by decide +kernel
theorem dX3_line_27 : decode cX3_line 27 = .ok (.aload_n 0, 1) := by decide +kernel
theorem dX3_line_28 : decode cX3_line 28 = .ok (.getfield 24, 3) := by decide +kernel
theorem dX3_line_31 : decode cX3_line 31 = .ok (.invokevirtual 82, 3) := by decide +kernel
theorem dX3_line_34 : decode cX3_line 34 = .ok (.aload_n 0, 1) := by decide +kernel
theorem dX3_line_35 : decode cX3_line 35 = .ok (.getfield 32, 3) := by decide +kernel
theorem dX3_line_38 : decode cX3_line 38 = .ok (.invokevirtual 85, 3) := by decide +kernel
theorem dX3_line_41 : decode cX3_line 41 = .ok (.aload_n 0, 1) := by decide +kernel
theorem dX3_line_42 : decode cX3_line 42 = .ok (.invokevirtual 88, 3) := by decide +kernel
theorem dX3_line_45 : decode cX3_line 45 = .ok (.aload_n 0, 1) := by decide +kernel
theorem dX3_line_46 : decode cX3_line 46 = .ok (.iconst 0, 1) := by decide +kernel
theorem dX3_line_47 : decode cX3_line 47 = .ok (.putfield 49, 3) := by decide +kernel
theorem dX3_line_50 : decode cX3_line 50 = .ok (.bipush 10, 2) := by decide +kernel
theorem dX3_line_52 : decode cX3_line 52 = .ok (.aload_n 0, 1) := by decide +kernel
theorem dX3_line_53 : decode cX3_line 53 = .ok (.getfield 20, 3) := by decide +kernel
theorem dX3_line_56 : decode cX3_line 56 = .ok (.getfield 91, 3) := by decide +kernel
theorem dX3_line_59 : decode cX3_line 59 = .ok (.imul, 1) := by decide +kernel
theorem dX3_line_60 : decode cX3_line 60 = .ok (.aload_n 0, 1) := by decide +kernel
theorem dX3_line_61 : decode cX3_line 61 = .ok (.getfield 20, 3) := by decide +kernel
theorem dX3_line_64 : decode cX3_line 64 = .ok (.getfield 94, 3) := by decide +kernel
theorem dX3_line_67 : decode cX3_line 67 = .ok (.iadd, 1) := by decide +kernel
theorem dX3_line_68 : decode cX3_line 68 = .ok (.ireturn, 1) := by decide +kernel
set_option maxRecDepth 20000 in
theorem ggX3_years_X2_start : GoodIn wsX3_years wsX2_start := goodIn_r _ [13, 14, 15, 16, 17, 18, 19, 20, 21, 22, 23, 24, 25, 26, 27, 28, 29, 30, 102, 103, 104, 105, 106, 107, 108, 109, 110, 111, 112] rfl (by decide +kernel)
set_option maxRecDepth 20000 in
theorem gX3_years_X2_start : GoodIn wsX3_years (wsV RX3 171 RX2 yX2_start wsX2_start) := goodIn_app (goodIn_r _ [9, 10, 11, 12] rfl (by decide +kernel)) ggX3_years_X2_start
set_option maxRecDepth 20000 in
theorem ggX3_years_X2_gladAtEnd : GoodIn wsX3_years wsX2_gladAtEnd := goodIn_r _ [34, 14, 35, 36, 37, 12, 38, 39, 40, 41, 42, 43, 18, 44, 45, 46, 24, 20, 47, 48, 49, 50, 21, 30, 29, 51, 52, 53, 54, 55, 56, 57, 58, 59, 60, 22, 61, 62, 23, 63, 64, 65, 66, 67, 68, 69, 70, 71, 72, 73, 74, 75, 76, 77, 78, 79, 80, 81, 82, 83, 84, 102, 103, 104, 105, 106, 107, 108, 109, 110, 111, 112, 113, 114, 115, 116, 117, 118, 119, 120, 121, 122] rfl (by decide +kernel)
set_option maxRecDepth 20000 in
theorem gX3_years_X2_gladAtEnd : GoodIn wsX3_years (wsV RX3 199 RX2 yX2_gladAtEnd wsX2_gladAtEnd) := goodIn_app (goodIn_r _ [31, 32, 33, 12] rfl (by decide +kernel)) ggX3_years_X2_gladAtEnd
theorem dX3_years_0 : decode cX3_years 0 = .ok (.iload_n 1, 1) := by decide +kernel
theorem dX3_years_1 : decode cX3_years 1 = .ok (.iconst 1, 1) := by decide +kernel
theorem dX3_years_2 : decode cX3_years 2 = .ok (.if_icmp .lt 9, 3) := by decide +kernel
theorem dX3_years_5 : decode cX3_years 5 = .ok (.iload_n 1, 1) := by decide +kernel
theorem dX3_years_6 : decode cX3_years 6 = .ok (.bipush 30, 2) := by decide +kernel
theorem dX3_years_8 : decode cX3_years 8 = .ok (.if_icmp .le 6, 3) := by decide +kernel
theorem dX3_years_11 : decode cX3_years 11 = .ok (.bipush (-2), 2) := by decide +kernel
theorem dX3_years_13 : decode cX3_years 13 = .ok (.ireturn, 1) := by decide +kernel
theorem dX3_years_14 : decode cX3_years 14 = .ok (.iconst 0, 1) := by decide +kernel
theorem dX3_years_15 : decode cX3_years 15 = .ok (.istore_n 2, 1) := by decide +kernel
theorem dX3_years_16 : decode cX3_years 16 = .ok (.iconst 0, 1) := by decide +kernel
theorem dX3_years_17 : decode cX3_years 17 = .ok (.istore_n 3, 1) := by decide +kernel
theorem dX3_years_18 : decode cX3_years 18 = .ok (.iload_n 3, 1) := by decide +kernel
theorem dX3_years_19 : decode cX3_years 19 = .ok (.iload_n 1, 1) := by decide +kernel
theorem dX3_years_20 : decode cX3_years 20 = .ok (.if_icmp .ge 77, 3) := by decide +kernel
theorem dX3_years_23 : decode cX3_years 23 = .ok (.aload_n 0, 1) := by decide +kernel
theorem dX3_years_24 : decode cX3_years 24 = .ok (.aload_n 0, 1) := by decide +kernel
theorem dX3_years_25 : decode cX3_years 25 = .ok (.getfield 64, 3) := by decide +kernel
theorem dX3_years_28 : decode cX3_years 28 = .ok (.ldc2_w 253, 3) := by decide +kernel
theorem dX3_years_31 : decode cX3_years 31 = .ok (.lmul, 1) := by decide +kernel
theorem dX3_years_32 : decode cX3_years 32 = .ok (.ldc2_w 255, 3) := by decide +kernel
theorem dX3_years_35 : decode cX3_years 35 = .ok (.ladd, 1) := by decide +kernel
theorem dX3_years_36 : decode cX3_years 36 = .ok (.putfield 64, 3) := by decide +kernel
theorem dX3_years_39 : decode cX3_years 39 = .ok (.aload_n 0, 1) := by decide +kernel
theorem dX3_years_40 : decode cX3_years 40 = .ok (.getfield 64, 3) := by decide +kernel
theorem dX3_years_43 : decode cX3_years 43 = .ok (.bipush 33, 2) := by decide +kernel
theorem dX3_years_45 : decode cX3_years 45 = .ok (.lushr, 1) := by decide +kernel
theorem dX3_years_46 : decode cX3_years 46 = .ok (.ldc2_w 257, 3) := by decide +kernel
theorem dX3_years_49 : decode cX3_years 49 = .ok (.lrem, 1) := by decide +kernel
theorem dX3_years_50 : decode cX3_years 50 = .ok (.l2i, 1) := by decide +kernel
theorem dX3_years_51 : decode cX3_years 51 = .ok (.istore 4, 2) := by decide +kernel
theorem dX3_years_53 : decode cX3_years 53 = .ok (.aload_n 0, 1) := by decide +kernel
theorem dX3_years_54 : decode cX3_years 54 = .ok (.getfield 71, 3) := by decide +kernel
theorem dX3_years_57 : decode cX3_years 57 = .ok (.aload_n 0, 1) := by decide +kernel
theorem dX3_years_58 : decode cX3_years 58 = .ok (.getfield 32, 3) := by decide +kernel
theorem dX3_years_61 : decode cX3_years 61 = .ok (.invokevirtual 171, 3) := by decide +kernel
theorem dX3_years_64 : decode cX3_years 64 = .ok (.aload_n 0, 1) := by decide +kernel
theorem dX3_years_65 : decode cX3_years 65 = .ok (.getfield 71, 3) := by decide +kernel
theorem dX3_years_68 : decode cX3_years 68 = .ok (.getfield 178, 3) := by decide +kernel
theorem dX3_years_71 : decode cX3_years 71 = .ok (.dup, 1) := by decide +kernel
theorem dX3_years_72 : decode cX3_years 72 = .ok (.getfield 158, 3) := by decide +kernel
theorem dX3_years_75 : decode cX3_years 75 = .ok (.iload 4, 2) := by decide +kernel
theorem dX3_years_77 : decode cX3_years 77 = .ok (.ior, 1) := by decide +kernel
theorem dX3_years_78 : decode cX3_years 78 = .ok (.putfield 158, 3) := by decide +kernel
theorem dX3_years_81 : decode cX3_years 81 = .ok (.iload_n 2, 1) := by decide +kernel
theorem dX3_years_82 : decode cX3_years 82 = .ok (.aload_n 0, 1) := by decide +kernel
theorem dX3_years_83 : decode cX3_years 83 = .ok (.getfield 71, 3) := by decide +kernel
theorem dX3_years_86 : decode cX3_years 86 = .ok (.invokevirtual 199, 3) := by decide +kernel
theorem dX3_years_89 : decode cX3_years 89 = .ok (.iadd, 1) := by decide +kernel
theorem dX3_years_90 : decode cX3_years 90 = .ok (.istore_n 2, 1) := by decide +kernel
theorem dX3_years_91 : decode cX3_years 91 = .ok (.iinc 3 1, 3) := by decide +kernel
theorem dX3_years_94 : decode cX3_years 94 = .ok (.goto (-76), 3) := by decide +kernel
theorem dX3_years_97 : decode cX3_years 97 = .ok (.iload_n 2, 1) := by decide +kernel
theorem dX3_years_98 : decode cX3_years 98 = .ok (.ireturn, 1) := by decide +kernel
set_option maxRecDepth 20000 in
theorem ggX3_count_X1_gladNow : GoodIn wsX3_count wsX1_gladNow := goodIn_r _ [14, 15, 16, 17, 18, 46, 47, 48, 49, 50, 51, 52, 53, 36, 37, 38, 39, 40, 41, 42, 43, 44, 45] rfl (by decide +kernel)
set_option maxRecDepth 20000 in
theorem gX3_count_X1_gladNow : GoodIn wsX3_count (wsV RX3 266 RX1 yX1_gladNow wsX1_gladNow) := goodIn_app (goodIn_r _ [10, 11, 12, 13] rfl (by decide +kernel)) ggX3_count_X1_gladNow
theorem dX3_count_0 : decode cX3_count 0 = .ok (.iload_n 1, 1) := by decide +kernel
theorem dX3_count_1 : decode cX3_count 1 = .ok (.tableswitch 102 0 7 #[47, 52, 60, 68, 76, 84, 92, 97], 47) := by decide +kernel
theorem dX3_count_48 : decode cX3_count 48 = .ok (.aload_n 0, 1) := by decide +kernel
theorem dX3_count_49 : decode cX3_count 49 = .ok (.getfield 13, 3) := by decide +kernel
theorem dX3_count_52 : decode cX3_count 52 = .ok (.ireturn, 1) := by decide +kernel
theorem dX3_count_53 : decode cX3_count 53 = .ok (.aload_n 0, 1) := by decide +kernel
theorem dX3_count_54 : decode cX3_count 54 = .ok (.getfield 20, 3) := by decide +kernel
theorem dX3_count_57 : decode cX3_count 57 = .ok (.getfield 91, 3) := by decide +kernel
theorem dX3_count_60 : decode cX3_count 60 = .ok (.ireturn, 1) := by decide +kernel
theorem dX3_count_61 : decode cX3_count 61 = .ok (.aload_n 0, 1) := by decide +kernel
theorem dX3_count_62 : decode cX3_count 62 = .ok (.getfield 20, 3) := by decide +kernel
theorem dX3_count_65 : decode cX3_count 65 = .ok (.getfield 94, 3) := by decide +kernel
theorem dX3_count_68 : decode cX3_count 68 = .ok (.ireturn, 1) := by decide +kernel
theorem dX3_count_69 : decode cX3_count 69 = .ok (.aload_n 0, 1) := by decide +kernel
theorem dX3_count_70 : decode cX3_count 70 = .ok (.getfield 32, 3) := by decide +kernel
theorem dX3_count_73 : decode cX3_count 73 = .ok (.getfield 141, 3) := by decide +kernel
theorem dX3_count_76 : decode cX3_count 76 = .ok (.ireturn, 1) := by decide +kernel
theorem dX3_count_77 : decode cX3_count 77 = .ok (.aload_n 0, 1) := by decide +kernel
theorem dX3_count_78 : decode cX3_count 78 = .ok (.getfield 32, 3) := by decide +kernel
theorem dX3_count_81 : decode cX3_count 81 = .ok (.getfield 158, 3) := by decide +kernel
theorem dX3_count_84 : decode cX3_count 84 = .ok (.ireturn, 1) := by decide +kernel
theorem dX3_count_85 : decode cX3_count 85 = .ok (.aload_n 0, 1) := by decide +kernel
theorem dX3_count_86 : decode cX3_count 86 = .ok (.getfield 32, 3) := by decide +kernel
theorem dX3_count_89 : decode cX3_count 89 = .ok (.invokevirtual 266, 3) := by decide +kernel
theorem dX3_count_92 : decode cX3_count 92 = .ok (.ireturn, 1) := by decide +kernel
theorem dX3_count_93 : decode cX3_count 93 = .ok (.aload_n 0, 1) := by decide +kernel
theorem dX3_count_94 : decode cX3_count 94 = .ok (.getfield 43, 3) := by decide +kernel
theorem dX3_count_97 : decode cX3_count 97 = .ok (.ireturn, 1) := by decide +kernel
theorem dX3_count_98 : decode cX3_count 98 = .ok (.aload_n 0, 1) := by decide +kernel
theorem dX3_count_99 : decode cX3_count 99 = .ok (.getfield 61, 3) := by decide +kernel
theorem dX3_count_102 : decode cX3_count 102 = .ok (.ireturn, 1) := by decide +kernel
theorem dX3_count_103 : decode cX3_count 103 = .ok (.bipush (-2), 2) := by decide +kernel
theorem dX3_count_105 : decode cX3_count 105 = .ok (.ireturn, 1) := by decide +kernel
theorem dX3_forgetActs_0 : decode cX3_forgetActs 0 = .ok (.aload_n 0, 1) := by decide +kernel
theorem dX3_forgetActs_1 : decode cX3_forgetActs 1 = .ok (.iconst 0, 1) := by decide +kernel
theorem dX3_forgetActs_2 : decode cX3_forgetActs 2 = .ok (.putfield 40, 3) := by decide +kernel
theorem dX3_forgetActs_5 : decode cX3_forgetActs 5 = .ok (.aload_n 0, 1) := by decide +kernel
theorem dX3_forgetActs_6 : decode cX3_forgetActs 6 = .ok (.iconst 0, 1) := by decide +kernel
theorem dX3_forgetActs_7 : decode cX3_forgetActs 7 = .ok (.putfield 43, 3) := by decide +kernel
theorem dX3_forgetActs_10 : decode cX3_forgetActs 10 = .ok (.return_, 1) := by decide +kernel
set_option maxHeartbeats 600000 in
set_option maxRecDepth 100000 in
theorem c_X0_partSize (l : Launch) (D : va_G) (cI cZ cM : ClassId) (h0 : Nat) (n : Int32) (lpe : Int32) (ltk : Int32) (lho : Nat) (lli : Nat) (lki : Nat) (lfd : Nat) (lfr : Nat) (lto : Nat) (lse : Nat) (lhl : Nat) (sz : Nat)  : Ci l yX0_partSize wsX0_partSize ({ frames := 0, cells := 0, slots := 0, locals := 0 } : Room) D cI cZ cM [.ref h0, .int n] [(h0, .inr (0, [.int lpe, .int ltk, .ref lho, .ref lli, .ref lki, .ref lfd, .ref lfr, .ref lto, .ref lse, .ref lhl]))] sz (fun (r : Int32) (u : Unit) => (r.toInt = 4 ∧ lpe.toInt < 5) ∨ (r.toInt = 6 ∧ ltk.toInt < 6 ∧ 0 < lpe.toInt) ∨ r.toInt = 0) (fun u => [(h0, .inr (0, [.int lpe, .int ltk, .ref lho, .ref lli, .ref lki, .ref lfd, .ref lfr, .ref lto, .ref lse, .ref lhl]))]) 0 0 := by
  refine begins (l := l) (y := yX0_partSize) (ws := wsX0_partSize) (av := [.ref h0, .int n]) (Qc := fun A => va_Qi (fun (r : Int32) (u : Unit) => (r.toInt = 4 ∧ lpe.toInt < 5) ∨ (r.toInt = 6 ∧ ltk.toInt < 6 ∧ 0 < lpe.toInt) ∨ r.toInt = 0) (fun u => Wd D cI cZ cM A ((fun u => [(h0, .inr (0, [.int lpe, .int ltk, .ref lho, .ref lli, .ref lki, .ref lfd, .ref lfr, .ref lto, .ref lse, .ref lhl]))]) u)) A) cX0_partSize 2 (some .int) (by decide) rfl (Nat.le_of_ble_eq_true rfl) ?_
  intro p e s m args below meth c R Q A ls hBd hR hQ hA hS hK hP hD hl
  obtain ⟨hx, hb, hr, hts, hown, hlocks, hin, hml⟩ := hBd
  have hl : lv_has ls 2 [(0, .ref h0), (1, .int n)] := hl
  have iX0 : ∀ w ∈ wsX00, w ∈ wsX0_partSize := fun _ h => List.mem_cons_of_mem _ (List.mem_append_right _ h)
  refine lv_iload_n hx hb dX0_partSize_0 rfl (lv_at hl 1 rfl) ?_
  refine lv_bipush (v := 80) hx hb dX0_partSize_1 (by decide) ?_
  refine lv_icmp_ne (tgt := 16) hx hb dX0_partSize_3 (by decide) (fun c_1 => ?_) (fun c_1 => ?_)
  · have tc_1 := b_ne rfl (show (80 : Int32).toInt = 80 by decide) c_1
    refine lv_iload_n hx hb dX0_partSize_16 rfl (lv_at hl 1 rfl) ?_
    refine lv_bipush (v := 84) hx hb dX0_partSize_17 (by decide) ?_
    refine lv_icmp_ne (tgt := 41) hx hb dX0_partSize_19 (by decide) (fun c_2 => ?_) (fun c_2 => ?_)
    · have tc_2 := b_ne rfl (show (84 : Int32).toInt = 84 by decide) c_2
      refine lv_iconst (v := 0) hx hb dX0_partSize_41 (by decide) ?_
      exact ret_i (post := (fun (r : Int32) (u : Unit) => (r.toInt = 4 ∧ lpe.toInt < 5) ∨ (r.toInt = 6 ∧ ltk.toInt < 6 ∧ 0 < lpe.toInt) ∨ r.toInt = 0)) (W1 := (fun u => [(h0, .inr (0, [.int lpe, .int ltk, .ref lho, .ref lli, .ref lki, .ref lfd, .ref lfr, .ref lto, .ref lse, .ref lhl]))])) () hx hb hr hlocks rfl hQ hK hP hD hS ⟨by decide, by decide⟩ dX0_partSize_42 (show ((0 : Int) = 4 ∧ lpe.toInt < 5) ∨ ((0 : Int) = 6 ∧ ltk.toInt < 6 ∧ 0 < lpe.toInt) ∨ (0 : Int) = 0 by omega)
    · have tc_2 := b_eq rfl (show (84 : Int32).toInt = 84 by decide) c_2
      refine lv_aload_n hx hb dX0_partSize_22 rfl (lv_at hl 0 rfl) ?_
      refine va_get (D := D) (ci := 0) (v := .int ltk) (C := RX0) (T := TX0) (N := 10) hx hb hts iX0 hown hK hP 0 rfl rfl 1 (by decide) (hts (.fieldLink RX0 15 "PunchedTicket$Line" "tickets" "I") (List.mem_of_getElem? (i := 2) rfl)) (fun _ h9 => h9) rfl dX0_partSize_23 ?_
      refine lv_bipush (v := 6) hx hb dX0_partSize_26 (by decide) ?_
      refine lv_icmp_ge (tgt := 41) hx hb dX0_partSize_28 (by decide) (fun c_3 => ?_) (fun c_3 => ?_)
      · have tc_3 := b_le (show (6 : Int32).toInt = 6 by decide) rfl c_3
        refine lv_iconst (v := 0) hx hb dX0_partSize_41 (by decide) ?_
        exact ret_i (post := (fun (r : Int32) (u : Unit) => (r.toInt = 4 ∧ lpe.toInt < 5) ∨ (r.toInt = 6 ∧ ltk.toInt < 6 ∧ 0 < lpe.toInt) ∨ r.toInt = 0)) (W1 := (fun u => [(h0, .inr (0, [.int lpe, .int ltk, .ref lho, .ref lli, .ref lki, .ref lfd, .ref lfr, .ref lto, .ref lse, .ref lhl]))])) () hx hb hr hlocks rfl hQ hK hP hD hS ⟨by decide, by decide⟩ dX0_partSize_42 (show ((0 : Int) = 4 ∧ lpe.toInt < 5) ∨ ((0 : Int) = 6 ∧ ltk.toInt < 6 ∧ 0 < lpe.toInt) ∨ (0 : Int) = 0 by omega)
      · have tc_3 := b_nle (show (6 : Int32).toInt = 6 by decide) rfl c_3
        refine lv_aload_n hx hb dX0_partSize_31 rfl (lv_at hl 0 rfl) ?_
        refine va_get (D := D) (ci := 0) (v := .int lpe) (C := RX0) (T := TX0) (N := 10) hx hb hts iX0 hown hK hP 0 rfl rfl 0 (by decide) (hts (.fieldLink RX0 9 "PunchedTicket$Line" "people" "I") (List.mem_of_getElem? (i := 1) rfl)) (fun _ h9 => h9) rfl dX0_partSize_32 ?_
        refine lv_if_le (tgt := 41) hx hb dX0_partSize_35 (by decide) (fun c_4 => ?_) (fun c_4 => ?_)
        · have tc_4 := b_le rfl (show (0 : Int32).toInt = 0 by decide) c_4
          refine lv_iconst (v := 0) hx hb dX0_partSize_41 (by decide) ?_
          exact ret_i (post := (fun (r : Int32) (u : Unit) => (r.toInt = 4 ∧ lpe.toInt < 5) ∨ (r.toInt = 6 ∧ ltk.toInt < 6 ∧ 0 < lpe.toInt) ∨ r.toInt = 0)) (W1 := (fun u => [(h0, .inr (0, [.int lpe, .int ltk, .ref lho, .ref lli, .ref lki, .ref lfd, .ref lfr, .ref lto, .ref lse, .ref lhl]))])) () hx hb hr hlocks rfl hQ hK hP hD hS ⟨by decide, by decide⟩ dX0_partSize_42 (show ((0 : Int) = 4 ∧ lpe.toInt < 5) ∨ ((0 : Int) = 6 ∧ ltk.toInt < 6 ∧ 0 < lpe.toInt) ∨ (0 : Int) = 0 by omega)
        · have tc_4 := b_nle rfl (show (0 : Int32).toInt = 0 by decide) c_4
          refine lv_bipush (v := 6) hx hb dX0_partSize_38 (by decide) ?_
          exact ret_i (post := (fun (r : Int32) (u : Unit) => (r.toInt = 4 ∧ lpe.toInt < 5) ∨ (r.toInt = 6 ∧ ltk.toInt < 6 ∧ 0 < lpe.toInt) ∨ r.toInt = 0)) (W1 := (fun u => [(h0, .inr (0, [.int lpe, .int ltk, .ref lho, .ref lli, .ref lki, .ref lfd, .ref lfr, .ref lto, .ref lse, .ref lhl]))])) () hx hb hr hlocks rfl hQ hK hP hD hS ⟨by decide, by decide⟩ dX0_partSize_40 (show ((6 : Int) = 4 ∧ lpe.toInt < 5) ∨ ((6 : Int) = 6 ∧ ltk.toInt < 6 ∧ 0 < lpe.toInt) ∨ (6 : Int) = 0 by omega)
  · have tc_1 := b_eq rfl (show (80 : Int32).toInt = 80 by decide) c_1
    refine lv_aload_n hx hb dX0_partSize_6 rfl (lv_at hl 0 rfl) ?_
    refine va_get (D := D) (ci := 0) (v := .int lpe) (C := RX0) (T := TX0) (N := 10) hx hb hts iX0 hown hK hP 0 rfl rfl 0 (by decide) (hts (.fieldLink RX0 9 "PunchedTicket$Line" "people" "I") (List.mem_of_getElem? (i := 1) rfl)) (fun _ h9 => h9) rfl dX0_partSize_7 ?_
    refine lv_iconst (v := 5) hx hb dX0_partSize_10 (by decide) ?_
    refine lv_icmp_ge (tgt := 16) hx hb dX0_partSize_11 (by decide) (fun c_5 => ?_) (fun c_5 => ?_)
    · have tc_5 := b_le (show (5 : Int32).toInt = 5 by decide) rfl c_5
      refine lv_iload_n hx hb dX0_partSize_16 rfl (lv_at hl 1 rfl) ?_
      refine lv_bipush (v := 84) hx hb dX0_partSize_17 (by decide) ?_
      refine lv_icmp_ne (tgt := 41) hx hb dX0_partSize_19 (by decide) (fun c_6 => ?_) (fun c_6 => ?_)
      · have tc_6 := b_ne rfl (show (84 : Int32).toInt = 84 by decide) c_6
        refine lv_iconst (v := 0) hx hb dX0_partSize_41 (by decide) ?_
        exact ret_i (post := (fun (r : Int32) (u : Unit) => (r.toInt = 4 ∧ lpe.toInt < 5) ∨ (r.toInt = 6 ∧ ltk.toInt < 6 ∧ 0 < lpe.toInt) ∨ r.toInt = 0)) (W1 := (fun u => [(h0, .inr (0, [.int lpe, .int ltk, .ref lho, .ref lli, .ref lki, .ref lfd, .ref lfr, .ref lto, .ref lse, .ref lhl]))])) () hx hb hr hlocks rfl hQ hK hP hD hS ⟨by decide, by decide⟩ dX0_partSize_42 (show ((0 : Int) = 4 ∧ lpe.toInt < 5) ∨ ((0 : Int) = 6 ∧ ltk.toInt < 6 ∧ 0 < lpe.toInt) ∨ (0 : Int) = 0 by omega)
      · have tc_6 := b_eq rfl (show (84 : Int32).toInt = 84 by decide) c_6
        exfalso; omega
    · have tc_5 := b_nle (show (5 : Int32).toInt = 5 by decide) rfl c_5
      refine lv_iconst (v := 4) hx hb dX0_partSize_14 (by decide) ?_
      exact ret_i (post := (fun (r : Int32) (u : Unit) => (r.toInt = 4 ∧ lpe.toInt < 5) ∨ (r.toInt = 6 ∧ ltk.toInt < 6 ∧ 0 < lpe.toInt) ∨ r.toInt = 0)) (W1 := (fun u => [(h0, .inr (0, [.int lpe, .int ltk, .ref lho, .ref lli, .ref lki, .ref lfd, .ref lfr, .ref lto, .ref lse, .ref lhl]))])) () hx hb hr hlocks rfl hQ hK hP hD hS ⟨by decide, by decide⟩ dX0_partSize_15 (show ((4 : Int) = 4 ∧ lpe.toInt < 5) ∨ ((4 : Int) = 6 ∧ ltk.toInt < 6 ∧ 0 < lpe.toInt) ∨ (4 : Int) = 0 by omega)

set_option maxHeartbeats 600000 in
set_option maxRecDepth 100000 in
theorem c_X0_figureFits (l : Launch) (D : va_G) (cI cZ cM : ClassId) (h0 : Nat) (tx : Nat) (n : Int32) (k : Int32) (z : Int32) (lpe : Int32) (ltk : Int32) (lho : Nat) (lli : Nat) (lki : Nat) (lfd : Nat) (lfr : Nat) (lto : Nat) (lse : Nat) (lhl : Nat) (Ftx : Nat → Int32) (sz : Nat) (hnk : n.toInt + k.toInt ≤ 63) (h_n : 0 ≤ n.toInt ∧ n.toInt ≤ 63) (h_k : 1 ≤ k.toInt ∧ k.toInt ≤ 5) : Ci l yX0_figureFits wsX0_figureFits ({ frames := 0, cells := 0, slots := 0, locals := 0 } : Room) D cI cZ cM [.ref h0, .ref tx, .int n, .int k, .int z] [(h0, .inr (0, [.int lpe, .int ltk, .ref lho, .ref lli, .ref lki, .ref lfd, .ref lfr, .ref lto, .ref lse, .ref lhl])), (tx, .inl (cI, 64, .inl Ftx))] sz (fun (r : Int32) (u : Unit) => (r.toInt = 0 ∨ r.toInt = 1)) (fun u => [(h0, .inr (0, [.int lpe, .int ltk, .ref lho, .ref lli, .ref lki, .ref lfd, .ref lfr, .ref lto, .ref lse, .ref lhl])), (tx, .inl (cI, 64, .inl Ftx))]) 0 0 := by
  refine begins (l := l) (y := yX0_figureFits) (ws := wsX0_figureFits) (av := [.ref h0, .ref tx, .int n, .int k, .int z]) (Qc := fun A => va_Qi (fun (r : Int32) (u : Unit) => (r.toInt = 0 ∨ r.toInt = 1)) (fun u => Wd D cI cZ cM A ((fun u => [(h0, .inr (0, [.int lpe, .int ltk, .ref lho, .ref lli, .ref lki, .ref lfd, .ref lfr, .ref lto, .ref lse, .ref lhl])), (tx, .inl (cI, 64, .inl Ftx))]) u)) A) cX0_figureFits 6 (some .boolean) (by decide) rfl (Nat.le_of_ble_eq_true rfl) ?_
  intro p e s m args below meth c R Q A ls hBd hR hQ hA hS hK hP hD hl
  obtain ⟨hx, hb, hr, hts, hown, hlocks, hin, hml⟩ := hBd
  have hl : lv_has ls 6 [(0, .ref h0), (1, .ref tx), (2, .int n), (3, .int k), (4, .int z)] := hl
  have iX0 : ∀ w ∈ wsX00, w ∈ wsX0_figureFits := fun _ h => List.mem_cons_of_mem _ (List.mem_append_right _ h)
  obtain ⟨h_na, h_nb⟩ := h_n
  obtain ⟨h_ka, h_kb⟩ := h_k
  refine lv_aload_n hx hb dX0_figureFits_0 rfl (lv_at hl 1 rfl) ?_
  refine lv_iload_n hx hb dX0_figureFits_1 rfl (lv_at hl 2 rfl) ?_
  refine lv_iload_n hx hb dX0_figureFits_2 rfl (lv_at hl 3 rfl) ?_
  refine lv_iadd hx hb dX0_figureFits_3 ?_
  refine lv_topi (fun v_1 ev_1 => ?_)
  have tv_1 : v_1.toInt = n.toInt + k.toInt := by rw [ev_1]; exact ti_add (x := n) (y := k) (show -2147483648 ≤ n.toInt + k.toInt by omega) (show n.toInt + k.toInt < 2147483648 by omega)
  refine va_iald hx hb hK hP 1 0 rfl rfl (vp_in_iff.mpr ⟨by omega, by omega⟩) dX0_figureFits_4 ?_
  refine lv_topi (fun v_2 ev_2 => ?_)
  refine lv_bipush (v := 48) hx hb dX0_figureFits_5 (by decide) ?_
  refine lv_isub hx hb dX0_figureFits_7 ?_
  refine lv_topi (fun v_3 ev_3 => ?_)
  refine lv_istore (lv' := [(5, .int v_3), (0, .ref h0), (1, .ref tx), (2, .int n), (3, .int k), (4, .int z)]) hx hb dX0_figureFits_8 hl (by decide) rfl (fun ls hl => ?_)
  refine lv_iload hx hb dX0_figureFits_10 (lv_at hl 0 rfl) ?_
  refine lv_if_lt (tgt := 22) hx hb dX0_figureFits_12 (by decide) (fun c_4 => ?_) (fun c_4 => ?_)
  · have tc_4 := b_lt rfl (show (0 : Int32).toInt = 0 by decide) c_4
    refine lv_iconst (v := 0) hx hb dX0_figureFits_22 (by decide) ?_
    exact ret_i (post := (fun (r : Int32) (u : Unit) => (r.toInt = 0 ∨ r.toInt = 1))) (W1 := (fun u => [(h0, .inr (0, [.int lpe, .int ltk, .ref lho, .ref lli, .ref lki, .ref lfd, .ref lfr, .ref lto, .ref lse, .ref lhl])), (tx, .inl (cI, 64, .inl Ftx))])) () hx hb hr hlocks rfl hQ hK hP hD hS ⟨by decide, by decide⟩ dX0_figureFits_23 (show ((0 : Int) = 0 ∨ (0 : Int) = 1) by omega)
  · have tc_4 := b_nlt rfl (show (0 : Int32).toInt = 0 by decide) c_4
    refine lv_iload hx hb dX0_figureFits_15 (lv_at hl 0 rfl) ?_
    refine lv_bipush (v := 9) hx hb dX0_figureFits_17 (by decide) ?_
    refine lv_icmp_le (tgt := 24) hx hb dX0_figureFits_19 (by decide) (fun c_5 => ?_) (fun c_5 => ?_)
    · have tc_5 := b_le rfl (show (9 : Int32).toInt = 9 by decide) c_5
      refine lv_iload hx hb dX0_figureFits_24 (lv_at hl 5 rfl) ?_
      refine lv_iconst (v := 4) hx hb dX0_figureFits_26 (by decide) ?_
      refine lv_icmp_ne (tgt := 47) hx hb dX0_figureFits_27 (by decide) (fun c_6 => ?_) (fun c_6 => ?_)
      · have tc_6 := b_ne rfl (show (4 : Int32).toInt = 4 by decide) c_6
        refine lv_iload_n hx hb dX0_figureFits_47 rfl (lv_at hl 4 rfl) ?_
        refine lv_iconst (v := 3) hx hb dX0_figureFits_48 (by decide) ?_
        refine lv_icmp_ne (tgt := 71) hx hb dX0_figureFits_49 (by decide) (fun c_7 => ?_) (fun c_7 => ?_)
        · have tc_7 := b_ne rfl (show (3 : Int32).toInt = 3 by decide) c_7
          refine lv_iload_n hx hb dX0_figureFits_71 rfl (lv_at hl 4 rfl) ?_
          refine lv_iconst (v := 5) hx hb dX0_figureFits_72 (by decide) ?_
          refine lv_icmp_ne (tgt := 85) hx hb dX0_figureFits_73 (by decide) (fun c_8 => ?_) (fun c_8 => ?_)
          · have tc_8 := b_ne rfl (show (5 : Int32).toInt = 5 by decide) c_8
            refine lv_iconst (v := 1) hx hb dX0_figureFits_85 (by decide) ?_
            refine lv_goto (tgt := 90) hx hb dX0_figureFits_86 (by decide) ?_
            exact ret_i (post := (fun (r : Int32) (u : Unit) => (r.toInt = 0 ∨ r.toInt = 1))) (W1 := (fun u => [(h0, .inr (0, [.int lpe, .int ltk, .ref lho, .ref lli, .ref lki, .ref lfd, .ref lfr, .ref lto, .ref lse, .ref lhl])), (tx, .inl (cI, 64, .inl Ftx))])) () hx hb hr hlocks rfl hQ hK hP hD hS ⟨by decide, by decide⟩ dX0_figureFits_90 (show ((1 : Int) = 0 ∨ (1 : Int) = 1) by omega)
          · have tc_8 := b_eq rfl (show (5 : Int32).toInt = 5 by decide) c_8
            refine lv_iload hx hb dX0_figureFits_76 (lv_at hl 0 rfl) ?_
            refine lv_aload_n hx hb dX0_figureFits_78 rfl (lv_at hl 1 rfl) ?_
            refine va_get (D := D) (ci := 0) (v := .int lpe) (C := RX0) (T := TX0) (N := 10) hx hb hts iX0 hown hK hP 0 rfl rfl 0 (by decide) (hts (.fieldLink RX0 9 "PunchedTicket$Line" "people" "I") (List.mem_of_getElem? (i := 1) rfl)) (fun _ h9 => h9) rfl dX0_figureFits_79 ?_
            refine lv_icmp_ge (tgt := 89) hx hb dX0_figureFits_82 (by decide) (fun c_9 => ?_) (fun c_9 => ?_)
            · have tc_9 := b_le rfl rfl c_9
              refine lv_iconst (v := 0) hx hb dX0_figureFits_89 (by decide) ?_
              exact ret_i (post := (fun (r : Int32) (u : Unit) => (r.toInt = 0 ∨ r.toInt = 1))) (W1 := (fun u => [(h0, .inr (0, [.int lpe, .int ltk, .ref lho, .ref lli, .ref lki, .ref lfd, .ref lfr, .ref lto, .ref lse, .ref lhl])), (tx, .inl (cI, 64, .inl Ftx))])) () hx hb hr hlocks rfl hQ hK hP hD hS ⟨by decide, by decide⟩ dX0_figureFits_90 (show ((0 : Int) = 0 ∨ (0 : Int) = 1) by omega)
            · have tc_9 := b_nle rfl rfl c_9
              refine lv_iconst (v := 1) hx hb dX0_figureFits_85 (by decide) ?_
              refine lv_goto (tgt := 90) hx hb dX0_figureFits_86 (by decide) ?_
              exact ret_i (post := (fun (r : Int32) (u : Unit) => (r.toInt = 0 ∨ r.toInt = 1))) (W1 := (fun u => [(h0, .inr (0, [.int lpe, .int ltk, .ref lho, .ref lli, .ref lki, .ref lfd, .ref lfr, .ref lto, .ref lse, .ref lhl])), (tx, .inl (cI, 64, .inl Ftx))])) () hx hb hr hlocks rfl hQ hK hP hD hS ⟨by decide, by decide⟩ dX0_figureFits_90 (show ((1 : Int) = 0 ∨ (1 : Int) = 1) by omega)
        · have tc_7 := b_eq rfl (show (3 : Int32).toInt = 3 by decide) c_7
          refine lv_iload hx hb dX0_figureFits_52 (lv_at hl 0 rfl) ?_
          refine lv_aload_n hx hb dX0_figureFits_54 rfl (lv_at hl 2 rfl) ?_
          refine lv_iload_n hx hb dX0_figureFits_55 rfl (lv_at hl 3 rfl) ?_
          refine lv_iconst (v := 2) hx hb dX0_figureFits_56 (by decide) ?_
          refine lv_iadd hx hb dX0_figureFits_57 ?_
          refine lv_topi (fun v_10 ev_10 => ?_)
          have tv_10 : v_10.toInt = n.toInt + (2 : Int) := by rw [ev_10]; exact ti_add (x := n) (y := 2) (show -2147483648 ≤ n.toInt + (2 : Int) by omega) (show n.toInt + (2 : Int) < 2147483648 by omega)
          refine va_iald hx hb hK hP 1 0 rfl rfl (vp_in_iff.mpr ⟨by omega, by omega⟩) dX0_figureFits_58 ?_
          refine lv_topi (fun v_11 ev_11 => ?_)
          refine lv_bipush (v := 48) hx hb dX0_figureFits_59 (by decide) ?_
          refine lv_isub hx hb dX0_figureFits_61 ?_
          refine lv_topi (fun v_12 ev_12 => ?_)
          refine lv_icmp_eq (tgt := 69) hx hb dX0_figureFits_62 (by decide) (fun c_13 => ?_) (fun c_13 => ?_)
          · have tc_13 := b_eq rfl rfl c_13
            refine lv_iconst (v := 0) hx hb dX0_figureFits_69 (by decide) ?_
            exact ret_i (post := (fun (r : Int32) (u : Unit) => (r.toInt = 0 ∨ r.toInt = 1))) (W1 := (fun u => [(h0, .inr (0, [.int lpe, .int ltk, .ref lho, .ref lli, .ref lki, .ref lfd, .ref lfr, .ref lto, .ref lse, .ref lhl])), (tx, .inl (cI, 64, .inl Ftx))])) () hx hb hr hlocks rfl hQ hK hP hD hS ⟨by decide, by decide⟩ dX0_figureFits_70 (show ((0 : Int) = 0 ∨ (0 : Int) = 1) by omega)
          · have tc_13 := b_ne rfl rfl c_13
            refine lv_iconst (v := 1) hx hb dX0_figureFits_65 (by decide) ?_
            refine lv_goto (tgt := 70) hx hb dX0_figureFits_66 (by decide) ?_
            exact ret_i (post := (fun (r : Int32) (u : Unit) => (r.toInt = 0 ∨ r.toInt = 1))) (W1 := (fun u => [(h0, .inr (0, [.int lpe, .int ltk, .ref lho, .ref lli, .ref lki, .ref lfd, .ref lfr, .ref lto, .ref lse, .ref lhl])), (tx, .inl (cI, 64, .inl Ftx))])) () hx hb hr hlocks rfl hQ hK hP hD hS ⟨by decide, by decide⟩ dX0_figureFits_70 (show ((1 : Int) = 0 ∨ (1 : Int) = 1) by omega)
      · have tc_6 := b_eq rfl (show (4 : Int32).toInt = 4 by decide) c_6
        refine lv_iload_n hx hb dX0_figureFits_30 rfl (lv_at hl 4 rfl) ?_
        refine lv_iconst (v := 3) hx hb dX0_figureFits_31 (by decide) ?_
        refine lv_icmp_ne (tgt := 41) hx hb dX0_figureFits_32 (by decide) (fun c_14 => ?_) (fun c_14 => ?_)
        · have tc_14 := b_ne rfl (show (3 : Int32).toInt = 3 by decide) c_14
          refine lv_iconst (v := 1) hx hb dX0_figureFits_41 (by decide) ?_
          refine lv_goto (tgt := 46) hx hb dX0_figureFits_42 (by decide) ?_
          exact ret_i (post := (fun (r : Int32) (u : Unit) => (r.toInt = 0 ∨ r.toInt = 1))) (W1 := (fun u => [(h0, .inr (0, [.int lpe, .int ltk, .ref lho, .ref lli, .ref lki, .ref lfd, .ref lfr, .ref lto, .ref lse, .ref lhl])), (tx, .inl (cI, 64, .inl Ftx))])) () hx hb hr hlocks rfl hQ hK hP hD hS ⟨by decide, by decide⟩ dX0_figureFits_46 (show ((1 : Int) = 0 ∨ (1 : Int) = 1) by omega)
        · have tc_14 := b_eq rfl (show (3 : Int32).toInt = 3 by decide) c_14
          refine lv_iload hx hb dX0_figureFits_35 (lv_at hl 0 rfl) ?_
          refine lv_iconst (v := 3) hx hb dX0_figureFits_37 (by decide) ?_
          refine lv_icmp_gt (tgt := 45) hx hb dX0_figureFits_38 (by decide) (fun c_15 => ?_) (fun c_15 => ?_)
          · have tc_15 := b_lt (show (3 : Int32).toInt = 3 by decide) rfl c_15
            refine lv_iconst (v := 0) hx hb dX0_figureFits_45 (by decide) ?_
            exact ret_i (post := (fun (r : Int32) (u : Unit) => (r.toInt = 0 ∨ r.toInt = 1))) (W1 := (fun u => [(h0, .inr (0, [.int lpe, .int ltk, .ref lho, .ref lli, .ref lki, .ref lfd, .ref lfr, .ref lto, .ref lse, .ref lhl])), (tx, .inl (cI, 64, .inl Ftx))])) () hx hb hr hlocks rfl hQ hK hP hD hS ⟨by decide, by decide⟩ dX0_figureFits_46 (show ((0 : Int) = 0 ∨ (0 : Int) = 1) by omega)
          · have tc_15 := b_nlt (show (3 : Int32).toInt = 3 by decide) rfl c_15
            refine lv_iconst (v := 1) hx hb dX0_figureFits_41 (by decide) ?_
            refine lv_goto (tgt := 46) hx hb dX0_figureFits_42 (by decide) ?_
            exact ret_i (post := (fun (r : Int32) (u : Unit) => (r.toInt = 0 ∨ r.toInt = 1))) (W1 := (fun u => [(h0, .inr (0, [.int lpe, .int ltk, .ref lho, .ref lli, .ref lki, .ref lfd, .ref lfr, .ref lto, .ref lse, .ref lhl])), (tx, .inl (cI, 64, .inl Ftx))])) () hx hb hr hlocks rfl hQ hK hP hD hS ⟨by decide, by decide⟩ dX0_figureFits_46 (show ((1 : Int) = 0 ∨ (1 : Int) = 1) by omega)
    · have tc_5 := b_nle rfl (show (9 : Int32).toInt = 9 by decide) c_5
      refine lv_iconst (v := 0) hx hb dX0_figureFits_22 (by decide) ?_
      exact ret_i (post := (fun (r : Int32) (u : Unit) => (r.toInt = 0 ∨ r.toInt = 1))) (W1 := (fun u => [(h0, .inr (0, [.int lpe, .int ltk, .ref lho, .ref lli, .ref lki, .ref lfd, .ref lfr, .ref lto, .ref lse, .ref lhl])), (tx, .inl (cI, 64, .inl Ftx))])) () hx hb hr hlocks rfl hQ hK hP hD hS ⟨by decide, by decide⟩ dX0_figureFits_23 (show ((0 : Int) = 0 ∨ (0 : Int) = 1) by omega)

set_option maxHeartbeats 600000 in
set_option maxRecDepth 100000 in
theorem c_X0_partFault (l : Launch) (D : va_G) (cI cZ cM : ClassId) (h0 : Nat) (tx : Nat) (le : Int32) (n : Int32) (z : Int32) (lpe : Int32) (ltk : Int32) (lho : Nat) (lli : Nat) (lki : Nat) (lfd : Nat) (lfr : Nat) (lto : Nat) (lse : Nat) (lhl : Nat) (Ftx : Nat → Int32) (sz : Nat) (h_le : 0 ≤ le.toInt ∧ le.toInt ≤ 64) (h_n : 0 ≤ n.toInt ∧ n.toInt ≤ 63) (h_z : 4 ≤ z.toInt ∧ z.toInt ≤ 6) : Ci l yX0_partFault wsX0_partFault ({ frames := 1, cells := 0, slots := 0, locals := 25 } : Room) D cI cZ cM [.ref h0, .ref tx, .int le, .int n, .int z] [(h0, .inr (0, [.int lpe, .int ltk, .ref lho, .ref lli, .ref lki, .ref lfd, .ref lfr, .ref lto, .ref lse, .ref lhl])), (tx, .inl (cI, 64, .inl Ftx))] sz (fun (r : Int32) (u : Unit) => (r.toInt = -9 ∧ n.toInt + z.toInt ≤ le.toInt) ∨ 0 ≤ r.toInt) (fun u => [(h0, .inr (0, [.int lpe, .int ltk, .ref lho, .ref lli, .ref lki, .ref lfd, .ref lfr, .ref lto, .ref lse, .ref lhl])), (tx, .inl (cI, 64, .inl Ftx))]) 0 0 := by
  refine begins (l := l) (y := yX0_partFault) (ws := wsX0_partFault) (av := [.ref h0, .ref tx, .int le, .int n, .int z]) (Qc := fun A => va_Qi (fun (r : Int32) (u : Unit) => (r.toInt = -9 ∧ n.toInt + z.toInt ≤ le.toInt) ∨ 0 ≤ r.toInt) (fun u => Wd D cI cZ cM A ((fun u => [(h0, .inr (0, [.int lpe, .int ltk, .ref lho, .ref lli, .ref lki, .ref lfd, .ref lfr, .ref lto, .ref lse, .ref lhl])), (tx, .inl (cI, 64, .inl Ftx))]) u)) A) cX0_partFault 7 (some .int) (by decide) rfl (Nat.le_of_ble_eq_true rfl) ?_
  intro p e s m args below meth c R Q A ls hBd hR hQ hA hS hK hP hD hl
  obtain ⟨hx, hb, hr, hts, hown, hlocks, hin, hml⟩ := hBd
  have hl : lv_has ls 7 [(0, .ref h0), (1, .ref tx), (2, .int le), (3, .int n), (4, .int z)] := hl
  have iX0 : ∀ w ∈ wsX00, w ∈ wsX0_partFault := fun _ h => List.mem_cons_of_mem _ (List.mem_append_right _ h)
  obtain ⟨h_lea, h_leb⟩ := h_le
  obtain ⟨h_na, h_nb⟩ := h_n
  obtain ⟨h_za, h_zb⟩ := h_z
  refine lv_iconst (v := 1) hx hb dX0_partFault_0 (by decide) ?_
  refine lv_istore (lv' := [(5, .int 1), (0, .ref h0), (1, .ref tx), (2, .int le), (3, .int n), (4, .int z)]) hx hb dX0_partFault_1 hl (by decide) rfl (fun ls hl => ?_)
  have LOOP_1 : ∀ (fu_1 : Nat) (x5 : Int32) (H : Heap) (locs : List Loc) (ls : Array Slot), (6 - x5.toInt).toNat < fu_1 → (1 ≤ x5.toInt ∧ x5.toInt ≤ 6) → (x5.toInt = 1 ∨ n.toInt + x5.toInt ≤ le.toInt) → (x5.toInt ≤ z.toInt) → va_P D vwCl [(h0, .inr (0, [.int lpe, .int ltk, .ref lho, .ref lli, .ref lki, .ref lfd, .ref lfr, .ref lto, .ref lse, .ref lhl])), (tx, .inl (cI, 64, .inl Ftx))] H → va_D A [(h0, .inr (0, [.int lpe, .int ltk, .ref lho, .ref lli, .ref lki, .ref lfd, .ref lfr, .ref lto, .ref lse, .ref lhl])), (tx, .inl (cI, 64, .inl Ftx))] → va_S A s.heap H locs → lv_has ls 7 [(0, .ref h0), (1, .ref tx), (2, .int le), (3, .int n), (4, .int z), (5, .int x5)] → W p l e R s m args below meth c H locs 0 0 Q (F0 m 3 ls []) := by
    intro fu_1
    induction fu_1 with
    | zero => intro x5 H locs ls hmu; exact absurd hmu (Nat.not_lt_zero _)
    | succ fu_1 ih =>
      intro x5 H locs ls hmu h_x5 hi1 hi2 hP hD hS hl
      obtain ⟨h_x5a, h_x5b⟩ := h_x5
      have ih_2 := ih
      clear ih
      refine lv_iload hx hb dX0_partFault_3 (lv_at hl 5 rfl) ?_
      refine lv_iload hx hb dX0_partFault_5 (lv_at hl 4 rfl) ?_
      refine lv_icmp_ge (tgt := 46) hx hb dX0_partFault_7 (by decide) (fun c_3 => ?_) (fun c_3 => ?_)
      · have tc_3 := b_le rfl rfl c_3
        refine lv_bipush (v := (-9)) hx hb dX0_partFault_46 (by decide) ?_
        exact ret_i (post := (fun (r : Int32) (u : Unit) => (r.toInt = -9 ∧ n.toInt + z.toInt ≤ le.toInt) ∨ 0 ≤ r.toInt)) (W1 := (fun u => [(h0, .inr (0, [.int lpe, .int ltk, .ref lho, .ref lli, .ref lki, .ref lfd, .ref lfr, .ref lto, .ref lse, .ref lhl])), (tx, .inl (cI, 64, .inl Ftx))])) () hx hb hr hlocks rfl hQ hK hP hD hS ⟨by decide, by decide⟩ dX0_partFault_48 (show ((-9 : Int) = -9 ∧ n.toInt + z.toInt ≤ le.toInt) ∨ 0 ≤ (-9 : Int) by omega)
      · have tc_3 := b_nle rfl rfl c_3
        refine lv_iload_n hx hb dX0_partFault_10 rfl (lv_at hl 3 rfl) ?_
        refine lv_iload hx hb dX0_partFault_11 (lv_at hl 5 rfl) ?_
        refine lv_iadd hx hb dX0_partFault_13 ?_
        refine lv_topi (fun v_4 ev_4 => ?_)
        have tv_4 : v_4.toInt = n.toInt + x5.toInt := by rw [ev_4]; exact ti_add (x := n) (y := x5) (show -2147483648 ≤ n.toInt + x5.toInt by omega) (show n.toInt + x5.toInt < 2147483648 by omega)
        refine lv_istore (lv' := [(6, .int v_4), (0, .ref h0), (1, .ref tx), (2, .int le), (3, .int n), (4, .int z), (5, .int x5)]) hx hb dX0_partFault_14 hl (by decide) rfl (fun ls hl => ?_)
        refine lv_iload hx hb dX0_partFault_16 (lv_at hl 0 rfl) ?_
        refine lv_iload_n hx hb dX0_partFault_18 rfl (lv_at hl 3 rfl) ?_
        refine lv_icmp_lt (tgt := 24) hx hb dX0_partFault_19 (by decide) (fun c_5 => ?_) (fun c_5 => ?_)
        · have tc_5 := b_lt rfl rfl c_5
          refine lv_aload_n hx hb dX0_partFault_24 rfl (lv_at hl 1 rfl) ?_
          refine lv_aload_n hx hb dX0_partFault_25 rfl (lv_at hl 2 rfl) ?_
          refine lv_iload_n hx hb dX0_partFault_26 rfl (lv_at hl 4 rfl) ?_
          refine lv_iload hx hb dX0_partFault_27 (lv_at hl 6 rfl) ?_
          refine lv_iload hx hb dX0_partFault_29 (lv_at hl 5 rfl) ?_
          refine cV_i (As := [.ref tx, .int n, .int x5, .int z]) (rest := []) ⟨hx, hb, hml, hown, hts⟩ (c_X0_figureFits l D cI cZ cM h0 tx n x5 z lpe ltk lho lli lki lfd lfr lto lse lhl Ftx _ (show n.toInt + x5.toInt ≤ 63 by omega) (show 0 ≤ n.toInt ∧ n.toInt ≤ 63 by omega) (show 1 ≤ x5.toInt ∧ x5.toInt ≤ 5 by omega)) (cwV 4 hts gX0_partFault_X0_figureFits rfl rfl rfl (by decide +kernel) ⟨by rw [hR]; decide, by rw [hR]; decide⟩) hK hP hD hS hA [0, 1] [] rfl rfl (by decide) (by decide) (by decide) rfl 0 rfl hl.1 rfl rfl (Nat.le_of_ble_eq_true rfl) dX0_partFault_31 ⟨by rw [hR]; decide, by rw [hR]; decide⟩ (fun r_6 u_7 H locs hw hP hD hS => ?_)
          have hP : va_P D vwCl [(h0, .inr (0, [.int lpe, .int ltk, .ref lho, .ref lli, .ref lki, .ref lfd, .ref lfr, .ref lto, .ref lse, .ref lhl])), (tx, .inl (cI, 64, .inl Ftx))] H := hP.sub [0, 1] rfl
          have hD : va_D A [(h0, .inr (0, [.int lpe, .int ltk, .ref lho, .ref lli, .ref lki, .ref lfd, .ref lfr, .ref lto, .ref lse, .ref lhl])), (tx, .inl (cI, 64, .inl Ftx))] := hD.sub [0, 1] (by decide) rfl
          refine W.widen (k := 0) (n := 0) (Nat.le_refl _) (Nat.le_refl _) ?_
          have hw : (r_6.toInt = 0 ∨ r_6.toInt = 1) := hw
          have hw_8 := hw
          refine lv_if_ne (tgt := 40) hx hb dX0_partFault_34 (by decide) (fun c_9 => ?_) (fun c_9 => ?_)
          · have tc_9 := b_ne rfl (show (0 : Int32).toInt = 0 by decide) c_9
            obtain ⟨v_10, ev_10⟩ : ∃ z : Int32, z = x5 + 1 := ⟨_, rfl⟩
            have tv_10 : v_10.toInt = x5.toInt + 1 := by rw [ev_10]; exact ti_add (x := x5) (y := 1) (show -2147483648 ≤ x5.toInt + 1 by omega) (show x5.toInt + 1 < 2147483648 by omega)
            refine lv_iinc (v := v_10) (lv' := [(5, .int v_10), (6, .int v_4), (0, .ref h0), (1, .ref tx), (2, .int le), (3, .int n), (4, .int z)]) hx hb dX0_partFault_40 hl (k := 6) rfl (by rw [ev_10]; rfl) (by decide) rfl (fun ls hl => ?_)
            refine lv_goto (tgt := 3) hx hb dX0_partFault_43 (by decide) ?_
            exact ih_2 v_10 _ _ _ (show (6 - v_10.toInt).toNat < fu_1 by omega) (show 1 ≤ v_10.toInt ∧ v_10.toInt ≤ 6 by omega) (show v_10.toInt = 1 ∨ n.toInt + v_10.toInt ≤ le.toInt by omega) (show v_10.toInt ≤ z.toInt by omega) hP hD hS (lv_sub hl [2, 3, 4, 5, 6, 0] rfl)
          · have tc_9 := b_eq rfl (show (0 : Int32).toInt = 0 by decide) c_9
            refine lv_iload hx hb dX0_partFault_37 (lv_at hl 0 rfl) ?_
            exact ret_i (post := (fun (r : Int32) (u : Unit) => (r.toInt = -9 ∧ n.toInt + z.toInt ≤ le.toInt) ∨ 0 ≤ r.toInt)) (W1 := (fun u => [(h0, .inr (0, [.int lpe, .int ltk, .ref lho, .ref lli, .ref lki, .ref lfd, .ref lfr, .ref lto, .ref lse, .ref lhl])), (tx, .inl (cI, 64, .inl Ftx))])) () hx hb hr hlocks rfl hQ hK hP hD hS ⟨by decide, by decide⟩ dX0_partFault_39 (show (v_4.toInt = -9 ∧ n.toInt + z.toInt ≤ le.toInt) ∨ 0 ≤ v_4.toInt by omega)
        · have tc_5 := b_nlt rfl rfl c_5
          refine lv_iload_n hx hb dX0_partFault_22 rfl (lv_at hl 3 rfl) ?_
          exact ret_i (post := (fun (r : Int32) (u : Unit) => (r.toInt = -9 ∧ n.toInt + z.toInt ≤ le.toInt) ∨ 0 ≤ r.toInt)) (W1 := (fun u => [(h0, .inr (0, [.int lpe, .int ltk, .ref lho, .ref lli, .ref lki, .ref lfd, .ref lfr, .ref lto, .ref lse, .ref lhl])), (tx, .inl (cI, 64, .inl Ftx))])) () hx hb hr hlocks rfl hQ hK hP hD hS ⟨by decide, by decide⟩ dX0_partFault_23 (show (le.toInt = -9 ∧ n.toInt + z.toInt ≤ le.toInt) ∨ 0 ≤ le.toInt by omega)
  exact LOOP_1 _ 1 _ _ _ (Nat.lt_succ_self _) (by decide) (show (1 : Int) = 1 ∨ n.toInt + (1 : Int) ≤ le.toInt by omega) (show (1 : Int) ≤ z.toInt by omega) hP hD hS (lv_sub hl [1, 2, 3, 4, 5, 0] rfl)

set_option maxHeartbeats 600000 in
set_option maxRecDepth 100000 in
theorem c_X0_takePart (l : Launch) (D : va_G) (cI cZ cM : ClassId) (h0 : Nat) (tx : Nat) (n : Int32) (z : Int32) (lpe : Int32) (ltk : Int32) (lho : Nat) (lli : Nat) (lki : Nat) (lfd : Nat) (lfr : Nat) (lto : Nat) (lse : Nat) (lhl : Nat) (lFho : Nat → Int32) (lFli : Nat → Int32) (lFki : Nat → Int32) (lFfd : Nat → Int32) (lFfr : Nat → Int32) (lFto : Nat → Int32) (lFse : Nat → Int32) (lFhl : Nat → Int32) (Ftx : Nat → Int32) (sz : Nat) (hz : (z.toInt = 4 ∧ lpe.toInt < 5 ∧ n.toInt + 4 ≤ 64) ∨ (z.toInt = 6 ∧ ltk.toInt < 6 ∧ n.toInt + 6 ≤ 64)) (h_n : 0 ≤ n.toInt ∧ n.toInt ≤ 63) (h_lpe : 0 ≤ lpe.toInt ∧ lpe.toInt ≤ 5) (h_ltk : 0 ≤ ltk.toInt ∧ ltk.toInt ≤ 6) : Cv l yX0_takePart wsX0_takePart ({ frames := 0, cells := 0, slots := 0, locals := 0 } : Room) D cI cZ cM [.ref h0, .ref tx, .int n, .int z] [(h0, .inr (0, [.int lpe, .int ltk, .ref lho, .ref lli, .ref lki, .ref lfd, .ref lfr, .ref lto, .ref lse, .ref lhl])), (lho, .inl (cI, 5, .inl lFho)), (lli, .inl (cI, 5, .inl lFli)), (lki, .inl (cI, 5, .inl lFki)), (lfd, .inl (cI, 7, .inl lFfd)), (lfr, .inl (cI, 7, .inl lFfr)), (lto, .inl (cI, 7, .inl lFto)), (lse, .inl (cI, 7, .inl lFse)), (lhl, .inl (cI, 7, .inl lFhl)), (tx, .inl (cI, 64, .inl Ftx))] sz (fun (u : Int32 × Int32 × (Nat → Int32) × (Nat → Int32) × (Nat → Int32) × (Nat → Int32) × (Nat → Int32) × (Nat → Int32) × (Nat → Int32) × (Nat → Int32)) => 0 ≤ u.1.toInt ∧ u.1.toInt ≤ 5 ∧ 0 ≤ u.2.1.toInt ∧ u.2.1.toInt ≤ 6) (fun u => [(h0, .inr (0, [.int u.1, .int u.2.1, .ref lho, .ref lli, .ref lki, .ref lfd, .ref lfr, .ref lto, .ref lse, .ref lhl])), (lho, .inl (cI, 5, .inl u.2.2.1)), (lli, .inl (cI, 5, .inl u.2.2.2.1)), (lki, .inl (cI, 5, .inl u.2.2.2.2.1)), (lfd, .inl (cI, 7, .inl u.2.2.2.2.2.1)), (lfr, .inl (cI, 7, .inl u.2.2.2.2.2.2.1)), (lto, .inl (cI, 7, .inl u.2.2.2.2.2.2.2.1)), (lse, .inl (cI, 7, .inl u.2.2.2.2.2.2.2.2.1)), (lhl, .inl (cI, 7, .inl u.2.2.2.2.2.2.2.2.2)), (tx, .inl (cI, 64, .inl Ftx))]) 0 0 := by
  refine begins (l := l) (y := yX0_takePart) (ws := wsX0_takePart) (av := [.ref h0, .ref tx, .int n, .int z]) (Qc := fun A => va_Qv (fun (u : Int32 × Int32 × (Nat → Int32) × (Nat → Int32) × (Nat → Int32) × (Nat → Int32) × (Nat → Int32) × (Nat → Int32) × (Nat → Int32) × (Nat → Int32)) => 0 ≤ u.1.toInt ∧ u.1.toInt ≤ 5 ∧ 0 ≤ u.2.1.toInt ∧ u.2.1.toInt ≤ 6) (fun u => Wd D cI cZ cM A ((fun u => [(h0, .inr (0, [.int u.1, .int u.2.1, .ref lho, .ref lli, .ref lki, .ref lfd, .ref lfr, .ref lto, .ref lse, .ref lhl])), (lho, .inl (cI, 5, .inl u.2.2.1)), (lli, .inl (cI, 5, .inl u.2.2.2.1)), (lki, .inl (cI, 5, .inl u.2.2.2.2.1)), (lfd, .inl (cI, 7, .inl u.2.2.2.2.2.1)), (lfr, .inl (cI, 7, .inl u.2.2.2.2.2.2.1)), (lto, .inl (cI, 7, .inl u.2.2.2.2.2.2.2.1)), (lse, .inl (cI, 7, .inl u.2.2.2.2.2.2.2.2.1)), (lhl, .inl (cI, 7, .inl u.2.2.2.2.2.2.2.2.2)), (tx, .inl (cI, 64, .inl Ftx))]) u)) A) cX0_takePart 4 none (by decide) rfl (Nat.le_of_ble_eq_true rfl) ?_
  intro p e s m args below meth c R Q A ls hBd hR hQ hA hS hK hP hD hl
  obtain ⟨hx, hb, hr, hts, hown, hlocks, hin, hml⟩ := hBd
  have hl : lv_has ls 4 [(0, .ref h0), (1, .ref tx), (2, .int n), (3, .int z)] := hl
  have iX0 : ∀ w ∈ wsX00, w ∈ wsX0_takePart := fun _ h => List.mem_cons_of_mem _ (List.mem_append_right _ h)
  obtain ⟨h_na, h_nb⟩ := h_n
  obtain ⟨h_lpea, h_lpeb⟩ := h_lpe
  obtain ⟨h_ltka, h_ltkb⟩ := h_ltk
  refine lv_iload_n hx hb dX0_takePart_0 rfl (lv_at hl 3 rfl) ?_
  refine lv_iconst (v := 4) hx hb dX0_takePart_1 (by decide) ?_
  refine lv_icmp_ne (tgt := 69) hx hb dX0_takePart_2 (by decide) (fun c_1 => ?_) (fun c_1 => ?_)
  · have tc_1 := b_ne rfl (show (4 : Int32).toInt = 4 by decide) c_1
    refine lv_aload_n hx hb dX0_takePart_69 rfl (lv_at hl 0 rfl) ?_
    refine va_get (D := D) (ci := 0) (v := .ref lfd) (C := RX0) (T := TX0) (N := 10) hx hb hts iX0 hown hK hP 0 rfl rfl 5 (by decide) (hts (.fieldLink RX0 28 "PunchedTicket$Line" "forDay" "[I") (List.mem_of_getElem? (i := 5) rfl)) (fun _ h9 => h9) rfl dX0_takePart_70 ?_
    refine lv_aload_n hx hb dX0_takePart_73 rfl (lv_at hl 0 rfl) ?_
    refine va_get (D := D) (ci := 0) (v := .int ltk) (C := RX0) (T := TX0) (N := 10) hx hb hts iX0 hown hK hP 0 rfl rfl 1 (by decide) (hts (.fieldLink RX0 15 "PunchedTicket$Line" "tickets" "I") (List.mem_of_getElem? (i := 6) rfl)) (fun _ h9 => h9) rfl dX0_takePart_74 ?_
    refine lv_aload_n hx hb dX0_takePart_77 rfl (lv_at hl 1 rfl) ?_
    refine lv_iload_n hx hb dX0_takePart_78 rfl (lv_at hl 2 rfl) ?_
    refine lv_iconst (v := 1) hx hb dX0_takePart_79 (by decide) ?_
    refine lv_iadd hx hb dX0_takePart_80 ?_
    refine lv_topi (fun v_2 ev_2 => ?_)
    have tv_2 : v_2.toInt = n.toInt + (1 : Int) := by rw [ev_2]; exact ti_add (x := n) (y := 1) (show -2147483648 ≤ n.toInt + (1 : Int) by omega) (show n.toInt + (1 : Int) < 2147483648 by omega)
    refine va_iald hx hb hK hP 9 0 rfl rfl (vp_in_iff.mpr ⟨by omega, by omega⟩) dX0_takePart_81 ?_
    refine lv_topi (fun v_3 ev_3 => ?_)
    refine lv_bipush (v := 48) hx hb dX0_takePart_82 (by decide) ?_
    refine lv_isub hx hb dX0_takePart_84 ?_
    refine lv_topi (fun v_4 ev_4 => ?_)
    refine va_iast hx hb hK hP hD hS 4 0 rfl rfl (vp_in_iff.mpr ⟨by omega, by omega⟩) dX0_takePart_85 (fun H locs hP hD hS => ?_)
    obtain ⟨f_5, ef_5⟩ : ∃ g : Nat → Int32, upd lFfd (ltk : Int32).toNatClampNeg v_4 = g := ⟨_, rfl⟩
    rw [ef_5] at hP hD
    have hP : va_P D vwCl [(h0, .inr (0, [.int lpe, .int ltk, .ref lho, .ref lli, .ref lki, .ref lfd, .ref lfr, .ref lto, .ref lse, .ref lhl])), (lho, .inl (cI, 5, .inl lFho)), (lli, .inl (cI, 5, .inl lFli)), (lki, .inl (cI, 5, .inl lFki)), (lfd, .inl (cI, 7, .inl f_5)), (lfr, .inl (cI, 7, .inl lFfr)), (lto, .inl (cI, 7, .inl lFto)), (lse, .inl (cI, 7, .inl lFse)), (lhl, .inl (cI, 7, .inl lFhl)), (tx, .inl (cI, 64, .inl Ftx))] H := hP
    have hD : va_D A [(h0, .inr (0, [.int lpe, .int ltk, .ref lho, .ref lli, .ref lki, .ref lfd, .ref lfr, .ref lto, .ref lse, .ref lhl])), (lho, .inl (cI, 5, .inl lFho)), (lli, .inl (cI, 5, .inl lFli)), (lki, .inl (cI, 5, .inl lFki)), (lfd, .inl (cI, 7, .inl f_5)), (lfr, .inl (cI, 7, .inl lFfr)), (lto, .inl (cI, 7, .inl lFto)), (lse, .inl (cI, 7, .inl lFse)), (lhl, .inl (cI, 7, .inl lFhl)), (tx, .inl (cI, 64, .inl Ftx))] := hD
    refine lv_aload_n hx hb dX0_takePart_86 rfl (lv_at hl 0 rfl) ?_
    refine va_get (D := D) (ci := 0) (v := .ref lfr) (C := RX0) (T := TX0) (N := 10) hx hb hts iX0 hown hK hP 0 rfl rfl 6 (by decide) (hts (.fieldLink RX0 31 "PunchedTicket$Line" "from" "[I") (List.mem_of_getElem? (i := 7) rfl)) (fun _ h9 => h9) rfl dX0_takePart_87 ?_
    refine lv_aload_n hx hb dX0_takePart_90 rfl (lv_at hl 0 rfl) ?_
    refine va_get (D := D) (ci := 0) (v := .int ltk) (C := RX0) (T := TX0) (N := 10) hx hb hts iX0 hown hK hP 0 rfl rfl 1 (by decide) (hts (.fieldLink RX0 15 "PunchedTicket$Line" "tickets" "I") (List.mem_of_getElem? (i := 6) rfl)) (fun _ h9 => h9) rfl dX0_takePart_91 ?_
    refine lv_aload_n hx hb dX0_takePart_94 rfl (lv_at hl 1 rfl) ?_
    refine lv_iload_n hx hb dX0_takePart_95 rfl (lv_at hl 2 rfl) ?_
    refine lv_iconst (v := 2) hx hb dX0_takePart_96 (by decide) ?_
    refine lv_iadd hx hb dX0_takePart_97 ?_
    refine lv_topi (fun v_6 ev_6 => ?_)
    have tv_6 : v_6.toInt = n.toInt + (2 : Int) := by rw [ev_6]; exact ti_add (x := n) (y := 2) (show -2147483648 ≤ n.toInt + (2 : Int) by omega) (show n.toInt + (2 : Int) < 2147483648 by omega)
    refine va_iald hx hb hK hP 9 0 rfl rfl (vp_in_iff.mpr ⟨by omega, by omega⟩) dX0_takePart_98 ?_
    refine lv_topi (fun v_7 ev_7 => ?_)
    refine lv_bipush (v := 48) hx hb dX0_takePart_99 (by decide) ?_
    refine lv_isub hx hb dX0_takePart_101 ?_
    refine lv_topi (fun v_8 ev_8 => ?_)
    refine va_iast hx hb hK hP hD hS 5 0 rfl rfl (vp_in_iff.mpr ⟨by omega, by omega⟩) dX0_takePart_102 (fun H locs hP hD hS => ?_)
    obtain ⟨f_9, ef_9⟩ : ∃ g : Nat → Int32, upd lFfr (ltk : Int32).toNatClampNeg v_8 = g := ⟨_, rfl⟩
    rw [ef_9] at hP hD
    have hP : va_P D vwCl [(h0, .inr (0, [.int lpe, .int ltk, .ref lho, .ref lli, .ref lki, .ref lfd, .ref lfr, .ref lto, .ref lse, .ref lhl])), (lho, .inl (cI, 5, .inl lFho)), (lli, .inl (cI, 5, .inl lFli)), (lki, .inl (cI, 5, .inl lFki)), (lfd, .inl (cI, 7, .inl f_5)), (lfr, .inl (cI, 7, .inl f_9)), (lto, .inl (cI, 7, .inl lFto)), (lse, .inl (cI, 7, .inl lFse)), (lhl, .inl (cI, 7, .inl lFhl)), (tx, .inl (cI, 64, .inl Ftx))] H := hP
    have hD : va_D A [(h0, .inr (0, [.int lpe, .int ltk, .ref lho, .ref lli, .ref lki, .ref lfd, .ref lfr, .ref lto, .ref lse, .ref lhl])), (lho, .inl (cI, 5, .inl lFho)), (lli, .inl (cI, 5, .inl lFli)), (lki, .inl (cI, 5, .inl lFki)), (lfd, .inl (cI, 7, .inl f_5)), (lfr, .inl (cI, 7, .inl f_9)), (lto, .inl (cI, 7, .inl lFto)), (lse, .inl (cI, 7, .inl lFse)), (lhl, .inl (cI, 7, .inl lFhl)), (tx, .inl (cI, 64, .inl Ftx))] := hD
    refine lv_aload_n hx hb dX0_takePart_103 rfl (lv_at hl 0 rfl) ?_
    refine va_get (D := D) (ci := 0) (v := .ref lto) (C := RX0) (T := TX0) (N := 10) hx hb hts iX0 hown hK hP 0 rfl rfl 7 (by decide) (hts (.fieldLink RX0 34 "PunchedTicket$Line" "to" "[I") (List.mem_of_getElem? (i := 8) rfl)) (fun _ h9 => h9) rfl dX0_takePart_104 ?_
    refine lv_aload_n hx hb dX0_takePart_107 rfl (lv_at hl 0 rfl) ?_
    refine va_get (D := D) (ci := 0) (v := .int ltk) (C := RX0) (T := TX0) (N := 10) hx hb hts iX0 hown hK hP 0 rfl rfl 1 (by decide) (hts (.fieldLink RX0 15 "PunchedTicket$Line" "tickets" "I") (List.mem_of_getElem? (i := 6) rfl)) (fun _ h9 => h9) rfl dX0_takePart_108 ?_
    refine lv_aload_n hx hb dX0_takePart_111 rfl (lv_at hl 1 rfl) ?_
    refine lv_iload_n hx hb dX0_takePart_112 rfl (lv_at hl 2 rfl) ?_
    refine lv_iconst (v := 3) hx hb dX0_takePart_113 (by decide) ?_
    refine lv_iadd hx hb dX0_takePart_114 ?_
    refine lv_topi (fun v_10 ev_10 => ?_)
    have tv_10 : v_10.toInt = n.toInt + (3 : Int) := by rw [ev_10]; exact ti_add (x := n) (y := 3) (show -2147483648 ≤ n.toInt + (3 : Int) by omega) (show n.toInt + (3 : Int) < 2147483648 by omega)
    refine va_iald hx hb hK hP 9 0 rfl rfl (vp_in_iff.mpr ⟨by omega, by omega⟩) dX0_takePart_115 ?_
    refine lv_topi (fun v_11 ev_11 => ?_)
    refine lv_bipush (v := 48) hx hb dX0_takePart_116 (by decide) ?_
    refine lv_isub hx hb dX0_takePart_118 ?_
    refine lv_topi (fun v_12 ev_12 => ?_)
    refine va_iast hx hb hK hP hD hS 6 0 rfl rfl (vp_in_iff.mpr ⟨by omega, by omega⟩) dX0_takePart_119 (fun H locs hP hD hS => ?_)
    obtain ⟨f_13, ef_13⟩ : ∃ g : Nat → Int32, upd lFto (ltk : Int32).toNatClampNeg v_12 = g := ⟨_, rfl⟩
    rw [ef_13] at hP hD
    have hP : va_P D vwCl [(h0, .inr (0, [.int lpe, .int ltk, .ref lho, .ref lli, .ref lki, .ref lfd, .ref lfr, .ref lto, .ref lse, .ref lhl])), (lho, .inl (cI, 5, .inl lFho)), (lli, .inl (cI, 5, .inl lFli)), (lki, .inl (cI, 5, .inl lFki)), (lfd, .inl (cI, 7, .inl f_5)), (lfr, .inl (cI, 7, .inl f_9)), (lto, .inl (cI, 7, .inl f_13)), (lse, .inl (cI, 7, .inl lFse)), (lhl, .inl (cI, 7, .inl lFhl)), (tx, .inl (cI, 64, .inl Ftx))] H := hP
    have hD : va_D A [(h0, .inr (0, [.int lpe, .int ltk, .ref lho, .ref lli, .ref lki, .ref lfd, .ref lfr, .ref lto, .ref lse, .ref lhl])), (lho, .inl (cI, 5, .inl lFho)), (lli, .inl (cI, 5, .inl lFli)), (lki, .inl (cI, 5, .inl lFki)), (lfd, .inl (cI, 7, .inl f_5)), (lfr, .inl (cI, 7, .inl f_9)), (lto, .inl (cI, 7, .inl f_13)), (lse, .inl (cI, 7, .inl lFse)), (lhl, .inl (cI, 7, .inl lFhl)), (tx, .inl (cI, 64, .inl Ftx))] := hD
    refine lv_aload_n hx hb dX0_takePart_120 rfl (lv_at hl 0 rfl) ?_
    refine va_get (D := D) (ci := 0) (v := .ref lse) (C := RX0) (T := TX0) (N := 10) hx hb hts iX0 hown hK hP 0 rfl rfl 8 (by decide) (hts (.fieldLink RX0 37 "PunchedTicket$Line" "seat" "[I") (List.mem_of_getElem? (i := 9) rfl)) (fun _ h9 => h9) rfl dX0_takePart_121 ?_
    refine lv_aload_n hx hb dX0_takePart_124 rfl (lv_at hl 0 rfl) ?_
    refine va_get (D := D) (ci := 0) (v := .int ltk) (C := RX0) (T := TX0) (N := 10) hx hb hts iX0 hown hK hP 0 rfl rfl 1 (by decide) (hts (.fieldLink RX0 15 "PunchedTicket$Line" "tickets" "I") (List.mem_of_getElem? (i := 6) rfl)) (fun _ h9 => h9) rfl dX0_takePart_125 ?_
    refine lv_aload_n hx hb dX0_takePart_128 rfl (lv_at hl 1 rfl) ?_
    refine lv_iload_n hx hb dX0_takePart_129 rfl (lv_at hl 2 rfl) ?_
    refine lv_iconst (v := 4) hx hb dX0_takePart_130 (by decide) ?_
    refine lv_iadd hx hb dX0_takePart_131 ?_
    refine lv_topi (fun v_14 ev_14 => ?_)
    have tv_14 : v_14.toInt = n.toInt + (4 : Int) := by rw [ev_14]; exact ti_add (x := n) (y := 4) (show -2147483648 ≤ n.toInt + (4 : Int) by omega) (show n.toInt + (4 : Int) < 2147483648 by omega)
    refine va_iald hx hb hK hP 9 0 rfl rfl (vp_in_iff.mpr ⟨by omega, by omega⟩) dX0_takePart_132 ?_
    refine lv_topi (fun v_15 ev_15 => ?_)
    refine lv_bipush (v := 48) hx hb dX0_takePart_133 (by decide) ?_
    refine lv_isub hx hb dX0_takePart_135 ?_
    refine lv_topi (fun v_16 ev_16 => ?_)
    refine va_iast hx hb hK hP hD hS 7 0 rfl rfl (vp_in_iff.mpr ⟨by omega, by omega⟩) dX0_takePart_136 (fun H locs hP hD hS => ?_)
    obtain ⟨f_17, ef_17⟩ : ∃ g : Nat → Int32, upd lFse (ltk : Int32).toNatClampNeg v_16 = g := ⟨_, rfl⟩
    rw [ef_17] at hP hD
    have hP : va_P D vwCl [(h0, .inr (0, [.int lpe, .int ltk, .ref lho, .ref lli, .ref lki, .ref lfd, .ref lfr, .ref lto, .ref lse, .ref lhl])), (lho, .inl (cI, 5, .inl lFho)), (lli, .inl (cI, 5, .inl lFli)), (lki, .inl (cI, 5, .inl lFki)), (lfd, .inl (cI, 7, .inl f_5)), (lfr, .inl (cI, 7, .inl f_9)), (lto, .inl (cI, 7, .inl f_13)), (lse, .inl (cI, 7, .inl f_17)), (lhl, .inl (cI, 7, .inl lFhl)), (tx, .inl (cI, 64, .inl Ftx))] H := hP
    have hD : va_D A [(h0, .inr (0, [.int lpe, .int ltk, .ref lho, .ref lli, .ref lki, .ref lfd, .ref lfr, .ref lto, .ref lse, .ref lhl])), (lho, .inl (cI, 5, .inl lFho)), (lli, .inl (cI, 5, .inl lFli)), (lki, .inl (cI, 5, .inl lFki)), (lfd, .inl (cI, 7, .inl f_5)), (lfr, .inl (cI, 7, .inl f_9)), (lto, .inl (cI, 7, .inl f_13)), (lse, .inl (cI, 7, .inl f_17)), (lhl, .inl (cI, 7, .inl lFhl)), (tx, .inl (cI, 64, .inl Ftx))] := hD
    refine lv_aload_n hx hb dX0_takePart_137 rfl (lv_at hl 0 rfl) ?_
    refine va_get (D := D) (ci := 0) (v := .ref lhl) (C := RX0) (T := TX0) (N := 10) hx hb hts iX0 hown hK hP 0 rfl rfl 9 (by decide) (hts (.fieldLink RX0 40 "PunchedTicket$Line" "holder" "[I") (List.mem_of_getElem? (i := 10) rfl)) (fun _ h9 => h9) rfl dX0_takePart_138 ?_
    refine lv_aload_n hx hb dX0_takePart_141 rfl (lv_at hl 0 rfl) ?_
    refine va_get (D := D) (ci := 0) (v := .int ltk) (C := RX0) (T := TX0) (N := 10) hx hb hts iX0 hown hK hP 0 rfl rfl 1 (by decide) (hts (.fieldLink RX0 15 "PunchedTicket$Line" "tickets" "I") (List.mem_of_getElem? (i := 6) rfl)) (fun _ h9 => h9) rfl dX0_takePart_142 ?_
    refine lv_aload_n hx hb dX0_takePart_145 rfl (lv_at hl 1 rfl) ?_
    refine lv_iload_n hx hb dX0_takePart_146 rfl (lv_at hl 2 rfl) ?_
    refine lv_iconst (v := 5) hx hb dX0_takePart_147 (by decide) ?_
    refine lv_iadd hx hb dX0_takePart_148 ?_
    refine lv_topi (fun v_18 ev_18 => ?_)
    have tv_18 : v_18.toInt = n.toInt + (5 : Int) := by rw [ev_18]; exact ti_add (x := n) (y := 5) (show -2147483648 ≤ n.toInt + (5 : Int) by omega) (show n.toInt + (5 : Int) < 2147483648 by omega)
    refine va_iald hx hb hK hP 9 0 rfl rfl (vp_in_iff.mpr ⟨by omega, by omega⟩) dX0_takePart_149 ?_
    refine lv_topi (fun v_19 ev_19 => ?_)
    refine lv_bipush (v := 48) hx hb dX0_takePart_150 (by decide) ?_
    refine lv_isub hx hb dX0_takePart_152 ?_
    refine lv_topi (fun v_20 ev_20 => ?_)
    refine va_iast hx hb hK hP hD hS 8 0 rfl rfl (vp_in_iff.mpr ⟨by omega, by omega⟩) dX0_takePart_153 (fun H locs hP hD hS => ?_)
    obtain ⟨f_21, ef_21⟩ : ∃ g : Nat → Int32, upd lFhl (ltk : Int32).toNatClampNeg v_20 = g := ⟨_, rfl⟩
    rw [ef_21] at hP hD
    have hP : va_P D vwCl [(h0, .inr (0, [.int lpe, .int ltk, .ref lho, .ref lli, .ref lki, .ref lfd, .ref lfr, .ref lto, .ref lse, .ref lhl])), (lho, .inl (cI, 5, .inl lFho)), (lli, .inl (cI, 5, .inl lFli)), (lki, .inl (cI, 5, .inl lFki)), (lfd, .inl (cI, 7, .inl f_5)), (lfr, .inl (cI, 7, .inl f_9)), (lto, .inl (cI, 7, .inl f_13)), (lse, .inl (cI, 7, .inl f_17)), (lhl, .inl (cI, 7, .inl f_21)), (tx, .inl (cI, 64, .inl Ftx))] H := hP
    have hD : va_D A [(h0, .inr (0, [.int lpe, .int ltk, .ref lho, .ref lli, .ref lki, .ref lfd, .ref lfr, .ref lto, .ref lse, .ref lhl])), (lho, .inl (cI, 5, .inl lFho)), (lli, .inl (cI, 5, .inl lFli)), (lki, .inl (cI, 5, .inl lFki)), (lfd, .inl (cI, 7, .inl f_5)), (lfr, .inl (cI, 7, .inl f_9)), (lto, .inl (cI, 7, .inl f_13)), (lse, .inl (cI, 7, .inl f_17)), (lhl, .inl (cI, 7, .inl f_21)), (tx, .inl (cI, 64, .inl Ftx))] := hD
    refine lv_aload_n hx hb dX0_takePart_154 rfl (lv_at hl 0 rfl) ?_
    refine lv_dup hx hb dX0_takePart_155 rfl ?_
    refine va_get (D := D) (ci := 0) (v := .int ltk) (C := RX0) (T := TX0) (N := 10) hx hb hts iX0 hown hK hP 0 rfl rfl 1 (by decide) (hts (.fieldLink RX0 15 "PunchedTicket$Line" "tickets" "I") (List.mem_of_getElem? (i := 6) rfl)) (fun _ h9 => h9) rfl dX0_takePart_156 ?_
    refine lv_iconst (v := 1) hx hb dX0_takePart_159 (by decide) ?_
    refine lv_iadd hx hb dX0_takePart_160 ?_
    refine lv_topi (fun v_22 ev_22 => ?_)
    have tv_22 : v_22.toInt = ltk.toInt + (1 : Int) := by rw [ev_22]; exact ti_add (x := ltk) (y := 1) (show -2147483648 ≤ ltk.toInt + (1 : Int) by omega) (show ltk.toInt + (1 : Int) < 2147483648 by omega)
    refine va_put (D := D) (ci := 0) (v := .int v_22) (ty := .int) (C := RX0) (T := TX0) (N := 10) hx hb hts iX0 tyX0 tyX0_ok nmX0 hown hK hP hD hS 0 rfl rfl 1 (by decide) (hts (.fieldLink RX0 15 "PunchedTicket$Line" "tickets" "I") (List.mem_of_getElem? (i := 6) rfl)) (fun _ h9 => h9) rfl (by decide +kernel) rfl rfl (Nat.le_of_ble_eq_true rfl) dX0_takePart_161 (fun H locs hP hD hS => ?_)
    have hP : va_P D vwCl [(h0, .inr (0, [.int lpe, .int v_22, .ref lho, .ref lli, .ref lki, .ref lfd, .ref lfr, .ref lto, .ref lse, .ref lhl])), (lho, .inl (cI, 5, .inl lFho)), (lli, .inl (cI, 5, .inl lFli)), (lki, .inl (cI, 5, .inl lFki)), (lfd, .inl (cI, 7, .inl f_5)), (lfr, .inl (cI, 7, .inl f_9)), (lto, .inl (cI, 7, .inl f_13)), (lse, .inl (cI, 7, .inl f_17)), (lhl, .inl (cI, 7, .inl f_21)), (tx, .inl (cI, 64, .inl Ftx))] H := hP
    have hD : va_D A [(h0, .inr (0, [.int lpe, .int v_22, .ref lho, .ref lli, .ref lki, .ref lfd, .ref lfr, .ref lto, .ref lse, .ref lhl])), (lho, .inl (cI, 5, .inl lFho)), (lli, .inl (cI, 5, .inl lFli)), (lki, .inl (cI, 5, .inl lFki)), (lfd, .inl (cI, 7, .inl f_5)), (lfr, .inl (cI, 7, .inl f_9)), (lto, .inl (cI, 7, .inl f_13)), (lse, .inl (cI, 7, .inl f_17)), (lhl, .inl (cI, 7, .inl f_21)), (tx, .inl (cI, 64, .inl Ftx))] := hD
    exact ret_v (post := (fun (u : Int32 × Int32 × (Nat → Int32) × (Nat → Int32) × (Nat → Int32) × (Nat → Int32) × (Nat → Int32) × (Nat → Int32) × (Nat → Int32) × (Nat → Int32)) => 0 ≤ u.1.toInt ∧ u.1.toInt ≤ 5 ∧ 0 ≤ u.2.1.toInt ∧ u.2.1.toInt ≤ 6)) (W1 := (fun u => [(h0, .inr (0, [.int u.1, .int u.2.1, .ref lho, .ref lli, .ref lki, .ref lfd, .ref lfr, .ref lto, .ref lse, .ref lhl])), (lho, .inl (cI, 5, .inl u.2.2.1)), (lli, .inl (cI, 5, .inl u.2.2.2.1)), (lki, .inl (cI, 5, .inl u.2.2.2.2.1)), (lfd, .inl (cI, 7, .inl u.2.2.2.2.2.1)), (lfr, .inl (cI, 7, .inl u.2.2.2.2.2.2.1)), (lto, .inl (cI, 7, .inl u.2.2.2.2.2.2.2.1)), (lse, .inl (cI, 7, .inl u.2.2.2.2.2.2.2.2.1)), (lhl, .inl (cI, 7, .inl u.2.2.2.2.2.2.2.2.2)), (tx, .inl (cI, 64, .inl Ftx))])) (lpe, v_22, lFho, lFli, lFki, f_5, f_9, f_13, f_17, f_21) hx hb hr hlocks hQ hK hP hD hS ⟨by decide, by decide⟩ dX0_takePart_164 (show 0 ≤ lpe.toInt ∧ lpe.toInt ≤ 5 ∧ 0 ≤ v_22.toInt ∧ v_22.toInt ≤ 6 by omega)
  · have tc_1 := b_eq rfl (show (4 : Int32).toInt = 4 by decide) c_1
    refine lv_aload_n hx hb dX0_takePart_5 rfl (lv_at hl 0 rfl) ?_
    refine va_get (D := D) (ci := 0) (v := .ref lho) (C := RX0) (T := TX0) (N := 10) hx hb hts iX0 hown hK hP 0 rfl rfl 2 (by decide) (hts (.fieldLink RX0 18 "PunchedTicket$Line" "home" "[I") (List.mem_of_getElem? (i := 1) rfl)) (fun _ h9 => h9) rfl dX0_takePart_6 ?_
    refine lv_aload_n hx hb dX0_takePart_9 rfl (lv_at hl 0 rfl) ?_
    refine va_get (D := D) (ci := 0) (v := .int lpe) (C := RX0) (T := TX0) (N := 10) hx hb hts iX0 hown hK hP 0 rfl rfl 0 (by decide) (hts (.fieldLink RX0 9 "PunchedTicket$Line" "people" "I") (List.mem_of_getElem? (i := 2) rfl)) (fun _ h9 => h9) rfl dX0_takePart_10 ?_
    refine lv_aload_n hx hb dX0_takePart_13 rfl (lv_at hl 1 rfl) ?_
    refine lv_iload_n hx hb dX0_takePart_14 rfl (lv_at hl 2 rfl) ?_
    refine lv_iconst (v := 1) hx hb dX0_takePart_15 (by decide) ?_
    refine lv_iadd hx hb dX0_takePart_16 ?_
    refine lv_topi (fun v_23 ev_23 => ?_)
    have tv_23 : v_23.toInt = n.toInt + (1 : Int) := by rw [ev_23]; exact ti_add (x := n) (y := 1) (show -2147483648 ≤ n.toInt + (1 : Int) by omega) (show n.toInt + (1 : Int) < 2147483648 by omega)
    refine va_iald hx hb hK hP 9 0 rfl rfl (vp_in_iff.mpr ⟨by omega, by omega⟩) dX0_takePart_17 ?_
    refine lv_topi (fun v_24 ev_24 => ?_)
    refine lv_bipush (v := 48) hx hb dX0_takePart_18 (by decide) ?_
    refine lv_isub hx hb dX0_takePart_20 ?_
    refine lv_topi (fun v_25 ev_25 => ?_)
    refine va_iast hx hb hK hP hD hS 1 0 rfl rfl (vp_in_iff.mpr ⟨by omega, by omega⟩) dX0_takePart_21 (fun H locs hP hD hS => ?_)
    obtain ⟨f_26, ef_26⟩ : ∃ g : Nat → Int32, upd lFho (lpe : Int32).toNatClampNeg v_25 = g := ⟨_, rfl⟩
    rw [ef_26] at hP hD
    have hP : va_P D vwCl [(h0, .inr (0, [.int lpe, .int ltk, .ref lho, .ref lli, .ref lki, .ref lfd, .ref lfr, .ref lto, .ref lse, .ref lhl])), (lho, .inl (cI, 5, .inl f_26)), (lli, .inl (cI, 5, .inl lFli)), (lki, .inl (cI, 5, .inl lFki)), (lfd, .inl (cI, 7, .inl lFfd)), (lfr, .inl (cI, 7, .inl lFfr)), (lto, .inl (cI, 7, .inl lFto)), (lse, .inl (cI, 7, .inl lFse)), (lhl, .inl (cI, 7, .inl lFhl)), (tx, .inl (cI, 64, .inl Ftx))] H := hP
    have hD : va_D A [(h0, .inr (0, [.int lpe, .int ltk, .ref lho, .ref lli, .ref lki, .ref lfd, .ref lfr, .ref lto, .ref lse, .ref lhl])), (lho, .inl (cI, 5, .inl f_26)), (lli, .inl (cI, 5, .inl lFli)), (lki, .inl (cI, 5, .inl lFki)), (lfd, .inl (cI, 7, .inl lFfd)), (lfr, .inl (cI, 7, .inl lFfr)), (lto, .inl (cI, 7, .inl lFto)), (lse, .inl (cI, 7, .inl lFse)), (lhl, .inl (cI, 7, .inl lFhl)), (tx, .inl (cI, 64, .inl Ftx))] := hD
    refine lv_aload_n hx hb dX0_takePart_22 rfl (lv_at hl 0 rfl) ?_
    refine va_get (D := D) (ci := 0) (v := .ref lli) (C := RX0) (T := TX0) (N := 10) hx hb hts iX0 hown hK hP 0 rfl rfl 3 (by decide) (hts (.fieldLink RX0 22 "PunchedTicket$Line" "liked" "[I") (List.mem_of_getElem? (i := 3) rfl)) (fun _ h9 => h9) rfl dX0_takePart_23 ?_
    refine lv_aload_n hx hb dX0_takePart_26 rfl (lv_at hl 0 rfl) ?_
    refine va_get (D := D) (ci := 0) (v := .int lpe) (C := RX0) (T := TX0) (N := 10) hx hb hts iX0 hown hK hP 0 rfl rfl 0 (by decide) (hts (.fieldLink RX0 9 "PunchedTicket$Line" "people" "I") (List.mem_of_getElem? (i := 2) rfl)) (fun _ h9 => h9) rfl dX0_takePart_27 ?_
    refine lv_aload_n hx hb dX0_takePart_30 rfl (lv_at hl 1 rfl) ?_
    refine lv_iload_n hx hb dX0_takePart_31 rfl (lv_at hl 2 rfl) ?_
    refine lv_iconst (v := 2) hx hb dX0_takePart_32 (by decide) ?_
    refine lv_iadd hx hb dX0_takePart_33 ?_
    refine lv_topi (fun v_27 ev_27 => ?_)
    have tv_27 : v_27.toInt = n.toInt + (2 : Int) := by rw [ev_27]; exact ti_add (x := n) (y := 2) (show -2147483648 ≤ n.toInt + (2 : Int) by omega) (show n.toInt + (2 : Int) < 2147483648 by omega)
    refine va_iald hx hb hK hP 9 0 rfl rfl (vp_in_iff.mpr ⟨by omega, by omega⟩) dX0_takePart_34 ?_
    refine lv_topi (fun v_28 ev_28 => ?_)
    refine lv_bipush (v := 48) hx hb dX0_takePart_35 (by decide) ?_
    refine lv_isub hx hb dX0_takePart_37 ?_
    refine lv_topi (fun v_29 ev_29 => ?_)
    refine va_iast hx hb hK hP hD hS 2 0 rfl rfl (vp_in_iff.mpr ⟨by omega, by omega⟩) dX0_takePart_38 (fun H locs hP hD hS => ?_)
    obtain ⟨f_30, ef_30⟩ : ∃ g : Nat → Int32, upd lFli (lpe : Int32).toNatClampNeg v_29 = g := ⟨_, rfl⟩
    rw [ef_30] at hP hD
    have hP : va_P D vwCl [(h0, .inr (0, [.int lpe, .int ltk, .ref lho, .ref lli, .ref lki, .ref lfd, .ref lfr, .ref lto, .ref lse, .ref lhl])), (lho, .inl (cI, 5, .inl f_26)), (lli, .inl (cI, 5, .inl f_30)), (lki, .inl (cI, 5, .inl lFki)), (lfd, .inl (cI, 7, .inl lFfd)), (lfr, .inl (cI, 7, .inl lFfr)), (lto, .inl (cI, 7, .inl lFto)), (lse, .inl (cI, 7, .inl lFse)), (lhl, .inl (cI, 7, .inl lFhl)), (tx, .inl (cI, 64, .inl Ftx))] H := hP
    have hD : va_D A [(h0, .inr (0, [.int lpe, .int ltk, .ref lho, .ref lli, .ref lki, .ref lfd, .ref lfr, .ref lto, .ref lse, .ref lhl])), (lho, .inl (cI, 5, .inl f_26)), (lli, .inl (cI, 5, .inl f_30)), (lki, .inl (cI, 5, .inl lFki)), (lfd, .inl (cI, 7, .inl lFfd)), (lfr, .inl (cI, 7, .inl lFfr)), (lto, .inl (cI, 7, .inl lFto)), (lse, .inl (cI, 7, .inl lFse)), (lhl, .inl (cI, 7, .inl lFhl)), (tx, .inl (cI, 64, .inl Ftx))] := hD
    refine lv_aload_n hx hb dX0_takePart_39 rfl (lv_at hl 0 rfl) ?_
    refine va_get (D := D) (ci := 0) (v := .ref lki) (C := RX0) (T := TX0) (N := 10) hx hb hts iX0 hown hK hP 0 rfl rfl 4 (by decide) (hts (.fieldLink RX0 25 "PunchedTicket$Line" "kind" "[I") (List.mem_of_getElem? (i := 4) rfl)) (fun _ h9 => h9) rfl dX0_takePart_40 ?_
    refine lv_aload_n hx hb dX0_takePart_43 rfl (lv_at hl 0 rfl) ?_
    refine va_get (D := D) (ci := 0) (v := .int lpe) (C := RX0) (T := TX0) (N := 10) hx hb hts iX0 hown hK hP 0 rfl rfl 0 (by decide) (hts (.fieldLink RX0 9 "PunchedTicket$Line" "people" "I") (List.mem_of_getElem? (i := 2) rfl)) (fun _ h9 => h9) rfl dX0_takePart_44 ?_
    refine lv_aload_n hx hb dX0_takePart_47 rfl (lv_at hl 1 rfl) ?_
    refine lv_iload_n hx hb dX0_takePart_48 rfl (lv_at hl 2 rfl) ?_
    refine lv_iconst (v := 3) hx hb dX0_takePart_49 (by decide) ?_
    refine lv_iadd hx hb dX0_takePart_50 ?_
    refine lv_topi (fun v_31 ev_31 => ?_)
    have tv_31 : v_31.toInt = n.toInt + (3 : Int) := by rw [ev_31]; exact ti_add (x := n) (y := 3) (show -2147483648 ≤ n.toInt + (3 : Int) by omega) (show n.toInt + (3 : Int) < 2147483648 by omega)
    refine va_iald hx hb hK hP 9 0 rfl rfl (vp_in_iff.mpr ⟨by omega, by omega⟩) dX0_takePart_51 ?_
    refine lv_topi (fun v_32 ev_32 => ?_)
    refine lv_bipush (v := 48) hx hb dX0_takePart_52 (by decide) ?_
    refine lv_isub hx hb dX0_takePart_54 ?_
    refine lv_topi (fun v_33 ev_33 => ?_)
    refine va_iast hx hb hK hP hD hS 3 0 rfl rfl (vp_in_iff.mpr ⟨by omega, by omega⟩) dX0_takePart_55 (fun H locs hP hD hS => ?_)
    obtain ⟨f_34, ef_34⟩ : ∃ g : Nat → Int32, upd lFki (lpe : Int32).toNatClampNeg v_33 = g := ⟨_, rfl⟩
    rw [ef_34] at hP hD
    have hP : va_P D vwCl [(h0, .inr (0, [.int lpe, .int ltk, .ref lho, .ref lli, .ref lki, .ref lfd, .ref lfr, .ref lto, .ref lse, .ref lhl])), (lho, .inl (cI, 5, .inl f_26)), (lli, .inl (cI, 5, .inl f_30)), (lki, .inl (cI, 5, .inl f_34)), (lfd, .inl (cI, 7, .inl lFfd)), (lfr, .inl (cI, 7, .inl lFfr)), (lto, .inl (cI, 7, .inl lFto)), (lse, .inl (cI, 7, .inl lFse)), (lhl, .inl (cI, 7, .inl lFhl)), (tx, .inl (cI, 64, .inl Ftx))] H := hP
    have hD : va_D A [(h0, .inr (0, [.int lpe, .int ltk, .ref lho, .ref lli, .ref lki, .ref lfd, .ref lfr, .ref lto, .ref lse, .ref lhl])), (lho, .inl (cI, 5, .inl f_26)), (lli, .inl (cI, 5, .inl f_30)), (lki, .inl (cI, 5, .inl f_34)), (lfd, .inl (cI, 7, .inl lFfd)), (lfr, .inl (cI, 7, .inl lFfr)), (lto, .inl (cI, 7, .inl lFto)), (lse, .inl (cI, 7, .inl lFse)), (lhl, .inl (cI, 7, .inl lFhl)), (tx, .inl (cI, 64, .inl Ftx))] := hD
    refine lv_aload_n hx hb dX0_takePart_56 rfl (lv_at hl 0 rfl) ?_
    refine lv_dup hx hb dX0_takePart_57 rfl ?_
    refine va_get (D := D) (ci := 0) (v := .int lpe) (C := RX0) (T := TX0) (N := 10) hx hb hts iX0 hown hK hP 0 rfl rfl 0 (by decide) (hts (.fieldLink RX0 9 "PunchedTicket$Line" "people" "I") (List.mem_of_getElem? (i := 2) rfl)) (fun _ h9 => h9) rfl dX0_takePart_58 ?_
    refine lv_iconst (v := 1) hx hb dX0_takePart_61 (by decide) ?_
    refine lv_iadd hx hb dX0_takePart_62 ?_
    refine lv_topi (fun v_35 ev_35 => ?_)
    have tv_35 : v_35.toInt = lpe.toInt + (1 : Int) := by rw [ev_35]; exact ti_add (x := lpe) (y := 1) (show -2147483648 ≤ lpe.toInt + (1 : Int) by omega) (show lpe.toInt + (1 : Int) < 2147483648 by omega)
    refine va_put (D := D) (ci := 0) (v := .int v_35) (ty := .int) (C := RX0) (T := TX0) (N := 10) hx hb hts iX0 tyX0 tyX0_ok nmX0 hown hK hP hD hS 0 rfl rfl 0 (by decide) (hts (.fieldLink RX0 9 "PunchedTicket$Line" "people" "I") (List.mem_of_getElem? (i := 2) rfl)) (fun _ h9 => h9) rfl (by decide +kernel) rfl rfl (Nat.le_of_ble_eq_true rfl) dX0_takePart_63 (fun H locs hP hD hS => ?_)
    have hP : va_P D vwCl [(h0, .inr (0, [.int v_35, .int ltk, .ref lho, .ref lli, .ref lki, .ref lfd, .ref lfr, .ref lto, .ref lse, .ref lhl])), (lho, .inl (cI, 5, .inl f_26)), (lli, .inl (cI, 5, .inl f_30)), (lki, .inl (cI, 5, .inl f_34)), (lfd, .inl (cI, 7, .inl lFfd)), (lfr, .inl (cI, 7, .inl lFfr)), (lto, .inl (cI, 7, .inl lFto)), (lse, .inl (cI, 7, .inl lFse)), (lhl, .inl (cI, 7, .inl lFhl)), (tx, .inl (cI, 64, .inl Ftx))] H := hP
    have hD : va_D A [(h0, .inr (0, [.int v_35, .int ltk, .ref lho, .ref lli, .ref lki, .ref lfd, .ref lfr, .ref lto, .ref lse, .ref lhl])), (lho, .inl (cI, 5, .inl f_26)), (lli, .inl (cI, 5, .inl f_30)), (lki, .inl (cI, 5, .inl f_34)), (lfd, .inl (cI, 7, .inl lFfd)), (lfr, .inl (cI, 7, .inl lFfr)), (lto, .inl (cI, 7, .inl lFto)), (lse, .inl (cI, 7, .inl lFse)), (lhl, .inl (cI, 7, .inl lFhl)), (tx, .inl (cI, 64, .inl Ftx))] := hD
    refine lv_goto (tgt := 164) hx hb dX0_takePart_66 (by decide) ?_
    exact ret_v (post := (fun (u : Int32 × Int32 × (Nat → Int32) × (Nat → Int32) × (Nat → Int32) × (Nat → Int32) × (Nat → Int32) × (Nat → Int32) × (Nat → Int32) × (Nat → Int32)) => 0 ≤ u.1.toInt ∧ u.1.toInt ≤ 5 ∧ 0 ≤ u.2.1.toInt ∧ u.2.1.toInt ≤ 6)) (W1 := (fun u => [(h0, .inr (0, [.int u.1, .int u.2.1, .ref lho, .ref lli, .ref lki, .ref lfd, .ref lfr, .ref lto, .ref lse, .ref lhl])), (lho, .inl (cI, 5, .inl u.2.2.1)), (lli, .inl (cI, 5, .inl u.2.2.2.1)), (lki, .inl (cI, 5, .inl u.2.2.2.2.1)), (lfd, .inl (cI, 7, .inl u.2.2.2.2.2.1)), (lfr, .inl (cI, 7, .inl u.2.2.2.2.2.2.1)), (lto, .inl (cI, 7, .inl u.2.2.2.2.2.2.2.1)), (lse, .inl (cI, 7, .inl u.2.2.2.2.2.2.2.2.1)), (lhl, .inl (cI, 7, .inl u.2.2.2.2.2.2.2.2.2)), (tx, .inl (cI, 64, .inl Ftx))])) (v_35, ltk, f_26, f_30, f_34, lFfd, lFfr, lFto, lFse, lFhl) hx hb hr hlocks hQ hK hP hD hS ⟨by decide, by decide⟩ dX0_takePart_164 (show 0 ≤ v_35.toInt ∧ v_35.toInt ≤ 5 ∧ 0 ≤ ltk.toInt ∧ ltk.toInt ≤ 6 by omega)

set_option maxHeartbeats 600000 in
set_option maxRecDepth 100000 in
theorem c_X0_read (l : Launch) (D : va_G) (cI cZ cM : ClassId) (h0 : Nat) (tx : Nat) (le : Int32) (lpe : Int32) (ltk : Int32) (lho : Nat) (lli : Nat) (lki : Nat) (lfd : Nat) (lfr : Nat) (lto : Nat) (lse : Nat) (lhl : Nat) (lFho : Nat → Int32) (lFli : Nat → Int32) (lFki : Nat → Int32) (lFfd : Nat → Int32) (lFfr : Nat → Int32) (lFto : Nat → Int32) (lFse : Nat → Int32) (lFhl : Nat → Int32) (Ftx : Nat → Int32) (sz : Nat) (h_le : 0 ≤ le.toInt ∧ le.toInt ≤ 64) : Ci l yX0_read wsX0_read ({ frames := 2, cells := 0, slots := 0, locals := 51 } : Room) D cI cZ cM [.ref h0, .ref tx, .int le] [(h0, .inr (0, [.int lpe, .int ltk, .ref lho, .ref lli, .ref lki, .ref lfd, .ref lfr, .ref lto, .ref lse, .ref lhl])), (lho, .inl (cI, 5, .inl lFho)), (lli, .inl (cI, 5, .inl lFli)), (lki, .inl (cI, 5, .inl lFki)), (lfd, .inl (cI, 7, .inl lFfd)), (lfr, .inl (cI, 7, .inl lFfr)), (lto, .inl (cI, 7, .inl lFto)), (lse, .inl (cI, 7, .inl lFse)), (lhl, .inl (cI, 7, .inl lFhl)), (tx, .inl (cI, 64, .inl Ftx))] sz (fun (r : Int32) (u : Int32 × Int32 × (Nat → Int32) × (Nat → Int32) × (Nat → Int32) × (Nat → Int32) × (Nat → Int32) × (Nat → Int32) × (Nat → Int32) × (Nat → Int32)) => 0 ≤ u.1.toInt ∧ u.1.toInt ≤ 5 ∧ 0 ≤ u.2.1.toInt ∧ u.2.1.toInt ≤ 6) (fun u => [(h0, .inr (0, [.int u.1, .int u.2.1, .ref lho, .ref lli, .ref lki, .ref lfd, .ref lfr, .ref lto, .ref lse, .ref lhl])), (lho, .inl (cI, 5, .inl u.2.2.1)), (lli, .inl (cI, 5, .inl u.2.2.2.1)), (lki, .inl (cI, 5, .inl u.2.2.2.2.1)), (lfd, .inl (cI, 7, .inl u.2.2.2.2.2.1)), (lfr, .inl (cI, 7, .inl u.2.2.2.2.2.2.1)), (lto, .inl (cI, 7, .inl u.2.2.2.2.2.2.2.1)), (lse, .inl (cI, 7, .inl u.2.2.2.2.2.2.2.2.1)), (lhl, .inl (cI, 7, .inl u.2.2.2.2.2.2.2.2.2)), (tx, .inl (cI, 64, .inl Ftx))]) 0 0 := by
  refine begins (l := l) (y := yX0_read) (ws := wsX0_read) (av := [.ref h0, .ref tx, .int le]) (Qc := fun A => va_Qi (fun (r : Int32) (u : Int32 × Int32 × (Nat → Int32) × (Nat → Int32) × (Nat → Int32) × (Nat → Int32) × (Nat → Int32) × (Nat → Int32) × (Nat → Int32) × (Nat → Int32)) => 0 ≤ u.1.toInt ∧ u.1.toInt ≤ 5 ∧ 0 ≤ u.2.1.toInt ∧ u.2.1.toInt ≤ 6) (fun u => Wd D cI cZ cM A ((fun u => [(h0, .inr (0, [.int u.1, .int u.2.1, .ref lho, .ref lli, .ref lki, .ref lfd, .ref lfr, .ref lto, .ref lse, .ref lhl])), (lho, .inl (cI, 5, .inl u.2.2.1)), (lli, .inl (cI, 5, .inl u.2.2.2.1)), (lki, .inl (cI, 5, .inl u.2.2.2.2.1)), (lfd, .inl (cI, 7, .inl u.2.2.2.2.2.1)), (lfr, .inl (cI, 7, .inl u.2.2.2.2.2.2.1)), (lto, .inl (cI, 7, .inl u.2.2.2.2.2.2.2.1)), (lse, .inl (cI, 7, .inl u.2.2.2.2.2.2.2.2.1)), (lhl, .inl (cI, 7, .inl u.2.2.2.2.2.2.2.2.2)), (tx, .inl (cI, 64, .inl Ftx))]) u)) A) cX0_read 6 (some .int) (by decide) rfl (Nat.le_of_ble_eq_true rfl) ?_
  intro p e s m args below meth c R Q A ls hBd hR hQ hA hS hK hP hD hl
  obtain ⟨hx, hb, hr, hts, hown, hlocks, hin, hml⟩ := hBd
  have hl : lv_has ls 6 [(0, .ref h0), (1, .ref tx), (2, .int le)] := hl
  have iX0 : ∀ w ∈ wsX00, w ∈ wsX0_read := fun _ h => List.mem_cons_of_mem _ (List.mem_append_right _ h)
  obtain ⟨h_lea, h_leb⟩ := h_le
  refine lv_aload_n hx hb dX0_read_0 rfl (lv_at hl 0 rfl) ?_
  refine lv_iconst (v := 0) hx hb dX0_read_1 (by decide) ?_
  refine va_put (D := D) (ci := 0) (v := .int 0) (ty := .int) (C := RX0) (T := TX0) (N := 10) hx hb hts iX0 tyX0 tyX0_ok nmX0 hown hK hP hD hS 0 rfl rfl 0 (by decide) (hts (.fieldLink RX0 9 "PunchedTicket$Line" "people" "I") (List.mem_of_getElem? (i := 1) rfl)) (fun _ h9 => h9) rfl (by decide +kernel) rfl rfl (Nat.le_of_ble_eq_true rfl) dX0_read_2 (fun H locs hP hD hS => ?_)
  have hP : va_P D vwCl [(h0, .inr (0, [.int 0, .int ltk, .ref lho, .ref lli, .ref lki, .ref lfd, .ref lfr, .ref lto, .ref lse, .ref lhl])), (lho, .inl (cI, 5, .inl lFho)), (lli, .inl (cI, 5, .inl lFli)), (lki, .inl (cI, 5, .inl lFki)), (lfd, .inl (cI, 7, .inl lFfd)), (lfr, .inl (cI, 7, .inl lFfr)), (lto, .inl (cI, 7, .inl lFto)), (lse, .inl (cI, 7, .inl lFse)), (lhl, .inl (cI, 7, .inl lFhl)), (tx, .inl (cI, 64, .inl Ftx))] H := hP
  have hD : va_D A [(h0, .inr (0, [.int 0, .int ltk, .ref lho, .ref lli, .ref lki, .ref lfd, .ref lfr, .ref lto, .ref lse, .ref lhl])), (lho, .inl (cI, 5, .inl lFho)), (lli, .inl (cI, 5, .inl lFli)), (lki, .inl (cI, 5, .inl lFki)), (lfd, .inl (cI, 7, .inl lFfd)), (lfr, .inl (cI, 7, .inl lFfr)), (lto, .inl (cI, 7, .inl lFto)), (lse, .inl (cI, 7, .inl lFse)), (lhl, .inl (cI, 7, .inl lFhl)), (tx, .inl (cI, 64, .inl Ftx))] := hD
  refine lv_aload_n hx hb dX0_read_5 rfl (lv_at hl 0 rfl) ?_
  refine lv_iconst (v := 0) hx hb dX0_read_6 (by decide) ?_
  refine va_put (D := D) (ci := 0) (v := .int 0) (ty := .int) (C := RX0) (T := TX0) (N := 10) hx hb hts iX0 tyX0 tyX0_ok nmX0 hown hK hP hD hS 0 rfl rfl 1 (by decide) (hts (.fieldLink RX0 15 "PunchedTicket$Line" "tickets" "I") (List.mem_of_getElem? (i := 2) rfl)) (fun _ h9 => h9) rfl (by decide +kernel) rfl rfl (Nat.le_of_ble_eq_true rfl) dX0_read_7 (fun H locs hP hD hS => ?_)
  have hP : va_P D vwCl [(h0, .inr (0, [.int 0, .int 0, .ref lho, .ref lli, .ref lki, .ref lfd, .ref lfr, .ref lto, .ref lse, .ref lhl])), (lho, .inl (cI, 5, .inl lFho)), (lli, .inl (cI, 5, .inl lFli)), (lki, .inl (cI, 5, .inl lFki)), (lfd, .inl (cI, 7, .inl lFfd)), (lfr, .inl (cI, 7, .inl lFfr)), (lto, .inl (cI, 7, .inl lFto)), (lse, .inl (cI, 7, .inl lFse)), (lhl, .inl (cI, 7, .inl lFhl)), (tx, .inl (cI, 64, .inl Ftx))] H := hP
  have hD : va_D A [(h0, .inr (0, [.int 0, .int 0, .ref lho, .ref lli, .ref lki, .ref lfd, .ref lfr, .ref lto, .ref lse, .ref lhl])), (lho, .inl (cI, 5, .inl lFho)), (lli, .inl (cI, 5, .inl lFli)), (lki, .inl (cI, 5, .inl lFki)), (lfd, .inl (cI, 7, .inl lFfd)), (lfr, .inl (cI, 7, .inl lFfr)), (lto, .inl (cI, 7, .inl lFto)), (lse, .inl (cI, 7, .inl lFse)), (lhl, .inl (cI, 7, .inl lFhl)), (tx, .inl (cI, 64, .inl Ftx))] := hD
  refine lv_iload_n hx hb dX0_read_10 rfl (lv_at hl 2 rfl) ?_
  refine lv_iconst (v := 1) hx hb dX0_read_11 (by decide) ?_
  refine lv_icmp_lt (tgt := 29) hx hb dX0_read_12 (by decide) (fun c_1 => ?_) (fun c_1 => ?_)
  · have tc_1 := b_lt rfl (show (1 : Int32).toInt = 1 by decide) c_1
    refine lv_iconst (v := 0) hx hb dX0_read_29 (by decide) ?_
    exact ret_i (post := (fun (r : Int32) (u : Int32 × Int32 × (Nat → Int32) × (Nat → Int32) × (Nat → Int32) × (Nat → Int32) × (Nat → Int32) × (Nat → Int32) × (Nat → Int32) × (Nat → Int32)) => 0 ≤ u.1.toInt ∧ u.1.toInt ≤ 5 ∧ 0 ≤ u.2.1.toInt ∧ u.2.1.toInt ≤ 6)) (W1 := (fun u => [(h0, .inr (0, [.int u.1, .int u.2.1, .ref lho, .ref lli, .ref lki, .ref lfd, .ref lfr, .ref lto, .ref lse, .ref lhl])), (lho, .inl (cI, 5, .inl u.2.2.1)), (lli, .inl (cI, 5, .inl u.2.2.2.1)), (lki, .inl (cI, 5, .inl u.2.2.2.2.1)), (lfd, .inl (cI, 7, .inl u.2.2.2.2.2.1)), (lfr, .inl (cI, 7, .inl u.2.2.2.2.2.2.1)), (lto, .inl (cI, 7, .inl u.2.2.2.2.2.2.2.1)), (lse, .inl (cI, 7, .inl u.2.2.2.2.2.2.2.2.1)), (lhl, .inl (cI, 7, .inl u.2.2.2.2.2.2.2.2.2)), (tx, .inl (cI, 64, .inl Ftx))])) (0, 0, lFho, lFli, lFki, lFfd, lFfr, lFto, lFse, lFhl) hx hb hr hlocks rfl hQ hK hP hD hS ⟨by decide, by decide⟩ dX0_read_30 (show 0 ≤ (0 : Int) ∧ (0 : Int) ≤ 5 ∧ 0 ≤ (0 : Int) ∧ (0 : Int) ≤ 6 by omega)
  · have tc_1 := b_nlt rfl (show (1 : Int32).toInt = 1 by decide) c_1
    refine lv_iload_n hx hb dX0_read_15 rfl (lv_at hl 2 rfl) ?_
    refine lv_aload_n hx hb dX0_read_16 rfl (lv_at hl 1 rfl) ?_
    refine va_alen (v := 64) hx hb hK hP 9 0 rfl rfl rfl dX0_read_17 ?_
    refine lv_icmp_gt (tgt := 29) hx hb dX0_read_18 (by decide) (fun c_2 => ?_) (fun c_2 => ?_)
    · have tc_2 := b_lt (show (64 : Int32).toInt = 64 by decide) rfl c_2
      exfalso; omega
    · have tc_2 := b_nlt (show (64 : Int32).toInt = 64 by decide) rfl c_2
      refine lv_aload_n hx hb dX0_read_21 rfl (lv_at hl 1 rfl) ?_
      refine lv_iconst (v := 0) hx hb dX0_read_22 (by decide) ?_
      refine va_iald hx hb hK hP 9 0 rfl rfl (vp_in_iff.mpr (by decide)) dX0_read_23 ?_
      refine lv_topi (fun v_3 ev_3 => ?_)
      refine lv_bipush (v := 76) hx hb dX0_read_24 (by decide) ?_
      refine lv_icmp_eq (tgt := 31) hx hb dX0_read_26 (by decide) (fun c_4 => ?_) (fun c_4 => ?_)
      · have tc_4 := b_eq rfl (show (76 : Int32).toInt = 76 by decide) c_4
        refine lv_iconst (v := 0) hx hb dX0_read_31 (by decide) ?_
        refine lv_istore_n (lv' := [(3, .int 0), (0, .ref h0), (1, .ref tx), (2, .int le)]) hx hb dX0_read_32 rfl hl (by decide) rfl (fun ls hl => ?_)
        refine lv_iconst (v := 1) hx hb dX0_read_33 (by decide) ?_
        refine lv_istore (lv' := [(4, .int 1), (3, .int 0), (0, .ref h0), (1, .ref tx), (2, .int le)]) hx hb dX0_read_34 hl (by decide) rfl (fun ls hl => ?_)
        have LOOP_5 : ∀ (fu_5 : Nat) (w3 : Int32) (x4 : Int32) (np : Int32) (nt : Int32) (nho : Nat → Int32) (nli : Nat → Int32) (nki : Nat → Int32) (nfd : Nat → Int32) (nfr : Nat → Int32) (nto : Nat → Int32) (nse : Nat → Int32) (nhl : Nat → Int32) (H : Heap) (locs : List Loc) (ls : Array Slot), (64 - x4.toInt).toNat < fu_5 → (1 ≤ x4.toInt ∧ x4.toInt ≤ 64) → (0 ≤ np.toInt ∧ np.toInt ≤ 5) → (0 ≤ nt.toInt ∧ nt.toInt ≤ 6) → va_P D vwCl [(h0, .inr (0, [.int np, .int nt, .ref lho, .ref lli, .ref lki, .ref lfd, .ref lfr, .ref lto, .ref lse, .ref lhl])), (lho, .inl (cI, 5, .inl nho)), (lli, .inl (cI, 5, .inl nli)), (lki, .inl (cI, 5, .inl nki)), (lfd, .inl (cI, 7, .inl nfd)), (lfr, .inl (cI, 7, .inl nfr)), (lto, .inl (cI, 7, .inl nto)), (lse, .inl (cI, 7, .inl nse)), (lhl, .inl (cI, 7, .inl nhl)), (tx, .inl (cI, 64, .inl Ftx))] H → va_D A [(h0, .inr (0, [.int np, .int nt, .ref lho, .ref lli, .ref lki, .ref lfd, .ref lfr, .ref lto, .ref lse, .ref lhl])), (lho, .inl (cI, 5, .inl nho)), (lli, .inl (cI, 5, .inl nli)), (lki, .inl (cI, 5, .inl nki)), (lfd, .inl (cI, 7, .inl nfd)), (lfr, .inl (cI, 7, .inl nfr)), (lto, .inl (cI, 7, .inl nto)), (lse, .inl (cI, 7, .inl nse)), (lhl, .inl (cI, 7, .inl nhl)), (tx, .inl (cI, 64, .inl Ftx))] → va_S A s.heap H locs → lv_has ls 6 [(0, .ref h0), (1, .ref tx), (2, .int le), (3, .int w3), (4, .int x4)] → W p l e R s m args below meth c H locs 0 0 Q (F0 m 36 ls []) := by
          intro fu_5
          induction fu_5 with
          | zero => intro w3 x4 np nt nho nli nki nfd nfr nto nse nhl H locs ls hmu; exact absurd hmu (Nat.not_lt_zero _)
          | succ fu_5 ih =>
            intro w3 x4 np nt nho nli nki nfd nfr nto nse nhl H locs ls hmu h_x4 h_np h_nt hP hD hS hl
            obtain ⟨h_x4a, h_x4b⟩ := h_x4
            obtain ⟨h_npa, h_npb⟩ := h_np
            obtain ⟨h_nta, h_ntb⟩ := h_nt
            have ih_6 := ih
            clear ih
            refine lv_iload hx hb dX0_read_36 (lv_at hl 4 rfl) ?_
            refine lv_iload_n hx hb dX0_read_38 rfl (lv_at hl 2 rfl) ?_
            refine lv_icmp_ge (tgt := 96) hx hb dX0_read_39 (by decide) (fun c_7 => ?_) (fun c_7 => ?_)
            · have tc_7 := b_le rfl rfl c_7
              refine lv_bipush (v := (-9)) hx hb dX0_read_96 (by decide) ?_
              exact ret_i (post := (fun (r : Int32) (u : Int32 × Int32 × (Nat → Int32) × (Nat → Int32) × (Nat → Int32) × (Nat → Int32) × (Nat → Int32) × (Nat → Int32) × (Nat → Int32) × (Nat → Int32)) => 0 ≤ u.1.toInt ∧ u.1.toInt ≤ 5 ∧ 0 ≤ u.2.1.toInt ∧ u.2.1.toInt ≤ 6)) (W1 := (fun u => [(h0, .inr (0, [.int u.1, .int u.2.1, .ref lho, .ref lli, .ref lki, .ref lfd, .ref lfr, .ref lto, .ref lse, .ref lhl])), (lho, .inl (cI, 5, .inl u.2.2.1)), (lli, .inl (cI, 5, .inl u.2.2.2.1)), (lki, .inl (cI, 5, .inl u.2.2.2.2.1)), (lfd, .inl (cI, 7, .inl u.2.2.2.2.2.1)), (lfr, .inl (cI, 7, .inl u.2.2.2.2.2.2.1)), (lto, .inl (cI, 7, .inl u.2.2.2.2.2.2.2.1)), (lse, .inl (cI, 7, .inl u.2.2.2.2.2.2.2.2.1)), (lhl, .inl (cI, 7, .inl u.2.2.2.2.2.2.2.2.2)), (tx, .inl (cI, 64, .inl Ftx))])) (np, nt, nho, nli, nki, nfd, nfr, nto, nse, nhl) hx hb hr hlocks rfl hQ hK hP hD hS ⟨by decide, by decide⟩ dX0_read_98 (show 0 ≤ np.toInt ∧ np.toInt ≤ 5 ∧ 0 ≤ nt.toInt ∧ nt.toInt ≤ 6 by omega)
            · have tc_7 := b_nle rfl rfl c_7
              refine lv_aload_n hx hb dX0_read_42 rfl (lv_at hl 0 rfl) ?_
              refine lv_aload_n hx hb dX0_read_43 rfl (lv_at hl 1 rfl) ?_
              refine lv_iload hx hb dX0_read_44 (lv_at hl 4 rfl) ?_
              refine va_iald hx hb hK hP 9 0 rfl rfl (vp_in_iff.mpr ⟨by omega, by omega⟩) dX0_read_46 ?_
              refine lv_topi (fun v_8 ev_8 => ?_)
              refine cV_i (As := [.int v_8]) (rest := []) ⟨hx, hb, hml, hown, hts⟩ (c_X0_partSize l D cI cZ cM h0 v_8 np nt lho lli lki lfd lfr lto lse lhl _ ) (cwV 1 hts gX0_read_X0_partSize rfl rfl rfl (by decide +kernel) ⟨by rw [hR]; decide, by rw [hR]; decide⟩) hK hP hD hS hA [0] [1, 2, 3, 4, 5, 6, 7, 8, 9] rfl rfl (by decide) (by decide) (by decide) rfl 0 rfl hl.1 rfl rfl (Nat.le_of_ble_eq_true rfl) dX0_read_47 ⟨by rw [hR]; decide, by rw [hR]; decide⟩ (fun r_9 u_10 H locs hw hP hD hS => ?_)
              have hP : va_P D vwCl [(h0, .inr (0, [.int np, .int nt, .ref lho, .ref lli, .ref lki, .ref lfd, .ref lfr, .ref lto, .ref lse, .ref lhl])), (lho, .inl (cI, 5, .inl nho)), (lli, .inl (cI, 5, .inl nli)), (lki, .inl (cI, 5, .inl nki)), (lfd, .inl (cI, 7, .inl nfd)), (lfr, .inl (cI, 7, .inl nfr)), (lto, .inl (cI, 7, .inl nto)), (lse, .inl (cI, 7, .inl nse)), (lhl, .inl (cI, 7, .inl nhl)), (tx, .inl (cI, 64, .inl Ftx))] H := hP.sub [9, 0, 1, 2, 3, 4, 5, 6, 7, 8] rfl
              have hD : va_D A [(h0, .inr (0, [.int np, .int nt, .ref lho, .ref lli, .ref lki, .ref lfd, .ref lfr, .ref lto, .ref lse, .ref lhl])), (lho, .inl (cI, 5, .inl nho)), (lli, .inl (cI, 5, .inl nli)), (lki, .inl (cI, 5, .inl nki)), (lfd, .inl (cI, 7, .inl nfd)), (lfr, .inl (cI, 7, .inl nfr)), (lto, .inl (cI, 7, .inl nto)), (lse, .inl (cI, 7, .inl nse)), (lhl, .inl (cI, 7, .inl nhl)), (tx, .inl (cI, 64, .inl Ftx))] := hD.sub [9, 0, 1, 2, 3, 4, 5, 6, 7, 8] (by decide) rfl
              refine W.widen (k := 0) (n := 0) (Nat.le_refl _) (Nat.le_refl _) ?_
              have hw : (r_9.toInt = 4 ∧ np.toInt < 5) ∨ (r_9.toInt = 6 ∧ nt.toInt < 6 ∧ 0 < np.toInt) ∨ r_9.toInt = 0 := hw
              have hw_11 := hw
              refine lv_istore_n (lv' := [(3, .int r_9), (0, .ref h0), (1, .ref tx), (2, .int le), (4, .int x4)]) hx hb dX0_read_50 rfl hl (by decide) rfl (fun ls hl => ?_)
              refine lv_iload_n hx hb dX0_read_51 rfl (lv_at hl 0 rfl) ?_
              refine lv_if_ne (tgt := 58) hx hb dX0_read_52 (by decide) (fun c_12 => ?_) (fun c_12 => ?_)
              · have tc_12 := b_ne rfl (show (0 : Int32).toInt = 0 by decide) c_12
                refine lv_aload_n hx hb dX0_read_58 rfl (lv_at hl 1 rfl) ?_
                refine lv_aload_n hx hb dX0_read_59 rfl (lv_at hl 2 rfl) ?_
                refine lv_iload_n hx hb dX0_read_60 rfl (lv_at hl 3 rfl) ?_
                refine lv_iload hx hb dX0_read_61 (lv_at hl 4 rfl) ?_
                refine lv_iload_n hx hb dX0_read_63 rfl (lv_at hl 0 rfl) ?_
                refine cV_i (As := [.ref tx, .int le, .int x4, .int r_9]) (rest := []) ⟨hx, hb, hml, hown, hts⟩ (c_X0_partFault l D cI cZ cM h0 tx le x4 r_9 np nt lho lli lki lfd lfr lto lse lhl Ftx _ (show 0 ≤ le.toInt ∧ le.toInt ≤ 64 by omega) (show 0 ≤ x4.toInt ∧ x4.toInt ≤ 63 by omega) (show 4 ≤ r_9.toInt ∧ r_9.toInt ≤ 6 by omega)) (cwV 4 hts gX0_read_X0_partFault rfl rfl rfl (by decide +kernel) ⟨by rw [hR]; decide, by rw [hR]; decide⟩) hK hP hD hS hA [0, 9] [1, 2, 3, 4, 5, 6, 7, 8] rfl rfl (by decide) (by decide) (by decide) rfl 0 rfl hl.1 rfl rfl (Nat.le_of_ble_eq_true rfl) dX0_read_64 ⟨by rw [hR]; decide, by rw [hR]; decide⟩ (fun r_13 u_14 H locs hw hP hD hS => ?_)
                have hP : va_P D vwCl [(h0, .inr (0, [.int np, .int nt, .ref lho, .ref lli, .ref lki, .ref lfd, .ref lfr, .ref lto, .ref lse, .ref lhl])), (lho, .inl (cI, 5, .inl nho)), (lli, .inl (cI, 5, .inl nli)), (lki, .inl (cI, 5, .inl nki)), (lfd, .inl (cI, 7, .inl nfd)), (lfr, .inl (cI, 7, .inl nfr)), (lto, .inl (cI, 7, .inl nto)), (lse, .inl (cI, 7, .inl nse)), (lhl, .inl (cI, 7, .inl nhl)), (tx, .inl (cI, 64, .inl Ftx))] H := hP.sub [8, 0, 1, 2, 3, 4, 5, 6, 7, 9] rfl
                have hD : va_D A [(h0, .inr (0, [.int np, .int nt, .ref lho, .ref lli, .ref lki, .ref lfd, .ref lfr, .ref lto, .ref lse, .ref lhl])), (lho, .inl (cI, 5, .inl nho)), (lli, .inl (cI, 5, .inl nli)), (lki, .inl (cI, 5, .inl nki)), (lfd, .inl (cI, 7, .inl nfd)), (lfr, .inl (cI, 7, .inl nfr)), (lto, .inl (cI, 7, .inl nto)), (lse, .inl (cI, 7, .inl nse)), (lhl, .inl (cI, 7, .inl nhl)), (tx, .inl (cI, 64, .inl Ftx))] := hD.sub [8, 0, 1, 2, 3, 4, 5, 6, 7, 9] (by decide) rfl
                refine W.widen (k := 0) (n := 0) (Nat.le_refl _) (Nat.le_refl _) ?_
                have hw : (r_13.toInt = -9 ∧ x4.toInt + r_9.toInt ≤ le.toInt) ∨ 0 ≤ r_13.toInt := hw
                have hw_15 := hw
                refine lv_istore (lv' := [(5, .int r_13), (3, .int r_9), (0, .ref h0), (1, .ref tx), (2, .int le), (4, .int x4)]) hx hb dX0_read_67 hl (by decide) rfl (fun ls hl => ?_)
                refine lv_iload hx hb dX0_read_69 (lv_at hl 0 rfl) ?_
                refine lv_bipush (v := (-9)) hx hb dX0_read_71 (by decide) ?_
                refine lv_icmp_eq (tgt := 79) hx hb dX0_read_73 (by decide) (fun c_16 => ?_) (fun c_16 => ?_)
                · have tc_16 := b_eq rfl (show ((-9) : Int32).toInt = -9 by decide) c_16
                  refine lv_aload_n hx hb dX0_read_79 rfl (lv_at hl 2 rfl) ?_
                  refine lv_aload_n hx hb dX0_read_80 rfl (lv_at hl 3 rfl) ?_
                  refine lv_iload hx hb dX0_read_81 (lv_at hl 5 rfl) ?_
                  refine lv_iload_n hx hb dX0_read_83 rfl (lv_at hl 1 rfl) ?_
                  refine cV_v (As := [.ref tx, .int x4, .int r_9]) (rest := []) ⟨hx, hb, hml, hown, hts⟩ (c_X0_takePart l D cI cZ cM h0 tx x4 r_9 np nt lho lli lki lfd lfr lto lse lhl nho nli nki nfd nfr nto nse nhl Ftx _ (show (r_9.toInt = 4 ∧ np.toInt < 5 ∧ x4.toInt + 4 ≤ 64) ∨ (r_9.toInt = 6 ∧ nt.toInt < 6 ∧ x4.toInt + 6 ≤ 64) by omega) (show 0 ≤ x4.toInt ∧ x4.toInt ≤ 63 by omega) (show 0 ≤ np.toInt ∧ np.toInt ≤ 5 by omega) (show 0 ≤ nt.toInt ∧ nt.toInt ≤ 6 by omega)) (cwV 3 hts gX0_read_X0_takePart rfl rfl rfl (by decide +kernel) ⟨by rw [hR]; decide, by rw [hR]; decide⟩) hK hP hD hS hA [0, 1, 2, 3, 4, 5, 6, 7, 8, 9] [] rfl rfl (by decide) (by decide) (by decide) rfl 0 rfl hl.1 rfl rfl (Nat.le_of_ble_eq_true rfl) dX0_read_84 ⟨by rw [hR]; decide, by rw [hR]; decide⟩ (fun u_28 H locs hw hP hD hS => ?_)
                  obtain ⟨pe1_17, tk1_18, Gho_19, Gli_20, Gki_21, Gfd_22, Gfr_23, Gto_24, Gse_25, Ghl_26⟩ := u_28
                  have hP : va_P D vwCl [(h0, .inr (0, [.int pe1_17, .int tk1_18, .ref lho, .ref lli, .ref lki, .ref lfd, .ref lfr, .ref lto, .ref lse, .ref lhl])), (lho, .inl (cI, 5, .inl Gho_19)), (lli, .inl (cI, 5, .inl Gli_20)), (lki, .inl (cI, 5, .inl Gki_21)), (lfd, .inl (cI, 7, .inl Gfd_22)), (lfr, .inl (cI, 7, .inl Gfr_23)), (lto, .inl (cI, 7, .inl Gto_24)), (lse, .inl (cI, 7, .inl Gse_25)), (lhl, .inl (cI, 7, .inl Ghl_26)), (tx, .inl (cI, 64, .inl Ftx))] H := hP.sub [0, 1, 2, 3, 4, 5, 6, 7, 8, 9] rfl
                  have hD : va_D A [(h0, .inr (0, [.int pe1_17, .int tk1_18, .ref lho, .ref lli, .ref lki, .ref lfd, .ref lfr, .ref lto, .ref lse, .ref lhl])), (lho, .inl (cI, 5, .inl Gho_19)), (lli, .inl (cI, 5, .inl Gli_20)), (lki, .inl (cI, 5, .inl Gki_21)), (lfd, .inl (cI, 7, .inl Gfd_22)), (lfr, .inl (cI, 7, .inl Gfr_23)), (lto, .inl (cI, 7, .inl Gto_24)), (lse, .inl (cI, 7, .inl Gse_25)), (lhl, .inl (cI, 7, .inl Ghl_26)), (tx, .inl (cI, 64, .inl Ftx))] := hD.sub [0, 1, 2, 3, 4, 5, 6, 7, 8, 9] (by decide) rfl
                  refine W.widen (k := 0) (n := 0) (Nat.le_refl _) (Nat.le_refl _) ?_
                  have hw : 0 ≤ pe1_17.toInt ∧ pe1_17.toInt ≤ 5 ∧ 0 ≤ tk1_18.toInt ∧ tk1_18.toInt ≤ 6 := hw
                  have hw_29 := hw
                  obtain ⟨hw_29a, hw_29b, hw_29c, hw_29d⟩ := hw_29
                  refine lv_iload hx hb dX0_read_87 (lv_at hl 5 rfl) ?_
                  refine lv_iload_n hx hb dX0_read_89 rfl (lv_at hl 1 rfl) ?_
                  refine lv_iadd hx hb dX0_read_90 ?_
                  refine lv_topi (fun v_30 ev_30 => ?_)
                  have tv_30 : v_30.toInt = x4.toInt + r_9.toInt := by rw [ev_30]; exact ti_add (x := x4) (y := r_9) (show -2147483648 ≤ x4.toInt + r_9.toInt by omega) (show x4.toInt + r_9.toInt < 2147483648 by omega)
                  refine lv_istore (lv' := [(4, .int v_30), (5, .int r_13), (3, .int r_9), (0, .ref h0), (1, .ref tx), (2, .int le)]) hx hb dX0_read_91 hl (by decide) rfl (fun ls hl => ?_)
                  refine lv_goto (tgt := 36) hx hb dX0_read_93 (by decide) ?_
                  exact ih_6 r_9 v_30 pe1_17 tk1_18 Gho_19 Gli_20 Gki_21 Gfd_22 Gfr_23 Gto_24 Gse_25 Ghl_26 _ _ _ (show (64 - v_30.toInt).toNat < fu_5 by omega) (show 1 ≤ v_30.toInt ∧ v_30.toInt ≤ 64 by omega) (show 0 ≤ pe1_17.toInt ∧ pe1_17.toInt ≤ 5 by omega) (show 0 ≤ tk1_18.toInt ∧ tk1_18.toInt ≤ 6 by omega) hP hD hS (lv_sub hl [3, 4, 5, 2, 0] rfl)
                · have tc_16 := b_ne rfl (show ((-9) : Int32).toInt = -9 by decide) c_16
                  refine lv_iload hx hb dX0_read_76 (lv_at hl 0 rfl) ?_
                  exact ret_i (post := (fun (r : Int32) (u : Int32 × Int32 × (Nat → Int32) × (Nat → Int32) × (Nat → Int32) × (Nat → Int32) × (Nat → Int32) × (Nat → Int32) × (Nat → Int32) × (Nat → Int32)) => 0 ≤ u.1.toInt ∧ u.1.toInt ≤ 5 ∧ 0 ≤ u.2.1.toInt ∧ u.2.1.toInt ≤ 6)) (W1 := (fun u => [(h0, .inr (0, [.int u.1, .int u.2.1, .ref lho, .ref lli, .ref lki, .ref lfd, .ref lfr, .ref lto, .ref lse, .ref lhl])), (lho, .inl (cI, 5, .inl u.2.2.1)), (lli, .inl (cI, 5, .inl u.2.2.2.1)), (lki, .inl (cI, 5, .inl u.2.2.2.2.1)), (lfd, .inl (cI, 7, .inl u.2.2.2.2.2.1)), (lfr, .inl (cI, 7, .inl u.2.2.2.2.2.2.1)), (lto, .inl (cI, 7, .inl u.2.2.2.2.2.2.2.1)), (lse, .inl (cI, 7, .inl u.2.2.2.2.2.2.2.2.1)), (lhl, .inl (cI, 7, .inl u.2.2.2.2.2.2.2.2.2)), (tx, .inl (cI, 64, .inl Ftx))])) (np, nt, nho, nli, nki, nfd, nfr, nto, nse, nhl) hx hb hr hlocks rfl hQ hK hP hD hS ⟨by decide, by decide⟩ dX0_read_78 (show 0 ≤ np.toInt ∧ np.toInt ≤ 5 ∧ 0 ≤ nt.toInt ∧ nt.toInt ≤ 6 by omega)
              · have tc_12 := b_eq rfl (show (0 : Int32).toInt = 0 by decide) c_12
                refine lv_iload hx hb dX0_read_55 (lv_at hl 4 rfl) ?_
                exact ret_i (post := (fun (r : Int32) (u : Int32 × Int32 × (Nat → Int32) × (Nat → Int32) × (Nat → Int32) × (Nat → Int32) × (Nat → Int32) × (Nat → Int32) × (Nat → Int32) × (Nat → Int32)) => 0 ≤ u.1.toInt ∧ u.1.toInt ≤ 5 ∧ 0 ≤ u.2.1.toInt ∧ u.2.1.toInt ≤ 6)) (W1 := (fun u => [(h0, .inr (0, [.int u.1, .int u.2.1, .ref lho, .ref lli, .ref lki, .ref lfd, .ref lfr, .ref lto, .ref lse, .ref lhl])), (lho, .inl (cI, 5, .inl u.2.2.1)), (lli, .inl (cI, 5, .inl u.2.2.2.1)), (lki, .inl (cI, 5, .inl u.2.2.2.2.1)), (lfd, .inl (cI, 7, .inl u.2.2.2.2.2.1)), (lfr, .inl (cI, 7, .inl u.2.2.2.2.2.2.1)), (lto, .inl (cI, 7, .inl u.2.2.2.2.2.2.2.1)), (lse, .inl (cI, 7, .inl u.2.2.2.2.2.2.2.2.1)), (lhl, .inl (cI, 7, .inl u.2.2.2.2.2.2.2.2.2)), (tx, .inl (cI, 64, .inl Ftx))])) (np, nt, nho, nli, nki, nfd, nfr, nto, nse, nhl) hx hb hr hlocks rfl hQ hK hP hD hS ⟨by decide, by decide⟩ dX0_read_57 (show 0 ≤ np.toInt ∧ np.toInt ≤ 5 ∧ 0 ≤ nt.toInt ∧ nt.toInt ≤ 6 by omega)
        exact LOOP_5 _ 0 1 0 0 lFho lFli lFki lFfd lFfr lFto lFse lFhl _ _ _ (Nat.lt_succ_self _) (by decide) (by decide) (by decide) hP hD hS (lv_sub hl [2, 3, 4, 1, 0] rfl)
      · have tc_4 := b_ne rfl (show (76 : Int32).toInt = 76 by decide) c_4
        refine lv_iconst (v := 0) hx hb dX0_read_29 (by decide) ?_
        exact ret_i (post := (fun (r : Int32) (u : Int32 × Int32 × (Nat → Int32) × (Nat → Int32) × (Nat → Int32) × (Nat → Int32) × (Nat → Int32) × (Nat → Int32) × (Nat → Int32) × (Nat → Int32)) => 0 ≤ u.1.toInt ∧ u.1.toInt ≤ 5 ∧ 0 ≤ u.2.1.toInt ∧ u.2.1.toInt ≤ 6)) (W1 := (fun u => [(h0, .inr (0, [.int u.1, .int u.2.1, .ref lho, .ref lli, .ref lki, .ref lfd, .ref lfr, .ref lto, .ref lse, .ref lhl])), (lho, .inl (cI, 5, .inl u.2.2.1)), (lli, .inl (cI, 5, .inl u.2.2.2.1)), (lki, .inl (cI, 5, .inl u.2.2.2.2.1)), (lfd, .inl (cI, 7, .inl u.2.2.2.2.2.1)), (lfr, .inl (cI, 7, .inl u.2.2.2.2.2.2.1)), (lto, .inl (cI, 7, .inl u.2.2.2.2.2.2.2.1)), (lse, .inl (cI, 7, .inl u.2.2.2.2.2.2.2.2.1)), (lhl, .inl (cI, 7, .inl u.2.2.2.2.2.2.2.2.2)), (tx, .inl (cI, 64, .inl Ftx))])) (0, 0, lFho, lFli, lFki, lFfd, lFfr, lFto, lFse, lFhl) hx hb hr hlocks rfl hQ hK hP hD hS ⟨by decide, by decide⟩ dX0_read_30 (show 0 ≤ (0 : Int) ∧ (0 : Int) ≤ 5 ∧ 0 ≤ (0 : Int) ∧ (0 : Int) ≤ 6 by omega)

set_option maxHeartbeats 600000 in
set_option maxRecDepth 100000 in
theorem c_X3_fault (l : Launch) (D : va_G) (cI cZ cM : ClassId) (h0 : Nat) (tx : Nat) (le : Int32) (td : Nat) (dr : Nat) (nw : Nat) (ac : Nat) (fa : Int32) (an : Int32) (kp : Nat) (ks : Int32) (sp : Nat) (ss : Nat) (sy : Nat) (sc : Int32) (sd : Int64) (tr : Nat) (ia : Nat) (Ftx : Nat → Int32) (dpe : Int32) (dtk : Int32) (dho : Nat) (dli : Nat) (dki : Nat) (dfd : Nat) (dfr : Nat) (dto : Nat) (dse : Nat) (dhl : Nat) (dFho : Nat → Int32) (dFli : Nat → Int32) (dFki : Nat → Int32) (dFfd : Nat → Int32) (dFfr : Nat → Int32) (dFto : Nat → Int32) (dFse : Nat → Int32) (dFhl : Nat → Int32) (sz : Nat) (h_le : 0 ≤ le.toInt ∧ le.toInt ≤ 64) : Ci l yX3_fault wsX3_fault ({ frames := 3, cells := 0, slots := 0, locals := 76 } : Room) D cI cZ cM [.ref h0] [(h0, .inr (3, [.ref tx, .int le, .ref td, .ref dr, .ref nw, .ref ac, .int fa, .int an, .ref kp, .int ks, .ref sp, .ref ss, .ref sy, .int sc, .long sd, .ref tr, .ref ia])), (tx, .inl (cI, 64, .inl Ftx)), (dr, .inr (0, [.int dpe, .int dtk, .ref dho, .ref dli, .ref dki, .ref dfd, .ref dfr, .ref dto, .ref dse, .ref dhl])), (dho, .inl (cI, 5, .inl dFho)), (dli, .inl (cI, 5, .inl dFli)), (dki, .inl (cI, 5, .inl dFki)), (dfd, .inl (cI, 7, .inl dFfd)), (dfr, .inl (cI, 7, .inl dFfr)), (dto, .inl (cI, 7, .inl dFto)), (dse, .inl (cI, 7, .inl dFse)), (dhl, .inl (cI, 7, .inl dFhl))] sz (fun (r : Int32) (u : Int32 × Int32 × (Nat → Int32) × (Nat → Int32) × (Nat → Int32) × (Nat → Int32) × (Nat → Int32) × (Nat → Int32) × (Nat → Int32) × (Nat → Int32)) => 0 ≤ u.1.toInt ∧ u.1.toInt ≤ 5 ∧ 0 ≤ u.2.1.toInt ∧ u.2.1.toInt ≤ 6) (fun u => [(h0, .inr (3, [.ref tx, .int le, .ref td, .ref dr, .ref nw, .ref ac, .int fa, .int an, .ref kp, .int ks, .ref sp, .ref ss, .ref sy, .int sc, .long sd, .ref tr, .ref ia])), (tx, .inl (cI, 64, .inl Ftx)), (dr, .inr (0, [.int u.1, .int u.2.1, .ref dho, .ref dli, .ref dki, .ref dfd, .ref dfr, .ref dto, .ref dse, .ref dhl])), (dho, .inl (cI, 5, .inl u.2.2.1)), (dli, .inl (cI, 5, .inl u.2.2.2.1)), (dki, .inl (cI, 5, .inl u.2.2.2.2.1)), (dfd, .inl (cI, 7, .inl u.2.2.2.2.2.1)), (dfr, .inl (cI, 7, .inl u.2.2.2.2.2.2.1)), (dto, .inl (cI, 7, .inl u.2.2.2.2.2.2.2.1)), (dse, .inl (cI, 7, .inl u.2.2.2.2.2.2.2.2.1)), (dhl, .inl (cI, 7, .inl u.2.2.2.2.2.2.2.2.2))]) 0 0 := by
  refine begins (l := l) (y := yX3_fault) (ws := wsX3_fault) (av := [.ref h0]) (Qc := fun A => va_Qi (fun (r : Int32) (u : Int32 × Int32 × (Nat → Int32) × (Nat → Int32) × (Nat → Int32) × (Nat → Int32) × (Nat → Int32) × (Nat → Int32) × (Nat → Int32) × (Nat → Int32)) => 0 ≤ u.1.toInt ∧ u.1.toInt ≤ 5 ∧ 0 ≤ u.2.1.toInt ∧ u.2.1.toInt ≤ 6) (fun u => Wd D cI cZ cM A ((fun u => [(h0, .inr (3, [.ref tx, .int le, .ref td, .ref dr, .ref nw, .ref ac, .int fa, .int an, .ref kp, .int ks, .ref sp, .ref ss, .ref sy, .int sc, .long sd, .ref tr, .ref ia])), (tx, .inl (cI, 64, .inl Ftx)), (dr, .inr (0, [.int u.1, .int u.2.1, .ref dho, .ref dli, .ref dki, .ref dfd, .ref dfr, .ref dto, .ref dse, .ref dhl])), (dho, .inl (cI, 5, .inl u.2.2.1)), (dli, .inl (cI, 5, .inl u.2.2.2.1)), (dki, .inl (cI, 5, .inl u.2.2.2.2.1)), (dfd, .inl (cI, 7, .inl u.2.2.2.2.2.1)), (dfr, .inl (cI, 7, .inl u.2.2.2.2.2.2.1)), (dto, .inl (cI, 7, .inl u.2.2.2.2.2.2.2.1)), (dse, .inl (cI, 7, .inl u.2.2.2.2.2.2.2.2.1)), (dhl, .inl (cI, 7, .inl u.2.2.2.2.2.2.2.2.2))]) u)) A) cX3_fault 1 (some .int) (by decide) rfl (Nat.le_of_ble_eq_true rfl) ?_
  intro p e s m args below meth c R Q A ls hBd hR hQ hA hS hK hP hD hl
  obtain ⟨hx, hb, hr, hts, hown, hlocks, hin, hml⟩ := hBd
  have hl : lv_has ls 1 [(0, .ref h0)] := hl
  have iX3 : ∀ w ∈ wsX30, w ∈ wsX3_fault := fun _ h => List.mem_cons_of_mem _ (List.mem_append_left _ (List.mem_append_right _ h))
  have iX0 : ∀ w ∈ wsX00, w ∈ wsX3_fault := fun _ h => List.mem_cons_of_mem _ (List.mem_append_right _ h)
  obtain ⟨h_lea, h_leb⟩ := h_le
  refine lv_aload_n hx hb dX3_fault_0 rfl (lv_at hl 0 rfl) ?_
  refine va_get (D := D) (ci := 3) (v := .ref dr) (C := RX3) (T := TX3) (N := 17) hx hb hts iX3 hown hK hP 0 rfl rfl 3 (by decide) (hts (.fieldLink RX3 24 "PunchedTicket" "draft" "LPunchedTicket$Line;") (List.mem_of_getElem? (i := 1) rfl)) (fun _ h9 => h9) rfl dX3_fault_1 ?_
  refine lv_aload_n hx hb dX3_fault_4 rfl (lv_at hl 0 rfl) ?_
  refine va_get (D := D) (ci := 3) (v := .ref tx) (C := RX3) (T := TX3) (N := 17) hx hb hts iX3 hown hK hP 0 rfl rfl 0 (by decide) (hts (.fieldLink RX3 9 "PunchedTicket" "text" "[I") (List.mem_of_getElem? (i := 2) rfl)) (fun _ h9 => h9) rfl dX3_fault_5 ?_
  refine lv_aload_n hx hb dX3_fault_8 rfl (lv_at hl 0 rfl) ?_
  refine va_get (D := D) (ci := 3) (v := .int le) (C := RX3) (T := TX3) (N := 17) hx hb hts iX3 hown hK hP 0 rfl rfl 1 (by decide) (hts (.fieldLink RX3 13 "PunchedTicket" "letters" "I") (List.mem_of_getElem? (i := 3) rfl)) (fun _ h9 => h9) rfl dX3_fault_9 ?_
  refine cV_i (As := [.ref tx, .int le]) (rest := []) ⟨hx, hb, hml, hown, hts⟩ (c_X0_read l D cI cZ cM dr tx le dpe dtk dho dli dki dfd dfr dto dse dhl dFho dFli dFki dFfd dFfr dFto dFse dFhl Ftx _ (show 0 ≤ le.toInt ∧ le.toInt ≤ 64 by omega)) (cwV 2 hts gX3_fault_X0_read rfl rfl rfl (by decide +kernel) ⟨by rw [hR]; decide, by rw [hR]; decide⟩) hK hP hD hS hA [2, 3, 4, 5, 6, 7, 8, 9, 10, 1] [0] rfl rfl (by decide) (by decide) (by decide) rfl 2 rfl hl.1 rfl rfl (Nat.le_of_ble_eq_true rfl) dX3_fault_12 ⟨by rw [hR]; decide, by rw [hR]; decide⟩ (fun r_11 u_12 H locs hw hP hD hS => ?_)
  obtain ⟨pe1_1, tk1_2, Gho_3, Gli_4, Gki_5, Gfd_6, Gfr_7, Gto_8, Gse_9, Ghl_10⟩ := u_12
  have hP : va_P D vwCl [(h0, .inr (3, [.ref tx, .int le, .ref td, .ref dr, .ref nw, .ref ac, .int fa, .int an, .ref kp, .int ks, .ref sp, .ref ss, .ref sy, .int sc, .long sd, .ref tr, .ref ia])), (tx, .inl (cI, 64, .inl Ftx)), (dr, .inr (0, [.int pe1_1, .int tk1_2, .ref dho, .ref dli, .ref dki, .ref dfd, .ref dfr, .ref dto, .ref dse, .ref dhl])), (dho, .inl (cI, 5, .inl Gho_3)), (dli, .inl (cI, 5, .inl Gli_4)), (dki, .inl (cI, 5, .inl Gki_5)), (dfd, .inl (cI, 7, .inl Gfd_6)), (dfr, .inl (cI, 7, .inl Gfr_7)), (dto, .inl (cI, 7, .inl Gto_8)), (dse, .inl (cI, 7, .inl Gse_9)), (dhl, .inl (cI, 7, .inl Ghl_10))] H := hP.sub [0, 10, 1, 2, 3, 4, 5, 6, 7, 8, 9] rfl
  have hD : va_D A [(h0, .inr (3, [.ref tx, .int le, .ref td, .ref dr, .ref nw, .ref ac, .int fa, .int an, .ref kp, .int ks, .ref sp, .ref ss, .ref sy, .int sc, .long sd, .ref tr, .ref ia])), (tx, .inl (cI, 64, .inl Ftx)), (dr, .inr (0, [.int pe1_1, .int tk1_2, .ref dho, .ref dli, .ref dki, .ref dfd, .ref dfr, .ref dto, .ref dse, .ref dhl])), (dho, .inl (cI, 5, .inl Gho_3)), (dli, .inl (cI, 5, .inl Gli_4)), (dki, .inl (cI, 5, .inl Gki_5)), (dfd, .inl (cI, 7, .inl Gfd_6)), (dfr, .inl (cI, 7, .inl Gfr_7)), (dto, .inl (cI, 7, .inl Gto_8)), (dse, .inl (cI, 7, .inl Gse_9)), (dhl, .inl (cI, 7, .inl Ghl_10))] := hD.sub [0, 10, 1, 2, 3, 4, 5, 6, 7, 8, 9] (by decide) rfl
  refine W.widen (k := 0) (n := 0) (Nat.le_refl _) (Nat.le_refl _) ?_
  have hw : 0 ≤ pe1_1.toInt ∧ pe1_1.toInt ≤ 5 ∧ 0 ≤ tk1_2.toInt ∧ tk1_2.toInt ≤ 6 := hw
  have hw_13 := hw
  obtain ⟨hw_13a, hw_13b, hw_13c, hw_13d⟩ := hw_13
  exact ret_i (post := (fun (r : Int32) (u : Int32 × Int32 × (Nat → Int32) × (Nat → Int32) × (Nat → Int32) × (Nat → Int32) × (Nat → Int32) × (Nat → Int32) × (Nat → Int32) × (Nat → Int32)) => 0 ≤ u.1.toInt ∧ u.1.toInt ≤ 5 ∧ 0 ≤ u.2.1.toInt ∧ u.2.1.toInt ≤ 6)) (W1 := (fun u => [(h0, .inr (3, [.ref tx, .int le, .ref td, .ref dr, .ref nw, .ref ac, .int fa, .int an, .ref kp, .int ks, .ref sp, .ref ss, .ref sy, .int sc, .long sd, .ref tr, .ref ia])), (tx, .inl (cI, 64, .inl Ftx)), (dr, .inr (0, [.int u.1, .int u.2.1, .ref dho, .ref dli, .ref dki, .ref dfd, .ref dfr, .ref dto, .ref dse, .ref dhl])), (dho, .inl (cI, 5, .inl u.2.2.1)), (dli, .inl (cI, 5, .inl u.2.2.2.1)), (dki, .inl (cI, 5, .inl u.2.2.2.2.1)), (dfd, .inl (cI, 7, .inl u.2.2.2.2.2.1)), (dfr, .inl (cI, 7, .inl u.2.2.2.2.2.2.1)), (dto, .inl (cI, 7, .inl u.2.2.2.2.2.2.2.1)), (dse, .inl (cI, 7, .inl u.2.2.2.2.2.2.2.2.1)), (dhl, .inl (cI, 7, .inl u.2.2.2.2.2.2.2.2.2))])) (pe1_1, tk1_2, Gho_3, Gli_4, Gki_5, Gfd_6, Gfr_7, Gto_8, Gse_9, Ghl_10) hx hb hr hlocks rfl hQ hK hP hD hS ⟨by decide, by decide⟩ dX3_fault_15 (show 0 ≤ pe1_1.toInt ∧ pe1_1.toInt ≤ 5 ∧ 0 ≤ tk1_2.toInt ∧ tk1_2.toInt ≤ 6 by omega)

set_option maxHeartbeats 600000 in
set_option maxRecDepth 100000 in
theorem c_X3_forgetActs (l : Launch) (D : va_G) (cI cZ cM : ClassId) (h0 : Nat) (tx : Nat) (le : Int32) (td : Nat) (dr : Nat) (nw : Nat) (ac : Nat) (fa : Int32) (an : Int32) (kp : Nat) (ks : Int32) (sp : Nat) (ss : Nat) (sy : Nat) (sc : Int32) (sd : Int64) (tr : Nat) (ia : Nat) (sz : Nat)  : Cv l yX3_forgetActs wsX3_forgetActs ({ frames := 0, cells := 0, slots := 0, locals := 0 } : Room) D cI cZ cM [.ref h0] [(h0, .inr (3, [.ref tx, .int le, .ref td, .ref dr, .ref nw, .ref ac, .int fa, .int an, .ref kp, .int ks, .ref sp, .ref ss, .ref sy, .int sc, .long sd, .ref tr, .ref ia]))] sz (fun (u : Unit) => True) (fun u => [(h0, .inr (3, [.ref tx, .int le, .ref td, .ref dr, .ref nw, .ref ac, .int 0, .int 0, .ref kp, .int ks, .ref sp, .ref ss, .ref sy, .int sc, .long sd, .ref tr, .ref ia]))]) 0 0 := by
  refine begins (l := l) (y := yX3_forgetActs) (ws := wsX3_forgetActs) (av := [.ref h0]) (Qc := fun A => va_Qv (fun (u : Unit) => True) (fun u => Wd D cI cZ cM A ((fun u => [(h0, .inr (3, [.ref tx, .int le, .ref td, .ref dr, .ref nw, .ref ac, .int 0, .int 0, .ref kp, .int ks, .ref sp, .ref ss, .ref sy, .int sc, .long sd, .ref tr, .ref ia]))]) u)) A) cX3_forgetActs 1 none (by decide) rfl (Nat.le_of_ble_eq_true rfl) ?_
  intro p e s m args below meth c R Q A ls hBd hR hQ hA hS hK hP hD hl
  obtain ⟨hx, hb, hr, hts, hown, hlocks, hin, hml⟩ := hBd
  have hl : lv_has ls 1 [(0, .ref h0)] := hl
  have iX3 : ∀ w ∈ wsX30, w ∈ wsX3_forgetActs := fun _ h => List.mem_cons_of_mem _ (List.mem_append_right _ h)
  refine lv_aload_n hx hb dX3_forgetActs_0 rfl (lv_at hl 0 rfl) ?_
  refine lv_iconst (v := 0) hx hb dX3_forgetActs_1 (by decide) ?_
  refine va_put (D := D) (ci := 3) (v := .int 0) (ty := .int) (C := RX3) (T := TX3) (N := 17) hx hb hts iX3 tyX3 tyX3_ok nmX3 hown hK hP hD hS 0 rfl rfl 6 (by decide) (hts (.fieldLink RX3 40 "PunchedTicket" "firstAct" "I") (List.mem_of_getElem? (i := 1) rfl)) (fun _ h9 => h9) rfl (by decide +kernel) rfl rfl (Nat.le_of_ble_eq_true rfl) dX3_forgetActs_2 (fun H locs hP hD hS => ?_)
  have hP : va_P D vwCl [(h0, .inr (3, [.ref tx, .int le, .ref td, .ref dr, .ref nw, .ref ac, .int 0, .int an, .ref kp, .int ks, .ref sp, .ref ss, .ref sy, .int sc, .long sd, .ref tr, .ref ia]))] H := hP
  have hD : va_D A [(h0, .inr (3, [.ref tx, .int le, .ref td, .ref dr, .ref nw, .ref ac, .int 0, .int an, .ref kp, .int ks, .ref sp, .ref ss, .ref sy, .int sc, .long sd, .ref tr, .ref ia]))] := hD
  refine lv_aload_n hx hb dX3_forgetActs_5 rfl (lv_at hl 0 rfl) ?_
  refine lv_iconst (v := 0) hx hb dX3_forgetActs_6 (by decide) ?_
  refine va_put (D := D) (ci := 3) (v := .int 0) (ty := .int) (C := RX3) (T := TX3) (N := 17) hx hb hts iX3 tyX3 tyX3_ok nmX3 hown hK hP hD hS 0 rfl rfl 7 (by decide) (hts (.fieldLink RX3 43 "PunchedTicket" "actsInRow" "I") (List.mem_of_getElem? (i := 2) rfl)) (fun _ h9 => h9) rfl (by decide +kernel) rfl rfl (Nat.le_of_ble_eq_true rfl) dX3_forgetActs_7 (fun H locs hP hD hS => ?_)
  have hP : va_P D vwCl [(h0, .inr (3, [.ref tx, .int le, .ref td, .ref dr, .ref nw, .ref ac, .int 0, .int 0, .ref kp, .int ks, .ref sp, .ref ss, .ref sy, .int sc, .long sd, .ref tr, .ref ia]))] H := hP
  have hD : va_D A [(h0, .inr (3, [.ref tx, .int le, .ref td, .ref dr, .ref nw, .ref ac, .int 0, .int 0, .ref kp, .int ks, .ref sp, .ref ss, .ref sy, .int sc, .long sd, .ref tr, .ref ia]))] := hD
  exact ret_v (post := (fun (u : Unit) => True)) (W1 := (fun u => [(h0, .inr (3, [.ref tx, .int le, .ref td, .ref dr, .ref nw, .ref ac, .int 0, .int 0, .ref kp, .int ks, .ref sp, .ref ss, .ref sy, .int sc, .long sd, .ref tr, .ref ia]))])) () hx hb hr hlocks hQ hK hP hD hS ⟨by decide, by decide⟩ dX3_forgetActs_10 trivial

set_option maxHeartbeats 600000 in
set_option maxRecDepth 100000 in
theorem c_X3_line (l : Launch) (D : va_G) (cI cZ cM : ClassId) (h0 : Nat) (tx : Nat) (le : Int32) (td : Nat) (dr : Nat) (nw : Nat) (ac : Nat) (fa : Int32) (an : Int32) (kp : Nat) (ks : Int32) (sp : Nat) (ss : Nat) (sy : Nat) (sc : Int32) (sd : Int64) (tr : Nat) (ia : Nat) (Ftx : Nat → Int32) (dpe : Int32) (dtk : Int32) (dho : Nat) (dli : Nat) (dki : Nat) (dfd : Nat) (dfr : Nat) (dto : Nat) (dse : Nat) (dhl : Nat) (dFho : Nat → Int32) (dFli : Nat → Int32) (dFki : Nat → Int32) (dFfd : Nat → Int32) (dFfr : Nat → Int32) (dFto : Nat → Int32) (dFse : Nat → Int32) (dFhl : Nat → Int32) (lpe : Int32) (ltk : Int32) (lho : Nat) (lli : Nat) (lki : Nat) (lfd : Nat) (lfr : Nat) (lto : Nat) (lse : Nat) (lhl : Nat) (lFho : Nat → Int32) (lFli : Nat → Int32) (lFki : Nat → Int32) (lFfd : Nat → Int32) (lFfr : Nat → Int32) (lFto : Nat → Int32) (lFse : Nat → Int32) (lFhl : Nat → Int32) (md : Int32) (mt : Int32) (mr : Int32) (mg : Int32) (mat : Nat) (mfd : Nat) (mhd : Nat) (mFat : Nat → Int32) (mFfd : Nat → Int32) (mFhd : Nat → Int32) (sz : Nat) (h_md : 0 ≤ md.toInt ∧ md.toInt ≤ 10) (h_mt : 0 ≤ mt.toInt ∧ mt.toInt ≤ 6) (h_lpe : 0 ≤ lpe.toInt ∧ lpe.toInt ≤ 5) (h_ltk : 0 ≤ ltk.toInt ∧ ltk.toInt ≤ 6) (h_le : 0 ≤ le.toInt ∧ le.toInt ≤ 64) (h_fa : 0 ≤ fa.toInt ∧ fa.toInt ≤ 13) (h_an : 0 ≤ an.toInt ∧ an.toInt ≤ 14) : Ci l yX3_line wsX3_line ({ frames := 3, cells := 0, slots := 0, locals := 76 } : Room) D cI cZ cM [.ref h0] [(h0, .inr (3, [.ref tx, .int le, .ref td, .ref dr, .ref nw, .ref ac, .int fa, .int an, .ref kp, .int ks, .ref sp, .ref ss, .ref sy, .int sc, .long sd, .ref tr, .ref ia])), (tx, .inl (cI, 64, .inl Ftx)), (dr, .inr (0, [.int dpe, .int dtk, .ref dho, .ref dli, .ref dki, .ref dfd, .ref dfr, .ref dto, .ref dse, .ref dhl])), (dho, .inl (cI, 5, .inl dFho)), (dli, .inl (cI, 5, .inl dFli)), (dki, .inl (cI, 5, .inl dFki)), (dfd, .inl (cI, 7, .inl dFfd)), (dfr, .inl (cI, 7, .inl dFfr)), (dto, .inl (cI, 7, .inl dFto)), (dse, .inl (cI, 7, .inl dFse)), (dhl, .inl (cI, 7, .inl dFhl)), (td, .inr (0, [.int lpe, .int ltk, .ref lho, .ref lli, .ref lki, .ref lfd, .ref lfr, .ref lto, .ref lse, .ref lhl])), (lho, .inl (cI, 5, .inl lFho)), (lli, .inl (cI, 5, .inl lFli)), (lki, .inl (cI, 5, .inl lFki)), (lfd, .inl (cI, 7, .inl lFfd)), (lfr, .inl (cI, 7, .inl lFfr)), (lto, .inl (cI, 7, .inl lFto)), (lse, .inl (cI, 7, .inl lFse)), (lhl, .inl (cI, 7, .inl lFhl)), (nw, .inr (1, [.ref td, .int md, .int mt, .int mr, .int mg, .ref mat, .ref mfd, .ref mhd])), (mat, .inl (cI, 5, .inl mFat)), (mfd, .inl (cI, 7, .inl mFfd)), (mhd, .inl (cI, 7, .inl mFhd))] sz (fun (r : Int32) (u : Int32 × Int32 × Int32 × Int32 × Int32 × (Nat → Int32) × (Nat → Int32) × (Nat → Int32) × (Nat → Int32) × (Nat → Int32) × (Nat → Int32) × (Nat → Int32) × (Nat → Int32) × Int32 × Int32 × (Nat → Int32) × (Nat → Int32) × (Nat → Int32) × (Nat → Int32) × (Nat → Int32) × (Nat → Int32) × (Nat → Int32) × (Nat → Int32) × Int32 × Int32 × Int32 × Int32 × (Nat → Int32) × (Nat → Int32) × (Nat → Int32)) => (0 ≤ u.2.2.2.1.toInt ∧ u.2.2.2.1.toInt ≤ 5 ∧ 0 ≤ u.2.2.2.2.1.toInt ∧ u.2.2.2.2.1.toInt ≤ 6) ∧ (0 ≤ u.2.2.2.2.2.2.2.2.2.2.2.2.2.1.toInt ∧ u.2.2.2.2.2.2.2.2.2.2.2.2.2.1.toInt ≤ 5) ∧ (0 ≤ u.2.2.2.2.2.2.2.2.2.2.2.2.2.2.1.toInt ∧ u.2.2.2.2.2.2.2.2.2.2.2.2.2.2.1.toInt ≤ 6) ∧ (0 ≤ u.2.2.2.2.2.2.2.2.2.2.2.2.2.2.2.2.2.2.2.2.2.2.2.1.toInt ∧ u.2.2.2.2.2.2.2.2.2.2.2.2.2.2.2.2.2.2.2.2.2.2.2.1.toInt ≤ 10) ∧ (0 ≤ u.2.2.2.2.2.2.2.2.2.2.2.2.2.2.2.2.2.2.2.2.2.2.2.2.1.toInt ∧ u.2.2.2.2.2.2.2.2.2.2.2.2.2.2.2.2.2.2.2.2.2.2.2.2.1.toInt ≤ 6) ∧ (0 ≤ u.1.toInt ∧ u.1.toInt ≤ 13) ∧ (0 ≤ u.2.1.toInt ∧ u.2.1.toInt ≤ 14)) (fun u => [(h0, .inr (3, [.ref tx, .int le, .ref td, .ref dr, .ref nw, .ref ac, .int u.1, .int u.2.1, .ref kp, .int u.2.2.1, .ref sp, .ref ss, .ref sy, .int sc, .long sd, .ref tr, .ref ia])), (tx, .inl (cI, 64, .inl Ftx)), (dr, .inr (0, [.int u.2.2.2.1, .int u.2.2.2.2.1, .ref dho, .ref dli, .ref dki, .ref dfd, .ref dfr, .ref dto, .ref dse, .ref dhl])), (dho, .inl (cI, 5, .inl u.2.2.2.2.2.1)), (dli, .inl (cI, 5, .inl u.2.2.2.2.2.2.1)), (dki, .inl (cI, 5, .inl u.2.2.2.2.2.2.2.1)), (dfd, .inl (cI, 7, .inl u.2.2.2.2.2.2.2.2.1)), (dfr, .inl (cI, 7, .inl u.2.2.2.2.2.2.2.2.2.1)), (dto, .inl (cI, 7, .inl u.2.2.2.2.2.2.2.2.2.2.1)), (dse, .inl (cI, 7, .inl u.2.2.2.2.2.2.2.2.2.2.2.1)), (dhl, .inl (cI, 7, .inl u.2.2.2.2.2.2.2.2.2.2.2.2.1)), (td, .inr (0, [.int u.2.2.2.2.2.2.2.2.2.2.2.2.2.1, .int u.2.2.2.2.2.2.2.2.2.2.2.2.2.2.1, .ref lho, .ref lli, .ref lki, .ref lfd, .ref lfr, .ref lto, .ref lse, .ref lhl])), (lho, .inl (cI, 5, .inl u.2.2.2.2.2.2.2.2.2.2.2.2.2.2.2.1)), (lli, .inl (cI, 5, .inl u.2.2.2.2.2.2.2.2.2.2.2.2.2.2.2.2.1)), (lki, .inl (cI, 5, .inl u.2.2.2.2.2.2.2.2.2.2.2.2.2.2.2.2.2.1)), (lfd, .inl (cI, 7, .inl u.2.2.2.2.2.2.2.2.2.2.2.2.2.2.2.2.2.2.1)), (lfr, .inl (cI, 7, .inl u.2.2.2.2.2.2.2.2.2.2.2.2.2.2.2.2.2.2.2.1)), (lto, .inl (cI, 7, .inl u.2.2.2.2.2.2.2.2.2.2.2.2.2.2.2.2.2.2.2.2.1)), (lse, .inl (cI, 7, .inl u.2.2.2.2.2.2.2.2.2.2.2.2.2.2.2.2.2.2.2.2.2.1)), (lhl, .inl (cI, 7, .inl u.2.2.2.2.2.2.2.2.2.2.2.2.2.2.2.2.2.2.2.2.2.2.1)), (nw, .inr (1, [.ref td, .int u.2.2.2.2.2.2.2.2.2.2.2.2.2.2.2.2.2.2.2.2.2.2.2.1, .int u.2.2.2.2.2.2.2.2.2.2.2.2.2.2.2.2.2.2.2.2.2.2.2.2.1, .int u.2.2.2.2.2.2.2.2.2.2.2.2.2.2.2.2.2.2.2.2.2.2.2.2.2.1, .int u.2.2.2.2.2.2.2.2.2.2.2.2.2.2.2.2.2.2.2.2.2.2.2.2.2.2.1, .ref mat, .ref mfd, .ref mhd])), (mat, .inl (cI, 5, .inl u.2.2.2.2.2.2.2.2.2.2.2.2.2.2.2.2.2.2.2.2.2.2.2.2.2.2.2.1)), (mfd, .inl (cI, 7, .inl u.2.2.2.2.2.2.2.2.2.2.2.2.2.2.2.2.2.2.2.2.2.2.2.2.2.2.2.2.1)), (mhd, .inl (cI, 7, .inl u.2.2.2.2.2.2.2.2.2.2.2.2.2.2.2.2.2.2.2.2.2.2.2.2.2.2.2.2.2))]) 0 0 := by
  refine begins (l := l) (y := yX3_line) (ws := wsX3_line) (av := [.ref h0]) (Qc := fun A => va_Qi (fun (r : Int32) (u : Int32 × Int32 × Int32 × Int32 × Int32 × (Nat → Int32) × (Nat → Int32) × (Nat → Int32) × (Nat → Int32) × (Nat → Int32) × (Nat → Int32) × (Nat → Int32) × (Nat → Int32) × Int32 × Int32 × (Nat → Int32) × (Nat → Int32) × (Nat → Int32) × (Nat → Int32) × (Nat → Int32) × (Nat → Int32) × (Nat → Int32) × (Nat → Int32) × Int32 × Int32 × Int32 × Int32 × (Nat → Int32) × (Nat → Int32) × (Nat → Int32)) => (0 ≤ u.2.2.2.1.toInt ∧ u.2.2.2.1.toInt ≤ 5 ∧ 0 ≤ u.2.2.2.2.1.toInt ∧ u.2.2.2.2.1.toInt ≤ 6) ∧ (0 ≤ u.2.2.2.2.2.2.2.2.2.2.2.2.2.1.toInt ∧ u.2.2.2.2.2.2.2.2.2.2.2.2.2.1.toInt ≤ 5) ∧ (0 ≤ u.2.2.2.2.2.2.2.2.2.2.2.2.2.2.1.toInt ∧ u.2.2.2.2.2.2.2.2.2.2.2.2.2.2.1.toInt ≤ 6) ∧ (0 ≤ u.2.2.2.2.2.2.2.2.2.2.2.2.2.2.2.2.2.2.2.2.2.2.2.1.toInt ∧ u.2.2.2.2.2.2.2.2.2.2.2.2.2.2.2.2.2.2.2.2.2.2.2.1.toInt ≤ 10) ∧ (0 ≤ u.2.2.2.2.2.2.2.2.2.2.2.2.2.2.2.2.2.2.2.2.2.2.2.2.1.toInt ∧ u.2.2.2.2.2.2.2.2.2.2.2.2.2.2.2.2.2.2.2.2.2.2.2.2.1.toInt ≤ 6) ∧ (0 ≤ u.1.toInt ∧ u.1.toInt ≤ 13) ∧ (0 ≤ u.2.1.toInt ∧ u.2.1.toInt ≤ 14)) (fun u => Wd D cI cZ cM A ((fun u => [(h0, .inr (3, [.ref tx, .int le, .ref td, .ref dr, .ref nw, .ref ac, .int u.1, .int u.2.1, .ref kp, .int u.2.2.1, .ref sp, .ref ss, .ref sy, .int sc, .long sd, .ref tr, .ref ia])), (tx, .inl (cI, 64, .inl Ftx)), (dr, .inr (0, [.int u.2.2.2.1, .int u.2.2.2.2.1, .ref dho, .ref dli, .ref dki, .ref dfd, .ref dfr, .ref dto, .ref dse, .ref dhl])), (dho, .inl (cI, 5, .inl u.2.2.2.2.2.1)), (dli, .inl (cI, 5, .inl u.2.2.2.2.2.2.1)), (dki, .inl (cI, 5, .inl u.2.2.2.2.2.2.2.1)), (dfd, .inl (cI, 7, .inl u.2.2.2.2.2.2.2.2.1)), (dfr, .inl (cI, 7, .inl u.2.2.2.2.2.2.2.2.2.1)), (dto, .inl (cI, 7, .inl u.2.2.2.2.2.2.2.2.2.2.1)), (dse, .inl (cI, 7, .inl u.2.2.2.2.2.2.2.2.2.2.2.1)), (dhl, .inl (cI, 7, .inl u.2.2.2.2.2.2.2.2.2.2.2.2.1)), (td, .inr (0, [.int u.2.2.2.2.2.2.2.2.2.2.2.2.2.1, .int u.2.2.2.2.2.2.2.2.2.2.2.2.2.2.1, .ref lho, .ref lli, .ref lki, .ref lfd, .ref lfr, .ref lto, .ref lse, .ref lhl])), (lho, .inl (cI, 5, .inl u.2.2.2.2.2.2.2.2.2.2.2.2.2.2.2.1)), (lli, .inl (cI, 5, .inl u.2.2.2.2.2.2.2.2.2.2.2.2.2.2.2.2.1)), (lki, .inl (cI, 5, .inl u.2.2.2.2.2.2.2.2.2.2.2.2.2.2.2.2.2.1)), (lfd, .inl (cI, 7, .inl u.2.2.2.2.2.2.2.2.2.2.2.2.2.2.2.2.2.2.1)), (lfr, .inl (cI, 7, .inl u.2.2.2.2.2.2.2.2.2.2.2.2.2.2.2.2.2.2.2.1)), (lto, .inl (cI, 7, .inl u.2.2.2.2.2.2.2.2.2.2.2.2.2.2.2.2.2.2.2.2.1)), (lse, .inl (cI, 7, .inl u.2.2.2.2.2.2.2.2.2.2.2.2.2.2.2.2.2.2.2.2.2.1)), (lhl, .inl (cI, 7, .inl u.2.2.2.2.2.2.2.2.2.2.2.2.2.2.2.2.2.2.2.2.2.2.1)), (nw, .inr (1, [.ref td, .int u.2.2.2.2.2.2.2.2.2.2.2.2.2.2.2.2.2.2.2.2.2.2.2.1, .int u.2.2.2.2.2.2.2.2.2.2.2.2.2.2.2.2.2.2.2.2.2.2.2.2.1, .int u.2.2.2.2.2.2.2.2.2.2.2.2.2.2.2.2.2.2.2.2.2.2.2.2.2.1, .int u.2.2.2.2.2.2.2.2.2.2.2.2.2.2.2.2.2.2.2.2.2.2.2.2.2.2.1, .ref mat, .ref mfd, .ref mhd])), (mat, .inl (cI, 5, .inl u.2.2.2.2.2.2.2.2.2.2.2.2.2.2.2.2.2.2.2.2.2.2.2.2.2.2.2.1)), (mfd, .inl (cI, 7, .inl u.2.2.2.2.2.2.2.2.2.2.2.2.2.2.2.2.2.2.2.2.2.2.2.2.2.2.2.2.1)), (mhd, .inl (cI, 7, .inl u.2.2.2.2.2.2.2.2.2.2.2.2.2.2.2.2.2.2.2.2.2.2.2.2.2.2.2.2.2))]) u)) A) cX3_line 1 (some .int) (by decide) rfl (Nat.le_of_ble_eq_true rfl) ?_
  intro p e s m args below meth c R Q A ls hBd hR hQ hA hS hK hP hD hl
  obtain ⟨hx, hb, hr, hts, hown, hlocks, hin, hml⟩ := hBd
  have hl : lv_has ls 1 [(0, .ref h0)] := hl
  have iX3 : ∀ w ∈ wsX30, w ∈ wsX3_line := fun _ h => List.mem_cons_of_mem _ (List.mem_append_left _ (List.mem_append_left _ (List.mem_append_right _ h)))
  have iX0 : ∀ w ∈ wsX00, w ∈ wsX3_line := fun _ h => List.mem_cons_of_mem _ (List.mem_append_left _ (List.mem_append_right _ h))
  have iX1 : ∀ w ∈ wsX10, w ∈ wsX3_line := fun _ h => List.mem_cons_of_mem _ (List.mem_append_right _ h)
  obtain ⟨h_mda, h_mdb⟩ := h_md
  obtain ⟨h_mta, h_mtb⟩ := h_mt
  obtain ⟨h_lpea, h_lpeb⟩ := h_lpe
  obtain ⟨h_ltka, h_ltkb⟩ := h_ltk
  obtain ⟨h_lea, h_leb⟩ := h_le
  obtain ⟨h_faa, h_fab⟩ := h_fa
  obtain ⟨h_ana, h_anb⟩ := h_an
  refine lv_aload_n hx hb dX3_line_0 rfl (lv_at hl 0 rfl) ?_
  refine va_get (D := D) (ci := 3) (v := .ref dr) (C := RX3) (T := TX3) (N := 17) hx hb hts iX3 hown hK hP 0 rfl rfl 3 (by decide) (hts (.fieldLink RX3 24 "PunchedTicket" "draft" "LPunchedTicket$Line;") (List.mem_of_getElem? (i := 1) rfl)) (fun _ h9 => h9) rfl dX3_line_1 ?_
  refine lv_aload_n hx hb dX3_line_4 rfl (lv_at hl 0 rfl) ?_
  refine va_get (D := D) (ci := 3) (v := .ref tx) (C := RX3) (T := TX3) (N := 17) hx hb hts iX3 hown hK hP 0 rfl rfl 0 (by decide) (hts (.fieldLink RX3 9 "PunchedTicket" "text" "[I") (List.mem_of_getElem? (i := 2) rfl)) (fun _ h9 => h9) rfl dX3_line_5 ?_
  refine lv_aload_n hx hb dX3_line_8 rfl (lv_at hl 0 rfl) ?_
  refine va_get (D := D) (ci := 3) (v := .int le) (C := RX3) (T := TX3) (N := 17) hx hb hts iX3 hown hK hP 0 rfl rfl 1 (by decide) (hts (.fieldLink RX3 13 "PunchedTicket" "letters" "I") (List.mem_of_getElem? (i := 3) rfl)) (fun _ h9 => h9) rfl dX3_line_9 ?_
  refine cV_i (As := [.ref tx, .int le]) (rest := []) ⟨hx, hb, hml, hown, hts⟩ (c_X0_read l D cI cZ cM dr tx le dpe dtk dho dli dki dfd dfr dto dse dhl dFho dFli dFki dFfd dFfr dFto dFse dFhl Ftx _ (show 0 ≤ le.toInt ∧ le.toInt ≤ 64 by omega)) (cwV 2 hts gX3_line_X0_read rfl rfl rfl (by decide +kernel) ⟨by rw [hR]; decide, by rw [hR]; decide⟩) hK hP hD hS hA [2, 3, 4, 5, 6, 7, 8, 9, 10, 1] [0, 11, 12, 13, 14, 15, 16, 17, 18, 19, 20, 21, 22, 23] rfl rfl (by decide) (by decide) (by decide +kernel) rfl 2 rfl hl.1 rfl rfl (Nat.le_of_ble_eq_true rfl) dX3_line_12 ⟨by rw [hR]; decide, by rw [hR]; decide⟩ (fun r_11 u_12 H locs hw hP hD hS => ?_)
  obtain ⟨pe1_1, tk1_2, Gho_3, Gli_4, Gki_5, Gfd_6, Gfr_7, Gto_8, Gse_9, Ghl_10⟩ := u_12
  have hP : va_P D vwCl [(h0, .inr (3, [.ref tx, .int le, .ref td, .ref dr, .ref nw, .ref ac, .int fa, .int an, .ref kp, .int ks, .ref sp, .ref ss, .ref sy, .int sc, .long sd, .ref tr, .ref ia])), (tx, .inl (cI, 64, .inl Ftx)), (dr, .inr (0, [.int pe1_1, .int tk1_2, .ref dho, .ref dli, .ref dki, .ref dfd, .ref dfr, .ref dto, .ref dse, .ref dhl])), (dho, .inl (cI, 5, .inl Gho_3)), (dli, .inl (cI, 5, .inl Gli_4)), (dki, .inl (cI, 5, .inl Gki_5)), (dfd, .inl (cI, 7, .inl Gfd_6)), (dfr, .inl (cI, 7, .inl Gfr_7)), (dto, .inl (cI, 7, .inl Gto_8)), (dse, .inl (cI, 7, .inl Gse_9)), (dhl, .inl (cI, 7, .inl Ghl_10)), (td, .inr (0, [.int lpe, .int ltk, .ref lho, .ref lli, .ref lki, .ref lfd, .ref lfr, .ref lto, .ref lse, .ref lhl])), (lho, .inl (cI, 5, .inl lFho)), (lli, .inl (cI, 5, .inl lFli)), (lki, .inl (cI, 5, .inl lFki)), (lfd, .inl (cI, 7, .inl lFfd)), (lfr, .inl (cI, 7, .inl lFfr)), (lto, .inl (cI, 7, .inl lFto)), (lse, .inl (cI, 7, .inl lFse)), (lhl, .inl (cI, 7, .inl lFhl)), (nw, .inr (1, [.ref td, .int md, .int mt, .int mr, .int mg, .ref mat, .ref mfd, .ref mhd])), (mat, .inl (cI, 5, .inl mFat)), (mfd, .inl (cI, 7, .inl mFfd)), (mhd, .inl (cI, 7, .inl mFhd))] H := hP.sub [0, 23, 14, 15, 16, 17, 18, 19, 20, 21, 22, 1, 2, 3, 4, 5, 6, 7, 8, 9, 10, 11, 12, 13] rfl
  have hD : va_D A [(h0, .inr (3, [.ref tx, .int le, .ref td, .ref dr, .ref nw, .ref ac, .int fa, .int an, .ref kp, .int ks, .ref sp, .ref ss, .ref sy, .int sc, .long sd, .ref tr, .ref ia])), (tx, .inl (cI, 64, .inl Ftx)), (dr, .inr (0, [.int pe1_1, .int tk1_2, .ref dho, .ref dli, .ref dki, .ref dfd, .ref dfr, .ref dto, .ref dse, .ref dhl])), (dho, .inl (cI, 5, .inl Gho_3)), (dli, .inl (cI, 5, .inl Gli_4)), (dki, .inl (cI, 5, .inl Gki_5)), (dfd, .inl (cI, 7, .inl Gfd_6)), (dfr, .inl (cI, 7, .inl Gfr_7)), (dto, .inl (cI, 7, .inl Gto_8)), (dse, .inl (cI, 7, .inl Gse_9)), (dhl, .inl (cI, 7, .inl Ghl_10)), (td, .inr (0, [.int lpe, .int ltk, .ref lho, .ref lli, .ref lki, .ref lfd, .ref lfr, .ref lto, .ref lse, .ref lhl])), (lho, .inl (cI, 5, .inl lFho)), (lli, .inl (cI, 5, .inl lFli)), (lki, .inl (cI, 5, .inl lFki)), (lfd, .inl (cI, 7, .inl lFfd)), (lfr, .inl (cI, 7, .inl lFfr)), (lto, .inl (cI, 7, .inl lFto)), (lse, .inl (cI, 7, .inl lFse)), (lhl, .inl (cI, 7, .inl lFhl)), (nw, .inr (1, [.ref td, .int md, .int mt, .int mr, .int mg, .ref mat, .ref mfd, .ref mhd])), (mat, .inl (cI, 5, .inl mFat)), (mfd, .inl (cI, 7, .inl mFfd)), (mhd, .inl (cI, 7, .inl mFhd))] := hD.sub [0, 23, 14, 15, 16, 17, 18, 19, 20, 21, 22, 1, 2, 3, 4, 5, 6, 7, 8, 9, 10, 11, 12, 13] (by decide +kernel) rfl
  refine W.widen (k := 0) (n := 0) (Nat.le_refl _) (Nat.le_refl _) ?_
  have hw : 0 ≤ pe1_1.toInt ∧ pe1_1.toInt ≤ 5 ∧ 0 ≤ tk1_2.toInt ∧ tk1_2.toInt ≤ 6 := hw
  have hw_13 := hw
  obtain ⟨hw_13a, hw_13b, hw_13c, hw_13d⟩ := hw_13
  refine lv_bipush (v := (-9)) hx hb dX3_line_15 (by decide) ?_
  refine lv_icmp_eq (tgt := 23) hx hb dX3_line_17 (by decide) (fun c_14 => ?_) (fun c_14 => ?_)
  · have tc_14 := b_eq rfl (show ((-9) : Int32).toInt = -9 by decide) c_14
    refine lv_aload_n hx hb dX3_line_23 rfl (lv_at hl 0 rfl) ?_
    refine va_get (D := D) (ci := 3) (v := .ref td) (C := RX3) (T := TX3) (N := 17) hx hb hts iX3 hown hK hP 0 rfl rfl 2 (by decide) (hts (.fieldLink RX3 20 "PunchedTicket" "told" "LPunchedTicket$Line;") (List.mem_of_getElem? (i := 4) rfl)) (fun _ h9 => h9) rfl dX3_line_24 ?_
    refine lv_aload_n hx hb dX3_line_27 rfl (lv_at hl 0 rfl) ?_
    refine va_get (D := D) (ci := 3) (v := .ref dr) (C := RX3) (T := TX3) (N := 17) hx hb hts iX3 hown hK hP 0 rfl rfl 3 (by decide) (hts (.fieldLink RX3 24 "PunchedTicket" "draft" "LPunchedTicket$Line;") (List.mem_of_getElem? (i := 1) rfl)) (fun _ h9 => h9) rfl dX3_line_28 ?_
    refine cV_v (As := [.ref dr]) (rest := []) ⟨hx, hb, hml, hown, hts⟩ (c_X0_copy l D cI cZ cM td dr lpe ltk lho lli lki lfd lfr lto lse lhl pe1_1 tk1_2 dho dli dki dfd dfr dto dse dhl lFho lFli lFki lFfd lFfr lFto lFse lFhl Gho_3 Gli_4 Gki_5 Gfd_6 Gfr_7 Gto_8 Gse_9 Ghl_10 _ ) (cwV 1 hts gX3_line_X0_copy rfl rfl rfl (by decide +kernel) ⟨by rw [hR]; decide, by rw [hR]; decide⟩) hK hP hD hS hA [11, 2, 12, 13, 14, 15, 16, 17, 18, 19, 3, 4, 5, 6, 7, 8, 9, 10] [0, 1, 20, 21, 22, 23] rfl rfl (by decide +kernel) (by decide) (by decide +kernel) rfl 11 rfl hl.1 rfl rfl (Nat.le_of_ble_eq_true rfl) dX3_line_31 ⟨by rw [hR]; decide, by rw [hR]; decide⟩ (fun u_24 H locs hw hP hD hS => ?_)
    obtain ⟨Gho_15, Gli_16, Gki_17, Gfd_18, Gfr_19, Gto_20, Gse_21, Ghl_22⟩ := u_24
    have hP : va_P D vwCl [(h0, .inr (3, [.ref tx, .int le, .ref td, .ref dr, .ref nw, .ref ac, .int fa, .int an, .ref kp, .int ks, .ref sp, .ref ss, .ref sy, .int sc, .long sd, .ref tr, .ref ia])), (tx, .inl (cI, 64, .inl Ftx)), (dr, .inr (0, [.int pe1_1, .int tk1_2, .ref dho, .ref dli, .ref dki, .ref dfd, .ref dfr, .ref dto, .ref dse, .ref dhl])), (dho, .inl (cI, 5, .inl Gho_3)), (dli, .inl (cI, 5, .inl Gli_4)), (dki, .inl (cI, 5, .inl Gki_5)), (dfd, .inl (cI, 7, .inl Gfd_6)), (dfr, .inl (cI, 7, .inl Gfr_7)), (dto, .inl (cI, 7, .inl Gto_8)), (dse, .inl (cI, 7, .inl Gse_9)), (dhl, .inl (cI, 7, .inl Ghl_10)), (td, .inr (0, [.int pe1_1, .int tk1_2, .ref lho, .ref lli, .ref lki, .ref lfd, .ref lfr, .ref lto, .ref lse, .ref lhl])), (lho, .inl (cI, 5, .inl Gho_15)), (lli, .inl (cI, 5, .inl Gli_16)), (lki, .inl (cI, 5, .inl Gki_17)), (lfd, .inl (cI, 7, .inl Gfd_18)), (lfr, .inl (cI, 7, .inl Gfr_19)), (lto, .inl (cI, 7, .inl Gto_20)), (lse, .inl (cI, 7, .inl Gse_21)), (lhl, .inl (cI, 7, .inl Ghl_22)), (nw, .inr (1, [.ref td, .int md, .int mt, .int mr, .int mg, .ref mat, .ref mfd, .ref mhd])), (mat, .inl (cI, 5, .inl mFat)), (mfd, .inl (cI, 7, .inl mFfd)), (mhd, .inl (cI, 7, .inl mFhd))] H := hP.sub [0, 1, 7, 16, 17, 18, 19, 20, 21, 22, 23, 6, 8, 9, 10, 11, 12, 13, 14, 15, 2, 3, 4, 5] rfl
    have hD : va_D A [(h0, .inr (3, [.ref tx, .int le, .ref td, .ref dr, .ref nw, .ref ac, .int fa, .int an, .ref kp, .int ks, .ref sp, .ref ss, .ref sy, .int sc, .long sd, .ref tr, .ref ia])), (tx, .inl (cI, 64, .inl Ftx)), (dr, .inr (0, [.int pe1_1, .int tk1_2, .ref dho, .ref dli, .ref dki, .ref dfd, .ref dfr, .ref dto, .ref dse, .ref dhl])), (dho, .inl (cI, 5, .inl Gho_3)), (dli, .inl (cI, 5, .inl Gli_4)), (dki, .inl (cI, 5, .inl Gki_5)), (dfd, .inl (cI, 7, .inl Gfd_6)), (dfr, .inl (cI, 7, .inl Gfr_7)), (dto, .inl (cI, 7, .inl Gto_8)), (dse, .inl (cI, 7, .inl Gse_9)), (dhl, .inl (cI, 7, .inl Ghl_10)), (td, .inr (0, [.int pe1_1, .int tk1_2, .ref lho, .ref lli, .ref lki, .ref lfd, .ref lfr, .ref lto, .ref lse, .ref lhl])), (lho, .inl (cI, 5, .inl Gho_15)), (lli, .inl (cI, 5, .inl Gli_16)), (lki, .inl (cI, 5, .inl Gki_17)), (lfd, .inl (cI, 7, .inl Gfd_18)), (lfr, .inl (cI, 7, .inl Gfr_19)), (lto, .inl (cI, 7, .inl Gto_20)), (lse, .inl (cI, 7, .inl Gse_21)), (lhl, .inl (cI, 7, .inl Ghl_22)), (nw, .inr (1, [.ref td, .int md, .int mt, .int mr, .int mg, .ref mat, .ref mfd, .ref mhd])), (mat, .inl (cI, 5, .inl mFat)), (mfd, .inl (cI, 7, .inl mFfd)), (mhd, .inl (cI, 7, .inl mFhd))] := hD.sub [0, 1, 7, 16, 17, 18, 19, 20, 21, 22, 23, 6, 8, 9, 10, 11, 12, 13, 14, 15, 2, 3, 4, 5] (by decide +kernel) rfl
    refine W.widen (k := 0) (n := 0) (Nat.le_refl _) (Nat.le_refl _) ?_
    refine lv_aload_n hx hb dX3_line_34 rfl (lv_at hl 0 rfl) ?_
    refine va_get (D := D) (ci := 3) (v := .ref nw) (C := RX3) (T := TX3) (N := 17) hx hb hts iX3 hown hK hP 0 rfl rfl 4 (by decide) (hts (.fieldLink RX3 32 "PunchedTicket" "now" "LPunchedTicket$Moment;") (List.mem_of_getElem? (i := 5) rfl)) (fun _ h9 => h9) rfl dX3_line_35 ?_
    refine cV_v (As := []) (rest := []) ⟨hx, hb, hml, hown, hts⟩ (c_X1_begin l D cI cZ cM nw td md mt mr mg mat mfd mhd pe1_1 tk1_2 lho lli lki lfd lfr lto lse lhl Gho_15 Gfd_18 Ghl_22 mFat mFfd mFhd _ ) (cwV 0 hts gX3_line_X1_begin rfl rfl rfl (by decide +kernel) ⟨by rw [hR]; decide, by rw [hR]; decide⟩) hK hP hD hS hA [20, 11, 12, 15, 19, 21, 22, 23] [0, 1, 2, 3, 4, 5, 6, 7, 8, 9, 10, 13, 14, 16, 17, 18] rfl rfl (by decide) (by decide +kernel) (by decide +kernel) rfl 20 rfl hl.1 rfl rfl (Nat.le_of_ble_eq_true rfl) dX3_line_38 ⟨by rw [hR]; decide, by rw [hR]; decide⟩ (fun u_29 H locs hw hP hD hS => ?_)
    obtain ⟨Gat_25, Gfd_26, Ghd_27⟩ := u_29
    have hP : va_P D vwCl [(h0, .inr (3, [.ref tx, .int le, .ref td, .ref dr, .ref nw, .ref ac, .int fa, .int an, .ref kp, .int ks, .ref sp, .ref ss, .ref sy, .int sc, .long sd, .ref tr, .ref ia])), (tx, .inl (cI, 64, .inl Ftx)), (dr, .inr (0, [.int pe1_1, .int tk1_2, .ref dho, .ref dli, .ref dki, .ref dfd, .ref dfr, .ref dto, .ref dse, .ref dhl])), (dho, .inl (cI, 5, .inl Gho_3)), (dli, .inl (cI, 5, .inl Gli_4)), (dki, .inl (cI, 5, .inl Gki_5)), (dfd, .inl (cI, 7, .inl Gfd_6)), (dfr, .inl (cI, 7, .inl Gfr_7)), (dto, .inl (cI, 7, .inl Gto_8)), (dse, .inl (cI, 7, .inl Gse_9)), (dhl, .inl (cI, 7, .inl Ghl_10)), (td, .inr (0, [.int pe1_1, .int tk1_2, .ref lho, .ref lli, .ref lki, .ref lfd, .ref lfr, .ref lto, .ref lse, .ref lhl])), (lho, .inl (cI, 5, .inl Gho_15)), (lli, .inl (cI, 5, .inl Gli_16)), (lki, .inl (cI, 5, .inl Gki_17)), (lfd, .inl (cI, 7, .inl Gfd_18)), (lfr, .inl (cI, 7, .inl Gfr_19)), (lto, .inl (cI, 7, .inl Gto_20)), (lse, .inl (cI, 7, .inl Gse_21)), (lhl, .inl (cI, 7, .inl Ghl_22)), (nw, .inr (1, [.ref td, .int 0, .int tk1_2, .int 0, .int 0, .ref mat, .ref mfd, .ref mhd])), (mat, .inl (cI, 5, .inl Gat_25)), (mfd, .inl (cI, 7, .inl Gfd_26)), (mhd, .inl (cI, 7, .inl Ghd_27))] H := hP.sub [0, 1, 2, 3, 4, 5, 6, 7, 8, 9, 10, 17, 18, 11, 12, 19, 13, 14, 15, 20, 16, 21, 22, 23] rfl
    have hD : va_D A [(h0, .inr (3, [.ref tx, .int le, .ref td, .ref dr, .ref nw, .ref ac, .int fa, .int an, .ref kp, .int ks, .ref sp, .ref ss, .ref sy, .int sc, .long sd, .ref tr, .ref ia])), (tx, .inl (cI, 64, .inl Ftx)), (dr, .inr (0, [.int pe1_1, .int tk1_2, .ref dho, .ref dli, .ref dki, .ref dfd, .ref dfr, .ref dto, .ref dse, .ref dhl])), (dho, .inl (cI, 5, .inl Gho_3)), (dli, .inl (cI, 5, .inl Gli_4)), (dki, .inl (cI, 5, .inl Gki_5)), (dfd, .inl (cI, 7, .inl Gfd_6)), (dfr, .inl (cI, 7, .inl Gfr_7)), (dto, .inl (cI, 7, .inl Gto_8)), (dse, .inl (cI, 7, .inl Gse_9)), (dhl, .inl (cI, 7, .inl Ghl_10)), (td, .inr (0, [.int pe1_1, .int tk1_2, .ref lho, .ref lli, .ref lki, .ref lfd, .ref lfr, .ref lto, .ref lse, .ref lhl])), (lho, .inl (cI, 5, .inl Gho_15)), (lli, .inl (cI, 5, .inl Gli_16)), (lki, .inl (cI, 5, .inl Gki_17)), (lfd, .inl (cI, 7, .inl Gfd_18)), (lfr, .inl (cI, 7, .inl Gfr_19)), (lto, .inl (cI, 7, .inl Gto_20)), (lse, .inl (cI, 7, .inl Gse_21)), (lhl, .inl (cI, 7, .inl Ghl_22)), (nw, .inr (1, [.ref td, .int 0, .int tk1_2, .int 0, .int 0, .ref mat, .ref mfd, .ref mhd])), (mat, .inl (cI, 5, .inl Gat_25)), (mfd, .inl (cI, 7, .inl Gfd_26)), (mhd, .inl (cI, 7, .inl Ghd_27))] := hD.sub [0, 1, 2, 3, 4, 5, 6, 7, 8, 9, 10, 17, 18, 11, 12, 19, 13, 14, 15, 20, 16, 21, 22, 23] (by decide +kernel) rfl
    refine W.widen (k := 0) (n := 0) (Nat.le_refl _) (Nat.le_refl _) ?_
    refine lv_aload_n hx hb dX3_line_41 rfl (lv_at hl 0 rfl) ?_
    refine cV_v (As := []) (rest := []) ⟨hx, hb, hml, hown, hts⟩ (c_X3_forgetActs l D cI cZ cM h0 tx le td dr nw ac fa an kp ks sp ss sy sc sd tr ia _ ) (cwV 0 hts gX3_line_X3_forgetActs rfl rfl rfl (by decide +kernel) ⟨by rw [hR]; decide, by rw [hR]; decide⟩) hK hP hD hS hA [0] [1, 2, 3, 4, 5, 6, 7, 8, 9, 10, 11, 12, 13, 14, 15, 16, 17, 18, 19, 20, 21, 22, 23] rfl rfl (by decide) (by decide +kernel) (by decide +kernel) rfl 0 rfl hl.1 rfl rfl (Nat.le_of_ble_eq_true rfl) dX3_line_42 ⟨by rw [hR]; decide, by rw [hR]; decide⟩ (fun u_31 H locs hw hP hD hS => ?_)
    have hP : va_P D vwCl [(h0, .inr (3, [.ref tx, .int le, .ref td, .ref dr, .ref nw, .ref ac, .int 0, .int 0, .ref kp, .int ks, .ref sp, .ref ss, .ref sy, .int sc, .long sd, .ref tr, .ref ia])), (tx, .inl (cI, 64, .inl Ftx)), (dr, .inr (0, [.int pe1_1, .int tk1_2, .ref dho, .ref dli, .ref dki, .ref dfd, .ref dfr, .ref dto, .ref dse, .ref dhl])), (dho, .inl (cI, 5, .inl Gho_3)), (dli, .inl (cI, 5, .inl Gli_4)), (dki, .inl (cI, 5, .inl Gki_5)), (dfd, .inl (cI, 7, .inl Gfd_6)), (dfr, .inl (cI, 7, .inl Gfr_7)), (dto, .inl (cI, 7, .inl Gto_8)), (dse, .inl (cI, 7, .inl Gse_9)), (dhl, .inl (cI, 7, .inl Ghl_10)), (td, .inr (0, [.int pe1_1, .int tk1_2, .ref lho, .ref lli, .ref lki, .ref lfd, .ref lfr, .ref lto, .ref lse, .ref lhl])), (lho, .inl (cI, 5, .inl Gho_15)), (lli, .inl (cI, 5, .inl Gli_16)), (lki, .inl (cI, 5, .inl Gki_17)), (lfd, .inl (cI, 7, .inl Gfd_18)), (lfr, .inl (cI, 7, .inl Gfr_19)), (lto, .inl (cI, 7, .inl Gto_20)), (lse, .inl (cI, 7, .inl Gse_21)), (lhl, .inl (cI, 7, .inl Ghl_22)), (nw, .inr (1, [.ref td, .int 0, .int tk1_2, .int 0, .int 0, .ref mat, .ref mfd, .ref mhd])), (mat, .inl (cI, 5, .inl Gat_25)), (mfd, .inl (cI, 7, .inl Gfd_26)), (mhd, .inl (cI, 7, .inl Ghd_27))] H := hP.sub [23, 0, 1, 2, 3, 4, 5, 6, 7, 8, 9, 10, 11, 12, 13, 14, 15, 16, 17, 18, 19, 20, 21, 22] rfl
    have hD : va_D A [(h0, .inr (3, [.ref tx, .int le, .ref td, .ref dr, .ref nw, .ref ac, .int 0, .int 0, .ref kp, .int ks, .ref sp, .ref ss, .ref sy, .int sc, .long sd, .ref tr, .ref ia])), (tx, .inl (cI, 64, .inl Ftx)), (dr, .inr (0, [.int pe1_1, .int tk1_2, .ref dho, .ref dli, .ref dki, .ref dfd, .ref dfr, .ref dto, .ref dse, .ref dhl])), (dho, .inl (cI, 5, .inl Gho_3)), (dli, .inl (cI, 5, .inl Gli_4)), (dki, .inl (cI, 5, .inl Gki_5)), (dfd, .inl (cI, 7, .inl Gfd_6)), (dfr, .inl (cI, 7, .inl Gfr_7)), (dto, .inl (cI, 7, .inl Gto_8)), (dse, .inl (cI, 7, .inl Gse_9)), (dhl, .inl (cI, 7, .inl Ghl_10)), (td, .inr (0, [.int pe1_1, .int tk1_2, .ref lho, .ref lli, .ref lki, .ref lfd, .ref lfr, .ref lto, .ref lse, .ref lhl])), (lho, .inl (cI, 5, .inl Gho_15)), (lli, .inl (cI, 5, .inl Gli_16)), (lki, .inl (cI, 5, .inl Gki_17)), (lfd, .inl (cI, 7, .inl Gfd_18)), (lfr, .inl (cI, 7, .inl Gfr_19)), (lto, .inl (cI, 7, .inl Gto_20)), (lse, .inl (cI, 7, .inl Gse_21)), (lhl, .inl (cI, 7, .inl Ghl_22)), (nw, .inr (1, [.ref td, .int 0, .int tk1_2, .int 0, .int 0, .ref mat, .ref mfd, .ref mhd])), (mat, .inl (cI, 5, .inl Gat_25)), (mfd, .inl (cI, 7, .inl Gfd_26)), (mhd, .inl (cI, 7, .inl Ghd_27))] := hD.sub [23, 0, 1, 2, 3, 4, 5, 6, 7, 8, 9, 10, 11, 12, 13, 14, 15, 16, 17, 18, 19, 20, 21, 22] (by decide +kernel) rfl
    refine W.widen (k := 0) (n := 0) (Nat.le_refl _) (Nat.le_refl _) ?_
    refine lv_aload_n hx hb dX3_line_45 rfl (lv_at hl 0 rfl) ?_
    refine lv_iconst (v := 0) hx hb dX3_line_46 (by decide) ?_
    refine va_put (D := D) (ci := 3) (v := .int 0) (ty := .int) (C := RX3) (T := TX3) (N := 17) hx hb hts iX3 tyX3 tyX3_ok nmX3 hown hK hP hD hS 0 rfl rfl 9 (by decide) (hts (.fieldLink RX3 49 "PunchedTicket" "keptSlots" "I") (List.mem_of_getElem? (i := 6) rfl)) (fun _ h9 => h9) rfl (by decide +kernel) rfl rfl (Nat.le_of_ble_eq_true rfl) dX3_line_47 (fun H locs hP hD hS => ?_)
    have hP : va_P D vwCl [(h0, .inr (3, [.ref tx, .int le, .ref td, .ref dr, .ref nw, .ref ac, .int 0, .int 0, .ref kp, .int 0, .ref sp, .ref ss, .ref sy, .int sc, .long sd, .ref tr, .ref ia])), (tx, .inl (cI, 64, .inl Ftx)), (dr, .inr (0, [.int pe1_1, .int tk1_2, .ref dho, .ref dli, .ref dki, .ref dfd, .ref dfr, .ref dto, .ref dse, .ref dhl])), (dho, .inl (cI, 5, .inl Gho_3)), (dli, .inl (cI, 5, .inl Gli_4)), (dki, .inl (cI, 5, .inl Gki_5)), (dfd, .inl (cI, 7, .inl Gfd_6)), (dfr, .inl (cI, 7, .inl Gfr_7)), (dto, .inl (cI, 7, .inl Gto_8)), (dse, .inl (cI, 7, .inl Gse_9)), (dhl, .inl (cI, 7, .inl Ghl_10)), (td, .inr (0, [.int pe1_1, .int tk1_2, .ref lho, .ref lli, .ref lki, .ref lfd, .ref lfr, .ref lto, .ref lse, .ref lhl])), (lho, .inl (cI, 5, .inl Gho_15)), (lli, .inl (cI, 5, .inl Gli_16)), (lki, .inl (cI, 5, .inl Gki_17)), (lfd, .inl (cI, 7, .inl Gfd_18)), (lfr, .inl (cI, 7, .inl Gfr_19)), (lto, .inl (cI, 7, .inl Gto_20)), (lse, .inl (cI, 7, .inl Gse_21)), (lhl, .inl (cI, 7, .inl Ghl_22)), (nw, .inr (1, [.ref td, .int 0, .int tk1_2, .int 0, .int 0, .ref mat, .ref mfd, .ref mhd])), (mat, .inl (cI, 5, .inl Gat_25)), (mfd, .inl (cI, 7, .inl Gfd_26)), (mhd, .inl (cI, 7, .inl Ghd_27))] H := hP
    have hD : va_D A [(h0, .inr (3, [.ref tx, .int le, .ref td, .ref dr, .ref nw, .ref ac, .int 0, .int 0, .ref kp, .int 0, .ref sp, .ref ss, .ref sy, .int sc, .long sd, .ref tr, .ref ia])), (tx, .inl (cI, 64, .inl Ftx)), (dr, .inr (0, [.int pe1_1, .int tk1_2, .ref dho, .ref dli, .ref dki, .ref dfd, .ref dfr, .ref dto, .ref dse, .ref dhl])), (dho, .inl (cI, 5, .inl Gho_3)), (dli, .inl (cI, 5, .inl Gli_4)), (dki, .inl (cI, 5, .inl Gki_5)), (dfd, .inl (cI, 7, .inl Gfd_6)), (dfr, .inl (cI, 7, .inl Gfr_7)), (dto, .inl (cI, 7, .inl Gto_8)), (dse, .inl (cI, 7, .inl Gse_9)), (dhl, .inl (cI, 7, .inl Ghl_10)), (td, .inr (0, [.int pe1_1, .int tk1_2, .ref lho, .ref lli, .ref lki, .ref lfd, .ref lfr, .ref lto, .ref lse, .ref lhl])), (lho, .inl (cI, 5, .inl Gho_15)), (lli, .inl (cI, 5, .inl Gli_16)), (lki, .inl (cI, 5, .inl Gki_17)), (lfd, .inl (cI, 7, .inl Gfd_18)), (lfr, .inl (cI, 7, .inl Gfr_19)), (lto, .inl (cI, 7, .inl Gto_20)), (lse, .inl (cI, 7, .inl Gse_21)), (lhl, .inl (cI, 7, .inl Ghl_22)), (nw, .inr (1, [.ref td, .int 0, .int tk1_2, .int 0, .int 0, .ref mat, .ref mfd, .ref mhd])), (mat, .inl (cI, 5, .inl Gat_25)), (mfd, .inl (cI, 7, .inl Gfd_26)), (mhd, .inl (cI, 7, .inl Ghd_27))] := hD
    refine lv_bipush (v := 10) hx hb dX3_line_50 (by decide) ?_
    refine lv_aload_n hx hb dX3_line_52 rfl (lv_at hl 0 rfl) ?_
    refine va_get (D := D) (ci := 3) (v := .ref td) (C := RX3) (T := TX3) (N := 17) hx hb hts iX3 hown hK hP 0 rfl rfl 2 (by decide) (hts (.fieldLink RX3 20 "PunchedTicket" "told" "LPunchedTicket$Line;") (List.mem_of_getElem? (i := 4) rfl)) (fun _ h9 => h9) rfl dX3_line_53 ?_
    refine va_get (D := D) (ci := 0) (v := .int pe1_1) (C := RX0) (T := TX0) (N := 10) hx hb hts iX0 hown hK hP 11 rfl rfl 0 (by decide) (hts (.fieldLink RX3 91 "PunchedTicket$Line" "people" "I") (List.mem_of_getElem? (i := 7) rfl)) (fun _ h9 => h9) rfl dX3_line_56 ?_
    refine lv_imul hx hb dX3_line_59 ?_
    refine lv_topi (fun v_32 ev_32 => ?_)
    have tv_32 : v_32.toInt = (10 : Int) * pe1_1.toInt := by rw [ev_32]; exact ti_mul (x := 10) (y := pe1_1) (show -2147483648 ≤ (10 : Int) * pe1_1.toInt by omega) (show (10 : Int) * pe1_1.toInt < 2147483648 by omega)
    refine lv_aload_n hx hb dX3_line_60 rfl (lv_at hl 0 rfl) ?_
    refine va_get (D := D) (ci := 3) (v := .ref td) (C := RX3) (T := TX3) (N := 17) hx hb hts iX3 hown hK hP 0 rfl rfl 2 (by decide) (hts (.fieldLink RX3 20 "PunchedTicket" "told" "LPunchedTicket$Line;") (List.mem_of_getElem? (i := 4) rfl)) (fun _ h9 => h9) rfl dX3_line_61 ?_
    refine va_get (D := D) (ci := 0) (v := .int tk1_2) (C := RX0) (T := TX0) (N := 10) hx hb hts iX0 hown hK hP 11 rfl rfl 1 (by decide) (hts (.fieldLink RX3 94 "PunchedTicket$Line" "tickets" "I") (List.mem_of_getElem? (i := 8) rfl)) (fun _ h9 => h9) rfl dX3_line_64 ?_
    refine lv_iadd hx hb dX3_line_67 ?_
    refine lv_topi (fun v_33 ev_33 => ?_)
    have tv_33 : v_33.toInt = v_32.toInt + tk1_2.toInt := by rw [ev_33]; exact ti_add (x := v_32) (y := tk1_2) (show -2147483648 ≤ v_32.toInt + tk1_2.toInt by omega) (show v_32.toInt + tk1_2.toInt < 2147483648 by omega)
    exact ret_i (post := (fun (r : Int32) (u : Int32 × Int32 × Int32 × Int32 × Int32 × (Nat → Int32) × (Nat → Int32) × (Nat → Int32) × (Nat → Int32) × (Nat → Int32) × (Nat → Int32) × (Nat → Int32) × (Nat → Int32) × Int32 × Int32 × (Nat → Int32) × (Nat → Int32) × (Nat → Int32) × (Nat → Int32) × (Nat → Int32) × (Nat → Int32) × (Nat → Int32) × (Nat → Int32) × Int32 × Int32 × Int32 × Int32 × (Nat → Int32) × (Nat → Int32) × (Nat → Int32)) => (0 ≤ u.2.2.2.1.toInt ∧ u.2.2.2.1.toInt ≤ 5 ∧ 0 ≤ u.2.2.2.2.1.toInt ∧ u.2.2.2.2.1.toInt ≤ 6) ∧ (0 ≤ u.2.2.2.2.2.2.2.2.2.2.2.2.2.1.toInt ∧ u.2.2.2.2.2.2.2.2.2.2.2.2.2.1.toInt ≤ 5) ∧ (0 ≤ u.2.2.2.2.2.2.2.2.2.2.2.2.2.2.1.toInt ∧ u.2.2.2.2.2.2.2.2.2.2.2.2.2.2.1.toInt ≤ 6) ∧ (0 ≤ u.2.2.2.2.2.2.2.2.2.2.2.2.2.2.2.2.2.2.2.2.2.2.2.1.toInt ∧ u.2.2.2.2.2.2.2.2.2.2.2.2.2.2.2.2.2.2.2.2.2.2.2.1.toInt ≤ 10) ∧ (0 ≤ u.2.2.2.2.2.2.2.2.2.2.2.2.2.2.2.2.2.2.2.2.2.2.2.2.1.toInt ∧ u.2.2.2.2.2.2.2.2.2.2.2.2.2.2.2.2.2.2.2.2.2.2.2.2.1.toInt ≤ 6) ∧ (0 ≤ u.1.toInt ∧ u.1.toInt ≤ 13) ∧ (0 ≤ u.2.1.toInt ∧ u.2.1.toInt ≤ 14))) (W1 := (fun u => [(h0, .inr (3, [.ref tx, .int le, .ref td, .ref dr, .ref nw, .ref ac, .int u.1, .int u.2.1, .ref kp, .int u.2.2.1, .ref sp, .ref ss, .ref sy, .int sc, .long sd, .ref tr, .ref ia])), (tx, .inl (cI, 64, .inl Ftx)), (dr, .inr (0, [.int u.2.2.2.1, .int u.2.2.2.2.1, .ref dho, .ref dli, .ref dki, .ref dfd, .ref dfr, .ref dto, .ref dse, .ref dhl])), (dho, .inl (cI, 5, .inl u.2.2.2.2.2.1)), (dli, .inl (cI, 5, .inl u.2.2.2.2.2.2.1)), (dki, .inl (cI, 5, .inl u.2.2.2.2.2.2.2.1)), (dfd, .inl (cI, 7, .inl u.2.2.2.2.2.2.2.2.1)), (dfr, .inl (cI, 7, .inl u.2.2.2.2.2.2.2.2.2.1)), (dto, .inl (cI, 7, .inl u.2.2.2.2.2.2.2.2.2.2.1)), (dse, .inl (cI, 7, .inl u.2.2.2.2.2.2.2.2.2.2.2.1)), (dhl, .inl (cI, 7, .inl u.2.2.2.2.2.2.2.2.2.2.2.2.1)), (td, .inr (0, [.int u.2.2.2.2.2.2.2.2.2.2.2.2.2.1, .int u.2.2.2.2.2.2.2.2.2.2.2.2.2.2.1, .ref lho, .ref lli, .ref lki, .ref lfd, .ref lfr, .ref lto, .ref lse, .ref lhl])), (lho, .inl (cI, 5, .inl u.2.2.2.2.2.2.2.2.2.2.2.2.2.2.2.1)), (lli, .inl (cI, 5, .inl u.2.2.2.2.2.2.2.2.2.2.2.2.2.2.2.2.1)), (lki, .inl (cI, 5, .inl u.2.2.2.2.2.2.2.2.2.2.2.2.2.2.2.2.2.1)), (lfd, .inl (cI, 7, .inl u.2.2.2.2.2.2.2.2.2.2.2.2.2.2.2.2.2.2.1)), (lfr, .inl (cI, 7, .inl u.2.2.2.2.2.2.2.2.2.2.2.2.2.2.2.2.2.2.2.1)), (lto, .inl (cI, 7, .inl u.2.2.2.2.2.2.2.2.2.2.2.2.2.2.2.2.2.2.2.2.1)), (lse, .inl (cI, 7, .inl u.2.2.2.2.2.2.2.2.2.2.2.2.2.2.2.2.2.2.2.2.2.1)), (lhl, .inl (cI, 7, .inl u.2.2.2.2.2.2.2.2.2.2.2.2.2.2.2.2.2.2.2.2.2.2.1)), (nw, .inr (1, [.ref td, .int u.2.2.2.2.2.2.2.2.2.2.2.2.2.2.2.2.2.2.2.2.2.2.2.1, .int u.2.2.2.2.2.2.2.2.2.2.2.2.2.2.2.2.2.2.2.2.2.2.2.2.1, .int u.2.2.2.2.2.2.2.2.2.2.2.2.2.2.2.2.2.2.2.2.2.2.2.2.2.1, .int u.2.2.2.2.2.2.2.2.2.2.2.2.2.2.2.2.2.2.2.2.2.2.2.2.2.2.1, .ref mat, .ref mfd, .ref mhd])), (mat, .inl (cI, 5, .inl u.2.2.2.2.2.2.2.2.2.2.2.2.2.2.2.2.2.2.2.2.2.2.2.2.2.2.2.1)), (mfd, .inl (cI, 7, .inl u.2.2.2.2.2.2.2.2.2.2.2.2.2.2.2.2.2.2.2.2.2.2.2.2.2.2.2.2.1)), (mhd, .inl (cI, 7, .inl u.2.2.2.2.2.2.2.2.2.2.2.2.2.2.2.2.2.2.2.2.2.2.2.2.2.2.2.2.2))])) (0, 0, 0, pe1_1, tk1_2, Gho_3, Gli_4, Gki_5, Gfd_6, Gfr_7, Gto_8, Gse_9, Ghl_10, pe1_1, tk1_2, Gho_15, Gli_16, Gki_17, Gfd_18, Gfr_19, Gto_20, Gse_21, Ghl_22, 0, tk1_2, 0, 0, Gat_25, Gfd_26, Ghd_27) hx hb hr hlocks rfl hQ hK hP hD hS ⟨by decide, by decide⟩ dX3_line_68 (show (0 ≤ pe1_1.toInt ∧ pe1_1.toInt ≤ 5 ∧ 0 ≤ tk1_2.toInt ∧ tk1_2.toInt ≤ 6) ∧ (0 ≤ pe1_1.toInt ∧ pe1_1.toInt ≤ 5) ∧ (0 ≤ tk1_2.toInt ∧ tk1_2.toInt ≤ 6) ∧ (0 ≤ (0 : Int) ∧ (0 : Int) ≤ 10) ∧ (0 ≤ tk1_2.toInt ∧ tk1_2.toInt ≤ 6) ∧ (0 ≤ (0 : Int) ∧ (0 : Int) ≤ 13) ∧ (0 ≤ (0 : Int) ∧ (0 : Int) ≤ 14) by omega)
  · have tc_14 := b_ne rfl (show ((-9) : Int32).toInt = -9 by decide) c_14
    refine lv_bipush (v := (-3)) hx hb dX3_line_20 (by decide) ?_
    exact ret_i (post := (fun (r : Int32) (u : Int32 × Int32 × Int32 × Int32 × Int32 × (Nat → Int32) × (Nat → Int32) × (Nat → Int32) × (Nat → Int32) × (Nat → Int32) × (Nat → Int32) × (Nat → Int32) × (Nat → Int32) × Int32 × Int32 × (Nat → Int32) × (Nat → Int32) × (Nat → Int32) × (Nat → Int32) × (Nat → Int32) × (Nat → Int32) × (Nat → Int32) × (Nat → Int32) × Int32 × Int32 × Int32 × Int32 × (Nat → Int32) × (Nat → Int32) × (Nat → Int32)) => (0 ≤ u.2.2.2.1.toInt ∧ u.2.2.2.1.toInt ≤ 5 ∧ 0 ≤ u.2.2.2.2.1.toInt ∧ u.2.2.2.2.1.toInt ≤ 6) ∧ (0 ≤ u.2.2.2.2.2.2.2.2.2.2.2.2.2.1.toInt ∧ u.2.2.2.2.2.2.2.2.2.2.2.2.2.1.toInt ≤ 5) ∧ (0 ≤ u.2.2.2.2.2.2.2.2.2.2.2.2.2.2.1.toInt ∧ u.2.2.2.2.2.2.2.2.2.2.2.2.2.2.1.toInt ≤ 6) ∧ (0 ≤ u.2.2.2.2.2.2.2.2.2.2.2.2.2.2.2.2.2.2.2.2.2.2.2.1.toInt ∧ u.2.2.2.2.2.2.2.2.2.2.2.2.2.2.2.2.2.2.2.2.2.2.2.1.toInt ≤ 10) ∧ (0 ≤ u.2.2.2.2.2.2.2.2.2.2.2.2.2.2.2.2.2.2.2.2.2.2.2.2.1.toInt ∧ u.2.2.2.2.2.2.2.2.2.2.2.2.2.2.2.2.2.2.2.2.2.2.2.2.1.toInt ≤ 6) ∧ (0 ≤ u.1.toInt ∧ u.1.toInt ≤ 13) ∧ (0 ≤ u.2.1.toInt ∧ u.2.1.toInt ≤ 14))) (W1 := (fun u => [(h0, .inr (3, [.ref tx, .int le, .ref td, .ref dr, .ref nw, .ref ac, .int u.1, .int u.2.1, .ref kp, .int u.2.2.1, .ref sp, .ref ss, .ref sy, .int sc, .long sd, .ref tr, .ref ia])), (tx, .inl (cI, 64, .inl Ftx)), (dr, .inr (0, [.int u.2.2.2.1, .int u.2.2.2.2.1, .ref dho, .ref dli, .ref dki, .ref dfd, .ref dfr, .ref dto, .ref dse, .ref dhl])), (dho, .inl (cI, 5, .inl u.2.2.2.2.2.1)), (dli, .inl (cI, 5, .inl u.2.2.2.2.2.2.1)), (dki, .inl (cI, 5, .inl u.2.2.2.2.2.2.2.1)), (dfd, .inl (cI, 7, .inl u.2.2.2.2.2.2.2.2.1)), (dfr, .inl (cI, 7, .inl u.2.2.2.2.2.2.2.2.2.1)), (dto, .inl (cI, 7, .inl u.2.2.2.2.2.2.2.2.2.2.1)), (dse, .inl (cI, 7, .inl u.2.2.2.2.2.2.2.2.2.2.2.1)), (dhl, .inl (cI, 7, .inl u.2.2.2.2.2.2.2.2.2.2.2.2.1)), (td, .inr (0, [.int u.2.2.2.2.2.2.2.2.2.2.2.2.2.1, .int u.2.2.2.2.2.2.2.2.2.2.2.2.2.2.1, .ref lho, .ref lli, .ref lki, .ref lfd, .ref lfr, .ref lto, .ref lse, .ref lhl])), (lho, .inl (cI, 5, .inl u.2.2.2.2.2.2.2.2.2.2.2.2.2.2.2.1)), (lli, .inl (cI, 5, .inl u.2.2.2.2.2.2.2.2.2.2.2.2.2.2.2.2.1)), (lki, .inl (cI, 5, .inl u.2.2.2.2.2.2.2.2.2.2.2.2.2.2.2.2.2.1)), (lfd, .inl (cI, 7, .inl u.2.2.2.2.2.2.2.2.2.2.2.2.2.2.2.2.2.2.1)), (lfr, .inl (cI, 7, .inl u.2.2.2.2.2.2.2.2.2.2.2.2.2.2.2.2.2.2.2.1)), (lto, .inl (cI, 7, .inl u.2.2.2.2.2.2.2.2.2.2.2.2.2.2.2.2.2.2.2.2.1)), (lse, .inl (cI, 7, .inl u.2.2.2.2.2.2.2.2.2.2.2.2.2.2.2.2.2.2.2.2.2.1)), (lhl, .inl (cI, 7, .inl u.2.2.2.2.2.2.2.2.2.2.2.2.2.2.2.2.2.2.2.2.2.2.1)), (nw, .inr (1, [.ref td, .int u.2.2.2.2.2.2.2.2.2.2.2.2.2.2.2.2.2.2.2.2.2.2.2.1, .int u.2.2.2.2.2.2.2.2.2.2.2.2.2.2.2.2.2.2.2.2.2.2.2.2.1, .int u.2.2.2.2.2.2.2.2.2.2.2.2.2.2.2.2.2.2.2.2.2.2.2.2.2.1, .int u.2.2.2.2.2.2.2.2.2.2.2.2.2.2.2.2.2.2.2.2.2.2.2.2.2.2.1, .ref mat, .ref mfd, .ref mhd])), (mat, .inl (cI, 5, .inl u.2.2.2.2.2.2.2.2.2.2.2.2.2.2.2.2.2.2.2.2.2.2.2.2.2.2.2.1)), (mfd, .inl (cI, 7, .inl u.2.2.2.2.2.2.2.2.2.2.2.2.2.2.2.2.2.2.2.2.2.2.2.2.2.2.2.2.1)), (mhd, .inl (cI, 7, .inl u.2.2.2.2.2.2.2.2.2.2.2.2.2.2.2.2.2.2.2.2.2.2.2.2.2.2.2.2.2))])) (fa, an, ks, pe1_1, tk1_2, Gho_3, Gli_4, Gki_5, Gfd_6, Gfr_7, Gto_8, Gse_9, Ghl_10, lpe, ltk, lFho, lFli, lFki, lFfd, lFfr, lFto, lFse, lFhl, md, mt, mr, mg, mFat, mFfd, mFhd) hx hb hr hlocks rfl hQ hK hP hD hS ⟨by decide, by decide⟩ dX3_line_22 (show (0 ≤ pe1_1.toInt ∧ pe1_1.toInt ≤ 5 ∧ 0 ≤ tk1_2.toInt ∧ tk1_2.toInt ≤ 6) ∧ (0 ≤ lpe.toInt ∧ lpe.toInt ≤ 5) ∧ (0 ≤ ltk.toInt ∧ ltk.toInt ≤ 6) ∧ (0 ≤ md.toInt ∧ md.toInt ≤ 10) ∧ (0 ≤ mt.toInt ∧ mt.toInt ≤ 6) ∧ (0 ≤ fa.toInt ∧ fa.toInt ≤ 13) ∧ (0 ≤ an.toInt ∧ an.toInt ≤ 14) by omega)

def stepS (x : Int64) : Int64 := x * 6364136223846793005 + 1442695040888963407
def itS : Nat → Int64 → Int64
  | 0, x => x
  | n + 1, x => stepS (itS n x)

set_option maxHeartbeats 600000 in
set_option maxRecDepth 100000 in
theorem c_X3_years (l : Launch) (D : va_G) (cI cZ cM : ClassId) (h0 : Nat) (n : Int32) (tx : Nat) (le : Int32) (td : Nat) (dr : Nat) (nw : Nat) (ac : Nat) (fa : Int32) (an : Int32) (kp : Nat) (ks : Int32) (sp : Nat) (ss : Nat) (sy : Nat) (sc : Int32) (sd : Int64) (tr : Nat) (ia : Nat) (lpe : Int32) (ltk : Int32) (lho : Nat) (lli : Nat) (lki : Nat) (lfd : Nat) (lfr : Nat) (lto : Nat) (lse : Nat) (lhl : Nat) (lFto : Nat → Int32) (lFfr : Nat → Int32) (lFki : Nat → Int32) (lFli : Nat → Int32) (md : Int32) (mt : Int32) (mr : Int32) (mg : Int32) (mat : Nat) (mfd : Nat) (mhd : Nat) (mFat : Nat → Int32) (mFfd : Nat → Int32) (mFhd : Nat → Int32) (mo : Nat) (rd : Nat) (zd : Int32) (zt : Int32) (zr : Int32) (zg : Int32) (zat : Nat) (zfd : Nat) (zhd : Nat) (zFat : Nat → Int32) (zFfd : Nat → Int32) (zFhd : Nat → Int32) (Frd : Nat → Int32) (sz : Nat) (h_md : 0 ≤ md.toInt ∧ md.toInt ≤ 10) (h_mt : 0 ≤ mt.toInt ∧ mt.toInt ≤ 6) (h_lpe : 0 ≤ lpe.toInt ∧ lpe.toInt ≤ 5) : Ci l yX3_years wsX3_years ({ frames := 5, cells := 0, slots := 0, locals := 113 } : Room) D cI cZ cM [.ref h0, .int n] [(h0, .inr (3, [.ref tx, .int le, .ref td, .ref dr, .ref nw, .ref ac, .int fa, .int an, .ref kp, .int ks, .ref sp, .ref ss, .ref sy, .int sc, .long sd, .ref tr, .ref ia])), (td, .inr (0, [.int lpe, .int ltk, .ref lho, .ref lli, .ref lki, .ref lfd, .ref lfr, .ref lto, .ref lse, .ref lhl])), (lto, .inl (cI, 7, .inl lFto)), (lfr, .inl (cI, 7, .inl lFfr)), (lki, .inl (cI, 5, .inl lFki)), (lli, .inl (cI, 5, .inl lFli)), (nw, .inr (1, [.ref td, .int md, .int mt, .int mr, .int mg, .ref mat, .ref mfd, .ref mhd])), (mat, .inl (cI, 5, .inl mFat)), (mfd, .inl (cI, 7, .inl mFfd)), (mhd, .inl (cI, 7, .inl mFhd)), (tr, .inr (2, [.ref td, .ref mo, .ref rd])), (mo, .inr (1, [.ref td, .int zd, .int zt, .int zr, .int zg, .ref zat, .ref zfd, .ref zhd])), (zat, .inl (cI, 5, .inl zFat)), (zfd, .inl (cI, 7, .inl zFfd)), (zhd, .inl (cI, 7, .inl zFhd)), (rd, .inl (cI, 5, .inl Frd))] sz (fun (r : Int32) (u : Int64 × Int32 × Int32 × Int32 × Int32 × (Nat → Int32) × (Nat → Int32) × (Nat → Int32) × (Nat → Int32)) => ((n.toInt < 1 ∨ 30 < n.toInt) ∧ u.1 = sd) ∨ (1 ≤ n.toInt ∧ n.toInt ≤ 30 ∧ u.1 = itS n.toInt.toNat sd)) (fun u => [(h0, .inr (3, [.ref tx, .int le, .ref td, .ref dr, .ref nw, .ref ac, .int fa, .int an, .ref kp, .int ks, .ref sp, .ref ss, .ref sy, .int sc, .long u.1, .ref tr, .ref ia])), (td, .inr (0, [.int lpe, .int ltk, .ref lho, .ref lli, .ref lki, .ref lfd, .ref lfr, .ref lto, .ref lse, .ref lhl])), (lto, .inl (cI, 7, .inl lFto)), (lfr, .inl (cI, 7, .inl lFfr)), (lki, .inl (cI, 5, .inl lFki)), (lli, .inl (cI, 5, .inl lFli)), (nw, .inr (1, [.ref td, .int md, .int mt, .int mr, .int mg, .ref mat, .ref mfd, .ref mhd])), (mat, .inl (cI, 5, .inl mFat)), (mfd, .inl (cI, 7, .inl mFfd)), (mhd, .inl (cI, 7, .inl mFhd)), (tr, .inr (2, [.ref td, .ref mo, .ref rd])), (mo, .inr (1, [.ref td, .int u.2.1, .int u.2.2.1, .int u.2.2.2.1, .int u.2.2.2.2.1, .ref zat, .ref zfd, .ref zhd])), (zat, .inl (cI, 5, .inl u.2.2.2.2.2.1)), (zfd, .inl (cI, 7, .inl u.2.2.2.2.2.2.1)), (zhd, .inl (cI, 7, .inl u.2.2.2.2.2.2.2.1)), (rd, .inl (cI, 5, .inl u.2.2.2.2.2.2.2.2))]) 0 0 := by
  refine begins (l := l) (y := yX3_years) (ws := wsX3_years) (av := [.ref h0, .int n]) (Qc := fun A => va_Qi (fun (r : Int32) (u : Int64 × Int32 × Int32 × Int32 × Int32 × (Nat → Int32) × (Nat → Int32) × (Nat → Int32) × (Nat → Int32)) => ((n.toInt < 1 ∨ 30 < n.toInt) ∧ u.1 = sd) ∨ (1 ≤ n.toInt ∧ n.toInt ≤ 30 ∧ u.1 = itS n.toInt.toNat sd)) (fun u => Wd D cI cZ cM A ((fun u => [(h0, .inr (3, [.ref tx, .int le, .ref td, .ref dr, .ref nw, .ref ac, .int fa, .int an, .ref kp, .int ks, .ref sp, .ref ss, .ref sy, .int sc, .long u.1, .ref tr, .ref ia])), (td, .inr (0, [.int lpe, .int ltk, .ref lho, .ref lli, .ref lki, .ref lfd, .ref lfr, .ref lto, .ref lse, .ref lhl])), (lto, .inl (cI, 7, .inl lFto)), (lfr, .inl (cI, 7, .inl lFfr)), (lki, .inl (cI, 5, .inl lFki)), (lli, .inl (cI, 5, .inl lFli)), (nw, .inr (1, [.ref td, .int md, .int mt, .int mr, .int mg, .ref mat, .ref mfd, .ref mhd])), (mat, .inl (cI, 5, .inl mFat)), (mfd, .inl (cI, 7, .inl mFfd)), (mhd, .inl (cI, 7, .inl mFhd)), (tr, .inr (2, [.ref td, .ref mo, .ref rd])), (mo, .inr (1, [.ref td, .int u.2.1, .int u.2.2.1, .int u.2.2.2.1, .int u.2.2.2.2.1, .ref zat, .ref zfd, .ref zhd])), (zat, .inl (cI, 5, .inl u.2.2.2.2.2.1)), (zfd, .inl (cI, 7, .inl u.2.2.2.2.2.2.1)), (zhd, .inl (cI, 7, .inl u.2.2.2.2.2.2.2.1)), (rd, .inl (cI, 5, .inl u.2.2.2.2.2.2.2.2))]) u)) A) cX3_years 5 (some .int) (by decide) rfl (Nat.le_of_ble_eq_true rfl) ?_
  intro p e s m args below meth c R Q A ls hBd hR hQ hA hS hK hP hD hl
  obtain ⟨hx, hb, hr, hts, hown, hlocks, hin, hml⟩ := hBd
  have hl : lv_has ls 5 [(0, .ref h0), (1, .int n)] := hl
  have iX3 : ∀ w ∈ wsX30, w ∈ wsX3_years := fun _ h => List.mem_cons_of_mem _ (List.mem_append_left _ (List.mem_append_left _ (List.mem_append_left _ (List.mem_append_right _ h))))
  have iX2 : ∀ w ∈ wsX20, w ∈ wsX3_years := fun _ h => List.mem_cons_of_mem _ (List.mem_append_left _ (List.mem_append_left _ (List.mem_append_right _ h)))
  have iX1 : ∀ w ∈ wsX10, w ∈ wsX3_years := fun _ h => List.mem_cons_of_mem _ (List.mem_append_left _ (List.mem_append_right _ h))
  have iX0 : ∀ w ∈ wsX00, w ∈ wsX3_years := fun _ h => List.mem_cons_of_mem _ (List.mem_append_right _ h)
  obtain ⟨h_mda, h_mdb⟩ := h_md
  obtain ⟨h_mta, h_mtb⟩ := h_mt
  obtain ⟨h_lpea, h_lpeb⟩ := h_lpe
  refine lv_iload_n hx hb dX3_years_0 rfl (lv_at hl 1 rfl) ?_
  refine lv_iconst (v := 1) hx hb dX3_years_1 (by decide) ?_
  refine lv_icmp_lt (tgt := 11) hx hb dX3_years_2 (by decide) (fun c_1 => ?_) (fun c_1 => ?_)
  · have tc_1 := b_lt rfl (show (1 : Int32).toInt = 1 by decide) c_1
    refine lv_bipush (v := (-2)) hx hb dX3_years_11 (by decide) ?_
    exact ret_i (post := (fun (r : Int32) (u : Int64 × Int32 × Int32 × Int32 × Int32 × (Nat → Int32) × (Nat → Int32) × (Nat → Int32) × (Nat → Int32)) => ((n.toInt < 1 ∨ 30 < n.toInt) ∧ u.1 = sd) ∨ (1 ≤ n.toInt ∧ n.toInt ≤ 30 ∧ u.1 = itS n.toInt.toNat sd))) (W1 := (fun u => [(h0, .inr (3, [.ref tx, .int le, .ref td, .ref dr, .ref nw, .ref ac, .int fa, .int an, .ref kp, .int ks, .ref sp, .ref ss, .ref sy, .int sc, .long u.1, .ref tr, .ref ia])), (td, .inr (0, [.int lpe, .int ltk, .ref lho, .ref lli, .ref lki, .ref lfd, .ref lfr, .ref lto, .ref lse, .ref lhl])), (lto, .inl (cI, 7, .inl lFto)), (lfr, .inl (cI, 7, .inl lFfr)), (lki, .inl (cI, 5, .inl lFki)), (lli, .inl (cI, 5, .inl lFli)), (nw, .inr (1, [.ref td, .int md, .int mt, .int mr, .int mg, .ref mat, .ref mfd, .ref mhd])), (mat, .inl (cI, 5, .inl mFat)), (mfd, .inl (cI, 7, .inl mFfd)), (mhd, .inl (cI, 7, .inl mFhd)), (tr, .inr (2, [.ref td, .ref mo, .ref rd])), (mo, .inr (1, [.ref td, .int u.2.1, .int u.2.2.1, .int u.2.2.2.1, .int u.2.2.2.2.1, .ref zat, .ref zfd, .ref zhd])), (zat, .inl (cI, 5, .inl u.2.2.2.2.2.1)), (zfd, .inl (cI, 7, .inl u.2.2.2.2.2.2.1)), (zhd, .inl (cI, 7, .inl u.2.2.2.2.2.2.2.1)), (rd, .inl (cI, 5, .inl u.2.2.2.2.2.2.2.2))])) (sd, zd, zt, zr, zg, zFat, zFfd, zFhd, Frd) hx hb hr hlocks rfl hQ hK hP hD hS ⟨by decide, by decide⟩ dX3_years_13 (Or.inl ⟨by omega, rfl⟩)
  · have tc_1 := b_nlt rfl (show (1 : Int32).toInt = 1 by decide) c_1
    refine lv_iload_n hx hb dX3_years_5 rfl (lv_at hl 1 rfl) ?_
    refine lv_bipush (v := 30) hx hb dX3_years_6 (by decide) ?_
    refine lv_icmp_le (tgt := 14) hx hb dX3_years_8 (by decide) (fun c_2 => ?_) (fun c_2 => ?_)
    · have tc_2 := b_le rfl (show (30 : Int32).toInt = 30 by decide) c_2
      refine lv_iconst (v := 0) hx hb dX3_years_14 (by decide) ?_
      refine lv_istore_n (lv' := [(2, .int 0), (0, .ref h0), (1, .int n)]) hx hb dX3_years_15 rfl hl (by decide) rfl (fun ls hl => ?_)
      refine lv_iconst (v := 0) hx hb dX3_years_16 (by decide) ?_
      refine lv_istore_n (lv' := [(3, .int 0), (2, .int 0), (0, .ref h0), (1, .int n)]) hx hb dX3_years_17 rfl hl (by decide) rfl (fun ls hl => ?_)
      have LOOP_3 : ∀ (fu_3 : Nat) (w2 : Int32) (x3 : Int32) (nd : Int32) (nt : Int32) (nr : Int32) (ng : Int32) (ns : Int64) (nat : Nat → Int32) (nfd : Nat → Int32) (nhd : Nat → Int32) (nrd : Nat → Int32) (H : Heap) (locs : List Loc) (ls : Array Slot), (30 - x3.toInt).toNat < fu_3 → (0 ≤ x3.toInt ∧ x3.toInt ≤ 30) → (ns = itS x3.toInt.toNat sd) → (x3.toInt ≤ n.toInt) → va_P D vwCl [(h0, .inr (3, [.ref tx, .int le, .ref td, .ref dr, .ref nw, .ref ac, .int fa, .int an, .ref kp, .int ks, .ref sp, .ref ss, .ref sy, .int sc, .long ns, .ref tr, .ref ia])), (td, .inr (0, [.int lpe, .int ltk, .ref lho, .ref lli, .ref lki, .ref lfd, .ref lfr, .ref lto, .ref lse, .ref lhl])), (lto, .inl (cI, 7, .inl lFto)), (lfr, .inl (cI, 7, .inl lFfr)), (lki, .inl (cI, 5, .inl lFki)), (lli, .inl (cI, 5, .inl lFli)), (nw, .inr (1, [.ref td, .int md, .int mt, .int mr, .int mg, .ref mat, .ref mfd, .ref mhd])), (mat, .inl (cI, 5, .inl mFat)), (mfd, .inl (cI, 7, .inl mFfd)), (mhd, .inl (cI, 7, .inl mFhd)), (tr, .inr (2, [.ref td, .ref mo, .ref rd])), (mo, .inr (1, [.ref td, .int nd, .int nt, .int nr, .int ng, .ref zat, .ref zfd, .ref zhd])), (zat, .inl (cI, 5, .inl nat)), (zfd, .inl (cI, 7, .inl nfd)), (zhd, .inl (cI, 7, .inl nhd)), (rd, .inl (cI, 5, .inl nrd))] H → va_D A [(h0, .inr (3, [.ref tx, .int le, .ref td, .ref dr, .ref nw, .ref ac, .int fa, .int an, .ref kp, .int ks, .ref sp, .ref ss, .ref sy, .int sc, .long ns, .ref tr, .ref ia])), (td, .inr (0, [.int lpe, .int ltk, .ref lho, .ref lli, .ref lki, .ref lfd, .ref lfr, .ref lto, .ref lse, .ref lhl])), (lto, .inl (cI, 7, .inl lFto)), (lfr, .inl (cI, 7, .inl lFfr)), (lki, .inl (cI, 5, .inl lFki)), (lli, .inl (cI, 5, .inl lFli)), (nw, .inr (1, [.ref td, .int md, .int mt, .int mr, .int mg, .ref mat, .ref mfd, .ref mhd])), (mat, .inl (cI, 5, .inl mFat)), (mfd, .inl (cI, 7, .inl mFfd)), (mhd, .inl (cI, 7, .inl mFhd)), (tr, .inr (2, [.ref td, .ref mo, .ref rd])), (mo, .inr (1, [.ref td, .int nd, .int nt, .int nr, .int ng, .ref zat, .ref zfd, .ref zhd])), (zat, .inl (cI, 5, .inl nat)), (zfd, .inl (cI, 7, .inl nfd)), (zhd, .inl (cI, 7, .inl nhd)), (rd, .inl (cI, 5, .inl nrd))] → va_S A s.heap H locs → lv_has ls 5 [(0, .ref h0), (1, .int n), (2, .int w2), (3, .int x3)] → W p l e R s m args below meth c H locs 0 0 Q (F0 m 18 ls []) := by
        intro fu_3
        induction fu_3 with
        | zero => intro w2 x3 nd nt nr ng ns nat nfd nhd nrd H locs ls hmu; exact absurd hmu (Nat.not_lt_zero _)
        | succ fu_3 ih =>
          intro w2 x3 nd nt nr ng ns nat nfd nhd nrd H locs ls hmu h_x3 hs hxn hP hD hS hl
          obtain ⟨h_x3a, h_x3b⟩ := h_x3
          have ih_4 := ih
          clear ih
          refine lv_iload_n hx hb dX3_years_18 rfl (lv_at hl 3 rfl) ?_
          refine lv_iload_n hx hb dX3_years_19 rfl (lv_at hl 1 rfl) ?_
          refine lv_icmp_ge (tgt := 97) hx hb dX3_years_20 (by decide) (fun c_5 => ?_) (fun c_5 => ?_)
          · have tc_5 := b_le rfl rfl c_5
            refine lv_iload_n hx hb dX3_years_97 rfl (lv_at hl 2 rfl) ?_
            exact ret_i (post := (fun (r : Int32) (u : Int64 × Int32 × Int32 × Int32 × Int32 × (Nat → Int32) × (Nat → Int32) × (Nat → Int32) × (Nat → Int32)) => ((n.toInt < 1 ∨ 30 < n.toInt) ∧ u.1 = sd) ∨ (1 ≤ n.toInt ∧ n.toInt ≤ 30 ∧ u.1 = itS n.toInt.toNat sd))) (W1 := (fun u => [(h0, .inr (3, [.ref tx, .int le, .ref td, .ref dr, .ref nw, .ref ac, .int fa, .int an, .ref kp, .int ks, .ref sp, .ref ss, .ref sy, .int sc, .long u.1, .ref tr, .ref ia])), (td, .inr (0, [.int lpe, .int ltk, .ref lho, .ref lli, .ref lki, .ref lfd, .ref lfr, .ref lto, .ref lse, .ref lhl])), (lto, .inl (cI, 7, .inl lFto)), (lfr, .inl (cI, 7, .inl lFfr)), (lki, .inl (cI, 5, .inl lFki)), (lli, .inl (cI, 5, .inl lFli)), (nw, .inr (1, [.ref td, .int md, .int mt, .int mr, .int mg, .ref mat, .ref mfd, .ref mhd])), (mat, .inl (cI, 5, .inl mFat)), (mfd, .inl (cI, 7, .inl mFfd)), (mhd, .inl (cI, 7, .inl mFhd)), (tr, .inr (2, [.ref td, .ref mo, .ref rd])), (mo, .inr (1, [.ref td, .int u.2.1, .int u.2.2.1, .int u.2.2.2.1, .int u.2.2.2.2.1, .ref zat, .ref zfd, .ref zhd])), (zat, .inl (cI, 5, .inl u.2.2.2.2.2.1)), (zfd, .inl (cI, 7, .inl u.2.2.2.2.2.2.1)), (zhd, .inl (cI, 7, .inl u.2.2.2.2.2.2.2.1)), (rd, .inl (cI, 5, .inl u.2.2.2.2.2.2.2.2))])) (ns, nd, nt, nr, ng, nat, nfd, nhd, nrd) hx hb hr hlocks rfl hQ hK hP hD hS ⟨by decide, by decide⟩ dX3_years_98 (Or.inr ⟨by omega, by omega, by rw [hs, show x3.toInt = n.toInt by omega]⟩)
          · have tc_5 := b_nle rfl rfl c_5
            refine lv_aload_n hx hb dX3_years_23 rfl (lv_at hl 0 rfl) ?_
            refine lv_aload_n hx hb dX3_years_24 rfl (lv_at hl 0 rfl) ?_
            refine va_get (D := D) (ci := 3) (v := .long ns) (C := RX3) (T := TX3) (N := 17) hx hb hts iX3 hown hK hP 0 rfl rfl 14 (by decide) (hts (.fieldLink RX3 64 "PunchedTicket" "theSeed" "J") (List.mem_of_getElem? (i := 1) rfl)) (fun _ h9 => h9) rfl dX3_years_25 ?_
            refine lv_ldc2 (v := (6364136223846793005)) hx hb hown (hts (.constantLong RX3 253 (6364136223846793005)) (List.mem_of_getElem? (i := 2) rfl)) dX3_years_28 ?_
            refine lv_lmul hx hb dX3_years_31 ?_
            refine lv_topl (fun w_6 ew_6 => ?_)
            refine lv_ldc2 (v := (1442695040888963407)) hx hb hown (hts (.constantLong RX3 255 (1442695040888963407)) (List.mem_of_getElem? (i := 3) rfl)) dX3_years_32 ?_
            refine lv_ladd hx hb dX3_years_35 ?_
            refine lv_topl (fun w_7 ew_7 => ?_)
            refine va_put (D := D) (ci := 3) (v := .long w_7) (ty := .long) (C := RX3) (T := TX3) (N := 17) hx hb hts iX3 tyX3 tyX3_ok nmX3 hown hK hP hD hS 0 rfl rfl 14 (by decide) (hts (.fieldLink RX3 64 "PunchedTicket" "theSeed" "J") (List.mem_of_getElem? (i := 1) rfl)) (fun _ h9 => h9) rfl (by decide +kernel) rfl rfl (Nat.le_of_ble_eq_true rfl) dX3_years_36 (fun H locs hP hD hS => ?_)
            have hP : va_P D vwCl [(h0, .inr (3, [.ref tx, .int le, .ref td, .ref dr, .ref nw, .ref ac, .int fa, .int an, .ref kp, .int ks, .ref sp, .ref ss, .ref sy, .int sc, .long w_7, .ref tr, .ref ia])), (td, .inr (0, [.int lpe, .int ltk, .ref lho, .ref lli, .ref lki, .ref lfd, .ref lfr, .ref lto, .ref lse, .ref lhl])), (lto, .inl (cI, 7, .inl lFto)), (lfr, .inl (cI, 7, .inl lFfr)), (lki, .inl (cI, 5, .inl lFki)), (lli, .inl (cI, 5, .inl lFli)), (nw, .inr (1, [.ref td, .int md, .int mt, .int mr, .int mg, .ref mat, .ref mfd, .ref mhd])), (mat, .inl (cI, 5, .inl mFat)), (mfd, .inl (cI, 7, .inl mFfd)), (mhd, .inl (cI, 7, .inl mFhd)), (tr, .inr (2, [.ref td, .ref mo, .ref rd])), (mo, .inr (1, [.ref td, .int nd, .int nt, .int nr, .int ng, .ref zat, .ref zfd, .ref zhd])), (zat, .inl (cI, 5, .inl nat)), (zfd, .inl (cI, 7, .inl nfd)), (zhd, .inl (cI, 7, .inl nhd)), (rd, .inl (cI, 5, .inl nrd))] H := hP
            have hD : va_D A [(h0, .inr (3, [.ref tx, .int le, .ref td, .ref dr, .ref nw, .ref ac, .int fa, .int an, .ref kp, .int ks, .ref sp, .ref ss, .ref sy, .int sc, .long w_7, .ref tr, .ref ia])), (td, .inr (0, [.int lpe, .int ltk, .ref lho, .ref lli, .ref lki, .ref lfd, .ref lfr, .ref lto, .ref lse, .ref lhl])), (lto, .inl (cI, 7, .inl lFto)), (lfr, .inl (cI, 7, .inl lFfr)), (lki, .inl (cI, 5, .inl lFki)), (lli, .inl (cI, 5, .inl lFli)), (nw, .inr (1, [.ref td, .int md, .int mt, .int mr, .int mg, .ref mat, .ref mfd, .ref mhd])), (mat, .inl (cI, 5, .inl mFat)), (mfd, .inl (cI, 7, .inl mFfd)), (mhd, .inl (cI, 7, .inl mFhd)), (tr, .inr (2, [.ref td, .ref mo, .ref rd])), (mo, .inr (1, [.ref td, .int nd, .int nt, .int nr, .int ng, .ref zat, .ref zfd, .ref zhd])), (zat, .inl (cI, 5, .inl nat)), (zfd, .inl (cI, 7, .inl nfd)), (zhd, .inl (cI, 7, .inl nhd)), (rd, .inl (cI, 5, .inl nrd))] := hD
            refine lv_aload_n hx hb dX3_years_39 rfl (lv_at hl 0 rfl) ?_
            refine va_get (D := D) (ci := 3) (v := .long w_7) (C := RX3) (T := TX3) (N := 17) hx hb hts iX3 hown hK hP 0 rfl rfl 14 (by decide) (hts (.fieldLink RX3 64 "PunchedTicket" "theSeed" "J") (List.mem_of_getElem? (i := 1) rfl)) (fun _ h9 => h9) rfl dX3_years_40 ?_
            refine lv_bipush (v := 33) hx hb dX3_years_43 (by decide) ?_
            obtain ⟨w_8, ew_8⟩ : ∃ z : Int64, (w_7.toUInt64 >>> ((33 : Int32).toInt64.toUInt64 &&& Int64.toUInt64 63)).toInt64 = z := ⟨_, rfl⟩
            refine lv_lushr hx hb dX3_years_45 ew_8 ?_
            refine lv_ldc2 (v := (64)) hx hb hown (hts (.constantLong RX3 257 (64)) (List.mem_of_getElem? (i := 4) rfl)) dX3_years_46 ?_
            refine lv_lrem hx hb dX3_years_49 (by decide) ?_
            refine lv_topl (fun w_9 ew_9 => ?_)
            obtain ⟨v_10, ev_10⟩ : ∃ z : Int32, w_9.toInt32 = z := ⟨_, rfl⟩
            refine lv_l2i hx hb dX3_years_50 ev_10 ?_
            refine lv_istore (lv' := [(4, .int v_10), (0, .ref h0), (1, .int n), (2, .int w2), (3, .int x3)]) hx hb dX3_years_51 hl (by decide) rfl (fun ls hl => ?_)
            refine lv_aload_n hx hb dX3_years_53 rfl (lv_at hl 1 rfl) ?_
            refine va_get (D := D) (ci := 3) (v := .ref tr) (C := RX3) (T := TX3) (N := 17) hx hb hts iX3 hown hK hP 0 rfl rfl 15 (by decide) (hts (.fieldLink RX3 71 "PunchedTicket" "trial" "LPunchedTicket$Trial;") (List.mem_of_getElem? (i := 5) rfl)) (fun _ h9 => h9) rfl dX3_years_54 ?_
            refine lv_aload_n hx hb dX3_years_57 rfl (lv_at hl 1 rfl) ?_
            refine va_get (D := D) (ci := 3) (v := .ref nw) (C := RX3) (T := TX3) (N := 17) hx hb hts iX3 hown hK hP 0 rfl rfl 4 (by decide) (hts (.fieldLink RX3 32 "PunchedTicket" "now" "LPunchedTicket$Moment;") (List.mem_of_getElem? (i := 6) rfl)) (fun _ h9 => h9) rfl dX3_years_58 ?_
            refine cV_v (As := [.ref nw]) (rest := []) ⟨hx, hb, hml, hown, hts⟩ (c_X2_start l D cI cZ cM tr nw td mo rd td nd nt nr ng zat zfd zhd td md mt mr mg mat mfd mhd nat nfd nhd mFat mFfd mFhd _ ) (cwV 1 hts gX3_years_X2_start rfl rfl rfl (by decide +kernel) ⟨by rw [hR]; decide, by rw [hR]; decide⟩) hK hP hD hS hA [10, 11, 6, 12, 13, 14, 7, 8, 9] [0, 1, 2, 3, 4, 5, 15] rfl rfl (by decide) (by decide) (by decide +kernel) rfl 10 rfl hl.1 rfl rfl (Nat.le_of_ble_eq_true rfl) dX3_years_61 ⟨by rw [hR]; decide, by rw [hR]; decide⟩ (fun u_15 H locs hw hP hD hS => ?_)
            obtain ⟨Gat_11, Gfd_12, Ghd_13⟩ := u_15
            have hP : va_P D vwCl [(h0, .inr (3, [.ref tx, .int le, .ref td, .ref dr, .ref nw, .ref ac, .int fa, .int an, .ref kp, .int ks, .ref sp, .ref ss, .ref sy, .int sc, .long w_7, .ref tr, .ref ia])), (td, .inr (0, [.int lpe, .int ltk, .ref lho, .ref lli, .ref lki, .ref lfd, .ref lfr, .ref lto, .ref lse, .ref lhl])), (lto, .inl (cI, 7, .inl lFto)), (lfr, .inl (cI, 7, .inl lFfr)), (lki, .inl (cI, 5, .inl lFki)), (lli, .inl (cI, 5, .inl lFli)), (nw, .inr (1, [.ref td, .int md, .int mt, .int mr, .int mg, .ref mat, .ref mfd, .ref mhd])), (mat, .inl (cI, 5, .inl mFat)), (mfd, .inl (cI, 7, .inl mFfd)), (mhd, .inl (cI, 7, .inl mFhd)), (tr, .inr (2, [.ref td, .ref mo, .ref rd])), (mo, .inr (1, [.ref td, .int md, .int mt, .int mr, .int mg, .ref zat, .ref zfd, .ref zhd])), (zat, .inl (cI, 5, .inl Gat_11)), (zfd, .inl (cI, 7, .inl Gfd_12)), (zhd, .inl (cI, 7, .inl Ghd_13)), (rd, .inl (cI, 5, .inl nrd))] H := hP.sub [0, 1, 2, 3, 4, 5, 9, 13, 14, 15, 7, 8, 10, 11, 12, 6] rfl
            have hD : va_D A [(h0, .inr (3, [.ref tx, .int le, .ref td, .ref dr, .ref nw, .ref ac, .int fa, .int an, .ref kp, .int ks, .ref sp, .ref ss, .ref sy, .int sc, .long w_7, .ref tr, .ref ia])), (td, .inr (0, [.int lpe, .int ltk, .ref lho, .ref lli, .ref lki, .ref lfd, .ref lfr, .ref lto, .ref lse, .ref lhl])), (lto, .inl (cI, 7, .inl lFto)), (lfr, .inl (cI, 7, .inl lFfr)), (lki, .inl (cI, 5, .inl lFki)), (lli, .inl (cI, 5, .inl lFli)), (nw, .inr (1, [.ref td, .int md, .int mt, .int mr, .int mg, .ref mat, .ref mfd, .ref mhd])), (mat, .inl (cI, 5, .inl mFat)), (mfd, .inl (cI, 7, .inl mFfd)), (mhd, .inl (cI, 7, .inl mFhd)), (tr, .inr (2, [.ref td, .ref mo, .ref rd])), (mo, .inr (1, [.ref td, .int md, .int mt, .int mr, .int mg, .ref zat, .ref zfd, .ref zhd])), (zat, .inl (cI, 5, .inl Gat_11)), (zfd, .inl (cI, 7, .inl Gfd_12)), (zhd, .inl (cI, 7, .inl Ghd_13)), (rd, .inl (cI, 5, .inl nrd))] := hD.sub [0, 1, 2, 3, 4, 5, 9, 13, 14, 15, 7, 8, 10, 11, 12, 6] (by decide +kernel) rfl
            refine W.widen (k := 0) (n := 0) (Nat.le_refl _) (Nat.le_refl _) ?_
            refine lv_aload_n hx hb dX3_years_64 rfl (lv_at hl 1 rfl) ?_
            refine va_get (D := D) (ci := 3) (v := .ref tr) (C := RX3) (T := TX3) (N := 17) hx hb hts iX3 hown hK hP 0 rfl rfl 15 (by decide) (hts (.fieldLink RX3 71 "PunchedTicket" "trial" "LPunchedTicket$Trial;") (List.mem_of_getElem? (i := 5) rfl)) (fun _ h9 => h9) rfl dX3_years_65 ?_
            refine va_get (D := D) (ci := 2) (v := .ref mo) (C := RX2) (T := TX2) (N := 3) hx hb hts iX2 hown hK hP 10 rfl rfl 1 (by decide) (hts (.fieldLink RX3 178 "PunchedTicket$Trial" "moment" "LPunchedTicket$Moment;") (List.mem_of_getElem? (i := 7) rfl)) (fun _ h9 => h9) rfl dX3_years_68 ?_
            refine lv_dup hx hb dX3_years_71 rfl ?_
            refine va_get (D := D) (ci := 1) (v := .int mg) (C := RX1) (T := TX1) (N := 8) hx hb hts iX1 hown hK hP 11 rfl rfl 4 (by decide) (hts (.fieldLink RX3 158 "PunchedTicket$Moment" "gone" "I") (List.mem_of_getElem? (i := 8) rfl)) (fun _ h9 => h9) rfl dX3_years_72 ?_
            refine lv_iload hx hb dX3_years_75 (lv_at hl 0 rfl) ?_
            refine lv_ior hx hb dX3_years_77 ?_
            refine lv_topi (fun v_16 ev_16 => ?_)
            refine va_put (D := D) (ci := 1) (v := .int v_16) (ty := .int) (C := RX1) (T := TX1) (N := 8) hx hb hts iX1 tyX1 tyX1_ok nmX1 hown hK hP hD hS 11 rfl rfl 4 (by decide) (hts (.fieldLink RX3 158 "PunchedTicket$Moment" "gone" "I") (List.mem_of_getElem? (i := 8) rfl)) (fun _ h9 => h9) rfl (by decide +kernel) rfl rfl (Nat.le_of_ble_eq_true rfl) dX3_years_78 (fun H locs hP hD hS => ?_)
            have hP : va_P D vwCl [(h0, .inr (3, [.ref tx, .int le, .ref td, .ref dr, .ref nw, .ref ac, .int fa, .int an, .ref kp, .int ks, .ref sp, .ref ss, .ref sy, .int sc, .long w_7, .ref tr, .ref ia])), (td, .inr (0, [.int lpe, .int ltk, .ref lho, .ref lli, .ref lki, .ref lfd, .ref lfr, .ref lto, .ref lse, .ref lhl])), (lto, .inl (cI, 7, .inl lFto)), (lfr, .inl (cI, 7, .inl lFfr)), (lki, .inl (cI, 5, .inl lFki)), (lli, .inl (cI, 5, .inl lFli)), (nw, .inr (1, [.ref td, .int md, .int mt, .int mr, .int mg, .ref mat, .ref mfd, .ref mhd])), (mat, .inl (cI, 5, .inl mFat)), (mfd, .inl (cI, 7, .inl mFfd)), (mhd, .inl (cI, 7, .inl mFhd)), (tr, .inr (2, [.ref td, .ref mo, .ref rd])), (mo, .inr (1, [.ref td, .int md, .int mt, .int mr, .int v_16, .ref zat, .ref zfd, .ref zhd])), (zat, .inl (cI, 5, .inl Gat_11)), (zfd, .inl (cI, 7, .inl Gfd_12)), (zhd, .inl (cI, 7, .inl Ghd_13)), (rd, .inl (cI, 5, .inl nrd))] H := hP
            have hD : va_D A [(h0, .inr (3, [.ref tx, .int le, .ref td, .ref dr, .ref nw, .ref ac, .int fa, .int an, .ref kp, .int ks, .ref sp, .ref ss, .ref sy, .int sc, .long w_7, .ref tr, .ref ia])), (td, .inr (0, [.int lpe, .int ltk, .ref lho, .ref lli, .ref lki, .ref lfd, .ref lfr, .ref lto, .ref lse, .ref lhl])), (lto, .inl (cI, 7, .inl lFto)), (lfr, .inl (cI, 7, .inl lFfr)), (lki, .inl (cI, 5, .inl lFki)), (lli, .inl (cI, 5, .inl lFli)), (nw, .inr (1, [.ref td, .int md, .int mt, .int mr, .int mg, .ref mat, .ref mfd, .ref mhd])), (mat, .inl (cI, 5, .inl mFat)), (mfd, .inl (cI, 7, .inl mFfd)), (mhd, .inl (cI, 7, .inl mFhd)), (tr, .inr (2, [.ref td, .ref mo, .ref rd])), (mo, .inr (1, [.ref td, .int md, .int mt, .int mr, .int v_16, .ref zat, .ref zfd, .ref zhd])), (zat, .inl (cI, 5, .inl Gat_11)), (zfd, .inl (cI, 7, .inl Gfd_12)), (zhd, .inl (cI, 7, .inl Ghd_13)), (rd, .inl (cI, 5, .inl nrd))] := hD
            refine lv_iload_n hx hb dX3_years_81 rfl (lv_at hl 3 rfl) ?_
            refine lv_aload_n hx hb dX3_years_82 rfl (lv_at hl 1 rfl) ?_
            refine va_get (D := D) (ci := 3) (v := .ref tr) (C := RX3) (T := TX3) (N := 17) hx hb hts iX3 hown hK hP 0 rfl rfl 15 (by decide) (hts (.fieldLink RX3 71 "PunchedTicket" "trial" "LPunchedTicket$Trial;") (List.mem_of_getElem? (i := 5) rfl)) (fun _ h9 => h9) rfl dX3_years_83 ?_
            refine cV_i (As := []) (rest := [.int w2]) ⟨hx, hb, hml, hown, hts⟩ (c_X2_gladAtEnd l D cI cZ cM tr td mo rd md mt mr v_16 zat zfd zhd lpe ltk lho lli lki lfd lfr lto lse lhl lFto lFfr lFki lFli Gat_11 Gfd_12 Ghd_13 nrd _ (show 0 ≤ mt.toInt ∧ mt.toInt ≤ 7 by omega) (show 0 ≤ lpe.toInt ∧ lpe.toInt ≤ 5 by omega) (show 0 ≤ md.toInt ∧ md.toInt ≤ 10 by omega)) (cwV 0 hts gX3_years_X2_gladAtEnd rfl rfl rfl (by decide +kernel) ⟨by rw [hR]; decide, by rw [hR]; decide⟩) hK hP hD hS hA [10, 11, 1, 2, 3, 4, 5, 12, 13, 14, 15] [0, 6, 7, 8, 9] rfl rfl (by decide) (by decide) (by decide +kernel) rfl 10 rfl hl.1 rfl rfl (Nat.le_of_ble_eq_true rfl) dX3_years_86 ⟨by rw [hR]; decide, by rw [hR]; decide⟩ (fun r_24 u_25 H locs hw hP hD hS => ?_)
            obtain ⟨md1_17, mr1_18, mg1_19, Gat_20, Gfd_21, Ghd_22, Grd_23⟩ := u_25
            have hP : va_P D vwCl [(h0, .inr (3, [.ref tx, .int le, .ref td, .ref dr, .ref nw, .ref ac, .int fa, .int an, .ref kp, .int ks, .ref sp, .ref ss, .ref sy, .int sc, .long w_7, .ref tr, .ref ia])), (td, .inr (0, [.int lpe, .int ltk, .ref lho, .ref lli, .ref lki, .ref lfd, .ref lfr, .ref lto, .ref lse, .ref lhl])), (lto, .inl (cI, 7, .inl lFto)), (lfr, .inl (cI, 7, .inl lFfr)), (lki, .inl (cI, 5, .inl lFki)), (lli, .inl (cI, 5, .inl lFli)), (nw, .inr (1, [.ref td, .int md, .int mt, .int mr, .int mg, .ref mat, .ref mfd, .ref mhd])), (mat, .inl (cI, 5, .inl mFat)), (mfd, .inl (cI, 7, .inl mFfd)), (mhd, .inl (cI, 7, .inl mFhd)), (tr, .inr (2, [.ref td, .ref mo, .ref rd])), (mo, .inr (1, [.ref td, .int md1_17, .int mt, .int mr1_18, .int mg1_19, .ref zat, .ref zfd, .ref zhd])), (zat, .inl (cI, 5, .inl Gat_20)), (zfd, .inl (cI, 7, .inl Gfd_21)), (zhd, .inl (cI, 7, .inl Ghd_22)), (rd, .inl (cI, 5, .inl Grd_23))] H := hP.sub [0, 7, 8, 9, 10, 11, 1, 2, 3, 4, 5, 6, 12, 13, 14, 15] rfl
            have hD : va_D A [(h0, .inr (3, [.ref tx, .int le, .ref td, .ref dr, .ref nw, .ref ac, .int fa, .int an, .ref kp, .int ks, .ref sp, .ref ss, .ref sy, .int sc, .long w_7, .ref tr, .ref ia])), (td, .inr (0, [.int lpe, .int ltk, .ref lho, .ref lli, .ref lki, .ref lfd, .ref lfr, .ref lto, .ref lse, .ref lhl])), (lto, .inl (cI, 7, .inl lFto)), (lfr, .inl (cI, 7, .inl lFfr)), (lki, .inl (cI, 5, .inl lFki)), (lli, .inl (cI, 5, .inl lFli)), (nw, .inr (1, [.ref td, .int md, .int mt, .int mr, .int mg, .ref mat, .ref mfd, .ref mhd])), (mat, .inl (cI, 5, .inl mFat)), (mfd, .inl (cI, 7, .inl mFfd)), (mhd, .inl (cI, 7, .inl mFhd)), (tr, .inr (2, [.ref td, .ref mo, .ref rd])), (mo, .inr (1, [.ref td, .int md1_17, .int mt, .int mr1_18, .int mg1_19, .ref zat, .ref zfd, .ref zhd])), (zat, .inl (cI, 5, .inl Gat_20)), (zfd, .inl (cI, 7, .inl Gfd_21)), (zhd, .inl (cI, 7, .inl Ghd_22)), (rd, .inl (cI, 5, .inl Grd_23))] := hD.sub [0, 7, 8, 9, 10, 11, 1, 2, 3, 4, 5, 6, 12, 13, 14, 15] (by decide +kernel) rfl
            refine W.widen (k := 0) (n := 0) (Nat.le_refl _) (Nat.le_refl _) ?_
            have hw : 0 ≤ r_24.toInt ∧ r_24.toInt ≤ lpe.toInt := hw
            have hw_26 := hw
            obtain ⟨hw_26a, hw_26b⟩ := hw_26
            refine lv_iadd hx hb dX3_years_89 ?_
            refine lv_topi (fun v_27 ev_27 => ?_)
            refine lv_istore_n (lv' := [(2, .int v_27), (4, .int v_10), (0, .ref h0), (1, .int n), (3, .int x3)]) hx hb dX3_years_90 rfl hl (by decide) rfl (fun ls hl => ?_)
            obtain ⟨v_28, ev_28⟩ : ∃ z : Int32, z = x3 + 1 := ⟨_, rfl⟩
            have tv_28 : v_28.toInt = x3.toInt + 1 := by rw [ev_28]; exact ti_add (x := x3) (y := 1) (show -2147483648 ≤ x3.toInt + 1 by omega) (show x3.toInt + 1 < 2147483648 by omega)
            refine lv_iinc (v := v_28) (lv' := [(3, .int v_28), (2, .int v_27), (4, .int v_10), (0, .ref h0), (1, .int n)]) hx hb dX3_years_91 hl (k := 4) rfl (by rw [ev_28]; rfl) (by decide) rfl (fun ls hl => ?_)
            have HS : w_7 = itS v_28.toInt.toNat sd := by
              rw [show v_28.toInt.toNat = x3.toInt.toNat + 1 by omega]
              show w_7 = stepS (itS x3.toInt.toNat sd)
              rw [← hs, stepS, ew_7, ew_6]
            refine lv_goto (tgt := 18) hx hb dX3_years_94 (by decide) ?_
            exact ih_4 v_27 v_28 md1_17 mt mr1_18 mg1_19 w_7 Gat_20 Gfd_21 Ghd_22 Grd_23 _ _ _ (show (30 - v_28.toInt).toNat < fu_3 by omega) (show 0 ≤ v_28.toInt ∧ v_28.toInt ≤ 30 by omega) (HS) (show v_28.toInt ≤ n.toInt by omega) hP hD hS (lv_sub hl [3, 4, 1, 0] rfl)
      exact LOOP_3 _ 0 0 zd zt zr zg sd zFat zFfd zFhd Frd _ _ _ (Nat.lt_succ_self _) (by decide) (rfl) (show (0 : Int) ≤ n.toInt by omega) hP hD hS (lv_sub hl [2, 3, 1, 0] rfl)
    · have tc_2 := b_nle rfl (show (30 : Int32).toInt = 30 by decide) c_2
      refine lv_bipush (v := (-2)) hx hb dX3_years_11 (by decide) ?_
      exact ret_i (post := (fun (r : Int32) (u : Int64 × Int32 × Int32 × Int32 × Int32 × (Nat → Int32) × (Nat → Int32) × (Nat → Int32) × (Nat → Int32)) => ((n.toInt < 1 ∨ 30 < n.toInt) ∧ u.1 = sd) ∨ (1 ≤ n.toInt ∧ n.toInt ≤ 30 ∧ u.1 = itS n.toInt.toNat sd))) (W1 := (fun u => [(h0, .inr (3, [.ref tx, .int le, .ref td, .ref dr, .ref nw, .ref ac, .int fa, .int an, .ref kp, .int ks, .ref sp, .ref ss, .ref sy, .int sc, .long u.1, .ref tr, .ref ia])), (td, .inr (0, [.int lpe, .int ltk, .ref lho, .ref lli, .ref lki, .ref lfd, .ref lfr, .ref lto, .ref lse, .ref lhl])), (lto, .inl (cI, 7, .inl lFto)), (lfr, .inl (cI, 7, .inl lFfr)), (lki, .inl (cI, 5, .inl lFki)), (lli, .inl (cI, 5, .inl lFli)), (nw, .inr (1, [.ref td, .int md, .int mt, .int mr, .int mg, .ref mat, .ref mfd, .ref mhd])), (mat, .inl (cI, 5, .inl mFat)), (mfd, .inl (cI, 7, .inl mFfd)), (mhd, .inl (cI, 7, .inl mFhd)), (tr, .inr (2, [.ref td, .ref mo, .ref rd])), (mo, .inr (1, [.ref td, .int u.2.1, .int u.2.2.1, .int u.2.2.2.1, .int u.2.2.2.2.1, .ref zat, .ref zfd, .ref zhd])), (zat, .inl (cI, 5, .inl u.2.2.2.2.2.1)), (zfd, .inl (cI, 7, .inl u.2.2.2.2.2.2.1)), (zhd, .inl (cI, 7, .inl u.2.2.2.2.2.2.2.1)), (rd, .inl (cI, 5, .inl u.2.2.2.2.2.2.2.2))])) (sd, zd, zt, zr, zg, zFat, zFfd, zFhd, Frd) hx hb hr hlocks rfl hQ hK hP hD hS ⟨by decide, by decide⟩ dX3_years_13 (Or.inl ⟨by omega, rfl⟩)

set_option maxHeartbeats 600000 in
set_option maxRecDepth 100000 in
theorem c_X3_count (l : Launch) (D : va_G) (cI cZ cM : ClassId) (h0 : Nat) (n : Int32) (tx : Nat) (le : Int32) (td : Nat) (dr : Nat) (nw : Nat) (ac : Nat) (fa : Int32) (an : Int32) (kp : Nat) (ks : Int32) (sp : Nat) (ss : Nat) (sy : Nat) (sc : Int32) (sd : Int64) (tr : Nat) (ia : Nat) (lpe : Int32) (ltk : Int32) (lho : Nat) (lli : Nat) (lki : Nat) (lfd : Nat) (lfr : Nat) (lto : Nat) (lse : Nat) (lhl : Nat) (lFli : Nat → Int32) (md : Int32) (mt : Int32) (mr : Int32) (mg : Int32) (mat : Nat) (mfd : Nat) (mhd : Nat) (mFat : Nat → Int32) (sz : Nat) (h_lpe : 0 ≤ lpe.toInt ∧ lpe.toInt ≤ 5) : Ci l yX3_count wsX3_count ({ frames := 1, cells := 0, slots := 0, locals := 22 } : Room) D cI cZ cM [.ref h0, .int n] [(h0, .inr (3, [.ref tx, .int le, .ref td, .ref dr, .ref nw, .ref ac, .int fa, .int an, .ref kp, .int ks, .ref sp, .ref ss, .ref sy, .int sc, .long sd, .ref tr, .ref ia])), (td, .inr (0, [.int lpe, .int ltk, .ref lho, .ref lli, .ref lki, .ref lfd, .ref lfr, .ref lto, .ref lse, .ref lhl])), (lli, .inl (cI, 5, .inl lFli)), (nw, .inr (1, [.ref td, .int md, .int mt, .int mr, .int mg, .ref mat, .ref mfd, .ref mhd])), (mat, .inl (cI, 5, .inl mFat))] sz (fun (r : Int32) (u : Unit) => True) (fun u => [(h0, .inr (3, [.ref tx, .int le, .ref td, .ref dr, .ref nw, .ref ac, .int fa, .int an, .ref kp, .int ks, .ref sp, .ref ss, .ref sy, .int sc, .long sd, .ref tr, .ref ia])), (td, .inr (0, [.int lpe, .int ltk, .ref lho, .ref lli, .ref lki, .ref lfd, .ref lfr, .ref lto, .ref lse, .ref lhl])), (lli, .inl (cI, 5, .inl lFli)), (nw, .inr (1, [.ref td, .int md, .int mt, .int mr, .int mg, .ref mat, .ref mfd, .ref mhd])), (mat, .inl (cI, 5, .inl mFat))]) 0 0 := by
  refine begins (l := l) (y := yX3_count) (ws := wsX3_count) (av := [.ref h0, .int n]) (Qc := fun A => va_Qi (fun (r : Int32) (u : Unit) => True) (fun u => Wd D cI cZ cM A ((fun u => [(h0, .inr (3, [.ref tx, .int le, .ref td, .ref dr, .ref nw, .ref ac, .int fa, .int an, .ref kp, .int ks, .ref sp, .ref ss, .ref sy, .int sc, .long sd, .ref tr, .ref ia])), (td, .inr (0, [.int lpe, .int ltk, .ref lho, .ref lli, .ref lki, .ref lfd, .ref lfr, .ref lto, .ref lse, .ref lhl])), (lli, .inl (cI, 5, .inl lFli)), (nw, .inr (1, [.ref td, .int md, .int mt, .int mr, .int mg, .ref mat, .ref mfd, .ref mhd])), (mat, .inl (cI, 5, .inl mFat))]) u)) A) cX3_count 2 (some .int) (by decide) rfl (Nat.le_of_ble_eq_true rfl) ?_
  intro p e s m args below meth c R Q A ls hBd hR hQ hA hS hK hP hD hl
  obtain ⟨hx, hb, hr, hts, hown, hlocks, hin, hml⟩ := hBd
  have hl : lv_has ls 2 [(0, .ref h0), (1, .int n)] := hl
  have iX3 : ∀ w ∈ wsX30, w ∈ wsX3_count := fun _ h => List.mem_cons_of_mem _ (List.mem_append_left _ (List.mem_append_left _ (List.mem_append_right _ h)))
  have iX0 : ∀ w ∈ wsX00, w ∈ wsX3_count := fun _ h => List.mem_cons_of_mem _ (List.mem_append_left _ (List.mem_append_right _ h))
  have iX1 : ∀ w ∈ wsX10, w ∈ wsX3_count := fun _ h => List.mem_cons_of_mem _ (List.mem_append_right _ h)
  obtain ⟨h_lpea, h_lpeb⟩ := h_lpe
  refine lv_iload_n hx hb dX3_count_0 rfl (lv_at hl 1 rfl) ?_
  by_cases c_1 : n.toInt < 0 ∨ 7 < n.toInt
  · refine lv_tableOut (tgt := 103) hx hb dX3_count_1 c_1 (by decide) ?_
    refine lv_bipush (v := (-2)) hx hb dX3_count_103 (by decide) ?_
    exact ret_i (post := (fun (r : Int32) (u : Unit) => True)) (W1 := (fun u => [(h0, .inr (3, [.ref tx, .int le, .ref td, .ref dr, .ref nw, .ref ac, .int fa, .int an, .ref kp, .int ks, .ref sp, .ref ss, .ref sy, .int sc, .long sd, .ref tr, .ref ia])), (td, .inr (0, [.int lpe, .int ltk, .ref lho, .ref lli, .ref lki, .ref lfd, .ref lfr, .ref lto, .ref lse, .ref lhl])), (lli, .inl (cI, 5, .inl lFli)), (nw, .inr (1, [.ref td, .int md, .int mt, .int mr, .int mg, .ref mat, .ref mfd, .ref mhd])), (mat, .inl (cI, 5, .inl mFat))])) () hx hb hr hlocks rfl hQ hK hP hD hS ⟨by decide, by decide⟩ dX3_count_105 trivial
  · rcases (show n.toInt = 0 ∨ n.toInt = 1 ∨ n.toInt = 2 ∨ n.toInt = 3 ∨ n.toInt = 4 ∨ n.toInt = 5 ∨ n.toInt = 6 ∨ n.toInt = 7 by omega) with c_1i | c_1i | c_1i | c_1i | c_1i | c_1i | c_1i | c_1i
    · refine lv_tableIn (tgt := 48) (off := 47) hx hb dX3_count_1 (by omega) (by omega) (by rw [c_1i]; rfl) (by decide) ?_
      refine lv_aload_n hx hb dX3_count_48 rfl (lv_at hl 0 rfl) ?_
      refine va_get (D := D) (ci := 3) (v := .int le) (C := RX3) (T := TX3) (N := 17) hx hb hts iX3 hown hK hP 0 rfl rfl 1 (by decide) (hts (.fieldLink RX3 13 "PunchedTicket" "letters" "I") (List.mem_of_getElem? (i := 1) rfl)) (fun _ h9 => h9) rfl dX3_count_49 ?_
      exact ret_i (post := (fun (r : Int32) (u : Unit) => True)) (W1 := (fun u => [(h0, .inr (3, [.ref tx, .int le, .ref td, .ref dr, .ref nw, .ref ac, .int fa, .int an, .ref kp, .int ks, .ref sp, .ref ss, .ref sy, .int sc, .long sd, .ref tr, .ref ia])), (td, .inr (0, [.int lpe, .int ltk, .ref lho, .ref lli, .ref lki, .ref lfd, .ref lfr, .ref lto, .ref lse, .ref lhl])), (lli, .inl (cI, 5, .inl lFli)), (nw, .inr (1, [.ref td, .int md, .int mt, .int mr, .int mg, .ref mat, .ref mfd, .ref mhd])), (mat, .inl (cI, 5, .inl mFat))])) () hx hb hr hlocks rfl hQ hK hP hD hS ⟨by decide, by decide⟩ dX3_count_52 trivial
    · refine lv_tableIn (tgt := 53) (off := 52) hx hb dX3_count_1 (by omega) (by omega) (by rw [c_1i]; rfl) (by decide) ?_
      refine lv_aload_n hx hb dX3_count_53 rfl (lv_at hl 0 rfl) ?_
      refine va_get (D := D) (ci := 3) (v := .ref td) (C := RX3) (T := TX3) (N := 17) hx hb hts iX3 hown hK hP 0 rfl rfl 2 (by decide) (hts (.fieldLink RX3 20 "PunchedTicket" "told" "LPunchedTicket$Line;") (List.mem_of_getElem? (i := 2) rfl)) (fun _ h9 => h9) rfl dX3_count_54 ?_
      refine va_get (D := D) (ci := 0) (v := .int lpe) (C := RX0) (T := TX0) (N := 10) hx hb hts iX0 hown hK hP 1 rfl rfl 0 (by decide) (hts (.fieldLink RX3 91 "PunchedTicket$Line" "people" "I") (List.mem_of_getElem? (i := 3) rfl)) (fun _ h9 => h9) rfl dX3_count_57 ?_
      exact ret_i (post := (fun (r : Int32) (u : Unit) => True)) (W1 := (fun u => [(h0, .inr (3, [.ref tx, .int le, .ref td, .ref dr, .ref nw, .ref ac, .int fa, .int an, .ref kp, .int ks, .ref sp, .ref ss, .ref sy, .int sc, .long sd, .ref tr, .ref ia])), (td, .inr (0, [.int lpe, .int ltk, .ref lho, .ref lli, .ref lki, .ref lfd, .ref lfr, .ref lto, .ref lse, .ref lhl])), (lli, .inl (cI, 5, .inl lFli)), (nw, .inr (1, [.ref td, .int md, .int mt, .int mr, .int mg, .ref mat, .ref mfd, .ref mhd])), (mat, .inl (cI, 5, .inl mFat))])) () hx hb hr hlocks rfl hQ hK hP hD hS ⟨by decide, by decide⟩ dX3_count_60 trivial
    · refine lv_tableIn (tgt := 61) (off := 60) hx hb dX3_count_1 (by omega) (by omega) (by rw [c_1i]; rfl) (by decide) ?_
      refine lv_aload_n hx hb dX3_count_61 rfl (lv_at hl 0 rfl) ?_
      refine va_get (D := D) (ci := 3) (v := .ref td) (C := RX3) (T := TX3) (N := 17) hx hb hts iX3 hown hK hP 0 rfl rfl 2 (by decide) (hts (.fieldLink RX3 20 "PunchedTicket" "told" "LPunchedTicket$Line;") (List.mem_of_getElem? (i := 2) rfl)) (fun _ h9 => h9) rfl dX3_count_62 ?_
      refine va_get (D := D) (ci := 0) (v := .int ltk) (C := RX0) (T := TX0) (N := 10) hx hb hts iX0 hown hK hP 1 rfl rfl 1 (by decide) (hts (.fieldLink RX3 94 "PunchedTicket$Line" "tickets" "I") (List.mem_of_getElem? (i := 4) rfl)) (fun _ h9 => h9) rfl dX3_count_65 ?_
      exact ret_i (post := (fun (r : Int32) (u : Unit) => True)) (W1 := (fun u => [(h0, .inr (3, [.ref tx, .int le, .ref td, .ref dr, .ref nw, .ref ac, .int fa, .int an, .ref kp, .int ks, .ref sp, .ref ss, .ref sy, .int sc, .long sd, .ref tr, .ref ia])), (td, .inr (0, [.int lpe, .int ltk, .ref lho, .ref lli, .ref lki, .ref lfd, .ref lfr, .ref lto, .ref lse, .ref lhl])), (lli, .inl (cI, 5, .inl lFli)), (nw, .inr (1, [.ref td, .int md, .int mt, .int mr, .int mg, .ref mat, .ref mfd, .ref mhd])), (mat, .inl (cI, 5, .inl mFat))])) () hx hb hr hlocks rfl hQ hK hP hD hS ⟨by decide, by decide⟩ dX3_count_68 trivial
    · refine lv_tableIn (tgt := 69) (off := 68) hx hb dX3_count_1 (by omega) (by omega) (by rw [c_1i]; rfl) (by decide) ?_
      refine lv_aload_n hx hb dX3_count_69 rfl (lv_at hl 0 rfl) ?_
      refine va_get (D := D) (ci := 3) (v := .ref nw) (C := RX3) (T := TX3) (N := 17) hx hb hts iX3 hown hK hP 0 rfl rfl 4 (by decide) (hts (.fieldLink RX3 32 "PunchedTicket" "now" "LPunchedTicket$Moment;") (List.mem_of_getElem? (i := 5) rfl)) (fun _ h9 => h9) rfl dX3_count_70 ?_
      refine va_get (D := D) (ci := 1) (v := .int md) (C := RX1) (T := TX1) (N := 8) hx hb hts iX1 hown hK hP 3 rfl rfl 1 (by decide) (hts (.fieldLink RX3 141 "PunchedTicket$Moment" "day" "I") (List.mem_of_getElem? (i := 6) rfl)) (fun _ h9 => h9) rfl dX3_count_73 ?_
      exact ret_i (post := (fun (r : Int32) (u : Unit) => True)) (W1 := (fun u => [(h0, .inr (3, [.ref tx, .int le, .ref td, .ref dr, .ref nw, .ref ac, .int fa, .int an, .ref kp, .int ks, .ref sp, .ref ss, .ref sy, .int sc, .long sd, .ref tr, .ref ia])), (td, .inr (0, [.int lpe, .int ltk, .ref lho, .ref lli, .ref lki, .ref lfd, .ref lfr, .ref lto, .ref lse, .ref lhl])), (lli, .inl (cI, 5, .inl lFli)), (nw, .inr (1, [.ref td, .int md, .int mt, .int mr, .int mg, .ref mat, .ref mfd, .ref mhd])), (mat, .inl (cI, 5, .inl mFat))])) () hx hb hr hlocks rfl hQ hK hP hD hS ⟨by decide, by decide⟩ dX3_count_76 trivial
    · refine lv_tableIn (tgt := 77) (off := 76) hx hb dX3_count_1 (by omega) (by omega) (by rw [c_1i]; rfl) (by decide) ?_
      refine lv_aload_n hx hb dX3_count_77 rfl (lv_at hl 0 rfl) ?_
      refine va_get (D := D) (ci := 3) (v := .ref nw) (C := RX3) (T := TX3) (N := 17) hx hb hts iX3 hown hK hP 0 rfl rfl 4 (by decide) (hts (.fieldLink RX3 32 "PunchedTicket" "now" "LPunchedTicket$Moment;") (List.mem_of_getElem? (i := 5) rfl)) (fun _ h9 => h9) rfl dX3_count_78 ?_
      refine va_get (D := D) (ci := 1) (v := .int mg) (C := RX1) (T := TX1) (N := 8) hx hb hts iX1 hown hK hP 3 rfl rfl 4 (by decide) (hts (.fieldLink RX3 158 "PunchedTicket$Moment" "gone" "I") (List.mem_of_getElem? (i := 7) rfl)) (fun _ h9 => h9) rfl dX3_count_81 ?_
      exact ret_i (post := (fun (r : Int32) (u : Unit) => True)) (W1 := (fun u => [(h0, .inr (3, [.ref tx, .int le, .ref td, .ref dr, .ref nw, .ref ac, .int fa, .int an, .ref kp, .int ks, .ref sp, .ref ss, .ref sy, .int sc, .long sd, .ref tr, .ref ia])), (td, .inr (0, [.int lpe, .int ltk, .ref lho, .ref lli, .ref lki, .ref lfd, .ref lfr, .ref lto, .ref lse, .ref lhl])), (lli, .inl (cI, 5, .inl lFli)), (nw, .inr (1, [.ref td, .int md, .int mt, .int mr, .int mg, .ref mat, .ref mfd, .ref mhd])), (mat, .inl (cI, 5, .inl mFat))])) () hx hb hr hlocks rfl hQ hK hP hD hS ⟨by decide, by decide⟩ dX3_count_84 trivial
    · refine lv_tableIn (tgt := 85) (off := 84) hx hb dX3_count_1 (by omega) (by omega) (by rw [c_1i]; rfl) (by decide) ?_
      refine lv_aload_n hx hb dX3_count_85 rfl (lv_at hl 0 rfl) ?_
      refine va_get (D := D) (ci := 3) (v := .ref nw) (C := RX3) (T := TX3) (N := 17) hx hb hts iX3 hown hK hP 0 rfl rfl 4 (by decide) (hts (.fieldLink RX3 32 "PunchedTicket" "now" "LPunchedTicket$Moment;") (List.mem_of_getElem? (i := 5) rfl)) (fun _ h9 => h9) rfl dX3_count_86 ?_
      refine cV_i (As := []) (rest := []) ⟨hx, hb, hml, hown, hts⟩ (c_X1_gladNow l D cI cZ cM nw td md mt mr mg mat mfd mhd lpe ltk lho lli lki lfd lfr lto lse lhl lFli mFat _ (show 0 ≤ lpe.toInt ∧ lpe.toInt ≤ 5 by omega)) (cwV 0 hts gX3_count_X1_gladNow rfl rfl rfl (by decide +kernel) ⟨by rw [hR]; decide, by rw [hR]; decide⟩) hK hP hD hS hA [3, 1, 2, 4] [0] rfl rfl (by decide) (by decide) (by decide) rfl 3 rfl hl.1 rfl rfl (Nat.le_of_ble_eq_true rfl) dX3_count_89 ⟨by rw [hR]; decide, by rw [hR]; decide⟩ (fun r_2 u_3 H locs hw hP hD hS => ?_)
      have hP : va_P D vwCl [(h0, .inr (3, [.ref tx, .int le, .ref td, .ref dr, .ref nw, .ref ac, .int fa, .int an, .ref kp, .int ks, .ref sp, .ref ss, .ref sy, .int sc, .long sd, .ref tr, .ref ia])), (td, .inr (0, [.int lpe, .int ltk, .ref lho, .ref lli, .ref lki, .ref lfd, .ref lfr, .ref lto, .ref lse, .ref lhl])), (lli, .inl (cI, 5, .inl lFli)), (nw, .inr (1, [.ref td, .int md, .int mt, .int mr, .int mg, .ref mat, .ref mfd, .ref mhd])), (mat, .inl (cI, 5, .inl mFat))] H := hP.sub [0, 2, 3, 1, 4] rfl
      have hD : va_D A [(h0, .inr (3, [.ref tx, .int le, .ref td, .ref dr, .ref nw, .ref ac, .int fa, .int an, .ref kp, .int ks, .ref sp, .ref ss, .ref sy, .int sc, .long sd, .ref tr, .ref ia])), (td, .inr (0, [.int lpe, .int ltk, .ref lho, .ref lli, .ref lki, .ref lfd, .ref lfr, .ref lto, .ref lse, .ref lhl])), (lli, .inl (cI, 5, .inl lFli)), (nw, .inr (1, [.ref td, .int md, .int mt, .int mr, .int mg, .ref mat, .ref mfd, .ref mhd])), (mat, .inl (cI, 5, .inl mFat))] := hD.sub [0, 2, 3, 1, 4] (by decide) rfl
      refine W.widen (k := 0) (n := 0) (Nat.le_refl _) (Nat.le_refl _) ?_
      have hw : 0 ≤ r_2.toInt ∧ r_2.toInt ≤ lpe.toInt := hw
      have hw_4 := hw
      obtain ⟨hw_4a, hw_4b⟩ := hw_4
      exact ret_i (post := (fun (r : Int32) (u : Unit) => True)) (W1 := (fun u => [(h0, .inr (3, [.ref tx, .int le, .ref td, .ref dr, .ref nw, .ref ac, .int fa, .int an, .ref kp, .int ks, .ref sp, .ref ss, .ref sy, .int sc, .long sd, .ref tr, .ref ia])), (td, .inr (0, [.int lpe, .int ltk, .ref lho, .ref lli, .ref lki, .ref lfd, .ref lfr, .ref lto, .ref lse, .ref lhl])), (lli, .inl (cI, 5, .inl lFli)), (nw, .inr (1, [.ref td, .int md, .int mt, .int mr, .int mg, .ref mat, .ref mfd, .ref mhd])), (mat, .inl (cI, 5, .inl mFat))])) () hx hb hr hlocks rfl hQ hK hP hD hS ⟨by decide, by decide⟩ dX3_count_92 trivial
    · refine lv_tableIn (tgt := 93) (off := 92) hx hb dX3_count_1 (by omega) (by omega) (by rw [c_1i]; rfl) (by decide) ?_
      refine lv_aload_n hx hb dX3_count_93 rfl (lv_at hl 0 rfl) ?_
      refine va_get (D := D) (ci := 3) (v := .int an) (C := RX3) (T := TX3) (N := 17) hx hb hts iX3 hown hK hP 0 rfl rfl 7 (by decide) (hts (.fieldLink RX3 43 "PunchedTicket" "actsInRow" "I") (List.mem_of_getElem? (i := 8) rfl)) (fun _ h9 => h9) rfl dX3_count_94 ?_
      exact ret_i (post := (fun (r : Int32) (u : Unit) => True)) (W1 := (fun u => [(h0, .inr (3, [.ref tx, .int le, .ref td, .ref dr, .ref nw, .ref ac, .int fa, .int an, .ref kp, .int ks, .ref sp, .ref ss, .ref sy, .int sc, .long sd, .ref tr, .ref ia])), (td, .inr (0, [.int lpe, .int ltk, .ref lho, .ref lli, .ref lki, .ref lfd, .ref lfr, .ref lto, .ref lse, .ref lhl])), (lli, .inl (cI, 5, .inl lFli)), (nw, .inr (1, [.ref td, .int md, .int mt, .int mr, .int mg, .ref mat, .ref mfd, .ref mhd])), (mat, .inl (cI, 5, .inl mFat))])) () hx hb hr hlocks rfl hQ hK hP hD hS ⟨by decide, by decide⟩ dX3_count_97 trivial
    · refine lv_tableIn (tgt := 98) (off := 97) hx hb dX3_count_1 (by omega) (by omega) (by rw [c_1i]; rfl) (by decide) ?_
      refine lv_aload_n hx hb dX3_count_98 rfl (lv_at hl 0 rfl) ?_
      refine va_get (D := D) (ci := 3) (v := .int sc) (C := RX3) (T := TX3) (N := 17) hx hb hts iX3 hown hK hP 0 rfl rfl 13 (by decide) (hts (.fieldLink RX3 61 "PunchedTicket" "seenCount" "I") (List.mem_of_getElem? (i := 9) rfl)) (fun _ h9 => h9) rfl dX3_count_99 ?_
      exact ret_i (post := (fun (r : Int32) (u : Unit) => True)) (W1 := (fun u => [(h0, .inr (3, [.ref tx, .int le, .ref td, .ref dr, .ref nw, .ref ac, .int fa, .int an, .ref kp, .int ks, .ref sp, .ref ss, .ref sy, .int sc, .long sd, .ref tr, .ref ia])), (td, .inr (0, [.int lpe, .int ltk, .ref lho, .ref lli, .ref lki, .ref lfd, .ref lfr, .ref lto, .ref lse, .ref lhl])), (lli, .inl (cI, 5, .inl lFli)), (nw, .inr (1, [.ref td, .int md, .int mt, .int mr, .int mg, .ref mat, .ref mfd, .ref mhd])), (mat, .inl (cI, 5, .inl mFat))])) () hx hb hr hlocks rfl hQ hK hP hD hS ⟨by decide, by decide⟩ dX3_count_102 trivial
