set_option maxRecDepth 20000 in
theorem ggX4_pass_X4_goesBy : GoodIn wsX4_pass wsX4_goesBy := goodIn_r _ [10, 3, 11, 16, 17, 18, 19, 20, 21, 22, 23, 24, 25, 26, 27, 28, 29, 30, 31, 32, 33, 34, 35, 36, 37, 38, 39, 40, 41, 42, 43, 44, 45] rfl (by decide +kernel)
set_option maxRecDepth 20000 in
theorem gX4_pass_X4_goesBy : GoodIn wsX4_pass (wsV RX4 118 RX4 yX4_goesBy wsX4_goesBy) := goodIn_app (goodIn_r _ [6, 7, 8, 9] rfl (by decide +kernel)) ggX4_pass_X4_goesBy
set_option maxRecDepth 20000 in
theorem ggX4_pass_X4_use : GoodIn wsX4_pass wsX4_use := goodIn_r _ [15, 3, 11, 1, 16, 17, 18, 19, 20, 21, 22, 23, 24, 25, 26, 27, 28, 29, 30, 31, 32, 33, 34, 35, 36, 37, 38, 39, 40, 41, 42, 43, 44, 45] rfl (by decide +kernel)
set_option maxRecDepth 20000 in
theorem gX4_pass_X4_use : GoodIn wsX4_pass (wsV RX4 125 RX4 yX4_use wsX4_use) := goodIn_app (goodIn_r _ [12, 13, 14, 9] rfl (by decide +kernel)) ggX4_pass_X4_use
theorem dX4_pass_0 : decode cX4_pass 0 = .ok (.bipush 48, 2) := by decide +kernel
theorem dX4_pass_2 : decode cX4_pass 2 = .ok (.iload_n 1, 1) := by decide +kernel
theorem dX4_pass_3 : decode cX4_pass 3 = .ok (.imul, 1) := by decide +kernel
theorem dX4_pass_4 : decode cX4_pass 4 = .ok (.istore_n 3, 1) := by decide +kernel
theorem dX4_pass_5 : decode cX4_pass 5 = .ok (.iconst 0, 1) := by decide +kernel
theorem dX4_pass_6 : decode cX4_pass 6 = .ok (.istore 4, 2) := by decide +kernel
theorem dX4_pass_8 : decode cX4_pass 8 = .ok (.iconst 0, 1) := by decide +kernel
theorem dX4_pass_9 : decode cX4_pass 9 = .ok (.istore 5, 2) := by decide +kernel
theorem dX4_pass_11 : decode cX4_pass 11 = .ok (.iload 5, 2) := by decide +kernel
theorem dX4_pass_13 : decode cX4_pass 13 = .ok (.aload_n 0, 1) := by decide +kernel
theorem dX4_pass_14 : decode cX4_pass 14 = .ok (.getfield 68, 3) := by decide +kernel
theorem dX4_pass_17 : decode cX4_pass 17 = .ok (.if_icmp .ge 24, 3) := by decide +kernel
theorem dX4_pass_20 : decode cX4_pass 20 = .ok (.aload_n 0, 1) := by decide +kernel
theorem dX4_pass_21 : decode cX4_pass 21 = .ok (.getfield 37, 3) := by decide +kernel
theorem dX4_pass_24 : decode cX4_pass 24 = .ok (.iload 5, 2) := by decide +kernel
theorem dX4_pass_26 : decode cX4_pass 26 = .ok (.aload_n 0, 1) := by decide +kernel
theorem dX4_pass_27 : decode cX4_pass 27 = .ok (.iload_n 1, 1) := by decide +kernel
theorem dX4_pass_28 : decode cX4_pass 28 = .ok (.iload 5, 2) := by decide +kernel
theorem dX4_pass_30 : decode cX4_pass 30 = .ok (.iload_n 2, 1) := by decide +kernel
theorem dX4_pass_31 : decode cX4_pass 31 = .ok (.invokevirtual 118, 3) := by decide +kernel
theorem dX4_pass_34 : decode cX4_pass 34 = .ok (.iastore, 1) := by decide +kernel
theorem dX4_pass_35 : decode cX4_pass 35 = .ok (.iinc 5 1, 3) := by decide +kernel
theorem dX4_pass_38 : decode cX4_pass 38 = .ok (.goto (-27), 3) := by decide +kernel
theorem dX4_pass_41 : decode cX4_pass 41 = .ok (.iconst 0, 1) := by decide +kernel
theorem dX4_pass_42 : decode cX4_pass 42 = .ok (.istore 5, 2) := by decide +kernel
theorem dX4_pass_44 : decode cX4_pass 44 = .ok (.iload 5, 2) := by decide +kernel
theorem dX4_pass_46 : decode cX4_pass 46 = .ok (.aload_n 0, 1) := by decide +kernel
theorem dX4_pass_47 : decode cX4_pass 47 = .ok (.getfield 68, 3) := by decide +kernel
theorem dX4_pass_50 : decode cX4_pass 50 = .ok (.if_icmp .ge 138, 3) := by decide +kernel
theorem dX4_pass_53 : decode cX4_pass 53 = .ok (.aload_n 0, 1) := by decide +kernel
theorem dX4_pass_54 : decode cX4_pass 54 = .ok (.getfield 37, 3) := by decide +kernel
theorem dX4_pass_57 : decode cX4_pass 57 = .ok (.iload 5, 2) := by decide +kernel
theorem dX4_pass_59 : decode cX4_pass 59 = .ok (.iaload, 1) := by decide +kernel
theorem dX4_pass_60 : decode cX4_pass 60 = .ok (.bipush (-9), 2) := by decide +kernel
theorem dX4_pass_62 : decode cX4_pass 62 = .ok (.if_icmp .eq 120, 3) := by decide +kernel
theorem dX4_pass_65 : decode cX4_pass 65 = .ok (.iload_n 3, 1) := by decide +kernel
theorem dX4_pass_66 : decode cX4_pass 66 = .ok (.bipush 6, 2) := by decide +kernel
theorem dX4_pass_68 : decode cX4_pass 68 = .ok (.iadd, 1) := by decide +kernel
theorem dX4_pass_69 : decode cX4_pass 69 = .ok (.bipush 6, 2) := by decide +kernel
theorem dX4_pass_71 : decode cX4_pass 71 = .ok (.aload_n 0, 1) := by decide +kernel
theorem dX4_pass_72 : decode cX4_pass 72 = .ok (.getfield 37, 3) := by decide +kernel
theorem dX4_pass_75 : decode cX4_pass 75 = .ok (.iload 5, 2) := by decide +kernel
theorem dX4_pass_77 : decode cX4_pass 77 = .ok (.iaload, 1) := by decide +kernel
theorem dX4_pass_78 : decode cX4_pass 78 = .ok (.imul, 1) := by decide +kernel
theorem dX4_pass_79 : decode cX4_pass 79 = .ok (.iadd, 1) := by decide +kernel
theorem dX4_pass_80 : decode cX4_pass 80 = .ok (.istore 6, 2) := by decide +kernel
theorem dX4_pass_82 : decode cX4_pass 82 = .ok (.aload_n 0, 1) := by decide +kernel
theorem dX4_pass_83 : decode cX4_pass 83 = .ok (.getfield 19, 3) := by decide +kernel
theorem dX4_pass_86 : decode cX4_pass 86 = .ok (.iload 6, 2) := by decide +kernel
theorem dX4_pass_88 : decode cX4_pass 88 = .ok (.iconst 1, 1) := by decide +kernel
theorem dX4_pass_89 : decode cX4_pass 89 = .ok (.iadd, 1) := by decide +kernel
theorem dX4_pass_90 : decode cX4_pass 90 = .ok (.iaload, 1) := by decide +kernel
theorem dX4_pass_91 : decode cX4_pass 91 = .ok (.istore 7, 2) := by decide +kernel
theorem dX4_pass_93 : decode cX4_pass 93 = .ok (.aload_n 0, 1) := by decide +kernel
theorem dX4_pass_94 : decode cX4_pass 94 = .ok (.getfield 19, 3) := by decide +kernel
theorem dX4_pass_97 : decode cX4_pass 97 = .ok (.iload 6, 2) := by decide +kernel
theorem dX4_pass_99 : decode cX4_pass 99 = .ok (.iconst 2, 1) := by decide +kernel
theorem dX4_pass_100 : decode cX4_pass 100 = .ok (.iadd, 1) := by decide +kernel
theorem dX4_pass_101 : decode cX4_pass 101 = .ok (.iaload, 1) := by decide +kernel
theorem dX4_pass_102 : decode cX4_pass 102 = .ok (.istore 8, 2) := by decide +kernel
theorem dX4_pass_104 : decode cX4_pass 104 = .ok (.aload_n 0, 1) := by decide +kernel
theorem dX4_pass_105 : decode cX4_pass 105 = .ok (.getfield 40, 3) := by decide +kernel
theorem dX4_pass_108 : decode cX4_pass 108 = .ok (.iload 5, 2) := by decide +kernel
theorem dX4_pass_110 : decode cX4_pass 110 = .ok (.iload 7, 2) := by decide +kernel
theorem dX4_pass_112 : decode cX4_pass 112 = .ok (.iload 8, 2) := by decide +kernel
theorem dX4_pass_114 : decode cX4_pass 114 = .ok (.if_icmp .ge 8, 3) := by decide +kernel
theorem dX4_pass_117 : decode cX4_pass 117 = .ok (.iload 7, 2) := by decide +kernel
theorem dX4_pass_119 : decode cX4_pass 119 = .ok (.goto 5, 3) := by decide +kernel
theorem dX4_pass_122 : decode cX4_pass 122 = .ok (.iload 8, 2) := by decide +kernel
theorem dX4_pass_124 : decode cX4_pass 124 = .ok (.iastore, 1) := by decide +kernel
theorem dX4_pass_125 : decode cX4_pass 125 = .ok (.aload_n 0, 1) := by decide +kernel
theorem dX4_pass_126 : decode cX4_pass 126 = .ok (.getfield 43, 3) := by decide +kernel
theorem dX4_pass_129 : decode cX4_pass 129 = .ok (.iload 5, 2) := by decide +kernel
theorem dX4_pass_131 : decode cX4_pass 131 = .ok (.iload 7, 2) := by decide +kernel
theorem dX4_pass_133 : decode cX4_pass 133 = .ok (.iload 8, 2) := by decide +kernel
theorem dX4_pass_135 : decode cX4_pass 135 = .ok (.if_icmp .ge 8, 3) := by decide +kernel
theorem dX4_pass_138 : decode cX4_pass 138 = .ok (.iload 8, 2) := by decide +kernel
theorem dX4_pass_140 : decode cX4_pass 140 = .ok (.goto 5, 3) := by decide +kernel
theorem dX4_pass_143 : decode cX4_pass 143 = .ok (.iload 7, 2) := by decide +kernel
theorem dX4_pass_145 : decode cX4_pass 145 = .ok (.iastore, 1) := by decide +kernel
theorem dX4_pass_146 : decode cX4_pass 146 = .ok (.aload_n 0, 1) := by decide +kernel
theorem dX4_pass_147 : decode cX4_pass 147 = .ok (.getfield 19, 3) := by decide +kernel
theorem dX4_pass_150 : decode cX4_pass 150 = .ok (.iload_n 3, 1) := by decide +kernel
theorem dX4_pass_151 : decode cX4_pass 151 = .ok (.iconst 1, 1) := by decide +kernel
theorem dX4_pass_152 : decode cX4_pass 152 = .ok (.iadd, 1) := by decide +kernel
theorem dX4_pass_153 : decode cX4_pass 153 = .ok (.iload 5, 2) := by decide +kernel
theorem dX4_pass_155 : decode cX4_pass 155 = .ok (.iadd, 1) := by decide +kernel
theorem dX4_pass_156 : decode cX4_pass 156 = .ok (.iload 8, 2) := by decide +kernel
theorem dX4_pass_158 : decode cX4_pass 158 = .ok (.iastore, 1) := by decide +kernel
theorem dX4_pass_159 : decode cX4_pass 159 = .ok (.iload 4, 2) := by decide +kernel
theorem dX4_pass_161 : decode cX4_pass 161 = .ok (.iconst 1, 1) := by decide +kernel
theorem dX4_pass_162 : decode cX4_pass 162 = .ok (.iload 5, 2) := by decide +kernel
theorem dX4_pass_164 : decode cX4_pass 164 = .ok (.ishl, 1) := by decide +kernel
theorem dX4_pass_165 : decode cX4_pass 165 = .ok (.ior, 1) := by decide +kernel
theorem dX4_pass_166 : decode cX4_pass 166 = .ok (.istore 4, 2) := by decide +kernel
theorem dX4_pass_168 : decode cX4_pass 168 = .ok (.aload_n 0, 1) := by decide +kernel
theorem dX4_pass_169 : decode cX4_pass 169 = .ok (.iload_n 1, 1) := by decide +kernel
theorem dX4_pass_170 : decode cX4_pass 170 = .ok (.iload 5, 2) := by decide +kernel
theorem dX4_pass_172 : decode cX4_pass 172 = .ok (.aload_n 0, 1) := by decide +kernel
theorem dX4_pass_173 : decode cX4_pass 173 = .ok (.getfield 37, 3) := by decide +kernel
theorem dX4_pass_176 : decode cX4_pass 176 = .ok (.iload 5, 2) := by decide +kernel
theorem dX4_pass_178 : decode cX4_pass 178 = .ok (.iaload, 1) := by decide +kernel
theorem dX4_pass_179 : decode cX4_pass 179 = .ok (.invokevirtual 125, 3) := by decide +kernel
theorem dX4_pass_182 : decode cX4_pass 182 = .ok (.iinc 5 1, 3) := by decide +kernel
theorem dX4_pass_185 : decode cX4_pass 185 = .ok (.goto (-141), 3) := by decide +kernel
theorem dX4_pass_188 : decode cX4_pass 188 = .ok (.aload_n 0, 1) := by decide +kernel
theorem dX4_pass_189 : decode cX4_pass 189 = .ok (.getfield 19, 3) := by decide +kernel
theorem dX4_pass_192 : decode cX4_pass 192 = .ok (.iload_n 3, 1) := by decide +kernel
theorem dX4_pass_193 : decode cX4_pass 193 = .ok (.dup2, 1) := by decide +kernel
theorem dX4_pass_194 : decode cX4_pass 194 = .ok (.iaload, 1) := by decide +kernel
theorem dX4_pass_195 : decode cX4_pass 195 = .ok (.iconst 1, 1) := by decide +kernel
theorem dX4_pass_196 : decode cX4_pass 196 = .ok (.iadd, 1) := by decide +kernel
theorem dX4_pass_197 : decode cX4_pass 197 = .ok (.iastore, 1) := by decide +kernel
theorem dX4_pass_198 : decode cX4_pass 198 = .ok (.iload 4, 2) := by decide +kernel
theorem dX4_pass_200 : decode cX4_pass 200 = .ok (.ireturn, 1) := by decide +kernel
set_option maxRecDepth 20000 in
theorem ggX4_areTogether_X4_has : GoodIn wsX4_areTogether wsX4_has := goodIn_r _ [6] rfl (by decide +kernel)
set_option maxRecDepth 20000 in
theorem gX4_areTogether_X4_has : GoodIn wsX4_areTogether (va_wsS RX4 129 yX4_has wsX4_has) := goodIn_app (goodIn_of _ (by decide +kernel)) ggX4_areTogether_X4_has
theorem dX4_areTogether_0 : decode cX4_areTogether 0 = .ok (.iload_n 1, 1) := by decide +kernel
theorem dX4_areTogether_1 : decode cX4_areTogether 1 = .ok (.iload_n 2, 1) := by decide +kernel
theorem dX4_areTogether_2 : decode cX4_areTogether 2 = .ok (.invokestatic 129, 3) := by decide +kernel
theorem dX4_areTogether_5 : decode cX4_areTogether 5 = .ok (.ifCond .eq 78, 3) := by decide +kernel
theorem dX4_areTogether_8 : decode cX4_areTogether 8 = .ok (.iload_n 1, 1) := by decide +kernel
theorem dX4_areTogether_9 : decode cX4_areTogether 9 = .ok (.iload_n 3, 1) := by decide +kernel
theorem dX4_areTogether_10 : decode cX4_areTogether 10 = .ok (.invokestatic 129, 3) := by decide +kernel
theorem dX4_areTogether_13 : decode cX4_areTogether 13 = .ok (.ifCond .eq 70, 3) := by decide +kernel
theorem dX4_areTogether_16 : decode cX4_areTogether 16 = .ok (.aload_n 0, 1) := by decide +kernel
theorem dX4_areTogether_17 : decode cX4_areTogether 17 = .ok (.getfield 40, 3) := by decide +kernel
theorem dX4_areTogether_20 : decode cX4_areTogether 20 = .ok (.iload_n 2, 1) := by decide +kernel
theorem dX4_areTogether_21 : decode cX4_areTogether 21 = .ok (.iaload, 1) := by decide +kernel
theorem dX4_areTogether_22 : decode cX4_areTogether 22 = .ok (.aload_n 0, 1) := by decide +kernel
theorem dX4_areTogether_23 : decode cX4_areTogether 23 = .ok (.getfield 40, 3) := by decide +kernel
theorem dX4_areTogether_26 : decode cX4_areTogether 26 = .ok (.iload_n 3, 1) := by decide +kernel
theorem dX4_areTogether_27 : decode cX4_areTogether 27 = .ok (.iaload, 1) := by decide +kernel
theorem dX4_areTogether_28 : decode cX4_areTogether 28 = .ok (.if_icmp .le 12, 3) := by decide +kernel
theorem dX4_areTogether_31 : decode cX4_areTogether 31 = .ok (.aload_n 0, 1) := by decide +kernel
theorem dX4_areTogether_32 : decode cX4_areTogether 32 = .ok (.getfield 40, 3) := by decide +kernel
theorem dX4_areTogether_35 : decode cX4_areTogether 35 = .ok (.iload_n 2, 1) := by decide +kernel
theorem dX4_areTogether_36 : decode cX4_areTogether 36 = .ok (.iaload, 1) := by decide +kernel
theorem dX4_areTogether_37 : decode cX4_areTogether 37 = .ok (.goto 9, 3) := by decide +kernel
theorem dX4_areTogether_40 : decode cX4_areTogether 40 = .ok (.aload_n 0, 1) := by decide +kernel
theorem dX4_areTogether_41 : decode cX4_areTogether 41 = .ok (.getfield 40, 3) := by decide +kernel
theorem dX4_areTogether_44 : decode cX4_areTogether 44 = .ok (.iload_n 3, 1) := by decide +kernel
theorem dX4_areTogether_45 : decode cX4_areTogether 45 = .ok (.iaload, 1) := by decide +kernel
theorem dX4_areTogether_46 : decode cX4_areTogether 46 = .ok (.aload_n 0, 1) := by decide +kernel
theorem dX4_areTogether_47 : decode cX4_areTogether 47 = .ok (.getfield 43, 3) := by decide +kernel
theorem dX4_areTogether_50 : decode cX4_areTogether 50 = .ok (.iload_n 2, 1) := by decide +kernel
theorem dX4_areTogether_51 : decode cX4_areTogether 51 = .ok (.iaload, 1) := by decide +kernel
theorem dX4_areTogether_52 : decode cX4_areTogether 52 = .ok (.aload_n 0, 1) := by decide +kernel
theorem dX4_areTogether_53 : decode cX4_areTogether 53 = .ok (.getfield 43, 3) := by decide +kernel
theorem dX4_areTogether_56 : decode cX4_areTogether 56 = .ok (.iload_n 3, 1) := by decide +kernel
theorem dX4_areTogether_57 : decode cX4_areTogether 57 = .ok (.iaload, 1) := by decide +kernel
theorem dX4_areTogether_58 : decode cX4_areTogether 58 = .ok (.if_icmp .ge 12, 3) := by decide +kernel
theorem dX4_areTogether_61 : decode cX4_areTogether 61 = .ok (.aload_n 0, 1) := by decide +kernel
theorem dX4_areTogether_62 : decode cX4_areTogether 62 = .ok (.getfield 43, 3) := by decide +kernel
theorem dX4_areTogether_65 : decode cX4_areTogether 65 = .ok (.iload_n 2, 1) := by decide +kernel
theorem dX4_areTogether_66 : decode cX4_areTogether 66 = .ok (.iaload, 1) := by decide +kernel
theorem dX4_areTogether_67 : decode cX4_areTogether 67 = .ok (.goto 9, 3) := by decide +kernel
theorem dX4_areTogether_70 : decode cX4_areTogether 70 = .ok (.aload_n 0, 1) := by decide +kernel
theorem dX4_areTogether_71 : decode cX4_areTogether 71 = .ok (.getfield 43, 3) := by decide +kernel
theorem dX4_areTogether_74 : decode cX4_areTogether 74 = .ok (.iload_n 3, 1) := by decide +kernel
theorem dX4_areTogether_75 : decode cX4_areTogether 75 = .ok (.iaload, 1) := by decide +kernel
theorem dX4_areTogether_76 : decode cX4_areTogether 76 = .ok (.if_icmp .ge 7, 3) := by decide +kernel
theorem dX4_areTogether_79 : decode cX4_areTogether 79 = .ok (.iconst 1, 1) := by decide +kernel
theorem dX4_areTogether_80 : decode cX4_areTogether 80 = .ok (.goto 4, 3) := by decide +kernel
theorem dX4_areTogether_83 : decode cX4_areTogether 83 = .ok (.iconst 0, 1) := by decide +kernel
theorem dX4_areTogether_84 : decode cX4_areTogether 84 = .ok (.ireturn, 1) := by decide +kernel
set_option maxRecDepth 20000 in
theorem ggX4_isDouble_X4_areTogether : GoodIn wsX4_isDouble wsX4_areTogether := goodIn_r _ [8, 9, 10, 11, 12, 7, 13, 14, 15, 16, 17, 18, 19, 20, 21, 22, 23, 24, 25, 26, 27, 28, 29, 30, 31, 32, 33, 34, 35, 36, 37, 38, 39, 40, 41, 42, 43] rfl (by decide +kernel)
set_option maxRecDepth 20000 in
theorem gX4_isDouble_X4_areTogether : GoodIn wsX4_isDouble (wsV RX4 133 RX4 yX4_areTogether wsX4_areTogether) := goodIn_app (goodIn_r _ [4, 5, 6, 7] rfl (by decide +kernel)) ggX4_isDouble_X4_areTogether
theorem dX4_isDouble_0 : decode cX4_isDouble 0 = .ok (.iconst 0, 1) := by decide +kernel
theorem dX4_isDouble_1 : decode cX4_isDouble 1 = .ok (.istore_n 2, 1) := by decide +kernel
theorem dX4_isDouble_2 : decode cX4_isDouble 2 = .ok (.iconst 0, 1) := by decide +kernel
theorem dX4_isDouble_3 : decode cX4_isDouble 3 = .ok (.istore_n 3, 1) := by decide +kernel
theorem dX4_isDouble_4 : decode cX4_isDouble 4 = .ok (.iload_n 3, 1) := by decide +kernel
theorem dX4_isDouble_5 : decode cX4_isDouble 5 = .ok (.aload_n 0, 1) := by decide +kernel
theorem dX4_isDouble_6 : decode cX4_isDouble 6 = .ok (.getfield 68, 3) := by decide +kernel
theorem dX4_isDouble_9 : decode cX4_isDouble 9 = .ok (.if_icmp .ge 71, 3) := by decide +kernel
theorem dX4_isDouble_12 : decode cX4_isDouble 12 = .ok (.iconst 0, 1) := by decide +kernel
theorem dX4_isDouble_13 : decode cX4_isDouble 13 = .ok (.istore 4, 2) := by decide +kernel
theorem dX4_isDouble_15 : decode cX4_isDouble 15 = .ok (.iload 4, 2) := by decide +kernel
theorem dX4_isDouble_17 : decode cX4_isDouble 17 = .ok (.iload_n 3, 1) := by decide +kernel
theorem dX4_isDouble_18 : decode cX4_isDouble 18 = .ok (.if_icmp .ge 56, 3) := by decide +kernel
theorem dX4_isDouble_21 : decode cX4_isDouble 21 = .ok (.iload_n 2, 1) := by decide +kernel
theorem dX4_isDouble_22 : decode cX4_isDouble 22 = .ok (.ifCond .ne 40, 3) := by decide +kernel
theorem dX4_isDouble_25 : decode cX4_isDouble 25 = .ok (.aload_n 0, 1) := by decide +kernel
theorem dX4_isDouble_26 : decode cX4_isDouble 26 = .ok (.iload_n 1, 1) := by decide +kernel
theorem dX4_isDouble_27 : decode cX4_isDouble 27 = .ok (.iload_n 3, 1) := by decide +kernel
theorem dX4_isDouble_28 : decode cX4_isDouble 28 = .ok (.iload 4, 2) := by decide +kernel
theorem dX4_isDouble_30 : decode cX4_isDouble 30 = .ok (.invokevirtual 133, 3) := by decide +kernel
theorem dX4_isDouble_33 : decode cX4_isDouble 33 = .ok (.ifCond .eq 33, 3) := by decide +kernel
theorem dX4_isDouble_36 : decode cX4_isDouble 36 = .ok (.aload_n 0, 1) := by decide +kernel
theorem dX4_isDouble_37 : decode cX4_isDouble 37 = .ok (.getfield 16, 3) := by decide +kernel
theorem dX4_isDouble_40 : decode cX4_isDouble 40 = .ok (.aload_n 0, 1) := by decide +kernel
theorem dX4_isDouble_41 : decode cX4_isDouble 41 = .ok (.getfield 37, 3) := by decide +kernel
theorem dX4_isDouble_44 : decode cX4_isDouble 44 = .ok (.iload_n 3, 1) := by decide +kernel
theorem dX4_isDouble_45 : decode cX4_isDouble 45 = .ok (.iaload, 1) := by decide +kernel
theorem dX4_isDouble_46 : decode cX4_isDouble 46 = .ok (.iaload, 1) := by decide +kernel
theorem dX4_isDouble_47 : decode cX4_isDouble 47 = .ok (.aload_n 0, 1) := by decide +kernel
theorem dX4_isDouble_48 : decode cX4_isDouble 48 = .ok (.getfield 16, 3) := by decide +kernel
theorem dX4_isDouble_51 : decode cX4_isDouble 51 = .ok (.aload_n 0, 1) := by decide +kernel
theorem dX4_isDouble_52 : decode cX4_isDouble 52 = .ok (.getfield 37, 3) := by decide +kernel
theorem dX4_isDouble_55 : decode cX4_isDouble 55 = .ok (.iload 4, 2) := by decide +kernel
theorem dX4_isDouble_57 : decode cX4_isDouble 57 = .ok (.iaload, 1) := by decide +kernel
theorem dX4_isDouble_58 : decode cX4_isDouble 58 = .ok (.iaload, 1) := by decide +kernel
theorem dX4_isDouble_59 : decode cX4_isDouble 59 = .ok (.if_icmp .ne 7, 3) := by decide +kernel
theorem dX4_isDouble_62 : decode cX4_isDouble 62 = .ok (.iconst 1, 1) := by decide +kernel
theorem dX4_isDouble_63 : decode cX4_isDouble 63 = .ok (.goto 4, 3) := by decide +kernel
theorem dX4_isDouble_66 : decode cX4_isDouble 66 = .ok (.iconst 0, 1) := by decide +kernel
theorem dX4_isDouble_67 : decode cX4_isDouble 67 = .ok (.istore_n 2, 1) := by decide +kernel
theorem dX4_isDouble_68 : decode cX4_isDouble 68 = .ok (.iinc 4 1, 3) := by decide +kernel
theorem dX4_isDouble_71 : decode cX4_isDouble 71 = .ok (.goto (-56), 3) := by decide +kernel
theorem dX4_isDouble_74 : decode cX4_isDouble 74 = .ok (.iinc 3 1, 3) := by decide +kernel
theorem dX4_isDouble_77 : decode cX4_isDouble 77 = .ok (.goto (-73), 3) := by decide +kernel
theorem dX4_isDouble_80 : decode cX4_isDouble 80 = .ok (.iload_n 2, 1) := by decide +kernel
theorem dX4_isDouble_81 : decode cX4_isDouble 81 = .ok (.ireturn, 1) := by decide +kernel
theorem dX4_layTrial_0 : decode cX4_layTrial 0 = .ok (.iconst 0, 1) := by decide +kernel
theorem dX4_layTrial_1 : decode cX4_layTrial 1 = .ok (.istore_n 1, 1) := by decide +kernel
theorem dX4_layTrial_2 : decode cX4_layTrial 2 = .ok (.iload_n 1, 1) := by decide +kernel
theorem dX4_layTrial_3 : decode cX4_layTrial 3 = .ok (.bipush 48, 2) := by decide +kernel
theorem dX4_layTrial_5 : decode cX4_layTrial 5 = .ok (.if_icmp .ge 24, 3) := by decide +kernel
theorem dX4_layTrial_8 : decode cX4_layTrial 8 = .ok (.aload_n 0, 1) := by decide +kernel
theorem dX4_layTrial_9 : decode cX4_layTrial 9 = .ok (.getfield 19, 3) := by decide +kernel
theorem dX4_layTrial_12 : decode cX4_layTrial 12 = .ok (.bipush 48, 2) := by decide +kernel
theorem dX4_layTrial_14 : decode cX4_layTrial 14 = .ok (.iload_n 1, 1) := by decide +kernel
theorem dX4_layTrial_15 : decode cX4_layTrial 15 = .ok (.iadd, 1) := by decide +kernel
theorem dX4_layTrial_16 : decode cX4_layTrial 16 = .ok (.aload_n 0, 1) := by decide +kernel
theorem dX4_layTrial_17 : decode cX4_layTrial 17 = .ok (.getfield 19, 3) := by decide +kernel
theorem dX4_layTrial_20 : decode cX4_layTrial 20 = .ok (.iload_n 1, 1) := by decide +kernel
theorem dX4_layTrial_21 : decode cX4_layTrial 21 = .ok (.iaload, 1) := by decide +kernel
theorem dX4_layTrial_22 : decode cX4_layTrial 22 = .ok (.iastore, 1) := by decide +kernel
theorem dX4_layTrial_23 : decode cX4_layTrial 23 = .ok (.iinc 1 1, 3) := by decide +kernel
theorem dX4_layTrial_26 : decode cX4_layTrial 26 = .ok (.goto (-24), 3) := by decide +kernel
theorem dX4_layTrial_29 : decode cX4_layTrial 29 = .ok (.return_, 1) := by decide +kernel
theorem dX4_loseTrial_0 : decode cX4_loseTrial 0 = .ok (.iconst 0, 1) := by decide +kernel
theorem dX4_loseTrial_1 : decode cX4_loseTrial 1 = .ok (.istore_n 2, 1) := by decide +kernel
theorem dX4_loseTrial_2 : decode cX4_loseTrial 2 = .ok (.iload_n 2, 1) := by decide +kernel
theorem dX4_loseTrial_3 : decode cX4_loseTrial 3 = .ok (.aload_n 0, 1) := by decide +kernel
theorem dX4_loseTrial_4 : decode cX4_loseTrial 4 = .ok (.getfield 101, 3) := by decide +kernel
theorem dX4_loseTrial_7 : decode cX4_loseTrial 7 = .ok (.if_icmp .ge 31, 3) := by decide +kernel
theorem dX4_loseTrial_10 : decode cX4_loseTrial 10 = .ok (.aload_n 0, 1) := by decide +kernel
theorem dX4_loseTrial_11 : decode cX4_loseTrial 11 = .ok (.getfield 19, 3) := by decide +kernel
theorem dX4_loseTrial_14 : decode cX4_loseTrial 14 = .ok (.bipush 54, 2) := by decide +kernel
theorem dX4_loseTrial_16 : decode cX4_loseTrial 16 = .ok (.bipush 6, 2) := by decide +kernel
theorem dX4_loseTrial_18 : decode cX4_loseTrial 18 = .ok (.iload_n 2, 1) := by decide +kernel
theorem dX4_loseTrial_19 : decode cX4_loseTrial 19 = .ok (.imul, 1) := by decide +kernel
theorem dX4_loseTrial_20 : decode cX4_loseTrial 20 = .ok (.iadd, 1) := by decide +kernel
theorem dX4_loseTrial_21 : decode cX4_loseTrial 21 = .ok (.iconst 5, 1) := by decide +kernel
theorem dX4_loseTrial_22 : decode cX4_loseTrial 22 = .ok (.iadd, 1) := by decide +kernel
theorem dX4_loseTrial_23 : decode cX4_loseTrial 23 = .ok (.dup2, 1) := by decide +kernel
theorem dX4_loseTrial_24 : decode cX4_loseTrial 24 = .ok (.iaload, 1) := by decide +kernel
theorem dX4_loseTrial_25 : decode cX4_loseTrial 25 = .ok (.iload_n 1, 1) := by decide +kernel
theorem dX4_loseTrial_26 : decode cX4_loseTrial 26 = .ok (.iload_n 2, 1) := by decide +kernel
theorem dX4_loseTrial_27 : decode cX4_loseTrial 27 = .ok (.ishr, 1) := by decide +kernel
theorem dX4_loseTrial_28 : decode cX4_loseTrial 28 = .ok (.iconst 1, 1) := by decide +kernel
theorem dX4_loseTrial_29 : decode cX4_loseTrial 29 = .ok (.iand, 1) := by decide +kernel
theorem dX4_loseTrial_30 : decode cX4_loseTrial 30 = .ok (.ior, 1) := by decide +kernel
theorem dX4_loseTrial_31 : decode cX4_loseTrial 31 = .ok (.iastore, 1) := by decide +kernel
theorem dX4_loseTrial_32 : decode cX4_loseTrial 32 = .ok (.iinc 2 1, 3) := by decide +kernel
theorem dX4_loseTrial_35 : decode cX4_loseTrial 35 = .ok (.goto (-33), 3) := by decide +kernel
theorem dX4_loseTrial_38 : decode cX4_loseTrial 38 = .ok (.return_, 1) := by decide +kernel
set_option maxRecDepth 20000 in
theorem ggX4_passAll_X4_pass : GoodIn wsX4_passAll wsX4_pass := goodIn_r _ [6, 7, 8, 1, 9, 10, 11, 12, 13, 5, 14, 15, 16, 17, 18, 19, 23, 24, 25, 26, 27, 28, 29, 30, 31, 32, 33, 34, 35, 36, 37, 38, 39, 40, 41, 42, 43, 44, 45, 46, 47, 48, 49, 50, 51, 52] rfl (by decide +kernel)
set_option maxRecDepth 20000 in
theorem gX4_passAll_X4_pass : GoodIn wsX4_passAll (wsV RX4 143 RX4 yX4_pass wsX4_pass) := goodIn_app (goodIn_r _ [2, 3, 4, 5] rfl (by decide +kernel)) ggX4_passAll_X4_pass
set_option maxRecDepth 20000 in
theorem ggX4_passAll_X4_ones : GoodIn wsX4_passAll wsX4_ones := goodIn_r _ [22] rfl (by decide +kernel)
set_option maxRecDepth 20000 in
theorem gX4_passAll_X4_ones : GoodIn wsX4_passAll (va_wsS RX4 152 yX4_ones wsX4_ones) := goodIn_app (goodIn_of _ (by decide +kernel)) ggX4_passAll_X4_ones
theorem dX4_passAll_0 : decode cX4_passAll 0 = .ok (.iconst 0, 1) := by decide +kernel
theorem dX4_passAll_1 : decode cX4_passAll 1 = .ok (.istore_n 2, 1) := by decide +kernel
theorem dX4_passAll_2 : decode cX4_passAll 2 = .ok (.aload_n 0, 1) := by decide +kernel
theorem dX4_passAll_3 : decode cX4_passAll 3 = .ok (.getfield 19, 3) := by decide +kernel
theorem dX4_passAll_6 : decode cX4_passAll 6 = .ok (.bipush 48, 2) := by decide +kernel
theorem dX4_passAll_8 : decode cX4_passAll 8 = .ok (.iaload, 1) := by decide +kernel
theorem dX4_passAll_9 : decode cX4_passAll 9 = .ok (.bipush 10, 2) := by decide +kernel
theorem dX4_passAll_11 : decode cX4_passAll 11 = .ok (.if_icmp .ge 18, 3) := by decide +kernel
theorem dX4_passAll_14 : decode cX4_passAll 14 = .ok (.iload_n 2, 1) := by decide +kernel
theorem dX4_passAll_15 : decode cX4_passAll 15 = .ok (.aload_n 0, 1) := by decide +kernel
theorem dX4_passAll_16 : decode cX4_passAll 16 = .ok (.iconst 1, 1) := by decide +kernel
theorem dX4_passAll_17 : decode cX4_passAll 17 = .ok (.iload_n 1, 1) := by decide +kernel
theorem dX4_passAll_18 : decode cX4_passAll 18 = .ok (.invokevirtual 143, 3) := by decide +kernel
theorem dX4_passAll_21 : decode cX4_passAll 21 = .ok (.invokestatic 152, 3) := by decide +kernel
theorem dX4_passAll_24 : decode cX4_passAll 24 = .ok (.iadd, 1) := by decide +kernel
theorem dX4_passAll_25 : decode cX4_passAll 25 = .ok (.istore_n 2, 1) := by decide +kernel
theorem dX4_passAll_26 : decode cX4_passAll 26 = .ok (.goto (-24), 3) := by decide +kernel
theorem dX4_passAll_29 : decode cX4_passAll 29 = .ok (.iload_n 2, 1) := by decide +kernel
theorem dX4_passAll_30 : decode cX4_passAll 30 = .ok (.ireturn, 1) := by decide +kernel
theorem dX4_gladOf_0 : decode cX4_gladOf 0 = .ok (.iconst 0, 1) := by decide +kernel
theorem dX4_gladOf_1 : decode cX4_gladOf 1 = .ok (.istore_n 1, 1) := by decide +kernel
theorem dX4_gladOf_2 : decode cX4_gladOf 2 = .ok (.iconst 0, 1) := by decide +kernel
theorem dX4_gladOf_3 : decode cX4_gladOf 3 = .ok (.istore_n 2, 1) := by decide +kernel
theorem dX4_gladOf_4 : decode cX4_gladOf 4 = .ok (.iload_n 2, 1) := by decide +kernel
theorem dX4_gladOf_5 : decode cX4_gladOf 5 = .ok (.aload_n 0, 1) := by decide +kernel
theorem dX4_gladOf_6 : decode cX4_gladOf 6 = .ok (.getfield 68, 3) := by decide +kernel
theorem dX4_gladOf_9 : decode cX4_gladOf 9 = .ok (.if_icmp .ge 35, 3) := by decide +kernel
theorem dX4_gladOf_12 : decode cX4_gladOf 12 = .ok (.iload_n 1, 1) := by decide +kernel
theorem dX4_gladOf_13 : decode cX4_gladOf 13 = .ok (.aload_n 0, 1) := by decide +kernel
theorem dX4_gladOf_14 : decode cX4_gladOf 14 = .ok (.getfield 19, 3) := by decide +kernel
theorem dX4_gladOf_17 : decode cX4_gladOf 17 = .ok (.bipush 49, 2) := by decide +kernel
theorem dX4_gladOf_19 : decode cX4_gladOf 19 = .ok (.iload_n 2, 1) := by decide +kernel
theorem dX4_gladOf_20 : decode cX4_gladOf 20 = .ok (.iadd, 1) := by decide +kernel
theorem dX4_gladOf_21 : decode cX4_gladOf 21 = .ok (.iaload, 1) := by decide +kernel
theorem dX4_gladOf_22 : decode cX4_gladOf 22 = .ok (.aload_n 0, 1) := by decide +kernel
theorem dX4_gladOf_23 : decode cX4_gladOf 23 = .ok (.getfield 7, 3) := by decide +kernel
theorem dX4_gladOf_26 : decode cX4_gladOf 26 = .ok (.iload_n 2, 1) := by decide +kernel
theorem dX4_gladOf_27 : decode cX4_gladOf 27 = .ok (.iaload, 1) := by decide +kernel
theorem dX4_gladOf_28 : decode cX4_gladOf 28 = .ok (.if_icmp .ne 7, 3) := by decide +kernel
theorem dX4_gladOf_31 : decode cX4_gladOf 31 = .ok (.iconst 1, 1) := by decide +kernel
theorem dX4_gladOf_32 : decode cX4_gladOf 32 = .ok (.goto 4, 3) := by decide +kernel
theorem dX4_gladOf_35 : decode cX4_gladOf 35 = .ok (.iconst 0, 1) := by decide +kernel
theorem dX4_gladOf_36 : decode cX4_gladOf 36 = .ok (.iadd, 1) := by decide +kernel
theorem dX4_gladOf_37 : decode cX4_gladOf 37 = .ok (.istore_n 1, 1) := by decide +kernel
theorem dX4_gladOf_38 : decode cX4_gladOf 38 = .ok (.iinc 2 1, 3) := by decide +kernel
theorem dX4_gladOf_41 : decode cX4_gladOf 41 = .ok (.goto (-37), 3) := by decide +kernel
theorem dX4_gladOf_44 : decode cX4_gladOf 44 = .ok (.iload_n 1, 1) := by decide +kernel
theorem dX4_gladOf_45 : decode cX4_gladOf 45 = .ok (.ireturn, 1) := by decide +kernel
set_option maxRecDepth 20000 in
theorem ggX4_gladWithout_X4_layTrial : GoodIn wsX4_gladWithout wsX4_layTrial := goodIn_r _ [6, 7, 41, 42, 43, 44, 45, 46, 47, 48, 49, 50, 51, 52, 53, 54, 55, 56, 57, 58, 59, 60, 61, 62, 63, 64, 65, 66, 67, 68, 69, 70] rfl (by decide +kernel)
set_option maxRecDepth 20000 in
theorem gX4_gladWithout_X4_layTrial : GoodIn wsX4_gladWithout (wsV RX4 157 RX4 yX4_layTrial wsX4_layTrial) := goodIn_app (goodIn_r _ [2, 3, 4, 5] rfl (by decide +kernel)) ggX4_gladWithout_X4_layTrial
set_option maxRecDepth 20000 in
theorem ggX4_gladWithout_X4_loseTrial : GoodIn wsX4_gladWithout wsX4_loseTrial := goodIn_r _ [11, 1, 7, 41, 42, 43, 44, 45, 46, 47, 48, 49, 50, 51, 52, 53, 54, 55, 56, 57, 58, 59, 60, 61, 62, 63, 64, 65, 66, 67, 68, 69, 70] rfl (by decide +kernel)
set_option maxRecDepth 20000 in
theorem gX4_gladWithout_X4_loseTrial : GoodIn wsX4_gladWithout (wsV RX4 169 RX4 yX4_loseTrial wsX4_loseTrial) := goodIn_app (goodIn_r _ [8, 9, 10, 5] rfl (by decide +kernel)) ggX4_gladWithout_X4_loseTrial
set_option maxRecDepth 20000 in
theorem ggX4_gladWithout_X4_passAll : GoodIn wsX4_gladWithout wsX4_passAll := goodIn_r _ [15, 7, 16, 17, 18, 5, 19, 20, 21, 22, 23, 24, 25, 26, 27, 28, 29, 30, 31, 32, 33, 34, 35, 41, 42, 43, 44, 45, 46, 47, 48, 49, 50, 51, 52, 53, 54, 55, 56, 57, 58, 59, 60, 61, 62, 63, 64, 65, 66, 67, 68, 69, 70] rfl (by decide +kernel)
set_option maxRecDepth 20000 in
theorem gX4_gladWithout_X4_passAll : GoodIn wsX4_gladWithout (wsV RX4 173 RX4 yX4_passAll wsX4_passAll) := goodIn_app (goodIn_r _ [12, 13, 14, 5] rfl (by decide +kernel)) ggX4_gladWithout_X4_passAll
set_option maxRecDepth 20000 in
theorem ggX4_gladWithout_X4_gladOf : GoodIn wsX4_gladWithout wsX4_gladOf := goodIn_r _ [39, 20, 7, 40, 41, 42, 43, 44, 45, 46, 47, 48, 49, 50, 51, 52, 53, 54, 55, 56, 57, 58, 59, 60, 61, 62, 63, 64, 65, 66, 67, 68, 69, 70] rfl (by decide +kernel)
set_option maxRecDepth 20000 in
theorem gX4_gladWithout_X4_gladOf : GoodIn wsX4_gladWithout (wsV RX4 176 RX4 yX4_gladOf wsX4_gladOf) := goodIn_app (goodIn_r _ [36, 37, 38, 5] rfl (by decide +kernel)) ggX4_gladWithout_X4_gladOf
theorem dX4_gladWithout_0 : decode cX4_gladWithout 0 = .ok (.aload_n 0, 1) := by decide +kernel
theorem dX4_gladWithout_1 : decode cX4_gladWithout 1 = .ok (.invokevirtual 157, 3) := by decide +kernel
theorem dX4_gladWithout_4 : decode cX4_gladWithout 4 = .ok (.aload_n 0, 1) := by decide +kernel
theorem dX4_gladWithout_5 : decode cX4_gladWithout 5 = .ok (.iload_n 1, 1) := by decide +kernel
theorem dX4_gladWithout_6 : decode cX4_gladWithout 6 = .ok (.invokevirtual 169, 3) := by decide +kernel
theorem dX4_gladWithout_9 : decode cX4_gladWithout 9 = .ok (.aload_n 0, 1) := by decide +kernel
theorem dX4_gladWithout_10 : decode cX4_gladWithout 10 = .ok (.aload_n 0, 1) := by decide +kernel
theorem dX4_gladWithout_11 : decode cX4_gladWithout 11 = .ok (.getfield 101, 3) := by decide +kernel
theorem dX4_gladWithout_14 : decode cX4_gladWithout 14 = .ok (.invokevirtual 173, 3) := by decide +kernel
theorem dX4_gladWithout_17 : decode cX4_gladWithout 17 = .ok (.pop, 1) := by decide +kernel
theorem dX4_gladWithout_18 : decode cX4_gladWithout 18 = .ok (.aload_n 0, 1) := by decide +kernel
theorem dX4_gladWithout_19 : decode cX4_gladWithout 19 = .ok (.invokevirtual 176, 3) := by decide +kernel
theorem dX4_gladWithout_22 : decode cX4_gladWithout 22 = .ok (.ireturn, 1) := by decide +kernel
set_option maxRecDepth 20000 in
theorem ggX4_glad_X4_gladWithout : GoodIn wsX4_glad wsX4_gladWithout := goodIn_r _ [5, 6, 7, 8, 9, 4, 10, 11, 12, 13, 14, 15, 16, 17, 18, 19, 20, 21, 22, 23, 24, 25, 26, 27, 28, 29, 30, 31, 32, 33, 34, 35, 36, 37, 38, 39, 40, 41, 42, 43, 44, 45, 46, 47, 48, 49, 50, 51, 52, 53, 54, 55, 56, 57, 58, 59, 60, 61, 62, 63, 64, 65, 66, 67, 68, 69, 70, 71, 72, 73, 74] rfl (by decide +kernel)
set_option maxRecDepth 20000 in
theorem gX4_glad_X4_gladWithout : GoodIn wsX4_glad (wsV RX4 179 RX4 yX4_gladWithout wsX4_gladWithout) := goodIn_app (goodIn_r _ [1, 2, 3, 4] rfl (by decide +kernel)) ggX4_glad_X4_gladWithout
theorem dX4_glad_0 : decode cX4_glad 0 = .ok (.aload_n 0, 1) := by decide +kernel
theorem dX4_glad_1 : decode cX4_glad 1 = .ok (.iconst 0, 1) := by decide +kernel
theorem dX4_glad_2 : decode cX4_glad 2 = .ok (.invokevirtual 179, 3) := by decide +kernel
theorem dX4_glad_5 : decode cX4_glad 5 = .ok (.ireturn, 1) := by decide +kernel
theorem nI_back {k : Int32} (h0 : 0 ≤ k.toInt) : nI k.toInt.toNat = k := by
  apply Int32.toInt_inj.mp
  have h2 : k.toInt < 2147483648 := Int32.toInt_lt k
  rw [nI_toInt (by omega)]
  omega
theorem wentOk_0 (f : Nat → Int32) : WentOk 0 f := by
  intro j hj h
  have : ∀ j : Nat, j < 5 → bitOf 0 (nI j) ≠ 1 := by decide
  exact absurd h (this j hj)
theorem wentOk_at {w : Int32} {f : Nat → Int32} {k v : Int32} (h : WentOk w f) (h0 : 0 ≤ k.toInt) (h4 : k.toInt ≤ 4) (hb : bitOf w k = 1) (e : v = f k.toNatClampNeg) : 0 ≤ v.toInt ∧ v.toInt ≤ 6 := by
  rw [e, cl_of]
  exact h _ (by omega) (by rw [nI_back h0]; exact hb)
theorem bit_sh : ∀ n : Nat, n < 5 → ((nI n &&& 31).toBitVec.smod 32).toNat = n := by decide
theorem bit_or' {w sA sB : Int32} {a b : Nat} (ha : (sA.toBitVec.smod 32).toNat = a) (hb : (sB.toBitVec.smod 32).toNat = b) (hb2 : b < 32) (hab : a ≠ b) : ((w ||| (1 <<< sA)) >>> sB) &&& 1 = (w >>> sB) &&& 1 := by
  apply Int32.toBitVec_inj.mp
  apply BitVec.eq_of_getLsbD_eq
  intro i hi
  simp only [Int32.toBitVec_and, Int32.toBitVec_shiftRight, Int32.toBitVec_or, Int32.toBitVec_shiftLeft, BitVec.getLsbD_and, BitVec.sshiftRight_eq', BitVec.shiftLeft_eq', ha, hb]
  rw [show (1 : Int32).toBitVec = 1#32 from rfl]
  by_cases h0 : i = 0
  · subst h0
    have e1 : (w.toBitVec ||| 1#32 <<< a).getLsbD b = w.toBitVec.getLsbD b := by
      rw [BitVec.getLsbD_or, BitVec.getLsbD_shiftLeft, BitVec.getLsbD_one]
      by_cases h1 : b < a
      · simp [h1]
      · have h2 : ¬ b - a = 0 := by omega
        simp [h2]
    congr 1
    rw [BitVec.getLsbD_sshiftRight, BitVec.getLsbD_sshiftRight]
    simp [hb2, e1]
    intro h1 h2
    omega
  · have h1 : (1#32).getLsbD i = false := by
      rw [BitVec.getLsbD_one]
      simp [h0]
    rw [h1]
    simp
theorem bit_or {w : Int32} {a b : Nat} (ha : a < 5) (hb : b < 5) (hab : a ≠ b) : bitOf (w ||| (1 <<< (nI a &&& 31))) (nI b) = bitOf w (nI b) :=
  bit_or' (bit_sh a ha) (bit_sh b hb) (by omega) hab
theorem wentOk_or {w z : Int32} {f : Nat → Int32} (h : WentOk w f) (h0 : 0 ≤ z.toInt) (h4 : z.toInt ≤ 4) (hf : 0 ≤ (f z.toNatClampNeg).toInt ∧ (f z.toNatClampNeg).toInt ≤ 6) : WentOk (w ||| (1 <<< (z &&& 31))) f := by
  intro j hj hb
  by_cases q : j = z.toInt.toNat
  · subst q
    rw [cl_of] at hf
    exact hf
  · refine h j hj ?_
    rw [← nI_back h0, bit_or (by omega) hj (by omega)] at hb
    exact hb

set_option maxHeartbeats 600000 in
set_option maxRecDepth 100000 in
theorem c_X4_pass0 (l : Launch) (D : va_G) (cI cZ cM : ClassId) (h0 : Nat) (n : Int32) (ype : Int32) (ytk : Int32) (ywi : Nat) (yki : Nat) (yse : Nat) (yno : Nat) (yrh : Nat) (yrw : Nat) (yrk : Nat) (yrt : Nat) (yrp : Int32) (yrq : Int32) (ytx : Nat) (yle : Int32) (yat : Int32) (yfa : Int32) (yby : Nat) (ylo : Nat) (yhi : Nat) (yac : Int32) (ynx : Int32) (yro : Nat) (ygl : Nat) (ysn : Int32) (yso : Nat) (ysp : Nat) (ysw : Nat) (ysd : Int64) (yik : Nat) (ykp : Nat) (Fno : Nat → Int32) (Fki : Nat → Int32) (Fby : Nat → Int32) (Flo : Nat → Int32) (Fhi : Nat → Int32) (sz : Nat) (hBy : ByOk Fby) (h_n : 0 ≤ n.toInt ∧ n.toInt ≤ 7) (h_ype : 0 ≤ ype.toInt ∧ ype.toInt ≤ 5) : Ci l yX4_pass wsX4_pass ({ frames := 1, cells := 0, slots := 0, locals := 28 } : Room) D cI cZ cM [.ref h0, .int 0, .int n] [(h0, .inr (4, [.int ype, .int ytk, .ref ywi, .ref yki, .ref yse, .ref yno, .ref yrh, .ref yrw, .ref yrk, .ref yrt, .int yrp, .int yrq, .ref ytx, .int yle, .int yat, .int yfa, .ref yby, .ref ylo, .ref yhi, .int yac, .int ynx, .ref yro, .ref ygl, .int ysn, .ref yso, .ref ysp, .ref ysw, .long ysd, .ref yik, .ref ykp])), (yno, .inl (cI, 96, .inl Fno)), (yki, .inl (cI, 5, .inl Fki)), (yby, .inl (cI, 5, .inl Fby)), (ylo, .inl (cI, 5, .inl Flo)), (yhi, .inl (cI, 5, .inl Fhi))] sz (fun (r : Int32) (u : (Nat → Int32) × (Nat → Int32) × (Nat → Int32) × (Nat → Int32)) => ByOk u.2.1 ∧ WentOk r u.2.1) (fun u => [(h0, .inr (4, [.int ype, .int ytk, .ref ywi, .ref yki, .ref yse, .ref yno, .ref yrh, .ref yrw, .ref yrk, .ref yrt, .int yrp, .int yrq, .ref ytx, .int yle, .int yat, .int yfa, .ref yby, .ref ylo, .ref yhi, .int yac, .int ynx, .ref yro, .ref ygl, .int ysn, .ref yso, .ref ysp, .ref ysw, .long ysd, .ref yik, .ref ykp])), (yno, .inl (cI, 96, .inl u.1)), (yki, .inl (cI, 5, .inl Fki)), (yby, .inl (cI, 5, .inl u.2.1)), (ylo, .inl (cI, 5, .inl u.2.2.1)), (yhi, .inl (cI, 5, .inl u.2.2.2))]) 0 0 := by
  refine begins (l := l) (y := yX4_pass) (ws := wsX4_pass) (av := [.ref h0, .int 0, .int n]) (Qc := fun A => va_Qi (fun (r : Int32) (u : (Nat → Int32) × (Nat → Int32) × (Nat → Int32) × (Nat → Int32)) => ByOk u.2.1 ∧ WentOk r u.2.1) (fun u => Wd D cI cZ cM A ((fun u => [(h0, .inr (4, [.int ype, .int ytk, .ref ywi, .ref yki, .ref yse, .ref yno, .ref yrh, .ref yrw, .ref yrk, .ref yrt, .int yrp, .int yrq, .ref ytx, .int yle, .int yat, .int yfa, .ref yby, .ref ylo, .ref yhi, .int yac, .int ynx, .ref yro, .ref ygl, .int ysn, .ref yso, .ref ysp, .ref ysw, .long ysd, .ref yik, .ref ykp])), (yno, .inl (cI, 96, .inl u.1)), (yki, .inl (cI, 5, .inl Fki)), (yby, .inl (cI, 5, .inl u.2.1)), (ylo, .inl (cI, 5, .inl u.2.2.1)), (yhi, .inl (cI, 5, .inl u.2.2.2))]) u)) A) cX4_pass 9 (some .int) (by decide) rfl (Nat.le_of_ble_eq_true rfl) ?_
  intro p e s m args below meth c R Q A ls hBd hR hQ hA hS hK hP hD hl
  obtain ⟨hx, hb, hr, hts, hown, hlocks, hin, hml⟩ := hBd
  have hl : lv_has ls 9 [(0, .ref h0), (1, .int 0), (2, .int n)] := hl
  have iX4 : ∀ w ∈ wsX40, w ∈ wsX4_pass := fun _ h => List.mem_cons_of_mem _ (List.mem_append_right _ h)
  obtain ⟨h_na, h_nb⟩ := h_n
  obtain ⟨h_ypea, h_ypeb⟩ := h_ype
  refine lv_bipush (v := 48) hx hb dX4_pass_0 (by decide) ?_
  refine lv_iload_n hx hb dX4_pass_2 rfl (lv_at hl 1 rfl) ?_
  refine lv_imul hx hb dX4_pass_3 ?_
  refine lv_topc (y := 0) (by decide) ?_
  refine lv_istore_n (lv' := [(3, .int 0), (0, .ref h0), (1, .int 0), (2, .int n)]) hx hb dX4_pass_4 rfl hl (by decide) rfl (fun ls hl => ?_)
  refine lv_iconst (v := 0) hx hb dX4_pass_5 (by decide) ?_
  refine lv_istore (lv' := [(4, .int 0), (3, .int 0), (0, .ref h0), (1, .int 0), (2, .int n)]) hx hb dX4_pass_6 hl (by decide) rfl (fun ls hl => ?_)
  refine lv_iconst (v := 0) hx hb dX4_pass_8 (by decide) ?_
  refine lv_istore (lv' := [(5, .int 0), (4, .int 0), (3, .int 0), (0, .ref h0), (1, .int 0), (2, .int n)]) hx hb dX4_pass_9 hl (by decide) rfl (fun ls hl => ?_)
  have LOOP_1 : ∀ (fu_1 : Nat) (x5 : Int32) (gb : Nat → Int32) (H : Heap) (locs : List Loc) (ls : Array Slot), (5 - x5.toInt).toNat < fu_1 → (0 ≤ x5.toInt ∧ x5.toInt ≤ 5) → (ByOk gb) → va_P D vwCl [(h0, .inr (4, [.int ype, .int ytk, .ref ywi, .ref yki, .ref yse, .ref yno, .ref yrh, .ref yrw, .ref yrk, .ref yrt, .int yrp, .int yrq, .ref ytx, .int yle, .int yat, .int yfa, .ref yby, .ref ylo, .ref yhi, .int yac, .int ynx, .ref yro, .ref ygl, .int ysn, .ref yso, .ref ysp, .ref ysw, .long ysd, .ref yik, .ref ykp])), (yno, .inl (cI, 96, .inl Fno)), (yki, .inl (cI, 5, .inl Fki)), (yby, .inl (cI, 5, .inl gb)), (ylo, .inl (cI, 5, .inl Flo)), (yhi, .inl (cI, 5, .inl Fhi))] H → va_D A [(h0, .inr (4, [.int ype, .int ytk, .ref ywi, .ref yki, .ref yse, .ref yno, .ref yrh, .ref yrw, .ref yrk, .ref yrt, .int yrp, .int yrq, .ref ytx, .int yle, .int yat, .int yfa, .ref yby, .ref ylo, .ref yhi, .int yac, .int ynx, .ref yro, .ref ygl, .int ysn, .ref yso, .ref ysp, .ref ysw, .long ysd, .ref yik, .ref ykp])), (yno, .inl (cI, 96, .inl Fno)), (yki, .inl (cI, 5, .inl Fki)), (yby, .inl (cI, 5, .inl gb)), (ylo, .inl (cI, 5, .inl Flo)), (yhi, .inl (cI, 5, .inl Fhi))] → va_S A s.heap H locs → lv_has ls 9 [(0, .ref h0), (1, .int 0), (2, .int n), (3, .int 0), (4, .int 0), (5, .int x5)] → W p l e R s m args below meth c H locs 0 0 Q (F0 m 11 ls []) := by
    intro fu_1
    induction fu_1 with
    | zero => intro x5 gb H locs ls hmu; exact absurd hmu (Nat.not_lt_zero _)
    | succ fu_1 ih =>
      intro x5 gb H locs ls hmu h_x5 hby hP hD hS hl
      obtain ⟨h_x5a, h_x5b⟩ := h_x5
      have ih_2 := ih
      clear ih
      refine lv_iload hx hb dX4_pass_11 (lv_at hl 5 rfl) ?_
      refine lv_aload_n hx hb dX4_pass_13 rfl (lv_at hl 0 rfl) ?_
      refine va_get (D := D) (ci := 4) (v := .int ype) (C := RX4) (T := TX4) (N := 30) hx hb hts iX4 hown hK hP 0 rfl rfl 0 (by decide) (hts (.fieldLink RX4 68 "PunchedTicketModel" "people" "I") (List.mem_of_getElem? (i := 1) rfl)) (fun _ h9 => h9) rfl dX4_pass_14 ?_
      refine lv_icmp_ge (tgt := 41) hx hb dX4_pass_17 (by decide) (fun c_3 => ?_) (fun c_3 => ?_)
      · have tc_3 := b_le rfl rfl c_3
        refine lv_iconst (v := 0) hx hb dX4_pass_41 (by decide) ?_
        refine lv_istore (lv' := [(5, .int 0), (0, .ref h0), (1, .int 0), (2, .int n), (3, .int 0), (4, .int 0)]) hx hb dX4_pass_42 hl (by decide) rfl (fun ls hl => ?_)
        have LOOP_4 : ∀ (fu_4 : Nat) (w4 : Int32) (z5 : Int32) (gn : Nat → Int32) (gl : Nat → Int32) (gh : Nat → Int32) (H : Heap) (locs : List Loc) (ls : Array Slot), (5 - z5.toInt).toNat < fu_4 → (0 ≤ z5.toInt ∧ z5.toInt ≤ 5) → (WentOk w4 gb) → va_P D vwCl [(h0, .inr (4, [.int ype, .int ytk, .ref ywi, .ref yki, .ref yse, .ref yno, .ref yrh, .ref yrw, .ref yrk, .ref yrt, .int yrp, .int yrq, .ref ytx, .int yle, .int yat, .int yfa, .ref yby, .ref ylo, .ref yhi, .int yac, .int ynx, .ref yro, .ref ygl, .int ysn, .ref yso, .ref ysp, .ref ysw, .long ysd, .ref yik, .ref ykp])), (yno, .inl (cI, 96, .inl gn)), (yki, .inl (cI, 5, .inl Fki)), (yby, .inl (cI, 5, .inl gb)), (ylo, .inl (cI, 5, .inl gl)), (yhi, .inl (cI, 5, .inl gh))] H → va_D A [(h0, .inr (4, [.int ype, .int ytk, .ref ywi, .ref yki, .ref yse, .ref yno, .ref yrh, .ref yrw, .ref yrk, .ref yrt, .int yrp, .int yrq, .ref ytx, .int yle, .int yat, .int yfa, .ref yby, .ref ylo, .ref yhi, .int yac, .int ynx, .ref yro, .ref ygl, .int ysn, .ref yso, .ref ysp, .ref ysw, .long ysd, .ref yik, .ref ykp])), (yno, .inl (cI, 96, .inl gn)), (yki, .inl (cI, 5, .inl Fki)), (yby, .inl (cI, 5, .inl gb)), (ylo, .inl (cI, 5, .inl gl)), (yhi, .inl (cI, 5, .inl gh))] → va_S A s.heap H locs → lv_has ls 9 [(0, .ref h0), (1, .int 0), (2, .int n), (3, .int 0), (4, .int w4), (5, .int z5)] → W p l e R s m args below meth c H locs 0 0 Q (F0 m 44 ls []) := by
          intro fu_4
          induction fu_4 with
          | zero => intro w4 z5 gn gl gh H locs ls hmu; exact absurd hmu (Nat.not_lt_zero _)
          | succ fu_4 ih =>
            intro w4 z5 gn gl gh H locs ls hmu h_z5 hwn hP hD hS hl
            obtain ⟨h_z5a, h_z5b⟩ := h_z5
            have ih_5 := ih
            clear ih
            refine lv_iload hx hb dX4_pass_44 (lv_at hl 5 rfl) ?_
            refine lv_aload_n hx hb dX4_pass_46 rfl (lv_at hl 0 rfl) ?_
            refine va_get (D := D) (ci := 4) (v := .int ype) (C := RX4) (T := TX4) (N := 30) hx hb hts iX4 hown hK hP 0 rfl rfl 0 (by decide) (hts (.fieldLink RX4 68 "PunchedTicketModel" "people" "I") (List.mem_of_getElem? (i := 1) rfl)) (fun _ h9 => h9) rfl dX4_pass_47 ?_
            refine lv_icmp_ge (tgt := 188) hx hb dX4_pass_50 (by decide) (fun c_6 => ?_) (fun c_6 => ?_)
            · have tc_6 := b_le rfl rfl c_6
              refine lv_aload_n hx hb dX4_pass_188 rfl (lv_at hl 0 rfl) ?_
              refine va_get (D := D) (ci := 4) (v := .ref yno) (C := RX4) (T := TX4) (N := 30) hx hb hts iX4 hown hK hP 0 rfl rfl 5 (by decide) (hts (.fieldLink RX4 19 "PunchedTicketModel" "now" "[I") (List.mem_of_getElem? (i := 3) rfl)) (fun _ h9 => h9) rfl dX4_pass_189 ?_
              refine lv_iload_n hx hb dX4_pass_192 rfl (lv_at hl 3 rfl) ?_
              refine lv_dup2_11 hx hb dX4_pass_193 rfl rfl ?_
              refine va_iald hx hb hK hP 1 0 rfl rfl (vp_in_iff.mpr (by decide)) dX4_pass_194 ?_
              refine lv_topi (fun v_7 ev_7 => ?_)
              refine lv_iconst (v := 1) hx hb dX4_pass_195 (by decide) ?_
              refine lv_iadd hx hb dX4_pass_196 ?_
              refine lv_topi (fun v_8 ev_8 => ?_)
              refine va_iast hx hb hK hP hD hS 1 0 rfl rfl (vp_in_iff.mpr (by decide)) dX4_pass_197 (fun H locs hP hD hS => ?_)
              obtain ⟨f_9, ef_9⟩ : ∃ g : Nat → Int32, upd gn (0 : Int32).toNatClampNeg v_8 = g := ⟨_, rfl⟩
              rw [ef_9] at hP hD
              have hP : va_P D vwCl [(h0, .inr (4, [.int ype, .int ytk, .ref ywi, .ref yki, .ref yse, .ref yno, .ref yrh, .ref yrw, .ref yrk, .ref yrt, .int yrp, .int yrq, .ref ytx, .int yle, .int yat, .int yfa, .ref yby, .ref ylo, .ref yhi, .int yac, .int ynx, .ref yro, .ref ygl, .int ysn, .ref yso, .ref ysp, .ref ysw, .long ysd, .ref yik, .ref ykp])), (yno, .inl (cI, 96, .inl f_9)), (yki, .inl (cI, 5, .inl Fki)), (yby, .inl (cI, 5, .inl gb)), (ylo, .inl (cI, 5, .inl gl)), (yhi, .inl (cI, 5, .inl gh))] H := hP
              have hD : va_D A [(h0, .inr (4, [.int ype, .int ytk, .ref ywi, .ref yki, .ref yse, .ref yno, .ref yrh, .ref yrw, .ref yrk, .ref yrt, .int yrp, .int yrq, .ref ytx, .int yle, .int yat, .int yfa, .ref yby, .ref ylo, .ref yhi, .int yac, .int ynx, .ref yro, .ref ygl, .int ysn, .ref yso, .ref ysp, .ref ysw, .long ysd, .ref yik, .ref ykp])), (yno, .inl (cI, 96, .inl f_9)), (yki, .inl (cI, 5, .inl Fki)), (yby, .inl (cI, 5, .inl gb)), (ylo, .inl (cI, 5, .inl gl)), (yhi, .inl (cI, 5, .inl gh))] := hD
              refine lv_iload hx hb dX4_pass_198 (lv_at hl 4 rfl) ?_
              exact ret_i (post := (fun (r : Int32) (u : (Nat → Int32) × (Nat → Int32) × (Nat → Int32) × (Nat → Int32)) => ByOk u.2.1 ∧ WentOk r u.2.1)) (W1 := (fun u => [(h0, .inr (4, [.int ype, .int ytk, .ref ywi, .ref yki, .ref yse, .ref yno, .ref yrh, .ref yrw, .ref yrk, .ref yrt, .int yrp, .int yrq, .ref ytx, .int yle, .int yat, .int yfa, .ref yby, .ref ylo, .ref yhi, .int yac, .int ynx, .ref yro, .ref ygl, .int ysn, .ref yso, .ref ysp, .ref ysw, .long ysd, .ref yik, .ref ykp])), (yno, .inl (cI, 96, .inl u.1)), (yki, .inl (cI, 5, .inl Fki)), (yby, .inl (cI, 5, .inl u.2.1)), (ylo, .inl (cI, 5, .inl u.2.2.1)), (yhi, .inl (cI, 5, .inl u.2.2.2))])) (f_9, gb, gl, gh) hx hb hr hlocks rfl hQ hK hP hD hS ⟨by decide, by decide⟩ dX4_pass_200 (⟨hby, hwn⟩)
            · have tc_6 := b_nle rfl rfl c_6
              refine lv_aload_n hx hb dX4_pass_53 rfl (lv_at hl 0 rfl) ?_
              refine va_get (D := D) (ci := 4) (v := .ref yby) (C := RX4) (T := TX4) (N := 30) hx hb hts iX4 hown hK hP 0 rfl rfl 16 (by decide) (hts (.fieldLink RX4 37 "PunchedTicketModel" "by" "[I") (List.mem_of_getElem? (i := 2) rfl)) (fun _ h9 => h9) rfl dX4_pass_54 ?_
              refine lv_iload hx hb dX4_pass_57 (lv_at hl 5 rfl) ?_
              refine va_iald hx hb hK hP 3 0 rfl rfl (vp_in_iff.mpr ⟨by omega, by omega⟩) dX4_pass_59 ?_
              refine lv_topi (fun v_10 ev_10 => ?_)
              have tb := byOk_at hby ev_10 (by omega) (by omega)
              refine lv_bipush (v := (-9)) hx hb dX4_pass_60 (by decide) ?_
              refine lv_icmp_eq (tgt := 182) hx hb dX4_pass_62 (by decide) (fun c_11 => ?_) (fun c_11 => ?_)
              · have tc_11 := b_eq rfl (show ((-9) : Int32).toInt = -9 by decide) c_11
                obtain ⟨v_12, ev_12⟩ : ∃ z : Int32, z = z5 + 1 := ⟨_, rfl⟩
                have tv_12 : v_12.toInt = z5.toInt + 1 := by rw [ev_12]; exact ti_add (x := z5) (y := 1) (show -2147483648 ≤ z5.toInt + 1 by omega) (show z5.toInt + 1 < 2147483648 by omega)
                refine lv_iinc (v := v_12) (lv' := [(5, .int v_12), (0, .ref h0), (1, .int 0), (2, .int n), (3, .int 0), (4, .int w4)]) hx hb dX4_pass_182 hl (k := 5) rfl (by rw [ev_12]; rfl) (by decide) rfl (fun ls hl => ?_)
                refine lv_goto (tgt := 44) hx hb dX4_pass_185 (by decide) ?_
                exact ih_5 w4 v_12 gn gl gh _ _ _ (show (5 - v_12.toInt).toNat < fu_4 by omega) (show 0 ≤ v_12.toInt ∧ v_12.toInt ≤ 5 by omega) (hwn) hP hD hS (lv_sub hl [1, 2, 3, 4, 5, 0] rfl)
              · have tc_11 := b_ne rfl (show ((-9) : Int32).toInt = -9 by decide) c_11
                refine lv_iload_n hx hb dX4_pass_65 rfl (lv_at hl 3 rfl) ?_
                refine lv_bipush (v := 6) hx hb dX4_pass_66 (by decide) ?_
                refine lv_iadd hx hb dX4_pass_68 ?_
                refine lv_topc (y := 6) (by decide) ?_
                refine lv_bipush (v := 6) hx hb dX4_pass_69 (by decide) ?_
                refine lv_aload_n hx hb dX4_pass_71 rfl (lv_at hl 0 rfl) ?_
                refine va_get (D := D) (ci := 4) (v := .ref yby) (C := RX4) (T := TX4) (N := 30) hx hb hts iX4 hown hK hP 0 rfl rfl 16 (by decide) (hts (.fieldLink RX4 37 "PunchedTicketModel" "by" "[I") (List.mem_of_getElem? (i := 2) rfl)) (fun _ h9 => h9) rfl dX4_pass_72 ?_
                refine lv_iload hx hb dX4_pass_75 (lv_at hl 5 rfl) ?_
                refine va_iald hx hb hK hP 3 0 rfl rfl (vp_in_iff.mpr ⟨by omega, by omega⟩) dX4_pass_77 ?_
                refine lv_topi (fun v_13 ev_13 => ?_)
                have tv_13 : v_13.toInt = v_10.toInt := by rw [ev_13, ev_10]
                have h0v_13 : 0 ≤ v_13.toInt := by omega
                have h6v_13 : v_13.toInt ≤ 6 := by omega
                refine lv_imul hx hb dX4_pass_78 ?_
                refine lv_topi (fun v_14 ev_14 => ?_)
                have tv_14 : v_14.toInt = (6 : Int) * v_13.toInt := by rw [ev_14]; exact ti_mul (x := 6) (y := v_13) (show -2147483648 ≤ (6 : Int) * v_13.toInt by omega) (show (6 : Int) * v_13.toInt < 2147483648 by omega)
                refine lv_iadd hx hb dX4_pass_79 ?_
                refine lv_topi (fun v_15 ev_15 => ?_)
                have tv_15 : v_15.toInt = (6 : Int) + v_14.toInt := by rw [ev_15]; exact ti_add (x := 6) (y := v_14) (show -2147483648 ≤ (6 : Int) + v_14.toInt by omega) (show (6 : Int) + v_14.toInt < 2147483648 by omega)
                refine lv_istore (lv' := [(6, .int v_15), (0, .ref h0), (1, .int 0), (2, .int n), (3, .int 0), (4, .int w4), (5, .int z5)]) hx hb dX4_pass_80 hl (by decide) rfl (fun ls hl => ?_)
                refine lv_aload_n hx hb dX4_pass_82 rfl (lv_at hl 1 rfl) ?_
                refine va_get (D := D) (ci := 4) (v := .ref yno) (C := RX4) (T := TX4) (N := 30) hx hb hts iX4 hown hK hP 0 rfl rfl 5 (by decide) (hts (.fieldLink RX4 19 "PunchedTicketModel" "now" "[I") (List.mem_of_getElem? (i := 3) rfl)) (fun _ h9 => h9) rfl dX4_pass_83 ?_
                refine lv_iload hx hb dX4_pass_86 (lv_at hl 0 rfl) ?_
                refine lv_iconst (v := 1) hx hb dX4_pass_88 (by decide) ?_
                refine lv_iadd hx hb dX4_pass_89 ?_
                refine lv_topi (fun v_16 ev_16 => ?_)
                have tv_16 : v_16.toInt = v_15.toInt + (1 : Int) := by rw [ev_16]; exact ti_add (x := v_15) (y := 1) (show -2147483648 ≤ v_15.toInt + (1 : Int) by omega) (show v_15.toInt + (1 : Int) < 2147483648 by omega)
                refine va_iald hx hb hK hP 1 0 rfl rfl (vp_in_iff.mpr ⟨by omega, by omega⟩) dX4_pass_90 ?_
                refine lv_topi (fun v_17 ev_17 => ?_)
                refine lv_istore (lv' := [(7, .int v_17), (6, .int v_15), (0, .ref h0), (1, .int 0), (2, .int n), (3, .int 0), (4, .int w4), (5, .int z5)]) hx hb dX4_pass_91 hl (by decide) rfl (fun ls hl => ?_)
                refine lv_aload_n hx hb dX4_pass_93 rfl (lv_at hl 2 rfl) ?_
                refine va_get (D := D) (ci := 4) (v := .ref yno) (C := RX4) (T := TX4) (N := 30) hx hb hts iX4 hown hK hP 0 rfl rfl 5 (by decide) (hts (.fieldLink RX4 19 "PunchedTicketModel" "now" "[I") (List.mem_of_getElem? (i := 3) rfl)) (fun _ h9 => h9) rfl dX4_pass_94 ?_
                refine lv_iload hx hb dX4_pass_97 (lv_at hl 1 rfl) ?_
                refine lv_iconst (v := 2) hx hb dX4_pass_99 (by decide) ?_
                refine lv_iadd hx hb dX4_pass_100 ?_
                refine lv_topi (fun v_18 ev_18 => ?_)
                have tv_18 : v_18.toInt = v_15.toInt + (2 : Int) := by rw [ev_18]; exact ti_add (x := v_15) (y := 2) (show -2147483648 ≤ v_15.toInt + (2 : Int) by omega) (show v_15.toInt + (2 : Int) < 2147483648 by omega)
                refine va_iald hx hb hK hP 1 0 rfl rfl (vp_in_iff.mpr ⟨by omega, by omega⟩) dX4_pass_101 ?_
                refine lv_topi (fun v_19 ev_19 => ?_)
                refine lv_istore (lv' := [(8, .int v_19), (7, .int v_17), (6, .int v_15), (0, .ref h0), (1, .int 0), (2, .int n), (3, .int 0), (4, .int w4), (5, .int z5)]) hx hb dX4_pass_102 hl (by decide) rfl (fun ls hl => ?_)
                refine lv_aload_n hx hb dX4_pass_104 rfl (lv_at hl 3 rfl) ?_
                refine va_get (D := D) (ci := 4) (v := .ref ylo) (C := RX4) (T := TX4) (N := 30) hx hb hts iX4 hown hK hP 0 rfl rfl 17 (by decide) (hts (.fieldLink RX4 40 "PunchedTicketModel" "low" "[I") (List.mem_of_getElem? (i := 4) rfl)) (fun _ h9 => h9) rfl dX4_pass_105 ?_
                refine lv_iload hx hb dX4_pass_108 (lv_at hl 8 rfl) ?_
                refine lv_iload hx hb dX4_pass_110 (lv_at hl 1 rfl) ?_
                refine lv_iload hx hb dX4_pass_112 (lv_at hl 0 rfl) ?_
                refine lv_icmp_ge (tgt := 122) hx hb dX4_pass_114 (by decide) (fun c_20 => ?_) (fun c_20 => ?_)
                · have tc_20 := b_le rfl rfl c_20
                  refine lv_iload hx hb dX4_pass_122 (lv_at hl 0 rfl) ?_
                  refine va_iast hx hb hK hP hD hS 4 0 rfl rfl (vp_in_iff.mpr ⟨by omega, by omega⟩) dX4_pass_124 (fun H locs hP hD hS => ?_)
                  obtain ⟨f_21, ef_21⟩ : ∃ g : Nat → Int32, upd gl (z5 : Int32).toNatClampNeg v_19 = g := ⟨_, rfl⟩
                  rw [ef_21] at hP hD
                  have hP : va_P D vwCl [(h0, .inr (4, [.int ype, .int ytk, .ref ywi, .ref yki, .ref yse, .ref yno, .ref yrh, .ref yrw, .ref yrk, .ref yrt, .int yrp, .int yrq, .ref ytx, .int yle, .int yat, .int yfa, .ref yby, .ref ylo, .ref yhi, .int yac, .int ynx, .ref yro, .ref ygl, .int ysn, .ref yso, .ref ysp, .ref ysw, .long ysd, .ref yik, .ref ykp])), (yno, .inl (cI, 96, .inl gn)), (yki, .inl (cI, 5, .inl Fki)), (yby, .inl (cI, 5, .inl gb)), (ylo, .inl (cI, 5, .inl f_21)), (yhi, .inl (cI, 5, .inl gh))] H := hP
                  have hD : va_D A [(h0, .inr (4, [.int ype, .int ytk, .ref ywi, .ref yki, .ref yse, .ref yno, .ref yrh, .ref yrw, .ref yrk, .ref yrt, .int yrp, .int yrq, .ref ytx, .int yle, .int yat, .int yfa, .ref yby, .ref ylo, .ref yhi, .int yac, .int ynx, .ref yro, .ref ygl, .int ysn, .ref yso, .ref ysp, .ref ysw, .long ysd, .ref yik, .ref ykp])), (yno, .inl (cI, 96, .inl gn)), (yki, .inl (cI, 5, .inl Fki)), (yby, .inl (cI, 5, .inl gb)), (ylo, .inl (cI, 5, .inl f_21)), (yhi, .inl (cI, 5, .inl gh))] := hD
                  refine lv_aload_n hx hb dX4_pass_125 rfl (lv_at hl 3 rfl) ?_
                  refine va_get (D := D) (ci := 4) (v := .ref yhi) (C := RX4) (T := TX4) (N := 30) hx hb hts iX4 hown hK hP 0 rfl rfl 18 (by decide) (hts (.fieldLink RX4 43 "PunchedTicketModel" "high" "[I") (List.mem_of_getElem? (i := 5) rfl)) (fun _ h9 => h9) rfl dX4_pass_126 ?_
                  refine lv_iload hx hb dX4_pass_129 (lv_at hl 8 rfl) ?_
                  refine lv_iload hx hb dX4_pass_131 (lv_at hl 1 rfl) ?_
                  refine lv_iload hx hb dX4_pass_133 (lv_at hl 0 rfl) ?_
                  refine lv_icmp_ge (tgt := 143) hx hb dX4_pass_135 (by decide) (fun c_22 => ?_) (fun c_22 => ?_)
                  · have tc_22 := b_le rfl rfl c_22
                    refine lv_iload hx hb dX4_pass_143 (lv_at hl 1 rfl) ?_
                    refine va_iast hx hb hK hP hD hS 5 0 rfl rfl (vp_in_iff.mpr ⟨by omega, by omega⟩) dX4_pass_145 (fun H locs hP hD hS => ?_)
                    obtain ⟨f_23, ef_23⟩ : ∃ g : Nat → Int32, upd gh (z5 : Int32).toNatClampNeg v_17 = g := ⟨_, rfl⟩
                    rw [ef_23] at hP hD
                    have hP : va_P D vwCl [(h0, .inr (4, [.int ype, .int ytk, .ref ywi, .ref yki, .ref yse, .ref yno, .ref yrh, .ref yrw, .ref yrk, .ref yrt, .int yrp, .int yrq, .ref ytx, .int yle, .int yat, .int yfa, .ref yby, .ref ylo, .ref yhi, .int yac, .int ynx, .ref yro, .ref ygl, .int ysn, .ref yso, .ref ysp, .ref ysw, .long ysd, .ref yik, .ref ykp])), (yno, .inl (cI, 96, .inl gn)), (yki, .inl (cI, 5, .inl Fki)), (yby, .inl (cI, 5, .inl gb)), (ylo, .inl (cI, 5, .inl f_21)), (yhi, .inl (cI, 5, .inl f_23))] H := hP
                    have hD : va_D A [(h0, .inr (4, [.int ype, .int ytk, .ref ywi, .ref yki, .ref yse, .ref yno, .ref yrh, .ref yrw, .ref yrk, .ref yrt, .int yrp, .int yrq, .ref ytx, .int yle, .int yat, .int yfa, .ref yby, .ref ylo, .ref yhi, .int yac, .int ynx, .ref yro, .ref ygl, .int ysn, .ref yso, .ref ysp, .ref ysw, .long ysd, .ref yik, .ref ykp])), (yno, .inl (cI, 96, .inl gn)), (yki, .inl (cI, 5, .inl Fki)), (yby, .inl (cI, 5, .inl gb)), (ylo, .inl (cI, 5, .inl f_21)), (yhi, .inl (cI, 5, .inl f_23))] := hD
                    refine lv_aload_n hx hb dX4_pass_146 rfl (lv_at hl 3 rfl) ?_
                    refine va_get (D := D) (ci := 4) (v := .ref yno) (C := RX4) (T := TX4) (N := 30) hx hb hts iX4 hown hK hP 0 rfl rfl 5 (by decide) (hts (.fieldLink RX4 19 "PunchedTicketModel" "now" "[I") (List.mem_of_getElem? (i := 3) rfl)) (fun _ h9 => h9) rfl dX4_pass_147 ?_
                    refine lv_iload_n hx hb dX4_pass_150 rfl (lv_at hl 6 rfl) ?_
                    refine lv_iconst (v := 1) hx hb dX4_pass_151 (by decide) ?_
                    refine lv_iadd hx hb dX4_pass_152 ?_
                    refine lv_topc (y := 1) (by decide) ?_
                    refine lv_iload hx hb dX4_pass_153 (lv_at hl 8 rfl) ?_
                    refine lv_iadd hx hb dX4_pass_155 ?_
                    refine lv_topi (fun v_24 ev_24 => ?_)
                    have tv_24 : v_24.toInt = (1 : Int) + z5.toInt := by rw [ev_24]; exact ti_add (x := 1) (y := z5) (show -2147483648 ≤ (1 : Int) + z5.toInt by omega) (show (1 : Int) + z5.toInt < 2147483648 by omega)
                    refine lv_iload hx hb dX4_pass_156 (lv_at hl 0 rfl) ?_
                    refine va_iast hx hb hK hP hD hS 1 0 rfl rfl (vp_in_iff.mpr ⟨by omega, by omega⟩) dX4_pass_158 (fun H locs hP hD hS => ?_)
                    obtain ⟨f_25, ef_25⟩ : ∃ g : Nat → Int32, upd gn (v_24 : Int32).toNatClampNeg v_19 = g := ⟨_, rfl⟩
                    rw [ef_25] at hP hD
                    have hP : va_P D vwCl [(h0, .inr (4, [.int ype, .int ytk, .ref ywi, .ref yki, .ref yse, .ref yno, .ref yrh, .ref yrw, .ref yrk, .ref yrt, .int yrp, .int yrq, .ref ytx, .int yle, .int yat, .int yfa, .ref yby, .ref ylo, .ref yhi, .int yac, .int ynx, .ref yro, .ref ygl, .int ysn, .ref yso, .ref ysp, .ref ysw, .long ysd, .ref yik, .ref ykp])), (yno, .inl (cI, 96, .inl f_25)), (yki, .inl (cI, 5, .inl Fki)), (yby, .inl (cI, 5, .inl gb)), (ylo, .inl (cI, 5, .inl f_21)), (yhi, .inl (cI, 5, .inl f_23))] H := hP
                    have hD : va_D A [(h0, .inr (4, [.int ype, .int ytk, .ref ywi, .ref yki, .ref yse, .ref yno, .ref yrh, .ref yrw, .ref yrk, .ref yrt, .int yrp, .int yrq, .ref ytx, .int yle, .int yat, .int yfa, .ref yby, .ref ylo, .ref yhi, .int yac, .int ynx, .ref yro, .ref ygl, .int ysn, .ref yso, .ref ysp, .ref ysw, .long ysd, .ref yik, .ref ykp])), (yno, .inl (cI, 96, .inl f_25)), (yki, .inl (cI, 5, .inl Fki)), (yby, .inl (cI, 5, .inl gb)), (ylo, .inl (cI, 5, .inl f_21)), (yhi, .inl (cI, 5, .inl f_23))] := hD
                    have k48f_25 : (f_25 48).toInt = (gn 48).toInt := by rw [← ef_25, upd_ne (by omega) (by omega)]
                    refine lv_iload hx hb dX4_pass_159 (lv_at hl 7 rfl) ?_
                    refine lv_iconst (v := 1) hx hb dX4_pass_161 (by decide) ?_
                    refine lv_iload hx hb dX4_pass_162 (lv_at hl 8 rfl) ?_
                    refine lv_ishl hx hb dX4_pass_164 ?_
                    refine lv_topi (fun v_26 ev_26 => ?_)
                    refine lv_ior hx hb dX4_pass_165 ?_
                    refine lv_topi (fun v_27 ev_27 => ?_)
                    have HW : WentOk v_27 gb := by rw [ev_27, ev_26]; exact wentOk_or hwn (by omega) (by omega) (by rw [← ev_10]; omega)
                    refine lv_istore (lv' := [(4, .int v_27), (8, .int v_19), (7, .int v_17), (6, .int v_15), (0, .ref h0), (1, .int 0), (2, .int n), (3, .int 0), (5, .int z5)]) hx hb dX4_pass_166 hl (by decide) rfl (fun ls hl => ?_)
                    refine lv_aload_n hx hb dX4_pass_168 rfl (lv_at hl 4 rfl) ?_
                    refine lv_iload_n hx hb dX4_pass_169 rfl (lv_at hl 5 rfl) ?_
                    refine lv_iload hx hb dX4_pass_170 (lv_at hl 8 rfl) ?_
                    refine lv_aload_n hx hb dX4_pass_172 rfl (lv_at hl 4 rfl) ?_
                    refine va_get (D := D) (ci := 4) (v := .ref yby) (C := RX4) (T := TX4) (N := 30) hx hb hts iX4 hown hK hP 0 rfl rfl 16 (by decide) (hts (.fieldLink RX4 37 "PunchedTicketModel" "by" "[I") (List.mem_of_getElem? (i := 2) rfl)) (fun _ h9 => h9) rfl dX4_pass_173 ?_
                    refine lv_iload hx hb dX4_pass_176 (lv_at hl 8 rfl) ?_
                    refine va_iald hx hb hK hP 3 0 rfl rfl (vp_in_iff.mpr ⟨by omega, by omega⟩) dX4_pass_178 ?_
                    refine lv_topi (fun v_28 ev_28 => ?_)
                    have tv_28 : v_28.toInt = v_10.toInt := by rw [ev_28, ev_10]
                    have h0v_28 : 0 ≤ v_28.toInt := by omega
                    have h6v_28 : v_28.toInt ≤ 6 := by omega
                    refine cV_v (As := [.int 0, .int z5, .int v_28]) (rest := []) ⟨hx, hb, hml, hown, hts⟩ (c_X4_use l D cI cZ cM h0 0 z5 v_28 ype ytk ywi yki yse yno yrh yrw yrk yrt yrp yrq ytx yle yat yfa yby ylo yhi yac ynx yro ygl ysn yso ysp ysw ysd yik ykp f_25 Fki _ (by decide) (show 0 ≤ z5.toInt ∧ z5.toInt ≤ 4 by omega) (show 0 ≤ v_28.toInt ∧ v_28.toInt ≤ 6 by omega)) (cwV 3 hts gX4_pass_X4_use rfl rfl rfl (by decide +kernel) ⟨by rw [hR]; decide, by rw [hR]; decide⟩) hK hP hD hS hA [0, 1, 2] [3, 4, 5] rfl rfl (by decide) (by decide) (by decide) rfl 0 rfl hl.1 rfl rfl (Nat.le_of_ble_eq_true rfl) dX4_pass_179 ⟨by rw [hR]; decide, by rw [hR]; decide⟩ (fun u_31 H locs hw hP hD hS => ?_)
                    obtain ⟨Gno_29, rfl⟩ : ∃ z, z = u_31 := ⟨_, rfl⟩
                    have hP : va_P D vwCl [(h0, .inr (4, [.int ype, .int ytk, .ref ywi, .ref yki, .ref yse, .ref yno, .ref yrh, .ref yrw, .ref yrk, .ref yrt, .int yrp, .int yrq, .ref ytx, .int yle, .int yat, .int yfa, .ref yby, .ref ylo, .ref yhi, .int yac, .int ynx, .ref yro, .ref ygl, .int ysn, .ref yso, .ref ysp, .ref ysw, .long ysd, .ref yik, .ref ykp])), (yno, .inl (cI, 96, .inl Gno_29)), (yki, .inl (cI, 5, .inl Fki)), (yby, .inl (cI, 5, .inl gb)), (ylo, .inl (cI, 5, .inl f_21)), (yhi, .inl (cI, 5, .inl f_23))] H := hP.sub [3, 4, 5, 0, 1, 2] rfl
                    have hD : va_D A [(h0, .inr (4, [.int ype, .int ytk, .ref ywi, .ref yki, .ref yse, .ref yno, .ref yrh, .ref yrw, .ref yrk, .ref yrt, .int yrp, .int yrq, .ref ytx, .int yle, .int yat, .int yfa, .ref yby, .ref ylo, .ref yhi, .int yac, .int ynx, .ref yro, .ref ygl, .int ysn, .ref yso, .ref ysp, .ref ysw, .long ysd, .ref yik, .ref ykp])), (yno, .inl (cI, 96, .inl Gno_29)), (yki, .inl (cI, 5, .inl Fki)), (yby, .inl (cI, 5, .inl gb)), (ylo, .inl (cI, 5, .inl f_21)), (yhi, .inl (cI, 5, .inl f_23))] := hD.sub [3, 4, 5, 0, 1, 2] (by decide) rfl
                    refine W.widen (k := 0) (n := 0) (Nat.le_refl _) (Nat.le_refl _) ?_
                    have hw : (Gno_29 48).toInt = (f_25 48).toInt := hw
                    have hw_32 := hw
                    obtain ⟨v_33, ev_33⟩ : ∃ z : Int32, z = z5 + 1 := ⟨_, rfl⟩
                    have tv_33 : v_33.toInt = z5.toInt + 1 := by rw [ev_33]; exact ti_add (x := z5) (y := 1) (show -2147483648 ≤ z5.toInt + 1 by omega) (show z5.toInt + 1 < 2147483648 by omega)
                    refine lv_iinc (v := v_33) (lv' := [(5, .int v_33), (4, .int v_27), (8, .int v_19), (7, .int v_17), (6, .int v_15), (0, .ref h0), (1, .int 0), (2, .int n), (3, .int 0)]) hx hb dX4_pass_182 hl (k := 8) rfl (by rw [ev_33]; rfl) (by decide) rfl (fun ls hl => ?_)
                    refine lv_goto (tgt := 44) hx hb dX4_pass_185 (by decide) ?_
                    exact ih_5 v_27 v_33 Gno_29 f_21 f_23 _ _ _ (show (5 - v_33.toInt).toNat < fu_4 by omega) (show 0 ≤ v_33.toInt ∧ v_33.toInt ≤ 5 by omega) (HW) hP hD hS (lv_sub hl [5, 6, 7, 8, 1, 0] rfl)
                  · have tc_22 := b_nle rfl rfl c_22
                    refine lv_iload hx hb dX4_pass_138 (lv_at hl 0 rfl) ?_
                    refine lv_goto (tgt := 145) hx hb dX4_pass_140 (by decide) ?_
                    refine va_iast hx hb hK hP hD hS 5 0 rfl rfl (vp_in_iff.mpr ⟨by omega, by omega⟩) dX4_pass_145 (fun H locs hP hD hS => ?_)
                    obtain ⟨f_34, ef_34⟩ : ∃ g : Nat → Int32, upd gh (z5 : Int32).toNatClampNeg v_19 = g := ⟨_, rfl⟩
                    rw [ef_34] at hP hD
                    have hP : va_P D vwCl [(h0, .inr (4, [.int ype, .int ytk, .ref ywi, .ref yki, .ref yse, .ref yno, .ref yrh, .ref yrw, .ref yrk, .ref yrt, .int yrp, .int yrq, .ref ytx, .int yle, .int yat, .int yfa, .ref yby, .ref ylo, .ref yhi, .int yac, .int ynx, .ref yro, .ref ygl, .int ysn, .ref yso, .ref ysp, .ref ysw, .long ysd, .ref yik, .ref ykp])), (yno, .inl (cI, 96, .inl gn)), (yki, .inl (cI, 5, .inl Fki)), (yby, .inl (cI, 5, .inl gb)), (ylo, .inl (cI, 5, .inl f_21)), (yhi, .inl (cI, 5, .inl f_34))] H := hP
                    have hD : va_D A [(h0, .inr (4, [.int ype, .int ytk, .ref ywi, .ref yki, .ref yse, .ref yno, .ref yrh, .ref yrw, .ref yrk, .ref yrt, .int yrp, .int yrq, .ref ytx, .int yle, .int yat, .int yfa, .ref yby, .ref ylo, .ref yhi, .int yac, .int ynx, .ref yro, .ref ygl, .int ysn, .ref yso, .ref ysp, .ref ysw, .long ysd, .ref yik, .ref ykp])), (yno, .inl (cI, 96, .inl gn)), (yki, .inl (cI, 5, .inl Fki)), (yby, .inl (cI, 5, .inl gb)), (ylo, .inl (cI, 5, .inl f_21)), (yhi, .inl (cI, 5, .inl f_34))] := hD
                    refine lv_aload_n hx hb dX4_pass_146 rfl (lv_at hl 3 rfl) ?_
                    refine va_get (D := D) (ci := 4) (v := .ref yno) (C := RX4) (T := TX4) (N := 30) hx hb hts iX4 hown hK hP 0 rfl rfl 5 (by decide) (hts (.fieldLink RX4 19 "PunchedTicketModel" "now" "[I") (List.mem_of_getElem? (i := 3) rfl)) (fun _ h9 => h9) rfl dX4_pass_147 ?_
                    refine lv_iload_n hx hb dX4_pass_150 rfl (lv_at hl 6 rfl) ?_
                    refine lv_iconst (v := 1) hx hb dX4_pass_151 (by decide) ?_
                    refine lv_iadd hx hb dX4_pass_152 ?_
                    refine lv_topc (y := 1) (by decide) ?_
                    refine lv_iload hx hb dX4_pass_153 (lv_at hl 8 rfl) ?_
                    refine lv_iadd hx hb dX4_pass_155 ?_
                    refine lv_topi (fun v_35 ev_35 => ?_)
                    have tv_35 : v_35.toInt = (1 : Int) + z5.toInt := by rw [ev_35]; exact ti_add (x := 1) (y := z5) (show -2147483648 ≤ (1 : Int) + z5.toInt by omega) (show (1 : Int) + z5.toInt < 2147483648 by omega)
                    refine lv_iload hx hb dX4_pass_156 (lv_at hl 0 rfl) ?_
                    refine va_iast hx hb hK hP hD hS 1 0 rfl rfl (vp_in_iff.mpr ⟨by omega, by omega⟩) dX4_pass_158 (fun H locs hP hD hS => ?_)
                    obtain ⟨f_36, ef_36⟩ : ∃ g : Nat → Int32, upd gn (v_35 : Int32).toNatClampNeg v_19 = g := ⟨_, rfl⟩
                    rw [ef_36] at hP hD
                    have hP : va_P D vwCl [(h0, .inr (4, [.int ype, .int ytk, .ref ywi, .ref yki, .ref yse, .ref yno, .ref yrh, .ref yrw, .ref yrk, .ref yrt, .int yrp, .int yrq, .ref ytx, .int yle, .int yat, .int yfa, .ref yby, .ref ylo, .ref yhi, .int yac, .int ynx, .ref yro, .ref ygl, .int ysn, .ref yso, .ref ysp, .ref ysw, .long ysd, .ref yik, .ref ykp])), (yno, .inl (cI, 96, .inl f_36)), (yki, .inl (cI, 5, .inl Fki)), (yby, .inl (cI, 5, .inl gb)), (ylo, .inl (cI, 5, .inl f_21)), (yhi, .inl (cI, 5, .inl f_34))] H := hP
                    have hD : va_D A [(h0, .inr (4, [.int ype, .int ytk, .ref ywi, .ref yki, .ref yse, .ref yno, .ref yrh, .ref yrw, .ref yrk, .ref yrt, .int yrp, .int yrq, .ref ytx, .int yle, .int yat, .int yfa, .ref yby, .ref ylo, .ref yhi, .int yac, .int ynx, .ref yro, .ref ygl, .int ysn, .ref yso, .ref ysp, .ref ysw, .long ysd, .ref yik, .ref ykp])), (yno, .inl (cI, 96, .inl f_36)), (yki, .inl (cI, 5, .inl Fki)), (yby, .inl (cI, 5, .inl gb)), (ylo, .inl (cI, 5, .inl f_21)), (yhi, .inl (cI, 5, .inl f_34))] := hD
                    have k48f_36 : (f_36 48).toInt = (gn 48).toInt := by rw [← ef_36, upd_ne (by omega) (by omega)]
                    refine lv_iload hx hb dX4_pass_159 (lv_at hl 7 rfl) ?_
                    refine lv_iconst (v := 1) hx hb dX4_pass_161 (by decide) ?_
                    refine lv_iload hx hb dX4_pass_162 (lv_at hl 8 rfl) ?_
                    refine lv_ishl hx hb dX4_pass_164 ?_
                    refine lv_topi (fun v_37 ev_37 => ?_)
                    refine lv_ior hx hb dX4_pass_165 ?_
                    refine lv_topi (fun v_38 ev_38 => ?_)
                    have HW : WentOk v_38 gb := by rw [ev_38, ev_37]; exact wentOk_or hwn (by omega) (by omega) (by rw [← ev_10]; omega)
                    refine lv_istore (lv' := [(4, .int v_38), (8, .int v_19), (7, .int v_17), (6, .int v_15), (0, .ref h0), (1, .int 0), (2, .int n), (3, .int 0), (5, .int z5)]) hx hb dX4_pass_166 hl (by decide) rfl (fun ls hl => ?_)
                    refine lv_aload_n hx hb dX4_pass_168 rfl (lv_at hl 4 rfl) ?_
                    refine lv_iload_n hx hb dX4_pass_169 rfl (lv_at hl 5 rfl) ?_
                    refine lv_iload hx hb dX4_pass_170 (lv_at hl 8 rfl) ?_
                    refine lv_aload_n hx hb dX4_pass_172 rfl (lv_at hl 4 rfl) ?_
                    refine va_get (D := D) (ci := 4) (v := .ref yby) (C := RX4) (T := TX4) (N := 30) hx hb hts iX4 hown hK hP 0 rfl rfl 16 (by decide) (hts (.fieldLink RX4 37 "PunchedTicketModel" "by" "[I") (List.mem_of_getElem? (i := 2) rfl)) (fun _ h9 => h9) rfl dX4_pass_173 ?_
                    refine lv_iload hx hb dX4_pass_176 (lv_at hl 8 rfl) ?_
                    refine va_iald hx hb hK hP 3 0 rfl rfl (vp_in_iff.mpr ⟨by omega, by omega⟩) dX4_pass_178 ?_
                    refine lv_topi (fun v_39 ev_39 => ?_)
                    have tv_39 : v_39.toInt = v_10.toInt := by rw [ev_39, ev_10]
                    have h0v_39 : 0 ≤ v_39.toInt := by omega
                    have h6v_39 : v_39.toInt ≤ 6 := by omega
                    refine cV_v (As := [.int 0, .int z5, .int v_39]) (rest := []) ⟨hx, hb, hml, hown, hts⟩ (c_X4_use l D cI cZ cM h0 0 z5 v_39 ype ytk ywi yki yse yno yrh yrw yrk yrt yrp yrq ytx yle yat yfa yby ylo yhi yac ynx yro ygl ysn yso ysp ysw ysd yik ykp f_36 Fki _ (by decide) (show 0 ≤ z5.toInt ∧ z5.toInt ≤ 4 by omega) (show 0 ≤ v_39.toInt ∧ v_39.toInt ≤ 6 by omega)) (cwV 3 hts gX4_pass_X4_use rfl rfl rfl (by decide +kernel) ⟨by rw [hR]; decide, by rw [hR]; decide⟩) hK hP hD hS hA [0, 1, 2] [3, 4, 5] rfl rfl (by decide) (by decide) (by decide) rfl 0 rfl hl.1 rfl rfl (Nat.le_of_ble_eq_true rfl) dX4_pass_179 ⟨by rw [hR]; decide, by rw [hR]; decide⟩ (fun u_42 H locs hw hP hD hS => ?_)
                    obtain ⟨Gno_40, rfl⟩ : ∃ z, z = u_42 := ⟨_, rfl⟩
                    have hP : va_P D vwCl [(h0, .inr (4, [.int ype, .int ytk, .ref ywi, .ref yki, .ref yse, .ref yno, .ref yrh, .ref yrw, .ref yrk, .ref yrt, .int yrp, .int yrq, .ref ytx, .int yle, .int yat, .int yfa, .ref yby, .ref ylo, .ref yhi, .int yac, .int ynx, .ref yro, .ref ygl, .int ysn, .ref yso, .ref ysp, .ref ysw, .long ysd, .ref yik, .ref ykp])), (yno, .inl (cI, 96, .inl Gno_40)), (yki, .inl (cI, 5, .inl Fki)), (yby, .inl (cI, 5, .inl gb)), (ylo, .inl (cI, 5, .inl f_21)), (yhi, .inl (cI, 5, .inl f_34))] H := hP.sub [3, 4, 5, 0, 1, 2] rfl
                    have hD : va_D A [(h0, .inr (4, [.int ype, .int ytk, .ref ywi, .ref yki, .ref yse, .ref yno, .ref yrh, .ref yrw, .ref yrk, .ref yrt, .int yrp, .int yrq, .ref ytx, .int yle, .int yat, .int yfa, .ref yby, .ref ylo, .ref yhi, .int yac, .int ynx, .ref yro, .ref ygl, .int ysn, .ref yso, .ref ysp, .ref ysw, .long ysd, .ref yik, .ref ykp])), (yno, .inl (cI, 96, .inl Gno_40)), (yki, .inl (cI, 5, .inl Fki)), (yby, .inl (cI, 5, .inl gb)), (ylo, .inl (cI, 5, .inl f_21)), (yhi, .inl (cI, 5, .inl f_34))] := hD.sub [3, 4, 5, 0, 1, 2] (by decide) rfl
                    refine W.widen (k := 0) (n := 0) (Nat.le_refl _) (Nat.le_refl _) ?_
                    have hw : (Gno_40 48).toInt = (f_36 48).toInt := hw
                    have hw_43 := hw
                    obtain ⟨v_44, ev_44⟩ : ∃ z : Int32, z = z5 + 1 := ⟨_, rfl⟩
                    have tv_44 : v_44.toInt = z5.toInt + 1 := by rw [ev_44]; exact ti_add (x := z5) (y := 1) (show -2147483648 ≤ z5.toInt + 1 by omega) (show z5.toInt + 1 < 2147483648 by omega)
                    refine lv_iinc (v := v_44) (lv' := [(5, .int v_44), (4, .int v_38), (8, .int v_19), (7, .int v_17), (6, .int v_15), (0, .ref h0), (1, .int 0), (2, .int n), (3, .int 0)]) hx hb dX4_pass_182 hl (k := 8) rfl (by rw [ev_44]; rfl) (by decide) rfl (fun ls hl => ?_)
                    refine lv_goto (tgt := 44) hx hb dX4_pass_185 (by decide) ?_
                    exact ih_5 v_38 v_44 Gno_40 f_21 f_34 _ _ _ (show (5 - v_44.toInt).toNat < fu_4 by omega) (show 0 ≤ v_44.toInt ∧ v_44.toInt ≤ 5 by omega) (HW) hP hD hS (lv_sub hl [5, 6, 7, 8, 1, 0] rfl)
                · have tc_20 := b_nle rfl rfl c_20
                  refine lv_iload hx hb dX4_pass_117 (lv_at hl 1 rfl) ?_
                  refine lv_goto (tgt := 124) hx hb dX4_pass_119 (by decide) ?_
                  refine va_iast hx hb hK hP hD hS 4 0 rfl rfl (vp_in_iff.mpr ⟨by omega, by omega⟩) dX4_pass_124 (fun H locs hP hD hS => ?_)
                  obtain ⟨f_45, ef_45⟩ : ∃ g : Nat → Int32, upd gl (z5 : Int32).toNatClampNeg v_17 = g := ⟨_, rfl⟩
                  rw [ef_45] at hP hD
                  have hP : va_P D vwCl [(h0, .inr (4, [.int ype, .int ytk, .ref ywi, .ref yki, .ref yse, .ref yno, .ref yrh, .ref yrw, .ref yrk, .ref yrt, .int yrp, .int yrq, .ref ytx, .int yle, .int yat, .int yfa, .ref yby, .ref ylo, .ref yhi, .int yac, .int ynx, .ref yro, .ref ygl, .int ysn, .ref yso, .ref ysp, .ref ysw, .long ysd, .ref yik, .ref ykp])), (yno, .inl (cI, 96, .inl gn)), (yki, .inl (cI, 5, .inl Fki)), (yby, .inl (cI, 5, .inl gb)), (ylo, .inl (cI, 5, .inl f_45)), (yhi, .inl (cI, 5, .inl gh))] H := hP
                  have hD : va_D A [(h0, .inr (4, [.int ype, .int ytk, .ref ywi, .ref yki, .ref yse, .ref yno, .ref yrh, .ref yrw, .ref yrk, .ref yrt, .int yrp, .int yrq, .ref ytx, .int yle, .int yat, .int yfa, .ref yby, .ref ylo, .ref yhi, .int yac, .int ynx, .ref yro, .ref ygl, .int ysn, .ref yso, .ref ysp, .ref ysw, .long ysd, .ref yik, .ref ykp])), (yno, .inl (cI, 96, .inl gn)), (yki, .inl (cI, 5, .inl Fki)), (yby, .inl (cI, 5, .inl gb)), (ylo, .inl (cI, 5, .inl f_45)), (yhi, .inl (cI, 5, .inl gh))] := hD
                  refine lv_aload_n hx hb dX4_pass_125 rfl (lv_at hl 3 rfl) ?_
                  refine va_get (D := D) (ci := 4) (v := .ref yhi) (C := RX4) (T := TX4) (N := 30) hx hb hts iX4 hown hK hP 0 rfl rfl 18 (by decide) (hts (.fieldLink RX4 43 "PunchedTicketModel" "high" "[I") (List.mem_of_getElem? (i := 5) rfl)) (fun _ h9 => h9) rfl dX4_pass_126 ?_
                  refine lv_iload hx hb dX4_pass_129 (lv_at hl 8 rfl) ?_
                  refine lv_iload hx hb dX4_pass_131 (lv_at hl 1 rfl) ?_
                  refine lv_iload hx hb dX4_pass_133 (lv_at hl 0 rfl) ?_
                  refine lv_icmp_ge (tgt := 143) hx hb dX4_pass_135 (by decide) (fun c_46 => ?_) (fun c_46 => ?_)
                  · have tc_46 := b_le rfl rfl c_46
                    refine lv_iload hx hb dX4_pass_143 (lv_at hl 1 rfl) ?_
                    refine va_iast hx hb hK hP hD hS 5 0 rfl rfl (vp_in_iff.mpr ⟨by omega, by omega⟩) dX4_pass_145 (fun H locs hP hD hS => ?_)
                    obtain ⟨f_47, ef_47⟩ : ∃ g : Nat → Int32, upd gh (z5 : Int32).toNatClampNeg v_17 = g := ⟨_, rfl⟩
                    rw [ef_47] at hP hD
                    have hP : va_P D vwCl [(h0, .inr (4, [.int ype, .int ytk, .ref ywi, .ref yki, .ref yse, .ref yno, .ref yrh, .ref yrw, .ref yrk, .ref yrt, .int yrp, .int yrq, .ref ytx, .int yle, .int yat, .int yfa, .ref yby, .ref ylo, .ref yhi, .int yac, .int ynx, .ref yro, .ref ygl, .int ysn, .ref yso, .ref ysp, .ref ysw, .long ysd, .ref yik, .ref ykp])), (yno, .inl (cI, 96, .inl gn)), (yki, .inl (cI, 5, .inl Fki)), (yby, .inl (cI, 5, .inl gb)), (ylo, .inl (cI, 5, .inl f_45)), (yhi, .inl (cI, 5, .inl f_47))] H := hP
                    have hD : va_D A [(h0, .inr (4, [.int ype, .int ytk, .ref ywi, .ref yki, .ref yse, .ref yno, .ref yrh, .ref yrw, .ref yrk, .ref yrt, .int yrp, .int yrq, .ref ytx, .int yle, .int yat, .int yfa, .ref yby, .ref ylo, .ref yhi, .int yac, .int ynx, .ref yro, .ref ygl, .int ysn, .ref yso, .ref ysp, .ref ysw, .long ysd, .ref yik, .ref ykp])), (yno, .inl (cI, 96, .inl gn)), (yki, .inl (cI, 5, .inl Fki)), (yby, .inl (cI, 5, .inl gb)), (ylo, .inl (cI, 5, .inl f_45)), (yhi, .inl (cI, 5, .inl f_47))] := hD
                    refine lv_aload_n hx hb dX4_pass_146 rfl (lv_at hl 3 rfl) ?_
                    refine va_get (D := D) (ci := 4) (v := .ref yno) (C := RX4) (T := TX4) (N := 30) hx hb hts iX4 hown hK hP 0 rfl rfl 5 (by decide) (hts (.fieldLink RX4 19 "PunchedTicketModel" "now" "[I") (List.mem_of_getElem? (i := 3) rfl)) (fun _ h9 => h9) rfl dX4_pass_147 ?_
                    refine lv_iload_n hx hb dX4_pass_150 rfl (lv_at hl 6 rfl) ?_
                    refine lv_iconst (v := 1) hx hb dX4_pass_151 (by decide) ?_
                    refine lv_iadd hx hb dX4_pass_152 ?_
                    refine lv_topc (y := 1) (by decide) ?_
                    refine lv_iload hx hb dX4_pass_153 (lv_at hl 8 rfl) ?_
                    refine lv_iadd hx hb dX4_pass_155 ?_
                    refine lv_topi (fun v_48 ev_48 => ?_)
                    have tv_48 : v_48.toInt = (1 : Int) + z5.toInt := by rw [ev_48]; exact ti_add (x := 1) (y := z5) (show -2147483648 ≤ (1 : Int) + z5.toInt by omega) (show (1 : Int) + z5.toInt < 2147483648 by omega)
                    refine lv_iload hx hb dX4_pass_156 (lv_at hl 0 rfl) ?_
                    refine va_iast hx hb hK hP hD hS 1 0 rfl rfl (vp_in_iff.mpr ⟨by omega, by omega⟩) dX4_pass_158 (fun H locs hP hD hS => ?_)
                    obtain ⟨f_49, ef_49⟩ : ∃ g : Nat → Int32, upd gn (v_48 : Int32).toNatClampNeg v_19 = g := ⟨_, rfl⟩
                    rw [ef_49] at hP hD
                    have hP : va_P D vwCl [(h0, .inr (4, [.int ype, .int ytk, .ref ywi, .ref yki, .ref yse, .ref yno, .ref yrh, .ref yrw, .ref yrk, .ref yrt, .int yrp, .int yrq, .ref ytx, .int yle, .int yat, .int yfa, .ref yby, .ref ylo, .ref yhi, .int yac, .int ynx, .ref yro, .ref ygl, .int ysn, .ref yso, .ref ysp, .ref ysw, .long ysd, .ref yik, .ref ykp])), (yno, .inl (cI, 96, .inl f_49)), (yki, .inl (cI, 5, .inl Fki)), (yby, .inl (cI, 5, .inl gb)), (ylo, .inl (cI, 5, .inl f_45)), (yhi, .inl (cI, 5, .inl f_47))] H := hP
                    have hD : va_D A [(h0, .inr (4, [.int ype, .int ytk, .ref ywi, .ref yki, .ref yse, .ref yno, .ref yrh, .ref yrw, .ref yrk, .ref yrt, .int yrp, .int yrq, .ref ytx, .int yle, .int yat, .int yfa, .ref yby, .ref ylo, .ref yhi, .int yac, .int ynx, .ref yro, .ref ygl, .int ysn, .ref yso, .ref ysp, .ref ysw, .long ysd, .ref yik, .ref ykp])), (yno, .inl (cI, 96, .inl f_49)), (yki, .inl (cI, 5, .inl Fki)), (yby, .inl (cI, 5, .inl gb)), (ylo, .inl (cI, 5, .inl f_45)), (yhi, .inl (cI, 5, .inl f_47))] := hD
                    have k48f_49 : (f_49 48).toInt = (gn 48).toInt := by rw [← ef_49, upd_ne (by omega) (by omega)]
                    refine lv_iload hx hb dX4_pass_159 (lv_at hl 7 rfl) ?_
                    refine lv_iconst (v := 1) hx hb dX4_pass_161 (by decide) ?_
                    refine lv_iload hx hb dX4_pass_162 (lv_at hl 8 rfl) ?_
                    refine lv_ishl hx hb dX4_pass_164 ?_
                    refine lv_topi (fun v_50 ev_50 => ?_)
                    refine lv_ior hx hb dX4_pass_165 ?_
                    refine lv_topi (fun v_51 ev_51 => ?_)
                    have HW : WentOk v_51 gb := by rw [ev_51, ev_50]; exact wentOk_or hwn (by omega) (by omega) (by rw [← ev_10]; omega)
                    refine lv_istore (lv' := [(4, .int v_51), (8, .int v_19), (7, .int v_17), (6, .int v_15), (0, .ref h0), (1, .int 0), (2, .int n), (3, .int 0), (5, .int z5)]) hx hb dX4_pass_166 hl (by decide) rfl (fun ls hl => ?_)
                    refine lv_aload_n hx hb dX4_pass_168 rfl (lv_at hl 4 rfl) ?_
                    refine lv_iload_n hx hb dX4_pass_169 rfl (lv_at hl 5 rfl) ?_
                    refine lv_iload hx hb dX4_pass_170 (lv_at hl 8 rfl) ?_
                    refine lv_aload_n hx hb dX4_pass_172 rfl (lv_at hl 4 rfl) ?_
                    refine va_get (D := D) (ci := 4) (v := .ref yby) (C := RX4) (T := TX4) (N := 30) hx hb hts iX4 hown hK hP 0 rfl rfl 16 (by decide) (hts (.fieldLink RX4 37 "PunchedTicketModel" "by" "[I") (List.mem_of_getElem? (i := 2) rfl)) (fun _ h9 => h9) rfl dX4_pass_173 ?_
                    refine lv_iload hx hb dX4_pass_176 (lv_at hl 8 rfl) ?_
                    refine va_iald hx hb hK hP 3 0 rfl rfl (vp_in_iff.mpr ⟨by omega, by omega⟩) dX4_pass_178 ?_
                    refine lv_topi (fun v_52 ev_52 => ?_)
                    have tv_52 : v_52.toInt = v_10.toInt := by rw [ev_52, ev_10]
                    have h0v_52 : 0 ≤ v_52.toInt := by omega
                    have h6v_52 : v_52.toInt ≤ 6 := by omega
                    refine cV_v (As := [.int 0, .int z5, .int v_52]) (rest := []) ⟨hx, hb, hml, hown, hts⟩ (c_X4_use l D cI cZ cM h0 0 z5 v_52 ype ytk ywi yki yse yno yrh yrw yrk yrt yrp yrq ytx yle yat yfa yby ylo yhi yac ynx yro ygl ysn yso ysp ysw ysd yik ykp f_49 Fki _ (by decide) (show 0 ≤ z5.toInt ∧ z5.toInt ≤ 4 by omega) (show 0 ≤ v_52.toInt ∧ v_52.toInt ≤ 6 by omega)) (cwV 3 hts gX4_pass_X4_use rfl rfl rfl (by decide +kernel) ⟨by rw [hR]; decide, by rw [hR]; decide⟩) hK hP hD hS hA [0, 1, 2] [3, 4, 5] rfl rfl (by decide) (by decide) (by decide) rfl 0 rfl hl.1 rfl rfl (Nat.le_of_ble_eq_true rfl) dX4_pass_179 ⟨by rw [hR]; decide, by rw [hR]; decide⟩ (fun u_55 H locs hw hP hD hS => ?_)
                    obtain ⟨Gno_53, rfl⟩ : ∃ z, z = u_55 := ⟨_, rfl⟩
                    have hP : va_P D vwCl [(h0, .inr (4, [.int ype, .int ytk, .ref ywi, .ref yki, .ref yse, .ref yno, .ref yrh, .ref yrw, .ref yrk, .ref yrt, .int yrp, .int yrq, .ref ytx, .int yle, .int yat, .int yfa, .ref yby, .ref ylo, .ref yhi, .int yac, .int ynx, .ref yro, .ref ygl, .int ysn, .ref yso, .ref ysp, .ref ysw, .long ysd, .ref yik, .ref ykp])), (yno, .inl (cI, 96, .inl Gno_53)), (yki, .inl (cI, 5, .inl Fki)), (yby, .inl (cI, 5, .inl gb)), (ylo, .inl (cI, 5, .inl f_45)), (yhi, .inl (cI, 5, .inl f_47))] H := hP.sub [3, 4, 5, 0, 1, 2] rfl
                    have hD : va_D A [(h0, .inr (4, [.int ype, .int ytk, .ref ywi, .ref yki, .ref yse, .ref yno, .ref yrh, .ref yrw, .ref yrk, .ref yrt, .int yrp, .int yrq, .ref ytx, .int yle, .int yat, .int yfa, .ref yby, .ref ylo, .ref yhi, .int yac, .int ynx, .ref yro, .ref ygl, .int ysn, .ref yso, .ref ysp, .ref ysw, .long ysd, .ref yik, .ref ykp])), (yno, .inl (cI, 96, .inl Gno_53)), (yki, .inl (cI, 5, .inl Fki)), (yby, .inl (cI, 5, .inl gb)), (ylo, .inl (cI, 5, .inl f_45)), (yhi, .inl (cI, 5, .inl f_47))] := hD.sub [3, 4, 5, 0, 1, 2] (by decide) rfl
                    refine W.widen (k := 0) (n := 0) (Nat.le_refl _) (Nat.le_refl _) ?_
                    have hw : (Gno_53 48).toInt = (f_49 48).toInt := hw
                    have hw_56 := hw
                    obtain ⟨v_57, ev_57⟩ : ∃ z : Int32, z = z5 + 1 := ⟨_, rfl⟩
                    have tv_57 : v_57.toInt = z5.toInt + 1 := by rw [ev_57]; exact ti_add (x := z5) (y := 1) (show -2147483648 ≤ z5.toInt + 1 by omega) (show z5.toInt + 1 < 2147483648 by omega)
                    refine lv_iinc (v := v_57) (lv' := [(5, .int v_57), (4, .int v_51), (8, .int v_19), (7, .int v_17), (6, .int v_15), (0, .ref h0), (1, .int 0), (2, .int n), (3, .int 0)]) hx hb dX4_pass_182 hl (k := 8) rfl (by rw [ev_57]; rfl) (by decide) rfl (fun ls hl => ?_)
                    refine lv_goto (tgt := 44) hx hb dX4_pass_185 (by decide) ?_
                    exact ih_5 v_51 v_57 Gno_53 f_45 f_47 _ _ _ (show (5 - v_57.toInt).toNat < fu_4 by omega) (show 0 ≤ v_57.toInt ∧ v_57.toInt ≤ 5 by omega) (HW) hP hD hS (lv_sub hl [5, 6, 7, 8, 1, 0] rfl)
                  · have tc_46 := b_nle rfl rfl c_46
                    refine lv_iload hx hb dX4_pass_138 (lv_at hl 0 rfl) ?_
                    refine lv_goto (tgt := 145) hx hb dX4_pass_140 (by decide) ?_
                    refine va_iast hx hb hK hP hD hS 5 0 rfl rfl (vp_in_iff.mpr ⟨by omega, by omega⟩) dX4_pass_145 (fun H locs hP hD hS => ?_)
                    obtain ⟨f_58, ef_58⟩ : ∃ g : Nat → Int32, upd gh (z5 : Int32).toNatClampNeg v_19 = g := ⟨_, rfl⟩
                    rw [ef_58] at hP hD
                    have hP : va_P D vwCl [(h0, .inr (4, [.int ype, .int ytk, .ref ywi, .ref yki, .ref yse, .ref yno, .ref yrh, .ref yrw, .ref yrk, .ref yrt, .int yrp, .int yrq, .ref ytx, .int yle, .int yat, .int yfa, .ref yby, .ref ylo, .ref yhi, .int yac, .int ynx, .ref yro, .ref ygl, .int ysn, .ref yso, .ref ysp, .ref ysw, .long ysd, .ref yik, .ref ykp])), (yno, .inl (cI, 96, .inl gn)), (yki, .inl (cI, 5, .inl Fki)), (yby, .inl (cI, 5, .inl gb)), (ylo, .inl (cI, 5, .inl f_45)), (yhi, .inl (cI, 5, .inl f_58))] H := hP
                    have hD : va_D A [(h0, .inr (4, [.int ype, .int ytk, .ref ywi, .ref yki, .ref yse, .ref yno, .ref yrh, .ref yrw, .ref yrk, .ref yrt, .int yrp, .int yrq, .ref ytx, .int yle, .int yat, .int yfa, .ref yby, .ref ylo, .ref yhi, .int yac, .int ynx, .ref yro, .ref ygl, .int ysn, .ref yso, .ref ysp, .ref ysw, .long ysd, .ref yik, .ref ykp])), (yno, .inl (cI, 96, .inl gn)), (yki, .inl (cI, 5, .inl Fki)), (yby, .inl (cI, 5, .inl gb)), (ylo, .inl (cI, 5, .inl f_45)), (yhi, .inl (cI, 5, .inl f_58))] := hD
                    refine lv_aload_n hx hb dX4_pass_146 rfl (lv_at hl 3 rfl) ?_
                    refine va_get (D := D) (ci := 4) (v := .ref yno) (C := RX4) (T := TX4) (N := 30) hx hb hts iX4 hown hK hP 0 rfl rfl 5 (by decide) (hts (.fieldLink RX4 19 "PunchedTicketModel" "now" "[I") (List.mem_of_getElem? (i := 3) rfl)) (fun _ h9 => h9) rfl dX4_pass_147 ?_
                    refine lv_iload_n hx hb dX4_pass_150 rfl (lv_at hl 6 rfl) ?_
                    refine lv_iconst (v := 1) hx hb dX4_pass_151 (by decide) ?_
                    refine lv_iadd hx hb dX4_pass_152 ?_
                    refine lv_topc (y := 1) (by decide) ?_
                    refine lv_iload hx hb dX4_pass_153 (lv_at hl 8 rfl) ?_
                    refine lv_iadd hx hb dX4_pass_155 ?_
                    refine lv_topi (fun v_59 ev_59 => ?_)
                    have tv_59 : v_59.toInt = (1 : Int) + z5.toInt := by rw [ev_59]; exact ti_add (x := 1) (y := z5) (show -2147483648 ≤ (1 : Int) + z5.toInt by omega) (show (1 : Int) + z5.toInt < 2147483648 by omega)
                    refine lv_iload hx hb dX4_pass_156 (lv_at hl 0 rfl) ?_
                    refine va_iast hx hb hK hP hD hS 1 0 rfl rfl (vp_in_iff.mpr ⟨by omega, by omega⟩) dX4_pass_158 (fun H locs hP hD hS => ?_)
                    obtain ⟨f_60, ef_60⟩ : ∃ g : Nat → Int32, upd gn (v_59 : Int32).toNatClampNeg v_19 = g := ⟨_, rfl⟩
                    rw [ef_60] at hP hD
                    have hP : va_P D vwCl [(h0, .inr (4, [.int ype, .int ytk, .ref ywi, .ref yki, .ref yse, .ref yno, .ref yrh, .ref yrw, .ref yrk, .ref yrt, .int yrp, .int yrq, .ref ytx, .int yle, .int yat, .int yfa, .ref yby, .ref ylo, .ref yhi, .int yac, .int ynx, .ref yro, .ref ygl, .int ysn, .ref yso, .ref ysp, .ref ysw, .long ysd, .ref yik, .ref ykp])), (yno, .inl (cI, 96, .inl f_60)), (yki, .inl (cI, 5, .inl Fki)), (yby, .inl (cI, 5, .inl gb)), (ylo, .inl (cI, 5, .inl f_45)), (yhi, .inl (cI, 5, .inl f_58))] H := hP
                    have hD : va_D A [(h0, .inr (4, [.int ype, .int ytk, .ref ywi, .ref yki, .ref yse, .ref yno, .ref yrh, .ref yrw, .ref yrk, .ref yrt, .int yrp, .int yrq, .ref ytx, .int yle, .int yat, .int yfa, .ref yby, .ref ylo, .ref yhi, .int yac, .int ynx, .ref yro, .ref ygl, .int ysn, .ref yso, .ref ysp, .ref ysw, .long ysd, .ref yik, .ref ykp])), (yno, .inl (cI, 96, .inl f_60)), (yki, .inl (cI, 5, .inl Fki)), (yby, .inl (cI, 5, .inl gb)), (ylo, .inl (cI, 5, .inl f_45)), (yhi, .inl (cI, 5, .inl f_58))] := hD
                    have k48f_60 : (f_60 48).toInt = (gn 48).toInt := by rw [← ef_60, upd_ne (by omega) (by omega)]
                    refine lv_iload hx hb dX4_pass_159 (lv_at hl 7 rfl) ?_
                    refine lv_iconst (v := 1) hx hb dX4_pass_161 (by decide) ?_
                    refine lv_iload hx hb dX4_pass_162 (lv_at hl 8 rfl) ?_
                    refine lv_ishl hx hb dX4_pass_164 ?_
                    refine lv_topi (fun v_61 ev_61 => ?_)
                    refine lv_ior hx hb dX4_pass_165 ?_
                    refine lv_topi (fun v_62 ev_62 => ?_)
                    have HW : WentOk v_62 gb := by rw [ev_62, ev_61]; exact wentOk_or hwn (by omega) (by omega) (by rw [← ev_10]; omega)
                    refine lv_istore (lv' := [(4, .int v_62), (8, .int v_19), (7, .int v_17), (6, .int v_15), (0, .ref h0), (1, .int 0), (2, .int n), (3, .int 0), (5, .int z5)]) hx hb dX4_pass_166 hl (by decide) rfl (fun ls hl => ?_)
                    refine lv_aload_n hx hb dX4_pass_168 rfl (lv_at hl 4 rfl) ?_
                    refine lv_iload_n hx hb dX4_pass_169 rfl (lv_at hl 5 rfl) ?_
                    refine lv_iload hx hb dX4_pass_170 (lv_at hl 8 rfl) ?_
                    refine lv_aload_n hx hb dX4_pass_172 rfl (lv_at hl 4 rfl) ?_
                    refine va_get (D := D) (ci := 4) (v := .ref yby) (C := RX4) (T := TX4) (N := 30) hx hb hts iX4 hown hK hP 0 rfl rfl 16 (by decide) (hts (.fieldLink RX4 37 "PunchedTicketModel" "by" "[I") (List.mem_of_getElem? (i := 2) rfl)) (fun _ h9 => h9) rfl dX4_pass_173 ?_
                    refine lv_iload hx hb dX4_pass_176 (lv_at hl 8 rfl) ?_
                    refine va_iald hx hb hK hP 3 0 rfl rfl (vp_in_iff.mpr ⟨by omega, by omega⟩) dX4_pass_178 ?_
                    refine lv_topi (fun v_63 ev_63 => ?_)
                    have tv_63 : v_63.toInt = v_10.toInt := by rw [ev_63, ev_10]
                    have h0v_63 : 0 ≤ v_63.toInt := by omega
                    have h6v_63 : v_63.toInt ≤ 6 := by omega
                    refine cV_v (As := [.int 0, .int z5, .int v_63]) (rest := []) ⟨hx, hb, hml, hown, hts⟩ (c_X4_use l D cI cZ cM h0 0 z5 v_63 ype ytk ywi yki yse yno yrh yrw yrk yrt yrp yrq ytx yle yat yfa yby ylo yhi yac ynx yro ygl ysn yso ysp ysw ysd yik ykp f_60 Fki _ (by decide) (show 0 ≤ z5.toInt ∧ z5.toInt ≤ 4 by omega) (show 0 ≤ v_63.toInt ∧ v_63.toInt ≤ 6 by omega)) (cwV 3 hts gX4_pass_X4_use rfl rfl rfl (by decide +kernel) ⟨by rw [hR]; decide, by rw [hR]; decide⟩) hK hP hD hS hA [0, 1, 2] [3, 4, 5] rfl rfl (by decide) (by decide) (by decide) rfl 0 rfl hl.1 rfl rfl (Nat.le_of_ble_eq_true rfl) dX4_pass_179 ⟨by rw [hR]; decide, by rw [hR]; decide⟩ (fun u_66 H locs hw hP hD hS => ?_)
                    obtain ⟨Gno_64, rfl⟩ : ∃ z, z = u_66 := ⟨_, rfl⟩
                    have hP : va_P D vwCl [(h0, .inr (4, [.int ype, .int ytk, .ref ywi, .ref yki, .ref yse, .ref yno, .ref yrh, .ref yrw, .ref yrk, .ref yrt, .int yrp, .int yrq, .ref ytx, .int yle, .int yat, .int yfa, .ref yby, .ref ylo, .ref yhi, .int yac, .int ynx, .ref yro, .ref ygl, .int ysn, .ref yso, .ref ysp, .ref ysw, .long ysd, .ref yik, .ref ykp])), (yno, .inl (cI, 96, .inl Gno_64)), (yki, .inl (cI, 5, .inl Fki)), (yby, .inl (cI, 5, .inl gb)), (ylo, .inl (cI, 5, .inl f_45)), (yhi, .inl (cI, 5, .inl f_58))] H := hP.sub [3, 4, 5, 0, 1, 2] rfl
                    have hD : va_D A [(h0, .inr (4, [.int ype, .int ytk, .ref ywi, .ref yki, .ref yse, .ref yno, .ref yrh, .ref yrw, .ref yrk, .ref yrt, .int yrp, .int yrq, .ref ytx, .int yle, .int yat, .int yfa, .ref yby, .ref ylo, .ref yhi, .int yac, .int ynx, .ref yro, .ref ygl, .int ysn, .ref yso, .ref ysp, .ref ysw, .long ysd, .ref yik, .ref ykp])), (yno, .inl (cI, 96, .inl Gno_64)), (yki, .inl (cI, 5, .inl Fki)), (yby, .inl (cI, 5, .inl gb)), (ylo, .inl (cI, 5, .inl f_45)), (yhi, .inl (cI, 5, .inl f_58))] := hD.sub [3, 4, 5, 0, 1, 2] (by decide) rfl
                    refine W.widen (k := 0) (n := 0) (Nat.le_refl _) (Nat.le_refl _) ?_
                    have hw : (Gno_64 48).toInt = (f_60 48).toInt := hw
                    have hw_67 := hw
                    obtain ⟨v_68, ev_68⟩ : ∃ z : Int32, z = z5 + 1 := ⟨_, rfl⟩
                    have tv_68 : v_68.toInt = z5.toInt + 1 := by rw [ev_68]; exact ti_add (x := z5) (y := 1) (show -2147483648 ≤ z5.toInt + 1 by omega) (show z5.toInt + 1 < 2147483648 by omega)
                    refine lv_iinc (v := v_68) (lv' := [(5, .int v_68), (4, .int v_62), (8, .int v_19), (7, .int v_17), (6, .int v_15), (0, .ref h0), (1, .int 0), (2, .int n), (3, .int 0)]) hx hb dX4_pass_182 hl (k := 8) rfl (by rw [ev_68]; rfl) (by decide) rfl (fun ls hl => ?_)
                    refine lv_goto (tgt := 44) hx hb dX4_pass_185 (by decide) ?_
                    exact ih_5 v_62 v_68 Gno_64 f_45 f_58 _ _ _ (show (5 - v_68.toInt).toNat < fu_4 by omega) (show 0 ≤ v_68.toInt ∧ v_68.toInt ≤ 5 by omega) (HW) hP hD hS (lv_sub hl [5, 6, 7, 8, 1, 0] rfl)
        exact LOOP_4 _ 0 0 Fno Flo Fhi _ _ _ (Nat.lt_succ_self _) (by decide) (wentOk_0 _) hP hD hS (lv_sub hl [1, 2, 3, 4, 5, 0] rfl)
      · have tc_3 := b_nle rfl rfl c_3
        refine lv_aload_n hx hb dX4_pass_20 rfl (lv_at hl 0 rfl) ?_
        refine va_get (D := D) (ci := 4) (v := .ref yby) (C := RX4) (T := TX4) (N := 30) hx hb hts iX4 hown hK hP 0 rfl rfl 16 (by decide) (hts (.fieldLink RX4 37 "PunchedTicketModel" "by" "[I") (List.mem_of_getElem? (i := 2) rfl)) (fun _ h9 => h9) rfl dX4_pass_21 ?_
        refine lv_iload hx hb dX4_pass_24 (lv_at hl 5 rfl) ?_
        refine lv_aload_n hx hb dX4_pass_26 rfl (lv_at hl 0 rfl) ?_
        refine lv_iload_n hx hb dX4_pass_27 rfl (lv_at hl 1 rfl) ?_
        refine lv_iload hx hb dX4_pass_28 (lv_at hl 5 rfl) ?_
        refine lv_iload_n hx hb dX4_pass_30 rfl (lv_at hl 2 rfl) ?_
        refine cV_i (As := [.int 0, .int x5, .int n]) (rest := [.int x5, .ref yby]) ⟨hx, hb, hml, hown, hts⟩ (c_X4_goesBy l D cI cZ cM h0 0 x5 n ype ytk ywi yki yse yno yrh yrw yrk yrt yrp yrq ytx yle yat yfa yby ylo yhi yac ynx yro ygl ysn yso ysp ysw ysd yik ykp Fno Fki _ (by decide) (show 0 ≤ x5.toInt ∧ x5.toInt ≤ 4 by omega) (show 0 ≤ n.toInt ∧ n.toInt ≤ 7 by omega)) (cwV 3 hts gX4_pass_X4_goesBy rfl rfl rfl (by decide +kernel) ⟨by rw [hR]; decide, by rw [hR]; decide⟩) hK hP hD hS hA [0, 1, 2] [3, 4, 5] rfl rfl (by decide) (by decide) (by decide) rfl 0 rfl hl.1 rfl rfl (Nat.le_of_ble_eq_true rfl) dX4_pass_31 ⟨by rw [hR]; decide, by rw [hR]; decide⟩ (fun r_69 u_70 H locs hw hP hD hS => ?_)
        have hP : va_P D vwCl [(h0, .inr (4, [.int ype, .int ytk, .ref ywi, .ref yki, .ref yse, .ref yno, .ref yrh, .ref yrw, .ref yrk, .ref yrt, .int yrp, .int yrq, .ref ytx, .int yle, .int yat, .int yfa, .ref yby, .ref ylo, .ref yhi, .int yac, .int ynx, .ref yro, .ref ygl, .int ysn, .ref yso, .ref ysp, .ref ysw, .long ysd, .ref yik, .ref ykp])), (yno, .inl (cI, 96, .inl Fno)), (yki, .inl (cI, 5, .inl Fki)), (yby, .inl (cI, 5, .inl gb)), (ylo, .inl (cI, 5, .inl Flo)), (yhi, .inl (cI, 5, .inl Fhi))] H := hP.sub [3, 4, 5, 0, 1, 2] rfl
        have hD : va_D A [(h0, .inr (4, [.int ype, .int ytk, .ref ywi, .ref yki, .ref yse, .ref yno, .ref yrh, .ref yrw, .ref yrk, .ref yrt, .int yrp, .int yrq, .ref ytx, .int yle, .int yat, .int yfa, .ref yby, .ref ylo, .ref yhi, .int yac, .int ynx, .ref yro, .ref ygl, .int ysn, .ref yso, .ref ysp, .ref ysw, .long ysd, .ref yik, .ref ykp])), (yno, .inl (cI, 96, .inl Fno)), (yki, .inl (cI, 5, .inl Fki)), (yby, .inl (cI, 5, .inl gb)), (ylo, .inl (cI, 5, .inl Flo)), (yhi, .inl (cI, 5, .inl Fhi))] := hD.sub [3, 4, 5, 0, 1, 2] (by decide) rfl
        refine W.widen (k := 0) (n := 0) (Nat.le_refl _) (Nat.le_refl _) ?_
        have hw : r_69.toInt = -9 ∨ (0 ≤ r_69.toInt ∧ r_69.toInt ≤ 6) := hw
        have hw_71 := hw
        refine va_iast hx hb hK hP hD hS 3 0 rfl rfl (vp_in_iff.mpr ⟨by omega, by omega⟩) dX4_pass_34 (fun H locs hP hD hS => ?_)
        obtain ⟨f_72, ef_72⟩ : ∃ g : Nat → Int32, upd gb (x5 : Int32).toNatClampNeg r_69 = g := ⟨_, rfl⟩
        rw [ef_72] at hP hD
        have hP : va_P D vwCl [(h0, .inr (4, [.int ype, .int ytk, .ref ywi, .ref yki, .ref yse, .ref yno, .ref yrh, .ref yrw, .ref yrk, .ref yrt, .int yrp, .int yrq, .ref ytx, .int yle, .int yat, .int yfa, .ref yby, .ref ylo, .ref yhi, .int yac, .int ynx, .ref yro, .ref ygl, .int ysn, .ref yso, .ref ysp, .ref ysw, .long ysd, .ref yik, .ref ykp])), (yno, .inl (cI, 96, .inl Fno)), (yki, .inl (cI, 5, .inl Fki)), (yby, .inl (cI, 5, .inl f_72)), (ylo, .inl (cI, 5, .inl Flo)), (yhi, .inl (cI, 5, .inl Fhi))] H := hP
        have hD : va_D A [(h0, .inr (4, [.int ype, .int ytk, .ref ywi, .ref yki, .ref yse, .ref yno, .ref yrh, .ref yrw, .ref yrk, .ref yrt, .int yrp, .int yrq, .ref ytx, .int yle, .int yat, .int yfa, .ref yby, .ref ylo, .ref yhi, .int yac, .int ynx, .ref yro, .ref ygl, .int ysn, .ref yso, .ref ysp, .ref ysw, .long ysd, .ref yik, .ref ykp])), (yno, .inl (cI, 96, .inl Fno)), (yki, .inl (cI, 5, .inl Fki)), (yby, .inl (cI, 5, .inl f_72)), (ylo, .inl (cI, 5, .inl Flo)), (yhi, .inl (cI, 5, .inl Fhi))] := hD
        have HB : ByOk f_72 := by rw [← ef_72]; exact byOk_upd hby (by omega) (by omega)
        obtain ⟨v_73, ev_73⟩ : ∃ z : Int32, z = x5 + 1 := ⟨_, rfl⟩
        have tv_73 : v_73.toInt = x5.toInt + 1 := by rw [ev_73]; exact ti_add (x := x5) (y := 1) (show -2147483648 ≤ x5.toInt + 1 by omega) (show x5.toInt + 1 < 2147483648 by omega)
        refine lv_iinc (v := v_73) (lv' := [(5, .int v_73), (0, .ref h0), (1, .int 0), (2, .int n), (3, .int 0), (4, .int 0)]) hx hb dX4_pass_35 hl (k := 5) rfl (by rw [ev_73]; rfl) (by decide) rfl (fun ls hl => ?_)
        refine lv_goto (tgt := 11) hx hb dX4_pass_38 (by decide) ?_
        exact ih_2 v_73 f_72 _ _ _ (show (5 - v_73.toInt).toNat < fu_1 by omega) (show 0 ≤ v_73.toInt ∧ v_73.toInt ≤ 5 by omega) (HB) hP hD hS (lv_sub hl [1, 2, 3, 4, 5, 0] rfl)
  exact LOOP_1 _ 0 Fby _ _ _ (Nat.lt_succ_self _) (by decide) (hBy) hP hD hS (lv_sub hl [3, 4, 5, 2, 1, 0] rfl)

set_option maxHeartbeats 600000 in
set_option maxRecDepth 100000 in
theorem c_X4_pass1 (l : Launch) (D : va_G) (cI cZ cM : ClassId) (h0 : Nat) (n : Int32) (ype : Int32) (ytk : Int32) (ywi : Nat) (yki : Nat) (yse : Nat) (yno : Nat) (yrh : Nat) (yrw : Nat) (yrk : Nat) (yrt : Nat) (yrp : Int32) (yrq : Int32) (ytx : Nat) (yle : Int32) (yat : Int32) (yfa : Int32) (yby : Nat) (ylo : Nat) (yhi : Nat) (yac : Int32) (ynx : Int32) (yro : Nat) (ygl : Nat) (ysn : Int32) (yso : Nat) (ysp : Nat) (ysw : Nat) (ysd : Int64) (yik : Nat) (ykp : Nat) (Fno : Nat → Int32) (Fki : Nat → Int32) (Fby : Nat → Int32) (Flo : Nat → Int32) (Fhi : Nat → Int32) (sz : Nat) (hBy : ByOk Fby) (h_f : (Fno 48).toInt ≤ 9) (h_n : 0 ≤ n.toInt ∧ n.toInt ≤ 7) (h_ype : 0 ≤ ype.toInt ∧ ype.toInt ≤ 5) : Ci l yX4_pass wsX4_pass ({ frames := 1, cells := 0, slots := 0, locals := 28 } : Room) D cI cZ cM [.ref h0, .int 1, .int n] [(h0, .inr (4, [.int ype, .int ytk, .ref ywi, .ref yki, .ref yse, .ref yno, .ref yrh, .ref yrw, .ref yrk, .ref yrt, .int yrp, .int yrq, .ref ytx, .int yle, .int yat, .int yfa, .ref yby, .ref ylo, .ref yhi, .int yac, .int ynx, .ref yro, .ref ygl, .int ysn, .ref yso, .ref ysp, .ref ysw, .long ysd, .ref yik, .ref ykp])), (yno, .inl (cI, 96, .inl Fno)), (yki, .inl (cI, 5, .inl Fki)), (yby, .inl (cI, 5, .inl Fby)), (ylo, .inl (cI, 5, .inl Flo)), (yhi, .inl (cI, 5, .inl Fhi))] sz (fun (r : Int32) (u : (Nat → Int32) × (Nat → Int32) × (Nat → Int32) × (Nat → Int32)) => (u.1 48).toInt = (Fno 48).toInt + 1 ∧ ByOk u.2.1 ∧ WentOk r u.2.1) (fun u => [(h0, .inr (4, [.int ype, .int ytk, .ref ywi, .ref yki, .ref yse, .ref yno, .ref yrh, .ref yrw, .ref yrk, .ref yrt, .int yrp, .int yrq, .ref ytx, .int yle, .int yat, .int yfa, .ref yby, .ref ylo, .ref yhi, .int yac, .int ynx, .ref yro, .ref ygl, .int ysn, .ref yso, .ref ysp, .ref ysw, .long ysd, .ref yik, .ref ykp])), (yno, .inl (cI, 96, .inl u.1)), (yki, .inl (cI, 5, .inl Fki)), (yby, .inl (cI, 5, .inl u.2.1)), (ylo, .inl (cI, 5, .inl u.2.2.1)), (yhi, .inl (cI, 5, .inl u.2.2.2))]) 0 0 := by
  refine begins (l := l) (y := yX4_pass) (ws := wsX4_pass) (av := [.ref h0, .int 1, .int n]) (Qc := fun A => va_Qi (fun (r : Int32) (u : (Nat → Int32) × (Nat → Int32) × (Nat → Int32) × (Nat → Int32)) => (u.1 48).toInt = (Fno 48).toInt + 1 ∧ ByOk u.2.1 ∧ WentOk r u.2.1) (fun u => Wd D cI cZ cM A ((fun u => [(h0, .inr (4, [.int ype, .int ytk, .ref ywi, .ref yki, .ref yse, .ref yno, .ref yrh, .ref yrw, .ref yrk, .ref yrt, .int yrp, .int yrq, .ref ytx, .int yle, .int yat, .int yfa, .ref yby, .ref ylo, .ref yhi, .int yac, .int ynx, .ref yro, .ref ygl, .int ysn, .ref yso, .ref ysp, .ref ysw, .long ysd, .ref yik, .ref ykp])), (yno, .inl (cI, 96, .inl u.1)), (yki, .inl (cI, 5, .inl Fki)), (yby, .inl (cI, 5, .inl u.2.1)), (ylo, .inl (cI, 5, .inl u.2.2.1)), (yhi, .inl (cI, 5, .inl u.2.2.2))]) u)) A) cX4_pass 9 (some .int) (by decide) rfl (Nat.le_of_ble_eq_true rfl) ?_
  intro p e s m args below meth c R Q A ls hBd hR hQ hA hS hK hP hD hl
  obtain ⟨hx, hb, hr, hts, hown, hlocks, hin, hml⟩ := hBd
  have hl : lv_has ls 9 [(0, .ref h0), (1, .int 1), (2, .int n)] := hl
  have iX4 : ∀ w ∈ wsX40, w ∈ wsX4_pass := fun _ h => List.mem_cons_of_mem _ (List.mem_append_right _ h)
  obtain ⟨h_na, h_nb⟩ := h_n
  obtain ⟨h_ypea, h_ypeb⟩ := h_ype
  refine lv_bipush (v := 48) hx hb dX4_pass_0 (by decide) ?_
  refine lv_iload_n hx hb dX4_pass_2 rfl (lv_at hl 1 rfl) ?_
  refine lv_imul hx hb dX4_pass_3 ?_
  refine lv_topc (y := 48) (by decide) ?_
  refine lv_istore_n (lv' := [(3, .int 48), (0, .ref h0), (1, .int 1), (2, .int n)]) hx hb dX4_pass_4 rfl hl (by decide) rfl (fun ls hl => ?_)
  refine lv_iconst (v := 0) hx hb dX4_pass_5 (by decide) ?_
  refine lv_istore (lv' := [(4, .int 0), (3, .int 48), (0, .ref h0), (1, .int 1), (2, .int n)]) hx hb dX4_pass_6 hl (by decide) rfl (fun ls hl => ?_)
  refine lv_iconst (v := 0) hx hb dX4_pass_8 (by decide) ?_
  refine lv_istore (lv' := [(5, .int 0), (4, .int 0), (3, .int 48), (0, .ref h0), (1, .int 1), (2, .int n)]) hx hb dX4_pass_9 hl (by decide) rfl (fun ls hl => ?_)
  have LOOP_1 : ∀ (fu_1 : Nat) (x5 : Int32) (gb : Nat → Int32) (H : Heap) (locs : List Loc) (ls : Array Slot), (5 - x5.toInt).toNat < fu_1 → (0 ≤ x5.toInt ∧ x5.toInt ≤ 5) → (ByOk gb) → va_P D vwCl [(h0, .inr (4, [.int ype, .int ytk, .ref ywi, .ref yki, .ref yse, .ref yno, .ref yrh, .ref yrw, .ref yrk, .ref yrt, .int yrp, .int yrq, .ref ytx, .int yle, .int yat, .int yfa, .ref yby, .ref ylo, .ref yhi, .int yac, .int ynx, .ref yro, .ref ygl, .int ysn, .ref yso, .ref ysp, .ref ysw, .long ysd, .ref yik, .ref ykp])), (yno, .inl (cI, 96, .inl Fno)), (yki, .inl (cI, 5, .inl Fki)), (yby, .inl (cI, 5, .inl gb)), (ylo, .inl (cI, 5, .inl Flo)), (yhi, .inl (cI, 5, .inl Fhi))] H → va_D A [(h0, .inr (4, [.int ype, .int ytk, .ref ywi, .ref yki, .ref yse, .ref yno, .ref yrh, .ref yrw, .ref yrk, .ref yrt, .int yrp, .int yrq, .ref ytx, .int yle, .int yat, .int yfa, .ref yby, .ref ylo, .ref yhi, .int yac, .int ynx, .ref yro, .ref ygl, .int ysn, .ref yso, .ref ysp, .ref ysw, .long ysd, .ref yik, .ref ykp])), (yno, .inl (cI, 96, .inl Fno)), (yki, .inl (cI, 5, .inl Fki)), (yby, .inl (cI, 5, .inl gb)), (ylo, .inl (cI, 5, .inl Flo)), (yhi, .inl (cI, 5, .inl Fhi))] → va_S A s.heap H locs → lv_has ls 9 [(0, .ref h0), (1, .int 1), (2, .int n), (3, .int 48), (4, .int 0), (5, .int x5)] → W p l e R s m args below meth c H locs 0 0 Q (F0 m 11 ls []) := by
    intro fu_1
    induction fu_1 with
    | zero => intro x5 gb H locs ls hmu; exact absurd hmu (Nat.not_lt_zero _)
    | succ fu_1 ih =>
      intro x5 gb H locs ls hmu h_x5 hby hP hD hS hl
      obtain ⟨h_x5a, h_x5b⟩ := h_x5
      have ih_2 := ih
      clear ih
      refine lv_iload hx hb dX4_pass_11 (lv_at hl 5 rfl) ?_
      refine lv_aload_n hx hb dX4_pass_13 rfl (lv_at hl 0 rfl) ?_
      refine va_get (D := D) (ci := 4) (v := .int ype) (C := RX4) (T := TX4) (N := 30) hx hb hts iX4 hown hK hP 0 rfl rfl 0 (by decide) (hts (.fieldLink RX4 68 "PunchedTicketModel" "people" "I") (List.mem_of_getElem? (i := 1) rfl)) (fun _ h9 => h9) rfl dX4_pass_14 ?_
      refine lv_icmp_ge (tgt := 41) hx hb dX4_pass_17 (by decide) (fun c_3 => ?_) (fun c_3 => ?_)
      · have tc_3 := b_le rfl rfl c_3
        refine lv_iconst (v := 0) hx hb dX4_pass_41 (by decide) ?_
        refine lv_istore (lv' := [(5, .int 0), (0, .ref h0), (1, .int 1), (2, .int n), (3, .int 48), (4, .int 0)]) hx hb dX4_pass_42 hl (by decide) rfl (fun ls hl => ?_)
        have LOOP_4 : ∀ (fu_4 : Nat) (w4 : Int32) (z5 : Int32) (gn : Nat → Int32) (gl : Nat → Int32) (gh : Nat → Int32) (H : Heap) (locs : List Loc) (ls : Array Slot), (5 - z5.toInt).toNat < fu_4 → (0 ≤ z5.toInt ∧ z5.toInt ≤ 5) → (WentOk w4 gb) → ((gn 48).toInt = (Fno 48).toInt) → va_P D vwCl [(h0, .inr (4, [.int ype, .int ytk, .ref ywi, .ref yki, .ref yse, .ref yno, .ref yrh, .ref yrw, .ref yrk, .ref yrt, .int yrp, .int yrq, .ref ytx, .int yle, .int yat, .int yfa, .ref yby, .ref ylo, .ref yhi, .int yac, .int ynx, .ref yro, .ref ygl, .int ysn, .ref yso, .ref ysp, .ref ysw, .long ysd, .ref yik, .ref ykp])), (yno, .inl (cI, 96, .inl gn)), (yki, .inl (cI, 5, .inl Fki)), (yby, .inl (cI, 5, .inl gb)), (ylo, .inl (cI, 5, .inl gl)), (yhi, .inl (cI, 5, .inl gh))] H → va_D A [(h0, .inr (4, [.int ype, .int ytk, .ref ywi, .ref yki, .ref yse, .ref yno, .ref yrh, .ref yrw, .ref yrk, .ref yrt, .int yrp, .int yrq, .ref ytx, .int yle, .int yat, .int yfa, .ref yby, .ref ylo, .ref yhi, .int yac, .int ynx, .ref yro, .ref ygl, .int ysn, .ref yso, .ref ysp, .ref ysw, .long ysd, .ref yik, .ref ykp])), (yno, .inl (cI, 96, .inl gn)), (yki, .inl (cI, 5, .inl Fki)), (yby, .inl (cI, 5, .inl gb)), (ylo, .inl (cI, 5, .inl gl)), (yhi, .inl (cI, 5, .inl gh))] → va_S A s.heap H locs → lv_has ls 9 [(0, .ref h0), (1, .int 1), (2, .int n), (3, .int 48), (4, .int w4), (5, .int z5)] → W p l e R s m args below meth c H locs 0 0 Q (F0 m 44 ls []) := by
          intro fu_4
          induction fu_4 with
          | zero => intro w4 z5 gn gl gh H locs ls hmu; exact absurd hmu (Nat.not_lt_zero _)
          | succ fu_4 ih =>
            intro w4 z5 gn gl gh H locs ls hmu h_z5 hwn h48 hP hD hS hl
            obtain ⟨h_z5a, h_z5b⟩ := h_z5
            have ih_5 := ih
            clear ih
            refine lv_iload hx hb dX4_pass_44 (lv_at hl 5 rfl) ?_
            refine lv_aload_n hx hb dX4_pass_46 rfl (lv_at hl 0 rfl) ?_
            refine va_get (D := D) (ci := 4) (v := .int ype) (C := RX4) (T := TX4) (N := 30) hx hb hts iX4 hown hK hP 0 rfl rfl 0 (by decide) (hts (.fieldLink RX4 68 "PunchedTicketModel" "people" "I") (List.mem_of_getElem? (i := 1) rfl)) (fun _ h9 => h9) rfl dX4_pass_47 ?_
            refine lv_icmp_ge (tgt := 188) hx hb dX4_pass_50 (by decide) (fun c_6 => ?_) (fun c_6 => ?_)
            · have tc_6 := b_le rfl rfl c_6
              refine lv_aload_n hx hb dX4_pass_188 rfl (lv_at hl 0 rfl) ?_
              refine va_get (D := D) (ci := 4) (v := .ref yno) (C := RX4) (T := TX4) (N := 30) hx hb hts iX4 hown hK hP 0 rfl rfl 5 (by decide) (hts (.fieldLink RX4 19 "PunchedTicketModel" "now" "[I") (List.mem_of_getElem? (i := 3) rfl)) (fun _ h9 => h9) rfl dX4_pass_189 ?_
              refine lv_iload_n hx hb dX4_pass_192 rfl (lv_at hl 3 rfl) ?_
              refine lv_dup2_11 hx hb dX4_pass_193 rfl rfl ?_
              refine va_iald hx hb hK hP 1 0 rfl rfl (vp_in_iff.mpr (by decide)) dX4_pass_194 ?_
              refine lv_topi (fun v_7 ev_7 => ?_)
              have tv_7 : v_7.toInt = (gn 48).toInt := by rw [ev_7]; rfl
              refine lv_iconst (v := 1) hx hb dX4_pass_195 (by decide) ?_
              refine lv_iadd hx hb dX4_pass_196 ?_
              refine lv_topi (fun v_8 ev_8 => ?_)
              have bdv_8v_7 := ti_bd v_7
              have tv_8 : v_8.toInt = v_7.toInt + (1 : Int) := by rw [ev_8]; exact ti_add (x := v_7) (y := 1) (show -2147483648 ≤ v_7.toInt + (1 : Int) by omega) (show v_7.toInt + (1 : Int) < 2147483648 by omega)
              refine va_iast hx hb hK hP hD hS 1 0 rfl rfl (vp_in_iff.mpr (by decide)) dX4_pass_197 (fun H locs hP hD hS => ?_)
              obtain ⟨f_9, ef_9⟩ : ∃ g : Nat → Int32, upd gn (48 : Int32).toNatClampNeg v_8 = g := ⟨_, rfl⟩
              rw [ef_9] at hP hD
              have hP : va_P D vwCl [(h0, .inr (4, [.int ype, .int ytk, .ref ywi, .ref yki, .ref yse, .ref yno, .ref yrh, .ref yrw, .ref yrk, .ref yrt, .int yrp, .int yrq, .ref ytx, .int yle, .int yat, .int yfa, .ref yby, .ref ylo, .ref yhi, .int yac, .int ynx, .ref yro, .ref ygl, .int ysn, .ref yso, .ref ysp, .ref ysw, .long ysd, .ref yik, .ref ykp])), (yno, .inl (cI, 96, .inl f_9)), (yki, .inl (cI, 5, .inl Fki)), (yby, .inl (cI, 5, .inl gb)), (ylo, .inl (cI, 5, .inl gl)), (yhi, .inl (cI, 5, .inl gh))] H := hP
              have hD : va_D A [(h0, .inr (4, [.int ype, .int ytk, .ref ywi, .ref yki, .ref yse, .ref yno, .ref yrh, .ref yrw, .ref yrk, .ref yrt, .int yrp, .int yrq, .ref ytx, .int yle, .int yat, .int yfa, .ref yby, .ref ylo, .ref yhi, .int yac, .int ynx, .ref yro, .ref ygl, .int ysn, .ref yso, .ref ysp, .ref ysw, .long ysd, .ref yik, .ref ykp])), (yno, .inl (cI, 96, .inl f_9)), (yki, .inl (cI, 5, .inl Fki)), (yby, .inl (cI, 5, .inl gb)), (ylo, .inl (cI, 5, .inl gl)), (yhi, .inl (cI, 5, .inl gh))] := hD
              have hz : (f_9 48).toInt = (Fno 48).toInt + 1 := by rw [show f_9 48 = v_8 by rw [← ef_9]; exact pk_us]; omega
              refine lv_iload hx hb dX4_pass_198 (lv_at hl 4 rfl) ?_
              exact ret_i (post := (fun (r : Int32) (u : (Nat → Int32) × (Nat → Int32) × (Nat → Int32) × (Nat → Int32)) => (u.1 48).toInt = (Fno 48).toInt + 1 ∧ ByOk u.2.1 ∧ WentOk r u.2.1)) (W1 := (fun u => [(h0, .inr (4, [.int ype, .int ytk, .ref ywi, .ref yki, .ref yse, .ref yno, .ref yrh, .ref yrw, .ref yrk, .ref yrt, .int yrp, .int yrq, .ref ytx, .int yle, .int yat, .int yfa, .ref yby, .ref ylo, .ref yhi, .int yac, .int ynx, .ref yro, .ref ygl, .int ysn, .ref yso, .ref ysp, .ref ysw, .long ysd, .ref yik, .ref ykp])), (yno, .inl (cI, 96, .inl u.1)), (yki, .inl (cI, 5, .inl Fki)), (yby, .inl (cI, 5, .inl u.2.1)), (ylo, .inl (cI, 5, .inl u.2.2.1)), (yhi, .inl (cI, 5, .inl u.2.2.2))])) (f_9, gb, gl, gh) hx hb hr hlocks rfl hQ hK hP hD hS ⟨by decide, by decide⟩ dX4_pass_200 (⟨hz, hby, hwn⟩)
            · have tc_6 := b_nle rfl rfl c_6
              refine lv_aload_n hx hb dX4_pass_53 rfl (lv_at hl 0 rfl) ?_
              refine va_get (D := D) (ci := 4) (v := .ref yby) (C := RX4) (T := TX4) (N := 30) hx hb hts iX4 hown hK hP 0 rfl rfl 16 (by decide) (hts (.fieldLink RX4 37 "PunchedTicketModel" "by" "[I") (List.mem_of_getElem? (i := 2) rfl)) (fun _ h9 => h9) rfl dX4_pass_54 ?_
              refine lv_iload hx hb dX4_pass_57 (lv_at hl 5 rfl) ?_
              refine va_iald hx hb hK hP 3 0 rfl rfl (vp_in_iff.mpr ⟨by omega, by omega⟩) dX4_pass_59 ?_
              refine lv_topi (fun v_10 ev_10 => ?_)
              have tb := byOk_at hby ev_10 (by omega) (by omega)
              refine lv_bipush (v := (-9)) hx hb dX4_pass_60 (by decide) ?_
              refine lv_icmp_eq (tgt := 182) hx hb dX4_pass_62 (by decide) (fun c_11 => ?_) (fun c_11 => ?_)
              · have tc_11 := b_eq rfl (show ((-9) : Int32).toInt = -9 by decide) c_11
                obtain ⟨v_12, ev_12⟩ : ∃ z : Int32, z = z5 + 1 := ⟨_, rfl⟩
                have tv_12 : v_12.toInt = z5.toInt + 1 := by rw [ev_12]; exact ti_add (x := z5) (y := 1) (show -2147483648 ≤ z5.toInt + 1 by omega) (show z5.toInt + 1 < 2147483648 by omega)
                refine lv_iinc (v := v_12) (lv' := [(5, .int v_12), (0, .ref h0), (1, .int 1), (2, .int n), (3, .int 48), (4, .int w4)]) hx hb dX4_pass_182 hl (k := 5) rfl (by rw [ev_12]; rfl) (by decide) rfl (fun ls hl => ?_)
                refine lv_goto (tgt := 44) hx hb dX4_pass_185 (by decide) ?_
                exact ih_5 w4 v_12 gn gl gh _ _ _ (show (5 - v_12.toInt).toNat < fu_4 by omega) (show 0 ≤ v_12.toInt ∧ v_12.toInt ≤ 5 by omega) (hwn) (show (gn 48).toInt = (Fno 48).toInt by omega) hP hD hS (lv_sub hl [1, 2, 3, 4, 5, 0] rfl)
              · have tc_11 := b_ne rfl (show ((-9) : Int32).toInt = -9 by decide) c_11
                refine lv_iload_n hx hb dX4_pass_65 rfl (lv_at hl 3 rfl) ?_
                refine lv_bipush (v := 6) hx hb dX4_pass_66 (by decide) ?_
                refine lv_iadd hx hb dX4_pass_68 ?_
                refine lv_topc (y := 54) (by decide) ?_
                refine lv_bipush (v := 6) hx hb dX4_pass_69 (by decide) ?_
                refine lv_aload_n hx hb dX4_pass_71 rfl (lv_at hl 0 rfl) ?_
                refine va_get (D := D) (ci := 4) (v := .ref yby) (C := RX4) (T := TX4) (N := 30) hx hb hts iX4 hown hK hP 0 rfl rfl 16 (by decide) (hts (.fieldLink RX4 37 "PunchedTicketModel" "by" "[I") (List.mem_of_getElem? (i := 2) rfl)) (fun _ h9 => h9) rfl dX4_pass_72 ?_
                refine lv_iload hx hb dX4_pass_75 (lv_at hl 5 rfl) ?_
                refine va_iald hx hb hK hP 3 0 rfl rfl (vp_in_iff.mpr ⟨by omega, by omega⟩) dX4_pass_77 ?_
                refine lv_topi (fun v_13 ev_13 => ?_)
                have tv_13 : v_13.toInt = v_10.toInt := by rw [ev_13, ev_10]
                have h0v_13 : 0 ≤ v_13.toInt := by omega
                have h6v_13 : v_13.toInt ≤ 6 := by omega
                refine lv_imul hx hb dX4_pass_78 ?_
                refine lv_topi (fun v_14 ev_14 => ?_)
                have tv_14 : v_14.toInt = (6 : Int) * v_13.toInt := by rw [ev_14]; exact ti_mul (x := 6) (y := v_13) (show -2147483648 ≤ (6 : Int) * v_13.toInt by omega) (show (6 : Int) * v_13.toInt < 2147483648 by omega)
                refine lv_iadd hx hb dX4_pass_79 ?_
                refine lv_topi (fun v_15 ev_15 => ?_)
                have tv_15 : v_15.toInt = (54 : Int) + v_14.toInt := by rw [ev_15]; exact ti_add (x := 54) (y := v_14) (show -2147483648 ≤ (54 : Int) + v_14.toInt by omega) (show (54 : Int) + v_14.toInt < 2147483648 by omega)
                refine lv_istore (lv' := [(6, .int v_15), (0, .ref h0), (1, .int 1), (2, .int n), (3, .int 48), (4, .int w4), (5, .int z5)]) hx hb dX4_pass_80 hl (by decide) rfl (fun ls hl => ?_)
                refine lv_aload_n hx hb dX4_pass_82 rfl (lv_at hl 1 rfl) ?_
                refine va_get (D := D) (ci := 4) (v := .ref yno) (C := RX4) (T := TX4) (N := 30) hx hb hts iX4 hown hK hP 0 rfl rfl 5 (by decide) (hts (.fieldLink RX4 19 "PunchedTicketModel" "now" "[I") (List.mem_of_getElem? (i := 3) rfl)) (fun _ h9 => h9) rfl dX4_pass_83 ?_
                refine lv_iload hx hb dX4_pass_86 (lv_at hl 0 rfl) ?_
                refine lv_iconst (v := 1) hx hb dX4_pass_88 (by decide) ?_
                refine lv_iadd hx hb dX4_pass_89 ?_
                refine lv_topi (fun v_16 ev_16 => ?_)
                have tv_16 : v_16.toInt = v_15.toInt + (1 : Int) := by rw [ev_16]; exact ti_add (x := v_15) (y := 1) (show -2147483648 ≤ v_15.toInt + (1 : Int) by omega) (show v_15.toInt + (1 : Int) < 2147483648 by omega)
                refine va_iald hx hb hK hP 1 0 rfl rfl (vp_in_iff.mpr ⟨by omega, by omega⟩) dX4_pass_90 ?_
                refine lv_topi (fun v_17 ev_17 => ?_)
                refine lv_istore (lv' := [(7, .int v_17), (6, .int v_15), (0, .ref h0), (1, .int 1), (2, .int n), (3, .int 48), (4, .int w4), (5, .int z5)]) hx hb dX4_pass_91 hl (by decide) rfl (fun ls hl => ?_)
                refine lv_aload_n hx hb dX4_pass_93 rfl (lv_at hl 2 rfl) ?_
                refine va_get (D := D) (ci := 4) (v := .ref yno) (C := RX4) (T := TX4) (N := 30) hx hb hts iX4 hown hK hP 0 rfl rfl 5 (by decide) (hts (.fieldLink RX4 19 "PunchedTicketModel" "now" "[I") (List.mem_of_getElem? (i := 3) rfl)) (fun _ h9 => h9) rfl dX4_pass_94 ?_
                refine lv_iload hx hb dX4_pass_97 (lv_at hl 1 rfl) ?_
                refine lv_iconst (v := 2) hx hb dX4_pass_99 (by decide) ?_
                refine lv_iadd hx hb dX4_pass_100 ?_
                refine lv_topi (fun v_18 ev_18 => ?_)
                have tv_18 : v_18.toInt = v_15.toInt + (2 : Int) := by rw [ev_18]; exact ti_add (x := v_15) (y := 2) (show -2147483648 ≤ v_15.toInt + (2 : Int) by omega) (show v_15.toInt + (2 : Int) < 2147483648 by omega)
                refine va_iald hx hb hK hP 1 0 rfl rfl (vp_in_iff.mpr ⟨by omega, by omega⟩) dX4_pass_101 ?_
                refine lv_topi (fun v_19 ev_19 => ?_)
                refine lv_istore (lv' := [(8, .int v_19), (7, .int v_17), (6, .int v_15), (0, .ref h0), (1, .int 1), (2, .int n), (3, .int 48), (4, .int w4), (5, .int z5)]) hx hb dX4_pass_102 hl (by decide) rfl (fun ls hl => ?_)
                refine lv_aload_n hx hb dX4_pass_104 rfl (lv_at hl 3 rfl) ?_
                refine va_get (D := D) (ci := 4) (v := .ref ylo) (C := RX4) (T := TX4) (N := 30) hx hb hts iX4 hown hK hP 0 rfl rfl 17 (by decide) (hts (.fieldLink RX4 40 "PunchedTicketModel" "low" "[I") (List.mem_of_getElem? (i := 4) rfl)) (fun _ h9 => h9) rfl dX4_pass_105 ?_
                refine lv_iload hx hb dX4_pass_108 (lv_at hl 8 rfl) ?_
                refine lv_iload hx hb dX4_pass_110 (lv_at hl 1 rfl) ?_
                refine lv_iload hx hb dX4_pass_112 (lv_at hl 0 rfl) ?_
                refine lv_icmp_ge (tgt := 122) hx hb dX4_pass_114 (by decide) (fun c_20 => ?_) (fun c_20 => ?_)
                · have tc_20 := b_le rfl rfl c_20
                  refine lv_iload hx hb dX4_pass_122 (lv_at hl 0 rfl) ?_
                  refine va_iast hx hb hK hP hD hS 4 0 rfl rfl (vp_in_iff.mpr ⟨by omega, by omega⟩) dX4_pass_124 (fun H locs hP hD hS => ?_)
                  obtain ⟨f_21, ef_21⟩ : ∃ g : Nat → Int32, upd gl (z5 : Int32).toNatClampNeg v_19 = g := ⟨_, rfl⟩
                  rw [ef_21] at hP hD
                  have hP : va_P D vwCl [(h0, .inr (4, [.int ype, .int ytk, .ref ywi, .ref yki, .ref yse, .ref yno, .ref yrh, .ref yrw, .ref yrk, .ref yrt, .int yrp, .int yrq, .ref ytx, .int yle, .int yat, .int yfa, .ref yby, .ref ylo, .ref yhi, .int yac, .int ynx, .ref yro, .ref ygl, .int ysn, .ref yso, .ref ysp, .ref ysw, .long ysd, .ref yik, .ref ykp])), (yno, .inl (cI, 96, .inl gn)), (yki, .inl (cI, 5, .inl Fki)), (yby, .inl (cI, 5, .inl gb)), (ylo, .inl (cI, 5, .inl f_21)), (yhi, .inl (cI, 5, .inl gh))] H := hP
                  have hD : va_D A [(h0, .inr (4, [.int ype, .int ytk, .ref ywi, .ref yki, .ref yse, .ref yno, .ref yrh, .ref yrw, .ref yrk, .ref yrt, .int yrp, .int yrq, .ref ytx, .int yle, .int yat, .int yfa, .ref yby, .ref ylo, .ref yhi, .int yac, .int ynx, .ref yro, .ref ygl, .int ysn, .ref yso, .ref ysp, .ref ysw, .long ysd, .ref yik, .ref ykp])), (yno, .inl (cI, 96, .inl gn)), (yki, .inl (cI, 5, .inl Fki)), (yby, .inl (cI, 5, .inl gb)), (ylo, .inl (cI, 5, .inl f_21)), (yhi, .inl (cI, 5, .inl gh))] := hD
                  refine lv_aload_n hx hb dX4_pass_125 rfl (lv_at hl 3 rfl) ?_
                  refine va_get (D := D) (ci := 4) (v := .ref yhi) (C := RX4) (T := TX4) (N := 30) hx hb hts iX4 hown hK hP 0 rfl rfl 18 (by decide) (hts (.fieldLink RX4 43 "PunchedTicketModel" "high" "[I") (List.mem_of_getElem? (i := 5) rfl)) (fun _ h9 => h9) rfl dX4_pass_126 ?_
                  refine lv_iload hx hb dX4_pass_129 (lv_at hl 8 rfl) ?_
                  refine lv_iload hx hb dX4_pass_131 (lv_at hl 1 rfl) ?_
                  refine lv_iload hx hb dX4_pass_133 (lv_at hl 0 rfl) ?_
                  refine lv_icmp_ge (tgt := 143) hx hb dX4_pass_135 (by decide) (fun c_22 => ?_) (fun c_22 => ?_)
                  · have tc_22 := b_le rfl rfl c_22
                    refine lv_iload hx hb dX4_pass_143 (lv_at hl 1 rfl) ?_
                    refine va_iast hx hb hK hP hD hS 5 0 rfl rfl (vp_in_iff.mpr ⟨by omega, by omega⟩) dX4_pass_145 (fun H locs hP hD hS => ?_)
                    obtain ⟨f_23, ef_23⟩ : ∃ g : Nat → Int32, upd gh (z5 : Int32).toNatClampNeg v_17 = g := ⟨_, rfl⟩
                    rw [ef_23] at hP hD
                    have hP : va_P D vwCl [(h0, .inr (4, [.int ype, .int ytk, .ref ywi, .ref yki, .ref yse, .ref yno, .ref yrh, .ref yrw, .ref yrk, .ref yrt, .int yrp, .int yrq, .ref ytx, .int yle, .int yat, .int yfa, .ref yby, .ref ylo, .ref yhi, .int yac, .int ynx, .ref yro, .ref ygl, .int ysn, .ref yso, .ref ysp, .ref ysw, .long ysd, .ref yik, .ref ykp])), (yno, .inl (cI, 96, .inl gn)), (yki, .inl (cI, 5, .inl Fki)), (yby, .inl (cI, 5, .inl gb)), (ylo, .inl (cI, 5, .inl f_21)), (yhi, .inl (cI, 5, .inl f_23))] H := hP
                    have hD : va_D A [(h0, .inr (4, [.int ype, .int ytk, .ref ywi, .ref yki, .ref yse, .ref yno, .ref yrh, .ref yrw, .ref yrk, .ref yrt, .int yrp, .int yrq, .ref ytx, .int yle, .int yat, .int yfa, .ref yby, .ref ylo, .ref yhi, .int yac, .int ynx, .ref yro, .ref ygl, .int ysn, .ref yso, .ref ysp, .ref ysw, .long ysd, .ref yik, .ref ykp])), (yno, .inl (cI, 96, .inl gn)), (yki, .inl (cI, 5, .inl Fki)), (yby, .inl (cI, 5, .inl gb)), (ylo, .inl (cI, 5, .inl f_21)), (yhi, .inl (cI, 5, .inl f_23))] := hD
                    refine lv_aload_n hx hb dX4_pass_146 rfl (lv_at hl 3 rfl) ?_
                    refine va_get (D := D) (ci := 4) (v := .ref yno) (C := RX4) (T := TX4) (N := 30) hx hb hts iX4 hown hK hP 0 rfl rfl 5 (by decide) (hts (.fieldLink RX4 19 "PunchedTicketModel" "now" "[I") (List.mem_of_getElem? (i := 3) rfl)) (fun _ h9 => h9) rfl dX4_pass_147 ?_
                    refine lv_iload_n hx hb dX4_pass_150 rfl (lv_at hl 6 rfl) ?_
                    refine lv_iconst (v := 1) hx hb dX4_pass_151 (by decide) ?_
                    refine lv_iadd hx hb dX4_pass_152 ?_
                    refine lv_topc (y := 49) (by decide) ?_
                    refine lv_iload hx hb dX4_pass_153 (lv_at hl 8 rfl) ?_
                    refine lv_iadd hx hb dX4_pass_155 ?_
                    refine lv_topi (fun v_24 ev_24 => ?_)
                    have tv_24 : v_24.toInt = (49 : Int) + z5.toInt := by rw [ev_24]; exact ti_add (x := 49) (y := z5) (show -2147483648 ≤ (49 : Int) + z5.toInt by omega) (show (49 : Int) + z5.toInt < 2147483648 by omega)
                    refine lv_iload hx hb dX4_pass_156 (lv_at hl 0 rfl) ?_
                    refine va_iast hx hb hK hP hD hS 1 0 rfl rfl (vp_in_iff.mpr ⟨by omega, by omega⟩) dX4_pass_158 (fun H locs hP hD hS => ?_)
                    obtain ⟨f_25, ef_25⟩ : ∃ g : Nat → Int32, upd gn (v_24 : Int32).toNatClampNeg v_19 = g := ⟨_, rfl⟩
                    rw [ef_25] at hP hD
                    have hP : va_P D vwCl [(h0, .inr (4, [.int ype, .int ytk, .ref ywi, .ref yki, .ref yse, .ref yno, .ref yrh, .ref yrw, .ref yrk, .ref yrt, .int yrp, .int yrq, .ref ytx, .int yle, .int yat, .int yfa, .ref yby, .ref ylo, .ref yhi, .int yac, .int ynx, .ref yro, .ref ygl, .int ysn, .ref yso, .ref ysp, .ref ysw, .long ysd, .ref yik, .ref ykp])), (yno, .inl (cI, 96, .inl f_25)), (yki, .inl (cI, 5, .inl Fki)), (yby, .inl (cI, 5, .inl gb)), (ylo, .inl (cI, 5, .inl f_21)), (yhi, .inl (cI, 5, .inl f_23))] H := hP
                    have hD : va_D A [(h0, .inr (4, [.int ype, .int ytk, .ref ywi, .ref yki, .ref yse, .ref yno, .ref yrh, .ref yrw, .ref yrk, .ref yrt, .int yrp, .int yrq, .ref ytx, .int yle, .int yat, .int yfa, .ref yby, .ref ylo, .ref yhi, .int yac, .int ynx, .ref yro, .ref ygl, .int ysn, .ref yso, .ref ysp, .ref ysw, .long ysd, .ref yik, .ref ykp])), (yno, .inl (cI, 96, .inl f_25)), (yki, .inl (cI, 5, .inl Fki)), (yby, .inl (cI, 5, .inl gb)), (ylo, .inl (cI, 5, .inl f_21)), (yhi, .inl (cI, 5, .inl f_23))] := hD
                    have k48f_25 : (f_25 48).toInt = (gn 48).toInt := by rw [← ef_25, upd_ne (by omega) (by omega)]
                    refine lv_iload hx hb dX4_pass_159 (lv_at hl 7 rfl) ?_
                    refine lv_iconst (v := 1) hx hb dX4_pass_161 (by decide) ?_
                    refine lv_iload hx hb dX4_pass_162 (lv_at hl 8 rfl) ?_
                    refine lv_ishl hx hb dX4_pass_164 ?_
                    refine lv_topi (fun v_26 ev_26 => ?_)
                    refine lv_ior hx hb dX4_pass_165 ?_
                    refine lv_topi (fun v_27 ev_27 => ?_)
                    have HW : WentOk v_27 gb := by rw [ev_27, ev_26]; exact wentOk_or hwn (by omega) (by omega) (by rw [← ev_10]; omega)
                    refine lv_istore (lv' := [(4, .int v_27), (8, .int v_19), (7, .int v_17), (6, .int v_15), (0, .ref h0), (1, .int 1), (2, .int n), (3, .int 48), (5, .int z5)]) hx hb dX4_pass_166 hl (by decide) rfl (fun ls hl => ?_)
                    refine lv_aload_n hx hb dX4_pass_168 rfl (lv_at hl 4 rfl) ?_
                    refine lv_iload_n hx hb dX4_pass_169 rfl (lv_at hl 5 rfl) ?_
                    refine lv_iload hx hb dX4_pass_170 (lv_at hl 8 rfl) ?_
                    refine lv_aload_n hx hb dX4_pass_172 rfl (lv_at hl 4 rfl) ?_
                    refine va_get (D := D) (ci := 4) (v := .ref yby) (C := RX4) (T := TX4) (N := 30) hx hb hts iX4 hown hK hP 0 rfl rfl 16 (by decide) (hts (.fieldLink RX4 37 "PunchedTicketModel" "by" "[I") (List.mem_of_getElem? (i := 2) rfl)) (fun _ h9 => h9) rfl dX4_pass_173 ?_
                    refine lv_iload hx hb dX4_pass_176 (lv_at hl 8 rfl) ?_
                    refine va_iald hx hb hK hP 3 0 rfl rfl (vp_in_iff.mpr ⟨by omega, by omega⟩) dX4_pass_178 ?_
                    refine lv_topi (fun v_28 ev_28 => ?_)
                    have tv_28 : v_28.toInt = v_10.toInt := by rw [ev_28, ev_10]
                    have h0v_28 : 0 ≤ v_28.toInt := by omega
                    have h6v_28 : v_28.toInt ≤ 6 := by omega
                    refine cV_v (As := [.int 1, .int z5, .int v_28]) (rest := []) ⟨hx, hb, hml, hown, hts⟩ (c_X4_use l D cI cZ cM h0 1 z5 v_28 ype ytk ywi yki yse yno yrh yrw yrk yrt yrp yrq ytx yle yat yfa yby ylo yhi yac ynx yro ygl ysn yso ysp ysw ysd yik ykp f_25 Fki _ (by decide) (show 0 ≤ z5.toInt ∧ z5.toInt ≤ 4 by omega) (show 0 ≤ v_28.toInt ∧ v_28.toInt ≤ 6 by omega)) (cwV 3 hts gX4_pass_X4_use rfl rfl rfl (by decide +kernel) ⟨by rw [hR]; decide, by rw [hR]; decide⟩) hK hP hD hS hA [0, 1, 2] [3, 4, 5] rfl rfl (by decide) (by decide) (by decide) rfl 0 rfl hl.1 rfl rfl (Nat.le_of_ble_eq_true rfl) dX4_pass_179 ⟨by rw [hR]; decide, by rw [hR]; decide⟩ (fun u_31 H locs hw hP hD hS => ?_)
                    obtain ⟨Gno_29, rfl⟩ : ∃ z, z = u_31 := ⟨_, rfl⟩
                    have hP : va_P D vwCl [(h0, .inr (4, [.int ype, .int ytk, .ref ywi, .ref yki, .ref yse, .ref yno, .ref yrh, .ref yrw, .ref yrk, .ref yrt, .int yrp, .int yrq, .ref ytx, .int yle, .int yat, .int yfa, .ref yby, .ref ylo, .ref yhi, .int yac, .int ynx, .ref yro, .ref ygl, .int ysn, .ref yso, .ref ysp, .ref ysw, .long ysd, .ref yik, .ref ykp])), (yno, .inl (cI, 96, .inl Gno_29)), (yki, .inl (cI, 5, .inl Fki)), (yby, .inl (cI, 5, .inl gb)), (ylo, .inl (cI, 5, .inl f_21)), (yhi, .inl (cI, 5, .inl f_23))] H := hP.sub [3, 4, 5, 0, 1, 2] rfl
                    have hD : va_D A [(h0, .inr (4, [.int ype, .int ytk, .ref ywi, .ref yki, .ref yse, .ref yno, .ref yrh, .ref yrw, .ref yrk, .ref yrt, .int yrp, .int yrq, .ref ytx, .int yle, .int yat, .int yfa, .ref yby, .ref ylo, .ref yhi, .int yac, .int ynx, .ref yro, .ref ygl, .int ysn, .ref yso, .ref ysp, .ref ysw, .long ysd, .ref yik, .ref ykp])), (yno, .inl (cI, 96, .inl Gno_29)), (yki, .inl (cI, 5, .inl Fki)), (yby, .inl (cI, 5, .inl gb)), (ylo, .inl (cI, 5, .inl f_21)), (yhi, .inl (cI, 5, .inl f_23))] := hD.sub [3, 4, 5, 0, 1, 2] (by decide) rfl
                    refine W.widen (k := 0) (n := 0) (Nat.le_refl _) (Nat.le_refl _) ?_
                    have hw : (Gno_29 48).toInt = (f_25 48).toInt := hw
                    have hw_32 := hw
                    obtain ⟨v_33, ev_33⟩ : ∃ z : Int32, z = z5 + 1 := ⟨_, rfl⟩
                    have tv_33 : v_33.toInt = z5.toInt + 1 := by rw [ev_33]; exact ti_add (x := z5) (y := 1) (show -2147483648 ≤ z5.toInt + 1 by omega) (show z5.toInt + 1 < 2147483648 by omega)
                    refine lv_iinc (v := v_33) (lv' := [(5, .int v_33), (4, .int v_27), (8, .int v_19), (7, .int v_17), (6, .int v_15), (0, .ref h0), (1, .int 1), (2, .int n), (3, .int 48)]) hx hb dX4_pass_182 hl (k := 8) rfl (by rw [ev_33]; rfl) (by decide) rfl (fun ls hl => ?_)
                    refine lv_goto (tgt := 44) hx hb dX4_pass_185 (by decide) ?_
                    exact ih_5 v_27 v_33 Gno_29 f_21 f_23 _ _ _ (show (5 - v_33.toInt).toNat < fu_4 by omega) (show 0 ≤ v_33.toInt ∧ v_33.toInt ≤ 5 by omega) (HW) (show (Gno_29 48).toInt = (Fno 48).toInt by omega) hP hD hS (lv_sub hl [5, 6, 7, 8, 1, 0] rfl)
                  · have tc_22 := b_nle rfl rfl c_22
                    refine lv_iload hx hb dX4_pass_138 (lv_at hl 0 rfl) ?_
                    refine lv_goto (tgt := 145) hx hb dX4_pass_140 (by decide) ?_
                    refine va_iast hx hb hK hP hD hS 5 0 rfl rfl (vp_in_iff.mpr ⟨by omega, by omega⟩) dX4_pass_145 (fun H locs hP hD hS => ?_)
                    obtain ⟨f_34, ef_34⟩ : ∃ g : Nat → Int32, upd gh (z5 : Int32).toNatClampNeg v_19 = g := ⟨_, rfl⟩
                    rw [ef_34] at hP hD
                    have hP : va_P D vwCl [(h0, .inr (4, [.int ype, .int ytk, .ref ywi, .ref yki, .ref yse, .ref yno, .ref yrh, .ref yrw, .ref yrk, .ref yrt, .int yrp, .int yrq, .ref ytx, .int yle, .int yat, .int yfa, .ref yby, .ref ylo, .ref yhi, .int yac, .int ynx, .ref yro, .ref ygl, .int ysn, .ref yso, .ref ysp, .ref ysw, .long ysd, .ref yik, .ref ykp])), (yno, .inl (cI, 96, .inl gn)), (yki, .inl (cI, 5, .inl Fki)), (yby, .inl (cI, 5, .inl gb)), (ylo, .inl (cI, 5, .inl f_21)), (yhi, .inl (cI, 5, .inl f_34))] H := hP
                    have hD : va_D A [(h0, .inr (4, [.int ype, .int ytk, .ref ywi, .ref yki, .ref yse, .ref yno, .ref yrh, .ref yrw, .ref yrk, .ref yrt, .int yrp, .int yrq, .ref ytx, .int yle, .int yat, .int yfa, .ref yby, .ref ylo, .ref yhi, .int yac, .int ynx, .ref yro, .ref ygl, .int ysn, .ref yso, .ref ysp, .ref ysw, .long ysd, .ref yik, .ref ykp])), (yno, .inl (cI, 96, .inl gn)), (yki, .inl (cI, 5, .inl Fki)), (yby, .inl (cI, 5, .inl gb)), (ylo, .inl (cI, 5, .inl f_21)), (yhi, .inl (cI, 5, .inl f_34))] := hD
                    refine lv_aload_n hx hb dX4_pass_146 rfl (lv_at hl 3 rfl) ?_
                    refine va_get (D := D) (ci := 4) (v := .ref yno) (C := RX4) (T := TX4) (N := 30) hx hb hts iX4 hown hK hP 0 rfl rfl 5 (by decide) (hts (.fieldLink RX4 19 "PunchedTicketModel" "now" "[I") (List.mem_of_getElem? (i := 3) rfl)) (fun _ h9 => h9) rfl dX4_pass_147 ?_
                    refine lv_iload_n hx hb dX4_pass_150 rfl (lv_at hl 6 rfl) ?_
                    refine lv_iconst (v := 1) hx hb dX4_pass_151 (by decide) ?_
                    refine lv_iadd hx hb dX4_pass_152 ?_
                    refine lv_topc (y := 49) (by decide) ?_
                    refine lv_iload hx hb dX4_pass_153 (lv_at hl 8 rfl) ?_
                    refine lv_iadd hx hb dX4_pass_155 ?_
                    refine lv_topi (fun v_35 ev_35 => ?_)
                    have tv_35 : v_35.toInt = (49 : Int) + z5.toInt := by rw [ev_35]; exact ti_add (x := 49) (y := z5) (show -2147483648 ≤ (49 : Int) + z5.toInt by omega) (show (49 : Int) + z5.toInt < 2147483648 by omega)
                    refine lv_iload hx hb dX4_pass_156 (lv_at hl 0 rfl) ?_
                    refine va_iast hx hb hK hP hD hS 1 0 rfl rfl (vp_in_iff.mpr ⟨by omega, by omega⟩) dX4_pass_158 (fun H locs hP hD hS => ?_)
                    obtain ⟨f_36, ef_36⟩ : ∃ g : Nat → Int32, upd gn (v_35 : Int32).toNatClampNeg v_19 = g := ⟨_, rfl⟩
                    rw [ef_36] at hP hD
                    have hP : va_P D vwCl [(h0, .inr (4, [.int ype, .int ytk, .ref ywi, .ref yki, .ref yse, .ref yno, .ref yrh, .ref yrw, .ref yrk, .ref yrt, .int yrp, .int yrq, .ref ytx, .int yle, .int yat, .int yfa, .ref yby, .ref ylo, .ref yhi, .int yac, .int ynx, .ref yro, .ref ygl, .int ysn, .ref yso, .ref ysp, .ref ysw, .long ysd, .ref yik, .ref ykp])), (yno, .inl (cI, 96, .inl f_36)), (yki, .inl (cI, 5, .inl Fki)), (yby, .inl (cI, 5, .inl gb)), (ylo, .inl (cI, 5, .inl f_21)), (yhi, .inl (cI, 5, .inl f_34))] H := hP
                    have hD : va_D A [(h0, .inr (4, [.int ype, .int ytk, .ref ywi, .ref yki, .ref yse, .ref yno, .ref yrh, .ref yrw, .ref yrk, .ref yrt, .int yrp, .int yrq, .ref ytx, .int yle, .int yat, .int yfa, .ref yby, .ref ylo, .ref yhi, .int yac, .int ynx, .ref yro, .ref ygl, .int ysn, .ref yso, .ref ysp, .ref ysw, .long ysd, .ref yik, .ref ykp])), (yno, .inl (cI, 96, .inl f_36)), (yki, .inl (cI, 5, .inl Fki)), (yby, .inl (cI, 5, .inl gb)), (ylo, .inl (cI, 5, .inl f_21)), (yhi, .inl (cI, 5, .inl f_34))] := hD
                    have k48f_36 : (f_36 48).toInt = (gn 48).toInt := by rw [← ef_36, upd_ne (by omega) (by omega)]
                    refine lv_iload hx hb dX4_pass_159 (lv_at hl 7 rfl) ?_
                    refine lv_iconst (v := 1) hx hb dX4_pass_161 (by decide) ?_
                    refine lv_iload hx hb dX4_pass_162 (lv_at hl 8 rfl) ?_
                    refine lv_ishl hx hb dX4_pass_164 ?_
                    refine lv_topi (fun v_37 ev_37 => ?_)
                    refine lv_ior hx hb dX4_pass_165 ?_
                    refine lv_topi (fun v_38 ev_38 => ?_)
                    have HW : WentOk v_38 gb := by rw [ev_38, ev_37]; exact wentOk_or hwn (by omega) (by omega) (by rw [← ev_10]; omega)
                    refine lv_istore (lv' := [(4, .int v_38), (8, .int v_19), (7, .int v_17), (6, .int v_15), (0, .ref h0), (1, .int 1), (2, .int n), (3, .int 48), (5, .int z5)]) hx hb dX4_pass_166 hl (by decide) rfl (fun ls hl => ?_)
                    refine lv_aload_n hx hb dX4_pass_168 rfl (lv_at hl 4 rfl) ?_
                    refine lv_iload_n hx hb dX4_pass_169 rfl (lv_at hl 5 rfl) ?_
                    refine lv_iload hx hb dX4_pass_170 (lv_at hl 8 rfl) ?_
                    refine lv_aload_n hx hb dX4_pass_172 rfl (lv_at hl 4 rfl) ?_
                    refine va_get (D := D) (ci := 4) (v := .ref yby) (C := RX4) (T := TX4) (N := 30) hx hb hts iX4 hown hK hP 0 rfl rfl 16 (by decide) (hts (.fieldLink RX4 37 "PunchedTicketModel" "by" "[I") (List.mem_of_getElem? (i := 2) rfl)) (fun _ h9 => h9) rfl dX4_pass_173 ?_
                    refine lv_iload hx hb dX4_pass_176 (lv_at hl 8 rfl) ?_
                    refine va_iald hx hb hK hP 3 0 rfl rfl (vp_in_iff.mpr ⟨by omega, by omega⟩) dX4_pass_178 ?_
                    refine lv_topi (fun v_39 ev_39 => ?_)
                    have tv_39 : v_39.toInt = v_10.toInt := by rw [ev_39, ev_10]
                    have h0v_39 : 0 ≤ v_39.toInt := by omega
                    have h6v_39 : v_39.toInt ≤ 6 := by omega
                    refine cV_v (As := [.int 1, .int z5, .int v_39]) (rest := []) ⟨hx, hb, hml, hown, hts⟩ (c_X4_use l D cI cZ cM h0 1 z5 v_39 ype ytk ywi yki yse yno yrh yrw yrk yrt yrp yrq ytx yle yat yfa yby ylo yhi yac ynx yro ygl ysn yso ysp ysw ysd yik ykp f_36 Fki _ (by decide) (show 0 ≤ z5.toInt ∧ z5.toInt ≤ 4 by omega) (show 0 ≤ v_39.toInt ∧ v_39.toInt ≤ 6 by omega)) (cwV 3 hts gX4_pass_X4_use rfl rfl rfl (by decide +kernel) ⟨by rw [hR]; decide, by rw [hR]; decide⟩) hK hP hD hS hA [0, 1, 2] [3, 4, 5] rfl rfl (by decide) (by decide) (by decide) rfl 0 rfl hl.1 rfl rfl (Nat.le_of_ble_eq_true rfl) dX4_pass_179 ⟨by rw [hR]; decide, by rw [hR]; decide⟩ (fun u_42 H locs hw hP hD hS => ?_)
                    obtain ⟨Gno_40, rfl⟩ : ∃ z, z = u_42 := ⟨_, rfl⟩
                    have hP : va_P D vwCl [(h0, .inr (4, [.int ype, .int ytk, .ref ywi, .ref yki, .ref yse, .ref yno, .ref yrh, .ref yrw, .ref yrk, .ref yrt, .int yrp, .int yrq, .ref ytx, .int yle, .int yat, .int yfa, .ref yby, .ref ylo, .ref yhi, .int yac, .int ynx, .ref yro, .ref ygl, .int ysn, .ref yso, .ref ysp, .ref ysw, .long ysd, .ref yik, .ref ykp])), (yno, .inl (cI, 96, .inl Gno_40)), (yki, .inl (cI, 5, .inl Fki)), (yby, .inl (cI, 5, .inl gb)), (ylo, .inl (cI, 5, .inl f_21)), (yhi, .inl (cI, 5, .inl f_34))] H := hP.sub [3, 4, 5, 0, 1, 2] rfl
                    have hD : va_D A [(h0, .inr (4, [.int ype, .int ytk, .ref ywi, .ref yki, .ref yse, .ref yno, .ref yrh, .ref yrw, .ref yrk, .ref yrt, .int yrp, .int yrq, .ref ytx, .int yle, .int yat, .int yfa, .ref yby, .ref ylo, .ref yhi, .int yac, .int ynx, .ref yro, .ref ygl, .int ysn, .ref yso, .ref ysp, .ref ysw, .long ysd, .ref yik, .ref ykp])), (yno, .inl (cI, 96, .inl Gno_40)), (yki, .inl (cI, 5, .inl Fki)), (yby, .inl (cI, 5, .inl gb)), (ylo, .inl (cI, 5, .inl f_21)), (yhi, .inl (cI, 5, .inl f_34))] := hD.sub [3, 4, 5, 0, 1, 2] (by decide) rfl
                    refine W.widen (k := 0) (n := 0) (Nat.le_refl _) (Nat.le_refl _) ?_
                    have hw : (Gno_40 48).toInt = (f_36 48).toInt := hw
                    have hw_43 := hw
                    obtain ⟨v_44, ev_44⟩ : ∃ z : Int32, z = z5 + 1 := ⟨_, rfl⟩
                    have tv_44 : v_44.toInt = z5.toInt + 1 := by rw [ev_44]; exact ti_add (x := z5) (y := 1) (show -2147483648 ≤ z5.toInt + 1 by omega) (show z5.toInt + 1 < 2147483648 by omega)
                    refine lv_iinc (v := v_44) (lv' := [(5, .int v_44), (4, .int v_38), (8, .int v_19), (7, .int v_17), (6, .int v_15), (0, .ref h0), (1, .int 1), (2, .int n), (3, .int 48)]) hx hb dX4_pass_182 hl (k := 8) rfl (by rw [ev_44]; rfl) (by decide) rfl (fun ls hl => ?_)
                    refine lv_goto (tgt := 44) hx hb dX4_pass_185 (by decide) ?_
                    exact ih_5 v_38 v_44 Gno_40 f_21 f_34 _ _ _ (show (5 - v_44.toInt).toNat < fu_4 by omega) (show 0 ≤ v_44.toInt ∧ v_44.toInt ≤ 5 by omega) (HW) (show (Gno_40 48).toInt = (Fno 48).toInt by omega) hP hD hS (lv_sub hl [5, 6, 7, 8, 1, 0] rfl)
                · have tc_20 := b_nle rfl rfl c_20
                  refine lv_iload hx hb dX4_pass_117 (lv_at hl 1 rfl) ?_
                  refine lv_goto (tgt := 124) hx hb dX4_pass_119 (by decide) ?_
                  refine va_iast hx hb hK hP hD hS 4 0 rfl rfl (vp_in_iff.mpr ⟨by omega, by omega⟩) dX4_pass_124 (fun H locs hP hD hS => ?_)
                  obtain ⟨f_45, ef_45⟩ : ∃ g : Nat → Int32, upd gl (z5 : Int32).toNatClampNeg v_17 = g := ⟨_, rfl⟩
                  rw [ef_45] at hP hD
                  have hP : va_P D vwCl [(h0, .inr (4, [.int ype, .int ytk, .ref ywi, .ref yki, .ref yse, .ref yno, .ref yrh, .ref yrw, .ref yrk, .ref yrt, .int yrp, .int yrq, .ref ytx, .int yle, .int yat, .int yfa, .ref yby, .ref ylo, .ref yhi, .int yac, .int ynx, .ref yro, .ref ygl, .int ysn, .ref yso, .ref ysp, .ref ysw, .long ysd, .ref yik, .ref ykp])), (yno, .inl (cI, 96, .inl gn)), (yki, .inl (cI, 5, .inl Fki)), (yby, .inl (cI, 5, .inl gb)), (ylo, .inl (cI, 5, .inl f_45)), (yhi, .inl (cI, 5, .inl gh))] H := hP
                  have hD : va_D A [(h0, .inr (4, [.int ype, .int ytk, .ref ywi, .ref yki, .ref yse, .ref yno, .ref yrh, .ref yrw, .ref yrk, .ref yrt, .int yrp, .int yrq, .ref ytx, .int yle, .int yat, .int yfa, .ref yby, .ref ylo, .ref yhi, .int yac, .int ynx, .ref yro, .ref ygl, .int ysn, .ref yso, .ref ysp, .ref ysw, .long ysd, .ref yik, .ref ykp])), (yno, .inl (cI, 96, .inl gn)), (yki, .inl (cI, 5, .inl Fki)), (yby, .inl (cI, 5, .inl gb)), (ylo, .inl (cI, 5, .inl f_45)), (yhi, .inl (cI, 5, .inl gh))] := hD
                  refine lv_aload_n hx hb dX4_pass_125 rfl (lv_at hl 3 rfl) ?_
                  refine va_get (D := D) (ci := 4) (v := .ref yhi) (C := RX4) (T := TX4) (N := 30) hx hb hts iX4 hown hK hP 0 rfl rfl 18 (by decide) (hts (.fieldLink RX4 43 "PunchedTicketModel" "high" "[I") (List.mem_of_getElem? (i := 5) rfl)) (fun _ h9 => h9) rfl dX4_pass_126 ?_
                  refine lv_iload hx hb dX4_pass_129 (lv_at hl 8 rfl) ?_
                  refine lv_iload hx hb dX4_pass_131 (lv_at hl 1 rfl) ?_
                  refine lv_iload hx hb dX4_pass_133 (lv_at hl 0 rfl) ?_
                  refine lv_icmp_ge (tgt := 143) hx hb dX4_pass_135 (by decide) (fun c_46 => ?_) (fun c_46 => ?_)
                  · have tc_46 := b_le rfl rfl c_46
                    refine lv_iload hx hb dX4_pass_143 (lv_at hl 1 rfl) ?_
                    refine va_iast hx hb hK hP hD hS 5 0 rfl rfl (vp_in_iff.mpr ⟨by omega, by omega⟩) dX4_pass_145 (fun H locs hP hD hS => ?_)
                    obtain ⟨f_47, ef_47⟩ : ∃ g : Nat → Int32, upd gh (z5 : Int32).toNatClampNeg v_17 = g := ⟨_, rfl⟩
                    rw [ef_47] at hP hD
                    have hP : va_P D vwCl [(h0, .inr (4, [.int ype, .int ytk, .ref ywi, .ref yki, .ref yse, .ref yno, .ref yrh, .ref yrw, .ref yrk, .ref yrt, .int yrp, .int yrq, .ref ytx, .int yle, .int yat, .int yfa, .ref yby, .ref ylo, .ref yhi, .int yac, .int ynx, .ref yro, .ref ygl, .int ysn, .ref yso, .ref ysp, .ref ysw, .long ysd, .ref yik, .ref ykp])), (yno, .inl (cI, 96, .inl gn)), (yki, .inl (cI, 5, .inl Fki)), (yby, .inl (cI, 5, .inl gb)), (ylo, .inl (cI, 5, .inl f_45)), (yhi, .inl (cI, 5, .inl f_47))] H := hP
                    have hD : va_D A [(h0, .inr (4, [.int ype, .int ytk, .ref ywi, .ref yki, .ref yse, .ref yno, .ref yrh, .ref yrw, .ref yrk, .ref yrt, .int yrp, .int yrq, .ref ytx, .int yle, .int yat, .int yfa, .ref yby, .ref ylo, .ref yhi, .int yac, .int ynx, .ref yro, .ref ygl, .int ysn, .ref yso, .ref ysp, .ref ysw, .long ysd, .ref yik, .ref ykp])), (yno, .inl (cI, 96, .inl gn)), (yki, .inl (cI, 5, .inl Fki)), (yby, .inl (cI, 5, .inl gb)), (ylo, .inl (cI, 5, .inl f_45)), (yhi, .inl (cI, 5, .inl f_47))] := hD
                    refine lv_aload_n hx hb dX4_pass_146 rfl (lv_at hl 3 rfl) ?_
                    refine va_get (D := D) (ci := 4) (v := .ref yno) (C := RX4) (T := TX4) (N := 30) hx hb hts iX4 hown hK hP 0 rfl rfl 5 (by decide) (hts (.fieldLink RX4 19 "PunchedTicketModel" "now" "[I") (List.mem_of_getElem? (i := 3) rfl)) (fun _ h9 => h9) rfl dX4_pass_147 ?_
                    refine lv_iload_n hx hb dX4_pass_150 rfl (lv_at hl 6 rfl) ?_
                    refine lv_iconst (v := 1) hx hb dX4_pass_151 (by decide) ?_
                    refine lv_iadd hx hb dX4_pass_152 ?_
                    refine lv_topc (y := 49) (by decide) ?_
                    refine lv_iload hx hb dX4_pass_153 (lv_at hl 8 rfl) ?_
                    refine lv_iadd hx hb dX4_pass_155 ?_
                    refine lv_topi (fun v_48 ev_48 => ?_)
                    have tv_48 : v_48.toInt = (49 : Int) + z5.toInt := by rw [ev_48]; exact ti_add (x := 49) (y := z5) (show -2147483648 ≤ (49 : Int) + z5.toInt by omega) (show (49 : Int) + z5.toInt < 2147483648 by omega)
                    refine lv_iload hx hb dX4_pass_156 (lv_at hl 0 rfl) ?_
                    refine va_iast hx hb hK hP hD hS 1 0 rfl rfl (vp_in_iff.mpr ⟨by omega, by omega⟩) dX4_pass_158 (fun H locs hP hD hS => ?_)
                    obtain ⟨f_49, ef_49⟩ : ∃ g : Nat → Int32, upd gn (v_48 : Int32).toNatClampNeg v_19 = g := ⟨_, rfl⟩
                    rw [ef_49] at hP hD
                    have hP : va_P D vwCl [(h0, .inr (4, [.int ype, .int ytk, .ref ywi, .ref yki, .ref yse, .ref yno, .ref yrh, .ref yrw, .ref yrk, .ref yrt, .int yrp, .int yrq, .ref ytx, .int yle, .int yat, .int yfa, .ref yby, .ref ylo, .ref yhi, .int yac, .int ynx, .ref yro, .ref ygl, .int ysn, .ref yso, .ref ysp, .ref ysw, .long ysd, .ref yik, .ref ykp])), (yno, .inl (cI, 96, .inl f_49)), (yki, .inl (cI, 5, .inl Fki)), (yby, .inl (cI, 5, .inl gb)), (ylo, .inl (cI, 5, .inl f_45)), (yhi, .inl (cI, 5, .inl f_47))] H := hP
                    have hD : va_D A [(h0, .inr (4, [.int ype, .int ytk, .ref ywi, .ref yki, .ref yse, .ref yno, .ref yrh, .ref yrw, .ref yrk, .ref yrt, .int yrp, .int yrq, .ref ytx, .int yle, .int yat, .int yfa, .ref yby, .ref ylo, .ref yhi, .int yac, .int ynx, .ref yro, .ref ygl, .int ysn, .ref yso, .ref ysp, .ref ysw, .long ysd, .ref yik, .ref ykp])), (yno, .inl (cI, 96, .inl f_49)), (yki, .inl (cI, 5, .inl Fki)), (yby, .inl (cI, 5, .inl gb)), (ylo, .inl (cI, 5, .inl f_45)), (yhi, .inl (cI, 5, .inl f_47))] := hD
                    have k48f_49 : (f_49 48).toInt = (gn 48).toInt := by rw [← ef_49, upd_ne (by omega) (by omega)]
                    refine lv_iload hx hb dX4_pass_159 (lv_at hl 7 rfl) ?_
                    refine lv_iconst (v := 1) hx hb dX4_pass_161 (by decide) ?_
                    refine lv_iload hx hb dX4_pass_162 (lv_at hl 8 rfl) ?_
                    refine lv_ishl hx hb dX4_pass_164 ?_
                    refine lv_topi (fun v_50 ev_50 => ?_)
                    refine lv_ior hx hb dX4_pass_165 ?_
                    refine lv_topi (fun v_51 ev_51 => ?_)
                    have HW : WentOk v_51 gb := by rw [ev_51, ev_50]; exact wentOk_or hwn (by omega) (by omega) (by rw [← ev_10]; omega)
                    refine lv_istore (lv' := [(4, .int v_51), (8, .int v_19), (7, .int v_17), (6, .int v_15), (0, .ref h0), (1, .int 1), (2, .int n), (3, .int 48), (5, .int z5)]) hx hb dX4_pass_166 hl (by decide) rfl (fun ls hl => ?_)
                    refine lv_aload_n hx hb dX4_pass_168 rfl (lv_at hl 4 rfl) ?_
                    refine lv_iload_n hx hb dX4_pass_169 rfl (lv_at hl 5 rfl) ?_
                    refine lv_iload hx hb dX4_pass_170 (lv_at hl 8 rfl) ?_
                    refine lv_aload_n hx hb dX4_pass_172 rfl (lv_at hl 4 rfl) ?_
                    refine va_get (D := D) (ci := 4) (v := .ref yby) (C := RX4) (T := TX4) (N := 30) hx hb hts iX4 hown hK hP 0 rfl rfl 16 (by decide) (hts (.fieldLink RX4 37 "PunchedTicketModel" "by" "[I") (List.mem_of_getElem? (i := 2) rfl)) (fun _ h9 => h9) rfl dX4_pass_173 ?_
                    refine lv_iload hx hb dX4_pass_176 (lv_at hl 8 rfl) ?_
                    refine va_iald hx hb hK hP 3 0 rfl rfl (vp_in_iff.mpr ⟨by omega, by omega⟩) dX4_pass_178 ?_
                    refine lv_topi (fun v_52 ev_52 => ?_)
                    have tv_52 : v_52.toInt = v_10.toInt := by rw [ev_52, ev_10]
                    have h0v_52 : 0 ≤ v_52.toInt := by omega
                    have h6v_52 : v_52.toInt ≤ 6 := by omega
                    refine cV_v (As := [.int 1, .int z5, .int v_52]) (rest := []) ⟨hx, hb, hml, hown, hts⟩ (c_X4_use l D cI cZ cM h0 1 z5 v_52 ype ytk ywi yki yse yno yrh yrw yrk yrt yrp yrq ytx yle yat yfa yby ylo yhi yac ynx yro ygl ysn yso ysp ysw ysd yik ykp f_49 Fki _ (by decide) (show 0 ≤ z5.toInt ∧ z5.toInt ≤ 4 by omega) (show 0 ≤ v_52.toInt ∧ v_52.toInt ≤ 6 by omega)) (cwV 3 hts gX4_pass_X4_use rfl rfl rfl (by decide +kernel) ⟨by rw [hR]; decide, by rw [hR]; decide⟩) hK hP hD hS hA [0, 1, 2] [3, 4, 5] rfl rfl (by decide) (by decide) (by decide) rfl 0 rfl hl.1 rfl rfl (Nat.le_of_ble_eq_true rfl) dX4_pass_179 ⟨by rw [hR]; decide, by rw [hR]; decide⟩ (fun u_55 H locs hw hP hD hS => ?_)
                    obtain ⟨Gno_53, rfl⟩ : ∃ z, z = u_55 := ⟨_, rfl⟩
                    have hP : va_P D vwCl [(h0, .inr (4, [.int ype, .int ytk, .ref ywi, .ref yki, .ref yse, .ref yno, .ref yrh, .ref yrw, .ref yrk, .ref yrt, .int yrp, .int yrq, .ref ytx, .int yle, .int yat, .int yfa, .ref yby, .ref ylo, .ref yhi, .int yac, .int ynx, .ref yro, .ref ygl, .int ysn, .ref yso, .ref ysp, .ref ysw, .long ysd, .ref yik, .ref ykp])), (yno, .inl (cI, 96, .inl Gno_53)), (yki, .inl (cI, 5, .inl Fki)), (yby, .inl (cI, 5, .inl gb)), (ylo, .inl (cI, 5, .inl f_45)), (yhi, .inl (cI, 5, .inl f_47))] H := hP.sub [3, 4, 5, 0, 1, 2] rfl
                    have hD : va_D A [(h0, .inr (4, [.int ype, .int ytk, .ref ywi, .ref yki, .ref yse, .ref yno, .ref yrh, .ref yrw, .ref yrk, .ref yrt, .int yrp, .int yrq, .ref ytx, .int yle, .int yat, .int yfa, .ref yby, .ref ylo, .ref yhi, .int yac, .int ynx, .ref yro, .ref ygl, .int ysn, .ref yso, .ref ysp, .ref ysw, .long ysd, .ref yik, .ref ykp])), (yno, .inl (cI, 96, .inl Gno_53)), (yki, .inl (cI, 5, .inl Fki)), (yby, .inl (cI, 5, .inl gb)), (ylo, .inl (cI, 5, .inl f_45)), (yhi, .inl (cI, 5, .inl f_47))] := hD.sub [3, 4, 5, 0, 1, 2] (by decide) rfl
                    refine W.widen (k := 0) (n := 0) (Nat.le_refl _) (Nat.le_refl _) ?_
                    have hw : (Gno_53 48).toInt = (f_49 48).toInt := hw
                    have hw_56 := hw
                    obtain ⟨v_57, ev_57⟩ : ∃ z : Int32, z = z5 + 1 := ⟨_, rfl⟩
                    have tv_57 : v_57.toInt = z5.toInt + 1 := by rw [ev_57]; exact ti_add (x := z5) (y := 1) (show -2147483648 ≤ z5.toInt + 1 by omega) (show z5.toInt + 1 < 2147483648 by omega)
                    refine lv_iinc (v := v_57) (lv' := [(5, .int v_57), (4, .int v_51), (8, .int v_19), (7, .int v_17), (6, .int v_15), (0, .ref h0), (1, .int 1), (2, .int n), (3, .int 48)]) hx hb dX4_pass_182 hl (k := 8) rfl (by rw [ev_57]; rfl) (by decide) rfl (fun ls hl => ?_)
                    refine lv_goto (tgt := 44) hx hb dX4_pass_185 (by decide) ?_
                    exact ih_5 v_51 v_57 Gno_53 f_45 f_47 _ _ _ (show (5 - v_57.toInt).toNat < fu_4 by omega) (show 0 ≤ v_57.toInt ∧ v_57.toInt ≤ 5 by omega) (HW) (show (Gno_53 48).toInt = (Fno 48).toInt by omega) hP hD hS (lv_sub hl [5, 6, 7, 8, 1, 0] rfl)
                  · have tc_46 := b_nle rfl rfl c_46
                    refine lv_iload hx hb dX4_pass_138 (lv_at hl 0 rfl) ?_
                    refine lv_goto (tgt := 145) hx hb dX4_pass_140 (by decide) ?_
                    refine va_iast hx hb hK hP hD hS 5 0 rfl rfl (vp_in_iff.mpr ⟨by omega, by omega⟩) dX4_pass_145 (fun H locs hP hD hS => ?_)
                    obtain ⟨f_58, ef_58⟩ : ∃ g : Nat → Int32, upd gh (z5 : Int32).toNatClampNeg v_19 = g := ⟨_, rfl⟩
                    rw [ef_58] at hP hD
                    have hP : va_P D vwCl [(h0, .inr (4, [.int ype, .int ytk, .ref ywi, .ref yki, .ref yse, .ref yno, .ref yrh, .ref yrw, .ref yrk, .ref yrt, .int yrp, .int yrq, .ref ytx, .int yle, .int yat, .int yfa, .ref yby, .ref ylo, .ref yhi, .int yac, .int ynx, .ref yro, .ref ygl, .int ysn, .ref yso, .ref ysp, .ref ysw, .long ysd, .ref yik, .ref ykp])), (yno, .inl (cI, 96, .inl gn)), (yki, .inl (cI, 5, .inl Fki)), (yby, .inl (cI, 5, .inl gb)), (ylo, .inl (cI, 5, .inl f_45)), (yhi, .inl (cI, 5, .inl f_58))] H := hP
                    have hD : va_D A [(h0, .inr (4, [.int ype, .int ytk, .ref ywi, .ref yki, .ref yse, .ref yno, .ref yrh, .ref yrw, .ref yrk, .ref yrt, .int yrp, .int yrq, .ref ytx, .int yle, .int yat, .int yfa, .ref yby, .ref ylo, .ref yhi, .int yac, .int ynx, .ref yro, .ref ygl, .int ysn, .ref yso, .ref ysp, .ref ysw, .long ysd, .ref yik, .ref ykp])), (yno, .inl (cI, 96, .inl gn)), (yki, .inl (cI, 5, .inl Fki)), (yby, .inl (cI, 5, .inl gb)), (ylo, .inl (cI, 5, .inl f_45)), (yhi, .inl (cI, 5, .inl f_58))] := hD
                    refine lv_aload_n hx hb dX4_pass_146 rfl (lv_at hl 3 rfl) ?_
                    refine va_get (D := D) (ci := 4) (v := .ref yno) (C := RX4) (T := TX4) (N := 30) hx hb hts iX4 hown hK hP 0 rfl rfl 5 (by decide) (hts (.fieldLink RX4 19 "PunchedTicketModel" "now" "[I") (List.mem_of_getElem? (i := 3) rfl)) (fun _ h9 => h9) rfl dX4_pass_147 ?_
                    refine lv_iload_n hx hb dX4_pass_150 rfl (lv_at hl 6 rfl) ?_
                    refine lv_iconst (v := 1) hx hb dX4_pass_151 (by decide) ?_
                    refine lv_iadd hx hb dX4_pass_152 ?_
                    refine lv_topc (y := 49) (by decide) ?_
                    refine lv_iload hx hb dX4_pass_153 (lv_at hl 8 rfl) ?_
                    refine lv_iadd hx hb dX4_pass_155 ?_
                    refine lv_topi (fun v_59 ev_59 => ?_)
                    have tv_59 : v_59.toInt = (49 : Int) + z5.toInt := by rw [ev_59]; exact ti_add (x := 49) (y := z5) (show -2147483648 ≤ (49 : Int) + z5.toInt by omega) (show (49 : Int) + z5.toInt < 2147483648 by omega)
                    refine lv_iload hx hb dX4_pass_156 (lv_at hl 0 rfl) ?_
                    refine va_iast hx hb hK hP hD hS 1 0 rfl rfl (vp_in_iff.mpr ⟨by omega, by omega⟩) dX4_pass_158 (fun H locs hP hD hS => ?_)
                    obtain ⟨f_60, ef_60⟩ : ∃ g : Nat → Int32, upd gn (v_59 : Int32).toNatClampNeg v_19 = g := ⟨_, rfl⟩
                    rw [ef_60] at hP hD
                    have hP : va_P D vwCl [(h0, .inr (4, [.int ype, .int ytk, .ref ywi, .ref yki, .ref yse, .ref yno, .ref yrh, .ref yrw, .ref yrk, .ref yrt, .int yrp, .int yrq, .ref ytx, .int yle, .int yat, .int yfa, .ref yby, .ref ylo, .ref yhi, .int yac, .int ynx, .ref yro, .ref ygl, .int ysn, .ref yso, .ref ysp, .ref ysw, .long ysd, .ref yik, .ref ykp])), (yno, .inl (cI, 96, .inl f_60)), (yki, .inl (cI, 5, .inl Fki)), (yby, .inl (cI, 5, .inl gb)), (ylo, .inl (cI, 5, .inl f_45)), (yhi, .inl (cI, 5, .inl f_58))] H := hP
                    have hD : va_D A [(h0, .inr (4, [.int ype, .int ytk, .ref ywi, .ref yki, .ref yse, .ref yno, .ref yrh, .ref yrw, .ref yrk, .ref yrt, .int yrp, .int yrq, .ref ytx, .int yle, .int yat, .int yfa, .ref yby, .ref ylo, .ref yhi, .int yac, .int ynx, .ref yro, .ref ygl, .int ysn, .ref yso, .ref ysp, .ref ysw, .long ysd, .ref yik, .ref ykp])), (yno, .inl (cI, 96, .inl f_60)), (yki, .inl (cI, 5, .inl Fki)), (yby, .inl (cI, 5, .inl gb)), (ylo, .inl (cI, 5, .inl f_45)), (yhi, .inl (cI, 5, .inl f_58))] := hD
                    have k48f_60 : (f_60 48).toInt = (gn 48).toInt := by rw [← ef_60, upd_ne (by omega) (by omega)]
                    refine lv_iload hx hb dX4_pass_159 (lv_at hl 7 rfl) ?_
                    refine lv_iconst (v := 1) hx hb dX4_pass_161 (by decide) ?_
                    refine lv_iload hx hb dX4_pass_162 (lv_at hl 8 rfl) ?_
                    refine lv_ishl hx hb dX4_pass_164 ?_
                    refine lv_topi (fun v_61 ev_61 => ?_)
                    refine lv_ior hx hb dX4_pass_165 ?_
                    refine lv_topi (fun v_62 ev_62 => ?_)
                    have HW : WentOk v_62 gb := by rw [ev_62, ev_61]; exact wentOk_or hwn (by omega) (by omega) (by rw [← ev_10]; omega)
                    refine lv_istore (lv' := [(4, .int v_62), (8, .int v_19), (7, .int v_17), (6, .int v_15), (0, .ref h0), (1, .int 1), (2, .int n), (3, .int 48), (5, .int z5)]) hx hb dX4_pass_166 hl (by decide) rfl (fun ls hl => ?_)
                    refine lv_aload_n hx hb dX4_pass_168 rfl (lv_at hl 4 rfl) ?_
                    refine lv_iload_n hx hb dX4_pass_169 rfl (lv_at hl 5 rfl) ?_
                    refine lv_iload hx hb dX4_pass_170 (lv_at hl 8 rfl) ?_
                    refine lv_aload_n hx hb dX4_pass_172 rfl (lv_at hl 4 rfl) ?_
                    refine va_get (D := D) (ci := 4) (v := .ref yby) (C := RX4) (T := TX4) (N := 30) hx hb hts iX4 hown hK hP 0 rfl rfl 16 (by decide) (hts (.fieldLink RX4 37 "PunchedTicketModel" "by" "[I") (List.mem_of_getElem? (i := 2) rfl)) (fun _ h9 => h9) rfl dX4_pass_173 ?_
                    refine lv_iload hx hb dX4_pass_176 (lv_at hl 8 rfl) ?_
                    refine va_iald hx hb hK hP 3 0 rfl rfl (vp_in_iff.mpr ⟨by omega, by omega⟩) dX4_pass_178 ?_
                    refine lv_topi (fun v_63 ev_63 => ?_)
                    have tv_63 : v_63.toInt = v_10.toInt := by rw [ev_63, ev_10]
                    have h0v_63 : 0 ≤ v_63.toInt := by omega
                    have h6v_63 : v_63.toInt ≤ 6 := by omega
                    refine cV_v (As := [.int 1, .int z5, .int v_63]) (rest := []) ⟨hx, hb, hml, hown, hts⟩ (c_X4_use l D cI cZ cM h0 1 z5 v_63 ype ytk ywi yki yse yno yrh yrw yrk yrt yrp yrq ytx yle yat yfa yby ylo yhi yac ynx yro ygl ysn yso ysp ysw ysd yik ykp f_60 Fki _ (by decide) (show 0 ≤ z5.toInt ∧ z5.toInt ≤ 4 by omega) (show 0 ≤ v_63.toInt ∧ v_63.toInt ≤ 6 by omega)) (cwV 3 hts gX4_pass_X4_use rfl rfl rfl (by decide +kernel) ⟨by rw [hR]; decide, by rw [hR]; decide⟩) hK hP hD hS hA [0, 1, 2] [3, 4, 5] rfl rfl (by decide) (by decide) (by decide) rfl 0 rfl hl.1 rfl rfl (Nat.le_of_ble_eq_true rfl) dX4_pass_179 ⟨by rw [hR]; decide, by rw [hR]; decide⟩ (fun u_66 H locs hw hP hD hS => ?_)
                    obtain ⟨Gno_64, rfl⟩ : ∃ z, z = u_66 := ⟨_, rfl⟩
                    have hP : va_P D vwCl [(h0, .inr (4, [.int ype, .int ytk, .ref ywi, .ref yki, .ref yse, .ref yno, .ref yrh, .ref yrw, .ref yrk, .ref yrt, .int yrp, .int yrq, .ref ytx, .int yle, .int yat, .int yfa, .ref yby, .ref ylo, .ref yhi, .int yac, .int ynx, .ref yro, .ref ygl, .int ysn, .ref yso, .ref ysp, .ref ysw, .long ysd, .ref yik, .ref ykp])), (yno, .inl (cI, 96, .inl Gno_64)), (yki, .inl (cI, 5, .inl Fki)), (yby, .inl (cI, 5, .inl gb)), (ylo, .inl (cI, 5, .inl f_45)), (yhi, .inl (cI, 5, .inl f_58))] H := hP.sub [3, 4, 5, 0, 1, 2] rfl
                    have hD : va_D A [(h0, .inr (4, [.int ype, .int ytk, .ref ywi, .ref yki, .ref yse, .ref yno, .ref yrh, .ref yrw, .ref yrk, .ref yrt, .int yrp, .int yrq, .ref ytx, .int yle, .int yat, .int yfa, .ref yby, .ref ylo, .ref yhi, .int yac, .int ynx, .ref yro, .ref ygl, .int ysn, .ref yso, .ref ysp, .ref ysw, .long ysd, .ref yik, .ref ykp])), (yno, .inl (cI, 96, .inl Gno_64)), (yki, .inl (cI, 5, .inl Fki)), (yby, .inl (cI, 5, .inl gb)), (ylo, .inl (cI, 5, .inl f_45)), (yhi, .inl (cI, 5, .inl f_58))] := hD.sub [3, 4, 5, 0, 1, 2] (by decide) rfl
                    refine W.widen (k := 0) (n := 0) (Nat.le_refl _) (Nat.le_refl _) ?_
                    have hw : (Gno_64 48).toInt = (f_60 48).toInt := hw
                    have hw_67 := hw
                    obtain ⟨v_68, ev_68⟩ : ∃ z : Int32, z = z5 + 1 := ⟨_, rfl⟩
                    have tv_68 : v_68.toInt = z5.toInt + 1 := by rw [ev_68]; exact ti_add (x := z5) (y := 1) (show -2147483648 ≤ z5.toInt + 1 by omega) (show z5.toInt + 1 < 2147483648 by omega)
                    refine lv_iinc (v := v_68) (lv' := [(5, .int v_68), (4, .int v_62), (8, .int v_19), (7, .int v_17), (6, .int v_15), (0, .ref h0), (1, .int 1), (2, .int n), (3, .int 48)]) hx hb dX4_pass_182 hl (k := 8) rfl (by rw [ev_68]; rfl) (by decide) rfl (fun ls hl => ?_)
                    refine lv_goto (tgt := 44) hx hb dX4_pass_185 (by decide) ?_
                    exact ih_5 v_62 v_68 Gno_64 f_45 f_58 _ _ _ (show (5 - v_68.toInt).toNat < fu_4 by omega) (show 0 ≤ v_68.toInt ∧ v_68.toInt ≤ 5 by omega) (HW) (show (Gno_64 48).toInt = (Fno 48).toInt by omega) hP hD hS (lv_sub hl [5, 6, 7, 8, 1, 0] rfl)
        exact LOOP_4 _ 0 0 Fno Flo Fhi _ _ _ (Nat.lt_succ_self _) (by decide) (wentOk_0 _) (rfl) hP hD hS (lv_sub hl [1, 2, 3, 4, 5, 0] rfl)
      · have tc_3 := b_nle rfl rfl c_3
        refine lv_aload_n hx hb dX4_pass_20 rfl (lv_at hl 0 rfl) ?_
        refine va_get (D := D) (ci := 4) (v := .ref yby) (C := RX4) (T := TX4) (N := 30) hx hb hts iX4 hown hK hP 0 rfl rfl 16 (by decide) (hts (.fieldLink RX4 37 "PunchedTicketModel" "by" "[I") (List.mem_of_getElem? (i := 2) rfl)) (fun _ h9 => h9) rfl dX4_pass_21 ?_
        refine lv_iload hx hb dX4_pass_24 (lv_at hl 5 rfl) ?_
        refine lv_aload_n hx hb dX4_pass_26 rfl (lv_at hl 0 rfl) ?_
        refine lv_iload_n hx hb dX4_pass_27 rfl (lv_at hl 1 rfl) ?_
        refine lv_iload hx hb dX4_pass_28 (lv_at hl 5 rfl) ?_
        refine lv_iload_n hx hb dX4_pass_30 rfl (lv_at hl 2 rfl) ?_
        refine cV_i (As := [.int 1, .int x5, .int n]) (rest := [.int x5, .ref yby]) ⟨hx, hb, hml, hown, hts⟩ (c_X4_goesBy l D cI cZ cM h0 1 x5 n ype ytk ywi yki yse yno yrh yrw yrk yrt yrp yrq ytx yle yat yfa yby ylo yhi yac ynx yro ygl ysn yso ysp ysw ysd yik ykp Fno Fki _ (by decide) (show 0 ≤ x5.toInt ∧ x5.toInt ≤ 4 by omega) (show 0 ≤ n.toInt ∧ n.toInt ≤ 7 by omega)) (cwV 3 hts gX4_pass_X4_goesBy rfl rfl rfl (by decide +kernel) ⟨by rw [hR]; decide, by rw [hR]; decide⟩) hK hP hD hS hA [0, 1, 2] [3, 4, 5] rfl rfl (by decide) (by decide) (by decide) rfl 0 rfl hl.1 rfl rfl (Nat.le_of_ble_eq_true rfl) dX4_pass_31 ⟨by rw [hR]; decide, by rw [hR]; decide⟩ (fun r_69 u_70 H locs hw hP hD hS => ?_)
        have hP : va_P D vwCl [(h0, .inr (4, [.int ype, .int ytk, .ref ywi, .ref yki, .ref yse, .ref yno, .ref yrh, .ref yrw, .ref yrk, .ref yrt, .int yrp, .int yrq, .ref ytx, .int yle, .int yat, .int yfa, .ref yby, .ref ylo, .ref yhi, .int yac, .int ynx, .ref yro, .ref ygl, .int ysn, .ref yso, .ref ysp, .ref ysw, .long ysd, .ref yik, .ref ykp])), (yno, .inl (cI, 96, .inl Fno)), (yki, .inl (cI, 5, .inl Fki)), (yby, .inl (cI, 5, .inl gb)), (ylo, .inl (cI, 5, .inl Flo)), (yhi, .inl (cI, 5, .inl Fhi))] H := hP.sub [3, 4, 5, 0, 1, 2] rfl
        have hD : va_D A [(h0, .inr (4, [.int ype, .int ytk, .ref ywi, .ref yki, .ref yse, .ref yno, .ref yrh, .ref yrw, .ref yrk, .ref yrt, .int yrp, .int yrq, .ref ytx, .int yle, .int yat, .int yfa, .ref yby, .ref ylo, .ref yhi, .int yac, .int ynx, .ref yro, .ref ygl, .int ysn, .ref yso, .ref ysp, .ref ysw, .long ysd, .ref yik, .ref ykp])), (yno, .inl (cI, 96, .inl Fno)), (yki, .inl (cI, 5, .inl Fki)), (yby, .inl (cI, 5, .inl gb)), (ylo, .inl (cI, 5, .inl Flo)), (yhi, .inl (cI, 5, .inl Fhi))] := hD.sub [3, 4, 5, 0, 1, 2] (by decide) rfl
        refine W.widen (k := 0) (n := 0) (Nat.le_refl _) (Nat.le_refl _) ?_
        have hw : r_69.toInt = -9 ∨ (0 ≤ r_69.toInt ∧ r_69.toInt ≤ 6) := hw
        have hw_71 := hw
        refine va_iast hx hb hK hP hD hS 3 0 rfl rfl (vp_in_iff.mpr ⟨by omega, by omega⟩) dX4_pass_34 (fun H locs hP hD hS => ?_)
        obtain ⟨f_72, ef_72⟩ : ∃ g : Nat → Int32, upd gb (x5 : Int32).toNatClampNeg r_69 = g := ⟨_, rfl⟩
        rw [ef_72] at hP hD
        have hP : va_P D vwCl [(h0, .inr (4, [.int ype, .int ytk, .ref ywi, .ref yki, .ref yse, .ref yno, .ref yrh, .ref yrw, .ref yrk, .ref yrt, .int yrp, .int yrq, .ref ytx, .int yle, .int yat, .int yfa, .ref yby, .ref ylo, .ref yhi, .int yac, .int ynx, .ref yro, .ref ygl, .int ysn, .ref yso, .ref ysp, .ref ysw, .long ysd, .ref yik, .ref ykp])), (yno, .inl (cI, 96, .inl Fno)), (yki, .inl (cI, 5, .inl Fki)), (yby, .inl (cI, 5, .inl f_72)), (ylo, .inl (cI, 5, .inl Flo)), (yhi, .inl (cI, 5, .inl Fhi))] H := hP
        have hD : va_D A [(h0, .inr (4, [.int ype, .int ytk, .ref ywi, .ref yki, .ref yse, .ref yno, .ref yrh, .ref yrw, .ref yrk, .ref yrt, .int yrp, .int yrq, .ref ytx, .int yle, .int yat, .int yfa, .ref yby, .ref ylo, .ref yhi, .int yac, .int ynx, .ref yro, .ref ygl, .int ysn, .ref yso, .ref ysp, .ref ysw, .long ysd, .ref yik, .ref ykp])), (yno, .inl (cI, 96, .inl Fno)), (yki, .inl (cI, 5, .inl Fki)), (yby, .inl (cI, 5, .inl f_72)), (ylo, .inl (cI, 5, .inl Flo)), (yhi, .inl (cI, 5, .inl Fhi))] := hD
        have HB : ByOk f_72 := by rw [← ef_72]; exact byOk_upd hby (by omega) (by omega)
        obtain ⟨v_73, ev_73⟩ : ∃ z : Int32, z = x5 + 1 := ⟨_, rfl⟩
        have tv_73 : v_73.toInt = x5.toInt + 1 := by rw [ev_73]; exact ti_add (x := x5) (y := 1) (show -2147483648 ≤ x5.toInt + 1 by omega) (show x5.toInt + 1 < 2147483648 by omega)
        refine lv_iinc (v := v_73) (lv' := [(5, .int v_73), (0, .ref h0), (1, .int 1), (2, .int n), (3, .int 48), (4, .int 0)]) hx hb dX4_pass_35 hl (k := 5) rfl (by rw [ev_73]; rfl) (by decide) rfl (fun ls hl => ?_)
        refine lv_goto (tgt := 11) hx hb dX4_pass_38 (by decide) ?_
        exact ih_2 v_73 f_72 _ _ _ (show (5 - v_73.toInt).toNat < fu_1 by omega) (show 0 ≤ v_73.toInt ∧ v_73.toInt ≤ 5 by omega) (HB) hP hD hS (lv_sub hl [1, 2, 3, 4, 5, 0] rfl)
  exact LOOP_1 _ 0 Fby _ _ _ (Nat.lt_succ_self _) (by decide) (hBy) hP hD hS (lv_sub hl [3, 4, 5, 2, 1, 0] rfl)

set_option maxHeartbeats 600000 in
set_option maxRecDepth 100000 in
theorem c_X4_areTogether (l : Launch) (D : va_G) (cI cZ cM : ClassId) (h0 : Nat) (n : Int32) (k : Int32) (j : Int32) (ype : Int32) (ytk : Int32) (ywi : Nat) (yki : Nat) (yse : Nat) (yno : Nat) (yrh : Nat) (yrw : Nat) (yrk : Nat) (yrt : Nat) (yrp : Int32) (yrq : Int32) (ytx : Nat) (yle : Int32) (yat : Int32) (yfa : Int32) (yby : Nat) (ylo : Nat) (yhi : Nat) (yac : Int32) (ynx : Int32) (yro : Nat) (ygl : Nat) (ysn : Int32) (yso : Nat) (ysp : Nat) (ysw : Nat) (ysd : Int64) (yik : Nat) (ykp : Nat) (Flo : Nat → Int32) (Fhi : Nat → Int32) (sz : Nat) (h_k : 0 ≤ k.toInt ∧ k.toInt ≤ 4) (h_j : 0 ≤ j.toInt ∧ j.toInt ≤ 4) : Ci l yX4_areTogether wsX4_areTogether ({ frames := 1, cells := 0, slots := 0, locals := 21 } : Room) D cI cZ cM [.ref h0, .int n, .int k, .int j] [(h0, .inr (4, [.int ype, .int ytk, .ref ywi, .ref yki, .ref yse, .ref yno, .ref yrh, .ref yrw, .ref yrk, .ref yrt, .int yrp, .int yrq, .ref ytx, .int yle, .int yat, .int yfa, .ref yby, .ref ylo, .ref yhi, .int yac, .int ynx, .ref yro, .ref ygl, .int ysn, .ref yso, .ref ysp, .ref ysw, .long ysd, .ref yik, .ref ykp])), (ylo, .inl (cI, 5, .inl Flo)), (yhi, .inl (cI, 5, .inl Fhi))] sz (fun (r : Int32) (u : Unit) => (r.toInt = 1 ∧ bitOf n k = 1 ∧ bitOf n j = 1) ∨ r.toInt = 0) (fun u => [(h0, .inr (4, [.int ype, .int ytk, .ref ywi, .ref yki, .ref yse, .ref yno, .ref yrh, .ref yrw, .ref yrk, .ref yrt, .int yrp, .int yrq, .ref ytx, .int yle, .int yat, .int yfa, .ref yby, .ref ylo, .ref yhi, .int yac, .int ynx, .ref yro, .ref ygl, .int ysn, .ref yso, .ref ysp, .ref ysw, .long ysd, .ref yik, .ref ykp])), (ylo, .inl (cI, 5, .inl Flo)), (yhi, .inl (cI, 5, .inl Fhi))]) 0 0 := by
  refine begins (l := l) (y := yX4_areTogether) (ws := wsX4_areTogether) (av := [.ref h0, .int n, .int k, .int j]) (Qc := fun A => va_Qi (fun (r : Int32) (u : Unit) => (r.toInt = 1 ∧ bitOf n k = 1 ∧ bitOf n j = 1) ∨ r.toInt = 0) (fun u => Wd D cI cZ cM A ((fun u => [(h0, .inr (4, [.int ype, .int ytk, .ref ywi, .ref yki, .ref yse, .ref yno, .ref yrh, .ref yrw, .ref yrk, .ref yrt, .int yrp, .int yrq, .ref ytx, .int yle, .int yat, .int yfa, .ref yby, .ref ylo, .ref yhi, .int yac, .int ynx, .ref yro, .ref ygl, .int ysn, .ref yso, .ref ysp, .ref ysw, .long ysd, .ref yik, .ref ykp])), (ylo, .inl (cI, 5, .inl Flo)), (yhi, .inl (cI, 5, .inl Fhi))]) u)) A) cX4_areTogether 4 (some .boolean) (by decide) rfl (Nat.le_of_ble_eq_true rfl) ?_
  intro p e s m args below meth c R Q A ls hBd hR hQ hA hS hK hP hD hl
  obtain ⟨hx, hb, hr, hts, hown, hlocks, hin, hml⟩ := hBd
  have hl : lv_has ls 4 [(0, .ref h0), (1, .int n), (2, .int k), (3, .int j)] := hl
  have iX4 : ∀ w ∈ wsX40, w ∈ wsX4_areTogether := fun _ h => List.mem_cons_of_mem _ (List.mem_append_right _ h)
  obtain ⟨h_ka, h_kb⟩ := h_k
  obtain ⟨h_ja, h_jb⟩ := h_j
  refine lv_iload_n hx hb dX4_areTogether_0 rfl (lv_at hl 1 rfl) ?_
  refine lv_iload_n hx hb dX4_areTogether_1 rfl (lv_at hl 2 rfl) ?_
  refine cS_i (As := [.int n, .int k]) (rest := []) ⟨hx, hb, hml, hown, hts⟩ (c_X4_has l D cI cZ cM n k _ ) (va_cwS 2 hts gX4_areTogether_X4_has rfl rfl rfl (by decide +kernel) ⟨by rw [hR]; decide, by rw [hR]; decide⟩) hK hP hD hS hA [] [0, 1, 2] rfl rfl (by decide) (by decide) (by decide) hl.1 rfl rfl (Nat.le_of_ble_eq_true rfl) dX4_areTogether_2 ⟨by rw [hR]; decide, by rw [hR]; decide⟩ (fun r_1 u_2 H locs hw hP hD hS => ?_)
  have hP : va_P D vwCl [(h0, .inr (4, [.int ype, .int ytk, .ref ywi, .ref yki, .ref yse, .ref yno, .ref yrh, .ref yrw, .ref yrk, .ref yrt, .int yrp, .int yrq, .ref ytx, .int yle, .int yat, .int yfa, .ref yby, .ref ylo, .ref yhi, .int yac, .int ynx, .ref yro, .ref ygl, .int ysn, .ref yso, .ref ysp, .ref ysw, .long ysd, .ref yik, .ref ykp])), (ylo, .inl (cI, 5, .inl Flo)), (yhi, .inl (cI, 5, .inl Fhi))] H := hP.sub [0, 1, 2] rfl
  have hD : va_D A [(h0, .inr (4, [.int ype, .int ytk, .ref ywi, .ref yki, .ref yse, .ref yno, .ref yrh, .ref yrw, .ref yrk, .ref yrt, .int yrp, .int yrq, .ref ytx, .int yle, .int yat, .int yfa, .ref yby, .ref ylo, .ref yhi, .int yac, .int ynx, .ref yro, .ref ygl, .int ysn, .ref yso, .ref ysp, .ref ysw, .long ysd, .ref yik, .ref ykp])), (ylo, .inl (cI, 5, .inl Flo)), (yhi, .inl (cI, 5, .inl Fhi))] := hD.sub [0, 1, 2] (by decide) rfl
  refine W.widen (k := 0) (n := 0) (Nat.le_refl _) (Nat.le_refl _) ?_
  have hw : (r_1.toInt = 1 ∧ bitOf n k = 1) ∨ r_1.toInt = 0 := hw
  have hw_3 := hw
  refine lv_if_eq (tgt := 83) hx hb dX4_areTogether_5 (by decide) (fun c_4 => ?_) (fun c_4 => ?_)
  · have tc_4 := b_eq rfl (show (0 : Int32).toInt = 0 by decide) c_4
    refine lv_iconst (v := 0) hx hb dX4_areTogether_83 (by decide) ?_
    exact ret_i (post := (fun (r : Int32) (u : Unit) => (r.toInt = 1 ∧ bitOf n k = 1 ∧ bitOf n j = 1) ∨ r.toInt = 0)) (W1 := (fun u => [(h0, .inr (4, [.int ype, .int ytk, .ref ywi, .ref yki, .ref yse, .ref yno, .ref yrh, .ref yrw, .ref yrk, .ref yrt, .int yrp, .int yrq, .ref ytx, .int yle, .int yat, .int yfa, .ref yby, .ref ylo, .ref yhi, .int yac, .int ynx, .ref yro, .ref ygl, .int ysn, .ref yso, .ref ysp, .ref ysw, .long ysd, .ref yik, .ref ykp])), (ylo, .inl (cI, 5, .inl Flo)), (yhi, .inl (cI, 5, .inl Fhi))])) () hx hb hr hlocks rfl hQ hK hP hD hS ⟨by decide, by decide⟩ dX4_areTogether_84 (Or.inr (by decide))
  · have tc_4 := b_ne rfl (show (0 : Int32).toInt = 0 by decide) c_4
    refine lv_iload_n hx hb dX4_areTogether_8 rfl (lv_at hl 1 rfl) ?_
    refine lv_iload_n hx hb dX4_areTogether_9 rfl (lv_at hl 3 rfl) ?_
    refine cS_i (As := [.int n, .int j]) (rest := []) ⟨hx, hb, hml, hown, hts⟩ (c_X4_has l D cI cZ cM n j _ ) (va_cwS 2 hts gX4_areTogether_X4_has rfl rfl rfl (by decide +kernel) ⟨by rw [hR]; decide, by rw [hR]; decide⟩) hK hP hD hS hA [] [0, 1, 2] rfl rfl (by decide) (by decide) (by decide) hl.1 rfl rfl (Nat.le_of_ble_eq_true rfl) dX4_areTogether_10 ⟨by rw [hR]; decide, by rw [hR]; decide⟩ (fun r_5 u_6 H locs hw hP hD hS => ?_)
    have hP : va_P D vwCl [(h0, .inr (4, [.int ype, .int ytk, .ref ywi, .ref yki, .ref yse, .ref yno, .ref yrh, .ref yrw, .ref yrk, .ref yrt, .int yrp, .int yrq, .ref ytx, .int yle, .int yat, .int yfa, .ref yby, .ref ylo, .ref yhi, .int yac, .int ynx, .ref yro, .ref ygl, .int ysn, .ref yso, .ref ysp, .ref ysw, .long ysd, .ref yik, .ref ykp])), (ylo, .inl (cI, 5, .inl Flo)), (yhi, .inl (cI, 5, .inl Fhi))] H := hP.sub [0, 1, 2] rfl
    have hD : va_D A [(h0, .inr (4, [.int ype, .int ytk, .ref ywi, .ref yki, .ref yse, .ref yno, .ref yrh, .ref yrw, .ref yrk, .ref yrt, .int yrp, .int yrq, .ref ytx, .int yle, .int yat, .int yfa, .ref yby, .ref ylo, .ref yhi, .int yac, .int ynx, .ref yro, .ref ygl, .int ysn, .ref yso, .ref ysp, .ref ysw, .long ysd, .ref yik, .ref ykp])), (ylo, .inl (cI, 5, .inl Flo)), (yhi, .inl (cI, 5, .inl Fhi))] := hD.sub [0, 1, 2] (by decide) rfl
    refine W.widen (k := 0) (n := 0) (Nat.le_refl _) (Nat.le_refl _) ?_
    have hw : (r_5.toInt = 1 ∧ bitOf n j = 1) ∨ r_5.toInt = 0 := hw
    have hw_7 := hw
    refine lv_if_eq (tgt := 83) hx hb dX4_areTogether_13 (by decide) (fun c_8 => ?_) (fun c_8 => ?_)
    · have tc_8 := b_eq rfl (show (0 : Int32).toInt = 0 by decide) c_8
      refine lv_iconst (v := 0) hx hb dX4_areTogether_83 (by decide) ?_
      exact ret_i (post := (fun (r : Int32) (u : Unit) => (r.toInt = 1 ∧ bitOf n k = 1 ∧ bitOf n j = 1) ∨ r.toInt = 0)) (W1 := (fun u => [(h0, .inr (4, [.int ype, .int ytk, .ref ywi, .ref yki, .ref yse, .ref yno, .ref yrh, .ref yrw, .ref yrk, .ref yrt, .int yrp, .int yrq, .ref ytx, .int yle, .int yat, .int yfa, .ref yby, .ref ylo, .ref yhi, .int yac, .int ynx, .ref yro, .ref ygl, .int ysn, .ref yso, .ref ysp, .ref ysw, .long ysd, .ref yik, .ref ykp])), (ylo, .inl (cI, 5, .inl Flo)), (yhi, .inl (cI, 5, .inl Fhi))])) () hx hb hr hlocks rfl hQ hK hP hD hS ⟨by decide, by decide⟩ dX4_areTogether_84 (Or.inr (by decide))
    · have tc_8 := b_ne rfl (show (0 : Int32).toInt = 0 by decide) c_8
      refine lv_aload_n hx hb dX4_areTogether_16 rfl (lv_at hl 0 rfl) ?_
      refine va_get (D := D) (ci := 4) (v := .ref ylo) (C := RX4) (T := TX4) (N := 30) hx hb hts iX4 hown hK hP 0 rfl rfl 17 (by decide) (hts (.fieldLink RX4 40 "PunchedTicketModel" "low" "[I") (List.mem_of_getElem? (i := 1) rfl)) (fun _ h9 => h9) rfl dX4_areTogether_17 ?_
      refine lv_iload_n hx hb dX4_areTogether_20 rfl (lv_at hl 2 rfl) ?_
      refine va_iald hx hb hK hP 1 0 rfl rfl (vp_in_iff.mpr ⟨by omega, by omega⟩) dX4_areTogether_21 ?_
      refine lv_topi (fun v_9 ev_9 => ?_)
      refine lv_aload_n hx hb dX4_areTogether_22 rfl (lv_at hl 0 rfl) ?_
      refine va_get (D := D) (ci := 4) (v := .ref ylo) (C := RX4) (T := TX4) (N := 30) hx hb hts iX4 hown hK hP 0 rfl rfl 17 (by decide) (hts (.fieldLink RX4 40 "PunchedTicketModel" "low" "[I") (List.mem_of_getElem? (i := 1) rfl)) (fun _ h9 => h9) rfl dX4_areTogether_23 ?_
      refine lv_iload_n hx hb dX4_areTogether_26 rfl (lv_at hl 3 rfl) ?_
      refine va_iald hx hb hK hP 1 0 rfl rfl (vp_in_iff.mpr ⟨by omega, by omega⟩) dX4_areTogether_27 ?_
      refine lv_topi (fun v_10 ev_10 => ?_)
      refine lv_icmp_le (tgt := 40) hx hb dX4_areTogether_28 (by decide) (fun c_11 => ?_) (fun c_11 => ?_)
      · have tc_11 := b_le rfl rfl c_11
        refine lv_aload_n hx hb dX4_areTogether_40 rfl (lv_at hl 0 rfl) ?_
        refine va_get (D := D) (ci := 4) (v := .ref ylo) (C := RX4) (T := TX4) (N := 30) hx hb hts iX4 hown hK hP 0 rfl rfl 17 (by decide) (hts (.fieldLink RX4 40 "PunchedTicketModel" "low" "[I") (List.mem_of_getElem? (i := 1) rfl)) (fun _ h9 => h9) rfl dX4_areTogether_41 ?_
        refine lv_iload_n hx hb dX4_areTogether_44 rfl (lv_at hl 3 rfl) ?_
        refine va_iald hx hb hK hP 1 0 rfl rfl (vp_in_iff.mpr ⟨by omega, by omega⟩) dX4_areTogether_45 ?_
        refine lv_topi (fun v_12 ev_12 => ?_)
        refine lv_aload_n hx hb dX4_areTogether_46 rfl (lv_at hl 0 rfl) ?_
        refine va_get (D := D) (ci := 4) (v := .ref yhi) (C := RX4) (T := TX4) (N := 30) hx hb hts iX4 hown hK hP 0 rfl rfl 18 (by decide) (hts (.fieldLink RX4 43 "PunchedTicketModel" "high" "[I") (List.mem_of_getElem? (i := 2) rfl)) (fun _ h9 => h9) rfl dX4_areTogether_47 ?_
        refine lv_iload_n hx hb dX4_areTogether_50 rfl (lv_at hl 2 rfl) ?_
        refine va_iald hx hb hK hP 2 0 rfl rfl (vp_in_iff.mpr ⟨by omega, by omega⟩) dX4_areTogether_51 ?_
        refine lv_topi (fun v_13 ev_13 => ?_)
        refine lv_aload_n hx hb dX4_areTogether_52 rfl (lv_at hl 0 rfl) ?_
        refine va_get (D := D) (ci := 4) (v := .ref yhi) (C := RX4) (T := TX4) (N := 30) hx hb hts iX4 hown hK hP 0 rfl rfl 18 (by decide) (hts (.fieldLink RX4 43 "PunchedTicketModel" "high" "[I") (List.mem_of_getElem? (i := 2) rfl)) (fun _ h9 => h9) rfl dX4_areTogether_53 ?_
        refine lv_iload_n hx hb dX4_areTogether_56 rfl (lv_at hl 3 rfl) ?_
        refine va_iald hx hb hK hP 2 0 rfl rfl (vp_in_iff.mpr ⟨by omega, by omega⟩) dX4_areTogether_57 ?_
        refine lv_topi (fun v_14 ev_14 => ?_)
        refine lv_icmp_ge (tgt := 70) hx hb dX4_areTogether_58 (by decide) (fun c_15 => ?_) (fun c_15 => ?_)
        · have tc_15 := b_le rfl rfl c_15
          refine lv_aload_n hx hb dX4_areTogether_70 rfl (lv_at hl 0 rfl) ?_
          refine va_get (D := D) (ci := 4) (v := .ref yhi) (C := RX4) (T := TX4) (N := 30) hx hb hts iX4 hown hK hP 0 rfl rfl 18 (by decide) (hts (.fieldLink RX4 43 "PunchedTicketModel" "high" "[I") (List.mem_of_getElem? (i := 2) rfl)) (fun _ h9 => h9) rfl dX4_areTogether_71 ?_
          refine lv_iload_n hx hb dX4_areTogether_74 rfl (lv_at hl 3 rfl) ?_
          refine va_iald hx hb hK hP 2 0 rfl rfl (vp_in_iff.mpr ⟨by omega, by omega⟩) dX4_areTogether_75 ?_
          refine lv_topi (fun v_16 ev_16 => ?_)
          refine lv_icmp_ge (tgt := 83) hx hb dX4_areTogether_76 (by decide) (fun c_17 => ?_) (fun c_17 => ?_)
          · have tc_17 := b_le rfl rfl c_17
            refine lv_iconst (v := 0) hx hb dX4_areTogether_83 (by decide) ?_
            exact ret_i (post := (fun (r : Int32) (u : Unit) => (r.toInt = 1 ∧ bitOf n k = 1 ∧ bitOf n j = 1) ∨ r.toInt = 0)) (W1 := (fun u => [(h0, .inr (4, [.int ype, .int ytk, .ref ywi, .ref yki, .ref yse, .ref yno, .ref yrh, .ref yrw, .ref yrk, .ref yrt, .int yrp, .int yrq, .ref ytx, .int yle, .int yat, .int yfa, .ref yby, .ref ylo, .ref yhi, .int yac, .int ynx, .ref yro, .ref ygl, .int ysn, .ref yso, .ref ysp, .ref ysw, .long ysd, .ref yik, .ref ykp])), (ylo, .inl (cI, 5, .inl Flo)), (yhi, .inl (cI, 5, .inl Fhi))])) () hx hb hr hlocks rfl hQ hK hP hD hS ⟨by decide, by decide⟩ dX4_areTogether_84 (Or.inr (by decide))
          · have tc_17 := b_nle rfl rfl c_17
            refine lv_iconst (v := 1) hx hb dX4_areTogether_79 (by decide) ?_
            refine lv_goto (tgt := 84) hx hb dX4_areTogether_80 (by decide) ?_
            exact ret_i (post := (fun (r : Int32) (u : Unit) => (r.toInt = 1 ∧ bitOf n k = 1 ∧ bitOf n j = 1) ∨ r.toInt = 0)) (W1 := (fun u => [(h0, .inr (4, [.int ype, .int ytk, .ref ywi, .ref yki, .ref yse, .ref yno, .ref yrh, .ref yrw, .ref yrk, .ref yrt, .int yrp, .int yrq, .ref ytx, .int yle, .int yat, .int yfa, .ref yby, .ref ylo, .ref yhi, .int yac, .int ynx, .ref yro, .ref ygl, .int ysn, .ref yso, .ref ysp, .ref ysw, .long ysd, .ref yik, .ref ykp])), (ylo, .inl (cI, 5, .inl Flo)), (yhi, .inl (cI, 5, .inl Fhi))])) () hx hb hr hlocks rfl hQ hK hP hD hS ⟨by decide, by decide⟩ dX4_areTogether_84 (Or.inl ⟨by decide, (hw_3.resolve_right (by omega)).2, (hw_7.resolve_right (by omega)).2⟩)
        · have tc_15 := b_nle rfl rfl c_15
          refine lv_aload_n hx hb dX4_areTogether_61 rfl (lv_at hl 0 rfl) ?_
          refine va_get (D := D) (ci := 4) (v := .ref yhi) (C := RX4) (T := TX4) (N := 30) hx hb hts iX4 hown hK hP 0 rfl rfl 18 (by decide) (hts (.fieldLink RX4 43 "PunchedTicketModel" "high" "[I") (List.mem_of_getElem? (i := 2) rfl)) (fun _ h9 => h9) rfl dX4_areTogether_62 ?_
          refine lv_iload_n hx hb dX4_areTogether_65 rfl (lv_at hl 2 rfl) ?_
          refine va_iald hx hb hK hP 2 0 rfl rfl (vp_in_iff.mpr ⟨by omega, by omega⟩) dX4_areTogether_66 ?_
          refine lv_topi (fun v_18 ev_18 => ?_)
          refine lv_goto (tgt := 76) hx hb dX4_areTogether_67 (by decide) ?_
          refine lv_icmp_ge (tgt := 83) hx hb dX4_areTogether_76 (by decide) (fun c_19 => ?_) (fun c_19 => ?_)
          · have tc_19 := b_le rfl rfl c_19
            refine lv_iconst (v := 0) hx hb dX4_areTogether_83 (by decide) ?_
            exact ret_i (post := (fun (r : Int32) (u : Unit) => (r.toInt = 1 ∧ bitOf n k = 1 ∧ bitOf n j = 1) ∨ r.toInt = 0)) (W1 := (fun u => [(h0, .inr (4, [.int ype, .int ytk, .ref ywi, .ref yki, .ref yse, .ref yno, .ref yrh, .ref yrw, .ref yrk, .ref yrt, .int yrp, .int yrq, .ref ytx, .int yle, .int yat, .int yfa, .ref yby, .ref ylo, .ref yhi, .int yac, .int ynx, .ref yro, .ref ygl, .int ysn, .ref yso, .ref ysp, .ref ysw, .long ysd, .ref yik, .ref ykp])), (ylo, .inl (cI, 5, .inl Flo)), (yhi, .inl (cI, 5, .inl Fhi))])) () hx hb hr hlocks rfl hQ hK hP hD hS ⟨by decide, by decide⟩ dX4_areTogether_84 (Or.inr (by decide))
          · have tc_19 := b_nle rfl rfl c_19
            refine lv_iconst (v := 1) hx hb dX4_areTogether_79 (by decide) ?_
            refine lv_goto (tgt := 84) hx hb dX4_areTogether_80 (by decide) ?_
            exact ret_i (post := (fun (r : Int32) (u : Unit) => (r.toInt = 1 ∧ bitOf n k = 1 ∧ bitOf n j = 1) ∨ r.toInt = 0)) (W1 := (fun u => [(h0, .inr (4, [.int ype, .int ytk, .ref ywi, .ref yki, .ref yse, .ref yno, .ref yrh, .ref yrw, .ref yrk, .ref yrt, .int yrp, .int yrq, .ref ytx, .int yle, .int yat, .int yfa, .ref yby, .ref ylo, .ref yhi, .int yac, .int ynx, .ref yro, .ref ygl, .int ysn, .ref yso, .ref ysp, .ref ysw, .long ysd, .ref yik, .ref ykp])), (ylo, .inl (cI, 5, .inl Flo)), (yhi, .inl (cI, 5, .inl Fhi))])) () hx hb hr hlocks rfl hQ hK hP hD hS ⟨by decide, by decide⟩ dX4_areTogether_84 (Or.inl ⟨by decide, (hw_3.resolve_right (by omega)).2, (hw_7.resolve_right (by omega)).2⟩)
      · have tc_11 := b_nle rfl rfl c_11
        refine lv_aload_n hx hb dX4_areTogether_31 rfl (lv_at hl 0 rfl) ?_
        refine va_get (D := D) (ci := 4) (v := .ref ylo) (C := RX4) (T := TX4) (N := 30) hx hb hts iX4 hown hK hP 0 rfl rfl 17 (by decide) (hts (.fieldLink RX4 40 "PunchedTicketModel" "low" "[I") (List.mem_of_getElem? (i := 1) rfl)) (fun _ h9 => h9) rfl dX4_areTogether_32 ?_
        refine lv_iload_n hx hb dX4_areTogether_35 rfl (lv_at hl 2 rfl) ?_
        refine va_iald hx hb hK hP 1 0 rfl rfl (vp_in_iff.mpr ⟨by omega, by omega⟩) dX4_areTogether_36 ?_
        refine lv_topi (fun v_20 ev_20 => ?_)
        refine lv_goto (tgt := 46) hx hb dX4_areTogether_37 (by decide) ?_
        refine lv_aload_n hx hb dX4_areTogether_46 rfl (lv_at hl 0 rfl) ?_
        refine va_get (D := D) (ci := 4) (v := .ref yhi) (C := RX4) (T := TX4) (N := 30) hx hb hts iX4 hown hK hP 0 rfl rfl 18 (by decide) (hts (.fieldLink RX4 43 "PunchedTicketModel" "high" "[I") (List.mem_of_getElem? (i := 2) rfl)) (fun _ h9 => h9) rfl dX4_areTogether_47 ?_
        refine lv_iload_n hx hb dX4_areTogether_50 rfl (lv_at hl 2 rfl) ?_
        refine va_iald hx hb hK hP 2 0 rfl rfl (vp_in_iff.mpr ⟨by omega, by omega⟩) dX4_areTogether_51 ?_
        refine lv_topi (fun v_21 ev_21 => ?_)
        refine lv_aload_n hx hb dX4_areTogether_52 rfl (lv_at hl 0 rfl) ?_
        refine va_get (D := D) (ci := 4) (v := .ref yhi) (C := RX4) (T := TX4) (N := 30) hx hb hts iX4 hown hK hP 0 rfl rfl 18 (by decide) (hts (.fieldLink RX4 43 "PunchedTicketModel" "high" "[I") (List.mem_of_getElem? (i := 2) rfl)) (fun _ h9 => h9) rfl dX4_areTogether_53 ?_
        refine lv_iload_n hx hb dX4_areTogether_56 rfl (lv_at hl 3 rfl) ?_
        refine va_iald hx hb hK hP 2 0 rfl rfl (vp_in_iff.mpr ⟨by omega, by omega⟩) dX4_areTogether_57 ?_
        refine lv_topi (fun v_22 ev_22 => ?_)
        refine lv_icmp_ge (tgt := 70) hx hb dX4_areTogether_58 (by decide) (fun c_23 => ?_) (fun c_23 => ?_)
        · have tc_23 := b_le rfl rfl c_23
          refine lv_aload_n hx hb dX4_areTogether_70 rfl (lv_at hl 0 rfl) ?_
          refine va_get (D := D) (ci := 4) (v := .ref yhi) (C := RX4) (T := TX4) (N := 30) hx hb hts iX4 hown hK hP 0 rfl rfl 18 (by decide) (hts (.fieldLink RX4 43 "PunchedTicketModel" "high" "[I") (List.mem_of_getElem? (i := 2) rfl)) (fun _ h9 => h9) rfl dX4_areTogether_71 ?_
          refine lv_iload_n hx hb dX4_areTogether_74 rfl (lv_at hl 3 rfl) ?_
          refine va_iald hx hb hK hP 2 0 rfl rfl (vp_in_iff.mpr ⟨by omega, by omega⟩) dX4_areTogether_75 ?_
          refine lv_topi (fun v_24 ev_24 => ?_)
          refine lv_icmp_ge (tgt := 83) hx hb dX4_areTogether_76 (by decide) (fun c_25 => ?_) (fun c_25 => ?_)
          · have tc_25 := b_le rfl rfl c_25
            refine lv_iconst (v := 0) hx hb dX4_areTogether_83 (by decide) ?_
            exact ret_i (post := (fun (r : Int32) (u : Unit) => (r.toInt = 1 ∧ bitOf n k = 1 ∧ bitOf n j = 1) ∨ r.toInt = 0)) (W1 := (fun u => [(h0, .inr (4, [.int ype, .int ytk, .ref ywi, .ref yki, .ref yse, .ref yno, .ref yrh, .ref yrw, .ref yrk, .ref yrt, .int yrp, .int yrq, .ref ytx, .int yle, .int yat, .int yfa, .ref yby, .ref ylo, .ref yhi, .int yac, .int ynx, .ref yro, .ref ygl, .int ysn, .ref yso, .ref ysp, .ref ysw, .long ysd, .ref yik, .ref ykp])), (ylo, .inl (cI, 5, .inl Flo)), (yhi, .inl (cI, 5, .inl Fhi))])) () hx hb hr hlocks rfl hQ hK hP hD hS ⟨by decide, by decide⟩ dX4_areTogether_84 (Or.inr (by decide))
          · have tc_25 := b_nle rfl rfl c_25
            refine lv_iconst (v := 1) hx hb dX4_areTogether_79 (by decide) ?_
            refine lv_goto (tgt := 84) hx hb dX4_areTogether_80 (by decide) ?_
            exact ret_i (post := (fun (r : Int32) (u : Unit) => (r.toInt = 1 ∧ bitOf n k = 1 ∧ bitOf n j = 1) ∨ r.toInt = 0)) (W1 := (fun u => [(h0, .inr (4, [.int ype, .int ytk, .ref ywi, .ref yki, .ref yse, .ref yno, .ref yrh, .ref yrw, .ref yrk, .ref yrt, .int yrp, .int yrq, .ref ytx, .int yle, .int yat, .int yfa, .ref yby, .ref ylo, .ref yhi, .int yac, .int ynx, .ref yro, .ref ygl, .int ysn, .ref yso, .ref ysp, .ref ysw, .long ysd, .ref yik, .ref ykp])), (ylo, .inl (cI, 5, .inl Flo)), (yhi, .inl (cI, 5, .inl Fhi))])) () hx hb hr hlocks rfl hQ hK hP hD hS ⟨by decide, by decide⟩ dX4_areTogether_84 (Or.inl ⟨by decide, (hw_3.resolve_right (by omega)).2, (hw_7.resolve_right (by omega)).2⟩)
        · have tc_23 := b_nle rfl rfl c_23
          refine lv_aload_n hx hb dX4_areTogether_61 rfl (lv_at hl 0 rfl) ?_
          refine va_get (D := D) (ci := 4) (v := .ref yhi) (C := RX4) (T := TX4) (N := 30) hx hb hts iX4 hown hK hP 0 rfl rfl 18 (by decide) (hts (.fieldLink RX4 43 "PunchedTicketModel" "high" "[I") (List.mem_of_getElem? (i := 2) rfl)) (fun _ h9 => h9) rfl dX4_areTogether_62 ?_
          refine lv_iload_n hx hb dX4_areTogether_65 rfl (lv_at hl 2 rfl) ?_
          refine va_iald hx hb hK hP 2 0 rfl rfl (vp_in_iff.mpr ⟨by omega, by omega⟩) dX4_areTogether_66 ?_
          refine lv_topi (fun v_26 ev_26 => ?_)
          refine lv_goto (tgt := 76) hx hb dX4_areTogether_67 (by decide) ?_
          refine lv_icmp_ge (tgt := 83) hx hb dX4_areTogether_76 (by decide) (fun c_27 => ?_) (fun c_27 => ?_)
          · have tc_27 := b_le rfl rfl c_27
            refine lv_iconst (v := 0) hx hb dX4_areTogether_83 (by decide) ?_
            exact ret_i (post := (fun (r : Int32) (u : Unit) => (r.toInt = 1 ∧ bitOf n k = 1 ∧ bitOf n j = 1) ∨ r.toInt = 0)) (W1 := (fun u => [(h0, .inr (4, [.int ype, .int ytk, .ref ywi, .ref yki, .ref yse, .ref yno, .ref yrh, .ref yrw, .ref yrk, .ref yrt, .int yrp, .int yrq, .ref ytx, .int yle, .int yat, .int yfa, .ref yby, .ref ylo, .ref yhi, .int yac, .int ynx, .ref yro, .ref ygl, .int ysn, .ref yso, .ref ysp, .ref ysw, .long ysd, .ref yik, .ref ykp])), (ylo, .inl (cI, 5, .inl Flo)), (yhi, .inl (cI, 5, .inl Fhi))])) () hx hb hr hlocks rfl hQ hK hP hD hS ⟨by decide, by decide⟩ dX4_areTogether_84 (Or.inr (by decide))
          · have tc_27 := b_nle rfl rfl c_27
            refine lv_iconst (v := 1) hx hb dX4_areTogether_79 (by decide) ?_
            refine lv_goto (tgt := 84) hx hb dX4_areTogether_80 (by decide) ?_
            exact ret_i (post := (fun (r : Int32) (u : Unit) => (r.toInt = 1 ∧ bitOf n k = 1 ∧ bitOf n j = 1) ∨ r.toInt = 0)) (W1 := (fun u => [(h0, .inr (4, [.int ype, .int ytk, .ref ywi, .ref yki, .ref yse, .ref yno, .ref yrh, .ref yrw, .ref yrk, .ref yrt, .int yrp, .int yrq, .ref ytx, .int yle, .int yat, .int yfa, .ref yby, .ref ylo, .ref yhi, .int yac, .int ynx, .ref yro, .ref ygl, .int ysn, .ref yso, .ref ysp, .ref ysw, .long ysd, .ref yik, .ref ykp])), (ylo, .inl (cI, 5, .inl Flo)), (yhi, .inl (cI, 5, .inl Fhi))])) () hx hb hr hlocks rfl hQ hK hP hD hS ⟨by decide, by decide⟩ dX4_areTogether_84 (Or.inl ⟨by decide, (hw_3.resolve_right (by omega)).2, (hw_7.resolve_right (by omega)).2⟩)

set_option maxHeartbeats 600000 in
set_option maxRecDepth 100000 in
theorem c_X4_isDouble (l : Launch) (D : va_G) (cI cZ cM : ClassId) (h0 : Nat) (n : Int32) (ype : Int32) (ytk : Int32) (ywi : Nat) (yki : Nat) (yse : Nat) (yno : Nat) (yrh : Nat) (yrw : Nat) (yrk : Nat) (yrt : Nat) (yrp : Int32) (yrq : Int32) (ytx : Nat) (yle : Int32) (yat : Int32) (yfa : Int32) (yby : Nat) (ylo : Nat) (yhi : Nat) (yac : Int32) (ynx : Int32) (yro : Nat) (ygl : Nat) (ysn : Int32) (yso : Nat) (ysp : Nat) (ysw : Nat) (ysd : Int64) (yik : Nat) (ykp : Nat) (Flo : Nat → Int32) (Fhi : Nat → Int32) (Fby : Nat → Int32) (Fse : Nat → Int32) (sz : Nat) (hWe : WentOk n Fby) (h_ype : 0 ≤ ype.toInt ∧ ype.toInt ≤ 5) : Ci l yX4_isDouble wsX4_isDouble ({ frames := 2, cells := 0, slots := 0, locals := 44 } : Room) D cI cZ cM [.ref h0, .int n] [(h0, .inr (4, [.int ype, .int ytk, .ref ywi, .ref yki, .ref yse, .ref yno, .ref yrh, .ref yrw, .ref yrk, .ref yrt, .int yrp, .int yrq, .ref ytx, .int yle, .int yat, .int yfa, .ref yby, .ref ylo, .ref yhi, .int yac, .int ynx, .ref yro, .ref ygl, .int ysn, .ref yso, .ref ysp, .ref ysw, .long ysd, .ref yik, .ref ykp])), (ylo, .inl (cI, 5, .inl Flo)), (yhi, .inl (cI, 5, .inl Fhi)), (yby, .inl (cI, 5, .inl Fby)), (yse, .inl (cI, 7, .inl Fse))] sz (fun (r : Int32) (u : Unit) => (r.toInt = 0 ∨ r.toInt = 1)) (fun u => [(h0, .inr (4, [.int ype, .int ytk, .ref ywi, .ref yki, .ref yse, .ref yno, .ref yrh, .ref yrw, .ref yrk, .ref yrt, .int yrp, .int yrq, .ref ytx, .int yle, .int yat, .int yfa, .ref yby, .ref ylo, .ref yhi, .int yac, .int ynx, .ref yro, .ref ygl, .int ysn, .ref yso, .ref ysp, .ref ysw, .long ysd, .ref yik, .ref ykp])), (ylo, .inl (cI, 5, .inl Flo)), (yhi, .inl (cI, 5, .inl Fhi)), (yby, .inl (cI, 5, .inl Fby)), (yse, .inl (cI, 7, .inl Fse))]) 0 0 := by
  refine begins (l := l) (y := yX4_isDouble) (ws := wsX4_isDouble) (av := [.ref h0, .int n]) (Qc := fun A => va_Qi (fun (r : Int32) (u : Unit) => (r.toInt = 0 ∨ r.toInt = 1)) (fun u => Wd D cI cZ cM A ((fun u => [(h0, .inr (4, [.int ype, .int ytk, .ref ywi, .ref yki, .ref yse, .ref yno, .ref yrh, .ref yrw, .ref yrk, .ref yrt, .int yrp, .int yrq, .ref ytx, .int yle, .int yat, .int yfa, .ref yby, .ref ylo, .ref yhi, .int yac, .int ynx, .ref yro, .ref ygl, .int ysn, .ref yso, .ref ysp, .ref ysw, .long ysd, .ref yik, .ref ykp])), (ylo, .inl (cI, 5, .inl Flo)), (yhi, .inl (cI, 5, .inl Fhi)), (yby, .inl (cI, 5, .inl Fby)), (yse, .inl (cI, 7, .inl Fse))]) u)) A) cX4_isDouble 5 (some .boolean) (by decide) rfl (Nat.le_of_ble_eq_true rfl) ?_
  intro p e s m args below meth c R Q A ls hBd hR hQ hA hS hK hP hD hl
  obtain ⟨hx, hb, hr, hts, hown, hlocks, hin, hml⟩ := hBd
  have hl : lv_has ls 5 [(0, .ref h0), (1, .int n)] := hl
  have iX4 : ∀ w ∈ wsX40, w ∈ wsX4_isDouble := fun _ h => List.mem_cons_of_mem _ (List.mem_append_right _ h)
  obtain ⟨h_ypea, h_ypeb⟩ := h_ype
  refine lv_iconst (v := 0) hx hb dX4_isDouble_0 (by decide) ?_
  refine lv_istore_n (lv' := [(2, .int 0), (0, .ref h0), (1, .int n)]) hx hb dX4_isDouble_1 rfl hl (by decide) rfl (fun ls hl => ?_)
  refine lv_iconst (v := 0) hx hb dX4_isDouble_2 (by decide) ?_
  refine lv_istore_n (lv' := [(3, .int 0), (2, .int 0), (0, .ref h0), (1, .int n)]) hx hb dX4_isDouble_3 rfl hl (by decide) rfl (fun ls hl => ?_)
  have LOOP_1 : ∀ (fu_1 : Nat) (w2 : Int32) (x3 : Int32) (H : Heap) (locs : List Loc) (ls : Array Slot), (5 - x3.toInt).toNat < fu_1 → (0 ≤ w2.toInt ∧ w2.toInt ≤ 1) → (0 ≤ x3.toInt ∧ x3.toInt ≤ 5) → va_P D vwCl [(h0, .inr (4, [.int ype, .int ytk, .ref ywi, .ref yki, .ref yse, .ref yno, .ref yrh, .ref yrw, .ref yrk, .ref yrt, .int yrp, .int yrq, .ref ytx, .int yle, .int yat, .int yfa, .ref yby, .ref ylo, .ref yhi, .int yac, .int ynx, .ref yro, .ref ygl, .int ysn, .ref yso, .ref ysp, .ref ysw, .long ysd, .ref yik, .ref ykp])), (ylo, .inl (cI, 5, .inl Flo)), (yhi, .inl (cI, 5, .inl Fhi)), (yby, .inl (cI, 5, .inl Fby)), (yse, .inl (cI, 7, .inl Fse))] H → va_D A [(h0, .inr (4, [.int ype, .int ytk, .ref ywi, .ref yki, .ref yse, .ref yno, .ref yrh, .ref yrw, .ref yrk, .ref yrt, .int yrp, .int yrq, .ref ytx, .int yle, .int yat, .int yfa, .ref yby, .ref ylo, .ref yhi, .int yac, .int ynx, .ref yro, .ref ygl, .int ysn, .ref yso, .ref ysp, .ref ysw, .long ysd, .ref yik, .ref ykp])), (ylo, .inl (cI, 5, .inl Flo)), (yhi, .inl (cI, 5, .inl Fhi)), (yby, .inl (cI, 5, .inl Fby)), (yse, .inl (cI, 7, .inl Fse))] → va_S A s.heap H locs → lv_has ls 5 [(0, .ref h0), (1, .int n), (2, .int w2), (3, .int x3)] → W p l e R s m args below meth c H locs 0 0 Q (F0 m 4 ls []) := by
    intro fu_1
    induction fu_1 with
    | zero => intro w2 x3 H locs ls hmu; exact absurd hmu (Nat.not_lt_zero _)
    | succ fu_1 ih =>
      intro w2 x3 H locs ls hmu h_w2 h_x3 hP hD hS hl
      obtain ⟨h_w2a, h_w2b⟩ := h_w2
      obtain ⟨h_x3a, h_x3b⟩ := h_x3
      have ih_2 := ih
      clear ih
      refine lv_iload_n hx hb dX4_isDouble_4 rfl (lv_at hl 3 rfl) ?_
      refine lv_aload_n hx hb dX4_isDouble_5 rfl (lv_at hl 0 rfl) ?_
      refine va_get (D := D) (ci := 4) (v := .int ype) (C := RX4) (T := TX4) (N := 30) hx hb hts iX4 hown hK hP 0 rfl rfl 0 (by decide) (hts (.fieldLink RX4 68 "PunchedTicketModel" "people" "I") (List.mem_of_getElem? (i := 1) rfl)) (fun _ h9 => h9) rfl dX4_isDouble_6 ?_
      refine lv_icmp_ge (tgt := 80) hx hb dX4_isDouble_9 (by decide) (fun c_3 => ?_) (fun c_3 => ?_)
      · have tc_3 := b_le rfl rfl c_3
        refine lv_iload_n hx hb dX4_isDouble_80 rfl (lv_at hl 2 rfl) ?_
        exact ret_i (post := (fun (r : Int32) (u : Unit) => (r.toInt = 0 ∨ r.toInt = 1))) (W1 := (fun u => [(h0, .inr (4, [.int ype, .int ytk, .ref ywi, .ref yki, .ref yse, .ref yno, .ref yrh, .ref yrw, .ref yrk, .ref yrt, .int yrp, .int yrq, .ref ytx, .int yle, .int yat, .int yfa, .ref yby, .ref ylo, .ref yhi, .int yac, .int ynx, .ref yro, .ref ygl, .int ysn, .ref yso, .ref ysp, .ref ysw, .long ysd, .ref yik, .ref ykp])), (ylo, .inl (cI, 5, .inl Flo)), (yhi, .inl (cI, 5, .inl Fhi)), (yby, .inl (cI, 5, .inl Fby)), (yse, .inl (cI, 7, .inl Fse))])) () hx hb hr hlocks (nar_z (show w2.toInt = 0 ∨ w2.toInt = 1 by omega)) hQ hK hP hD hS ⟨by decide, by decide⟩ dX4_isDouble_81 (show (w2.toInt = 0 ∨ w2.toInt = 1) by omega)
      · have tc_3 := b_nle rfl rfl c_3
        refine lv_iconst (v := 0) hx hb dX4_isDouble_12 (by decide) ?_
        refine lv_istore (lv' := [(4, .int 0), (0, .ref h0), (1, .int n), (2, .int w2), (3, .int x3)]) hx hb dX4_isDouble_13 hl (by decide) rfl (fun ls hl => ?_)
        have LOOP_4 : ∀ (fu_4 : Nat) (u2 : Int32) (x4 : Int32) (H : Heap) (locs : List Loc) (ls : Array Slot), (5 - x4.toInt).toNat < fu_4 → (0 ≤ u2.toInt ∧ u2.toInt ≤ 1) → (0 ≤ x4.toInt ∧ x4.toInt ≤ 5) → (x4.toInt ≤ x3.toInt) → va_P D vwCl [(h0, .inr (4, [.int ype, .int ytk, .ref ywi, .ref yki, .ref yse, .ref yno, .ref yrh, .ref yrw, .ref yrk, .ref yrt, .int yrp, .int yrq, .ref ytx, .int yle, .int yat, .int yfa, .ref yby, .ref ylo, .ref yhi, .int yac, .int ynx, .ref yro, .ref ygl, .int ysn, .ref yso, .ref ysp, .ref ysw, .long ysd, .ref yik, .ref ykp])), (ylo, .inl (cI, 5, .inl Flo)), (yhi, .inl (cI, 5, .inl Fhi)), (yby, .inl (cI, 5, .inl Fby)), (yse, .inl (cI, 7, .inl Fse))] H → va_D A [(h0, .inr (4, [.int ype, .int ytk, .ref ywi, .ref yki, .ref yse, .ref yno, .ref yrh, .ref yrw, .ref yrk, .ref yrt, .int yrp, .int yrq, .ref ytx, .int yle, .int yat, .int yfa, .ref yby, .ref ylo, .ref yhi, .int yac, .int ynx, .ref yro, .ref ygl, .int ysn, .ref yso, .ref ysp, .ref ysw, .long ysd, .ref yik, .ref ykp])), (ylo, .inl (cI, 5, .inl Flo)), (yhi, .inl (cI, 5, .inl Fhi)), (yby, .inl (cI, 5, .inl Fby)), (yse, .inl (cI, 7, .inl Fse))] → va_S A s.heap H locs → lv_has ls 5 [(0, .ref h0), (1, .int n), (2, .int u2), (3, .int x3), (4, .int x4)] → W p l e R s m args below meth c H locs 0 0 Q (F0 m 15 ls []) := by
          intro fu_4
          induction fu_4 with
          | zero => intro u2 x4 H locs ls hmu; exact absurd hmu (Nat.not_lt_zero _)
          | succ fu_4 ih =>
            intro u2 x4 H locs ls hmu h_u2 h_x4 hxx hP hD hS hl
            obtain ⟨h_u2a, h_u2b⟩ := h_u2
            obtain ⟨h_x4a, h_x4b⟩ := h_x4
            have ih_5 := ih
            clear ih
            refine lv_iload hx hb dX4_isDouble_15 (lv_at hl 4 rfl) ?_
            refine lv_iload_n hx hb dX4_isDouble_17 rfl (lv_at hl 3 rfl) ?_
            refine lv_icmp_ge (tgt := 74) hx hb dX4_isDouble_18 (by decide) (fun c_6 => ?_) (fun c_6 => ?_)
            · have tc_6 := b_le rfl rfl c_6
              obtain ⟨v_7, ev_7⟩ : ∃ z : Int32, z = x3 + 1 := ⟨_, rfl⟩
              have tv_7 : v_7.toInt = x3.toInt + 1 := by rw [ev_7]; exact ti_add (x := x3) (y := 1) (show -2147483648 ≤ x3.toInt + 1 by omega) (show x3.toInt + 1 < 2147483648 by omega)
              refine lv_iinc (v := v_7) (lv' := [(3, .int v_7), (0, .ref h0), (1, .int n), (2, .int u2), (4, .int x4)]) hx hb dX4_isDouble_74 hl (k := 3) rfl (by rw [ev_7]; rfl) (by decide) rfl (fun ls hl => ?_)
              refine lv_goto (tgt := 4) hx hb dX4_isDouble_77 (by decide) ?_
              exact ih_2 u2 v_7 _ _ _ (show (5 - v_7.toInt).toNat < fu_1 by omega) (show 0 ≤ u2.toInt ∧ u2.toInt ≤ 1 by omega) (show 0 ≤ v_7.toInt ∧ v_7.toInt ≤ 5 by omega) hP hD hS (lv_sub hl [1, 2, 3, 0] rfl)
            · have tc_6 := b_nle rfl rfl c_6
              refine lv_iload_n hx hb dX4_isDouble_21 rfl (lv_at hl 2 rfl) ?_
              refine lv_if_ne (tgt := 62) hx hb dX4_isDouble_22 (by decide) (fun c_8 => ?_) (fun c_8 => ?_)
              · have tc_8 := b_ne rfl (show (0 : Int32).toInt = 0 by decide) c_8
                refine lv_iconst (v := 1) hx hb dX4_isDouble_62 (by decide) ?_
                refine lv_goto (tgt := 67) hx hb dX4_isDouble_63 (by decide) ?_
                refine lv_istore_n (lv' := [(2, .int 1), (0, .ref h0), (1, .int n), (3, .int x3), (4, .int x4)]) hx hb dX4_isDouble_67 rfl hl (by decide) rfl (fun ls hl => ?_)
                obtain ⟨v_9, ev_9⟩ : ∃ z : Int32, z = x4 + 1 := ⟨_, rfl⟩
                have tv_9 : v_9.toInt = x4.toInt + 1 := by rw [ev_9]; exact ti_add (x := x4) (y := 1) (show -2147483648 ≤ x4.toInt + 1 by omega) (show x4.toInt + 1 < 2147483648 by omega)
                refine lv_iinc (v := v_9) (lv' := [(4, .int v_9), (2, .int 1), (0, .ref h0), (1, .int n), (3, .int x3)]) hx hb dX4_isDouble_68 hl (k := 4) rfl (by rw [ev_9]; rfl) (by decide) rfl (fun ls hl => ?_)
                refine lv_goto (tgt := 15) hx hb dX4_isDouble_71 (by decide) ?_
                exact ih_5 1 v_9 _ _ _ (show (5 - v_9.toInt).toNat < fu_4 by omega) (by decide) (show 0 ≤ v_9.toInt ∧ v_9.toInt ≤ 5 by omega) (show v_9.toInt ≤ x3.toInt by omega) hP hD hS (lv_sub hl [2, 3, 1, 4, 0] rfl)
              · have tc_8 := b_eq rfl (show (0 : Int32).toInt = 0 by decide) c_8
                refine lv_aload_n hx hb dX4_isDouble_25 rfl (lv_at hl 0 rfl) ?_
                refine lv_iload_n hx hb dX4_isDouble_26 rfl (lv_at hl 1 rfl) ?_
                refine lv_iload_n hx hb dX4_isDouble_27 rfl (lv_at hl 3 rfl) ?_
                refine lv_iload hx hb dX4_isDouble_28 (lv_at hl 4 rfl) ?_
                refine cV_i (As := [.int n, .int x3, .int x4]) (rest := []) ⟨hx, hb, hml, hown, hts⟩ (c_X4_areTogether l D cI cZ cM h0 n x3 x4 ype ytk ywi yki yse yno yrh yrw yrk yrt yrp yrq ytx yle yat yfa yby ylo yhi yac ynx yro ygl ysn yso ysp ysw ysd yik ykp Flo Fhi _ (show 0 ≤ x3.toInt ∧ x3.toInt ≤ 4 by omega) (show 0 ≤ x4.toInt ∧ x4.toInt ≤ 4 by omega)) (cwV 3 hts gX4_isDouble_X4_areTogether rfl rfl rfl (by decide +kernel) ⟨by rw [hR]; decide, by rw [hR]; decide⟩) hK hP hD hS hA [0, 1, 2] [3, 4] rfl rfl (by decide) (by decide) (by decide) rfl 0 rfl hl.1 rfl rfl (Nat.le_of_ble_eq_true rfl) dX4_isDouble_30 ⟨by rw [hR]; decide, by rw [hR]; decide⟩ (fun r_10 u_11 H locs hw hP hD hS => ?_)
                have hP : va_P D vwCl [(h0, .inr (4, [.int ype, .int ytk, .ref ywi, .ref yki, .ref yse, .ref yno, .ref yrh, .ref yrw, .ref yrk, .ref yrt, .int yrp, .int yrq, .ref ytx, .int yle, .int yat, .int yfa, .ref yby, .ref ylo, .ref yhi, .int yac, .int ynx, .ref yro, .ref ygl, .int ysn, .ref yso, .ref ysp, .ref ysw, .long ysd, .ref yik, .ref ykp])), (ylo, .inl (cI, 5, .inl Flo)), (yhi, .inl (cI, 5, .inl Fhi)), (yby, .inl (cI, 5, .inl Fby)), (yse, .inl (cI, 7, .inl Fse))] H := hP.sub [2, 3, 4, 0, 1] rfl
                have hD : va_D A [(h0, .inr (4, [.int ype, .int ytk, .ref ywi, .ref yki, .ref yse, .ref yno, .ref yrh, .ref yrw, .ref yrk, .ref yrt, .int yrp, .int yrq, .ref ytx, .int yle, .int yat, .int yfa, .ref yby, .ref ylo, .ref yhi, .int yac, .int ynx, .ref yro, .ref ygl, .int ysn, .ref yso, .ref ysp, .ref ysw, .long ysd, .ref yik, .ref ykp])), (ylo, .inl (cI, 5, .inl Flo)), (yhi, .inl (cI, 5, .inl Fhi)), (yby, .inl (cI, 5, .inl Fby)), (yse, .inl (cI, 7, .inl Fse))] := hD.sub [2, 3, 4, 0, 1] (by decide) rfl
                refine W.widen (k := 0) (n := 0) (Nat.le_refl _) (Nat.le_refl _) ?_
                have hw : (r_10.toInt = 1 ∧ bitOf n x3 = 1 ∧ bitOf n x4 = 1) ∨ r_10.toInt = 0 := hw
                have hw_12 := hw
                refine lv_if_eq (tgt := 66) hx hb dX4_isDouble_33 (by decide) (fun c_13 => ?_) (fun c_13 => ?_)
                · have tc_13 := b_eq rfl (show (0 : Int32).toInt = 0 by decide) c_13
                  refine lv_iconst (v := 0) hx hb dX4_isDouble_66 (by decide) ?_
                  refine lv_istore_n (lv' := [(2, .int 0), (0, .ref h0), (1, .int n), (3, .int x3), (4, .int x4)]) hx hb dX4_isDouble_67 rfl hl (by decide) rfl (fun ls hl => ?_)
                  obtain ⟨v_14, ev_14⟩ : ∃ z : Int32, z = x4 + 1 := ⟨_, rfl⟩
                  have tv_14 : v_14.toInt = x4.toInt + 1 := by rw [ev_14]; exact ti_add (x := x4) (y := 1) (show -2147483648 ≤ x4.toInt + 1 by omega) (show x4.toInt + 1 < 2147483648 by omega)
                  refine lv_iinc (v := v_14) (lv' := [(4, .int v_14), (2, .int 0), (0, .ref h0), (1, .int n), (3, .int x3)]) hx hb dX4_isDouble_68 hl (k := 4) rfl (by rw [ev_14]; rfl) (by decide) rfl (fun ls hl => ?_)
                  refine lv_goto (tgt := 15) hx hb dX4_isDouble_71 (by decide) ?_
                  exact ih_5 0 v_14 _ _ _ (show (5 - v_14.toInt).toNat < fu_4 by omega) (by decide) (show 0 ≤ v_14.toInt ∧ v_14.toInt ≤ 5 by omega) (show v_14.toInt ≤ x3.toInt by omega) hP hD hS (lv_sub hl [2, 3, 1, 4, 0] rfl)
                · have tc_13 := b_ne rfl (show (0 : Int32).toInt = 0 by decide) c_13
                  refine lv_aload_n hx hb dX4_isDouble_36 rfl (lv_at hl 0 rfl) ?_
                  refine va_get (D := D) (ci := 4) (v := .ref yse) (C := RX4) (T := TX4) (N := 30) hx hb hts iX4 hown hK hP 0 rfl rfl 4 (by decide) (hts (.fieldLink RX4 16 "PunchedTicketModel" "seat" "[I") (List.mem_of_getElem? (i := 2) rfl)) (fun _ h9 => h9) rfl dX4_isDouble_37 ?_
                  refine lv_aload_n hx hb dX4_isDouble_40 rfl (lv_at hl 0 rfl) ?_
                  refine va_get (D := D) (ci := 4) (v := .ref yby) (C := RX4) (T := TX4) (N := 30) hx hb hts iX4 hown hK hP 0 rfl rfl 16 (by decide) (hts (.fieldLink RX4 37 "PunchedTicketModel" "by" "[I") (List.mem_of_getElem? (i := 3) rfl)) (fun _ h9 => h9) rfl dX4_isDouble_41 ?_
                  refine lv_iload_n hx hb dX4_isDouble_44 rfl (lv_at hl 3 rfl) ?_
                  refine va_iald hx hb hK hP 3 0 rfl rfl (vp_in_iff.mpr ⟨by omega, by omega⟩) dX4_isDouble_45 ?_
                  refine lv_topi (fun v_15 ev_15 => ?_)
                  have ⟨h0v_15, h6v_15⟩ := wentOk_at hWe (by omega) (by omega) (hw_12.resolve_right (by omega)).2.1 ev_15
                  refine va_iald hx hb hK hP 4 0 rfl rfl (vp_in_iff.mpr ⟨by omega, by omega⟩) dX4_isDouble_46 ?_
                  refine lv_topi (fun v_16 ev_16 => ?_)
                  refine lv_aload_n hx hb dX4_isDouble_47 rfl (lv_at hl 0 rfl) ?_
                  refine va_get (D := D) (ci := 4) (v := .ref yse) (C := RX4) (T := TX4) (N := 30) hx hb hts iX4 hown hK hP 0 rfl rfl 4 (by decide) (hts (.fieldLink RX4 16 "PunchedTicketModel" "seat" "[I") (List.mem_of_getElem? (i := 2) rfl)) (fun _ h9 => h9) rfl dX4_isDouble_48 ?_
                  refine lv_aload_n hx hb dX4_isDouble_51 rfl (lv_at hl 0 rfl) ?_
                  refine va_get (D := D) (ci := 4) (v := .ref yby) (C := RX4) (T := TX4) (N := 30) hx hb hts iX4 hown hK hP 0 rfl rfl 16 (by decide) (hts (.fieldLink RX4 37 "PunchedTicketModel" "by" "[I") (List.mem_of_getElem? (i := 3) rfl)) (fun _ h9 => h9) rfl dX4_isDouble_52 ?_
                  refine lv_iload hx hb dX4_isDouble_55 (lv_at hl 4 rfl) ?_
                  refine va_iald hx hb hK hP 3 0 rfl rfl (vp_in_iff.mpr ⟨by omega, by omega⟩) dX4_isDouble_57 ?_
                  refine lv_topi (fun v_17 ev_17 => ?_)
                  have ⟨h0v_17, h6v_17⟩ := wentOk_at hWe (by omega) (by omega) (hw_12.resolve_right (by omega)).2.2 ev_17
                  refine va_iald hx hb hK hP 4 0 rfl rfl (vp_in_iff.mpr ⟨by omega, by omega⟩) dX4_isDouble_58 ?_
                  refine lv_topi (fun v_18 ev_18 => ?_)
                  refine lv_icmp_ne (tgt := 66) hx hb dX4_isDouble_59 (by decide) (fun c_19 => ?_) (fun c_19 => ?_)
                  · have tc_19 := b_ne rfl rfl c_19
                    refine lv_iconst (v := 0) hx hb dX4_isDouble_66 (by decide) ?_
                    refine lv_istore_n (lv' := [(2, .int 0), (0, .ref h0), (1, .int n), (3, .int x3), (4, .int x4)]) hx hb dX4_isDouble_67 rfl hl (by decide) rfl (fun ls hl => ?_)
                    obtain ⟨v_20, ev_20⟩ : ∃ z : Int32, z = x4 + 1 := ⟨_, rfl⟩
                    have tv_20 : v_20.toInt = x4.toInt + 1 := by rw [ev_20]; exact ti_add (x := x4) (y := 1) (show -2147483648 ≤ x4.toInt + 1 by omega) (show x4.toInt + 1 < 2147483648 by omega)
                    refine lv_iinc (v := v_20) (lv' := [(4, .int v_20), (2, .int 0), (0, .ref h0), (1, .int n), (3, .int x3)]) hx hb dX4_isDouble_68 hl (k := 4) rfl (by rw [ev_20]; rfl) (by decide) rfl (fun ls hl => ?_)
                    refine lv_goto (tgt := 15) hx hb dX4_isDouble_71 (by decide) ?_
                    exact ih_5 0 v_20 _ _ _ (show (5 - v_20.toInt).toNat < fu_4 by omega) (by decide) (show 0 ≤ v_20.toInt ∧ v_20.toInt ≤ 5 by omega) (show v_20.toInt ≤ x3.toInt by omega) hP hD hS (lv_sub hl [2, 3, 1, 4, 0] rfl)
                  · have tc_19 := b_eq rfl rfl c_19
                    refine lv_iconst (v := 1) hx hb dX4_isDouble_62 (by decide) ?_
                    refine lv_goto (tgt := 67) hx hb dX4_isDouble_63 (by decide) ?_
                    refine lv_istore_n (lv' := [(2, .int 1), (0, .ref h0), (1, .int n), (3, .int x3), (4, .int x4)]) hx hb dX4_isDouble_67 rfl hl (by decide) rfl (fun ls hl => ?_)
                    obtain ⟨v_21, ev_21⟩ : ∃ z : Int32, z = x4 + 1 := ⟨_, rfl⟩
                    have tv_21 : v_21.toInt = x4.toInt + 1 := by rw [ev_21]; exact ti_add (x := x4) (y := 1) (show -2147483648 ≤ x4.toInt + 1 by omega) (show x4.toInt + 1 < 2147483648 by omega)
                    refine lv_iinc (v := v_21) (lv' := [(4, .int v_21), (2, .int 1), (0, .ref h0), (1, .int n), (3, .int x3)]) hx hb dX4_isDouble_68 hl (k := 4) rfl (by rw [ev_21]; rfl) (by decide) rfl (fun ls hl => ?_)
                    refine lv_goto (tgt := 15) hx hb dX4_isDouble_71 (by decide) ?_
                    exact ih_5 1 v_21 _ _ _ (show (5 - v_21.toInt).toNat < fu_4 by omega) (by decide) (show 0 ≤ v_21.toInt ∧ v_21.toInt ≤ 5 by omega) (show v_21.toInt ≤ x3.toInt by omega) hP hD hS (lv_sub hl [2, 3, 1, 4, 0] rfl)
        exact LOOP_4 _ w2 0 _ _ _ (Nat.lt_succ_self _) (show 0 ≤ w2.toInt ∧ w2.toInt ≤ 1 by omega) (by decide) (show (0 : Int) ≤ x3.toInt by omega) hP hD hS (lv_sub hl [1, 2, 3, 4, 0] rfl)
  exact LOOP_1 _ 0 0 _ _ _ (Nat.lt_succ_self _) (by decide) (by decide) hP hD hS (lv_sub hl [2, 3, 1, 0] rfl)

set_option maxHeartbeats 600000 in
set_option maxRecDepth 100000 in
theorem c_X4_layTrial (l : Launch) (D : va_G) (cI cZ cM : ClassId) (h0 : Nat) (ype : Int32) (ytk : Int32) (ywi : Nat) (yki : Nat) (yse : Nat) (yno : Nat) (yrh : Nat) (yrw : Nat) (yrk : Nat) (yrt : Nat) (yrp : Int32) (yrq : Int32) (ytx : Nat) (yle : Int32) (yat : Int32) (yfa : Int32) (yby : Nat) (ylo : Nat) (yhi : Nat) (yac : Int32) (ynx : Int32) (yro : Nat) (ygl : Nat) (ysn : Int32) (yso : Nat) (ysp : Nat) (ysw : Nat) (ysd : Int64) (yik : Nat) (ykp : Nat) (Fno : Nat → Int32) (sz : Nat)  : Cv l yX4_layTrial wsX4_layTrial ({ frames := 0, cells := 0, slots := 0, locals := 0 } : Room) D cI cZ cM [.ref h0] [(h0, .inr (4, [.int ype, .int ytk, .ref ywi, .ref yki, .ref yse, .ref yno, .ref yrh, .ref yrw, .ref yrk, .ref yrt, .int yrp, .int yrq, .ref ytx, .int yle, .int yat, .int yfa, .ref yby, .ref ylo, .ref yhi, .int yac, .int ynx, .ref yro, .ref ygl, .int ysn, .ref yso, .ref ysp, .ref ysw, .long ysd, .ref yik, .ref ykp])), (yno, .inl (cI, 96, .inl Fno))] sz (fun (u : (Nat → Int32)) => True) (fun u => [(h0, .inr (4, [.int ype, .int ytk, .ref ywi, .ref yki, .ref yse, .ref yno, .ref yrh, .ref yrw, .ref yrk, .ref yrt, .int yrp, .int yrq, .ref ytx, .int yle, .int yat, .int yfa, .ref yby, .ref ylo, .ref yhi, .int yac, .int ynx, .ref yro, .ref ygl, .int ysn, .ref yso, .ref ysp, .ref ysw, .long ysd, .ref yik, .ref ykp])), (yno, .inl (cI, 96, .inl u))]) 0 0 := by
  refine begins (l := l) (y := yX4_layTrial) (ws := wsX4_layTrial) (av := [.ref h0]) (Qc := fun A => va_Qv (fun (u : (Nat → Int32)) => True) (fun u => Wd D cI cZ cM A ((fun u => [(h0, .inr (4, [.int ype, .int ytk, .ref ywi, .ref yki, .ref yse, .ref yno, .ref yrh, .ref yrw, .ref yrk, .ref yrt, .int yrp, .int yrq, .ref ytx, .int yle, .int yat, .int yfa, .ref yby, .ref ylo, .ref yhi, .int yac, .int ynx, .ref yro, .ref ygl, .int ysn, .ref yso, .ref ysp, .ref ysw, .long ysd, .ref yik, .ref ykp])), (yno, .inl (cI, 96, .inl u))]) u)) A) cX4_layTrial 2 none (by decide) rfl (Nat.le_of_ble_eq_true rfl) ?_
  intro p e s m args below meth c R Q A ls hBd hR hQ hA hS hK hP hD hl
  obtain ⟨hx, hb, hr, hts, hown, hlocks, hin, hml⟩ := hBd
  have hl : lv_has ls 2 [(0, .ref h0)] := hl
  have iX4 : ∀ w ∈ wsX40, w ∈ wsX4_layTrial := fun _ h => List.mem_cons_of_mem _ (List.mem_append_right _ h)
  refine lv_iconst (v := 0) hx hb dX4_layTrial_0 (by decide) ?_
  refine lv_istore_n (lv' := [(1, .int 0), (0, .ref h0)]) hx hb dX4_layTrial_1 rfl hl (by decide) rfl (fun ls hl => ?_)
  have LOOP_1 : ∀ (fu_1 : Nat) (x1 : Int32) (gn : Nat → Int32) (H : Heap) (locs : List Loc) (ls : Array Slot), (48 - x1.toInt).toNat < fu_1 → (0 ≤ x1.toInt ∧ x1.toInt ≤ 48) → va_P D vwCl [(h0, .inr (4, [.int ype, .int ytk, .ref ywi, .ref yki, .ref yse, .ref yno, .ref yrh, .ref yrw, .ref yrk, .ref yrt, .int yrp, .int yrq, .ref ytx, .int yle, .int yat, .int yfa, .ref yby, .ref ylo, .ref yhi, .int yac, .int ynx, .ref yro, .ref ygl, .int ysn, .ref yso, .ref ysp, .ref ysw, .long ysd, .ref yik, .ref ykp])), (yno, .inl (cI, 96, .inl gn))] H → va_D A [(h0, .inr (4, [.int ype, .int ytk, .ref ywi, .ref yki, .ref yse, .ref yno, .ref yrh, .ref yrw, .ref yrk, .ref yrt, .int yrp, .int yrq, .ref ytx, .int yle, .int yat, .int yfa, .ref yby, .ref ylo, .ref yhi, .int yac, .int ynx, .ref yro, .ref ygl, .int ysn, .ref yso, .ref ysp, .ref ysw, .long ysd, .ref yik, .ref ykp])), (yno, .inl (cI, 96, .inl gn))] → va_S A s.heap H locs → lv_has ls 2 [(0, .ref h0), (1, .int x1)] → W p l e R s m args below meth c H locs 0 0 Q (F0 m 2 ls []) := by
    intro fu_1
    induction fu_1 with
    | zero => intro x1 gn H locs ls hmu; exact absurd hmu (Nat.not_lt_zero _)
    | succ fu_1 ih =>
      intro x1 gn H locs ls hmu h_x1 hP hD hS hl
      obtain ⟨h_x1a, h_x1b⟩ := h_x1
      have ih_2 := ih
      clear ih
      refine lv_iload_n hx hb dX4_layTrial_2 rfl (lv_at hl 1 rfl) ?_
      refine lv_bipush (v := 48) hx hb dX4_layTrial_3 (by decide) ?_
      refine lv_icmp_ge (tgt := 29) hx hb dX4_layTrial_5 (by decide) (fun c_3 => ?_) (fun c_3 => ?_)
      · have tc_3 := b_le (show (48 : Int32).toInt = 48 by decide) rfl c_3
        exact ret_v (post := (fun (u : (Nat → Int32)) => True)) (W1 := (fun u => [(h0, .inr (4, [.int ype, .int ytk, .ref ywi, .ref yki, .ref yse, .ref yno, .ref yrh, .ref yrw, .ref yrk, .ref yrt, .int yrp, .int yrq, .ref ytx, .int yle, .int yat, .int yfa, .ref yby, .ref ylo, .ref yhi, .int yac, .int ynx, .ref yro, .ref ygl, .int ysn, .ref yso, .ref ysp, .ref ysw, .long ysd, .ref yik, .ref ykp])), (yno, .inl (cI, 96, .inl u))])) gn hx hb hr hlocks hQ hK hP hD hS ⟨by decide, by decide⟩ dX4_layTrial_29 trivial
      · have tc_3 := b_nle (show (48 : Int32).toInt = 48 by decide) rfl c_3
        refine lv_aload_n hx hb dX4_layTrial_8 rfl (lv_at hl 0 rfl) ?_
        refine va_get (D := D) (ci := 4) (v := .ref yno) (C := RX4) (T := TX4) (N := 30) hx hb hts iX4 hown hK hP 0 rfl rfl 5 (by decide) (hts (.fieldLink RX4 19 "PunchedTicketModel" "now" "[I") (List.mem_of_getElem? (i := 1) rfl)) (fun _ h9 => h9) rfl dX4_layTrial_9 ?_
        refine lv_bipush (v := 48) hx hb dX4_layTrial_12 (by decide) ?_
        refine lv_iload_n hx hb dX4_layTrial_14 rfl (lv_at hl 1 rfl) ?_
        refine lv_iadd hx hb dX4_layTrial_15 ?_
        refine lv_topi (fun v_4 ev_4 => ?_)
        have tv_4 : v_4.toInt = (48 : Int) + x1.toInt := by rw [ev_4]; exact ti_add (x := 48) (y := x1) (show -2147483648 ≤ (48 : Int) + x1.toInt by omega) (show (48 : Int) + x1.toInt < 2147483648 by omega)
        refine lv_aload_n hx hb dX4_layTrial_16 rfl (lv_at hl 0 rfl) ?_
        refine va_get (D := D) (ci := 4) (v := .ref yno) (C := RX4) (T := TX4) (N := 30) hx hb hts iX4 hown hK hP 0 rfl rfl 5 (by decide) (hts (.fieldLink RX4 19 "PunchedTicketModel" "now" "[I") (List.mem_of_getElem? (i := 1) rfl)) (fun _ h9 => h9) rfl dX4_layTrial_17 ?_
        refine lv_iload_n hx hb dX4_layTrial_20 rfl (lv_at hl 1 rfl) ?_
        refine va_iald hx hb hK hP 1 0 rfl rfl (vp_in_iff.mpr ⟨by omega, by omega⟩) dX4_layTrial_21 ?_
        refine lv_topi (fun v_5 ev_5 => ?_)
        refine va_iast hx hb hK hP hD hS 1 0 rfl rfl (vp_in_iff.mpr ⟨by omega, by omega⟩) dX4_layTrial_22 (fun H locs hP hD hS => ?_)
        obtain ⟨f_6, ef_6⟩ : ∃ g : Nat → Int32, upd gn (v_4 : Int32).toNatClampNeg v_5 = g := ⟨_, rfl⟩
        rw [ef_6] at hP hD
        have hP : va_P D vwCl [(h0, .inr (4, [.int ype, .int ytk, .ref ywi, .ref yki, .ref yse, .ref yno, .ref yrh, .ref yrw, .ref yrk, .ref yrt, .int yrp, .int yrq, .ref ytx, .int yle, .int yat, .int yfa, .ref yby, .ref ylo, .ref yhi, .int yac, .int ynx, .ref yro, .ref ygl, .int ysn, .ref yso, .ref ysp, .ref ysw, .long ysd, .ref yik, .ref ykp])), (yno, .inl (cI, 96, .inl f_6))] H := hP
        have hD : va_D A [(h0, .inr (4, [.int ype, .int ytk, .ref ywi, .ref yki, .ref yse, .ref yno, .ref yrh, .ref yrw, .ref yrk, .ref yrt, .int yrp, .int yrq, .ref ytx, .int yle, .int yat, .int yfa, .ref yby, .ref ylo, .ref yhi, .int yac, .int ynx, .ref yro, .ref ygl, .int ysn, .ref yso, .ref ysp, .ref ysw, .long ysd, .ref yik, .ref ykp])), (yno, .inl (cI, 96, .inl f_6))] := hD
        obtain ⟨v_7, ev_7⟩ : ∃ z : Int32, z = x1 + 1 := ⟨_, rfl⟩
        have tv_7 : v_7.toInt = x1.toInt + 1 := by rw [ev_7]; exact ti_add (x := x1) (y := 1) (show -2147483648 ≤ x1.toInt + 1 by omega) (show x1.toInt + 1 < 2147483648 by omega)
        refine lv_iinc (v := v_7) (lv' := [(1, .int v_7), (0, .ref h0)]) hx hb dX4_layTrial_23 hl (k := 1) rfl (by rw [ev_7]; rfl) (by decide) rfl (fun ls hl => ?_)
        refine lv_goto (tgt := 2) hx hb dX4_layTrial_26 (by decide) ?_
        exact ih_2 v_7 f_6 _ _ _ (show (48 - v_7.toInt).toNat < fu_1 by omega) (show 0 ≤ v_7.toInt ∧ v_7.toInt ≤ 48 by omega) hP hD hS (lv_sub hl [1, 0] rfl)
  exact LOOP_1 _ 0 Fno _ _ _ (Nat.lt_succ_self _) (by decide) hP hD hS (lv_sub hl [1, 0] rfl)

set_option maxHeartbeats 600000 in
set_option maxRecDepth 100000 in
theorem c_X4_loseTrial (l : Launch) (D : va_G) (cI cZ cM : ClassId) (h0 : Nat) (n : Int32) (ype : Int32) (ytk : Int32) (ywi : Nat) (yki : Nat) (yse : Nat) (yno : Nat) (yrh : Nat) (yrw : Nat) (yrk : Nat) (yrt : Nat) (yrp : Int32) (yrq : Int32) (ytx : Nat) (yle : Int32) (yat : Int32) (yfa : Int32) (yby : Nat) (ylo : Nat) (yhi : Nat) (yac : Int32) (ynx : Int32) (yro : Nat) (ygl : Nat) (ysn : Int32) (yso : Nat) (ysp : Nat) (ysw : Nat) (ysd : Int64) (yik : Nat) (ykp : Nat) (Fno : Nat → Int32) (sz : Nat) (h_ytk : 0 ≤ ytk.toInt ∧ ytk.toInt ≤ 6) : Cv l yX4_loseTrial wsX4_loseTrial ({ frames := 0, cells := 0, slots := 0, locals := 0 } : Room) D cI cZ cM [.ref h0, .int n] [(h0, .inr (4, [.int ype, .int ytk, .ref ywi, .ref yki, .ref yse, .ref yno, .ref yrh, .ref yrw, .ref yrk, .ref yrt, .int yrp, .int yrq, .ref ytx, .int yle, .int yat, .int yfa, .ref yby, .ref ylo, .ref yhi, .int yac, .int ynx, .ref yro, .ref ygl, .int ysn, .ref yso, .ref ysp, .ref ysw, .long ysd, .ref yik, .ref ykp])), (yno, .inl (cI, 96, .inl Fno))] sz (fun (u : (Nat → Int32)) => True) (fun u => [(h0, .inr (4, [.int ype, .int ytk, .ref ywi, .ref yki, .ref yse, .ref yno, .ref yrh, .ref yrw, .ref yrk, .ref yrt, .int yrp, .int yrq, .ref ytx, .int yle, .int yat, .int yfa, .ref yby, .ref ylo, .ref yhi, .int yac, .int ynx, .ref yro, .ref ygl, .int ysn, .ref yso, .ref ysp, .ref ysw, .long ysd, .ref yik, .ref ykp])), (yno, .inl (cI, 96, .inl u))]) 0 0 := by
  refine begins (l := l) (y := yX4_loseTrial) (ws := wsX4_loseTrial) (av := [.ref h0, .int n]) (Qc := fun A => va_Qv (fun (u : (Nat → Int32)) => True) (fun u => Wd D cI cZ cM A ((fun u => [(h0, .inr (4, [.int ype, .int ytk, .ref ywi, .ref yki, .ref yse, .ref yno, .ref yrh, .ref yrw, .ref yrk, .ref yrt, .int yrp, .int yrq, .ref ytx, .int yle, .int yat, .int yfa, .ref yby, .ref ylo, .ref yhi, .int yac, .int ynx, .ref yro, .ref ygl, .int ysn, .ref yso, .ref ysp, .ref ysw, .long ysd, .ref yik, .ref ykp])), (yno, .inl (cI, 96, .inl u))]) u)) A) cX4_loseTrial 3 none (by decide) rfl (Nat.le_of_ble_eq_true rfl) ?_
  intro p e s m args below meth c R Q A ls hBd hR hQ hA hS hK hP hD hl
  obtain ⟨hx, hb, hr, hts, hown, hlocks, hin, hml⟩ := hBd
  have hl : lv_has ls 3 [(0, .ref h0), (1, .int n)] := hl
  have iX4 : ∀ w ∈ wsX40, w ∈ wsX4_loseTrial := fun _ h => List.mem_cons_of_mem _ (List.mem_append_right _ h)
  obtain ⟨h_ytka, h_ytkb⟩ := h_ytk
  refine lv_iconst (v := 0) hx hb dX4_loseTrial_0 (by decide) ?_
  refine lv_istore_n (lv' := [(2, .int 0), (0, .ref h0), (1, .int n)]) hx hb dX4_loseTrial_1 rfl hl (by decide) rfl (fun ls hl => ?_)
  have LOOP_1 : ∀ (fu_1 : Nat) (x2 : Int32) (gn : Nat → Int32) (H : Heap) (locs : List Loc) (ls : Array Slot), (6 - x2.toInt).toNat < fu_1 → (0 ≤ x2.toInt ∧ x2.toInt ≤ 6) → va_P D vwCl [(h0, .inr (4, [.int ype, .int ytk, .ref ywi, .ref yki, .ref yse, .ref yno, .ref yrh, .ref yrw, .ref yrk, .ref yrt, .int yrp, .int yrq, .ref ytx, .int yle, .int yat, .int yfa, .ref yby, .ref ylo, .ref yhi, .int yac, .int ynx, .ref yro, .ref ygl, .int ysn, .ref yso, .ref ysp, .ref ysw, .long ysd, .ref yik, .ref ykp])), (yno, .inl (cI, 96, .inl gn))] H → va_D A [(h0, .inr (4, [.int ype, .int ytk, .ref ywi, .ref yki, .ref yse, .ref yno, .ref yrh, .ref yrw, .ref yrk, .ref yrt, .int yrp, .int yrq, .ref ytx, .int yle, .int yat, .int yfa, .ref yby, .ref ylo, .ref yhi, .int yac, .int ynx, .ref yro, .ref ygl, .int ysn, .ref yso, .ref ysp, .ref ysw, .long ysd, .ref yik, .ref ykp])), (yno, .inl (cI, 96, .inl gn))] → va_S A s.heap H locs → lv_has ls 3 [(0, .ref h0), (1, .int n), (2, .int x2)] → W p l e R s m args below meth c H locs 0 0 Q (F0 m 2 ls []) := by
    intro fu_1
    induction fu_1 with
    | zero => intro x2 gn H locs ls hmu; exact absurd hmu (Nat.not_lt_zero _)
    | succ fu_1 ih =>
      intro x2 gn H locs ls hmu h_x2 hP hD hS hl
      obtain ⟨h_x2a, h_x2b⟩ := h_x2
      have ih_2 := ih
      clear ih
      refine lv_iload_n hx hb dX4_loseTrial_2 rfl (lv_at hl 2 rfl) ?_
      refine lv_aload_n hx hb dX4_loseTrial_3 rfl (lv_at hl 0 rfl) ?_
      refine va_get (D := D) (ci := 4) (v := .int ytk) (C := RX4) (T := TX4) (N := 30) hx hb hts iX4 hown hK hP 0 rfl rfl 1 (by decide) (hts (.fieldLink RX4 101 "PunchedTicketModel" "tickets" "I") (List.mem_of_getElem? (i := 1) rfl)) (fun _ h9 => h9) rfl dX4_loseTrial_4 ?_
      refine lv_icmp_ge (tgt := 38) hx hb dX4_loseTrial_7 (by decide) (fun c_3 => ?_) (fun c_3 => ?_)
      · have tc_3 := b_le rfl rfl c_3
        exact ret_v (post := (fun (u : (Nat → Int32)) => True)) (W1 := (fun u => [(h0, .inr (4, [.int ype, .int ytk, .ref ywi, .ref yki, .ref yse, .ref yno, .ref yrh, .ref yrw, .ref yrk, .ref yrt, .int yrp, .int yrq, .ref ytx, .int yle, .int yat, .int yfa, .ref yby, .ref ylo, .ref yhi, .int yac, .int ynx, .ref yro, .ref ygl, .int ysn, .ref yso, .ref ysp, .ref ysw, .long ysd, .ref yik, .ref ykp])), (yno, .inl (cI, 96, .inl u))])) gn hx hb hr hlocks hQ hK hP hD hS ⟨by decide, by decide⟩ dX4_loseTrial_38 trivial
      · have tc_3 := b_nle rfl rfl c_3
        refine lv_aload_n hx hb dX4_loseTrial_10 rfl (lv_at hl 0 rfl) ?_
        refine va_get (D := D) (ci := 4) (v := .ref yno) (C := RX4) (T := TX4) (N := 30) hx hb hts iX4 hown hK hP 0 rfl rfl 5 (by decide) (hts (.fieldLink RX4 19 "PunchedTicketModel" "now" "[I") (List.mem_of_getElem? (i := 2) rfl)) (fun _ h9 => h9) rfl dX4_loseTrial_11 ?_
        refine lv_bipush (v := 54) hx hb dX4_loseTrial_14 (by decide) ?_
        refine lv_bipush (v := 6) hx hb dX4_loseTrial_16 (by decide) ?_
        refine lv_iload_n hx hb dX4_loseTrial_18 rfl (lv_at hl 2 rfl) ?_
        refine lv_imul hx hb dX4_loseTrial_19 ?_
        refine lv_topi (fun v_4 ev_4 => ?_)
        have tv_4 : v_4.toInt = (6 : Int) * x2.toInt := by rw [ev_4]; exact ti_mul (x := 6) (y := x2) (show -2147483648 ≤ (6 : Int) * x2.toInt by omega) (show (6 : Int) * x2.toInt < 2147483648 by omega)
        refine lv_iadd hx hb dX4_loseTrial_20 ?_
        refine lv_topi (fun v_5 ev_5 => ?_)
        have tv_5 : v_5.toInt = (54 : Int) + v_4.toInt := by rw [ev_5]; exact ti_add (x := 54) (y := v_4) (show -2147483648 ≤ (54 : Int) + v_4.toInt by omega) (show (54 : Int) + v_4.toInt < 2147483648 by omega)
        refine lv_iconst (v := 5) hx hb dX4_loseTrial_21 (by decide) ?_
        refine lv_iadd hx hb dX4_loseTrial_22 ?_
        refine lv_topi (fun v_6 ev_6 => ?_)
        have tv_6 : v_6.toInt = v_5.toInt + (5 : Int) := by rw [ev_6]; exact ti_add (x := v_5) (y := 5) (show -2147483648 ≤ v_5.toInt + (5 : Int) by omega) (show v_5.toInt + (5 : Int) < 2147483648 by omega)
        refine lv_dup2_11 hx hb dX4_loseTrial_23 rfl rfl ?_
        refine va_iald hx hb hK hP 1 0 rfl rfl (vp_in_iff.mpr ⟨by omega, by omega⟩) dX4_loseTrial_24 ?_
        refine lv_topi (fun v_7 ev_7 => ?_)
        refine lv_iload_n hx hb dX4_loseTrial_25 rfl (lv_at hl 1 rfl) ?_
        refine lv_iload_n hx hb dX4_loseTrial_26 rfl (lv_at hl 2 rfl) ?_
        refine lv_ishr hx hb dX4_loseTrial_27 ?_
        refine lv_topi (fun v_8 ev_8 => ?_)
        refine lv_iconst (v := 1) hx hb dX4_loseTrial_28 (by decide) ?_
        refine lv_iand hx hb dX4_loseTrial_29 ?_
        refine lv_topi (fun v_9 ev_9 => ?_)
        refine lv_ior hx hb dX4_loseTrial_30 ?_
        refine lv_topi (fun v_10 ev_10 => ?_)
        refine va_iast hx hb hK hP hD hS 1 0 rfl rfl (vp_in_iff.mpr ⟨by omega, by omega⟩) dX4_loseTrial_31 (fun H locs hP hD hS => ?_)
        obtain ⟨f_11, ef_11⟩ : ∃ g : Nat → Int32, upd gn (v_6 : Int32).toNatClampNeg v_10 = g := ⟨_, rfl⟩
        rw [ef_11] at hP hD
        have hP : va_P D vwCl [(h0, .inr (4, [.int ype, .int ytk, .ref ywi, .ref yki, .ref yse, .ref yno, .ref yrh, .ref yrw, .ref yrk, .ref yrt, .int yrp, .int yrq, .ref ytx, .int yle, .int yat, .int yfa, .ref yby, .ref ylo, .ref yhi, .int yac, .int ynx, .ref yro, .ref ygl, .int ysn, .ref yso, .ref ysp, .ref ysw, .long ysd, .ref yik, .ref ykp])), (yno, .inl (cI, 96, .inl f_11))] H := hP
        have hD : va_D A [(h0, .inr (4, [.int ype, .int ytk, .ref ywi, .ref yki, .ref yse, .ref yno, .ref yrh, .ref yrw, .ref yrk, .ref yrt, .int yrp, .int yrq, .ref ytx, .int yle, .int yat, .int yfa, .ref yby, .ref ylo, .ref yhi, .int yac, .int ynx, .ref yro, .ref ygl, .int ysn, .ref yso, .ref ysp, .ref ysw, .long ysd, .ref yik, .ref ykp])), (yno, .inl (cI, 96, .inl f_11))] := hD
        obtain ⟨v_12, ev_12⟩ : ∃ z : Int32, z = x2 + 1 := ⟨_, rfl⟩
        have tv_12 : v_12.toInt = x2.toInt + 1 := by rw [ev_12]; exact ti_add (x := x2) (y := 1) (show -2147483648 ≤ x2.toInt + 1 by omega) (show x2.toInt + 1 < 2147483648 by omega)
        refine lv_iinc (v := v_12) (lv' := [(2, .int v_12), (0, .ref h0), (1, .int n)]) hx hb dX4_loseTrial_32 hl (k := 2) rfl (by rw [ev_12]; rfl) (by decide) rfl (fun ls hl => ?_)
        refine lv_goto (tgt := 2) hx hb dX4_loseTrial_35 (by decide) ?_
        exact ih_2 v_12 f_11 _ _ _ (show (6 - v_12.toInt).toNat < fu_1 by omega) (show 0 ≤ v_12.toInt ∧ v_12.toInt ≤ 6 by omega) hP hD hS (lv_sub hl [1, 2, 0] rfl)
  exact LOOP_1 _ 0 Fno _ _ _ (Nat.lt_succ_self _) (by decide) hP hD hS (lv_sub hl [1, 2, 0] rfl)

set_option maxHeartbeats 600000 in
set_option maxRecDepth 100000 in
theorem c_X4_passAll (l : Launch) (D : va_G) (cI cZ cM : ClassId) (h0 : Nat) (n : Int32) (ype : Int32) (ytk : Int32) (ywi : Nat) (yki : Nat) (yse : Nat) (yno : Nat) (yrh : Nat) (yrw : Nat) (yrk : Nat) (yrt : Nat) (yrp : Int32) (yrq : Int32) (ytx : Nat) (yle : Int32) (yat : Int32) (yfa : Int32) (yby : Nat) (ylo : Nat) (yhi : Nat) (yac : Int32) (ynx : Int32) (yro : Nat) (ygl : Nat) (ysn : Int32) (yso : Nat) (ysp : Nat) (ysw : Nat) (ysd : Int64) (yik : Nat) (ykp : Nat) (Fno : Nat → Int32) (Fki : Nat → Int32) (Fby : Nat → Int32) (Flo : Nat → Int32) (Fhi : Nat → Int32) (sz : Nat) (hBy : ByOk Fby) (h_n : 0 ≤ n.toInt ∧ n.toInt ≤ 7) (h_ype : 0 ≤ ype.toInt ∧ ype.toInt ≤ 5) : Ci l yX4_passAll wsX4_passAll ({ frames := 2, cells := 0, slots := 0, locals := 56 } : Room) D cI cZ cM [.ref h0, .int n] [(h0, .inr (4, [.int ype, .int ytk, .ref ywi, .ref yki, .ref yse, .ref yno, .ref yrh, .ref yrw, .ref yrk, .ref yrt, .int yrp, .int yrq, .ref ytx, .int yle, .int yat, .int yfa, .ref yby, .ref ylo, .ref yhi, .int yac, .int ynx, .ref yro, .ref ygl, .int ysn, .ref yso, .ref ysp, .ref ysw, .long ysd, .ref yik, .ref ykp])), (yno, .inl (cI, 96, .inl Fno)), (yki, .inl (cI, 5, .inl Fki)), (yby, .inl (cI, 5, .inl Fby)), (ylo, .inl (cI, 5, .inl Flo)), (yhi, .inl (cI, 5, .inl Fhi))] sz (fun (r : Int32) (u : (Nat → Int32) × (Nat → Int32) × (Nat → Int32) × (Nat → Int32)) => ByOk u.2.1) (fun u => [(h0, .inr (4, [.int ype, .int ytk, .ref ywi, .ref yki, .ref yse, .ref yno, .ref yrh, .ref yrw, .ref yrk, .ref yrt, .int yrp, .int yrq, .ref ytx, .int yle, .int yat, .int yfa, .ref yby, .ref ylo, .ref yhi, .int yac, .int ynx, .ref yro, .ref ygl, .int ysn, .ref yso, .ref ysp, .ref ysw, .long ysd, .ref yik, .ref ykp])), (yno, .inl (cI, 96, .inl u.1)), (yki, .inl (cI, 5, .inl Fki)), (yby, .inl (cI, 5, .inl u.2.1)), (ylo, .inl (cI, 5, .inl u.2.2.1)), (yhi, .inl (cI, 5, .inl u.2.2.2))]) 0 0 := by
  refine begins (l := l) (y := yX4_passAll) (ws := wsX4_passAll) (av := [.ref h0, .int n]) (Qc := fun A => va_Qi (fun (r : Int32) (u : (Nat → Int32) × (Nat → Int32) × (Nat → Int32) × (Nat → Int32)) => ByOk u.2.1) (fun u => Wd D cI cZ cM A ((fun u => [(h0, .inr (4, [.int ype, .int ytk, .ref ywi, .ref yki, .ref yse, .ref yno, .ref yrh, .ref yrw, .ref yrk, .ref yrt, .int yrp, .int yrq, .ref ytx, .int yle, .int yat, .int yfa, .ref yby, .ref ylo, .ref yhi, .int yac, .int ynx, .ref yro, .ref ygl, .int ysn, .ref yso, .ref ysp, .ref ysw, .long ysd, .ref yik, .ref ykp])), (yno, .inl (cI, 96, .inl u.1)), (yki, .inl (cI, 5, .inl Fki)), (yby, .inl (cI, 5, .inl u.2.1)), (ylo, .inl (cI, 5, .inl u.2.2.1)), (yhi, .inl (cI, 5, .inl u.2.2.2))]) u)) A) cX4_passAll 3 (some .int) (by decide) rfl (Nat.le_of_ble_eq_true rfl) ?_
  intro p e s m args below meth c R Q A ls hBd hR hQ hA hS hK hP hD hl
  obtain ⟨hx, hb, hr, hts, hown, hlocks, hin, hml⟩ := hBd
  have hl : lv_has ls 3 [(0, .ref h0), (1, .int n)] := hl
  have iX4 : ∀ w ∈ wsX40, w ∈ wsX4_passAll := fun _ h => List.mem_cons_of_mem _ (List.mem_append_right _ h)
  obtain ⟨h_na, h_nb⟩ := h_n
  obtain ⟨h_ypea, h_ypeb⟩ := h_ype
  refine lv_iconst (v := 0) hx hb dX4_passAll_0 (by decide) ?_
  refine lv_istore_n (lv' := [(2, .int 0), (0, .ref h0), (1, .int n)]) hx hb dX4_passAll_1 rfl hl (by decide) rfl (fun ls hl => ?_)
  have LOOP_1 : ∀ (fu_1 : Nat) (w2 : Int32) (gn : Nat → Int32) (gb : Nat → Int32) (gl : Nat → Int32) (gh : Nat → Int32) (H : Heap) (locs : List Loc) (ls : Array Slot), (10 - (gn 48).toInt).toNat < fu_1 → (ByOk gb) → va_P D vwCl [(h0, .inr (4, [.int ype, .int ytk, .ref ywi, .ref yki, .ref yse, .ref yno, .ref yrh, .ref yrw, .ref yrk, .ref yrt, .int yrp, .int yrq, .ref ytx, .int yle, .int yat, .int yfa, .ref yby, .ref ylo, .ref yhi, .int yac, .int ynx, .ref yro, .ref ygl, .int ysn, .ref yso, .ref ysp, .ref ysw, .long ysd, .ref yik, .ref ykp])), (yno, .inl (cI, 96, .inl gn)), (yki, .inl (cI, 5, .inl Fki)), (yby, .inl (cI, 5, .inl gb)), (ylo, .inl (cI, 5, .inl gl)), (yhi, .inl (cI, 5, .inl gh))] H → va_D A [(h0, .inr (4, [.int ype, .int ytk, .ref ywi, .ref yki, .ref yse, .ref yno, .ref yrh, .ref yrw, .ref yrk, .ref yrt, .int yrp, .int yrq, .ref ytx, .int yle, .int yat, .int yfa, .ref yby, .ref ylo, .ref yhi, .int yac, .int ynx, .ref yro, .ref ygl, .int ysn, .ref yso, .ref ysp, .ref ysw, .long ysd, .ref yik, .ref ykp])), (yno, .inl (cI, 96, .inl gn)), (yki, .inl (cI, 5, .inl Fki)), (yby, .inl (cI, 5, .inl gb)), (ylo, .inl (cI, 5, .inl gl)), (yhi, .inl (cI, 5, .inl gh))] → va_S A s.heap H locs → lv_has ls 3 [(0, .ref h0), (1, .int n), (2, .int w2)] → W p l e R s m args below meth c H locs 0 0 Q (F0 m 2 ls []) := by
    intro fu_1
    induction fu_1 with
    | zero => intro w2 gn gb gl gh H locs ls hmu; exact absurd hmu (Nat.not_lt_zero _)
    | succ fu_1 ih =>
      intro w2 gn gb gl gh H locs ls hmu hby hP hD hS hl
      have ih_2 := ih
      clear ih
      refine lv_aload_n hx hb dX4_passAll_2 rfl (lv_at hl 0 rfl) ?_
      refine va_get (D := D) (ci := 4) (v := .ref yno) (C := RX4) (T := TX4) (N := 30) hx hb hts iX4 hown hK hP 0 rfl rfl 5 (by decide) (hts (.fieldLink RX4 19 "PunchedTicketModel" "now" "[I") (List.mem_of_getElem? (i := 1) rfl)) (fun _ h9 => h9) rfl dX4_passAll_3 ?_
      refine lv_bipush (v := 48) hx hb dX4_passAll_6 (by decide) ?_
      refine va_iald hx hb hK hP 1 0 rfl rfl (vp_in_iff.mpr (by decide)) dX4_passAll_8 ?_
      refine lv_topi (fun v_3 ev_3 => ?_)
      have tv_3 : v_3.toInt = (gn 48).toInt := by rw [ev_3]; rfl
      refine lv_bipush (v := 10) hx hb dX4_passAll_9 (by decide) ?_
      refine lv_icmp_ge (tgt := 29) hx hb dX4_passAll_11 (by decide) (fun c_4 => ?_) (fun c_4 => ?_)
      · have tc_4 := b_le (show (10 : Int32).toInt = 10 by decide) rfl c_4
        refine lv_iload_n hx hb dX4_passAll_29 rfl (lv_at hl 2 rfl) ?_
        exact ret_i (post := (fun (r : Int32) (u : (Nat → Int32) × (Nat → Int32) × (Nat → Int32) × (Nat → Int32)) => ByOk u.2.1)) (W1 := (fun u => [(h0, .inr (4, [.int ype, .int ytk, .ref ywi, .ref yki, .ref yse, .ref yno, .ref yrh, .ref yrw, .ref yrk, .ref yrt, .int yrp, .int yrq, .ref ytx, .int yle, .int yat, .int yfa, .ref yby, .ref ylo, .ref yhi, .int yac, .int ynx, .ref yro, .ref ygl, .int ysn, .ref yso, .ref ysp, .ref ysw, .long ysd, .ref yik, .ref ykp])), (yno, .inl (cI, 96, .inl u.1)), (yki, .inl (cI, 5, .inl Fki)), (yby, .inl (cI, 5, .inl u.2.1)), (ylo, .inl (cI, 5, .inl u.2.2.1)), (yhi, .inl (cI, 5, .inl u.2.2.2))])) (gn, gb, gl, gh) hx hb hr hlocks rfl hQ hK hP hD hS ⟨by decide, by decide⟩ dX4_passAll_30 hby
      · have tc_4 := b_nle (show (10 : Int32).toInt = 10 by decide) rfl c_4
        refine lv_iload_n hx hb dX4_passAll_14 rfl (lv_at hl 2 rfl) ?_
        refine lv_aload_n hx hb dX4_passAll_15 rfl (lv_at hl 0 rfl) ?_
        refine lv_iconst (v := 1) hx hb dX4_passAll_16 (by decide) ?_
        refine lv_iload_n hx hb dX4_passAll_17 rfl (lv_at hl 1 rfl) ?_
        refine cV_i (As := [.int 1, .int n]) (rest := [.int w2]) ⟨hx, hb, hml, hown, hts⟩ (c_X4_pass1 l D cI cZ cM h0 n ype ytk ywi yki yse yno yrh yrw yrk yrt yrp yrq ytx yle yat yfa yby ylo yhi yac ynx yro ygl ysn yso ysp ysw ysd yik ykp gn Fki gb gl gh _ hby (show (gn 48).toInt ≤ 9 by omega) (show 0 ≤ n.toInt ∧ n.toInt ≤ 7 by omega) (show 0 ≤ ype.toInt ∧ ype.toInt ≤ 5 by omega)) (cwV 2 hts gX4_passAll_X4_pass rfl rfl rfl (by decide +kernel) ⟨by rw [hR]; decide, by rw [hR]; decide⟩) hK hP hD hS hA [0, 1, 2, 3, 4, 5] [] rfl rfl (by decide) (by decide) (by decide) rfl 0 rfl hl.1 rfl rfl (Nat.le_of_ble_eq_true rfl) dX4_passAll_18 ⟨by rw [hR]; decide, by rw [hR]; decide⟩ (fun r_9 u_10 H locs hw hP hD hS => ?_)
        obtain ⟨Gno_5, Gby_6, Glo_7, Ghi_8⟩ := u_10
        have hP : va_P D vwCl [(h0, .inr (4, [.int ype, .int ytk, .ref ywi, .ref yki, .ref yse, .ref yno, .ref yrh, .ref yrw, .ref yrk, .ref yrt, .int yrp, .int yrq, .ref ytx, .int yle, .int yat, .int yfa, .ref yby, .ref ylo, .ref yhi, .int yac, .int ynx, .ref yro, .ref ygl, .int ysn, .ref yso, .ref ysp, .ref ysw, .long ysd, .ref yik, .ref ykp])), (yno, .inl (cI, 96, .inl Gno_5)), (yki, .inl (cI, 5, .inl Fki)), (yby, .inl (cI, 5, .inl Gby_6)), (ylo, .inl (cI, 5, .inl Glo_7)), (yhi, .inl (cI, 5, .inl Ghi_8))] H := hP.sub [0, 1, 2, 3, 4, 5] rfl
        have hD : va_D A [(h0, .inr (4, [.int ype, .int ytk, .ref ywi, .ref yki, .ref yse, .ref yno, .ref yrh, .ref yrw, .ref yrk, .ref yrt, .int yrp, .int yrq, .ref ytx, .int yle, .int yat, .int yfa, .ref yby, .ref ylo, .ref yhi, .int yac, .int ynx, .ref yro, .ref ygl, .int ysn, .ref yso, .ref ysp, .ref ysw, .long ysd, .ref yik, .ref ykp])), (yno, .inl (cI, 96, .inl Gno_5)), (yki, .inl (cI, 5, .inl Fki)), (yby, .inl (cI, 5, .inl Gby_6)), (ylo, .inl (cI, 5, .inl Glo_7)), (yhi, .inl (cI, 5, .inl Ghi_8))] := hD.sub [0, 1, 2, 3, 4, 5] (by decide) rfl
        refine W.widen (k := 0) (n := 0) (Nat.le_refl _) (Nat.le_refl _) ?_
        have hw : (Gno_5 48).toInt = (gn 48).toInt + 1 ∧ ByOk Gby_6 ∧ WentOk r_9 Gby_6 := hw
        have hw_11 := hw
        have PBY := hw_11.2.1
        refine cS_i (As := [.int r_9]) (rest := [.int w2]) ⟨hx, hb, hml, hown, hts⟩ (c_X4_ones l D cI cZ cM r_9 _ ) (va_cwS 1 hts gX4_passAll_X4_ones rfl rfl rfl (by decide +kernel) ⟨by rw [hR]; decide, by rw [hR]; decide⟩) hK hP hD hS hA [] [0, 1, 2, 3, 4, 5] rfl rfl (by decide) (by decide) (by decide) hl.1 rfl rfl (Nat.le_of_ble_eq_true rfl) dX4_passAll_21 ⟨by rw [hR]; decide, by rw [hR]; decide⟩ (fun r_12 u_13 H locs hw hP hD hS => ?_)
        have hP : va_P D vwCl [(h0, .inr (4, [.int ype, .int ytk, .ref ywi, .ref yki, .ref yse, .ref yno, .ref yrh, .ref yrw, .ref yrk, .ref yrt, .int yrp, .int yrq, .ref ytx, .int yle, .int yat, .int yfa, .ref yby, .ref ylo, .ref yhi, .int yac, .int ynx, .ref yro, .ref ygl, .int ysn, .ref yso, .ref ysp, .ref ysw, .long ysd, .ref yik, .ref ykp])), (yno, .inl (cI, 96, .inl Gno_5)), (yki, .inl (cI, 5, .inl Fki)), (yby, .inl (cI, 5, .inl Gby_6)), (ylo, .inl (cI, 5, .inl Glo_7)), (yhi, .inl (cI, 5, .inl Ghi_8))] H := hP.sub [0, 1, 2, 3, 4, 5] rfl
        have hD : va_D A [(h0, .inr (4, [.int ype, .int ytk, .ref ywi, .ref yki, .ref yse, .ref yno, .ref yrh, .ref yrw, .ref yrk, .ref yrt, .int yrp, .int yrq, .ref ytx, .int yle, .int yat, .int yfa, .ref yby, .ref ylo, .ref yhi, .int yac, .int ynx, .ref yro, .ref ygl, .int ysn, .ref yso, .ref ysp, .ref ysw, .long ysd, .ref yik, .ref ykp])), (yno, .inl (cI, 96, .inl Gno_5)), (yki, .inl (cI, 5, .inl Fki)), (yby, .inl (cI, 5, .inl Gby_6)), (ylo, .inl (cI, 5, .inl Glo_7)), (yhi, .inl (cI, 5, .inl Ghi_8))] := hD.sub [0, 1, 2, 3, 4, 5] (by decide) rfl
        refine W.widen (k := 0) (n := 0) (Nat.le_refl _) (Nat.le_refl _) ?_
        have hw : 0 ≤ r_12.toInt ∧ r_12.toInt ≤ 7 := hw
        have hw_14 := hw
        obtain ⟨hw_14a, hw_14b⟩ := hw_14
        refine lv_iadd hx hb dX4_passAll_24 ?_
        refine lv_topi (fun v_15 ev_15 => ?_)
        refine lv_istore_n (lv' := [(2, .int v_15), (0, .ref h0), (1, .int n)]) hx hb dX4_passAll_25 rfl hl (by decide) rfl (fun ls hl => ?_)
        refine lv_goto (tgt := 2) hx hb dX4_passAll_26 (by decide) ?_
        exact ih_2 v_15 Gno_5 Gby_6 Glo_7 Ghi_8 _ _ _ (show (10 - (Gno_5 48).toInt).toNat < fu_1 by omega) (PBY) hP hD hS (lv_sub hl [1, 2, 0] rfl)
  exact LOOP_1 _ 0 Fno Fby Flo Fhi _ _ _ (Nat.lt_succ_self _) (hBy) hP hD hS (lv_sub hl [1, 2, 0] rfl)

set_option maxHeartbeats 600000 in
set_option maxRecDepth 100000 in
theorem c_X4_gladOf (l : Launch) (D : va_G) (cI cZ cM : ClassId) (h0 : Nat) (ype : Int32) (ytk : Int32) (ywi : Nat) (yki : Nat) (yse : Nat) (yno : Nat) (yrh : Nat) (yrw : Nat) (yrk : Nat) (yrt : Nat) (yrp : Int32) (yrq : Int32) (ytx : Nat) (yle : Int32) (yat : Int32) (yfa : Int32) (yby : Nat) (ylo : Nat) (yhi : Nat) (yac : Int32) (ynx : Int32) (yro : Nat) (ygl : Nat) (ysn : Int32) (yso : Nat) (ysp : Nat) (ysw : Nat) (ysd : Int64) (yik : Nat) (ykp : Nat) (Fno : Nat → Int32) (Fwi : Nat → Int32) (sz : Nat) (h_ype : 0 ≤ ype.toInt ∧ ype.toInt ≤ 5) : Ci l yX4_gladOf wsX4_gladOf ({ frames := 0, cells := 0, slots := 0, locals := 0 } : Room) D cI cZ cM [.ref h0] [(h0, .inr (4, [.int ype, .int ytk, .ref ywi, .ref yki, .ref yse, .ref yno, .ref yrh, .ref yrw, .ref yrk, .ref yrt, .int yrp, .int yrq, .ref ytx, .int yle, .int yat, .int yfa, .ref yby, .ref ylo, .ref yhi, .int yac, .int ynx, .ref yro, .ref ygl, .int ysn, .ref yso, .ref ysp, .ref ysw, .long ysd, .ref yik, .ref ykp])), (yno, .inl (cI, 96, .inl Fno)), (ywi, .inl (cI, 5, .inl Fwi))] sz (fun (r : Int32) (u : Unit) => True) (fun u => [(h0, .inr (4, [.int ype, .int ytk, .ref ywi, .ref yki, .ref yse, .ref yno, .ref yrh, .ref yrw, .ref yrk, .ref yrt, .int yrp, .int yrq, .ref ytx, .int yle, .int yat, .int yfa, .ref yby, .ref ylo, .ref yhi, .int yac, .int ynx, .ref yro, .ref ygl, .int ysn, .ref yso, .ref ysp, .ref ysw, .long ysd, .ref yik, .ref ykp])), (yno, .inl (cI, 96, .inl Fno)), (ywi, .inl (cI, 5, .inl Fwi))]) 0 0 := by
  refine begins (l := l) (y := yX4_gladOf) (ws := wsX4_gladOf) (av := [.ref h0]) (Qc := fun A => va_Qi (fun (r : Int32) (u : Unit) => True) (fun u => Wd D cI cZ cM A ((fun u => [(h0, .inr (4, [.int ype, .int ytk, .ref ywi, .ref yki, .ref yse, .ref yno, .ref yrh, .ref yrw, .ref yrk, .ref yrt, .int yrp, .int yrq, .ref ytx, .int yle, .int yat, .int yfa, .ref yby, .ref ylo, .ref yhi, .int yac, .int ynx, .ref yro, .ref ygl, .int ysn, .ref yso, .ref ysp, .ref ysw, .long ysd, .ref yik, .ref ykp])), (yno, .inl (cI, 96, .inl Fno)), (ywi, .inl (cI, 5, .inl Fwi))]) u)) A) cX4_gladOf 3 (some .int) (by decide) rfl (Nat.le_of_ble_eq_true rfl) ?_
  intro p e s m args below meth c R Q A ls hBd hR hQ hA hS hK hP hD hl
  obtain ⟨hx, hb, hr, hts, hown, hlocks, hin, hml⟩ := hBd
  have hl : lv_has ls 3 [(0, .ref h0)] := hl
  have iX4 : ∀ w ∈ wsX40, w ∈ wsX4_gladOf := fun _ h => List.mem_cons_of_mem _ (List.mem_append_right _ h)
  obtain ⟨h_ypea, h_ypeb⟩ := h_ype
  refine lv_iconst (v := 0) hx hb dX4_gladOf_0 (by decide) ?_
  refine lv_istore_n (lv' := [(1, .int 0), (0, .ref h0)]) hx hb dX4_gladOf_1 rfl hl (by decide) rfl (fun ls hl => ?_)
  refine lv_iconst (v := 0) hx hb dX4_gladOf_2 (by decide) ?_
  refine lv_istore_n (lv' := [(2, .int 0), (1, .int 0), (0, .ref h0)]) hx hb dX4_gladOf_3 rfl hl (by decide) rfl (fun ls hl => ?_)
  have LOOP_1 : ∀ (fu_1 : Nat) (w1 : Int32) (x2 : Int32) (H : Heap) (locs : List Loc) (ls : Array Slot), (5 - x2.toInt).toNat < fu_1 → (0 ≤ x2.toInt ∧ x2.toInt ≤ 5) → va_P D vwCl [(h0, .inr (4, [.int ype, .int ytk, .ref ywi, .ref yki, .ref yse, .ref yno, .ref yrh, .ref yrw, .ref yrk, .ref yrt, .int yrp, .int yrq, .ref ytx, .int yle, .int yat, .int yfa, .ref yby, .ref ylo, .ref yhi, .int yac, .int ynx, .ref yro, .ref ygl, .int ysn, .ref yso, .ref ysp, .ref ysw, .long ysd, .ref yik, .ref ykp])), (yno, .inl (cI, 96, .inl Fno)), (ywi, .inl (cI, 5, .inl Fwi))] H → va_D A [(h0, .inr (4, [.int ype, .int ytk, .ref ywi, .ref yki, .ref yse, .ref yno, .ref yrh, .ref yrw, .ref yrk, .ref yrt, .int yrp, .int yrq, .ref ytx, .int yle, .int yat, .int yfa, .ref yby, .ref ylo, .ref yhi, .int yac, .int ynx, .ref yro, .ref ygl, .int ysn, .ref yso, .ref ysp, .ref ysw, .long ysd, .ref yik, .ref ykp])), (yno, .inl (cI, 96, .inl Fno)), (ywi, .inl (cI, 5, .inl Fwi))] → va_S A s.heap H locs → lv_has ls 3 [(0, .ref h0), (1, .int w1), (2, .int x2)] → W p l e R s m args below meth c H locs 0 0 Q (F0 m 4 ls []) := by
    intro fu_1
    induction fu_1 with
    | zero => intro w1 x2 H locs ls hmu; exact absurd hmu (Nat.not_lt_zero _)
    | succ fu_1 ih =>
      intro w1 x2 H locs ls hmu h_x2 hP hD hS hl
      obtain ⟨h_x2a, h_x2b⟩ := h_x2
      have ih_2 := ih
      clear ih
      refine lv_iload_n hx hb dX4_gladOf_4 rfl (lv_at hl 2 rfl) ?_
      refine lv_aload_n hx hb dX4_gladOf_5 rfl (lv_at hl 0 rfl) ?_
      refine va_get (D := D) (ci := 4) (v := .int ype) (C := RX4) (T := TX4) (N := 30) hx hb hts iX4 hown hK hP 0 rfl rfl 0 (by decide) (hts (.fieldLink RX4 68 "PunchedTicketModel" "people" "I") (List.mem_of_getElem? (i := 1) rfl)) (fun _ h9 => h9) rfl dX4_gladOf_6 ?_
      refine lv_icmp_ge (tgt := 44) hx hb dX4_gladOf_9 (by decide) (fun c_3 => ?_) (fun c_3 => ?_)
      · have tc_3 := b_le rfl rfl c_3
        refine lv_iload_n hx hb dX4_gladOf_44 rfl (lv_at hl 1 rfl) ?_
        exact ret_i (post := (fun (r : Int32) (u : Unit) => True)) (W1 := (fun u => [(h0, .inr (4, [.int ype, .int ytk, .ref ywi, .ref yki, .ref yse, .ref yno, .ref yrh, .ref yrw, .ref yrk, .ref yrt, .int yrp, .int yrq, .ref ytx, .int yle, .int yat, .int yfa, .ref yby, .ref ylo, .ref yhi, .int yac, .int ynx, .ref yro, .ref ygl, .int ysn, .ref yso, .ref ysp, .ref ysw, .long ysd, .ref yik, .ref ykp])), (yno, .inl (cI, 96, .inl Fno)), (ywi, .inl (cI, 5, .inl Fwi))])) () hx hb hr hlocks rfl hQ hK hP hD hS ⟨by decide, by decide⟩ dX4_gladOf_45 trivial
      · have tc_3 := b_nle rfl rfl c_3
        refine lv_iload_n hx hb dX4_gladOf_12 rfl (lv_at hl 1 rfl) ?_
        refine lv_aload_n hx hb dX4_gladOf_13 rfl (lv_at hl 0 rfl) ?_
        refine va_get (D := D) (ci := 4) (v := .ref yno) (C := RX4) (T := TX4) (N := 30) hx hb hts iX4 hown hK hP 0 rfl rfl 5 (by decide) (hts (.fieldLink RX4 19 "PunchedTicketModel" "now" "[I") (List.mem_of_getElem? (i := 2) rfl)) (fun _ h9 => h9) rfl dX4_gladOf_14 ?_
        refine lv_bipush (v := 49) hx hb dX4_gladOf_17 (by decide) ?_
        refine lv_iload_n hx hb dX4_gladOf_19 rfl (lv_at hl 2 rfl) ?_
        refine lv_iadd hx hb dX4_gladOf_20 ?_
        refine lv_topi (fun v_4 ev_4 => ?_)
        have tv_4 : v_4.toInt = (49 : Int) + x2.toInt := by rw [ev_4]; exact ti_add (x := 49) (y := x2) (show -2147483648 ≤ (49 : Int) + x2.toInt by omega) (show (49 : Int) + x2.toInt < 2147483648 by omega)
        refine va_iald hx hb hK hP 1 0 rfl rfl (vp_in_iff.mpr ⟨by omega, by omega⟩) dX4_gladOf_21 ?_
        refine lv_topi (fun v_5 ev_5 => ?_)
        refine lv_aload_n hx hb dX4_gladOf_22 rfl (lv_at hl 0 rfl) ?_
        refine va_get (D := D) (ci := 4) (v := .ref ywi) (C := RX4) (T := TX4) (N := 30) hx hb hts iX4 hown hK hP 0 rfl rfl 2 (by decide) (hts (.fieldLink RX4 7 "PunchedTicketModel" "wish" "[I") (List.mem_of_getElem? (i := 3) rfl)) (fun _ h9 => h9) rfl dX4_gladOf_23 ?_
        refine lv_iload_n hx hb dX4_gladOf_26 rfl (lv_at hl 2 rfl) ?_
        refine va_iald hx hb hK hP 2 0 rfl rfl (vp_in_iff.mpr ⟨by omega, by omega⟩) dX4_gladOf_27 ?_
        refine lv_topi (fun v_6 ev_6 => ?_)
        refine lv_icmp_ne (tgt := 35) hx hb dX4_gladOf_28 (by decide) (fun c_7 => ?_) (fun c_7 => ?_)
        · have tc_7 := b_ne rfl rfl c_7
          refine lv_iconst (v := 0) hx hb dX4_gladOf_35 (by decide) ?_
          refine lv_iadd hx hb dX4_gladOf_36 ?_
          refine lv_topi (fun v_8 ev_8 => ?_)
          have bdv_8w1 := ti_bd w1
          have tv_8 : v_8.toInt = w1.toInt + (0 : Int) := by rw [ev_8]; exact ti_add (x := w1) (y := 0) (show -2147483648 ≤ w1.toInt + (0 : Int) by omega) (show w1.toInt + (0 : Int) < 2147483648 by omega)
          refine lv_istore_n (lv' := [(1, .int v_8), (0, .ref h0), (2, .int x2)]) hx hb dX4_gladOf_37 rfl hl (by decide) rfl (fun ls hl => ?_)
          obtain ⟨v_9, ev_9⟩ : ∃ z : Int32, z = x2 + 1 := ⟨_, rfl⟩
          have tv_9 : v_9.toInt = x2.toInt + 1 := by rw [ev_9]; exact ti_add (x := x2) (y := 1) (show -2147483648 ≤ x2.toInt + 1 by omega) (show x2.toInt + 1 < 2147483648 by omega)
          refine lv_iinc (v := v_9) (lv' := [(2, .int v_9), (1, .int v_8), (0, .ref h0)]) hx hb dX4_gladOf_38 hl (k := 2) rfl (by rw [ev_9]; rfl) (by decide) rfl (fun ls hl => ?_)
          refine lv_goto (tgt := 4) hx hb dX4_gladOf_41 (by decide) ?_
          exact ih_2 v_8 v_9 _ _ _ (show (5 - v_9.toInt).toNat < fu_1 by omega) (show 0 ≤ v_9.toInt ∧ v_9.toInt ≤ 5 by omega) hP hD hS (lv_sub hl [2, 1, 0] rfl)
        · have tc_7 := b_eq rfl rfl c_7
          refine lv_iconst (v := 1) hx hb dX4_gladOf_31 (by decide) ?_
          refine lv_goto (tgt := 36) hx hb dX4_gladOf_32 (by decide) ?_
          refine lv_iadd hx hb dX4_gladOf_36 ?_
          refine lv_topi (fun v_10 ev_10 => ?_)
          refine lv_istore_n (lv' := [(1, .int v_10), (0, .ref h0), (2, .int x2)]) hx hb dX4_gladOf_37 rfl hl (by decide) rfl (fun ls hl => ?_)
          obtain ⟨v_11, ev_11⟩ : ∃ z : Int32, z = x2 + 1 := ⟨_, rfl⟩
          have tv_11 : v_11.toInt = x2.toInt + 1 := by rw [ev_11]; exact ti_add (x := x2) (y := 1) (show -2147483648 ≤ x2.toInt + 1 by omega) (show x2.toInt + 1 < 2147483648 by omega)
          refine lv_iinc (v := v_11) (lv' := [(2, .int v_11), (1, .int v_10), (0, .ref h0)]) hx hb dX4_gladOf_38 hl (k := 2) rfl (by rw [ev_11]; rfl) (by decide) rfl (fun ls hl => ?_)
          refine lv_goto (tgt := 4) hx hb dX4_gladOf_41 (by decide) ?_
          exact ih_2 v_10 v_11 _ _ _ (show (5 - v_11.toInt).toNat < fu_1 by omega) (show 0 ≤ v_11.toInt ∧ v_11.toInt ≤ 5 by omega) hP hD hS (lv_sub hl [2, 1, 0] rfl)
  exact LOOP_1 _ 0 0 _ _ _ (Nat.lt_succ_self _) (by decide) hP hD hS (lv_sub hl [2, 1, 0] rfl)

set_option maxHeartbeats 600000 in
set_option maxRecDepth 100000 in
theorem c_X4_gladWithout (l : Launch) (D : va_G) (cI cZ cM : ClassId) (h0 : Nat) (n : Int32) (ype : Int32) (ytk : Int32) (ywi : Nat) (yki : Nat) (yse : Nat) (yno : Nat) (yrh : Nat) (yrw : Nat) (yrk : Nat) (yrt : Nat) (yrp : Int32) (yrq : Int32) (ytx : Nat) (yle : Int32) (yat : Int32) (yfa : Int32) (yby : Nat) (ylo : Nat) (yhi : Nat) (yac : Int32) (ynx : Int32) (yro : Nat) (ygl : Nat) (ysn : Int32) (yso : Nat) (ysp : Nat) (ysw : Nat) (ysd : Int64) (yik : Nat) (ykp : Nat) (Fno : Nat → Int32) (Fki : Nat → Int32) (Fby : Nat → Int32) (Flo : Nat → Int32) (Fhi : Nat → Int32) (Fwi : Nat → Int32) (sz : Nat) (hBy : ByOk Fby) (h_ype : 0 ≤ ype.toInt ∧ ype.toInt ≤ 5) (h_ytk : 0 ≤ ytk.toInt ∧ ytk.toInt ≤ 6) : Ci l yX4_gladWithout wsX4_gladWithout ({ frames := 3, cells := 0, slots := 0, locals := 78 } : Room) D cI cZ cM [.ref h0, .int n] [(h0, .inr (4, [.int ype, .int ytk, .ref ywi, .ref yki, .ref yse, .ref yno, .ref yrh, .ref yrw, .ref yrk, .ref yrt, .int yrp, .int yrq, .ref ytx, .int yle, .int yat, .int yfa, .ref yby, .ref ylo, .ref yhi, .int yac, .int ynx, .ref yro, .ref ygl, .int ysn, .ref yso, .ref ysp, .ref ysw, .long ysd, .ref yik, .ref ykp])), (yno, .inl (cI, 96, .inl Fno)), (yki, .inl (cI, 5, .inl Fki)), (yby, .inl (cI, 5, .inl Fby)), (ylo, .inl (cI, 5, .inl Flo)), (yhi, .inl (cI, 5, .inl Fhi)), (ywi, .inl (cI, 5, .inl Fwi))] sz (fun (r : Int32) (u : (Nat → Int32) × (Nat → Int32) × (Nat → Int32) × (Nat → Int32)) => ByOk u.2.1) (fun u => [(h0, .inr (4, [.int ype, .int ytk, .ref ywi, .ref yki, .ref yse, .ref yno, .ref yrh, .ref yrw, .ref yrk, .ref yrt, .int yrp, .int yrq, .ref ytx, .int yle, .int yat, .int yfa, .ref yby, .ref ylo, .ref yhi, .int yac, .int ynx, .ref yro, .ref ygl, .int ysn, .ref yso, .ref ysp, .ref ysw, .long ysd, .ref yik, .ref ykp])), (yno, .inl (cI, 96, .inl u.1)), (yki, .inl (cI, 5, .inl Fki)), (yby, .inl (cI, 5, .inl u.2.1)), (ylo, .inl (cI, 5, .inl u.2.2.1)), (yhi, .inl (cI, 5, .inl u.2.2.2)), (ywi, .inl (cI, 5, .inl Fwi))]) 0 0 := by
  refine begins (l := l) (y := yX4_gladWithout) (ws := wsX4_gladWithout) (av := [.ref h0, .int n]) (Qc := fun A => va_Qi (fun (r : Int32) (u : (Nat → Int32) × (Nat → Int32) × (Nat → Int32) × (Nat → Int32)) => ByOk u.2.1) (fun u => Wd D cI cZ cM A ((fun u => [(h0, .inr (4, [.int ype, .int ytk, .ref ywi, .ref yki, .ref yse, .ref yno, .ref yrh, .ref yrw, .ref yrk, .ref yrt, .int yrp, .int yrq, .ref ytx, .int yle, .int yat, .int yfa, .ref yby, .ref ylo, .ref yhi, .int yac, .int ynx, .ref yro, .ref ygl, .int ysn, .ref yso, .ref ysp, .ref ysw, .long ysd, .ref yik, .ref ykp])), (yno, .inl (cI, 96, .inl u.1)), (yki, .inl (cI, 5, .inl Fki)), (yby, .inl (cI, 5, .inl u.2.1)), (ylo, .inl (cI, 5, .inl u.2.2.1)), (yhi, .inl (cI, 5, .inl u.2.2.2)), (ywi, .inl (cI, 5, .inl Fwi))]) u)) A) cX4_gladWithout 2 (some .int) (by decide) rfl (Nat.le_of_ble_eq_true rfl) ?_
  intro p e s m args below meth c R Q A ls hBd hR hQ hA hS hK hP hD hl
  obtain ⟨hx, hb, hr, hts, hown, hlocks, hin, hml⟩ := hBd
  have hl : lv_has ls 2 [(0, .ref h0), (1, .int n)] := hl
  have iX4 : ∀ w ∈ wsX40, w ∈ wsX4_gladWithout := fun _ h => List.mem_cons_of_mem _ (List.mem_append_right _ h)
  obtain ⟨h_ypea, h_ypeb⟩ := h_ype
  obtain ⟨h_ytka, h_ytkb⟩ := h_ytk
  refine lv_aload_n hx hb dX4_gladWithout_0 rfl (lv_at hl 0 rfl) ?_
  refine cV_v (As := []) (rest := []) ⟨hx, hb, hml, hown, hts⟩ (c_X4_layTrial l D cI cZ cM h0 ype ytk ywi yki yse yno yrh yrw yrk yrt yrp yrq ytx yle yat yfa yby ylo yhi yac ynx yro ygl ysn yso ysp ysw ysd yik ykp Fno _ ) (cwV 0 hts gX4_gladWithout_X4_layTrial rfl rfl rfl (by decide +kernel) ⟨by rw [hR]; decide, by rw [hR]; decide⟩) hK hP hD hS hA [0, 1] [2, 3, 4, 5, 6] rfl rfl (by decide) (by decide) (by decide) rfl 0 rfl hl.1 rfl rfl (Nat.le_of_ble_eq_true rfl) dX4_gladWithout_1 ⟨by rw [hR]; decide, by rw [hR]; decide⟩ (fun u_3 H locs hw hP hD hS => ?_)
  obtain ⟨Gno_1, rfl⟩ : ∃ z, z = u_3 := ⟨_, rfl⟩
  have hP : va_P D vwCl [(h0, .inr (4, [.int ype, .int ytk, .ref ywi, .ref yki, .ref yse, .ref yno, .ref yrh, .ref yrw, .ref yrk, .ref yrt, .int yrp, .int yrq, .ref ytx, .int yle, .int yat, .int yfa, .ref yby, .ref ylo, .ref yhi, .int yac, .int ynx, .ref yro, .ref ygl, .int ysn, .ref yso, .ref ysp, .ref ysw, .long ysd, .ref yik, .ref ykp])), (yno, .inl (cI, 96, .inl Gno_1)), (yki, .inl (cI, 5, .inl Fki)), (yby, .inl (cI, 5, .inl Fby)), (ylo, .inl (cI, 5, .inl Flo)), (yhi, .inl (cI, 5, .inl Fhi)), (ywi, .inl (cI, 5, .inl Fwi))] H := hP.sub [5, 6, 0, 1, 2, 3, 4] rfl
  have hD : va_D A [(h0, .inr (4, [.int ype, .int ytk, .ref ywi, .ref yki, .ref yse, .ref yno, .ref yrh, .ref yrw, .ref yrk, .ref yrt, .int yrp, .int yrq, .ref ytx, .int yle, .int yat, .int yfa, .ref yby, .ref ylo, .ref yhi, .int yac, .int ynx, .ref yro, .ref ygl, .int ysn, .ref yso, .ref ysp, .ref ysw, .long ysd, .ref yik, .ref ykp])), (yno, .inl (cI, 96, .inl Gno_1)), (yki, .inl (cI, 5, .inl Fki)), (yby, .inl (cI, 5, .inl Fby)), (ylo, .inl (cI, 5, .inl Flo)), (yhi, .inl (cI, 5, .inl Fhi)), (ywi, .inl (cI, 5, .inl Fwi))] := hD.sub [5, 6, 0, 1, 2, 3, 4] (by decide) rfl
  refine W.widen (k := 0) (n := 0) (Nat.le_refl _) (Nat.le_refl _) ?_
  refine lv_aload_n hx hb dX4_gladWithout_4 rfl (lv_at hl 0 rfl) ?_
  refine lv_iload_n hx hb dX4_gladWithout_5 rfl (lv_at hl 1 rfl) ?_
  refine cV_v (As := [.int n]) (rest := []) ⟨hx, hb, hml, hown, hts⟩ (c_X4_loseTrial l D cI cZ cM h0 n ype ytk ywi yki yse yno yrh yrw yrk yrt yrp yrq ytx yle yat yfa yby ylo yhi yac ynx yro ygl ysn yso ysp ysw ysd yik ykp Gno_1 _ (show 0 ≤ ytk.toInt ∧ ytk.toInt ≤ 6 by omega)) (cwV 1 hts gX4_gladWithout_X4_loseTrial rfl rfl rfl (by decide +kernel) ⟨by rw [hR]; decide, by rw [hR]; decide⟩) hK hP hD hS hA [0, 1] [2, 3, 4, 5, 6] rfl rfl (by decide) (by decide) (by decide) rfl 0 rfl hl.1 rfl rfl (Nat.le_of_ble_eq_true rfl) dX4_gladWithout_6 ⟨by rw [hR]; decide, by rw [hR]; decide⟩ (fun u_6 H locs hw hP hD hS => ?_)
  obtain ⟨Gno_4, rfl⟩ : ∃ z, z = u_6 := ⟨_, rfl⟩
  have hP : va_P D vwCl [(h0, .inr (4, [.int ype, .int ytk, .ref ywi, .ref yki, .ref yse, .ref yno, .ref yrh, .ref yrw, .ref yrk, .ref yrt, .int yrp, .int yrq, .ref ytx, .int yle, .int yat, .int yfa, .ref yby, .ref ylo, .ref yhi, .int yac, .int ynx, .ref yro, .ref ygl, .int ysn, .ref yso, .ref ysp, .ref ysw, .long ysd, .ref yik, .ref ykp])), (yno, .inl (cI, 96, .inl Gno_4)), (yki, .inl (cI, 5, .inl Fki)), (yby, .inl (cI, 5, .inl Fby)), (ylo, .inl (cI, 5, .inl Flo)), (yhi, .inl (cI, 5, .inl Fhi)), (ywi, .inl (cI, 5, .inl Fwi))] H := hP.sub [5, 6, 0, 1, 2, 3, 4] rfl
  have hD : va_D A [(h0, .inr (4, [.int ype, .int ytk, .ref ywi, .ref yki, .ref yse, .ref yno, .ref yrh, .ref yrw, .ref yrk, .ref yrt, .int yrp, .int yrq, .ref ytx, .int yle, .int yat, .int yfa, .ref yby, .ref ylo, .ref yhi, .int yac, .int ynx, .ref yro, .ref ygl, .int ysn, .ref yso, .ref ysp, .ref ysw, .long ysd, .ref yik, .ref ykp])), (yno, .inl (cI, 96, .inl Gno_4)), (yki, .inl (cI, 5, .inl Fki)), (yby, .inl (cI, 5, .inl Fby)), (ylo, .inl (cI, 5, .inl Flo)), (yhi, .inl (cI, 5, .inl Fhi)), (ywi, .inl (cI, 5, .inl Fwi))] := hD.sub [5, 6, 0, 1, 2, 3, 4] (by decide) rfl
  refine W.widen (k := 0) (n := 0) (Nat.le_refl _) (Nat.le_refl _) ?_
  refine lv_aload_n hx hb dX4_gladWithout_9 rfl (lv_at hl 0 rfl) ?_
  refine lv_aload_n hx hb dX4_gladWithout_10 rfl (lv_at hl 0 rfl) ?_
  refine va_get (D := D) (ci := 4) (v := .int ytk) (C := RX4) (T := TX4) (N := 30) hx hb hts iX4 hown hK hP 0 rfl rfl 1 (by decide) (hts (.fieldLink RX4 101 "PunchedTicketModel" "tickets" "I") (List.mem_of_getElem? (i := 1) rfl)) (fun _ h9 => h9) rfl dX4_gladWithout_11 ?_
  refine cV_i (As := [.int ytk]) (rest := []) ⟨hx, hb, hml, hown, hts⟩ (c_X4_passAll l D cI cZ cM h0 ytk ype ytk ywi yki yse yno yrh yrw yrk yrt yrp yrq ytx yle yat yfa yby ylo yhi yac ynx yro ygl ysn yso ysp ysw ysd yik ykp Gno_4 Fki Fby Flo Fhi _ hBy (show 0 ≤ ytk.toInt ∧ ytk.toInt ≤ 7 by omega) (show 0 ≤ ype.toInt ∧ ype.toInt ≤ 5 by omega)) (cwV 1 hts gX4_gladWithout_X4_passAll rfl rfl rfl (by decide +kernel) ⟨by rw [hR]; decide, by rw [hR]; decide⟩) hK hP hD hS hA [0, 1, 2, 3, 4, 5] [6] rfl rfl (by decide) (by decide) (by decide) rfl 0 rfl hl.1 rfl rfl (Nat.le_of_ble_eq_true rfl) dX4_gladWithout_14 ⟨by rw [hR]; decide, by rw [hR]; decide⟩ (fun r_11 u_12 H locs hw hP hD hS => ?_)
  obtain ⟨Gno_7, Gby_8, Glo_9, Ghi_10⟩ := u_12
  have hP : va_P D vwCl [(h0, .inr (4, [.int ype, .int ytk, .ref ywi, .ref yki, .ref yse, .ref yno, .ref yrh, .ref yrw, .ref yrk, .ref yrt, .int yrp, .int yrq, .ref ytx, .int yle, .int yat, .int yfa, .ref yby, .ref ylo, .ref yhi, .int yac, .int ynx, .ref yro, .ref ygl, .int ysn, .ref yso, .ref ysp, .ref ysw, .long ysd, .ref yik, .ref ykp])), (yno, .inl (cI, 96, .inl Gno_7)), (yki, .inl (cI, 5, .inl Fki)), (yby, .inl (cI, 5, .inl Gby_8)), (ylo, .inl (cI, 5, .inl Glo_9)), (yhi, .inl (cI, 5, .inl Ghi_10)), (ywi, .inl (cI, 5, .inl Fwi))] H := hP.sub [1, 2, 3, 4, 5, 6, 0] rfl
  have hD : va_D A [(h0, .inr (4, [.int ype, .int ytk, .ref ywi, .ref yki, .ref yse, .ref yno, .ref yrh, .ref yrw, .ref yrk, .ref yrt, .int yrp, .int yrq, .ref ytx, .int yle, .int yat, .int yfa, .ref yby, .ref ylo, .ref yhi, .int yac, .int ynx, .ref yro, .ref ygl, .int ysn, .ref yso, .ref ysp, .ref ysw, .long ysd, .ref yik, .ref ykp])), (yno, .inl (cI, 96, .inl Gno_7)), (yki, .inl (cI, 5, .inl Fki)), (yby, .inl (cI, 5, .inl Gby_8)), (ylo, .inl (cI, 5, .inl Glo_9)), (yhi, .inl (cI, 5, .inl Ghi_10)), (ywi, .inl (cI, 5, .inl Fwi))] := hD.sub [1, 2, 3, 4, 5, 6, 0] (by decide) rfl
  refine W.widen (k := 0) (n := 0) (Nat.le_refl _) (Nat.le_refl _) ?_
  have hw : ByOk Gby_8 := hw
  have hw_13 := hw
  have PBY := hw_13
  refine lv_pop hx hb dX4_gladWithout_17 rfl ?_
  refine lv_aload_n hx hb dX4_gladWithout_18 rfl (lv_at hl 0 rfl) ?_
  refine cV_i (As := []) (rest := []) ⟨hx, hb, hml, hown, hts⟩ (c_X4_gladOf l D cI cZ cM h0 ype ytk ywi yki yse yno yrh yrw yrk yrt yrp yrq ytx yle yat yfa yby ylo yhi yac ynx yro ygl ysn yso ysp ysw ysd yik ykp Gno_7 Fwi _ (show 0 ≤ ype.toInt ∧ ype.toInt ≤ 5 by omega)) (cwV 0 hts gX4_gladWithout_X4_gladOf rfl rfl rfl (by decide +kernel) ⟨by rw [hR]; decide, by rw [hR]; decide⟩) hK hP hD hS hA [0, 1, 6] [2, 3, 4, 5] rfl rfl (by decide) (by decide) (by decide) rfl 0 rfl hl.1 rfl rfl (Nat.le_of_ble_eq_true rfl) dX4_gladWithout_19 ⟨by rw [hR]; decide, by rw [hR]; decide⟩ (fun r_14 u_15 H locs hw hP hD hS => ?_)
  have hP : va_P D vwCl [(h0, .inr (4, [.int ype, .int ytk, .ref ywi, .ref yki, .ref yse, .ref yno, .ref yrh, .ref yrw, .ref yrk, .ref yrt, .int yrp, .int yrq, .ref ytx, .int yle, .int yat, .int yfa, .ref yby, .ref ylo, .ref yhi, .int yac, .int ynx, .ref yro, .ref ygl, .int ysn, .ref yso, .ref ysp, .ref ysw, .long ysd, .ref yik, .ref ykp])), (yno, .inl (cI, 96, .inl Gno_7)), (yki, .inl (cI, 5, .inl Fki)), (yby, .inl (cI, 5, .inl Gby_8)), (ylo, .inl (cI, 5, .inl Glo_9)), (yhi, .inl (cI, 5, .inl Ghi_10)), (ywi, .inl (cI, 5, .inl Fwi))] H := hP.sub [4, 5, 0, 1, 2, 3, 6] rfl
  have hD : va_D A [(h0, .inr (4, [.int ype, .int ytk, .ref ywi, .ref yki, .ref yse, .ref yno, .ref yrh, .ref yrw, .ref yrk, .ref yrt, .int yrp, .int yrq, .ref ytx, .int yle, .int yat, .int yfa, .ref yby, .ref ylo, .ref yhi, .int yac, .int ynx, .ref yro, .ref ygl, .int ysn, .ref yso, .ref ysp, .ref ysw, .long ysd, .ref yik, .ref ykp])), (yno, .inl (cI, 96, .inl Gno_7)), (yki, .inl (cI, 5, .inl Fki)), (yby, .inl (cI, 5, .inl Gby_8)), (ylo, .inl (cI, 5, .inl Glo_9)), (yhi, .inl (cI, 5, .inl Ghi_10)), (ywi, .inl (cI, 5, .inl Fwi))] := hD.sub [4, 5, 0, 1, 2, 3, 6] (by decide) rfl
  refine W.widen (k := 0) (n := 0) (Nat.le_refl _) (Nat.le_refl _) ?_
  exact ret_i (post := (fun (r : Int32) (u : (Nat → Int32) × (Nat → Int32) × (Nat → Int32) × (Nat → Int32)) => ByOk u.2.1)) (W1 := (fun u => [(h0, .inr (4, [.int ype, .int ytk, .ref ywi, .ref yki, .ref yse, .ref yno, .ref yrh, .ref yrw, .ref yrk, .ref yrt, .int yrp, .int yrq, .ref ytx, .int yle, .int yat, .int yfa, .ref yby, .ref ylo, .ref yhi, .int yac, .int ynx, .ref yro, .ref ygl, .int ysn, .ref yso, .ref ysp, .ref ysw, .long ysd, .ref yik, .ref ykp])), (yno, .inl (cI, 96, .inl u.1)), (yki, .inl (cI, 5, .inl Fki)), (yby, .inl (cI, 5, .inl u.2.1)), (ylo, .inl (cI, 5, .inl u.2.2.1)), (yhi, .inl (cI, 5, .inl u.2.2.2)), (ywi, .inl (cI, 5, .inl Fwi))])) (Gno_7, Gby_8, Glo_9, Ghi_10) hx hb hr hlocks rfl hQ hK hP hD hS ⟨by decide, by decide⟩ dX4_gladWithout_22 PBY

set_option maxHeartbeats 600000 in
set_option maxRecDepth 100000 in
theorem c_X4_glad (l : Launch) (D : va_G) (cI cZ cM : ClassId) (h0 : Nat) (ype : Int32) (ytk : Int32) (ywi : Nat) (yki : Nat) (yse : Nat) (yno : Nat) (yrh : Nat) (yrw : Nat) (yrk : Nat) (yrt : Nat) (yrp : Int32) (yrq : Int32) (ytx : Nat) (yle : Int32) (yat : Int32) (yfa : Int32) (yby : Nat) (ylo : Nat) (yhi : Nat) (yac : Int32) (ynx : Int32) (yro : Nat) (ygl : Nat) (ysn : Int32) (yso : Nat) (ysp : Nat) (ysw : Nat) (ysd : Int64) (yik : Nat) (ykp : Nat) (Fno : Nat → Int32) (Fki : Nat → Int32) (Fby : Nat → Int32) (Flo : Nat → Int32) (Fhi : Nat → Int32) (Fwi : Nat → Int32) (sz : Nat) (hBy : ByOk Fby) (h_ype : 0 ≤ ype.toInt ∧ ype.toInt ≤ 5) (h_ytk : 0 ≤ ytk.toInt ∧ ytk.toInt ≤ 6) : Ci l yX4_glad wsX4_glad ({ frames := 4, cells := 0, slots := 0, locals := 99 } : Room) D cI cZ cM [.ref h0] [(h0, .inr (4, [.int ype, .int ytk, .ref ywi, .ref yki, .ref yse, .ref yno, .ref yrh, .ref yrw, .ref yrk, .ref yrt, .int yrp, .int yrq, .ref ytx, .int yle, .int yat, .int yfa, .ref yby, .ref ylo, .ref yhi, .int yac, .int ynx, .ref yro, .ref ygl, .int ysn, .ref yso, .ref ysp, .ref ysw, .long ysd, .ref yik, .ref ykp])), (yno, .inl (cI, 96, .inl Fno)), (yki, .inl (cI, 5, .inl Fki)), (yby, .inl (cI, 5, .inl Fby)), (ylo, .inl (cI, 5, .inl Flo)), (yhi, .inl (cI, 5, .inl Fhi)), (ywi, .inl (cI, 5, .inl Fwi))] sz (fun (r : Int32) (u : (Nat → Int32) × (Nat → Int32) × (Nat → Int32) × (Nat → Int32)) => ByOk u.2.1) (fun u => [(h0, .inr (4, [.int ype, .int ytk, .ref ywi, .ref yki, .ref yse, .ref yno, .ref yrh, .ref yrw, .ref yrk, .ref yrt, .int yrp, .int yrq, .ref ytx, .int yle, .int yat, .int yfa, .ref yby, .ref ylo, .ref yhi, .int yac, .int ynx, .ref yro, .ref ygl, .int ysn, .ref yso, .ref ysp, .ref ysw, .long ysd, .ref yik, .ref ykp])), (yno, .inl (cI, 96, .inl u.1)), (yki, .inl (cI, 5, .inl Fki)), (yby, .inl (cI, 5, .inl u.2.1)), (ylo, .inl (cI, 5, .inl u.2.2.1)), (yhi, .inl (cI, 5, .inl u.2.2.2)), (ywi, .inl (cI, 5, .inl Fwi))]) 0 0 := by
  refine begins (l := l) (y := yX4_glad) (ws := wsX4_glad) (av := [.ref h0]) (Qc := fun A => va_Qi (fun (r : Int32) (u : (Nat → Int32) × (Nat → Int32) × (Nat → Int32) × (Nat → Int32)) => ByOk u.2.1) (fun u => Wd D cI cZ cM A ((fun u => [(h0, .inr (4, [.int ype, .int ytk, .ref ywi, .ref yki, .ref yse, .ref yno, .ref yrh, .ref yrw, .ref yrk, .ref yrt, .int yrp, .int yrq, .ref ytx, .int yle, .int yat, .int yfa, .ref yby, .ref ylo, .ref yhi, .int yac, .int ynx, .ref yro, .ref ygl, .int ysn, .ref yso, .ref ysp, .ref ysw, .long ysd, .ref yik, .ref ykp])), (yno, .inl (cI, 96, .inl u.1)), (yki, .inl (cI, 5, .inl Fki)), (yby, .inl (cI, 5, .inl u.2.1)), (ylo, .inl (cI, 5, .inl u.2.2.1)), (yhi, .inl (cI, 5, .inl u.2.2.2)), (ywi, .inl (cI, 5, .inl Fwi))]) u)) A) cX4_glad 1 (some .int) (by decide) rfl (Nat.le_of_ble_eq_true rfl) ?_
  intro p e s m args below meth c R Q A ls hBd hR hQ hA hS hK hP hD hl
  obtain ⟨hx, hb, hr, hts, hown, hlocks, hin, hml⟩ := hBd
  have hl : lv_has ls 1 [(0, .ref h0)] := hl
  have iX4 : ∀ w ∈ wsX40, w ∈ wsX4_glad := fun _ h => List.mem_cons_of_mem _ (List.mem_append_right _ h)
  obtain ⟨h_ypea, h_ypeb⟩ := h_ype
  obtain ⟨h_ytka, h_ytkb⟩ := h_ytk
  refine lv_aload_n hx hb dX4_glad_0 rfl (lv_at hl 0 rfl) ?_
  refine lv_iconst (v := 0) hx hb dX4_glad_1 (by decide) ?_
  refine cV_i (As := [.int 0]) (rest := []) ⟨hx, hb, hml, hown, hts⟩ (c_X4_gladWithout l D cI cZ cM h0 0 ype ytk ywi yki yse yno yrh yrw yrk yrt yrp yrq ytx yle yat yfa yby ylo yhi yac ynx yro ygl ysn yso ysp ysw ysd yik ykp Fno Fki Fby Flo Fhi Fwi _ hBy (show 0 ≤ ype.toInt ∧ ype.toInt ≤ 5 by omega) (show 0 ≤ ytk.toInt ∧ ytk.toInt ≤ 6 by omega)) (cwV 1 hts gX4_glad_X4_gladWithout rfl rfl rfl (by decide +kernel) ⟨by rw [hR]; decide, by rw [hR]; decide⟩) hK hP hD hS hA [0, 1, 2, 3, 4, 5, 6] [] rfl rfl (by decide) (by decide) (by decide) rfl 0 rfl hl.1 rfl rfl (Nat.le_of_ble_eq_true rfl) dX4_glad_2 ⟨by rw [hR]; decide, by rw [hR]; decide⟩ (fun r_5 u_6 H locs hw hP hD hS => ?_)
  obtain ⟨Gno_1, Gby_2, Glo_3, Ghi_4⟩ := u_6
  have hP : va_P D vwCl [(h0, .inr (4, [.int ype, .int ytk, .ref ywi, .ref yki, .ref yse, .ref yno, .ref yrh, .ref yrw, .ref yrk, .ref yrt, .int yrp, .int yrq, .ref ytx, .int yle, .int yat, .int yfa, .ref yby, .ref ylo, .ref yhi, .int yac, .int ynx, .ref yro, .ref ygl, .int ysn, .ref yso, .ref ysp, .ref ysw, .long ysd, .ref yik, .ref ykp])), (yno, .inl (cI, 96, .inl Gno_1)), (yki, .inl (cI, 5, .inl Fki)), (yby, .inl (cI, 5, .inl Gby_2)), (ylo, .inl (cI, 5, .inl Glo_3)), (yhi, .inl (cI, 5, .inl Ghi_4)), (ywi, .inl (cI, 5, .inl Fwi))] H := hP.sub [0, 1, 2, 3, 4, 5, 6] rfl
  have hD : va_D A [(h0, .inr (4, [.int ype, .int ytk, .ref ywi, .ref yki, .ref yse, .ref yno, .ref yrh, .ref yrw, .ref yrk, .ref yrt, .int yrp, .int yrq, .ref ytx, .int yle, .int yat, .int yfa, .ref yby, .ref ylo, .ref yhi, .int yac, .int ynx, .ref yro, .ref ygl, .int ysn, .ref yso, .ref ysp, .ref ysw, .long ysd, .ref yik, .ref ykp])), (yno, .inl (cI, 96, .inl Gno_1)), (yki, .inl (cI, 5, .inl Fki)), (yby, .inl (cI, 5, .inl Gby_2)), (ylo, .inl (cI, 5, .inl Glo_3)), (yhi, .inl (cI, 5, .inl Ghi_4)), (ywi, .inl (cI, 5, .inl Fwi))] := hD.sub [0, 1, 2, 3, 4, 5, 6] (by decide) rfl
  refine W.widen (k := 0) (n := 0) (Nat.le_refl _) (Nat.le_refl _) ?_
  have hw : ByOk Gby_2 := hw
  have hw_7 := hw
  have PBY := hw_7
  exact ret_i (post := (fun (r : Int32) (u : (Nat → Int32) × (Nat → Int32) × (Nat → Int32) × (Nat → Int32)) => ByOk u.2.1)) (W1 := (fun u => [(h0, .inr (4, [.int ype, .int ytk, .ref ywi, .ref yki, .ref yse, .ref yno, .ref yrh, .ref yrw, .ref yrk, .ref yrt, .int yrp, .int yrq, .ref ytx, .int yle, .int yat, .int yfa, .ref yby, .ref ylo, .ref yhi, .int yac, .int ynx, .ref yro, .ref ygl, .int ysn, .ref yso, .ref ysp, .ref ysw, .long ysd, .ref yik, .ref ykp])), (yno, .inl (cI, 96, .inl u.1)), (yki, .inl (cI, 5, .inl Fki)), (yby, .inl (cI, 5, .inl u.2.1)), (ylo, .inl (cI, 5, .inl u.2.2.1)), (yhi, .inl (cI, 5, .inl u.2.2.2)), (ywi, .inl (cI, 5, .inl Fwi))])) (Gno_1, Gby_2, Glo_3, Ghi_4) hx hb hr hlocks rfl hQ hK hP hD hS ⟨by decide, by decide⟩ dX4_glad_5 PBY
